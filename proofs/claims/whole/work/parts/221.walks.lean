abbrev rm_F_within : Room := { frames := 0, cells := 0, slots := 0, locals := 0 }
set_option maxHeartbeats 4000000 in
set_option maxRecDepth 100000 in
theorem c_F_within (l : Launch) (a0 : Int32) (a1 : Int32) (post : Int32 → Prop) (h : wp_F_within a0 a1 post) : Met l y_F_within (.code y_F_within b_F_within 2 (some .boolean) :: lwG) rm_F_within (sPc [.int a0, .int a1]) (vp_Si post) 0 0 (fun _ => False) := by
  refine Met.ofW (cc := b_F_within) (maxL := 2) (ret := (some .boolean)) (by decide) rfl ?_
  intro p e s m args below meth c s₁ B hml hv
  obtain ⟨rfl, -⟩ := hv
  have xc : xC p s m _ meth c b_F_within 2 lwG qR0 (some .boolean) := ⟨B.exec, B.bytes, hml, findClass_of_methodNamed B.named, fun w h => atoms_spec (ws := (.code y_F_within b_F_within 2 (some .boolean) :: lwG)) B.pre w (List.mem_cons_of_mem _ h), B.returns, B.notSynchronized⟩
  obtain ⟨hx, hb, hml, hown, hts, hr, hlocks⟩ := id xc
  have hl := lv_entry ([.int a0, .int a1]) (n := 2) (Nat.le_of_ble_eq_true rfl)
  rw [lg_entry_eq]
  generalize (lg_sl ([.int a0, .int a1]) ++ List.replicate (2 - (lg_sl ([.int a0, .int a1])).length) Slot.unset).toArray = ls at hl ⊢
  have hl : lv_has ls 2 [(0, .int a0), (1, .int a1)] := hl
  refine lv_iload_n hx hb d_F_within_0 rfl (lv_at hl 0 rfl) ?_
  refine lv_if_lt (tgt := 13) hx hb d_F_within_1 (by decide) (fun c_1 => ?_) (fun c_1 => ?_)
  · replace h := h.1 c_1
    refine lv_iconst (v := 0) hx hb d_F_within_13 (by decide) ?_
    exact W.zret hx hb hr rfl (fun t ht _ => ⟨_, rfl, h, ht⟩) (fun _ h9 => nomatch h9) d_F_within_14
  · replace h := h.2 c_1
    refine lv_iload_n hx hb d_F_within_4 rfl (lv_at hl 0 rfl) ?_
    refine lv_iload_n hx hb d_F_within_5 rfl (lv_at hl 1 rfl) ?_
    refine lv_icmp_ge (tgt := 13) hx hb d_F_within_6 (by decide) (fun c_2 => ?_) (fun c_2 => ?_)
    · replace h := h.1 c_2
      refine lv_iconst (v := 0) hx hb d_F_within_13 (by decide) ?_
      exact W.zret hx hb hr rfl (fun t ht _ => ⟨_, rfl, h, ht⟩) (fun _ h9 => nomatch h9) d_F_within_14
    · replace h := h.2 c_2
      refine lv_iconst (v := 1) hx hb d_F_within_9 (by decide) ?_
      refine lv_goto (tgt := 14) hx hb d_F_within_10 (by decide) ?_
      exact W.zret hx hb hr rfl (fun t ht _ => ⟨_, rfl, h, ht⟩) (fun _ h9 => nomatch h9) d_F_within_14
abbrev rm_F_hasOneInput : Room := { frames := 0, cells := 0, slots := 0, locals := 0 }
set_option maxHeartbeats 4000000 in
set_option maxRecDepth 100000 in
theorem c_F_hasOneInput (l : Launch) (a0 : Int32) (post : Int32 → Prop) (h : wp_F_hasOneInput a0 post) : Met l y_F_hasOneInput (.code y_F_hasOneInput b_F_hasOneInput 1 (some .boolean) :: lwG) rm_F_hasOneInput (sPc [.int a0]) (vp_Si post) 0 0 (fun _ => False) := by
  refine Met.ofW (cc := b_F_hasOneInput) (maxL := 1) (ret := (some .boolean)) (by decide) rfl ?_
  intro p e s m args below meth c s₁ B hml hv
  obtain ⟨rfl, -⟩ := hv
  have xc : xC p s m _ meth c b_F_hasOneInput 1 lwG qR0 (some .boolean) := ⟨B.exec, B.bytes, hml, findClass_of_methodNamed B.named, fun w h => atoms_spec (ws := (.code y_F_hasOneInput b_F_hasOneInput 1 (some .boolean) :: lwG)) B.pre w (List.mem_cons_of_mem _ h), B.returns, B.notSynchronized⟩
  obtain ⟨hx, hb, hml, hown, hts, hr, hlocks⟩ := id xc
  have hl := lv_entry ([.int a0]) (n := 1) (Nat.le_of_ble_eq_true rfl)
  rw [lg_entry_eq]
  generalize (lg_sl ([.int a0]) ++ List.replicate (1 - (lg_sl ([.int a0])).length) Slot.unset).toArray = ls at hl ⊢
  have hl : lv_has ls 1 [(0, .int a0)] := hl
  refine lv_iload_n hx hb d_F_hasOneInput_0 rfl (lv_at hl 0 rfl) ?_
  refine lv_if_eq (tgt := 9) hx hb d_F_hasOneInput_1 (by decide) (fun c_1 => ?_) (fun c_1 => ?_)
  · replace h := h.1 c_1
    refine lv_iconst (v := 1) hx hb d_F_hasOneInput_9 (by decide) ?_
    refine lv_goto (tgt := 14) hx hb d_F_hasOneInput_10 (by decide) ?_
    exact W.zret hx hb hr rfl (fun t ht _ => ⟨_, rfl, h, ht⟩) (fun _ h9 => nomatch h9) d_F_hasOneInput_14
  · replace h := h.2 c_1
    refine lv_iload_n hx hb d_F_hasOneInput_4 rfl (lv_at hl 0 rfl) ?_
    refine lv_iconst (v := 1) hx hb d_F_hasOneInput_5 (by decide) ?_
    refine lv_icmp_ne (tgt := 13) hx hb d_F_hasOneInput_6 (by decide) (fun c_2 => ?_) (fun c_2 => ?_)
    · replace h := h.1 c_2
      refine lv_iconst (v := 0) hx hb d_F_hasOneInput_13 (by decide) ?_
      exact W.zret hx hb hr rfl (fun t ht _ => ⟨_, rfl, h, ht⟩) (fun _ h9 => nomatch h9) d_F_hasOneInput_14
    · replace h := h.2 c_2
      refine lv_iconst (v := 1) hx hb d_F_hasOneInput_9 (by decide) ?_
      refine lv_goto (tgt := 14) hx hb d_F_hasOneInput_10 (by decide) ?_
      exact W.zret hx hb hr rfl (fun t ht _ => ⟨_, rfl, h, ht⟩) (fun _ h9 => nomatch h9) d_F_hasOneInput_14
abbrev rm_F_pinsOfKind : Room := { frames := 1, cells := 0, slots := 0, locals := 20 }
set_option maxHeartbeats 4000000 in
set_option maxRecDepth 100000 in
theorem c_F_pinsOfKind (l : Launch) (a0 : Int32) (post : Int32 → Prop) (h : wp_F_pinsOfKind a0 post) : Met l y_F_pinsOfKind (.code y_F_pinsOfKind b_F_pinsOfKind 1 (some .int) :: lwG) rm_F_pinsOfKind (sPc [.int a0]) (vp_Si post) 0 0 (fun _ => False) := by
  refine Met.ofW (cc := b_F_pinsOfKind) (maxL := 1) (ret := (some .int)) (by decide) rfl ?_
  intro p e s m args below meth c s₁ B hml hv
  obtain ⟨rfl, -⟩ := hv
  have xc : xC p s m _ meth c b_F_pinsOfKind 1 lwG qR0 (some .int) := ⟨B.exec, B.bytes, hml, findClass_of_methodNamed B.named, fun w h => atoms_spec (ws := (.code y_F_pinsOfKind b_F_pinsOfKind 1 (some .int) :: lwG)) B.pre w (List.mem_cons_of_mem _ h), B.returns, B.notSynchronized⟩
  obtain ⟨hx, hb, hml, hown, hts, hr, hlocks⟩ := id xc
  have hl := lv_entry ([.int a0]) (n := 1) (Nat.le_of_ble_eq_true rfl)
  rw [lg_entry_eq]
  generalize (lg_sl ([.int a0]) ++ List.replicate (1 - (lg_sl ([.int a0])).length) Slot.unset).toArray = ls at hl ⊢
  have hl : lv_has ls 1 [(0, .int a0)] := hl
  refine lv_iload_n hx hb d_F_pinsOfKind_0 rfl (lv_at hl 0 rfl) ?_
  refine vp_callSi (va_runS (As := [.int a0]) (rest := []) ⟨hx, hb, hml, hown, hts⟩ (c_F_hasOneInput l a0 _ h) (va_cwS 1 hts (gS wG322 wG323 wG48 wG324) rfl rfl rfl (by decide +kernel) ⟨Nat.le_of_ble_eq_true rfl, Nat.le_of_ble_eq_true rfl⟩) ⟨sPc_blind _, fun U hU hW => ⟨rfl, trivial⟩⟩ rfl rfl hl.1 rfl (lv_room (Nat.le_of_ble_eq_true rfl)) d_F_pinsOfKind_1 ⟨Nat.le_of_ble_eq_true rfl, Nat.le_of_ble_eq_true rfl⟩).run (fun r_1 h => ?_)
  refine lv_if_eq (tgt := 11) hx hb d_F_pinsOfKind_4 (by decide) (fun c_2 => ?_) (fun c_2 => ?_)
  · replace h := h.1 c_2
    refine lv_iconst (v := 3) hx hb d_F_pinsOfKind_11 (by decide) ?_
    exact W.iret hx hb hr (fun t ht _ => ⟨_, rfl, h, ht⟩) (fun _ h9 => nomatch h9) d_F_pinsOfKind_12
  · replace h := h.2 c_2
    refine lv_iconst (v := 2) hx hb d_F_pinsOfKind_7 (by decide) ?_
    refine lv_goto (tgt := 12) hx hb d_F_pinsOfKind_8 (by decide) ?_
    exact W.iret hx hb hr (fun t ht _ => ⟨_, rfl, h, ht⟩) (fun _ h9 => nomatch h9) d_F_pinsOfKind_12
abbrev rm_N_hasRoom : Room := { frames := 2, cells := 0, slots := 0, locals := 40 }
set_option maxHeartbeats 4000000 in
set_option maxRecDepth 100000 in
theorem c_N_hasRoom (l : Launch) (L : cL) (a1 : Int32) (a2 : Int32) (I : MI) (F : MF) (G : MG) (post : Int32 → Prop) (h : wp_N_hasRoom a1 a2 I F G post) : Met l y_N_hasRoom (.code y_N_hasRoom b_N_hasRoom 3 (some .boolean) :: lwG) rm_N_hasRoom (cPc L I F G [.ref (cA L 1), .int a1, .int a2]) (vp_Si post) 0 0 (fun _ => False) := by
  refine Met.ofW (cc := b_N_hasRoom) (maxL := 3) (ret := (some .boolean)) (by decide) rfl ?_
  intro p e s m args below meth c s₁ B hml hv
  obtain ⟨rfl, hP, hK, hN⟩ := hv
  have xc : xC p s m _ meth c b_N_hasRoom 3 lwG qR1 (some .boolean) := ⟨B.exec, B.bytes, hml, findClass_of_methodNamed B.named, fun w h => atoms_spec (ws := (.code y_N_hasRoom b_N_hasRoom 3 (some .boolean) :: lwG)) B.pre w (List.mem_cons_of_mem _ h), B.returns, B.notSynchronized⟩
  obtain ⟨hx, hb, hml, hown, hts, hr, hlocks⟩ := id xc
  have hl := lv_entry ([.ref (cA L 1), .int a1, .int a2]) (n := 3) (Nat.le_of_ble_eq_true rfl)
  rw [lg_entry_eq]
  generalize (lg_sl ([.ref (cA L 1), .int a1, .int a2]) ++ List.replicate (3 - (lg_sl ([.ref (cA L 1), .int a1, .int a2])).length) Slot.unset).toArray = ls at hl ⊢
  have hl : lv_has ls 3 [(0, .ref (cA L 1)), (1, .int a1), (2, .int a2)] := hl
  refine lv_aload_n hx hb d_N_hasRoom_0 rfl (lv_at hl 0 rfl) ?_
  refine va_get (D := L.1) (ci := 1) (v := .int (I 1)) (C := qR1) (T := qT1) (N := 13) hx hb hts qi1 hown hK hP 1 rfl rfl 0 (by decide) (hts _ wG88) (fun _ h9 => h9) rfl d_N_hasRoom_1 ?_
  refine lv_bipush (v := 12) hx hb d_N_hasRoom_4 (by decide) ?_
  refine lv_icmp_ge (tgt := 29) hx hb d_N_hasRoom_6 (by decide) (fun c_1 => ?_) (fun c_1 => ?_)
  · replace h := h.1 c_1
    refine lv_iconst (v := 0) hx hb d_N_hasRoom_29 (by decide) ?_
    exact W.zret hx hb hr rfl (fun t ht _ => ⟨_, rfl, h, ht⟩) (fun _ h9 => nomatch h9) d_N_hasRoom_30
  · replace h := h.2 c_1
    refine lv_aload_n hx hb d_N_hasRoom_9 rfl (lv_at hl 0 rfl) ?_
    refine va_get (D := L.1) (ci := 1) (v := .ref (cA L 16)) (C := qR1) (T := qT1) (N := 13) hx hb hts qi1 hown hK hP 1 rfl rfl 7 (by decide) (hts _ wG102) (fun _ h9 => h9) rfl d_N_hasRoom_10 ?_
    refine lv_iload_n hx hb d_N_hasRoom_13 rfl (lv_at hl 2 rfl) ?_
    obtain ⟨hi_2, h⟩ := h
    refine c_iald hx hb hK hP 6 (by decide) rfl hi_2 d_N_hasRoom_14 ?_
    refine lv_iload_n hx hb d_N_hasRoom_15 rfl (lv_at hl 1 rfl) ?_
    refine vp_callSi (va_runSN (As := [.int a1]) (rest := [.int (F 6 a2.toNatClampNeg)]) ⟨hx, hb, hml, hown, hts⟩ (c_F_pinsOfKind l a1 _ h) ⟨va_cnB 1 hts (gC wG332) rfl rfl rfl (hN.1) (hts _ wG48) (by decide +kernel) ⟨Nat.le_of_ble_eq_true rfl, Nat.le_of_ble_eq_true rfl⟩, hts _ wG331, trivial⟩ ⟨sPc_blind _, fun U hU hW => ⟨rfl, trivial⟩⟩ rfl rfl hl.1 rfl (lv_room (Nat.le_of_ble_eq_true rfl)) d_N_hasRoom_16 ⟨Nat.le_of_ble_eq_true rfl, Nat.le_of_ble_eq_true rfl⟩).run (fun r_3 h => ?_)
    refine lv_iadd hx hb d_N_hasRoom_19 ?_
    refine lv_bipush (v := 24) hx hb d_N_hasRoom_20 (by decide) ?_
    refine lv_icmp_gt (tgt := 29) hx hb d_N_hasRoom_22 (by decide) (fun c_4 => ?_) (fun c_4 => ?_)
    · replace h := h.1 c_4
      refine lv_iconst (v := 0) hx hb d_N_hasRoom_29 (by decide) ?_
      exact W.zret hx hb hr rfl (fun t ht _ => ⟨_, rfl, h, ht⟩) (fun _ h9 => nomatch h9) d_N_hasRoom_30
    · replace h := h.2 c_4
      refine lv_iconst (v := 1) hx hb d_N_hasRoom_25 (by decide) ?_
      refine lv_goto (tgt := 30) hx hb d_N_hasRoom_26 (by decide) ?_
      exact W.zret hx hb hr rfl (fun t ht _ => ⟨_, rfl, h, ht⟩) (fun _ h9 => nomatch h9) d_N_hasRoom_30
abbrev rm_N_isDriven : Room := { frames := 0, cells := 0, slots := 0, locals := 0 }
set_option maxHeartbeats 4000000 in
set_option maxRecDepth 100000 in
theorem c_N_isDriven (l : Launch) (L : cL) (a1 : Int32) (I : MI) (F : MF) (G : MG) (post : Int32 → Prop) (h : wp_N_isDriven a1 I F G post) : Met l y_N_isDriven (.code y_N_isDriven b_N_isDriven 2 (some .boolean) :: lwG) rm_N_isDriven (cPc L I F G [.ref (cA L 1), .int a1]) (vp_Si post) 0 0 (fun _ => False) := by
  refine Met.ofW (cc := b_N_isDriven) (maxL := 2) (ret := (some .boolean)) (by decide) rfl ?_
  intro p e s m args below meth c s₁ B hml hv
  obtain ⟨rfl, hP, hK, hN⟩ := hv
  have xc : xC p s m _ meth c b_N_isDriven 2 lwG qR1 (some .boolean) := ⟨B.exec, B.bytes, hml, findClass_of_methodNamed B.named, fun w h => atoms_spec (ws := (.code y_N_isDriven b_N_isDriven 2 (some .boolean) :: lwG)) B.pre w (List.mem_cons_of_mem _ h), B.returns, B.notSynchronized⟩
  obtain ⟨hx, hb, hml, hown, hts, hr, hlocks⟩ := id xc
  have hl := lv_entry ([.ref (cA L 1), .int a1]) (n := 2) (Nat.le_of_ble_eq_true rfl)
  rw [lg_entry_eq]
  generalize (lg_sl ([.ref (cA L 1), .int a1]) ++ List.replicate (2 - (lg_sl ([.ref (cA L 1), .int a1])).length) Slot.unset).toArray = ls at hl ⊢
  have hl : lv_has ls 2 [(0, .ref (cA L 1)), (1, .int a1)] := hl
  refine lv_aload_n hx hb d_N_isDriven_0 rfl (lv_at hl 0 rfl) ?_
  refine va_get (D := L.1) (ci := 1) (v := .ref (cA L 19)) (C := qR1) (T := qT1) (N := 13) hx hb hts qi1 hown hK hP 1 rfl rfl 12 (by decide) (hts _ wG109) (fun _ h9 => h9) rfl d_N_isDriven_1 ?_
  refine lv_iload_n hx hb d_N_isDriven_4 rfl (lv_at hl 1 rfl) ?_
  obtain ⟨hi_1, h⟩ := h
  refine c_iald hx hb hK hP 9 (by decide) rfl hi_1 d_N_isDriven_5 ?_
  refine lv_iconst (v := (-1)) hx hb d_N_isDriven_6 (by decide) ?_
  refine lv_icmp_eq (tgt := 14) hx hb d_N_isDriven_7 (by decide) (fun c_2 => ?_) (fun c_2 => ?_)
  · replace h := h.1 c_2
    refine lv_iconst (v := 0) hx hb d_N_isDriven_14 (by decide) ?_
    exact W.zret hx hb hr rfl (fun t ht _ => ⟨_, rfl, h, ht⟩) (fun _ h9 => nomatch h9) d_N_isDriven_15
  · replace h := h.2 c_2
    refine lv_iconst (v := 1) hx hb d_N_isDriven_10 (by decide) ?_
    refine lv_goto (tgt := 15) hx hb d_N_isDriven_11 (by decide) ?_
    exact W.zret hx hb hr rfl (fun t ht _ => ⟨_, rfl, h, ht⟩) (fun _ h9 => nomatch h9) d_N_isDriven_15
abbrev rm_N_pins : Room := { frames := 0, cells := 0, slots := 0, locals := 0 }
set_option maxHeartbeats 4000000 in
set_option maxRecDepth 100000 in
theorem c_N_pins (l : Launch) (L : cL) (a1 : Int32) (I : MI) (F : MF) (G : MG) (post : Int32 → Prop) (h : wp_N_pins a1 I F G post) : Met l y_N_pins (.code y_N_pins b_N_pins 2 (some .int) :: lwG) rm_N_pins (cPc L I F G [.ref (cA L 1), .int a1]) (vp_Si post) 0 0 (fun _ => False) := by
  refine Met.ofW (cc := b_N_pins) (maxL := 2) (ret := (some .int)) (by decide) rfl ?_
  intro p e s m args below meth c s₁ B hml hv
  obtain ⟨rfl, hP, hK, hN⟩ := hv
  have xc : xC p s m _ meth c b_N_pins 2 lwG qR1 (some .int) := ⟨B.exec, B.bytes, hml, findClass_of_methodNamed B.named, fun w h => atoms_spec (ws := (.code y_N_pins b_N_pins 2 (some .int) :: lwG)) B.pre w (List.mem_cons_of_mem _ h), B.returns, B.notSynchronized⟩
  obtain ⟨hx, hb, hml, hown, hts, hr, hlocks⟩ := id xc
  have hl := lv_entry ([.ref (cA L 1), .int a1]) (n := 2) (Nat.le_of_ble_eq_true rfl)
  rw [lg_entry_eq]
  generalize (lg_sl ([.ref (cA L 1), .int a1]) ++ List.replicate (2 - (lg_sl ([.ref (cA L 1), .int a1])).length) Slot.unset).toArray = ls at hl ⊢
  have hl : lv_has ls 2 [(0, .ref (cA L 1)), (1, .int a1)] := hl
  refine lv_aload_n hx hb d_N_pins_0 rfl (lv_at hl 0 rfl) ?_
  refine va_get (D := L.1) (ci := 1) (v := .ref (cA L 6)) (C := qR1) (T := qT1) (N := 13) hx hb hts qi1 hown hK hP 1 rfl rfl 9 (by decide) (hts _ wG105) (fun _ h9 => h9) rfl d_N_pins_1 ?_
  refine lv_iconst (v := 0) hx hb d_N_pins_4 (by decide) ?_
  obtain ⟨hi_1, h⟩ := h
  refine c_row6 hx hb hK hP hi_1 d_N_pins_5 ?_
  refine lv_iload_n hx hb d_N_pins_6 rfl (lv_at hl 1 rfl) ?_
  obtain ⟨hi_2, h⟩ := h
  refine c_iald hx hb hK hP (17 + (0 : Int32).toNatClampNeg) (row_lt17 hi_1) (row_len17 hi_1) hi_2 d_N_pins_7 ?_
  refine lv_aload_n hx hb d_N_pins_8 rfl (lv_at hl 0 rfl) ?_
  refine va_get (D := L.1) (ci := 1) (v := .ref (cA L 6)) (C := qR1) (T := qT1) (N := 13) hx hb hts qi1 hown hK hP 1 rfl rfl 9 (by decide) (hts _ wG105) (fun _ h9 => h9) rfl d_N_pins_9 ?_
  refine lv_iconst (v := 1) hx hb d_N_pins_12 (by decide) ?_
  obtain ⟨hi_3, h⟩ := h
  refine c_row6 hx hb hK hP hi_3 d_N_pins_13 ?_
  refine lv_iload_n hx hb d_N_pins_14 rfl (lv_at hl 1 rfl) ?_
  obtain ⟨hi_4, h⟩ := h
  refine c_iald hx hb hK hP (17 + (1 : Int32).toNatClampNeg) (row_lt17 hi_3) (row_len17 hi_3) hi_4 d_N_pins_15 ?_
  refine lv_iadd hx hb d_N_pins_16 ?_
  exact W.iret hx hb hr (fun t ht _ => ⟨_, rfl, h, ht⟩) (fun _ h9 => nomatch h9) d_N_pins_17
abbrev rm_N_hasPad : Room := { frames := 1, cells := 0, slots := 0, locals := 21 }
set_option maxHeartbeats 4000000 in
set_option maxRecDepth 100000 in
theorem c_N_hasPad (l : Launch) (L : cL) (a1 : Int32) (I : MI) (F : MF) (G : MG) (post : Int32 → Prop) (h : wp_N_hasPad a1 I F G post) : Met l y_N_hasPad (.code y_N_hasPad b_N_hasPad 2 (some .boolean) :: lwG) rm_N_hasPad (cPc L I F G [.ref (cA L 1), .int a1]) (vp_Si post) 0 0 (fun _ => False) := by
  refine Met.ofW (cc := b_N_hasPad) (maxL := 2) (ret := (some .boolean)) (by decide) rfl ?_
  intro p e s m args below meth c s₁ B hml hv
  obtain ⟨rfl, hP, hK, hN⟩ := hv
  have xc : xC p s m _ meth c b_N_hasPad 2 lwG qR1 (some .boolean) := ⟨B.exec, B.bytes, hml, findClass_of_methodNamed B.named, fun w h => atoms_spec (ws := (.code y_N_hasPad b_N_hasPad 2 (some .boolean) :: lwG)) B.pre w (List.mem_cons_of_mem _ h), B.returns, B.notSynchronized⟩
  obtain ⟨hx, hb, hml, hown, hts, hr, hlocks⟩ := id xc
  have hl := lv_entry ([.ref (cA L 1), .int a1]) (n := 2) (Nat.le_of_ble_eq_true rfl)
  rw [lg_entry_eq]
  generalize (lg_sl ([.ref (cA L 1), .int a1]) ++ List.replicate (2 - (lg_sl ([.ref (cA L 1), .int a1])).length) Slot.unset).toArray = ls at hl ⊢
  have hl : lv_has ls 2 [(0, .ref (cA L 1)), (1, .int a1)] := hl
  refine lv_aload_n hx hb d_N_hasPad_0 rfl (lv_at hl 0 rfl) ?_
  refine lv_iload_n hx hb d_N_hasPad_1 rfl (lv_at hl 1 rfl) ?_
  refine vp_callSi (va_runV (As := [.int a1]) (rest := []) ⟨hx, hb, hml, hown, hts⟩ (c_N_isDriven l L a1 I F G _ h) (cwV 1 hts (gV wG397 wG334 wG335 wG49 wG336) rfl rfl rfl (by decide +kernel) ⟨Nat.le_of_ble_eq_true rfl, Nat.le_of_ble_eq_true rfl⟩) (cPre1 hK hN hP) rfl rfl hl.1 rfl (lv_room (Nat.le_of_ble_eq_true rfl)) d_N_hasPad_2 ⟨Nat.le_of_ble_eq_true rfl, Nat.le_of_ble_eq_true rfl⟩).run (fun r_1 h => ?_)
  refine lv_if_ne (tgt := 20) hx hb d_N_hasPad_5 (by decide) (fun c_2 => ?_) (fun c_2 => ?_)
  · replace h := h.1 c_2
    refine lv_iconst (v := 0) hx hb d_N_hasPad_20 (by decide) ?_
    exact W.zret hx hb hr rfl (fun t ht _ => ⟨_, rfl, h, ht⟩) (fun _ h9 => nomatch h9) d_N_hasPad_21
  · replace h := h.2 c_2
    refine lv_aload_n hx hb d_N_hasPad_8 rfl (lv_at hl 0 rfl) ?_
    refine lv_iload_n hx hb d_N_hasPad_9 rfl (lv_at hl 1 rfl) ?_
    refine vp_callSi (va_runV (As := [.int a1]) (rest := []) ⟨hx, hb, hml, hown, hts⟩ (c_N_pins l L a1 I F G _ h) (cwV 1 hts (gV wG389 wG390 wG391 wG49 wG392) rfl rfl rfl (by decide +kernel) ⟨Nat.le_of_ble_eq_true rfl, Nat.le_of_ble_eq_true rfl⟩) (cPre1 hK hN hP) rfl rfl hl.1 rfl (lv_room (Nat.le_of_ble_eq_true rfl)) d_N_hasPad_10 ⟨Nat.le_of_ble_eq_true rfl, Nat.le_of_ble_eq_true rfl⟩).run (fun r_3 h => ?_)
    refine lv_if_le (tgt := 20) hx hb d_N_hasPad_13 (by decide) (fun c_4 => ?_) (fun c_4 => ?_)
    · replace h := h.1 c_4
      refine lv_iconst (v := 0) hx hb d_N_hasPad_20 (by decide) ?_
      exact W.zret hx hb hr rfl (fun t ht _ => ⟨_, rfl, h, ht⟩) (fun _ h9 => nomatch h9) d_N_hasPad_21
    · replace h := h.2 c_4
      refine lv_iconst (v := 1) hx hb d_N_hasPad_16 (by decide) ?_
      refine lv_goto (tgt := 21) hx hb d_N_hasPad_17 (by decide) ?_
      exact W.zret hx hb hr rfl (fun t ht _ => ⟨_, rfl, h, ht⟩) (fun _ h9 => nomatch h9) d_N_hasPad_21
abbrev rm_N_isWired : Room := { frames := 2, cells := 0, slots := 0, locals := 42 }
set_option maxHeartbeats 4000000 in
set_option maxRecDepth 100000 in
theorem c_N_isWired (l : Launch) (L : cL) (a1 : Int32) (I : MI) (F : MF) (G : MG) (post : Int32 → Prop) (h : wp_N_isWired a1 I F G post) : Met l y_N_isWired (.code y_N_isWired b_N_isWired 2 (some .boolean) :: lwG) rm_N_isWired (cPc L I F G [.ref (cA L 1), .int a1]) (vp_Si post) 0 0 (fun _ => False) := by
  refine Met.ofW (cc := b_N_isWired) (maxL := 2) (ret := (some .boolean)) (by decide) rfl ?_
  intro p e s m args below meth c s₁ B hml hv
  obtain ⟨rfl, hP, hK, hN⟩ := hv
  have xc : xC p s m _ meth c b_N_isWired 2 lwG qR1 (some .boolean) := ⟨B.exec, B.bytes, hml, findClass_of_methodNamed B.named, fun w h => atoms_spec (ws := (.code y_N_isWired b_N_isWired 2 (some .boolean) :: lwG)) B.pre w (List.mem_cons_of_mem _ h), B.returns, B.notSynchronized⟩
  obtain ⟨hx, hb, hml, hown, hts, hr, hlocks⟩ := id xc
  have hl := lv_entry ([.ref (cA L 1), .int a1]) (n := 2) (Nat.le_of_ble_eq_true rfl)
  rw [lg_entry_eq]
  generalize (lg_sl ([.ref (cA L 1), .int a1]) ++ List.replicate (2 - (lg_sl ([.ref (cA L 1), .int a1])).length) Slot.unset).toArray = ls at hl ⊢
  have hl : lv_has ls 2 [(0, .ref (cA L 1)), (1, .int a1)] := hl
  refine lv_aload_n hx hb d_N_isWired_0 rfl (lv_at hl 0 rfl) ?_
  refine lv_iload_n hx hb d_N_isWired_1 rfl (lv_at hl 1 rfl) ?_
  refine vp_callSi (va_runV (As := [.int a1]) (rest := []) ⟨hx, hb, hml, hown, hts⟩ (c_N_pins l L a1 I F G _ h) (cwV 1 hts (gV wG389 wG390 wG391 wG49 wG392) rfl rfl rfl (by decide +kernel) ⟨Nat.le_of_ble_eq_true rfl, Nat.le_of_ble_eq_true rfl⟩) (cPre1 hK hN hP) rfl rfl hl.1 rfl (lv_room (Nat.le_of_ble_eq_true rfl)) d_N_isWired_2 ⟨Nat.le_of_ble_eq_true rfl, Nat.le_of_ble_eq_true rfl⟩).run (fun r_1 h => ?_)
  refine lv_iconst (v := 2) hx hb d_N_isWired_5 (by decide) ?_
  refine lv_icmp_ge (tgt := 17) hx hb d_N_isWired_6 (by decide) (fun c_2 => ?_) (fun c_2 => ?_)
  · replace h := h.1 c_2
    refine lv_iconst (v := 1) hx hb d_N_isWired_17 (by decide) ?_
    refine lv_goto (tgt := 22) hx hb d_N_isWired_18 (by decide) ?_
    exact W.zret hx hb hr rfl (fun t ht _ => ⟨_, rfl, h, ht⟩) (fun _ h9 => nomatch h9) d_N_isWired_22
  · replace h := h.2 c_2
    refine lv_aload_n hx hb d_N_isWired_9 rfl (lv_at hl 0 rfl) ?_
    refine lv_iload_n hx hb d_N_isWired_10 rfl (lv_at hl 1 rfl) ?_
    refine vp_callSi (va_runV (As := [.int a1]) (rest := []) ⟨hx, hb, hml, hown, hts⟩ (c_N_hasPad l L a1 I F G _ h) (cwV 1 hts (gV wG393 wG394 wG395 wG49 wG396) rfl rfl rfl (by decide +kernel) ⟨Nat.le_of_ble_eq_true rfl, Nat.le_of_ble_eq_true rfl⟩) (cPre1 hK hN hP) rfl rfl hl.1 rfl (lv_room (Nat.le_of_ble_eq_true rfl)) d_N_isWired_11 ⟨Nat.le_of_ble_eq_true rfl, Nat.le_of_ble_eq_true rfl⟩).run (fun r_3 h => ?_)
    refine lv_if_eq (tgt := 21) hx hb d_N_isWired_14 (by decide) (fun c_4 => ?_) (fun c_4 => ?_)
    · replace h := h.1 c_4
      refine lv_iconst (v := 0) hx hb d_N_isWired_21 (by decide) ?_
      exact W.zret hx hb hr rfl (fun t ht _ => ⟨_, rfl, h, ht⟩) (fun _ h9 => nomatch h9) d_N_isWired_22
    · replace h := h.2 c_4
      refine lv_iconst (v := 1) hx hb d_N_isWired_17 (by decide) ?_
      refine lv_goto (tgt := 22) hx hb d_N_isWired_18 (by decide) ?_
      exact W.zret hx hb hr rfl (fun t ht _ => ⟨_, rfl, h, ht⟩) (fun _ h9 => nomatch h9) d_N_isWired_22
