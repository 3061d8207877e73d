abbrev rm_JI_bitCount : Room := { frames := 0, cells := 0, slots := 0, locals := 0 }
set_option maxHeartbeats 4000000 in
set_option maxRecDepth 100000 in
theorem c_JI_bitCount (l : Launch) (a0 : Int32) (post : Int32 → Prop) (h : wp_JI_bitCount a0 post) : Met l y_JI_bitCount (.code y_JI_bitCount b_JI_bitCount 1 (some .int) :: lwG) rm_JI_bitCount (sPc [.int a0]) (vp_Si post) 0 0 (fun _ => False) := by
  refine Met.ofW (cc := b_JI_bitCount) (maxL := 1) (ret := (some .int)) (by decide) rfl ?_
  intro p e s m args below meth c s₁ B hml hv
  obtain ⟨rfl, -⟩ := hv
  have xc : xC p s m _ meth c b_JI_bitCount 1 lwG "java/lang/Integer" (some .int) := ⟨B.exec, B.bytes, hml, findClass_of_methodNamed B.named, fun w h => atoms_spec (ws := (.code y_JI_bitCount b_JI_bitCount 1 (some .int) :: lwG)) B.pre w (List.mem_cons_of_mem _ h), B.returns, B.notSynchronized⟩
  obtain ⟨hx, hb, hml, hown, hts, hr, hlocks⟩ := id xc
  have hl := lv_entry ([.int a0]) (n := 1) (Nat.le_of_ble_eq_true rfl)
  rw [lg_entry_eq]
  generalize (lg_sl ([.int a0]) ++ List.replicate (1 - (lg_sl ([.int a0])).length) Slot.unset).toArray = ls at hl ⊢
  have hl : lv_has ls 1 [(0, .int a0)] := hl
  refine lv_iload_n hx hb d_JI_bitCount_0 rfl (lv_at hl 0 rfl) ?_
  refine lv_iload_n hx hb d_JI_bitCount_1 rfl (lv_at hl 0 rfl) ?_
  refine lv_iconst (v := 1) hx hb d_JI_bitCount_2 (by decide) ?_
  refine lv_iushr hx hb d_JI_bitCount_3 rfl ?_
  refine lv_ldcw (v := 1431655765) hx hb hown (hts _ wG613) d_JI_bitCount_4 ?_
  refine lv_iand hx hb d_JI_bitCount_7 ?_
  refine lv_isub hx hb d_JI_bitCount_8 ?_
  refine lv_topi (fun x_1 ex_1 => ?_)
  replace h := h x_1 ex_1
  refine lv_istore_n (lv' := [(0, .int x_1)]) hx hb d_JI_bitCount_9 rfl hl (by decide) rfl (fun ls hl => ?_)
  refine lv_iload_n hx hb d_JI_bitCount_10 rfl (lv_at hl 0 rfl) ?_
  refine lv_ldcw (v := 858993459) hx hb hown (hts _ wG614) d_JI_bitCount_11 ?_
  refine lv_iand hx hb d_JI_bitCount_14 ?_
  refine lv_iload_n hx hb d_JI_bitCount_15 rfl (lv_at hl 0 rfl) ?_
  refine lv_iconst (v := 2) hx hb d_JI_bitCount_16 (by decide) ?_
  refine lv_iushr hx hb d_JI_bitCount_17 rfl ?_
  refine lv_ldcw (v := 858993459) hx hb hown (hts _ wG614) d_JI_bitCount_18 ?_
  refine lv_iand hx hb d_JI_bitCount_21 ?_
  refine lv_iadd hx hb d_JI_bitCount_22 ?_
  refine lv_topi (fun x_2 ex_2 => ?_)
  replace h := h x_2 ex_2
  refine lv_istore_n (lv' := [(0, .int x_2)]) hx hb d_JI_bitCount_23 rfl hl (by decide) rfl (fun ls hl => ?_)
  refine lv_iload_n hx hb d_JI_bitCount_24 rfl (lv_at hl 0 rfl) ?_
  refine lv_iload_n hx hb d_JI_bitCount_25 rfl (lv_at hl 0 rfl) ?_
  refine lv_iconst (v := 4) hx hb d_JI_bitCount_26 (by decide) ?_
  refine lv_iushr hx hb d_JI_bitCount_27 rfl ?_
  refine lv_iadd hx hb d_JI_bitCount_28 ?_
  refine lv_ldcw (v := 252645135) hx hb hown (hts _ wG615) d_JI_bitCount_29 ?_
  refine lv_iand hx hb d_JI_bitCount_32 ?_
  refine lv_topi (fun x_3 ex_3 => ?_)
  replace h := h x_3 ex_3
  refine lv_istore_n (lv' := [(0, .int x_3)]) hx hb d_JI_bitCount_33 rfl hl (by decide) rfl (fun ls hl => ?_)
  refine lv_iload_n hx hb d_JI_bitCount_34 rfl (lv_at hl 0 rfl) ?_
  refine lv_iload_n hx hb d_JI_bitCount_35 rfl (lv_at hl 0 rfl) ?_
  refine lv_bipush (v := 8) hx hb d_JI_bitCount_36 (by decide) ?_
  refine lv_iushr hx hb d_JI_bitCount_38 rfl ?_
  refine lv_iadd hx hb d_JI_bitCount_39 ?_
  refine lv_topi (fun x_4 ex_4 => ?_)
  replace h := h x_4 ex_4
  refine lv_istore_n (lv' := [(0, .int x_4)]) hx hb d_JI_bitCount_40 rfl hl (by decide) rfl (fun ls hl => ?_)
  refine lv_iload_n hx hb d_JI_bitCount_41 rfl (lv_at hl 0 rfl) ?_
  refine lv_iload_n hx hb d_JI_bitCount_42 rfl (lv_at hl 0 rfl) ?_
  refine lv_bipush (v := 16) hx hb d_JI_bitCount_43 (by decide) ?_
  refine lv_iushr hx hb d_JI_bitCount_45 rfl ?_
  refine lv_iadd hx hb d_JI_bitCount_46 ?_
  refine lv_topi (fun x_5 ex_5 => ?_)
  replace h := h x_5 ex_5
  refine lv_istore_n (lv' := [(0, .int x_5)]) hx hb d_JI_bitCount_47 rfl hl (by decide) rfl (fun ls hl => ?_)
  refine lv_iload_n hx hb d_JI_bitCount_48 rfl (lv_at hl 0 rfl) ?_
  refine lv_bipush (v := 63) hx hb d_JI_bitCount_49 (by decide) ?_
  refine lv_iand hx hb d_JI_bitCount_51 ?_
  exact W.iret hx hb hr (fun t ht _ => ⟨_, rfl, h, ht⟩) (fun _ h9 => nomatch h9) d_JI_bitCount_52
abbrev rm_F_within : Room := { frames := 0, cells := 0, slots := 0, locals := 0 }
set_option maxHeartbeats 4000000 in
set_option maxRecDepth 100000 in
theorem c_F_within (l : Launch) (a0 : Int32) (a1 : Int32) (post : Int32 → Prop) (h : wp_F_within a0 a1 post) : Met l y_F_within (.code y_F_within b_F_within 2 (some .boolean) :: lwG) rm_F_within (sPc [.int a0, .int a1]) (vp_Si post) 0 0 (fun _ => False) := by
  refine Met.ofW (cc := b_F_within) (maxL := 2) (ret := (some .boolean)) (by decide) rfl ?_
  intro p e s m args below meth c s₁ B hml hv
  obtain ⟨rfl, -⟩ := hv
  have xc : xC p s m _ meth c b_F_within 2 lwG qR0 (some .boolean) := ⟨B.exec, B.bytes, hml, findClass_of_methodNamed B.named, fun w h => atoms_spec (ws := (.code y_F_within b_F_within 2 (some .boolean) :: lwG)) B.pre w (List.mem_cons_of_mem _ h), B.returns, B.notSynchronized⟩
  obtain ⟨hx, hb, hml, hown, hts, hr, hlocks⟩ := id xc
  have hl := lv_entry ([.int a0, .int a1]) (n := 2) (Nat.le_of_ble_eq_true rfl)
  rw [lg_entry_eq]
  generalize (lg_sl ([.int a0, .int a1]) ++ List.replicate (2 - (lg_sl ([.int a0, .int a1])).length) Slot.unset).toArray = ls at hl ⊢
  have hl : lv_has ls 2 [(0, .int a0), (1, .int a1)] := hl
  refine lv_iload_n hx hb d_F_within_0 rfl (lv_at hl 0 rfl) ?_
  refine lv_if_lt (tgt := 13) hx hb d_F_within_1 (by decide) (fun c_1 => ?_) (fun c_1 => ?_)
  · replace h := h.1 c_1
    refine lv_iconst (v := 0) hx hb d_F_within_13 (by decide) ?_
    exact W.zret hx hb hr rfl (fun t ht _ => ⟨_, rfl, h, ht⟩) (fun _ h9 => nomatch h9) d_F_within_14
  · replace h := h.2 c_1
    refine lv_iload_n hx hb d_F_within_4 rfl (lv_at hl 0 rfl) ?_
    refine lv_iload_n hx hb d_F_within_5 rfl (lv_at hl 1 rfl) ?_
    refine lv_icmp_ge (tgt := 13) hx hb d_F_within_6 (by decide) (fun c_2 => ?_) (fun c_2 => ?_)
    · replace h := h.1 c_2
      refine lv_iconst (v := 0) hx hb d_F_within_13 (by decide) ?_
      exact W.zret hx hb hr rfl (fun t ht _ => ⟨_, rfl, h, ht⟩) (fun _ h9 => nomatch h9) d_F_within_14
    · replace h := h.2 c_2
      refine lv_iconst (v := 1) hx hb d_F_within_9 (by decide) ?_
      refine lv_goto (tgt := 14) hx hb d_F_within_10 (by decide) ?_
      exact W.zret hx hb hr rfl (fun t ht _ => ⟨_, rfl, h, ht⟩) (fun _ h9 => nomatch h9) d_F_within_14
abbrev rm_F_hasOneInput : Room := { frames := 0, cells := 0, slots := 0, locals := 0 }
set_option maxHeartbeats 4000000 in
set_option maxRecDepth 100000 in
theorem c_F_hasOneInput (l : Launch) (a0 : Int32) (post : Int32 → Prop) (h : wp_F_hasOneInput a0 post) : Met l y_F_hasOneInput (.code y_F_hasOneInput b_F_hasOneInput 1 (some .boolean) :: lwG) rm_F_hasOneInput (sPc [.int a0]) (vp_Si post) 0 0 (fun _ => False) := by
  refine Met.ofW (cc := b_F_hasOneInput) (maxL := 1) (ret := (some .boolean)) (by decide) rfl ?_
  intro p e s m args below meth c s₁ B hml hv
  obtain ⟨rfl, -⟩ := hv
  have xc : xC p s m _ meth c b_F_hasOneInput 1 lwG qR0 (some .boolean) := ⟨B.exec, B.bytes, hml, findClass_of_methodNamed B.named, fun w h => atoms_spec (ws := (.code y_F_hasOneInput b_F_hasOneInput 1 (some .boolean) :: lwG)) B.pre w (List.mem_cons_of_mem _ h), B.returns, B.notSynchronized⟩
  obtain ⟨hx, hb, hml, hown, hts, hr, hlocks⟩ := id xc
  have hl := lv_entry ([.int a0]) (n := 1) (Nat.le_of_ble_eq_true rfl)
  rw [lg_entry_eq]
  generalize (lg_sl ([.int a0]) ++ List.replicate (1 - (lg_sl ([.int a0])).length) Slot.unset).toArray = ls at hl ⊢
  have hl : lv_has ls 1 [(0, .int a0)] := hl
  refine lv_iload_n hx hb d_F_hasOneInput_0 rfl (lv_at hl 0 rfl) ?_
  refine lv_if_eq (tgt := 9) hx hb d_F_hasOneInput_1 (by decide) (fun c_1 => ?_) (fun c_1 => ?_)
  · replace h := h.1 c_1
    refine lv_iconst (v := 1) hx hb d_F_hasOneInput_9 (by decide) ?_
    refine lv_goto (tgt := 14) hx hb d_F_hasOneInput_10 (by decide) ?_
    exact W.zret hx hb hr rfl (fun t ht _ => ⟨_, rfl, h, ht⟩) (fun _ h9 => nomatch h9) d_F_hasOneInput_14
  · replace h := h.2 c_1
    refine lv_iload_n hx hb d_F_hasOneInput_4 rfl (lv_at hl 0 rfl) ?_
    refine lv_iconst (v := 1) hx hb d_F_hasOneInput_5 (by decide) ?_
    refine lv_icmp_ne (tgt := 13) hx hb d_F_hasOneInput_6 (by decide) (fun c_2 => ?_) (fun c_2 => ?_)
    · replace h := h.1 c_2
      refine lv_iconst (v := 0) hx hb d_F_hasOneInput_13 (by decide) ?_
      exact W.zret hx hb hr rfl (fun t ht _ => ⟨_, rfl, h, ht⟩) (fun _ h9 => nomatch h9) d_F_hasOneInput_14
    · replace h := h.2 c_2
      refine lv_iconst (v := 1) hx hb d_F_hasOneInput_9 (by decide) ?_
      refine lv_goto (tgt := 14) hx hb d_F_hasOneInput_10 (by decide) ?_
      exact W.zret hx hb hr rfl (fun t ht _ => ⟨_, rfl, h, ht⟩) (fun _ h9 => nomatch h9) d_F_hasOneInput_14
abbrev rm_F_pinsOfKind : Room := { frames := 1, cells := 0, slots := 0, locals := 20 }
set_option maxHeartbeats 4000000 in
set_option maxRecDepth 100000 in
theorem c_F_pinsOfKind (l : Launch) (a0 : Int32) (post : Int32 → Prop) (h : wp_F_pinsOfKind a0 post) : Met l y_F_pinsOfKind (.code y_F_pinsOfKind b_F_pinsOfKind 1 (some .int) :: lwG) rm_F_pinsOfKind (sPc [.int a0]) (vp_Si post) 0 0 (fun _ => False) := by
  refine Met.ofW (cc := b_F_pinsOfKind) (maxL := 1) (ret := (some .int)) (by decide) rfl ?_
  intro p e s m args below meth c s₁ B hml hv
  obtain ⟨rfl, -⟩ := hv
  have xc : xC p s m _ meth c b_F_pinsOfKind 1 lwG qR0 (some .int) := ⟨B.exec, B.bytes, hml, findClass_of_methodNamed B.named, fun w h => atoms_spec (ws := (.code y_F_pinsOfKind b_F_pinsOfKind 1 (some .int) :: lwG)) B.pre w (List.mem_cons_of_mem _ h), B.returns, B.notSynchronized⟩
  obtain ⟨hx, hb, hml, hown, hts, hr, hlocks⟩ := id xc
  have hl := lv_entry ([.int a0]) (n := 1) (Nat.le_of_ble_eq_true rfl)
  rw [lg_entry_eq]
  generalize (lg_sl ([.int a0]) ++ List.replicate (1 - (lg_sl ([.int a0])).length) Slot.unset).toArray = ls at hl ⊢
  have hl : lv_has ls 1 [(0, .int a0)] := hl
  refine lv_iload_n hx hb d_F_pinsOfKind_0 rfl (lv_at hl 0 rfl) ?_
  refine vp_callSi (va_runS (As := [.int a0]) (rest := []) ⟨hx, hb, hml, hown, hts⟩ (c_F_hasOneInput l a0 _ h) (va_cwS 1 hts (gS wG322 wG323 wG48 wG324) rfl rfl rfl (by decide +kernel) ⟨Nat.le_of_ble_eq_true rfl, Nat.le_of_ble_eq_true rfl⟩) ⟨sPc_blind _, fun U hU hW => ⟨rfl, trivial⟩⟩ rfl rfl hl.1 rfl (lv_room (Nat.le_of_ble_eq_true rfl)) d_F_pinsOfKind_1 ⟨Nat.le_of_ble_eq_true rfl, Nat.le_of_ble_eq_true rfl⟩).run (fun r_1 h => ?_)
  refine lv_if_eq (tgt := 11) hx hb d_F_pinsOfKind_4 (by decide) (fun c_2 => ?_) (fun c_2 => ?_)
  · replace h := h.1 c_2
    refine lv_iconst (v := 3) hx hb d_F_pinsOfKind_11 (by decide) ?_
    exact W.iret hx hb hr (fun t ht _ => ⟨_, rfl, h, ht⟩) (fun _ h9 => nomatch h9) d_F_pinsOfKind_12
  · replace h := h.2 c_2
    refine lv_iconst (v := 2) hx hb d_F_pinsOfKind_7 (by decide) ?_
    refine lv_goto (tgt := 12) hx hb d_F_pinsOfKind_8 (by decide) ?_
    exact W.iret hx hb hr (fun t ht _ => ⟨_, rfl, h, ht⟩) (fun _ h9 => nomatch h9) d_F_pinsOfKind_12
abbrev rm_N_hasRoom : Room := { frames := 2, cells := 0, slots := 0, locals := 40 }
set_option maxHeartbeats 4000000 in
set_option maxRecDepth 100000 in
theorem c_N_hasRoom (l : Launch) (L : cL) (a1 : Int32) (a2 : Int32) (I : MI) (F : MF) (G : MG) (post : Int32 → Prop) (h : wp_N_hasRoom a1 a2 I F G post) : Met l y_N_hasRoom (.code y_N_hasRoom b_N_hasRoom 3 (some .boolean) :: lwG) rm_N_hasRoom (cPc L I F G [.ref (cA L 1), .int a1, .int a2]) (vp_Si post) 0 0 (fun _ => False) := by
  refine Met.ofW (cc := b_N_hasRoom) (maxL := 3) (ret := (some .boolean)) (by decide) rfl ?_
  intro p e s m args below meth c s₁ B hml hv
  obtain ⟨rfl, hP, hK, hN⟩ := hv
  have xc : xC p s m _ meth c b_N_hasRoom 3 lwG qR1 (some .boolean) := ⟨B.exec, B.bytes, hml, findClass_of_methodNamed B.named, fun w h => atoms_spec (ws := (.code y_N_hasRoom b_N_hasRoom 3 (some .boolean) :: lwG)) B.pre w (List.mem_cons_of_mem _ h), B.returns, B.notSynchronized⟩
  obtain ⟨hx, hb, hml, hown, hts, hr, hlocks⟩ := id xc
  have hl := lv_entry ([.ref (cA L 1), .int a1, .int a2]) (n := 3) (Nat.le_of_ble_eq_true rfl)
  rw [lg_entry_eq]
  generalize (lg_sl ([.ref (cA L 1), .int a1, .int a2]) ++ List.replicate (3 - (lg_sl ([.ref (cA L 1), .int a1, .int a2])).length) Slot.unset).toArray = ls at hl ⊢
  have hl : lv_has ls 3 [(0, .ref (cA L 1)), (1, .int a1), (2, .int a2)] := hl
  refine lv_aload_n hx hb d_N_hasRoom_0 rfl (lv_at hl 0 rfl) ?_
  refine va_get (D := L.1) (ci := 1) (v := .int (I 1)) (C := qR1) (T := qT1) (N := 13) hx hb hts qi1 hown hK hP 1 rfl rfl 0 (by decide) (hts _ wG88) (fun _ h9 => h9) rfl d_N_hasRoom_1 ?_
  refine lv_bipush (v := 12) hx hb d_N_hasRoom_4 (by decide) ?_
  refine lv_icmp_ge (tgt := 29) hx hb d_N_hasRoom_6 (by decide) (fun c_1 => ?_) (fun c_1 => ?_)
  · replace h := h.1 c_1
    refine lv_iconst (v := 0) hx hb d_N_hasRoom_29 (by decide) ?_
    exact W.zret hx hb hr rfl (fun t ht _ => ⟨_, rfl, h, ht⟩) (fun _ h9 => nomatch h9) d_N_hasRoom_30
  · replace h := h.2 c_1
    refine lv_aload_n hx hb d_N_hasRoom_9 rfl (lv_at hl 0 rfl) ?_
    refine va_get (D := L.1) (ci := 1) (v := .ref (cA L 16)) (C := qR1) (T := qT1) (N := 13) hx hb hts qi1 hown hK hP 1 rfl rfl 7 (by decide) (hts _ wG102) (fun _ h9 => h9) rfl d_N_hasRoom_10 ?_
    refine lv_iload_n hx hb d_N_hasRoom_13 rfl (lv_at hl 2 rfl) ?_
    obtain ⟨hi_2, h⟩ := h
    refine c_iald hx hb hK hP 6 (by decide) rfl hi_2 d_N_hasRoom_14 ?_
    refine lv_iload_n hx hb d_N_hasRoom_15 rfl (lv_at hl 1 rfl) ?_
    refine vp_callSi (va_runSN (As := [.int a1]) (rest := [.int (F 6 a2.toNatClampNeg)]) ⟨hx, hb, hml, hown, hts⟩ (c_F_pinsOfKind l a1 _ h) ⟨va_cnB 1 hts (gC wG332) rfl rfl rfl (hN.1) (hts _ wG48) (by decide +kernel) ⟨Nat.le_of_ble_eq_true rfl, Nat.le_of_ble_eq_true rfl⟩, hts _ wG331, trivial⟩ ⟨sPc_blind _, fun U hU hW => ⟨rfl, trivial⟩⟩ rfl rfl hl.1 rfl (lv_room (Nat.le_of_ble_eq_true rfl)) d_N_hasRoom_16 ⟨Nat.le_of_ble_eq_true rfl, Nat.le_of_ble_eq_true rfl⟩).run (fun r_3 h => ?_)
    refine lv_iadd hx hb d_N_hasRoom_19 ?_
    refine lv_bipush (v := 24) hx hb d_N_hasRoom_20 (by decide) ?_
    refine lv_icmp_gt (tgt := 29) hx hb d_N_hasRoom_22 (by decide) (fun c_4 => ?_) (fun c_4 => ?_)
    · replace h := h.1 c_4
      refine lv_iconst (v := 0) hx hb d_N_hasRoom_29 (by decide) ?_
      exact W.zret hx hb hr rfl (fun t ht _ => ⟨_, rfl, h, ht⟩) (fun _ h9 => nomatch h9) d_N_hasRoom_30
    · replace h := h.2 c_4
      refine lv_iconst (v := 1) hx hb d_N_hasRoom_25 (by decide) ?_
      refine lv_goto (tgt := 30) hx hb d_N_hasRoom_26 (by decide) ?_
      exact W.zret hx hb hr rfl (fun t ht _ => ⟨_, rfl, h, ht⟩) (fun _ h9 => nomatch h9) d_N_hasRoom_30
abbrev rm_N_isDriven : Room := { frames := 0, cells := 0, slots := 0, locals := 0 }
set_option maxHeartbeats 4000000 in
set_option maxRecDepth 100000 in
theorem c_N_isDriven (l : Launch) (L : cL) (a1 : Int32) (I : MI) (F : MF) (G : MG) (post : Int32 → Prop) (h : wp_N_isDriven a1 I F G post) : Met l y_N_isDriven (.code y_N_isDriven b_N_isDriven 2 (some .boolean) :: lwG) rm_N_isDriven (cPc L I F G [.ref (cA L 1), .int a1]) (vp_Si post) 0 0 (fun _ => False) := by
  refine Met.ofW (cc := b_N_isDriven) (maxL := 2) (ret := (some .boolean)) (by decide) rfl ?_
  intro p e s m args below meth c s₁ B hml hv
  obtain ⟨rfl, hP, hK, hN⟩ := hv
  have xc : xC p s m _ meth c b_N_isDriven 2 lwG qR1 (some .boolean) := ⟨B.exec, B.bytes, hml, findClass_of_methodNamed B.named, fun w h => atoms_spec (ws := (.code y_N_isDriven b_N_isDriven 2 (some .boolean) :: lwG)) B.pre w (List.mem_cons_of_mem _ h), B.returns, B.notSynchronized⟩
  obtain ⟨hx, hb, hml, hown, hts, hr, hlocks⟩ := id xc
  have hl := lv_entry ([.ref (cA L 1), .int a1]) (n := 2) (Nat.le_of_ble_eq_true rfl)
  rw [lg_entry_eq]
  generalize (lg_sl ([.ref (cA L 1), .int a1]) ++ List.replicate (2 - (lg_sl ([.ref (cA L 1), .int a1])).length) Slot.unset).toArray = ls at hl ⊢
  have hl : lv_has ls 2 [(0, .ref (cA L 1)), (1, .int a1)] := hl
  refine lv_aload_n hx hb d_N_isDriven_0 rfl (lv_at hl 0 rfl) ?_
  refine va_get (D := L.1) (ci := 1) (v := .ref (cA L 19)) (C := qR1) (T := qT1) (N := 13) hx hb hts qi1 hown hK hP 1 rfl rfl 12 (by decide) (hts _ wG109) (fun _ h9 => h9) rfl d_N_isDriven_1 ?_
  refine lv_iload_n hx hb d_N_isDriven_4 rfl (lv_at hl 1 rfl) ?_
  obtain ⟨hi_1, h⟩ := h
  refine c_iald hx hb hK hP 9 (by decide) rfl hi_1 d_N_isDriven_5 ?_
  refine lv_iconst (v := (-1)) hx hb d_N_isDriven_6 (by decide) ?_
  refine lv_icmp_eq (tgt := 14) hx hb d_N_isDriven_7 (by decide) (fun c_2 => ?_) (fun c_2 => ?_)
  · replace h := h.1 c_2
    refine lv_iconst (v := 0) hx hb d_N_isDriven_14 (by decide) ?_
    exact W.zret hx hb hr rfl (fun t ht _ => ⟨_, rfl, h, ht⟩) (fun _ h9 => nomatch h9) d_N_isDriven_15
  · replace h := h.2 c_2
    refine lv_iconst (v := 1) hx hb d_N_isDriven_10 (by decide) ?_
    refine lv_goto (tgt := 15) hx hb d_N_isDriven_11 (by decide) ?_
    exact W.zret hx hb hr rfl (fun t ht _ => ⟨_, rfl, h, ht⟩) (fun _ h9 => nomatch h9) d_N_isDriven_15
abbrev rm_N_addPin : Room := { frames := 1, cells := 0, slots := 0, locals := 24 }
set_option maxHeartbeats 4000000 in
set_option maxRecDepth 100000 in
theorem c_N_addPin (l : Launch) (L : cL) (a1 : Int32) (a2 : Int32) (a3 : Int32) (I : MI) (F : MF) (G : MG) (sz : Nat) (post : MI → MF → MG → Prop) (h : wp_N_addPin a1 a2 a3 I F G post) : Met l y_N_addPin (.code y_N_addPin b_N_addPin 4 (none) :: lwG) rm_N_addPin (cPm L I F G sz [.ref (cA L 1), .int a1, .int a2, .int a3]) (cQv L (cAA L I F G sz) post (cAA L I F G sz)) 0 0 (cAA L I F G sz) := by
  refine Met.ofW (cc := b_N_addPin) (maxL := 4) (ret := (none)) (by decide) rfl ?_
  intro p e s m args below meth c s₁ B hml hv
  obtain ⟨rfl, hsz, hP, hK, hD0, hN⟩ := hv
  have xc : xC p s m _ meth c b_N_addPin 4 lwG qR1 (none) := ⟨B.exec, B.bytes, hml, findClass_of_methodNamed B.named, fun w h => atoms_spec (ws := (.code y_N_addPin b_N_addPin 4 (none) :: lwG)) B.pre w (List.mem_cons_of_mem _ h), B.returns, B.notSynchronized⟩
  obtain ⟨hx, hb, hml, hown, hts, hr, hlocks⟩ := id xc
  subst hsz
  have hD : va_D (cAA L I F G s.heap.size) (WC L I F G) := hD0.self
  have hA0 : ∀ q : Nat, s.heap.size ≤ q → cAA L I F G s.heap.size q := fun q h => Or.inr h
  generalize cAA L I F G s.heap.size = A at hD hA0 ⊢
  have hA := hA0
  have hw : CW L A s.heap I F G s.heap [] := ⟨hP, hD, va_S.rf⟩
  have hl := lv_entry ([.ref (cA L 1), .int a1, .int a2, .int a3]) (n := 4) (Nat.le_of_ble_eq_true rfl)
  rw [lg_entry_eq]
  generalize (lg_sl ([.ref (cA L 1), .int a1, .int a2, .int a3]) ++ List.replicate (4 - (lg_sl ([.ref (cA L 1), .int a1, .int a2, .int a3])).length) Slot.unset).toArray = ls at hl ⊢
  have hl : lv_has ls 4 [(0, .ref (cA L 1)), (1, .int a1), (2, .int a2), (3, .int a3)] := hl
  refine lv_aload_n hx hb d_N_addPin_0 rfl (lv_at hl 0 rfl) ?_
  refine va_get (D := L.1) (ci := 1) (v := .ref (cA L 5)) (C := qR1) (T := qT1) (N := 13) hx hb hts qi1 hown hK hw.1 1 rfl rfl 8 (by decide) (hts _ wG103) (fun _ h9 => h9) rfl d_N_addPin_1 ?_
  refine lv_iload_n hx hb d_N_addPin_4 rfl (lv_at hl 1 rfl) ?_
  obtain ⟨hi_1, h⟩ := h
  refine c_row5 hx hb hK hw.1 hi_1 d_N_addPin_5 ?_
  refine lv_iload_n hx hb d_N_addPin_6 rfl (lv_at hl 2 rfl) ?_
  refine lv_iload_n hx hb d_N_addPin_7 rfl (lv_at hl 3 rfl) ?_
  obtain ⟨hi_2, h⟩ := h
  refine c_iast hx hb hK hw (15 + a1.toNatClampNeg) (row_lt15 hi_1) (row_len15 hi_1) hi_2 d_N_addPin_8 (fun H locs hw => ?_)
  obtain ⟨F_3, eF_3⟩ : ∃ y : MF, y = setF F (15 + a1.toNatClampNeg) (upd (F (15 + a1.toNatClampNeg)) a2.toNatClampNeg a3) := ⟨_, rfl⟩
  rw [← eF_3] at hw
  replace h := h F_3 eF_3
  refine lv_aload_n hx hb d_N_addPin_9 rfl (lv_at hl 0 rfl) ?_
  refine va_get (D := L.1) (ci := 1) (v := .ref (cA L 6)) (C := qR1) (T := qT1) (N := 13) hx hb hts qi1 hown hK hw.1 1 rfl rfl 9 (by decide) (hts _ wG105) (fun _ h9 => h9) rfl d_N_addPin_10 ?_
  refine lv_iload_n hx hb d_N_addPin_13 rfl (lv_at hl 1 rfl) ?_
  obtain ⟨hi_4, h⟩ := h
  refine c_row6 hx hb hK hw.1 hi_4 d_N_addPin_14 ?_
  refine lv_iload_n hx hb d_N_addPin_15 rfl (lv_at hl 3 rfl) ?_
  refine lv_dup2_11 hx hb d_N_addPin_16 rfl rfl ?_
  obtain ⟨hi_5, h⟩ := h
  refine c_iald hx hb hK hw.1 (17 + a1.toNatClampNeg) (row_lt17 hi_4) (row_len17 hi_4) hi_5 d_N_addPin_17 ?_
  refine lv_iconst (v := 1) hx hb d_N_addPin_18 (by decide) ?_
  refine lv_iadd hx hb d_N_addPin_19 ?_
  obtain ⟨hi_6, h⟩ := h
  refine c_iast hx hb hK hw (17 + a1.toNatClampNeg) (row_lt17 hi_4) (row_len17 hi_4) hi_6 d_N_addPin_20 (fun H locs hw => ?_)
  obtain ⟨F_7, eF_7⟩ : ∃ y : MF, y = setF F_3 (17 + a1.toNatClampNeg) (upd (F_3 (17 + a1.toNatClampNeg)) a3.toNatClampNeg ((F_3 (17 + a1.toNatClampNeg) a3.toNatClampNeg) + 1)) := ⟨_, rfl⟩
  rw [← eF_7] at hw
  replace h := h F_7 eF_7
  refine lv_aload_n hx hb d_N_addPin_21 rfl (lv_at hl 0 rfl) ?_
  refine va_get (D := L.1) (ci := 1) (v := .ref (cA L 17)) (C := qR1) (T := qT1) (N := 13) hx hb hts qi1 hown hK hw.1 1 rfl rfl 10 (by decide) (hts _ wG107) (fun _ h9 => h9) rfl d_N_addPin_22 ?_
  refine lv_iload_n hx hb d_N_addPin_25 rfl (lv_at hl 3 rfl) ?_
  refine lv_aload_n hx hb d_N_addPin_26 rfl (lv_at hl 0 rfl) ?_
  refine va_get (D := L.1) (ci := 1) (v := .ref (cA L 17)) (C := qR1) (T := qT1) (N := 13) hx hb hts qi1 hown hK hw.1 1 rfl rfl 10 (by decide) (hts _ wG107) (fun _ h9 => h9) rfl d_N_addPin_27 ?_
  refine lv_iload_n hx hb d_N_addPin_30 rfl (lv_at hl 3 rfl) ?_
  obtain ⟨hi_8, h⟩ := h
  refine c_iald hx hb hK hw.1 7 (by decide) rfl hi_8 d_N_addPin_31 ?_
  refine lv_iload_n hx hb d_N_addPin_32 rfl (lv_at hl 2 rfl) ?_
  refine va_mmin hx hb (hml.trans hl.1.symm) hown (hts _ wG361) (hts _ wG362) (hts _ wG60) (hts _ wG363) (Nat.le_of_ble_eq_true rfl) (Nat.le_of_ble_eq_true rfl) (Nat.le_of_ble_eq_true rfl) (Nat.le_of_ble_eq_true rfl) d_N_addPin_33 ?_
  obtain ⟨hi_9, h⟩ := h
  refine c_iast hx hb hK hw 7 (by decide) rfl hi_9 d_N_addPin_36 (fun H locs hw => ?_)
  obtain ⟨F_10, eF_10⟩ : ∃ y : MF, y = setF F_7 7 (upd (F_7 7) a3.toNatClampNeg (if a2 < (F_7 7 a3.toNatClampNeg) then a2 else (F_7 7 a3.toNatClampNeg))) := ⟨_, rfl⟩
  rw [← eF_10] at hw
  replace h := h F_10 eF_10
  refine lv_aload_n hx hb d_N_addPin_37 rfl (lv_at hl 0 rfl) ?_
  refine va_get (D := L.1) (ci := 1) (v := .ref (cA L 18)) (C := qR1) (T := qT1) (N := 13) hx hb hts qi1 hown hK hw.1 1 rfl rfl 11 (by decide) (hts _ wG108) (fun _ h9 => h9) rfl d_N_addPin_38 ?_
  refine lv_iload_n hx hb d_N_addPin_41 rfl (lv_at hl 3 rfl) ?_
  refine lv_aload_n hx hb d_N_addPin_42 rfl (lv_at hl 0 rfl) ?_
  refine va_get (D := L.1) (ci := 1) (v := .ref (cA L 18)) (C := qR1) (T := qT1) (N := 13) hx hb hts qi1 hown hK hw.1 1 rfl rfl 11 (by decide) (hts _ wG108) (fun _ h9 => h9) rfl d_N_addPin_43 ?_
  refine lv_iload_n hx hb d_N_addPin_46 rfl (lv_at hl 3 rfl) ?_
  obtain ⟨hi_11, h⟩ := h
  refine c_iald hx hb hK hw.1 8 (by decide) rfl hi_11 d_N_addPin_47 ?_
  refine lv_iload_n hx hb d_N_addPin_48 rfl (lv_at hl 2 rfl) ?_
  refine va_mmax hx hb (hml.trans hl.1.symm) hown (hts _ wG364) (hts _ wG365) (hts _ wG60) (hts _ wG366) (Nat.le_of_ble_eq_true rfl) (Nat.le_of_ble_eq_true rfl) (Nat.le_of_ble_eq_true rfl) (Nat.le_of_ble_eq_true rfl) d_N_addPin_49 ?_
  obtain ⟨hi_12, h⟩ := h
  refine c_iast hx hb hK hw 8 (by decide) rfl hi_12 d_N_addPin_52 (fun H locs hw => ?_)
  obtain ⟨F_13, eF_13⟩ : ∃ y : MF, y = setF F_10 8 (upd (F_10 8) a3.toNatClampNeg (if (F_10 8 a3.toNatClampNeg) < a2 then a2 else (F_10 8 a3.toNatClampNeg))) := ⟨_, rfl⟩
  rw [← eF_13] at hw
  replace h := h F_13 eF_13
  exact W.vret hx hb hr (fun t ht hW => ⟨⟨(I, F_13, G), rfl, h, by rw [ht]; exact hw.1, va_K.moved hW.alike hK, hw.2.1⟩, hw.2.2.F ht⟩) hw.2.2.2.2 d_N_addPin_53
abbrev rm_N_add : Room := { frames := 2, cells := 0, slots := 0, locals := 47 }
set_option maxHeartbeats 4000000 in
set_option maxRecDepth 100000 in
theorem c_N_add (l : Launch) (L : cL) (a1 : Int32) (a2 : Int32) (a3 : Int32) (a4 : Int32) (a5 : Int32) (I : MI) (F : MF) (G : MG) (sz : Nat) (post : Int32 → MI → MF → MG → Prop) (h : wp_N_add a1 a2 a3 a4 a5 I F G post) : Met l y_N_add (.code y_N_add b_N_add 9 (some .int) :: lwG) rm_N_add (cPm L I F G sz [.ref (cA L 1), .int a1, .int a2, .int a3, .int a4, .int a5]) (cQi L (cAA L I F G sz) post (cAA L I F G sz)) 0 0 (cAA L I F G sz) := by
  refine Met.ofW (cc := b_N_add) (maxL := 9) (ret := (some .int)) (by decide) rfl ?_
  intro p e s m args below meth c s₁ B hml hv
  obtain ⟨rfl, hsz, hP, hK, hD0, hN⟩ := hv
  have xc : xC p s m _ meth c b_N_add 9 lwG qR1 (some .int) := ⟨B.exec, B.bytes, hml, findClass_of_methodNamed B.named, fun w h => atoms_spec (ws := (.code y_N_add b_N_add 9 (some .int) :: lwG)) B.pre w (List.mem_cons_of_mem _ h), B.returns, B.notSynchronized⟩
  obtain ⟨hx, hb, hml, hown, hts, hr, hlocks⟩ := id xc
  subst hsz
  have hD : va_D (cAA L I F G s.heap.size) (WC L I F G) := hD0.self
  have hA0 : ∀ q : Nat, s.heap.size ≤ q → cAA L I F G s.heap.size q := fun q h => Or.inr h
  generalize cAA L I F G s.heap.size = A at hD hA0 ⊢
  have hA := hA0
  have hw : CW L A s.heap I F G s.heap [] := ⟨hP, hD, va_S.rf⟩
  have hl := lv_entry ([.ref (cA L 1), .int a1, .int a2, .int a3, .int a4, .int a5]) (n := 9) (Nat.le_of_ble_eq_true rfl)
  rw [lg_entry_eq]
  generalize (lg_sl ([.ref (cA L 1), .int a1, .int a2, .int a3, .int a4, .int a5]) ++ List.replicate (9 - (lg_sl ([.ref (cA L 1), .int a1, .int a2, .int a3, .int a4, .int a5])).length) Slot.unset).toArray = ls at hl ⊢
  have hl : lv_has ls 9 [(0, .ref (cA L 1)), (1, .int a1), (2, .int a2), (3, .int a3), (4, .int a4), (5, .int a5)] := hl
  refine lv_aload_n hx hb d_N_add_0 rfl (lv_at hl 0 rfl) ?_
  refine va_get (D := L.1) (ci := 1) (v := .int (I 1)) (C := qR1) (T := qT1) (N := 13) hx hb hts qi1 hown hK hw.1 1 rfl rfl 0 (by decide) (hts _ wG88) (fun _ h9 => h9) rfl d_N_add_1 ?_
  refine lv_topi (fun x_1 ex_1 => ?_)
  replace h := h x_1 ex_1
  refine lv_istore (lv' := [(6, .int x_1), (0, .ref (cA L 1)), (1, .int a1), (2, .int a2), (3, .int a3), (4, .int a4), (5, .int a5)]) hx hb d_N_add_4 hl (by decide) rfl (fun ls hl => ?_)
  refine lv_aload_n hx hb d_N_add_6 rfl (lv_at hl 1 rfl) ?_
  refine va_get (D := L.1) (ci := 1) (v := .ref (cA L 16)) (C := qR1) (T := qT1) (N := 13) hx hb hts qi1 hown hK hw.1 1 rfl rfl 7 (by decide) (hts _ wG102) (fun _ h9 => h9) rfl d_N_add_7 ?_
  refine lv_iload hx hb d_N_add_10 (lv_at hl 6 rfl) ?_
  obtain ⟨hi_2, h⟩ := h
  refine c_iald hx hb hK hw.1 6 (by decide) rfl hi_2 d_N_add_12 ?_
  refine lv_topi (fun x_3 ex_3 => ?_)
  replace h := h x_3 ex_3
  refine lv_istore (lv' := [(7, .int x_3), (6, .int x_1), (0, .ref (cA L 1)), (1, .int a1), (2, .int a2), (3, .int a3), (4, .int a4), (5, .int a5)]) hx hb d_N_add_13 hl (by decide) rfl (fun ls hl => ?_)
  refine lv_iload hx hb d_N_add_15 (lv_at hl 0 rfl) ?_
  refine lv_iload_n hx hb d_N_add_17 rfl (lv_at hl 3 rfl) ?_
  refine vp_callSi (va_runSN (As := [.int a1]) (rest := [.int x_3]) ⟨hx, hb, hml, hown, hts⟩ (c_F_pinsOfKind l a1 _ h) ⟨va_cnB 1 hts (gC wG332) rfl rfl rfl (hN.1) (hts _ wG48) (by decide +kernel) ⟨Nat.le_of_ble_eq_true rfl, Nat.le_of_ble_eq_true rfl⟩, hts _ wG331, trivial⟩ ⟨sPc_blind _, fun U hU hW => ⟨rfl, trivial⟩⟩ rfl rfl hl.1 rfl (lv_room (Nat.le_of_ble_eq_true rfl)) d_N_add_18 ⟨Nat.le_of_ble_eq_true rfl, Nat.le_of_ble_eq_true rfl⟩).run (fun r_4 h => ?_)
  refine lv_iadd hx hb d_N_add_21 ?_
  refine lv_iconst (v := 1) hx hb d_N_add_22 (by decide) ?_
  refine lv_isub hx hb d_N_add_23 ?_
  refine lv_topi (fun x_5 ex_5 => ?_)
  replace h := h x_5 ex_5
  refine lv_istore (lv' := [(8, .int x_5), (7, .int x_3), (6, .int x_1), (0, .ref (cA L 1)), (1, .int a1), (2, .int a2), (3, .int a3), (4, .int a4), (5, .int a5)]) hx hb d_N_add_24 hl (by decide) rfl (fun ls hl => ?_)
  refine lv_aload_n hx hb d_N_add_26 rfl (lv_at hl 3 rfl) ?_
  refine va_get (D := L.1) (ci := 1) (v := .ref (cA L 10)) (C := qR1) (T := qT1) (N := 13) hx hb hts qi1 hown hK hw.1 1 rfl rfl 1 (by decide) (hts _ wG91) (fun _ h9 => h9) rfl d_N_add_27 ?_
  refine lv_iload hx hb d_N_add_30 (lv_at hl 2 rfl) ?_
  refine lv_iload_n hx hb d_N_add_32 rfl (lv_at hl 4 rfl) ?_
  obtain ⟨hi_6, h⟩ := h
  refine c_iast hx hb hK hw 0 (by decide) rfl hi_6 d_N_add_33 (fun H locs hw => ?_)
  obtain ⟨F_7, eF_7⟩ : ∃ y : MF, y = setF F 0 (upd (F 0) x_1.toNatClampNeg a1) := ⟨_, rfl⟩
  rw [← eF_7] at hw
  replace h := h F_7 eF_7
  refine lv_aload_n hx hb d_N_add_34 rfl (lv_at hl 3 rfl) ?_
  refine va_get (D := L.1) (ci := 1) (v := .ref (cA L 11)) (C := qR1) (T := qT1) (N := 13) hx hb hts qi1 hown hK hw.1 1 rfl rfl 2 (by decide) (hts _ wG93) (fun _ h9 => h9) rfl d_N_add_35 ?_
  refine lv_iload hx hb d_N_add_38 (lv_at hl 2 rfl) ?_
  refine lv_iload_n hx hb d_N_add_40 rfl (lv_at hl 5 rfl) ?_
  obtain ⟨hi_8, h⟩ := h
  refine c_iast hx hb hK hw 1 (by decide) rfl hi_8 d_N_add_41 (fun H locs hw => ?_)
  obtain ⟨F_9, eF_9⟩ : ∃ y : MF, y = setF F_7 1 (upd (F_7 1) x_1.toNatClampNeg a2) := ⟨_, rfl⟩
  rw [← eF_9] at hw
  replace h := h F_9 eF_9
  refine lv_aload_n hx hb d_N_add_42 rfl (lv_at hl 3 rfl) ?_
  refine va_get (D := L.1) (ci := 1) (v := .ref (cA L 12)) (C := qR1) (T := qT1) (N := 13) hx hb hts qi1 hown hK hw.1 1 rfl rfl 3 (by decide) (hts _ wG95) (fun _ h9 => h9) rfl d_N_add_43 ?_
  refine lv_iload hx hb d_N_add_46 (lv_at hl 2 rfl) ?_
  refine lv_iload_n hx hb d_N_add_48 rfl (lv_at hl 6 rfl) ?_
  obtain ⟨hi_10, h⟩ := h
  refine c_iast hx hb hK hw 2 (by decide) rfl hi_10 d_N_add_49 (fun H locs hw => ?_)
  obtain ⟨F_11, eF_11⟩ : ∃ y : MF, y = setF F_9 2 (upd (F_9 2) x_1.toNatClampNeg a3) := ⟨_, rfl⟩
  rw [← eF_11] at hw
  replace h := h F_11 eF_11
  refine lv_aload_n hx hb d_N_add_50 rfl (lv_at hl 3 rfl) ?_
  refine va_get (D := L.1) (ci := 1) (v := .ref (cA L 13)) (C := qR1) (T := qT1) (N := 13) hx hb hts qi1 hown hK hw.1 1 rfl rfl 4 (by decide) (hts _ wG97) (fun _ h9 => h9) rfl d_N_add_51 ?_
  refine lv_iload hx hb d_N_add_54 (lv_at hl 2 rfl) ?_
  refine lv_iload hx hb d_N_add_56 (lv_at hl 7 rfl) ?_
  obtain ⟨hi_12, h⟩ := h
  refine c_iast hx hb hK hw 3 (by decide) rfl hi_12 d_N_add_58 (fun H locs hw => ?_)
  obtain ⟨F_13, eF_13⟩ : ∃ y : MF, y = setF F_11 3 (upd (F_11 3) x_1.toNatClampNeg a4) := ⟨_, rfl⟩
  rw [← eF_13] at hw
  replace h := h F_13 eF_13
  refine lv_aload_n hx hb d_N_add_59 rfl (lv_at hl 3 rfl) ?_
  refine va_get (D := L.1) (ci := 1) (v := .ref (cA L 14)) (C := qR1) (T := qT1) (N := 13) hx hb hts qi1 hown hK hw.1 1 rfl rfl 5 (by decide) (hts _ wG99) (fun _ h9 => h9) rfl d_N_add_60 ?_
  refine lv_iload hx hb d_N_add_63 (lv_at hl 2 rfl) ?_
  refine lv_iload hx hb d_N_add_65 (lv_at hl 8 rfl) ?_
  obtain ⟨hi_14, h⟩ := h
  refine c_iast hx hb hK hw 4 (by decide) rfl hi_14 d_N_add_67 (fun H locs hw => ?_)
  obtain ⟨F_15, eF_15⟩ : ∃ y : MF, y = setF F_13 4 (upd (F_13 4) x_1.toNatClampNeg a5) := ⟨_, rfl⟩
  rw [← eF_15] at hw
  replace h := h F_15 eF_15
  refine lv_aload_n hx hb d_N_add_68 rfl (lv_at hl 3 rfl) ?_
  refine va_get (D := L.1) (ci := 1) (v := .ref (cA L 15)) (C := qR1) (T := qT1) (N := 13) hx hb hts qi1 hown hK hw.1 1 rfl rfl 6 (by decide) (hts _ wG101) (fun _ h9 => h9) rfl d_N_add_69 ?_
  refine lv_iload hx hb d_N_add_72 (lv_at hl 2 rfl) ?_
  refine lv_iload hx hb d_N_add_74 (lv_at hl 1 rfl) ?_
  obtain ⟨hi_16, h⟩ := h
  refine c_iast hx hb hK hw 5 (by decide) rfl hi_16 d_N_add_76 (fun H locs hw => ?_)
  obtain ⟨F_17, eF_17⟩ : ∃ y : MF, y = setF F_15 5 (upd (F_15 5) x_1.toNatClampNeg x_3) := ⟨_, rfl⟩
  rw [← eF_17] at hw
  replace h := h F_17 eF_17
  refine lv_aload_n hx hb d_N_add_77 rfl (lv_at hl 3 rfl) ?_
  refine va_get (D := L.1) (ci := 1) (v := .ref (cA L 19)) (C := qR1) (T := qT1) (N := 13) hx hb hts qi1 hown hK hw.1 1 rfl rfl 12 (by decide) (hts _ wG109) (fun _ h9 => h9) rfl d_N_add_78 ?_
  refine lv_iload hx hb d_N_add_81 (lv_at hl 7 rfl) ?_
  refine lv_iload hx hb d_N_add_83 (lv_at hl 2 rfl) ?_
  obtain ⟨hi_18, h⟩ := h
  refine c_iast hx hb hK hw 9 (by decide) rfl hi_18 d_N_add_85 (fun H locs hw => ?_)
  obtain ⟨F_19, eF_19⟩ : ∃ y : MF, y = setF F_17 9 (upd (F_17 9) a4.toNatClampNeg x_1) := ⟨_, rfl⟩
  rw [← eF_19] at hw
  replace h := h F_19 eF_19
  refine lv_aload_n hx hb d_N_add_86 rfl (lv_at hl 3 rfl) ?_
  refine lv_iload hx hb d_N_add_87 (lv_at hl 8 rfl) ?_
  refine lv_iload hx hb d_N_add_89 (lv_at hl 1 rfl) ?_
  refine lv_iload_n hx hb d_N_add_91 rfl (lv_at hl 5 rfl) ?_
  refine c_callv (va_runV (As := [.int a5, .int x_3, .int a2]) (rest := []) ⟨hx, hb, hml, hown, hts⟩ (c_N_addPin l L a5 x_3 a2 I F_19 G _ _ h) (cwV 3 hts (gV wG357 wG359 wG1 wG49 wG360) rfl rfl rfl (by decide +kernel) ⟨Nat.le_of_ble_eq_true rfl, Nat.le_of_ble_eq_true rfl⟩) (cPrm1 hK hN hw) rfl rfl hl.1 rfl (lv_room (Nat.le_of_ble_eq_true rfl)) d_N_add_92 ⟨Nat.le_of_ble_eq_true rfl, Nat.le_of_ble_eq_true rfl⟩) hw hA (fun I_20 F_20 G_20 H locs h hw => ?_)
  refine lv_iload_n hx hb d_N_add_95 rfl (lv_at hl 4 rfl) ?_
  refine vp_callSi (va_runSN (As := [.int a1]) (rest := []) ⟨hx, hb, hml, hown, hts⟩ (c_F_hasOneInput l a1 _ h) ⟨va_cnB 1 hts (gC wG324) rfl rfl rfl (hN.2.1) (hts _ wG48) (by decide +kernel) ⟨Nat.le_of_ble_eq_true rfl, Nat.le_of_ble_eq_true rfl⟩, hts _ wG323, trivial⟩ ⟨sPc_blind _, fun U hU hW => ⟨rfl, trivial⟩⟩ rfl rfl hl.1 rfl (lv_room (Nat.le_of_ble_eq_true rfl)) d_N_add_96 ⟨Nat.le_of_ble_eq_true rfl, Nat.le_of_ble_eq_true rfl⟩).run (fun r_21 h => ?_)
  refine lv_if_ne (tgt := 113) hx hb d_N_add_99 (by decide) (fun c_22 => ?_) (fun c_22 => ?_)
  · replace h := h.1 c_22
    refine lv_aload_n hx hb d_N_add_113 rfl (lv_at hl 3 rfl) ?_
    refine lv_iload hx hb d_N_add_114 (lv_at hl 8 rfl) ?_
    refine lv_iload hx hb d_N_add_116 (lv_at hl 0 rfl) ?_
    refine lv_iload hx hb d_N_add_118 (lv_at hl 7 rfl) ?_
    refine c_callv (va_runV (As := [.int a5, .int x_5, .int a4]) (rest := []) ⟨hx, hb, hml, hown, hts⟩ (c_N_addPin l L a5 x_5 a4 I_20 F_20 G_20 _ _ h) (cwV 3 hts (gV wG357 wG359 wG1 wG49 wG360) rfl rfl rfl (by decide +kernel) ⟨Nat.le_of_ble_eq_true rfl, Nat.le_of_ble_eq_true rfl⟩) (cPrm1 hK hN hw) rfl rfl hl.1 rfl (lv_room (Nat.le_of_ble_eq_true rfl)) d_N_add_120 ⟨Nat.le_of_ble_eq_true rfl, Nat.le_of_ble_eq_true rfl⟩) hw hA (fun I_23 F_23 G_23 H locs h hw => ?_)
    refine lv_aload_n hx hb d_N_add_123 rfl (lv_at hl 3 rfl) ?_
    refine va_get (D := L.1) (ci := 1) (v := .ref (cA L 16)) (C := qR1) (T := qT1) (N := 13) hx hb hts qi1 hown hK hw.1 1 rfl rfl 7 (by decide) (hts _ wG102) (fun _ h9 => h9) rfl d_N_add_124 ?_
    refine lv_iload hx hb d_N_add_127 (lv_at hl 8 rfl) ?_
    refine lv_iload hx hb d_N_add_129 (lv_at hl 0 rfl) ?_
    refine lv_iconst (v := 2) hx hb d_N_add_131 (by decide) ?_
    refine lv_iadd hx hb d_N_add_132 ?_
    obtain ⟨hi_24, h⟩ := h
    refine c_iast hx hb hK hw 6 (by decide) rfl hi_24 d_N_add_133 (fun H locs hw => ?_)
    obtain ⟨F_25, eF_25⟩ : ∃ y : MF, y = setF F_23 6 (upd (F_23 6) a5.toNatClampNeg (x_5 + 2)) := ⟨_, rfl⟩
    rw [← eF_25] at hw
    replace h := h F_25 eF_25
    refine lv_aload_n hx hb d_N_add_134 rfl (lv_at hl 3 rfl) ?_
    refine lv_dup hx hb d_N_add_135 rfl ?_
    refine va_get (D := L.1) (ci := 1) (v := .int (I_23 1)) (C := qR1) (T := qT1) (N := 13) hx hb hts qi1 hown hK hw.1 1 rfl rfl 0 (by decide) (hts _ wG88) (fun _ h9 => h9) rfl d_N_add_136 ?_
    refine lv_iconst (v := 1) hx hb d_N_add_139 (by decide) ?_
    refine lv_iadd hx hb d_N_add_140 ?_
    refine va_put (D := L.1) (ci := 1) (v := .int ((I_23 1) + 1)) (ty := .int) (C := qR1) (T := qT1) (N := 13) hx hb hts qi1 qy1 qk1 qn1 hown hK hw.1 hw.2.1 hw.2.2 1 rfl rfl 0 (by decide) (hts _ wG88) (fun _ h9 => h9) rfl (by decide +kernel) rfl rfl (Nat.le_of_ble_eq_true rfl) d_N_add_141 (fun H locs h1 h2 h3 => ?_)
    replace hw : CW L A s.heap (setI I_23 1 ((I_23 1) + 1)) F_25 G_23 H locs := ⟨h1, h2, h3⟩
    clear h1 h2 h3
    obtain ⟨I_26, eI_26⟩ : ∃ y : MI, y = setI I_23 1 ((I_23 1) + 1) := ⟨_, rfl⟩
    rw [← eI_26] at hw
    replace h := h I_26 eI_26
    refine lv_iload hx hb d_N_add_144 (lv_at hl 2 rfl) ?_
    exact W.iret hx hb hr (fun t ht hW => ⟨⟨_, (I_26, F_25, G_23), rfl, h, by rw [ht]; exact hw.1, va_K.moved hW.alike hK, hw.2.1⟩, hw.2.2.F ht⟩) hw.2.2.2.2 d_N_add_146
  · replace h := h.2 c_22
    refine lv_aload_n hx hb d_N_add_102 rfl (lv_at hl 3 rfl) ?_
    refine lv_iload hx hb d_N_add_103 (lv_at hl 8 rfl) ?_
    refine lv_iload hx hb d_N_add_105 (lv_at hl 1 rfl) ?_
    refine lv_iconst (v := 1) hx hb d_N_add_107 (by decide) ?_
    refine lv_iadd hx hb d_N_add_108 ?_
    refine lv_iload_n hx hb d_N_add_109 rfl (lv_at hl 6 rfl) ?_
    refine c_callv (va_runV (As := [.int a5, .int (x_3 + 1), .int a3]) (rest := []) ⟨hx, hb, hml, hown, hts⟩ (c_N_addPin l L a5 (x_3 + 1) a3 I_20 F_20 G_20 _ _ h) (cwV 3 hts (gV wG357 wG359 wG1 wG49 wG360) rfl rfl rfl (by decide +kernel) ⟨Nat.le_of_ble_eq_true rfl, Nat.le_of_ble_eq_true rfl⟩) (cPrm1 hK hN hw) rfl rfl hl.1 rfl (lv_room (Nat.le_of_ble_eq_true rfl)) d_N_add_110 ⟨Nat.le_of_ble_eq_true rfl, Nat.le_of_ble_eq_true rfl⟩) hw hA (fun I_27 F_27 G_27 H locs h hw => ?_)
    refine lv_aload_n hx hb d_N_add_113 rfl (lv_at hl 3 rfl) ?_
    refine lv_iload hx hb d_N_add_114 (lv_at hl 8 rfl) ?_
    refine lv_iload hx hb d_N_add_116 (lv_at hl 0 rfl) ?_
    refine lv_iload hx hb d_N_add_118 (lv_at hl 7 rfl) ?_
    refine c_callv (va_runV (As := [.int a5, .int x_5, .int a4]) (rest := []) ⟨hx, hb, hml, hown, hts⟩ (c_N_addPin l L a5 x_5 a4 I_27 F_27 G_27 _ _ h) (cwV 3 hts (gV wG357 wG359 wG1 wG49 wG360) rfl rfl rfl (by decide +kernel) ⟨Nat.le_of_ble_eq_true rfl, Nat.le_of_ble_eq_true rfl⟩) (cPrm1 hK hN hw) rfl rfl hl.1 rfl (lv_room (Nat.le_of_ble_eq_true rfl)) d_N_add_120 ⟨Nat.le_of_ble_eq_true rfl, Nat.le_of_ble_eq_true rfl⟩) hw hA (fun I_28 F_28 G_28 H locs h hw => ?_)
    refine lv_aload_n hx hb d_N_add_123 rfl (lv_at hl 3 rfl) ?_
    refine va_get (D := L.1) (ci := 1) (v := .ref (cA L 16)) (C := qR1) (T := qT1) (N := 13) hx hb hts qi1 hown hK hw.1 1 rfl rfl 7 (by decide) (hts _ wG102) (fun _ h9 => h9) rfl d_N_add_124 ?_
    refine lv_iload hx hb d_N_add_127 (lv_at hl 8 rfl) ?_
    refine lv_iload hx hb d_N_add_129 (lv_at hl 0 rfl) ?_
    refine lv_iconst (v := 2) hx hb d_N_add_131 (by decide) ?_
    refine lv_iadd hx hb d_N_add_132 ?_
    obtain ⟨hi_29, h⟩ := h
    refine c_iast hx hb hK hw 6 (by decide) rfl hi_29 d_N_add_133 (fun H locs hw => ?_)
    obtain ⟨F_30, eF_30⟩ : ∃ y : MF, y = setF F_28 6 (upd (F_28 6) a5.toNatClampNeg (x_5 + 2)) := ⟨_, rfl⟩
    rw [← eF_30] at hw
    replace h := h F_30 eF_30
    refine lv_aload_n hx hb d_N_add_134 rfl (lv_at hl 3 rfl) ?_
    refine lv_dup hx hb d_N_add_135 rfl ?_
    refine va_get (D := L.1) (ci := 1) (v := .int (I_28 1)) (C := qR1) (T := qT1) (N := 13) hx hb hts qi1 hown hK hw.1 1 rfl rfl 0 (by decide) (hts _ wG88) (fun _ h9 => h9) rfl d_N_add_136 ?_
    refine lv_iconst (v := 1) hx hb d_N_add_139 (by decide) ?_
    refine lv_iadd hx hb d_N_add_140 ?_
    refine va_put (D := L.1) (ci := 1) (v := .int ((I_28 1) + 1)) (ty := .int) (C := qR1) (T := qT1) (N := 13) hx hb hts qi1 qy1 qk1 qn1 hown hK hw.1 hw.2.1 hw.2.2 1 rfl rfl 0 (by decide) (hts _ wG88) (fun _ h9 => h9) rfl (by decide +kernel) rfl rfl (Nat.le_of_ble_eq_true rfl) d_N_add_141 (fun H locs h1 h2 h3 => ?_)
    replace hw : CW L A s.heap (setI I_28 1 ((I_28 1) + 1)) F_30 G_28 H locs := ⟨h1, h2, h3⟩
    clear h1 h2 h3
    obtain ⟨I_31, eI_31⟩ : ∃ y : MI, y = setI I_28 1 ((I_28 1) + 1) := ⟨_, rfl⟩
    rw [← eI_31] at hw
    replace h := h I_31 eI_31
    refine lv_iload hx hb d_N_add_144 (lv_at hl 2 rfl) ?_
    exact W.iret hx hb hr (fun t ht hW => ⟨⟨_, (I_31, F_30, G_28), rfl, h, by rw [ht]; exact hw.1, va_K.moved hW.alike hK, hw.2.1⟩, hw.2.2.F ht⟩) hw.2.2.2.2 d_N_add_146
