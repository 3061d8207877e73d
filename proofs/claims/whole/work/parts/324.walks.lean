abbrev rm_M_isPoint : Room := { frames := 1, cells := 0, slots := 0, locals := 22 }
set_option maxHeartbeats 4000000 in
set_option maxRecDepth 100000 in
theorem c_M_isPoint (l : Launch) (L : cL) (a1 : Int32) (a2 : Int32) (I : MI) (F : MF) (G : MG) (post : Int32 → Prop) (h : wp_M_isPoint a1 a2 I F G post) : Met l y_M_isPoint (.code y_M_isPoint b_M_isPoint 3 (some .boolean) :: lwG) rm_M_isPoint (mPc L I F G [.ref (cA L 0), .int a1, .int a2]) (vp_Si post) 0 0 (fun _ => False) := by
  refine Met.ofW (cc := b_M_isPoint) (maxL := 3) (ret := (some .boolean)) (by decide) rfl ?_
  intro p e s m args below meth c s₁ B hml hv
  obtain ⟨rfl, hP, hK, hN⟩ := hv
  have xc : xC p s m _ meth c b_M_isPoint 3 lwG qR5 (some .boolean) := ⟨B.exec, B.bytes, hml, findClass_of_methodNamed B.named, fun w h => atoms_spec (ws := (.code y_M_isPoint b_M_isPoint 3 (some .boolean) :: lwG)) B.pre w (List.mem_cons_of_mem _ h), B.returns, B.notSynchronized⟩
  obtain ⟨hx, hb, hml, hown, hts, hr, hlocks⟩ := id xc
  have hl := lv_entry ([.ref (cA L 0), .int a1, .int a2]) (n := 3) (Nat.le_of_ble_eq_true rfl)
  rw [lg_entry_eq]
  generalize (lg_sl ([.ref (cA L 0), .int a1, .int a2]) ++ List.replicate (3 - (lg_sl ([.ref (cA L 0), .int a1, .int a2])).length) Slot.unset).toArray = ls at hl ⊢
  have hl : lv_has ls 3 [(0, .ref (cA L 0)), (1, .int a1), (2, .int a2)] := hl
  refine lv_iload_n hx hb d_M_isPoint_0 rfl (lv_at hl 1 rfl) ?_
  refine lv_iconst (v := 0) hx hb d_M_isPoint_1 (by decide) ?_
  refine lv_aload_n hx hb d_M_isPoint_2 rfl (lv_at hl 0 rfl) ?_
  refine va_get (D := L.1) (ci := 5) (v := .int (I 2)) (C := qR5) (T := qT5) (N := 16) hx hb hts qi5 hown hK hP 0 rfl rfl 2 (by decide) (hts _ wG734) (fun _ h9 => h9) rfl d_M_isPoint_3 ?_
  refine lv_iconst (v := 1) hx hb d_M_isPoint_6 (by decide) ?_
  refine lv_iadd hx hb d_M_isPoint_7 ?_
  refine vp_callSi (va_runS (As := [.int a1, .int 0, .int ((I 2) + 1)]) (rest := []) ⟨hx, hb, hml, hown, hts⟩ (c_M_in l a1 0 ((I 2) + 1) _ h) (va_cwS 3 hts (gS wG790 wG791 wG54 wG792) rfl rfl rfl (by decide +kernel) ⟨Nat.le_of_ble_eq_true rfl, Nat.le_of_ble_eq_true rfl⟩) ⟨sPc_blind _, fun U hU hW => ⟨rfl, trivial⟩⟩ rfl rfl hl.1 rfl (lv_room (Nat.le_of_ble_eq_true rfl)) d_M_isPoint_8 ⟨Nat.le_of_ble_eq_true rfl, Nat.le_of_ble_eq_true rfl⟩).run (fun r_1 h => ?_)
  refine lv_if_eq (tgt := 28) hx hb d_M_isPoint_11 (by decide) (fun c_2 => ?_) (fun c_2 => ?_)
  · replace h := h.1 c_2
    refine lv_iconst (v := 0) hx hb d_M_isPoint_28 (by decide) ?_
    exact W.zret hx hb hr rfl (fun t ht _ => ⟨_, rfl, h, ht⟩) (fun _ h9 => nomatch h9) d_M_isPoint_29
  · replace h := h.2 c_2
    refine lv_iload_n hx hb d_M_isPoint_14 rfl (lv_at hl 2 rfl) ?_
    refine lv_iconst (v := 0) hx hb d_M_isPoint_15 (by decide) ?_
    refine lv_bipush (v := 23) hx hb d_M_isPoint_16 (by decide) ?_
    refine vp_callSi (va_runS (As := [.int a2, .int 0, .int 23]) (rest := []) ⟨hx, hb, hml, hown, hts⟩ (c_M_in l a2 0 23 _ h) (va_cwS 3 hts (gS wG790 wG791 wG54 wG792) rfl rfl rfl (by decide +kernel) ⟨Nat.le_of_ble_eq_true rfl, Nat.le_of_ble_eq_true rfl⟩) ⟨sPc_blind _, fun U hU hW => ⟨rfl, trivial⟩⟩ rfl rfl hl.1 rfl (lv_room (Nat.le_of_ble_eq_true rfl)) d_M_isPoint_18 ⟨Nat.le_of_ble_eq_true rfl, Nat.le_of_ble_eq_true rfl⟩).run (fun r_3 h => ?_)
    refine lv_if_eq (tgt := 28) hx hb d_M_isPoint_21 (by decide) (fun c_4 => ?_) (fun c_4 => ?_)
    · replace h := h.1 c_4
      refine lv_iconst (v := 0) hx hb d_M_isPoint_28 (by decide) ?_
      exact W.zret hx hb hr rfl (fun t ht _ => ⟨_, rfl, h, ht⟩) (fun _ h9 => nomatch h9) d_M_isPoint_29
    · replace h := h.2 c_4
      refine lv_iconst (v := 1) hx hb d_M_isPoint_24 (by decide) ?_
      refine lv_goto (tgt := 29) hx hb d_M_isPoint_25 (by decide) ?_
      exact W.zret hx hb hr rfl (fun t ht _ => ⟨_, rfl, h, ht⟩) (fun _ h9 => nomatch h9) d_M_isPoint_29
abbrev rm_M_mask : Room := { frames := 2, cells := 0, slots := 0, locals := 44 }
set_option maxHeartbeats 4000000 in
set_option maxRecDepth 100000 in
theorem c_M_mask (l : Launch) (L : cL) (a1 : Int32) (a2 : Int32) (I : MI) (F : MF) (G : MG) (sz : Nat) (post : Int32 → MI → MF → MG → Prop) (h : wp_M_mask a1 a2 I F G post) : Met l y_M_mask (.code y_M_mask b_M_mask 3 (some .int) :: lwG) rm_M_mask (mPm L I F G sz [.ref (cA L 0), .int a1, .int a2]) (mQi L (mAA L I F G sz) post (mAA L I F G sz)) 0 0 (mAA L I F G sz) := by
  refine Met.ofW (cc := b_M_mask) (maxL := 3) (ret := (some .int)) (by decide) rfl ?_
  intro p e s m args below meth c s₁ B hml hv
  obtain ⟨rfl, hsz, hP, hK, hD0, hN⟩ := hv
  have xc : xC p s m _ meth c b_M_mask 3 lwG qR5 (some .int) := ⟨B.exec, B.bytes, hml, findClass_of_methodNamed B.named, fun w h => atoms_spec (ws := (.code y_M_mask b_M_mask 3 (some .int) :: lwG)) B.pre w (List.mem_cons_of_mem _ h), B.returns, B.notSynchronized⟩
  obtain ⟨hx, hb, hml, hown, hts, hr, hlocks⟩ := id xc
  subst hsz
  have hD : va_D (mAA L I F G s.heap.size) (WM L I F G) := hD0.self
  have hA0 : ∀ q : Nat, s.heap.size ≤ q → mAA L I F G s.heap.size q := fun q h => Or.inr h
  generalize mAA L I F G s.heap.size = A at hD hA0 ⊢
  have hA := hA0
  have hw : MW L A s.heap I F G s.heap [] := ⟨hP, hD, va_S.rf⟩
  have hl := lv_entry ([.ref (cA L 0), .int a1, .int a2]) (n := 3) (Nat.le_of_ble_eq_true rfl)
  rw [lg_entry_eq]
  generalize (lg_sl ([.ref (cA L 0), .int a1, .int a2]) ++ List.replicate (3 - (lg_sl ([.ref (cA L 0), .int a1, .int a2])).length) Slot.unset).toArray = ls at hl ⊢
  have hl : lv_has ls 3 [(0, .ref (cA L 0)), (1, .int a1), (2, .int a2)] := hl
  refine lv_aload_n hx hb d_M_mask_0 rfl (lv_at hl 0 rfl) ?_
  refine va_get (D := L.1) (ci := 5) (v := .int (I 2)) (C := qR5) (T := qT5) (N := 16) hx hb hts qi5 hown hK hw.1 0 rfl rfl 2 (by decide) (hts _ wG734) (fun _ h9 => h9) rfl d_M_mask_1 ?_
  refine lv_iconst (v := (-1)) hx hb d_M_mask_4 (by decide) ?_
  refine lv_icmp_ne (tgt := 14) hx hb d_M_mask_5 (by decide) (fun c_1 => ?_) (fun c_1 => ?_)
  · replace h := h.1 c_1
    refine lv_aload_n hx hb d_M_mask_14 rfl (lv_at hl 0 rfl) ?_
    refine lv_iload_n hx hb d_M_mask_15 rfl (lv_at hl 1 rfl) ?_
    refine lv_iload_n hx hb d_M_mask_16 rfl (lv_at hl 2 rfl) ?_
    refine vp_callSi (va_runV (As := [.int a1, .int a2]) (rest := []) ⟨hx, hb, hml, hown, hts⟩ (c_M_isPoint l L a1 a2 I F G _ h) (cwV 2 hts (gV wG881 wG883 wG37 wG54 wG884) rfl rfl rfl (by decide +kernel) ⟨Nat.le_of_ble_eq_true rfl, Nat.le_of_ble_eq_true rfl⟩) (mPre hK hN hw.1) rfl rfl hl.1 rfl (lv_room (Nat.le_of_ble_eq_true rfl)) d_M_mask_17 ⟨Nat.le_of_ble_eq_true rfl, Nat.le_of_ble_eq_true rfl⟩).run (fun r_2 h => ?_)
    refine lv_if_ne (tgt := 29) hx hb d_M_mask_20 (by decide) (fun c_3 => ?_) (fun c_3 => ?_)
    · replace h := h.1 c_3
      refine lv_aload_n hx hb d_M_mask_29 rfl (lv_at hl 0 rfl) ?_
      refine lv_iconst (v := 0) hx hb d_M_mask_30 (by decide) ?_
      refine va_put (D := L.1) (ci := 5) (v := .int 0) (ty := .int) (C := qR5) (T := qT5) (N := 16) hx hb hts qi5 qy5 qk5 qn5 hown hK hw.1 hw.2.1 hw.2.2 0 rfl rfl 0 (by decide) (hts _ wG732) (fun _ h9 => h9) rfl (by decide +kernel) rfl rfl (Nat.le_of_ble_eq_true rfl) d_M_mask_31 (fun H locs h1 h2 h3 => ?_)
      replace hw : MW L A s.heap (setI I 0 0) F G H locs := ⟨h1, h2, h3⟩
      clear h1 h2 h3
      obtain ⟨I_4, eI_4⟩ : ∃ y : MI, y = setI I 0 0 := ⟨_, rfl⟩
      rw [← eI_4] at hw
      replace h := h I_4 eI_4
      refine lv_aload_n hx hb d_M_mask_34 rfl (lv_at hl 0 rfl) ?_
      refine va_get (D := L.1) (ci := 5) (v := .ref (cA L 10)) (C := qR5) (T := qT5) (N := 16) hx hb hts qi5 hown hK hw.1 0 rfl rfl 12 (by decide) (hts _ wG744) (fun _ h9 => h9) rfl d_M_mask_35 ?_
      refine lv_bipush (v := 24) hx hb d_M_mask_38 (by decide) ?_
      refine lv_iload_n hx hb d_M_mask_40 rfl (lv_at hl 1 rfl) ?_
      refine lv_imul hx hb d_M_mask_41 ?_
      refine lv_iload_n hx hb d_M_mask_42 rfl (lv_at hl 2 rfl) ?_
      refine lv_iadd hx hb d_M_mask_43 ?_
      obtain ⟨hi_5, h⟩ := h
      refine va_iald hx hb hK hw.1 10 0 rfl rfl hi_5 d_M_mask_44 ?_
      exact W.iret hx hb hr (fun t ht hW => ⟨⟨_, (I_4, F, G), rfl, h, by rw [ht]; exact hw.1, va_K.moved hW.alike hK, hw.2.1⟩, hw.2.2.F ht⟩) hw.2.2.2.2 d_M_mask_45
    · replace h := h.2 c_3
      refine lv_aload_n hx hb d_M_mask_23 rfl (lv_at hl 0 rfl) ?_
      refine lv_iconst (v := 2) hx hb d_M_mask_24 (by decide) ?_
      refine m_calli (va_runV (As := [.int 2]) (rest := []) ⟨hx, hb, hml, hown, hts⟩ (c_M_refuse l L 2 I F G _ _ h) (cwV 1 hts (gV wG793 wG795 wG20 wG54 wG796) rfl rfl rfl (by decide +kernel) ⟨Nat.le_of_ble_eq_true rfl, Nat.le_of_ble_eq_true rfl⟩) (mPrm hK hN hw) rfl rfl hl.1 rfl (lv_room (Nat.le_of_ble_eq_true rfl)) d_M_mask_25 ⟨Nat.le_of_ble_eq_true rfl, Nat.le_of_ble_eq_true rfl⟩) hw hA (fun r_6 I_7 F_7 G_7 H locs h hw => ?_)
      exact W.iret hx hb hr (fun t ht hW => ⟨⟨_, (I_7, F_7, G_7), rfl, h, by rw [ht]; exact hw.1, va_K.moved hW.alike hK, hw.2.1⟩, hw.2.2.F ht⟩) hw.2.2.2.2 d_M_mask_28
  · replace h := h.2 c_1
    refine lv_aload_n hx hb d_M_mask_8 rfl (lv_at hl 0 rfl) ?_
    refine lv_iconst (v := 1) hx hb d_M_mask_9 (by decide) ?_
    refine m_calli (va_runV (As := [.int 1]) (rest := []) ⟨hx, hb, hml, hown, hts⟩ (c_M_refuse l L 1 I F G _ _ h) (cwV 1 hts (gV wG793 wG795 wG20 wG54 wG796) rfl rfl rfl (by decide +kernel) ⟨Nat.le_of_ble_eq_true rfl, Nat.le_of_ble_eq_true rfl⟩) (mPrm hK hN hw) rfl rfl hl.1 rfl (lv_room (Nat.le_of_ble_eq_true rfl)) d_M_mask_10 ⟨Nat.le_of_ble_eq_true rfl, Nat.le_of_ble_eq_true rfl⟩) hw hA (fun r_8 I_9 F_9 G_9 H locs h hw => ?_)
    exact W.iret hx hb hr (fun t ht hW => ⟨⟨_, (I_9, F_9, G_9), rfl, h, by rw [ht]; exact hw.1, va_K.moved hW.alike hK, hw.2.1⟩, hw.2.2.F ht⟩) hw.2.2.2.2 d_M_mask_13
abbrev rm_M_damage : Room := { frames := 2, cells := 0, slots := 0, locals := 44 }
set_option maxHeartbeats 4000000 in
set_option maxRecDepth 100000 in
theorem c_M_damage (l : Launch) (L : cL) (a1 : Int32) (a2 : Int32) (a3 : Int32) (I : MI) (F : MF) (G : MG) (sz : Nat) (post : Int32 → MI → MF → MG → Prop) (h : wp_M_damage a1 a2 a3 I F G post) : Met l y_M_damage (.code y_M_damage b_M_damage 5 (some .int) :: lwG) rm_M_damage (mPm L I F G sz [.ref (cA L 0), .int a1, .int a2, .int a3]) (mQi L (mAA L I F G sz) post (mAA L I F G sz)) 0 0 (mAA L I F G sz) := by
  refine Met.ofW (cc := b_M_damage) (maxL := 5) (ret := (some .int)) (by decide) rfl ?_
  intro p e s m args below meth c s₁ B hml hv
  obtain ⟨rfl, hsz, hP, hK, hD0, hN⟩ := hv
  have xc : xC p s m _ meth c b_M_damage 5 lwG qR5 (some .int) := ⟨B.exec, B.bytes, hml, findClass_of_methodNamed B.named, fun w h => atoms_spec (ws := (.code y_M_damage b_M_damage 5 (some .int) :: lwG)) B.pre w (List.mem_cons_of_mem _ h), B.returns, B.notSynchronized⟩
  obtain ⟨hx, hb, hml, hown, hts, hr, hlocks⟩ := id xc
  subst hsz
  have hD : va_D (mAA L I F G s.heap.size) (WM L I F G) := hD0.self
  have hA0 : ∀ q : Nat, s.heap.size ≤ q → mAA L I F G s.heap.size q := fun q h => Or.inr h
  generalize mAA L I F G s.heap.size = A at hD hA0 ⊢
  have hA := hA0
  have hw : MW L A s.heap I F G s.heap [] := ⟨hP, hD, va_S.rf⟩
  have hl := lv_entry ([.ref (cA L 0), .int a1, .int a2, .int a3]) (n := 5) (Nat.le_of_ble_eq_true rfl)
  rw [lg_entry_eq]
  generalize (lg_sl ([.ref (cA L 0), .int a1, .int a2, .int a3]) ++ List.replicate (5 - (lg_sl ([.ref (cA L 0), .int a1, .int a2, .int a3])).length) Slot.unset).toArray = ls at hl ⊢
  have hl : lv_has ls 5 [(0, .ref (cA L 0)), (1, .int a1), (2, .int a2), (3, .int a3)] := hl
  refine lv_iload_n hx hb d_M_damage_0 rfl (lv_at hl 3 rfl) ?_
  refine lv_iconst (v := 0) hx hb d_M_damage_1 (by decide) ?_
  refine lv_bipush (v := 7) hx hb d_M_damage_2 (by decide) ?_
  refine vp_callSi (va_runS (As := [.int a3, .int 0, .int 7]) (rest := []) ⟨hx, hb, hml, hown, hts⟩ (c_M_in l a3 0 7 _ h) (va_cwS 3 hts (gS wG790 wG791 wG54 wG792) rfl rfl rfl (by decide +kernel) ⟨Nat.le_of_ble_eq_true rfl, Nat.le_of_ble_eq_true rfl⟩) ⟨sPc_blind _, fun U hU hW => ⟨rfl, trivial⟩⟩ rfl rfl hl.1 rfl (lv_room (Nat.le_of_ble_eq_true rfl)) d_M_damage_4 ⟨Nat.le_of_ble_eq_true rfl, Nat.le_of_ble_eq_true rfl⟩).run (fun r_1 h => ?_)
  refine lv_if_ne (tgt := 16) hx hb d_M_damage_7 (by decide) (fun c_2 => ?_) (fun c_2 => ?_)
  · replace h := h.1 c_2
    refine lv_aload_n hx hb d_M_damage_16 rfl (lv_at hl 0 rfl) ?_
    refine va_get (D := L.1) (ci := 5) (v := .int (I 2)) (C := qR5) (T := qT5) (N := 16) hx hb hts qi5 hown hK hw.1 0 rfl rfl 2 (by decide) (hts _ wG734) (fun _ h9 => h9) rfl d_M_damage_17 ?_
    refine lv_iconst (v := (-1)) hx hb d_M_damage_20 (by decide) ?_
    refine lv_icmp_ne (tgt := 30) hx hb d_M_damage_21 (by decide) (fun c_3 => ?_) (fun c_3 => ?_)
    · replace h := h.1 c_3
      refine lv_aload_n hx hb d_M_damage_30 rfl (lv_at hl 0 rfl) ?_
      refine lv_iload_n hx hb d_M_damage_31 rfl (lv_at hl 1 rfl) ?_
      refine lv_iload_n hx hb d_M_damage_32 rfl (lv_at hl 2 rfl) ?_
      refine vp_callSi (va_runV (As := [.int a1, .int a2]) (rest := []) ⟨hx, hb, hml, hown, hts⟩ (c_M_isPoint l L a1 a2 I F G _ h) (cwV 2 hts (gV wG881 wG883 wG37 wG54 wG884) rfl rfl rfl (by decide +kernel) ⟨Nat.le_of_ble_eq_true rfl, Nat.le_of_ble_eq_true rfl⟩) (mPre hK hN hw.1) rfl rfl hl.1 rfl (lv_room (Nat.le_of_ble_eq_true rfl)) d_M_damage_33 ⟨Nat.le_of_ble_eq_true rfl, Nat.le_of_ble_eq_true rfl⟩).run (fun r_4 h => ?_)
      refine lv_if_ne (tgt := 45) hx hb d_M_damage_36 (by decide) (fun c_5 => ?_) (fun c_5 => ?_)
      · replace h := h.1 c_5
        refine lv_aload_n hx hb d_M_damage_45 rfl (lv_at hl 0 rfl) ?_
        refine lv_iconst (v := 0) hx hb d_M_damage_46 (by decide) ?_
        refine va_put (D := L.1) (ci := 5) (v := .int 0) (ty := .int) (C := qR5) (T := qT5) (N := 16) hx hb hts qi5 qy5 qk5 qn5 hown hK hw.1 hw.2.1 hw.2.2 0 rfl rfl 0 (by decide) (hts _ wG732) (fun _ h9 => h9) rfl (by decide +kernel) rfl rfl (Nat.le_of_ble_eq_true rfl) d_M_damage_47 (fun H locs h1 h2 h3 => ?_)
        replace hw : MW L A s.heap (setI I 0 0) F G H locs := ⟨h1, h2, h3⟩
        clear h1 h2 h3
        obtain ⟨I_6, eI_6⟩ : ∃ y : MI, y = setI I 0 0 := ⟨_, rfl⟩
        rw [← eI_6] at hw
        replace h := h I_6 eI_6
        refine lv_aload_n hx hb d_M_damage_50 rfl (lv_at hl 0 rfl) ?_
        refine va_get (D := L.1) (ci := 5) (v := .ref (cA L 10)) (C := qR5) (T := qT5) (N := 16) hx hb hts qi5 hown hK hw.1 0 rfl rfl 12 (by decide) (hts _ wG744) (fun _ h9 => h9) rfl d_M_damage_51 ?_
        refine lv_bipush (v := 24) hx hb d_M_damage_54 (by decide) ?_
        refine lv_iload_n hx hb d_M_damage_56 rfl (lv_at hl 1 rfl) ?_
        refine lv_imul hx hb d_M_damage_57 ?_
        refine lv_iload_n hx hb d_M_damage_58 rfl (lv_at hl 2 rfl) ?_
        refine lv_iadd hx hb d_M_damage_59 ?_
        obtain ⟨hi_7, h⟩ := h
        refine va_iald hx hb hK hw.1 10 0 rfl rfl hi_7 d_M_damage_60 ?_
        refine lv_topi (fun x_8 ex_8 => ?_)
        replace h := h x_8 ex_8
        refine lv_istore (lv' := [(4, .int x_8), (0, .ref (cA L 0)), (1, .int a1), (2, .int a2), (3, .int a3)]) hx hb d_M_damage_61 hl (by decide) rfl (fun ls hl => ?_)
        refine lv_aload_n hx hb d_M_damage_63 rfl (lv_at hl 1 rfl) ?_
        refine va_get (D := L.1) (ci := 5) (v := .ref (cA L 10)) (C := qR5) (T := qT5) (N := 16) hx hb hts qi5 hown hK hw.1 0 rfl rfl 12 (by decide) (hts _ wG744) (fun _ h9 => h9) rfl d_M_damage_64 ?_
        refine lv_bipush (v := 24) hx hb d_M_damage_67 (by decide) ?_
        refine lv_iload_n hx hb d_M_damage_69 rfl (lv_at hl 2 rfl) ?_
        refine lv_imul hx hb d_M_damage_70 ?_
        refine lv_iload_n hx hb d_M_damage_71 rfl (lv_at hl 3 rfl) ?_
        refine lv_iadd hx hb d_M_damage_72 ?_
        refine lv_iload_n hx hb d_M_damage_73 rfl (lv_at hl 4 rfl) ?_
        obtain ⟨hi_9, h⟩ := h
        refine m_iast hx hb hK hw 8 10 rfl (fun _ => rfl) hi_9 d_M_damage_74 (fun H locs hw => ?_)
        obtain ⟨F_10, eF_10⟩ : ∃ y : MF, y = setF F 8 (upd (F 8) ((24 * a1) + a2).toNatClampNeg a3) := ⟨_, rfl⟩
        rw [← eF_10] at hw
        replace h := h F_10 eF_10
        refine lv_iload hx hb d_M_damage_75 (lv_at hl 0 rfl) ?_
        exact W.iret hx hb hr (fun t ht hW => ⟨⟨_, (I_6, F_10, G), rfl, h, by rw [ht]; exact hw.1, va_K.moved hW.alike hK, hw.2.1⟩, hw.2.2.F ht⟩) hw.2.2.2.2 d_M_damage_77
      · replace h := h.2 c_5
        refine lv_aload_n hx hb d_M_damage_39 rfl (lv_at hl 0 rfl) ?_
        refine lv_iconst (v := 3) hx hb d_M_damage_40 (by decide) ?_
        refine m_calli (va_runV (As := [.int 3]) (rest := []) ⟨hx, hb, hml, hown, hts⟩ (c_M_refuse l L 3 I F G _ _ h) (cwV 1 hts (gV wG793 wG795 wG20 wG54 wG796) rfl rfl rfl (by decide +kernel) ⟨Nat.le_of_ble_eq_true rfl, Nat.le_of_ble_eq_true rfl⟩) (mPrm hK hN hw) rfl rfl hl.1 rfl (lv_room (Nat.le_of_ble_eq_true rfl)) d_M_damage_41 ⟨Nat.le_of_ble_eq_true rfl, Nat.le_of_ble_eq_true rfl⟩) hw hA (fun r_11 I_12 F_12 G_12 H locs h hw => ?_)
        exact W.iret hx hb hr (fun t ht hW => ⟨⟨_, (I_12, F_12, G_12), rfl, h, by rw [ht]; exact hw.1, va_K.moved hW.alike hK, hw.2.1⟩, hw.2.2.F ht⟩) hw.2.2.2.2 d_M_damage_44
    · replace h := h.2 c_3
      refine lv_aload_n hx hb d_M_damage_24 rfl (lv_at hl 0 rfl) ?_
      refine lv_iconst (v := 2) hx hb d_M_damage_25 (by decide) ?_
      refine m_calli (va_runV (As := [.int 2]) (rest := []) ⟨hx, hb, hml, hown, hts⟩ (c_M_refuse l L 2 I F G _ _ h) (cwV 1 hts (gV wG793 wG795 wG20 wG54 wG796) rfl rfl rfl (by decide +kernel) ⟨Nat.le_of_ble_eq_true rfl, Nat.le_of_ble_eq_true rfl⟩) (mPrm hK hN hw) rfl rfl hl.1 rfl (lv_room (Nat.le_of_ble_eq_true rfl)) d_M_damage_26 ⟨Nat.le_of_ble_eq_true rfl, Nat.le_of_ble_eq_true rfl⟩) hw hA (fun r_13 I_14 F_14 G_14 H locs h hw => ?_)
      exact W.iret hx hb hr (fun t ht hW => ⟨⟨_, (I_14, F_14, G_14), rfl, h, by rw [ht]; exact hw.1, va_K.moved hW.alike hK, hw.2.1⟩, hw.2.2.F ht⟩) hw.2.2.2.2 d_M_damage_29
  · replace h := h.2 c_2
    refine lv_aload_n hx hb d_M_damage_10 rfl (lv_at hl 0 rfl) ?_
    refine lv_iconst (v := 1) hx hb d_M_damage_11 (by decide) ?_
    refine m_calli (va_runV (As := [.int 1]) (rest := []) ⟨hx, hb, hml, hown, hts⟩ (c_M_refuse l L 1 I F G _ _ h) (cwV 1 hts (gV wG793 wG795 wG20 wG54 wG796) rfl rfl rfl (by decide +kernel) ⟨Nat.le_of_ble_eq_true rfl, Nat.le_of_ble_eq_true rfl⟩) (mPrm hK hN hw) rfl rfl hl.1 rfl (lv_room (Nat.le_of_ble_eq_true rfl)) d_M_damage_12 ⟨Nat.le_of_ble_eq_true rfl, Nat.le_of_ble_eq_true rfl⟩) hw hA (fun r_15 I_16 F_16 G_16 H locs h hw => ?_)
    exact W.iret hx hb hr (fun t ht hW => ⟨⟨_, (I_16, F_16, G_16), rfl, h, by rw [ht]; exact hw.1, va_K.moved hW.alike hK, hw.2.1⟩, hw.2.2.F ht⟩) hw.2.2.2.2 d_M_damage_15
abbrev rm_M_join : Room := { frames := 0, cells := 0, slots := 0, locals := 0 }
set_option maxHeartbeats 4000000 in
set_option maxRecDepth 100000 in
theorem c_M_join (l : Launch) (L : cL) (a1 : Int32) (a2 : Int32) (I : MI) (F : MF) (G : MG) (sz : Nat) (post : Int32 → MI → MF → MG → Prop) (h : wp_M_join a1 a2 I F G post) : Met l y_M_join (.code y_M_join b_M_join 4 (some .boolean) :: lwG) rm_M_join (mPm L I F G sz [.ref (cA L 0), .int a1, .int a2]) (mQi L (mAA L I F G sz) post (mAA L I F G sz)) 0 0 (mAA L I F G sz) := by
  refine Met.ofW (cc := b_M_join) (maxL := 4) (ret := (some .boolean)) (by decide) rfl ?_
  intro p e s m args below meth c s₁ B hml hv
  obtain ⟨rfl, hsz, hP, hK, hD0, hN⟩ := hv
  have xc : xC p s m _ meth c b_M_join 4 lwG qR5 (some .boolean) := ⟨B.exec, B.bytes, hml, findClass_of_methodNamed B.named, fun w h => atoms_spec (ws := (.code y_M_join b_M_join 4 (some .boolean) :: lwG)) B.pre w (List.mem_cons_of_mem _ h), B.returns, B.notSynchronized⟩
  obtain ⟨hx, hb, hml, hown, hts, hr, hlocks⟩ := id xc
  subst hsz
  have hD : va_D (mAA L I F G s.heap.size) (WM L I F G) := hD0.self
  have hA0 : ∀ q : Nat, s.heap.size ≤ q → mAA L I F G s.heap.size q := fun q h => Or.inr h
  generalize mAA L I F G s.heap.size = A at hD hA0 ⊢
  have hA := hA0
  have hw : MW L A s.heap I F G s.heap [] := ⟨hP, hD, va_S.rf⟩
  have hl := lv_entry ([.ref (cA L 0), .int a1, .int a2]) (n := 4) (Nat.le_of_ble_eq_true rfl)
  rw [lg_entry_eq]
  generalize (lg_sl ([.ref (cA L 0), .int a1, .int a2]) ++ List.replicate (4 - (lg_sl ([.ref (cA L 0), .int a1, .int a2])).length) Slot.unset).toArray = ls at hl ⊢
  have hl : lv_has ls 4 [(0, .ref (cA L 0)), (1, .int a1), (2, .int a2)] := hl
  refine lv_aload_n hx hb d_M_join_0 rfl (lv_at hl 0 rfl) ?_
  refine va_get (D := L.1) (ci := 5) (v := .ref (cA L 11)) (C := qR5) (T := qT5) (N := 16) hx hb hts qi5 hown hK hw.1 0 rfl rfl 13 (by decide) (hts _ wG745) (fun _ h9 => h9) rfl d_M_join_1 ?_
  refine lv_iload_n hx hb d_M_join_4 rfl (lv_at hl 1 rfl) ?_
  obtain ⟨hi_1, h⟩ := h
  refine va_iald hx hb hK hw.1 11 0 rfl rfl hi_1 d_M_join_5 ?_
  refine lv_aload_n hx hb d_M_join_6 rfl (lv_at hl 0 rfl) ?_
  refine va_get (D := L.1) (ci := 5) (v := .ref (cA L 11)) (C := qR5) (T := qT5) (N := 16) hx hb hts qi5 hown hK hw.1 0 rfl rfl 13 (by decide) (hts _ wG745) (fun _ h9 => h9) rfl d_M_join_7 ?_
  refine lv_iload_n hx hb d_M_join_10 rfl (lv_at hl 2 rfl) ?_
  obtain ⟨hi_2, h⟩ := h
  refine va_iald hx hb hK hw.1 11 0 rfl rfl hi_2 d_M_join_11 ?_
  refine lv_icmp_ne (tgt := 17) hx hb d_M_join_12 (by decide) (fun c_3 => ?_) (fun c_3 => ?_)
  · replace h := h.1 c_3
    refine lv_aload_n hx hb d_M_join_17 rfl (lv_at hl 0 rfl) ?_
    refine va_get (D := L.1) (ci := 5) (v := .ref (cA L 11)) (C := qR5) (T := qT5) (N := 16) hx hb hts qi5 hown hK hw.1 0 rfl rfl 13 (by decide) (hts _ wG745) (fun _ h9 => h9) rfl d_M_join_18 ?_
    refine lv_iload_n hx hb d_M_join_21 rfl (lv_at hl 1 rfl) ?_
    obtain ⟨hi_4, h⟩ := h
    refine va_iald hx hb hK hw.1 11 0 rfl rfl hi_4 d_M_join_22 ?_
    refine lv_aload_n hx hb d_M_join_23 rfl (lv_at hl 0 rfl) ?_
    refine va_get (D := L.1) (ci := 5) (v := .ref (cA L 11)) (C := qR5) (T := qT5) (N := 16) hx hb hts qi5 hown hK hw.1 0 rfl rfl 13 (by decide) (hts _ wG745) (fun _ h9 => h9) rfl d_M_join_24 ?_
    refine lv_iload_n hx hb d_M_join_27 rfl (lv_at hl 2 rfl) ?_
    obtain ⟨hi_5, h⟩ := h
    refine va_iald hx hb hK hw.1 11 0 rfl rfl hi_5 d_M_join_28 ?_
    refine lv_icmp_ge (tgt := 41) hx hb d_M_join_29 (by decide) (fun c_6 => ?_) (fun c_6 => ?_)
    · replace h := h.1 c_6
      refine lv_aload_n hx hb d_M_join_41 rfl (lv_at hl 0 rfl) ?_
      refine va_get (D := L.1) (ci := 5) (v := .ref (cA L 11)) (C := qR5) (T := qT5) (N := 16) hx hb hts qi5 hown hK hw.1 0 rfl rfl 13 (by decide) (hts _ wG745) (fun _ h9 => h9) rfl d_M_join_42 ?_
      refine lv_iload_n hx hb d_M_join_45 rfl (lv_at hl 2 rfl) ?_
      obtain ⟨hi_7, h⟩ := h
      refine va_iald hx hb hK hw.1 11 0 rfl rfl hi_7 d_M_join_46 ?_
      refine lv_topi (fun x_8 ex_8 => ?_)
      replace h := h x_8 ex_8
      refine lv_istore_n (lv' := [(3, .int x_8), (0, .ref (cA L 0)), (1, .int a1), (2, .int a2)]) hx hb d_M_join_47 rfl hl (by decide) rfl (fun ls hl => ?_)
      refine lv_aload_n hx hb d_M_join_48 rfl (lv_at hl 1 rfl) ?_
      refine va_get (D := L.1) (ci := 5) (v := .ref (cA L 11)) (C := qR5) (T := qT5) (N := 16) hx hb hts qi5 hown hK hw.1 0 rfl rfl 13 (by decide) (hts _ wG745) (fun _ h9 => h9) rfl d_M_join_49 ?_
      refine lv_iload_n hx hb d_M_join_52 rfl (lv_at hl 2 rfl) ?_
      refine lv_iload_n hx hb d_M_join_53 rfl (lv_at hl 0 rfl) ?_
      obtain ⟨hi_9, h⟩ := h
      refine m_iast hx hb hK hw 9 11 rfl (fun _ => rfl) hi_9 d_M_join_54 (fun H locs hw => ?_)
      obtain ⟨F_10, eF_10⟩ : ∃ y : MF, y = setF F 9 (upd (F 9) a1.toNatClampNeg x_8) := ⟨_, rfl⟩
      rw [← eF_10] at hw
      replace h := h F_10 eF_10
      refine lv_aload_n hx hb d_M_join_55 rfl (lv_at hl 1 rfl) ?_
      refine va_get (D := L.1) (ci := 5) (v := .ref (cA L 11)) (C := qR5) (T := qT5) (N := 16) hx hb hts qi5 hown hK hw.1 0 rfl rfl 13 (by decide) (hts _ wG745) (fun _ h9 => h9) rfl d_M_join_56 ?_
      refine lv_iload_n hx hb d_M_join_59 rfl (lv_at hl 3 rfl) ?_
      refine lv_iload_n hx hb d_M_join_60 rfl (lv_at hl 0 rfl) ?_
      obtain ⟨hi_11, h⟩ := h
      refine m_iast hx hb hK hw 9 11 rfl (fun _ => rfl) hi_11 d_M_join_61 (fun H locs hw => ?_)
      obtain ⟨F_12, eF_12⟩ : ∃ y : MF, y = setF F_10 9 (upd (F_10 9) a2.toNatClampNeg x_8) := ⟨_, rfl⟩
      rw [← eF_12] at hw
      replace h := h F_12 eF_12
      refine lv_iconst (v := 1) hx hb d_M_join_62 (by decide) ?_
      exact W.zret hx hb hr rfl (fun t ht hW => ⟨⟨_, (I, F_12, G), rfl, h, by rw [ht]; exact hw.1, va_K.moved hW.alike hK, hw.2.1⟩, hw.2.2.F ht⟩) hw.2.2.2.2 d_M_join_63
    · replace h := h.2 c_6
      refine lv_aload_n hx hb d_M_join_32 rfl (lv_at hl 0 rfl) ?_
      refine va_get (D := L.1) (ci := 5) (v := .ref (cA L 11)) (C := qR5) (T := qT5) (N := 16) hx hb hts qi5 hown hK hw.1 0 rfl rfl 13 (by decide) (hts _ wG745) (fun _ h9 => h9) rfl d_M_join_33 ?_
      refine lv_iload_n hx hb d_M_join_36 rfl (lv_at hl 1 rfl) ?_
      obtain ⟨hi_13, h⟩ := h
      refine va_iald hx hb hK hw.1 11 0 rfl rfl hi_13 d_M_join_37 ?_
      refine lv_goto (tgt := 47) hx hb d_M_join_38 (by decide) ?_
      refine lv_topi (fun x_14 ex_14 => ?_)
      replace h := h x_14 ex_14
      refine lv_istore_n (lv' := [(3, .int x_14), (0, .ref (cA L 0)), (1, .int a1), (2, .int a2)]) hx hb d_M_join_47 rfl hl (by decide) rfl (fun ls hl => ?_)
      refine lv_aload_n hx hb d_M_join_48 rfl (lv_at hl 1 rfl) ?_
      refine va_get (D := L.1) (ci := 5) (v := .ref (cA L 11)) (C := qR5) (T := qT5) (N := 16) hx hb hts qi5 hown hK hw.1 0 rfl rfl 13 (by decide) (hts _ wG745) (fun _ h9 => h9) rfl d_M_join_49 ?_
      refine lv_iload_n hx hb d_M_join_52 rfl (lv_at hl 2 rfl) ?_
      refine lv_iload_n hx hb d_M_join_53 rfl (lv_at hl 0 rfl) ?_
      obtain ⟨hi_15, h⟩ := h
      refine m_iast hx hb hK hw 9 11 rfl (fun _ => rfl) hi_15 d_M_join_54 (fun H locs hw => ?_)
      obtain ⟨F_16, eF_16⟩ : ∃ y : MF, y = setF F 9 (upd (F 9) a1.toNatClampNeg x_14) := ⟨_, rfl⟩
      rw [← eF_16] at hw
      replace h := h F_16 eF_16
      refine lv_aload_n hx hb d_M_join_55 rfl (lv_at hl 1 rfl) ?_
      refine va_get (D := L.1) (ci := 5) (v := .ref (cA L 11)) (C := qR5) (T := qT5) (N := 16) hx hb hts qi5 hown hK hw.1 0 rfl rfl 13 (by decide) (hts _ wG745) (fun _ h9 => h9) rfl d_M_join_56 ?_
      refine lv_iload_n hx hb d_M_join_59 rfl (lv_at hl 3 rfl) ?_
      refine lv_iload_n hx hb d_M_join_60 rfl (lv_at hl 0 rfl) ?_
      obtain ⟨hi_17, h⟩ := h
      refine m_iast hx hb hK hw 9 11 rfl (fun _ => rfl) hi_17 d_M_join_61 (fun H locs hw => ?_)
      obtain ⟨F_18, eF_18⟩ : ∃ y : MF, y = setF F_16 9 (upd (F_16 9) a2.toNatClampNeg x_14) := ⟨_, rfl⟩
      rw [← eF_18] at hw
      replace h := h F_18 eF_18
      refine lv_iconst (v := 1) hx hb d_M_join_62 (by decide) ?_
      exact W.zret hx hb hr rfl (fun t ht hW => ⟨⟨_, (I, F_18, G), rfl, h, by rw [ht]; exact hw.1, va_K.moved hW.alike hK, hw.2.1⟩, hw.2.2.F ht⟩) hw.2.2.2.2 d_M_join_63
  · replace h := h.2 c_3
    refine lv_iconst (v := 0) hx hb d_M_join_15 (by decide) ?_
    exact W.zret hx hb hr rfl (fun t ht hW => ⟨⟨_, (I, F, G), rfl, h, by rw [ht]; exact hw.1, va_K.moved hW.alike hK, hw.2.1⟩, hw.2.2.F ht⟩) hw.2.2.2.2 d_M_join_16
abbrev rm_M_joinAt : Room := { frames := 1, cells := 0, slots := 0, locals := 23 }
set_option maxHeartbeats 4000000 in
set_option maxRecDepth 100000 in
theorem c_M_joinAt (l : Launch) (L : cL) (a1 : Int32) (a2 : Int32) (I : MI) (F : MF) (G : MG) (sz : Nat) (post : Int32 → MI → MF → MG → Prop) (h : wp_M_joinAt a1 a2 I F G post) : Met l y_M_joinAt (.code y_M_joinAt b_M_joinAt 4 (some .boolean) :: lwG) rm_M_joinAt (mPm L I F G sz [.ref (cA L 0), .int a1, .int a2]) (mQi L (mAA L I F G sz) post (mAA L I F G sz)) 0 0 (mAA L I F G sz) := by
  refine Met.ofW (cc := b_M_joinAt) (maxL := 4) (ret := (some .boolean)) (by decide) rfl ?_
  intro p e s m args below meth c s₁ B hml hv
  obtain ⟨rfl, hsz, hP, hK, hD0, hN⟩ := hv
  have xc : xC p s m _ meth c b_M_joinAt 4 lwG qR5 (some .boolean) := ⟨B.exec, B.bytes, hml, findClass_of_methodNamed B.named, fun w h => atoms_spec (ws := (.code y_M_joinAt b_M_joinAt 4 (some .boolean) :: lwG)) B.pre w (List.mem_cons_of_mem _ h), B.returns, B.notSynchronized⟩
  obtain ⟨hx, hb, hml, hown, hts, hr, hlocks⟩ := id xc
  subst hsz
  have hD : va_D (mAA L I F G s.heap.size) (WM L I F G) := hD0.self
  have hA0 : ∀ q : Nat, s.heap.size ≤ q → mAA L I F G s.heap.size q := fun q h => Or.inr h
  generalize mAA L I F G s.heap.size = A at hD hA0 ⊢
  have hA := hA0
  have hw : MW L A s.heap I F G s.heap [] := ⟨hP, hD, va_S.rf⟩
  have hl := lv_entry ([.ref (cA L 0), .int a1, .int a2]) (n := 4) (Nat.le_of_ble_eq_true rfl)
  rw [lg_entry_eq]
  generalize (lg_sl ([.ref (cA L 0), .int a1, .int a2]) ++ List.replicate (4 - (lg_sl ([.ref (cA L 0), .int a1, .int a2])).length) Slot.unset).toArray = ls at hl ⊢
  have hl : lv_has ls 4 [(0, .ref (cA L 0)), (1, .int a1), (2, .int a2)] := hl
  refine lv_iconst (v := 0) hx hb d_M_joinAt_0 (by decide) ?_
  refine lv_istore_n (lv' := [(3, .int 0), (0, .ref (cA L 0)), (1, .int a1), (2, .int a2)]) hx hb d_M_joinAt_1 rfl hl (by decide) rfl (fun ls hl => ?_)
  refine lv_aload_n hx hb d_M_joinAt_2 rfl (lv_at hl 1 rfl) ?_
  refine va_get (D := L.1) (ci := 5) (v := .ref (cA L 10)) (C := qR5) (T := qT5) (N := 16) hx hb hts qi5 hown hK hw.1 0 rfl rfl 12 (by decide) (hts _ wG744) (fun _ h9 => h9) rfl d_M_joinAt_3 ?_
  refine lv_iload_n hx hb d_M_joinAt_6 rfl (lv_at hl 2 rfl) ?_
  obtain ⟨hi_1, h⟩ := h
  refine va_iald hx hb hK hw.1 10 0 rfl rfl hi_1 d_M_joinAt_7 ?_
  refine lv_iconst (v := 1) hx hb d_M_joinAt_8 (by decide) ?_
  refine lv_iand hx hb d_M_joinAt_9 ?_
  refine lv_if_eq (tgt := 35) hx hb d_M_joinAt_10 (by decide) (fun c_2 => ?_) (fun c_2 => ?_)
  · replace h := h.1 c_2
    refine lv_aload_n hx hb d_M_joinAt_35 rfl (lv_at hl 1 rfl) ?_
    refine va_get (D := L.1) (ci := 5) (v := .ref (cA L 10)) (C := qR5) (T := qT5) (N := 16) hx hb hts qi5 hown hK hw.1 0 rfl rfl 12 (by decide) (hts _ wG744) (fun _ h9 => h9) rfl d_M_joinAt_36 ?_
    refine lv_iload_n hx hb d_M_joinAt_39 rfl (lv_at hl 2 rfl) ?_
    obtain ⟨hi_3, h⟩ := h
    refine va_iald hx hb hK hw.1 10 0 rfl rfl hi_3 d_M_joinAt_40 ?_
    refine lv_iconst (v := 2) hx hb d_M_joinAt_41 (by decide) ?_
    refine lv_iand hx hb d_M_joinAt_42 ?_
    refine lv_if_eq (tgt := 74) hx hb d_M_joinAt_43 (by decide) (fun c_4 => ?_) (fun c_4 => ?_)
    · replace h := h.1 c_4
      refine lv_aload_n hx hb d_M_joinAt_74 rfl (lv_at hl 1 rfl) ?_
      refine va_get (D := L.1) (ci := 5) (v := .ref (cA L 10)) (C := qR5) (T := qT5) (N := 16) hx hb hts qi5 hown hK hw.1 0 rfl rfl 12 (by decide) (hts _ wG744) (fun _ h9 => h9) rfl d_M_joinAt_75 ?_
      refine lv_iload_n hx hb d_M_joinAt_78 rfl (lv_at hl 2 rfl) ?_
      obtain ⟨hi_5, h⟩ := h
      refine va_iald hx hb hK hw.1 10 0 rfl rfl hi_5 d_M_joinAt_79 ?_
      refine lv_iconst (v := 4) hx hb d_M_joinAt_80 (by decide) ?_
      refine lv_iand hx hb d_M_joinAt_81 ?_
      refine lv_if_eq (tgt := 100) hx hb d_M_joinAt_82 (by decide) (fun c_6 => ?_) (fun c_6 => ?_)
      · replace h := h.1 c_6
        refine lv_iload_n hx hb d_M_joinAt_100 rfl (lv_at hl 0 rfl) ?_
        exact W.zret hx hb hr rfl (fun t ht hW => ⟨⟨_, (I, F, G), rfl, h, by rw [ht]; exact hw.1, va_K.moved hW.alike hK, hw.2.1⟩, hw.2.2.F ht⟩) hw.2.2.2.2 d_M_joinAt_101
      · replace h := h.2 c_6
        refine lv_iload_n hx hb d_M_joinAt_85 rfl (lv_at hl 0 rfl) ?_
        refine lv_aload_n hx hb d_M_joinAt_86 rfl (lv_at hl 1 rfl) ?_
        refine lv_iconst (v := 2) hx hb d_M_joinAt_87 (by decide) ?_
        refine lv_iload_n hx hb d_M_joinAt_88 rfl (lv_at hl 2 rfl) ?_
        refine lv_imul hx hb d_M_joinAt_89 ?_
        refine lv_iconst (v := 2) hx hb d_M_joinAt_90 (by decide) ?_
        refine lv_iload_n hx hb d_M_joinAt_91 rfl (lv_at hl 2 rfl) ?_
        refine lv_imul hx hb d_M_joinAt_92 ?_
        refine lv_iconst (v := 1) hx hb d_M_joinAt_93 (by decide) ?_
        refine lv_iadd hx hb d_M_joinAt_94 ?_
        refine m_calli (va_runV (As := [.int (2 * a1), .int ((2 * a1) + 1)]) (rest := [.int 0]) ⟨hx, hb, hml, hown, hts⟩ (c_M_join l L (2 * a1) ((2 * a1) + 1) I F G _ _ h) (cwV 2 hts (gV wG901 wG903 wG40 wG54 wG904) rfl rfl rfl (by decide +kernel) ⟨Nat.le_of_ble_eq_true rfl, Nat.le_of_ble_eq_true rfl⟩) (mPrm hK hN hw) rfl rfl hl.1 rfl (lv_room (Nat.le_of_ble_eq_true rfl)) d_M_joinAt_95 ⟨Nat.le_of_ble_eq_true rfl, Nat.le_of_ble_eq_true rfl⟩) hw hA (fun r_7 I_8 F_8 G_8 H locs h hw => ?_)
        refine lv_ior hx hb d_M_joinAt_98 ?_
        refine lv_topi (fun x_9 ex_9 => ?_)
        replace h := h x_9 ex_9
        refine lv_istore_n (lv' := [(3, .int x_9), (0, .ref (cA L 0)), (1, .int a1), (2, .int a2)]) hx hb d_M_joinAt_99 rfl hl (by decide) rfl (fun ls hl => ?_)
        refine lv_iload_n hx hb d_M_joinAt_100 rfl (lv_at hl 0 rfl) ?_
        obtain ⟨hz_10, h⟩ := h
        exact W.zret hx hb hr hz_10 (fun t ht hW => ⟨⟨_, (I_8, F_8, G_8), rfl, h, by rw [ht]; exact hw.1, va_K.moved hW.alike hK, hw.2.1⟩, hw.2.2.F ht⟩) hw.2.2.2.2 d_M_joinAt_101
    · replace h := h.2 c_4
      refine lv_iload_n hx hb d_M_joinAt_46 rfl (lv_at hl 2 rfl) ?_
      refine lv_bipush (v := 24) hx hb d_M_joinAt_47 (by decide) ?_
      refine lv_iadd hx hb d_M_joinAt_49 ?_
      refine lv_iload_n hx hb d_M_joinAt_50 rfl (lv_at hl 3 rfl) ?_
      refine lv_icmp_ge (tgt := 74) hx hb d_M_joinAt_51 (by decide) (fun c_11 => ?_) (fun c_11 => ?_)
      · replace h := h.1 c_11
        refine lv_aload_n hx hb d_M_joinAt_74 rfl (lv_at hl 1 rfl) ?_
        refine va_get (D := L.1) (ci := 5) (v := .ref (cA L 10)) (C := qR5) (T := qT5) (N := 16) hx hb hts qi5 hown hK hw.1 0 rfl rfl 12 (by decide) (hts _ wG744) (fun _ h9 => h9) rfl d_M_joinAt_75 ?_
        refine lv_iload_n hx hb d_M_joinAt_78 rfl (lv_at hl 2 rfl) ?_
        obtain ⟨hi_12, h⟩ := h
        refine va_iald hx hb hK hw.1 10 0 rfl rfl hi_12 d_M_joinAt_79 ?_
        refine lv_iconst (v := 4) hx hb d_M_joinAt_80 (by decide) ?_
        refine lv_iand hx hb d_M_joinAt_81 ?_
        refine lv_if_eq (tgt := 100) hx hb d_M_joinAt_82 (by decide) (fun c_13 => ?_) (fun c_13 => ?_)
        · replace h := h.1 c_13
          refine lv_iload_n hx hb d_M_joinAt_100 rfl (lv_at hl 0 rfl) ?_
          exact W.zret hx hb hr rfl (fun t ht hW => ⟨⟨_, (I, F, G), rfl, h, by rw [ht]; exact hw.1, va_K.moved hW.alike hK, hw.2.1⟩, hw.2.2.F ht⟩) hw.2.2.2.2 d_M_joinAt_101
        · replace h := h.2 c_13
          refine lv_iload_n hx hb d_M_joinAt_85 rfl (lv_at hl 0 rfl) ?_
          refine lv_aload_n hx hb d_M_joinAt_86 rfl (lv_at hl 1 rfl) ?_
          refine lv_iconst (v := 2) hx hb d_M_joinAt_87 (by decide) ?_
          refine lv_iload_n hx hb d_M_joinAt_88 rfl (lv_at hl 2 rfl) ?_
          refine lv_imul hx hb d_M_joinAt_89 ?_
          refine lv_iconst (v := 2) hx hb d_M_joinAt_90 (by decide) ?_
          refine lv_iload_n hx hb d_M_joinAt_91 rfl (lv_at hl 2 rfl) ?_
          refine lv_imul hx hb d_M_joinAt_92 ?_
          refine lv_iconst (v := 1) hx hb d_M_joinAt_93 (by decide) ?_
          refine lv_iadd hx hb d_M_joinAt_94 ?_
          refine m_calli (va_runV (As := [.int (2 * a1), .int ((2 * a1) + 1)]) (rest := [.int 0]) ⟨hx, hb, hml, hown, hts⟩ (c_M_join l L (2 * a1) ((2 * a1) + 1) I F G _ _ h) (cwV 2 hts (gV wG901 wG903 wG40 wG54 wG904) rfl rfl rfl (by decide +kernel) ⟨Nat.le_of_ble_eq_true rfl, Nat.le_of_ble_eq_true rfl⟩) (mPrm hK hN hw) rfl rfl hl.1 rfl (lv_room (Nat.le_of_ble_eq_true rfl)) d_M_joinAt_95 ⟨Nat.le_of_ble_eq_true rfl, Nat.le_of_ble_eq_true rfl⟩) hw hA (fun r_14 I_15 F_15 G_15 H locs h hw => ?_)
          refine lv_ior hx hb d_M_joinAt_98 ?_
          refine lv_topi (fun x_16 ex_16 => ?_)
          replace h := h x_16 ex_16
          refine lv_istore_n (lv' := [(3, .int x_16), (0, .ref (cA L 0)), (1, .int a1), (2, .int a2)]) hx hb d_M_joinAt_99 rfl hl (by decide) rfl (fun ls hl => ?_)
          refine lv_iload_n hx hb d_M_joinAt_100 rfl (lv_at hl 0 rfl) ?_
          obtain ⟨hz_17, h⟩ := h
          exact W.zret hx hb hr hz_17 (fun t ht hW => ⟨⟨_, (I_15, F_15, G_15), rfl, h, by rw [ht]; exact hw.1, va_K.moved hW.alike hK, hw.2.1⟩, hw.2.2.F ht⟩) hw.2.2.2.2 d_M_joinAt_101
      · replace h := h.2 c_11
        refine lv_iload_n hx hb d_M_joinAt_54 rfl (lv_at hl 0 rfl) ?_
        refine lv_aload_n hx hb d_M_joinAt_55 rfl (lv_at hl 1 rfl) ?_
        refine lv_iconst (v := 2) hx hb d_M_joinAt_56 (by decide) ?_
        refine lv_iload_n hx hb d_M_joinAt_57 rfl (lv_at hl 2 rfl) ?_
        refine lv_imul hx hb d_M_joinAt_58 ?_
        refine lv_iconst (v := 1) hx hb d_M_joinAt_59 (by decide) ?_
        refine lv_iadd hx hb d_M_joinAt_60 ?_
        refine lv_iconst (v := 2) hx hb d_M_joinAt_61 (by decide) ?_
        refine lv_iload_n hx hb d_M_joinAt_62 rfl (lv_at hl 2 rfl) ?_
        refine lv_bipush (v := 24) hx hb d_M_joinAt_63 (by decide) ?_
        refine lv_iadd hx hb d_M_joinAt_65 ?_
        refine lv_imul hx hb d_M_joinAt_66 ?_
        refine lv_iconst (v := 1) hx hb d_M_joinAt_67 (by decide) ?_
        refine lv_iadd hx hb d_M_joinAt_68 ?_
        refine m_calli (va_runV (As := [.int ((2 * a1) + 1), .int ((2 * (a1 + 24)) + 1)]) (rest := [.int 0]) ⟨hx, hb, hml, hown, hts⟩ (c_M_join l L ((2 * a1) + 1) ((2 * (a1 + 24)) + 1) I F G _ _ h) (cwV 2 hts (gV wG901 wG903 wG40 wG54 wG904) rfl rfl rfl (by decide +kernel) ⟨Nat.le_of_ble_eq_true rfl, Nat.le_of_ble_eq_true rfl⟩) (mPrm hK hN hw) rfl rfl hl.1 rfl (lv_room (Nat.le_of_ble_eq_true rfl)) d_M_joinAt_69 ⟨Nat.le_of_ble_eq_true rfl, Nat.le_of_ble_eq_true rfl⟩) hw hA (fun r_18 I_19 F_19 G_19 H locs h hw => ?_)
        refine lv_ior hx hb d_M_joinAt_72 ?_
        refine lv_topi (fun x_20 ex_20 => ?_)
        replace h := h x_20 ex_20
        refine lv_istore_n (lv' := [(3, .int x_20), (0, .ref (cA L 0)), (1, .int a1), (2, .int a2)]) hx hb d_M_joinAt_73 rfl hl (by decide) rfl (fun ls hl => ?_)
        refine lv_aload_n hx hb d_M_joinAt_74 rfl (lv_at hl 1 rfl) ?_
        refine va_get (D := L.1) (ci := 5) (v := .ref (cA L 10)) (C := qR5) (T := qT5) (N := 16) hx hb hts qi5 hown hK hw.1 0 rfl rfl 12 (by decide) (hts _ wG744) (fun _ h9 => h9) rfl d_M_joinAt_75 ?_
        refine lv_iload_n hx hb d_M_joinAt_78 rfl (lv_at hl 2 rfl) ?_
        obtain ⟨hi_21, h⟩ := h
        refine va_iald hx hb hK hw.1 10 0 rfl rfl hi_21 d_M_joinAt_79 ?_
        refine lv_iconst (v := 4) hx hb d_M_joinAt_80 (by decide) ?_
        refine lv_iand hx hb d_M_joinAt_81 ?_
        refine lv_if_eq (tgt := 100) hx hb d_M_joinAt_82 (by decide) (fun c_22 => ?_) (fun c_22 => ?_)
        · replace h := h.1 c_22
          refine lv_iload_n hx hb d_M_joinAt_100 rfl (lv_at hl 0 rfl) ?_
          obtain ⟨hz_23, h⟩ := h
          exact W.zret hx hb hr hz_23 (fun t ht hW => ⟨⟨_, (I_19, F_19, G_19), rfl, h, by rw [ht]; exact hw.1, va_K.moved hW.alike hK, hw.2.1⟩, hw.2.2.F ht⟩) hw.2.2.2.2 d_M_joinAt_101
        · replace h := h.2 c_22
          refine lv_iload_n hx hb d_M_joinAt_85 rfl (lv_at hl 0 rfl) ?_
          refine lv_aload_n hx hb d_M_joinAt_86 rfl (lv_at hl 1 rfl) ?_
          refine lv_iconst (v := 2) hx hb d_M_joinAt_87 (by decide) ?_
          refine lv_iload_n hx hb d_M_joinAt_88 rfl (lv_at hl 2 rfl) ?_
          refine lv_imul hx hb d_M_joinAt_89 ?_
          refine lv_iconst (v := 2) hx hb d_M_joinAt_90 (by decide) ?_
          refine lv_iload_n hx hb d_M_joinAt_91 rfl (lv_at hl 2 rfl) ?_
          refine lv_imul hx hb d_M_joinAt_92 ?_
          refine lv_iconst (v := 1) hx hb d_M_joinAt_93 (by decide) ?_
          refine lv_iadd hx hb d_M_joinAt_94 ?_
          refine m_calli (va_runV (As := [.int (2 * a1), .int ((2 * a1) + 1)]) (rest := [.int x_20]) ⟨hx, hb, hml, hown, hts⟩ (c_M_join l L (2 * a1) ((2 * a1) + 1) I_19 F_19 G_19 _ _ h) (cwV 2 hts (gV wG901 wG903 wG40 wG54 wG904) rfl rfl rfl (by decide +kernel) ⟨Nat.le_of_ble_eq_true rfl, Nat.le_of_ble_eq_true rfl⟩) (mPrm hK hN hw) rfl rfl hl.1 rfl (lv_room (Nat.le_of_ble_eq_true rfl)) d_M_joinAt_95 ⟨Nat.le_of_ble_eq_true rfl, Nat.le_of_ble_eq_true rfl⟩) hw hA (fun r_24 I_25 F_25 G_25 H locs h hw => ?_)
          refine lv_ior hx hb d_M_joinAt_98 ?_
          refine lv_topi (fun x_26 ex_26 => ?_)
          replace h := h x_26 ex_26
          refine lv_istore_n (lv' := [(3, .int x_26), (0, .ref (cA L 0)), (1, .int a1), (2, .int a2)]) hx hb d_M_joinAt_99 rfl hl (by decide) rfl (fun ls hl => ?_)
          refine lv_iload_n hx hb d_M_joinAt_100 rfl (lv_at hl 0 rfl) ?_
          obtain ⟨hz_27, h⟩ := h
          exact W.zret hx hb hr hz_27 (fun t ht hW => ⟨⟨_, (I_25, F_25, G_25), rfl, h, by rw [ht]; exact hw.1, va_K.moved hW.alike hK, hw.2.1⟩, hw.2.2.F ht⟩) hw.2.2.2.2 d_M_joinAt_101
  · replace h := h.2 c_2
    refine lv_iload_n hx hb d_M_joinAt_13 rfl (lv_at hl 2 rfl) ?_
    refine lv_bipush (v := 24) hx hb d_M_joinAt_14 (by decide) ?_
    refine lv_irem hx hb d_M_joinAt_16 (by decide) ?_
    refine lv_bipush (v := 23) hx hb d_M_joinAt_17 (by decide) ?_
    refine lv_icmp_ge (tgt := 35) hx hb d_M_joinAt_19 (by decide) (fun c_28 => ?_) (fun c_28 => ?_)
    · replace h := h.1 c_28
      refine lv_aload_n hx hb d_M_joinAt_35 rfl (lv_at hl 1 rfl) ?_
      refine va_get (D := L.1) (ci := 5) (v := .ref (cA L 10)) (C := qR5) (T := qT5) (N := 16) hx hb hts qi5 hown hK hw.1 0 rfl rfl 12 (by decide) (hts _ wG744) (fun _ h9 => h9) rfl d_M_joinAt_36 ?_
      refine lv_iload_n hx hb d_M_joinAt_39 rfl (lv_at hl 2 rfl) ?_
      obtain ⟨hi_29, h⟩ := h
      refine va_iald hx hb hK hw.1 10 0 rfl rfl hi_29 d_M_joinAt_40 ?_
      refine lv_iconst (v := 2) hx hb d_M_joinAt_41 (by decide) ?_
      refine lv_iand hx hb d_M_joinAt_42 ?_
      refine lv_if_eq (tgt := 74) hx hb d_M_joinAt_43 (by decide) (fun c_30 => ?_) (fun c_30 => ?_)
      · replace h := h.1 c_30
        refine lv_aload_n hx hb d_M_joinAt_74 rfl (lv_at hl 1 rfl) ?_
        refine va_get (D := L.1) (ci := 5) (v := .ref (cA L 10)) (C := qR5) (T := qT5) (N := 16) hx hb hts qi5 hown hK hw.1 0 rfl rfl 12 (by decide) (hts _ wG744) (fun _ h9 => h9) rfl d_M_joinAt_75 ?_
        refine lv_iload_n hx hb d_M_joinAt_78 rfl (lv_at hl 2 rfl) ?_
        obtain ⟨hi_31, h⟩ := h
        refine va_iald hx hb hK hw.1 10 0 rfl rfl hi_31 d_M_joinAt_79 ?_
        refine lv_iconst (v := 4) hx hb d_M_joinAt_80 (by decide) ?_
        refine lv_iand hx hb d_M_joinAt_81 ?_
        refine lv_if_eq (tgt := 100) hx hb d_M_joinAt_82 (by decide) (fun c_32 => ?_) (fun c_32 => ?_)
        · replace h := h.1 c_32
          refine lv_iload_n hx hb d_M_joinAt_100 rfl (lv_at hl 0 rfl) ?_
          exact W.zret hx hb hr rfl (fun t ht hW => ⟨⟨_, (I, F, G), rfl, h, by rw [ht]; exact hw.1, va_K.moved hW.alike hK, hw.2.1⟩, hw.2.2.F ht⟩) hw.2.2.2.2 d_M_joinAt_101
        · replace h := h.2 c_32
          refine lv_iload_n hx hb d_M_joinAt_85 rfl (lv_at hl 0 rfl) ?_
          refine lv_aload_n hx hb d_M_joinAt_86 rfl (lv_at hl 1 rfl) ?_
          refine lv_iconst (v := 2) hx hb d_M_joinAt_87 (by decide) ?_
          refine lv_iload_n hx hb d_M_joinAt_88 rfl (lv_at hl 2 rfl) ?_
          refine lv_imul hx hb d_M_joinAt_89 ?_
          refine lv_iconst (v := 2) hx hb d_M_joinAt_90 (by decide) ?_
          refine lv_iload_n hx hb d_M_joinAt_91 rfl (lv_at hl 2 rfl) ?_
          refine lv_imul hx hb d_M_joinAt_92 ?_
          refine lv_iconst (v := 1) hx hb d_M_joinAt_93 (by decide) ?_
          refine lv_iadd hx hb d_M_joinAt_94 ?_
          refine m_calli (va_runV (As := [.int (2 * a1), .int ((2 * a1) + 1)]) (rest := [.int 0]) ⟨hx, hb, hml, hown, hts⟩ (c_M_join l L (2 * a1) ((2 * a1) + 1) I F G _ _ h) (cwV 2 hts (gV wG901 wG903 wG40 wG54 wG904) rfl rfl rfl (by decide +kernel) ⟨Nat.le_of_ble_eq_true rfl, Nat.le_of_ble_eq_true rfl⟩) (mPrm hK hN hw) rfl rfl hl.1 rfl (lv_room (Nat.le_of_ble_eq_true rfl)) d_M_joinAt_95 ⟨Nat.le_of_ble_eq_true rfl, Nat.le_of_ble_eq_true rfl⟩) hw hA (fun r_33 I_34 F_34 G_34 H locs h hw => ?_)
          refine lv_ior hx hb d_M_joinAt_98 ?_
          refine lv_topi (fun x_35 ex_35 => ?_)
          replace h := h x_35 ex_35
          refine lv_istore_n (lv' := [(3, .int x_35), (0, .ref (cA L 0)), (1, .int a1), (2, .int a2)]) hx hb d_M_joinAt_99 rfl hl (by decide) rfl (fun ls hl => ?_)
          refine lv_iload_n hx hb d_M_joinAt_100 rfl (lv_at hl 0 rfl) ?_
          obtain ⟨hz_36, h⟩ := h
          exact W.zret hx hb hr hz_36 (fun t ht hW => ⟨⟨_, (I_34, F_34, G_34), rfl, h, by rw [ht]; exact hw.1, va_K.moved hW.alike hK, hw.2.1⟩, hw.2.2.F ht⟩) hw.2.2.2.2 d_M_joinAt_101
      · replace h := h.2 c_30
        refine lv_iload_n hx hb d_M_joinAt_46 rfl (lv_at hl 2 rfl) ?_
        refine lv_bipush (v := 24) hx hb d_M_joinAt_47 (by decide) ?_
        refine lv_iadd hx hb d_M_joinAt_49 ?_
        refine lv_iload_n hx hb d_M_joinAt_50 rfl (lv_at hl 3 rfl) ?_
        refine lv_icmp_ge (tgt := 74) hx hb d_M_joinAt_51 (by decide) (fun c_37 => ?_) (fun c_37 => ?_)
        · replace h := h.1 c_37
          refine lv_aload_n hx hb d_M_joinAt_74 rfl (lv_at hl 1 rfl) ?_
          refine va_get (D := L.1) (ci := 5) (v := .ref (cA L 10)) (C := qR5) (T := qT5) (N := 16) hx hb hts qi5 hown hK hw.1 0 rfl rfl 12 (by decide) (hts _ wG744) (fun _ h9 => h9) rfl d_M_joinAt_75 ?_
          refine lv_iload_n hx hb d_M_joinAt_78 rfl (lv_at hl 2 rfl) ?_
          obtain ⟨hi_38, h⟩ := h
          refine va_iald hx hb hK hw.1 10 0 rfl rfl hi_38 d_M_joinAt_79 ?_
          refine lv_iconst (v := 4) hx hb d_M_joinAt_80 (by decide) ?_
          refine lv_iand hx hb d_M_joinAt_81 ?_
          refine lv_if_eq (tgt := 100) hx hb d_M_joinAt_82 (by decide) (fun c_39 => ?_) (fun c_39 => ?_)
          · replace h := h.1 c_39
            refine lv_iload_n hx hb d_M_joinAt_100 rfl (lv_at hl 0 rfl) ?_
            exact W.zret hx hb hr rfl (fun t ht hW => ⟨⟨_, (I, F, G), rfl, h, by rw [ht]; exact hw.1, va_K.moved hW.alike hK, hw.2.1⟩, hw.2.2.F ht⟩) hw.2.2.2.2 d_M_joinAt_101
          · replace h := h.2 c_39
            refine lv_iload_n hx hb d_M_joinAt_85 rfl (lv_at hl 0 rfl) ?_
            refine lv_aload_n hx hb d_M_joinAt_86 rfl (lv_at hl 1 rfl) ?_
            refine lv_iconst (v := 2) hx hb d_M_joinAt_87 (by decide) ?_
            refine lv_iload_n hx hb d_M_joinAt_88 rfl (lv_at hl 2 rfl) ?_
            refine lv_imul hx hb d_M_joinAt_89 ?_
            refine lv_iconst (v := 2) hx hb d_M_joinAt_90 (by decide) ?_
            refine lv_iload_n hx hb d_M_joinAt_91 rfl (lv_at hl 2 rfl) ?_
            refine lv_imul hx hb d_M_joinAt_92 ?_
            refine lv_iconst (v := 1) hx hb d_M_joinAt_93 (by decide) ?_
            refine lv_iadd hx hb d_M_joinAt_94 ?_
            refine m_calli (va_runV (As := [.int (2 * a1), .int ((2 * a1) + 1)]) (rest := [.int 0]) ⟨hx, hb, hml, hown, hts⟩ (c_M_join l L (2 * a1) ((2 * a1) + 1) I F G _ _ h) (cwV 2 hts (gV wG901 wG903 wG40 wG54 wG904) rfl rfl rfl (by decide +kernel) ⟨Nat.le_of_ble_eq_true rfl, Nat.le_of_ble_eq_true rfl⟩) (mPrm hK hN hw) rfl rfl hl.1 rfl (lv_room (Nat.le_of_ble_eq_true rfl)) d_M_joinAt_95 ⟨Nat.le_of_ble_eq_true rfl, Nat.le_of_ble_eq_true rfl⟩) hw hA (fun r_40 I_41 F_41 G_41 H locs h hw => ?_)
            refine lv_ior hx hb d_M_joinAt_98 ?_
            refine lv_topi (fun x_42 ex_42 => ?_)
            replace h := h x_42 ex_42
            refine lv_istore_n (lv' := [(3, .int x_42), (0, .ref (cA L 0)), (1, .int a1), (2, .int a2)]) hx hb d_M_joinAt_99 rfl hl (by decide) rfl (fun ls hl => ?_)
            refine lv_iload_n hx hb d_M_joinAt_100 rfl (lv_at hl 0 rfl) ?_
            obtain ⟨hz_43, h⟩ := h
            exact W.zret hx hb hr hz_43 (fun t ht hW => ⟨⟨_, (I_41, F_41, G_41), rfl, h, by rw [ht]; exact hw.1, va_K.moved hW.alike hK, hw.2.1⟩, hw.2.2.F ht⟩) hw.2.2.2.2 d_M_joinAt_101
        · replace h := h.2 c_37
          refine lv_iload_n hx hb d_M_joinAt_54 rfl (lv_at hl 0 rfl) ?_
          refine lv_aload_n hx hb d_M_joinAt_55 rfl (lv_at hl 1 rfl) ?_
          refine lv_iconst (v := 2) hx hb d_M_joinAt_56 (by decide) ?_
          refine lv_iload_n hx hb d_M_joinAt_57 rfl (lv_at hl 2 rfl) ?_
          refine lv_imul hx hb d_M_joinAt_58 ?_
          refine lv_iconst (v := 1) hx hb d_M_joinAt_59 (by decide) ?_
          refine lv_iadd hx hb d_M_joinAt_60 ?_
          refine lv_iconst (v := 2) hx hb d_M_joinAt_61 (by decide) ?_
          refine lv_iload_n hx hb d_M_joinAt_62 rfl (lv_at hl 2 rfl) ?_
          refine lv_bipush (v := 24) hx hb d_M_joinAt_63 (by decide) ?_
          refine lv_iadd hx hb d_M_joinAt_65 ?_
          refine lv_imul hx hb d_M_joinAt_66 ?_
          refine lv_iconst (v := 1) hx hb d_M_joinAt_67 (by decide) ?_
          refine lv_iadd hx hb d_M_joinAt_68 ?_
          refine m_calli (va_runV (As := [.int ((2 * a1) + 1), .int ((2 * (a1 + 24)) + 1)]) (rest := [.int 0]) ⟨hx, hb, hml, hown, hts⟩ (c_M_join l L ((2 * a1) + 1) ((2 * (a1 + 24)) + 1) I F G _ _ h) (cwV 2 hts (gV wG901 wG903 wG40 wG54 wG904) rfl rfl rfl (by decide +kernel) ⟨Nat.le_of_ble_eq_true rfl, Nat.le_of_ble_eq_true rfl⟩) (mPrm hK hN hw) rfl rfl hl.1 rfl (lv_room (Nat.le_of_ble_eq_true rfl)) d_M_joinAt_69 ⟨Nat.le_of_ble_eq_true rfl, Nat.le_of_ble_eq_true rfl⟩) hw hA (fun r_44 I_45 F_45 G_45 H locs h hw => ?_)
          refine lv_ior hx hb d_M_joinAt_72 ?_
          refine lv_topi (fun x_46 ex_46 => ?_)
          replace h := h x_46 ex_46
          refine lv_istore_n (lv' := [(3, .int x_46), (0, .ref (cA L 0)), (1, .int a1), (2, .int a2)]) hx hb d_M_joinAt_73 rfl hl (by decide) rfl (fun ls hl => ?_)
          refine lv_aload_n hx hb d_M_joinAt_74 rfl (lv_at hl 1 rfl) ?_
          refine va_get (D := L.1) (ci := 5) (v := .ref (cA L 10)) (C := qR5) (T := qT5) (N := 16) hx hb hts qi5 hown hK hw.1 0 rfl rfl 12 (by decide) (hts _ wG744) (fun _ h9 => h9) rfl d_M_joinAt_75 ?_
          refine lv_iload_n hx hb d_M_joinAt_78 rfl (lv_at hl 2 rfl) ?_
          obtain ⟨hi_47, h⟩ := h
          refine va_iald hx hb hK hw.1 10 0 rfl rfl hi_47 d_M_joinAt_79 ?_
          refine lv_iconst (v := 4) hx hb d_M_joinAt_80 (by decide) ?_
          refine lv_iand hx hb d_M_joinAt_81 ?_
          refine lv_if_eq (tgt := 100) hx hb d_M_joinAt_82 (by decide) (fun c_48 => ?_) (fun c_48 => ?_)
          · replace h := h.1 c_48
            refine lv_iload_n hx hb d_M_joinAt_100 rfl (lv_at hl 0 rfl) ?_
            obtain ⟨hz_49, h⟩ := h
            exact W.zret hx hb hr hz_49 (fun t ht hW => ⟨⟨_, (I_45, F_45, G_45), rfl, h, by rw [ht]; exact hw.1, va_K.moved hW.alike hK, hw.2.1⟩, hw.2.2.F ht⟩) hw.2.2.2.2 d_M_joinAt_101
          · replace h := h.2 c_48
            refine lv_iload_n hx hb d_M_joinAt_85 rfl (lv_at hl 0 rfl) ?_
            refine lv_aload_n hx hb d_M_joinAt_86 rfl (lv_at hl 1 rfl) ?_
            refine lv_iconst (v := 2) hx hb d_M_joinAt_87 (by decide) ?_
            refine lv_iload_n hx hb d_M_joinAt_88 rfl (lv_at hl 2 rfl) ?_
            refine lv_imul hx hb d_M_joinAt_89 ?_
            refine lv_iconst (v := 2) hx hb d_M_joinAt_90 (by decide) ?_
            refine lv_iload_n hx hb d_M_joinAt_91 rfl (lv_at hl 2 rfl) ?_
            refine lv_imul hx hb d_M_joinAt_92 ?_
            refine lv_iconst (v := 1) hx hb d_M_joinAt_93 (by decide) ?_
            refine lv_iadd hx hb d_M_joinAt_94 ?_
            refine m_calli (va_runV (As := [.int (2 * a1), .int ((2 * a1) + 1)]) (rest := [.int x_46]) ⟨hx, hb, hml, hown, hts⟩ (c_M_join l L (2 * a1) ((2 * a1) + 1) I_45 F_45 G_45 _ _ h) (cwV 2 hts (gV wG901 wG903 wG40 wG54 wG904) rfl rfl rfl (by decide +kernel) ⟨Nat.le_of_ble_eq_true rfl, Nat.le_of_ble_eq_true rfl⟩) (mPrm hK hN hw) rfl rfl hl.1 rfl (lv_room (Nat.le_of_ble_eq_true rfl)) d_M_joinAt_95 ⟨Nat.le_of_ble_eq_true rfl, Nat.le_of_ble_eq_true rfl⟩) hw hA (fun r_50 I_51 F_51 G_51 H locs h hw => ?_)
            refine lv_ior hx hb d_M_joinAt_98 ?_
            refine lv_topi (fun x_52 ex_52 => ?_)
            replace h := h x_52 ex_52
            refine lv_istore_n (lv' := [(3, .int x_52), (0, .ref (cA L 0)), (1, .int a1), (2, .int a2)]) hx hb d_M_joinAt_99 rfl hl (by decide) rfl (fun ls hl => ?_)
            refine lv_iload_n hx hb d_M_joinAt_100 rfl (lv_at hl 0 rfl) ?_
            obtain ⟨hz_53, h⟩ := h
            exact W.zret hx hb hr hz_53 (fun t ht hW => ⟨⟨_, (I_51, F_51, G_51), rfl, h, by rw [ht]; exact hw.1, va_K.moved hW.alike hK, hw.2.1⟩, hw.2.2.F ht⟩) hw.2.2.2.2 d_M_joinAt_101
    · replace h := h.2 c_28
      refine lv_aload_n hx hb d_M_joinAt_22 rfl (lv_at hl 1 rfl) ?_
      refine lv_iconst (v := 2) hx hb d_M_joinAt_23 (by decide) ?_
      refine lv_iload_n hx hb d_M_joinAt_24 rfl (lv_at hl 2 rfl) ?_
      refine lv_imul hx hb d_M_joinAt_25 ?_
      refine lv_iconst (v := 2) hx hb d_M_joinAt_26 (by decide) ?_
      refine lv_iload_n hx hb d_M_joinAt_27 rfl (lv_at hl 2 rfl) ?_
      refine lv_imul hx hb d_M_joinAt_28 ?_
      refine lv_iconst (v := 2) hx hb d_M_joinAt_29 (by decide) ?_
      refine lv_iadd hx hb d_M_joinAt_30 ?_
      refine m_calli (va_runV (As := [.int (2 * a1), .int ((2 * a1) + 2)]) (rest := []) ⟨hx, hb, hml, hown, hts⟩ (c_M_join l L (2 * a1) ((2 * a1) + 2) I F G _ _ h) (cwV 2 hts (gV wG901 wG903 wG40 wG54 wG904) rfl rfl rfl (by decide +kernel) ⟨Nat.le_of_ble_eq_true rfl, Nat.le_of_ble_eq_true rfl⟩) (mPrm hK hN hw) rfl rfl hl.1 rfl (lv_room (Nat.le_of_ble_eq_true rfl)) d_M_joinAt_31 ⟨Nat.le_of_ble_eq_true rfl, Nat.le_of_ble_eq_true rfl⟩) hw hA (fun r_54 I_55 F_55 G_55 H locs h hw => ?_)
      refine lv_istore_n (lv' := [(3, .int r_54), (0, .ref (cA L 0)), (1, .int a1), (2, .int a2)]) hx hb d_M_joinAt_34 rfl hl (by decide) rfl (fun ls hl => ?_)
      refine lv_aload_n hx hb d_M_joinAt_35 rfl (lv_at hl 1 rfl) ?_
      refine va_get (D := L.1) (ci := 5) (v := .ref (cA L 10)) (C := qR5) (T := qT5) (N := 16) hx hb hts qi5 hown hK hw.1 0 rfl rfl 12 (by decide) (hts _ wG744) (fun _ h9 => h9) rfl d_M_joinAt_36 ?_
      refine lv_iload_n hx hb d_M_joinAt_39 rfl (lv_at hl 2 rfl) ?_
      obtain ⟨hi_56, h⟩ := h
      refine va_iald hx hb hK hw.1 10 0 rfl rfl hi_56 d_M_joinAt_40 ?_
      refine lv_iconst (v := 2) hx hb d_M_joinAt_41 (by decide) ?_
      refine lv_iand hx hb d_M_joinAt_42 ?_
      refine lv_if_eq (tgt := 74) hx hb d_M_joinAt_43 (by decide) (fun c_57 => ?_) (fun c_57 => ?_)
      · replace h := h.1 c_57
        refine lv_aload_n hx hb d_M_joinAt_74 rfl (lv_at hl 1 rfl) ?_
        refine va_get (D := L.1) (ci := 5) (v := .ref (cA L 10)) (C := qR5) (T := qT5) (N := 16) hx hb hts qi5 hown hK hw.1 0 rfl rfl 12 (by decide) (hts _ wG744) (fun _ h9 => h9) rfl d_M_joinAt_75 ?_
        refine lv_iload_n hx hb d_M_joinAt_78 rfl (lv_at hl 2 rfl) ?_
        obtain ⟨hi_58, h⟩ := h
        refine va_iald hx hb hK hw.1 10 0 rfl rfl hi_58 d_M_joinAt_79 ?_
        refine lv_iconst (v := 4) hx hb d_M_joinAt_80 (by decide) ?_
        refine lv_iand hx hb d_M_joinAt_81 ?_
        refine lv_if_eq (tgt := 100) hx hb d_M_joinAt_82 (by decide) (fun c_59 => ?_) (fun c_59 => ?_)
        · replace h := h.1 c_59
          refine lv_iload_n hx hb d_M_joinAt_100 rfl (lv_at hl 0 rfl) ?_
          obtain ⟨hz_60, h⟩ := h
          exact W.zret hx hb hr hz_60 (fun t ht hW => ⟨⟨_, (I_55, F_55, G_55), rfl, h, by rw [ht]; exact hw.1, va_K.moved hW.alike hK, hw.2.1⟩, hw.2.2.F ht⟩) hw.2.2.2.2 d_M_joinAt_101
        · replace h := h.2 c_59
          refine lv_iload_n hx hb d_M_joinAt_85 rfl (lv_at hl 0 rfl) ?_
          refine lv_aload_n hx hb d_M_joinAt_86 rfl (lv_at hl 1 rfl) ?_
          refine lv_iconst (v := 2) hx hb d_M_joinAt_87 (by decide) ?_
          refine lv_iload_n hx hb d_M_joinAt_88 rfl (lv_at hl 2 rfl) ?_
          refine lv_imul hx hb d_M_joinAt_89 ?_
          refine lv_iconst (v := 2) hx hb d_M_joinAt_90 (by decide) ?_
          refine lv_iload_n hx hb d_M_joinAt_91 rfl (lv_at hl 2 rfl) ?_
          refine lv_imul hx hb d_M_joinAt_92 ?_
          refine lv_iconst (v := 1) hx hb d_M_joinAt_93 (by decide) ?_
          refine lv_iadd hx hb d_M_joinAt_94 ?_
          refine m_calli (va_runV (As := [.int (2 * a1), .int ((2 * a1) + 1)]) (rest := [.int r_54]) ⟨hx, hb, hml, hown, hts⟩ (c_M_join l L (2 * a1) ((2 * a1) + 1) I_55 F_55 G_55 _ _ h) (cwV 2 hts (gV wG901 wG903 wG40 wG54 wG904) rfl rfl rfl (by decide +kernel) ⟨Nat.le_of_ble_eq_true rfl, Nat.le_of_ble_eq_true rfl⟩) (mPrm hK hN hw) rfl rfl hl.1 rfl (lv_room (Nat.le_of_ble_eq_true rfl)) d_M_joinAt_95 ⟨Nat.le_of_ble_eq_true rfl, Nat.le_of_ble_eq_true rfl⟩) hw hA (fun r_61 I_62 F_62 G_62 H locs h hw => ?_)
          refine lv_ior hx hb d_M_joinAt_98 ?_
          refine lv_topi (fun x_63 ex_63 => ?_)
          replace h := h x_63 ex_63
          refine lv_istore_n (lv' := [(3, .int x_63), (0, .ref (cA L 0)), (1, .int a1), (2, .int a2)]) hx hb d_M_joinAt_99 rfl hl (by decide) rfl (fun ls hl => ?_)
          refine lv_iload_n hx hb d_M_joinAt_100 rfl (lv_at hl 0 rfl) ?_
          obtain ⟨hz_64, h⟩ := h
          exact W.zret hx hb hr hz_64 (fun t ht hW => ⟨⟨_, (I_62, F_62, G_62), rfl, h, by rw [ht]; exact hw.1, va_K.moved hW.alike hK, hw.2.1⟩, hw.2.2.F ht⟩) hw.2.2.2.2 d_M_joinAt_101
      · replace h := h.2 c_57
        refine lv_iload_n hx hb d_M_joinAt_46 rfl (lv_at hl 2 rfl) ?_
        refine lv_bipush (v := 24) hx hb d_M_joinAt_47 (by decide) ?_
        refine lv_iadd hx hb d_M_joinAt_49 ?_
        refine lv_iload_n hx hb d_M_joinAt_50 rfl (lv_at hl 3 rfl) ?_
        refine lv_icmp_ge (tgt := 74) hx hb d_M_joinAt_51 (by decide) (fun c_65 => ?_) (fun c_65 => ?_)
        · replace h := h.1 c_65
          refine lv_aload_n hx hb d_M_joinAt_74 rfl (lv_at hl 1 rfl) ?_
          refine va_get (D := L.1) (ci := 5) (v := .ref (cA L 10)) (C := qR5) (T := qT5) (N := 16) hx hb hts qi5 hown hK hw.1 0 rfl rfl 12 (by decide) (hts _ wG744) (fun _ h9 => h9) rfl d_M_joinAt_75 ?_
          refine lv_iload_n hx hb d_M_joinAt_78 rfl (lv_at hl 2 rfl) ?_
          obtain ⟨hi_66, h⟩ := h
          refine va_iald hx hb hK hw.1 10 0 rfl rfl hi_66 d_M_joinAt_79 ?_
          refine lv_iconst (v := 4) hx hb d_M_joinAt_80 (by decide) ?_
          refine lv_iand hx hb d_M_joinAt_81 ?_
          refine lv_if_eq (tgt := 100) hx hb d_M_joinAt_82 (by decide) (fun c_67 => ?_) (fun c_67 => ?_)
          · replace h := h.1 c_67
            refine lv_iload_n hx hb d_M_joinAt_100 rfl (lv_at hl 0 rfl) ?_
            obtain ⟨hz_68, h⟩ := h
            exact W.zret hx hb hr hz_68 (fun t ht hW => ⟨⟨_, (I_55, F_55, G_55), rfl, h, by rw [ht]; exact hw.1, va_K.moved hW.alike hK, hw.2.1⟩, hw.2.2.F ht⟩) hw.2.2.2.2 d_M_joinAt_101
          · replace h := h.2 c_67
            refine lv_iload_n hx hb d_M_joinAt_85 rfl (lv_at hl 0 rfl) ?_
            refine lv_aload_n hx hb d_M_joinAt_86 rfl (lv_at hl 1 rfl) ?_
            refine lv_iconst (v := 2) hx hb d_M_joinAt_87 (by decide) ?_
            refine lv_iload_n hx hb d_M_joinAt_88 rfl (lv_at hl 2 rfl) ?_
            refine lv_imul hx hb d_M_joinAt_89 ?_
            refine lv_iconst (v := 2) hx hb d_M_joinAt_90 (by decide) ?_
            refine lv_iload_n hx hb d_M_joinAt_91 rfl (lv_at hl 2 rfl) ?_
            refine lv_imul hx hb d_M_joinAt_92 ?_
            refine lv_iconst (v := 1) hx hb d_M_joinAt_93 (by decide) ?_
            refine lv_iadd hx hb d_M_joinAt_94 ?_
            refine m_calli (va_runV (As := [.int (2 * a1), .int ((2 * a1) + 1)]) (rest := [.int r_54]) ⟨hx, hb, hml, hown, hts⟩ (c_M_join l L (2 * a1) ((2 * a1) + 1) I_55 F_55 G_55 _ _ h) (cwV 2 hts (gV wG901 wG903 wG40 wG54 wG904) rfl rfl rfl (by decide +kernel) ⟨Nat.le_of_ble_eq_true rfl, Nat.le_of_ble_eq_true rfl⟩) (mPrm hK hN hw) rfl rfl hl.1 rfl (lv_room (Nat.le_of_ble_eq_true rfl)) d_M_joinAt_95 ⟨Nat.le_of_ble_eq_true rfl, Nat.le_of_ble_eq_true rfl⟩) hw hA (fun r_69 I_70 F_70 G_70 H locs h hw => ?_)
            refine lv_ior hx hb d_M_joinAt_98 ?_
            refine lv_topi (fun x_71 ex_71 => ?_)
            replace h := h x_71 ex_71
            refine lv_istore_n (lv' := [(3, .int x_71), (0, .ref (cA L 0)), (1, .int a1), (2, .int a2)]) hx hb d_M_joinAt_99 rfl hl (by decide) rfl (fun ls hl => ?_)
            refine lv_iload_n hx hb d_M_joinAt_100 rfl (lv_at hl 0 rfl) ?_
            obtain ⟨hz_72, h⟩ := h
            exact W.zret hx hb hr hz_72 (fun t ht hW => ⟨⟨_, (I_70, F_70, G_70), rfl, h, by rw [ht]; exact hw.1, va_K.moved hW.alike hK, hw.2.1⟩, hw.2.2.F ht⟩) hw.2.2.2.2 d_M_joinAt_101
        · replace h := h.2 c_65
          refine lv_iload_n hx hb d_M_joinAt_54 rfl (lv_at hl 0 rfl) ?_
          refine lv_aload_n hx hb d_M_joinAt_55 rfl (lv_at hl 1 rfl) ?_
          refine lv_iconst (v := 2) hx hb d_M_joinAt_56 (by decide) ?_
          refine lv_iload_n hx hb d_M_joinAt_57 rfl (lv_at hl 2 rfl) ?_
          refine lv_imul hx hb d_M_joinAt_58 ?_
          refine lv_iconst (v := 1) hx hb d_M_joinAt_59 (by decide) ?_
          refine lv_iadd hx hb d_M_joinAt_60 ?_
          refine lv_iconst (v := 2) hx hb d_M_joinAt_61 (by decide) ?_
          refine lv_iload_n hx hb d_M_joinAt_62 rfl (lv_at hl 2 rfl) ?_
          refine lv_bipush (v := 24) hx hb d_M_joinAt_63 (by decide) ?_
          refine lv_iadd hx hb d_M_joinAt_65 ?_
          refine lv_imul hx hb d_M_joinAt_66 ?_
          refine lv_iconst (v := 1) hx hb d_M_joinAt_67 (by decide) ?_
          refine lv_iadd hx hb d_M_joinAt_68 ?_
          refine m_calli (va_runV (As := [.int ((2 * a1) + 1), .int ((2 * (a1 + 24)) + 1)]) (rest := [.int r_54]) ⟨hx, hb, hml, hown, hts⟩ (c_M_join l L ((2 * a1) + 1) ((2 * (a1 + 24)) + 1) I_55 F_55 G_55 _ _ h) (cwV 2 hts (gV wG901 wG903 wG40 wG54 wG904) rfl rfl rfl (by decide +kernel) ⟨Nat.le_of_ble_eq_true rfl, Nat.le_of_ble_eq_true rfl⟩) (mPrm hK hN hw) rfl rfl hl.1 rfl (lv_room (Nat.le_of_ble_eq_true rfl)) d_M_joinAt_69 ⟨Nat.le_of_ble_eq_true rfl, Nat.le_of_ble_eq_true rfl⟩) hw hA (fun r_73 I_74 F_74 G_74 H locs h hw => ?_)
          refine lv_ior hx hb d_M_joinAt_72 ?_
          refine lv_topi (fun x_75 ex_75 => ?_)
          replace h := h x_75 ex_75
          refine lv_istore_n (lv' := [(3, .int x_75), (0, .ref (cA L 0)), (1, .int a1), (2, .int a2)]) hx hb d_M_joinAt_73 rfl hl (by decide) rfl (fun ls hl => ?_)
          refine lv_aload_n hx hb d_M_joinAt_74 rfl (lv_at hl 1 rfl) ?_
          refine va_get (D := L.1) (ci := 5) (v := .ref (cA L 10)) (C := qR5) (T := qT5) (N := 16) hx hb hts qi5 hown hK hw.1 0 rfl rfl 12 (by decide) (hts _ wG744) (fun _ h9 => h9) rfl d_M_joinAt_75 ?_
          refine lv_iload_n hx hb d_M_joinAt_78 rfl (lv_at hl 2 rfl) ?_
          obtain ⟨hi_76, h⟩ := h
          refine va_iald hx hb hK hw.1 10 0 rfl rfl hi_76 d_M_joinAt_79 ?_
          refine lv_iconst (v := 4) hx hb d_M_joinAt_80 (by decide) ?_
          refine lv_iand hx hb d_M_joinAt_81 ?_
          refine lv_if_eq (tgt := 100) hx hb d_M_joinAt_82 (by decide) (fun c_77 => ?_) (fun c_77 => ?_)
          · replace h := h.1 c_77
            refine lv_iload_n hx hb d_M_joinAt_100 rfl (lv_at hl 0 rfl) ?_
            obtain ⟨hz_78, h⟩ := h
            exact W.zret hx hb hr hz_78 (fun t ht hW => ⟨⟨_, (I_74, F_74, G_74), rfl, h, by rw [ht]; exact hw.1, va_K.moved hW.alike hK, hw.2.1⟩, hw.2.2.F ht⟩) hw.2.2.2.2 d_M_joinAt_101
          · replace h := h.2 c_77
            refine lv_iload_n hx hb d_M_joinAt_85 rfl (lv_at hl 0 rfl) ?_
            refine lv_aload_n hx hb d_M_joinAt_86 rfl (lv_at hl 1 rfl) ?_
            refine lv_iconst (v := 2) hx hb d_M_joinAt_87 (by decide) ?_
            refine lv_iload_n hx hb d_M_joinAt_88 rfl (lv_at hl 2 rfl) ?_
            refine lv_imul hx hb d_M_joinAt_89 ?_
            refine lv_iconst (v := 2) hx hb d_M_joinAt_90 (by decide) ?_
            refine lv_iload_n hx hb d_M_joinAt_91 rfl (lv_at hl 2 rfl) ?_
            refine lv_imul hx hb d_M_joinAt_92 ?_
            refine lv_iconst (v := 1) hx hb d_M_joinAt_93 (by decide) ?_
            refine lv_iadd hx hb d_M_joinAt_94 ?_
            refine m_calli (va_runV (As := [.int (2 * a1), .int ((2 * a1) + 1)]) (rest := [.int x_75]) ⟨hx, hb, hml, hown, hts⟩ (c_M_join l L (2 * a1) ((2 * a1) + 1) I_74 F_74 G_74 _ _ h) (cwV 2 hts (gV wG901 wG903 wG40 wG54 wG904) rfl rfl rfl (by decide +kernel) ⟨Nat.le_of_ble_eq_true rfl, Nat.le_of_ble_eq_true rfl⟩) (mPrm hK hN hw) rfl rfl hl.1 rfl (lv_room (Nat.le_of_ble_eq_true rfl)) d_M_joinAt_95 ⟨Nat.le_of_ble_eq_true rfl, Nat.le_of_ble_eq_true rfl⟩) hw hA (fun r_79 I_80 F_80 G_80 H locs h hw => ?_)
            refine lv_ior hx hb d_M_joinAt_98 ?_
            refine lv_topi (fun x_81 ex_81 => ?_)
            replace h := h x_81 ex_81
            refine lv_istore_n (lv' := [(3, .int x_81), (0, .ref (cA L 0)), (1, .int a1), (2, .int a2)]) hx hb d_M_joinAt_99 rfl hl (by decide) rfl (fun ls hl => ?_)
            refine lv_iload_n hx hb d_M_joinAt_100 rfl (lv_at hl 0 rfl) ?_
            obtain ⟨hz_82, h⟩ := h
            exact W.zret hx hb hr hz_82 (fun t ht hW => ⟨⟨_, (I_80, F_80, G_80), rfl, h, by rw [ht]; exact hw.1, va_K.moved hW.alike hK, hw.2.1⟩, hw.2.2.F ht⟩) hw.2.2.2.2 d_M_joinAt_101
abbrev rm_M_find : Room := { frames := 2, cells := 0, slots := 0, locals := 46 }
set_option maxHeartbeats 4000000 in
set_option maxRecDepth 100000 in
theorem Wl_M_find_14 {p : Program} {l : Launch} {e : Env} {s : State} {m : MethodId} {args : Array Value} {below : List Frame} {meth : Method} {c : Code} {L : cL} {A : Nat → Prop} {post : MI → MF → MG → Prop} {K : Int32 → MI → MF → MG → Prop} {a1 : Int32} {a2 : Int32} (xc : xC p s m args meth c b_M_find 4 lwG qR5 (none)) (hK : va_K L.1 vwCl (mTys L) s) (hN : mNk s) (hA : ∀ q, s.heap.size ≤ q → A q)
    (hk : ∀ (a3 : Int32) (I : MI) (F : MF) (G : MG) (H : Heap) (locs : List Loc) (ls : Array Slot), K a3 I F G → MW L A s.heap I F G H locs → lv_has ls 4 [(0, .ref (cA L 0)), (1, .int a1), (2, .int a2), (3, .int a3)] → W p l e rm_M_find s m args below meth c H locs 0 0 (MQ below (mQv L A post A) args s 0 0 A) (F0 m 34 ls [])) :
    ∀ (n : Nat) (a3 : Int32) (I : MI) (F : MF) (G : MG) (H : Heap) (locs : List Loc) (ls : Array Slot), wl_M_find_14 post K a1 a2 n a3 I F G → MW L A s.heap I F G H locs → lv_has ls 4 [(0, .ref (cA L 0)), (1, .int a1), (2, .int a2), (3, .int a3)] → W p l e rm_M_find s m args below meth c H locs 0 0 (MQ below (mQv L A post A) args s 0 0 A) (F0 m 14 ls []) := by
  obtain ⟨hx, hb, hml, hown, hts, hr, hlocks⟩ := id xc
  intro n
  induction n with
  | zero => intro a3 I F G H locs ls h; exact absurd h id
  | succ n ih =>
    intro a3 I F G H locs ls h hw hl
    refine lv_iload_n hx hb d_M_find_14 rfl (lv_at hl 3 rfl) ?_
    refine lv_iconst (v := 2) hx hb d_M_find_15 (by decide) ?_
    refine lv_iload_n hx hb d_M_find_16 rfl (lv_at hl 1 rfl) ?_
    refine lv_imul hx hb d_M_find_17 ?_
    refine lv_icmp_ge (tgt := 34) hx hb d_M_find_18 (by decide) (fun c_2 => ?_) (fun c_2 => ?_)
    · replace h := h.1 c_2
      exact hk a3 I F G _ _ ls h hw (lv_sub hl [0, 1, 2, 3] rfl)
    · replace h := h.2 c_2
      refine lv_aload_n hx hb d_M_find_21 rfl (lv_at hl 0 rfl) ?_
      refine va_get (D := L.1) (ci := 5) (v := .ref (cA L 11)) (C := qR5) (T := qT5) (N := 16) hx hb hts qi5 hown hK hw.1 0 rfl rfl 13 (by decide) (hts _ wG745) (fun _ h9 => h9) rfl d_M_find_22 ?_
      refine lv_iload_n hx hb d_M_find_25 rfl (lv_at hl 3 rfl) ?_
      refine lv_iload_n hx hb d_M_find_26 rfl (lv_at hl 3 rfl) ?_
      obtain ⟨hi_3, h⟩ := h
      refine m_iast hx hb hK hw 9 11 rfl (fun _ => rfl) hi_3 d_M_find_27 (fun H locs hw => ?_)
      obtain ⟨F_4, eF_4⟩ : ∃ y : MF, y = setF F 9 (upd (F 9) a3.toNatClampNeg a3) := ⟨_, rfl⟩
      rw [← eF_4] at hw
      replace h := h F_4 eF_4
      obtain ⟨x_5, ex_5⟩ : ∃ y : Int32, y = a3 + 1 := ⟨_, rfl⟩
      replace h := h x_5 ex_5
      refine lv_iinc (v := x_5) (lv' := [(3, .int x_5), (0, .ref (cA L 0)), (1, .int a1), (2, .int a2)]) hx hb d_M_find_28 hl (k := 3) rfl (by rw [ex_5]; rfl) (by decide) rfl (fun ls hl => ?_)
      refine lv_goto (tgt := 14) hx hb d_M_find_31 (by decide) ?_
      exact ih x_5 I F_4 G _ _ ls h hw (lv_sub hl [1, 2, 3, 0] rfl)
set_option maxHeartbeats 4000000 in
set_option maxRecDepth 100000 in
theorem Wl_M_find_42 {p : Program} {l : Launch} {e : Env} {s : State} {m : MethodId} {args : Array Value} {below : List Frame} {meth : Method} {c : Code} {L : cL} {A : Nat → Prop} {post : MI → MF → MG → Prop} {K : Int32 → Int32 → MI → MF → MG → Prop} {a1 : Int32} (xc : xC p s m args meth c b_M_find 4 lwG qR5 (none)) (hK : va_K L.1 vwCl (mTys L) s) (hN : mNk s) (hA : ∀ q, s.heap.size ≤ q → A q)
    (hk : ∀ (a2 : Int32) (a3 : Int32) (I : MI) (F : MF) (G : MG) (H : Heap) (locs : List Loc) (ls : Array Slot), K a2 a3 I F G → MW L A s.heap I F G H locs → lv_has ls 4 [(0, .ref (cA L 0)), (1, .int a1), (2, .int a2), (3, .int a3)] → W p l e rm_M_find s m args below meth c H locs 0 0 (MQ below (mQv L A post A) args s 0 0 A) (F0 m 62 ls [])) :
    ∀ (n : Nat) (a2 : Int32) (a3 : Int32) (I : MI) (F : MF) (G : MG) (H : Heap) (locs : List Loc) (ls : Array Slot), wl_M_find_42 post K a1 n a2 a3 I F G → MW L A s.heap I F G H locs → lv_has ls 4 [(0, .ref (cA L 0)), (1, .int a1), (2, .int a2), (3, .int a3)] → W p l e rm_M_find s m args below meth c H locs 0 0 (MQ below (mQv L A post A) args s 0 0 A) (F0 m 42 ls []) := by
  obtain ⟨hx, hb, hml, hown, hts, hr, hlocks⟩ := id xc
  intro n
  induction n with
  | zero => intro a2 a3 I F G H locs ls h; exact absurd h id
  | succ n ih =>
    intro a2 a3 I F G H locs ls h hw hl
    refine lv_iload_n hx hb d_M_find_42 rfl (lv_at hl 3 rfl) ?_
    refine lv_iload_n hx hb d_M_find_43 rfl (lv_at hl 1 rfl) ?_
    refine lv_icmp_ge (tgt := 62) hx hb d_M_find_44 (by decide) (fun c_9 => ?_) (fun c_9 => ?_)
    · replace h := h.1 c_9
      exact hk a2 a3 I F G _ _ ls h hw (lv_sub hl [0, 1, 2, 3] rfl)
    · replace h := h.2 c_9
      refine lv_iload_n hx hb d_M_find_47 rfl (lv_at hl 2 rfl) ?_
      refine lv_aload_n hx hb d_M_find_48 rfl (lv_at hl 0 rfl) ?_
      refine lv_iload_n hx hb d_M_find_49 rfl (lv_at hl 3 rfl) ?_
      refine lv_iload_n hx hb d_M_find_50 rfl (lv_at hl 1 rfl) ?_
      refine m_calli (va_runV (As := [.int a3, .int a1]) (rest := [.int a2]) ⟨hx, hb, hml, hown, hts⟩ (c_M_joinAt l L a3 a1 I F G _ _ h) (cwV 2 hts (gV wG897 wG899 wG39 wG54 wG900) rfl rfl rfl (by decide +kernel) ⟨Nat.le_of_ble_eq_true rfl, Nat.le_of_ble_eq_true rfl⟩) (mPrm hK hN hw) rfl rfl hl.1 rfl (lv_room (Nat.le_of_ble_eq_true rfl)) d_M_find_51 ⟨Nat.le_of_ble_eq_true rfl, Nat.le_of_ble_eq_true rfl⟩) hw hA (fun r_10 I_11 F_11 G_11 H locs h hw => ?_)
      refine lv_ior hx hb d_M_find_54 ?_
      refine lv_topi (fun x_12 ex_12 => ?_)
      replace h := h x_12 ex_12
      refine lv_istore_n (lv' := [(2, .int x_12), (0, .ref (cA L 0)), (1, .int a1), (3, .int a3)]) hx hb d_M_find_55 rfl hl (by decide) rfl (fun ls hl => ?_)
      obtain ⟨x_13, ex_13⟩ : ∃ y : Int32, y = a3 + 1 := ⟨_, rfl⟩
      replace h := h x_13 ex_13
      refine lv_iinc (v := x_13) (lv' := [(3, .int x_13), (2, .int x_12), (0, .ref (cA L 0)), (1, .int a1)]) hx hb d_M_find_56 hl (k := 3) rfl (by rw [ex_13]; rfl) (by decide) rfl (fun ls hl => ?_)
      refine lv_goto (tgt := 42) hx hb d_M_find_59 (by decide) ?_
      exact ih x_12 x_13 I_11 F_11 G_11 _ _ ls h hw (lv_sub hl [2, 3, 1, 0] rfl)
set_option maxHeartbeats 4000000 in
set_option maxRecDepth 100000 in
theorem Wl_M_find_66 {p : Program} {l : Launch} {e : Env} {s : State} {m : MethodId} {args : Array Value} {below : List Frame} {meth : Method} {c : Code} {L : cL} {A : Nat → Prop} {post : MI → MF → MG → Prop} {K : Int32 → Int32 → MI → MF → MG → Prop} {a1 : Int32} (xc : xC p s m args meth c b_M_find 4 lwG qR5 (none)) (hK : va_K L.1 vwCl (mTys L) s) (hN : mNk s) (hA : ∀ q, s.heap.size ≤ q → A q)
    (hk : ∀ (a2 : Int32) (a3 : Int32) (I : MI) (F : MF) (G : MG) (H : Heap) (locs : List Loc) (ls : Array Slot), K a2 a3 I F G → MW L A s.heap I F G H locs → lv_has ls 4 [(0, .ref (cA L 0)), (1, .int a1), (2, .int a2), (3, .int a3)] → W p l e rm_M_find s m args below meth c H locs 0 0 (MQ below (mQv L A post A) args s 0 0 A) (F0 m 85 ls [])) :
    ∀ (n : Nat) (a2 : Int32) (a3 : Int32) (I : MI) (F : MF) (G : MG) (H : Heap) (locs : List Loc) (ls : Array Slot), wl_M_find_66 post K a1 n a2 a3 I F G → MW L A s.heap I F G H locs → lv_has ls 4 [(0, .ref (cA L 0)), (1, .int a1), (2, .int a2), (3, .int a3)] → W p l e rm_M_find s m args below meth c H locs 0 0 (MQ below (mQv L A post A) args s 0 0 A) (F0 m 66 ls []) := by
  obtain ⟨hx, hb, hml, hown, hts, hr, hlocks⟩ := id xc
  intro n
  induction n with
  | zero => intro a2 a3 I F G H locs ls h; exact absurd h id
  | succ n ih =>
    intro a2 a3 I F G H locs ls h hw hl
    refine lv_iload_n hx hb d_M_find_66 rfl (lv_at hl 3 rfl) ?_
    refine lv_if_lt (tgt := 85) hx hb d_M_find_67 (by decide) (fun c_18 => ?_) (fun c_18 => ?_)
    · replace h := h.1 c_18
      exact hk a2 a3 I F G _ _ ls h hw (lv_sub hl [0, 1, 2, 3] rfl)
    · replace h := h.2 c_18
      refine lv_iload_n hx hb d_M_find_70 rfl (lv_at hl 2 rfl) ?_
      refine lv_aload_n hx hb d_M_find_71 rfl (lv_at hl 0 rfl) ?_
      refine lv_iload_n hx hb d_M_find_72 rfl (lv_at hl 3 rfl) ?_
      refine lv_iload_n hx hb d_M_find_73 rfl (lv_at hl 1 rfl) ?_
      refine m_calli (va_runV (As := [.int a3, .int a1]) (rest := [.int a2]) ⟨hx, hb, hml, hown, hts⟩ (c_M_joinAt l L a3 a1 I F G _ _ h) (cwV 2 hts (gV wG897 wG899 wG39 wG54 wG900) rfl rfl rfl (by decide +kernel) ⟨Nat.le_of_ble_eq_true rfl, Nat.le_of_ble_eq_true rfl⟩) (mPrm hK hN hw) rfl rfl hl.1 rfl (lv_room (Nat.le_of_ble_eq_true rfl)) d_M_find_74 ⟨Nat.le_of_ble_eq_true rfl, Nat.le_of_ble_eq_true rfl⟩) hw hA (fun r_19 I_20 F_20 G_20 H locs h hw => ?_)
      refine lv_ior hx hb d_M_find_77 ?_
      refine lv_topi (fun x_21 ex_21 => ?_)
      replace h := h x_21 ex_21
      refine lv_istore_n (lv' := [(2, .int x_21), (0, .ref (cA L 0)), (1, .int a1), (3, .int a3)]) hx hb d_M_find_78 rfl hl (by decide) rfl (fun ls hl => ?_)
      obtain ⟨x_22, ex_22⟩ : ∃ y : Int32, y = a3 + (-1) := ⟨_, rfl⟩
      replace h := h x_22 ex_22
      refine lv_iinc (v := x_22) (lv' := [(3, .int x_22), (2, .int x_21), (0, .ref (cA L 0)), (1, .int a1)]) hx hb d_M_find_79 hl (k := 3) rfl (by rw [ex_22]; rfl) (by decide) rfl (fun ls hl => ?_)
      refine lv_goto (tgt := 66) hx hb d_M_find_82 (by decide) ?_
      exact ih x_21 x_22 I_20 F_20 G_20 _ _ ls h hw (lv_sub hl [2, 3, 1, 0] rfl)
set_option maxHeartbeats 4000000 in
set_option maxRecDepth 100000 in
theorem Wl_M_find_34 {p : Program} {l : Launch} {e : Env} {s : State} {m : MethodId} {args : Array Value} {below : List Frame} {meth : Method} {c : Code} {L : cL} {A : Nat → Prop} {post : MI → MF → MG → Prop} {K : Int32 → Int32 → MI → MF → MG → Prop} {a1 : Int32} (xc : xC p s m args meth c b_M_find 4 lwG qR5 (none)) (hK : va_K L.1 vwCl (mTys L) s) (hN : mNk s) (hA : ∀ q, s.heap.size ≤ q → A q)
    (hk : ∀ (a2 : Int32) (a3 : Int32) (I : MI) (F : MF) (G : MG) (H : Heap) (locs : List Loc) (ls : Array Slot), K a2 a3 I F G → MW L A s.heap I F G H locs → lv_has ls 4 [(0, .ref (cA L 0)), (1, .int a1), (2, .int a2), (3, .int a3)] → W p l e rm_M_find s m args below meth c H locs 0 0 (MQ below (mQv L A post A) args s 0 0 A) (F0 m 88 ls [])) :
    ∀ (n : Nat) (a2 : Int32) (a3 : Int32) (I : MI) (F : MF) (G : MG) (H : Heap) (locs : List Loc) (ls : Array Slot), wl_M_find_34 post K a1 n a2 a3 I F G → MW L A s.heap I F G H locs → lv_has ls 4 [(0, .ref (cA L 0)), (1, .int a1), (2, .int a2), (3, .int a3)] → W p l e rm_M_find s m args below meth c H locs 0 0 (MQ below (mQv L A post A) args s 0 0 A) (F0 m 34 ls []) := by
  obtain ⟨hx, hb, hml, hown, hts, hr, hlocks⟩ := id xc
  intro n
  induction n with
  | zero => intro a2 a3 I F G H locs ls h; exact absurd h id
  | succ n ih =>
    intro a2 a3 I F G H locs ls h hw hl
    refine lv_iload_n hx hb d_M_find_34 rfl (lv_at hl 2 rfl) ?_
    refine lv_if_eq (tgt := 88) hx hb d_M_find_35 (by decide) (fun c_8 => ?_) (fun c_8 => ?_)
    · replace h := h.1 c_8
      exact hk a2 a3 I F G _ _ ls h hw (lv_sub hl [0, 1, 2, 3] rfl)
    · replace h := h.2 c_8
      refine lv_iconst (v := 0) hx hb d_M_find_38 (by decide) ?_
      refine lv_istore_n (lv' := [(2, .int 0), (0, .ref (cA L 0)), (1, .int a1), (3, .int a3)]) hx hb d_M_find_39 rfl hl (by decide) rfl (fun ls hl => ?_)
      refine lv_iconst (v := 0) hx hb d_M_find_40 (by decide) ?_
      refine lv_istore_n (lv' := [(3, .int 0), (2, .int 0), (0, .ref (cA L 0)), (1, .int a1)]) hx hb d_M_find_41 rfl hl (by decide) rfl (fun ls hl => ?_)
      obtain ⟨n_27, h⟩ := h
      refine Wl_M_find_42 xc hK hN hA (hk := fun x_14 x_15 I_16 F_16 G_16 H locs ls h hw hl => ?_) n_27 0 0 I F G _ _ ls h hw (lv_sub hl [2, 3, 1, 0] rfl)
      refine lv_iload_n hx hb d_M_find_62 rfl (lv_at hl 1 rfl) ?_
      refine lv_iconst (v := 1) hx hb d_M_find_63 (by decide) ?_
      refine lv_isub hx hb d_M_find_64 ?_
      refine lv_topi (fun x_17 ex_17 => ?_)
      replace h := h x_17 ex_17
      refine lv_istore_n (lv' := [(3, .int x_17), (0, .ref (cA L 0)), (1, .int a1), (2, .int x_14)]) hx hb d_M_find_65 rfl hl (by decide) rfl (fun ls hl => ?_)
      obtain ⟨n_26, h⟩ := h
      refine Wl_M_find_66 xc hK hN hA (hk := fun x_23 x_24 I_25 F_25 G_25 H locs ls h hw hl => ?_) n_26 x_14 x_17 I_16 F_16 G_16 _ _ ls h hw (lv_sub hl [1, 2, 3, 0] rfl)
      refine lv_goto (tgt := 34) hx hb d_M_find_85 (by decide) ?_
      exact ih x_23 x_24 I_25 F_25 G_25 _ _ ls h hw (lv_sub hl [0, 1, 2, 3] rfl)
set_option maxHeartbeats 4000000 in
set_option maxRecDepth 100000 in
theorem c_M_find (l : Launch) (L : cL) (I : MI) (F : MF) (G : MG) (sz : Nat) (post : MI → MF → MG → Prop) (h : wp_M_find I F G post) : Met l y_M_find (.code y_M_find b_M_find 4 (none) :: lwG) rm_M_find (mPm L I F G sz [.ref (cA L 0)]) (mQv L (mAA L I F G sz) post (mAA L I F G sz)) 0 0 (mAA L I F G sz) := by
  refine Met.ofW (cc := b_M_find) (maxL := 4) (ret := (none)) (by decide) rfl ?_
  intro p e s m args below meth c s₁ B hml hv
  obtain ⟨rfl, hsz, hP, hK, hD0, hN⟩ := hv
  have xc : xC p s m _ meth c b_M_find 4 lwG qR5 (none) := ⟨B.exec, B.bytes, hml, findClass_of_methodNamed B.named, fun w h => atoms_spec (ws := (.code y_M_find b_M_find 4 (none) :: lwG)) B.pre w (List.mem_cons_of_mem _ h), B.returns, B.notSynchronized⟩
  obtain ⟨hx, hb, hml, hown, hts, hr, hlocks⟩ := id xc
  subst hsz
  have hD : va_D (mAA L I F G s.heap.size) (WM L I F G) := hD0.self
  have hA0 : ∀ q : Nat, s.heap.size ≤ q → mAA L I F G s.heap.size q := fun q h => Or.inr h
  generalize mAA L I F G s.heap.size = A at hD hA0 ⊢
  have hA := hA0
  have hw : MW L A s.heap I F G s.heap [] := ⟨hP, hD, va_S.rf⟩
  have hl := lv_entry ([.ref (cA L 0)]) (n := 4) (Nat.le_of_ble_eq_true rfl)
  rw [lg_entry_eq]
  generalize (lg_sl ([.ref (cA L 0)]) ++ List.replicate (4 - (lg_sl ([.ref (cA L 0)])).length) Slot.unset).toArray = ls at hl ⊢
  have hl : lv_has ls 4 [(0, .ref (cA L 0))] := hl
  refine lv_bipush (v := 24) hx hb d_M_find_0 (by decide) ?_
  refine lv_aload_n hx hb d_M_find_2 rfl (lv_at hl 0 rfl) ?_
  refine va_get (D := L.1) (ci := 5) (v := .int (I 2)) (C := qR5) (T := qT5) (N := 16) hx hb hts qi5 hown hK hw.1 0 rfl rfl 2 (by decide) (hts _ wG734) (fun _ h9 => h9) rfl d_M_find_3 ?_
  refine lv_iconst (v := 2) hx hb d_M_find_6 (by decide) ?_
  refine lv_iadd hx hb d_M_find_7 ?_
  refine lv_imul hx hb d_M_find_8 ?_
  refine lv_topi (fun x_1 ex_1 => ?_)
  replace h := h x_1 ex_1
  refine lv_istore_n (lv' := [(1, .int x_1), (0, .ref (cA L 0))]) hx hb d_M_find_9 rfl hl (by decide) rfl (fun ls hl => ?_)
  refine lv_iconst (v := 1) hx hb d_M_find_10 (by decide) ?_
  refine lv_istore_n (lv' := [(2, .int 1), (1, .int x_1), (0, .ref (cA L 0))]) hx hb d_M_find_11 rfl hl (by decide) rfl (fun ls hl => ?_)
  refine lv_iconst (v := 0) hx hb d_M_find_12 (by decide) ?_
  refine lv_istore_n (lv' := [(3, .int 0), (2, .int 1), (1, .int x_1), (0, .ref (cA L 0))]) hx hb d_M_find_13 rfl hl (by decide) rfl (fun ls hl => ?_)
  obtain ⟨n_32, h⟩ := h
  refine Wl_M_find_14 xc hK hN hA (hk := fun x_6 I_7 F_7 G_7 H locs ls h hw hl => ?_) n_32 0 I F G _ _ ls h hw (lv_sub hl [3, 2, 1, 0] rfl)
  obtain ⟨n_31, h⟩ := h
  refine Wl_M_find_34 xc hK hN hA (hk := fun x_28 x_29 I_30 F_30 G_30 H locs ls h hw hl => ?_) n_31 1 x_6 I_7 F_7 G_7 _ _ ls h hw (lv_sub hl [0, 1, 2, 3] rfl)
  exact W.vret hx hb hr (fun t ht hW => ⟨⟨(I_30, F_30, G_30), rfl, h, by rw [ht]; exact hw.1, va_K.moved hW.alike hK, hw.2.1⟩, hw.2.2.F ht⟩) hw.2.2.2.2 d_M_find_88
abbrev rm_M_pinAt : Room := { frames := 0, cells := 0, slots := 0, locals := 0 }
set_option maxHeartbeats 4000000 in
set_option maxRecDepth 100000 in
theorem c_M_pinAt (l : Launch) (L : cL) (a1 : Int32) (a2 : Int32) (I : MI) (F : MF) (G : MG) (post : Int32 → Prop) (h : wp_M_pinAt a1 a2 I F G post) : Met l y_M_pinAt (.code y_M_pinAt b_M_pinAt 3 (some .int) :: lwG) rm_M_pinAt (mPc L I F G [.ref (cA L 0), .int a1, .int a2]) (vp_Si post) 0 0 (fun _ => False) := by
  refine Met.ofW (cc := b_M_pinAt) (maxL := 3) (ret := (some .int)) (by decide) rfl ?_
  intro p e s m args below meth c s₁ B hml hv
  obtain ⟨rfl, hP, hK, hN⟩ := hv
  have xc : xC p s m _ meth c b_M_pinAt 3 lwG qR5 (some .int) := ⟨B.exec, B.bytes, hml, findClass_of_methodNamed B.named, fun w h => atoms_spec (ws := (.code y_M_pinAt b_M_pinAt 3 (some .int) :: lwG)) B.pre w (List.mem_cons_of_mem _ h), B.returns, B.notSynchronized⟩
  obtain ⟨hx, hb, hml, hown, hts, hr, hlocks⟩ := id xc
  have hl := lv_entry ([.ref (cA L 0), .int a1, .int a2]) (n := 3) (Nat.le_of_ble_eq_true rfl)
  rw [lg_entry_eq]
  generalize (lg_sl ([.ref (cA L 0), .int a1, .int a2]) ++ List.replicate (3 - (lg_sl ([.ref (cA L 0), .int a1, .int a2])).length) Slot.unset).toArray = ls at hl ⊢
  have hl : lv_has ls 3 [(0, .ref (cA L 0)), (1, .int a1), (2, .int a2)] := hl
  refine lv_aload_n hx hb d_M_pinAt_0 rfl (lv_at hl 0 rfl) ?_
  refine va_get (D := L.1) (ci := 5) (v := .ref (cA L 11)) (C := qR5) (T := qT5) (N := 16) hx hb hts qi5 hown hK hP 0 rfl rfl 13 (by decide) (hts _ wG745) (fun _ h9 => h9) rfl d_M_pinAt_1 ?_
  refine lv_iconst (v := 2) hx hb d_M_pinAt_4 (by decide) ?_
  refine lv_bipush (v := 24) hx hb d_M_pinAt_5 (by decide) ?_
  refine lv_aload_n hx hb d_M_pinAt_7 rfl (lv_at hl 0 rfl) ?_
  refine va_get (D := L.1) (ci := 5) (v := .ref (cA L 5)) (C := qR5) (T := qT5) (N := 16) hx hb hts qi5 hown hK hP 0 rfl rfl 7 (by decide) (hts _ wG739) (fun _ h9 => h9) rfl d_M_pinAt_8 ?_
  refine lv_iload_n hx hb d_M_pinAt_11 rfl (lv_at hl 1 rfl) ?_
  obtain ⟨hi_1, h⟩ := h
  refine va_iald hx hb hK hP 5 0 rfl rfl hi_1 d_M_pinAt_12 ?_
  refine lv_if_ne (tgt := 20) hx hb d_M_pinAt_13 (by decide) (fun c_2 => ?_) (fun c_2 => ?_)
  · replace h := h.1 c_2
    refine lv_aload_n hx hb d_M_pinAt_20 rfl (lv_at hl 0 rfl) ?_
    refine va_get (D := L.1) (ci := 5) (v := .int (I 2)) (C := qR5) (T := qT5) (N := 16) hx hb hts qi5 hown hK hP 0 rfl rfl 2 (by decide) (hts _ wG734) (fun _ h9 => h9) rfl d_M_pinAt_21 ?_
    refine lv_iconst (v := 1) hx hb d_M_pinAt_24 (by decide) ?_
    refine lv_iadd hx hb d_M_pinAt_25 ?_
    refine lv_imul hx hb d_M_pinAt_26 ?_
    refine lv_aload_n hx hb d_M_pinAt_27 rfl (lv_at hl 0 rfl) ?_
    refine va_get (D := L.1) (ci := 5) (v := .ref (cA L 6)) (C := qR5) (T := qT5) (N := 16) hx hb hts qi5 hown hK hP 0 rfl rfl 8 (by decide) (hts _ wG740) (fun _ h9 => h9) rfl d_M_pinAt_28 ?_
    refine lv_iload_n hx hb d_M_pinAt_31 rfl (lv_at hl 1 rfl) ?_
    obtain ⟨hi_3, h⟩ := h
    refine va_iald hx hb hK hP 6 0 rfl rfl hi_3 d_M_pinAt_32 ?_
    refine lv_iadd hx hb d_M_pinAt_33 ?_
    refine lv_iload_n hx hb d_M_pinAt_34 rfl (lv_at hl 2 rfl) ?_
    refine lv_iadd hx hb d_M_pinAt_35 ?_
    refine lv_imul hx hb d_M_pinAt_36 ?_
    refine lv_iconst (v := 1) hx hb d_M_pinAt_37 (by decide) ?_
    refine lv_iadd hx hb d_M_pinAt_38 ?_
    obtain ⟨hi_4, h⟩ := h
    refine va_iald hx hb hK hP 11 0 rfl rfl hi_4 d_M_pinAt_39 ?_
    exact W.iret hx hb hr (fun t ht _ => ⟨_, rfl, h, ht⟩) (fun _ h9 => nomatch h9) d_M_pinAt_40
  · replace h := h.2 c_2
    refine lv_iconst (v := 0) hx hb d_M_pinAt_16 (by decide) ?_
    refine lv_goto (tgt := 26) hx hb d_M_pinAt_17 (by decide) ?_
    refine lv_imul hx hb d_M_pinAt_26 ?_
    refine lv_aload_n hx hb d_M_pinAt_27 rfl (lv_at hl 0 rfl) ?_
    refine va_get (D := L.1) (ci := 5) (v := .ref (cA L 6)) (C := qR5) (T := qT5) (N := 16) hx hb hts qi5 hown hK hP 0 rfl rfl 8 (by decide) (hts _ wG740) (fun _ h9 => h9) rfl d_M_pinAt_28 ?_
    refine lv_iload_n hx hb d_M_pinAt_31 rfl (lv_at hl 1 rfl) ?_
    obtain ⟨hi_5, h⟩ := h
    refine va_iald hx hb hK hP 6 0 rfl rfl hi_5 d_M_pinAt_32 ?_
    refine lv_iadd hx hb d_M_pinAt_33 ?_
    refine lv_iload_n hx hb d_M_pinAt_34 rfl (lv_at hl 2 rfl) ?_
    refine lv_iadd hx hb d_M_pinAt_35 ?_
    refine lv_imul hx hb d_M_pinAt_36 ?_
    refine lv_iconst (v := 1) hx hb d_M_pinAt_37 (by decide) ?_
    refine lv_iadd hx hb d_M_pinAt_38 ?_
    obtain ⟨hi_6, h⟩ := h
    refine va_iald hx hb hK hP 11 0 rfl rfl hi_6 d_M_pinAt_39 ?_
    exact W.iret hx hb hr (fun t ht _ => ⟨_, rfl, h, ht⟩) (fun _ h9 => nomatch h9) d_M_pinAt_40
abbrev rm_M_joined : Room := { frames := 3, cells := 0, slots := 0, locals := 69 }
set_option maxHeartbeats 4000000 in
set_option maxRecDepth 100000 in
theorem c_M_joined (l : Launch) (L : cL) (a1 : Int32) (a2 : Int32) (a3 : Int32) (a4 : Int32) (I : MI) (F : MF) (G : MG) (sz : Nat) (post : Int32 → MI → MF → MG → Prop) (h : wp_M_joined a1 a2 a3 a4 I F G post) : Met l y_M_joined (.code y_M_joined b_M_joined 5 (some .boolean) :: lwG) rm_M_joined (mPm L I F G sz [.ref (cA L 0), .int a1, .int a2, .int a3, .int a4]) (mQi L (mAA L I F G sz) post (mAA L I F G sz)) 0 0 (mAA L I F G sz) := by
  refine Met.ofW (cc := b_M_joined) (maxL := 5) (ret := (some .boolean)) (by decide) rfl ?_
  intro p e s m args below meth c s₁ B hml hv
  obtain ⟨rfl, hsz, hP, hK, hD0, hN⟩ := hv
  have xc : xC p s m _ meth c b_M_joined 5 lwG qR5 (some .boolean) := ⟨B.exec, B.bytes, hml, findClass_of_methodNamed B.named, fun w h => atoms_spec (ws := (.code y_M_joined b_M_joined 5 (some .boolean) :: lwG)) B.pre w (List.mem_cons_of_mem _ h), B.returns, B.notSynchronized⟩
  obtain ⟨hx, hb, hml, hown, hts, hr, hlocks⟩ := id xc
  subst hsz
  have hD : va_D (mAA L I F G s.heap.size) (WM L I F G) := hD0.self
  have hA0 : ∀ q : Nat, s.heap.size ≤ q → mAA L I F G s.heap.size q := fun q h => Or.inr h
  generalize mAA L I F G s.heap.size = A at hD hA0 ⊢
  have hA := hA0
  have hw : MW L A s.heap I F G s.heap [] := ⟨hP, hD, va_S.rf⟩
  have hl := lv_entry ([.ref (cA L 0), .int a1, .int a2, .int a3, .int a4]) (n := 5) (Nat.le_of_ble_eq_true rfl)
  rw [lg_entry_eq]
  generalize (lg_sl ([.ref (cA L 0), .int a1, .int a2, .int a3, .int a4]) ++ List.replicate (5 - (lg_sl ([.ref (cA L 0), .int a1, .int a2, .int a3, .int a4])).length) Slot.unset).toArray = ls at hl ⊢
  have hl : lv_has ls 5 [(0, .ref (cA L 0)), (1, .int a1), (2, .int a2), (3, .int a3), (4, .int a4)] := hl
  refine lv_aload_n hx hb d_M_joined_0 rfl (lv_at hl 0 rfl) ?_
  refine lv_aload_n hx hb d_M_joined_1 rfl (lv_at hl 0 rfl) ?_
  refine va_get (D := L.1) (ci := 5) (v := .int (I 2)) (C := qR5) (T := qT5) (N := 16) hx hb hts qi5 hown hK hw.1 0 rfl rfl 2 (by decide) (hts _ wG734) (fun _ h9 => h9) rfl d_M_joined_2 ?_
  refine lv_iconst (v := (-1)) hx hb d_M_joined_5 (by decide) ?_
  refine lv_icmp_ne (tgt := 13) hx hb d_M_joined_6 (by decide) (fun c_1 => ?_) (fun c_1 => ?_)
  · replace h := h.1 c_1
    refine lv_aload_n hx hb d_M_joined_13 rfl (lv_at hl 0 rfl) ?_
    refine lv_iload_n hx hb d_M_joined_14 rfl (lv_at hl 1 rfl) ?_
    refine lv_iload_n hx hb d_M_joined_15 rfl (lv_at hl 2 rfl) ?_
    refine vp_callSi (va_runV (As := [.int a1, .int a2]) (rest := [.ref (cA L 0)]) ⟨hx, hb, hml, hown, hts⟩ (c_M_isPin l L a1 a2 I F G _ h) (cwV 2 hts (gV wG865 wG867 wG35 wG54 wG868) rfl rfl rfl (by decide +kernel) ⟨Nat.le_of_ble_eq_true rfl, Nat.le_of_ble_eq_true rfl⟩) (mPre hK hN hw.1) rfl rfl hl.1 rfl (lv_room (Nat.le_of_ble_eq_true rfl)) d_M_joined_16 ⟨Nat.le_of_ble_eq_true rfl, Nat.le_of_ble_eq_true rfl⟩).run (fun r_2 h => ?_)
    refine lv_if_eq (tgt := 32) hx hb d_M_joined_19 (by decide) (fun c_3 => ?_) (fun c_3 => ?_)
    · replace h := h.1 c_3
      refine lv_iconst (v := 2) hx hb d_M_joined_32 (by decide) ?_
      refine lv_goto (tgt := 37) hx hb d_M_joined_33 (by decide) ?_
      refine va_put (D := L.1) (ci := 5) (v := .int 2) (ty := .int) (C := qR5) (T := qT5) (N := 16) hx hb hts qi5 qy5 qk5 qn5 hown hK hw.1 hw.2.1 hw.2.2 0 rfl rfl 0 (by decide) (hts _ wG732) (fun _ h9 => h9) rfl (by decide +kernel) rfl rfl (Nat.le_of_ble_eq_true rfl) d_M_joined_37 (fun H locs h1 h2 h3 => ?_)
      replace hw : MW L A s.heap (setI I 0 2) F G H locs := ⟨h1, h2, h3⟩
      clear h1 h2 h3
      obtain ⟨I_4, eI_4⟩ : ∃ y : MI, y = setI I 0 2 := ⟨_, rfl⟩
      rw [← eI_4] at hw
      replace h := h I_4 eI_4
      refine lv_aload_n hx hb d_M_joined_40 rfl (lv_at hl 0 rfl) ?_
      refine va_get (D := L.1) (ci := 5) (v := .int (I_4 0)) (C := qR5) (T := qT5) (N := 16) hx hb hts qi5 hown hK hw.1 0 rfl rfl 0 (by decide) (hts _ wG732) (fun _ h9 => h9) rfl d_M_joined_41 ?_
      refine lv_if_le (tgt := 49) hx hb d_M_joined_44 (by decide) (fun c_5 => ?_) (fun c_5 => ?_)
      · replace h := h.1 c_5
        refine lv_aload_n hx hb d_M_joined_49 rfl (lv_at hl 0 rfl) ?_
        refine m_callv (va_runV (As := []) (rest := []) ⟨hx, hb, hml, hown, hts⟩ (c_M_find l L I_4 F G _ _ h) (cwV 0 hts (gV wG893 wG895 wG38 wG54 wG896) rfl rfl rfl (by decide +kernel) ⟨Nat.le_of_ble_eq_true rfl, Nat.le_of_ble_eq_true rfl⟩) (mPrm hK hN hw) rfl rfl hl.1 rfl (lv_room (Nat.le_of_ble_eq_true rfl)) d_M_joined_50 ⟨Nat.le_of_ble_eq_true rfl, Nat.le_of_ble_eq_true rfl⟩) hw hA (fun I_6 F_6 G_6 H locs h hw => ?_)
        refine lv_aload_n hx hb d_M_joined_53 rfl (lv_at hl 0 rfl) ?_
        refine lv_iload_n hx hb d_M_joined_54 rfl (lv_at hl 1 rfl) ?_
        refine lv_iload_n hx hb d_M_joined_55 rfl (lv_at hl 2 rfl) ?_
        refine vp_callSi (va_runV (As := [.int a1, .int a2]) (rest := []) ⟨hx, hb, hml, hown, hts⟩ (c_M_pinAt l L a1 a2 I_6 F_6 G_6 _ h) (cwV 2 hts (gV wG905 wG907 wG41 wG54 wG908) rfl rfl rfl (by decide +kernel) ⟨Nat.le_of_ble_eq_true rfl, Nat.le_of_ble_eq_true rfl⟩) (mPre hK hN hw.1) rfl rfl hl.1 rfl (lv_room (Nat.le_of_ble_eq_true rfl)) d_M_joined_56 ⟨Nat.le_of_ble_eq_true rfl, Nat.le_of_ble_eq_true rfl⟩).run (fun r_7 h => ?_)
        refine lv_aload_n hx hb d_M_joined_59 rfl (lv_at hl 0 rfl) ?_
        refine lv_iload_n hx hb d_M_joined_60 rfl (lv_at hl 3 rfl) ?_
        refine lv_iload hx hb d_M_joined_61 (lv_at hl 4 rfl) ?_
        refine vp_callSi (va_runV (As := [.int a3, .int a4]) (rest := [.int r_7]) ⟨hx, hb, hml, hown, hts⟩ (c_M_pinAt l L a3 a4 I_6 F_6 G_6 _ h) (cwV 2 hts (gV wG905 wG907 wG41 wG54 wG908) rfl rfl rfl (by decide +kernel) ⟨Nat.le_of_ble_eq_true rfl, Nat.le_of_ble_eq_true rfl⟩) (mPre hK hN hw.1) rfl rfl hl.1 rfl (lv_room (Nat.le_of_ble_eq_true rfl)) d_M_joined_63 ⟨Nat.le_of_ble_eq_true rfl, Nat.le_of_ble_eq_true rfl⟩).run (fun r_8 h => ?_)
        refine lv_icmp_ne (tgt := 73) hx hb d_M_joined_66 (by decide) (fun c_9 => ?_) (fun c_9 => ?_)
        · replace h := h.1 c_9
          refine lv_iconst (v := 0) hx hb d_M_joined_73 (by decide) ?_
          exact W.zret hx hb hr rfl (fun t ht hW => ⟨⟨_, (I_6, F_6, G_6), rfl, h, by rw [ht]; exact hw.1, va_K.moved hW.alike hK, hw.2.1⟩, hw.2.2.F ht⟩) hw.2.2.2.2 d_M_joined_74
        · replace h := h.2 c_9
          refine lv_iconst (v := 1) hx hb d_M_joined_69 (by decide) ?_
          refine lv_goto (tgt := 74) hx hb d_M_joined_70 (by decide) ?_
          exact W.zret hx hb hr rfl (fun t ht hW => ⟨⟨_, (I_6, F_6, G_6), rfl, h, by rw [ht]; exact hw.1, va_K.moved hW.alike hK, hw.2.1⟩, hw.2.2.F ht⟩) hw.2.2.2.2 d_M_joined_74
      · replace h := h.2 c_5
        refine lv_iconst (v := 0) hx hb d_M_joined_47 (by decide) ?_
        exact W.zret hx hb hr rfl (fun t ht hW => ⟨⟨_, (I_4, F, G), rfl, h, by rw [ht]; exact hw.1, va_K.moved hW.alike hK, hw.2.1⟩, hw.2.2.F ht⟩) hw.2.2.2.2 d_M_joined_48
    · replace h := h.2 c_3
      refine lv_aload_n hx hb d_M_joined_22 rfl (lv_at hl 0 rfl) ?_
      refine lv_iload_n hx hb d_M_joined_23 rfl (lv_at hl 3 rfl) ?_
      refine lv_iload hx hb d_M_joined_24 (lv_at hl 4 rfl) ?_
      refine vp_callSi (va_runV (As := [.int a3, .int a4]) (rest := [.ref (cA L 0)]) ⟨hx, hb, hml, hown, hts⟩ (c_M_isPin l L a3 a4 I F G _ h) (cwV 2 hts (gV wG865 wG867 wG35 wG54 wG868) rfl rfl rfl (by decide +kernel) ⟨Nat.le_of_ble_eq_true rfl, Nat.le_of_ble_eq_true rfl⟩) (mPre hK hN hw.1) rfl rfl hl.1 rfl (lv_room (Nat.le_of_ble_eq_true rfl)) d_M_joined_26 ⟨Nat.le_of_ble_eq_true rfl, Nat.le_of_ble_eq_true rfl⟩).run (fun r_10 h => ?_)
      refine lv_if_ne (tgt := 36) hx hb d_M_joined_29 (by decide) (fun c_11 => ?_) (fun c_11 => ?_)
      · replace h := h.1 c_11
        refine lv_iconst (v := 0) hx hb d_M_joined_36 (by decide) ?_
        refine va_put (D := L.1) (ci := 5) (v := .int 0) (ty := .int) (C := qR5) (T := qT5) (N := 16) hx hb hts qi5 qy5 qk5 qn5 hown hK hw.1 hw.2.1 hw.2.2 0 rfl rfl 0 (by decide) (hts _ wG732) (fun _ h9 => h9) rfl (by decide +kernel) rfl rfl (Nat.le_of_ble_eq_true rfl) d_M_joined_37 (fun H locs h1 h2 h3 => ?_)
        replace hw : MW L A s.heap (setI I 0 0) F G H locs := ⟨h1, h2, h3⟩
        clear h1 h2 h3
        obtain ⟨I_12, eI_12⟩ : ∃ y : MI, y = setI I 0 0 := ⟨_, rfl⟩
        rw [← eI_12] at hw
        replace h := h I_12 eI_12
        refine lv_aload_n hx hb d_M_joined_40 rfl (lv_at hl 0 rfl) ?_
        refine va_get (D := L.1) (ci := 5) (v := .int (I_12 0)) (C := qR5) (T := qT5) (N := 16) hx hb hts qi5 hown hK hw.1 0 rfl rfl 0 (by decide) (hts _ wG732) (fun _ h9 => h9) rfl d_M_joined_41 ?_
        refine lv_if_le (tgt := 49) hx hb d_M_joined_44 (by decide) (fun c_13 => ?_) (fun c_13 => ?_)
        · replace h := h.1 c_13
          refine lv_aload_n hx hb d_M_joined_49 rfl (lv_at hl 0 rfl) ?_
          refine m_callv (va_runV (As := []) (rest := []) ⟨hx, hb, hml, hown, hts⟩ (c_M_find l L I_12 F G _ _ h) (cwV 0 hts (gV wG893 wG895 wG38 wG54 wG896) rfl rfl rfl (by decide +kernel) ⟨Nat.le_of_ble_eq_true rfl, Nat.le_of_ble_eq_true rfl⟩) (mPrm hK hN hw) rfl rfl hl.1 rfl (lv_room (Nat.le_of_ble_eq_true rfl)) d_M_joined_50 ⟨Nat.le_of_ble_eq_true rfl, Nat.le_of_ble_eq_true rfl⟩) hw hA (fun I_14 F_14 G_14 H locs h hw => ?_)
          refine lv_aload_n hx hb d_M_joined_53 rfl (lv_at hl 0 rfl) ?_
          refine lv_iload_n hx hb d_M_joined_54 rfl (lv_at hl 1 rfl) ?_
          refine lv_iload_n hx hb d_M_joined_55 rfl (lv_at hl 2 rfl) ?_
          refine vp_callSi (va_runV (As := [.int a1, .int a2]) (rest := []) ⟨hx, hb, hml, hown, hts⟩ (c_M_pinAt l L a1 a2 I_14 F_14 G_14 _ h) (cwV 2 hts (gV wG905 wG907 wG41 wG54 wG908) rfl rfl rfl (by decide +kernel) ⟨Nat.le_of_ble_eq_true rfl, Nat.le_of_ble_eq_true rfl⟩) (mPre hK hN hw.1) rfl rfl hl.1 rfl (lv_room (Nat.le_of_ble_eq_true rfl)) d_M_joined_56 ⟨Nat.le_of_ble_eq_true rfl, Nat.le_of_ble_eq_true rfl⟩).run (fun r_15 h => ?_)
          refine lv_aload_n hx hb d_M_joined_59 rfl (lv_at hl 0 rfl) ?_
          refine lv_iload_n hx hb d_M_joined_60 rfl (lv_at hl 3 rfl) ?_
          refine lv_iload hx hb d_M_joined_61 (lv_at hl 4 rfl) ?_
          refine vp_callSi (va_runV (As := [.int a3, .int a4]) (rest := [.int r_15]) ⟨hx, hb, hml, hown, hts⟩ (c_M_pinAt l L a3 a4 I_14 F_14 G_14 _ h) (cwV 2 hts (gV wG905 wG907 wG41 wG54 wG908) rfl rfl rfl (by decide +kernel) ⟨Nat.le_of_ble_eq_true rfl, Nat.le_of_ble_eq_true rfl⟩) (mPre hK hN hw.1) rfl rfl hl.1 rfl (lv_room (Nat.le_of_ble_eq_true rfl)) d_M_joined_63 ⟨Nat.le_of_ble_eq_true rfl, Nat.le_of_ble_eq_true rfl⟩).run (fun r_16 h => ?_)
          refine lv_icmp_ne (tgt := 73) hx hb d_M_joined_66 (by decide) (fun c_17 => ?_) (fun c_17 => ?_)
          · replace h := h.1 c_17
            refine lv_iconst (v := 0) hx hb d_M_joined_73 (by decide) ?_
            exact W.zret hx hb hr rfl (fun t ht hW => ⟨⟨_, (I_14, F_14, G_14), rfl, h, by rw [ht]; exact hw.1, va_K.moved hW.alike hK, hw.2.1⟩, hw.2.2.F ht⟩) hw.2.2.2.2 d_M_joined_74
          · replace h := h.2 c_17
            refine lv_iconst (v := 1) hx hb d_M_joined_69 (by decide) ?_
            refine lv_goto (tgt := 74) hx hb d_M_joined_70 (by decide) ?_
            exact W.zret hx hb hr rfl (fun t ht hW => ⟨⟨_, (I_14, F_14, G_14), rfl, h, by rw [ht]; exact hw.1, va_K.moved hW.alike hK, hw.2.1⟩, hw.2.2.F ht⟩) hw.2.2.2.2 d_M_joined_74
        · replace h := h.2 c_13
          refine lv_iconst (v := 0) hx hb d_M_joined_47 (by decide) ?_
          exact W.zret hx hb hr rfl (fun t ht hW => ⟨⟨_, (I_12, F, G), rfl, h, by rw [ht]; exact hw.1, va_K.moved hW.alike hK, hw.2.1⟩, hw.2.2.F ht⟩) hw.2.2.2.2 d_M_joined_48
      · replace h := h.2 c_11
        refine lv_iconst (v := 2) hx hb d_M_joined_32 (by decide) ?_
        refine lv_goto (tgt := 37) hx hb d_M_joined_33 (by decide) ?_
        refine va_put (D := L.1) (ci := 5) (v := .int 2) (ty := .int) (C := qR5) (T := qT5) (N := 16) hx hb hts qi5 qy5 qk5 qn5 hown hK hw.1 hw.2.1 hw.2.2 0 rfl rfl 0 (by decide) (hts _ wG732) (fun _ h9 => h9) rfl (by decide +kernel) rfl rfl (Nat.le_of_ble_eq_true rfl) d_M_joined_37 (fun H locs h1 h2 h3 => ?_)
        replace hw : MW L A s.heap (setI I 0 2) F G H locs := ⟨h1, h2, h3⟩
        clear h1 h2 h3
        obtain ⟨I_18, eI_18⟩ : ∃ y : MI, y = setI I 0 2 := ⟨_, rfl⟩
        rw [← eI_18] at hw
        replace h := h I_18 eI_18
        refine lv_aload_n hx hb d_M_joined_40 rfl (lv_at hl 0 rfl) ?_
        refine va_get (D := L.1) (ci := 5) (v := .int (I_18 0)) (C := qR5) (T := qT5) (N := 16) hx hb hts qi5 hown hK hw.1 0 rfl rfl 0 (by decide) (hts _ wG732) (fun _ h9 => h9) rfl d_M_joined_41 ?_
        refine lv_if_le (tgt := 49) hx hb d_M_joined_44 (by decide) (fun c_19 => ?_) (fun c_19 => ?_)
        · replace h := h.1 c_19
          refine lv_aload_n hx hb d_M_joined_49 rfl (lv_at hl 0 rfl) ?_
          refine m_callv (va_runV (As := []) (rest := []) ⟨hx, hb, hml, hown, hts⟩ (c_M_find l L I_18 F G _ _ h) (cwV 0 hts (gV wG893 wG895 wG38 wG54 wG896) rfl rfl rfl (by decide +kernel) ⟨Nat.le_of_ble_eq_true rfl, Nat.le_of_ble_eq_true rfl⟩) (mPrm hK hN hw) rfl rfl hl.1 rfl (lv_room (Nat.le_of_ble_eq_true rfl)) d_M_joined_50 ⟨Nat.le_of_ble_eq_true rfl, Nat.le_of_ble_eq_true rfl⟩) hw hA (fun I_20 F_20 G_20 H locs h hw => ?_)
          refine lv_aload_n hx hb d_M_joined_53 rfl (lv_at hl 0 rfl) ?_
          refine lv_iload_n hx hb d_M_joined_54 rfl (lv_at hl 1 rfl) ?_
          refine lv_iload_n hx hb d_M_joined_55 rfl (lv_at hl 2 rfl) ?_
          refine vp_callSi (va_runV (As := [.int a1, .int a2]) (rest := []) ⟨hx, hb, hml, hown, hts⟩ (c_M_pinAt l L a1 a2 I_20 F_20 G_20 _ h) (cwV 2 hts (gV wG905 wG907 wG41 wG54 wG908) rfl rfl rfl (by decide +kernel) ⟨Nat.le_of_ble_eq_true rfl, Nat.le_of_ble_eq_true rfl⟩) (mPre hK hN hw.1) rfl rfl hl.1 rfl (lv_room (Nat.le_of_ble_eq_true rfl)) d_M_joined_56 ⟨Nat.le_of_ble_eq_true rfl, Nat.le_of_ble_eq_true rfl⟩).run (fun r_21 h => ?_)
          refine lv_aload_n hx hb d_M_joined_59 rfl (lv_at hl 0 rfl) ?_
          refine lv_iload_n hx hb d_M_joined_60 rfl (lv_at hl 3 rfl) ?_
          refine lv_iload hx hb d_M_joined_61 (lv_at hl 4 rfl) ?_
          refine vp_callSi (va_runV (As := [.int a3, .int a4]) (rest := [.int r_21]) ⟨hx, hb, hml, hown, hts⟩ (c_M_pinAt l L a3 a4 I_20 F_20 G_20 _ h) (cwV 2 hts (gV wG905 wG907 wG41 wG54 wG908) rfl rfl rfl (by decide +kernel) ⟨Nat.le_of_ble_eq_true rfl, Nat.le_of_ble_eq_true rfl⟩) (mPre hK hN hw.1) rfl rfl hl.1 rfl (lv_room (Nat.le_of_ble_eq_true rfl)) d_M_joined_63 ⟨Nat.le_of_ble_eq_true rfl, Nat.le_of_ble_eq_true rfl⟩).run (fun r_22 h => ?_)
          refine lv_icmp_ne (tgt := 73) hx hb d_M_joined_66 (by decide) (fun c_23 => ?_) (fun c_23 => ?_)
          · replace h := h.1 c_23
            refine lv_iconst (v := 0) hx hb d_M_joined_73 (by decide) ?_
            exact W.zret hx hb hr rfl (fun t ht hW => ⟨⟨_, (I_20, F_20, G_20), rfl, h, by rw [ht]; exact hw.1, va_K.moved hW.alike hK, hw.2.1⟩, hw.2.2.F ht⟩) hw.2.2.2.2 d_M_joined_74
          · replace h := h.2 c_23
            refine lv_iconst (v := 1) hx hb d_M_joined_69 (by decide) ?_
            refine lv_goto (tgt := 74) hx hb d_M_joined_70 (by decide) ?_
            exact W.zret hx hb hr rfl (fun t ht hW => ⟨⟨_, (I_20, F_20, G_20), rfl, h, by rw [ht]; exact hw.1, va_K.moved hW.alike hK, hw.2.1⟩, hw.2.2.F ht⟩) hw.2.2.2.2 d_M_joined_74
        · replace h := h.2 c_19
          refine lv_iconst (v := 0) hx hb d_M_joined_47 (by decide) ?_
          exact W.zret hx hb hr rfl (fun t ht hW => ⟨⟨_, (I_18, F, G), rfl, h, by rw [ht]; exact hw.1, va_K.moved hW.alike hK, hw.2.1⟩, hw.2.2.F ht⟩) hw.2.2.2.2 d_M_joined_48
  · replace h := h.2 c_1
    refine lv_iconst (v := 1) hx hb d_M_joined_9 (by decide) ?_
    refine lv_goto (tgt := 37) hx hb d_M_joined_10 (by decide) ?_
    refine va_put (D := L.1) (ci := 5) (v := .int 1) (ty := .int) (C := qR5) (T := qT5) (N := 16) hx hb hts qi5 qy5 qk5 qn5 hown hK hw.1 hw.2.1 hw.2.2 0 rfl rfl 0 (by decide) (hts _ wG732) (fun _ h9 => h9) rfl (by decide +kernel) rfl rfl (Nat.le_of_ble_eq_true rfl) d_M_joined_37 (fun H locs h1 h2 h3 => ?_)
    replace hw : MW L A s.heap (setI I 0 1) F G H locs := ⟨h1, h2, h3⟩
    clear h1 h2 h3
    obtain ⟨I_24, eI_24⟩ : ∃ y : MI, y = setI I 0 1 := ⟨_, rfl⟩
    rw [← eI_24] at hw
    replace h := h I_24 eI_24
    refine lv_aload_n hx hb d_M_joined_40 rfl (lv_at hl 0 rfl) ?_
    refine va_get (D := L.1) (ci := 5) (v := .int (I_24 0)) (C := qR5) (T := qT5) (N := 16) hx hb hts qi5 hown hK hw.1 0 rfl rfl 0 (by decide) (hts _ wG732) (fun _ h9 => h9) rfl d_M_joined_41 ?_
    refine lv_if_le (tgt := 49) hx hb d_M_joined_44 (by decide) (fun c_25 => ?_) (fun c_25 => ?_)
    · replace h := h.1 c_25
      refine lv_aload_n hx hb d_M_joined_49 rfl (lv_at hl 0 rfl) ?_
      refine m_callv (va_runV (As := []) (rest := []) ⟨hx, hb, hml, hown, hts⟩ (c_M_find l L I_24 F G _ _ h) (cwV 0 hts (gV wG893 wG895 wG38 wG54 wG896) rfl rfl rfl (by decide +kernel) ⟨Nat.le_of_ble_eq_true rfl, Nat.le_of_ble_eq_true rfl⟩) (mPrm hK hN hw) rfl rfl hl.1 rfl (lv_room (Nat.le_of_ble_eq_true rfl)) d_M_joined_50 ⟨Nat.le_of_ble_eq_true rfl, Nat.le_of_ble_eq_true rfl⟩) hw hA (fun I_26 F_26 G_26 H locs h hw => ?_)
      refine lv_aload_n hx hb d_M_joined_53 rfl (lv_at hl 0 rfl) ?_
      refine lv_iload_n hx hb d_M_joined_54 rfl (lv_at hl 1 rfl) ?_
      refine lv_iload_n hx hb d_M_joined_55 rfl (lv_at hl 2 rfl) ?_
      refine vp_callSi (va_runV (As := [.int a1, .int a2]) (rest := []) ⟨hx, hb, hml, hown, hts⟩ (c_M_pinAt l L a1 a2 I_26 F_26 G_26 _ h) (cwV 2 hts (gV wG905 wG907 wG41 wG54 wG908) rfl rfl rfl (by decide +kernel) ⟨Nat.le_of_ble_eq_true rfl, Nat.le_of_ble_eq_true rfl⟩) (mPre hK hN hw.1) rfl rfl hl.1 rfl (lv_room (Nat.le_of_ble_eq_true rfl)) d_M_joined_56 ⟨Nat.le_of_ble_eq_true rfl, Nat.le_of_ble_eq_true rfl⟩).run (fun r_27 h => ?_)
      refine lv_aload_n hx hb d_M_joined_59 rfl (lv_at hl 0 rfl) ?_
      refine lv_iload_n hx hb d_M_joined_60 rfl (lv_at hl 3 rfl) ?_
      refine lv_iload hx hb d_M_joined_61 (lv_at hl 4 rfl) ?_
      refine vp_callSi (va_runV (As := [.int a3, .int a4]) (rest := [.int r_27]) ⟨hx, hb, hml, hown, hts⟩ (c_M_pinAt l L a3 a4 I_26 F_26 G_26 _ h) (cwV 2 hts (gV wG905 wG907 wG41 wG54 wG908) rfl rfl rfl (by decide +kernel) ⟨Nat.le_of_ble_eq_true rfl, Nat.le_of_ble_eq_true rfl⟩) (mPre hK hN hw.1) rfl rfl hl.1 rfl (lv_room (Nat.le_of_ble_eq_true rfl)) d_M_joined_63 ⟨Nat.le_of_ble_eq_true rfl, Nat.le_of_ble_eq_true rfl⟩).run (fun r_28 h => ?_)
      refine lv_icmp_ne (tgt := 73) hx hb d_M_joined_66 (by decide) (fun c_29 => ?_) (fun c_29 => ?_)
      · replace h := h.1 c_29
        refine lv_iconst (v := 0) hx hb d_M_joined_73 (by decide) ?_
        exact W.zret hx hb hr rfl (fun t ht hW => ⟨⟨_, (I_26, F_26, G_26), rfl, h, by rw [ht]; exact hw.1, va_K.moved hW.alike hK, hw.2.1⟩, hw.2.2.F ht⟩) hw.2.2.2.2 d_M_joined_74
      · replace h := h.2 c_29
        refine lv_iconst (v := 1) hx hb d_M_joined_69 (by decide) ?_
        refine lv_goto (tgt := 74) hx hb d_M_joined_70 (by decide) ?_
        exact W.zret hx hb hr rfl (fun t ht hW => ⟨⟨_, (I_26, F_26, G_26), rfl, h, by rw [ht]; exact hw.1, va_K.moved hW.alike hK, hw.2.1⟩, hw.2.2.F ht⟩) hw.2.2.2.2 d_M_joined_74
    · replace h := h.2 c_25
      refine lv_iconst (v := 0) hx hb d_M_joined_47 (by decide) ?_
      exact W.zret hx hb hr rfl (fun t ht hW => ⟨⟨_, (I_24, F, G), rfl, h, by rw [ht]; exact hw.1, va_K.moved hW.alike hK, hw.2.1⟩, hw.2.2.F ht⟩) hw.2.2.2.2 d_M_joined_48
