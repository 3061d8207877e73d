abbrev rm_D_groupOfPin : Room := { frames := 2, cells := 0, slots := 0, locals := 46 }
set_option maxHeartbeats 4000000 in
set_option maxRecDepth 100000 in
theorem c_D_groupOfPin (l : Launch) (L : cL) (a1 : Int32) (a2 : Int32) (I : MI) (F : MF) (G : MG) (sz : Nat) (post : Int32 → MI → MF → MG → Prop) (h : wp_D_groupOfPin a1 a2 I F G post) : Met l y_D_groupOfPin (.code y_D_groupOfPin b_D_groupOfPin 3 (some .int) :: lwG) rm_D_groupOfPin (cPm L I F G sz [.ref (cA L 3), .int a1, .int a2]) (cQi L (cAA L I F G sz) post (cAA L I F G sz)) 0 0 (cAA L I F G sz) := by
  refine Met.ofW (cc := b_D_groupOfPin) (maxL := 3) (ret := (some .int)) (by decide) rfl ?_
  intro p e s m args below meth c s₁ B hml hv
  obtain ⟨rfl, hsz, hP, hK, hD0, hN⟩ := hv
  have xc : xC p s m _ meth c b_D_groupOfPin 3 lwG qR3 (some .int) := ⟨B.exec, B.bytes, hml, findClass_of_methodNamed B.named, fun w h => atoms_spec (ws := (.code y_D_groupOfPin b_D_groupOfPin 3 (some .int) :: lwG)) B.pre w (List.mem_cons_of_mem _ h), B.returns, B.notSynchronized⟩
  obtain ⟨hx, hb, hml, hown, hts, hr, hlocks⟩ := id xc
  subst hsz
  have hD : va_D (cAA L I F G s.heap.size) (WC L I F G) := hD0.self
  have hA0 : ∀ q : Nat, s.heap.size ≤ q → cAA L I F G s.heap.size q := fun q h => Or.inr h
  generalize cAA L I F G s.heap.size = A at hD hA0 ⊢
  have hA := hA0
  have hw : CW L A s.heap I F G s.heap [] := ⟨hP, hD, va_S.rf⟩
  have hl := lv_entry ([.ref (cA L 3), .int a1, .int a2]) (n := 3) (Nat.le_of_ble_eq_true rfl)
  rw [lg_entry_eq]
  generalize (lg_sl ([.ref (cA L 3), .int a1, .int a2]) ++ List.replicate (3 - (lg_sl ([.ref (cA L 3), .int a1, .int a2])).length) Slot.unset).toArray = ls at hl ⊢
  have hl : lv_has ls 3 [(0, .ref (cA L 3)), (1, .int a1), (2, .int a2)] := hl
  refine lv_aload_n hx hb d_D_groupOfPin_0 rfl (lv_at hl 0 rfl) ?_
  refine lv_aload_n hx hb d_D_groupOfPin_1 rfl (lv_at hl 0 rfl) ?_
  refine va_get (D := L.1) (ci := 3) (v := .ref (cA L 1)) (C := qR3) (T := qT3) (N := 7) hx hb hts qi3 hown hK hw.1 3 rfl rfl 0 (by decide) (hts _ wG166) (fun _ h9 => h9) rfl d_D_groupOfPin_2 ?_
  refine va_get (D := L.1) (ci := 1) (v := .ref (cA L 14)) (C := qR1) (T := qT1) (N := 13) hx hb hts qi1 hown hK hw.1 1 rfl rfl 5 (by decide) (hts _ wG100) (fun _ h9 => h9) rfl d_D_groupOfPin_5 ?_
  refine lv_iload_n hx hb d_D_groupOfPin_8 rfl (lv_at hl 1 rfl) ?_
  obtain ⟨hi_1, h⟩ := h
  refine c_iald hx hb hK hw.1 4 (by decide) rfl hi_1 d_D_groupOfPin_9 ?_
  refine lv_aload_n hx hb d_D_groupOfPin_10 rfl (lv_at hl 0 rfl) ?_
  refine va_get (D := L.1) (ci := 3) (v := .ref (cA L 1)) (C := qR3) (T := qT3) (N := 7) hx hb hts qi3 hown hK hw.1 3 rfl rfl 0 (by decide) (hts _ wG166) (fun _ h9 => h9) rfl d_D_groupOfPin_11 ?_
  refine lv_iload_n hx hb d_D_groupOfPin_14 rfl (lv_at hl 1 rfl) ?_
  refine lv_iload_n hx hb d_D_groupOfPin_15 rfl (lv_at hl 2 rfl) ?_
  refine vp_callSi (va_runV (As := [.int a1, .int a2]) (rest := [.int (F 4 a1.toNatClampNeg), .ref (cA L 3)]) ⟨hx, hb, hml, hown, hts⟩ (c_N_pinColumn l L a1 a2 I F G _ h) (cwV 2 hts (gV wG572 wG486 wG487 wG49 wG488) rfl rfl rfl (by decide +kernel) ⟨Nat.le_of_ble_eq_true rfl, Nat.le_of_ble_eq_true rfl⟩) (cPre1 hK hN hw.1) rfl rfl hl.1 rfl (lv_room (Nat.le_of_ble_eq_true rfl)) d_D_groupOfPin_16 ⟨Nat.le_of_ble_eq_true rfl, Nat.le_of_ble_eq_true rfl⟩).run (fun r_2 h => ?_)
  refine c_calli (va_runV (As := [.int (F 4 a1.toNatClampNeg), .int r_2]) (rest := []) ⟨hx, hb, hml, hown, hts⟩ (c_D_groupOfRow l L (F 4 a1.toNatClampNeg) r_2 I F G _ _ h) (cwV 2 hts (gV wG573 wG575 wG13 wG52 wG576) rfl rfl rfl (by decide +kernel) ⟨Nat.le_of_ble_eq_true rfl, Nat.le_of_ble_eq_true rfl⟩) (cPrm3 hK hN hw) rfl rfl hl.1 rfl (lv_room (Nat.le_of_ble_eq_true rfl)) d_D_groupOfPin_19 ⟨Nat.le_of_ble_eq_true rfl, Nat.le_of_ble_eq_true rfl⟩) hw hA (fun r_3 I_4 F_4 G_4 H locs h hw => ?_)
  exact W.iret hx hb hr (fun t ht hW => ⟨⟨_, (I_4, F_4, G_4), rfl, h, by rw [ht]; exact hw.1, va_K.moved hW.alike hK, hw.2.1⟩, hw.2.2.F ht⟩) hw.2.2.2.2 d_D_groupOfPin_22
abbrev rm_D_addEnd : Room := { frames := 0, cells := 0, slots := 0, locals := 0 }
set_option maxHeartbeats 4000000 in
set_option maxRecDepth 100000 in
theorem c_D_addEnd (l : Launch) (L : cL) (a1 : Int32) (a2 : Int32) (I : MI) (F : MF) (G : MG) (sz : Nat) (post : MI → MF → MG → Prop) (h : wp_D_addEnd a1 a2 I F G post) : Met l y_D_addEnd (.code y_D_addEnd b_D_addEnd 3 (none) :: lwG) rm_D_addEnd (cPm L I F G sz [.ref (cA L 3), .int a1, .int a2]) (cQv L (cAA L I F G sz) post (cAA L I F G sz)) 0 0 (cAA L I F G sz) := by
  refine Met.ofW (cc := b_D_addEnd) (maxL := 3) (ret := (none)) (by decide) rfl ?_
  intro p e s m args below meth c s₁ B hml hv
  obtain ⟨rfl, hsz, hP, hK, hD0, hN⟩ := hv
  have xc : xC p s m _ meth c b_D_addEnd 3 lwG qR3 (none) := ⟨B.exec, B.bytes, hml, findClass_of_methodNamed B.named, fun w h => atoms_spec (ws := (.code y_D_addEnd b_D_addEnd 3 (none) :: lwG)) B.pre w (List.mem_cons_of_mem _ h), B.returns, B.notSynchronized⟩
  obtain ⟨hx, hb, hml, hown, hts, hr, hlocks⟩ := id xc
  subst hsz
  have hD : va_D (cAA L I F G s.heap.size) (WC L I F G) := hD0.self
  have hA0 : ∀ q : Nat, s.heap.size ≤ q → cAA L I F G s.heap.size q := fun q h => Or.inr h
  generalize cAA L I F G s.heap.size = A at hD hA0 ⊢
  have hA := hA0
  have hw : CW L A s.heap I F G s.heap [] := ⟨hP, hD, va_S.rf⟩
  have hl := lv_entry ([.ref (cA L 3), .int a1, .int a2]) (n := 3) (Nat.le_of_ble_eq_true rfl)
  rw [lg_entry_eq]
  generalize (lg_sl ([.ref (cA L 3), .int a1, .int a2]) ++ List.replicate (3 - (lg_sl ([.ref (cA L 3), .int a1, .int a2])).length) Slot.unset).toArray = ls at hl ⊢
  have hl : lv_has ls 3 [(0, .ref (cA L 3)), (1, .int a1), (2, .int a2)] := hl
  refine lv_aload_n hx hb d_D_addEnd_0 rfl (lv_at hl 0 rfl) ?_
  refine va_get (D := L.1) (ci := 3) (v := .int (I 3)) (C := qR3) (T := qT3) (N := 7) hx hb hts qi3 hown hK hw.1 3 rfl rfl 6 (by decide) (hts _ wG173) (fun _ h9 => h9) rfl d_D_addEnd_1 ?_
  refine lv_bipush (v := 60) hx hb d_D_addEnd_4 (by decide) ?_
  refine lv_icmp_ge (tgt := 39) hx hb d_D_addEnd_6 (by decide) (fun c_1 => ?_) (fun c_1 => ?_)
  · replace h := h.1 c_1
    exact W.vret hx hb hr (fun t ht hW => ⟨⟨(I, F, G), rfl, h, by rw [ht]; exact hw.1, va_K.moved hW.alike hK, hw.2.1⟩, hw.2.2.F ht⟩) hw.2.2.2.2 d_D_addEnd_39
  · replace h := h.2 c_1
    refine lv_aload_n hx hb d_D_addEnd_9 rfl (lv_at hl 0 rfl) ?_
    refine va_get (D := L.1) (ci := 3) (v := .ref (cA L 22)) (C := qR3) (T := qT3) (N := 7) hx hb hts qi3 hown hK hw.1 3 rfl rfl 4 (by decide) (hts _ wG171) (fun _ h9 => h9) rfl d_D_addEnd_10 ?_
    refine lv_aload_n hx hb d_D_addEnd_13 rfl (lv_at hl 0 rfl) ?_
    refine va_get (D := L.1) (ci := 3) (v := .int (I 3)) (C := qR3) (T := qT3) (N := 7) hx hb hts qi3 hown hK hw.1 3 rfl rfl 6 (by decide) (hts _ wG173) (fun _ h9 => h9) rfl d_D_addEnd_14 ?_
    refine lv_iload_n hx hb d_D_addEnd_17 rfl (lv_at hl 1 rfl) ?_
    obtain ⟨hi_2, h⟩ := h
    refine c_iast hx hb hK hw 12 (by decide) rfl hi_2 d_D_addEnd_18 (fun H locs hw => ?_)
    obtain ⟨F_3, eF_3⟩ : ∃ y : MF, y = setF F 12 (upd (F 12) (I 3).toNatClampNeg a1) := ⟨_, rfl⟩
    rw [← eF_3] at hw
    replace h := h F_3 eF_3
    refine lv_aload_n hx hb d_D_addEnd_19 rfl (lv_at hl 0 rfl) ?_
    refine va_get (D := L.1) (ci := 3) (v := .ref (cA L 23)) (C := qR3) (T := qT3) (N := 7) hx hb hts qi3 hown hK hw.1 3 rfl rfl 5 (by decide) (hts _ wG172) (fun _ h9 => h9) rfl d_D_addEnd_20 ?_
    refine lv_aload_n hx hb d_D_addEnd_23 rfl (lv_at hl 0 rfl) ?_
    refine va_get (D := L.1) (ci := 3) (v := .int (I 3)) (C := qR3) (T := qT3) (N := 7) hx hb hts qi3 hown hK hw.1 3 rfl rfl 6 (by decide) (hts _ wG173) (fun _ h9 => h9) rfl d_D_addEnd_24 ?_
    refine lv_iload_n hx hb d_D_addEnd_27 rfl (lv_at hl 2 rfl) ?_
    obtain ⟨hi_4, h⟩ := h
    refine c_iast hx hb hK hw 13 (by decide) rfl hi_4 d_D_addEnd_28 (fun H locs hw => ?_)
    obtain ⟨F_5, eF_5⟩ : ∃ y : MF, y = setF F_3 13 (upd (F_3 13) (I 3).toNatClampNeg a2) := ⟨_, rfl⟩
    rw [← eF_5] at hw
    replace h := h F_5 eF_5
    refine lv_aload_n hx hb d_D_addEnd_29 rfl (lv_at hl 0 rfl) ?_
    refine lv_dup hx hb d_D_addEnd_30 rfl ?_
    refine va_get (D := L.1) (ci := 3) (v := .int (I 3)) (C := qR3) (T := qT3) (N := 7) hx hb hts qi3 hown hK hw.1 3 rfl rfl 6 (by decide) (hts _ wG173) (fun _ h9 => h9) rfl d_D_addEnd_31 ?_
    refine lv_iconst (v := 1) hx hb d_D_addEnd_34 (by decide) ?_
    refine lv_iadd hx hb d_D_addEnd_35 ?_
    refine va_put (D := L.1) (ci := 3) (v := .int ((I 3) + 1)) (ty := .int) (C := qR3) (T := qT3) (N := 7) hx hb hts qi3 qy3 qk3 qn3 hown hK hw.1 hw.2.1 hw.2.2 3 rfl rfl 6 (by decide) (hts _ wG173) (fun _ h9 => h9) rfl (by decide +kernel) rfl rfl (Nat.le_of_ble_eq_true rfl) d_D_addEnd_36 (fun H locs h1 h2 h3 => ?_)
    replace hw : CW L A s.heap (setI I 3 ((I 3) + 1)) F_5 G H locs := ⟨h1, h2, h3⟩
    clear h1 h2 h3
    obtain ⟨I_6, eI_6⟩ : ∃ y : MI, y = setI I 3 ((I 3) + 1) := ⟨_, rfl⟩
    rw [← eI_6] at hw
    replace h := h I_6 eI_6
    exact W.vret hx hb hr (fun t ht hW => ⟨⟨(I_6, F_5, G), rfl, h, by rw [ht]; exact hw.1, va_K.moved hW.alike hK, hw.2.1⟩, hw.2.2.F ht⟩) hw.2.2.2.2 d_D_addEnd_39
abbrev rm_D_addPinEnd : Room := { frames := 3, cells := 0, slots := 0, locals := 63 }
set_option maxHeartbeats 4000000 in
set_option maxRecDepth 100000 in
theorem c_D_addPinEnd (l : Launch) (L : cL) (a1 : Int32) (a2 : Int32) (I : MI) (F : MF) (G : MG) (sz : Nat) (post : MI → MF → MG → Prop) (h : wp_D_addPinEnd a1 a2 I F G post) : Met l y_D_addPinEnd (.code y_D_addPinEnd b_D_addPinEnd 4 (none) :: lwG) rm_D_addPinEnd (cPm L I F G sz [.ref (cA L 3), .int a1, .int a2]) (cQv L (cAA L I F G sz) post (cAA L I F G sz)) 0 0 (cAA L I F G sz) := by
  refine Met.ofW (cc := b_D_addPinEnd) (maxL := 4) (ret := (none)) (by decide) rfl ?_
  intro p e s m args below meth c s₁ B hml hv
  obtain ⟨rfl, hsz, hP, hK, hD0, hN⟩ := hv
  have xc : xC p s m _ meth c b_D_addPinEnd 4 lwG qR3 (none) := ⟨B.exec, B.bytes, hml, findClass_of_methodNamed B.named, fun w h => atoms_spec (ws := (.code y_D_addPinEnd b_D_addPinEnd 4 (none) :: lwG)) B.pre w (List.mem_cons_of_mem _ h), B.returns, B.notSynchronized⟩
  obtain ⟨hx, hb, hml, hown, hts, hr, hlocks⟩ := id xc
  subst hsz
  have hD : va_D (cAA L I F G s.heap.size) (WC L I F G) := hD0.self
  have hA0 : ∀ q : Nat, s.heap.size ≤ q → cAA L I F G s.heap.size q := fun q h => Or.inr h
  generalize cAA L I F G s.heap.size = A at hD hA0 ⊢
  have hA := hA0
  have hw : CW L A s.heap I F G s.heap [] := ⟨hP, hD, va_S.rf⟩
  have hl := lv_entry ([.ref (cA L 3), .int a1, .int a2]) (n := 4) (Nat.le_of_ble_eq_true rfl)
  rw [lg_entry_eq]
  generalize (lg_sl ([.ref (cA L 3), .int a1, .int a2]) ++ List.replicate (4 - (lg_sl ([.ref (cA L 3), .int a1, .int a2])).length) Slot.unset).toArray = ls at hl ⊢
  have hl : lv_has ls 4 [(0, .ref (cA L 3)), (1, .int a1), (2, .int a2)] := hl
  refine lv_aload_n hx hb d_D_addPinEnd_0 rfl (lv_at hl 0 rfl) ?_
  refine va_get (D := L.1) (ci := 3) (v := .ref (cA L 1)) (C := qR3) (T := qT3) (N := 7) hx hb hts qi3 hown hK hw.1 3 rfl rfl 0 (by decide) (hts _ wG166) (fun _ h9 => h9) rfl d_D_addPinEnd_1 ?_
  refine va_get (D := L.1) (ci := 1) (v := .ref (cA L 5)) (C := qR1) (T := qT1) (N := 13) hx hb hts qi1 hown hK hw.1 1 rfl rfl 8 (by decide) (hts _ wG104) (fun _ h9 => h9) rfl d_D_addPinEnd_4 ?_
  refine lv_iload_n hx hb d_D_addPinEnd_7 rfl (lv_at hl 1 rfl) ?_
  obtain ⟨hi_1, h⟩ := h
  refine c_row5 hx hb hK hw.1 hi_1 d_D_addPinEnd_8 ?_
  refine lv_iload_n hx hb d_D_addPinEnd_9 rfl (lv_at hl 2 rfl) ?_
  obtain ⟨hi_2, h⟩ := h
  refine c_iald hx hb hK hw.1 (15 + a1.toNatClampNeg) (row_lt15 hi_1) (row_len15 hi_1) hi_2 d_D_addPinEnd_10 ?_
  refine lv_topi (fun x_3 ex_3 => ?_)
  replace h := h x_3 ex_3
  refine lv_istore_n (lv' := [(3, .int x_3), (0, .ref (cA L 3)), (1, .int a1), (2, .int a2)]) hx hb d_D_addPinEnd_11 rfl hl (by decide) rfl (fun ls hl => ?_)
  refine lv_iload_n hx hb d_D_addPinEnd_12 rfl (lv_at hl 0 rfl) ?_
  refine lv_iconst (v := (-1)) hx hb d_D_addPinEnd_13 (by decide) ?_
  refine lv_icmp_eq (tgt := 39) hx hb d_D_addPinEnd_14 (by decide) (fun c_4 => ?_) (fun c_4 => ?_)
  · replace h := h.1 c_4
    exact W.vret hx hb hr (fun t ht hW => ⟨⟨(I, F, G), rfl, h, by rw [ht]; exact hw.1, va_K.moved hW.alike hK, hw.2.1⟩, hw.2.2.F ht⟩) hw.2.2.2.2 d_D_addPinEnd_39
  · replace h := h.2 c_4
    refine lv_aload_n hx hb d_D_addPinEnd_17 rfl (lv_at hl 1 rfl) ?_
    refine va_get (D := L.1) (ci := 3) (v := .ref (cA L 1)) (C := qR3) (T := qT3) (N := 7) hx hb hts qi3 hown hK hw.1 3 rfl rfl 0 (by decide) (hts _ wG166) (fun _ h9 => h9) rfl d_D_addPinEnd_18 ?_
    refine lv_iload_n hx hb d_D_addPinEnd_21 rfl (lv_at hl 0 rfl) ?_
    refine vp_callSi (va_runV (As := [.int x_3]) (rest := []) ⟨hx, hb, hml, hown, hts⟩ (c_N_isWired l L x_3 I F G _ h) (cwV 1 hts (gV wG592 wG386 wG387 wG49 wG388) rfl rfl rfl (by decide +kernel) ⟨Nat.le_of_ble_eq_true rfl, Nat.le_of_ble_eq_true rfl⟩) (cPre1 hK hN hw.1) rfl rfl hl.1 rfl (lv_room (Nat.le_of_ble_eq_true rfl)) d_D_addPinEnd_22 ⟨Nat.le_of_ble_eq_true rfl, Nat.le_of_ble_eq_true rfl⟩).run (fun r_5 h => ?_)
    refine lv_if_eq (tgt := 39) hx hb d_D_addPinEnd_25 (by decide) (fun c_6 => ?_) (fun c_6 => ?_)
    · replace h := h.1 c_6
      exact W.vret hx hb hr (fun t ht hW => ⟨⟨(I, F, G), rfl, h, by rw [ht]; exact hw.1, va_K.moved hW.alike hK, hw.2.1⟩, hw.2.2.F ht⟩) hw.2.2.2.2 d_D_addPinEnd_39
    · replace h := h.2 c_6
      refine lv_aload_n hx hb d_D_addPinEnd_28 rfl (lv_at hl 1 rfl) ?_
      refine lv_iload_n hx hb d_D_addPinEnd_29 rfl (lv_at hl 0 rfl) ?_
      refine lv_aload_n hx hb d_D_addPinEnd_30 rfl (lv_at hl 1 rfl) ?_
      refine lv_iload_n hx hb d_D_addPinEnd_31 rfl (lv_at hl 2 rfl) ?_
      refine lv_iload_n hx hb d_D_addPinEnd_32 rfl (lv_at hl 3 rfl) ?_
      refine c_calli (va_runV (As := [.int a1, .int a2]) (rest := [.int x_3, .ref (cA L 3)]) ⟨hx, hb, hml, hown, hts⟩ (c_D_groupOfRow l L a1 a2 I F G _ _ h) (cwV 2 hts (gV wG573 wG575 wG13 wG52 wG576) rfl rfl rfl (by decide +kernel) ⟨Nat.le_of_ble_eq_true rfl, Nat.le_of_ble_eq_true rfl⟩) (cPrm3 hK hN hw) rfl rfl hl.1 rfl (lv_room (Nat.le_of_ble_eq_true rfl)) d_D_addPinEnd_33 ⟨Nat.le_of_ble_eq_true rfl, Nat.le_of_ble_eq_true rfl⟩) hw hA (fun r_7 I_8 F_8 G_8 H locs h hw => ?_)
      refine c_callv (va_runV (As := [.int x_3, .int r_7]) (rest := []) ⟨hx, hb, hml, hown, hts⟩ (c_D_addEnd l L x_3 r_7 I_8 F_8 G_8 _ _ h) (cwV 2 hts (gV wG593 wG595 wG15 wG52 wG596) rfl rfl rfl (by decide +kernel) ⟨Nat.le_of_ble_eq_true rfl, Nat.le_of_ble_eq_true rfl⟩) (cPrm3 hK hN hw) rfl rfl hl.1 rfl (lv_room (Nat.le_of_ble_eq_true rfl)) d_D_addPinEnd_36 ⟨Nat.le_of_ble_eq_true rfl, Nat.le_of_ble_eq_true rfl⟩) hw hA (fun I_9 F_9 G_9 H locs h hw => ?_)
      exact W.vret hx hb hr (fun t ht hW => ⟨⟨(I_9, F_9, G_9), rfl, h, by rw [ht]; exact hw.1, va_K.moved hW.alike hK, hw.2.1⟩, hw.2.2.F ht⟩) hw.2.2.2.2 d_D_addPinEnd_39
abbrev rm_D_collectEnds : Room := { frames := 4, cells := 0, slots := 0, locals := 86 }
set_option maxHeartbeats 4000000 in
set_option maxRecDepth 100000 in
theorem Wl_D_collectEnds_7 {p : Program} {l : Launch} {e : Env} {s : State} {m : MethodId} {args : Array Value} {below : List Frame} {meth : Method} {c : Code} {L : cL} {A : Nat → Prop} {post : MI → MF → MG → Prop} {K : Int32 → MI → MF → MG → Prop} (xc : xC p s m args meth c b_D_collectEnds 2 lwG qR3 (none)) (hK : va_K L.1 vwCl (cTys L) s) (hN : cNk s) (hA : ∀ q, s.heap.size ≤ q → A q)
    (hk : ∀ (a1 : Int32) (I : MI) (F : MF) (G : MG) (H : Heap) (locs : List Loc) (ls : Array Slot), K a1 I F G → CW L A s.heap I F G H locs → lv_has ls 2 [(0, .ref (cA L 3)), (1, .int a1)] → W p l e rm_D_collectEnds s m args below meth c H locs 0 0 (MQ below (cQv L A post A) args s 0 0 A) (F0 m 31 ls [])) :
    ∀ (n : Nat) (a1 : Int32) (I : MI) (F : MF) (G : MG) (H : Heap) (locs : List Loc) (ls : Array Slot), wl_D_collectEnds_7 post K n a1 I F G → CW L A s.heap I F G H locs → lv_has ls 2 [(0, .ref (cA L 3)), (1, .int a1)] → W p l e rm_D_collectEnds s m args below meth c H locs 0 0 (MQ below (cQv L A post A) args s 0 0 A) (F0 m 7 ls []) := by
  obtain ⟨hx, hb, hml, hown, hts, hr, hlocks⟩ := id xc
  intro n
  induction n with
  | zero => intro a1 I F G H locs ls h; exact absurd h id
  | succ n ih =>
    intro a1 I F G H locs ls h hw hl
    refine lv_iload_n hx hb d_D_collectEnds_7 rfl (lv_at hl 1 rfl) ?_
    refine lv_bipush (v := 24) hx hb d_D_collectEnds_8 (by decide) ?_
    refine lv_icmp_ge (tgt := 31) hx hb d_D_collectEnds_10 (by decide) (fun c_2 => ?_) (fun c_2 => ?_)
    · replace h := h.1 c_2
      exact hk a1 I F G _ _ ls h hw (lv_sub hl [0, 1] rfl)
    · replace h := h.2 c_2
      refine lv_aload_n hx hb d_D_collectEnds_13 rfl (lv_at hl 0 rfl) ?_
      refine lv_iconst (v := 0) hx hb d_D_collectEnds_14 (by decide) ?_
      refine lv_iload_n hx hb d_D_collectEnds_15 rfl (lv_at hl 1 rfl) ?_
      refine c_callv (va_runV (As := [.int 0, .int a1]) (rest := []) ⟨hx, hb, hml, hown, hts⟩ (c_D_addPinEnd l L 0 a1 I F G _ _ h) (cwV 2 hts (gV wG588 wG590 wG14 wG52 wG591) rfl rfl rfl (by decide +kernel) ⟨Nat.le_of_ble_eq_true rfl, Nat.le_of_ble_eq_true rfl⟩) (cPrm3 hK hN hw) rfl rfl hl.1 rfl (lv_room (Nat.le_of_ble_eq_true rfl)) d_D_collectEnds_16 ⟨Nat.le_of_ble_eq_true rfl, Nat.le_of_ble_eq_true rfl⟩) hw hA (fun I_3 F_3 G_3 H locs h hw => ?_)
      refine lv_aload_n hx hb d_D_collectEnds_19 rfl (lv_at hl 0 rfl) ?_
      refine lv_iconst (v := 1) hx hb d_D_collectEnds_20 (by decide) ?_
      refine lv_iload_n hx hb d_D_collectEnds_21 rfl (lv_at hl 1 rfl) ?_
      refine c_callv (va_runV (As := [.int 1, .int a1]) (rest := []) ⟨hx, hb, hml, hown, hts⟩ (c_D_addPinEnd l L 1 a1 I_3 F_3 G_3 _ _ h) (cwV 2 hts (gV wG588 wG590 wG14 wG52 wG591) rfl rfl rfl (by decide +kernel) ⟨Nat.le_of_ble_eq_true rfl, Nat.le_of_ble_eq_true rfl⟩) (cPrm3 hK hN hw) rfl rfl hl.1 rfl (lv_room (Nat.le_of_ble_eq_true rfl)) d_D_collectEnds_22 ⟨Nat.le_of_ble_eq_true rfl, Nat.le_of_ble_eq_true rfl⟩) hw hA (fun I_4 F_4 G_4 H locs h hw => ?_)
      obtain ⟨x_5, ex_5⟩ : ∃ y : Int32, y = a1 + 1 := ⟨_, rfl⟩
      replace h := h x_5 ex_5
      refine lv_iinc (v := x_5) (lv' := [(1, .int x_5), (0, .ref (cA L 3))]) hx hb d_D_collectEnds_25 hl (k := 1) rfl (by rw [ex_5]; rfl) (by decide) rfl (fun ls hl => ?_)
      refine lv_goto (tgt := 7) hx hb d_D_collectEnds_28 (by decide) ?_
      exact ih x_5 I_4 F_4 G_4 _ _ ls h hw (lv_sub hl [1, 0] rfl)
set_option maxHeartbeats 4000000 in
set_option maxRecDepth 100000 in
theorem Wl_D_collectEnds_33 {p : Program} {l : Launch} {e : Env} {s : State} {m : MethodId} {args : Array Value} {below : List Frame} {meth : Method} {c : Code} {L : cL} {A : Nat → Prop} {post : MI → MF → MG → Prop} {K : Int32 → MI → MF → MG → Prop} (xc : xC p s m args meth c b_D_collectEnds 2 lwG qR3 (none)) (hK : va_K L.1 vwCl (cTys L) s) (hN : cNk s) (hA : ∀ q, s.heap.size ≤ q → A q)
    (hk : ∀ (a1 : Int32) (I : MI) (F : MF) (G : MG) (H : Heap) (locs : List Loc) (ls : Array Slot), K a1 I F G → CW L A s.heap I F G H locs → lv_has ls 2 [(0, .ref (cA L 3)), (1, .int a1)] → W p l e rm_D_collectEnds s m args below meth c H locs 0 0 (MQ below (cQv L A post A) args s 0 0 A) (F0 m 79 ls [])) :
    ∀ (n : Nat) (a1 : Int32) (I : MI) (F : MF) (G : MG) (H : Heap) (locs : List Loc) (ls : Array Slot), wl_D_collectEnds_33 post K n a1 I F G → CW L A s.heap I F G H locs → lv_has ls 2 [(0, .ref (cA L 3)), (1, .int a1)] → W p l e rm_D_collectEnds s m args below meth c H locs 0 0 (MQ below (cQv L A post A) args s 0 0 A) (F0 m 33 ls []) := by
  obtain ⟨hx, hb, hml, hown, hts, hr, hlocks⟩ := id xc
  intro n
  induction n with
  | zero => intro a1 I F G H locs ls h; exact absurd h id
  | succ n ih =>
    intro a1 I F G H locs ls h hw hl
    refine lv_iload_n hx hb d_D_collectEnds_33 rfl (lv_at hl 1 rfl) ?_
    refine lv_bipush (v := 12) hx hb d_D_collectEnds_34 (by decide) ?_
    refine lv_icmp_ge (tgt := 79) hx hb d_D_collectEnds_36 (by decide) (fun c_8 => ?_) (fun c_8 => ?_)
    · replace h := h.1 c_8
      exact hk a1 I F G _ _ ls h hw (lv_sub hl [0, 1] rfl)
    · replace h := h.2 c_8
      refine lv_aload_n hx hb d_D_collectEnds_39 rfl (lv_at hl 0 rfl) ?_
      refine va_get (D := L.1) (ci := 3) (v := .ref (cA L 1)) (C := qR3) (T := qT3) (N := 7) hx hb hts qi3 hown hK hw.1 3 rfl rfl 0 (by decide) (hts _ wG166) (fun _ h9 => h9) rfl d_D_collectEnds_40 ?_
      refine lv_iload_n hx hb d_D_collectEnds_43 rfl (lv_at hl 1 rfl) ?_
      refine vp_callSi (va_runV (As := [.int a1]) (rest := []) ⟨hx, hb, hml, hown, hts⟩ (c_N_hasPad l L a1 I F G _ h) (cwV 1 hts (gV wG597 wG394 wG395 wG49 wG396) rfl rfl rfl (by decide +kernel) ⟨Nat.le_of_ble_eq_true rfl, Nat.le_of_ble_eq_true rfl⟩) (cPre1 hK hN hw.1) rfl rfl hl.1 rfl (lv_room (Nat.le_of_ble_eq_true rfl)) d_D_collectEnds_44 ⟨Nat.le_of_ble_eq_true rfl, Nat.le_of_ble_eq_true rfl⟩).run (fun r_9 h => ?_)
      refine lv_if_eq (tgt := 73) hx hb d_D_collectEnds_47 (by decide) (fun c_10 => ?_) (fun c_10 => ?_)
      · replace h := h.1 c_10
        obtain ⟨x_11, ex_11⟩ : ∃ y : Int32, y = a1 + 1 := ⟨_, rfl⟩
        replace h := h x_11 ex_11
        refine lv_iinc (v := x_11) (lv' := [(1, .int x_11), (0, .ref (cA L 3))]) hx hb d_D_collectEnds_73 hl (k := 1) rfl (by rw [ex_11]; rfl) (by decide) rfl (fun ls hl => ?_)
        refine lv_goto (tgt := 33) hx hb d_D_collectEnds_76 (by decide) ?_
        exact ih x_11 I F G _ _ ls h hw (lv_sub hl [1, 0] rfl)
      · replace h := h.2 c_10
        refine lv_aload_n hx hb d_D_collectEnds_50 rfl (lv_at hl 0 rfl) ?_
        refine lv_iload_n hx hb d_D_collectEnds_51 rfl (lv_at hl 1 rfl) ?_
        refine lv_aload_n hx hb d_D_collectEnds_52 rfl (lv_at hl 0 rfl) ?_
        refine lv_aload_n hx hb d_D_collectEnds_53 rfl (lv_at hl 0 rfl) ?_
        refine va_get (D := L.1) (ci := 3) (v := .ref (cA L 2)) (C := qR3) (T := qT3) (N := 7) hx hb hts qi3 hown hK hw.1 3 rfl rfl 1 (by decide) (hts _ wG167) (fun _ h9 => h9) rfl d_D_collectEnds_54 ?_
        refine va_get (D := L.1) (ci := 2) (v := .ref (cA L 20)) (C := qR2) (T := qT2) (N := 3) hx hb hts qi2 hown hK hw.1 2 rfl rfl 2 (by decide) (hts _ wG150) (fun _ h9 => h9) rfl d_D_collectEnds_57 ?_
        refine lv_iload_n hx hb d_D_collectEnds_60 rfl (lv_at hl 1 rfl) ?_
        obtain ⟨hi_12, h⟩ := h
        refine c_iald hx hb hK hw.1 10 (by decide) rfl hi_12 d_D_collectEnds_61 ?_
        refine lv_iconst (v := 0) hx hb d_D_collectEnds_62 (by decide) ?_
        refine lv_iconst (v := 0) hx hb d_D_collectEnds_63 (by decide) ?_
        refine vp_callSi (va_runS (As := [.int (F 10 a1.toNatClampNeg), .int 0, .int 0]) (rest := [.ref (cA L 3), .int a1, .ref (cA L 3)]) ⟨hx, hb, hml, hown, hts⟩ (c_D_spot l (F 10 a1.toNatClampNeg) 0 0 _ h) (va_cwS 3 hts (gS wG555 wG556 wG52 wG557) rfl rfl rfl (by decide +kernel) ⟨Nat.le_of_ble_eq_true rfl, Nat.le_of_ble_eq_true rfl⟩) ⟨sPc_blind _, fun U hU hW => ⟨rfl, trivial⟩⟩ rfl rfl hl.1 rfl (lv_room (Nat.le_of_ble_eq_true rfl)) d_D_collectEnds_64 ⟨Nat.le_of_ble_eq_true rfl, Nat.le_of_ble_eq_true rfl⟩).run (fun r_13 h => ?_)
        refine c_calli (va_runV (As := [.int r_13]) (rest := [.int a1, .ref (cA L 3)]) ⟨hx, hb, hml, hown, hts⟩ (c_D_group l L r_13 I F G _ _ h) (cwV 1 hts (gV wG562 wG564 wG12 wG52 wG565) rfl rfl rfl (by decide +kernel) ⟨Nat.le_of_ble_eq_true rfl, Nat.le_of_ble_eq_true rfl⟩) (cPrm3 hK hN hw) rfl rfl hl.1 rfl (lv_room (Nat.le_of_ble_eq_true rfl)) d_D_collectEnds_67 ⟨Nat.le_of_ble_eq_true rfl, Nat.le_of_ble_eq_true rfl⟩) hw hA (fun r_14 I_15 F_15 G_15 H locs h hw => ?_)
        refine c_callv (va_runV (As := [.int a1, .int r_14]) (rest := []) ⟨hx, hb, hml, hown, hts⟩ (c_D_addEnd l L a1 r_14 I_15 F_15 G_15 _ _ h) (cwV 2 hts (gV wG593 wG595 wG15 wG52 wG596) rfl rfl rfl (by decide +kernel) ⟨Nat.le_of_ble_eq_true rfl, Nat.le_of_ble_eq_true rfl⟩) (cPrm3 hK hN hw) rfl rfl hl.1 rfl (lv_room (Nat.le_of_ble_eq_true rfl)) d_D_collectEnds_70 ⟨Nat.le_of_ble_eq_true rfl, Nat.le_of_ble_eq_true rfl⟩) hw hA (fun I_16 F_16 G_16 H locs h hw => ?_)
        obtain ⟨x_17, ex_17⟩ : ∃ y : Int32, y = a1 + 1 := ⟨_, rfl⟩
        replace h := h x_17 ex_17
        refine lv_iinc (v := x_17) (lv' := [(1, .int x_17), (0, .ref (cA L 3))]) hx hb d_D_collectEnds_73 hl (k := 1) rfl (by rw [ex_17]; rfl) (by decide) rfl (fun ls hl => ?_)
        refine lv_goto (tgt := 33) hx hb d_D_collectEnds_76 (by decide) ?_
        exact ih x_17 I_16 F_16 G_16 _ _ ls h hw (lv_sub hl [1, 0] rfl)
set_option maxHeartbeats 4000000 in
set_option maxRecDepth 100000 in
theorem c_D_collectEnds (l : Launch) (L : cL) (I : MI) (F : MF) (G : MG) (sz : Nat) (post : MI → MF → MG → Prop) (h : wp_D_collectEnds I F G post) : Met l y_D_collectEnds (.code y_D_collectEnds b_D_collectEnds 2 (none) :: lwG) rm_D_collectEnds (cPm L I F G sz [.ref (cA L 3)]) (cQv L (cAA L I F G sz) post (cAA L I F G sz)) 0 0 (cAA L I F G sz) := by
  refine Met.ofW (cc := b_D_collectEnds) (maxL := 2) (ret := (none)) (by decide) rfl ?_
  intro p e s m args below meth c s₁ B hml hv
  obtain ⟨rfl, hsz, hP, hK, hD0, hN⟩ := hv
  have xc : xC p s m _ meth c b_D_collectEnds 2 lwG qR3 (none) := ⟨B.exec, B.bytes, hml, findClass_of_methodNamed B.named, fun w h => atoms_spec (ws := (.code y_D_collectEnds b_D_collectEnds 2 (none) :: lwG)) B.pre w (List.mem_cons_of_mem _ h), B.returns, B.notSynchronized⟩
  obtain ⟨hx, hb, hml, hown, hts, hr, hlocks⟩ := id xc
  subst hsz
  have hD : va_D (cAA L I F G s.heap.size) (WC L I F G) := hD0.self
  have hA0 : ∀ q : Nat, s.heap.size ≤ q → cAA L I F G s.heap.size q := fun q h => Or.inr h
  generalize cAA L I F G s.heap.size = A at hD hA0 ⊢
  have hA := hA0
  have hw : CW L A s.heap I F G s.heap [] := ⟨hP, hD, va_S.rf⟩
  have hl := lv_entry ([.ref (cA L 3)]) (n := 2) (Nat.le_of_ble_eq_true rfl)
  rw [lg_entry_eq]
  generalize (lg_sl ([.ref (cA L 3)]) ++ List.replicate (2 - (lg_sl ([.ref (cA L 3)])).length) Slot.unset).toArray = ls at hl ⊢
  have hl : lv_has ls 2 [(0, .ref (cA L 3))] := hl
  refine lv_aload_n hx hb d_D_collectEnds_0 rfl (lv_at hl 0 rfl) ?_
  refine lv_iconst (v := 0) hx hb d_D_collectEnds_1 (by decide) ?_
  refine va_put (D := L.1) (ci := 3) (v := .int 0) (ty := .int) (C := qR3) (T := qT3) (N := 7) hx hb hts qi3 qy3 qk3 qn3 hown hK hw.1 hw.2.1 hw.2.2 3 rfl rfl 6 (by decide) (hts _ wG173) (fun _ h9 => h9) rfl (by decide +kernel) rfl rfl (Nat.le_of_ble_eq_true rfl) d_D_collectEnds_2 (fun H locs h1 h2 h3 => ?_)
  replace hw : CW L A s.heap (setI I 3 0) F G H locs := ⟨h1, h2, h3⟩
  clear h1 h2 h3
  obtain ⟨I_1, eI_1⟩ : ∃ y : MI, y = setI I 3 0 := ⟨_, rfl⟩
  rw [← eI_1] at hw
  replace h := h I_1 eI_1
  refine lv_iconst (v := 0) hx hb d_D_collectEnds_5 (by decide) ?_
  refine lv_istore_n (lv' := [(1, .int 0), (0, .ref (cA L 3))]) hx hb d_D_collectEnds_6 rfl hl (by decide) rfl (fun ls hl => ?_)
  obtain ⟨n_21, h⟩ := h
  refine Wl_D_collectEnds_7 xc hK hN hA (hk := fun x_6 I_7 F_7 G_7 H locs ls h hw hl => ?_) n_21 0 I_1 F G _ _ ls h hw (lv_sub hl [1, 0] rfl)
  refine lv_iconst (v := 0) hx hb d_D_collectEnds_31 (by decide) ?_
  refine lv_istore_n (lv' := [(1, .int 0), (0, .ref (cA L 3))]) hx hb d_D_collectEnds_32 rfl hl (by decide) rfl (fun ls hl => ?_)
  obtain ⟨n_20, h⟩ := h
  refine Wl_D_collectEnds_33 xc hK hN hA (hk := fun x_18 I_19 F_19 G_19 H locs ls h hw hl => ?_) n_20 0 I_7 F_7 G_7 _ _ ls h hw (lv_sub hl [1, 0] rfl)
  exact W.vret hx hb hr (fun t ht hW => ⟨⟨(I_19, F_19, G_19), rfl, h, by rw [ht]; exact hw.1, va_K.moved hW.alike hK, hw.2.1⟩, hw.2.2.F ht⟩) hw.2.2.2.2 d_D_collectEnds_79
abbrev rm_D_netsInGroup : Room := { frames := 0, cells := 0, slots := 0, locals := 0 }
set_option maxHeartbeats 4000000 in
set_option maxRecDepth 100000 in
theorem Wl_D_netsInGroup_4 {p : Program} {l : Launch} {e : Env} {s : State} {m : MethodId} {args : Array Value} {below : List Frame} {meth : Method} {c : Code} {L : cL} {I : MI} {F : MF} {G : MG} {post : Int32 → Prop} {K : Int32 → Int32 → Prop} {a1 : Int32} (xc : xC p s m args meth c b_D_netsInGroup 4 lwG qR3 (some .int)) (hP : va_P L.1 vwCl (WC L I F G) s.heap) (hK : va_K L.1 vwCl (cTys L) s) (hN : cNk s)
    (hk : ∀ (a2 : Int32) (a3 : Int32) (ls : Array Slot), K a2 a3 → lv_has ls 4 [(0, .ref (cA L 3)), (1, .int a1), (2, .int a2), (3, .int a3)] → W p l e rm_D_netsInGroup s m args below meth c s.heap [] 0 0 (MQ below (vp_Si post) args s 0 0 (fun _ => False)) (F0 m 39 ls [])) :
    ∀ (n : Nat) (a2 : Int32) (a3 : Int32) (ls : Array Slot), wl_D_netsInGroup_4 post K a1 I F G n a2 a3 → lv_has ls 4 [(0, .ref (cA L 3)), (1, .int a1), (2, .int a2), (3, .int a3)] → W p l e rm_D_netsInGroup s m args below meth c s.heap [] 0 0 (MQ below (vp_Si post) args s 0 0 (fun _ => False)) (F0 m 4 ls []) := by
  obtain ⟨hx, hb, hml, hown, hts, hr, hlocks⟩ := id xc
  intro n
  induction n with
  | zero => intro a2 a3 ls h; exact absurd h id
  | succ n ih =>
    intro a2 a3 ls h hl
    refine lv_iload_n hx hb d_D_netsInGroup_4 rfl (lv_at hl 3 rfl) ?_
    refine lv_aload_n hx hb d_D_netsInGroup_5 rfl (lv_at hl 0 rfl) ?_
    refine va_get (D := L.1) (ci := 3) (v := .int (I 3)) (C := qR3) (T := qT3) (N := 7) hx hb hts qi3 hown hK hP 3 rfl rfl 6 (by decide) (hts _ wG173) (fun _ h9 => h9) rfl d_D_netsInGroup_6 ?_
    refine lv_icmp_ge (tgt := 39) hx hb d_D_netsInGroup_9 (by decide) (fun c_1 => ?_) (fun c_1 => ?_)
    · replace h := h.1 c_1
      exact hk a2 a3 ls h (lv_sub hl [0, 1, 2, 3] rfl)
    · replace h := h.2 c_1
      refine lv_aload_n hx hb d_D_netsInGroup_12 rfl (lv_at hl 0 rfl) ?_
      refine va_get (D := L.1) (ci := 3) (v := .ref (cA L 23)) (C := qR3) (T := qT3) (N := 7) hx hb hts qi3 hown hK hP 3 rfl rfl 5 (by decide) (hts _ wG172) (fun _ h9 => h9) rfl d_D_netsInGroup_13 ?_
      refine lv_iload_n hx hb d_D_netsInGroup_16 rfl (lv_at hl 3 rfl) ?_
      obtain ⟨hi_2, h⟩ := h
      refine c_iald hx hb hK hP 13 (by decide) rfl hi_2 d_D_netsInGroup_17 ?_
      refine lv_iload_n hx hb d_D_netsInGroup_18 rfl (lv_at hl 1 rfl) ?_
      refine lv_icmp_ne (tgt := 33) hx hb d_D_netsInGroup_19 (by decide) (fun c_3 => ?_) (fun c_3 => ?_)
      · replace h := h.1 c_3
        obtain ⟨x_4, ex_4⟩ : ∃ y : Int32, y = a3 + 1 := ⟨_, rfl⟩
        replace h := h x_4 ex_4
        refine lv_iinc (v := x_4) (lv' := [(3, .int x_4), (0, .ref (cA L 3)), (1, .int a1), (2, .int a2)]) hx hb d_D_netsInGroup_33 hl (k := 3) rfl (by rw [ex_4]; rfl) (by decide) rfl (fun ls hl => ?_)
        refine lv_goto (tgt := 4) hx hb d_D_netsInGroup_36 (by decide) ?_
        exact ih a2 x_4 ls h (lv_sub hl [1, 2, 3, 0] rfl)
      · replace h := h.2 c_3
        refine lv_iload_n hx hb d_D_netsInGroup_22 rfl (lv_at hl 2 rfl) ?_
        refine lv_iconst (v := 1) hx hb d_D_netsInGroup_23 (by decide) ?_
        refine lv_aload_n hx hb d_D_netsInGroup_24 rfl (lv_at hl 0 rfl) ?_
        refine va_get (D := L.1) (ci := 3) (v := .ref (cA L 22)) (C := qR3) (T := qT3) (N := 7) hx hb hts qi3 hown hK hP 3 rfl rfl 4 (by decide) (hts _ wG171) (fun _ h9 => h9) rfl d_D_netsInGroup_25 ?_
        refine lv_iload_n hx hb d_D_netsInGroup_28 rfl (lv_at hl 3 rfl) ?_
        obtain ⟨hi_5, h⟩ := h
        refine c_iald hx hb hK hP 12 (by decide) rfl hi_5 d_D_netsInGroup_29 ?_
        refine lv_ishl hx hb d_D_netsInGroup_30 ?_
        refine lv_ior hx hb d_D_netsInGroup_31 ?_
        refine lv_topi (fun x_6 ex_6 => ?_)
        replace h := h x_6 ex_6
        refine lv_istore_n (lv' := [(2, .int x_6), (0, .ref (cA L 3)), (1, .int a1), (3, .int a3)]) hx hb d_D_netsInGroup_32 rfl hl (by decide) rfl (fun ls hl => ?_)
        obtain ⟨x_7, ex_7⟩ : ∃ y : Int32, y = a3 + 1 := ⟨_, rfl⟩
        replace h := h x_7 ex_7
        refine lv_iinc (v := x_7) (lv' := [(3, .int x_7), (2, .int x_6), (0, .ref (cA L 3)), (1, .int a1)]) hx hb d_D_netsInGroup_33 hl (k := 3) rfl (by rw [ex_7]; rfl) (by decide) rfl (fun ls hl => ?_)
        refine lv_goto (tgt := 4) hx hb d_D_netsInGroup_36 (by decide) ?_
        exact ih x_6 x_7 ls h (lv_sub hl [2, 3, 1, 0] rfl)
set_option maxHeartbeats 4000000 in
set_option maxRecDepth 100000 in
theorem c_D_netsInGroup (l : Launch) (L : cL) (a1 : Int32) (I : MI) (F : MF) (G : MG) (post : Int32 → Prop) (h : wp_D_netsInGroup a1 I F G post) : Met l y_D_netsInGroup (.code y_D_netsInGroup b_D_netsInGroup 4 (some .int) :: lwG) rm_D_netsInGroup (cPc L I F G [.ref (cA L 3), .int a1]) (vp_Si post) 0 0 (fun _ => False) := by
  refine Met.ofW (cc := b_D_netsInGroup) (maxL := 4) (ret := (some .int)) (by decide) rfl ?_
  intro p e s m args below meth c s₁ B hml hv
  obtain ⟨rfl, hP, hK, hN⟩ := hv
  have xc : xC p s m _ meth c b_D_netsInGroup 4 lwG qR3 (some .int) := ⟨B.exec, B.bytes, hml, findClass_of_methodNamed B.named, fun w h => atoms_spec (ws := (.code y_D_netsInGroup b_D_netsInGroup 4 (some .int) :: lwG)) B.pre w (List.mem_cons_of_mem _ h), B.returns, B.notSynchronized⟩
  obtain ⟨hx, hb, hml, hown, hts, hr, hlocks⟩ := id xc
  have hl := lv_entry ([.ref (cA L 3), .int a1]) (n := 4) (Nat.le_of_ble_eq_true rfl)
  rw [lg_entry_eq]
  generalize (lg_sl ([.ref (cA L 3), .int a1]) ++ List.replicate (4 - (lg_sl ([.ref (cA L 3), .int a1])).length) Slot.unset).toArray = ls at hl ⊢
  have hl : lv_has ls 4 [(0, .ref (cA L 3)), (1, .int a1)] := hl
  refine lv_iconst (v := 0) hx hb d_D_netsInGroup_0 (by decide) ?_
  refine lv_istore_n (lv' := [(2, .int 0), (0, .ref (cA L 3)), (1, .int a1)]) hx hb d_D_netsInGroup_1 rfl hl (by decide) rfl (fun ls hl => ?_)
  refine lv_iconst (v := 0) hx hb d_D_netsInGroup_2 (by decide) ?_
  refine lv_istore_n (lv' := [(3, .int 0), (2, .int 0), (0, .ref (cA L 3)), (1, .int a1)]) hx hb d_D_netsInGroup_3 rfl hl (by decide) rfl (fun ls hl => ?_)
  obtain ⟨n_10, h⟩ := h
  refine Wl_D_netsInGroup_4 xc hP hK hN (hk := fun x_8 x_9 ls h hl => ?_) n_10 0 0 ls h (lv_sub hl [2, 3, 1, 0] rfl)
  refine lv_iload_n hx hb d_D_netsInGroup_39 rfl (lv_at hl 2 rfl) ?_
  exact W.iret hx hb hr (fun t ht _ => ⟨_, rfl, h, ht⟩) (fun _ h9 => nomatch h9) d_D_netsInGroup_40
abbrev rm_D_netsJoinedWith : Room := { frames := 1, cells := 0, slots := 0, locals := 23 }
set_option maxHeartbeats 4000000 in
set_option maxRecDepth 100000 in
theorem Wl_D_netsJoinedWith_4 {p : Program} {l : Launch} {e : Env} {s : State} {m : MethodId} {args : Array Value} {below : List Frame} {meth : Method} {c : Code} {L : cL} {I : MI} {F : MF} {G : MG} {post : Int32 → Prop} {K : Int32 → Int32 → Prop} {a1 : Int32} (xc : xC p s m args meth c b_D_netsJoinedWith 4 lwG qR3 (some .int)) (hP : va_P L.1 vwCl (WC L I F G) s.heap) (hK : va_K L.1 vwCl (cTys L) s) (hN : cNk s)
    (hk : ∀ (a2 : Int32) (a3 : Int32) (ls : Array Slot), K a2 a3 → lv_has ls 4 [(0, .ref (cA L 3)), (1, .int a1), (2, .int a2), (3, .int a3)] → W p l e rm_D_netsJoinedWith s m args below meth c s.heap [] 0 0 (MQ below (vp_Si post) args s 0 0 (fun _ => False)) (F0 m 41 ls [])) :
    ∀ (n : Nat) (a2 : Int32) (a3 : Int32) (ls : Array Slot), wl_D_netsJoinedWith_4 post K a1 I F G n a2 a3 → lv_has ls 4 [(0, .ref (cA L 3)), (1, .int a1), (2, .int a2), (3, .int a3)] → W p l e rm_D_netsJoinedWith s m args below meth c s.heap [] 0 0 (MQ below (vp_Si post) args s 0 0 (fun _ => False)) (F0 m 4 ls []) := by
  obtain ⟨hx, hb, hml, hown, hts, hr, hlocks⟩ := id xc
  intro n
  induction n with
  | zero => intro a2 a3 ls h; exact absurd h id
  | succ n ih =>
    intro a2 a3 ls h hl
    refine lv_iload_n hx hb d_D_netsJoinedWith_4 rfl (lv_at hl 3 rfl) ?_
    refine lv_aload_n hx hb d_D_netsJoinedWith_5 rfl (lv_at hl 0 rfl) ?_
    refine va_get (D := L.1) (ci := 3) (v := .int (I 3)) (C := qR3) (T := qT3) (N := 7) hx hb hts qi3 hown hK hP 3 rfl rfl 6 (by decide) (hts _ wG173) (fun _ h9 => h9) rfl d_D_netsJoinedWith_6 ?_
    refine lv_icmp_ge (tgt := 41) hx hb d_D_netsJoinedWith_9 (by decide) (fun c_1 => ?_) (fun c_1 => ?_)
    · replace h := h.1 c_1
      exact hk a2 a3 ls h (lv_sub hl [0, 1, 2, 3] rfl)
    · replace h := h.2 c_1
      refine lv_aload_n hx hb d_D_netsJoinedWith_12 rfl (lv_at hl 0 rfl) ?_
      refine va_get (D := L.1) (ci := 3) (v := .ref (cA L 22)) (C := qR3) (T := qT3) (N := 7) hx hb hts qi3 hown hK hP 3 rfl rfl 4 (by decide) (hts _ wG171) (fun _ h9 => h9) rfl d_D_netsJoinedWith_13 ?_
      refine lv_iload_n hx hb d_D_netsJoinedWith_16 rfl (lv_at hl 3 rfl) ?_
      obtain ⟨hi_2, h⟩ := h
      refine c_iald hx hb hK hP 12 (by decide) rfl hi_2 d_D_netsJoinedWith_17 ?_
      refine lv_iload_n hx hb d_D_netsJoinedWith_18 rfl (lv_at hl 1 rfl) ?_
      refine lv_icmp_ne (tgt := 35) hx hb d_D_netsJoinedWith_19 (by decide) (fun c_3 => ?_) (fun c_3 => ?_)
      · replace h := h.1 c_3
        obtain ⟨x_4, ex_4⟩ : ∃ y : Int32, y = a3 + 1 := ⟨_, rfl⟩
        replace h := h x_4 ex_4
        refine lv_iinc (v := x_4) (lv' := [(3, .int x_4), (0, .ref (cA L 3)), (1, .int a1), (2, .int a2)]) hx hb d_D_netsJoinedWith_35 hl (k := 3) rfl (by rw [ex_4]; rfl) (by decide) rfl (fun ls hl => ?_)
        refine lv_goto (tgt := 4) hx hb d_D_netsJoinedWith_38 (by decide) ?_
        exact ih a2 x_4 ls h (lv_sub hl [1, 2, 3, 0] rfl)
      · replace h := h.2 c_3
        refine lv_iload_n hx hb d_D_netsJoinedWith_22 rfl (lv_at hl 2 rfl) ?_
        refine lv_aload_n hx hb d_D_netsJoinedWith_23 rfl (lv_at hl 0 rfl) ?_
        refine lv_aload_n hx hb d_D_netsJoinedWith_24 rfl (lv_at hl 0 rfl) ?_
        refine va_get (D := L.1) (ci := 3) (v := .ref (cA L 23)) (C := qR3) (T := qT3) (N := 7) hx hb hts qi3 hown hK hP 3 rfl rfl 5 (by decide) (hts _ wG172) (fun _ h9 => h9) rfl d_D_netsJoinedWith_25 ?_
        refine lv_iload_n hx hb d_D_netsJoinedWith_28 rfl (lv_at hl 3 rfl) ?_
        obtain ⟨hi_5, h⟩ := h
        refine c_iald hx hb hK hP 13 (by decide) rfl hi_5 d_D_netsJoinedWith_29 ?_
        refine vp_callSi (va_runV (As := [.int (F 13 a3.toNatClampNeg)]) (rest := [.int a2]) ⟨hx, hb, hml, hown, hts⟩ (c_D_netsInGroup l L (F 13 a3.toNatClampNeg) I F G _ h) (cwV 1 hts (gV wG606 wG608 wG17 wG52 wG609) rfl rfl rfl (by decide +kernel) ⟨Nat.le_of_ble_eq_true rfl, Nat.le_of_ble_eq_true rfl⟩) (cPre3 hK hN hP) rfl rfl hl.1 rfl (lv_room (Nat.le_of_ble_eq_true rfl)) d_D_netsJoinedWith_30 ⟨Nat.le_of_ble_eq_true rfl, Nat.le_of_ble_eq_true rfl⟩).run (fun r_6 h => ?_)
        refine lv_ior hx hb d_D_netsJoinedWith_33 ?_
        refine lv_topi (fun x_7 ex_7 => ?_)
        replace h := h x_7 ex_7
        refine lv_istore_n (lv' := [(2, .int x_7), (0, .ref (cA L 3)), (1, .int a1), (3, .int a3)]) hx hb d_D_netsJoinedWith_34 rfl hl (by decide) rfl (fun ls hl => ?_)
        obtain ⟨x_8, ex_8⟩ : ∃ y : Int32, y = a3 + 1 := ⟨_, rfl⟩
        replace h := h x_8 ex_8
        refine lv_iinc (v := x_8) (lv' := [(3, .int x_8), (2, .int x_7), (0, .ref (cA L 3)), (1, .int a1)]) hx hb d_D_netsJoinedWith_35 hl (k := 3) rfl (by rw [ex_8]; rfl) (by decide) rfl (fun ls hl => ?_)
        refine lv_goto (tgt := 4) hx hb d_D_netsJoinedWith_38 (by decide) ?_
        exact ih x_7 x_8 ls h (lv_sub hl [2, 3, 1, 0] rfl)
set_option maxHeartbeats 4000000 in
set_option maxRecDepth 100000 in
theorem c_D_netsJoinedWith (l : Launch) (L : cL) (a1 : Int32) (I : MI) (F : MF) (G : MG) (post : Int32 → Prop) (h : wp_D_netsJoinedWith a1 I F G post) : Met l y_D_netsJoinedWith (.code y_D_netsJoinedWith b_D_netsJoinedWith 4 (some .int) :: lwG) rm_D_netsJoinedWith (cPc L I F G [.ref (cA L 3), .int a1]) (vp_Si post) 0 0 (fun _ => False) := by
  refine Met.ofW (cc := b_D_netsJoinedWith) (maxL := 4) (ret := (some .int)) (by decide) rfl ?_
  intro p e s m args below meth c s₁ B hml hv
  obtain ⟨rfl, hP, hK, hN⟩ := hv
  have xc : xC p s m _ meth c b_D_netsJoinedWith 4 lwG qR3 (some .int) := ⟨B.exec, B.bytes, hml, findClass_of_methodNamed B.named, fun w h => atoms_spec (ws := (.code y_D_netsJoinedWith b_D_netsJoinedWith 4 (some .int) :: lwG)) B.pre w (List.mem_cons_of_mem _ h), B.returns, B.notSynchronized⟩
  obtain ⟨hx, hb, hml, hown, hts, hr, hlocks⟩ := id xc
  have hl := lv_entry ([.ref (cA L 3), .int a1]) (n := 4) (Nat.le_of_ble_eq_true rfl)
  rw [lg_entry_eq]
  generalize (lg_sl ([.ref (cA L 3), .int a1]) ++ List.replicate (4 - (lg_sl ([.ref (cA L 3), .int a1])).length) Slot.unset).toArray = ls at hl ⊢
  have hl : lv_has ls 4 [(0, .ref (cA L 3)), (1, .int a1)] := hl
  refine lv_iconst (v := 0) hx hb d_D_netsJoinedWith_0 (by decide) ?_
  refine lv_istore_n (lv' := [(2, .int 0), (0, .ref (cA L 3)), (1, .int a1)]) hx hb d_D_netsJoinedWith_1 rfl hl (by decide) rfl (fun ls hl => ?_)
  refine lv_iconst (v := 0) hx hb d_D_netsJoinedWith_2 (by decide) ?_
  refine lv_istore_n (lv' := [(3, .int 0), (2, .int 0), (0, .ref (cA L 3)), (1, .int a1)]) hx hb d_D_netsJoinedWith_3 rfl hl (by decide) rfl (fun ls hl => ?_)
  obtain ⟨n_11, h⟩ := h
  refine Wl_D_netsJoinedWith_4 xc hP hK hN (hk := fun x_9 x_10 ls h hl => ?_) n_11 0 0 ls h (lv_sub hl [2, 3, 1, 0] rfl)
  refine lv_iload_n hx hb d_D_netsJoinedWith_41 rfl (lv_at hl 2 rfl) ?_
  exact W.iret hx hb hr (fun t ht _ => ⟨_, rfl, h, ht⟩) (fun _ h9 => nomatch h9) d_D_netsJoinedWith_42
abbrev rm_D_shortPairs : Room := { frames := 2, cells := 0, slots := 0, locals := 46 }
set_option maxHeartbeats 4000000 in
set_option maxRecDepth 100000 in
theorem Wl_D_shortPairs_4 {p : Program} {l : Launch} {e : Env} {s : State} {m : MethodId} {args : Array Value} {below : List Frame} {meth : Method} {c : Code} {L : cL} {I : MI} {F : MF} {G : MG} {post : Int32 → Prop} {K : Int32 → Int32 → Prop} (xc : xC p s m args meth c b_D_shortPairs 4 lwG qR3 (some .int)) (hP : va_P L.1 vwCl (WC L I F G) s.heap) (hK : va_K L.1 vwCl (cTys L) s) (hN : cNk s)
    (hk : ∀ (a1 : Int32) (a2 : Int32) (ls : Array Slot), K a1 a2 → lv_has ls 4 [(0, .ref (cA L 3)), (1, .int a1), (2, .int a2)] → W p l e rm_D_shortPairs s m args below meth c s.heap [] 0 0 (MQ below (vp_Si post) args s 0 0 (fun _ => False)) (F0 m 35 ls [])) :
    ∀ (n : Nat) (a1 : Int32) (a2 : Int32) (ls : Array Slot), wl_D_shortPairs_4 post K I F G n a1 a2 → lv_has ls 4 [(0, .ref (cA L 3)), (1, .int a1), (2, .int a2)] → W p l e rm_D_shortPairs s m args below meth c s.heap [] 0 0 (MQ below (vp_Si post) args s 0 0 (fun _ => False)) (F0 m 4 ls []) := by
  obtain ⟨hx, hb, hml, hown, hts, hr, hlocks⟩ := id xc
  intro n
  induction n with
  | zero => intro a1 a2 ls h; exact absurd h id
  | succ n ih =>
    intro a1 a2 ls h hl
    refine lv_iload_n hx hb d_D_shortPairs_4 rfl (lv_at hl 2 rfl) ?_
    refine lv_bipush (v := 12) hx hb d_D_shortPairs_5 (by decide) ?_
    refine lv_icmp_ge (tgt := 35) hx hb d_D_shortPairs_7 (by decide) (fun c_1 => ?_) (fun c_1 => ?_)
    · replace h := h.1 c_1
      exact hk a1 a2 ls h (lv_sub hl [0, 1, 2] rfl)
    · replace h := h.2 c_1
      refine lv_iconst (v := 1) hx hb d_D_shortPairs_10 (by decide) ?_
      refine lv_iload_n hx hb d_D_shortPairs_11 rfl (lv_at hl 2 rfl) ?_
      refine lv_ishl hx hb d_D_shortPairs_12 ?_
      refine lv_iconst (v := 1) hx hb d_D_shortPairs_13 (by decide) ?_
      refine lv_isub hx hb d_D_shortPairs_14 ?_
      refine lv_topi (fun x_2 ex_2 => ?_)
      replace h := h x_2 ex_2
      refine lv_istore_n (lv' := [(3, .int x_2), (0, .ref (cA L 3)), (1, .int a1), (2, .int a2)]) hx hb d_D_shortPairs_15 rfl hl (by decide) rfl (fun ls hl => ?_)
      refine lv_iload_n hx hb d_D_shortPairs_16 rfl (lv_at hl 2 rfl) ?_
      refine lv_aload_n hx hb d_D_shortPairs_17 rfl (lv_at hl 1 rfl) ?_
      refine lv_iload_n hx hb d_D_shortPairs_18 rfl (lv_at hl 3 rfl) ?_
      refine vp_callSi (va_runV (As := [.int a2]) (rest := [.int a1]) ⟨hx, hb, hml, hown, hts⟩ (c_D_netsJoinedWith l L a2 I F G _ h) (cwV 1 hts (gV wG602 wG604 wG16 wG52 wG605) rfl rfl rfl (by decide +kernel) ⟨Nat.le_of_ble_eq_true rfl, Nat.le_of_ble_eq_true rfl⟩) (cPre3 hK hN hP) rfl rfl hl.1 rfl (lv_room (Nat.le_of_ble_eq_true rfl)) d_D_shortPairs_19 ⟨Nat.le_of_ble_eq_true rfl, Nat.le_of_ble_eq_true rfl⟩).run (fun r_3 h => ?_)
      refine lv_iload_n hx hb d_D_shortPairs_22 rfl (lv_at hl 0 rfl) ?_
      refine lv_iand hx hb d_D_shortPairs_23 ?_
      refine vp_callSi (va_runS (As := [.int (r_3 &&& x_2)]) (rest := [.int a1]) ⟨hx, hb, hml, hown, hts⟩ (c_JI_bitCount l (r_3 &&& x_2) _ h) (va_cwS 1 hts (gS wG610 wG611 wG63 wG612) rfl rfl rfl (by decide +kernel) ⟨Nat.le_of_ble_eq_true rfl, Nat.le_of_ble_eq_true rfl⟩) ⟨sPc_blind _, fun U hU hW => ⟨rfl, trivial⟩⟩ rfl rfl hl.1 rfl (lv_room (Nat.le_of_ble_eq_true rfl)) d_D_shortPairs_24 ⟨Nat.le_of_ble_eq_true rfl, Nat.le_of_ble_eq_true rfl⟩).run (fun r_4 h => ?_)
      refine lv_iadd hx hb d_D_shortPairs_27 ?_
      refine lv_topi (fun x_5 ex_5 => ?_)
      replace h := h x_5 ex_5
      refine lv_istore_n (lv' := [(1, .int x_5), (3, .int x_2), (0, .ref (cA L 3)), (2, .int a2)]) hx hb d_D_shortPairs_28 rfl hl (by decide) rfl (fun ls hl => ?_)
      obtain ⟨x_6, ex_6⟩ : ∃ y : Int32, y = a2 + 1 := ⟨_, rfl⟩
      replace h := h x_6 ex_6
      refine lv_iinc (v := x_6) (lv' := [(2, .int x_6), (1, .int x_5), (3, .int x_2), (0, .ref (cA L 3))]) hx hb d_D_shortPairs_29 hl (k := 3) rfl (by rw [ex_6]; rfl) (by decide) rfl (fun ls hl => ?_)
      refine lv_goto (tgt := 4) hx hb d_D_shortPairs_32 (by decide) ?_
      exact ih x_5 x_6 ls h (lv_sub hl [3, 1, 0] rfl)
set_option maxHeartbeats 4000000 in
set_option maxRecDepth 100000 in
theorem c_D_shortPairs (l : Launch) (L : cL) (I : MI) (F : MF) (G : MG) (post : Int32 → Prop) (h : wp_D_shortPairs I F G post) : Met l y_D_shortPairs (.code y_D_shortPairs b_D_shortPairs 4 (some .int) :: lwG) rm_D_shortPairs (cPc L I F G [.ref (cA L 3)]) (vp_Si post) 0 0 (fun _ => False) := by
  refine Met.ofW (cc := b_D_shortPairs) (maxL := 4) (ret := (some .int)) (by decide) rfl ?_
  intro p e s m args below meth c s₁ B hml hv
  obtain ⟨rfl, hP, hK, hN⟩ := hv
  have xc : xC p s m _ meth c b_D_shortPairs 4 lwG qR3 (some .int) := ⟨B.exec, B.bytes, hml, findClass_of_methodNamed B.named, fun w h => atoms_spec (ws := (.code y_D_shortPairs b_D_shortPairs 4 (some .int) :: lwG)) B.pre w (List.mem_cons_of_mem _ h), B.returns, B.notSynchronized⟩
  obtain ⟨hx, hb, hml, hown, hts, hr, hlocks⟩ := id xc
  have hl := lv_entry ([.ref (cA L 3)]) (n := 4) (Nat.le_of_ble_eq_true rfl)
  rw [lg_entry_eq]
  generalize (lg_sl ([.ref (cA L 3)]) ++ List.replicate (4 - (lg_sl ([.ref (cA L 3)])).length) Slot.unset).toArray = ls at hl ⊢
  have hl : lv_has ls 4 [(0, .ref (cA L 3))] := hl
  refine lv_iconst (v := 0) hx hb d_D_shortPairs_0 (by decide) ?_
  refine lv_istore_n (lv' := [(1, .int 0), (0, .ref (cA L 3))]) hx hb d_D_shortPairs_1 rfl hl (by decide) rfl (fun ls hl => ?_)
  refine lv_iconst (v := 0) hx hb d_D_shortPairs_2 (by decide) ?_
  refine lv_istore_n (lv' := [(2, .int 0), (1, .int 0), (0, .ref (cA L 3))]) hx hb d_D_shortPairs_3 rfl hl (by decide) rfl (fun ls hl => ?_)
  obtain ⟨n_9, h⟩ := h
  refine Wl_D_shortPairs_4 xc hP hK hN (hk := fun x_7 x_8 ls h hl => ?_) n_9 0 0 ls h (lv_sub hl [2, 1, 0] rfl)
  refine lv_iload_n hx hb d_D_shortPairs_35 rfl (lv_at hl 1 rfl) ?_
  exact W.iret hx hb hr (fun t ht _ => ⟨_, rfl, h, ht⟩) (fun _ h9 => nomatch h9) d_D_shortPairs_36
abbrev rm_D_openNets : Room := { frames := 1, cells := 0, slots := 0, locals := 20 }
set_option maxHeartbeats 4000000 in
set_option maxRecDepth 100000 in
theorem Wl_D_openNets_14 {p : Program} {l : Launch} {e : Env} {s : State} {m : MethodId} {args : Array Value} {below : List Frame} {meth : Method} {c : Code} {L : cL} {I : MI} {F : MF} {G : MG} {post : Int32 → Prop} {K : Int32 → Int32 → Prop} {a2 : Int32} (xc : xC p s m args meth c b_D_openNets 4 lwG qR3 (some .int)) (hP : va_P L.1 vwCl (WC L I F G) s.heap) (hK : va_K L.1 vwCl (cTys L) s) (hN : cNk s)
    (hk : ∀ (a1 : Int32) (a3 : Int32) (ls : Array Slot), K a1 a3 → lv_has ls 4 [(0, .ref (cA L 3)), (1, .int a1), (2, .int a2), (3, .int a3)] → W p l e rm_D_openNets s m args below meth c s.heap [] 0 0 (MQ below (vp_Si post) args s 0 0 (fun _ => False)) (F0 m 66 ls [])) :
    ∀ (n : Nat) (a1 : Int32) (a3 : Int32) (ls : Array Slot), wl_D_openNets_14 post K a2 I F G n a1 a3 → lv_has ls 4 [(0, .ref (cA L 3)), (1, .int a1), (2, .int a2), (3, .int a3)] → W p l e rm_D_openNets s m args below meth c s.heap [] 0 0 (MQ below (vp_Si post) args s 0 0 (fun _ => False)) (F0 m 14 ls []) := by
  obtain ⟨hx, hb, hml, hown, hts, hr, hlocks⟩ := id xc
  intro n
  induction n with
  | zero => intro a1 a3 ls h; exact absurd h id
  | succ n ih =>
    intro a1 a3 ls h hl
    refine lv_iload_n hx hb d_D_openNets_14 rfl (lv_at hl 3 rfl) ?_
    refine lv_iload_n hx hb d_D_openNets_15 rfl (lv_at hl 2 rfl) ?_
    refine lv_icmp_ge (tgt := 66) hx hb d_D_openNets_16 (by decide) (fun c_2 => ?_) (fun c_2 => ?_)
    · replace h := h.1 c_2
      exact hk a1 a3 ls h (lv_sub hl [0, 1, 2, 3] rfl)
    · replace h := h.2 c_2
      refine lv_aload_n hx hb d_D_openNets_19 rfl (lv_at hl 0 rfl) ?_
      refine va_get (D := L.1) (ci := 3) (v := .ref (cA L 22)) (C := qR3) (T := qT3) (N := 7) hx hb hts qi3 hown hK hP 3 rfl rfl 4 (by decide) (hts _ wG171) (fun _ h9 => h9) rfl d_D_openNets_20 ?_
      refine lv_iload_n hx hb d_D_openNets_23 rfl (lv_at hl 2 rfl) ?_
      obtain ⟨hi_3, h⟩ := h
      refine c_iald hx hb hK hP 12 (by decide) rfl hi_3 d_D_openNets_24 ?_
      refine lv_aload_n hx hb d_D_openNets_25 rfl (lv_at hl 0 rfl) ?_
      refine va_get (D := L.1) (ci := 3) (v := .ref (cA L 22)) (C := qR3) (T := qT3) (N := 7) hx hb hts qi3 hown hK hP 3 rfl rfl 4 (by decide) (hts _ wG171) (fun _ h9 => h9) rfl d_D_openNets_26 ?_
      refine lv_iload_n hx hb d_D_openNets_29 rfl (lv_at hl 3 rfl) ?_
      obtain ⟨hi_4, h⟩ := h
      refine c_iald hx hb hK hP 12 (by decide) rfl hi_4 d_D_openNets_30 ?_
      refine lv_icmp_ne (tgt := 60) hx hb d_D_openNets_31 (by decide) (fun c_5 => ?_) (fun c_5 => ?_)
      · replace h := h.1 c_5
        obtain ⟨x_6, ex_6⟩ : ∃ y : Int32, y = a3 + 1 := ⟨_, rfl⟩
        replace h := h x_6 ex_6
        refine lv_iinc (v := x_6) (lv' := [(3, .int x_6), (0, .ref (cA L 3)), (1, .int a1), (2, .int a2)]) hx hb d_D_openNets_60 hl (k := 3) rfl (by rw [ex_6]; rfl) (by decide) rfl (fun ls hl => ?_)
        refine lv_goto (tgt := 14) hx hb d_D_openNets_63 (by decide) ?_
        exact ih a1 x_6 ls h (lv_sub hl [1, 2, 3, 0] rfl)
      · replace h := h.2 c_5
        refine lv_aload_n hx hb d_D_openNets_34 rfl (lv_at hl 0 rfl) ?_
        refine va_get (D := L.1) (ci := 3) (v := .ref (cA L 23)) (C := qR3) (T := qT3) (N := 7) hx hb hts qi3 hown hK hP 3 rfl rfl 5 (by decide) (hts _ wG172) (fun _ h9 => h9) rfl d_D_openNets_35 ?_
        refine lv_iload_n hx hb d_D_openNets_38 rfl (lv_at hl 2 rfl) ?_
        obtain ⟨hi_7, h⟩ := h
        refine c_iald hx hb hK hP 13 (by decide) rfl hi_7 d_D_openNets_39 ?_
        refine lv_aload_n hx hb d_D_openNets_40 rfl (lv_at hl 0 rfl) ?_
        refine va_get (D := L.1) (ci := 3) (v := .ref (cA L 23)) (C := qR3) (T := qT3) (N := 7) hx hb hts qi3 hown hK hP 3 rfl rfl 5 (by decide) (hts _ wG172) (fun _ h9 => h9) rfl d_D_openNets_41 ?_
        refine lv_iload_n hx hb d_D_openNets_44 rfl (lv_at hl 3 rfl) ?_
        obtain ⟨hi_8, h⟩ := h
        refine c_iald hx hb hK hP 13 (by decide) rfl hi_8 d_D_openNets_45 ?_
        refine lv_icmp_eq (tgt := 60) hx hb d_D_openNets_46 (by decide) (fun c_9 => ?_) (fun c_9 => ?_)
        · replace h := h.1 c_9
          obtain ⟨x_10, ex_10⟩ : ∃ y : Int32, y = a3 + 1 := ⟨_, rfl⟩
          replace h := h x_10 ex_10
          refine lv_iinc (v := x_10) (lv' := [(3, .int x_10), (0, .ref (cA L 3)), (1, .int a1), (2, .int a2)]) hx hb d_D_openNets_60 hl (k := 3) rfl (by rw [ex_10]; rfl) (by decide) rfl (fun ls hl => ?_)
          refine lv_goto (tgt := 14) hx hb d_D_openNets_63 (by decide) ?_
          exact ih a1 x_10 ls h (lv_sub hl [1, 2, 3, 0] rfl)
        · replace h := h.2 c_9
          refine lv_iload_n hx hb d_D_openNets_49 rfl (lv_at hl 1 rfl) ?_
          refine lv_iconst (v := 1) hx hb d_D_openNets_50 (by decide) ?_
          refine lv_aload_n hx hb d_D_openNets_51 rfl (lv_at hl 0 rfl) ?_
          refine va_get (D := L.1) (ci := 3) (v := .ref (cA L 22)) (C := qR3) (T := qT3) (N := 7) hx hb hts qi3 hown hK hP 3 rfl rfl 4 (by decide) (hts _ wG171) (fun _ h9 => h9) rfl d_D_openNets_52 ?_
          refine lv_iload_n hx hb d_D_openNets_55 rfl (lv_at hl 2 rfl) ?_
          obtain ⟨hi_11, h⟩ := h
          refine c_iald hx hb hK hP 12 (by decide) rfl hi_11 d_D_openNets_56 ?_
          refine lv_ishl hx hb d_D_openNets_57 ?_
          refine lv_ior hx hb d_D_openNets_58 ?_
          refine lv_topi (fun x_12 ex_12 => ?_)
          replace h := h x_12 ex_12
          refine lv_istore_n (lv' := [(1, .int x_12), (0, .ref (cA L 3)), (2, .int a2), (3, .int a3)]) hx hb d_D_openNets_59 rfl hl (by decide) rfl (fun ls hl => ?_)
          obtain ⟨x_13, ex_13⟩ : ∃ y : Int32, y = a3 + 1 := ⟨_, rfl⟩
          replace h := h x_13 ex_13
          refine lv_iinc (v := x_13) (lv' := [(3, .int x_13), (1, .int x_12), (0, .ref (cA L 3)), (2, .int a2)]) hx hb d_D_openNets_60 hl (k := 3) rfl (by rw [ex_13]; rfl) (by decide) rfl (fun ls hl => ?_)
          refine lv_goto (tgt := 14) hx hb d_D_openNets_63 (by decide) ?_
          exact ih x_12 x_13 ls h (lv_sub hl [2, 1, 3, 0] rfl)
set_option maxHeartbeats 4000000 in
set_option maxRecDepth 100000 in
theorem Wl_D_openNets_4 {p : Program} {l : Launch} {e : Env} {s : State} {m : MethodId} {args : Array Value} {below : List Frame} {meth : Method} {c : Code} {L : cL} {I : MI} {F : MF} {G : MG} {post : Int32 → Prop} {K : Int32 → Int32 → Prop} (xc : xC p s m args meth c b_D_openNets 4 lwG qR3 (some .int)) (hP : va_P L.1 vwCl (WC L I F G) s.heap) (hK : va_K L.1 vwCl (cTys L) s) (hN : cNk s)
    (hk : ∀ (a1 : Int32) (a2 : Int32) (ls : Array Slot), K a1 a2 → lv_has ls 4 [(0, .ref (cA L 3)), (1, .int a1), (2, .int a2)] → W p l e rm_D_openNets s m args below meth c s.heap [] 0 0 (MQ below (vp_Si post) args s 0 0 (fun _ => False)) (F0 m 72 ls [])) :
    ∀ (n : Nat) (a1 : Int32) (a2 : Int32) (ls : Array Slot), wl_D_openNets_4 post K I F G n a1 a2 → lv_has ls 4 [(0, .ref (cA L 3)), (1, .int a1), (2, .int a2)] → W p l e rm_D_openNets s m args below meth c s.heap [] 0 0 (MQ below (vp_Si post) args s 0 0 (fun _ => False)) (F0 m 4 ls []) := by
  obtain ⟨hx, hb, hml, hown, hts, hr, hlocks⟩ := id xc
  intro n
  induction n with
  | zero => intro a1 a2 ls h; exact absurd h id
  | succ n ih =>
    intro a1 a2 ls h hl
    refine lv_iload_n hx hb d_D_openNets_4 rfl (lv_at hl 2 rfl) ?_
    refine lv_aload_n hx hb d_D_openNets_5 rfl (lv_at hl 0 rfl) ?_
    refine va_get (D := L.1) (ci := 3) (v := .int (I 3)) (C := qR3) (T := qT3) (N := 7) hx hb hts qi3 hown hK hP 3 rfl rfl 6 (by decide) (hts _ wG173) (fun _ h9 => h9) rfl d_D_openNets_6 ?_
    refine lv_icmp_ge (tgt := 72) hx hb d_D_openNets_9 (by decide) (fun c_1 => ?_) (fun c_1 => ?_)
    · replace h := h.1 c_1
      exact hk a1 a2 ls h (lv_sub hl [0, 1, 2] rfl)
    · replace h := h.2 c_1
      refine lv_iconst (v := 0) hx hb d_D_openNets_12 (by decide) ?_
      refine lv_istore_n (lv' := [(3, .int 0), (0, .ref (cA L 3)), (1, .int a1), (2, .int a2)]) hx hb d_D_openNets_13 rfl hl (by decide) rfl (fun ls hl => ?_)
      obtain ⟨n_17, h⟩ := h
      refine Wl_D_openNets_14 xc hP hK hN (hk := fun x_14 x_15 ls h hl => ?_) n_17 a1 0 ls h (lv_sub hl [1, 2, 3, 0] rfl)
      obtain ⟨x_16, ex_16⟩ : ∃ y : Int32, y = a2 + 1 := ⟨_, rfl⟩
      replace h := h x_16 ex_16
      refine lv_iinc (v := x_16) (lv' := [(2, .int x_16), (0, .ref (cA L 3)), (1, .int x_14), (3, .int x_15)]) hx hb d_D_openNets_66 hl (k := 2) rfl (by rw [ex_16]; rfl) (by decide) rfl (fun ls hl => ?_)
      refine lv_goto (tgt := 4) hx hb d_D_openNets_69 (by decide) ?_
      exact ih x_14 x_16 ls h (lv_sub hl [1, 2, 0] rfl)
set_option maxHeartbeats 4000000 in
set_option maxRecDepth 100000 in
theorem c_D_openNets (l : Launch) (L : cL) (I : MI) (F : MF) (G : MG) (post : Int32 → Prop) (h : wp_D_openNets I F G post) : Met l y_D_openNets (.code y_D_openNets b_D_openNets 4 (some .int) :: lwG) rm_D_openNets (cPc L I F G [.ref (cA L 3)]) (vp_Si post) 0 0 (fun _ => False) := by
  refine Met.ofW (cc := b_D_openNets) (maxL := 4) (ret := (some .int)) (by decide) rfl ?_
  intro p e s m args below meth c s₁ B hml hv
  obtain ⟨rfl, hP, hK, hN⟩ := hv
  have xc : xC p s m _ meth c b_D_openNets 4 lwG qR3 (some .int) := ⟨B.exec, B.bytes, hml, findClass_of_methodNamed B.named, fun w h => atoms_spec (ws := (.code y_D_openNets b_D_openNets 4 (some .int) :: lwG)) B.pre w (List.mem_cons_of_mem _ h), B.returns, B.notSynchronized⟩
  obtain ⟨hx, hb, hml, hown, hts, hr, hlocks⟩ := id xc
  have hl := lv_entry ([.ref (cA L 3)]) (n := 4) (Nat.le_of_ble_eq_true rfl)
  rw [lg_entry_eq]
  generalize (lg_sl ([.ref (cA L 3)]) ++ List.replicate (4 - (lg_sl ([.ref (cA L 3)])).length) Slot.unset).toArray = ls at hl ⊢
  have hl : lv_has ls 4 [(0, .ref (cA L 3))] := hl
  refine lv_iconst (v := 0) hx hb d_D_openNets_0 (by decide) ?_
  refine lv_istore_n (lv' := [(1, .int 0), (0, .ref (cA L 3))]) hx hb d_D_openNets_1 rfl hl (by decide) rfl (fun ls hl => ?_)
  refine lv_iconst (v := 0) hx hb d_D_openNets_2 (by decide) ?_
  refine lv_istore_n (lv' := [(2, .int 0), (1, .int 0), (0, .ref (cA L 3))]) hx hb d_D_openNets_3 rfl hl (by decide) rfl (fun ls hl => ?_)
  obtain ⟨n_21, h⟩ := h
  refine Wl_D_openNets_4 xc hP hK hN (hk := fun x_18 x_19 ls h hl => ?_) n_21 0 0 ls h (lv_sub hl [2, 1, 0] rfl)
  refine lv_iload_n hx hb d_D_openNets_72 rfl (lv_at hl 1 rfl) ?_
  refine vp_callSi (va_runS (As := [.int x_18]) (rest := []) ⟨hx, hb, hml, hown, hts⟩ (c_JI_bitCount l x_18 _ h) (va_cwS 1 hts (gS wG610 wG611 wG63 wG612) rfl rfl rfl (by decide +kernel) ⟨Nat.le_of_ble_eq_true rfl, Nat.le_of_ble_eq_true rfl⟩) ⟨sPc_blind _, fun U hU hW => ⟨rfl, trivial⟩⟩ rfl rfl hl.1 rfl (lv_room (Nat.le_of_ble_eq_true rfl)) d_D_openNets_73 ⟨Nat.le_of_ble_eq_true rfl, Nat.le_of_ble_eq_true rfl⟩).run (fun r_20 h => ?_)
  exact W.iret hx hb hr (fun t ht _ => ⟨_, rfl, h, ht⟩) (fun _ h9 => nomatch h9) d_D_openNets_76
