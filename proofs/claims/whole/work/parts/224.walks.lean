abbrev rm_F_route : Room := { frames := 7, cells := 1, slots := 6, locals := 159 }
set_option maxHeartbeats 4000000 in
set_option maxRecDepth 100000 in
theorem c_F_route (l : Launch) (L : cL) (hst : l.stackTraces = false) (I : MI) (F : MF) (G : MG) (sz : Nat) (post : Int32 → MI → MF → MG → Prop) (thr : String → MI → MF → MG → Prop) (h : wp_F_route I F G post thr) : tx_Met l y_F_route (.code y_F_route b_F_route 1 (some .int) :: lwG) rm_F_route (cPx L I F G sz [.ref (cA L 0)]) (cRi L (cAA L I F G sz) post (cAA L I F G sz)) (cX L (cAA L I F G sz) thr (cAA L I F G sz)) 1 6 (cAA L I F G sz) := by
  refine tx_ofW (cc := b_F_route) (maxL := 1) (ret := (some .int)) (by decide) rfl ?_
  intro p e s m args below meth c s₁ B hml hnt hv
  obtain ⟨rfl, hsz, hP, hK, hD0, hN, hz, hsr⟩ := hv
  have xc : xC p s m _ meth c b_F_route 1 lwG qR0 (some .int) := ⟨B.exec, B.bytes, hml, findClass_of_methodNamed B.named, fun w h => atoms_spec (ws := (.code y_F_route b_F_route 1 (some .int) :: lwG)) B.pre w (List.mem_cons_of_mem _ h), B.returns, B.notSynchronized⟩
  obtain ⟨hx, hb, hml, hown, hts, hr, hlocks⟩ := id xc
  subst hsz
  have hD : va_D (cAA L I F G s.heap.size) (WC L I F G) := hD0.self
  have hA0 : ∀ q : Nat, s.heap.size ≤ q → cAA L I F G s.heap.size q := fun q h => Or.inr h
  generalize cAA L I F G s.heap.size = A at hD hA0 hz ⊢
  have hA := hA0
  have hw : CW L A s.heap I F G s.heap [] := ⟨hP, hD, va_S.rf⟩
  have hl := lv_entry ([.ref (cA L 0)]) (n := 1) (Nat.le_of_ble_eq_true rfl)
  rw [lg_entry_eq]
  generalize (lg_sl ([.ref (cA L 0)]) ++ List.replicate (1 - (lg_sl ([.ref (cA L 0)])).length) Slot.unset).toArray = ls at hl ⊢
  have hl : lv_has ls 1 [(0, .ref (cA L 0))] := hl
  refine lv_aload_n hx hb d_F_route_0 rfl (lv_at hl 0 rfl) ?_
  refine lv_iconst (v := 0) hx hb d_F_route_1 (by decide) ?_
  refine va_put (D := L.1) (ci := 0) (v := .int 0) (ty := .boolean) (C := qR0) (T := qT0) (N := 5) hx hb hts qi0 qy0 qk0 qn0 hown hK hw.1 hw.2.1 hw.2.2 0 rfl rfl 4 (by decide) (hts _ wG223) (fun _ h9 => h9) rfl (by decide +kernel) rfl rfl (Nat.le_of_ble_eq_true rfl) d_F_route_2 (fun H locs h1 h2 h3 => ?_)
  replace hw : CW L A s.heap (setI I 0 0) F G H locs := ⟨h1, h2, h3⟩
  clear h1 h2 h3
  obtain ⟨I_1, eI_1⟩ : ∃ y : MI, y = setI I 0 0 := ⟨_, rfl⟩
  rw [← eI_1] at hw
  replace h := h I_1 eI_1
  refine lv_aload_n hx hb d_F_route_5 rfl (lv_at hl 0 rfl) ?_
  refine va_get (D := L.1) (ci := 0) (v := .ref (cA L 2)) (C := qR0) (T := qT0) (N := 5) hx hb hts qi0 hown hK hw.1 0 rfl rfl 1 (by decide) (hts _ wG220) (fun _ h9 => h9) rfl d_F_route_6 ?_
  refine c_callXv (tx_runV (As := []) (rest := []) ⟨hx, hb, hml, hown, hts⟩ (c_C_assignTracks l L hst I_1 F G _ _ _ h) (cwV 0 hts (gV wG376 wG377 wG378 wG51 wG379) rfl rfl rfl (by decide +kernel) ⟨Nat.le_of_ble_eq_true rfl, Nat.le_of_ble_eq_true rfl⟩) (cPrx2 hK hN hw hA hz hsr) rfl rfl hl.1 rfl (lv_room (Nat.le_of_ble_eq_true rfl)) d_F_route_9 ⟨Nat.le_of_ble_eq_true rfl, Nat.le_of_ble_eq_true rfl⟩) hw hA hK hnt hlocks (Nat.le_of_ble_eq_true rfl) (Nat.le_of_ble_eq_true rfl) (fun I_2 F_2 G_2 H locs h hw => ?_)
  refine lv_aload_n hx hb d_F_route_12 rfl (lv_at hl 0 rfl) ?_
  refine va_get (D := L.1) (ci := 0) (v := .ref (cA L 3)) (C := qR0) (T := qT0) (N := 5) hx hb hts qi0 hown hK hw.1 0 rfl rfl 2 (by decide) (hts _ wG221) (fun _ h9 => h9) rfl d_F_route_13 ?_
  refine c_callv (va_runV (As := []) (rest := []) ⟨hx, hb, hml, hown, hts⟩ (c_D_draw l L I_2 F_2 G_2 _ _ h) (cwV 0 hts (gV wG437 wG438 wG439 wG52 wG440) rfl rfl rfl (by decide +kernel) ⟨Nat.le_of_ble_eq_true rfl, Nat.le_of_ble_eq_true rfl⟩) (cPrm3 hK hN hw) rfl rfl hl.1 rfl (lv_room (Nat.le_of_ble_eq_true rfl)) d_F_route_16 ⟨Nat.le_of_ble_eq_true rfl, Nat.le_of_ble_eq_true rfl⟩) hw hA (fun I_3 F_3 G_3 H locs h hw => ?_)
  refine lv_aload_n hx hb d_F_route_19 rfl (lv_at hl 0 rfl) ?_
  refine lv_iconst (v := 1) hx hb d_F_route_20 (by decide) ?_
  refine va_put (D := L.1) (ci := 0) (v := .int 1) (ty := .boolean) (C := qR0) (T := qT0) (N := 5) hx hb hts qi0 qy0 qk0 qn0 hown hK hw.1 hw.2.1 hw.2.2 0 rfl rfl 4 (by decide) (hts _ wG223) (fun _ h9 => h9) rfl (by decide +kernel) rfl rfl (Nat.le_of_ble_eq_true rfl) d_F_route_21 (fun H locs h1 h2 h3 => ?_)
  replace hw : CW L A s.heap (setI I_3 0 1) F_3 G_3 H locs := ⟨h1, h2, h3⟩
  clear h1 h2 h3
  obtain ⟨I_4, eI_4⟩ : ∃ y : MI, y = setI I_3 0 1 := ⟨_, rfl⟩
  rw [← eI_4] at hw
  replace h := h I_4 eI_4
  refine lv_aload_n hx hb d_F_route_24 rfl (lv_at hl 0 rfl) ?_
  refine va_get (D := L.1) (ci := 0) (v := .ref (cA L 2)) (C := qR0) (T := qT0) (N := 5) hx hb hts qi0 hown hK hw.1 0 rfl rfl 1 (by decide) (hts _ wG220) (fun _ h9 => h9) rfl d_F_route_25 ?_
  refine va_get (D := L.1) (ci := 2) (v := .int (I_4 2)) (C := qR2) (T := qT2) (N := 3) hx hb hts qi2 hown hK hw.1 2 rfl rfl 1 (by decide) (hts _ wG147) (fun _ h9 => h9) rfl d_F_route_28 ?_
  refine W.widen (k := 1) (n := 6) (Nat.le_of_ble_eq_true rfl) (Nat.le_of_ble_eq_true rfl) ?_
  refine tx_ret ?_
  exact W.iret hx hb hr (fun t ht hW => ⟨⟨_, (I_4, F_3, G_3), rfl, ⟨_, rfl, h⟩, by rw [ht]; exact hw.1, va_K.moved hW.alike hK, hw.2.1⟩, hw.2.2.F ht⟩) hw.2.2.2.2 d_F_route_31
abbrev rm_N_hasPin : Room := { frames := 2, cells := 0, slots := 0, locals := 40 }
set_option maxHeartbeats 4000000 in
set_option maxRecDepth 100000 in
theorem c_N_hasPin (l : Launch) (L : cL) (a1 : Int32) (a2 : Int32) (I : MI) (F : MF) (G : MG) (post : Int32 → Prop) (h : wp_N_hasPin a1 a2 I F G post) : Met l y_N_hasPin (.code y_N_hasPin b_N_hasPin 3 (some .boolean) :: lwG) rm_N_hasPin (cPc L I F G [.ref (cA L 1), .int a1, .int a2]) (vp_Si post) 0 0 (fun _ => False) := by
  refine Met.ofW (cc := b_N_hasPin) (maxL := 3) (ret := (some .boolean)) (by decide) rfl ?_
  intro p e s m args below meth c s₁ B hml hv
  obtain ⟨rfl, hP, hK, hN⟩ := hv
  have xc : xC p s m _ meth c b_N_hasPin 3 lwG qR1 (some .boolean) := ⟨B.exec, B.bytes, hml, findClass_of_methodNamed B.named, fun w h => atoms_spec (ws := (.code y_N_hasPin b_N_hasPin 3 (some .boolean) :: lwG)) B.pre w (List.mem_cons_of_mem _ h), B.returns, B.notSynchronized⟩
  obtain ⟨hx, hb, hml, hown, hts, hr, hlocks⟩ := id xc
  have hl := lv_entry ([.ref (cA L 1), .int a1, .int a2]) (n := 3) (Nat.le_of_ble_eq_true rfl)
  rw [lg_entry_eq]
  generalize (lg_sl ([.ref (cA L 1), .int a1, .int a2]) ++ List.replicate (3 - (lg_sl ([.ref (cA L 1), .int a1, .int a2])).length) Slot.unset).toArray = ls at hl ⊢
  have hl : lv_has ls 3 [(0, .ref (cA L 1)), (1, .int a1), (2, .int a2)] := hl
  refine lv_iload_n hx hb d_N_hasPin_0 rfl (lv_at hl 1 rfl) ?_
  refine lv_aload_n hx hb d_N_hasPin_1 rfl (lv_at hl 0 rfl) ?_
  refine va_get (D := L.1) (ci := 1) (v := .int (I 1)) (C := qR1) (T := qT1) (N := 13) hx hb hts qi1 hown hK hP 1 rfl rfl 0 (by decide) (hts _ wG88) (fun _ h9 => h9) rfl d_N_hasPin_2 ?_
  refine vp_callSi (va_runSN (As := [.int a1, .int (I 1)]) (rest := []) ⟨hx, hb, hml, hown, hts⟩ (c_F_within l a1 (I 1) _ h) ⟨va_cnB 2 hts (gC wG251) rfl rfl rfl (hN.2.2) (hts _ wG48) (by decide +kernel) ⟨Nat.le_of_ble_eq_true rfl, Nat.le_of_ble_eq_true rfl⟩, hts _ wG250, trivial⟩ ⟨sPc_blind _, fun U hU hW => ⟨rfl, trivial⟩⟩ rfl rfl hl.1 rfl (lv_room (Nat.le_of_ble_eq_true rfl)) d_N_hasPin_5 ⟨Nat.le_of_ble_eq_true rfl, Nat.le_of_ble_eq_true rfl⟩).run (fun r_1 h => ?_)
  refine lv_if_eq (tgt := 31) hx hb d_N_hasPin_8 (by decide) (fun c_2 => ?_) (fun c_2 => ?_)
  · replace h := h.1 c_2
    refine lv_iconst (v := 0) hx hb d_N_hasPin_31 (by decide) ?_
    exact W.zret hx hb hr rfl (fun t ht _ => ⟨_, rfl, h, ht⟩) (fun _ h9 => nomatch h9) d_N_hasPin_32
  · replace h := h.2 c_2
    refine lv_iload_n hx hb d_N_hasPin_11 rfl (lv_at hl 2 rfl) ?_
    refine lv_aload_n hx hb d_N_hasPin_12 rfl (lv_at hl 0 rfl) ?_
    refine va_get (D := L.1) (ci := 1) (v := .ref (cA L 10)) (C := qR1) (T := qT1) (N := 13) hx hb hts qi1 hown hK hP 1 rfl rfl 1 (by decide) (hts _ wG91) (fun _ h9 => h9) rfl d_N_hasPin_13 ?_
    refine lv_iload_n hx hb d_N_hasPin_16 rfl (lv_at hl 1 rfl) ?_
    obtain ⟨hi_3, h⟩ := h
    refine c_iald hx hb hK hP 0 (by decide) rfl hi_3 d_N_hasPin_17 ?_
    refine vp_callSi (va_runSN (As := [.int (F 0 a1.toNatClampNeg)]) (rest := [.int a2]) ⟨hx, hb, hml, hown, hts⟩ (c_F_pinsOfKind l (F 0 a1.toNatClampNeg) _ h) ⟨va_cnB 1 hts (gC wG332) rfl rfl rfl (hN.1) (hts _ wG48) (by decide +kernel) ⟨Nat.le_of_ble_eq_true rfl, Nat.le_of_ble_eq_true rfl⟩, hts _ wG331, trivial⟩ ⟨sPc_blind _, fun U hU hW => ⟨rfl, trivial⟩⟩ rfl rfl hl.1 rfl (lv_room (Nat.le_of_ble_eq_true rfl)) d_N_hasPin_18 ⟨Nat.le_of_ble_eq_true rfl, Nat.le_of_ble_eq_true rfl⟩).run (fun r_4 h => ?_)
    refine vp_callSi (va_runSN (As := [.int a2, .int r_4]) (rest := []) ⟨hx, hb, hml, hown, hts⟩ (c_F_within l a2 r_4 _ h) ⟨va_cnB 2 hts (gC wG251) rfl rfl rfl (hN.2.2) (hts _ wG48) (by decide +kernel) ⟨Nat.le_of_ble_eq_true rfl, Nat.le_of_ble_eq_true rfl⟩, hts _ wG250, trivial⟩ ⟨sPc_blind _, fun U hU hW => ⟨rfl, trivial⟩⟩ rfl rfl hl.1 rfl (lv_room (Nat.le_of_ble_eq_true rfl)) d_N_hasPin_21 ⟨Nat.le_of_ble_eq_true rfl, Nat.le_of_ble_eq_true rfl⟩).run (fun r_5 h => ?_)
    refine lv_if_eq (tgt := 31) hx hb d_N_hasPin_24 (by decide) (fun c_6 => ?_) (fun c_6 => ?_)
    · replace h := h.1 c_6
      refine lv_iconst (v := 0) hx hb d_N_hasPin_31 (by decide) ?_
      exact W.zret hx hb hr rfl (fun t ht _ => ⟨_, rfl, h, ht⟩) (fun _ h9 => nomatch h9) d_N_hasPin_32
    · replace h := h.2 c_6
      refine lv_iconst (v := 1) hx hb d_N_hasPin_27 (by decide) ?_
      refine lv_goto (tgt := 32) hx hb d_N_hasPin_28 (by decide) ?_
      exact W.zret hx hb hr rfl (fun t ht _ => ⟨_, rfl, h, ht⟩) (fun _ h9 => nomatch h9) d_N_hasPin_32
abbrev rm_F_needPin : Room := { frames := 6, cells := 1, slots := 6, locals := 96 }
set_option maxHeartbeats 4000000 in
set_option maxRecDepth 100000 in
theorem c_F_needPin (l : Launch) (L : cL) (hst : l.stackTraces = false) (a1 : Int32) (a2 : Int32) (I : MI) (F : MF) (G : MG) (sz : Nat) (post : MI → MF → MG → Prop) (thr : String → MI → MF → MG → Prop) (h : wp_F_needPin a1 a2 I F G post thr) : tx_Met l y_F_needPin (.code y_F_needPin b_F_needPin 3 (none) :: lwG) rm_F_needPin (cPx L I F G sz [.ref (cA L 0), .int a1, .int a2]) (cRv L (cAA L I F G sz) post (cAA L I F G sz)) (cX L (cAA L I F G sz) thr (cAA L I F G sz)) 1 6 (cAA L I F G sz) := by
  refine tx_ofW (cc := b_F_needPin) (maxL := 3) (ret := (none)) (by decide) rfl ?_
  intro p e s m args below meth c s₁ B hml hnt hv
  obtain ⟨rfl, hsz, hP, hK, hD0, hN, hz, hsr⟩ := hv
  have xc : xC p s m _ meth c b_F_needPin 3 lwG qR0 (none) := ⟨B.exec, B.bytes, hml, findClass_of_methodNamed B.named, fun w h => atoms_spec (ws := (.code y_F_needPin b_F_needPin 3 (none) :: lwG)) B.pre w (List.mem_cons_of_mem _ h), B.returns, B.notSynchronized⟩
  obtain ⟨hx, hb, hml, hown, hts, hr, hlocks⟩ := id xc
  subst hsz
  have hD : va_D (cAA L I F G s.heap.size) (WC L I F G) := hD0.self
  have hA0 : ∀ q : Nat, s.heap.size ≤ q → cAA L I F G s.heap.size q := fun q h => Or.inr h
  generalize cAA L I F G s.heap.size = A at hD hA0 hz ⊢
  have hA := hA0
  have hw : CW L A s.heap I F G s.heap [] := ⟨hP, hD, va_S.rf⟩
  have hl := lv_entry ([.ref (cA L 0), .int a1, .int a2]) (n := 3) (Nat.le_of_ble_eq_true rfl)
  rw [lg_entry_eq]
  generalize (lg_sl ([.ref (cA L 0), .int a1, .int a2]) ++ List.replicate (3 - (lg_sl ([.ref (cA L 0), .int a1, .int a2])).length) Slot.unset).toArray = ls at hl ⊢
  have hl : lv_has ls 3 [(0, .ref (cA L 0)), (1, .int a1), (2, .int a2)] := hl
  refine lv_aload_n hx hb d_F_needPin_0 rfl (lv_at hl 0 rfl) ?_
  refine va_get (D := L.1) (ci := 0) (v := .ref (cA L 1)) (C := qR0) (T := qT0) (N := 5) hx hb hts qi0 hown hK hw.1 0 rfl rfl 0 (by decide) (hts _ wG219) (fun _ h9 => h9) rfl d_F_needPin_1 ?_
  refine lv_iload_n hx hb d_F_needPin_4 rfl (lv_at hl 1 rfl) ?_
  refine lv_iload_n hx hb d_F_needPin_5 rfl (lv_at hl 2 rfl) ?_
  refine vp_callSi (va_runV (As := [.int a1, .int a2]) (rest := []) ⟨hx, hb, hml, hown, hts⟩ (c_N_hasPin l L a1 a2 I F G _ h) (cwV 2 hts (gV wG464 wG465 wG466 wG49 wG467) rfl rfl rfl (by decide +kernel) ⟨Nat.le_of_ble_eq_true rfl, Nat.le_of_ble_eq_true rfl⟩) (cPre1 hK hN hw.1) rfl rfl hl.1 rfl (lv_room (Nat.le_of_ble_eq_true rfl)) d_F_needPin_6 ⟨Nat.le_of_ble_eq_true rfl, Nat.le_of_ble_eq_true rfl⟩).run (fun r_1 h => ?_)
  refine lv_if_ne (tgt := 22) hx hb d_F_needPin_9 (by decide) (fun c_2 => ?_) (fun c_2 => ?_)
  · replace h := h.1 c_2
    refine W.widen (k := 1) (n := 6) (Nat.le_of_ble_eq_true rfl) (Nat.le_of_ble_eq_true rfl) ?_
    refine tx_ret ?_
    exact W.vret hx hb hr (fun t ht hW => ⟨⟨_, (I, F, G), rfl, ⟨rfl, h⟩, by rw [ht]; exact hw.1, va_K.moved hW.alike hK, hw.2.1⟩, hw.2.2.F ht⟩) hw.2.2.2.2 d_F_needPin_22
  · replace h := h.2 c_2
    obtain ⟨sa, hsa⟩ := hsr.1 (qR0, 210, "no such pin") (by decide +kernel)
    exact tx_throwS (Ts := lwH) hx hb hst hown (cHts hts hsr.2) hz hw.2.2 (by decide +kernel) (by decide +kernel) th_F_208_212 hsa (hl.1.trans hml.symm) d_F_needPin_12 d_F_needPin_15 d_F_needPin_16 d_F_needPin_18 d_F_needPin_21 hnt (Nat.le_of_ble_eq_true rfl) (Nat.le_of_ble_eq_true rfl) (Nat.le_of_ble_eq_true rfl) (Nat.le_of_ble_eq_true rfl) hlocks (cX_of hw hK h) hw.2.2.2.2 (Nat.le_of_ble_eq_true rfl) (Nat.le_of_ble_eq_true rfl)
abbrev rm_N_pinColumn : Room := { frames := 0, cells := 0, slots := 0, locals := 0 }
set_option maxHeartbeats 4000000 in
set_option maxRecDepth 100000 in
theorem c_N_pinColumn (l : Launch) (L : cL) (a1 : Int32) (a2 : Int32) (I : MI) (F : MF) (G : MG) (post : Int32 → Prop) (h : wp_N_pinColumn a1 a2 I F G post) : Met l y_N_pinColumn (.code y_N_pinColumn b_N_pinColumn 3 (some .int) :: lwG) rm_N_pinColumn (cPc L I F G [.ref (cA L 1), .int a1, .int a2]) (vp_Si post) 0 0 (fun _ => False) := by
  refine Met.ofW (cc := b_N_pinColumn) (maxL := 3) (ret := (some .int)) (by decide) rfl ?_
  intro p e s m args below meth c s₁ B hml hv
  obtain ⟨rfl, hP, hK, hN⟩ := hv
  have xc : xC p s m _ meth c b_N_pinColumn 3 lwG qR1 (some .int) := ⟨B.exec, B.bytes, hml, findClass_of_methodNamed B.named, fun w h => atoms_spec (ws := (.code y_N_pinColumn b_N_pinColumn 3 (some .int) :: lwG)) B.pre w (List.mem_cons_of_mem _ h), B.returns, B.notSynchronized⟩
  obtain ⟨hx, hb, hml, hown, hts, hr, hlocks⟩ := id xc
  have hl := lv_entry ([.ref (cA L 1), .int a1, .int a2]) (n := 3) (Nat.le_of_ble_eq_true rfl)
  rw [lg_entry_eq]
  generalize (lg_sl ([.ref (cA L 1), .int a1, .int a2]) ++ List.replicate (3 - (lg_sl ([.ref (cA L 1), .int a1, .int a2])).length) Slot.unset).toArray = ls at hl ⊢
  have hl : lv_has ls 3 [(0, .ref (cA L 1)), (1, .int a1), (2, .int a2)] := hl
  refine lv_aload_n hx hb d_N_pinColumn_0 rfl (lv_at hl 0 rfl) ?_
  refine va_get (D := L.1) (ci := 1) (v := .ref (cA L 15)) (C := qR1) (T := qT1) (N := 13) hx hb hts qi1 hown hK hP 1 rfl rfl 6 (by decide) (hts _ wG101) (fun _ h9 => h9) rfl d_N_pinColumn_1 ?_
  refine lv_iload_n hx hb d_N_pinColumn_4 rfl (lv_at hl 1 rfl) ?_
  obtain ⟨hi_1, h⟩ := h
  refine c_iald hx hb hK hP 5 (by decide) rfl hi_1 d_N_pinColumn_5 ?_
  refine lv_iload_n hx hb d_N_pinColumn_6 rfl (lv_at hl 2 rfl) ?_
  refine lv_iadd hx hb d_N_pinColumn_7 ?_
  exact W.iret hx hb hr (fun t ht _ => ⟨_, rfl, h, ht⟩) (fun _ h9 => nomatch h9) d_N_pinColumn_8
abbrev rm_F_column : Room := { frames := 7, cells := 1, slots := 6, locals := 118 }
set_option maxHeartbeats 4000000 in
set_option maxRecDepth 100000 in
theorem c_F_column (l : Launch) (L : cL) (hst : l.stackTraces = false) (a1 : Int32) (a2 : Int32) (I : MI) (F : MF) (G : MG) (sz : Nat) (post : Int32 → MI → MF → MG → Prop) (thr : String → MI → MF → MG → Prop) (h : wp_F_column a1 a2 I F G post thr) : tx_Met l y_F_column (.code y_F_column b_F_column 3 (some .int) :: lwG) rm_F_column (cPx L I F G sz [.ref (cA L 0), .int a1, .int a2]) (cRi L (cAA L I F G sz) post (cAA L I F G sz)) (cX L (cAA L I F G sz) thr (cAA L I F G sz)) 1 6 (cAA L I F G sz) := by
  refine tx_ofW (cc := b_F_column) (maxL := 3) (ret := (some .int)) (by decide) rfl ?_
  intro p e s m args below meth c s₁ B hml hnt hv
  obtain ⟨rfl, hsz, hP, hK, hD0, hN, hz, hsr⟩ := hv
  have xc : xC p s m _ meth c b_F_column 3 lwG qR0 (some .int) := ⟨B.exec, B.bytes, hml, findClass_of_methodNamed B.named, fun w h => atoms_spec (ws := (.code y_F_column b_F_column 3 (some .int) :: lwG)) B.pre w (List.mem_cons_of_mem _ h), B.returns, B.notSynchronized⟩
  obtain ⟨hx, hb, hml, hown, hts, hr, hlocks⟩ := id xc
  subst hsz
  have hD : va_D (cAA L I F G s.heap.size) (WC L I F G) := hD0.self
  have hA0 : ∀ q : Nat, s.heap.size ≤ q → cAA L I F G s.heap.size q := fun q h => Or.inr h
  generalize cAA L I F G s.heap.size = A at hD hA0 hz ⊢
  have hA := hA0
  have hw : CW L A s.heap I F G s.heap [] := ⟨hP, hD, va_S.rf⟩
  have hl := lv_entry ([.ref (cA L 0), .int a1, .int a2]) (n := 3) (Nat.le_of_ble_eq_true rfl)
  rw [lg_entry_eq]
  generalize (lg_sl ([.ref (cA L 0), .int a1, .int a2]) ++ List.replicate (3 - (lg_sl ([.ref (cA L 0), .int a1, .int a2])).length) Slot.unset).toArray = ls at hl ⊢
  have hl : lv_has ls 3 [(0, .ref (cA L 0)), (1, .int a1), (2, .int a2)] := hl
  refine lv_aload_n hx hb d_F_column_0 rfl (lv_at hl 0 rfl) ?_
  refine lv_iload_n hx hb d_F_column_1 rfl (lv_at hl 1 rfl) ?_
  refine lv_iload_n hx hb d_F_column_2 rfl (lv_at hl 2 rfl) ?_
  refine c_callXv (tx_runV (As := [.int a1, .int a2]) (rest := []) ⟨hx, hb, hml, hown, hts⟩ (c_F_needPin l L hst a1 a2 I F G _ _ _ h) (cwV 2 hts (gV wG460 wG462 wG6 wG48 wG463) rfl rfl rfl (by decide +kernel) ⟨Nat.le_of_ble_eq_true rfl, Nat.le_of_ble_eq_true rfl⟩) (cPrx0 hK hN hw hA hz hsr) rfl rfl hl.1 rfl (lv_room (Nat.le_of_ble_eq_true rfl)) d_F_column_3 ⟨Nat.le_of_ble_eq_true rfl, Nat.le_of_ble_eq_true rfl⟩) hw hA hK hnt hlocks (Nat.le_of_ble_eq_true rfl) (Nat.le_of_ble_eq_true rfl) (fun I_1 F_1 G_1 H locs h hw => ?_)
  refine lv_aload_n hx hb d_F_column_6 rfl (lv_at hl 0 rfl) ?_
  refine va_get (D := L.1) (ci := 0) (v := .ref (cA L 1)) (C := qR0) (T := qT0) (N := 5) hx hb hts qi0 hown hK hw.1 0 rfl rfl 0 (by decide) (hts _ wG219) (fun _ h9 => h9) rfl d_F_column_7 ?_
  refine lv_iload_n hx hb d_F_column_10 rfl (lv_at hl 1 rfl) ?_
  refine lv_iload_n hx hb d_F_column_11 rfl (lv_at hl 2 rfl) ?_
  refine vp_callSi (va_runV (As := [.int a1, .int a2]) (rest := []) ⟨hx, hb, hml, hown, hts⟩ (c_N_pinColumn l L a1 a2 I_1 F_1 G_1 _ h) (cwV 2 hts (gV wG485 wG486 wG487 wG49 wG488) rfl rfl rfl (by decide +kernel) ⟨Nat.le_of_ble_eq_true rfl, Nat.le_of_ble_eq_true rfl⟩) (cPre1 hK hN hw.1) rfl rfl hl.1 rfl (lv_room (Nat.le_of_ble_eq_true rfl)) d_F_column_12 ⟨Nat.le_of_ble_eq_true rfl, Nat.le_of_ble_eq_true rfl⟩).run (fun r_2 h => ?_)
  refine W.widen (k := 1) (n := 6) (Nat.le_of_ble_eq_true rfl) (Nat.le_of_ble_eq_true rfl) ?_
  refine tx_ret ?_
  exact W.iret hx hb hr (fun t ht hW => ⟨⟨_, (I_1, F_1, G_1), rfl, ⟨_, rfl, h⟩, by rw [ht]; exact hw.1, va_K.moved hW.alike hK, hw.2.1⟩, hw.2.2.F ht⟩) hw.2.2.2.2 d_F_column_15
abbrev rm_F_needNet : Room := { frames := 6, cells := 1, slots := 6, locals := 96 }
set_option maxHeartbeats 4000000 in
set_option maxRecDepth 100000 in
theorem c_F_needNet (l : Launch) (L : cL) (hst : l.stackTraces = false) (a1 : Int32) (I : MI) (F : MF) (G : MG) (sz : Nat) (post : MI → MF → MG → Prop) (thr : String → MI → MF → MG → Prop) (h : wp_F_needNet a1 I F G post thr) : tx_Met l y_F_needNet (.code y_F_needNet b_F_needNet 2 (none) :: lwG) rm_F_needNet (cPx L I F G sz [.ref (cA L 0), .int a1]) (cRv L (cAA L I F G sz) post (cAA L I F G sz)) (cX L (cAA L I F G sz) thr (cAA L I F G sz)) 1 6 (cAA L I F G sz) := by
  refine tx_ofW (cc := b_F_needNet) (maxL := 2) (ret := (none)) (by decide) rfl ?_
  intro p e s m args below meth c s₁ B hml hnt hv
  obtain ⟨rfl, hsz, hP, hK, hD0, hN, hz, hsr⟩ := hv
  have xc : xC p s m _ meth c b_F_needNet 2 lwG qR0 (none) := ⟨B.exec, B.bytes, hml, findClass_of_methodNamed B.named, fun w h => atoms_spec (ws := (.code y_F_needNet b_F_needNet 2 (none) :: lwG)) B.pre w (List.mem_cons_of_mem _ h), B.returns, B.notSynchronized⟩
  obtain ⟨hx, hb, hml, hown, hts, hr, hlocks⟩ := id xc
  subst hsz
  have hD : va_D (cAA L I F G s.heap.size) (WC L I F G) := hD0.self
  have hA0 : ∀ q : Nat, s.heap.size ≤ q → cAA L I F G s.heap.size q := fun q h => Or.inr h
  generalize cAA L I F G s.heap.size = A at hD hA0 hz ⊢
  have hA := hA0
  have hw : CW L A s.heap I F G s.heap [] := ⟨hP, hD, va_S.rf⟩
  have hl := lv_entry ([.ref (cA L 0), .int a1]) (n := 2) (Nat.le_of_ble_eq_true rfl)
  rw [lg_entry_eq]
  generalize (lg_sl ([.ref (cA L 0), .int a1]) ++ List.replicate (2 - (lg_sl ([.ref (cA L 0), .int a1])).length) Slot.unset).toArray = ls at hl ⊢
  have hl : lv_has ls 2 [(0, .ref (cA L 0)), (1, .int a1)] := hl
  refine lv_iload_n hx hb d_F_needNet_0 rfl (lv_at hl 1 rfl) ?_
  refine lv_bipush (v := 12) hx hb d_F_needNet_1 (by decide) ?_
  refine vp_callSi (va_runS (As := [.int a1, .int 12]) (rest := []) ⟨hx, hb, hml, hown, hts⟩ (c_F_within l a1 12 _ h) (va_cwS 2 hts (gS wG249 wG250 wG48 wG251) rfl rfl rfl (by decide +kernel) ⟨Nat.le_of_ble_eq_true rfl, Nat.le_of_ble_eq_true rfl⟩) ⟨sPc_blind _, fun U hU hW => ⟨rfl, trivial⟩⟩ rfl rfl hl.1 rfl (lv_room (Nat.le_of_ble_eq_true rfl)) d_F_needNet_3 ⟨Nat.le_of_ble_eq_true rfl, Nat.le_of_ble_eq_true rfl⟩).run (fun r_1 h => ?_)
  refine lv_if_ne (tgt := 19) hx hb d_F_needNet_6 (by decide) (fun c_2 => ?_) (fun c_2 => ?_)
  · replace h := h.1 c_2
    refine W.widen (k := 1) (n := 6) (Nat.le_of_ble_eq_true rfl) (Nat.le_of_ble_eq_true rfl) ?_
    refine tx_ret ?_
    exact W.vret hx hb hr (fun t ht hW => ⟨⟨_, (I, F, G), rfl, ⟨rfl, h⟩, by rw [ht]; exact hw.1, va_K.moved hW.alike hK, hw.2.1⟩, hw.2.2.F ht⟩) hw.2.2.2.2 d_F_needNet_19
  · replace h := h.2 c_2
    obtain ⟨sa, hsa⟩ := hsr.1 (qR0, 201, "nets are 0 to 11") (by decide +kernel)
    exact tx_throwS (Ts := lwH) hx hb hst hown (cHts hts hsr.2) hz hw.2.2 (by decide +kernel) (by decide +kernel) th_F_49_53 hsa (hl.1.trans hml.symm) d_F_needNet_9 d_F_needNet_12 d_F_needNet_13 d_F_needNet_15 d_F_needNet_18 hnt (Nat.le_of_ble_eq_true rfl) (Nat.le_of_ble_eq_true rfl) (Nat.le_of_ble_eq_true rfl) (Nat.le_of_ble_eq_true rfl) hlocks (cX_of hw hK h) hw.2.2.2.2 (Nat.le_of_ble_eq_true rfl) (Nat.le_of_ble_eq_true rfl)
abbrev rm_C_wireLength : Room := { frames := 4, cells := 0, slots := 0, locals := 84 }
set_option maxHeartbeats 4000000 in
set_option maxRecDepth 100000 in
theorem c_C_wireLength (l : Launch) (L : cL) (a1 : Int32) (I : MI) (F : MF) (G : MG) (post : Int32 → Prop) (h : wp_C_wireLength a1 I F G post) : Met l y_C_wireLength (.code y_C_wireLength b_C_wireLength 5 (some .int) :: lwG) rm_C_wireLength (cPc L I F G [.ref (cA L 2), .int a1]) (vp_Si post) 0 0 (fun _ => False) := by
  refine Met.ofW (cc := b_C_wireLength) (maxL := 5) (ret := (some .int)) (by decide) rfl ?_
  intro p e s m args below meth c s₁ B hml hv
  obtain ⟨rfl, hP, hK, hN⟩ := hv
  have xc : xC p s m _ meth c b_C_wireLength 5 lwG qR2 (some .int) := ⟨B.exec, B.bytes, hml, findClass_of_methodNamed B.named, fun w h => atoms_spec (ws := (.code y_C_wireLength b_C_wireLength 5 (some .int) :: lwG)) B.pre w (List.mem_cons_of_mem _ h), B.returns, B.notSynchronized⟩
  obtain ⟨hx, hb, hml, hown, hts, hr, hlocks⟩ := id xc
  have hl := lv_entry ([.ref (cA L 2), .int a1]) (n := 5) (Nat.le_of_ble_eq_true rfl)
  rw [lg_entry_eq]
  generalize (lg_sl ([.ref (cA L 2), .int a1]) ++ List.replicate (5 - (lg_sl ([.ref (cA L 2), .int a1])).length) Slot.unset).toArray = ls at hl ⊢
  have hl : lv_has ls 5 [(0, .ref (cA L 2)), (1, .int a1)] := hl
  refine lv_aload_n hx hb d_C_wireLength_0 rfl (lv_at hl 0 rfl) ?_
  refine va_get (D := L.1) (ci := 2) (v := .ref (cA L 20)) (C := qR2) (T := qT2) (N := 3) hx hb hts qi2 hown hK hP 2 rfl rfl 2 (by decide) (hts _ wG149) (fun _ h9 => h9) rfl d_C_wireLength_1 ?_
  refine lv_iload_n hx hb d_C_wireLength_4 rfl (lv_at hl 1 rfl) ?_
  obtain ⟨hi_1, h⟩ := h
  refine c_iald hx hb hK hP 10 (by decide) rfl hi_1 d_C_wireLength_5 ?_
  refine lv_if_ne (tgt := 11) hx hb d_C_wireLength_6 (by decide) (fun c_2 => ?_) (fun c_2 => ?_)
  · replace h := h.1 c_2
    refine lv_aload_n hx hb d_C_wireLength_11 rfl (lv_at hl 0 rfl) ?_
    refine va_get (D := L.1) (ci := 2) (v := .ref (cA L 1)) (C := qR2) (T := qT2) (N := 3) hx hb hts qi2 hown hK hP 2 rfl rfl 0 (by decide) (hts _ wG145) (fun _ h9 => h9) rfl d_C_wireLength_12 ?_
    refine lv_iload_n hx hb d_C_wireLength_15 rfl (lv_at hl 1 rfl) ?_
    refine vp_callSi (va_runV (As := [.int a1]) (rest := []) ⟨hx, hb, hml, hown, hts⟩ (c_N_rightEnd l L a1 I F G _ h) (cwV 1 hts (gV wG414 wG415 wG416 wG49 wG417) rfl rfl rfl (by decide +kernel) ⟨Nat.le_of_ble_eq_true rfl, Nat.le_of_ble_eq_true rfl⟩) (cPre1 hK hN hP) rfl rfl hl.1 rfl (lv_room (Nat.le_of_ble_eq_true rfl)) d_C_wireLength_16 ⟨Nat.le_of_ble_eq_true rfl, Nat.le_of_ble_eq_true rfl⟩).run (fun r_3 h => ?_)
    refine lv_aload_n hx hb d_C_wireLength_19 rfl (lv_at hl 0 rfl) ?_
    refine va_get (D := L.1) (ci := 2) (v := .ref (cA L 1)) (C := qR2) (T := qT2) (N := 3) hx hb hts qi2 hown hK hP 2 rfl rfl 0 (by decide) (hts _ wG145) (fun _ h9 => h9) rfl d_C_wireLength_20 ?_
    refine lv_iload_n hx hb d_C_wireLength_23 rfl (lv_at hl 1 rfl) ?_
    refine vp_callSi (va_runV (As := [.int a1]) (rest := [.int r_3]) ⟨hx, hb, hml, hown, hts⟩ (c_N_leftEnd l L a1 I F G _ h) (cwV 1 hts (gV wG402 wG403 wG404 wG49 wG405) rfl rfl rfl (by decide +kernel) ⟨Nat.le_of_ble_eq_true rfl, Nat.le_of_ble_eq_true rfl⟩) (cPre1 hK hN hP) rfl rfl hl.1 rfl (lv_room (Nat.le_of_ble_eq_true rfl)) d_C_wireLength_24 ⟨Nat.le_of_ble_eq_true rfl, Nat.le_of_ble_eq_true rfl⟩).run (fun r_4 h => ?_)
    refine lv_isub hx hb d_C_wireLength_27 ?_
    refine lv_topi (fun x_5 ex_5 => ?_)
    replace h := h x_5 ex_5
    refine lv_istore_n (lv' := [(2, .int x_5), (0, .ref (cA L 2)), (1, .int a1)]) hx hb d_C_wireLength_28 rfl hl (by decide) rfl (fun ls hl => ?_)
    refine lv_aload_n hx hb d_C_wireLength_29 rfl (lv_at hl 1 rfl) ?_
    refine va_get (D := L.1) (ci := 2) (v := .ref (cA L 1)) (C := qR2) (T := qT2) (N := 3) hx hb hts qi2 hown hK hP 2 rfl rfl 0 (by decide) (hts _ wG145) (fun _ h9 => h9) rfl d_C_wireLength_30 ?_
    refine va_get (D := L.1) (ci := 1) (v := .ref (cA L 6)) (C := qR1) (T := qT1) (N := 13) hx hb hts qi1 hown hK hP 1 rfl rfl 9 (by decide) (hts _ wG106) (fun _ h9 => h9) rfl d_C_wireLength_33 ?_
    refine lv_iconst (v := 0) hx hb d_C_wireLength_36 (by decide) ?_
    obtain ⟨hi_6, h⟩ := h
    refine c_row6 hx hb hK hP hi_6 d_C_wireLength_37 ?_
    refine lv_iload_n hx hb d_C_wireLength_38 rfl (lv_at hl 2 rfl) ?_
    obtain ⟨hi_7, h⟩ := h
    refine c_iald hx hb hK hP (17 + (0 : Int32).toNatClampNeg) (row_lt17 hi_6) (row_len17 hi_6) hi_7 d_C_wireLength_39 ?_
    refine lv_aload_n hx hb d_C_wireLength_40 rfl (lv_at hl 1 rfl) ?_
    refine va_get (D := L.1) (ci := 2) (v := .ref (cA L 20)) (C := qR2) (T := qT2) (N := 3) hx hb hts qi2 hown hK hP 2 rfl rfl 2 (by decide) (hts _ wG149) (fun _ h9 => h9) rfl d_C_wireLength_41 ?_
    refine lv_iload_n hx hb d_C_wireLength_44 rfl (lv_at hl 2 rfl) ?_
    obtain ⟨hi_8, h⟩ := h
    refine c_iald hx hb hK hP 10 (by decide) rfl hi_8 d_C_wireLength_45 ?_
    refine lv_imul hx hb d_C_wireLength_46 ?_
    refine lv_topi (fun x_9 ex_9 => ?_)
    replace h := h x_9 ex_9
    refine lv_istore_n (lv' := [(3, .int x_9), (2, .int x_5), (0, .ref (cA L 2)), (1, .int a1)]) hx hb d_C_wireLength_47 rfl hl (by decide) rfl (fun ls hl => ?_)
    refine lv_aload_n hx hb d_C_wireLength_48 rfl (lv_at hl 2 rfl) ?_
    refine va_get (D := L.1) (ci := 2) (v := .ref (cA L 1)) (C := qR2) (T := qT2) (N := 3) hx hb hts qi2 hown hK hP 2 rfl rfl 0 (by decide) (hts _ wG145) (fun _ h9 => h9) rfl d_C_wireLength_49 ?_
    refine va_get (D := L.1) (ci := 1) (v := .ref (cA L 6)) (C := qR1) (T := qT1) (N := 13) hx hb hts qi1 hown hK hP 1 rfl rfl 9 (by decide) (hts _ wG106) (fun _ h9 => h9) rfl d_C_wireLength_52 ?_
    refine lv_iconst (v := 1) hx hb d_C_wireLength_55 (by decide) ?_
    obtain ⟨hi_10, h⟩ := h
    refine c_row6 hx hb hK hP hi_10 d_C_wireLength_56 ?_
    refine lv_iload_n hx hb d_C_wireLength_57 rfl (lv_at hl 3 rfl) ?_
    obtain ⟨hi_11, h⟩ := h
    refine c_iald hx hb hK hP (17 + (1 : Int32).toNatClampNeg) (row_lt17 hi_10) (row_len17 hi_10) hi_11 d_C_wireLength_58 ?_
    refine lv_aload_n hx hb d_C_wireLength_59 rfl (lv_at hl 2 rfl) ?_
    refine va_get (D := L.1) (ci := 2) (v := .int (I 2)) (C := qR2) (T := qT2) (N := 3) hx hb hts qi2 hown hK hP 2 rfl rfl 1 (by decide) (hts _ wG146) (fun _ h9 => h9) rfl d_C_wireLength_60 ?_
    refine lv_iconst (v := 1) hx hb d_C_wireLength_63 (by decide) ?_
    refine lv_iadd hx hb d_C_wireLength_64 ?_
    refine lv_aload_n hx hb d_C_wireLength_65 rfl (lv_at hl 2 rfl) ?_
    refine va_get (D := L.1) (ci := 2) (v := .ref (cA L 20)) (C := qR2) (T := qT2) (N := 3) hx hb hts qi2 hown hK hP 2 rfl rfl 2 (by decide) (hts _ wG149) (fun _ h9 => h9) rfl d_C_wireLength_66 ?_
    refine lv_iload_n hx hb d_C_wireLength_69 rfl (lv_at hl 3 rfl) ?_
    obtain ⟨hi_12, h⟩ := h
    refine c_iald hx hb hK hP 10 (by decide) rfl hi_12 d_C_wireLength_70 ?_
    refine lv_isub hx hb d_C_wireLength_71 ?_
    refine lv_imul hx hb d_C_wireLength_72 ?_
    refine lv_topi (fun x_13 ex_13 => ?_)
    replace h := h x_13 ex_13
    refine lv_istore (lv' := [(4, .int x_13), (3, .int x_9), (2, .int x_5), (0, .ref (cA L 2)), (1, .int a1)]) hx hb d_C_wireLength_73 hl (by decide) rfl (fun ls hl => ?_)
    refine lv_iload_n hx hb d_C_wireLength_75 rfl (lv_at hl 2 rfl) ?_
    refine lv_iload_n hx hb d_C_wireLength_76 rfl (lv_at hl 1 rfl) ?_
    refine lv_iadd hx hb d_C_wireLength_77 ?_
    refine lv_iload hx hb d_C_wireLength_78 (lv_at hl 0 rfl) ?_
    refine lv_iadd hx hb d_C_wireLength_80 ?_
    exact W.iret hx hb hr (fun t ht _ => ⟨_, rfl, h, ht⟩) (fun _ h9 => nomatch h9) d_C_wireLength_81
  · replace h := h.2 c_2
    refine lv_iconst (v := 0) hx hb d_C_wireLength_9 (by decide) ?_
    exact W.iret hx hb hr (fun t ht _ => ⟨_, rfl, h, ht⟩) (fun _ h9 => nomatch h9) d_C_wireLength_10
abbrev rm_F_net : Room := { frames := 7, cells := 2, slots := 12, locals := 117 }
set_option maxHeartbeats 4000000 in
set_option maxRecDepth 100000 in
theorem c_F_net (l : Launch) (L : cL) (hst : l.stackTraces = false) (a1 : Int32) (a2 : Int32) (I : MI) (F : MF) (G : MG) (sz : Nat) (post : Int32 → MI → MF → MG → Prop) (thr : String → MI → MF → MG → Prop) (h : wp_F_net a1 a2 I F G post thr) : tx_Met l y_F_net (.code y_F_net b_F_net 3 (some .int) :: lwG) rm_F_net (cPx L I F G sz [.ref (cA L 0), .int a1, .int a2]) (cRi L (cAA L I F G sz) post (cAA L I F G sz)) (cX L (cAA L I F G sz) thr (cAA L I F G sz)) 2 12 (cAA L I F G sz) := by
  refine tx_ofW (cc := b_F_net) (maxL := 3) (ret := (some .int)) (by decide) rfl ?_
  intro p e s m args below meth c s₁ B hml hnt hv
  obtain ⟨rfl, hsz, hP, hK, hD0, hN, hz, hsr⟩ := hv
  have xc : xC p s m _ meth c b_F_net 3 lwG qR0 (some .int) := ⟨B.exec, B.bytes, hml, findClass_of_methodNamed B.named, fun w h => atoms_spec (ws := (.code y_F_net b_F_net 3 (some .int) :: lwG)) B.pre w (List.mem_cons_of_mem _ h), B.returns, B.notSynchronized⟩
  obtain ⟨hx, hb, hml, hown, hts, hr, hlocks⟩ := id xc
  subst hsz
  have hD : va_D (cAA L I F G s.heap.size) (WC L I F G) := hD0.self
  have hA0 : ∀ q : Nat, s.heap.size ≤ q → cAA L I F G s.heap.size q := fun q h => Or.inr h
  generalize cAA L I F G s.heap.size = A at hD hA0 hz ⊢
  have hA := hA0
  have hw : CW L A s.heap I F G s.heap [] := ⟨hP, hD, va_S.rf⟩
  have hl := lv_entry ([.ref (cA L 0), .int a1, .int a2]) (n := 3) (Nat.le_of_ble_eq_true rfl)
  rw [lg_entry_eq]
  generalize (lg_sl ([.ref (cA L 0), .int a1, .int a2]) ++ List.replicate (3 - (lg_sl ([.ref (cA L 0), .int a1, .int a2])).length) Slot.unset).toArray = ls at hl ⊢
  have hl : lv_has ls 3 [(0, .ref (cA L 0)), (1, .int a1), (2, .int a2)] := hl
  refine lv_aload_n hx hb d_F_net_0 rfl (lv_at hl 0 rfl) ?_
  refine lv_iload_n hx hb d_F_net_1 rfl (lv_at hl 1 rfl) ?_
  refine c_callXv (tx_runV (As := [.int a1]) (rest := []) ⟨hx, hb, hml, hown, hts⟩ (c_F_needNet l L hst a1 I F G _ _ _ h) (cwV 1 hts (gV wG496 wG498 wG7 wG48 wG499) rfl rfl rfl (by decide +kernel) ⟨Nat.le_of_ble_eq_true rfl, Nat.le_of_ble_eq_true rfl⟩) (cPrx0 hK hN hw hA hz hsr) rfl rfl hl.1 rfl (lv_room (Nat.le_of_ble_eq_true rfl)) d_F_net_2 ⟨Nat.le_of_ble_eq_true rfl, Nat.le_of_ble_eq_true rfl⟩) hw hA hK hnt hlocks (Nat.le_of_ble_eq_true rfl) (Nat.le_of_ble_eq_true rfl) (fun I_1 F_1 G_1 H locs h hw => ?_)
  refine lv_iload_n hx hb d_F_net_5 rfl (lv_at hl 2 rfl) ?_
  by_cases c0 : a2 = 0
  · replace h := h.1 c0
    refine lv_tableIn (tgt := 48) hx hb d_F_net_6 (by rw [c0]; decide) (by rw [c0]; decide) (by rw [c0]; rfl) (by decide) ?_
    refine lv_aload_n hx hb d_F_net_48 rfl (lv_at hl 0 rfl) ?_
    refine va_get (D := L.1) (ci := 0) (v := .ref (cA L 1)) (C := qR0) (T := qT0) (N := 5) hx hb hts qi0 hown hK hw.1 0 rfl rfl 0 (by decide) (hts _ wG219) (fun _ h9 => h9) rfl d_F_net_49 ?_
    refine lv_iload_n hx hb d_F_net_52 rfl (lv_at hl 1 rfl) ?_
    refine vp_callSi (va_runV (As := [.int a1]) (rest := []) ⟨hx, hb, hml, hown, hts⟩ (c_N_pins l L a1 I_1 F_1 G_1 _ h) (cwV 1 hts (gV wG501 wG390 wG391 wG49 wG392) rfl rfl rfl (by decide +kernel) ⟨Nat.le_of_ble_eq_true rfl, Nat.le_of_ble_eq_true rfl⟩) (cPre1 hK hN hw.1) rfl rfl hl.1 rfl (lv_room (Nat.le_of_ble_eq_true rfl)) d_F_net_53 ⟨Nat.le_of_ble_eq_true rfl, Nat.le_of_ble_eq_true rfl⟩).run (fun r_2 h => ?_)
    refine W.widen (k := 2) (n := 12) (Nat.le_of_ble_eq_true rfl) (Nat.le_of_ble_eq_true rfl) ?_
    refine tx_ret ?_
    exact W.iret hx hb hr (fun t ht hW => ⟨⟨_, (I_1, F_1, G_1), rfl, ⟨_, rfl, h⟩, by rw [ht]; exact hw.1, va_K.moved hW.alike hK, hw.2.1⟩, hw.2.2.F ht⟩) hw.2.2.2.2 d_F_net_56
  · replace h := h.2 c0
    by_cases c1 : a2 = 1
    · replace h := h.1 c1
      refine lv_tableIn (tgt := 57) hx hb d_F_net_6 (by rw [c1]; decide) (by rw [c1]; decide) (by rw [c1]; rfl) (by decide) ?_
      refine lv_aload_n hx hb d_F_net_57 rfl (lv_at hl 0 rfl) ?_
      refine va_get (D := L.1) (ci := 0) (v := .ref (cA L 1)) (C := qR0) (T := qT0) (N := 5) hx hb hts qi0 hown hK hw.1 0 rfl rfl 0 (by decide) (hts _ wG219) (fun _ h9 => h9) rfl d_F_net_58 ?_
      refine va_get (D := L.1) (ci := 1) (v := .ref (cA L 19)) (C := qR1) (T := qT1) (N := 13) hx hb hts qi1 hown hK hw.1 1 rfl rfl 12 (by decide) (hts _ wG110) (fun _ h9 => h9) rfl d_F_net_61 ?_
      refine lv_iload_n hx hb d_F_net_64 rfl (lv_at hl 1 rfl) ?_
      obtain ⟨hi_3, h⟩ := h
      refine c_iald hx hb hK hw.1 9 (by decide) rfl hi_3 d_F_net_65 ?_
      refine W.widen (k := 2) (n := 12) (Nat.le_of_ble_eq_true rfl) (Nat.le_of_ble_eq_true rfl) ?_
      refine tx_ret ?_
      exact W.iret hx hb hr (fun t ht hW => ⟨⟨_, (I_1, F_1, G_1), rfl, ⟨_, rfl, h⟩, by rw [ht]; exact hw.1, va_K.moved hW.alike hK, hw.2.1⟩, hw.2.2.F ht⟩) hw.2.2.2.2 d_F_net_66
    · replace h := h.2 c1
      by_cases c2 : a2 = 2
      · replace h := h.1 c2
        refine lv_tableIn (tgt := 67) hx hb d_F_net_6 (by rw [c2]; decide) (by rw [c2]; decide) (by rw [c2]; rfl) (by decide) ?_
        refine lv_aload_n hx hb d_F_net_67 rfl (lv_at hl 0 rfl) ?_
        refine va_get (D := L.1) (ci := 0) (v := .ref (cA L 1)) (C := qR0) (T := qT0) (N := 5) hx hb hts qi0 hown hK hw.1 0 rfl rfl 0 (by decide) (hts _ wG219) (fun _ h9 => h9) rfl d_F_net_68 ?_
        refine lv_iload_n hx hb d_F_net_71 rfl (lv_at hl 1 rfl) ?_
        refine vp_callSi (va_runV (As := [.int a1]) (rest := []) ⟨hx, hb, hml, hown, hts⟩ (c_N_hasPad l L a1 I_1 F_1 G_1 _ h) (cwV 1 hts (gV wG502 wG394 wG395 wG49 wG396) rfl rfl rfl (by decide +kernel) ⟨Nat.le_of_ble_eq_true rfl, Nat.le_of_ble_eq_true rfl⟩) (cPre1 hK hN hw.1) rfl rfl hl.1 rfl (lv_room (Nat.le_of_ble_eq_true rfl)) d_F_net_72 ⟨Nat.le_of_ble_eq_true rfl, Nat.le_of_ble_eq_true rfl⟩).run (fun r_4 h => ?_)
        refine lv_if_eq (tgt := 82) hx hb d_F_net_75 (by decide) (fun c_5 => ?_) (fun c_5 => ?_)
        · replace h := h.1 c_5
          refine lv_iconst (v := 0) hx hb d_F_net_82 (by decide) ?_
          refine W.widen (k := 2) (n := 12) (Nat.le_of_ble_eq_true rfl) (Nat.le_of_ble_eq_true rfl) ?_
          refine tx_ret ?_
          exact W.iret hx hb hr (fun t ht hW => ⟨⟨_, (I_1, F_1, G_1), rfl, ⟨_, rfl, h⟩, by rw [ht]; exact hw.1, va_K.moved hW.alike hK, hw.2.1⟩, hw.2.2.F ht⟩) hw.2.2.2.2 d_F_net_83
        · replace h := h.2 c_5
          refine lv_iconst (v := 1) hx hb d_F_net_78 (by decide) ?_
          refine lv_goto (tgt := 83) hx hb d_F_net_79 (by decide) ?_
          refine W.widen (k := 2) (n := 12) (Nat.le_of_ble_eq_true rfl) (Nat.le_of_ble_eq_true rfl) ?_
          refine tx_ret ?_
          exact W.iret hx hb hr (fun t ht hW => ⟨⟨_, (I_1, F_1, G_1), rfl, ⟨_, rfl, h⟩, by rw [ht]; exact hw.1, va_K.moved hW.alike hK, hw.2.1⟩, hw.2.2.F ht⟩) hw.2.2.2.2 d_F_net_83
      · replace h := h.2 c2
        by_cases c3 : a2 = 3
        · replace h := h.1 c3
          refine lv_tableIn (tgt := 84) hx hb d_F_net_6 (by rw [c3]; decide) (by rw [c3]; decide) (by rw [c3]; rfl) (by decide) ?_
          refine lv_aload_n hx hb d_F_net_84 rfl (lv_at hl 0 rfl) ?_
          refine va_get (D := L.1) (ci := 0) (v := .ref (cA L 1)) (C := qR0) (T := qT0) (N := 5) hx hb hts qi0 hown hK hw.1 0 rfl rfl 0 (by decide) (hts _ wG219) (fun _ h9 => h9) rfl d_F_net_85 ?_
          refine lv_iload_n hx hb d_F_net_88 rfl (lv_at hl 1 rfl) ?_
          refine vp_callSi (va_runV (As := [.int a1]) (rest := []) ⟨hx, hb, hml, hown, hts⟩ (c_N_leftEnd l L a1 I_1 F_1 G_1 _ h) (cwV 1 hts (gV wG503 wG403 wG404 wG49 wG405) rfl rfl rfl (by decide +kernel) ⟨Nat.le_of_ble_eq_true rfl, Nat.le_of_ble_eq_true rfl⟩) (cPre1 hK hN hw.1) rfl rfl hl.1 rfl (lv_room (Nat.le_of_ble_eq_true rfl)) d_F_net_89 ⟨Nat.le_of_ble_eq_true rfl, Nat.le_of_ble_eq_true rfl⟩).run (fun r_6 h => ?_)
          refine W.widen (k := 2) (n := 12) (Nat.le_of_ble_eq_true rfl) (Nat.le_of_ble_eq_true rfl) ?_
          refine tx_ret ?_
          exact W.iret hx hb hr (fun t ht hW => ⟨⟨_, (I_1, F_1, G_1), rfl, ⟨_, rfl, h⟩, by rw [ht]; exact hw.1, va_K.moved hW.alike hK, hw.2.1⟩, hw.2.2.F ht⟩) hw.2.2.2.2 d_F_net_92
        · replace h := h.2 c3
          by_cases c4 : a2 = 4
          · replace h := h.1 c4
            refine lv_tableIn (tgt := 93) hx hb d_F_net_6 (by rw [c4]; decide) (by rw [c4]; decide) (by rw [c4]; rfl) (by decide) ?_
            refine lv_aload_n hx hb d_F_net_93 rfl (lv_at hl 0 rfl) ?_
            refine va_get (D := L.1) (ci := 0) (v := .ref (cA L 1)) (C := qR0) (T := qT0) (N := 5) hx hb hts qi0 hown hK hw.1 0 rfl rfl 0 (by decide) (hts _ wG219) (fun _ h9 => h9) rfl d_F_net_94 ?_
            refine lv_iload_n hx hb d_F_net_97 rfl (lv_at hl 1 rfl) ?_
            refine vp_callSi (va_runV (As := [.int a1]) (rest := []) ⟨hx, hb, hml, hown, hts⟩ (c_N_rightEnd l L a1 I_1 F_1 G_1 _ h) (cwV 1 hts (gV wG504 wG415 wG416 wG49 wG417) rfl rfl rfl (by decide +kernel) ⟨Nat.le_of_ble_eq_true rfl, Nat.le_of_ble_eq_true rfl⟩) (cPre1 hK hN hw.1) rfl rfl hl.1 rfl (lv_room (Nat.le_of_ble_eq_true rfl)) d_F_net_98 ⟨Nat.le_of_ble_eq_true rfl, Nat.le_of_ble_eq_true rfl⟩).run (fun r_7 h => ?_)
            refine W.widen (k := 2) (n := 12) (Nat.le_of_ble_eq_true rfl) (Nat.le_of_ble_eq_true rfl) ?_
            refine tx_ret ?_
            exact W.iret hx hb hr (fun t ht hW => ⟨⟨_, (I_1, F_1, G_1), rfl, ⟨_, rfl, h⟩, by rw [ht]; exact hw.1, va_K.moved hW.alike hK, hw.2.1⟩, hw.2.2.F ht⟩) hw.2.2.2.2 d_F_net_101
          · replace h := h.2 c4
            by_cases c5 : a2 = 5
            · replace h := h.1 c5
              refine lv_tableIn (tgt := 102) hx hb d_F_net_6 (by rw [c5]; decide) (by rw [c5]; decide) (by rw [c5]; rfl) (by decide) ?_
              refine lv_aload_n hx hb d_F_net_102 rfl (lv_at hl 0 rfl) ?_
              refine va_get (D := L.1) (ci := 0) (v := .int (I_1 0)) (C := qR0) (T := qT0) (N := 5) hx hb hts qi0 hown hK hw.1 0 rfl rfl 4 (by decide) (hts _ wG223) (fun _ h9 => h9) rfl d_F_net_103 ?_
              refine lv_if_eq (tgt := 121) hx hb d_F_net_106 (by decide) (fun c_8 => ?_) (fun c_8 => ?_)
              · replace h := h.1 c_8
                refine lv_iconst (v := 0) hx hb d_F_net_121 (by decide) ?_
                refine W.widen (k := 2) (n := 12) (Nat.le_of_ble_eq_true rfl) (Nat.le_of_ble_eq_true rfl) ?_
                refine tx_ret ?_
                exact W.iret hx hb hr (fun t ht hW => ⟨⟨_, (I_1, F_1, G_1), rfl, ⟨_, rfl, h⟩, by rw [ht]; exact hw.1, va_K.moved hW.alike hK, hw.2.1⟩, hw.2.2.F ht⟩) hw.2.2.2.2 d_F_net_122
              · replace h := h.2 c_8
                refine lv_aload_n hx hb d_F_net_109 rfl (lv_at hl 0 rfl) ?_
                refine va_get (D := L.1) (ci := 0) (v := .ref (cA L 2)) (C := qR0) (T := qT0) (N := 5) hx hb hts qi0 hown hK hw.1 0 rfl rfl 1 (by decide) (hts _ wG220) (fun _ h9 => h9) rfl d_F_net_110 ?_
                refine va_get (D := L.1) (ci := 2) (v := .ref (cA L 20)) (C := qR2) (T := qT2) (N := 3) hx hb hts qi2 hown hK hw.1 2 rfl rfl 2 (by decide) (hts _ wG151) (fun _ h9 => h9) rfl d_F_net_113 ?_
                refine lv_iload_n hx hb d_F_net_116 rfl (lv_at hl 1 rfl) ?_
                obtain ⟨hi_9, h⟩ := h
                refine c_iald hx hb hK hw.1 10 (by decide) rfl hi_9 d_F_net_117 ?_
                refine lv_goto (tgt := 122) hx hb d_F_net_118 (by decide) ?_
                refine W.widen (k := 2) (n := 12) (Nat.le_of_ble_eq_true rfl) (Nat.le_of_ble_eq_true rfl) ?_
                refine tx_ret ?_
                exact W.iret hx hb hr (fun t ht hW => ⟨⟨_, (I_1, F_1, G_1), rfl, ⟨_, rfl, h⟩, by rw [ht]; exact hw.1, va_K.moved hW.alike hK, hw.2.1⟩, hw.2.2.F ht⟩) hw.2.2.2.2 d_F_net_122
            · replace h := h.2 c5
              by_cases c6 : a2 = 6
              · replace h := h.1 c6
                refine lv_tableIn (tgt := 123) hx hb d_F_net_6 (by rw [c6]; decide) (by rw [c6]; decide) (by rw [c6]; rfl) (by decide) ?_
                refine lv_aload_n hx hb d_F_net_123 rfl (lv_at hl 0 rfl) ?_
                refine va_get (D := L.1) (ci := 0) (v := .int (I_1 0)) (C := qR0) (T := qT0) (N := 5) hx hb hts qi0 hown hK hw.1 0 rfl rfl 4 (by decide) (hts _ wG223) (fun _ h9 => h9) rfl d_F_net_124 ?_
                refine lv_if_eq (tgt := 141) hx hb d_F_net_127 (by decide) (fun c_10 => ?_) (fun c_10 => ?_)
                · replace h := h.1 c_10
                  refine lv_iconst (v := 0) hx hb d_F_net_141 (by decide) ?_
                  refine W.widen (k := 2) (n := 12) (Nat.le_of_ble_eq_true rfl) (Nat.le_of_ble_eq_true rfl) ?_
                  refine tx_ret ?_
                  exact W.iret hx hb hr (fun t ht hW => ⟨⟨_, (I_1, F_1, G_1), rfl, ⟨_, rfl, h⟩, by rw [ht]; exact hw.1, va_K.moved hW.alike hK, hw.2.1⟩, hw.2.2.F ht⟩) hw.2.2.2.2 d_F_net_142
                · replace h := h.2 c_10
                  refine lv_aload_n hx hb d_F_net_130 rfl (lv_at hl 0 rfl) ?_
                  refine va_get (D := L.1) (ci := 0) (v := .ref (cA L 2)) (C := qR0) (T := qT0) (N := 5) hx hb hts qi0 hown hK hw.1 0 rfl rfl 1 (by decide) (hts _ wG220) (fun _ h9 => h9) rfl d_F_net_131 ?_
                  refine lv_iload_n hx hb d_F_net_134 rfl (lv_at hl 1 rfl) ?_
                  refine vp_callSi (va_runV (As := [.int a1]) (rest := []) ⟨hx, hb, hml, hown, hts⟩ (c_C_wireLength l L a1 I_1 F_1 G_1 _ h) (cwV 1 hts (gV wG505 wG506 wG507 wG51 wG508) rfl rfl rfl (by decide +kernel) ⟨Nat.le_of_ble_eq_true rfl, Nat.le_of_ble_eq_true rfl⟩) (cPre2 hK hN hw.1) rfl rfl hl.1 rfl (lv_room (Nat.le_of_ble_eq_true rfl)) d_F_net_135 ⟨Nat.le_of_ble_eq_true rfl, Nat.le_of_ble_eq_true rfl⟩).run (fun r_11 h => ?_)
                  refine lv_goto (tgt := 142) hx hb d_F_net_138 (by decide) ?_
                  refine W.widen (k := 2) (n := 12) (Nat.le_of_ble_eq_true rfl) (Nat.le_of_ble_eq_true rfl) ?_
                  refine tx_ret ?_
                  exact W.iret hx hb hr (fun t ht hW => ⟨⟨_, (I_1, F_1, G_1), rfl, ⟨_, rfl, h⟩, by rw [ht]; exact hw.1, va_K.moved hW.alike hK, hw.2.1⟩, hw.2.2.F ht⟩) hw.2.2.2.2 d_F_net_142
              · replace h := h.2 c6
                refine lv_tableOut (tgt := 143) hx hb d_F_net_6 (sw_out_0_6 c0 c1 c2 c3 c4 c5 c6) (by decide) ?_
                obtain ⟨sa, hsa⟩ := hsr.1 (qR0, 128, "nothing of a net has this number") (by decide +kernel)
                exact tx_throwS (Ts := lwH) hx hb hst hown (cHts hts hsr.2) hz hw.2.2 (by decide +kernel) (by decide +kernel) th_F_49_53 hsa (hl.1.trans hml.symm) d_F_net_143 d_F_net_146 d_F_net_147 d_F_net_149 d_F_net_152 hnt (Nat.le_of_ble_eq_true rfl) (Nat.le_of_ble_eq_true rfl) (Nat.le_of_ble_eq_true rfl) (Nat.le_of_ble_eq_true rfl) hlocks (cX_of hw hK h) hw.2.2.2.2 (Nat.le_of_ble_eq_true rfl) (Nat.le_of_ble_eq_true rfl)
