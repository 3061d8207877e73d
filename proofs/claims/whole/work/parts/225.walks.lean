abbrev rm_F_needRouted : Room := { frames := 6, cells := 1, slots := 6, locals := 96 }
set_option maxHeartbeats 4000000 in
set_option maxRecDepth 100000 in
theorem c_F_needRouted (l : Launch) (L : cL) (hst : l.stackTraces = false) (I : MI) (F : MF) (G : MG) (sz : Nat) (post : MI → MF → MG → Prop) (thr : String → MI → MF → MG → Prop) (h : wp_F_needRouted I F G post thr) : tx_Met l y_F_needRouted (.code y_F_needRouted b_F_needRouted 1 (none) :: lwG) rm_F_needRouted (cPx L I F G sz [.ref (cA L 0)]) (cRv L (cAA L I F G sz) post (cAA L I F G sz)) (cX L (cAA L I F G sz) thr (cAA L I F G sz)) 1 6 (cAA L I F G sz) := by
  refine tx_ofW (cc := b_F_needRouted) (maxL := 1) (ret := (none)) (by decide) rfl ?_
  intro p e s m args below meth c s₁ B hml hnt hv
  obtain ⟨rfl, hsz, hP, hK, hD0, hN, hz, hsr⟩ := hv
  have xc : xC p s m _ meth c b_F_needRouted 1 lwG qR0 (none) := ⟨B.exec, B.bytes, hml, findClass_of_methodNamed B.named, fun w h => atoms_spec (ws := (.code y_F_needRouted b_F_needRouted 1 (none) :: lwG)) B.pre w (List.mem_cons_of_mem _ h), B.returns, B.notSynchronized⟩
  obtain ⟨hx, hb, hml, hown, hts, hr, hlocks⟩ := id xc
  subst hsz
  have hD : va_D (cAA L I F G s.heap.size) (WC L I F G) := hD0.self
  have hA0 : ∀ q : Nat, s.heap.size ≤ q → cAA L I F G s.heap.size q := fun q h => Or.inr h
  generalize cAA L I F G s.heap.size = A at hD hA0 hz ⊢
  have hA := hA0
  have hw : CW L A s.heap I F G s.heap [] := ⟨hP, hD, va_S.rf⟩
  have hl := lv_entry ([.ref (cA L 0)]) (n := 1) (Nat.le_of_ble_eq_true rfl)
  rw [lg_entry_eq]
  generalize (lg_sl ([.ref (cA L 0)]) ++ List.replicate (1 - (lg_sl ([.ref (cA L 0)])).length) Slot.unset).toArray = ls at hl ⊢
  have hl : lv_has ls 1 [(0, .ref (cA L 0))] := hl
  refine lv_aload_n hx hb d_F_needRouted_0 rfl (lv_at hl 0 rfl) ?_
  refine va_get (D := L.1) (ci := 0) (v := .int (I 0)) (C := qR0) (T := qT0) (N := 5) hx hb hts qi0 hown hK hw.1 0 rfl rfl 4 (by decide) (hts _ wG223) (fun _ h9 => h9) rfl d_F_needRouted_1 ?_
  refine lv_if_ne (tgt := 17) hx hb d_F_needRouted_4 (by decide) (fun c_1 => ?_) (fun c_1 => ?_)
  · replace h := h.1 c_1
    refine W.widen (k := 1) (n := 6) (Nat.le_of_ble_eq_true rfl) (Nat.le_of_ble_eq_true rfl) ?_
    refine tx_ret ?_
    exact W.vret hx hb hr (fun t ht hW => ⟨⟨_, (I, F, G), rfl, ⟨rfl, h⟩, by rw [ht]; exact hw.1, va_K.moved hW.alike hK, hw.2.1⟩, hw.2.2.F ht⟩) hw.2.2.2.2 d_F_needRouted_17
  · replace h := h.2 c_1
    obtain ⟨sa, hsa⟩ := hsr.1 (qR0, 203, "nothing is routed") (by decide +kernel)
    exact tx_throwS (Ts := lwH) hx hb hst hown (cHts hts hsr.2) hz hw.2.2 (by decide +kernel) (by decide +kernel) th_F_68_72 hsa (hl.1.trans hml.symm) d_F_needRouted_7 d_F_needRouted_10 d_F_needRouted_11 d_F_needRouted_13 d_F_needRouted_16 hnt (Nat.le_of_ble_eq_true rfl) (Nat.le_of_ble_eq_true rfl) (Nat.le_of_ble_eq_true rfl) (Nat.le_of_ble_eq_true rfl) hlocks (cX_of hw hK h) hw.2.2.2.2 (Nat.le_of_ble_eq_true rfl) (Nat.le_of_ble_eq_true rfl)
abbrev rm_C_lines : Room := { frames := 0, cells := 0, slots := 0, locals := 0 }
set_option maxHeartbeats 4000000 in
set_option maxRecDepth 100000 in
theorem c_C_lines (l : Launch) (L : cL) (I : MI) (F : MF) (G : MG) (post : Int32 → Prop) (h : wp_C_lines I F G post) : Met l y_C_lines (.code y_C_lines b_C_lines 1 (some .int) :: lwG) rm_C_lines (cPc L I F G [.ref (cA L 2)]) (vp_Si post) 0 0 (fun _ => False) := by
  refine Met.ofW (cc := b_C_lines) (maxL := 1) (ret := (some .int)) (by decide) rfl ?_
  intro p e s m args below meth c s₁ B hml hv
  obtain ⟨rfl, hP, hK, hN⟩ := hv
  have xc : xC p s m _ meth c b_C_lines 1 lwG qR2 (some .int) := ⟨B.exec, B.bytes, hml, findClass_of_methodNamed B.named, fun w h => atoms_spec (ws := (.code y_C_lines b_C_lines 1 (some .int) :: lwG)) B.pre w (List.mem_cons_of_mem _ h), B.returns, B.notSynchronized⟩
  obtain ⟨hx, hb, hml, hown, hts, hr, hlocks⟩ := id xc
  have hl := lv_entry ([.ref (cA L 2)]) (n := 1) (Nat.le_of_ble_eq_true rfl)
  rw [lg_entry_eq]
  generalize (lg_sl ([.ref (cA L 2)]) ++ List.replicate (1 - (lg_sl ([.ref (cA L 2)])).length) Slot.unset).toArray = ls at hl ⊢
  have hl : lv_has ls 1 [(0, .ref (cA L 2))] := hl
  refine lv_aload_n hx hb d_C_lines_0 rfl (lv_at hl 0 rfl) ?_
  refine va_get (D := L.1) (ci := 2) (v := .int (I 2)) (C := qR2) (T := qT2) (N := 3) hx hb hts qi2 hown hK hP 2 rfl rfl 1 (by decide) (hts _ wG146) (fun _ h9 => h9) rfl d_C_lines_1 ?_
  refine lv_iconst (v := 2) hx hb d_C_lines_4 (by decide) ?_
  refine lv_iadd hx hb d_C_lines_5 ?_
  exact W.iret hx hb hr (fun t ht _ => ⟨_, rfl, h, ht⟩) (fun _ h9 => nomatch h9) d_C_lines_6
abbrev rm_F_needPoint : Room := { frames := 7, cells := 2, slots := 12, locals := 116 }
set_option maxHeartbeats 4000000 in
set_option maxRecDepth 100000 in
theorem c_F_needPoint (l : Launch) (L : cL) (hst : l.stackTraces = false) (a1 : Int32) (a2 : Int32) (I : MI) (F : MF) (G : MG) (sz : Nat) (post : MI → MF → MG → Prop) (thr : String → MI → MF → MG → Prop) (h : wp_F_needPoint a1 a2 I F G post thr) : tx_Met l y_F_needPoint (.code y_F_needPoint b_F_needPoint 3 (none) :: lwG) rm_F_needPoint (cPx L I F G sz [.ref (cA L 0), .int a1, .int a2]) (cRv L (cAA L I F G sz) post (cAA L I F G sz)) (cX L (cAA L I F G sz) thr (cAA L I F G sz)) 2 12 (cAA L I F G sz) := by
  refine tx_ofW (cc := b_F_needPoint) (maxL := 3) (ret := (none)) (by decide) rfl ?_
  intro p e s m args below meth c s₁ B hml hnt hv
  obtain ⟨rfl, hsz, hP, hK, hD0, hN, hz, hsr⟩ := hv
  have xc : xC p s m _ meth c b_F_needPoint 3 lwG qR0 (none) := ⟨B.exec, B.bytes, hml, findClass_of_methodNamed B.named, fun w h => atoms_spec (ws := (.code y_F_needPoint b_F_needPoint 3 (none) :: lwG)) B.pre w (List.mem_cons_of_mem _ h), B.returns, B.notSynchronized⟩
  obtain ⟨hx, hb, hml, hown, hts, hr, hlocks⟩ := id xc
  subst hsz
  have hD : va_D (cAA L I F G s.heap.size) (WC L I F G) := hD0.self
  have hA0 : ∀ q : Nat, s.heap.size ≤ q → cAA L I F G s.heap.size q := fun q h => Or.inr h
  generalize cAA L I F G s.heap.size = A at hD hA0 hz ⊢
  have hA := hA0
  have hw : CW L A s.heap I F G s.heap [] := ⟨hP, hD, va_S.rf⟩
  have hl := lv_entry ([.ref (cA L 0), .int a1, .int a2]) (n := 3) (Nat.le_of_ble_eq_true rfl)
  rw [lg_entry_eq]
  generalize (lg_sl ([.ref (cA L 0), .int a1, .int a2]) ++ List.replicate (3 - (lg_sl ([.ref (cA L 0), .int a1, .int a2])).length) Slot.unset).toArray = ls at hl ⊢
  have hl : lv_has ls 3 [(0, .ref (cA L 0)), (1, .int a1), (2, .int a2)] := hl
  refine lv_aload_n hx hb d_F_needPoint_0 rfl (lv_at hl 0 rfl) ?_
  refine c_callXv (tx_runV (As := []) (rest := []) ⟨hx, hb, hml, hown, hts⟩ (c_F_needRouted l L hst I F G _ _ _ h) (cwV 0 hts (gV wG521 wG523 wG9 wG48 wG524) rfl rfl rfl (by decide +kernel) ⟨Nat.le_of_ble_eq_true rfl, Nat.le_of_ble_eq_true rfl⟩) (cPrx0 hK hN hw hA hz hsr) rfl rfl hl.1 rfl (lv_room (Nat.le_of_ble_eq_true rfl)) d_F_needPoint_1 ⟨Nat.le_of_ble_eq_true rfl, Nat.le_of_ble_eq_true rfl⟩) hw hA hK hnt hlocks (Nat.le_of_ble_eq_true rfl) (Nat.le_of_ble_eq_true rfl) (fun I_1 F_1 G_1 H locs h hw => ?_)
  refine lv_iload_n hx hb d_F_needPoint_4 rfl (lv_at hl 1 rfl) ?_
  refine lv_aload_n hx hb d_F_needPoint_5 rfl (lv_at hl 0 rfl) ?_
  refine va_get (D := L.1) (ci := 0) (v := .ref (cA L 2)) (C := qR0) (T := qT0) (N := 5) hx hb hts qi0 hown hK hw.1 0 rfl rfl 1 (by decide) (hts _ wG220) (fun _ h9 => h9) rfl d_F_needPoint_6 ?_
  refine vp_callSi (va_runV (As := []) (rest := [.int a1]) ⟨hx, hb, hml, hown, hts⟩ (c_C_lines l L I_1 F_1 G_1 _ h) (cwV 0 hts (gV wG526 wG527 wG528 wG51 wG529) rfl rfl rfl (by decide +kernel) ⟨Nat.le_of_ble_eq_true rfl, Nat.le_of_ble_eq_true rfl⟩) (cPre2 hK hN hw.1) rfl rfl hl.1 rfl (lv_room (Nat.le_of_ble_eq_true rfl)) d_F_needPoint_9 ⟨Nat.le_of_ble_eq_true rfl, Nat.le_of_ble_eq_true rfl⟩).run (fun r_2 h => ?_)
  refine vp_callSi (va_runS (As := [.int a1, .int r_2]) (rest := []) ⟨hx, hb, hml, hown, hts⟩ (c_F_within l a1 r_2 _ h) (va_cwS 2 hts (gS wG249 wG250 wG48 wG251) rfl rfl rfl (by decide +kernel) ⟨Nat.le_of_ble_eq_true rfl, Nat.le_of_ble_eq_true rfl⟩) ⟨sPc_blind _, fun U hU hW => ⟨rfl, trivial⟩⟩ rfl rfl hl.1 rfl (lv_room (Nat.le_of_ble_eq_true rfl)) d_F_needPoint_12 ⟨Nat.le_of_ble_eq_true rfl, Nat.le_of_ble_eq_true rfl⟩).run (fun r_3 h => ?_)
  refine lv_if_eq (tgt := 27) hx hb d_F_needPoint_15 (by decide) (fun c_4 => ?_) (fun c_4 => ?_)
  · replace h := h.1 c_4
    obtain ⟨sa, hsa⟩ := hsr.1 (qR0, 216, "no such point of the drawing") (by decide +kernel)
    exact tx_throwS (Ts := lwH) hx hb hst hown (cHts hts hsr.2) hz hw.2.2 (by decide +kernel) (by decide +kernel) th_F_208_212 hsa (hl.1.trans hml.symm) d_F_needPoint_27 d_F_needPoint_30 d_F_needPoint_31 d_F_needPoint_33 d_F_needPoint_36 hnt (Nat.le_of_ble_eq_true rfl) (Nat.le_of_ble_eq_true rfl) (Nat.le_of_ble_eq_true rfl) (Nat.le_of_ble_eq_true rfl) hlocks (cX_of hw hK h) hw.2.2.2.2 (Nat.le_of_ble_eq_true rfl) (Nat.le_of_ble_eq_true rfl)
  · replace h := h.2 c_4
    refine lv_iload_n hx hb d_F_needPoint_18 rfl (lv_at hl 2 rfl) ?_
    refine lv_bipush (v := 24) hx hb d_F_needPoint_19 (by decide) ?_
    refine vp_callSi (va_runS (As := [.int a2, .int 24]) (rest := []) ⟨hx, hb, hml, hown, hts⟩ (c_F_within l a2 24 _ h) (va_cwS 2 hts (gS wG249 wG250 wG48 wG251) rfl rfl rfl (by decide +kernel) ⟨Nat.le_of_ble_eq_true rfl, Nat.le_of_ble_eq_true rfl⟩) ⟨sPc_blind _, fun U hU hW => ⟨rfl, trivial⟩⟩ rfl rfl hl.1 rfl (lv_room (Nat.le_of_ble_eq_true rfl)) d_F_needPoint_21 ⟨Nat.le_of_ble_eq_true rfl, Nat.le_of_ble_eq_true rfl⟩).run (fun r_5 h => ?_)
    refine lv_if_ne (tgt := 37) hx hb d_F_needPoint_24 (by decide) (fun c_6 => ?_) (fun c_6 => ?_)
    · replace h := h.1 c_6
      refine W.widen (k := 2) (n := 12) (Nat.le_of_ble_eq_true rfl) (Nat.le_of_ble_eq_true rfl) ?_
      refine tx_ret ?_
      exact W.vret hx hb hr (fun t ht hW => ⟨⟨_, (I_1, F_1, G_1), rfl, ⟨rfl, h⟩, by rw [ht]; exact hw.1, va_K.moved hW.alike hK, hw.2.1⟩, hw.2.2.F ht⟩) hw.2.2.2.2 d_F_needPoint_37
    · replace h := h.2 c_6
      obtain ⟨sa, hsa⟩ := hsr.1 (qR0, 216, "no such point of the drawing") (by decide +kernel)
      exact tx_throwS (Ts := lwH) hx hb hst hown (cHts hts hsr.2) hz hw.2.2 (by decide +kernel) (by decide +kernel) th_F_208_212 hsa (hl.1.trans hml.symm) d_F_needPoint_27 d_F_needPoint_30 d_F_needPoint_31 d_F_needPoint_33 d_F_needPoint_36 hnt (Nat.le_of_ble_eq_true rfl) (Nat.le_of_ble_eq_true rfl) (Nat.le_of_ble_eq_true rfl) (Nat.le_of_ble_eq_true rfl) hlocks (cX_of hw hK h) hw.2.2.2.2 (Nat.le_of_ble_eq_true rfl) (Nat.le_of_ble_eq_true rfl)
abbrev rm_F_mask : Room := { frames := 8, cells := 2, slots := 12, locals := 138 }
set_option maxHeartbeats 4000000 in
set_option maxRecDepth 100000 in
theorem c_F_mask (l : Launch) (L : cL) (hst : l.stackTraces = false) (a1 : Int32) (a2 : Int32) (I : MI) (F : MF) (G : MG) (sz : Nat) (post : Int32 → MI → MF → MG → Prop) (thr : String → MI → MF → MG → Prop) (h : wp_F_mask a1 a2 I F G post thr) : tx_Met l y_F_mask (.code y_F_mask b_F_mask 3 (some .int) :: lwG) rm_F_mask (cPx L I F G sz [.ref (cA L 0), .int a1, .int a2]) (cRi L (cAA L I F G sz) post (cAA L I F G sz)) (cX L (cAA L I F G sz) thr (cAA L I F G sz)) 2 12 (cAA L I F G sz) := by
  refine tx_ofW (cc := b_F_mask) (maxL := 3) (ret := (some .int)) (by decide) rfl ?_
  intro p e s m args below meth c s₁ B hml hnt hv
  obtain ⟨rfl, hsz, hP, hK, hD0, hN, hz, hsr⟩ := hv
  have xc : xC p s m _ meth c b_F_mask 3 lwG qR0 (some .int) := ⟨B.exec, B.bytes, hml, findClass_of_methodNamed B.named, fun w h => atoms_spec (ws := (.code y_F_mask b_F_mask 3 (some .int) :: lwG)) B.pre w (List.mem_cons_of_mem _ h), B.returns, B.notSynchronized⟩
  obtain ⟨hx, hb, hml, hown, hts, hr, hlocks⟩ := id xc
  subst hsz
  have hD : va_D (cAA L I F G s.heap.size) (WC L I F G) := hD0.self
  have hA0 : ∀ q : Nat, s.heap.size ≤ q → cAA L I F G s.heap.size q := fun q h => Or.inr h
  generalize cAA L I F G s.heap.size = A at hD hA0 hz ⊢
  have hA := hA0
  have hw : CW L A s.heap I F G s.heap [] := ⟨hP, hD, va_S.rf⟩
  have hl := lv_entry ([.ref (cA L 0), .int a1, .int a2]) (n := 3) (Nat.le_of_ble_eq_true rfl)
  rw [lg_entry_eq]
  generalize (lg_sl ([.ref (cA L 0), .int a1, .int a2]) ++ List.replicate (3 - (lg_sl ([.ref (cA L 0), .int a1, .int a2])).length) Slot.unset).toArray = ls at hl ⊢
  have hl : lv_has ls 3 [(0, .ref (cA L 0)), (1, .int a1), (2, .int a2)] := hl
  refine lv_aload_n hx hb d_F_mask_0 rfl (lv_at hl 0 rfl) ?_
  refine lv_iload_n hx hb d_F_mask_1 rfl (lv_at hl 1 rfl) ?_
  refine lv_iload_n hx hb d_F_mask_2 rfl (lv_at hl 2 rfl) ?_
  refine c_callXv (tx_runV (As := [.int a1, .int a2]) (rest := []) ⟨hx, hb, hml, hown, hts⟩ (c_F_needPoint l L hst a1 a2 I F G _ _ _ h) (cwV 2 hts (gV wG517 wG519 wG8 wG48 wG520) rfl rfl rfl (by decide +kernel) ⟨Nat.le_of_ble_eq_true rfl, Nat.le_of_ble_eq_true rfl⟩) (cPrx0 hK hN hw hA hz hsr) rfl rfl hl.1 rfl (lv_room (Nat.le_of_ble_eq_true rfl)) d_F_mask_3 ⟨Nat.le_of_ble_eq_true rfl, Nat.le_of_ble_eq_true rfl⟩) hw hA hK hnt hlocks (Nat.le_of_ble_eq_true rfl) (Nat.le_of_ble_eq_true rfl) (fun I_1 F_1 G_1 H locs h hw => ?_)
  refine lv_aload_n hx hb d_F_mask_6 rfl (lv_at hl 0 rfl) ?_
  refine va_get (D := L.1) (ci := 0) (v := .ref (cA L 3)) (C := qR0) (T := qT0) (N := 5) hx hb hts qi0 hown hK hw.1 0 rfl rfl 2 (by decide) (hts _ wG221) (fun _ h9 => h9) rfl d_F_mask_7 ?_
  refine va_get (D := L.1) (ci := 3) (v := .ref (cA L 7)) (C := qR3) (T := qT3) (N := 7) hx hb hts qi3 hown hK hw.1 3 rfl rfl 2 (by decide) (hts _ wG169) (fun _ h9 => h9) rfl d_F_mask_10 ?_
  refine lv_iload_n hx hb d_F_mask_13 rfl (lv_at hl 1 rfl) ?_
  obtain ⟨hi_2, h⟩ := h
  refine c_row7 hx hb hK hw.1 hi_2 d_F_mask_14 ?_
  refine lv_iload_n hx hb d_F_mask_15 rfl (lv_at hl 2 rfl) ?_
  obtain ⟨hi_3, h⟩ := h
  refine c_iald hx hb hK hw.1 (19 + a1.toNatClampNeg) (row_lt19 hi_2) (row_len19 hi_2) hi_3 d_F_mask_16 ?_
  refine W.widen (k := 2) (n := 12) (Nat.le_of_ble_eq_true rfl) (Nat.le_of_ble_eq_true rfl) ?_
  refine tx_ret ?_
  exact W.iret hx hb hr (fun t ht hW => ⟨⟨_, (I_1, F_1, G_1), rfl, ⟨_, rfl, h⟩, by rw [ht]; exact hw.1, va_K.moved hW.alike hK, hw.2.1⟩, hw.2.2.F ht⟩) hw.2.2.2.2 d_F_mask_17
abbrev rm_F_damage : Room := { frames := 8, cells := 3, slots := 18, locals := 138 }
set_option maxHeartbeats 4000000 in
set_option maxRecDepth 100000 in
theorem c_F_damage (l : Launch) (L : cL) (hst : l.stackTraces = false) (a1 : Int32) (a2 : Int32) (a3 : Int32) (I : MI) (F : MF) (G : MG) (sz : Nat) (post : Int32 → MI → MF → MG → Prop) (thr : String → MI → MF → MG → Prop) (h : wp_F_damage a1 a2 a3 I F G post thr) : tx_Met l y_F_damage (.code y_F_damage b_F_damage 5 (some .int) :: lwG) rm_F_damage (cPx L I F G sz [.ref (cA L 0), .int a1, .int a2, .int a3]) (cRi L (cAA L I F G sz) post (cAA L I F G sz)) (cX L (cAA L I F G sz) thr (cAA L I F G sz)) 3 18 (cAA L I F G sz) := by
  refine tx_ofW (cc := b_F_damage) (maxL := 5) (ret := (some .int)) (by decide) rfl ?_
  intro p e s m args below meth c s₁ B hml hnt hv
  obtain ⟨rfl, hsz, hP, hK, hD0, hN, hz, hsr⟩ := hv
  have xc : xC p s m _ meth c b_F_damage 5 lwG qR0 (some .int) := ⟨B.exec, B.bytes, hml, findClass_of_methodNamed B.named, fun w h => atoms_spec (ws := (.code y_F_damage b_F_damage 5 (some .int) :: lwG)) B.pre w (List.mem_cons_of_mem _ h), B.returns, B.notSynchronized⟩
  obtain ⟨hx, hb, hml, hown, hts, hr, hlocks⟩ := id xc
  subst hsz
  have hD : va_D (cAA L I F G s.heap.size) (WC L I F G) := hD0.self
  have hA0 : ∀ q : Nat, s.heap.size ≤ q → cAA L I F G s.heap.size q := fun q h => Or.inr h
  generalize cAA L I F G s.heap.size = A at hD hA0 hz ⊢
  have hA := hA0
  have hw : CW L A s.heap I F G s.heap [] := ⟨hP, hD, va_S.rf⟩
  have hl := lv_entry ([.ref (cA L 0), .int a1, .int a2, .int a3]) (n := 5) (Nat.le_of_ble_eq_true rfl)
  rw [lg_entry_eq]
  generalize (lg_sl ([.ref (cA L 0), .int a1, .int a2, .int a3]) ++ List.replicate (5 - (lg_sl ([.ref (cA L 0), .int a1, .int a2, .int a3])).length) Slot.unset).toArray = ls at hl ⊢
  have hl : lv_has ls 5 [(0, .ref (cA L 0)), (1, .int a1), (2, .int a2), (3, .int a3)] := hl
  refine lv_iload_n hx hb d_F_damage_0 rfl (lv_at hl 3 rfl) ?_
  refine lv_if_lt (tgt := 10) hx hb d_F_damage_1 (by decide) (fun c_1 => ?_) (fun c_1 => ?_)
  · replace h := h.1 c_1
    obtain ⟨sa, hsa⟩ := hsr.1 (qR0, 137, "a point holds 0 to 7") (by decide +kernel)
    exact tx_throwS (Ts := lwH) hx hb hst hown (cHts hts hsr.2) hz hw.2.2 (by decide +kernel) (by decide +kernel) th_F_49_53 hsa (hl.1.trans hml.symm) d_F_damage_10 d_F_damage_13 d_F_damage_14 d_F_damage_16 d_F_damage_19 hnt (Nat.le_of_ble_eq_true rfl) (Nat.le_of_ble_eq_true rfl) (Nat.le_of_ble_eq_true rfl) (Nat.le_of_ble_eq_true rfl) hlocks (cX_of hw hK h) hw.2.2.2.2 (Nat.le_of_ble_eq_true rfl) (Nat.le_of_ble_eq_true rfl)
  · replace h := h.2 c_1
    refine lv_iload_n hx hb d_F_damage_4 rfl (lv_at hl 3 rfl) ?_
    refine lv_bipush (v := 7) hx hb d_F_damage_5 (by decide) ?_
    refine lv_icmp_le (tgt := 20) hx hb d_F_damage_7 (by decide) (fun c_2 => ?_) (fun c_2 => ?_)
    · replace h := h.1 c_2
      refine lv_aload_n hx hb d_F_damage_20 rfl (lv_at hl 0 rfl) ?_
      refine lv_iload_n hx hb d_F_damage_21 rfl (lv_at hl 1 rfl) ?_
      refine lv_iload_n hx hb d_F_damage_22 rfl (lv_at hl 2 rfl) ?_
      refine c_callXv (tx_runV (As := [.int a1, .int a2]) (rest := []) ⟨hx, hb, hml, hown, hts⟩ (c_F_needPoint l L hst a1 a2 I F G _ _ _ h) (cwV 2 hts (gV wG517 wG519 wG8 wG48 wG520) rfl rfl rfl (by decide +kernel) ⟨Nat.le_of_ble_eq_true rfl, Nat.le_of_ble_eq_true rfl⟩) (cPrx0 hK hN hw hA hz hsr) rfl rfl hl.1 rfl (lv_room (Nat.le_of_ble_eq_true rfl)) d_F_damage_23 ⟨Nat.le_of_ble_eq_true rfl, Nat.le_of_ble_eq_true rfl⟩) hw hA hK hnt hlocks (Nat.le_of_ble_eq_true rfl) (Nat.le_of_ble_eq_true rfl) (fun I_3 F_3 G_3 H locs h hw => ?_)
      refine lv_aload_n hx hb d_F_damage_26 rfl (lv_at hl 0 rfl) ?_
      refine va_get (D := L.1) (ci := 0) (v := .ref (cA L 3)) (C := qR0) (T := qT0) (N := 5) hx hb hts qi0 hown hK hw.1 0 rfl rfl 2 (by decide) (hts _ wG221) (fun _ h9 => h9) rfl d_F_damage_27 ?_
      refine va_get (D := L.1) (ci := 3) (v := .ref (cA L 7)) (C := qR3) (T := qT3) (N := 7) hx hb hts qi3 hown hK hw.1 3 rfl rfl 2 (by decide) (hts _ wG169) (fun _ h9 => h9) rfl d_F_damage_30 ?_
      refine lv_iload_n hx hb d_F_damage_33 rfl (lv_at hl 1 rfl) ?_
      obtain ⟨hi_4, h⟩ := h
      refine c_row7 hx hb hK hw.1 hi_4 d_F_damage_34 ?_
      refine lv_iload_n hx hb d_F_damage_35 rfl (lv_at hl 2 rfl) ?_
      obtain ⟨hi_5, h⟩ := h
      refine c_iald hx hb hK hw.1 (19 + a1.toNatClampNeg) (row_lt19 hi_4) (row_len19 hi_4) hi_5 d_F_damage_36 ?_
      refine lv_topi (fun x_6 ex_6 => ?_)
      replace h := h x_6 ex_6
      refine lv_istore (lv' := [(4, .int x_6), (0, .ref (cA L 0)), (1, .int a1), (2, .int a2), (3, .int a3)]) hx hb d_F_damage_37 hl (by decide) rfl (fun ls hl => ?_)
      refine lv_aload_n hx hb d_F_damage_39 rfl (lv_at hl 1 rfl) ?_
      refine va_get (D := L.1) (ci := 0) (v := .ref (cA L 3)) (C := qR0) (T := qT0) (N := 5) hx hb hts qi0 hown hK hw.1 0 rfl rfl 2 (by decide) (hts _ wG221) (fun _ h9 => h9) rfl d_F_damage_40 ?_
      refine va_get (D := L.1) (ci := 3) (v := .ref (cA L 7)) (C := qR3) (T := qT3) (N := 7) hx hb hts qi3 hown hK hw.1 3 rfl rfl 2 (by decide) (hts _ wG169) (fun _ h9 => h9) rfl d_F_damage_43 ?_
      refine lv_iload_n hx hb d_F_damage_46 rfl (lv_at hl 2 rfl) ?_
      obtain ⟨hi_7, h⟩ := h
      refine c_row7 hx hb hK hw.1 hi_7 d_F_damage_47 ?_
      refine lv_iload_n hx hb d_F_damage_48 rfl (lv_at hl 3 rfl) ?_
      refine lv_iload_n hx hb d_F_damage_49 rfl (lv_at hl 4 rfl) ?_
      obtain ⟨hi_8, h⟩ := h
      refine c_iast hx hb hK hw (19 + a1.toNatClampNeg) (row_lt19 hi_7) (row_len19 hi_7) hi_8 d_F_damage_50 (fun H locs hw => ?_)
      obtain ⟨F_9, eF_9⟩ : ∃ y : MF, y = setF F_3 (19 + a1.toNatClampNeg) (upd (F_3 (19 + a1.toNatClampNeg)) a2.toNatClampNeg a3) := ⟨_, rfl⟩
      rw [← eF_9] at hw
      replace h := h F_9 eF_9
      refine lv_iload hx hb d_F_damage_51 (lv_at hl 0 rfl) ?_
      refine W.widen (k := 3) (n := 18) (Nat.le_of_ble_eq_true rfl) (Nat.le_of_ble_eq_true rfl) ?_
      refine tx_ret ?_
      exact W.iret hx hb hr (fun t ht hW => ⟨⟨_, (I_3, F_9, G_3), rfl, ⟨_, rfl, h⟩, by rw [ht]; exact hw.1, va_K.moved hW.alike hK, hw.2.1⟩, hw.2.2.F ht⟩) hw.2.2.2.2 d_F_damage_53
    · replace h := h.2 c_2
      obtain ⟨sa, hsa⟩ := hsr.1 (qR0, 137, "a point holds 0 to 7") (by decide +kernel)
      exact tx_throwS (Ts := lwH) hx hb hst hown (cHts hts hsr.2) hz hw.2.2 (by decide +kernel) (by decide +kernel) th_F_49_53 hsa (hl.1.trans hml.symm) d_F_damage_10 d_F_damage_13 d_F_damage_14 d_F_damage_16 d_F_damage_19 hnt (Nat.le_of_ble_eq_true rfl) (Nat.le_of_ble_eq_true rfl) (Nat.le_of_ble_eq_true rfl) (Nat.le_of_ble_eq_true rfl) hlocks (cX_of hw hK h) hw.2.2.2.2 (Nat.le_of_ble_eq_true rfl) (Nat.le_of_ble_eq_true rfl)
abbrev rm_D_spot : Room := { frames := 0, cells := 0, slots := 0, locals := 0 }
set_option maxHeartbeats 4000000 in
set_option maxRecDepth 100000 in
theorem c_D_spot (l : Launch) (a0 : Int32) (a1 : Int32) (a2 : Int32) (post : Int32 → Prop) (h : wp_D_spot a0 a1 a2 post) : Met l y_D_spot (.code y_D_spot b_D_spot 3 (some .int) :: lwG) rm_D_spot (sPc [.int a0, .int a1, .int a2]) (vp_Si post) 0 0 (fun _ => False) := by
  refine Met.ofW (cc := b_D_spot) (maxL := 3) (ret := (some .int)) (by decide) rfl ?_
  intro p e s m args below meth c s₁ B hml hv
  obtain ⟨rfl, -⟩ := hv
  have xc : xC p s m _ meth c b_D_spot 3 lwG qR3 (some .int) := ⟨B.exec, B.bytes, hml, findClass_of_methodNamed B.named, fun w h => atoms_spec (ws := (.code y_D_spot b_D_spot 3 (some .int) :: lwG)) B.pre w (List.mem_cons_of_mem _ h), B.returns, B.notSynchronized⟩
  obtain ⟨hx, hb, hml, hown, hts, hr, hlocks⟩ := id xc
  have hl := lv_entry ([.int a0, .int a1, .int a2]) (n := 3) (Nat.le_of_ble_eq_true rfl)
  rw [lg_entry_eq]
  generalize (lg_sl ([.int a0, .int a1, .int a2]) ++ List.replicate (3 - (lg_sl ([.int a0, .int a1, .int a2])).length) Slot.unset).toArray = ls at hl ⊢
  have hl : lv_has ls 3 [(0, .int a0), (1, .int a1), (2, .int a2)] := hl
  refine lv_iload_n hx hb d_D_spot_0 rfl (lv_at hl 0 rfl) ?_
  refine lv_bipush (v := 24) hx hb d_D_spot_1 (by decide) ?_
  refine lv_imul hx hb d_D_spot_3 ?_
  refine lv_iload_n hx hb d_D_spot_4 rfl (lv_at hl 1 rfl) ?_
  refine lv_iadd hx hb d_D_spot_5 ?_
  refine lv_iconst (v := 2) hx hb d_D_spot_6 (by decide) ?_
  refine lv_imul hx hb d_D_spot_7 ?_
  refine lv_iload_n hx hb d_D_spot_8 rfl (lv_at hl 2 rfl) ?_
  refine lv_iadd hx hb d_D_spot_9 ?_
  exact W.iret hx hb hr (fun t ht _ => ⟨_, rfl, h, ht⟩) (fun _ h9 => nomatch h9) d_D_spot_10
abbrev rm_D_group : Room := { frames := 0, cells := 0, slots := 0, locals := 0 }
set_option maxHeartbeats 4000000 in
set_option maxRecDepth 100000 in
theorem Wl_D_group_4 {p : Program} {l : Launch} {e : Env} {s : State} {m : MethodId} {args : Array Value} {below : List Frame} {meth : Method} {c : Code} {L : cL} {A : Nat → Prop} {post : Int32 → MI → MF → MG → Prop} {K : Int32 → Int32 → MI → MF → MG → Prop} {a1 : Int32} (xc : xC p s m args meth c b_D_group 4 lwG qR3 (some .int)) (hK : va_K L.1 vwCl (cTys L) s) (hN : cNk s) (hA : ∀ q, s.heap.size ≤ q → A q)
    (hk : ∀ (a2 : Int32) (a3 : Int32) (I : MI) (F : MF) (G : MG) (H : Heap) (locs : List Loc) (ls : Array Slot), K a2 a3 I F G → CW L A s.heap I F G H locs → lv_has ls 4 [(0, .ref (cA L 3)), (1, .int a1), (2, .int a2), (3, .int a3)] → W p l e rm_D_group s m args below meth c H locs 0 0 (MQ below (cQi L A post A) args s 0 0 A) (F0 m 51 ls [])) :
    ∀ (n : Nat) (a2 : Int32) (a3 : Int32) (I : MI) (F : MF) (G : MG) (H : Heap) (locs : List Loc) (ls : Array Slot), wl_D_group_4 post K a1 n a2 a3 I F G → CW L A s.heap I F G H locs → lv_has ls 4 [(0, .ref (cA L 3)), (1, .int a1), (2, .int a2), (3, .int a3)] → W p l e rm_D_group s m args below meth c H locs 0 0 (MQ below (cQi L A post A) args s 0 0 A) (F0 m 4 ls []) := by
  obtain ⟨hx, hb, hml, hown, hts, hr, hlocks⟩ := id xc
  intro n
  induction n with
  | zero => intro a2 a3 I F G H locs ls h; exact absurd h id
  | succ n ih =>
    intro a2 a3 I F G H locs ls h hw hl
    refine lv_iload_n hx hb d_D_group_4 rfl (lv_at hl 3 rfl) ?_
    refine lv_sipush (v := 528) hx hb d_D_group_5 (by decide) ?_
    refine lv_icmp_ge (tgt := 51) hx hb d_D_group_8 (by decide) (fun c_1 => ?_) (fun c_1 => ?_)
    · replace h := h.1 c_1
      exact hk a2 a3 I F G _ _ ls h hw (lv_sub hl [0, 1, 2, 3] rfl)
    · replace h := h.2 c_1
      refine lv_aload_n hx hb d_D_group_11 rfl (lv_at hl 0 rfl) ?_
      refine va_get (D := L.1) (ci := 3) (v := .ref (cA L 21)) (C := qR3) (T := qT3) (N := 7) hx hb hts qi3 hown hK hw.1 3 rfl rfl 3 (by decide) (hts _ wG170) (fun _ h9 => h9) rfl d_D_group_12 ?_
      refine lv_iload_n hx hb d_D_group_15 rfl (lv_at hl 2 rfl) ?_
      obtain ⟨hi_2, h⟩ := h
      refine c_iald hx hb hK hw.1 11 (by decide) rfl hi_2 d_D_group_16 ?_
      refine lv_iload_n hx hb d_D_group_17 rfl (lv_at hl 2 rfl) ?_
      refine lv_icmp_eq (tgt := 51) hx hb d_D_group_18 (by decide) (fun c_3 => ?_) (fun c_3 => ?_)
      · replace h := h.1 c_3
        exact hk a2 a3 I F G _ _ ls h hw (lv_sub hl [0, 1, 2, 3] rfl)
      · replace h := h.2 c_3
        refine lv_aload_n hx hb d_D_group_21 rfl (lv_at hl 0 rfl) ?_
        refine va_get (D := L.1) (ci := 3) (v := .ref (cA L 21)) (C := qR3) (T := qT3) (N := 7) hx hb hts qi3 hown hK hw.1 3 rfl rfl 3 (by decide) (hts _ wG170) (fun _ h9 => h9) rfl d_D_group_22 ?_
        refine lv_iload_n hx hb d_D_group_25 rfl (lv_at hl 2 rfl) ?_
        refine lv_aload_n hx hb d_D_group_26 rfl (lv_at hl 0 rfl) ?_
        refine va_get (D := L.1) (ci := 3) (v := .ref (cA L 21)) (C := qR3) (T := qT3) (N := 7) hx hb hts qi3 hown hK hw.1 3 rfl rfl 3 (by decide) (hts _ wG170) (fun _ h9 => h9) rfl d_D_group_27 ?_
        refine lv_aload_n hx hb d_D_group_30 rfl (lv_at hl 0 rfl) ?_
        refine va_get (D := L.1) (ci := 3) (v := .ref (cA L 21)) (C := qR3) (T := qT3) (N := 7) hx hb hts qi3 hown hK hw.1 3 rfl rfl 3 (by decide) (hts _ wG170) (fun _ h9 => h9) rfl d_D_group_31 ?_
        refine lv_iload_n hx hb d_D_group_34 rfl (lv_at hl 2 rfl) ?_
        obtain ⟨hi_4, h⟩ := h
        refine c_iald hx hb hK hw.1 11 (by decide) rfl hi_4 d_D_group_35 ?_
        obtain ⟨hi_5, h⟩ := h
        refine c_iald hx hb hK hw.1 11 (by decide) rfl hi_5 d_D_group_36 ?_
        obtain ⟨hi_6, h⟩ := h
        refine c_iast hx hb hK hw 11 (by decide) rfl hi_6 d_D_group_37 (fun H locs hw => ?_)
        obtain ⟨F_7, eF_7⟩ : ∃ y : MF, y = setF F 11 (upd (F 11) a2.toNatClampNeg (F 11 (F 11 a2.toNatClampNeg).toNatClampNeg)) := ⟨_, rfl⟩
        rw [← eF_7] at hw
        replace h := h F_7 eF_7
        refine lv_aload_n hx hb d_D_group_38 rfl (lv_at hl 0 rfl) ?_
        refine va_get (D := L.1) (ci := 3) (v := .ref (cA L 21)) (C := qR3) (T := qT3) (N := 7) hx hb hts qi3 hown hK hw.1 3 rfl rfl 3 (by decide) (hts _ wG170) (fun _ h9 => h9) rfl d_D_group_39 ?_
        refine lv_iload_n hx hb d_D_group_42 rfl (lv_at hl 2 rfl) ?_
        obtain ⟨hi_8, h⟩ := h
        refine c_iald hx hb hK hw.1 11 (by decide) rfl hi_8 d_D_group_43 ?_
        refine lv_topi (fun x_9 ex_9 => ?_)
        replace h := h x_9 ex_9
        refine lv_istore_n (lv' := [(2, .int x_9), (0, .ref (cA L 3)), (1, .int a1), (3, .int a3)]) hx hb d_D_group_44 rfl hl (by decide) rfl (fun ls hl => ?_)
        obtain ⟨x_10, ex_10⟩ : ∃ y : Int32, y = a3 + 1 := ⟨_, rfl⟩
        replace h := h x_10 ex_10
        refine lv_iinc (v := x_10) (lv' := [(3, .int x_10), (2, .int x_9), (0, .ref (cA L 3)), (1, .int a1)]) hx hb d_D_group_45 hl (k := 3) rfl (by rw [ex_10]; rfl) (by decide) rfl (fun ls hl => ?_)
        refine lv_goto (tgt := 4) hx hb d_D_group_48 (by decide) ?_
        exact ih x_9 x_10 I F_7 G _ _ ls h hw (lv_sub hl [2, 3, 1, 0] rfl)
set_option maxHeartbeats 4000000 in
set_option maxRecDepth 100000 in
theorem c_D_group (l : Launch) (L : cL) (a1 : Int32) (I : MI) (F : MF) (G : MG) (sz : Nat) (post : Int32 → MI → MF → MG → Prop) (h : wp_D_group a1 I F G post) : Met l y_D_group (.code y_D_group b_D_group 4 (some .int) :: lwG) rm_D_group (cPm L I F G sz [.ref (cA L 3), .int a1]) (cQi L (cAA L I F G sz) post (cAA L I F G sz)) 0 0 (cAA L I F G sz) := by
  refine Met.ofW (cc := b_D_group) (maxL := 4) (ret := (some .int)) (by decide) rfl ?_
  intro p e s m args below meth c s₁ B hml hv
  obtain ⟨rfl, hsz, hP, hK, hD0, hN⟩ := hv
  have xc : xC p s m _ meth c b_D_group 4 lwG qR3 (some .int) := ⟨B.exec, B.bytes, hml, findClass_of_methodNamed B.named, fun w h => atoms_spec (ws := (.code y_D_group b_D_group 4 (some .int) :: lwG)) B.pre w (List.mem_cons_of_mem _ h), B.returns, B.notSynchronized⟩
  obtain ⟨hx, hb, hml, hown, hts, hr, hlocks⟩ := id xc
  subst hsz
  have hD : va_D (cAA L I F G s.heap.size) (WC L I F G) := hD0.self
  have hA0 : ∀ q : Nat, s.heap.size ≤ q → cAA L I F G s.heap.size q := fun q h => Or.inr h
  generalize cAA L I F G s.heap.size = A at hD hA0 ⊢
  have hA := hA0
  have hw : CW L A s.heap I F G s.heap [] := ⟨hP, hD, va_S.rf⟩
  have hl := lv_entry ([.ref (cA L 3), .int a1]) (n := 4) (Nat.le_of_ble_eq_true rfl)
  rw [lg_entry_eq]
  generalize (lg_sl ([.ref (cA L 3), .int a1]) ++ List.replicate (4 - (lg_sl ([.ref (cA L 3), .int a1])).length) Slot.unset).toArray = ls at hl ⊢
  have hl : lv_has ls 4 [(0, .ref (cA L 3)), (1, .int a1)] := hl
  refine lv_iload_n hx hb d_D_group_0 rfl (lv_at hl 1 rfl) ?_
  refine lv_istore_n (lv' := [(2, .int a1), (0, .ref (cA L 3)), (1, .int a1)]) hx hb d_D_group_1 rfl hl (by decide) rfl (fun ls hl => ?_)
  refine lv_iconst (v := 0) hx hb d_D_group_2 (by decide) ?_
  refine lv_istore_n (lv' := [(3, .int 0), (2, .int a1), (0, .ref (cA L 3)), (1, .int a1)]) hx hb d_D_group_3 rfl hl (by decide) rfl (fun ls hl => ?_)
  obtain ⟨n_14, h⟩ := h
  refine Wl_D_group_4 xc hK hN hA (hk := fun x_11 x_12 I_13 F_13 G_13 H locs ls h hw hl => ?_) n_14 a1 0 I F G _ _ ls h hw (lv_sub hl [2, 3, 1, 0] rfl)
  refine lv_iload_n hx hb d_D_group_51 rfl (lv_at hl 2 rfl) ?_
  exact W.iret hx hb hr (fun t ht hW => ⟨⟨_, (I_13, F_13, G_13), rfl, h, by rw [ht]; exact hw.1, va_K.moved hW.alike hK, hw.2.1⟩, hw.2.2.F ht⟩) hw.2.2.2.2 d_D_group_52
abbrev rm_D_join : Room := { frames := 1, cells := 0, slots := 0, locals := 24 }
set_option maxHeartbeats 4000000 in
set_option maxRecDepth 100000 in
theorem c_D_join (l : Launch) (L : cL) (a1 : Int32) (a2 : Int32) (I : MI) (F : MF) (G : MG) (sz : Nat) (post : MI → MF → MG → Prop) (h : wp_D_join a1 a2 I F G post) : Met l y_D_join (.code y_D_join b_D_join 5 (none) :: lwG) rm_D_join (cPm L I F G sz [.ref (cA L 3), .int a1, .int a2]) (cQv L (cAA L I F G sz) post (cAA L I F G sz)) 0 0 (cAA L I F G sz) := by
  refine Met.ofW (cc := b_D_join) (maxL := 5) (ret := (none)) (by decide) rfl ?_
  intro p e s m args below meth c s₁ B hml hv
  obtain ⟨rfl, hsz, hP, hK, hD0, hN⟩ := hv
  have xc : xC p s m _ meth c b_D_join 5 lwG qR3 (none) := ⟨B.exec, B.bytes, hml, findClass_of_methodNamed B.named, fun w h => atoms_spec (ws := (.code y_D_join b_D_join 5 (none) :: lwG)) B.pre w (List.mem_cons_of_mem _ h), B.returns, B.notSynchronized⟩
  obtain ⟨hx, hb, hml, hown, hts, hr, hlocks⟩ := id xc
  subst hsz
  have hD : va_D (cAA L I F G s.heap.size) (WC L I F G) := hD0.self
  have hA0 : ∀ q : Nat, s.heap.size ≤ q → cAA L I F G s.heap.size q := fun q h => Or.inr h
  generalize cAA L I F G s.heap.size = A at hD hA0 ⊢
  have hA := hA0
  have hw : CW L A s.heap I F G s.heap [] := ⟨hP, hD, va_S.rf⟩
  have hl := lv_entry ([.ref (cA L 3), .int a1, .int a2]) (n := 5) (Nat.le_of_ble_eq_true rfl)
  rw [lg_entry_eq]
  generalize (lg_sl ([.ref (cA L 3), .int a1, .int a2]) ++ List.replicate (5 - (lg_sl ([.ref (cA L 3), .int a1, .int a2])).length) Slot.unset).toArray = ls at hl ⊢
  have hl : lv_has ls 5 [(0, .ref (cA L 3)), (1, .int a1), (2, .int a2)] := hl
  refine lv_aload_n hx hb d_D_join_0 rfl (lv_at hl 0 rfl) ?_
  refine lv_iload_n hx hb d_D_join_1 rfl (lv_at hl 1 rfl) ?_
  refine c_calli (va_runV (As := [.int a1]) (rest := []) ⟨hx, hb, hml, hown, hts⟩ (c_D_group l L a1 I F G _ _ h) (cwV 1 hts (gV wG562 wG564 wG12 wG52 wG565) rfl rfl rfl (by decide +kernel) ⟨Nat.le_of_ble_eq_true rfl, Nat.le_of_ble_eq_true rfl⟩) (cPrm3 hK hN hw) rfl rfl hl.1 rfl (lv_room (Nat.le_of_ble_eq_true rfl)) d_D_join_2 ⟨Nat.le_of_ble_eq_true rfl, Nat.le_of_ble_eq_true rfl⟩) hw hA (fun r_1 I_2 F_2 G_2 H locs h hw => ?_)
  refine lv_istore_n (lv' := [(3, .int r_1), (0, .ref (cA L 3)), (1, .int a1), (2, .int a2)]) hx hb d_D_join_5 rfl hl (by decide) rfl (fun ls hl => ?_)
  refine lv_aload_n hx hb d_D_join_6 rfl (lv_at hl 1 rfl) ?_
  refine lv_iload_n hx hb d_D_join_7 rfl (lv_at hl 3 rfl) ?_
  refine c_calli (va_runV (As := [.int a2]) (rest := []) ⟨hx, hb, hml, hown, hts⟩ (c_D_group l L a2 I_2 F_2 G_2 _ _ h) (cwV 1 hts (gV wG562 wG564 wG12 wG52 wG565) rfl rfl rfl (by decide +kernel) ⟨Nat.le_of_ble_eq_true rfl, Nat.le_of_ble_eq_true rfl⟩) (cPrm3 hK hN hw) rfl rfl hl.1 rfl (lv_room (Nat.le_of_ble_eq_true rfl)) d_D_join_8 ⟨Nat.le_of_ble_eq_true rfl, Nat.le_of_ble_eq_true rfl⟩) hw hA (fun r_3 I_4 F_4 G_4 H locs h hw => ?_)
  refine lv_istore (lv' := [(4, .int r_3), (3, .int r_1), (0, .ref (cA L 3)), (1, .int a1), (2, .int a2)]) hx hb d_D_join_11 hl (by decide) rfl (fun ls hl => ?_)
  refine lv_aload_n hx hb d_D_join_13 rfl (lv_at hl 2 rfl) ?_
  refine va_get (D := L.1) (ci := 3) (v := .ref (cA L 21)) (C := qR3) (T := qT3) (N := 7) hx hb hts qi3 hown hK hw.1 3 rfl rfl 3 (by decide) (hts _ wG170) (fun _ h9 => h9) rfl d_D_join_14 ?_
  refine lv_iload_n hx hb d_D_join_17 rfl (lv_at hl 1 rfl) ?_
  refine lv_iload hx hb d_D_join_18 (lv_at hl 0 rfl) ?_
  refine va_mmax hx hb (hml.trans hl.1.symm) hown (hts _ wG566) (hts _ wG365) (hts _ wG60) (hts _ wG366) (Nat.le_of_ble_eq_true rfl) (Nat.le_of_ble_eq_true rfl) (Nat.le_of_ble_eq_true rfl) (Nat.le_of_ble_eq_true rfl) d_D_join_20 ?_
  refine lv_iload_n hx hb d_D_join_23 rfl (lv_at hl 1 rfl) ?_
  refine lv_iload hx hb d_D_join_24 (lv_at hl 0 rfl) ?_
  refine va_mmin hx hb (hml.trans hl.1.symm) hown (hts _ wG567) (hts _ wG362) (hts _ wG60) (hts _ wG363) (Nat.le_of_ble_eq_true rfl) (Nat.le_of_ble_eq_true rfl) (Nat.le_of_ble_eq_true rfl) (Nat.le_of_ble_eq_true rfl) d_D_join_26 ?_
  obtain ⟨hi_5, h⟩ := h
  refine c_iast hx hb hK hw 11 (by decide) rfl hi_5 d_D_join_29 (fun H locs hw => ?_)
  obtain ⟨F_6, eF_6⟩ : ∃ y : MF, y = setF F_4 11 (upd (F_4 11) (if r_1 < r_3 then r_3 else r_1).toNatClampNeg (if r_3 < r_1 then r_3 else r_1)) := ⟨_, rfl⟩
  rw [← eF_6] at hw
  replace h := h F_6 eF_6
  exact W.vret hx hb hr (fun t ht hW => ⟨⟨(I_4, F_6, G_4), rfl, h, by rw [ht]; exact hw.1, va_K.moved hW.alike hK, hw.2.1⟩, hw.2.2.F ht⟩) hw.2.2.2.2 d_D_join_30
