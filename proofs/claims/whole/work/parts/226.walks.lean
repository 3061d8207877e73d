abbrev rm_D_joinAt : Room := { frames := 2, cells := 0, slots := 0, locals := 48 }
set_option maxHeartbeats 4000000 in
set_option maxRecDepth 100000 in
theorem c_D_joinAt (l : Launch) (L : cL) (a1 : Int32) (a2 : Int32) (I : MI) (F : MF) (G : MG) (sz : Nat) (post : MI → MF → MG → Prop) (h : wp_D_joinAt a1 a2 I F G post) : Met l y_D_joinAt (.code y_D_joinAt b_D_joinAt 4 (none) :: lwG) rm_D_joinAt (cPm L I F G sz [.ref (cA L 3), .int a1, .int a2]) (cQv L (cAA L I F G sz) post (cAA L I F G sz)) 0 0 (cAA L I F G sz) := by
  refine Met.ofW (cc := b_D_joinAt) (maxL := 4) (ret := (none)) (by decide) rfl ?_
  intro p e s m args below meth c s₁ B hml hv
  obtain ⟨rfl, hsz, hP, hK, hD0, hN⟩ := hv
  have xc : xC p s m _ meth c b_D_joinAt 4 lwG qR3 (none) := ⟨B.exec, B.bytes, hml, findClass_of_methodNamed B.named, fun w h => atoms_spec (ws := (.code y_D_joinAt b_D_joinAt 4 (none) :: lwG)) B.pre w (List.mem_cons_of_mem _ h), B.returns, B.notSynchronized⟩
  obtain ⟨hx, hb, hml, hown, hts, hr, hlocks⟩ := id xc
  subst hsz
  have hD : va_D (cAA L I F G s.heap.size) (WC L I F G) := hD0.self
  have hA0 : ∀ q : Nat, s.heap.size ≤ q → cAA L I F G s.heap.size q := fun q h => Or.inr h
  generalize cAA L I F G s.heap.size = A at hD hA0 ⊢
  have hA := hA0
  have hw : CW L A s.heap I F G s.heap [] := ⟨hP, hD, va_S.rf⟩
  have hl := lv_entry ([.ref (cA L 3), .int a1, .int a2]) (n := 4) (Nat.le_of_ble_eq_true rfl)
  rw [lg_entry_eq]
  generalize (lg_sl ([.ref (cA L 3), .int a1, .int a2]) ++ List.replicate (4 - (lg_sl ([.ref (cA L 3), .int a1, .int a2])).length) Slot.unset).toArray = ls at hl ⊢
  have hl : lv_has ls 4 [(0, .ref (cA L 3)), (1, .int a1), (2, .int a2)] := hl
  refine lv_aload_n hx hb d_D_joinAt_0 rfl (lv_at hl 0 rfl) ?_
  refine va_get (D := L.1) (ci := 3) (v := .ref (cA L 7)) (C := qR3) (T := qT3) (N := 7) hx hb hts qi3 hown hK hw.1 3 rfl rfl 2 (by decide) (hts _ wG168) (fun _ h9 => h9) rfl d_D_joinAt_1 ?_
  refine lv_iload_n hx hb d_D_joinAt_4 rfl (lv_at hl 1 rfl) ?_
  obtain ⟨hi_1, h⟩ := h
  refine c_row7 hx hb hK hw.1 hi_1 d_D_joinAt_5 ?_
  refine lv_iload_n hx hb d_D_joinAt_6 rfl (lv_at hl 2 rfl) ?_
  obtain ⟨hi_2, h⟩ := h
  refine c_iald hx hb hK hw.1 (19 + a1.toNatClampNeg) (row_lt19 hi_1) (row_len19 hi_1) hi_2 d_D_joinAt_7 ?_
  refine lv_topi (fun x_3 ex_3 => ?_)
  replace h := h x_3 ex_3
  refine lv_istore_n (lv' := [(3, .int x_3), (0, .ref (cA L 3)), (1, .int a1), (2, .int a2)]) hx hb d_D_joinAt_8 rfl hl (by decide) rfl (fun ls hl => ?_)
  refine lv_iload_n hx hb d_D_joinAt_9 rfl (lv_at hl 0 rfl) ?_
  refine lv_iconst (v := 1) hx hb d_D_joinAt_10 (by decide) ?_
  refine lv_iand hx hb d_D_joinAt_11 ?_
  refine lv_if_eq (tgt := 41) hx hb d_D_joinAt_12 (by decide) (fun c_4 => ?_) (fun c_4 => ?_)
  · replace h := h.1 c_4
    refine lv_iload_n hx hb d_D_joinAt_41 rfl (lv_at hl 0 rfl) ?_
    refine lv_iconst (v := 2) hx hb d_D_joinAt_42 (by decide) ?_
    refine lv_iand hx hb d_D_joinAt_43 ?_
    refine lv_if_eq (tgt := 78) hx hb d_D_joinAt_44 (by decide) (fun c_5 => ?_) (fun c_5 => ?_)
    · replace h := h.1 c_5
      refine lv_iload_n hx hb d_D_joinAt_78 rfl (lv_at hl 0 rfl) ?_
      refine lv_iconst (v := 4) hx hb d_D_joinAt_79 (by decide) ?_
      refine lv_iand hx hb d_D_joinAt_80 ?_
      refine lv_if_eq (tgt := 100) hx hb d_D_joinAt_81 (by decide) (fun c_6 => ?_) (fun c_6 => ?_)
      · replace h := h.1 c_6
        exact W.vret hx hb hr (fun t ht hW => ⟨⟨(I, F, G), rfl, h, by rw [ht]; exact hw.1, va_K.moved hW.alike hK, hw.2.1⟩, hw.2.2.F ht⟩) hw.2.2.2.2 d_D_joinAt_100
      · replace h := h.2 c_6
        refine lv_aload_n hx hb d_D_joinAt_84 rfl (lv_at hl 1 rfl) ?_
        refine lv_iload_n hx hb d_D_joinAt_85 rfl (lv_at hl 2 rfl) ?_
        refine lv_iload_n hx hb d_D_joinAt_86 rfl (lv_at hl 3 rfl) ?_
        refine lv_iconst (v := 0) hx hb d_D_joinAt_87 (by decide) ?_
        refine vp_callSi (va_runS (As := [.int a1, .int a2, .int 0]) (rest := [.ref (cA L 3)]) ⟨hx, hb, hml, hown, hts⟩ (c_D_spot l a1 a2 0 _ h) (va_cwS 3 hts (gS wG555 wG556 wG52 wG557) rfl rfl rfl (by decide +kernel) ⟨Nat.le_of_ble_eq_true rfl, Nat.le_of_ble_eq_true rfl⟩) ⟨sPc_blind _, fun U hU hW => ⟨rfl, trivial⟩⟩ rfl rfl hl.1 rfl (lv_room (Nat.le_of_ble_eq_true rfl)) d_D_joinAt_88 ⟨Nat.le_of_ble_eq_true rfl, Nat.le_of_ble_eq_true rfl⟩).run (fun r_7 h => ?_)
        refine lv_iload_n hx hb d_D_joinAt_91 rfl (lv_at hl 2 rfl) ?_
        refine lv_iload_n hx hb d_D_joinAt_92 rfl (lv_at hl 3 rfl) ?_
        refine lv_iconst (v := 1) hx hb d_D_joinAt_93 (by decide) ?_
        refine vp_callSi (va_runS (As := [.int a1, .int a2, .int 1]) (rest := [.int r_7, .ref (cA L 3)]) ⟨hx, hb, hml, hown, hts⟩ (c_D_spot l a1 a2 1 _ h) (va_cwS 3 hts (gS wG555 wG556 wG52 wG557) rfl rfl rfl (by decide +kernel) ⟨Nat.le_of_ble_eq_true rfl, Nat.le_of_ble_eq_true rfl⟩) ⟨sPc_blind _, fun U hU hW => ⟨rfl, trivial⟩⟩ rfl rfl hl.1 rfl (lv_room (Nat.le_of_ble_eq_true rfl)) d_D_joinAt_94 ⟨Nat.le_of_ble_eq_true rfl, Nat.le_of_ble_eq_true rfl⟩).run (fun r_8 h => ?_)
        refine c_callv (va_runV (As := [.int r_7, .int r_8]) (rest := []) ⟨hx, hb, hml, hown, hts⟩ (c_D_join l L r_7 r_8 I F G _ _ h) (cwV 2 hts (gV wG558 wG560 wG11 wG52 wG561) rfl rfl rfl (by decide +kernel) ⟨Nat.le_of_ble_eq_true rfl, Nat.le_of_ble_eq_true rfl⟩) (cPrm3 hK hN hw) rfl rfl hl.1 rfl (lv_room (Nat.le_of_ble_eq_true rfl)) d_D_joinAt_97 ⟨Nat.le_of_ble_eq_true rfl, Nat.le_of_ble_eq_true rfl⟩) hw hA (fun I_9 F_9 G_9 H locs h hw => ?_)
        exact W.vret hx hb hr (fun t ht hW => ⟨⟨(I_9, F_9, G_9), rfl, h, by rw [ht]; exact hw.1, va_K.moved hW.alike hK, hw.2.1⟩, hw.2.2.F ht⟩) hw.2.2.2.2 d_D_joinAt_100
    · replace h := h.2 c_5
      refine lv_iload_n hx hb d_D_joinAt_47 rfl (lv_at hl 2 rfl) ?_
      refine lv_iconst (v := 1) hx hb d_D_joinAt_48 (by decide) ?_
      refine lv_iadd hx hb d_D_joinAt_49 ?_
      refine lv_aload_n hx hb d_D_joinAt_50 rfl (lv_at hl 1 rfl) ?_
      refine va_get (D := L.1) (ci := 3) (v := .ref (cA L 2)) (C := qR3) (T := qT3) (N := 7) hx hb hts qi3 hown hK hw.1 3 rfl rfl 1 (by decide) (hts _ wG167) (fun _ h9 => h9) rfl d_D_joinAt_51 ?_
      refine vp_callSi (va_runV (As := []) (rest := [.int (a1 + 1)]) ⟨hx, hb, hml, hown, hts⟩ (c_C_lines l L I F G _ h) (cwV 0 hts (gV wG550 wG527 wG528 wG51 wG529) rfl rfl rfl (by decide +kernel) ⟨Nat.le_of_ble_eq_true rfl, Nat.le_of_ble_eq_true rfl⟩) (cPre2 hK hN hw.1) rfl rfl hl.1 rfl (lv_room (Nat.le_of_ble_eq_true rfl)) d_D_joinAt_54 ⟨Nat.le_of_ble_eq_true rfl, Nat.le_of_ble_eq_true rfl⟩).run (fun r_10 h => ?_)
      refine lv_icmp_ge (tgt := 78) hx hb d_D_joinAt_57 (by decide) (fun c_11 => ?_) (fun c_11 => ?_)
      · replace h := h.1 c_11
        refine lv_iload_n hx hb d_D_joinAt_78 rfl (lv_at hl 0 rfl) ?_
        refine lv_iconst (v := 4) hx hb d_D_joinAt_79 (by decide) ?_
        refine lv_iand hx hb d_D_joinAt_80 ?_
        refine lv_if_eq (tgt := 100) hx hb d_D_joinAt_81 (by decide) (fun c_12 => ?_) (fun c_12 => ?_)
        · replace h := h.1 c_12
          exact W.vret hx hb hr (fun t ht hW => ⟨⟨(I, F, G), rfl, h, by rw [ht]; exact hw.1, va_K.moved hW.alike hK, hw.2.1⟩, hw.2.2.F ht⟩) hw.2.2.2.2 d_D_joinAt_100
        · replace h := h.2 c_12
          refine lv_aload_n hx hb d_D_joinAt_84 rfl (lv_at hl 1 rfl) ?_
          refine lv_iload_n hx hb d_D_joinAt_85 rfl (lv_at hl 2 rfl) ?_
          refine lv_iload_n hx hb d_D_joinAt_86 rfl (lv_at hl 3 rfl) ?_
          refine lv_iconst (v := 0) hx hb d_D_joinAt_87 (by decide) ?_
          refine vp_callSi (va_runS (As := [.int a1, .int a2, .int 0]) (rest := [.ref (cA L 3)]) ⟨hx, hb, hml, hown, hts⟩ (c_D_spot l a1 a2 0 _ h) (va_cwS 3 hts (gS wG555 wG556 wG52 wG557) rfl rfl rfl (by decide +kernel) ⟨Nat.le_of_ble_eq_true rfl, Nat.le_of_ble_eq_true rfl⟩) ⟨sPc_blind _, fun U hU hW => ⟨rfl, trivial⟩⟩ rfl rfl hl.1 rfl (lv_room (Nat.le_of_ble_eq_true rfl)) d_D_joinAt_88 ⟨Nat.le_of_ble_eq_true rfl, Nat.le_of_ble_eq_true rfl⟩).run (fun r_13 h => ?_)
          refine lv_iload_n hx hb d_D_joinAt_91 rfl (lv_at hl 2 rfl) ?_
          refine lv_iload_n hx hb d_D_joinAt_92 rfl (lv_at hl 3 rfl) ?_
          refine lv_iconst (v := 1) hx hb d_D_joinAt_93 (by decide) ?_
          refine vp_callSi (va_runS (As := [.int a1, .int a2, .int 1]) (rest := [.int r_13, .ref (cA L 3)]) ⟨hx, hb, hml, hown, hts⟩ (c_D_spot l a1 a2 1 _ h) (va_cwS 3 hts (gS wG555 wG556 wG52 wG557) rfl rfl rfl (by decide +kernel) ⟨Nat.le_of_ble_eq_true rfl, Nat.le_of_ble_eq_true rfl⟩) ⟨sPc_blind _, fun U hU hW => ⟨rfl, trivial⟩⟩ rfl rfl hl.1 rfl (lv_room (Nat.le_of_ble_eq_true rfl)) d_D_joinAt_94 ⟨Nat.le_of_ble_eq_true rfl, Nat.le_of_ble_eq_true rfl⟩).run (fun r_14 h => ?_)
          refine c_callv (va_runV (As := [.int r_13, .int r_14]) (rest := []) ⟨hx, hb, hml, hown, hts⟩ (c_D_join l L r_13 r_14 I F G _ _ h) (cwV 2 hts (gV wG558 wG560 wG11 wG52 wG561) rfl rfl rfl (by decide +kernel) ⟨Nat.le_of_ble_eq_true rfl, Nat.le_of_ble_eq_true rfl⟩) (cPrm3 hK hN hw) rfl rfl hl.1 rfl (lv_room (Nat.le_of_ble_eq_true rfl)) d_D_joinAt_97 ⟨Nat.le_of_ble_eq_true rfl, Nat.le_of_ble_eq_true rfl⟩) hw hA (fun I_15 F_15 G_15 H locs h hw => ?_)
          exact W.vret hx hb hr (fun t ht hW => ⟨⟨(I_15, F_15, G_15), rfl, h, by rw [ht]; exact hw.1, va_K.moved hW.alike hK, hw.2.1⟩, hw.2.2.F ht⟩) hw.2.2.2.2 d_D_joinAt_100
      · replace h := h.2 c_11
        refine lv_aload_n hx hb d_D_joinAt_60 rfl (lv_at hl 1 rfl) ?_
        refine lv_iload_n hx hb d_D_joinAt_61 rfl (lv_at hl 2 rfl) ?_
        refine lv_iload_n hx hb d_D_joinAt_62 rfl (lv_at hl 3 rfl) ?_
        refine lv_iconst (v := 1) hx hb d_D_joinAt_63 (by decide) ?_
        refine vp_callSi (va_runS (As := [.int a1, .int a2, .int 1]) (rest := [.ref (cA L 3)]) ⟨hx, hb, hml, hown, hts⟩ (c_D_spot l a1 a2 1 _ h) (va_cwS 3 hts (gS wG555 wG556 wG52 wG557) rfl rfl rfl (by decide +kernel) ⟨Nat.le_of_ble_eq_true rfl, Nat.le_of_ble_eq_true rfl⟩) ⟨sPc_blind _, fun U hU hW => ⟨rfl, trivial⟩⟩ rfl rfl hl.1 rfl (lv_room (Nat.le_of_ble_eq_true rfl)) d_D_joinAt_64 ⟨Nat.le_of_ble_eq_true rfl, Nat.le_of_ble_eq_true rfl⟩).run (fun r_16 h => ?_)
        refine lv_iload_n hx hb d_D_joinAt_67 rfl (lv_at hl 2 rfl) ?_
        refine lv_iconst (v := 1) hx hb d_D_joinAt_68 (by decide) ?_
        refine lv_iadd hx hb d_D_joinAt_69 ?_
        refine lv_iload_n hx hb d_D_joinAt_70 rfl (lv_at hl 3 rfl) ?_
        refine lv_iconst (v := 1) hx hb d_D_joinAt_71 (by decide) ?_
        refine vp_callSi (va_runS (As := [.int (a1 + 1), .int a2, .int 1]) (rest := [.int r_16, .ref (cA L 3)]) ⟨hx, hb, hml, hown, hts⟩ (c_D_spot l (a1 + 1) a2 1 _ h) (va_cwS 3 hts (gS wG555 wG556 wG52 wG557) rfl rfl rfl (by decide +kernel) ⟨Nat.le_of_ble_eq_true rfl, Nat.le_of_ble_eq_true rfl⟩) ⟨sPc_blind _, fun U hU hW => ⟨rfl, trivial⟩⟩ rfl rfl hl.1 rfl (lv_room (Nat.le_of_ble_eq_true rfl)) d_D_joinAt_72 ⟨Nat.le_of_ble_eq_true rfl, Nat.le_of_ble_eq_true rfl⟩).run (fun r_17 h => ?_)
        refine c_callv (va_runV (As := [.int r_16, .int r_17]) (rest := []) ⟨hx, hb, hml, hown, hts⟩ (c_D_join l L r_16 r_17 I F G _ _ h) (cwV 2 hts (gV wG558 wG560 wG11 wG52 wG561) rfl rfl rfl (by decide +kernel) ⟨Nat.le_of_ble_eq_true rfl, Nat.le_of_ble_eq_true rfl⟩) (cPrm3 hK hN hw) rfl rfl hl.1 rfl (lv_room (Nat.le_of_ble_eq_true rfl)) d_D_joinAt_75 ⟨Nat.le_of_ble_eq_true rfl, Nat.le_of_ble_eq_true rfl⟩) hw hA (fun I_18 F_18 G_18 H locs h hw => ?_)
        refine lv_iload_n hx hb d_D_joinAt_78 rfl (lv_at hl 0 rfl) ?_
        refine lv_iconst (v := 4) hx hb d_D_joinAt_79 (by decide) ?_
        refine lv_iand hx hb d_D_joinAt_80 ?_
        refine lv_if_eq (tgt := 100) hx hb d_D_joinAt_81 (by decide) (fun c_19 => ?_) (fun c_19 => ?_)
        · replace h := h.1 c_19
          exact W.vret hx hb hr (fun t ht hW => ⟨⟨(I_18, F_18, G_18), rfl, h, by rw [ht]; exact hw.1, va_K.moved hW.alike hK, hw.2.1⟩, hw.2.2.F ht⟩) hw.2.2.2.2 d_D_joinAt_100
        · replace h := h.2 c_19
          refine lv_aload_n hx hb d_D_joinAt_84 rfl (lv_at hl 1 rfl) ?_
          refine lv_iload_n hx hb d_D_joinAt_85 rfl (lv_at hl 2 rfl) ?_
          refine lv_iload_n hx hb d_D_joinAt_86 rfl (lv_at hl 3 rfl) ?_
          refine lv_iconst (v := 0) hx hb d_D_joinAt_87 (by decide) ?_
          refine vp_callSi (va_runS (As := [.int a1, .int a2, .int 0]) (rest := [.ref (cA L 3)]) ⟨hx, hb, hml, hown, hts⟩ (c_D_spot l a1 a2 0 _ h) (va_cwS 3 hts (gS wG555 wG556 wG52 wG557) rfl rfl rfl (by decide +kernel) ⟨Nat.le_of_ble_eq_true rfl, Nat.le_of_ble_eq_true rfl⟩) ⟨sPc_blind _, fun U hU hW => ⟨rfl, trivial⟩⟩ rfl rfl hl.1 rfl (lv_room (Nat.le_of_ble_eq_true rfl)) d_D_joinAt_88 ⟨Nat.le_of_ble_eq_true rfl, Nat.le_of_ble_eq_true rfl⟩).run (fun r_20 h => ?_)
          refine lv_iload_n hx hb d_D_joinAt_91 rfl (lv_at hl 2 rfl) ?_
          refine lv_iload_n hx hb d_D_joinAt_92 rfl (lv_at hl 3 rfl) ?_
          refine lv_iconst (v := 1) hx hb d_D_joinAt_93 (by decide) ?_
          refine vp_callSi (va_runS (As := [.int a1, .int a2, .int 1]) (rest := [.int r_20, .ref (cA L 3)]) ⟨hx, hb, hml, hown, hts⟩ (c_D_spot l a1 a2 1 _ h) (va_cwS 3 hts (gS wG555 wG556 wG52 wG557) rfl rfl rfl (by decide +kernel) ⟨Nat.le_of_ble_eq_true rfl, Nat.le_of_ble_eq_true rfl⟩) ⟨sPc_blind _, fun U hU hW => ⟨rfl, trivial⟩⟩ rfl rfl hl.1 rfl (lv_room (Nat.le_of_ble_eq_true rfl)) d_D_joinAt_94 ⟨Nat.le_of_ble_eq_true rfl, Nat.le_of_ble_eq_true rfl⟩).run (fun r_21 h => ?_)
          refine c_callv (va_runV (As := [.int r_20, .int r_21]) (rest := []) ⟨hx, hb, hml, hown, hts⟩ (c_D_join l L r_20 r_21 I_18 F_18 G_18 _ _ h) (cwV 2 hts (gV wG558 wG560 wG11 wG52 wG561) rfl rfl rfl (by decide +kernel) ⟨Nat.le_of_ble_eq_true rfl, Nat.le_of_ble_eq_true rfl⟩) (cPrm3 hK hN hw) rfl rfl hl.1 rfl (lv_room (Nat.le_of_ble_eq_true rfl)) d_D_joinAt_97 ⟨Nat.le_of_ble_eq_true rfl, Nat.le_of_ble_eq_true rfl⟩) hw hA (fun I_22 F_22 G_22 H locs h hw => ?_)
          exact W.vret hx hb hr (fun t ht hW => ⟨⟨(I_22, F_22, G_22), rfl, h, by rw [ht]; exact hw.1, va_K.moved hW.alike hK, hw.2.1⟩, hw.2.2.F ht⟩) hw.2.2.2.2 d_D_joinAt_100
  · replace h := h.2 c_4
    refine lv_iload_n hx hb d_D_joinAt_15 rfl (lv_at hl 3 rfl) ?_
    refine lv_iconst (v := 1) hx hb d_D_joinAt_16 (by decide) ?_
    refine lv_iadd hx hb d_D_joinAt_17 ?_
    refine lv_bipush (v := 24) hx hb d_D_joinAt_18 (by decide) ?_
    refine lv_icmp_ge (tgt := 41) hx hb d_D_joinAt_20 (by decide) (fun c_23 => ?_) (fun c_23 => ?_)
    · replace h := h.1 c_23
      refine lv_iload_n hx hb d_D_joinAt_41 rfl (lv_at hl 0 rfl) ?_
      refine lv_iconst (v := 2) hx hb d_D_joinAt_42 (by decide) ?_
      refine lv_iand hx hb d_D_joinAt_43 ?_
      refine lv_if_eq (tgt := 78) hx hb d_D_joinAt_44 (by decide) (fun c_24 => ?_) (fun c_24 => ?_)
      · replace h := h.1 c_24
        refine lv_iload_n hx hb d_D_joinAt_78 rfl (lv_at hl 0 rfl) ?_
        refine lv_iconst (v := 4) hx hb d_D_joinAt_79 (by decide) ?_
        refine lv_iand hx hb d_D_joinAt_80 ?_
        refine lv_if_eq (tgt := 100) hx hb d_D_joinAt_81 (by decide) (fun c_25 => ?_) (fun c_25 => ?_)
        · replace h := h.1 c_25
          exact W.vret hx hb hr (fun t ht hW => ⟨⟨(I, F, G), rfl, h, by rw [ht]; exact hw.1, va_K.moved hW.alike hK, hw.2.1⟩, hw.2.2.F ht⟩) hw.2.2.2.2 d_D_joinAt_100
        · replace h := h.2 c_25
          refine lv_aload_n hx hb d_D_joinAt_84 rfl (lv_at hl 1 rfl) ?_
          refine lv_iload_n hx hb d_D_joinAt_85 rfl (lv_at hl 2 rfl) ?_
          refine lv_iload_n hx hb d_D_joinAt_86 rfl (lv_at hl 3 rfl) ?_
          refine lv_iconst (v := 0) hx hb d_D_joinAt_87 (by decide) ?_
          refine vp_callSi (va_runS (As := [.int a1, .int a2, .int 0]) (rest := [.ref (cA L 3)]) ⟨hx, hb, hml, hown, hts⟩ (c_D_spot l a1 a2 0 _ h) (va_cwS 3 hts (gS wG555 wG556 wG52 wG557) rfl rfl rfl (by decide +kernel) ⟨Nat.le_of_ble_eq_true rfl, Nat.le_of_ble_eq_true rfl⟩) ⟨sPc_blind _, fun U hU hW => ⟨rfl, trivial⟩⟩ rfl rfl hl.1 rfl (lv_room (Nat.le_of_ble_eq_true rfl)) d_D_joinAt_88 ⟨Nat.le_of_ble_eq_true rfl, Nat.le_of_ble_eq_true rfl⟩).run (fun r_26 h => ?_)
          refine lv_iload_n hx hb d_D_joinAt_91 rfl (lv_at hl 2 rfl) ?_
          refine lv_iload_n hx hb d_D_joinAt_92 rfl (lv_at hl 3 rfl) ?_
          refine lv_iconst (v := 1) hx hb d_D_joinAt_93 (by decide) ?_
          refine vp_callSi (va_runS (As := [.int a1, .int a2, .int 1]) (rest := [.int r_26, .ref (cA L 3)]) ⟨hx, hb, hml, hown, hts⟩ (c_D_spot l a1 a2 1 _ h) (va_cwS 3 hts (gS wG555 wG556 wG52 wG557) rfl rfl rfl (by decide +kernel) ⟨Nat.le_of_ble_eq_true rfl, Nat.le_of_ble_eq_true rfl⟩) ⟨sPc_blind _, fun U hU hW => ⟨rfl, trivial⟩⟩ rfl rfl hl.1 rfl (lv_room (Nat.le_of_ble_eq_true rfl)) d_D_joinAt_94 ⟨Nat.le_of_ble_eq_true rfl, Nat.le_of_ble_eq_true rfl⟩).run (fun r_27 h => ?_)
          refine c_callv (va_runV (As := [.int r_26, .int r_27]) (rest := []) ⟨hx, hb, hml, hown, hts⟩ (c_D_join l L r_26 r_27 I F G _ _ h) (cwV 2 hts (gV wG558 wG560 wG11 wG52 wG561) rfl rfl rfl (by decide +kernel) ⟨Nat.le_of_ble_eq_true rfl, Nat.le_of_ble_eq_true rfl⟩) (cPrm3 hK hN hw) rfl rfl hl.1 rfl (lv_room (Nat.le_of_ble_eq_true rfl)) d_D_joinAt_97 ⟨Nat.le_of_ble_eq_true rfl, Nat.le_of_ble_eq_true rfl⟩) hw hA (fun I_28 F_28 G_28 H locs h hw => ?_)
          exact W.vret hx hb hr (fun t ht hW => ⟨⟨(I_28, F_28, G_28), rfl, h, by rw [ht]; exact hw.1, va_K.moved hW.alike hK, hw.2.1⟩, hw.2.2.F ht⟩) hw.2.2.2.2 d_D_joinAt_100
      · replace h := h.2 c_24
        refine lv_iload_n hx hb d_D_joinAt_47 rfl (lv_at hl 2 rfl) ?_
        refine lv_iconst (v := 1) hx hb d_D_joinAt_48 (by decide) ?_
        refine lv_iadd hx hb d_D_joinAt_49 ?_
        refine lv_aload_n hx hb d_D_joinAt_50 rfl (lv_at hl 1 rfl) ?_
        refine va_get (D := L.1) (ci := 3) (v := .ref (cA L 2)) (C := qR3) (T := qT3) (N := 7) hx hb hts qi3 hown hK hw.1 3 rfl rfl 1 (by decide) (hts _ wG167) (fun _ h9 => h9) rfl d_D_joinAt_51 ?_
        refine vp_callSi (va_runV (As := []) (rest := [.int (a1 + 1)]) ⟨hx, hb, hml, hown, hts⟩ (c_C_lines l L I F G _ h) (cwV 0 hts (gV wG550 wG527 wG528 wG51 wG529) rfl rfl rfl (by decide +kernel) ⟨Nat.le_of_ble_eq_true rfl, Nat.le_of_ble_eq_true rfl⟩) (cPre2 hK hN hw.1) rfl rfl hl.1 rfl (lv_room (Nat.le_of_ble_eq_true rfl)) d_D_joinAt_54 ⟨Nat.le_of_ble_eq_true rfl, Nat.le_of_ble_eq_true rfl⟩).run (fun r_29 h => ?_)
        refine lv_icmp_ge (tgt := 78) hx hb d_D_joinAt_57 (by decide) (fun c_30 => ?_) (fun c_30 => ?_)
        · replace h := h.1 c_30
          refine lv_iload_n hx hb d_D_joinAt_78 rfl (lv_at hl 0 rfl) ?_
          refine lv_iconst (v := 4) hx hb d_D_joinAt_79 (by decide) ?_
          refine lv_iand hx hb d_D_joinAt_80 ?_
          refine lv_if_eq (tgt := 100) hx hb d_D_joinAt_81 (by decide) (fun c_31 => ?_) (fun c_31 => ?_)
          · replace h := h.1 c_31
            exact W.vret hx hb hr (fun t ht hW => ⟨⟨(I, F, G), rfl, h, by rw [ht]; exact hw.1, va_K.moved hW.alike hK, hw.2.1⟩, hw.2.2.F ht⟩) hw.2.2.2.2 d_D_joinAt_100
          · replace h := h.2 c_31
            refine lv_aload_n hx hb d_D_joinAt_84 rfl (lv_at hl 1 rfl) ?_
            refine lv_iload_n hx hb d_D_joinAt_85 rfl (lv_at hl 2 rfl) ?_
            refine lv_iload_n hx hb d_D_joinAt_86 rfl (lv_at hl 3 rfl) ?_
            refine lv_iconst (v := 0) hx hb d_D_joinAt_87 (by decide) ?_
            refine vp_callSi (va_runS (As := [.int a1, .int a2, .int 0]) (rest := [.ref (cA L 3)]) ⟨hx, hb, hml, hown, hts⟩ (c_D_spot l a1 a2 0 _ h) (va_cwS 3 hts (gS wG555 wG556 wG52 wG557) rfl rfl rfl (by decide +kernel) ⟨Nat.le_of_ble_eq_true rfl, Nat.le_of_ble_eq_true rfl⟩) ⟨sPc_blind _, fun U hU hW => ⟨rfl, trivial⟩⟩ rfl rfl hl.1 rfl (lv_room (Nat.le_of_ble_eq_true rfl)) d_D_joinAt_88 ⟨Nat.le_of_ble_eq_true rfl, Nat.le_of_ble_eq_true rfl⟩).run (fun r_32 h => ?_)
            refine lv_iload_n hx hb d_D_joinAt_91 rfl (lv_at hl 2 rfl) ?_
            refine lv_iload_n hx hb d_D_joinAt_92 rfl (lv_at hl 3 rfl) ?_
            refine lv_iconst (v := 1) hx hb d_D_joinAt_93 (by decide) ?_
            refine vp_callSi (va_runS (As := [.int a1, .int a2, .int 1]) (rest := [.int r_32, .ref (cA L 3)]) ⟨hx, hb, hml, hown, hts⟩ (c_D_spot l a1 a2 1 _ h) (va_cwS 3 hts (gS wG555 wG556 wG52 wG557) rfl rfl rfl (by decide +kernel) ⟨Nat.le_of_ble_eq_true rfl, Nat.le_of_ble_eq_true rfl⟩) ⟨sPc_blind _, fun U hU hW => ⟨rfl, trivial⟩⟩ rfl rfl hl.1 rfl (lv_room (Nat.le_of_ble_eq_true rfl)) d_D_joinAt_94 ⟨Nat.le_of_ble_eq_true rfl, Nat.le_of_ble_eq_true rfl⟩).run (fun r_33 h => ?_)
            refine c_callv (va_runV (As := [.int r_32, .int r_33]) (rest := []) ⟨hx, hb, hml, hown, hts⟩ (c_D_join l L r_32 r_33 I F G _ _ h) (cwV 2 hts (gV wG558 wG560 wG11 wG52 wG561) rfl rfl rfl (by decide +kernel) ⟨Nat.le_of_ble_eq_true rfl, Nat.le_of_ble_eq_true rfl⟩) (cPrm3 hK hN hw) rfl rfl hl.1 rfl (lv_room (Nat.le_of_ble_eq_true rfl)) d_D_joinAt_97 ⟨Nat.le_of_ble_eq_true rfl, Nat.le_of_ble_eq_true rfl⟩) hw hA (fun I_34 F_34 G_34 H locs h hw => ?_)
            exact W.vret hx hb hr (fun t ht hW => ⟨⟨(I_34, F_34, G_34), rfl, h, by rw [ht]; exact hw.1, va_K.moved hW.alike hK, hw.2.1⟩, hw.2.2.F ht⟩) hw.2.2.2.2 d_D_joinAt_100
        · replace h := h.2 c_30
          refine lv_aload_n hx hb d_D_joinAt_60 rfl (lv_at hl 1 rfl) ?_
          refine lv_iload_n hx hb d_D_joinAt_61 rfl (lv_at hl 2 rfl) ?_
          refine lv_iload_n hx hb d_D_joinAt_62 rfl (lv_at hl 3 rfl) ?_
          refine lv_iconst (v := 1) hx hb d_D_joinAt_63 (by decide) ?_
          refine vp_callSi (va_runS (As := [.int a1, .int a2, .int 1]) (rest := [.ref (cA L 3)]) ⟨hx, hb, hml, hown, hts⟩ (c_D_spot l a1 a2 1 _ h) (va_cwS 3 hts (gS wG555 wG556 wG52 wG557) rfl rfl rfl (by decide +kernel) ⟨Nat.le_of_ble_eq_true rfl, Nat.le_of_ble_eq_true rfl⟩) ⟨sPc_blind _, fun U hU hW => ⟨rfl, trivial⟩⟩ rfl rfl hl.1 rfl (lv_room (Nat.le_of_ble_eq_true rfl)) d_D_joinAt_64 ⟨Nat.le_of_ble_eq_true rfl, Nat.le_of_ble_eq_true rfl⟩).run (fun r_35 h => ?_)
          refine lv_iload_n hx hb d_D_joinAt_67 rfl (lv_at hl 2 rfl) ?_
          refine lv_iconst (v := 1) hx hb d_D_joinAt_68 (by decide) ?_
          refine lv_iadd hx hb d_D_joinAt_69 ?_
          refine lv_iload_n hx hb d_D_joinAt_70 rfl (lv_at hl 3 rfl) ?_
          refine lv_iconst (v := 1) hx hb d_D_joinAt_71 (by decide) ?_
          refine vp_callSi (va_runS (As := [.int (a1 + 1), .int a2, .int 1]) (rest := [.int r_35, .ref (cA L 3)]) ⟨hx, hb, hml, hown, hts⟩ (c_D_spot l (a1 + 1) a2 1 _ h) (va_cwS 3 hts (gS wG555 wG556 wG52 wG557) rfl rfl rfl (by decide +kernel) ⟨Nat.le_of_ble_eq_true rfl, Nat.le_of_ble_eq_true rfl⟩) ⟨sPc_blind _, fun U hU hW => ⟨rfl, trivial⟩⟩ rfl rfl hl.1 rfl (lv_room (Nat.le_of_ble_eq_true rfl)) d_D_joinAt_72 ⟨Nat.le_of_ble_eq_true rfl, Nat.le_of_ble_eq_true rfl⟩).run (fun r_36 h => ?_)
          refine c_callv (va_runV (As := [.int r_35, .int r_36]) (rest := []) ⟨hx, hb, hml, hown, hts⟩ (c_D_join l L r_35 r_36 I F G _ _ h) (cwV 2 hts (gV wG558 wG560 wG11 wG52 wG561) rfl rfl rfl (by decide +kernel) ⟨Nat.le_of_ble_eq_true rfl, Nat.le_of_ble_eq_true rfl⟩) (cPrm3 hK hN hw) rfl rfl hl.1 rfl (lv_room (Nat.le_of_ble_eq_true rfl)) d_D_joinAt_75 ⟨Nat.le_of_ble_eq_true rfl, Nat.le_of_ble_eq_true rfl⟩) hw hA (fun I_37 F_37 G_37 H locs h hw => ?_)
          refine lv_iload_n hx hb d_D_joinAt_78 rfl (lv_at hl 0 rfl) ?_
          refine lv_iconst (v := 4) hx hb d_D_joinAt_79 (by decide) ?_
          refine lv_iand hx hb d_D_joinAt_80 ?_
          refine lv_if_eq (tgt := 100) hx hb d_D_joinAt_81 (by decide) (fun c_38 => ?_) (fun c_38 => ?_)
          · replace h := h.1 c_38
            exact W.vret hx hb hr (fun t ht hW => ⟨⟨(I_37, F_37, G_37), rfl, h, by rw [ht]; exact hw.1, va_K.moved hW.alike hK, hw.2.1⟩, hw.2.2.F ht⟩) hw.2.2.2.2 d_D_joinAt_100
          · replace h := h.2 c_38
            refine lv_aload_n hx hb d_D_joinAt_84 rfl (lv_at hl 1 rfl) ?_
            refine lv_iload_n hx hb d_D_joinAt_85 rfl (lv_at hl 2 rfl) ?_
            refine lv_iload_n hx hb d_D_joinAt_86 rfl (lv_at hl 3 rfl) ?_
            refine lv_iconst (v := 0) hx hb d_D_joinAt_87 (by decide) ?_
            refine vp_callSi (va_runS (As := [.int a1, .int a2, .int 0]) (rest := [.ref (cA L 3)]) ⟨hx, hb, hml, hown, hts⟩ (c_D_spot l a1 a2 0 _ h) (va_cwS 3 hts (gS wG555 wG556 wG52 wG557) rfl rfl rfl (by decide +kernel) ⟨Nat.le_of_ble_eq_true rfl, Nat.le_of_ble_eq_true rfl⟩) ⟨sPc_blind _, fun U hU hW => ⟨rfl, trivial⟩⟩ rfl rfl hl.1 rfl (lv_room (Nat.le_of_ble_eq_true rfl)) d_D_joinAt_88 ⟨Nat.le_of_ble_eq_true rfl, Nat.le_of_ble_eq_true rfl⟩).run (fun r_39 h => ?_)
            refine lv_iload_n hx hb d_D_joinAt_91 rfl (lv_at hl 2 rfl) ?_
            refine lv_iload_n hx hb d_D_joinAt_92 rfl (lv_at hl 3 rfl) ?_
            refine lv_iconst (v := 1) hx hb d_D_joinAt_93 (by decide) ?_
            refine vp_callSi (va_runS (As := [.int a1, .int a2, .int 1]) (rest := [.int r_39, .ref (cA L 3)]) ⟨hx, hb, hml, hown, hts⟩ (c_D_spot l a1 a2 1 _ h) (va_cwS 3 hts (gS wG555 wG556 wG52 wG557) rfl rfl rfl (by decide +kernel) ⟨Nat.le_of_ble_eq_true rfl, Nat.le_of_ble_eq_true rfl⟩) ⟨sPc_blind _, fun U hU hW => ⟨rfl, trivial⟩⟩ rfl rfl hl.1 rfl (lv_room (Nat.le_of_ble_eq_true rfl)) d_D_joinAt_94 ⟨Nat.le_of_ble_eq_true rfl, Nat.le_of_ble_eq_true rfl⟩).run (fun r_40 h => ?_)
            refine c_callv (va_runV (As := [.int r_39, .int r_40]) (rest := []) ⟨hx, hb, hml, hown, hts⟩ (c_D_join l L r_39 r_40 I_37 F_37 G_37 _ _ h) (cwV 2 hts (gV wG558 wG560 wG11 wG52 wG561) rfl rfl rfl (by decide +kernel) ⟨Nat.le_of_ble_eq_true rfl, Nat.le_of_ble_eq_true rfl⟩) (cPrm3 hK hN hw) rfl rfl hl.1 rfl (lv_room (Nat.le_of_ble_eq_true rfl)) d_D_joinAt_97 ⟨Nat.le_of_ble_eq_true rfl, Nat.le_of_ble_eq_true rfl⟩) hw hA (fun I_41 F_41 G_41 H locs h hw => ?_)
            exact W.vret hx hb hr (fun t ht hW => ⟨⟨(I_41, F_41, G_41), rfl, h, by rw [ht]; exact hw.1, va_K.moved hW.alike hK, hw.2.1⟩, hw.2.2.F ht⟩) hw.2.2.2.2 d_D_joinAt_100
    · replace h := h.2 c_23
      refine lv_aload_n hx hb d_D_joinAt_23 rfl (lv_at hl 1 rfl) ?_
      refine lv_iload_n hx hb d_D_joinAt_24 rfl (lv_at hl 2 rfl) ?_
      refine lv_iload_n hx hb d_D_joinAt_25 rfl (lv_at hl 3 rfl) ?_
      refine lv_iconst (v := 0) hx hb d_D_joinAt_26 (by decide) ?_
      refine vp_callSi (va_runS (As := [.int a1, .int a2, .int 0]) (rest := [.ref (cA L 3)]) ⟨hx, hb, hml, hown, hts⟩ (c_D_spot l a1 a2 0 _ h) (va_cwS 3 hts (gS wG555 wG556 wG52 wG557) rfl rfl rfl (by decide +kernel) ⟨Nat.le_of_ble_eq_true rfl, Nat.le_of_ble_eq_true rfl⟩) ⟨sPc_blind _, fun U hU hW => ⟨rfl, trivial⟩⟩ rfl rfl hl.1 rfl (lv_room (Nat.le_of_ble_eq_true rfl)) d_D_joinAt_27 ⟨Nat.le_of_ble_eq_true rfl, Nat.le_of_ble_eq_true rfl⟩).run (fun r_42 h => ?_)
      refine lv_iload_n hx hb d_D_joinAt_30 rfl (lv_at hl 2 rfl) ?_
      refine lv_iload_n hx hb d_D_joinAt_31 rfl (lv_at hl 3 rfl) ?_
      refine lv_iconst (v := 1) hx hb d_D_joinAt_32 (by decide) ?_
      refine lv_iadd hx hb d_D_joinAt_33 ?_
      refine lv_iconst (v := 0) hx hb d_D_joinAt_34 (by decide) ?_
      refine vp_callSi (va_runS (As := [.int a1, .int (a2 + 1), .int 0]) (rest := [.int r_42, .ref (cA L 3)]) ⟨hx, hb, hml, hown, hts⟩ (c_D_spot l a1 (a2 + 1) 0 _ h) (va_cwS 3 hts (gS wG555 wG556 wG52 wG557) rfl rfl rfl (by decide +kernel) ⟨Nat.le_of_ble_eq_true rfl, Nat.le_of_ble_eq_true rfl⟩) ⟨sPc_blind _, fun U hU hW => ⟨rfl, trivial⟩⟩ rfl rfl hl.1 rfl (lv_room (Nat.le_of_ble_eq_true rfl)) d_D_joinAt_35 ⟨Nat.le_of_ble_eq_true rfl, Nat.le_of_ble_eq_true rfl⟩).run (fun r_43 h => ?_)
      refine c_callv (va_runV (As := [.int r_42, .int r_43]) (rest := []) ⟨hx, hb, hml, hown, hts⟩ (c_D_join l L r_42 r_43 I F G _ _ h) (cwV 2 hts (gV wG558 wG560 wG11 wG52 wG561) rfl rfl rfl (by decide +kernel) ⟨Nat.le_of_ble_eq_true rfl, Nat.le_of_ble_eq_true rfl⟩) (cPrm3 hK hN hw) rfl rfl hl.1 rfl (lv_room (Nat.le_of_ble_eq_true rfl)) d_D_joinAt_38 ⟨Nat.le_of_ble_eq_true rfl, Nat.le_of_ble_eq_true rfl⟩) hw hA (fun I_44 F_44 G_44 H locs h hw => ?_)
      refine lv_iload_n hx hb d_D_joinAt_41 rfl (lv_at hl 0 rfl) ?_
      refine lv_iconst (v := 2) hx hb d_D_joinAt_42 (by decide) ?_
      refine lv_iand hx hb d_D_joinAt_43 ?_
      refine lv_if_eq (tgt := 78) hx hb d_D_joinAt_44 (by decide) (fun c_45 => ?_) (fun c_45 => ?_)
      · replace h := h.1 c_45
        refine lv_iload_n hx hb d_D_joinAt_78 rfl (lv_at hl 0 rfl) ?_
        refine lv_iconst (v := 4) hx hb d_D_joinAt_79 (by decide) ?_
        refine lv_iand hx hb d_D_joinAt_80 ?_
        refine lv_if_eq (tgt := 100) hx hb d_D_joinAt_81 (by decide) (fun c_46 => ?_) (fun c_46 => ?_)
        · replace h := h.1 c_46
          exact W.vret hx hb hr (fun t ht hW => ⟨⟨(I_44, F_44, G_44), rfl, h, by rw [ht]; exact hw.1, va_K.moved hW.alike hK, hw.2.1⟩, hw.2.2.F ht⟩) hw.2.2.2.2 d_D_joinAt_100
        · replace h := h.2 c_46
          refine lv_aload_n hx hb d_D_joinAt_84 rfl (lv_at hl 1 rfl) ?_
          refine lv_iload_n hx hb d_D_joinAt_85 rfl (lv_at hl 2 rfl) ?_
          refine lv_iload_n hx hb d_D_joinAt_86 rfl (lv_at hl 3 rfl) ?_
          refine lv_iconst (v := 0) hx hb d_D_joinAt_87 (by decide) ?_
          refine vp_callSi (va_runS (As := [.int a1, .int a2, .int 0]) (rest := [.ref (cA L 3)]) ⟨hx, hb, hml, hown, hts⟩ (c_D_spot l a1 a2 0 _ h) (va_cwS 3 hts (gS wG555 wG556 wG52 wG557) rfl rfl rfl (by decide +kernel) ⟨Nat.le_of_ble_eq_true rfl, Nat.le_of_ble_eq_true rfl⟩) ⟨sPc_blind _, fun U hU hW => ⟨rfl, trivial⟩⟩ rfl rfl hl.1 rfl (lv_room (Nat.le_of_ble_eq_true rfl)) d_D_joinAt_88 ⟨Nat.le_of_ble_eq_true rfl, Nat.le_of_ble_eq_true rfl⟩).run (fun r_47 h => ?_)
          refine lv_iload_n hx hb d_D_joinAt_91 rfl (lv_at hl 2 rfl) ?_
          refine lv_iload_n hx hb d_D_joinAt_92 rfl (lv_at hl 3 rfl) ?_
          refine lv_iconst (v := 1) hx hb d_D_joinAt_93 (by decide) ?_
          refine vp_callSi (va_runS (As := [.int a1, .int a2, .int 1]) (rest := [.int r_47, .ref (cA L 3)]) ⟨hx, hb, hml, hown, hts⟩ (c_D_spot l a1 a2 1 _ h) (va_cwS 3 hts (gS wG555 wG556 wG52 wG557) rfl rfl rfl (by decide +kernel) ⟨Nat.le_of_ble_eq_true rfl, Nat.le_of_ble_eq_true rfl⟩) ⟨sPc_blind _, fun U hU hW => ⟨rfl, trivial⟩⟩ rfl rfl hl.1 rfl (lv_room (Nat.le_of_ble_eq_true rfl)) d_D_joinAt_94 ⟨Nat.le_of_ble_eq_true rfl, Nat.le_of_ble_eq_true rfl⟩).run (fun r_48 h => ?_)
          refine c_callv (va_runV (As := [.int r_47, .int r_48]) (rest := []) ⟨hx, hb, hml, hown, hts⟩ (c_D_join l L r_47 r_48 I_44 F_44 G_44 _ _ h) (cwV 2 hts (gV wG558 wG560 wG11 wG52 wG561) rfl rfl rfl (by decide +kernel) ⟨Nat.le_of_ble_eq_true rfl, Nat.le_of_ble_eq_true rfl⟩) (cPrm3 hK hN hw) rfl rfl hl.1 rfl (lv_room (Nat.le_of_ble_eq_true rfl)) d_D_joinAt_97 ⟨Nat.le_of_ble_eq_true rfl, Nat.le_of_ble_eq_true rfl⟩) hw hA (fun I_49 F_49 G_49 H locs h hw => ?_)
          exact W.vret hx hb hr (fun t ht hW => ⟨⟨(I_49, F_49, G_49), rfl, h, by rw [ht]; exact hw.1, va_K.moved hW.alike hK, hw.2.1⟩, hw.2.2.F ht⟩) hw.2.2.2.2 d_D_joinAt_100
      · replace h := h.2 c_45
        refine lv_iload_n hx hb d_D_joinAt_47 rfl (lv_at hl 2 rfl) ?_
        refine lv_iconst (v := 1) hx hb d_D_joinAt_48 (by decide) ?_
        refine lv_iadd hx hb d_D_joinAt_49 ?_
        refine lv_aload_n hx hb d_D_joinAt_50 rfl (lv_at hl 1 rfl) ?_
        refine va_get (D := L.1) (ci := 3) (v := .ref (cA L 2)) (C := qR3) (T := qT3) (N := 7) hx hb hts qi3 hown hK hw.1 3 rfl rfl 1 (by decide) (hts _ wG167) (fun _ h9 => h9) rfl d_D_joinAt_51 ?_
        refine vp_callSi (va_runV (As := []) (rest := [.int (a1 + 1)]) ⟨hx, hb, hml, hown, hts⟩ (c_C_lines l L I_44 F_44 G_44 _ h) (cwV 0 hts (gV wG550 wG527 wG528 wG51 wG529) rfl rfl rfl (by decide +kernel) ⟨Nat.le_of_ble_eq_true rfl, Nat.le_of_ble_eq_true rfl⟩) (cPre2 hK hN hw.1) rfl rfl hl.1 rfl (lv_room (Nat.le_of_ble_eq_true rfl)) d_D_joinAt_54 ⟨Nat.le_of_ble_eq_true rfl, Nat.le_of_ble_eq_true rfl⟩).run (fun r_50 h => ?_)
        refine lv_icmp_ge (tgt := 78) hx hb d_D_joinAt_57 (by decide) (fun c_51 => ?_) (fun c_51 => ?_)
        · replace h := h.1 c_51
          refine lv_iload_n hx hb d_D_joinAt_78 rfl (lv_at hl 0 rfl) ?_
          refine lv_iconst (v := 4) hx hb d_D_joinAt_79 (by decide) ?_
          refine lv_iand hx hb d_D_joinAt_80 ?_
          refine lv_if_eq (tgt := 100) hx hb d_D_joinAt_81 (by decide) (fun c_52 => ?_) (fun c_52 => ?_)
          · replace h := h.1 c_52
            exact W.vret hx hb hr (fun t ht hW => ⟨⟨(I_44, F_44, G_44), rfl, h, by rw [ht]; exact hw.1, va_K.moved hW.alike hK, hw.2.1⟩, hw.2.2.F ht⟩) hw.2.2.2.2 d_D_joinAt_100
          · replace h := h.2 c_52
            refine lv_aload_n hx hb d_D_joinAt_84 rfl (lv_at hl 1 rfl) ?_
            refine lv_iload_n hx hb d_D_joinAt_85 rfl (lv_at hl 2 rfl) ?_
            refine lv_iload_n hx hb d_D_joinAt_86 rfl (lv_at hl 3 rfl) ?_
            refine lv_iconst (v := 0) hx hb d_D_joinAt_87 (by decide) ?_
            refine vp_callSi (va_runS (As := [.int a1, .int a2, .int 0]) (rest := [.ref (cA L 3)]) ⟨hx, hb, hml, hown, hts⟩ (c_D_spot l a1 a2 0 _ h) (va_cwS 3 hts (gS wG555 wG556 wG52 wG557) rfl rfl rfl (by decide +kernel) ⟨Nat.le_of_ble_eq_true rfl, Nat.le_of_ble_eq_true rfl⟩) ⟨sPc_blind _, fun U hU hW => ⟨rfl, trivial⟩⟩ rfl rfl hl.1 rfl (lv_room (Nat.le_of_ble_eq_true rfl)) d_D_joinAt_88 ⟨Nat.le_of_ble_eq_true rfl, Nat.le_of_ble_eq_true rfl⟩).run (fun r_53 h => ?_)
            refine lv_iload_n hx hb d_D_joinAt_91 rfl (lv_at hl 2 rfl) ?_
            refine lv_iload_n hx hb d_D_joinAt_92 rfl (lv_at hl 3 rfl) ?_
            refine lv_iconst (v := 1) hx hb d_D_joinAt_93 (by decide) ?_
            refine vp_callSi (va_runS (As := [.int a1, .int a2, .int 1]) (rest := [.int r_53, .ref (cA L 3)]) ⟨hx, hb, hml, hown, hts⟩ (c_D_spot l a1 a2 1 _ h) (va_cwS 3 hts (gS wG555 wG556 wG52 wG557) rfl rfl rfl (by decide +kernel) ⟨Nat.le_of_ble_eq_true rfl, Nat.le_of_ble_eq_true rfl⟩) ⟨sPc_blind _, fun U hU hW => ⟨rfl, trivial⟩⟩ rfl rfl hl.1 rfl (lv_room (Nat.le_of_ble_eq_true rfl)) d_D_joinAt_94 ⟨Nat.le_of_ble_eq_true rfl, Nat.le_of_ble_eq_true rfl⟩).run (fun r_54 h => ?_)
            refine c_callv (va_runV (As := [.int r_53, .int r_54]) (rest := []) ⟨hx, hb, hml, hown, hts⟩ (c_D_join l L r_53 r_54 I_44 F_44 G_44 _ _ h) (cwV 2 hts (gV wG558 wG560 wG11 wG52 wG561) rfl rfl rfl (by decide +kernel) ⟨Nat.le_of_ble_eq_true rfl, Nat.le_of_ble_eq_true rfl⟩) (cPrm3 hK hN hw) rfl rfl hl.1 rfl (lv_room (Nat.le_of_ble_eq_true rfl)) d_D_joinAt_97 ⟨Nat.le_of_ble_eq_true rfl, Nat.le_of_ble_eq_true rfl⟩) hw hA (fun I_55 F_55 G_55 H locs h hw => ?_)
            exact W.vret hx hb hr (fun t ht hW => ⟨⟨(I_55, F_55, G_55), rfl, h, by rw [ht]; exact hw.1, va_K.moved hW.alike hK, hw.2.1⟩, hw.2.2.F ht⟩) hw.2.2.2.2 d_D_joinAt_100
        · replace h := h.2 c_51
          refine lv_aload_n hx hb d_D_joinAt_60 rfl (lv_at hl 1 rfl) ?_
          refine lv_iload_n hx hb d_D_joinAt_61 rfl (lv_at hl 2 rfl) ?_
          refine lv_iload_n hx hb d_D_joinAt_62 rfl (lv_at hl 3 rfl) ?_
          refine lv_iconst (v := 1) hx hb d_D_joinAt_63 (by decide) ?_
          refine vp_callSi (va_runS (As := [.int a1, .int a2, .int 1]) (rest := [.ref (cA L 3)]) ⟨hx, hb, hml, hown, hts⟩ (c_D_spot l a1 a2 1 _ h) (va_cwS 3 hts (gS wG555 wG556 wG52 wG557) rfl rfl rfl (by decide +kernel) ⟨Nat.le_of_ble_eq_true rfl, Nat.le_of_ble_eq_true rfl⟩) ⟨sPc_blind _, fun U hU hW => ⟨rfl, trivial⟩⟩ rfl rfl hl.1 rfl (lv_room (Nat.le_of_ble_eq_true rfl)) d_D_joinAt_64 ⟨Nat.le_of_ble_eq_true rfl, Nat.le_of_ble_eq_true rfl⟩).run (fun r_56 h => ?_)
          refine lv_iload_n hx hb d_D_joinAt_67 rfl (lv_at hl 2 rfl) ?_
          refine lv_iconst (v := 1) hx hb d_D_joinAt_68 (by decide) ?_
          refine lv_iadd hx hb d_D_joinAt_69 ?_
          refine lv_iload_n hx hb d_D_joinAt_70 rfl (lv_at hl 3 rfl) ?_
          refine lv_iconst (v := 1) hx hb d_D_joinAt_71 (by decide) ?_
          refine vp_callSi (va_runS (As := [.int (a1 + 1), .int a2, .int 1]) (rest := [.int r_56, .ref (cA L 3)]) ⟨hx, hb, hml, hown, hts⟩ (c_D_spot l (a1 + 1) a2 1 _ h) (va_cwS 3 hts (gS wG555 wG556 wG52 wG557) rfl rfl rfl (by decide +kernel) ⟨Nat.le_of_ble_eq_true rfl, Nat.le_of_ble_eq_true rfl⟩) ⟨sPc_blind _, fun U hU hW => ⟨rfl, trivial⟩⟩ rfl rfl hl.1 rfl (lv_room (Nat.le_of_ble_eq_true rfl)) d_D_joinAt_72 ⟨Nat.le_of_ble_eq_true rfl, Nat.le_of_ble_eq_true rfl⟩).run (fun r_57 h => ?_)
          refine c_callv (va_runV (As := [.int r_56, .int r_57]) (rest := []) ⟨hx, hb, hml, hown, hts⟩ (c_D_join l L r_56 r_57 I_44 F_44 G_44 _ _ h) (cwV 2 hts (gV wG558 wG560 wG11 wG52 wG561) rfl rfl rfl (by decide +kernel) ⟨Nat.le_of_ble_eq_true rfl, Nat.le_of_ble_eq_true rfl⟩) (cPrm3 hK hN hw) rfl rfl hl.1 rfl (lv_room (Nat.le_of_ble_eq_true rfl)) d_D_joinAt_75 ⟨Nat.le_of_ble_eq_true rfl, Nat.le_of_ble_eq_true rfl⟩) hw hA (fun I_58 F_58 G_58 H locs h hw => ?_)
          refine lv_iload_n hx hb d_D_joinAt_78 rfl (lv_at hl 0 rfl) ?_
          refine lv_iconst (v := 4) hx hb d_D_joinAt_79 (by decide) ?_
          refine lv_iand hx hb d_D_joinAt_80 ?_
          refine lv_if_eq (tgt := 100) hx hb d_D_joinAt_81 (by decide) (fun c_59 => ?_) (fun c_59 => ?_)
          · replace h := h.1 c_59
            exact W.vret hx hb hr (fun t ht hW => ⟨⟨(I_58, F_58, G_58), rfl, h, by rw [ht]; exact hw.1, va_K.moved hW.alike hK, hw.2.1⟩, hw.2.2.F ht⟩) hw.2.2.2.2 d_D_joinAt_100
          · replace h := h.2 c_59
            refine lv_aload_n hx hb d_D_joinAt_84 rfl (lv_at hl 1 rfl) ?_
            refine lv_iload_n hx hb d_D_joinAt_85 rfl (lv_at hl 2 rfl) ?_
            refine lv_iload_n hx hb d_D_joinAt_86 rfl (lv_at hl 3 rfl) ?_
            refine lv_iconst (v := 0) hx hb d_D_joinAt_87 (by decide) ?_
            refine vp_callSi (va_runS (As := [.int a1, .int a2, .int 0]) (rest := [.ref (cA L 3)]) ⟨hx, hb, hml, hown, hts⟩ (c_D_spot l a1 a2 0 _ h) (va_cwS 3 hts (gS wG555 wG556 wG52 wG557) rfl rfl rfl (by decide +kernel) ⟨Nat.le_of_ble_eq_true rfl, Nat.le_of_ble_eq_true rfl⟩) ⟨sPc_blind _, fun U hU hW => ⟨rfl, trivial⟩⟩ rfl rfl hl.1 rfl (lv_room (Nat.le_of_ble_eq_true rfl)) d_D_joinAt_88 ⟨Nat.le_of_ble_eq_true rfl, Nat.le_of_ble_eq_true rfl⟩).run (fun r_60 h => ?_)
            refine lv_iload_n hx hb d_D_joinAt_91 rfl (lv_at hl 2 rfl) ?_
            refine lv_iload_n hx hb d_D_joinAt_92 rfl (lv_at hl 3 rfl) ?_
            refine lv_iconst (v := 1) hx hb d_D_joinAt_93 (by decide) ?_
            refine vp_callSi (va_runS (As := [.int a1, .int a2, .int 1]) (rest := [.int r_60, .ref (cA L 3)]) ⟨hx, hb, hml, hown, hts⟩ (c_D_spot l a1 a2 1 _ h) (va_cwS 3 hts (gS wG555 wG556 wG52 wG557) rfl rfl rfl (by decide +kernel) ⟨Nat.le_of_ble_eq_true rfl, Nat.le_of_ble_eq_true rfl⟩) ⟨sPc_blind _, fun U hU hW => ⟨rfl, trivial⟩⟩ rfl rfl hl.1 rfl (lv_room (Nat.le_of_ble_eq_true rfl)) d_D_joinAt_94 ⟨Nat.le_of_ble_eq_true rfl, Nat.le_of_ble_eq_true rfl⟩).run (fun r_61 h => ?_)
            refine c_callv (va_runV (As := [.int r_60, .int r_61]) (rest := []) ⟨hx, hb, hml, hown, hts⟩ (c_D_join l L r_60 r_61 I_58 F_58 G_58 _ _ h) (cwV 2 hts (gV wG558 wG560 wG11 wG52 wG561) rfl rfl rfl (by decide +kernel) ⟨Nat.le_of_ble_eq_true rfl, Nat.le_of_ble_eq_true rfl⟩) (cPrm3 hK hN hw) rfl rfl hl.1 rfl (lv_room (Nat.le_of_ble_eq_true rfl)) d_D_joinAt_97 ⟨Nat.le_of_ble_eq_true rfl, Nat.le_of_ble_eq_true rfl⟩) hw hA (fun I_62 F_62 G_62 H locs h hw => ?_)
            exact W.vret hx hb hr (fun t ht hW => ⟨⟨(I_62, F_62, G_62), rfl, h, by rw [ht]; exact hw.1, va_K.moved hW.alike hK, hw.2.1⟩, hw.2.2.F ht⟩) hw.2.2.2.2 d_D_joinAt_100
abbrev rm_D_findGroups : Room := { frames := 3, cells := 0, slots := 0, locals := 71 }
set_option maxHeartbeats 4000000 in
set_option maxRecDepth 100000 in
theorem Wl_D_findGroups_2 {p : Program} {l : Launch} {e : Env} {s : State} {m : MethodId} {args : Array Value} {below : List Frame} {meth : Method} {c : Code} {L : cL} {A : Nat → Prop} {post : MI → MF → MG → Prop} {K : Int32 → MI → MF → MG → Prop} (xc : xC p s m args meth c b_D_findGroups 3 lwG qR3 (none)) (hK : va_K L.1 vwCl (cTys L) s) (hN : cNk s) (hA : ∀ q, s.heap.size ≤ q → A q)
    (hk : ∀ (a1 : Int32) (I : MI) (F : MF) (G : MG) (H : Heap) (locs : List Loc) (ls : Array Slot), K a1 I F G → CW L A s.heap I F G H locs → lv_has ls 3 [(0, .ref (cA L 3)), (1, .int a1)] → W p l e rm_D_findGroups s m args below meth c H locs 0 0 (MQ below (cQv L A post A) args s 0 0 A) (F0 m 22 ls [])) :
    ∀ (n : Nat) (a1 : Int32) (I : MI) (F : MF) (G : MG) (H : Heap) (locs : List Loc) (ls : Array Slot), wl_D_findGroups_2 post K n a1 I F G → CW L A s.heap I F G H locs → lv_has ls 3 [(0, .ref (cA L 3)), (1, .int a1)] → W p l e rm_D_findGroups s m args below meth c H locs 0 0 (MQ below (cQv L A post A) args s 0 0 A) (F0 m 2 ls []) := by
  obtain ⟨hx, hb, hml, hown, hts, hr, hlocks⟩ := id xc
  intro n
  induction n with
  | zero => intro a1 I F G H locs ls h; exact absurd h id
  | succ n ih =>
    intro a1 I F G H locs ls h hw hl
    refine lv_iload_n hx hb d_D_findGroups_2 rfl (lv_at hl 1 rfl) ?_
    refine lv_sipush (v := 528) hx hb d_D_findGroups_3 (by decide) ?_
    refine lv_icmp_ge (tgt := 22) hx hb d_D_findGroups_6 (by decide) (fun c_1 => ?_) (fun c_1 => ?_)
    · replace h := h.1 c_1
      exact hk a1 I F G _ _ ls h hw (lv_sub hl [0, 1] rfl)
    · replace h := h.2 c_1
      refine lv_aload_n hx hb d_D_findGroups_9 rfl (lv_at hl 0 rfl) ?_
      refine va_get (D := L.1) (ci := 3) (v := .ref (cA L 21)) (C := qR3) (T := qT3) (N := 7) hx hb hts qi3 hown hK hw.1 3 rfl rfl 3 (by decide) (hts _ wG170) (fun _ h9 => h9) rfl d_D_findGroups_10 ?_
      refine lv_iload_n hx hb d_D_findGroups_13 rfl (lv_at hl 1 rfl) ?_
      refine lv_iload_n hx hb d_D_findGroups_14 rfl (lv_at hl 1 rfl) ?_
      obtain ⟨hi_2, h⟩ := h
      refine c_iast hx hb hK hw 11 (by decide) rfl hi_2 d_D_findGroups_15 (fun H locs hw => ?_)
      obtain ⟨F_3, eF_3⟩ : ∃ y : MF, y = setF F 11 (upd (F 11) a1.toNatClampNeg a1) := ⟨_, rfl⟩
      rw [← eF_3] at hw
      replace h := h F_3 eF_3
      obtain ⟨x_4, ex_4⟩ : ∃ y : Int32, y = a1 + 1 := ⟨_, rfl⟩
      replace h := h x_4 ex_4
      refine lv_iinc (v := x_4) (lv' := [(1, .int x_4), (0, .ref (cA L 3))]) hx hb d_D_findGroups_16 hl (k := 1) rfl (by rw [ex_4]; rfl) (by decide) rfl (fun ls hl => ?_)
      refine lv_goto (tgt := 2) hx hb d_D_findGroups_19 (by decide) ?_
      exact ih x_4 I F_3 G _ _ ls h hw (lv_sub hl [1, 0] rfl)
set_option maxHeartbeats 4000000 in
set_option maxRecDepth 100000 in
theorem Wl_D_findGroups_37 {p : Program} {l : Launch} {e : Env} {s : State} {m : MethodId} {args : Array Value} {below : List Frame} {meth : Method} {c : Code} {L : cL} {A : Nat → Prop} {post : MI → MF → MG → Prop} {K : Int32 → MI → MF → MG → Prop} {a1 : Int32} (xc : xC p s m args meth c b_D_findGroups 3 lwG qR3 (none)) (hK : va_K L.1 vwCl (cTys L) s) (hN : cNk s) (hA : ∀ q, s.heap.size ≤ q → A q)
    (hk : ∀ (a2 : Int32) (I : MI) (F : MF) (G : MG) (H : Heap) (locs : List Loc) (ls : Array Slot), K a2 I F G → CW L A s.heap I F G H locs → lv_has ls 3 [(0, .ref (cA L 3)), (1, .int a1), (2, .int a2)] → W p l e rm_D_findGroups s m args below meth c H locs 0 0 (MQ below (cQv L A post A) args s 0 0 A) (F0 m 55 ls [])) :
    ∀ (n : Nat) (a2 : Int32) (I : MI) (F : MF) (G : MG) (H : Heap) (locs : List Loc) (ls : Array Slot), wl_D_findGroups_37 post K a1 n a2 I F G → CW L A s.heap I F G H locs → lv_has ls 3 [(0, .ref (cA L 3)), (1, .int a1), (2, .int a2)] → W p l e rm_D_findGroups s m args below meth c H locs 0 0 (MQ below (cQv L A post A) args s 0 0 A) (F0 m 37 ls []) := by
  obtain ⟨hx, hb, hml, hown, hts, hr, hlocks⟩ := id xc
  intro n
  induction n with
  | zero => intro a2 I F G H locs ls h; exact absurd h id
  | succ n ih =>
    intro a2 I F G H locs ls h hw hl
    refine lv_iload_n hx hb d_D_findGroups_37 rfl (lv_at hl 2 rfl) ?_
    refine lv_bipush (v := 24) hx hb d_D_findGroups_38 (by decide) ?_
    refine lv_icmp_ge (tgt := 55) hx hb d_D_findGroups_40 (by decide) (fun c_9 => ?_) (fun c_9 => ?_)
    · replace h := h.1 c_9
      exact hk a2 I F G _ _ ls h hw (lv_sub hl [0, 1, 2] rfl)
    · replace h := h.2 c_9
      refine lv_aload_n hx hb d_D_findGroups_43 rfl (lv_at hl 0 rfl) ?_
      refine lv_iload_n hx hb d_D_findGroups_44 rfl (lv_at hl 1 rfl) ?_
      refine lv_iload_n hx hb d_D_findGroups_45 rfl (lv_at hl 2 rfl) ?_
      refine c_callv (va_runV (As := [.int a1, .int a2]) (rest := []) ⟨hx, hb, hml, hown, hts⟩ (c_D_joinAt l L a1 a2 I F G _ _ h) (cwV 2 hts (gV wG551 wG553 wG10 wG52 wG554) rfl rfl rfl (by decide +kernel) ⟨Nat.le_of_ble_eq_true rfl, Nat.le_of_ble_eq_true rfl⟩) (cPrm3 hK hN hw) rfl rfl hl.1 rfl (lv_room (Nat.le_of_ble_eq_true rfl)) d_D_findGroups_46 ⟨Nat.le_of_ble_eq_true rfl, Nat.le_of_ble_eq_true rfl⟩) hw hA (fun I_10 F_10 G_10 H locs h hw => ?_)
      obtain ⟨x_11, ex_11⟩ : ∃ y : Int32, y = a2 + 1 := ⟨_, rfl⟩
      replace h := h x_11 ex_11
      refine lv_iinc (v := x_11) (lv' := [(2, .int x_11), (0, .ref (cA L 3)), (1, .int a1)]) hx hb d_D_findGroups_49 hl (k := 2) rfl (by rw [ex_11]; rfl) (by decide) rfl (fun ls hl => ?_)
      refine lv_goto (tgt := 37) hx hb d_D_findGroups_52 (by decide) ?_
      exact ih x_11 I_10 F_10 G_10 _ _ ls h hw (lv_sub hl [1, 2, 0] rfl)
set_option maxHeartbeats 4000000 in
set_option maxRecDepth 100000 in
theorem Wl_D_findGroups_24 {p : Program} {l : Launch} {e : Env} {s : State} {m : MethodId} {args : Array Value} {below : List Frame} {meth : Method} {c : Code} {L : cL} {A : Nat → Prop} {post : MI → MF → MG → Prop} {K : Int32 → MI → MF → MG → Prop} (xc : xC p s m args meth c b_D_findGroups 3 lwG qR3 (none)) (hK : va_K L.1 vwCl (cTys L) s) (hN : cNk s) (hA : ∀ q, s.heap.size ≤ q → A q)
    (hk : ∀ (a1 : Int32) (I : MI) (F : MF) (G : MG) (H : Heap) (locs : List Loc) (ls : Array Slot), K a1 I F G → CW L A s.heap I F G H locs → lv_has ls 3 [(0, .ref (cA L 3)), (1, .int a1)] → W p l e rm_D_findGroups s m args below meth c H locs 0 0 (MQ below (cQv L A post A) args s 0 0 A) (F0 m 61 ls [])) :
    ∀ (n : Nat) (a1 : Int32) (I : MI) (F : MF) (G : MG) (H : Heap) (locs : List Loc) (ls : Array Slot), wl_D_findGroups_24 post K n a1 I F G → CW L A s.heap I F G H locs → lv_has ls 3 [(0, .ref (cA L 3)), (1, .int a1)] → W p l e rm_D_findGroups s m args below meth c H locs 0 0 (MQ below (cQv L A post A) args s 0 0 A) (F0 m 24 ls []) := by
  obtain ⟨hx, hb, hml, hown, hts, hr, hlocks⟩ := id xc
  intro n
  induction n with
  | zero => intro a1 I F G H locs ls h; exact absurd h id
  | succ n ih =>
    intro a1 I F G H locs ls h hw hl
    refine lv_iload_n hx hb d_D_findGroups_24 rfl (lv_at hl 1 rfl) ?_
    refine lv_aload_n hx hb d_D_findGroups_25 rfl (lv_at hl 0 rfl) ?_
    refine va_get (D := L.1) (ci := 3) (v := .ref (cA L 2)) (C := qR3) (T := qT3) (N := 7) hx hb hts qi3 hown hK hw.1 3 rfl rfl 1 (by decide) (hts _ wG167) (fun _ h9 => h9) rfl d_D_findGroups_26 ?_
    refine vp_callSi (va_runV (As := []) (rest := [.int a1]) ⟨hx, hb, hml, hown, hts⟩ (c_C_lines l L I F G _ h) (cwV 0 hts (gV wG550 wG527 wG528 wG51 wG529) rfl rfl rfl (by decide +kernel) ⟨Nat.le_of_ble_eq_true rfl, Nat.le_of_ble_eq_true rfl⟩) (cPre2 hK hN hw.1) rfl rfl hl.1 rfl (lv_room (Nat.le_of_ble_eq_true rfl)) d_D_findGroups_29 ⟨Nat.le_of_ble_eq_true rfl, Nat.le_of_ble_eq_true rfl⟩).run (fun r_7 h => ?_)
    refine lv_icmp_ge (tgt := 61) hx hb d_D_findGroups_32 (by decide) (fun c_8 => ?_) (fun c_8 => ?_)
    · replace h := h.1 c_8
      exact hk a1 I F G _ _ ls h hw (lv_sub hl [0, 1] rfl)
    · replace h := h.2 c_8
      refine lv_iconst (v := 0) hx hb d_D_findGroups_35 (by decide) ?_
      refine lv_istore_n (lv' := [(2, .int 0), (0, .ref (cA L 3)), (1, .int a1)]) hx hb d_D_findGroups_36 rfl hl (by decide) rfl (fun ls hl => ?_)
      obtain ⟨n_15, h⟩ := h
      refine Wl_D_findGroups_37 xc hK hN hA (hk := fun x_12 I_13 F_13 G_13 H locs ls h hw hl => ?_) n_15 0 I F G _ _ ls h hw (lv_sub hl [1, 2, 0] rfl)
      obtain ⟨x_14, ex_14⟩ : ∃ y : Int32, y = a1 + 1 := ⟨_, rfl⟩
      replace h := h x_14 ex_14
      refine lv_iinc (v := x_14) (lv' := [(1, .int x_14), (0, .ref (cA L 3)), (2, .int x_12)]) hx hb d_D_findGroups_55 hl (k := 1) rfl (by rw [ex_14]; rfl) (by decide) rfl (fun ls hl => ?_)
      refine lv_goto (tgt := 24) hx hb d_D_findGroups_58 (by decide) ?_
      exact ih x_14 I_13 F_13 G_13 _ _ ls h hw (lv_sub hl [1, 0] rfl)
set_option maxHeartbeats 4000000 in
set_option maxRecDepth 100000 in
theorem c_D_findGroups (l : Launch) (L : cL) (I : MI) (F : MF) (G : MG) (sz : Nat) (post : MI → MF → MG → Prop) (h : wp_D_findGroups I F G post) : Met l y_D_findGroups (.code y_D_findGroups b_D_findGroups 3 (none) :: lwG) rm_D_findGroups (cPm L I F G sz [.ref (cA L 3)]) (cQv L (cAA L I F G sz) post (cAA L I F G sz)) 0 0 (cAA L I F G sz) := by
  refine Met.ofW (cc := b_D_findGroups) (maxL := 3) (ret := (none)) (by decide) rfl ?_
  intro p e s m args below meth c s₁ B hml hv
  obtain ⟨rfl, hsz, hP, hK, hD0, hN⟩ := hv
  have xc : xC p s m _ meth c b_D_findGroups 3 lwG qR3 (none) := ⟨B.exec, B.bytes, hml, findClass_of_methodNamed B.named, fun w h => atoms_spec (ws := (.code y_D_findGroups b_D_findGroups 3 (none) :: lwG)) B.pre w (List.mem_cons_of_mem _ h), B.returns, B.notSynchronized⟩
  obtain ⟨hx, hb, hml, hown, hts, hr, hlocks⟩ := id xc
  subst hsz
  have hD : va_D (cAA L I F G s.heap.size) (WC L I F G) := hD0.self
  have hA0 : ∀ q : Nat, s.heap.size ≤ q → cAA L I F G s.heap.size q := fun q h => Or.inr h
  generalize cAA L I F G s.heap.size = A at hD hA0 ⊢
  have hA := hA0
  have hw : CW L A s.heap I F G s.heap [] := ⟨hP, hD, va_S.rf⟩
  have hl := lv_entry ([.ref (cA L 3)]) (n := 3) (Nat.le_of_ble_eq_true rfl)
  rw [lg_entry_eq]
  generalize (lg_sl ([.ref (cA L 3)]) ++ List.replicate (3 - (lg_sl ([.ref (cA L 3)])).length) Slot.unset).toArray = ls at hl ⊢
  have hl : lv_has ls 3 [(0, .ref (cA L 3))] := hl
  refine lv_iconst (v := 0) hx hb d_D_findGroups_0 (by decide) ?_
  refine lv_istore_n (lv' := [(1, .int 0), (0, .ref (cA L 3))]) hx hb d_D_findGroups_1 rfl hl (by decide) rfl (fun ls hl => ?_)
  obtain ⟨n_19, h⟩ := h
  refine Wl_D_findGroups_2 xc hK hN hA (hk := fun x_5 I_6 F_6 G_6 H locs ls h hw hl => ?_) n_19 0 I F G _ _ ls h hw (lv_sub hl [1, 0] rfl)
  refine lv_iconst (v := 0) hx hb d_D_findGroups_22 (by decide) ?_
  refine lv_istore_n (lv' := [(1, .int 0), (0, .ref (cA L 3))]) hx hb d_D_findGroups_23 rfl hl (by decide) rfl (fun ls hl => ?_)
  obtain ⟨n_18, h⟩ := h
  refine Wl_D_findGroups_24 xc hK hN hA (hk := fun x_16 I_17 F_17 G_17 H locs ls h hw hl => ?_) n_18 0 I_6 F_6 G_6 _ _ ls h hw (lv_sub hl [1, 0] rfl)
  exact W.vret hx hb hr (fun t ht hW => ⟨⟨(I_17, F_17, G_17), rfl, h, by rw [ht]; exact hw.1, va_K.moved hW.alike hK, hw.2.1⟩, hw.2.2.F ht⟩) hw.2.2.2.2 d_D_findGroups_61
abbrev rm_D_groupOfRow : Room := { frames := 1, cells := 0, slots := 0, locals := 23 }
set_option maxHeartbeats 4000000 in
set_option maxRecDepth 100000 in
theorem c_D_groupOfRow (l : Launch) (L : cL) (a1 : Int32) (a2 : Int32) (I : MI) (F : MF) (G : MG) (sz : Nat) (post : Int32 → MI → MF → MG → Prop) (h : wp_D_groupOfRow a1 a2 I F G post) : Met l y_D_groupOfRow (.code y_D_groupOfRow b_D_groupOfRow 4 (some .int) :: lwG) rm_D_groupOfRow (cPm L I F G sz [.ref (cA L 3), .int a1, .int a2]) (cQi L (cAA L I F G sz) post (cAA L I F G sz)) 0 0 (cAA L I F G sz) := by
  refine Met.ofW (cc := b_D_groupOfRow) (maxL := 4) (ret := (some .int)) (by decide) rfl ?_
  intro p e s m args below meth c s₁ B hml hv
  obtain ⟨rfl, hsz, hP, hK, hD0, hN⟩ := hv
  have xc : xC p s m _ meth c b_D_groupOfRow 4 lwG qR3 (some .int) := ⟨B.exec, B.bytes, hml, findClass_of_methodNamed B.named, fun w h => atoms_spec (ws := (.code y_D_groupOfRow b_D_groupOfRow 4 (some .int) :: lwG)) B.pre w (List.mem_cons_of_mem _ h), B.returns, B.notSynchronized⟩
  obtain ⟨hx, hb, hml, hown, hts, hr, hlocks⟩ := id xc
  subst hsz
  have hD : va_D (cAA L I F G s.heap.size) (WC L I F G) := hD0.self
  have hA0 : ∀ q : Nat, s.heap.size ≤ q → cAA L I F G s.heap.size q := fun q h => Or.inr h
  generalize cAA L I F G s.heap.size = A at hD hA0 ⊢
  have hA := hA0
  have hw : CW L A s.heap I F G s.heap [] := ⟨hP, hD, va_S.rf⟩
  have hl := lv_entry ([.ref (cA L 3), .int a1, .int a2]) (n := 4) (Nat.le_of_ble_eq_true rfl)
  rw [lg_entry_eq]
  generalize (lg_sl ([.ref (cA L 3), .int a1, .int a2]) ++ List.replicate (4 - (lg_sl ([.ref (cA L 3), .int a1, .int a2])).length) Slot.unset).toArray = ls at hl ⊢
  have hl : lv_has ls 4 [(0, .ref (cA L 3)), (1, .int a1), (2, .int a2)] := hl
  refine lv_iload_n hx hb d_D_groupOfRow_0 rfl (lv_at hl 1 rfl) ?_
  refine lv_if_ne (tgt := 8) hx hb d_D_groupOfRow_1 (by decide) (fun c_1 => ?_) (fun c_1 => ?_)
  · replace h := h.1 c_1
    refine lv_aload_n hx hb d_D_groupOfRow_8 rfl (lv_at hl 0 rfl) ?_
    refine va_get (D := L.1) (ci := 3) (v := .ref (cA L 2)) (C := qR3) (T := qT3) (N := 7) hx hb hts qi3 hown hK hw.1 3 rfl rfl 1 (by decide) (hts _ wG167) (fun _ h9 => h9) rfl d_D_groupOfRow_9 ?_
    refine va_get (D := L.1) (ci := 2) (v := .int (I 2)) (C := qR2) (T := qT2) (N := 3) hx hb hts qi2 hown hK hw.1 2 rfl rfl 1 (by decide) (hts _ wG148) (fun _ h9 => h9) rfl d_D_groupOfRow_12 ?_
    refine lv_iconst (v := 1) hx hb d_D_groupOfRow_15 (by decide) ?_
    refine lv_iadd hx hb d_D_groupOfRow_16 ?_
    refine lv_topi (fun x_2 ex_2 => ?_)
    replace h := h x_2 ex_2
    refine lv_istore_n (lv' := [(3, .int x_2), (0, .ref (cA L 3)), (1, .int a1), (2, .int a2)]) hx hb d_D_groupOfRow_17 rfl hl (by decide) rfl (fun ls hl => ?_)
    refine lv_aload_n hx hb d_D_groupOfRow_18 rfl (lv_at hl 1 rfl) ?_
    refine lv_iload_n hx hb d_D_groupOfRow_19 rfl (lv_at hl 0 rfl) ?_
    refine lv_iload_n hx hb d_D_groupOfRow_20 rfl (lv_at hl 3 rfl) ?_
    refine lv_iconst (v := 1) hx hb d_D_groupOfRow_21 (by decide) ?_
    refine vp_callSi (va_runS (As := [.int x_2, .int a2, .int 1]) (rest := [.ref (cA L 3)]) ⟨hx, hb, hml, hown, hts⟩ (c_D_spot l x_2 a2 1 _ h) (va_cwS 3 hts (gS wG555 wG556 wG52 wG557) rfl rfl rfl (by decide +kernel) ⟨Nat.le_of_ble_eq_true rfl, Nat.le_of_ble_eq_true rfl⟩) ⟨sPc_blind _, fun U hU hW => ⟨rfl, trivial⟩⟩ rfl rfl hl.1 rfl (lv_room (Nat.le_of_ble_eq_true rfl)) d_D_groupOfRow_22 ⟨Nat.le_of_ble_eq_true rfl, Nat.le_of_ble_eq_true rfl⟩).run (fun r_3 h => ?_)
    refine c_calli (va_runV (As := [.int r_3]) (rest := []) ⟨hx, hb, hml, hown, hts⟩ (c_D_group l L r_3 I F G _ _ h) (cwV 1 hts (gV wG562 wG564 wG12 wG52 wG565) rfl rfl rfl (by decide +kernel) ⟨Nat.le_of_ble_eq_true rfl, Nat.le_of_ble_eq_true rfl⟩) (cPrm3 hK hN hw) rfl rfl hl.1 rfl (lv_room (Nat.le_of_ble_eq_true rfl)) d_D_groupOfRow_25 ⟨Nat.le_of_ble_eq_true rfl, Nat.le_of_ble_eq_true rfl⟩) hw hA (fun r_4 I_5 F_5 G_5 H locs h hw => ?_)
    exact W.iret hx hb hr (fun t ht hW => ⟨⟨_, (I_5, F_5, G_5), rfl, h, by rw [ht]; exact hw.1, va_K.moved hW.alike hK, hw.2.1⟩, hw.2.2.F ht⟩) hw.2.2.2.2 d_D_groupOfRow_28
  · replace h := h.2 c_1
    refine lv_iconst (v := 0) hx hb d_D_groupOfRow_4 (by decide) ?_
    refine lv_goto (tgt := 17) hx hb d_D_groupOfRow_5 (by decide) ?_
    refine lv_istore_n (lv' := [(3, .int 0), (0, .ref (cA L 3)), (1, .int a1), (2, .int a2)]) hx hb d_D_groupOfRow_17 rfl hl (by decide) rfl (fun ls hl => ?_)
    refine lv_aload_n hx hb d_D_groupOfRow_18 rfl (lv_at hl 1 rfl) ?_
    refine lv_iload_n hx hb d_D_groupOfRow_19 rfl (lv_at hl 0 rfl) ?_
    refine lv_iload_n hx hb d_D_groupOfRow_20 rfl (lv_at hl 3 rfl) ?_
    refine lv_iconst (v := 1) hx hb d_D_groupOfRow_21 (by decide) ?_
    refine vp_callSi (va_runS (As := [.int 0, .int a2, .int 1]) (rest := [.ref (cA L 3)]) ⟨hx, hb, hml, hown, hts⟩ (c_D_spot l 0 a2 1 _ h) (va_cwS 3 hts (gS wG555 wG556 wG52 wG557) rfl rfl rfl (by decide +kernel) ⟨Nat.le_of_ble_eq_true rfl, Nat.le_of_ble_eq_true rfl⟩) ⟨sPc_blind _, fun U hU hW => ⟨rfl, trivial⟩⟩ rfl rfl hl.1 rfl (lv_room (Nat.le_of_ble_eq_true rfl)) d_D_groupOfRow_22 ⟨Nat.le_of_ble_eq_true rfl, Nat.le_of_ble_eq_true rfl⟩).run (fun r_6 h => ?_)
    refine c_calli (va_runV (As := [.int r_6]) (rest := []) ⟨hx, hb, hml, hown, hts⟩ (c_D_group l L r_6 I F G _ _ h) (cwV 1 hts (gV wG562 wG564 wG12 wG52 wG565) rfl rfl rfl (by decide +kernel) ⟨Nat.le_of_ble_eq_true rfl, Nat.le_of_ble_eq_true rfl⟩) (cPrm3 hK hN hw) rfl rfl hl.1 rfl (lv_room (Nat.le_of_ble_eq_true rfl)) d_D_groupOfRow_25 ⟨Nat.le_of_ble_eq_true rfl, Nat.le_of_ble_eq_true rfl⟩) hw hA (fun r_7 I_8 F_8 G_8 H locs h hw => ?_)
    exact W.iret hx hb hr (fun t ht hW => ⟨⟨_, (I_8, F_8, G_8), rfl, h, by rw [ht]; exact hw.1, va_K.moved hW.alike hK, hw.2.1⟩, hw.2.2.F ht⟩) hw.2.2.2.2 d_D_groupOfRow_28
abbrev rm_D_groupOfPin : Room := { frames := 2, cells := 0, slots := 0, locals := 46 }
set_option maxHeartbeats 4000000 in
set_option maxRecDepth 100000 in
theorem c_D_groupOfPin (l : Launch) (L : cL) (a1 : Int32) (a2 : Int32) (I : MI) (F : MF) (G : MG) (sz : Nat) (post : Int32 → MI → MF → MG → Prop) (h : wp_D_groupOfPin a1 a2 I F G post) : Met l y_D_groupOfPin (.code y_D_groupOfPin b_D_groupOfPin 3 (some .int) :: lwG) rm_D_groupOfPin (cPm L I F G sz [.ref (cA L 3), .int a1, .int a2]) (cQi L (cAA L I F G sz) post (cAA L I F G sz)) 0 0 (cAA L I F G sz) := by
  refine Met.ofW (cc := b_D_groupOfPin) (maxL := 3) (ret := (some .int)) (by decide) rfl ?_
  intro p e s m args below meth c s₁ B hml hv
  obtain ⟨rfl, hsz, hP, hK, hD0, hN⟩ := hv
  have xc : xC p s m _ meth c b_D_groupOfPin 3 lwG qR3 (some .int) := ⟨B.exec, B.bytes, hml, findClass_of_methodNamed B.named, fun w h => atoms_spec (ws := (.code y_D_groupOfPin b_D_groupOfPin 3 (some .int) :: lwG)) B.pre w (List.mem_cons_of_mem _ h), B.returns, B.notSynchronized⟩
  obtain ⟨hx, hb, hml, hown, hts, hr, hlocks⟩ := id xc
  subst hsz
  have hD : va_D (cAA L I F G s.heap.size) (WC L I F G) := hD0.self
  have hA0 : ∀ q : Nat, s.heap.size ≤ q → cAA L I F G s.heap.size q := fun q h => Or.inr h
  generalize cAA L I F G s.heap.size = A at hD hA0 ⊢
  have hA := hA0
  have hw : CW L A s.heap I F G s.heap [] := ⟨hP, hD, va_S.rf⟩
  have hl := lv_entry ([.ref (cA L 3), .int a1, .int a2]) (n := 3) (Nat.le_of_ble_eq_true rfl)
  rw [lg_entry_eq]
  generalize (lg_sl ([.ref (cA L 3), .int a1, .int a2]) ++ List.replicate (3 - (lg_sl ([.ref (cA L 3), .int a1, .int a2])).length) Slot.unset).toArray = ls at hl ⊢
  have hl : lv_has ls 3 [(0, .ref (cA L 3)), (1, .int a1), (2, .int a2)] := hl
  refine lv_aload_n hx hb d_D_groupOfPin_0 rfl (lv_at hl 0 rfl) ?_
  refine lv_aload_n hx hb d_D_groupOfPin_1 rfl (lv_at hl 0 rfl) ?_
  refine va_get (D := L.1) (ci := 3) (v := .ref (cA L 1)) (C := qR3) (T := qT3) (N := 7) hx hb hts qi3 hown hK hw.1 3 rfl rfl 0 (by decide) (hts _ wG166) (fun _ h9 => h9) rfl d_D_groupOfPin_2 ?_
  refine va_get (D := L.1) (ci := 1) (v := .ref (cA L 14)) (C := qR1) (T := qT1) (N := 13) hx hb hts qi1 hown hK hw.1 1 rfl rfl 5 (by decide) (hts _ wG100) (fun _ h9 => h9) rfl d_D_groupOfPin_5 ?_
  refine lv_iload_n hx hb d_D_groupOfPin_8 rfl (lv_at hl 1 rfl) ?_
  obtain ⟨hi_1, h⟩ := h
  refine c_iald hx hb hK hw.1 4 (by decide) rfl hi_1 d_D_groupOfPin_9 ?_
  refine lv_aload_n hx hb d_D_groupOfPin_10 rfl (lv_at hl 0 rfl) ?_
  refine va_get (D := L.1) (ci := 3) (v := .ref (cA L 1)) (C := qR3) (T := qT3) (N := 7) hx hb hts qi3 hown hK hw.1 3 rfl rfl 0 (by decide) (hts _ wG166) (fun _ h9 => h9) rfl d_D_groupOfPin_11 ?_
  refine lv_iload_n hx hb d_D_groupOfPin_14 rfl (lv_at hl 1 rfl) ?_
  refine lv_iload_n hx hb d_D_groupOfPin_15 rfl (lv_at hl 2 rfl) ?_
  refine vp_callSi (va_runV (As := [.int a1, .int a2]) (rest := [.int (F 4 a1.toNatClampNeg), .ref (cA L 3)]) ⟨hx, hb, hml, hown, hts⟩ (c_N_pinColumn l L a1 a2 I F G _ h) (cwV 2 hts (gV wG572 wG486 wG487 wG49 wG488) rfl rfl rfl (by decide +kernel) ⟨Nat.le_of_ble_eq_true rfl, Nat.le_of_ble_eq_true rfl⟩) (cPre1 hK hN hw.1) rfl rfl hl.1 rfl (lv_room (Nat.le_of_ble_eq_true rfl)) d_D_groupOfPin_16 ⟨Nat.le_of_ble_eq_true rfl, Nat.le_of_ble_eq_true rfl⟩).run (fun r_2 h => ?_)
  refine c_calli (va_runV (As := [.int (F 4 a1.toNatClampNeg), .int r_2]) (rest := []) ⟨hx, hb, hml, hown, hts⟩ (c_D_groupOfRow l L (F 4 a1.toNatClampNeg) r_2 I F G _ _ h) (cwV 2 hts (gV wG573 wG575 wG13 wG52 wG576) rfl rfl rfl (by decide +kernel) ⟨Nat.le_of_ble_eq_true rfl, Nat.le_of_ble_eq_true rfl⟩) (cPrm3 hK hN hw) rfl rfl hl.1 rfl (lv_room (Nat.le_of_ble_eq_true rfl)) d_D_groupOfPin_19 ⟨Nat.le_of_ble_eq_true rfl, Nat.le_of_ble_eq_true rfl⟩) hw hA (fun r_3 I_4 F_4 G_4 H locs h hw => ?_)
  exact W.iret hx hb hr (fun t ht hW => ⟨⟨_, (I_4, F_4, G_4), rfl, h, by rw [ht]; exact hw.1, va_K.moved hW.alike hK, hw.2.1⟩, hw.2.2.F ht⟩) hw.2.2.2.2 d_D_groupOfPin_22
abbrev rm_F_joined : Room := { frames := 7, cells := 3, slots := 18, locals := 118 }
set_option maxHeartbeats 4000000 in
set_option maxRecDepth 100000 in
theorem c_F_joined (l : Launch) (L : cL) (hst : l.stackTraces = false) (a1 : Int32) (a2 : Int32) (a3 : Int32) (a4 : Int32) (I : MI) (F : MF) (G : MG) (sz : Nat) (post : Int32 → MI → MF → MG → Prop) (thr : String → MI → MF → MG → Prop) (h : wp_F_joined a1 a2 a3 a4 I F G post thr) : tx_Met l y_F_joined (.code y_F_joined b_F_joined 5 (some .boolean) :: lwG) rm_F_joined (cPx L I F G sz [.ref (cA L 0), .int a1, .int a2, .int a3, .int a4]) (cRi L (cAA L I F G sz) post (cAA L I F G sz)) (cX L (cAA L I F G sz) thr (cAA L I F G sz)) 3 18 (cAA L I F G sz) := by
  refine tx_ofW (cc := b_F_joined) (maxL := 5) (ret := (some .boolean)) (by decide) rfl ?_
  intro p e s m args below meth c s₁ B hml hnt hv
  obtain ⟨rfl, hsz, hP, hK, hD0, hN, hz, hsr⟩ := hv
  have xc : xC p s m _ meth c b_F_joined 5 lwG qR0 (some .boolean) := ⟨B.exec, B.bytes, hml, findClass_of_methodNamed B.named, fun w h => atoms_spec (ws := (.code y_F_joined b_F_joined 5 (some .boolean) :: lwG)) B.pre w (List.mem_cons_of_mem _ h), B.returns, B.notSynchronized⟩
  obtain ⟨hx, hb, hml, hown, hts, hr, hlocks⟩ := id xc
  subst hsz
  have hD : va_D (cAA L I F G s.heap.size) (WC L I F G) := hD0.self
  have hA0 : ∀ q : Nat, s.heap.size ≤ q → cAA L I F G s.heap.size q := fun q h => Or.inr h
  generalize cAA L I F G s.heap.size = A at hD hA0 hz ⊢
  have hA := hA0
  have hw : CW L A s.heap I F G s.heap [] := ⟨hP, hD, va_S.rf⟩
  have hl := lv_entry ([.ref (cA L 0), .int a1, .int a2, .int a3, .int a4]) (n := 5) (Nat.le_of_ble_eq_true rfl)
  rw [lg_entry_eq]
  generalize (lg_sl ([.ref (cA L 0), .int a1, .int a2, .int a3, .int a4]) ++ List.replicate (5 - (lg_sl ([.ref (cA L 0), .int a1, .int a2, .int a3, .int a4])).length) Slot.unset).toArray = ls at hl ⊢
  have hl : lv_has ls 5 [(0, .ref (cA L 0)), (1, .int a1), (2, .int a2), (3, .int a3), (4, .int a4)] := hl
  refine lv_aload_n hx hb d_F_joined_0 rfl (lv_at hl 0 rfl) ?_
  refine c_callXv (tx_runV (As := []) (rest := []) ⟨hx, hb, hml, hown, hts⟩ (c_F_needRouted l L hst I F G _ _ _ h) (cwV 0 hts (gV wG521 wG523 wG9 wG48 wG524) rfl rfl rfl (by decide +kernel) ⟨Nat.le_of_ble_eq_true rfl, Nat.le_of_ble_eq_true rfl⟩) (cPrx0 hK hN hw hA hz hsr) rfl rfl hl.1 rfl (lv_room (Nat.le_of_ble_eq_true rfl)) d_F_joined_1 ⟨Nat.le_of_ble_eq_true rfl, Nat.le_of_ble_eq_true rfl⟩) hw hA hK hnt hlocks (Nat.le_of_ble_eq_true rfl) (Nat.le_of_ble_eq_true rfl) (fun I_1 F_1 G_1 H locs h hw => ?_)
  refine lv_aload_n hx hb d_F_joined_4 rfl (lv_at hl 0 rfl) ?_
  refine lv_iload_n hx hb d_F_joined_5 rfl (lv_at hl 1 rfl) ?_
  refine lv_iload_n hx hb d_F_joined_6 rfl (lv_at hl 2 rfl) ?_
  refine c_callXv (tx_runV (As := [.int a1, .int a2]) (rest := []) ⟨hx, hb, hml, hown, hts⟩ (c_F_needPin l L hst a1 a2 I_1 F_1 G_1 _ _ _ h) (cwV 2 hts (gV wG460 wG462 wG6 wG48 wG463) rfl rfl rfl (by decide +kernel) ⟨Nat.le_of_ble_eq_true rfl, Nat.le_of_ble_eq_true rfl⟩) (cPrx0 hK hN hw hA hz hsr) rfl rfl hl.1 rfl (lv_room (Nat.le_of_ble_eq_true rfl)) d_F_joined_7 ⟨Nat.le_of_ble_eq_true rfl, Nat.le_of_ble_eq_true rfl⟩) hw hA hK hnt hlocks (Nat.le_of_ble_eq_true rfl) (Nat.le_of_ble_eq_true rfl) (fun I_2 F_2 G_2 H locs h hw => ?_)
  refine lv_aload_n hx hb d_F_joined_10 rfl (lv_at hl 0 rfl) ?_
  refine lv_iload_n hx hb d_F_joined_11 rfl (lv_at hl 3 rfl) ?_
  refine lv_iload hx hb d_F_joined_12 (lv_at hl 4 rfl) ?_
  refine c_callXv (tx_runV (As := [.int a3, .int a4]) (rest := []) ⟨hx, hb, hml, hown, hts⟩ (c_F_needPin l L hst a3 a4 I_2 F_2 G_2 _ _ _ h) (cwV 2 hts (gV wG460 wG462 wG6 wG48 wG463) rfl rfl rfl (by decide +kernel) ⟨Nat.le_of_ble_eq_true rfl, Nat.le_of_ble_eq_true rfl⟩) (cPrx0 hK hN hw hA hz hsr) rfl rfl hl.1 rfl (lv_room (Nat.le_of_ble_eq_true rfl)) d_F_joined_14 ⟨Nat.le_of_ble_eq_true rfl, Nat.le_of_ble_eq_true rfl⟩) hw hA hK hnt hlocks (Nat.le_of_ble_eq_true rfl) (Nat.le_of_ble_eq_true rfl) (fun I_3 F_3 G_3 H locs h hw => ?_)
  refine lv_aload_n hx hb d_F_joined_17 rfl (lv_at hl 0 rfl) ?_
  refine va_get (D := L.1) (ci := 0) (v := .ref (cA L 3)) (C := qR0) (T := qT0) (N := 5) hx hb hts qi0 hown hK hw.1 0 rfl rfl 2 (by decide) (hts _ wG221) (fun _ h9 => h9) rfl d_F_joined_18 ?_
  refine c_callv (va_runV (As := []) (rest := []) ⟨hx, hb, hml, hown, hts⟩ (c_D_findGroups l L I_3 F_3 G_3 _ _ h) (cwV 0 hts (gV wG546 wG547 wG548 wG52 wG549) rfl rfl rfl (by decide +kernel) ⟨Nat.le_of_ble_eq_true rfl, Nat.le_of_ble_eq_true rfl⟩) (cPrm3 hK hN hw) rfl rfl hl.1 rfl (lv_room (Nat.le_of_ble_eq_true rfl)) d_F_joined_21 ⟨Nat.le_of_ble_eq_true rfl, Nat.le_of_ble_eq_true rfl⟩) hw hA (fun I_4 F_4 G_4 H locs h hw => ?_)
  refine lv_aload_n hx hb d_F_joined_24 rfl (lv_at hl 0 rfl) ?_
  refine va_get (D := L.1) (ci := 0) (v := .ref (cA L 3)) (C := qR0) (T := qT0) (N := 5) hx hb hts qi0 hown hK hw.1 0 rfl rfl 2 (by decide) (hts _ wG221) (fun _ h9 => h9) rfl d_F_joined_25 ?_
  refine lv_iload_n hx hb d_F_joined_28 rfl (lv_at hl 1 rfl) ?_
  refine lv_iload_n hx hb d_F_joined_29 rfl (lv_at hl 2 rfl) ?_
  refine c_calli (va_runV (As := [.int a1, .int a2]) (rest := []) ⟨hx, hb, hml, hown, hts⟩ (c_D_groupOfPin l L a1 a2 I_4 F_4 G_4 _ _ h) (cwV 2 hts (gV wG568 wG569 wG570 wG52 wG571) rfl rfl rfl (by decide +kernel) ⟨Nat.le_of_ble_eq_true rfl, Nat.le_of_ble_eq_true rfl⟩) (cPrm3 hK hN hw) rfl rfl hl.1 rfl (lv_room (Nat.le_of_ble_eq_true rfl)) d_F_joined_30 ⟨Nat.le_of_ble_eq_true rfl, Nat.le_of_ble_eq_true rfl⟩) hw hA (fun r_5 I_6 F_6 G_6 H locs h hw => ?_)
  refine lv_aload_n hx hb d_F_joined_33 rfl (lv_at hl 0 rfl) ?_
  refine va_get (D := L.1) (ci := 0) (v := .ref (cA L 3)) (C := qR0) (T := qT0) (N := 5) hx hb hts qi0 hown hK hw.1 0 rfl rfl 2 (by decide) (hts _ wG221) (fun _ h9 => h9) rfl d_F_joined_34 ?_
  refine lv_iload_n hx hb d_F_joined_37 rfl (lv_at hl 3 rfl) ?_
  refine lv_iload hx hb d_F_joined_38 (lv_at hl 4 rfl) ?_
  refine c_calli (va_runV (As := [.int a3, .int a4]) (rest := [.int r_5]) ⟨hx, hb, hml, hown, hts⟩ (c_D_groupOfPin l L a3 a4 I_6 F_6 G_6 _ _ h) (cwV 2 hts (gV wG568 wG569 wG570 wG52 wG571) rfl rfl rfl (by decide +kernel) ⟨Nat.le_of_ble_eq_true rfl, Nat.le_of_ble_eq_true rfl⟩) (cPrm3 hK hN hw) rfl rfl hl.1 rfl (lv_room (Nat.le_of_ble_eq_true rfl)) d_F_joined_40 ⟨Nat.le_of_ble_eq_true rfl, Nat.le_of_ble_eq_true rfl⟩) hw hA (fun r_7 I_8 F_8 G_8 H locs h hw => ?_)
  refine lv_icmp_ne (tgt := 50) hx hb d_F_joined_43 (by decide) (fun c_9 => ?_) (fun c_9 => ?_)
  · replace h := h.1 c_9
    refine lv_iconst (v := 0) hx hb d_F_joined_50 (by decide) ?_
    refine W.widen (k := 3) (n := 18) (Nat.le_of_ble_eq_true rfl) (Nat.le_of_ble_eq_true rfl) ?_
    refine tx_ret ?_
    exact W.zret hx hb hr rfl (fun t ht hW => ⟨⟨_, (I_8, F_8, G_8), rfl, ⟨_, rfl, h⟩, by rw [ht]; exact hw.1, va_K.moved hW.alike hK, hw.2.1⟩, hw.2.2.F ht⟩) hw.2.2.2.2 d_F_joined_51
  · replace h := h.2 c_9
    refine lv_iconst (v := 1) hx hb d_F_joined_46 (by decide) ?_
    refine lv_goto (tgt := 51) hx hb d_F_joined_47 (by decide) ?_
    refine W.widen (k := 3) (n := 18) (Nat.le_of_ble_eq_true rfl) (Nat.le_of_ble_eq_true rfl) ?_
    refine tx_ret ?_
    exact W.zret hx hb hr rfl (fun t ht hW => ⟨⟨_, (I_8, F_8, G_8), rfl, ⟨_, rfl, h⟩, by rw [ht]; exact hw.1, va_K.moved hW.alike hK, hw.2.1⟩, hw.2.2.F ht⟩) hw.2.2.2.2 d_F_joined_51
abbrev rm_D_addEnd : Room := { frames := 0, cells := 0, slots := 0, locals := 0 }
set_option maxHeartbeats 4000000 in
set_option maxRecDepth 100000 in
theorem c_D_addEnd (l : Launch) (L : cL) (a1 : Int32) (a2 : Int32) (I : MI) (F : MF) (G : MG) (sz : Nat) (post : MI → MF → MG → Prop) (h : wp_D_addEnd a1 a2 I F G post) : Met l y_D_addEnd (.code y_D_addEnd b_D_addEnd 3 (none) :: lwG) rm_D_addEnd (cPm L I F G sz [.ref (cA L 3), .int a1, .int a2]) (cQv L (cAA L I F G sz) post (cAA L I F G sz)) 0 0 (cAA L I F G sz) := by
  refine Met.ofW (cc := b_D_addEnd) (maxL := 3) (ret := (none)) (by decide) rfl ?_
  intro p e s m args below meth c s₁ B hml hv
  obtain ⟨rfl, hsz, hP, hK, hD0, hN⟩ := hv
  have xc : xC p s m _ meth c b_D_addEnd 3 lwG qR3 (none) := ⟨B.exec, B.bytes, hml, findClass_of_methodNamed B.named, fun w h => atoms_spec (ws := (.code y_D_addEnd b_D_addEnd 3 (none) :: lwG)) B.pre w (List.mem_cons_of_mem _ h), B.returns, B.notSynchronized⟩
  obtain ⟨hx, hb, hml, hown, hts, hr, hlocks⟩ := id xc
  subst hsz
  have hD : va_D (cAA L I F G s.heap.size) (WC L I F G) := hD0.self
  have hA0 : ∀ q : Nat, s.heap.size ≤ q → cAA L I F G s.heap.size q := fun q h => Or.inr h
  generalize cAA L I F G s.heap.size = A at hD hA0 ⊢
  have hA := hA0
  have hw : CW L A s.heap I F G s.heap [] := ⟨hP, hD, va_S.rf⟩
  have hl := lv_entry ([.ref (cA L 3), .int a1, .int a2]) (n := 3) (Nat.le_of_ble_eq_true rfl)
  rw [lg_entry_eq]
  generalize (lg_sl ([.ref (cA L 3), .int a1, .int a2]) ++ List.replicate (3 - (lg_sl ([.ref (cA L 3), .int a1, .int a2])).length) Slot.unset).toArray = ls at hl ⊢
  have hl : lv_has ls 3 [(0, .ref (cA L 3)), (1, .int a1), (2, .int a2)] := hl
  refine lv_aload_n hx hb d_D_addEnd_0 rfl (lv_at hl 0 rfl) ?_
  refine va_get (D := L.1) (ci := 3) (v := .int (I 3)) (C := qR3) (T := qT3) (N := 7) hx hb hts qi3 hown hK hw.1 3 rfl rfl 6 (by decide) (hts _ wG173) (fun _ h9 => h9) rfl d_D_addEnd_1 ?_
  refine lv_bipush (v := 60) hx hb d_D_addEnd_4 (by decide) ?_
  refine lv_icmp_ge (tgt := 39) hx hb d_D_addEnd_6 (by decide) (fun c_1 => ?_) (fun c_1 => ?_)
  · replace h := h.1 c_1
    exact W.vret hx hb hr (fun t ht hW => ⟨⟨(I, F, G), rfl, h, by rw [ht]; exact hw.1, va_K.moved hW.alike hK, hw.2.1⟩, hw.2.2.F ht⟩) hw.2.2.2.2 d_D_addEnd_39
  · replace h := h.2 c_1
    refine lv_aload_n hx hb d_D_addEnd_9 rfl (lv_at hl 0 rfl) ?_
    refine va_get (D := L.1) (ci := 3) (v := .ref (cA L 22)) (C := qR3) (T := qT3) (N := 7) hx hb hts qi3 hown hK hw.1 3 rfl rfl 4 (by decide) (hts _ wG171) (fun _ h9 => h9) rfl d_D_addEnd_10 ?_
    refine lv_aload_n hx hb d_D_addEnd_13 rfl (lv_at hl 0 rfl) ?_
    refine va_get (D := L.1) (ci := 3) (v := .int (I 3)) (C := qR3) (T := qT3) (N := 7) hx hb hts qi3 hown hK hw.1 3 rfl rfl 6 (by decide) (hts _ wG173) (fun _ h9 => h9) rfl d_D_addEnd_14 ?_
    refine lv_iload_n hx hb d_D_addEnd_17 rfl (lv_at hl 1 rfl) ?_
    obtain ⟨hi_2, h⟩ := h
    refine c_iast hx hb hK hw 12 (by decide) rfl hi_2 d_D_addEnd_18 (fun H locs hw => ?_)
    obtain ⟨F_3, eF_3⟩ : ∃ y : MF, y = setF F 12 (upd (F 12) (I 3).toNatClampNeg a1) := ⟨_, rfl⟩
    rw [← eF_3] at hw
    replace h := h F_3 eF_3
    refine lv_aload_n hx hb d_D_addEnd_19 rfl (lv_at hl 0 rfl) ?_
    refine va_get (D := L.1) (ci := 3) (v := .ref (cA L 23)) (C := qR3) (T := qT3) (N := 7) hx hb hts qi3 hown hK hw.1 3 rfl rfl 5 (by decide) (hts _ wG172) (fun _ h9 => h9) rfl d_D_addEnd_20 ?_
    refine lv_aload_n hx hb d_D_addEnd_23 rfl (lv_at hl 0 rfl) ?_
    refine va_get (D := L.1) (ci := 3) (v := .int (I 3)) (C := qR3) (T := qT3) (N := 7) hx hb hts qi3 hown hK hw.1 3 rfl rfl 6 (by decide) (hts _ wG173) (fun _ h9 => h9) rfl d_D_addEnd_24 ?_
    refine lv_iload_n hx hb d_D_addEnd_27 rfl (lv_at hl 2 rfl) ?_
    obtain ⟨hi_4, h⟩ := h
    refine c_iast hx hb hK hw 13 (by decide) rfl hi_4 d_D_addEnd_28 (fun H locs hw => ?_)
    obtain ⟨F_5, eF_5⟩ : ∃ y : MF, y = setF F_3 13 (upd (F_3 13) (I 3).toNatClampNeg a2) := ⟨_, rfl⟩
    rw [← eF_5] at hw
    replace h := h F_5 eF_5
    refine lv_aload_n hx hb d_D_addEnd_29 rfl (lv_at hl 0 rfl) ?_
    refine lv_dup hx hb d_D_addEnd_30 rfl ?_
    refine va_get (D := L.1) (ci := 3) (v := .int (I 3)) (C := qR3) (T := qT3) (N := 7) hx hb hts qi3 hown hK hw.1 3 rfl rfl 6 (by decide) (hts _ wG173) (fun _ h9 => h9) rfl d_D_addEnd_31 ?_
    refine lv_iconst (v := 1) hx hb d_D_addEnd_34 (by decide) ?_
    refine lv_iadd hx hb d_D_addEnd_35 ?_
    refine va_put (D := L.1) (ci := 3) (v := .int ((I 3) + 1)) (ty := .int) (C := qR3) (T := qT3) (N := 7) hx hb hts qi3 qy3 qk3 qn3 hown hK hw.1 hw.2.1 hw.2.2 3 rfl rfl 6 (by decide) (hts _ wG173) (fun _ h9 => h9) rfl (by decide +kernel) rfl rfl (Nat.le_of_ble_eq_true rfl) d_D_addEnd_36 (fun H locs h1 h2 h3 => ?_)
    replace hw : CW L A s.heap (setI I 3 ((I 3) + 1)) F_5 G H locs := ⟨h1, h2, h3⟩
    clear h1 h2 h3
    obtain ⟨I_6, eI_6⟩ : ∃ y : MI, y = setI I 3 ((I 3) + 1) := ⟨_, rfl⟩
    rw [← eI_6] at hw
    replace h := h I_6 eI_6
    exact W.vret hx hb hr (fun t ht hW => ⟨⟨(I_6, F_5, G), rfl, h, by rw [ht]; exact hw.1, va_K.moved hW.alike hK, hw.2.1⟩, hw.2.2.F ht⟩) hw.2.2.2.2 d_D_addEnd_39
abbrev rm_D_addPinEnd : Room := { frames := 3, cells := 0, slots := 0, locals := 63 }
set_option maxHeartbeats 4000000 in
set_option maxRecDepth 100000 in
theorem c_D_addPinEnd (l : Launch) (L : cL) (a1 : Int32) (a2 : Int32) (I : MI) (F : MF) (G : MG) (sz : Nat) (post : MI → MF → MG → Prop) (h : wp_D_addPinEnd a1 a2 I F G post) : Met l y_D_addPinEnd (.code y_D_addPinEnd b_D_addPinEnd 4 (none) :: lwG) rm_D_addPinEnd (cPm L I F G sz [.ref (cA L 3), .int a1, .int a2]) (cQv L (cAA L I F G sz) post (cAA L I F G sz)) 0 0 (cAA L I F G sz) := by
  refine Met.ofW (cc := b_D_addPinEnd) (maxL := 4) (ret := (none)) (by decide) rfl ?_
  intro p e s m args below meth c s₁ B hml hv
  obtain ⟨rfl, hsz, hP, hK, hD0, hN⟩ := hv
  have xc : xC p s m _ meth c b_D_addPinEnd 4 lwG qR3 (none) := ⟨B.exec, B.bytes, hml, findClass_of_methodNamed B.named, fun w h => atoms_spec (ws := (.code y_D_addPinEnd b_D_addPinEnd 4 (none) :: lwG)) B.pre w (List.mem_cons_of_mem _ h), B.returns, B.notSynchronized⟩
  obtain ⟨hx, hb, hml, hown, hts, hr, hlocks⟩ := id xc
  subst hsz
  have hD : va_D (cAA L I F G s.heap.size) (WC L I F G) := hD0.self
  have hA0 : ∀ q : Nat, s.heap.size ≤ q → cAA L I F G s.heap.size q := fun q h => Or.inr h
  generalize cAA L I F G s.heap.size = A at hD hA0 ⊢
  have hA := hA0
  have hw : CW L A s.heap I F G s.heap [] := ⟨hP, hD, va_S.rf⟩
  have hl := lv_entry ([.ref (cA L 3), .int a1, .int a2]) (n := 4) (Nat.le_of_ble_eq_true rfl)
  rw [lg_entry_eq]
  generalize (lg_sl ([.ref (cA L 3), .int a1, .int a2]) ++ List.replicate (4 - (lg_sl ([.ref (cA L 3), .int a1, .int a2])).length) Slot.unset).toArray = ls at hl ⊢
  have hl : lv_has ls 4 [(0, .ref (cA L 3)), (1, .int a1), (2, .int a2)] := hl
  refine lv_aload_n hx hb d_D_addPinEnd_0 rfl (lv_at hl 0 rfl) ?_
  refine va_get (D := L.1) (ci := 3) (v := .ref (cA L 1)) (C := qR3) (T := qT3) (N := 7) hx hb hts qi3 hown hK hw.1 3 rfl rfl 0 (by decide) (hts _ wG166) (fun _ h9 => h9) rfl d_D_addPinEnd_1 ?_
  refine va_get (D := L.1) (ci := 1) (v := .ref (cA L 5)) (C := qR1) (T := qT1) (N := 13) hx hb hts qi1 hown hK hw.1 1 rfl rfl 8 (by decide) (hts _ wG104) (fun _ h9 => h9) rfl d_D_addPinEnd_4 ?_
  refine lv_iload_n hx hb d_D_addPinEnd_7 rfl (lv_at hl 1 rfl) ?_
  obtain ⟨hi_1, h⟩ := h
  refine c_row5 hx hb hK hw.1 hi_1 d_D_addPinEnd_8 ?_
  refine lv_iload_n hx hb d_D_addPinEnd_9 rfl (lv_at hl 2 rfl) ?_
  obtain ⟨hi_2, h⟩ := h
  refine c_iald hx hb hK hw.1 (15 + a1.toNatClampNeg) (row_lt15 hi_1) (row_len15 hi_1) hi_2 d_D_addPinEnd_10 ?_
  refine lv_topi (fun x_3 ex_3 => ?_)
  replace h := h x_3 ex_3
  refine lv_istore_n (lv' := [(3, .int x_3), (0, .ref (cA L 3)), (1, .int a1), (2, .int a2)]) hx hb d_D_addPinEnd_11 rfl hl (by decide) rfl (fun ls hl => ?_)
  refine lv_iload_n hx hb d_D_addPinEnd_12 rfl (lv_at hl 0 rfl) ?_
  refine lv_iconst (v := (-1)) hx hb d_D_addPinEnd_13 (by decide) ?_
  refine lv_icmp_eq (tgt := 39) hx hb d_D_addPinEnd_14 (by decide) (fun c_4 => ?_) (fun c_4 => ?_)
  · replace h := h.1 c_4
    exact W.vret hx hb hr (fun t ht hW => ⟨⟨(I, F, G), rfl, h, by rw [ht]; exact hw.1, va_K.moved hW.alike hK, hw.2.1⟩, hw.2.2.F ht⟩) hw.2.2.2.2 d_D_addPinEnd_39
  · replace h := h.2 c_4
    refine lv_aload_n hx hb d_D_addPinEnd_17 rfl (lv_at hl 1 rfl) ?_
    refine va_get (D := L.1) (ci := 3) (v := .ref (cA L 1)) (C := qR3) (T := qT3) (N := 7) hx hb hts qi3 hown hK hw.1 3 rfl rfl 0 (by decide) (hts _ wG166) (fun _ h9 => h9) rfl d_D_addPinEnd_18 ?_
    refine lv_iload_n hx hb d_D_addPinEnd_21 rfl (lv_at hl 0 rfl) ?_
    refine vp_callSi (va_runV (As := [.int x_3]) (rest := []) ⟨hx, hb, hml, hown, hts⟩ (c_N_isWired l L x_3 I F G _ h) (cwV 1 hts (gV wG592 wG386 wG387 wG49 wG388) rfl rfl rfl (by decide +kernel) ⟨Nat.le_of_ble_eq_true rfl, Nat.le_of_ble_eq_true rfl⟩) (cPre1 hK hN hw.1) rfl rfl hl.1 rfl (lv_room (Nat.le_of_ble_eq_true rfl)) d_D_addPinEnd_22 ⟨Nat.le_of_ble_eq_true rfl, Nat.le_of_ble_eq_true rfl⟩).run (fun r_5 h => ?_)
    refine lv_if_eq (tgt := 39) hx hb d_D_addPinEnd_25 (by decide) (fun c_6 => ?_) (fun c_6 => ?_)
    · replace h := h.1 c_6
      exact W.vret hx hb hr (fun t ht hW => ⟨⟨(I, F, G), rfl, h, by rw [ht]; exact hw.1, va_K.moved hW.alike hK, hw.2.1⟩, hw.2.2.F ht⟩) hw.2.2.2.2 d_D_addPinEnd_39
    · replace h := h.2 c_6
      refine lv_aload_n hx hb d_D_addPinEnd_28 rfl (lv_at hl 1 rfl) ?_
      refine lv_iload_n hx hb d_D_addPinEnd_29 rfl (lv_at hl 0 rfl) ?_
      refine lv_aload_n hx hb d_D_addPinEnd_30 rfl (lv_at hl 1 rfl) ?_
      refine lv_iload_n hx hb d_D_addPinEnd_31 rfl (lv_at hl 2 rfl) ?_
      refine lv_iload_n hx hb d_D_addPinEnd_32 rfl (lv_at hl 3 rfl) ?_
      refine c_calli (va_runV (As := [.int a1, .int a2]) (rest := [.int x_3, .ref (cA L 3)]) ⟨hx, hb, hml, hown, hts⟩ (c_D_groupOfRow l L a1 a2 I F G _ _ h) (cwV 2 hts (gV wG573 wG575 wG13 wG52 wG576) rfl rfl rfl (by decide +kernel) ⟨Nat.le_of_ble_eq_true rfl, Nat.le_of_ble_eq_true rfl⟩) (cPrm3 hK hN hw) rfl rfl hl.1 rfl (lv_room (Nat.le_of_ble_eq_true rfl)) d_D_addPinEnd_33 ⟨Nat.le_of_ble_eq_true rfl, Nat.le_of_ble_eq_true rfl⟩) hw hA (fun r_7 I_8 F_8 G_8 H locs h hw => ?_)
      refine c_callv (va_runV (As := [.int x_3, .int r_7]) (rest := []) ⟨hx, hb, hml, hown, hts⟩ (c_D_addEnd l L x_3 r_7 I_8 F_8 G_8 _ _ h) (cwV 2 hts (gV wG593 wG595 wG15 wG52 wG596) rfl rfl rfl (by decide +kernel) ⟨Nat.le_of_ble_eq_true rfl, Nat.le_of_ble_eq_true rfl⟩) (cPrm3 hK hN hw) rfl rfl hl.1 rfl (lv_room (Nat.le_of_ble_eq_true rfl)) d_D_addPinEnd_36 ⟨Nat.le_of_ble_eq_true rfl, Nat.le_of_ble_eq_true rfl⟩) hw hA (fun I_9 F_9 G_9 H locs h hw => ?_)
      exact W.vret hx hb hr (fun t ht hW => ⟨⟨(I_9, F_9, G_9), rfl, h, by rw [ht]; exact hw.1, va_K.moved hW.alike hK, hw.2.1⟩, hw.2.2.F ht⟩) hw.2.2.2.2 d_D_addPinEnd_39
abbrev rm_D_collectEnds : Room := { frames := 4, cells := 0, slots := 0, locals := 86 }
set_option maxHeartbeats 4000000 in
set_option maxRecDepth 100000 in
theorem Wl_D_collectEnds_7 {p : Program} {l : Launch} {e : Env} {s : State} {m : MethodId} {args : Array Value} {below : List Frame} {meth : Method} {c : Code} {L : cL} {A : Nat → Prop} {post : MI → MF → MG → Prop} {K : Int32 → MI → MF → MG → Prop} (xc : xC p s m args meth c b_D_collectEnds 2 lwG qR3 (none)) (hK : va_K L.1 vwCl (cTys L) s) (hN : cNk s) (hA : ∀ q, s.heap.size ≤ q → A q)
    (hk : ∀ (a1 : Int32) (I : MI) (F : MF) (G : MG) (H : Heap) (locs : List Loc) (ls : Array Slot), K a1 I F G → CW L A s.heap I F G H locs → lv_has ls 2 [(0, .ref (cA L 3)), (1, .int a1)] → W p l e rm_D_collectEnds s m args below meth c H locs 0 0 (MQ below (cQv L A post A) args s 0 0 A) (F0 m 31 ls [])) :
    ∀ (n : Nat) (a1 : Int32) (I : MI) (F : MF) (G : MG) (H : Heap) (locs : List Loc) (ls : Array Slot), wl_D_collectEnds_7 post K n a1 I F G → CW L A s.heap I F G H locs → lv_has ls 2 [(0, .ref (cA L 3)), (1, .int a1)] → W p l e rm_D_collectEnds s m args below meth c H locs 0 0 (MQ below (cQv L A post A) args s 0 0 A) (F0 m 7 ls []) := by
  obtain ⟨hx, hb, hml, hown, hts, hr, hlocks⟩ := id xc
  intro n
  induction n with
  | zero => intro a1 I F G H locs ls h; exact absurd h id
  | succ n ih =>
    intro a1 I F G H locs ls h hw hl
    refine lv_iload_n hx hb d_D_collectEnds_7 rfl (lv_at hl 1 rfl) ?_
    refine lv_bipush (v := 24) hx hb d_D_collectEnds_8 (by decide) ?_
    refine lv_icmp_ge (tgt := 31) hx hb d_D_collectEnds_10 (by decide) (fun c_2 => ?_) (fun c_2 => ?_)
    · replace h := h.1 c_2
      exact hk a1 I F G _ _ ls h hw (lv_sub hl [0, 1] rfl)
    · replace h := h.2 c_2
      refine lv_aload_n hx hb d_D_collectEnds_13 rfl (lv_at hl 0 rfl) ?_
      refine lv_iconst (v := 0) hx hb d_D_collectEnds_14 (by decide) ?_
      refine lv_iload_n hx hb d_D_collectEnds_15 rfl (lv_at hl 1 rfl) ?_
      refine c_callv (va_runV (As := [.int 0, .int a1]) (rest := []) ⟨hx, hb, hml, hown, hts⟩ (c_D_addPinEnd l L 0 a1 I F G _ _ h) (cwV 2 hts (gV wG588 wG590 wG14 wG52 wG591) rfl rfl rfl (by decide +kernel) ⟨Nat.le_of_ble_eq_true rfl, Nat.le_of_ble_eq_true rfl⟩) (cPrm3 hK hN hw) rfl rfl hl.1 rfl (lv_room (Nat.le_of_ble_eq_true rfl)) d_D_collectEnds_16 ⟨Nat.le_of_ble_eq_true rfl, Nat.le_of_ble_eq_true rfl⟩) hw hA (fun I_3 F_3 G_3 H locs h hw => ?_)
      refine lv_aload_n hx hb d_D_collectEnds_19 rfl (lv_at hl 0 rfl) ?_
      refine lv_iconst (v := 1) hx hb d_D_collectEnds_20 (by decide) ?_
      refine lv_iload_n hx hb d_D_collectEnds_21 rfl (lv_at hl 1 rfl) ?_
      refine c_callv (va_runV (As := [.int 1, .int a1]) (rest := []) ⟨hx, hb, hml, hown, hts⟩ (c_D_addPinEnd l L 1 a1 I_3 F_3 G_3 _ _ h) (cwV 2 hts (gV wG588 wG590 wG14 wG52 wG591) rfl rfl rfl (by decide +kernel) ⟨Nat.le_of_ble_eq_true rfl, Nat.le_of_ble_eq_true rfl⟩) (cPrm3 hK hN hw) rfl rfl hl.1 rfl (lv_room (Nat.le_of_ble_eq_true rfl)) d_D_collectEnds_22 ⟨Nat.le_of_ble_eq_true rfl, Nat.le_of_ble_eq_true rfl⟩) hw hA (fun I_4 F_4 G_4 H locs h hw => ?_)
      obtain ⟨x_5, ex_5⟩ : ∃ y : Int32, y = a1 + 1 := ⟨_, rfl⟩
      replace h := h x_5 ex_5
      refine lv_iinc (v := x_5) (lv' := [(1, .int x_5), (0, .ref (cA L 3))]) hx hb d_D_collectEnds_25 hl (k := 1) rfl (by rw [ex_5]; rfl) (by decide) rfl (fun ls hl => ?_)
      refine lv_goto (tgt := 7) hx hb d_D_collectEnds_28 (by decide) ?_
      exact ih x_5 I_4 F_4 G_4 _ _ ls h hw (lv_sub hl [1, 0] rfl)
set_option maxHeartbeats 4000000 in
set_option maxRecDepth 100000 in
theorem Wl_D_collectEnds_33 {p : Program} {l : Launch} {e : Env} {s : State} {m : MethodId} {args : Array Value} {below : List Frame} {meth : Method} {c : Code} {L : cL} {A : Nat → Prop} {post : MI → MF → MG → Prop} {K : Int32 → MI → MF → MG → Prop} (xc : xC p s m args meth c b_D_collectEnds 2 lwG qR3 (none)) (hK : va_K L.1 vwCl (cTys L) s) (hN : cNk s) (hA : ∀ q, s.heap.size ≤ q → A q)
    (hk : ∀ (a1 : Int32) (I : MI) (F : MF) (G : MG) (H : Heap) (locs : List Loc) (ls : Array Slot), K a1 I F G → CW L A s.heap I F G H locs → lv_has ls 2 [(0, .ref (cA L 3)), (1, .int a1)] → W p l e rm_D_collectEnds s m args below meth c H locs 0 0 (MQ below (cQv L A post A) args s 0 0 A) (F0 m 79 ls [])) :
    ∀ (n : Nat) (a1 : Int32) (I : MI) (F : MF) (G : MG) (H : Heap) (locs : List Loc) (ls : Array Slot), wl_D_collectEnds_33 post K n a1 I F G → CW L A s.heap I F G H locs → lv_has ls 2 [(0, .ref (cA L 3)), (1, .int a1)] → W p l e rm_D_collectEnds s m args below meth c H locs 0 0 (MQ below (cQv L A post A) args s 0 0 A) (F0 m 33 ls []) := by
  obtain ⟨hx, hb, hml, hown, hts, hr, hlocks⟩ := id xc
  intro n
  induction n with
  | zero => intro a1 I F G H locs ls h; exact absurd h id
  | succ n ih =>
    intro a1 I F G H locs ls h hw hl
    refine lv_iload_n hx hb d_D_collectEnds_33 rfl (lv_at hl 1 rfl) ?_
    refine lv_bipush (v := 12) hx hb d_D_collectEnds_34 (by decide) ?_
    refine lv_icmp_ge (tgt := 79) hx hb d_D_collectEnds_36 (by decide) (fun c_8 => ?_) (fun c_8 => ?_)
    · replace h := h.1 c_8
      exact hk a1 I F G _ _ ls h hw (lv_sub hl [0, 1] rfl)
    · replace h := h.2 c_8
      refine lv_aload_n hx hb d_D_collectEnds_39 rfl (lv_at hl 0 rfl) ?_
      refine va_get (D := L.1) (ci := 3) (v := .ref (cA L 1)) (C := qR3) (T := qT3) (N := 7) hx hb hts qi3 hown hK hw.1 3 rfl rfl 0 (by decide) (hts _ wG166) (fun _ h9 => h9) rfl d_D_collectEnds_40 ?_
      refine lv_iload_n hx hb d_D_collectEnds_43 rfl (lv_at hl 1 rfl) ?_
      refine vp_callSi (va_runV (As := [.int a1]) (rest := []) ⟨hx, hb, hml, hown, hts⟩ (c_N_hasPad l L a1 I F G _ h) (cwV 1 hts (gV wG597 wG394 wG395 wG49 wG396) rfl rfl rfl (by decide +kernel) ⟨Nat.le_of_ble_eq_true rfl, Nat.le_of_ble_eq_true rfl⟩) (cPre1 hK hN hw.1) rfl rfl hl.1 rfl (lv_room (Nat.le_of_ble_eq_true rfl)) d_D_collectEnds_44 ⟨Nat.le_of_ble_eq_true rfl, Nat.le_of_ble_eq_true rfl⟩).run (fun r_9 h => ?_)
      refine lv_if_eq (tgt := 73) hx hb d_D_collectEnds_47 (by decide) (fun c_10 => ?_) (fun c_10 => ?_)
      · replace h := h.1 c_10
        obtain ⟨x_11, ex_11⟩ : ∃ y : Int32, y = a1 + 1 := ⟨_, rfl⟩
        replace h := h x_11 ex_11
        refine lv_iinc (v := x_11) (lv' := [(1, .int x_11), (0, .ref (cA L 3))]) hx hb d_D_collectEnds_73 hl (k := 1) rfl (by rw [ex_11]; rfl) (by decide) rfl (fun ls hl => ?_)
        refine lv_goto (tgt := 33) hx hb d_D_collectEnds_76 (by decide) ?_
        exact ih x_11 I F G _ _ ls h hw (lv_sub hl [1, 0] rfl)
      · replace h := h.2 c_10
        refine lv_aload_n hx hb d_D_collectEnds_50 rfl (lv_at hl 0 rfl) ?_
        refine lv_iload_n hx hb d_D_collectEnds_51 rfl (lv_at hl 1 rfl) ?_
        refine lv_aload_n hx hb d_D_collectEnds_52 rfl (lv_at hl 0 rfl) ?_
        refine lv_aload_n hx hb d_D_collectEnds_53 rfl (lv_at hl 0 rfl) ?_
        refine va_get (D := L.1) (ci := 3) (v := .ref (cA L 2)) (C := qR3) (T := qT3) (N := 7) hx hb hts qi3 hown hK hw.1 3 rfl rfl 1 (by decide) (hts _ wG167) (fun _ h9 => h9) rfl d_D_collectEnds_54 ?_
        refine va_get (D := L.1) (ci := 2) (v := .ref (cA L 20)) (C := qR2) (T := qT2) (N := 3) hx hb hts qi2 hown hK hw.1 2 rfl rfl 2 (by decide) (hts _ wG150) (fun _ h9 => h9) rfl d_D_collectEnds_57 ?_
        refine lv_iload_n hx hb d_D_collectEnds_60 rfl (lv_at hl 1 rfl) ?_
        obtain ⟨hi_12, h⟩ := h
        refine c_iald hx hb hK hw.1 10 (by decide) rfl hi_12 d_D_collectEnds_61 ?_
        refine lv_iconst (v := 0) hx hb d_D_collectEnds_62 (by decide) ?_
        refine lv_iconst (v := 0) hx hb d_D_collectEnds_63 (by decide) ?_
        refine vp_callSi (va_runS (As := [.int (F 10 a1.toNatClampNeg), .int 0, .int 0]) (rest := [.ref (cA L 3), .int a1, .ref (cA L 3)]) ⟨hx, hb, hml, hown, hts⟩ (c_D_spot l (F 10 a1.toNatClampNeg) 0 0 _ h) (va_cwS 3 hts (gS wG555 wG556 wG52 wG557) rfl rfl rfl (by decide +kernel) ⟨Nat.le_of_ble_eq_true rfl, Nat.le_of_ble_eq_true rfl⟩) ⟨sPc_blind _, fun U hU hW => ⟨rfl, trivial⟩⟩ rfl rfl hl.1 rfl (lv_room (Nat.le_of_ble_eq_true rfl)) d_D_collectEnds_64 ⟨Nat.le_of_ble_eq_true rfl, Nat.le_of_ble_eq_true rfl⟩).run (fun r_13 h => ?_)
        refine c_calli (va_runV (As := [.int r_13]) (rest := [.int a1, .ref (cA L 3)]) ⟨hx, hb, hml, hown, hts⟩ (c_D_group l L r_13 I F G _ _ h) (cwV 1 hts (gV wG562 wG564 wG12 wG52 wG565) rfl rfl rfl (by decide +kernel) ⟨Nat.le_of_ble_eq_true rfl, Nat.le_of_ble_eq_true rfl⟩) (cPrm3 hK hN hw) rfl rfl hl.1 rfl (lv_room (Nat.le_of_ble_eq_true rfl)) d_D_collectEnds_67 ⟨Nat.le_of_ble_eq_true rfl, Nat.le_of_ble_eq_true rfl⟩) hw hA (fun r_14 I_15 F_15 G_15 H locs h hw => ?_)
        refine c_callv (va_runV (As := [.int a1, .int r_14]) (rest := []) ⟨hx, hb, hml, hown, hts⟩ (c_D_addEnd l L a1 r_14 I_15 F_15 G_15 _ _ h) (cwV 2 hts (gV wG593 wG595 wG15 wG52 wG596) rfl rfl rfl (by decide +kernel) ⟨Nat.le_of_ble_eq_true rfl, Nat.le_of_ble_eq_true rfl⟩) (cPrm3 hK hN hw) rfl rfl hl.1 rfl (lv_room (Nat.le_of_ble_eq_true rfl)) d_D_collectEnds_70 ⟨Nat.le_of_ble_eq_true rfl, Nat.le_of_ble_eq_true rfl⟩) hw hA (fun I_16 F_16 G_16 H locs h hw => ?_)
        obtain ⟨x_17, ex_17⟩ : ∃ y : Int32, y = a1 + 1 := ⟨_, rfl⟩
        replace h := h x_17 ex_17
        refine lv_iinc (v := x_17) (lv' := [(1, .int x_17), (0, .ref (cA L 3))]) hx hb d_D_collectEnds_73 hl (k := 1) rfl (by rw [ex_17]; rfl) (by decide) rfl (fun ls hl => ?_)
        refine lv_goto (tgt := 33) hx hb d_D_collectEnds_76 (by decide) ?_
        exact ih x_17 I_16 F_16 G_16 _ _ ls h hw (lv_sub hl [1, 0] rfl)
set_option maxHeartbeats 4000000 in
set_option maxRecDepth 100000 in
theorem c_D_collectEnds (l : Launch) (L : cL) (I : MI) (F : MF) (G : MG) (sz : Nat) (post : MI → MF → MG → Prop) (h : wp_D_collectEnds I F G post) : Met l y_D_collectEnds (.code y_D_collectEnds b_D_collectEnds 2 (none) :: lwG) rm_D_collectEnds (cPm L I F G sz [.ref (cA L 3)]) (cQv L (cAA L I F G sz) post (cAA L I F G sz)) 0 0 (cAA L I F G sz) := by
  refine Met.ofW (cc := b_D_collectEnds) (maxL := 2) (ret := (none)) (by decide) rfl ?_
  intro p e s m args below meth c s₁ B hml hv
  obtain ⟨rfl, hsz, hP, hK, hD0, hN⟩ := hv
  have xc : xC p s m _ meth c b_D_collectEnds 2 lwG qR3 (none) := ⟨B.exec, B.bytes, hml, findClass_of_methodNamed B.named, fun w h => atoms_spec (ws := (.code y_D_collectEnds b_D_collectEnds 2 (none) :: lwG)) B.pre w (List.mem_cons_of_mem _ h), B.returns, B.notSynchronized⟩
  obtain ⟨hx, hb, hml, hown, hts, hr, hlocks⟩ := id xc
  subst hsz
  have hD : va_D (cAA L I F G s.heap.size) (WC L I F G) := hD0.self
  have hA0 : ∀ q : Nat, s.heap.size ≤ q → cAA L I F G s.heap.size q := fun q h => Or.inr h
  generalize cAA L I F G s.heap.size = A at hD hA0 ⊢
  have hA := hA0
  have hw : CW L A s.heap I F G s.heap [] := ⟨hP, hD, va_S.rf⟩
  have hl := lv_entry ([.ref (cA L 3)]) (n := 2) (Nat.le_of_ble_eq_true rfl)
  rw [lg_entry_eq]
  generalize (lg_sl ([.ref (cA L 3)]) ++ List.replicate (2 - (lg_sl ([.ref (cA L 3)])).length) Slot.unset).toArray = ls at hl ⊢
  have hl : lv_has ls 2 [(0, .ref (cA L 3))] := hl
  refine lv_aload_n hx hb d_D_collectEnds_0 rfl (lv_at hl 0 rfl) ?_
  refine lv_iconst (v := 0) hx hb d_D_collectEnds_1 (by decide) ?_
  refine va_put (D := L.1) (ci := 3) (v := .int 0) (ty := .int) (C := qR3) (T := qT3) (N := 7) hx hb hts qi3 qy3 qk3 qn3 hown hK hw.1 hw.2.1 hw.2.2 3 rfl rfl 6 (by decide) (hts _ wG173) (fun _ h9 => h9) rfl (by decide +kernel) rfl rfl (Nat.le_of_ble_eq_true rfl) d_D_collectEnds_2 (fun H locs h1 h2 h3 => ?_)
  replace hw : CW L A s.heap (setI I 3 0) F G H locs := ⟨h1, h2, h3⟩
  clear h1 h2 h3
  obtain ⟨I_1, eI_1⟩ : ∃ y : MI, y = setI I 3 0 := ⟨_, rfl⟩
  rw [← eI_1] at hw
  replace h := h I_1 eI_1
  refine lv_iconst (v := 0) hx hb d_D_collectEnds_5 (by decide) ?_
  refine lv_istore_n (lv' := [(1, .int 0), (0, .ref (cA L 3))]) hx hb d_D_collectEnds_6 rfl hl (by decide) rfl (fun ls hl => ?_)
  obtain ⟨n_21, h⟩ := h
  refine Wl_D_collectEnds_7 xc hK hN hA (hk := fun x_6 I_7 F_7 G_7 H locs ls h hw hl => ?_) n_21 0 I_1 F G _ _ ls h hw (lv_sub hl [1, 0] rfl)
  refine lv_iconst (v := 0) hx hb d_D_collectEnds_31 (by decide) ?_
  refine lv_istore_n (lv' := [(1, .int 0), (0, .ref (cA L 3))]) hx hb d_D_collectEnds_32 rfl hl (by decide) rfl (fun ls hl => ?_)
  obtain ⟨n_20, h⟩ := h
  refine Wl_D_collectEnds_33 xc hK hN hA (hk := fun x_18 I_19 F_19 G_19 H locs ls h hw hl => ?_) n_20 0 I_7 F_7 G_7 _ _ ls h hw (lv_sub hl [1, 0] rfl)
  exact W.vret hx hb hr (fun t ht hW => ⟨⟨(I_19, F_19, G_19), rfl, h, by rw [ht]; exact hw.1, va_K.moved hW.alike hK, hw.2.1⟩, hw.2.2.F ht⟩) hw.2.2.2.2 d_D_collectEnds_79
