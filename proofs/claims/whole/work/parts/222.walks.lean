abbrev rm_F_gate : Room := { frames := 6, cells := 1, slots := 6, locals := 96 }
set_option maxHeartbeats 4000000 in
set_option maxRecDepth 100000 in
theorem c_F_gate (l : Launch) (L : cL) (hst : l.stackTraces = false) (a1 : Int32) (a2 : Int32) (a3 : Int32) (a4 : Int32) (a5 : Int32) (I : MI) (F : MF) (G : MG) (sz : Nat) (post : Int32 → MI → MF → MG → Prop) (thr : String → MI → MF → MG → Prop) (h : wp_F_gate a1 a2 a3 a4 a5 I F G post thr) : tx_Met l y_F_gate (.code y_F_gate b_F_gate 7 (some .int) :: lwG) rm_F_gate (cPx L I F G sz [.ref (cA L 0), .int a1, .int a2, .int a3, .int a4, .int a5]) (cRi L (cAA L I F G sz) post (cAA L I F G sz)) (cX L (cAA L I F G sz) thr (cAA L I F G sz)) 1 6 (cAA L I F G sz) := by
  refine tx_ofW (cc := b_F_gate) (maxL := 7) (ret := (some .int)) (by decide) rfl ?_
  intro p e s m args below meth c s₁ B hml hnt hv
  obtain ⟨rfl, hsz, hP, hK, hD0, hN, hz, hsr⟩ := hv
  have xc : xC p s m _ meth c b_F_gate 7 lwG qR0 (some .int) := ⟨B.exec, B.bytes, hml, findClass_of_methodNamed B.named, fun w h => atoms_spec (ws := (.code y_F_gate b_F_gate 7 (some .int) :: lwG)) B.pre w (List.mem_cons_of_mem _ h), B.returns, B.notSynchronized⟩
  obtain ⟨hx, hb, hml, hown, hts, hr, hlocks⟩ := id xc
  subst hsz
  have hD : va_D (cAA L I F G s.heap.size) (WC L I F G) := hD0.self
  have hA0 : ∀ q : Nat, s.heap.size ≤ q → cAA L I F G s.heap.size q := fun q h => Or.inr h
  generalize cAA L I F G s.heap.size = A at hD hA0 hz ⊢
  have hA := hA0
  have hw : CW L A s.heap I F G s.heap [] := ⟨hP, hD, va_S.rf⟩
  have hl := lv_entry ([.ref (cA L 0), .int a1, .int a2, .int a3, .int a4, .int a5]) (n := 7) (Nat.le_of_ble_eq_true rfl)
  rw [lg_entry_eq]
  generalize (lg_sl ([.ref (cA L 0), .int a1, .int a2, .int a3, .int a4, .int a5]) ++ List.replicate (7 - (lg_sl ([.ref (cA L 0), .int a1, .int a2, .int a3, .int a4, .int a5])).length) Slot.unset).toArray = ls at hl ⊢
  have hl : lv_has ls 7 [(0, .ref (cA L 0)), (1, .int a1), (2, .int a2), (3, .int a3), (4, .int a4), (5, .int a5)] := hl
  refine lv_iload_n hx hb d_F_gate_0 rfl (lv_at hl 1 rfl) ?_
  refine lv_iconst (v := 4) hx hb d_F_gate_1 (by decide) ?_
  refine vp_callSi (va_runS (As := [.int a1, .int 4]) (rest := []) ⟨hx, hb, hml, hown, hts⟩ (c_F_within l a1 4 _ h) (va_cwS 2 hts (gS wG249 wG250 wG48 wG251) rfl rfl rfl (by decide +kernel) ⟨Nat.le_of_ble_eq_true rfl, Nat.le_of_ble_eq_true rfl⟩) ⟨sPc_blind _, fun U hU hW => ⟨rfl, trivial⟩⟩ rfl rfl hl.1 rfl (lv_room (Nat.le_of_ble_eq_true rfl)) d_F_gate_2 ⟨Nat.le_of_ble_eq_true rfl, Nat.le_of_ble_eq_true rfl⟩).run (fun r_1 h => ?_)
  refine lv_if_eq (tgt := 36) hx hb d_F_gate_5 (by decide) (fun c_2 => ?_) (fun c_2 => ?_)
  · replace h := h.1 c_2
    obtain ⟨sa, hsa⟩ := hsr.1 (qR0, 51, "a kind, net or row that is not there") (by decide +kernel)
    exact tx_throwS (Ts := lwH) hx hb hst hown (cHts hts hsr.2) hz hw.2.2 (by decide +kernel) (by decide +kernel) th_F_49_53 hsa (hl.1.trans hml.symm) d_F_gate_36 d_F_gate_39 d_F_gate_40 d_F_gate_42 d_F_gate_45 hnt (Nat.le_of_ble_eq_true rfl) (Nat.le_of_ble_eq_true rfl) (Nat.le_of_ble_eq_true rfl) (Nat.le_of_ble_eq_true rfl) hlocks (cX_of hw hK h) hw.2.2.2.2 (Nat.le_of_ble_eq_true rfl) (Nat.le_of_ble_eq_true rfl)
  · replace h := h.2 c_2
    refine lv_iload_n hx hb d_F_gate_8 rfl (lv_at hl 2 rfl) ?_
    refine lv_bipush (v := 12) hx hb d_F_gate_9 (by decide) ?_
    refine vp_callSi (va_runS (As := [.int a2, .int 12]) (rest := []) ⟨hx, hb, hml, hown, hts⟩ (c_F_within l a2 12 _ h) (va_cwS 2 hts (gS wG249 wG250 wG48 wG251) rfl rfl rfl (by decide +kernel) ⟨Nat.le_of_ble_eq_true rfl, Nat.le_of_ble_eq_true rfl⟩) ⟨sPc_blind _, fun U hU hW => ⟨rfl, trivial⟩⟩ rfl rfl hl.1 rfl (lv_room (Nat.le_of_ble_eq_true rfl)) d_F_gate_11 ⟨Nat.le_of_ble_eq_true rfl, Nat.le_of_ble_eq_true rfl⟩).run (fun r_3 h => ?_)
    refine lv_if_eq (tgt := 36) hx hb d_F_gate_14 (by decide) (fun c_4 => ?_) (fun c_4 => ?_)
    · replace h := h.1 c_4
      obtain ⟨sa, hsa⟩ := hsr.1 (qR0, 51, "a kind, net or row that is not there") (by decide +kernel)
      exact tx_throwS (Ts := lwH) hx hb hst hown (cHts hts hsr.2) hz hw.2.2 (by decide +kernel) (by decide +kernel) th_F_49_53 hsa (hl.1.trans hml.symm) d_F_gate_36 d_F_gate_39 d_F_gate_40 d_F_gate_42 d_F_gate_45 hnt (Nat.le_of_ble_eq_true rfl) (Nat.le_of_ble_eq_true rfl) (Nat.le_of_ble_eq_true rfl) (Nat.le_of_ble_eq_true rfl) hlocks (cX_of hw hK h) hw.2.2.2.2 (Nat.le_of_ble_eq_true rfl) (Nat.le_of_ble_eq_true rfl)
    · replace h := h.2 c_4
      refine lv_iload hx hb d_F_gate_17 (lv_at hl 4 rfl) ?_
      refine lv_bipush (v := 12) hx hb d_F_gate_19 (by decide) ?_
      refine vp_callSi (va_runS (As := [.int a4, .int 12]) (rest := []) ⟨hx, hb, hml, hown, hts⟩ (c_F_within l a4 12 _ h) (va_cwS 2 hts (gS wG249 wG250 wG48 wG251) rfl rfl rfl (by decide +kernel) ⟨Nat.le_of_ble_eq_true rfl, Nat.le_of_ble_eq_true rfl⟩) ⟨sPc_blind _, fun U hU hW => ⟨rfl, trivial⟩⟩ rfl rfl hl.1 rfl (lv_room (Nat.le_of_ble_eq_true rfl)) d_F_gate_21 ⟨Nat.le_of_ble_eq_true rfl, Nat.le_of_ble_eq_true rfl⟩).run (fun r_5 h => ?_)
      refine lv_if_eq (tgt := 36) hx hb d_F_gate_24 (by decide) (fun c_6 => ?_) (fun c_6 => ?_)
      · replace h := h.1 c_6
        obtain ⟨sa, hsa⟩ := hsr.1 (qR0, 51, "a kind, net or row that is not there") (by decide +kernel)
        exact tx_throwS (Ts := lwH) hx hb hst hown (cHts hts hsr.2) hz hw.2.2 (by decide +kernel) (by decide +kernel) th_F_49_53 hsa (hl.1.trans hml.symm) d_F_gate_36 d_F_gate_39 d_F_gate_40 d_F_gate_42 d_F_gate_45 hnt (Nat.le_of_ble_eq_true rfl) (Nat.le_of_ble_eq_true rfl) (Nat.le_of_ble_eq_true rfl) (Nat.le_of_ble_eq_true rfl) hlocks (cX_of hw hK h) hw.2.2.2.2 (Nat.le_of_ble_eq_true rfl) (Nat.le_of_ble_eq_true rfl)
      · replace h := h.2 c_6
        refine lv_iload hx hb d_F_gate_27 (lv_at hl 5 rfl) ?_
        refine lv_iconst (v := 2) hx hb d_F_gate_29 (by decide) ?_
        refine vp_callSi (va_runS (As := [.int a5, .int 2]) (rest := []) ⟨hx, hb, hml, hown, hts⟩ (c_F_within l a5 2 _ h) (va_cwS 2 hts (gS wG249 wG250 wG48 wG251) rfl rfl rfl (by decide +kernel) ⟨Nat.le_of_ble_eq_true rfl, Nat.le_of_ble_eq_true rfl⟩) ⟨sPc_blind _, fun U hU hW => ⟨rfl, trivial⟩⟩ rfl rfl hl.1 rfl (lv_room (Nat.le_of_ble_eq_true rfl)) d_F_gate_30 ⟨Nat.le_of_ble_eq_true rfl, Nat.le_of_ble_eq_true rfl⟩).run (fun r_7 h => ?_)
        refine lv_if_ne (tgt := 46) hx hb d_F_gate_33 (by decide) (fun c_8 => ?_) (fun c_8 => ?_)
        · replace h := h.1 c_8
          refine lv_iload_n hx hb d_F_gate_46 rfl (lv_at hl 1 rfl) ?_
          refine vp_callSi (va_runS (As := [.int a1]) (rest := []) ⟨hx, hb, hml, hown, hts⟩ (c_F_hasOneInput l a1 _ h) (va_cwS 1 hts (gS wG322 wG323 wG48 wG324) rfl rfl rfl (by decide +kernel) ⟨Nat.le_of_ble_eq_true rfl, Nat.le_of_ble_eq_true rfl⟩) ⟨sPc_blind _, fun U hU hW => ⟨rfl, trivial⟩⟩ rfl rfl hl.1 rfl (lv_room (Nat.le_of_ble_eq_true rfl)) d_F_gate_47 ⟨Nat.le_of_ble_eq_true rfl, Nat.le_of_ble_eq_true rfl⟩).run (fun r_9 h => ?_)
          refine lv_istore (lv' := [(6, .int r_9), (0, .ref (cA L 0)), (1, .int a1), (2, .int a2), (3, .int a3), (4, .int a4), (5, .int a5)]) hx hb d_F_gate_50 hl (by decide) rfl (fun ls hl => ?_)
          refine lv_iload hx hb d_F_gate_52 (lv_at hl 0 rfl) ?_
          refine lv_if_ne (tgt := 76) hx hb d_F_gate_54 (by decide) (fun c_10 => ?_) (fun c_10 => ?_)
          · replace h := h.1 c_10
            refine lv_aload_n hx hb d_F_gate_76 rfl (lv_at hl 1 rfl) ?_
            refine va_get (D := L.1) (ci := 0) (v := .ref (cA L 1)) (C := qR0) (T := qT0) (N := 5) hx hb hts qi0 hown hK hw.1 0 rfl rfl 0 (by decide) (hts _ wG219) (fun _ h9 => h9) rfl d_F_gate_77 ?_
            refine lv_iload_n hx hb d_F_gate_80 rfl (lv_at hl 2 rfl) ?_
            refine lv_iload hx hb d_F_gate_81 (lv_at hl 6 rfl) ?_
            refine vp_callSi (va_runV (As := [.int a1, .int a5]) (rest := []) ⟨hx, hb, hml, hown, hts⟩ (c_N_hasRoom l L a1 a5 I F G _ h) (cwV 2 hts (gV wG326 wG327 wG328 wG49 wG329) rfl rfl rfl (by decide +kernel) ⟨Nat.le_of_ble_eq_true rfl, Nat.le_of_ble_eq_true rfl⟩) (cPre1 hK hN hw.1) rfl rfl hl.1 rfl (lv_room (Nat.le_of_ble_eq_true rfl)) d_F_gate_83 ⟨Nat.le_of_ble_eq_true rfl, Nat.le_of_ble_eq_true rfl⟩).run (fun r_11 h => ?_)
            refine lv_if_eq (tgt := 101) hx hb d_F_gate_86 (by decide) (fun c_12 => ?_) (fun c_12 => ?_)
            · replace h := h.1 c_12
              obtain ⟨sa, hsa⟩ := hsr.1 (qR0, 70, "no room for the gate, or its net is driven") (by decide +kernel)
              exact tx_throwS (Ts := lwH) hx hb hst hown (cHts hts hsr.2) hz hw.2.2 (by decide +kernel) (by decide +kernel) th_F_68_72 hsa (hl.1.trans hml.symm) d_F_gate_101 d_F_gate_104 d_F_gate_105 d_F_gate_107 d_F_gate_110 hnt (Nat.le_of_ble_eq_true rfl) (Nat.le_of_ble_eq_true rfl) (Nat.le_of_ble_eq_true rfl) (Nat.le_of_ble_eq_true rfl) hlocks (cX_of hw hK h) hw.2.2.2.2 (Nat.le_of_ble_eq_true rfl) (Nat.le_of_ble_eq_true rfl)
            · replace h := h.2 c_12
              refine lv_aload_n hx hb d_F_gate_89 rfl (lv_at hl 1 rfl) ?_
              refine va_get (D := L.1) (ci := 0) (v := .ref (cA L 1)) (C := qR0) (T := qT0) (N := 5) hx hb hts qi0 hown hK hw.1 0 rfl rfl 0 (by decide) (hts _ wG219) (fun _ h9 => h9) rfl d_F_gate_90 ?_
              refine lv_iload hx hb d_F_gate_93 (lv_at hl 5 rfl) ?_
              refine vp_callSi (va_runV (As := [.int a4]) (rest := []) ⟨hx, hb, hml, hown, hts⟩ (c_N_isDriven l L a4 I F G _ h) (cwV 1 hts (gV wG333 wG334 wG335 wG49 wG336) rfl rfl rfl (by decide +kernel) ⟨Nat.le_of_ble_eq_true rfl, Nat.le_of_ble_eq_true rfl⟩) (cPre1 hK hN hw.1) rfl rfl hl.1 rfl (lv_room (Nat.le_of_ble_eq_true rfl)) d_F_gate_95 ⟨Nat.le_of_ble_eq_true rfl, Nat.le_of_ble_eq_true rfl⟩).run (fun r_13 h => ?_)
              refine lv_if_eq (tgt := 111) hx hb d_F_gate_98 (by decide) (fun c_14 => ?_) (fun c_14 => ?_)
              · replace h := h.1 c_14
                refine lv_aload_n hx hb d_F_gate_111 rfl (lv_at hl 1 rfl) ?_
                refine lv_iconst (v := 0) hx hb d_F_gate_112 (by decide) ?_
                refine va_put (D := L.1) (ci := 0) (v := .int 0) (ty := .boolean) (C := qR0) (T := qT0) (N := 5) hx hb hts qi0 qy0 qk0 qn0 hown hK hw.1 hw.2.1 hw.2.2 0 rfl rfl 4 (by decide) (hts _ wG223) (fun _ h9 => h9) rfl (by decide +kernel) rfl rfl (Nat.le_of_ble_eq_true rfl) d_F_gate_113 (fun H locs h1 h2 h3 => ?_)
                replace hw : CW L A s.heap (setI I 0 0) F G H locs := ⟨h1, h2, h3⟩
                clear h1 h2 h3
                obtain ⟨I_15, eI_15⟩ : ∃ y : MI, y = setI I 0 0 := ⟨_, rfl⟩
                rw [← eI_15] at hw
                replace h := h I_15 eI_15
                refine lv_aload_n hx hb d_F_gate_116 rfl (lv_at hl 1 rfl) ?_
                refine va_get (D := L.1) (ci := 0) (v := .ref (cA L 1)) (C := qR0) (T := qT0) (N := 5) hx hb hts qi0 hown hK hw.1 0 rfl rfl 0 (by decide) (hts _ wG219) (fun _ h9 => h9) rfl d_F_gate_117 ?_
                refine lv_iload_n hx hb d_F_gate_120 rfl (lv_at hl 2 rfl) ?_
                refine lv_iload_n hx hb d_F_gate_121 rfl (lv_at hl 3 rfl) ?_
                refine lv_iload hx hb d_F_gate_122 (lv_at hl 0 rfl) ?_
                refine lv_if_eq (tgt := 131) hx hb d_F_gate_124 (by decide) (fun c_16 => ?_) (fun c_16 => ?_)
                · replace h := h.1 c_16
                  refine lv_iload_n hx hb d_F_gate_131 rfl (lv_at hl 4 rfl) ?_
                  refine lv_iload hx hb d_F_gate_132 (lv_at hl 5 rfl) ?_
                  refine lv_iload hx hb d_F_gate_134 (lv_at hl 6 rfl) ?_
                  refine c_calli (va_runV (As := [.int a1, .int a2, .int a3, .int a4, .int a5]) (rest := []) ⟨hx, hb, hml, hown, hts⟩ (c_N_add l L a1 a2 a3 a4 a5 I_15 F G _ _ h) (cwV 5 hts (gV wG353 wG354 wG355 wG49 wG356) rfl rfl rfl (by decide +kernel) ⟨Nat.le_of_ble_eq_true rfl, Nat.le_of_ble_eq_true rfl⟩) (cPrm1 hK hN hw) rfl rfl hl.1 rfl (lv_room (Nat.le_of_ble_eq_true rfl)) d_F_gate_136 ⟨Nat.le_of_ble_eq_true rfl, Nat.le_of_ble_eq_true rfl⟩) hw hA (fun r_17 I_18 F_18 G_18 H locs h hw => ?_)
                  refine W.widen (k := 1) (n := 6) (Nat.le_of_ble_eq_true rfl) (Nat.le_of_ble_eq_true rfl) ?_
                  refine tx_ret ?_
                  exact W.iret hx hb hr (fun t ht hW => ⟨⟨_, (I_18, F_18, G_18), rfl, ⟨_, rfl, h⟩, by rw [ht]; exact hw.1, va_K.moved hW.alike hK, hw.2.1⟩, hw.2.2.F ht⟩) hw.2.2.2.2 d_F_gate_139
                · replace h := h.2 c_16
                  refine lv_iload_n hx hb d_F_gate_127 rfl (lv_at hl 3 rfl) ?_
                  refine lv_goto (tgt := 132) hx hb d_F_gate_128 (by decide) ?_
                  refine lv_iload hx hb d_F_gate_132 (lv_at hl 5 rfl) ?_
                  refine lv_iload hx hb d_F_gate_134 (lv_at hl 6 rfl) ?_
                  refine c_calli (va_runV (As := [.int a1, .int a2, .int a2, .int a4, .int a5]) (rest := []) ⟨hx, hb, hml, hown, hts⟩ (c_N_add l L a1 a2 a2 a4 a5 I_15 F G _ _ h) (cwV 5 hts (gV wG353 wG354 wG355 wG49 wG356) rfl rfl rfl (by decide +kernel) ⟨Nat.le_of_ble_eq_true rfl, Nat.le_of_ble_eq_true rfl⟩) (cPrm1 hK hN hw) rfl rfl hl.1 rfl (lv_room (Nat.le_of_ble_eq_true rfl)) d_F_gate_136 ⟨Nat.le_of_ble_eq_true rfl, Nat.le_of_ble_eq_true rfl⟩) hw hA (fun r_19 I_20 F_20 G_20 H locs h hw => ?_)
                  refine W.widen (k := 1) (n := 6) (Nat.le_of_ble_eq_true rfl) (Nat.le_of_ble_eq_true rfl) ?_
                  refine tx_ret ?_
                  exact W.iret hx hb hr (fun t ht hW => ⟨⟨_, (I_20, F_20, G_20), rfl, ⟨_, rfl, h⟩, by rw [ht]; exact hw.1, va_K.moved hW.alike hK, hw.2.1⟩, hw.2.2.F ht⟩) hw.2.2.2.2 d_F_gate_139
              · replace h := h.2 c_14
                obtain ⟨sa, hsa⟩ := hsr.1 (qR0, 70, "no room for the gate, or its net is driven") (by decide +kernel)
                exact tx_throwS (Ts := lwH) hx hb hst hown (cHts hts hsr.2) hz hw.2.2 (by decide +kernel) (by decide +kernel) th_F_68_72 hsa (hl.1.trans hml.symm) d_F_gate_101 d_F_gate_104 d_F_gate_105 d_F_gate_107 d_F_gate_110 hnt (Nat.le_of_ble_eq_true rfl) (Nat.le_of_ble_eq_true rfl) (Nat.le_of_ble_eq_true rfl) (Nat.le_of_ble_eq_true rfl) hlocks (cX_of hw hK h) hw.2.2.2.2 (Nat.le_of_ble_eq_true rfl) (Nat.le_of_ble_eq_true rfl)
          · replace h := h.2 c_10
            refine lv_iload_n hx hb d_F_gate_57 rfl (lv_at hl 4 rfl) ?_
            refine lv_bipush (v := 12) hx hb d_F_gate_58 (by decide) ?_
            refine vp_callSi (va_runS (As := [.int a3, .int 12]) (rest := []) ⟨hx, hb, hml, hown, hts⟩ (c_F_within l a3 12 _ h) (va_cwS 2 hts (gS wG249 wG250 wG48 wG251) rfl rfl rfl (by decide +kernel) ⟨Nat.le_of_ble_eq_true rfl, Nat.le_of_ble_eq_true rfl⟩) ⟨sPc_blind _, fun U hU hW => ⟨rfl, trivial⟩⟩ rfl rfl hl.1 rfl (lv_room (Nat.le_of_ble_eq_true rfl)) d_F_gate_60 ⟨Nat.le_of_ble_eq_true rfl, Nat.le_of_ble_eq_true rfl⟩).run (fun r_21 h => ?_)
            refine lv_if_ne (tgt := 76) hx hb d_F_gate_63 (by decide) (fun c_22 => ?_) (fun c_22 => ?_)
            · replace h := h.1 c_22
              refine lv_aload_n hx hb d_F_gate_76 rfl (lv_at hl 1 rfl) ?_
              refine va_get (D := L.1) (ci := 0) (v := .ref (cA L 1)) (C := qR0) (T := qT0) (N := 5) hx hb hts qi0 hown hK hw.1 0 rfl rfl 0 (by decide) (hts _ wG219) (fun _ h9 => h9) rfl d_F_gate_77 ?_
              refine lv_iload_n hx hb d_F_gate_80 rfl (lv_at hl 2 rfl) ?_
              refine lv_iload hx hb d_F_gate_81 (lv_at hl 6 rfl) ?_
              refine vp_callSi (va_runV (As := [.int a1, .int a5]) (rest := []) ⟨hx, hb, hml, hown, hts⟩ (c_N_hasRoom l L a1 a5 I F G _ h) (cwV 2 hts (gV wG326 wG327 wG328 wG49 wG329) rfl rfl rfl (by decide +kernel) ⟨Nat.le_of_ble_eq_true rfl, Nat.le_of_ble_eq_true rfl⟩) (cPre1 hK hN hw.1) rfl rfl hl.1 rfl (lv_room (Nat.le_of_ble_eq_true rfl)) d_F_gate_83 ⟨Nat.le_of_ble_eq_true rfl, Nat.le_of_ble_eq_true rfl⟩).run (fun r_23 h => ?_)
              refine lv_if_eq (tgt := 101) hx hb d_F_gate_86 (by decide) (fun c_24 => ?_) (fun c_24 => ?_)
              · replace h := h.1 c_24
                obtain ⟨sa, hsa⟩ := hsr.1 (qR0, 70, "no room for the gate, or its net is driven") (by decide +kernel)
                exact tx_throwS (Ts := lwH) hx hb hst hown (cHts hts hsr.2) hz hw.2.2 (by decide +kernel) (by decide +kernel) th_F_68_72 hsa (hl.1.trans hml.symm) d_F_gate_101 d_F_gate_104 d_F_gate_105 d_F_gate_107 d_F_gate_110 hnt (Nat.le_of_ble_eq_true rfl) (Nat.le_of_ble_eq_true rfl) (Nat.le_of_ble_eq_true rfl) (Nat.le_of_ble_eq_true rfl) hlocks (cX_of hw hK h) hw.2.2.2.2 (Nat.le_of_ble_eq_true rfl) (Nat.le_of_ble_eq_true rfl)
              · replace h := h.2 c_24
                refine lv_aload_n hx hb d_F_gate_89 rfl (lv_at hl 1 rfl) ?_
                refine va_get (D := L.1) (ci := 0) (v := .ref (cA L 1)) (C := qR0) (T := qT0) (N := 5) hx hb hts qi0 hown hK hw.1 0 rfl rfl 0 (by decide) (hts _ wG219) (fun _ h9 => h9) rfl d_F_gate_90 ?_
                refine lv_iload hx hb d_F_gate_93 (lv_at hl 5 rfl) ?_
                refine vp_callSi (va_runV (As := [.int a4]) (rest := []) ⟨hx, hb, hml, hown, hts⟩ (c_N_isDriven l L a4 I F G _ h) (cwV 1 hts (gV wG333 wG334 wG335 wG49 wG336) rfl rfl rfl (by decide +kernel) ⟨Nat.le_of_ble_eq_true rfl, Nat.le_of_ble_eq_true rfl⟩) (cPre1 hK hN hw.1) rfl rfl hl.1 rfl (lv_room (Nat.le_of_ble_eq_true rfl)) d_F_gate_95 ⟨Nat.le_of_ble_eq_true rfl, Nat.le_of_ble_eq_true rfl⟩).run (fun r_25 h => ?_)
                refine lv_if_eq (tgt := 111) hx hb d_F_gate_98 (by decide) (fun c_26 => ?_) (fun c_26 => ?_)
                · replace h := h.1 c_26
                  refine lv_aload_n hx hb d_F_gate_111 rfl (lv_at hl 1 rfl) ?_
                  refine lv_iconst (v := 0) hx hb d_F_gate_112 (by decide) ?_
                  refine va_put (D := L.1) (ci := 0) (v := .int 0) (ty := .boolean) (C := qR0) (T := qT0) (N := 5) hx hb hts qi0 qy0 qk0 qn0 hown hK hw.1 hw.2.1 hw.2.2 0 rfl rfl 4 (by decide) (hts _ wG223) (fun _ h9 => h9) rfl (by decide +kernel) rfl rfl (Nat.le_of_ble_eq_true rfl) d_F_gate_113 (fun H locs h1 h2 h3 => ?_)
                  replace hw : CW L A s.heap (setI I 0 0) F G H locs := ⟨h1, h2, h3⟩
                  clear h1 h2 h3
                  obtain ⟨I_27, eI_27⟩ : ∃ y : MI, y = setI I 0 0 := ⟨_, rfl⟩
                  rw [← eI_27] at hw
                  replace h := h I_27 eI_27
                  refine lv_aload_n hx hb d_F_gate_116 rfl (lv_at hl 1 rfl) ?_
                  refine va_get (D := L.1) (ci := 0) (v := .ref (cA L 1)) (C := qR0) (T := qT0) (N := 5) hx hb hts qi0 hown hK hw.1 0 rfl rfl 0 (by decide) (hts _ wG219) (fun _ h9 => h9) rfl d_F_gate_117 ?_
                  refine lv_iload_n hx hb d_F_gate_120 rfl (lv_at hl 2 rfl) ?_
                  refine lv_iload_n hx hb d_F_gate_121 rfl (lv_at hl 3 rfl) ?_
                  refine lv_iload hx hb d_F_gate_122 (lv_at hl 0 rfl) ?_
                  refine lv_if_eq (tgt := 131) hx hb d_F_gate_124 (by decide) (fun c_28 => ?_) (fun c_28 => ?_)
                  · replace h := h.1 c_28
                    refine lv_iload_n hx hb d_F_gate_131 rfl (lv_at hl 4 rfl) ?_
                    refine lv_iload hx hb d_F_gate_132 (lv_at hl 5 rfl) ?_
                    refine lv_iload hx hb d_F_gate_134 (lv_at hl 6 rfl) ?_
                    refine c_calli (va_runV (As := [.int a1, .int a2, .int a3, .int a4, .int a5]) (rest := []) ⟨hx, hb, hml, hown, hts⟩ (c_N_add l L a1 a2 a3 a4 a5 I_27 F G _ _ h) (cwV 5 hts (gV wG353 wG354 wG355 wG49 wG356) rfl rfl rfl (by decide +kernel) ⟨Nat.le_of_ble_eq_true rfl, Nat.le_of_ble_eq_true rfl⟩) (cPrm1 hK hN hw) rfl rfl hl.1 rfl (lv_room (Nat.le_of_ble_eq_true rfl)) d_F_gate_136 ⟨Nat.le_of_ble_eq_true rfl, Nat.le_of_ble_eq_true rfl⟩) hw hA (fun r_29 I_30 F_30 G_30 H locs h hw => ?_)
                    refine W.widen (k := 1) (n := 6) (Nat.le_of_ble_eq_true rfl) (Nat.le_of_ble_eq_true rfl) ?_
                    refine tx_ret ?_
                    exact W.iret hx hb hr (fun t ht hW => ⟨⟨_, (I_30, F_30, G_30), rfl, ⟨_, rfl, h⟩, by rw [ht]; exact hw.1, va_K.moved hW.alike hK, hw.2.1⟩, hw.2.2.F ht⟩) hw.2.2.2.2 d_F_gate_139
                  · replace h := h.2 c_28
                    refine lv_iload_n hx hb d_F_gate_127 rfl (lv_at hl 3 rfl) ?_
                    refine lv_goto (tgt := 132) hx hb d_F_gate_128 (by decide) ?_
                    refine lv_iload hx hb d_F_gate_132 (lv_at hl 5 rfl) ?_
                    refine lv_iload hx hb d_F_gate_134 (lv_at hl 6 rfl) ?_
                    refine c_calli (va_runV (As := [.int a1, .int a2, .int a2, .int a4, .int a5]) (rest := []) ⟨hx, hb, hml, hown, hts⟩ (c_N_add l L a1 a2 a2 a4 a5 I_27 F G _ _ h) (cwV 5 hts (gV wG353 wG354 wG355 wG49 wG356) rfl rfl rfl (by decide +kernel) ⟨Nat.le_of_ble_eq_true rfl, Nat.le_of_ble_eq_true rfl⟩) (cPrm1 hK hN hw) rfl rfl hl.1 rfl (lv_room (Nat.le_of_ble_eq_true rfl)) d_F_gate_136 ⟨Nat.le_of_ble_eq_true rfl, Nat.le_of_ble_eq_true rfl⟩) hw hA (fun r_31 I_32 F_32 G_32 H locs h hw => ?_)
                    refine W.widen (k := 1) (n := 6) (Nat.le_of_ble_eq_true rfl) (Nat.le_of_ble_eq_true rfl) ?_
                    refine tx_ret ?_
                    exact W.iret hx hb hr (fun t ht hW => ⟨⟨_, (I_32, F_32, G_32), rfl, ⟨_, rfl, h⟩, by rw [ht]; exact hw.1, va_K.moved hW.alike hK, hw.2.1⟩, hw.2.2.F ht⟩) hw.2.2.2.2 d_F_gate_139
                · replace h := h.2 c_26
                  obtain ⟨sa, hsa⟩ := hsr.1 (qR0, 70, "no room for the gate, or its net is driven") (by decide +kernel)
                  exact tx_throwS (Ts := lwH) hx hb hst hown (cHts hts hsr.2) hz hw.2.2 (by decide +kernel) (by decide +kernel) th_F_68_72 hsa (hl.1.trans hml.symm) d_F_gate_101 d_F_gate_104 d_F_gate_105 d_F_gate_107 d_F_gate_110 hnt (Nat.le_of_ble_eq_true rfl) (Nat.le_of_ble_eq_true rfl) (Nat.le_of_ble_eq_true rfl) (Nat.le_of_ble_eq_true rfl) hlocks (cX_of hw hK h) hw.2.2.2.2 (Nat.le_of_ble_eq_true rfl) (Nat.le_of_ble_eq_true rfl)
            · replace h := h.2 c_22
              obtain ⟨sa, hsa⟩ := hsr.1 (qR0, 60, "the second input is no net") (by decide +kernel)
              exact tx_throwS (Ts := lwH) hx hb hst hown (cHts hts hsr.2) hz hw.2.2 (by decide +kernel) (by decide +kernel) th_F_49_53 hsa (hl.1.trans hml.symm) d_F_gate_66 d_F_gate_69 d_F_gate_70 d_F_gate_72 d_F_gate_75 hnt (Nat.le_of_ble_eq_true rfl) (Nat.le_of_ble_eq_true rfl) (Nat.le_of_ble_eq_true rfl) (Nat.le_of_ble_eq_true rfl) hlocks (cX_of hw hK h) hw.2.2.2.2 (Nat.le_of_ble_eq_true rfl) (Nat.le_of_ble_eq_true rfl)
        · replace h := h.2 c_8
          obtain ⟨sa, hsa⟩ := hsr.1 (qR0, 51, "a kind, net or row that is not there") (by decide +kernel)
          exact tx_throwS (Ts := lwH) hx hb hst hown (cHts hts hsr.2) hz hw.2.2 (by decide +kernel) (by decide +kernel) th_F_49_53 hsa (hl.1.trans hml.symm) d_F_gate_36 d_F_gate_39 d_F_gate_40 d_F_gate_42 d_F_gate_45 hnt (Nat.le_of_ble_eq_true rfl) (Nat.le_of_ble_eq_true rfl) (Nat.le_of_ble_eq_true rfl) (Nat.le_of_ble_eq_true rfl) hlocks (cX_of hw hK h) hw.2.2.2.2 (Nat.le_of_ble_eq_true rfl) (Nat.le_of_ble_eq_true rfl)
abbrev rm_N_removeAll : Room := { frames := 1, cells := 0, slots := 0, locals := 23 }
set_option maxHeartbeats 4000000 in
set_option maxRecDepth 100000 in
theorem Wl_N_removeAll_7 {p : Program} {l : Launch} {e : Env} {s : State} {m : MethodId} {args : Array Value} {below : List Frame} {meth : Method} {c : Code} {L : cL} {A : Nat → Prop} {post : MI → MF → MG → Prop} {K : Int32 → MI → MF → MG → Prop} (xc : xC p s m args meth c b_N_removeAll 2 lwG qR1 (none)) (hK : va_K L.1 vwCl (cTys L) s) (hN : cNk s) (hA : ∀ q, s.heap.size ≤ q → A q)
    (hk : ∀ (a1 : Int32) (I : MI) (F : MF) (G : MG) (H : Heap) (locs : List Loc) (ls : Array Slot), K a1 I F G → CW L A s.heap I F G H locs → lv_has ls 2 [(0, .ref (cA L 1)), (1, .int a1)] → W p l e rm_N_removeAll s m args below meth c H locs 0 0 (MQ below (cQv L A post A) args s 0 0 A) (F0 m 45 ls [])) :
    ∀ (n : Nat) (a1 : Int32) (I : MI) (F : MF) (G : MG) (H : Heap) (locs : List Loc) (ls : Array Slot), wl_N_removeAll_7 post K n a1 I F G → CW L A s.heap I F G H locs → lv_has ls 2 [(0, .ref (cA L 1)), (1, .int a1)] → W p l e rm_N_removeAll s m args below meth c H locs 0 0 (MQ below (cQv L A post A) args s 0 0 A) (F0 m 7 ls []) := by
  obtain ⟨hx, hb, hml, hown, hts, hr, hlocks⟩ := id xc
  intro n
  induction n with
  | zero => intro a1 I F G H locs ls h; exact absurd h id
  | succ n ih =>
    intro a1 I F G H locs ls h hw hl
    refine lv_iload_n hx hb d_N_removeAll_7 rfl (lv_at hl 1 rfl) ?_
    refine lv_iconst (v := 2) hx hb d_N_removeAll_8 (by decide) ?_
    refine lv_icmp_ge (tgt := 45) hx hb d_N_removeAll_9 (by decide) (fun c_2 => ?_) (fun c_2 => ?_)
    · replace h := h.1 c_2
      exact hk a1 I F G _ _ ls h hw (lv_sub hl [0, 1] rfl)
    · replace h := h.2 c_2
      refine lv_aload_n hx hb d_N_removeAll_12 rfl (lv_at hl 0 rfl) ?_
      refine va_get (D := L.1) (ci := 1) (v := .ref (cA L 16)) (C := qR1) (T := qT1) (N := 13) hx hb hts qi1 hown hK hw.1 1 rfl rfl 7 (by decide) (hts _ wG102) (fun _ h9 => h9) rfl d_N_removeAll_13 ?_
      refine lv_iload_n hx hb d_N_removeAll_16 rfl (lv_at hl 1 rfl) ?_
      refine lv_iconst (v := 1) hx hb d_N_removeAll_17 (by decide) ?_
      obtain ⟨hi_3, h⟩ := h
      refine c_iast hx hb hK hw 6 (by decide) rfl hi_3 d_N_removeAll_18 (fun H locs hw => ?_)
      obtain ⟨F_4, eF_4⟩ : ∃ y : MF, y = setF F 6 (upd (F 6) a1.toNatClampNeg 1) := ⟨_, rfl⟩
      rw [← eF_4] at hw
      replace h := h F_4 eF_4
      refine lv_aload_n hx hb d_N_removeAll_19 rfl (lv_at hl 0 rfl) ?_
      refine va_get (D := L.1) (ci := 1) (v := .ref (cA L 5)) (C := qR1) (T := qT1) (N := 13) hx hb hts qi1 hown hK hw.1 1 rfl rfl 8 (by decide) (hts _ wG103) (fun _ h9 => h9) rfl d_N_removeAll_20 ?_
      refine lv_iload_n hx hb d_N_removeAll_23 rfl (lv_at hl 1 rfl) ?_
      obtain ⟨hi_5, h⟩ := h
      refine c_row5 hx hb hK hw.1 hi_5 d_N_removeAll_24 ?_
      refine lv_iconst (v := (-1)) hx hb d_N_removeAll_25 (by decide) ?_
      refine c_fill (k := (15 + a1.toNatClampNeg)) (n := 24) (rest := []) ⟨hx, hb, hml, hown, hts⟩ hK hN hw hA (va_cwS 2 hts (gS wG85 wG86 wG50 wG87) rfl rfl rfl (by decide +kernel) ⟨Nat.le_of_ble_eq_true rfl, Nat.le_of_ble_eq_true rfl⟩) (row_lt15 hi_5) (row_len15 hi_5) (by decide) hl.1 (lv_room (Nat.le_of_ble_eq_true rfl)) d_N_removeAll_26 ⟨Nat.le_of_ble_eq_true rfl, Nat.le_of_ble_eq_true rfl⟩ (fun H locs hw => ?_)
      obtain ⟨F_6, eF_6⟩ : ∃ y : MF, y = setF F_4 (15 + a1.toNatClampNeg) (filled (F_4 (15 + a1.toNatClampNeg)) 24 (-1)) := ⟨_, rfl⟩
      rw [← eF_6] at hw
      replace h := h F_6 eF_6
      refine lv_aload_n hx hb d_N_removeAll_29 rfl (lv_at hl 0 rfl) ?_
      refine va_get (D := L.1) (ci := 1) (v := .ref (cA L 6)) (C := qR1) (T := qT1) (N := 13) hx hb hts qi1 hown hK hw.1 1 rfl rfl 9 (by decide) (hts _ wG105) (fun _ h9 => h9) rfl d_N_removeAll_30 ?_
      refine lv_iload_n hx hb d_N_removeAll_33 rfl (lv_at hl 1 rfl) ?_
      obtain ⟨hi_7, h⟩ := h
      refine c_row6 hx hb hK hw.1 hi_7 d_N_removeAll_34 ?_
      refine lv_iconst (v := 0) hx hb d_N_removeAll_35 (by decide) ?_
      refine c_fill (k := (17 + a1.toNatClampNeg)) (n := 12) (rest := []) ⟨hx, hb, hml, hown, hts⟩ hK hN hw hA (va_cwS 2 hts (gS wG85 wG86 wG50 wG87) rfl rfl rfl (by decide +kernel) ⟨Nat.le_of_ble_eq_true rfl, Nat.le_of_ble_eq_true rfl⟩) (row_lt17 hi_7) (row_len17 hi_7) (by decide) hl.1 (lv_room (Nat.le_of_ble_eq_true rfl)) d_N_removeAll_36 ⟨Nat.le_of_ble_eq_true rfl, Nat.le_of_ble_eq_true rfl⟩ (fun H locs hw => ?_)
      obtain ⟨F_8, eF_8⟩ : ∃ y : MF, y = setF F_6 (17 + a1.toNatClampNeg) (filled (F_6 (17 + a1.toNatClampNeg)) 12 0) := ⟨_, rfl⟩
      rw [← eF_8] at hw
      replace h := h F_8 eF_8
      obtain ⟨x_9, ex_9⟩ : ∃ y : Int32, y = a1 + 1 := ⟨_, rfl⟩
      replace h := h x_9 ex_9
      refine lv_iinc (v := x_9) (lv' := [(1, .int x_9), (0, .ref (cA L 1))]) hx hb d_N_removeAll_39 hl (k := 1) rfl (by rw [ex_9]; rfl) (by decide) rfl (fun ls hl => ?_)
      refine lv_goto (tgt := 7) hx hb d_N_removeAll_42 (by decide) ?_
      exact ih x_9 I F_8 G _ _ ls h hw (lv_sub hl [1, 0] rfl)
set_option maxHeartbeats 4000000 in
set_option maxRecDepth 100000 in
theorem c_N_removeAll (l : Launch) (L : cL) (I : MI) (F : MF) (G : MG) (sz : Nat) (post : MI → MF → MG → Prop) (h : wp_N_removeAll I F G post) : Met l y_N_removeAll (.code y_N_removeAll b_N_removeAll 2 (none) :: lwG) rm_N_removeAll (cPm L I F G sz [.ref (cA L 1)]) (cQv L (cAA L I F G sz) post (cAA L I F G sz)) 0 0 (cAA L I F G sz) := by
  refine Met.ofW (cc := b_N_removeAll) (maxL := 2) (ret := (none)) (by decide) rfl ?_
  intro p e s m args below meth c s₁ B hml hv
  obtain ⟨rfl, hsz, hP, hK, hD0, hN⟩ := hv
  have xc : xC p s m _ meth c b_N_removeAll 2 lwG qR1 (none) := ⟨B.exec, B.bytes, hml, findClass_of_methodNamed B.named, fun w h => atoms_spec (ws := (.code y_N_removeAll b_N_removeAll 2 (none) :: lwG)) B.pre w (List.mem_cons_of_mem _ h), B.returns, B.notSynchronized⟩
  obtain ⟨hx, hb, hml, hown, hts, hr, hlocks⟩ := id xc
  subst hsz
  have hD : va_D (cAA L I F G s.heap.size) (WC L I F G) := hD0.self
  have hA0 : ∀ q : Nat, s.heap.size ≤ q → cAA L I F G s.heap.size q := fun q h => Or.inr h
  generalize cAA L I F G s.heap.size = A at hD hA0 ⊢
  have hA := hA0
  have hw : CW L A s.heap I F G s.heap [] := ⟨hP, hD, va_S.rf⟩
  have hl := lv_entry ([.ref (cA L 1)]) (n := 2) (Nat.le_of_ble_eq_true rfl)
  rw [lg_entry_eq]
  generalize (lg_sl ([.ref (cA L 1)]) ++ List.replicate (2 - (lg_sl ([.ref (cA L 1)])).length) Slot.unset).toArray = ls at hl ⊢
  have hl : lv_has ls 2 [(0, .ref (cA L 1))] := hl
  refine lv_aload_n hx hb d_N_removeAll_0 rfl (lv_at hl 0 rfl) ?_
  refine lv_iconst (v := 0) hx hb d_N_removeAll_1 (by decide) ?_
  refine va_put (D := L.1) (ci := 1) (v := .int 0) (ty := .int) (C := qR1) (T := qT1) (N := 13) hx hb hts qi1 qy1 qk1 qn1 hown hK hw.1 hw.2.1 hw.2.2 1 rfl rfl 0 (by decide) (hts _ wG88) (fun _ h9 => h9) rfl (by decide +kernel) rfl rfl (Nat.le_of_ble_eq_true rfl) d_N_removeAll_2 (fun H locs h1 h2 h3 => ?_)
  replace hw : CW L A s.heap (setI I 1 0) F G H locs := ⟨h1, h2, h3⟩
  clear h1 h2 h3
  obtain ⟨I_1, eI_1⟩ : ∃ y : MI, y = setI I 1 0 := ⟨_, rfl⟩
  rw [← eI_1] at hw
  replace h := h I_1 eI_1
  refine lv_iconst (v := 0) hx hb d_N_removeAll_5 (by decide) ?_
  refine lv_istore_n (lv' := [(1, .int 0), (0, .ref (cA L 1))]) hx hb d_N_removeAll_6 rfl hl (by decide) rfl (fun ls hl => ?_)
  obtain ⟨n_15, h⟩ := h
  refine Wl_N_removeAll_7 xc hK hN hA (hk := fun x_10 I_11 F_11 G_11 H locs ls h hw hl => ?_) n_15 0 I_1 F G _ _ ls h hw (lv_sub hl [1, 0] rfl)
  refine lv_aload_n hx hb d_N_removeAll_45 rfl (lv_at hl 0 rfl) ?_
  refine va_get (D := L.1) (ci := 1) (v := .ref (cA L 17)) (C := qR1) (T := qT1) (N := 13) hx hb hts qi1 hown hK hw.1 1 rfl rfl 10 (by decide) (hts _ wG107) (fun _ h9 => h9) rfl d_N_removeAll_46 ?_
  refine lv_bipush (v := 24) hx hb d_N_removeAll_49 (by decide) ?_
  refine c_fill (k := 7) (n := 12) (rest := []) ⟨hx, hb, hml, hown, hts⟩ hK hN hw hA (va_cwS 2 hts (gS wG85 wG86 wG50 wG87) rfl rfl rfl (by decide +kernel) ⟨Nat.le_of_ble_eq_true rfl, Nat.le_of_ble_eq_true rfl⟩) (by decide) rfl (by decide) hl.1 (lv_room (Nat.le_of_ble_eq_true rfl)) d_N_removeAll_51 ⟨Nat.le_of_ble_eq_true rfl, Nat.le_of_ble_eq_true rfl⟩ (fun H locs hw => ?_)
  obtain ⟨F_12, eF_12⟩ : ∃ y : MF, y = setF F_11 7 (filled (F_11 7) 12 24) := ⟨_, rfl⟩
  rw [← eF_12] at hw
  replace h := h F_12 eF_12
  refine lv_aload_n hx hb d_N_removeAll_54 rfl (lv_at hl 0 rfl) ?_
  refine va_get (D := L.1) (ci := 1) (v := .ref (cA L 18)) (C := qR1) (T := qT1) (N := 13) hx hb hts qi1 hown hK hw.1 1 rfl rfl 11 (by decide) (hts _ wG108) (fun _ h9 => h9) rfl d_N_removeAll_55 ?_
  refine lv_iconst (v := (-1)) hx hb d_N_removeAll_58 (by decide) ?_
  refine c_fill (k := 8) (n := 12) (rest := []) ⟨hx, hb, hml, hown, hts⟩ hK hN hw hA (va_cwS 2 hts (gS wG85 wG86 wG50 wG87) rfl rfl rfl (by decide +kernel) ⟨Nat.le_of_ble_eq_true rfl, Nat.le_of_ble_eq_true rfl⟩) (by decide) rfl (by decide) hl.1 (lv_room (Nat.le_of_ble_eq_true rfl)) d_N_removeAll_59 ⟨Nat.le_of_ble_eq_true rfl, Nat.le_of_ble_eq_true rfl⟩ (fun H locs hw => ?_)
  obtain ⟨F_13, eF_13⟩ : ∃ y : MF, y = setF F_12 8 (filled (F_12 8) 12 (-1)) := ⟨_, rfl⟩
  rw [← eF_13] at hw
  replace h := h F_13 eF_13
  refine lv_aload_n hx hb d_N_removeAll_62 rfl (lv_at hl 0 rfl) ?_
  refine va_get (D := L.1) (ci := 1) (v := .ref (cA L 19)) (C := qR1) (T := qT1) (N := 13) hx hb hts qi1 hown hK hw.1 1 rfl rfl 12 (by decide) (hts _ wG109) (fun _ h9 => h9) rfl d_N_removeAll_63 ?_
  refine lv_iconst (v := (-1)) hx hb d_N_removeAll_66 (by decide) ?_
  refine c_fill (k := 9) (n := 12) (rest := []) ⟨hx, hb, hml, hown, hts⟩ hK hN hw hA (va_cwS 2 hts (gS wG85 wG86 wG50 wG87) rfl rfl rfl (by decide +kernel) ⟨Nat.le_of_ble_eq_true rfl, Nat.le_of_ble_eq_true rfl⟩) (by decide) rfl (by decide) hl.1 (lv_room (Nat.le_of_ble_eq_true rfl)) d_N_removeAll_67 ⟨Nat.le_of_ble_eq_true rfl, Nat.le_of_ble_eq_true rfl⟩ (fun H locs hw => ?_)
  obtain ⟨F_14, eF_14⟩ : ∃ y : MF, y = setF F_13 9 (filled (F_13 9) 12 (-1)) := ⟨_, rfl⟩
  rw [← eF_14] at hw
  replace h := h F_14 eF_14
  exact W.vret hx hb hr (fun t ht hW => ⟨⟨(I_11, F_14, G_11), rfl, h, by rw [ht]; exact hw.1, va_K.moved hW.alike hK, hw.2.1⟩, hw.2.2.F ht⟩) hw.2.2.2.2 d_N_removeAll_70
abbrev rm_F_clear : Room := { frames := 2, cells := 0, slots := 0, locals := 44 }
set_option maxHeartbeats 4000000 in
set_option maxRecDepth 100000 in
theorem c_F_clear (l : Launch) (L : cL) (I : MI) (F : MF) (G : MG) (sz : Nat) (post : Int32 → MI → MF → MG → Prop) (h : wp_F_clear I F G post) : Met l y_F_clear (.code y_F_clear b_F_clear 2 (some .int) :: lwG) rm_F_clear (cPm L I F G sz [.ref (cA L 0)]) (cQi L (cAA L I F G sz) post (cAA L I F G sz)) 0 0 (cAA L I F G sz) := by
  refine Met.ofW (cc := b_F_clear) (maxL := 2) (ret := (some .int)) (by decide) rfl ?_
  intro p e s m args below meth c s₁ B hml hv
  obtain ⟨rfl, hsz, hP, hK, hD0, hN⟩ := hv
  have xc : xC p s m _ meth c b_F_clear 2 lwG qR0 (some .int) := ⟨B.exec, B.bytes, hml, findClass_of_methodNamed B.named, fun w h => atoms_spec (ws := (.code y_F_clear b_F_clear 2 (some .int) :: lwG)) B.pre w (List.mem_cons_of_mem _ h), B.returns, B.notSynchronized⟩
  obtain ⟨hx, hb, hml, hown, hts, hr, hlocks⟩ := id xc
  subst hsz
  have hD : va_D (cAA L I F G s.heap.size) (WC L I F G) := hD0.self
  have hA0 : ∀ q : Nat, s.heap.size ≤ q → cAA L I F G s.heap.size q := fun q h => Or.inr h
  generalize cAA L I F G s.heap.size = A at hD hA0 ⊢
  have hA := hA0
  have hw : CW L A s.heap I F G s.heap [] := ⟨hP, hD, va_S.rf⟩
  have hl := lv_entry ([.ref (cA L 0)]) (n := 2) (Nat.le_of_ble_eq_true rfl)
  rw [lg_entry_eq]
  generalize (lg_sl ([.ref (cA L 0)]) ++ List.replicate (2 - (lg_sl ([.ref (cA L 0)])).length) Slot.unset).toArray = ls at hl ⊢
  have hl : lv_has ls 2 [(0, .ref (cA L 0))] := hl
  refine lv_aload_n hx hb d_F_clear_0 rfl (lv_at hl 0 rfl) ?_
  refine va_get (D := L.1) (ci := 0) (v := .ref (cA L 1)) (C := qR0) (T := qT0) (N := 5) hx hb hts qi0 hown hK hw.1 0 rfl rfl 0 (by decide) (hts _ wG219) (fun _ h9 => h9) rfl d_F_clear_1 ?_
  refine va_get (D := L.1) (ci := 1) (v := .int (I 1)) (C := qR1) (T := qT1) (N := 13) hx hb hts qi1 hown hK hw.1 1 rfl rfl 0 (by decide) (hts _ wG90) (fun _ h9 => h9) rfl d_F_clear_4 ?_
  refine lv_topi (fun x_1 ex_1 => ?_)
  replace h := h x_1 ex_1
  refine lv_istore_n (lv' := [(1, .int x_1), (0, .ref (cA L 0))]) hx hb d_F_clear_7 rfl hl (by decide) rfl (fun ls hl => ?_)
  refine lv_aload_n hx hb d_F_clear_8 rfl (lv_at hl 1 rfl) ?_
  refine va_get (D := L.1) (ci := 0) (v := .ref (cA L 1)) (C := qR0) (T := qT0) (N := 5) hx hb hts qi0 hown hK hw.1 0 rfl rfl 0 (by decide) (hts _ wG219) (fun _ h9 => h9) rfl d_F_clear_9 ?_
  refine c_callv (va_runV (As := []) (rest := []) ⟨hx, hb, hml, hown, hts⟩ (c_N_removeAll l L I F G _ _ h) (cwV 0 hts (gV wG239 wG82 wG83 wG49 wG84) rfl rfl rfl (by decide +kernel) ⟨Nat.le_of_ble_eq_true rfl, Nat.le_of_ble_eq_true rfl⟩) (cPrm1 hK hN hw) rfl rfl hl.1 rfl (lv_room (Nat.le_of_ble_eq_true rfl)) d_F_clear_12 ⟨Nat.le_of_ble_eq_true rfl, Nat.le_of_ble_eq_true rfl⟩) hw hA (fun I_2 F_2 G_2 H locs h hw => ?_)
  refine lv_aload_n hx hb d_F_clear_15 rfl (lv_at hl 1 rfl) ?_
  refine lv_iconst (v := 0) hx hb d_F_clear_16 (by decide) ?_
  refine va_put (D := L.1) (ci := 0) (v := .int 0) (ty := .boolean) (C := qR0) (T := qT0) (N := 5) hx hb hts qi0 qy0 qk0 qn0 hown hK hw.1 hw.2.1 hw.2.2 0 rfl rfl 4 (by decide) (hts _ wG223) (fun _ h9 => h9) rfl (by decide +kernel) rfl rfl (Nat.le_of_ble_eq_true rfl) d_F_clear_17 (fun H locs h1 h2 h3 => ?_)
  replace hw : CW L A s.heap (setI I_2 0 0) F_2 G_2 H locs := ⟨h1, h2, h3⟩
  clear h1 h2 h3
  obtain ⟨I_3, eI_3⟩ : ∃ y : MI, y = setI I_2 0 0 := ⟨_, rfl⟩
  rw [← eI_3] at hw
  replace h := h I_3 eI_3
  refine lv_iload_n hx hb d_F_clear_20 rfl (lv_at hl 0 rfl) ?_
  exact W.iret hx hb hr (fun t ht hW => ⟨⟨_, (I_3, F_2, G_2), rfl, h, by rw [ht]; exact hw.1, va_K.moved hW.alike hK, hw.2.1⟩, hw.2.2.F ht⟩) hw.2.2.2.2 d_F_clear_21
abbrev rm_N_pins : Room := { frames := 0, cells := 0, slots := 0, locals := 0 }
set_option maxHeartbeats 4000000 in
set_option maxRecDepth 100000 in
theorem c_N_pins (l : Launch) (L : cL) (a1 : Int32) (I : MI) (F : MF) (G : MG) (post : Int32 → Prop) (h : wp_N_pins a1 I F G post) : Met l y_N_pins (.code y_N_pins b_N_pins 2 (some .int) :: lwG) rm_N_pins (cPc L I F G [.ref (cA L 1), .int a1]) (vp_Si post) 0 0 (fun _ => False) := by
  refine Met.ofW (cc := b_N_pins) (maxL := 2) (ret := (some .int)) (by decide) rfl ?_
  intro p e s m args below meth c s₁ B hml hv
  obtain ⟨rfl, hP, hK, hN⟩ := hv
  have xc : xC p s m _ meth c b_N_pins 2 lwG qR1 (some .int) := ⟨B.exec, B.bytes, hml, findClass_of_methodNamed B.named, fun w h => atoms_spec (ws := (.code y_N_pins b_N_pins 2 (some .int) :: lwG)) B.pre w (List.mem_cons_of_mem _ h), B.returns, B.notSynchronized⟩
  obtain ⟨hx, hb, hml, hown, hts, hr, hlocks⟩ := id xc
  have hl := lv_entry ([.ref (cA L 1), .int a1]) (n := 2) (Nat.le_of_ble_eq_true rfl)
  rw [lg_entry_eq]
  generalize (lg_sl ([.ref (cA L 1), .int a1]) ++ List.replicate (2 - (lg_sl ([.ref (cA L 1), .int a1])).length) Slot.unset).toArray = ls at hl ⊢
  have hl : lv_has ls 2 [(0, .ref (cA L 1)), (1, .int a1)] := hl
  refine lv_aload_n hx hb d_N_pins_0 rfl (lv_at hl 0 rfl) ?_
  refine va_get (D := L.1) (ci := 1) (v := .ref (cA L 6)) (C := qR1) (T := qT1) (N := 13) hx hb hts qi1 hown hK hP 1 rfl rfl 9 (by decide) (hts _ wG105) (fun _ h9 => h9) rfl d_N_pins_1 ?_
  refine lv_iconst (v := 0) hx hb d_N_pins_4 (by decide) ?_
  obtain ⟨hi_1, h⟩ := h
  refine c_row6 hx hb hK hP hi_1 d_N_pins_5 ?_
  refine lv_iload_n hx hb d_N_pins_6 rfl (lv_at hl 1 rfl) ?_
  obtain ⟨hi_2, h⟩ := h
  refine c_iald hx hb hK hP (17 + (0 : Int32).toNatClampNeg) (row_lt17 hi_1) (row_len17 hi_1) hi_2 d_N_pins_7 ?_
  refine lv_aload_n hx hb d_N_pins_8 rfl (lv_at hl 0 rfl) ?_
  refine va_get (D := L.1) (ci := 1) (v := .ref (cA L 6)) (C := qR1) (T := qT1) (N := 13) hx hb hts qi1 hown hK hP 1 rfl rfl 9 (by decide) (hts _ wG105) (fun _ h9 => h9) rfl d_N_pins_9 ?_
  refine lv_iconst (v := 1) hx hb d_N_pins_12 (by decide) ?_
  obtain ⟨hi_3, h⟩ := h
  refine c_row6 hx hb hK hP hi_3 d_N_pins_13 ?_
  refine lv_iload_n hx hb d_N_pins_14 rfl (lv_at hl 1 rfl) ?_
  obtain ⟨hi_4, h⟩ := h
  refine c_iald hx hb hK hP (17 + (1 : Int32).toNatClampNeg) (row_lt17 hi_3) (row_len17 hi_3) hi_4 d_N_pins_15 ?_
  refine lv_iadd hx hb d_N_pins_16 ?_
  exact W.iret hx hb hr (fun t ht _ => ⟨_, rfl, h, ht⟩) (fun _ h9 => nomatch h9) d_N_pins_17
abbrev rm_N_hasPad : Room := { frames := 1, cells := 0, slots := 0, locals := 21 }
set_option maxHeartbeats 4000000 in
set_option maxRecDepth 100000 in
theorem c_N_hasPad (l : Launch) (L : cL) (a1 : Int32) (I : MI) (F : MF) (G : MG) (post : Int32 → Prop) (h : wp_N_hasPad a1 I F G post) : Met l y_N_hasPad (.code y_N_hasPad b_N_hasPad 2 (some .boolean) :: lwG) rm_N_hasPad (cPc L I F G [.ref (cA L 1), .int a1]) (vp_Si post) 0 0 (fun _ => False) := by
  refine Met.ofW (cc := b_N_hasPad) (maxL := 2) (ret := (some .boolean)) (by decide) rfl ?_
  intro p e s m args below meth c s₁ B hml hv
  obtain ⟨rfl, hP, hK, hN⟩ := hv
  have xc : xC p s m _ meth c b_N_hasPad 2 lwG qR1 (some .boolean) := ⟨B.exec, B.bytes, hml, findClass_of_methodNamed B.named, fun w h => atoms_spec (ws := (.code y_N_hasPad b_N_hasPad 2 (some .boolean) :: lwG)) B.pre w (List.mem_cons_of_mem _ h), B.returns, B.notSynchronized⟩
  obtain ⟨hx, hb, hml, hown, hts, hr, hlocks⟩ := id xc
  have hl := lv_entry ([.ref (cA L 1), .int a1]) (n := 2) (Nat.le_of_ble_eq_true rfl)
  rw [lg_entry_eq]
  generalize (lg_sl ([.ref (cA L 1), .int a1]) ++ List.replicate (2 - (lg_sl ([.ref (cA L 1), .int a1])).length) Slot.unset).toArray = ls at hl ⊢
  have hl : lv_has ls 2 [(0, .ref (cA L 1)), (1, .int a1)] := hl
  refine lv_aload_n hx hb d_N_hasPad_0 rfl (lv_at hl 0 rfl) ?_
  refine lv_iload_n hx hb d_N_hasPad_1 rfl (lv_at hl 1 rfl) ?_
  refine vp_callSi (va_runV (As := [.int a1]) (rest := []) ⟨hx, hb, hml, hown, hts⟩ (c_N_isDriven l L a1 I F G _ h) (cwV 1 hts (gV wG397 wG334 wG335 wG49 wG336) rfl rfl rfl (by decide +kernel) ⟨Nat.le_of_ble_eq_true rfl, Nat.le_of_ble_eq_true rfl⟩) (cPre1 hK hN hP) rfl rfl hl.1 rfl (lv_room (Nat.le_of_ble_eq_true rfl)) d_N_hasPad_2 ⟨Nat.le_of_ble_eq_true rfl, Nat.le_of_ble_eq_true rfl⟩).run (fun r_1 h => ?_)
  refine lv_if_ne (tgt := 20) hx hb d_N_hasPad_5 (by decide) (fun c_2 => ?_) (fun c_2 => ?_)
  · replace h := h.1 c_2
    refine lv_iconst (v := 0) hx hb d_N_hasPad_20 (by decide) ?_
    exact W.zret hx hb hr rfl (fun t ht _ => ⟨_, rfl, h, ht⟩) (fun _ h9 => nomatch h9) d_N_hasPad_21
  · replace h := h.2 c_2
    refine lv_aload_n hx hb d_N_hasPad_8 rfl (lv_at hl 0 rfl) ?_
    refine lv_iload_n hx hb d_N_hasPad_9 rfl (lv_at hl 1 rfl) ?_
    refine vp_callSi (va_runV (As := [.int a1]) (rest := []) ⟨hx, hb, hml, hown, hts⟩ (c_N_pins l L a1 I F G _ h) (cwV 1 hts (gV wG389 wG390 wG391 wG49 wG392) rfl rfl rfl (by decide +kernel) ⟨Nat.le_of_ble_eq_true rfl, Nat.le_of_ble_eq_true rfl⟩) (cPre1 hK hN hP) rfl rfl hl.1 rfl (lv_room (Nat.le_of_ble_eq_true rfl)) d_N_hasPad_10 ⟨Nat.le_of_ble_eq_true rfl, Nat.le_of_ble_eq_true rfl⟩).run (fun r_3 h => ?_)
    refine lv_if_le (tgt := 20) hx hb d_N_hasPad_13 (by decide) (fun c_4 => ?_) (fun c_4 => ?_)
    · replace h := h.1 c_4
      refine lv_iconst (v := 0) hx hb d_N_hasPad_20 (by decide) ?_
      exact W.zret hx hb hr rfl (fun t ht _ => ⟨_, rfl, h, ht⟩) (fun _ h9 => nomatch h9) d_N_hasPad_21
    · replace h := h.2 c_4
      refine lv_iconst (v := 1) hx hb d_N_hasPad_16 (by decide) ?_
      refine lv_goto (tgt := 21) hx hb d_N_hasPad_17 (by decide) ?_
      exact W.zret hx hb hr rfl (fun t ht _ => ⟨_, rfl, h, ht⟩) (fun _ h9 => nomatch h9) d_N_hasPad_21
abbrev rm_N_isWired : Room := { frames := 2, cells := 0, slots := 0, locals := 42 }
set_option maxHeartbeats 4000000 in
set_option maxRecDepth 100000 in
theorem c_N_isWired (l : Launch) (L : cL) (a1 : Int32) (I : MI) (F : MF) (G : MG) (post : Int32 → Prop) (h : wp_N_isWired a1 I F G post) : Met l y_N_isWired (.code y_N_isWired b_N_isWired 2 (some .boolean) :: lwG) rm_N_isWired (cPc L I F G [.ref (cA L 1), .int a1]) (vp_Si post) 0 0 (fun _ => False) := by
  refine Met.ofW (cc := b_N_isWired) (maxL := 2) (ret := (some .boolean)) (by decide) rfl ?_
  intro p e s m args below meth c s₁ B hml hv
  obtain ⟨rfl, hP, hK, hN⟩ := hv
  have xc : xC p s m _ meth c b_N_isWired 2 lwG qR1 (some .boolean) := ⟨B.exec, B.bytes, hml, findClass_of_methodNamed B.named, fun w h => atoms_spec (ws := (.code y_N_isWired b_N_isWired 2 (some .boolean) :: lwG)) B.pre w (List.mem_cons_of_mem _ h), B.returns, B.notSynchronized⟩
  obtain ⟨hx, hb, hml, hown, hts, hr, hlocks⟩ := id xc
  have hl := lv_entry ([.ref (cA L 1), .int a1]) (n := 2) (Nat.le_of_ble_eq_true rfl)
  rw [lg_entry_eq]
  generalize (lg_sl ([.ref (cA L 1), .int a1]) ++ List.replicate (2 - (lg_sl ([.ref (cA L 1), .int a1])).length) Slot.unset).toArray = ls at hl ⊢
  have hl : lv_has ls 2 [(0, .ref (cA L 1)), (1, .int a1)] := hl
  refine lv_aload_n hx hb d_N_isWired_0 rfl (lv_at hl 0 rfl) ?_
  refine lv_iload_n hx hb d_N_isWired_1 rfl (lv_at hl 1 rfl) ?_
  refine vp_callSi (va_runV (As := [.int a1]) (rest := []) ⟨hx, hb, hml, hown, hts⟩ (c_N_pins l L a1 I F G _ h) (cwV 1 hts (gV wG389 wG390 wG391 wG49 wG392) rfl rfl rfl (by decide +kernel) ⟨Nat.le_of_ble_eq_true rfl, Nat.le_of_ble_eq_true rfl⟩) (cPre1 hK hN hP) rfl rfl hl.1 rfl (lv_room (Nat.le_of_ble_eq_true rfl)) d_N_isWired_2 ⟨Nat.le_of_ble_eq_true rfl, Nat.le_of_ble_eq_true rfl⟩).run (fun r_1 h => ?_)
  refine lv_iconst (v := 2) hx hb d_N_isWired_5 (by decide) ?_
  refine lv_icmp_ge (tgt := 17) hx hb d_N_isWired_6 (by decide) (fun c_2 => ?_) (fun c_2 => ?_)
  · replace h := h.1 c_2
    refine lv_iconst (v := 1) hx hb d_N_isWired_17 (by decide) ?_
    refine lv_goto (tgt := 22) hx hb d_N_isWired_18 (by decide) ?_
    exact W.zret hx hb hr rfl (fun t ht _ => ⟨_, rfl, h, ht⟩) (fun _ h9 => nomatch h9) d_N_isWired_22
  · replace h := h.2 c_2
    refine lv_aload_n hx hb d_N_isWired_9 rfl (lv_at hl 0 rfl) ?_
    refine lv_iload_n hx hb d_N_isWired_10 rfl (lv_at hl 1 rfl) ?_
    refine vp_callSi (va_runV (As := [.int a1]) (rest := []) ⟨hx, hb, hml, hown, hts⟩ (c_N_hasPad l L a1 I F G _ h) (cwV 1 hts (gV wG393 wG394 wG395 wG49 wG396) rfl rfl rfl (by decide +kernel) ⟨Nat.le_of_ble_eq_true rfl, Nat.le_of_ble_eq_true rfl⟩) (cPre1 hK hN hP) rfl rfl hl.1 rfl (lv_room (Nat.le_of_ble_eq_true rfl)) d_N_isWired_11 ⟨Nat.le_of_ble_eq_true rfl, Nat.le_of_ble_eq_true rfl⟩).run (fun r_3 h => ?_)
    refine lv_if_eq (tgt := 21) hx hb d_N_isWired_14 (by decide) (fun c_4 => ?_) (fun c_4 => ?_)
    · replace h := h.1 c_4
      refine lv_iconst (v := 0) hx hb d_N_isWired_21 (by decide) ?_
      exact W.zret hx hb hr rfl (fun t ht _ => ⟨_, rfl, h, ht⟩) (fun _ h9 => nomatch h9) d_N_isWired_22
    · replace h := h.2 c_4
      refine lv_iconst (v := 1) hx hb d_N_isWired_17 (by decide) ?_
      refine lv_goto (tgt := 22) hx hb d_N_isWired_18 (by decide) ?_
      exact W.zret hx hb hr rfl (fun t ht _ => ⟨_, rfl, h, ht⟩) (fun _ h9 => nomatch h9) d_N_isWired_22
abbrev rm_N_wiredNets : Room := { frames := 3, cells := 0, slots := 0, locals := 63 }
set_option maxHeartbeats 4000000 in
set_option maxRecDepth 100000 in
theorem Wl_N_wiredNets_4 {p : Program} {l : Launch} {e : Env} {s : State} {m : MethodId} {args : Array Value} {below : List Frame} {meth : Method} {c : Code} {L : cL} {I : MI} {F : MF} {G : MG} {post : Int32 → Prop} {K : Int32 → Int32 → Prop} (xc : xC p s m args meth c b_N_wiredNets 3 lwG qR1 (some .int)) (hP : va_P L.1 vwCl (WC L I F G) s.heap) (hK : va_K L.1 vwCl (cTys L) s) (hN : cNk s)
    (hk : ∀ (a1 : Int32) (a2 : Int32) (ls : Array Slot), K a1 a2 → lv_has ls 3 [(0, .ref (cA L 1)), (1, .int a1), (2, .int a2)] → W p l e rm_N_wiredNets s m args below meth c s.heap [] 0 0 (MQ below (vp_Si post) args s 0 0 (fun _ => False)) (F0 m 27 ls [])) :
    ∀ (n : Nat) (a1 : Int32) (a2 : Int32) (ls : Array Slot), wl_N_wiredNets_4 post K I F G n a1 a2 → lv_has ls 3 [(0, .ref (cA L 1)), (1, .int a1), (2, .int a2)] → W p l e rm_N_wiredNets s m args below meth c s.heap [] 0 0 (MQ below (vp_Si post) args s 0 0 (fun _ => False)) (F0 m 4 ls []) := by
  obtain ⟨hx, hb, hml, hown, hts, hr, hlocks⟩ := id xc
  intro n
  induction n with
  | zero => intro a1 a2 ls h; exact absurd h id
  | succ n ih =>
    intro a1 a2 ls h hl
    refine lv_iload_n hx hb d_N_wiredNets_4 rfl (lv_at hl 2 rfl) ?_
    refine lv_bipush (v := 12) hx hb d_N_wiredNets_5 (by decide) ?_
    refine lv_icmp_ge (tgt := 27) hx hb d_N_wiredNets_7 (by decide) (fun c_1 => ?_) (fun c_1 => ?_)
    · replace h := h.1 c_1
      exact hk a1 a2 ls h (lv_sub hl [0, 1, 2] rfl)
    · replace h := h.2 c_1
      refine lv_aload_n hx hb d_N_wiredNets_10 rfl (lv_at hl 0 rfl) ?_
      refine lv_iload_n hx hb d_N_wiredNets_11 rfl (lv_at hl 2 rfl) ?_
      refine vp_callSi (va_runV (As := [.int a2]) (rest := []) ⟨hx, hb, hml, hown, hts⟩ (c_N_isWired l L a2 I F G _ h) (cwV 1 hts (gV wG385 wG386 wG387 wG49 wG388) rfl rfl rfl (by decide +kernel) ⟨Nat.le_of_ble_eq_true rfl, Nat.le_of_ble_eq_true rfl⟩) (cPre1 hK hN hP) rfl rfl hl.1 rfl (lv_room (Nat.le_of_ble_eq_true rfl)) d_N_wiredNets_12 ⟨Nat.le_of_ble_eq_true rfl, Nat.le_of_ble_eq_true rfl⟩).run (fun r_2 h => ?_)
      refine lv_if_eq (tgt := 21) hx hb d_N_wiredNets_15 (by decide) (fun c_3 => ?_) (fun c_3 => ?_)
      · replace h := h.1 c_3
        obtain ⟨x_4, ex_4⟩ : ∃ y : Int32, y = a2 + 1 := ⟨_, rfl⟩
        replace h := h x_4 ex_4
        refine lv_iinc (v := x_4) (lv' := [(2, .int x_4), (0, .ref (cA L 1)), (1, .int a1)]) hx hb d_N_wiredNets_21 hl (k := 2) rfl (by rw [ex_4]; rfl) (by decide) rfl (fun ls hl => ?_)
        refine lv_goto (tgt := 4) hx hb d_N_wiredNets_24 (by decide) ?_
        exact ih a1 x_4 ls h (lv_sub hl [1, 2, 0] rfl)
      · replace h := h.2 c_3
        obtain ⟨x_5, ex_5⟩ : ∃ y : Int32, y = a1 + 1 := ⟨_, rfl⟩
        replace h := h x_5 ex_5
        refine lv_iinc (v := x_5) (lv' := [(1, .int x_5), (0, .ref (cA L 1)), (2, .int a2)]) hx hb d_N_wiredNets_18 hl (k := 1) rfl (by rw [ex_5]; rfl) (by decide) rfl (fun ls hl => ?_)
        obtain ⟨x_6, ex_6⟩ : ∃ y : Int32, y = a2 + 1 := ⟨_, rfl⟩
        replace h := h x_6 ex_6
        refine lv_iinc (v := x_6) (lv' := [(2, .int x_6), (1, .int x_5), (0, .ref (cA L 1))]) hx hb d_N_wiredNets_21 hl (k := 2) rfl (by rw [ex_6]; rfl) (by decide) rfl (fun ls hl => ?_)
        refine lv_goto (tgt := 4) hx hb d_N_wiredNets_24 (by decide) ?_
        exact ih x_5 x_6 ls h (lv_sub hl [2, 1, 0] rfl)
set_option maxHeartbeats 4000000 in
set_option maxRecDepth 100000 in
theorem c_N_wiredNets (l : Launch) (L : cL) (I : MI) (F : MF) (G : MG) (post : Int32 → Prop) (h : wp_N_wiredNets I F G post) : Met l y_N_wiredNets (.code y_N_wiredNets b_N_wiredNets 3 (some .int) :: lwG) rm_N_wiredNets (cPc L I F G [.ref (cA L 1)]) (vp_Si post) 0 0 (fun _ => False) := by
  refine Met.ofW (cc := b_N_wiredNets) (maxL := 3) (ret := (some .int)) (by decide) rfl ?_
  intro p e s m args below meth c s₁ B hml hv
  obtain ⟨rfl, hP, hK, hN⟩ := hv
  have xc : xC p s m _ meth c b_N_wiredNets 3 lwG qR1 (some .int) := ⟨B.exec, B.bytes, hml, findClass_of_methodNamed B.named, fun w h => atoms_spec (ws := (.code y_N_wiredNets b_N_wiredNets 3 (some .int) :: lwG)) B.pre w (List.mem_cons_of_mem _ h), B.returns, B.notSynchronized⟩
  obtain ⟨hx, hb, hml, hown, hts, hr, hlocks⟩ := id xc
  have hl := lv_entry ([.ref (cA L 1)]) (n := 3) (Nat.le_of_ble_eq_true rfl)
  rw [lg_entry_eq]
  generalize (lg_sl ([.ref (cA L 1)]) ++ List.replicate (3 - (lg_sl ([.ref (cA L 1)])).length) Slot.unset).toArray = ls at hl ⊢
  have hl : lv_has ls 3 [(0, .ref (cA L 1))] := hl
  refine lv_iconst (v := 0) hx hb d_N_wiredNets_0 (by decide) ?_
  refine lv_istore_n (lv' := [(1, .int 0), (0, .ref (cA L 1))]) hx hb d_N_wiredNets_1 rfl hl (by decide) rfl (fun ls hl => ?_)
  refine lv_iconst (v := 0) hx hb d_N_wiredNets_2 (by decide) ?_
  refine lv_istore_n (lv' := [(2, .int 0), (1, .int 0), (0, .ref (cA L 1))]) hx hb d_N_wiredNets_3 rfl hl (by decide) rfl (fun ls hl => ?_)
  obtain ⟨n_9, h⟩ := h
  refine Wl_N_wiredNets_4 xc hP hK hN (hk := fun x_7 x_8 ls h hl => ?_) n_9 0 0 ls h (lv_sub hl [2, 1, 0] rfl)
  refine lv_iload_n hx hb d_N_wiredNets_27 rfl (lv_at hl 1 rfl) ?_
  exact W.iret hx hb hr (fun t ht _ => ⟨_, rfl, h, ht⟩) (fun _ h9 => nomatch h9) d_N_wiredNets_28
abbrev rm_N_leftEnd : Room := { frames := 3, cells := 0, slots := 0, locals := 63 }
set_option maxHeartbeats 4000000 in
set_option maxRecDepth 100000 in
theorem c_N_leftEnd (l : Launch) (L : cL) (a1 : Int32) (I : MI) (F : MF) (G : MG) (post : Int32 → Prop) (h : wp_N_leftEnd a1 I F G post) : Met l y_N_leftEnd (.code y_N_leftEnd b_N_leftEnd 2 (some .int) :: lwG) rm_N_leftEnd (cPc L I F G [.ref (cA L 1), .int a1]) (vp_Si post) 0 0 (fun _ => False) := by
  refine Met.ofW (cc := b_N_leftEnd) (maxL := 2) (ret := (some .int)) (by decide) rfl ?_
  intro p e s m args below meth c s₁ B hml hv
  obtain ⟨rfl, hP, hK, hN⟩ := hv
  have xc : xC p s m _ meth c b_N_leftEnd 2 lwG qR1 (some .int) := ⟨B.exec, B.bytes, hml, findClass_of_methodNamed B.named, fun w h => atoms_spec (ws := (.code y_N_leftEnd b_N_leftEnd 2 (some .int) :: lwG)) B.pre w (List.mem_cons_of_mem _ h), B.returns, B.notSynchronized⟩
  obtain ⟨hx, hb, hml, hown, hts, hr, hlocks⟩ := id xc
  have hl := lv_entry ([.ref (cA L 1), .int a1]) (n := 2) (Nat.le_of_ble_eq_true rfl)
  rw [lg_entry_eq]
  generalize (lg_sl ([.ref (cA L 1), .int a1]) ++ List.replicate (2 - (lg_sl ([.ref (cA L 1), .int a1])).length) Slot.unset).toArray = ls at hl ⊢
  have hl : lv_has ls 2 [(0, .ref (cA L 1)), (1, .int a1)] := hl
  refine lv_aload_n hx hb d_N_leftEnd_0 rfl (lv_at hl 0 rfl) ?_
  refine lv_iload_n hx hb d_N_leftEnd_1 rfl (lv_at hl 1 rfl) ?_
  refine vp_callSi (va_runV (As := [.int a1]) (rest := []) ⟨hx, hb, hml, hown, hts⟩ (c_N_isWired l L a1 I F G _ h) (cwV 1 hts (gV wG385 wG386 wG387 wG49 wG388) rfl rfl rfl (by decide +kernel) ⟨Nat.le_of_ble_eq_true rfl, Nat.le_of_ble_eq_true rfl⟩) (cPre1 hK hN hP) rfl rfl hl.1 rfl (lv_room (Nat.le_of_ble_eq_true rfl)) d_N_leftEnd_2 ⟨Nat.le_of_ble_eq_true rfl, Nat.le_of_ble_eq_true rfl⟩).run (fun r_1 h => ?_)
  refine lv_if_ne (tgt := 10) hx hb d_N_leftEnd_5 (by decide) (fun c_2 => ?_) (fun c_2 => ?_)
  · replace h := h.1 c_2
    refine lv_aload_n hx hb d_N_leftEnd_10 rfl (lv_at hl 0 rfl) ?_
    refine lv_iload_n hx hb d_N_leftEnd_11 rfl (lv_at hl 1 rfl) ?_
    refine vp_callSi (va_runV (As := [.int a1]) (rest := []) ⟨hx, hb, hml, hown, hts⟩ (c_N_hasPad l L a1 I F G _ h) (cwV 1 hts (gV wG393 wG394 wG395 wG49 wG396) rfl rfl rfl (by decide +kernel) ⟨Nat.le_of_ble_eq_true rfl, Nat.le_of_ble_eq_true rfl⟩) (cPre1 hK hN hP) rfl rfl hl.1 rfl (lv_room (Nat.le_of_ble_eq_true rfl)) d_N_leftEnd_12 ⟨Nat.le_of_ble_eq_true rfl, Nat.le_of_ble_eq_true rfl⟩).run (fun r_3 h => ?_)
    refine lv_if_eq (tgt := 22) hx hb d_N_leftEnd_15 (by decide) (fun c_4 => ?_) (fun c_4 => ?_)
    · replace h := h.1 c_4
      refine lv_aload_n hx hb d_N_leftEnd_22 rfl (lv_at hl 0 rfl) ?_
      refine va_get (D := L.1) (ci := 1) (v := .ref (cA L 17)) (C := qR1) (T := qT1) (N := 13) hx hb hts qi1 hown hK hP 1 rfl rfl 10 (by decide) (hts _ wG107) (fun _ h9 => h9) rfl d_N_leftEnd_23 ?_
      refine lv_iload_n hx hb d_N_leftEnd_26 rfl (lv_at hl 1 rfl) ?_
      obtain ⟨hi_5, h⟩ := h
      refine c_iald hx hb hK hP 7 (by decide) rfl hi_5 d_N_leftEnd_27 ?_
      exact W.iret hx hb hr (fun t ht _ => ⟨_, rfl, h, ht⟩) (fun _ h9 => nomatch h9) d_N_leftEnd_28
    · replace h := h.2 c_4
      refine lv_iconst (v := 0) hx hb d_N_leftEnd_18 (by decide) ?_
      refine lv_goto (tgt := 28) hx hb d_N_leftEnd_19 (by decide) ?_
      exact W.iret hx hb hr (fun t ht _ => ⟨_, rfl, h, ht⟩) (fun _ h9 => nomatch h9) d_N_leftEnd_28
  · replace h := h.2 c_2
    refine lv_iconst (v := (-1)) hx hb d_N_leftEnd_8 (by decide) ?_
    exact W.iret hx hb hr (fun t ht _ => ⟨_, rfl, h, ht⟩) (fun _ h9 => nomatch h9) d_N_leftEnd_9
