abbrev rm_S_output : Room := { frames := 0, cells := 0, slots := 0, locals := 0 }
set_option maxHeartbeats 4000000 in
set_option maxRecDepth 100000 in
theorem c_S_output (l : Launch) (a0 : Int32) (a1 : Int32) (a2 : Int32) (post : Int32 → Prop) (h : wp_S_output a0 a1 a2 post) : Met l y_S_output (.code y_S_output b_S_output 3 (some .int) :: lwG) rm_S_output (sPc [.int a0, .int a1, .int a2]) (vp_Si post) 0 0 (fun _ => False) := by
  refine Met.ofW (cc := b_S_output) (maxL := 3) (ret := (some .int)) (by decide) rfl ?_
  intro p e s m args below meth c s₁ B hml hv
  obtain ⟨rfl, -⟩ := hv
  have xc : xC p s m _ meth c b_S_output 3 lwG qR4 (some .int) := ⟨B.exec, B.bytes, hml, findClass_of_methodNamed B.named, fun w h => atoms_spec (ws := (.code y_S_output b_S_output 3 (some .int) :: lwG)) B.pre w (List.mem_cons_of_mem _ h), B.returns, B.notSynchronized⟩
  obtain ⟨hx, hb, hml, hown, hts, hr, hlocks⟩ := id xc
  have hl := lv_entry ([.int a0, .int a1, .int a2]) (n := 3) (Nat.le_of_ble_eq_true rfl)
  rw [lg_entry_eq]
  generalize (lg_sl ([.int a0, .int a1, .int a2]) ++ List.replicate (3 - (lg_sl ([.int a0, .int a1, .int a2])).length) Slot.unset).toArray = ls at hl ⊢
  have hl : lv_has ls 3 [(0, .int a0), (1, .int a1), (2, .int a2)] := hl
  refine lv_iload_n hx hb d_S_output_0 rfl (lv_at hl 0 rfl) ?_
  by_cases c0 : a0 = 0
  · replace h := h.1 c0
    refine lv_tableIn (tgt := 28) hx hb d_S_output_1 (by rw [c0]; decide) (by rw [c0]; decide) (by rw [c0]; rfl) (by decide) ?_
    refine lv_iconst (v := 1) hx hb d_S_output_28 (by decide) ?_
    refine lv_iload_n hx hb d_S_output_29 rfl (lv_at hl 1 rfl) ?_
    refine lv_isub hx hb d_S_output_30 ?_
    exact W.iret hx hb hr (fun t ht _ => ⟨_, rfl, h, ht⟩) (fun _ h9 => nomatch h9) d_S_output_31
  · replace h := h.2 c0
    by_cases c1 : a0 = 1
    · replace h := h.1 c1
      refine lv_tableIn (tgt := 32) hx hb d_S_output_1 (by rw [c1]; decide) (by rw [c1]; decide) (by rw [c1]; rfl) (by decide) ?_
      refine lv_iload_n hx hb d_S_output_32 rfl (lv_at hl 1 rfl) ?_
      exact W.iret hx hb hr (fun t ht _ => ⟨_, rfl, h, ht⟩) (fun _ h9 => nomatch h9) d_S_output_33
    · replace h := h.2 c1
      by_cases c2 : a0 = 2
      · replace h := h.1 c2
        refine lv_tableIn (tgt := 34) hx hb d_S_output_1 (by rw [c2]; decide) (by rw [c2]; decide) (by rw [c2]; rfl) (by decide) ?_
        refine lv_iconst (v := 1) hx hb d_S_output_34 (by decide) ?_
        refine lv_iload_n hx hb d_S_output_35 rfl (lv_at hl 1 rfl) ?_
        refine lv_iload_n hx hb d_S_output_36 rfl (lv_at hl 2 rfl) ?_
        refine lv_iand hx hb d_S_output_37 ?_
        refine lv_isub hx hb d_S_output_38 ?_
        exact W.iret hx hb hr (fun t ht _ => ⟨_, rfl, h, ht⟩) (fun _ h9 => nomatch h9) d_S_output_39
      · replace h := h.2 c2
        refine lv_tableOut (tgt := 40) hx hb d_S_output_1 (sw_out_0_2 c0 c1 c2) (by decide) ?_
        refine lv_iconst (v := 1) hx hb d_S_output_40 (by decide) ?_
        refine lv_iload_n hx hb d_S_output_41 rfl (lv_at hl 1 rfl) ?_
        refine lv_iload_n hx hb d_S_output_42 rfl (lv_at hl 2 rfl) ?_
        refine lv_ior hx hb d_S_output_43 ?_
        refine lv_isub hx hb d_S_output_44 ?_
        exact W.iret hx hb hr (fun t ht _ => ⟨_, rfl, h, ht⟩) (fun _ h9 => nomatch h9) d_S_output_45
abbrev rm_S_levels : Room := { frames := 1, cells := 0, slots := 0, locals := 22 }
set_option maxHeartbeats 4000000 in
set_option maxRecDepth 100000 in
theorem Wl_S_levels_4 {p : Program} {l : Launch} {e : Env} {s : State} {m : MethodId} {args : Array Value} {below : List Frame} {meth : Method} {c : Code} {L : cL} {I : MI} {F : MF} {G : MG} {post : Int32 → Prop} {K : Int32 → Int32 → Prop} {a1 : Int32} (xc : xC p s m args meth c b_S_levels 7 lwG qR4 (some .int)) (hP : va_P L.1 vwCl (WC L I F G) s.heap) (hK : va_K L.1 vwCl (cTys L) s) (hN : cNk s)
    (hk : ∀ (a2 : Int32) (a3 : Int32) (ls : Array Slot), K a2 a3 → lv_has ls 7 [(0, .ref (cA L 4)), (1, .int a1), (2, .int a2), (3, .int a3)] → W p l e rm_S_levels s m args below meth c s.heap [] 0 0 (MQ below (vp_Si post) args s 0 0 (fun _ => False)) (F0 m 37 ls [])) :
    ∀ (n : Nat) (a2 : Int32) (a3 : Int32) (ls : Array Slot), wl_S_levels_4 post K a1 I F G n a2 a3 → lv_has ls 7 [(0, .ref (cA L 4)), (1, .int a1), (2, .int a2), (3, .int a3)] → W p l e rm_S_levels s m args below meth c s.heap [] 0 0 (MQ below (vp_Si post) args s 0 0 (fun _ => False)) (F0 m 4 ls []) := by
  obtain ⟨hx, hb, hml, hown, hts, hr, hlocks⟩ := id xc
  intro n
  induction n with
  | zero => intro a2 a3 ls h; exact absurd h id
  | succ n ih =>
    intro a2 a3 ls h hl
    refine lv_iload_n hx hb d_S_levels_4 rfl (lv_at hl 3 rfl) ?_
    refine lv_bipush (v := 12) hx hb d_S_levels_5 (by decide) ?_
    refine lv_icmp_ge (tgt := 37) hx hb d_S_levels_7 (by decide) (fun c_1 => ?_) (fun c_1 => ?_)
    · replace h := h.1 c_1
      exact hk a2 a3 ls h (lv_sub hl [0, 1, 2, 3] rfl)
    · replace h := h.2 c_1
      refine lv_aload_n hx hb d_S_levels_10 rfl (lv_at hl 0 rfl) ?_
      refine va_get (D := L.1) (ci := 4) (v := .ref (cA L 1)) (C := qR4) (T := qT4) (N := 7) hx hb hts qi4 hown hK hP 4 rfl rfl 0 (by decide) (hts _ wG195) (fun _ h9 => h9) rfl d_S_levels_11 ?_
      refine lv_iload_n hx hb d_S_levels_14 rfl (lv_at hl 3 rfl) ?_
      refine vp_callSi (va_runV (As := [.int a3]) (rest := []) ⟨hx, hb, hml, hown, hts⟩ (c_N_isDriven l L a3 I F G _ h) (cwV 1 hts (gV wG656 wG334 wG335 wG49 wG336) rfl rfl rfl (by decide +kernel) ⟨Nat.le_of_ble_eq_true rfl, Nat.le_of_ble_eq_true rfl⟩) (cPre1 hK hN hP) rfl rfl hl.1 rfl (lv_room (Nat.le_of_ble_eq_true rfl)) d_S_levels_15 ⟨Nat.le_of_ble_eq_true rfl, Nat.le_of_ble_eq_true rfl⟩).run (fun r_2 h => ?_)
      refine lv_if_ne (tgt := 31) hx hb d_S_levels_18 (by decide) (fun c_3 => ?_) (fun c_3 => ?_)
      · replace h := h.1 c_3
        obtain ⟨x_4, ex_4⟩ : ∃ y : Int32, y = a3 + 1 := ⟨_, rfl⟩
        replace h := h x_4 ex_4
        refine lv_iinc (v := x_4) (lv' := [(3, .int x_4), (0, .ref (cA L 4)), (1, .int a1), (2, .int a2)]) hx hb d_S_levels_31 hl (k := 3) rfl (by rw [ex_4]; rfl) (by decide) rfl (fun ls hl => ?_)
        refine lv_goto (tgt := 4) hx hb d_S_levels_34 (by decide) ?_
        exact ih a2 x_4 ls h (lv_sub hl [1, 2, 3, 0] rfl)
      · replace h := h.2 c_3
        refine lv_iload_n hx hb d_S_levels_21 rfl (lv_at hl 2 rfl) ?_
        refine lv_iload_n hx hb d_S_levels_22 rfl (lv_at hl 1 rfl) ?_
        refine lv_iload_n hx hb d_S_levels_23 rfl (lv_at hl 3 rfl) ?_
        refine vp_callSi (va_runS (As := [.int a1, .int a3]) (rest := [.int a2]) ⟨hx, hb, hml, hown, hts⟩ (c_S_bit l a1 a3 _ h) (va_cwS 2 hts (gS wG665 wG666 wG53 wG667) rfl rfl rfl (by decide +kernel) ⟨Nat.le_of_ble_eq_true rfl, Nat.le_of_ble_eq_true rfl⟩) ⟨sPc_blind _, fun U hU hW => ⟨rfl, trivial⟩⟩ rfl rfl hl.1 rfl (lv_room (Nat.le_of_ble_eq_true rfl)) d_S_levels_24 ⟨Nat.le_of_ble_eq_true rfl, Nat.le_of_ble_eq_true rfl⟩).run (fun r_5 h => ?_)
        refine lv_iload_n hx hb d_S_levels_27 rfl (lv_at hl 3 rfl) ?_
        refine lv_ishl hx hb d_S_levels_28 ?_
        refine lv_ior hx hb d_S_levels_29 ?_
        refine lv_topi (fun x_6 ex_6 => ?_)
        replace h := h x_6 ex_6
        refine lv_istore_n (lv' := [(2, .int x_6), (0, .ref (cA L 4)), (1, .int a1), (3, .int a3)]) hx hb d_S_levels_30 rfl hl (by decide) rfl (fun ls hl => ?_)
        obtain ⟨x_7, ex_7⟩ : ∃ y : Int32, y = a3 + 1 := ⟨_, rfl⟩
        replace h := h x_7 ex_7
        refine lv_iinc (v := x_7) (lv' := [(3, .int x_7), (2, .int x_6), (0, .ref (cA L 4)), (1, .int a1)]) hx hb d_S_levels_31 hl (k := 3) rfl (by rw [ex_7]; rfl) (by decide) rfl (fun ls hl => ?_)
        refine lv_goto (tgt := 4) hx hb d_S_levels_34 (by decide) ?_
        exact ih x_6 x_7 ls h (lv_sub hl [2, 3, 1, 0] rfl)
set_option maxHeartbeats 4000000 in
set_option maxRecDepth 100000 in
theorem Wl_S_levels_39 {p : Program} {l : Launch} {e : Env} {s : State} {m : MethodId} {args : Array Value} {below : List Frame} {meth : Method} {c : Code} {L : cL} {I : MI} {F : MF} {G : MG} {post : Int32 → Prop} {K : Int32 → Int32 → Prop} {a1 : Int32} (xc : xC p s m args meth c b_S_levels 7 lwG qR4 (some .int)) (hP : va_P L.1 vwCl (WC L I F G) s.heap) (hK : va_K L.1 vwCl (cTys L) s) (hN : cNk s)
    (hk : ∀ (a2 : Int32) (a3 : Int32) (ls : Array Slot), K a2 a3 → lv_has ls 7 [(0, .ref (cA L 4)), (1, .int a1), (2, .int a2), (3, .int a3)] → W p l e rm_S_levels s m args below meth c s.heap [] 0 0 (MQ below (vp_Si post) args s 0 0 (fun _ => False)) (F0 m 124 ls [])) :
    ∀ (n : Nat) (a2 : Int32) (a3 : Int32) (ls : Array Slot), wl_S_levels_39 post K a1 I F G n a2 a3 → lv_has ls 7 [(0, .ref (cA L 4)), (1, .int a1), (2, .int a2), (3, .int a3)] → W p l e rm_S_levels s m args below meth c s.heap [] 0 0 (MQ below (vp_Si post) args s 0 0 (fun _ => False)) (F0 m 39 ls []) := by
  obtain ⟨hx, hb, hml, hown, hts, hr, hlocks⟩ := id xc
  intro n
  induction n with
  | zero => intro a2 a3 ls h; exact absurd h id
  | succ n ih =>
    intro a2 a3 ls h hl
    refine lv_iload_n hx hb d_S_levels_39 rfl (lv_at hl 3 rfl) ?_
    refine lv_aload_n hx hb d_S_levels_40 rfl (lv_at hl 0 rfl) ?_
    refine va_get (D := L.1) (ci := 4) (v := .int (I 4)) (C := qR4) (T := qT4) (N := 7) hx hb hts qi4 hown hK hP 4 rfl rfl 5 (by decide) (hts _ wG201) (fun _ h9 => h9) rfl d_S_levels_41 ?_
    refine lv_icmp_ge (tgt := 124) hx hb d_S_levels_44 (by decide) (fun c_10 => ?_) (fun c_10 => ?_)
    · replace h := h.1 c_10
      exact hk a2 a3 ls h (lv_sub hl [0, 1, 2, 3] rfl)
    · replace h := h.2 c_10
      refine lv_aload_n hx hb d_S_levels_47 rfl (lv_at hl 0 rfl) ?_
      refine va_get (D := L.1) (ci := 4) (v := .ref (cA L 24)) (C := qR4) (T := qT4) (N := 7) hx hb hts qi4 hown hK hP 4 rfl rfl 4 (by decide) (hts _ wG200) (fun _ h9 => h9) rfl d_S_levels_48 ?_
      refine lv_iload_n hx hb d_S_levels_51 rfl (lv_at hl 3 rfl) ?_
      obtain ⟨hi_11, h⟩ := h
      refine c_iald hx hb hK hP 14 (by decide) rfl hi_11 d_S_levels_52 ?_
      refine lv_topi (fun x_12 ex_12 => ?_)
      replace h := h x_12 ex_12
      refine lv_istore (lv' := [(4, .int x_12), (0, .ref (cA L 4)), (1, .int a1), (2, .int a2), (3, .int a3)]) hx hb d_S_levels_53 hl (by decide) rfl (fun ls hl => ?_)
      refine lv_iload_n hx hb d_S_levels_55 rfl (lv_at hl 3 rfl) ?_
      refine lv_aload_n hx hb d_S_levels_56 rfl (lv_at hl 1 rfl) ?_
      refine va_get (D := L.1) (ci := 4) (v := .ref (cA L 1)) (C := qR4) (T := qT4) (N := 7) hx hb hts qi4 hown hK hP 4 rfl rfl 0 (by decide) (hts _ wG195) (fun _ h9 => h9) rfl d_S_levels_57 ?_
      refine va_get (D := L.1) (ci := 1) (v := .ref (cA L 11)) (C := qR1) (T := qT1) (N := 13) hx hb hts qi1 hown hK hP 1 rfl rfl 2 (by decide) (hts _ wG94) (fun _ h9 => h9) rfl d_S_levels_60 ?_
      refine lv_iload hx hb d_S_levels_63 (lv_at hl 0 rfl) ?_
      obtain ⟨hi_13, h⟩ := h
      refine c_iald hx hb hK hP 1 (by decide) rfl hi_13 d_S_levels_65 ?_
      refine vp_callSi (va_runS (As := [.int a2, .int (F 1 x_12.toNatClampNeg)]) (rest := []) ⟨hx, hb, hml, hown, hts⟩ (c_S_bit l a2 (F 1 x_12.toNatClampNeg) _ h) (va_cwS 2 hts (gS wG665 wG666 wG53 wG667) rfl rfl rfl (by decide +kernel) ⟨Nat.le_of_ble_eq_true rfl, Nat.le_of_ble_eq_true rfl⟩) ⟨sPc_blind _, fun U hU hW => ⟨rfl, trivial⟩⟩ rfl rfl hl.1 rfl (lv_room (Nat.le_of_ble_eq_true rfl)) d_S_levels_66 ⟨Nat.le_of_ble_eq_true rfl, Nat.le_of_ble_eq_true rfl⟩).run (fun r_14 h => ?_)
      refine lv_istore (lv' := [(5, .int r_14), (4, .int x_12), (0, .ref (cA L 4)), (1, .int a1), (2, .int a2), (3, .int a3)]) hx hb d_S_levels_69 hl (by decide) rfl (fun ls hl => ?_)
      refine lv_iload_n hx hb d_S_levels_71 rfl (lv_at hl 4 rfl) ?_
      refine lv_aload_n hx hb d_S_levels_72 rfl (lv_at hl 2 rfl) ?_
      refine va_get (D := L.1) (ci := 4) (v := .ref (cA L 1)) (C := qR4) (T := qT4) (N := 7) hx hb hts qi4 hown hK hP 4 rfl rfl 0 (by decide) (hts _ wG195) (fun _ h9 => h9) rfl d_S_levels_73 ?_
      refine va_get (D := L.1) (ci := 1) (v := .ref (cA L 12)) (C := qR1) (T := qT1) (N := 13) hx hb hts qi1 hown hK hP 1 rfl rfl 3 (by decide) (hts _ wG96) (fun _ h9 => h9) rfl d_S_levels_76 ?_
      refine lv_iload hx hb d_S_levels_79 (lv_at hl 1 rfl) ?_
      obtain ⟨hi_15, h⟩ := h
      refine c_iald hx hb hK hP 2 (by decide) rfl hi_15 d_S_levels_81 ?_
      refine vp_callSi (va_runS (As := [.int a2, .int (F 2 x_12.toNatClampNeg)]) (rest := []) ⟨hx, hb, hml, hown, hts⟩ (c_S_bit l a2 (F 2 x_12.toNatClampNeg) _ h) (va_cwS 2 hts (gS wG665 wG666 wG53 wG667) rfl rfl rfl (by decide +kernel) ⟨Nat.le_of_ble_eq_true rfl, Nat.le_of_ble_eq_true rfl⟩) ⟨sPc_blind _, fun U hU hW => ⟨rfl, trivial⟩⟩ rfl rfl hl.1 rfl (lv_room (Nat.le_of_ble_eq_true rfl)) d_S_levels_82 ⟨Nat.le_of_ble_eq_true rfl, Nat.le_of_ble_eq_true rfl⟩).run (fun r_16 h => ?_)
      refine lv_istore (lv' := [(6, .int r_16), (5, .int r_14), (4, .int x_12), (0, .ref (cA L 4)), (1, .int a1), (2, .int a2), (3, .int a3)]) hx hb d_S_levels_85 hl (by decide) rfl (fun ls hl => ?_)
      refine lv_iload_n hx hb d_S_levels_87 rfl (lv_at hl 5 rfl) ?_
      refine lv_aload_n hx hb d_S_levels_88 rfl (lv_at hl 3 rfl) ?_
      refine va_get (D := L.1) (ci := 4) (v := .ref (cA L 1)) (C := qR4) (T := qT4) (N := 7) hx hb hts qi4 hown hK hP 4 rfl rfl 0 (by decide) (hts _ wG195) (fun _ h9 => h9) rfl d_S_levels_89 ?_
      refine va_get (D := L.1) (ci := 1) (v := .ref (cA L 10)) (C := qR1) (T := qT1) (N := 13) hx hb hts qi1 hown hK hP 1 rfl rfl 1 (by decide) (hts _ wG92) (fun _ h9 => h9) rfl d_S_levels_92 ?_
      refine lv_iload hx hb d_S_levels_95 (lv_at hl 2 rfl) ?_
      obtain ⟨hi_17, h⟩ := h
      refine c_iald hx hb hK hP 0 (by decide) rfl hi_17 d_S_levels_97 ?_
      refine lv_iload hx hb d_S_levels_98 (lv_at hl 1 rfl) ?_
      refine lv_iload hx hb d_S_levels_100 (lv_at hl 0 rfl) ?_
      refine vp_callSi (va_runS (As := [.int (F 0 x_12.toNatClampNeg), .int r_14, .int r_16]) (rest := [.int a2]) ⟨hx, hb, hml, hown, hts⟩ (c_S_output l (F 0 x_12.toNatClampNeg) r_14 r_16 _ h) (va_cwS 3 hts (gS wG710 wG711 wG53 wG712) rfl rfl rfl (by decide +kernel) ⟨Nat.le_of_ble_eq_true rfl, Nat.le_of_ble_eq_true rfl⟩) ⟨sPc_blind _, fun U hU hW => ⟨rfl, trivial⟩⟩ rfl rfl hl.1 rfl (lv_room (Nat.le_of_ble_eq_true rfl)) d_S_levels_102 ⟨Nat.le_of_ble_eq_true rfl, Nat.le_of_ble_eq_true rfl⟩).run (fun r_18 h => ?_)
      refine lv_aload_n hx hb d_S_levels_105 rfl (lv_at hl 3 rfl) ?_
      refine va_get (D := L.1) (ci := 4) (v := .ref (cA L 1)) (C := qR4) (T := qT4) (N := 7) hx hb hts qi4 hown hK hP 4 rfl rfl 0 (by decide) (hts _ wG195) (fun _ h9 => h9) rfl d_S_levels_106 ?_
      refine va_get (D := L.1) (ci := 1) (v := .ref (cA L 13)) (C := qR1) (T := qT1) (N := 13) hx hb hts qi1 hown hK hP 1 rfl rfl 4 (by decide) (hts _ wG98) (fun _ h9 => h9) rfl d_S_levels_109 ?_
      refine lv_iload hx hb d_S_levels_112 (lv_at hl 2 rfl) ?_
      obtain ⟨hi_19, h⟩ := h
      refine c_iald hx hb hK hP 3 (by decide) rfl hi_19 d_S_levels_114 ?_
      refine lv_ishl hx hb d_S_levels_115 ?_
      refine lv_ior hx hb d_S_levels_116 ?_
      refine lv_topi (fun x_20 ex_20 => ?_)
      replace h := h x_20 ex_20
      refine lv_istore_n (lv' := [(2, .int x_20), (6, .int r_16), (5, .int r_14), (4, .int x_12), (0, .ref (cA L 4)), (1, .int a1), (3, .int a3)]) hx hb d_S_levels_117 rfl hl (by decide) rfl (fun ls hl => ?_)
      obtain ⟨x_21, ex_21⟩ : ∃ y : Int32, y = a3 + 1 := ⟨_, rfl⟩
      replace h := h x_21 ex_21
      refine lv_iinc (v := x_21) (lv' := [(3, .int x_21), (2, .int x_20), (6, .int r_16), (5, .int r_14), (4, .int x_12), (0, .ref (cA L 4)), (1, .int a1)]) hx hb d_S_levels_118 hl (k := 6) rfl (by rw [ex_21]; rfl) (by decide) rfl (fun ls hl => ?_)
      refine lv_goto (tgt := 39) hx hb d_S_levels_121 (by decide) ?_
      exact ih x_20 x_21 ls h (lv_sub hl [5, 6, 1, 0] rfl)
set_option maxHeartbeats 4000000 in
set_option maxRecDepth 100000 in
theorem c_S_levels (l : Launch) (L : cL) (a1 : Int32) (I : MI) (F : MF) (G : MG) (post : Int32 → Prop) (h : wp_S_levels a1 I F G post) : Met l y_S_levels (.code y_S_levels b_S_levels 7 (some .int) :: lwG) rm_S_levels (cPc L I F G [.ref (cA L 4), .int a1]) (vp_Si post) 0 0 (fun _ => False) := by
  refine Met.ofW (cc := b_S_levels) (maxL := 7) (ret := (some .int)) (by decide) rfl ?_
  intro p e s m args below meth c s₁ B hml hv
  obtain ⟨rfl, hP, hK, hN⟩ := hv
  have xc : xC p s m _ meth c b_S_levels 7 lwG qR4 (some .int) := ⟨B.exec, B.bytes, hml, findClass_of_methodNamed B.named, fun w h => atoms_spec (ws := (.code y_S_levels b_S_levels 7 (some .int) :: lwG)) B.pre w (List.mem_cons_of_mem _ h), B.returns, B.notSynchronized⟩
  obtain ⟨hx, hb, hml, hown, hts, hr, hlocks⟩ := id xc
  have hl := lv_entry ([.ref (cA L 4), .int a1]) (n := 7) (Nat.le_of_ble_eq_true rfl)
  rw [lg_entry_eq]
  generalize (lg_sl ([.ref (cA L 4), .int a1]) ++ List.replicate (7 - (lg_sl ([.ref (cA L 4), .int a1])).length) Slot.unset).toArray = ls at hl ⊢
  have hl : lv_has ls 7 [(0, .ref (cA L 4)), (1, .int a1)] := hl
  refine lv_iconst (v := 0) hx hb d_S_levels_0 (by decide) ?_
  refine lv_istore_n (lv' := [(2, .int 0), (0, .ref (cA L 4)), (1, .int a1)]) hx hb d_S_levels_1 rfl hl (by decide) rfl (fun ls hl => ?_)
  refine lv_iconst (v := 0) hx hb d_S_levels_2 (by decide) ?_
  refine lv_istore_n (lv' := [(3, .int 0), (2, .int 0), (0, .ref (cA L 4)), (1, .int a1)]) hx hb d_S_levels_3 rfl hl (by decide) rfl (fun ls hl => ?_)
  obtain ⟨n_25, h⟩ := h
  refine Wl_S_levels_4 xc hP hK hN (hk := fun x_8 x_9 ls h hl => ?_) n_25 0 0 ls h (lv_sub hl [2, 3, 1, 0] rfl)
  refine lv_iconst (v := 0) hx hb d_S_levels_37 (by decide) ?_
  refine lv_istore_n (lv' := [(3, .int 0), (0, .ref (cA L 4)), (1, .int a1), (2, .int x_8)]) hx hb d_S_levels_38 rfl hl (by decide) rfl (fun ls hl => ?_)
  obtain ⟨n_24, h⟩ := h
  refine Wl_S_levels_39 xc hP hK hN (hk := fun x_22 x_23 ls h hl => ?_) n_24 x_8 0 ls h (lv_sub hl [1, 2, 3, 0] rfl)
  refine lv_iload_n hx hb d_S_levels_124 rfl (lv_at hl 2 rfl) ?_
  exact W.iret hx hb hr (fun t ht _ => ⟨_, rfl, h, ht⟩) (fun _ h9 => nomatch h9) d_S_levels_125
abbrev rm_F_simulate : Room := { frames := 6, cells := 1, slots := 6, locals := 96 }
set_option maxHeartbeats 4000000 in
set_option maxRecDepth 100000 in
theorem c_F_simulate (l : Launch) (L : cL) (hst : l.stackTraces = false) (a1 : Int32) (I : MI) (F : MF) (G : MG) (sz : Nat) (post : Int32 → MI → MF → MG → Prop) (thr : String → MI → MF → MG → Prop) (h : wp_F_simulate a1 I F G post thr) : tx_Met l y_F_simulate (.code y_F_simulate b_F_simulate 2 (some .int) :: lwG) rm_F_simulate (cPx L I F G sz [.ref (cA L 0), .int a1]) (cRi L (cAA L I F G sz) post (cAA L I F G sz)) (cX L (cAA L I F G sz) thr (cAA L I F G sz)) 1 6 (cAA L I F G sz) := by
  refine tx_ofW (cc := b_F_simulate) (maxL := 2) (ret := (some .int)) (by decide) rfl ?_
  intro p e s m args below meth c s₁ B hml hnt hv
  obtain ⟨rfl, hsz, hP, hK, hD0, hN, hz, hsr⟩ := hv
  have xc : xC p s m _ meth c b_F_simulate 2 lwG qR0 (some .int) := ⟨B.exec, B.bytes, hml, findClass_of_methodNamed B.named, fun w h => atoms_spec (ws := (.code y_F_simulate b_F_simulate 2 (some .int) :: lwG)) B.pre w (List.mem_cons_of_mem _ h), B.returns, B.notSynchronized⟩
  obtain ⟨hx, hb, hml, hown, hts, hr, hlocks⟩ := id xc
  subst hsz
  have hD : va_D (cAA L I F G s.heap.size) (WC L I F G) := hD0.self
  have hA0 : ∀ q : Nat, s.heap.size ≤ q → cAA L I F G s.heap.size q := fun q h => Or.inr h
  generalize cAA L I F G s.heap.size = A at hD hA0 hz ⊢
  have hA := hA0
  have hw : CW L A s.heap I F G s.heap [] := ⟨hP, hD, va_S.rf⟩
  have hl := lv_entry ([.ref (cA L 0), .int a1]) (n := 2) (Nat.le_of_ble_eq_true rfl)
  rw [lg_entry_eq]
  generalize (lg_sl ([.ref (cA L 0), .int a1]) ++ List.replicate (2 - (lg_sl ([.ref (cA L 0), .int a1])).length) Slot.unset).toArray = ls at hl ⊢
  have hl : lv_has ls 2 [(0, .ref (cA L 0)), (1, .int a1)] := hl
  refine lv_aload_n hx hb d_F_simulate_0 rfl (lv_at hl 0 rfl) ?_
  refine va_get (D := L.1) (ci := 0) (v := .ref (cA L 4)) (C := qR0) (T := qT0) (N := 5) hx hb hts qi0 hown hK hw.1 0 rfl rfl 3 (by decide) (hts _ wG222) (fun _ h9 => h9) rfl d_F_simulate_1 ?_
  refine c_callv (va_runV (As := []) (rest := []) ⟨hx, hb, hml, hown, hts⟩ (c_S_orderGates l L I F G _ _ h) (cwV 0 hts (gV wG652 wG653 wG654 wG53 wG655) rfl rfl rfl (by decide +kernel) ⟨Nat.le_of_ble_eq_true rfl, Nat.le_of_ble_eq_true rfl⟩) (cPrm4 hK hN hw) rfl rfl hl.1 rfl (lv_room (Nat.le_of_ble_eq_true rfl)) d_F_simulate_4 ⟨Nat.le_of_ble_eq_true rfl, Nat.le_of_ble_eq_true rfl⟩) hw hA (fun I_1 F_1 G_1 H locs h hw => ?_)
  refine lv_aload_n hx hb d_F_simulate_7 rfl (lv_at hl 0 rfl) ?_
  refine va_get (D := L.1) (ci := 0) (v := .ref (cA L 4)) (C := qR0) (T := qT0) (N := 5) hx hb hts qi0 hown hK hw.1 0 rfl rfl 3 (by decide) (hts _ wG222) (fun _ h9 => h9) rfl d_F_simulate_8 ?_
  refine vp_callSi (va_runV (As := []) (rest := []) ⟨hx, hb, hml, hown, hts⟩ (c_S_allSettled l L I_1 F_1 G_1 _ h) (cwV 0 hts (gV wG701 wG702 wG703 wG53 wG704) rfl rfl rfl (by decide +kernel) ⟨Nat.le_of_ble_eq_true rfl, Nat.le_of_ble_eq_true rfl⟩) (cPre4 hK hN hw.1) rfl rfl hl.1 rfl (lv_room (Nat.le_of_ble_eq_true rfl)) d_F_simulate_11 ⟨Nat.le_of_ble_eq_true rfl, Nat.le_of_ble_eq_true rfl⟩).run (fun r_2 h => ?_)
  refine lv_if_ne (tgt := 27) hx hb d_F_simulate_14 (by decide) (fun c_3 => ?_) (fun c_3 => ?_)
  · replace h := h.1 c_3
    refine lv_aload_n hx hb d_F_simulate_27 rfl (lv_at hl 0 rfl) ?_
    refine va_get (D := L.1) (ci := 0) (v := .ref (cA L 4)) (C := qR0) (T := qT0) (N := 5) hx hb hts qi0 hown hK hw.1 0 rfl rfl 3 (by decide) (hts _ wG222) (fun _ h9 => h9) rfl d_F_simulate_28 ?_
    refine lv_iload_n hx hb d_F_simulate_31 rfl (lv_at hl 1 rfl) ?_
    refine vp_callSi (va_runV (As := [.int a1]) (rest := []) ⟨hx, hb, hml, hown, hts⟩ (c_S_levels l L a1 I_1 F_1 G_1 _ h) (cwV 1 hts (gV wG706 wG707 wG708 wG53 wG709) rfl rfl rfl (by decide +kernel) ⟨Nat.le_of_ble_eq_true rfl, Nat.le_of_ble_eq_true rfl⟩) (cPre4 hK hN hw.1) rfl rfl hl.1 rfl (lv_room (Nat.le_of_ble_eq_true rfl)) d_F_simulate_32 ⟨Nat.le_of_ble_eq_true rfl, Nat.le_of_ble_eq_true rfl⟩).run (fun r_4 h => ?_)
    refine W.widen (k := 1) (n := 6) (Nat.le_of_ble_eq_true rfl) (Nat.le_of_ble_eq_true rfl) ?_
    refine tx_ret ?_
    exact W.iret hx hb hr (fun t ht hW => ⟨⟨_, (I_1, F_1, G_1), rfl, ⟨_, rfl, h⟩, by rw [ht]; exact hw.1, va_K.moved hW.alike hK, hw.2.1⟩, hw.2.2.F ht⟩) hw.2.2.2.2 d_F_simulate_35
  · replace h := h.2 c_3
    obtain ⟨sa, hsa⟩ := hsr.1 (qR0, 188, "a net depends on itself") (by decide +kernel)
    exact tx_throwS (Ts := lwH) hx hb hst hown (cHts hts hsr.2) hz hw.2.2 (by decide +kernel) (by decide +kernel) th_F_176_180 hsa (hl.1.trans hml.symm) d_F_simulate_17 d_F_simulate_20 d_F_simulate_21 d_F_simulate_23 d_F_simulate_26 hnt (Nat.le_of_ble_eq_true rfl) (Nat.le_of_ble_eq_true rfl) (Nat.le_of_ble_eq_true rfl) (Nat.le_of_ble_eq_true rfl) hlocks (cX_of hw hK h) hw.2.2.2.2 (Nat.le_of_ble_eq_true rfl) (Nat.le_of_ble_eq_true rfl)
abbrev rm_D_pointsWith : Room := { frames := 1, cells := 0, slots := 0, locals := 20 }
set_option maxHeartbeats 4000000 in
set_option maxRecDepth 100000 in
theorem Wl_D_pointsWith_18 {p : Program} {l : Launch} {e : Env} {s : State} {m : MethodId} {args : Array Value} {below : List Frame} {meth : Method} {c : Code} {L : cL} {I : MI} {F : MF} {G : MG} {post : Int32 → Prop} {K : Int32 → Int32 → Prop} {a1 : Int32} {a3 : Int32} (xc : xC p s m args meth c b_D_pointsWith 5 lwG qR3 (some .int)) (hP : va_P L.1 vwCl (WC L I F G) s.heap) (hK : va_K L.1 vwCl (cTys L) s) (hN : cNk s)
    (hk : ∀ (a2 : Int32) (a4 : Int32) (ls : Array Slot), K a2 a4 → lv_has ls 5 [(0, .ref (cA L 3)), (1, .int a1), (2, .int a2), (3, .int a3), (4, .int a4)] → W p l e rm_D_pointsWith s m args below meth c s.heap [] 0 0 (MQ below (vp_Si post) args s 0 0 (fun _ => False)) (F0 m 48 ls [])) :
    ∀ (n : Nat) (a2 : Int32) (a4 : Int32) (ls : Array Slot), wl_D_pointsWith_18 post K a1 a3 I F G n a2 a4 → lv_has ls 5 [(0, .ref (cA L 3)), (1, .int a1), (2, .int a2), (3, .int a3), (4, .int a4)] → W p l e rm_D_pointsWith s m args below meth c s.heap [] 0 0 (MQ below (vp_Si post) args s 0 0 (fun _ => False)) (F0 m 18 ls []) := by
  obtain ⟨hx, hb, hml, hown, hts, hr, hlocks⟩ := id xc
  intro n
  induction n with
  | zero => intro a2 a4 ls h; exact absurd h id
  | succ n ih =>
    intro a2 a4 ls h hl
    refine lv_iload hx hb d_D_pointsWith_18 (lv_at hl 4 rfl) ?_
    refine lv_bipush (v := 24) hx hb d_D_pointsWith_20 (by decide) ?_
    refine lv_icmp_ge (tgt := 48) hx hb d_D_pointsWith_22 (by decide) (fun c_3 => ?_) (fun c_3 => ?_)
    · replace h := h.1 c_3
      exact hk a2 a4 ls h (lv_sub hl [0, 1, 2, 3, 4] rfl)
    · replace h := h.2 c_3
      refine lv_aload_n hx hb d_D_pointsWith_25 rfl (lv_at hl 0 rfl) ?_
      refine va_get (D := L.1) (ci := 3) (v := .ref (cA L 7)) (C := qR3) (T := qT3) (N := 7) hx hb hts qi3 hown hK hP 3 rfl rfl 2 (by decide) (hts _ wG168) (fun _ h9 => h9) rfl d_D_pointsWith_26 ?_
      refine lv_iload_n hx hb d_D_pointsWith_29 rfl (lv_at hl 3 rfl) ?_
      obtain ⟨hi_4, h⟩ := h
      refine c_row7 hx hb hK hP hi_4 d_D_pointsWith_30 ?_
      refine lv_iload hx hb d_D_pointsWith_31 (lv_at hl 4 rfl) ?_
      obtain ⟨hi_5, h⟩ := h
      refine c_iald hx hb hK hP (19 + a3.toNatClampNeg) (row_lt19 hi_4) (row_len19 hi_4) hi_5 d_D_pointsWith_33 ?_
      refine lv_iload_n hx hb d_D_pointsWith_34 rfl (lv_at hl 1 rfl) ?_
      refine lv_iand hx hb d_D_pointsWith_35 ?_
      refine lv_if_eq (tgt := 42) hx hb d_D_pointsWith_36 (by decide) (fun c_6 => ?_) (fun c_6 => ?_)
      · replace h := h.1 c_6
        obtain ⟨x_7, ex_7⟩ : ∃ y : Int32, y = a4 + 1 := ⟨_, rfl⟩
        replace h := h x_7 ex_7
        refine lv_iinc (v := x_7) (lv' := [(4, .int x_7), (0, .ref (cA L 3)), (1, .int a1), (2, .int a2), (3, .int a3)]) hx hb d_D_pointsWith_42 hl (k := 4) rfl (by rw [ex_7]; rfl) (by decide) rfl (fun ls hl => ?_)
        refine lv_goto (tgt := 18) hx hb d_D_pointsWith_45 (by decide) ?_
        exact ih a2 x_7 ls h (lv_sub hl [1, 2, 3, 4, 0] rfl)
      · replace h := h.2 c_6
        obtain ⟨x_8, ex_8⟩ : ∃ y : Int32, y = a2 + 1 := ⟨_, rfl⟩
        replace h := h x_8 ex_8
        refine lv_iinc (v := x_8) (lv' := [(2, .int x_8), (0, .ref (cA L 3)), (1, .int a1), (3, .int a3), (4, .int a4)]) hx hb d_D_pointsWith_39 hl (k := 2) rfl (by rw [ex_8]; rfl) (by decide) rfl (fun ls hl => ?_)
        obtain ⟨x_9, ex_9⟩ : ∃ y : Int32, y = a4 + 1 := ⟨_, rfl⟩
        replace h := h x_9 ex_9
        refine lv_iinc (v := x_9) (lv' := [(4, .int x_9), (2, .int x_8), (0, .ref (cA L 3)), (1, .int a1), (3, .int a3)]) hx hb d_D_pointsWith_42 hl (k := 4) rfl (by rw [ex_9]; rfl) (by decide) rfl (fun ls hl => ?_)
        refine lv_goto (tgt := 18) hx hb d_D_pointsWith_45 (by decide) ?_
        exact ih x_8 x_9 ls h (lv_sub hl [2, 3, 1, 4, 0] rfl)
set_option maxHeartbeats 4000000 in
set_option maxRecDepth 100000 in
theorem Wl_D_pointsWith_4 {p : Program} {l : Launch} {e : Env} {s : State} {m : MethodId} {args : Array Value} {below : List Frame} {meth : Method} {c : Code} {L : cL} {I : MI} {F : MF} {G : MG} {post : Int32 → Prop} {K : Int32 → Int32 → Prop} {a1 : Int32} (xc : xC p s m args meth c b_D_pointsWith 5 lwG qR3 (some .int)) (hP : va_P L.1 vwCl (WC L I F G) s.heap) (hK : va_K L.1 vwCl (cTys L) s) (hN : cNk s)
    (hk : ∀ (a2 : Int32) (a3 : Int32) (ls : Array Slot), K a2 a3 → lv_has ls 5 [(0, .ref (cA L 3)), (1, .int a1), (2, .int a2), (3, .int a3)] → W p l e rm_D_pointsWith s m args below meth c s.heap [] 0 0 (MQ below (vp_Si post) args s 0 0 (fun _ => False)) (F0 m 54 ls [])) :
    ∀ (n : Nat) (a2 : Int32) (a3 : Int32) (ls : Array Slot), wl_D_pointsWith_4 post K a1 I F G n a2 a3 → lv_has ls 5 [(0, .ref (cA L 3)), (1, .int a1), (2, .int a2), (3, .int a3)] → W p l e rm_D_pointsWith s m args below meth c s.heap [] 0 0 (MQ below (vp_Si post) args s 0 0 (fun _ => False)) (F0 m 4 ls []) := by
  obtain ⟨hx, hb, hml, hown, hts, hr, hlocks⟩ := id xc
  intro n
  induction n with
  | zero => intro a2 a3 ls h; exact absurd h id
  | succ n ih =>
    intro a2 a3 ls h hl
    refine lv_iload_n hx hb d_D_pointsWith_4 rfl (lv_at hl 3 rfl) ?_
    refine lv_aload_n hx hb d_D_pointsWith_5 rfl (lv_at hl 0 rfl) ?_
    refine va_get (D := L.1) (ci := 3) (v := .ref (cA L 2)) (C := qR3) (T := qT3) (N := 7) hx hb hts qi3 hown hK hP 3 rfl rfl 1 (by decide) (hts _ wG167) (fun _ h9 => h9) rfl d_D_pointsWith_6 ?_
    refine vp_callSi (va_runV (As := []) (rest := [.int a3]) ⟨hx, hb, hml, hown, hts⟩ (c_C_lines l L I F G _ h) (cwV 0 hts (gV wG550 wG527 wG528 wG51 wG529) rfl rfl rfl (by decide +kernel) ⟨Nat.le_of_ble_eq_true rfl, Nat.le_of_ble_eq_true rfl⟩) (cPre2 hK hN hP) rfl rfl hl.1 rfl (lv_room (Nat.le_of_ble_eq_true rfl)) d_D_pointsWith_9 ⟨Nat.le_of_ble_eq_true rfl, Nat.le_of_ble_eq_true rfl⟩).run (fun r_1 h => ?_)
    refine lv_icmp_ge (tgt := 54) hx hb d_D_pointsWith_12 (by decide) (fun c_2 => ?_) (fun c_2 => ?_)
    · replace h := h.1 c_2
      exact hk a2 a3 ls h (lv_sub hl [0, 1, 2, 3] rfl)
    · replace h := h.2 c_2
      refine lv_iconst (v := 0) hx hb d_D_pointsWith_15 (by decide) ?_
      refine lv_istore (lv' := [(4, .int 0), (0, .ref (cA L 3)), (1, .int a1), (2, .int a2), (3, .int a3)]) hx hb d_D_pointsWith_16 hl (by decide) rfl (fun ls hl => ?_)
      obtain ⟨n_13, h⟩ := h
      refine Wl_D_pointsWith_18 xc hP hK hN (hk := fun x_10 x_11 ls h hl => ?_) n_13 a2 0 ls h (lv_sub hl [1, 2, 3, 4, 0] rfl)
      obtain ⟨x_12, ex_12⟩ : ∃ y : Int32, y = a3 + 1 := ⟨_, rfl⟩
      replace h := h x_12 ex_12
      refine lv_iinc (v := x_12) (lv' := [(3, .int x_12), (0, .ref (cA L 3)), (1, .int a1), (2, .int x_10), (4, .int x_11)]) hx hb d_D_pointsWith_48 hl (k := 3) rfl (by rw [ex_12]; rfl) (by decide) rfl (fun ls hl => ?_)
      refine lv_goto (tgt := 4) hx hb d_D_pointsWith_51 (by decide) ?_
      exact ih x_10 x_12 ls h (lv_sub hl [1, 2, 3, 0] rfl)
set_option maxHeartbeats 4000000 in
set_option maxRecDepth 100000 in
theorem c_D_pointsWith (l : Launch) (L : cL) (a1 : Int32) (I : MI) (F : MF) (G : MG) (post : Int32 → Prop) (h : wp_D_pointsWith a1 I F G post) : Met l y_D_pointsWith (.code y_D_pointsWith b_D_pointsWith 5 (some .int) :: lwG) rm_D_pointsWith (cPc L I F G [.ref (cA L 3), .int a1]) (vp_Si post) 0 0 (fun _ => False) := by
  refine Met.ofW (cc := b_D_pointsWith) (maxL := 5) (ret := (some .int)) (by decide) rfl ?_
  intro p e s m args below meth c s₁ B hml hv
  obtain ⟨rfl, hP, hK, hN⟩ := hv
  have xc : xC p s m _ meth c b_D_pointsWith 5 lwG qR3 (some .int) := ⟨B.exec, B.bytes, hml, findClass_of_methodNamed B.named, fun w h => atoms_spec (ws := (.code y_D_pointsWith b_D_pointsWith 5 (some .int) :: lwG)) B.pre w (List.mem_cons_of_mem _ h), B.returns, B.notSynchronized⟩
  obtain ⟨hx, hb, hml, hown, hts, hr, hlocks⟩ := id xc
  have hl := lv_entry ([.ref (cA L 3), .int a1]) (n := 5) (Nat.le_of_ble_eq_true rfl)
  rw [lg_entry_eq]
  generalize (lg_sl ([.ref (cA L 3), .int a1]) ++ List.replicate (5 - (lg_sl ([.ref (cA L 3), .int a1])).length) Slot.unset).toArray = ls at hl ⊢
  have hl : lv_has ls 5 [(0, .ref (cA L 3)), (1, .int a1)] := hl
  refine lv_iconst (v := 0) hx hb d_D_pointsWith_0 (by decide) ?_
  refine lv_istore_n (lv' := [(2, .int 0), (0, .ref (cA L 3)), (1, .int a1)]) hx hb d_D_pointsWith_1 rfl hl (by decide) rfl (fun ls hl => ?_)
  refine lv_iconst (v := 0) hx hb d_D_pointsWith_2 (by decide) ?_
  refine lv_istore_n (lv' := [(3, .int 0), (2, .int 0), (0, .ref (cA L 3)), (1, .int a1)]) hx hb d_D_pointsWith_3 rfl hl (by decide) rfl (fun ls hl => ?_)
  obtain ⟨n_16, h⟩ := h
  refine Wl_D_pointsWith_4 xc hP hK hN (hk := fun x_14 x_15 ls h hl => ?_) n_16 0 0 ls h (lv_sub hl [2, 3, 1, 0] rfl)
  refine lv_iload_n hx hb d_D_pointsWith_54 rfl (lv_at hl 2 rfl) ?_
  exact W.iret hx hb hr (fun t ht _ => ⟨_, rfl, h, ht⟩) (fun _ h9 => nomatch h9) d_D_pointsWith_55
abbrev rm_F_count : Room := { frames := 6, cells := 1, slots := 6, locals := 96 }
set_option maxHeartbeats 4000000 in
set_option maxRecDepth 100000 in
theorem c_F_count (l : Launch) (L : cL) (hst : l.stackTraces = false) (a1 : Int32) (I : MI) (F : MF) (G : MG) (sz : Nat) (post : Int32 → MI → MF → MG → Prop) (thr : String → MI → MF → MG → Prop) (h : wp_F_count a1 I F G post thr) : tx_Met l y_F_count (.code y_F_count b_F_count 2 (some .int) :: lwG) rm_F_count (cPx L I F G sz [.ref (cA L 0), .int a1]) (cRi L (cAA L I F G sz) post (cAA L I F G sz)) (cX L (cAA L I F G sz) thr (cAA L I F G sz)) 1 6 (cAA L I F G sz) := by
  refine tx_ofW (cc := b_F_count) (maxL := 2) (ret := (some .int)) (by decide) rfl ?_
  intro p e s m args below meth c s₁ B hml hnt hv
  obtain ⟨rfl, hsz, hP, hK, hD0, hN, hz, hsr⟩ := hv
  have xc : xC p s m _ meth c b_F_count 2 lwG qR0 (some .int) := ⟨B.exec, B.bytes, hml, findClass_of_methodNamed B.named, fun w h => atoms_spec (ws := (.code y_F_count b_F_count 2 (some .int) :: lwG)) B.pre w (List.mem_cons_of_mem _ h), B.returns, B.notSynchronized⟩
  obtain ⟨hx, hb, hml, hown, hts, hr, hlocks⟩ := id xc
  subst hsz
  have hD : va_D (cAA L I F G s.heap.size) (WC L I F G) := hD0.self
  have hA0 : ∀ q : Nat, s.heap.size ≤ q → cAA L I F G s.heap.size q := fun q h => Or.inr h
  generalize cAA L I F G s.heap.size = A at hD hA0 hz ⊢
  have hA := hA0
  have hw : CW L A s.heap I F G s.heap [] := ⟨hP, hD, va_S.rf⟩
  have hl := lv_entry ([.ref (cA L 0), .int a1]) (n := 2) (Nat.le_of_ble_eq_true rfl)
  rw [lg_entry_eq]
  generalize (lg_sl ([.ref (cA L 0), .int a1]) ++ List.replicate (2 - (lg_sl ([.ref (cA L 0), .int a1])).length) Slot.unset).toArray = ls at hl ⊢
  have hl : lv_has ls 2 [(0, .ref (cA L 0)), (1, .int a1)] := hl
  refine lv_iload_n hx hb d_F_count_0 rfl (lv_at hl 1 rfl) ?_
  by_cases c0 : a1 = 0
  · replace h := h.1 c0
    refine lv_tableIn (tgt := 40) hx hb d_F_count_1 (by rw [c0]; decide) (by rw [c0]; decide) (by rw [c0]; rfl) (by decide) ?_
    refine lv_aload_n hx hb d_F_count_40 rfl (lv_at hl 0 rfl) ?_
    refine va_get (D := L.1) (ci := 0) (v := .ref (cA L 1)) (C := qR0) (T := qT0) (N := 5) hx hb hts qi0 hown hK hw.1 0 rfl rfl 0 (by decide) (hts _ wG219) (fun _ h9 => h9) rfl d_F_count_41 ?_
    refine va_get (D := L.1) (ci := 1) (v := .int (I 1)) (C := qR1) (T := qT1) (N := 13) hx hb hts qi1 hown hK hw.1 1 rfl rfl 0 (by decide) (hts _ wG90) (fun _ h9 => h9) rfl d_F_count_44 ?_
    refine W.widen (k := 1) (n := 6) (Nat.le_of_ble_eq_true rfl) (Nat.le_of_ble_eq_true rfl) ?_
    refine tx_ret ?_
    exact W.iret hx hb hr (fun t ht hW => ⟨⟨_, (I, F, G), rfl, ⟨_, rfl, h⟩, by rw [ht]; exact hw.1, va_K.moved hW.alike hK, hw.2.1⟩, hw.2.2.F ht⟩) hw.2.2.2.2 d_F_count_47
  · replace h := h.2 c0
    by_cases c1 : a1 = 1
    · replace h := h.1 c1
      refine lv_tableIn (tgt := 48) hx hb d_F_count_1 (by rw [c1]; decide) (by rw [c1]; decide) (by rw [c1]; rfl) (by decide) ?_
      refine lv_aload_n hx hb d_F_count_48 rfl (lv_at hl 0 rfl) ?_
      refine va_get (D := L.1) (ci := 0) (v := .ref (cA L 1)) (C := qR0) (T := qT0) (N := 5) hx hb hts qi0 hown hK hw.1 0 rfl rfl 0 (by decide) (hts _ wG219) (fun _ h9 => h9) rfl d_F_count_49 ?_
      refine vp_callSi (va_runV (As := []) (rest := []) ⟨hx, hb, hml, hown, hts⟩ (c_N_wiredNets l L I F G _ h) (cwV 0 hts (gV wG720 wG382 wG383 wG49 wG384) rfl rfl rfl (by decide +kernel) ⟨Nat.le_of_ble_eq_true rfl, Nat.le_of_ble_eq_true rfl⟩) (cPre1 hK hN hw.1) rfl rfl hl.1 rfl (lv_room (Nat.le_of_ble_eq_true rfl)) d_F_count_52 ⟨Nat.le_of_ble_eq_true rfl, Nat.le_of_ble_eq_true rfl⟩).run (fun r_1 h => ?_)
      refine W.widen (k := 1) (n := 6) (Nat.le_of_ble_eq_true rfl) (Nat.le_of_ble_eq_true rfl) ?_
      refine tx_ret ?_
      exact W.iret hx hb hr (fun t ht hW => ⟨⟨_, (I, F, G), rfl, ⟨_, rfl, h⟩, by rw [ht]; exact hw.1, va_K.moved hW.alike hK, hw.2.1⟩, hw.2.2.F ht⟩) hw.2.2.2.2 d_F_count_55
    · replace h := h.2 c1
      by_cases c2 : a1 = 2
      · replace h := h.1 c2
        refine lv_tableIn (tgt := 56) hx hb d_F_count_1 (by rw [c2]; decide) (by rw [c2]; decide) (by rw [c2]; rfl) (by decide) ?_
        refine lv_aload_n hx hb d_F_count_56 rfl (lv_at hl 0 rfl) ?_
        refine va_get (D := L.1) (ci := 0) (v := .int (I 0)) (C := qR0) (T := qT0) (N := 5) hx hb hts qi0 hown hK hw.1 0 rfl rfl 4 (by decide) (hts _ wG223) (fun _ h9 => h9) rfl d_F_count_57 ?_
        refine lv_if_eq (tgt := 73) hx hb d_F_count_60 (by decide) (fun c_2 => ?_) (fun c_2 => ?_)
        · replace h := h.1 c_2
          refine lv_iconst (v := 0) hx hb d_F_count_73 (by decide) ?_
          refine W.widen (k := 1) (n := 6) (Nat.le_of_ble_eq_true rfl) (Nat.le_of_ble_eq_true rfl) ?_
          refine tx_ret ?_
          exact W.iret hx hb hr (fun t ht hW => ⟨⟨_, (I, F, G), rfl, ⟨_, rfl, h⟩, by rw [ht]; exact hw.1, va_K.moved hW.alike hK, hw.2.1⟩, hw.2.2.F ht⟩) hw.2.2.2.2 d_F_count_74
        · replace h := h.2 c_2
          refine lv_aload_n hx hb d_F_count_63 rfl (lv_at hl 0 rfl) ?_
          refine va_get (D := L.1) (ci := 0) (v := .ref (cA L 2)) (C := qR0) (T := qT0) (N := 5) hx hb hts qi0 hown hK hw.1 0 rfl rfl 1 (by decide) (hts _ wG220) (fun _ h9 => h9) rfl d_F_count_64 ?_
          refine va_get (D := L.1) (ci := 2) (v := .int (I 2)) (C := qR2) (T := qT2) (N := 3) hx hb hts qi2 hown hK hw.1 2 rfl rfl 1 (by decide) (hts _ wG147) (fun _ h9 => h9) rfl d_F_count_67 ?_
          refine lv_goto (tgt := 74) hx hb d_F_count_70 (by decide) ?_
          refine W.widen (k := 1) (n := 6) (Nat.le_of_ble_eq_true rfl) (Nat.le_of_ble_eq_true rfl) ?_
          refine tx_ret ?_
          exact W.iret hx hb hr (fun t ht hW => ⟨⟨_, (I, F, G), rfl, ⟨_, rfl, h⟩, by rw [ht]; exact hw.1, va_K.moved hW.alike hK, hw.2.1⟩, hw.2.2.F ht⟩) hw.2.2.2.2 d_F_count_74
      · replace h := h.2 c2
        by_cases c3 : a1 = 3
        · replace h := h.1 c3
          refine lv_tableIn (tgt := 75) hx hb d_F_count_1 (by rw [c3]; decide) (by rw [c3]; decide) (by rw [c3]; rfl) (by decide) ?_
          refine lv_aload_n hx hb d_F_count_75 rfl (lv_at hl 0 rfl) ?_
          refine va_get (D := L.1) (ci := 0) (v := .int (I 0)) (C := qR0) (T := qT0) (N := 5) hx hb hts qi0 hown hK hw.1 0 rfl rfl 4 (by decide) (hts _ wG223) (fun _ h9 => h9) rfl d_F_count_76 ?_
          refine lv_if_eq (tgt := 93) hx hb d_F_count_79 (by decide) (fun c_3 => ?_) (fun c_3 => ?_)
          · replace h := h.1 c_3
            refine lv_iconst (v := 0) hx hb d_F_count_93 (by decide) ?_
            refine W.widen (k := 1) (n := 6) (Nat.le_of_ble_eq_true rfl) (Nat.le_of_ble_eq_true rfl) ?_
            refine tx_ret ?_
            exact W.iret hx hb hr (fun t ht hW => ⟨⟨_, (I, F, G), rfl, ⟨_, rfl, h⟩, by rw [ht]; exact hw.1, va_K.moved hW.alike hK, hw.2.1⟩, hw.2.2.F ht⟩) hw.2.2.2.2 d_F_count_94
          · replace h := h.2 c_3
            refine lv_aload_n hx hb d_F_count_82 rfl (lv_at hl 0 rfl) ?_
            refine va_get (D := L.1) (ci := 0) (v := .ref (cA L 3)) (C := qR0) (T := qT0) (N := 5) hx hb hts qi0 hown hK hw.1 0 rfl rfl 2 (by decide) (hts _ wG221) (fun _ h9 => h9) rfl d_F_count_83 ?_
            refine lv_iconst (v := 1) hx hb d_F_count_86 (by decide) ?_
            refine vp_callSi (va_runV (As := [.int 1]) (rest := []) ⟨hx, hb, hml, hown, hts⟩ (c_D_pointsWith l L 1 I F G _ h) (cwV 1 hts (gV wG721 wG722 wG723 wG52 wG724) rfl rfl rfl (by decide +kernel) ⟨Nat.le_of_ble_eq_true rfl, Nat.le_of_ble_eq_true rfl⟩) (cPre3 hK hN hw.1) rfl rfl hl.1 rfl (lv_room (Nat.le_of_ble_eq_true rfl)) d_F_count_87 ⟨Nat.le_of_ble_eq_true rfl, Nat.le_of_ble_eq_true rfl⟩).run (fun r_4 h => ?_)
            refine lv_goto (tgt := 94) hx hb d_F_count_90 (by decide) ?_
            refine W.widen (k := 1) (n := 6) (Nat.le_of_ble_eq_true rfl) (Nat.le_of_ble_eq_true rfl) ?_
            refine tx_ret ?_
            exact W.iret hx hb hr (fun t ht hW => ⟨⟨_, (I, F, G), rfl, ⟨_, rfl, h⟩, by rw [ht]; exact hw.1, va_K.moved hW.alike hK, hw.2.1⟩, hw.2.2.F ht⟩) hw.2.2.2.2 d_F_count_94
        · replace h := h.2 c3
          by_cases c4 : a1 = 4
          · replace h := h.1 c4
            refine lv_tableIn (tgt := 95) hx hb d_F_count_1 (by rw [c4]; decide) (by rw [c4]; decide) (by rw [c4]; rfl) (by decide) ?_
            refine lv_aload_n hx hb d_F_count_95 rfl (lv_at hl 0 rfl) ?_
            refine va_get (D := L.1) (ci := 0) (v := .int (I 0)) (C := qR0) (T := qT0) (N := 5) hx hb hts qi0 hown hK hw.1 0 rfl rfl 4 (by decide) (hts _ wG223) (fun _ h9 => h9) rfl d_F_count_96 ?_
            refine lv_if_eq (tgt := 113) hx hb d_F_count_99 (by decide) (fun c_5 => ?_) (fun c_5 => ?_)
            · replace h := h.1 c_5
              refine lv_iconst (v := 0) hx hb d_F_count_113 (by decide) ?_
              refine W.widen (k := 1) (n := 6) (Nat.le_of_ble_eq_true rfl) (Nat.le_of_ble_eq_true rfl) ?_
              refine tx_ret ?_
              exact W.iret hx hb hr (fun t ht hW => ⟨⟨_, (I, F, G), rfl, ⟨_, rfl, h⟩, by rw [ht]; exact hw.1, va_K.moved hW.alike hK, hw.2.1⟩, hw.2.2.F ht⟩) hw.2.2.2.2 d_F_count_114
            · replace h := h.2 c_5
              refine lv_aload_n hx hb d_F_count_102 rfl (lv_at hl 0 rfl) ?_
              refine va_get (D := L.1) (ci := 0) (v := .ref (cA L 3)) (C := qR0) (T := qT0) (N := 5) hx hb hts qi0 hown hK hw.1 0 rfl rfl 2 (by decide) (hts _ wG221) (fun _ h9 => h9) rfl d_F_count_103 ?_
              refine lv_iconst (v := 2) hx hb d_F_count_106 (by decide) ?_
              refine vp_callSi (va_runV (As := [.int 2]) (rest := []) ⟨hx, hb, hml, hown, hts⟩ (c_D_pointsWith l L 2 I F G _ h) (cwV 1 hts (gV wG721 wG722 wG723 wG52 wG724) rfl rfl rfl (by decide +kernel) ⟨Nat.le_of_ble_eq_true rfl, Nat.le_of_ble_eq_true rfl⟩) (cPre3 hK hN hw.1) rfl rfl hl.1 rfl (lv_room (Nat.le_of_ble_eq_true rfl)) d_F_count_107 ⟨Nat.le_of_ble_eq_true rfl, Nat.le_of_ble_eq_true rfl⟩).run (fun r_6 h => ?_)
              refine lv_goto (tgt := 114) hx hb d_F_count_110 (by decide) ?_
              refine W.widen (k := 1) (n := 6) (Nat.le_of_ble_eq_true rfl) (Nat.le_of_ble_eq_true rfl) ?_
              refine tx_ret ?_
              exact W.iret hx hb hr (fun t ht hW => ⟨⟨_, (I, F, G), rfl, ⟨_, rfl, h⟩, by rw [ht]; exact hw.1, va_K.moved hW.alike hK, hw.2.1⟩, hw.2.2.F ht⟩) hw.2.2.2.2 d_F_count_114
          · replace h := h.2 c4
            by_cases c5 : a1 = 5
            · replace h := h.1 c5
              refine lv_tableIn (tgt := 115) hx hb d_F_count_1 (by rw [c5]; decide) (by rw [c5]; decide) (by rw [c5]; rfl) (by decide) ?_
              refine lv_aload_n hx hb d_F_count_115 rfl (lv_at hl 0 rfl) ?_
              refine va_get (D := L.1) (ci := 0) (v := .int (I 0)) (C := qR0) (T := qT0) (N := 5) hx hb hts qi0 hown hK hw.1 0 rfl rfl 4 (by decide) (hts _ wG223) (fun _ h9 => h9) rfl d_F_count_116 ?_
              refine lv_if_eq (tgt := 133) hx hb d_F_count_119 (by decide) (fun c_7 => ?_) (fun c_7 => ?_)
              · replace h := h.1 c_7
                refine lv_iconst (v := 0) hx hb d_F_count_133 (by decide) ?_
                refine W.widen (k := 1) (n := 6) (Nat.le_of_ble_eq_true rfl) (Nat.le_of_ble_eq_true rfl) ?_
                refine tx_ret ?_
                exact W.iret hx hb hr (fun t ht hW => ⟨⟨_, (I, F, G), rfl, ⟨_, rfl, h⟩, by rw [ht]; exact hw.1, va_K.moved hW.alike hK, hw.2.1⟩, hw.2.2.F ht⟩) hw.2.2.2.2 d_F_count_134
              · replace h := h.2 c_7
                refine lv_aload_n hx hb d_F_count_122 rfl (lv_at hl 0 rfl) ?_
                refine va_get (D := L.1) (ci := 0) (v := .ref (cA L 3)) (C := qR0) (T := qT0) (N := 5) hx hb hts qi0 hown hK hw.1 0 rfl rfl 2 (by decide) (hts _ wG221) (fun _ h9 => h9) rfl d_F_count_123 ?_
                refine lv_iconst (v := 4) hx hb d_F_count_126 (by decide) ?_
                refine vp_callSi (va_runV (As := [.int 4]) (rest := []) ⟨hx, hb, hml, hown, hts⟩ (c_D_pointsWith l L 4 I F G _ h) (cwV 1 hts (gV wG721 wG722 wG723 wG52 wG724) rfl rfl rfl (by decide +kernel) ⟨Nat.le_of_ble_eq_true rfl, Nat.le_of_ble_eq_true rfl⟩) (cPre3 hK hN hw.1) rfl rfl hl.1 rfl (lv_room (Nat.le_of_ble_eq_true rfl)) d_F_count_127 ⟨Nat.le_of_ble_eq_true rfl, Nat.le_of_ble_eq_true rfl⟩).run (fun r_8 h => ?_)
                refine lv_goto (tgt := 134) hx hb d_F_count_130 (by decide) ?_
                refine W.widen (k := 1) (n := 6) (Nat.le_of_ble_eq_true rfl) (Nat.le_of_ble_eq_true rfl) ?_
                refine tx_ret ?_
                exact W.iret hx hb hr (fun t ht hW => ⟨⟨_, (I, F, G), rfl, ⟨_, rfl, h⟩, by rw [ht]; exact hw.1, va_K.moved hW.alike hK, hw.2.1⟩, hw.2.2.F ht⟩) hw.2.2.2.2 d_F_count_134
            · replace h := h.2 c5
              refine lv_tableOut (tgt := 135) hx hb d_F_count_1 (sw_out_0_5 c0 c1 c2 c3 c4 c5) (by decide) ?_
              obtain ⟨sa, hsa⟩ := hsr.1 (qR0, 199, "nothing that is counted has this number") (by decide +kernel)
              exact tx_throwS (Ts := lwH) hx hb hst hown (cHts hts hsr.2) hz hw.2.2 (by decide +kernel) (by decide +kernel) th_F_49_53 hsa (hl.1.trans hml.symm) d_F_count_135 d_F_count_138 d_F_count_139 d_F_count_141 d_F_count_144 hnt (Nat.le_of_ble_eq_true rfl) (Nat.le_of_ble_eq_true rfl) (Nat.le_of_ble_eq_true rfl) (Nat.le_of_ble_eq_true rfl) hlocks (cX_of hw hK h) hw.2.2.2.2 (Nat.le_of_ble_eq_true rfl) (Nat.le_of_ble_eq_true rfl)
