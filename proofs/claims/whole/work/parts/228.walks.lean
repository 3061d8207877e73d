abbrev rm_S_bit : Room := { frames := 0, cells := 0, slots := 0, locals := 0 }
set_option maxHeartbeats 4000000 in
set_option maxRecDepth 100000 in
theorem c_S_bit (l : Launch) (a0 : Int32) (a1 : Int32) (post : Int32 → Prop) (h : wp_S_bit a0 a1 post) : Met l y_S_bit (.code y_S_bit b_S_bit 2 (some .int) :: lwG) rm_S_bit (sPc [.int a0, .int a1]) (vp_Si post) 0 0 (fun _ => False) := by
  refine Met.ofW (cc := b_S_bit) (maxL := 2) (ret := (some .int)) (by decide) rfl ?_
  intro p e s m args below meth c s₁ B hml hv
  obtain ⟨rfl, -⟩ := hv
  have xc : xC p s m _ meth c b_S_bit 2 lwG qR4 (some .int) := ⟨B.exec, B.bytes, hml, findClass_of_methodNamed B.named, fun w h => atoms_spec (ws := (.code y_S_bit b_S_bit 2 (some .int) :: lwG)) B.pre w (List.mem_cons_of_mem _ h), B.returns, B.notSynchronized⟩
  obtain ⟨hx, hb, hml, hown, hts, hr, hlocks⟩ := id xc
  have hl := lv_entry ([.int a0, .int a1]) (n := 2) (Nat.le_of_ble_eq_true rfl)
  rw [lg_entry_eq]
  generalize (lg_sl ([.int a0, .int a1]) ++ List.replicate (2 - (lg_sl ([.int a0, .int a1])).length) Slot.unset).toArray = ls at hl ⊢
  have hl : lv_has ls 2 [(0, .int a0), (1, .int a1)] := hl
  refine lv_iload_n hx hb d_S_bit_0 rfl (lv_at hl 0 rfl) ?_
  refine lv_iload_n hx hb d_S_bit_1 rfl (lv_at hl 1 rfl) ?_
  refine lv_ishr hx hb d_S_bit_2 ?_
  refine lv_iconst (v := 1) hx hb d_S_bit_3 (by decide) ?_
  refine lv_iand hx hb d_S_bit_4 ?_
  exact W.iret hx hb hr (fun t ht _ => ⟨_, rfl, h, ht⟩) (fun _ h9 => nomatch h9) d_S_bit_5
abbrev rm_S_isSettled : Room := { frames := 1, cells := 0, slots := 0, locals := 21 }
set_option maxHeartbeats 4000000 in
set_option maxRecDepth 100000 in
theorem c_S_isSettled (l : Launch) (L : cL) (a1 : Int32) (I : MI) (F : MF) (G : MG) (post : Int32 → Prop) (h : wp_S_isSettled a1 I F G post) : Met l y_S_isSettled (.code y_S_isSettled b_S_isSettled 2 (some .boolean) :: lwG) rm_S_isSettled (cPc L I F G [.ref (cA L 4), .int a1]) (vp_Si post) 0 0 (fun _ => False) := by
  refine Met.ofW (cc := b_S_isSettled) (maxL := 2) (ret := (some .boolean)) (by decide) rfl ?_
  intro p e s m args below meth c s₁ B hml hv
  obtain ⟨rfl, hP, hK, hN⟩ := hv
  have xc : xC p s m _ meth c b_S_isSettled 2 lwG qR4 (some .boolean) := ⟨B.exec, B.bytes, hml, findClass_of_methodNamed B.named, fun w h => atoms_spec (ws := (.code y_S_isSettled b_S_isSettled 2 (some .boolean) :: lwG)) B.pre w (List.mem_cons_of_mem _ h), B.returns, B.notSynchronized⟩
  obtain ⟨hx, hb, hml, hown, hts, hr, hlocks⟩ := id xc
  have hl := lv_entry ([.ref (cA L 4), .int a1]) (n := 2) (Nat.le_of_ble_eq_true rfl)
  rw [lg_entry_eq]
  generalize (lg_sl ([.ref (cA L 4), .int a1]) ++ List.replicate (2 - (lg_sl ([.ref (cA L 4), .int a1])).length) Slot.unset).toArray = ls at hl ⊢
  have hl : lv_has ls 2 [(0, .ref (cA L 4)), (1, .int a1)] := hl
  refine lv_aload_n hx hb d_S_isSettled_0 rfl (lv_at hl 0 rfl) ?_
  refine va_get (D := L.1) (ci := 4) (v := .int (I 5)) (C := qR4) (T := qT4) (N := 7) hx hb hts qi4 hown hK hP 4 rfl rfl 6 (by decide) (hts _ wG202) (fun _ h9 => h9) rfl d_S_isSettled_1 ?_
  refine lv_iload_n hx hb d_S_isSettled_4 rfl (lv_at hl 1 rfl) ?_
  refine vp_callSi (va_runS (As := [.int (I 5), .int a1]) (rest := []) ⟨hx, hb, hml, hown, hts⟩ (c_S_bit l (I 5) a1 _ h) (va_cwS 2 hts (gS wG665 wG666 wG53 wG667) rfl rfl rfl (by decide +kernel) ⟨Nat.le_of_ble_eq_true rfl, Nat.le_of_ble_eq_true rfl⟩) ⟨sPc_blind _, fun U hU hW => ⟨rfl, trivial⟩⟩ rfl rfl hl.1 rfl (lv_room (Nat.le_of_ble_eq_true rfl)) d_S_isSettled_5 ⟨Nat.le_of_ble_eq_true rfl, Nat.le_of_ble_eq_true rfl⟩).run (fun r_1 h => ?_)
  refine lv_iconst (v := 1) hx hb d_S_isSettled_8 (by decide) ?_
  refine lv_icmp_ne (tgt := 16) hx hb d_S_isSettled_9 (by decide) (fun c_2 => ?_) (fun c_2 => ?_)
  · replace h := h.1 c_2
    refine lv_iconst (v := 0) hx hb d_S_isSettled_16 (by decide) ?_
    exact W.zret hx hb hr rfl (fun t ht _ => ⟨_, rfl, h, ht⟩) (fun _ h9 => nomatch h9) d_S_isSettled_17
  · replace h := h.2 c_2
    refine lv_iconst (v := 1) hx hb d_S_isSettled_12 (by decide) ?_
    refine lv_goto (tgt := 17) hx hb d_S_isSettled_13 (by decide) ?_
    exact W.zret hx hb hr rfl (fun t ht _ => ⟨_, rfl, h, ht⟩) (fun _ h9 => nomatch h9) d_S_isSettled_17
abbrev rm_S_isReady : Room := { frames := 2, cells := 0, slots := 0, locals := 42 }
set_option maxHeartbeats 4000000 in
set_option maxRecDepth 100000 in
theorem c_S_isReady (l : Launch) (L : cL) (a1 : Int32) (I : MI) (F : MF) (G : MG) (post : Int32 → Prop) (h : wp_S_isReady a1 I F G post) : Met l y_S_isReady (.code y_S_isReady b_S_isReady 2 (some .boolean) :: lwG) rm_S_isReady (cPc L I F G [.ref (cA L 4), .int a1]) (vp_Si post) 0 0 (fun _ => False) := by
  refine Met.ofW (cc := b_S_isReady) (maxL := 2) (ret := (some .boolean)) (by decide) rfl ?_
  intro p e s m args below meth c s₁ B hml hv
  obtain ⟨rfl, hP, hK, hN⟩ := hv
  have xc : xC p s m _ meth c b_S_isReady 2 lwG qR4 (some .boolean) := ⟨B.exec, B.bytes, hml, findClass_of_methodNamed B.named, fun w h => atoms_spec (ws := (.code y_S_isReady b_S_isReady 2 (some .boolean) :: lwG)) B.pre w (List.mem_cons_of_mem _ h), B.returns, B.notSynchronized⟩
  obtain ⟨hx, hb, hml, hown, hts, hr, hlocks⟩ := id xc
  have hl := lv_entry ([.ref (cA L 4), .int a1]) (n := 2) (Nat.le_of_ble_eq_true rfl)
  rw [lg_entry_eq]
  generalize (lg_sl ([.ref (cA L 4), .int a1]) ++ List.replicate (2 - (lg_sl ([.ref (cA L 4), .int a1])).length) Slot.unset).toArray = ls at hl ⊢
  have hl : lv_has ls 2 [(0, .ref (cA L 4)), (1, .int a1)] := hl
  refine lv_aload_n hx hb d_S_isReady_0 rfl (lv_at hl 0 rfl) ?_
  refine lv_aload_n hx hb d_S_isReady_1 rfl (lv_at hl 0 rfl) ?_
  refine va_get (D := L.1) (ci := 4) (v := .ref (cA L 1)) (C := qR4) (T := qT4) (N := 7) hx hb hts qi4 hown hK hP 4 rfl rfl 0 (by decide) (hts _ wG195) (fun _ h9 => h9) rfl d_S_isReady_2 ?_
  refine va_get (D := L.1) (ci := 1) (v := .ref (cA L 13)) (C := qR1) (T := qT1) (N := 13) hx hb hts qi1 hown hK hP 1 rfl rfl 4 (by decide) (hts _ wG98) (fun _ h9 => h9) rfl d_S_isReady_5 ?_
  refine lv_iload_n hx hb d_S_isReady_8 rfl (lv_at hl 1 rfl) ?_
  obtain ⟨hi_1, h⟩ := h
  refine c_iald hx hb hK hP 3 (by decide) rfl hi_1 d_S_isReady_9 ?_
  refine vp_callSi (va_runV (As := [.int (F 3 a1.toNatClampNeg)]) (rest := []) ⟨hx, hb, hml, hown, hts⟩ (c_S_isSettled l L (F 3 a1.toNatClampNeg) I F G _ h) (cwV 1 hts (gV wG661 wG662 wG663 wG53 wG664) rfl rfl rfl (by decide +kernel) ⟨Nat.le_of_ble_eq_true rfl, Nat.le_of_ble_eq_true rfl⟩) (cPre4 hK hN hP) rfl rfl hl.1 rfl (lv_room (Nat.le_of_ble_eq_true rfl)) d_S_isReady_10 ⟨Nat.le_of_ble_eq_true rfl, Nat.le_of_ble_eq_true rfl⟩).run (fun r_2 h => ?_)
  refine lv_if_ne (tgt := 52) hx hb d_S_isReady_13 (by decide) (fun c_3 => ?_) (fun c_3 => ?_)
  · replace h := h.1 c_3
    refine lv_iconst (v := 0) hx hb d_S_isReady_52 (by decide) ?_
    exact W.zret hx hb hr rfl (fun t ht _ => ⟨_, rfl, h, ht⟩) (fun _ h9 => nomatch h9) d_S_isReady_53
  · replace h := h.2 c_3
    refine lv_aload_n hx hb d_S_isReady_16 rfl (lv_at hl 0 rfl) ?_
    refine lv_aload_n hx hb d_S_isReady_17 rfl (lv_at hl 0 rfl) ?_
    refine va_get (D := L.1) (ci := 4) (v := .ref (cA L 1)) (C := qR4) (T := qT4) (N := 7) hx hb hts qi4 hown hK hP 4 rfl rfl 0 (by decide) (hts _ wG195) (fun _ h9 => h9) rfl d_S_isReady_18 ?_
    refine va_get (D := L.1) (ci := 1) (v := .ref (cA L 11)) (C := qR1) (T := qT1) (N := 13) hx hb hts qi1 hown hK hP 1 rfl rfl 2 (by decide) (hts _ wG94) (fun _ h9 => h9) rfl d_S_isReady_21 ?_
    refine lv_iload_n hx hb d_S_isReady_24 rfl (lv_at hl 1 rfl) ?_
    obtain ⟨hi_4, h⟩ := h
    refine c_iald hx hb hK hP 1 (by decide) rfl hi_4 d_S_isReady_25 ?_
    refine vp_callSi (va_runV (As := [.int (F 1 a1.toNatClampNeg)]) (rest := []) ⟨hx, hb, hml, hown, hts⟩ (c_S_isSettled l L (F 1 a1.toNatClampNeg) I F G _ h) (cwV 1 hts (gV wG661 wG662 wG663 wG53 wG664) rfl rfl rfl (by decide +kernel) ⟨Nat.le_of_ble_eq_true rfl, Nat.le_of_ble_eq_true rfl⟩) (cPre4 hK hN hP) rfl rfl hl.1 rfl (lv_room (Nat.le_of_ble_eq_true rfl)) d_S_isReady_26 ⟨Nat.le_of_ble_eq_true rfl, Nat.le_of_ble_eq_true rfl⟩).run (fun r_5 h => ?_)
    refine lv_if_eq (tgt := 52) hx hb d_S_isReady_29 (by decide) (fun c_6 => ?_) (fun c_6 => ?_)
    · replace h := h.1 c_6
      refine lv_iconst (v := 0) hx hb d_S_isReady_52 (by decide) ?_
      exact W.zret hx hb hr rfl (fun t ht _ => ⟨_, rfl, h, ht⟩) (fun _ h9 => nomatch h9) d_S_isReady_53
    · replace h := h.2 c_6
      refine lv_aload_n hx hb d_S_isReady_32 rfl (lv_at hl 0 rfl) ?_
      refine lv_aload_n hx hb d_S_isReady_33 rfl (lv_at hl 0 rfl) ?_
      refine va_get (D := L.1) (ci := 4) (v := .ref (cA L 1)) (C := qR4) (T := qT4) (N := 7) hx hb hts qi4 hown hK hP 4 rfl rfl 0 (by decide) (hts _ wG195) (fun _ h9 => h9) rfl d_S_isReady_34 ?_
      refine va_get (D := L.1) (ci := 1) (v := .ref (cA L 12)) (C := qR1) (T := qT1) (N := 13) hx hb hts qi1 hown hK hP 1 rfl rfl 3 (by decide) (hts _ wG96) (fun _ h9 => h9) rfl d_S_isReady_37 ?_
      refine lv_iload_n hx hb d_S_isReady_40 rfl (lv_at hl 1 rfl) ?_
      obtain ⟨hi_7, h⟩ := h
      refine c_iald hx hb hK hP 2 (by decide) rfl hi_7 d_S_isReady_41 ?_
      refine vp_callSi (va_runV (As := [.int (F 2 a1.toNatClampNeg)]) (rest := []) ⟨hx, hb, hml, hown, hts⟩ (c_S_isSettled l L (F 2 a1.toNatClampNeg) I F G _ h) (cwV 1 hts (gV wG661 wG662 wG663 wG53 wG664) rfl rfl rfl (by decide +kernel) ⟨Nat.le_of_ble_eq_true rfl, Nat.le_of_ble_eq_true rfl⟩) (cPre4 hK hN hP) rfl rfl hl.1 rfl (lv_room (Nat.le_of_ble_eq_true rfl)) d_S_isReady_42 ⟨Nat.le_of_ble_eq_true rfl, Nat.le_of_ble_eq_true rfl⟩).run (fun r_8 h => ?_)
      refine lv_if_eq (tgt := 52) hx hb d_S_isReady_45 (by decide) (fun c_9 => ?_) (fun c_9 => ?_)
      · replace h := h.1 c_9
        refine lv_iconst (v := 0) hx hb d_S_isReady_52 (by decide) ?_
        exact W.zret hx hb hr rfl (fun t ht _ => ⟨_, rfl, h, ht⟩) (fun _ h9 => nomatch h9) d_S_isReady_53
      · replace h := h.2 c_9
        refine lv_iconst (v := 1) hx hb d_S_isReady_48 (by decide) ?_
        refine lv_goto (tgt := 53) hx hb d_S_isReady_49 (by decide) ?_
        exact W.zret hx hb hr rfl (fun t ht _ => ⟨_, rfl, h, ht⟩) (fun _ h9 => nomatch h9) d_S_isReady_53
abbrev rm_S_orderGates : Room := { frames := 3, cells := 0, slots := 0, locals := 63 }
set_option maxHeartbeats 4000000 in
set_option maxRecDepth 100000 in
theorem Wl_S_orderGates_12 {p : Program} {l : Launch} {e : Env} {s : State} {m : MethodId} {args : Array Value} {below : List Frame} {meth : Method} {c : Code} {L : cL} {A : Nat → Prop} {post : MI → MF → MG → Prop} {K : Int32 → MI → MF → MG → Prop} (xc : xC p s m args meth c b_S_orderGates 3 lwG qR4 (none)) (hK : va_K L.1 vwCl (cTys L) s) (hN : cNk s) (hA : ∀ q, s.heap.size ≤ q → A q)
    (hk : ∀ (a1 : Int32) (I : MI) (F : MF) (G : MG) (H : Heap) (locs : List Loc) (ls : Array Slot), K a1 I F G → CW L A s.heap I F G H locs → lv_has ls 3 [(0, .ref (cA L 4)), (1, .int a1)] → W p l e rm_S_orderGates s m args below meth c H locs 0 0 (MQ below (cQv L A post A) args s 0 0 A) (F0 m 47 ls [])) :
    ∀ (n : Nat) (a1 : Int32) (I : MI) (F : MF) (G : MG) (H : Heap) (locs : List Loc) (ls : Array Slot), wl_S_orderGates_12 post K n a1 I F G → CW L A s.heap I F G H locs → lv_has ls 3 [(0, .ref (cA L 4)), (1, .int a1)] → W p l e rm_S_orderGates s m args below meth c H locs 0 0 (MQ below (cQv L A post A) args s 0 0 A) (F0 m 12 ls []) := by
  obtain ⟨hx, hb, hml, hown, hts, hr, hlocks⟩ := id xc
  intro n
  induction n with
  | zero => intro a1 I F G H locs ls h; exact absurd h id
  | succ n ih =>
    intro a1 I F G H locs ls h hw hl
    refine lv_iload_n hx hb d_S_orderGates_12 rfl (lv_at hl 1 rfl) ?_
    refine lv_bipush (v := 12) hx hb d_S_orderGates_13 (by decide) ?_
    refine lv_icmp_ge (tgt := 47) hx hb d_S_orderGates_15 (by decide) (fun c_3 => ?_) (fun c_3 => ?_)
    · replace h := h.1 c_3
      exact hk a1 I F G _ _ ls h hw (lv_sub hl [0, 1] rfl)
    · replace h := h.2 c_3
      refine lv_aload_n hx hb d_S_orderGates_18 rfl (lv_at hl 0 rfl) ?_
      refine va_get (D := L.1) (ci := 4) (v := .ref (cA L 1)) (C := qR4) (T := qT4) (N := 7) hx hb hts qi4 hown hK hw.1 4 rfl rfl 0 (by decide) (hts _ wG195) (fun _ h9 => h9) rfl d_S_orderGates_19 ?_
      refine lv_iload_n hx hb d_S_orderGates_22 rfl (lv_at hl 1 rfl) ?_
      refine vp_callSi (va_runV (As := [.int a1]) (rest := []) ⟨hx, hb, hml, hown, hts⟩ (c_N_isDriven l L a1 I F G _ h) (cwV 1 hts (gV wG656 wG334 wG335 wG49 wG336) rfl rfl rfl (by decide +kernel) ⟨Nat.le_of_ble_eq_true rfl, Nat.le_of_ble_eq_true rfl⟩) (cPre1 hK hN hw.1) rfl rfl hl.1 rfl (lv_room (Nat.le_of_ble_eq_true rfl)) d_S_orderGates_23 ⟨Nat.le_of_ble_eq_true rfl, Nat.le_of_ble_eq_true rfl⟩).run (fun r_4 h => ?_)
      refine lv_if_ne (tgt := 41) hx hb d_S_orderGates_26 (by decide) (fun c_5 => ?_) (fun c_5 => ?_)
      · replace h := h.1 c_5
        obtain ⟨x_6, ex_6⟩ : ∃ y : Int32, y = a1 + 1 := ⟨_, rfl⟩
        replace h := h x_6 ex_6
        refine lv_iinc (v := x_6) (lv' := [(1, .int x_6), (0, .ref (cA L 4))]) hx hb d_S_orderGates_41 hl (k := 1) rfl (by rw [ex_6]; rfl) (by decide) rfl (fun ls hl => ?_)
        refine lv_goto (tgt := 12) hx hb d_S_orderGates_44 (by decide) ?_
        exact ih x_6 I F G _ _ ls h hw (lv_sub hl [1, 0] rfl)
      · replace h := h.2 c_5
        refine lv_aload_n hx hb d_S_orderGates_29 rfl (lv_at hl 0 rfl) ?_
        refine lv_dup hx hb d_S_orderGates_30 rfl ?_
        refine va_get (D := L.1) (ci := 4) (v := .int (I 5)) (C := qR4) (T := qT4) (N := 7) hx hb hts qi4 hown hK hw.1 4 rfl rfl 6 (by decide) (hts _ wG202) (fun _ h9 => h9) rfl d_S_orderGates_31 ?_
        refine lv_iconst (v := 1) hx hb d_S_orderGates_34 (by decide) ?_
        refine lv_iload_n hx hb d_S_orderGates_35 rfl (lv_at hl 1 rfl) ?_
        refine lv_ishl hx hb d_S_orderGates_36 ?_
        refine lv_ior hx hb d_S_orderGates_37 ?_
        refine va_put (D := L.1) (ci := 4) (v := .int ((I 5) ||| (1 <<< (a1 &&& 31)))) (ty := .int) (C := qR4) (T := qT4) (N := 7) hx hb hts qi4 qy4 qk4 qn4 hown hK hw.1 hw.2.1 hw.2.2 4 rfl rfl 6 (by decide) (hts _ wG202) (fun _ h9 => h9) rfl (by decide +kernel) rfl rfl (Nat.le_of_ble_eq_true rfl) d_S_orderGates_38 (fun H locs h1 h2 h3 => ?_)
        replace hw : CW L A s.heap (setI I 5 ((I 5) ||| (1 <<< (a1 &&& 31)))) F G H locs := ⟨h1, h2, h3⟩
        clear h1 h2 h3
        obtain ⟨I_7, eI_7⟩ : ∃ y : MI, y = setI I 5 ((I 5) ||| (1 <<< (a1 &&& 31))) := ⟨_, rfl⟩
        rw [← eI_7] at hw
        replace h := h I_7 eI_7
        obtain ⟨x_8, ex_8⟩ : ∃ y : Int32, y = a1 + 1 := ⟨_, rfl⟩
        replace h := h x_8 ex_8
        refine lv_iinc (v := x_8) (lv' := [(1, .int x_8), (0, .ref (cA L 4))]) hx hb d_S_orderGates_41 hl (k := 1) rfl (by rw [ex_8]; rfl) (by decide) rfl (fun ls hl => ?_)
        refine lv_goto (tgt := 12) hx hb d_S_orderGates_44 (by decide) ?_
        exact ih x_8 I_7 F G _ _ ls h hw (lv_sub hl [1, 0] rfl)
set_option maxHeartbeats 4000000 in
set_option maxRecDepth 100000 in
theorem Wl_S_orderGates_62 {p : Program} {l : Launch} {e : Env} {s : State} {m : MethodId} {args : Array Value} {below : List Frame} {meth : Method} {c : Code} {L : cL} {A : Nat → Prop} {post : MI → MF → MG → Prop} {K : Int32 → MI → MF → MG → Prop} {a1 : Int32} (xc : xC p s m args meth c b_S_orderGates 3 lwG qR4 (none)) (hK : va_K L.1 vwCl (cTys L) s) (hN : cNk s) (hA : ∀ q, s.heap.size ≤ q → A q)
    (hk : ∀ (a2 : Int32) (I : MI) (F : MF) (G : MG) (H : Heap) (locs : List Loc) (ls : Array Slot), K a2 I F G → CW L A s.heap I F G H locs → lv_has ls 3 [(0, .ref (cA L 4)), (1, .int a1), (2, .int a2)] → W p l e rm_S_orderGates s m args below meth c H locs 0 0 (MQ below (cQv L A post A) args s 0 0 A) (F0 m 127 ls [])) :
    ∀ (n : Nat) (a2 : Int32) (I : MI) (F : MF) (G : MG) (H : Heap) (locs : List Loc) (ls : Array Slot), wl_S_orderGates_62 post K a1 n a2 I F G → CW L A s.heap I F G H locs → lv_has ls 3 [(0, .ref (cA L 4)), (1, .int a1), (2, .int a2)] → W p l e rm_S_orderGates s m args below meth c H locs 0 0 (MQ below (cQv L A post A) args s 0 0 A) (F0 m 62 ls []) := by
  obtain ⟨hx, hb, hml, hown, hts, hr, hlocks⟩ := id xc
  intro n
  induction n with
  | zero => intro a2 I F G H locs ls h; exact absurd h id
  | succ n ih =>
    intro a2 I F G H locs ls h hw hl
    refine lv_iload_n hx hb d_S_orderGates_62 rfl (lv_at hl 2 rfl) ?_
    refine lv_aload_n hx hb d_S_orderGates_63 rfl (lv_at hl 0 rfl) ?_
    refine va_get (D := L.1) (ci := 4) (v := .ref (cA L 1)) (C := qR4) (T := qT4) (N := 7) hx hb hts qi4 hown hK hw.1 4 rfl rfl 0 (by decide) (hts _ wG195) (fun _ h9 => h9) rfl d_S_orderGates_64 ?_
    refine va_get (D := L.1) (ci := 1) (v := .int (I 1)) (C := qR1) (T := qT1) (N := 13) hx hb hts qi1 hown hK hw.1 1 rfl rfl 0 (by decide) (hts _ wG89) (fun _ h9 => h9) rfl d_S_orderGates_67 ?_
    refine lv_icmp_ge (tgt := 127) hx hb d_S_orderGates_70 (by decide) (fun c_12 => ?_) (fun c_12 => ?_)
    · replace h := h.1 c_12
      exact hk a2 I F G _ _ ls h hw (lv_sub hl [0, 1, 2] rfl)
    · replace h := h.2 c_12
      refine lv_aload_n hx hb d_S_orderGates_73 rfl (lv_at hl 0 rfl) ?_
      refine lv_iload_n hx hb d_S_orderGates_74 rfl (lv_at hl 2 rfl) ?_
      refine vp_callSi (va_runV (As := [.int a2]) (rest := []) ⟨hx, hb, hml, hown, hts⟩ (c_S_isReady l L a2 I F G _ h) (cwV 1 hts (gV wG657 wG659 wG18 wG53 wG660) rfl rfl rfl (by decide +kernel) ⟨Nat.le_of_ble_eq_true rfl, Nat.le_of_ble_eq_true rfl⟩) (cPre4 hK hN hw.1) rfl rfl hl.1 rfl (lv_room (Nat.le_of_ble_eq_true rfl)) d_S_orderGates_75 ⟨Nat.le_of_ble_eq_true rfl, Nat.le_of_ble_eq_true rfl⟩).run (fun r_13 h => ?_)
      refine lv_if_eq (tgt := 121) hx hb d_S_orderGates_78 (by decide) (fun c_14 => ?_) (fun c_14 => ?_)
      · replace h := h.1 c_14
        obtain ⟨x_15, ex_15⟩ : ∃ y : Int32, y = a2 + 1 := ⟨_, rfl⟩
        replace h := h x_15 ex_15
        refine lv_iinc (v := x_15) (lv' := [(2, .int x_15), (0, .ref (cA L 4)), (1, .int a1)]) hx hb d_S_orderGates_121 hl (k := 2) rfl (by rw [ex_15]; rfl) (by decide) rfl (fun ls hl => ?_)
        refine lv_goto (tgt := 62) hx hb d_S_orderGates_124 (by decide) ?_
        exact ih x_15 I F G _ _ ls h hw (lv_sub hl [1, 2, 0] rfl)
      · replace h := h.2 c_14
        refine lv_aload_n hx hb d_S_orderGates_81 rfl (lv_at hl 0 rfl) ?_
        refine va_get (D := L.1) (ci := 4) (v := .ref (cA L 24)) (C := qR4) (T := qT4) (N := 7) hx hb hts qi4 hown hK hw.1 4 rfl rfl 4 (by decide) (hts _ wG200) (fun _ h9 => h9) rfl d_S_orderGates_82 ?_
        refine lv_aload_n hx hb d_S_orderGates_85 rfl (lv_at hl 0 rfl) ?_
        refine va_get (D := L.1) (ci := 4) (v := .int (I 4)) (C := qR4) (T := qT4) (N := 7) hx hb hts qi4 hown hK hw.1 4 rfl rfl 5 (by decide) (hts _ wG201) (fun _ h9 => h9) rfl d_S_orderGates_86 ?_
        refine lv_iload_n hx hb d_S_orderGates_89 rfl (lv_at hl 2 rfl) ?_
        obtain ⟨hi_16, h⟩ := h
        refine c_iast hx hb hK hw 14 (by decide) rfl hi_16 d_S_orderGates_90 (fun H locs hw => ?_)
        obtain ⟨F_17, eF_17⟩ : ∃ y : MF, y = setF F 14 (upd (F 14) (I 4).toNatClampNeg a2) := ⟨_, rfl⟩
        rw [← eF_17] at hw
        replace h := h F_17 eF_17
        refine lv_aload_n hx hb d_S_orderGates_91 rfl (lv_at hl 0 rfl) ?_
        refine lv_dup hx hb d_S_orderGates_92 rfl ?_
        refine va_get (D := L.1) (ci := 4) (v := .int (I 4)) (C := qR4) (T := qT4) (N := 7) hx hb hts qi4 hown hK hw.1 4 rfl rfl 5 (by decide) (hts _ wG201) (fun _ h9 => h9) rfl d_S_orderGates_93 ?_
        refine lv_iconst (v := 1) hx hb d_S_orderGates_96 (by decide) ?_
        refine lv_iadd hx hb d_S_orderGates_97 ?_
        refine va_put (D := L.1) (ci := 4) (v := .int ((I 4) + 1)) (ty := .int) (C := qR4) (T := qT4) (N := 7) hx hb hts qi4 qy4 qk4 qn4 hown hK hw.1 hw.2.1 hw.2.2 4 rfl rfl 5 (by decide) (hts _ wG201) (fun _ h9 => h9) rfl (by decide +kernel) rfl rfl (Nat.le_of_ble_eq_true rfl) d_S_orderGates_98 (fun H locs h1 h2 h3 => ?_)
        replace hw : CW L A s.heap (setI I 4 ((I 4) + 1)) F_17 G H locs := ⟨h1, h2, h3⟩
        clear h1 h2 h3
        obtain ⟨I_18, eI_18⟩ : ∃ y : MI, y = setI I 4 ((I 4) + 1) := ⟨_, rfl⟩
        rw [← eI_18] at hw
        replace h := h I_18 eI_18
        refine lv_aload_n hx hb d_S_orderGates_101 rfl (lv_at hl 0 rfl) ?_
        refine lv_dup hx hb d_S_orderGates_102 rfl ?_
        refine va_get (D := L.1) (ci := 4) (v := .int (I_18 5)) (C := qR4) (T := qT4) (N := 7) hx hb hts qi4 hown hK hw.1 4 rfl rfl 6 (by decide) (hts _ wG202) (fun _ h9 => h9) rfl d_S_orderGates_103 ?_
        refine lv_iconst (v := 1) hx hb d_S_orderGates_106 (by decide) ?_
        refine lv_aload_n hx hb d_S_orderGates_107 rfl (lv_at hl 0 rfl) ?_
        refine va_get (D := L.1) (ci := 4) (v := .ref (cA L 1)) (C := qR4) (T := qT4) (N := 7) hx hb hts qi4 hown hK hw.1 4 rfl rfl 0 (by decide) (hts _ wG195) (fun _ h9 => h9) rfl d_S_orderGates_108 ?_
        refine va_get (D := L.1) (ci := 1) (v := .ref (cA L 13)) (C := qR1) (T := qT1) (N := 13) hx hb hts qi1 hown hK hw.1 1 rfl rfl 4 (by decide) (hts _ wG98) (fun _ h9 => h9) rfl d_S_orderGates_111 ?_
        refine lv_iload_n hx hb d_S_orderGates_114 rfl (lv_at hl 2 rfl) ?_
        obtain ⟨hi_19, h⟩ := h
        refine c_iald hx hb hK hw.1 3 (by decide) rfl hi_19 d_S_orderGates_115 ?_
        refine lv_ishl hx hb d_S_orderGates_116 ?_
        refine lv_ior hx hb d_S_orderGates_117 ?_
        refine va_put (D := L.1) (ci := 4) (v := .int ((I_18 5) ||| (1 <<< ((F_17 3 a2.toNatClampNeg) &&& 31)))) (ty := .int) (C := qR4) (T := qT4) (N := 7) hx hb hts qi4 qy4 qk4 qn4 hown hK hw.1 hw.2.1 hw.2.2 4 rfl rfl 6 (by decide) (hts _ wG202) (fun _ h9 => h9) rfl (by decide +kernel) rfl rfl (Nat.le_of_ble_eq_true rfl) d_S_orderGates_118 (fun H locs h1 h2 h3 => ?_)
        replace hw : CW L A s.heap (setI I_18 5 ((I_18 5) ||| (1 <<< ((F_17 3 a2.toNatClampNeg) &&& 31)))) F_17 G H locs := ⟨h1, h2, h3⟩
        clear h1 h2 h3
        obtain ⟨I_20, eI_20⟩ : ∃ y : MI, y = setI I_18 5 ((I_18 5) ||| (1 <<< ((F_17 3 a2.toNatClampNeg) &&& 31))) := ⟨_, rfl⟩
        rw [← eI_20] at hw
        replace h := h I_20 eI_20
        obtain ⟨x_21, ex_21⟩ : ∃ y : Int32, y = a2 + 1 := ⟨_, rfl⟩
        replace h := h x_21 ex_21
        refine lv_iinc (v := x_21) (lv' := [(2, .int x_21), (0, .ref (cA L 4)), (1, .int a1)]) hx hb d_S_orderGates_121 hl (k := 2) rfl (by rw [ex_21]; rfl) (by decide) rfl (fun ls hl => ?_)
        refine lv_goto (tgt := 62) hx hb d_S_orderGates_124 (by decide) ?_
        exact ih x_21 I_20 F_17 G _ _ ls h hw (lv_sub hl [1, 2, 0] rfl)
set_option maxHeartbeats 4000000 in
set_option maxRecDepth 100000 in
theorem Wl_S_orderGates_49 {p : Program} {l : Launch} {e : Env} {s : State} {m : MethodId} {args : Array Value} {below : List Frame} {meth : Method} {c : Code} {L : cL} {A : Nat → Prop} {post : MI → MF → MG → Prop} {K : Int32 → MI → MF → MG → Prop} (xc : xC p s m args meth c b_S_orderGates 3 lwG qR4 (none)) (hK : va_K L.1 vwCl (cTys L) s) (hN : cNk s) (hA : ∀ q, s.heap.size ≤ q → A q)
    (hk : ∀ (a1 : Int32) (I : MI) (F : MF) (G : MG) (H : Heap) (locs : List Loc) (ls : Array Slot), K a1 I F G → CW L A s.heap I F G H locs → lv_has ls 3 [(0, .ref (cA L 4)), (1, .int a1)] → W p l e rm_S_orderGates s m args below meth c H locs 0 0 (MQ below (cQv L A post A) args s 0 0 A) (F0 m 133 ls [])) :
    ∀ (n : Nat) (a1 : Int32) (I : MI) (F : MF) (G : MG) (H : Heap) (locs : List Loc) (ls : Array Slot), wl_S_orderGates_49 post K n a1 I F G → CW L A s.heap I F G H locs → lv_has ls 3 [(0, .ref (cA L 4)), (1, .int a1)] → W p l e rm_S_orderGates s m args below meth c H locs 0 0 (MQ below (cQv L A post A) args s 0 0 A) (F0 m 49 ls []) := by
  obtain ⟨hx, hb, hml, hown, hts, hr, hlocks⟩ := id xc
  intro n
  induction n with
  | zero => intro a1 I F G H locs ls h; exact absurd h id
  | succ n ih =>
    intro a1 I F G H locs ls h hw hl
    refine lv_iload_n hx hb d_S_orderGates_49 rfl (lv_at hl 1 rfl) ?_
    refine lv_aload_n hx hb d_S_orderGates_50 rfl (lv_at hl 0 rfl) ?_
    refine va_get (D := L.1) (ci := 4) (v := .ref (cA L 1)) (C := qR4) (T := qT4) (N := 7) hx hb hts qi4 hown hK hw.1 4 rfl rfl 0 (by decide) (hts _ wG195) (fun _ h9 => h9) rfl d_S_orderGates_51 ?_
    refine va_get (D := L.1) (ci := 1) (v := .int (I 1)) (C := qR1) (T := qT1) (N := 13) hx hb hts qi1 hown hK hw.1 1 rfl rfl 0 (by decide) (hts _ wG89) (fun _ h9 => h9) rfl d_S_orderGates_54 ?_
    refine lv_icmp_ge (tgt := 133) hx hb d_S_orderGates_57 (by decide) (fun c_11 => ?_) (fun c_11 => ?_)
    · replace h := h.1 c_11
      exact hk a1 I F G _ _ ls h hw (lv_sub hl [0, 1] rfl)
    · replace h := h.2 c_11
      refine lv_iconst (v := 0) hx hb d_S_orderGates_60 (by decide) ?_
      refine lv_istore_n (lv' := [(2, .int 0), (0, .ref (cA L 4)), (1, .int a1)]) hx hb d_S_orderGates_61 rfl hl (by decide) rfl (fun ls hl => ?_)
      obtain ⟨n_25, h⟩ := h
      refine Wl_S_orderGates_62 xc hK hN hA (hk := fun x_22 I_23 F_23 G_23 H locs ls h hw hl => ?_) n_25 0 I F G _ _ ls h hw (lv_sub hl [1, 2, 0] rfl)
      obtain ⟨x_24, ex_24⟩ : ∃ y : Int32, y = a1 + 1 := ⟨_, rfl⟩
      replace h := h x_24 ex_24
      refine lv_iinc (v := x_24) (lv' := [(1, .int x_24), (0, .ref (cA L 4)), (2, .int x_22)]) hx hb d_S_orderGates_127 hl (k := 1) rfl (by rw [ex_24]; rfl) (by decide) rfl (fun ls hl => ?_)
      refine lv_goto (tgt := 49) hx hb d_S_orderGates_130 (by decide) ?_
      exact ih x_24 I_23 F_23 G_23 _ _ ls h hw (lv_sub hl [1, 0] rfl)
set_option maxHeartbeats 4000000 in
set_option maxRecDepth 100000 in
theorem c_S_orderGates (l : Launch) (L : cL) (I : MI) (F : MF) (G : MG) (sz : Nat) (post : MI → MF → MG → Prop) (h : wp_S_orderGates I F G post) : Met l y_S_orderGates (.code y_S_orderGates b_S_orderGates 3 (none) :: lwG) rm_S_orderGates (cPm L I F G sz [.ref (cA L 4)]) (cQv L (cAA L I F G sz) post (cAA L I F G sz)) 0 0 (cAA L I F G sz) := by
  refine Met.ofW (cc := b_S_orderGates) (maxL := 3) (ret := (none)) (by decide) rfl ?_
  intro p e s m args below meth c s₁ B hml hv
  obtain ⟨rfl, hsz, hP, hK, hD0, hN⟩ := hv
  have xc : xC p s m _ meth c b_S_orderGates 3 lwG qR4 (none) := ⟨B.exec, B.bytes, hml, findClass_of_methodNamed B.named, fun w h => atoms_spec (ws := (.code y_S_orderGates b_S_orderGates 3 (none) :: lwG)) B.pre w (List.mem_cons_of_mem _ h), B.returns, B.notSynchronized⟩
  obtain ⟨hx, hb, hml, hown, hts, hr, hlocks⟩ := id xc
  subst hsz
  have hD : va_D (cAA L I F G s.heap.size) (WC L I F G) := hD0.self
  have hA0 : ∀ q : Nat, s.heap.size ≤ q → cAA L I F G s.heap.size q := fun q h => Or.inr h
  generalize cAA L I F G s.heap.size = A at hD hA0 ⊢
  have hA := hA0
  have hw : CW L A s.heap I F G s.heap [] := ⟨hP, hD, va_S.rf⟩
  have hl := lv_entry ([.ref (cA L 4)]) (n := 3) (Nat.le_of_ble_eq_true rfl)
  rw [lg_entry_eq]
  generalize (lg_sl ([.ref (cA L 4)]) ++ List.replicate (3 - (lg_sl ([.ref (cA L 4)])).length) Slot.unset).toArray = ls at hl ⊢
  have hl : lv_has ls 3 [(0, .ref (cA L 4))] := hl
  refine lv_aload_n hx hb d_S_orderGates_0 rfl (lv_at hl 0 rfl) ?_
  refine lv_iconst (v := 0) hx hb d_S_orderGates_1 (by decide) ?_
  refine va_put (D := L.1) (ci := 4) (v := .int 0) (ty := .int) (C := qR4) (T := qT4) (N := 7) hx hb hts qi4 qy4 qk4 qn4 hown hK hw.1 hw.2.1 hw.2.2 4 rfl rfl 5 (by decide) (hts _ wG201) (fun _ h9 => h9) rfl (by decide +kernel) rfl rfl (Nat.le_of_ble_eq_true rfl) d_S_orderGates_2 (fun H locs h1 h2 h3 => ?_)
  replace hw : CW L A s.heap (setI I 4 0) F G H locs := ⟨h1, h2, h3⟩
  clear h1 h2 h3
  obtain ⟨I_1, eI_1⟩ : ∃ y : MI, y = setI I 4 0 := ⟨_, rfl⟩
  rw [← eI_1] at hw
  replace h := h I_1 eI_1
  refine lv_aload_n hx hb d_S_orderGates_5 rfl (lv_at hl 0 rfl) ?_
  refine lv_iconst (v := 0) hx hb d_S_orderGates_6 (by decide) ?_
  refine va_put (D := L.1) (ci := 4) (v := .int 0) (ty := .int) (C := qR4) (T := qT4) (N := 7) hx hb hts qi4 qy4 qk4 qn4 hown hK hw.1 hw.2.1 hw.2.2 4 rfl rfl 6 (by decide) (hts _ wG202) (fun _ h9 => h9) rfl (by decide +kernel) rfl rfl (Nat.le_of_ble_eq_true rfl) d_S_orderGates_7 (fun H locs h1 h2 h3 => ?_)
  replace hw : CW L A s.heap (setI I_1 5 0) F G H locs := ⟨h1, h2, h3⟩
  clear h1 h2 h3
  obtain ⟨I_2, eI_2⟩ : ∃ y : MI, y = setI I_1 5 0 := ⟨_, rfl⟩
  rw [← eI_2] at hw
  replace h := h I_2 eI_2
  refine lv_iconst (v := 0) hx hb d_S_orderGates_10 (by decide) ?_
  refine lv_istore_n (lv' := [(1, .int 0), (0, .ref (cA L 4))]) hx hb d_S_orderGates_11 rfl hl (by decide) rfl (fun ls hl => ?_)
  obtain ⟨n_29, h⟩ := h
  refine Wl_S_orderGates_12 xc hK hN hA (hk := fun x_9 I_10 F_10 G_10 H locs ls h hw hl => ?_) n_29 0 I_2 F G _ _ ls h hw (lv_sub hl [1, 0] rfl)
  refine lv_iconst (v := 0) hx hb d_S_orderGates_47 (by decide) ?_
  refine lv_istore_n (lv' := [(1, .int 0), (0, .ref (cA L 4))]) hx hb d_S_orderGates_48 rfl hl (by decide) rfl (fun ls hl => ?_)
  obtain ⟨n_28, h⟩ := h
  refine Wl_S_orderGates_49 xc hK hN hA (hk := fun x_26 I_27 F_27 G_27 H locs ls h hw hl => ?_) n_28 0 I_10 F_10 G_10 _ _ ls h hw (lv_sub hl [1, 0] rfl)
  exact W.vret hx hb hr (fun t ht hW => ⟨⟨(I_27, F_27, G_27), rfl, h, by rw [ht]; exact hw.1, va_K.moved hW.alike hK, hw.2.1⟩, hw.2.2.F ht⟩) hw.2.2.2.2 d_S_orderGates_133
abbrev rm_S_arrivalBehind : Room := { frames := 6, cells := 0, slots := 0, locals := 131 }
set_option maxHeartbeats 4000000 in
set_option maxRecDepth 100000 in
theorem c_S_arrivalBehind (l : Launch) (L : cL) (a1 : Int32) (I : MI) (F : MF) (G : MG) (post : UInt64 → Prop) (h : wp_S_arrivalBehind a1 I F G post) : Met l y_S_arrivalBehind (.code y_S_arrivalBehind b_S_arrivalBehind 2 (some .double) :: lwG) rm_S_arrivalBehind (cPc L I F G [.ref (cA L 4), .int a1]) (vp_Sd post) 0 0 (fun _ => False) := by
  refine Met.ofW (cc := b_S_arrivalBehind) (maxL := 2) (ret := (some .double)) (by decide) rfl ?_
  intro p e s m args below meth c s₁ B hml hv
  obtain ⟨rfl, hP, hK, hN⟩ := hv
  have xc : xC p s m _ meth c b_S_arrivalBehind 2 lwG qR4 (some .double) := ⟨B.exec, B.bytes, hml, findClass_of_methodNamed B.named, fun w h => atoms_spec (ws := (.code y_S_arrivalBehind b_S_arrivalBehind 2 (some .double) :: lwG)) B.pre w (List.mem_cons_of_mem _ h), B.returns, B.notSynchronized⟩
  obtain ⟨hx, hb, hml, hown, hts, hr, hlocks⟩ := id xc
  have hl := lv_entry ([.ref (cA L 4), .int a1]) (n := 2) (Nat.le_of_ble_eq_true rfl)
  rw [lg_entry_eq]
  generalize (lg_sl ([.ref (cA L 4), .int a1]) ++ List.replicate (2 - (lg_sl ([.ref (cA L 4), .int a1])).length) Slot.unset).toArray = ls at hl ⊢
  have hl : lv_has ls 2 [(0, .ref (cA L 4)), (1, .int a1)] := hl
  refine lv_aload_n hx hb d_S_arrivalBehind_0 rfl (lv_at hl 0 rfl) ?_
  refine va_get (D := L.1) (ci := 4) (v := .ref (cA L 9)) (C := qR4) (T := qT4) (N := 7) hx hb hts qi4 hown hK hP 4 rfl rfl 3 (by decide) (hts _ wG199) (fun _ h9 => h9) rfl d_S_arrivalBehind_1 ?_
  refine lv_iload_n hx hb d_S_arrivalBehind_4 rfl (lv_at hl 1 rfl) ?_
  obtain ⟨hi_1, h⟩ := h
  refine c_dald hx hb hK hP 1 rfl hi_1 d_S_arrivalBehind_5 ?_
  refine lv_aload_n hx hb d_S_arrivalBehind_6 rfl (lv_at hl 0 rfl) ?_
  refine va_get (D := L.1) (ci := 4) (v := .ref (cA L 2)) (C := qR4) (T := qT4) (N := 7) hx hb hts qi4 hown hK hP 4 rfl rfl 1 (by decide) (hts _ wG196) (fun _ h9 => h9) rfl d_S_arrivalBehind_7 ?_
  refine lv_iload_n hx hb d_S_arrivalBehind_10 rfl (lv_at hl 1 rfl) ?_
  refine vp_callSd (va_runV (As := [.int a1]) (rest := [.double (G 1 a1.toNatClampNeg)]) ⟨hx, hb, hml, hown, hts⟩ (c_C_wireDelay l L a1 I F G _ h) (cwV 1 hts (gV wG693 wG637 wG638 wG51 wG639) rfl rfl rfl (by decide +kernel) ⟨Nat.le_of_ble_eq_true rfl, Nat.le_of_ble_eq_true rfl⟩) (cPre2 hK hN hP) rfl rfl hl.1 rfl (lv_room (Nat.le_of_ble_eq_true rfl)) d_S_arrivalBehind_11 ⟨Nat.le_of_ble_eq_true rfl, Nat.le_of_ble_eq_true rfl⟩).run (fun r_2 h => ?_)
  obtain ⟨hn_3, h⟩ := h
  refine lv_dadd hx hb d_S_arrivalBehind_14 hn_3 ?_
  exact W.dret hx hb hr (fun t ht _ => ⟨_, rfl, h, ht⟩) (fun _ h9 => nomatch h9) d_S_arrivalBehind_15
abbrev rm_S_arrivalAt : Room := { frames := 7, cells := 0, slots := 0, locals := 152 }
set_option maxHeartbeats 4000000 in
set_option maxRecDepth 100000 in
theorem Wl_S_arrivalAt_2 {p : Program} {l : Launch} {e : Env} {s : State} {m : MethodId} {args : Array Value} {below : List Frame} {meth : Method} {c : Code} {L : cL} {A : Nat → Prop} {post : UInt64 → MI → MF → MG → Prop} {K : Int32 → MI → MF → MG → Prop} {a1 : Int32} (xc : xC p s m args meth c b_S_arrivalAt 10 lwG qR4 (some .double)) (hK : va_K L.1 vwCl (cTys L) s) (hN : cNk s) (hA : ∀ q, s.heap.size ≤ q → A q)
    (hk : ∀ (a2 : Int32) (I : MI) (F : MF) (G : MG) (H : Heap) (locs : List Loc) (ls : Array Slot), K a2 I F G → CW L A s.heap I F G H locs → lv_has ls 10 [(0, .ref (cA L 4)), (1, .int a1), (2, .int a2)] → W p l e rm_S_arrivalAt s m args below meth c H locs 0 0 (MQ below (cQd L A post A) args s 0 0 A) (F0 m 21 ls [])) :
    ∀ (n : Nat) (a2 : Int32) (I : MI) (F : MF) (G : MG) (H : Heap) (locs : List Loc) (ls : Array Slot), wl_S_arrivalAt_2 post K a1 n a2 I F G → CW L A s.heap I F G H locs → lv_has ls 10 [(0, .ref (cA L 4)), (1, .int a1), (2, .int a2)] → W p l e rm_S_arrivalAt s m args below meth c H locs 0 0 (MQ below (cQd L A post A) args s 0 0 A) (F0 m 2 ls []) := by
  obtain ⟨hx, hb, hml, hown, hts, hr, hlocks⟩ := id xc
  intro n
  induction n with
  | zero => intro a2 I F G H locs ls h; exact absurd h id
  | succ n ih =>
    intro a2 I F G H locs ls h hw hl
    refine lv_iload_n hx hb d_S_arrivalAt_2 rfl (lv_at hl 2 rfl) ?_
    refine lv_bipush (v := 12) hx hb d_S_arrivalAt_3 (by decide) ?_
    refine lv_icmp_ge (tgt := 21) hx hb d_S_arrivalAt_5 (by decide) (fun c_1 => ?_) (fun c_1 => ?_)
    · replace h := h.1 c_1
      exact hk a2 I F G _ _ ls h hw (lv_sub hl [0, 1, 2] rfl)
    · replace h := h.2 c_1
      refine lv_aload_n hx hb d_S_arrivalAt_8 rfl (lv_at hl 0 rfl) ?_
      refine va_get (D := L.1) (ci := 4) (v := .ref (cA L 9)) (C := qR4) (T := qT4) (N := 7) hx hb hts qi4 hown hK hw.1 4 rfl rfl 3 (by decide) (hts _ wG199) (fun _ h9 => h9) rfl d_S_arrivalAt_9 ?_
      refine lv_iload_n hx hb d_S_arrivalAt_12 rfl (lv_at hl 2 rfl) ?_
      refine lv_dconst0 hx hb d_S_arrivalAt_13 ?_
      obtain ⟨hi_2, h⟩ := h
      refine c_dast hx hb hK hw 1 rfl (fun _ => rfl) hi_2 d_S_arrivalAt_14 (fun H locs hw => ?_)
      obtain ⟨G_3, eG_3⟩ : ∃ y : MG, y = setG G 1 (vf_upd (G 1) a2.toNatClampNeg FP.dconst0) := ⟨_, rfl⟩
      rw [← eG_3] at hw
      replace h := h G_3 eG_3
      obtain ⟨x_4, ex_4⟩ : ∃ y : Int32, y = a2 + 1 := ⟨_, rfl⟩
      replace h := h x_4 ex_4
      refine lv_iinc (v := x_4) (lv' := [(2, .int x_4), (0, .ref (cA L 4)), (1, .int a1)]) hx hb d_S_arrivalAt_15 hl (k := 2) rfl (by rw [ex_4]; rfl) (by decide) rfl (fun ls hl => ?_)
      refine lv_goto (tgt := 2) hx hb d_S_arrivalAt_18 (by decide) ?_
      exact ih x_4 I F G_3 _ _ ls h hw (lv_sub hl [1, 2, 0] rfl)
set_option maxHeartbeats 4000000 in
set_option maxRecDepth 100000 in
theorem Wl_S_arrivalAt_23 {p : Program} {l : Launch} {e : Env} {s : State} {m : MethodId} {args : Array Value} {below : List Frame} {meth : Method} {c : Code} {L : cL} {A : Nat → Prop} {post : UInt64 → MI → MF → MG → Prop} {K : Int32 → MI → MF → MG → Prop} {a1 : Int32} (xc : xC p s m args meth c b_S_arrivalAt 10 lwG qR4 (some .double)) (hK : va_K L.1 vwCl (cTys L) s) (hN : cNk s) (hA : ∀ q, s.heap.size ≤ q → A q)
    (hk : ∀ (a2 : Int32) (I : MI) (F : MF) (G : MG) (H : Heap) (locs : List Loc) (ls : Array Slot), K a2 I F G → CW L A s.heap I F G H locs → lv_has ls 10 [(0, .ref (cA L 4)), (1, .int a1), (2, .int a2)] → W p l e rm_S_arrivalAt s m args below meth c H locs 0 0 (MQ below (cQd L A post A) args s 0 0 A) (F0 m 122 ls [])) :
    ∀ (n : Nat) (a2 : Int32) (I : MI) (F : MF) (G : MG) (H : Heap) (locs : List Loc) (ls : Array Slot), wl_S_arrivalAt_23 post K a1 n a2 I F G → CW L A s.heap I F G H locs → lv_has ls 10 [(0, .ref (cA L 4)), (1, .int a1), (2, .int a2)] → W p l e rm_S_arrivalAt s m args below meth c H locs 0 0 (MQ below (cQd L A post A) args s 0 0 A) (F0 m 23 ls []) := by
  obtain ⟨hx, hb, hml, hown, hts, hr, hlocks⟩ := id xc
  intro n
  induction n with
  | zero => intro a2 I F G H locs ls h; exact absurd h id
  | succ n ih =>
    intro a2 I F G H locs ls h hw hl
    refine lv_iload_n hx hb d_S_arrivalAt_23 rfl (lv_at hl 2 rfl) ?_
    refine lv_aload_n hx hb d_S_arrivalAt_24 rfl (lv_at hl 0 rfl) ?_
    refine va_get (D := L.1) (ci := 4) (v := .int (I 4)) (C := qR4) (T := qT4) (N := 7) hx hb hts qi4 hown hK hw.1 4 rfl rfl 5 (by decide) (hts _ wG201) (fun _ h9 => h9) rfl d_S_arrivalAt_25 ?_
    refine lv_icmp_ge (tgt := 122) hx hb d_S_arrivalAt_28 (by decide) (fun c_7 => ?_) (fun c_7 => ?_)
    · replace h := h.1 c_7
      exact hk a2 I F G _ _ ls h hw (lv_sub hl [0, 1, 2] rfl)
    · replace h := h.2 c_7
      refine lv_aload_n hx hb d_S_arrivalAt_31 rfl (lv_at hl 0 rfl) ?_
      refine va_get (D := L.1) (ci := 4) (v := .ref (cA L 24)) (C := qR4) (T := qT4) (N := 7) hx hb hts qi4 hown hK hw.1 4 rfl rfl 4 (by decide) (hts _ wG200) (fun _ h9 => h9) rfl d_S_arrivalAt_32 ?_
      refine lv_iload_n hx hb d_S_arrivalAt_35 rfl (lv_at hl 2 rfl) ?_
      obtain ⟨hi_8, h⟩ := h
      refine c_iald hx hb hK hw.1 14 (by decide) rfl hi_8 d_S_arrivalAt_36 ?_
      refine lv_topi (fun x_9 ex_9 => ?_)
      replace h := h x_9 ex_9
      refine lv_istore_n (lv' := [(3, .int x_9), (0, .ref (cA L 4)), (1, .int a1), (2, .int a2)]) hx hb d_S_arrivalAt_37 rfl hl (by decide) rfl (fun ls hl => ?_)
      refine lv_aload_n hx hb d_S_arrivalAt_38 rfl (lv_at hl 1 rfl) ?_
      refine lv_aload_n hx hb d_S_arrivalAt_39 rfl (lv_at hl 1 rfl) ?_
      refine va_get (D := L.1) (ci := 4) (v := .ref (cA L 1)) (C := qR4) (T := qT4) (N := 7) hx hb hts qi4 hown hK hw.1 4 rfl rfl 0 (by decide) (hts _ wG195) (fun _ h9 => h9) rfl d_S_arrivalAt_40 ?_
      refine va_get (D := L.1) (ci := 1) (v := .ref (cA L 11)) (C := qR1) (T := qT1) (N := 13) hx hb hts qi1 hown hK hw.1 1 rfl rfl 2 (by decide) (hts _ wG94) (fun _ h9 => h9) rfl d_S_arrivalAt_43 ?_
      refine lv_iload_n hx hb d_S_arrivalAt_46 rfl (lv_at hl 0 rfl) ?_
      obtain ⟨hi_10, h⟩ := h
      refine c_iald hx hb hK hw.1 1 (by decide) rfl hi_10 d_S_arrivalAt_47 ?_
      refine vp_callSd (va_runV (As := [.int (F 1 x_9.toNatClampNeg)]) (rest := []) ⟨hx, hb, hml, hown, hts⟩ (c_S_arrivalBehind l L (F 1 x_9.toNatClampNeg) I F G _ h) (cwV 1 hts (gV wG689 wG691 wG19 wG53 wG692) rfl rfl rfl (by decide +kernel) ⟨Nat.le_of_ble_eq_true rfl, Nat.le_of_ble_eq_true rfl⟩) (cPre4 hK hN hw.1) rfl rfl hl.1 rfl (lv_room (Nat.le_of_ble_eq_true rfl)) d_S_arrivalAt_48 ⟨Nat.le_of_ble_eq_true rfl, Nat.le_of_ble_eq_true rfl⟩).run (fun r_11 h => ?_)
      refine lv_dstore (lv' := [(4, .double r_11), (3, .int x_9), (0, .ref (cA L 4)), (1, .int a1), (2, .int a2)]) hx hb d_S_arrivalAt_51 hl (by decide) rfl (fun ls hl => ?_)
      refine lv_aload_n hx hb d_S_arrivalAt_53 rfl (lv_at hl 2 rfl) ?_
      refine lv_aload_n hx hb d_S_arrivalAt_54 rfl (lv_at hl 2 rfl) ?_
      refine va_get (D := L.1) (ci := 4) (v := .ref (cA L 1)) (C := qR4) (T := qT4) (N := 7) hx hb hts qi4 hown hK hw.1 4 rfl rfl 0 (by decide) (hts _ wG195) (fun _ h9 => h9) rfl d_S_arrivalAt_55 ?_
      refine va_get (D := L.1) (ci := 1) (v := .ref (cA L 12)) (C := qR1) (T := qT1) (N := 13) hx hb hts qi1 hown hK hw.1 1 rfl rfl 3 (by decide) (hts _ wG96) (fun _ h9 => h9) rfl d_S_arrivalAt_58 ?_
      refine lv_iload_n hx hb d_S_arrivalAt_61 rfl (lv_at hl 1 rfl) ?_
      obtain ⟨hi_12, h⟩ := h
      refine c_iald hx hb hK hw.1 2 (by decide) rfl hi_12 d_S_arrivalAt_62 ?_
      refine vp_callSd (va_runV (As := [.int (F 2 x_9.toNatClampNeg)]) (rest := []) ⟨hx, hb, hml, hown, hts⟩ (c_S_arrivalBehind l L (F 2 x_9.toNatClampNeg) I F G _ h) (cwV 1 hts (gV wG689 wG691 wG19 wG53 wG692) rfl rfl rfl (by decide +kernel) ⟨Nat.le_of_ble_eq_true rfl, Nat.le_of_ble_eq_true rfl⟩) (cPre4 hK hN hw.1) rfl rfl hl.1 rfl (lv_room (Nat.le_of_ble_eq_true rfl)) d_S_arrivalAt_63 ⟨Nat.le_of_ble_eq_true rfl, Nat.le_of_ble_eq_true rfl⟩).run (fun r_13 h => ?_)
      refine lv_dstore (lv' := [(6, .double r_13), (4, .double r_11), (3, .int x_9), (0, .ref (cA L 4)), (1, .int a1), (2, .int a2)]) hx hb d_S_arrivalAt_66 hl (by decide) rfl (fun ls hl => ?_)
      refine lv_dload hx hb d_S_arrivalAt_68 (lv_at hl 0 rfl) ?_
      refine lv_dload hx hb d_S_arrivalAt_70 (lv_at hl 1 rfl) ?_
      refine lv_dcmp hx hb d_S_arrivalAt_72 ?_
      refine lv_if_le (tgt := 81) hx hb d_S_arrivalAt_73 (by decide) (fun c_14 => ?_) (fun c_14 => ?_)
      · replace h := h.1 c_14
        refine lv_dload hx hb d_S_arrivalAt_81 (lv_at hl 1 rfl) ?_
        refine lv_dstore (lv' := [(8, .double r_11), (6, .double r_13), (4, .double r_11), (3, .int x_9), (0, .ref (cA L 4)), (1, .int a1), (2, .int a2)]) hx hb d_S_arrivalAt_83 hl (by decide) rfl (fun ls hl => ?_)
        refine lv_aload_n hx hb d_S_arrivalAt_85 rfl (lv_at hl 4 rfl) ?_
        refine va_get (D := L.1) (ci := 4) (v := .ref (cA L 9)) (C := qR4) (T := qT4) (N := 7) hx hb hts qi4 hown hK hw.1 4 rfl rfl 3 (by decide) (hts _ wG199) (fun _ h9 => h9) rfl d_S_arrivalAt_86 ?_
        refine lv_aload_n hx hb d_S_arrivalAt_89 rfl (lv_at hl 4 rfl) ?_
        refine va_get (D := L.1) (ci := 4) (v := .ref (cA L 1)) (C := qR4) (T := qT4) (N := 7) hx hb hts qi4 hown hK hw.1 4 rfl rfl 0 (by decide) (hts _ wG195) (fun _ h9 => h9) rfl d_S_arrivalAt_90 ?_
        refine va_get (D := L.1) (ci := 1) (v := .ref (cA L 13)) (C := qR1) (T := qT1) (N := 13) hx hb hts qi1 hown hK hw.1 1 rfl rfl 4 (by decide) (hts _ wG98) (fun _ h9 => h9) rfl d_S_arrivalAt_93 ?_
        refine lv_iload_n hx hb d_S_arrivalAt_96 rfl (lv_at hl 3 rfl) ?_
        obtain ⟨hi_15, h⟩ := h
        refine c_iald hx hb hK hw.1 3 (by decide) rfl hi_15 d_S_arrivalAt_97 ?_
        refine lv_dload hx hb d_S_arrivalAt_98 (lv_at hl 0 rfl) ?_
        refine lv_aload_n hx hb d_S_arrivalAt_100 rfl (lv_at hl 4 rfl) ?_
        refine va_get (D := L.1) (ci := 4) (v := .ref (cA L 8)) (C := qR4) (T := qT4) (N := 7) hx hb hts qi4 hown hK hw.1 4 rfl rfl 2 (by decide) (hts _ wG197) (fun _ h9 => h9) rfl d_S_arrivalAt_101 ?_
        refine lv_aload_n hx hb d_S_arrivalAt_104 rfl (lv_at hl 4 rfl) ?_
        refine va_get (D := L.1) (ci := 4) (v := .ref (cA L 1)) (C := qR4) (T := qT4) (N := 7) hx hb hts qi4 hown hK hw.1 4 rfl rfl 0 (by decide) (hts _ wG195) (fun _ h9 => h9) rfl d_S_arrivalAt_105 ?_
        refine va_get (D := L.1) (ci := 1) (v := .ref (cA L 10)) (C := qR1) (T := qT1) (N := 13) hx hb hts qi1 hown hK hw.1 1 rfl rfl 1 (by decide) (hts _ wG92) (fun _ h9 => h9) rfl d_S_arrivalAt_108 ?_
        refine lv_iload_n hx hb d_S_arrivalAt_111 rfl (lv_at hl 3 rfl) ?_
        obtain ⟨hi_16, h⟩ := h
        refine c_iald hx hb hK hw.1 0 (by decide) rfl hi_16 d_S_arrivalAt_112 ?_
        obtain ⟨hi_17, h⟩ := h
        refine c_dald hx hb hK hw.1 0 rfl hi_17 d_S_arrivalAt_113 ?_
        obtain ⟨hn_18, h⟩ := h
        refine lv_dadd hx hb d_S_arrivalAt_114 hn_18 ?_
        obtain ⟨hi_19, h⟩ := h
        refine c_dast hx hb hK hw 1 rfl (fun _ => rfl) hi_19 d_S_arrivalAt_115 (fun H locs hw => ?_)
        obtain ⟨G_20, eG_20⟩ : ∃ y : MG, y = setG G 1 (vf_upd (G 1) (F 3 x_9.toNatClampNeg).toNatClampNeg (FP.dadd r_11 (G 0 (F 0 x_9.toNatClampNeg).toNatClampNeg))) := ⟨_, rfl⟩
        rw [← eG_20] at hw
        replace h := h G_20 eG_20
        obtain ⟨x_21, ex_21⟩ : ∃ y : Int32, y = a2 + 1 := ⟨_, rfl⟩
        replace h := h x_21 ex_21
        refine lv_iinc (v := x_21) (lv' := [(2, .int x_21), (8, .double r_11), (6, .double r_13), (4, .double r_11), (3, .int x_9), (0, .ref (cA L 4)), (1, .int a1)]) hx hb d_S_arrivalAt_116 hl (k := 6) rfl (by rw [ex_21]; rfl) (by decide) rfl (fun ls hl => ?_)
        refine lv_goto (tgt := 23) hx hb d_S_arrivalAt_119 (by decide) ?_
        exact ih x_21 I F G_20 _ _ ls h hw (lv_sub hl [5, 6, 0] rfl)
      · replace h := h.2 c_14
        refine lv_dload hx hb d_S_arrivalAt_76 (lv_at hl 0 rfl) ?_
        refine lv_goto (tgt := 83) hx hb d_S_arrivalAt_78 (by decide) ?_
        refine lv_dstore (lv' := [(8, .double r_13), (6, .double r_13), (4, .double r_11), (3, .int x_9), (0, .ref (cA L 4)), (1, .int a1), (2, .int a2)]) hx hb d_S_arrivalAt_83 hl (by decide) rfl (fun ls hl => ?_)
        refine lv_aload_n hx hb d_S_arrivalAt_85 rfl (lv_at hl 4 rfl) ?_
        refine va_get (D := L.1) (ci := 4) (v := .ref (cA L 9)) (C := qR4) (T := qT4) (N := 7) hx hb hts qi4 hown hK hw.1 4 rfl rfl 3 (by decide) (hts _ wG199) (fun _ h9 => h9) rfl d_S_arrivalAt_86 ?_
        refine lv_aload_n hx hb d_S_arrivalAt_89 rfl (lv_at hl 4 rfl) ?_
        refine va_get (D := L.1) (ci := 4) (v := .ref (cA L 1)) (C := qR4) (T := qT4) (N := 7) hx hb hts qi4 hown hK hw.1 4 rfl rfl 0 (by decide) (hts _ wG195) (fun _ h9 => h9) rfl d_S_arrivalAt_90 ?_
        refine va_get (D := L.1) (ci := 1) (v := .ref (cA L 13)) (C := qR1) (T := qT1) (N := 13) hx hb hts qi1 hown hK hw.1 1 rfl rfl 4 (by decide) (hts _ wG98) (fun _ h9 => h9) rfl d_S_arrivalAt_93 ?_
        refine lv_iload_n hx hb d_S_arrivalAt_96 rfl (lv_at hl 3 rfl) ?_
        obtain ⟨hi_22, h⟩ := h
        refine c_iald hx hb hK hw.1 3 (by decide) rfl hi_22 d_S_arrivalAt_97 ?_
        refine lv_dload hx hb d_S_arrivalAt_98 (lv_at hl 0 rfl) ?_
        refine lv_aload_n hx hb d_S_arrivalAt_100 rfl (lv_at hl 4 rfl) ?_
        refine va_get (D := L.1) (ci := 4) (v := .ref (cA L 8)) (C := qR4) (T := qT4) (N := 7) hx hb hts qi4 hown hK hw.1 4 rfl rfl 2 (by decide) (hts _ wG197) (fun _ h9 => h9) rfl d_S_arrivalAt_101 ?_
        refine lv_aload_n hx hb d_S_arrivalAt_104 rfl (lv_at hl 4 rfl) ?_
        refine va_get (D := L.1) (ci := 4) (v := .ref (cA L 1)) (C := qR4) (T := qT4) (N := 7) hx hb hts qi4 hown hK hw.1 4 rfl rfl 0 (by decide) (hts _ wG195) (fun _ h9 => h9) rfl d_S_arrivalAt_105 ?_
        refine va_get (D := L.1) (ci := 1) (v := .ref (cA L 10)) (C := qR1) (T := qT1) (N := 13) hx hb hts qi1 hown hK hw.1 1 rfl rfl 1 (by decide) (hts _ wG92) (fun _ h9 => h9) rfl d_S_arrivalAt_108 ?_
        refine lv_iload_n hx hb d_S_arrivalAt_111 rfl (lv_at hl 3 rfl) ?_
        obtain ⟨hi_23, h⟩ := h
        refine c_iald hx hb hK hw.1 0 (by decide) rfl hi_23 d_S_arrivalAt_112 ?_
        obtain ⟨hi_24, h⟩ := h
        refine c_dald hx hb hK hw.1 0 rfl hi_24 d_S_arrivalAt_113 ?_
        obtain ⟨hn_25, h⟩ := h
        refine lv_dadd hx hb d_S_arrivalAt_114 hn_25 ?_
        obtain ⟨hi_26, h⟩ := h
        refine c_dast hx hb hK hw 1 rfl (fun _ => rfl) hi_26 d_S_arrivalAt_115 (fun H locs hw => ?_)
        obtain ⟨G_27, eG_27⟩ : ∃ y : MG, y = setG G 1 (vf_upd (G 1) (F 3 x_9.toNatClampNeg).toNatClampNeg (FP.dadd r_13 (G 0 (F 0 x_9.toNatClampNeg).toNatClampNeg))) := ⟨_, rfl⟩
        rw [← eG_27] at hw
        replace h := h G_27 eG_27
        obtain ⟨x_28, ex_28⟩ : ∃ y : Int32, y = a2 + 1 := ⟨_, rfl⟩
        replace h := h x_28 ex_28
        refine lv_iinc (v := x_28) (lv' := [(2, .int x_28), (8, .double r_13), (6, .double r_13), (4, .double r_11), (3, .int x_9), (0, .ref (cA L 4)), (1, .int a1)]) hx hb d_S_arrivalAt_116 hl (k := 6) rfl (by rw [ex_28]; rfl) (by decide) rfl (fun ls hl => ?_)
        refine lv_goto (tgt := 23) hx hb d_S_arrivalAt_119 (by decide) ?_
        exact ih x_28 I F G_27 _ _ ls h hw (lv_sub hl [5, 6, 0] rfl)
set_option maxHeartbeats 4000000 in
set_option maxRecDepth 100000 in
theorem c_S_arrivalAt (l : Launch) (L : cL) (a1 : Int32) (I : MI) (F : MF) (G : MG) (sz : Nat) (post : UInt64 → MI → MF → MG → Prop) (h : wp_S_arrivalAt a1 I F G post) : Met l y_S_arrivalAt (.code y_S_arrivalAt b_S_arrivalAt 10 (some .double) :: lwG) rm_S_arrivalAt (cPm L I F G sz [.ref (cA L 4), .int a1]) (cQd L (cAA L I F G sz) post (cAA L I F G sz)) 0 0 (cAA L I F G sz) := by
  refine Met.ofW (cc := b_S_arrivalAt) (maxL := 10) (ret := (some .double)) (by decide) rfl ?_
  intro p e s m args below meth c s₁ B hml hv
  obtain ⟨rfl, hsz, hP, hK, hD0, hN⟩ := hv
  have xc : xC p s m _ meth c b_S_arrivalAt 10 lwG qR4 (some .double) := ⟨B.exec, B.bytes, hml, findClass_of_methodNamed B.named, fun w h => atoms_spec (ws := (.code y_S_arrivalAt b_S_arrivalAt 10 (some .double) :: lwG)) B.pre w (List.mem_cons_of_mem _ h), B.returns, B.notSynchronized⟩
  obtain ⟨hx, hb, hml, hown, hts, hr, hlocks⟩ := id xc
  subst hsz
  have hD : va_D (cAA L I F G s.heap.size) (WC L I F G) := hD0.self
  have hA0 : ∀ q : Nat, s.heap.size ≤ q → cAA L I F G s.heap.size q := fun q h => Or.inr h
  generalize cAA L I F G s.heap.size = A at hD hA0 ⊢
  have hA := hA0
  have hw : CW L A s.heap I F G s.heap [] := ⟨hP, hD, va_S.rf⟩
  have hl := lv_entry ([.ref (cA L 4), .int a1]) (n := 10) (Nat.le_of_ble_eq_true rfl)
  rw [lg_entry_eq]
  generalize (lg_sl ([.ref (cA L 4), .int a1]) ++ List.replicate (10 - (lg_sl ([.ref (cA L 4), .int a1])).length) Slot.unset).toArray = ls at hl ⊢
  have hl : lv_has ls 10 [(0, .ref (cA L 4)), (1, .int a1)] := hl
  refine lv_iconst (v := 0) hx hb d_S_arrivalAt_0 (by decide) ?_
  refine lv_istore_n (lv' := [(2, .int 0), (0, .ref (cA L 4)), (1, .int a1)]) hx hb d_S_arrivalAt_1 rfl hl (by decide) rfl (fun ls hl => ?_)
  obtain ⟨n_33, h⟩ := h
  refine Wl_S_arrivalAt_2 xc hK hN hA (hk := fun x_5 I_6 F_6 G_6 H locs ls h hw hl => ?_) n_33 0 I F G _ _ ls h hw (lv_sub hl [1, 2, 0] rfl)
  refine lv_iconst (v := 0) hx hb d_S_arrivalAt_21 (by decide) ?_
  refine lv_istore_n (lv' := [(2, .int 0), (0, .ref (cA L 4)), (1, .int a1)]) hx hb d_S_arrivalAt_22 rfl hl (by decide) rfl (fun ls hl => ?_)
  obtain ⟨n_32, h⟩ := h
  refine Wl_S_arrivalAt_23 xc hK hN hA (hk := fun x_29 I_30 F_30 G_30 H locs ls h hw hl => ?_) n_32 0 I_6 F_6 G_6 _ _ ls h hw (lv_sub hl [1, 2, 0] rfl)
  refine lv_aload_n hx hb d_S_arrivalAt_122 rfl (lv_at hl 0 rfl) ?_
  refine va_get (D := L.1) (ci := 4) (v := .ref (cA L 9)) (C := qR4) (T := qT4) (N := 7) hx hb hts qi4 hown hK hw.1 4 rfl rfl 3 (by decide) (hts _ wG199) (fun _ h9 => h9) rfl d_S_arrivalAt_123 ?_
  refine lv_iload_n hx hb d_S_arrivalAt_126 rfl (lv_at hl 1 rfl) ?_
  obtain ⟨hi_31, h⟩ := h
  refine c_dald hx hb hK hw.1 1 rfl hi_31 d_S_arrivalAt_127 ?_
  exact W.dret hx hb hr (fun t ht hW => ⟨⟨_, (I_30, F_30, G_30), rfl, h, by rw [ht]; exact hw.1, va_K.moved hW.alike hK, hw.2.1⟩, hw.2.2.F ht⟩) hw.2.2.2.2 d_S_arrivalAt_128
abbrev rm_F_arrival : Room := { frames := 8, cells := 3, slots := 18, locals := 181 }
set_option maxHeartbeats 4000000 in
set_option maxRecDepth 100000 in
theorem c_F_arrival (l : Launch) (L : cL) (hst : l.stackTraces = false) (a1 : Int32) (I : MI) (F : MF) (G : MG) (sz : Nat) (post : UInt64 → MI → MF → MG → Prop) (thr : String → MI → MF → MG → Prop) (h : wp_F_arrival a1 I F G post thr) : tx_Met l y_F_arrival (.code y_F_arrival b_F_arrival 2 (some .double) :: lwG) rm_F_arrival (cPx L I F G sz [.ref (cA L 0), .int a1]) (cRd L (cAA L I F G sz) post (cAA L I F G sz)) (cX L (cAA L I F G sz) thr (cAA L I F G sz)) 3 18 (cAA L I F G sz) := by
  refine tx_ofW (cc := b_F_arrival) (maxL := 2) (ret := (some .double)) (by decide) rfl ?_
  intro p e s m args below meth c s₁ B hml hnt hv
  obtain ⟨rfl, hsz, hP, hK, hD0, hN, hz, hsr⟩ := hv
  have xc : xC p s m _ meth c b_F_arrival 2 lwG qR0 (some .double) := ⟨B.exec, B.bytes, hml, findClass_of_methodNamed B.named, fun w h => atoms_spec (ws := (.code y_F_arrival b_F_arrival 2 (some .double) :: lwG)) B.pre w (List.mem_cons_of_mem _ h), B.returns, B.notSynchronized⟩
  obtain ⟨hx, hb, hml, hown, hts, hr, hlocks⟩ := id xc
  subst hsz
  have hD : va_D (cAA L I F G s.heap.size) (WC L I F G) := hD0.self
  have hA0 : ∀ q : Nat, s.heap.size ≤ q → cAA L I F G s.heap.size q := fun q h => Or.inr h
  generalize cAA L I F G s.heap.size = A at hD hA0 hz ⊢
  have hA := hA0
  have hw : CW L A s.heap I F G s.heap [] := ⟨hP, hD, va_S.rf⟩
  have hl := lv_entry ([.ref (cA L 0), .int a1]) (n := 2) (Nat.le_of_ble_eq_true rfl)
  rw [lg_entry_eq]
  generalize (lg_sl ([.ref (cA L 0), .int a1]) ++ List.replicate (2 - (lg_sl ([.ref (cA L 0), .int a1])).length) Slot.unset).toArray = ls at hl ⊢
  have hl : lv_has ls 2 [(0, .ref (cA L 0)), (1, .int a1)] := hl
  refine lv_aload_n hx hb d_F_arrival_0 rfl (lv_at hl 0 rfl) ?_
  refine lv_iload_n hx hb d_F_arrival_1 rfl (lv_at hl 1 rfl) ?_
  refine c_callXv (tx_runV (As := [.int a1]) (rest := []) ⟨hx, hb, hml, hown, hts⟩ (c_F_needNet l L hst a1 I F G _ _ _ h) (cwV 1 hts (gV wG496 wG498 wG7 wG48 wG499) rfl rfl rfl (by decide +kernel) ⟨Nat.le_of_ble_eq_true rfl, Nat.le_of_ble_eq_true rfl⟩) (cPrx0 hK hN hw hA hz hsr) rfl rfl hl.1 rfl (lv_room (Nat.le_of_ble_eq_true rfl)) d_F_arrival_2 ⟨Nat.le_of_ble_eq_true rfl, Nat.le_of_ble_eq_true rfl⟩) hw hA hK hnt hlocks (Nat.le_of_ble_eq_true rfl) (Nat.le_of_ble_eq_true rfl) (fun I_1 F_1 G_1 H locs h hw => ?_)
  refine lv_aload_n hx hb d_F_arrival_5 rfl (lv_at hl 0 rfl) ?_
  refine c_callXv (tx_runV (As := []) (rest := []) ⟨hx, hb, hml, hown, hts⟩ (c_F_needRouted l L hst I_1 F_1 G_1 _ _ _ h) (cwV 0 hts (gV wG521 wG523 wG9 wG48 wG524) rfl rfl rfl (by decide +kernel) ⟨Nat.le_of_ble_eq_true rfl, Nat.le_of_ble_eq_true rfl⟩) (cPrx0 hK hN hw hA hz hsr) rfl rfl hl.1 rfl (lv_room (Nat.le_of_ble_eq_true rfl)) d_F_arrival_6 ⟨Nat.le_of_ble_eq_true rfl, Nat.le_of_ble_eq_true rfl⟩) hw hA hK hnt hlocks (Nat.le_of_ble_eq_true rfl) (Nat.le_of_ble_eq_true rfl) (fun I_2 F_2 G_2 H locs h hw => ?_)
  refine lv_aload_n hx hb d_F_arrival_9 rfl (lv_at hl 0 rfl) ?_
  refine va_get (D := L.1) (ci := 0) (v := .ref (cA L 4)) (C := qR0) (T := qT0) (N := 5) hx hb hts qi0 hown hK hw.1 0 rfl rfl 3 (by decide) (hts _ wG222) (fun _ h9 => h9) rfl d_F_arrival_10 ?_
  refine c_callv (va_runV (As := []) (rest := []) ⟨hx, hb, hml, hown, hts⟩ (c_S_orderGates l L I_2 F_2 G_2 _ _ h) (cwV 0 hts (gV wG652 wG653 wG654 wG53 wG655) rfl rfl rfl (by decide +kernel) ⟨Nat.le_of_ble_eq_true rfl, Nat.le_of_ble_eq_true rfl⟩) (cPrm4 hK hN hw) rfl rfl hl.1 rfl (lv_room (Nat.le_of_ble_eq_true rfl)) d_F_arrival_13 ⟨Nat.le_of_ble_eq_true rfl, Nat.le_of_ble_eq_true rfl⟩) hw hA (fun I_3 F_3 G_3 H locs h hw => ?_)
  refine lv_aload_n hx hb d_F_arrival_16 rfl (lv_at hl 0 rfl) ?_
  refine va_get (D := L.1) (ci := 0) (v := .ref (cA L 4)) (C := qR0) (T := qT0) (N := 5) hx hb hts qi0 hown hK hw.1 0 rfl rfl 3 (by decide) (hts _ wG222) (fun _ h9 => h9) rfl d_F_arrival_17 ?_
  refine lv_iload_n hx hb d_F_arrival_20 rfl (lv_at hl 1 rfl) ?_
  refine vp_callSi (va_runV (As := [.int a1]) (rest := []) ⟨hx, hb, hml, hown, hts⟩ (c_S_isSettled l L a1 I_3 F_3 G_3 _ h) (cwV 1 hts (gV wG668 wG662 wG663 wG53 wG664) rfl rfl rfl (by decide +kernel) ⟨Nat.le_of_ble_eq_true rfl, Nat.le_of_ble_eq_true rfl⟩) (cPre4 hK hN hw.1) rfl rfl hl.1 rfl (lv_room (Nat.le_of_ble_eq_true rfl)) d_F_arrival_21 ⟨Nat.le_of_ble_eq_true rfl, Nat.le_of_ble_eq_true rfl⟩).run (fun r_4 h => ?_)
  refine lv_if_ne (tgt := 37) hx hb d_F_arrival_24 (by decide) (fun c_5 => ?_) (fun c_5 => ?_)
  · replace h := h.1 c_5
    refine lv_aload_n hx hb d_F_arrival_37 rfl (lv_at hl 0 rfl) ?_
    refine va_get (D := L.1) (ci := 0) (v := .ref (cA L 4)) (C := qR0) (T := qT0) (N := 5) hx hb hts qi0 hown hK hw.1 0 rfl rfl 3 (by decide) (hts _ wG222) (fun _ h9 => h9) rfl d_F_arrival_38 ?_
    refine lv_iload_n hx hb d_F_arrival_41 rfl (lv_at hl 1 rfl) ?_
    refine c_calld (va_runV (As := [.int a1]) (rest := []) ⟨hx, hb, hml, hown, hts⟩ (c_S_arrivalAt l L a1 I_3 F_3 G_3 _ _ h) (cwV 1 hts (gV wG685 wG686 wG687 wG53 wG688) rfl rfl rfl (by decide +kernel) ⟨Nat.le_of_ble_eq_true rfl, Nat.le_of_ble_eq_true rfl⟩) (cPrm4 hK hN hw) rfl rfl hl.1 rfl (lv_room (Nat.le_of_ble_eq_true rfl)) d_F_arrival_42 ⟨Nat.le_of_ble_eq_true rfl, Nat.le_of_ble_eq_true rfl⟩) hw hA (fun r_6 I_7 F_7 G_7 H locs h hw => ?_)
    refine W.widen (k := 3) (n := 18) (Nat.le_of_ble_eq_true rfl) (Nat.le_of_ble_eq_true rfl) ?_
    refine tx_ret ?_
    exact W.dret hx hb hr (fun t ht hW => ⟨⟨_, (I_7, F_7, G_7), rfl, ⟨_, rfl, h⟩, by rw [ht]; exact hw.1, va_K.moved hW.alike hK, hw.2.1⟩, hw.2.2.F ht⟩) hw.2.2.2.2 d_F_arrival_45
  · replace h := h.2 c_5
    obtain ⟨sa, hsa⟩ := hsr.1 (qR0, 178, "the arrival depends on itself") (by decide +kernel)
    exact tx_throwS (Ts := lwH) hx hb hst hown (cHts hts hsr.2) hz hw.2.2 (by decide +kernel) (by decide +kernel) th_F_176_180 hsa (hl.1.trans hml.symm) d_F_arrival_27 d_F_arrival_30 d_F_arrival_31 d_F_arrival_33 d_F_arrival_36 hnt (Nat.le_of_ble_eq_true rfl) (Nat.le_of_ble_eq_true rfl) (Nat.le_of_ble_eq_true rfl) (Nat.le_of_ble_eq_true rfl) hlocks (cX_of hw hK h) hw.2.2.2.2 (Nat.le_of_ble_eq_true rfl) (Nat.le_of_ble_eq_true rfl)
abbrev rm_S_allSettled : Room := { frames := 0, cells := 0, slots := 0, locals := 0 }
set_option maxHeartbeats 4000000 in
set_option maxRecDepth 100000 in
theorem c_S_allSettled (l : Launch) (L : cL) (I : MI) (F : MF) (G : MG) (post : Int32 → Prop) (h : wp_S_allSettled I F G post) : Met l y_S_allSettled (.code y_S_allSettled b_S_allSettled 1 (some .boolean) :: lwG) rm_S_allSettled (cPc L I F G [.ref (cA L 4)]) (vp_Si post) 0 0 (fun _ => False) := by
  refine Met.ofW (cc := b_S_allSettled) (maxL := 1) (ret := (some .boolean)) (by decide) rfl ?_
  intro p e s m args below meth c s₁ B hml hv
  obtain ⟨rfl, hP, hK, hN⟩ := hv
  have xc : xC p s m _ meth c b_S_allSettled 1 lwG qR4 (some .boolean) := ⟨B.exec, B.bytes, hml, findClass_of_methodNamed B.named, fun w h => atoms_spec (ws := (.code y_S_allSettled b_S_allSettled 1 (some .boolean) :: lwG)) B.pre w (List.mem_cons_of_mem _ h), B.returns, B.notSynchronized⟩
  obtain ⟨hx, hb, hml, hown, hts, hr, hlocks⟩ := id xc
  have hl := lv_entry ([.ref (cA L 4)]) (n := 1) (Nat.le_of_ble_eq_true rfl)
  rw [lg_entry_eq]
  generalize (lg_sl ([.ref (cA L 4)]) ++ List.replicate (1 - (lg_sl ([.ref (cA L 4)])).length) Slot.unset).toArray = ls at hl ⊢
  have hl : lv_has ls 1 [(0, .ref (cA L 4))] := hl
  refine lv_aload_n hx hb d_S_allSettled_0 rfl (lv_at hl 0 rfl) ?_
  refine va_get (D := L.1) (ci := 4) (v := .int (I 4)) (C := qR4) (T := qT4) (N := 7) hx hb hts qi4 hown hK hP 4 rfl rfl 5 (by decide) (hts _ wG201) (fun _ h9 => h9) rfl d_S_allSettled_1 ?_
  refine lv_aload_n hx hb d_S_allSettled_4 rfl (lv_at hl 0 rfl) ?_
  refine va_get (D := L.1) (ci := 4) (v := .ref (cA L 1)) (C := qR4) (T := qT4) (N := 7) hx hb hts qi4 hown hK hP 4 rfl rfl 0 (by decide) (hts _ wG195) (fun _ h9 => h9) rfl d_S_allSettled_5 ?_
  refine va_get (D := L.1) (ci := 1) (v := .int (I 1)) (C := qR1) (T := qT1) (N := 13) hx hb hts qi1 hown hK hP 1 rfl rfl 0 (by decide) (hts _ wG89) (fun _ h9 => h9) rfl d_S_allSettled_8 ?_
  refine lv_icmp_ne (tgt := 18) hx hb d_S_allSettled_11 (by decide) (fun c_1 => ?_) (fun c_1 => ?_)
  · replace h := h.1 c_1
    refine lv_iconst (v := 0) hx hb d_S_allSettled_18 (by decide) ?_
    exact W.zret hx hb hr rfl (fun t ht _ => ⟨_, rfl, h, ht⟩) (fun _ h9 => nomatch h9) d_S_allSettled_19
  · replace h := h.2 c_1
    refine lv_iconst (v := 1) hx hb d_S_allSettled_14 (by decide) ?_
    refine lv_goto (tgt := 19) hx hb d_S_allSettled_15 (by decide) ?_
    exact W.zret hx hb hr rfl (fun t ht _ => ⟨_, rfl, h, ht⟩) (fun _ h9 => nomatch h9) d_S_allSettled_19
