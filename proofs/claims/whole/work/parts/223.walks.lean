abbrev rm_N_isAbove : Room := { frames := 3, cells := 0, slots := 0, locals := 63 }
set_option maxHeartbeats 4000000 in
set_option maxRecDepth 100000 in
theorem Wl_N_isAbove_25 {p : Program} {l : Launch} {e : Env} {s : State} {m : MethodId} {args : Array Value} {below : List Frame} {meth : Method} {c : Code} {L : cL} {I : MI} {F : MF} {G : MG} {post : Int32 → Prop} {K : Int32 → Prop} {a1 : Int32} {a2 : Int32} (xc : xC p s m args meth c b_N_isAbove 4 lwG qR1 (some .boolean)) (hP : va_P L.1 vwCl (WC L I F G) s.heap) (hK : va_K L.1 vwCl (cTys L) s) (hN : cNk s)
    (hk : ∀ (a3 : Int32) (ls : Array Slot), K a3 → lv_has ls 4 [(0, .ref (cA L 1)), (1, .int a1), (2, .int a2), (3, .int a3)] → W p l e rm_N_isAbove s m args below meth c s.heap [] 0 0 (MQ below (vp_Si post) args s 0 0 (fun _ => False)) (F0 m 63 ls [])) :
    ∀ (n : Nat) (a3 : Int32) (ls : Array Slot), wl_N_isAbove_25 post K a1 a2 I F G n a3 → lv_has ls 4 [(0, .ref (cA L 1)), (1, .int a1), (2, .int a2), (3, .int a3)] → W p l e rm_N_isAbove s m args below meth c s.heap [] 0 0 (MQ below (vp_Si post) args s 0 0 (fun _ => False)) (F0 m 25 ls []) := by
  obtain ⟨hx, hb, hml, hown, hts, hr, hlocks⟩ := id xc
  intro n
  induction n with
  | zero => intro a3 ls h; exact absurd h id
  | succ n ih =>
    intro a3 ls h hl
    refine lv_iload_n hx hb d_N_isAbove_25 rfl (lv_at hl 3 rfl) ?_
    refine lv_bipush (v := 24) hx hb d_N_isAbove_26 (by decide) ?_
    refine lv_icmp_ge (tgt := 63) hx hb d_N_isAbove_28 (by decide) (fun c_6 => ?_) (fun c_6 => ?_)
    · replace h := h.1 c_6
      exact hk a3 ls h (lv_sub hl [0, 1, 2, 3] rfl)
    · replace h := h.2 c_6
      refine lv_aload_n hx hb d_N_isAbove_31 rfl (lv_at hl 0 rfl) ?_
      refine va_get (D := L.1) (ci := 1) (v := .ref (cA L 5)) (C := qR1) (T := qT1) (N := 13) hx hb hts qi1 hown hK hP 1 rfl rfl 8 (by decide) (hts _ wG103) (fun _ h9 => h9) rfl d_N_isAbove_32 ?_
      refine lv_iconst (v := 0) hx hb d_N_isAbove_35 (by decide) ?_
      obtain ⟨hi_7, h⟩ := h
      refine c_row5 hx hb hK hP hi_7 d_N_isAbove_36 ?_
      refine lv_iload_n hx hb d_N_isAbove_37 rfl (lv_at hl 3 rfl) ?_
      obtain ⟨hi_8, h⟩ := h
      refine c_iald hx hb hK hP (15 + (0 : Int32).toNatClampNeg) (row_lt15 hi_7) (row_len15 hi_7) hi_8 d_N_isAbove_38 ?_
      refine lv_iload_n hx hb d_N_isAbove_39 rfl (lv_at hl 1 rfl) ?_
      refine lv_icmp_ne (tgt := 57) hx hb d_N_isAbove_40 (by decide) (fun c_9 => ?_) (fun c_9 => ?_)
      · replace h := h.1 c_9
        obtain ⟨x_10, ex_10⟩ : ∃ y : Int32, y = a3 + 1 := ⟨_, rfl⟩
        replace h := h x_10 ex_10
        refine lv_iinc (v := x_10) (lv' := [(3, .int x_10), (0, .ref (cA L 1)), (1, .int a1), (2, .int a2)]) hx hb d_N_isAbove_57 hl (k := 3) rfl (by rw [ex_10]; rfl) (by decide) rfl (fun ls hl => ?_)
        refine lv_goto (tgt := 25) hx hb d_N_isAbove_60 (by decide) ?_
        exact ih x_10 ls h (lv_sub hl [1, 2, 3, 0] rfl)
      · replace h := h.2 c_9
        refine lv_aload_n hx hb d_N_isAbove_43 rfl (lv_at hl 0 rfl) ?_
        refine va_get (D := L.1) (ci := 1) (v := .ref (cA L 5)) (C := qR1) (T := qT1) (N := 13) hx hb hts qi1 hown hK hP 1 rfl rfl 8 (by decide) (hts _ wG103) (fun _ h9 => h9) rfl d_N_isAbove_44 ?_
        refine lv_iconst (v := 1) hx hb d_N_isAbove_47 (by decide) ?_
        obtain ⟨hi_11, h⟩ := h
        refine c_row5 hx hb hK hP hi_11 d_N_isAbove_48 ?_
        refine lv_iload_n hx hb d_N_isAbove_49 rfl (lv_at hl 3 rfl) ?_
        obtain ⟨hi_12, h⟩ := h
        refine c_iald hx hb hK hP (15 + (1 : Int32).toNatClampNeg) (row_lt15 hi_11) (row_len15 hi_11) hi_12 d_N_isAbove_50 ?_
        refine lv_iload_n hx hb d_N_isAbove_51 rfl (lv_at hl 2 rfl) ?_
        refine lv_icmp_ne (tgt := 57) hx hb d_N_isAbove_52 (by decide) (fun c_13 => ?_) (fun c_13 => ?_)
        · replace h := h.1 c_13
          obtain ⟨x_14, ex_14⟩ : ∃ y : Int32, y = a3 + 1 := ⟨_, rfl⟩
          replace h := h x_14 ex_14
          refine lv_iinc (v := x_14) (lv' := [(3, .int x_14), (0, .ref (cA L 1)), (1, .int a1), (2, .int a2)]) hx hb d_N_isAbove_57 hl (k := 3) rfl (by rw [ex_14]; rfl) (by decide) rfl (fun ls hl => ?_)
          refine lv_goto (tgt := 25) hx hb d_N_isAbove_60 (by decide) ?_
          exact ih x_14 ls h (lv_sub hl [1, 2, 3, 0] rfl)
        · replace h := h.2 c_13
          refine lv_iconst (v := 1) hx hb d_N_isAbove_55 (by decide) ?_
          exact W.zret hx hb hr rfl (fun t ht _ => ⟨_, rfl, h, ht⟩) (fun _ h9 => nomatch h9) d_N_isAbove_56
set_option maxHeartbeats 4000000 in
set_option maxRecDepth 100000 in
theorem c_N_isAbove (l : Launch) (L : cL) (a1 : Int32) (a2 : Int32) (I : MI) (F : MF) (G : MG) (post : Int32 → Prop) (h : wp_N_isAbove a1 a2 I F G post) : Met l y_N_isAbove (.code y_N_isAbove b_N_isAbove 4 (some .boolean) :: lwG) rm_N_isAbove (cPc L I F G [.ref (cA L 1), .int a1, .int a2]) (vp_Si post) 0 0 (fun _ => False) := by
  refine Met.ofW (cc := b_N_isAbove) (maxL := 4) (ret := (some .boolean)) (by decide) rfl ?_
  intro p e s m args below meth c s₁ B hml hv
  obtain ⟨rfl, hP, hK, hN⟩ := hv
  have xc : xC p s m _ meth c b_N_isAbove 4 lwG qR1 (some .boolean) := ⟨B.exec, B.bytes, hml, findClass_of_methodNamed B.named, fun w h => atoms_spec (ws := (.code y_N_isAbove b_N_isAbove 4 (some .boolean) :: lwG)) B.pre w (List.mem_cons_of_mem _ h), B.returns, B.notSynchronized⟩
  obtain ⟨hx, hb, hml, hown, hts, hr, hlocks⟩ := id xc
  have hl := lv_entry ([.ref (cA L 1), .int a1, .int a2]) (n := 4) (Nat.le_of_ble_eq_true rfl)
  rw [lg_entry_eq]
  generalize (lg_sl ([.ref (cA L 1), .int a1, .int a2]) ++ List.replicate (4 - (lg_sl ([.ref (cA L 1), .int a1, .int a2])).length) Slot.unset).toArray = ls at hl ⊢
  have hl : lv_has ls 4 [(0, .ref (cA L 1)), (1, .int a1), (2, .int a2)] := hl
  refine lv_iload_n hx hb d_N_isAbove_0 rfl (lv_at hl 1 rfl) ?_
  refine lv_iload_n hx hb d_N_isAbove_1 rfl (lv_at hl 2 rfl) ?_
  refine lv_icmp_eq (tgt := 21) hx hb d_N_isAbove_2 (by decide) (fun c_1 => ?_) (fun c_1 => ?_)
  · replace h := h.1 c_1
    refine lv_iconst (v := 0) hx hb d_N_isAbove_21 (by decide) ?_
    exact W.zret hx hb hr rfl (fun t ht _ => ⟨_, rfl, h, ht⟩) (fun _ h9 => nomatch h9) d_N_isAbove_22
  · replace h := h.2 c_1
    refine lv_aload_n hx hb d_N_isAbove_5 rfl (lv_at hl 0 rfl) ?_
    refine lv_iload_n hx hb d_N_isAbove_6 rfl (lv_at hl 1 rfl) ?_
    refine vp_callSi (va_runV (As := [.int a1]) (rest := []) ⟨hx, hb, hml, hown, hts⟩ (c_N_isWired l L a1 I F G _ h) (cwV 1 hts (gV wG385 wG386 wG387 wG49 wG388) rfl rfl rfl (by decide +kernel) ⟨Nat.le_of_ble_eq_true rfl, Nat.le_of_ble_eq_true rfl⟩) (cPre1 hK hN hP) rfl rfl hl.1 rfl (lv_room (Nat.le_of_ble_eq_true rfl)) d_N_isAbove_7 ⟨Nat.le_of_ble_eq_true rfl, Nat.le_of_ble_eq_true rfl⟩).run (fun r_2 h => ?_)
    refine lv_if_eq (tgt := 21) hx hb d_N_isAbove_10 (by decide) (fun c_3 => ?_) (fun c_3 => ?_)
    · replace h := h.1 c_3
      refine lv_iconst (v := 0) hx hb d_N_isAbove_21 (by decide) ?_
      exact W.zret hx hb hr rfl (fun t ht _ => ⟨_, rfl, h, ht⟩) (fun _ h9 => nomatch h9) d_N_isAbove_22
    · replace h := h.2 c_3
      refine lv_aload_n hx hb d_N_isAbove_13 rfl (lv_at hl 0 rfl) ?_
      refine lv_iload_n hx hb d_N_isAbove_14 rfl (lv_at hl 2 rfl) ?_
      refine vp_callSi (va_runV (As := [.int a2]) (rest := []) ⟨hx, hb, hml, hown, hts⟩ (c_N_isWired l L a2 I F G _ h) (cwV 1 hts (gV wG385 wG386 wG387 wG49 wG388) rfl rfl rfl (by decide +kernel) ⟨Nat.le_of_ble_eq_true rfl, Nat.le_of_ble_eq_true rfl⟩) (cPre1 hK hN hP) rfl rfl hl.1 rfl (lv_room (Nat.le_of_ble_eq_true rfl)) d_N_isAbove_15 ⟨Nat.le_of_ble_eq_true rfl, Nat.le_of_ble_eq_true rfl⟩).run (fun r_4 h => ?_)
      refine lv_if_ne (tgt := 23) hx hb d_N_isAbove_18 (by decide) (fun c_5 => ?_) (fun c_5 => ?_)
      · replace h := h.1 c_5
        refine lv_iconst (v := 0) hx hb d_N_isAbove_23 (by decide) ?_
        refine lv_istore_n (lv' := [(3, .int 0), (0, .ref (cA L 1)), (1, .int a1), (2, .int a2)]) hx hb d_N_isAbove_24 rfl hl (by decide) rfl (fun ls hl => ?_)
        obtain ⟨n_16, h⟩ := h
        refine Wl_N_isAbove_25 xc hP hK hN (hk := fun x_15 ls h hl => ?_) n_16 0 ls h (lv_sub hl [1, 2, 3, 0] rfl)
        refine lv_iconst (v := 0) hx hb d_N_isAbove_63 (by decide) ?_
        exact W.zret hx hb hr rfl (fun t ht _ => ⟨_, rfl, h, ht⟩) (fun _ h9 => nomatch h9) d_N_isAbove_64
      · replace h := h.2 c_5
        refine lv_iconst (v := 0) hx hb d_N_isAbove_21 (by decide) ?_
        exact W.zret hx hb hr rfl (fun t ht _ => ⟨_, rfl, h, ht⟩) (fun _ h9 => nomatch h9) d_N_isAbove_22
abbrev rm_C_isFreeFromAbove : Room := { frames := 4, cells := 0, slots := 0, locals := 86 }
set_option maxHeartbeats 4000000 in
set_option maxRecDepth 100000 in
theorem Wl_C_isFreeFromAbove_2 {p : Program} {l : Launch} {e : Env} {s : State} {m : MethodId} {args : Array Value} {below : List Frame} {meth : Method} {c : Code} {L : cL} {I : MI} {F : MF} {G : MG} {post : Int32 → Prop} {K : Int32 → Prop} {a1 : Int32} {a2 : Int32} (xc : xC p s m args meth c b_C_isFreeFromAbove 5 lwG qR2 (some .boolean)) (hP : va_P L.1 vwCl (WC L I F G) s.heap) (hK : va_K L.1 vwCl (cTys L) s) (hN : cNk s)
    (hk : ∀ (a3 : Int32) (ls : Array Slot), K a3 → lv_has ls 5 [(0, .ref (cA L 2)), (1, .int a1), (2, .int a2), (3, .int a3)] → W p l e rm_C_isFreeFromAbove s m args below meth c s.heap [] 0 0 (MQ below (vp_Si post) args s 0 0 (fun _ => False)) (F0 m 59 ls [])) :
    ∀ (n : Nat) (a3 : Int32) (ls : Array Slot), wl_C_isFreeFromAbove_2 post K a1 a2 I F G n a3 → lv_has ls 5 [(0, .ref (cA L 2)), (1, .int a1), (2, .int a2), (3, .int a3)] → W p l e rm_C_isFreeFromAbove s m args below meth c s.heap [] 0 0 (MQ below (vp_Si post) args s 0 0 (fun _ => False)) (F0 m 2 ls []) := by
  obtain ⟨hx, hb, hml, hown, hts, hr, hlocks⟩ := id xc
  intro n
  induction n with
  | zero => intro a3 ls h; exact absurd h id
  | succ n ih =>
    intro a3 ls h hl
    refine lv_iload_n hx hb d_C_isFreeFromAbove_2 rfl (lv_at hl 3 rfl) ?_
    refine lv_bipush (v := 12) hx hb d_C_isFreeFromAbove_3 (by decide) ?_
    refine lv_icmp_ge (tgt := 59) hx hb d_C_isFreeFromAbove_5 (by decide) (fun c_1 => ?_) (fun c_1 => ?_)
    · replace h := h.1 c_1
      exact hk a3 ls h (lv_sub hl [0, 1, 2, 3] rfl)
    · replace h := h.2 c_1
      refine lv_aload_n hx hb d_C_isFreeFromAbove_8 rfl (lv_at hl 0 rfl) ?_
      refine va_get (D := L.1) (ci := 2) (v := .ref (cA L 20)) (C := qR2) (T := qT2) (N := 3) hx hb hts qi2 hown hK hP 2 rfl rfl 2 (by decide) (hts _ wG149) (fun _ h9 => h9) rfl d_C_isFreeFromAbove_9 ?_
      refine lv_iload_n hx hb d_C_isFreeFromAbove_12 rfl (lv_at hl 3 rfl) ?_
      obtain ⟨hi_2, h⟩ := h
      refine c_iald hx hb hK hP 10 (by decide) rfl hi_2 d_C_isFreeFromAbove_13 ?_
      refine lv_if_le (tgt := 31) hx hb d_C_isFreeFromAbove_14 (by decide) (fun c_3 => ?_) (fun c_3 => ?_)
      · replace h := h.1 c_3
        refine lv_iconst (v := 0) hx hb d_C_isFreeFromAbove_31 (by decide) ?_
        refine lv_istore (lv' := [(4, .int 0), (0, .ref (cA L 2)), (1, .int a1), (2, .int a2), (3, .int a3)]) hx hb d_C_isFreeFromAbove_32 hl (by decide) rfl (fun ls hl => ?_)
        refine lv_iload hx hb d_C_isFreeFromAbove_34 (lv_at hl 0 rfl) ?_
        refine lv_if_ne (tgt := 53) hx hb d_C_isFreeFromAbove_36 (by decide) (fun c_4 => ?_) (fun c_4 => ?_)
        · exact absurd c_4 (by decide)
        · skip
          refine lv_aload_n hx hb d_C_isFreeFromAbove_39 rfl (lv_at hl 1 rfl) ?_
          refine va_get (D := L.1) (ci := 2) (v := .ref (cA L 1)) (C := qR2) (T := qT2) (N := 3) hx hb hts qi2 hown hK hP 2 rfl rfl 0 (by decide) (hts _ wG145) (fun _ h9 => h9) rfl d_C_isFreeFromAbove_40 ?_
          refine lv_iload_n hx hb d_C_isFreeFromAbove_43 rfl (lv_at hl 4 rfl) ?_
          refine lv_iload_n hx hb d_C_isFreeFromAbove_44 rfl (lv_at hl 2 rfl) ?_
          refine vp_callSi (va_runV (As := [.int a3, .int a1]) (rest := []) ⟨hx, hb, hml, hown, hts⟩ (c_N_isAbove l L a3 a1 I F G _ h) (cwV 2 hts (gV wG410 wG411 wG412 wG49 wG413) rfl rfl rfl (by decide +kernel) ⟨Nat.le_of_ble_eq_true rfl, Nat.le_of_ble_eq_true rfl⟩) (cPre1 hK hN hP) rfl rfl hl.1 rfl (lv_room (Nat.le_of_ble_eq_true rfl)) d_C_isFreeFromAbove_45 ⟨Nat.le_of_ble_eq_true rfl, Nat.le_of_ble_eq_true rfl⟩).run (fun r_5 h => ?_)
          refine lv_if_eq (tgt := 53) hx hb d_C_isFreeFromAbove_48 (by decide) (fun c_6 => ?_) (fun c_6 => ?_)
          · replace h := h.1 c_6
            obtain ⟨x_7, ex_7⟩ : ∃ y : Int32, y = a3 + 1 := ⟨_, rfl⟩
            replace h := h x_7 ex_7
            refine lv_iinc (v := x_7) (lv' := [(3, .int x_7), (4, .int 0), (0, .ref (cA L 2)), (1, .int a1), (2, .int a2)]) hx hb d_C_isFreeFromAbove_53 hl (k := 4) rfl (by rw [ex_7]; rfl) (by decide) rfl (fun ls hl => ?_)
            refine lv_goto (tgt := 2) hx hb d_C_isFreeFromAbove_56 (by decide) ?_
            exact ih x_7 ls h (lv_sub hl [2, 3, 4, 0] rfl)
          · replace h := h.2 c_6
            refine lv_iconst (v := 0) hx hb d_C_isFreeFromAbove_51 (by decide) ?_
            exact W.zret hx hb hr rfl (fun t ht _ => ⟨_, rfl, h, ht⟩) (fun _ h9 => nomatch h9) d_C_isFreeFromAbove_52
      · replace h := h.2 c_3
        refine lv_aload_n hx hb d_C_isFreeFromAbove_17 rfl (lv_at hl 0 rfl) ?_
        refine va_get (D := L.1) (ci := 2) (v := .ref (cA L 20)) (C := qR2) (T := qT2) (N := 3) hx hb hts qi2 hown hK hP 2 rfl rfl 2 (by decide) (hts _ wG149) (fun _ h9 => h9) rfl d_C_isFreeFromAbove_18 ?_
        refine lv_iload_n hx hb d_C_isFreeFromAbove_21 rfl (lv_at hl 3 rfl) ?_
        obtain ⟨hi_8, h⟩ := h
        refine c_iald hx hb hK hP 10 (by decide) rfl hi_8 d_C_isFreeFromAbove_22 ?_
        refine lv_iload_n hx hb d_C_isFreeFromAbove_23 rfl (lv_at hl 2 rfl) ?_
        refine lv_icmp_ge (tgt := 31) hx hb d_C_isFreeFromAbove_24 (by decide) (fun c_9 => ?_) (fun c_9 => ?_)
        · replace h := h.1 c_9
          refine lv_iconst (v := 0) hx hb d_C_isFreeFromAbove_31 (by decide) ?_
          refine lv_istore (lv' := [(4, .int 0), (0, .ref (cA L 2)), (1, .int a1), (2, .int a2), (3, .int a3)]) hx hb d_C_isFreeFromAbove_32 hl (by decide) rfl (fun ls hl => ?_)
          refine lv_iload hx hb d_C_isFreeFromAbove_34 (lv_at hl 0 rfl) ?_
          refine lv_if_ne (tgt := 53) hx hb d_C_isFreeFromAbove_36 (by decide) (fun c_10 => ?_) (fun c_10 => ?_)
          · exact absurd c_10 (by decide)
          · skip
            refine lv_aload_n hx hb d_C_isFreeFromAbove_39 rfl (lv_at hl 1 rfl) ?_
            refine va_get (D := L.1) (ci := 2) (v := .ref (cA L 1)) (C := qR2) (T := qT2) (N := 3) hx hb hts qi2 hown hK hP 2 rfl rfl 0 (by decide) (hts _ wG145) (fun _ h9 => h9) rfl d_C_isFreeFromAbove_40 ?_
            refine lv_iload_n hx hb d_C_isFreeFromAbove_43 rfl (lv_at hl 4 rfl) ?_
            refine lv_iload_n hx hb d_C_isFreeFromAbove_44 rfl (lv_at hl 2 rfl) ?_
            refine vp_callSi (va_runV (As := [.int a3, .int a1]) (rest := []) ⟨hx, hb, hml, hown, hts⟩ (c_N_isAbove l L a3 a1 I F G _ h) (cwV 2 hts (gV wG410 wG411 wG412 wG49 wG413) rfl rfl rfl (by decide +kernel) ⟨Nat.le_of_ble_eq_true rfl, Nat.le_of_ble_eq_true rfl⟩) (cPre1 hK hN hP) rfl rfl hl.1 rfl (lv_room (Nat.le_of_ble_eq_true rfl)) d_C_isFreeFromAbove_45 ⟨Nat.le_of_ble_eq_true rfl, Nat.le_of_ble_eq_true rfl⟩).run (fun r_11 h => ?_)
            refine lv_if_eq (tgt := 53) hx hb d_C_isFreeFromAbove_48 (by decide) (fun c_12 => ?_) (fun c_12 => ?_)
            · replace h := h.1 c_12
              obtain ⟨x_13, ex_13⟩ : ∃ y : Int32, y = a3 + 1 := ⟨_, rfl⟩
              replace h := h x_13 ex_13
              refine lv_iinc (v := x_13) (lv' := [(3, .int x_13), (4, .int 0), (0, .ref (cA L 2)), (1, .int a1), (2, .int a2)]) hx hb d_C_isFreeFromAbove_53 hl (k := 4) rfl (by rw [ex_13]; rfl) (by decide) rfl (fun ls hl => ?_)
              refine lv_goto (tgt := 2) hx hb d_C_isFreeFromAbove_56 (by decide) ?_
              exact ih x_13 ls h (lv_sub hl [2, 3, 4, 0] rfl)
            · replace h := h.2 c_12
              refine lv_iconst (v := 0) hx hb d_C_isFreeFromAbove_51 (by decide) ?_
              exact W.zret hx hb hr rfl (fun t ht _ => ⟨_, rfl, h, ht⟩) (fun _ h9 => nomatch h9) d_C_isFreeFromAbove_52
        · replace h := h.2 c_9
          refine lv_iconst (v := 1) hx hb d_C_isFreeFromAbove_27 (by decide) ?_
          refine lv_goto (tgt := 32) hx hb d_C_isFreeFromAbove_28 (by decide) ?_
          refine lv_istore (lv' := [(4, .int 1), (0, .ref (cA L 2)), (1, .int a1), (2, .int a2), (3, .int a3)]) hx hb d_C_isFreeFromAbove_32 hl (by decide) rfl (fun ls hl => ?_)
          refine lv_iload hx hb d_C_isFreeFromAbove_34 (lv_at hl 0 rfl) ?_
          refine lv_if_ne (tgt := 53) hx hb d_C_isFreeFromAbove_36 (by decide) (fun c_14 => ?_) (fun c_14 => ?_)
          · skip
            obtain ⟨x_15, ex_15⟩ : ∃ y : Int32, y = a3 + 1 := ⟨_, rfl⟩
            replace h := h x_15 ex_15
            refine lv_iinc (v := x_15) (lv' := [(3, .int x_15), (4, .int 1), (0, .ref (cA L 2)), (1, .int a1), (2, .int a2)]) hx hb d_C_isFreeFromAbove_53 hl (k := 4) rfl (by rw [ex_15]; rfl) (by decide) rfl (fun ls hl => ?_)
            refine lv_goto (tgt := 2) hx hb d_C_isFreeFromAbove_56 (by decide) ?_
            exact ih x_15 ls h (lv_sub hl [2, 3, 4, 0] rfl)
          · exact absurd c_14 (by decide)
set_option maxHeartbeats 4000000 in
set_option maxRecDepth 100000 in
theorem c_C_isFreeFromAbove (l : Launch) (L : cL) (a1 : Int32) (a2 : Int32) (I : MI) (F : MF) (G : MG) (post : Int32 → Prop) (h : wp_C_isFreeFromAbove a1 a2 I F G post) : Met l y_C_isFreeFromAbove (.code y_C_isFreeFromAbove b_C_isFreeFromAbove 5 (some .boolean) :: lwG) rm_C_isFreeFromAbove (cPc L I F G [.ref (cA L 2), .int a1, .int a2]) (vp_Si post) 0 0 (fun _ => False) := by
  refine Met.ofW (cc := b_C_isFreeFromAbove) (maxL := 5) (ret := (some .boolean)) (by decide) rfl ?_
  intro p e s m args below meth c s₁ B hml hv
  obtain ⟨rfl, hP, hK, hN⟩ := hv
  have xc : xC p s m _ meth c b_C_isFreeFromAbove 5 lwG qR2 (some .boolean) := ⟨B.exec, B.bytes, hml, findClass_of_methodNamed B.named, fun w h => atoms_spec (ws := (.code y_C_isFreeFromAbove b_C_isFreeFromAbove 5 (some .boolean) :: lwG)) B.pre w (List.mem_cons_of_mem _ h), B.returns, B.notSynchronized⟩
  obtain ⟨hx, hb, hml, hown, hts, hr, hlocks⟩ := id xc
  have hl := lv_entry ([.ref (cA L 2), .int a1, .int a2]) (n := 5) (Nat.le_of_ble_eq_true rfl)
  rw [lg_entry_eq]
  generalize (lg_sl ([.ref (cA L 2), .int a1, .int a2]) ++ List.replicate (5 - (lg_sl ([.ref (cA L 2), .int a1, .int a2])).length) Slot.unset).toArray = ls at hl ⊢
  have hl : lv_has ls 5 [(0, .ref (cA L 2)), (1, .int a1), (2, .int a2)] := hl
  refine lv_iconst (v := 0) hx hb d_C_isFreeFromAbove_0 (by decide) ?_
  refine lv_istore_n (lv' := [(3, .int 0), (0, .ref (cA L 2)), (1, .int a1), (2, .int a2)]) hx hb d_C_isFreeFromAbove_1 rfl hl (by decide) rfl (fun ls hl => ?_)
  obtain ⟨n_17, h⟩ := h
  refine Wl_C_isFreeFromAbove_2 xc hP hK hN (hk := fun x_16 ls h hl => ?_) n_17 0 ls h (lv_sub hl [1, 2, 3, 0] rfl)
  refine lv_iconst (v := 1) hx hb d_C_isFreeFromAbove_59 (by decide) ?_
  exact W.zret hx hb hr rfl (fun t ht _ => ⟨_, rfl, h, ht⟩) (fun _ h9 => nomatch h9) d_C_isFreeFromAbove_60
abbrev rm_N_rightEnd : Room := { frames := 3, cells := 0, slots := 0, locals := 63 }
set_option maxHeartbeats 4000000 in
set_option maxRecDepth 100000 in
theorem c_N_rightEnd (l : Launch) (L : cL) (a1 : Int32) (I : MI) (F : MF) (G : MG) (post : Int32 → Prop) (h : wp_N_rightEnd a1 I F G post) : Met l y_N_rightEnd (.code y_N_rightEnd b_N_rightEnd 2 (some .int) :: lwG) rm_N_rightEnd (cPc L I F G [.ref (cA L 1), .int a1]) (vp_Si post) 0 0 (fun _ => False) := by
  refine Met.ofW (cc := b_N_rightEnd) (maxL := 2) (ret := (some .int)) (by decide) rfl ?_
  intro p e s m args below meth c s₁ B hml hv
  obtain ⟨rfl, hP, hK, hN⟩ := hv
  have xc : xC p s m _ meth c b_N_rightEnd 2 lwG qR1 (some .int) := ⟨B.exec, B.bytes, hml, findClass_of_methodNamed B.named, fun w h => atoms_spec (ws := (.code y_N_rightEnd b_N_rightEnd 2 (some .int) :: lwG)) B.pre w (List.mem_cons_of_mem _ h), B.returns, B.notSynchronized⟩
  obtain ⟨hx, hb, hml, hown, hts, hr, hlocks⟩ := id xc
  have hl := lv_entry ([.ref (cA L 1), .int a1]) (n := 2) (Nat.le_of_ble_eq_true rfl)
  rw [lg_entry_eq]
  generalize (lg_sl ([.ref (cA L 1), .int a1]) ++ List.replicate (2 - (lg_sl ([.ref (cA L 1), .int a1])).length) Slot.unset).toArray = ls at hl ⊢
  have hl : lv_has ls 2 [(0, .ref (cA L 1)), (1, .int a1)] := hl
  refine lv_aload_n hx hb d_N_rightEnd_0 rfl (lv_at hl 0 rfl) ?_
  refine lv_iload_n hx hb d_N_rightEnd_1 rfl (lv_at hl 1 rfl) ?_
  refine vp_callSi (va_runV (As := [.int a1]) (rest := []) ⟨hx, hb, hml, hown, hts⟩ (c_N_isWired l L a1 I F G _ h) (cwV 1 hts (gV wG385 wG386 wG387 wG49 wG388) rfl rfl rfl (by decide +kernel) ⟨Nat.le_of_ble_eq_true rfl, Nat.le_of_ble_eq_true rfl⟩) (cPre1 hK hN hP) rfl rfl hl.1 rfl (lv_room (Nat.le_of_ble_eq_true rfl)) d_N_rightEnd_2 ⟨Nat.le_of_ble_eq_true rfl, Nat.le_of_ble_eq_true rfl⟩).run (fun r_1 h => ?_)
  refine lv_if_eq (tgt := 17) hx hb d_N_rightEnd_5 (by decide) (fun c_2 => ?_) (fun c_2 => ?_)
  · replace h := h.1 c_2
    refine lv_iconst (v := (-1)) hx hb d_N_rightEnd_17 (by decide) ?_
    exact W.iret hx hb hr (fun t ht _ => ⟨_, rfl, h, ht⟩) (fun _ h9 => nomatch h9) d_N_rightEnd_18
  · replace h := h.2 c_2
    refine lv_aload_n hx hb d_N_rightEnd_8 rfl (lv_at hl 0 rfl) ?_
    refine va_get (D := L.1) (ci := 1) (v := .ref (cA L 18)) (C := qR1) (T := qT1) (N := 13) hx hb hts qi1 hown hK hP 1 rfl rfl 11 (by decide) (hts _ wG108) (fun _ h9 => h9) rfl d_N_rightEnd_9 ?_
    refine lv_iload_n hx hb d_N_rightEnd_12 rfl (lv_at hl 1 rfl) ?_
    obtain ⟨hi_3, h⟩ := h
    refine c_iald hx hb hK hP 8 (by decide) rfl hi_3 d_N_rightEnd_13 ?_
    refine lv_goto (tgt := 18) hx hb d_N_rightEnd_14 (by decide) ?_
    exact W.iret hx hb hr (fun t ht _ => ⟨_, rfl, h, ht⟩) (fun _ h9 => nomatch h9) d_N_rightEnd_18
abbrev rm_C_fillTrack : Room := { frames := 5, cells := 0, slots := 0, locals := 110 }
set_option maxHeartbeats 4000000 in
set_option maxRecDepth 100000 in
theorem Wl_C_fillTrack_17 {p : Program} {l : Launch} {e : Env} {s : State} {m : MethodId} {args : Array Value} {below : List Frame} {meth : Method} {c : Code} {L : cL} {A : Nat → Prop} {post : Int32 → MI → MF → MG → Prop} {K : Int32 → Int32 → Int32 → MI → MF → MG → Prop} {a1 : Int32} {a4 : Int32} (xc : xC p s m args meth c b_C_fillTrack 7 lwG qR2 (some .int)) (hK : va_K L.1 vwCl (cTys L) s) (hN : cNk s) (hA : ∀ q, s.heap.size ≤ q → A q)
    (hk : ∀ (a2 : Int32) (a3 : Int32) (a5 : Int32) (I : MI) (F : MF) (G : MG) (H : Heap) (locs : List Loc) (ls : Array Slot), K a2 a3 a5 I F G → CW L A s.heap I F G H locs → lv_has ls 7 [(0, .ref (cA L 2)), (1, .int a1), (2, .int a2), (3, .int a3), (4, .int a4), (5, .int a5)] → W p l e rm_C_fillTrack s m args below meth c H locs 0 0 (MQ below (cQi L A post A) args s 0 0 A) (F0 m 103 ls [])) :
    ∀ (n : Nat) (a2 : Int32) (a3 : Int32) (a5 : Int32) (I : MI) (F : MF) (G : MG) (H : Heap) (locs : List Loc) (ls : Array Slot), wl_C_fillTrack_17 post K a1 a4 n a2 a3 a5 I F G → CW L A s.heap I F G H locs → lv_has ls 7 [(0, .ref (cA L 2)), (1, .int a1), (2, .int a2), (3, .int a3), (4, .int a4), (5, .int a5)] → W p l e rm_C_fillTrack s m args below meth c H locs 0 0 (MQ below (cQi L A post A) args s 0 0 A) (F0 m 17 ls []) := by
  obtain ⟨hx, hb, hml, hown, hts, hr, hlocks⟩ := id xc
  intro n
  induction n with
  | zero => intro a2 a3 a5 I F G H locs ls h; exact absurd h id
  | succ n ih =>
    intro a2 a3 a5 I F G H locs ls h hw hl
    refine lv_iload hx hb d_C_fillTrack_17 (lv_at hl 5 rfl) ?_
    refine lv_bipush (v := 12) hx hb d_C_fillTrack_19 (by decide) ?_
    refine lv_icmp_ge (tgt := 103) hx hb d_C_fillTrack_21 (by decide) (fun c_2 => ?_) (fun c_2 => ?_)
    · replace h := h.1 c_2
      exact hk a2 a3 a5 I F G _ _ ls h hw (lv_sub hl [0, 1, 2, 3, 4, 5] rfl)
    · replace h := h.2 c_2
      refine lv_aload_n hx hb d_C_fillTrack_24 rfl (lv_at hl 0 rfl) ?_
      refine va_get (D := L.1) (ci := 2) (v := .ref (cA L 20)) (C := qR2) (T := qT2) (N := 3) hx hb hts qi2 hown hK hw.1 2 rfl rfl 2 (by decide) (hts _ wG149) (fun _ h9 => h9) rfl d_C_fillTrack_25 ?_
      refine lv_iload hx hb d_C_fillTrack_28 (lv_at hl 5 rfl) ?_
      obtain ⟨hi_3, h⟩ := h
      refine c_iald hx hb hK hw.1 10 (by decide) rfl hi_3 d_C_fillTrack_30 ?_
      refine lv_if_ne (tgt := 52) hx hb d_C_fillTrack_31 (by decide) (fun c_4 => ?_) (fun c_4 => ?_)
      · replace h := h.1 c_4
        refine lv_iconst (v := 0) hx hb d_C_fillTrack_52 (by decide) ?_
        refine lv_istore (lv' := [(6, .int 0), (0, .ref (cA L 2)), (1, .int a1), (2, .int a2), (3, .int a3), (4, .int a4), (5, .int a5)]) hx hb d_C_fillTrack_53 hl (by decide) rfl (fun ls hl => ?_)
        refine lv_iload hx hb d_C_fillTrack_55 (lv_at hl 0 rfl) ?_
        refine lv_if_eq (tgt := 97) hx hb d_C_fillTrack_57 (by decide) (fun c_5 => ?_) (fun c_5 => ?_)
        · skip
          obtain ⟨x_6, ex_6⟩ : ∃ y : Int32, y = a5 + 1 := ⟨_, rfl⟩
          replace h := h x_6 ex_6
          refine lv_iinc (v := x_6) (lv' := [(5, .int x_6), (6, .int 0), (0, .ref (cA L 2)), (1, .int a1), (2, .int a2), (3, .int a3), (4, .int a4)]) hx hb d_C_fillTrack_97 hl (k := 6) rfl (by rw [ex_6]; rfl) (by decide) rfl (fun ls hl => ?_)
          refine lv_goto (tgt := 17) hx hb d_C_fillTrack_100 (by decide) ?_
          exact ih a2 a3 x_6 I F G _ _ ls h hw (lv_sub hl [2, 3, 4, 5, 6, 0] rfl)
        · exact absurd c_5 (by decide)
      · replace h := h.2 c_4
        refine lv_aload_n hx hb d_C_fillTrack_34 rfl (lv_at hl 0 rfl) ?_
        refine va_get (D := L.1) (ci := 2) (v := .ref (cA L 1)) (C := qR2) (T := qT2) (N := 3) hx hb hts qi2 hown hK hw.1 2 rfl rfl 0 (by decide) (hts _ wG145) (fun _ h9 => h9) rfl d_C_fillTrack_35 ?_
        refine lv_iload hx hb d_C_fillTrack_38 (lv_at hl 5 rfl) ?_
        refine vp_callSi (va_runV (As := [.int a5]) (rest := []) ⟨hx, hb, hml, hown, hts⟩ (c_N_leftEnd l L a5 I F G _ h) (cwV 1 hts (gV wG402 wG403 wG404 wG49 wG405) rfl rfl rfl (by decide +kernel) ⟨Nat.le_of_ble_eq_true rfl, Nat.le_of_ble_eq_true rfl⟩) (cPre1 hK hN hw.1) rfl rfl hl.1 rfl (lv_room (Nat.le_of_ble_eq_true rfl)) d_C_fillTrack_40 ⟨Nat.le_of_ble_eq_true rfl, Nat.le_of_ble_eq_true rfl⟩).run (fun r_7 h => ?_)
        refine lv_iload hx hb d_C_fillTrack_43 (lv_at hl 4 rfl) ?_
        refine lv_icmp_ne (tgt := 52) hx hb d_C_fillTrack_45 (by decide) (fun c_8 => ?_) (fun c_8 => ?_)
        · replace h := h.1 c_8
          refine lv_iconst (v := 0) hx hb d_C_fillTrack_52 (by decide) ?_
          refine lv_istore (lv' := [(6, .int 0), (0, .ref (cA L 2)), (1, .int a1), (2, .int a2), (3, .int a3), (4, .int a4), (5, .int a5)]) hx hb d_C_fillTrack_53 hl (by decide) rfl (fun ls hl => ?_)
          refine lv_iload hx hb d_C_fillTrack_55 (lv_at hl 0 rfl) ?_
          refine lv_if_eq (tgt := 97) hx hb d_C_fillTrack_57 (by decide) (fun c_9 => ?_) (fun c_9 => ?_)
          · skip
            obtain ⟨x_10, ex_10⟩ : ∃ y : Int32, y = a5 + 1 := ⟨_, rfl⟩
            replace h := h x_10 ex_10
            refine lv_iinc (v := x_10) (lv' := [(5, .int x_10), (6, .int 0), (0, .ref (cA L 2)), (1, .int a1), (2, .int a2), (3, .int a3), (4, .int a4)]) hx hb d_C_fillTrack_97 hl (k := 6) rfl (by rw [ex_10]; rfl) (by decide) rfl (fun ls hl => ?_)
            refine lv_goto (tgt := 17) hx hb d_C_fillTrack_100 (by decide) ?_
            exact ih a2 a3 x_10 I F G _ _ ls h hw (lv_sub hl [2, 3, 4, 5, 6, 0] rfl)
          · exact absurd c_9 (by decide)
        · replace h := h.2 c_8
          refine lv_iconst (v := 1) hx hb d_C_fillTrack_48 (by decide) ?_
          refine lv_goto (tgt := 53) hx hb d_C_fillTrack_49 (by decide) ?_
          refine lv_istore (lv' := [(6, .int 1), (0, .ref (cA L 2)), (1, .int a1), (2, .int a2), (3, .int a3), (4, .int a4), (5, .int a5)]) hx hb d_C_fillTrack_53 hl (by decide) rfl (fun ls hl => ?_)
          refine lv_iload hx hb d_C_fillTrack_55 (lv_at hl 0 rfl) ?_
          refine lv_if_eq (tgt := 97) hx hb d_C_fillTrack_57 (by decide) (fun c_11 => ?_) (fun c_11 => ?_)
          · exact absurd c_11 (by decide)
          · skip
            refine lv_iload hx hb d_C_fillTrack_60 (lv_at hl 5 rfl) ?_
            refine lv_iload_n hx hb d_C_fillTrack_62 rfl (lv_at hl 4 rfl) ?_
            refine lv_icmp_le (tgt := 97) hx hb d_C_fillTrack_63 (by decide) (fun c_12 => ?_) (fun c_12 => ?_)
            · replace h := h.1 c_12
              obtain ⟨x_13, ex_13⟩ : ∃ y : Int32, y = a5 + 1 := ⟨_, rfl⟩
              replace h := h x_13 ex_13
              refine lv_iinc (v := x_13) (lv' := [(5, .int x_13), (6, .int 1), (0, .ref (cA L 2)), (1, .int a1), (2, .int a2), (3, .int a3), (4, .int a4)]) hx hb d_C_fillTrack_97 hl (k := 6) rfl (by rw [ex_13]; rfl) (by decide) rfl (fun ls hl => ?_)
              refine lv_goto (tgt := 17) hx hb d_C_fillTrack_100 (by decide) ?_
              exact ih a2 a3 x_13 I F G _ _ ls h hw (lv_sub hl [2, 3, 4, 5, 6, 0] rfl)
            · replace h := h.2 c_12
              refine lv_aload_n hx hb d_C_fillTrack_66 rfl (lv_at hl 1 rfl) ?_
              refine lv_iload hx hb d_C_fillTrack_67 (lv_at hl 6 rfl) ?_
              refine lv_iload_n hx hb d_C_fillTrack_69 rfl (lv_at hl 2 rfl) ?_
              refine vp_callSi (va_runV (As := [.int a5, .int a1]) (rest := []) ⟨hx, hb, hml, hown, hts⟩ (c_C_isFreeFromAbove l L a5 a1 I F G _ h) (cwV 2 hts (gV wG406 wG408 wG3 wG51 wG409) rfl rfl rfl (by decide +kernel) ⟨Nat.le_of_ble_eq_true rfl, Nat.le_of_ble_eq_true rfl⟩) (cPre2 hK hN hw.1) rfl rfl hl.1 rfl (lv_room (Nat.le_of_ble_eq_true rfl)) d_C_fillTrack_70 ⟨Nat.le_of_ble_eq_true rfl, Nat.le_of_ble_eq_true rfl⟩).run (fun r_14 h => ?_)
              refine lv_if_eq (tgt := 97) hx hb d_C_fillTrack_73 (by decide) (fun c_15 => ?_) (fun c_15 => ?_)
              · replace h := h.1 c_15
                obtain ⟨x_16, ex_16⟩ : ∃ y : Int32, y = a5 + 1 := ⟨_, rfl⟩
                replace h := h x_16 ex_16
                refine lv_iinc (v := x_16) (lv' := [(5, .int x_16), (6, .int 1), (0, .ref (cA L 2)), (1, .int a1), (2, .int a2), (3, .int a3), (4, .int a4)]) hx hb d_C_fillTrack_97 hl (k := 6) rfl (by rw [ex_16]; rfl) (by decide) rfl (fun ls hl => ?_)
                refine lv_goto (tgt := 17) hx hb d_C_fillTrack_100 (by decide) ?_
                exact ih a2 a3 x_16 I F G _ _ ls h hw (lv_sub hl [2, 3, 4, 5, 6, 0] rfl)
              · replace h := h.2 c_15
                refine lv_aload_n hx hb d_C_fillTrack_76 rfl (lv_at hl 1 rfl) ?_
                refine va_get (D := L.1) (ci := 2) (v := .ref (cA L 20)) (C := qR2) (T := qT2) (N := 3) hx hb hts qi2 hown hK hw.1 2 rfl rfl 2 (by decide) (hts _ wG149) (fun _ h9 => h9) rfl d_C_fillTrack_77 ?_
                refine lv_iload hx hb d_C_fillTrack_80 (lv_at hl 6 rfl) ?_
                refine lv_iload_n hx hb d_C_fillTrack_82 rfl (lv_at hl 2 rfl) ?_
                obtain ⟨hi_17, h⟩ := h
                refine c_iast hx hb hK hw 10 (by decide) rfl hi_17 d_C_fillTrack_83 (fun H locs hw => ?_)
                obtain ⟨F_18, eF_18⟩ : ∃ y : MF, y = setF F 10 (upd (F 10) a5.toNatClampNeg a1) := ⟨_, rfl⟩
                rw [← eF_18] at hw
                replace h := h F_18 eF_18
                refine lv_aload_n hx hb d_C_fillTrack_84 rfl (lv_at hl 1 rfl) ?_
                refine va_get (D := L.1) (ci := 2) (v := .ref (cA L 1)) (C := qR2) (T := qT2) (N := 3) hx hb hts qi2 hown hK hw.1 2 rfl rfl 0 (by decide) (hts _ wG145) (fun _ h9 => h9) rfl d_C_fillTrack_85 ?_
                refine lv_iload hx hb d_C_fillTrack_88 (lv_at hl 6 rfl) ?_
                refine vp_callSi (va_runV (As := [.int a5]) (rest := []) ⟨hx, hb, hml, hown, hts⟩ (c_N_rightEnd l L a5 I F_18 G _ h) (cwV 1 hts (gV wG414 wG415 wG416 wG49 wG417) rfl rfl rfl (by decide +kernel) ⟨Nat.le_of_ble_eq_true rfl, Nat.le_of_ble_eq_true rfl⟩) (cPre1 hK hN hw.1) rfl rfl hl.1 rfl (lv_room (Nat.le_of_ble_eq_true rfl)) d_C_fillTrack_90 ⟨Nat.le_of_ble_eq_true rfl, Nat.le_of_ble_eq_true rfl⟩).run (fun r_19 h => ?_)
                refine lv_istore_n (lv' := [(3, .int r_19), (6, .int 1), (0, .ref (cA L 2)), (1, .int a1), (2, .int a2), (4, .int a4), (5, .int a5)]) hx hb d_C_fillTrack_93 rfl hl (by decide) rfl (fun ls hl => ?_)
                obtain ⟨x_20, ex_20⟩ : ∃ y : Int32, y = a2 + 1 := ⟨_, rfl⟩
                replace h := h x_20 ex_20
                refine lv_iinc (v := x_20) (lv' := [(2, .int x_20), (3, .int r_19), (6, .int 1), (0, .ref (cA L 2)), (1, .int a1), (4, .int a4), (5, .int a5)]) hx hb d_C_fillTrack_94 hl (k := 4) rfl (by rw [ex_20]; rfl) (by decide) rfl (fun ls hl => ?_)
                obtain ⟨x_21, ex_21⟩ : ∃ y : Int32, y = a5 + 1 := ⟨_, rfl⟩
                replace h := h x_21 ex_21
                refine lv_iinc (v := x_21) (lv' := [(5, .int x_21), (2, .int x_20), (3, .int r_19), (6, .int 1), (0, .ref (cA L 2)), (1, .int a1), (4, .int a4)]) hx hb d_C_fillTrack_97 hl (k := 6) rfl (by rw [ex_21]; rfl) (by decide) rfl (fun ls hl => ?_)
                refine lv_goto (tgt := 17) hx hb d_C_fillTrack_100 (by decide) ?_
                exact ih x_20 r_19 x_21 I F_18 G _ _ ls h hw (lv_sub hl [4, 5, 1, 2, 6, 0] rfl)
set_option maxHeartbeats 4000000 in
set_option maxRecDepth 100000 in
theorem Wl_C_fillTrack_7 {p : Program} {l : Launch} {e : Env} {s : State} {m : MethodId} {args : Array Value} {below : List Frame} {meth : Method} {c : Code} {L : cL} {A : Nat → Prop} {post : Int32 → MI → MF → MG → Prop} {K : Int32 → Int32 → Int32 → MI → MF → MG → Prop} {a1 : Int32} (xc : xC p s m args meth c b_C_fillTrack 7 lwG qR2 (some .int)) (hK : va_K L.1 vwCl (cTys L) s) (hN : cNk s) (hA : ∀ q, s.heap.size ≤ q → A q)
    (hk : ∀ (a2 : Int32) (a3 : Int32) (a4 : Int32) (I : MI) (F : MF) (G : MG) (H : Heap) (locs : List Loc) (ls : Array Slot), K a2 a3 a4 I F G → CW L A s.heap I F G H locs → lv_has ls 7 [(0, .ref (cA L 2)), (1, .int a1), (2, .int a2), (3, .int a3), (4, .int a4)] → W p l e rm_C_fillTrack s m args below meth c H locs 0 0 (MQ below (cQi L A post A) args s 0 0 A) (F0 m 109 ls [])) :
    ∀ (n : Nat) (a2 : Int32) (a3 : Int32) (a4 : Int32) (I : MI) (F : MF) (G : MG) (H : Heap) (locs : List Loc) (ls : Array Slot), wl_C_fillTrack_7 post K a1 n a2 a3 a4 I F G → CW L A s.heap I F G H locs → lv_has ls 7 [(0, .ref (cA L 2)), (1, .int a1), (2, .int a2), (3, .int a3), (4, .int a4)] → W p l e rm_C_fillTrack s m args below meth c H locs 0 0 (MQ below (cQi L A post A) args s 0 0 A) (F0 m 7 ls []) := by
  obtain ⟨hx, hb, hml, hown, hts, hr, hlocks⟩ := id xc
  intro n
  induction n with
  | zero => intro a2 a3 a4 I F G H locs ls h; exact absurd h id
  | succ n ih =>
    intro a2 a3 a4 I F G H locs ls h hw hl
    refine lv_iload hx hb d_C_fillTrack_7 (lv_at hl 4 rfl) ?_
    refine lv_bipush (v := 24) hx hb d_C_fillTrack_9 (by decide) ?_
    refine lv_icmp_ge (tgt := 109) hx hb d_C_fillTrack_11 (by decide) (fun c_1 => ?_) (fun c_1 => ?_)
    · replace h := h.1 c_1
      exact hk a2 a3 a4 I F G _ _ ls h hw (lv_sub hl [0, 1, 2, 3, 4] rfl)
    · replace h := h.2 c_1
      refine lv_iconst (v := 0) hx hb d_C_fillTrack_14 (by decide) ?_
      refine lv_istore (lv' := [(5, .int 0), (0, .ref (cA L 2)), (1, .int a1), (2, .int a2), (3, .int a3), (4, .int a4)]) hx hb d_C_fillTrack_15 hl (by decide) rfl (fun ls hl => ?_)
      obtain ⟨n_27, h⟩ := h
      refine Wl_C_fillTrack_17 xc hK hN hA (hk := fun x_22 x_23 x_24 I_25 F_25 G_25 H locs ls h hw hl => ?_) n_27 a2 a3 0 I F G _ _ ls h hw (lv_sub hl [1, 2, 3, 4, 5, 0] rfl)
      obtain ⟨x_26, ex_26⟩ : ∃ y : Int32, y = a4 + 1 := ⟨_, rfl⟩
      replace h := h x_26 ex_26
      refine lv_iinc (v := x_26) (lv' := [(4, .int x_26), (0, .ref (cA L 2)), (1, .int a1), (2, .int x_22), (3, .int x_23), (5, .int x_24)]) hx hb d_C_fillTrack_103 hl (k := 4) rfl (by rw [ex_26]; rfl) (by decide) rfl (fun ls hl => ?_)
      refine lv_goto (tgt := 7) hx hb d_C_fillTrack_106 (by decide) ?_
      exact ih x_22 x_23 x_26 I_25 F_25 G_25 _ _ ls h hw (lv_sub hl [1, 2, 3, 4, 0] rfl)
set_option maxHeartbeats 4000000 in
set_option maxRecDepth 100000 in
theorem c_C_fillTrack (l : Launch) (L : cL) (a1 : Int32) (I : MI) (F : MF) (G : MG) (sz : Nat) (post : Int32 → MI → MF → MG → Prop) (h : wp_C_fillTrack a1 I F G post) : Met l y_C_fillTrack (.code y_C_fillTrack b_C_fillTrack 7 (some .int) :: lwG) rm_C_fillTrack (cPm L I F G sz [.ref (cA L 2), .int a1]) (cQi L (cAA L I F G sz) post (cAA L I F G sz)) 0 0 (cAA L I F G sz) := by
  refine Met.ofW (cc := b_C_fillTrack) (maxL := 7) (ret := (some .int)) (by decide) rfl ?_
  intro p e s m args below meth c s₁ B hml hv
  obtain ⟨rfl, hsz, hP, hK, hD0, hN⟩ := hv
  have xc : xC p s m _ meth c b_C_fillTrack 7 lwG qR2 (some .int) := ⟨B.exec, B.bytes, hml, findClass_of_methodNamed B.named, fun w h => atoms_spec (ws := (.code y_C_fillTrack b_C_fillTrack 7 (some .int) :: lwG)) B.pre w (List.mem_cons_of_mem _ h), B.returns, B.notSynchronized⟩
  obtain ⟨hx, hb, hml, hown, hts, hr, hlocks⟩ := id xc
  subst hsz
  have hD : va_D (cAA L I F G s.heap.size) (WC L I F G) := hD0.self
  have hA0 : ∀ q : Nat, s.heap.size ≤ q → cAA L I F G s.heap.size q := fun q h => Or.inr h
  generalize cAA L I F G s.heap.size = A at hD hA0 ⊢
  have hA := hA0
  have hw : CW L A s.heap I F G s.heap [] := ⟨hP, hD, va_S.rf⟩
  have hl := lv_entry ([.ref (cA L 2), .int a1]) (n := 7) (Nat.le_of_ble_eq_true rfl)
  rw [lg_entry_eq]
  generalize (lg_sl ([.ref (cA L 2), .int a1]) ++ List.replicate (7 - (lg_sl ([.ref (cA L 2), .int a1])).length) Slot.unset).toArray = ls at hl ⊢
  have hl : lv_has ls 7 [(0, .ref (cA L 2)), (1, .int a1)] := hl
  refine lv_iconst (v := 0) hx hb d_C_fillTrack_0 (by decide) ?_
  refine lv_istore_n (lv' := [(2, .int 0), (0, .ref (cA L 2)), (1, .int a1)]) hx hb d_C_fillTrack_1 rfl hl (by decide) rfl (fun ls hl => ?_)
  refine lv_iconst (v := (-1)) hx hb d_C_fillTrack_2 (by decide) ?_
  refine lv_istore_n (lv' := [(3, .int (-1)), (2, .int 0), (0, .ref (cA L 2)), (1, .int a1)]) hx hb d_C_fillTrack_3 rfl hl (by decide) rfl (fun ls hl => ?_)
  refine lv_iconst (v := 0) hx hb d_C_fillTrack_4 (by decide) ?_
  refine lv_istore (lv' := [(4, .int 0), (3, .int (-1)), (2, .int 0), (0, .ref (cA L 2)), (1, .int a1)]) hx hb d_C_fillTrack_5 hl (by decide) rfl (fun ls hl => ?_)
  obtain ⟨n_32, h⟩ := h
  refine Wl_C_fillTrack_7 xc hK hN hA (hk := fun x_28 x_29 x_30 I_31 F_31 G_31 H locs ls h hw hl => ?_) n_32 0 (-1) 0 I F G _ _ ls h hw (lv_sub hl [3, 4, 2, 1, 0] rfl)
  refine lv_iload_n hx hb d_C_fillTrack_109 rfl (lv_at hl 2 rfl) ?_
  exact W.iret hx hb hr (fun t ht hW => ⟨⟨_, (I_31, F_31, G_31), rfl, h, by rw [ht]; exact hw.1, va_K.moved hW.alike hK, hw.2.1⟩, hw.2.2.F ht⟩) hw.2.2.2.2 d_C_fillTrack_110
abbrev rm_C_assignTracks : Room := { frames := 6, cells := 1, slots := 6, locals := 136 }
set_option maxHeartbeats 4000000 in
set_option maxRecDepth 100000 in
theorem Wl_C_assignTracks_23 {p : Program} {l : Launch} {e : Env} {s : State} {m : MethodId} {args : Array Value} {below : List Frame} {meth : Method} {c : Code} {L : cL} {A : Nat → Prop} {post : MI → MF → MG → Prop} {thr : String → MI → MF → MG → Prop} {K : Int32 → Int32 → MI → MF → MG → Prop} (xc : xC p s m args meth c b_C_assignTracks 4 lwG qR2 (none)) (hK : va_K L.1 vwCl (cTys L) s) (hN : cNk s) (hA : ∀ q, s.heap.size ≤ q → A q) (hz : tx_Z A s s.heap) (hsr : cSt s) (hnt : ∀ x ∈ c.exceptionTable.toList, False) (hst : l.stackTraces = false)
    (hk : ∀ (a1 : Int32) (a2 : Int32) (I : MI) (F : MF) (G : MG) (H : Heap) (locs : List Loc) (ls : Array Slot), K a1 a2 I F G → CW L A s.heap I F G H locs → lv_has ls 4 [(0, .ref (cA L 2)), (1, .int a1), (2, .int a2)] → W p l e rm_C_assignTracks s m args below meth c H locs 0 0 (tx_MQ below (cRv L A post A) (cX L A thr A) args s 1 6 A) (F0 m 68 ls [])) :
    ∀ (n : Nat) (a1 : Int32) (a2 : Int32) (I : MI) (F : MF) (G : MG) (H : Heap) (locs : List Loc) (ls : Array Slot), wl_C_assignTracks_23 post thr K n a1 a2 I F G → CW L A s.heap I F G H locs → lv_has ls 4 [(0, .ref (cA L 2)), (1, .int a1), (2, .int a2)] → W p l e rm_C_assignTracks s m args below meth c H locs 0 0 (tx_MQ below (cRv L A post A) (cX L A thr A) args s 1 6 A) (F0 m 23 ls []) := by
  obtain ⟨hx, hb, hml, hown, hts, hr, hlocks⟩ := id xc
  intro n
  induction n with
  | zero => intro a1 a2 I F G H locs ls h; exact absurd h id
  | succ n ih =>
    intro a1 a2 I F G H locs ls h hw hl
    refine lv_iload_n hx hb d_C_assignTracks_23 rfl (lv_at hl 2 rfl) ?_
    refine lv_bipush (v := 9) hx hb d_C_assignTracks_24 (by decide) ?_
    refine lv_icmp_gt (tgt := 68) hx hb d_C_assignTracks_26 (by decide) (fun c_4 => ?_) (fun c_4 => ?_)
    · replace h := h.1 c_4
      exact hk a1 a2 I F G _ _ ls h hw (lv_sub hl [0, 1, 2] rfl)
    · replace h := h.2 c_4
      refine lv_iload_n hx hb d_C_assignTracks_29 rfl (lv_at hl 1 rfl) ?_
      refine lv_if_le (tgt := 68) hx hb d_C_assignTracks_30 (by decide) (fun c_5 => ?_) (fun c_5 => ?_)
      · replace h := h.1 c_5
        exact hk a1 a2 I F G _ _ ls h hw (lv_sub hl [0, 1, 2] rfl)
      · replace h := h.2 c_5
        refine lv_aload_n hx hb d_C_assignTracks_33 rfl (lv_at hl 0 rfl) ?_
        refine lv_iload_n hx hb d_C_assignTracks_34 rfl (lv_at hl 2 rfl) ?_
        refine c_calli (va_runV (As := [.int a2]) (rest := []) ⟨hx, hb, hml, hown, hts⟩ (c_C_fillTrack l L a2 I F G _ _ h) (cwV 1 hts (gV wG398 wG400 wG2 wG51 wG401) rfl rfl rfl (by decide +kernel) ⟨Nat.le_of_ble_eq_true rfl, Nat.le_of_ble_eq_true rfl⟩) (cPrm2 hK hN hw) rfl rfl hl.1 rfl (lv_room (Nat.le_of_ble_eq_true rfl)) d_C_assignTracks_35 ⟨Nat.le_of_ble_eq_true rfl, Nat.le_of_ble_eq_true rfl⟩) hw hA (fun r_6 I_7 F_7 G_7 H locs h hw => ?_)
        refine lv_istore_n (lv' := [(3, .int r_6), (0, .ref (cA L 2)), (1, .int a1), (2, .int a2)]) hx hb d_C_assignTracks_38 rfl hl (by decide) rfl (fun ls hl => ?_)
        refine lv_iload_n hx hb d_C_assignTracks_39 rfl (lv_at hl 0 rfl) ?_
        refine lv_if_ne (tgt := 53) hx hb d_C_assignTracks_40 (by decide) (fun c_8 => ?_) (fun c_8 => ?_)
        · replace h := h.1 c_8
          refine lv_iload_n hx hb d_C_assignTracks_53 rfl (lv_at hl 2 rfl) ?_
          refine lv_iload_n hx hb d_C_assignTracks_54 rfl (lv_at hl 0 rfl) ?_
          refine lv_isub hx hb d_C_assignTracks_55 ?_
          refine lv_topi (fun x_9 ex_9 => ?_)
          replace h := h x_9 ex_9
          refine lv_istore_n (lv' := [(1, .int x_9), (3, .int r_6), (0, .ref (cA L 2)), (2, .int a2)]) hx hb d_C_assignTracks_56 rfl hl (by decide) rfl (fun ls hl => ?_)
          refine lv_aload_n hx hb d_C_assignTracks_57 rfl (lv_at hl 2 rfl) ?_
          refine lv_iload_n hx hb d_C_assignTracks_58 rfl (lv_at hl 3 rfl) ?_
          refine va_put (D := L.1) (ci := 2) (v := .int a2) (ty := .int) (C := qR2) (T := qT2) (N := 3) hx hb hts qi2 qy2 qk2 qn2 hown hK hw.1 hw.2.1 hw.2.2 2 rfl rfl 1 (by decide) (hts _ wG146) (fun _ h9 => h9) rfl (by decide +kernel) rfl rfl (Nat.le_of_ble_eq_true rfl) d_C_assignTracks_59 (fun H locs h1 h2 h3 => ?_)
          replace hw : CW L A s.heap (setI I_7 2 a2) F_7 G_7 H locs := ⟨h1, h2, h3⟩
          clear h1 h2 h3
          obtain ⟨I_10, eI_10⟩ : ∃ y : MI, y = setI I_7 2 a2 := ⟨_, rfl⟩
          rw [← eI_10] at hw
          replace h := h I_10 eI_10
          obtain ⟨x_11, ex_11⟩ : ∃ y : Int32, y = a2 + 1 := ⟨_, rfl⟩
          replace h := h x_11 ex_11
          refine lv_iinc (v := x_11) (lv' := [(2, .int x_11), (1, .int x_9), (3, .int r_6), (0, .ref (cA L 2))]) hx hb d_C_assignTracks_62 hl (k := 3) rfl (by rw [ex_11]; rfl) (by decide) rfl (fun ls hl => ?_)
          refine lv_goto (tgt := 23) hx hb d_C_assignTracks_65 (by decide) ?_
          exact ih x_9 x_11 I_10 F_7 G_7 _ _ ls h hw (lv_sub hl [3, 1, 0] rfl)
        · replace h := h.2 c_8
          obtain ⟨sa, hsa⟩ := hsr.1 (qR2, 41, "nets are above one another in a circle") (by decide +kernel)
          exact tx_throwS (Ts := lwH) hx hb hst hown (cHts hts hsr.2) hz hw.2.2 (by decide +kernel) (by decide +kernel) th_C_39_43 hsa (hl.1.trans hml.symm) d_C_assignTracks_43 d_C_assignTracks_46 d_C_assignTracks_47 d_C_assignTracks_49 d_C_assignTracks_52 hnt (Nat.le_of_ble_eq_true rfl) (Nat.le_of_ble_eq_true rfl) (Nat.le_of_ble_eq_true rfl) (Nat.le_of_ble_eq_true rfl) hlocks (cX_of hw hK h) hw.2.2.2.2 (Nat.le_of_ble_eq_true rfl) (Nat.le_of_ble_eq_true rfl)
set_option maxHeartbeats 4000000 in
set_option maxRecDepth 100000 in
theorem c_C_assignTracks (l : Launch) (L : cL) (hst : l.stackTraces = false) (I : MI) (F : MF) (G : MG) (sz : Nat) (post : MI → MF → MG → Prop) (thr : String → MI → MF → MG → Prop) (h : wp_C_assignTracks I F G post thr) : tx_Met l y_C_assignTracks (.code y_C_assignTracks b_C_assignTracks 4 (none) :: lwG) rm_C_assignTracks (cPx L I F G sz [.ref (cA L 2)]) (cRv L (cAA L I F G sz) post (cAA L I F G sz)) (cX L (cAA L I F G sz) thr (cAA L I F G sz)) 1 6 (cAA L I F G sz) := by
  refine tx_ofW (cc := b_C_assignTracks) (maxL := 4) (ret := (none)) (by decide) rfl ?_
  intro p e s m args below meth c s₁ B hml hnt hv
  obtain ⟨rfl, hsz, hP, hK, hD0, hN, hz, hsr⟩ := hv
  have xc : xC p s m _ meth c b_C_assignTracks 4 lwG qR2 (none) := ⟨B.exec, B.bytes, hml, findClass_of_methodNamed B.named, fun w h => atoms_spec (ws := (.code y_C_assignTracks b_C_assignTracks 4 (none) :: lwG)) B.pre w (List.mem_cons_of_mem _ h), B.returns, B.notSynchronized⟩
  obtain ⟨hx, hb, hml, hown, hts, hr, hlocks⟩ := id xc
  subst hsz
  have hD : va_D (cAA L I F G s.heap.size) (WC L I F G) := hD0.self
  have hA0 : ∀ q : Nat, s.heap.size ≤ q → cAA L I F G s.heap.size q := fun q h => Or.inr h
  generalize cAA L I F G s.heap.size = A at hD hA0 hz ⊢
  have hA := hA0
  have hw : CW L A s.heap I F G s.heap [] := ⟨hP, hD, va_S.rf⟩
  have hl := lv_entry ([.ref (cA L 2)]) (n := 4) (Nat.le_of_ble_eq_true rfl)
  rw [lg_entry_eq]
  generalize (lg_sl ([.ref (cA L 2)]) ++ List.replicate (4 - (lg_sl ([.ref (cA L 2)])).length) Slot.unset).toArray = ls at hl ⊢
  have hl : lv_has ls 4 [(0, .ref (cA L 2))] := hl
  refine lv_aload_n hx hb d_C_assignTracks_0 rfl (lv_at hl 0 rfl) ?_
  refine va_get (D := L.1) (ci := 2) (v := .ref (cA L 20)) (C := qR2) (T := qT2) (N := 3) hx hb hts qi2 hown hK hw.1 2 rfl rfl 2 (by decide) (hts _ wG149) (fun _ h9 => h9) rfl d_C_assignTracks_1 ?_
  refine lv_iconst (v := 0) hx hb d_C_assignTracks_4 (by decide) ?_
  refine c_fill (k := 10) (n := 12) (rest := []) ⟨hx, hb, hml, hown, hts⟩ hK hN hw hA (va_cwS 2 hts (gS wG380 wG86 wG50 wG87) rfl rfl rfl (by decide +kernel) ⟨Nat.le_of_ble_eq_true rfl, Nat.le_of_ble_eq_true rfl⟩) (by decide) rfl (by decide) hl.1 (lv_room (Nat.le_of_ble_eq_true rfl)) d_C_assignTracks_5 ⟨Nat.le_of_ble_eq_true rfl, Nat.le_of_ble_eq_true rfl⟩ (fun H locs hw => ?_)
  obtain ⟨F_1, eF_1⟩ : ∃ y : MF, y = setF F 10 (filled (F 10) 12 0) := ⟨_, rfl⟩
  rw [← eF_1] at hw
  replace h := h F_1 eF_1
  refine lv_aload_n hx hb d_C_assignTracks_8 rfl (lv_at hl 0 rfl) ?_
  refine lv_iconst (v := 0) hx hb d_C_assignTracks_9 (by decide) ?_
  refine va_put (D := L.1) (ci := 2) (v := .int 0) (ty := .int) (C := qR2) (T := qT2) (N := 3) hx hb hts qi2 qy2 qk2 qn2 hown hK hw.1 hw.2.1 hw.2.2 2 rfl rfl 1 (by decide) (hts _ wG146) (fun _ h9 => h9) rfl (by decide +kernel) rfl rfl (Nat.le_of_ble_eq_true rfl) d_C_assignTracks_10 (fun H locs h1 h2 h3 => ?_)
  replace hw : CW L A s.heap (setI I 2 0) F_1 G H locs := ⟨h1, h2, h3⟩
  clear h1 h2 h3
  obtain ⟨I_2, eI_2⟩ : ∃ y : MI, y = setI I 2 0 := ⟨_, rfl⟩
  rw [← eI_2] at hw
  replace h := h I_2 eI_2
  refine lv_aload_n hx hb d_C_assignTracks_13 rfl (lv_at hl 0 rfl) ?_
  refine va_get (D := L.1) (ci := 2) (v := .ref (cA L 1)) (C := qR2) (T := qT2) (N := 3) hx hb hts qi2 hown hK hw.1 2 rfl rfl 0 (by decide) (hts _ wG145) (fun _ h9 => h9) rfl d_C_assignTracks_14 ?_
  refine vp_callSi (va_runV (As := []) (rest := []) ⟨hx, hb, hml, hown, hts⟩ (c_N_wiredNets l L I_2 F_1 G _ h) (cwV 0 hts (gV wG381 wG382 wG383 wG49 wG384) rfl rfl rfl (by decide +kernel) ⟨Nat.le_of_ble_eq_true rfl, Nat.le_of_ble_eq_true rfl⟩) (cPre1 hK hN hw.1) rfl rfl hl.1 rfl (lv_room (Nat.le_of_ble_eq_true rfl)) d_C_assignTracks_17 ⟨Nat.le_of_ble_eq_true rfl, Nat.le_of_ble_eq_true rfl⟩).run (fun r_3 h => ?_)
  refine lv_istore_n (lv' := [(1, .int r_3), (0, .ref (cA L 2))]) hx hb d_C_assignTracks_20 rfl hl (by decide) rfl (fun ls hl => ?_)
  refine lv_iconst (v := 1) hx hb d_C_assignTracks_21 (by decide) ?_
  refine lv_istore_n (lv' := [(2, .int 1), (1, .int r_3), (0, .ref (cA L 2))]) hx hb d_C_assignTracks_22 rfl hl (by decide) rfl (fun ls hl => ?_)
  obtain ⟨n_16, h⟩ := h
  refine Wl_C_assignTracks_23 xc hK hN hA hz hsr hnt hst (hk := fun x_12 x_13 I_14 F_14 G_14 H locs ls h hw hl => ?_) n_16 r_3 1 I_2 F_1 G _ _ ls h hw (lv_sub hl [2, 1, 0] rfl)
  refine lv_iload_n hx hb d_C_assignTracks_68 rfl (lv_at hl 1 rfl) ?_
  refine lv_if_le (tgt := 82) hx hb d_C_assignTracks_69 (by decide) (fun c_15 => ?_) (fun c_15 => ?_)
  · replace h := h.1 c_15
    refine W.widen (k := 1) (n := 6) (Nat.le_of_ble_eq_true rfl) (Nat.le_of_ble_eq_true rfl) ?_
    refine tx_ret ?_
    exact W.vret hx hb hr (fun t ht hW => ⟨⟨_, (I_14, F_14, G_14), rfl, ⟨rfl, h⟩, by rw [ht]; exact hw.1, va_K.moved hW.alike hK, hw.2.1⟩, hw.2.2.F ht⟩) hw.2.2.2.2 d_C_assignTracks_82
  · replace h := h.2 c_15
    obtain ⟨sa, hsa⟩ := hsr.1 (qR2, 48, "more than 9 tracks are needed") (by decide +kernel)
    exact tx_throwS (Ts := lwH) hx hb hst hown (cHts hts hsr.2) hz hw.2.2 (by decide +kernel) (by decide +kernel) th_C_46_50 hsa (hl.1.trans hml.symm) d_C_assignTracks_72 d_C_assignTracks_75 d_C_assignTracks_76 d_C_assignTracks_78 d_C_assignTracks_81 hnt (Nat.le_of_ble_eq_true rfl) (Nat.le_of_ble_eq_true rfl) (Nat.le_of_ble_eq_true rfl) (Nat.le_of_ble_eq_true rfl) hlocks (cX_of hw hK h) hw.2.2.2.2 (Nat.le_of_ble_eq_true rfl) (Nat.le_of_ble_eq_true rfl)
abbrev rm_D_drawBars : Room := { frames := 4, cells := 0, slots := 0, locals := 84 }
set_option maxHeartbeats 4000000 in
set_option maxRecDepth 100000 in
theorem Wl_D_drawBars_18 {p : Program} {l : Launch} {e : Env} {s : State} {m : MethodId} {args : Array Value} {below : List Frame} {meth : Method} {c : Code} {L : cL} {A : Nat → Prop} {post : MI → MF → MG → Prop} {K : Int32 → MI → MF → MG → Prop} {a1 : Int32} {a2 : Int32} (xc : xC p s m args meth c b_D_drawBars 4 lwG qR3 (none)) (hK : va_K L.1 vwCl (cTys L) s) (hN : cNk s) (hA : ∀ q, s.heap.size ≤ q → A q)
    (hk : ∀ (a3 : Int32) (I : MI) (F : MF) (G : MG) (H : Heap) (locs : List Loc) (ls : Array Slot), K a3 I F G → CW L A s.heap I F G H locs → lv_has ls 4 [(0, .ref (cA L 3)), (1, .int a1), (2, .int a2), (3, .int a3)] → W p l e rm_D_drawBars s m args below meth c H locs 0 0 (MQ below (cQv L A post A) args s 0 0 A) (F0 m 53 ls [])) :
    ∀ (n : Nat) (a3 : Int32) (I : MI) (F : MF) (G : MG) (H : Heap) (locs : List Loc) (ls : Array Slot), wl_D_drawBars_18 post K a1 a2 n a3 I F G → CW L A s.heap I F G H locs → lv_has ls 4 [(0, .ref (cA L 3)), (1, .int a1), (2, .int a2), (3, .int a3)] → W p l e rm_D_drawBars s m args below meth c H locs 0 0 (MQ below (cQv L A post A) args s 0 0 A) (F0 m 18 ls []) := by
  obtain ⟨hx, hb, hml, hown, hts, hr, hlocks⟩ := id xc
  intro n
  induction n with
  | zero => intro a3 I F G H locs ls h; exact absurd h id
  | succ n ih =>
    intro a3 I F G H locs ls h hw hl
    refine lv_iload_n hx hb d_D_drawBars_18 rfl (lv_at hl 3 rfl) ?_
    refine lv_if_lt (tgt := 53) hx hb d_D_drawBars_19 (by decide) (fun c_3 => ?_) (fun c_3 => ?_)
    · replace h := h.1 c_3
      exact hk a3 I F G _ _ ls h hw (lv_sub hl [0, 1, 2, 3] rfl)
    · replace h := h.2 c_3
      refine lv_iload_n hx hb d_D_drawBars_22 rfl (lv_at hl 3 rfl) ?_
      refine lv_iload_n hx hb d_D_drawBars_23 rfl (lv_at hl 2 rfl) ?_
      refine lv_icmp_ge (tgt := 53) hx hb d_D_drawBars_24 (by decide) (fun c_4 => ?_) (fun c_4 => ?_)
      · replace h := h.1 c_4
        exact hk a3 I F G _ _ ls h hw (lv_sub hl [0, 1, 2, 3] rfl)
      · replace h := h.2 c_4
        refine lv_aload_n hx hb d_D_drawBars_27 rfl (lv_at hl 0 rfl) ?_
        refine va_get (D := L.1) (ci := 3) (v := .ref (cA L 7)) (C := qR3) (T := qT3) (N := 7) hx hb hts qi3 hown hK hw.1 3 rfl rfl 2 (by decide) (hts _ wG168) (fun _ h9 => h9) rfl d_D_drawBars_28 ?_
        refine lv_aload_n hx hb d_D_drawBars_31 rfl (lv_at hl 0 rfl) ?_
        refine va_get (D := L.1) (ci := 3) (v := .ref (cA L 2)) (C := qR3) (T := qT3) (N := 7) hx hb hts qi3 hown hK hw.1 3 rfl rfl 1 (by decide) (hts _ wG167) (fun _ h9 => h9) rfl d_D_drawBars_32 ?_
        refine va_get (D := L.1) (ci := 2) (v := .ref (cA L 20)) (C := qR2) (T := qT2) (N := 3) hx hb hts qi2 hown hK hw.1 2 rfl rfl 2 (by decide) (hts _ wG150) (fun _ h9 => h9) rfl d_D_drawBars_35 ?_
        refine lv_iload_n hx hb d_D_drawBars_38 rfl (lv_at hl 1 rfl) ?_
        obtain ⟨hi_5, h⟩ := h
        refine c_iald hx hb hK hw.1 10 (by decide) rfl hi_5 d_D_drawBars_39 ?_
        obtain ⟨hi_6, h⟩ := h
        refine c_row7 hx hb hK hw.1 hi_6 d_D_drawBars_40 ?_
        refine lv_iload_n hx hb d_D_drawBars_41 rfl (lv_at hl 3 rfl) ?_
        refine lv_dup2_11 hx hb d_D_drawBars_42 rfl rfl ?_
        obtain ⟨hi_7, h⟩ := h
        refine c_iald hx hb hK hw.1 (19 + (F 10 a1.toNatClampNeg).toNatClampNeg) (row_lt19 hi_6) (row_len19 hi_6) hi_7 d_D_drawBars_43 ?_
        refine lv_iconst (v := 1) hx hb d_D_drawBars_44 (by decide) ?_
        refine lv_ior hx hb d_D_drawBars_45 ?_
        obtain ⟨hi_8, h⟩ := h
        refine c_iast hx hb hK hw (19 + (F 10 a1.toNatClampNeg).toNatClampNeg) (row_lt19 hi_6) (row_len19 hi_6) hi_8 d_D_drawBars_46 (fun H locs hw => ?_)
        obtain ⟨F_9, eF_9⟩ : ∃ y : MF, y = setF F (19 + (F 10 a1.toNatClampNeg).toNatClampNeg) (upd (F (19 + (F 10 a1.toNatClampNeg).toNatClampNeg)) a3.toNatClampNeg ((F (19 + (F 10 a1.toNatClampNeg).toNatClampNeg) a3.toNatClampNeg) ||| 1)) := ⟨_, rfl⟩
        rw [← eF_9] at hw
        replace h := h F_9 eF_9
        obtain ⟨x_10, ex_10⟩ : ∃ y : Int32, y = a3 + 1 := ⟨_, rfl⟩
        replace h := h x_10 ex_10
        refine lv_iinc (v := x_10) (lv' := [(3, .int x_10), (0, .ref (cA L 3)), (1, .int a1), (2, .int a2)]) hx hb d_D_drawBars_47 hl (k := 3) rfl (by rw [ex_10]; rfl) (by decide) rfl (fun ls hl => ?_)
        refine lv_goto (tgt := 18) hx hb d_D_drawBars_50 (by decide) ?_
        exact ih x_10 I F_9 G _ _ ls h hw (lv_sub hl [1, 2, 3, 0] rfl)
set_option maxHeartbeats 4000000 in
set_option maxRecDepth 100000 in
theorem c_D_drawBars (l : Launch) (L : cL) (a1 : Int32) (I : MI) (F : MF) (G : MG) (sz : Nat) (post : MI → MF → MG → Prop) (h : wp_D_drawBars a1 I F G post) : Met l y_D_drawBars (.code y_D_drawBars b_D_drawBars 4 (none) :: lwG) rm_D_drawBars (cPm L I F G sz [.ref (cA L 3), .int a1]) (cQv L (cAA L I F G sz) post (cAA L I F G sz)) 0 0 (cAA L I F G sz) := by
  refine Met.ofW (cc := b_D_drawBars) (maxL := 4) (ret := (none)) (by decide) rfl ?_
  intro p e s m args below meth c s₁ B hml hv
  obtain ⟨rfl, hsz, hP, hK, hD0, hN⟩ := hv
  have xc : xC p s m _ meth c b_D_drawBars 4 lwG qR3 (none) := ⟨B.exec, B.bytes, hml, findClass_of_methodNamed B.named, fun w h => atoms_spec (ws := (.code y_D_drawBars b_D_drawBars 4 (none) :: lwG)) B.pre w (List.mem_cons_of_mem _ h), B.returns, B.notSynchronized⟩
  obtain ⟨hx, hb, hml, hown, hts, hr, hlocks⟩ := id xc
  subst hsz
  have hD : va_D (cAA L I F G s.heap.size) (WC L I F G) := hD0.self
  have hA0 : ∀ q : Nat, s.heap.size ≤ q → cAA L I F G s.heap.size q := fun q h => Or.inr h
  generalize cAA L I F G s.heap.size = A at hD hA0 ⊢
  have hA := hA0
  have hw : CW L A s.heap I F G s.heap [] := ⟨hP, hD, va_S.rf⟩
  have hl := lv_entry ([.ref (cA L 3), .int a1]) (n := 4) (Nat.le_of_ble_eq_true rfl)
  rw [lg_entry_eq]
  generalize (lg_sl ([.ref (cA L 3), .int a1]) ++ List.replicate (4 - (lg_sl ([.ref (cA L 3), .int a1])).length) Slot.unset).toArray = ls at hl ⊢
  have hl : lv_has ls 4 [(0, .ref (cA L 3)), (1, .int a1)] := hl
  refine lv_aload_n hx hb d_D_drawBars_0 rfl (lv_at hl 0 rfl) ?_
  refine va_get (D := L.1) (ci := 3) (v := .ref (cA L 1)) (C := qR3) (T := qT3) (N := 7) hx hb hts qi3 hown hK hw.1 3 rfl rfl 0 (by decide) (hts _ wG166) (fun _ h9 => h9) rfl d_D_drawBars_1 ?_
  refine lv_iload_n hx hb d_D_drawBars_4 rfl (lv_at hl 1 rfl) ?_
  refine vp_callSi (va_runV (As := [.int a1]) (rest := []) ⟨hx, hb, hml, hown, hts⟩ (c_N_rightEnd l L a1 I F G _ h) (cwV 1 hts (gV wG446 wG415 wG416 wG49 wG417) rfl rfl rfl (by decide +kernel) ⟨Nat.le_of_ble_eq_true rfl, Nat.le_of_ble_eq_true rfl⟩) (cPre1 hK hN hw.1) rfl rfl hl.1 rfl (lv_room (Nat.le_of_ble_eq_true rfl)) d_D_drawBars_5 ⟨Nat.le_of_ble_eq_true rfl, Nat.le_of_ble_eq_true rfl⟩).run (fun r_1 h => ?_)
  refine lv_istore_n (lv' := [(2, .int r_1), (0, .ref (cA L 3)), (1, .int a1)]) hx hb d_D_drawBars_8 rfl hl (by decide) rfl (fun ls hl => ?_)
  refine lv_aload_n hx hb d_D_drawBars_9 rfl (lv_at hl 1 rfl) ?_
  refine va_get (D := L.1) (ci := 3) (v := .ref (cA L 1)) (C := qR3) (T := qT3) (N := 7) hx hb hts qi3 hown hK hw.1 3 rfl rfl 0 (by decide) (hts _ wG166) (fun _ h9 => h9) rfl d_D_drawBars_10 ?_
  refine lv_iload_n hx hb d_D_drawBars_13 rfl (lv_at hl 2 rfl) ?_
  refine vp_callSi (va_runV (As := [.int a1]) (rest := []) ⟨hx, hb, hml, hown, hts⟩ (c_N_leftEnd l L a1 I F G _ h) (cwV 1 hts (gV wG447 wG403 wG404 wG49 wG405) rfl rfl rfl (by decide +kernel) ⟨Nat.le_of_ble_eq_true rfl, Nat.le_of_ble_eq_true rfl⟩) (cPre1 hK hN hw.1) rfl rfl hl.1 rfl (lv_room (Nat.le_of_ble_eq_true rfl)) d_D_drawBars_14 ⟨Nat.le_of_ble_eq_true rfl, Nat.le_of_ble_eq_true rfl⟩).run (fun r_2 h => ?_)
  refine lv_istore_n (lv' := [(3, .int r_2), (2, .int r_1), (0, .ref (cA L 3)), (1, .int a1)]) hx hb d_D_drawBars_17 rfl hl (by decide) rfl (fun ls hl => ?_)
  obtain ⟨n_13, h⟩ := h
  refine Wl_D_drawBars_18 xc hK hN hA (hk := fun x_11 I_12 F_12 G_12 H locs ls h hw hl => ?_) n_13 r_2 I F G _ _ ls h hw (lv_sub hl [2, 3, 1, 0] rfl)
  exact W.vret hx hb hr (fun t ht hW => ⟨⟨(I_12, F_12, G_12), rfl, h, by rw [ht]; exact hw.1, va_K.moved hW.alike hK, hw.2.1⟩, hw.2.2.F ht⟩) hw.2.2.2.2 d_D_drawBars_53
abbrev rm_D_drawPin : Room := { frames := 0, cells := 0, slots := 0, locals := 0 }
set_option maxHeartbeats 4000000 in
set_option maxRecDepth 100000 in
theorem Wl_D_drawPin_90 {p : Program} {l : Launch} {e : Env} {s : State} {m : MethodId} {args : Array Value} {below : List Frame} {meth : Method} {c : Code} {L : cL} {A : Nat → Prop} {post : MI → MF → MG → Prop} {K : Int32 → MI → MF → MG → Prop} {a1 : Int32} {a2 : Int32} {a3 : Int32} {a4 : Int32} {a5 : Int32} {a6 : Int32} (xc : xC p s m args meth c b_D_drawPin 8 lwG qR3 (none)) (hK : va_K L.1 vwCl (cTys L) s) (hN : cNk s) (hA : ∀ q, s.heap.size ≤ q → A q)
    (hk : ∀ (a7 : Int32) (I : MI) (F : MF) (G : MG) (H : Heap) (locs : List Loc) (ls : Array Slot), K a7 I F G → CW L A s.heap I F G H locs → lv_has ls 8 [(0, .ref (cA L 3)), (1, .int a1), (2, .int a2), (3, .int a3), (4, .int a4), (5, .int a5), (6, .int a6), (7, .int a7)] → W p l e rm_D_drawPin s m args below meth c H locs 0 0 (MQ below (cQv L A post A) args s 0 0 A) (F0 m 116 ls [])) :
    ∀ (n : Nat) (a7 : Int32) (I : MI) (F : MF) (G : MG) (H : Heap) (locs : List Loc) (ls : Array Slot), wl_D_drawPin_90 post K a1 a2 a3 a4 a5 a6 n a7 I F G → CW L A s.heap I F G H locs → lv_has ls 8 [(0, .ref (cA L 3)), (1, .int a1), (2, .int a2), (3, .int a3), (4, .int a4), (5, .int a5), (6, .int a6), (7, .int a7)] → W p l e rm_D_drawPin s m args below meth c H locs 0 0 (MQ below (cQv L A post A) args s 0 0 A) (F0 m 90 ls []) := by
  obtain ⟨hx, hb, hml, hown, hts, hr, hlocks⟩ := id xc
  intro n
  induction n with
  | zero => intro a7 I F G H locs ls h; exact absurd h id
  | succ n ih =>
    intro a7 I F G H locs ls h hw hl
    refine lv_iload hx hb d_D_drawPin_90 (lv_at hl 7 rfl) ?_
    refine lv_iload hx hb d_D_drawPin_92 (lv_at hl 6 rfl) ?_
    refine lv_icmp_ge (tgt := 116) hx hb d_D_drawPin_94 (by decide) (fun c_16 => ?_) (fun c_16 => ?_)
    · replace h := h.1 c_16
      exact hk a7 I F G _ _ ls h hw (lv_sub hl [0, 1, 2, 3, 4, 5, 6, 7] rfl)
    · replace h := h.2 c_16
      refine lv_aload_n hx hb d_D_drawPin_97 rfl (lv_at hl 0 rfl) ?_
      refine va_get (D := L.1) (ci := 3) (v := .ref (cA L 7)) (C := qR3) (T := qT3) (N := 7) hx hb hts qi3 hown hK hw.1 3 rfl rfl 2 (by decide) (hts _ wG168) (fun _ h9 => h9) rfl d_D_drawPin_98 ?_
      refine lv_iload hx hb d_D_drawPin_101 (lv_at hl 7 rfl) ?_
      obtain ⟨hi_17, h⟩ := h
      refine c_row7 hx hb hK hw.1 hi_17 d_D_drawPin_103 ?_
      refine lv_iload_n hx hb d_D_drawPin_104 rfl (lv_at hl 2 rfl) ?_
      refine lv_dup2_11 hx hb d_D_drawPin_105 rfl rfl ?_
      obtain ⟨hi_18, h⟩ := h
      refine c_iald hx hb hK hw.1 (19 + a7.toNatClampNeg) (row_lt19 hi_17) (row_len19 hi_17) hi_18 d_D_drawPin_106 ?_
      refine lv_iconst (v := 2) hx hb d_D_drawPin_107 (by decide) ?_
      refine lv_ior hx hb d_D_drawPin_108 ?_
      obtain ⟨hi_19, h⟩ := h
      refine c_iast hx hb hK hw (19 + a7.toNatClampNeg) (row_lt19 hi_17) (row_len19 hi_17) hi_19 d_D_drawPin_109 (fun H locs hw => ?_)
      obtain ⟨F_20, eF_20⟩ : ∃ y : MF, y = setF F (19 + a7.toNatClampNeg) (upd (F (19 + a7.toNatClampNeg)) a2.toNatClampNeg ((F (19 + a7.toNatClampNeg) a2.toNatClampNeg) ||| 2)) := ⟨_, rfl⟩
      rw [← eF_20] at hw
      replace h := h F_20 eF_20
      obtain ⟨x_21, ex_21⟩ : ∃ y : Int32, y = a7 + 1 := ⟨_, rfl⟩
      replace h := h x_21 ex_21
      refine lv_iinc (v := x_21) (lv' := [(7, .int x_21), (0, .ref (cA L 3)), (1, .int a1), (2, .int a2), (3, .int a3), (4, .int a4), (5, .int a5), (6, .int a6)]) hx hb d_D_drawPin_110 hl (k := 7) rfl (by rw [ex_21]; rfl) (by decide) rfl (fun ls hl => ?_)
      refine lv_goto (tgt := 90) hx hb d_D_drawPin_113 (by decide) ?_
      exact ih x_21 I F_20 G _ _ ls h hw (lv_sub hl [1, 2, 3, 4, 5, 6, 7, 0] rfl)
set_option maxHeartbeats 4000000 in
set_option maxRecDepth 100000 in
theorem c_D_drawPin (l : Launch) (L : cL) (a1 : Int32) (a2 : Int32) (I : MI) (F : MF) (G : MG) (sz : Nat) (post : MI → MF → MG → Prop) (h : wp_D_drawPin a1 a2 I F G post) : Met l y_D_drawPin (.code y_D_drawPin b_D_drawPin 8 (none) :: lwG) rm_D_drawPin (cPm L I F G sz [.ref (cA L 3), .int a1, .int a2]) (cQv L (cAA L I F G sz) post (cAA L I F G sz)) 0 0 (cAA L I F G sz) := by
  refine Met.ofW (cc := b_D_drawPin) (maxL := 8) (ret := (none)) (by decide) rfl ?_
  intro p e s m args below meth c s₁ B hml hv
  obtain ⟨rfl, hsz, hP, hK, hD0, hN⟩ := hv
  have xc : xC p s m _ meth c b_D_drawPin 8 lwG qR3 (none) := ⟨B.exec, B.bytes, hml, findClass_of_methodNamed B.named, fun w h => atoms_spec (ws := (.code y_D_drawPin b_D_drawPin 8 (none) :: lwG)) B.pre w (List.mem_cons_of_mem _ h), B.returns, B.notSynchronized⟩
  obtain ⟨hx, hb, hml, hown, hts, hr, hlocks⟩ := id xc
  subst hsz
  have hD : va_D (cAA L I F G s.heap.size) (WC L I F G) := hD0.self
  have hA0 : ∀ q : Nat, s.heap.size ≤ q → cAA L I F G s.heap.size q := fun q h => Or.inr h
  generalize cAA L I F G s.heap.size = A at hD hA0 ⊢
  have hA := hA0
  have hw : CW L A s.heap I F G s.heap [] := ⟨hP, hD, va_S.rf⟩
  have hl := lv_entry ([.ref (cA L 3), .int a1, .int a2]) (n := 8) (Nat.le_of_ble_eq_true rfl)
  rw [lg_entry_eq]
  generalize (lg_sl ([.ref (cA L 3), .int a1, .int a2]) ++ List.replicate (8 - (lg_sl ([.ref (cA L 3), .int a1, .int a2])).length) Slot.unset).toArray = ls at hl ⊢
  have hl : lv_has ls 8 [(0, .ref (cA L 3)), (1, .int a1), (2, .int a2)] := hl
  refine lv_aload_n hx hb d_D_drawPin_0 rfl (lv_at hl 0 rfl) ?_
  refine va_get (D := L.1) (ci := 3) (v := .ref (cA L 1)) (C := qR3) (T := qT3) (N := 7) hx hb hts qi3 hown hK hw.1 3 rfl rfl 0 (by decide) (hts _ wG166) (fun _ h9 => h9) rfl d_D_drawPin_1 ?_
  refine va_get (D := L.1) (ci := 1) (v := .ref (cA L 5)) (C := qR1) (T := qT1) (N := 13) hx hb hts qi1 hown hK hw.1 1 rfl rfl 8 (by decide) (hts _ wG104) (fun _ h9 => h9) rfl d_D_drawPin_4 ?_
  refine lv_iload_n hx hb d_D_drawPin_7 rfl (lv_at hl 1 rfl) ?_
  obtain ⟨hi_1, h⟩ := h
  refine c_row5 hx hb hK hw.1 hi_1 d_D_drawPin_8 ?_
  refine lv_iload_n hx hb d_D_drawPin_9 rfl (lv_at hl 2 rfl) ?_
  obtain ⟨hi_2, h⟩ := h
  refine c_iald hx hb hK hw.1 (15 + a1.toNatClampNeg) (row_lt15 hi_1) (row_len15 hi_1) hi_2 d_D_drawPin_10 ?_
  refine lv_topi (fun x_3 ex_3 => ?_)
  replace h := h x_3 ex_3
  refine lv_istore_n (lv' := [(3, .int x_3), (0, .ref (cA L 3)), (1, .int a1), (2, .int a2)]) hx hb d_D_drawPin_11 rfl hl (by decide) rfl (fun ls hl => ?_)
  refine lv_iload_n hx hb d_D_drawPin_12 rfl (lv_at hl 0 rfl) ?_
  refine lv_iconst (v := (-1)) hx hb d_D_drawPin_13 (by decide) ?_
  refine lv_icmp_eq (tgt := 29) hx hb d_D_drawPin_14 (by decide) (fun c_4 => ?_) (fun c_4 => ?_)
  · replace h := h.1 c_4
    exact W.vret hx hb hr (fun t ht hW => ⟨⟨(I, F, G), rfl, h, by rw [ht]; exact hw.1, va_K.moved hW.alike hK, hw.2.1⟩, hw.2.2.F ht⟩) hw.2.2.2.2 d_D_drawPin_29
  · replace h := h.2 c_4
    refine lv_aload_n hx hb d_D_drawPin_17 rfl (lv_at hl 1 rfl) ?_
    refine va_get (D := L.1) (ci := 3) (v := .ref (cA L 2)) (C := qR3) (T := qT3) (N := 7) hx hb hts qi3 hown hK hw.1 3 rfl rfl 1 (by decide) (hts _ wG167) (fun _ h9 => h9) rfl d_D_drawPin_18 ?_
    refine va_get (D := L.1) (ci := 2) (v := .ref (cA L 20)) (C := qR2) (T := qT2) (N := 3) hx hb hts qi2 hown hK hw.1 2 rfl rfl 2 (by decide) (hts _ wG150) (fun _ h9 => h9) rfl d_D_drawPin_21 ?_
    refine lv_iload_n hx hb d_D_drawPin_24 rfl (lv_at hl 0 rfl) ?_
    obtain ⟨hi_5, h⟩ := h
    refine c_iald hx hb hK hw.1 10 (by decide) rfl hi_5 d_D_drawPin_25 ?_
    refine lv_if_ne (tgt := 30) hx hb d_D_drawPin_26 (by decide) (fun c_6 => ?_) (fun c_6 => ?_)
    · replace h := h.1 c_6
      refine lv_aload_n hx hb d_D_drawPin_30 rfl (lv_at hl 1 rfl) ?_
      refine va_get (D := L.1) (ci := 3) (v := .ref (cA L 2)) (C := qR3) (T := qT3) (N := 7) hx hb hts qi3 hown hK hw.1 3 rfl rfl 1 (by decide) (hts _ wG167) (fun _ h9 => h9) rfl d_D_drawPin_31 ?_
      refine va_get (D := L.1) (ci := 2) (v := .ref (cA L 20)) (C := qR2) (T := qT2) (N := 3) hx hb hts qi2 hown hK hw.1 2 rfl rfl 2 (by decide) (hts _ wG150) (fun _ h9 => h9) rfl d_D_drawPin_34 ?_
      refine lv_iload_n hx hb d_D_drawPin_37 rfl (lv_at hl 0 rfl) ?_
      obtain ⟨hi_7, h⟩ := h
      refine c_iald hx hb hK hw.1 10 (by decide) rfl hi_7 d_D_drawPin_38 ?_
      refine lv_topi (fun x_8 ex_8 => ?_)
      replace h := h x_8 ex_8
      refine lv_istore (lv' := [(4, .int x_8), (3, .int x_3), (0, .ref (cA L 3)), (1, .int a1), (2, .int a2)]) hx hb d_D_drawPin_39 hl (by decide) rfl (fun ls hl => ?_)
      refine lv_iload_n hx hb d_D_drawPin_41 rfl (lv_at hl 3 rfl) ?_
      refine lv_if_ne (tgt := 49) hx hb d_D_drawPin_42 (by decide) (fun c_9 => ?_) (fun c_9 => ?_)
      · replace h := h.1 c_9
        refine lv_iload hx hb d_D_drawPin_49 (lv_at hl 0 rfl) ?_
        refine lv_istore (lv' := [(5, .int x_8), (4, .int x_8), (3, .int x_3), (0, .ref (cA L 3)), (1, .int a1), (2, .int a2)]) hx hb d_D_drawPin_51 hl (by decide) rfl (fun ls hl => ?_)
        refine lv_iload_n hx hb d_D_drawPin_53 rfl (lv_at hl 4 rfl) ?_
        refine lv_if_ne (tgt := 62) hx hb d_D_drawPin_54 (by decide) (fun c_10 => ?_) (fun c_10 => ?_)
        · replace h := h.1 c_10
          refine lv_aload_n hx hb d_D_drawPin_62 rfl (lv_at hl 3 rfl) ?_
          refine va_get (D := L.1) (ci := 3) (v := .ref (cA L 2)) (C := qR3) (T := qT3) (N := 7) hx hb hts qi3 hown hK hw.1 3 rfl rfl 1 (by decide) (hts _ wG167) (fun _ h9 => h9) rfl d_D_drawPin_63 ?_
          refine va_get (D := L.1) (ci := 2) (v := .int (I 2)) (C := qR2) (T := qT2) (N := 3) hx hb hts qi2 hown hK hw.1 2 rfl rfl 1 (by decide) (hts _ wG148) (fun _ h9 => h9) rfl d_D_drawPin_66 ?_
          refine lv_iconst (v := 1) hx hb d_D_drawPin_69 (by decide) ?_
          refine lv_iadd hx hb d_D_drawPin_70 ?_
          refine lv_topi (fun x_11 ex_11 => ?_)
          replace h := h x_11 ex_11
          refine lv_istore (lv' := [(6, .int x_11), (5, .int x_8), (4, .int x_8), (3, .int x_3), (0, .ref (cA L 3)), (1, .int a1), (2, .int a2)]) hx hb d_D_drawPin_71 hl (by decide) rfl (fun ls hl => ?_)
          refine lv_aload_n hx hb d_D_drawPin_73 rfl (lv_at hl 4 rfl) ?_
          refine va_get (D := L.1) (ci := 3) (v := .ref (cA L 7)) (C := qR3) (T := qT3) (N := 7) hx hb hts qi3 hown hK hw.1 3 rfl rfl 2 (by decide) (hts _ wG168) (fun _ h9 => h9) rfl d_D_drawPin_74 ?_
          refine lv_iload hx hb d_D_drawPin_77 (lv_at hl 2 rfl) ?_
          obtain ⟨hi_12, h⟩ := h
          refine c_row7 hx hb hK hw.1 hi_12 d_D_drawPin_79 ?_
          refine lv_iload_n hx hb d_D_drawPin_80 rfl (lv_at hl 6 rfl) ?_
          refine lv_dup2_11 hx hb d_D_drawPin_81 rfl rfl ?_
          obtain ⟨hi_13, h⟩ := h
          refine c_iald hx hb hK hw.1 (19 + x_8.toNatClampNeg) (row_lt19 hi_12) (row_len19 hi_12) hi_13 d_D_drawPin_82 ?_
          refine lv_iconst (v := 4) hx hb d_D_drawPin_83 (by decide) ?_
          refine lv_ior hx hb d_D_drawPin_84 ?_
          obtain ⟨hi_14, h⟩ := h
          refine c_iast hx hb hK hw (19 + x_8.toNatClampNeg) (row_lt19 hi_12) (row_len19 hi_12) hi_14 d_D_drawPin_85 (fun H locs hw => ?_)
          obtain ⟨F_15, eF_15⟩ : ∃ y : MF, y = setF F (19 + x_8.toNatClampNeg) (upd (F (19 + x_8.toNatClampNeg)) a2.toNatClampNeg ((F (19 + x_8.toNatClampNeg) a2.toNatClampNeg) ||| 4)) := ⟨_, rfl⟩
          rw [← eF_15] at hw
          replace h := h F_15 eF_15
          refine lv_iload hx hb d_D_drawPin_86 (lv_at hl 1 rfl) ?_
          refine lv_istore (lv' := [(7, .int x_8), (6, .int x_11), (5, .int x_8), (4, .int x_8), (3, .int x_3), (0, .ref (cA L 3)), (1, .int a1), (2, .int a2)]) hx hb d_D_drawPin_88 hl (by decide) rfl (fun ls hl => ?_)
          obtain ⟨n_24, h⟩ := h
          refine Wl_D_drawPin_90 xc hK hN hA (hk := fun x_22 I_23 F_23 G_23 H locs ls h hw hl => ?_) n_24 x_8 I F_15 G _ _ ls h hw (lv_sub hl [5, 6, 7, 4, 3, 2, 1, 0] rfl)
          exact W.vret hx hb hr (fun t ht hW => ⟨⟨(I_23, F_23, G_23), rfl, h, by rw [ht]; exact hw.1, va_K.moved hW.alike hK, hw.2.1⟩, hw.2.2.F ht⟩) hw.2.2.2.2 d_D_drawPin_116
        · replace h := h.2 c_10
          refine lv_iload hx hb d_D_drawPin_57 (lv_at hl 1 rfl) ?_
          refine lv_goto (tgt := 71) hx hb d_D_drawPin_59 (by decide) ?_
          refine lv_istore (lv' := [(6, .int x_8), (5, .int x_8), (4, .int x_8), (3, .int x_3), (0, .ref (cA L 3)), (1, .int a1), (2, .int a2)]) hx hb d_D_drawPin_71 hl (by decide) rfl (fun ls hl => ?_)
          refine lv_aload_n hx hb d_D_drawPin_73 rfl (lv_at hl 4 rfl) ?_
          refine va_get (D := L.1) (ci := 3) (v := .ref (cA L 7)) (C := qR3) (T := qT3) (N := 7) hx hb hts qi3 hown hK hw.1 3 rfl rfl 2 (by decide) (hts _ wG168) (fun _ h9 => h9) rfl d_D_drawPin_74 ?_
          refine lv_iload hx hb d_D_drawPin_77 (lv_at hl 2 rfl) ?_
          obtain ⟨hi_25, h⟩ := h
          refine c_row7 hx hb hK hw.1 hi_25 d_D_drawPin_79 ?_
          refine lv_iload_n hx hb d_D_drawPin_80 rfl (lv_at hl 6 rfl) ?_
          refine lv_dup2_11 hx hb d_D_drawPin_81 rfl rfl ?_
          obtain ⟨hi_26, h⟩ := h
          refine c_iald hx hb hK hw.1 (19 + x_8.toNatClampNeg) (row_lt19 hi_25) (row_len19 hi_25) hi_26 d_D_drawPin_82 ?_
          refine lv_iconst (v := 4) hx hb d_D_drawPin_83 (by decide) ?_
          refine lv_ior hx hb d_D_drawPin_84 ?_
          obtain ⟨hi_27, h⟩ := h
          refine c_iast hx hb hK hw (19 + x_8.toNatClampNeg) (row_lt19 hi_25) (row_len19 hi_25) hi_27 d_D_drawPin_85 (fun H locs hw => ?_)
          obtain ⟨F_28, eF_28⟩ : ∃ y : MF, y = setF F (19 + x_8.toNatClampNeg) (upd (F (19 + x_8.toNatClampNeg)) a2.toNatClampNeg ((F (19 + x_8.toNatClampNeg) a2.toNatClampNeg) ||| 4)) := ⟨_, rfl⟩
          rw [← eF_28] at hw
          replace h := h F_28 eF_28
          refine lv_iload hx hb d_D_drawPin_86 (lv_at hl 1 rfl) ?_
          refine lv_istore (lv' := [(7, .int x_8), (6, .int x_8), (5, .int x_8), (4, .int x_8), (3, .int x_3), (0, .ref (cA L 3)), (1, .int a1), (2, .int a2)]) hx hb d_D_drawPin_88 hl (by decide) rfl (fun ls hl => ?_)
          obtain ⟨n_31, h⟩ := h
          refine Wl_D_drawPin_90 xc hK hN hA (hk := fun x_29 I_30 F_30 G_30 H locs ls h hw hl => ?_) n_31 x_8 I F_28 G _ _ ls h hw (lv_sub hl [5, 6, 7, 4, 3, 2, 1, 0] rfl)
          exact W.vret hx hb hr (fun t ht hW => ⟨⟨(I_30, F_30, G_30), rfl, h, by rw [ht]; exact hw.1, va_K.moved hW.alike hK, hw.2.1⟩, hw.2.2.F ht⟩) hw.2.2.2.2 d_D_drawPin_116
      · replace h := h.2 c_9
        refine lv_iconst (v := 0) hx hb d_D_drawPin_45 (by decide) ?_
        refine lv_goto (tgt := 51) hx hb d_D_drawPin_46 (by decide) ?_
        refine lv_istore (lv' := [(5, .int 0), (4, .int x_8), (3, .int x_3), (0, .ref (cA L 3)), (1, .int a1), (2, .int a2)]) hx hb d_D_drawPin_51 hl (by decide) rfl (fun ls hl => ?_)
        refine lv_iload_n hx hb d_D_drawPin_53 rfl (lv_at hl 4 rfl) ?_
        refine lv_if_ne (tgt := 62) hx hb d_D_drawPin_54 (by decide) (fun c_32 => ?_) (fun c_32 => ?_)
        · replace h := h.1 c_32
          refine lv_aload_n hx hb d_D_drawPin_62 rfl (lv_at hl 3 rfl) ?_
          refine va_get (D := L.1) (ci := 3) (v := .ref (cA L 2)) (C := qR3) (T := qT3) (N := 7) hx hb hts qi3 hown hK hw.1 3 rfl rfl 1 (by decide) (hts _ wG167) (fun _ h9 => h9) rfl d_D_drawPin_63 ?_
          refine va_get (D := L.1) (ci := 2) (v := .int (I 2)) (C := qR2) (T := qT2) (N := 3) hx hb hts qi2 hown hK hw.1 2 rfl rfl 1 (by decide) (hts _ wG148) (fun _ h9 => h9) rfl d_D_drawPin_66 ?_
          refine lv_iconst (v := 1) hx hb d_D_drawPin_69 (by decide) ?_
          refine lv_iadd hx hb d_D_drawPin_70 ?_
          refine lv_topi (fun x_33 ex_33 => ?_)
          replace h := h x_33 ex_33
          refine lv_istore (lv' := [(6, .int x_33), (5, .int 0), (4, .int x_8), (3, .int x_3), (0, .ref (cA L 3)), (1, .int a1), (2, .int a2)]) hx hb d_D_drawPin_71 hl (by decide) rfl (fun ls hl => ?_)
          refine lv_aload_n hx hb d_D_drawPin_73 rfl (lv_at hl 4 rfl) ?_
          refine va_get (D := L.1) (ci := 3) (v := .ref (cA L 7)) (C := qR3) (T := qT3) (N := 7) hx hb hts qi3 hown hK hw.1 3 rfl rfl 2 (by decide) (hts _ wG168) (fun _ h9 => h9) rfl d_D_drawPin_74 ?_
          refine lv_iload hx hb d_D_drawPin_77 (lv_at hl 2 rfl) ?_
          obtain ⟨hi_34, h⟩ := h
          refine c_row7 hx hb hK hw.1 hi_34 d_D_drawPin_79 ?_
          refine lv_iload_n hx hb d_D_drawPin_80 rfl (lv_at hl 6 rfl) ?_
          refine lv_dup2_11 hx hb d_D_drawPin_81 rfl rfl ?_
          obtain ⟨hi_35, h⟩ := h
          refine c_iald hx hb hK hw.1 (19 + x_8.toNatClampNeg) (row_lt19 hi_34) (row_len19 hi_34) hi_35 d_D_drawPin_82 ?_
          refine lv_iconst (v := 4) hx hb d_D_drawPin_83 (by decide) ?_
          refine lv_ior hx hb d_D_drawPin_84 ?_
          obtain ⟨hi_36, h⟩ := h
          refine c_iast hx hb hK hw (19 + x_8.toNatClampNeg) (row_lt19 hi_34) (row_len19 hi_34) hi_36 d_D_drawPin_85 (fun H locs hw => ?_)
          obtain ⟨F_37, eF_37⟩ : ∃ y : MF, y = setF F (19 + x_8.toNatClampNeg) (upd (F (19 + x_8.toNatClampNeg)) a2.toNatClampNeg ((F (19 + x_8.toNatClampNeg) a2.toNatClampNeg) ||| 4)) := ⟨_, rfl⟩
          rw [← eF_37] at hw
          replace h := h F_37 eF_37
          refine lv_iload hx hb d_D_drawPin_86 (lv_at hl 1 rfl) ?_
          refine lv_istore (lv' := [(7, .int 0), (6, .int x_33), (5, .int 0), (4, .int x_8), (3, .int x_3), (0, .ref (cA L 3)), (1, .int a1), (2, .int a2)]) hx hb d_D_drawPin_88 hl (by decide) rfl (fun ls hl => ?_)
          obtain ⟨n_40, h⟩ := h
          refine Wl_D_drawPin_90 xc hK hN hA (hk := fun x_38 I_39 F_39 G_39 H locs ls h hw hl => ?_) n_40 0 I F_37 G _ _ ls h hw (lv_sub hl [5, 6, 7, 4, 3, 2, 1, 0] rfl)
          exact W.vret hx hb hr (fun t ht hW => ⟨⟨(I_39, F_39, G_39), rfl, h, by rw [ht]; exact hw.1, va_K.moved hW.alike hK, hw.2.1⟩, hw.2.2.F ht⟩) hw.2.2.2.2 d_D_drawPin_116
        · replace h := h.2 c_32
          refine lv_iload hx hb d_D_drawPin_57 (lv_at hl 1 rfl) ?_
          refine lv_goto (tgt := 71) hx hb d_D_drawPin_59 (by decide) ?_
          refine lv_istore (lv' := [(6, .int x_8), (5, .int 0), (4, .int x_8), (3, .int x_3), (0, .ref (cA L 3)), (1, .int a1), (2, .int a2)]) hx hb d_D_drawPin_71 hl (by decide) rfl (fun ls hl => ?_)
          refine lv_aload_n hx hb d_D_drawPin_73 rfl (lv_at hl 4 rfl) ?_
          refine va_get (D := L.1) (ci := 3) (v := .ref (cA L 7)) (C := qR3) (T := qT3) (N := 7) hx hb hts qi3 hown hK hw.1 3 rfl rfl 2 (by decide) (hts _ wG168) (fun _ h9 => h9) rfl d_D_drawPin_74 ?_
          refine lv_iload hx hb d_D_drawPin_77 (lv_at hl 2 rfl) ?_
          obtain ⟨hi_41, h⟩ := h
          refine c_row7 hx hb hK hw.1 hi_41 d_D_drawPin_79 ?_
          refine lv_iload_n hx hb d_D_drawPin_80 rfl (lv_at hl 6 rfl) ?_
          refine lv_dup2_11 hx hb d_D_drawPin_81 rfl rfl ?_
          obtain ⟨hi_42, h⟩ := h
          refine c_iald hx hb hK hw.1 (19 + x_8.toNatClampNeg) (row_lt19 hi_41) (row_len19 hi_41) hi_42 d_D_drawPin_82 ?_
          refine lv_iconst (v := 4) hx hb d_D_drawPin_83 (by decide) ?_
          refine lv_ior hx hb d_D_drawPin_84 ?_
          obtain ⟨hi_43, h⟩ := h
          refine c_iast hx hb hK hw (19 + x_8.toNatClampNeg) (row_lt19 hi_41) (row_len19 hi_41) hi_43 d_D_drawPin_85 (fun H locs hw => ?_)
          obtain ⟨F_44, eF_44⟩ : ∃ y : MF, y = setF F (19 + x_8.toNatClampNeg) (upd (F (19 + x_8.toNatClampNeg)) a2.toNatClampNeg ((F (19 + x_8.toNatClampNeg) a2.toNatClampNeg) ||| 4)) := ⟨_, rfl⟩
          rw [← eF_44] at hw
          replace h := h F_44 eF_44
          refine lv_iload hx hb d_D_drawPin_86 (lv_at hl 1 rfl) ?_
          refine lv_istore (lv' := [(7, .int 0), (6, .int x_8), (5, .int 0), (4, .int x_8), (3, .int x_3), (0, .ref (cA L 3)), (1, .int a1), (2, .int a2)]) hx hb d_D_drawPin_88 hl (by decide) rfl (fun ls hl => ?_)
          obtain ⟨n_47, h⟩ := h
          refine Wl_D_drawPin_90 xc hK hN hA (hk := fun x_45 I_46 F_46 G_46 H locs ls h hw hl => ?_) n_47 0 I F_44 G _ _ ls h hw (lv_sub hl [5, 6, 7, 4, 3, 2, 1, 0] rfl)
          exact W.vret hx hb hr (fun t ht hW => ⟨⟨(I_46, F_46, G_46), rfl, h, by rw [ht]; exact hw.1, va_K.moved hW.alike hK, hw.2.1⟩, hw.2.2.F ht⟩) hw.2.2.2.2 d_D_drawPin_116
    · replace h := h.2 c_6
      exact W.vret hx hb hr (fun t ht hW => ⟨⟨(I, F, G), rfl, h, by rw [ht]; exact hw.1, va_K.moved hW.alike hK, hw.2.1⟩, hw.2.2.F ht⟩) hw.2.2.2.2 d_D_drawPin_29
abbrev rm_D_draw : Room := { frames := 5, cells := 0, slots := 0, locals := 107 }
set_option maxHeartbeats 4000000 in
set_option maxRecDepth 100000 in
theorem Wl_D_draw_2 {p : Program} {l : Launch} {e : Env} {s : State} {m : MethodId} {args : Array Value} {below : List Frame} {meth : Method} {c : Code} {L : cL} {A : Nat → Prop} {post : MI → MF → MG → Prop} {K : Int32 → MI → MF → MG → Prop} (xc : xC p s m args meth c b_D_draw 2 lwG qR3 (none)) (hK : va_K L.1 vwCl (cTys L) s) (hN : cNk s) (hA : ∀ q, s.heap.size ≤ q → A q)
    (hk : ∀ (a1 : Int32) (I : MI) (F : MF) (G : MG) (H : Heap) (locs : List Loc) (ls : Array Slot), K a1 I F G → CW L A s.heap I F G H locs → lv_has ls 2 [(0, .ref (cA L 3)), (1, .int a1)] → W p l e rm_D_draw s m args below meth c H locs 0 0 (MQ below (cQv L A post A) args s 0 0 A) (F0 m 24 ls [])) :
    ∀ (n : Nat) (a1 : Int32) (I : MI) (F : MF) (G : MG) (H : Heap) (locs : List Loc) (ls : Array Slot), wl_D_draw_2 post K n a1 I F G → CW L A s.heap I F G H locs → lv_has ls 2 [(0, .ref (cA L 3)), (1, .int a1)] → W p l e rm_D_draw s m args below meth c H locs 0 0 (MQ below (cQv L A post A) args s 0 0 A) (F0 m 2 ls []) := by
  obtain ⟨hx, hb, hml, hown, hts, hr, hlocks⟩ := id xc
  intro n
  induction n with
  | zero => intro a1 I F G H locs ls h; exact absurd h id
  | succ n ih =>
    intro a1 I F G H locs ls h hw hl
    refine lv_iload_n hx hb d_D_draw_2 rfl (lv_at hl 1 rfl) ?_
    refine lv_bipush (v := 11) hx hb d_D_draw_3 (by decide) ?_
    refine lv_icmp_ge (tgt := 24) hx hb d_D_draw_5 (by decide) (fun c_1 => ?_) (fun c_1 => ?_)
    · replace h := h.1 c_1
      exact hk a1 I F G _ _ ls h hw (lv_sub hl [0, 1] rfl)
    · replace h := h.2 c_1
      refine lv_aload_n hx hb d_D_draw_8 rfl (lv_at hl 0 rfl) ?_
      refine va_get (D := L.1) (ci := 3) (v := .ref (cA L 7)) (C := qR3) (T := qT3) (N := 7) hx hb hts qi3 hown hK hw.1 3 rfl rfl 2 (by decide) (hts _ wG168) (fun _ h9 => h9) rfl d_D_draw_9 ?_
      refine lv_iload_n hx hb d_D_draw_12 rfl (lv_at hl 1 rfl) ?_
      obtain ⟨hi_2, h⟩ := h
      refine c_row7 hx hb hK hw.1 hi_2 d_D_draw_13 ?_
      refine lv_iconst (v := 0) hx hb d_D_draw_14 (by decide) ?_
      refine c_fill (k := (19 + a1.toNatClampNeg)) (n := 24) (rest := []) ⟨hx, hb, hml, hown, hts⟩ hK hN hw hA (va_cwS 2 hts (gS wG441 wG86 wG50 wG87) rfl rfl rfl (by decide +kernel) ⟨Nat.le_of_ble_eq_true rfl, Nat.le_of_ble_eq_true rfl⟩) (row_lt19 hi_2) (row_len19 hi_2) (by decide) hl.1 (lv_room (Nat.le_of_ble_eq_true rfl)) d_D_draw_15 ⟨Nat.le_of_ble_eq_true rfl, Nat.le_of_ble_eq_true rfl⟩ (fun H locs hw => ?_)
      obtain ⟨F_3, eF_3⟩ : ∃ y : MF, y = setF F (19 + a1.toNatClampNeg) (filled (F (19 + a1.toNatClampNeg)) 24 0) := ⟨_, rfl⟩
      rw [← eF_3] at hw
      replace h := h F_3 eF_3
      obtain ⟨x_4, ex_4⟩ : ∃ y : Int32, y = a1 + 1 := ⟨_, rfl⟩
      replace h := h x_4 ex_4
      refine lv_iinc (v := x_4) (lv' := [(1, .int x_4), (0, .ref (cA L 3))]) hx hb d_D_draw_18 hl (k := 1) rfl (by rw [ex_4]; rfl) (by decide) rfl (fun ls hl => ?_)
      refine lv_goto (tgt := 2) hx hb d_D_draw_21 (by decide) ?_
      exact ih x_4 I F_3 G _ _ ls h hw (lv_sub hl [1, 0] rfl)
set_option maxHeartbeats 4000000 in
set_option maxRecDepth 100000 in
theorem Wl_D_draw_26 {p : Program} {l : Launch} {e : Env} {s : State} {m : MethodId} {args : Array Value} {below : List Frame} {meth : Method} {c : Code} {L : cL} {A : Nat → Prop} {post : MI → MF → MG → Prop} {K : Int32 → MI → MF → MG → Prop} (xc : xC p s m args meth c b_D_draw 2 lwG qR3 (none)) (hK : va_K L.1 vwCl (cTys L) s) (hN : cNk s) (hA : ∀ q, s.heap.size ≤ q → A q)
    (hk : ∀ (a1 : Int32) (I : MI) (F : MF) (G : MG) (H : Heap) (locs : List Loc) (ls : Array Slot), K a1 I F G → CW L A s.heap I F G H locs → lv_has ls 2 [(0, .ref (cA L 3)), (1, .int a1)] → W p l e rm_D_draw s m args below meth c H locs 0 0 (MQ below (cQv L A post A) args s 0 0 A) (F0 m 55 ls [])) :
    ∀ (n : Nat) (a1 : Int32) (I : MI) (F : MF) (G : MG) (H : Heap) (locs : List Loc) (ls : Array Slot), wl_D_draw_26 post K n a1 I F G → CW L A s.heap I F G H locs → lv_has ls 2 [(0, .ref (cA L 3)), (1, .int a1)] → W p l e rm_D_draw s m args below meth c H locs 0 0 (MQ below (cQv L A post A) args s 0 0 A) (F0 m 26 ls []) := by
  obtain ⟨hx, hb, hml, hown, hts, hr, hlocks⟩ := id xc
  intro n
  induction n with
  | zero => intro a1 I F G H locs ls h; exact absurd h id
  | succ n ih =>
    intro a1 I F G H locs ls h hw hl
    refine lv_iload_n hx hb d_D_draw_26 rfl (lv_at hl 1 rfl) ?_
    refine lv_bipush (v := 12) hx hb d_D_draw_27 (by decide) ?_
    refine lv_icmp_ge (tgt := 55) hx hb d_D_draw_29 (by decide) (fun c_7 => ?_) (fun c_7 => ?_)
    · replace h := h.1 c_7
      exact hk a1 I F G _ _ ls h hw (lv_sub hl [0, 1] rfl)
    · replace h := h.2 c_7
      refine lv_aload_n hx hb d_D_draw_32 rfl (lv_at hl 0 rfl) ?_
      refine va_get (D := L.1) (ci := 3) (v := .ref (cA L 2)) (C := qR3) (T := qT3) (N := 7) hx hb hts qi3 hown hK hw.1 3 rfl rfl 1 (by decide) (hts _ wG167) (fun _ h9 => h9) rfl d_D_draw_33 ?_
      refine va_get (D := L.1) (ci := 2) (v := .ref (cA L 20)) (C := qR2) (T := qT2) (N := 3) hx hb hts qi2 hown hK hw.1 2 rfl rfl 2 (by decide) (hts _ wG150) (fun _ h9 => h9) rfl d_D_draw_36 ?_
      refine lv_iload_n hx hb d_D_draw_39 rfl (lv_at hl 1 rfl) ?_
      obtain ⟨hi_8, h⟩ := h
      refine c_iald hx hb hK hw.1 10 (by decide) rfl hi_8 d_D_draw_40 ?_
      refine lv_if_le (tgt := 49) hx hb d_D_draw_41 (by decide) (fun c_9 => ?_) (fun c_9 => ?_)
      · replace h := h.1 c_9
        obtain ⟨x_10, ex_10⟩ : ∃ y : Int32, y = a1 + 1 := ⟨_, rfl⟩
        replace h := h x_10 ex_10
        refine lv_iinc (v := x_10) (lv' := [(1, .int x_10), (0, .ref (cA L 3))]) hx hb d_D_draw_49 hl (k := 1) rfl (by rw [ex_10]; rfl) (by decide) rfl (fun ls hl => ?_)
        refine lv_goto (tgt := 26) hx hb d_D_draw_52 (by decide) ?_
        exact ih x_10 I F G _ _ ls h hw (lv_sub hl [1, 0] rfl)
      · replace h := h.2 c_9
        refine lv_aload_n hx hb d_D_draw_44 rfl (lv_at hl 0 rfl) ?_
        refine lv_iload_n hx hb d_D_draw_45 rfl (lv_at hl 1 rfl) ?_
        refine c_callv (va_runV (As := [.int a1]) (rest := []) ⟨hx, hb, hml, hown, hts⟩ (c_D_drawBars l L a1 I F G _ _ h) (cwV 1 hts (gV wG442 wG444 wG4 wG52 wG445) rfl rfl rfl (by decide +kernel) ⟨Nat.le_of_ble_eq_true rfl, Nat.le_of_ble_eq_true rfl⟩) (cPrm3 hK hN hw) rfl rfl hl.1 rfl (lv_room (Nat.le_of_ble_eq_true rfl)) d_D_draw_46 ⟨Nat.le_of_ble_eq_true rfl, Nat.le_of_ble_eq_true rfl⟩) hw hA (fun I_11 F_11 G_11 H locs h hw => ?_)
        obtain ⟨x_12, ex_12⟩ : ∃ y : Int32, y = a1 + 1 := ⟨_, rfl⟩
        replace h := h x_12 ex_12
        refine lv_iinc (v := x_12) (lv' := [(1, .int x_12), (0, .ref (cA L 3))]) hx hb d_D_draw_49 hl (k := 1) rfl (by rw [ex_12]; rfl) (by decide) rfl (fun ls hl => ?_)
        refine lv_goto (tgt := 26) hx hb d_D_draw_52 (by decide) ?_
        exact ih x_12 I_11 F_11 G_11 _ _ ls h hw (lv_sub hl [1, 0] rfl)
set_option maxHeartbeats 4000000 in
set_option maxRecDepth 100000 in
theorem Wl_D_draw_57 {p : Program} {l : Launch} {e : Env} {s : State} {m : MethodId} {args : Array Value} {below : List Frame} {meth : Method} {c : Code} {L : cL} {A : Nat → Prop} {post : MI → MF → MG → Prop} {K : Int32 → MI → MF → MG → Prop} (xc : xC p s m args meth c b_D_draw 2 lwG qR3 (none)) (hK : va_K L.1 vwCl (cTys L) s) (hN : cNk s) (hA : ∀ q, s.heap.size ≤ q → A q)
    (hk : ∀ (a1 : Int32) (I : MI) (F : MF) (G : MG) (H : Heap) (locs : List Loc) (ls : Array Slot), K a1 I F G → CW L A s.heap I F G H locs → lv_has ls 2 [(0, .ref (cA L 3)), (1, .int a1)] → W p l e rm_D_draw s m args below meth c H locs 0 0 (MQ below (cQv L A post A) args s 0 0 A) (F0 m 81 ls [])) :
    ∀ (n : Nat) (a1 : Int32) (I : MI) (F : MF) (G : MG) (H : Heap) (locs : List Loc) (ls : Array Slot), wl_D_draw_57 post K n a1 I F G → CW L A s.heap I F G H locs → lv_has ls 2 [(0, .ref (cA L 3)), (1, .int a1)] → W p l e rm_D_draw s m args below meth c H locs 0 0 (MQ below (cQv L A post A) args s 0 0 A) (F0 m 57 ls []) := by
  obtain ⟨hx, hb, hml, hown, hts, hr, hlocks⟩ := id xc
  intro n
  induction n with
  | zero => intro a1 I F G H locs ls h; exact absurd h id
  | succ n ih =>
    intro a1 I F G H locs ls h hw hl
    refine lv_iload_n hx hb d_D_draw_57 rfl (lv_at hl 1 rfl) ?_
    refine lv_bipush (v := 24) hx hb d_D_draw_58 (by decide) ?_
    refine lv_icmp_ge (tgt := 81) hx hb d_D_draw_60 (by decide) (fun c_15 => ?_) (fun c_15 => ?_)
    · replace h := h.1 c_15
      exact hk a1 I F G _ _ ls h hw (lv_sub hl [0, 1] rfl)
    · replace h := h.2 c_15
      refine lv_aload_n hx hb d_D_draw_63 rfl (lv_at hl 0 rfl) ?_
      refine lv_iconst (v := 0) hx hb d_D_draw_64 (by decide) ?_
      refine lv_iload_n hx hb d_D_draw_65 rfl (lv_at hl 1 rfl) ?_
      refine c_callv (va_runV (As := [.int 0, .int a1]) (rest := []) ⟨hx, hb, hml, hown, hts⟩ (c_D_drawPin l L 0 a1 I F G _ _ h) (cwV 2 hts (gV wG448 wG450 wG5 wG52 wG451) rfl rfl rfl (by decide +kernel) ⟨Nat.le_of_ble_eq_true rfl, Nat.le_of_ble_eq_true rfl⟩) (cPrm3 hK hN hw) rfl rfl hl.1 rfl (lv_room (Nat.le_of_ble_eq_true rfl)) d_D_draw_66 ⟨Nat.le_of_ble_eq_true rfl, Nat.le_of_ble_eq_true rfl⟩) hw hA (fun I_16 F_16 G_16 H locs h hw => ?_)
      refine lv_aload_n hx hb d_D_draw_69 rfl (lv_at hl 0 rfl) ?_
      refine lv_iconst (v := 1) hx hb d_D_draw_70 (by decide) ?_
      refine lv_iload_n hx hb d_D_draw_71 rfl (lv_at hl 1 rfl) ?_
      refine c_callv (va_runV (As := [.int 1, .int a1]) (rest := []) ⟨hx, hb, hml, hown, hts⟩ (c_D_drawPin l L 1 a1 I_16 F_16 G_16 _ _ h) (cwV 2 hts (gV wG448 wG450 wG5 wG52 wG451) rfl rfl rfl (by decide +kernel) ⟨Nat.le_of_ble_eq_true rfl, Nat.le_of_ble_eq_true rfl⟩) (cPrm3 hK hN hw) rfl rfl hl.1 rfl (lv_room (Nat.le_of_ble_eq_true rfl)) d_D_draw_72 ⟨Nat.le_of_ble_eq_true rfl, Nat.le_of_ble_eq_true rfl⟩) hw hA (fun I_17 F_17 G_17 H locs h hw => ?_)
      obtain ⟨x_18, ex_18⟩ : ∃ y : Int32, y = a1 + 1 := ⟨_, rfl⟩
      replace h := h x_18 ex_18
      refine lv_iinc (v := x_18) (lv' := [(1, .int x_18), (0, .ref (cA L 3))]) hx hb d_D_draw_75 hl (k := 1) rfl (by rw [ex_18]; rfl) (by decide) rfl (fun ls hl => ?_)
      refine lv_goto (tgt := 57) hx hb d_D_draw_78 (by decide) ?_
      exact ih x_18 I_17 F_17 G_17 _ _ ls h hw (lv_sub hl [1, 0] rfl)
set_option maxHeartbeats 4000000 in
set_option maxRecDepth 100000 in
theorem c_D_draw (l : Launch) (L : cL) (I : MI) (F : MF) (G : MG) (sz : Nat) (post : MI → MF → MG → Prop) (h : wp_D_draw I F G post) : Met l y_D_draw (.code y_D_draw b_D_draw 2 (none) :: lwG) rm_D_draw (cPm L I F G sz [.ref (cA L 3)]) (cQv L (cAA L I F G sz) post (cAA L I F G sz)) 0 0 (cAA L I F G sz) := by
  refine Met.ofW (cc := b_D_draw) (maxL := 2) (ret := (none)) (by decide) rfl ?_
  intro p e s m args below meth c s₁ B hml hv
  obtain ⟨rfl, hsz, hP, hK, hD0, hN⟩ := hv
  have xc : xC p s m _ meth c b_D_draw 2 lwG qR3 (none) := ⟨B.exec, B.bytes, hml, findClass_of_methodNamed B.named, fun w h => atoms_spec (ws := (.code y_D_draw b_D_draw 2 (none) :: lwG)) B.pre w (List.mem_cons_of_mem _ h), B.returns, B.notSynchronized⟩
  obtain ⟨hx, hb, hml, hown, hts, hr, hlocks⟩ := id xc
  subst hsz
  have hD : va_D (cAA L I F G s.heap.size) (WC L I F G) := hD0.self
  have hA0 : ∀ q : Nat, s.heap.size ≤ q → cAA L I F G s.heap.size q := fun q h => Or.inr h
  generalize cAA L I F G s.heap.size = A at hD hA0 ⊢
  have hA := hA0
  have hw : CW L A s.heap I F G s.heap [] := ⟨hP, hD, va_S.rf⟩
  have hl := lv_entry ([.ref (cA L 3)]) (n := 2) (Nat.le_of_ble_eq_true rfl)
  rw [lg_entry_eq]
  generalize (lg_sl ([.ref (cA L 3)]) ++ List.replicate (2 - (lg_sl ([.ref (cA L 3)])).length) Slot.unset).toArray = ls at hl ⊢
  have hl : lv_has ls 2 [(0, .ref (cA L 3))] := hl
  refine lv_iconst (v := 0) hx hb d_D_draw_0 (by decide) ?_
  refine lv_istore_n (lv' := [(1, .int 0), (0, .ref (cA L 3))]) hx hb d_D_draw_1 rfl hl (by decide) rfl (fun ls hl => ?_)
  obtain ⟨n_23, h⟩ := h
  refine Wl_D_draw_2 xc hK hN hA (hk := fun x_5 I_6 F_6 G_6 H locs ls h hw hl => ?_) n_23 0 I F G _ _ ls h hw (lv_sub hl [1, 0] rfl)
  refine lv_iconst (v := 0) hx hb d_D_draw_24 (by decide) ?_
  refine lv_istore_n (lv' := [(1, .int 0), (0, .ref (cA L 3))]) hx hb d_D_draw_25 rfl hl (by decide) rfl (fun ls hl => ?_)
  obtain ⟨n_22, h⟩ := h
  refine Wl_D_draw_26 xc hK hN hA (hk := fun x_13 I_14 F_14 G_14 H locs ls h hw hl => ?_) n_22 0 I_6 F_6 G_6 _ _ ls h hw (lv_sub hl [1, 0] rfl)
  refine lv_iconst (v := 0) hx hb d_D_draw_55 (by decide) ?_
  refine lv_istore_n (lv' := [(1, .int 0), (0, .ref (cA L 3))]) hx hb d_D_draw_56 rfl hl (by decide) rfl (fun ls hl => ?_)
  obtain ⟨n_21, h⟩ := h
  refine Wl_D_draw_57 xc hK hN hA (hk := fun x_19 I_20 F_20 G_20 H locs ls h hw hl => ?_) n_21 0 I_14 F_14 G_14 _ _ ls h hw (lv_sub hl [1, 0] rfl)
  exact W.vret hx hb hr (fun t ht hW => ⟨⟨(I_20, F_20, G_20), rfl, h, by rw [ht]; exact hw.1, va_K.moved hW.alike hK, hw.2.1⟩, hw.2.2.F ht⟩) hw.2.2.2.2 d_D_draw_81
