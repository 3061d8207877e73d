set_option maxHeartbeats 4000000 in
set_option maxRecDepth 100000 in
theorem Wl_N_wiredNets_4 {p : Program} {l : Launch} {e : Env} {s : State} {m : MethodId} {args : Array Value} {below : List Frame} {meth : Method} {c : Code} {L : cL} {I : MI} {F : MF} {G : MG} {post : Int32 → Prop} {K : Int32 → Int32 → Prop} (xc : xC p s m args meth c b_N_wiredNets 3 lwG qR1 (some .int)) (hP : va_P L.1 vwCl (WC L I F G) s.heap) (hK : va_K L.1 vwCl (cTys L) s) (hN : cNk s)
    (hk : ∀ (a1 : Int32) (a2 : Int32) (ls : Array Slot), K a1 a2 → lv_has ls 3 [(0, .ref (cA L 1)), (1, .int a1), (2, .int a2)] → W p l e rm_N_wiredNets s m args below meth c s.heap [] 0 0 (MQ below (vp_Si post) args s 0 0 (fun _ => False)) (F0 m 27 ls [])) :
    ∀ (n : Nat) (a1 : Int32) (a2 : Int32) (ls : Array Slot), wl_N_wiredNets_4 post K I F G n a1 a2 → lv_has ls 3 [(0, .ref (cA L 1)), (1, .int a1), (2, .int a2)] → W p l e rm_N_wiredNets s m args below meth c s.heap [] 0 0 (MQ below (vp_Si post) args s 0 0 (fun _ => False)) (F0 m 4 ls []) := by
  obtain ⟨hx, hb, hml, hown, hts, hr, hlocks⟩ := id xc
  intro n
  induction n with
  | zero => intro a1 a2 ls h; exact absurd h id
  | succ n ih =>
    intro a1 a2 ls h hl
    refine lv_iload_n hx hb d_N_wiredNets_4 rfl (lv_at hl 2 rfl) ?_
    refine lv_bipush (v := 12) hx hb d_N_wiredNets_5 (by decide) ?_
    refine lv_icmp_ge (tgt := 27) hx hb d_N_wiredNets_7 (by decide) (fun c_1 => ?_) (fun c_1 => ?_)
    · replace h := h.1 c_1
      exact hk a1 a2 ls h (lv_sub hl [0, 1, 2] rfl)
    · replace h := h.2 c_1
      refine lv_aload_n hx hb d_N_wiredNets_10 rfl (lv_at hl 0 rfl) ?_
      refine lv_iload_n hx hb d_N_wiredNets_11 rfl (lv_at hl 2 rfl) ?_
      refine vp_callSi (va_runV (As := [.int a2]) (rest := []) ⟨hx, hb, hml, hown, hts⟩ (c_N_isWired l L a2 I F G _ h) (cwV 1 hts (gV wG385 wG386 wG387 wG49 wG388) rfl rfl rfl (by decide +kernel) ⟨Nat.le_of_ble_eq_true rfl, Nat.le_of_ble_eq_true rfl⟩) (cPre1 hK hN hP) rfl rfl hl.1 rfl (lv_room (Nat.le_of_ble_eq_true rfl)) d_N_wiredNets_12 ⟨Nat.le_of_ble_eq_true rfl, Nat.le_of_ble_eq_true rfl⟩).run (fun r_2 h => ?_)
      refine lv_if_eq (tgt := 21) hx hb d_N_wiredNets_15 (by decide) (fun c_3 => ?_) (fun c_3 => ?_)
      · replace h := h.1 c_3
        obtain ⟨x_4, ex_4⟩ : ∃ y : Int32, y = a2 + 1 := ⟨_, rfl⟩
        replace h := h x_4 ex_4
        refine lv_iinc (v := x_4) (lv' := [(2, .int x_4), (0, .ref (cA L 1)), (1, .int a1)]) hx hb d_N_wiredNets_21 hl (k := 2) rfl (by rw [ex_4]; rfl) (by decide) rfl (fun ls hl => ?_)
        refine lv_goto (tgt := 4) hx hb d_N_wiredNets_24 (by decide) ?_
        exact ih a1 x_4 ls h (lv_sub hl [1, 2, 0] rfl)
      · replace h := h.2 c_3
        obtain ⟨x_5, ex_5⟩ : ∃ y : Int32, y = a1 + 1 := ⟨_, rfl⟩
        replace h := h x_5 ex_5
        refine lv_iinc (v := x_5) (lv' := [(1, .int x_5), (0, .ref (cA L 1)), (2, .int a2)]) hx hb d_N_wiredNets_18 hl (k := 1) rfl (by rw [ex_5]; rfl) (by decide) rfl (fun ls hl => ?_)
        obtain ⟨x_6, ex_6⟩ : ∃ y : Int32, y = a2 + 1 := ⟨_, rfl⟩
        replace h := h x_6 ex_6
        refine lv_iinc (v := x_6) (lv' := [(2, .int x_6), (1, .int x_5), (0, .ref (cA L 1))]) hx hb d_N_wiredNets_21 hl (k := 2) rfl (by rw [ex_6]; rfl) (by decide) rfl (fun ls hl => ?_)
        refine lv_goto (tgt := 4) hx hb d_N_wiredNets_24 (by decide) ?_
        exact ih x_5 x_6 ls h (lv_sub hl [2, 1, 0] rfl)
abbrev rm_N_wiredNets : Room := { frames := 3, cells := 0, slots := 0, locals := 63 }
set_option maxHeartbeats 4000000 in
set_option maxRecDepth 100000 in
theorem c_N_wiredNets (l : Launch) (L : cL) (I : MI) (F : MF) (G : MG) (post : Int32 → Prop) (h : wp_N_wiredNets I F G post) : Met l y_N_wiredNets (.code y_N_wiredNets b_N_wiredNets 3 (some .int) :: lwG) rm_N_wiredNets (cPc L I F G [.ref (cA L 1)]) (vp_Si post) 0 0 (fun _ => False) := by
  refine Met.ofW (cc := b_N_wiredNets) (maxL := 3) (ret := (some .int)) (by decide) rfl ?_
  intro p e s m args below meth c s₁ B hml hv
  obtain ⟨rfl, hP, hK, hN⟩ := hv
  have xc : xC p s m _ meth c b_N_wiredNets 3 lwG qR1 (some .int) := ⟨B.exec, B.bytes, hml, findClass_of_methodNamed B.named, fun w h => atoms_spec (ws := (.code y_N_wiredNets b_N_wiredNets 3 (some .int) :: lwG)) B.pre w (List.mem_cons_of_mem _ h), B.returns, B.notSynchronized⟩
  obtain ⟨hx, hb, hml, hown, hts, hr, hlocks⟩ := id xc
  have hl := lv_entry ([.ref (cA L 1)]) (n := 3) (Nat.le_of_ble_eq_true rfl)
  rw [lg_entry_eq]
  generalize (lg_sl ([.ref (cA L 1)]) ++ List.replicate (3 - (lg_sl ([.ref (cA L 1)])).length) Slot.unset).toArray = ls at hl ⊢
  have hl : lv_has ls 3 [(0, .ref (cA L 1))] := hl
  refine lv_iconst (v := 0) hx hb d_N_wiredNets_0 (by decide) ?_
  refine lv_istore_n (lv' := [(1, .int 0), (0, .ref (cA L 1))]) hx hb d_N_wiredNets_1 rfl hl (by decide) rfl (fun ls hl => ?_)
  refine lv_iconst (v := 0) hx hb d_N_wiredNets_2 (by decide) ?_
  refine lv_istore_n (lv' := [(2, .int 0), (1, .int 0), (0, .ref (cA L 1))]) hx hb d_N_wiredNets_3 rfl hl (by decide) rfl (fun ls hl => ?_)
  obtain ⟨n_9, h⟩ := h
  refine Wl_N_wiredNets_4 xc hP hK hN (hk := fun x_7 x_8 ls h hl => ?_) n_9 0 0 ls h (lv_sub hl [2, 1, 0] rfl)
  refine lv_iload_n hx hb d_N_wiredNets_27 rfl (lv_at hl 1 rfl) ?_
  exact W.iret hx hb hr (fun t ht _ => ⟨_, rfl, h, ht⟩) (fun _ h9 => nomatch h9) d_N_wiredNets_28
abbrev rm_N_leftEnd : Room := { frames := 3, cells := 0, slots := 0, locals := 63 }
set_option maxHeartbeats 4000000 in
set_option maxRecDepth 100000 in
theorem c_N_leftEnd (l : Launch) (L : cL) (a1 : Int32) (I : MI) (F : MF) (G : MG) (post : Int32 → Prop) (h : wp_N_leftEnd a1 I F G post) : Met l y_N_leftEnd (.code y_N_leftEnd b_N_leftEnd 2 (some .int) :: lwG) rm_N_leftEnd (cPc L I F G [.ref (cA L 1), .int a1]) (vp_Si post) 0 0 (fun _ => False) := by
  refine Met.ofW (cc := b_N_leftEnd) (maxL := 2) (ret := (some .int)) (by decide) rfl ?_
  intro p e s m args below meth c s₁ B hml hv
  obtain ⟨rfl, hP, hK, hN⟩ := hv
  have xc : xC p s m _ meth c b_N_leftEnd 2 lwG qR1 (some .int) := ⟨B.exec, B.bytes, hml, findClass_of_methodNamed B.named, fun w h => atoms_spec (ws := (.code y_N_leftEnd b_N_leftEnd 2 (some .int) :: lwG)) B.pre w (List.mem_cons_of_mem _ h), B.returns, B.notSynchronized⟩
  obtain ⟨hx, hb, hml, hown, hts, hr, hlocks⟩ := id xc
  have hl := lv_entry ([.ref (cA L 1), .int a1]) (n := 2) (Nat.le_of_ble_eq_true rfl)
  rw [lg_entry_eq]
  generalize (lg_sl ([.ref (cA L 1), .int a1]) ++ List.replicate (2 - (lg_sl ([.ref (cA L 1), .int a1])).length) Slot.unset).toArray = ls at hl ⊢
  have hl : lv_has ls 2 [(0, .ref (cA L 1)), (1, .int a1)] := hl
  refine lv_aload_n hx hb d_N_leftEnd_0 rfl (lv_at hl 0 rfl) ?_
  refine lv_iload_n hx hb d_N_leftEnd_1 rfl (lv_at hl 1 rfl) ?_
  refine vp_callSi (va_runV (As := [.int a1]) (rest := []) ⟨hx, hb, hml, hown, hts⟩ (c_N_isWired l L a1 I F G _ h) (cwV 1 hts (gV wG385 wG386 wG387 wG49 wG388) rfl rfl rfl (by decide +kernel) ⟨Nat.le_of_ble_eq_true rfl, Nat.le_of_ble_eq_true rfl⟩) (cPre1 hK hN hP) rfl rfl hl.1 rfl (lv_room (Nat.le_of_ble_eq_true rfl)) d_N_leftEnd_2 ⟨Nat.le_of_ble_eq_true rfl, Nat.le_of_ble_eq_true rfl⟩).run (fun r_1 h => ?_)
  refine lv_if_ne (tgt := 10) hx hb d_N_leftEnd_5 (by decide) (fun c_2 => ?_) (fun c_2 => ?_)
  · replace h := h.1 c_2
    refine lv_aload_n hx hb d_N_leftEnd_10 rfl (lv_at hl 0 rfl) ?_
    refine lv_iload_n hx hb d_N_leftEnd_11 rfl (lv_at hl 1 rfl) ?_
    refine vp_callSi (va_runV (As := [.int a1]) (rest := []) ⟨hx, hb, hml, hown, hts⟩ (c_N_hasPad l L a1 I F G _ h) (cwV 1 hts (gV wG393 wG394 wG395 wG49 wG396) rfl rfl rfl (by decide +kernel) ⟨Nat.le_of_ble_eq_true rfl, Nat.le_of_ble_eq_true rfl⟩) (cPre1 hK hN hP) rfl rfl hl.1 rfl (lv_room (Nat.le_of_ble_eq_true rfl)) d_N_leftEnd_12 ⟨Nat.le_of_ble_eq_true rfl, Nat.le_of_ble_eq_true rfl⟩).run (fun r_3 h => ?_)
    refine lv_if_eq (tgt := 22) hx hb d_N_leftEnd_15 (by decide) (fun c_4 => ?_) (fun c_4 => ?_)
    · replace h := h.1 c_4
      refine lv_aload_n hx hb d_N_leftEnd_22 rfl (lv_at hl 0 rfl) ?_
      refine va_get (D := L.1) (ci := 1) (v := .ref (cA L 17)) (C := qR1) (T := qT1) (N := 13) hx hb hts qi1 hown hK hP 1 rfl rfl 10 (by decide) (hts _ wG107) (fun _ h9 => h9) rfl d_N_leftEnd_23 ?_
      refine lv_iload_n hx hb d_N_leftEnd_26 rfl (lv_at hl 1 rfl) ?_
      obtain ⟨hi_5, h⟩ := h
      refine c_iald hx hb hK hP 7 (by decide) rfl hi_5 d_N_leftEnd_27 ?_
      exact W.iret hx hb hr (fun t ht _ => ⟨_, rfl, h, ht⟩) (fun _ h9 => nomatch h9) d_N_leftEnd_28
    · replace h := h.2 c_4
      refine lv_iconst (v := 0) hx hb d_N_leftEnd_18 (by decide) ?_
      refine lv_goto (tgt := 28) hx hb d_N_leftEnd_19 (by decide) ?_
      exact W.iret hx hb hr (fun t ht _ => ⟨_, rfl, h, ht⟩) (fun _ h9 => nomatch h9) d_N_leftEnd_28
  · replace h := h.2 c_2
    refine lv_iconst (v := (-1)) hx hb d_N_leftEnd_8 (by decide) ?_
    exact W.iret hx hb hr (fun t ht _ => ⟨_, rfl, h, ht⟩) (fun _ h9 => nomatch h9) d_N_leftEnd_9
set_option maxHeartbeats 4000000 in
set_option maxRecDepth 100000 in
theorem Wl_N_isAbove_25 {p : Program} {l : Launch} {e : Env} {s : State} {m : MethodId} {args : Array Value} {below : List Frame} {meth : Method} {c : Code} {L : cL} {I : MI} {F : MF} {G : MG} {post : Int32 → Prop} {K : Int32 → Prop} {a1 : Int32} {a2 : Int32} (xc : xC p s m args meth c b_N_isAbove 4 lwG qR1 (some .boolean)) (hP : va_P L.1 vwCl (WC L I F G) s.heap) (hK : va_K L.1 vwCl (cTys L) s) (hN : cNk s)
    (hk : ∀ (a3 : Int32) (ls : Array Slot), K a3 → lv_has ls 4 [(0, .ref (cA L 1)), (1, .int a1), (2, .int a2), (3, .int a3)] → W p l e rm_N_isAbove s m args below meth c s.heap [] 0 0 (MQ below (vp_Si post) args s 0 0 (fun _ => False)) (F0 m 63 ls [])) :
    ∀ (n : Nat) (a3 : Int32) (ls : Array Slot), wl_N_isAbove_25 post K a1 a2 I F G n a3 → lv_has ls 4 [(0, .ref (cA L 1)), (1, .int a1), (2, .int a2), (3, .int a3)] → W p l e rm_N_isAbove s m args below meth c s.heap [] 0 0 (MQ below (vp_Si post) args s 0 0 (fun _ => False)) (F0 m 25 ls []) := by
  obtain ⟨hx, hb, hml, hown, hts, hr, hlocks⟩ := id xc
  intro n
  induction n with
  | zero => intro a3 ls h; exact absurd h id
  | succ n ih =>
    intro a3 ls h hl
    refine lv_iload_n hx hb d_N_isAbove_25 rfl (lv_at hl 3 rfl) ?_
    refine lv_bipush (v := 24) hx hb d_N_isAbove_26 (by decide) ?_
    refine lv_icmp_ge (tgt := 63) hx hb d_N_isAbove_28 (by decide) (fun c_6 => ?_) (fun c_6 => ?_)
    · replace h := h.1 c_6
      exact hk a3 ls h (lv_sub hl [0, 1, 2, 3] rfl)
    · replace h := h.2 c_6
      refine lv_aload_n hx hb d_N_isAbove_31 rfl (lv_at hl 0 rfl) ?_
      refine va_get (D := L.1) (ci := 1) (v := .ref (cA L 5)) (C := qR1) (T := qT1) (N := 13) hx hb hts qi1 hown hK hP 1 rfl rfl 8 (by decide) (hts _ wG103) (fun _ h9 => h9) rfl d_N_isAbove_32 ?_
      refine lv_iconst (v := 0) hx hb d_N_isAbove_35 (by decide) ?_
      obtain ⟨hi_7, h⟩ := h
      refine c_row5 hx hb hK hP hi_7 d_N_isAbove_36 ?_
      refine lv_iload_n hx hb d_N_isAbove_37 rfl (lv_at hl 3 rfl) ?_
      obtain ⟨hi_8, h⟩ := h
      refine c_iald hx hb hK hP (15 + (0 : Int32).toNatClampNeg) (row_lt15 hi_7) (row_len15 hi_7) hi_8 d_N_isAbove_38 ?_
      refine lv_iload_n hx hb d_N_isAbove_39 rfl (lv_at hl 1 rfl) ?_
      refine lv_icmp_ne (tgt := 57) hx hb d_N_isAbove_40 (by decide) (fun c_9 => ?_) (fun c_9 => ?_)
      · replace h := h.1 c_9
        obtain ⟨x_10, ex_10⟩ : ∃ y : Int32, y = a3 + 1 := ⟨_, rfl⟩
        replace h := h x_10 ex_10
        refine lv_iinc (v := x_10) (lv' := [(3, .int x_10), (0, .ref (cA L 1)), (1, .int a1), (2, .int a2)]) hx hb d_N_isAbove_57 hl (k := 3) rfl (by rw [ex_10]; rfl) (by decide) rfl (fun ls hl => ?_)
        refine lv_goto (tgt := 25) hx hb d_N_isAbove_60 (by decide) ?_
        exact ih x_10 ls h (lv_sub hl [1, 2, 3, 0] rfl)
      · replace h := h.2 c_9
        refine lv_aload_n hx hb d_N_isAbove_43 rfl (lv_at hl 0 rfl) ?_
        refine va_get (D := L.1) (ci := 1) (v := .ref (cA L 5)) (C := qR1) (T := qT1) (N := 13) hx hb hts qi1 hown hK hP 1 rfl rfl 8 (by decide) (hts _ wG103) (fun _ h9 => h9) rfl d_N_isAbove_44 ?_
        refine lv_iconst (v := 1) hx hb d_N_isAbove_47 (by decide) ?_
        obtain ⟨hi_11, h⟩ := h
        refine c_row5 hx hb hK hP hi_11 d_N_isAbove_48 ?_
        refine lv_iload_n hx hb d_N_isAbove_49 rfl (lv_at hl 3 rfl) ?_
        obtain ⟨hi_12, h⟩ := h
        refine c_iald hx hb hK hP (15 + (1 : Int32).toNatClampNeg) (row_lt15 hi_11) (row_len15 hi_11) hi_12 d_N_isAbove_50 ?_
        refine lv_iload_n hx hb d_N_isAbove_51 rfl (lv_at hl 2 rfl) ?_
        refine lv_icmp_ne (tgt := 57) hx hb d_N_isAbove_52 (by decide) (fun c_13 => ?_) (fun c_13 => ?_)
        · replace h := h.1 c_13
          obtain ⟨x_14, ex_14⟩ : ∃ y : Int32, y = a3 + 1 := ⟨_, rfl⟩
          replace h := h x_14 ex_14
          refine lv_iinc (v := x_14) (lv' := [(3, .int x_14), (0, .ref (cA L 1)), (1, .int a1), (2, .int a2)]) hx hb d_N_isAbove_57 hl (k := 3) rfl (by rw [ex_14]; rfl) (by decide) rfl (fun ls hl => ?_)
          refine lv_goto (tgt := 25) hx hb d_N_isAbove_60 (by decide) ?_
          exact ih x_14 ls h (lv_sub hl [1, 2, 3, 0] rfl)
        · replace h := h.2 c_13
          refine lv_iconst (v := 1) hx hb d_N_isAbove_55 (by decide) ?_
          exact W.zret hx hb hr rfl (fun t ht _ => ⟨_, rfl, h, ht⟩) (fun _ h9 => nomatch h9) d_N_isAbove_56
abbrev rm_N_isAbove : Room := { frames := 3, cells := 0, slots := 0, locals := 63 }
set_option maxHeartbeats 4000000 in
set_option maxRecDepth 100000 in
theorem c_N_isAbove (l : Launch) (L : cL) (a1 : Int32) (a2 : Int32) (I : MI) (F : MF) (G : MG) (post : Int32 → Prop) (h : wp_N_isAbove a1 a2 I F G post) : Met l y_N_isAbove (.code y_N_isAbove b_N_isAbove 4 (some .boolean) :: lwG) rm_N_isAbove (cPc L I F G [.ref (cA L 1), .int a1, .int a2]) (vp_Si post) 0 0 (fun _ => False) := by
  refine Met.ofW (cc := b_N_isAbove) (maxL := 4) (ret := (some .boolean)) (by decide) rfl ?_
  intro p e s m args below meth c s₁ B hml hv
  obtain ⟨rfl, hP, hK, hN⟩ := hv
  have xc : xC p s m _ meth c b_N_isAbove 4 lwG qR1 (some .boolean) := ⟨B.exec, B.bytes, hml, findClass_of_methodNamed B.named, fun w h => atoms_spec (ws := (.code y_N_isAbove b_N_isAbove 4 (some .boolean) :: lwG)) B.pre w (List.mem_cons_of_mem _ h), B.returns, B.notSynchronized⟩
  obtain ⟨hx, hb, hml, hown, hts, hr, hlocks⟩ := id xc
  have hl := lv_entry ([.ref (cA L 1), .int a1, .int a2]) (n := 4) (Nat.le_of_ble_eq_true rfl)
  rw [lg_entry_eq]
  generalize (lg_sl ([.ref (cA L 1), .int a1, .int a2]) ++ List.replicate (4 - (lg_sl ([.ref (cA L 1), .int a1, .int a2])).length) Slot.unset).toArray = ls at hl ⊢
  have hl : lv_has ls 4 [(0, .ref (cA L 1)), (1, .int a1), (2, .int a2)] := hl
  refine lv_iload_n hx hb d_N_isAbove_0 rfl (lv_at hl 1 rfl) ?_
  refine lv_iload_n hx hb d_N_isAbove_1 rfl (lv_at hl 2 rfl) ?_
  refine lv_icmp_eq (tgt := 21) hx hb d_N_isAbove_2 (by decide) (fun c_1 => ?_) (fun c_1 => ?_)
  · replace h := h.1 c_1
    refine lv_iconst (v := 0) hx hb d_N_isAbove_21 (by decide) ?_
    exact W.zret hx hb hr rfl (fun t ht _ => ⟨_, rfl, h, ht⟩) (fun _ h9 => nomatch h9) d_N_isAbove_22
  · replace h := h.2 c_1
    refine lv_aload_n hx hb d_N_isAbove_5 rfl (lv_at hl 0 rfl) ?_
    refine lv_iload_n hx hb d_N_isAbove_6 rfl (lv_at hl 1 rfl) ?_
    refine vp_callSi (va_runV (As := [.int a1]) (rest := []) ⟨hx, hb, hml, hown, hts⟩ (c_N_isWired l L a1 I F G _ h) (cwV 1 hts (gV wG385 wG386 wG387 wG49 wG388) rfl rfl rfl (by decide +kernel) ⟨Nat.le_of_ble_eq_true rfl, Nat.le_of_ble_eq_true rfl⟩) (cPre1 hK hN hP) rfl rfl hl.1 rfl (lv_room (Nat.le_of_ble_eq_true rfl)) d_N_isAbove_7 ⟨Nat.le_of_ble_eq_true rfl, Nat.le_of_ble_eq_true rfl⟩).run (fun r_2 h => ?_)
    refine lv_if_eq (tgt := 21) hx hb d_N_isAbove_10 (by decide) (fun c_3 => ?_) (fun c_3 => ?_)
    · replace h := h.1 c_3
      refine lv_iconst (v := 0) hx hb d_N_isAbove_21 (by decide) ?_
      exact W.zret hx hb hr rfl (fun t ht _ => ⟨_, rfl, h, ht⟩) (fun _ h9 => nomatch h9) d_N_isAbove_22
    · replace h := h.2 c_3
      refine lv_aload_n hx hb d_N_isAbove_13 rfl (lv_at hl 0 rfl) ?_
      refine lv_iload_n hx hb d_N_isAbove_14 rfl (lv_at hl 2 rfl) ?_
      refine vp_callSi (va_runV (As := [.int a2]) (rest := []) ⟨hx, hb, hml, hown, hts⟩ (c_N_isWired l L a2 I F G _ h) (cwV 1 hts (gV wG385 wG386 wG387 wG49 wG388) rfl rfl rfl (by decide +kernel) ⟨Nat.le_of_ble_eq_true rfl, Nat.le_of_ble_eq_true rfl⟩) (cPre1 hK hN hP) rfl rfl hl.1 rfl (lv_room (Nat.le_of_ble_eq_true rfl)) d_N_isAbove_15 ⟨Nat.le_of_ble_eq_true rfl, Nat.le_of_ble_eq_true rfl⟩).run (fun r_4 h => ?_)
      refine lv_if_ne (tgt := 23) hx hb d_N_isAbove_18 (by decide) (fun c_5 => ?_) (fun c_5 => ?_)
      · replace h := h.1 c_5
        refine lv_iconst (v := 0) hx hb d_N_isAbove_23 (by decide) ?_
        refine lv_istore_n (lv' := [(3, .int 0), (0, .ref (cA L 1)), (1, .int a1), (2, .int a2)]) hx hb d_N_isAbove_24 rfl hl (by decide) rfl (fun ls hl => ?_)
        obtain ⟨n_16, h⟩ := h
        refine Wl_N_isAbove_25 xc hP hK hN (hk := fun x_15 ls h hl => ?_) n_16 0 ls h (lv_sub hl [1, 2, 3, 0] rfl)
        refine lv_iconst (v := 0) hx hb d_N_isAbove_63 (by decide) ?_
        exact W.zret hx hb hr rfl (fun t ht _ => ⟨_, rfl, h, ht⟩) (fun _ h9 => nomatch h9) d_N_isAbove_64
      · replace h := h.2 c_5
        refine lv_iconst (v := 0) hx hb d_N_isAbove_21 (by decide) ?_
        exact W.zret hx hb hr rfl (fun t ht _ => ⟨_, rfl, h, ht⟩) (fun _ h9 => nomatch h9) d_N_isAbove_22
set_option maxHeartbeats 4000000 in
set_option maxRecDepth 100000 in
theorem Wl_C_isFreeFromAbove_2 {p : Program} {l : Launch} {e : Env} {s : State} {m : MethodId} {args : Array Value} {below : List Frame} {meth : Method} {c : Code} {L : cL} {I : MI} {F : MF} {G : MG} {post : Int32 → Prop} {K : Int32 → Prop} {a1 : Int32} {a2 : Int32} (xc : xC p s m args meth c b_C_isFreeFromAbove 5 lwG qR2 (some .boolean)) (hP : va_P L.1 vwCl (WC L I F G) s.heap) (hK : va_K L.1 vwCl (cTys L) s) (hN : cNk s)
    (hk : ∀ (a3 : Int32) (ls : Array Slot), K a3 → lv_has ls 5 [(0, .ref (cA L 2)), (1, .int a1), (2, .int a2), (3, .int a3)] → W p l e rm_C_isFreeFromAbove s m args below meth c s.heap [] 0 0 (MQ below (vp_Si post) args s 0 0 (fun _ => False)) (F0 m 59 ls [])) :
    ∀ (n : Nat) (a3 : Int32) (ls : Array Slot), wl_C_isFreeFromAbove_2 post K a1 a2 I F G n a3 → lv_has ls 5 [(0, .ref (cA L 2)), (1, .int a1), (2, .int a2), (3, .int a3)] → W p l e rm_C_isFreeFromAbove s m args below meth c s.heap [] 0 0 (MQ below (vp_Si post) args s 0 0 (fun _ => False)) (F0 m 2 ls []) := by
  obtain ⟨hx, hb, hml, hown, hts, hr, hlocks⟩ := id xc
  intro n
  induction n with
  | zero => intro a3 ls h; exact absurd h id
  | succ n ih =>
    intro a3 ls h hl
    refine lv_iload_n hx hb d_C_isFreeFromAbove_2 rfl (lv_at hl 3 rfl) ?_
    refine lv_bipush (v := 12) hx hb d_C_isFreeFromAbove_3 (by decide) ?_
    refine lv_icmp_ge (tgt := 59) hx hb d_C_isFreeFromAbove_5 (by decide) (fun c_1 => ?_) (fun c_1 => ?_)
    · replace h := h.1 c_1
      exact hk a3 ls h (lv_sub hl [0, 1, 2, 3] rfl)
    · replace h := h.2 c_1
      refine lv_aload_n hx hb d_C_isFreeFromAbove_8 rfl (lv_at hl 0 rfl) ?_
      refine va_get (D := L.1) (ci := 2) (v := .ref (cA L 20)) (C := qR2) (T := qT2) (N := 3) hx hb hts qi2 hown hK hP 2 rfl rfl 2 (by decide) (hts _ wG149) (fun _ h9 => h9) rfl d_C_isFreeFromAbove_9 ?_
      refine lv_iload_n hx hb d_C_isFreeFromAbove_12 rfl (lv_at hl 3 rfl) ?_
      obtain ⟨hi_2, h⟩ := h
      refine c_iald hx hb hK hP 10 (by decide) rfl hi_2 d_C_isFreeFromAbove_13 ?_
      refine lv_if_le (tgt := 31) hx hb d_C_isFreeFromAbove_14 (by decide) (fun c_3 => ?_) (fun c_3 => ?_)
      · replace h := h.1 c_3
        refine lv_iconst (v := 0) hx hb d_C_isFreeFromAbove_31 (by decide) ?_
        refine lv_istore (lv' := [(4, .int 0), (0, .ref (cA L 2)), (1, .int a1), (2, .int a2), (3, .int a3)]) hx hb d_C_isFreeFromAbove_32 hl (by decide) rfl (fun ls hl => ?_)
        refine lv_iload hx hb d_C_isFreeFromAbove_34 (lv_at hl 0 rfl) ?_
        refine lv_if_ne (tgt := 53) hx hb d_C_isFreeFromAbove_36 (by decide) (fun c_4 => ?_) (fun c_4 => ?_)
        · replace h := h.1 c_4
          obtain ⟨x_5, ex_5⟩ : ∃ y : Int32, y = a3 + 1 := ⟨_, rfl⟩
          replace h := h x_5 ex_5
          refine lv_iinc (v := x_5) (lv' := [(3, .int x_5), (4, .int 0), (0, .ref (cA L 2)), (1, .int a1), (2, .int a2)]) hx hb d_C_isFreeFromAbove_53 hl (k := 4) rfl (by rw [ex_5]; rfl) (by decide) rfl (fun ls hl => ?_)
          refine lv_goto (tgt := 2) hx hb d_C_isFreeFromAbove_56 (by decide) ?_
          exact ih x_5 ls h (lv_sub hl [2, 3, 4, 0] rfl)
        · replace h := h.2 c_4
          refine lv_aload_n hx hb d_C_isFreeFromAbove_39 rfl (lv_at hl 1 rfl) ?_
          refine va_get (D := L.1) (ci := 2) (v := .ref (cA L 1)) (C := qR2) (T := qT2) (N := 3) hx hb hts qi2 hown hK hP 2 rfl rfl 0 (by decide) (hts _ wG145) (fun _ h9 => h9) rfl d_C_isFreeFromAbove_40 ?_
          refine lv_iload_n hx hb d_C_isFreeFromAbove_43 rfl (lv_at hl 4 rfl) ?_
          refine lv_iload_n hx hb d_C_isFreeFromAbove_44 rfl (lv_at hl 2 rfl) ?_
          refine vp_callSi (va_runV (As := [.int a3, .int a1]) (rest := []) ⟨hx, hb, hml, hown, hts⟩ (c_N_isAbove l L a3 a1 I F G _ h) (cwV 2 hts (gV wG410 wG411 wG412 wG49 wG413) rfl rfl rfl (by decide +kernel) ⟨Nat.le_of_ble_eq_true rfl, Nat.le_of_ble_eq_true rfl⟩) (cPre1 hK hN hP) rfl rfl hl.1 rfl (lv_room (Nat.le_of_ble_eq_true rfl)) d_C_isFreeFromAbove_45 ⟨Nat.le_of_ble_eq_true rfl, Nat.le_of_ble_eq_true rfl⟩).run (fun r_6 h => ?_)
          refine lv_if_eq (tgt := 53) hx hb d_C_isFreeFromAbove_48 (by decide) (fun c_7 => ?_) (fun c_7 => ?_)
          · replace h := h.1 c_7
            obtain ⟨x_8, ex_8⟩ : ∃ y : Int32, y = a3 + 1 := ⟨_, rfl⟩
            replace h := h x_8 ex_8
            refine lv_iinc (v := x_8) (lv' := [(3, .int x_8), (4, .int 0), (0, .ref (cA L 2)), (1, .int a1), (2, .int a2)]) hx hb d_C_isFreeFromAbove_53 hl (k := 4) rfl (by rw [ex_8]; rfl) (by decide) rfl (fun ls hl => ?_)
            refine lv_goto (tgt := 2) hx hb d_C_isFreeFromAbove_56 (by decide) ?_
            exact ih x_8 ls h (lv_sub hl [2, 3, 4, 0] rfl)
          · replace h := h.2 c_7
            refine lv_iconst (v := 0) hx hb d_C_isFreeFromAbove_51 (by decide) ?_
            exact W.zret hx hb hr rfl (fun t ht _ => ⟨_, rfl, h, ht⟩) (fun _ h9 => nomatch h9) d_C_isFreeFromAbove_52
      · replace h := h.2 c_3
        refine lv_aload_n hx hb d_C_isFreeFromAbove_17 rfl (lv_at hl 0 rfl) ?_
        refine va_get (D := L.1) (ci := 2) (v := .ref (cA L 20)) (C := qR2) (T := qT2) (N := 3) hx hb hts qi2 hown hK hP 2 rfl rfl 2 (by decide) (hts _ wG149) (fun _ h9 => h9) rfl d_C_isFreeFromAbove_18 ?_
        refine lv_iload_n hx hb d_C_isFreeFromAbove_21 rfl (lv_at hl 3 rfl) ?_
        obtain ⟨hi_9, h⟩ := h
        refine c_iald hx hb hK hP 10 (by decide) rfl hi_9 d_C_isFreeFromAbove_22 ?_
        refine lv_iload_n hx hb d_C_isFreeFromAbove_23 rfl (lv_at hl 2 rfl) ?_
        refine lv_icmp_ge (tgt := 31) hx hb d_C_isFreeFromAbove_24 (by decide) (fun c_10 => ?_) (fun c_10 => ?_)
        · replace h := h.1 c_10
          refine lv_iconst (v := 0) hx hb d_C_isFreeFromAbove_31 (by decide) ?_
          refine lv_istore (lv' := [(4, .int 0), (0, .ref (cA L 2)), (1, .int a1), (2, .int a2), (3, .int a3)]) hx hb d_C_isFreeFromAbove_32 hl (by decide) rfl (fun ls hl => ?_)
          refine lv_iload hx hb d_C_isFreeFromAbove_34 (lv_at hl 0 rfl) ?_
          refine lv_if_ne (tgt := 53) hx hb d_C_isFreeFromAbove_36 (by decide) (fun c_11 => ?_) (fun c_11 => ?_)
          · replace h := h.1 c_11
            obtain ⟨x_12, ex_12⟩ : ∃ y : Int32, y = a3 + 1 := ⟨_, rfl⟩
            replace h := h x_12 ex_12
            refine lv_iinc (v := x_12) (lv' := [(3, .int x_12), (4, .int 0), (0, .ref (cA L 2)), (1, .int a1), (2, .int a2)]) hx hb d_C_isFreeFromAbove_53 hl (k := 4) rfl (by rw [ex_12]; rfl) (by decide) rfl (fun ls hl => ?_)
            refine lv_goto (tgt := 2) hx hb d_C_isFreeFromAbove_56 (by decide) ?_
            exact ih x_12 ls h (lv_sub hl [2, 3, 4, 0] rfl)
          · replace h := h.2 c_11
            refine lv_aload_n hx hb d_C_isFreeFromAbove_39 rfl (lv_at hl 1 rfl) ?_
            refine va_get (D := L.1) (ci := 2) (v := .ref (cA L 1)) (C := qR2) (T := qT2) (N := 3) hx hb hts qi2 hown hK hP 2 rfl rfl 0 (by decide) (hts _ wG145) (fun _ h9 => h9) rfl d_C_isFreeFromAbove_40 ?_
            refine lv_iload_n hx hb d_C_isFreeFromAbove_43 rfl (lv_at hl 4 rfl) ?_
            refine lv_iload_n hx hb d_C_isFreeFromAbove_44 rfl (lv_at hl 2 rfl) ?_
            refine vp_callSi (va_runV (As := [.int a3, .int a1]) (rest := []) ⟨hx, hb, hml, hown, hts⟩ (c_N_isAbove l L a3 a1 I F G _ h) (cwV 2 hts (gV wG410 wG411 wG412 wG49 wG413) rfl rfl rfl (by decide +kernel) ⟨Nat.le_of_ble_eq_true rfl, Nat.le_of_ble_eq_true rfl⟩) (cPre1 hK hN hP) rfl rfl hl.1 rfl (lv_room (Nat.le_of_ble_eq_true rfl)) d_C_isFreeFromAbove_45 ⟨Nat.le_of_ble_eq_true rfl, Nat.le_of_ble_eq_true rfl⟩).run (fun r_13 h => ?_)
            refine lv_if_eq (tgt := 53) hx hb d_C_isFreeFromAbove_48 (by decide) (fun c_14 => ?_) (fun c_14 => ?_)
            · replace h := h.1 c_14
              obtain ⟨x_15, ex_15⟩ : ∃ y : Int32, y = a3 + 1 := ⟨_, rfl⟩
              replace h := h x_15 ex_15
              refine lv_iinc (v := x_15) (lv' := [(3, .int x_15), (4, .int 0), (0, .ref (cA L 2)), (1, .int a1), (2, .int a2)]) hx hb d_C_isFreeFromAbove_53 hl (k := 4) rfl (by rw [ex_15]; rfl) (by decide) rfl (fun ls hl => ?_)
              refine lv_goto (tgt := 2) hx hb d_C_isFreeFromAbove_56 (by decide) ?_
              exact ih x_15 ls h (lv_sub hl [2, 3, 4, 0] rfl)
            · replace h := h.2 c_14
              refine lv_iconst (v := 0) hx hb d_C_isFreeFromAbove_51 (by decide) ?_
              exact W.zret hx hb hr rfl (fun t ht _ => ⟨_, rfl, h, ht⟩) (fun _ h9 => nomatch h9) d_C_isFreeFromAbove_52
        · replace h := h.2 c_10
          refine lv_iconst (v := 1) hx hb d_C_isFreeFromAbove_27 (by decide) ?_
          refine lv_goto (tgt := 32) hx hb d_C_isFreeFromAbove_28 (by decide) ?_
          refine lv_istore (lv' := [(4, .int 1), (0, .ref (cA L 2)), (1, .int a1), (2, .int a2), (3, .int a3)]) hx hb d_C_isFreeFromAbove_32 hl (by decide) rfl (fun ls hl => ?_)
          refine lv_iload hx hb d_C_isFreeFromAbove_34 (lv_at hl 0 rfl) ?_
          refine lv_if_ne (tgt := 53) hx hb d_C_isFreeFromAbove_36 (by decide) (fun c_16 => ?_) (fun c_16 => ?_)
          · replace h := h.1 c_16
            obtain ⟨x_17, ex_17⟩ : ∃ y : Int32, y = a3 + 1 := ⟨_, rfl⟩
            replace h := h x_17 ex_17
            refine lv_iinc (v := x_17) (lv' := [(3, .int x_17), (4, .int 1), (0, .ref (cA L 2)), (1, .int a1), (2, .int a2)]) hx hb d_C_isFreeFromAbove_53 hl (k := 4) rfl (by rw [ex_17]; rfl) (by decide) rfl (fun ls hl => ?_)
            refine lv_goto (tgt := 2) hx hb d_C_isFreeFromAbove_56 (by decide) ?_
            exact ih x_17 ls h (lv_sub hl [2, 3, 4, 0] rfl)
          · replace h := h.2 c_16
            refine lv_aload_n hx hb d_C_isFreeFromAbove_39 rfl (lv_at hl 1 rfl) ?_
            refine va_get (D := L.1) (ci := 2) (v := .ref (cA L 1)) (C := qR2) (T := qT2) (N := 3) hx hb hts qi2 hown hK hP 2 rfl rfl 0 (by decide) (hts _ wG145) (fun _ h9 => h9) rfl d_C_isFreeFromAbove_40 ?_
            refine lv_iload_n hx hb d_C_isFreeFromAbove_43 rfl (lv_at hl 4 rfl) ?_
            refine lv_iload_n hx hb d_C_isFreeFromAbove_44 rfl (lv_at hl 2 rfl) ?_
            refine vp_callSi (va_runV (As := [.int a3, .int a1]) (rest := []) ⟨hx, hb, hml, hown, hts⟩ (c_N_isAbove l L a3 a1 I F G _ h) (cwV 2 hts (gV wG410 wG411 wG412 wG49 wG413) rfl rfl rfl (by decide +kernel) ⟨Nat.le_of_ble_eq_true rfl, Nat.le_of_ble_eq_true rfl⟩) (cPre1 hK hN hP) rfl rfl hl.1 rfl (lv_room (Nat.le_of_ble_eq_true rfl)) d_C_isFreeFromAbove_45 ⟨Nat.le_of_ble_eq_true rfl, Nat.le_of_ble_eq_true rfl⟩).run (fun r_18 h => ?_)
            refine lv_if_eq (tgt := 53) hx hb d_C_isFreeFromAbove_48 (by decide) (fun c_19 => ?_) (fun c_19 => ?_)
            · replace h := h.1 c_19
              obtain ⟨x_20, ex_20⟩ : ∃ y : Int32, y = a3 + 1 := ⟨_, rfl⟩
              replace h := h x_20 ex_20
              refine lv_iinc (v := x_20) (lv' := [(3, .int x_20), (4, .int 1), (0, .ref (cA L 2)), (1, .int a1), (2, .int a2)]) hx hb d_C_isFreeFromAbove_53 hl (k := 4) rfl (by rw [ex_20]; rfl) (by decide) rfl (fun ls hl => ?_)
              refine lv_goto (tgt := 2) hx hb d_C_isFreeFromAbove_56 (by decide) ?_
              exact ih x_20 ls h (lv_sub hl [2, 3, 4, 0] rfl)
            · replace h := h.2 c_19
              refine lv_iconst (v := 0) hx hb d_C_isFreeFromAbove_51 (by decide) ?_
              exact W.zret hx hb hr rfl (fun t ht _ => ⟨_, rfl, h, ht⟩) (fun _ h9 => nomatch h9) d_C_isFreeFromAbove_52
abbrev rm_C_isFreeFromAbove : Room := { frames := 4, cells := 0, slots := 0, locals := 86 }
set_option maxHeartbeats 4000000 in
set_option maxRecDepth 100000 in
theorem c_C_isFreeFromAbove (l : Launch) (L : cL) (a1 : Int32) (a2 : Int32) (I : MI) (F : MF) (G : MG) (post : Int32 → Prop) (h : wp_C_isFreeFromAbove a1 a2 I F G post) : Met l y_C_isFreeFromAbove (.code y_C_isFreeFromAbove b_C_isFreeFromAbove 5 (some .boolean) :: lwG) rm_C_isFreeFromAbove (cPc L I F G [.ref (cA L 2), .int a1, .int a2]) (vp_Si post) 0 0 (fun _ => False) := by
  refine Met.ofW (cc := b_C_isFreeFromAbove) (maxL := 5) (ret := (some .boolean)) (by decide) rfl ?_
  intro p e s m args below meth c s₁ B hml hv
  obtain ⟨rfl, hP, hK, hN⟩ := hv
  have xc : xC p s m _ meth c b_C_isFreeFromAbove 5 lwG qR2 (some .boolean) := ⟨B.exec, B.bytes, hml, findClass_of_methodNamed B.named, fun w h => atoms_spec (ws := (.code y_C_isFreeFromAbove b_C_isFreeFromAbove 5 (some .boolean) :: lwG)) B.pre w (List.mem_cons_of_mem _ h), B.returns, B.notSynchronized⟩
  obtain ⟨hx, hb, hml, hown, hts, hr, hlocks⟩ := id xc
  have hl := lv_entry ([.ref (cA L 2), .int a1, .int a2]) (n := 5) (Nat.le_of_ble_eq_true rfl)
  rw [lg_entry_eq]
  generalize (lg_sl ([.ref (cA L 2), .int a1, .int a2]) ++ List.replicate (5 - (lg_sl ([.ref (cA L 2), .int a1, .int a2])).length) Slot.unset).toArray = ls at hl ⊢
  have hl : lv_has ls 5 [(0, .ref (cA L 2)), (1, .int a1), (2, .int a2)] := hl
  refine lv_iconst (v := 0) hx hb d_C_isFreeFromAbove_0 (by decide) ?_
  refine lv_istore_n (lv' := [(3, .int 0), (0, .ref (cA L 2)), (1, .int a1), (2, .int a2)]) hx hb d_C_isFreeFromAbove_1 rfl hl (by decide) rfl (fun ls hl => ?_)
  obtain ⟨n_22, h⟩ := h
  refine Wl_C_isFreeFromAbove_2 xc hP hK hN (hk := fun x_21 ls h hl => ?_) n_22 0 ls h (lv_sub hl [1, 2, 3, 0] rfl)
  refine lv_iconst (v := 1) hx hb d_C_isFreeFromAbove_59 (by decide) ?_
  exact W.zret hx hb hr rfl (fun t ht _ => ⟨_, rfl, h, ht⟩) (fun _ h9 => nomatch h9) d_C_isFreeFromAbove_60
abbrev rm_N_rightEnd : Room := { frames := 3, cells := 0, slots := 0, locals := 63 }
set_option maxHeartbeats 4000000 in
set_option maxRecDepth 100000 in
theorem c_N_rightEnd (l : Launch) (L : cL) (a1 : Int32) (I : MI) (F : MF) (G : MG) (post : Int32 → Prop) (h : wp_N_rightEnd a1 I F G post) : Met l y_N_rightEnd (.code y_N_rightEnd b_N_rightEnd 2 (some .int) :: lwG) rm_N_rightEnd (cPc L I F G [.ref (cA L 1), .int a1]) (vp_Si post) 0 0 (fun _ => False) := by
  refine Met.ofW (cc := b_N_rightEnd) (maxL := 2) (ret := (some .int)) (by decide) rfl ?_
  intro p e s m args below meth c s₁ B hml hv
  obtain ⟨rfl, hP, hK, hN⟩ := hv
  have xc : xC p s m _ meth c b_N_rightEnd 2 lwG qR1 (some .int) := ⟨B.exec, B.bytes, hml, findClass_of_methodNamed B.named, fun w h => atoms_spec (ws := (.code y_N_rightEnd b_N_rightEnd 2 (some .int) :: lwG)) B.pre w (List.mem_cons_of_mem _ h), B.returns, B.notSynchronized⟩
  obtain ⟨hx, hb, hml, hown, hts, hr, hlocks⟩ := id xc
  have hl := lv_entry ([.ref (cA L 1), .int a1]) (n := 2) (Nat.le_of_ble_eq_true rfl)
  rw [lg_entry_eq]
  generalize (lg_sl ([.ref (cA L 1), .int a1]) ++ List.replicate (2 - (lg_sl ([.ref (cA L 1), .int a1])).length) Slot.unset).toArray = ls at hl ⊢
  have hl : lv_has ls 2 [(0, .ref (cA L 1)), (1, .int a1)] := hl
  refine lv_aload_n hx hb d_N_rightEnd_0 rfl (lv_at hl 0 rfl) ?_
  refine lv_iload_n hx hb d_N_rightEnd_1 rfl (lv_at hl 1 rfl) ?_
  refine vp_callSi (va_runV (As := [.int a1]) (rest := []) ⟨hx, hb, hml, hown, hts⟩ (c_N_isWired l L a1 I F G _ h) (cwV 1 hts (gV wG385 wG386 wG387 wG49 wG388) rfl rfl rfl (by decide +kernel) ⟨Nat.le_of_ble_eq_true rfl, Nat.le_of_ble_eq_true rfl⟩) (cPre1 hK hN hP) rfl rfl hl.1 rfl (lv_room (Nat.le_of_ble_eq_true rfl)) d_N_rightEnd_2 ⟨Nat.le_of_ble_eq_true rfl, Nat.le_of_ble_eq_true rfl⟩).run (fun r_1 h => ?_)
  refine lv_if_eq (tgt := 17) hx hb d_N_rightEnd_5 (by decide) (fun c_2 => ?_) (fun c_2 => ?_)
  · replace h := h.1 c_2
    refine lv_iconst (v := (-1)) hx hb d_N_rightEnd_17 (by decide) ?_
    exact W.iret hx hb hr (fun t ht _ => ⟨_, rfl, h, ht⟩) (fun _ h9 => nomatch h9) d_N_rightEnd_18
  · replace h := h.2 c_2
    refine lv_aload_n hx hb d_N_rightEnd_8 rfl (lv_at hl 0 rfl) ?_
    refine va_get (D := L.1) (ci := 1) (v := .ref (cA L 18)) (C := qR1) (T := qT1) (N := 13) hx hb hts qi1 hown hK hP 1 rfl rfl 11 (by decide) (hts _ wG108) (fun _ h9 => h9) rfl d_N_rightEnd_9 ?_
    refine lv_iload_n hx hb d_N_rightEnd_12 rfl (lv_at hl 1 rfl) ?_
    obtain ⟨hi_3, h⟩ := h
    refine c_iald hx hb hK hP 8 (by decide) rfl hi_3 d_N_rightEnd_13 ?_
    refine lv_goto (tgt := 18) hx hb d_N_rightEnd_14 (by decide) ?_
    exact W.iret hx hb hr (fun t ht _ => ⟨_, rfl, h, ht⟩) (fun _ h9 => nomatch h9) d_N_rightEnd_18
abbrev rm_N_hasPin : Room := { frames := 2, cells := 0, slots := 0, locals := 40 }
set_option maxHeartbeats 4000000 in
set_option maxRecDepth 100000 in
theorem c_N_hasPin (l : Launch) (L : cL) (a1 : Int32) (a2 : Int32) (I : MI) (F : MF) (G : MG) (post : Int32 → Prop) (h : wp_N_hasPin a1 a2 I F G post) : Met l y_N_hasPin (.code y_N_hasPin b_N_hasPin 3 (some .boolean) :: lwG) rm_N_hasPin (cPc L I F G [.ref (cA L 1), .int a1, .int a2]) (vp_Si post) 0 0 (fun _ => False) := by
  refine Met.ofW (cc := b_N_hasPin) (maxL := 3) (ret := (some .boolean)) (by decide) rfl ?_
  intro p e s m args below meth c s₁ B hml hv
  obtain ⟨rfl, hP, hK, hN⟩ := hv
  have xc : xC p s m _ meth c b_N_hasPin 3 lwG qR1 (some .boolean) := ⟨B.exec, B.bytes, hml, findClass_of_methodNamed B.named, fun w h => atoms_spec (ws := (.code y_N_hasPin b_N_hasPin 3 (some .boolean) :: lwG)) B.pre w (List.mem_cons_of_mem _ h), B.returns, B.notSynchronized⟩
  obtain ⟨hx, hb, hml, hown, hts, hr, hlocks⟩ := id xc
  have hl := lv_entry ([.ref (cA L 1), .int a1, .int a2]) (n := 3) (Nat.le_of_ble_eq_true rfl)
  rw [lg_entry_eq]
  generalize (lg_sl ([.ref (cA L 1), .int a1, .int a2]) ++ List.replicate (3 - (lg_sl ([.ref (cA L 1), .int a1, .int a2])).length) Slot.unset).toArray = ls at hl ⊢
  have hl : lv_has ls 3 [(0, .ref (cA L 1)), (1, .int a1), (2, .int a2)] := hl
  refine lv_iload_n hx hb d_N_hasPin_0 rfl (lv_at hl 1 rfl) ?_
  refine lv_aload_n hx hb d_N_hasPin_1 rfl (lv_at hl 0 rfl) ?_
  refine va_get (D := L.1) (ci := 1) (v := .int (I 1)) (C := qR1) (T := qT1) (N := 13) hx hb hts qi1 hown hK hP 1 rfl rfl 0 (by decide) (hts _ wG88) (fun _ h9 => h9) rfl d_N_hasPin_2 ?_
  refine vp_callSi (va_runSN (As := [.int a1, .int (I 1)]) (rest := []) ⟨hx, hb, hml, hown, hts⟩ (c_F_within l a1 (I 1) _ h) ⟨va_cnB 2 hts (gC wG251) rfl rfl rfl (hN.2.2) (hts _ wG48) (by decide +kernel) ⟨Nat.le_of_ble_eq_true rfl, Nat.le_of_ble_eq_true rfl⟩, hts _ wG250, trivial⟩ ⟨sPc_blind _, fun U hU hW => ⟨rfl, trivial⟩⟩ rfl rfl hl.1 rfl (lv_room (Nat.le_of_ble_eq_true rfl)) d_N_hasPin_5 ⟨Nat.le_of_ble_eq_true rfl, Nat.le_of_ble_eq_true rfl⟩).run (fun r_1 h => ?_)
  refine lv_if_eq (tgt := 31) hx hb d_N_hasPin_8 (by decide) (fun c_2 => ?_) (fun c_2 => ?_)
  · replace h := h.1 c_2
    refine lv_iconst (v := 0) hx hb d_N_hasPin_31 (by decide) ?_
    exact W.zret hx hb hr rfl (fun t ht _ => ⟨_, rfl, h, ht⟩) (fun _ h9 => nomatch h9) d_N_hasPin_32
  · replace h := h.2 c_2
    refine lv_iload_n hx hb d_N_hasPin_11 rfl (lv_at hl 2 rfl) ?_
    refine lv_aload_n hx hb d_N_hasPin_12 rfl (lv_at hl 0 rfl) ?_
    refine va_get (D := L.1) (ci := 1) (v := .ref (cA L 10)) (C := qR1) (T := qT1) (N := 13) hx hb hts qi1 hown hK hP 1 rfl rfl 1 (by decide) (hts _ wG91) (fun _ h9 => h9) rfl d_N_hasPin_13 ?_
    refine lv_iload_n hx hb d_N_hasPin_16 rfl (lv_at hl 1 rfl) ?_
    obtain ⟨hi_3, h⟩ := h
    refine c_iald hx hb hK hP 0 (by decide) rfl hi_3 d_N_hasPin_17 ?_
    refine vp_callSi (va_runSN (As := [.int (F 0 a1.toNatClampNeg)]) (rest := [.int a2]) ⟨hx, hb, hml, hown, hts⟩ (c_F_pinsOfKind l (F 0 a1.toNatClampNeg) _ h) ⟨va_cnB 1 hts (gC wG332) rfl rfl rfl (hN.1) (hts _ wG48) (by decide +kernel) ⟨Nat.le_of_ble_eq_true rfl, Nat.le_of_ble_eq_true rfl⟩, hts _ wG331, trivial⟩ ⟨sPc_blind _, fun U hU hW => ⟨rfl, trivial⟩⟩ rfl rfl hl.1 rfl (lv_room (Nat.le_of_ble_eq_true rfl)) d_N_hasPin_18 ⟨Nat.le_of_ble_eq_true rfl, Nat.le_of_ble_eq_true rfl⟩).run (fun r_4 h => ?_)
    refine vp_callSi (va_runSN (As := [.int a2, .int r_4]) (rest := []) ⟨hx, hb, hml, hown, hts⟩ (c_F_within l a2 r_4 _ h) ⟨va_cnB 2 hts (gC wG251) rfl rfl rfl (hN.2.2) (hts _ wG48) (by decide +kernel) ⟨Nat.le_of_ble_eq_true rfl, Nat.le_of_ble_eq_true rfl⟩, hts _ wG250, trivial⟩ ⟨sPc_blind _, fun U hU hW => ⟨rfl, trivial⟩⟩ rfl rfl hl.1 rfl (lv_room (Nat.le_of_ble_eq_true rfl)) d_N_hasPin_21 ⟨Nat.le_of_ble_eq_true rfl, Nat.le_of_ble_eq_true rfl⟩).run (fun r_5 h => ?_)
    refine lv_if_eq (tgt := 31) hx hb d_N_hasPin_24 (by decide) (fun c_6 => ?_) (fun c_6 => ?_)
    · replace h := h.1 c_6
      refine lv_iconst (v := 0) hx hb d_N_hasPin_31 (by decide) ?_
      exact W.zret hx hb hr rfl (fun t ht _ => ⟨_, rfl, h, ht⟩) (fun _ h9 => nomatch h9) d_N_hasPin_32
    · replace h := h.2 c_6
      refine lv_iconst (v := 1) hx hb d_N_hasPin_27 (by decide) ?_
      refine lv_goto (tgt := 32) hx hb d_N_hasPin_28 (by decide) ?_
      exact W.zret hx hb hr rfl (fun t ht _ => ⟨_, rfl, h, ht⟩) (fun _ h9 => nomatch h9) d_N_hasPin_32
abbrev rm_N_pinColumn : Room := { frames := 0, cells := 0, slots := 0, locals := 0 }
set_option maxHeartbeats 4000000 in
set_option maxRecDepth 100000 in
theorem c_N_pinColumn (l : Launch) (L : cL) (a1 : Int32) (a2 : Int32) (I : MI) (F : MF) (G : MG) (post : Int32 → Prop) (h : wp_N_pinColumn a1 a2 I F G post) : Met l y_N_pinColumn (.code y_N_pinColumn b_N_pinColumn 3 (some .int) :: lwG) rm_N_pinColumn (cPc L I F G [.ref (cA L 1), .int a1, .int a2]) (vp_Si post) 0 0 (fun _ => False) := by
  refine Met.ofW (cc := b_N_pinColumn) (maxL := 3) (ret := (some .int)) (by decide) rfl ?_
  intro p e s m args below meth c s₁ B hml hv
  obtain ⟨rfl, hP, hK, hN⟩ := hv
  have xc : xC p s m _ meth c b_N_pinColumn 3 lwG qR1 (some .int) := ⟨B.exec, B.bytes, hml, findClass_of_methodNamed B.named, fun w h => atoms_spec (ws := (.code y_N_pinColumn b_N_pinColumn 3 (some .int) :: lwG)) B.pre w (List.mem_cons_of_mem _ h), B.returns, B.notSynchronized⟩
  obtain ⟨hx, hb, hml, hown, hts, hr, hlocks⟩ := id xc
  have hl := lv_entry ([.ref (cA L 1), .int a1, .int a2]) (n := 3) (Nat.le_of_ble_eq_true rfl)
  rw [lg_entry_eq]
  generalize (lg_sl ([.ref (cA L 1), .int a1, .int a2]) ++ List.replicate (3 - (lg_sl ([.ref (cA L 1), .int a1, .int a2])).length) Slot.unset).toArray = ls at hl ⊢
  have hl : lv_has ls 3 [(0, .ref (cA L 1)), (1, .int a1), (2, .int a2)] := hl
  refine lv_aload_n hx hb d_N_pinColumn_0 rfl (lv_at hl 0 rfl) ?_
  refine va_get (D := L.1) (ci := 1) (v := .ref (cA L 15)) (C := qR1) (T := qT1) (N := 13) hx hb hts qi1 hown hK hP 1 rfl rfl 6 (by decide) (hts _ wG101) (fun _ h9 => h9) rfl d_N_pinColumn_1 ?_
  refine lv_iload_n hx hb d_N_pinColumn_4 rfl (lv_at hl 1 rfl) ?_
  obtain ⟨hi_1, h⟩ := h
  refine c_iald hx hb hK hP 5 (by decide) rfl hi_1 d_N_pinColumn_5 ?_
  refine lv_iload_n hx hb d_N_pinColumn_6 rfl (lv_at hl 2 rfl) ?_
  refine lv_iadd hx hb d_N_pinColumn_7 ?_
  exact W.iret hx hb hr (fun t ht _ => ⟨_, rfl, h, ht⟩) (fun _ h9 => nomatch h9) d_N_pinColumn_8
abbrev rm_C_wireLength : Room := { frames := 4, cells := 0, slots := 0, locals := 84 }
set_option maxHeartbeats 4000000 in
set_option maxRecDepth 100000 in
theorem c_C_wireLength (l : Launch) (L : cL) (a1 : Int32) (I : MI) (F : MF) (G : MG) (post : Int32 → Prop) (h : wp_C_wireLength a1 I F G post) : Met l y_C_wireLength (.code y_C_wireLength b_C_wireLength 5 (some .int) :: lwG) rm_C_wireLength (cPc L I F G [.ref (cA L 2), .int a1]) (vp_Si post) 0 0 (fun _ => False) := by
  refine Met.ofW (cc := b_C_wireLength) (maxL := 5) (ret := (some .int)) (by decide) rfl ?_
  intro p e s m args below meth c s₁ B hml hv
  obtain ⟨rfl, hP, hK, hN⟩ := hv
  have xc : xC p s m _ meth c b_C_wireLength 5 lwG qR2 (some .int) := ⟨B.exec, B.bytes, hml, findClass_of_methodNamed B.named, fun w h => atoms_spec (ws := (.code y_C_wireLength b_C_wireLength 5 (some .int) :: lwG)) B.pre w (List.mem_cons_of_mem _ h), B.returns, B.notSynchronized⟩
  obtain ⟨hx, hb, hml, hown, hts, hr, hlocks⟩ := id xc
  have hl := lv_entry ([.ref (cA L 2), .int a1]) (n := 5) (Nat.le_of_ble_eq_true rfl)
  rw [lg_entry_eq]
  generalize (lg_sl ([.ref (cA L 2), .int a1]) ++ List.replicate (5 - (lg_sl ([.ref (cA L 2), .int a1])).length) Slot.unset).toArray = ls at hl ⊢
  have hl : lv_has ls 5 [(0, .ref (cA L 2)), (1, .int a1)] := hl
  refine lv_aload_n hx hb d_C_wireLength_0 rfl (lv_at hl 0 rfl) ?_
  refine va_get (D := L.1) (ci := 2) (v := .ref (cA L 20)) (C := qR2) (T := qT2) (N := 3) hx hb hts qi2 hown hK hP 2 rfl rfl 2 (by decide) (hts _ wG149) (fun _ h9 => h9) rfl d_C_wireLength_1 ?_
  refine lv_iload_n hx hb d_C_wireLength_4 rfl (lv_at hl 1 rfl) ?_
  obtain ⟨hi_1, h⟩ := h
  refine c_iald hx hb hK hP 10 (by decide) rfl hi_1 d_C_wireLength_5 ?_
  refine lv_if_ne (tgt := 11) hx hb d_C_wireLength_6 (by decide) (fun c_2 => ?_) (fun c_2 => ?_)
  · replace h := h.1 c_2
    refine lv_aload_n hx hb d_C_wireLength_11 rfl (lv_at hl 0 rfl) ?_
    refine va_get (D := L.1) (ci := 2) (v := .ref (cA L 1)) (C := qR2) (T := qT2) (N := 3) hx hb hts qi2 hown hK hP 2 rfl rfl 0 (by decide) (hts _ wG145) (fun _ h9 => h9) rfl d_C_wireLength_12 ?_
    refine lv_iload_n hx hb d_C_wireLength_15 rfl (lv_at hl 1 rfl) ?_
    refine vp_callSi (va_runV (As := [.int a1]) (rest := []) ⟨hx, hb, hml, hown, hts⟩ (c_N_rightEnd l L a1 I F G _ h) (cwV 1 hts (gV wG414 wG415 wG416 wG49 wG417) rfl rfl rfl (by decide +kernel) ⟨Nat.le_of_ble_eq_true rfl, Nat.le_of_ble_eq_true rfl⟩) (cPre1 hK hN hP) rfl rfl hl.1 rfl (lv_room (Nat.le_of_ble_eq_true rfl)) d_C_wireLength_16 ⟨Nat.le_of_ble_eq_true rfl, Nat.le_of_ble_eq_true rfl⟩).run (fun r_3 h => ?_)
    refine lv_aload_n hx hb d_C_wireLength_19 rfl (lv_at hl 0 rfl) ?_
    refine va_get (D := L.1) (ci := 2) (v := .ref (cA L 1)) (C := qR2) (T := qT2) (N := 3) hx hb hts qi2 hown hK hP 2 rfl rfl 0 (by decide) (hts _ wG145) (fun _ h9 => h9) rfl d_C_wireLength_20 ?_
    refine lv_iload_n hx hb d_C_wireLength_23 rfl (lv_at hl 1 rfl) ?_
    refine vp_callSi (va_runV (As := [.int a1]) (rest := [.int r_3]) ⟨hx, hb, hml, hown, hts⟩ (c_N_leftEnd l L a1 I F G _ h) (cwV 1 hts (gV wG402 wG403 wG404 wG49 wG405) rfl rfl rfl (by decide +kernel) ⟨Nat.le_of_ble_eq_true rfl, Nat.le_of_ble_eq_true rfl⟩) (cPre1 hK hN hP) rfl rfl hl.1 rfl (lv_room (Nat.le_of_ble_eq_true rfl)) d_C_wireLength_24 ⟨Nat.le_of_ble_eq_true rfl, Nat.le_of_ble_eq_true rfl⟩).run (fun r_4 h => ?_)
    refine lv_isub hx hb d_C_wireLength_27 ?_
    refine lv_topi (fun x_5 ex_5 => ?_)
    replace h := h x_5 ex_5
    refine lv_istore_n (lv' := [(2, .int x_5), (0, .ref (cA L 2)), (1, .int a1)]) hx hb d_C_wireLength_28 rfl hl (by decide) rfl (fun ls hl => ?_)
    refine lv_aload_n hx hb d_C_wireLength_29 rfl (lv_at hl 1 rfl) ?_
    refine va_get (D := L.1) (ci := 2) (v := .ref (cA L 1)) (C := qR2) (T := qT2) (N := 3) hx hb hts qi2 hown hK hP 2 rfl rfl 0 (by decide) (hts _ wG145) (fun _ h9 => h9) rfl d_C_wireLength_30 ?_
    refine va_get (D := L.1) (ci := 1) (v := .ref (cA L 6)) (C := qR1) (T := qT1) (N := 13) hx hb hts qi1 hown hK hP 1 rfl rfl 9 (by decide) (hts _ wG106) (fun _ h9 => h9) rfl d_C_wireLength_33 ?_
    refine lv_iconst (v := 0) hx hb d_C_wireLength_36 (by decide) ?_
    obtain ⟨hi_6, h⟩ := h
    refine c_row6 hx hb hK hP hi_6 d_C_wireLength_37 ?_
    refine lv_iload_n hx hb d_C_wireLength_38 rfl (lv_at hl 2 rfl) ?_
    obtain ⟨hi_7, h⟩ := h
    refine c_iald hx hb hK hP (17 + (0 : Int32).toNatClampNeg) (row_lt17 hi_6) (row_len17 hi_6) hi_7 d_C_wireLength_39 ?_
    refine lv_aload_n hx hb d_C_wireLength_40 rfl (lv_at hl 1 rfl) ?_
    refine va_get (D := L.1) (ci := 2) (v := .ref (cA L 20)) (C := qR2) (T := qT2) (N := 3) hx hb hts qi2 hown hK hP 2 rfl rfl 2 (by decide) (hts _ wG149) (fun _ h9 => h9) rfl d_C_wireLength_41 ?_
    refine lv_iload_n hx hb d_C_wireLength_44 rfl (lv_at hl 2 rfl) ?_
    obtain ⟨hi_8, h⟩ := h
    refine c_iald hx hb hK hP 10 (by decide) rfl hi_8 d_C_wireLength_45 ?_
    refine lv_imul hx hb d_C_wireLength_46 ?_
    refine lv_topi (fun x_9 ex_9 => ?_)
    replace h := h x_9 ex_9
    refine lv_istore_n (lv' := [(3, .int x_9), (2, .int x_5), (0, .ref (cA L 2)), (1, .int a1)]) hx hb d_C_wireLength_47 rfl hl (by decide) rfl (fun ls hl => ?_)
    refine lv_aload_n hx hb d_C_wireLength_48 rfl (lv_at hl 2 rfl) ?_
    refine va_get (D := L.1) (ci := 2) (v := .ref (cA L 1)) (C := qR2) (T := qT2) (N := 3) hx hb hts qi2 hown hK hP 2 rfl rfl 0 (by decide) (hts _ wG145) (fun _ h9 => h9) rfl d_C_wireLength_49 ?_
    refine va_get (D := L.1) (ci := 1) (v := .ref (cA L 6)) (C := qR1) (T := qT1) (N := 13) hx hb hts qi1 hown hK hP 1 rfl rfl 9 (by decide) (hts _ wG106) (fun _ h9 => h9) rfl d_C_wireLength_52 ?_
    refine lv_iconst (v := 1) hx hb d_C_wireLength_55 (by decide) ?_
    obtain ⟨hi_10, h⟩ := h
    refine c_row6 hx hb hK hP hi_10 d_C_wireLength_56 ?_
    refine lv_iload_n hx hb d_C_wireLength_57 rfl (lv_at hl 3 rfl) ?_
    obtain ⟨hi_11, h⟩ := h
    refine c_iald hx hb hK hP (17 + (1 : Int32).toNatClampNeg) (row_lt17 hi_10) (row_len17 hi_10) hi_11 d_C_wireLength_58 ?_
    refine lv_aload_n hx hb d_C_wireLength_59 rfl (lv_at hl 2 rfl) ?_
    refine va_get (D := L.1) (ci := 2) (v := .int (I 2)) (C := qR2) (T := qT2) (N := 3) hx hb hts qi2 hown hK hP 2 rfl rfl 1 (by decide) (hts _ wG146) (fun _ h9 => h9) rfl d_C_wireLength_60 ?_
    refine lv_iconst (v := 1) hx hb d_C_wireLength_63 (by decide) ?_
    refine lv_iadd hx hb d_C_wireLength_64 ?_
    refine lv_aload_n hx hb d_C_wireLength_65 rfl (lv_at hl 2 rfl) ?_
    refine va_get (D := L.1) (ci := 2) (v := .ref (cA L 20)) (C := qR2) (T := qT2) (N := 3) hx hb hts qi2 hown hK hP 2 rfl rfl 2 (by decide) (hts _ wG149) (fun _ h9 => h9) rfl d_C_wireLength_66 ?_
    refine lv_iload_n hx hb d_C_wireLength_69 rfl (lv_at hl 3 rfl) ?_
    obtain ⟨hi_12, h⟩ := h
    refine c_iald hx hb hK hP 10 (by decide) rfl hi_12 d_C_wireLength_70 ?_
    refine lv_isub hx hb d_C_wireLength_71 ?_
    refine lv_imul hx hb d_C_wireLength_72 ?_
    refine lv_topi (fun x_13 ex_13 => ?_)
    replace h := h x_13 ex_13
    refine lv_istore (lv' := [(4, .int x_13), (3, .int x_9), (2, .int x_5), (0, .ref (cA L 2)), (1, .int a1)]) hx hb d_C_wireLength_73 hl (by decide) rfl (fun ls hl => ?_)
    refine lv_iload_n hx hb d_C_wireLength_75 rfl (lv_at hl 2 rfl) ?_
    refine lv_iload_n hx hb d_C_wireLength_76 rfl (lv_at hl 1 rfl) ?_
    refine lv_iadd hx hb d_C_wireLength_77 ?_
    refine lv_iload hx hb d_C_wireLength_78 (lv_at hl 0 rfl) ?_
    refine lv_iadd hx hb d_C_wireLength_80 ?_
    exact W.iret hx hb hr (fun t ht _ => ⟨_, rfl, h, ht⟩) (fun _ h9 => nomatch h9) d_C_wireLength_81
  · replace h := h.2 c_2
    refine lv_iconst (v := 0) hx hb d_C_wireLength_9 (by decide) ?_
    exact W.iret hx hb hr (fun t ht _ => ⟨_, rfl, h, ht⟩) (fun _ h9 => nomatch h9) d_C_wireLength_10
