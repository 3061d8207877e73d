abbrev rm_D_netsInGroup : Room := { frames := 0, cells := 0, slots := 0, locals := 0 }
set_option maxHeartbeats 4000000 in
set_option maxRecDepth 100000 in
theorem Wl_D_netsInGroup_4 {p : Program} {l : Launch} {e : Env} {s : State} {m : MethodId} {args : Array Value} {below : List Frame} {meth : Method} {c : Code} {L : cL} {I : MI} {F : MF} {G : MG} {post : Int32 → Prop} {K : Int32 → Int32 → Prop} {a1 : Int32} (xc : xC p s m args meth c b_D_netsInGroup 4 lwG qR3 (some .int)) (hP : va_P L.1 vwCl (WC L I F G) s.heap) (hK : va_K L.1 vwCl (cTys L) s) (hN : cNk s)
    (hk : ∀ (a2 : Int32) (a3 : Int32) (ls : Array Slot), K a2 a3 → lv_has ls 4 [(0, .ref (cA L 3)), (1, .int a1), (2, .int a2), (3, .int a3)] → W p l e rm_D_netsInGroup s m args below meth c s.heap [] 0 0 (MQ below (vp_Si post) args s 0 0 (fun _ => False)) (F0 m 39 ls [])) :
    ∀ (n : Nat) (a2 : Int32) (a3 : Int32) (ls : Array Slot), wl_D_netsInGroup_4 post K a1 I F G n a2 a3 → lv_has ls 4 [(0, .ref (cA L 3)), (1, .int a1), (2, .int a2), (3, .int a3)] → W p l e rm_D_netsInGroup s m args below meth c s.heap [] 0 0 (MQ below (vp_Si post) args s 0 0 (fun _ => False)) (F0 m 4 ls []) := by
  obtain ⟨hx, hb, hml, hown, hts, hr, hlocks⟩ := id xc
  intro n
  induction n with
  | zero => intro a2 a3 ls h; exact absurd h id
  | succ n ih =>
    intro a2 a3 ls h hl
    refine lv_iload_n hx hb d_D_netsInGroup_4 rfl (lv_at hl 3 rfl) ?_
    refine lv_aload_n hx hb d_D_netsInGroup_5 rfl (lv_at hl 0 rfl) ?_
    refine va_get (D := L.1) (ci := 3) (v := .int (I 3)) (C := qR3) (T := qT3) (N := 7) hx hb hts qi3 hown hK hP 3 rfl rfl 6 (by decide) (hts _ wG173) (fun _ h9 => h9) rfl d_D_netsInGroup_6 ?_
    refine lv_icmp_ge (tgt := 39) hx hb d_D_netsInGroup_9 (by decide) (fun c_1 => ?_) (fun c_1 => ?_)
    · replace h := h.1 c_1
      exact hk a2 a3 ls h (lv_sub hl [0, 1, 2, 3] rfl)
    · replace h := h.2 c_1
      refine lv_aload_n hx hb d_D_netsInGroup_12 rfl (lv_at hl 0 rfl) ?_
      refine va_get (D := L.1) (ci := 3) (v := .ref (cA L 23)) (C := qR3) (T := qT3) (N := 7) hx hb hts qi3 hown hK hP 3 rfl rfl 5 (by decide) (hts _ wG172) (fun _ h9 => h9) rfl d_D_netsInGroup_13 ?_
      refine lv_iload_n hx hb d_D_netsInGroup_16 rfl (lv_at hl 3 rfl) ?_
      obtain ⟨hi_2, h⟩ := h
      refine c_iald hx hb hK hP 13 (by decide) rfl hi_2 d_D_netsInGroup_17 ?_
      refine lv_iload_n hx hb d_D_netsInGroup_18 rfl (lv_at hl 1 rfl) ?_
      refine lv_icmp_ne (tgt := 33) hx hb d_D_netsInGroup_19 (by decide) (fun c_3 => ?_) (fun c_3 => ?_)
      · replace h := h.1 c_3
        obtain ⟨x_4, ex_4⟩ : ∃ y : Int32, y = a3 + 1 := ⟨_, rfl⟩
        replace h := h x_4 ex_4
        refine lv_iinc (v := x_4) (lv' := [(3, .int x_4), (0, .ref (cA L 3)), (1, .int a1), (2, .int a2)]) hx hb d_D_netsInGroup_33 hl (k := 3) rfl (by rw [ex_4]; rfl) (by decide) rfl (fun ls hl => ?_)
        refine lv_goto (tgt := 4) hx hb d_D_netsInGroup_36 (by decide) ?_
        exact ih a2 x_4 ls h (lv_sub hl [1, 2, 3, 0] rfl)
      · replace h := h.2 c_3
        refine lv_iload_n hx hb d_D_netsInGroup_22 rfl (lv_at hl 2 rfl) ?_
        refine lv_iconst (v := 1) hx hb d_D_netsInGroup_23 (by decide) ?_
        refine lv_aload_n hx hb d_D_netsInGroup_24 rfl (lv_at hl 0 rfl) ?_
        refine va_get (D := L.1) (ci := 3) (v := .ref (cA L 22)) (C := qR3) (T := qT3) (N := 7) hx hb hts qi3 hown hK hP 3 rfl rfl 4 (by decide) (hts _ wG171) (fun _ h9 => h9) rfl d_D_netsInGroup_25 ?_
        refine lv_iload_n hx hb d_D_netsInGroup_28 rfl (lv_at hl 3 rfl) ?_
        obtain ⟨hi_5, h⟩ := h
        refine c_iald hx hb hK hP 12 (by decide) rfl hi_5 d_D_netsInGroup_29 ?_
        refine lv_ishl hx hb d_D_netsInGroup_30 ?_
        refine lv_ior hx hb d_D_netsInGroup_31 ?_
        refine lv_topi (fun x_6 ex_6 => ?_)
        replace h := h x_6 ex_6
        refine lv_istore_n (lv' := [(2, .int x_6), (0, .ref (cA L 3)), (1, .int a1), (3, .int a3)]) hx hb d_D_netsInGroup_32 rfl hl (by decide) rfl (fun ls hl => ?_)
        obtain ⟨x_7, ex_7⟩ : ∃ y : Int32, y = a3 + 1 := ⟨_, rfl⟩
        replace h := h x_7 ex_7
        refine lv_iinc (v := x_7) (lv' := [(3, .int x_7), (2, .int x_6), (0, .ref (cA L 3)), (1, .int a1)]) hx hb d_D_netsInGroup_33 hl (k := 3) rfl (by rw [ex_7]; rfl) (by decide) rfl (fun ls hl => ?_)
        refine lv_goto (tgt := 4) hx hb d_D_netsInGroup_36 (by decide) ?_
        exact ih x_6 x_7 ls h (lv_sub hl [2, 3, 1, 0] rfl)
set_option maxHeartbeats 4000000 in
set_option maxRecDepth 100000 in
theorem c_D_netsInGroup (l : Launch) (L : cL) (a1 : Int32) (I : MI) (F : MF) (G : MG) (post : Int32 → Prop) (h : wp_D_netsInGroup a1 I F G post) : Met l y_D_netsInGroup (.code y_D_netsInGroup b_D_netsInGroup 4 (some .int) :: lwG) rm_D_netsInGroup (cPc L I F G [.ref (cA L 3), .int a1]) (vp_Si post) 0 0 (fun _ => False) := by
  refine Met.ofW (cc := b_D_netsInGroup) (maxL := 4) (ret := (some .int)) (by decide) rfl ?_
  intro p e s m args below meth c s₁ B hml hv
  obtain ⟨rfl, hP, hK, hN⟩ := hv
  have xc : xC p s m _ meth c b_D_netsInGroup 4 lwG qR3 (some .int) := ⟨B.exec, B.bytes, hml, findClass_of_methodNamed B.named, fun w h => atoms_spec (ws := (.code y_D_netsInGroup b_D_netsInGroup 4 (some .int) :: lwG)) B.pre w (List.mem_cons_of_mem _ h), B.returns, B.notSynchronized⟩
  obtain ⟨hx, hb, hml, hown, hts, hr, hlocks⟩ := id xc
  have hl := lv_entry ([.ref (cA L 3), .int a1]) (n := 4) (Nat.le_of_ble_eq_true rfl)
  rw [lg_entry_eq]
  generalize (lg_sl ([.ref (cA L 3), .int a1]) ++ List.replicate (4 - (lg_sl ([.ref (cA L 3), .int a1])).length) Slot.unset).toArray = ls at hl ⊢
  have hl : lv_has ls 4 [(0, .ref (cA L 3)), (1, .int a1)] := hl
  refine lv_iconst (v := 0) hx hb d_D_netsInGroup_0 (by decide) ?_
  refine lv_istore_n (lv' := [(2, .int 0), (0, .ref (cA L 3)), (1, .int a1)]) hx hb d_D_netsInGroup_1 rfl hl (by decide) rfl (fun ls hl => ?_)
  refine lv_iconst (v := 0) hx hb d_D_netsInGroup_2 (by decide) ?_
  refine lv_istore_n (lv' := [(3, .int 0), (2, .int 0), (0, .ref (cA L 3)), (1, .int a1)]) hx hb d_D_netsInGroup_3 rfl hl (by decide) rfl (fun ls hl => ?_)
  obtain ⟨n_10, h⟩ := h
  refine Wl_D_netsInGroup_4 xc hP hK hN (hk := fun x_8 x_9 ls h hl => ?_) n_10 0 0 ls h (lv_sub hl [2, 3, 1, 0] rfl)
  refine lv_iload_n hx hb d_D_netsInGroup_39 rfl (lv_at hl 2 rfl) ?_
  exact W.iret hx hb hr (fun t ht _ => ⟨_, rfl, h, ht⟩) (fun _ h9 => nomatch h9) d_D_netsInGroup_40
abbrev rm_D_netsJoinedWith : Room := { frames := 1, cells := 0, slots := 0, locals := 23 }
set_option maxHeartbeats 4000000 in
set_option maxRecDepth 100000 in
theorem Wl_D_netsJoinedWith_4 {p : Program} {l : Launch} {e : Env} {s : State} {m : MethodId} {args : Array Value} {below : List Frame} {meth : Method} {c : Code} {L : cL} {I : MI} {F : MF} {G : MG} {post : Int32 → Prop} {K : Int32 → Int32 → Prop} {a1 : Int32} (xc : xC p s m args meth c b_D_netsJoinedWith 4 lwG qR3 (some .int)) (hP : va_P L.1 vwCl (WC L I F G) s.heap) (hK : va_K L.1 vwCl (cTys L) s) (hN : cNk s)
    (hk : ∀ (a2 : Int32) (a3 : Int32) (ls : Array Slot), K a2 a3 → lv_has ls 4 [(0, .ref (cA L 3)), (1, .int a1), (2, .int a2), (3, .int a3)] → W p l e rm_D_netsJoinedWith s m args below meth c s.heap [] 0 0 (MQ below (vp_Si post) args s 0 0 (fun _ => False)) (F0 m 41 ls [])) :
    ∀ (n : Nat) (a2 : Int32) (a3 : Int32) (ls : Array Slot), wl_D_netsJoinedWith_4 post K a1 I F G n a2 a3 → lv_has ls 4 [(0, .ref (cA L 3)), (1, .int a1), (2, .int a2), (3, .int a3)] → W p l e rm_D_netsJoinedWith s m args below meth c s.heap [] 0 0 (MQ below (vp_Si post) args s 0 0 (fun _ => False)) (F0 m 4 ls []) := by
  obtain ⟨hx, hb, hml, hown, hts, hr, hlocks⟩ := id xc
  intro n
  induction n with
  | zero => intro a2 a3 ls h; exact absurd h id
  | succ n ih =>
    intro a2 a3 ls h hl
    refine lv_iload_n hx hb d_D_netsJoinedWith_4 rfl (lv_at hl 3 rfl) ?_
    refine lv_aload_n hx hb d_D_netsJoinedWith_5 rfl (lv_at hl 0 rfl) ?_
    refine va_get (D := L.1) (ci := 3) (v := .int (I 3)) (C := qR3) (T := qT3) (N := 7) hx hb hts qi3 hown hK hP 3 rfl rfl 6 (by decide) (hts _ wG173) (fun _ h9 => h9) rfl d_D_netsJoinedWith_6 ?_
    refine lv_icmp_ge (tgt := 41) hx hb d_D_netsJoinedWith_9 (by decide) (fun c_1 => ?_) (fun c_1 => ?_)
    · replace h := h.1 c_1
      exact hk a2 a3 ls h (lv_sub hl [0, 1, 2, 3] rfl)
    · replace h := h.2 c_1
      refine lv_aload_n hx hb d_D_netsJoinedWith_12 rfl (lv_at hl 0 rfl) ?_
      refine va_get (D := L.1) (ci := 3) (v := .ref (cA L 22)) (C := qR3) (T := qT3) (N := 7) hx hb hts qi3 hown hK hP 3 rfl rfl 4 (by decide) (hts _ wG171) (fun _ h9 => h9) rfl d_D_netsJoinedWith_13 ?_
      refine lv_iload_n hx hb d_D_netsJoinedWith_16 rfl (lv_at hl 3 rfl) ?_
      obtain ⟨hi_2, h⟩ := h
      refine c_iald hx hb hK hP 12 (by decide) rfl hi_2 d_D_netsJoinedWith_17 ?_
      refine lv_iload_n hx hb d_D_netsJoinedWith_18 rfl (lv_at hl 1 rfl) ?_
      refine lv_icmp_ne (tgt := 35) hx hb d_D_netsJoinedWith_19 (by decide) (fun c_3 => ?_) (fun c_3 => ?_)
      · replace h := h.1 c_3
        obtain ⟨x_4, ex_4⟩ : ∃ y : Int32, y = a3 + 1 := ⟨_, rfl⟩
        replace h := h x_4 ex_4
        refine lv_iinc (v := x_4) (lv' := [(3, .int x_4), (0, .ref (cA L 3)), (1, .int a1), (2, .int a2)]) hx hb d_D_netsJoinedWith_35 hl (k := 3) rfl (by rw [ex_4]; rfl) (by decide) rfl (fun ls hl => ?_)
        refine lv_goto (tgt := 4) hx hb d_D_netsJoinedWith_38 (by decide) ?_
        exact ih a2 x_4 ls h (lv_sub hl [1, 2, 3, 0] rfl)
      · replace h := h.2 c_3
        refine lv_iload_n hx hb d_D_netsJoinedWith_22 rfl (lv_at hl 2 rfl) ?_
        refine lv_aload_n hx hb d_D_netsJoinedWith_23 rfl (lv_at hl 0 rfl) ?_
        refine lv_aload_n hx hb d_D_netsJoinedWith_24 rfl (lv_at hl 0 rfl) ?_
        refine va_get (D := L.1) (ci := 3) (v := .ref (cA L 23)) (C := qR3) (T := qT3) (N := 7) hx hb hts qi3 hown hK hP 3 rfl rfl 5 (by decide) (hts _ wG172) (fun _ h9 => h9) rfl d_D_netsJoinedWith_25 ?_
        refine lv_iload_n hx hb d_D_netsJoinedWith_28 rfl (lv_at hl 3 rfl) ?_
        obtain ⟨hi_5, h⟩ := h
        refine c_iald hx hb hK hP 13 (by decide) rfl hi_5 d_D_netsJoinedWith_29 ?_
        refine vp_callSi (va_runV (As := [.int (F 13 a3.toNatClampNeg)]) (rest := [.int a2]) ⟨hx, hb, hml, hown, hts⟩ (c_D_netsInGroup l L (F 13 a3.toNatClampNeg) I F G _ h) (cwV 1 hts (gV wG606 wG608 wG17 wG52 wG609) rfl rfl rfl (by decide +kernel) ⟨Nat.le_of_ble_eq_true rfl, Nat.le_of_ble_eq_true rfl⟩) (cPre3 hK hN hP) rfl rfl hl.1 rfl (lv_room (Nat.le_of_ble_eq_true rfl)) d_D_netsJoinedWith_30 ⟨Nat.le_of_ble_eq_true rfl, Nat.le_of_ble_eq_true rfl⟩).run (fun r_6 h => ?_)
        refine lv_ior hx hb d_D_netsJoinedWith_33 ?_
        refine lv_topi (fun x_7 ex_7 => ?_)
        replace h := h x_7 ex_7
        refine lv_istore_n (lv' := [(2, .int x_7), (0, .ref (cA L 3)), (1, .int a1), (3, .int a3)]) hx hb d_D_netsJoinedWith_34 rfl hl (by decide) rfl (fun ls hl => ?_)
        obtain ⟨x_8, ex_8⟩ : ∃ y : Int32, y = a3 + 1 := ⟨_, rfl⟩
        replace h := h x_8 ex_8
        refine lv_iinc (v := x_8) (lv' := [(3, .int x_8), (2, .int x_7), (0, .ref (cA L 3)), (1, .int a1)]) hx hb d_D_netsJoinedWith_35 hl (k := 3) rfl (by rw [ex_8]; rfl) (by decide) rfl (fun ls hl => ?_)
        refine lv_goto (tgt := 4) hx hb d_D_netsJoinedWith_38 (by decide) ?_
        exact ih x_7 x_8 ls h (lv_sub hl [2, 3, 1, 0] rfl)
set_option maxHeartbeats 4000000 in
set_option maxRecDepth 100000 in
theorem c_D_netsJoinedWith (l : Launch) (L : cL) (a1 : Int32) (I : MI) (F : MF) (G : MG) (post : Int32 → Prop) (h : wp_D_netsJoinedWith a1 I F G post) : Met l y_D_netsJoinedWith (.code y_D_netsJoinedWith b_D_netsJoinedWith 4 (some .int) :: lwG) rm_D_netsJoinedWith (cPc L I F G [.ref (cA L 3), .int a1]) (vp_Si post) 0 0 (fun _ => False) := by
  refine Met.ofW (cc := b_D_netsJoinedWith) (maxL := 4) (ret := (some .int)) (by decide) rfl ?_
  intro p e s m args below meth c s₁ B hml hv
  obtain ⟨rfl, hP, hK, hN⟩ := hv
  have xc : xC p s m _ meth c b_D_netsJoinedWith 4 lwG qR3 (some .int) := ⟨B.exec, B.bytes, hml, findClass_of_methodNamed B.named, fun w h => atoms_spec (ws := (.code y_D_netsJoinedWith b_D_netsJoinedWith 4 (some .int) :: lwG)) B.pre w (List.mem_cons_of_mem _ h), B.returns, B.notSynchronized⟩
  obtain ⟨hx, hb, hml, hown, hts, hr, hlocks⟩ := id xc
  have hl := lv_entry ([.ref (cA L 3), .int a1]) (n := 4) (Nat.le_of_ble_eq_true rfl)
  rw [lg_entry_eq]
  generalize (lg_sl ([.ref (cA L 3), .int a1]) ++ List.replicate (4 - (lg_sl ([.ref (cA L 3), .int a1])).length) Slot.unset).toArray = ls at hl ⊢
  have hl : lv_has ls 4 [(0, .ref (cA L 3)), (1, .int a1)] := hl
  refine lv_iconst (v := 0) hx hb d_D_netsJoinedWith_0 (by decide) ?_
  refine lv_istore_n (lv' := [(2, .int 0), (0, .ref (cA L 3)), (1, .int a1)]) hx hb d_D_netsJoinedWith_1 rfl hl (by decide) rfl (fun ls hl => ?_)
  refine lv_iconst (v := 0) hx hb d_D_netsJoinedWith_2 (by decide) ?_
  refine lv_istore_n (lv' := [(3, .int 0), (2, .int 0), (0, .ref (cA L 3)), (1, .int a1)]) hx hb d_D_netsJoinedWith_3 rfl hl (by decide) rfl (fun ls hl => ?_)
  obtain ⟨n_11, h⟩ := h
  refine Wl_D_netsJoinedWith_4 xc hP hK hN (hk := fun x_9 x_10 ls h hl => ?_) n_11 0 0 ls h (lv_sub hl [2, 3, 1, 0] rfl)
  refine lv_iload_n hx hb d_D_netsJoinedWith_41 rfl (lv_at hl 2 rfl) ?_
  exact W.iret hx hb hr (fun t ht _ => ⟨_, rfl, h, ht⟩) (fun _ h9 => nomatch h9) d_D_netsJoinedWith_42
abbrev rm_D_shortPairs : Room := { frames := 2, cells := 0, slots := 0, locals := 46 }
set_option maxHeartbeats 4000000 in
set_option maxRecDepth 100000 in
theorem Wl_D_shortPairs_4 {p : Program} {l : Launch} {e : Env} {s : State} {m : MethodId} {args : Array Value} {below : List Frame} {meth : Method} {c : Code} {L : cL} {I : MI} {F : MF} {G : MG} {post : Int32 → Prop} {K : Int32 → Int32 → Prop} (xc : xC p s m args meth c b_D_shortPairs 4 lwG qR3 (some .int)) (hP : va_P L.1 vwCl (WC L I F G) s.heap) (hK : va_K L.1 vwCl (cTys L) s) (hN : cNk s)
    (hk : ∀ (a1 : Int32) (a2 : Int32) (ls : Array Slot), K a1 a2 → lv_has ls 4 [(0, .ref (cA L 3)), (1, .int a1), (2, .int a2)] → W p l e rm_D_shortPairs s m args below meth c s.heap [] 0 0 (MQ below (vp_Si post) args s 0 0 (fun _ => False)) (F0 m 35 ls [])) :
    ∀ (n : Nat) (a1 : Int32) (a2 : Int32) (ls : Array Slot), wl_D_shortPairs_4 post K I F G n a1 a2 → lv_has ls 4 [(0, .ref (cA L 3)), (1, .int a1), (2, .int a2)] → W p l e rm_D_shortPairs s m args below meth c s.heap [] 0 0 (MQ below (vp_Si post) args s 0 0 (fun _ => False)) (F0 m 4 ls []) := by
  obtain ⟨hx, hb, hml, hown, hts, hr, hlocks⟩ := id xc
  intro n
  induction n with
  | zero => intro a1 a2 ls h; exact absurd h id
  | succ n ih =>
    intro a1 a2 ls h hl
    refine lv_iload_n hx hb d_D_shortPairs_4 rfl (lv_at hl 2 rfl) ?_
    refine lv_bipush (v := 12) hx hb d_D_shortPairs_5 (by decide) ?_
    refine lv_icmp_ge (tgt := 35) hx hb d_D_shortPairs_7 (by decide) (fun c_1 => ?_) (fun c_1 => ?_)
    · replace h := h.1 c_1
      exact hk a1 a2 ls h (lv_sub hl [0, 1, 2] rfl)
    · replace h := h.2 c_1
      refine lv_iconst (v := 1) hx hb d_D_shortPairs_10 (by decide) ?_
      refine lv_iload_n hx hb d_D_shortPairs_11 rfl (lv_at hl 2 rfl) ?_
      refine lv_ishl hx hb d_D_shortPairs_12 ?_
      refine lv_iconst (v := 1) hx hb d_D_shortPairs_13 (by decide) ?_
      refine lv_isub hx hb d_D_shortPairs_14 ?_
      refine lv_topi (fun x_2 ex_2 => ?_)
      replace h := h x_2 ex_2
      refine lv_istore_n (lv' := [(3, .int x_2), (0, .ref (cA L 3)), (1, .int a1), (2, .int a2)]) hx hb d_D_shortPairs_15 rfl hl (by decide) rfl (fun ls hl => ?_)
      refine lv_iload_n hx hb d_D_shortPairs_16 rfl (lv_at hl 2 rfl) ?_
      refine lv_aload_n hx hb d_D_shortPairs_17 rfl (lv_at hl 1 rfl) ?_
      refine lv_iload_n hx hb d_D_shortPairs_18 rfl (lv_at hl 3 rfl) ?_
      refine vp_callSi (va_runV (As := [.int a2]) (rest := [.int a1]) ⟨hx, hb, hml, hown, hts⟩ (c_D_netsJoinedWith l L a2 I F G _ h) (cwV 1 hts (gV wG602 wG604 wG16 wG52 wG605) rfl rfl rfl (by decide +kernel) ⟨Nat.le_of_ble_eq_true rfl, Nat.le_of_ble_eq_true rfl⟩) (cPre3 hK hN hP) rfl rfl hl.1 rfl (lv_room (Nat.le_of_ble_eq_true rfl)) d_D_shortPairs_19 ⟨Nat.le_of_ble_eq_true rfl, Nat.le_of_ble_eq_true rfl⟩).run (fun r_3 h => ?_)
      refine lv_iload_n hx hb d_D_shortPairs_22 rfl (lv_at hl 0 rfl) ?_
      refine lv_iand hx hb d_D_shortPairs_23 ?_
      refine vp_callSi (va_runS (As := [.int (r_3 &&& x_2)]) (rest := [.int a1]) ⟨hx, hb, hml, hown, hts⟩ (c_JI_bitCount l (r_3 &&& x_2) _ h) (va_cwS 1 hts (gS wG610 wG611 wG63 wG612) rfl rfl rfl (by decide +kernel) ⟨Nat.le_of_ble_eq_true rfl, Nat.le_of_ble_eq_true rfl⟩) ⟨sPc_blind _, fun U hU hW => ⟨rfl, trivial⟩⟩ rfl rfl hl.1 rfl (lv_room (Nat.le_of_ble_eq_true rfl)) d_D_shortPairs_24 ⟨Nat.le_of_ble_eq_true rfl, Nat.le_of_ble_eq_true rfl⟩).run (fun r_4 h => ?_)
      refine lv_iadd hx hb d_D_shortPairs_27 ?_
      refine lv_topi (fun x_5 ex_5 => ?_)
      replace h := h x_5 ex_5
      refine lv_istore_n (lv' := [(1, .int x_5), (3, .int x_2), (0, .ref (cA L 3)), (2, .int a2)]) hx hb d_D_shortPairs_28 rfl hl (by decide) rfl (fun ls hl => ?_)
      obtain ⟨x_6, ex_6⟩ : ∃ y : Int32, y = a2 + 1 := ⟨_, rfl⟩
      replace h := h x_6 ex_6
      refine lv_iinc (v := x_6) (lv' := [(2, .int x_6), (1, .int x_5), (3, .int x_2), (0, .ref (cA L 3))]) hx hb d_D_shortPairs_29 hl (k := 3) rfl (by rw [ex_6]; rfl) (by decide) rfl (fun ls hl => ?_)
      refine lv_goto (tgt := 4) hx hb d_D_shortPairs_32 (by decide) ?_
      exact ih x_5 x_6 ls h (lv_sub hl [3, 1, 0] rfl)
set_option maxHeartbeats 4000000 in
set_option maxRecDepth 100000 in
theorem c_D_shortPairs (l : Launch) (L : cL) (I : MI) (F : MF) (G : MG) (post : Int32 → Prop) (h : wp_D_shortPairs I F G post) : Met l y_D_shortPairs (.code y_D_shortPairs b_D_shortPairs 4 (some .int) :: lwG) rm_D_shortPairs (cPc L I F G [.ref (cA L 3)]) (vp_Si post) 0 0 (fun _ => False) := by
  refine Met.ofW (cc := b_D_shortPairs) (maxL := 4) (ret := (some .int)) (by decide) rfl ?_
  intro p e s m args below meth c s₁ B hml hv
  obtain ⟨rfl, hP, hK, hN⟩ := hv
  have xc : xC p s m _ meth c b_D_shortPairs 4 lwG qR3 (some .int) := ⟨B.exec, B.bytes, hml, findClass_of_methodNamed B.named, fun w h => atoms_spec (ws := (.code y_D_shortPairs b_D_shortPairs 4 (some .int) :: lwG)) B.pre w (List.mem_cons_of_mem _ h), B.returns, B.notSynchronized⟩
  obtain ⟨hx, hb, hml, hown, hts, hr, hlocks⟩ := id xc
  have hl := lv_entry ([.ref (cA L 3)]) (n := 4) (Nat.le_of_ble_eq_true rfl)
  rw [lg_entry_eq]
  generalize (lg_sl ([.ref (cA L 3)]) ++ List.replicate (4 - (lg_sl ([.ref (cA L 3)])).length) Slot.unset).toArray = ls at hl ⊢
  have hl : lv_has ls 4 [(0, .ref (cA L 3))] := hl
  refine lv_iconst (v := 0) hx hb d_D_shortPairs_0 (by decide) ?_
  refine lv_istore_n (lv' := [(1, .int 0), (0, .ref (cA L 3))]) hx hb d_D_shortPairs_1 rfl hl (by decide) rfl (fun ls hl => ?_)
  refine lv_iconst (v := 0) hx hb d_D_shortPairs_2 (by decide) ?_
  refine lv_istore_n (lv' := [(2, .int 0), (1, .int 0), (0, .ref (cA L 3))]) hx hb d_D_shortPairs_3 rfl hl (by decide) rfl (fun ls hl => ?_)
  obtain ⟨n_9, h⟩ := h
  refine Wl_D_shortPairs_4 xc hP hK hN (hk := fun x_7 x_8 ls h hl => ?_) n_9 0 0 ls h (lv_sub hl [2, 1, 0] rfl)
  refine lv_iload_n hx hb d_D_shortPairs_35 rfl (lv_at hl 1 rfl) ?_
  exact W.iret hx hb hr (fun t ht _ => ⟨_, rfl, h, ht⟩) (fun _ h9 => nomatch h9) d_D_shortPairs_36
abbrev rm_D_openNets : Room := { frames := 1, cells := 0, slots := 0, locals := 20 }
set_option maxHeartbeats 4000000 in
set_option maxRecDepth 100000 in
theorem Wl_D_openNets_14 {p : Program} {l : Launch} {e : Env} {s : State} {m : MethodId} {args : Array Value} {below : List Frame} {meth : Method} {c : Code} {L : cL} {I : MI} {F : MF} {G : MG} {post : Int32 → Prop} {K : Int32 → Int32 → Prop} {a2 : Int32} (xc : xC p s m args meth c b_D_openNets 4 lwG qR3 (some .int)) (hP : va_P L.1 vwCl (WC L I F G) s.heap) (hK : va_K L.1 vwCl (cTys L) s) (hN : cNk s)
    (hk : ∀ (a1 : Int32) (a3 : Int32) (ls : Array Slot), K a1 a3 → lv_has ls 4 [(0, .ref (cA L 3)), (1, .int a1), (2, .int a2), (3, .int a3)] → W p l e rm_D_openNets s m args below meth c s.heap [] 0 0 (MQ below (vp_Si post) args s 0 0 (fun _ => False)) (F0 m 66 ls [])) :
    ∀ (n : Nat) (a1 : Int32) (a3 : Int32) (ls : Array Slot), wl_D_openNets_14 post K a2 I F G n a1 a3 → lv_has ls 4 [(0, .ref (cA L 3)), (1, .int a1), (2, .int a2), (3, .int a3)] → W p l e rm_D_openNets s m args below meth c s.heap [] 0 0 (MQ below (vp_Si post) args s 0 0 (fun _ => False)) (F0 m 14 ls []) := by
  obtain ⟨hx, hb, hml, hown, hts, hr, hlocks⟩ := id xc
  intro n
  induction n with
  | zero => intro a1 a3 ls h; exact absurd h id
  | succ n ih =>
    intro a1 a3 ls h hl
    refine lv_iload_n hx hb d_D_openNets_14 rfl (lv_at hl 3 rfl) ?_
    refine lv_iload_n hx hb d_D_openNets_15 rfl (lv_at hl 2 rfl) ?_
    refine lv_icmp_ge (tgt := 66) hx hb d_D_openNets_16 (by decide) (fun c_2 => ?_) (fun c_2 => ?_)
    · replace h := h.1 c_2
      exact hk a1 a3 ls h (lv_sub hl [0, 1, 2, 3] rfl)
    · replace h := h.2 c_2
      refine lv_aload_n hx hb d_D_openNets_19 rfl (lv_at hl 0 rfl) ?_
      refine va_get (D := L.1) (ci := 3) (v := .ref (cA L 22)) (C := qR3) (T := qT3) (N := 7) hx hb hts qi3 hown hK hP 3 rfl rfl 4 (by decide) (hts _ wG171) (fun _ h9 => h9) rfl d_D_openNets_20 ?_
      refine lv_iload_n hx hb d_D_openNets_23 rfl (lv_at hl 2 rfl) ?_
      obtain ⟨hi_3, h⟩ := h
      refine c_iald hx hb hK hP 12 (by decide) rfl hi_3 d_D_openNets_24 ?_
      refine lv_aload_n hx hb d_D_openNets_25 rfl (lv_at hl 0 rfl) ?_
      refine va_get (D := L.1) (ci := 3) (v := .ref (cA L 22)) (C := qR3) (T := qT3) (N := 7) hx hb hts qi3 hown hK hP 3 rfl rfl 4 (by decide) (hts _ wG171) (fun _ h9 => h9) rfl d_D_openNets_26 ?_
      refine lv_iload_n hx hb d_D_openNets_29 rfl (lv_at hl 3 rfl) ?_
      obtain ⟨hi_4, h⟩ := h
      refine c_iald hx hb hK hP 12 (by decide) rfl hi_4 d_D_openNets_30 ?_
      refine lv_icmp_ne (tgt := 60) hx hb d_D_openNets_31 (by decide) (fun c_5 => ?_) (fun c_5 => ?_)
      · replace h := h.1 c_5
        obtain ⟨x_6, ex_6⟩ : ∃ y : Int32, y = a3 + 1 := ⟨_, rfl⟩
        replace h := h x_6 ex_6
        refine lv_iinc (v := x_6) (lv' := [(3, .int x_6), (0, .ref (cA L 3)), (1, .int a1), (2, .int a2)]) hx hb d_D_openNets_60 hl (k := 3) rfl (by rw [ex_6]; rfl) (by decide) rfl (fun ls hl => ?_)
        refine lv_goto (tgt := 14) hx hb d_D_openNets_63 (by decide) ?_
        exact ih a1 x_6 ls h (lv_sub hl [1, 2, 3, 0] rfl)
      · replace h := h.2 c_5
        refine lv_aload_n hx hb d_D_openNets_34 rfl (lv_at hl 0 rfl) ?_
        refine va_get (D := L.1) (ci := 3) (v := .ref (cA L 23)) (C := qR3) (T := qT3) (N := 7) hx hb hts qi3 hown hK hP 3 rfl rfl 5 (by decide) (hts _ wG172) (fun _ h9 => h9) rfl d_D_openNets_35 ?_
        refine lv_iload_n hx hb d_D_openNets_38 rfl (lv_at hl 2 rfl) ?_
        obtain ⟨hi_7, h⟩ := h
        refine c_iald hx hb hK hP 13 (by decide) rfl hi_7 d_D_openNets_39 ?_
        refine lv_aload_n hx hb d_D_openNets_40 rfl (lv_at hl 0 rfl) ?_
        refine va_get (D := L.1) (ci := 3) (v := .ref (cA L 23)) (C := qR3) (T := qT3) (N := 7) hx hb hts qi3 hown hK hP 3 rfl rfl 5 (by decide) (hts _ wG172) (fun _ h9 => h9) rfl d_D_openNets_41 ?_
        refine lv_iload_n hx hb d_D_openNets_44 rfl (lv_at hl 3 rfl) ?_
        obtain ⟨hi_8, h⟩ := h
        refine c_iald hx hb hK hP 13 (by decide) rfl hi_8 d_D_openNets_45 ?_
        refine lv_icmp_eq (tgt := 60) hx hb d_D_openNets_46 (by decide) (fun c_9 => ?_) (fun c_9 => ?_)
        · replace h := h.1 c_9
          obtain ⟨x_10, ex_10⟩ : ∃ y : Int32, y = a3 + 1 := ⟨_, rfl⟩
          replace h := h x_10 ex_10
          refine lv_iinc (v := x_10) (lv' := [(3, .int x_10), (0, .ref (cA L 3)), (1, .int a1), (2, .int a2)]) hx hb d_D_openNets_60 hl (k := 3) rfl (by rw [ex_10]; rfl) (by decide) rfl (fun ls hl => ?_)
          refine lv_goto (tgt := 14) hx hb d_D_openNets_63 (by decide) ?_
          exact ih a1 x_10 ls h (lv_sub hl [1, 2, 3, 0] rfl)
        · replace h := h.2 c_9
          refine lv_iload_n hx hb d_D_openNets_49 rfl (lv_at hl 1 rfl) ?_
          refine lv_iconst (v := 1) hx hb d_D_openNets_50 (by decide) ?_
          refine lv_aload_n hx hb d_D_openNets_51 rfl (lv_at hl 0 rfl) ?_
          refine va_get (D := L.1) (ci := 3) (v := .ref (cA L 22)) (C := qR3) (T := qT3) (N := 7) hx hb hts qi3 hown hK hP 3 rfl rfl 4 (by decide) (hts _ wG171) (fun _ h9 => h9) rfl d_D_openNets_52 ?_
          refine lv_iload_n hx hb d_D_openNets_55 rfl (lv_at hl 2 rfl) ?_
          obtain ⟨hi_11, h⟩ := h
          refine c_iald hx hb hK hP 12 (by decide) rfl hi_11 d_D_openNets_56 ?_
          refine lv_ishl hx hb d_D_openNets_57 ?_
          refine lv_ior hx hb d_D_openNets_58 ?_
          refine lv_topi (fun x_12 ex_12 => ?_)
          replace h := h x_12 ex_12
          refine lv_istore_n (lv' := [(1, .int x_12), (0, .ref (cA L 3)), (2, .int a2), (3, .int a3)]) hx hb d_D_openNets_59 rfl hl (by decide) rfl (fun ls hl => ?_)
          obtain ⟨x_13, ex_13⟩ : ∃ y : Int32, y = a3 + 1 := ⟨_, rfl⟩
          replace h := h x_13 ex_13
          refine lv_iinc (v := x_13) (lv' := [(3, .int x_13), (1, .int x_12), (0, .ref (cA L 3)), (2, .int a2)]) hx hb d_D_openNets_60 hl (k := 3) rfl (by rw [ex_13]; rfl) (by decide) rfl (fun ls hl => ?_)
          refine lv_goto (tgt := 14) hx hb d_D_openNets_63 (by decide) ?_
          exact ih x_12 x_13 ls h (lv_sub hl [2, 1, 3, 0] rfl)
set_option maxHeartbeats 4000000 in
set_option maxRecDepth 100000 in
theorem Wl_D_openNets_4 {p : Program} {l : Launch} {e : Env} {s : State} {m : MethodId} {args : Array Value} {below : List Frame} {meth : Method} {c : Code} {L : cL} {I : MI} {F : MF} {G : MG} {post : Int32 → Prop} {K : Int32 → Int32 → Prop} (xc : xC p s m args meth c b_D_openNets 4 lwG qR3 (some .int)) (hP : va_P L.1 vwCl (WC L I F G) s.heap) (hK : va_K L.1 vwCl (cTys L) s) (hN : cNk s)
    (hk : ∀ (a1 : Int32) (a2 : Int32) (ls : Array Slot), K a1 a2 → lv_has ls 4 [(0, .ref (cA L 3)), (1, .int a1), (2, .int a2)] → W p l e rm_D_openNets s m args below meth c s.heap [] 0 0 (MQ below (vp_Si post) args s 0 0 (fun _ => False)) (F0 m 72 ls [])) :
    ∀ (n : Nat) (a1 : Int32) (a2 : Int32) (ls : Array Slot), wl_D_openNets_4 post K I F G n a1 a2 → lv_has ls 4 [(0, .ref (cA L 3)), (1, .int a1), (2, .int a2)] → W p l e rm_D_openNets s m args below meth c s.heap [] 0 0 (MQ below (vp_Si post) args s 0 0 (fun _ => False)) (F0 m 4 ls []) := by
  obtain ⟨hx, hb, hml, hown, hts, hr, hlocks⟩ := id xc
  intro n
  induction n with
  | zero => intro a1 a2 ls h; exact absurd h id
  | succ n ih =>
    intro a1 a2 ls h hl
    refine lv_iload_n hx hb d_D_openNets_4 rfl (lv_at hl 2 rfl) ?_
    refine lv_aload_n hx hb d_D_openNets_5 rfl (lv_at hl 0 rfl) ?_
    refine va_get (D := L.1) (ci := 3) (v := .int (I 3)) (C := qR3) (T := qT3) (N := 7) hx hb hts qi3 hown hK hP 3 rfl rfl 6 (by decide) (hts _ wG173) (fun _ h9 => h9) rfl d_D_openNets_6 ?_
    refine lv_icmp_ge (tgt := 72) hx hb d_D_openNets_9 (by decide) (fun c_1 => ?_) (fun c_1 => ?_)
    · replace h := h.1 c_1
      exact hk a1 a2 ls h (lv_sub hl [0, 1, 2] rfl)
    · replace h := h.2 c_1
      refine lv_iconst (v := 0) hx hb d_D_openNets_12 (by decide) ?_
      refine lv_istore_n (lv' := [(3, .int 0), (0, .ref (cA L 3)), (1, .int a1), (2, .int a2)]) hx hb d_D_openNets_13 rfl hl (by decide) rfl (fun ls hl => ?_)
      obtain ⟨n_17, h⟩ := h
      refine Wl_D_openNets_14 xc hP hK hN (hk := fun x_14 x_15 ls h hl => ?_) n_17 a1 0 ls h (lv_sub hl [1, 2, 3, 0] rfl)
      obtain ⟨x_16, ex_16⟩ : ∃ y : Int32, y = a2 + 1 := ⟨_, rfl⟩
      replace h := h x_16 ex_16
      refine lv_iinc (v := x_16) (lv' := [(2, .int x_16), (0, .ref (cA L 3)), (1, .int x_14), (3, .int x_15)]) hx hb d_D_openNets_66 hl (k := 2) rfl (by rw [ex_16]; rfl) (by decide) rfl (fun ls hl => ?_)
      refine lv_goto (tgt := 4) hx hb d_D_openNets_69 (by decide) ?_
      exact ih x_14 x_16 ls h (lv_sub hl [1, 2, 0] rfl)
set_option maxHeartbeats 4000000 in
set_option maxRecDepth 100000 in
theorem c_D_openNets (l : Launch) (L : cL) (I : MI) (F : MF) (G : MG) (post : Int32 → Prop) (h : wp_D_openNets I F G post) : Met l y_D_openNets (.code y_D_openNets b_D_openNets 4 (some .int) :: lwG) rm_D_openNets (cPc L I F G [.ref (cA L 3)]) (vp_Si post) 0 0 (fun _ => False) := by
  refine Met.ofW (cc := b_D_openNets) (maxL := 4) (ret := (some .int)) (by decide) rfl ?_
  intro p e s m args below meth c s₁ B hml hv
  obtain ⟨rfl, hP, hK, hN⟩ := hv
  have xc : xC p s m _ meth c b_D_openNets 4 lwG qR3 (some .int) := ⟨B.exec, B.bytes, hml, findClass_of_methodNamed B.named, fun w h => atoms_spec (ws := (.code y_D_openNets b_D_openNets 4 (some .int) :: lwG)) B.pre w (List.mem_cons_of_mem _ h), B.returns, B.notSynchronized⟩
  obtain ⟨hx, hb, hml, hown, hts, hr, hlocks⟩ := id xc
  have hl := lv_entry ([.ref (cA L 3)]) (n := 4) (Nat.le_of_ble_eq_true rfl)
  rw [lg_entry_eq]
  generalize (lg_sl ([.ref (cA L 3)]) ++ List.replicate (4 - (lg_sl ([.ref (cA L 3)])).length) Slot.unset).toArray = ls at hl ⊢
  have hl : lv_has ls 4 [(0, .ref (cA L 3))] := hl
  refine lv_iconst (v := 0) hx hb d_D_openNets_0 (by decide) ?_
  refine lv_istore_n (lv' := [(1, .int 0), (0, .ref (cA L 3))]) hx hb d_D_openNets_1 rfl hl (by decide) rfl (fun ls hl => ?_)
  refine lv_iconst (v := 0) hx hb d_D_openNets_2 (by decide) ?_
  refine lv_istore_n (lv' := [(2, .int 0), (1, .int 0), (0, .ref (cA L 3))]) hx hb d_D_openNets_3 rfl hl (by decide) rfl (fun ls hl => ?_)
  obtain ⟨n_21, h⟩ := h
  refine Wl_D_openNets_4 xc hP hK hN (hk := fun x_18 x_19 ls h hl => ?_) n_21 0 0 ls h (lv_sub hl [2, 1, 0] rfl)
  refine lv_iload_n hx hb d_D_openNets_72 rfl (lv_at hl 1 rfl) ?_
  refine vp_callSi (va_runS (As := [.int x_18]) (rest := []) ⟨hx, hb, hml, hown, hts⟩ (c_JI_bitCount l x_18 _ h) (va_cwS 1 hts (gS wG610 wG611 wG63 wG612) rfl rfl rfl (by decide +kernel) ⟨Nat.le_of_ble_eq_true rfl, Nat.le_of_ble_eq_true rfl⟩) ⟨sPc_blind _, fun U hU hW => ⟨rfl, trivial⟩⟩ rfl rfl hl.1 rfl (lv_room (Nat.le_of_ble_eq_true rfl)) d_D_openNets_73 ⟨Nat.le_of_ble_eq_true rfl, Nat.le_of_ble_eq_true rfl⟩).run (fun r_20 h => ?_)
  exact W.iret hx hb hr (fun t ht _ => ⟨_, rfl, h, ht⟩) (fun _ h9 => nomatch h9) d_D_openNets_76
abbrev rm_F_faults : Room := { frames := 7, cells := 1, slots := 6, locals := 116 }
set_option maxHeartbeats 4000000 in
set_option maxRecDepth 100000 in
theorem c_F_faults (l : Launch) (L : cL) (hst : l.stackTraces = false) (a1 : Int32) (I : MI) (F : MF) (G : MG) (sz : Nat) (post : Int32 → MI → MF → MG → Prop) (thr : String → MI → MF → MG → Prop) (h : wp_F_faults a1 I F G post thr) : tx_Met l y_F_faults (.code y_F_faults b_F_faults 2 (some .int) :: lwG) rm_F_faults (cPx L I F G sz [.ref (cA L 0), .int a1]) (cRi L (cAA L I F G sz) post (cAA L I F G sz)) (cX L (cAA L I F G sz) thr (cAA L I F G sz)) 1 6 (cAA L I F G sz) := by
  refine tx_ofW (cc := b_F_faults) (maxL := 2) (ret := (some .int)) (by decide) rfl ?_
  intro p e s m args below meth c s₁ B hml hnt hv
  obtain ⟨rfl, hsz, hP, hK, hD0, hN, hz, hsr⟩ := hv
  have xc : xC p s m _ meth c b_F_faults 2 lwG qR0 (some .int) := ⟨B.exec, B.bytes, hml, findClass_of_methodNamed B.named, fun w h => atoms_spec (ws := (.code y_F_faults b_F_faults 2 (some .int) :: lwG)) B.pre w (List.mem_cons_of_mem _ h), B.returns, B.notSynchronized⟩
  obtain ⟨hx, hb, hml, hown, hts, hr, hlocks⟩ := id xc
  subst hsz
  have hD : va_D (cAA L I F G s.heap.size) (WC L I F G) := hD0.self
  have hA0 : ∀ q : Nat, s.heap.size ≤ q → cAA L I F G s.heap.size q := fun q h => Or.inr h
  generalize cAA L I F G s.heap.size = A at hD hA0 hz ⊢
  have hA := hA0
  have hw : CW L A s.heap I F G s.heap [] := ⟨hP, hD, va_S.rf⟩
  have hl := lv_entry ([.ref (cA L 0), .int a1]) (n := 2) (Nat.le_of_ble_eq_true rfl)
  rw [lg_entry_eq]
  generalize (lg_sl ([.ref (cA L 0), .int a1]) ++ List.replicate (2 - (lg_sl ([.ref (cA L 0), .int a1])).length) Slot.unset).toArray = ls at hl ⊢
  have hl : lv_has ls 2 [(0, .ref (cA L 0)), (1, .int a1)] := hl
  refine lv_aload_n hx hb d_F_faults_0 rfl (lv_at hl 0 rfl) ?_
  refine c_callXv (tx_runV (As := []) (rest := []) ⟨hx, hb, hml, hown, hts⟩ (c_F_needRouted l L hst I F G _ _ _ h) (cwV 0 hts (gV wG521 wG523 wG9 wG48 wG524) rfl rfl rfl (by decide +kernel) ⟨Nat.le_of_ble_eq_true rfl, Nat.le_of_ble_eq_true rfl⟩) (cPrx0 hK hN hw hA hz hsr) rfl rfl hl.1 rfl (lv_room (Nat.le_of_ble_eq_true rfl)) d_F_faults_1 ⟨Nat.le_of_ble_eq_true rfl, Nat.le_of_ble_eq_true rfl⟩) hw hA hK hnt hlocks (Nat.le_of_ble_eq_true rfl) (Nat.le_of_ble_eq_true rfl) (fun I_1 F_1 G_1 H locs h hw => ?_)
  refine lv_aload_n hx hb d_F_faults_4 rfl (lv_at hl 0 rfl) ?_
  refine va_get (D := L.1) (ci := 0) (v := .ref (cA L 3)) (C := qR0) (T := qT0) (N := 5) hx hb hts qi0 hown hK hw.1 0 rfl rfl 2 (by decide) (hts _ wG221) (fun _ h9 => h9) rfl d_F_faults_5 ?_
  refine c_callv (va_runV (As := []) (rest := []) ⟨hx, hb, hml, hown, hts⟩ (c_D_findGroups l L I_1 F_1 G_1 _ _ h) (cwV 0 hts (gV wG546 wG547 wG548 wG52 wG549) rfl rfl rfl (by decide +kernel) ⟨Nat.le_of_ble_eq_true rfl, Nat.le_of_ble_eq_true rfl⟩) (cPrm3 hK hN hw) rfl rfl hl.1 rfl (lv_room (Nat.le_of_ble_eq_true rfl)) d_F_faults_8 ⟨Nat.le_of_ble_eq_true rfl, Nat.le_of_ble_eq_true rfl⟩) hw hA (fun I_2 F_2 G_2 H locs h hw => ?_)
  refine lv_aload_n hx hb d_F_faults_11 rfl (lv_at hl 0 rfl) ?_
  refine va_get (D := L.1) (ci := 0) (v := .ref (cA L 3)) (C := qR0) (T := qT0) (N := 5) hx hb hts qi0 hown hK hw.1 0 rfl rfl 2 (by decide) (hts _ wG221) (fun _ h9 => h9) rfl d_F_faults_12 ?_
  refine c_callv (va_runV (As := []) (rest := []) ⟨hx, hb, hml, hown, hts⟩ (c_D_collectEnds l L I_2 F_2 G_2 _ _ h) (cwV 0 hts (gV wG584 wG585 wG586 wG52 wG587) rfl rfl rfl (by decide +kernel) ⟨Nat.le_of_ble_eq_true rfl, Nat.le_of_ble_eq_true rfl⟩) (cPrm3 hK hN hw) rfl rfl hl.1 rfl (lv_room (Nat.le_of_ble_eq_true rfl)) d_F_faults_15 ⟨Nat.le_of_ble_eq_true rfl, Nat.le_of_ble_eq_true rfl⟩) hw hA (fun I_3 F_3 G_3 H locs h hw => ?_)
  refine lv_iload_n hx hb d_F_faults_18 rfl (lv_at hl 1 rfl) ?_
  refine lv_if_eq (tgt := 32) hx hb d_F_faults_19 (by decide) (fun c_4 => ?_) (fun c_4 => ?_)
  · replace h := h.1 c_4
    refine lv_aload_n hx hb d_F_faults_32 rfl (lv_at hl 0 rfl) ?_
    refine va_get (D := L.1) (ci := 0) (v := .ref (cA L 3)) (C := qR0) (T := qT0) (N := 5) hx hb hts qi0 hown hK hw.1 0 rfl rfl 2 (by decide) (hts _ wG221) (fun _ h9 => h9) rfl d_F_faults_33 ?_
    refine vp_callSi (va_runV (As := []) (rest := []) ⟨hx, hb, hml, hown, hts⟩ (c_D_openNets l L I_3 F_3 G_3 _ h) (cwV 0 hts (gV wG616 wG617 wG618 wG52 wG619) rfl rfl rfl (by decide +kernel) ⟨Nat.le_of_ble_eq_true rfl, Nat.le_of_ble_eq_true rfl⟩) (cPre3 hK hN hw.1) rfl rfl hl.1 rfl (lv_room (Nat.le_of_ble_eq_true rfl)) d_F_faults_36 ⟨Nat.le_of_ble_eq_true rfl, Nat.le_of_ble_eq_true rfl⟩).run (fun r_5 h => ?_)
    refine W.widen (k := 1) (n := 6) (Nat.le_of_ble_eq_true rfl) (Nat.le_of_ble_eq_true rfl) ?_
    refine tx_ret ?_
    exact W.iret hx hb hr (fun t ht hW => ⟨⟨_, (I_3, F_3, G_3), rfl, ⟨_, rfl, h⟩, by rw [ht]; exact hw.1, va_K.moved hW.alike hK, hw.2.1⟩, hw.2.2.F ht⟩) hw.2.2.2.2 d_F_faults_39
  · replace h := h.2 c_4
    refine lv_aload_n hx hb d_F_faults_22 rfl (lv_at hl 0 rfl) ?_
    refine va_get (D := L.1) (ci := 0) (v := .ref (cA L 3)) (C := qR0) (T := qT0) (N := 5) hx hb hts qi0 hown hK hw.1 0 rfl rfl 2 (by decide) (hts _ wG221) (fun _ h9 => h9) rfl d_F_faults_23 ?_
    refine vp_callSi (va_runV (As := []) (rest := []) ⟨hx, hb, hml, hown, hts⟩ (c_D_shortPairs l L I_3 F_3 G_3 _ h) (cwV 0 hts (gV wG598 wG599 wG600 wG52 wG601) rfl rfl rfl (by decide +kernel) ⟨Nat.le_of_ble_eq_true rfl, Nat.le_of_ble_eq_true rfl⟩) (cPre3 hK hN hw.1) rfl rfl hl.1 rfl (lv_room (Nat.le_of_ble_eq_true rfl)) d_F_faults_26 ⟨Nat.le_of_ble_eq_true rfl, Nat.le_of_ble_eq_true rfl⟩).run (fun r_6 h => ?_)
    refine lv_goto (tgt := 39) hx hb d_F_faults_29 (by decide) ?_
    refine W.widen (k := 1) (n := 6) (Nat.le_of_ble_eq_true rfl) (Nat.le_of_ble_eq_true rfl) ?_
    refine tx_ret ?_
    exact W.iret hx hb hr (fun t ht hW => ⟨⟨_, (I_3, F_3, G_3), rfl, ⟨_, rfl, h⟩, by rw [ht]; exact hw.1, va_K.moved hW.alike hK, hw.2.1⟩, hw.2.2.F ht⟩) hw.2.2.2.2 d_F_faults_39
abbrev rm_F_time : Room := { frames := 6, cells := 1, slots := 6, locals := 96 }
set_option maxHeartbeats 4000000 in
set_option maxRecDepth 100000 in
theorem c_F_time (l : Launch) (L : cL) (hst : l.stackTraces = false) (a1 : Int32) (a2 : UInt64) (I : MI) (F : MF) (G : MG) (sz : Nat) (post : UInt64 → MI → MF → MG → Prop) (thr : String → MI → MF → MG → Prop) (h : wp_F_time a1 a2 I F G post thr) : tx_Met l y_F_time (.code y_F_time b_F_time 7 (some .double) :: lwG) rm_F_time (cPx L I F G sz [.ref (cA L 0), .int a1, .double a2]) (cRd L (cAA L I F G sz) post (cAA L I F G sz)) (cX L (cAA L I F G sz) thr (cAA L I F G sz)) 1 6 (cAA L I F G sz) := by
  refine tx_ofW (cc := b_F_time) (maxL := 7) (ret := (some .double)) (by decide) rfl ?_
  intro p e s m args below meth c s₁ B hml hnt hv
  obtain ⟨rfl, hsz, hP, hK, hD0, hN, hz, hsr⟩ := hv
  have xc : xC p s m _ meth c b_F_time 7 lwG qR0 (some .double) := ⟨B.exec, B.bytes, hml, findClass_of_methodNamed B.named, fun w h => atoms_spec (ws := (.code y_F_time b_F_time 7 (some .double) :: lwG)) B.pre w (List.mem_cons_of_mem _ h), B.returns, B.notSynchronized⟩
  obtain ⟨hx, hb, hml, hown, hts, hr, hlocks⟩ := id xc
  subst hsz
  have hD : va_D (cAA L I F G s.heap.size) (WC L I F G) := hD0.self
  have hA0 : ∀ q : Nat, s.heap.size ≤ q → cAA L I F G s.heap.size q := fun q h => Or.inr h
  generalize cAA L I F G s.heap.size = A at hD hA0 hz ⊢
  have hA := hA0
  have hw : CW L A s.heap I F G s.heap [] := ⟨hP, hD, va_S.rf⟩
  have hl := lv_entry ([.ref (cA L 0), .int a1, .double a2]) (n := 7) (Nat.le_of_ble_eq_true rfl)
  rw [lg_entry_eq]
  generalize (lg_sl ([.ref (cA L 0), .int a1, .double a2]) ++ List.replicate (7 - (lg_sl ([.ref (cA L 0), .int a1, .double a2])).length) Slot.unset).toArray = ls at hl ⊢
  have hl : lv_has ls 7 [(0, .ref (cA L 0)), (1, .int a1), (2, .double a2)] := hl
  refine lv_dload_n hx hb d_F_time_0 rfl (lv_at hl 2 rfl) ?_
  refine lv_dconst0 hx hb d_F_time_1 ?_
  refine lv_dcmp hx hb d_F_time_2 ?_
  refine lv_if_lt (tgt := 18) hx hb d_F_time_3 (by decide) (fun c_1 => ?_) (fun c_1 => ?_)
  · replace h := h.1 c_1
    refine lv_iconst (v := 0) hx hb d_F_time_18 (by decide) ?_
    refine lv_istore (lv' := [(4, .int 0), (0, .ref (cA L 0)), (1, .int a1), (2, .double a2)]) hx hb d_F_time_19 hl (by decide) rfl (fun ls hl => ?_)
    refine lv_iload_n hx hb d_F_time_21 rfl (lv_at hl 2 rfl) ?_
    refine lv_iconst (v := 4) hx hb d_F_time_22 (by decide) ?_
    refine vp_callSi (va_runS (As := [.int a1, .int 4]) (rest := []) ⟨hx, hb, hml, hown, hts⟩ (c_F_within l a1 4 _ h) (va_cwS 2 hts (gS wG249 wG250 wG48 wG251) rfl rfl rfl (by decide +kernel) ⟨Nat.le_of_ble_eq_true rfl, Nat.le_of_ble_eq_true rfl⟩) ⟨sPc_blind _, fun U hU hW => ⟨rfl, trivial⟩⟩ rfl rfl hl.1 rfl (lv_room (Nat.le_of_ble_eq_true rfl)) d_F_time_23 ⟨Nat.le_of_ble_eq_true rfl, Nat.le_of_ble_eq_true rfl⟩).run (fun r_2 h => ?_)
    refine lv_if_eq (tgt := 34) hx hb d_F_time_26 (by decide) (fun c_3 => ?_) (fun c_3 => ?_)
    · replace h := h.1 c_3
      obtain ⟨sa, hsa⟩ := hsr.1 (qR0, 160, "no such kind, or a time that is not 0 to 100") (by decide +kernel)
      exact tx_throwS (Ts := lwH) hx hb hst hown (cHts hts hsr.2) hz hw.2.2 (by decide +kernel) (by decide +kernel) th_F_49_53 hsa (hl.1.trans hml.symm) d_F_time_34 d_F_time_37 d_F_time_38 d_F_time_40 d_F_time_43 hnt (Nat.le_of_ble_eq_true rfl) (Nat.le_of_ble_eq_true rfl) (Nat.le_of_ble_eq_true rfl) (Nat.le_of_ble_eq_true rfl) hlocks (cX_of hw hK h) hw.2.2.2.2 (Nat.le_of_ble_eq_true rfl) (Nat.le_of_ble_eq_true rfl)
    · replace h := h.2 c_3
      refine lv_iload hx hb d_F_time_29 (lv_at hl 0 rfl) ?_
      refine lv_if_ne (tgt := 44) hx hb d_F_time_31 (by decide) (fun c_4 => ?_) (fun c_4 => ?_)
      · exact absurd c_4 (by decide)
      · skip
        obtain ⟨sa, hsa⟩ := hsr.1 (qR0, 160, "no such kind, or a time that is not 0 to 100") (by decide +kernel)
        exact tx_throwS (Ts := lwH) hx hb hst hown (cHts hts hsr.2) hz hw.2.2 (by decide +kernel) (by decide +kernel) th_F_49_53 hsa (hl.1.trans hml.symm) d_F_time_34 d_F_time_37 d_F_time_38 d_F_time_40 d_F_time_43 hnt (Nat.le_of_ble_eq_true rfl) (Nat.le_of_ble_eq_true rfl) (Nat.le_of_ble_eq_true rfl) (Nat.le_of_ble_eq_true rfl) hlocks (cX_of hw hK h) hw.2.2.2.2 (Nat.le_of_ble_eq_true rfl) (Nat.le_of_ble_eq_true rfl)
  · replace h := h.2 c_1
    refine lv_dload_n hx hb d_F_time_6 rfl (lv_at hl 2 rfl) ?_
    refine lv_ldc2d (v := 4636737291354636288) hx hb hown (hts _ wG627) d_F_time_7 ?_
    refine lv_dcmp hx hb d_F_time_10 ?_
    refine lv_if_gt (tgt := 18) hx hb d_F_time_11 (by decide) (fun c_5 => ?_) (fun c_5 => ?_)
    · replace h := h.1 c_5
      refine lv_iconst (v := 0) hx hb d_F_time_18 (by decide) ?_
      refine lv_istore (lv' := [(4, .int 0), (0, .ref (cA L 0)), (1, .int a1), (2, .double a2)]) hx hb d_F_time_19 hl (by decide) rfl (fun ls hl => ?_)
      refine lv_iload_n hx hb d_F_time_21 rfl (lv_at hl 2 rfl) ?_
      refine lv_iconst (v := 4) hx hb d_F_time_22 (by decide) ?_
      refine vp_callSi (va_runS (As := [.int a1, .int 4]) (rest := []) ⟨hx, hb, hml, hown, hts⟩ (c_F_within l a1 4 _ h) (va_cwS 2 hts (gS wG249 wG250 wG48 wG251) rfl rfl rfl (by decide +kernel) ⟨Nat.le_of_ble_eq_true rfl, Nat.le_of_ble_eq_true rfl⟩) ⟨sPc_blind _, fun U hU hW => ⟨rfl, trivial⟩⟩ rfl rfl hl.1 rfl (lv_room (Nat.le_of_ble_eq_true rfl)) d_F_time_23 ⟨Nat.le_of_ble_eq_true rfl, Nat.le_of_ble_eq_true rfl⟩).run (fun r_6 h => ?_)
      refine lv_if_eq (tgt := 34) hx hb d_F_time_26 (by decide) (fun c_7 => ?_) (fun c_7 => ?_)
      · replace h := h.1 c_7
        obtain ⟨sa, hsa⟩ := hsr.1 (qR0, 160, "no such kind, or a time that is not 0 to 100") (by decide +kernel)
        exact tx_throwS (Ts := lwH) hx hb hst hown (cHts hts hsr.2) hz hw.2.2 (by decide +kernel) (by decide +kernel) th_F_49_53 hsa (hl.1.trans hml.symm) d_F_time_34 d_F_time_37 d_F_time_38 d_F_time_40 d_F_time_43 hnt (Nat.le_of_ble_eq_true rfl) (Nat.le_of_ble_eq_true rfl) (Nat.le_of_ble_eq_true rfl) (Nat.le_of_ble_eq_true rfl) hlocks (cX_of hw hK h) hw.2.2.2.2 (Nat.le_of_ble_eq_true rfl) (Nat.le_of_ble_eq_true rfl)
      · replace h := h.2 c_7
        refine lv_iload hx hb d_F_time_29 (lv_at hl 0 rfl) ?_
        refine lv_if_ne (tgt := 44) hx hb d_F_time_31 (by decide) (fun c_8 => ?_) (fun c_8 => ?_)
        · exact absurd c_8 (by decide)
        · skip
          obtain ⟨sa, hsa⟩ := hsr.1 (qR0, 160, "no such kind, or a time that is not 0 to 100") (by decide +kernel)
          exact tx_throwS (Ts := lwH) hx hb hst hown (cHts hts hsr.2) hz hw.2.2 (by decide +kernel) (by decide +kernel) th_F_49_53 hsa (hl.1.trans hml.symm) d_F_time_34 d_F_time_37 d_F_time_38 d_F_time_40 d_F_time_43 hnt (Nat.le_of_ble_eq_true rfl) (Nat.le_of_ble_eq_true rfl) (Nat.le_of_ble_eq_true rfl) (Nat.le_of_ble_eq_true rfl) hlocks (cX_of hw hK h) hw.2.2.2.2 (Nat.le_of_ble_eq_true rfl) (Nat.le_of_ble_eq_true rfl)
    · replace h := h.2 c_5
      refine lv_iconst (v := 1) hx hb d_F_time_14 (by decide) ?_
      refine lv_goto (tgt := 19) hx hb d_F_time_15 (by decide) ?_
      refine lv_istore (lv' := [(4, .int 1), (0, .ref (cA L 0)), (1, .int a1), (2, .double a2)]) hx hb d_F_time_19 hl (by decide) rfl (fun ls hl => ?_)
      refine lv_iload_n hx hb d_F_time_21 rfl (lv_at hl 2 rfl) ?_
      refine lv_iconst (v := 4) hx hb d_F_time_22 (by decide) ?_
      refine vp_callSi (va_runS (As := [.int a1, .int 4]) (rest := []) ⟨hx, hb, hml, hown, hts⟩ (c_F_within l a1 4 _ h) (va_cwS 2 hts (gS wG249 wG250 wG48 wG251) rfl rfl rfl (by decide +kernel) ⟨Nat.le_of_ble_eq_true rfl, Nat.le_of_ble_eq_true rfl⟩) ⟨sPc_blind _, fun U hU hW => ⟨rfl, trivial⟩⟩ rfl rfl hl.1 rfl (lv_room (Nat.le_of_ble_eq_true rfl)) d_F_time_23 ⟨Nat.le_of_ble_eq_true rfl, Nat.le_of_ble_eq_true rfl⟩).run (fun r_9 h => ?_)
      refine lv_if_eq (tgt := 34) hx hb d_F_time_26 (by decide) (fun c_10 => ?_) (fun c_10 => ?_)
      · replace h := h.1 c_10
        obtain ⟨sa, hsa⟩ := hsr.1 (qR0, 160, "no such kind, or a time that is not 0 to 100") (by decide +kernel)
        exact tx_throwS (Ts := lwH) hx hb hst hown (cHts hts hsr.2) hz hw.2.2 (by decide +kernel) (by decide +kernel) th_F_49_53 hsa (hl.1.trans hml.symm) d_F_time_34 d_F_time_37 d_F_time_38 d_F_time_40 d_F_time_43 hnt (Nat.le_of_ble_eq_true rfl) (Nat.le_of_ble_eq_true rfl) (Nat.le_of_ble_eq_true rfl) (Nat.le_of_ble_eq_true rfl) hlocks (cX_of hw hK h) hw.2.2.2.2 (Nat.le_of_ble_eq_true rfl) (Nat.le_of_ble_eq_true rfl)
      · replace h := h.2 c_10
        refine lv_iload hx hb d_F_time_29 (lv_at hl 0 rfl) ?_
        refine lv_if_ne (tgt := 44) hx hb d_F_time_31 (by decide) (fun c_11 => ?_) (fun c_11 => ?_)
        · skip
          refine lv_aload_n hx hb d_F_time_44 rfl (lv_at hl 1 rfl) ?_
          refine va_get (D := L.1) (ci := 0) (v := .ref (cA L 4)) (C := qR0) (T := qT0) (N := 5) hx hb hts qi0 hown hK hw.1 0 rfl rfl 3 (by decide) (hts _ wG222) (fun _ h9 => h9) rfl d_F_time_45 ?_
          refine va_get (D := L.1) (ci := 4) (v := .ref (cA L 8)) (C := qR4) (T := qT4) (N := 7) hx hb hts qi4 hown hK hw.1 4 rfl rfl 2 (by decide) (hts _ wG198) (fun _ h9 => h9) rfl d_F_time_48 ?_
          refine lv_iload_n hx hb d_F_time_51 rfl (lv_at hl 2 rfl) ?_
          obtain ⟨hi_12, h⟩ := h
          refine c_dald hx hb hK hw.1 0 rfl hi_12 d_F_time_52 ?_
          refine lv_topd (fun x_13 ex_13 => ?_)
          replace h := h x_13 ex_13
          refine lv_dstore (lv' := [(5, .double x_13), (4, .int 1), (0, .ref (cA L 0)), (1, .int a1), (2, .double a2)]) hx hb d_F_time_53 hl (by decide) rfl (fun ls hl => ?_)
          refine lv_aload_n hx hb d_F_time_55 rfl (lv_at hl 2 rfl) ?_
          refine va_get (D := L.1) (ci := 0) (v := .ref (cA L 4)) (C := qR0) (T := qT0) (N := 5) hx hb hts qi0 hown hK hw.1 0 rfl rfl 3 (by decide) (hts _ wG222) (fun _ h9 => h9) rfl d_F_time_56 ?_
          refine va_get (D := L.1) (ci := 4) (v := .ref (cA L 8)) (C := qR4) (T := qT4) (N := 7) hx hb hts qi4 hown hK hw.1 4 rfl rfl 2 (by decide) (hts _ wG198) (fun _ h9 => h9) rfl d_F_time_59 ?_
          refine lv_iload_n hx hb d_F_time_62 rfl (lv_at hl 3 rfl) ?_
          refine lv_dload_n hx hb d_F_time_63 rfl (lv_at hl 4 rfl) ?_
          obtain ⟨hi_14, h⟩ := h
          refine c_dast hx hb hK hw 0 rfl (fun _ => rfl) hi_14 d_F_time_64 (fun H locs hw => ?_)
          obtain ⟨G_15, eG_15⟩ : ∃ y : MG, y = setG G 0 (vf_upd (G 0) a1.toNatClampNeg a2) := ⟨_, rfl⟩
          rw [← eG_15] at hw
          replace h := h G_15 eG_15
          refine lv_dload hx hb d_F_time_65 (lv_at hl 0 rfl) ?_
          refine W.widen (k := 1) (n := 6) (Nat.le_of_ble_eq_true rfl) (Nat.le_of_ble_eq_true rfl) ?_
          refine tx_ret ?_
          exact W.dret hx hb hr (fun t ht hW => ⟨⟨_, (I, F, G_15), rfl, ⟨_, rfl, h⟩, by rw [ht]; exact hw.1, va_K.moved hW.alike hK, hw.2.1⟩, hw.2.2.F ht⟩) hw.2.2.2.2 d_F_time_67
        · exact absurd c_11 (by decide)
abbrev rm_C_wireDelay : Room := { frames := 5, cells := 0, slots := 0, locals := 108 }
set_option maxHeartbeats 4000000 in
set_option maxRecDepth 100000 in
theorem c_C_wireDelay (l : Launch) (L : cL) (a1 : Int32) (I : MI) (F : MF) (G : MG) (post : UInt64 → Prop) (h : wp_C_wireDelay a1 I F G post) : Met l y_C_wireDelay (.code y_C_wireDelay b_C_wireDelay 4 (some .double) :: lwG) rm_C_wireDelay (cPc L I F G [.ref (cA L 2), .int a1]) (vp_Sd post) 0 0 (fun _ => False) := by
  refine Met.ofW (cc := b_C_wireDelay) (maxL := 4) (ret := (some .double)) (by decide) rfl ?_
  intro p e s m args below meth c s₁ B hml hv
  obtain ⟨rfl, hP, hK, hN⟩ := hv
  have xc : xC p s m _ meth c b_C_wireDelay 4 lwG qR2 (some .double) := ⟨B.exec, B.bytes, hml, findClass_of_methodNamed B.named, fun w h => atoms_spec (ws := (.code y_C_wireDelay b_C_wireDelay 4 (some .double) :: lwG)) B.pre w (List.mem_cons_of_mem _ h), B.returns, B.notSynchronized⟩
  obtain ⟨hx, hb, hml, hown, hts, hr, hlocks⟩ := id xc
  have hl := lv_entry ([.ref (cA L 2), .int a1]) (n := 4) (Nat.le_of_ble_eq_true rfl)
  rw [lg_entry_eq]
  generalize (lg_sl ([.ref (cA L 2), .int a1]) ++ List.replicate (4 - (lg_sl ([.ref (cA L 2), .int a1])).length) Slot.unset).toArray = ls at hl ⊢
  have hl : lv_has ls 4 [(0, .ref (cA L 2)), (1, .int a1)] := hl
  refine lv_aload_n hx hb d_C_wireDelay_0 rfl (lv_at hl 0 rfl) ?_
  refine va_get (D := L.1) (ci := 2) (v := .ref (cA L 20)) (C := qR2) (T := qT2) (N := 3) hx hb hts qi2 hown hK hP 2 rfl rfl 2 (by decide) (hts _ wG149) (fun _ h9 => h9) rfl d_C_wireDelay_1 ?_
  refine lv_iload_n hx hb d_C_wireDelay_4 rfl (lv_at hl 1 rfl) ?_
  obtain ⟨hi_1, h⟩ := h
  refine c_iald hx hb hK hP 10 (by decide) rfl hi_1 d_C_wireDelay_5 ?_
  refine lv_if_ne (tgt := 11) hx hb d_C_wireDelay_6 (by decide) (fun c_2 => ?_) (fun c_2 => ?_)
  · replace h := h.1 c_2
    refine lv_aload_n hx hb d_C_wireDelay_11 rfl (lv_at hl 0 rfl) ?_
    refine lv_iload_n hx hb d_C_wireDelay_12 rfl (lv_at hl 1 rfl) ?_
    refine vp_callSi (va_runV (As := [.int a1]) (rest := []) ⟨hx, hb, hml, hown, hts⟩ (c_C_wireLength l L a1 I F G _ h) (cwV 1 hts (gV wG640 wG506 wG507 wG51 wG508) rfl rfl rfl (by decide +kernel) ⟨Nat.le_of_ble_eq_true rfl, Nat.le_of_ble_eq_true rfl⟩) (cPre2 hK hN hP) rfl rfl hl.1 rfl (lv_room (Nat.le_of_ble_eq_true rfl)) d_C_wireDelay_13 ⟨Nat.le_of_ble_eq_true rfl, Nat.le_of_ble_eq_true rfl⟩).run (fun r_3 h => ?_)
    refine lv_i2d hx hb d_C_wireDelay_16 ?_
    refine lv_topd (fun x_4 ex_4 => ?_)
    replace h := h x_4 ex_4
    refine lv_dstore_n (lv' := [(2, .double x_4), (0, .ref (cA L 2)), (1, .int a1)]) hx hb d_C_wireDelay_17 rfl hl (by decide) rfl (fun ls hl => ?_)
    refine lv_ldc2d (v := 4598175219545276416) hx hb hown (hts _ wG641) d_C_wireDelay_18 ?_
    refine lv_dload_n hx hb d_C_wireDelay_21 rfl (lv_at hl 0 rfl) ?_
    obtain ⟨hn_5, h⟩ := h
    refine lv_dmul hx hb d_C_wireDelay_22 hn_5 ?_
    refine lv_ldc2d (v := 4602678819172646912) hx hb hown (hts _ wG642) d_C_wireDelay_23 ?_
    refine lv_dload_n hx hb d_C_wireDelay_26 rfl (lv_at hl 0 rfl) ?_
    obtain ⟨hn_6, h⟩ := h
    refine lv_dmul hx hb d_C_wireDelay_27 hn_6 ?_
    refine lv_aload_n hx hb d_C_wireDelay_28 rfl (lv_at hl 1 rfl) ?_
    refine va_get (D := L.1) (ci := 2) (v := .ref (cA L 1)) (C := qR2) (T := qT2) (N := 3) hx hb hts qi2 hown hK hP 2 rfl rfl 0 (by decide) (hts _ wG145) (fun _ h9 => h9) rfl d_C_wireDelay_29 ?_
    refine lv_iload_n hx hb d_C_wireDelay_32 rfl (lv_at hl 2 rfl) ?_
    refine vp_callSi (va_runV (As := [.int a1]) (rest := [.double (FP.dmul 4602678819172646912 x_4), .double (FP.dmul 4598175219545276416 x_4)]) ⟨hx, hb, hml, hown, hts⟩ (c_N_pins l L a1 I F G _ h) (cwV 1 hts (gV wG643 wG390 wG391 wG49 wG392) rfl rfl rfl (by decide +kernel) ⟨Nat.le_of_ble_eq_true rfl, Nat.le_of_ble_eq_true rfl⟩) (cPre1 hK hN hP) rfl rfl hl.1 rfl (lv_room (Nat.le_of_ble_eq_true rfl)) d_C_wireDelay_33 ⟨Nat.le_of_ble_eq_true rfl, Nat.le_of_ble_eq_true rfl⟩).run (fun r_7 h => ?_)
    refine lv_i2d hx hb d_C_wireDelay_36 ?_
    obtain ⟨hn_8, h⟩ := h
    refine lv_dadd hx hb d_C_wireDelay_37 hn_8 ?_
    obtain ⟨hn_9, h⟩ := h
    refine lv_dmul hx hb d_C_wireDelay_38 hn_9 ?_
    exact W.dret hx hb hr (fun t ht _ => ⟨_, rfl, h, ht⟩) (fun _ h9 => nomatch h9) d_C_wireDelay_39
  · replace h := h.2 c_2
    refine lv_dconst0 hx hb d_C_wireDelay_9 ?_
    exact W.dret hx hb hr (fun t ht _ => ⟨_, rfl, h, ht⟩) (fun _ h9 => nomatch h9) d_C_wireDelay_10
abbrev rm_F_delay : Room := { frames := 7, cells := 2, slots := 12, locals := 131 }
set_option maxHeartbeats 4000000 in
set_option maxRecDepth 100000 in
theorem c_F_delay (l : Launch) (L : cL) (hst : l.stackTraces = false) (a1 : Int32) (I : MI) (F : MF) (G : MG) (sz : Nat) (post : UInt64 → MI → MF → MG → Prop) (thr : String → MI → MF → MG → Prop) (h : wp_F_delay a1 I F G post thr) : tx_Met l y_F_delay (.code y_F_delay b_F_delay 2 (some .double) :: lwG) rm_F_delay (cPx L I F G sz [.ref (cA L 0), .int a1]) (cRd L (cAA L I F G sz) post (cAA L I F G sz)) (cX L (cAA L I F G sz) thr (cAA L I F G sz)) 2 12 (cAA L I F G sz) := by
  refine tx_ofW (cc := b_F_delay) (maxL := 2) (ret := (some .double)) (by decide) rfl ?_
  intro p e s m args below meth c s₁ B hml hnt hv
  obtain ⟨rfl, hsz, hP, hK, hD0, hN, hz, hsr⟩ := hv
  have xc : xC p s m _ meth c b_F_delay 2 lwG qR0 (some .double) := ⟨B.exec, B.bytes, hml, findClass_of_methodNamed B.named, fun w h => atoms_spec (ws := (.code y_F_delay b_F_delay 2 (some .double) :: lwG)) B.pre w (List.mem_cons_of_mem _ h), B.returns, B.notSynchronized⟩
  obtain ⟨hx, hb, hml, hown, hts, hr, hlocks⟩ := id xc
  subst hsz
  have hD : va_D (cAA L I F G s.heap.size) (WC L I F G) := hD0.self
  have hA0 : ∀ q : Nat, s.heap.size ≤ q → cAA L I F G s.heap.size q := fun q h => Or.inr h
  generalize cAA L I F G s.heap.size = A at hD hA0 hz ⊢
  have hA := hA0
  have hw : CW L A s.heap I F G s.heap [] := ⟨hP, hD, va_S.rf⟩
  have hl := lv_entry ([.ref (cA L 0), .int a1]) (n := 2) (Nat.le_of_ble_eq_true rfl)
  rw [lg_entry_eq]
  generalize (lg_sl ([.ref (cA L 0), .int a1]) ++ List.replicate (2 - (lg_sl ([.ref (cA L 0), .int a1])).length) Slot.unset).toArray = ls at hl ⊢
  have hl : lv_has ls 2 [(0, .ref (cA L 0)), (1, .int a1)] := hl
  refine lv_aload_n hx hb d_F_delay_0 rfl (lv_at hl 0 rfl) ?_
  refine lv_iload_n hx hb d_F_delay_1 rfl (lv_at hl 1 rfl) ?_
  refine c_callXv (tx_runV (As := [.int a1]) (rest := []) ⟨hx, hb, hml, hown, hts⟩ (c_F_needNet l L hst a1 I F G _ _ _ h) (cwV 1 hts (gV wG496 wG498 wG7 wG48 wG499) rfl rfl rfl (by decide +kernel) ⟨Nat.le_of_ble_eq_true rfl, Nat.le_of_ble_eq_true rfl⟩) (cPrx0 hK hN hw hA hz hsr) rfl rfl hl.1 rfl (lv_room (Nat.le_of_ble_eq_true rfl)) d_F_delay_2 ⟨Nat.le_of_ble_eq_true rfl, Nat.le_of_ble_eq_true rfl⟩) hw hA hK hnt hlocks (Nat.le_of_ble_eq_true rfl) (Nat.le_of_ble_eq_true rfl) (fun I_1 F_1 G_1 H locs h hw => ?_)
  refine lv_aload_n hx hb d_F_delay_5 rfl (lv_at hl 0 rfl) ?_
  refine c_callXv (tx_runV (As := []) (rest := []) ⟨hx, hb, hml, hown, hts⟩ (c_F_needRouted l L hst I_1 F_1 G_1 _ _ _ h) (cwV 0 hts (gV wG521 wG523 wG9 wG48 wG524) rfl rfl rfl (by decide +kernel) ⟨Nat.le_of_ble_eq_true rfl, Nat.le_of_ble_eq_true rfl⟩) (cPrx0 hK hN hw hA hz hsr) rfl rfl hl.1 rfl (lv_room (Nat.le_of_ble_eq_true rfl)) d_F_delay_6 ⟨Nat.le_of_ble_eq_true rfl, Nat.le_of_ble_eq_true rfl⟩) hw hA hK hnt hlocks (Nat.le_of_ble_eq_true rfl) (Nat.le_of_ble_eq_true rfl) (fun I_2 F_2 G_2 H locs h hw => ?_)
  refine lv_aload_n hx hb d_F_delay_9 rfl (lv_at hl 0 rfl) ?_
  refine va_get (D := L.1) (ci := 0) (v := .ref (cA L 2)) (C := qR0) (T := qT0) (N := 5) hx hb hts qi0 hown hK hw.1 0 rfl rfl 1 (by decide) (hts _ wG220) (fun _ h9 => h9) rfl d_F_delay_10 ?_
  refine lv_iload_n hx hb d_F_delay_13 rfl (lv_at hl 1 rfl) ?_
  refine vp_callSd (va_runV (As := [.int a1]) (rest := []) ⟨hx, hb, hml, hown, hts⟩ (c_C_wireDelay l L a1 I_2 F_2 G_2 _ h) (cwV 1 hts (gV wG636 wG637 wG638 wG51 wG639) rfl rfl rfl (by decide +kernel) ⟨Nat.le_of_ble_eq_true rfl, Nat.le_of_ble_eq_true rfl⟩) (cPre2 hK hN hw.1) rfl rfl hl.1 rfl (lv_room (Nat.le_of_ble_eq_true rfl)) d_F_delay_14 ⟨Nat.le_of_ble_eq_true rfl, Nat.le_of_ble_eq_true rfl⟩).run (fun r_3 h => ?_)
  refine W.widen (k := 2) (n := 12) (Nat.le_of_ble_eq_true rfl) (Nat.le_of_ble_eq_true rfl) ?_
  refine tx_ret ?_
  exact W.dret hx hb hr (fun t ht hW => ⟨⟨_, (I_2, F_2, G_2), rfl, ⟨_, rfl, h⟩, by rw [ht]; exact hw.1, va_K.moved hW.alike hK, hw.2.1⟩, hw.2.2.F ht⟩) hw.2.2.2.2 d_F_delay_17
