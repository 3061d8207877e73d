abbrev rm_M_pins : Room := { frames := 2, cells := 0, slots := 0, locals := 43 }
set_option maxHeartbeats 4000000 in
set_option maxRecDepth 100000 in
theorem Wl_M_pins_15 {p : Program} {l : Launch} {e : Env} {s : State} {m : MethodId} {args : Array Value} {below : List Frame} {meth : Method} {c : Code} {L : cL} {I : MI} {F : MF} {G : MG} {post : Int32 → Prop} {K : Int32 → Int32 → Prop} {a1 : Int32} {a3 : Int32} (xc : xC p s m args meth c b_M_pins 5 lwG qR5 (some .int)) (hP : va_P L.1 vwCl (WM L I F G) s.heap) (hK : va_K L.1 vwCl (mTys L) s) (hN : mNk s)
    (hk : ∀ (a2 : Int32) (a4 : Int32) (ls : Array Slot), K a2 a4 → lv_has ls 5 [(0, .ref (cA L 0)), (1, .int a1), (2, .int a2), (3, .int a3), (4, .int a4)] → W p l e rm_M_pins s m args below meth c s.heap [] 0 0 (MQ below (vp_Si post) args s 0 0 (fun _ => False)) (F0 m 45 ls [])) :
    ∀ (n : Nat) (a2 : Int32) (a4 : Int32) (ls : Array Slot), wl_M_pins_15 post K a1 a3 I F G n a2 a4 → lv_has ls 5 [(0, .ref (cA L 0)), (1, .int a1), (2, .int a2), (3, .int a3), (4, .int a4)] → W p l e rm_M_pins s m args below meth c s.heap [] 0 0 (MQ below (vp_Si post) args s 0 0 (fun _ => False)) (F0 m 15 ls []) := by
  obtain ⟨hx, hb, hml, hown, hts, hr, hlocks⟩ := id xc
  intro n
  induction n with
  | zero => intro a2 a4 ls h; exact absurd h id
  | succ n ih =>
    intro a2 a4 ls h hl
    refine lv_iload hx hb d_M_pins_15 (lv_at hl 4 rfl) ?_
    refine lv_aload_n hx hb d_M_pins_17 rfl (lv_at hl 0 rfl) ?_
    refine lv_iload_n hx hb d_M_pins_18 rfl (lv_at hl 3 rfl) ?_
    refine vp_callSi (va_runV (As := [.int a3]) (rest := [.int a4]) ⟨hx, hb, hml, hown, hts⟩ (c_M_pinsOf l L a3 I F G _ h) (cwV 1 hts (gV wG821 wG823 wG25 wG54 wG824) rfl rfl rfl (by decide +kernel) ⟨Nat.le_of_ble_eq_true rfl, Nat.le_of_ble_eq_true rfl⟩) (mPre hK hN hP) rfl rfl hl.1 rfl (lv_room (Nat.le_of_ble_eq_true rfl)) d_M_pins_19 ⟨Nat.le_of_ble_eq_true rfl, Nat.le_of_ble_eq_true rfl⟩).run (fun r_2 h => ?_)
    refine lv_icmp_ge (tgt := 45) hx hb d_M_pins_22 (by decide) (fun c_3 => ?_) (fun c_3 => ?_)
    · replace h := h.1 c_3
      exact hk a2 a4 ls h (lv_sub hl [0, 1, 2, 3, 4] rfl)
    · replace h := h.2 c_3
      refine lv_aload_n hx hb d_M_pins_25 rfl (lv_at hl 0 rfl) ?_
      refine lv_iload_n hx hb d_M_pins_26 rfl (lv_at hl 3 rfl) ?_
      refine lv_iload hx hb d_M_pins_27 (lv_at hl 4 rfl) ?_
      refine vp_callSi (va_runV (As := [.int a3, .int a4]) (rest := []) ⟨hx, hb, hml, hown, hts⟩ (c_M_netOf l L a3 a4 I F G _ h) (cwV 2 hts (gV wG825 wG827 wG26 wG54 wG828) rfl rfl rfl (by decide +kernel) ⟨Nat.le_of_ble_eq_true rfl, Nat.le_of_ble_eq_true rfl⟩) (mPre hK hN hP) rfl rfl hl.1 rfl (lv_room (Nat.le_of_ble_eq_true rfl)) d_M_pins_29 ⟨Nat.le_of_ble_eq_true rfl, Nat.le_of_ble_eq_true rfl⟩).run (fun r_4 h => ?_)
      refine lv_iload_n hx hb d_M_pins_32 rfl (lv_at hl 1 rfl) ?_
      refine lv_icmp_ne (tgt := 39) hx hb d_M_pins_33 (by decide) (fun c_5 => ?_) (fun c_5 => ?_)
      · replace h := h.1 c_5
        obtain ⟨x_6, ex_6⟩ : ∃ y : Int32, y = a4 + 1 := ⟨_, rfl⟩
        replace h := h x_6 ex_6
        refine lv_iinc (v := x_6) (lv' := [(4, .int x_6), (0, .ref (cA L 0)), (1, .int a1), (2, .int a2), (3, .int a3)]) hx hb d_M_pins_39 hl (k := 4) rfl (by rw [ex_6]; rfl) (by decide) rfl (fun ls hl => ?_)
        refine lv_goto (tgt := 15) hx hb d_M_pins_42 (by decide) ?_
        exact ih a2 x_6 ls h (lv_sub hl [1, 2, 3, 4, 0] rfl)
      · replace h := h.2 c_5
        obtain ⟨x_7, ex_7⟩ : ∃ y : Int32, y = a2 + 1 := ⟨_, rfl⟩
        replace h := h x_7 ex_7
        refine lv_iinc (v := x_7) (lv' := [(2, .int x_7), (0, .ref (cA L 0)), (1, .int a1), (3, .int a3), (4, .int a4)]) hx hb d_M_pins_36 hl (k := 2) rfl (by rw [ex_7]; rfl) (by decide) rfl (fun ls hl => ?_)
        obtain ⟨x_8, ex_8⟩ : ∃ y : Int32, y = a4 + 1 := ⟨_, rfl⟩
        replace h := h x_8 ex_8
        refine lv_iinc (v := x_8) (lv' := [(4, .int x_8), (2, .int x_7), (0, .ref (cA L 0)), (1, .int a1), (3, .int a3)]) hx hb d_M_pins_39 hl (k := 4) rfl (by rw [ex_8]; rfl) (by decide) rfl (fun ls hl => ?_)
        refine lv_goto (tgt := 15) hx hb d_M_pins_42 (by decide) ?_
        exact ih x_7 x_8 ls h (lv_sub hl [2, 3, 1, 4, 0] rfl)
set_option maxHeartbeats 4000000 in
set_option maxRecDepth 100000 in
theorem Wl_M_pins_4 {p : Program} {l : Launch} {e : Env} {s : State} {m : MethodId} {args : Array Value} {below : List Frame} {meth : Method} {c : Code} {L : cL} {I : MI} {F : MF} {G : MG} {post : Int32 → Prop} {K : Int32 → Int32 → Prop} {a1 : Int32} (xc : xC p s m args meth c b_M_pins 5 lwG qR5 (some .int)) (hP : va_P L.1 vwCl (WM L I F G) s.heap) (hK : va_K L.1 vwCl (mTys L) s) (hN : mNk s)
    (hk : ∀ (a2 : Int32) (a3 : Int32) (ls : Array Slot), K a2 a3 → lv_has ls 5 [(0, .ref (cA L 0)), (1, .int a1), (2, .int a2), (3, .int a3)] → W p l e rm_M_pins s m args below meth c s.heap [] 0 0 (MQ below (vp_Si post) args s 0 0 (fun _ => False)) (F0 m 51 ls [])) :
    ∀ (n : Nat) (a2 : Int32) (a3 : Int32) (ls : Array Slot), wl_M_pins_4 post K a1 I F G n a2 a3 → lv_has ls 5 [(0, .ref (cA L 0)), (1, .int a1), (2, .int a2), (3, .int a3)] → W p l e rm_M_pins s m args below meth c s.heap [] 0 0 (MQ below (vp_Si post) args s 0 0 (fun _ => False)) (F0 m 4 ls []) := by
  obtain ⟨hx, hb, hml, hown, hts, hr, hlocks⟩ := id xc
  intro n
  induction n with
  | zero => intro a2 a3 ls h; exact absurd h id
  | succ n ih =>
    intro a2 a3 ls h hl
    refine lv_iload_n hx hb d_M_pins_4 rfl (lv_at hl 3 rfl) ?_
    refine lv_aload_n hx hb d_M_pins_5 rfl (lv_at hl 0 rfl) ?_
    refine va_get (D := L.1) (ci := 5) (v := .int (I 1)) (C := qR5) (T := qT5) (N := 16) hx hb hts qi5 hown hK hP 0 rfl rfl 1 (by decide) (hts _ wG733) (fun _ h9 => h9) rfl d_M_pins_6 ?_
    refine lv_icmp_ge (tgt := 51) hx hb d_M_pins_9 (by decide) (fun c_1 => ?_) (fun c_1 => ?_)
    · replace h := h.1 c_1
      exact hk a2 a3 ls h (lv_sub hl [0, 1, 2, 3] rfl)
    · replace h := h.2 c_1
      refine lv_iconst (v := 0) hx hb d_M_pins_12 (by decide) ?_
      refine lv_istore (lv' := [(4, .int 0), (0, .ref (cA L 0)), (1, .int a1), (2, .int a2), (3, .int a3)]) hx hb d_M_pins_13 hl (by decide) rfl (fun ls hl => ?_)
      obtain ⟨n_12, h⟩ := h
      refine Wl_M_pins_15 xc hP hK hN (hk := fun x_9 x_10 ls h hl => ?_) n_12 a2 0 ls h (lv_sub hl [1, 2, 3, 4, 0] rfl)
      obtain ⟨x_11, ex_11⟩ : ∃ y : Int32, y = a3 + 1 := ⟨_, rfl⟩
      replace h := h x_11 ex_11
      refine lv_iinc (v := x_11) (lv' := [(3, .int x_11), (0, .ref (cA L 0)), (1, .int a1), (2, .int x_9), (4, .int x_10)]) hx hb d_M_pins_45 hl (k := 3) rfl (by rw [ex_11]; rfl) (by decide) rfl (fun ls hl => ?_)
      refine lv_goto (tgt := 4) hx hb d_M_pins_48 (by decide) ?_
      exact ih x_9 x_11 ls h (lv_sub hl [1, 2, 3, 0] rfl)
set_option maxHeartbeats 4000000 in
set_option maxRecDepth 100000 in
theorem c_M_pins (l : Launch) (L : cL) (a1 : Int32) (I : MI) (F : MF) (G : MG) (post : Int32 → Prop) (h : wp_M_pins a1 I F G post) : Met l y_M_pins (.code y_M_pins b_M_pins 5 (some .int) :: lwG) rm_M_pins (mPc L I F G [.ref (cA L 0), .int a1]) (vp_Si post) 0 0 (fun _ => False) := by
  refine Met.ofW (cc := b_M_pins) (maxL := 5) (ret := (some .int)) (by decide) rfl ?_
  intro p e s m args below meth c s₁ B hml hv
  obtain ⟨rfl, hP, hK, hN⟩ := hv
  have xc : xC p s m _ meth c b_M_pins 5 lwG qR5 (some .int) := ⟨B.exec, B.bytes, hml, findClass_of_methodNamed B.named, fun w h => atoms_spec (ws := (.code y_M_pins b_M_pins 5 (some .int) :: lwG)) B.pre w (List.mem_cons_of_mem _ h), B.returns, B.notSynchronized⟩
  obtain ⟨hx, hb, hml, hown, hts, hr, hlocks⟩ := id xc
  have hl := lv_entry ([.ref (cA L 0), .int a1]) (n := 5) (Nat.le_of_ble_eq_true rfl)
  rw [lg_entry_eq]
  generalize (lg_sl ([.ref (cA L 0), .int a1]) ++ List.replicate (5 - (lg_sl ([.ref (cA L 0), .int a1])).length) Slot.unset).toArray = ls at hl ⊢
  have hl : lv_has ls 5 [(0, .ref (cA L 0)), (1, .int a1)] := hl
  refine lv_iconst (v := 0) hx hb d_M_pins_0 (by decide) ?_
  refine lv_istore_n (lv' := [(2, .int 0), (0, .ref (cA L 0)), (1, .int a1)]) hx hb d_M_pins_1 rfl hl (by decide) rfl (fun ls hl => ?_)
  refine lv_iconst (v := 0) hx hb d_M_pins_2 (by decide) ?_
  refine lv_istore_n (lv' := [(3, .int 0), (2, .int 0), (0, .ref (cA L 0)), (1, .int a1)]) hx hb d_M_pins_3 rfl hl (by decide) rfl (fun ls hl => ?_)
  obtain ⟨n_15, h⟩ := h
  refine Wl_M_pins_4 xc hP hK hN (hk := fun x_13 x_14 ls h hl => ?_) n_15 0 0 ls h (lv_sub hl [2, 3, 1, 0] rfl)
  refine lv_iload_n hx hb d_M_pins_51 rfl (lv_at hl 2 rfl) ?_
  exact W.iret hx hb hr (fun t ht _ => ⟨_, rfl, h, ht⟩) (fun _ h9 => nomatch h9) d_M_pins_52
abbrev rm_M_hasPad : Room := { frames := 3, cells := 0, slots := 0, locals := 67 }
set_option maxHeartbeats 4000000 in
set_option maxRecDepth 100000 in
theorem c_M_hasPad (l : Launch) (L : cL) (a1 : Int32) (I : MI) (F : MF) (G : MG) (post : Int32 → Prop) (h : wp_M_hasPad a1 I F G post) : Met l y_M_hasPad (.code y_M_hasPad b_M_hasPad 2 (some .boolean) :: lwG) rm_M_hasPad (mPc L I F G [.ref (cA L 0), .int a1]) (vp_Si post) 0 0 (fun _ => False) := by
  refine Met.ofW (cc := b_M_hasPad) (maxL := 2) (ret := (some .boolean)) (by decide) rfl ?_
  intro p e s m args below meth c s₁ B hml hv
  obtain ⟨rfl, hP, hK, hN⟩ := hv
  have xc : xC p s m _ meth c b_M_hasPad 2 lwG qR5 (some .boolean) := ⟨B.exec, B.bytes, hml, findClass_of_methodNamed B.named, fun w h => atoms_spec (ws := (.code y_M_hasPad b_M_hasPad 2 (some .boolean) :: lwG)) B.pre w (List.mem_cons_of_mem _ h), B.returns, B.notSynchronized⟩
  obtain ⟨hx, hb, hml, hown, hts, hr, hlocks⟩ := id xc
  have hl := lv_entry ([.ref (cA L 0), .int a1]) (n := 2) (Nat.le_of_ble_eq_true rfl)
  rw [lg_entry_eq]
  generalize (lg_sl ([.ref (cA L 0), .int a1]) ++ List.replicate (2 - (lg_sl ([.ref (cA L 0), .int a1])).length) Slot.unset).toArray = ls at hl ⊢
  have hl : lv_has ls 2 [(0, .ref (cA L 0)), (1, .int a1)] := hl
  refine lv_aload_n hx hb d_M_hasPad_0 rfl (lv_at hl 0 rfl) ?_
  refine lv_iload_n hx hb d_M_hasPad_1 rfl (lv_at hl 1 rfl) ?_
  refine vp_callSi (va_runV (As := [.int a1]) (rest := []) ⟨hx, hb, hml, hown, hts⟩ (c_M_driver l L a1 I F G _ h) (cwV 1 hts (gV wG797 wG799 wG21 wG54 wG800) rfl rfl rfl (by decide +kernel) ⟨Nat.le_of_ble_eq_true rfl, Nat.le_of_ble_eq_true rfl⟩) (mPre hK hN hP) rfl rfl hl.1 rfl (lv_room (Nat.le_of_ble_eq_true rfl)) d_M_hasPad_2 ⟨Nat.le_of_ble_eq_true rfl, Nat.le_of_ble_eq_true rfl⟩).run (fun r_1 h => ?_)
  refine lv_iconst (v := (-1)) hx hb d_M_hasPad_5 (by decide) ?_
  refine lv_icmp_ne (tgt := 21) hx hb d_M_hasPad_6 (by decide) (fun c_2 => ?_) (fun c_2 => ?_)
  · replace h := h.1 c_2
    refine lv_iconst (v := 0) hx hb d_M_hasPad_21 (by decide) ?_
    exact W.zret hx hb hr rfl (fun t ht _ => ⟨_, rfl, h, ht⟩) (fun _ h9 => nomatch h9) d_M_hasPad_22
  · replace h := h.2 c_2
    refine lv_aload_n hx hb d_M_hasPad_9 rfl (lv_at hl 0 rfl) ?_
    refine lv_iload_n hx hb d_M_hasPad_10 rfl (lv_at hl 1 rfl) ?_
    refine vp_callSi (va_runV (As := [.int a1]) (rest := []) ⟨hx, hb, hml, hown, hts⟩ (c_M_pins l L a1 I F G _ h) (cwV 1 hts (gV wG817 wG819 wG24 wG54 wG820) rfl rfl rfl (by decide +kernel) ⟨Nat.le_of_ble_eq_true rfl, Nat.le_of_ble_eq_true rfl⟩) (mPre hK hN hP) rfl rfl hl.1 rfl (lv_room (Nat.le_of_ble_eq_true rfl)) d_M_hasPad_11 ⟨Nat.le_of_ble_eq_true rfl, Nat.le_of_ble_eq_true rfl⟩).run (fun r_3 h => ?_)
    refine lv_if_le (tgt := 21) hx hb d_M_hasPad_14 (by decide) (fun c_4 => ?_) (fun c_4 => ?_)
    · replace h := h.1 c_4
      refine lv_iconst (v := 0) hx hb d_M_hasPad_21 (by decide) ?_
      exact W.zret hx hb hr rfl (fun t ht _ => ⟨_, rfl, h, ht⟩) (fun _ h9 => nomatch h9) d_M_hasPad_22
    · replace h := h.2 c_4
      refine lv_iconst (v := 1) hx hb d_M_hasPad_17 (by decide) ?_
      refine lv_goto (tgt := 22) hx hb d_M_hasPad_18 (by decide) ?_
      exact W.zret hx hb hr rfl (fun t ht _ => ⟨_, rfl, h, ht⟩) (fun _ h9 => nomatch h9) d_M_hasPad_22
abbrev rm_M_isWired : Room := { frames := 4, cells := 0, slots := 0, locals := 88 }
set_option maxHeartbeats 4000000 in
set_option maxRecDepth 100000 in
theorem c_M_isWired (l : Launch) (L : cL) (a1 : Int32) (I : MI) (F : MF) (G : MG) (post : Int32 → Prop) (h : wp_M_isWired a1 I F G post) : Met l y_M_isWired (.code y_M_isWired b_M_isWired 2 (some .boolean) :: lwG) rm_M_isWired (mPc L I F G [.ref (cA L 0), .int a1]) (vp_Si post) 0 0 (fun _ => False) := by
  refine Met.ofW (cc := b_M_isWired) (maxL := 2) (ret := (some .boolean)) (by decide) rfl ?_
  intro p e s m args below meth c s₁ B hml hv
  obtain ⟨rfl, hP, hK, hN⟩ := hv
  have xc : xC p s m _ meth c b_M_isWired 2 lwG qR5 (some .boolean) := ⟨B.exec, B.bytes, hml, findClass_of_methodNamed B.named, fun w h => atoms_spec (ws := (.code y_M_isWired b_M_isWired 2 (some .boolean) :: lwG)) B.pre w (List.mem_cons_of_mem _ h), B.returns, B.notSynchronized⟩
  obtain ⟨hx, hb, hml, hown, hts, hr, hlocks⟩ := id xc
  have hl := lv_entry ([.ref (cA L 0), .int a1]) (n := 2) (Nat.le_of_ble_eq_true rfl)
  rw [lg_entry_eq]
  generalize (lg_sl ([.ref (cA L 0), .int a1]) ++ List.replicate (2 - (lg_sl ([.ref (cA L 0), .int a1])).length) Slot.unset).toArray = ls at hl ⊢
  have hl : lv_has ls 2 [(0, .ref (cA L 0)), (1, .int a1)] := hl
  refine lv_aload_n hx hb d_M_isWired_0 rfl (lv_at hl 0 rfl) ?_
  refine lv_iload_n hx hb d_M_isWired_1 rfl (lv_at hl 1 rfl) ?_
  refine vp_callSi (va_runV (As := [.int a1]) (rest := []) ⟨hx, hb, hml, hown, hts⟩ (c_M_pins l L a1 I F G _ h) (cwV 1 hts (gV wG817 wG819 wG24 wG54 wG820) rfl rfl rfl (by decide +kernel) ⟨Nat.le_of_ble_eq_true rfl, Nat.le_of_ble_eq_true rfl⟩) (mPre hK hN hP) rfl rfl hl.1 rfl (lv_room (Nat.le_of_ble_eq_true rfl)) d_M_isWired_2 ⟨Nat.le_of_ble_eq_true rfl, Nat.le_of_ble_eq_true rfl⟩).run (fun r_1 h => ?_)
  refine lv_iconst (v := 1) hx hb d_M_isWired_5 (by decide) ?_
  refine lv_icmp_gt (tgt := 17) hx hb d_M_isWired_6 (by decide) (fun c_2 => ?_) (fun c_2 => ?_)
  · replace h := h.1 c_2
    refine lv_iconst (v := 1) hx hb d_M_isWired_17 (by decide) ?_
    refine lv_goto (tgt := 22) hx hb d_M_isWired_18 (by decide) ?_
    exact W.zret hx hb hr rfl (fun t ht _ => ⟨_, rfl, h, ht⟩) (fun _ h9 => nomatch h9) d_M_isWired_22
  · replace h := h.2 c_2
    refine lv_aload_n hx hb d_M_isWired_9 rfl (lv_at hl 0 rfl) ?_
    refine lv_iload_n hx hb d_M_isWired_10 rfl (lv_at hl 1 rfl) ?_
    refine vp_callSi (va_runV (As := [.int a1]) (rest := []) ⟨hx, hb, hml, hown, hts⟩ (c_M_hasPad l L a1 I F G _ h) (cwV 1 hts (gV wG829 wG831 wG27 wG54 wG832) rfl rfl rfl (by decide +kernel) ⟨Nat.le_of_ble_eq_true rfl, Nat.le_of_ble_eq_true rfl⟩) (mPre hK hN hP) rfl rfl hl.1 rfl (lv_room (Nat.le_of_ble_eq_true rfl)) d_M_isWired_11 ⟨Nat.le_of_ble_eq_true rfl, Nat.le_of_ble_eq_true rfl⟩).run (fun r_3 h => ?_)
    refine lv_if_eq (tgt := 21) hx hb d_M_isWired_14 (by decide) (fun c_4 => ?_) (fun c_4 => ?_)
    · replace h := h.1 c_4
      refine lv_iconst (v := 0) hx hb d_M_isWired_21 (by decide) ?_
      exact W.zret hx hb hr rfl (fun t ht _ => ⟨_, rfl, h, ht⟩) (fun _ h9 => nomatch h9) d_M_isWired_22
    · replace h := h.2 c_4
      refine lv_iconst (v := 1) hx hb d_M_isWired_17 (by decide) ?_
      refine lv_goto (tgt := 22) hx hb d_M_isWired_18 (by decide) ?_
      exact W.zret hx hb hr rfl (fun t ht _ => ⟨_, rfl, h, ht⟩) (fun _ h9 => nomatch h9) d_M_isWired_22
abbrev rm_M_left : Room := { frames := 4, cells := 0, slots := 0, locals := 88 }
set_option maxHeartbeats 4000000 in
set_option maxRecDepth 100000 in
theorem Wl_M_left_28 {p : Program} {l : Launch} {e : Env} {s : State} {m : MethodId} {args : Array Value} {below : List Frame} {meth : Method} {c : Code} {L : cL} {I : MI} {F : MF} {G : MG} {post : Int32 → Prop} {K : Int32 → Int32 → Prop} {a1 : Int32} {a3 : Int32} (xc : xC p s m args meth c b_M_left 5 lwG qR5 (some .int)) (hP : va_P L.1 vwCl (WM L I F G) s.heap) (hK : va_K L.1 vwCl (mTys L) s) (hN : mNk s)
    (hk : ∀ (a2 : Int32) (a4 : Int32) (ls : Array Slot), K a2 a4 → lv_has ls 5 [(0, .ref (cA L 0)), (1, .int a1), (2, .int a2), (3, .int a3), (4, .int a4)] → W p l e rm_M_left s m args below meth c s.heap [] 0 0 (MQ below (vp_Si post) args s 0 0 (fun _ => False)) (F0 m 78 ls [])) :
    ∀ (n : Nat) (a2 : Int32) (a4 : Int32) (ls : Array Slot), wl_M_left_28 post K a1 a3 I F G n a2 a4 → lv_has ls 5 [(0, .ref (cA L 0)), (1, .int a1), (2, .int a2), (3, .int a3), (4, .int a4)] → W p l e rm_M_left s m args below meth c s.heap [] 0 0 (MQ below (vp_Si post) args s 0 0 (fun _ => False)) (F0 m 28 ls []) := by
  obtain ⟨hx, hb, hml, hown, hts, hr, hlocks⟩ := id xc
  intro n
  induction n with
  | zero => intro a2 a4 ls h; exact absurd h id
  | succ n ih =>
    intro a2 a4 ls h hl
    refine lv_iload hx hb d_M_left_28 (lv_at hl 4 rfl) ?_
    refine lv_aload_n hx hb d_M_left_30 rfl (lv_at hl 0 rfl) ?_
    refine lv_iload_n hx hb d_M_left_31 rfl (lv_at hl 3 rfl) ?_
    refine vp_callSi (va_runV (As := [.int a3]) (rest := [.int a4]) ⟨hx, hb, hml, hown, hts⟩ (c_M_pinsOf l L a3 I F G _ h) (cwV 1 hts (gV wG821 wG823 wG25 wG54 wG824) rfl rfl rfl (by decide +kernel) ⟨Nat.le_of_ble_eq_true rfl, Nat.le_of_ble_eq_true rfl⟩) (mPre hK hN hP) rfl rfl hl.1 rfl (lv_room (Nat.le_of_ble_eq_true rfl)) d_M_left_32 ⟨Nat.le_of_ble_eq_true rfl, Nat.le_of_ble_eq_true rfl⟩).run (fun r_4 h => ?_)
    refine lv_icmp_ge (tgt := 78) hx hb d_M_left_35 (by decide) (fun c_5 => ?_) (fun c_5 => ?_)
    · replace h := h.1 c_5
      exact hk a2 a4 ls h (lv_sub hl [0, 1, 2, 3, 4] rfl)
    · replace h := h.2 c_5
      refine lv_aload_n hx hb d_M_left_38 rfl (lv_at hl 0 rfl) ?_
      refine lv_iload_n hx hb d_M_left_39 rfl (lv_at hl 3 rfl) ?_
      refine lv_iload hx hb d_M_left_40 (lv_at hl 4 rfl) ?_
      refine vp_callSi (va_runV (As := [.int a3, .int a4]) (rest := []) ⟨hx, hb, hml, hown, hts⟩ (c_M_netOf l L a3 a4 I F G _ h) (cwV 2 hts (gV wG825 wG827 wG26 wG54 wG828) rfl rfl rfl (by decide +kernel) ⟨Nat.le_of_ble_eq_true rfl, Nat.le_of_ble_eq_true rfl⟩) (mPre hK hN hP) rfl rfl hl.1 rfl (lv_room (Nat.le_of_ble_eq_true rfl)) d_M_left_42 ⟨Nat.le_of_ble_eq_true rfl, Nat.le_of_ble_eq_true rfl⟩).run (fun r_6 h => ?_)
      refine lv_iload_n hx hb d_M_left_45 rfl (lv_at hl 1 rfl) ?_
      refine lv_icmp_ne (tgt := 72) hx hb d_M_left_46 (by decide) (fun c_7 => ?_) (fun c_7 => ?_)
      · replace h := h.1 c_7
        obtain ⟨x_8, ex_8⟩ : ∃ y : Int32, y = a4 + 1 := ⟨_, rfl⟩
        replace h := h x_8 ex_8
        refine lv_iinc (v := x_8) (lv' := [(4, .int x_8), (0, .ref (cA L 0)), (1, .int a1), (2, .int a2), (3, .int a3)]) hx hb d_M_left_72 hl (k := 4) rfl (by rw [ex_8]; rfl) (by decide) rfl (fun ls hl => ?_)
        refine lv_goto (tgt := 28) hx hb d_M_left_75 (by decide) ?_
        exact ih a2 x_8 ls h (lv_sub hl [1, 2, 3, 4, 0] rfl)
      · replace h := h.2 c_7
        refine lv_aload_n hx hb d_M_left_49 rfl (lv_at hl 0 rfl) ?_
        refine va_get (D := L.1) (ci := 5) (v := .ref (cA L 6)) (C := qR5) (T := qT5) (N := 16) hx hb hts qi5 hown hK hP 0 rfl rfl 8 (by decide) (hts _ wG740) (fun _ h9 => h9) rfl d_M_left_50 ?_
        refine lv_iload_n hx hb d_M_left_53 rfl (lv_at hl 3 rfl) ?_
        obtain ⟨hi_9, h⟩ := h
        refine va_iald hx hb hK hP 6 0 rfl rfl hi_9 d_M_left_54 ?_
        refine lv_iload hx hb d_M_left_55 (lv_at hl 4 rfl) ?_
        refine lv_iadd hx hb d_M_left_57 ?_
        refine lv_iload_n hx hb d_M_left_58 rfl (lv_at hl 2 rfl) ?_
        refine lv_icmp_ge (tgt := 72) hx hb d_M_left_59 (by decide) (fun c_10 => ?_) (fun c_10 => ?_)
        · replace h := h.1 c_10
          obtain ⟨x_11, ex_11⟩ : ∃ y : Int32, y = a4 + 1 := ⟨_, rfl⟩
          replace h := h x_11 ex_11
          refine lv_iinc (v := x_11) (lv' := [(4, .int x_11), (0, .ref (cA L 0)), (1, .int a1), (2, .int a2), (3, .int a3)]) hx hb d_M_left_72 hl (k := 4) rfl (by rw [ex_11]; rfl) (by decide) rfl (fun ls hl => ?_)
          refine lv_goto (tgt := 28) hx hb d_M_left_75 (by decide) ?_
          exact ih a2 x_11 ls h (lv_sub hl [1, 2, 3, 4, 0] rfl)
        · replace h := h.2 c_10
          refine lv_aload_n hx hb d_M_left_62 rfl (lv_at hl 0 rfl) ?_
          refine va_get (D := L.1) (ci := 5) (v := .ref (cA L 6)) (C := qR5) (T := qT5) (N := 16) hx hb hts qi5 hown hK hP 0 rfl rfl 8 (by decide) (hts _ wG740) (fun _ h9 => h9) rfl d_M_left_63 ?_
          refine lv_iload_n hx hb d_M_left_66 rfl (lv_at hl 3 rfl) ?_
          obtain ⟨hi_12, h⟩ := h
          refine va_iald hx hb hK hP 6 0 rfl rfl hi_12 d_M_left_67 ?_
          refine lv_iload hx hb d_M_left_68 (lv_at hl 4 rfl) ?_
          refine lv_iadd hx hb d_M_left_70 ?_
          refine lv_topi (fun x_13 ex_13 => ?_)
          replace h := h x_13 ex_13
          refine lv_istore_n (lv' := [(2, .int x_13), (0, .ref (cA L 0)), (1, .int a1), (3, .int a3), (4, .int a4)]) hx hb d_M_left_71 rfl hl (by decide) rfl (fun ls hl => ?_)
          obtain ⟨x_14, ex_14⟩ : ∃ y : Int32, y = a4 + 1 := ⟨_, rfl⟩
          replace h := h x_14 ex_14
          refine lv_iinc (v := x_14) (lv' := [(4, .int x_14), (2, .int x_13), (0, .ref (cA L 0)), (1, .int a1), (3, .int a3)]) hx hb d_M_left_72 hl (k := 4) rfl (by rw [ex_14]; rfl) (by decide) rfl (fun ls hl => ?_)
          refine lv_goto (tgt := 28) hx hb d_M_left_75 (by decide) ?_
          exact ih x_13 x_14 ls h (lv_sub hl [2, 3, 1, 4, 0] rfl)
set_option maxHeartbeats 4000000 in
set_option maxRecDepth 100000 in
theorem Wl_M_left_17 {p : Program} {l : Launch} {e : Env} {s : State} {m : MethodId} {args : Array Value} {below : List Frame} {meth : Method} {c : Code} {L : cL} {I : MI} {F : MF} {G : MG} {post : Int32 → Prop} {K : Int32 → Int32 → Prop} {a1 : Int32} (xc : xC p s m args meth c b_M_left 5 lwG qR5 (some .int)) (hP : va_P L.1 vwCl (WM L I F G) s.heap) (hK : va_K L.1 vwCl (mTys L) s) (hN : mNk s)
    (hk : ∀ (a2 : Int32) (a3 : Int32) (ls : Array Slot), K a2 a3 → lv_has ls 5 [(0, .ref (cA L 0)), (1, .int a1), (2, .int a2), (3, .int a3)] → W p l e rm_M_left s m args below meth c s.heap [] 0 0 (MQ below (vp_Si post) args s 0 0 (fun _ => False)) (F0 m 84 ls [])) :
    ∀ (n : Nat) (a2 : Int32) (a3 : Int32) (ls : Array Slot), wl_M_left_17 post K a1 I F G n a2 a3 → lv_has ls 5 [(0, .ref (cA L 0)), (1, .int a1), (2, .int a2), (3, .int a3)] → W p l e rm_M_left s m args below meth c s.heap [] 0 0 (MQ below (vp_Si post) args s 0 0 (fun _ => False)) (F0 m 17 ls []) := by
  obtain ⟨hx, hb, hml, hown, hts, hr, hlocks⟩ := id xc
  intro n
  induction n with
  | zero => intro a2 a3 ls h; exact absurd h id
  | succ n ih =>
    intro a2 a3 ls h hl
    refine lv_iload_n hx hb d_M_left_17 rfl (lv_at hl 3 rfl) ?_
    refine lv_aload_n hx hb d_M_left_18 rfl (lv_at hl 0 rfl) ?_
    refine va_get (D := L.1) (ci := 5) (v := .int (I 1)) (C := qR5) (T := qT5) (N := 16) hx hb hts qi5 hown hK hP 0 rfl rfl 1 (by decide) (hts _ wG733) (fun _ h9 => h9) rfl d_M_left_19 ?_
    refine lv_icmp_ge (tgt := 84) hx hb d_M_left_22 (by decide) (fun c_3 => ?_) (fun c_3 => ?_)
    · replace h := h.1 c_3
      exact hk a2 a3 ls h (lv_sub hl [0, 1, 2, 3] rfl)
    · replace h := h.2 c_3
      refine lv_iconst (v := 0) hx hb d_M_left_25 (by decide) ?_
      refine lv_istore (lv' := [(4, .int 0), (0, .ref (cA L 0)), (1, .int a1), (2, .int a2), (3, .int a3)]) hx hb d_M_left_26 hl (by decide) rfl (fun ls hl => ?_)
      obtain ⟨n_18, h⟩ := h
      refine Wl_M_left_28 xc hP hK hN (hk := fun x_15 x_16 ls h hl => ?_) n_18 a2 0 ls h (lv_sub hl [1, 2, 3, 4, 0] rfl)
      obtain ⟨x_17, ex_17⟩ : ∃ y : Int32, y = a3 + 1 := ⟨_, rfl⟩
      replace h := h x_17 ex_17
      refine lv_iinc (v := x_17) (lv' := [(3, .int x_17), (0, .ref (cA L 0)), (1, .int a1), (2, .int x_15), (4, .int x_16)]) hx hb d_M_left_78 hl (k := 3) rfl (by rw [ex_17]; rfl) (by decide) rfl (fun ls hl => ?_)
      refine lv_goto (tgt := 17) hx hb d_M_left_81 (by decide) ?_
      exact ih x_15 x_17 ls h (lv_sub hl [1, 2, 3, 0] rfl)
set_option maxHeartbeats 4000000 in
set_option maxRecDepth 100000 in
theorem c_M_left (l : Launch) (L : cL) (a1 : Int32) (I : MI) (F : MF) (G : MG) (post : Int32 → Prop) (h : wp_M_left a1 I F G post) : Met l y_M_left (.code y_M_left b_M_left 5 (some .int) :: lwG) rm_M_left (mPc L I F G [.ref (cA L 0), .int a1]) (vp_Si post) 0 0 (fun _ => False) := by
  refine Met.ofW (cc := b_M_left) (maxL := 5) (ret := (some .int)) (by decide) rfl ?_
  intro p e s m args below meth c s₁ B hml hv
  obtain ⟨rfl, hP, hK, hN⟩ := hv
  have xc : xC p s m _ meth c b_M_left 5 lwG qR5 (some .int) := ⟨B.exec, B.bytes, hml, findClass_of_methodNamed B.named, fun w h => atoms_spec (ws := (.code y_M_left b_M_left 5 (some .int) :: lwG)) B.pre w (List.mem_cons_of_mem _ h), B.returns, B.notSynchronized⟩
  obtain ⟨hx, hb, hml, hown, hts, hr, hlocks⟩ := id xc
  have hl := lv_entry ([.ref (cA L 0), .int a1]) (n := 5) (Nat.le_of_ble_eq_true rfl)
  rw [lg_entry_eq]
  generalize (lg_sl ([.ref (cA L 0), .int a1]) ++ List.replicate (5 - (lg_sl ([.ref (cA L 0), .int a1])).length) Slot.unset).toArray = ls at hl ⊢
  have hl : lv_has ls 5 [(0, .ref (cA L 0)), (1, .int a1)] := hl
  refine lv_aload_n hx hb d_M_left_0 rfl (lv_at hl 0 rfl) ?_
  refine lv_iload_n hx hb d_M_left_1 rfl (lv_at hl 1 rfl) ?_
  refine vp_callSi (va_runV (As := [.int a1]) (rest := []) ⟨hx, hb, hml, hown, hts⟩ (c_M_hasPad l L a1 I F G _ h) (cwV 1 hts (gV wG829 wG831 wG27 wG54 wG832) rfl rfl rfl (by decide +kernel) ⟨Nat.le_of_ble_eq_true rfl, Nat.le_of_ble_eq_true rfl⟩) (mPre hK hN hP) rfl rfl hl.1 rfl (lv_room (Nat.le_of_ble_eq_true rfl)) d_M_left_2 ⟨Nat.le_of_ble_eq_true rfl, Nat.le_of_ble_eq_true rfl⟩).run (fun r_1 h => ?_)
  refine lv_if_eq (tgt := 12) hx hb d_M_left_5 (by decide) (fun c_2 => ?_) (fun c_2 => ?_)
  · replace h := h.1 c_2
    refine lv_bipush (v := 24) hx hb d_M_left_12 (by decide) ?_
    refine lv_istore_n (lv' := [(2, .int 24), (0, .ref (cA L 0)), (1, .int a1)]) hx hb d_M_left_14 rfl hl (by decide) rfl (fun ls hl => ?_)
    refine lv_iconst (v := 0) hx hb d_M_left_15 (by decide) ?_
    refine lv_istore_n (lv' := [(3, .int 0), (2, .int 24), (0, .ref (cA L 0)), (1, .int a1)]) hx hb d_M_left_16 rfl hl (by decide) rfl (fun ls hl => ?_)
    obtain ⟨n_21, h⟩ := h
    refine Wl_M_left_17 xc hP hK hN (hk := fun x_19 x_20 ls h hl => ?_) n_21 24 0 ls h (lv_sub hl [2, 3, 1, 0] rfl)
    refine lv_iload_n hx hb d_M_left_84 rfl (lv_at hl 2 rfl) ?_
    exact W.iret hx hb hr (fun t ht _ => ⟨_, rfl, h, ht⟩) (fun _ h9 => nomatch h9) d_M_left_85
  · replace h := h.2 c_2
    refine lv_iconst (v := 0) hx hb d_M_left_8 (by decide) ?_
    refine lv_goto (tgt := 14) hx hb d_M_left_9 (by decide) ?_
    refine lv_istore_n (lv' := [(2, .int 0), (0, .ref (cA L 0)), (1, .int a1)]) hx hb d_M_left_14 rfl hl (by decide) rfl (fun ls hl => ?_)
    refine lv_iconst (v := 0) hx hb d_M_left_15 (by decide) ?_
    refine lv_istore_n (lv' := [(3, .int 0), (2, .int 0), (0, .ref (cA L 0)), (1, .int a1)]) hx hb d_M_left_16 rfl hl (by decide) rfl (fun ls hl => ?_)
    obtain ⟨n_24, h⟩ := h
    refine Wl_M_left_17 xc hP hK hN (hk := fun x_22 x_23 ls h hl => ?_) n_24 0 0 ls h (lv_sub hl [2, 3, 1, 0] rfl)
    refine lv_iload_n hx hb d_M_left_84 rfl (lv_at hl 2 rfl) ?_
    exact W.iret hx hb hr (fun t ht _ => ⟨_, rfl, h, ht⟩) (fun _ h9 => nomatch h9) d_M_left_85
abbrev rm_M_right : Room := { frames := 2, cells := 0, slots := 0, locals := 43 }
set_option maxHeartbeats 4000000 in
set_option maxRecDepth 100000 in
theorem Wl_M_right_15 {p : Program} {l : Launch} {e : Env} {s : State} {m : MethodId} {args : Array Value} {below : List Frame} {meth : Method} {c : Code} {L : cL} {I : MI} {F : MF} {G : MG} {post : Int32 → Prop} {K : Int32 → Int32 → Prop} {a1 : Int32} {a3 : Int32} (xc : xC p s m args meth c b_M_right 5 lwG qR5 (some .int)) (hP : va_P L.1 vwCl (WM L I F G) s.heap) (hK : va_K L.1 vwCl (mTys L) s) (hN : mNk s)
    (hk : ∀ (a2 : Int32) (a4 : Int32) (ls : Array Slot), K a2 a4 → lv_has ls 5 [(0, .ref (cA L 0)), (1, .int a1), (2, .int a2), (3, .int a3), (4, .int a4)] → W p l e rm_M_right s m args below meth c s.heap [] 0 0 (MQ below (vp_Si post) args s 0 0 (fun _ => False)) (F0 m 65 ls [])) :
    ∀ (n : Nat) (a2 : Int32) (a4 : Int32) (ls : Array Slot), wl_M_right_15 post K a1 a3 I F G n a2 a4 → lv_has ls 5 [(0, .ref (cA L 0)), (1, .int a1), (2, .int a2), (3, .int a3), (4, .int a4)] → W p l e rm_M_right s m args below meth c s.heap [] 0 0 (MQ below (vp_Si post) args s 0 0 (fun _ => False)) (F0 m 15 ls []) := by
  obtain ⟨hx, hb, hml, hown, hts, hr, hlocks⟩ := id xc
  intro n
  induction n with
  | zero => intro a2 a4 ls h; exact absurd h id
  | succ n ih =>
    intro a2 a4 ls h hl
    refine lv_iload hx hb d_M_right_15 (lv_at hl 4 rfl) ?_
    refine lv_aload_n hx hb d_M_right_17 rfl (lv_at hl 0 rfl) ?_
    refine lv_iload_n hx hb d_M_right_18 rfl (lv_at hl 3 rfl) ?_
    refine vp_callSi (va_runV (As := [.int a3]) (rest := [.int a4]) ⟨hx, hb, hml, hown, hts⟩ (c_M_pinsOf l L a3 I F G _ h) (cwV 1 hts (gV wG821 wG823 wG25 wG54 wG824) rfl rfl rfl (by decide +kernel) ⟨Nat.le_of_ble_eq_true rfl, Nat.le_of_ble_eq_true rfl⟩) (mPre hK hN hP) rfl rfl hl.1 rfl (lv_room (Nat.le_of_ble_eq_true rfl)) d_M_right_19 ⟨Nat.le_of_ble_eq_true rfl, Nat.le_of_ble_eq_true rfl⟩).run (fun r_2 h => ?_)
    refine lv_icmp_ge (tgt := 65) hx hb d_M_right_22 (by decide) (fun c_3 => ?_) (fun c_3 => ?_)
    · replace h := h.1 c_3
      exact hk a2 a4 ls h (lv_sub hl [0, 1, 2, 3, 4] rfl)
    · replace h := h.2 c_3
      refine lv_aload_n hx hb d_M_right_25 rfl (lv_at hl 0 rfl) ?_
      refine lv_iload_n hx hb d_M_right_26 rfl (lv_at hl 3 rfl) ?_
      refine lv_iload hx hb d_M_right_27 (lv_at hl 4 rfl) ?_
      refine vp_callSi (va_runV (As := [.int a3, .int a4]) (rest := []) ⟨hx, hb, hml, hown, hts⟩ (c_M_netOf l L a3 a4 I F G _ h) (cwV 2 hts (gV wG825 wG827 wG26 wG54 wG828) rfl rfl rfl (by decide +kernel) ⟨Nat.le_of_ble_eq_true rfl, Nat.le_of_ble_eq_true rfl⟩) (mPre hK hN hP) rfl rfl hl.1 rfl (lv_room (Nat.le_of_ble_eq_true rfl)) d_M_right_29 ⟨Nat.le_of_ble_eq_true rfl, Nat.le_of_ble_eq_true rfl⟩).run (fun r_4 h => ?_)
      refine lv_iload_n hx hb d_M_right_32 rfl (lv_at hl 1 rfl) ?_
      refine lv_icmp_ne (tgt := 59) hx hb d_M_right_33 (by decide) (fun c_5 => ?_) (fun c_5 => ?_)
      · replace h := h.1 c_5
        obtain ⟨x_6, ex_6⟩ : ∃ y : Int32, y = a4 + 1 := ⟨_, rfl⟩
        replace h := h x_6 ex_6
        refine lv_iinc (v := x_6) (lv' := [(4, .int x_6), (0, .ref (cA L 0)), (1, .int a1), (2, .int a2), (3, .int a3)]) hx hb d_M_right_59 hl (k := 4) rfl (by rw [ex_6]; rfl) (by decide) rfl (fun ls hl => ?_)
        refine lv_goto (tgt := 15) hx hb d_M_right_62 (by decide) ?_
        exact ih a2 x_6 ls h (lv_sub hl [1, 2, 3, 4, 0] rfl)
      · replace h := h.2 c_5
        refine lv_aload_n hx hb d_M_right_36 rfl (lv_at hl 0 rfl) ?_
        refine va_get (D := L.1) (ci := 5) (v := .ref (cA L 6)) (C := qR5) (T := qT5) (N := 16) hx hb hts qi5 hown hK hP 0 rfl rfl 8 (by decide) (hts _ wG740) (fun _ h9 => h9) rfl d_M_right_37 ?_
        refine lv_iload_n hx hb d_M_right_40 rfl (lv_at hl 3 rfl) ?_
        obtain ⟨hi_7, h⟩ := h
        refine va_iald hx hb hK hP 6 0 rfl rfl hi_7 d_M_right_41 ?_
        refine lv_iload hx hb d_M_right_42 (lv_at hl 4 rfl) ?_
        refine lv_iadd hx hb d_M_right_44 ?_
        refine lv_iload_n hx hb d_M_right_45 rfl (lv_at hl 2 rfl) ?_
        refine lv_icmp_le (tgt := 59) hx hb d_M_right_46 (by decide) (fun c_8 => ?_) (fun c_8 => ?_)
        · replace h := h.1 c_8
          obtain ⟨x_9, ex_9⟩ : ∃ y : Int32, y = a4 + 1 := ⟨_, rfl⟩
          replace h := h x_9 ex_9
          refine lv_iinc (v := x_9) (lv' := [(4, .int x_9), (0, .ref (cA L 0)), (1, .int a1), (2, .int a2), (3, .int a3)]) hx hb d_M_right_59 hl (k := 4) rfl (by rw [ex_9]; rfl) (by decide) rfl (fun ls hl => ?_)
          refine lv_goto (tgt := 15) hx hb d_M_right_62 (by decide) ?_
          exact ih a2 x_9 ls h (lv_sub hl [1, 2, 3, 4, 0] rfl)
        · replace h := h.2 c_8
          refine lv_aload_n hx hb d_M_right_49 rfl (lv_at hl 0 rfl) ?_
          refine va_get (D := L.1) (ci := 5) (v := .ref (cA L 6)) (C := qR5) (T := qT5) (N := 16) hx hb hts qi5 hown hK hP 0 rfl rfl 8 (by decide) (hts _ wG740) (fun _ h9 => h9) rfl d_M_right_50 ?_
          refine lv_iload_n hx hb d_M_right_53 rfl (lv_at hl 3 rfl) ?_
          obtain ⟨hi_10, h⟩ := h
          refine va_iald hx hb hK hP 6 0 rfl rfl hi_10 d_M_right_54 ?_
          refine lv_iload hx hb d_M_right_55 (lv_at hl 4 rfl) ?_
          refine lv_iadd hx hb d_M_right_57 ?_
          refine lv_topi (fun x_11 ex_11 => ?_)
          replace h := h x_11 ex_11
          refine lv_istore_n (lv' := [(2, .int x_11), (0, .ref (cA L 0)), (1, .int a1), (3, .int a3), (4, .int a4)]) hx hb d_M_right_58 rfl hl (by decide) rfl (fun ls hl => ?_)
          obtain ⟨x_12, ex_12⟩ : ∃ y : Int32, y = a4 + 1 := ⟨_, rfl⟩
          replace h := h x_12 ex_12
          refine lv_iinc (v := x_12) (lv' := [(4, .int x_12), (2, .int x_11), (0, .ref (cA L 0)), (1, .int a1), (3, .int a3)]) hx hb d_M_right_59 hl (k := 4) rfl (by rw [ex_12]; rfl) (by decide) rfl (fun ls hl => ?_)
          refine lv_goto (tgt := 15) hx hb d_M_right_62 (by decide) ?_
          exact ih x_11 x_12 ls h (lv_sub hl [2, 3, 1, 4, 0] rfl)
set_option maxHeartbeats 4000000 in
set_option maxRecDepth 100000 in
theorem Wl_M_right_4 {p : Program} {l : Launch} {e : Env} {s : State} {m : MethodId} {args : Array Value} {below : List Frame} {meth : Method} {c : Code} {L : cL} {I : MI} {F : MF} {G : MG} {post : Int32 → Prop} {K : Int32 → Int32 → Prop} {a1 : Int32} (xc : xC p s m args meth c b_M_right 5 lwG qR5 (some .int)) (hP : va_P L.1 vwCl (WM L I F G) s.heap) (hK : va_K L.1 vwCl (mTys L) s) (hN : mNk s)
    (hk : ∀ (a2 : Int32) (a3 : Int32) (ls : Array Slot), K a2 a3 → lv_has ls 5 [(0, .ref (cA L 0)), (1, .int a1), (2, .int a2), (3, .int a3)] → W p l e rm_M_right s m args below meth c s.heap [] 0 0 (MQ below (vp_Si post) args s 0 0 (fun _ => False)) (F0 m 71 ls [])) :
    ∀ (n : Nat) (a2 : Int32) (a3 : Int32) (ls : Array Slot), wl_M_right_4 post K a1 I F G n a2 a3 → lv_has ls 5 [(0, .ref (cA L 0)), (1, .int a1), (2, .int a2), (3, .int a3)] → W p l e rm_M_right s m args below meth c s.heap [] 0 0 (MQ below (vp_Si post) args s 0 0 (fun _ => False)) (F0 m 4 ls []) := by
  obtain ⟨hx, hb, hml, hown, hts, hr, hlocks⟩ := id xc
  intro n
  induction n with
  | zero => intro a2 a3 ls h; exact absurd h id
  | succ n ih =>
    intro a2 a3 ls h hl
    refine lv_iload_n hx hb d_M_right_4 rfl (lv_at hl 3 rfl) ?_
    refine lv_aload_n hx hb d_M_right_5 rfl (lv_at hl 0 rfl) ?_
    refine va_get (D := L.1) (ci := 5) (v := .int (I 1)) (C := qR5) (T := qT5) (N := 16) hx hb hts qi5 hown hK hP 0 rfl rfl 1 (by decide) (hts _ wG733) (fun _ h9 => h9) rfl d_M_right_6 ?_
    refine lv_icmp_ge (tgt := 71) hx hb d_M_right_9 (by decide) (fun c_1 => ?_) (fun c_1 => ?_)
    · replace h := h.1 c_1
      exact hk a2 a3 ls h (lv_sub hl [0, 1, 2, 3] rfl)
    · replace h := h.2 c_1
      refine lv_iconst (v := 0) hx hb d_M_right_12 (by decide) ?_
      refine lv_istore (lv' := [(4, .int 0), (0, .ref (cA L 0)), (1, .int a1), (2, .int a2), (3, .int a3)]) hx hb d_M_right_13 hl (by decide) rfl (fun ls hl => ?_)
      obtain ⟨n_16, h⟩ := h
      refine Wl_M_right_15 xc hP hK hN (hk := fun x_13 x_14 ls h hl => ?_) n_16 a2 0 ls h (lv_sub hl [1, 2, 3, 4, 0] rfl)
      obtain ⟨x_15, ex_15⟩ : ∃ y : Int32, y = a3 + 1 := ⟨_, rfl⟩
      replace h := h x_15 ex_15
      refine lv_iinc (v := x_15) (lv' := [(3, .int x_15), (0, .ref (cA L 0)), (1, .int a1), (2, .int x_13), (4, .int x_14)]) hx hb d_M_right_65 hl (k := 3) rfl (by rw [ex_15]; rfl) (by decide) rfl (fun ls hl => ?_)
      refine lv_goto (tgt := 4) hx hb d_M_right_68 (by decide) ?_
      exact ih x_13 x_15 ls h (lv_sub hl [1, 2, 3, 0] rfl)
set_option maxHeartbeats 4000000 in
set_option maxRecDepth 100000 in
theorem c_M_right (l : Launch) (L : cL) (a1 : Int32) (I : MI) (F : MF) (G : MG) (post : Int32 → Prop) (h : wp_M_right a1 I F G post) : Met l y_M_right (.code y_M_right b_M_right 5 (some .int) :: lwG) rm_M_right (mPc L I F G [.ref (cA L 0), .int a1]) (vp_Si post) 0 0 (fun _ => False) := by
  refine Met.ofW (cc := b_M_right) (maxL := 5) (ret := (some .int)) (by decide) rfl ?_
  intro p e s m args below meth c s₁ B hml hv
  obtain ⟨rfl, hP, hK, hN⟩ := hv
  have xc : xC p s m _ meth c b_M_right 5 lwG qR5 (some .int) := ⟨B.exec, B.bytes, hml, findClass_of_methodNamed B.named, fun w h => atoms_spec (ws := (.code y_M_right b_M_right 5 (some .int) :: lwG)) B.pre w (List.mem_cons_of_mem _ h), B.returns, B.notSynchronized⟩
  obtain ⟨hx, hb, hml, hown, hts, hr, hlocks⟩ := id xc
  have hl := lv_entry ([.ref (cA L 0), .int a1]) (n := 5) (Nat.le_of_ble_eq_true rfl)
  rw [lg_entry_eq]
  generalize (lg_sl ([.ref (cA L 0), .int a1]) ++ List.replicate (5 - (lg_sl ([.ref (cA L 0), .int a1])).length) Slot.unset).toArray = ls at hl ⊢
  have hl : lv_has ls 5 [(0, .ref (cA L 0)), (1, .int a1)] := hl
  refine lv_iconst (v := 0) hx hb d_M_right_0 (by decide) ?_
  refine lv_istore_n (lv' := [(2, .int 0), (0, .ref (cA L 0)), (1, .int a1)]) hx hb d_M_right_1 rfl hl (by decide) rfl (fun ls hl => ?_)
  refine lv_iconst (v := 0) hx hb d_M_right_2 (by decide) ?_
  refine lv_istore_n (lv' := [(3, .int 0), (2, .int 0), (0, .ref (cA L 0)), (1, .int a1)]) hx hb d_M_right_3 rfl hl (by decide) rfl (fun ls hl => ?_)
  obtain ⟨n_19, h⟩ := h
  refine Wl_M_right_4 xc hP hK hN (hk := fun x_17 x_18 ls h hl => ?_) n_19 0 0 ls h (lv_sub hl [2, 3, 1, 0] rfl)
  refine lv_iload_n hx hb d_M_right_71 rfl (lv_at hl 2 rfl) ?_
  exact W.iret hx hb hr (fun t ht _ => ⟨_, rfl, h, ht⟩) (fun _ h9 => nomatch h9) d_M_right_72
abbrev rm_M_at : Room := { frames := 2, cells := 0, slots := 0, locals := 43 }
set_option maxHeartbeats 4000000 in
set_option maxRecDepth 100000 in
theorem Wl_M_at_2 {p : Program} {l : Launch} {e : Env} {s : State} {m : MethodId} {args : Array Value} {below : List Frame} {meth : Method} {c : Code} {L : cL} {I : MI} {F : MF} {G : MG} {post : Int32 → Prop} {K : Int32 → Prop} {a1 : Int32} {a2 : Int32} (xc : xC p s m args meth c b_M_at 4 lwG qR5 (some .int)) (hP : va_P L.1 vwCl (WM L I F G) s.heap) (hK : va_K L.1 vwCl (mTys L) s) (hN : mNk s)
    (hk : ∀ (a3 : Int32) (ls : Array Slot), K a3 → lv_has ls 4 [(0, .ref (cA L 0)), (1, .int a1), (2, .int a2), (3, .int a3)] → W p l e rm_M_at s m args below meth c s.heap [] 0 0 (MQ below (vp_Si post) args s 0 0 (fun _ => False)) (F0 m 62 ls [])) :
    ∀ (n : Nat) (a3 : Int32) (ls : Array Slot), wl_M_at_2 post K a1 a2 I F G n a3 → lv_has ls 4 [(0, .ref (cA L 0)), (1, .int a1), (2, .int a2), (3, .int a3)] → W p l e rm_M_at s m args below meth c s.heap [] 0 0 (MQ below (vp_Si post) args s 0 0 (fun _ => False)) (F0 m 2 ls []) := by
  obtain ⟨hx, hb, hml, hown, hts, hr, hlocks⟩ := id xc
  intro n
  induction n with
  | zero => intro a3 ls h; exact absurd h id
  | succ n ih =>
    intro a3 ls h hl
    refine lv_iload_n hx hb d_M_at_2 rfl (lv_at hl 3 rfl) ?_
    refine lv_aload_n hx hb d_M_at_3 rfl (lv_at hl 0 rfl) ?_
    refine va_get (D := L.1) (ci := 5) (v := .int (I 1)) (C := qR5) (T := qT5) (N := 16) hx hb hts qi5 hown hK hP 0 rfl rfl 1 (by decide) (hts _ wG733) (fun _ h9 => h9) rfl d_M_at_4 ?_
    refine lv_icmp_ge (tgt := 62) hx hb d_M_at_7 (by decide) (fun c_1 => ?_) (fun c_1 => ?_)
    · replace h := h.1 c_1
      exact hk a3 ls h (lv_sub hl [0, 1, 2, 3] rfl)
    · replace h := h.2 c_1
      refine lv_aload_n hx hb d_M_at_10 rfl (lv_at hl 0 rfl) ?_
      refine va_get (D := L.1) (ci := 5) (v := .ref (cA L 5)) (C := qR5) (T := qT5) (N := 16) hx hb hts qi5 hown hK hP 0 rfl rfl 7 (by decide) (hts _ wG739) (fun _ h9 => h9) rfl d_M_at_11 ?_
      refine lv_iload_n hx hb d_M_at_14 rfl (lv_at hl 3 rfl) ?_
      obtain ⟨hi_2, h⟩ := h
      refine va_iald hx hb hK hP 5 0 rfl rfl hi_2 d_M_at_15 ?_
      refine lv_iload_n hx hb d_M_at_16 rfl (lv_at hl 1 rfl) ?_
      refine lv_icmp_ne (tgt := 56) hx hb d_M_at_17 (by decide) (fun c_3 => ?_) (fun c_3 => ?_)
      · replace h := h.1 c_3
        obtain ⟨x_4, ex_4⟩ : ∃ y : Int32, y = a3 + 1 := ⟨_, rfl⟩
        replace h := h x_4 ex_4
        refine lv_iinc (v := x_4) (lv' := [(3, .int x_4), (0, .ref (cA L 0)), (1, .int a1), (2, .int a2)]) hx hb d_M_at_56 hl (k := 3) rfl (by rw [ex_4]; rfl) (by decide) rfl (fun ls hl => ?_)
        refine lv_goto (tgt := 2) hx hb d_M_at_59 (by decide) ?_
        exact ih x_4 ls h (lv_sub hl [1, 2, 3, 0] rfl)
      · replace h := h.2 c_3
        refine lv_iload_n hx hb d_M_at_20 rfl (lv_at hl 2 rfl) ?_
        refine lv_aload_n hx hb d_M_at_21 rfl (lv_at hl 0 rfl) ?_
        refine va_get (D := L.1) (ci := 5) (v := .ref (cA L 6)) (C := qR5) (T := qT5) (N := 16) hx hb hts qi5 hown hK hP 0 rfl rfl 8 (by decide) (hts _ wG740) (fun _ h9 => h9) rfl d_M_at_22 ?_
        refine lv_iload_n hx hb d_M_at_25 rfl (lv_at hl 3 rfl) ?_
        obtain ⟨hi_5, h⟩ := h
        refine va_iald hx hb hK hP 6 0 rfl rfl hi_5 d_M_at_26 ?_
        refine lv_isub hx hb d_M_at_27 ?_
        refine lv_iconst (v := 0) hx hb d_M_at_28 (by decide) ?_
        refine lv_aload_n hx hb d_M_at_29 rfl (lv_at hl 0 rfl) ?_
        refine lv_iload_n hx hb d_M_at_30 rfl (lv_at hl 3 rfl) ?_
        refine vp_callSi (va_runV (As := [.int a3]) (rest := [.int 0, .int (a2 - (F 5 a3.toNatClampNeg))]) ⟨hx, hb, hml, hown, hts⟩ (c_M_pinsOf l L a3 I F G _ h) (cwV 1 hts (gV wG821 wG823 wG25 wG54 wG824) rfl rfl rfl (by decide +kernel) ⟨Nat.le_of_ble_eq_true rfl, Nat.le_of_ble_eq_true rfl⟩) (mPre hK hN hP) rfl rfl hl.1 rfl (lv_room (Nat.le_of_ble_eq_true rfl)) d_M_at_31 ⟨Nat.le_of_ble_eq_true rfl, Nat.le_of_ble_eq_true rfl⟩).run (fun r_6 h => ?_)
        refine lv_iconst (v := 1) hx hb d_M_at_34 (by decide) ?_
        refine lv_isub hx hb d_M_at_35 ?_
        refine vp_callSi (va_runS (As := [.int (a2 - (F 5 a3.toNatClampNeg)), .int 0, .int (r_6 - 1)]) (rest := []) ⟨hx, hb, hml, hown, hts⟩ (c_M_in l (a2 - (F 5 a3.toNatClampNeg)) 0 (r_6 - 1) _ h) (va_cwS 3 hts (gS wG790 wG791 wG54 wG792) rfl rfl rfl (by decide +kernel) ⟨Nat.le_of_ble_eq_true rfl, Nat.le_of_ble_eq_true rfl⟩) ⟨sPc_blind _, fun U hU hW => ⟨rfl, trivial⟩⟩ rfl rfl hl.1 rfl (lv_room (Nat.le_of_ble_eq_true rfl)) d_M_at_36 ⟨Nat.le_of_ble_eq_true rfl, Nat.le_of_ble_eq_true rfl⟩).run (fun r_7 h => ?_)
        refine lv_if_eq (tgt := 56) hx hb d_M_at_39 (by decide) (fun c_8 => ?_) (fun c_8 => ?_)
        · replace h := h.1 c_8
          obtain ⟨x_9, ex_9⟩ : ∃ y : Int32, y = a3 + 1 := ⟨_, rfl⟩
          replace h := h x_9 ex_9
          refine lv_iinc (v := x_9) (lv' := [(3, .int x_9), (0, .ref (cA L 0)), (1, .int a1), (2, .int a2)]) hx hb d_M_at_56 hl (k := 3) rfl (by rw [ex_9]; rfl) (by decide) rfl (fun ls hl => ?_)
          refine lv_goto (tgt := 2) hx hb d_M_at_59 (by decide) ?_
          exact ih x_9 ls h (lv_sub hl [1, 2, 3, 0] rfl)
        · replace h := h.2 c_8
          refine lv_aload_n hx hb d_M_at_42 rfl (lv_at hl 0 rfl) ?_
          refine lv_iload_n hx hb d_M_at_43 rfl (lv_at hl 3 rfl) ?_
          refine lv_iload_n hx hb d_M_at_44 rfl (lv_at hl 2 rfl) ?_
          refine lv_aload_n hx hb d_M_at_45 rfl (lv_at hl 0 rfl) ?_
          refine va_get (D := L.1) (ci := 5) (v := .ref (cA L 6)) (C := qR5) (T := qT5) (N := 16) hx hb hts qi5 hown hK hP 0 rfl rfl 8 (by decide) (hts _ wG740) (fun _ h9 => h9) rfl d_M_at_46 ?_
          refine lv_iload_n hx hb d_M_at_49 rfl (lv_at hl 3 rfl) ?_
          obtain ⟨hi_10, h⟩ := h
          refine va_iald hx hb hK hP 6 0 rfl rfl hi_10 d_M_at_50 ?_
          refine lv_isub hx hb d_M_at_51 ?_
          refine vp_callSi (va_runV (As := [.int a3, .int (a2 - (F 5 a3.toNatClampNeg))]) (rest := []) ⟨hx, hb, hml, hown, hts⟩ (c_M_netOf l L a3 (a2 - (F 5 a3.toNatClampNeg)) I F G _ h) (cwV 2 hts (gV wG825 wG827 wG26 wG54 wG828) rfl rfl rfl (by decide +kernel) ⟨Nat.le_of_ble_eq_true rfl, Nat.le_of_ble_eq_true rfl⟩) (mPre hK hN hP) rfl rfl hl.1 rfl (lv_room (Nat.le_of_ble_eq_true rfl)) d_M_at_52 ⟨Nat.le_of_ble_eq_true rfl, Nat.le_of_ble_eq_true rfl⟩).run (fun r_11 h => ?_)
          exact W.iret hx hb hr (fun t ht _ => ⟨_, rfl, h, ht⟩) (fun _ h9 => nomatch h9) d_M_at_55
set_option maxHeartbeats 4000000 in
set_option maxRecDepth 100000 in
theorem c_M_at (l : Launch) (L : cL) (a1 : Int32) (a2 : Int32) (I : MI) (F : MF) (G : MG) (post : Int32 → Prop) (h : wp_M_at a1 a2 I F G post) : Met l y_M_at (.code y_M_at b_M_at 4 (some .int) :: lwG) rm_M_at (mPc L I F G [.ref (cA L 0), .int a1, .int a2]) (vp_Si post) 0 0 (fun _ => False) := by
  refine Met.ofW (cc := b_M_at) (maxL := 4) (ret := (some .int)) (by decide) rfl ?_
  intro p e s m args below meth c s₁ B hml hv
  obtain ⟨rfl, hP, hK, hN⟩ := hv
  have xc : xC p s m _ meth c b_M_at 4 lwG qR5 (some .int) := ⟨B.exec, B.bytes, hml, findClass_of_methodNamed B.named, fun w h => atoms_spec (ws := (.code y_M_at b_M_at 4 (some .int) :: lwG)) B.pre w (List.mem_cons_of_mem _ h), B.returns, B.notSynchronized⟩
  obtain ⟨hx, hb, hml, hown, hts, hr, hlocks⟩ := id xc
  have hl := lv_entry ([.ref (cA L 0), .int a1, .int a2]) (n := 4) (Nat.le_of_ble_eq_true rfl)
  rw [lg_entry_eq]
  generalize (lg_sl ([.ref (cA L 0), .int a1, .int a2]) ++ List.replicate (4 - (lg_sl ([.ref (cA L 0), .int a1, .int a2])).length) Slot.unset).toArray = ls at hl ⊢
  have hl : lv_has ls 4 [(0, .ref (cA L 0)), (1, .int a1), (2, .int a2)] := hl
  refine lv_iconst (v := 0) hx hb d_M_at_0 (by decide) ?_
  refine lv_istore_n (lv' := [(3, .int 0), (0, .ref (cA L 0)), (1, .int a1), (2, .int a2)]) hx hb d_M_at_1 rfl hl (by decide) rfl (fun ls hl => ?_)
  obtain ⟨n_13, h⟩ := h
  refine Wl_M_at_2 xc hP hK hN (hk := fun x_12 ls h hl => ?_) n_13 0 ls h (lv_sub hl [1, 2, 3, 0] rfl)
  refine lv_iconst (v := (-1)) hx hb d_M_at_62 (by decide) ?_
  exact W.iret hx hb hr (fun t ht _ => ⟨_, rfl, h, ht⟩) (fun _ h9 => nomatch h9) d_M_at_63
abbrev rm_M_isFree : Room := { frames := 5, cells := 0, slots := 0, locals := 109 }
set_option maxHeartbeats 4000000 in
set_option maxRecDepth 100000 in
theorem Wl_M_isFree_2 {p : Program} {l : Launch} {e : Env} {s : State} {m : MethodId} {args : Array Value} {below : List Frame} {meth : Method} {c : Code} {L : cL} {I : MI} {F : MF} {G : MG} {post : Int32 → Prop} {K : Int32 → Prop} {a1 : Int32} {a2 : Int32} (xc : xC p s m args meth c b_M_isFree 5 lwG qR5 (some .boolean)) (hP : va_P L.1 vwCl (WM L I F G) s.heap) (hK : va_K L.1 vwCl (mTys L) s) (hN : mNk s)
    (hk : ∀ (a3 : Int32) (ls : Array Slot), K a3 → lv_has ls 5 [(0, .ref (cA L 0)), (1, .int a1), (2, .int a2), (3, .int a3)] → W p l e rm_M_isFree s m args below meth c s.heap [] 0 0 (MQ below (vp_Si post) args s 0 0 (fun _ => False)) (F0 m 79 ls [])) :
    ∀ (n : Nat) (a3 : Int32) (ls : Array Slot), wl_M_isFree_2 post K a1 a2 I F G n a3 → lv_has ls 5 [(0, .ref (cA L 0)), (1, .int a1), (2, .int a2), (3, .int a3)] → W p l e rm_M_isFree s m args below meth c s.heap [] 0 0 (MQ below (vp_Si post) args s 0 0 (fun _ => False)) (F0 m 2 ls []) := by
  obtain ⟨hx, hb, hml, hown, hts, hr, hlocks⟩ := id xc
  intro n
  induction n with
  | zero => intro a3 ls h; exact absurd h id
  | succ n ih =>
    intro a3 ls h hl
    refine lv_iload_n hx hb d_M_isFree_2 rfl (lv_at hl 3 rfl) ?_
    refine lv_bipush (v := 24) hx hb d_M_isFree_3 (by decide) ?_
    refine lv_icmp_ge (tgt := 79) hx hb d_M_isFree_5 (by decide) (fun c_1 => ?_) (fun c_1 => ?_)
    · replace h := h.1 c_1
      exact hk a3 ls h (lv_sub hl [0, 1, 2, 3] rfl)
    · replace h := h.2 c_1
      refine lv_aload_n hx hb d_M_isFree_8 rfl (lv_at hl 0 rfl) ?_
      refine lv_iconst (v := 0) hx hb d_M_isFree_9 (by decide) ?_
      refine lv_iload_n hx hb d_M_isFree_10 rfl (lv_at hl 3 rfl) ?_
      refine vp_callSi (va_runV (As := [.int 0, .int a3]) (rest := []) ⟨hx, hb, hml, hown, hts⟩ (c_M_at l L 0 a3 I F G _ h) (cwV 2 hts (gV wG845 wG847 wG31 wG54 wG848) rfl rfl rfl (by decide +kernel) ⟨Nat.le_of_ble_eq_true rfl, Nat.le_of_ble_eq_true rfl⟩) (mPre hK hN hP) rfl rfl hl.1 rfl (lv_room (Nat.le_of_ble_eq_true rfl)) d_M_isFree_11 ⟨Nat.le_of_ble_eq_true rfl, Nat.le_of_ble_eq_true rfl⟩).run (fun r_2 h => ?_)
      refine lv_istore (lv' := [(4, .int r_2), (0, .ref (cA L 0)), (1, .int a1), (2, .int a2), (3, .int a3)]) hx hb d_M_isFree_14 hl (by decide) rfl (fun ls hl => ?_)
      refine lv_aload_n hx hb d_M_isFree_16 rfl (lv_at hl 1 rfl) ?_
      refine lv_iconst (v := 1) hx hb d_M_isFree_17 (by decide) ?_
      refine lv_iload_n hx hb d_M_isFree_18 rfl (lv_at hl 4 rfl) ?_
      refine vp_callSi (va_runV (As := [.int 1, .int a3]) (rest := []) ⟨hx, hb, hml, hown, hts⟩ (c_M_at l L 1 a3 I F G _ h) (cwV 2 hts (gV wG845 wG847 wG31 wG54 wG848) rfl rfl rfl (by decide +kernel) ⟨Nat.le_of_ble_eq_true rfl, Nat.le_of_ble_eq_true rfl⟩) (mPre hK hN hP) rfl rfl hl.1 rfl (lv_room (Nat.le_of_ble_eq_true rfl)) d_M_isFree_19 ⟨Nat.le_of_ble_eq_true rfl, Nat.le_of_ble_eq_true rfl⟩).run (fun r_3 h => ?_)
      refine lv_iload_n hx hb d_M_isFree_22 rfl (lv_at hl 2 rfl) ?_
      refine lv_icmp_ne (tgt := 73) hx hb d_M_isFree_23 (by decide) (fun c_4 => ?_) (fun c_4 => ?_)
      · replace h := h.1 c_4
        obtain ⟨x_5, ex_5⟩ : ∃ y : Int32, y = a3 + 1 := ⟨_, rfl⟩
        replace h := h x_5 ex_5
        refine lv_iinc (v := x_5) (lv' := [(3, .int x_5), (4, .int r_2), (0, .ref (cA L 0)), (1, .int a1), (2, .int a2)]) hx hb d_M_isFree_73 hl (k := 4) rfl (by rw [ex_5]; rfl) (by decide) rfl (fun ls hl => ?_)
        refine lv_goto (tgt := 2) hx hb d_M_isFree_76 (by decide) ?_
        exact ih x_5 ls h (lv_sub hl [2, 3, 4, 0] rfl)
      · replace h := h.2 c_4
        refine lv_iload hx hb d_M_isFree_26 (lv_at hl 0 rfl) ?_
        refine lv_iconst (v := (-1)) hx hb d_M_isFree_28 (by decide) ?_
        refine lv_icmp_eq (tgt := 73) hx hb d_M_isFree_29 (by decide) (fun c_6 => ?_) (fun c_6 => ?_)
        · replace h := h.1 c_6
          obtain ⟨x_7, ex_7⟩ : ∃ y : Int32, y = a3 + 1 := ⟨_, rfl⟩
          replace h := h x_7 ex_7
          refine lv_iinc (v := x_7) (lv' := [(3, .int x_7), (4, .int r_2), (0, .ref (cA L 0)), (1, .int a1), (2, .int a2)]) hx hb d_M_isFree_73 hl (k := 4) rfl (by rw [ex_7]; rfl) (by decide) rfl (fun ls hl => ?_)
          refine lv_goto (tgt := 2) hx hb d_M_isFree_76 (by decide) ?_
          exact ih x_7 ls h (lv_sub hl [2, 3, 4, 0] rfl)
        · replace h := h.2 c_6
          refine lv_iload hx hb d_M_isFree_32 (lv_at hl 0 rfl) ?_
          refine lv_iload_n hx hb d_M_isFree_34 rfl (lv_at hl 2 rfl) ?_
          refine lv_icmp_eq (tgt := 73) hx hb d_M_isFree_35 (by decide) (fun c_8 => ?_) (fun c_8 => ?_)
          · replace h := h.1 c_8
            obtain ⟨x_9, ex_9⟩ : ∃ y : Int32, y = a3 + 1 := ⟨_, rfl⟩
            replace h := h x_9 ex_9
            refine lv_iinc (v := x_9) (lv' := [(3, .int x_9), (4, .int r_2), (0, .ref (cA L 0)), (1, .int a1), (2, .int a2)]) hx hb d_M_isFree_73 hl (k := 4) rfl (by rw [ex_9]; rfl) (by decide) rfl (fun ls hl => ?_)
            refine lv_goto (tgt := 2) hx hb d_M_isFree_76 (by decide) ?_
            exact ih x_9 ls h (lv_sub hl [2, 3, 4, 0] rfl)
          · replace h := h.2 c_8
            refine lv_aload_n hx hb d_M_isFree_38 rfl (lv_at hl 1 rfl) ?_
            refine lv_iload hx hb d_M_isFree_39 (lv_at hl 0 rfl) ?_
            refine vp_callSi (va_runV (As := [.int r_2]) (rest := []) ⟨hx, hb, hml, hown, hts⟩ (c_M_isWired l L r_2 I F G _ h) (cwV 1 hts (gV wG813 wG815 wG23 wG54 wG816) rfl rfl rfl (by decide +kernel) ⟨Nat.le_of_ble_eq_true rfl, Nat.le_of_ble_eq_true rfl⟩) (mPre hK hN hP) rfl rfl hl.1 rfl (lv_room (Nat.le_of_ble_eq_true rfl)) d_M_isFree_41 ⟨Nat.le_of_ble_eq_true rfl, Nat.le_of_ble_eq_true rfl⟩).run (fun r_10 h => ?_)
            refine lv_if_ne (tgt := 50) hx hb d_M_isFree_44 (by decide) (fun c_11 => ?_) (fun c_11 => ?_)
            · replace h := h.1 c_11
              refine lv_aload_n hx hb d_M_isFree_50 rfl (lv_at hl 1 rfl) ?_
              refine va_get (D := L.1) (ci := 5) (v := .ref (cA L 9)) (C := qR5) (T := qT5) (N := 16) hx hb hts qi5 hown hK hP 0 rfl rfl 11 (by decide) (hts _ wG743) (fun _ h9 => h9) rfl d_M_isFree_51 ?_
              refine lv_iload hx hb d_M_isFree_54 (lv_at hl 0 rfl) ?_
              obtain ⟨hi_12, h⟩ := h
              refine va_iald hx hb hK hP 9 0 rfl rfl hi_12 d_M_isFree_56 ?_
              refine lv_if_eq (tgt := 71) hx hb d_M_isFree_57 (by decide) (fun c_13 => ?_) (fun c_13 => ?_)
              · replace h := h.1 c_13
                refine lv_iconst (v := 0) hx hb d_M_isFree_71 (by decide) ?_
                exact W.zret hx hb hr rfl (fun t ht _ => ⟨_, rfl, h, ht⟩) (fun _ h9 => nomatch h9) d_M_isFree_72
              · replace h := h.2 c_13
                refine lv_aload_n hx hb d_M_isFree_60 rfl (lv_at hl 1 rfl) ?_
                refine va_get (D := L.1) (ci := 5) (v := .ref (cA L 9)) (C := qR5) (T := qT5) (N := 16) hx hb hts qi5 hown hK hP 0 rfl rfl 11 (by decide) (hts _ wG743) (fun _ h9 => h9) rfl d_M_isFree_61 ?_
                refine lv_iload hx hb d_M_isFree_64 (lv_at hl 0 rfl) ?_
                obtain ⟨hi_14, h⟩ := h
                refine va_iald hx hb hK hP 9 0 rfl rfl hi_14 d_M_isFree_66 ?_
                refine lv_iload_n hx hb d_M_isFree_67 rfl (lv_at hl 3 rfl) ?_
                refine lv_icmp_lt (tgt := 73) hx hb d_M_isFree_68 (by decide) (fun c_15 => ?_) (fun c_15 => ?_)
                · replace h := h.1 c_15
                  obtain ⟨x_16, ex_16⟩ : ∃ y : Int32, y = a3 + 1 := ⟨_, rfl⟩
                  replace h := h x_16 ex_16
                  refine lv_iinc (v := x_16) (lv' := [(3, .int x_16), (4, .int r_2), (0, .ref (cA L 0)), (1, .int a1), (2, .int a2)]) hx hb d_M_isFree_73 hl (k := 4) rfl (by rw [ex_16]; rfl) (by decide) rfl (fun ls hl => ?_)
                  refine lv_goto (tgt := 2) hx hb d_M_isFree_76 (by decide) ?_
                  exact ih x_16 ls h (lv_sub hl [2, 3, 4, 0] rfl)
                · replace h := h.2 c_15
                  refine lv_iconst (v := 0) hx hb d_M_isFree_71 (by decide) ?_
                  exact W.zret hx hb hr rfl (fun t ht _ => ⟨_, rfl, h, ht⟩) (fun _ h9 => nomatch h9) d_M_isFree_72
            · replace h := h.2 c_11
              refine lv_goto (tgt := 73) hx hb d_M_isFree_47 (by decide) ?_
              obtain ⟨x_17, ex_17⟩ : ∃ y : Int32, y = a3 + 1 := ⟨_, rfl⟩
              replace h := h x_17 ex_17
              refine lv_iinc (v := x_17) (lv' := [(3, .int x_17), (4, .int r_2), (0, .ref (cA L 0)), (1, .int a1), (2, .int a2)]) hx hb d_M_isFree_73 hl (k := 4) rfl (by rw [ex_17]; rfl) (by decide) rfl (fun ls hl => ?_)
              refine lv_goto (tgt := 2) hx hb d_M_isFree_76 (by decide) ?_
              exact ih x_17 ls h (lv_sub hl [2, 3, 4, 0] rfl)
set_option maxHeartbeats 4000000 in
set_option maxRecDepth 100000 in
theorem c_M_isFree (l : Launch) (L : cL) (a1 : Int32) (a2 : Int32) (I : MI) (F : MF) (G : MG) (post : Int32 → Prop) (h : wp_M_isFree a1 a2 I F G post) : Met l y_M_isFree (.code y_M_isFree b_M_isFree 5 (some .boolean) :: lwG) rm_M_isFree (mPc L I F G [.ref (cA L 0), .int a1, .int a2]) (vp_Si post) 0 0 (fun _ => False) := by
  refine Met.ofW (cc := b_M_isFree) (maxL := 5) (ret := (some .boolean)) (by decide) rfl ?_
  intro p e s m args below meth c s₁ B hml hv
  obtain ⟨rfl, hP, hK, hN⟩ := hv
  have xc : xC p s m _ meth c b_M_isFree 5 lwG qR5 (some .boolean) := ⟨B.exec, B.bytes, hml, findClass_of_methodNamed B.named, fun w h => atoms_spec (ws := (.code y_M_isFree b_M_isFree 5 (some .boolean) :: lwG)) B.pre w (List.mem_cons_of_mem _ h), B.returns, B.notSynchronized⟩
  obtain ⟨hx, hb, hml, hown, hts, hr, hlocks⟩ := id xc
  have hl := lv_entry ([.ref (cA L 0), .int a1, .int a2]) (n := 5) (Nat.le_of_ble_eq_true rfl)
  rw [lg_entry_eq]
  generalize (lg_sl ([.ref (cA L 0), .int a1, .int a2]) ++ List.replicate (5 - (lg_sl ([.ref (cA L 0), .int a1, .int a2])).length) Slot.unset).toArray = ls at hl ⊢
  have hl : lv_has ls 5 [(0, .ref (cA L 0)), (1, .int a1), (2, .int a2)] := hl
  refine lv_iconst (v := 1) hx hb d_M_isFree_0 (by decide) ?_
  refine lv_istore_n (lv' := [(3, .int 1), (0, .ref (cA L 0)), (1, .int a1), (2, .int a2)]) hx hb d_M_isFree_1 rfl hl (by decide) rfl (fun ls hl => ?_)
  obtain ⟨n_19, h⟩ := h
  refine Wl_M_isFree_2 xc hP hK hN (hk := fun x_18 ls h hl => ?_) n_19 1 ls h (lv_sub hl [1, 2, 3, 0] rfl)
  refine lv_iconst (v := 1) hx hb d_M_isFree_79 (by decide) ?_
  exact W.zret hx hb hr rfl (fun t ht _ => ⟨_, rfl, h, ht⟩) (fun _ h9 => nomatch h9) d_M_isFree_80
abbrev rm_M_waiting : Room := { frames := 5, cells := 0, slots := 0, locals := 109 }
set_option maxHeartbeats 4000000 in
set_option maxRecDepth 100000 in
theorem Wl_M_waiting_4 {p : Program} {l : Launch} {e : Env} {s : State} {m : MethodId} {args : Array Value} {below : List Frame} {meth : Method} {c : Code} {L : cL} {I : MI} {F : MF} {G : MG} {post : Int32 → Prop} {K : Int32 → Int32 → Prop} (xc : xC p s m args meth c b_M_waiting 3 lwG qR5 (some .int)) (hP : va_P L.1 vwCl (WM L I F G) s.heap) (hK : va_K L.1 vwCl (mTys L) s) (hN : mNk s)
    (hk : ∀ (a1 : Int32) (a2 : Int32) (ls : Array Slot), K a1 a2 → lv_has ls 3 [(0, .ref (cA L 0)), (1, .int a1), (2, .int a2)] → W p l e rm_M_waiting s m args below meth c s.heap [] 0 0 (MQ below (vp_Si post) args s 0 0 (fun _ => False)) (F0 m 36 ls [])) :
    ∀ (n : Nat) (a1 : Int32) (a2 : Int32) (ls : Array Slot), wl_M_waiting_4 post K I F G n a1 a2 → lv_has ls 3 [(0, .ref (cA L 0)), (1, .int a1), (2, .int a2)] → W p l e rm_M_waiting s m args below meth c s.heap [] 0 0 (MQ below (vp_Si post) args s 0 0 (fun _ => False)) (F0 m 4 ls []) := by
  obtain ⟨hx, hb, hml, hown, hts, hr, hlocks⟩ := id xc
  intro n
  induction n with
  | zero => intro a1 a2 ls h; exact absurd h id
  | succ n ih =>
    intro a1 a2 ls h hl
    refine lv_iload_n hx hb d_M_waiting_4 rfl (lv_at hl 2 rfl) ?_
    refine lv_bipush (v := 12) hx hb d_M_waiting_5 (by decide) ?_
    refine lv_icmp_ge (tgt := 36) hx hb d_M_waiting_7 (by decide) (fun c_1 => ?_) (fun c_1 => ?_)
    · replace h := h.1 c_1
      exact hk a1 a2 ls h (lv_sub hl [0, 1, 2] rfl)
    · replace h := h.2 c_1
      refine lv_aload_n hx hb d_M_waiting_10 rfl (lv_at hl 0 rfl) ?_
      refine lv_iload_n hx hb d_M_waiting_11 rfl (lv_at hl 2 rfl) ?_
      refine vp_callSi (va_runV (As := [.int a2]) (rest := []) ⟨hx, hb, hml, hown, hts⟩ (c_M_isWired l L a2 I F G _ h) (cwV 1 hts (gV wG813 wG815 wG23 wG54 wG816) rfl rfl rfl (by decide +kernel) ⟨Nat.le_of_ble_eq_true rfl, Nat.le_of_ble_eq_true rfl⟩) (mPre hK hN hP) rfl rfl hl.1 rfl (lv_room (Nat.le_of_ble_eq_true rfl)) d_M_waiting_12 ⟨Nat.le_of_ble_eq_true rfl, Nat.le_of_ble_eq_true rfl⟩).run (fun r_2 h => ?_)
      refine lv_if_eq (tgt := 30) hx hb d_M_waiting_15 (by decide) (fun c_3 => ?_) (fun c_3 => ?_)
      · replace h := h.1 c_3
        obtain ⟨x_4, ex_4⟩ : ∃ y : Int32, y = a2 + 1 := ⟨_, rfl⟩
        replace h := h x_4 ex_4
        refine lv_iinc (v := x_4) (lv' := [(2, .int x_4), (0, .ref (cA L 0)), (1, .int a1)]) hx hb d_M_waiting_30 hl (k := 2) rfl (by rw [ex_4]; rfl) (by decide) rfl (fun ls hl => ?_)
        refine lv_goto (tgt := 4) hx hb d_M_waiting_33 (by decide) ?_
        exact ih a1 x_4 ls h (lv_sub hl [1, 2, 0] rfl)
      · replace h := h.2 c_3
        refine lv_aload_n hx hb d_M_waiting_18 rfl (lv_at hl 0 rfl) ?_
        refine va_get (D := L.1) (ci := 5) (v := .ref (cA L 9)) (C := qR5) (T := qT5) (N := 16) hx hb hts qi5 hown hK hP 0 rfl rfl 11 (by decide) (hts _ wG743) (fun _ h9 => h9) rfl d_M_waiting_19 ?_
        refine lv_iload_n hx hb d_M_waiting_22 rfl (lv_at hl 2 rfl) ?_
        obtain ⟨hi_5, h⟩ := h
        refine va_iald hx hb hK hP 9 0 rfl rfl hi_5 d_M_waiting_23 ?_
        refine lv_if_ne (tgt := 30) hx hb d_M_waiting_24 (by decide) (fun c_6 => ?_) (fun c_6 => ?_)
        · replace h := h.1 c_6
          obtain ⟨x_7, ex_7⟩ : ∃ y : Int32, y = a2 + 1 := ⟨_, rfl⟩
          replace h := h x_7 ex_7
          refine lv_iinc (v := x_7) (lv' := [(2, .int x_7), (0, .ref (cA L 0)), (1, .int a1)]) hx hb d_M_waiting_30 hl (k := 2) rfl (by rw [ex_7]; rfl) (by decide) rfl (fun ls hl => ?_)
          refine lv_goto (tgt := 4) hx hb d_M_waiting_33 (by decide) ?_
          exact ih a1 x_7 ls h (lv_sub hl [1, 2, 0] rfl)
        · replace h := h.2 c_6
          obtain ⟨x_8, ex_8⟩ : ∃ y : Int32, y = a1 + 1 := ⟨_, rfl⟩
          replace h := h x_8 ex_8
          refine lv_iinc (v := x_8) (lv' := [(1, .int x_8), (0, .ref (cA L 0)), (2, .int a2)]) hx hb d_M_waiting_27 hl (k := 1) rfl (by rw [ex_8]; rfl) (by decide) rfl (fun ls hl => ?_)
          obtain ⟨x_9, ex_9⟩ : ∃ y : Int32, y = a2 + 1 := ⟨_, rfl⟩
          replace h := h x_9 ex_9
          refine lv_iinc (v := x_9) (lv' := [(2, .int x_9), (1, .int x_8), (0, .ref (cA L 0))]) hx hb d_M_waiting_30 hl (k := 2) rfl (by rw [ex_9]; rfl) (by decide) rfl (fun ls hl => ?_)
          refine lv_goto (tgt := 4) hx hb d_M_waiting_33 (by decide) ?_
          exact ih x_8 x_9 ls h (lv_sub hl [2, 1, 0] rfl)
set_option maxHeartbeats 4000000 in
set_option maxRecDepth 100000 in
theorem c_M_waiting (l : Launch) (L : cL) (I : MI) (F : MF) (G : MG) (post : Int32 → Prop) (h : wp_M_waiting I F G post) : Met l y_M_waiting (.code y_M_waiting b_M_waiting 3 (some .int) :: lwG) rm_M_waiting (mPc L I F G [.ref (cA L 0)]) (vp_Si post) 0 0 (fun _ => False) := by
  refine Met.ofW (cc := b_M_waiting) (maxL := 3) (ret := (some .int)) (by decide) rfl ?_
  intro p e s m args below meth c s₁ B hml hv
  obtain ⟨rfl, hP, hK, hN⟩ := hv
  have xc : xC p s m _ meth c b_M_waiting 3 lwG qR5 (some .int) := ⟨B.exec, B.bytes, hml, findClass_of_methodNamed B.named, fun w h => atoms_spec (ws := (.code y_M_waiting b_M_waiting 3 (some .int) :: lwG)) B.pre w (List.mem_cons_of_mem _ h), B.returns, B.notSynchronized⟩
  obtain ⟨hx, hb, hml, hown, hts, hr, hlocks⟩ := id xc
  have hl := lv_entry ([.ref (cA L 0)]) (n := 3) (Nat.le_of_ble_eq_true rfl)
  rw [lg_entry_eq]
  generalize (lg_sl ([.ref (cA L 0)]) ++ List.replicate (3 - (lg_sl ([.ref (cA L 0)])).length) Slot.unset).toArray = ls at hl ⊢
  have hl : lv_has ls 3 [(0, .ref (cA L 0))] := hl
  refine lv_iconst (v := 0) hx hb d_M_waiting_0 (by decide) ?_
  refine lv_istore_n (lv' := [(1, .int 0), (0, .ref (cA L 0))]) hx hb d_M_waiting_1 rfl hl (by decide) rfl (fun ls hl => ?_)
  refine lv_iconst (v := 0) hx hb d_M_waiting_2 (by decide) ?_
  refine lv_istore_n (lv' := [(2, .int 0), (1, .int 0), (0, .ref (cA L 0))]) hx hb d_M_waiting_3 rfl hl (by decide) rfl (fun ls hl => ?_)
  obtain ⟨n_12, h⟩ := h
  refine Wl_M_waiting_4 xc hP hK hN (hk := fun x_10 x_11 ls h hl => ?_) n_12 0 0 ls h (lv_sub hl [2, 1, 0] rfl)
  refine lv_iload_n hx hb d_M_waiting_36 rfl (lv_at hl 1 rfl) ?_
  exact W.iret hx hb hr (fun t ht _ => ⟨_, rfl, h, ht⟩) (fun _ h9 => nomatch h9) d_M_waiting_37
