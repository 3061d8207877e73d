abbrev rm_M_place : Room := { frames := 4, cells := 0, slots := 0, locals := 88 }
set_option maxHeartbeats 4000000 in
set_option maxRecDepth 100000 in
theorem Wl_M_place_17 {p : Program} {l : Launch} {e : Env} {s : State} {m : MethodId} {args : Array Value} {below : List Frame} {meth : Method} {c : Code} {L : cL} {I : MI} {F : MF} {G : MG} {post : Int32 → Prop} {K : Int32 → Int32 → Prop} {a1 : Int32} {a2 : Int32} {a4 : Int32} (xc : xC p s m args meth c b_M_place 6 lwG qR5 (some .int)) (hP : va_P L.1 vwCl (WM L I F G) s.heap) (hK : va_K L.1 vwCl (mTys L) s) (hN : mNk s)
    (hk : ∀ (a3 : Int32) (a5 : Int32) (ls : Array Slot), K a3 a5 → lv_has ls 6 [(0, .ref (cA L 0)), (1, .int a1), (2, .int a2), (3, .int a3), (4, .int a4), (5, .int a5)] → W p l e rm_M_place s m args below meth c s.heap [] 0 0 (MQ below (vp_Si post) args s 0 0 (fun _ => False)) (F0 m 65 ls [])) :
    ∀ (n : Nat) (a3 : Int32) (a5 : Int32) (ls : Array Slot), wl_M_place_17 post K a1 a2 a4 I F G n a3 a5 → lv_has ls 6 [(0, .ref (cA L 0)), (1, .int a1), (2, .int a2), (3, .int a3), (4, .int a4), (5, .int a5)] → W p l e rm_M_place s m args below meth c s.heap [] 0 0 (MQ below (vp_Si post) args s 0 0 (fun _ => False)) (F0 m 17 ls []) := by
  obtain ⟨hx, hb, hml, hown, hts, hr, hlocks⟩ := id xc
  intro n
  induction n with
  | zero => intro a3 a5 ls h; exact absurd h id
  | succ n ih =>
    intro a3 a5 ls h hl
    refine lv_iload hx hb d_M_place_17 (lv_at hl 5 rfl) ?_
    refine lv_aload_n hx hb d_M_place_19 rfl (lv_at hl 0 rfl) ?_
    refine lv_iload hx hb d_M_place_20 (lv_at hl 4 rfl) ?_
    refine vp_callSi (va_runV (As := [.int a4]) (rest := [.int a5]) ⟨hx, hb, hml, hown, hts⟩ (c_M_pinsOf l L a4 I F G _ h) (cwV 1 hts (gV wG821 wG823 wG25 wG54 wG824) rfl rfl rfl (by decide +kernel) ⟨Nat.le_of_ble_eq_true rfl, Nat.le_of_ble_eq_true rfl⟩) (mPre hK hN hP) rfl rfl hl.1 rfl (lv_room (Nat.le_of_ble_eq_true rfl)) d_M_place_22 ⟨Nat.le_of_ble_eq_true rfl, Nat.le_of_ble_eq_true rfl⟩).run (fun r_2 h => ?_)
    refine lv_icmp_ge (tgt := 65) hx hb d_M_place_25 (by decide) (fun c_3 => ?_) (fun c_3 => ?_)
    · replace h := h.1 c_3
      exact hk a3 a5 ls h (lv_sub hl [0, 1, 2, 3, 4, 5] rfl)
    · replace h := h.2 c_3
      refine lv_aload_n hx hb d_M_place_28 rfl (lv_at hl 0 rfl) ?_
      refine lv_iload hx hb d_M_place_29 (lv_at hl 4 rfl) ?_
      refine lv_iload hx hb d_M_place_31 (lv_at hl 5 rfl) ?_
      refine vp_callSi (va_runV (As := [.int a4, .int a5]) (rest := []) ⟨hx, hb, hml, hown, hts⟩ (c_M_netOf l L a4 a5 I F G _ h) (cwV 2 hts (gV wG825 wG827 wG26 wG54 wG828) rfl rfl rfl (by decide +kernel) ⟨Nat.le_of_ble_eq_true rfl, Nat.le_of_ble_eq_true rfl⟩) (mPre hK hN hP) rfl rfl hl.1 rfl (lv_room (Nat.le_of_ble_eq_true rfl)) d_M_place_33 ⟨Nat.le_of_ble_eq_true rfl, Nat.le_of_ble_eq_true rfl⟩).run (fun r_4 h => ?_)
      refine lv_iload_n hx hb d_M_place_36 rfl (lv_at hl 1 rfl) ?_
      refine lv_icmp_eq (tgt := 43) hx hb d_M_place_37 (by decide) (fun c_5 => ?_) (fun c_5 => ?_)
      · replace h := h.1 c_5
        refine lv_iload_n hx hb d_M_place_43 rfl (lv_at hl 3 rfl) ?_
        refine lv_if_ne (tgt := 56) hx hb d_M_place_44 (by decide) (fun c_6 => ?_) (fun c_6 => ?_)
        · replace h := h.1 c_6
          obtain ⟨x_7, ex_7⟩ : ∃ y : Int32, y = a3 + (-1) := ⟨_, rfl⟩
          replace h := h x_7 ex_7
          refine lv_iinc (v := x_7) (lv' := [(3, .int x_7), (0, .ref (cA L 0)), (1, .int a1), (2, .int a2), (4, .int a4), (5, .int a5)]) hx hb d_M_place_56 hl (k := 3) rfl (by rw [ex_7]; rfl) (by decide) rfl (fun ls hl => ?_)
          obtain ⟨x_8, ex_8⟩ : ∃ y : Int32, y = a5 + 1 := ⟨_, rfl⟩
          replace h := h x_8 ex_8
          refine lv_iinc (v := x_8) (lv' := [(5, .int x_8), (3, .int x_7), (0, .ref (cA L 0)), (1, .int a1), (2, .int a2), (4, .int a4)]) hx hb d_M_place_59 hl (k := 5) rfl (by rw [ex_8]; rfl) (by decide) rfl (fun ls hl => ?_)
          refine lv_goto (tgt := 17) hx hb d_M_place_62 (by decide) ?_
          exact ih x_7 x_8 ls h (lv_sub hl [2, 3, 4, 1, 5, 0] rfl)
        · replace h := h.2 c_6
          refine lv_aload_n hx hb d_M_place_47 rfl (lv_at hl 0 rfl) ?_
          refine lv_iload hx hb d_M_place_48 (lv_at hl 4 rfl) ?_
          refine lv_iload hx hb d_M_place_50 (lv_at hl 5 rfl) ?_
          refine vp_callSi (va_runV (As := [.int a4, .int a5]) (rest := []) ⟨hx, hb, hml, hown, hts⟩ (c_M_pinAt l L a4 a5 I F G _ h) (cwV 2 hts (gV wG905 wG907 wG41 wG54 wG908) rfl rfl rfl (by decide +kernel) ⟨Nat.le_of_ble_eq_true rfl, Nat.le_of_ble_eq_true rfl⟩) (mPre hK hN hP) rfl rfl hl.1 rfl (lv_room (Nat.le_of_ble_eq_true rfl)) d_M_place_52 ⟨Nat.le_of_ble_eq_true rfl, Nat.le_of_ble_eq_true rfl⟩).run (fun r_9 h => ?_)
          exact W.iret hx hb hr (fun t ht _ => ⟨_, rfl, h, ht⟩) (fun _ h9 => nomatch h9) d_M_place_55
      · replace h := h.2 c_5
        refine lv_goto (tgt := 59) hx hb d_M_place_40 (by decide) ?_
        obtain ⟨x_10, ex_10⟩ : ∃ y : Int32, y = a5 + 1 := ⟨_, rfl⟩
        replace h := h x_10 ex_10
        refine lv_iinc (v := x_10) (lv' := [(5, .int x_10), (0, .ref (cA L 0)), (1, .int a1), (2, .int a2), (3, .int a3), (4, .int a4)]) hx hb d_M_place_59 hl (k := 5) rfl (by rw [ex_10]; rfl) (by decide) rfl (fun ls hl => ?_)
        refine lv_goto (tgt := 17) hx hb d_M_place_62 (by decide) ?_
        exact ih a3 x_10 ls h (lv_sub hl [1, 2, 3, 4, 5, 0] rfl)
set_option maxHeartbeats 4000000 in
set_option maxRecDepth 100000 in
theorem Wl_M_place_5 {p : Program} {l : Launch} {e : Env} {s : State} {m : MethodId} {args : Array Value} {below : List Frame} {meth : Method} {c : Code} {L : cL} {I : MI} {F : MF} {G : MG} {post : Int32 → Prop} {K : Int32 → Int32 → Prop} {a1 : Int32} {a2 : Int32} (xc : xC p s m args meth c b_M_place 6 lwG qR5 (some .int)) (hP : va_P L.1 vwCl (WM L I F G) s.heap) (hK : va_K L.1 vwCl (mTys L) s) (hN : mNk s)
    (hk : ∀ (a3 : Int32) (a4 : Int32) (ls : Array Slot), K a3 a4 → lv_has ls 6 [(0, .ref (cA L 0)), (1, .int a1), (2, .int a2), (3, .int a3), (4, .int a4)] → W p l e rm_M_place s m args below meth c s.heap [] 0 0 (MQ below (vp_Si post) args s 0 0 (fun _ => False)) (F0 m 71 ls [])) :
    ∀ (n : Nat) (a3 : Int32) (a4 : Int32) (ls : Array Slot), wl_M_place_5 post K a1 a2 I F G n a3 a4 → lv_has ls 6 [(0, .ref (cA L 0)), (1, .int a1), (2, .int a2), (3, .int a3), (4, .int a4)] → W p l e rm_M_place s m args below meth c s.heap [] 0 0 (MQ below (vp_Si post) args s 0 0 (fun _ => False)) (F0 m 5 ls []) := by
  obtain ⟨hx, hb, hml, hown, hts, hr, hlocks⟩ := id xc
  intro n
  induction n with
  | zero => intro a3 a4 ls h; exact absurd h id
  | succ n ih =>
    intro a3 a4 ls h hl
    refine lv_iload hx hb d_M_place_5 (lv_at hl 4 rfl) ?_
    refine lv_aload_n hx hb d_M_place_7 rfl (lv_at hl 0 rfl) ?_
    refine va_get (D := L.1) (ci := 5) (v := .int (I 1)) (C := qR5) (T := qT5) (N := 16) hx hb hts qi5 hown hK hP 0 rfl rfl 1 (by decide) (hts _ wG733) (fun _ h9 => h9) rfl d_M_place_8 ?_
    refine lv_icmp_ge (tgt := 71) hx hb d_M_place_11 (by decide) (fun c_1 => ?_) (fun c_1 => ?_)
    · replace h := h.1 c_1
      exact hk a3 a4 ls h (lv_sub hl [0, 1, 2, 3, 4] rfl)
    · replace h := h.2 c_1
      refine lv_iconst (v := 0) hx hb d_M_place_14 (by decide) ?_
      refine lv_istore (lv' := [(5, .int 0), (0, .ref (cA L 0)), (1, .int a1), (2, .int a2), (3, .int a3), (4, .int a4)]) hx hb d_M_place_15 hl (by decide) rfl (fun ls hl => ?_)
      obtain ⟨n_14, h⟩ := h
      refine Wl_M_place_17 xc hP hK hN (hk := fun x_11 x_12 ls h hl => ?_) n_14 a3 0 ls h (lv_sub hl [1, 2, 3, 4, 5, 0] rfl)
      obtain ⟨x_13, ex_13⟩ : ∃ y : Int32, y = a4 + 1 := ⟨_, rfl⟩
      replace h := h x_13 ex_13
      refine lv_iinc (v := x_13) (lv' := [(4, .int x_13), (0, .ref (cA L 0)), (1, .int a1), (2, .int a2), (3, .int x_11), (5, .int x_12)]) hx hb d_M_place_65 hl (k := 4) rfl (by rw [ex_13]; rfl) (by decide) rfl (fun ls hl => ?_)
      refine lv_goto (tgt := 5) hx hb d_M_place_68 (by decide) ?_
      exact ih x_11 x_13 ls h (lv_sub hl [1, 2, 3, 4, 0] rfl)
set_option maxHeartbeats 4000000 in
set_option maxRecDepth 100000 in
theorem c_M_place (l : Launch) (L : cL) (a1 : Int32) (a2 : Int32) (I : MI) (F : MF) (G : MG) (post : Int32 → Prop) (h : wp_M_place a1 a2 I F G post) : Met l y_M_place (.code y_M_place b_M_place 6 (some .int) :: lwG) rm_M_place (mPc L I F G [.ref (cA L 0), .int a1, .int a2]) (vp_Si post) 0 0 (fun _ => False) := by
  refine Met.ofW (cc := b_M_place) (maxL := 6) (ret := (some .int)) (by decide) rfl ?_
  intro p e s m args below meth c s₁ B hml hv
  obtain ⟨rfl, hP, hK, hN⟩ := hv
  have xc : xC p s m _ meth c b_M_place 6 lwG qR5 (some .int) := ⟨B.exec, B.bytes, hml, findClass_of_methodNamed B.named, fun w h => atoms_spec (ws := (.code y_M_place b_M_place 6 (some .int) :: lwG)) B.pre w (List.mem_cons_of_mem _ h), B.returns, B.notSynchronized⟩
  obtain ⟨hx, hb, hml, hown, hts, hr, hlocks⟩ := id xc
  have hl := lv_entry ([.ref (cA L 0), .int a1, .int a2]) (n := 6) (Nat.le_of_ble_eq_true rfl)
  rw [lg_entry_eq]
  generalize (lg_sl ([.ref (cA L 0), .int a1, .int a2]) ++ List.replicate (6 - (lg_sl ([.ref (cA L 0), .int a1, .int a2])).length) Slot.unset).toArray = ls at hl ⊢
  have hl : lv_has ls 6 [(0, .ref (cA L 0)), (1, .int a1), (2, .int a2)] := hl
  refine lv_iload_n hx hb d_M_place_0 rfl (lv_at hl 2 rfl) ?_
  refine lv_istore_n (lv' := [(3, .int a2), (0, .ref (cA L 0)), (1, .int a1), (2, .int a2)]) hx hb d_M_place_1 rfl hl (by decide) rfl (fun ls hl => ?_)
  refine lv_iconst (v := 0) hx hb d_M_place_2 (by decide) ?_
  refine lv_istore (lv' := [(4, .int 0), (3, .int a2), (0, .ref (cA L 0)), (1, .int a1), (2, .int a2)]) hx hb d_M_place_3 hl (by decide) rfl (fun ls hl => ?_)
  obtain ⟨n_22, h⟩ := h
  refine Wl_M_place_5 xc hP hK hN (hk := fun x_15 x_16 ls h hl => ?_) n_22 a2 0 ls h (lv_sub hl [2, 3, 4, 1, 0] rfl)
  refine lv_iload_n hx hb d_M_place_71 rfl (lv_at hl 3 rfl) ?_
  refine lv_if_ne (tgt := 100) hx hb d_M_place_72 (by decide) (fun c_17 => ?_) (fun c_17 => ?_)
  · replace h := h.1 c_17
    refine lv_iconst (v := (-1)) hx hb d_M_place_100 (by decide) ?_
    exact W.iret hx hb hr (fun t ht _ => ⟨_, rfl, h, ht⟩) (fun _ h9 => nomatch h9) d_M_place_101
  · replace h := h.2 c_17
    refine lv_aload_n hx hb d_M_place_75 rfl (lv_at hl 0 rfl) ?_
    refine lv_iload_n hx hb d_M_place_76 rfl (lv_at hl 1 rfl) ?_
    refine vp_callSi (va_runV (As := [.int a1]) (rest := []) ⟨hx, hb, hml, hown, hts⟩ (c_M_hasPad l L a1 I F G _ h) (cwV 1 hts (gV wG829 wG831 wG27 wG54 wG832) rfl rfl rfl (by decide +kernel) ⟨Nat.le_of_ble_eq_true rfl, Nat.le_of_ble_eq_true rfl⟩) (mPre hK hN hP) rfl rfl hl.1 rfl (lv_room (Nat.le_of_ble_eq_true rfl)) d_M_place_77 ⟨Nat.le_of_ble_eq_true rfl, Nat.le_of_ble_eq_true rfl⟩).run (fun r_18 h => ?_)
    refine lv_if_eq (tgt := 100) hx hb d_M_place_80 (by decide) (fun c_19 => ?_) (fun c_19 => ?_)
    · replace h := h.1 c_19
      refine lv_iconst (v := (-1)) hx hb d_M_place_100 (by decide) ?_
      exact W.iret hx hb hr (fun t ht _ => ⟨_, rfl, h, ht⟩) (fun _ h9 => nomatch h9) d_M_place_101
    · replace h := h.2 c_19
      refine lv_aload_n hx hb d_M_place_83 rfl (lv_at hl 0 rfl) ?_
      refine va_get (D := L.1) (ci := 5) (v := .ref (cA L 11)) (C := qR5) (T := qT5) (N := 16) hx hb hts qi5 hown hK hP 0 rfl rfl 13 (by decide) (hts _ wG745) (fun _ h9 => h9) rfl d_M_place_84 ?_
      refine lv_bipush (v := 48) hx hb d_M_place_87 (by decide) ?_
      refine lv_aload_n hx hb d_M_place_89 rfl (lv_at hl 0 rfl) ?_
      refine va_get (D := L.1) (ci := 5) (v := .ref (cA L 9)) (C := qR5) (T := qT5) (N := 16) hx hb hts qi5 hown hK hP 0 rfl rfl 11 (by decide) (hts _ wG743) (fun _ h9 => h9) rfl d_M_place_90 ?_
      refine lv_iload_n hx hb d_M_place_93 rfl (lv_at hl 1 rfl) ?_
      obtain ⟨hi_20, h⟩ := h
      refine va_iald hx hb hK hP 9 0 rfl rfl hi_20 d_M_place_94 ?_
      refine lv_imul hx hb d_M_place_95 ?_
      obtain ⟨hi_21, h⟩ := h
      refine va_iald hx hb hK hP 11 0 rfl rfl hi_21 d_M_place_96 ?_
      refine lv_goto (tgt := 101) hx hb d_M_place_97 (by decide) ?_
      exact W.iret hx hb hr (fun t ht _ => ⟨_, rfl, h, ht⟩) (fun _ h9 => nomatch h9) d_M_place_101
abbrev rm_M_isOpen : Room := { frames := 5, cells := 0, slots := 0, locals := 113 }
set_option maxHeartbeats 4000000 in
set_option maxRecDepth 100000 in
theorem Wl_M_isOpen_2 {p : Program} {l : Launch} {e : Env} {s : State} {m : MethodId} {args : Array Value} {below : List Frame} {meth : Method} {c : Code} {L : cL} {I : MI} {F : MF} {G : MG} {post : Int32 → Prop} {K : Int32 → Prop} {a1 : Int32} (xc : xC p s m args meth c b_M_isOpen 3 lwG qR5 (some .boolean)) (hP : va_P L.1 vwCl (WM L I F G) s.heap) (hK : va_K L.1 vwCl (mTys L) s) (hN : mNk s)
    (hk : ∀ (a2 : Int32) (ls : Array Slot), K a2 → lv_has ls 3 [(0, .ref (cA L 0)), (1, .int a1), (2, .int a2)] → W p l e rm_M_isOpen s m args below meth c s.heap [] 0 0 (MQ below (vp_Si post) args s 0 0 (fun _ => False)) (F0 m 35 ls [])) :
    ∀ (n : Nat) (a2 : Int32) (ls : Array Slot), wl_M_isOpen_2 post K a1 I F G n a2 → lv_has ls 3 [(0, .ref (cA L 0)), (1, .int a1), (2, .int a2)] → W p l e rm_M_isOpen s m args below meth c s.heap [] 0 0 (MQ below (vp_Si post) args s 0 0 (fun _ => False)) (F0 m 2 ls []) := by
  obtain ⟨hx, hb, hml, hown, hts, hr, hlocks⟩ := id xc
  intro n
  induction n with
  | zero => intro a2 ls h; exact absurd h id
  | succ n ih =>
    intro a2 ls h hl
    refine lv_aload_n hx hb d_M_isOpen_2 rfl (lv_at hl 0 rfl) ?_
    refine lv_iload_n hx hb d_M_isOpen_3 rfl (lv_at hl 1 rfl) ?_
    refine lv_iload_n hx hb d_M_isOpen_4 rfl (lv_at hl 2 rfl) ?_
    refine vp_callSi (va_runV (As := [.int a1, .int a2]) (rest := []) ⟨hx, hb, hml, hown, hts⟩ (c_M_place l L a1 a2 I F G _ h) (cwV 2 hts (gV wG917 wG919 wG43 wG54 wG920) rfl rfl rfl (by decide +kernel) ⟨Nat.le_of_ble_eq_true rfl, Nat.le_of_ble_eq_true rfl⟩) (mPre hK hN hP) rfl rfl hl.1 rfl (lv_room (Nat.le_of_ble_eq_true rfl)) d_M_isOpen_5 ⟨Nat.le_of_ble_eq_true rfl, Nat.le_of_ble_eq_true rfl⟩).run (fun r_1 h => ?_)
    refine lv_iconst (v := (-1)) hx hb d_M_isOpen_8 (by decide) ?_
    refine lv_icmp_eq (tgt := 35) hx hb d_M_isOpen_9 (by decide) (fun c_2 => ?_) (fun c_2 => ?_)
    · replace h := h.1 c_2
      exact hk a2 ls h (lv_sub hl [0, 1, 2] rfl)
    · replace h := h.2 c_2
      refine lv_aload_n hx hb d_M_isOpen_12 rfl (lv_at hl 0 rfl) ?_
      refine lv_iload_n hx hb d_M_isOpen_13 rfl (lv_at hl 1 rfl) ?_
      refine lv_iload_n hx hb d_M_isOpen_14 rfl (lv_at hl 2 rfl) ?_
      refine vp_callSi (va_runV (As := [.int a1, .int a2]) (rest := []) ⟨hx, hb, hml, hown, hts⟩ (c_M_place l L a1 a2 I F G _ h) (cwV 2 hts (gV wG917 wG919 wG43 wG54 wG920) rfl rfl rfl (by decide +kernel) ⟨Nat.le_of_ble_eq_true rfl, Nat.le_of_ble_eq_true rfl⟩) (mPre hK hN hP) rfl rfl hl.1 rfl (lv_room (Nat.le_of_ble_eq_true rfl)) d_M_isOpen_15 ⟨Nat.le_of_ble_eq_true rfl, Nat.le_of_ble_eq_true rfl⟩).run (fun r_3 h => ?_)
      refine lv_aload_n hx hb d_M_isOpen_18 rfl (lv_at hl 0 rfl) ?_
      refine lv_iload_n hx hb d_M_isOpen_19 rfl (lv_at hl 1 rfl) ?_
      refine lv_iconst (v := 0) hx hb d_M_isOpen_20 (by decide) ?_
      refine vp_callSi (va_runV (As := [.int a1, .int 0]) (rest := [.int r_3]) ⟨hx, hb, hml, hown, hts⟩ (c_M_place l L a1 0 I F G _ h) (cwV 2 hts (gV wG917 wG919 wG43 wG54 wG920) rfl rfl rfl (by decide +kernel) ⟨Nat.le_of_ble_eq_true rfl, Nat.le_of_ble_eq_true rfl⟩) (mPre hK hN hP) rfl rfl hl.1 rfl (lv_room (Nat.le_of_ble_eq_true rfl)) d_M_isOpen_21 ⟨Nat.le_of_ble_eq_true rfl, Nat.le_of_ble_eq_true rfl⟩).run (fun r_4 h => ?_)
      refine lv_icmp_eq (tgt := 29) hx hb d_M_isOpen_24 (by decide) (fun c_5 => ?_) (fun c_5 => ?_)
      · replace h := h.1 c_5
        obtain ⟨x_6, ex_6⟩ : ∃ y : Int32, y = a2 + 1 := ⟨_, rfl⟩
        replace h := h x_6 ex_6
        refine lv_iinc (v := x_6) (lv' := [(2, .int x_6), (0, .ref (cA L 0)), (1, .int a1)]) hx hb d_M_isOpen_29 hl (k := 2) rfl (by rw [ex_6]; rfl) (by decide) rfl (fun ls hl => ?_)
        refine lv_goto (tgt := 2) hx hb d_M_isOpen_32 (by decide) ?_
        exact ih x_6 ls h (lv_sub hl [1, 2, 0] rfl)
      · replace h := h.2 c_5
        refine lv_iconst (v := 1) hx hb d_M_isOpen_27 (by decide) ?_
        exact W.zret hx hb hr rfl (fun t ht _ => ⟨_, rfl, h, ht⟩) (fun _ h9 => nomatch h9) d_M_isOpen_28
set_option maxHeartbeats 4000000 in
set_option maxRecDepth 100000 in
theorem c_M_isOpen (l : Launch) (L : cL) (a1 : Int32) (I : MI) (F : MF) (G : MG) (post : Int32 → Prop) (h : wp_M_isOpen a1 I F G post) : Met l y_M_isOpen (.code y_M_isOpen b_M_isOpen 3 (some .boolean) :: lwG) rm_M_isOpen (mPc L I F G [.ref (cA L 0), .int a1]) (vp_Si post) 0 0 (fun _ => False) := by
  refine Met.ofW (cc := b_M_isOpen) (maxL := 3) (ret := (some .boolean)) (by decide) rfl ?_
  intro p e s m args below meth c s₁ B hml hv
  obtain ⟨rfl, hP, hK, hN⟩ := hv
  have xc : xC p s m _ meth c b_M_isOpen 3 lwG qR5 (some .boolean) := ⟨B.exec, B.bytes, hml, findClass_of_methodNamed B.named, fun w h => atoms_spec (ws := (.code y_M_isOpen b_M_isOpen 3 (some .boolean) :: lwG)) B.pre w (List.mem_cons_of_mem _ h), B.returns, B.notSynchronized⟩
  obtain ⟨hx, hb, hml, hown, hts, hr, hlocks⟩ := id xc
  have hl := lv_entry ([.ref (cA L 0), .int a1]) (n := 3) (Nat.le_of_ble_eq_true rfl)
  rw [lg_entry_eq]
  generalize (lg_sl ([.ref (cA L 0), .int a1]) ++ List.replicate (3 - (lg_sl ([.ref (cA L 0), .int a1])).length) Slot.unset).toArray = ls at hl ⊢
  have hl : lv_has ls 3 [(0, .ref (cA L 0)), (1, .int a1)] := hl
  refine lv_iconst (v := 1) hx hb d_M_isOpen_0 (by decide) ?_
  refine lv_istore_n (lv' := [(2, .int 1), (0, .ref (cA L 0)), (1, .int a1)]) hx hb d_M_isOpen_1 rfl hl (by decide) rfl (fun ls hl => ?_)
  obtain ⟨n_8, h⟩ := h
  refine Wl_M_isOpen_2 xc hP hK hN (hk := fun x_7 ls h hl => ?_) n_8 1 ls h (lv_sub hl [1, 2, 0] rfl)
  refine lv_iconst (v := 0) hx hb d_M_isOpen_35 (by decide) ?_
  exact W.zret hx hb hr rfl (fun t ht _ => ⟨_, rfl, h, ht⟩) (fun _ h9 => nomatch h9) d_M_isOpen_36
abbrev rm_M_isShort : Room := { frames := 5, cells := 0, slots := 0, locals := 113 }
set_option maxHeartbeats 4000000 in
set_option maxRecDepth 100000 in
theorem Wl_M_isShort_15 {p : Program} {l : Launch} {e : Env} {s : State} {m : MethodId} {args : Array Value} {below : List Frame} {meth : Method} {c : Code} {L : cL} {I : MI} {F : MF} {G : MG} {post : Int32 → Prop} {K : Int32 → Prop} {a1 : Int32} {a2 : Int32} {a3 : Int32} (xc : xC p s m args meth c b_M_isShort 5 lwG qR5 (some .boolean)) (hP : va_P L.1 vwCl (WM L I F G) s.heap) (hK : va_K L.1 vwCl (mTys L) s) (hN : mNk s)
    (hk : ∀ (a4 : Int32) (ls : Array Slot), K a4 → lv_has ls 5 [(0, .ref (cA L 0)), (1, .int a1), (2, .int a2), (3, .int a3), (4, .int a4)] → W p l e rm_M_isShort s m args below meth c s.heap [] 0 0 (MQ below (vp_Si post) args s 0 0 (fun _ => False)) (F0 m 50 ls [])) :
    ∀ (n : Nat) (a4 : Int32) (ls : Array Slot), wl_M_isShort_15 post K a1 a2 a3 I F G n a4 → lv_has ls 5 [(0, .ref (cA L 0)), (1, .int a1), (2, .int a2), (3, .int a3), (4, .int a4)] → W p l e rm_M_isShort s m args below meth c s.heap [] 0 0 (MQ below (vp_Si post) args s 0 0 (fun _ => False)) (F0 m 15 ls []) := by
  obtain ⟨hx, hb, hml, hown, hts, hr, hlocks⟩ := id xc
  intro n
  induction n with
  | zero => intro a4 ls h; exact absurd h id
  | succ n ih =>
    intro a4 ls h hl
    refine lv_aload_n hx hb d_M_isShort_15 rfl (lv_at hl 0 rfl) ?_
    refine lv_iload_n hx hb d_M_isShort_16 rfl (lv_at hl 2 rfl) ?_
    refine lv_iload hx hb d_M_isShort_17 (lv_at hl 4 rfl) ?_
    refine vp_callSi (va_runV (As := [.int a2, .int a4]) (rest := []) ⟨hx, hb, hml, hown, hts⟩ (c_M_place l L a2 a4 I F G _ h) (cwV 2 hts (gV wG917 wG919 wG43 wG54 wG920) rfl rfl rfl (by decide +kernel) ⟨Nat.le_of_ble_eq_true rfl, Nat.le_of_ble_eq_true rfl⟩) (mPre hK hN hP) rfl rfl hl.1 rfl (lv_room (Nat.le_of_ble_eq_true rfl)) d_M_isShort_19 ⟨Nat.le_of_ble_eq_true rfl, Nat.le_of_ble_eq_true rfl⟩).run (fun r_3 h => ?_)
    refine lv_iconst (v := (-1)) hx hb d_M_isShort_22 (by decide) ?_
    refine lv_icmp_eq (tgt := 50) hx hb d_M_isShort_23 (by decide) (fun c_4 => ?_) (fun c_4 => ?_)
    · replace h := h.1 c_4
      exact hk a4 ls h (lv_sub hl [0, 1, 2, 3, 4] rfl)
    · replace h := h.2 c_4
      refine lv_aload_n hx hb d_M_isShort_26 rfl (lv_at hl 0 rfl) ?_
      refine lv_iload_n hx hb d_M_isShort_27 rfl (lv_at hl 1 rfl) ?_
      refine lv_iload_n hx hb d_M_isShort_28 rfl (lv_at hl 3 rfl) ?_
      refine vp_callSi (va_runV (As := [.int a1, .int a3]) (rest := []) ⟨hx, hb, hml, hown, hts⟩ (c_M_place l L a1 a3 I F G _ h) (cwV 2 hts (gV wG917 wG919 wG43 wG54 wG920) rfl rfl rfl (by decide +kernel) ⟨Nat.le_of_ble_eq_true rfl, Nat.le_of_ble_eq_true rfl⟩) (mPre hK hN hP) rfl rfl hl.1 rfl (lv_room (Nat.le_of_ble_eq_true rfl)) d_M_isShort_29 ⟨Nat.le_of_ble_eq_true rfl, Nat.le_of_ble_eq_true rfl⟩).run (fun r_5 h => ?_)
      refine lv_aload_n hx hb d_M_isShort_32 rfl (lv_at hl 0 rfl) ?_
      refine lv_iload_n hx hb d_M_isShort_33 rfl (lv_at hl 2 rfl) ?_
      refine lv_iload hx hb d_M_isShort_34 (lv_at hl 4 rfl) ?_
      refine vp_callSi (va_runV (As := [.int a2, .int a4]) (rest := [.int r_5]) ⟨hx, hb, hml, hown, hts⟩ (c_M_place l L a2 a4 I F G _ h) (cwV 2 hts (gV wG917 wG919 wG43 wG54 wG920) rfl rfl rfl (by decide +kernel) ⟨Nat.le_of_ble_eq_true rfl, Nat.le_of_ble_eq_true rfl⟩) (mPre hK hN hP) rfl rfl hl.1 rfl (lv_room (Nat.le_of_ble_eq_true rfl)) d_M_isShort_36 ⟨Nat.le_of_ble_eq_true rfl, Nat.le_of_ble_eq_true rfl⟩).run (fun r_6 h => ?_)
      refine lv_icmp_ne (tgt := 44) hx hb d_M_isShort_39 (by decide) (fun c_7 => ?_) (fun c_7 => ?_)
      · replace h := h.1 c_7
        obtain ⟨x_8, ex_8⟩ : ∃ y : Int32, y = a4 + 1 := ⟨_, rfl⟩
        replace h := h x_8 ex_8
        refine lv_iinc (v := x_8) (lv' := [(4, .int x_8), (0, .ref (cA L 0)), (1, .int a1), (2, .int a2), (3, .int a3)]) hx hb d_M_isShort_44 hl (k := 4) rfl (by rw [ex_8]; rfl) (by decide) rfl (fun ls hl => ?_)
        refine lv_goto (tgt := 15) hx hb d_M_isShort_47 (by decide) ?_
        exact ih x_8 ls h (lv_sub hl [1, 2, 3, 4, 0] rfl)
      · replace h := h.2 c_7
        refine lv_iconst (v := 1) hx hb d_M_isShort_42 (by decide) ?_
        exact W.zret hx hb hr rfl (fun t ht _ => ⟨_, rfl, h, ht⟩) (fun _ h9 => nomatch h9) d_M_isShort_43
set_option maxHeartbeats 4000000 in
set_option maxRecDepth 100000 in
theorem Wl_M_isShort_2 {p : Program} {l : Launch} {e : Env} {s : State} {m : MethodId} {args : Array Value} {below : List Frame} {meth : Method} {c : Code} {L : cL} {I : MI} {F : MF} {G : MG} {post : Int32 → Prop} {K : Int32 → Prop} {a1 : Int32} {a2 : Int32} (xc : xC p s m args meth c b_M_isShort 5 lwG qR5 (some .boolean)) (hP : va_P L.1 vwCl (WM L I F G) s.heap) (hK : va_K L.1 vwCl (mTys L) s) (hN : mNk s)
    (hk : ∀ (a3 : Int32) (ls : Array Slot), K a3 → lv_has ls 5 [(0, .ref (cA L 0)), (1, .int a1), (2, .int a2), (3, .int a3)] → W p l e rm_M_isShort s m args below meth c s.heap [] 0 0 (MQ below (vp_Si post) args s 0 0 (fun _ => False)) (F0 m 56 ls [])) :
    ∀ (n : Nat) (a3 : Int32) (ls : Array Slot), wl_M_isShort_2 post K a1 a2 I F G n a3 → lv_has ls 5 [(0, .ref (cA L 0)), (1, .int a1), (2, .int a2), (3, .int a3)] → W p l e rm_M_isShort s m args below meth c s.heap [] 0 0 (MQ below (vp_Si post) args s 0 0 (fun _ => False)) (F0 m 2 ls []) := by
  obtain ⟨hx, hb, hml, hown, hts, hr, hlocks⟩ := id xc
  intro n
  induction n with
  | zero => intro a3 ls h; exact absurd h id
  | succ n ih =>
    intro a3 ls h hl
    refine lv_aload_n hx hb d_M_isShort_2 rfl (lv_at hl 0 rfl) ?_
    refine lv_iload_n hx hb d_M_isShort_3 rfl (lv_at hl 1 rfl) ?_
    refine lv_iload_n hx hb d_M_isShort_4 rfl (lv_at hl 3 rfl) ?_
    refine vp_callSi (va_runV (As := [.int a1, .int a3]) (rest := []) ⟨hx, hb, hml, hown, hts⟩ (c_M_place l L a1 a3 I F G _ h) (cwV 2 hts (gV wG917 wG919 wG43 wG54 wG920) rfl rfl rfl (by decide +kernel) ⟨Nat.le_of_ble_eq_true rfl, Nat.le_of_ble_eq_true rfl⟩) (mPre hK hN hP) rfl rfl hl.1 rfl (lv_room (Nat.le_of_ble_eq_true rfl)) d_M_isShort_5 ⟨Nat.le_of_ble_eq_true rfl, Nat.le_of_ble_eq_true rfl⟩).run (fun r_1 h => ?_)
    refine lv_iconst (v := (-1)) hx hb d_M_isShort_8 (by decide) ?_
    refine lv_icmp_eq (tgt := 56) hx hb d_M_isShort_9 (by decide) (fun c_2 => ?_) (fun c_2 => ?_)
    · replace h := h.1 c_2
      exact hk a3 ls h (lv_sub hl [0, 1, 2, 3] rfl)
    · replace h := h.2 c_2
      refine lv_iconst (v := 0) hx hb d_M_isShort_12 (by decide) ?_
      refine lv_istore (lv' := [(4, .int 0), (0, .ref (cA L 0)), (1, .int a1), (2, .int a2), (3, .int a3)]) hx hb d_M_isShort_13 hl (by decide) rfl (fun ls hl => ?_)
      obtain ⟨n_11, h⟩ := h
      refine Wl_M_isShort_15 xc hP hK hN (hk := fun x_9 ls h hl => ?_) n_11 0 ls h (lv_sub hl [1, 2, 3, 4, 0] rfl)
      obtain ⟨x_10, ex_10⟩ : ∃ y : Int32, y = a3 + 1 := ⟨_, rfl⟩
      replace h := h x_10 ex_10
      refine lv_iinc (v := x_10) (lv' := [(3, .int x_10), (0, .ref (cA L 0)), (1, .int a1), (2, .int a2), (4, .int x_9)]) hx hb d_M_isShort_50 hl (k := 3) rfl (by rw [ex_10]; rfl) (by decide) rfl (fun ls hl => ?_)
      refine lv_goto (tgt := 2) hx hb d_M_isShort_53 (by decide) ?_
      exact ih x_10 ls h (lv_sub hl [1, 2, 3, 0] rfl)
set_option maxHeartbeats 4000000 in
set_option maxRecDepth 100000 in
theorem c_M_isShort (l : Launch) (L : cL) (a1 : Int32) (a2 : Int32) (I : MI) (F : MF) (G : MG) (post : Int32 → Prop) (h : wp_M_isShort a1 a2 I F G post) : Met l y_M_isShort (.code y_M_isShort b_M_isShort 5 (some .boolean) :: lwG) rm_M_isShort (mPc L I F G [.ref (cA L 0), .int a1, .int a2]) (vp_Si post) 0 0 (fun _ => False) := by
  refine Met.ofW (cc := b_M_isShort) (maxL := 5) (ret := (some .boolean)) (by decide) rfl ?_
  intro p e s m args below meth c s₁ B hml hv
  obtain ⟨rfl, hP, hK, hN⟩ := hv
  have xc : xC p s m _ meth c b_M_isShort 5 lwG qR5 (some .boolean) := ⟨B.exec, B.bytes, hml, findClass_of_methodNamed B.named, fun w h => atoms_spec (ws := (.code y_M_isShort b_M_isShort 5 (some .boolean) :: lwG)) B.pre w (List.mem_cons_of_mem _ h), B.returns, B.notSynchronized⟩
  obtain ⟨hx, hb, hml, hown, hts, hr, hlocks⟩ := id xc
  have hl := lv_entry ([.ref (cA L 0), .int a1, .int a2]) (n := 5) (Nat.le_of_ble_eq_true rfl)
  rw [lg_entry_eq]
  generalize (lg_sl ([.ref (cA L 0), .int a1, .int a2]) ++ List.replicate (5 - (lg_sl ([.ref (cA L 0), .int a1, .int a2])).length) Slot.unset).toArray = ls at hl ⊢
  have hl : lv_has ls 5 [(0, .ref (cA L 0)), (1, .int a1), (2, .int a2)] := hl
  refine lv_iconst (v := 0) hx hb d_M_isShort_0 (by decide) ?_
  refine lv_istore_n (lv' := [(3, .int 0), (0, .ref (cA L 0)), (1, .int a1), (2, .int a2)]) hx hb d_M_isShort_1 rfl hl (by decide) rfl (fun ls hl => ?_)
  obtain ⟨n_13, h⟩ := h
  refine Wl_M_isShort_2 xc hP hK hN (hk := fun x_12 ls h hl => ?_) n_13 0 ls h (lv_sub hl [1, 2, 3, 0] rfl)
  refine lv_iconst (v := 0) hx hb d_M_isShort_56 (by decide) ?_
  exact W.zret hx hb hr rfl (fun t ht _ => ⟨_, rfl, h, ht⟩) (fun _ h9 => nomatch h9) d_M_isShort_57
abbrev rm_M_faults : Room := { frames := 6, cells := 0, slots := 0, locals := 137 }
set_option maxHeartbeats 4000000 in
set_option maxRecDepth 100000 in
theorem Wl_M_faults_62 {p : Program} {l : Launch} {e : Env} {s : State} {m : MethodId} {args : Array Value} {below : List Frame} {meth : Method} {c : Code} {L : cL} {A : Nat → Prop} {I : MI} {F : MF} {G : MG} {H : Heap} {locs : List Loc} {post : Int32 → MI → MF → MG → Prop} {K : Int32 → Int32 → Prop} {a1 : Int32} {a3 : Int32} (xc : xC p s m args meth c b_M_faults 5 lwG qR5 (some .int)) (hK : va_K L.1 vwCl (mTys L) s) (hN : mNk s) (hA : ∀ q, s.heap.size ≤ q → A q) (hw : MW L A s.heap I F G H locs)
    (hk : ∀ (a2 : Int32) (a4 : Int32) (ls : Array Slot), K a2 a4 → lv_has ls 5 [(0, .ref (cA L 0)), (1, .int a1), (2, .int a2), (3, .int a3), (4, .int a4)] → W p l e rm_M_faults s m args below meth c H locs 0 0 (MQ below (mQi L A post A) args s 0 0 A) (F0 m 100 ls [])) :
    ∀ (n : Nat) (a2 : Int32) (a4 : Int32) (ls : Array Slot), wl_M_faults_62 post K a1 a3 I F G n a2 a4 → lv_has ls 5 [(0, .ref (cA L 0)), (1, .int a1), (2, .int a2), (3, .int a3), (4, .int a4)] → W p l e rm_M_faults s m args below meth c H locs 0 0 (MQ below (mQi L A post A) args s 0 0 A) (F0 m 62 ls []) := by
  obtain ⟨hx, hb, hml, hown, hts, hr, hlocks⟩ := id xc
  intro n
  induction n with
  | zero => intro a2 a4 ls h; exact absurd h id
  | succ n ih =>
    intro a2 a4 ls h hl
    refine lv_iload hx hb d_M_faults_62 (lv_at hl 4 rfl) ?_
    refine lv_iload_n hx hb d_M_faults_64 rfl (lv_at hl 3 rfl) ?_
    refine lv_icmp_ge (tgt := 100) hx hb d_M_faults_65 (by decide) (fun c_8 => ?_) (fun c_8 => ?_)
    · replace h := h.1 c_8
      exact hk a2 a4 ls h (lv_sub hl [0, 1, 2, 3, 4] rfl)
    · replace h := h.2 c_8
      refine lv_iload_n hx hb d_M_faults_68 rfl (lv_at hl 1 rfl) ?_
      refine lv_if_eq (tgt := 100) hx hb d_M_faults_69 (by decide) (fun c_9 => ?_) (fun c_9 => ?_)
      · replace h := h.1 c_9
        exact hk a2 a4 ls h (lv_sub hl [0, 1, 2, 3, 4] rfl)
      · replace h := h.2 c_9
        refine lv_aload_n hx hb d_M_faults_72 rfl (lv_at hl 0 rfl) ?_
        refine lv_iload hx hb d_M_faults_73 (lv_at hl 4 rfl) ?_
        refine vp_callSi (va_runV (As := [.int a4]) (rest := []) ⟨hx, hb, hml, hown, hts⟩ (c_M_isWired l L a4 I F G _ h) (cwV 1 hts (gV wG813 wG815 wG23 wG54 wG816) rfl rfl rfl (by decide +kernel) ⟨Nat.le_of_ble_eq_true rfl, Nat.le_of_ble_eq_true rfl⟩) (mPre hK hN hw.1) rfl rfl hl.1 rfl (lv_room (Nat.le_of_ble_eq_true rfl)) d_M_faults_75 ⟨Nat.le_of_ble_eq_true rfl, Nat.le_of_ble_eq_true rfl⟩).run (fun r_10 h => ?_)
        refine lv_if_eq (tgt := 94) hx hb d_M_faults_78 (by decide) (fun c_11 => ?_) (fun c_11 => ?_)
        · replace h := h.1 c_11
          obtain ⟨x_12, ex_12⟩ : ∃ y : Int32, y = a4 + 1 := ⟨_, rfl⟩
          replace h := h x_12 ex_12
          refine lv_iinc (v := x_12) (lv' := [(4, .int x_12), (0, .ref (cA L 0)), (1, .int a1), (2, .int a2), (3, .int a3)]) hx hb d_M_faults_94 hl (k := 4) rfl (by rw [ex_12]; rfl) (by decide) rfl (fun ls hl => ?_)
          refine lv_goto (tgt := 62) hx hb d_M_faults_97 (by decide) ?_
          exact ih a2 x_12 ls h (lv_sub hl [1, 2, 3, 4, 0] rfl)
        · replace h := h.2 c_11
          refine lv_aload_n hx hb d_M_faults_81 rfl (lv_at hl 0 rfl) ?_
          refine lv_iload_n hx hb d_M_faults_82 rfl (lv_at hl 3 rfl) ?_
          refine lv_iload hx hb d_M_faults_83 (lv_at hl 4 rfl) ?_
          refine vp_callSi (va_runV (As := [.int a3, .int a4]) (rest := []) ⟨hx, hb, hml, hown, hts⟩ (c_M_isShort l L a3 a4 I F G _ h) (cwV 2 hts (gV wG921 wG923 wG44 wG54 wG924) rfl rfl rfl (by decide +kernel) ⟨Nat.le_of_ble_eq_true rfl, Nat.le_of_ble_eq_true rfl⟩) (mPre hK hN hw.1) rfl rfl hl.1 rfl (lv_room (Nat.le_of_ble_eq_true rfl)) d_M_faults_85 ⟨Nat.le_of_ble_eq_true rfl, Nat.le_of_ble_eq_true rfl⟩).run (fun r_13 h => ?_)
          refine lv_if_eq (tgt := 94) hx hb d_M_faults_88 (by decide) (fun c_14 => ?_) (fun c_14 => ?_)
          · replace h := h.1 c_14
            obtain ⟨x_15, ex_15⟩ : ∃ y : Int32, y = a4 + 1 := ⟨_, rfl⟩
            replace h := h x_15 ex_15
            refine lv_iinc (v := x_15) (lv' := [(4, .int x_15), (0, .ref (cA L 0)), (1, .int a1), (2, .int a2), (3, .int a3)]) hx hb d_M_faults_94 hl (k := 4) rfl (by rw [ex_15]; rfl) (by decide) rfl (fun ls hl => ?_)
            refine lv_goto (tgt := 62) hx hb d_M_faults_97 (by decide) ?_
            exact ih a2 x_15 ls h (lv_sub hl [1, 2, 3, 4, 0] rfl)
          · replace h := h.2 c_14
            obtain ⟨x_16, ex_16⟩ : ∃ y : Int32, y = a2 + 1 := ⟨_, rfl⟩
            replace h := h x_16 ex_16
            refine lv_iinc (v := x_16) (lv' := [(2, .int x_16), (0, .ref (cA L 0)), (1, .int a1), (3, .int a3), (4, .int a4)]) hx hb d_M_faults_91 hl (k := 2) rfl (by rw [ex_16]; rfl) (by decide) rfl (fun ls hl => ?_)
            obtain ⟨x_17, ex_17⟩ : ∃ y : Int32, y = a4 + 1 := ⟨_, rfl⟩
            replace h := h x_17 ex_17
            refine lv_iinc (v := x_17) (lv' := [(4, .int x_17), (2, .int x_16), (0, .ref (cA L 0)), (1, .int a1), (3, .int a3)]) hx hb d_M_faults_94 hl (k := 4) rfl (by rw [ex_17]; rfl) (by decide) rfl (fun ls hl => ?_)
            refine lv_goto (tgt := 62) hx hb d_M_faults_97 (by decide) ?_
            exact ih x_16 x_17 ls h (lv_sub hl [2, 3, 1, 4, 0] rfl)
set_option maxHeartbeats 4000000 in
set_option maxRecDepth 100000 in
theorem Wl_M_faults_27 {p : Program} {l : Launch} {e : Env} {s : State} {m : MethodId} {args : Array Value} {below : List Frame} {meth : Method} {c : Code} {L : cL} {A : Nat → Prop} {I : MI} {F : MF} {G : MG} {H : Heap} {locs : List Loc} {post : Int32 → MI → MF → MG → Prop} {K : Int32 → Int32 → Prop} {a1 : Int32} (xc : xC p s m args meth c b_M_faults 5 lwG qR5 (some .int)) (hK : va_K L.1 vwCl (mTys L) s) (hN : mNk s) (hA : ∀ q, s.heap.size ≤ q → A q) (hw : MW L A s.heap I F G H locs)
    (hk : ∀ (a2 : Int32) (a3 : Int32) (ls : Array Slot), K a2 a3 → lv_has ls 5 [(0, .ref (cA L 0)), (1, .int a1), (2, .int a2), (3, .int a3)] → W p l e rm_M_faults s m args below meth c H locs 0 0 (MQ below (mQi L A post A) args s 0 0 A) (F0 m 106 ls [])) :
    ∀ (n : Nat) (a2 : Int32) (a3 : Int32) (ls : Array Slot), wl_M_faults_27 post K a1 I F G n a2 a3 → lv_has ls 5 [(0, .ref (cA L 0)), (1, .int a1), (2, .int a2), (3, .int a3)] → W p l e rm_M_faults s m args below meth c H locs 0 0 (MQ below (mQi L A post A) args s 0 0 A) (F0 m 27 ls []) := by
  obtain ⟨hx, hb, hml, hown, hts, hr, hlocks⟩ := id xc
  intro n
  induction n with
  | zero => intro a2 a3 ls h; exact absurd h id
  | succ n ih =>
    intro a2 a3 ls h hl
    refine lv_iload_n hx hb d_M_faults_27 rfl (lv_at hl 3 rfl) ?_
    refine lv_bipush (v := 12) hx hb d_M_faults_28 (by decide) ?_
    refine lv_icmp_ge (tgt := 106) hx hb d_M_faults_30 (by decide) (fun c_4 => ?_) (fun c_4 => ?_)
    · replace h := h.1 c_4
      exact hk a2 a3 ls h (lv_sub hl [0, 1, 2, 3] rfl)
    · replace h := h.2 c_4
      refine lv_aload_n hx hb d_M_faults_33 rfl (lv_at hl 0 rfl) ?_
      refine lv_iload_n hx hb d_M_faults_34 rfl (lv_at hl 3 rfl) ?_
      refine vp_callSi (va_runV (As := [.int a3]) (rest := []) ⟨hx, hb, hml, hown, hts⟩ (c_M_isWired l L a3 I F G _ h) (cwV 1 hts (gV wG813 wG815 wG23 wG54 wG816) rfl rfl rfl (by decide +kernel) ⟨Nat.le_of_ble_eq_true rfl, Nat.le_of_ble_eq_true rfl⟩) (mPre hK hN hw.1) rfl rfl hl.1 rfl (lv_room (Nat.le_of_ble_eq_true rfl)) d_M_faults_35 ⟨Nat.le_of_ble_eq_true rfl, Nat.le_of_ble_eq_true rfl⟩).run (fun r_5 h => ?_)
      refine lv_if_ne (tgt := 44) hx hb d_M_faults_38 (by decide) (fun c_6 => ?_) (fun c_6 => ?_)
      · replace h := h.1 c_6
        refine lv_iload_n hx hb d_M_faults_44 rfl (lv_at hl 1 rfl) ?_
        refine lv_if_ne (tgt := 59) hx hb d_M_faults_45 (by decide) (fun c_7 => ?_) (fun c_7 => ?_)
        · replace h := h.1 c_7
          refine lv_iconst (v := 0) hx hb d_M_faults_59 (by decide) ?_
          refine lv_istore (lv' := [(4, .int 0), (0, .ref (cA L 0)), (1, .int a1), (2, .int a2), (3, .int a3)]) hx hb d_M_faults_60 hl (by decide) rfl (fun ls hl => ?_)
          obtain ⟨n_21, h⟩ := h
          refine Wl_M_faults_62 xc hK hN hA hw (hk := fun x_18 x_19 ls h hl => ?_) n_21 a2 0 ls h (lv_sub hl [1, 2, 3, 4, 0] rfl)
          obtain ⟨x_20, ex_20⟩ : ∃ y : Int32, y = a3 + 1 := ⟨_, rfl⟩
          replace h := h x_20 ex_20
          refine lv_iinc (v := x_20) (lv' := [(3, .int x_20), (0, .ref (cA L 0)), (1, .int a1), (2, .int x_18), (4, .int x_19)]) hx hb d_M_faults_100 hl (k := 3) rfl (by rw [ex_20]; rfl) (by decide) rfl (fun ls hl => ?_)
          refine lv_goto (tgt := 27) hx hb d_M_faults_103 (by decide) ?_
          exact ih x_18 x_20 ls h (lv_sub hl [1, 2, 3, 0] rfl)
        · replace h := h.2 c_7
          refine lv_aload_n hx hb d_M_faults_48 rfl (lv_at hl 0 rfl) ?_
          refine lv_iload_n hx hb d_M_faults_49 rfl (lv_at hl 3 rfl) ?_
          refine vp_callSi (va_runV (As := [.int a3]) (rest := []) ⟨hx, hb, hml, hown, hts⟩ (c_M_isOpen l L a3 I F G _ h) (cwV 1 hts (gV wG913 wG915 wG42 wG54 wG916) rfl rfl rfl (by decide +kernel) ⟨Nat.le_of_ble_eq_true rfl, Nat.le_of_ble_eq_true rfl⟩) (mPre hK hN hw.1) rfl rfl hl.1 rfl (lv_room (Nat.le_of_ble_eq_true rfl)) d_M_faults_50 ⟨Nat.le_of_ble_eq_true rfl, Nat.le_of_ble_eq_true rfl⟩).run (fun r_22 h => ?_)
          refine lv_if_eq (tgt := 59) hx hb d_M_faults_53 (by decide) (fun c_23 => ?_) (fun c_23 => ?_)
          · replace h := h.1 c_23
            refine lv_iconst (v := 0) hx hb d_M_faults_59 (by decide) ?_
            refine lv_istore (lv' := [(4, .int 0), (0, .ref (cA L 0)), (1, .int a1), (2, .int a2), (3, .int a3)]) hx hb d_M_faults_60 hl (by decide) rfl (fun ls hl => ?_)
            obtain ⟨n_27, h⟩ := h
            refine Wl_M_faults_62 xc hK hN hA hw (hk := fun x_24 x_25 ls h hl => ?_) n_27 a2 0 ls h (lv_sub hl [1, 2, 3, 4, 0] rfl)
            obtain ⟨x_26, ex_26⟩ : ∃ y : Int32, y = a3 + 1 := ⟨_, rfl⟩
            replace h := h x_26 ex_26
            refine lv_iinc (v := x_26) (lv' := [(3, .int x_26), (0, .ref (cA L 0)), (1, .int a1), (2, .int x_24), (4, .int x_25)]) hx hb d_M_faults_100 hl (k := 3) rfl (by rw [ex_26]; rfl) (by decide) rfl (fun ls hl => ?_)
            refine lv_goto (tgt := 27) hx hb d_M_faults_103 (by decide) ?_
            exact ih x_24 x_26 ls h (lv_sub hl [1, 2, 3, 0] rfl)
          · replace h := h.2 c_23
            obtain ⟨x_28, ex_28⟩ : ∃ y : Int32, y = a2 + 1 := ⟨_, rfl⟩
            replace h := h x_28 ex_28
            refine lv_iinc (v := x_28) (lv' := [(2, .int x_28), (0, .ref (cA L 0)), (1, .int a1), (3, .int a3)]) hx hb d_M_faults_56 hl (k := 2) rfl (by rw [ex_28]; rfl) (by decide) rfl (fun ls hl => ?_)
            refine lv_iconst (v := 0) hx hb d_M_faults_59 (by decide) ?_
            refine lv_istore (lv' := [(4, .int 0), (2, .int x_28), (0, .ref (cA L 0)), (1, .int a1), (3, .int a3)]) hx hb d_M_faults_60 hl (by decide) rfl (fun ls hl => ?_)
            obtain ⟨n_32, h⟩ := h
            refine Wl_M_faults_62 xc hK hN hA hw (hk := fun x_29 x_30 ls h hl => ?_) n_32 x_28 0 ls h (lv_sub hl [2, 3, 1, 4, 0] rfl)
            obtain ⟨x_31, ex_31⟩ : ∃ y : Int32, y = a3 + 1 := ⟨_, rfl⟩
            replace h := h x_31 ex_31
            refine lv_iinc (v := x_31) (lv' := [(3, .int x_31), (0, .ref (cA L 0)), (1, .int a1), (2, .int x_29), (4, .int x_30)]) hx hb d_M_faults_100 hl (k := 3) rfl (by rw [ex_31]; rfl) (by decide) rfl (fun ls hl => ?_)
            refine lv_goto (tgt := 27) hx hb d_M_faults_103 (by decide) ?_
            exact ih x_29 x_31 ls h (lv_sub hl [1, 2, 3, 0] rfl)
      · replace h := h.2 c_6
        refine lv_goto (tgt := 100) hx hb d_M_faults_41 (by decide) ?_
        obtain ⟨x_33, ex_33⟩ : ∃ y : Int32, y = a3 + 1 := ⟨_, rfl⟩
        replace h := h x_33 ex_33
        refine lv_iinc (v := x_33) (lv' := [(3, .int x_33), (0, .ref (cA L 0)), (1, .int a1), (2, .int a2)]) hx hb d_M_faults_100 hl (k := 3) rfl (by rw [ex_33]; rfl) (by decide) rfl (fun ls hl => ?_)
        refine lv_goto (tgt := 27) hx hb d_M_faults_103 (by decide) ?_
        exact ih a2 x_33 ls h (lv_sub hl [1, 2, 3, 0] rfl)
set_option maxHeartbeats 4000000 in
set_option maxRecDepth 100000 in
theorem c_M_faults (l : Launch) (L : cL) (a1 : Int32) (I : MI) (F : MF) (G : MG) (sz : Nat) (post : Int32 → MI → MF → MG → Prop) (h : wp_M_faults a1 I F G post) : Met l y_M_faults (.code y_M_faults b_M_faults 5 (some .int) :: lwG) rm_M_faults (mPm L I F G sz [.ref (cA L 0), .int a1]) (mQi L (mAA L I F G sz) post (mAA L I F G sz)) 0 0 (mAA L I F G sz) := by
  refine Met.ofW (cc := b_M_faults) (maxL := 5) (ret := (some .int)) (by decide) rfl ?_
  intro p e s m args below meth c s₁ B hml hv
  obtain ⟨rfl, hsz, hP, hK, hD0, hN⟩ := hv
  have xc : xC p s m _ meth c b_M_faults 5 lwG qR5 (some .int) := ⟨B.exec, B.bytes, hml, findClass_of_methodNamed B.named, fun w h => atoms_spec (ws := (.code y_M_faults b_M_faults 5 (some .int) :: lwG)) B.pre w (List.mem_cons_of_mem _ h), B.returns, B.notSynchronized⟩
  obtain ⟨hx, hb, hml, hown, hts, hr, hlocks⟩ := id xc
  subst hsz
  have hD : va_D (mAA L I F G s.heap.size) (WM L I F G) := hD0.self
  have hA0 : ∀ q : Nat, s.heap.size ≤ q → mAA L I F G s.heap.size q := fun q h => Or.inr h
  generalize mAA L I F G s.heap.size = A at hD hA0 ⊢
  have hA := hA0
  have hw : MW L A s.heap I F G s.heap [] := ⟨hP, hD, va_S.rf⟩
  have hl := lv_entry ([.ref (cA L 0), .int a1]) (n := 5) (Nat.le_of_ble_eq_true rfl)
  rw [lg_entry_eq]
  generalize (lg_sl ([.ref (cA L 0), .int a1]) ++ List.replicate (5 - (lg_sl ([.ref (cA L 0), .int a1])).length) Slot.unset).toArray = ls at hl ⊢
  have hl : lv_has ls 5 [(0, .ref (cA L 0)), (1, .int a1)] := hl
  refine lv_aload_n hx hb d_M_faults_0 rfl (lv_at hl 0 rfl) ?_
  refine va_get (D := L.1) (ci := 5) (v := .int (I 2)) (C := qR5) (T := qT5) (N := 16) hx hb hts qi5 hown hK hw.1 0 rfl rfl 2 (by decide) (hts _ wG734) (fun _ h9 => h9) rfl d_M_faults_1 ?_
  refine lv_iconst (v := (-1)) hx hb d_M_faults_4 (by decide) ?_
  refine lv_icmp_ne (tgt := 14) hx hb d_M_faults_5 (by decide) (fun c_1 => ?_) (fun c_1 => ?_)
  · replace h := h.1 c_1
    refine lv_aload_n hx hb d_M_faults_14 rfl (lv_at hl 0 rfl) ?_
    refine lv_iconst (v := 0) hx hb d_M_faults_15 (by decide) ?_
    refine va_put (D := L.1) (ci := 5) (v := .int 0) (ty := .int) (C := qR5) (T := qT5) (N := 16) hx hb hts qi5 qy5 qk5 qn5 hown hK hw.1 hw.2.1 hw.2.2 0 rfl rfl 0 (by decide) (hts _ wG732) (fun _ h9 => h9) rfl (by decide +kernel) rfl rfl (Nat.le_of_ble_eq_true rfl) d_M_faults_16 (fun H locs h1 h2 h3 => ?_)
    replace hw : MW L A s.heap (setI I 0 0) F G H locs := ⟨h1, h2, h3⟩
    clear h1 h2 h3
    obtain ⟨I_2, eI_2⟩ : ∃ y : MI, y = setI I 0 0 := ⟨_, rfl⟩
    rw [← eI_2] at hw
    replace h := h I_2 eI_2
    refine lv_iconst (v := 0) hx hb d_M_faults_19 (by decide) ?_
    refine lv_istore_n (lv' := [(2, .int 0), (0, .ref (cA L 0)), (1, .int a1)]) hx hb d_M_faults_20 rfl hl (by decide) rfl (fun ls hl => ?_)
    refine lv_aload_n hx hb d_M_faults_21 rfl (lv_at hl 1 rfl) ?_
    refine m_callv (va_runV (As := []) (rest := []) ⟨hx, hb, hml, hown, hts⟩ (c_M_find l L I_2 F G _ _ h) (cwV 0 hts (gV wG893 wG895 wG38 wG54 wG896) rfl rfl rfl (by decide +kernel) ⟨Nat.le_of_ble_eq_true rfl, Nat.le_of_ble_eq_true rfl⟩) (mPrm hK hN hw) rfl rfl hl.1 rfl (lv_room (Nat.le_of_ble_eq_true rfl)) d_M_faults_22 ⟨Nat.le_of_ble_eq_true rfl, Nat.le_of_ble_eq_true rfl⟩) hw hA (fun I_3 F_3 G_3 H locs h hw => ?_)
    refine lv_iconst (v := 0) hx hb d_M_faults_25 (by decide) ?_
    refine lv_istore_n (lv' := [(3, .int 0), (2, .int 0), (0, .ref (cA L 0)), (1, .int a1)]) hx hb d_M_faults_26 rfl hl (by decide) rfl (fun ls hl => ?_)
    obtain ⟨n_36, h⟩ := h
    refine Wl_M_faults_27 xc hK hN hA hw (hk := fun x_34 x_35 ls h hl => ?_) n_36 0 0 ls h (lv_sub hl [2, 3, 1, 0] rfl)
    refine lv_iload_n hx hb d_M_faults_106 rfl (lv_at hl 2 rfl) ?_
    exact W.iret hx hb hr (fun t ht hW => ⟨⟨_, (I_3, F_3, G_3), rfl, h, by rw [ht]; exact hw.1, va_K.moved hW.alike hK, hw.2.1⟩, hw.2.2.F ht⟩) hw.2.2.2.2 d_M_faults_107
  · replace h := h.2 c_1
    refine lv_aload_n hx hb d_M_faults_8 rfl (lv_at hl 0 rfl) ?_
    refine lv_iconst (v := 1) hx hb d_M_faults_9 (by decide) ?_
    refine m_calli (va_runV (As := [.int 1]) (rest := []) ⟨hx, hb, hml, hown, hts⟩ (c_M_refuse l L 1 I F G _ _ h) (cwV 1 hts (gV wG793 wG795 wG20 wG54 wG796) rfl rfl rfl (by decide +kernel) ⟨Nat.le_of_ble_eq_true rfl, Nat.le_of_ble_eq_true rfl⟩) (mPrm hK hN hw) rfl rfl hl.1 rfl (lv_room (Nat.le_of_ble_eq_true rfl)) d_M_faults_10 ⟨Nat.le_of_ble_eq_true rfl, Nat.le_of_ble_eq_true rfl⟩) hw hA (fun r_37 I_38 F_38 G_38 H locs h hw => ?_)
    exact W.iret hx hb hr (fun t ht hW => ⟨⟨_, (I_38, F_38, G_38), rfl, h, by rw [ht]; exact hw.1, va_K.moved hW.alike hK, hw.2.1⟩, hw.2.2.F ht⟩) hw.2.2.2.2 d_M_faults_13
abbrev rm_M_time : Room := { frames := 1, cells := 0, slots := 0, locals := 22 }
set_option maxHeartbeats 4000000 in
set_option maxRecDepth 100000 in
theorem c_M_time (l : Launch) (L : cL) (a1 : Int32) (a2 : UInt64) (I : MI) (F : MF) (G : MG) (sz : Nat) (post : UInt64 → MI → MF → MG → Prop) (h : wp_M_time a1 a2 I F G post) : Met l y_M_time (.code y_M_time b_M_time 6 (some .double) :: lwG) rm_M_time (mPm L I F G sz [.ref (cA L 0), .int a1, .double a2]) (mQd L (mAA L I F G sz) post (mAA L I F G sz)) 0 0 (mAA L I F G sz) := by
  refine Met.ofW (cc := b_M_time) (maxL := 6) (ret := (some .double)) (by decide) rfl ?_
  intro p e s m args below meth c s₁ B hml hv
  obtain ⟨rfl, hsz, hP, hK, hD0, hN⟩ := hv
  have xc : xC p s m _ meth c b_M_time 6 lwG qR5 (some .double) := ⟨B.exec, B.bytes, hml, findClass_of_methodNamed B.named, fun w h => atoms_spec (ws := (.code y_M_time b_M_time 6 (some .double) :: lwG)) B.pre w (List.mem_cons_of_mem _ h), B.returns, B.notSynchronized⟩
  obtain ⟨hx, hb, hml, hown, hts, hr, hlocks⟩ := id xc
  subst hsz
  have hD : va_D (mAA L I F G s.heap.size) (WM L I F G) := hD0.self
  have hA0 : ∀ q : Nat, s.heap.size ≤ q → mAA L I F G s.heap.size q := fun q h => Or.inr h
  generalize mAA L I F G s.heap.size = A at hD hA0 ⊢
  have hA := hA0
  have hw : MW L A s.heap I F G s.heap [] := ⟨hP, hD, va_S.rf⟩
  have hl := lv_entry ([.ref (cA L 0), .int a1, .double a2]) (n := 6) (Nat.le_of_ble_eq_true rfl)
  rw [lg_entry_eq]
  generalize (lg_sl ([.ref (cA L 0), .int a1, .double a2]) ++ List.replicate (6 - (lg_sl ([.ref (cA L 0), .int a1, .double a2])).length) Slot.unset).toArray = ls at hl ⊢
  have hl : lv_has ls 6 [(0, .ref (cA L 0)), (1, .int a1), (2, .double a2)] := hl
  refine lv_iload_n hx hb d_M_time_0 rfl (lv_at hl 1 rfl) ?_
  refine lv_iconst (v := 0) hx hb d_M_time_1 (by decide) ?_
  refine lv_iconst (v := 3) hx hb d_M_time_2 (by decide) ?_
  refine vp_callSi (va_runS (As := [.int a1, .int 0, .int 3]) (rest := []) ⟨hx, hb, hml, hown, hts⟩ (c_M_in l a1 0 3 _ h) (va_cwS 3 hts (gS wG790 wG791 wG54 wG792) rfl rfl rfl (by decide +kernel) ⟨Nat.le_of_ble_eq_true rfl, Nat.le_of_ble_eq_true rfl⟩) ⟨sPc_blind _, fun U hU hW => ⟨rfl, trivial⟩⟩ rfl rfl hl.1 rfl (lv_room (Nat.le_of_ble_eq_true rfl)) d_M_time_3 ⟨Nat.le_of_ble_eq_true rfl, Nat.le_of_ble_eq_true rfl⟩).run (fun r_1 h => ?_)
  refine lv_if_eq (tgt := 23) hx hb d_M_time_6 (by decide) (fun c_2 => ?_) (fun c_2 => ?_)
  · replace h := h.1 c_2
    refine lv_aload_n hx hb d_M_time_23 rfl (lv_at hl 0 rfl) ?_
    refine lv_iconst (v := 1) hx hb d_M_time_24 (by decide) ?_
    refine m_calli (va_runV (As := [.int 1]) (rest := []) ⟨hx, hb, hml, hown, hts⟩ (c_M_refuse l L 1 I F G _ _ h) (cwV 1 hts (gV wG793 wG795 wG20 wG54 wG796) rfl rfl rfl (by decide +kernel) ⟨Nat.le_of_ble_eq_true rfl, Nat.le_of_ble_eq_true rfl⟩) (mPrm hK hN hw) rfl rfl hl.1 rfl (lv_room (Nat.le_of_ble_eq_true rfl)) d_M_time_25 ⟨Nat.le_of_ble_eq_true rfl, Nat.le_of_ble_eq_true rfl⟩) hw hA (fun r_3 I_4 F_4 G_4 H locs h hw => ?_)
    refine lv_i2d hx hb d_M_time_28 ?_
    exact W.dret hx hb hr (fun t ht hW => ⟨⟨_, (I_4, F_4, G_4), rfl, h, by rw [ht]; exact hw.1, va_K.moved hW.alike hK, hw.2.1⟩, hw.2.2.F ht⟩) hw.2.2.2.2 d_M_time_29
  · replace h := h.2 c_2
    refine lv_dload_n hx hb d_M_time_9 rfl (lv_at hl 2 rfl) ?_
    refine lv_dconst0 hx hb d_M_time_10 ?_
    refine lv_dcmp hx hb d_M_time_11 ?_
    refine lv_if_lt (tgt := 23) hx hb d_M_time_12 (by decide) (fun c_5 => ?_) (fun c_5 => ?_)
    · replace h := h.1 c_5
      refine lv_aload_n hx hb d_M_time_23 rfl (lv_at hl 0 rfl) ?_
      refine lv_iconst (v := 1) hx hb d_M_time_24 (by decide) ?_
      refine m_calli (va_runV (As := [.int 1]) (rest := []) ⟨hx, hb, hml, hown, hts⟩ (c_M_refuse l L 1 I F G _ _ h) (cwV 1 hts (gV wG793 wG795 wG20 wG54 wG796) rfl rfl rfl (by decide +kernel) ⟨Nat.le_of_ble_eq_true rfl, Nat.le_of_ble_eq_true rfl⟩) (mPrm hK hN hw) rfl rfl hl.1 rfl (lv_room (Nat.le_of_ble_eq_true rfl)) d_M_time_25 ⟨Nat.le_of_ble_eq_true rfl, Nat.le_of_ble_eq_true rfl⟩) hw hA (fun r_6 I_7 F_7 G_7 H locs h hw => ?_)
      refine lv_i2d hx hb d_M_time_28 ?_
      exact W.dret hx hb hr (fun t ht hW => ⟨⟨_, (I_7, F_7, G_7), rfl, h, by rw [ht]; exact hw.1, va_K.moved hW.alike hK, hw.2.1⟩, hw.2.2.F ht⟩) hw.2.2.2.2 d_M_time_29
    · replace h := h.2 c_5
      refine lv_dload_n hx hb d_M_time_15 rfl (lv_at hl 2 rfl) ?_
      refine lv_ldc2d (v := 4636737291354636288) hx hb hown (hts _ wG929) d_M_time_16 ?_
      refine lv_dcmp hx hb d_M_time_19 ?_
      refine lv_if_le (tgt := 30) hx hb d_M_time_20 (by decide) (fun c_8 => ?_) (fun c_8 => ?_)
      · replace h := h.1 c_8
        refine lv_aload_n hx hb d_M_time_30 rfl (lv_at hl 0 rfl) ?_
        refine lv_iconst (v := 0) hx hb d_M_time_31 (by decide) ?_
        refine va_put (D := L.1) (ci := 5) (v := .int 0) (ty := .int) (C := qR5) (T := qT5) (N := 16) hx hb hts qi5 qy5 qk5 qn5 hown hK hw.1 hw.2.1 hw.2.2 0 rfl rfl 0 (by decide) (hts _ wG732) (fun _ h9 => h9) rfl (by decide +kernel) rfl rfl (Nat.le_of_ble_eq_true rfl) d_M_time_32 (fun H locs h1 h2 h3 => ?_)
        replace hw : MW L A s.heap (setI I 0 0) F G H locs := ⟨h1, h2, h3⟩
        clear h1 h2 h3
        obtain ⟨I_9, eI_9⟩ : ∃ y : MI, y = setI I 0 0 := ⟨_, rfl⟩
        rw [← eI_9] at hw
        replace h := h I_9 eI_9
        refine lv_aload_n hx hb d_M_time_35 rfl (lv_at hl 0 rfl) ?_
        refine va_get (D := L.1) (ci := 5) (v := .ref (cA L 8)) (C := qR5) (T := qT5) (N := 16) hx hb hts qi5 hown hK hw.1 0 rfl rfl 10 (by decide) (hts _ wG742) (fun _ h9 => h9) rfl d_M_time_36 ?_
        refine lv_iload_n hx hb d_M_time_39 rfl (lv_at hl 1 rfl) ?_
        obtain ⟨hi_10, h⟩ := h
        refine va_dald hx hb hK hw.1 8 1 rfl rfl hi_10 d_M_time_40 ?_
        refine lv_topd (fun x_11 ex_11 => ?_)
        replace h := h x_11 ex_11
        refine lv_dstore (lv' := [(4, .double x_11), (0, .ref (cA L 0)), (1, .int a1), (2, .double a2)]) hx hb d_M_time_41 hl (by decide) rfl (fun ls hl => ?_)
        refine lv_aload_n hx hb d_M_time_43 rfl (lv_at hl 1 rfl) ?_
        refine va_get (D := L.1) (ci := 5) (v := .ref (cA L 8)) (C := qR5) (T := qT5) (N := 16) hx hb hts qi5 hown hK hw.1 0 rfl rfl 10 (by decide) (hts _ wG742) (fun _ h9 => h9) rfl d_M_time_44 ?_
        refine lv_iload_n hx hb d_M_time_47 rfl (lv_at hl 2 rfl) ?_
        refine lv_dload_n hx hb d_M_time_48 rfl (lv_at hl 3 rfl) ?_
        obtain ⟨hi_12, h⟩ := h
        refine m_dast hx hb hK hw 0 8 rfl (fun _ => rfl) hi_12 d_M_time_49 (fun H locs hw => ?_)
        obtain ⟨G_13, eG_13⟩ : ∃ y : MG, y = setG G 0 (vf_upd (G 0) a1.toNatClampNeg a2) := ⟨_, rfl⟩
        rw [← eG_13] at hw
        replace h := h G_13 eG_13
        refine lv_dload hx hb d_M_time_50 (lv_at hl 0 rfl) ?_
        exact W.dret hx hb hr (fun t ht hW => ⟨⟨_, (I_9, F, G_13), rfl, h, by rw [ht]; exact hw.1, va_K.moved hW.alike hK, hw.2.1⟩, hw.2.2.F ht⟩) hw.2.2.2.2 d_M_time_52
      · replace h := h.2 c_8
        refine lv_aload_n hx hb d_M_time_23 rfl (lv_at hl 0 rfl) ?_
        refine lv_iconst (v := 1) hx hb d_M_time_24 (by decide) ?_
        refine m_calli (va_runV (As := [.int 1]) (rest := []) ⟨hx, hb, hml, hown, hts⟩ (c_M_refuse l L 1 I F G _ _ h) (cwV 1 hts (gV wG793 wG795 wG20 wG54 wG796) rfl rfl rfl (by decide +kernel) ⟨Nat.le_of_ble_eq_true rfl, Nat.le_of_ble_eq_true rfl⟩) (mPrm hK hN hw) rfl rfl hl.1 rfl (lv_room (Nat.le_of_ble_eq_true rfl)) d_M_time_25 ⟨Nat.le_of_ble_eq_true rfl, Nat.le_of_ble_eq_true rfl⟩) hw hA (fun r_14 I_15 F_15 G_15 H locs h hw => ?_)
        refine lv_i2d hx hb d_M_time_28 ?_
        exact W.dret hx hb hr (fun t ht hW => ⟨⟨_, (I_15, F_15, G_15), rfl, h, by rw [ht]; exact hw.1, va_K.moved hW.alike hK, hw.2.1⟩, hw.2.2.F ht⟩) hw.2.2.2.2 d_M_time_29
abbrev rm_M_delayOf : Room := { frames := 6, cells := 0, slots := 0, locals := 137 }
set_option maxHeartbeats 4000000 in
set_option maxRecDepth 100000 in
theorem c_M_delayOf (l : Launch) (L : cL) (a1 : Int32) (I : MI) (F : MF) (G : MG) (post : UInt64 → Prop) (h : wp_M_delayOf a1 I F G post) : Met l y_M_delayOf (.code y_M_delayOf b_M_delayOf 4 (some .double) :: lwG) rm_M_delayOf (mPc L I F G [.ref (cA L 0), .int a1]) (vp_Sd post) 0 0 (fun _ => False) := by
  refine Met.ofW (cc := b_M_delayOf) (maxL := 4) (ret := (some .double)) (by decide) rfl ?_
  intro p e s m args below meth c s₁ B hml hv
  obtain ⟨rfl, hP, hK, hN⟩ := hv
  have xc : xC p s m _ meth c b_M_delayOf 4 lwG qR5 (some .double) := ⟨B.exec, B.bytes, hml, findClass_of_methodNamed B.named, fun w h => atoms_spec (ws := (.code y_M_delayOf b_M_delayOf 4 (some .double) :: lwG)) B.pre w (List.mem_cons_of_mem _ h), B.returns, B.notSynchronized⟩
  obtain ⟨hx, hb, hml, hown, hts, hr, hlocks⟩ := id xc
  have hl := lv_entry ([.ref (cA L 0), .int a1]) (n := 4) (Nat.le_of_ble_eq_true rfl)
  rw [lg_entry_eq]
  generalize (lg_sl ([.ref (cA L 0), .int a1]) ++ List.replicate (4 - (lg_sl ([.ref (cA L 0), .int a1])).length) Slot.unset).toArray = ls at hl ⊢
  have hl : lv_has ls 4 [(0, .ref (cA L 0)), (1, .int a1)] := hl
  refine lv_aload_n hx hb d_M_delayOf_0 rfl (lv_at hl 0 rfl) ?_
  refine lv_iload_n hx hb d_M_delayOf_1 rfl (lv_at hl 1 rfl) ?_
  refine vp_callSi (va_runV (As := [.int a1]) (rest := []) ⟨hx, hb, hml, hown, hts⟩ (c_M_lengthOf l L a1 I F G _ h) (cwV 1 hts (gV wG873 wG875 wG36 wG54 wG876) rfl rfl rfl (by decide +kernel) ⟨Nat.le_of_ble_eq_true rfl, Nat.le_of_ble_eq_true rfl⟩) (mPre hK hN hP) rfl rfl hl.1 rfl (lv_room (Nat.le_of_ble_eq_true rfl)) d_M_delayOf_2 ⟨Nat.le_of_ble_eq_true rfl, Nat.le_of_ble_eq_true rfl⟩).run (fun r_1 h => ?_)
  refine lv_i2d hx hb d_M_delayOf_5 ?_
  refine lv_topd (fun x_2 ex_2 => ?_)
  replace h := h x_2 ex_2
  refine lv_dstore_n (lv' := [(2, .double x_2), (0, .ref (cA L 0)), (1, .int a1)]) hx hb d_M_delayOf_6 rfl hl (by decide) rfl (fun ls hl => ?_)
  refine lv_dload_n hx hb d_M_delayOf_7 rfl (lv_at hl 0 rfl) ?_
  refine lv_dconst0 hx hb d_M_delayOf_8 ?_
  refine lv_dcmp hx hb d_M_delayOf_9 ?_
  refine lv_if_ne (tgt := 17) hx hb d_M_delayOf_10 (by decide) (fun c_3 => ?_) (fun c_3 => ?_)
  · replace h := h.1 c_3
    refine lv_ldc2d (v := 4598175219545276416) hx hb hown (hts _ wG938) d_M_delayOf_17 ?_
    refine lv_dload_n hx hb d_M_delayOf_20 rfl (lv_at hl 0 rfl) ?_
    obtain ⟨hn_4, h⟩ := h
    refine lv_dmul hx hb d_M_delayOf_21 hn_4 ?_
    refine lv_ldc2d (v := 4602678819172646912) hx hb hown (hts _ wG939) d_M_delayOf_22 ?_
    refine lv_dload_n hx hb d_M_delayOf_25 rfl (lv_at hl 0 rfl) ?_
    obtain ⟨hn_5, h⟩ := h
    refine lv_dmul hx hb d_M_delayOf_26 hn_5 ?_
    refine lv_aload_n hx hb d_M_delayOf_27 rfl (lv_at hl 1 rfl) ?_
    refine lv_iload_n hx hb d_M_delayOf_28 rfl (lv_at hl 2 rfl) ?_
    refine vp_callSi (va_runV (As := [.int a1]) (rest := [.double (FP.dmul 4602678819172646912 x_2), .double (FP.dmul 4598175219545276416 x_2)]) ⟨hx, hb, hml, hown, hts⟩ (c_M_pins l L a1 I F G _ h) (cwV 1 hts (gV wG817 wG819 wG24 wG54 wG820) rfl rfl rfl (by decide +kernel) ⟨Nat.le_of_ble_eq_true rfl, Nat.le_of_ble_eq_true rfl⟩) (mPre hK hN hP) rfl rfl hl.1 rfl (lv_room (Nat.le_of_ble_eq_true rfl)) d_M_delayOf_29 ⟨Nat.le_of_ble_eq_true rfl, Nat.le_of_ble_eq_true rfl⟩).run (fun r_6 h => ?_)
    refine lv_i2d hx hb d_M_delayOf_32 ?_
    obtain ⟨hn_7, h⟩ := h
    refine lv_dadd hx hb d_M_delayOf_33 hn_7 ?_
    obtain ⟨hn_8, h⟩ := h
    refine lv_dmul hx hb d_M_delayOf_34 hn_8 ?_
    exact W.dret hx hb hr (fun t ht _ => ⟨_, rfl, h, ht⟩) (fun _ h9 => nomatch h9) d_M_delayOf_35
  · replace h := h.2 c_3
    refine lv_dconst0 hx hb d_M_delayOf_13 ?_
    refine lv_goto (tgt := 35) hx hb d_M_delayOf_14 (by decide) ?_
    exact W.dret hx hb hr (fun t ht _ => ⟨_, rfl, h, ht⟩) (fun _ h9 => nomatch h9) d_M_delayOf_35
abbrev rm_M_delay : Room := { frames := 7, cells := 0, slots := 0, locals := 160 }
set_option maxHeartbeats 4000000 in
set_option maxRecDepth 100000 in
theorem c_M_delay (l : Launch) (L : cL) (a1 : Int32) (I : MI) (F : MF) (G : MG) (sz : Nat) (post : UInt64 → MI → MF → MG → Prop) (h : wp_M_delay a1 I F G post) : Met l y_M_delay (.code y_M_delay b_M_delay 2 (some .double) :: lwG) rm_M_delay (mPm L I F G sz [.ref (cA L 0), .int a1]) (mQd L (mAA L I F G sz) post (mAA L I F G sz)) 0 0 (mAA L I F G sz) := by
  refine Met.ofW (cc := b_M_delay) (maxL := 2) (ret := (some .double)) (by decide) rfl ?_
  intro p e s m args below meth c s₁ B hml hv
  obtain ⟨rfl, hsz, hP, hK, hD0, hN⟩ := hv
  have xc : xC p s m _ meth c b_M_delay 2 lwG qR5 (some .double) := ⟨B.exec, B.bytes, hml, findClass_of_methodNamed B.named, fun w h => atoms_spec (ws := (.code y_M_delay b_M_delay 2 (some .double) :: lwG)) B.pre w (List.mem_cons_of_mem _ h), B.returns, B.notSynchronized⟩
  obtain ⟨hx, hb, hml, hown, hts, hr, hlocks⟩ := id xc
  subst hsz
  have hD : va_D (mAA L I F G s.heap.size) (WM L I F G) := hD0.self
  have hA0 : ∀ q : Nat, s.heap.size ≤ q → mAA L I F G s.heap.size q := fun q h => Or.inr h
  generalize mAA L I F G s.heap.size = A at hD hA0 ⊢
  have hA := hA0
  have hw : MW L A s.heap I F G s.heap [] := ⟨hP, hD, va_S.rf⟩
  have hl := lv_entry ([.ref (cA L 0), .int a1]) (n := 2) (Nat.le_of_ble_eq_true rfl)
  rw [lg_entry_eq]
  generalize (lg_sl ([.ref (cA L 0), .int a1]) ++ List.replicate (2 - (lg_sl ([.ref (cA L 0), .int a1])).length) Slot.unset).toArray = ls at hl ⊢
  have hl : lv_has ls 2 [(0, .ref (cA L 0)), (1, .int a1)] := hl
  refine lv_iload_n hx hb d_M_delay_0 rfl (lv_at hl 1 rfl) ?_
  refine lv_iconst (v := 0) hx hb d_M_delay_1 (by decide) ?_
  refine lv_bipush (v := 11) hx hb d_M_delay_2 (by decide) ?_
  refine vp_callSi (va_runS (As := [.int a1, .int 0, .int 11]) (rest := []) ⟨hx, hb, hml, hown, hts⟩ (c_M_in l a1 0 11 _ h) (va_cwS 3 hts (gS wG790 wG791 wG54 wG792) rfl rfl rfl (by decide +kernel) ⟨Nat.le_of_ble_eq_true rfl, Nat.le_of_ble_eq_true rfl⟩) ⟨sPc_blind _, fun U hU hW => ⟨rfl, trivial⟩⟩ rfl rfl hl.1 rfl (lv_room (Nat.le_of_ble_eq_true rfl)) d_M_delay_4 ⟨Nat.le_of_ble_eq_true rfl, Nat.le_of_ble_eq_true rfl⟩).run (fun r_1 h => ?_)
  refine lv_if_ne (tgt := 17) hx hb d_M_delay_7 (by decide) (fun c_2 => ?_) (fun c_2 => ?_)
  · replace h := h.1 c_2
    refine lv_aload_n hx hb d_M_delay_17 rfl (lv_at hl 0 rfl) ?_
    refine va_get (D := L.1) (ci := 5) (v := .int (I 2)) (C := qR5) (T := qT5) (N := 16) hx hb hts qi5 hown hK hw.1 0 rfl rfl 2 (by decide) (hts _ wG734) (fun _ h9 => h9) rfl d_M_delay_18 ?_
    refine lv_iconst (v := (-1)) hx hb d_M_delay_21 (by decide) ?_
    refine lv_icmp_ne (tgt := 32) hx hb d_M_delay_22 (by decide) (fun c_3 => ?_) (fun c_3 => ?_)
    · replace h := h.1 c_3
      refine lv_aload_n hx hb d_M_delay_32 rfl (lv_at hl 0 rfl) ?_
      refine lv_iconst (v := 0) hx hb d_M_delay_33 (by decide) ?_
      refine va_put (D := L.1) (ci := 5) (v := .int 0) (ty := .int) (C := qR5) (T := qT5) (N := 16) hx hb hts qi5 qy5 qk5 qn5 hown hK hw.1 hw.2.1 hw.2.2 0 rfl rfl 0 (by decide) (hts _ wG732) (fun _ h9 => h9) rfl (by decide +kernel) rfl rfl (Nat.le_of_ble_eq_true rfl) d_M_delay_34 (fun H locs h1 h2 h3 => ?_)
      replace hw : MW L A s.heap (setI I 0 0) F G H locs := ⟨h1, h2, h3⟩
      clear h1 h2 h3
      obtain ⟨I_4, eI_4⟩ : ∃ y : MI, y = setI I 0 0 := ⟨_, rfl⟩
      rw [← eI_4] at hw
      replace h := h I_4 eI_4
      refine lv_aload_n hx hb d_M_delay_37 rfl (lv_at hl 0 rfl) ?_
      refine lv_iload_n hx hb d_M_delay_38 rfl (lv_at hl 1 rfl) ?_
      refine vp_callSd (va_runV (As := [.int a1]) (rest := []) ⟨hx, hb, hml, hown, hts⟩ (c_M_delayOf l L a1 I_4 F G _ h) (cwV 1 hts (gV wG934 wG936 wG45 wG54 wG937) rfl rfl rfl (by decide +kernel) ⟨Nat.le_of_ble_eq_true rfl, Nat.le_of_ble_eq_true rfl⟩) (mPre hK hN hw.1) rfl rfl hl.1 rfl (lv_room (Nat.le_of_ble_eq_true rfl)) d_M_delay_39 ⟨Nat.le_of_ble_eq_true rfl, Nat.le_of_ble_eq_true rfl⟩).run (fun r_5 h => ?_)
      exact W.dret hx hb hr (fun t ht hW => ⟨⟨_, (I_4, F, G), rfl, h, by rw [ht]; exact hw.1, va_K.moved hW.alike hK, hw.2.1⟩, hw.2.2.F ht⟩) hw.2.2.2.2 d_M_delay_42
    · replace h := h.2 c_3
      refine lv_aload_n hx hb d_M_delay_25 rfl (lv_at hl 0 rfl) ?_
      refine lv_iconst (v := 2) hx hb d_M_delay_26 (by decide) ?_
      refine m_calli (va_runV (As := [.int 2]) (rest := []) ⟨hx, hb, hml, hown, hts⟩ (c_M_refuse l L 2 I F G _ _ h) (cwV 1 hts (gV wG793 wG795 wG20 wG54 wG796) rfl rfl rfl (by decide +kernel) ⟨Nat.le_of_ble_eq_true rfl, Nat.le_of_ble_eq_true rfl⟩) (mPrm hK hN hw) rfl rfl hl.1 rfl (lv_room (Nat.le_of_ble_eq_true rfl)) d_M_delay_27 ⟨Nat.le_of_ble_eq_true rfl, Nat.le_of_ble_eq_true rfl⟩) hw hA (fun r_6 I_7 F_7 G_7 H locs h hw => ?_)
      refine lv_i2d hx hb d_M_delay_30 ?_
      exact W.dret hx hb hr (fun t ht hW => ⟨⟨_, (I_7, F_7, G_7), rfl, h, by rw [ht]; exact hw.1, va_K.moved hW.alike hK, hw.2.1⟩, hw.2.2.F ht⟩) hw.2.2.2.2 d_M_delay_31
  · replace h := h.2 c_2
    refine lv_aload_n hx hb d_M_delay_10 rfl (lv_at hl 0 rfl) ?_
    refine lv_iconst (v := 1) hx hb d_M_delay_11 (by decide) ?_
    refine m_calli (va_runV (As := [.int 1]) (rest := []) ⟨hx, hb, hml, hown, hts⟩ (c_M_refuse l L 1 I F G _ _ h) (cwV 1 hts (gV wG793 wG795 wG20 wG54 wG796) rfl rfl rfl (by decide +kernel) ⟨Nat.le_of_ble_eq_true rfl, Nat.le_of_ble_eq_true rfl⟩) (mPrm hK hN hw) rfl rfl hl.1 rfl (lv_room (Nat.le_of_ble_eq_true rfl)) d_M_delay_12 ⟨Nat.le_of_ble_eq_true rfl, Nat.le_of_ble_eq_true rfl⟩) hw hA (fun r_8 I_9 F_9 G_9 H locs h hw => ?_)
    refine lv_i2d hx hb d_M_delay_15 ?_
    exact W.dret hx hb hr (fun t ht hW => ⟨⟨_, (I_9, F_9, G_9), rfl, h, by rw [ht]; exact hw.1, va_K.moved hW.alike hK, hw.2.1⟩, hw.2.2.F ht⟩) hw.2.2.2.2 d_M_delay_16
abbrev rm_M_isReady : Room := { frames := 1, cells := 0, slots := 0, locals := 22 }
set_option maxHeartbeats 4000000 in
set_option maxRecDepth 100000 in
theorem c_M_isReady (l : Launch) (L : cL) (a1 : Int32) (I : MI) (F : MF) (G : MG) (post : Int32 → Prop) (h : wp_M_isReady a1 I F G post) : Met l y_M_isReady (.code y_M_isReady b_M_isReady 3 (some .boolean) :: lwG) rm_M_isReady (mPc L I F G [.ref (cA L 0), .int a1]) (vp_Si post) 0 0 (fun _ => False) := by
  refine Met.ofW (cc := b_M_isReady) (maxL := 3) (ret := (some .boolean)) (by decide) rfl ?_
  intro p e s m args below meth c s₁ B hml hv
  obtain ⟨rfl, hP, hK, hN⟩ := hv
  have xc : xC p s m _ meth c b_M_isReady 3 lwG qR5 (some .boolean) := ⟨B.exec, B.bytes, hml, findClass_of_methodNamed B.named, fun w h => atoms_spec (ws := (.code y_M_isReady b_M_isReady 3 (some .boolean) :: lwG)) B.pre w (List.mem_cons_of_mem _ h), B.returns, B.notSynchronized⟩
  obtain ⟨hx, hb, hml, hown, hts, hr, hlocks⟩ := id xc
  have hl := lv_entry ([.ref (cA L 0), .int a1]) (n := 3) (Nat.le_of_ble_eq_true rfl)
  rw [lg_entry_eq]
  generalize (lg_sl ([.ref (cA L 0), .int a1]) ++ List.replicate (3 - (lg_sl ([.ref (cA L 0), .int a1])).length) Slot.unset).toArray = ls at hl ⊢
  have hl : lv_has ls 3 [(0, .ref (cA L 0)), (1, .int a1)] := hl
  refine lv_aload_n hx hb d_M_isReady_0 rfl (lv_at hl 0 rfl) ?_
  refine lv_iload_n hx hb d_M_isReady_1 rfl (lv_at hl 1 rfl) ?_
  refine vp_callSi (va_runV (As := [.int a1]) (rest := []) ⟨hx, hb, hml, hown, hts⟩ (c_M_driver l L a1 I F G _ h) (cwV 1 hts (gV wG797 wG799 wG21 wG54 wG800) rfl rfl rfl (by decide +kernel) ⟨Nat.le_of_ble_eq_true rfl, Nat.le_of_ble_eq_true rfl⟩) (mPre hK hN hP) rfl rfl hl.1 rfl (lv_room (Nat.le_of_ble_eq_true rfl)) d_M_isReady_2 ⟨Nat.le_of_ble_eq_true rfl, Nat.le_of_ble_eq_true rfl⟩).run (fun r_1 h => ?_)
  refine lv_istore_n (lv' := [(2, .int r_1), (0, .ref (cA L 0)), (1, .int a1)]) hx hb d_M_isReady_5 rfl hl (by decide) rfl (fun ls hl => ?_)
  refine lv_iload_n hx hb d_M_isReady_6 rfl (lv_at hl 0 rfl) ?_
  refine lv_iconst (v := (-1)) hx hb d_M_isReady_7 (by decide) ?_
  refine lv_icmp_eq (tgt := 49) hx hb d_M_isReady_8 (by decide) (fun c_2 => ?_) (fun c_2 => ?_)
  · replace h := h.1 c_2
    refine lv_iconst (v := 1) hx hb d_M_isReady_49 (by decide) ?_
    refine lv_goto (tgt := 54) hx hb d_M_isReady_50 (by decide) ?_
    exact W.zret hx hb hr rfl (fun t ht _ => ⟨_, rfl, h, ht⟩) (fun _ h9 => nomatch h9) d_M_isReady_54
  · replace h := h.2 c_2
    refine lv_aload_n hx hb d_M_isReady_11 rfl (lv_at hl 1 rfl) ?_
    refine va_get (D := L.1) (ci := 5) (v := .ref (cA L 13)) (C := qR5) (T := qT5) (N := 16) hx hb hts qi5 hown hK hP 0 rfl rfl 15 (by decide) (hts _ wG747) (fun _ h9 => h9) rfl d_M_isReady_12 ?_
    refine lv_aload_n hx hb d_M_isReady_15 rfl (lv_at hl 1 rfl) ?_
    refine va_get (D := L.1) (ci := 5) (v := .ref (cA L 2)) (C := qR5) (T := qT5) (N := 16) hx hb hts qi5 hown hK hP 0 rfl rfl 4 (by decide) (hts _ wG736) (fun _ h9 => h9) rfl d_M_isReady_16 ?_
    refine lv_iload_n hx hb d_M_isReady_19 rfl (lv_at hl 0 rfl) ?_
    obtain ⟨hi_3, h⟩ := h
    refine va_iald hx hb hK hP 2 0 rfl rfl hi_3 d_M_isReady_20 ?_
    obtain ⟨hi_4, h⟩ := h
    refine va_zald hx hb hK hP 13 2 rfl rfl hi_4 d_M_isReady_21 ?_
    refine lv_if_eq (tgt := 53) hx hb d_M_isReady_22 (by decide) (fun c_5 => ?_) (fun c_5 => ?_)
    · replace h := h.1 c_5
      refine lv_iconst (v := 0) hx hb d_M_isReady_53 (by decide) ?_
      exact W.zret hx hb hr rfl (fun t ht _ => ⟨_, rfl, h, ht⟩) (fun _ h9 => nomatch h9) d_M_isReady_54
    · replace h := h.2 c_5
      refine lv_aload_n hx hb d_M_isReady_25 rfl (lv_at hl 1 rfl) ?_
      refine va_get (D := L.1) (ci := 5) (v := .ref (cA L 1)) (C := qR5) (T := qT5) (N := 16) hx hb hts qi5 hown hK hP 0 rfl rfl 3 (by decide) (hts _ wG735) (fun _ h9 => h9) rfl d_M_isReady_26 ?_
      refine lv_iload_n hx hb d_M_isReady_29 rfl (lv_at hl 0 rfl) ?_
      obtain ⟨hi_6, h⟩ := h
      refine va_iald hx hb hK hP 1 0 rfl rfl hi_6 d_M_isReady_30 ?_
      refine lv_iconst (v := 2) hx hb d_M_isReady_31 (by decide) ?_
      refine lv_icmp_lt (tgt := 49) hx hb d_M_isReady_32 (by decide) (fun c_7 => ?_) (fun c_7 => ?_)
      · replace h := h.1 c_7
        refine lv_iconst (v := 1) hx hb d_M_isReady_49 (by decide) ?_
        refine lv_goto (tgt := 54) hx hb d_M_isReady_50 (by decide) ?_
        exact W.zret hx hb hr rfl (fun t ht _ => ⟨_, rfl, h, ht⟩) (fun _ h9 => nomatch h9) d_M_isReady_54
      · replace h := h.2 c_7
        refine lv_aload_n hx hb d_M_isReady_35 rfl (lv_at hl 1 rfl) ?_
        refine va_get (D := L.1) (ci := 5) (v := .ref (cA L 13)) (C := qR5) (T := qT5) (N := 16) hx hb hts qi5 hown hK hP 0 rfl rfl 15 (by decide) (hts _ wG747) (fun _ h9 => h9) rfl d_M_isReady_36 ?_
        refine lv_aload_n hx hb d_M_isReady_39 rfl (lv_at hl 1 rfl) ?_
        refine va_get (D := L.1) (ci := 5) (v := .ref (cA L 3)) (C := qR5) (T := qT5) (N := 16) hx hb hts qi5 hown hK hP 0 rfl rfl 5 (by decide) (hts _ wG737) (fun _ h9 => h9) rfl d_M_isReady_40 ?_
        refine lv_iload_n hx hb d_M_isReady_43 rfl (lv_at hl 0 rfl) ?_
        obtain ⟨hi_8, h⟩ := h
        refine va_iald hx hb hK hP 3 0 rfl rfl hi_8 d_M_isReady_44 ?_
        obtain ⟨hi_9, h⟩ := h
        refine va_zald hx hb hK hP 13 2 rfl rfl hi_9 d_M_isReady_45 ?_
        refine lv_if_eq (tgt := 53) hx hb d_M_isReady_46 (by decide) (fun c_10 => ?_) (fun c_10 => ?_)
        · replace h := h.1 c_10
          refine lv_iconst (v := 0) hx hb d_M_isReady_53 (by decide) ?_
          exact W.zret hx hb hr rfl (fun t ht _ => ⟨_, rfl, h, ht⟩) (fun _ h9 => nomatch h9) d_M_isReady_54
        · replace h := h.2 c_10
          refine lv_iconst (v := 1) hx hb d_M_isReady_49 (by decide) ?_
          refine lv_goto (tgt := 54) hx hb d_M_isReady_50 (by decide) ?_
          exact W.zret hx hb hr rfl (fun t ht _ => ⟨_, rfl, h, ht⟩) (fun _ h9 => nomatch h9) d_M_isReady_54
