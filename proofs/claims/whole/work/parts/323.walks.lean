abbrev rm_M_give : Room := { frames := 6, cells := 0, slots := 0, locals := 133 }
set_option maxHeartbeats 4000000 in
set_option maxRecDepth 100000 in
theorem Wl_M_give_23 {p : Program} {l : Launch} {e : Env} {s : State} {m : MethodId} {args : Array Value} {below : List Frame} {meth : Method} {c : Code} {L : cL} {A : Nat → Prop} {I : MI} {F : MF} {G : MG} {H : Heap} {locs : List Loc} {post : Int32 → MI → MF → MG → Prop} {K : Int32 → Int32 → Prop} {a1 : Int32} {a2 : Int32} {a3 : Int32} {a4 : Int32} {a5 : Int32} (xc : xC p s m args meth c b_M_give 8 lwG qR5 (some .int)) (hK : va_K L.1 vwCl (mTys L) s) (hN : mNk s) (hA : ∀ q, s.heap.size ≤ q → A q) (hw : MW L A s.heap I F G H locs)
    (hk : ∀ (a6 : Int32) (a7 : Int32) (ls : Array Slot), K a6 a7 → lv_has ls 8 [(0, .ref (cA L 0)), (1, .int a1), (2, .int a2), (3, .int a3), (4, .int a4), (5, .int a5), (6, .int a6), (7, .int a7)] → W p l e rm_M_give s m args below meth c H locs 0 0 (MQ below (mQi L A post A) args s 0 0 A) (F0 m 89 ls [])) :
    ∀ (n : Nat) (a6 : Int32) (a7 : Int32) (ls : Array Slot), wl_M_give_23 post K a1 a2 a3 a4 a5 I F G n a6 a7 → lv_has ls 8 [(0, .ref (cA L 0)), (1, .int a1), (2, .int a2), (3, .int a3), (4, .int a4), (5, .int a5), (6, .int a6), (7, .int a7)] → W p l e rm_M_give s m args below meth c H locs 0 0 (MQ below (mQi L A post A) args s 0 0 A) (F0 m 23 ls []) := by
  obtain ⟨hx, hb, hml, hown, hts, hr, hlocks⟩ := id xc
  intro n
  induction n with
  | zero => intro a6 a7 ls h; exact absurd h id
  | succ n ih =>
    intro a6 a7 ls h hl
    refine lv_iload hx hb d_M_give_23 (lv_at hl 7 rfl) ?_
    refine lv_bipush (v := 12) hx hb d_M_give_25 (by decide) ?_
    refine lv_icmp_ge (tgt := 89) hx hb d_M_give_27 (by decide) (fun c_2 => ?_) (fun c_2 => ?_)
    · replace h := h.1 c_2
      exact hk a6 a7 ls h (lv_sub hl [0, 1, 2, 3, 4, 5, 6, 7] rfl)
    · replace h := h.2 c_2
      refine lv_aload_n hx hb d_M_give_30 rfl (lv_at hl 0 rfl) ?_
      refine lv_iload hx hb d_M_give_31 (lv_at hl 7 rfl) ?_
      refine vp_callSi (va_runV (As := [.int a7]) (rest := []) ⟨hx, hb, hml, hown, hts⟩ (c_M_isWired l L a7 I F G _ h) (cwV 1 hts (gV wG813 wG815 wG23 wG54 wG816) rfl rfl rfl (by decide +kernel) ⟨Nat.le_of_ble_eq_true rfl, Nat.le_of_ble_eq_true rfl⟩) (mPre hK hN hw.1) rfl rfl hl.1 rfl (lv_room (Nat.le_of_ble_eq_true rfl)) d_M_give_33 ⟨Nat.le_of_ble_eq_true rfl, Nat.le_of_ble_eq_true rfl⟩).run (fun r_3 h => ?_)
      refine lv_if_eq (tgt := 83) hx hb d_M_give_36 (by decide) (fun c_4 => ?_) (fun c_4 => ?_)
      · replace h := h.1 c_4
        obtain ⟨x_5, ex_5⟩ : ∃ y : Int32, y = a7 + 1 := ⟨_, rfl⟩
        replace h := h x_5 ex_5
        refine lv_iinc (v := x_5) (lv' := [(7, .int x_5), (0, .ref (cA L 0)), (1, .int a1), (2, .int a2), (3, .int a3), (4, .int a4), (5, .int a5), (6, .int a6)]) hx hb d_M_give_83 hl (k := 7) rfl (by rw [ex_5]; rfl) (by decide) rfl (fun ls hl => ?_)
        refine lv_goto (tgt := 23) hx hb d_M_give_86 (by decide) ?_
        exact ih a6 x_5 ls h (lv_sub hl [1, 2, 3, 4, 5, 6, 7, 0] rfl)
      · replace h := h.2 c_4
        refine lv_aload_n hx hb d_M_give_39 rfl (lv_at hl 0 rfl) ?_
        refine va_get (D := L.1) (ci := 5) (v := .ref (cA L 9)) (C := qR5) (T := qT5) (N := 16) hx hb hts qi5 hown hK hw.1 0 rfl rfl 11 (by decide) (hts _ wG743) (fun _ h9 => h9) rfl d_M_give_40 ?_
        refine lv_iload hx hb d_M_give_43 (lv_at hl 7 rfl) ?_
        obtain ⟨hi_6, h⟩ := h
        refine va_iald hx hb hK hw.1 9 0 rfl rfl hi_6 d_M_give_45 ?_
        refine lv_if_ne (tgt := 83) hx hb d_M_give_46 (by decide) (fun c_7 => ?_) (fun c_7 => ?_)
        · replace h := h.1 c_7
          obtain ⟨x_8, ex_8⟩ : ∃ y : Int32, y = a7 + 1 := ⟨_, rfl⟩
          replace h := h x_8 ex_8
          refine lv_iinc (v := x_8) (lv' := [(7, .int x_8), (0, .ref (cA L 0)), (1, .int a1), (2, .int a2), (3, .int a3), (4, .int a4), (5, .int a5), (6, .int a6)]) hx hb d_M_give_83 hl (k := 7) rfl (by rw [ex_8]; rfl) (by decide) rfl (fun ls hl => ?_)
          refine lv_goto (tgt := 23) hx hb d_M_give_86 (by decide) ?_
          exact ih a6 x_8 ls h (lv_sub hl [1, 2, 3, 4, 5, 6, 7, 0] rfl)
        · replace h := h.2 c_7
          refine lv_iload hx hb d_M_give_49 (lv_at hl 4 rfl) ?_
          refine lv_iload hx hb d_M_give_51 (lv_at hl 7 rfl) ?_
          refine lv_ishr hx hb d_M_give_53 ?_
          refine lv_iconst (v := 1) hx hb d_M_give_54 (by decide) ?_
          refine lv_iand hx hb d_M_give_55 ?_
          refine lv_if_ne (tgt := 83) hx hb d_M_give_56 (by decide) (fun c_9 => ?_) (fun c_9 => ?_)
          · replace h := h.1 c_9
            obtain ⟨x_10, ex_10⟩ : ∃ y : Int32, y = a7 + 1 := ⟨_, rfl⟩
            replace h := h x_10 ex_10
            refine lv_iinc (v := x_10) (lv' := [(7, .int x_10), (0, .ref (cA L 0)), (1, .int a1), (2, .int a2), (3, .int a3), (4, .int a4), (5, .int a5), (6, .int a6)]) hx hb d_M_give_83 hl (k := 7) rfl (by rw [ex_10]; rfl) (by decide) rfl (fun ls hl => ?_)
            refine lv_goto (tgt := 23) hx hb d_M_give_86 (by decide) ?_
            exact ih a6 x_10 ls h (lv_sub hl [1, 2, 3, 4, 5, 6, 7, 0] rfl)
          · replace h := h.2 c_9
            refine lv_iload hx hb d_M_give_59 (lv_at hl 6 rfl) ?_
            refine lv_if_lt (tgt := 79) hx hb d_M_give_61 (by decide) (fun c_11 => ?_) (fun c_11 => ?_)
            · replace h := h.1 c_11
              refine lv_iload hx hb d_M_give_79 (lv_at hl 7 rfl) ?_
              refine lv_istore (lv' := [(6, .int a7), (0, .ref (cA L 0)), (1, .int a1), (2, .int a2), (3, .int a3), (4, .int a4), (5, .int a5), (7, .int a7)]) hx hb d_M_give_81 hl (by decide) rfl (fun ls hl => ?_)
              obtain ⟨x_12, ex_12⟩ : ∃ y : Int32, y = a7 + 1 := ⟨_, rfl⟩
              replace h := h x_12 ex_12
              refine lv_iinc (v := x_12) (lv' := [(7, .int x_12), (6, .int a7), (0, .ref (cA L 0)), (1, .int a1), (2, .int a2), (3, .int a3), (4, .int a4), (5, .int a5)]) hx hb d_M_give_83 hl (k := 7) rfl (by rw [ex_12]; rfl) (by decide) rfl (fun ls hl => ?_)
              refine lv_goto (tgt := 23) hx hb d_M_give_86 (by decide) ?_
              exact ih a7 x_12 ls h (lv_sub hl [2, 3, 4, 5, 6, 7, 1, 0] rfl)
            · replace h := h.2 c_11
              refine lv_aload_n hx hb d_M_give_64 rfl (lv_at hl 0 rfl) ?_
              refine lv_iload hx hb d_M_give_65 (lv_at hl 7 rfl) ?_
              refine vp_callSi (va_runV (As := [.int a7]) (rest := []) ⟨hx, hb, hml, hown, hts⟩ (c_M_left l L a7 I F G _ h) (cwV 1 hts (gV wG837 wG839 wG29 wG54 wG840) rfl rfl rfl (by decide +kernel) ⟨Nat.le_of_ble_eq_true rfl, Nat.le_of_ble_eq_true rfl⟩) (mPre hK hN hw.1) rfl rfl hl.1 rfl (lv_room (Nat.le_of_ble_eq_true rfl)) d_M_give_67 ⟨Nat.le_of_ble_eq_true rfl, Nat.le_of_ble_eq_true rfl⟩).run (fun r_13 h => ?_)
              refine lv_aload_n hx hb d_M_give_70 rfl (lv_at hl 0 rfl) ?_
              refine lv_iload hx hb d_M_give_71 (lv_at hl 6 rfl) ?_
              refine vp_callSi (va_runV (As := [.int a6]) (rest := [.int r_13]) ⟨hx, hb, hml, hown, hts⟩ (c_M_left l L a6 I F G _ h) (cwV 1 hts (gV wG837 wG839 wG29 wG54 wG840) rfl rfl rfl (by decide +kernel) ⟨Nat.le_of_ble_eq_true rfl, Nat.le_of_ble_eq_true rfl⟩) (mPre hK hN hw.1) rfl rfl hl.1 rfl (lv_room (Nat.le_of_ble_eq_true rfl)) d_M_give_73 ⟨Nat.le_of_ble_eq_true rfl, Nat.le_of_ble_eq_true rfl⟩).run (fun r_14 h => ?_)
              refine lv_icmp_ge (tgt := 83) hx hb d_M_give_76 (by decide) (fun c_15 => ?_) (fun c_15 => ?_)
              · replace h := h.1 c_15
                obtain ⟨x_16, ex_16⟩ : ∃ y : Int32, y = a7 + 1 := ⟨_, rfl⟩
                replace h := h x_16 ex_16
                refine lv_iinc (v := x_16) (lv' := [(7, .int x_16), (0, .ref (cA L 0)), (1, .int a1), (2, .int a2), (3, .int a3), (4, .int a4), (5, .int a5), (6, .int a6)]) hx hb d_M_give_83 hl (k := 7) rfl (by rw [ex_16]; rfl) (by decide) rfl (fun ls hl => ?_)
                refine lv_goto (tgt := 23) hx hb d_M_give_86 (by decide) ?_
                exact ih a6 x_16 ls h (lv_sub hl [1, 2, 3, 4, 5, 6, 7, 0] rfl)
              · replace h := h.2 c_15
                refine lv_iload hx hb d_M_give_79 (lv_at hl 7 rfl) ?_
                refine lv_istore (lv' := [(6, .int a7), (0, .ref (cA L 0)), (1, .int a1), (2, .int a2), (3, .int a3), (4, .int a4), (5, .int a5), (7, .int a7)]) hx hb d_M_give_81 hl (by decide) rfl (fun ls hl => ?_)
                obtain ⟨x_17, ex_17⟩ : ∃ y : Int32, y = a7 + 1 := ⟨_, rfl⟩
                replace h := h x_17 ex_17
                refine lv_iinc (v := x_17) (lv' := [(7, .int x_17), (6, .int a7), (0, .ref (cA L 0)), (1, .int a1), (2, .int a2), (3, .int a3), (4, .int a4), (5, .int a5)]) hx hb d_M_give_83 hl (k := 7) rfl (by rw [ex_17]; rfl) (by decide) rfl (fun ls hl => ?_)
                refine lv_goto (tgt := 23) hx hb d_M_give_86 (by decide) ?_
                exact ih a7 x_17 ls h (lv_sub hl [2, 3, 4, 5, 6, 7, 1, 0] rfl)
set_option maxHeartbeats 4000000 in
set_option maxRecDepth 100000 in
theorem Wl_M_give_10 {p : Program} {l : Launch} {e : Env} {s : State} {m : MethodId} {args : Array Value} {below : List Frame} {meth : Method} {c : Code} {L : cL} {A : Nat → Prop} {post : Int32 → MI → MF → MG → Prop} {K : Int32 → Int32 → Int32 → Int32 → MI → MF → MG → Prop} {a1 : Int32} (xc : xC p s m args meth c b_M_give 8 lwG qR5 (some .int)) (hK : va_K L.1 vwCl (mTys L) s) (hN : mNk s) (hA : ∀ q, s.heap.size ≤ q → A q)
    (hk : ∀ (a2 : Int32) (a3 : Int32) (a4 : Int32) (a5 : Int32) (I : MI) (F : MF) (G : MG) (H : Heap) (locs : List Loc) (ls : Array Slot), K a2 a3 a4 a5 I F G → MW L A s.heap I F G H locs → lv_has ls 8 [(0, .ref (cA L 0)), (1, .int a1), (2, .int a2), (3, .int a3), (4, .int a4), (5, .int a5)] → W p l e rm_M_give s m args below meth c H locs 0 0 (MQ below (mQi L A post A) args s 0 0 A) (F0 m 153 ls [])) :
    ∀ (n : Nat) (a2 : Int32) (a3 : Int32) (a4 : Int32) (a5 : Int32) (I : MI) (F : MF) (G : MG) (H : Heap) (locs : List Loc) (ls : Array Slot), wl_M_give_10 post K a1 n a2 a3 a4 a5 I F G → MW L A s.heap I F G H locs → lv_has ls 8 [(0, .ref (cA L 0)), (1, .int a1), (2, .int a2), (3, .int a3), (4, .int a4), (5, .int a5)] → W p l e rm_M_give s m args below meth c H locs 0 0 (MQ below (mQi L A post A) args s 0 0 A) (F0 m 10 ls []) := by
  obtain ⟨hx, hb, hml, hown, hts, hr, hlocks⟩ := id xc
  intro n
  induction n with
  | zero => intro a2 a3 a4 a5 I F G H locs ls h; exact absurd h id
  | succ n ih =>
    intro a2 a3 a4 a5 I F G H locs ls h hw hl
    refine lv_iload hx hb d_M_give_10 (lv_at hl 5 rfl) ?_
    refine lv_bipush (v := 12) hx hb d_M_give_12 (by decide) ?_
    refine lv_icmp_ge (tgt := 153) hx hb d_M_give_14 (by decide) (fun c_1 => ?_) (fun c_1 => ?_)
    · replace h := h.1 c_1
      exact hk a2 a3 a4 a5 I F G _ _ ls h hw (lv_sub hl [0, 1, 2, 3, 4, 5] rfl)
    · replace h := h.2 c_1
      refine lv_iconst (v := (-1)) hx hb d_M_give_17 (by decide) ?_
      refine lv_istore (lv' := [(6, .int (-1)), (0, .ref (cA L 0)), (1, .int a1), (2, .int a2), (3, .int a3), (4, .int a4), (5, .int a5)]) hx hb d_M_give_18 hl (by decide) rfl (fun ls hl => ?_)
      refine lv_iconst (v := 0) hx hb d_M_give_20 (by decide) ?_
      refine lv_istore (lv' := [(7, .int 0), (6, .int (-1)), (0, .ref (cA L 0)), (1, .int a1), (2, .int a2), (3, .int a3), (4, .int a4), (5, .int a5)]) hx hb d_M_give_21 hl (by decide) rfl (fun ls hl => ?_)
      obtain ⟨n_33, h⟩ := h
      refine Wl_M_give_23 xc hK hN hA hw (hk := fun x_18 x_19 ls h hl => ?_) n_33 (-1) 0 ls h (lv_sub hl [2, 3, 4, 5, 6, 7, 1, 0] rfl)
      refine lv_iload hx hb d_M_give_89 (lv_at hl 6 rfl) ?_
      refine lv_iconst (v := (-1)) hx hb d_M_give_91 (by decide) ?_
      refine lv_icmp_ne (tgt := 97) hx hb d_M_give_92 (by decide) (fun c_20 => ?_) (fun c_20 => ?_)
      · replace h := h.1 c_20
        refine lv_iload hx hb d_M_give_97 (lv_at hl 4 rfl) ?_
        refine lv_iconst (v := 1) hx hb d_M_give_99 (by decide) ?_
        refine lv_iload hx hb d_M_give_100 (lv_at hl 6 rfl) ?_
        refine lv_ishl hx hb d_M_give_102 ?_
        refine lv_ior hx hb d_M_give_103 ?_
        refine lv_topi (fun x_21 ex_21 => ?_)
        replace h := h x_21 ex_21
        refine lv_istore (lv' := [(4, .int x_21), (0, .ref (cA L 0)), (1, .int a1), (2, .int a2), (3, .int a3), (5, .int a5), (6, .int x_18), (7, .int x_19)]) hx hb d_M_give_104 hl (by decide) rfl (fun ls hl => ?_)
        refine lv_aload_n hx hb d_M_give_106 rfl (lv_at hl 1 rfl) ?_
        refine lv_iload hx hb d_M_give_107 (lv_at hl 6 rfl) ?_
        refine vp_callSi (va_runV (As := [.int x_18]) (rest := []) ⟨hx, hb, hml, hown, hts⟩ (c_M_left l L x_18 I F G _ h) (cwV 1 hts (gV wG837 wG839 wG29 wG54 wG840) rfl rfl rfl (by decide +kernel) ⟨Nat.le_of_ble_eq_true rfl, Nat.le_of_ble_eq_true rfl⟩) (mPre hK hN hw.1) rfl rfl hl.1 rfl (lv_room (Nat.le_of_ble_eq_true rfl)) d_M_give_109 ⟨Nat.le_of_ble_eq_true rfl, Nat.le_of_ble_eq_true rfl⟩).run (fun r_22 h => ?_)
        refine lv_iload_n hx hb d_M_give_112 rfl (lv_at hl 4 rfl) ?_
        refine lv_icmp_le (tgt := 147) hx hb d_M_give_113 (by decide) (fun c_23 => ?_) (fun c_23 => ?_)
        · replace h := h.1 c_23
          obtain ⟨x_24, ex_24⟩ : ∃ y : Int32, y = a5 + 1 := ⟨_, rfl⟩
          replace h := h x_24 ex_24
          refine lv_iinc (v := x_24) (lv' := [(5, .int x_24), (4, .int x_21), (0, .ref (cA L 0)), (1, .int a1), (2, .int a2), (3, .int a3), (6, .int x_18), (7, .int x_19)]) hx hb d_M_give_147 hl (k := 5) rfl (by rw [ex_24]; rfl) (by decide) rfl (fun ls hl => ?_)
          refine lv_goto (tgt := 10) hx hb d_M_give_150 (by decide) ?_
          exact ih a2 a3 x_21 x_24 I F G _ _ ls h hw (lv_sub hl [2, 3, 4, 5, 1, 0] rfl)
        · replace h := h.2 c_23
          refine lv_aload_n hx hb d_M_give_116 rfl (lv_at hl 1 rfl) ?_
          refine lv_iload hx hb d_M_give_117 (lv_at hl 6 rfl) ?_
          refine lv_iload_n hx hb d_M_give_119 rfl (lv_at hl 2 rfl) ?_
          refine vp_callSi (va_runV (As := [.int x_18, .int a1]) (rest := []) ⟨hx, hb, hml, hown, hts⟩ (c_M_isFree l L x_18 a1 I F G _ h) (cwV 2 hts (gV wG841 wG843 wG30 wG54 wG844) rfl rfl rfl (by decide +kernel) ⟨Nat.le_of_ble_eq_true rfl, Nat.le_of_ble_eq_true rfl⟩) (mPre hK hN hw.1) rfl rfl hl.1 rfl (lv_room (Nat.le_of_ble_eq_true rfl)) d_M_give_120 ⟨Nat.le_of_ble_eq_true rfl, Nat.le_of_ble_eq_true rfl⟩).run (fun r_25 h => ?_)
          refine lv_if_ne (tgt := 129) hx hb d_M_give_123 (by decide) (fun c_26 => ?_) (fun c_26 => ?_)
          · replace h := h.1 c_26
            refine lv_aload_n hx hb d_M_give_129 rfl (lv_at hl 1 rfl) ?_
            refine va_get (D := L.1) (ci := 5) (v := .ref (cA L 9)) (C := qR5) (T := qT5) (N := 16) hx hb hts qi5 hown hK hw.1 0 rfl rfl 11 (by decide) (hts _ wG743) (fun _ h9 => h9) rfl d_M_give_130 ?_
            refine lv_iload hx hb d_M_give_133 (lv_at hl 6 rfl) ?_
            refine lv_iload_n hx hb d_M_give_135 rfl (lv_at hl 2 rfl) ?_
            obtain ⟨hi_27, h⟩ := h
            refine m_iast hx hb hK hw 7 9 rfl (fun _ => rfl) hi_27 d_M_give_136 (fun H locs hw => ?_)
            obtain ⟨F_28, eF_28⟩ : ∃ y : MF, y = setF F 7 (upd (F 7) x_18.toNatClampNeg a1) := ⟨_, rfl⟩
            rw [← eF_28] at hw
            replace h := h F_28 eF_28
            refine lv_aload_n hx hb d_M_give_137 rfl (lv_at hl 1 rfl) ?_
            refine lv_iload hx hb d_M_give_138 (lv_at hl 6 rfl) ?_
            refine vp_callSi (va_runV (As := [.int x_18]) (rest := []) ⟨hx, hb, hml, hown, hts⟩ (c_M_right l L x_18 I F_28 G _ h) (cwV 1 hts (gV wG849 wG851 wG32 wG54 wG852) rfl rfl rfl (by decide +kernel) ⟨Nat.le_of_ble_eq_true rfl, Nat.le_of_ble_eq_true rfl⟩) (mPre hK hN hw.1) rfl rfl hl.1 rfl (lv_room (Nat.le_of_ble_eq_true rfl)) d_M_give_140 ⟨Nat.le_of_ble_eq_true rfl, Nat.le_of_ble_eq_true rfl⟩).run (fun r_29 h => ?_)
            refine lv_istore_n (lv' := [(3, .int r_29), (4, .int x_21), (0, .ref (cA L 0)), (1, .int a1), (2, .int a2), (5, .int a5), (6, .int x_18), (7, .int x_19)]) hx hb d_M_give_143 rfl hl (by decide) rfl (fun ls hl => ?_)
            obtain ⟨x_30, ex_30⟩ : ∃ y : Int32, y = a2 + 1 := ⟨_, rfl⟩
            replace h := h x_30 ex_30
            refine lv_iinc (v := x_30) (lv' := [(2, .int x_30), (3, .int r_29), (4, .int x_21), (0, .ref (cA L 0)), (1, .int a1), (5, .int a5), (6, .int x_18), (7, .int x_19)]) hx hb d_M_give_144 hl (k := 4) rfl (by rw [ex_30]; rfl) (by decide) rfl (fun ls hl => ?_)
            obtain ⟨x_31, ex_31⟩ : ∃ y : Int32, y = a5 + 1 := ⟨_, rfl⟩
            replace h := h x_31 ex_31
            refine lv_iinc (v := x_31) (lv' := [(5, .int x_31), (2, .int x_30), (3, .int r_29), (4, .int x_21), (0, .ref (cA L 0)), (1, .int a1), (6, .int x_18), (7, .int x_19)]) hx hb d_M_give_147 hl (k := 5) rfl (by rw [ex_31]; rfl) (by decide) rfl (fun ls hl => ?_)
            refine lv_goto (tgt := 10) hx hb d_M_give_150 (by decide) ?_
            exact ih x_30 r_29 x_21 x_31 I F_28 G _ _ ls h hw (lv_sub hl [4, 5, 1, 2, 3, 0] rfl)
          · replace h := h.2 c_26
            refine lv_goto (tgt := 147) hx hb d_M_give_126 (by decide) ?_
            obtain ⟨x_32, ex_32⟩ : ∃ y : Int32, y = a5 + 1 := ⟨_, rfl⟩
            replace h := h x_32 ex_32
            refine lv_iinc (v := x_32) (lv' := [(5, .int x_32), (4, .int x_21), (0, .ref (cA L 0)), (1, .int a1), (2, .int a2), (3, .int a3), (6, .int x_18), (7, .int x_19)]) hx hb d_M_give_147 hl (k := 5) rfl (by rw [ex_32]; rfl) (by decide) rfl (fun ls hl => ?_)
            refine lv_goto (tgt := 10) hx hb d_M_give_150 (by decide) ?_
            exact ih a2 a3 x_21 x_32 I F G _ _ ls h hw (lv_sub hl [2, 3, 4, 5, 1, 0] rfl)
      · replace h := h.2 c_20
        refine lv_iload_n hx hb d_M_give_95 rfl (lv_at hl 2 rfl) ?_
        exact W.iret hx hb hr (fun t ht hW => ⟨⟨_, (I, F, G), rfl, h, by rw [ht]; exact hw.1, va_K.moved hW.alike hK, hw.2.1⟩, hw.2.2.F ht⟩) hw.2.2.2.2 d_M_give_96
set_option maxHeartbeats 4000000 in
set_option maxRecDepth 100000 in
theorem c_M_give (l : Launch) (L : cL) (a1 : Int32) (I : MI) (F : MF) (G : MG) (sz : Nat) (post : Int32 → MI → MF → MG → Prop) (h : wp_M_give a1 I F G post) : Met l y_M_give (.code y_M_give b_M_give 8 (some .int) :: lwG) rm_M_give (mPm L I F G sz [.ref (cA L 0), .int a1]) (mQi L (mAA L I F G sz) post (mAA L I F G sz)) 0 0 (mAA L I F G sz) := by
  refine Met.ofW (cc := b_M_give) (maxL := 8) (ret := (some .int)) (by decide) rfl ?_
  intro p e s m args below meth c s₁ B hml hv
  obtain ⟨rfl, hsz, hP, hK, hD0, hN⟩ := hv
  have xc : xC p s m _ meth c b_M_give 8 lwG qR5 (some .int) := ⟨B.exec, B.bytes, hml, findClass_of_methodNamed B.named, fun w h => atoms_spec (ws := (.code y_M_give b_M_give 8 (some .int) :: lwG)) B.pre w (List.mem_cons_of_mem _ h), B.returns, B.notSynchronized⟩
  obtain ⟨hx, hb, hml, hown, hts, hr, hlocks⟩ := id xc
  subst hsz
  have hD : va_D (mAA L I F G s.heap.size) (WM L I F G) := hD0.self
  have hA0 : ∀ q : Nat, s.heap.size ≤ q → mAA L I F G s.heap.size q := fun q h => Or.inr h
  generalize mAA L I F G s.heap.size = A at hD hA0 ⊢
  have hA := hA0
  have hw : MW L A s.heap I F G s.heap [] := ⟨hP, hD, va_S.rf⟩
  have hl := lv_entry ([.ref (cA L 0), .int a1]) (n := 8) (Nat.le_of_ble_eq_true rfl)
  rw [lg_entry_eq]
  generalize (lg_sl ([.ref (cA L 0), .int a1]) ++ List.replicate (8 - (lg_sl ([.ref (cA L 0), .int a1])).length) Slot.unset).toArray = ls at hl ⊢
  have hl : lv_has ls 8 [(0, .ref (cA L 0)), (1, .int a1)] := hl
  refine lv_iconst (v := 0) hx hb d_M_give_0 (by decide) ?_
  refine lv_istore_n (lv' := [(2, .int 0), (0, .ref (cA L 0)), (1, .int a1)]) hx hb d_M_give_1 rfl hl (by decide) rfl (fun ls hl => ?_)
  refine lv_iconst (v := (-1)) hx hb d_M_give_2 (by decide) ?_
  refine lv_istore_n (lv' := [(3, .int (-1)), (2, .int 0), (0, .ref (cA L 0)), (1, .int a1)]) hx hb d_M_give_3 rfl hl (by decide) rfl (fun ls hl => ?_)
  refine lv_iconst (v := 0) hx hb d_M_give_4 (by decide) ?_
  refine lv_istore (lv' := [(4, .int 0), (3, .int (-1)), (2, .int 0), (0, .ref (cA L 0)), (1, .int a1)]) hx hb d_M_give_5 hl (by decide) rfl (fun ls hl => ?_)
  refine lv_iconst (v := 0) hx hb d_M_give_7 (by decide) ?_
  refine lv_istore (lv' := [(5, .int 0), (4, .int 0), (3, .int (-1)), (2, .int 0), (0, .ref (cA L 0)), (1, .int a1)]) hx hb d_M_give_8 hl (by decide) rfl (fun ls hl => ?_)
  obtain ⟨n_39, h⟩ := h
  refine Wl_M_give_10 xc hK hN hA (hk := fun x_34 x_35 x_36 x_37 I_38 F_38 G_38 H locs ls h hw hl => ?_) n_39 0 (-1) 0 0 I F G _ _ ls h hw (lv_sub hl [4, 5, 3, 2, 1, 0] rfl)
  refine lv_iload_n hx hb d_M_give_153 rfl (lv_at hl 2 rfl) ?_
  exact W.iret hx hb hr (fun t ht hW => ⟨⟨_, (I_38, F_38, G_38), rfl, h, by rw [ht]; exact hw.1, va_K.moved hW.alike hK, hw.2.1⟩, hw.2.2.F ht⟩) hw.2.2.2.2 d_M_give_154
abbrev rm_M_mark : Room := { frames := 0, cells := 0, slots := 0, locals := 0 }
set_option maxHeartbeats 4000000 in
set_option maxRecDepth 100000 in
theorem c_M_mark (l : Launch) (L : cL) (a1 : Int32) (a2 : Int32) (a3 : Int32) (I : MI) (F : MF) (G : MG) (sz : Nat) (post : MI → MF → MG → Prop) (h : wp_M_mark a1 a2 a3 I F G post) : Met l y_M_mark (.code y_M_mark b_M_mark 4 (none) :: lwG) rm_M_mark (mPm L I F G sz [.ref (cA L 0), .int a1, .int a2, .int a3]) (mQv L (mAA L I F G sz) post (mAA L I F G sz)) 0 0 (mAA L I F G sz) := by
  refine Met.ofW (cc := b_M_mark) (maxL := 4) (ret := (none)) (by decide) rfl ?_
  intro p e s m args below meth c s₁ B hml hv
  obtain ⟨rfl, hsz, hP, hK, hD0, hN⟩ := hv
  have xc : xC p s m _ meth c b_M_mark 4 lwG qR5 (none) := ⟨B.exec, B.bytes, hml, findClass_of_methodNamed B.named, fun w h => atoms_spec (ws := (.code y_M_mark b_M_mark 4 (none) :: lwG)) B.pre w (List.mem_cons_of_mem _ h), B.returns, B.notSynchronized⟩
  obtain ⟨hx, hb, hml, hown, hts, hr, hlocks⟩ := id xc
  subst hsz
  have hD : va_D (mAA L I F G s.heap.size) (WM L I F G) := hD0.self
  have hA0 : ∀ q : Nat, s.heap.size ≤ q → mAA L I F G s.heap.size q := fun q h => Or.inr h
  generalize mAA L I F G s.heap.size = A at hD hA0 ⊢
  have hA := hA0
  have hw : MW L A s.heap I F G s.heap [] := ⟨hP, hD, va_S.rf⟩
  have hl := lv_entry ([.ref (cA L 0), .int a1, .int a2, .int a3]) (n := 4) (Nat.le_of_ble_eq_true rfl)
  rw [lg_entry_eq]
  generalize (lg_sl ([.ref (cA L 0), .int a1, .int a2, .int a3]) ++ List.replicate (4 - (lg_sl ([.ref (cA L 0), .int a1, .int a2, .int a3])).length) Slot.unset).toArray = ls at hl ⊢
  have hl : lv_has ls 4 [(0, .ref (cA L 0)), (1, .int a1), (2, .int a2), (3, .int a3)] := hl
  refine lv_aload_n hx hb d_M_mark_0 rfl (lv_at hl 0 rfl) ?_
  refine va_get (D := L.1) (ci := 5) (v := .ref (cA L 10)) (C := qR5) (T := qT5) (N := 16) hx hb hts qi5 hown hK hw.1 0 rfl rfl 12 (by decide) (hts _ wG744) (fun _ h9 => h9) rfl d_M_mark_1 ?_
  refine lv_bipush (v := 24) hx hb d_M_mark_4 (by decide) ?_
  refine lv_iload_n hx hb d_M_mark_6 rfl (lv_at hl 1 rfl) ?_
  refine lv_imul hx hb d_M_mark_7 ?_
  refine lv_iload_n hx hb d_M_mark_8 rfl (lv_at hl 2 rfl) ?_
  refine lv_iadd hx hb d_M_mark_9 ?_
  refine lv_dup2_11 hx hb d_M_mark_10 rfl rfl ?_
  obtain ⟨hi_1, h⟩ := h
  refine va_iald hx hb hK hw.1 10 0 rfl rfl hi_1 d_M_mark_11 ?_
  refine lv_iload_n hx hb d_M_mark_12 rfl (lv_at hl 3 rfl) ?_
  refine lv_ior hx hb d_M_mark_13 ?_
  obtain ⟨hi_2, h⟩ := h
  refine m_iast hx hb hK hw 8 10 rfl (fun _ => rfl) hi_2 d_M_mark_14 (fun H locs hw => ?_)
  obtain ⟨F_3, eF_3⟩ : ∃ y : MF, y = setF F 8 (upd (F 8) ((24 * a1) + a2).toNatClampNeg ((F 8 ((24 * a1) + a2).toNatClampNeg) ||| a3)) := ⟨_, rfl⟩
  rw [← eF_3] at hw
  replace h := h F_3 eF_3
  exact W.vret hx hb hr (fun t ht hW => ⟨⟨(I, F_3, G), rfl, h, by rw [ht]; exact hw.1, va_K.moved hW.alike hK, hw.2.1⟩, hw.2.2.F ht⟩) hw.2.2.2.2 d_M_mark_15
abbrev rm_M_draw : Room := { frames := 5, cells := 0, slots := 0, locals := 112 }
set_option maxHeartbeats 4000000 in
set_option maxRecDepth 100000 in
theorem Wl_M_draw_2 {p : Program} {l : Launch} {e : Env} {s : State} {m : MethodId} {args : Array Value} {below : List Frame} {meth : Method} {c : Code} {L : cL} {A : Nat → Prop} {post : MI → MF → MG → Prop} {K : Int32 → MI → MF → MG → Prop} (xc : xC p s m args meth c b_M_draw 6 lwG qR5 (none)) (hK : va_K L.1 vwCl (mTys L) s) (hN : mNk s) (hA : ∀ q, s.heap.size ≤ q → A q)
    (hk : ∀ (a1 : Int32) (I : MI) (F : MF) (G : MG) (H : Heap) (locs : List Loc) (ls : Array Slot), K a1 I F G → MW L A s.heap I F G H locs → lv_has ls 6 [(0, .ref (cA L 0)), (1, .int a1)] → W p l e rm_M_draw s m args below meth c H locs 0 0 (MQ below (mQv L A post A) args s 0 0 A) (F0 m 22 ls [])) :
    ∀ (n : Nat) (a1 : Int32) (I : MI) (F : MF) (G : MG) (H : Heap) (locs : List Loc) (ls : Array Slot), wl_M_draw_2 post K n a1 I F G → MW L A s.heap I F G H locs → lv_has ls 6 [(0, .ref (cA L 0)), (1, .int a1)] → W p l e rm_M_draw s m args below meth c H locs 0 0 (MQ below (mQv L A post A) args s 0 0 A) (F0 m 2 ls []) := by
  obtain ⟨hx, hb, hml, hown, hts, hr, hlocks⟩ := id xc
  intro n
  induction n with
  | zero => intro a1 I F G H locs ls h; exact absurd h id
  | succ n ih =>
    intro a1 I F G H locs ls h hw hl
    refine lv_iload_n hx hb d_M_draw_2 rfl (lv_at hl 1 rfl) ?_
    refine lv_sipush (v := 264) hx hb d_M_draw_3 (by decide) ?_
    refine lv_icmp_ge (tgt := 22) hx hb d_M_draw_6 (by decide) (fun c_1 => ?_) (fun c_1 => ?_)
    · replace h := h.1 c_1
      exact hk a1 I F G _ _ ls h hw (lv_sub hl [0, 1] rfl)
    · replace h := h.2 c_1
      refine lv_aload_n hx hb d_M_draw_9 rfl (lv_at hl 0 rfl) ?_
      refine va_get (D := L.1) (ci := 5) (v := .ref (cA L 10)) (C := qR5) (T := qT5) (N := 16) hx hb hts qi5 hown hK hw.1 0 rfl rfl 12 (by decide) (hts _ wG744) (fun _ h9 => h9) rfl d_M_draw_10 ?_
      refine lv_iload_n hx hb d_M_draw_13 rfl (lv_at hl 1 rfl) ?_
      refine lv_iconst (v := 0) hx hb d_M_draw_14 (by decide) ?_
      obtain ⟨hi_2, h⟩ := h
      refine m_iast hx hb hK hw 8 10 rfl (fun _ => rfl) hi_2 d_M_draw_15 (fun H locs hw => ?_)
      obtain ⟨F_3, eF_3⟩ : ∃ y : MF, y = setF F 8 (upd (F 8) a1.toNatClampNeg 0) := ⟨_, rfl⟩
      rw [← eF_3] at hw
      replace h := h F_3 eF_3
      obtain ⟨x_4, ex_4⟩ : ∃ y : Int32, y = a1 + 1 := ⟨_, rfl⟩
      replace h := h x_4 ex_4
      refine lv_iinc (v := x_4) (lv' := [(1, .int x_4), (0, .ref (cA L 0))]) hx hb d_M_draw_16 hl (k := 1) rfl (by rw [ex_4]; rfl) (by decide) rfl (fun ls hl => ?_)
      refine lv_goto (tgt := 2) hx hb d_M_draw_19 (by decide) ?_
      exact ih x_4 I F_3 G _ _ ls h hw (lv_sub hl [1, 0] rfl)
set_option maxHeartbeats 4000000 in
set_option maxRecDepth 100000 in
theorem Wl_M_draw_50 {p : Program} {l : Launch} {e : Env} {s : State} {m : MethodId} {args : Array Value} {below : List Frame} {meth : Method} {c : Code} {L : cL} {A : Nat → Prop} {post : MI → MF → MG → Prop} {K : Int32 → MI → MF → MG → Prop} {a1 : Int32} {a2 : Int32} (xc : xC p s m args meth c b_M_draw 6 lwG qR5 (none)) (hK : va_K L.1 vwCl (mTys L) s) (hN : mNk s) (hA : ∀ q, s.heap.size ≤ q → A q)
    (hk : ∀ (a3 : Int32) (I : MI) (F : MF) (G : MG) (H : Heap) (locs : List Loc) (ls : Array Slot), K a3 I F G → MW L A s.heap I F G H locs → lv_has ls 6 [(0, .ref (cA L 0)), (1, .int a1), (2, .int a2), (3, .int a3)] → W p l e rm_M_draw s m args below meth c H locs 0 0 (MQ below (mQv L A post A) args s 0 0 A) (F0 m 72 ls [])) :
    ∀ (n : Nat) (a3 : Int32) (I : MI) (F : MF) (G : MG) (H : Heap) (locs : List Loc) (ls : Array Slot), wl_M_draw_50 post K a1 a2 n a3 I F G → MW L A s.heap I F G H locs → lv_has ls 6 [(0, .ref (cA L 0)), (1, .int a1), (2, .int a2), (3, .int a3)] → W p l e rm_M_draw s m args below meth c H locs 0 0 (MQ below (mQv L A post A) args s 0 0 A) (F0 m 50 ls []) := by
  obtain ⟨hx, hb, hml, hown, hts, hr, hlocks⟩ := id xc
  intro n
  induction n with
  | zero => intro a3 I F G H locs ls h; exact absurd h id
  | succ n ih =>
    intro a3 I F G H locs ls h hw hl
    refine lv_iload_n hx hb d_M_draw_50 rfl (lv_at hl 3 rfl) ?_
    refine lv_aload_n hx hb d_M_draw_51 rfl (lv_at hl 0 rfl) ?_
    refine lv_iload_n hx hb d_M_draw_52 rfl (lv_at hl 1 rfl) ?_
    refine vp_callSi (va_runV (As := [.int a1]) (rest := [.int a3]) ⟨hx, hb, hml, hown, hts⟩ (c_M_right l L a1 I F G _ h) (cwV 1 hts (gV wG849 wG851 wG32 wG54 wG852) rfl rfl rfl (by decide +kernel) ⟨Nat.le_of_ble_eq_true rfl, Nat.le_of_ble_eq_true rfl⟩) (mPre hK hN hw.1) rfl rfl hl.1 rfl (lv_room (Nat.le_of_ble_eq_true rfl)) d_M_draw_53 ⟨Nat.le_of_ble_eq_true rfl, Nat.le_of_ble_eq_true rfl⟩).run (fun r_12 h => ?_)
    refine lv_icmp_ge (tgt := 72) hx hb d_M_draw_56 (by decide) (fun c_13 => ?_) (fun c_13 => ?_)
    · replace h := h.1 c_13
      exact hk a3 I F G _ _ ls h hw (lv_sub hl [0, 1, 2, 3] rfl)
    · replace h := h.2 c_13
      refine lv_aload_n hx hb d_M_draw_59 rfl (lv_at hl 0 rfl) ?_
      refine lv_iload_n hx hb d_M_draw_60 rfl (lv_at hl 2 rfl) ?_
      refine lv_iload_n hx hb d_M_draw_61 rfl (lv_at hl 3 rfl) ?_
      refine lv_iconst (v := 1) hx hb d_M_draw_62 (by decide) ?_
      refine m_callv (va_runV (As := [.int a2, .int a3, .int 1]) (rest := []) ⟨hx, hb, hml, hown, hts⟩ (c_M_mark l L a2 a3 1 I F G _ _ h) (cwV 3 hts (gV wG857 wG859 wG34 wG54 wG860) rfl rfl rfl (by decide +kernel) ⟨Nat.le_of_ble_eq_true rfl, Nat.le_of_ble_eq_true rfl⟩) (mPrm hK hN hw) rfl rfl hl.1 rfl (lv_room (Nat.le_of_ble_eq_true rfl)) d_M_draw_63 ⟨Nat.le_of_ble_eq_true rfl, Nat.le_of_ble_eq_true rfl⟩) hw hA (fun I_14 F_14 G_14 H locs h hw => ?_)
      obtain ⟨x_15, ex_15⟩ : ∃ y : Int32, y = a3 + 1 := ⟨_, rfl⟩
      replace h := h x_15 ex_15
      refine lv_iinc (v := x_15) (lv' := [(3, .int x_15), (0, .ref (cA L 0)), (1, .int a1), (2, .int a2)]) hx hb d_M_draw_66 hl (k := 3) rfl (by rw [ex_15]; rfl) (by decide) rfl (fun ls hl => ?_)
      refine lv_goto (tgt := 50) hx hb d_M_draw_69 (by decide) ?_
      exact ih x_15 I_14 F_14 G_14 _ _ ls h hw (lv_sub hl [1, 2, 3, 0] rfl)
set_option maxHeartbeats 4000000 in
set_option maxRecDepth 100000 in
theorem Wl_M_draw_24 {p : Program} {l : Launch} {e : Env} {s : State} {m : MethodId} {args : Array Value} {below : List Frame} {meth : Method} {c : Code} {L : cL} {A : Nat → Prop} {post : MI → MF → MG → Prop} {K : Int32 → MI → MF → MG → Prop} (xc : xC p s m args meth c b_M_draw 6 lwG qR5 (none)) (hK : va_K L.1 vwCl (mTys L) s) (hN : mNk s) (hA : ∀ q, s.heap.size ≤ q → A q)
    (hk : ∀ (a1 : Int32) (I : MI) (F : MF) (G : MG) (H : Heap) (locs : List Loc) (ls : Array Slot), K a1 I F G → MW L A s.heap I F G H locs → lv_has ls 6 [(0, .ref (cA L 0)), (1, .int a1)] → W p l e rm_M_draw s m args below meth c H locs 0 0 (MQ below (mQv L A post A) args s 0 0 A) (F0 m 78 ls [])) :
    ∀ (n : Nat) (a1 : Int32) (I : MI) (F : MF) (G : MG) (H : Heap) (locs : List Loc) (ls : Array Slot), wl_M_draw_24 post K n a1 I F G → MW L A s.heap I F G H locs → lv_has ls 6 [(0, .ref (cA L 0)), (1, .int a1)] → W p l e rm_M_draw s m args below meth c H locs 0 0 (MQ below (mQv L A post A) args s 0 0 A) (F0 m 24 ls []) := by
  obtain ⟨hx, hb, hml, hown, hts, hr, hlocks⟩ := id xc
  intro n
  induction n with
  | zero => intro a1 I F G H locs ls h; exact absurd h id
  | succ n ih =>
    intro a1 I F G H locs ls h hw hl
    refine lv_iload_n hx hb d_M_draw_24 rfl (lv_at hl 1 rfl) ?_
    refine lv_bipush (v := 12) hx hb d_M_draw_25 (by decide) ?_
    refine lv_icmp_ge (tgt := 78) hx hb d_M_draw_27 (by decide) (fun c_7 => ?_) (fun c_7 => ?_)
    · replace h := h.1 c_7
      exact hk a1 I F G _ _ ls h hw (lv_sub hl [0, 1] rfl)
    · replace h := h.2 c_7
      refine lv_aload_n hx hb d_M_draw_30 rfl (lv_at hl 0 rfl) ?_
      refine va_get (D := L.1) (ci := 5) (v := .ref (cA L 9)) (C := qR5) (T := qT5) (N := 16) hx hb hts qi5 hown hK hw.1 0 rfl rfl 11 (by decide) (hts _ wG743) (fun _ h9 => h9) rfl d_M_draw_31 ?_
      refine lv_iload_n hx hb d_M_draw_34 rfl (lv_at hl 1 rfl) ?_
      obtain ⟨hi_8, h⟩ := h
      refine va_iald hx hb hK hw.1 9 0 rfl rfl hi_8 d_M_draw_35 ?_
      refine lv_topi (fun x_9 ex_9 => ?_)
      replace h := h x_9 ex_9
      refine lv_istore_n (lv' := [(2, .int x_9), (0, .ref (cA L 0)), (1, .int a1)]) hx hb d_M_draw_36 rfl hl (by decide) rfl (fun ls hl => ?_)
      refine lv_iload_n hx hb d_M_draw_37 rfl (lv_at hl 0 rfl) ?_
      refine lv_if_ne (tgt := 44) hx hb d_M_draw_38 (by decide) (fun c_10 => ?_) (fun c_10 => ?_)
      · replace h := h.1 c_10
        refine lv_aload_n hx hb d_M_draw_44 rfl (lv_at hl 1 rfl) ?_
        refine lv_iload_n hx hb d_M_draw_45 rfl (lv_at hl 2 rfl) ?_
        refine vp_callSi (va_runV (As := [.int a1]) (rest := []) ⟨hx, hb, hml, hown, hts⟩ (c_M_left l L a1 I F G _ h) (cwV 1 hts (gV wG837 wG839 wG29 wG54 wG840) rfl rfl rfl (by decide +kernel) ⟨Nat.le_of_ble_eq_true rfl, Nat.le_of_ble_eq_true rfl⟩) (mPre hK hN hw.1) rfl rfl hl.1 rfl (lv_room (Nat.le_of_ble_eq_true rfl)) d_M_draw_46 ⟨Nat.le_of_ble_eq_true rfl, Nat.le_of_ble_eq_true rfl⟩).run (fun r_11 h => ?_)
        refine lv_istore_n (lv' := [(3, .int r_11), (2, .int x_9), (0, .ref (cA L 0)), (1, .int a1)]) hx hb d_M_draw_49 rfl hl (by decide) rfl (fun ls hl => ?_)
        obtain ⟨n_19, h⟩ := h
        refine Wl_M_draw_50 xc hK hN hA (hk := fun x_16 I_17 F_17 G_17 H locs ls h hw hl => ?_) n_19 r_11 I F G _ _ ls h hw (lv_sub hl [2, 3, 1, 0] rfl)
        obtain ⟨x_18, ex_18⟩ : ∃ y : Int32, y = a1 + 1 := ⟨_, rfl⟩
        replace h := h x_18 ex_18
        refine lv_iinc (v := x_18) (lv' := [(1, .int x_18), (0, .ref (cA L 0)), (2, .int x_9), (3, .int x_16)]) hx hb d_M_draw_72 hl (k := 1) rfl (by rw [ex_18]; rfl) (by decide) rfl (fun ls hl => ?_)
        refine lv_goto (tgt := 24) hx hb d_M_draw_75 (by decide) ?_
        exact ih x_18 I_17 F_17 G_17 _ _ ls h hw (lv_sub hl [1, 0] rfl)
      · replace h := h.2 c_10
        refine lv_goto (tgt := 72) hx hb d_M_draw_41 (by decide) ?_
        obtain ⟨x_20, ex_20⟩ : ∃ y : Int32, y = a1 + 1 := ⟨_, rfl⟩
        replace h := h x_20 ex_20
        refine lv_iinc (v := x_20) (lv' := [(1, .int x_20), (2, .int x_9), (0, .ref (cA L 0))]) hx hb d_M_draw_72 hl (k := 2) rfl (by rw [ex_20]; rfl) (by decide) rfl (fun ls hl => ?_)
        refine lv_goto (tgt := 24) hx hb d_M_draw_75 (by decide) ?_
        exact ih x_20 I F G _ _ ls h hw (lv_sub hl [2, 0] rfl)
set_option maxHeartbeats 4000000 in
set_option maxRecDepth 100000 in
theorem Wl_M_draw_152 {p : Program} {l : Launch} {e : Env} {s : State} {m : MethodId} {args : Array Value} {below : List Frame} {meth : Method} {c : Code} {L : cL} {A : Nat → Prop} {post : MI → MF → MG → Prop} {K : Int32 → MI → MF → MG → Prop} {a1 : Int32} {a2 : Int32} {a3 : Int32} {a4 : Int32} (xc : xC p s m args meth c b_M_draw 6 lwG qR5 (none)) (hK : va_K L.1 vwCl (mTys L) s) (hN : mNk s) (hA : ∀ q, s.heap.size ≤ q → A q)
    (hk : ∀ (a5 : Int32) (I : MI) (F : MF) (G : MG) (H : Heap) (locs : List Loc) (ls : Array Slot), K a5 I F G → MW L A s.heap I F G H locs → lv_has ls 6 [(0, .ref (cA L 0)), (1, .int a1), (2, .int a2), (3, .int a3), (4, .int a4), (5, .int a5)] → W p l e rm_M_draw s m args below meth c H locs 0 0 (MQ below (mQv L A post A) args s 0 0 A) (F0 m 191 ls [])) :
    ∀ (n : Nat) (a5 : Int32) (I : MI) (F : MF) (G : MG) (H : Heap) (locs : List Loc) (ls : Array Slot), wl_M_draw_152 post K a1 a2 a3 a4 n a5 I F G → MW L A s.heap I F G H locs → lv_has ls 6 [(0, .ref (cA L 0)), (1, .int a1), (2, .int a2), (3, .int a3), (4, .int a4), (5, .int a5)] → W p l e rm_M_draw s m args below meth c H locs 0 0 (MQ below (mQv L A post A) args s 0 0 A) (F0 m 152 ls []) := by
  obtain ⟨hx, hb, hml, hown, hts, hr, hlocks⟩ := id xc
  intro n
  induction n with
  | zero => intro a5 I F G H locs ls h; exact absurd h id
  | succ n ih =>
    intro a5 I F G H locs ls h hw hl
    refine lv_iload hx hb d_M_draw_152 (lv_at hl 5 rfl) ?_
    refine lv_aload_n hx hb d_M_draw_154 rfl (lv_at hl 0 rfl) ?_
    refine va_get (D := L.1) (ci := 5) (v := .ref (cA L 5)) (C := qR5) (T := qT5) (N := 16) hx hb hts qi5 hown hK hw.1 0 rfl rfl 7 (by decide) (hts _ wG739) (fun _ h9 => h9) rfl d_M_draw_155 ?_
    refine lv_iload_n hx hb d_M_draw_158 rfl (lv_at hl 1 rfl) ?_
    obtain ⟨hi_35, h⟩ := h
    refine va_iald hx hb hK hw.1 5 0 rfl rfl hi_35 d_M_draw_159 ?_
    refine lv_if_ne (tgt := 167) hx hb d_M_draw_160 (by decide) (fun c_36 => ?_) (fun c_36 => ?_)
    · replace h := h.1 c_36
      refine lv_aload_n hx hb d_M_draw_167 rfl (lv_at hl 0 rfl) ?_
      refine va_get (D := L.1) (ci := 5) (v := .int (I 2)) (C := qR5) (T := qT5) (N := 16) hx hb hts qi5 hown hK hw.1 0 rfl rfl 2 (by decide) (hts _ wG734) (fun _ h9 => h9) rfl d_M_draw_168 ?_
      refine lv_iconst (v := 1) hx hb d_M_draw_171 (by decide) ?_
      refine lv_iadd hx hb d_M_draw_172 ?_
      refine lv_icmp_ge (tgt := 191) hx hb d_M_draw_173 (by decide) (fun c_37 => ?_) (fun c_37 => ?_)
      · replace h := h.1 c_37
        exact hk a5 I F G _ _ ls h hw (lv_sub hl [0, 1, 2, 3, 4, 5] rfl)
      · replace h := h.2 c_37
        refine lv_aload_n hx hb d_M_draw_176 rfl (lv_at hl 0 rfl) ?_
        refine lv_iload hx hb d_M_draw_177 (lv_at hl 5 rfl) ?_
        refine lv_iload hx hb d_M_draw_179 (lv_at hl 4 rfl) ?_
        refine lv_iconst (v := 2) hx hb d_M_draw_181 (by decide) ?_
        refine m_callv (va_runV (As := [.int a5, .int a4, .int 2]) (rest := []) ⟨hx, hb, hml, hown, hts⟩ (c_M_mark l L a5 a4 2 I F G _ _ h) (cwV 3 hts (gV wG857 wG859 wG34 wG54 wG860) rfl rfl rfl (by decide +kernel) ⟨Nat.le_of_ble_eq_true rfl, Nat.le_of_ble_eq_true rfl⟩) (mPrm hK hN hw) rfl rfl hl.1 rfl (lv_room (Nat.le_of_ble_eq_true rfl)) d_M_draw_182 ⟨Nat.le_of_ble_eq_true rfl, Nat.le_of_ble_eq_true rfl⟩) hw hA (fun I_38 F_38 G_38 H locs h hw => ?_)
        obtain ⟨x_39, ex_39⟩ : ∃ y : Int32, y = a5 + 1 := ⟨_, rfl⟩
        replace h := h x_39 ex_39
        refine lv_iinc (v := x_39) (lv' := [(5, .int x_39), (0, .ref (cA L 0)), (1, .int a1), (2, .int a2), (3, .int a3), (4, .int a4)]) hx hb d_M_draw_185 hl (k := 5) rfl (by rw [ex_39]; rfl) (by decide) rfl (fun ls hl => ?_)
        refine lv_goto (tgt := 152) hx hb d_M_draw_188 (by decide) ?_
        exact ih x_39 I_38 F_38 G_38 _ _ ls h hw (lv_sub hl [1, 2, 3, 4, 5, 0] rfl)
    · replace h := h.2 c_36
      refine lv_iload_n hx hb d_M_draw_163 rfl (lv_at hl 3 rfl) ?_
      refine lv_goto (tgt := 173) hx hb d_M_draw_164 (by decide) ?_
      refine lv_icmp_ge (tgt := 191) hx hb d_M_draw_173 (by decide) (fun c_40 => ?_) (fun c_40 => ?_)
      · replace h := h.1 c_40
        exact hk a5 I F G _ _ ls h hw (lv_sub hl [0, 1, 2, 3, 4, 5] rfl)
      · replace h := h.2 c_40
        refine lv_aload_n hx hb d_M_draw_176 rfl (lv_at hl 0 rfl) ?_
        refine lv_iload hx hb d_M_draw_177 (lv_at hl 5 rfl) ?_
        refine lv_iload hx hb d_M_draw_179 (lv_at hl 4 rfl) ?_
        refine lv_iconst (v := 2) hx hb d_M_draw_181 (by decide) ?_
        refine m_callv (va_runV (As := [.int a5, .int a4, .int 2]) (rest := []) ⟨hx, hb, hml, hown, hts⟩ (c_M_mark l L a5 a4 2 I F G _ _ h) (cwV 3 hts (gV wG857 wG859 wG34 wG54 wG860) rfl rfl rfl (by decide +kernel) ⟨Nat.le_of_ble_eq_true rfl, Nat.le_of_ble_eq_true rfl⟩) (mPrm hK hN hw) rfl rfl hl.1 rfl (lv_room (Nat.le_of_ble_eq_true rfl)) d_M_draw_182 ⟨Nat.le_of_ble_eq_true rfl, Nat.le_of_ble_eq_true rfl⟩) hw hA (fun I_41 F_41 G_41 H locs h hw => ?_)
        obtain ⟨x_42, ex_42⟩ : ∃ y : Int32, y = a5 + 1 := ⟨_, rfl⟩
        replace h := h x_42 ex_42
        refine lv_iinc (v := x_42) (lv' := [(5, .int x_42), (0, .ref (cA L 0)), (1, .int a1), (2, .int a2), (3, .int a3), (4, .int a4)]) hx hb d_M_draw_185 hl (k := 5) rfl (by rw [ex_42]; rfl) (by decide) rfl (fun ls hl => ?_)
        refine lv_goto (tgt := 152) hx hb d_M_draw_188 (by decide) ?_
        exact ih x_42 I_41 F_41 G_41 _ _ ls h hw (lv_sub hl [1, 2, 3, 4, 5, 0] rfl)
set_option maxHeartbeats 4000000 in
set_option maxRecDepth 100000 in
theorem Wl_M_draw_90 {p : Program} {l : Launch} {e : Env} {s : State} {m : MethodId} {args : Array Value} {below : List Frame} {meth : Method} {c : Code} {L : cL} {A : Nat → Prop} {post : MI → MF → MG → Prop} {K : Int32 → MI → MF → MG → Prop} {a1 : Int32} (xc : xC p s m args meth c b_M_draw 6 lwG qR5 (none)) (hK : va_K L.1 vwCl (mTys L) s) (hN : mNk s) (hA : ∀ q, s.heap.size ≤ q → A q)
    (hk : ∀ (a2 : Int32) (I : MI) (F : MF) (G : MG) (H : Heap) (locs : List Loc) (ls : Array Slot), K a2 I F G → MW L A s.heap I F G H locs → lv_has ls 6 [(0, .ref (cA L 0)), (1, .int a1), (2, .int a2)] → W p l e rm_M_draw s m args below meth c H locs 0 0 (MQ below (mQv L A post A) args s 0 0 A) (F0 m 197 ls [])) :
    ∀ (n : Nat) (a2 : Int32) (I : MI) (F : MF) (G : MG) (H : Heap) (locs : List Loc) (ls : Array Slot), wl_M_draw_90 post K a1 n a2 I F G → MW L A s.heap I F G H locs → lv_has ls 6 [(0, .ref (cA L 0)), (1, .int a1), (2, .int a2)] → W p l e rm_M_draw s m args below meth c H locs 0 0 (MQ below (mQv L A post A) args s 0 0 A) (F0 m 90 ls []) := by
  obtain ⟨hx, hb, hml, hown, hts, hr, hlocks⟩ := id xc
  intro n
  induction n with
  | zero => intro a2 I F G H locs ls h; exact absurd h id
  | succ n ih =>
    intro a2 I F G H locs ls h hw hl
    refine lv_iload_n hx hb d_M_draw_90 rfl (lv_at hl 2 rfl) ?_
    refine lv_aload_n hx hb d_M_draw_91 rfl (lv_at hl 0 rfl) ?_
    refine lv_iload_n hx hb d_M_draw_92 rfl (lv_at hl 1 rfl) ?_
    refine vp_callSi (va_runV (As := [.int a1]) (rest := [.int a2]) ⟨hx, hb, hml, hown, hts⟩ (c_M_pinsOf l L a1 I F G _ h) (cwV 1 hts (gV wG821 wG823 wG25 wG54 wG824) rfl rfl rfl (by decide +kernel) ⟨Nat.le_of_ble_eq_true rfl, Nat.le_of_ble_eq_true rfl⟩) (mPre hK hN hw.1) rfl rfl hl.1 rfl (lv_room (Nat.le_of_ble_eq_true rfl)) d_M_draw_93 ⟨Nat.le_of_ble_eq_true rfl, Nat.le_of_ble_eq_true rfl⟩).run (fun r_24 h => ?_)
    refine lv_icmp_ge (tgt := 197) hx hb d_M_draw_96 (by decide) (fun c_25 => ?_) (fun c_25 => ?_)
    · replace h := h.1 c_25
      exact hk a2 I F G _ _ ls h hw (lv_sub hl [0, 1, 2] rfl)
    · replace h := h.2 c_25
      refine lv_aload_n hx hb d_M_draw_99 rfl (lv_at hl 0 rfl) ?_
      refine va_get (D := L.1) (ci := 5) (v := .ref (cA L 9)) (C := qR5) (T := qT5) (N := 16) hx hb hts qi5 hown hK hw.1 0 rfl rfl 11 (by decide) (hts _ wG743) (fun _ h9 => h9) rfl d_M_draw_100 ?_
      refine lv_aload_n hx hb d_M_draw_103 rfl (lv_at hl 0 rfl) ?_
      refine lv_iload_n hx hb d_M_draw_104 rfl (lv_at hl 1 rfl) ?_
      refine lv_iload_n hx hb d_M_draw_105 rfl (lv_at hl 2 rfl) ?_
      refine vp_callSi (va_runV (As := [.int a1, .int a2]) (rest := [.ref (cA L 9)]) ⟨hx, hb, hml, hown, hts⟩ (c_M_netOf l L a1 a2 I F G _ h) (cwV 2 hts (gV wG825 wG827 wG26 wG54 wG828) rfl rfl rfl (by decide +kernel) ⟨Nat.le_of_ble_eq_true rfl, Nat.le_of_ble_eq_true rfl⟩) (mPre hK hN hw.1) rfl rfl hl.1 rfl (lv_room (Nat.le_of_ble_eq_true rfl)) d_M_draw_106 ⟨Nat.le_of_ble_eq_true rfl, Nat.le_of_ble_eq_true rfl⟩).run (fun r_26 h => ?_)
      obtain ⟨hi_27, h⟩ := h
      refine va_iald hx hb hK hw.1 9 0 rfl rfl hi_27 d_M_draw_109 ?_
      refine lv_topi (fun x_28 ex_28 => ?_)
      replace h := h x_28 ex_28
      refine lv_istore_n (lv' := [(3, .int x_28), (0, .ref (cA L 0)), (1, .int a1), (2, .int a2)]) hx hb d_M_draw_110 rfl hl (by decide) rfl (fun ls hl => ?_)
      refine lv_aload_n hx hb d_M_draw_111 rfl (lv_at hl 1 rfl) ?_
      refine va_get (D := L.1) (ci := 5) (v := .ref (cA L 6)) (C := qR5) (T := qT5) (N := 16) hx hb hts qi5 hown hK hw.1 0 rfl rfl 8 (by decide) (hts _ wG740) (fun _ h9 => h9) rfl d_M_draw_112 ?_
      refine lv_iload_n hx hb d_M_draw_115 rfl (lv_at hl 2 rfl) ?_
      obtain ⟨hi_29, h⟩ := h
      refine va_iald hx hb hK hw.1 6 0 rfl rfl hi_29 d_M_draw_116 ?_
      refine lv_iload_n hx hb d_M_draw_117 rfl (lv_at hl 3 rfl) ?_
      refine lv_iadd hx hb d_M_draw_118 ?_
      refine lv_topi (fun x_30 ex_30 => ?_)
      replace h := h x_30 ex_30
      refine lv_istore (lv' := [(4, .int x_30), (3, .int x_28), (0, .ref (cA L 0)), (1, .int a1), (2, .int a2)]) hx hb d_M_draw_119 hl (by decide) rfl (fun ls hl => ?_)
      refine lv_iload_n hx hb d_M_draw_121 rfl (lv_at hl 1 rfl) ?_
      refine lv_if_ne (tgt := 128) hx hb d_M_draw_122 (by decide) (fun c_31 => ?_) (fun c_31 => ?_)
      · replace h := h.1 c_31
        refine lv_aload_n hx hb d_M_draw_128 rfl (lv_at hl 2 rfl) ?_
        refine lv_iload_n hx hb d_M_draw_129 rfl (lv_at hl 1 rfl) ?_
        refine lv_iload hx hb d_M_draw_130 (lv_at hl 0 rfl) ?_
        refine lv_iconst (v := 4) hx hb d_M_draw_132 (by decide) ?_
        refine m_callv (va_runV (As := [.int x_28, .int x_30, .int 4]) (rest := []) ⟨hx, hb, hml, hown, hts⟩ (c_M_mark l L x_28 x_30 4 I F G _ _ h) (cwV 3 hts (gV wG857 wG859 wG34 wG54 wG860) rfl rfl rfl (by decide +kernel) ⟨Nat.le_of_ble_eq_true rfl, Nat.le_of_ble_eq_true rfl⟩) (mPrm hK hN hw) rfl rfl hl.1 rfl (lv_room (Nat.le_of_ble_eq_true rfl)) d_M_draw_133 ⟨Nat.le_of_ble_eq_true rfl, Nat.le_of_ble_eq_true rfl⟩) hw hA (fun I_32 F_32 G_32 H locs h hw => ?_)
        refine lv_aload_n hx hb d_M_draw_136 rfl (lv_at hl 2 rfl) ?_
        refine va_get (D := L.1) (ci := 5) (v := .ref (cA L 5)) (C := qR5) (T := qT5) (N := 16) hx hb hts qi5 hown hK hw.1 0 rfl rfl 7 (by decide) (hts _ wG739) (fun _ h9 => h9) rfl d_M_draw_137 ?_
        refine lv_iload_n hx hb d_M_draw_140 rfl (lv_at hl 3 rfl) ?_
        obtain ⟨hi_33, h⟩ := h
        refine va_iald hx hb hK hw.1 5 0 rfl rfl hi_33 d_M_draw_141 ?_
        refine lv_if_ne (tgt := 149) hx hb d_M_draw_142 (by decide) (fun c_34 => ?_) (fun c_34 => ?_)
        · replace h := h.1 c_34
          refine lv_iload_n hx hb d_M_draw_149 rfl (lv_at hl 1 rfl) ?_
          refine lv_istore (lv' := [(5, .int x_28), (4, .int x_30), (3, .int x_28), (0, .ref (cA L 0)), (1, .int a1), (2, .int a2)]) hx hb d_M_draw_150 hl (by decide) rfl (fun ls hl => ?_)
          obtain ⟨n_46, h⟩ := h
          refine Wl_M_draw_152 xc hK hN hA (hk := fun x_43 I_44 F_44 G_44 H locs ls h hw hl => ?_) n_46 x_28 I_32 F_32 G_32 _ _ ls h hw (lv_sub hl [3, 4, 5, 2, 1, 0] rfl)
          obtain ⟨x_45, ex_45⟩ : ∃ y : Int32, y = a2 + 1 := ⟨_, rfl⟩
          replace h := h x_45 ex_45
          refine lv_iinc (v := x_45) (lv' := [(2, .int x_45), (0, .ref (cA L 0)), (1, .int a1), (3, .int x_28), (4, .int x_30), (5, .int x_43)]) hx hb d_M_draw_191 hl (k := 2) rfl (by rw [ex_45]; rfl) (by decide) rfl (fun ls hl => ?_)
          refine lv_goto (tgt := 90) hx hb d_M_draw_194 (by decide) ?_
          exact ih x_45 I_44 F_44 G_44 _ _ ls h hw (lv_sub hl [1, 2, 0] rfl)
        · replace h := h.2 c_34
          refine lv_iconst (v := 0) hx hb d_M_draw_145 (by decide) ?_
          refine lv_goto (tgt := 150) hx hb d_M_draw_146 (by decide) ?_
          refine lv_istore (lv' := [(5, .int 0), (4, .int x_30), (3, .int x_28), (0, .ref (cA L 0)), (1, .int a1), (2, .int a2)]) hx hb d_M_draw_150 hl (by decide) rfl (fun ls hl => ?_)
          obtain ⟨n_50, h⟩ := h
          refine Wl_M_draw_152 xc hK hN hA (hk := fun x_47 I_48 F_48 G_48 H locs ls h hw hl => ?_) n_50 0 I_32 F_32 G_32 _ _ ls h hw (lv_sub hl [3, 4, 5, 2, 1, 0] rfl)
          obtain ⟨x_49, ex_49⟩ : ∃ y : Int32, y = a2 + 1 := ⟨_, rfl⟩
          replace h := h x_49 ex_49
          refine lv_iinc (v := x_49) (lv' := [(2, .int x_49), (0, .ref (cA L 0)), (1, .int a1), (3, .int x_28), (4, .int x_30), (5, .int x_47)]) hx hb d_M_draw_191 hl (k := 2) rfl (by rw [ex_49]; rfl) (by decide) rfl (fun ls hl => ?_)
          refine lv_goto (tgt := 90) hx hb d_M_draw_194 (by decide) ?_
          exact ih x_49 I_48 F_48 G_48 _ _ ls h hw (lv_sub hl [1, 2, 0] rfl)
      · replace h := h.2 c_31
        refine lv_goto (tgt := 191) hx hb d_M_draw_125 (by decide) ?_
        obtain ⟨x_51, ex_51⟩ : ∃ y : Int32, y = a2 + 1 := ⟨_, rfl⟩
        replace h := h x_51 ex_51
        refine lv_iinc (v := x_51) (lv' := [(2, .int x_51), (4, .int x_30), (3, .int x_28), (0, .ref (cA L 0)), (1, .int a1)]) hx hb d_M_draw_191 hl (k := 4) rfl (by rw [ex_51]; rfl) (by decide) rfl (fun ls hl => ?_)
        refine lv_goto (tgt := 90) hx hb d_M_draw_194 (by decide) ?_
        exact ih x_51 I F G _ _ ls h hw (lv_sub hl [3, 4, 0] rfl)
set_option maxHeartbeats 4000000 in
set_option maxRecDepth 100000 in
theorem Wl_M_draw_80 {p : Program} {l : Launch} {e : Env} {s : State} {m : MethodId} {args : Array Value} {below : List Frame} {meth : Method} {c : Code} {L : cL} {A : Nat → Prop} {post : MI → MF → MG → Prop} {K : Int32 → MI → MF → MG → Prop} (xc : xC p s m args meth c b_M_draw 6 lwG qR5 (none)) (hK : va_K L.1 vwCl (mTys L) s) (hN : mNk s) (hA : ∀ q, s.heap.size ≤ q → A q)
    (hk : ∀ (a1 : Int32) (I : MI) (F : MF) (G : MG) (H : Heap) (locs : List Loc) (ls : Array Slot), K a1 I F G → MW L A s.heap I F G H locs → lv_has ls 6 [(0, .ref (cA L 0)), (1, .int a1)] → W p l e rm_M_draw s m args below meth c H locs 0 0 (MQ below (mQv L A post A) args s 0 0 A) (F0 m 203 ls [])) :
    ∀ (n : Nat) (a1 : Int32) (I : MI) (F : MF) (G : MG) (H : Heap) (locs : List Loc) (ls : Array Slot), wl_M_draw_80 post K n a1 I F G → MW L A s.heap I F G H locs → lv_has ls 6 [(0, .ref (cA L 0)), (1, .int a1)] → W p l e rm_M_draw s m args below meth c H locs 0 0 (MQ below (mQv L A post A) args s 0 0 A) (F0 m 80 ls []) := by
  obtain ⟨hx, hb, hml, hown, hts, hr, hlocks⟩ := id xc
  intro n
  induction n with
  | zero => intro a1 I F G H locs ls h; exact absurd h id
  | succ n ih =>
    intro a1 I F G H locs ls h hw hl
    refine lv_iload_n hx hb d_M_draw_80 rfl (lv_at hl 1 rfl) ?_
    refine lv_aload_n hx hb d_M_draw_81 rfl (lv_at hl 0 rfl) ?_
    refine va_get (D := L.1) (ci := 5) (v := .int (I 1)) (C := qR5) (T := qT5) (N := 16) hx hb hts qi5 hown hK hw.1 0 rfl rfl 1 (by decide) (hts _ wG733) (fun _ h9 => h9) rfl d_M_draw_82 ?_
    refine lv_icmp_ge (tgt := 203) hx hb d_M_draw_85 (by decide) (fun c_23 => ?_) (fun c_23 => ?_)
    · replace h := h.1 c_23
      exact hk a1 I F G _ _ ls h hw (lv_sub hl [0, 1] rfl)
    · replace h := h.2 c_23
      refine lv_iconst (v := 0) hx hb d_M_draw_88 (by decide) ?_
      refine lv_istore_n (lv' := [(2, .int 0), (0, .ref (cA L 0)), (1, .int a1)]) hx hb d_M_draw_89 rfl hl (by decide) rfl (fun ls hl => ?_)
      obtain ⟨n_55, h⟩ := h
      refine Wl_M_draw_90 xc hK hN hA (hk := fun x_52 I_53 F_53 G_53 H locs ls h hw hl => ?_) n_55 0 I F G _ _ ls h hw (lv_sub hl [1, 2, 0] rfl)
      obtain ⟨x_54, ex_54⟩ : ∃ y : Int32, y = a1 + 1 := ⟨_, rfl⟩
      replace h := h x_54 ex_54
      refine lv_iinc (v := x_54) (lv' := [(1, .int x_54), (0, .ref (cA L 0)), (2, .int x_52)]) hx hb d_M_draw_197 hl (k := 1) rfl (by rw [ex_54]; rfl) (by decide) rfl (fun ls hl => ?_)
      refine lv_goto (tgt := 80) hx hb d_M_draw_200 (by decide) ?_
      exact ih x_54 I_53 F_53 G_53 _ _ ls h hw (lv_sub hl [1, 0] rfl)
set_option maxHeartbeats 4000000 in
set_option maxRecDepth 100000 in
theorem c_M_draw (l : Launch) (L : cL) (I : MI) (F : MF) (G : MG) (sz : Nat) (post : MI → MF → MG → Prop) (h : wp_M_draw I F G post) : Met l y_M_draw (.code y_M_draw b_M_draw 6 (none) :: lwG) rm_M_draw (mPm L I F G sz [.ref (cA L 0)]) (mQv L (mAA L I F G sz) post (mAA L I F G sz)) 0 0 (mAA L I F G sz) := by
  refine Met.ofW (cc := b_M_draw) (maxL := 6) (ret := (none)) (by decide) rfl ?_
  intro p e s m args below meth c s₁ B hml hv
  obtain ⟨rfl, hsz, hP, hK, hD0, hN⟩ := hv
  have xc : xC p s m _ meth c b_M_draw 6 lwG qR5 (none) := ⟨B.exec, B.bytes, hml, findClass_of_methodNamed B.named, fun w h => atoms_spec (ws := (.code y_M_draw b_M_draw 6 (none) :: lwG)) B.pre w (List.mem_cons_of_mem _ h), B.returns, B.notSynchronized⟩
  obtain ⟨hx, hb, hml, hown, hts, hr, hlocks⟩ := id xc
  subst hsz
  have hD : va_D (mAA L I F G s.heap.size) (WM L I F G) := hD0.self
  have hA0 : ∀ q : Nat, s.heap.size ≤ q → mAA L I F G s.heap.size q := fun q h => Or.inr h
  generalize mAA L I F G s.heap.size = A at hD hA0 ⊢
  have hA := hA0
  have hw : MW L A s.heap I F G s.heap [] := ⟨hP, hD, va_S.rf⟩
  have hl := lv_entry ([.ref (cA L 0)]) (n := 6) (Nat.le_of_ble_eq_true rfl)
  rw [lg_entry_eq]
  generalize (lg_sl ([.ref (cA L 0)]) ++ List.replicate (6 - (lg_sl ([.ref (cA L 0)])).length) Slot.unset).toArray = ls at hl ⊢
  have hl : lv_has ls 6 [(0, .ref (cA L 0))] := hl
  refine lv_iconst (v := 0) hx hb d_M_draw_0 (by decide) ?_
  refine lv_istore_n (lv' := [(1, .int 0), (0, .ref (cA L 0))]) hx hb d_M_draw_1 rfl hl (by decide) rfl (fun ls hl => ?_)
  obtain ⟨n_60, h⟩ := h
  refine Wl_M_draw_2 xc hK hN hA (hk := fun x_5 I_6 F_6 G_6 H locs ls h hw hl => ?_) n_60 0 I F G _ _ ls h hw (lv_sub hl [1, 0] rfl)
  refine lv_iconst (v := 0) hx hb d_M_draw_22 (by decide) ?_
  refine lv_istore_n (lv' := [(1, .int 0), (0, .ref (cA L 0))]) hx hb d_M_draw_23 rfl hl (by decide) rfl (fun ls hl => ?_)
  obtain ⟨n_59, h⟩ := h
  refine Wl_M_draw_24 xc hK hN hA (hk := fun x_21 I_22 F_22 G_22 H locs ls h hw hl => ?_) n_59 0 I_6 F_6 G_6 _ _ ls h hw (lv_sub hl [1, 0] rfl)
  refine lv_iconst (v := 0) hx hb d_M_draw_78 (by decide) ?_
  refine lv_istore_n (lv' := [(1, .int 0), (0, .ref (cA L 0))]) hx hb d_M_draw_79 rfl hl (by decide) rfl (fun ls hl => ?_)
  obtain ⟨n_58, h⟩ := h
  refine Wl_M_draw_80 xc hK hN hA (hk := fun x_56 I_57 F_57 G_57 H locs ls h hw hl => ?_) n_58 0 I_22 F_22 G_22 _ _ ls h hw (lv_sub hl [1, 0] rfl)
  exact W.vret hx hb hr (fun t ht hW => ⟨⟨(I_57, F_57, G_57), rfl, h, by rw [ht]; exact hw.1, va_K.moved hW.alike hK, hw.2.1⟩, hw.2.2.F ht⟩) hw.2.2.2.2 d_M_draw_203
abbrev rm_M_route : Room := { frames := 7, cells := 0, slots := 0, locals := 160 }
set_option maxHeartbeats 4000000 in
set_option maxRecDepth 100000 in
theorem Wl_M_route_9 {p : Program} {l : Launch} {e : Env} {s : State} {m : MethodId} {args : Array Value} {below : List Frame} {meth : Method} {c : Code} {L : cL} {A : Nat → Prop} {post : Int32 → MI → MF → MG → Prop} {K : Int32 → MI → MF → MG → Prop} {a1 : Int32} (xc : xC p s m args meth c b_M_route 3 lwG qR5 (some .int)) (hK : va_K L.1 vwCl (mTys L) s) (hN : mNk s) (hA : ∀ q, s.heap.size ≤ q → A q)
    (hk : ∀ (a2 : Int32) (I : MI) (F : MF) (G : MG) (H : Heap) (locs : List Loc) (ls : Array Slot), K a2 I F G → MW L A s.heap I F G H locs → lv_has ls 3 [(0, .ref (cA L 0)), (1, .int a1), (2, .int a2)] → W p l e rm_M_route s m args below meth c H locs 0 0 (MQ below (mQi L A post A) args s 0 0 A) (F0 m 28 ls [])) :
    ∀ (n : Nat) (a2 : Int32) (I : MI) (F : MF) (G : MG) (H : Heap) (locs : List Loc) (ls : Array Slot), wl_M_route_9 post K a1 n a2 I F G → MW L A s.heap I F G H locs → lv_has ls 3 [(0, .ref (cA L 0)), (1, .int a1), (2, .int a2)] → W p l e rm_M_route s m args below meth c H locs 0 0 (MQ below (mQi L A post A) args s 0 0 A) (F0 m 9 ls []) := by
  obtain ⟨hx, hb, hml, hown, hts, hr, hlocks⟩ := id xc
  intro n
  induction n with
  | zero => intro a2 I F G H locs ls h; exact absurd h id
  | succ n ih =>
    intro a2 I F G H locs ls h hw hl
    refine lv_iload_n hx hb d_M_route_9 rfl (lv_at hl 2 rfl) ?_
    refine lv_bipush (v := 12) hx hb d_M_route_10 (by decide) ?_
    refine lv_icmp_ge (tgt := 28) hx hb d_M_route_12 (by decide) (fun c_2 => ?_) (fun c_2 => ?_)
    · replace h := h.1 c_2
      exact hk a2 I F G _ _ ls h hw (lv_sub hl [0, 1, 2] rfl)
    · replace h := h.2 c_2
      refine lv_aload_n hx hb d_M_route_15 rfl (lv_at hl 0 rfl) ?_
      refine va_get (D := L.1) (ci := 5) (v := .ref (cA L 9)) (C := qR5) (T := qT5) (N := 16) hx hb hts qi5 hown hK hw.1 0 rfl rfl 11 (by decide) (hts _ wG743) (fun _ h9 => h9) rfl d_M_route_16 ?_
      refine lv_iload_n hx hb d_M_route_19 rfl (lv_at hl 2 rfl) ?_
      refine lv_iconst (v := 0) hx hb d_M_route_20 (by decide) ?_
      obtain ⟨hi_3, h⟩ := h
      refine m_iast hx hb hK hw 7 9 rfl (fun _ => rfl) hi_3 d_M_route_21 (fun H locs hw => ?_)
      obtain ⟨F_4, eF_4⟩ : ∃ y : MF, y = setF F 7 (upd (F 7) a2.toNatClampNeg 0) := ⟨_, rfl⟩
      rw [← eF_4] at hw
      replace h := h F_4 eF_4
      obtain ⟨x_5, ex_5⟩ : ∃ y : Int32, y = a2 + 1 := ⟨_, rfl⟩
      replace h := h x_5 ex_5
      refine lv_iinc (v := x_5) (lv' := [(2, .int x_5), (0, .ref (cA L 0)), (1, .int a1)]) hx hb d_M_route_22 hl (k := 2) rfl (by rw [ex_5]; rfl) (by decide) rfl (fun ls hl => ?_)
      refine lv_goto (tgt := 9) hx hb d_M_route_25 (by decide) ?_
      exact ih x_5 I F_4 G _ _ ls h hw (lv_sub hl [1, 2, 0] rfl)
set_option maxHeartbeats 4000000 in
set_option maxRecDepth 100000 in
theorem Wl_M_route_28 {p : Program} {l : Launch} {e : Env} {s : State} {m : MethodId} {args : Array Value} {below : List Frame} {meth : Method} {c : Code} {L : cL} {A : Nat → Prop} {post : Int32 → MI → MF → MG → Prop} {K : Int32 → MI → MF → MG → Prop} {a2 : Int32} (xc : xC p s m args meth c b_M_route 3 lwG qR5 (some .int)) (hK : va_K L.1 vwCl (mTys L) s) (hN : mNk s) (hA : ∀ q, s.heap.size ≤ q → A q)
    (hk : ∀ (a1 : Int32) (I : MI) (F : MF) (G : MG) (H : Heap) (locs : List Loc) (ls : Array Slot), K a1 I F G → MW L A s.heap I F G H locs → lv_has ls 3 [(0, .ref (cA L 0)), (1, .int a1), (2, .int a2)] → W p l e rm_M_route s m args below meth c H locs 0 0 (MQ below (mQi L A post A) args s 0 0 A) (F0 m 64 ls [])) :
    ∀ (n : Nat) (a1 : Int32) (I : MI) (F : MF) (G : MG) (H : Heap) (locs : List Loc) (ls : Array Slot), wl_M_route_28 post K a2 n a1 I F G → MW L A s.heap I F G H locs → lv_has ls 3 [(0, .ref (cA L 0)), (1, .int a1), (2, .int a2)] → W p l e rm_M_route s m args below meth c H locs 0 0 (MQ below (mQi L A post A) args s 0 0 A) (F0 m 28 ls []) := by
  obtain ⟨hx, hb, hml, hown, hts, hr, hlocks⟩ := id xc
  intro n
  induction n with
  | zero => intro a1 I F G H locs ls h; exact absurd h id
  | succ n ih =>
    intro a1 I F G H locs ls h hw hl
    refine lv_aload_n hx hb d_M_route_28 rfl (lv_at hl 0 rfl) ?_
    refine vp_callSi (va_runV (As := []) (rest := []) ⟨hx, hb, hml, hown, hts⟩ (c_M_waiting l L I F G _ h) (cwV 0 hts (gV wG809 wG811 wG22 wG54 wG812) rfl rfl rfl (by decide +kernel) ⟨Nat.le_of_ble_eq_true rfl, Nat.le_of_ble_eq_true rfl⟩) (mPre hK hN hw.1) rfl rfl hl.1 rfl (lv_room (Nat.le_of_ble_eq_true rfl)) d_M_route_29 ⟨Nat.le_of_ble_eq_true rfl, Nat.le_of_ble_eq_true rfl⟩).run (fun r_8 h => ?_)
    refine lv_if_le (tgt := 64) hx hb d_M_route_32 (by decide) (fun c_9 => ?_) (fun c_9 => ?_)
    · replace h := h.1 c_9
      exact hk a1 I F G _ _ ls h hw (lv_sub hl [0, 1, 2] rfl)
    · replace h := h.2 c_9
      obtain ⟨x_10, ex_10⟩ : ∃ y : Int32, y = a1 + 1 := ⟨_, rfl⟩
      replace h := h x_10 ex_10
      refine lv_iinc (v := x_10) (lv' := [(1, .int x_10), (0, .ref (cA L 0)), (2, .int a2)]) hx hb d_M_route_35 hl (k := 1) rfl (by rw [ex_10]; rfl) (by decide) rfl (fun ls hl => ?_)
      refine lv_iload_n hx hb d_M_route_38 rfl (lv_at hl 0 rfl) ?_
      refine lv_bipush (v := 9) hx hb d_M_route_39 (by decide) ?_
      refine lv_icmp_le (tgt := 50) hx hb d_M_route_41 (by decide) (fun c_11 => ?_) (fun c_11 => ?_)
      · replace h := h.1 c_11
        refine lv_aload_n hx hb d_M_route_50 rfl (lv_at hl 1 rfl) ?_
        refine lv_iload_n hx hb d_M_route_51 rfl (lv_at hl 0 rfl) ?_
        refine m_calli (va_runV (As := [.int x_10]) (rest := []) ⟨hx, hb, hml, hown, hts⟩ (c_M_give l L x_10 I F G _ _ h) (cwV 1 hts (gV wG833 wG835 wG28 wG54 wG836) rfl rfl rfl (by decide +kernel) ⟨Nat.le_of_ble_eq_true rfl, Nat.le_of_ble_eq_true rfl⟩) (mPrm hK hN hw) rfl rfl hl.1 rfl (lv_room (Nat.le_of_ble_eq_true rfl)) d_M_route_52 ⟨Nat.le_of_ble_eq_true rfl, Nat.le_of_ble_eq_true rfl⟩) hw hA (fun r_12 I_13 F_13 G_13 H locs h hw => ?_)
        refine lv_if_ne (tgt := 28) hx hb d_M_route_55 (by decide) (fun c_14 => ?_) (fun c_14 => ?_)
        · replace h := h.1 c_14
          exact ih x_10 I_13 F_13 G_13 _ _ ls h hw (lv_sub hl [1, 0, 2] rfl)
        · replace h := h.2 c_14
          refine lv_aload_n hx hb d_M_route_58 rfl (lv_at hl 1 rfl) ?_
          refine lv_iconst (v := 2) hx hb d_M_route_59 (by decide) ?_
          refine m_calli (va_runV (As := [.int 2]) (rest := []) ⟨hx, hb, hml, hown, hts⟩ (c_M_refuse l L 2 I_13 F_13 G_13 _ _ h) (cwV 1 hts (gV wG793 wG795 wG20 wG54 wG796) rfl rfl rfl (by decide +kernel) ⟨Nat.le_of_ble_eq_true rfl, Nat.le_of_ble_eq_true rfl⟩) (mPrm hK hN hw) rfl rfl hl.1 rfl (lv_room (Nat.le_of_ble_eq_true rfl)) d_M_route_60 ⟨Nat.le_of_ble_eq_true rfl, Nat.le_of_ble_eq_true rfl⟩) hw hA (fun r_15 I_16 F_16 G_16 H locs h hw => ?_)
          exact W.iret hx hb hr (fun t ht hW => ⟨⟨_, (I_16, F_16, G_16), rfl, h, by rw [ht]; exact hw.1, va_K.moved hW.alike hK, hw.2.1⟩, hw.2.2.F ht⟩) hw.2.2.2.2 d_M_route_63
      · replace h := h.2 c_11
        refine lv_aload_n hx hb d_M_route_44 rfl (lv_at hl 1 rfl) ?_
        refine lv_iconst (v := 1) hx hb d_M_route_45 (by decide) ?_
        refine m_calli (va_runV (As := [.int 1]) (rest := []) ⟨hx, hb, hml, hown, hts⟩ (c_M_refuse l L 1 I F G _ _ h) (cwV 1 hts (gV wG793 wG795 wG20 wG54 wG796) rfl rfl rfl (by decide +kernel) ⟨Nat.le_of_ble_eq_true rfl, Nat.le_of_ble_eq_true rfl⟩) (mPrm hK hN hw) rfl rfl hl.1 rfl (lv_room (Nat.le_of_ble_eq_true rfl)) d_M_route_46 ⟨Nat.le_of_ble_eq_true rfl, Nat.le_of_ble_eq_true rfl⟩) hw hA (fun r_17 I_18 F_18 G_18 H locs h hw => ?_)
        exact W.iret hx hb hr (fun t ht hW => ⟨⟨_, (I_18, F_18, G_18), rfl, h, by rw [ht]; exact hw.1, va_K.moved hW.alike hK, hw.2.1⟩, hw.2.2.F ht⟩) hw.2.2.2.2 d_M_route_49
set_option maxHeartbeats 4000000 in
set_option maxRecDepth 100000 in
theorem c_M_route (l : Launch) (L : cL) (I : MI) (F : MF) (G : MG) (sz : Nat) (post : Int32 → MI → MF → MG → Prop) (h : wp_M_route I F G post) : Met l y_M_route (.code y_M_route b_M_route 3 (some .int) :: lwG) rm_M_route (mPm L I F G sz [.ref (cA L 0)]) (mQi L (mAA L I F G sz) post (mAA L I F G sz)) 0 0 (mAA L I F G sz) := by
  refine Met.ofW (cc := b_M_route) (maxL := 3) (ret := (some .int)) (by decide) rfl ?_
  intro p e s m args below meth c s₁ B hml hv
  obtain ⟨rfl, hsz, hP, hK, hD0, hN⟩ := hv
  have xc : xC p s m _ meth c b_M_route 3 lwG qR5 (some .int) := ⟨B.exec, B.bytes, hml, findClass_of_methodNamed B.named, fun w h => atoms_spec (ws := (.code y_M_route b_M_route 3 (some .int) :: lwG)) B.pre w (List.mem_cons_of_mem _ h), B.returns, B.notSynchronized⟩
  obtain ⟨hx, hb, hml, hown, hts, hr, hlocks⟩ := id xc
  subst hsz
  have hD : va_D (mAA L I F G s.heap.size) (WM L I F G) := hD0.self
  have hA0 : ∀ q : Nat, s.heap.size ≤ q → mAA L I F G s.heap.size q := fun q h => Or.inr h
  generalize mAA L I F G s.heap.size = A at hD hA0 ⊢
  have hA := hA0
  have hw : MW L A s.heap I F G s.heap [] := ⟨hP, hD, va_S.rf⟩
  have hl := lv_entry ([.ref (cA L 0)]) (n := 3) (Nat.le_of_ble_eq_true rfl)
  rw [lg_entry_eq]
  generalize (lg_sl ([.ref (cA L 0)]) ++ List.replicate (3 - (lg_sl ([.ref (cA L 0)])).length) Slot.unset).toArray = ls at hl ⊢
  have hl : lv_has ls 3 [(0, .ref (cA L 0))] := hl
  refine lv_iconst (v := 0) hx hb d_M_route_0 (by decide) ?_
  refine lv_istore_n (lv' := [(1, .int 0), (0, .ref (cA L 0))]) hx hb d_M_route_1 rfl hl (by decide) rfl (fun ls hl => ?_)
  refine lv_aload_n hx hb d_M_route_2 rfl (lv_at hl 1 rfl) ?_
  refine lv_iconst (v := (-1)) hx hb d_M_route_3 (by decide) ?_
  refine va_put (D := L.1) (ci := 5) (v := .int (-1)) (ty := .int) (C := qR5) (T := qT5) (N := 16) hx hb hts qi5 qy5 qk5 qn5 hown hK hw.1 hw.2.1 hw.2.2 0 rfl rfl 2 (by decide) (hts _ wG734) (fun _ h9 => h9) rfl (by decide +kernel) rfl rfl (Nat.le_of_ble_eq_true rfl) d_M_route_4 (fun H locs h1 h2 h3 => ?_)
  replace hw : MW L A s.heap (setI I 2 (-1)) F G H locs := ⟨h1, h2, h3⟩
  clear h1 h2 h3
  obtain ⟨I_1, eI_1⟩ : ∃ y : MI, y = setI I 2 (-1) := ⟨_, rfl⟩
  rw [← eI_1] at hw
  replace h := h I_1 eI_1
  refine lv_iconst (v := 0) hx hb d_M_route_7 (by decide) ?_
  refine lv_istore_n (lv' := [(2, .int 0), (1, .int 0), (0, .ref (cA L 0))]) hx hb d_M_route_8 rfl hl (by decide) rfl (fun ls hl => ?_)
  obtain ⟨n_25, h⟩ := h
  refine Wl_M_route_9 xc hK hN hA (hk := fun x_6 I_7 F_7 G_7 H locs ls h hw hl => ?_) n_25 0 I_1 F G _ _ ls h hw (lv_sub hl [2, 1, 0] rfl)
  obtain ⟨n_24, h⟩ := h
  refine Wl_M_route_28 xc hK hN hA (hk := fun x_19 I_20 F_20 G_20 H locs ls h hw hl => ?_) n_24 0 I_7 F_7 G_7 _ _ ls h hw (lv_sub hl [0, 1, 2] rfl)
  refine lv_aload_n hx hb d_M_route_64 rfl (lv_at hl 0 rfl) ?_
  refine lv_iconst (v := 0) hx hb d_M_route_65 (by decide) ?_
  refine va_put (D := L.1) (ci := 5) (v := .int 0) (ty := .int) (C := qR5) (T := qT5) (N := 16) hx hb hts qi5 qy5 qk5 qn5 hown hK hw.1 hw.2.1 hw.2.2 0 rfl rfl 0 (by decide) (hts _ wG732) (fun _ h9 => h9) rfl (by decide +kernel) rfl rfl (Nat.le_of_ble_eq_true rfl) d_M_route_66 (fun H locs h1 h2 h3 => ?_)
  replace hw : MW L A s.heap (setI I_20 0 0) F_20 G_20 H locs := ⟨h1, h2, h3⟩
  clear h1 h2 h3
  obtain ⟨I_21, eI_21⟩ : ∃ y : MI, y = setI I_20 0 0 := ⟨_, rfl⟩
  rw [← eI_21] at hw
  replace h := h I_21 eI_21
  refine lv_aload_n hx hb d_M_route_69 rfl (lv_at hl 0 rfl) ?_
  refine lv_iload_n hx hb d_M_route_70 rfl (lv_at hl 1 rfl) ?_
  refine va_put (D := L.1) (ci := 5) (v := .int x_19) (ty := .int) (C := qR5) (T := qT5) (N := 16) hx hb hts qi5 qy5 qk5 qn5 hown hK hw.1 hw.2.1 hw.2.2 0 rfl rfl 2 (by decide) (hts _ wG734) (fun _ h9 => h9) rfl (by decide +kernel) rfl rfl (Nat.le_of_ble_eq_true rfl) d_M_route_71 (fun H locs h1 h2 h3 => ?_)
  replace hw : MW L A s.heap (setI I_21 2 x_19) F_20 G_20 H locs := ⟨h1, h2, h3⟩
  clear h1 h2 h3
  obtain ⟨I_22, eI_22⟩ : ∃ y : MI, y = setI I_21 2 x_19 := ⟨_, rfl⟩
  rw [← eI_22] at hw
  replace h := h I_22 eI_22
  refine lv_aload_n hx hb d_M_route_74 rfl (lv_at hl 0 rfl) ?_
  refine m_callv (va_runV (As := []) (rest := []) ⟨hx, hb, hml, hown, hts⟩ (c_M_draw l L I_22 F_20 G_20 _ _ h) (cwV 0 hts (gV wG853 wG855 wG33 wG54 wG856) rfl rfl rfl (by decide +kernel) ⟨Nat.le_of_ble_eq_true rfl, Nat.le_of_ble_eq_true rfl⟩) (mPrm hK hN hw) rfl rfl hl.1 rfl (lv_room (Nat.le_of_ble_eq_true rfl)) d_M_route_75 ⟨Nat.le_of_ble_eq_true rfl, Nat.le_of_ble_eq_true rfl⟩) hw hA (fun I_23 F_23 G_23 H locs h hw => ?_)
  refine lv_aload_n hx hb d_M_route_78 rfl (lv_at hl 0 rfl) ?_
  refine va_get (D := L.1) (ci := 5) (v := .int (I_23 2)) (C := qR5) (T := qT5) (N := 16) hx hb hts qi5 hown hK hw.1 0 rfl rfl 2 (by decide) (hts _ wG734) (fun _ h9 => h9) rfl d_M_route_79 ?_
  exact W.iret hx hb hr (fun t ht hW => ⟨⟨_, (I_23, F_23, G_23), rfl, h, by rw [ht]; exact hw.1, va_K.moved hW.alike hK, hw.2.1⟩, hw.2.2.F ht⟩) hw.2.2.2.2 d_M_route_82
abbrev rm_M_isPin : Room := { frames := 1, cells := 0, slots := 0, locals := 22 }
set_option maxHeartbeats 4000000 in
set_option maxRecDepth 100000 in
theorem c_M_isPin (l : Launch) (L : cL) (a1 : Int32) (a2 : Int32) (I : MI) (F : MF) (G : MG) (post : Int32 → Prop) (h : wp_M_isPin a1 a2 I F G post) : Met l y_M_isPin (.code y_M_isPin b_M_isPin 3 (some .boolean) :: lwG) rm_M_isPin (mPc L I F G [.ref (cA L 0), .int a1, .int a2]) (vp_Si post) 0 0 (fun _ => False) := by
  refine Met.ofW (cc := b_M_isPin) (maxL := 3) (ret := (some .boolean)) (by decide) rfl ?_
  intro p e s m args below meth c s₁ B hml hv
  obtain ⟨rfl, hP, hK, hN⟩ := hv
  have xc : xC p s m _ meth c b_M_isPin 3 lwG qR5 (some .boolean) := ⟨B.exec, B.bytes, hml, findClass_of_methodNamed B.named, fun w h => atoms_spec (ws := (.code y_M_isPin b_M_isPin 3 (some .boolean) :: lwG)) B.pre w (List.mem_cons_of_mem _ h), B.returns, B.notSynchronized⟩
  obtain ⟨hx, hb, hml, hown, hts, hr, hlocks⟩ := id xc
  have hl := lv_entry ([.ref (cA L 0), .int a1, .int a2]) (n := 3) (Nat.le_of_ble_eq_true rfl)
  rw [lg_entry_eq]
  generalize (lg_sl ([.ref (cA L 0), .int a1, .int a2]) ++ List.replicate (3 - (lg_sl ([.ref (cA L 0), .int a1, .int a2])).length) Slot.unset).toArray = ls at hl ⊢
  have hl : lv_has ls 3 [(0, .ref (cA L 0)), (1, .int a1), (2, .int a2)] := hl
  refine lv_iload_n hx hb d_M_isPin_0 rfl (lv_at hl 1 rfl) ?_
  refine lv_iconst (v := 0) hx hb d_M_isPin_1 (by decide) ?_
  refine lv_aload_n hx hb d_M_isPin_2 rfl (lv_at hl 0 rfl) ?_
  refine va_get (D := L.1) (ci := 5) (v := .int (I 1)) (C := qR5) (T := qT5) (N := 16) hx hb hts qi5 hown hK hP 0 rfl rfl 1 (by decide) (hts _ wG733) (fun _ h9 => h9) rfl d_M_isPin_3 ?_
  refine lv_iconst (v := 1) hx hb d_M_isPin_6 (by decide) ?_
  refine lv_isub hx hb d_M_isPin_7 ?_
  refine vp_callSi (va_runS (As := [.int a1, .int 0, .int ((I 1) - 1)]) (rest := []) ⟨hx, hb, hml, hown, hts⟩ (c_M_in l a1 0 ((I 1) - 1) _ h) (va_cwS 3 hts (gS wG790 wG791 wG54 wG792) rfl rfl rfl (by decide +kernel) ⟨Nat.le_of_ble_eq_true rfl, Nat.le_of_ble_eq_true rfl⟩) ⟨sPc_blind _, fun U hU hW => ⟨rfl, trivial⟩⟩ rfl rfl hl.1 rfl (lv_room (Nat.le_of_ble_eq_true rfl)) d_M_isPin_8 ⟨Nat.le_of_ble_eq_true rfl, Nat.le_of_ble_eq_true rfl⟩).run (fun r_1 h => ?_)
  refine lv_if_eq (tgt := 33) hx hb d_M_isPin_11 (by decide) (fun c_2 => ?_) (fun c_2 => ?_)
  · replace h := h.1 c_2
    refine lv_iconst (v := 0) hx hb d_M_isPin_33 (by decide) ?_
    exact W.zret hx hb hr rfl (fun t ht _ => ⟨_, rfl, h, ht⟩) (fun _ h9 => nomatch h9) d_M_isPin_34
  · replace h := h.2 c_2
    refine lv_iload_n hx hb d_M_isPin_14 rfl (lv_at hl 2 rfl) ?_
    refine lv_iconst (v := 0) hx hb d_M_isPin_15 (by decide) ?_
    refine lv_aload_n hx hb d_M_isPin_16 rfl (lv_at hl 0 rfl) ?_
    refine lv_iload_n hx hb d_M_isPin_17 rfl (lv_at hl 1 rfl) ?_
    refine vp_callSi (va_runV (As := [.int a1]) (rest := [.int 0, .int a2]) ⟨hx, hb, hml, hown, hts⟩ (c_M_pinsOf l L a1 I F G _ h) (cwV 1 hts (gV wG821 wG823 wG25 wG54 wG824) rfl rfl rfl (by decide +kernel) ⟨Nat.le_of_ble_eq_true rfl, Nat.le_of_ble_eq_true rfl⟩) (mPre hK hN hP) rfl rfl hl.1 rfl (lv_room (Nat.le_of_ble_eq_true rfl)) d_M_isPin_18 ⟨Nat.le_of_ble_eq_true rfl, Nat.le_of_ble_eq_true rfl⟩).run (fun r_3 h => ?_)
    refine lv_iconst (v := 1) hx hb d_M_isPin_21 (by decide) ?_
    refine lv_isub hx hb d_M_isPin_22 ?_
    refine vp_callSi (va_runS (As := [.int a2, .int 0, .int (r_3 - 1)]) (rest := []) ⟨hx, hb, hml, hown, hts⟩ (c_M_in l a2 0 (r_3 - 1) _ h) (va_cwS 3 hts (gS wG790 wG791 wG54 wG792) rfl rfl rfl (by decide +kernel) ⟨Nat.le_of_ble_eq_true rfl, Nat.le_of_ble_eq_true rfl⟩) ⟨sPc_blind _, fun U hU hW => ⟨rfl, trivial⟩⟩ rfl rfl hl.1 rfl (lv_room (Nat.le_of_ble_eq_true rfl)) d_M_isPin_23 ⟨Nat.le_of_ble_eq_true rfl, Nat.le_of_ble_eq_true rfl⟩).run (fun r_4 h => ?_)
    refine lv_if_eq (tgt := 33) hx hb d_M_isPin_26 (by decide) (fun c_5 => ?_) (fun c_5 => ?_)
    · replace h := h.1 c_5
      refine lv_iconst (v := 0) hx hb d_M_isPin_33 (by decide) ?_
      exact W.zret hx hb hr rfl (fun t ht _ => ⟨_, rfl, h, ht⟩) (fun _ h9 => nomatch h9) d_M_isPin_34
    · replace h := h.2 c_5
      refine lv_iconst (v := 1) hx hb d_M_isPin_29 (by decide) ?_
      refine lv_goto (tgt := 34) hx hb d_M_isPin_30 (by decide) ?_
      exact W.zret hx hb hr rfl (fun t ht _ => ⟨_, rfl, h, ht⟩) (fun _ h9 => nomatch h9) d_M_isPin_34
abbrev rm_M_column : Room := { frames := 2, cells := 0, slots := 0, locals := 44 }
set_option maxHeartbeats 4000000 in
set_option maxRecDepth 100000 in
theorem c_M_column (l : Launch) (L : cL) (a1 : Int32) (a2 : Int32) (I : MI) (F : MF) (G : MG) (sz : Nat) (post : Int32 → MI → MF → MG → Prop) (h : wp_M_column a1 a2 I F G post) : Met l y_M_column (.code y_M_column b_M_column 3 (some .int) :: lwG) rm_M_column (mPm L I F G sz [.ref (cA L 0), .int a1, .int a2]) (mQi L (mAA L I F G sz) post (mAA L I F G sz)) 0 0 (mAA L I F G sz) := by
  refine Met.ofW (cc := b_M_column) (maxL := 3) (ret := (some .int)) (by decide) rfl ?_
  intro p e s m args below meth c s₁ B hml hv
  obtain ⟨rfl, hsz, hP, hK, hD0, hN⟩ := hv
  have xc : xC p s m _ meth c b_M_column 3 lwG qR5 (some .int) := ⟨B.exec, B.bytes, hml, findClass_of_methodNamed B.named, fun w h => atoms_spec (ws := (.code y_M_column b_M_column 3 (some .int) :: lwG)) B.pre w (List.mem_cons_of_mem _ h), B.returns, B.notSynchronized⟩
  obtain ⟨hx, hb, hml, hown, hts, hr, hlocks⟩ := id xc
  subst hsz
  have hD : va_D (mAA L I F G s.heap.size) (WM L I F G) := hD0.self
  have hA0 : ∀ q : Nat, s.heap.size ≤ q → mAA L I F G s.heap.size q := fun q h => Or.inr h
  generalize mAA L I F G s.heap.size = A at hD hA0 ⊢
  have hA := hA0
  have hw : MW L A s.heap I F G s.heap [] := ⟨hP, hD, va_S.rf⟩
  have hl := lv_entry ([.ref (cA L 0), .int a1, .int a2]) (n := 3) (Nat.le_of_ble_eq_true rfl)
  rw [lg_entry_eq]
  generalize (lg_sl ([.ref (cA L 0), .int a1, .int a2]) ++ List.replicate (3 - (lg_sl ([.ref (cA L 0), .int a1, .int a2])).length) Slot.unset).toArray = ls at hl ⊢
  have hl : lv_has ls 3 [(0, .ref (cA L 0)), (1, .int a1), (2, .int a2)] := hl
  refine lv_aload_n hx hb d_M_column_0 rfl (lv_at hl 0 rfl) ?_
  refine lv_iload_n hx hb d_M_column_1 rfl (lv_at hl 1 rfl) ?_
  refine lv_iload_n hx hb d_M_column_2 rfl (lv_at hl 2 rfl) ?_
  refine vp_callSi (va_runV (As := [.int a1, .int a2]) (rest := []) ⟨hx, hb, hml, hown, hts⟩ (c_M_isPin l L a1 a2 I F G _ h) (cwV 2 hts (gV wG865 wG867 wG35 wG54 wG868) rfl rfl rfl (by decide +kernel) ⟨Nat.le_of_ble_eq_true rfl, Nat.le_of_ble_eq_true rfl⟩) (mPre hK hN hw.1) rfl rfl hl.1 rfl (lv_room (Nat.le_of_ble_eq_true rfl)) d_M_column_3 ⟨Nat.le_of_ble_eq_true rfl, Nat.le_of_ble_eq_true rfl⟩).run (fun r_1 h => ?_)
  refine lv_if_ne (tgt := 15) hx hb d_M_column_6 (by decide) (fun c_2 => ?_) (fun c_2 => ?_)
  · replace h := h.1 c_2
    refine lv_aload_n hx hb d_M_column_15 rfl (lv_at hl 0 rfl) ?_
    refine lv_iconst (v := 0) hx hb d_M_column_16 (by decide) ?_
    refine va_put (D := L.1) (ci := 5) (v := .int 0) (ty := .int) (C := qR5) (T := qT5) (N := 16) hx hb hts qi5 qy5 qk5 qn5 hown hK hw.1 hw.2.1 hw.2.2 0 rfl rfl 0 (by decide) (hts _ wG732) (fun _ h9 => h9) rfl (by decide +kernel) rfl rfl (Nat.le_of_ble_eq_true rfl) d_M_column_17 (fun H locs h1 h2 h3 => ?_)
    replace hw : MW L A s.heap (setI I 0 0) F G H locs := ⟨h1, h2, h3⟩
    clear h1 h2 h3
    obtain ⟨I_3, eI_3⟩ : ∃ y : MI, y = setI I 0 0 := ⟨_, rfl⟩
    rw [← eI_3] at hw
    replace h := h I_3 eI_3
    refine lv_aload_n hx hb d_M_column_20 rfl (lv_at hl 0 rfl) ?_
    refine va_get (D := L.1) (ci := 5) (v := .ref (cA L 6)) (C := qR5) (T := qT5) (N := 16) hx hb hts qi5 hown hK hw.1 0 rfl rfl 8 (by decide) (hts _ wG740) (fun _ h9 => h9) rfl d_M_column_21 ?_
    refine lv_iload_n hx hb d_M_column_24 rfl (lv_at hl 1 rfl) ?_
    obtain ⟨hi_4, h⟩ := h
    refine va_iald hx hb hK hw.1 6 0 rfl rfl hi_4 d_M_column_25 ?_
    refine lv_iload_n hx hb d_M_column_26 rfl (lv_at hl 2 rfl) ?_
    refine lv_iadd hx hb d_M_column_27 ?_
    exact W.iret hx hb hr (fun t ht hW => ⟨⟨_, (I_3, F, G), rfl, h, by rw [ht]; exact hw.1, va_K.moved hW.alike hK, hw.2.1⟩, hw.2.2.F ht⟩) hw.2.2.2.2 d_M_column_28
  · replace h := h.2 c_2
    refine lv_aload_n hx hb d_M_column_9 rfl (lv_at hl 0 rfl) ?_
    refine lv_iconst (v := 1) hx hb d_M_column_10 (by decide) ?_
    refine m_calli (va_runV (As := [.int 1]) (rest := []) ⟨hx, hb, hml, hown, hts⟩ (c_M_refuse l L 1 I F G _ _ h) (cwV 1 hts (gV wG793 wG795 wG20 wG54 wG796) rfl rfl rfl (by decide +kernel) ⟨Nat.le_of_ble_eq_true rfl, Nat.le_of_ble_eq_true rfl⟩) (mPrm hK hN hw) rfl rfl hl.1 rfl (lv_room (Nat.le_of_ble_eq_true rfl)) d_M_column_11 ⟨Nat.le_of_ble_eq_true rfl, Nat.le_of_ble_eq_true rfl⟩) hw hA (fun r_5 I_6 F_6 G_6 H locs h hw => ?_)
    exact W.iret hx hb hr (fun t ht hW => ⟨⟨_, (I_6, F_6, G_6), rfl, h, by rw [ht]; exact hw.1, va_K.moved hW.alike hK, hw.2.1⟩, hw.2.2.F ht⟩) hw.2.2.2.2 d_M_column_14
abbrev rm_M_lengthOf : Room := { frames := 5, cells := 0, slots := 0, locals := 112 }
set_option maxHeartbeats 4000000 in
set_option maxRecDepth 100000 in
theorem Wl_M_lengthOf_50 {p : Program} {l : Launch} {e : Env} {s : State} {m : MethodId} {args : Array Value} {below : List Frame} {meth : Method} {c : Code} {L : cL} {I : MI} {F : MF} {G : MG} {post : Int32 → Prop} {K : Int32 → Int32 → Prop} {a1 : Int32} {a2 : Int32} {a4 : Int32} (xc : xC p s m args meth c b_M_lengthOf 6 lwG qR5 (some .int)) (hP : va_P L.1 vwCl (WM L I F G) s.heap) (hK : va_K L.1 vwCl (mTys L) s) (hN : mNk s)
    (hk : ∀ (a3 : Int32) (a5 : Int32) (ls : Array Slot), K a3 a5 → lv_has ls 6 [(0, .ref (cA L 0)), (1, .int a1), (2, .int a2), (3, .int a3), (4, .int a4), (5, .int a5)] → W p l e rm_M_lengthOf s m args below meth c s.heap [] 0 0 (MQ below (vp_Si post) args s 0 0 (fun _ => False)) (F0 m 104 ls [])) :
    ∀ (n : Nat) (a3 : Int32) (a5 : Int32) (ls : Array Slot), wl_M_lengthOf_50 post K a1 a2 a4 I F G n a3 a5 → lv_has ls 6 [(0, .ref (cA L 0)), (1, .int a1), (2, .int a2), (3, .int a3), (4, .int a4), (5, .int a5)] → W p l e rm_M_lengthOf s m args below meth c s.heap [] 0 0 (MQ below (vp_Si post) args s 0 0 (fun _ => False)) (F0 m 50 ls []) := by
  obtain ⟨hx, hb, hml, hown, hts, hr, hlocks⟩ := id xc
  intro n
  induction n with
  | zero => intro a3 a5 ls h; exact absurd h id
  | succ n ih =>
    intro a3 a5 ls h hl
    refine lv_iload hx hb d_M_lengthOf_50 (lv_at hl 5 rfl) ?_
    refine lv_aload_n hx hb d_M_lengthOf_52 rfl (lv_at hl 0 rfl) ?_
    refine lv_iload hx hb d_M_lengthOf_53 (lv_at hl 4 rfl) ?_
    refine vp_callSi (va_runV (As := [.int a4]) (rest := [.int a5]) ⟨hx, hb, hml, hown, hts⟩ (c_M_pinsOf l L a4 I F G _ h) (cwV 1 hts (gV wG821 wG823 wG25 wG54 wG824) rfl rfl rfl (by decide +kernel) ⟨Nat.le_of_ble_eq_true rfl, Nat.le_of_ble_eq_true rfl⟩) (mPre hK hN hP) rfl rfl hl.1 rfl (lv_room (Nat.le_of_ble_eq_true rfl)) d_M_lengthOf_55 ⟨Nat.le_of_ble_eq_true rfl, Nat.le_of_ble_eq_true rfl⟩).run (fun r_8 h => ?_)
    refine lv_icmp_ge (tgt := 104) hx hb d_M_lengthOf_58 (by decide) (fun c_9 => ?_) (fun c_9 => ?_)
    · replace h := h.1 c_9
      exact hk a3 a5 ls h (lv_sub hl [0, 1, 2, 3, 4, 5] rfl)
    · replace h := h.2 c_9
      refine lv_aload_n hx hb d_M_lengthOf_61 rfl (lv_at hl 0 rfl) ?_
      refine lv_iload hx hb d_M_lengthOf_62 (lv_at hl 4 rfl) ?_
      refine lv_iload hx hb d_M_lengthOf_64 (lv_at hl 5 rfl) ?_
      refine vp_callSi (va_runV (As := [.int a4, .int a5]) (rest := []) ⟨hx, hb, hml, hown, hts⟩ (c_M_netOf l L a4 a5 I F G _ h) (cwV 2 hts (gV wG825 wG827 wG26 wG54 wG828) rfl rfl rfl (by decide +kernel) ⟨Nat.le_of_ble_eq_true rfl, Nat.le_of_ble_eq_true rfl⟩) (mPre hK hN hP) rfl rfl hl.1 rfl (lv_room (Nat.le_of_ble_eq_true rfl)) d_M_lengthOf_66 ⟨Nat.le_of_ble_eq_true rfl, Nat.le_of_ble_eq_true rfl⟩).run (fun r_10 h => ?_)
      refine lv_iload_n hx hb d_M_lengthOf_69 rfl (lv_at hl 1 rfl) ?_
      refine lv_icmp_ne (tgt := 98) hx hb d_M_lengthOf_70 (by decide) (fun c_11 => ?_) (fun c_11 => ?_)
      · replace h := h.1 c_11
        obtain ⟨x_12, ex_12⟩ : ∃ y : Int32, y = a5 + 1 := ⟨_, rfl⟩
        replace h := h x_12 ex_12
        refine lv_iinc (v := x_12) (lv' := [(5, .int x_12), (0, .ref (cA L 0)), (1, .int a1), (2, .int a2), (3, .int a3), (4, .int a4)]) hx hb d_M_lengthOf_98 hl (k := 5) rfl (by rw [ex_12]; rfl) (by decide) rfl (fun ls hl => ?_)
        refine lv_goto (tgt := 50) hx hb d_M_lengthOf_101 (by decide) ?_
        exact ih a3 x_12 ls h (lv_sub hl [1, 2, 3, 4, 5, 0] rfl)
      · replace h := h.2 c_11
        refine lv_iload_n hx hb d_M_lengthOf_73 rfl (lv_at hl 3 rfl) ?_
        refine lv_aload_n hx hb d_M_lengthOf_74 rfl (lv_at hl 0 rfl) ?_
        refine va_get (D := L.1) (ci := 5) (v := .ref (cA L 5)) (C := qR5) (T := qT5) (N := 16) hx hb hts qi5 hown hK hP 0 rfl rfl 7 (by decide) (hts _ wG739) (fun _ h9 => h9) rfl d_M_lengthOf_75 ?_
        refine lv_iload hx hb d_M_lengthOf_78 (lv_at hl 4 rfl) ?_
        obtain ⟨hi_13, h⟩ := h
        refine va_iald hx hb hK hP 5 0 rfl rfl hi_13 d_M_lengthOf_80 ?_
        refine lv_if_ne (tgt := 88) hx hb d_M_lengthOf_81 (by decide) (fun c_14 => ?_) (fun c_14 => ?_)
        · replace h := h.1 c_14
          refine lv_aload_n hx hb d_M_lengthOf_88 rfl (lv_at hl 0 rfl) ?_
          refine va_get (D := L.1) (ci := 5) (v := .int (I 2)) (C := qR5) (T := qT5) (N := 16) hx hb hts qi5 hown hK hP 0 rfl rfl 2 (by decide) (hts _ wG734) (fun _ h9 => h9) rfl d_M_lengthOf_89 ?_
          refine lv_iconst (v := 1) hx hb d_M_lengthOf_92 (by decide) ?_
          refine lv_iadd hx hb d_M_lengthOf_93 ?_
          refine lv_iload_n hx hb d_M_lengthOf_94 rfl (lv_at hl 2 rfl) ?_
          refine lv_isub hx hb d_M_lengthOf_95 ?_
          refine lv_iadd hx hb d_M_lengthOf_96 ?_
          refine lv_topi (fun x_15 ex_15 => ?_)
          replace h := h x_15 ex_15
          refine lv_istore_n (lv' := [(3, .int x_15), (0, .ref (cA L 0)), (1, .int a1), (2, .int a2), (4, .int a4), (5, .int a5)]) hx hb d_M_lengthOf_97 rfl hl (by decide) rfl (fun ls hl => ?_)
          obtain ⟨x_16, ex_16⟩ : ∃ y : Int32, y = a5 + 1 := ⟨_, rfl⟩
          replace h := h x_16 ex_16
          refine lv_iinc (v := x_16) (lv' := [(5, .int x_16), (3, .int x_15), (0, .ref (cA L 0)), (1, .int a1), (2, .int a2), (4, .int a4)]) hx hb d_M_lengthOf_98 hl (k := 5) rfl (by rw [ex_16]; rfl) (by decide) rfl (fun ls hl => ?_)
          refine lv_goto (tgt := 50) hx hb d_M_lengthOf_101 (by decide) ?_
          exact ih x_15 x_16 ls h (lv_sub hl [2, 3, 4, 1, 5, 0] rfl)
        · replace h := h.2 c_14
          refine lv_iload_n hx hb d_M_lengthOf_84 rfl (lv_at hl 2 rfl) ?_
          refine lv_goto (tgt := 96) hx hb d_M_lengthOf_85 (by decide) ?_
          refine lv_iadd hx hb d_M_lengthOf_96 ?_
          refine lv_topi (fun x_17 ex_17 => ?_)
          replace h := h x_17 ex_17
          refine lv_istore_n (lv' := [(3, .int x_17), (0, .ref (cA L 0)), (1, .int a1), (2, .int a2), (4, .int a4), (5, .int a5)]) hx hb d_M_lengthOf_97 rfl hl (by decide) rfl (fun ls hl => ?_)
          obtain ⟨x_18, ex_18⟩ : ∃ y : Int32, y = a5 + 1 := ⟨_, rfl⟩
          replace h := h x_18 ex_18
          refine lv_iinc (v := x_18) (lv' := [(5, .int x_18), (3, .int x_17), (0, .ref (cA L 0)), (1, .int a1), (2, .int a2), (4, .int a4)]) hx hb d_M_lengthOf_98 hl (k := 5) rfl (by rw [ex_18]; rfl) (by decide) rfl (fun ls hl => ?_)
          refine lv_goto (tgt := 50) hx hb d_M_lengthOf_101 (by decide) ?_
          exact ih x_17 x_18 ls h (lv_sub hl [2, 3, 4, 1, 5, 0] rfl)
set_option maxHeartbeats 4000000 in
set_option maxRecDepth 100000 in
theorem Wl_M_lengthOf_38 {p : Program} {l : Launch} {e : Env} {s : State} {m : MethodId} {args : Array Value} {below : List Frame} {meth : Method} {c : Code} {L : cL} {I : MI} {F : MF} {G : MG} {post : Int32 → Prop} {K : Int32 → Int32 → Prop} {a1 : Int32} {a2 : Int32} (xc : xC p s m args meth c b_M_lengthOf 6 lwG qR5 (some .int)) (hP : va_P L.1 vwCl (WM L I F G) s.heap) (hK : va_K L.1 vwCl (mTys L) s) (hN : mNk s)
    (hk : ∀ (a3 : Int32) (a4 : Int32) (ls : Array Slot), K a3 a4 → lv_has ls 6 [(0, .ref (cA L 0)), (1, .int a1), (2, .int a2), (3, .int a3), (4, .int a4)] → W p l e rm_M_lengthOf s m args below meth c s.heap [] 0 0 (MQ below (vp_Si post) args s 0 0 (fun _ => False)) (F0 m 110 ls [])) :
    ∀ (n : Nat) (a3 : Int32) (a4 : Int32) (ls : Array Slot), wl_M_lengthOf_38 post K a1 a2 I F G n a3 a4 → lv_has ls 6 [(0, .ref (cA L 0)), (1, .int a1), (2, .int a2), (3, .int a3), (4, .int a4)] → W p l e rm_M_lengthOf s m args below meth c s.heap [] 0 0 (MQ below (vp_Si post) args s 0 0 (fun _ => False)) (F0 m 38 ls []) := by
  obtain ⟨hx, hb, hml, hown, hts, hr, hlocks⟩ := id xc
  intro n
  induction n with
  | zero => intro a3 a4 ls h; exact absurd h id
  | succ n ih =>
    intro a3 a4 ls h hl
    refine lv_iload hx hb d_M_lengthOf_38 (lv_at hl 4 rfl) ?_
    refine lv_aload_n hx hb d_M_lengthOf_40 rfl (lv_at hl 0 rfl) ?_
    refine va_get (D := L.1) (ci := 5) (v := .int (I 1)) (C := qR5) (T := qT5) (N := 16) hx hb hts qi5 hown hK hP 0 rfl rfl 1 (by decide) (hts _ wG733) (fun _ h9 => h9) rfl d_M_lengthOf_41 ?_
    refine lv_icmp_ge (tgt := 110) hx hb d_M_lengthOf_44 (by decide) (fun c_7 => ?_) (fun c_7 => ?_)
    · replace h := h.1 c_7
      exact hk a3 a4 ls h (lv_sub hl [0, 1, 2, 3, 4] rfl)
    · replace h := h.2 c_7
      refine lv_iconst (v := 0) hx hb d_M_lengthOf_47 (by decide) ?_
      refine lv_istore (lv' := [(5, .int 0), (0, .ref (cA L 0)), (1, .int a1), (2, .int a2), (3, .int a3), (4, .int a4)]) hx hb d_M_lengthOf_48 hl (by decide) rfl (fun ls hl => ?_)
      obtain ⟨n_22, h⟩ := h
      refine Wl_M_lengthOf_50 xc hP hK hN (hk := fun x_19 x_20 ls h hl => ?_) n_22 a3 0 ls h (lv_sub hl [1, 2, 3, 4, 5, 0] rfl)
      obtain ⟨x_21, ex_21⟩ : ∃ y : Int32, y = a4 + 1 := ⟨_, rfl⟩
      replace h := h x_21 ex_21
      refine lv_iinc (v := x_21) (lv' := [(4, .int x_21), (0, .ref (cA L 0)), (1, .int a1), (2, .int a2), (3, .int x_19), (5, .int x_20)]) hx hb d_M_lengthOf_104 hl (k := 4) rfl (by rw [ex_21]; rfl) (by decide) rfl (fun ls hl => ?_)
      refine lv_goto (tgt := 38) hx hb d_M_lengthOf_107 (by decide) ?_
      exact ih x_19 x_21 ls h (lv_sub hl [1, 2, 3, 4, 0] rfl)
set_option maxHeartbeats 4000000 in
set_option maxRecDepth 100000 in
theorem c_M_lengthOf (l : Launch) (L : cL) (a1 : Int32) (I : MI) (F : MF) (G : MG) (post : Int32 → Prop) (h : wp_M_lengthOf a1 I F G post) : Met l y_M_lengthOf (.code y_M_lengthOf b_M_lengthOf 6 (some .int) :: lwG) rm_M_lengthOf (mPc L I F G [.ref (cA L 0), .int a1]) (vp_Si post) 0 0 (fun _ => False) := by
  refine Met.ofW (cc := b_M_lengthOf) (maxL := 6) (ret := (some .int)) (by decide) rfl ?_
  intro p e s m args below meth c s₁ B hml hv
  obtain ⟨rfl, hP, hK, hN⟩ := hv
  have xc : xC p s m _ meth c b_M_lengthOf 6 lwG qR5 (some .int) := ⟨B.exec, B.bytes, hml, findClass_of_methodNamed B.named, fun w h => atoms_spec (ws := (.code y_M_lengthOf b_M_lengthOf 6 (some .int) :: lwG)) B.pre w (List.mem_cons_of_mem _ h), B.returns, B.notSynchronized⟩
  obtain ⟨hx, hb, hml, hown, hts, hr, hlocks⟩ := id xc
  have hl := lv_entry ([.ref (cA L 0), .int a1]) (n := 6) (Nat.le_of_ble_eq_true rfl)
  rw [lg_entry_eq]
  generalize (lg_sl ([.ref (cA L 0), .int a1]) ++ List.replicate (6 - (lg_sl ([.ref (cA L 0), .int a1])).length) Slot.unset).toArray = ls at hl ⊢
  have hl : lv_has ls 6 [(0, .ref (cA L 0)), (1, .int a1)] := hl
  refine lv_aload_n hx hb d_M_lengthOf_0 rfl (lv_at hl 0 rfl) ?_
  refine va_get (D := L.1) (ci := 5) (v := .int (I 2)) (C := qR5) (T := qT5) (N := 16) hx hb hts qi5 hown hK hP 0 rfl rfl 2 (by decide) (hts _ wG734) (fun _ h9 => h9) rfl d_M_lengthOf_1 ?_
  refine lv_iconst (v := (-1)) hx hb d_M_lengthOf_4 (by decide) ?_
  refine lv_icmp_ne (tgt := 12) hx hb d_M_lengthOf_5 (by decide) (fun c_1 => ?_) (fun c_1 => ?_)
  · replace h := h.1 c_1
    refine lv_aload_n hx hb d_M_lengthOf_12 rfl (lv_at hl 0 rfl) ?_
    refine va_get (D := L.1) (ci := 5) (v := .ref (cA L 9)) (C := qR5) (T := qT5) (N := 16) hx hb hts qi5 hown hK hP 0 rfl rfl 11 (by decide) (hts _ wG743) (fun _ h9 => h9) rfl d_M_lengthOf_13 ?_
    refine lv_iload_n hx hb d_M_lengthOf_16 rfl (lv_at hl 1 rfl) ?_
    obtain ⟨hi_2, h⟩ := h
    refine va_iald hx hb hK hP 9 0 rfl rfl hi_2 d_M_lengthOf_17 ?_
    refine lv_topi (fun x_3 ex_3 => ?_)
    replace h := h x_3 ex_3
    refine lv_istore_n (lv' := [(2, .int x_3), (0, .ref (cA L 0)), (1, .int a1)]) hx hb d_M_lengthOf_18 rfl hl (by decide) rfl (fun ls hl => ?_)
    refine lv_iconst (v := 0) hx hb d_M_lengthOf_19 (by decide) ?_
    refine lv_istore_n (lv' := [(3, .int 0), (2, .int x_3), (0, .ref (cA L 0)), (1, .int a1)]) hx hb d_M_lengthOf_20 rfl hl (by decide) rfl (fun ls hl => ?_)
    refine lv_iload_n hx hb d_M_lengthOf_21 rfl (lv_at hl 1 rfl) ?_
    refine lv_if_eq (tgt := 33) hx hb d_M_lengthOf_22 (by decide) (fun c_4 => ?_) (fun c_4 => ?_)
    · replace h := h.1 c_4
      refine lv_iconst (v := 0) hx hb d_M_lengthOf_33 (by decide) ?_
      exact W.iret hx hb hr (fun t ht _ => ⟨_, rfl, h, ht⟩) (fun _ h9 => nomatch h9) d_M_lengthOf_34
    · replace h := h.2 c_4
      refine lv_aload_n hx hb d_M_lengthOf_25 rfl (lv_at hl 2 rfl) ?_
      refine lv_iload_n hx hb d_M_lengthOf_26 rfl (lv_at hl 3 rfl) ?_
      refine vp_callSi (va_runV (As := [.int a1]) (rest := []) ⟨hx, hb, hml, hown, hts⟩ (c_M_isWired l L a1 I F G _ h) (cwV 1 hts (gV wG813 wG815 wG23 wG54 wG816) rfl rfl rfl (by decide +kernel) ⟨Nat.le_of_ble_eq_true rfl, Nat.le_of_ble_eq_true rfl⟩) (mPre hK hN hP) rfl rfl hl.1 rfl (lv_room (Nat.le_of_ble_eq_true rfl)) d_M_lengthOf_27 ⟨Nat.le_of_ble_eq_true rfl, Nat.le_of_ble_eq_true rfl⟩).run (fun r_5 h => ?_)
      refine lv_if_ne (tgt := 35) hx hb d_M_lengthOf_30 (by decide) (fun c_6 => ?_) (fun c_6 => ?_)
      · replace h := h.1 c_6
        refine lv_iconst (v := 0) hx hb d_M_lengthOf_35 (by decide) ?_
        refine lv_istore (lv' := [(4, .int 0), (3, .int 0), (2, .int x_3), (0, .ref (cA L 0)), (1, .int a1)]) hx hb d_M_lengthOf_36 hl (by decide) rfl (fun ls hl => ?_)
        obtain ⟨n_27, h⟩ := h
        refine Wl_M_lengthOf_38 xc hP hK hN (hk := fun x_23 x_24 ls h hl => ?_) n_27 0 0 ls h (lv_sub hl [3, 4, 2, 1, 0] rfl)
        refine lv_iload_n hx hb d_M_lengthOf_110 rfl (lv_at hl 3 rfl) ?_
        refine lv_aload_n hx hb d_M_lengthOf_111 rfl (lv_at hl 0 rfl) ?_
        refine lv_iload_n hx hb d_M_lengthOf_112 rfl (lv_at hl 1 rfl) ?_
        refine vp_callSi (va_runV (As := [.int a1]) (rest := [.int x_23]) ⟨hx, hb, hml, hown, hts⟩ (c_M_right l L a1 I F G _ h) (cwV 1 hts (gV wG849 wG851 wG32 wG54 wG852) rfl rfl rfl (by decide +kernel) ⟨Nat.le_of_ble_eq_true rfl, Nat.le_of_ble_eq_true rfl⟩) (mPre hK hN hP) rfl rfl hl.1 rfl (lv_room (Nat.le_of_ble_eq_true rfl)) d_M_lengthOf_113 ⟨Nat.le_of_ble_eq_true rfl, Nat.le_of_ble_eq_true rfl⟩).run (fun r_25 h => ?_)
        refine lv_iadd hx hb d_M_lengthOf_116 ?_
        refine lv_aload_n hx hb d_M_lengthOf_117 rfl (lv_at hl 0 rfl) ?_
        refine lv_iload_n hx hb d_M_lengthOf_118 rfl (lv_at hl 1 rfl) ?_
        refine vp_callSi (va_runV (As := [.int a1]) (rest := [.int (x_23 + r_25)]) ⟨hx, hb, hml, hown, hts⟩ (c_M_left l L a1 I F G _ h) (cwV 1 hts (gV wG837 wG839 wG29 wG54 wG840) rfl rfl rfl (by decide +kernel) ⟨Nat.le_of_ble_eq_true rfl, Nat.le_of_ble_eq_true rfl⟩) (mPre hK hN hP) rfl rfl hl.1 rfl (lv_room (Nat.le_of_ble_eq_true rfl)) d_M_lengthOf_119 ⟨Nat.le_of_ble_eq_true rfl, Nat.le_of_ble_eq_true rfl⟩).run (fun r_26 h => ?_)
        refine lv_isub hx hb d_M_lengthOf_122 ?_
        exact W.iret hx hb hr (fun t ht _ => ⟨_, rfl, h, ht⟩) (fun _ h9 => nomatch h9) d_M_lengthOf_123
      · replace h := h.2 c_6
        refine lv_iconst (v := 0) hx hb d_M_lengthOf_33 (by decide) ?_
        exact W.iret hx hb hr (fun t ht _ => ⟨_, rfl, h, ht⟩) (fun _ h9 => nomatch h9) d_M_lengthOf_34
  · replace h := h.2 c_1
    refine lv_iconst (v := 0) hx hb d_M_lengthOf_8 (by decide) ?_
    refine lv_goto (tgt := 18) hx hb d_M_lengthOf_9 (by decide) ?_
    refine lv_istore_n (lv' := [(2, .int 0), (0, .ref (cA L 0)), (1, .int a1)]) hx hb d_M_lengthOf_18 rfl hl (by decide) rfl (fun ls hl => ?_)
    refine lv_iconst (v := 0) hx hb d_M_lengthOf_19 (by decide) ?_
    refine lv_istore_n (lv' := [(3, .int 0), (2, .int 0), (0, .ref (cA L 0)), (1, .int a1)]) hx hb d_M_lengthOf_20 rfl hl (by decide) rfl (fun ls hl => ?_)
    refine lv_iload_n hx hb d_M_lengthOf_21 rfl (lv_at hl 1 rfl) ?_
    refine lv_if_eq (tgt := 33) hx hb d_M_lengthOf_22 (by decide) (fun c_28 => ?_) (fun c_28 => ?_)
    · skip
      refine lv_iconst (v := 0) hx hb d_M_lengthOf_33 (by decide) ?_
      exact W.iret hx hb hr (fun t ht _ => ⟨_, rfl, h, ht⟩) (fun _ h9 => nomatch h9) d_M_lengthOf_34
    · exact absurd c_28 (by decide)
abbrev rm_M_net : Room := { frames := 6, cells := 0, slots := 0, locals := 137 }
set_option maxHeartbeats 4000000 in
set_option maxRecDepth 100000 in
theorem c_M_net (l : Launch) (L : cL) (a1 : Int32) (a2 : Int32) (I : MI) (F : MF) (G : MG) (sz : Nat) (post : Int32 → MI → MF → MG → Prop) (h : wp_M_net a1 a2 I F G post) : Met l y_M_net (.code y_M_net b_M_net 3 (some .int) :: lwG) rm_M_net (mPm L I F G sz [.ref (cA L 0), .int a1, .int a2]) (mQi L (mAA L I F G sz) post (mAA L I F G sz)) 0 0 (mAA L I F G sz) := by
  refine Met.ofW (cc := b_M_net) (maxL := 3) (ret := (some .int)) (by decide) rfl ?_
  intro p e s m args below meth c s₁ B hml hv
  obtain ⟨rfl, hsz, hP, hK, hD0, hN⟩ := hv
  have xc : xC p s m _ meth c b_M_net 3 lwG qR5 (some .int) := ⟨B.exec, B.bytes, hml, findClass_of_methodNamed B.named, fun w h => atoms_spec (ws := (.code y_M_net b_M_net 3 (some .int) :: lwG)) B.pre w (List.mem_cons_of_mem _ h), B.returns, B.notSynchronized⟩
  obtain ⟨hx, hb, hml, hown, hts, hr, hlocks⟩ := id xc
  subst hsz
  have hD : va_D (mAA L I F G s.heap.size) (WM L I F G) := hD0.self
  have hA0 : ∀ q : Nat, s.heap.size ≤ q → mAA L I F G s.heap.size q := fun q h => Or.inr h
  generalize mAA L I F G s.heap.size = A at hD hA0 ⊢
  have hA := hA0
  have hw : MW L A s.heap I F G s.heap [] := ⟨hP, hD, va_S.rf⟩
  have hl := lv_entry ([.ref (cA L 0), .int a1, .int a2]) (n := 3) (Nat.le_of_ble_eq_true rfl)
  rw [lg_entry_eq]
  generalize (lg_sl ([.ref (cA L 0), .int a1, .int a2]) ++ List.replicate (3 - (lg_sl ([.ref (cA L 0), .int a1, .int a2])).length) Slot.unset).toArray = ls at hl ⊢
  have hl : lv_has ls 3 [(0, .ref (cA L 0)), (1, .int a1), (2, .int a2)] := hl
  refine lv_iload_n hx hb d_M_net_0 rfl (lv_at hl 1 rfl) ?_
  refine lv_iconst (v := 0) hx hb d_M_net_1 (by decide) ?_
  refine lv_bipush (v := 11) hx hb d_M_net_2 (by decide) ?_
  refine vp_callSi (va_runS (As := [.int a1, .int 0, .int 11]) (rest := []) ⟨hx, hb, hml, hown, hts⟩ (c_M_in l a1 0 11 _ h) (va_cwS 3 hts (gS wG790 wG791 wG54 wG792) rfl rfl rfl (by decide +kernel) ⟨Nat.le_of_ble_eq_true rfl, Nat.le_of_ble_eq_true rfl⟩) ⟨sPc_blind _, fun U hU hW => ⟨rfl, trivial⟩⟩ rfl rfl hl.1 rfl (lv_room (Nat.le_of_ble_eq_true rfl)) d_M_net_4 ⟨Nat.le_of_ble_eq_true rfl, Nat.le_of_ble_eq_true rfl⟩).run (fun r_1 h => ?_)
  refine lv_if_eq (tgt := 20) hx hb d_M_net_7 (by decide) (fun c_2 => ?_) (fun c_2 => ?_)
  · replace h := h.1 c_2
    refine lv_aload_n hx hb d_M_net_20 rfl (lv_at hl 0 rfl) ?_
    refine lv_iconst (v := 1) hx hb d_M_net_21 (by decide) ?_
    refine m_calli (va_runV (As := [.int 1]) (rest := []) ⟨hx, hb, hml, hown, hts⟩ (c_M_refuse l L 1 I F G _ _ h) (cwV 1 hts (gV wG793 wG795 wG20 wG54 wG796) rfl rfl rfl (by decide +kernel) ⟨Nat.le_of_ble_eq_true rfl, Nat.le_of_ble_eq_true rfl⟩) (mPrm hK hN hw) rfl rfl hl.1 rfl (lv_room (Nat.le_of_ble_eq_true rfl)) d_M_net_22 ⟨Nat.le_of_ble_eq_true rfl, Nat.le_of_ble_eq_true rfl⟩) hw hA (fun r_3 I_4 F_4 G_4 H locs h hw => ?_)
    exact W.iret hx hb hr (fun t ht hW => ⟨⟨_, (I_4, F_4, G_4), rfl, h, by rw [ht]; exact hw.1, va_K.moved hW.alike hK, hw.2.1⟩, hw.2.2.F ht⟩) hw.2.2.2.2 d_M_net_25
  · replace h := h.2 c_2
    refine lv_iload_n hx hb d_M_net_10 rfl (lv_at hl 2 rfl) ?_
    refine lv_iconst (v := 0) hx hb d_M_net_11 (by decide) ?_
    refine lv_bipush (v := 6) hx hb d_M_net_12 (by decide) ?_
    refine vp_callSi (va_runS (As := [.int a2, .int 0, .int 6]) (rest := []) ⟨hx, hb, hml, hown, hts⟩ (c_M_in l a2 0 6 _ h) (va_cwS 3 hts (gS wG790 wG791 wG54 wG792) rfl rfl rfl (by decide +kernel) ⟨Nat.le_of_ble_eq_true rfl, Nat.le_of_ble_eq_true rfl⟩) ⟨sPc_blind _, fun U hU hW => ⟨rfl, trivial⟩⟩ rfl rfl hl.1 rfl (lv_room (Nat.le_of_ble_eq_true rfl)) d_M_net_14 ⟨Nat.le_of_ble_eq_true rfl, Nat.le_of_ble_eq_true rfl⟩).run (fun r_5 h => ?_)
    refine lv_if_ne (tgt := 26) hx hb d_M_net_17 (by decide) (fun c_6 => ?_) (fun c_6 => ?_)
    · replace h := h.1 c_6
      refine lv_aload_n hx hb d_M_net_26 rfl (lv_at hl 0 rfl) ?_
      refine lv_iconst (v := 0) hx hb d_M_net_27 (by decide) ?_
      refine va_put (D := L.1) (ci := 5) (v := .int 0) (ty := .int) (C := qR5) (T := qT5) (N := 16) hx hb hts qi5 qy5 qk5 qn5 hown hK hw.1 hw.2.1 hw.2.2 0 rfl rfl 0 (by decide) (hts _ wG732) (fun _ h9 => h9) rfl (by decide +kernel) rfl rfl (Nat.le_of_ble_eq_true rfl) d_M_net_28 (fun H locs h1 h2 h3 => ?_)
      replace hw : MW L A s.heap (setI I 0 0) F G H locs := ⟨h1, h2, h3⟩
      clear h1 h2 h3
      obtain ⟨I_7, eI_7⟩ : ∃ y : MI, y = setI I 0 0 := ⟨_, rfl⟩
      rw [← eI_7] at hw
      replace h := h I_7 eI_7
      refine lv_iload_n hx hb d_M_net_31 rfl (lv_at hl 2 rfl) ?_
      by_cases c0 : a2 = 0
      · replace h := h.1 c0
        refine lv_tableIn (tgt := 72) hx hb d_M_net_32 (by rw [c0]; decide) (by rw [c0]; decide) (by rw [c0]; rfl) (by decide) ?_
        refine lv_aload_n hx hb d_M_net_72 rfl (lv_at hl 0 rfl) ?_
        refine lv_iload_n hx hb d_M_net_73 rfl (lv_at hl 1 rfl) ?_
        refine vp_callSi (va_runV (As := [.int a1]) (rest := []) ⟨hx, hb, hml, hown, hts⟩ (c_M_pins l L a1 I_7 F G _ h) (cwV 1 hts (gV wG817 wG819 wG24 wG54 wG820) rfl rfl rfl (by decide +kernel) ⟨Nat.le_of_ble_eq_true rfl, Nat.le_of_ble_eq_true rfl⟩) (mPre hK hN hw.1) rfl rfl hl.1 rfl (lv_room (Nat.le_of_ble_eq_true rfl)) d_M_net_74 ⟨Nat.le_of_ble_eq_true rfl, Nat.le_of_ble_eq_true rfl⟩).run (fun r_8 h => ?_)
        exact W.iret hx hb hr (fun t ht hW => ⟨⟨_, (I_7, F, G), rfl, h, by rw [ht]; exact hw.1, va_K.moved hW.alike hK, hw.2.1⟩, hw.2.2.F ht⟩) hw.2.2.2.2 d_M_net_77
      · replace h := h.2 c0
        by_cases c1 : a2 = 1
        · replace h := h.1 c1
          refine lv_tableIn (tgt := 78) hx hb d_M_net_32 (by rw [c1]; decide) (by rw [c1]; decide) (by rw [c1]; rfl) (by decide) ?_
          refine lv_aload_n hx hb d_M_net_78 rfl (lv_at hl 0 rfl) ?_
          refine lv_iload_n hx hb d_M_net_79 rfl (lv_at hl 1 rfl) ?_
          refine vp_callSi (va_runV (As := [.int a1]) (rest := []) ⟨hx, hb, hml, hown, hts⟩ (c_M_driver l L a1 I_7 F G _ h) (cwV 1 hts (gV wG797 wG799 wG21 wG54 wG800) rfl rfl rfl (by decide +kernel) ⟨Nat.le_of_ble_eq_true rfl, Nat.le_of_ble_eq_true rfl⟩) (mPre hK hN hw.1) rfl rfl hl.1 rfl (lv_room (Nat.le_of_ble_eq_true rfl)) d_M_net_80 ⟨Nat.le_of_ble_eq_true rfl, Nat.le_of_ble_eq_true rfl⟩).run (fun r_9 h => ?_)
          exact W.iret hx hb hr (fun t ht hW => ⟨⟨_, (I_7, F, G), rfl, h, by rw [ht]; exact hw.1, va_K.moved hW.alike hK, hw.2.1⟩, hw.2.2.F ht⟩) hw.2.2.2.2 d_M_net_83
        · replace h := h.2 c1
          by_cases c2 : a2 = 2
          · replace h := h.1 c2
            refine lv_tableIn (tgt := 84) hx hb d_M_net_32 (by rw [c2]; decide) (by rw [c2]; decide) (by rw [c2]; rfl) (by decide) ?_
            refine lv_aload_n hx hb d_M_net_84 rfl (lv_at hl 0 rfl) ?_
            refine lv_iload_n hx hb d_M_net_85 rfl (lv_at hl 1 rfl) ?_
            refine vp_callSi (va_runV (As := [.int a1]) (rest := []) ⟨hx, hb, hml, hown, hts⟩ (c_M_hasPad l L a1 I_7 F G _ h) (cwV 1 hts (gV wG829 wG831 wG27 wG54 wG832) rfl rfl rfl (by decide +kernel) ⟨Nat.le_of_ble_eq_true rfl, Nat.le_of_ble_eq_true rfl⟩) (mPre hK hN hw.1) rfl rfl hl.1 rfl (lv_room (Nat.le_of_ble_eq_true rfl)) d_M_net_86 ⟨Nat.le_of_ble_eq_true rfl, Nat.le_of_ble_eq_true rfl⟩).run (fun r_10 h => ?_)
            refine lv_if_eq (tgt := 96) hx hb d_M_net_89 (by decide) (fun c_11 => ?_) (fun c_11 => ?_)
            · replace h := h.1 c_11
              refine lv_iconst (v := 0) hx hb d_M_net_96 (by decide) ?_
              exact W.iret hx hb hr (fun t ht hW => ⟨⟨_, (I_7, F, G), rfl, h, by rw [ht]; exact hw.1, va_K.moved hW.alike hK, hw.2.1⟩, hw.2.2.F ht⟩) hw.2.2.2.2 d_M_net_97
            · replace h := h.2 c_11
              refine lv_iconst (v := 1) hx hb d_M_net_92 (by decide) ?_
              refine lv_goto (tgt := 97) hx hb d_M_net_93 (by decide) ?_
              exact W.iret hx hb hr (fun t ht hW => ⟨⟨_, (I_7, F, G), rfl, h, by rw [ht]; exact hw.1, va_K.moved hW.alike hK, hw.2.1⟩, hw.2.2.F ht⟩) hw.2.2.2.2 d_M_net_97
          · replace h := h.2 c2
            by_cases c3 : a2 = 3
            · replace h := h.1 c3
              refine lv_tableIn (tgt := 98) hx hb d_M_net_32 (by rw [c3]; decide) (by rw [c3]; decide) (by rw [c3]; rfl) (by decide) ?_
              refine lv_aload_n hx hb d_M_net_98 rfl (lv_at hl 0 rfl) ?_
              refine lv_iload_n hx hb d_M_net_99 rfl (lv_at hl 1 rfl) ?_
              refine vp_callSi (va_runV (As := [.int a1]) (rest := []) ⟨hx, hb, hml, hown, hts⟩ (c_M_isWired l L a1 I_7 F G _ h) (cwV 1 hts (gV wG813 wG815 wG23 wG54 wG816) rfl rfl rfl (by decide +kernel) ⟨Nat.le_of_ble_eq_true rfl, Nat.le_of_ble_eq_true rfl⟩) (mPre hK hN hw.1) rfl rfl hl.1 rfl (lv_room (Nat.le_of_ble_eq_true rfl)) d_M_net_100 ⟨Nat.le_of_ble_eq_true rfl, Nat.le_of_ble_eq_true rfl⟩).run (fun r_12 h => ?_)
              refine lv_if_eq (tgt := 114) hx hb d_M_net_103 (by decide) (fun c_13 => ?_) (fun c_13 => ?_)
              · replace h := h.1 c_13
                refine lv_iconst (v := (-1)) hx hb d_M_net_114 (by decide) ?_
                exact W.iret hx hb hr (fun t ht hW => ⟨⟨_, (I_7, F, G), rfl, h, by rw [ht]; exact hw.1, va_K.moved hW.alike hK, hw.2.1⟩, hw.2.2.F ht⟩) hw.2.2.2.2 d_M_net_115
              · replace h := h.2 c_13
                refine lv_aload_n hx hb d_M_net_106 rfl (lv_at hl 0 rfl) ?_
                refine lv_iload_n hx hb d_M_net_107 rfl (lv_at hl 1 rfl) ?_
                refine vp_callSi (va_runV (As := [.int a1]) (rest := []) ⟨hx, hb, hml, hown, hts⟩ (c_M_left l L a1 I_7 F G _ h) (cwV 1 hts (gV wG837 wG839 wG29 wG54 wG840) rfl rfl rfl (by decide +kernel) ⟨Nat.le_of_ble_eq_true rfl, Nat.le_of_ble_eq_true rfl⟩) (mPre hK hN hw.1) rfl rfl hl.1 rfl (lv_room (Nat.le_of_ble_eq_true rfl)) d_M_net_108 ⟨Nat.le_of_ble_eq_true rfl, Nat.le_of_ble_eq_true rfl⟩).run (fun r_14 h => ?_)
                refine lv_goto (tgt := 115) hx hb d_M_net_111 (by decide) ?_
                exact W.iret hx hb hr (fun t ht hW => ⟨⟨_, (I_7, F, G), rfl, h, by rw [ht]; exact hw.1, va_K.moved hW.alike hK, hw.2.1⟩, hw.2.2.F ht⟩) hw.2.2.2.2 d_M_net_115
            · replace h := h.2 c3
              by_cases c4 : a2 = 4
              · replace h := h.1 c4
                refine lv_tableIn (tgt := 116) hx hb d_M_net_32 (by rw [c4]; decide) (by rw [c4]; decide) (by rw [c4]; rfl) (by decide) ?_
                refine lv_aload_n hx hb d_M_net_116 rfl (lv_at hl 0 rfl) ?_
                refine lv_iload_n hx hb d_M_net_117 rfl (lv_at hl 1 rfl) ?_
                refine vp_callSi (va_runV (As := [.int a1]) (rest := []) ⟨hx, hb, hml, hown, hts⟩ (c_M_isWired l L a1 I_7 F G _ h) (cwV 1 hts (gV wG813 wG815 wG23 wG54 wG816) rfl rfl rfl (by decide +kernel) ⟨Nat.le_of_ble_eq_true rfl, Nat.le_of_ble_eq_true rfl⟩) (mPre hK hN hw.1) rfl rfl hl.1 rfl (lv_room (Nat.le_of_ble_eq_true rfl)) d_M_net_118 ⟨Nat.le_of_ble_eq_true rfl, Nat.le_of_ble_eq_true rfl⟩).run (fun r_15 h => ?_)
                refine lv_if_eq (tgt := 132) hx hb d_M_net_121 (by decide) (fun c_16 => ?_) (fun c_16 => ?_)
                · replace h := h.1 c_16
                  refine lv_iconst (v := (-1)) hx hb d_M_net_132 (by decide) ?_
                  exact W.iret hx hb hr (fun t ht hW => ⟨⟨_, (I_7, F, G), rfl, h, by rw [ht]; exact hw.1, va_K.moved hW.alike hK, hw.2.1⟩, hw.2.2.F ht⟩) hw.2.2.2.2 d_M_net_133
                · replace h := h.2 c_16
                  refine lv_aload_n hx hb d_M_net_124 rfl (lv_at hl 0 rfl) ?_
                  refine lv_iload_n hx hb d_M_net_125 rfl (lv_at hl 1 rfl) ?_
                  refine vp_callSi (va_runV (As := [.int a1]) (rest := []) ⟨hx, hb, hml, hown, hts⟩ (c_M_right l L a1 I_7 F G _ h) (cwV 1 hts (gV wG849 wG851 wG32 wG54 wG852) rfl rfl rfl (by decide +kernel) ⟨Nat.le_of_ble_eq_true rfl, Nat.le_of_ble_eq_true rfl⟩) (mPre hK hN hw.1) rfl rfl hl.1 rfl (lv_room (Nat.le_of_ble_eq_true rfl)) d_M_net_126 ⟨Nat.le_of_ble_eq_true rfl, Nat.le_of_ble_eq_true rfl⟩).run (fun r_17 h => ?_)
                  refine lv_goto (tgt := 133) hx hb d_M_net_129 (by decide) ?_
                  exact W.iret hx hb hr (fun t ht hW => ⟨⟨_, (I_7, F, G), rfl, h, by rw [ht]; exact hw.1, va_K.moved hW.alike hK, hw.2.1⟩, hw.2.2.F ht⟩) hw.2.2.2.2 d_M_net_133
              · replace h := h.2 c4
                by_cases c5 : a2 = 5
                · replace h := h.1 c5
                  refine lv_tableIn (tgt := 134) hx hb d_M_net_32 (by rw [c5]; decide) (by rw [c5]; decide) (by rw [c5]; rfl) (by decide) ?_
                  refine lv_aload_n hx hb d_M_net_134 rfl (lv_at hl 0 rfl) ?_
                  refine va_get (D := L.1) (ci := 5) (v := .int (I_7 2)) (C := qR5) (T := qT5) (N := 16) hx hb hts qi5 hown hK hw.1 0 rfl rfl 2 (by decide) (hts _ wG734) (fun _ h9 => h9) rfl d_M_net_135 ?_
                  refine lv_iconst (v := (-1)) hx hb d_M_net_138 (by decide) ?_
                  refine lv_icmp_ne (tgt := 146) hx hb d_M_net_139 (by decide) (fun c_18 => ?_) (fun c_18 => ?_)
                  · replace h := h.1 c_18
                    refine lv_aload_n hx hb d_M_net_146 rfl (lv_at hl 0 rfl) ?_
                    refine va_get (D := L.1) (ci := 5) (v := .ref (cA L 9)) (C := qR5) (T := qT5) (N := 16) hx hb hts qi5 hown hK hw.1 0 rfl rfl 11 (by decide) (hts _ wG743) (fun _ h9 => h9) rfl d_M_net_147 ?_
                    refine lv_iload_n hx hb d_M_net_150 rfl (lv_at hl 1 rfl) ?_
                    obtain ⟨hi_19, h⟩ := h
                    refine va_iald hx hb hK hw.1 9 0 rfl rfl hi_19 d_M_net_151 ?_
                    exact W.iret hx hb hr (fun t ht hW => ⟨⟨_, (I_7, F, G), rfl, h, by rw [ht]; exact hw.1, va_K.moved hW.alike hK, hw.2.1⟩, hw.2.2.F ht⟩) hw.2.2.2.2 d_M_net_152
                  · replace h := h.2 c_18
                    refine lv_iconst (v := 0) hx hb d_M_net_142 (by decide) ?_
                    refine lv_goto (tgt := 152) hx hb d_M_net_143 (by decide) ?_
                    exact W.iret hx hb hr (fun t ht hW => ⟨⟨_, (I_7, F, G), rfl, h, by rw [ht]; exact hw.1, va_K.moved hW.alike hK, hw.2.1⟩, hw.2.2.F ht⟩) hw.2.2.2.2 d_M_net_152
                · replace h := h.2 c5
                  refine lv_tableOut (tgt := 153) hx hb d_M_net_32 (sw_out_0_5 c0 c1 c2 c3 c4 c5) (by decide) ?_
                  refine lv_aload_n hx hb d_M_net_153 rfl (lv_at hl 0 rfl) ?_
                  refine lv_iload_n hx hb d_M_net_154 rfl (lv_at hl 1 rfl) ?_
                  refine vp_callSi (va_runV (As := [.int a1]) (rest := []) ⟨hx, hb, hml, hown, hts⟩ (c_M_lengthOf l L a1 I_7 F G _ h) (cwV 1 hts (gV wG873 wG875 wG36 wG54 wG876) rfl rfl rfl (by decide +kernel) ⟨Nat.le_of_ble_eq_true rfl, Nat.le_of_ble_eq_true rfl⟩) (mPre hK hN hw.1) rfl rfl hl.1 rfl (lv_room (Nat.le_of_ble_eq_true rfl)) d_M_net_155 ⟨Nat.le_of_ble_eq_true rfl, Nat.le_of_ble_eq_true rfl⟩).run (fun r_20 h => ?_)
                  exact W.iret hx hb hr (fun t ht hW => ⟨⟨_, (I_7, F, G), rfl, h, by rw [ht]; exact hw.1, va_K.moved hW.alike hK, hw.2.1⟩, hw.2.2.F ht⟩) hw.2.2.2.2 d_M_net_158
    · replace h := h.2 c_6
      refine lv_aload_n hx hb d_M_net_20 rfl (lv_at hl 0 rfl) ?_
      refine lv_iconst (v := 1) hx hb d_M_net_21 (by decide) ?_
      refine m_calli (va_runV (As := [.int 1]) (rest := []) ⟨hx, hb, hml, hown, hts⟩ (c_M_refuse l L 1 I F G _ _ h) (cwV 1 hts (gV wG793 wG795 wG20 wG54 wG796) rfl rfl rfl (by decide +kernel) ⟨Nat.le_of_ble_eq_true rfl, Nat.le_of_ble_eq_true rfl⟩) (mPrm hK hN hw) rfl rfl hl.1 rfl (lv_room (Nat.le_of_ble_eq_true rfl)) d_M_net_22 ⟨Nat.le_of_ble_eq_true rfl, Nat.le_of_ble_eq_true rfl⟩) hw hA (fun r_21 I_22 F_22 G_22 H locs h hw => ?_)
      exact W.iret hx hb hr (fun t ht hW => ⟨⟨_, (I_22, F_22, G_22), rfl, h, by rw [ht]; exact hw.1, va_K.moved hW.alike hK, hw.2.1⟩, hw.2.2.F ht⟩) hw.2.2.2.2 d_M_net_25
