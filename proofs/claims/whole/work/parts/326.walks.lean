abbrev rm_M_arrival : Room := { frames := 7, cells := 0, slots := 0, locals := 160 }
set_option maxHeartbeats 4000000 in
set_option maxRecDepth 100000 in
theorem Wl_M_arrival_34 {p : Program} {l : Launch} {e : Env} {s : State} {m : MethodId} {args : Array Value} {below : List Frame} {meth : Method} {c : Code} {L : cL} {A : Nat → Prop} {post : UInt64 → MI → MF → MG → Prop} {K : Int32 → MI → MF → MG → Prop} {a1 : Int32} (xc : xC p s m args meth c b_M_arrival 9 lwG qR5 (some .double)) (hK : va_K L.1 vwCl (mTys L) s) (hN : mNk s) (hA : ∀ q, s.heap.size ≤ q → A q)
    (hk : ∀ (a2 : Int32) (I : MI) (F : MF) (G : MG) (H : Heap) (locs : List Loc) (ls : Array Slot), K a2 I F G → MW L A s.heap I F G H locs → lv_has ls 9 [(0, .ref (cA L 0)), (1, .int a1), (2, .int a2)] → W p l e rm_M_arrival s m args below meth c H locs 0 0 (MQ below (mQd L A post A) args s 0 0 A) (F0 m 53 ls [])) :
    ∀ (n : Nat) (a2 : Int32) (I : MI) (F : MF) (G : MG) (H : Heap) (locs : List Loc) (ls : Array Slot), wl_M_arrival_34 post K a1 n a2 I F G → MW L A s.heap I F G H locs → lv_has ls 9 [(0, .ref (cA L 0)), (1, .int a1), (2, .int a2)] → W p l e rm_M_arrival s m args below meth c H locs 0 0 (MQ below (mQd L A post A) args s 0 0 A) (F0 m 34 ls []) := by
  obtain ⟨hx, hb, hml, hown, hts, hr, hlocks⟩ := id xc
  intro n
  induction n with
  | zero => intro a2 I F G H locs ls h; exact absurd h id
  | succ n ih =>
    intro a2 I F G H locs ls h hw hl
    refine lv_iload_n hx hb d_M_arrival_34 rfl (lv_at hl 2 rfl) ?_
    refine lv_bipush (v := 12) hx hb d_M_arrival_35 (by decide) ?_
    refine lv_icmp_ge (tgt := 53) hx hb d_M_arrival_37 (by decide) (fun c_4 => ?_) (fun c_4 => ?_)
    · replace h := h.1 c_4
      exact hk a2 I F G _ _ ls h hw (lv_sub hl [0, 1, 2] rfl)
    · replace h := h.2 c_4
      refine lv_aload_n hx hb d_M_arrival_40 rfl (lv_at hl 0 rfl) ?_
      refine va_get (D := L.1) (ci := 5) (v := .ref (cA L 13)) (C := qR5) (T := qT5) (N := 16) hx hb hts qi5 hown hK hw.1 0 rfl rfl 15 (by decide) (hts _ wG747) (fun _ h9 => h9) rfl d_M_arrival_41 ?_
      refine lv_iload_n hx hb d_M_arrival_44 rfl (lv_at hl 2 rfl) ?_
      refine lv_iconst (v := 0) hx hb d_M_arrival_45 (by decide) ?_
      obtain ⟨hi_5, h⟩ := h
      refine m_zast hx hb hK hw 10 13 rfl (fun _ => rfl) hi_5 (y := 0) rfl d_M_arrival_46 (fun H locs hw => ?_)
      obtain ⟨F_6, eF_6⟩ : ∃ y : MF, y = setF F 10 (upd (F 10) a2.toNatClampNeg 0) := ⟨_, rfl⟩
      rw [← eF_6] at hw
      replace h := h F_6 eF_6
      obtain ⟨x_7, ex_7⟩ : ∃ y : Int32, y = a2 + 1 := ⟨_, rfl⟩
      replace h := h x_7 ex_7
      refine lv_iinc (v := x_7) (lv' := [(2, .int x_7), (0, .ref (cA L 0)), (1, .int a1)]) hx hb d_M_arrival_47 hl (k := 2) rfl (by rw [ex_7]; rfl) (by decide) rfl (fun ls hl => ?_)
      refine lv_goto (tgt := 34) hx hb d_M_arrival_50 (by decide) ?_
      exact ih x_7 I F_6 G _ _ ls h hw (lv_sub hl [1, 2, 0] rfl)
set_option maxHeartbeats 4000000 in
set_option maxRecDepth 100000 in
theorem Wl_M_arrival_63 {p : Program} {l : Launch} {e : Env} {s : State} {m : MethodId} {args : Array Value} {below : List Frame} {meth : Method} {c : Code} {L : cL} {A : Nat → Prop} {post : UInt64 → MI → MF → MG → Prop} {K : Int32 → MI → MF → MG → Prop} {a1 : Int32} {a2 : Int32} (xc : xC p s m args meth c b_M_arrival 9 lwG qR5 (some .double)) (hK : va_K L.1 vwCl (mTys L) s) (hN : mNk s) (hA : ∀ q, s.heap.size ≤ q → A q)
    (hk : ∀ (a3 : Int32) (I : MI) (F : MF) (G : MG) (H : Heap) (locs : List Loc) (ls : Array Slot), K a3 I F G → MW L A s.heap I F G H locs → lv_has ls 9 [(0, .ref (cA L 0)), (1, .int a1), (2, .int a2), (3, .int a3)] → W p l e rm_M_arrival s m args below meth c H locs 0 0 (MQ below (mQd L A post A) args s 0 0 A) (F0 m 221 ls [])) :
    ∀ (n : Nat) (a3 : Int32) (I : MI) (F : MF) (G : MG) (H : Heap) (locs : List Loc) (ls : Array Slot), wl_M_arrival_63 post K a1 a2 n a3 I F G → MW L A s.heap I F G H locs → lv_has ls 9 [(0, .ref (cA L 0)), (1, .int a1), (2, .int a2), (3, .int a3)] → W p l e rm_M_arrival s m args below meth c H locs 0 0 (MQ below (mQd L A post A) args s 0 0 A) (F0 m 63 ls []) := by
  obtain ⟨hx, hb, hml, hown, hts, hr, hlocks⟩ := id xc
  intro n
  induction n with
  | zero => intro a3 I F G H locs ls h; exact absurd h id
  | succ n ih =>
    intro a3 I F G H locs ls h hw hl
    refine lv_iload_n hx hb d_M_arrival_63 rfl (lv_at hl 3 rfl) ?_
    refine lv_bipush (v := 12) hx hb d_M_arrival_64 (by decide) ?_
    refine lv_icmp_ge (tgt := 221) hx hb d_M_arrival_66 (by decide) (fun c_11 => ?_) (fun c_11 => ?_)
    · replace h := h.1 c_11
      exact hk a3 I F G _ _ ls h hw (lv_sub hl [0, 1, 2, 3] rfl)
    · replace h := h.2 c_11
      refine lv_aload_n hx hb d_M_arrival_69 rfl (lv_at hl 0 rfl) ?_
      refine va_get (D := L.1) (ci := 5) (v := .ref (cA L 13)) (C := qR5) (T := qT5) (N := 16) hx hb hts qi5 hown hK hw.1 0 rfl rfl 15 (by decide) (hts _ wG747) (fun _ h9 => h9) rfl d_M_arrival_70 ?_
      refine lv_iload_n hx hb d_M_arrival_73 rfl (lv_at hl 3 rfl) ?_
      obtain ⟨hi_12, h⟩ := h
      refine va_zald hx hb hK hw.1 13 2 rfl rfl hi_12 d_M_arrival_74 ?_
      refine lv_if_ne (tgt := 215) hx hb d_M_arrival_75 (by decide) (fun c_13 => ?_) (fun c_13 => ?_)
      · replace h := h.1 c_13
        obtain ⟨x_14, ex_14⟩ : ∃ y : Int32, y = a3 + 1 := ⟨_, rfl⟩
        replace h := h x_14 ex_14
        refine lv_iinc (v := x_14) (lv' := [(3, .int x_14), (0, .ref (cA L 0)), (1, .int a1), (2, .int a2)]) hx hb d_M_arrival_215 hl (k := 3) rfl (by rw [ex_14]; rfl) (by decide) rfl (fun ls hl => ?_)
        refine lv_goto (tgt := 63) hx hb d_M_arrival_218 (by decide) ?_
        exact ih x_14 I F G _ _ ls h hw (lv_sub hl [1, 2, 3, 0] rfl)
      · replace h := h.2 c_13
        refine lv_aload_n hx hb d_M_arrival_78 rfl (lv_at hl 0 rfl) ?_
        refine lv_iload_n hx hb d_M_arrival_79 rfl (lv_at hl 3 rfl) ?_
        refine vp_callSi (va_runV (As := [.int a3]) (rest := []) ⟨hx, hb, hml, hown, hts⟩ (c_M_isReady l L a3 I F G _ h) (cwV 1 hts (gV wG944 wG946 wG46 wG54 wG947) rfl rfl rfl (by decide +kernel) ⟨Nat.le_of_ble_eq_true rfl, Nat.le_of_ble_eq_true rfl⟩) (mPre hK hN hw.1) rfl rfl hl.1 rfl (lv_room (Nat.le_of_ble_eq_true rfl)) d_M_arrival_80 ⟨Nat.le_of_ble_eq_true rfl, Nat.le_of_ble_eq_true rfl⟩).run (fun r_15 h => ?_)
        refine lv_if_ne (tgt := 89) hx hb d_M_arrival_83 (by decide) (fun c_16 => ?_) (fun c_16 => ?_)
        · replace h := h.1 c_16
          refine lv_aload_n hx hb d_M_arrival_89 rfl (lv_at hl 0 rfl) ?_
          refine va_get (D := L.1) (ci := 5) (v := .ref (cA L 13)) (C := qR5) (T := qT5) (N := 16) hx hb hts qi5 hown hK hw.1 0 rfl rfl 15 (by decide) (hts _ wG747) (fun _ h9 => h9) rfl d_M_arrival_90 ?_
          refine lv_iload_n hx hb d_M_arrival_93 rfl (lv_at hl 3 rfl) ?_
          refine lv_iconst (v := 1) hx hb d_M_arrival_94 (by decide) ?_
          obtain ⟨hi_17, h⟩ := h
          refine m_zast hx hb hK hw 10 13 rfl (fun _ => rfl) hi_17 (y := 1) rfl d_M_arrival_95 (fun H locs hw => ?_)
          obtain ⟨F_18, eF_18⟩ : ∃ y : MF, y = setF F 10 (upd (F 10) a3.toNatClampNeg 1) := ⟨_, rfl⟩
          rw [← eF_18] at hw
          replace h := h F_18 eF_18
          refine lv_aload_n hx hb d_M_arrival_96 rfl (lv_at hl 0 rfl) ?_
          refine va_get (D := L.1) (ci := 5) (v := .ref (cA L 12)) (C := qR5) (T := qT5) (N := 16) hx hb hts qi5 hown hK hw.1 0 rfl rfl 14 (by decide) (hts _ wG746) (fun _ h9 => h9) rfl d_M_arrival_97 ?_
          refine lv_iload_n hx hb d_M_arrival_100 rfl (lv_at hl 3 rfl) ?_
          refine lv_dconst0 hx hb d_M_arrival_101 ?_
          obtain ⟨hi_19, h⟩ := h
          refine m_dast hx hb hK hw 1 12 rfl (fun _ => rfl) hi_19 d_M_arrival_102 (fun H locs hw => ?_)
          obtain ⟨G_20, eG_20⟩ : ∃ y : MG, y = setG G 1 (vf_upd (G 1) a3.toNatClampNeg FP.dconst0) := ⟨_, rfl⟩
          rw [← eG_20] at hw
          replace h := h G_20 eG_20
          refine lv_aload_n hx hb d_M_arrival_103 rfl (lv_at hl 0 rfl) ?_
          refine lv_iload_n hx hb d_M_arrival_104 rfl (lv_at hl 3 rfl) ?_
          refine vp_callSi (va_runV (As := [.int a3]) (rest := []) ⟨hx, hb, hml, hown, hts⟩ (c_M_driver l L a3 I F_18 G_20 _ h) (cwV 1 hts (gV wG797 wG799 wG21 wG54 wG800) rfl rfl rfl (by decide +kernel) ⟨Nat.le_of_ble_eq_true rfl, Nat.le_of_ble_eq_true rfl⟩) (mPre hK hN hw.1) rfl rfl hl.1 rfl (lv_room (Nat.le_of_ble_eq_true rfl)) d_M_arrival_105 ⟨Nat.le_of_ble_eq_true rfl, Nat.le_of_ble_eq_true rfl⟩).run (fun r_21 h => ?_)
          refine lv_istore (lv' := [(4, .int r_21), (0, .ref (cA L 0)), (1, .int a1), (2, .int a2), (3, .int a3)]) hx hb d_M_arrival_108 hl (by decide) rfl (fun ls hl => ?_)
          refine lv_iload hx hb d_M_arrival_110 (lv_at hl 0 rfl) ?_
          refine lv_iconst (v := (-1)) hx hb d_M_arrival_112 (by decide) ?_
          refine lv_icmp_ne (tgt := 119) hx hb d_M_arrival_113 (by decide) (fun c_22 => ?_) (fun c_22 => ?_)
          · replace h := h.1 c_22
            refine lv_aload_n hx hb d_M_arrival_119 rfl (lv_at hl 1 rfl) ?_
            refine va_get (D := L.1) (ci := 5) (v := .ref (cA L 12)) (C := qR5) (T := qT5) (N := 16) hx hb hts qi5 hown hK hw.1 0 rfl rfl 14 (by decide) (hts _ wG746) (fun _ h9 => h9) rfl d_M_arrival_120 ?_
            refine lv_aload_n hx hb d_M_arrival_123 rfl (lv_at hl 1 rfl) ?_
            refine va_get (D := L.1) (ci := 5) (v := .ref (cA L 2)) (C := qR5) (T := qT5) (N := 16) hx hb hts qi5 hown hK hw.1 0 rfl rfl 4 (by decide) (hts _ wG736) (fun _ h9 => h9) rfl d_M_arrival_124 ?_
            refine lv_iload hx hb d_M_arrival_127 (lv_at hl 0 rfl) ?_
            obtain ⟨hi_23, h⟩ := h
            refine va_iald hx hb hK hw.1 2 0 rfl rfl hi_23 d_M_arrival_129 ?_
            obtain ⟨hi_24, h⟩ := h
            refine va_dald hx hb hK hw.1 12 1 rfl rfl hi_24 d_M_arrival_130 ?_
            refine lv_aload_n hx hb d_M_arrival_131 rfl (lv_at hl 1 rfl) ?_
            refine lv_aload_n hx hb d_M_arrival_132 rfl (lv_at hl 1 rfl) ?_
            refine va_get (D := L.1) (ci := 5) (v := .ref (cA L 2)) (C := qR5) (T := qT5) (N := 16) hx hb hts qi5 hown hK hw.1 0 rfl rfl 4 (by decide) (hts _ wG736) (fun _ h9 => h9) rfl d_M_arrival_133 ?_
            refine lv_iload hx hb d_M_arrival_136 (lv_at hl 0 rfl) ?_
            obtain ⟨hi_25, h⟩ := h
            refine va_iald hx hb hK hw.1 2 0 rfl rfl hi_25 d_M_arrival_138 ?_
            refine vp_callSd (va_runV (As := [.int (F_18 1 r_21.toNatClampNeg)]) (rest := [.double (G_20 1 (F_18 1 r_21.toNatClampNeg).toNatClampNeg)]) ⟨hx, hb, hml, hown, hts⟩ (c_M_delayOf l L (F_18 1 r_21.toNatClampNeg) I F_18 G_20 _ h) (cwV 1 hts (gV wG934 wG936 wG45 wG54 wG937) rfl rfl rfl (by decide +kernel) ⟨Nat.le_of_ble_eq_true rfl, Nat.le_of_ble_eq_true rfl⟩) (mPre hK hN hw.1) rfl rfl hl.1 rfl (lv_room (Nat.le_of_ble_eq_true rfl)) d_M_arrival_139 ⟨Nat.le_of_ble_eq_true rfl, Nat.le_of_ble_eq_true rfl⟩).run (fun r_26 h => ?_)
            obtain ⟨hn_27, h⟩ := h
            refine lv_dadd hx hb d_M_arrival_142 hn_27 ?_
            refine lv_topd (fun x_28 ex_28 => ?_)
            replace h := h x_28 ex_28
            refine lv_dstore (lv' := [(5, .double x_28), (4, .int r_21), (0, .ref (cA L 0)), (1, .int a1), (2, .int a2), (3, .int a3)]) hx hb d_M_arrival_143 hl (by decide) rfl (fun ls hl => ?_)
            refine lv_aload_n hx hb d_M_arrival_145 rfl (lv_at hl 2 rfl) ?_
            refine va_get (D := L.1) (ci := 5) (v := .ref (cA L 1)) (C := qR5) (T := qT5) (N := 16) hx hb hts qi5 hown hK hw.1 0 rfl rfl 3 (by decide) (hts _ wG735) (fun _ h9 => h9) rfl d_M_arrival_146 ?_
            refine lv_iload hx hb d_M_arrival_149 (lv_at hl 1 rfl) ?_
            obtain ⟨hi_29, h⟩ := h
            refine va_iald hx hb hK hw.1 1 0 rfl rfl hi_29 d_M_arrival_151 ?_
            refine lv_iconst (v := 1) hx hb d_M_arrival_152 (by decide) ?_
            refine lv_icmp_le (tgt := 194) hx hb d_M_arrival_153 (by decide) (fun c_30 => ?_) (fun c_30 => ?_)
            · replace h := h.1 c_30
              refine lv_aload_n hx hb d_M_arrival_194 rfl (lv_at hl 2 rfl) ?_
              refine va_get (D := L.1) (ci := 5) (v := .ref (cA L 12)) (C := qR5) (T := qT5) (N := 16) hx hb hts qi5 hown hK hw.1 0 rfl rfl 14 (by decide) (hts _ wG746) (fun _ h9 => h9) rfl d_M_arrival_195 ?_
              refine lv_iload_n hx hb d_M_arrival_198 rfl (lv_at hl 5 rfl) ?_
              refine lv_dload hx hb d_M_arrival_199 (lv_at hl 0 rfl) ?_
              refine lv_aload_n hx hb d_M_arrival_201 rfl (lv_at hl 2 rfl) ?_
              refine va_get (D := L.1) (ci := 5) (v := .ref (cA L 8)) (C := qR5) (T := qT5) (N := 16) hx hb hts qi5 hown hK hw.1 0 rfl rfl 10 (by decide) (hts _ wG742) (fun _ h9 => h9) rfl d_M_arrival_202 ?_
              refine lv_aload_n hx hb d_M_arrival_205 rfl (lv_at hl 2 rfl) ?_
              refine va_get (D := L.1) (ci := 5) (v := .ref (cA L 1)) (C := qR5) (T := qT5) (N := 16) hx hb hts qi5 hown hK hw.1 0 rfl rfl 3 (by decide) (hts _ wG735) (fun _ h9 => h9) rfl d_M_arrival_206 ?_
              refine lv_iload hx hb d_M_arrival_209 (lv_at hl 1 rfl) ?_
              obtain ⟨hi_31, h⟩ := h
              refine va_iald hx hb hK hw.1 1 0 rfl rfl hi_31 d_M_arrival_211 ?_
              obtain ⟨hi_32, h⟩ := h
              refine va_dald hx hb hK hw.1 8 1 rfl rfl hi_32 d_M_arrival_212 ?_
              obtain ⟨hn_33, h⟩ := h
              refine lv_dadd hx hb d_M_arrival_213 hn_33 ?_
              obtain ⟨hi_34, h⟩ := h
              refine m_dast hx hb hK hw 1 12 rfl (fun _ => rfl) hi_34 d_M_arrival_214 (fun H locs hw => ?_)
              obtain ⟨G_35, eG_35⟩ : ∃ y : MG, y = setG G_20 1 (vf_upd (G_20 1) a3.toNatClampNeg (FP.dadd x_28 (G_20 0 (F_18 0 r_21.toNatClampNeg).toNatClampNeg))) := ⟨_, rfl⟩
              rw [← eG_35] at hw
              replace h := h G_35 eG_35
              obtain ⟨x_36, ex_36⟩ : ∃ y : Int32, y = a3 + 1 := ⟨_, rfl⟩
              replace h := h x_36 ex_36
              refine lv_iinc (v := x_36) (lv' := [(3, .int x_36), (5, .double x_28), (4, .int r_21), (0, .ref (cA L 0)), (1, .int a1), (2, .int a2)]) hx hb d_M_arrival_215 hl (k := 5) rfl (by rw [ex_36]; rfl) (by decide) rfl (fun ls hl => ?_)
              refine lv_goto (tgt := 63) hx hb d_M_arrival_218 (by decide) ?_
              exact ih x_36 I F_18 G_35 _ _ ls h hw (lv_sub hl [3, 4, 5, 0] rfl)
            · replace h := h.2 c_30
              refine lv_aload_n hx hb d_M_arrival_156 rfl (lv_at hl 2 rfl) ?_
              refine va_get (D := L.1) (ci := 5) (v := .ref (cA L 12)) (C := qR5) (T := qT5) (N := 16) hx hb hts qi5 hown hK hw.1 0 rfl rfl 14 (by decide) (hts _ wG746) (fun _ h9 => h9) rfl d_M_arrival_157 ?_
              refine lv_aload_n hx hb d_M_arrival_160 rfl (lv_at hl 2 rfl) ?_
              refine va_get (D := L.1) (ci := 5) (v := .ref (cA L 3)) (C := qR5) (T := qT5) (N := 16) hx hb hts qi5 hown hK hw.1 0 rfl rfl 5 (by decide) (hts _ wG737) (fun _ h9 => h9) rfl d_M_arrival_161 ?_
              refine lv_iload hx hb d_M_arrival_164 (lv_at hl 1 rfl) ?_
              obtain ⟨hi_37, h⟩ := h
              refine va_iald hx hb hK hw.1 3 0 rfl rfl hi_37 d_M_arrival_166 ?_
              obtain ⟨hi_38, h⟩ := h
              refine va_dald hx hb hK hw.1 12 1 rfl rfl hi_38 d_M_arrival_167 ?_
              refine lv_aload_n hx hb d_M_arrival_168 rfl (lv_at hl 2 rfl) ?_
              refine lv_aload_n hx hb d_M_arrival_169 rfl (lv_at hl 2 rfl) ?_
              refine va_get (D := L.1) (ci := 5) (v := .ref (cA L 3)) (C := qR5) (T := qT5) (N := 16) hx hb hts qi5 hown hK hw.1 0 rfl rfl 5 (by decide) (hts _ wG737) (fun _ h9 => h9) rfl d_M_arrival_170 ?_
              refine lv_iload hx hb d_M_arrival_173 (lv_at hl 1 rfl) ?_
              obtain ⟨hi_39, h⟩ := h
              refine va_iald hx hb hK hw.1 3 0 rfl rfl hi_39 d_M_arrival_175 ?_
              refine vp_callSd (va_runV (As := [.int (F_18 2 r_21.toNatClampNeg)]) (rest := [.double (G_20 1 (F_18 2 r_21.toNatClampNeg).toNatClampNeg)]) ⟨hx, hb, hml, hown, hts⟩ (c_M_delayOf l L (F_18 2 r_21.toNatClampNeg) I F_18 G_20 _ h) (cwV 1 hts (gV wG934 wG936 wG45 wG54 wG937) rfl rfl rfl (by decide +kernel) ⟨Nat.le_of_ble_eq_true rfl, Nat.le_of_ble_eq_true rfl⟩) (mPre hK hN hw.1) rfl rfl hl.1 rfl (lv_room (Nat.le_of_ble_eq_true rfl)) d_M_arrival_176 ⟨Nat.le_of_ble_eq_true rfl, Nat.le_of_ble_eq_true rfl⟩).run (fun r_40 h => ?_)
              obtain ⟨hn_41, h⟩ := h
              refine lv_dadd hx hb d_M_arrival_179 hn_41 ?_
              refine lv_topd (fun x_42 ex_42 => ?_)
              replace h := h x_42 ex_42
              refine lv_dstore (lv' := [(7, .double x_42), (5, .double x_28), (4, .int r_21), (0, .ref (cA L 0)), (1, .int a1), (2, .int a2), (3, .int a3)]) hx hb d_M_arrival_180 hl (by decide) rfl (fun ls hl => ?_)
              refine lv_dload hx hb d_M_arrival_182 (lv_at hl 0 rfl) ?_
              refine lv_dload hx hb d_M_arrival_184 (lv_at hl 1 rfl) ?_
              refine lv_dcmp hx hb d_M_arrival_186 ?_
              refine lv_if_le (tgt := 194) hx hb d_M_arrival_187 (by decide) (fun c_43 => ?_) (fun c_43 => ?_)
              · replace h := h.1 c_43
                refine lv_aload_n hx hb d_M_arrival_194 rfl (lv_at hl 3 rfl) ?_
                refine va_get (D := L.1) (ci := 5) (v := .ref (cA L 12)) (C := qR5) (T := qT5) (N := 16) hx hb hts qi5 hown hK hw.1 0 rfl rfl 14 (by decide) (hts _ wG746) (fun _ h9 => h9) rfl d_M_arrival_195 ?_
                refine lv_iload_n hx hb d_M_arrival_198 rfl (lv_at hl 6 rfl) ?_
                refine lv_dload hx hb d_M_arrival_199 (lv_at hl 1 rfl) ?_
                refine lv_aload_n hx hb d_M_arrival_201 rfl (lv_at hl 3 rfl) ?_
                refine va_get (D := L.1) (ci := 5) (v := .ref (cA L 8)) (C := qR5) (T := qT5) (N := 16) hx hb hts qi5 hown hK hw.1 0 rfl rfl 10 (by decide) (hts _ wG742) (fun _ h9 => h9) rfl d_M_arrival_202 ?_
                refine lv_aload_n hx hb d_M_arrival_205 rfl (lv_at hl 3 rfl) ?_
                refine va_get (D := L.1) (ci := 5) (v := .ref (cA L 1)) (C := qR5) (T := qT5) (N := 16) hx hb hts qi5 hown hK hw.1 0 rfl rfl 3 (by decide) (hts _ wG735) (fun _ h9 => h9) rfl d_M_arrival_206 ?_
                refine lv_iload hx hb d_M_arrival_209 (lv_at hl 2 rfl) ?_
                obtain ⟨hi_44, h⟩ := h
                refine va_iald hx hb hK hw.1 1 0 rfl rfl hi_44 d_M_arrival_211 ?_
                obtain ⟨hi_45, h⟩ := h
                refine va_dald hx hb hK hw.1 8 1 rfl rfl hi_45 d_M_arrival_212 ?_
                obtain ⟨hn_46, h⟩ := h
                refine lv_dadd hx hb d_M_arrival_213 hn_46 ?_
                obtain ⟨hi_47, h⟩ := h
                refine m_dast hx hb hK hw 1 12 rfl (fun _ => rfl) hi_47 d_M_arrival_214 (fun H locs hw => ?_)
                obtain ⟨G_48, eG_48⟩ : ∃ y : MG, y = setG G_20 1 (vf_upd (G_20 1) a3.toNatClampNeg (FP.dadd x_28 (G_20 0 (F_18 0 r_21.toNatClampNeg).toNatClampNeg))) := ⟨_, rfl⟩
                rw [← eG_48] at hw
                replace h := h G_48 eG_48
                obtain ⟨x_49, ex_49⟩ : ∃ y : Int32, y = a3 + 1 := ⟨_, rfl⟩
                replace h := h x_49 ex_49
                refine lv_iinc (v := x_49) (lv' := [(3, .int x_49), (7, .double x_42), (5, .double x_28), (4, .int r_21), (0, .ref (cA L 0)), (1, .int a1), (2, .int a2)]) hx hb d_M_arrival_215 hl (k := 6) rfl (by rw [ex_49]; rfl) (by decide) rfl (fun ls hl => ?_)
                refine lv_goto (tgt := 63) hx hb d_M_arrival_218 (by decide) ?_
                exact ih x_49 I F_18 G_48 _ _ ls h hw (lv_sub hl [4, 5, 6, 0] rfl)
              · replace h := h.2 c_43
                refine lv_dload hx hb d_M_arrival_190 (lv_at hl 0 rfl) ?_
                refine lv_dstore (lv' := [(5, .double x_42), (7, .double x_42), (4, .int r_21), (0, .ref (cA L 0)), (1, .int a1), (2, .int a2), (3, .int a3)]) hx hb d_M_arrival_192 hl (by decide) rfl (fun ls hl => ?_)
                refine lv_aload_n hx hb d_M_arrival_194 rfl (lv_at hl 3 rfl) ?_
                refine va_get (D := L.1) (ci := 5) (v := .ref (cA L 12)) (C := qR5) (T := qT5) (N := 16) hx hb hts qi5 hown hK hw.1 0 rfl rfl 14 (by decide) (hts _ wG746) (fun _ h9 => h9) rfl d_M_arrival_195 ?_
                refine lv_iload_n hx hb d_M_arrival_198 rfl (lv_at hl 6 rfl) ?_
                refine lv_dload hx hb d_M_arrival_199 (lv_at hl 0 rfl) ?_
                refine lv_aload_n hx hb d_M_arrival_201 rfl (lv_at hl 3 rfl) ?_
                refine va_get (D := L.1) (ci := 5) (v := .ref (cA L 8)) (C := qR5) (T := qT5) (N := 16) hx hb hts qi5 hown hK hw.1 0 rfl rfl 10 (by decide) (hts _ wG742) (fun _ h9 => h9) rfl d_M_arrival_202 ?_
                refine lv_aload_n hx hb d_M_arrival_205 rfl (lv_at hl 3 rfl) ?_
                refine va_get (D := L.1) (ci := 5) (v := .ref (cA L 1)) (C := qR5) (T := qT5) (N := 16) hx hb hts qi5 hown hK hw.1 0 rfl rfl 3 (by decide) (hts _ wG735) (fun _ h9 => h9) rfl d_M_arrival_206 ?_
                refine lv_iload hx hb d_M_arrival_209 (lv_at hl 2 rfl) ?_
                obtain ⟨hi_50, h⟩ := h
                refine va_iald hx hb hK hw.1 1 0 rfl rfl hi_50 d_M_arrival_211 ?_
                obtain ⟨hi_51, h⟩ := h
                refine va_dald hx hb hK hw.1 8 1 rfl rfl hi_51 d_M_arrival_212 ?_
                obtain ⟨hn_52, h⟩ := h
                refine lv_dadd hx hb d_M_arrival_213 hn_52 ?_
                obtain ⟨hi_53, h⟩ := h
                refine m_dast hx hb hK hw 1 12 rfl (fun _ => rfl) hi_53 d_M_arrival_214 (fun H locs hw => ?_)
                obtain ⟨G_54, eG_54⟩ : ∃ y : MG, y = setG G_20 1 (vf_upd (G_20 1) a3.toNatClampNeg (FP.dadd x_42 (G_20 0 (F_18 0 r_21.toNatClampNeg).toNatClampNeg))) := ⟨_, rfl⟩
                rw [← eG_54] at hw
                replace h := h G_54 eG_54
                obtain ⟨x_55, ex_55⟩ : ∃ y : Int32, y = a3 + 1 := ⟨_, rfl⟩
                replace h := h x_55 ex_55
                refine lv_iinc (v := x_55) (lv' := [(3, .int x_55), (5, .double x_42), (7, .double x_42), (4, .int r_21), (0, .ref (cA L 0)), (1, .int a1), (2, .int a2)]) hx hb d_M_arrival_215 hl (k := 6) rfl (by rw [ex_55]; rfl) (by decide) rfl (fun ls hl => ?_)
                refine lv_goto (tgt := 63) hx hb d_M_arrival_218 (by decide) ?_
                exact ih x_55 I F_18 G_54 _ _ ls h hw (lv_sub hl [4, 5, 6, 0] rfl)
          · replace h := h.2 c_22
            refine lv_goto (tgt := 215) hx hb d_M_arrival_116 (by decide) ?_
            obtain ⟨x_56, ex_56⟩ : ∃ y : Int32, y = a3 + 1 := ⟨_, rfl⟩
            replace h := h x_56 ex_56
            refine lv_iinc (v := x_56) (lv' := [(3, .int x_56), (4, .int r_21), (0, .ref (cA L 0)), (1, .int a1), (2, .int a2)]) hx hb d_M_arrival_215 hl (k := 4) rfl (by rw [ex_56]; rfl) (by decide) rfl (fun ls hl => ?_)
            refine lv_goto (tgt := 63) hx hb d_M_arrival_218 (by decide) ?_
            exact ih x_56 I F_18 G_20 _ _ ls h hw (lv_sub hl [2, 3, 4, 0] rfl)
        · replace h := h.2 c_16
          refine lv_goto (tgt := 215) hx hb d_M_arrival_86 (by decide) ?_
          obtain ⟨x_57, ex_57⟩ : ∃ y : Int32, y = a3 + 1 := ⟨_, rfl⟩
          replace h := h x_57 ex_57
          refine lv_iinc (v := x_57) (lv' := [(3, .int x_57), (0, .ref (cA L 0)), (1, .int a1), (2, .int a2)]) hx hb d_M_arrival_215 hl (k := 3) rfl (by rw [ex_57]; rfl) (by decide) rfl (fun ls hl => ?_)
          refine lv_goto (tgt := 63) hx hb d_M_arrival_218 (by decide) ?_
          exact ih x_57 I F G _ _ ls h hw (lv_sub hl [1, 2, 3, 0] rfl)
set_option maxHeartbeats 4000000 in
set_option maxRecDepth 100000 in
theorem Wl_M_arrival_55 {p : Program} {l : Launch} {e : Env} {s : State} {m : MethodId} {args : Array Value} {below : List Frame} {meth : Method} {c : Code} {L : cL} {A : Nat → Prop} {post : UInt64 → MI → MF → MG → Prop} {K : Int32 → MI → MF → MG → Prop} {a1 : Int32} (xc : xC p s m args meth c b_M_arrival 9 lwG qR5 (some .double)) (hK : va_K L.1 vwCl (mTys L) s) (hN : mNk s) (hA : ∀ q, s.heap.size ≤ q → A q)
    (hk : ∀ (a2 : Int32) (I : MI) (F : MF) (G : MG) (H : Heap) (locs : List Loc) (ls : Array Slot), K a2 I F G → MW L A s.heap I F G H locs → lv_has ls 9 [(0, .ref (cA L 0)), (1, .int a1), (2, .int a2)] → W p l e rm_M_arrival s m args below meth c H locs 0 0 (MQ below (mQd L A post A) args s 0 0 A) (F0 m 227 ls [])) :
    ∀ (n : Nat) (a2 : Int32) (I : MI) (F : MF) (G : MG) (H : Heap) (locs : List Loc) (ls : Array Slot), wl_M_arrival_55 post K a1 n a2 I F G → MW L A s.heap I F G H locs → lv_has ls 9 [(0, .ref (cA L 0)), (1, .int a1), (2, .int a2)] → W p l e rm_M_arrival s m args below meth c H locs 0 0 (MQ below (mQd L A post A) args s 0 0 A) (F0 m 55 ls []) := by
  obtain ⟨hx, hb, hml, hown, hts, hr, hlocks⟩ := id xc
  intro n
  induction n with
  | zero => intro a2 I F G H locs ls h; exact absurd h id
  | succ n ih =>
    intro a2 I F G H locs ls h hw hl
    refine lv_iload_n hx hb d_M_arrival_55 rfl (lv_at hl 2 rfl) ?_
    refine lv_bipush (v := 13) hx hb d_M_arrival_56 (by decide) ?_
    refine lv_icmp_ge (tgt := 227) hx hb d_M_arrival_58 (by decide) (fun c_10 => ?_) (fun c_10 => ?_)
    · replace h := h.1 c_10
      exact hk a2 I F G _ _ ls h hw (lv_sub hl [0, 1, 2] rfl)
    · replace h := h.2 c_10
      refine lv_iconst (v := 0) hx hb d_M_arrival_61 (by decide) ?_
      refine lv_istore_n (lv' := [(3, .int 0), (0, .ref (cA L 0)), (1, .int a1), (2, .int a2)]) hx hb d_M_arrival_62 rfl hl (by decide) rfl (fun ls hl => ?_)
      obtain ⟨n_61, h⟩ := h
      refine Wl_M_arrival_63 xc hK hN hA (hk := fun x_58 I_59 F_59 G_59 H locs ls h hw hl => ?_) n_61 0 I F G _ _ ls h hw (lv_sub hl [1, 2, 3, 0] rfl)
      obtain ⟨x_60, ex_60⟩ : ∃ y : Int32, y = a2 + 1 := ⟨_, rfl⟩
      replace h := h x_60 ex_60
      refine lv_iinc (v := x_60) (lv' := [(2, .int x_60), (0, .ref (cA L 0)), (1, .int a1), (3, .int x_58)]) hx hb d_M_arrival_221 hl (k := 2) rfl (by rw [ex_60]; rfl) (by decide) rfl (fun ls hl => ?_)
      refine lv_goto (tgt := 55) hx hb d_M_arrival_224 (by decide) ?_
      exact ih x_60 I_59 F_59 G_59 _ _ ls h hw (lv_sub hl [1, 2, 0] rfl)
set_option maxHeartbeats 4000000 in
set_option maxRecDepth 100000 in
theorem c_M_arrival (l : Launch) (L : cL) (a1 : Int32) (I : MI) (F : MF) (G : MG) (sz : Nat) (post : UInt64 → MI → MF → MG → Prop) (h : wp_M_arrival a1 I F G post) : Met l y_M_arrival (.code y_M_arrival b_M_arrival 9 (some .double) :: lwG) rm_M_arrival (mPm L I F G sz [.ref (cA L 0), .int a1]) (mQd L (mAA L I F G sz) post (mAA L I F G sz)) 0 0 (mAA L I F G sz) := by
  refine Met.ofW (cc := b_M_arrival) (maxL := 9) (ret := (some .double)) (by decide) rfl ?_
  intro p e s m args below meth c s₁ B hml hv
  obtain ⟨rfl, hsz, hP, hK, hD0, hN⟩ := hv
  have xc : xC p s m _ meth c b_M_arrival 9 lwG qR5 (some .double) := ⟨B.exec, B.bytes, hml, findClass_of_methodNamed B.named, fun w h => atoms_spec (ws := (.code y_M_arrival b_M_arrival 9 (some .double) :: lwG)) B.pre w (List.mem_cons_of_mem _ h), B.returns, B.notSynchronized⟩
  obtain ⟨hx, hb, hml, hown, hts, hr, hlocks⟩ := id xc
  subst hsz
  have hD : va_D (mAA L I F G s.heap.size) (WM L I F G) := hD0.self
  have hA0 : ∀ q : Nat, s.heap.size ≤ q → mAA L I F G s.heap.size q := fun q h => Or.inr h
  generalize mAA L I F G s.heap.size = A at hD hA0 ⊢
  have hA := hA0
  have hw : MW L A s.heap I F G s.heap [] := ⟨hP, hD, va_S.rf⟩
  have hl := lv_entry ([.ref (cA L 0), .int a1]) (n := 9) (Nat.le_of_ble_eq_true rfl)
  rw [lg_entry_eq]
  generalize (lg_sl ([.ref (cA L 0), .int a1]) ++ List.replicate (9 - (lg_sl ([.ref (cA L 0), .int a1])).length) Slot.unset).toArray = ls at hl ⊢
  have hl : lv_has ls 9 [(0, .ref (cA L 0)), (1, .int a1)] := hl
  refine lv_iload_n hx hb d_M_arrival_0 rfl (lv_at hl 1 rfl) ?_
  refine lv_iconst (v := 0) hx hb d_M_arrival_1 (by decide) ?_
  refine lv_bipush (v := 11) hx hb d_M_arrival_2 (by decide) ?_
  refine vp_callSi (va_runS (As := [.int a1, .int 0, .int 11]) (rest := []) ⟨hx, hb, hml, hown, hts⟩ (c_M_in l a1 0 11 _ h) (va_cwS 3 hts (gS wG790 wG791 wG54 wG792) rfl rfl rfl (by decide +kernel) ⟨Nat.le_of_ble_eq_true rfl, Nat.le_of_ble_eq_true rfl⟩) ⟨sPc_blind _, fun U hU hW => ⟨rfl, trivial⟩⟩ rfl rfl hl.1 rfl (lv_room (Nat.le_of_ble_eq_true rfl)) d_M_arrival_4 ⟨Nat.le_of_ble_eq_true rfl, Nat.le_of_ble_eq_true rfl⟩).run (fun r_1 h => ?_)
  refine lv_if_ne (tgt := 17) hx hb d_M_arrival_7 (by decide) (fun c_2 => ?_) (fun c_2 => ?_)
  · replace h := h.1 c_2
    refine lv_aload_n hx hb d_M_arrival_17 rfl (lv_at hl 0 rfl) ?_
    refine va_get (D := L.1) (ci := 5) (v := .int (I 2)) (C := qR5) (T := qT5) (N := 16) hx hb hts qi5 hown hK hw.1 0 rfl rfl 2 (by decide) (hts _ wG734) (fun _ h9 => h9) rfl d_M_arrival_18 ?_
    refine lv_iconst (v := (-1)) hx hb d_M_arrival_21 (by decide) ?_
    refine lv_icmp_ne (tgt := 32) hx hb d_M_arrival_22 (by decide) (fun c_3 => ?_) (fun c_3 => ?_)
    · replace h := h.1 c_3
      refine lv_iconst (v := 0) hx hb d_M_arrival_32 (by decide) ?_
      refine lv_istore_n (lv' := [(2, .int 0), (0, .ref (cA L 0)), (1, .int a1)]) hx hb d_M_arrival_33 rfl hl (by decide) rfl (fun ls hl => ?_)
      obtain ⟨n_71, h⟩ := h
      refine Wl_M_arrival_34 xc hK hN hA (hk := fun x_8 I_9 F_9 G_9 H locs ls h hw hl => ?_) n_71 0 I F G _ _ ls h hw (lv_sub hl [1, 2, 0] rfl)
      refine lv_iconst (v := 0) hx hb d_M_arrival_53 (by decide) ?_
      refine lv_istore_n (lv' := [(2, .int 0), (0, .ref (cA L 0)), (1, .int a1)]) hx hb d_M_arrival_54 rfl hl (by decide) rfl (fun ls hl => ?_)
      obtain ⟨n_70, h⟩ := h
      refine Wl_M_arrival_55 xc hK hN hA (hk := fun x_62 I_63 F_63 G_63 H locs ls h hw hl => ?_) n_70 0 I_9 F_9 G_9 _ _ ls h hw (lv_sub hl [1, 2, 0] rfl)
      refine lv_aload_n hx hb d_M_arrival_227 rfl (lv_at hl 0 rfl) ?_
      refine va_get (D := L.1) (ci := 5) (v := .ref (cA L 13)) (C := qR5) (T := qT5) (N := 16) hx hb hts qi5 hown hK hw.1 0 rfl rfl 15 (by decide) (hts _ wG747) (fun _ h9 => h9) rfl d_M_arrival_228 ?_
      refine lv_iload_n hx hb d_M_arrival_231 rfl (lv_at hl 1 rfl) ?_
      obtain ⟨hi_64, h⟩ := h
      refine va_zald hx hb hK hw.1 13 2 rfl rfl hi_64 d_M_arrival_232 ?_
      refine lv_if_ne (tgt := 243) hx hb d_M_arrival_233 (by decide) (fun c_65 => ?_) (fun c_65 => ?_)
      · replace h := h.1 c_65
        refine lv_aload_n hx hb d_M_arrival_243 rfl (lv_at hl 0 rfl) ?_
        refine lv_iconst (v := 0) hx hb d_M_arrival_244 (by decide) ?_
        refine va_put (D := L.1) (ci := 5) (v := .int 0) (ty := .int) (C := qR5) (T := qT5) (N := 16) hx hb hts qi5 qy5 qk5 qn5 hown hK hw.1 hw.2.1 hw.2.2 0 rfl rfl 0 (by decide) (hts _ wG732) (fun _ h9 => h9) rfl (by decide +kernel) rfl rfl (Nat.le_of_ble_eq_true rfl) d_M_arrival_245 (fun H locs h1 h2 h3 => ?_)
        replace hw : MW L A s.heap (setI I_63 0 0) F_63 G_63 H locs := ⟨h1, h2, h3⟩
        clear h1 h2 h3
        obtain ⟨I_66, eI_66⟩ : ∃ y : MI, y = setI I_63 0 0 := ⟨_, rfl⟩
        rw [← eI_66] at hw
        replace h := h I_66 eI_66
        refine lv_aload_n hx hb d_M_arrival_248 rfl (lv_at hl 0 rfl) ?_
        refine va_get (D := L.1) (ci := 5) (v := .ref (cA L 12)) (C := qR5) (T := qT5) (N := 16) hx hb hts qi5 hown hK hw.1 0 rfl rfl 14 (by decide) (hts _ wG746) (fun _ h9 => h9) rfl d_M_arrival_249 ?_
        refine lv_iload_n hx hb d_M_arrival_252 rfl (lv_at hl 1 rfl) ?_
        obtain ⟨hi_67, h⟩ := h
        refine va_dald hx hb hK hw.1 12 1 rfl rfl hi_67 d_M_arrival_253 ?_
        exact W.dret hx hb hr (fun t ht hW => ⟨⟨_, (I_66, F_63, G_63), rfl, h, by rw [ht]; exact hw.1, va_K.moved hW.alike hK, hw.2.1⟩, hw.2.2.F ht⟩) hw.2.2.2.2 d_M_arrival_254
      · replace h := h.2 c_65
        refine lv_aload_n hx hb d_M_arrival_236 rfl (lv_at hl 0 rfl) ?_
        refine lv_iconst (v := 3) hx hb d_M_arrival_237 (by decide) ?_
        refine m_calli (va_runV (As := [.int 3]) (rest := []) ⟨hx, hb, hml, hown, hts⟩ (c_M_refuse l L 3 I_63 F_63 G_63 _ _ h) (cwV 1 hts (gV wG793 wG795 wG20 wG54 wG796) rfl rfl rfl (by decide +kernel) ⟨Nat.le_of_ble_eq_true rfl, Nat.le_of_ble_eq_true rfl⟩) (mPrm hK hN hw) rfl rfl hl.1 rfl (lv_room (Nat.le_of_ble_eq_true rfl)) d_M_arrival_238 ⟨Nat.le_of_ble_eq_true rfl, Nat.le_of_ble_eq_true rfl⟩) hw hA (fun r_68 I_69 F_69 G_69 H locs h hw => ?_)
        refine lv_i2d hx hb d_M_arrival_241 ?_
        exact W.dret hx hb hr (fun t ht hW => ⟨⟨_, (I_69, F_69, G_69), rfl, h, by rw [ht]; exact hw.1, va_K.moved hW.alike hK, hw.2.1⟩, hw.2.2.F ht⟩) hw.2.2.2.2 d_M_arrival_242
    · replace h := h.2 c_3
      refine lv_aload_n hx hb d_M_arrival_25 rfl (lv_at hl 0 rfl) ?_
      refine lv_iconst (v := 2) hx hb d_M_arrival_26 (by decide) ?_
      refine m_calli (va_runV (As := [.int 2]) (rest := []) ⟨hx, hb, hml, hown, hts⟩ (c_M_refuse l L 2 I F G _ _ h) (cwV 1 hts (gV wG793 wG795 wG20 wG54 wG796) rfl rfl rfl (by decide +kernel) ⟨Nat.le_of_ble_eq_true rfl, Nat.le_of_ble_eq_true rfl⟩) (mPrm hK hN hw) rfl rfl hl.1 rfl (lv_room (Nat.le_of_ble_eq_true rfl)) d_M_arrival_27 ⟨Nat.le_of_ble_eq_true rfl, Nat.le_of_ble_eq_true rfl⟩) hw hA (fun r_72 I_73 F_73 G_73 H locs h hw => ?_)
      refine lv_i2d hx hb d_M_arrival_30 ?_
      exact W.dret hx hb hr (fun t ht hW => ⟨⟨_, (I_73, F_73, G_73), rfl, h, by rw [ht]; exact hw.1, va_K.moved hW.alike hK, hw.2.1⟩, hw.2.2.F ht⟩) hw.2.2.2.2 d_M_arrival_31
  · replace h := h.2 c_2
    refine lv_aload_n hx hb d_M_arrival_10 rfl (lv_at hl 0 rfl) ?_
    refine lv_iconst (v := 1) hx hb d_M_arrival_11 (by decide) ?_
    refine m_calli (va_runV (As := [.int 1]) (rest := []) ⟨hx, hb, hml, hown, hts⟩ (c_M_refuse l L 1 I F G _ _ h) (cwV 1 hts (gV wG793 wG795 wG20 wG54 wG796) rfl rfl rfl (by decide +kernel) ⟨Nat.le_of_ble_eq_true rfl, Nat.le_of_ble_eq_true rfl⟩) (mPrm hK hN hw) rfl rfl hl.1 rfl (lv_room (Nat.le_of_ble_eq_true rfl)) d_M_arrival_12 ⟨Nat.le_of_ble_eq_true rfl, Nat.le_of_ble_eq_true rfl⟩) hw hA (fun r_74 I_75 F_75 G_75 H locs h hw => ?_)
    refine lv_i2d hx hb d_M_arrival_15 ?_
    exact W.dret hx hb hr (fun t ht hW => ⟨⟨_, (I_75, F_75, G_75), rfl, h, by rw [ht]; exact hw.1, va_K.moved hW.alike hK, hw.2.1⟩, hw.2.2.F ht⟩) hw.2.2.2.2 d_M_arrival_16
abbrev rm_M_simulate : Room := { frames := 2, cells := 0, slots := 0, locals := 44 }
set_option maxHeartbeats 4000000 in
set_option maxRecDepth 100000 in
theorem Wl_M_simulate_7 {p : Program} {l : Launch} {e : Env} {s : State} {m : MethodId} {args : Array Value} {below : List Frame} {meth : Method} {c : Code} {L : cL} {A : Nat → Prop} {post : Int32 → MI → MF → MG → Prop} {K : Int32 → MI → MF → MG → Prop} {a1 : Int32} {a2 : Int32} {a3 : Int32} (xc : xC p s m args meth c b_M_simulate 10 lwG qR5 (some .int)) (hK : va_K L.1 vwCl (mTys L) s) (hN : mNk s) (hA : ∀ q, s.heap.size ≤ q → A q)
    (hk : ∀ (a4 : Int32) (I : MI) (F : MF) (G : MG) (H : Heap) (locs : List Loc) (ls : Array Slot), K a4 I F G → MW L A s.heap I F G H locs → lv_has ls 10 [(0, .ref (cA L 0)), (1, .int a1), (2, .int a2), (3, .int a3), (4, .int a4)] → W p l e rm_M_simulate s m args below meth c H locs 0 0 (MQ below (mQi L A post A) args s 0 0 A) (F0 m 28 ls [])) :
    ∀ (n : Nat) (a4 : Int32) (I : MI) (F : MF) (G : MG) (H : Heap) (locs : List Loc) (ls : Array Slot), wl_M_simulate_7 post K a1 a2 a3 n a4 I F G → MW L A s.heap I F G H locs → lv_has ls 10 [(0, .ref (cA L 0)), (1, .int a1), (2, .int a2), (3, .int a3), (4, .int a4)] → W p l e rm_M_simulate s m args below meth c H locs 0 0 (MQ below (mQi L A post A) args s 0 0 A) (F0 m 7 ls []) := by
  obtain ⟨hx, hb, hml, hown, hts, hr, hlocks⟩ := id xc
  intro n
  induction n with
  | zero => intro a4 I F G H locs ls h; exact absurd h id
  | succ n ih =>
    intro a4 I F G H locs ls h hw hl
    refine lv_iload hx hb d_M_simulate_7 (lv_at hl 4 rfl) ?_
    refine lv_bipush (v := 12) hx hb d_M_simulate_9 (by decide) ?_
    refine lv_icmp_ge (tgt := 28) hx hb d_M_simulate_11 (by decide) (fun c_1 => ?_) (fun c_1 => ?_)
    · replace h := h.1 c_1
      exact hk a4 I F G _ _ ls h hw (lv_sub hl [0, 1, 2, 3, 4] rfl)
    · replace h := h.2 c_1
      refine lv_aload_n hx hb d_M_simulate_14 rfl (lv_at hl 0 rfl) ?_
      refine va_get (D := L.1) (ci := 5) (v := .ref (cA L 13)) (C := qR5) (T := qT5) (N := 16) hx hb hts qi5 hown hK hw.1 0 rfl rfl 15 (by decide) (hts _ wG747) (fun _ h9 => h9) rfl d_M_simulate_15 ?_
      refine lv_iload hx hb d_M_simulate_18 (lv_at hl 4 rfl) ?_
      refine lv_iconst (v := 0) hx hb d_M_simulate_20 (by decide) ?_
      obtain ⟨hi_2, h⟩ := h
      refine m_zast hx hb hK hw 10 13 rfl (fun _ => rfl) hi_2 (y := 0) rfl d_M_simulate_21 (fun H locs hw => ?_)
      obtain ⟨F_3, eF_3⟩ : ∃ y : MF, y = setF F 10 (upd (F 10) a4.toNatClampNeg 0) := ⟨_, rfl⟩
      rw [← eF_3] at hw
      replace h := h F_3 eF_3
      obtain ⟨x_4, ex_4⟩ : ∃ y : Int32, y = a4 + 1 := ⟨_, rfl⟩
      replace h := h x_4 ex_4
      refine lv_iinc (v := x_4) (lv' := [(4, .int x_4), (0, .ref (cA L 0)), (1, .int a1), (2, .int a2), (3, .int a3)]) hx hb d_M_simulate_22 hl (k := 4) rfl (by rw [ex_4]; rfl) (by decide) rfl (fun ls hl => ?_)
      refine lv_goto (tgt := 7) hx hb d_M_simulate_25 (by decide) ?_
      exact ih x_4 I F_3 G _ _ ls h hw (lv_sub hl [1, 2, 3, 4, 0] rfl)
set_option maxHeartbeats 4000000 in
set_option maxRecDepth 100000 in
theorem Wl_M_simulate_41 {p : Program} {l : Launch} {e : Env} {s : State} {m : MethodId} {args : Array Value} {below : List Frame} {meth : Method} {c : Code} {L : cL} {A : Nat → Prop} {post : Int32 → MI → MF → MG → Prop} {K : Int32 → Int32 → Int32 → MI → MF → MG → Prop} {a1 : Int32} {a4 : Int32} (xc : xC p s m args meth c b_M_simulate 10 lwG qR5 (some .int)) (hK : va_K L.1 vwCl (mTys L) s) (hN : mNk s) (hA : ∀ q, s.heap.size ≤ q → A q)
    (hk : ∀ (a2 : Int32) (a3 : Int32) (a5 : Int32) (I : MI) (F : MF) (G : MG) (H : Heap) (locs : List Loc) (ls : Array Slot), K a2 a3 a5 I F G → MW L A s.heap I F G H locs → lv_has ls 10 [(0, .ref (cA L 0)), (1, .int a1), (2, .int a2), (3, .int a3), (4, .int a4), (5, .int a5)] → W p l e rm_M_simulate s m args below meth c H locs 0 0 (MQ below (mQi L A post A) args s 0 0 A) (F0 m 221 ls [])) :
    ∀ (n : Nat) (a2 : Int32) (a3 : Int32) (a5 : Int32) (I : MI) (F : MF) (G : MG) (H : Heap) (locs : List Loc) (ls : Array Slot), wl_M_simulate_41 post K a1 a4 n a2 a3 a5 I F G → MW L A s.heap I F G H locs → lv_has ls 10 [(0, .ref (cA L 0)), (1, .int a1), (2, .int a2), (3, .int a3), (4, .int a4), (5, .int a5)] → W p l e rm_M_simulate s m args below meth c H locs 0 0 (MQ below (mQi L A post A) args s 0 0 A) (F0 m 41 ls []) := by
  obtain ⟨hx, hb, hml, hown, hts, hr, hlocks⟩ := id xc
  intro n
  induction n with
  | zero => intro a2 a3 a5 I F G H locs ls h; exact absurd h id
  | succ n ih =>
    intro a2 a3 a5 I F G H locs ls h hw hl
    refine lv_iload hx hb d_M_simulate_41 (lv_at hl 5 rfl) ?_
    refine lv_bipush (v := 12) hx hb d_M_simulate_43 (by decide) ?_
    refine lv_icmp_ge (tgt := 221) hx hb d_M_simulate_45 (by decide) (fun c_8 => ?_) (fun c_8 => ?_)
    · replace h := h.1 c_8
      exact hk a2 a3 a5 I F G _ _ ls h hw (lv_sub hl [0, 1, 2, 3, 4, 5] rfl)
    · replace h := h.2 c_8
      refine lv_aload_n hx hb d_M_simulate_48 rfl (lv_at hl 0 rfl) ?_
      refine va_get (D := L.1) (ci := 5) (v := .ref (cA L 13)) (C := qR5) (T := qT5) (N := 16) hx hb hts qi5 hown hK hw.1 0 rfl rfl 15 (by decide) (hts _ wG747) (fun _ h9 => h9) rfl d_M_simulate_49 ?_
      refine lv_iload hx hb d_M_simulate_52 (lv_at hl 5 rfl) ?_
      obtain ⟨hi_9, h⟩ := h
      refine va_zald hx hb hK hw.1 13 2 rfl rfl hi_9 d_M_simulate_54 ?_
      refine lv_if_ne (tgt := 215) hx hb d_M_simulate_55 (by decide) (fun c_10 => ?_) (fun c_10 => ?_)
      · replace h := h.1 c_10
        obtain ⟨x_11, ex_11⟩ : ∃ y : Int32, y = a5 + 1 := ⟨_, rfl⟩
        replace h := h x_11 ex_11
        refine lv_iinc (v := x_11) (lv' := [(5, .int x_11), (0, .ref (cA L 0)), (1, .int a1), (2, .int a2), (3, .int a3), (4, .int a4)]) hx hb d_M_simulate_215 hl (k := 5) rfl (by rw [ex_11]; rfl) (by decide) rfl (fun ls hl => ?_)
        refine lv_goto (tgt := 41) hx hb d_M_simulate_218 (by decide) ?_
        exact ih a2 a3 x_11 I F G _ _ ls h hw (lv_sub hl [1, 2, 3, 4, 5, 0] rfl)
      · replace h := h.2 c_10
        refine lv_aload_n hx hb d_M_simulate_58 rfl (lv_at hl 0 rfl) ?_
        refine lv_iload hx hb d_M_simulate_59 (lv_at hl 5 rfl) ?_
        refine vp_callSi (va_runV (As := [.int a5]) (rest := []) ⟨hx, hb, hml, hown, hts⟩ (c_M_isReady l L a5 I F G _ h) (cwV 1 hts (gV wG944 wG946 wG46 wG54 wG947) rfl rfl rfl (by decide +kernel) ⟨Nat.le_of_ble_eq_true rfl, Nat.le_of_ble_eq_true rfl⟩) (mPre hK hN hw.1) rfl rfl hl.1 rfl (lv_room (Nat.le_of_ble_eq_true rfl)) d_M_simulate_61 ⟨Nat.le_of_ble_eq_true rfl, Nat.le_of_ble_eq_true rfl⟩).run (fun r_12 h => ?_)
        refine lv_if_ne (tgt := 70) hx hb d_M_simulate_64 (by decide) (fun c_13 => ?_) (fun c_13 => ?_)
        · replace h := h.1 c_13
          refine lv_aload_n hx hb d_M_simulate_70 rfl (lv_at hl 0 rfl) ?_
          refine va_get (D := L.1) (ci := 5) (v := .ref (cA L 13)) (C := qR5) (T := qT5) (N := 16) hx hb hts qi5 hown hK hw.1 0 rfl rfl 15 (by decide) (hts _ wG747) (fun _ h9 => h9) rfl d_M_simulate_71 ?_
          refine lv_iload hx hb d_M_simulate_74 (lv_at hl 5 rfl) ?_
          refine lv_iconst (v := 1) hx hb d_M_simulate_76 (by decide) ?_
          obtain ⟨hi_14, h⟩ := h
          refine m_zast hx hb hK hw 10 13 rfl (fun _ => rfl) hi_14 (y := 1) rfl d_M_simulate_77 (fun H locs hw => ?_)
          obtain ⟨F_15, eF_15⟩ : ∃ y : MF, y = setF F 10 (upd (F 10) a5.toNatClampNeg 1) := ⟨_, rfl⟩
          rw [← eF_15] at hw
          replace h := h F_15 eF_15
          obtain ⟨x_16, ex_16⟩ : ∃ y : Int32, y = a3 + 1 := ⟨_, rfl⟩
          replace h := h x_16 ex_16
          refine lv_iinc (v := x_16) (lv' := [(3, .int x_16), (0, .ref (cA L 0)), (1, .int a1), (2, .int a2), (4, .int a4), (5, .int a5)]) hx hb d_M_simulate_78 hl (k := 3) rfl (by rw [ex_16]; rfl) (by decide) rfl (fun ls hl => ?_)
          refine lv_aload_n hx hb d_M_simulate_81 rfl (lv_at hl 1 rfl) ?_
          refine lv_iload hx hb d_M_simulate_82 (lv_at hl 5 rfl) ?_
          refine vp_callSi (va_runV (As := [.int a5]) (rest := []) ⟨hx, hb, hml, hown, hts⟩ (c_M_driver l L a5 I F_15 G _ h) (cwV 1 hts (gV wG797 wG799 wG21 wG54 wG800) rfl rfl rfl (by decide +kernel) ⟨Nat.le_of_ble_eq_true rfl, Nat.le_of_ble_eq_true rfl⟩) (mPre hK hN hw.1) rfl rfl hl.1 rfl (lv_room (Nat.le_of_ble_eq_true rfl)) d_M_simulate_84 ⟨Nat.le_of_ble_eq_true rfl, Nat.le_of_ble_eq_true rfl⟩).run (fun r_17 h => ?_)
          refine lv_istore (lv' := [(6, .int r_17), (3, .int x_16), (0, .ref (cA L 0)), (1, .int a1), (2, .int a2), (4, .int a4), (5, .int a5)]) hx hb d_M_simulate_87 hl (by decide) rfl (fun ls hl => ?_)
          refine lv_iload_n hx hb d_M_simulate_89 rfl (lv_at hl 3 rfl) ?_
          refine lv_iload hx hb d_M_simulate_90 (lv_at hl 6 rfl) ?_
          refine lv_ishr hx hb d_M_simulate_92 ?_
          refine lv_iconst (v := 1) hx hb d_M_simulate_93 (by decide) ?_
          refine lv_iand hx hb d_M_simulate_94 ?_
          refine lv_topi (fun x_18 ex_18 => ?_)
          replace h := h x_18 ex_18
          refine lv_istore (lv' := [(7, .int x_18), (6, .int r_17), (3, .int x_16), (0, .ref (cA L 0)), (1, .int a1), (2, .int a2), (4, .int a4), (5, .int a5)]) hx hb d_M_simulate_95 hl (by decide) rfl (fun ls hl => ?_)
          refine lv_iload hx hb d_M_simulate_97 (lv_at hl 1 rfl) ?_
          refine lv_iconst (v := (-1)) hx hb d_M_simulate_99 (by decide) ?_
          refine lv_icmp_eq (tgt := 207) hx hb d_M_simulate_100 (by decide) (fun c_19 => ?_) (fun c_19 => ?_)
          · replace h := h.1 c_19
            refine lv_iload_n hx hb d_M_simulate_207 rfl (lv_at hl 5 rfl) ?_
            refine lv_iload hx hb d_M_simulate_208 (lv_at hl 0 rfl) ?_
            refine lv_iload hx hb d_M_simulate_210 (lv_at hl 7 rfl) ?_
            refine lv_ishl hx hb d_M_simulate_212 ?_
            refine lv_ior hx hb d_M_simulate_213 ?_
            refine lv_topi (fun x_20 ex_20 => ?_)
            replace h := h x_20 ex_20
            refine lv_istore_n (lv' := [(2, .int x_20), (7, .int x_18), (6, .int r_17), (3, .int x_16), (0, .ref (cA L 0)), (1, .int a1), (4, .int a4), (5, .int a5)]) hx hb d_M_simulate_214 rfl hl (by decide) rfl (fun ls hl => ?_)
            obtain ⟨x_21, ex_21⟩ : ∃ y : Int32, y = a5 + 1 := ⟨_, rfl⟩
            replace h := h x_21 ex_21
            refine lv_iinc (v := x_21) (lv' := [(5, .int x_21), (2, .int x_20), (7, .int x_18), (6, .int r_17), (3, .int x_16), (0, .ref (cA L 0)), (1, .int a1), (4, .int a4)]) hx hb d_M_simulate_215 hl (k := 7) rfl (by rw [ex_21]; rfl) (by decide) rfl (fun ls hl => ?_)
            refine lv_goto (tgt := 41) hx hb d_M_simulate_218 (by decide) ?_
            exact ih x_20 x_16 x_21 I F_15 G _ _ ls h hw (lv_sub hl [5, 6, 1, 4, 7, 0] rfl)
          · replace h := h.2 c_19
            refine lv_iload_n hx hb d_M_simulate_103 rfl (lv_at hl 5 rfl) ?_
            refine lv_aload_n hx hb d_M_simulate_104 rfl (lv_at hl 3 rfl) ?_
            refine va_get (D := L.1) (ci := 5) (v := .ref (cA L 2)) (C := qR5) (T := qT5) (N := 16) hx hb hts qi5 hown hK hw.1 0 rfl rfl 4 (by decide) (hts _ wG736) (fun _ h9 => h9) rfl d_M_simulate_105 ?_
            refine lv_iload hx hb d_M_simulate_108 (lv_at hl 1 rfl) ?_
            obtain ⟨hi_22, h⟩ := h
            refine va_iald hx hb hK hw.1 2 0 rfl rfl hi_22 d_M_simulate_110 ?_
            refine lv_ishr hx hb d_M_simulate_111 ?_
            refine lv_iconst (v := 1) hx hb d_M_simulate_112 (by decide) ?_
            refine lv_iand hx hb d_M_simulate_113 ?_
            refine lv_topi (fun x_23 ex_23 => ?_)
            replace h := h x_23 ex_23
            refine lv_istore (lv' := [(8, .int x_23), (7, .int x_18), (6, .int r_17), (3, .int x_16), (0, .ref (cA L 0)), (1, .int a1), (2, .int a2), (4, .int a4), (5, .int a5)]) hx hb d_M_simulate_114 hl (by decide) rfl (fun ls hl => ?_)
            refine lv_aload_n hx hb d_M_simulate_116 rfl (lv_at hl 4 rfl) ?_
            refine va_get (D := L.1) (ci := 5) (v := .ref (cA L 1)) (C := qR5) (T := qT5) (N := 16) hx hb hts qi5 hown hK hw.1 0 rfl rfl 3 (by decide) (hts _ wG735) (fun _ h9 => h9) rfl d_M_simulate_117 ?_
            refine lv_iload hx hb d_M_simulate_120 (lv_at hl 2 rfl) ?_
            obtain ⟨hi_24, h⟩ := h
            refine va_iald hx hb hK hw.1 1 0 rfl rfl hi_24 d_M_simulate_122 ?_
            refine lv_iconst (v := 1) hx hb d_M_simulate_123 (by decide) ?_
            refine lv_icmp_le (tgt := 141) hx hb d_M_simulate_124 (by decide) (fun c_25 => ?_) (fun c_25 => ?_)
            · replace h := h.1 c_25
              refine lv_iconst (v := 0) hx hb d_M_simulate_141 (by decide) ?_
              refine lv_istore (lv' := [(9, .int 0), (8, .int x_23), (7, .int x_18), (6, .int r_17), (3, .int x_16), (0, .ref (cA L 0)), (1, .int a1), (2, .int a2), (4, .int a4), (5, .int a5)]) hx hb d_M_simulate_142 hl (by decide) rfl (fun ls hl => ?_)
              refine lv_aload_n hx hb d_M_simulate_144 rfl (lv_at hl 5 rfl) ?_
              refine va_get (D := L.1) (ci := 5) (v := .ref (cA L 1)) (C := qR5) (T := qT5) (N := 16) hx hb hts qi5 hown hK hw.1 0 rfl rfl 3 (by decide) (hts _ wG735) (fun _ h9 => h9) rfl d_M_simulate_145 ?_
              refine lv_iload hx hb d_M_simulate_148 (lv_at hl 3 rfl) ?_
              obtain ⟨hi_26, h⟩ := h
              refine va_iald hx hb hK hw.1 1 0 rfl rfl hi_26 d_M_simulate_150 ?_
              refine lv_if_ne (tgt := 161) hx hb d_M_simulate_151 (by decide) (fun c_27 => ?_) (fun c_27 => ?_)
              · replace h := h.1 c_27
                refine lv_aload_n hx hb d_M_simulate_161 rfl (lv_at hl 5 rfl) ?_
                refine va_get (D := L.1) (ci := 5) (v := .ref (cA L 1)) (C := qR5) (T := qT5) (N := 16) hx hb hts qi5 hown hK hw.1 0 rfl rfl 3 (by decide) (hts _ wG735) (fun _ h9 => h9) rfl d_M_simulate_162 ?_
                refine lv_iload hx hb d_M_simulate_165 (lv_at hl 3 rfl) ?_
                obtain ⟨hi_28, h⟩ := h
                refine va_iald hx hb hK hw.1 1 0 rfl rfl hi_28 d_M_simulate_167 ?_
                refine lv_iconst (v := 1) hx hb d_M_simulate_168 (by decide) ?_
                refine lv_icmp_ne (tgt := 177) hx hb d_M_simulate_169 (by decide) (fun c_29 => ?_) (fun c_29 => ?_)
                · replace h := h.1 c_29
                  refine lv_aload_n hx hb d_M_simulate_177 rfl (lv_at hl 5 rfl) ?_
                  refine va_get (D := L.1) (ci := 5) (v := .ref (cA L 1)) (C := qR5) (T := qT5) (N := 16) hx hb hts qi5 hown hK hw.1 0 rfl rfl 3 (by decide) (hts _ wG735) (fun _ h9 => h9) rfl d_M_simulate_178 ?_
                  refine lv_iload hx hb d_M_simulate_181 (lv_at hl 3 rfl) ?_
                  obtain ⟨hi_30, h⟩ := h
                  refine va_iald hx hb hK hw.1 1 0 rfl rfl hi_30 d_M_simulate_183 ?_
                  refine lv_iconst (v := 2) hx hb d_M_simulate_184 (by decide) ?_
                  refine lv_icmp_ne (tgt := 198) hx hb d_M_simulate_185 (by decide) (fun c_31 => ?_) (fun c_31 => ?_)
                  · replace h := h.1 c_31
                    refine lv_iconst (v := 1) hx hb d_M_simulate_198 (by decide) ?_
                    refine lv_iload hx hb d_M_simulate_199 (lv_at hl 1 rfl) ?_
                    refine lv_iload hx hb d_M_simulate_201 (lv_at hl 0 rfl) ?_
                    refine lv_ior hx hb d_M_simulate_203 ?_
                    refine lv_isub hx hb d_M_simulate_204 ?_
                    refine lv_topi (fun x_32 ex_32 => ?_)
                    replace h := h x_32 ex_32
                    refine lv_istore (lv' := [(7, .int x_32), (9, .int 0), (8, .int x_23), (6, .int r_17), (3, .int x_16), (0, .ref (cA L 0)), (1, .int a1), (2, .int a2), (4, .int a4), (5, .int a5)]) hx hb d_M_simulate_205 hl (by decide) rfl (fun ls hl => ?_)
                    refine lv_iload_n hx hb d_M_simulate_207 rfl (lv_at hl 7 rfl) ?_
                    refine lv_iload hx hb d_M_simulate_208 (lv_at hl 0 rfl) ?_
                    refine lv_iload hx hb d_M_simulate_210 (lv_at hl 9 rfl) ?_
                    refine lv_ishl hx hb d_M_simulate_212 ?_
                    refine lv_ior hx hb d_M_simulate_213 ?_
                    refine lv_topi (fun x_33 ex_33 => ?_)
                    replace h := h x_33 ex_33
                    refine lv_istore_n (lv' := [(2, .int x_33), (7, .int x_32), (9, .int 0), (8, .int x_23), (6, .int r_17), (3, .int x_16), (0, .ref (cA L 0)), (1, .int a1), (4, .int a4), (5, .int a5)]) hx hb d_M_simulate_214 rfl hl (by decide) rfl (fun ls hl => ?_)
                    obtain ⟨x_34, ex_34⟩ : ∃ y : Int32, y = a5 + 1 := ⟨_, rfl⟩
                    replace h := h x_34 ex_34
                    refine lv_iinc (v := x_34) (lv' := [(5, .int x_34), (2, .int x_33), (7, .int x_32), (9, .int 0), (8, .int x_23), (6, .int r_17), (3, .int x_16), (0, .ref (cA L 0)), (1, .int a1), (4, .int a4)]) hx hb d_M_simulate_215 hl (k := 9) rfl (by rw [ex_34]; rfl) (by decide) rfl (fun ls hl => ?_)
                    refine lv_goto (tgt := 41) hx hb d_M_simulate_218 (by decide) ?_
                    exact ih x_33 x_16 x_34 I F_15 G _ _ ls h hw (lv_sub hl [7, 8, 1, 6, 9, 0] rfl)
                  · replace h := h.2 c_31
                    refine lv_iconst (v := 1) hx hb d_M_simulate_188 (by decide) ?_
                    refine lv_iload hx hb d_M_simulate_189 (lv_at hl 1 rfl) ?_
                    refine lv_iload hx hb d_M_simulate_191 (lv_at hl 0 rfl) ?_
                    refine lv_iand hx hb d_M_simulate_193 ?_
                    refine lv_isub hx hb d_M_simulate_194 ?_
                    refine lv_goto (tgt := 205) hx hb d_M_simulate_195 (by decide) ?_
                    refine lv_topi (fun x_35 ex_35 => ?_)
                    replace h := h x_35 ex_35
                    refine lv_istore (lv' := [(7, .int x_35), (9, .int 0), (8, .int x_23), (6, .int r_17), (3, .int x_16), (0, .ref (cA L 0)), (1, .int a1), (2, .int a2), (4, .int a4), (5, .int a5)]) hx hb d_M_simulate_205 hl (by decide) rfl (fun ls hl => ?_)
                    refine lv_iload_n hx hb d_M_simulate_207 rfl (lv_at hl 7 rfl) ?_
                    refine lv_iload hx hb d_M_simulate_208 (lv_at hl 0 rfl) ?_
                    refine lv_iload hx hb d_M_simulate_210 (lv_at hl 9 rfl) ?_
                    refine lv_ishl hx hb d_M_simulate_212 ?_
                    refine lv_ior hx hb d_M_simulate_213 ?_
                    refine lv_topi (fun x_36 ex_36 => ?_)
                    replace h := h x_36 ex_36
                    refine lv_istore_n (lv' := [(2, .int x_36), (7, .int x_35), (9, .int 0), (8, .int x_23), (6, .int r_17), (3, .int x_16), (0, .ref (cA L 0)), (1, .int a1), (4, .int a4), (5, .int a5)]) hx hb d_M_simulate_214 rfl hl (by decide) rfl (fun ls hl => ?_)
                    obtain ⟨x_37, ex_37⟩ : ∃ y : Int32, y = a5 + 1 := ⟨_, rfl⟩
                    replace h := h x_37 ex_37
                    refine lv_iinc (v := x_37) (lv' := [(5, .int x_37), (2, .int x_36), (7, .int x_35), (9, .int 0), (8, .int x_23), (6, .int r_17), (3, .int x_16), (0, .ref (cA L 0)), (1, .int a1), (4, .int a4)]) hx hb d_M_simulate_215 hl (k := 9) rfl (by rw [ex_37]; rfl) (by decide) rfl (fun ls hl => ?_)
                    refine lv_goto (tgt := 41) hx hb d_M_simulate_218 (by decide) ?_
                    exact ih x_36 x_16 x_37 I F_15 G _ _ ls h hw (lv_sub hl [7, 8, 1, 6, 9, 0] rfl)
                · replace h := h.2 c_29
                  refine lv_iload hx hb d_M_simulate_172 (lv_at hl 1 rfl) ?_
                  refine lv_goto (tgt := 205) hx hb d_M_simulate_174 (by decide) ?_
                  refine lv_istore (lv' := [(7, .int x_23), (9, .int 0), (8, .int x_23), (6, .int r_17), (3, .int x_16), (0, .ref (cA L 0)), (1, .int a1), (2, .int a2), (4, .int a4), (5, .int a5)]) hx hb d_M_simulate_205 hl (by decide) rfl (fun ls hl => ?_)
                  refine lv_iload_n hx hb d_M_simulate_207 rfl (lv_at hl 7 rfl) ?_
                  refine lv_iload hx hb d_M_simulate_208 (lv_at hl 0 rfl) ?_
                  refine lv_iload hx hb d_M_simulate_210 (lv_at hl 9 rfl) ?_
                  refine lv_ishl hx hb d_M_simulate_212 ?_
                  refine lv_ior hx hb d_M_simulate_213 ?_
                  refine lv_topi (fun x_38 ex_38 => ?_)
                  replace h := h x_38 ex_38
                  refine lv_istore_n (lv' := [(2, .int x_38), (7, .int x_23), (9, .int 0), (8, .int x_23), (6, .int r_17), (3, .int x_16), (0, .ref (cA L 0)), (1, .int a1), (4, .int a4), (5, .int a5)]) hx hb d_M_simulate_214 rfl hl (by decide) rfl (fun ls hl => ?_)
                  obtain ⟨x_39, ex_39⟩ : ∃ y : Int32, y = a5 + 1 := ⟨_, rfl⟩
                  replace h := h x_39 ex_39
                  refine lv_iinc (v := x_39) (lv' := [(5, .int x_39), (2, .int x_38), (7, .int x_23), (9, .int 0), (8, .int x_23), (6, .int r_17), (3, .int x_16), (0, .ref (cA L 0)), (1, .int a1), (4, .int a4)]) hx hb d_M_simulate_215 hl (k := 9) rfl (by rw [ex_39]; rfl) (by decide) rfl (fun ls hl => ?_)
                  refine lv_goto (tgt := 41) hx hb d_M_simulate_218 (by decide) ?_
                  exact ih x_38 x_16 x_39 I F_15 G _ _ ls h hw (lv_sub hl [7, 8, 1, 6, 9, 0] rfl)
              · replace h := h.2 c_27
                refine lv_iconst (v := 1) hx hb d_M_simulate_154 (by decide) ?_
                refine lv_iload hx hb d_M_simulate_155 (lv_at hl 1 rfl) ?_
                refine lv_isub hx hb d_M_simulate_157 ?_
                refine lv_goto (tgt := 205) hx hb d_M_simulate_158 (by decide) ?_
                refine lv_topi (fun x_40 ex_40 => ?_)
                replace h := h x_40 ex_40
                refine lv_istore (lv' := [(7, .int x_40), (9, .int 0), (8, .int x_23), (6, .int r_17), (3, .int x_16), (0, .ref (cA L 0)), (1, .int a1), (2, .int a2), (4, .int a4), (5, .int a5)]) hx hb d_M_simulate_205 hl (by decide) rfl (fun ls hl => ?_)
                refine lv_iload_n hx hb d_M_simulate_207 rfl (lv_at hl 7 rfl) ?_
                refine lv_iload hx hb d_M_simulate_208 (lv_at hl 0 rfl) ?_
                refine lv_iload hx hb d_M_simulate_210 (lv_at hl 9 rfl) ?_
                refine lv_ishl hx hb d_M_simulate_212 ?_
                refine lv_ior hx hb d_M_simulate_213 ?_
                refine lv_topi (fun x_41 ex_41 => ?_)
                replace h := h x_41 ex_41
                refine lv_istore_n (lv' := [(2, .int x_41), (7, .int x_40), (9, .int 0), (8, .int x_23), (6, .int r_17), (3, .int x_16), (0, .ref (cA L 0)), (1, .int a1), (4, .int a4), (5, .int a5)]) hx hb d_M_simulate_214 rfl hl (by decide) rfl (fun ls hl => ?_)
                obtain ⟨x_42, ex_42⟩ : ∃ y : Int32, y = a5 + 1 := ⟨_, rfl⟩
                replace h := h x_42 ex_42
                refine lv_iinc (v := x_42) (lv' := [(5, .int x_42), (2, .int x_41), (7, .int x_40), (9, .int 0), (8, .int x_23), (6, .int r_17), (3, .int x_16), (0, .ref (cA L 0)), (1, .int a1), (4, .int a4)]) hx hb d_M_simulate_215 hl (k := 9) rfl (by rw [ex_42]; rfl) (by decide) rfl (fun ls hl => ?_)
                refine lv_goto (tgt := 41) hx hb d_M_simulate_218 (by decide) ?_
                exact ih x_41 x_16 x_42 I F_15 G _ _ ls h hw (lv_sub hl [7, 8, 1, 6, 9, 0] rfl)
            · replace h := h.2 c_25
              refine lv_iload_n hx hb d_M_simulate_127 rfl (lv_at hl 6 rfl) ?_
              refine lv_aload_n hx hb d_M_simulate_128 rfl (lv_at hl 4 rfl) ?_
              refine va_get (D := L.1) (ci := 5) (v := .ref (cA L 3)) (C := qR5) (T := qT5) (N := 16) hx hb hts qi5 hown hK hw.1 0 rfl rfl 5 (by decide) (hts _ wG737) (fun _ h9 => h9) rfl d_M_simulate_129 ?_
              refine lv_iload hx hb d_M_simulate_132 (lv_at hl 2 rfl) ?_
              obtain ⟨hi_43, h⟩ := h
              refine va_iald hx hb hK hw.1 3 0 rfl rfl hi_43 d_M_simulate_134 ?_
              refine lv_ishr hx hb d_M_simulate_135 ?_
              refine lv_iconst (v := 1) hx hb d_M_simulate_136 (by decide) ?_
              refine lv_iand hx hb d_M_simulate_137 ?_
              refine lv_goto (tgt := 142) hx hb d_M_simulate_138 (by decide) ?_
              refine lv_topi (fun x_44 ex_44 => ?_)
              replace h := h x_44 ex_44
              refine lv_istore (lv' := [(9, .int x_44), (8, .int x_23), (7, .int x_18), (6, .int r_17), (3, .int x_16), (0, .ref (cA L 0)), (1, .int a1), (2, .int a2), (4, .int a4), (5, .int a5)]) hx hb d_M_simulate_142 hl (by decide) rfl (fun ls hl => ?_)
              refine lv_aload_n hx hb d_M_simulate_144 rfl (lv_at hl 5 rfl) ?_
              refine va_get (D := L.1) (ci := 5) (v := .ref (cA L 1)) (C := qR5) (T := qT5) (N := 16) hx hb hts qi5 hown hK hw.1 0 rfl rfl 3 (by decide) (hts _ wG735) (fun _ h9 => h9) rfl d_M_simulate_145 ?_
              refine lv_iload hx hb d_M_simulate_148 (lv_at hl 3 rfl) ?_
              obtain ⟨hi_45, h⟩ := h
              refine va_iald hx hb hK hw.1 1 0 rfl rfl hi_45 d_M_simulate_150 ?_
              refine lv_if_ne (tgt := 161) hx hb d_M_simulate_151 (by decide) (fun c_46 => ?_) (fun c_46 => ?_)
              · replace h := h.1 c_46
                refine lv_aload_n hx hb d_M_simulate_161 rfl (lv_at hl 5 rfl) ?_
                refine va_get (D := L.1) (ci := 5) (v := .ref (cA L 1)) (C := qR5) (T := qT5) (N := 16) hx hb hts qi5 hown hK hw.1 0 rfl rfl 3 (by decide) (hts _ wG735) (fun _ h9 => h9) rfl d_M_simulate_162 ?_
                refine lv_iload hx hb d_M_simulate_165 (lv_at hl 3 rfl) ?_
                obtain ⟨hi_47, h⟩ := h
                refine va_iald hx hb hK hw.1 1 0 rfl rfl hi_47 d_M_simulate_167 ?_
                refine lv_iconst (v := 1) hx hb d_M_simulate_168 (by decide) ?_
                refine lv_icmp_ne (tgt := 177) hx hb d_M_simulate_169 (by decide) (fun c_48 => ?_) (fun c_48 => ?_)
                · replace h := h.1 c_48
                  refine lv_aload_n hx hb d_M_simulate_177 rfl (lv_at hl 5 rfl) ?_
                  refine va_get (D := L.1) (ci := 5) (v := .ref (cA L 1)) (C := qR5) (T := qT5) (N := 16) hx hb hts qi5 hown hK hw.1 0 rfl rfl 3 (by decide) (hts _ wG735) (fun _ h9 => h9) rfl d_M_simulate_178 ?_
                  refine lv_iload hx hb d_M_simulate_181 (lv_at hl 3 rfl) ?_
                  obtain ⟨hi_49, h⟩ := h
                  refine va_iald hx hb hK hw.1 1 0 rfl rfl hi_49 d_M_simulate_183 ?_
                  refine lv_iconst (v := 2) hx hb d_M_simulate_184 (by decide) ?_
                  refine lv_icmp_ne (tgt := 198) hx hb d_M_simulate_185 (by decide) (fun c_50 => ?_) (fun c_50 => ?_)
                  · replace h := h.1 c_50
                    refine lv_iconst (v := 1) hx hb d_M_simulate_198 (by decide) ?_
                    refine lv_iload hx hb d_M_simulate_199 (lv_at hl 1 rfl) ?_
                    refine lv_iload hx hb d_M_simulate_201 (lv_at hl 0 rfl) ?_
                    refine lv_ior hx hb d_M_simulate_203 ?_
                    refine lv_isub hx hb d_M_simulate_204 ?_
                    refine lv_topi (fun x_51 ex_51 => ?_)
                    replace h := h x_51 ex_51
                    refine lv_istore (lv' := [(7, .int x_51), (9, .int x_44), (8, .int x_23), (6, .int r_17), (3, .int x_16), (0, .ref (cA L 0)), (1, .int a1), (2, .int a2), (4, .int a4), (5, .int a5)]) hx hb d_M_simulate_205 hl (by decide) rfl (fun ls hl => ?_)
                    refine lv_iload_n hx hb d_M_simulate_207 rfl (lv_at hl 7 rfl) ?_
                    refine lv_iload hx hb d_M_simulate_208 (lv_at hl 0 rfl) ?_
                    refine lv_iload hx hb d_M_simulate_210 (lv_at hl 9 rfl) ?_
                    refine lv_ishl hx hb d_M_simulate_212 ?_
                    refine lv_ior hx hb d_M_simulate_213 ?_
                    refine lv_topi (fun x_52 ex_52 => ?_)
                    replace h := h x_52 ex_52
                    refine lv_istore_n (lv' := [(2, .int x_52), (7, .int x_51), (9, .int x_44), (8, .int x_23), (6, .int r_17), (3, .int x_16), (0, .ref (cA L 0)), (1, .int a1), (4, .int a4), (5, .int a5)]) hx hb d_M_simulate_214 rfl hl (by decide) rfl (fun ls hl => ?_)
                    obtain ⟨x_53, ex_53⟩ : ∃ y : Int32, y = a5 + 1 := ⟨_, rfl⟩
                    replace h := h x_53 ex_53
                    refine lv_iinc (v := x_53) (lv' := [(5, .int x_53), (2, .int x_52), (7, .int x_51), (9, .int x_44), (8, .int x_23), (6, .int r_17), (3, .int x_16), (0, .ref (cA L 0)), (1, .int a1), (4, .int a4)]) hx hb d_M_simulate_215 hl (k := 9) rfl (by rw [ex_53]; rfl) (by decide) rfl (fun ls hl => ?_)
                    refine lv_goto (tgt := 41) hx hb d_M_simulate_218 (by decide) ?_
                    exact ih x_52 x_16 x_53 I F_15 G _ _ ls h hw (lv_sub hl [7, 8, 1, 6, 9, 0] rfl)
                  · replace h := h.2 c_50
                    refine lv_iconst (v := 1) hx hb d_M_simulate_188 (by decide) ?_
                    refine lv_iload hx hb d_M_simulate_189 (lv_at hl 1 rfl) ?_
                    refine lv_iload hx hb d_M_simulate_191 (lv_at hl 0 rfl) ?_
                    refine lv_iand hx hb d_M_simulate_193 ?_
                    refine lv_isub hx hb d_M_simulate_194 ?_
                    refine lv_goto (tgt := 205) hx hb d_M_simulate_195 (by decide) ?_
                    refine lv_topi (fun x_54 ex_54 => ?_)
                    replace h := h x_54 ex_54
                    refine lv_istore (lv' := [(7, .int x_54), (9, .int x_44), (8, .int x_23), (6, .int r_17), (3, .int x_16), (0, .ref (cA L 0)), (1, .int a1), (2, .int a2), (4, .int a4), (5, .int a5)]) hx hb d_M_simulate_205 hl (by decide) rfl (fun ls hl => ?_)
                    refine lv_iload_n hx hb d_M_simulate_207 rfl (lv_at hl 7 rfl) ?_
                    refine lv_iload hx hb d_M_simulate_208 (lv_at hl 0 rfl) ?_
                    refine lv_iload hx hb d_M_simulate_210 (lv_at hl 9 rfl) ?_
                    refine lv_ishl hx hb d_M_simulate_212 ?_
                    refine lv_ior hx hb d_M_simulate_213 ?_
                    refine lv_topi (fun x_55 ex_55 => ?_)
                    replace h := h x_55 ex_55
                    refine lv_istore_n (lv' := [(2, .int x_55), (7, .int x_54), (9, .int x_44), (8, .int x_23), (6, .int r_17), (3, .int x_16), (0, .ref (cA L 0)), (1, .int a1), (4, .int a4), (5, .int a5)]) hx hb d_M_simulate_214 rfl hl (by decide) rfl (fun ls hl => ?_)
                    obtain ⟨x_56, ex_56⟩ : ∃ y : Int32, y = a5 + 1 := ⟨_, rfl⟩
                    replace h := h x_56 ex_56
                    refine lv_iinc (v := x_56) (lv' := [(5, .int x_56), (2, .int x_55), (7, .int x_54), (9, .int x_44), (8, .int x_23), (6, .int r_17), (3, .int x_16), (0, .ref (cA L 0)), (1, .int a1), (4, .int a4)]) hx hb d_M_simulate_215 hl (k := 9) rfl (by rw [ex_56]; rfl) (by decide) rfl (fun ls hl => ?_)
                    refine lv_goto (tgt := 41) hx hb d_M_simulate_218 (by decide) ?_
                    exact ih x_55 x_16 x_56 I F_15 G _ _ ls h hw (lv_sub hl [7, 8, 1, 6, 9, 0] rfl)
                · replace h := h.2 c_48
                  refine lv_iload hx hb d_M_simulate_172 (lv_at hl 1 rfl) ?_
                  refine lv_goto (tgt := 205) hx hb d_M_simulate_174 (by decide) ?_
                  refine lv_istore (lv' := [(7, .int x_23), (9, .int x_44), (8, .int x_23), (6, .int r_17), (3, .int x_16), (0, .ref (cA L 0)), (1, .int a1), (2, .int a2), (4, .int a4), (5, .int a5)]) hx hb d_M_simulate_205 hl (by decide) rfl (fun ls hl => ?_)
                  refine lv_iload_n hx hb d_M_simulate_207 rfl (lv_at hl 7 rfl) ?_
                  refine lv_iload hx hb d_M_simulate_208 (lv_at hl 0 rfl) ?_
                  refine lv_iload hx hb d_M_simulate_210 (lv_at hl 9 rfl) ?_
                  refine lv_ishl hx hb d_M_simulate_212 ?_
                  refine lv_ior hx hb d_M_simulate_213 ?_
                  refine lv_topi (fun x_57 ex_57 => ?_)
                  replace h := h x_57 ex_57
                  refine lv_istore_n (lv' := [(2, .int x_57), (7, .int x_23), (9, .int x_44), (8, .int x_23), (6, .int r_17), (3, .int x_16), (0, .ref (cA L 0)), (1, .int a1), (4, .int a4), (5, .int a5)]) hx hb d_M_simulate_214 rfl hl (by decide) rfl (fun ls hl => ?_)
                  obtain ⟨x_58, ex_58⟩ : ∃ y : Int32, y = a5 + 1 := ⟨_, rfl⟩
                  replace h := h x_58 ex_58
                  refine lv_iinc (v := x_58) (lv' := [(5, .int x_58), (2, .int x_57), (7, .int x_23), (9, .int x_44), (8, .int x_23), (6, .int r_17), (3, .int x_16), (0, .ref (cA L 0)), (1, .int a1), (4, .int a4)]) hx hb d_M_simulate_215 hl (k := 9) rfl (by rw [ex_58]; rfl) (by decide) rfl (fun ls hl => ?_)
                  refine lv_goto (tgt := 41) hx hb d_M_simulate_218 (by decide) ?_
                  exact ih x_57 x_16 x_58 I F_15 G _ _ ls h hw (lv_sub hl [7, 8, 1, 6, 9, 0] rfl)
              · replace h := h.2 c_46
                refine lv_iconst (v := 1) hx hb d_M_simulate_154 (by decide) ?_
                refine lv_iload hx hb d_M_simulate_155 (lv_at hl 1 rfl) ?_
                refine lv_isub hx hb d_M_simulate_157 ?_
                refine lv_goto (tgt := 205) hx hb d_M_simulate_158 (by decide) ?_
                refine lv_topi (fun x_59 ex_59 => ?_)
                replace h := h x_59 ex_59
                refine lv_istore (lv' := [(7, .int x_59), (9, .int x_44), (8, .int x_23), (6, .int r_17), (3, .int x_16), (0, .ref (cA L 0)), (1, .int a1), (2, .int a2), (4, .int a4), (5, .int a5)]) hx hb d_M_simulate_205 hl (by decide) rfl (fun ls hl => ?_)
                refine lv_iload_n hx hb d_M_simulate_207 rfl (lv_at hl 7 rfl) ?_
                refine lv_iload hx hb d_M_simulate_208 (lv_at hl 0 rfl) ?_
                refine lv_iload hx hb d_M_simulate_210 (lv_at hl 9 rfl) ?_
                refine lv_ishl hx hb d_M_simulate_212 ?_
                refine lv_ior hx hb d_M_simulate_213 ?_
                refine lv_topi (fun x_60 ex_60 => ?_)
                replace h := h x_60 ex_60
                refine lv_istore_n (lv' := [(2, .int x_60), (7, .int x_59), (9, .int x_44), (8, .int x_23), (6, .int r_17), (3, .int x_16), (0, .ref (cA L 0)), (1, .int a1), (4, .int a4), (5, .int a5)]) hx hb d_M_simulate_214 rfl hl (by decide) rfl (fun ls hl => ?_)
                obtain ⟨x_61, ex_61⟩ : ∃ y : Int32, y = a5 + 1 := ⟨_, rfl⟩
                replace h := h x_61 ex_61
                refine lv_iinc (v := x_61) (lv' := [(5, .int x_61), (2, .int x_60), (7, .int x_59), (9, .int x_44), (8, .int x_23), (6, .int r_17), (3, .int x_16), (0, .ref (cA L 0)), (1, .int a1), (4, .int a4)]) hx hb d_M_simulate_215 hl (k := 9) rfl (by rw [ex_61]; rfl) (by decide) rfl (fun ls hl => ?_)
                refine lv_goto (tgt := 41) hx hb d_M_simulate_218 (by decide) ?_
                exact ih x_60 x_16 x_61 I F_15 G _ _ ls h hw (lv_sub hl [7, 8, 1, 6, 9, 0] rfl)
        · replace h := h.2 c_13
          refine lv_goto (tgt := 215) hx hb d_M_simulate_67 (by decide) ?_
          obtain ⟨x_62, ex_62⟩ : ∃ y : Int32, y = a5 + 1 := ⟨_, rfl⟩
          replace h := h x_62 ex_62
          refine lv_iinc (v := x_62) (lv' := [(5, .int x_62), (0, .ref (cA L 0)), (1, .int a1), (2, .int a2), (3, .int a3), (4, .int a4)]) hx hb d_M_simulate_215 hl (k := 5) rfl (by rw [ex_62]; rfl) (by decide) rfl (fun ls hl => ?_)
          refine lv_goto (tgt := 41) hx hb d_M_simulate_218 (by decide) ?_
          exact ih a2 a3 x_62 I F G _ _ ls h hw (lv_sub hl [1, 2, 3, 4, 5, 0] rfl)
set_option maxHeartbeats 4000000 in
set_option maxRecDepth 100000 in
theorem Wl_M_simulate_31 {p : Program} {l : Launch} {e : Env} {s : State} {m : MethodId} {args : Array Value} {below : List Frame} {meth : Method} {c : Code} {L : cL} {A : Nat → Prop} {post : Int32 → MI → MF → MG → Prop} {K : Int32 → Int32 → Int32 → MI → MF → MG → Prop} {a1 : Int32} (xc : xC p s m args meth c b_M_simulate 10 lwG qR5 (some .int)) (hK : va_K L.1 vwCl (mTys L) s) (hN : mNk s) (hA : ∀ q, s.heap.size ≤ q → A q)
    (hk : ∀ (a2 : Int32) (a3 : Int32) (a4 : Int32) (I : MI) (F : MF) (G : MG) (H : Heap) (locs : List Loc) (ls : Array Slot), K a2 a3 a4 I F G → MW L A s.heap I F G H locs → lv_has ls 10 [(0, .ref (cA L 0)), (1, .int a1), (2, .int a2), (3, .int a3), (4, .int a4)] → W p l e rm_M_simulate s m args below meth c H locs 0 0 (MQ below (mQi L A post A) args s 0 0 A) (F0 m 227 ls [])) :
    ∀ (n : Nat) (a2 : Int32) (a3 : Int32) (a4 : Int32) (I : MI) (F : MF) (G : MG) (H : Heap) (locs : List Loc) (ls : Array Slot), wl_M_simulate_31 post K a1 n a2 a3 a4 I F G → MW L A s.heap I F G H locs → lv_has ls 10 [(0, .ref (cA L 0)), (1, .int a1), (2, .int a2), (3, .int a3), (4, .int a4)] → W p l e rm_M_simulate s m args below meth c H locs 0 0 (MQ below (mQi L A post A) args s 0 0 A) (F0 m 31 ls []) := by
  obtain ⟨hx, hb, hml, hown, hts, hr, hlocks⟩ := id xc
  intro n
  induction n with
  | zero => intro a2 a3 a4 I F G H locs ls h; exact absurd h id
  | succ n ih =>
    intro a2 a3 a4 I F G H locs ls h hw hl
    refine lv_iload hx hb d_M_simulate_31 (lv_at hl 4 rfl) ?_
    refine lv_bipush (v := 13) hx hb d_M_simulate_33 (by decide) ?_
    refine lv_icmp_ge (tgt := 227) hx hb d_M_simulate_35 (by decide) (fun c_7 => ?_) (fun c_7 => ?_)
    · replace h := h.1 c_7
      exact hk a2 a3 a4 I F G _ _ ls h hw (lv_sub hl [0, 1, 2, 3, 4] rfl)
    · replace h := h.2 c_7
      refine lv_iconst (v := 0) hx hb d_M_simulate_38 (by decide) ?_
      refine lv_istore (lv' := [(5, .int 0), (0, .ref (cA L 0)), (1, .int a1), (2, .int a2), (3, .int a3), (4, .int a4)]) hx hb d_M_simulate_39 hl (by decide) rfl (fun ls hl => ?_)
      obtain ⟨n_68, h⟩ := h
      refine Wl_M_simulate_41 xc hK hN hA (hk := fun x_63 x_64 x_65 I_66 F_66 G_66 H locs ls h hw hl => ?_) n_68 a2 a3 0 I F G _ _ ls h hw (lv_sub hl [1, 2, 3, 4, 5, 0] rfl)
      obtain ⟨x_67, ex_67⟩ : ∃ y : Int32, y = a4 + 1 := ⟨_, rfl⟩
      replace h := h x_67 ex_67
      refine lv_iinc (v := x_67) (lv' := [(4, .int x_67), (0, .ref (cA L 0)), (1, .int a1), (2, .int x_63), (3, .int x_64), (5, .int x_65)]) hx hb d_M_simulate_221 hl (k := 4) rfl (by rw [ex_67]; rfl) (by decide) rfl (fun ls hl => ?_)
      refine lv_goto (tgt := 31) hx hb d_M_simulate_224 (by decide) ?_
      exact ih x_63 x_64 x_67 I_66 F_66 G_66 _ _ ls h hw (lv_sub hl [1, 2, 3, 4, 0] rfl)
set_option maxHeartbeats 4000000 in
set_option maxRecDepth 100000 in
theorem c_M_simulate (l : Launch) (L : cL) (a1 : Int32) (I : MI) (F : MF) (G : MG) (sz : Nat) (post : Int32 → MI → MF → MG → Prop) (h : wp_M_simulate a1 I F G post) : Met l y_M_simulate (.code y_M_simulate b_M_simulate 10 (some .int) :: lwG) rm_M_simulate (mPm L I F G sz [.ref (cA L 0), .int a1]) (mQi L (mAA L I F G sz) post (mAA L I F G sz)) 0 0 (mAA L I F G sz) := by
  refine Met.ofW (cc := b_M_simulate) (maxL := 10) (ret := (some .int)) (by decide) rfl ?_
  intro p e s m args below meth c s₁ B hml hv
  obtain ⟨rfl, hsz, hP, hK, hD0, hN⟩ := hv
  have xc : xC p s m _ meth c b_M_simulate 10 lwG qR5 (some .int) := ⟨B.exec, B.bytes, hml, findClass_of_methodNamed B.named, fun w h => atoms_spec (ws := (.code y_M_simulate b_M_simulate 10 (some .int) :: lwG)) B.pre w (List.mem_cons_of_mem _ h), B.returns, B.notSynchronized⟩
  obtain ⟨hx, hb, hml, hown, hts, hr, hlocks⟩ := id xc
  subst hsz
  have hD : va_D (mAA L I F G s.heap.size) (WM L I F G) := hD0.self
  have hA0 : ∀ q : Nat, s.heap.size ≤ q → mAA L I F G s.heap.size q := fun q h => Or.inr h
  generalize mAA L I F G s.heap.size = A at hD hA0 ⊢
  have hA := hA0
  have hw : MW L A s.heap I F G s.heap [] := ⟨hP, hD, va_S.rf⟩
  have hl := lv_entry ([.ref (cA L 0), .int a1]) (n := 10) (Nat.le_of_ble_eq_true rfl)
  rw [lg_entry_eq]
  generalize (lg_sl ([.ref (cA L 0), .int a1]) ++ List.replicate (10 - (lg_sl ([.ref (cA L 0), .int a1])).length) Slot.unset).toArray = ls at hl ⊢
  have hl : lv_has ls 10 [(0, .ref (cA L 0)), (1, .int a1)] := hl
  refine lv_iconst (v := 0) hx hb d_M_simulate_0 (by decide) ?_
  refine lv_istore_n (lv' := [(2, .int 0), (0, .ref (cA L 0)), (1, .int a1)]) hx hb d_M_simulate_1 rfl hl (by decide) rfl (fun ls hl => ?_)
  refine lv_iconst (v := 0) hx hb d_M_simulate_2 (by decide) ?_
  refine lv_istore_n (lv' := [(3, .int 0), (2, .int 0), (0, .ref (cA L 0)), (1, .int a1)]) hx hb d_M_simulate_3 rfl hl (by decide) rfl (fun ls hl => ?_)
  refine lv_iconst (v := 0) hx hb d_M_simulate_4 (by decide) ?_
  refine lv_istore (lv' := [(4, .int 0), (3, .int 0), (2, .int 0), (0, .ref (cA L 0)), (1, .int a1)]) hx hb d_M_simulate_5 hl (by decide) rfl (fun ls hl => ?_)
  obtain ⟨n_78, h⟩ := h
  refine Wl_M_simulate_7 xc hK hN hA (hk := fun x_5 I_6 F_6 G_6 H locs ls h hw hl => ?_) n_78 0 I F G _ _ ls h hw (lv_sub hl [3, 4, 2, 1, 0] rfl)
  refine lv_iconst (v := 0) hx hb d_M_simulate_28 (by decide) ?_
  refine lv_istore (lv' := [(4, .int 0), (0, .ref (cA L 0)), (1, .int a1), (2, .int 0), (3, .int 0)]) hx hb d_M_simulate_29 hl (by decide) rfl (fun ls hl => ?_)
  obtain ⟨n_77, h⟩ := h
  refine Wl_M_simulate_31 xc hK hN hA (hk := fun x_69 x_70 x_71 I_72 F_72 G_72 H locs ls h hw hl => ?_) n_77 0 0 0 I_6 F_6 G_6 _ _ ls h hw (lv_sub hl [1, 2, 3, 4, 0] rfl)
  refine lv_iload_n hx hb d_M_simulate_227 rfl (lv_at hl 3 rfl) ?_
  refine lv_bipush (v := 12) hx hb d_M_simulate_228 (by decide) ?_
  refine lv_icmp_ge (tgt := 239) hx hb d_M_simulate_230 (by decide) (fun c_73 => ?_) (fun c_73 => ?_)
  · replace h := h.1 c_73
    refine lv_aload_n hx hb d_M_simulate_239 rfl (lv_at hl 0 rfl) ?_
    refine lv_iconst (v := 0) hx hb d_M_simulate_240 (by decide) ?_
    refine va_put (D := L.1) (ci := 5) (v := .int 0) (ty := .int) (C := qR5) (T := qT5) (N := 16) hx hb hts qi5 qy5 qk5 qn5 hown hK hw.1 hw.2.1 hw.2.2 0 rfl rfl 0 (by decide) (hts _ wG732) (fun _ h9 => h9) rfl (by decide +kernel) rfl rfl (Nat.le_of_ble_eq_true rfl) d_M_simulate_241 (fun H locs h1 h2 h3 => ?_)
    replace hw : MW L A s.heap (setI I_72 0 0) F_72 G_72 H locs := ⟨h1, h2, h3⟩
    clear h1 h2 h3
    obtain ⟨I_74, eI_74⟩ : ∃ y : MI, y = setI I_72 0 0 := ⟨_, rfl⟩
    rw [← eI_74] at hw
    replace h := h I_74 eI_74
    refine lv_iload_n hx hb d_M_simulate_244 rfl (lv_at hl 2 rfl) ?_
    exact W.iret hx hb hr (fun t ht hW => ⟨⟨_, (I_74, F_72, G_72), rfl, h, by rw [ht]; exact hw.1, va_K.moved hW.alike hK, hw.2.1⟩, hw.2.2.F ht⟩) hw.2.2.2.2 d_M_simulate_245
  · replace h := h.2 c_73
    refine lv_aload_n hx hb d_M_simulate_233 rfl (lv_at hl 0 rfl) ?_
    refine lv_iconst (v := 1) hx hb d_M_simulate_234 (by decide) ?_
    refine m_calli (va_runV (As := [.int 1]) (rest := []) ⟨hx, hb, hml, hown, hts⟩ (c_M_refuse l L 1 I_72 F_72 G_72 _ _ h) (cwV 1 hts (gV wG793 wG795 wG20 wG54 wG796) rfl rfl rfl (by decide +kernel) ⟨Nat.le_of_ble_eq_true rfl, Nat.le_of_ble_eq_true rfl⟩) (mPrm hK hN hw) rfl rfl hl.1 rfl (lv_room (Nat.le_of_ble_eq_true rfl)) d_M_simulate_235 ⟨Nat.le_of_ble_eq_true rfl, Nat.le_of_ble_eq_true rfl⟩) hw hA (fun r_75 I_76 F_76 G_76 H locs h hw => ?_)
    exact W.iret hx hb hr (fun t ht hW => ⟨⟨_, (I_76, F_76, G_76), rfl, h, by rw [ht]; exact hw.1, va_K.moved hW.alike hK, hw.2.1⟩, hw.2.2.F ht⟩) hw.2.2.2.2 d_M_simulate_238
abbrev rm_M_count : Room := { frames := 5, cells := 0, slots := 0, locals := 109 }
set_option maxHeartbeats 4000000 in
set_option maxRecDepth 100000 in
theorem Wl_M_count_85 {p : Program} {l : Launch} {e : Env} {s : State} {m : MethodId} {args : Array Value} {below : List Frame} {meth : Method} {c : Code} {L : cL} {A : Nat → Prop} {I : MI} {F : MF} {G : MG} {H : Heap} {locs : List Loc} {post : Int32 → MI → MF → MG → Prop} {K : Int32 → Int32 → Prop} {a1 : Int32} (xc : xC p s m args meth c b_M_count 4 lwG qR5 (some .int)) (hK : va_K L.1 vwCl (mTys L) s) (hN : mNk s) (hA : ∀ q, s.heap.size ≤ q → A q) (hw : MW L A s.heap I F G H locs)
    (hk : ∀ (a2 : Int32) (a3 : Int32) (ls : Array Slot), K a2 a3 → lv_has ls 4 [(0, .ref (cA L 0)), (1, .int a1), (2, .int a2), (3, .int a3)] → W p l e rm_M_count s m args below meth c H locs 0 0 (MQ below (mQi L A post A) args s 0 0 A) (F0 m 123 ls [])) :
    ∀ (n : Nat) (a2 : Int32) (a3 : Int32) (ls : Array Slot), wl_M_count_85 post K a1 I F G n a2 a3 → lv_has ls 4 [(0, .ref (cA L 0)), (1, .int a1), (2, .int a2), (3, .int a3)] → W p l e rm_M_count s m args below meth c H locs 0 0 (MQ below (mQi L A post A) args s 0 0 A) (F0 m 85 ls []) := by
  obtain ⟨hx, hb, hml, hown, hts, hr, hlocks⟩ := id xc
  intro n
  induction n with
  | zero => intro a2 a3 ls h; exact absurd h id
  | succ n ih =>
    intro a2 a3 ls h hl
    refine lv_iload_n hx hb d_M_count_85 rfl (lv_at hl 3 rfl) ?_
    refine lv_bipush (v := 24) hx hb d_M_count_86 (by decide) ?_
    refine lv_aload_n hx hb d_M_count_88 rfl (lv_at hl 0 rfl) ?_
    refine va_get (D := L.1) (ci := 5) (v := .int (I 2)) (C := qR5) (T := qT5) (N := 16) hx hb hts qi5 hown hK hw.1 0 rfl rfl 2 (by decide) (hts _ wG734) (fun _ h9 => h9) rfl d_M_count_89 ?_
    refine lv_iconst (v := 2) hx hb d_M_count_92 (by decide) ?_
    refine lv_iadd hx hb d_M_count_93 ?_
    refine lv_imul hx hb d_M_count_94 ?_
    refine lv_icmp_ge (tgt := 123) hx hb d_M_count_95 (by decide) (fun c_8 => ?_) (fun c_8 => ?_)
    · replace h := h.1 c_8
      exact hk a2 a3 ls h (lv_sub hl [0, 1, 2, 3] rfl)
    · replace h := h.2 c_8
      refine lv_aload_n hx hb d_M_count_98 rfl (lv_at hl 0 rfl) ?_
      refine va_get (D := L.1) (ci := 5) (v := .ref (cA L 10)) (C := qR5) (T := qT5) (N := 16) hx hb hts qi5 hown hK hw.1 0 rfl rfl 12 (by decide) (hts _ wG744) (fun _ h9 => h9) rfl d_M_count_99 ?_
      refine lv_iload_n hx hb d_M_count_102 rfl (lv_at hl 3 rfl) ?_
      obtain ⟨hi_9, h⟩ := h
      refine va_iald hx hb hK hw.1 10 0 rfl rfl hi_9 d_M_count_103 ?_
      refine lv_iload_n hx hb d_M_count_104 rfl (lv_at hl 1 rfl) ?_
      refine lv_iconst (v := 3) hx hb d_M_count_105 (by decide) ?_
      refine lv_isub hx hb d_M_count_106 ?_
      refine lv_ishr hx hb d_M_count_107 ?_
      refine lv_iconst (v := 1) hx hb d_M_count_108 (by decide) ?_
      refine lv_iand hx hb d_M_count_109 ?_
      refine lv_iconst (v := 1) hx hb d_M_count_110 (by decide) ?_
      refine lv_icmp_ne (tgt := 117) hx hb d_M_count_111 (by decide) (fun c_10 => ?_) (fun c_10 => ?_)
      · replace h := h.1 c_10
        obtain ⟨x_11, ex_11⟩ : ∃ y : Int32, y = a3 + 1 := ⟨_, rfl⟩
        replace h := h x_11 ex_11
        refine lv_iinc (v := x_11) (lv' := [(3, .int x_11), (0, .ref (cA L 0)), (1, .int a1), (2, .int a2)]) hx hb d_M_count_117 hl (k := 3) rfl (by rw [ex_11]; rfl) (by decide) rfl (fun ls hl => ?_)
        refine lv_goto (tgt := 85) hx hb d_M_count_120 (by decide) ?_
        exact ih a2 x_11 ls h (lv_sub hl [1, 2, 3, 0] rfl)
      · replace h := h.2 c_10
        obtain ⟨x_12, ex_12⟩ : ∃ y : Int32, y = a2 + 1 := ⟨_, rfl⟩
        replace h := h x_12 ex_12
        refine lv_iinc (v := x_12) (lv' := [(2, .int x_12), (0, .ref (cA L 0)), (1, .int a1), (3, .int a3)]) hx hb d_M_count_114 hl (k := 2) rfl (by rw [ex_12]; rfl) (by decide) rfl (fun ls hl => ?_)
        obtain ⟨x_13, ex_13⟩ : ∃ y : Int32, y = a3 + 1 := ⟨_, rfl⟩
        replace h := h x_13 ex_13
        refine lv_iinc (v := x_13) (lv' := [(3, .int x_13), (2, .int x_12), (0, .ref (cA L 0)), (1, .int a1)]) hx hb d_M_count_117 hl (k := 3) rfl (by rw [ex_13]; rfl) (by decide) rfl (fun ls hl => ?_)
        refine lv_goto (tgt := 85) hx hb d_M_count_120 (by decide) ?_
        exact ih x_12 x_13 ls h (lv_sub hl [2, 3, 1, 0] rfl)
set_option maxHeartbeats 4000000 in
set_option maxRecDepth 100000 in
theorem Wl_M_count_38 {p : Program} {l : Launch} {e : Env} {s : State} {m : MethodId} {args : Array Value} {below : List Frame} {meth : Method} {c : Code} {L : cL} {A : Nat → Prop} {I : MI} {F : MF} {G : MG} {H : Heap} {locs : List Loc} {post : Int32 → MI → MF → MG → Prop} {K : Int32 → Int32 → Prop} {a1 : Int32} (xc : xC p s m args meth c b_M_count 4 lwG qR5 (some .int)) (hK : va_K L.1 vwCl (mTys L) s) (hN : mNk s) (hA : ∀ q, s.heap.size ≤ q → A q) (hw : MW L A s.heap I F G H locs)
    (hk : ∀ (a2 : Int32) (a3 : Int32) (ls : Array Slot), K a2 a3 → lv_has ls 4 [(0, .ref (cA L 0)), (1, .int a1), (2, .int a2), (3, .int a3)] → W p l e rm_M_count s m args below meth c H locs 0 0 (MQ below (mQi L A post A) args s 0 0 A) (F0 m 61 ls [])) :
    ∀ (n : Nat) (a2 : Int32) (a3 : Int32) (ls : Array Slot), wl_M_count_38 post K a1 I F G n a2 a3 → lv_has ls 4 [(0, .ref (cA L 0)), (1, .int a1), (2, .int a2), (3, .int a3)] → W p l e rm_M_count s m args below meth c H locs 0 0 (MQ below (mQi L A post A) args s 0 0 A) (F0 m 38 ls []) := by
  obtain ⟨hx, hb, hml, hown, hts, hr, hlocks⟩ := id xc
  intro n
  induction n with
  | zero => intro a2 a3 ls h; exact absurd h id
  | succ n ih =>
    intro a2 a3 ls h hl
    refine lv_iload_n hx hb d_M_count_38 rfl (lv_at hl 3 rfl) ?_
    refine lv_bipush (v := 12) hx hb d_M_count_39 (by decide) ?_
    refine lv_icmp_ge (tgt := 61) hx hb d_M_count_41 (by decide) (fun c_17 => ?_) (fun c_17 => ?_)
    · replace h := h.1 c_17
      exact hk a2 a3 ls h (lv_sub hl [0, 1, 2, 3] rfl)
    · replace h := h.2 c_17
      refine lv_aload_n hx hb d_M_count_44 rfl (lv_at hl 0 rfl) ?_
      refine lv_iload_n hx hb d_M_count_45 rfl (lv_at hl 3 rfl) ?_
      refine vp_callSi (va_runV (As := [.int a3]) (rest := []) ⟨hx, hb, hml, hown, hts⟩ (c_M_isWired l L a3 I F G _ h) (cwV 1 hts (gV wG813 wG815 wG23 wG54 wG816) rfl rfl rfl (by decide +kernel) ⟨Nat.le_of_ble_eq_true rfl, Nat.le_of_ble_eq_true rfl⟩) (mPre hK hN hw.1) rfl rfl hl.1 rfl (lv_room (Nat.le_of_ble_eq_true rfl)) d_M_count_46 ⟨Nat.le_of_ble_eq_true rfl, Nat.le_of_ble_eq_true rfl⟩).run (fun r_18 h => ?_)
      refine lv_if_eq (tgt := 55) hx hb d_M_count_49 (by decide) (fun c_19 => ?_) (fun c_19 => ?_)
      · replace h := h.1 c_19
        obtain ⟨x_20, ex_20⟩ : ∃ y : Int32, y = a3 + 1 := ⟨_, rfl⟩
        replace h := h x_20 ex_20
        refine lv_iinc (v := x_20) (lv' := [(3, .int x_20), (0, .ref (cA L 0)), (1, .int a1), (2, .int a2)]) hx hb d_M_count_55 hl (k := 3) rfl (by rw [ex_20]; rfl) (by decide) rfl (fun ls hl => ?_)
        refine lv_goto (tgt := 38) hx hb d_M_count_58 (by decide) ?_
        exact ih a2 x_20 ls h (lv_sub hl [1, 2, 3, 0] rfl)
      · replace h := h.2 c_19
        obtain ⟨x_21, ex_21⟩ : ∃ y : Int32, y = a2 + 1 := ⟨_, rfl⟩
        replace h := h x_21 ex_21
        refine lv_iinc (v := x_21) (lv' := [(2, .int x_21), (0, .ref (cA L 0)), (1, .int a1), (3, .int a3)]) hx hb d_M_count_52 hl (k := 2) rfl (by rw [ex_21]; rfl) (by decide) rfl (fun ls hl => ?_)
        obtain ⟨x_22, ex_22⟩ : ∃ y : Int32, y = a3 + 1 := ⟨_, rfl⟩
        replace h := h x_22 ex_22
        refine lv_iinc (v := x_22) (lv' := [(3, .int x_22), (2, .int x_21), (0, .ref (cA L 0)), (1, .int a1)]) hx hb d_M_count_55 hl (k := 3) rfl (by rw [ex_22]; rfl) (by decide) rfl (fun ls hl => ?_)
        refine lv_goto (tgt := 38) hx hb d_M_count_58 (by decide) ?_
        exact ih x_21 x_22 ls h (lv_sub hl [2, 3, 1, 0] rfl)
set_option maxHeartbeats 4000000 in
set_option maxRecDepth 100000 in
theorem c_M_count (l : Launch) (L : cL) (a1 : Int32) (I : MI) (F : MF) (G : MG) (sz : Nat) (post : Int32 → MI → MF → MG → Prop) (h : wp_M_count a1 I F G post) : Met l y_M_count (.code y_M_count b_M_count 4 (some .int) :: lwG) rm_M_count (mPm L I F G sz [.ref (cA L 0), .int a1]) (mQi L (mAA L I F G sz) post (mAA L I F G sz)) 0 0 (mAA L I F G sz) := by
  refine Met.ofW (cc := b_M_count) (maxL := 4) (ret := (some .int)) (by decide) rfl ?_
  intro p e s m args below meth c s₁ B hml hv
  obtain ⟨rfl, hsz, hP, hK, hD0, hN⟩ := hv
  have xc : xC p s m _ meth c b_M_count 4 lwG qR5 (some .int) := ⟨B.exec, B.bytes, hml, findClass_of_methodNamed B.named, fun w h => atoms_spec (ws := (.code y_M_count b_M_count 4 (some .int) :: lwG)) B.pre w (List.mem_cons_of_mem _ h), B.returns, B.notSynchronized⟩
  obtain ⟨hx, hb, hml, hown, hts, hr, hlocks⟩ := id xc
  subst hsz
  have hD : va_D (mAA L I F G s.heap.size) (WM L I F G) := hD0.self
  have hA0 : ∀ q : Nat, s.heap.size ≤ q → mAA L I F G s.heap.size q := fun q h => Or.inr h
  generalize mAA L I F G s.heap.size = A at hD hA0 ⊢
  have hA := hA0
  have hw : MW L A s.heap I F G s.heap [] := ⟨hP, hD, va_S.rf⟩
  have hl := lv_entry ([.ref (cA L 0), .int a1]) (n := 4) (Nat.le_of_ble_eq_true rfl)
  rw [lg_entry_eq]
  generalize (lg_sl ([.ref (cA L 0), .int a1]) ++ List.replicate (4 - (lg_sl ([.ref (cA L 0), .int a1])).length) Slot.unset).toArray = ls at hl ⊢
  have hl : lv_has ls 4 [(0, .ref (cA L 0)), (1, .int a1)] := hl
  refine lv_iload_n hx hb d_M_count_0 rfl (lv_at hl 1 rfl) ?_
  refine lv_iconst (v := 0) hx hb d_M_count_1 (by decide) ?_
  refine lv_iconst (v := 5) hx hb d_M_count_2 (by decide) ?_
  refine vp_callSi (va_runS (As := [.int a1, .int 0, .int 5]) (rest := []) ⟨hx, hb, hml, hown, hts⟩ (c_M_in l a1 0 5 _ h) (va_cwS 3 hts (gS wG790 wG791 wG54 wG792) rfl rfl rfl (by decide +kernel) ⟨Nat.le_of_ble_eq_true rfl, Nat.le_of_ble_eq_true rfl⟩) ⟨sPc_blind _, fun U hU hW => ⟨rfl, trivial⟩⟩ rfl rfl hl.1 rfl (lv_room (Nat.le_of_ble_eq_true rfl)) d_M_count_3 ⟨Nat.le_of_ble_eq_true rfl, Nat.le_of_ble_eq_true rfl⟩).run (fun r_1 h => ?_)
  refine lv_if_ne (tgt := 15) hx hb d_M_count_6 (by decide) (fun c_2 => ?_) (fun c_2 => ?_)
  · replace h := h.1 c_2
    refine lv_aload_n hx hb d_M_count_15 rfl (lv_at hl 0 rfl) ?_
    refine lv_iconst (v := 0) hx hb d_M_count_16 (by decide) ?_
    refine va_put (D := L.1) (ci := 5) (v := .int 0) (ty := .int) (C := qR5) (T := qT5) (N := 16) hx hb hts qi5 qy5 qk5 qn5 hown hK hw.1 hw.2.1 hw.2.2 0 rfl rfl 0 (by decide) (hts _ wG732) (fun _ h9 => h9) rfl (by decide +kernel) rfl rfl (Nat.le_of_ble_eq_true rfl) d_M_count_17 (fun H locs h1 h2 h3 => ?_)
    replace hw : MW L A s.heap (setI I 0 0) F G H locs := ⟨h1, h2, h3⟩
    clear h1 h2 h3
    obtain ⟨I_3, eI_3⟩ : ∃ y : MI, y = setI I 0 0 := ⟨_, rfl⟩
    rw [← eI_3] at hw
    replace h := h I_3 eI_3
    refine lv_iconst (v := 0) hx hb d_M_count_20 (by decide) ?_
    refine lv_istore_n (lv' := [(2, .int 0), (0, .ref (cA L 0)), (1, .int a1)]) hx hb d_M_count_21 rfl hl (by decide) rfl (fun ls hl => ?_)
    refine lv_iload_n hx hb d_M_count_22 rfl (lv_at hl 2 rfl) ?_
    refine lv_if_ne (tgt := 31) hx hb d_M_count_23 (by decide) (fun c_4 => ?_) (fun c_4 => ?_)
    · replace h := h.1 c_4
      refine lv_iload_n hx hb d_M_count_31 rfl (lv_at hl 2 rfl) ?_
      refine lv_iconst (v := 1) hx hb d_M_count_32 (by decide) ?_
      refine lv_icmp_ne (tgt := 63) hx hb d_M_count_33 (by decide) (fun c_5 => ?_) (fun c_5 => ?_)
      · replace h := h.1 c_5
        refine lv_aload_n hx hb d_M_count_63 rfl (lv_at hl 1 rfl) ?_
        refine va_get (D := L.1) (ci := 5) (v := .int (I_3 2)) (C := qR5) (T := qT5) (N := 16) hx hb hts qi5 hown hK hw.1 0 rfl rfl 2 (by decide) (hts _ wG734) (fun _ h9 => h9) rfl d_M_count_64 ?_
        refine lv_iconst (v := (-1)) hx hb d_M_count_67 (by decide) ?_
        refine lv_icmp_ne (tgt := 73) hx hb d_M_count_68 (by decide) (fun c_6 => ?_) (fun c_6 => ?_)
        · replace h := h.1 c_6
          refine lv_iload_n hx hb d_M_count_73 rfl (lv_at hl 2 rfl) ?_
          refine lv_iconst (v := 2) hx hb d_M_count_74 (by decide) ?_
          refine lv_icmp_ne (tgt := 83) hx hb d_M_count_75 (by decide) (fun c_7 => ?_) (fun c_7 => ?_)
          · replace h := h.1 c_7
            refine lv_iconst (v := 0) hx hb d_M_count_83 (by decide) ?_
            refine lv_istore_n (lv' := [(3, .int 0), (2, .int 0), (0, .ref (cA L 0)), (1, .int a1)]) hx hb d_M_count_84 rfl hl (by decide) rfl (fun ls hl => ?_)
            obtain ⟨n_16, h⟩ := h
            refine Wl_M_count_85 xc hK hN hA hw (hk := fun x_14 x_15 ls h hl => ?_) n_16 0 0 ls h (lv_sub hl [2, 3, 1, 0] rfl)
            refine lv_iload_n hx hb d_M_count_123 rfl (lv_at hl 2 rfl) ?_
            exact W.iret hx hb hr (fun t ht hW => ⟨⟨_, (I_3, F, G), rfl, h, by rw [ht]; exact hw.1, va_K.moved hW.alike hK, hw.2.1⟩, hw.2.2.F ht⟩) hw.2.2.2.2 d_M_count_124
          · replace h := h.2 c_7
            refine lv_aload_n hx hb d_M_count_78 rfl (lv_at hl 1 rfl) ?_
            refine va_get (D := L.1) (ci := 5) (v := .int (I_3 2)) (C := qR5) (T := qT5) (N := 16) hx hb hts qi5 hown hK hw.1 0 rfl rfl 2 (by decide) (hts _ wG734) (fun _ h9 => h9) rfl d_M_count_79 ?_
            exact W.iret hx hb hr (fun t ht hW => ⟨⟨_, (I_3, F, G), rfl, h, by rw [ht]; exact hw.1, va_K.moved hW.alike hK, hw.2.1⟩, hw.2.2.F ht⟩) hw.2.2.2.2 d_M_count_82
        · replace h := h.2 c_6
          refine lv_iconst (v := 0) hx hb d_M_count_71 (by decide) ?_
          exact W.iret hx hb hr (fun t ht hW => ⟨⟨_, (I_3, F, G), rfl, h, by rw [ht]; exact hw.1, va_K.moved hW.alike hK, hw.2.1⟩, hw.2.2.F ht⟩) hw.2.2.2.2 d_M_count_72
      · replace h := h.2 c_5
        refine lv_iconst (v := 0) hx hb d_M_count_36 (by decide) ?_
        refine lv_istore_n (lv' := [(3, .int 0), (2, .int 0), (0, .ref (cA L 0)), (1, .int a1)]) hx hb d_M_count_37 rfl hl (by decide) rfl (fun ls hl => ?_)
        obtain ⟨n_25, h⟩ := h
        refine Wl_M_count_38 xc hK hN hA hw (hk := fun x_23 x_24 ls h hl => ?_) n_25 0 0 ls h (lv_sub hl [2, 3, 1, 0] rfl)
        refine lv_iload_n hx hb d_M_count_61 rfl (lv_at hl 2 rfl) ?_
        exact W.iret hx hb hr (fun t ht hW => ⟨⟨_, (I_3, F, G), rfl, h, by rw [ht]; exact hw.1, va_K.moved hW.alike hK, hw.2.1⟩, hw.2.2.F ht⟩) hw.2.2.2.2 d_M_count_62
    · replace h := h.2 c_4
      refine lv_aload_n hx hb d_M_count_26 rfl (lv_at hl 1 rfl) ?_
      refine va_get (D := L.1) (ci := 5) (v := .int (I_3 1)) (C := qR5) (T := qT5) (N := 16) hx hb hts qi5 hown hK hw.1 0 rfl rfl 1 (by decide) (hts _ wG733) (fun _ h9 => h9) rfl d_M_count_27 ?_
      exact W.iret hx hb hr (fun t ht hW => ⟨⟨_, (I_3, F, G), rfl, h, by rw [ht]; exact hw.1, va_K.moved hW.alike hK, hw.2.1⟩, hw.2.2.F ht⟩) hw.2.2.2.2 d_M_count_30
  · replace h := h.2 c_2
    refine lv_aload_n hx hb d_M_count_9 rfl (lv_at hl 0 rfl) ?_
    refine lv_iconst (v := 1) hx hb d_M_count_10 (by decide) ?_
    refine m_calli (va_runV (As := [.int 1]) (rest := []) ⟨hx, hb, hml, hown, hts⟩ (c_M_refuse l L 1 I F G _ _ h) (cwV 1 hts (gV wG793 wG795 wG20 wG54 wG796) rfl rfl rfl (by decide +kernel) ⟨Nat.le_of_ble_eq_true rfl, Nat.le_of_ble_eq_true rfl⟩) (mPrm hK hN hw) rfl rfl hl.1 rfl (lv_room (Nat.le_of_ble_eq_true rfl)) d_M_count_11 ⟨Nat.le_of_ble_eq_true rfl, Nat.le_of_ble_eq_true rfl⟩) hw hA (fun r_26 I_27 F_27 G_27 H locs h hw => ?_)
    exact W.iret hx hb hr (fun t ht hW => ⟨⟨_, (I_27, F_27, G_27), rfl, h, by rw [ht]; exact hw.1, va_K.moved hW.alike hK, hw.2.1⟩, hw.2.2.F ht⟩) hw.2.2.2.2 d_M_count_14
