theorem row_ok15 {i : Int32} (h : vp_in i 2) : nOk (15 + i.toNatClampNeg) := by have := vp_lt h; unfold nOk; omega
theorem row_ok17 {i : Int32} (h : vp_in i 2) : nOk (17 + i.toNatClampNeg) := by have := vp_lt h; unfold nOk; omega
set_option maxHeartbeats 4000000 in
set_option maxRecDepth 100000 in
theorem n_Wl_N_removeAll_7 {p : Program} {l : Launch} {e : Env} {s : State} {m : MethodId} {args : Array Value} {below : List Frame} {meth : Method} {c : Code} {L : cL} {A : Nat → Prop} {post : MI → MF → MG → Prop} {K : Int32 → MI → MF → MG → Prop} (xc : xC p s m args meth c b_N_removeAll 2 lwG qR1 (none)) (hK : va_K L.1 vwCl (cTys L) s) (hN : cNk s) (hA : ∀ q, s.heap.size ≤ q → A q)
    (hk : ∀ (a1 : Int32) (I : MI) (F : MF) (G : MG) (H : Heap) (locs : List Loc) (ls : Array Slot), K a1 I F G → NW L A s.heap I F G H locs → lv_has ls 2 [(0, .ref (cA L 1)), (1, .int a1)] → W p l e rm_N_removeAll s m args below meth c H locs 0 0 (MQ below (nQv L A post A) args s 0 0 A) (F0 m 45 ls [])) :
    ∀ (n : Nat) (a1 : Int32) (I : MI) (F : MF) (G : MG) (H : Heap) (locs : List Loc) (ls : Array Slot), wl_N_removeAll_7 post K n a1 I F G → NW L A s.heap I F G H locs → lv_has ls 2 [(0, .ref (cA L 1)), (1, .int a1)] → W p l e rm_N_removeAll s m args below meth c H locs 0 0 (MQ below (nQv L A post A) args s 0 0 A) (F0 m 7 ls []) := by
  obtain ⟨hx, hb, hml, hown, hts, hr, hlocks⟩ := id xc
  intro n
  induction n with
  | zero => intro a1 I F G H locs ls h; exact absurd h id
  | succ n ih =>
    intro a1 I F G H locs ls h hw hl
    refine lv_iload_n hx hb d_N_removeAll_7 rfl (lv_at hl 1 rfl) ?_
    refine lv_iconst (v := 2) hx hb d_N_removeAll_8 (by decide) ?_
    refine lv_icmp_ge (tgt := 45) hx hb d_N_removeAll_9 (by decide) (fun c_2 => ?_) (fun c_2 => ?_)
    · replace h := h.1 c_2
      exact hk a1 I F G _ _ ls h hw (lv_sub hl [0, 1] rfl)
    · replace h := h.2 c_2
      refine lv_aload_n hx hb d_N_removeAll_12 rfl (lv_at hl 0 rfl) ?_
      refine va_get (D := L.1) (ci := 1) (v := .ref (cA L 16)) (C := qR1) (T := qT1) (N := 13) hx hb hts qi1 hown hK hw.1 1 rfl rfl 7 (by decide) (hts _ wG102) (fun _ h9 => h9) rfl d_N_removeAll_13 ?_
      refine lv_iload_n hx hb d_N_removeAll_16 rfl (lv_at hl 1 rfl) ?_
      refine lv_iconst (v := 1) hx hb d_N_removeAll_17 (by decide) ?_
      obtain ⟨hi_3, h⟩ := h
      refine n_iast hx hb hK hw 6 (by decide) rfl hi_3 d_N_removeAll_18 (fun H locs hw => ?_)
      obtain ⟨F_4, eF_4⟩ : ∃ y : MF, y = setF F 6 (upd (F 6) a1.toNatClampNeg 1) := ⟨_, rfl⟩
      rw [← eF_4] at hw
      replace h := h F_4 eF_4
      refine lv_aload_n hx hb d_N_removeAll_19 rfl (lv_at hl 0 rfl) ?_
      refine va_get (D := L.1) (ci := 1) (v := .ref (cA L 5)) (C := qR1) (T := qT1) (N := 13) hx hb hts qi1 hown hK hw.1 1 rfl rfl 8 (by decide) (hts _ wG103) (fun _ h9 => h9) rfl d_N_removeAll_20 ?_
      refine lv_iload_n hx hb d_N_removeAll_23 rfl (lv_at hl 1 rfl) ?_
      obtain ⟨hi_5, h⟩ := h
      refine n_row5 hx hb hK hw.1 hi_5 d_N_removeAll_24 ?_
      refine lv_iconst (v := (-1)) hx hb d_N_removeAll_25 (by decide) ?_
      refine n_fill (k := (15 + a1.toNatClampNeg)) (n := 24) (rest := []) ⟨hx, hb, hml, hown, hts⟩ hK hN hw hA (va_cwS 2 hts (gS wG85 wG86 wG50 wG87) rfl rfl rfl (by decide +kernel) ⟨Nat.le_of_ble_eq_true rfl, Nat.le_of_ble_eq_true rfl⟩) (row_ok15 hi_5) (row_len15 hi_5) (by decide) hl.1 (lv_room (Nat.le_of_ble_eq_true rfl)) d_N_removeAll_26 ⟨Nat.le_of_ble_eq_true rfl, Nat.le_of_ble_eq_true rfl⟩ (fun H locs hw => ?_)
      obtain ⟨F_6, eF_6⟩ : ∃ y : MF, y = setF F_4 (15 + a1.toNatClampNeg) (filled (F_4 (15 + a1.toNatClampNeg)) 24 (-1)) := ⟨_, rfl⟩
      rw [← eF_6] at hw
      replace h := h F_6 eF_6
      refine lv_aload_n hx hb d_N_removeAll_29 rfl (lv_at hl 0 rfl) ?_
      refine va_get (D := L.1) (ci := 1) (v := .ref (cA L 6)) (C := qR1) (T := qT1) (N := 13) hx hb hts qi1 hown hK hw.1 1 rfl rfl 9 (by decide) (hts _ wG105) (fun _ h9 => h9) rfl d_N_removeAll_30 ?_
      refine lv_iload_n hx hb d_N_removeAll_33 rfl (lv_at hl 1 rfl) ?_
      obtain ⟨hi_7, h⟩ := h
      refine n_row6 hx hb hK hw.1 hi_7 d_N_removeAll_34 ?_
      refine lv_iconst (v := 0) hx hb d_N_removeAll_35 (by decide) ?_
      refine n_fill (k := (17 + a1.toNatClampNeg)) (n := 12) (rest := []) ⟨hx, hb, hml, hown, hts⟩ hK hN hw hA (va_cwS 2 hts (gS wG85 wG86 wG50 wG87) rfl rfl rfl (by decide +kernel) ⟨Nat.le_of_ble_eq_true rfl, Nat.le_of_ble_eq_true rfl⟩) (row_ok17 hi_7) (row_len17 hi_7) (by decide) hl.1 (lv_room (Nat.le_of_ble_eq_true rfl)) d_N_removeAll_36 ⟨Nat.le_of_ble_eq_true rfl, Nat.le_of_ble_eq_true rfl⟩ (fun H locs hw => ?_)
      obtain ⟨F_8, eF_8⟩ : ∃ y : MF, y = setF F_6 (17 + a1.toNatClampNeg) (filled (F_6 (17 + a1.toNatClampNeg)) 12 0) := ⟨_, rfl⟩
      rw [← eF_8] at hw
      replace h := h F_8 eF_8
      obtain ⟨x_9, ex_9⟩ : ∃ y : Int32, y = a1 + 1 := ⟨_, rfl⟩
      replace h := h x_9 ex_9
      refine lv_iinc (v := x_9) (lv' := [(1, .int x_9), (0, .ref (cA L 1))]) hx hb d_N_removeAll_39 hl (k := 1) rfl (by rw [ex_9]; rfl) (by decide) rfl (fun ls hl => ?_)
      refine lv_goto (tgt := 7) hx hb d_N_removeAll_42 (by decide) ?_
      exact ih x_9 I F_8 G _ _ ls h hw (lv_sub hl [1, 0] rfl)
set_option maxHeartbeats 4000000 in
set_option maxRecDepth 100000 in
theorem n_N_removeAll (l : Launch) (L : cL) (I : MI) (F : MF) (G : MG) (sz : Nat) (post : MI → MF → MG → Prop) (h : wp_N_removeAll I F G post) : Met l y_N_removeAll (.code y_N_removeAll b_N_removeAll 2 (none) :: lwG) rm_N_removeAll (nPm L I F G sz [.ref (cA L 1)]) (nQv L (nAA L I F G sz) post (nAA L I F G sz)) 0 0 (nAA L I F G sz) := by
  refine Met.ofW (cc := b_N_removeAll) (maxL := 2) (ret := (none)) (by decide) rfl ?_
  intro p e s m args below meth c s₁ B hml hv
  obtain ⟨rfl, hsz, hP, hK, hD0, hN⟩ := hv
  have xc : xC p s m _ meth c b_N_removeAll 2 lwG qR1 (none) := ⟨B.exec, B.bytes, hml, findClass_of_methodNamed B.named, fun w h => atoms_spec (ws := (.code y_N_removeAll b_N_removeAll 2 (none) :: lwG)) B.pre w (List.mem_cons_of_mem _ h), B.returns, B.notSynchronized⟩
  obtain ⟨hx, hb, hml, hown, hts, hr, hlocks⟩ := id xc
  subst hsz
  have hD : va_D (nAA L I F G s.heap.size) (WN L I F G) := hD0.self
  have hA0 : ∀ q : Nat, s.heap.size ≤ q → nAA L I F G s.heap.size q := fun q h => Or.inr h
  generalize nAA L I F G s.heap.size = A at hD hA0 ⊢
  have hA := hA0
  have hw : NW L A s.heap I F G s.heap [] := ⟨hP, hD, va_S.rf⟩
  have hl := lv_entry ([.ref (cA L 1)]) (n := 2) (Nat.le_of_ble_eq_true rfl)
  rw [lg_entry_eq]
  generalize (lg_sl ([.ref (cA L 1)]) ++ List.replicate (2 - (lg_sl ([.ref (cA L 1)])).length) Slot.unset).toArray = ls at hl ⊢
  have hl : lv_has ls 2 [(0, .ref (cA L 1))] := hl
  refine lv_aload_n hx hb d_N_removeAll_0 rfl (lv_at hl 0 rfl) ?_
  refine lv_iconst (v := 0) hx hb d_N_removeAll_1 (by decide) ?_
  refine va_put (D := L.1) (ci := 1) (v := .int 0) (ty := .int) (C := qR1) (T := qT1) (N := 13) hx hb hts qi1 qy1 qk1 qn1 hown hK hw.1 hw.2.1 hw.2.2 1 rfl rfl 0 (by decide) (hts _ wG88) (fun _ h9 => h9) rfl (by decide +kernel) rfl rfl (Nat.le_of_ble_eq_true rfl) d_N_removeAll_2 (fun H locs h1 h2 h3 => ?_)
  replace hw : NW L A s.heap (setI I 1 0) F G H locs := ⟨h1, h2, h3⟩
  clear h1 h2 h3
  obtain ⟨I_1, eI_1⟩ : ∃ y : MI, y = setI I 1 0 := ⟨_, rfl⟩
  rw [← eI_1] at hw
  replace h := h I_1 eI_1
  refine lv_iconst (v := 0) hx hb d_N_removeAll_5 (by decide) ?_
  refine lv_istore_n (lv' := [(1, .int 0), (0, .ref (cA L 1))]) hx hb d_N_removeAll_6 rfl hl (by decide) rfl (fun ls hl => ?_)
  obtain ⟨n_15, h⟩ := h
  refine n_Wl_N_removeAll_7 xc hK hN hA (hk := fun x_10 I_11 F_11 G_11 H locs ls h hw hl => ?_) n_15 0 I_1 F G _ _ ls h hw (lv_sub hl [1, 0] rfl)
  refine lv_aload_n hx hb d_N_removeAll_45 rfl (lv_at hl 0 rfl) ?_
  refine va_get (D := L.1) (ci := 1) (v := .ref (cA L 17)) (C := qR1) (T := qT1) (N := 13) hx hb hts qi1 hown hK hw.1 1 rfl rfl 10 (by decide) (hts _ wG107) (fun _ h9 => h9) rfl d_N_removeAll_46 ?_
  refine lv_bipush (v := 24) hx hb d_N_removeAll_49 (by decide) ?_
  refine n_fill (k := 7) (n := 12) (rest := []) ⟨hx, hb, hml, hown, hts⟩ hK hN hw hA (va_cwS 2 hts (gS wG85 wG86 wG50 wG87) rfl rfl rfl (by decide +kernel) ⟨Nat.le_of_ble_eq_true rfl, Nat.le_of_ble_eq_true rfl⟩) (by decide) rfl (by decide) hl.1 (lv_room (Nat.le_of_ble_eq_true rfl)) d_N_removeAll_51 ⟨Nat.le_of_ble_eq_true rfl, Nat.le_of_ble_eq_true rfl⟩ (fun H locs hw => ?_)
  obtain ⟨F_12, eF_12⟩ : ∃ y : MF, y = setF F_11 7 (filled (F_11 7) 12 24) := ⟨_, rfl⟩
  rw [← eF_12] at hw
  replace h := h F_12 eF_12
  refine lv_aload_n hx hb d_N_removeAll_54 rfl (lv_at hl 0 rfl) ?_
  refine va_get (D := L.1) (ci := 1) (v := .ref (cA L 18)) (C := qR1) (T := qT1) (N := 13) hx hb hts qi1 hown hK hw.1 1 rfl rfl 11 (by decide) (hts _ wG108) (fun _ h9 => h9) rfl d_N_removeAll_55 ?_
  refine lv_iconst (v := (-1)) hx hb d_N_removeAll_58 (by decide) ?_
  refine n_fill (k := 8) (n := 12) (rest := []) ⟨hx, hb, hml, hown, hts⟩ hK hN hw hA (va_cwS 2 hts (gS wG85 wG86 wG50 wG87) rfl rfl rfl (by decide +kernel) ⟨Nat.le_of_ble_eq_true rfl, Nat.le_of_ble_eq_true rfl⟩) (by decide) rfl (by decide) hl.1 (lv_room (Nat.le_of_ble_eq_true rfl)) d_N_removeAll_59 ⟨Nat.le_of_ble_eq_true rfl, Nat.le_of_ble_eq_true rfl⟩ (fun H locs hw => ?_)
  obtain ⟨F_13, eF_13⟩ : ∃ y : MF, y = setF F_12 8 (filled (F_12 8) 12 (-1)) := ⟨_, rfl⟩
  rw [← eF_13] at hw
  replace h := h F_13 eF_13
  refine lv_aload_n hx hb d_N_removeAll_62 rfl (lv_at hl 0 rfl) ?_
  refine va_get (D := L.1) (ci := 1) (v := .ref (cA L 19)) (C := qR1) (T := qT1) (N := 13) hx hb hts qi1 hown hK hw.1 1 rfl rfl 12 (by decide) (hts _ wG109) (fun _ h9 => h9) rfl d_N_removeAll_63 ?_
  refine lv_iconst (v := (-1)) hx hb d_N_removeAll_66 (by decide) ?_
  refine n_fill (k := 9) (n := 12) (rest := []) ⟨hx, hb, hml, hown, hts⟩ hK hN hw hA (va_cwS 2 hts (gS wG85 wG86 wG50 wG87) rfl rfl rfl (by decide +kernel) ⟨Nat.le_of_ble_eq_true rfl, Nat.le_of_ble_eq_true rfl⟩) (by decide) rfl (by decide) hl.1 (lv_room (Nat.le_of_ble_eq_true rfl)) d_N_removeAll_67 ⟨Nat.le_of_ble_eq_true rfl, Nat.le_of_ble_eq_true rfl⟩ (fun H locs hw => ?_)
  obtain ⟨F_14, eF_14⟩ : ∃ y : MF, y = setF F_13 9 (filled (F_13 9) 12 (-1)) := ⟨_, rfl⟩
  rw [← eF_14] at hw
  replace h := h F_14 eF_14
  exact W.vret hx hb hr (fun t ht hW => ⟨⟨(I_11, F_14, G_11), rfl, h, by rw [ht]; exact hw.1, va_K.moved hW.alike hK, hw.2.1⟩, hw.2.2.F ht⟩) hw.2.2.2.2 d_N_removeAll_70
