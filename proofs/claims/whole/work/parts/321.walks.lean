abbrev rm_M_thrown : Room := { frames := 0, cells := 0, slots := 0, locals := 0 }
set_option maxHeartbeats 4000000 in
set_option maxRecDepth 100000 in
theorem c_M_thrown (l : Launch) (L : cL) (I : MI) (F : MF) (G : MG) (post : Int32 → Prop) (h : wp_M_thrown I F G post) : Met l y_M_thrown (.code y_M_thrown b_M_thrown 1 (some .int) :: lwG) rm_M_thrown (mPc L I F G [.ref (cA L 0)]) (vp_Si post) 0 0 (fun _ => False) := by
  refine Met.ofW (cc := b_M_thrown) (maxL := 1) (ret := (some .int)) (by decide) rfl ?_
  intro p e s m args below meth c s₁ B hml hv
  obtain ⟨rfl, hP, hK, hN⟩ := hv
  have xc : xC p s m _ meth c b_M_thrown 1 lwG qR5 (some .int) := ⟨B.exec, B.bytes, hml, findClass_of_methodNamed B.named, fun w h => atoms_spec (ws := (.code y_M_thrown b_M_thrown 1 (some .int) :: lwG)) B.pre w (List.mem_cons_of_mem _ h), B.returns, B.notSynchronized⟩
  obtain ⟨hx, hb, hml, hown, hts, hr, hlocks⟩ := id xc
  have hl := lv_entry ([.ref (cA L 0)]) (n := 1) (Nat.le_of_ble_eq_true rfl)
  rw [lg_entry_eq]
  generalize (lg_sl ([.ref (cA L 0)]) ++ List.replicate (1 - (lg_sl ([.ref (cA L 0)])).length) Slot.unset).toArray = ls at hl ⊢
  have hl : lv_has ls 1 [(0, .ref (cA L 0))] := hl
  refine lv_aload_n hx hb d_M_thrown_0 rfl (lv_at hl 0 rfl) ?_
  refine va_get (D := L.1) (ci := 5) (v := .int (I 0)) (C := qR5) (T := qT5) (N := 16) hx hb hts qi5 hown hK hP 0 rfl rfl 0 (by decide) (hts _ wG732) (fun _ h9 => h9) rfl d_M_thrown_1 ?_
  exact W.iret hx hb hr (fun t ht _ => ⟨_, rfl, h, ht⟩) (fun _ h9 => nomatch h9) d_M_thrown_4
abbrev rm_M_in : Room := { frames := 0, cells := 0, slots := 0, locals := 0 }
set_option maxHeartbeats 4000000 in
set_option maxRecDepth 100000 in
theorem c_M_in (l : Launch) (a0 : Int32) (a1 : Int32) (a2 : Int32) (post : Int32 → Prop) (h : wp_M_in a0 a1 a2 post) : Met l y_M_in (.code y_M_in b_M_in 3 (some .boolean) :: lwG) rm_M_in (sPc [.int a0, .int a1, .int a2]) (vp_Si post) 0 0 (fun _ => False) := by
  refine Met.ofW (cc := b_M_in) (maxL := 3) (ret := (some .boolean)) (by decide) rfl ?_
  intro p e s m args below meth c s₁ B hml hv
  obtain ⟨rfl, -⟩ := hv
  have xc : xC p s m _ meth c b_M_in 3 lwG qR5 (some .boolean) := ⟨B.exec, B.bytes, hml, findClass_of_methodNamed B.named, fun w h => atoms_spec (ws := (.code y_M_in b_M_in 3 (some .boolean) :: lwG)) B.pre w (List.mem_cons_of_mem _ h), B.returns, B.notSynchronized⟩
  obtain ⟨hx, hb, hml, hown, hts, hr, hlocks⟩ := id xc
  have hl := lv_entry ([.int a0, .int a1, .int a2]) (n := 3) (Nat.le_of_ble_eq_true rfl)
  rw [lg_entry_eq]
  generalize (lg_sl ([.int a0, .int a1, .int a2]) ++ List.replicate (3 - (lg_sl ([.int a0, .int a1, .int a2])).length) Slot.unset).toArray = ls at hl ⊢
  have hl : lv_has ls 3 [(0, .int a0), (1, .int a1), (2, .int a2)] := hl
  refine lv_iload_n hx hb d_M_in_0 rfl (lv_at hl 0 rfl) ?_
  refine lv_iload_n hx hb d_M_in_1 rfl (lv_at hl 1 rfl) ?_
  refine lv_icmp_lt (tgt := 14) hx hb d_M_in_2 (by decide) (fun c_1 => ?_) (fun c_1 => ?_)
  · replace h := h.1 c_1
    refine lv_iconst (v := 0) hx hb d_M_in_14 (by decide) ?_
    exact W.zret hx hb hr rfl (fun t ht _ => ⟨_, rfl, h, ht⟩) (fun _ h9 => nomatch h9) d_M_in_15
  · replace h := h.2 c_1
    refine lv_iload_n hx hb d_M_in_5 rfl (lv_at hl 0 rfl) ?_
    refine lv_iload_n hx hb d_M_in_6 rfl (lv_at hl 2 rfl) ?_
    refine lv_icmp_gt (tgt := 14) hx hb d_M_in_7 (by decide) (fun c_2 => ?_) (fun c_2 => ?_)
    · replace h := h.1 c_2
      refine lv_iconst (v := 0) hx hb d_M_in_14 (by decide) ?_
      exact W.zret hx hb hr rfl (fun t ht _ => ⟨_, rfl, h, ht⟩) (fun _ h9 => nomatch h9) d_M_in_15
    · replace h := h.2 c_2
      refine lv_iconst (v := 1) hx hb d_M_in_10 (by decide) ?_
      refine lv_goto (tgt := 15) hx hb d_M_in_11 (by decide) ?_
      exact W.zret hx hb hr rfl (fun t ht _ => ⟨_, rfl, h, ht⟩) (fun _ h9 => nomatch h9) d_M_in_15
abbrev rm_M_refuse : Room := { frames := 0, cells := 0, slots := 0, locals := 0 }
set_option maxHeartbeats 4000000 in
set_option maxRecDepth 100000 in
theorem c_M_refuse (l : Launch) (L : cL) (a1 : Int32) (I : MI) (F : MF) (G : MG) (sz : Nat) (post : Int32 → MI → MF → MG → Prop) (h : wp_M_refuse a1 I F G post) : Met l y_M_refuse (.code y_M_refuse b_M_refuse 2 (some .int) :: lwG) rm_M_refuse (mPm L I F G sz [.ref (cA L 0), .int a1]) (mQi L (mAA L I F G sz) post (mAA L I F G sz)) 0 0 (mAA L I F G sz) := by
  refine Met.ofW (cc := b_M_refuse) (maxL := 2) (ret := (some .int)) (by decide) rfl ?_
  intro p e s m args below meth c s₁ B hml hv
  obtain ⟨rfl, hsz, hP, hK, hD0, hN⟩ := hv
  have xc : xC p s m _ meth c b_M_refuse 2 lwG qR5 (some .int) := ⟨B.exec, B.bytes, hml, findClass_of_methodNamed B.named, fun w h => atoms_spec (ws := (.code y_M_refuse b_M_refuse 2 (some .int) :: lwG)) B.pre w (List.mem_cons_of_mem _ h), B.returns, B.notSynchronized⟩
  obtain ⟨hx, hb, hml, hown, hts, hr, hlocks⟩ := id xc
  subst hsz
  have hD : va_D (mAA L I F G s.heap.size) (WM L I F G) := hD0.self
  have hA0 : ∀ q : Nat, s.heap.size ≤ q → mAA L I F G s.heap.size q := fun q h => Or.inr h
  generalize mAA L I F G s.heap.size = A at hD hA0 ⊢
  have hA := hA0
  have hw : MW L A s.heap I F G s.heap [] := ⟨hP, hD, va_S.rf⟩
  have hl := lv_entry ([.ref (cA L 0), .int a1]) (n := 2) (Nat.le_of_ble_eq_true rfl)
  rw [lg_entry_eq]
  generalize (lg_sl ([.ref (cA L 0), .int a1]) ++ List.replicate (2 - (lg_sl ([.ref (cA L 0), .int a1])).length) Slot.unset).toArray = ls at hl ⊢
  have hl : lv_has ls 2 [(0, .ref (cA L 0)), (1, .int a1)] := hl
  refine lv_aload_n hx hb d_M_refuse_0 rfl (lv_at hl 0 rfl) ?_
  refine lv_iload_n hx hb d_M_refuse_1 rfl (lv_at hl 1 rfl) ?_
  refine va_put (D := L.1) (ci := 5) (v := .int a1) (ty := .int) (C := qR5) (T := qT5) (N := 16) hx hb hts qi5 qy5 qk5 qn5 hown hK hw.1 hw.2.1 hw.2.2 0 rfl rfl 0 (by decide) (hts _ wG732) (fun _ h9 => h9) rfl (by decide +kernel) rfl rfl (Nat.le_of_ble_eq_true rfl) d_M_refuse_2 (fun H locs h1 h2 h3 => ?_)
  replace hw : MW L A s.heap (setI I 0 a1) F G H locs := ⟨h1, h2, h3⟩
  clear h1 h2 h3
  obtain ⟨I_1, eI_1⟩ : ∃ y : MI, y = setI I 0 a1 := ⟨_, rfl⟩
  rw [← eI_1] at hw
  replace h := h I_1 eI_1
  refine lv_iconst (v := 0) hx hb d_M_refuse_5 (by decide) ?_
  exact W.iret hx hb hr (fun t ht hW => ⟨⟨_, (I_1, F, G), rfl, h, by rw [ht]; exact hw.1, va_K.moved hW.alike hK, hw.2.1⟩, hw.2.2.F ht⟩) hw.2.2.2.2 d_M_refuse_6
abbrev rm_M_pinsOf : Room := { frames := 0, cells := 0, slots := 0, locals := 0 }
set_option maxHeartbeats 4000000 in
set_option maxRecDepth 100000 in
theorem c_M_pinsOf (l : Launch) (L : cL) (a1 : Int32) (I : MI) (F : MF) (G : MG) (post : Int32 → Prop) (h : wp_M_pinsOf a1 I F G post) : Met l y_M_pinsOf (.code y_M_pinsOf b_M_pinsOf 2 (some .int) :: lwG) rm_M_pinsOf (mPc L I F G [.ref (cA L 0), .int a1]) (vp_Si post) 0 0 (fun _ => False) := by
  refine Met.ofW (cc := b_M_pinsOf) (maxL := 2) (ret := (some .int)) (by decide) rfl ?_
  intro p e s m args below meth c s₁ B hml hv
  obtain ⟨rfl, hP, hK, hN⟩ := hv
  have xc : xC p s m _ meth c b_M_pinsOf 2 lwG qR5 (some .int) := ⟨B.exec, B.bytes, hml, findClass_of_methodNamed B.named, fun w h => atoms_spec (ws := (.code y_M_pinsOf b_M_pinsOf 2 (some .int) :: lwG)) B.pre w (List.mem_cons_of_mem _ h), B.returns, B.notSynchronized⟩
  obtain ⟨hx, hb, hml, hown, hts, hr, hlocks⟩ := id xc
  have hl := lv_entry ([.ref (cA L 0), .int a1]) (n := 2) (Nat.le_of_ble_eq_true rfl)
  rw [lg_entry_eq]
  generalize (lg_sl ([.ref (cA L 0), .int a1]) ++ List.replicate (2 - (lg_sl ([.ref (cA L 0), .int a1])).length) Slot.unset).toArray = ls at hl ⊢
  have hl : lv_has ls 2 [(0, .ref (cA L 0)), (1, .int a1)] := hl
  refine lv_aload_n hx hb d_M_pinsOf_0 rfl (lv_at hl 0 rfl) ?_
  refine va_get (D := L.1) (ci := 5) (v := .ref (cA L 1)) (C := qR5) (T := qT5) (N := 16) hx hb hts qi5 hown hK hP 0 rfl rfl 3 (by decide) (hts _ wG735) (fun _ h9 => h9) rfl d_M_pinsOf_1 ?_
  refine lv_iload_n hx hb d_M_pinsOf_4 rfl (lv_at hl 1 rfl) ?_
  obtain ⟨hi_1, h⟩ := h
  refine va_iald hx hb hK hP 1 0 rfl rfl hi_1 d_M_pinsOf_5 ?_
  refine lv_iconst (v := 2) hx hb d_M_pinsOf_6 (by decide) ?_
  refine lv_icmp_ge (tgt := 14) hx hb d_M_pinsOf_7 (by decide) (fun c_2 => ?_) (fun c_2 => ?_)
  · replace h := h.1 c_2
    refine lv_iconst (v := 3) hx hb d_M_pinsOf_14 (by decide) ?_
    exact W.iret hx hb hr (fun t ht _ => ⟨_, rfl, h, ht⟩) (fun _ h9 => nomatch h9) d_M_pinsOf_15
  · replace h := h.2 c_2
    refine lv_iconst (v := 2) hx hb d_M_pinsOf_10 (by decide) ?_
    refine lv_goto (tgt := 15) hx hb d_M_pinsOf_11 (by decide) ?_
    exact W.iret hx hb hr (fun t ht _ => ⟨_, rfl, h, ht⟩) (fun _ h9 => nomatch h9) d_M_pinsOf_15
abbrev rm_M_netOf : Room := { frames := 1, cells := 0, slots := 0, locals := 21 }
set_option maxHeartbeats 4000000 in
set_option maxRecDepth 100000 in
theorem c_M_netOf (l : Launch) (L : cL) (a1 : Int32) (a2 : Int32) (I : MI) (F : MF) (G : MG) (post : Int32 → Prop) (h : wp_M_netOf a1 a2 I F G post) : Met l y_M_netOf (.code y_M_netOf b_M_netOf 3 (some .int) :: lwG) rm_M_netOf (mPc L I F G [.ref (cA L 0), .int a1, .int a2]) (vp_Si post) 0 0 (fun _ => False) := by
  refine Met.ofW (cc := b_M_netOf) (maxL := 3) (ret := (some .int)) (by decide) rfl ?_
  intro p e s m args below meth c s₁ B hml hv
  obtain ⟨rfl, hP, hK, hN⟩ := hv
  have xc : xC p s m _ meth c b_M_netOf 3 lwG qR5 (some .int) := ⟨B.exec, B.bytes, hml, findClass_of_methodNamed B.named, fun w h => atoms_spec (ws := (.code y_M_netOf b_M_netOf 3 (some .int) :: lwG)) B.pre w (List.mem_cons_of_mem _ h), B.returns, B.notSynchronized⟩
  obtain ⟨hx, hb, hml, hown, hts, hr, hlocks⟩ := id xc
  have hl := lv_entry ([.ref (cA L 0), .int a1, .int a2]) (n := 3) (Nat.le_of_ble_eq_true rfl)
  rw [lg_entry_eq]
  generalize (lg_sl ([.ref (cA L 0), .int a1, .int a2]) ++ List.replicate (3 - (lg_sl ([.ref (cA L 0), .int a1, .int a2])).length) Slot.unset).toArray = ls at hl ⊢
  have hl : lv_has ls 3 [(0, .ref (cA L 0)), (1, .int a1), (2, .int a2)] := hl
  refine lv_iload_n hx hb d_M_netOf_0 rfl (lv_at hl 2 rfl) ?_
  refine lv_aload_n hx hb d_M_netOf_1 rfl (lv_at hl 0 rfl) ?_
  refine lv_iload_n hx hb d_M_netOf_2 rfl (lv_at hl 1 rfl) ?_
  refine vp_callSi (va_runV (As := [.int a1]) (rest := [.int a2]) ⟨hx, hb, hml, hown, hts⟩ (c_M_pinsOf l L a1 I F G _ h) (cwV 1 hts (gV wG821 wG823 wG25 wG54 wG824) rfl rfl rfl (by decide +kernel) ⟨Nat.le_of_ble_eq_true rfl, Nat.le_of_ble_eq_true rfl⟩) (mPre hK hN hP) rfl rfl hl.1 rfl (lv_room (Nat.le_of_ble_eq_true rfl)) d_M_netOf_3 ⟨Nat.le_of_ble_eq_true rfl, Nat.le_of_ble_eq_true rfl⟩).run (fun r_1 h => ?_)
  refine lv_iconst (v := 1) hx hb d_M_netOf_6 (by decide) ?_
  refine lv_isub hx hb d_M_netOf_7 ?_
  refine lv_icmp_ne (tgt := 20) hx hb d_M_netOf_8 (by decide) (fun c_2 => ?_) (fun c_2 => ?_)
  · replace h := h.1 c_2
    refine lv_iload_n hx hb d_M_netOf_20 rfl (lv_at hl 2 rfl) ?_
    refine lv_if_ne (tgt := 33) hx hb d_M_netOf_21 (by decide) (fun c_3 => ?_) (fun c_3 => ?_)
    · replace h := h.1 c_3
      refine lv_aload_n hx hb d_M_netOf_33 rfl (lv_at hl 0 rfl) ?_
      refine va_get (D := L.1) (ci := 5) (v := .ref (cA L 3)) (C := qR5) (T := qT5) (N := 16) hx hb hts qi5 hown hK hP 0 rfl rfl 5 (by decide) (hts _ wG737) (fun _ h9 => h9) rfl d_M_netOf_34 ?_
      refine lv_iload_n hx hb d_M_netOf_37 rfl (lv_at hl 1 rfl) ?_
      obtain ⟨hi_4, h⟩ := h
      refine va_iald hx hb hK hP 3 0 rfl rfl hi_4 d_M_netOf_38 ?_
      exact W.iret hx hb hr (fun t ht _ => ⟨_, rfl, h, ht⟩) (fun _ h9 => nomatch h9) d_M_netOf_39
    · replace h := h.2 c_3
      refine lv_aload_n hx hb d_M_netOf_24 rfl (lv_at hl 0 rfl) ?_
      refine va_get (D := L.1) (ci := 5) (v := .ref (cA L 2)) (C := qR5) (T := qT5) (N := 16) hx hb hts qi5 hown hK hP 0 rfl rfl 4 (by decide) (hts _ wG736) (fun _ h9 => h9) rfl d_M_netOf_25 ?_
      refine lv_iload_n hx hb d_M_netOf_28 rfl (lv_at hl 1 rfl) ?_
      obtain ⟨hi_5, h⟩ := h
      refine va_iald hx hb hK hP 2 0 rfl rfl hi_5 d_M_netOf_29 ?_
      refine lv_goto (tgt := 39) hx hb d_M_netOf_30 (by decide) ?_
      exact W.iret hx hb hr (fun t ht _ => ⟨_, rfl, h, ht⟩) (fun _ h9 => nomatch h9) d_M_netOf_39
  · replace h := h.2 c_2
    refine lv_aload_n hx hb d_M_netOf_11 rfl (lv_at hl 0 rfl) ?_
    refine va_get (D := L.1) (ci := 5) (v := .ref (cA L 4)) (C := qR5) (T := qT5) (N := 16) hx hb hts qi5 hown hK hP 0 rfl rfl 6 (by decide) (hts _ wG738) (fun _ h9 => h9) rfl d_M_netOf_12 ?_
    refine lv_iload_n hx hb d_M_netOf_15 rfl (lv_at hl 1 rfl) ?_
    obtain ⟨hi_6, h⟩ := h
    refine va_iald hx hb hK hP 4 0 rfl rfl hi_6 d_M_netOf_16 ?_
    refine lv_goto (tgt := 39) hx hb d_M_netOf_17 (by decide) ?_
    exact W.iret hx hb hr (fun t ht _ => ⟨_, rfl, h, ht⟩) (fun _ h9 => nomatch h9) d_M_netOf_39
abbrev rm_M_driver : Room := { frames := 0, cells := 0, slots := 0, locals := 0 }
set_option maxHeartbeats 4000000 in
set_option maxRecDepth 100000 in
theorem Wl_M_driver_2 {p : Program} {l : Launch} {e : Env} {s : State} {m : MethodId} {args : Array Value} {below : List Frame} {meth : Method} {c : Code} {L : cL} {I : MI} {F : MF} {G : MG} {post : Int32 → Prop} {K : Int32 → Prop} {a1 : Int32} (xc : xC p s m args meth c b_M_driver 3 lwG qR5 (some .int)) (hP : va_P L.1 vwCl (WM L I F G) s.heap) (hK : va_K L.1 vwCl (mTys L) s) (hN : mNk s)
    (hk : ∀ (a2 : Int32) (ls : Array Slot), K a2 → lv_has ls 3 [(0, .ref (cA L 0)), (1, .int a1), (2, .int a2)] → W p l e rm_M_driver s m args below meth c s.heap [] 0 0 (MQ below (vp_Si post) args s 0 0 (fun _ => False)) (F0 m 28 ls [])) :
    ∀ (n : Nat) (a2 : Int32) (ls : Array Slot), wl_M_driver_2 post K a1 I F G n a2 → lv_has ls 3 [(0, .ref (cA L 0)), (1, .int a1), (2, .int a2)] → W p l e rm_M_driver s m args below meth c s.heap [] 0 0 (MQ below (vp_Si post) args s 0 0 (fun _ => False)) (F0 m 2 ls []) := by
  obtain ⟨hx, hb, hml, hown, hts, hr, hlocks⟩ := id xc
  intro n
  induction n with
  | zero => intro a2 ls h; exact absurd h id
  | succ n ih =>
    intro a2 ls h hl
    refine lv_iload_n hx hb d_M_driver_2 rfl (lv_at hl 2 rfl) ?_
    refine lv_aload_n hx hb d_M_driver_3 rfl (lv_at hl 0 rfl) ?_
    refine va_get (D := L.1) (ci := 5) (v := .int (I 1)) (C := qR5) (T := qT5) (N := 16) hx hb hts qi5 hown hK hP 0 rfl rfl 1 (by decide) (hts _ wG733) (fun _ h9 => h9) rfl d_M_driver_4 ?_
    refine lv_icmp_ge (tgt := 28) hx hb d_M_driver_7 (by decide) (fun c_1 => ?_) (fun c_1 => ?_)
    · replace h := h.1 c_1
      exact hk a2 ls h (lv_sub hl [0, 1, 2] rfl)
    · replace h := h.2 c_1
      refine lv_aload_n hx hb d_M_driver_10 rfl (lv_at hl 0 rfl) ?_
      refine va_get (D := L.1) (ci := 5) (v := .ref (cA L 4)) (C := qR5) (T := qT5) (N := 16) hx hb hts qi5 hown hK hP 0 rfl rfl 6 (by decide) (hts _ wG738) (fun _ h9 => h9) rfl d_M_driver_11 ?_
      refine lv_iload_n hx hb d_M_driver_14 rfl (lv_at hl 2 rfl) ?_
      obtain ⟨hi_2, h⟩ := h
      refine va_iald hx hb hK hP 4 0 rfl rfl hi_2 d_M_driver_15 ?_
      refine lv_iload_n hx hb d_M_driver_16 rfl (lv_at hl 1 rfl) ?_
      refine lv_icmp_ne (tgt := 22) hx hb d_M_driver_17 (by decide) (fun c_3 => ?_) (fun c_3 => ?_)
      · replace h := h.1 c_3
        obtain ⟨x_4, ex_4⟩ : ∃ y : Int32, y = a2 + 1 := ⟨_, rfl⟩
        replace h := h x_4 ex_4
        refine lv_iinc (v := x_4) (lv' := [(2, .int x_4), (0, .ref (cA L 0)), (1, .int a1)]) hx hb d_M_driver_22 hl (k := 2) rfl (by rw [ex_4]; rfl) (by decide) rfl (fun ls hl => ?_)
        refine lv_goto (tgt := 2) hx hb d_M_driver_25 (by decide) ?_
        exact ih x_4 ls h (lv_sub hl [1, 2, 0] rfl)
      · replace h := h.2 c_3
        refine lv_iload_n hx hb d_M_driver_20 rfl (lv_at hl 2 rfl) ?_
        exact W.iret hx hb hr (fun t ht _ => ⟨_, rfl, h, ht⟩) (fun _ h9 => nomatch h9) d_M_driver_21
set_option maxHeartbeats 4000000 in
set_option maxRecDepth 100000 in
theorem c_M_driver (l : Launch) (L : cL) (a1 : Int32) (I : MI) (F : MF) (G : MG) (post : Int32 → Prop) (h : wp_M_driver a1 I F G post) : Met l y_M_driver (.code y_M_driver b_M_driver 3 (some .int) :: lwG) rm_M_driver (mPc L I F G [.ref (cA L 0), .int a1]) (vp_Si post) 0 0 (fun _ => False) := by
  refine Met.ofW (cc := b_M_driver) (maxL := 3) (ret := (some .int)) (by decide) rfl ?_
  intro p e s m args below meth c s₁ B hml hv
  obtain ⟨rfl, hP, hK, hN⟩ := hv
  have xc : xC p s m _ meth c b_M_driver 3 lwG qR5 (some .int) := ⟨B.exec, B.bytes, hml, findClass_of_methodNamed B.named, fun w h => atoms_spec (ws := (.code y_M_driver b_M_driver 3 (some .int) :: lwG)) B.pre w (List.mem_cons_of_mem _ h), B.returns, B.notSynchronized⟩
  obtain ⟨hx, hb, hml, hown, hts, hr, hlocks⟩ := id xc
  have hl := lv_entry ([.ref (cA L 0), .int a1]) (n := 3) (Nat.le_of_ble_eq_true rfl)
  rw [lg_entry_eq]
  generalize (lg_sl ([.ref (cA L 0), .int a1]) ++ List.replicate (3 - (lg_sl ([.ref (cA L 0), .int a1])).length) Slot.unset).toArray = ls at hl ⊢
  have hl : lv_has ls 3 [(0, .ref (cA L 0)), (1, .int a1)] := hl
  refine lv_iconst (v := 0) hx hb d_M_driver_0 (by decide) ?_
  refine lv_istore_n (lv' := [(2, .int 0), (0, .ref (cA L 0)), (1, .int a1)]) hx hb d_M_driver_1 rfl hl (by decide) rfl (fun ls hl => ?_)
  obtain ⟨n_6, h⟩ := h
  refine Wl_M_driver_2 xc hP hK hN (hk := fun x_5 ls h hl => ?_) n_6 0 ls h (lv_sub hl [1, 2, 0] rfl)
  refine lv_iconst (v := (-1)) hx hb d_M_driver_28 (by decide) ?_
  exact W.iret hx hb hr (fun t ht _ => ⟨_, rfl, h, ht⟩) (fun _ h9 => nomatch h9) d_M_driver_29
abbrev rm_M_gate : Room := { frames := 1, cells := 0, slots := 0, locals := 22 }
set_option maxHeartbeats 4000000 in
set_option maxRecDepth 100000 in
theorem c_M_gate (l : Launch) (L : cL) (a1 : Int32) (a2 : Int32) (a3 : Int32) (a4 : Int32) (a5 : Int32) (I : MI) (F : MF) (G : MG) (sz : Nat) (post : Int32 → MI → MF → MG → Prop) (h : wp_M_gate a1 a2 a3 a4 a5 I F G post) : Met l y_M_gate (.code y_M_gate b_M_gate 7 (some .int) :: lwG) rm_M_gate (mPm L I F G sz [.ref (cA L 0), .int a1, .int a2, .int a3, .int a4, .int a5]) (mQi L (mAA L I F G sz) post (mAA L I F G sz)) 0 0 (mAA L I F G sz) := by
  refine Met.ofW (cc := b_M_gate) (maxL := 7) (ret := (some .int)) (by decide) rfl ?_
  intro p e s m args below meth c s₁ B hml hv
  obtain ⟨rfl, hsz, hP, hK, hD0, hN⟩ := hv
  have xc : xC p s m _ meth c b_M_gate 7 lwG qR5 (some .int) := ⟨B.exec, B.bytes, hml, findClass_of_methodNamed B.named, fun w h => atoms_spec (ws := (.code y_M_gate b_M_gate 7 (some .int) :: lwG)) B.pre w (List.mem_cons_of_mem _ h), B.returns, B.notSynchronized⟩
  obtain ⟨hx, hb, hml, hown, hts, hr, hlocks⟩ := id xc
  subst hsz
  have hD : va_D (mAA L I F G s.heap.size) (WM L I F G) := hD0.self
  have hA0 : ∀ q : Nat, s.heap.size ≤ q → mAA L I F G s.heap.size q := fun q h => Or.inr h
  generalize mAA L I F G s.heap.size = A at hD hA0 ⊢
  have hA := hA0
  have hw : MW L A s.heap I F G s.heap [] := ⟨hP, hD, va_S.rf⟩
  have hl := lv_entry ([.ref (cA L 0), .int a1, .int a2, .int a3, .int a4, .int a5]) (n := 7) (Nat.le_of_ble_eq_true rfl)
  rw [lg_entry_eq]
  generalize (lg_sl ([.ref (cA L 0), .int a1, .int a2, .int a3, .int a4, .int a5]) ++ List.replicate (7 - (lg_sl ([.ref (cA L 0), .int a1, .int a2, .int a3, .int a4, .int a5])).length) Slot.unset).toArray = ls at hl ⊢
  have hl : lv_has ls 7 [(0, .ref (cA L 0)), (1, .int a1), (2, .int a2), (3, .int a3), (4, .int a4), (5, .int a5)] := hl
  refine lv_iload_n hx hb d_M_gate_0 rfl (lv_at hl 1 rfl) ?_
  refine lv_iconst (v := 0) hx hb d_M_gate_1 (by decide) ?_
  refine lv_iconst (v := 3) hx hb d_M_gate_2 (by decide) ?_
  refine vp_callSi (va_runS (As := [.int a1, .int 0, .int 3]) (rest := []) ⟨hx, hb, hml, hown, hts⟩ (c_M_in l a1 0 3 _ h) (va_cwS 3 hts (gS wG790 wG791 wG54 wG792) rfl rfl rfl (by decide +kernel) ⟨Nat.le_of_ble_eq_true rfl, Nat.le_of_ble_eq_true rfl⟩) ⟨sPc_blind _, fun U hU hW => ⟨rfl, trivial⟩⟩ rfl rfl hl.1 rfl (lv_room (Nat.le_of_ble_eq_true rfl)) d_M_gate_3 ⟨Nat.le_of_ble_eq_true rfl, Nat.le_of_ble_eq_true rfl⟩).run (fun r_1 h => ?_)
  refine lv_if_eq (tgt := 55) hx hb d_M_gate_6 (by decide) (fun c_2 => ?_) (fun c_2 => ?_)
  · replace h := h.1 c_2
    refine lv_aload_n hx hb d_M_gate_55 rfl (lv_at hl 0 rfl) ?_
    refine lv_iconst (v := 1) hx hb d_M_gate_56 (by decide) ?_
    refine m_calli (va_runV (As := [.int 1]) (rest := []) ⟨hx, hb, hml, hown, hts⟩ (c_M_refuse l L 1 I F G _ _ h) (cwV 1 hts (gV wG793 wG795 wG20 wG54 wG796) rfl rfl rfl (by decide +kernel) ⟨Nat.le_of_ble_eq_true rfl, Nat.le_of_ble_eq_true rfl⟩) (mPrm hK hN hw) rfl rfl hl.1 rfl (lv_room (Nat.le_of_ble_eq_true rfl)) d_M_gate_57 ⟨Nat.le_of_ble_eq_true rfl, Nat.le_of_ble_eq_true rfl⟩) hw hA (fun r_3 I_4 F_4 G_4 H locs h hw => ?_)
    exact W.iret hx hb hr (fun t ht hW => ⟨⟨_, (I_4, F_4, G_4), rfl, h, by rw [ht]; exact hw.1, va_K.moved hW.alike hK, hw.2.1⟩, hw.2.2.F ht⟩) hw.2.2.2.2 d_M_gate_60
  · replace h := h.2 c_2
    refine lv_iload_n hx hb d_M_gate_9 rfl (lv_at hl 2 rfl) ?_
    refine lv_iconst (v := 0) hx hb d_M_gate_10 (by decide) ?_
    refine lv_bipush (v := 11) hx hb d_M_gate_11 (by decide) ?_
    refine vp_callSi (va_runS (As := [.int a2, .int 0, .int 11]) (rest := []) ⟨hx, hb, hml, hown, hts⟩ (c_M_in l a2 0 11 _ h) (va_cwS 3 hts (gS wG790 wG791 wG54 wG792) rfl rfl rfl (by decide +kernel) ⟨Nat.le_of_ble_eq_true rfl, Nat.le_of_ble_eq_true rfl⟩) ⟨sPc_blind _, fun U hU hW => ⟨rfl, trivial⟩⟩ rfl rfl hl.1 rfl (lv_room (Nat.le_of_ble_eq_true rfl)) d_M_gate_13 ⟨Nat.le_of_ble_eq_true rfl, Nat.le_of_ble_eq_true rfl⟩).run (fun r_5 h => ?_)
    refine lv_if_eq (tgt := 55) hx hb d_M_gate_16 (by decide) (fun c_6 => ?_) (fun c_6 => ?_)
    · replace h := h.1 c_6
      refine lv_aload_n hx hb d_M_gate_55 rfl (lv_at hl 0 rfl) ?_
      refine lv_iconst (v := 1) hx hb d_M_gate_56 (by decide) ?_
      refine m_calli (va_runV (As := [.int 1]) (rest := []) ⟨hx, hb, hml, hown, hts⟩ (c_M_refuse l L 1 I F G _ _ h) (cwV 1 hts (gV wG793 wG795 wG20 wG54 wG796) rfl rfl rfl (by decide +kernel) ⟨Nat.le_of_ble_eq_true rfl, Nat.le_of_ble_eq_true rfl⟩) (mPrm hK hN hw) rfl rfl hl.1 rfl (lv_room (Nat.le_of_ble_eq_true rfl)) d_M_gate_57 ⟨Nat.le_of_ble_eq_true rfl, Nat.le_of_ble_eq_true rfl⟩) hw hA (fun r_7 I_8 F_8 G_8 H locs h hw => ?_)
      exact W.iret hx hb hr (fun t ht hW => ⟨⟨_, (I_8, F_8, G_8), rfl, h, by rw [ht]; exact hw.1, va_K.moved hW.alike hK, hw.2.1⟩, hw.2.2.F ht⟩) hw.2.2.2.2 d_M_gate_60
    · replace h := h.2 c_6
      refine lv_iload_n hx hb d_M_gate_19 rfl (lv_at hl 1 rfl) ?_
      refine lv_iconst (v := 1) hx hb d_M_gate_20 (by decide) ?_
      refine lv_icmp_le (tgt := 34) hx hb d_M_gate_21 (by decide) (fun c_9 => ?_) (fun c_9 => ?_)
      · replace h := h.1 c_9
        refine lv_iload hx hb d_M_gate_34 (lv_at hl 4 rfl) ?_
        refine lv_iconst (v := 0) hx hb d_M_gate_36 (by decide) ?_
        refine lv_bipush (v := 11) hx hb d_M_gate_37 (by decide) ?_
        refine vp_callSi (va_runS (As := [.int a4, .int 0, .int 11]) (rest := []) ⟨hx, hb, hml, hown, hts⟩ (c_M_in l a4 0 11 _ h) (va_cwS 3 hts (gS wG790 wG791 wG54 wG792) rfl rfl rfl (by decide +kernel) ⟨Nat.le_of_ble_eq_true rfl, Nat.le_of_ble_eq_true rfl⟩) ⟨sPc_blind _, fun U hU hW => ⟨rfl, trivial⟩⟩ rfl rfl hl.1 rfl (lv_room (Nat.le_of_ble_eq_true rfl)) d_M_gate_39 ⟨Nat.le_of_ble_eq_true rfl, Nat.le_of_ble_eq_true rfl⟩).run (fun r_10 h => ?_)
        refine lv_if_eq (tgt := 55) hx hb d_M_gate_42 (by decide) (fun c_11 => ?_) (fun c_11 => ?_)
        · replace h := h.1 c_11
          refine lv_aload_n hx hb d_M_gate_55 rfl (lv_at hl 0 rfl) ?_
          refine lv_iconst (v := 1) hx hb d_M_gate_56 (by decide) ?_
          refine m_calli (va_runV (As := [.int 1]) (rest := []) ⟨hx, hb, hml, hown, hts⟩ (c_M_refuse l L 1 I F G _ _ h) (cwV 1 hts (gV wG793 wG795 wG20 wG54 wG796) rfl rfl rfl (by decide +kernel) ⟨Nat.le_of_ble_eq_true rfl, Nat.le_of_ble_eq_true rfl⟩) (mPrm hK hN hw) rfl rfl hl.1 rfl (lv_room (Nat.le_of_ble_eq_true rfl)) d_M_gate_57 ⟨Nat.le_of_ble_eq_true rfl, Nat.le_of_ble_eq_true rfl⟩) hw hA (fun r_12 I_13 F_13 G_13 H locs h hw => ?_)
          exact W.iret hx hb hr (fun t ht hW => ⟨⟨_, (I_13, F_13, G_13), rfl, h, by rw [ht]; exact hw.1, va_K.moved hW.alike hK, hw.2.1⟩, hw.2.2.F ht⟩) hw.2.2.2.2 d_M_gate_60
        · replace h := h.2 c_11
          refine lv_iload hx hb d_M_gate_45 (lv_at hl 5 rfl) ?_
          refine lv_iconst (v := 0) hx hb d_M_gate_47 (by decide) ?_
          refine lv_iconst (v := 1) hx hb d_M_gate_48 (by decide) ?_
          refine vp_callSi (va_runS (As := [.int a5, .int 0, .int 1]) (rest := []) ⟨hx, hb, hml, hown, hts⟩ (c_M_in l a5 0 1 _ h) (va_cwS 3 hts (gS wG790 wG791 wG54 wG792) rfl rfl rfl (by decide +kernel) ⟨Nat.le_of_ble_eq_true rfl, Nat.le_of_ble_eq_true rfl⟩) ⟨sPc_blind _, fun U hU hW => ⟨rfl, trivial⟩⟩ rfl rfl hl.1 rfl (lv_room (Nat.le_of_ble_eq_true rfl)) d_M_gate_49 ⟨Nat.le_of_ble_eq_true rfl, Nat.le_of_ble_eq_true rfl⟩).run (fun r_14 h => ?_)
          refine lv_if_ne (tgt := 61) hx hb d_M_gate_52 (by decide) (fun c_15 => ?_) (fun c_15 => ?_)
          · replace h := h.1 c_15
            refine lv_iload_n hx hb d_M_gate_61 rfl (lv_at hl 1 rfl) ?_
            refine lv_iconst (v := 2) hx hb d_M_gate_62 (by decide) ?_
            refine lv_icmp_ge (tgt := 70) hx hb d_M_gate_63 (by decide) (fun c_16 => ?_) (fun c_16 => ?_)
            · replace h := h.1 c_16
              refine lv_iconst (v := 3) hx hb d_M_gate_70 (by decide) ?_
              refine lv_istore (lv' := [(6, .int 3), (0, .ref (cA L 0)), (1, .int a1), (2, .int a2), (3, .int a3), (4, .int a4), (5, .int a5)]) hx hb d_M_gate_71 hl (by decide) rfl (fun ls hl => ?_)
              refine lv_aload_n hx hb d_M_gate_73 rfl (lv_at hl 1 rfl) ?_
              refine va_get (D := L.1) (ci := 5) (v := .int (I 1)) (C := qR5) (T := qT5) (N := 16) hx hb hts qi5 hown hK hw.1 0 rfl rfl 1 (by decide) (hts _ wG733) (fun _ h9 => h9) rfl d_M_gate_74 ?_
              refine lv_bipush (v := 12) hx hb d_M_gate_77 (by decide) ?_
              refine lv_icmp_eq (tgt := 107) hx hb d_M_gate_79 (by decide) (fun c_17 => ?_) (fun c_17 => ?_)
              · replace h := h.1 c_17
                refine lv_aload_n hx hb d_M_gate_107 rfl (lv_at hl 1 rfl) ?_
                refine lv_iconst (v := 2) hx hb d_M_gate_108 (by decide) ?_
                refine m_calli (va_runV (As := [.int 2]) (rest := []) ⟨hx, hb, hml, hown, hts⟩ (c_M_refuse l L 2 I F G _ _ h) (cwV 1 hts (gV wG793 wG795 wG20 wG54 wG796) rfl rfl rfl (by decide +kernel) ⟨Nat.le_of_ble_eq_true rfl, Nat.le_of_ble_eq_true rfl⟩) (mPrm hK hN hw) rfl rfl hl.1 rfl (lv_room (Nat.le_of_ble_eq_true rfl)) d_M_gate_109 ⟨Nat.le_of_ble_eq_true rfl, Nat.le_of_ble_eq_true rfl⟩) hw hA (fun r_18 I_19 F_19 G_19 H locs h hw => ?_)
                exact W.iret hx hb hr (fun t ht hW => ⟨⟨_, (I_19, F_19, G_19), rfl, h, by rw [ht]; exact hw.1, va_K.moved hW.alike hK, hw.2.1⟩, hw.2.2.F ht⟩) hw.2.2.2.2 d_M_gate_112
              · replace h := h.2 c_17
                refine lv_aload_n hx hb d_M_gate_82 rfl (lv_at hl 1 rfl) ?_
                refine va_get (D := L.1) (ci := 5) (v := .ref (cA L 7)) (C := qR5) (T := qT5) (N := 16) hx hb hts qi5 hown hK hw.1 0 rfl rfl 9 (by decide) (hts _ wG741) (fun _ h9 => h9) rfl d_M_gate_83 ?_
                refine lv_iload hx hb d_M_gate_86 (lv_at hl 6 rfl) ?_
                obtain ⟨hi_20, h⟩ := h
                refine va_iald hx hb hK hw.1 7 0 rfl rfl hi_20 d_M_gate_88 ?_
                refine lv_iload hx hb d_M_gate_89 (lv_at hl 0 rfl) ?_
                refine lv_iadd hx hb d_M_gate_91 ?_
                refine lv_bipush (v := 24) hx hb d_M_gate_92 (by decide) ?_
                refine lv_icmp_gt (tgt := 107) hx hb d_M_gate_94 (by decide) (fun c_21 => ?_) (fun c_21 => ?_)
                · replace h := h.1 c_21
                  refine lv_aload_n hx hb d_M_gate_107 rfl (lv_at hl 1 rfl) ?_
                  refine lv_iconst (v := 2) hx hb d_M_gate_108 (by decide) ?_
                  refine m_calli (va_runV (As := [.int 2]) (rest := []) ⟨hx, hb, hml, hown, hts⟩ (c_M_refuse l L 2 I F G _ _ h) (cwV 1 hts (gV wG793 wG795 wG20 wG54 wG796) rfl rfl rfl (by decide +kernel) ⟨Nat.le_of_ble_eq_true rfl, Nat.le_of_ble_eq_true rfl⟩) (mPrm hK hN hw) rfl rfl hl.1 rfl (lv_room (Nat.le_of_ble_eq_true rfl)) d_M_gate_109 ⟨Nat.le_of_ble_eq_true rfl, Nat.le_of_ble_eq_true rfl⟩) hw hA (fun r_22 I_23 F_23 G_23 H locs h hw => ?_)
                  exact W.iret hx hb hr (fun t ht hW => ⟨⟨_, (I_23, F_23, G_23), rfl, h, by rw [ht]; exact hw.1, va_K.moved hW.alike hK, hw.2.1⟩, hw.2.2.F ht⟩) hw.2.2.2.2 d_M_gate_112
                · replace h := h.2 c_21
                  refine lv_aload_n hx hb d_M_gate_97 rfl (lv_at hl 1 rfl) ?_
                  refine lv_iload hx hb d_M_gate_98 (lv_at hl 5 rfl) ?_
                  refine vp_callSi (va_runV (As := [.int a4]) (rest := []) ⟨hx, hb, hml, hown, hts⟩ (c_M_driver l L a4 I F G _ h) (cwV 1 hts (gV wG797 wG799 wG21 wG54 wG800) rfl rfl rfl (by decide +kernel) ⟨Nat.le_of_ble_eq_true rfl, Nat.le_of_ble_eq_true rfl⟩) (mPre hK hN hw.1) rfl rfl hl.1 rfl (lv_room (Nat.le_of_ble_eq_true rfl)) d_M_gate_100 ⟨Nat.le_of_ble_eq_true rfl, Nat.le_of_ble_eq_true rfl⟩).run (fun r_24 h => ?_)
                  refine lv_iconst (v := (-1)) hx hb d_M_gate_103 (by decide) ?_
                  refine lv_icmp_eq (tgt := 113) hx hb d_M_gate_104 (by decide) (fun c_25 => ?_) (fun c_25 => ?_)
                  · replace h := h.1 c_25
                    refine lv_aload_n hx hb d_M_gate_113 rfl (lv_at hl 1 rfl) ?_
                    refine lv_iconst (v := 0) hx hb d_M_gate_114 (by decide) ?_
                    refine va_put (D := L.1) (ci := 5) (v := .int 0) (ty := .int) (C := qR5) (T := qT5) (N := 16) hx hb hts qi5 qy5 qk5 qn5 hown hK hw.1 hw.2.1 hw.2.2 0 rfl rfl 0 (by decide) (hts _ wG732) (fun _ h9 => h9) rfl (by decide +kernel) rfl rfl (Nat.le_of_ble_eq_true rfl) d_M_gate_115 (fun H locs h1 h2 h3 => ?_)
                    replace hw : MW L A s.heap (setI I 0 0) F G H locs := ⟨h1, h2, h3⟩
                    clear h1 h2 h3
                    obtain ⟨I_26, eI_26⟩ : ∃ y : MI, y = setI I 0 0 := ⟨_, rfl⟩
                    rw [← eI_26] at hw
                    replace h := h I_26 eI_26
                    refine lv_aload_n hx hb d_M_gate_118 rfl (lv_at hl 1 rfl) ?_
                    refine va_get (D := L.1) (ci := 5) (v := .ref (cA L 1)) (C := qR5) (T := qT5) (N := 16) hx hb hts qi5 hown hK hw.1 0 rfl rfl 3 (by decide) (hts _ wG735) (fun _ h9 => h9) rfl d_M_gate_119 ?_
                    refine lv_aload_n hx hb d_M_gate_122 rfl (lv_at hl 1 rfl) ?_
                    refine va_get (D := L.1) (ci := 5) (v := .int (I_26 1)) (C := qR5) (T := qT5) (N := 16) hx hb hts qi5 hown hK hw.1 0 rfl rfl 1 (by decide) (hts _ wG733) (fun _ h9 => h9) rfl d_M_gate_123 ?_
                    refine lv_iload_n hx hb d_M_gate_126 rfl (lv_at hl 2 rfl) ?_
                    obtain ⟨hi_27, h⟩ := h
                    refine m_iast hx hb hK hw 0 1 rfl (fun _ => rfl) hi_27 d_M_gate_127 (fun H locs hw => ?_)
                    obtain ⟨F_28, eF_28⟩ : ∃ y : MF, y = setF F 0 (upd (F 0) (I_26 1).toNatClampNeg a1) := ⟨_, rfl⟩
                    rw [← eF_28] at hw
                    replace h := h F_28 eF_28
                    refine lv_aload_n hx hb d_M_gate_128 rfl (lv_at hl 1 rfl) ?_
                    refine va_get (D := L.1) (ci := 5) (v := .ref (cA L 2)) (C := qR5) (T := qT5) (N := 16) hx hb hts qi5 hown hK hw.1 0 rfl rfl 4 (by decide) (hts _ wG736) (fun _ h9 => h9) rfl d_M_gate_129 ?_
                    refine lv_aload_n hx hb d_M_gate_132 rfl (lv_at hl 1 rfl) ?_
                    refine va_get (D := L.1) (ci := 5) (v := .int (I_26 1)) (C := qR5) (T := qT5) (N := 16) hx hb hts qi5 hown hK hw.1 0 rfl rfl 1 (by decide) (hts _ wG733) (fun _ h9 => h9) rfl d_M_gate_133 ?_
                    refine lv_iload_n hx hb d_M_gate_136 rfl (lv_at hl 3 rfl) ?_
                    obtain ⟨hi_29, h⟩ := h
                    refine m_iast hx hb hK hw 1 2 rfl (fun _ => rfl) hi_29 d_M_gate_137 (fun H locs hw => ?_)
                    obtain ⟨F_30, eF_30⟩ : ∃ y : MF, y = setF F_28 1 (upd (F_28 1) (I_26 1).toNatClampNeg a2) := ⟨_, rfl⟩
                    rw [← eF_30] at hw
                    replace h := h F_30 eF_30
                    refine lv_aload_n hx hb d_M_gate_138 rfl (lv_at hl 1 rfl) ?_
                    refine va_get (D := L.1) (ci := 5) (v := .ref (cA L 3)) (C := qR5) (T := qT5) (N := 16) hx hb hts qi5 hown hK hw.1 0 rfl rfl 5 (by decide) (hts _ wG737) (fun _ h9 => h9) rfl d_M_gate_139 ?_
                    refine lv_aload_n hx hb d_M_gate_142 rfl (lv_at hl 1 rfl) ?_
                    refine va_get (D := L.1) (ci := 5) (v := .int (I_26 1)) (C := qR5) (T := qT5) (N := 16) hx hb hts qi5 hown hK hw.1 0 rfl rfl 1 (by decide) (hts _ wG733) (fun _ h9 => h9) rfl d_M_gate_143 ?_
                    refine lv_iload_n hx hb d_M_gate_146 rfl (lv_at hl 2 rfl) ?_
                    refine lv_iconst (v := 1) hx hb d_M_gate_147 (by decide) ?_
                    refine lv_icmp_le (tgt := 155) hx hb d_M_gate_148 (by decide) (fun c_31 => ?_) (fun c_31 => ?_)
                    · replace h := h.1 c_31
                      refine lv_iconst (v := (-1)) hx hb d_M_gate_155 (by decide) ?_
                      obtain ⟨hi_32, h⟩ := h
                      refine m_iast hx hb hK hw 2 3 rfl (fun _ => rfl) hi_32 d_M_gate_156 (fun H locs hw => ?_)
                      obtain ⟨F_33, eF_33⟩ : ∃ y : MF, y = setF F_30 2 (upd (F_30 2) (I_26 1).toNatClampNeg (-1)) := ⟨_, rfl⟩
                      rw [← eF_33] at hw
                      replace h := h F_33 eF_33
                      refine lv_aload_n hx hb d_M_gate_157 rfl (lv_at hl 1 rfl) ?_
                      refine va_get (D := L.1) (ci := 5) (v := .ref (cA L 4)) (C := qR5) (T := qT5) (N := 16) hx hb hts qi5 hown hK hw.1 0 rfl rfl 6 (by decide) (hts _ wG738) (fun _ h9 => h9) rfl d_M_gate_158 ?_
                      refine lv_aload_n hx hb d_M_gate_161 rfl (lv_at hl 1 rfl) ?_
                      refine va_get (D := L.1) (ci := 5) (v := .int (I_26 1)) (C := qR5) (T := qT5) (N := 16) hx hb hts qi5 hown hK hw.1 0 rfl rfl 1 (by decide) (hts _ wG733) (fun _ h9 => h9) rfl d_M_gate_162 ?_
                      refine lv_iload hx hb d_M_gate_165 (lv_at hl 5 rfl) ?_
                      obtain ⟨hi_34, h⟩ := h
                      refine m_iast hx hb hK hw 3 4 rfl (fun _ => rfl) hi_34 d_M_gate_167 (fun H locs hw => ?_)
                      obtain ⟨F_35, eF_35⟩ : ∃ y : MF, y = setF F_33 3 (upd (F_33 3) (I_26 1).toNatClampNeg a4) := ⟨_, rfl⟩
                      rw [← eF_35] at hw
                      replace h := h F_35 eF_35
                      refine lv_aload_n hx hb d_M_gate_168 rfl (lv_at hl 1 rfl) ?_
                      refine va_get (D := L.1) (ci := 5) (v := .ref (cA L 5)) (C := qR5) (T := qT5) (N := 16) hx hb hts qi5 hown hK hw.1 0 rfl rfl 7 (by decide) (hts _ wG739) (fun _ h9 => h9) rfl d_M_gate_169 ?_
                      refine lv_aload_n hx hb d_M_gate_172 rfl (lv_at hl 1 rfl) ?_
                      refine va_get (D := L.1) (ci := 5) (v := .int (I_26 1)) (C := qR5) (T := qT5) (N := 16) hx hb hts qi5 hown hK hw.1 0 rfl rfl 1 (by decide) (hts _ wG733) (fun _ h9 => h9) rfl d_M_gate_173 ?_
                      refine lv_iload hx hb d_M_gate_176 (lv_at hl 6 rfl) ?_
                      obtain ⟨hi_36, h⟩ := h
                      refine m_iast hx hb hK hw 4 5 rfl (fun _ => rfl) hi_36 d_M_gate_178 (fun H locs hw => ?_)
                      obtain ⟨F_37, eF_37⟩ : ∃ y : MF, y = setF F_35 4 (upd (F_35 4) (I_26 1).toNatClampNeg a5) := ⟨_, rfl⟩
                      rw [← eF_37] at hw
                      replace h := h F_37 eF_37
                      refine lv_aload_n hx hb d_M_gate_179 rfl (lv_at hl 1 rfl) ?_
                      refine va_get (D := L.1) (ci := 5) (v := .ref (cA L 6)) (C := qR5) (T := qT5) (N := 16) hx hb hts qi5 hown hK hw.1 0 rfl rfl 8 (by decide) (hts _ wG740) (fun _ h9 => h9) rfl d_M_gate_180 ?_
                      refine lv_aload_n hx hb d_M_gate_183 rfl (lv_at hl 1 rfl) ?_
                      refine va_get (D := L.1) (ci := 5) (v := .int (I_26 1)) (C := qR5) (T := qT5) (N := 16) hx hb hts qi5 hown hK hw.1 0 rfl rfl 1 (by decide) (hts _ wG733) (fun _ h9 => h9) rfl d_M_gate_184 ?_
                      refine lv_aload_n hx hb d_M_gate_187 rfl (lv_at hl 1 rfl) ?_
                      refine va_get (D := L.1) (ci := 5) (v := .ref (cA L 7)) (C := qR5) (T := qT5) (N := 16) hx hb hts qi5 hown hK hw.1 0 rfl rfl 9 (by decide) (hts _ wG741) (fun _ h9 => h9) rfl d_M_gate_188 ?_
                      refine lv_iload hx hb d_M_gate_191 (lv_at hl 6 rfl) ?_
                      obtain ⟨hi_38, h⟩ := h
                      refine va_iald hx hb hK hw.1 7 0 rfl rfl hi_38 d_M_gate_193 ?_
                      obtain ⟨hi_39, h⟩ := h
                      refine m_iast hx hb hK hw 5 6 rfl (fun _ => rfl) hi_39 d_M_gate_194 (fun H locs hw => ?_)
                      obtain ⟨F_40, eF_40⟩ : ∃ y : MF, y = setF F_37 5 (upd (F_37 5) (I_26 1).toNatClampNeg (F_37 6 a5.toNatClampNeg)) := ⟨_, rfl⟩
                      rw [← eF_40] at hw
                      replace h := h F_40 eF_40
                      refine lv_aload_n hx hb d_M_gate_195 rfl (lv_at hl 1 rfl) ?_
                      refine va_get (D := L.1) (ci := 5) (v := .ref (cA L 7)) (C := qR5) (T := qT5) (N := 16) hx hb hts qi5 hown hK hw.1 0 rfl rfl 9 (by decide) (hts _ wG741) (fun _ h9 => h9) rfl d_M_gate_196 ?_
                      refine lv_iload hx hb d_M_gate_199 (lv_at hl 6 rfl) ?_
                      refine lv_dup2_11 hx hb d_M_gate_201 rfl rfl ?_
                      obtain ⟨hi_41, h⟩ := h
                      refine va_iald hx hb hK hw.1 7 0 rfl rfl hi_41 d_M_gate_202 ?_
                      refine lv_iload hx hb d_M_gate_203 (lv_at hl 0 rfl) ?_
                      refine lv_iconst (v := 1) hx hb d_M_gate_205 (by decide) ?_
                      refine lv_iadd hx hb d_M_gate_206 ?_
                      refine lv_iadd hx hb d_M_gate_207 ?_
                      obtain ⟨hi_42, h⟩ := h
                      refine m_iast hx hb hK hw 6 7 rfl (fun _ => rfl) hi_42 d_M_gate_208 (fun H locs hw => ?_)
                      obtain ⟨F_43, eF_43⟩ : ∃ y : MF, y = setF F_40 6 (upd (F_40 6) a5.toNatClampNeg ((F_40 6 a5.toNatClampNeg) + (3 + 1))) := ⟨_, rfl⟩
                      rw [← eF_43] at hw
                      replace h := h F_43 eF_43
                      refine lv_aload_n hx hb d_M_gate_209 rfl (lv_at hl 1 rfl) ?_
                      refine lv_dup hx hb d_M_gate_210 rfl ?_
                      refine va_get (D := L.1) (ci := 5) (v := .int (I_26 1)) (C := qR5) (T := qT5) (N := 16) hx hb hts qi5 hown hK hw.1 0 rfl rfl 1 (by decide) (hts _ wG733) (fun _ h9 => h9) rfl d_M_gate_211 ?_
                      refine lv_iconst (v := 1) hx hb d_M_gate_214 (by decide) ?_
                      refine lv_iadd hx hb d_M_gate_215 ?_
                      refine va_put (D := L.1) (ci := 5) (v := .int ((I_26 1) + 1)) (ty := .int) (C := qR5) (T := qT5) (N := 16) hx hb hts qi5 qy5 qk5 qn5 hown hK hw.1 hw.2.1 hw.2.2 0 rfl rfl 1 (by decide) (hts _ wG733) (fun _ h9 => h9) rfl (by decide +kernel) rfl rfl (Nat.le_of_ble_eq_true rfl) d_M_gate_216 (fun H locs h1 h2 h3 => ?_)
                      replace hw : MW L A s.heap (setI I_26 1 ((I_26 1) + 1)) F_43 G H locs := ⟨h1, h2, h3⟩
                      clear h1 h2 h3
                      obtain ⟨I_44, eI_44⟩ : ∃ y : MI, y = setI I_26 1 ((I_26 1) + 1) := ⟨_, rfl⟩
                      rw [← eI_44] at hw
                      replace h := h I_44 eI_44
                      refine lv_aload_n hx hb d_M_gate_219 rfl (lv_at hl 1 rfl) ?_
                      refine lv_iconst (v := (-1)) hx hb d_M_gate_220 (by decide) ?_
                      refine va_put (D := L.1) (ci := 5) (v := .int (-1)) (ty := .int) (C := qR5) (T := qT5) (N := 16) hx hb hts qi5 qy5 qk5 qn5 hown hK hw.1 hw.2.1 hw.2.2 0 rfl rfl 2 (by decide) (hts _ wG734) (fun _ h9 => h9) rfl (by decide +kernel) rfl rfl (Nat.le_of_ble_eq_true rfl) d_M_gate_221 (fun H locs h1 h2 h3 => ?_)
                      replace hw : MW L A s.heap (setI I_44 2 (-1)) F_43 G H locs := ⟨h1, h2, h3⟩
                      clear h1 h2 h3
                      obtain ⟨I_45, eI_45⟩ : ∃ y : MI, y = setI I_44 2 (-1) := ⟨_, rfl⟩
                      rw [← eI_45] at hw
                      replace h := h I_45 eI_45
                      refine lv_aload_n hx hb d_M_gate_224 rfl (lv_at hl 1 rfl) ?_
                      refine va_get (D := L.1) (ci := 5) (v := .int (I_45 1)) (C := qR5) (T := qT5) (N := 16) hx hb hts qi5 hown hK hw.1 0 rfl rfl 1 (by decide) (hts _ wG733) (fun _ h9 => h9) rfl d_M_gate_225 ?_
                      refine lv_iconst (v := 1) hx hb d_M_gate_228 (by decide) ?_
                      refine lv_isub hx hb d_M_gate_229 ?_
                      exact W.iret hx hb hr (fun t ht hW => ⟨⟨_, (I_45, F_43, G), rfl, h, by rw [ht]; exact hw.1, va_K.moved hW.alike hK, hw.2.1⟩, hw.2.2.F ht⟩) hw.2.2.2.2 d_M_gate_230
                    · replace h := h.2 c_31
                      refine lv_iload_n hx hb d_M_gate_151 rfl (lv_at hl 4 rfl) ?_
                      refine lv_goto (tgt := 156) hx hb d_M_gate_152 (by decide) ?_
                      obtain ⟨hi_46, h⟩ := h
                      refine m_iast hx hb hK hw 2 3 rfl (fun _ => rfl) hi_46 d_M_gate_156 (fun H locs hw => ?_)
                      obtain ⟨F_47, eF_47⟩ : ∃ y : MF, y = setF F_30 2 (upd (F_30 2) (I_26 1).toNatClampNeg a3) := ⟨_, rfl⟩
                      rw [← eF_47] at hw
                      replace h := h F_47 eF_47
                      refine lv_aload_n hx hb d_M_gate_157 rfl (lv_at hl 1 rfl) ?_
                      refine va_get (D := L.1) (ci := 5) (v := .ref (cA L 4)) (C := qR5) (T := qT5) (N := 16) hx hb hts qi5 hown hK hw.1 0 rfl rfl 6 (by decide) (hts _ wG738) (fun _ h9 => h9) rfl d_M_gate_158 ?_
                      refine lv_aload_n hx hb d_M_gate_161 rfl (lv_at hl 1 rfl) ?_
                      refine va_get (D := L.1) (ci := 5) (v := .int (I_26 1)) (C := qR5) (T := qT5) (N := 16) hx hb hts qi5 hown hK hw.1 0 rfl rfl 1 (by decide) (hts _ wG733) (fun _ h9 => h9) rfl d_M_gate_162 ?_
                      refine lv_iload hx hb d_M_gate_165 (lv_at hl 5 rfl) ?_
                      obtain ⟨hi_48, h⟩ := h
                      refine m_iast hx hb hK hw 3 4 rfl (fun _ => rfl) hi_48 d_M_gate_167 (fun H locs hw => ?_)
                      obtain ⟨F_49, eF_49⟩ : ∃ y : MF, y = setF F_47 3 (upd (F_47 3) (I_26 1).toNatClampNeg a4) := ⟨_, rfl⟩
                      rw [← eF_49] at hw
                      replace h := h F_49 eF_49
                      refine lv_aload_n hx hb d_M_gate_168 rfl (lv_at hl 1 rfl) ?_
                      refine va_get (D := L.1) (ci := 5) (v := .ref (cA L 5)) (C := qR5) (T := qT5) (N := 16) hx hb hts qi5 hown hK hw.1 0 rfl rfl 7 (by decide) (hts _ wG739) (fun _ h9 => h9) rfl d_M_gate_169 ?_
                      refine lv_aload_n hx hb d_M_gate_172 rfl (lv_at hl 1 rfl) ?_
                      refine va_get (D := L.1) (ci := 5) (v := .int (I_26 1)) (C := qR5) (T := qT5) (N := 16) hx hb hts qi5 hown hK hw.1 0 rfl rfl 1 (by decide) (hts _ wG733) (fun _ h9 => h9) rfl d_M_gate_173 ?_
                      refine lv_iload hx hb d_M_gate_176 (lv_at hl 6 rfl) ?_
                      obtain ⟨hi_50, h⟩ := h
                      refine m_iast hx hb hK hw 4 5 rfl (fun _ => rfl) hi_50 d_M_gate_178 (fun H locs hw => ?_)
                      obtain ⟨F_51, eF_51⟩ : ∃ y : MF, y = setF F_49 4 (upd (F_49 4) (I_26 1).toNatClampNeg a5) := ⟨_, rfl⟩
                      rw [← eF_51] at hw
                      replace h := h F_51 eF_51
                      refine lv_aload_n hx hb d_M_gate_179 rfl (lv_at hl 1 rfl) ?_
                      refine va_get (D := L.1) (ci := 5) (v := .ref (cA L 6)) (C := qR5) (T := qT5) (N := 16) hx hb hts qi5 hown hK hw.1 0 rfl rfl 8 (by decide) (hts _ wG740) (fun _ h9 => h9) rfl d_M_gate_180 ?_
                      refine lv_aload_n hx hb d_M_gate_183 rfl (lv_at hl 1 rfl) ?_
                      refine va_get (D := L.1) (ci := 5) (v := .int (I_26 1)) (C := qR5) (T := qT5) (N := 16) hx hb hts qi5 hown hK hw.1 0 rfl rfl 1 (by decide) (hts _ wG733) (fun _ h9 => h9) rfl d_M_gate_184 ?_
                      refine lv_aload_n hx hb d_M_gate_187 rfl (lv_at hl 1 rfl) ?_
                      refine va_get (D := L.1) (ci := 5) (v := .ref (cA L 7)) (C := qR5) (T := qT5) (N := 16) hx hb hts qi5 hown hK hw.1 0 rfl rfl 9 (by decide) (hts _ wG741) (fun _ h9 => h9) rfl d_M_gate_188 ?_
                      refine lv_iload hx hb d_M_gate_191 (lv_at hl 6 rfl) ?_
                      obtain ⟨hi_52, h⟩ := h
                      refine va_iald hx hb hK hw.1 7 0 rfl rfl hi_52 d_M_gate_193 ?_
                      obtain ⟨hi_53, h⟩ := h
                      refine m_iast hx hb hK hw 5 6 rfl (fun _ => rfl) hi_53 d_M_gate_194 (fun H locs hw => ?_)
                      obtain ⟨F_54, eF_54⟩ : ∃ y : MF, y = setF F_51 5 (upd (F_51 5) (I_26 1).toNatClampNeg (F_51 6 a5.toNatClampNeg)) := ⟨_, rfl⟩
                      rw [← eF_54] at hw
                      replace h := h F_54 eF_54
                      refine lv_aload_n hx hb d_M_gate_195 rfl (lv_at hl 1 rfl) ?_
                      refine va_get (D := L.1) (ci := 5) (v := .ref (cA L 7)) (C := qR5) (T := qT5) (N := 16) hx hb hts qi5 hown hK hw.1 0 rfl rfl 9 (by decide) (hts _ wG741) (fun _ h9 => h9) rfl d_M_gate_196 ?_
                      refine lv_iload hx hb d_M_gate_199 (lv_at hl 6 rfl) ?_
                      refine lv_dup2_11 hx hb d_M_gate_201 rfl rfl ?_
                      obtain ⟨hi_55, h⟩ := h
                      refine va_iald hx hb hK hw.1 7 0 rfl rfl hi_55 d_M_gate_202 ?_
                      refine lv_iload hx hb d_M_gate_203 (lv_at hl 0 rfl) ?_
                      refine lv_iconst (v := 1) hx hb d_M_gate_205 (by decide) ?_
                      refine lv_iadd hx hb d_M_gate_206 ?_
                      refine lv_iadd hx hb d_M_gate_207 ?_
                      obtain ⟨hi_56, h⟩ := h
                      refine m_iast hx hb hK hw 6 7 rfl (fun _ => rfl) hi_56 d_M_gate_208 (fun H locs hw => ?_)
                      obtain ⟨F_57, eF_57⟩ : ∃ y : MF, y = setF F_54 6 (upd (F_54 6) a5.toNatClampNeg ((F_54 6 a5.toNatClampNeg) + (3 + 1))) := ⟨_, rfl⟩
                      rw [← eF_57] at hw
                      replace h := h F_57 eF_57
                      refine lv_aload_n hx hb d_M_gate_209 rfl (lv_at hl 1 rfl) ?_
                      refine lv_dup hx hb d_M_gate_210 rfl ?_
                      refine va_get (D := L.1) (ci := 5) (v := .int (I_26 1)) (C := qR5) (T := qT5) (N := 16) hx hb hts qi5 hown hK hw.1 0 rfl rfl 1 (by decide) (hts _ wG733) (fun _ h9 => h9) rfl d_M_gate_211 ?_
                      refine lv_iconst (v := 1) hx hb d_M_gate_214 (by decide) ?_
                      refine lv_iadd hx hb d_M_gate_215 ?_
                      refine va_put (D := L.1) (ci := 5) (v := .int ((I_26 1) + 1)) (ty := .int) (C := qR5) (T := qT5) (N := 16) hx hb hts qi5 qy5 qk5 qn5 hown hK hw.1 hw.2.1 hw.2.2 0 rfl rfl 1 (by decide) (hts _ wG733) (fun _ h9 => h9) rfl (by decide +kernel) rfl rfl (Nat.le_of_ble_eq_true rfl) d_M_gate_216 (fun H locs h1 h2 h3 => ?_)
                      replace hw : MW L A s.heap (setI I_26 1 ((I_26 1) + 1)) F_57 G H locs := ⟨h1, h2, h3⟩
                      clear h1 h2 h3
                      obtain ⟨I_58, eI_58⟩ : ∃ y : MI, y = setI I_26 1 ((I_26 1) + 1) := ⟨_, rfl⟩
                      rw [← eI_58] at hw
                      replace h := h I_58 eI_58
                      refine lv_aload_n hx hb d_M_gate_219 rfl (lv_at hl 1 rfl) ?_
                      refine lv_iconst (v := (-1)) hx hb d_M_gate_220 (by decide) ?_
                      refine va_put (D := L.1) (ci := 5) (v := .int (-1)) (ty := .int) (C := qR5) (T := qT5) (N := 16) hx hb hts qi5 qy5 qk5 qn5 hown hK hw.1 hw.2.1 hw.2.2 0 rfl rfl 2 (by decide) (hts _ wG734) (fun _ h9 => h9) rfl (by decide +kernel) rfl rfl (Nat.le_of_ble_eq_true rfl) d_M_gate_221 (fun H locs h1 h2 h3 => ?_)
                      replace hw : MW L A s.heap (setI I_58 2 (-1)) F_57 G H locs := ⟨h1, h2, h3⟩
                      clear h1 h2 h3
                      obtain ⟨I_59, eI_59⟩ : ∃ y : MI, y = setI I_58 2 (-1) := ⟨_, rfl⟩
                      rw [← eI_59] at hw
                      replace h := h I_59 eI_59
                      refine lv_aload_n hx hb d_M_gate_224 rfl (lv_at hl 1 rfl) ?_
                      refine va_get (D := L.1) (ci := 5) (v := .int (I_59 1)) (C := qR5) (T := qT5) (N := 16) hx hb hts qi5 hown hK hw.1 0 rfl rfl 1 (by decide) (hts _ wG733) (fun _ h9 => h9) rfl d_M_gate_225 ?_
                      refine lv_iconst (v := 1) hx hb d_M_gate_228 (by decide) ?_
                      refine lv_isub hx hb d_M_gate_229 ?_
                      exact W.iret hx hb hr (fun t ht hW => ⟨⟨_, (I_59, F_57, G), rfl, h, by rw [ht]; exact hw.1, va_K.moved hW.alike hK, hw.2.1⟩, hw.2.2.F ht⟩) hw.2.2.2.2 d_M_gate_230
                  · replace h := h.2 c_25
                    refine lv_aload_n hx hb d_M_gate_107 rfl (lv_at hl 1 rfl) ?_
                    refine lv_iconst (v := 2) hx hb d_M_gate_108 (by decide) ?_
                    refine m_calli (va_runV (As := [.int 2]) (rest := []) ⟨hx, hb, hml, hown, hts⟩ (c_M_refuse l L 2 I F G _ _ h) (cwV 1 hts (gV wG793 wG795 wG20 wG54 wG796) rfl rfl rfl (by decide +kernel) ⟨Nat.le_of_ble_eq_true rfl, Nat.le_of_ble_eq_true rfl⟩) (mPrm hK hN hw) rfl rfl hl.1 rfl (lv_room (Nat.le_of_ble_eq_true rfl)) d_M_gate_109 ⟨Nat.le_of_ble_eq_true rfl, Nat.le_of_ble_eq_true rfl⟩) hw hA (fun r_60 I_61 F_61 G_61 H locs h hw => ?_)
                    exact W.iret hx hb hr (fun t ht hW => ⟨⟨_, (I_61, F_61, G_61), rfl, h, by rw [ht]; exact hw.1, va_K.moved hW.alike hK, hw.2.1⟩, hw.2.2.F ht⟩) hw.2.2.2.2 d_M_gate_112
            · replace h := h.2 c_16
              refine lv_iconst (v := 2) hx hb d_M_gate_66 (by decide) ?_
              refine lv_goto (tgt := 71) hx hb d_M_gate_67 (by decide) ?_
              refine lv_istore (lv' := [(6, .int 2), (0, .ref (cA L 0)), (1, .int a1), (2, .int a2), (3, .int a3), (4, .int a4), (5, .int a5)]) hx hb d_M_gate_71 hl (by decide) rfl (fun ls hl => ?_)
              refine lv_aload_n hx hb d_M_gate_73 rfl (lv_at hl 1 rfl) ?_
              refine va_get (D := L.1) (ci := 5) (v := .int (I 1)) (C := qR5) (T := qT5) (N := 16) hx hb hts qi5 hown hK hw.1 0 rfl rfl 1 (by decide) (hts _ wG733) (fun _ h9 => h9) rfl d_M_gate_74 ?_
              refine lv_bipush (v := 12) hx hb d_M_gate_77 (by decide) ?_
              refine lv_icmp_eq (tgt := 107) hx hb d_M_gate_79 (by decide) (fun c_62 => ?_) (fun c_62 => ?_)
              · replace h := h.1 c_62
                refine lv_aload_n hx hb d_M_gate_107 rfl (lv_at hl 1 rfl) ?_
                refine lv_iconst (v := 2) hx hb d_M_gate_108 (by decide) ?_
                refine m_calli (va_runV (As := [.int 2]) (rest := []) ⟨hx, hb, hml, hown, hts⟩ (c_M_refuse l L 2 I F G _ _ h) (cwV 1 hts (gV wG793 wG795 wG20 wG54 wG796) rfl rfl rfl (by decide +kernel) ⟨Nat.le_of_ble_eq_true rfl, Nat.le_of_ble_eq_true rfl⟩) (mPrm hK hN hw) rfl rfl hl.1 rfl (lv_room (Nat.le_of_ble_eq_true rfl)) d_M_gate_109 ⟨Nat.le_of_ble_eq_true rfl, Nat.le_of_ble_eq_true rfl⟩) hw hA (fun r_63 I_64 F_64 G_64 H locs h hw => ?_)
                exact W.iret hx hb hr (fun t ht hW => ⟨⟨_, (I_64, F_64, G_64), rfl, h, by rw [ht]; exact hw.1, va_K.moved hW.alike hK, hw.2.1⟩, hw.2.2.F ht⟩) hw.2.2.2.2 d_M_gate_112
              · replace h := h.2 c_62
                refine lv_aload_n hx hb d_M_gate_82 rfl (lv_at hl 1 rfl) ?_
                refine va_get (D := L.1) (ci := 5) (v := .ref (cA L 7)) (C := qR5) (T := qT5) (N := 16) hx hb hts qi5 hown hK hw.1 0 rfl rfl 9 (by decide) (hts _ wG741) (fun _ h9 => h9) rfl d_M_gate_83 ?_
                refine lv_iload hx hb d_M_gate_86 (lv_at hl 6 rfl) ?_
                obtain ⟨hi_65, h⟩ := h
                refine va_iald hx hb hK hw.1 7 0 rfl rfl hi_65 d_M_gate_88 ?_
                refine lv_iload hx hb d_M_gate_89 (lv_at hl 0 rfl) ?_
                refine lv_iadd hx hb d_M_gate_91 ?_
                refine lv_bipush (v := 24) hx hb d_M_gate_92 (by decide) ?_
                refine lv_icmp_gt (tgt := 107) hx hb d_M_gate_94 (by decide) (fun c_66 => ?_) (fun c_66 => ?_)
                · replace h := h.1 c_66
                  refine lv_aload_n hx hb d_M_gate_107 rfl (lv_at hl 1 rfl) ?_
                  refine lv_iconst (v := 2) hx hb d_M_gate_108 (by decide) ?_
                  refine m_calli (va_runV (As := [.int 2]) (rest := []) ⟨hx, hb, hml, hown, hts⟩ (c_M_refuse l L 2 I F G _ _ h) (cwV 1 hts (gV wG793 wG795 wG20 wG54 wG796) rfl rfl rfl (by decide +kernel) ⟨Nat.le_of_ble_eq_true rfl, Nat.le_of_ble_eq_true rfl⟩) (mPrm hK hN hw) rfl rfl hl.1 rfl (lv_room (Nat.le_of_ble_eq_true rfl)) d_M_gate_109 ⟨Nat.le_of_ble_eq_true rfl, Nat.le_of_ble_eq_true rfl⟩) hw hA (fun r_67 I_68 F_68 G_68 H locs h hw => ?_)
                  exact W.iret hx hb hr (fun t ht hW => ⟨⟨_, (I_68, F_68, G_68), rfl, h, by rw [ht]; exact hw.1, va_K.moved hW.alike hK, hw.2.1⟩, hw.2.2.F ht⟩) hw.2.2.2.2 d_M_gate_112
                · replace h := h.2 c_66
                  refine lv_aload_n hx hb d_M_gate_97 rfl (lv_at hl 1 rfl) ?_
                  refine lv_iload hx hb d_M_gate_98 (lv_at hl 5 rfl) ?_
                  refine vp_callSi (va_runV (As := [.int a4]) (rest := []) ⟨hx, hb, hml, hown, hts⟩ (c_M_driver l L a4 I F G _ h) (cwV 1 hts (gV wG797 wG799 wG21 wG54 wG800) rfl rfl rfl (by decide +kernel) ⟨Nat.le_of_ble_eq_true rfl, Nat.le_of_ble_eq_true rfl⟩) (mPre hK hN hw.1) rfl rfl hl.1 rfl (lv_room (Nat.le_of_ble_eq_true rfl)) d_M_gate_100 ⟨Nat.le_of_ble_eq_true rfl, Nat.le_of_ble_eq_true rfl⟩).run (fun r_69 h => ?_)
                  refine lv_iconst (v := (-1)) hx hb d_M_gate_103 (by decide) ?_
                  refine lv_icmp_eq (tgt := 113) hx hb d_M_gate_104 (by decide) (fun c_70 => ?_) (fun c_70 => ?_)
                  · replace h := h.1 c_70
                    refine lv_aload_n hx hb d_M_gate_113 rfl (lv_at hl 1 rfl) ?_
                    refine lv_iconst (v := 0) hx hb d_M_gate_114 (by decide) ?_
                    refine va_put (D := L.1) (ci := 5) (v := .int 0) (ty := .int) (C := qR5) (T := qT5) (N := 16) hx hb hts qi5 qy5 qk5 qn5 hown hK hw.1 hw.2.1 hw.2.2 0 rfl rfl 0 (by decide) (hts _ wG732) (fun _ h9 => h9) rfl (by decide +kernel) rfl rfl (Nat.le_of_ble_eq_true rfl) d_M_gate_115 (fun H locs h1 h2 h3 => ?_)
                    replace hw : MW L A s.heap (setI I 0 0) F G H locs := ⟨h1, h2, h3⟩
                    clear h1 h2 h3
                    obtain ⟨I_71, eI_71⟩ : ∃ y : MI, y = setI I 0 0 := ⟨_, rfl⟩
                    rw [← eI_71] at hw
                    replace h := h I_71 eI_71
                    refine lv_aload_n hx hb d_M_gate_118 rfl (lv_at hl 1 rfl) ?_
                    refine va_get (D := L.1) (ci := 5) (v := .ref (cA L 1)) (C := qR5) (T := qT5) (N := 16) hx hb hts qi5 hown hK hw.1 0 rfl rfl 3 (by decide) (hts _ wG735) (fun _ h9 => h9) rfl d_M_gate_119 ?_
                    refine lv_aload_n hx hb d_M_gate_122 rfl (lv_at hl 1 rfl) ?_
                    refine va_get (D := L.1) (ci := 5) (v := .int (I_71 1)) (C := qR5) (T := qT5) (N := 16) hx hb hts qi5 hown hK hw.1 0 rfl rfl 1 (by decide) (hts _ wG733) (fun _ h9 => h9) rfl d_M_gate_123 ?_
                    refine lv_iload_n hx hb d_M_gate_126 rfl (lv_at hl 2 rfl) ?_
                    obtain ⟨hi_72, h⟩ := h
                    refine m_iast hx hb hK hw 0 1 rfl (fun _ => rfl) hi_72 d_M_gate_127 (fun H locs hw => ?_)
                    obtain ⟨F_73, eF_73⟩ : ∃ y : MF, y = setF F 0 (upd (F 0) (I_71 1).toNatClampNeg a1) := ⟨_, rfl⟩
                    rw [← eF_73] at hw
                    replace h := h F_73 eF_73
                    refine lv_aload_n hx hb d_M_gate_128 rfl (lv_at hl 1 rfl) ?_
                    refine va_get (D := L.1) (ci := 5) (v := .ref (cA L 2)) (C := qR5) (T := qT5) (N := 16) hx hb hts qi5 hown hK hw.1 0 rfl rfl 4 (by decide) (hts _ wG736) (fun _ h9 => h9) rfl d_M_gate_129 ?_
                    refine lv_aload_n hx hb d_M_gate_132 rfl (lv_at hl 1 rfl) ?_
                    refine va_get (D := L.1) (ci := 5) (v := .int (I_71 1)) (C := qR5) (T := qT5) (N := 16) hx hb hts qi5 hown hK hw.1 0 rfl rfl 1 (by decide) (hts _ wG733) (fun _ h9 => h9) rfl d_M_gate_133 ?_
                    refine lv_iload_n hx hb d_M_gate_136 rfl (lv_at hl 3 rfl) ?_
                    obtain ⟨hi_74, h⟩ := h
                    refine m_iast hx hb hK hw 1 2 rfl (fun _ => rfl) hi_74 d_M_gate_137 (fun H locs hw => ?_)
                    obtain ⟨F_75, eF_75⟩ : ∃ y : MF, y = setF F_73 1 (upd (F_73 1) (I_71 1).toNatClampNeg a2) := ⟨_, rfl⟩
                    rw [← eF_75] at hw
                    replace h := h F_75 eF_75
                    refine lv_aload_n hx hb d_M_gate_138 rfl (lv_at hl 1 rfl) ?_
                    refine va_get (D := L.1) (ci := 5) (v := .ref (cA L 3)) (C := qR5) (T := qT5) (N := 16) hx hb hts qi5 hown hK hw.1 0 rfl rfl 5 (by decide) (hts _ wG737) (fun _ h9 => h9) rfl d_M_gate_139 ?_
                    refine lv_aload_n hx hb d_M_gate_142 rfl (lv_at hl 1 rfl) ?_
                    refine va_get (D := L.1) (ci := 5) (v := .int (I_71 1)) (C := qR5) (T := qT5) (N := 16) hx hb hts qi5 hown hK hw.1 0 rfl rfl 1 (by decide) (hts _ wG733) (fun _ h9 => h9) rfl d_M_gate_143 ?_
                    refine lv_iload_n hx hb d_M_gate_146 rfl (lv_at hl 2 rfl) ?_
                    refine lv_iconst (v := 1) hx hb d_M_gate_147 (by decide) ?_
                    refine lv_icmp_le (tgt := 155) hx hb d_M_gate_148 (by decide) (fun c_76 => ?_) (fun c_76 => ?_)
                    · replace h := h.1 c_76
                      refine lv_iconst (v := (-1)) hx hb d_M_gate_155 (by decide) ?_
                      obtain ⟨hi_77, h⟩ := h
                      refine m_iast hx hb hK hw 2 3 rfl (fun _ => rfl) hi_77 d_M_gate_156 (fun H locs hw => ?_)
                      obtain ⟨F_78, eF_78⟩ : ∃ y : MF, y = setF F_75 2 (upd (F_75 2) (I_71 1).toNatClampNeg (-1)) := ⟨_, rfl⟩
                      rw [← eF_78] at hw
                      replace h := h F_78 eF_78
                      refine lv_aload_n hx hb d_M_gate_157 rfl (lv_at hl 1 rfl) ?_
                      refine va_get (D := L.1) (ci := 5) (v := .ref (cA L 4)) (C := qR5) (T := qT5) (N := 16) hx hb hts qi5 hown hK hw.1 0 rfl rfl 6 (by decide) (hts _ wG738) (fun _ h9 => h9) rfl d_M_gate_158 ?_
                      refine lv_aload_n hx hb d_M_gate_161 rfl (lv_at hl 1 rfl) ?_
                      refine va_get (D := L.1) (ci := 5) (v := .int (I_71 1)) (C := qR5) (T := qT5) (N := 16) hx hb hts qi5 hown hK hw.1 0 rfl rfl 1 (by decide) (hts _ wG733) (fun _ h9 => h9) rfl d_M_gate_162 ?_
                      refine lv_iload hx hb d_M_gate_165 (lv_at hl 5 rfl) ?_
                      obtain ⟨hi_79, h⟩ := h
                      refine m_iast hx hb hK hw 3 4 rfl (fun _ => rfl) hi_79 d_M_gate_167 (fun H locs hw => ?_)
                      obtain ⟨F_80, eF_80⟩ : ∃ y : MF, y = setF F_78 3 (upd (F_78 3) (I_71 1).toNatClampNeg a4) := ⟨_, rfl⟩
                      rw [← eF_80] at hw
                      replace h := h F_80 eF_80
                      refine lv_aload_n hx hb d_M_gate_168 rfl (lv_at hl 1 rfl) ?_
                      refine va_get (D := L.1) (ci := 5) (v := .ref (cA L 5)) (C := qR5) (T := qT5) (N := 16) hx hb hts qi5 hown hK hw.1 0 rfl rfl 7 (by decide) (hts _ wG739) (fun _ h9 => h9) rfl d_M_gate_169 ?_
                      refine lv_aload_n hx hb d_M_gate_172 rfl (lv_at hl 1 rfl) ?_
                      refine va_get (D := L.1) (ci := 5) (v := .int (I_71 1)) (C := qR5) (T := qT5) (N := 16) hx hb hts qi5 hown hK hw.1 0 rfl rfl 1 (by decide) (hts _ wG733) (fun _ h9 => h9) rfl d_M_gate_173 ?_
                      refine lv_iload hx hb d_M_gate_176 (lv_at hl 6 rfl) ?_
                      obtain ⟨hi_81, h⟩ := h
                      refine m_iast hx hb hK hw 4 5 rfl (fun _ => rfl) hi_81 d_M_gate_178 (fun H locs hw => ?_)
                      obtain ⟨F_82, eF_82⟩ : ∃ y : MF, y = setF F_80 4 (upd (F_80 4) (I_71 1).toNatClampNeg a5) := ⟨_, rfl⟩
                      rw [← eF_82] at hw
                      replace h := h F_82 eF_82
                      refine lv_aload_n hx hb d_M_gate_179 rfl (lv_at hl 1 rfl) ?_
                      refine va_get (D := L.1) (ci := 5) (v := .ref (cA L 6)) (C := qR5) (T := qT5) (N := 16) hx hb hts qi5 hown hK hw.1 0 rfl rfl 8 (by decide) (hts _ wG740) (fun _ h9 => h9) rfl d_M_gate_180 ?_
                      refine lv_aload_n hx hb d_M_gate_183 rfl (lv_at hl 1 rfl) ?_
                      refine va_get (D := L.1) (ci := 5) (v := .int (I_71 1)) (C := qR5) (T := qT5) (N := 16) hx hb hts qi5 hown hK hw.1 0 rfl rfl 1 (by decide) (hts _ wG733) (fun _ h9 => h9) rfl d_M_gate_184 ?_
                      refine lv_aload_n hx hb d_M_gate_187 rfl (lv_at hl 1 rfl) ?_
                      refine va_get (D := L.1) (ci := 5) (v := .ref (cA L 7)) (C := qR5) (T := qT5) (N := 16) hx hb hts qi5 hown hK hw.1 0 rfl rfl 9 (by decide) (hts _ wG741) (fun _ h9 => h9) rfl d_M_gate_188 ?_
                      refine lv_iload hx hb d_M_gate_191 (lv_at hl 6 rfl) ?_
                      obtain ⟨hi_83, h⟩ := h
                      refine va_iald hx hb hK hw.1 7 0 rfl rfl hi_83 d_M_gate_193 ?_
                      obtain ⟨hi_84, h⟩ := h
                      refine m_iast hx hb hK hw 5 6 rfl (fun _ => rfl) hi_84 d_M_gate_194 (fun H locs hw => ?_)
                      obtain ⟨F_85, eF_85⟩ : ∃ y : MF, y = setF F_82 5 (upd (F_82 5) (I_71 1).toNatClampNeg (F_82 6 a5.toNatClampNeg)) := ⟨_, rfl⟩
                      rw [← eF_85] at hw
                      replace h := h F_85 eF_85
                      refine lv_aload_n hx hb d_M_gate_195 rfl (lv_at hl 1 rfl) ?_
                      refine va_get (D := L.1) (ci := 5) (v := .ref (cA L 7)) (C := qR5) (T := qT5) (N := 16) hx hb hts qi5 hown hK hw.1 0 rfl rfl 9 (by decide) (hts _ wG741) (fun _ h9 => h9) rfl d_M_gate_196 ?_
                      refine lv_iload hx hb d_M_gate_199 (lv_at hl 6 rfl) ?_
                      refine lv_dup2_11 hx hb d_M_gate_201 rfl rfl ?_
                      obtain ⟨hi_86, h⟩ := h
                      refine va_iald hx hb hK hw.1 7 0 rfl rfl hi_86 d_M_gate_202 ?_
                      refine lv_iload hx hb d_M_gate_203 (lv_at hl 0 rfl) ?_
                      refine lv_iconst (v := 1) hx hb d_M_gate_205 (by decide) ?_
                      refine lv_iadd hx hb d_M_gate_206 ?_
                      refine lv_iadd hx hb d_M_gate_207 ?_
                      obtain ⟨hi_87, h⟩ := h
                      refine m_iast hx hb hK hw 6 7 rfl (fun _ => rfl) hi_87 d_M_gate_208 (fun H locs hw => ?_)
                      obtain ⟨F_88, eF_88⟩ : ∃ y : MF, y = setF F_85 6 (upd (F_85 6) a5.toNatClampNeg ((F_85 6 a5.toNatClampNeg) + (2 + 1))) := ⟨_, rfl⟩
                      rw [← eF_88] at hw
                      replace h := h F_88 eF_88
                      refine lv_aload_n hx hb d_M_gate_209 rfl (lv_at hl 1 rfl) ?_
                      refine lv_dup hx hb d_M_gate_210 rfl ?_
                      refine va_get (D := L.1) (ci := 5) (v := .int (I_71 1)) (C := qR5) (T := qT5) (N := 16) hx hb hts qi5 hown hK hw.1 0 rfl rfl 1 (by decide) (hts _ wG733) (fun _ h9 => h9) rfl d_M_gate_211 ?_
                      refine lv_iconst (v := 1) hx hb d_M_gate_214 (by decide) ?_
                      refine lv_iadd hx hb d_M_gate_215 ?_
                      refine va_put (D := L.1) (ci := 5) (v := .int ((I_71 1) + 1)) (ty := .int) (C := qR5) (T := qT5) (N := 16) hx hb hts qi5 qy5 qk5 qn5 hown hK hw.1 hw.2.1 hw.2.2 0 rfl rfl 1 (by decide) (hts _ wG733) (fun _ h9 => h9) rfl (by decide +kernel) rfl rfl (Nat.le_of_ble_eq_true rfl) d_M_gate_216 (fun H locs h1 h2 h3 => ?_)
                      replace hw : MW L A s.heap (setI I_71 1 ((I_71 1) + 1)) F_88 G H locs := ⟨h1, h2, h3⟩
                      clear h1 h2 h3
                      obtain ⟨I_89, eI_89⟩ : ∃ y : MI, y = setI I_71 1 ((I_71 1) + 1) := ⟨_, rfl⟩
                      rw [← eI_89] at hw
                      replace h := h I_89 eI_89
                      refine lv_aload_n hx hb d_M_gate_219 rfl (lv_at hl 1 rfl) ?_
                      refine lv_iconst (v := (-1)) hx hb d_M_gate_220 (by decide) ?_
                      refine va_put (D := L.1) (ci := 5) (v := .int (-1)) (ty := .int) (C := qR5) (T := qT5) (N := 16) hx hb hts qi5 qy5 qk5 qn5 hown hK hw.1 hw.2.1 hw.2.2 0 rfl rfl 2 (by decide) (hts _ wG734) (fun _ h9 => h9) rfl (by decide +kernel) rfl rfl (Nat.le_of_ble_eq_true rfl) d_M_gate_221 (fun H locs h1 h2 h3 => ?_)
                      replace hw : MW L A s.heap (setI I_89 2 (-1)) F_88 G H locs := ⟨h1, h2, h3⟩
                      clear h1 h2 h3
                      obtain ⟨I_90, eI_90⟩ : ∃ y : MI, y = setI I_89 2 (-1) := ⟨_, rfl⟩
                      rw [← eI_90] at hw
                      replace h := h I_90 eI_90
                      refine lv_aload_n hx hb d_M_gate_224 rfl (lv_at hl 1 rfl) ?_
                      refine va_get (D := L.1) (ci := 5) (v := .int (I_90 1)) (C := qR5) (T := qT5) (N := 16) hx hb hts qi5 hown hK hw.1 0 rfl rfl 1 (by decide) (hts _ wG733) (fun _ h9 => h9) rfl d_M_gate_225 ?_
                      refine lv_iconst (v := 1) hx hb d_M_gate_228 (by decide) ?_
                      refine lv_isub hx hb d_M_gate_229 ?_
                      exact W.iret hx hb hr (fun t ht hW => ⟨⟨_, (I_90, F_88, G), rfl, h, by rw [ht]; exact hw.1, va_K.moved hW.alike hK, hw.2.1⟩, hw.2.2.F ht⟩) hw.2.2.2.2 d_M_gate_230
                    · replace h := h.2 c_76
                      refine lv_iload_n hx hb d_M_gate_151 rfl (lv_at hl 4 rfl) ?_
                      refine lv_goto (tgt := 156) hx hb d_M_gate_152 (by decide) ?_
                      obtain ⟨hi_91, h⟩ := h
                      refine m_iast hx hb hK hw 2 3 rfl (fun _ => rfl) hi_91 d_M_gate_156 (fun H locs hw => ?_)
                      obtain ⟨F_92, eF_92⟩ : ∃ y : MF, y = setF F_75 2 (upd (F_75 2) (I_71 1).toNatClampNeg a3) := ⟨_, rfl⟩
                      rw [← eF_92] at hw
                      replace h := h F_92 eF_92
                      refine lv_aload_n hx hb d_M_gate_157 rfl (lv_at hl 1 rfl) ?_
                      refine va_get (D := L.1) (ci := 5) (v := .ref (cA L 4)) (C := qR5) (T := qT5) (N := 16) hx hb hts qi5 hown hK hw.1 0 rfl rfl 6 (by decide) (hts _ wG738) (fun _ h9 => h9) rfl d_M_gate_158 ?_
                      refine lv_aload_n hx hb d_M_gate_161 rfl (lv_at hl 1 rfl) ?_
                      refine va_get (D := L.1) (ci := 5) (v := .int (I_71 1)) (C := qR5) (T := qT5) (N := 16) hx hb hts qi5 hown hK hw.1 0 rfl rfl 1 (by decide) (hts _ wG733) (fun _ h9 => h9) rfl d_M_gate_162 ?_
                      refine lv_iload hx hb d_M_gate_165 (lv_at hl 5 rfl) ?_
                      obtain ⟨hi_93, h⟩ := h
                      refine m_iast hx hb hK hw 3 4 rfl (fun _ => rfl) hi_93 d_M_gate_167 (fun H locs hw => ?_)
                      obtain ⟨F_94, eF_94⟩ : ∃ y : MF, y = setF F_92 3 (upd (F_92 3) (I_71 1).toNatClampNeg a4) := ⟨_, rfl⟩
                      rw [← eF_94] at hw
                      replace h := h F_94 eF_94
                      refine lv_aload_n hx hb d_M_gate_168 rfl (lv_at hl 1 rfl) ?_
                      refine va_get (D := L.1) (ci := 5) (v := .ref (cA L 5)) (C := qR5) (T := qT5) (N := 16) hx hb hts qi5 hown hK hw.1 0 rfl rfl 7 (by decide) (hts _ wG739) (fun _ h9 => h9) rfl d_M_gate_169 ?_
                      refine lv_aload_n hx hb d_M_gate_172 rfl (lv_at hl 1 rfl) ?_
                      refine va_get (D := L.1) (ci := 5) (v := .int (I_71 1)) (C := qR5) (T := qT5) (N := 16) hx hb hts qi5 hown hK hw.1 0 rfl rfl 1 (by decide) (hts _ wG733) (fun _ h9 => h9) rfl d_M_gate_173 ?_
                      refine lv_iload hx hb d_M_gate_176 (lv_at hl 6 rfl) ?_
                      obtain ⟨hi_95, h⟩ := h
                      refine m_iast hx hb hK hw 4 5 rfl (fun _ => rfl) hi_95 d_M_gate_178 (fun H locs hw => ?_)
                      obtain ⟨F_96, eF_96⟩ : ∃ y : MF, y = setF F_94 4 (upd (F_94 4) (I_71 1).toNatClampNeg a5) := ⟨_, rfl⟩
                      rw [← eF_96] at hw
                      replace h := h F_96 eF_96
                      refine lv_aload_n hx hb d_M_gate_179 rfl (lv_at hl 1 rfl) ?_
                      refine va_get (D := L.1) (ci := 5) (v := .ref (cA L 6)) (C := qR5) (T := qT5) (N := 16) hx hb hts qi5 hown hK hw.1 0 rfl rfl 8 (by decide) (hts _ wG740) (fun _ h9 => h9) rfl d_M_gate_180 ?_
                      refine lv_aload_n hx hb d_M_gate_183 rfl (lv_at hl 1 rfl) ?_
                      refine va_get (D := L.1) (ci := 5) (v := .int (I_71 1)) (C := qR5) (T := qT5) (N := 16) hx hb hts qi5 hown hK hw.1 0 rfl rfl 1 (by decide) (hts _ wG733) (fun _ h9 => h9) rfl d_M_gate_184 ?_
                      refine lv_aload_n hx hb d_M_gate_187 rfl (lv_at hl 1 rfl) ?_
                      refine va_get (D := L.1) (ci := 5) (v := .ref (cA L 7)) (C := qR5) (T := qT5) (N := 16) hx hb hts qi5 hown hK hw.1 0 rfl rfl 9 (by decide) (hts _ wG741) (fun _ h9 => h9) rfl d_M_gate_188 ?_
                      refine lv_iload hx hb d_M_gate_191 (lv_at hl 6 rfl) ?_
                      obtain ⟨hi_97, h⟩ := h
                      refine va_iald hx hb hK hw.1 7 0 rfl rfl hi_97 d_M_gate_193 ?_
                      obtain ⟨hi_98, h⟩ := h
                      refine m_iast hx hb hK hw 5 6 rfl (fun _ => rfl) hi_98 d_M_gate_194 (fun H locs hw => ?_)
                      obtain ⟨F_99, eF_99⟩ : ∃ y : MF, y = setF F_96 5 (upd (F_96 5) (I_71 1).toNatClampNeg (F_96 6 a5.toNatClampNeg)) := ⟨_, rfl⟩
                      rw [← eF_99] at hw
                      replace h := h F_99 eF_99
                      refine lv_aload_n hx hb d_M_gate_195 rfl (lv_at hl 1 rfl) ?_
                      refine va_get (D := L.1) (ci := 5) (v := .ref (cA L 7)) (C := qR5) (T := qT5) (N := 16) hx hb hts qi5 hown hK hw.1 0 rfl rfl 9 (by decide) (hts _ wG741) (fun _ h9 => h9) rfl d_M_gate_196 ?_
                      refine lv_iload hx hb d_M_gate_199 (lv_at hl 6 rfl) ?_
                      refine lv_dup2_11 hx hb d_M_gate_201 rfl rfl ?_
                      obtain ⟨hi_100, h⟩ := h
                      refine va_iald hx hb hK hw.1 7 0 rfl rfl hi_100 d_M_gate_202 ?_
                      refine lv_iload hx hb d_M_gate_203 (lv_at hl 0 rfl) ?_
                      refine lv_iconst (v := 1) hx hb d_M_gate_205 (by decide) ?_
                      refine lv_iadd hx hb d_M_gate_206 ?_
                      refine lv_iadd hx hb d_M_gate_207 ?_
                      obtain ⟨hi_101, h⟩ := h
                      refine m_iast hx hb hK hw 6 7 rfl (fun _ => rfl) hi_101 d_M_gate_208 (fun H locs hw => ?_)
                      obtain ⟨F_102, eF_102⟩ : ∃ y : MF, y = setF F_99 6 (upd (F_99 6) a5.toNatClampNeg ((F_99 6 a5.toNatClampNeg) + (2 + 1))) := ⟨_, rfl⟩
                      rw [← eF_102] at hw
                      replace h := h F_102 eF_102
                      refine lv_aload_n hx hb d_M_gate_209 rfl (lv_at hl 1 rfl) ?_
                      refine lv_dup hx hb d_M_gate_210 rfl ?_
                      refine va_get (D := L.1) (ci := 5) (v := .int (I_71 1)) (C := qR5) (T := qT5) (N := 16) hx hb hts qi5 hown hK hw.1 0 rfl rfl 1 (by decide) (hts _ wG733) (fun _ h9 => h9) rfl d_M_gate_211 ?_
                      refine lv_iconst (v := 1) hx hb d_M_gate_214 (by decide) ?_
                      refine lv_iadd hx hb d_M_gate_215 ?_
                      refine va_put (D := L.1) (ci := 5) (v := .int ((I_71 1) + 1)) (ty := .int) (C := qR5) (T := qT5) (N := 16) hx hb hts qi5 qy5 qk5 qn5 hown hK hw.1 hw.2.1 hw.2.2 0 rfl rfl 1 (by decide) (hts _ wG733) (fun _ h9 => h9) rfl (by decide +kernel) rfl rfl (Nat.le_of_ble_eq_true rfl) d_M_gate_216 (fun H locs h1 h2 h3 => ?_)
                      replace hw : MW L A s.heap (setI I_71 1 ((I_71 1) + 1)) F_102 G H locs := ⟨h1, h2, h3⟩
                      clear h1 h2 h3
                      obtain ⟨I_103, eI_103⟩ : ∃ y : MI, y = setI I_71 1 ((I_71 1) + 1) := ⟨_, rfl⟩
                      rw [← eI_103] at hw
                      replace h := h I_103 eI_103
                      refine lv_aload_n hx hb d_M_gate_219 rfl (lv_at hl 1 rfl) ?_
                      refine lv_iconst (v := (-1)) hx hb d_M_gate_220 (by decide) ?_
                      refine va_put (D := L.1) (ci := 5) (v := .int (-1)) (ty := .int) (C := qR5) (T := qT5) (N := 16) hx hb hts qi5 qy5 qk5 qn5 hown hK hw.1 hw.2.1 hw.2.2 0 rfl rfl 2 (by decide) (hts _ wG734) (fun _ h9 => h9) rfl (by decide +kernel) rfl rfl (Nat.le_of_ble_eq_true rfl) d_M_gate_221 (fun H locs h1 h2 h3 => ?_)
                      replace hw : MW L A s.heap (setI I_103 2 (-1)) F_102 G H locs := ⟨h1, h2, h3⟩
                      clear h1 h2 h3
                      obtain ⟨I_104, eI_104⟩ : ∃ y : MI, y = setI I_103 2 (-1) := ⟨_, rfl⟩
                      rw [← eI_104] at hw
                      replace h := h I_104 eI_104
                      refine lv_aload_n hx hb d_M_gate_224 rfl (lv_at hl 1 rfl) ?_
                      refine va_get (D := L.1) (ci := 5) (v := .int (I_104 1)) (C := qR5) (T := qT5) (N := 16) hx hb hts qi5 hown hK hw.1 0 rfl rfl 1 (by decide) (hts _ wG733) (fun _ h9 => h9) rfl d_M_gate_225 ?_
                      refine lv_iconst (v := 1) hx hb d_M_gate_228 (by decide) ?_
                      refine lv_isub hx hb d_M_gate_229 ?_
                      exact W.iret hx hb hr (fun t ht hW => ⟨⟨_, (I_104, F_102, G), rfl, h, by rw [ht]; exact hw.1, va_K.moved hW.alike hK, hw.2.1⟩, hw.2.2.F ht⟩) hw.2.2.2.2 d_M_gate_230
                  · replace h := h.2 c_70
                    refine lv_aload_n hx hb d_M_gate_107 rfl (lv_at hl 1 rfl) ?_
                    refine lv_iconst (v := 2) hx hb d_M_gate_108 (by decide) ?_
                    refine m_calli (va_runV (As := [.int 2]) (rest := []) ⟨hx, hb, hml, hown, hts⟩ (c_M_refuse l L 2 I F G _ _ h) (cwV 1 hts (gV wG793 wG795 wG20 wG54 wG796) rfl rfl rfl (by decide +kernel) ⟨Nat.le_of_ble_eq_true rfl, Nat.le_of_ble_eq_true rfl⟩) (mPrm hK hN hw) rfl rfl hl.1 rfl (lv_room (Nat.le_of_ble_eq_true rfl)) d_M_gate_109 ⟨Nat.le_of_ble_eq_true rfl, Nat.le_of_ble_eq_true rfl⟩) hw hA (fun r_105 I_106 F_106 G_106 H locs h hw => ?_)
                    exact W.iret hx hb hr (fun t ht hW => ⟨⟨_, (I_106, F_106, G_106), rfl, h, by rw [ht]; exact hw.1, va_K.moved hW.alike hK, hw.2.1⟩, hw.2.2.F ht⟩) hw.2.2.2.2 d_M_gate_112
          · replace h := h.2 c_15
            refine lv_aload_n hx hb d_M_gate_55 rfl (lv_at hl 0 rfl) ?_
            refine lv_iconst (v := 1) hx hb d_M_gate_56 (by decide) ?_
            refine m_calli (va_runV (As := [.int 1]) (rest := []) ⟨hx, hb, hml, hown, hts⟩ (c_M_refuse l L 1 I F G _ _ h) (cwV 1 hts (gV wG793 wG795 wG20 wG54 wG796) rfl rfl rfl (by decide +kernel) ⟨Nat.le_of_ble_eq_true rfl, Nat.le_of_ble_eq_true rfl⟩) (mPrm hK hN hw) rfl rfl hl.1 rfl (lv_room (Nat.le_of_ble_eq_true rfl)) d_M_gate_57 ⟨Nat.le_of_ble_eq_true rfl, Nat.le_of_ble_eq_true rfl⟩) hw hA (fun r_107 I_108 F_108 G_108 H locs h hw => ?_)
            exact W.iret hx hb hr (fun t ht hW => ⟨⟨_, (I_108, F_108, G_108), rfl, h, by rw [ht]; exact hw.1, va_K.moved hW.alike hK, hw.2.1⟩, hw.2.2.F ht⟩) hw.2.2.2.2 d_M_gate_60
      · replace h := h.2 c_9
        refine lv_iload_n hx hb d_M_gate_24 rfl (lv_at hl 3 rfl) ?_
        refine lv_iconst (v := 0) hx hb d_M_gate_25 (by decide) ?_
        refine lv_bipush (v := 11) hx hb d_M_gate_26 (by decide) ?_
        refine vp_callSi (va_runS (As := [.int a3, .int 0, .int 11]) (rest := []) ⟨hx, hb, hml, hown, hts⟩ (c_M_in l a3 0 11 _ h) (va_cwS 3 hts (gS wG790 wG791 wG54 wG792) rfl rfl rfl (by decide +kernel) ⟨Nat.le_of_ble_eq_true rfl, Nat.le_of_ble_eq_true rfl⟩) ⟨sPc_blind _, fun U hU hW => ⟨rfl, trivial⟩⟩ rfl rfl hl.1 rfl (lv_room (Nat.le_of_ble_eq_true rfl)) d_M_gate_28 ⟨Nat.le_of_ble_eq_true rfl, Nat.le_of_ble_eq_true rfl⟩).run (fun r_109 h => ?_)
        refine lv_if_eq (tgt := 55) hx hb d_M_gate_31 (by decide) (fun c_110 => ?_) (fun c_110 => ?_)
        · replace h := h.1 c_110
          refine lv_aload_n hx hb d_M_gate_55 rfl (lv_at hl 0 rfl) ?_
          refine lv_iconst (v := 1) hx hb d_M_gate_56 (by decide) ?_
          refine m_calli (va_runV (As := [.int 1]) (rest := []) ⟨hx, hb, hml, hown, hts⟩ (c_M_refuse l L 1 I F G _ _ h) (cwV 1 hts (gV wG793 wG795 wG20 wG54 wG796) rfl rfl rfl (by decide +kernel) ⟨Nat.le_of_ble_eq_true rfl, Nat.le_of_ble_eq_true rfl⟩) (mPrm hK hN hw) rfl rfl hl.1 rfl (lv_room (Nat.le_of_ble_eq_true rfl)) d_M_gate_57 ⟨Nat.le_of_ble_eq_true rfl, Nat.le_of_ble_eq_true rfl⟩) hw hA (fun r_111 I_112 F_112 G_112 H locs h hw => ?_)
          exact W.iret hx hb hr (fun t ht hW => ⟨⟨_, (I_112, F_112, G_112), rfl, h, by rw [ht]; exact hw.1, va_K.moved hW.alike hK, hw.2.1⟩, hw.2.2.F ht⟩) hw.2.2.2.2 d_M_gate_60
        · replace h := h.2 c_110
          refine lv_iload hx hb d_M_gate_34 (lv_at hl 4 rfl) ?_
          refine lv_iconst (v := 0) hx hb d_M_gate_36 (by decide) ?_
          refine lv_bipush (v := 11) hx hb d_M_gate_37 (by decide) ?_
          refine vp_callSi (va_runS (As := [.int a4, .int 0, .int 11]) (rest := []) ⟨hx, hb, hml, hown, hts⟩ (c_M_in l a4 0 11 _ h) (va_cwS 3 hts (gS wG790 wG791 wG54 wG792) rfl rfl rfl (by decide +kernel) ⟨Nat.le_of_ble_eq_true rfl, Nat.le_of_ble_eq_true rfl⟩) ⟨sPc_blind _, fun U hU hW => ⟨rfl, trivial⟩⟩ rfl rfl hl.1 rfl (lv_room (Nat.le_of_ble_eq_true rfl)) d_M_gate_39 ⟨Nat.le_of_ble_eq_true rfl, Nat.le_of_ble_eq_true rfl⟩).run (fun r_113 h => ?_)
          refine lv_if_eq (tgt := 55) hx hb d_M_gate_42 (by decide) (fun c_114 => ?_) (fun c_114 => ?_)
          · replace h := h.1 c_114
            refine lv_aload_n hx hb d_M_gate_55 rfl (lv_at hl 0 rfl) ?_
            refine lv_iconst (v := 1) hx hb d_M_gate_56 (by decide) ?_
            refine m_calli (va_runV (As := [.int 1]) (rest := []) ⟨hx, hb, hml, hown, hts⟩ (c_M_refuse l L 1 I F G _ _ h) (cwV 1 hts (gV wG793 wG795 wG20 wG54 wG796) rfl rfl rfl (by decide +kernel) ⟨Nat.le_of_ble_eq_true rfl, Nat.le_of_ble_eq_true rfl⟩) (mPrm hK hN hw) rfl rfl hl.1 rfl (lv_room (Nat.le_of_ble_eq_true rfl)) d_M_gate_57 ⟨Nat.le_of_ble_eq_true rfl, Nat.le_of_ble_eq_true rfl⟩) hw hA (fun r_115 I_116 F_116 G_116 H locs h hw => ?_)
            exact W.iret hx hb hr (fun t ht hW => ⟨⟨_, (I_116, F_116, G_116), rfl, h, by rw [ht]; exact hw.1, va_K.moved hW.alike hK, hw.2.1⟩, hw.2.2.F ht⟩) hw.2.2.2.2 d_M_gate_60
          · replace h := h.2 c_114
            refine lv_iload hx hb d_M_gate_45 (lv_at hl 5 rfl) ?_
            refine lv_iconst (v := 0) hx hb d_M_gate_47 (by decide) ?_
            refine lv_iconst (v := 1) hx hb d_M_gate_48 (by decide) ?_
            refine vp_callSi (va_runS (As := [.int a5, .int 0, .int 1]) (rest := []) ⟨hx, hb, hml, hown, hts⟩ (c_M_in l a5 0 1 _ h) (va_cwS 3 hts (gS wG790 wG791 wG54 wG792) rfl rfl rfl (by decide +kernel) ⟨Nat.le_of_ble_eq_true rfl, Nat.le_of_ble_eq_true rfl⟩) ⟨sPc_blind _, fun U hU hW => ⟨rfl, trivial⟩⟩ rfl rfl hl.1 rfl (lv_room (Nat.le_of_ble_eq_true rfl)) d_M_gate_49 ⟨Nat.le_of_ble_eq_true rfl, Nat.le_of_ble_eq_true rfl⟩).run (fun r_117 h => ?_)
            refine lv_if_ne (tgt := 61) hx hb d_M_gate_52 (by decide) (fun c_118 => ?_) (fun c_118 => ?_)
            · replace h := h.1 c_118
              refine lv_iload_n hx hb d_M_gate_61 rfl (lv_at hl 1 rfl) ?_
              refine lv_iconst (v := 2) hx hb d_M_gate_62 (by decide) ?_
              refine lv_icmp_ge (tgt := 70) hx hb d_M_gate_63 (by decide) (fun c_119 => ?_) (fun c_119 => ?_)
              · replace h := h.1 c_119
                refine lv_iconst (v := 3) hx hb d_M_gate_70 (by decide) ?_
                refine lv_istore (lv' := [(6, .int 3), (0, .ref (cA L 0)), (1, .int a1), (2, .int a2), (3, .int a3), (4, .int a4), (5, .int a5)]) hx hb d_M_gate_71 hl (by decide) rfl (fun ls hl => ?_)
                refine lv_aload_n hx hb d_M_gate_73 rfl (lv_at hl 1 rfl) ?_
                refine va_get (D := L.1) (ci := 5) (v := .int (I 1)) (C := qR5) (T := qT5) (N := 16) hx hb hts qi5 hown hK hw.1 0 rfl rfl 1 (by decide) (hts _ wG733) (fun _ h9 => h9) rfl d_M_gate_74 ?_
                refine lv_bipush (v := 12) hx hb d_M_gate_77 (by decide) ?_
                refine lv_icmp_eq (tgt := 107) hx hb d_M_gate_79 (by decide) (fun c_120 => ?_) (fun c_120 => ?_)
                · replace h := h.1 c_120
                  refine lv_aload_n hx hb d_M_gate_107 rfl (lv_at hl 1 rfl) ?_
                  refine lv_iconst (v := 2) hx hb d_M_gate_108 (by decide) ?_
                  refine m_calli (va_runV (As := [.int 2]) (rest := []) ⟨hx, hb, hml, hown, hts⟩ (c_M_refuse l L 2 I F G _ _ h) (cwV 1 hts (gV wG793 wG795 wG20 wG54 wG796) rfl rfl rfl (by decide +kernel) ⟨Nat.le_of_ble_eq_true rfl, Nat.le_of_ble_eq_true rfl⟩) (mPrm hK hN hw) rfl rfl hl.1 rfl (lv_room (Nat.le_of_ble_eq_true rfl)) d_M_gate_109 ⟨Nat.le_of_ble_eq_true rfl, Nat.le_of_ble_eq_true rfl⟩) hw hA (fun r_121 I_122 F_122 G_122 H locs h hw => ?_)
                  exact W.iret hx hb hr (fun t ht hW => ⟨⟨_, (I_122, F_122, G_122), rfl, h, by rw [ht]; exact hw.1, va_K.moved hW.alike hK, hw.2.1⟩, hw.2.2.F ht⟩) hw.2.2.2.2 d_M_gate_112
                · replace h := h.2 c_120
                  refine lv_aload_n hx hb d_M_gate_82 rfl (lv_at hl 1 rfl) ?_
                  refine va_get (D := L.1) (ci := 5) (v := .ref (cA L 7)) (C := qR5) (T := qT5) (N := 16) hx hb hts qi5 hown hK hw.1 0 rfl rfl 9 (by decide) (hts _ wG741) (fun _ h9 => h9) rfl d_M_gate_83 ?_
                  refine lv_iload hx hb d_M_gate_86 (lv_at hl 6 rfl) ?_
                  obtain ⟨hi_123, h⟩ := h
                  refine va_iald hx hb hK hw.1 7 0 rfl rfl hi_123 d_M_gate_88 ?_
                  refine lv_iload hx hb d_M_gate_89 (lv_at hl 0 rfl) ?_
                  refine lv_iadd hx hb d_M_gate_91 ?_
                  refine lv_bipush (v := 24) hx hb d_M_gate_92 (by decide) ?_
                  refine lv_icmp_gt (tgt := 107) hx hb d_M_gate_94 (by decide) (fun c_124 => ?_) (fun c_124 => ?_)
                  · replace h := h.1 c_124
                    refine lv_aload_n hx hb d_M_gate_107 rfl (lv_at hl 1 rfl) ?_
                    refine lv_iconst (v := 2) hx hb d_M_gate_108 (by decide) ?_
                    refine m_calli (va_runV (As := [.int 2]) (rest := []) ⟨hx, hb, hml, hown, hts⟩ (c_M_refuse l L 2 I F G _ _ h) (cwV 1 hts (gV wG793 wG795 wG20 wG54 wG796) rfl rfl rfl (by decide +kernel) ⟨Nat.le_of_ble_eq_true rfl, Nat.le_of_ble_eq_true rfl⟩) (mPrm hK hN hw) rfl rfl hl.1 rfl (lv_room (Nat.le_of_ble_eq_true rfl)) d_M_gate_109 ⟨Nat.le_of_ble_eq_true rfl, Nat.le_of_ble_eq_true rfl⟩) hw hA (fun r_125 I_126 F_126 G_126 H locs h hw => ?_)
                    exact W.iret hx hb hr (fun t ht hW => ⟨⟨_, (I_126, F_126, G_126), rfl, h, by rw [ht]; exact hw.1, va_K.moved hW.alike hK, hw.2.1⟩, hw.2.2.F ht⟩) hw.2.2.2.2 d_M_gate_112
                  · replace h := h.2 c_124
                    refine lv_aload_n hx hb d_M_gate_97 rfl (lv_at hl 1 rfl) ?_
                    refine lv_iload hx hb d_M_gate_98 (lv_at hl 5 rfl) ?_
                    refine vp_callSi (va_runV (As := [.int a4]) (rest := []) ⟨hx, hb, hml, hown, hts⟩ (c_M_driver l L a4 I F G _ h) (cwV 1 hts (gV wG797 wG799 wG21 wG54 wG800) rfl rfl rfl (by decide +kernel) ⟨Nat.le_of_ble_eq_true rfl, Nat.le_of_ble_eq_true rfl⟩) (mPre hK hN hw.1) rfl rfl hl.1 rfl (lv_room (Nat.le_of_ble_eq_true rfl)) d_M_gate_100 ⟨Nat.le_of_ble_eq_true rfl, Nat.le_of_ble_eq_true rfl⟩).run (fun r_127 h => ?_)
                    refine lv_iconst (v := (-1)) hx hb d_M_gate_103 (by decide) ?_
                    refine lv_icmp_eq (tgt := 113) hx hb d_M_gate_104 (by decide) (fun c_128 => ?_) (fun c_128 => ?_)
                    · replace h := h.1 c_128
                      refine lv_aload_n hx hb d_M_gate_113 rfl (lv_at hl 1 rfl) ?_
                      refine lv_iconst (v := 0) hx hb d_M_gate_114 (by decide) ?_
                      refine va_put (D := L.1) (ci := 5) (v := .int 0) (ty := .int) (C := qR5) (T := qT5) (N := 16) hx hb hts qi5 qy5 qk5 qn5 hown hK hw.1 hw.2.1 hw.2.2 0 rfl rfl 0 (by decide) (hts _ wG732) (fun _ h9 => h9) rfl (by decide +kernel) rfl rfl (Nat.le_of_ble_eq_true rfl) d_M_gate_115 (fun H locs h1 h2 h3 => ?_)
                      replace hw : MW L A s.heap (setI I 0 0) F G H locs := ⟨h1, h2, h3⟩
                      clear h1 h2 h3
                      obtain ⟨I_129, eI_129⟩ : ∃ y : MI, y = setI I 0 0 := ⟨_, rfl⟩
                      rw [← eI_129] at hw
                      replace h := h I_129 eI_129
                      refine lv_aload_n hx hb d_M_gate_118 rfl (lv_at hl 1 rfl) ?_
                      refine va_get (D := L.1) (ci := 5) (v := .ref (cA L 1)) (C := qR5) (T := qT5) (N := 16) hx hb hts qi5 hown hK hw.1 0 rfl rfl 3 (by decide) (hts _ wG735) (fun _ h9 => h9) rfl d_M_gate_119 ?_
                      refine lv_aload_n hx hb d_M_gate_122 rfl (lv_at hl 1 rfl) ?_
                      refine va_get (D := L.1) (ci := 5) (v := .int (I_129 1)) (C := qR5) (T := qT5) (N := 16) hx hb hts qi5 hown hK hw.1 0 rfl rfl 1 (by decide) (hts _ wG733) (fun _ h9 => h9) rfl d_M_gate_123 ?_
                      refine lv_iload_n hx hb d_M_gate_126 rfl (lv_at hl 2 rfl) ?_
                      obtain ⟨hi_130, h⟩ := h
                      refine m_iast hx hb hK hw 0 1 rfl (fun _ => rfl) hi_130 d_M_gate_127 (fun H locs hw => ?_)
                      obtain ⟨F_131, eF_131⟩ : ∃ y : MF, y = setF F 0 (upd (F 0) (I_129 1).toNatClampNeg a1) := ⟨_, rfl⟩
                      rw [← eF_131] at hw
                      replace h := h F_131 eF_131
                      refine lv_aload_n hx hb d_M_gate_128 rfl (lv_at hl 1 rfl) ?_
                      refine va_get (D := L.1) (ci := 5) (v := .ref (cA L 2)) (C := qR5) (T := qT5) (N := 16) hx hb hts qi5 hown hK hw.1 0 rfl rfl 4 (by decide) (hts _ wG736) (fun _ h9 => h9) rfl d_M_gate_129 ?_
                      refine lv_aload_n hx hb d_M_gate_132 rfl (lv_at hl 1 rfl) ?_
                      refine va_get (D := L.1) (ci := 5) (v := .int (I_129 1)) (C := qR5) (T := qT5) (N := 16) hx hb hts qi5 hown hK hw.1 0 rfl rfl 1 (by decide) (hts _ wG733) (fun _ h9 => h9) rfl d_M_gate_133 ?_
                      refine lv_iload_n hx hb d_M_gate_136 rfl (lv_at hl 3 rfl) ?_
                      obtain ⟨hi_132, h⟩ := h
                      refine m_iast hx hb hK hw 1 2 rfl (fun _ => rfl) hi_132 d_M_gate_137 (fun H locs hw => ?_)
                      obtain ⟨F_133, eF_133⟩ : ∃ y : MF, y = setF F_131 1 (upd (F_131 1) (I_129 1).toNatClampNeg a2) := ⟨_, rfl⟩
                      rw [← eF_133] at hw
                      replace h := h F_133 eF_133
                      refine lv_aload_n hx hb d_M_gate_138 rfl (lv_at hl 1 rfl) ?_
                      refine va_get (D := L.1) (ci := 5) (v := .ref (cA L 3)) (C := qR5) (T := qT5) (N := 16) hx hb hts qi5 hown hK hw.1 0 rfl rfl 5 (by decide) (hts _ wG737) (fun _ h9 => h9) rfl d_M_gate_139 ?_
                      refine lv_aload_n hx hb d_M_gate_142 rfl (lv_at hl 1 rfl) ?_
                      refine va_get (D := L.1) (ci := 5) (v := .int (I_129 1)) (C := qR5) (T := qT5) (N := 16) hx hb hts qi5 hown hK hw.1 0 rfl rfl 1 (by decide) (hts _ wG733) (fun _ h9 => h9) rfl d_M_gate_143 ?_
                      refine lv_iload_n hx hb d_M_gate_146 rfl (lv_at hl 2 rfl) ?_
                      refine lv_iconst (v := 1) hx hb d_M_gate_147 (by decide) ?_
                      refine lv_icmp_le (tgt := 155) hx hb d_M_gate_148 (by decide) (fun c_134 => ?_) (fun c_134 => ?_)
                      · replace h := h.1 c_134
                        refine lv_iconst (v := (-1)) hx hb d_M_gate_155 (by decide) ?_
                        obtain ⟨hi_135, h⟩ := h
                        refine m_iast hx hb hK hw 2 3 rfl (fun _ => rfl) hi_135 d_M_gate_156 (fun H locs hw => ?_)
                        obtain ⟨F_136, eF_136⟩ : ∃ y : MF, y = setF F_133 2 (upd (F_133 2) (I_129 1).toNatClampNeg (-1)) := ⟨_, rfl⟩
                        rw [← eF_136] at hw
                        replace h := h F_136 eF_136
                        refine lv_aload_n hx hb d_M_gate_157 rfl (lv_at hl 1 rfl) ?_
                        refine va_get (D := L.1) (ci := 5) (v := .ref (cA L 4)) (C := qR5) (T := qT5) (N := 16) hx hb hts qi5 hown hK hw.1 0 rfl rfl 6 (by decide) (hts _ wG738) (fun _ h9 => h9) rfl d_M_gate_158 ?_
                        refine lv_aload_n hx hb d_M_gate_161 rfl (lv_at hl 1 rfl) ?_
                        refine va_get (D := L.1) (ci := 5) (v := .int (I_129 1)) (C := qR5) (T := qT5) (N := 16) hx hb hts qi5 hown hK hw.1 0 rfl rfl 1 (by decide) (hts _ wG733) (fun _ h9 => h9) rfl d_M_gate_162 ?_
                        refine lv_iload hx hb d_M_gate_165 (lv_at hl 5 rfl) ?_
                        obtain ⟨hi_137, h⟩ := h
                        refine m_iast hx hb hK hw 3 4 rfl (fun _ => rfl) hi_137 d_M_gate_167 (fun H locs hw => ?_)
                        obtain ⟨F_138, eF_138⟩ : ∃ y : MF, y = setF F_136 3 (upd (F_136 3) (I_129 1).toNatClampNeg a4) := ⟨_, rfl⟩
                        rw [← eF_138] at hw
                        replace h := h F_138 eF_138
                        refine lv_aload_n hx hb d_M_gate_168 rfl (lv_at hl 1 rfl) ?_
                        refine va_get (D := L.1) (ci := 5) (v := .ref (cA L 5)) (C := qR5) (T := qT5) (N := 16) hx hb hts qi5 hown hK hw.1 0 rfl rfl 7 (by decide) (hts _ wG739) (fun _ h9 => h9) rfl d_M_gate_169 ?_
                        refine lv_aload_n hx hb d_M_gate_172 rfl (lv_at hl 1 rfl) ?_
                        refine va_get (D := L.1) (ci := 5) (v := .int (I_129 1)) (C := qR5) (T := qT5) (N := 16) hx hb hts qi5 hown hK hw.1 0 rfl rfl 1 (by decide) (hts _ wG733) (fun _ h9 => h9) rfl d_M_gate_173 ?_
                        refine lv_iload hx hb d_M_gate_176 (lv_at hl 6 rfl) ?_
                        obtain ⟨hi_139, h⟩ := h
                        refine m_iast hx hb hK hw 4 5 rfl (fun _ => rfl) hi_139 d_M_gate_178 (fun H locs hw => ?_)
                        obtain ⟨F_140, eF_140⟩ : ∃ y : MF, y = setF F_138 4 (upd (F_138 4) (I_129 1).toNatClampNeg a5) := ⟨_, rfl⟩
                        rw [← eF_140] at hw
                        replace h := h F_140 eF_140
                        refine lv_aload_n hx hb d_M_gate_179 rfl (lv_at hl 1 rfl) ?_
                        refine va_get (D := L.1) (ci := 5) (v := .ref (cA L 6)) (C := qR5) (T := qT5) (N := 16) hx hb hts qi5 hown hK hw.1 0 rfl rfl 8 (by decide) (hts _ wG740) (fun _ h9 => h9) rfl d_M_gate_180 ?_
                        refine lv_aload_n hx hb d_M_gate_183 rfl (lv_at hl 1 rfl) ?_
                        refine va_get (D := L.1) (ci := 5) (v := .int (I_129 1)) (C := qR5) (T := qT5) (N := 16) hx hb hts qi5 hown hK hw.1 0 rfl rfl 1 (by decide) (hts _ wG733) (fun _ h9 => h9) rfl d_M_gate_184 ?_
                        refine lv_aload_n hx hb d_M_gate_187 rfl (lv_at hl 1 rfl) ?_
                        refine va_get (D := L.1) (ci := 5) (v := .ref (cA L 7)) (C := qR5) (T := qT5) (N := 16) hx hb hts qi5 hown hK hw.1 0 rfl rfl 9 (by decide) (hts _ wG741) (fun _ h9 => h9) rfl d_M_gate_188 ?_
                        refine lv_iload hx hb d_M_gate_191 (lv_at hl 6 rfl) ?_
                        obtain ⟨hi_141, h⟩ := h
                        refine va_iald hx hb hK hw.1 7 0 rfl rfl hi_141 d_M_gate_193 ?_
                        obtain ⟨hi_142, h⟩ := h
                        refine m_iast hx hb hK hw 5 6 rfl (fun _ => rfl) hi_142 d_M_gate_194 (fun H locs hw => ?_)
                        obtain ⟨F_143, eF_143⟩ : ∃ y : MF, y = setF F_140 5 (upd (F_140 5) (I_129 1).toNatClampNeg (F_140 6 a5.toNatClampNeg)) := ⟨_, rfl⟩
                        rw [← eF_143] at hw
                        replace h := h F_143 eF_143
                        refine lv_aload_n hx hb d_M_gate_195 rfl (lv_at hl 1 rfl) ?_
                        refine va_get (D := L.1) (ci := 5) (v := .ref (cA L 7)) (C := qR5) (T := qT5) (N := 16) hx hb hts qi5 hown hK hw.1 0 rfl rfl 9 (by decide) (hts _ wG741) (fun _ h9 => h9) rfl d_M_gate_196 ?_
                        refine lv_iload hx hb d_M_gate_199 (lv_at hl 6 rfl) ?_
                        refine lv_dup2_11 hx hb d_M_gate_201 rfl rfl ?_
                        obtain ⟨hi_144, h⟩ := h
                        refine va_iald hx hb hK hw.1 7 0 rfl rfl hi_144 d_M_gate_202 ?_
                        refine lv_iload hx hb d_M_gate_203 (lv_at hl 0 rfl) ?_
                        refine lv_iconst (v := 1) hx hb d_M_gate_205 (by decide) ?_
                        refine lv_iadd hx hb d_M_gate_206 ?_
                        refine lv_iadd hx hb d_M_gate_207 ?_
                        obtain ⟨hi_145, h⟩ := h
                        refine m_iast hx hb hK hw 6 7 rfl (fun _ => rfl) hi_145 d_M_gate_208 (fun H locs hw => ?_)
                        obtain ⟨F_146, eF_146⟩ : ∃ y : MF, y = setF F_143 6 (upd (F_143 6) a5.toNatClampNeg ((F_143 6 a5.toNatClampNeg) + (3 + 1))) := ⟨_, rfl⟩
                        rw [← eF_146] at hw
                        replace h := h F_146 eF_146
                        refine lv_aload_n hx hb d_M_gate_209 rfl (lv_at hl 1 rfl) ?_
                        refine lv_dup hx hb d_M_gate_210 rfl ?_
                        refine va_get (D := L.1) (ci := 5) (v := .int (I_129 1)) (C := qR5) (T := qT5) (N := 16) hx hb hts qi5 hown hK hw.1 0 rfl rfl 1 (by decide) (hts _ wG733) (fun _ h9 => h9) rfl d_M_gate_211 ?_
                        refine lv_iconst (v := 1) hx hb d_M_gate_214 (by decide) ?_
                        refine lv_iadd hx hb d_M_gate_215 ?_
                        refine va_put (D := L.1) (ci := 5) (v := .int ((I_129 1) + 1)) (ty := .int) (C := qR5) (T := qT5) (N := 16) hx hb hts qi5 qy5 qk5 qn5 hown hK hw.1 hw.2.1 hw.2.2 0 rfl rfl 1 (by decide) (hts _ wG733) (fun _ h9 => h9) rfl (by decide +kernel) rfl rfl (Nat.le_of_ble_eq_true rfl) d_M_gate_216 (fun H locs h1 h2 h3 => ?_)
                        replace hw : MW L A s.heap (setI I_129 1 ((I_129 1) + 1)) F_146 G H locs := ⟨h1, h2, h3⟩
                        clear h1 h2 h3
                        obtain ⟨I_147, eI_147⟩ : ∃ y : MI, y = setI I_129 1 ((I_129 1) + 1) := ⟨_, rfl⟩
                        rw [← eI_147] at hw
                        replace h := h I_147 eI_147
                        refine lv_aload_n hx hb d_M_gate_219 rfl (lv_at hl 1 rfl) ?_
                        refine lv_iconst (v := (-1)) hx hb d_M_gate_220 (by decide) ?_
                        refine va_put (D := L.1) (ci := 5) (v := .int (-1)) (ty := .int) (C := qR5) (T := qT5) (N := 16) hx hb hts qi5 qy5 qk5 qn5 hown hK hw.1 hw.2.1 hw.2.2 0 rfl rfl 2 (by decide) (hts _ wG734) (fun _ h9 => h9) rfl (by decide +kernel) rfl rfl (Nat.le_of_ble_eq_true rfl) d_M_gate_221 (fun H locs h1 h2 h3 => ?_)
                        replace hw : MW L A s.heap (setI I_147 2 (-1)) F_146 G H locs := ⟨h1, h2, h3⟩
                        clear h1 h2 h3
                        obtain ⟨I_148, eI_148⟩ : ∃ y : MI, y = setI I_147 2 (-1) := ⟨_, rfl⟩
                        rw [← eI_148] at hw
                        replace h := h I_148 eI_148
                        refine lv_aload_n hx hb d_M_gate_224 rfl (lv_at hl 1 rfl) ?_
                        refine va_get (D := L.1) (ci := 5) (v := .int (I_148 1)) (C := qR5) (T := qT5) (N := 16) hx hb hts qi5 hown hK hw.1 0 rfl rfl 1 (by decide) (hts _ wG733) (fun _ h9 => h9) rfl d_M_gate_225 ?_
                        refine lv_iconst (v := 1) hx hb d_M_gate_228 (by decide) ?_
                        refine lv_isub hx hb d_M_gate_229 ?_
                        exact W.iret hx hb hr (fun t ht hW => ⟨⟨_, (I_148, F_146, G), rfl, h, by rw [ht]; exact hw.1, va_K.moved hW.alike hK, hw.2.1⟩, hw.2.2.F ht⟩) hw.2.2.2.2 d_M_gate_230
                      · replace h := h.2 c_134
                        refine lv_iload_n hx hb d_M_gate_151 rfl (lv_at hl 4 rfl) ?_
                        refine lv_goto (tgt := 156) hx hb d_M_gate_152 (by decide) ?_
                        obtain ⟨hi_149, h⟩ := h
                        refine m_iast hx hb hK hw 2 3 rfl (fun _ => rfl) hi_149 d_M_gate_156 (fun H locs hw => ?_)
                        obtain ⟨F_150, eF_150⟩ : ∃ y : MF, y = setF F_133 2 (upd (F_133 2) (I_129 1).toNatClampNeg a3) := ⟨_, rfl⟩
                        rw [← eF_150] at hw
                        replace h := h F_150 eF_150
                        refine lv_aload_n hx hb d_M_gate_157 rfl (lv_at hl 1 rfl) ?_
                        refine va_get (D := L.1) (ci := 5) (v := .ref (cA L 4)) (C := qR5) (T := qT5) (N := 16) hx hb hts qi5 hown hK hw.1 0 rfl rfl 6 (by decide) (hts _ wG738) (fun _ h9 => h9) rfl d_M_gate_158 ?_
                        refine lv_aload_n hx hb d_M_gate_161 rfl (lv_at hl 1 rfl) ?_
                        refine va_get (D := L.1) (ci := 5) (v := .int (I_129 1)) (C := qR5) (T := qT5) (N := 16) hx hb hts qi5 hown hK hw.1 0 rfl rfl 1 (by decide) (hts _ wG733) (fun _ h9 => h9) rfl d_M_gate_162 ?_
                        refine lv_iload hx hb d_M_gate_165 (lv_at hl 5 rfl) ?_
                        obtain ⟨hi_151, h⟩ := h
                        refine m_iast hx hb hK hw 3 4 rfl (fun _ => rfl) hi_151 d_M_gate_167 (fun H locs hw => ?_)
                        obtain ⟨F_152, eF_152⟩ : ∃ y : MF, y = setF F_150 3 (upd (F_150 3) (I_129 1).toNatClampNeg a4) := ⟨_, rfl⟩
                        rw [← eF_152] at hw
                        replace h := h F_152 eF_152
                        refine lv_aload_n hx hb d_M_gate_168 rfl (lv_at hl 1 rfl) ?_
                        refine va_get (D := L.1) (ci := 5) (v := .ref (cA L 5)) (C := qR5) (T := qT5) (N := 16) hx hb hts qi5 hown hK hw.1 0 rfl rfl 7 (by decide) (hts _ wG739) (fun _ h9 => h9) rfl d_M_gate_169 ?_
                        refine lv_aload_n hx hb d_M_gate_172 rfl (lv_at hl 1 rfl) ?_
                        refine va_get (D := L.1) (ci := 5) (v := .int (I_129 1)) (C := qR5) (T := qT5) (N := 16) hx hb hts qi5 hown hK hw.1 0 rfl rfl 1 (by decide) (hts _ wG733) (fun _ h9 => h9) rfl d_M_gate_173 ?_
                        refine lv_iload hx hb d_M_gate_176 (lv_at hl 6 rfl) ?_
                        obtain ⟨hi_153, h⟩ := h
                        refine m_iast hx hb hK hw 4 5 rfl (fun _ => rfl) hi_153 d_M_gate_178 (fun H locs hw => ?_)
                        obtain ⟨F_154, eF_154⟩ : ∃ y : MF, y = setF F_152 4 (upd (F_152 4) (I_129 1).toNatClampNeg a5) := ⟨_, rfl⟩
                        rw [← eF_154] at hw
                        replace h := h F_154 eF_154
                        refine lv_aload_n hx hb d_M_gate_179 rfl (lv_at hl 1 rfl) ?_
                        refine va_get (D := L.1) (ci := 5) (v := .ref (cA L 6)) (C := qR5) (T := qT5) (N := 16) hx hb hts qi5 hown hK hw.1 0 rfl rfl 8 (by decide) (hts _ wG740) (fun _ h9 => h9) rfl d_M_gate_180 ?_
                        refine lv_aload_n hx hb d_M_gate_183 rfl (lv_at hl 1 rfl) ?_
                        refine va_get (D := L.1) (ci := 5) (v := .int (I_129 1)) (C := qR5) (T := qT5) (N := 16) hx hb hts qi5 hown hK hw.1 0 rfl rfl 1 (by decide) (hts _ wG733) (fun _ h9 => h9) rfl d_M_gate_184 ?_
                        refine lv_aload_n hx hb d_M_gate_187 rfl (lv_at hl 1 rfl) ?_
                        refine va_get (D := L.1) (ci := 5) (v := .ref (cA L 7)) (C := qR5) (T := qT5) (N := 16) hx hb hts qi5 hown hK hw.1 0 rfl rfl 9 (by decide) (hts _ wG741) (fun _ h9 => h9) rfl d_M_gate_188 ?_
                        refine lv_iload hx hb d_M_gate_191 (lv_at hl 6 rfl) ?_
                        obtain ⟨hi_155, h⟩ := h
                        refine va_iald hx hb hK hw.1 7 0 rfl rfl hi_155 d_M_gate_193 ?_
                        obtain ⟨hi_156, h⟩ := h
                        refine m_iast hx hb hK hw 5 6 rfl (fun _ => rfl) hi_156 d_M_gate_194 (fun H locs hw => ?_)
                        obtain ⟨F_157, eF_157⟩ : ∃ y : MF, y = setF F_154 5 (upd (F_154 5) (I_129 1).toNatClampNeg (F_154 6 a5.toNatClampNeg)) := ⟨_, rfl⟩
                        rw [← eF_157] at hw
                        replace h := h F_157 eF_157
                        refine lv_aload_n hx hb d_M_gate_195 rfl (lv_at hl 1 rfl) ?_
                        refine va_get (D := L.1) (ci := 5) (v := .ref (cA L 7)) (C := qR5) (T := qT5) (N := 16) hx hb hts qi5 hown hK hw.1 0 rfl rfl 9 (by decide) (hts _ wG741) (fun _ h9 => h9) rfl d_M_gate_196 ?_
                        refine lv_iload hx hb d_M_gate_199 (lv_at hl 6 rfl) ?_
                        refine lv_dup2_11 hx hb d_M_gate_201 rfl rfl ?_
                        obtain ⟨hi_158, h⟩ := h
                        refine va_iald hx hb hK hw.1 7 0 rfl rfl hi_158 d_M_gate_202 ?_
                        refine lv_iload hx hb d_M_gate_203 (lv_at hl 0 rfl) ?_
                        refine lv_iconst (v := 1) hx hb d_M_gate_205 (by decide) ?_
                        refine lv_iadd hx hb d_M_gate_206 ?_
                        refine lv_iadd hx hb d_M_gate_207 ?_
                        obtain ⟨hi_159, h⟩ := h
                        refine m_iast hx hb hK hw 6 7 rfl (fun _ => rfl) hi_159 d_M_gate_208 (fun H locs hw => ?_)
                        obtain ⟨F_160, eF_160⟩ : ∃ y : MF, y = setF F_157 6 (upd (F_157 6) a5.toNatClampNeg ((F_157 6 a5.toNatClampNeg) + (3 + 1))) := ⟨_, rfl⟩
                        rw [← eF_160] at hw
                        replace h := h F_160 eF_160
                        refine lv_aload_n hx hb d_M_gate_209 rfl (lv_at hl 1 rfl) ?_
                        refine lv_dup hx hb d_M_gate_210 rfl ?_
                        refine va_get (D := L.1) (ci := 5) (v := .int (I_129 1)) (C := qR5) (T := qT5) (N := 16) hx hb hts qi5 hown hK hw.1 0 rfl rfl 1 (by decide) (hts _ wG733) (fun _ h9 => h9) rfl d_M_gate_211 ?_
                        refine lv_iconst (v := 1) hx hb d_M_gate_214 (by decide) ?_
                        refine lv_iadd hx hb d_M_gate_215 ?_
                        refine va_put (D := L.1) (ci := 5) (v := .int ((I_129 1) + 1)) (ty := .int) (C := qR5) (T := qT5) (N := 16) hx hb hts qi5 qy5 qk5 qn5 hown hK hw.1 hw.2.1 hw.2.2 0 rfl rfl 1 (by decide) (hts _ wG733) (fun _ h9 => h9) rfl (by decide +kernel) rfl rfl (Nat.le_of_ble_eq_true rfl) d_M_gate_216 (fun H locs h1 h2 h3 => ?_)
                        replace hw : MW L A s.heap (setI I_129 1 ((I_129 1) + 1)) F_160 G H locs := ⟨h1, h2, h3⟩
                        clear h1 h2 h3
                        obtain ⟨I_161, eI_161⟩ : ∃ y : MI, y = setI I_129 1 ((I_129 1) + 1) := ⟨_, rfl⟩
                        rw [← eI_161] at hw
                        replace h := h I_161 eI_161
                        refine lv_aload_n hx hb d_M_gate_219 rfl (lv_at hl 1 rfl) ?_
                        refine lv_iconst (v := (-1)) hx hb d_M_gate_220 (by decide) ?_
                        refine va_put (D := L.1) (ci := 5) (v := .int (-1)) (ty := .int) (C := qR5) (T := qT5) (N := 16) hx hb hts qi5 qy5 qk5 qn5 hown hK hw.1 hw.2.1 hw.2.2 0 rfl rfl 2 (by decide) (hts _ wG734) (fun _ h9 => h9) rfl (by decide +kernel) rfl rfl (Nat.le_of_ble_eq_true rfl) d_M_gate_221 (fun H locs h1 h2 h3 => ?_)
                        replace hw : MW L A s.heap (setI I_161 2 (-1)) F_160 G H locs := ⟨h1, h2, h3⟩
                        clear h1 h2 h3
                        obtain ⟨I_162, eI_162⟩ : ∃ y : MI, y = setI I_161 2 (-1) := ⟨_, rfl⟩
                        rw [← eI_162] at hw
                        replace h := h I_162 eI_162
                        refine lv_aload_n hx hb d_M_gate_224 rfl (lv_at hl 1 rfl) ?_
                        refine va_get (D := L.1) (ci := 5) (v := .int (I_162 1)) (C := qR5) (T := qT5) (N := 16) hx hb hts qi5 hown hK hw.1 0 rfl rfl 1 (by decide) (hts _ wG733) (fun _ h9 => h9) rfl d_M_gate_225 ?_
                        refine lv_iconst (v := 1) hx hb d_M_gate_228 (by decide) ?_
                        refine lv_isub hx hb d_M_gate_229 ?_
                        exact W.iret hx hb hr (fun t ht hW => ⟨⟨_, (I_162, F_160, G), rfl, h, by rw [ht]; exact hw.1, va_K.moved hW.alike hK, hw.2.1⟩, hw.2.2.F ht⟩) hw.2.2.2.2 d_M_gate_230
                    · replace h := h.2 c_128
                      refine lv_aload_n hx hb d_M_gate_107 rfl (lv_at hl 1 rfl) ?_
                      refine lv_iconst (v := 2) hx hb d_M_gate_108 (by decide) ?_
                      refine m_calli (va_runV (As := [.int 2]) (rest := []) ⟨hx, hb, hml, hown, hts⟩ (c_M_refuse l L 2 I F G _ _ h) (cwV 1 hts (gV wG793 wG795 wG20 wG54 wG796) rfl rfl rfl (by decide +kernel) ⟨Nat.le_of_ble_eq_true rfl, Nat.le_of_ble_eq_true rfl⟩) (mPrm hK hN hw) rfl rfl hl.1 rfl (lv_room (Nat.le_of_ble_eq_true rfl)) d_M_gate_109 ⟨Nat.le_of_ble_eq_true rfl, Nat.le_of_ble_eq_true rfl⟩) hw hA (fun r_163 I_164 F_164 G_164 H locs h hw => ?_)
                      exact W.iret hx hb hr (fun t ht hW => ⟨⟨_, (I_164, F_164, G_164), rfl, h, by rw [ht]; exact hw.1, va_K.moved hW.alike hK, hw.2.1⟩, hw.2.2.F ht⟩) hw.2.2.2.2 d_M_gate_112
              · replace h := h.2 c_119
                refine lv_iconst (v := 2) hx hb d_M_gate_66 (by decide) ?_
                refine lv_goto (tgt := 71) hx hb d_M_gate_67 (by decide) ?_
                refine lv_istore (lv' := [(6, .int 2), (0, .ref (cA L 0)), (1, .int a1), (2, .int a2), (3, .int a3), (4, .int a4), (5, .int a5)]) hx hb d_M_gate_71 hl (by decide) rfl (fun ls hl => ?_)
                refine lv_aload_n hx hb d_M_gate_73 rfl (lv_at hl 1 rfl) ?_
                refine va_get (D := L.1) (ci := 5) (v := .int (I 1)) (C := qR5) (T := qT5) (N := 16) hx hb hts qi5 hown hK hw.1 0 rfl rfl 1 (by decide) (hts _ wG733) (fun _ h9 => h9) rfl d_M_gate_74 ?_
                refine lv_bipush (v := 12) hx hb d_M_gate_77 (by decide) ?_
                refine lv_icmp_eq (tgt := 107) hx hb d_M_gate_79 (by decide) (fun c_165 => ?_) (fun c_165 => ?_)
                · replace h := h.1 c_165
                  refine lv_aload_n hx hb d_M_gate_107 rfl (lv_at hl 1 rfl) ?_
                  refine lv_iconst (v := 2) hx hb d_M_gate_108 (by decide) ?_
                  refine m_calli (va_runV (As := [.int 2]) (rest := []) ⟨hx, hb, hml, hown, hts⟩ (c_M_refuse l L 2 I F G _ _ h) (cwV 1 hts (gV wG793 wG795 wG20 wG54 wG796) rfl rfl rfl (by decide +kernel) ⟨Nat.le_of_ble_eq_true rfl, Nat.le_of_ble_eq_true rfl⟩) (mPrm hK hN hw) rfl rfl hl.1 rfl (lv_room (Nat.le_of_ble_eq_true rfl)) d_M_gate_109 ⟨Nat.le_of_ble_eq_true rfl, Nat.le_of_ble_eq_true rfl⟩) hw hA (fun r_166 I_167 F_167 G_167 H locs h hw => ?_)
                  exact W.iret hx hb hr (fun t ht hW => ⟨⟨_, (I_167, F_167, G_167), rfl, h, by rw [ht]; exact hw.1, va_K.moved hW.alike hK, hw.2.1⟩, hw.2.2.F ht⟩) hw.2.2.2.2 d_M_gate_112
                · replace h := h.2 c_165
                  refine lv_aload_n hx hb d_M_gate_82 rfl (lv_at hl 1 rfl) ?_
                  refine va_get (D := L.1) (ci := 5) (v := .ref (cA L 7)) (C := qR5) (T := qT5) (N := 16) hx hb hts qi5 hown hK hw.1 0 rfl rfl 9 (by decide) (hts _ wG741) (fun _ h9 => h9) rfl d_M_gate_83 ?_
                  refine lv_iload hx hb d_M_gate_86 (lv_at hl 6 rfl) ?_
                  obtain ⟨hi_168, h⟩ := h
                  refine va_iald hx hb hK hw.1 7 0 rfl rfl hi_168 d_M_gate_88 ?_
                  refine lv_iload hx hb d_M_gate_89 (lv_at hl 0 rfl) ?_
                  refine lv_iadd hx hb d_M_gate_91 ?_
                  refine lv_bipush (v := 24) hx hb d_M_gate_92 (by decide) ?_
                  refine lv_icmp_gt (tgt := 107) hx hb d_M_gate_94 (by decide) (fun c_169 => ?_) (fun c_169 => ?_)
                  · replace h := h.1 c_169
                    refine lv_aload_n hx hb d_M_gate_107 rfl (lv_at hl 1 rfl) ?_
                    refine lv_iconst (v := 2) hx hb d_M_gate_108 (by decide) ?_
                    refine m_calli (va_runV (As := [.int 2]) (rest := []) ⟨hx, hb, hml, hown, hts⟩ (c_M_refuse l L 2 I F G _ _ h) (cwV 1 hts (gV wG793 wG795 wG20 wG54 wG796) rfl rfl rfl (by decide +kernel) ⟨Nat.le_of_ble_eq_true rfl, Nat.le_of_ble_eq_true rfl⟩) (mPrm hK hN hw) rfl rfl hl.1 rfl (lv_room (Nat.le_of_ble_eq_true rfl)) d_M_gate_109 ⟨Nat.le_of_ble_eq_true rfl, Nat.le_of_ble_eq_true rfl⟩) hw hA (fun r_170 I_171 F_171 G_171 H locs h hw => ?_)
                    exact W.iret hx hb hr (fun t ht hW => ⟨⟨_, (I_171, F_171, G_171), rfl, h, by rw [ht]; exact hw.1, va_K.moved hW.alike hK, hw.2.1⟩, hw.2.2.F ht⟩) hw.2.2.2.2 d_M_gate_112
                  · replace h := h.2 c_169
                    refine lv_aload_n hx hb d_M_gate_97 rfl (lv_at hl 1 rfl) ?_
                    refine lv_iload hx hb d_M_gate_98 (lv_at hl 5 rfl) ?_
                    refine vp_callSi (va_runV (As := [.int a4]) (rest := []) ⟨hx, hb, hml, hown, hts⟩ (c_M_driver l L a4 I F G _ h) (cwV 1 hts (gV wG797 wG799 wG21 wG54 wG800) rfl rfl rfl (by decide +kernel) ⟨Nat.le_of_ble_eq_true rfl, Nat.le_of_ble_eq_true rfl⟩) (mPre hK hN hw.1) rfl rfl hl.1 rfl (lv_room (Nat.le_of_ble_eq_true rfl)) d_M_gate_100 ⟨Nat.le_of_ble_eq_true rfl, Nat.le_of_ble_eq_true rfl⟩).run (fun r_172 h => ?_)
                    refine lv_iconst (v := (-1)) hx hb d_M_gate_103 (by decide) ?_
                    refine lv_icmp_eq (tgt := 113) hx hb d_M_gate_104 (by decide) (fun c_173 => ?_) (fun c_173 => ?_)
                    · replace h := h.1 c_173
                      refine lv_aload_n hx hb d_M_gate_113 rfl (lv_at hl 1 rfl) ?_
                      refine lv_iconst (v := 0) hx hb d_M_gate_114 (by decide) ?_
                      refine va_put (D := L.1) (ci := 5) (v := .int 0) (ty := .int) (C := qR5) (T := qT5) (N := 16) hx hb hts qi5 qy5 qk5 qn5 hown hK hw.1 hw.2.1 hw.2.2 0 rfl rfl 0 (by decide) (hts _ wG732) (fun _ h9 => h9) rfl (by decide +kernel) rfl rfl (Nat.le_of_ble_eq_true rfl) d_M_gate_115 (fun H locs h1 h2 h3 => ?_)
                      replace hw : MW L A s.heap (setI I 0 0) F G H locs := ⟨h1, h2, h3⟩
                      clear h1 h2 h3
                      obtain ⟨I_174, eI_174⟩ : ∃ y : MI, y = setI I 0 0 := ⟨_, rfl⟩
                      rw [← eI_174] at hw
                      replace h := h I_174 eI_174
                      refine lv_aload_n hx hb d_M_gate_118 rfl (lv_at hl 1 rfl) ?_
                      refine va_get (D := L.1) (ci := 5) (v := .ref (cA L 1)) (C := qR5) (T := qT5) (N := 16) hx hb hts qi5 hown hK hw.1 0 rfl rfl 3 (by decide) (hts _ wG735) (fun _ h9 => h9) rfl d_M_gate_119 ?_
                      refine lv_aload_n hx hb d_M_gate_122 rfl (lv_at hl 1 rfl) ?_
                      refine va_get (D := L.1) (ci := 5) (v := .int (I_174 1)) (C := qR5) (T := qT5) (N := 16) hx hb hts qi5 hown hK hw.1 0 rfl rfl 1 (by decide) (hts _ wG733) (fun _ h9 => h9) rfl d_M_gate_123 ?_
                      refine lv_iload_n hx hb d_M_gate_126 rfl (lv_at hl 2 rfl) ?_
                      obtain ⟨hi_175, h⟩ := h
                      refine m_iast hx hb hK hw 0 1 rfl (fun _ => rfl) hi_175 d_M_gate_127 (fun H locs hw => ?_)
                      obtain ⟨F_176, eF_176⟩ : ∃ y : MF, y = setF F 0 (upd (F 0) (I_174 1).toNatClampNeg a1) := ⟨_, rfl⟩
                      rw [← eF_176] at hw
                      replace h := h F_176 eF_176
                      refine lv_aload_n hx hb d_M_gate_128 rfl (lv_at hl 1 rfl) ?_
                      refine va_get (D := L.1) (ci := 5) (v := .ref (cA L 2)) (C := qR5) (T := qT5) (N := 16) hx hb hts qi5 hown hK hw.1 0 rfl rfl 4 (by decide) (hts _ wG736) (fun _ h9 => h9) rfl d_M_gate_129 ?_
                      refine lv_aload_n hx hb d_M_gate_132 rfl (lv_at hl 1 rfl) ?_
                      refine va_get (D := L.1) (ci := 5) (v := .int (I_174 1)) (C := qR5) (T := qT5) (N := 16) hx hb hts qi5 hown hK hw.1 0 rfl rfl 1 (by decide) (hts _ wG733) (fun _ h9 => h9) rfl d_M_gate_133 ?_
                      refine lv_iload_n hx hb d_M_gate_136 rfl (lv_at hl 3 rfl) ?_
                      obtain ⟨hi_177, h⟩ := h
                      refine m_iast hx hb hK hw 1 2 rfl (fun _ => rfl) hi_177 d_M_gate_137 (fun H locs hw => ?_)
                      obtain ⟨F_178, eF_178⟩ : ∃ y : MF, y = setF F_176 1 (upd (F_176 1) (I_174 1).toNatClampNeg a2) := ⟨_, rfl⟩
                      rw [← eF_178] at hw
                      replace h := h F_178 eF_178
                      refine lv_aload_n hx hb d_M_gate_138 rfl (lv_at hl 1 rfl) ?_
                      refine va_get (D := L.1) (ci := 5) (v := .ref (cA L 3)) (C := qR5) (T := qT5) (N := 16) hx hb hts qi5 hown hK hw.1 0 rfl rfl 5 (by decide) (hts _ wG737) (fun _ h9 => h9) rfl d_M_gate_139 ?_
                      refine lv_aload_n hx hb d_M_gate_142 rfl (lv_at hl 1 rfl) ?_
                      refine va_get (D := L.1) (ci := 5) (v := .int (I_174 1)) (C := qR5) (T := qT5) (N := 16) hx hb hts qi5 hown hK hw.1 0 rfl rfl 1 (by decide) (hts _ wG733) (fun _ h9 => h9) rfl d_M_gate_143 ?_
                      refine lv_iload_n hx hb d_M_gate_146 rfl (lv_at hl 2 rfl) ?_
                      refine lv_iconst (v := 1) hx hb d_M_gate_147 (by decide) ?_
                      refine lv_icmp_le (tgt := 155) hx hb d_M_gate_148 (by decide) (fun c_179 => ?_) (fun c_179 => ?_)
                      · replace h := h.1 c_179
                        refine lv_iconst (v := (-1)) hx hb d_M_gate_155 (by decide) ?_
                        obtain ⟨hi_180, h⟩ := h
                        refine m_iast hx hb hK hw 2 3 rfl (fun _ => rfl) hi_180 d_M_gate_156 (fun H locs hw => ?_)
                        obtain ⟨F_181, eF_181⟩ : ∃ y : MF, y = setF F_178 2 (upd (F_178 2) (I_174 1).toNatClampNeg (-1)) := ⟨_, rfl⟩
                        rw [← eF_181] at hw
                        replace h := h F_181 eF_181
                        refine lv_aload_n hx hb d_M_gate_157 rfl (lv_at hl 1 rfl) ?_
                        refine va_get (D := L.1) (ci := 5) (v := .ref (cA L 4)) (C := qR5) (T := qT5) (N := 16) hx hb hts qi5 hown hK hw.1 0 rfl rfl 6 (by decide) (hts _ wG738) (fun _ h9 => h9) rfl d_M_gate_158 ?_
                        refine lv_aload_n hx hb d_M_gate_161 rfl (lv_at hl 1 rfl) ?_
                        refine va_get (D := L.1) (ci := 5) (v := .int (I_174 1)) (C := qR5) (T := qT5) (N := 16) hx hb hts qi5 hown hK hw.1 0 rfl rfl 1 (by decide) (hts _ wG733) (fun _ h9 => h9) rfl d_M_gate_162 ?_
                        refine lv_iload hx hb d_M_gate_165 (lv_at hl 5 rfl) ?_
                        obtain ⟨hi_182, h⟩ := h
                        refine m_iast hx hb hK hw 3 4 rfl (fun _ => rfl) hi_182 d_M_gate_167 (fun H locs hw => ?_)
                        obtain ⟨F_183, eF_183⟩ : ∃ y : MF, y = setF F_181 3 (upd (F_181 3) (I_174 1).toNatClampNeg a4) := ⟨_, rfl⟩
                        rw [← eF_183] at hw
                        replace h := h F_183 eF_183
                        refine lv_aload_n hx hb d_M_gate_168 rfl (lv_at hl 1 rfl) ?_
                        refine va_get (D := L.1) (ci := 5) (v := .ref (cA L 5)) (C := qR5) (T := qT5) (N := 16) hx hb hts qi5 hown hK hw.1 0 rfl rfl 7 (by decide) (hts _ wG739) (fun _ h9 => h9) rfl d_M_gate_169 ?_
                        refine lv_aload_n hx hb d_M_gate_172 rfl (lv_at hl 1 rfl) ?_
                        refine va_get (D := L.1) (ci := 5) (v := .int (I_174 1)) (C := qR5) (T := qT5) (N := 16) hx hb hts qi5 hown hK hw.1 0 rfl rfl 1 (by decide) (hts _ wG733) (fun _ h9 => h9) rfl d_M_gate_173 ?_
                        refine lv_iload hx hb d_M_gate_176 (lv_at hl 6 rfl) ?_
                        obtain ⟨hi_184, h⟩ := h
                        refine m_iast hx hb hK hw 4 5 rfl (fun _ => rfl) hi_184 d_M_gate_178 (fun H locs hw => ?_)
                        obtain ⟨F_185, eF_185⟩ : ∃ y : MF, y = setF F_183 4 (upd (F_183 4) (I_174 1).toNatClampNeg a5) := ⟨_, rfl⟩
                        rw [← eF_185] at hw
                        replace h := h F_185 eF_185
                        refine lv_aload_n hx hb d_M_gate_179 rfl (lv_at hl 1 rfl) ?_
                        refine va_get (D := L.1) (ci := 5) (v := .ref (cA L 6)) (C := qR5) (T := qT5) (N := 16) hx hb hts qi5 hown hK hw.1 0 rfl rfl 8 (by decide) (hts _ wG740) (fun _ h9 => h9) rfl d_M_gate_180 ?_
                        refine lv_aload_n hx hb d_M_gate_183 rfl (lv_at hl 1 rfl) ?_
                        refine va_get (D := L.1) (ci := 5) (v := .int (I_174 1)) (C := qR5) (T := qT5) (N := 16) hx hb hts qi5 hown hK hw.1 0 rfl rfl 1 (by decide) (hts _ wG733) (fun _ h9 => h9) rfl d_M_gate_184 ?_
                        refine lv_aload_n hx hb d_M_gate_187 rfl (lv_at hl 1 rfl) ?_
                        refine va_get (D := L.1) (ci := 5) (v := .ref (cA L 7)) (C := qR5) (T := qT5) (N := 16) hx hb hts qi5 hown hK hw.1 0 rfl rfl 9 (by decide) (hts _ wG741) (fun _ h9 => h9) rfl d_M_gate_188 ?_
                        refine lv_iload hx hb d_M_gate_191 (lv_at hl 6 rfl) ?_
                        obtain ⟨hi_186, h⟩ := h
                        refine va_iald hx hb hK hw.1 7 0 rfl rfl hi_186 d_M_gate_193 ?_
                        obtain ⟨hi_187, h⟩ := h
                        refine m_iast hx hb hK hw 5 6 rfl (fun _ => rfl) hi_187 d_M_gate_194 (fun H locs hw => ?_)
                        obtain ⟨F_188, eF_188⟩ : ∃ y : MF, y = setF F_185 5 (upd (F_185 5) (I_174 1).toNatClampNeg (F_185 6 a5.toNatClampNeg)) := ⟨_, rfl⟩
                        rw [← eF_188] at hw
                        replace h := h F_188 eF_188
                        refine lv_aload_n hx hb d_M_gate_195 rfl (lv_at hl 1 rfl) ?_
                        refine va_get (D := L.1) (ci := 5) (v := .ref (cA L 7)) (C := qR5) (T := qT5) (N := 16) hx hb hts qi5 hown hK hw.1 0 rfl rfl 9 (by decide) (hts _ wG741) (fun _ h9 => h9) rfl d_M_gate_196 ?_
                        refine lv_iload hx hb d_M_gate_199 (lv_at hl 6 rfl) ?_
                        refine lv_dup2_11 hx hb d_M_gate_201 rfl rfl ?_
                        obtain ⟨hi_189, h⟩ := h
                        refine va_iald hx hb hK hw.1 7 0 rfl rfl hi_189 d_M_gate_202 ?_
                        refine lv_iload hx hb d_M_gate_203 (lv_at hl 0 rfl) ?_
                        refine lv_iconst (v := 1) hx hb d_M_gate_205 (by decide) ?_
                        refine lv_iadd hx hb d_M_gate_206 ?_
                        refine lv_iadd hx hb d_M_gate_207 ?_
                        obtain ⟨hi_190, h⟩ := h
                        refine m_iast hx hb hK hw 6 7 rfl (fun _ => rfl) hi_190 d_M_gate_208 (fun H locs hw => ?_)
                        obtain ⟨F_191, eF_191⟩ : ∃ y : MF, y = setF F_188 6 (upd (F_188 6) a5.toNatClampNeg ((F_188 6 a5.toNatClampNeg) + (2 + 1))) := ⟨_, rfl⟩
                        rw [← eF_191] at hw
                        replace h := h F_191 eF_191
                        refine lv_aload_n hx hb d_M_gate_209 rfl (lv_at hl 1 rfl) ?_
                        refine lv_dup hx hb d_M_gate_210 rfl ?_
                        refine va_get (D := L.1) (ci := 5) (v := .int (I_174 1)) (C := qR5) (T := qT5) (N := 16) hx hb hts qi5 hown hK hw.1 0 rfl rfl 1 (by decide) (hts _ wG733) (fun _ h9 => h9) rfl d_M_gate_211 ?_
                        refine lv_iconst (v := 1) hx hb d_M_gate_214 (by decide) ?_
                        refine lv_iadd hx hb d_M_gate_215 ?_
                        refine va_put (D := L.1) (ci := 5) (v := .int ((I_174 1) + 1)) (ty := .int) (C := qR5) (T := qT5) (N := 16) hx hb hts qi5 qy5 qk5 qn5 hown hK hw.1 hw.2.1 hw.2.2 0 rfl rfl 1 (by decide) (hts _ wG733) (fun _ h9 => h9) rfl (by decide +kernel) rfl rfl (Nat.le_of_ble_eq_true rfl) d_M_gate_216 (fun H locs h1 h2 h3 => ?_)
                        replace hw : MW L A s.heap (setI I_174 1 ((I_174 1) + 1)) F_191 G H locs := ⟨h1, h2, h3⟩
                        clear h1 h2 h3
                        obtain ⟨I_192, eI_192⟩ : ∃ y : MI, y = setI I_174 1 ((I_174 1) + 1) := ⟨_, rfl⟩
                        rw [← eI_192] at hw
                        replace h := h I_192 eI_192
                        refine lv_aload_n hx hb d_M_gate_219 rfl (lv_at hl 1 rfl) ?_
                        refine lv_iconst (v := (-1)) hx hb d_M_gate_220 (by decide) ?_
                        refine va_put (D := L.1) (ci := 5) (v := .int (-1)) (ty := .int) (C := qR5) (T := qT5) (N := 16) hx hb hts qi5 qy5 qk5 qn5 hown hK hw.1 hw.2.1 hw.2.2 0 rfl rfl 2 (by decide) (hts _ wG734) (fun _ h9 => h9) rfl (by decide +kernel) rfl rfl (Nat.le_of_ble_eq_true rfl) d_M_gate_221 (fun H locs h1 h2 h3 => ?_)
                        replace hw : MW L A s.heap (setI I_192 2 (-1)) F_191 G H locs := ⟨h1, h2, h3⟩
                        clear h1 h2 h3
                        obtain ⟨I_193, eI_193⟩ : ∃ y : MI, y = setI I_192 2 (-1) := ⟨_, rfl⟩
                        rw [← eI_193] at hw
                        replace h := h I_193 eI_193
                        refine lv_aload_n hx hb d_M_gate_224 rfl (lv_at hl 1 rfl) ?_
                        refine va_get (D := L.1) (ci := 5) (v := .int (I_193 1)) (C := qR5) (T := qT5) (N := 16) hx hb hts qi5 hown hK hw.1 0 rfl rfl 1 (by decide) (hts _ wG733) (fun _ h9 => h9) rfl d_M_gate_225 ?_
                        refine lv_iconst (v := 1) hx hb d_M_gate_228 (by decide) ?_
                        refine lv_isub hx hb d_M_gate_229 ?_
                        exact W.iret hx hb hr (fun t ht hW => ⟨⟨_, (I_193, F_191, G), rfl, h, by rw [ht]; exact hw.1, va_K.moved hW.alike hK, hw.2.1⟩, hw.2.2.F ht⟩) hw.2.2.2.2 d_M_gate_230
                      · replace h := h.2 c_179
                        refine lv_iload_n hx hb d_M_gate_151 rfl (lv_at hl 4 rfl) ?_
                        refine lv_goto (tgt := 156) hx hb d_M_gate_152 (by decide) ?_
                        obtain ⟨hi_194, h⟩ := h
                        refine m_iast hx hb hK hw 2 3 rfl (fun _ => rfl) hi_194 d_M_gate_156 (fun H locs hw => ?_)
                        obtain ⟨F_195, eF_195⟩ : ∃ y : MF, y = setF F_178 2 (upd (F_178 2) (I_174 1).toNatClampNeg a3) := ⟨_, rfl⟩
                        rw [← eF_195] at hw
                        replace h := h F_195 eF_195
                        refine lv_aload_n hx hb d_M_gate_157 rfl (lv_at hl 1 rfl) ?_
                        refine va_get (D := L.1) (ci := 5) (v := .ref (cA L 4)) (C := qR5) (T := qT5) (N := 16) hx hb hts qi5 hown hK hw.1 0 rfl rfl 6 (by decide) (hts _ wG738) (fun _ h9 => h9) rfl d_M_gate_158 ?_
                        refine lv_aload_n hx hb d_M_gate_161 rfl (lv_at hl 1 rfl) ?_
                        refine va_get (D := L.1) (ci := 5) (v := .int (I_174 1)) (C := qR5) (T := qT5) (N := 16) hx hb hts qi5 hown hK hw.1 0 rfl rfl 1 (by decide) (hts _ wG733) (fun _ h9 => h9) rfl d_M_gate_162 ?_
                        refine lv_iload hx hb d_M_gate_165 (lv_at hl 5 rfl) ?_
                        obtain ⟨hi_196, h⟩ := h
                        refine m_iast hx hb hK hw 3 4 rfl (fun _ => rfl) hi_196 d_M_gate_167 (fun H locs hw => ?_)
                        obtain ⟨F_197, eF_197⟩ : ∃ y : MF, y = setF F_195 3 (upd (F_195 3) (I_174 1).toNatClampNeg a4) := ⟨_, rfl⟩
                        rw [← eF_197] at hw
                        replace h := h F_197 eF_197
                        refine lv_aload_n hx hb d_M_gate_168 rfl (lv_at hl 1 rfl) ?_
                        refine va_get (D := L.1) (ci := 5) (v := .ref (cA L 5)) (C := qR5) (T := qT5) (N := 16) hx hb hts qi5 hown hK hw.1 0 rfl rfl 7 (by decide) (hts _ wG739) (fun _ h9 => h9) rfl d_M_gate_169 ?_
                        refine lv_aload_n hx hb d_M_gate_172 rfl (lv_at hl 1 rfl) ?_
                        refine va_get (D := L.1) (ci := 5) (v := .int (I_174 1)) (C := qR5) (T := qT5) (N := 16) hx hb hts qi5 hown hK hw.1 0 rfl rfl 1 (by decide) (hts _ wG733) (fun _ h9 => h9) rfl d_M_gate_173 ?_
                        refine lv_iload hx hb d_M_gate_176 (lv_at hl 6 rfl) ?_
                        obtain ⟨hi_198, h⟩ := h
                        refine m_iast hx hb hK hw 4 5 rfl (fun _ => rfl) hi_198 d_M_gate_178 (fun H locs hw => ?_)
                        obtain ⟨F_199, eF_199⟩ : ∃ y : MF, y = setF F_197 4 (upd (F_197 4) (I_174 1).toNatClampNeg a5) := ⟨_, rfl⟩
                        rw [← eF_199] at hw
                        replace h := h F_199 eF_199
                        refine lv_aload_n hx hb d_M_gate_179 rfl (lv_at hl 1 rfl) ?_
                        refine va_get (D := L.1) (ci := 5) (v := .ref (cA L 6)) (C := qR5) (T := qT5) (N := 16) hx hb hts qi5 hown hK hw.1 0 rfl rfl 8 (by decide) (hts _ wG740) (fun _ h9 => h9) rfl d_M_gate_180 ?_
                        refine lv_aload_n hx hb d_M_gate_183 rfl (lv_at hl 1 rfl) ?_
                        refine va_get (D := L.1) (ci := 5) (v := .int (I_174 1)) (C := qR5) (T := qT5) (N := 16) hx hb hts qi5 hown hK hw.1 0 rfl rfl 1 (by decide) (hts _ wG733) (fun _ h9 => h9) rfl d_M_gate_184 ?_
                        refine lv_aload_n hx hb d_M_gate_187 rfl (lv_at hl 1 rfl) ?_
                        refine va_get (D := L.1) (ci := 5) (v := .ref (cA L 7)) (C := qR5) (T := qT5) (N := 16) hx hb hts qi5 hown hK hw.1 0 rfl rfl 9 (by decide) (hts _ wG741) (fun _ h9 => h9) rfl d_M_gate_188 ?_
                        refine lv_iload hx hb d_M_gate_191 (lv_at hl 6 rfl) ?_
                        obtain ⟨hi_200, h⟩ := h
                        refine va_iald hx hb hK hw.1 7 0 rfl rfl hi_200 d_M_gate_193 ?_
                        obtain ⟨hi_201, h⟩ := h
                        refine m_iast hx hb hK hw 5 6 rfl (fun _ => rfl) hi_201 d_M_gate_194 (fun H locs hw => ?_)
                        obtain ⟨F_202, eF_202⟩ : ∃ y : MF, y = setF F_199 5 (upd (F_199 5) (I_174 1).toNatClampNeg (F_199 6 a5.toNatClampNeg)) := ⟨_, rfl⟩
                        rw [← eF_202] at hw
                        replace h := h F_202 eF_202
                        refine lv_aload_n hx hb d_M_gate_195 rfl (lv_at hl 1 rfl) ?_
                        refine va_get (D := L.1) (ci := 5) (v := .ref (cA L 7)) (C := qR5) (T := qT5) (N := 16) hx hb hts qi5 hown hK hw.1 0 rfl rfl 9 (by decide) (hts _ wG741) (fun _ h9 => h9) rfl d_M_gate_196 ?_
                        refine lv_iload hx hb d_M_gate_199 (lv_at hl 6 rfl) ?_
                        refine lv_dup2_11 hx hb d_M_gate_201 rfl rfl ?_
                        obtain ⟨hi_203, h⟩ := h
                        refine va_iald hx hb hK hw.1 7 0 rfl rfl hi_203 d_M_gate_202 ?_
                        refine lv_iload hx hb d_M_gate_203 (lv_at hl 0 rfl) ?_
                        refine lv_iconst (v := 1) hx hb d_M_gate_205 (by decide) ?_
                        refine lv_iadd hx hb d_M_gate_206 ?_
                        refine lv_iadd hx hb d_M_gate_207 ?_
                        obtain ⟨hi_204, h⟩ := h
                        refine m_iast hx hb hK hw 6 7 rfl (fun _ => rfl) hi_204 d_M_gate_208 (fun H locs hw => ?_)
                        obtain ⟨F_205, eF_205⟩ : ∃ y : MF, y = setF F_202 6 (upd (F_202 6) a5.toNatClampNeg ((F_202 6 a5.toNatClampNeg) + (2 + 1))) := ⟨_, rfl⟩
                        rw [← eF_205] at hw
                        replace h := h F_205 eF_205
                        refine lv_aload_n hx hb d_M_gate_209 rfl (lv_at hl 1 rfl) ?_
                        refine lv_dup hx hb d_M_gate_210 rfl ?_
                        refine va_get (D := L.1) (ci := 5) (v := .int (I_174 1)) (C := qR5) (T := qT5) (N := 16) hx hb hts qi5 hown hK hw.1 0 rfl rfl 1 (by decide) (hts _ wG733) (fun _ h9 => h9) rfl d_M_gate_211 ?_
                        refine lv_iconst (v := 1) hx hb d_M_gate_214 (by decide) ?_
                        refine lv_iadd hx hb d_M_gate_215 ?_
                        refine va_put (D := L.1) (ci := 5) (v := .int ((I_174 1) + 1)) (ty := .int) (C := qR5) (T := qT5) (N := 16) hx hb hts qi5 qy5 qk5 qn5 hown hK hw.1 hw.2.1 hw.2.2 0 rfl rfl 1 (by decide) (hts _ wG733) (fun _ h9 => h9) rfl (by decide +kernel) rfl rfl (Nat.le_of_ble_eq_true rfl) d_M_gate_216 (fun H locs h1 h2 h3 => ?_)
                        replace hw : MW L A s.heap (setI I_174 1 ((I_174 1) + 1)) F_205 G H locs := ⟨h1, h2, h3⟩
                        clear h1 h2 h3
                        obtain ⟨I_206, eI_206⟩ : ∃ y : MI, y = setI I_174 1 ((I_174 1) + 1) := ⟨_, rfl⟩
                        rw [← eI_206] at hw
                        replace h := h I_206 eI_206
                        refine lv_aload_n hx hb d_M_gate_219 rfl (lv_at hl 1 rfl) ?_
                        refine lv_iconst (v := (-1)) hx hb d_M_gate_220 (by decide) ?_
                        refine va_put (D := L.1) (ci := 5) (v := .int (-1)) (ty := .int) (C := qR5) (T := qT5) (N := 16) hx hb hts qi5 qy5 qk5 qn5 hown hK hw.1 hw.2.1 hw.2.2 0 rfl rfl 2 (by decide) (hts _ wG734) (fun _ h9 => h9) rfl (by decide +kernel) rfl rfl (Nat.le_of_ble_eq_true rfl) d_M_gate_221 (fun H locs h1 h2 h3 => ?_)
                        replace hw : MW L A s.heap (setI I_206 2 (-1)) F_205 G H locs := ⟨h1, h2, h3⟩
                        clear h1 h2 h3
                        obtain ⟨I_207, eI_207⟩ : ∃ y : MI, y = setI I_206 2 (-1) := ⟨_, rfl⟩
                        rw [← eI_207] at hw
                        replace h := h I_207 eI_207
                        refine lv_aload_n hx hb d_M_gate_224 rfl (lv_at hl 1 rfl) ?_
                        refine va_get (D := L.1) (ci := 5) (v := .int (I_207 1)) (C := qR5) (T := qT5) (N := 16) hx hb hts qi5 hown hK hw.1 0 rfl rfl 1 (by decide) (hts _ wG733) (fun _ h9 => h9) rfl d_M_gate_225 ?_
                        refine lv_iconst (v := 1) hx hb d_M_gate_228 (by decide) ?_
                        refine lv_isub hx hb d_M_gate_229 ?_
                        exact W.iret hx hb hr (fun t ht hW => ⟨⟨_, (I_207, F_205, G), rfl, h, by rw [ht]; exact hw.1, va_K.moved hW.alike hK, hw.2.1⟩, hw.2.2.F ht⟩) hw.2.2.2.2 d_M_gate_230
                    · replace h := h.2 c_173
                      refine lv_aload_n hx hb d_M_gate_107 rfl (lv_at hl 1 rfl) ?_
                      refine lv_iconst (v := 2) hx hb d_M_gate_108 (by decide) ?_
                      refine m_calli (va_runV (As := [.int 2]) (rest := []) ⟨hx, hb, hml, hown, hts⟩ (c_M_refuse l L 2 I F G _ _ h) (cwV 1 hts (gV wG793 wG795 wG20 wG54 wG796) rfl rfl rfl (by decide +kernel) ⟨Nat.le_of_ble_eq_true rfl, Nat.le_of_ble_eq_true rfl⟩) (mPrm hK hN hw) rfl rfl hl.1 rfl (lv_room (Nat.le_of_ble_eq_true rfl)) d_M_gate_109 ⟨Nat.le_of_ble_eq_true rfl, Nat.le_of_ble_eq_true rfl⟩) hw hA (fun r_208 I_209 F_209 G_209 H locs h hw => ?_)
                      exact W.iret hx hb hr (fun t ht hW => ⟨⟨_, (I_209, F_209, G_209), rfl, h, by rw [ht]; exact hw.1, va_K.moved hW.alike hK, hw.2.1⟩, hw.2.2.F ht⟩) hw.2.2.2.2 d_M_gate_112
            · replace h := h.2 c_118
              refine lv_aload_n hx hb d_M_gate_55 rfl (lv_at hl 0 rfl) ?_
              refine lv_iconst (v := 1) hx hb d_M_gate_56 (by decide) ?_
              refine m_calli (va_runV (As := [.int 1]) (rest := []) ⟨hx, hb, hml, hown, hts⟩ (c_M_refuse l L 1 I F G _ _ h) (cwV 1 hts (gV wG793 wG795 wG20 wG54 wG796) rfl rfl rfl (by decide +kernel) ⟨Nat.le_of_ble_eq_true rfl, Nat.le_of_ble_eq_true rfl⟩) (mPrm hK hN hw) rfl rfl hl.1 rfl (lv_room (Nat.le_of_ble_eq_true rfl)) d_M_gate_57 ⟨Nat.le_of_ble_eq_true rfl, Nat.le_of_ble_eq_true rfl⟩) hw hA (fun r_210 I_211 F_211 G_211 H locs h hw => ?_)
              exact W.iret hx hb hr (fun t ht hW => ⟨⟨_, (I_211, F_211, G_211), rfl, h, by rw [ht]; exact hw.1, va_K.moved hW.alike hK, hw.2.1⟩, hw.2.2.F ht⟩) hw.2.2.2.2 d_M_gate_60
abbrev rm_M_clear : Room := { frames := 0, cells := 0, slots := 0, locals := 0 }
set_option maxHeartbeats 4000000 in
set_option maxRecDepth 100000 in
theorem c_M_clear (l : Launch) (L : cL) (I : MI) (F : MF) (G : MG) (sz : Nat) (post : Int32 → MI → MF → MG → Prop) (h : wp_M_clear I F G post) : Met l y_M_clear (.code y_M_clear b_M_clear 2 (some .int) :: lwG) rm_M_clear (mPm L I F G sz [.ref (cA L 0)]) (mQi L (mAA L I F G sz) post (mAA L I F G sz)) 0 0 (mAA L I F G sz) := by
  refine Met.ofW (cc := b_M_clear) (maxL := 2) (ret := (some .int)) (by decide) rfl ?_
  intro p e s m args below meth c s₁ B hml hv
  obtain ⟨rfl, hsz, hP, hK, hD0, hN⟩ := hv
  have xc : xC p s m _ meth c b_M_clear 2 lwG qR5 (some .int) := ⟨B.exec, B.bytes, hml, findClass_of_methodNamed B.named, fun w h => atoms_spec (ws := (.code y_M_clear b_M_clear 2 (some .int) :: lwG)) B.pre w (List.mem_cons_of_mem _ h), B.returns, B.notSynchronized⟩
  obtain ⟨hx, hb, hml, hown, hts, hr, hlocks⟩ := id xc
  subst hsz
  have hD : va_D (mAA L I F G s.heap.size) (WM L I F G) := hD0.self
  have hA0 : ∀ q : Nat, s.heap.size ≤ q → mAA L I F G s.heap.size q := fun q h => Or.inr h
  generalize mAA L I F G s.heap.size = A at hD hA0 ⊢
  have hA := hA0
  have hw : MW L A s.heap I F G s.heap [] := ⟨hP, hD, va_S.rf⟩
  have hl := lv_entry ([.ref (cA L 0)]) (n := 2) (Nat.le_of_ble_eq_true rfl)
  rw [lg_entry_eq]
  generalize (lg_sl ([.ref (cA L 0)]) ++ List.replicate (2 - (lg_sl ([.ref (cA L 0)])).length) Slot.unset).toArray = ls at hl ⊢
  have hl : lv_has ls 2 [(0, .ref (cA L 0))] := hl
  refine lv_aload_n hx hb d_M_clear_0 rfl (lv_at hl 0 rfl) ?_
  refine lv_iconst (v := 0) hx hb d_M_clear_1 (by decide) ?_
  refine va_put (D := L.1) (ci := 5) (v := .int 0) (ty := .int) (C := qR5) (T := qT5) (N := 16) hx hb hts qi5 qy5 qk5 qn5 hown hK hw.1 hw.2.1 hw.2.2 0 rfl rfl 0 (by decide) (hts _ wG732) (fun _ h9 => h9) rfl (by decide +kernel) rfl rfl (Nat.le_of_ble_eq_true rfl) d_M_clear_2 (fun H locs h1 h2 h3 => ?_)
  replace hw : MW L A s.heap (setI I 0 0) F G H locs := ⟨h1, h2, h3⟩
  clear h1 h2 h3
  obtain ⟨I_1, eI_1⟩ : ∃ y : MI, y = setI I 0 0 := ⟨_, rfl⟩
  rw [← eI_1] at hw
  replace h := h I_1 eI_1
  refine lv_aload_n hx hb d_M_clear_5 rfl (lv_at hl 0 rfl) ?_
  refine va_get (D := L.1) (ci := 5) (v := .int (I_1 1)) (C := qR5) (T := qT5) (N := 16) hx hb hts qi5 hown hK hw.1 0 rfl rfl 1 (by decide) (hts _ wG733) (fun _ h9 => h9) rfl d_M_clear_6 ?_
  refine lv_topi (fun x_2 ex_2 => ?_)
  replace h := h x_2 ex_2
  refine lv_istore_n (lv' := [(1, .int x_2), (0, .ref (cA L 0))]) hx hb d_M_clear_9 rfl hl (by decide) rfl (fun ls hl => ?_)
  refine lv_aload_n hx hb d_M_clear_10 rfl (lv_at hl 1 rfl) ?_
  refine lv_iconst (v := 0) hx hb d_M_clear_11 (by decide) ?_
  refine va_put (D := L.1) (ci := 5) (v := .int 0) (ty := .int) (C := qR5) (T := qT5) (N := 16) hx hb hts qi5 qy5 qk5 qn5 hown hK hw.1 hw.2.1 hw.2.2 0 rfl rfl 1 (by decide) (hts _ wG733) (fun _ h9 => h9) rfl (by decide +kernel) rfl rfl (Nat.le_of_ble_eq_true rfl) d_M_clear_12 (fun H locs h1 h2 h3 => ?_)
  replace hw : MW L A s.heap (setI I_1 1 0) F G H locs := ⟨h1, h2, h3⟩
  clear h1 h2 h3
  obtain ⟨I_3, eI_3⟩ : ∃ y : MI, y = setI I_1 1 0 := ⟨_, rfl⟩
  rw [← eI_3] at hw
  replace h := h I_3 eI_3
  refine lv_aload_n hx hb d_M_clear_15 rfl (lv_at hl 1 rfl) ?_
  refine va_get (D := L.1) (ci := 5) (v := .ref (cA L 7)) (C := qR5) (T := qT5) (N := 16) hx hb hts qi5 hown hK hw.1 0 rfl rfl 9 (by decide) (hts _ wG741) (fun _ h9 => h9) rfl d_M_clear_16 ?_
  refine lv_iconst (v := 0) hx hb d_M_clear_19 (by decide) ?_
  refine lv_iconst (v := 1) hx hb d_M_clear_20 (by decide) ?_
  obtain ⟨hi_4, h⟩ := h
  refine m_iast hx hb hK hw 6 7 rfl (fun _ => rfl) hi_4 d_M_clear_21 (fun H locs hw => ?_)
  obtain ⟨F_5, eF_5⟩ : ∃ y : MF, y = setF F 6 (upd (F 6) (0 : Int32).toNatClampNeg 1) := ⟨_, rfl⟩
  rw [← eF_5] at hw
  replace h := h F_5 eF_5
  refine lv_aload_n hx hb d_M_clear_22 rfl (lv_at hl 1 rfl) ?_
  refine va_get (D := L.1) (ci := 5) (v := .ref (cA L 7)) (C := qR5) (T := qT5) (N := 16) hx hb hts qi5 hown hK hw.1 0 rfl rfl 9 (by decide) (hts _ wG741) (fun _ h9 => h9) rfl d_M_clear_23 ?_
  refine lv_iconst (v := 1) hx hb d_M_clear_26 (by decide) ?_
  refine lv_iconst (v := 1) hx hb d_M_clear_27 (by decide) ?_
  obtain ⟨hi_6, h⟩ := h
  refine m_iast hx hb hK hw 6 7 rfl (fun _ => rfl) hi_6 d_M_clear_28 (fun H locs hw => ?_)
  obtain ⟨F_7, eF_7⟩ : ∃ y : MF, y = setF F_5 6 (upd (F_5 6) (1 : Int32).toNatClampNeg 1) := ⟨_, rfl⟩
  rw [← eF_7] at hw
  replace h := h F_7 eF_7
  refine lv_aload_n hx hb d_M_clear_29 rfl (lv_at hl 1 rfl) ?_
  refine lv_iconst (v := (-1)) hx hb d_M_clear_30 (by decide) ?_
  refine va_put (D := L.1) (ci := 5) (v := .int (-1)) (ty := .int) (C := qR5) (T := qT5) (N := 16) hx hb hts qi5 qy5 qk5 qn5 hown hK hw.1 hw.2.1 hw.2.2 0 rfl rfl 2 (by decide) (hts _ wG734) (fun _ h9 => h9) rfl (by decide +kernel) rfl rfl (Nat.le_of_ble_eq_true rfl) d_M_clear_31 (fun H locs h1 h2 h3 => ?_)
  replace hw : MW L A s.heap (setI I_3 2 (-1)) F_7 G H locs := ⟨h1, h2, h3⟩
  clear h1 h2 h3
  obtain ⟨I_8, eI_8⟩ : ∃ y : MI, y = setI I_3 2 (-1) := ⟨_, rfl⟩
  rw [← eI_8] at hw
  replace h := h I_8 eI_8
  refine lv_iload_n hx hb d_M_clear_34 rfl (lv_at hl 0 rfl) ?_
  exact W.iret hx hb hr (fun t ht hW => ⟨⟨_, (I_8, F_7, G), rfl, h, by rw [ht]; exact hw.1, va_K.moved hW.alike hK, hw.2.1⟩, hw.2.2.F ht⟩) hw.2.2.2.2 d_M_clear_35
