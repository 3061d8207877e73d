/-! the wrappers of the law -/
abbrev xIAE : String := "java/lang/IllegalArgumentException"
theorem dC_IAE : (Cond.castable "java/lang/IllegalArgumentException" "java/lang/IllegalArgumentException") ∈ lwD := List.mem_filter.mpr ⟨List.mem_of_getElem? (i := 254) (by decide +kernel), rfl⟩
abbrev xISE : String := "java/lang/IllegalStateException"
theorem dC_ISE : (Cond.castable "java/lang/IllegalStateException" "java/lang/IllegalStateException") ∈ lwD := List.mem_filter.mpr ⟨List.mem_of_getElem? (i := 339) (by decide +kernel), rfl⟩
abbrev xIOB : String := "java/lang/IndexOutOfBoundsException"
theorem dC_IOB : (Cond.castable "java/lang/IndexOutOfBoundsException" "java/lang/IndexOutOfBoundsException") ∈ lwD := List.mem_filter.mpr ⟨List.mem_of_getElem? (i := 471) (by decide +kernel), rfl⟩
abbrev xARE : String := "java/lang/ArithmeticException"
theorem dC_ARE : (Cond.castable "java/lang/ArithmeticException" "java/lang/ArithmeticException") ∈ lwD := List.mem_filter.mpr ⟨List.mem_of_getElem? (i := 671) (by decide +kernel), rfl⟩
abbrev xUOE : String := "java/lang/UnsupportedOperationException"
theorem dC_UOE : (Cond.castable "java/lang/UnsupportedOperationException" "java/lang/UnsupportedOperationException") ∈ lwD := List.mem_filter.mpr ⟨List.mem_of_getElem? (i := 420) (by decide +kernel), rfl⟩
def cNcs (U : State) : Prop := va_Nc "java/lang/IllegalStateException" "java/lang/IllegalArgumentException" U ∧ va_Nc "java/lang/IndexOutOfBoundsException" "java/lang/IllegalArgumentException" U ∧ va_Nc "java/lang/IndexOutOfBoundsException" "java/lang/IllegalStateException" U ∧ va_Nc "java/lang/ArithmeticException" "java/lang/IllegalArgumentException" U ∧ va_Nc "java/lang/ArithmeticException" "java/lang/IllegalStateException" U ∧ va_Nc "java/lang/UnsupportedOperationException" "java/lang/IllegalStateException" U
theorem cNcs.moved {s U : State} (hv : s.vm.Alike U.vm) (h : cNcs s) : cNcs U := ⟨h.1.moved hv, h.2.1.moved hv, h.2.2.1.moved hv, h.2.2.2.1.moved hv, h.2.2.2.2.1.moved hv, h.2.2.2.2.2.moved hv⟩
abbrev oT (L : cL) (cJ : ClassId) : List (ClassId × FieldType) := [(L.2.1, .int), (L.2.2.1, .double), (L.2.2.2.1, .array .int), (cJ, .long)]
abbrev WOl (L : cL) (I : MI) (F : MF) (G : MG) (cJ : ClassId) (oa : Nat) (f : Nat → Int64) : va_W := WC L I F G ++ [(oa, .inl (cJ, 1, .inr (.inl f)))]
abbrev WOd (L : cL) (I : MI) (F : MF) (G : MG) (cJ : ClassId) (oa : Nat) (f : Nat → UInt64) : va_W := WC L I F G ++ [(oa, .inl (L.2.2.1, 1, .inr (.inr (.inr (.inl f)))))]
def wPc (L : cL) (cJ : ClassId) (ws : va_W) (sz : Nat) (av : List Value) : Array Value → State → Prop := va_Pc av (fun U => U.heap.size = sz ∧ va_P L.1 vwCl ws U.heap ∧ va_K L.1 vwCl (oT L cJ) U ∧ va_D (fun _ => True) ws ∧ cNk U ∧ tx_Z (va_A ws sz) U U.heap ∧ cSt U ∧ cNcs U)
theorem wPc_blind (L : cL) (cJ : ClassId) (ws : va_W) (sz : Nat) (av : List Value) : FrameBlind (wPc L cJ ws sz av) := fun a U g mk h => ⟨h.1, h.2.1, h.2.2.1, va_K.moved (u := U) (U := U.calling g mk a) (Vm.Alike.refl U.vm) h.2.2.2.1, h.2.2.2.2.1, cNk.same rfl h.2.2.2.2.2.1, tx_Z.moved (Vm.Alike.refl U.vm) h.2.2.2.2.2.2.1, cSt.same (s := U) (U := U.calling g mk a) rfl h.2.2.2.2.2.2.2.1, cNcs.moved (s := U) (U := U.calling g mk a) (Vm.Alike.refl U.vm) h.2.2.2.2.2.2.2.2⟩
theorem updL0 (f : Nat → Int64) (x : Int64) : vp_updL f (0 : Int32).toNatClampNeg x 0 = x := by simp [vp_updL]
theorem updD0 (f : Nat → UInt64) (x : UInt64) : vf_upd f (0 : Int32).toNatClampNeg x 0 = x := by simp [vf_upd]
def wq_gate (a1 : Int32) (a2 : Int32) (a3 : Int32) (a4 : Int32) (a5 : Int32) (v : Int64) (I : MI) (F : MF) (G : MG) (post : Int32 → Int64 → MI → MF → MG → Prop) : Prop := wp_F_gate a1 a2 a3 a4 a5 I F G (fun r I1 F1 G1 => post 0 r.toInt64 I1 F1 G1) (fun E I1 F1 G1 => (E = "java/lang/IllegalArgumentException" ∧ post 1 v I1 F1 G1) ∨ (E = "java/lang/IllegalStateException" ∧ post 2 v I1 F1 G1))
abbrev rm_L_gate : Room := { frames := 7, cells := 1, slots := 6, locals := 122 }
set_option maxHeartbeats 4000000 in
set_option maxRecDepth 100000 in
theorem c_L_gate (l : Launch) (L : cL) (hst : l.stackTraces = false) (cJ : ClassId) (oa : Nat) (a1 : Int32) (a2 : Int32) (a3 : Int32) (a4 : Int32) (a5 : Int32) (I : MI) (F : MF) (G : MG) (f : Nat → Int64) (sz : Nat) (post : Int32 → Int64 → MI → MF → MG → Prop) (h : wq_gate a1 a2 a3 a4 a5 (f 0) I F G post) : Met l y_L_gate (.codeWith y_L_gate b_L_gate 8 (some .int) [(0, 16, 19, 13), (0, 16, 23, 15)] :: lwG) rm_L_gate (wPc L cJ (WOl L I F G cJ oa f) sz [.ref (cA L 0), .int a1, .int a2, .int a3, .int a4, .int a5, .ref oa]) (va_Qi (fun r (u : (Nat → Int64) × cM) => post r (u.1 0) u.2.1 u.2.2.1 u.2.2.2) (fun u t => va_P L.1 vwCl (WOl L u.2.1 u.2.2.1 u.2.2.2 cJ oa u.1) t.heap ∧ va_D (va_A (WOl L I F G cJ oa f) sz) (WOl L u.2.1 u.2.2.1 u.2.2.2 cJ oa u.1)) (va_A (WOl L I F G cJ oa f) sz)) 1 6 (va_A (WOl L I F G cJ oa f) sz) := by
  unfold wq_gate at h
  refine va_MetW (cc := b_L_gate) (maxL := 8) (ret := some .int) (by decide) rfl ?_
  intro p e s m args below meth c s₁ B hml hv
  have htab := fx_table B List.mem_cons_self
  obtain ⟨rfl, hsz, hP, hK, hD0, hN, hz, hsr, hNc⟩ := hv
  have xc : xC p s m _ meth c b_L_gate 8 lwG qRL (some .int) := ⟨B.exec, B.bytes, hml, findClass_of_methodNamed B.named, fun w h => atoms_spec (ws := (.codeWith y_L_gate b_L_gate 8 (some .int) [(0, 16, 19, 13), (0, 16, 23, 15)] :: lwG)) B.pre w (List.mem_cons_of_mem _ h), B.returns, B.notSynchronized⟩
  obtain ⟨hx, hb, hml, hown, hts, hr, hlocks⟩ := id xc
  subst hsz
  have hD : va_D (va_A (WOl L I F G cJ oa f) s.heap.size) (WOl L I F G cJ oa f) := hD0.self
  have hA0 : ∀ q : Nat, s.heap.size ≤ q → va_A (WOl L I F G cJ oa f) s.heap.size q := fun q h => Or.inr h
  generalize va_A (WOl L I F G cJ oa f) s.heap.size = A at hD hA0 hz ⊢
  have hA := hA0
  have hc : CW L A s.heap I F G s.heap [] := ⟨fr_left hP, fd_left hD, va_S.rf⟩
  have hKc : va_K L.1 vwCl (cTys L) s := hK.sub [0, 1, 2] rfl
  have hl := lv_entry ([.ref (cA L 0), .int a1, .int a2, .int a3, .int a4, .int a5, .ref oa]) (n := 8) (Nat.le_of_ble_eq_true rfl)
  rw [lg_entry_eq]
  generalize (lg_sl ([.ref (cA L 0), .int a1, .int a2, .int a3, .int a4, .int a5, .ref oa]) ++ List.replicate (8 - (lg_sl ([.ref (cA L 0), .int a1, .int a2, .int a3, .int a4, .int a5, .ref oa])).length) Slot.unset).toArray = ls at hl ⊢
  have hl : lv_has ls 8 [(0, .ref (cA L 0)), (1, .int a1), (2, .int a2), (3, .int a3), (4, .int a4), (5, .int a5), (6, .ref oa)] := hl
  refine lv_aload hx hb d_L_gate_0 (lv_at hl 6 rfl) ?_
  refine lv_iconst (v := 0) hx hb d_L_gate_2 (by decide) ?_
  refine lv_aload_n hx hb d_L_gate_3 rfl (lv_at hl 0 rfl) ?_
  refine lv_iload_n hx hb d_L_gate_4 rfl (lv_at hl 1 rfl) ?_
  refine lv_iload_n hx hb d_L_gate_5 rfl (lv_at hl 2 rfl) ?_
  refine lv_iload_n hx hb d_L_gate_6 rfl (lv_at hl 3 rfl) ?_
  refine lv_iload hx hb d_L_gate_7 (lv_at hl 4 rfl) ?_
  refine lv_iload hx hb d_L_gate_9 (lv_at hl 5 rfl) ?_
  refine tx_call (tx_runV (As := [.int a1, .int a2, .int a3, .int a4, .int a5]) (rest := [.int 0, .ref oa]) ⟨hx, hb, hml, hown, hts⟩ (c_F_gate l L hst a1 a2 a3 a4 a5 I F G _ _ _ h) (cwV 5 hts (gV wG245 wG246 wG247 wG48 wG248) rfl rfl rfl (by decide +kernel) ⟨Nat.le_of_ble_eq_true rfl, Nat.le_of_ble_eq_true rfl⟩) (cPrx0 hKc hN hc hA hz hsr) rfl rfl hl.1 rfl (lv_room (Nat.le_of_ble_eq_true rfl)) d_L_gate_11 ⟨Nat.le_of_ble_eq_true rfl, Nat.le_of_ble_eq_true rfl⟩) hc.2.2 (fun q _ h9 => cfree hc hA q h9) (cfree hc hA) (fun v u t H locs ht _ hp hB _ hk hS => ?_) (fun q E ce u t H locs ht _ hp hB _ hk hS hq hv hcl => ?_)
  · obtain ⟨r, rfl, hp⟩ := hp
    obtain ⟨hP1, hD1⟩ := fr_join hP hD hk (cfree hc hA) (by rw [← ht]; exact hB.1) hB.2.2
    refine lv_i2l hx hb d_L_gate_14 rfl ?_
    refine va_last hx hb hK hP1 hD1 hS 40 3 rfl rfl (i := 0) (n := 1) (by unfold vp_in; decide) d_L_gate_15 (fun H locs h1 h2 h3 => ?_)
    refine lv_goto (tgt := 27) hx hb d_L_gate_16 (by decide) ?_
    refine lv_iconst (v := 0) hx hb d_L_gate_27 (by decide) ?_
    refine W.widen (k := 1) (n := 6) (Nat.le_of_ble_eq_true rfl) (Nat.le_of_ble_eq_true rfl) ?_
    exact W.iret hx hb hr (fun t ht hW => ⟨⟨_, (vp_updL f (0 : Int32).toNatClampNeg r.toInt64, u), rfl, (by show post 0 ((vp_updL f (0 : Int32).toNatClampNeg r.toInt64) 0) u.1 u.2.1 u.2.2; rw [updL0]; exact hp), by rw [ht]; exact h1, h2⟩, h3.F ht⟩) h3.2.2 d_L_gate_28
  · obtain ⟨hP1, hD1⟩ := fr_join hP hD hk (cfree hc hA) (by rw [← ht]; exact hB.1) hB.2.2
    rcases hp with ⟨rfl, hp⟩ | ⟨rfl, hp⟩
    · refine tx_catch (h := 19) hq hv hcl (fun hpl => fx_of _ _ htab (fx_yes hpl hown (hts _ wG243) (hsr.2 _ dC_IAE) hcl rfl (by decide))) ?_
      refine lv_astore (lv' := [(7, .ref q), (0, .ref (cA L 0)), (1, .int a1), (2, .int a2), (3, .int a3), (4, .int a4), (5, .int a5), (6, .ref oa)]) hx hb d_L_gate_19 hl (by decide) rfl (fun ls hl => ?_)
      refine lv_iconst (v := 1) hx hb d_L_gate_21 (by decide) ?_
      refine W.widen (k := 1) (n := 6) (Nat.le_of_ble_eq_true rfl) (Nat.le_of_ble_eq_true rfl) ?_
      exact W.iret hx hb hr (fun t ht hW => ⟨⟨_, (f, u), rfl, hp, by rw [ht]; exact hP1, hD1⟩, hS.F ht⟩) hS.2.2 d_L_gate_22
    · refine tx_catch (h := 23) hq hv hcl (fun hpl => fx_of _ _ htab (fx_no hpl hown (hts _ wG243) hNc.1 hcl rfl (by decide) (fx_yes hpl hown (hts _ wG244) (hsr.2 _ dC_ISE) hcl rfl (by decide)))) ?_
      refine lv_astore (lv' := [(7, .ref q), (0, .ref (cA L 0)), (1, .int a1), (2, .int a2), (3, .int a3), (4, .int a4), (5, .int a5), (6, .ref oa)]) hx hb d_L_gate_23 hl (by decide) rfl (fun ls hl => ?_)
      refine lv_iconst (v := 2) hx hb d_L_gate_25 (by decide) ?_
      refine W.widen (k := 1) (n := 6) (Nat.le_of_ble_eq_true rfl) (Nat.le_of_ble_eq_true rfl) ?_
      exact W.iret hx hb hr (fun t ht hW => ⟨⟨_, (f, u), rfl, hp, by rw [ht]; exact hP1, hD1⟩, hS.F ht⟩) hS.2.2 d_L_gate_26
def wq_route  (v : Int64) (I : MI) (F : MF) (G : MG) (post : Int32 → Int64 → MI → MF → MG → Prop) : Prop := wp_F_route I F G (fun r I1 F1 G1 => post 0 r.toInt64 I1 F1 G1) (fun E I1 F1 G1 => (E = "java/lang/IllegalStateException" ∧ post 1 v I1 F1 G1) ∨ (E = "java/lang/UnsupportedOperationException" ∧ post 2 v I1 F1 G1))
abbrev rm_L_route : Room := { frames := 8, cells := 1, slots := 6, locals := 179 }
set_option maxHeartbeats 4000000 in
set_option maxRecDepth 100000 in
theorem c_L_route (l : Launch) (L : cL) (hst : l.stackTraces = false) (cJ : ClassId) (oa : Nat)  (I : MI) (F : MF) (G : MG) (f : Nat → Int64) (sz : Nat) (post : Int32 → Int64 → MI → MF → MG → Prop) (h : wq_route (f 0) I F G post) : Met l y_L_route (.codeWith y_L_route b_L_route 3 (some .int) [(0, 8, 11, 15), (0, 8, 14, 21)] :: lwG) rm_L_route (wPc L cJ (WOl L I F G cJ oa f) sz [.ref (cA L 0), .ref oa]) (va_Qi (fun r (u : (Nat → Int64) × cM) => post r (u.1 0) u.2.1 u.2.2.1 u.2.2.2) (fun u t => va_P L.1 vwCl (WOl L u.2.1 u.2.2.1 u.2.2.2 cJ oa u.1) t.heap ∧ va_D (va_A (WOl L I F G cJ oa f) sz) (WOl L u.2.1 u.2.2.1 u.2.2.2 cJ oa u.1)) (va_A (WOl L I F G cJ oa f) sz)) 1 6 (va_A (WOl L I F G cJ oa f) sz) := by
  unfold wq_route at h
  refine va_MetW (cc := b_L_route) (maxL := 3) (ret := some .int) (by decide) rfl ?_
  intro p e s m args below meth c s₁ B hml hv
  have htab := fx_table B List.mem_cons_self
  obtain ⟨rfl, hsz, hP, hK, hD0, hN, hz, hsr, hNc⟩ := hv
  have xc : xC p s m _ meth c b_L_route 3 lwG qRL (some .int) := ⟨B.exec, B.bytes, hml, findClass_of_methodNamed B.named, fun w h => atoms_spec (ws := (.codeWith y_L_route b_L_route 3 (some .int) [(0, 8, 11, 15), (0, 8, 14, 21)] :: lwG)) B.pre w (List.mem_cons_of_mem _ h), B.returns, B.notSynchronized⟩
  obtain ⟨hx, hb, hml, hown, hts, hr, hlocks⟩ := id xc
  subst hsz
  have hD : va_D (va_A (WOl L I F G cJ oa f) s.heap.size) (WOl L I F G cJ oa f) := hD0.self
  have hA0 : ∀ q : Nat, s.heap.size ≤ q → va_A (WOl L I F G cJ oa f) s.heap.size q := fun q h => Or.inr h
  generalize va_A (WOl L I F G cJ oa f) s.heap.size = A at hD hA0 hz ⊢
  have hA := hA0
  have hc : CW L A s.heap I F G s.heap [] := ⟨fr_left hP, fd_left hD, va_S.rf⟩
  have hKc : va_K L.1 vwCl (cTys L) s := hK.sub [0, 1, 2] rfl
  have hl := lv_entry ([.ref (cA L 0), .ref oa]) (n := 3) (Nat.le_of_ble_eq_true rfl)
  rw [lg_entry_eq]
  generalize (lg_sl ([.ref (cA L 0), .ref oa]) ++ List.replicate (3 - (lg_sl ([.ref (cA L 0), .ref oa])).length) Slot.unset).toArray = ls at hl ⊢
  have hl : lv_has ls 3 [(0, .ref (cA L 0)), (1, .ref oa)] := hl
  refine lv_aload_n hx hb d_L_route_0 rfl (lv_at hl 1 rfl) ?_
  refine lv_iconst (v := 0) hx hb d_L_route_1 (by decide) ?_
  refine lv_aload_n hx hb d_L_route_2 rfl (lv_at hl 0 rfl) ?_
  refine tx_call (tx_runV (As := []) (rest := [.int 0, .ref oa]) ⟨hx, hb, hml, hown, hts⟩ (c_F_route l L hst I F G _ _ _ h) (cwV 0 hts (gV wG372 wG373 wG374 wG48 wG375) rfl rfl rfl (by decide +kernel) ⟨Nat.le_of_ble_eq_true rfl, Nat.le_of_ble_eq_true rfl⟩) (cPrx0 hKc hN hc hA hz hsr) rfl rfl hl.1 rfl (lv_room (Nat.le_of_ble_eq_true rfl)) d_L_route_3 ⟨Nat.le_of_ble_eq_true rfl, Nat.le_of_ble_eq_true rfl⟩) hc.2.2 (fun q _ h9 => cfree hc hA q h9) (cfree hc hA) (fun v u t H locs ht _ hp hB _ hk hS => ?_) (fun q E ce u t H locs ht _ hp hB _ hk hS hq hv hcl => ?_)
  · obtain ⟨r, rfl, hp⟩ := hp
    obtain ⟨hP1, hD1⟩ := fr_join hP hD hk (cfree hc hA) (by rw [← ht]; exact hB.1) hB.2.2
    refine lv_i2l hx hb d_L_route_6 rfl ?_
    refine va_last hx hb hK hP1 hD1 hS 40 3 rfl rfl (i := 0) (n := 1) (by unfold vp_in; decide) d_L_route_7 (fun H locs h1 h2 h3 => ?_)
    refine lv_goto (tgt := 17) hx hb d_L_route_8 (by decide) ?_
    refine lv_iconst (v := 0) hx hb d_L_route_17 (by decide) ?_
    refine W.widen (k := 1) (n := 6) (Nat.le_of_ble_eq_true rfl) (Nat.le_of_ble_eq_true rfl) ?_
    exact W.iret hx hb hr (fun t ht hW => ⟨⟨_, (vp_updL f (0 : Int32).toNatClampNeg r.toInt64, u), rfl, (by show post 0 ((vp_updL f (0 : Int32).toNatClampNeg r.toInt64) 0) u.1 u.2.1 u.2.2; rw [updL0]; exact hp), by rw [ht]; exact h1, h2⟩, h3.F ht⟩) h3.2.2 d_L_route_18
  · obtain ⟨hP1, hD1⟩ := fr_join hP hD hk (cfree hc hA) (by rw [← ht]; exact hB.1) hB.2.2
    rcases hp with ⟨rfl, hp⟩ | ⟨rfl, hp⟩
    · refine tx_catch (h := 11) hq hv hcl (fun hpl => fx_of _ _ htab (fx_yes hpl hown (hts _ wG244) (hsr.2 _ dC_ISE) hcl rfl (by decide))) ?_
      refine lv_astore_n (lv' := [(2, .ref q), (0, .ref (cA L 0)), (1, .ref oa)]) hx hb d_L_route_11 rfl hl (by decide) rfl (fun ls hl => ?_)
      refine lv_iconst (v := 1) hx hb d_L_route_12 (by decide) ?_
      refine W.widen (k := 1) (n := 6) (Nat.le_of_ble_eq_true rfl) (Nat.le_of_ble_eq_true rfl) ?_
      exact W.iret hx hb hr (fun t ht hW => ⟨⟨_, (f, u), rfl, hp, by rw [ht]; exact hP1, hD1⟩, hS.F ht⟩) hS.2.2 d_L_route_13
    · refine tx_catch (h := 14) hq hv hcl (fun hpl => fx_of _ _ htab (fx_no hpl hown (hts _ wG244) hNc.2.2.2.2.2 hcl rfl (by decide) (fx_yes hpl hown (hts _ wG371) (hsr.2 _ dC_UOE) hcl rfl (by decide)))) ?_
      refine lv_astore_n (lv' := [(2, .ref q), (0, .ref (cA L 0)), (1, .ref oa)]) hx hb d_L_route_14 rfl hl (by decide) rfl (fun ls hl => ?_)
      refine lv_iconst (v := 2) hx hb d_L_route_15 (by decide) ?_
      refine W.widen (k := 1) (n := 6) (Nat.le_of_ble_eq_true rfl) (Nat.le_of_ble_eq_true rfl) ?_
      exact W.iret hx hb hr (fun t ht hW => ⟨⟨_, (f, u), rfl, hp, by rw [ht]; exact hP1, hD1⟩, hS.F ht⟩) hS.2.2 d_L_route_16
def wq_column (a1 : Int32) (a2 : Int32) (v : Int64) (I : MI) (F : MF) (G : MG) (post : Int32 → Int64 → MI → MF → MG → Prop) : Prop := wp_F_column a1 a2 I F G (fun r I1 F1 G1 => post 0 r.toInt64 I1 F1 G1) (fun E I1 F1 G1 => (E = "java/lang/IndexOutOfBoundsException" ∧ post 1 v I1 F1 G1))
abbrev rm_L_column : Room := { frames := 8, cells := 1, slots := 6, locals := 140 }
set_option maxHeartbeats 4000000 in
set_option maxRecDepth 100000 in
theorem c_L_column (l : Launch) (L : cL) (hst : l.stackTraces = false) (cJ : ClassId) (oa : Nat) (a1 : Int32) (a2 : Int32) (I : MI) (F : MF) (G : MG) (f : Nat → Int64) (sz : Nat) (post : Int32 → Int64 → MI → MF → MG → Prop) (h : wq_column a1 a2 (f 0) I F G post) : Met l y_L_column (.codeWith y_L_column b_L_column 5 (some .int) [(0, 10, 13, 27)] :: lwG) rm_L_column (wPc L cJ (WOl L I F G cJ oa f) sz [.ref (cA L 0), .int a1, .int a2, .ref oa]) (va_Qi (fun r (u : (Nat → Int64) × cM) => post r (u.1 0) u.2.1 u.2.2.1 u.2.2.2) (fun u t => va_P L.1 vwCl (WOl L u.2.1 u.2.2.1 u.2.2.2 cJ oa u.1) t.heap ∧ va_D (va_A (WOl L I F G cJ oa f) sz) (WOl L u.2.1 u.2.2.1 u.2.2.2 cJ oa u.1)) (va_A (WOl L I F G cJ oa f) sz)) 1 6 (va_A (WOl L I F G cJ oa f) sz) := by
  unfold wq_column at h
  refine va_MetW (cc := b_L_column) (maxL := 5) (ret := some .int) (by decide) rfl ?_
  intro p e s m args below meth c s₁ B hml hv
  have htab := fx_table B List.mem_cons_self
  obtain ⟨rfl, hsz, hP, hK, hD0, hN, hz, hsr, hNc⟩ := hv
  have xc : xC p s m _ meth c b_L_column 5 lwG qRL (some .int) := ⟨B.exec, B.bytes, hml, findClass_of_methodNamed B.named, fun w h => atoms_spec (ws := (.codeWith y_L_column b_L_column 5 (some .int) [(0, 10, 13, 27)] :: lwG)) B.pre w (List.mem_cons_of_mem _ h), B.returns, B.notSynchronized⟩
  obtain ⟨hx, hb, hml, hown, hts, hr, hlocks⟩ := id xc
  subst hsz
  have hD : va_D (va_A (WOl L I F G cJ oa f) s.heap.size) (WOl L I F G cJ oa f) := hD0.self
  have hA0 : ∀ q : Nat, s.heap.size ≤ q → va_A (WOl L I F G cJ oa f) s.heap.size q := fun q h => Or.inr h
  generalize va_A (WOl L I F G cJ oa f) s.heap.size = A at hD hA0 hz ⊢
  have hA := hA0
  have hc : CW L A s.heap I F G s.heap [] := ⟨fr_left hP, fd_left hD, va_S.rf⟩
  have hKc : va_K L.1 vwCl (cTys L) s := hK.sub [0, 1, 2] rfl
  have hl := lv_entry ([.ref (cA L 0), .int a1, .int a2, .ref oa]) (n := 5) (Nat.le_of_ble_eq_true rfl)
  rw [lg_entry_eq]
  generalize (lg_sl ([.ref (cA L 0), .int a1, .int a2, .ref oa]) ++ List.replicate (5 - (lg_sl ([.ref (cA L 0), .int a1, .int a2, .ref oa])).length) Slot.unset).toArray = ls at hl ⊢
  have hl : lv_has ls 5 [(0, .ref (cA L 0)), (1, .int a1), (2, .int a2), (3, .ref oa)] := hl
  refine lv_aload_n hx hb d_L_column_0 rfl (lv_at hl 3 rfl) ?_
  refine lv_iconst (v := 0) hx hb d_L_column_1 (by decide) ?_
  refine lv_aload_n hx hb d_L_column_2 rfl (lv_at hl 0 rfl) ?_
  refine lv_iload_n hx hb d_L_column_3 rfl (lv_at hl 1 rfl) ?_
  refine lv_iload_n hx hb d_L_column_4 rfl (lv_at hl 2 rfl) ?_
  refine tx_call (tx_runV (As := [.int a1, .int a2]) (rest := [.int 0, .ref oa]) ⟨hx, hb, hml, hown, hts⟩ (c_F_column l L hst a1 a2 I F G _ _ _ h) (cwV 2 hts (gV wG456 wG457 wG458 wG48 wG459) rfl rfl rfl (by decide +kernel) ⟨Nat.le_of_ble_eq_true rfl, Nat.le_of_ble_eq_true rfl⟩) (cPrx0 hKc hN hc hA hz hsr) rfl rfl hl.1 rfl (lv_room (Nat.le_of_ble_eq_true rfl)) d_L_column_5 ⟨Nat.le_of_ble_eq_true rfl, Nat.le_of_ble_eq_true rfl⟩) hc.2.2 (fun q _ h9 => cfree hc hA q h9) (cfree hc hA) (fun v u t H locs ht _ hp hB _ hk hS => ?_) (fun q E ce u t H locs ht _ hp hB _ hk hS hq hv hcl => ?_)
  · obtain ⟨r, rfl, hp⟩ := hp
    obtain ⟨hP1, hD1⟩ := fr_join hP hD hk (cfree hc hA) (by rw [← ht]; exact hB.1) hB.2.2
    refine lv_i2l hx hb d_L_column_8 rfl ?_
    refine va_last hx hb hK hP1 hD1 hS 40 3 rfl rfl (i := 0) (n := 1) (by unfold vp_in; decide) d_L_column_9 (fun H locs h1 h2 h3 => ?_)
    refine lv_goto (tgt := 17) hx hb d_L_column_10 (by decide) ?_
    refine lv_iconst (v := 0) hx hb d_L_column_17 (by decide) ?_
    refine W.widen (k := 1) (n := 6) (Nat.le_of_ble_eq_true rfl) (Nat.le_of_ble_eq_true rfl) ?_
    exact W.iret hx hb hr (fun t ht hW => ⟨⟨_, (vp_updL f (0 : Int32).toNatClampNeg r.toInt64, u), rfl, (by show post 0 ((vp_updL f (0 : Int32).toNatClampNeg r.toInt64) 0) u.1 u.2.1 u.2.2; rw [updL0]; exact hp), by rw [ht]; exact h1, h2⟩, h3.F ht⟩) h3.2.2 d_L_column_18
  · obtain ⟨hP1, hD1⟩ := fr_join hP hD hk (cfree hc hA) (by rw [← ht]; exact hB.1) hB.2.2
    rcases hp with ⟨rfl, hp⟩
    · refine tx_catch (h := 13) hq hv hcl (fun hpl => fx_of _ _ htab (fx_yes hpl hown (hts _ wG455) (hsr.2 _ dC_IOB) hcl rfl (by decide))) ?_
      refine lv_astore (lv' := [(4, .ref q), (0, .ref (cA L 0)), (1, .int a1), (2, .int a2), (3, .ref oa)]) hx hb d_L_column_13 hl (by decide) rfl (fun ls hl => ?_)
      refine lv_iconst (v := 1) hx hb d_L_column_15 (by decide) ?_
      refine W.widen (k := 1) (n := 6) (Nat.le_of_ble_eq_true rfl) (Nat.le_of_ble_eq_true rfl) ?_
      exact W.iret hx hb hr (fun t ht hW => ⟨⟨_, (f, u), rfl, hp, by rw [ht]; exact hP1, hD1⟩, hS.F ht⟩) hS.2.2 d_L_column_16
def wq_net (a1 : Int32) (a2 : Int32) (v : Int64) (I : MI) (F : MF) (G : MG) (post : Int32 → Int64 → MI → MF → MG → Prop) : Prop := wp_F_net a1 a2 I F G (fun r I1 F1 G1 => post 0 r.toInt64 I1 F1 G1) (fun E I1 F1 G1 => (E = "java/lang/IllegalArgumentException" ∧ post 1 v I1 F1 G1))
abbrev rm_L_net : Room := { frames := 8, cells := 2, slots := 12, locals := 139 }
set_option maxHeartbeats 4000000 in
set_option maxRecDepth 100000 in
theorem c_L_net (l : Launch) (L : cL) (hst : l.stackTraces = false) (cJ : ClassId) (oa : Nat) (a1 : Int32) (a2 : Int32) (I : MI) (F : MF) (G : MG) (f : Nat → Int64) (sz : Nat) (post : Int32 → Int64 → MI → MF → MG → Prop) (h : wq_net a1 a2 (f 0) I F G post) : Met l y_L_net (.codeWith y_L_net b_L_net 5 (some .int) [(0, 10, 13, 13)] :: lwG) rm_L_net (wPc L cJ (WOl L I F G cJ oa f) sz [.ref (cA L 0), .int a1, .int a2, .ref oa]) (va_Qi (fun r (u : (Nat → Int64) × cM) => post r (u.1 0) u.2.1 u.2.2.1 u.2.2.2) (fun u t => va_P L.1 vwCl (WOl L u.2.1 u.2.2.1 u.2.2.2 cJ oa u.1) t.heap ∧ va_D (va_A (WOl L I F G cJ oa f) sz) (WOl L u.2.1 u.2.2.1 u.2.2.2 cJ oa u.1)) (va_A (WOl L I F G cJ oa f) sz)) 2 12 (va_A (WOl L I F G cJ oa f) sz) := by
  unfold wq_net at h
  refine va_MetW (cc := b_L_net) (maxL := 5) (ret := some .int) (by decide) rfl ?_
  intro p e s m args below meth c s₁ B hml hv
  have htab := fx_table B List.mem_cons_self
  obtain ⟨rfl, hsz, hP, hK, hD0, hN, hz, hsr, hNc⟩ := hv
  have xc : xC p s m _ meth c b_L_net 5 lwG qRL (some .int) := ⟨B.exec, B.bytes, hml, findClass_of_methodNamed B.named, fun w h => atoms_spec (ws := (.codeWith y_L_net b_L_net 5 (some .int) [(0, 10, 13, 13)] :: lwG)) B.pre w (List.mem_cons_of_mem _ h), B.returns, B.notSynchronized⟩
  obtain ⟨hx, hb, hml, hown, hts, hr, hlocks⟩ := id xc
  subst hsz
  have hD : va_D (va_A (WOl L I F G cJ oa f) s.heap.size) (WOl L I F G cJ oa f) := hD0.self
  have hA0 : ∀ q : Nat, s.heap.size ≤ q → va_A (WOl L I F G cJ oa f) s.heap.size q := fun q h => Or.inr h
  generalize va_A (WOl L I F G cJ oa f) s.heap.size = A at hD hA0 hz ⊢
  have hA := hA0
  have hc : CW L A s.heap I F G s.heap [] := ⟨fr_left hP, fd_left hD, va_S.rf⟩
  have hKc : va_K L.1 vwCl (cTys L) s := hK.sub [0, 1, 2] rfl
  have hl := lv_entry ([.ref (cA L 0), .int a1, .int a2, .ref oa]) (n := 5) (Nat.le_of_ble_eq_true rfl)
  rw [lg_entry_eq]
  generalize (lg_sl ([.ref (cA L 0), .int a1, .int a2, .ref oa]) ++ List.replicate (5 - (lg_sl ([.ref (cA L 0), .int a1, .int a2, .ref oa])).length) Slot.unset).toArray = ls at hl ⊢
  have hl : lv_has ls 5 [(0, .ref (cA L 0)), (1, .int a1), (2, .int a2), (3, .ref oa)] := hl
  refine lv_aload_n hx hb d_L_net_0 rfl (lv_at hl 3 rfl) ?_
  refine lv_iconst (v := 0) hx hb d_L_net_1 (by decide) ?_
  refine lv_aload_n hx hb d_L_net_2 rfl (lv_at hl 0 rfl) ?_
  refine lv_iload_n hx hb d_L_net_3 rfl (lv_at hl 1 rfl) ?_
  refine lv_iload_n hx hb d_L_net_4 rfl (lv_at hl 2 rfl) ?_
  refine tx_call (tx_runV (As := [.int a1, .int a2]) (rest := [.int 0, .ref oa]) ⟨hx, hb, hml, hown, hts⟩ (c_F_net l L hst a1 a2 I F G _ _ _ h) (cwV 2 hts (gV wG492 wG493 wG494 wG48 wG495) rfl rfl rfl (by decide +kernel) ⟨Nat.le_of_ble_eq_true rfl, Nat.le_of_ble_eq_true rfl⟩) (cPrx0 hKc hN hc hA hz hsr) rfl rfl hl.1 rfl (lv_room (Nat.le_of_ble_eq_true rfl)) d_L_net_5 ⟨Nat.le_of_ble_eq_true rfl, Nat.le_of_ble_eq_true rfl⟩) hc.2.2 (fun q _ h9 => cfree hc hA q h9) (cfree hc hA) (fun v u t H locs ht _ hp hB _ hk hS => ?_) (fun q E ce u t H locs ht _ hp hB _ hk hS hq hv hcl => ?_)
  · obtain ⟨r, rfl, hp⟩ := hp
    obtain ⟨hP1, hD1⟩ := fr_join hP hD hk (cfree hc hA) (by rw [← ht]; exact hB.1) hB.2.2
    refine lv_i2l hx hb d_L_net_8 rfl ?_
    refine va_last hx hb hK hP1 hD1 hS 40 3 rfl rfl (i := 0) (n := 1) (by unfold vp_in; decide) d_L_net_9 (fun H locs h1 h2 h3 => ?_)
    refine lv_goto (tgt := 17) hx hb d_L_net_10 (by decide) ?_
    refine lv_iconst (v := 0) hx hb d_L_net_17 (by decide) ?_
    refine W.widen (k := 2) (n := 12) (Nat.le_of_ble_eq_true rfl) (Nat.le_of_ble_eq_true rfl) ?_
    exact W.iret hx hb hr (fun t ht hW => ⟨⟨_, (vp_updL f (0 : Int32).toNatClampNeg r.toInt64, u), rfl, (by show post 0 ((vp_updL f (0 : Int32).toNatClampNeg r.toInt64) 0) u.1 u.2.1 u.2.2; rw [updL0]; exact hp), by rw [ht]; exact h1, h2⟩, h3.F ht⟩) h3.2.2 d_L_net_18
  · obtain ⟨hP1, hD1⟩ := fr_join hP hD hk (cfree hc hA) (by rw [← ht]; exact hB.1) hB.2.2
    rcases hp with ⟨rfl, hp⟩
    · refine tx_catch (h := 13) hq hv hcl (fun hpl => fx_of _ _ htab (fx_yes hpl hown (hts _ wG243) (hsr.2 _ dC_IAE) hcl rfl (by decide))) ?_
      refine lv_astore (lv' := [(4, .ref q), (0, .ref (cA L 0)), (1, .int a1), (2, .int a2), (3, .ref oa)]) hx hb d_L_net_13 hl (by decide) rfl (fun ls hl => ?_)
      refine lv_iconst (v := 1) hx hb d_L_net_15 (by decide) ?_
      refine W.widen (k := 2) (n := 12) (Nat.le_of_ble_eq_true rfl) (Nat.le_of_ble_eq_true rfl) ?_
      exact W.iret hx hb hr (fun t ht hW => ⟨⟨_, (f, u), rfl, hp, by rw [ht]; exact hP1, hD1⟩, hS.F ht⟩) hS.2.2 d_L_net_16
def wq_mask (a1 : Int32) (a2 : Int32) (v : Int64) (I : MI) (F : MF) (G : MG) (post : Int32 → Int64 → MI → MF → MG → Prop) : Prop := wp_F_mask a1 a2 I F G (fun r I1 F1 G1 => post 0 r.toInt64 I1 F1 G1) (fun E I1 F1 G1 => (E = "java/lang/IllegalStateException" ∧ post 1 v I1 F1 G1) ∨ (E = "java/lang/IndexOutOfBoundsException" ∧ post 2 v I1 F1 G1))
abbrev rm_L_mask : Room := { frames := 9, cells := 2, slots := 12, locals := 160 }
set_option maxHeartbeats 4000000 in
set_option maxRecDepth 100000 in
theorem c_L_mask (l : Launch) (L : cL) (hst : l.stackTraces = false) (cJ : ClassId) (oa : Nat) (a1 : Int32) (a2 : Int32) (I : MI) (F : MF) (G : MG) (f : Nat → Int64) (sz : Nat) (post : Int32 → Int64 → MI → MF → MG → Prop) (h : wq_mask a1 a2 (f 0) I F G post) : Met l y_L_mask (.codeWith y_L_mask b_L_mask 5 (some .int) [(0, 10, 13, 15), (0, 10, 17, 27)] :: lwG) rm_L_mask (wPc L cJ (WOl L I F G cJ oa f) sz [.ref (cA L 0), .int a1, .int a2, .ref oa]) (va_Qi (fun r (u : (Nat → Int64) × cM) => post r (u.1 0) u.2.1 u.2.2.1 u.2.2.2) (fun u t => va_P L.1 vwCl (WOl L u.2.1 u.2.2.1 u.2.2.2 cJ oa u.1) t.heap ∧ va_D (va_A (WOl L I F G cJ oa f) sz) (WOl L u.2.1 u.2.2.1 u.2.2.2 cJ oa u.1)) (va_A (WOl L I F G cJ oa f) sz)) 2 12 (va_A (WOl L I F G cJ oa f) sz) := by
  unfold wq_mask at h
  refine va_MetW (cc := b_L_mask) (maxL := 5) (ret := some .int) (by decide) rfl ?_
  intro p e s m args below meth c s₁ B hml hv
  have htab := fx_table B List.mem_cons_self
  obtain ⟨rfl, hsz, hP, hK, hD0, hN, hz, hsr, hNc⟩ := hv
  have xc : xC p s m _ meth c b_L_mask 5 lwG qRL (some .int) := ⟨B.exec, B.bytes, hml, findClass_of_methodNamed B.named, fun w h => atoms_spec (ws := (.codeWith y_L_mask b_L_mask 5 (some .int) [(0, 10, 13, 15), (0, 10, 17, 27)] :: lwG)) B.pre w (List.mem_cons_of_mem _ h), B.returns, B.notSynchronized⟩
  obtain ⟨hx, hb, hml, hown, hts, hr, hlocks⟩ := id xc
  subst hsz
  have hD : va_D (va_A (WOl L I F G cJ oa f) s.heap.size) (WOl L I F G cJ oa f) := hD0.self
  have hA0 : ∀ q : Nat, s.heap.size ≤ q → va_A (WOl L I F G cJ oa f) s.heap.size q := fun q h => Or.inr h
  generalize va_A (WOl L I F G cJ oa f) s.heap.size = A at hD hA0 hz ⊢
  have hA := hA0
  have hc : CW L A s.heap I F G s.heap [] := ⟨fr_left hP, fd_left hD, va_S.rf⟩
  have hKc : va_K L.1 vwCl (cTys L) s := hK.sub [0, 1, 2] rfl
  have hl := lv_entry ([.ref (cA L 0), .int a1, .int a2, .ref oa]) (n := 5) (Nat.le_of_ble_eq_true rfl)
  rw [lg_entry_eq]
  generalize (lg_sl ([.ref (cA L 0), .int a1, .int a2, .ref oa]) ++ List.replicate (5 - (lg_sl ([.ref (cA L 0), .int a1, .int a2, .ref oa])).length) Slot.unset).toArray = ls at hl ⊢
  have hl : lv_has ls 5 [(0, .ref (cA L 0)), (1, .int a1), (2, .int a2), (3, .ref oa)] := hl
  refine lv_aload_n hx hb d_L_mask_0 rfl (lv_at hl 3 rfl) ?_
  refine lv_iconst (v := 0) hx hb d_L_mask_1 (by decide) ?_
  refine lv_aload_n hx hb d_L_mask_2 rfl (lv_at hl 0 rfl) ?_
  refine lv_iload_n hx hb d_L_mask_3 rfl (lv_at hl 1 rfl) ?_
  refine lv_iload_n hx hb d_L_mask_4 rfl (lv_at hl 2 rfl) ?_
  refine tx_call (tx_runV (As := [.int a1, .int a2]) (rest := [.int 0, .ref oa]) ⟨hx, hb, hml, hown, hts⟩ (c_F_mask l L hst a1 a2 I F G _ _ _ h) (cwV 2 hts (gV wG513 wG514 wG515 wG48 wG516) rfl rfl rfl (by decide +kernel) ⟨Nat.le_of_ble_eq_true rfl, Nat.le_of_ble_eq_true rfl⟩) (cPrx0 hKc hN hc hA hz hsr) rfl rfl hl.1 rfl (lv_room (Nat.le_of_ble_eq_true rfl)) d_L_mask_5 ⟨Nat.le_of_ble_eq_true rfl, Nat.le_of_ble_eq_true rfl⟩) hc.2.2 (fun q _ h9 => cfree hc hA q h9) (cfree hc hA) (fun v u t H locs ht _ hp hB _ hk hS => ?_) (fun q E ce u t H locs ht _ hp hB _ hk hS hq hv hcl => ?_)
  · obtain ⟨r, rfl, hp⟩ := hp
    obtain ⟨hP1, hD1⟩ := fr_join hP hD hk (cfree hc hA) (by rw [← ht]; exact hB.1) hB.2.2
    refine lv_i2l hx hb d_L_mask_8 rfl ?_
    refine va_last hx hb hK hP1 hD1 hS 40 3 rfl rfl (i := 0) (n := 1) (by unfold vp_in; decide) d_L_mask_9 (fun H locs h1 h2 h3 => ?_)
    refine lv_goto (tgt := 21) hx hb d_L_mask_10 (by decide) ?_
    refine lv_iconst (v := 0) hx hb d_L_mask_21 (by decide) ?_
    refine W.widen (k := 2) (n := 12) (Nat.le_of_ble_eq_true rfl) (Nat.le_of_ble_eq_true rfl) ?_
    exact W.iret hx hb hr (fun t ht hW => ⟨⟨_, (vp_updL f (0 : Int32).toNatClampNeg r.toInt64, u), rfl, (by show post 0 ((vp_updL f (0 : Int32).toNatClampNeg r.toInt64) 0) u.1 u.2.1 u.2.2; rw [updL0]; exact hp), by rw [ht]; exact h1, h2⟩, h3.F ht⟩) h3.2.2 d_L_mask_22
  · obtain ⟨hP1, hD1⟩ := fr_join hP hD hk (cfree hc hA) (by rw [← ht]; exact hB.1) hB.2.2
    rcases hp with ⟨rfl, hp⟩ | ⟨rfl, hp⟩
    · refine tx_catch (h := 13) hq hv hcl (fun hpl => fx_of _ _ htab (fx_yes hpl hown (hts _ wG244) (hsr.2 _ dC_ISE) hcl rfl (by decide))) ?_
      refine lv_astore (lv' := [(4, .ref q), (0, .ref (cA L 0)), (1, .int a1), (2, .int a2), (3, .ref oa)]) hx hb d_L_mask_13 hl (by decide) rfl (fun ls hl => ?_)
      refine lv_iconst (v := 1) hx hb d_L_mask_15 (by decide) ?_
      refine W.widen (k := 2) (n := 12) (Nat.le_of_ble_eq_true rfl) (Nat.le_of_ble_eq_true rfl) ?_
      exact W.iret hx hb hr (fun t ht hW => ⟨⟨_, (f, u), rfl, hp, by rw [ht]; exact hP1, hD1⟩, hS.F ht⟩) hS.2.2 d_L_mask_16
    · refine tx_catch (h := 17) hq hv hcl (fun hpl => fx_of _ _ htab (fx_no hpl hown (hts _ wG244) hNc.2.2.1 hcl rfl (by decide) (fx_yes hpl hown (hts _ wG455) (hsr.2 _ dC_IOB) hcl rfl (by decide)))) ?_
      refine lv_astore (lv' := [(4, .ref q), (0, .ref (cA L 0)), (1, .int a1), (2, .int a2), (3, .ref oa)]) hx hb d_L_mask_17 hl (by decide) rfl (fun ls hl => ?_)
      refine lv_iconst (v := 2) hx hb d_L_mask_19 (by decide) ?_
      refine W.widen (k := 2) (n := 12) (Nat.le_of_ble_eq_true rfl) (Nat.le_of_ble_eq_true rfl) ?_
      exact W.iret hx hb hr (fun t ht hW => ⟨⟨_, (f, u), rfl, hp, by rw [ht]; exact hP1, hD1⟩, hS.F ht⟩) hS.2.2 d_L_mask_20
def wq_damage (a1 : Int32) (a2 : Int32) (a3 : Int32) (v : Int64) (I : MI) (F : MF) (G : MG) (post : Int32 → Int64 → MI → MF → MG → Prop) : Prop := wp_F_damage a1 a2 a3 I F G (fun r I1 F1 G1 => post 0 r.toInt64 I1 F1 G1) (fun E I1 F1 G1 => (E = "java/lang/IllegalArgumentException" ∧ post 1 v I1 F1 G1) ∨ (E = "java/lang/IllegalStateException" ∧ post 2 v I1 F1 G1) ∨ (E = "java/lang/IndexOutOfBoundsException" ∧ post 3 v I1 F1 G1))
abbrev rm_L_damage : Room := { frames := 9, cells := 3, slots := 18, locals := 162 }
set_option maxHeartbeats 4000000 in
set_option maxRecDepth 100000 in
theorem c_L_damage (l : Launch) (L : cL) (hst : l.stackTraces = false) (cJ : ClassId) (oa : Nat) (a1 : Int32) (a2 : Int32) (a3 : Int32) (I : MI) (F : MF) (G : MG) (f : Nat → Int64) (sz : Nat) (post : Int32 → Int64 → MI → MF → MG → Prop) (h : wq_damage a1 a2 a3 (f 0) I F G post) : Met l y_L_damage (.codeWith y_L_damage b_L_damage 6 (some .int) [(0, 12, 15, 13), (0, 12, 19, 15), (0, 12, 23, 27)] :: lwG) rm_L_damage (wPc L cJ (WOl L I F G cJ oa f) sz [.ref (cA L 0), .int a1, .int a2, .int a3, .ref oa]) (va_Qi (fun r (u : (Nat → Int64) × cM) => post r (u.1 0) u.2.1 u.2.2.1 u.2.2.2) (fun u t => va_P L.1 vwCl (WOl L u.2.1 u.2.2.1 u.2.2.2 cJ oa u.1) t.heap ∧ va_D (va_A (WOl L I F G cJ oa f) sz) (WOl L u.2.1 u.2.2.1 u.2.2.2 cJ oa u.1)) (va_A (WOl L I F G cJ oa f) sz)) 3 18 (va_A (WOl L I F G cJ oa f) sz) := by
  unfold wq_damage at h
  refine va_MetW (cc := b_L_damage) (maxL := 6) (ret := some .int) (by decide) rfl ?_
  intro p e s m args below meth c s₁ B hml hv
  have htab := fx_table B List.mem_cons_self
  obtain ⟨rfl, hsz, hP, hK, hD0, hN, hz, hsr, hNc⟩ := hv
  have xc : xC p s m _ meth c b_L_damage 6 lwG qRL (some .int) := ⟨B.exec, B.bytes, hml, findClass_of_methodNamed B.named, fun w h => atoms_spec (ws := (.codeWith y_L_damage b_L_damage 6 (some .int) [(0, 12, 15, 13), (0, 12, 19, 15), (0, 12, 23, 27)] :: lwG)) B.pre w (List.mem_cons_of_mem _ h), B.returns, B.notSynchronized⟩
  obtain ⟨hx, hb, hml, hown, hts, hr, hlocks⟩ := id xc
  subst hsz
  have hD : va_D (va_A (WOl L I F G cJ oa f) s.heap.size) (WOl L I F G cJ oa f) := hD0.self
  have hA0 : ∀ q : Nat, s.heap.size ≤ q → va_A (WOl L I F G cJ oa f) s.heap.size q := fun q h => Or.inr h
  generalize va_A (WOl L I F G cJ oa f) s.heap.size = A at hD hA0 hz ⊢
  have hA := hA0
  have hc : CW L A s.heap I F G s.heap [] := ⟨fr_left hP, fd_left hD, va_S.rf⟩
  have hKc : va_K L.1 vwCl (cTys L) s := hK.sub [0, 1, 2] rfl
  have hl := lv_entry ([.ref (cA L 0), .int a1, .int a2, .int a3, .ref oa]) (n := 6) (Nat.le_of_ble_eq_true rfl)
  rw [lg_entry_eq]
  generalize (lg_sl ([.ref (cA L 0), .int a1, .int a2, .int a3, .ref oa]) ++ List.replicate (6 - (lg_sl ([.ref (cA L 0), .int a1, .int a2, .int a3, .ref oa])).length) Slot.unset).toArray = ls at hl ⊢
  have hl : lv_has ls 6 [(0, .ref (cA L 0)), (1, .int a1), (2, .int a2), (3, .int a3), (4, .ref oa)] := hl
  refine lv_aload hx hb d_L_damage_0 (lv_at hl 4 rfl) ?_
  refine lv_iconst (v := 0) hx hb d_L_damage_2 (by decide) ?_
  refine lv_aload_n hx hb d_L_damage_3 rfl (lv_at hl 0 rfl) ?_
  refine lv_iload_n hx hb d_L_damage_4 rfl (lv_at hl 1 rfl) ?_
  refine lv_iload_n hx hb d_L_damage_5 rfl (lv_at hl 2 rfl) ?_
  refine lv_iload_n hx hb d_L_damage_6 rfl (lv_at hl 3 rfl) ?_
  refine tx_call (tx_runV (As := [.int a1, .int a2, .int a3]) (rest := [.int 0, .ref oa]) ⟨hx, hb, hml, hown, hts⟩ (c_F_damage l L hst a1 a2 a3 I F G _ _ _ h) (cwV 3 hts (gV wG534 wG535 wG536 wG48 wG537) rfl rfl rfl (by decide +kernel) ⟨Nat.le_of_ble_eq_true rfl, Nat.le_of_ble_eq_true rfl⟩) (cPrx0 hKc hN hc hA hz hsr) rfl rfl hl.1 rfl (lv_room (Nat.le_of_ble_eq_true rfl)) d_L_damage_7 ⟨Nat.le_of_ble_eq_true rfl, Nat.le_of_ble_eq_true rfl⟩) hc.2.2 (fun q _ h9 => cfree hc hA q h9) (cfree hc hA) (fun v u t H locs ht _ hp hB _ hk hS => ?_) (fun q E ce u t H locs ht _ hp hB _ hk hS hq hv hcl => ?_)
  · obtain ⟨r, rfl, hp⟩ := hp
    obtain ⟨hP1, hD1⟩ := fr_join hP hD hk (cfree hc hA) (by rw [← ht]; exact hB.1) hB.2.2
    refine lv_i2l hx hb d_L_damage_10 rfl ?_
    refine va_last hx hb hK hP1 hD1 hS 40 3 rfl rfl (i := 0) (n := 1) (by unfold vp_in; decide) d_L_damage_11 (fun H locs h1 h2 h3 => ?_)
    refine lv_goto (tgt := 27) hx hb d_L_damage_12 (by decide) ?_
    refine lv_iconst (v := 0) hx hb d_L_damage_27 (by decide) ?_
    refine W.widen (k := 3) (n := 18) (Nat.le_of_ble_eq_true rfl) (Nat.le_of_ble_eq_true rfl) ?_
    exact W.iret hx hb hr (fun t ht hW => ⟨⟨_, (vp_updL f (0 : Int32).toNatClampNeg r.toInt64, u), rfl, (by show post 0 ((vp_updL f (0 : Int32).toNatClampNeg r.toInt64) 0) u.1 u.2.1 u.2.2; rw [updL0]; exact hp), by rw [ht]; exact h1, h2⟩, h3.F ht⟩) h3.2.2 d_L_damage_28
  · obtain ⟨hP1, hD1⟩ := fr_join hP hD hk (cfree hc hA) (by rw [← ht]; exact hB.1) hB.2.2
    rcases hp with ⟨rfl, hp⟩ | ⟨rfl, hp⟩ | ⟨rfl, hp⟩
    · refine tx_catch (h := 15) hq hv hcl (fun hpl => fx_of _ _ htab (fx_yes hpl hown (hts _ wG243) (hsr.2 _ dC_IAE) hcl rfl (by decide))) ?_
      refine lv_astore (lv' := [(5, .ref q), (0, .ref (cA L 0)), (1, .int a1), (2, .int a2), (3, .int a3), (4, .ref oa)]) hx hb d_L_damage_15 hl (by decide) rfl (fun ls hl => ?_)
      refine lv_iconst (v := 1) hx hb d_L_damage_17 (by decide) ?_
      refine W.widen (k := 3) (n := 18) (Nat.le_of_ble_eq_true rfl) (Nat.le_of_ble_eq_true rfl) ?_
      exact W.iret hx hb hr (fun t ht hW => ⟨⟨_, (f, u), rfl, hp, by rw [ht]; exact hP1, hD1⟩, hS.F ht⟩) hS.2.2 d_L_damage_18
    · refine tx_catch (h := 19) hq hv hcl (fun hpl => fx_of _ _ htab (fx_no hpl hown (hts _ wG243) hNc.1 hcl rfl (by decide) (fx_yes hpl hown (hts _ wG244) (hsr.2 _ dC_ISE) hcl rfl (by decide)))) ?_
      refine lv_astore (lv' := [(5, .ref q), (0, .ref (cA L 0)), (1, .int a1), (2, .int a2), (3, .int a3), (4, .ref oa)]) hx hb d_L_damage_19 hl (by decide) rfl (fun ls hl => ?_)
      refine lv_iconst (v := 2) hx hb d_L_damage_21 (by decide) ?_
      refine W.widen (k := 3) (n := 18) (Nat.le_of_ble_eq_true rfl) (Nat.le_of_ble_eq_true rfl) ?_
      exact W.iret hx hb hr (fun t ht hW => ⟨⟨_, (f, u), rfl, hp, by rw [ht]; exact hP1, hD1⟩, hS.F ht⟩) hS.2.2 d_L_damage_22
    · refine tx_catch (h := 23) hq hv hcl (fun hpl => fx_of _ _ htab (fx_no hpl hown (hts _ wG243) hNc.2.1 hcl rfl (by decide) (fx_no hpl hown (hts _ wG244) hNc.2.2.1 hcl rfl (by decide) (fx_yes hpl hown (hts _ wG455) (hsr.2 _ dC_IOB) hcl rfl (by decide))))) ?_
      refine lv_astore (lv' := [(5, .ref q), (0, .ref (cA L 0)), (1, .int a1), (2, .int a2), (3, .int a3), (4, .ref oa)]) hx hb d_L_damage_23 hl (by decide) rfl (fun ls hl => ?_)
      refine lv_iconst (v := 3) hx hb d_L_damage_25 (by decide) ?_
      refine W.widen (k := 3) (n := 18) (Nat.le_of_ble_eq_true rfl) (Nat.le_of_ble_eq_true rfl) ?_
      exact W.iret hx hb hr (fun t ht hW => ⟨⟨_, (f, u), rfl, hp, by rw [ht]; exact hP1, hD1⟩, hS.F ht⟩) hS.2.2 d_L_damage_26
def wq_joined (a1 : Int32) (a2 : Int32) (a3 : Int32) (a4 : Int32) (v : Int64) (I : MI) (F : MF) (G : MG) (post : Int32 → Int64 → MI → MF → MG → Prop) : Prop := wp_F_joined a1 a2 a3 a4 I F G (fun r I1 F1 G1 => post 0 (if r = 0 then 0 else 1) I1 F1 G1) (fun E I1 F1 G1 => (E = "java/lang/IllegalStateException" ∧ post 1 v I1 F1 G1) ∨ (E = "java/lang/IndexOutOfBoundsException" ∧ post 2 v I1 F1 G1))
abbrev rm_L_joined : Room := { frames := 8, cells := 3, slots := 18, locals := 142 }
set_option maxHeartbeats 4000000 in
set_option maxRecDepth 100000 in
theorem c_L_joined (l : Launch) (L : cL) (hst : l.stackTraces = false) (cJ : ClassId) (oa : Nat) (a1 : Int32) (a2 : Int32) (a3 : Int32) (a4 : Int32) (I : MI) (F : MF) (G : MG) (f : Nat → Int64) (sz : Nat) (post : Int32 → Int64 → MI → MF → MG → Prop) (h : wq_joined a1 a2 a3 a4 (f 0) I F G post) : Met l y_L_joined (.codeWith y_L_joined b_L_joined 7 (some .int) [(0, 21, 24, 15), (0, 21, 28, 27)] :: lwG) rm_L_joined (wPc L cJ (WOl L I F G cJ oa f) sz [.ref (cA L 0), .int a1, .int a2, .int a3, .int a4, .ref oa]) (va_Qi (fun r (u : (Nat → Int64) × cM) => post r (u.1 0) u.2.1 u.2.2.1 u.2.2.2) (fun u t => va_P L.1 vwCl (WOl L u.2.1 u.2.2.1 u.2.2.2 cJ oa u.1) t.heap ∧ va_D (va_A (WOl L I F G cJ oa f) sz) (WOl L u.2.1 u.2.2.1 u.2.2.2 cJ oa u.1)) (va_A (WOl L I F G cJ oa f) sz)) 3 18 (va_A (WOl L I F G cJ oa f) sz) := by
  unfold wq_joined at h
  refine va_MetW (cc := b_L_joined) (maxL := 7) (ret := some .int) (by decide) rfl ?_
  intro p e s m args below meth c s₁ B hml hv
  have htab := fx_table B List.mem_cons_self
  obtain ⟨rfl, hsz, hP, hK, hD0, hN, hz, hsr, hNc⟩ := hv
  have xc : xC p s m _ meth c b_L_joined 7 lwG qRL (some .int) := ⟨B.exec, B.bytes, hml, findClass_of_methodNamed B.named, fun w h => atoms_spec (ws := (.codeWith y_L_joined b_L_joined 7 (some .int) [(0, 21, 24, 15), (0, 21, 28, 27)] :: lwG)) B.pre w (List.mem_cons_of_mem _ h), B.returns, B.notSynchronized⟩
  obtain ⟨hx, hb, hml, hown, hts, hr, hlocks⟩ := id xc
  subst hsz
  have hD : va_D (va_A (WOl L I F G cJ oa f) s.heap.size) (WOl L I F G cJ oa f) := hD0.self
  have hA0 : ∀ q : Nat, s.heap.size ≤ q → va_A (WOl L I F G cJ oa f) s.heap.size q := fun q h => Or.inr h
  generalize va_A (WOl L I F G cJ oa f) s.heap.size = A at hD hA0 hz ⊢
  have hA := hA0
  have hc : CW L A s.heap I F G s.heap [] := ⟨fr_left hP, fd_left hD, va_S.rf⟩
  have hKc : va_K L.1 vwCl (cTys L) s := hK.sub [0, 1, 2] rfl
  have hl := lv_entry ([.ref (cA L 0), .int a1, .int a2, .int a3, .int a4, .ref oa]) (n := 7) (Nat.le_of_ble_eq_true rfl)
  rw [lg_entry_eq]
  generalize (lg_sl ([.ref (cA L 0), .int a1, .int a2, .int a3, .int a4, .ref oa]) ++ List.replicate (7 - (lg_sl ([.ref (cA L 0), .int a1, .int a2, .int a3, .int a4, .ref oa])).length) Slot.unset).toArray = ls at hl ⊢
  have hl : lv_has ls 7 [(0, .ref (cA L 0)), (1, .int a1), (2, .int a2), (3, .int a3), (4, .int a4), (5, .ref oa)] := hl
  refine lv_aload hx hb d_L_joined_0 (lv_at hl 5 rfl) ?_
  refine lv_iconst (v := 0) hx hb d_L_joined_2 (by decide) ?_
  refine lv_aload_n hx hb d_L_joined_3 rfl (lv_at hl 0 rfl) ?_
  refine lv_iload_n hx hb d_L_joined_4 rfl (lv_at hl 1 rfl) ?_
  refine lv_iload_n hx hb d_L_joined_5 rfl (lv_at hl 2 rfl) ?_
  refine lv_iload_n hx hb d_L_joined_6 rfl (lv_at hl 3 rfl) ?_
  refine lv_iload hx hb d_L_joined_7 (lv_at hl 4 rfl) ?_
  refine tx_call (tx_runV (As := [.int a1, .int a2, .int a3, .int a4]) (rest := [.int 0, .ref oa]) ⟨hx, hb, hml, hown, hts⟩ (c_F_joined l L hst a1 a2 a3 a4 I F G _ _ _ h) (cwV 4 hts (gV wG542 wG543 wG544 wG48 wG545) rfl rfl rfl (by decide +kernel) ⟨Nat.le_of_ble_eq_true rfl, Nat.le_of_ble_eq_true rfl⟩) (cPrx0 hKc hN hc hA hz hsr) rfl rfl hl.1 rfl (lv_room (Nat.le_of_ble_eq_true rfl)) d_L_joined_9 ⟨Nat.le_of_ble_eq_true rfl, Nat.le_of_ble_eq_true rfl⟩) hc.2.2 (fun q _ h9 => cfree hc hA q h9) (cfree hc hA) (fun v u t H locs ht _ hp hB _ hk hS => ?_) (fun q E ce u t H locs ht _ hp hB _ hk hS hq hv hcl => ?_)
  · obtain ⟨r, rfl, hp⟩ := hp
    obtain ⟨hP1, hD1⟩ := fr_join hP hD hk (cfree hc hA) (by rw [← ht]; exact hB.1) hB.2.2
    refine lv_if_eq (tgt := 19) hx hb d_L_joined_12 (by decide) (fun c1 => ?_) (fun c1 => ?_)
    · rw [if_pos c1] at hp
      refine lv_lconst (v := 0) hx hb d_L_joined_19 (by decide) ?_
      refine va_last hx hb hK hP1 hD1 hS 40 3 rfl rfl (i := 0) (n := 1) (by unfold vp_in; decide) d_L_joined_20 (fun H locs h1 h2 h3 => ?_)
      refine lv_goto (tgt := 32) hx hb d_L_joined_21 (by decide) ?_
      refine lv_iconst (v := 0) hx hb d_L_joined_32 (by decide) ?_
      refine W.widen (k := 3) (n := 18) (Nat.le_of_ble_eq_true rfl) (Nat.le_of_ble_eq_true rfl) ?_
      exact W.iret hx hb hr (fun t ht hW => ⟨⟨_, (vp_updL f (0 : Int32).toNatClampNeg 0, u), rfl, (by show post 0 ((vp_updL f (0 : Int32).toNatClampNeg 0) 0) u.1 u.2.1 u.2.2; rw [updL0]; exact hp), by rw [ht]; exact h1, h2⟩, h3.F ht⟩) h3.2.2 d_L_joined_33
    · rw [if_neg c1] at hp
      refine lv_lconst (v := 1) hx hb d_L_joined_15 (by decide) ?_
      refine lv_goto (tgt := 20) hx hb d_L_joined_16 (by decide) ?_
      refine va_last hx hb hK hP1 hD1 hS 40 3 rfl rfl (i := 0) (n := 1) (by unfold vp_in; decide) d_L_joined_20 (fun H locs h1 h2 h3 => ?_)
      refine lv_goto (tgt := 32) hx hb d_L_joined_21 (by decide) ?_
      refine lv_iconst (v := 0) hx hb d_L_joined_32 (by decide) ?_
      refine W.widen (k := 3) (n := 18) (Nat.le_of_ble_eq_true rfl) (Nat.le_of_ble_eq_true rfl) ?_
      exact W.iret hx hb hr (fun t ht hW => ⟨⟨_, (vp_updL f (0 : Int32).toNatClampNeg 1, u), rfl, (by show post 0 ((vp_updL f (0 : Int32).toNatClampNeg 1) 0) u.1 u.2.1 u.2.2; rw [updL0]; exact hp), by rw [ht]; exact h1, h2⟩, h3.F ht⟩) h3.2.2 d_L_joined_33
  · obtain ⟨hP1, hD1⟩ := fr_join hP hD hk (cfree hc hA) (by rw [← ht]; exact hB.1) hB.2.2
    rcases hp with ⟨rfl, hp⟩ | ⟨rfl, hp⟩
    · refine tx_catch (h := 24) hq hv hcl (fun hpl => fx_of _ _ htab (fx_yes hpl hown (hts _ wG244) (hsr.2 _ dC_ISE) hcl rfl (by decide))) ?_
      refine lv_astore (lv' := [(6, .ref q), (0, .ref (cA L 0)), (1, .int a1), (2, .int a2), (3, .int a3), (4, .int a4), (5, .ref oa)]) hx hb d_L_joined_24 hl (by decide) rfl (fun ls hl => ?_)
      refine lv_iconst (v := 1) hx hb d_L_joined_26 (by decide) ?_
      refine W.widen (k := 3) (n := 18) (Nat.le_of_ble_eq_true rfl) (Nat.le_of_ble_eq_true rfl) ?_
      exact W.iret hx hb hr (fun t ht hW => ⟨⟨_, (f, u), rfl, hp, by rw [ht]; exact hP1, hD1⟩, hS.F ht⟩) hS.2.2 d_L_joined_27
    · refine tx_catch (h := 28) hq hv hcl (fun hpl => fx_of _ _ htab (fx_no hpl hown (hts _ wG244) hNc.2.2.1 hcl rfl (by decide) (fx_yes hpl hown (hts _ wG455) (hsr.2 _ dC_IOB) hcl rfl (by decide)))) ?_
      refine lv_astore (lv' := [(6, .ref q), (0, .ref (cA L 0)), (1, .int a1), (2, .int a2), (3, .int a3), (4, .int a4), (5, .ref oa)]) hx hb d_L_joined_28 hl (by decide) rfl (fun ls hl => ?_)
      refine lv_iconst (v := 2) hx hb d_L_joined_30 (by decide) ?_
      refine W.widen (k := 3) (n := 18) (Nat.le_of_ble_eq_true rfl) (Nat.le_of_ble_eq_true rfl) ?_
      exact W.iret hx hb hr (fun t ht hW => ⟨⟨_, (f, u), rfl, hp, by rw [ht]; exact hP1, hD1⟩, hS.F ht⟩) hS.2.2 d_L_joined_31
def wq_faults (a1 : Int32) (v : Int64) (I : MI) (F : MF) (G : MG) (post : Int32 → Int64 → MI → MF → MG → Prop) : Prop := wp_F_faults a1 I F G (fun r I1 F1 G1 => post 0 r.toInt64 I1 F1 G1) (fun E I1 F1 G1 => (E = "java/lang/IllegalStateException" ∧ post 1 v I1 F1 G1))
abbrev rm_L_faults : Room := { frames := 8, cells := 1, slots := 6, locals := 137 }
set_option maxHeartbeats 4000000 in
set_option maxRecDepth 100000 in
theorem c_L_faults (l : Launch) (L : cL) (hst : l.stackTraces = false) (cJ : ClassId) (oa : Nat) (a1 : Int32) (I : MI) (F : MF) (G : MG) (f : Nat → Int64) (sz : Nat) (post : Int32 → Int64 → MI → MF → MG → Prop) (h : wq_faults a1 (f 0) I F G post) : Met l y_L_faults (.codeWith y_L_faults b_L_faults 4 (some .int) [(0, 9, 12, 15)] :: lwG) rm_L_faults (wPc L cJ (WOl L I F G cJ oa f) sz [.ref (cA L 0), .int a1, .ref oa]) (va_Qi (fun r (u : (Nat → Int64) × cM) => post r (u.1 0) u.2.1 u.2.2.1 u.2.2.2) (fun u t => va_P L.1 vwCl (WOl L u.2.1 u.2.2.1 u.2.2.2 cJ oa u.1) t.heap ∧ va_D (va_A (WOl L I F G cJ oa f) sz) (WOl L u.2.1 u.2.2.1 u.2.2.2 cJ oa u.1)) (va_A (WOl L I F G cJ oa f) sz)) 1 6 (va_A (WOl L I F G cJ oa f) sz) := by
  unfold wq_faults at h
  refine va_MetW (cc := b_L_faults) (maxL := 4) (ret := some .int) (by decide) rfl ?_
  intro p e s m args below meth c s₁ B hml hv
  have htab := fx_table B List.mem_cons_self
  obtain ⟨rfl, hsz, hP, hK, hD0, hN, hz, hsr, hNc⟩ := hv
  have xc : xC p s m _ meth c b_L_faults 4 lwG qRL (some .int) := ⟨B.exec, B.bytes, hml, findClass_of_methodNamed B.named, fun w h => atoms_spec (ws := (.codeWith y_L_faults b_L_faults 4 (some .int) [(0, 9, 12, 15)] :: lwG)) B.pre w (List.mem_cons_of_mem _ h), B.returns, B.notSynchronized⟩
  obtain ⟨hx, hb, hml, hown, hts, hr, hlocks⟩ := id xc
  subst hsz
  have hD : va_D (va_A (WOl L I F G cJ oa f) s.heap.size) (WOl L I F G cJ oa f) := hD0.self
  have hA0 : ∀ q : Nat, s.heap.size ≤ q → va_A (WOl L I F G cJ oa f) s.heap.size q := fun q h => Or.inr h
  generalize va_A (WOl L I F G cJ oa f) s.heap.size = A at hD hA0 hz ⊢
  have hA := hA0
  have hc : CW L A s.heap I F G s.heap [] := ⟨fr_left hP, fd_left hD, va_S.rf⟩
  have hKc : va_K L.1 vwCl (cTys L) s := hK.sub [0, 1, 2] rfl
  have hl := lv_entry ([.ref (cA L 0), .int a1, .ref oa]) (n := 4) (Nat.le_of_ble_eq_true rfl)
  rw [lg_entry_eq]
  generalize (lg_sl ([.ref (cA L 0), .int a1, .ref oa]) ++ List.replicate (4 - (lg_sl ([.ref (cA L 0), .int a1, .ref oa])).length) Slot.unset).toArray = ls at hl ⊢
  have hl : lv_has ls 4 [(0, .ref (cA L 0)), (1, .int a1), (2, .ref oa)] := hl
  refine lv_aload_n hx hb d_L_faults_0 rfl (lv_at hl 2 rfl) ?_
  refine lv_iconst (v := 0) hx hb d_L_faults_1 (by decide) ?_
  refine lv_aload_n hx hb d_L_faults_2 rfl (lv_at hl 0 rfl) ?_
  refine lv_iload_n hx hb d_L_faults_3 rfl (lv_at hl 1 rfl) ?_
  refine tx_call (tx_runV (As := [.int a1]) (rest := [.int 0, .ref oa]) ⟨hx, hb, hml, hown, hts⟩ (c_F_faults l L hst a1 I F G _ _ _ h) (cwV 1 hts (gV wG580 wG581 wG582 wG48 wG583) rfl rfl rfl (by decide +kernel) ⟨Nat.le_of_ble_eq_true rfl, Nat.le_of_ble_eq_true rfl⟩) (cPrx0 hKc hN hc hA hz hsr) rfl rfl hl.1 rfl (lv_room (Nat.le_of_ble_eq_true rfl)) d_L_faults_4 ⟨Nat.le_of_ble_eq_true rfl, Nat.le_of_ble_eq_true rfl⟩) hc.2.2 (fun q _ h9 => cfree hc hA q h9) (cfree hc hA) (fun v u t H locs ht _ hp hB _ hk hS => ?_) (fun q E ce u t H locs ht _ hp hB _ hk hS hq hv hcl => ?_)
  · obtain ⟨r, rfl, hp⟩ := hp
    obtain ⟨hP1, hD1⟩ := fr_join hP hD hk (cfree hc hA) (by rw [← ht]; exact hB.1) hB.2.2
    refine lv_i2l hx hb d_L_faults_7 rfl ?_
    refine va_last hx hb hK hP1 hD1 hS 40 3 rfl rfl (i := 0) (n := 1) (by unfold vp_in; decide) d_L_faults_8 (fun H locs h1 h2 h3 => ?_)
    refine lv_goto (tgt := 15) hx hb d_L_faults_9 (by decide) ?_
    refine lv_iconst (v := 0) hx hb d_L_faults_15 (by decide) ?_
    refine W.widen (k := 1) (n := 6) (Nat.le_of_ble_eq_true rfl) (Nat.le_of_ble_eq_true rfl) ?_
    exact W.iret hx hb hr (fun t ht hW => ⟨⟨_, (vp_updL f (0 : Int32).toNatClampNeg r.toInt64, u), rfl, (by show post 0 ((vp_updL f (0 : Int32).toNatClampNeg r.toInt64) 0) u.1 u.2.1 u.2.2; rw [updL0]; exact hp), by rw [ht]; exact h1, h2⟩, h3.F ht⟩) h3.2.2 d_L_faults_16
  · obtain ⟨hP1, hD1⟩ := fr_join hP hD hk (cfree hc hA) (by rw [← ht]; exact hB.1) hB.2.2
    rcases hp with ⟨rfl, hp⟩
    · refine tx_catch (h := 12) hq hv hcl (fun hpl => fx_of _ _ htab (fx_yes hpl hown (hts _ wG244) (hsr.2 _ dC_ISE) hcl rfl (by decide))) ?_
      refine lv_astore_n (lv' := [(3, .ref q), (0, .ref (cA L 0)), (1, .int a1), (2, .ref oa)]) hx hb d_L_faults_12 rfl hl (by decide) rfl (fun ls hl => ?_)
      refine lv_iconst (v := 1) hx hb d_L_faults_13 (by decide) ?_
      refine W.widen (k := 1) (n := 6) (Nat.le_of_ble_eq_true rfl) (Nat.le_of_ble_eq_true rfl) ?_
      exact W.iret hx hb hr (fun t ht hW => ⟨⟨_, (f, u), rfl, hp, by rw [ht]; exact hP1, hD1⟩, hS.F ht⟩) hS.2.2 d_L_faults_14
def wq_time (a1 : Int32) (a2 : UInt64) (v : UInt64) (I : MI) (F : MF) (G : MG) (post : Int32 → UInt64 → MI → MF → MG → Prop) : Prop := wp_F_time a1 a2 I F G (fun r I1 F1 G1 => post 0 r I1 F1 G1) (fun E I1 F1 G1 => (E = "java/lang/IllegalArgumentException" ∧ post 1 v I1 F1 G1))
abbrev rm_L_time : Room := { frames := 7, cells := 1, slots := 6, locals := 122 }
set_option maxHeartbeats 4000000 in
set_option maxRecDepth 100000 in
theorem c_L_time (l : Launch) (L : cL) (hst : l.stackTraces = false) (cJ : ClassId) (oa : Nat) (a1 : Int32) (a2 : UInt64) (I : MI) (F : MF) (G : MG) (f : Nat → UInt64) (sz : Nat) (post : Int32 → UInt64 → MI → MF → MG → Prop) (h : wq_time a1 a2 (f 0) I F G post) : Met l y_L_time (.codeWith y_L_time b_L_time 6 (some .int) [(0, 10, 13, 13)] :: lwG) rm_L_time (wPc L cJ (WOd L I F G cJ oa f) sz [.ref (cA L 0), .int a1, .double a2, .ref oa]) (va_Qi (fun r (u : (Nat → UInt64) × cM) => post r (u.1 0) u.2.1 u.2.2.1 u.2.2.2) (fun u t => va_P L.1 vwCl (WOd L u.2.1 u.2.2.1 u.2.2.2 cJ oa u.1) t.heap ∧ va_D (va_A (WOd L I F G cJ oa f) sz) (WOd L u.2.1 u.2.2.1 u.2.2.2 cJ oa u.1)) (va_A (WOd L I F G cJ oa f) sz)) 1 6 (va_A (WOd L I F G cJ oa f) sz) := by
  unfold wq_time at h
  refine va_MetW (cc := b_L_time) (maxL := 6) (ret := some .int) (by decide) rfl ?_
  intro p e s m args below meth c s₁ B hml hv
  have htab := fx_table B List.mem_cons_self
  obtain ⟨rfl, hsz, hP, hK, hD0, hN, hz, hsr, hNc⟩ := hv
  have xc : xC p s m _ meth c b_L_time 6 lwG qRL (some .int) := ⟨B.exec, B.bytes, hml, findClass_of_methodNamed B.named, fun w h => atoms_spec (ws := (.codeWith y_L_time b_L_time 6 (some .int) [(0, 10, 13, 13)] :: lwG)) B.pre w (List.mem_cons_of_mem _ h), B.returns, B.notSynchronized⟩
  obtain ⟨hx, hb, hml, hown, hts, hr, hlocks⟩ := id xc
  subst hsz
  have hD : va_D (va_A (WOd L I F G cJ oa f) s.heap.size) (WOd L I F G cJ oa f) := hD0.self
  have hA0 : ∀ q : Nat, s.heap.size ≤ q → va_A (WOd L I F G cJ oa f) s.heap.size q := fun q h => Or.inr h
  generalize va_A (WOd L I F G cJ oa f) s.heap.size = A at hD hA0 hz ⊢
  have hA := hA0
  have hc : CW L A s.heap I F G s.heap [] := ⟨fr_left hP, fd_left hD, va_S.rf⟩
  have hKc : va_K L.1 vwCl (cTys L) s := hK.sub [0, 1, 2] rfl
  have hl := lv_entry ([.ref (cA L 0), .int a1, .double a2, .ref oa]) (n := 6) (Nat.le_of_ble_eq_true rfl)
  rw [lg_entry_eq]
  generalize (lg_sl ([.ref (cA L 0), .int a1, .double a2, .ref oa]) ++ List.replicate (6 - (lg_sl ([.ref (cA L 0), .int a1, .double a2, .ref oa])).length) Slot.unset).toArray = ls at hl ⊢
  have hl : lv_has ls 6 [(0, .ref (cA L 0)), (1, .int a1), (2, .double a2), (4, .ref oa)] := hl
  refine lv_aload hx hb d_L_time_0 (lv_at hl 3 rfl) ?_
  refine lv_iconst (v := 0) hx hb d_L_time_2 (by decide) ?_
  refine lv_aload_n hx hb d_L_time_3 rfl (lv_at hl 0 rfl) ?_
  refine lv_iload_n hx hb d_L_time_4 rfl (lv_at hl 1 rfl) ?_
  refine lv_dload_n hx hb d_L_time_5 rfl (lv_at hl 2 rfl) ?_
  refine tx_call (tx_runV (As := [.int a1, .double a2]) (rest := [.int 0, .ref oa]) ⟨hx, hb, hml, hown, hts⟩ (c_F_time l L hst a1 a2 I F G _ _ _ h) (cwV 2 hts (gV wG623 wG624 wG625 wG48 wG626) rfl rfl rfl (by decide +kernel) ⟨Nat.le_of_ble_eq_true rfl, Nat.le_of_ble_eq_true rfl⟩) (cPrx0 hKc hN hc hA hz hsr) rfl rfl hl.1 rfl (lv_room (Nat.le_of_ble_eq_true rfl)) d_L_time_6 ⟨Nat.le_of_ble_eq_true rfl, Nat.le_of_ble_eq_true rfl⟩) hc.2.2 (fun q _ h9 => cfree hc hA q h9) (cfree hc hA) (fun v u t H locs ht _ hp hB _ hk hS => ?_) (fun q E ce u t H locs ht _ hp hB _ hk hS hq hv hcl => ?_)
  · obtain ⟨r, rfl, hp⟩ := hp
    obtain ⟨hP1, hD1⟩ := fr_join hP hD hk (cfree hc hA) (by rw [← ht]; exact hB.1) hB.2.2
    refine va_dast hx hb hK hP1 hD1 hS 40 1 rfl rfl (i := 0) (n := 1) (by unfold vp_in; decide) d_L_time_9 (fun H locs h1 h2 h3 => ?_)
    refine lv_goto (tgt := 17) hx hb d_L_time_10 (by decide) ?_
    refine lv_iconst (v := 0) hx hb d_L_time_17 (by decide) ?_
    refine W.widen (k := 1) (n := 6) (Nat.le_of_ble_eq_true rfl) (Nat.le_of_ble_eq_true rfl) ?_
    exact W.iret hx hb hr (fun t ht hW => ⟨⟨_, (vf_upd f (0 : Int32).toNatClampNeg r, u), rfl, (by show post 0 ((vf_upd f (0 : Int32).toNatClampNeg r) 0) u.1 u.2.1 u.2.2; rw [updD0]; exact hp), by rw [ht]; exact h1, h2⟩, h3.F ht⟩) h3.2.2 d_L_time_18
  · obtain ⟨hP1, hD1⟩ := fr_join hP hD hk (cfree hc hA) (by rw [← ht]; exact hB.1) hB.2.2
    rcases hp with ⟨rfl, hp⟩
    · refine tx_catch (h := 13) hq hv hcl (fun hpl => fx_of _ _ htab (fx_yes hpl hown (hts _ wG243) (hsr.2 _ dC_IAE) hcl rfl (by decide))) ?_
      refine lv_astore (lv' := [(5, .ref q), (0, .ref (cA L 0)), (1, .int a1), (2, .double a2), (4, .ref oa)]) hx hb d_L_time_13 hl (by decide) rfl (fun ls hl => ?_)
      refine lv_iconst (v := 1) hx hb d_L_time_15 (by decide) ?_
      refine W.widen (k := 1) (n := 6) (Nat.le_of_ble_eq_true rfl) (Nat.le_of_ble_eq_true rfl) ?_
      exact W.iret hx hb hr (fun t ht hW => ⟨⟨_, (f, u), rfl, hp, by rw [ht]; exact hP1, hD1⟩, hS.F ht⟩) hS.2.2 d_L_time_16
def wq_delay (a1 : Int32) (v : UInt64) (I : MI) (F : MF) (G : MG) (post : Int32 → UInt64 → MI → MF → MG → Prop) : Prop := wp_F_delay a1 I F G (fun r I1 F1 G1 => post 0 r I1 F1 G1) (fun E I1 F1 G1 => (E = "java/lang/IllegalArgumentException" ∧ post 1 v I1 F1 G1) ∨ (E = "java/lang/IllegalStateException" ∧ post 2 v I1 F1 G1))
abbrev rm_L_delay : Room := { frames := 8, cells := 2, slots := 12, locals := 152 }
set_option maxHeartbeats 4000000 in
set_option maxRecDepth 100000 in
theorem c_L_delay (l : Launch) (L : cL) (hst : l.stackTraces = false) (cJ : ClassId) (oa : Nat) (a1 : Int32) (I : MI) (F : MF) (G : MG) (f : Nat → UInt64) (sz : Nat) (post : Int32 → UInt64 → MI → MF → MG → Prop) (h : wq_delay a1 (f 0) I F G post) : Met l y_L_delay (.codeWith y_L_delay b_L_delay 4 (some .int) [(0, 8, 11, 13), (0, 8, 14, 15)] :: lwG) rm_L_delay (wPc L cJ (WOd L I F G cJ oa f) sz [.ref (cA L 0), .int a1, .ref oa]) (va_Qi (fun r (u : (Nat → UInt64) × cM) => post r (u.1 0) u.2.1 u.2.2.1 u.2.2.2) (fun u t => va_P L.1 vwCl (WOd L u.2.1 u.2.2.1 u.2.2.2 cJ oa u.1) t.heap ∧ va_D (va_A (WOd L I F G cJ oa f) sz) (WOd L u.2.1 u.2.2.1 u.2.2.2 cJ oa u.1)) (va_A (WOd L I F G cJ oa f) sz)) 2 12 (va_A (WOd L I F G cJ oa f) sz) := by
  unfold wq_delay at h
  refine va_MetW (cc := b_L_delay) (maxL := 4) (ret := some .int) (by decide) rfl ?_
  intro p e s m args below meth c s₁ B hml hv
  have htab := fx_table B List.mem_cons_self
  obtain ⟨rfl, hsz, hP, hK, hD0, hN, hz, hsr, hNc⟩ := hv
  have xc : xC p s m _ meth c b_L_delay 4 lwG qRL (some .int) := ⟨B.exec, B.bytes, hml, findClass_of_methodNamed B.named, fun w h => atoms_spec (ws := (.codeWith y_L_delay b_L_delay 4 (some .int) [(0, 8, 11, 13), (0, 8, 14, 15)] :: lwG)) B.pre w (List.mem_cons_of_mem _ h), B.returns, B.notSynchronized⟩
  obtain ⟨hx, hb, hml, hown, hts, hr, hlocks⟩ := id xc
  subst hsz
  have hD : va_D (va_A (WOd L I F G cJ oa f) s.heap.size) (WOd L I F G cJ oa f) := hD0.self
  have hA0 : ∀ q : Nat, s.heap.size ≤ q → va_A (WOd L I F G cJ oa f) s.heap.size q := fun q h => Or.inr h
  generalize va_A (WOd L I F G cJ oa f) s.heap.size = A at hD hA0 hz ⊢
  have hA := hA0
  have hc : CW L A s.heap I F G s.heap [] := ⟨fr_left hP, fd_left hD, va_S.rf⟩
  have hKc : va_K L.1 vwCl (cTys L) s := hK.sub [0, 1, 2] rfl
  have hl := lv_entry ([.ref (cA L 0), .int a1, .ref oa]) (n := 4) (Nat.le_of_ble_eq_true rfl)
  rw [lg_entry_eq]
  generalize (lg_sl ([.ref (cA L 0), .int a1, .ref oa]) ++ List.replicate (4 - (lg_sl ([.ref (cA L 0), .int a1, .ref oa])).length) Slot.unset).toArray = ls at hl ⊢
  have hl : lv_has ls 4 [(0, .ref (cA L 0)), (1, .int a1), (2, .ref oa)] := hl
  refine lv_aload_n hx hb d_L_delay_0 rfl (lv_at hl 2 rfl) ?_
  refine lv_iconst (v := 0) hx hb d_L_delay_1 (by decide) ?_
  refine lv_aload_n hx hb d_L_delay_2 rfl (lv_at hl 0 rfl) ?_
  refine lv_iload_n hx hb d_L_delay_3 rfl (lv_at hl 1 rfl) ?_
  refine tx_call (tx_runV (As := [.int a1]) (rest := [.int 0, .ref oa]) ⟨hx, hb, hml, hown, hts⟩ (c_F_delay l L hst a1 I F G _ _ _ h) (cwV 1 hts (gV wG632 wG633 wG634 wG48 wG635) rfl rfl rfl (by decide +kernel) ⟨Nat.le_of_ble_eq_true rfl, Nat.le_of_ble_eq_true rfl⟩) (cPrx0 hKc hN hc hA hz hsr) rfl rfl hl.1 rfl (lv_room (Nat.le_of_ble_eq_true rfl)) d_L_delay_4 ⟨Nat.le_of_ble_eq_true rfl, Nat.le_of_ble_eq_true rfl⟩) hc.2.2 (fun q _ h9 => cfree hc hA q h9) (cfree hc hA) (fun v u t H locs ht _ hp hB _ hk hS => ?_) (fun q E ce u t H locs ht _ hp hB _ hk hS hq hv hcl => ?_)
  · obtain ⟨r, rfl, hp⟩ := hp
    obtain ⟨hP1, hD1⟩ := fr_join hP hD hk (cfree hc hA) (by rw [← ht]; exact hB.1) hB.2.2
    refine va_dast hx hb hK hP1 hD1 hS 40 1 rfl rfl (i := 0) (n := 1) (by unfold vp_in; decide) d_L_delay_7 (fun H locs h1 h2 h3 => ?_)
    refine lv_goto (tgt := 17) hx hb d_L_delay_8 (by decide) ?_
    refine lv_iconst (v := 0) hx hb d_L_delay_17 (by decide) ?_
    refine W.widen (k := 2) (n := 12) (Nat.le_of_ble_eq_true rfl) (Nat.le_of_ble_eq_true rfl) ?_
    exact W.iret hx hb hr (fun t ht hW => ⟨⟨_, (vf_upd f (0 : Int32).toNatClampNeg r, u), rfl, (by show post 0 ((vf_upd f (0 : Int32).toNatClampNeg r) 0) u.1 u.2.1 u.2.2; rw [updD0]; exact hp), by rw [ht]; exact h1, h2⟩, h3.F ht⟩) h3.2.2 d_L_delay_18
  · obtain ⟨hP1, hD1⟩ := fr_join hP hD hk (cfree hc hA) (by rw [← ht]; exact hB.1) hB.2.2
    rcases hp with ⟨rfl, hp⟩ | ⟨rfl, hp⟩
    · refine tx_catch (h := 11) hq hv hcl (fun hpl => fx_of _ _ htab (fx_yes hpl hown (hts _ wG243) (hsr.2 _ dC_IAE) hcl rfl (by decide))) ?_
      refine lv_astore_n (lv' := [(3, .ref q), (0, .ref (cA L 0)), (1, .int a1), (2, .ref oa)]) hx hb d_L_delay_11 rfl hl (by decide) rfl (fun ls hl => ?_)
      refine lv_iconst (v := 1) hx hb d_L_delay_12 (by decide) ?_
      refine W.widen (k := 2) (n := 12) (Nat.le_of_ble_eq_true rfl) (Nat.le_of_ble_eq_true rfl) ?_
      exact W.iret hx hb hr (fun t ht hW => ⟨⟨_, (f, u), rfl, hp, by rw [ht]; exact hP1, hD1⟩, hS.F ht⟩) hS.2.2 d_L_delay_13
    · refine tx_catch (h := 14) hq hv hcl (fun hpl => fx_of _ _ htab (fx_no hpl hown (hts _ wG243) hNc.1 hcl rfl (by decide) (fx_yes hpl hown (hts _ wG244) (hsr.2 _ dC_ISE) hcl rfl (by decide)))) ?_
      refine lv_astore_n (lv' := [(3, .ref q), (0, .ref (cA L 0)), (1, .int a1), (2, .ref oa)]) hx hb d_L_delay_14 rfl hl (by decide) rfl (fun ls hl => ?_)
      refine lv_iconst (v := 2) hx hb d_L_delay_15 (by decide) ?_
      refine W.widen (k := 2) (n := 12) (Nat.le_of_ble_eq_true rfl) (Nat.le_of_ble_eq_true rfl) ?_
      exact W.iret hx hb hr (fun t ht hW => ⟨⟨_, (f, u), rfl, hp, by rw [ht]; exact hP1, hD1⟩, hS.F ht⟩) hS.2.2 d_L_delay_16
def wq_arrival (a1 : Int32) (v : UInt64) (I : MI) (F : MF) (G : MG) (post : Int32 → UInt64 → MI → MF → MG → Prop) : Prop := wp_F_arrival a1 I F G (fun r I1 F1 G1 => post 0 r I1 F1 G1) (fun E I1 F1 G1 => (E = "java/lang/IllegalArgumentException" ∧ post 1 v I1 F1 G1) ∨ (E = "java/lang/IllegalStateException" ∧ post 2 v I1 F1 G1) ∨ (E = "java/lang/ArithmeticException" ∧ post 3 v I1 F1 G1))
abbrev rm_L_arrival : Room := { frames := 9, cells := 3, slots := 18, locals := 202 }
set_option maxHeartbeats 4000000 in
set_option maxRecDepth 100000 in
theorem c_L_arrival (l : Launch) (L : cL) (hst : l.stackTraces = false) (cJ : ClassId) (oa : Nat) (a1 : Int32) (I : MI) (F : MF) (G : MG) (f : Nat → UInt64) (sz : Nat) (post : Int32 → UInt64 → MI → MF → MG → Prop) (h : wq_arrival a1 (f 0) I F G post) : Met l y_L_arrival (.codeWith y_L_arrival b_L_arrival 4 (some .int) [(0, 8, 11, 13), (0, 8, 14, 15), (0, 8, 17, 58)] :: lwG) rm_L_arrival (wPc L cJ (WOd L I F G cJ oa f) sz [.ref (cA L 0), .int a1, .ref oa]) (va_Qi (fun r (u : (Nat → UInt64) × cM) => post r (u.1 0) u.2.1 u.2.2.1 u.2.2.2) (fun u t => va_P L.1 vwCl (WOd L u.2.1 u.2.2.1 u.2.2.2 cJ oa u.1) t.heap ∧ va_D (va_A (WOd L I F G cJ oa f) sz) (WOd L u.2.1 u.2.2.1 u.2.2.2 cJ oa u.1)) (va_A (WOd L I F G cJ oa f) sz)) 3 18 (va_A (WOd L I F G cJ oa f) sz) := by
  unfold wq_arrival at h
  refine va_MetW (cc := b_L_arrival) (maxL := 4) (ret := some .int) (by decide) rfl ?_
  intro p e s m args below meth c s₁ B hml hv
  have htab := fx_table B List.mem_cons_self
  obtain ⟨rfl, hsz, hP, hK, hD0, hN, hz, hsr, hNc⟩ := hv
  have xc : xC p s m _ meth c b_L_arrival 4 lwG qRL (some .int) := ⟨B.exec, B.bytes, hml, findClass_of_methodNamed B.named, fun w h => atoms_spec (ws := (.codeWith y_L_arrival b_L_arrival 4 (some .int) [(0, 8, 11, 13), (0, 8, 14, 15), (0, 8, 17, 58)] :: lwG)) B.pre w (List.mem_cons_of_mem _ h), B.returns, B.notSynchronized⟩
  obtain ⟨hx, hb, hml, hown, hts, hr, hlocks⟩ := id xc
  subst hsz
  have hD : va_D (va_A (WOd L I F G cJ oa f) s.heap.size) (WOd L I F G cJ oa f) := hD0.self
  have hA0 : ∀ q : Nat, s.heap.size ≤ q → va_A (WOd L I F G cJ oa f) s.heap.size q := fun q h => Or.inr h
  generalize va_A (WOd L I F G cJ oa f) s.heap.size = A at hD hA0 hz ⊢
  have hA := hA0
  have hc : CW L A s.heap I F G s.heap [] := ⟨fr_left hP, fd_left hD, va_S.rf⟩
  have hKc : va_K L.1 vwCl (cTys L) s := hK.sub [0, 1, 2] rfl
  have hl := lv_entry ([.ref (cA L 0), .int a1, .ref oa]) (n := 4) (Nat.le_of_ble_eq_true rfl)
  rw [lg_entry_eq]
  generalize (lg_sl ([.ref (cA L 0), .int a1, .ref oa]) ++ List.replicate (4 - (lg_sl ([.ref (cA L 0), .int a1, .ref oa])).length) Slot.unset).toArray = ls at hl ⊢
  have hl : lv_has ls 4 [(0, .ref (cA L 0)), (1, .int a1), (2, .ref oa)] := hl
  refine lv_aload_n hx hb d_L_arrival_0 rfl (lv_at hl 2 rfl) ?_
  refine lv_iconst (v := 0) hx hb d_L_arrival_1 (by decide) ?_
  refine lv_aload_n hx hb d_L_arrival_2 rfl (lv_at hl 0 rfl) ?_
  refine lv_iload_n hx hb d_L_arrival_3 rfl (lv_at hl 1 rfl) ?_
  refine tx_call (tx_runV (As := [.int a1]) (rest := [.int 0, .ref oa]) ⟨hx, hb, hml, hown, hts⟩ (c_F_arrival l L hst a1 I F G _ _ _ h) (cwV 1 hts (gV wG648 wG649 wG650 wG48 wG651) rfl rfl rfl (by decide +kernel) ⟨Nat.le_of_ble_eq_true rfl, Nat.le_of_ble_eq_true rfl⟩) (cPrx0 hKc hN hc hA hz hsr) rfl rfl hl.1 rfl (lv_room (Nat.le_of_ble_eq_true rfl)) d_L_arrival_4 ⟨Nat.le_of_ble_eq_true rfl, Nat.le_of_ble_eq_true rfl⟩) hc.2.2 (fun q _ h9 => cfree hc hA q h9) (cfree hc hA) (fun v u t H locs ht _ hp hB _ hk hS => ?_) (fun q E ce u t H locs ht _ hp hB _ hk hS hq hv hcl => ?_)
  · obtain ⟨r, rfl, hp⟩ := hp
    obtain ⟨hP1, hD1⟩ := fr_join hP hD hk (cfree hc hA) (by rw [← ht]; exact hB.1) hB.2.2
    refine va_dast hx hb hK hP1 hD1 hS 40 1 rfl rfl (i := 0) (n := 1) (by unfold vp_in; decide) d_L_arrival_7 (fun H locs h1 h2 h3 => ?_)
    refine lv_goto (tgt := 20) hx hb d_L_arrival_8 (by decide) ?_
    refine lv_iconst (v := 0) hx hb d_L_arrival_20 (by decide) ?_
    refine W.widen (k := 3) (n := 18) (Nat.le_of_ble_eq_true rfl) (Nat.le_of_ble_eq_true rfl) ?_
    exact W.iret hx hb hr (fun t ht hW => ⟨⟨_, (vf_upd f (0 : Int32).toNatClampNeg r, u), rfl, (by show post 0 ((vf_upd f (0 : Int32).toNatClampNeg r) 0) u.1 u.2.1 u.2.2; rw [updD0]; exact hp), by rw [ht]; exact h1, h2⟩, h3.F ht⟩) h3.2.2 d_L_arrival_21
  · obtain ⟨hP1, hD1⟩ := fr_join hP hD hk (cfree hc hA) (by rw [← ht]; exact hB.1) hB.2.2
    rcases hp with ⟨rfl, hp⟩ | ⟨rfl, hp⟩ | ⟨rfl, hp⟩
    · refine tx_catch (h := 11) hq hv hcl (fun hpl => fx_of _ _ htab (fx_yes hpl hown (hts _ wG243) (hsr.2 _ dC_IAE) hcl rfl (by decide))) ?_
      refine lv_astore_n (lv' := [(3, .ref q), (0, .ref (cA L 0)), (1, .int a1), (2, .ref oa)]) hx hb d_L_arrival_11 rfl hl (by decide) rfl (fun ls hl => ?_)
      refine lv_iconst (v := 1) hx hb d_L_arrival_12 (by decide) ?_
      refine W.widen (k := 3) (n := 18) (Nat.le_of_ble_eq_true rfl) (Nat.le_of_ble_eq_true rfl) ?_
      exact W.iret hx hb hr (fun t ht hW => ⟨⟨_, (f, u), rfl, hp, by rw [ht]; exact hP1, hD1⟩, hS.F ht⟩) hS.2.2 d_L_arrival_13
    · refine tx_catch (h := 14) hq hv hcl (fun hpl => fx_of _ _ htab (fx_no hpl hown (hts _ wG243) hNc.1 hcl rfl (by decide) (fx_yes hpl hown (hts _ wG244) (hsr.2 _ dC_ISE) hcl rfl (by decide)))) ?_
      refine lv_astore_n (lv' := [(3, .ref q), (0, .ref (cA L 0)), (1, .int a1), (2, .ref oa)]) hx hb d_L_arrival_14 rfl hl (by decide) rfl (fun ls hl => ?_)
      refine lv_iconst (v := 2) hx hb d_L_arrival_15 (by decide) ?_
      refine W.widen (k := 3) (n := 18) (Nat.le_of_ble_eq_true rfl) (Nat.le_of_ble_eq_true rfl) ?_
      exact W.iret hx hb hr (fun t ht hW => ⟨⟨_, (f, u), rfl, hp, by rw [ht]; exact hP1, hD1⟩, hS.F ht⟩) hS.2.2 d_L_arrival_16
    · refine tx_catch (h := 17) hq hv hcl (fun hpl => fx_of _ _ htab (fx_no hpl hown (hts _ wG243) hNc.2.2.2.1 hcl rfl (by decide) (fx_no hpl hown (hts _ wG244) hNc.2.2.2.2.1 hcl rfl (by decide) (fx_yes hpl hown (hts _ wG647) (hsr.2 _ dC_ARE) hcl rfl (by decide))))) ?_
      refine lv_astore_n (lv' := [(3, .ref q), (0, .ref (cA L 0)), (1, .int a1), (2, .ref oa)]) hx hb d_L_arrival_17 rfl hl (by decide) rfl (fun ls hl => ?_)
      refine lv_iconst (v := 3) hx hb d_L_arrival_18 (by decide) ?_
      refine W.widen (k := 3) (n := 18) (Nat.le_of_ble_eq_true rfl) (Nat.le_of_ble_eq_true rfl) ?_
      exact W.iret hx hb hr (fun t ht hW => ⟨⟨_, (f, u), rfl, hp, by rw [ht]; exact hP1, hD1⟩, hS.F ht⟩) hS.2.2 d_L_arrival_19
def wq_simulate (a1 : Int32) (v : Int64) (I : MI) (F : MF) (G : MG) (post : Int32 → Int64 → MI → MF → MG → Prop) : Prop := wp_F_simulate a1 I F G (fun r I1 F1 G1 => post 0 r.toInt64 I1 F1 G1) (fun E I1 F1 G1 => (E = "java/lang/ArithmeticException" ∧ post 1 v I1 F1 G1))
abbrev rm_L_simulate : Room := { frames := 7, cells := 1, slots := 6, locals := 117 }
set_option maxHeartbeats 4000000 in
set_option maxRecDepth 100000 in
theorem c_L_simulate (l : Launch) (L : cL) (hst : l.stackTraces = false) (cJ : ClassId) (oa : Nat) (a1 : Int32) (I : MI) (F : MF) (G : MG) (f : Nat → Int64) (sz : Nat) (post : Int32 → Int64 → MI → MF → MG → Prop) (h : wq_simulate a1 (f 0) I F G post) : Met l y_L_simulate (.codeWith y_L_simulate b_L_simulate 4 (some .int) [(0, 9, 12, 58)] :: lwG) rm_L_simulate (wPc L cJ (WOl L I F G cJ oa f) sz [.ref (cA L 0), .int a1, .ref oa]) (va_Qi (fun r (u : (Nat → Int64) × cM) => post r (u.1 0) u.2.1 u.2.2.1 u.2.2.2) (fun u t => va_P L.1 vwCl (WOl L u.2.1 u.2.2.1 u.2.2.2 cJ oa u.1) t.heap ∧ va_D (va_A (WOl L I F G cJ oa f) sz) (WOl L u.2.1 u.2.2.1 u.2.2.2 cJ oa u.1)) (va_A (WOl L I F G cJ oa f) sz)) 1 6 (va_A (WOl L I F G cJ oa f) sz) := by
  unfold wq_simulate at h
  refine va_MetW (cc := b_L_simulate) (maxL := 4) (ret := some .int) (by decide) rfl ?_
  intro p e s m args below meth c s₁ B hml hv
  have htab := fx_table B List.mem_cons_self
  obtain ⟨rfl, hsz, hP, hK, hD0, hN, hz, hsr, hNc⟩ := hv
  have xc : xC p s m _ meth c b_L_simulate 4 lwG qRL (some .int) := ⟨B.exec, B.bytes, hml, findClass_of_methodNamed B.named, fun w h => atoms_spec (ws := (.codeWith y_L_simulate b_L_simulate 4 (some .int) [(0, 9, 12, 58)] :: lwG)) B.pre w (List.mem_cons_of_mem _ h), B.returns, B.notSynchronized⟩
  obtain ⟨hx, hb, hml, hown, hts, hr, hlocks⟩ := id xc
  subst hsz
  have hD : va_D (va_A (WOl L I F G cJ oa f) s.heap.size) (WOl L I F G cJ oa f) := hD0.self
  have hA0 : ∀ q : Nat, s.heap.size ≤ q → va_A (WOl L I F G cJ oa f) s.heap.size q := fun q h => Or.inr h
  generalize va_A (WOl L I F G cJ oa f) s.heap.size = A at hD hA0 hz ⊢
  have hA := hA0
  have hc : CW L A s.heap I F G s.heap [] := ⟨fr_left hP, fd_left hD, va_S.rf⟩
  have hKc : va_K L.1 vwCl (cTys L) s := hK.sub [0, 1, 2] rfl
  have hl := lv_entry ([.ref (cA L 0), .int a1, .ref oa]) (n := 4) (Nat.le_of_ble_eq_true rfl)
  rw [lg_entry_eq]
  generalize (lg_sl ([.ref (cA L 0), .int a1, .ref oa]) ++ List.replicate (4 - (lg_sl ([.ref (cA L 0), .int a1, .ref oa])).length) Slot.unset).toArray = ls at hl ⊢
  have hl : lv_has ls 4 [(0, .ref (cA L 0)), (1, .int a1), (2, .ref oa)] := hl
  refine lv_aload_n hx hb d_L_simulate_0 rfl (lv_at hl 2 rfl) ?_
  refine lv_iconst (v := 0) hx hb d_L_simulate_1 (by decide) ?_
  refine lv_aload_n hx hb d_L_simulate_2 rfl (lv_at hl 0 rfl) ?_
  refine lv_iload_n hx hb d_L_simulate_3 rfl (lv_at hl 1 rfl) ?_
  refine tx_call (tx_runV (As := [.int a1]) (rest := [.int 0, .ref oa]) ⟨hx, hb, hml, hown, hts⟩ (c_F_simulate l L hst a1 I F G _ _ _ h) (cwV 1 hts (gV wG697 wG698 wG699 wG48 wG700) rfl rfl rfl (by decide +kernel) ⟨Nat.le_of_ble_eq_true rfl, Nat.le_of_ble_eq_true rfl⟩) (cPrx0 hKc hN hc hA hz hsr) rfl rfl hl.1 rfl (lv_room (Nat.le_of_ble_eq_true rfl)) d_L_simulate_4 ⟨Nat.le_of_ble_eq_true rfl, Nat.le_of_ble_eq_true rfl⟩) hc.2.2 (fun q _ h9 => cfree hc hA q h9) (cfree hc hA) (fun v u t H locs ht _ hp hB _ hk hS => ?_) (fun q E ce u t H locs ht _ hp hB _ hk hS hq hv hcl => ?_)
  · obtain ⟨r, rfl, hp⟩ := hp
    obtain ⟨hP1, hD1⟩ := fr_join hP hD hk (cfree hc hA) (by rw [← ht]; exact hB.1) hB.2.2
    refine lv_i2l hx hb d_L_simulate_7 rfl ?_
    refine va_last hx hb hK hP1 hD1 hS 40 3 rfl rfl (i := 0) (n := 1) (by unfold vp_in; decide) d_L_simulate_8 (fun H locs h1 h2 h3 => ?_)
    refine lv_goto (tgt := 15) hx hb d_L_simulate_9 (by decide) ?_
    refine lv_iconst (v := 0) hx hb d_L_simulate_15 (by decide) ?_
    refine W.widen (k := 1) (n := 6) (Nat.le_of_ble_eq_true rfl) (Nat.le_of_ble_eq_true rfl) ?_
    exact W.iret hx hb hr (fun t ht hW => ⟨⟨_, (vp_updL f (0 : Int32).toNatClampNeg r.toInt64, u), rfl, (by show post 0 ((vp_updL f (0 : Int32).toNatClampNeg r.toInt64) 0) u.1 u.2.1 u.2.2; rw [updL0]; exact hp), by rw [ht]; exact h1, h2⟩, h3.F ht⟩) h3.2.2 d_L_simulate_16
  · obtain ⟨hP1, hD1⟩ := fr_join hP hD hk (cfree hc hA) (by rw [← ht]; exact hB.1) hB.2.2
    rcases hp with ⟨rfl, hp⟩
    · refine tx_catch (h := 12) hq hv hcl (fun hpl => fx_of _ _ htab (fx_yes hpl hown (hts _ wG647) (hsr.2 _ dC_ARE) hcl rfl (by decide))) ?_
      refine lv_astore_n (lv' := [(3, .ref q), (0, .ref (cA L 0)), (1, .int a1), (2, .ref oa)]) hx hb d_L_simulate_12 rfl hl (by decide) rfl (fun ls hl => ?_)
      refine lv_iconst (v := 1) hx hb d_L_simulate_13 (by decide) ?_
      refine W.widen (k := 1) (n := 6) (Nat.le_of_ble_eq_true rfl) (Nat.le_of_ble_eq_true rfl) ?_
      exact W.iret hx hb hr (fun t ht hW => ⟨⟨_, (f, u), rfl, hp, by rw [ht]; exact hP1, hD1⟩, hS.F ht⟩) hS.2.2 d_L_simulate_14
def wq_count (a1 : Int32) (v : Int64) (I : MI) (F : MF) (G : MG) (post : Int32 → Int64 → MI → MF → MG → Prop) : Prop := wp_F_count a1 I F G (fun r I1 F1 G1 => post 0 r.toInt64 I1 F1 G1) (fun E I1 F1 G1 => (E = "java/lang/IllegalArgumentException" ∧ post 1 v I1 F1 G1))
abbrev rm_L_count : Room := { frames := 7, cells := 1, slots := 6, locals := 117 }
set_option maxHeartbeats 4000000 in
set_option maxRecDepth 100000 in
theorem c_L_count (l : Launch) (L : cL) (hst : l.stackTraces = false) (cJ : ClassId) (oa : Nat) (a1 : Int32) (I : MI) (F : MF) (G : MG) (f : Nat → Int64) (sz : Nat) (post : Int32 → Int64 → MI → MF → MG → Prop) (h : wq_count a1 (f 0) I F G post) : Met l y_L_count (.codeWith y_L_count b_L_count 4 (some .int) [(0, 9, 12, 13)] :: lwG) rm_L_count (wPc L cJ (WOl L I F G cJ oa f) sz [.ref (cA L 0), .int a1, .ref oa]) (va_Qi (fun r (u : (Nat → Int64) × cM) => post r (u.1 0) u.2.1 u.2.2.1 u.2.2.2) (fun u t => va_P L.1 vwCl (WOl L u.2.1 u.2.2.1 u.2.2.2 cJ oa u.1) t.heap ∧ va_D (va_A (WOl L I F G cJ oa f) sz) (WOl L u.2.1 u.2.2.1 u.2.2.2 cJ oa u.1)) (va_A (WOl L I F G cJ oa f) sz)) 1 6 (va_A (WOl L I F G cJ oa f) sz) := by
  unfold wq_count at h
  refine va_MetW (cc := b_L_count) (maxL := 4) (ret := some .int) (by decide) rfl ?_
  intro p e s m args below meth c s₁ B hml hv
  have htab := fx_table B List.mem_cons_self
  obtain ⟨rfl, hsz, hP, hK, hD0, hN, hz, hsr, hNc⟩ := hv
  have xc : xC p s m _ meth c b_L_count 4 lwG qRL (some .int) := ⟨B.exec, B.bytes, hml, findClass_of_methodNamed B.named, fun w h => atoms_spec (ws := (.codeWith y_L_count b_L_count 4 (some .int) [(0, 9, 12, 13)] :: lwG)) B.pre w (List.mem_cons_of_mem _ h), B.returns, B.notSynchronized⟩
  obtain ⟨hx, hb, hml, hown, hts, hr, hlocks⟩ := id xc
  subst hsz
  have hD : va_D (va_A (WOl L I F G cJ oa f) s.heap.size) (WOl L I F G cJ oa f) := hD0.self
  have hA0 : ∀ q : Nat, s.heap.size ≤ q → va_A (WOl L I F G cJ oa f) s.heap.size q := fun q h => Or.inr h
  generalize va_A (WOl L I F G cJ oa f) s.heap.size = A at hD hA0 hz ⊢
  have hA := hA0
  have hc : CW L A s.heap I F G s.heap [] := ⟨fr_left hP, fd_left hD, va_S.rf⟩
  have hKc : va_K L.1 vwCl (cTys L) s := hK.sub [0, 1, 2] rfl
  have hl := lv_entry ([.ref (cA L 0), .int a1, .ref oa]) (n := 4) (Nat.le_of_ble_eq_true rfl)
  rw [lg_entry_eq]
  generalize (lg_sl ([.ref (cA L 0), .int a1, .ref oa]) ++ List.replicate (4 - (lg_sl ([.ref (cA L 0), .int a1, .ref oa])).length) Slot.unset).toArray = ls at hl ⊢
  have hl : lv_has ls 4 [(0, .ref (cA L 0)), (1, .int a1), (2, .ref oa)] := hl
  refine lv_aload_n hx hb d_L_count_0 rfl (lv_at hl 2 rfl) ?_
  refine lv_iconst (v := 0) hx hb d_L_count_1 (by decide) ?_
  refine lv_aload_n hx hb d_L_count_2 rfl (lv_at hl 0 rfl) ?_
  refine lv_iload_n hx hb d_L_count_3 rfl (lv_at hl 1 rfl) ?_
  refine tx_call (tx_runV (As := [.int a1]) (rest := [.int 0, .ref oa]) ⟨hx, hb, hml, hown, hts⟩ (c_F_count l L hst a1 I F G _ _ _ h) (cwV 1 hts (gV wG716 wG717 wG718 wG48 wG719) rfl rfl rfl (by decide +kernel) ⟨Nat.le_of_ble_eq_true rfl, Nat.le_of_ble_eq_true rfl⟩) (cPrx0 hKc hN hc hA hz hsr) rfl rfl hl.1 rfl (lv_room (Nat.le_of_ble_eq_true rfl)) d_L_count_4 ⟨Nat.le_of_ble_eq_true rfl, Nat.le_of_ble_eq_true rfl⟩) hc.2.2 (fun q _ h9 => cfree hc hA q h9) (cfree hc hA) (fun v u t H locs ht _ hp hB _ hk hS => ?_) (fun q E ce u t H locs ht _ hp hB _ hk hS hq hv hcl => ?_)
  · obtain ⟨r, rfl, hp⟩ := hp
    obtain ⟨hP1, hD1⟩ := fr_join hP hD hk (cfree hc hA) (by rw [← ht]; exact hB.1) hB.2.2
    refine lv_i2l hx hb d_L_count_7 rfl ?_
    refine va_last hx hb hK hP1 hD1 hS 40 3 rfl rfl (i := 0) (n := 1) (by unfold vp_in; decide) d_L_count_8 (fun H locs h1 h2 h3 => ?_)
    refine lv_goto (tgt := 15) hx hb d_L_count_9 (by decide) ?_
    refine lv_iconst (v := 0) hx hb d_L_count_15 (by decide) ?_
    refine W.widen (k := 1) (n := 6) (Nat.le_of_ble_eq_true rfl) (Nat.le_of_ble_eq_true rfl) ?_
    exact W.iret hx hb hr (fun t ht hW => ⟨⟨_, (vp_updL f (0 : Int32).toNatClampNeg r.toInt64, u), rfl, (by show post 0 ((vp_updL f (0 : Int32).toNatClampNeg r.toInt64) 0) u.1 u.2.1 u.2.2; rw [updL0]; exact hp), by rw [ht]; exact h1, h2⟩, h3.F ht⟩) h3.2.2 d_L_count_16
  · obtain ⟨hP1, hD1⟩ := fr_join hP hD hk (cfree hc hA) (by rw [← ht]; exact hB.1) hB.2.2
    rcases hp with ⟨rfl, hp⟩
    · refine tx_catch (h := 12) hq hv hcl (fun hpl => fx_of _ _ htab (fx_yes hpl hown (hts _ wG243) (hsr.2 _ dC_IAE) hcl rfl (by decide))) ?_
      refine lv_astore_n (lv' := [(3, .ref q), (0, .ref (cA L 0)), (1, .int a1), (2, .ref oa)]) hx hb d_L_count_12 rfl hl (by decide) rfl (fun ls hl => ?_)
      refine lv_iconst (v := 1) hx hb d_L_count_13 (by decide) ?_
      refine W.widen (k := 1) (n := 6) (Nat.le_of_ble_eq_true rfl) (Nat.le_of_ble_eq_true rfl) ?_
      exact W.iret hx hb hr (fun t ht hW => ⟨⟨_, (f, u), rfl, hp, by rw [ht]; exact hP1, hD1⟩, hS.F ht⟩) hS.2.2 d_L_count_14
