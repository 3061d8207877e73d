/-! The class's memory: scalars I, int arrays F, double arrays G; where it lies: L. -/
abbrev MI : Type := Nat → Int32
abbrev MF : Type := Nat → Nat → Int32
abbrev MG : Type := Nat → Nat → UInt64
abbrev cM : Type := MI × MF × MG
def setI (I : MI) (k : Nat) (v : Int32) : MI := fun j => if j = k then v else I j
def setF (F : MF) (k : Nat) (f : Nat → Int32) : MF := fun j => if j = k then f else F j
def setG (G : MG) (k : Nat) (f : Nat → UInt64) : MG := fun j => if j = k then f else G j
/-- classes and slots; the classes of int[], double[], int[][]; the addresses -/
abbrev cL : Type := va_G × ClassId × ClassId × ClassId × (Nat → Nat)
abbrev cA (L : cL) (j : Nat) : Nat := L.2.2.2.2 j
abbrev cTys (L : cL) : List (ClassId × FieldType) := [(L.2.1, .int), (L.2.2.1, .double), (L.2.2.2.1, .array .int)]
/-- the lengths of the int arrays: kind, inputA, inputB, out, row, firstColumn; nextColumn; leftPin, rightPin, driver, track; lesser; endNet, endGroup; order; pinNet's 2 rows; rowPins' 2; points' 11 -/
def cLen (k : Nat) : Nat := [12, 12, 12, 12, 12, 12, 2, 12, 12, 12, 12, 528, 60, 60, 12, 24, 24, 12, 12].getD k 24
def WC (L : cL) (I : MI) (F : MF) (G : MG) : va_W :=
  [(cA L 0, .inr (0, [.ref (cA L 1), .ref (cA L 2), .ref (cA L 3), .ref (cA L 4), .int (I 0)])),
   (cA L 1, .inr (1, [.int (I 1), .ref (cA L 10), .ref (cA L 11), .ref (cA L 12), .ref (cA L 13), .ref (cA L 14), .ref (cA L 15), .ref (cA L 16), .ref (cA L 5), .ref (cA L 6), .ref (cA L 17), .ref (cA L 18), .ref (cA L 19)])),
   (cA L 2, .inr (2, [.ref (cA L 1), .int (I 2), .ref (cA L 20)])),
   (cA L 3, .inr (3, [.ref (cA L 1), .ref (cA L 2), .ref (cA L 7), .ref (cA L 21), .ref (cA L 22), .ref (cA L 23), .int (I 3)])),
   (cA L 4, .inr (4, [.ref (cA L 1), .ref (cA L 2), .ref (cA L 8), .ref (cA L 9), .ref (cA L 24), .int (I 4), .int (I 5)])),
   (cA L 5, .inl (L.2.2.2.1, 2, .inr (.inr (.inr (.inr (fun i => some (cA L (10 + (15 + i))))))))),
   (cA L 6, .inl (L.2.2.2.1, 2, .inr (.inr (.inr (.inr (fun i => some (cA L (10 + (17 + i))))))))),
   (cA L 7, .inl (L.2.2.2.1, 11, .inr (.inr (.inr (.inr (fun i => some (cA L (10 + (19 + i))))))))),
   (cA L 8, .inl (L.2.2.1, 4, .inr (.inr (.inr (.inl (G 0)))))),
   (cA L 9, .inl (L.2.2.1, 12, .inr (.inr (.inr (.inl (G 1))))))] ++ (List.range 30).map (fun k => (cA L (10 + k), .inl (L.2.1, cLen k, .inl (F k))))
theorem WC_int {L : cL} {I : MI} {F : MF} {G : MG} (k : Nat) (hk : k < 30) : (WC L I F G)[10 + k]? = some (cA L (10 + k), .inl (L.2.1, cLen k, .inl (F k))) := by
  unfold WC
  rw [List.getElem?_append_right (by simp)]
  simp only [List.length_cons, List.length_nil, List.getElem?_map]
  rw [show 10 + k - (0 + 1 + 1 + 1 + 1 + 1 + 1 + 1 + 1 + 1 + 1) = k by omega, List.getElem?_range hk]
  rfl
theorem mapset {α : Type} (g : Nat → α) (n k : Nat) (v : α) : ((List.range n).map g).set k v = (List.range n).map (fun j => if j = k then v else g j) := by
  apply List.ext_getElem?
  intro j
  rw [List.getElem?_set, List.getElem?_map, List.getElem?_map]
  by_cases hj : j < n
  · rw [List.getElem?_range hj]
    by_cases e : k = j
    · subst e; simp [hj]
    · simp [e, Ne.symm e]
  · have h0 : (List.range n)[j]? = none := List.getElem?_eq_none (by simp; omega)
    rw [h0]
    by_cases e : k = j
    · subst e; simp; omega
    · simp [e]
theorem WC_setInt {L : cL} {I : MI} {F : MF} {G : MG} (k : Nat) (f : Nat → Int32) : (WC L I F G).set (10 + k) (cA L (10 + k), .inl (L.2.1, cLen k, .inl f)) = WC L I (setF F k f) G := by
  unfold WC
  rw [List.set_append_right _ _ (by simp)]
  congr 1
  simp only [List.length_cons, List.length_nil]
  rw [show 10 + k - (0 + 1 + 1 + 1 + 1 + 1 + 1 + 1 + 1 + 1 + 1) = k by omega, mapset]
  apply List.map_congr_left
  intro j _
  by_cases e : j = k
  · subst e; simp [setF]
  · simp [setF, e]
/-- the world of a walk: the cells, apart and in A, what has changed since the method's start -/
def CW (L : cL) (A : Nat → Prop) (H0 : Heap) (I : MI) (F : MF) (G : MG) (H : Heap) (locs : List Loc) : Prop := va_P L.1 vwCl (WC L I F G) H ∧ va_D A (WC L I F G) ∧ va_S A H0 H locs
/-- what a walk knows of its method -/
def xC (p : Program) (s : State) (m : MethodId) (args : Array Value) (meth : Method) (c : Code) (cc : ByteArray) (nL : Nat) (Ts : List Cond) (own : String) (ret : Option FieldType) : Prop :=
  p.tables.exec = Jvm.exec ∧ c.code = cc ∧ c.maxLocals = nL ∧ s.vm.findClass own = some m.cls ∧ (∀ w ∈ Ts, w.before args s = true) ∧ meth.sig.returnType = ret ∧ meth.locks = false
theorem vp_lt {i : Int32} {n : Nat} (h : vp_in i n) : i.toNatClampNeg < n := by
  rcases Nat.lt_or_ge i.toNatClampNeg n with q | q
  · exact q
  · exact absurd (Or.inr q) h
section WCR
variable {p : Program} {l : Launch} {e : Env} {R : Room} {s : State} {m : MethodId} {args : Array Value} {below : List Frame} {meth : Method} {c : Code} {H : Heap} {locs : List Loc} {cells slots : Nat} {Q : State → Prop}
variable {cc : ByteArray} {pc : Nat} {ls : Array Slot} {rest : List Value} {A : Nat → Prop} {H0 : Heap} {L : cL} {I : MI} {F : MF} {G : MG}
theorem c_iald (hx : p.tables.exec = Jvm.exec) (hb : c.code = cc) (hK : va_K L.1 vwCl (cTys L) s) (hP : va_P L.1 vwCl (WC L I F G) H) (k : Nat) (hk : k < 30) {n : Nat} (hn : cLen k = n) {i : Int32} (hin : vp_in i n) (hdg : decode cc pc = .ok (.iaload, 1))
    (kk : W p l e R s m args below meth c H locs cells slots Q (F0 m (pc + 1) ls (.int (F k i.toNatClampNeg) :: rest))) : W p l e R s m args below meth c H locs cells slots Q (F0 m pc ls (.int i :: .ref (cA L (10 + k)) :: rest)) :=
  va_iald hx hb hK hP (10 + k) 0 (WC_int k hk) rfl (by rw [hn]; exact hin) hdg kk
theorem c_iast (hx : p.tables.exec = Jvm.exec) (hb : c.code = cc) (hK : va_K L.1 vwCl (cTys L) s) (hw : CW L A H0 I F G H locs) (k : Nat) (hk : k < 30) {n : Nat} (hn : cLen k = n) {i v : Int32} (hin : vp_in i n) (hdg : decode cc pc = .ok (.iastore, 1))
    (kk : ∀ (H1 : Heap) (locs1 : List Loc), CW L A H0 I (setF F k (upd (F k) i.toNatClampNeg v)) G H1 locs1 → W p l e R s m args below meth c H1 locs1 cells slots Q (F0 m (pc + 1) ls rest)) : W p l e R s m args below meth c H locs cells slots Q (F0 m pc ls (.int v :: .int i :: .ref (cA L (10 + k)) :: rest)) := by
  refine va_iast hx hb hK hw.1 hw.2.1 hw.2.2 (10 + k) 0 (WC_int k hk) rfl (by rw [hn]; exact hin) hdg (fun H1 locs1 h1 h2 h3 => kk H1 locs1 ?_)
  rw [WC_setInt] at h1 h2
  exact ⟨h1, h2, h3⟩
theorem c_dald (hx : p.tables.exec = Jvm.exec) (hb : c.code = cc) (hK : va_K L.1 vwCl (cTys L) s) (hP : va_P L.1 vwCl (WC L I F G) H) (k : Nat) {n : Nat} (ha : (WC L I F G)[8 + k]? = some (cA L (8 + k), .inl (L.2.2.1, n, .inr (.inr (.inr (.inl (G k))))))) {i : Int32} (hin : vp_in i n) (hdg : decode cc pc = .ok (.daload, 1))
    (kk : W p l e R s m args below meth c H locs cells slots Q (F0 m (pc + 1) ls (.double (G k i.toNatClampNeg) :: rest))) : W p l e R s m args below meth c H locs cells slots Q (F0 m pc ls (.int i :: .ref (cA L (8 + k)) :: rest)) :=
  va_dald hx hb hK hP (8 + k) 1 ha rfl hin hdg kk
theorem c_dast (hx : p.tables.exec = Jvm.exec) (hb : c.code = cc) (hK : va_K L.1 vwCl (cTys L) s) (hw : CW L A H0 I F G H locs) (k : Nat) {n : Nat} (ha : (WC L I F G)[8 + k]? = some (cA L (8 + k), .inl (L.2.2.1, n, .inr (.inr (.inr (.inl (G k))))))) 
    (hs : ∀ f : Nat → UInt64, (WC L I F G).set (8 + k) (cA L (8 + k), .inl (L.2.2.1, n, .inr (.inr (.inr (.inl f))))) = WC L I F (setG G k f)) {i : Int32} {v : UInt64} (hin : vp_in i n) (hdg : decode cc pc = .ok (.dastore, 1))
    (kk : ∀ (H1 : Heap) (locs1 : List Loc), CW L A H0 I F (setG G k (vf_upd (G k) i.toNatClampNeg v)) H1 locs1 → W p l e R s m args below meth c H1 locs1 cells slots Q (F0 m (pc + 1) ls rest)) : W p l e R s m args below meth c H locs cells slots Q (F0 m pc ls (.double v :: .int i :: .ref (cA L (8 + k)) :: rest)) := by
  refine va_dast hx hb hK hw.1 hw.2.1 hw.2.2 (8 + k) 1 ha rfl hin hdg (fun H1 locs1 h1 h2 h3 => kk H1 locs1 ?_)
  rw [hs] at h1 h2
  exact ⟨h1, h2, h3⟩
/-- a row of pinNet, rowPins, points -/
theorem c_row5 (hx : p.tables.exec = Jvm.exec) (hb : c.code = cc) (hK : va_K L.1 vwCl (cTys L) s) (hP : va_P L.1 vwCl (WC L I F G) H) {i : Int32} (hin : vp_in i 2) (hdg : decode cc pc = .ok (.aaload, 1))
    (kk : W p l e R s m args below meth c H locs cells slots Q (F0 m (pc + 1) ls (.ref (cA L (10 + (15 + i.toNatClampNeg))) :: rest))) : W p l e R s m args below meth c H locs cells slots Q (F0 m pc ls (.int i :: .ref (cA L 5) :: rest)) :=
  gx_ald hx hb hK hP 5 2 (f := fun i => cA L (10 + (15 + i))) rfl rfl hin hdg kk
theorem c_row6 (hx : p.tables.exec = Jvm.exec) (hb : c.code = cc) (hK : va_K L.1 vwCl (cTys L) s) (hP : va_P L.1 vwCl (WC L I F G) H) {i : Int32} (hin : vp_in i 2) (hdg : decode cc pc = .ok (.aaload, 1))
    (kk : W p l e R s m args below meth c H locs cells slots Q (F0 m (pc + 1) ls (.ref (cA L (10 + (17 + i.toNatClampNeg))) :: rest))) : W p l e R s m args below meth c H locs cells slots Q (F0 m pc ls (.int i :: .ref (cA L 6) :: rest)) :=
  gx_ald hx hb hK hP 6 2 (f := fun i => cA L (10 + (17 + i))) rfl rfl hin hdg kk
theorem c_row7 (hx : p.tables.exec = Jvm.exec) (hb : c.code = cc) (hK : va_K L.1 vwCl (cTys L) s) (hP : va_P L.1 vwCl (WC L I F G) H) {i : Int32} (hin : vp_in i 11) (hdg : decode cc pc = .ok (.aaload, 1))
    (kk : W p l e R s m args below meth c H locs cells slots Q (F0 m (pc + 1) ls (.ref (cA L (10 + (19 + i.toNatClampNeg))) :: rest))) : W p l e R s m args below meth c H locs cells slots Q (F0 m pc ls (.int i :: .ref (cA L 7) :: rest)) :=
  gx_ald hx hb hK hP 7 2 (f := fun i => cA L (10 + (19 + i))) rfl rfl hin hdg kk
end WCR
theorem row_lt15 {i : Int32} (h : vp_in i 2) : 15 + i.toNatClampNeg < 30 := by have := vp_lt h; omega
theorem row_lt17 {i : Int32} (h : vp_in i 2) : 17 + i.toNatClampNeg < 30 := by have := vp_lt h; omega
theorem row_lt19 {i : Int32} (h : vp_in i 11) : 19 + i.toNatClampNeg < 30 := by have := vp_lt h; omega
theorem row_len15 {i : Int32} (h : vp_in i 2) : cLen (15 + i.toNatClampNeg) = 24 := by
  have := vp_lt h
  generalize i.toNatClampNeg = j at this
  rcases (show j = 0 ∨ j = 1 by omega) with rfl | rfl <;> rfl
theorem row_len17 {i : Int32} (h : vp_in i 2) : cLen (17 + i.toNatClampNeg) = 12 := by
  have := vp_lt h
  generalize i.toNatClampNeg = j at this
  rcases (show j = 0 ∨ j = 1 by omega) with rfl | rfl <;> rfl
theorem row_len19 {i : Int32} (h : vp_in i 11) : cLen (19 + i.toNatClampNeg) = 24 := by
  generalize i.toNatClampNeg = j
  unfold cLen
  rw [List.getD_eq_getElem?_getD, List.getElem?_eq_none (by simp)]
  rfl
/-! contracts' starts and ends -/
/-- the nest's three links, which no list of words hands on -/
def cNk (U : State) : Prop := va_Nw (.methodLinkNest "ChipForge$Netlist" 63 y_F_pinsOfKind "ChipForge") U ∧ va_Nw (.methodLinkNest "ChipForge$Netlist" 71 y_F_hasOneInput "ChipForge") U ∧ va_Nw (.methodLinkNest "ChipForge$Netlist" 84 y_F_within "ChipForge") U
theorem cNk.warm {s U : State} (hW : s.WarmedH U.vm) (h : cNk s) : cNk U := ⟨va_Nw.warmM hW h.1, va_Nw.warmM hW h.2.1, va_Nw.warmM hW h.2.2⟩
theorem cNk.same {s U : State} (hv : s.vm = U.vm) (h : cNk s) : cNk U := ⟨va_Nw.same rfl hv h.1, va_Nw.same rfl hv h.2.1, va_Nw.same rfl hv h.2.2⟩
def sPc (av : List Value) : Array Value → State → Prop := va_Pc av (fun _ => True)
def cPc (L : cL) (I : MI) (F : MF) (G : MG) (av : List Value) : Array Value → State → Prop := va_Pc av (fun U => va_P L.1 vwCl (WC L I F G) U.heap ∧ va_K L.1 vwCl (cTys L) U ∧ cNk U)
def cPm (L : cL) (I : MI) (F : MF) (G : MG) (sz : Nat) (av : List Value) : Array Value → State → Prop := va_Pc av (fun U => U.heap.size = sz ∧ va_P L.1 vwCl (WC L I F G) U.heap ∧ va_K L.1 vwCl (cTys L) U ∧ va_D (fun _ => True) (WC L I F G) ∧ cNk U)
def cB (L : cL) (A : Nat → Prop) (u : cM) (t : State) : Prop := va_P L.1 vwCl (WC L u.1 u.2.1 u.2.2) t.heap ∧ va_K L.1 vwCl (cTys L) t ∧ va_D A (WC L u.1 u.2.1 u.2.2)
abbrev cAA (L : cL) (I : MI) (F : MF) (G : MG) (sz : Nat) : Nat → Prop := va_A (WC L I F G) sz
abbrev cQi (L : cL) (A : Nat → Prop) (post : Int32 → MI → MF → MG → Prop) (A1 : Nat → Prop) := va_Qi (fun r (u : cM) => post r u.1 u.2.1 u.2.2) (cB L A) A1
abbrev cQd (L : cL) (A : Nat → Prop) (post : UInt64 → MI → MF → MG → Prop) (A1 : Nat → Prop) := va_Qd (fun r (u : cM) => post r u.1 u.2.1 u.2.2) (cB L A) A1
abbrev cQv (L : cL) (A : Nat → Prop) (post : MI → MF → MG → Prop) (A1 : Nat → Prop) := va_Qv (fun (u : cM) => post u.1 u.2.1 u.2.2) (cB L A) A1
theorem sPc_blind (av : List Value) : FrameBlind (sPc av) := fun _ _ _ _ h => h
theorem cPc_blind (L : cL) (I : MI) (F : MF) (G : MG) (av : List Value) : FrameBlind (cPc L I F G av) := fun a U g mk h => ⟨h.1, h.2.1, va_K.moved (u := U) (U := U.calling g mk a) (Vm.Alike.refl U.vm) h.2.2.1, cNk.same rfl h.2.2.2⟩
theorem cPm_blind (L : cL) (I : MI) (F : MF) (G : MG) (sz : Nat) (av : List Value) : FrameBlind (cPm L I F G sz av) := fun a U g mk h => ⟨h.1, h.2.1, h.2.2.1, va_K.moved (u := U) (U := U.calling g mk a) (Vm.Alike.refl U.vm) h.2.2.2.1, h.2.2.2.2.1, cNk.same rfl h.2.2.2.2.2⟩
section WCP
variable {s : State} {H : Heap} {locs : List Loc} {A : Nat → Prop} {L : cL} {I : MI} {F : MF} {G : MG} {As : List Value}
theorem cPre0 (hK : va_K L.1 vwCl (cTys L) s) (hN : cNk s) (hP : va_P L.1 vwCl (WC L I F G) H) : PreV s H qR0 (cA L 0) (cPc L I F G (.ref (cA L 0) :: As)) As :=
  ⟨cPc_blind _ _ _ _ _, va_recv hK hP (ci := 0) (q0 := 0) rfl rfl, fun U hU hW => ⟨rfl, by rw [hU]; exact hP, va_K.moved hW.alike hK, cNk.warm hW hN⟩⟩
theorem cPrm0 (hK : va_K L.1 vwCl (cTys L) s) (hN : cNk s) (hw : CW L A s.heap I F G H locs) : PreV s H qR0 (cA L 0) (cPm L I F G H.size (.ref (cA L 0) :: As)) As :=
  ⟨cPm_blind _ _ _ _ _ _, va_recv hK hw.1 (ci := 0) (q0 := 0) rfl rfl, fun U hU hW => ⟨rfl, by rw [hU], by rw [hU]; exact hw.1, va_K.moved hW.alike hK, hw.2.1.weaken (fun _ _ _ _ => trivial), cNk.warm hW hN⟩⟩
theorem cPre1 (hK : va_K L.1 vwCl (cTys L) s) (hN : cNk s) (hP : va_P L.1 vwCl (WC L I F G) H) : PreV s H qR1 (cA L 1) (cPc L I F G (.ref (cA L 1) :: As)) As :=
  ⟨cPc_blind _ _ _ _ _, va_recv hK hP (ci := 1) (q0 := 1) rfl rfl, fun U hU hW => ⟨rfl, by rw [hU]; exact hP, va_K.moved hW.alike hK, cNk.warm hW hN⟩⟩
theorem cPrm1 (hK : va_K L.1 vwCl (cTys L) s) (hN : cNk s) (hw : CW L A s.heap I F G H locs) : PreV s H qR1 (cA L 1) (cPm L I F G H.size (.ref (cA L 1) :: As)) As :=
  ⟨cPm_blind _ _ _ _ _ _, va_recv hK hw.1 (ci := 1) (q0 := 1) rfl rfl, fun U hU hW => ⟨rfl, by rw [hU], by rw [hU]; exact hw.1, va_K.moved hW.alike hK, hw.2.1.weaken (fun _ _ _ _ => trivial), cNk.warm hW hN⟩⟩
theorem cPre2 (hK : va_K L.1 vwCl (cTys L) s) (hN : cNk s) (hP : va_P L.1 vwCl (WC L I F G) H) : PreV s H qR2 (cA L 2) (cPc L I F G (.ref (cA L 2) :: As)) As :=
  ⟨cPc_blind _ _ _ _ _, va_recv hK hP (ci := 2) (q0 := 2) rfl rfl, fun U hU hW => ⟨rfl, by rw [hU]; exact hP, va_K.moved hW.alike hK, cNk.warm hW hN⟩⟩
theorem cPrm2 (hK : va_K L.1 vwCl (cTys L) s) (hN : cNk s) (hw : CW L A s.heap I F G H locs) : PreV s H qR2 (cA L 2) (cPm L I F G H.size (.ref (cA L 2) :: As)) As :=
  ⟨cPm_blind _ _ _ _ _ _, va_recv hK hw.1 (ci := 2) (q0 := 2) rfl rfl, fun U hU hW => ⟨rfl, by rw [hU], by rw [hU]; exact hw.1, va_K.moved hW.alike hK, hw.2.1.weaken (fun _ _ _ _ => trivial), cNk.warm hW hN⟩⟩
theorem cPre3 (hK : va_K L.1 vwCl (cTys L) s) (hN : cNk s) (hP : va_P L.1 vwCl (WC L I F G) H) : PreV s H qR3 (cA L 3) (cPc L I F G (.ref (cA L 3) :: As)) As :=
  ⟨cPc_blind _ _ _ _ _, va_recv hK hP (ci := 3) (q0 := 3) rfl rfl, fun U hU hW => ⟨rfl, by rw [hU]; exact hP, va_K.moved hW.alike hK, cNk.warm hW hN⟩⟩
theorem cPrm3 (hK : va_K L.1 vwCl (cTys L) s) (hN : cNk s) (hw : CW L A s.heap I F G H locs) : PreV s H qR3 (cA L 3) (cPm L I F G H.size (.ref (cA L 3) :: As)) As :=
  ⟨cPm_blind _ _ _ _ _ _, va_recv hK hw.1 (ci := 3) (q0 := 3) rfl rfl, fun U hU hW => ⟨rfl, by rw [hU], by rw [hU]; exact hw.1, va_K.moved hW.alike hK, hw.2.1.weaken (fun _ _ _ _ => trivial), cNk.warm hW hN⟩⟩
theorem cPre4 (hK : va_K L.1 vwCl (cTys L) s) (hN : cNk s) (hP : va_P L.1 vwCl (WC L I F G) H) : PreV s H qR4 (cA L 4) (cPc L I F G (.ref (cA L 4) :: As)) As :=
  ⟨cPc_blind _ _ _ _ _, va_recv hK hP (ci := 4) (q0 := 4) rfl rfl, fun U hU hW => ⟨rfl, by rw [hU]; exact hP, va_K.moved hW.alike hK, cNk.warm hW hN⟩⟩
theorem cPrm4 (hK : va_K L.1 vwCl (cTys L) s) (hN : cNk s) (hw : CW L A s.heap I F G H locs) : PreV s H qR4 (cA L 4) (cPm L I F G H.size (.ref (cA L 4) :: As)) As :=
  ⟨cPm_blind _ _ _ _ _ _, va_recv hK hw.1 (ci := 4) (q0 := 4) rfl rfl, fun U hU hW => ⟨rfl, by rw [hU], by rw [hU]; exact hw.1, va_K.moved hW.alike hK, hw.2.1.weaken (fun _ _ _ _ => trivial), cNk.warm hW hN⟩⟩
theorem cfree (hw : CW L A s.heap I F G H locs) (hA : ∀ q, s.heap.size ≤ q → A q) : ∀ q, cAA L I F G H.size q → A q := fun q h => by
  rcases h with ⟨k, e, h⟩ | h
  · exact hw.2.1.2 k _ h
  · exact hA q (Nat.le_trans hw.2.2.1 h)
end WCP
section WCC
variable {p : Program} {l : Launch} {e : Env} {R : Room} {s : State} {m : MethodId} {args : Array Value} {below : List Frame} {meth : Method} {c : Code} {H : Heap} {locs : List Loc} {cells slots : Nat} {Q : State → Prop}
variable {cc : ByteArray} {pc : Nat} {ls : Array Slot} {rest st0 : List Value} {A : Nat → Prop} {L : cL} {I : MI} {F : MF} {G : MG} {a : Array Value}
theorem c_back (hw : CW L A s.heap I F G H locs) (hA : ∀ q, s.heap.size ≤ q → A q) {u : cM} {t : State} {H1 : Heap} {locs1 : List Loc} (ht : t.heap = H1) (hB : cB L (cAA L I F G H.size) u t) (hS : va_S A s.heap H1 locs1) : CW L A s.heap u.1 u.2.1 u.2.2 H1 locs1 :=
  ⟨by rw [← ht]; exact hB.1, hB.2.2.weaken (fun _ _ _ h => cfree hw hA _ h), hS⟩
theorem c_calli {post : Int32 → MI → MF → MG → Prop} (hr : va_Run p l e R s m args below meth c H locs cells slots 0 0 (F0 m pc ls st0) rest (cQi L (cAA L I F G H.size) post (cAA L I F G H.size) a) (cAA L I F G H.size)) (hw : CW L A s.heap I F G H locs) (hA : ∀ q, s.heap.size ≤ q → A q)
    (kk : ∀ (r : Int32) (I1 : MI) (F1 : MF) (G1 : MG) (H1 : Heap) (locs1 : List Loc), post r I1 F1 G1 → CW L A s.heap I1 F1 G1 H1 locs1 → W p l e R s m args below meth c H1 locs1 cells slots Q (F0 m (pc + 3) ls (.int r :: rest))) : W p l e R s m args below meth c H locs cells slots Q (F0 m pc ls st0) :=
  va_calli hr hw.2.2 (fun q _ h => cfree hw hA q h) (cfree hw hA) (fun r u t H1 locs1 ht _ hp hB _ _ hS => kk r u.1 u.2.1 u.2.2 H1 locs1 hp (c_back hw hA ht hB hS))
theorem c_calld {post : UInt64 → MI → MF → MG → Prop} (hr : va_Run p l e R s m args below meth c H locs cells slots 0 0 (F0 m pc ls st0) rest (cQd L (cAA L I F G H.size) post (cAA L I F G H.size) a) (cAA L I F G H.size)) (hw : CW L A s.heap I F G H locs) (hA : ∀ q, s.heap.size ≤ q → A q)
    (kk : ∀ (r : UInt64) (I1 : MI) (F1 : MF) (G1 : MG) (H1 : Heap) (locs1 : List Loc), post r I1 F1 G1 → CW L A s.heap I1 F1 G1 H1 locs1 → W p l e R s m args below meth c H1 locs1 cells slots Q (F0 m (pc + 3) ls (.double r :: rest))) : W p l e R s m args below meth c H locs cells slots Q (F0 m pc ls st0) :=
  va_calld hr hw.2.2 (fun q _ h => cfree hw hA q h) (cfree hw hA) (fun r u t H1 locs1 ht _ hp hB _ _ hS => kk r u.1 u.2.1 u.2.2 H1 locs1 hp (c_back hw hA ht hB hS))
theorem c_callv {post : MI → MF → MG → Prop} (hr : va_Run p l e R s m args below meth c H locs cells slots 0 0 (F0 m pc ls st0) rest (cQv L (cAA L I F G H.size) post (cAA L I F G H.size) a) (cAA L I F G H.size)) (hw : CW L A s.heap I F G H locs) (hA : ∀ q, s.heap.size ≤ q → A q)
    (kk : ∀ (I1 : MI) (F1 : MF) (G1 : MG) (H1 : Heap) (locs1 : List Loc), post I1 F1 G1 → CW L A s.heap I1 F1 G1 H1 locs1 → W p l e R s m args below meth c H1 locs1 cells slots Q (F0 m (pc + 3) ls rest)) : W p l e R s m args below meth c H locs cells slots Q (F0 m pc ls st0) :=
  va_callv hr hw.2.2 (fun q _ h => cfree hw hA q h) (cfree hw hA) (fun u t H1 locs1 ht _ hp hB _ _ hS => kk u.1 u.2.1 u.2.2 H1 locs1 hp (c_back hw hA ht hB hS))
end WCC
