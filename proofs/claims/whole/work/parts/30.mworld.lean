/-! The reference's memory: scalars I (thrown, gates, tracks), arrays F (kind, first, second, out, row, begin, next, track, drawing, least, known), G (time, arrival). -/
abbrev mTys (L : cL) : List (ClassId × FieldType) := [(L.2.1, .int), (L.2.2.1, .double), (L.2.2.2.1, .boolean)]
def WM (L : cL) (I : MI) (F : MF) (G : MG) : va_W :=
  [(cA L 0, .inr (5, [.int (I 0), .int (I 1), .int (I 2), .ref (cA L 1), .ref (cA L 2), .ref (cA L 3), .ref (cA L 4), .ref (cA L 5), .ref (cA L 6), .ref (cA L 7), .ref (cA L 8), .ref (cA L 9), .ref (cA L 10), .ref (cA L 11), .ref (cA L 12), .ref (cA L 13)])),
   (cA L 1, .inl (L.2.1, 12, .inl (F 0))), (cA L 2, .inl (L.2.1, 12, .inl (F 1))), (cA L 3, .inl (L.2.1, 12, .inl (F 2))), (cA L 4, .inl (L.2.1, 12, .inl (F 3))), (cA L 5, .inl (L.2.1, 12, .inl (F 4))), (cA L 6, .inl (L.2.1, 12, .inl (F 5))),
   (cA L 7, .inl (L.2.1, 2, .inl (F 6))), (cA L 8, .inl (L.2.2.1, 4, .inr (.inr (.inr (.inl (G 0)))))), (cA L 9, .inl (L.2.1, 12, .inl (F 7))), (cA L 10, .inl (L.2.1, 264, .inl (F 8))), (cA L 11, .inl (L.2.1, 528, .inl (F 9))),
   (cA L 12, .inl (L.2.2.1, 12, .inr (.inr (.inr (.inl (G 1)))))), (cA L 13, .inl (L.2.2.2.1, 12, .inl (F 10)))]
def MW (L : cL) (A : Nat → Prop) (H0 : Heap) (I : MI) (F : MF) (G : MG) (H : Heap) (locs : List Loc) : Prop := va_P L.1 vwCl (WM L I F G) H ∧ va_D A (WM L I F G) ∧ va_S A H0 H locs
section WMR
variable {p : Program} {l : Launch} {e : Env} {R : Room} {s : State} {m : MethodId} {args : Array Value} {below : List Frame} {meth : Method} {c : Code} {H : Heap} {locs : List Loc} {cells slots : Nat} {Q : State → Prop}
variable {cc : ByteArray} {pc : Nat} {ls : Array Slot} {rest : List Value} {A : Nat → Prop} {H0 : Heap} {L : cL} {I : MI} {F : MF} {G : MG}
theorem m_iast (hx : p.tables.exec = Jvm.exec) (hb : c.code = cc) (hK : va_K L.1 vwCl (mTys L) s) (hw : MW L A H0 I F G H locs) (k q0 : Nat) {n : Nat} (ha : (WM L I F G)[q0]? = some (cA L q0, .inl (L.2.1, n, .inl (F k)))) (hs : ∀ f : Nat → Int32, (WM L I F G).set q0 (cA L q0, .inl (L.2.1, n, .inl f)) = WM L I (setF F k f) G) {i v : Int32} (hin : vp_in i n) (hdg : decode cc pc = .ok (.iastore, 1))
    (kk : ∀ (H1 : Heap) (locs1 : List Loc), MW L A H0 I (setF F k (upd (F k) i.toNatClampNeg v)) G H1 locs1 → W p l e R s m args below meth c H1 locs1 cells slots Q (F0 m (pc + 1) ls rest)) : W p l e R s m args below meth c H locs cells slots Q (F0 m pc ls (.int v :: .int i :: .ref (cA L q0) :: rest)) := by
  refine va_iast hx hb hK hw.1 hw.2.1 hw.2.2 q0 0 ha rfl hin hdg (fun H1 locs1 h1 h2 h3 => kk H1 locs1 ?_)
  rw [hs] at h1 h2
  exact ⟨h1, h2, h3⟩
theorem m_zast (hx : p.tables.exec = Jvm.exec) (hb : c.code = cc) (hK : va_K L.1 vwCl (mTys L) s) (hw : MW L A H0 I F G H locs) (k q0 : Nat) {n : Nat} (ha : (WM L I F G)[q0]? = some (cA L q0, .inl (L.2.2.2.1, n, .inl (F k)))) (hs : ∀ f : Nat → Int32, (WM L I F G).set q0 (cA L q0, .inl (L.2.2.2.1, n, .inl f)) = WM L I (setF F k f) G) {i v y : Int32} (hin : vp_in i n) (hy : vp_nar .boolean v = y) (hdg : decode cc pc = .ok (.bastore, 1))
    (kk : ∀ (H1 : Heap) (locs1 : List Loc), MW L A H0 I (setF F k (upd (F k) i.toNatClampNeg y)) G H1 locs1 → W p l e R s m args below meth c H1 locs1 cells slots Q (F0 m (pc + 1) ls rest)) : W p l e R s m args below meth c H locs cells slots Q (F0 m pc ls (.int v :: .int i :: .ref (cA L q0) :: rest)) := by
  refine va_zast hx hb hK hw.1 hw.2.1 hw.2.2 q0 2 ha rfl hin hdg (fun H1 locs1 h1 h2 h3 => kk H1 locs1 ?_)
  rw [hs, hy] at h1 h2
  exact ⟨h1, h2, h3⟩
theorem m_dast (hx : p.tables.exec = Jvm.exec) (hb : c.code = cc) (hK : va_K L.1 vwCl (mTys L) s) (hw : MW L A H0 I F G H locs) (k q0 : Nat) {n : Nat} (ha : (WM L I F G)[q0]? = some (cA L q0, .inl (L.2.2.1, n, .inr (.inr (.inr (.inl (G k))))))) (hs : ∀ f : Nat → UInt64, (WM L I F G).set q0 (cA L q0, .inl (L.2.2.1, n, .inr (.inr (.inr (.inl f))))) = WM L I F (setG G k f)) {i : Int32} {v : UInt64} (hin : vp_in i n) (hdg : decode cc pc = .ok (.dastore, 1))
    (kk : ∀ (H1 : Heap) (locs1 : List Loc), MW L A H0 I F (setG G k (vf_upd (G k) i.toNatClampNeg v)) H1 locs1 → W p l e R s m args below meth c H1 locs1 cells slots Q (F0 m (pc + 1) ls rest)) : W p l e R s m args below meth c H locs cells slots Q (F0 m pc ls (.double v :: .int i :: .ref (cA L q0) :: rest)) := by
  refine va_dast hx hb hK hw.1 hw.2.1 hw.2.2 q0 1 ha rfl hin hdg (fun H1 locs1 h1 h2 h3 => kk H1 locs1 ?_)
  rw [hs] at h1 h2
  exact ⟨h1, h2, h3⟩
end WMR
/-- nothing more is needed of the tables -/
def mNk (_ : State) : Prop := True
def mPc (L : cL) (I : MI) (F : MF) (G : MG) (av : List Value) : Array Value → State → Prop := va_Pc av (fun U => va_P L.1 vwCl (WM L I F G) U.heap ∧ va_K L.1 vwCl (mTys L) U ∧ mNk U)
def mPm (L : cL) (I : MI) (F : MF) (G : MG) (sz : Nat) (av : List Value) : Array Value → State → Prop := va_Pc av (fun U => U.heap.size = sz ∧ va_P L.1 vwCl (WM L I F G) U.heap ∧ va_K L.1 vwCl (mTys L) U ∧ va_D (fun _ => True) (WM L I F G) ∧ mNk U)
def mB (L : cL) (A : Nat → Prop) (u : cM) (t : State) : Prop := va_P L.1 vwCl (WM L u.1 u.2.1 u.2.2) t.heap ∧ va_K L.1 vwCl (mTys L) t ∧ va_D A (WM L u.1 u.2.1 u.2.2)
abbrev mAA (L : cL) (I : MI) (F : MF) (G : MG) (sz : Nat) : Nat → Prop := va_A (WM L I F G) sz
abbrev mQi (L : cL) (A : Nat → Prop) (post : Int32 → MI → MF → MG → Prop) (A1 : Nat → Prop) := va_Qi (fun r (u : cM) => post r u.1 u.2.1 u.2.2) (mB L A) A1
abbrev mQd (L : cL) (A : Nat → Prop) (post : UInt64 → MI → MF → MG → Prop) (A1 : Nat → Prop) := va_Qd (fun r (u : cM) => post r u.1 u.2.1 u.2.2) (mB L A) A1
abbrev mQv (L : cL) (A : Nat → Prop) (post : MI → MF → MG → Prop) (A1 : Nat → Prop) := va_Qv (fun (u : cM) => post u.1 u.2.1 u.2.2) (mB L A) A1
theorem mPc_blind (L : cL) (I : MI) (F : MF) (G : MG) (av : List Value) : FrameBlind (mPc L I F G av) := fun a U g mk h => ⟨h.1, h.2.1, va_K.moved (u := U) (U := U.calling g mk a) (Vm.Alike.refl U.vm) h.2.2.1, trivial⟩
theorem mPm_blind (L : cL) (I : MI) (F : MF) (G : MG) (sz : Nat) (av : List Value) : FrameBlind (mPm L I F G sz av) := fun a U g mk h => ⟨h.1, h.2.1, h.2.2.1, va_K.moved (u := U) (U := U.calling g mk a) (Vm.Alike.refl U.vm) h.2.2.2.1, h.2.2.2.2.1, trivial⟩
section WMP
variable {s : State} {H : Heap} {locs : List Loc} {A : Nat → Prop} {L : cL} {I : MI} {F : MF} {G : MG} {As : List Value}
theorem mPre (hK : va_K L.1 vwCl (mTys L) s) (hN : mNk s) (hP : va_P L.1 vwCl (WM L I F G) H) : PreV s H qR5 (cA L 0) (mPc L I F G (.ref (cA L 0) :: As)) As :=
  ⟨mPc_blind _ _ _ _ _, va_recv hK hP (ci := 5) (q0 := 0) rfl rfl, fun U hU hW => ⟨rfl, by rw [hU]; exact hP, va_K.moved hW.alike hK, trivial⟩⟩
theorem mPrm (hK : va_K L.1 vwCl (mTys L) s) (hN : mNk s) (hw : MW L A s.heap I F G H locs) : PreV s H qR5 (cA L 0) (mPm L I F G H.size (.ref (cA L 0) :: As)) As :=
  ⟨mPm_blind _ _ _ _ _ _, va_recv hK hw.1 (ci := 5) (q0 := 0) rfl rfl, fun U hU hW => ⟨rfl, by rw [hU], by rw [hU]; exact hw.1, va_K.moved hW.alike hK, hw.2.1.weaken (fun _ _ _ _ => trivial), trivial⟩⟩
theorem mfree (hw : MW L A s.heap I F G H locs) (hA : ∀ q, s.heap.size ≤ q → A q) : ∀ q, mAA L I F G H.size q → A q := fun q h => by
  rcases h with ⟨k, e, h⟩ | h
  · exact hw.2.1.2 k _ h
  · exact hA q (Nat.le_trans hw.2.2.1 h)
end WMP
section WMC
variable {p : Program} {l : Launch} {e : Env} {R : Room} {s : State} {m : MethodId} {args : Array Value} {below : List Frame} {meth : Method} {c : Code} {H : Heap} {locs : List Loc} {cells slots : Nat} {Q : State → Prop}
variable {cc : ByteArray} {pc : Nat} {ls : Array Slot} {rest st0 : List Value} {A : Nat → Prop} {L : cL} {I : MI} {F : MF} {G : MG} {a : Array Value}
theorem m_back (hw : MW L A s.heap I F G H locs) (hA : ∀ q, s.heap.size ≤ q → A q) {u : cM} {t : State} {H1 : Heap} {locs1 : List Loc} (ht : t.heap = H1) (hB : mB L (mAA L I F G H.size) u t) (hS : va_S A s.heap H1 locs1) : MW L A s.heap u.1 u.2.1 u.2.2 H1 locs1 :=
  ⟨by rw [← ht]; exact hB.1, hB.2.2.weaken (fun _ _ _ h => mfree hw hA _ h), hS⟩
theorem m_calli {post : Int32 → MI → MF → MG → Prop} (hr : va_Run p l e R s m args below meth c H locs cells slots 0 0 (F0 m pc ls st0) rest (mQi L (mAA L I F G H.size) post (mAA L I F G H.size) a) (mAA L I F G H.size)) (hw : MW L A s.heap I F G H locs) (hA : ∀ q, s.heap.size ≤ q → A q)
    (kk : ∀ (r : Int32) (I1 : MI) (F1 : MF) (G1 : MG) (H1 : Heap) (locs1 : List Loc), post r I1 F1 G1 → MW L A s.heap I1 F1 G1 H1 locs1 → W p l e R s m args below meth c H1 locs1 cells slots Q (F0 m (pc + 3) ls (.int r :: rest))) : W p l e R s m args below meth c H locs cells slots Q (F0 m pc ls st0) :=
  va_calli hr hw.2.2 (fun q _ h => mfree hw hA q h) (mfree hw hA) (fun r u t H1 locs1 ht _ hp hB _ _ hS => kk r u.1 u.2.1 u.2.2 H1 locs1 hp (m_back hw hA ht hB hS))
theorem m_calld {post : UInt64 → MI → MF → MG → Prop} (hr : va_Run p l e R s m args below meth c H locs cells slots 0 0 (F0 m pc ls st0) rest (mQd L (mAA L I F G H.size) post (mAA L I F G H.size) a) (mAA L I F G H.size)) (hw : MW L A s.heap I F G H locs) (hA : ∀ q, s.heap.size ≤ q → A q)
    (kk : ∀ (r : UInt64) (I1 : MI) (F1 : MF) (G1 : MG) (H1 : Heap) (locs1 : List Loc), post r I1 F1 G1 → MW L A s.heap I1 F1 G1 H1 locs1 → W p l e R s m args below meth c H1 locs1 cells slots Q (F0 m (pc + 3) ls (.double r :: rest))) : W p l e R s m args below meth c H locs cells slots Q (F0 m pc ls st0) :=
  va_calld hr hw.2.2 (fun q _ h => mfree hw hA q h) (mfree hw hA) (fun r u t H1 locs1 ht _ hp hB _ _ hS => kk r u.1 u.2.1 u.2.2 H1 locs1 hp (m_back hw hA ht hB hS))
theorem m_callv {post : MI → MF → MG → Prop} (hr : va_Run p l e R s m args below meth c H locs cells slots 0 0 (F0 m pc ls st0) rest (mQv L (mAA L I F G H.size) post (mAA L I F G H.size) a) (mAA L I F G H.size)) (hw : MW L A s.heap I F G H locs) (hA : ∀ q, s.heap.size ≤ q → A q)
    (kk : ∀ (I1 : MI) (F1 : MF) (G1 : MG) (H1 : Heap) (locs1 : List Loc), post I1 F1 G1 → MW L A s.heap I1 F1 G1 H1 locs1 → W p l e R s m args below meth c H1 locs1 cells slots Q (F0 m (pc + 3) ls (rest))) : W p l e R s m args below meth c H locs cells slots Q (F0 m pc ls st0) :=
  va_callv hr hw.2.2 (fun q _ h => mfree hw hA q h) (mfree hw hA) (fun u t H1 locs1 ht _ hp hB _ _ hS => kk u.1 u.2.1 u.2.2 H1 locs1 hp (m_back hw hA ht hB hS))
end WMC
