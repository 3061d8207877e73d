/-! Rows over calls with two ends; leaving by a throw; catching. -/
section TXB
variable {p : Program} {l : Launch} {e : Env} {R : Room} {s : State} {m : MethodId} {args : Array Value} {below : List Frame} {meth : Method} {c : Code} {H : Heap} {locs : List Loc} {cells slots : Nat} {Q : State → Prop}
variable {mc ms : Nat} {free : Addr → Prop} {A0 A1 : Nat → Prop} {H0 : Heap} {a : Array Value} {pc : Nat} {ls : Array Slot} {st0 rest : List Value}
/-- what a may-throw method's returns say: the value, the world behind it -/
def tx_R {S : Type} (post : Option Value → S → Prop) (B : S → State → Prop) (A : Nat → Prop) : Array Value → State → Outcome → State → Prop := fun _ st oc t =>
  (∃ (v : Option Value) (u : S), oc = .returned v ∧ post v u ∧ B u t) ∧ va_F A st t
/-- .. and what its throws say -/
def tx_X {S : Type} (px : String → S → Prop) (B : S → State → Prop) (A : Nat → Prop) : String → State → State → Prop := fun E st t => (∃ u : S, px E u ∧ B u t) ∧ va_F A st t
theorem tx_keep {st t T' : State} {L : List Loc} (h0 : st.heap = H) (e1 : T'.heap = t.heap) (hS : va_S A0 H0 H locs) (hA : ∀ q, q < H.size → A1 q → A0 q) (hf : ∀ q, free q → A0 q) (hL : ∀ q ∈ L, free q.base) (hF : va_F A1 st t) :
    H.size ≤ T'.heap.size ∧ (∀ q : Nat, q < H.size → ¬ A1 q → T'.heap[q]? = H[q]?) ∧ va_S A0 H0 T'.heap (locs ++ L) := by
  obtain ⟨hz, hk⟩ := hF
  rw [h0] at hz hk
  rw [e1]
  refine ⟨hz, hk, Nat.le_trans hS.1 hz, fun q h1 h2 => ?_, fun q hq => ?_⟩
  · rw [hk q (Nat.lt_of_lt_of_le h1 hS.1) (fun z => h2 (hA q (Nat.lt_of_lt_of_le h1 hS.1) z))]
    exact hS.2.1 q h1 h2
  · rcases List.mem_append.mp hq with h | h
    · exact hS.2.2 q h
    · exact hf _ (hL q h)
theorem tx_call {S : Type} {post : Option Value → S → Prop} {px : String → S → Prop} {B : S → State → Prop}
    (hr : tx_Run p l e R s m args below meth c H locs cells slots mc ms (F0 m pc ls st0) rest (tx_R post B A1 a) (tx_X px B A1) free) (hS : va_S A0 H0 H locs) (hA : ∀ q, q < H.size → A1 q → A0 q) (hf : ∀ q, free q → A0 q)
    (kk : ∀ (v : Option Value) (u : S) (t : State) (H1 : Heap) (locs1 : List Loc), t.heap = H1 → s.vm.Alike t.vm → post v u → B u t → H.size ≤ H1.size → (∀ q : Nat, q < H.size → ¬ A1 q → H1[q]? = H[q]?) → va_S A0 H0 H1 locs1 →
      W p l e R s m args below meth c H1 locs1 (cells + mc) (slots + ms) Q (F0 m (pc + 3) ls (v.toList ++ rest)))
    (kx : ∀ (q : Addr) (E : String) (ce : Cell) (u : S) (t : State) (H1 : Heap) (locs1 : List Loc), t.heap = H1 → s.vm.Alike t.vm → px E u → B u t → H.size ≤ H1.size → (∀ q : Nat, q < H.size → ¬ A1 q → H1[q]? = H[q]?) → va_S A0 H0 H1 locs1 →
      H1[q]? = some ce → ce.vm = .none → s.vm.findClass E = some ce.cls → tx_W p l e R s m args below meth c H1 locs1 (cells + mc) (slots + ms) Q (F0 m pc ls rest) q) :
    W p l e R s m args below meth c H locs cells slots Q (F0 m pc ls st0) := by
  intro T hT X
  rcases hr T hT X with ⟨v, st, t, T', L, h0, X', hL, e1, e2, ⟨⟨v', u, hv, hp, hB⟩, hF⟩, st1⟩ | ⟨q, E, ce, st, t, T', L, h0, X', hL, e1, e2, ⟨⟨u, hp, hB⟩, hF⟩, hce, hv, hcl, st1⟩
  · cases hv
    obtain ⟨k1, k2, k3⟩ := tx_keep h0 e1 hS hA hf hL hF
    have hal : s.vm.Alike t.vm := by rw [← e2]; exact X'.warmed.alike
    obtain ⟨z, a1, b1⟩ := kk v u t T'.heap (locs ++ L) e1.symm hal hp hB k1 k2 k3 T' rfl X'
    exact ⟨z, st1 _ a1, b1⟩
  · obtain ⟨k1, k2, k3⟩ := tx_keep h0 e1 hS hA hf hL hF
    have hal : s.vm.Alike t.vm := by rw [← e2]; exact X'.warmed.alike
    obtain ⟨z, a1, b1⟩ := kx q E ce u t T'.heap (locs ++ L) e1.symm hal hp hB k1 k2 k3 (by rw [e1]; exact hce) hv hcl T' rfl X'
    exact ⟨z, st1 _ a1, b1⟩
section Ends
variable {Qc : Array Value → State → Outcome → State → Prop} {Xc : String → State → State → Prop}
/-- a return in a body that may throw -/
theorem tx_ret {g : JFrame} (k : W p l e R s m args below meth c H locs cells slots (MQ below Qc args s mc ms free) g) : W p l e R s m args below meth c H locs cells slots (tx_MQ below Qc Xc args s mc ms free) g := by
  intro T hT X
  obtain ⟨t, a1, o, b1, b2, b3⟩ := k T hT X
  exact ⟨t, a1, o, b1, b2, Or.inl b3⟩
theorem tx_wider {g : JFrame} {q : Addr} {k n : Nat} (h1 : cells ≤ k) (h2 : slots ≤ n) (kk : tx_W p l e R s m args below meth c H locs k n Q g q) : tx_W p l e R s m args below meth c H locs cells slots Q g q :=
  fun T hT X => kk T hT (stand_widen X h1 h2)
/-- nothing in this method catches: the throw goes on to the caller -/
theorem tx_out {E : String} {ce : Cell} {q : Addr} (hnt : ∀ x ∈ c.exceptionTable.toList, False) (hlocks : meth.locks = false) (hcell : H[q]? = some ce) (hv : ce.vm = .none) (hcl : s.vm.findClass E = some ce.cls)
    (hx : ∀ t : State, t.heap = H → s.WarmedH t.vm → Xc E s t) (hf : ∀ z ∈ locs, free z.base) :
    tx_W p l e R s m args below meth c H locs mc ms (tx_MQ below Qc Xc args s mc ms free) (F0 m pc ls rest) q := by
  intro T hT X
  obtain ⟨st, hrun, hend, hW, hsame⟩ := X.leaveThrown q (g := F0 m pc ls rest) rfl rfl rfl (fun x hx => absurd (hnt x hx) id) hlocks
  refine ⟨_, st, .threw q, hrun, hend, Or.inr ⟨q, rfl, E, ce, locs, hx _ hT hW, ?_, hv, hcl, hW, hsame, hf⟩⟩
  show T.heap[q]? = some ce
  rw [hT]; exact hcell
end Ends
/-- the body of a may-throw method without a table of its own gives its contract -/
theorem tx_ofW {y : MethodName} {ws ws' : List Cond} {rm : Room} {Pc : Array Value → State → Prop} {Qc : Array Value → State → Outcome → State → Prop} {Xc : String → State → State → Prop} {cc : ByteArray} {maxL : Nat} {ret : Option FieldType}
    (hy : plainName y.cls = true) (hw : ws = Cond.code y cc maxL ret :: ws')
    (body : ∀ p e s m args below meth c s₁, BodyLoose p l y (headSpec ws rm) cc maxL ret e s m args below meth c s₁ → c.maxLocals = maxL → (∀ x ∈ c.exceptionTable.toList, False) → Pc args s →
      W p l e (headSpec ws rm).room s m args below meth c s.heap [] 0 0 (tx_MQ below Qc Xc args s mc ms free) (entryFrame m args maxL)) : tx_Met l y ws rm Pc Qc Xc mc ms free := by
  have hcw : Cond.code y cc maxL ret ∈ ws := by rw [hw]; exact List.mem_cons_self
  refine MetFree.of_bodyS (code := cc) (maxLocals := maxL) (ret := ret) hy (fun args s m h hn => ?_) (fun p e s m args below meth c s₁ B hml hP _ => ?_)
  · obtain ⟨meth, c, h1, h2, h3, h4, h5, h6, -, -⟩ := Cond.code_spec hn (atoms_spec (ws := ws) h _ hcw)
    exact ⟨meth, c, h1, h2, h3, h4, h5, h6⟩
  · have hh0 : s₁.heap = s.heap := by rw [B.state]; rfl
    have ht : ∀ x ∈ c.exceptionTable.toList, False := by
      obtain ⟨meth9, c9, h1, h2, -, -, -, -, h7, -⟩ := Cond.code_spec B.named (atoms_spec (ws := ws) B.pre _ hcw)
      cases Option.some.inj (h1.symm.trans B.method)
      cases Option.some.inj (h2.symm.trans (Stand.of_body B).code)
      intro x hx
      rw [Array.isEmpty_iff.mp h7] at hx
      cases hx
    obtain ⟨t, a1, o, b1, b2, b3⟩ := body p e s m args below meth c s₁ B hml ht hP s₁ hh0 (Stand.of_body B)
    exact ⟨t, o, a1, b1, b2, b3⟩
/-! a handler is found -/
/-- the first entry that covers pc and takes the class k is at h; those ahead that cover it name other classes -/
def tx_fits (pl : Platform) (s0 : State) (d : ClassId) (pc : Nat) (k : ClassId) : List ExceptionTableEntry → Nat → Prop
  | [], _ => False
  | x :: r, h => (covers x pc = false ∧ tx_fits pl s0 d pc k r h) ∨ (covers x pc = true ∧ x.catchType ≠ 0 ∧ ∃ cc, s0.vm.ClassLinks pl d x.catchType cc ∧ ((s0.vm.assignable k cc = true ∧ x.handlerPc = h) ∨ (s0.vm.assignable k cc = false ∧ tx_fits pl s0 d pc k r h)))
theorem tx_go {s0 : State} {f : JFrame} {q : Addr} {ce : Cell} (hv : ce.vm = .none) {k0 : Class} (hk0 : s0.vm.classes[ce.cls]? = some k0) {h : Nat} :
    ∀ (L : List ExceptionTableEntry) (S : State), s0.WarmedH S.vm → S.heap[q]? = some ce → tx_fits e.platform s0 f.method.cls f.pc ce.cls L h →
      ∃ vm', s0.WarmedH vm' ∧ ∀ (Q : Handler → Pre) (E : CtlPost) (d : Bool) (acts : List Action), wp (findHandler.go f q L) Q E e d acts S ↔ Q (.found h) d acts (S.setVm vm') := by
  intro L
  induction L with
  | nil => intro S _ _ hf; exact absurd hf id
  | cons x r ih =>
    intro S hW hce hf
    rcases hf with ⟨hx, hr⟩ | ⟨hx, h0, cc, hl, hcase⟩
    · obtain ⟨vm', hW', hq⟩ := ih S hW hce hr
      exact ⟨vm', hW', fun Q E d acts => (W.findHandler_go_skip hx).trans (hq Q E d acts)⟩
    · obtain ⟨dk, _, _, kt, hd, _, _, _, _, hkt, _, hopen⟩ := hl.here
      have hl' := hW.classLinks hl
      have hWn : s0.WarmedH (S.vm.noted f.method.cls x.catchType (.cls cc)) := hW.noted hd hopen (State.rightAt_cls hl)
      obtain ⟨ha, ht⟩ := (resolveClass_links e.toSetting hl').op (op := VmOp.resolveClass f.method.cls x.catchType) rfl
      obtain ⟨k1, hk1, -⟩ := hWn.alike.2.2 _ _ hk0
      obtain ⟨k2, hk2, -⟩ := hWn.alike.2.2 _ _ hkt
      have hobj : ∀ z, ce.vm ≠ .statics z := fun z hz => by rw [hv] at hz; cases hz
      have hcov : (decide (x.startPc ≤ f.pc) && decide (f.pc < x.endPc)) = true := hx
      rcases hcase with ⟨hfit, hh⟩ | ⟨hno, hr⟩
      · have hfit' : (S.vm.noted f.method.cls x.catchType (.cls cc)).assignable ce.cls cc = true := by rw [hWn.alike.assignable]; exact hfit
        refine ⟨_, hWn, fun Q E d acts => ?_⟩
        rw [← hh]
        simp [findHandler.go, hcov, h0, ha, ht, hce, hobj, hk1, hk2, hfit', VmOp.dirties, VmOp.acts]
      · have hno' : (S.vm.noted f.method.cls x.catchType (.cls cc)).assignable ce.cls cc = false := by rw [hWn.alike.assignable]; exact hno
        obtain ⟨vm', hW', hq⟩ := ih (S.setVm (S.vm.noted f.method.cls x.catchType (.cls cc))) hWn hce hr
        refine ⟨vm', hW', fun Q E d acts => ?_⟩
        refine Iff.trans ?_ (hq Q E d acts)
        simp [findHandler.go, hcov, h0, ha, ht, hce, hobj, hk1, hk2, hno', VmOp.dirties, VmOp.acts]
theorem tx_frames2 (u : State) (vm' : Vm) (F G : List Frame) : ((u.setFrames F).setVm vm').setFrames G = (u.setVm vm').setFrames G := by
  show (((u.setVm vm').setFrames F)).setFrames G = _
  rw [State.setFrames_setFrames]
/-- caught in this method: it goes on at the handler, the exception alone on the stack -/
theorem tx_catch {E : String} {ce : Cell} {q : Addr} {h : Nat} (hcell : H[q]? = some ce) (hv : ce.vm = .none) (hcl : s.vm.findClass E = some ce.cls)
    (hfit : e.platform.magicAccessors = ({} : Platform).magicAccessors → tx_fits e.platform s m.cls pc ce.cls c.exceptionTable.toList h)
    (kk : W p l e R s m args below meth c H locs cells slots Q (F0 m h ls [.ref q])) : tx_W p l e R s m args below meth c H locs cells slots Q (F0 m pc ls rest) q := by
  intro T hT X
  have hpl : e.platform.magicAccessors = ({} : Platform).magicAccessors := by rw [X.admits.platform]
  obtain ⟨k0, hk0, -⟩ := Vm.findClass_spec hcl
  have hg0 : (F0 m pc ls rest).method = m := rfl
  obtain ⟨vm', hW', hq⟩ := tx_go (e := e) (s0 := s) (f := F0 m pc ls rest) (q := q) hv hk0 c.exceptionTable.toList ((T.setTop (F0 m pc ls rest)).pushFrame (.throwing q)) X.warmed (by rw [throwing_heap, hT]; exact hcell) (hfit hpl)
  obtain ⟨t, a1, b1⟩ := kk (T.setVm vm') hT (X.noted hW')
  refine ⟨t, ?_, b1⟩
  have hAt : At T (F0 m pc ls rest).method c below := X.here
  obtain ⟨hgo, hw⟩ := hAt.throwing q
  refine Steps.head hgo hw ?_
  have hstep : (stepThrowing e ((T.setTop (F0 m pc ls rest)).pushFrame (.throwing q)) q (.java (F0 m pc ls rest) :: T.frames.tail)).Is ((((T.setTop (F0 m pc ls rest)).pushFrame (.throwing q)).setVm vm').setFrames (.java (F0 m h ls [.ref q]) :: T.frames.tail)) [] := by
    simp only [stepThrowing, searchFrame, vmDo]
    generalize hr : Sem.go _ e false [] ((T.setTop (F0 m pc ls rest)).pushFrame (.throwing q)) = res
    obtain ⟨as, rfl, ha⟩ := Sem.eq_ok_of hr (a := Handler.found h) (s' := ((T.setTop (F0 m pc ls rest)).pushFrame (.throwing q)).setVm vm') (acts' := []) (by
      have hm : ((T.setTop (F0 m pc ls rest)).pushFrame (.throwing q)).vm.method? (F0 m pc ls rest).method = some meth := by rw [throwing_vm]; exact X.method'
      simp [W.findHandler_eq hm X.code, hq _ _ _ _])
    exact ⟨rfl, ha⟩
  rw [stepThread_throwing (frames_entered hAt.top _), hstep.1]
  obtain ⟨g₀, hr⟩ := X.frames_eq
  have hr' : (T.setVm vm').frames = .java g₀ :: below := hr
  rw [State.setTop_of_frames _ hr'] at a1
  rw [hr, List.tail_cons, State.pushFrame, tx_frames2, State.setTop_of_frames _ hr, tx_frames2]
  exact a1
end TXB
