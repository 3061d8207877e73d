/-! worlds side by side, methods with a table of handlers -/
section FRW
variable {D : va_G} {cl : List vw_C} {A : Nat → Prop} {w1 w2 wc wr : va_W} {H H1 : Heap}
theorem fr_left (h : va_P D cl (w1 ++ w2) H) : va_P D cl w1 H := fun k q hk => h k q (by rw [List.getElem?_append_left (List.getElem?_eq_some_iff.mp hk).1]; exact hk)
theorem fr_right (h : va_P D cl (w1 ++ w2) H) : va_P D cl w2 H := fun k q hk => h (w1.length + k) q (by rw [List.getElem?_append_right (by omega)]; rw [show w1.length + k - w1.length = k by omega]; exact hk)
theorem fr_swap (h : va_P D cl (w1 ++ w2) H) : va_P D cl (w2 ++ w1) H := va_P.app (fr_right h) (fr_left h)
theorem fd_left (h : va_D A (w1 ++ w2)) : va_D A w1 := by
  have key : ∀ (k : Nat) (q : Nat × va_E), w1[k]? = some q → (w1 ++ w2)[k]? = some q := fun k q hk => by rw [List.getElem?_append_left (List.getElem?_eq_some_iff.mp hk).1]; exact hk
  exact ⟨fun i j p q hi hj e => h.1 i j p q (key i p hi) (key j q hj) e, fun k q hk => h.2 k q (key k q hk)⟩
theorem fd_right (h : va_D A (w1 ++ w2)) : va_D A w2 := by
  have key : ∀ (k : Nat) (q : Nat × va_E), w2[k]? = some q → (w1 ++ w2)[w1.length + k]? = some q := fun k q hk => by rw [List.getElem?_append_right (by omega)]; rw [show w1.length + k - w1.length = k by omega]; exact hk
  exact ⟨fun i j p q hi hj e => by have := h.1 _ _ p q (key i p hi) (key j q hj) e; omega, fun k q hk => h.2 _ q (key k q hk)⟩
theorem fd_apart (h : va_D A (w1 ++ w2)) : ∀ (i j : Nat) (p q : Nat × va_E), w1[i]? = some p → w2[j]? = some q → p.1 ≠ q.1 := by
  intro i j p q hi hj e
  have hl := (List.getElem?_eq_some_iff.mp hi).1
  have h1 : (w1 ++ w2)[i]? = some p := by rw [List.getElem?_append_left hl]; exact hi
  have h2 : (w1 ++ w2)[w1.length + j]? = some q := by rw [List.getElem?_append_right (by omega)]; rw [show w1.length + j - w1.length = j by omega]; exact hj
  have := h.1 _ _ p q h1 h2 e
  omega
theorem fd_swap (h : va_D A (w1 ++ w2)) : va_D A (w2 ++ w1) := va_D.app (fd_right h) (fd_left h) (fun i j p q hp hq e => fd_apart h j i q p hq hp e.symm)
/-- behind a call over wc: the rest is as it was -/
theorem fr_join (hP : va_P D cl (wc ++ wr) H) (hD : va_D A (wc ++ wr)) (hk : ∀ q : Nat, q < H.size → ¬ va_A wc H.size q → H1[q]? = H[q]?) (hF : ∀ q, va_A wc H.size q → A q) (hP1 : va_P D cl w1 H1) (hD1 : va_D (va_A wc H.size) w1) : va_P D cl (w1 ++ wr) H1 ∧ va_D A (w1 ++ wr) := by
  have apart : ∀ (k : Nat) (q : Nat × va_E), wr[k]? = some q → q.1 < H.size ∧ ¬ va_A wc H.size q.1 := by
    intro k q hq
    have hl := (fr_right hP k q hq).lt
    refine ⟨hl, fun h => ?_⟩
    rcases h with ⟨i, e, h⟩ | h
    · exact fd_apart hD i k (q.1, e) q h hq rfl
    · omega
  refine ⟨va_P.app hP1 ((fr_right hP).kept (fun k q hq => hk q.1 (apart k q hq).1 (apart k q hq).2)), va_D.app (hD1.weaken (fun k q _ h => hF q.1 h)) (fd_right hD) (fun i j x y hx hy e => ?_)⟩
  exact (apart j y hy).2 (by rw [← e]; exact hD1.2 i x hx)
theorem fr_free {H0 : Heap} {locs : List Loc} (hD : va_D A (wc ++ wr)) (hS : va_S A H0 H locs) (hA : ∀ q, H0.size ≤ q → A q) : ∀ q, va_A wc H.size q → A q := fun q h => by
  rcases h with ⟨k, e, h⟩ | h
  · exact (fd_left hD).2 k _ h
  · exact hA q (Nat.le_trans hS.1 h)
end FRW
/-! the rows of a table of handlers, by their numbers -/
def fx_fits (pl : Platform) (s0 : State) (d : ClassId) (pc : Nat) (k : ClassId) : List (Nat × Nat × Nat × Nat) → Nat → Prop
  | [], _ => False
  | x :: r, h => ((decide (x.1 ≤ pc) && decide (pc < x.2.1)) = false ∧ fx_fits pl s0 d pc k r h) ∨ ((decide (x.1 ≤ pc) && decide (pc < x.2.1)) = true ∧ x.2.2.2 ≠ 0 ∧ ∃ cc, s0.vm.ClassLinks pl d x.2.2.2 cc ∧ ((s0.vm.assignable k cc = true ∧ x.2.2.1 = h) ∨ (s0.vm.assignable k cc = false ∧ fx_fits pl s0 d pc k r h)))
theorem fx_of {pl : Platform} {s0 : State} {d k : ClassId} {pc h : Nat} : ∀ (L : List ExceptionTableEntry) (hs : List (Nat × Nat × Nat × Nat)), L.map (fun x => (x.startPc, x.endPc, x.handlerPc, x.catchType)) = hs → fx_fits pl s0 d pc k hs h → tx_fits pl s0 d pc k L h
  | [], hs, e, hf => by subst e; exact hf
  | x :: r, hs, e, hf => by
    subst e
    rcases hf with ⟨h1, h2⟩ | ⟨h1, h2, cc, h3, h4⟩
    · exact Or.inl ⟨h1, fx_of r _ rfl h2⟩
    · refine Or.inr ⟨h1, h2, cc, h3, ?_⟩
      rcases h4 with h4 | ⟨h4, h5⟩
      · exact Or.inl h4
      · exact Or.inr ⟨h4, fx_of r _ rfl h5⟩
theorem fx_yes {pl : Platform} (hpl : pl.magicAccessors = ({} : Platform).magicAccessors) {s : State} {args : Array Value} {own nm E : String} {m : MethodId} {pc a b h ct : Nat} {k : ClassId} {r : List (Nat × Nat × Nat × Nat)} (hown : s.vm.findClass own = some m.cls) (hl : (Cond.classLink own ct nm).before args s = true) (hc : va_Nw (.castable E nm) s) (hE : s.vm.findClass E = some k) (h1 : (decide (a ≤ pc) && decide (pc < b)) = true) (h0 : ct ≠ 0) :
    fx_fits pl s m.cls pc k ((a, b, h, ct) :: r) h := by
  obtain ⟨cc, hcc, hl2⟩ := Cond.classLink_spec hown hl pl hpl
  obtain ⟨c3, c4, q1, q2, q3⟩ := Cond.castable_spec (va_Nw.use (A := args) rfl hc)
  cases Option.some.inj (q1.symm.trans hE)
  cases Option.some.inj (q2.symm.trans hcc)
  exact Or.inr ⟨h1, h0, _, hl2, Or.inl ⟨q3, rfl⟩⟩
theorem fx_no {pl : Platform} (hpl : pl.magicAccessors = ({} : Platform).magicAccessors) {s : State} {args : Array Value} {own nm E : String} {m : MethodId} {pc a b h h2 ct : Nat} {k : ClassId} {r : List (Nat × Nat × Nat × Nat)} (hown : s.vm.findClass own = some m.cls) (hl : (Cond.classLink own ct nm).before args s = true) (hc : va_Nc E nm s) (hE : s.vm.findClass E = some k) (h1 : (decide (a ≤ pc) && decide (pc < b)) = true) (h0 : ct ≠ 0) (hr : fx_fits pl s m.cls pc k r h) :
    fx_fits pl s m.cls pc k ((a, b, h2, ct) :: r) h := by
  obtain ⟨cc, hcc, hl2⟩ := Cond.classLink_spec hown hl pl hpl
  obtain ⟨c3, c4, q1, q2, q3⟩ := hc
  cases Option.some.inj (q1.symm.trans hE)
  cases Option.some.inj (q2.symm.trans hcc)
  exact Or.inr ⟨h1, h0, _, hl2, Or.inr ⟨q3, hr⟩⟩
/-- a body's table, out of its word -/
theorem fx_table {p : Program} {l : Launch} {e : Env} {s s₁ : State} {m : MethodId} {args : Array Value} {below : List Frame} {meth : Method} {c : Code} {y : MethodName} {ws : List Cond} {rm : Room} {cc : ByteArray} {maxL : Nat} {ret : Option FieldType} {hh : List (Nat × Nat × Nat × Nat)}
    (B : BodyLoose p l y (headSpec ws rm) cc maxL ret e s m args below meth c s₁) (hw : Cond.codeWith y cc maxL ret hh ∈ ws) : c.exceptionTable.toList.map (fun x => (x.startPc, x.endPc, x.handlerPc, x.catchType)) = hh := by
  obtain ⟨m9, meth9, c9, h0, h1, h2, -, -, h5, -, -, -⟩ := Cond.codeWith_spec (atoms_spec (ws := ws) B.pre _ hw)
  cases Option.some.inj (h0.symm.trans B.named)
  cases Option.some.inj (h1.symm.trans B.method)
  cases Option.some.inj (h2.symm.trans (Stand.of_body B).code)
  exact h5
/-! a static call of such a method -/
section FXS
variable {p : Program} {l : Launch} {e : Env} {R : Room} {s : State} {m : MethodId} {args : Array Value} {below : List Frame} {meth : Method} {c : Code} {T : State} {H : Heap} {locs : List Loc} {cells slots : Nat}
def fx_cw (R : Room) (s : State) (args : Array Value) (own : String) (index : Nat) (y : MethodName) (bytes : ByteArray) (maxL : Nat) (ret : Option FieldType) (hh : List (Nat × Nat × Nat × Nat)) (ws : List Cond) (rm : Room) (n : Nat) : Prop :=
  rm.frames + 1 ≤ R.frames ∧ 8 + (maxL + 11) + rm.locals ≤ R.locals ∧ (∀ w ∈ ws, ∀ (a' : Array Value) (U : State), s.WarmedH U.vm → w.before a' U = true) ∧ Cond.codeWith y bytes maxL ret hh ∈ ws ∧ (Cond.initialized y.cls).before args s = true ∧ (y.cls ≠ "java/lang/invoke/MethodHandle" ∧ y.cls ≠ "java/lang/invoke/VarHandle") ∧ (∀ sig, parseMethodDescriptor y.desc = some sig → n = sig.parameters.length) ∧ (Cond.methodLink own index y).before args s = true ∧ (Cond.static y).before args s = true
theorem fx_cwOf {own : String} {index maxL : Nat} {y : MethodName} {bytes : ByteArray} {ret : Option FieldType} {hh : List (Nat × Nat × Nat × Nat)} {Ts ws' : List Cond} {rm : Room} (n : Nat) (ht : ∀ w ∈ Ts, w.before args s = true) (hT : GoodIn Ts (va_wsS own index y (Cond.codeWith y bytes maxL ret hh :: ws')))
    (hd : y.cls ≠ "java/lang/invoke/MethodHandle" ∧ y.cls ≠ "java/lang/invoke/VarHandle" ∧ (parseMethodDescriptor y.desc).map (fun d => d.parameters.length) = some n) (hR : rm.frames + 1 ≤ R.frames ∧ 8 + (maxL + 11) + rm.locals ≤ R.locals) :
    fx_cw R s args own index y bytes maxL ret hh (Cond.codeWith y bytes maxL ret hh :: ws') rm n := by
  have ok : ∀ w ∈ va_wsS own index y (Cond.codeWith y bytes maxL ret hh :: ws'), w.before args s = true := fun w h => ht w (hT w h).1
  refine ⟨hR.1, hR.2, pay_in ht (fun w h => hT w (by unfold va_wsS; exact List.mem_append_right _ h)), List.mem_cons_self, ok _ (by simp [va_wsS]), ⟨hd.1, hd.2.1⟩, fun sig h => ?_, ok _ (by simp [va_wsS]), ok _ (by simp [va_wsS])⟩
  have h2 := hd.2.2
  rw [h] at h2
  exact (Option.some.inj h2).symm
theorem fx_run {y : MethodName} {bytes cc : ByteArray} {maxL nL mc ms n index : Nat} {ret : Option FieldType} {hh : List (Nat × Nat × Nat × Nat)} {ws : List Cond} {rm : Room} {Pc : Array Value → State → Prop} {Qc : Array Value → State → Outcome → State → Prop} {free : Addr → Prop} {Ts : List Cond} {own : String} {As rest : List Value} {g : JFrame}
    (S : CallFix p m c cc nL s args Ts own) (hM : Met l y ws rm Pc Qc mc ms free) (hrc : rm.cells = mc) (hrs : rm.slots = ms) (cw : fx_cw R s args own index y bytes maxL ret hh ws rm n) (hp : PreS s H Pc As)
    (hg : g.method = m) (hn : As.length = n) (hsize : g.locals.size = nL) (hstack : g.stack = As.reverse ++ rest) (hW : 2 * g.monitorRoom + (rest.map fun v => v.category).sum ≤ 8) (hdg : decode cc g.pc = .ok (.invokestatic index, 3)) (hf : cells + mc ≤ R.cells ∧ slots + ms ≤ R.slots) :
    va_Run p l e R s m args below meth c H locs cells slots mc ms g rest (Qc As.toArray) free := by
  obtain ⟨hfr, hlo, hws, hcw, hini, hy, hlen, hlk, hstt⟩ := cw
  have hcode : (Cond.codeWith y bytes maxL ret hh).before args s = true := hws _ hcw args s (State.WarmedH.refl s)
  have hK : Back l R p e below s args y 3 8 (PreOf R mc ms Pc) (PostOf Qc mc ms free) := va_backW (hh := hh) (bytes := bytes) (maxL := maxL) (ret := ret) hM hp.1 hrc hrs hfr hlo hws hcw (fun a' U hW => word_at hW (Or.inl (by first | rfl | simp [Cond.onTables, Cond.keeps, Cond.steady])) hini)
  obtain ⟨hx, hb, hml, ho, -⟩ := S
  intro T hT X
  obtain ⟨mk, methM, cM, hnamed, hmethM, -, -, -, -, -, -, hsigM⟩ := Cond.codeWith_spec hcode
  have hstatic : methM.isStatic = true := Cond.static_spec hnamed hmethM hstt
  obtain ⟨kP, hkP, -⟩ := className_of_methodNamed hnamed
  have hinitP : kP.init = .initialized := Cond.initialized_spec (findClass_of_methodNamed hnamed) hkP hini
  obtain ⟨vm₁, X₁, hstep₁⟩ := X.invokestatic hx ho hlk hnamed hmethM hstatic hkP hinitP hy (g := g) hg (argsL := As) (rest := rest) (hn.trans (hlen _ hsigM)) hstack (by rw [hb]; exact hdg)
  obtain ⟨v, ⟨U', l2, c2, s2⟩, X', ⟨g', mk', t, L, e1, e2, hq, h1, hL, h2, h3⟩, hsteps⟩ := hK m meth c ⟨T.setVm vm₁, locs, cells, slots⟩ { g with stack := rest } (.invokestatic index) mk As.toArray X₁ hg (hsize.trans hml.symm) (by rw [hb]; exact hdg) hW (X₁.named hnamed) ⟨hf.1, hf.2, hp.2 (T.setVm vm₁) hT X₁.warmed⟩
  dsimp only [Pt.U, Pt.locs, Pt.cells, Pt.slots] at X' e1 e2 h1 h2 h3 hsteps
  subst h1; subst h2; subst h3
  exact ⟨v, (T.setVm vm₁).calling g' mk' As.toArray, t, U', L, hT, X', hL, e1, e2, hq, fun target h => hstep₁ _ fun acts => by rw [doInvoke_state]; exact hsteps.trans h⟩
end FXS
