/-! throw new E("text") in the middle of a method -/
section TXC
/-- the words of a throw that look at the heap -/
def tx_four : List Cond := [.laysStatic Bundle.tN "UNASSIGNED_STACK" Bundle.steD, .laysStatic Bundle.tN "SUPPRESSED_SENTINEL" Bundle.listD, .isRef (.static Bundle.tN "UNASSIGNED_STACK" Bundle.steD), .isRef (.static Bundle.tN "SUPPRESSED_SENTINEL" Bundle.listD)]
/-- they hold in every state that has these tables, and this heap outside A -/
def tx_Z (A : Nat → Prop) (U : State) (H : Heap) : Prop := ∀ (V : State) (ar : Array Value), U.vm.Alike V.vm → (∀ q : Nat, q < H.size → ¬ A q → V.heap[q]? = H[q]?) → ∀ w ∈ tx_four, w.before ar V = true
theorem tx_Z.moved {A : Nat → Prop} {u U : State} {H : Heap} (hvm : u.vm.Alike U.vm) (h : tx_Z A u H) : tx_Z A U H := fun V ar hv hq => h V ar (hvm.trans hv) hq
theorem tx_Z.kept {A : Nat → Prop} {U : State} {H H1 : Heap} (h : tx_Z A U H) (hz : H.size ≤ H1.size) (hq : ∀ q : Nat, q < H.size → ¬ A q → H1[q]? = H[q]?) : tx_Z A U H1 :=
  fun V ar hv h1 => h V ar hv (fun q a b => (h1 q (Nat.lt_of_lt_of_le a hz) b).trans (hq q a b))
theorem tx_Z.narrow {A B : Nat → Prop} {U : State} {H : Heap} (h : tx_Z A U H) (hAB : ∀ q, q < H.size → B q → A q) : tx_Z B U H :=
  fun V ar hv h1 => h V ar hv (fun q a b => h1 q a (fun z => b (hAB q a z)))
theorem tx_lays {ar ar' : Array Value} {s V : State} {C n d : String} (h : (Cond.laysStatic C n d).before ar s = true) (hal : s.vm.Alike V.vm) (hk : ∀ q : Nat, q < s.heap.size → V.heap[q]? = s.heap[q]?) :
    (Cond.laysStatic C n d).before ar' V = true ∧ ((Cond.isRef (.static C n d)).before ar s = true → (Cond.isRef (.static C n d)).before ar' V = true) := by
  obtain ⟨c, k, i, f, a, cell, h1, h2, h3, h4, h5, h6, h7, h8, h9⟩ := Cond.laysStatic_spec h
  obtain ⟨k', hi', he⟩ := State.fieldFound?_setVm hal h2
  have hi2 : V.fieldFound? C n d = some (c, k', i, f) := hi'
  have h5' : V.heap[a]? = some cell := by rw [hk a (Array.getElem?_eq_some_iff.mp h5).1]; exact h5
  have h4' : k'.statics = some a := by rw [he]; exact h4
  refine ⟨?_, fun hr => ?_⟩
  · show (Cond.laysStatic C n d).holds ar' V none V [] = true
    exact Cond.laysStatic_of (by rw [hal.findClass]; exact h1) hi' h3 h4' h5' h6 h7 h8 (by rw [he]; exact h9)
  · have e1 : (Term.static C n d).eval ar s none [] s = cell.slots[f.slot]? := by simp [Term.eval, State.fieldNamed?, h2, h3, h4, h5, h6]
    have e2 : (Term.static C n d).eval ar' V none [] V = cell.slots[f.slot]? := by simp [Term.eval, State.fieldNamed?, hi2, h3, h4', h5', h6]
    simp only [Cond.before, Cond.holds, Cond.value, e1] at hr
    simp only [Cond.before, Cond.holds, Cond.value, e2]
    exact hr
theorem tx_Zof {ar : Array Value} {s : State} {A : Nat → Prop} (h : ∀ w ∈ tx_four, w.before ar s = true) (hA : ∀ q : Nat, q < s.heap.size → ¬ A q) : tx_Z A s s.heap := by
  intro V ar' hal hq w hw
  have hk : ∀ q : Nat, q < s.heap.size → V.heap[q]? = s.heap[q]? := fun q h1 => hq q h1 (hA q h1)
  have a1 := tx_lays (ar' := ar') (h _ (show Cond.laysStatic Bundle.tN "UNASSIGNED_STACK" Bundle.steD ∈ tx_four from List.mem_cons_self)) hal hk
  have a2 := tx_lays (ar' := ar') (h _ (show Cond.laysStatic Bundle.tN "SUPPRESSED_SENTINEL" Bundle.listD ∈ tx_four from List.mem_cons_of_mem _ List.mem_cons_self)) hal hk
  simp only [tx_four, List.mem_cons, List.not_mem_nil, or_false] at hw
  rcases hw with rfl | rfl | rfl | rfl
  · exact a1.1
  · exact a2.1
  · exact a1.2 (h _ (List.mem_cons_of_mem _ (List.mem_cons_of_mem _ List.mem_cons_self)))
  · exact a2.2 (h _ (List.mem_cons_of_mem _ (List.mem_cons_of_mem _ (List.mem_cons_of_mem _ List.mem_cons_self))))
/-- a list of words at another state of the same tables: each is one of the method's words and looks at tables alone, or is one of the four -/
theorem tx_atoms {Ts L : List Cond} {ar : Array Value} {s V : State} (hts : ∀ w ∈ Ts, w.before ar s = true) (hvm : s.vm = V.vm) (hz : ∀ w ∈ tx_four, w.before ar V = true)
    (hL : L.all (fun w => (decide (w ∈ Ts) && w.onTables) || decide (w ∈ tx_four)) = true) : ∀ w ∈ L, w.before ar V = true := by
  intro w hw
  have h := List.all_eq_true.mp hL w hw
  simp only [Bool.or_eq_true, Bool.and_eq_true, decide_eq_true_eq] at h
  rcases h with ⟨h1, h2⟩ | h1
  · exact va_tabs h2 hvm (hts w h1)
  · exact hz w h1
variable {p : Program} {l : Launch} {e : Env} {R : Room} {s : State} {m : MethodId} {args : Array Value} {below : List Frame} {meth : Method} {c : Code} {H : Heap} {locs : List Loc} {cells slots : Nat}
/-- the method as if it had been called just now, in this heap -/
theorem tx_anew {T : State} (X : Stand p l e R s m args below meth c T locs cells slots) {k n : Nat} (hc : cells + k ≤ R.cells) (hs : slots + n ≤ R.slots) :
    Stand p l e { frames := R.frames, cells := k, slots := n, locals := R.locals } ((T.setVm s.vm).setFrames (.invoking m args :: below)) m args below meth c T [] 0 0 := by
  obtain ⟨g₀, hg0⟩ := X.frames_eq
  have hg1 : (T.setVm s.vm).frames = .java g₀ :: below := hg0
  have hF : ((T.setVm s.vm).setFrames (.invoking m args :: below)).frames = .invoking m args :: below := State.frames_setFrames _ (State.cur_lt_of_frames hg1)
  have hlim : e.platform.stackLimits (T.setVm s.vm).me = e.platform.stackLimits s.me := X.limits
  have hby : (T.setVm s.vm).me.stackBytes = s.me.stackBytes := X.bytes
  refine ⟨X.admits, X.cas, X.clock, hF, ?_, X.hears, X.method, X.code, X.here, X.tail, X.warmed, by rw [State.stackLimits_setFrames]; rfl, by rw [State.stackBytes_setFrames]; rfl, ?_⟩
  · have h := X.room
    have hU : ((T.setVm s.vm).setFrames (.invoking m args :: below)).localsInUse = s.localsInUse := by
      rw [State.localsInUse_invoking hF (meth := meth) (c := c) X.method X.code, State.localsInUse_invoking X.frames X.method X.code]
    simp only [State.hasRoom, Bool.and_eq_true, decide_eq_true_eq] at h ⊢
    obtain ⟨⟨⟨⟨h1, h2, h3, h4, h5, h6⟩, h7⟩, h8⟩, h9⟩ := h
    rw [X.frames] at h2 h3
    have q1 := X.heapSize
    have q2 := X.used
    rw [hF, hU, State.stackLimits_setFrames, State.stackBytes_setFrames, hlim, hby]
    refine ⟨⟨⟨⟨h1, h2, h3, h4, h5, h6⟩, ?_⟩, ?_⟩, X.book⟩
    · show T.heap.size + k ≤ e.platform.maxCells
      omega
    · show T.slotsUsed + n ≤ e.platform.maxSlots
      omega
  · obtain ⟨t, ht, -⟩ := State.frames_cons hg1
    have hd : T.heap.toList.drop T.heap.size = [] := List.drop_eq_nil_of_le (Nat.le_of_eq Array.length_toList)
    refine ⟨?_, Nat.le_refl _, Nat.le_refl _, ?_, ?_, fun a c9 h9 => ⟨c9, h9, rfl, rfl, fun _ _ => rfl⟩⟩
    · show T.setVm s.vm = { ((T.setVm s.vm).setFrames (.invoking m args :: below)).setFrames (T.setVm s.vm).frames with heap := T.heap, slotsUsed := T.slotsUsed }
      rw [State.setFrames_setFrames, State.setFrames_self ht]
      rfl
    · show T.slotsUsed = T.slotsUsed + ((T.heap.toList.drop T.heap.size).map (·.slots.size)).sum
      rw [hd]; rfl
    · show ((T.heap.toList.drop T.heap.size).map (·.slots.size)).sum ≤ 0
      rw [hd]; exact Nat.le_refl _
variable {mc ms : Nat} {free : Addr → Prop} {Qc : Array Value → State → Outcome → State → Prop} {Xc : String → State → State → Prop}
theorem tx_throwS {cc : ByteArray} {pc : Nat} {ls : Array Slot} {rest : List Value} (hexec : p.tables.exec = Jvm.exec) (hb : c.code = cc) (hl : l.stackTraces = false) {own cls text : String} {names : List String} {ik is ic sa : Nat} {A : Nat → Prop} {Ts : List Cond}
    (hown : s.vm.findClass own = some m.cls) (hts : ∀ w ∈ Ts, w.before args s = true) (hz : tx_Z A s s.heap) (hS : va_S A s.heap H locs) (hcls : Bundle.fit cls = true) (hnames : ∀ n ∈ names, Bundle.fit n = true)
    (hw : (Cond.classLink own ik cls :: Cond.initialized cls :: Bundle.ownAtoms own ic cls names).all (fun w => (decide (w ∈ Ts) && w.onTables) || decide (w ∈ tx_four)) = true) (hstr : vk_R own is text sa s)
    (hsize : ls.size = c.maxLocals) (d0 : decode cc pc = .ok (.new ik, 3)) (d3 : decode cc (pc + 3) = .ok (.dup, 1)) (d4 : decode cc (pc + 4) = .ok (.ldc is, 2)) (d6 : decode cc (pc + 6) = .ok (.invokespecial ic, 3)) (d9 : decode cc (pc + 9) = .ok (.athrow, 1))
    (hnt : ∀ x ∈ c.exceptionTable.toList, False) (hRf : names.length + 3 < R.frames) (hRl : (rest.map fun v => v.category).sum + (13 * (names.length + 1) + 43) ≤ R.locals) (hRc : cells + 1 ≤ R.cells) (hRs : slots + 6 ≤ R.slots) (hlocks : meth.locks = false)
    (hx : ∀ t : State, s.vm.Alike t.vm → H.size ≤ t.heap.size → (∀ q : Nat, q < H.size → t.heap[q]? = H[q]?) → Xc cls s t) (hf : ∀ z ∈ locs, free z.base) (hc : cells + 1 ≤ mc) (hs : slots + 6 ≤ ms) :
    W p l e R s m args below meth c H locs cells slots (tx_MQ below Qc Xc args s mc ms free) (F0 m pc ls rest) := by
  intro T hT X
  have htr : e.platform.stackTraces = false := (show e.platform.stackTraces = l.stackTraces by rw [X.admits.platform]).trans hl
  have Y := tx_anew X hRc hRs
  obtain ⟨s', hs'⟩ : ∃ z, z = (T.setVm s.vm).setFrames (.invoking m args :: below) := ⟨_, rfl⟩
  rw [← hs'] at Y
  have hvm : s.vm = s'.vm := by rw [hs']; rfl
  have hhp : s'.heap = H := by rw [hs']; exact hT
  have hal0 : s.vm.Alike s'.vm := by rw [← hvm]; exact Vm.Alike.refl s.vm
  have hfour : ∀ w ∈ tx_four, w.before args s' = true := (hz.kept hS.1 hS.2.1) s' args hal0 (fun q h1 _ => by rw [hhp])
  have hall := tx_atoms hts hvm hfour hw
  have hk' : (Cond.classLink own ik cls).before args s' = true := hall _ List.mem_cons_self
  have hini' : (Cond.initialized cls).before args s' = true := hall _ (List.mem_cons_of_mem _ List.mem_cons_self)
  have hat : ∀ w ∈ Bundle.ownAtoms own ic cls names, w.before args s' = true := fun w h => hall w (List.mem_cons_of_mem _ (List.mem_cons_of_mem _ h))
  have hown' : s'.vm.findClass own = some m.cls := by rw [← hvm]; exact hown
  have hins : (Cond.instantiable cls 6).before args s' = true := hat _ (by simp [Bundle.ownAtoms])
  obtain ⟨vm₁, cX, kX, hfX, hkX, -, -, X₁, st1⟩ := Y.newCold hexec (own := own) (C := cls) (index := ik) (n := 6) hown' hk' hins hini'
    (g := F0 m pc ls rest) rfl (by rw [hb]; exact d0) (Nat.le_refl _) (Nat.le_refl _)
  generalize hT1 : (T.setVm vm₁).pushCell { cls := cX, slots := kX.instanceTypes.map defaultValue, vm := .none } = T1 at X₁ st1
  have hcat : (Value.ref T.heap.size).category = 1 := rfl
  have hcellA : T1.heap[T.heap.size]? = some (freshCell cX kX) := by rw [← hT1]; exact State.heap_pushCell_size _ _
  have hstr' : vk_R own is text sa s' := vk_R.same hvm.symm hstr
  obtain ⟨U, hsteps, hrun, hend, hW, hsame, ce, hce, hO⟩ := X₁.ctorThrowS hexec htr (own := own) (cls := cls) (names := names) (ic := ic) hown' hcls hnames hat (fun x hx => nomatch hx) hfX hkX hcellA (by rw [hhp, hT]; exact Nat.le_refl _) (msg := .ref sa) rfl
    (g := { method := m, pc := pc + 6, locals := ls, stack := .ref sa :: .ref T.heap.size :: .ref T.heap.size :: rest, locked := none }) rfl hsize rfl rfl (rest := rest) rfl
    (by rw [hb]; exact d6) (by rw [hb]; exact d9) (fun x hx => absurd (hnt x hx) id) hRf (by simp only [List.map_cons, List.sum_cons, hcat]; omega) hlocks
  have hW0 : s.WarmedH s'.vm := by rw [← hvm]; exact State.WarmedH.refl s
  have hWs : s.WarmedH U.vm := State.WarmedH.trans hW0 hW
  have hold : s'.heap.size ≤ U.heap.size ∧ ∀ q : Nat, q < s'.heap.size → U.heap[q]? = s'.heap[q]? := by
    obtain ⟨-, z1, -, -, -, z2⟩ := hsame
    refine ⟨z1, fun q hq => ?_⟩
    obtain ⟨c1, y1, y2, y3, y4⟩ := z2 q s'.heap[q] (Array.getElem?_eq_getElem hq)
    rw [Array.getElem?_eq_getElem hq]
    have y1' : U.heap[q]? = some c1 := y1
    have hsl : c1.slots = (s'.heap[q]).slots := Array.ext_getElem? fun i => y4 i (fun h => nomatch h)
    rw [hsl] at y2
    rw [y1']
    exact congrArg some y2
  rw [hhp] at hold
  have hcl : s.vm.findClass cls = some ce.cls := by rw [hvm]; exact hO.cls
  have hsm : s.sameButNew ({ U with vm := s.vm } : State) locs mc ms := by
    subst hs'
    obtain ⟨e1, e2⟩ := hsame
    rw [State.setFrames_setFrames] at e1
    have h2 : (T.setVm s.vm).sameButNew ({ U with vm := s.vm } : State) [] (0 + 1) (0 + 6) := ⟨e1, e2⟩
    have h3 := X.same.trans h2
    rw [List.append_nil] at h3
    exact h3.mono hc hs
  refine ⟨U, ?_, .threw T.heap.size, hrun, hend, Or.inr ⟨T.heap.size, rfl, cls, ce, locs, hx U hWs.alike hold.1 hold.2, hce, hO.vm, hcl, hWs, hsm, hf⟩⟩
  refine st1 _ ?_
  have d3' : decode c.code (pc + 3) = .ok (.dup, 1) := by rw [hb]; exact d3
  have d4' : decode c.code (pc + 4) = .ok (.ldc is, 2) := by rw [hb]; exact d4
  show Steps p.tables e below (T1.setTop { method := m, pc := pc + 3, locals := ls, stack := .ref T.heap.size :: rest, locked := none }) _
  jvm_step X₁.here [X₁.here.top, hexec, d3', Value.category]
  exact X₁.ldcString hexec (own := own) (text := text) (index := is) (a := sa) hown' hstr'.1 hstr'.2
    (g := { method := m, pc := pc + 4, locals := ls, stack := .ref T.heap.size :: .ref T.heap.size :: rest, locked := none }) rfl d4' _ hsteps
end TXC
