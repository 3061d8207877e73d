/-! new int[n][k]: an outer array of n references, and behind it n rows of k ints -/
section GX
def gx_row (comp : ClassId) (M : Nat) : Cell := arrV comp M (fun _ => .int 0)
def gx_out (cA : ClassId) (N h i : Nat) : Cell := arrV cA N (fun j => if j < i then Value.ref (h + 1 + j) else Value.null)
theorem gx_out_size (cA : ClassId) (N h i : Nat) : (gx_out cA N h i).slots.size = N := arrV_size _ _ _
theorem gx_out_0 (cA : ClassId) (N h : Nat) : ({ cls := cA, slots := Array.replicate N .null, vm := .none } : Cell) = gx_out cA N h 0 := by
  rw [arrV_new]
  unfold gx_out
  congr 1
theorem gx_out_s (cA : ClassId) (N h i : Nat) : (gx_out cA N h i).setSlot i (.ref (h + 1 + i)) = gx_out cA N h (i + 1) := by
  unfold gx_out
  rw [arrV_store]
  congr 1
  funext j
  by_cases e : j = i
  · subst e; simp [updV]
  · by_cases hj : j < i
    · simp [updV, e, hj, Nat.lt_succ_of_lt hj]
    · simp [updV, e, hj, show ¬ j < i + 1 by omega]
/-- the state with the outer array and i rows laid -/
def gx (T : State) (cA comp : ClassId) (N M : Nat) : Nat → State
  | 0 => T.pushCell (gx_out cA N T.heap.size 0)
  | i + 1 => ((gx T cA comp N M i).pushCell (gx_row comp M)).setCell T.heap.size (gx_out cA N T.heap.size (i + 1))
theorem gx_all (T : State) (cA comp : ClassId) (N M : Nat) : ∀ i, (gx T cA comp N M i).heap.size = T.heap.size + 1 + i ∧ (gx T cA comp N M i).vm = T.vm ∧ (gx T cA comp N M i).slotsUsed = T.slotsUsed + N + i * M ∧
    (gx T cA comp N M i).heap[T.heap.size]? = some (gx_out cA N T.heap.size i) ∧ (∀ q : Nat, q < T.heap.size → (gx T cA comp N M i).heap[q]? = T.heap[q]?) ∧ ∀ j, j < i → (gx T cA comp N M i).heap[T.heap.size + 1 + j]? = some (gx_row comp M)
  | 0 => ⟨by simp [gx], rfl, by simp [gx, gx_out_size], by simp [gx], fun q h => State.heap_pushCell_of_lt _ _ h, fun j h => absurd h (Nat.not_lt_zero _)⟩
  | i + 1 => by
    obtain ⟨a, b, d, f, u, v⟩ := gx_all T cA comp N M i
    have hlt : T.heap.size < (gx T cA comp N M i).heap.size := by omega
    have hf : ((gx T cA comp N M i).pushCell (gx_row comp M)).heap[T.heap.size]? = some (gx_out cA N T.heap.size i) := by rw [State.heap_pushCell_of_lt (h := hlt)]; exact f
    have hrs : (gx_row comp M).slots.size = M := arrV_size _ _ _
    refine ⟨?_, by simp [gx, b], ?_, State.heap_setCell_self hf, fun q hq => ?_, fun j hj => ?_⟩
    · simp [gx, State.setCell, a]; omega
    · simp [gx, d, hrs, Nat.succ_mul]; omega
    · show (((gx T cA comp N M i).pushCell (gx_row comp M)).setCell T.heap.size _).heap[q]? = _
      rw [State.heap_setCell_other (Nat.ne_of_gt hq), State.heap_pushCell_of_lt (h := (show q < (gx T cA comp N M i).heap.size by omega))]
      exact u q hq
    · show (((gx T cA comp N M i).pushCell (gx_row comp M)).setCell T.heap.size _).heap[T.heap.size + 1 + j]? = _
      rw [State.heap_setCell_other (show T.heap.size ≠ T.heap.size + 1 + j by omega)]
      rcases Nat.lt_or_ge j i with h | h
      · rw [State.heap_pushCell_of_lt (h := (show T.heap.size + 1 + j < (gx T cA comp N M i).heap.size by omega))]
        exact v j h
      · have e : j = i := by omega
        subst e
        rw [← a]
        exact State.heap_pushCell_size _ _
theorem gx_top (T : State) (f : JFrame) (cA comp : ClassId) (N M : Nat) : ∀ i, gx (T.setTop f) cA comp N M i = (gx T cA comp N M i).setTop f
  | 0 => rfl
  | i + 1 => by simp only [gx, gx_top T f cA comp N M i, State.heap_setTop, State.pushCell_setTop, State.setCell_setTop]
section GXW
variable {E : CtlPost} {e : Env} {d : Bool} {acts : List Action} {s : State}
theorem gx_newArray {c comp : ClassId} {k : Class} {type : FieldType} {len : Nat} {init : Value} (hk : s.vm.classes[c]? = some k) (hkind : k.kind = .array comp type)
    (hlimit : ¬ len > e.platform.arrayLengthLimit) (hheap : ¬ len * componentBytes type > e.platform.maxHeapBytes) (hfit : fits type init = true) (hdef : init.isDefault = true) {Q : Addr → Pre}
    (h1 : s.heap.size < e.platform.maxCells) (h2 : s.slotsUsed + len ≤ e.platform.maxSlots) (hq : Q s.heap.size d acts (s.pushCell { cls := c, slots := Array.replicate len init, vm := .none })) :
    wp (Jvm.newArray c len init) Q E e d acts s := by
  have hfits : ∀ i v, (Array.replicate len init)[i]? = some v → s.fitsSlot c .none i v = true := by
    intro i v hv
    rw [Array.getElem?_replicate] at hv
    split at hv
    · cases hv; simp [State.fitsSlot, State.slotType?, hk, hkind, hfit]
    · cases hv
  have hda : allocActs (Array.replicate len init) s.heap.size acts = acts := by
    have hall : ((Array.replicate len init).all (·.isDefault)) = true := by
      rw [Array.all_replicate]; split <;> simp [hdef]
    unfold allocActs; rw [if_pos hall]
  simp only [Jvm.newArray, Jvm.arrayFits, wp_bind', W.ask, W.ite, hlimit, if_false, wp_pure', W.theClass, hk, hkind, hheap, W.alloc, W.stop, Option.some.injEq, exists_eq_left', Array.size_replicate, hda]
  rw [if_neg (by omega)]
  exact ⟨h1, h2, hfits, hq⟩
theorem gx_make {c comp cc : ClassId} {k kc : Class} {n m : Int32} {N M : Nat} (hk : s.vm.classes[c]? = some k) (hkind : k.kind = .array comp (.array .int)) (hkc : s.vm.classes[comp]? = some kc) (hkindc : kc.kind = .array cc .int)
    (hn : ¬ n < 0) (hm : ¬ m < 0) (hN : n.toNatClampNeg = N) (hM : m.toNatClampNeg = M) (hl1 : ¬ N > e.platform.arrayLengthLimit) (hh1 : ¬ N * componentBytes (.array .int) > e.platform.maxHeapBytes) (hl2 : ¬ M > e.platform.arrayLengthLimit) (hh2 : ¬ M * componentBytes .int > e.platform.maxHeapBytes)
    (hc : s.heap.size + 1 + N ≤ e.platform.maxCells) (hs : s.slotsUsed + N + N * M ≤ e.platform.maxSlots) {Q : Addr → Pre} (hq : ∀ d' acts', Q s.heap.size d' acts' (gx s c comp N M N)) :
    wp (Op.multianewarray.make c [n, m]) Q E e d acts s := by
  have hfind : ([m].find? (· < 0)) = none := by simp [hm]
  rw [Op.multianewarray.make]
  simp only [wp_bind', W.ite, hn, if_false, wp_pure', W.theClass, hk, hkind, Option.some.injEq, exists_eq_left', hN]
  refine gx_newArray hk hkind hl1 hh1 rfl rfl (by omega) (by have := Nat.zero_le (N * M); omega) ?_
  simp only [hfind]
  rw [ite_self, wp_bind', Std.Legacy.Range.forIn_eq_forIn_range']
  have hsz : ([:N] : Std.Legacy.Range).size = N := by simp [Std.Legacy.Range.size]
  rw [hsz]
  show wp (forIn (List.range' 0 N 1) PUnit.unit _) _ E e d acts _
  refine wp_forIn_inv (fun rest s' => ∃ i, i ≤ N ∧ rest = List.range' i (N - i) ∧ s' = gx s c comp N M i) _ _ ⟨0, Nat.zero_le _, rfl, by rw [gx, gx_out_0 c N s.heap.size]⟩ ?_ ?_
  · rintro x rest s' d' acts' Q' ⟨i, hi, hl, rfl⟩ hnext
    have hlt : i < N := by
      rcases Nat.lt_or_ge i N with h | h
      · exact h
      · rw [show N - i = 0 from by omega] at hl; simp at hl
    rw [show N - i = (N - (i + 1)) + 1 from by omega, List.range'_succ] at hl
    obtain ⟨rfl, hrest⟩ := List.cons.inj hl
    obtain ⟨f1, f2, f3, f4, -, -⟩ := gx_all s c comp N M x
    have hmul : x * M + M ≤ N * M := by
      have := Nat.mul_le_mul_right M (show x + 1 ≤ N from hlt)
      rw [Nat.succ_mul] at this; exact this
    simp only [wp_bind']
    rw [Op.multianewarray.make]
    simp only [wp_bind', W.ite, hm, if_false, wp_pure', W.theClass, f2, hkc, hkindc, Option.some.injEq, exists_eq_left', hM]
    refine gx_newArray (by rw [f2]; exact hkc) hkindc hl2 hh2 rfl rfl (by rw [f1]; omega) (by rw [f3]; omega) ?_
    have hlt0 : s.heap.size < (gx s c comp N M x).heap.size := by rw [f1]; omega
    have hrow : ({ cls := comp, slots := Array.replicate M (defaultValue .int), vm := .none } : Cell) = gx_row comp M := arrV_new _ _ _
    simp only [W.writeLoc, wp_pure', hrow]
    refine ⟨gx_out c N s.heap.size x, by rw [State.heap_pushCell_of_lt (h := hlt0)]; exact f4, by simp [gx_out, arrV], by rw [gx_out_size]; exact hlt, ?_, hnext _ _ _ ⟨x + 1, hlt, hrest, ?_⟩⟩
    · simp [gx_out, arrV, State.fitsSlot, State.slotType?, f2, hk, hkind, fits]
    · rw [f1, gx_out_s]; rfl
  · rintro s' d' acts' ⟨i, hi, hl, rfl⟩
    have hiN : i = N := by
      rcases Nat.lt_or_ge i N with h | h
      · rw [show N - i = (N - (i + 1)) + 1 from by omega, List.range'_succ] at hl; cases hl
      · omega
    subst hiN
    simp only [wp_pure']
    exact hq _ _
end GXW
section GXS
variable {p : Program} {l : Launch} {e : Env} {R : Room} {s : State} {m : MethodId} {args : Array Value} {below : List Frame} {meth : Method} {c : Code} {T : State} {locs : List Loc} {cells slots : Nat}
theorem gx_stand (X : Stand p l e R s m args below meth c T locs cells slots) (cA comp : ClassId) (N M : Nat) :
    ∀ i, ∃ L : List Loc, (∀ z ∈ L, z.base = T.heap.size) ∧ Stand p l e R s m args below meth c (gx T cA comp N M i) (locs ++ L) (cells + 1 + i) (slots + N + i * M)
  | 0 => by
    have h := X.pushed (gx_out cA N T.heap.size 0)
    rw [gx_out_size] at h
    exact ⟨[], (fun z hz => by cases hz), by simpa [gx] using h⟩
  | i + 1 => by
    obtain ⟨L, hL, Xi⟩ := gx_stand X cA comp N M i
    obtain ⟨f1, f2, f3, f4, -, -⟩ := gx_all T cA comp N M i
    have hlt0 : T.heap.size < (gx T cA comp N M i).heap.size := by rw [f1]; omega
    have hcell : ((gx T cA comp N M i).pushCell (gx_row comp M)).heap[T.heap.size]? = some (gx_out cA N T.heap.size i) := by rw [State.heap_pushCell_of_lt (h := hlt0)]; exact f4
    have h := (Xi.pushed (gx_row comp M)).stored hcell i (.ref (T.heap.size + 1 + i))
    rw [gx_out_s, show (gx_row comp M).slots.size = M from arrV_size _ _ _] at h
    refine ⟨L ++ [⟨T.heap.size, i⟩], fun z hz => ?_, ?_⟩
    · rcases List.mem_append.mp hz with h1 | h1
      · exact hL z h1
      · rw [List.mem_singleton.mp h1]
    · rw [← List.append_assoc, show slots + N + (i + 1) * M = slots + N + i * M + M by rw [Nat.succ_mul]; omega]
      exact h
end GXS
section GXR
variable {p : Program} {l : Launch} {e : Env} {R : Room} {s : State} {m : MethodId} {args : Array Value} {below : List Frame} {meth : Method} {c : Code} {H : Heap} {locs : List Loc} {cells slots : Nat} {Q : State → Prop}
variable {cc : ByteArray} {pc : Nat} {ls : Array Slot} {rest : List Value} {D : va_G} {cl : List vw_C} {A : Nat → Prop} {tys : List (ClassId × FieldType)} {ws : va_W} {H0 : Heap} {a : Nat}
/-- the row of an array of rows -/
theorem gx_ald (hexec : p.tables.exec = Jvm.exec) (hb : c.code = cc) (hK : va_K D cl tys s) (hP : va_P D cl ws H) (q0 t0 : Nat) {cA : ClassId} {n : Nat} {f : Nat → Nat} (ha : ws[q0]? = some (a, .inl (cA, n, .inr (.inr (.inr (.inr (fun i => some (f i)))))))) (ht : tys[t0]? = some (cA, .array .int)) {i : Int32} (hin : vp_in i n) (hdg : decode cc pc = .ok (.aaload, 1))
    (kk : W p l e R s m args below meth c H locs cells slots Q (F0 m (pc + 1) ls (.ref (f i.toNatClampNeg) :: rest))) : W p l e R s m args below meth c H locs cells slots Q (F0 m pc ls (.int i :: .ref a :: rest)) := by
  have hlt : i.toNatClampNeg < n := by
    rcases Nat.lt_or_ge i.toNatClampNeg n with h | h
    · exact h
    · exact absurd (Or.inr h) hin
  refine W.aald hexec hb (ty := .array .int) (v := .ref (f i.toNatClampNeg)) (hP q0 _ ha) ((hK.2 t0 _ ht).1 n (fun j => va_rf (some (f j)))) rfl (fun q => by cases q) (by show ¬ (i < 0 ∨ (arrV _ _ _).slots.size ≤ _); rw [arrV_size]; exact hin) ?_ rfl rfl hdg kk
  exact arrV_read _ _ hlt
/-- multianewarray of two dimensions of ints -/
theorem gx_new (hexec : p.tables.exec = Jvm.exec) (hb : c.code = cc) {own : String} {index : Nat} (hown : s.vm.findClass own = some m.cls) (hclink : (Cond.classLink own index "[[I").before args s = true) (hover : (Cond.arrayOver (.array .int)).before args s = true) (harr : (Cond.arrayClass .int).before args s = true)
    (hK : va_K D cl tys s) (hP : va_P D cl ws H) (hD : va_D A ws) (hS : va_S A s.heap H locs) (hA : ∀ q, s.heap.size ≤ q → A q) {n k : Int32} {N M : Nat} (hn : ¬ n < 0) (hk : ¬ k < 0) (hN : n.toNatClampNeg = N) (hM : k.toNatClampNeg = M) (hb1 : N ≤ 1000) (hb2 : M ≤ 1000)
    (hcells : cells + (1 + N) ≤ R.cells) (hslots : slots + (N + N * M) ≤ R.slots) (hdg : decode cc pc = .ok (.multianewarray index 2, 4))
    (kk : ∀ (q : Nat) (cA cI : ClassId) (H1 : Heap), va_K D cl (tys ++ [(cA, .array .int), (cI, .int)]) s →
      va_P D cl (ws ++ ((q, .inl (cA, N, .inr (.inr (.inr (.inr (fun i => some (q + 1 + i))))))) :: (List.range N).map (fun i => (q + 1 + i, .inl (cI, M, .inl (fun _ => 0)))))) H1 →
      va_D A (ws ++ ((q, .inl (cA, N, .inr (.inr (.inr (.inr (fun i => some (q + 1 + i))))))) :: (List.range N).map (fun i => (q + 1 + i, .inl (cI, M, .inl (fun _ => 0)))))) → va_S A s.heap H1 locs →
      W p l e R s m args below meth c H1 locs (cells + (1 + N)) (slots + (N + N * M)) Q (F0 m (pc + 4) ls (.ref q :: rest))) :
    W p l e R s m args below meth c H locs cells slots Q (F0 m pc ls (.int k :: .int n :: rest)) := by
  intro T hT X
  have hpl : e.platform.magicAccessors = ({} : Platform).magicAccessors := by rw [X.admits.platform]
  obtain ⟨comp, cA, kA, hcomp, -, hkA, hkindA, hnameA⟩ := arrayOverA_spec hover
  obtain ⟨comp', kC, cc', hcomp', hkC, hkindC⟩ := Cond.arrayClass_spec harr
  have ecomp : comp' = comp := Option.some.inj (hcomp'.symm.trans hcomp)
  subst ecomp
  obtain ⟨c0, hfc0, hcl⟩ := Cond.classLink_spec hown hclink e.platform hpl
  cases Option.some.inj (hnameA.symm.trans hfc0)
  obtain ⟨hg₁, hwarm₁, hready₁⟩ := State.classEntry (e := e) X.warmed hcl
  generalize T.vm.noted m.cls index (.cls cA) = vm₁ at hg₁ hwarm₁ hready₁
  have hal : s.vm.Alike vm₁ := hwarm₁.alike
  obtain ⟨kA₁, hkA₁, heA⟩ := hal.2.2 _ _ hkA
  obtain ⟨kC₁, hkC₁, heC⟩ := hal.2.2 _ _ hkC
  have hkindA₁ : kA₁.kind = .array comp' (.array .int) := by rw [heA]; exact hkindA
  have hkindC₁ : kC₁.kind = .array cc' .int := by rw [heC]; exact hkindC
  have X₁ := X.noted hwarm₁
  obtain ⟨hr1, hr2⟩ := X.roomAbove hcells hslots
  obtain ⟨L, hL, X₂⟩ := gx_stand X₁ cA comp' N M N
  have X₃ : Stand p l e R s m args below meth c (gx (T.setVm vm₁) cA comp' N M N) locs (cells + (1 + N)) (slots + (N + N * M)) := by
    have h := Stand.forget X₂ (fun z hz => by rw [hL z hz]; exact X.same.2.1)
    rw [← Nat.add_assoc, ← Nat.add_assoc]; exact h
  obtain ⟨f1, f2, f3, f4, f5, f6⟩ := gx_all (T.setVm vm₁) cA comp' N M N
  have hsz : (T.setVm vm₁).heap.size = H.size := by show T.heap.size = _; rw [hT]
  have hhp : (T.setVm vm₁).heap = H := hT
  rw [hsz] at f1 f4 f5 f6
  rw [hhp] at f5
  have hK1 : va_K D cl (tys ++ [(cA, .array .int), (comp', .int)]) s := by
    refine hK.app ⟨hK.1, fun j q hq => ?_⟩
    match j, hq with
    | 0, hq => cases hq; exact ⟨fun n z => ⟨fun x => by simp [arrV], kA, hkA, comp', hkindA⟩, hnameA⟩
    | 1, hq => cases hq; exact ⟨fun n z => ⟨fun x => by simp [arrV], kC, hkC, cc', hkindC⟩, hcomp⟩
    | j + 2, hq => simp at hq
  have hnew : va_P D cl ((H.size, .inl (cA, N, .inr (.inr (.inr (.inr (fun i => some (H.size + 1 + i))))))) :: (List.range N).map (fun i => (H.size + 1 + i, .inl (comp', M, .inl (fun _ => 0))))) (gx (T.setVm vm₁) cA comp' N M N).heap := by
    intro j q hq
    match j, hq with
    | 0, hq =>
      cases hq
      show (gx (T.setVm vm₁) cA comp' N M N).heap[H.size]? = some (arrV cA N (fun j => va_rf (some (H.size + 1 + j))))
      rw [f4]
      unfold gx_out arrV
      congr 2
      apply Array.ext
      · simp
      · intro j h1 h2
        have hj : j < N := by simpa using h1
        simp [hj, va_rf]
    | j + 1, hq =>
      rw [List.getElem?_cons_succ, List.getElem?_map] at hq
      obtain ⟨z, hz, rfl⟩ := Option.map_eq_some_iff.mp hq
      obtain ⟨hj, rfl⟩ := List.getElem?_eq_some_iff.mp hz
      rw [List.length_range] at hj
      rw [List.getElem_range]
      exact f6 j hj
  have hold : va_P D cl ws (gx (T.setVm vm₁) cA comp' N M N).heap := hP.kept (fun j q hq => f5 q.1 (hP j q hq).lt)
  have hDnew : va_D A ((H.size, .inl (cA, N, .inr (.inr (.inr (.inr (fun i => some (H.size + 1 + i))))))) :: (List.range N).map (fun i => (H.size + 1 + i, .inl (comp', M, .inl (fun _ => 0))))) := by
    have hk : ∀ (j : Nat) (q : Nat × va_E), ((H.size, .inl (cA, N, .inr (.inr (.inr (.inr (fun i => some (H.size + 1 + i))))))) :: (List.range N).map (fun i => (H.size + 1 + i, .inl (comp', M, .inl (fun _ => 0)))) : va_W)[j]? = some q → q.1 = H.size + j := by
      intro j q hq
      match j, hq with
      | 0, hq => cases hq; rfl
      | j + 1, hq =>
        rw [List.getElem?_cons_succ, List.getElem?_map] at hq
        obtain ⟨z, hz, rfl⟩ := Option.map_eq_some_iff.mp hq
        obtain ⟨hj, rfl⟩ := List.getElem?_eq_some_iff.mp hz
        rw [List.getElem_range]
        show H.size + 1 + j = _
        omega
    refine ⟨fun i j q r hq hr e => ?_, fun j q hq => ?_⟩
    · rw [hk i q hq, hk j r hr] at e; omega
    · rw [hk j q hq]; exact hA _ (by have := hS.1; omega)
  have hDall := hD.app hDnew (fun i j q r hq hr e => by
    have h1 := (hP i q hq).lt
    have h2 : H.size ≤ r.1 := by
      match j, hr with
      | 0, hr => cases hr; exact Nat.le_refl _
      | j + 1, hr =>
        rw [List.getElem?_cons_succ, List.getElem?_map] at hr
        obtain ⟨z, hz, rfl⟩ := Option.map_eq_some_iff.mp hr
        show H.size ≤ H.size + 1 + z
        omega
    omega)
  have hS1 : va_S A s.heap (gx (T.setVm vm₁) cA comp' N M N).heap locs := ⟨by rw [f1]; have := hS.1; omega, fun q h1 h2 => by rw [f5 q (by have := hS.1; omega)]; exact hS.2.1 q h1 h2, hS.2.2⟩
  obtain ⟨t, a1, b1⟩ := kk H.size cA comp' _ hK1 (hold.app hnew) hDall hS1 (gx (T.setVm vm₁) cA comp' N M N) rfl X₃
  refine ⟨t, ?_, b1⟩
  have hl1 : ¬ N > e.platform.arrayLengthLimit := by rw [Launch.admits_arrayLengthLimit X.admits]; omega
  have hh1 : ¬ N * componentBytes (.array .int) > e.platform.maxHeapBytes := by
    rw [Launch.admits_maxHeapBytes X.admits]; show ¬ N * 4 > 536870912; omega
  have hl2 : ¬ M > e.platform.arrayLengthLimit := by rw [Launch.admits_arrayLengthLimit X.admits]; omega
  have hh2 : ¬ M * componentBytes .int > e.platform.maxHeapBytes := by
    rw [Launch.admits_maxHeapBytes X.admits]; show ¬ M * 4 > 536870912; omega
  have hdg' : decode c.code (F0 m pc ls (.int k :: .int n :: rest)).pc = .ok (.multianewarray index 2, 4) := by rw [hb]; exact hdg
  have hat : At T (F0 m pc ls (.int k :: .int n :: rest)).method c below := X.here
  generalize hgg : F0 m pc ls (.int k :: .int n :: rest) = g at hdg' hat ⊢
  have hgm : g.method = m := by rw [← hgg]
  have hgs : g.stack = .int k :: .int n :: rest := by rw [← hgg]
  have hgf : ({ g with pc := g.pc + 4, stack := .ref H.size :: rest } : JFrame) = F0 m (pc + 4) ls (.ref H.size :: rest) := by rw [← hgg]
  subst hgm
  jvm_step X.here [hexec, hdg']
  simp only [Op.multianewarray.sem, wp_bind', W.resolveClassAt_links (State.method?_setTop g X.here.top) hg₁]
  rw [W.popN, if_neg (by decide)]
  refine ⟨g, State.topJava?_setTop' (s := T.setVm vm₁) g X.here.top, [.int n, .int k], rest, rfl, hgs, ?_⟩
  simp only [List.mapM_cons, List.mapM_nil, wp_bind', wp_pure']
  refine gx_make (k := kA₁) (kc := kC₁) (comp := comp') (cc := cc') hkA₁ hkindA₁ hkC₁ hkindC₁ hn hk hN hM hl1 hh1 hl2 hh2 (by show T.heap.size + 1 + _ ≤ _; omega) (by show T.slotsUsed + _ + _ ≤ _; omega) (fun d' acts' => ?_)
  have eS : ((T.setTop g).setVm vm₁).setTop { g with stack := rest } = (T.setVm vm₁).setTop { g with stack := rest } := by
    show ((T.setVm vm₁).setTop g).setTop _ = _
    rw [State.setTop_setTop]
  rw [eS, gx_top]
  simp only [wp_bind', W.mark, W.pushRef, State.topJava?_setTop' _ X₃.here.top, Option.some.injEq, exists_eq_left', State.setTop_setTop, State.heap_setTop]
  intro acts
  simp [jvm, X₃.here.top]
  rw [hT, hgf]
  exact a1
end GXR
end GX
