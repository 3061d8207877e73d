/-! making cells: arrays whose classes are known, grids; worlds as plain lists -/
abbrev gK : Type := ClassId × ClassId × ClassId × ClassId × ClassId
/-- int[], double[], int[][], boolean[], long[] -/
abbrev gTys (g : gK) : List (ClassId × FieldType) := [(g.1, .int), (g.2.1, .double), (g.2.2.1, .array .int), (g.2.2.2.1, .boolean), (g.2.2.2.2, .long)]
def GW (D : va_G) (A : Nat → Prop) (H0 : Heap) (ws : va_W) (H : Heap) (locs : List Loc) : Prop := va_P D vwCl ws H ∧ va_D A ws ∧ va_S A H0 H locs
theorem va_P.refs {D : va_G} {cl : List vw_C} {ws : va_W} {H : Heap} {a n : Nat} {cA : ClassId} {f f' : Nat → Option Nat} (h : va_P D cl ws H) (q0 : Nat) (ha : ws[q0]? = some (a, .inl (cA, n, .inr (.inr (.inr (.inr f)))))) (hf : ∀ i, i < n → f i = f' i) : va_P D cl (ws.set q0 (a, .inl (cA, n, .inr (.inr (.inr (.inr f')))))) H := by
  intro k q hk
  by_cases e : k = q0
  · subst e
    have hl := (List.getElem?_eq_some_iff.mp ha).1
    rw [List.getElem?_set_self hl] at hk
    cases hk
    have h1 := h k _ ha
    show H[a]? = some (vp_cell cA (n, .inr (.inr (.inr (.inr f')))))
    have h2 : H[a]? = some (vp_cell cA (n, .inr (.inr (.inr (.inr f))))) := h1
    rw [h2, vp_cell_q, vp_cell_q]
    congr 1
    unfold arrV
    congr 1
    apply Array.ext
    · simp
    · intro j h1 h2
      have hj : j < n := by simpa using h1
      simp [hf j hj]
  · rw [List.getElem?_set_ne (fun z => e z.symm)] at hk
    exact h k q hk
theorem GW.refs {D : va_G} {A : Nat → Prop} {H0 H : Heap} {locs : List Loc} {ws : va_W} {a n : Nat} {cA : ClassId} {f : Nat → Option Nat} (h : GW D A H0 ws H locs) (q0 : Nat) (f' : Nat → Option Nat) (ha : ws[q0]? = some (a, .inl (cA, n, .inr (.inr (.inr (.inr f)))))) (hf : ∀ i, i < n → f i = f' i) : GW D A H0 (ws.set q0 (a, .inl (cA, n, .inr (.inr (.inr (.inr f')))))) H locs :=
  ⟨h.1.refs q0 ha hf, h.2.1.set ha, h.2.2⟩
section GNEW
variable {p : Program} {l : Launch} {e : Env} {R : Room} {s : State} {m : MethodId} {args : Array Value} {below : List Frame} {meth : Method} {c : Code} {H : Heap} {locs : List Loc} {cells slots : Nat} {Q : State → Prop}
variable {cc : ByteArray} {pc : Nat} {ls : Array Slot} {rest : List Value} {A : Nat → Prop} {D : va_G} {ws : va_W} {g : gK}
theorem g_newi (hx : p.tables.exec = Jvm.exec) (hb : c.code = cc) (harr : (Cond.arrayClass .int).before args s = true) (hK : va_K D vwCl (gTys g) s) (hw : GW D A s.heap ws H locs) (hA : ∀ q, s.heap.size ≤ q → A q) {n : Int32} {k : Nat} (hn : ¬ n < 0) (hk : n.toNatClampNeg = k) (hk2 : k ≤ 1000) (hcells : cells + 1 ≤ R.cells) (hslots : slots + k ≤ R.slots) (hdg : decode cc pc = .ok (.newarray .int, 2))
    (kk : ∀ (q : Nat) (H1 : Heap), GW D A s.heap (ws ++ [(q, .inl (g.1, k, .inl (fun _ => 0)))]) H1 locs → W p l e R s m args below meth c H1 locs (cells + 1) (slots + k) Q (F0 m (pc + 2) ls (.ref q :: rest))) : W p l e R s m args below meth c H locs cells slots Q (F0 m pc ls (.int n :: rest)) := by
  refine va_newa (atype := .int) hx hb harr (ty := .int) rfl hK hw.1 hw.2.1 hw.2.2 hA (a0 := (k, .inl (fun _ => 0))) (fun _ => rfl) hn hk ?_ hcells hslots hdg (fun q cA H1 hK1 h1 h2 h3 => ?_)
  · show k * _ ≤ _
    have : componentBytes .int ≤ 8 := by decide
    exact Nat.le_trans (Nat.mul_le_mul hk2 this) (by decide)
  · have e1 : s.vm.findClass ("[" ++ FieldType.toString .int) = some cA := (hK1.2 5 (cA, .int) rfl).2
    have e2 : s.vm.findClass ("[" ++ FieldType.toString .int) = some g.1 := (hK.2 0 (g.1, .int) rfl).2
    have e3 : cA = g.1 := Option.some.inj (e1.symm.trans e2)
    subst e3
    exact kk q H1 ⟨h1, h2, h3⟩
theorem g_newd (hx : p.tables.exec = Jvm.exec) (hb : c.code = cc) (harr : (Cond.arrayClass .double).before args s = true) (hK : va_K D vwCl (gTys g) s) (hw : GW D A s.heap ws H locs) (hA : ∀ q, s.heap.size ≤ q → A q) {n : Int32} {k : Nat} (hn : ¬ n < 0) (hk : n.toNatClampNeg = k) (hk2 : k ≤ 1000) (hcells : cells + 1 ≤ R.cells) (hslots : slots + k ≤ R.slots) (hdg : decode cc pc = .ok (.newarray .double, 2))
    (kk : ∀ (q : Nat) (H1 : Heap), GW D A s.heap (ws ++ [(q, .inl (g.2.1, k, .inr (.inr (.inr (.inl (fun _ => 0))))))]) H1 locs → W p l e R s m args below meth c H1 locs (cells + 1) (slots + k) Q (F0 m (pc + 2) ls (.ref q :: rest))) : W p l e R s m args below meth c H locs cells slots Q (F0 m pc ls (.int n :: rest)) := by
  refine va_newa (atype := .double) hx hb harr (ty := .double) rfl hK hw.1 hw.2.1 hw.2.2 hA (a0 := (k, .inr (.inr (.inr (.inl (fun _ => 0)))))) (fun _ => rfl) hn hk ?_ hcells hslots hdg (fun q cA H1 hK1 h1 h2 h3 => ?_)
  · show k * _ ≤ _
    have : componentBytes .double ≤ 8 := by decide
    exact Nat.le_trans (Nat.mul_le_mul hk2 this) (by decide)
  · have e1 : s.vm.findClass ("[" ++ FieldType.toString .double) = some cA := (hK1.2 5 (cA, .double) rfl).2
    have e2 : s.vm.findClass ("[" ++ FieldType.toString .double) = some g.2.1 := (hK.2 1 (g.2.1, .double) rfl).2
    have e3 : cA = g.2.1 := Option.some.inj (e1.symm.trans e2)
    subst e3
    exact kk q H1 ⟨h1, h2, h3⟩
theorem g_newz (hx : p.tables.exec = Jvm.exec) (hb : c.code = cc) (harr : (Cond.arrayClass .boolean).before args s = true) (hK : va_K D vwCl (gTys g) s) (hw : GW D A s.heap ws H locs) (hA : ∀ q, s.heap.size ≤ q → A q) {n : Int32} {k : Nat} (hn : ¬ n < 0) (hk : n.toNatClampNeg = k) (hk2 : k ≤ 1000) (hcells : cells + 1 ≤ R.cells) (hslots : slots + k ≤ R.slots) (hdg : decode cc pc = .ok (.newarray .boolean, 2))
    (kk : ∀ (q : Nat) (H1 : Heap), GW D A s.heap (ws ++ [(q, .inl (g.2.2.2.1, k, .inl (fun _ => 0)))]) H1 locs → W p l e R s m args below meth c H1 locs (cells + 1) (slots + k) Q (F0 m (pc + 2) ls (.ref q :: rest))) : W p l e R s m args below meth c H locs cells slots Q (F0 m pc ls (.int n :: rest)) := by
  refine va_newa (atype := .boolean) hx hb harr (ty := .boolean) rfl hK hw.1 hw.2.1 hw.2.2 hA (a0 := (k, .inl (fun _ => 0))) (fun _ => rfl) hn hk ?_ hcells hslots hdg (fun q cA H1 hK1 h1 h2 h3 => ?_)
  · show k * _ ≤ _
    have : componentBytes .boolean ≤ 8 := by decide
    exact Nat.le_trans (Nat.mul_le_mul hk2 this) (by decide)
  · have e1 : s.vm.findClass ("[" ++ FieldType.toString .boolean) = some cA := (hK1.2 5 (cA, .boolean) rfl).2
    have e2 : s.vm.findClass ("[" ++ FieldType.toString .boolean) = some g.2.2.2.1 := (hK.2 3 (g.2.2.2.1, .boolean) rfl).2
    have e3 : cA = g.2.2.2.1 := Option.some.inj (e1.symm.trans e2)
    subst e3
    exact kk q H1 ⟨h1, h2, h3⟩
theorem g_newl (hx : p.tables.exec = Jvm.exec) (hb : c.code = cc) (harr : (Cond.arrayClass .long).before args s = true) (hK : va_K D vwCl (gTys g) s) (hw : GW D A s.heap ws H locs) (hA : ∀ q, s.heap.size ≤ q → A q) {n : Int32} {k : Nat} (hn : ¬ n < 0) (hk : n.toNatClampNeg = k) (hk2 : k ≤ 1000) (hcells : cells + 1 ≤ R.cells) (hslots : slots + k ≤ R.slots) (hdg : decode cc pc = .ok (.newarray .long, 2))
    (kk : ∀ (q : Nat) (H1 : Heap), GW D A s.heap (ws ++ [(q, .inl (g.2.2.2.2, k, .inr (.inl (fun _ => 0))))]) H1 locs → W p l e R s m args below meth c H1 locs (cells + 1) (slots + k) Q (F0 m (pc + 2) ls (.ref q :: rest))) : W p l e R s m args below meth c H locs cells slots Q (F0 m pc ls (.int n :: rest)) := by
  refine va_newa (atype := .long) hx hb harr (ty := .long) rfl hK hw.1 hw.2.1 hw.2.2 hA (a0 := (k, .inr (.inl (fun _ => 0)))) (fun _ => rfl) hn hk ?_ hcells hslots hdg (fun q cA H1 hK1 h1 h2 h3 => ?_)
  · show k * _ ≤ _
    have : componentBytes .long ≤ 8 := by decide
    exact Nat.le_trans (Nat.mul_le_mul hk2 this) (by decide)
  · have e1 : s.vm.findClass ("[" ++ FieldType.toString .long) = some cA := (hK1.2 5 (cA, .long) rfl).2
    have e2 : s.vm.findClass ("[" ++ FieldType.toString .long) = some g.2.2.2.2 := (hK.2 4 (g.2.2.2.2, .long) rfl).2
    have e3 : cA = g.2.2.2.2 := Option.some.inj (e1.symm.trans e2)
    subst e3
    exact kk q H1 ⟨h1, h2, h3⟩
theorem g_grid (hx : p.tables.exec = Jvm.exec) (hb : c.code = cc) {own : String} {index : Nat} (hown : s.vm.findClass own = some m.cls) (hclink : (Cond.classLink own index "[[I").before args s = true) (hover : (Cond.arrayOver (.array .int)).before args s = true) (harr : (Cond.arrayClass .int).before args s = true)
    (hK : va_K D vwCl (gTys g) s) (hw : GW D A s.heap ws H locs) (hA : ∀ q, s.heap.size ≤ q → A q) {n k : Int32} {N M : Nat} (hn : ¬ n < 0) (hk : ¬ k < 0) (hN : n.toNatClampNeg = N) (hM : k.toNatClampNeg = M) (hb1 : N ≤ 1000) (hb2 : M ≤ 1000)
    (hcells : cells + (1 + N) ≤ R.cells) (hslots : slots + (N + N * M) ≤ R.slots) (hdg : decode cc pc = .ok (.multianewarray index 2, 4))
    (kk : ∀ (q : Nat) (H1 : Heap), GW D A s.heap (ws ++ ((q, .inl (g.2.2.1, N, .inr (.inr (.inr (.inr (fun i => some (q + 1 + i))))))) :: (List.range N).map (fun i => (q + 1 + i, .inl (g.1, M, .inl (fun _ => 0)))))) H1 locs →
      W p l e R s m args below meth c H1 locs (cells + (1 + N)) (slots + (N + N * M)) Q (F0 m (pc + 4) ls (.ref q :: rest))) :
    W p l e R s m args below meth c H locs cells slots Q (F0 m pc ls (.int k :: .int n :: rest)) := by
  refine gx_new hx hb hown hclink hover harr hK hw.1 hw.2.1 hw.2.2 hA hn hk hN hM hb1 hb2 hcells hslots hdg (fun q cA cI H1 hK1 h1 h2 h3 => ?_)
  have e1 : s.vm.findClass ("[" ++ FieldType.toString (.array .int)) = some cA := (hK1.2 5 (cA, .array .int) rfl).2
  have e2 : s.vm.findClass ("[" ++ FieldType.toString (.array .int)) = some g.2.2.1 := (hK.2 2 (g.2.2.1, .array .int) rfl).2
  have e3 : cA = g.2.2.1 := Option.some.inj (e1.symm.trans e2)
  have f1 : s.vm.findClass ("[" ++ FieldType.toString .int) = some cI := (hK1.2 6 (cI, .int) rfl).2
  have f2 : s.vm.findClass ("[" ++ FieldType.toString .int) = some g.1 := (hK.2 0 (g.1, .int) rfl).2
  have f3 : cI = g.1 := Option.some.inj (f1.symm.trans f2)
  subst e3
  subst f3
  exact kk q H1 ⟨h1, h2, h3⟩
end GNEW
