/-! the netlist as a mathematical thing: n gates, q field gate; its pins (net, row, column) -/
abbrev AQ : Type := Nat → Nat → Nat
def npn (q : AQ) (g : Nat) : Nat := if q 0 g < 2 then 2 else 3
def ntn (q : AQ) (g i : Nat) : Nat := if i + 1 = npn q g then q 3 g else if i = 0 then q 1 g else q 2 g
def gp (q : AQ) (g : Nat) : List (Nat × Nat × Nat) := (List.range (npn q g)).map (fun i => (ntn q g i, q 4 g, q 5 g + i))
def PL (n : Nat) (q : AQ) : List (Nat × Nat × Nat) := (List.range n).flatMap (gp q)
theorem PL_succ (n : Nat) (q : AQ) : PL (n + 1) q = PL n q ++ gp q n := by simp [PL, List.range_succ, List.flatMap_append]
theorem PL_zero (q : AQ) : PL 0 q = [] := rfl
theorem npn_or (q : AQ) (g : Nat) : npn q g = 2 ∨ npn q g = 3 := by unfold npn; split <;> simp
def pnn (n : Nat) (q : AQ) (m : Nat) : Nat := (PL n q).countP (fun p => p.1 == m)
def prn (n : Nat) (q : AQ) (r m : Nat) : Nat := (PL n q).countP (fun p => p.1 == m && p.2.1 == r)
def dvn (n : Nat) (q : AQ) (m : Nat) : Option Nat := (List.range n).find? (fun g => q 3 g == m)
def padn (n : Nat) (q : AQ) (m : Nat) : Bool := (dvn n q m).isNone && decide (0 < pnn n q m)
def wirn (n : Nat) (q : AQ) (m : Nat) : Bool := decide (2 ≤ pnn n q m) || padn n q m
def lfn (n : Nat) (q : AQ) (m : Nat) : Nat := (PL n q).foldl (fun a p => if p.1 = m ∧ p.2.2 < a then p.2.2 else a) 24
def rgn (n : Nat) (q : AQ) (m : Nat) : Nat := (PL n q).foldl (fun a p => if p.1 = m ∧ a < p.2.2 then p.2.2 else a) 0
def atn (n : Nat) (q : AQ) (r c : Nat) : Option Nat := ((PL n q).find? (fun p => p.2.1 == r && p.2.2 == c)).map (·.1)
def len (n : Nat) (q : AQ) (m : Nat) : Nat := if padn n q m then 0 else lfn n q m
/-- what holds of every netlist that calls can make; nx: the next free column of a row -/
def AInv (n : Nat) (q : AQ) (nx : Nat → Nat) : Prop := n ≤ 12 ∧
  (∀ g, g < n → q 0 g < 4 ∧ q 1 g < 12 ∧ q 2 g < 12 ∧ (q 0 g < 2 → q 2 g = q 1 g) ∧ q 3 g < 12 ∧ q 4 g < 2 ∧ 1 ≤ q 5 g ∧ q 5 g + npn q g + 1 ≤ nx (q 4 g)) ∧
  (∀ r, r < 2 → 1 ≤ nx r ∧ nx r ≤ 25) ∧ (∀ g, g < n → ∀ g', g' < n → q 3 g = q 3 g' → g = g') ∧
  (PL n q).Pairwise (fun p p' => ¬ (p.2.1 = p'.2.1 ∧ p.2.2 = p'.2.2))
/-- the class's memory holds it -/
def CInv (n : Nat) (q : AQ) (nx : Nat → Nat) (I : MI) (F : MF) : Prop := I 1 = nI n ∧ (∀ f, f < 6 → ∀ g, g < n → F f g = nI (q f g)) ∧ (∀ r, r < 2 → F 6 r = nI (nx r)) ∧
  (∀ r, r < 2 → ∀ c, c < 24 → F (15 + r) c = oI (atn n q r c)) ∧ (∀ r, r < 2 → ∀ m, m < 12 → F (17 + r) m = nI (prn n q r m)) ∧ (∀ m, m < 12 → F 7 m = nI (lfn n q m)) ∧
  (∀ m, m < 12 → F 8 m = if pnn n q m = 0 then nM else nI (rgn n q m)) ∧ (∀ m, m < 12 → F 9 m = oI (dvn n q m))
/-- the reference's memory holds it -/
def MInv (n : Nat) (q : AQ) (nx : Nat → Nat) (J : MI) (P : MF) : Prop := J 1 = nI n ∧
  (∀ g, g < n → P 0 g = nI (q 0 g) ∧ P 1 g = nI (q 1 g) ∧ P 2 g = (if q 0 g < 2 then nM else nI (q 2 g)) ∧ P 3 g = nI (q 3 g) ∧ P 4 g = nI (q 4 g) ∧ P 5 g = nI (q 5 g)) ∧ (∀ r, r < 2 → P 6 r = nI (nx r))
theorem mem_gp {q : AQ} {g : Nat} {p : Nat × Nat × Nat} : p ∈ gp q g ↔ ∃ i, i < npn q g ∧ p = (ntn q g i, q 4 g, q 5 g + i) := by
  simp only [gp, List.mem_map, List.mem_range]
  constructor
  · rintro ⟨i, hi, rfl⟩; exact ⟨i, hi, rfl⟩
  · rintro ⟨i, hi, rfl⟩; exact ⟨i, hi, rfl⟩
theorem mem_PL {n : Nat} {q : AQ} {p : Nat × Nat × Nat} : p ∈ PL n q ↔ ∃ g i, g < n ∧ i < npn q g ∧ p = (ntn q g i, q 4 g, q 5 g + i) := by
  simp only [PL, List.mem_flatMap, List.mem_range, mem_gp]
  constructor
  · rintro ⟨g, hg, i, hi, e⟩; exact ⟨g, i, hg, hi, e⟩
  · rintro ⟨g, i, hg, hi, e⟩; exact ⟨g, hg, i, hi, e⟩
theorem ntn_lt {n : Nat} {q : AQ} {nx : Nat → Nat} (hA : AInv n q nx) {g i : Nat} (hg : g < n) : ntn q g i < 12 := by
  obtain ⟨h0, h1, h2, h3, h4, _⟩ := hA.2.1 g hg
  unfold ntn
  split
  · exact h4
  · split
    · exact h1
    · exact h2
theorem PL_mem {n : Nat} {q : AQ} {nx : Nat → Nat} (hA : AInv n q nx) {p : Nat × Nat × Nat} (hp : p ∈ PL n q) : p.1 < 12 ∧ p.2.1 < 2 ∧ 1 ≤ p.2.2 ∧ p.2.2 + 2 ≤ nx p.2.1 ∧ p.2.2 ≤ 23 := by
  obtain ⟨g, i, hg, hi, rfl⟩ := mem_PL.mp hp
  obtain ⟨h0, h1, h2, h3, h4, h5, h6, h7⟩ := hA.2.1 g hg
  have := (hA.2.2.1 _ h5).2
  refine ⟨ntn_lt hA hg, h5, ?_, ?_, ?_⟩ <;> simp only <;> omega
theorem gp_len (q : AQ) (g : Nat) : (gp q g).length = npn q g := by simp [gp]
theorem PL_len (n : Nat) (q : AQ) : (PL n q).length ≤ 3 * n := by
  induction n with
  | zero => simp [PL_zero]
  | succ n ih =>
    rw [PL_succ, List.length_append, gp_len]
    rcases npn_or q n with h | h <;> omega
theorem pnn_le {n : Nat} {q : AQ} {nx : Nat → Nat} (hA : AInv n q nx) (m : Nat) : pnn n q m ≤ 36 := by
  have h1 := List.countP_le_length (p := fun p : Nat × Nat × Nat => p.1 == m) (l := PL n q)
  have h2 := PL_len n q
  have h3 := hA.1
  unfold pnn; omega
theorem prn_le {n : Nat} {q : AQ} {nx : Nat → Nat} (hA : AInv n q nx) (r m : Nat) : prn n q r m ≤ 36 := by
  have h1 := List.countP_le_length (p := fun p : Nat × Nat × Nat => p.1 == m && p.2.1 == r) (l := PL n q)
  have h2 := PL_len n q
  have h3 := hA.1
  unfold prn; omega
theorem pnn_split {n : Nat} {q : AQ} {nx : Nat → Nat} (hA : AInv n q nx) (m : Nat) : pnn n q m = prn n q 0 m + prn n q 1 m := by
  unfold pnn prn
  have key : ∀ L : List (Nat × Nat × Nat), (∀ p ∈ L, p.2.1 < 2) → L.countP (fun p => p.1 == m) = L.countP (fun p => p.1 == m && p.2.1 == 0) + L.countP (fun p => p.1 == m && p.2.1 == 1) := by
    intro L
    induction L with
    | nil => intro _; rfl
    | cons p L ih =>
      intro h
      have h1 := ih (fun x hx => h x (List.mem_cons_of_mem _ hx))
      have h2 := h p List.mem_cons_self
      simp only [List.countP_cons]
      rw [h1]
      rcases (show p.2.1 = 0 ∨ p.2.1 = 1 by omega) with e | e <;> by_cases c : p.1 = m <;> simp [e, c] <;> omega
  exact key _ (fun p hp => (PL_mem hA hp).2.1)
theorem dvn_lt {n : Nat} {q : AQ} {m g : Nat} (h : dvn n q m = some g) : g < n ∧ q 3 g = m := by
  have h1 := List.find?_some h
  have h2 := List.mem_of_find?_eq_some h
  exact ⟨List.mem_range.mp h2, by simpa using h1⟩
theorem dvn_none {n : Nat} {q : AQ} {m : Nat} (h : dvn n q m = none) : ∀ g, g < n → q 3 g ≠ m := by
  intro g hg e
  have := List.find?_eq_none.mp h g (List.mem_range.mpr hg)
  simp [e] at this
theorem atn_lt {n : Nat} {q : AQ} {nx : Nat → Nat} (hA : AInv n q nx) {r c m : Nat} (h : atn n q r c = some m) : m < 12 := by
  obtain ⟨p, hp, rfl⟩ := Option.map_eq_some_iff.mp h
  exact (PL_mem hA (List.mem_of_find?_eq_some hp)).1
theorem lfn_le (n : Nat) (q : AQ) (m : Nat) : lfn n q m ≤ 24 := by
  have key : ∀ (L : List (Nat × Nat × Nat)) (a : Nat), L.foldl (fun a p => if p.1 = m ∧ p.2.2 < a then p.2.2 else a) a ≤ a := by
    intro L
    induction L with
    | nil => intro a; exact Nat.le_refl _
    | cons p L ih =>
      intro a
      rw [List.foldl_cons]
      refine Nat.le_trans (ih _) ?_
      split <;> omega
  exact key _ _
theorem rgn_le {n : Nat} {q : AQ} {nx : Nat → Nat} (hA : AInv n q nx) (m : Nat) : rgn n q m ≤ 23 := by
  have key : ∀ (L : List (Nat × Nat × Nat)) (a : Nat), a ≤ 23 → (∀ p ∈ L, p.2.2 ≤ 23) → L.foldl (fun a p => if p.1 = m ∧ a < p.2.2 then p.2.2 else a) a ≤ 23 := by
    intro L
    induction L with
    | nil => intro a h _; exact h
    | cons p L ih =>
      intro a h hL
      rw [List.foldl_cons]
      refine ih _ ?_ (fun x hx => hL x (List.mem_cons_of_mem _ hx))
      have := hL p List.mem_cons_self
      split <;> omega
  exact key _ _ (by omega) (fun p hp => (PL_mem hA hp).2.2.2.2)
def bI (b : Bool) : Int32 := if b then nI 1 else nI 0
theorem bI_t : bI true = nI 1 := rfl
theorem bI_f : bI false = nI 0 := rfl
theorem bI_0 (b : Bool) : (bI b = nI 0) = (b = false) := by cases b <;> simp [bI]; decide
theorem bI_1 (b : Bool) : (bI b = nI 1) = (b = true) := by cases b <;> simp [bI]; decide
theorem oI_nM {o : Option Nat} (h : ∀ g, o = some g → g < 2 ^ 31) : (oI o = nM) = (o = none) := by
  cases o with
  | none => simp [oI]
  | some g => simp [oI, nI_nM (h g rfl)]
