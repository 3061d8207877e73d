/-! gate: a gate more -/
theorem ite_lt {α : Type} {a b : Nat} (ha : a < 2 ^ 31) (hb : b < 2 ^ 31) (x y : α) : (if nI a < nI b then x else y) = if a < b then x else y := by
  by_cases h : a < b
  · rw [if_pos h, if_pos ((nI_lt_iff ha hb).mpr h)]
  · rw [if_neg h, if_neg (fun z => h ((nI_lt_iff ha hb).mp z))]
theorem ite_nM {α : Type} {a : Nat} (ha : a < 2 ^ 31) (x y : α) : (if nM < nI a then x else y) = x := if_pos (of_eq_true (nM_lt ha))
theorem find_congr {α : Type} {p r : α → Bool} : ∀ (L : List α), (∀ x ∈ L, p x = r x) → L.find? p = L.find? r
  | [], _ => rfl
  | x :: L, h => by
    rw [List.find?_cons, List.find?_cons, h x List.mem_cons_self, find_congr L (fun y hy => h y (List.mem_cons_of_mem _ hy))]
/-- the class's memory of a list of pins -/
def PInv (L : List (Nat × Nat × Nat)) (F : MF) : Prop :=
  (∀ r, r < 2 → ∀ c, c < 24 → F (15 + r) c = oI ((L.find? (fun p => p.2.1 == r && p.2.2 == c)).map (·.1))) ∧ (∀ r, r < 2 → ∀ m, m < 12 → F (17 + r) m = nI (L.countP (fun p => p.1 == m && p.2.1 == r))) ∧
  (∀ m, m < 12 → F 7 m = nI (L.foldl (fL m) 24)) ∧ (∀ m, m < 12 → F 8 m = if L.countP (fun p => p.1 == m) = 0 then nM else nI (L.foldl (fR m) 0))
theorem PInv_of {n : Nat} {q : AQ} {nx : Nat → Nat} {I : MI} {F : MF} (hC : CInv n q nx I F) : PInv (PL n q) F := ⟨hC.2.2.2.1, hC.2.2.2.2.1, hC.2.2.2.2.2.1, hC.2.2.2.2.2.2.1⟩
theorem PInv_set {L : List (Nat × Nat × Nat)} {F F' : MF} (h : PInv L F) (e : ∀ k, k = 7 ∨ k = 8 ∨ (15 ≤ k ∧ k < 19) → F' k = F k) : PInv L F' := by
  refine ⟨fun r hr c hc => ?_, fun r hr m hm => ?_, fun m hm => ?_, fun m hm => ?_⟩
  · rw [e _ (by omega)]; exact h.1 r hr c hc
  · rw [e _ (by omega)]; exact h.2.1 r hr m hm
  · rw [e _ (by omega)]; exact h.2.2.1 m hm
  · rw [e _ (by omega)]; exact h.2.2.2 m hm
theorem fR_zero {m : Nat} (L : List (Nat × Nat × Nat)) (h : L.countP (fun p => p.1 == m) = 0) : ∀ a, L.foldl (fR m) a = a := by
  induction L with
  | nil => intro a; rfl
  | cons p L ih =>
    intro a
    rw [List.countP_cons] at h
    have hp : ¬ p.1 = m := by intro z; simp [z] at h
    rw [List.foldl_cons, show fR m a p = a from if_neg (fun z => hp z.1)]
    exact ih (by omega) a
theorem fRv_le (m : Nat) (L : List (Nat × Nat × Nat)) (hL : ∀ p ∈ L, p.2.2 ≤ 23) : L.foldl (fR m) 0 ≤ 24 := fR_le m L hL 0 (by omega)
theorem s_addPin {L : List (Nat × Nat × Nat)} {I : MI} {F : MF} {G : MG} {post : MI → MF → MG → Prop} {r c m : Nat} (hr : r < 2) (hc : c < 24) (hc1 : 1 ≤ c) (hm : m < 12) (hL : L.length ≤ 100) (hLc : ∀ p ∈ L, p.2.2 ≤ 23) (hnew : ∀ p ∈ L, ¬ (p.2.1 = r ∧ p.2.2 = c)) (hP : PInv L F)
    (h : ∀ F', PInv (L ++ [(m, r, c)]) F' → (∀ k, (k < 15 ∨ 19 ≤ k) → k ≠ 7 → k ≠ 8 → F' k = F k) → post I F' G) : wp_N_addPin (nI r) (nI c) (nI m) I F G post := by
  have vr := (nI_vp (a := r) (n := 2) (by omega)).mpr hr
  have vc := (nI_vp (a := c) (n := 24) (by omega)).mpr hc
  have vm := (nI_vp (a := m) (n := 12) (by omega)).mpr hm
  unfold wp_N_addPin
  rw [nI_clamp (n := r) (by omega), nI_clamp (n := c) (by omega), nI_clamp (n := m) (by omega)]
  refine ⟨vr, vc, fun F1 e1 => ⟨vr, vm, vm, fun F2 e2 => ⟨vm, vm, fun F3 e3 => ⟨vm, vm, fun F4 e4 => h F4 ?_ ?_⟩⟩⟩⟩
  · have hcl := List.countP_le_length (p := fun p : Nat × Nat × Nat => p.1 == m) (l := L)
    have hcr := fun r => List.countP_le_length (p := fun p : Nat × Nat × Nat => p.1 == m && p.2.1 == r) (l := L)
    refine ⟨fun r' hr' c' hc' => ?_, fun r' hr' m' hm' => ?_, fun m' hm' => ?_, fun m' hm' => ?_⟩
    · have e : F4 (15 + r') = F1 (15 + r') := by
        rw [e4, e3, e2]
        simp only [setF_c]
        rw [if_neg (by omega), if_neg (by omega), if_neg (by omega)]
      rw [e, e1]
      simp only [setF_c]
      rw [List.find?_append]
      by_cases z : r' = r
      · subst z
        rw [if_pos rfl, upd_c]
        by_cases y : c' = c
        · subst y
          rw [if_pos rfl]
          have : L.find? (fun p => p.2.1 == r' && p.2.2 == c') = none := by
            rw [List.find?_eq_none]
            intro p hp
            have := hnew p hp
            simp only [Bool.and_eq_true, beq_iff_eq]
            exact this
          rw [this]; simp [oI]
        · rw [if_neg y, hP.1 r' hr' c' hc']
          have y2 : ¬ c = c' := fun z => y z.symm
          cases hf : L.find? (fun p => p.2.1 == r' && p.2.2 == c') with
          | none => simp [y2]
          | some p => simp
      · rw [if_neg (by omega), hP.1 r' hr' c' hc']
        have z2 : ¬ r = r' := fun y => z y.symm
        cases hf : L.find? (fun p => p.2.1 == r' && p.2.2 == c') with
        | none => simp [z2]
        | some p => simp
    · have e : F4 (17 + r') = F2 (17 + r') := by
        rw [e4, e3]
        simp only [setF_c]
        rw [if_neg (by omega), if_neg (by omega)]
      have e0 : F1 (17 + r) = F (17 + r) := by rw [e1]; simp only [setF_c]; rw [if_neg (by omega)]
      have e0' : F1 (17 + r') = F (17 + r') := by rw [e1]; simp only [setF_c]; rw [if_neg (by omega)]
      rw [e, e2]
      simp only [setF_c]
      rw [List.countP_append]
      by_cases z : r' = r
      · subst z
        rw [if_pos rfl, upd_c, e0]
        by_cases y : m' = m
        · subst y
          rw [if_pos rfl, hP.2.1 r' hr' m' hm', i_1, nI_ad]; simp
        · rw [if_neg y, hP.2.1 r' hr' m' hm']
          have y2 : ¬ m = m' := fun z => y z.symm
          simp [y2]
      · rw [if_neg (by omega), e0', hP.2.1 r' hr' m' hm']
        have z2 : ¬ r = r' := fun y => z y.symm
        simp [z2]
    · have e : F4 7 = F3 7 := by rw [e4]; simp only [setF_c]; rw [if_neg (by omega)]
      have e0 : F2 7 = F 7 := by rw [e2, e1]; simp only [setF_c]; rw [if_neg (by omega), if_neg (by omega)]
      rw [e, e3]
      simp only [setF_c]
      rw [if_pos trivial, upd_c, e0, List.foldl_append, List.foldl_cons, List.foldl_nil]
      have hle := fL_le m L 24
      by_cases y : m' = m
      · subst y
        rw [if_pos rfl, hP.2.2.1 m' hm', ite_lt (by omega) (by omega)]
        simp only [fL, true_and]
        split <;> rfl
      · rw [if_neg y, hP.2.2.1 m' hm']
        have y2 : ¬ m = m' := fun z => y z.symm
        simp only [fL, y2, false_and, if_false]
    · have e0 : F3 8 = F 8 := by rw [e3, e2, e1]; simp only [setF_c]; rw [if_neg (by omega), if_neg (by omega), if_neg (by omega)]
      rw [e4]
      simp only [setF_c]
      rw [if_pos trivial, upd_c, e0, List.foldl_append, List.foldl_cons, List.foldl_nil, List.countP_append]
      have hle := fRv_le m L hLc
      by_cases y : m' = m
      · subst y
        rw [if_pos rfl, hP.2.2.2 m' hm']
        have hne : ¬ (L.countP (fun p => p.1 == m') + List.countP (fun p => p.1 == m') [(m', r, c)] = 0) := by simp
        rw [if_neg hne]
        by_cases z : L.countP (fun p => p.1 == m') = 0
        · rw [if_pos z, ite_nM (by omega), fR_zero L z]
          simp only [fR, true_and]
          rw [if_pos (by omega)]
        · rw [if_neg z, ite_lt (by omega) (by omega)]
          simp only [fR, true_and]
          split <;> rfl
      · rw [if_neg y, hP.2.2.2 m' hm']
        have y2 : ¬ m = m' := fun z => y z.symm
        have y3 : (m == m') = false := by simp [y2]
        simp only [fR, y2, false_and, if_false, List.countP_cons, List.countP_nil, y3]
        simp
  · intro k hk h7 h8
    rw [e4, e3, e2, e1]
    simp only [setF_c]
    rw [if_neg h8, if_neg h7, if_neg (by omega), if_neg (by omega)]
/-- the netlist with one gate more -/
def qAdd (n : Nat) (q : AQ) (k a b o r x : Nat) : AQ := fun f g => if g = n then (match f with | 0 => k | 1 => a | 2 => b | 3 => o | 4 => r | _ => x) else q f g
def nxAdd (nx : Nat → Nat) (r p : Nat) : Nat → Nat := fun s => if s = r then nx r + p + 1 else nx s
theorem qAdd_old {n : Nat} {q : AQ} {k a b o r x f g : Nat} (h : g < n) : qAdd n q k a b o r x f g = q f g := if_neg (by omega)
theorem npn_old {n : Nat} {q : AQ} {k a b o r x g : Nat} (h : g < n) : npn (qAdd n q k a b o r x) g = npn q g := by unfold npn; rw [qAdd_old h]
theorem gp_old {n : Nat} {q : AQ} {k a b o r x g : Nat} (h : g < n) : gp (qAdd n q k a b o r x) g = gp q g := by
  unfold gp ntn
  rw [npn_old h]
  simp only [qAdd_old h]
theorem PL_old {n : Nat} {q : AQ} {k a b o r x : Nat} : ∀ j, j ≤ n → PL j (qAdd n q k a b o r x) = PL j q := by
  intro j
  induction j with
  | zero => intro _; rfl
  | succ j ih => intro h; rw [PL_succ, PL_succ, ih (by omega), gp_old (by omega)]
theorem PL_add {n : Nat} {q : AQ} {k a b o r x : Nat} : PL (n + 1) (qAdd n q k a b o r x) = PL n q ++ gp (qAdd n q k a b o r x) n := by rw [PL_succ, PL_old n (Nat.le_refl _)]
theorem npn_new {n : Nat} {q : AQ} {k a b o r x : Nat} : npn (qAdd n q k a b o r x) n = if k < 2 then 2 else 3 := by
  unfold npn qAdd; simp
theorem gp_new {n : Nat} {q : AQ} {k a b o r x : Nat} : gp (qAdd n q k a b o r x) n = if k < 2 then [(a, r, x), (o, r, x + 1)] else [(a, r, x), (b, r, x + 1), (o, r, x + 2)] := by
  unfold gp ntn
  rw [npn_new]
  by_cases h : k < 2
  · rw [if_pos h]; simp [h, qAdd, List.range_succ]
  · rw [if_neg h]; simp [h, qAdd, List.range_succ]
theorem dvn_add {n : Nat} {q : AQ} {k a b o r x m : Nat} : dvn (n + 1) (qAdd n q k a b o r x) m = (dvn n q m).or (if o = m then some n else none) := by
  unfold dvn
  rw [List.range_succ, List.find?_append]
  congr 1
  · apply find_congr
    intro g hg
    rw [qAdd_old (List.mem_range.mp hg)]
  · have e : qAdd n q k a b o r x 3 n = o := by unfold qAdd; simp
    rw [List.find?_cons, e]
    by_cases h : o = m
    · simp [h]
    · have h2 : (o == m) = false := by simp [h]
      rw [h2, if_neg h]
      rfl
theorem A_add {n : Nat} {q : AQ} {nx : Nat → Nat} {k a b o r : Nat} (hA : AInv n q nx) (hn : n < 12) (hk : k < 4) (ha : a < 12) (hb : b < 12) (hkb : k < 2 → b = a) (ho : o < 12) (hr : r < 2) (hroom : nx r + (if k < 2 then 2 else 3) ≤ 24) (hd : dvn n q o = none) :
    AInv (n + 1) (qAdd n q k a b o r (nx r)) (nxAdd nx r (if k < 2 then 2 else 3)) := by
  have hx1 := hA.2.2.1 r hr
  refine ⟨hn, fun g hg => ?_, fun s hs => ?_, fun g hg g' hg' e => ?_, ?_⟩
  · by_cases z : g = n
    · subst z
      rw [npn_new]
      simp only [qAdd, if_true, nxAdd]
      exact ⟨hk, ha, hb, hkb, ho, hr, hx1.1, Nat.le_refl _⟩
    · have hg2 : g < n := by omega
      rw [npn_old hg2]
      simp only [qAdd_old hg2]
      obtain ⟨h0, h1, h2, h3, h4, h5, h6, h7⟩ := hA.2.1 g hg2
      refine ⟨h0, h1, h2, h3, h4, h5, h6, ?_⟩
      unfold nxAdd
      split
      · next e => rw [e] at h7; omega
      · exact h7
  · unfold nxAdd
    have := hA.2.2.1 s hs
    split
    · by_cases hk2 : k < 2
      · rw [if_pos hk2] at hroom ⊢; omega
      · rw [if_neg hk2] at hroom ⊢; omega
    · exact this
  · by_cases z : g = n
    · by_cases z' : g' = n
      · omega
      · exfalso
        subst z
        have hg2 : g' < g := by omega
        rw [qAdd_old hg2] at e
        exact dvn_none hd g' hg2 (by rw [← e]; simp [qAdd])
    · by_cases z' : g' = n
      · exfalso
        subst z'
        have hg2 : g < g' := by omega
        rw [qAdd_old hg2] at e
        exact dvn_none hd g hg2 (by rw [e]; simp [qAdd])
      · have h1 : g < n := by omega
        have h2 : g' < n := by omega
        rw [qAdd_old h1, qAdd_old h2] at e
        exact hA.2.2.2.1 g h1 g' h2 e
  · rw [PL_add, List.pairwise_append]
    refine ⟨hA.2.2.2.2, ?_, fun p hp p' hp' z => ?_⟩
    · rw [gp_new]
      split <;> simp
    · have h1 := PL_mem hA hp
      obtain ⟨i, hi, rfl⟩ := mem_gp.mp hp'
      have e4 : qAdd n q k a b o r (nx r) 4 n = r := by simp [qAdd]
      have e5 : qAdd n q k a b o r (nx r) 5 n = nx r := by simp [qAdd]
      simp only [e4, e5] at z
      rw [z.1] at h1
      omega
section CADD
variable {n : Nat} {q : AQ} {nx : Nat → Nat} {I : MI} {F : MF} {G : MG}
theorem s_hasRoom (hA : AInv n q nx) (hC : CInv n q nx I F) {k r : Nat} (hk : k < 4) (hr : r < 2) {post : Int32 → Prop} (h : post (bI (decide (n < 12 ∧ nx r + (if k < 2 then 2 else 3) ≤ 24)))) : wp_N_hasRoom (nI k) (nI r) I F G post := by
  have hn := hA.1
  have e := hC.2.2.1 r hr
  have hx := hA.2.2.1 r hr
  unfold wp_N_hasRoom
  rw [hC.1, nI_clamp (by omega), e, i_12, nI_le_iff (by omega) (by omega)]
  refine ⟨fun c => ?_, fun c => ⟨(nI_vp (by omega)).mpr hr, s_pinsOfKind hk ?_⟩⟩
  · rw [decide_eq_false (by omega)] at h; exact h
  · have hp : (if k < 2 then 2 else 3) ≤ 3 := by split <;> omega
    rw [nI_ad, i_24, nI_lt_iff (by omega) (by omega)]
    refine ⟨fun c2 => ?_, fun c2 => ?_⟩
    · rw [decide_eq_false (by omega)] at h; exact h
    · rw [decide_eq_true (by omega)] at h; exact h
theorem s_add (hA : AInv n q nx) (hC : CInv n q nx I F) {k a b o r : Nat} (hn : n < 12) (hk : k < 4) (ha : a < 12) (hb : b < 12) (ho : o < 12) (hr : r < 2) (hroom : nx r + (if k < 2 then 2 else 3) ≤ 24) (hd : dvn n q o = none) {post : Int32 → MI → MF → MG → Prop}
    (h : ∀ I' F', I' 0 = I 0 → CInv (n + 1) (qAdd n q k a b o r (nx r)) (nxAdd nx r (if k < 2 then 2 else 3)) I' F' → post (nI n) I' F' G) : wp_N_add (nI k) (nI a) (nI b) (nI o) (nI r) I F G post := by
  have e6 := hC.2.2.1 r hr
  have hx := hA.2.2.1 r hr
  have vn := (nI_vp (a := n) (n := 12) (by omega)).mpr hn
  have vr := (nI_vp (a := r) (n := 2) (by omega)).mpr hr
  have hlen := PL_len n q
  have hnew : ∀ p ∈ PL n q, ∀ c, nx r ≤ c → ¬ (p.2.1 = r ∧ p.2.2 = c) := fun p hp c hc z => by
    have := PL_mem hA hp
    rw [z.1] at this
    omega
  have hcol : ∀ p ∈ PL n q, p.2.2 ≤ 23 := fun p hp => (PL_mem hA hp).2.2.2.2
  unfold wp_N_add
  intro x1 hx1
  rw [hC.1] at hx1
  rw [hx1, nI_clamp (n := n) (by omega), nI_clamp (n := r) (by omega), nI_clamp (n := o) (by omega), e6]
  refine ⟨vr, fun x3 hx3 => s_pinsOfKind hk (fun x5 hx5 => ⟨vn, fun F1 g1 => ⟨vn, fun F2 g2 => ⟨vn, fun F3 g3 => ⟨vn, fun F4 g4 => ⟨vn, fun F5 g5 => ⟨vn, fun F6 g6 => ⟨(nI_vp (by omega)).mpr ho, fun F7 g7 => ?_⟩⟩⟩⟩⟩⟩⟩)⟩
  rw [hx3, nI_ad, i_1, nI_sub (by split <;> omega)] at hx5
  rw [hx5, hx3]
  have fr : ∀ j, j ≠ 0 → j ≠ 1 → j ≠ 2 → j ≠ 3 → j ≠ 4 → j ≠ 5 → j ≠ 9 → F7 j = F j := by
    intro j h0 h1 h2 h3 h4 h5 h9
    rw [g7, g6, g5, g4, g3, g2, g1]
    simp only [setF_c]
    rw [if_neg h9, if_neg h5, if_neg h4, if_neg h3, if_neg h2, if_neg h1, if_neg h0]
  have hP7 : PInv (PL n q) F7 := PInv_set (PInv_of hC) (fun j hj => fr j (by omega) (by omega) (by omega) (by omega) (by omega) (by omega) (by omega))
  -- the last step, the same for both forms
  have fin : ∀ (F9 : MF) (I9 : MI) (F10 : MF) (I10 : MI), PInv (PL n q ++ gp (qAdd n q k a b o r (nx r)) n) F9 → (∀ j, (j < 15 ∨ 19 ≤ j) → j ≠ 7 → j ≠ 8 → F9 j = F7 j) → I9 = I → F10 = setF F9 6 (upd (F9 6) r (nI (nx r + (if k < 2 then 2 else 3) + 1))) → I10 = setI I9 1 (I9 1 + 1) → post (nI n) I10 F10 G := by
    intro F9 I9 F10 I10 hP9 fr9 hI9 hF10 hI10
    subst hI9
    refine h I10 F10 (by rw [hI10]; rfl) ?_
    have hP10 : PInv (PL (n + 1) (qAdd n q k a b o r (nx r))) F10 := by
      rw [PL_add]
      exact PInv_set hP9 (fun j hj => by rw [hF10]; simp only [setF_c]; rw [if_neg (by omega)])
    refine ⟨?_, fun f hf g hg => ?_, fun s hs => ?_, hP10.1, hP10.2.1, hP10.2.2.1, hP10.2.2.2, fun m hm => ?_⟩
    · rw [hI10]; simp only [setI_c, if_true]; rw [hC.1, i_1, nI_ad]
    · have e1 : F10 f = F7 f := by rw [hF10]; simp only [setF_c]; rw [if_neg (by omega), fr9 f (by omega) (by omega) (by omega)]
      rw [e1, g7, g6, g5, g4, g3, g2, g1]
      simp only [setF_c]
      rcases (show f = 0 ∨ f = 1 ∨ f = 2 ∨ f = 3 ∨ f = 4 ∨ f = 5 by omega) with rfl | rfl | rfl | rfl | rfl | rfl
      all_goals
        simp only [qAdd]
        by_cases z : g = n
        · subst z; simp [upd_c, hx3]
        · simp [upd_c, z]
          exact hC.2.1 _ (by omega) g (by omega)
    · rw [hF10]
      simp only [setF_c, if_true, upd_c, nxAdd]
      have e1 : F9 6 = F 6 := by rw [fr9 6 (by omega) (by omega) (by omega), fr 6 (by omega) (by omega) (by omega) (by omega) (by omega) (by omega) (by omega)]
      rw [e1]
      split
      · rfl
      · exact hC.2.2.1 s hs
    · have e1 : F10 9 = F7 9 := by rw [hF10]; simp only [setF_c]; rw [if_neg (by omega), fr9 9 (by omega) (by omega) (by omega)]
      have e2 : F6 9 = F 9 := by
        rw [g6, g5, g4, g3, g2, g1]
        simp only [setF_c]
        simp
      rw [e1, g7]
      simp only [setF_c, if_true, upd_c]
      rw [dvn_add, e2]
      by_cases z : m = o
      · subst z
        rw [if_pos rfl, hd]; simp [oI]
      · have z2 : ¬ o = m := fun y => z y.symm
        rw [if_neg z, if_neg z2, Option.or_none]
        exact hC.2.2.2.2.2.2.2 m hm
  have e2 : ∀ x : Nat, nI x + 2 = nI (x + 2) := fun x => by rw [i_2, nI_ad]
  have hgn := gp_new (n := n) (q := q) (k := k) (a := a) (b := b) (o := o) (r := r) (x := nx r)
  refine s_addPin (L := PL n q) hr (by split at hroom <;> omega) (by omega) ha (by omega) hcol (fun p hp => hnew p hp _ (Nat.le_refl _)) hP7 (fun F8 hP8 fr8 => s_hasOne hk (br' (fun c => ?_) (fun c => ?_)))
  · have c := of_decide_eq_true c
    rw [if_pos c] at hroom hgn fin ⊢
    refine s_addPin (L := PL n q ++ [(a, r, nx r)]) hr (by omega) (by omega) ho (by simp; omega) (fun p hp => ?_) (fun p hp => ?_) hP8 (fun F9 hP9 fr9 => ⟨vr, fun F10 g10 I10 g11 => ?_⟩)
    · rcases List.mem_append.mp hp with z | z
      · exact hcol p z
      · rw [List.mem_singleton.mp z]; simp only; omega
    · rcases List.mem_append.mp hp with z | z
      · exact hnew p z _ (by omega)
      · rw [List.mem_singleton.mp z]; simp only; omega
    · refine fin F9 I F10 I10 ?_ (fun j h1 h2 h3 => (fr9 j h1 h2 h3).trans (fr8 j h1 h2 h3)) rfl ?_ g11
      · rw [hgn]
        rw [List.append_assoc] at hP9
        exact hP9
      · rw [g10, e2, show nx r + 2 - 1 + 2 = nx r + 2 + 1 by omega]
  · have c : ¬ k < 2 := of_decide_eq_false c
    rw [if_neg c] at hroom hgn fin ⊢
    rw [i_1, nI_ad]
    refine s_addPin (L := PL n q ++ [(a, r, nx r)]) hr (by omega) (by omega) hb (by simp; omega) (fun p hp => ?_) (fun p hp => ?_) hP8 (fun F9 hP9 fr9 => ?_)
    · rcases List.mem_append.mp hp with z | z
      · exact hcol p z
      · rw [List.mem_singleton.mp z]; simp only; omega
    · rcases List.mem_append.mp hp with z | z
      · exact hnew p z _ (by omega)
      · rw [List.mem_singleton.mp z]; simp only; omega
    refine s_addPin (L := PL n q ++ [(a, r, nx r)] ++ [(b, r, nx r + 1)]) hr (by omega) (by omega) ho (by simp; omega) (fun p hp => ?_) (fun p hp => ?_) hP9 (fun F11 hP11 fr11 => ⟨vr, fun F10 g10 I10 g11 => ?_⟩)
    · rcases List.mem_append.mp hp with z | z
      · rcases List.mem_append.mp z with z | z
        · exact hcol p z
        · rw [List.mem_singleton.mp z]; simp only; omega
      · rw [List.mem_singleton.mp z]; simp only; omega
    · rcases List.mem_append.mp hp with z | z
      · rcases List.mem_append.mp z with z | z
        · exact hnew p z _ (by omega)
        · rw [List.mem_singleton.mp z]; simp only; omega
      · rw [List.mem_singleton.mp z]; simp only; omega
    · refine fin F11 I F10 I10 ?_ (fun j h1 h2 h3 => (fr11 j h1 h2 h3).trans ((fr9 j h1 h2 h3).trans (fr8 j h1 h2 h3))) rfl ?_ (by rw [g11, i_1])
      · rw [hgn]
        rw [List.append_assoc, List.append_assoc] at hP11
        exact hP11
      · rw [g10, e2, show nx r + 3 - 1 + 2 = nx r + 3 + 1 by omega]
end CADD
