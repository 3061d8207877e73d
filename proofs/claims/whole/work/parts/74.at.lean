/-! the reference: what stands at a point, what is free from above, what waits -/
theorem gp_find (q : AQ) (g r c : Nat) : (gp q g).find? (fun p => p.2.1 == r && p.2.2 == c) = if q 4 g = r ∧ q 5 g ≤ c ∧ c < q 5 g + npn q g then some (ntn q g (c - q 5 g), q 4 g, c) else none := by
  by_cases e : q 4 g = r
  · rcases npn_or q g with h | h
    · have hl : gp q g = [(ntn q g 0, q 4 g, q 5 g + 0), (ntn q g 1, q 4 g, q 5 g + 1)] := by unfold gp; rw [h]; rfl
      rw [hl, h]
      by_cases c0 : q 5 g = c
      · subst c0; simp [e]
      · by_cases c1 : q 5 g + 1 = c
        · subst c1; simp [e]
        · rw [if_neg (by omega)]
          simp [e, c0, c1]
    · have hl : gp q g = [(ntn q g 0, q 4 g, q 5 g + 0), (ntn q g 1, q 4 g, q 5 g + 1), (ntn q g 2, q 4 g, q 5 g + 2)] := by unfold gp; rw [h]; rfl
      rw [hl, h]
      by_cases c0 : q 5 g = c
      · subst c0; simp [e]
      · by_cases c1 : q 5 g + 1 = c
        · subst c1; simp [e]
        · by_cases c2 : q 5 g + 2 = c
          · subst c2; simp [e]
          · rw [if_neg (by omega)]
            simp [e, c0, c1, c2]
  · rw [if_neg (fun z => e z.1), List.find?_eq_none]
    intro p hp
    obtain ⟨i, hi, rfl⟩ := mem_gp.mp hp
    simp [e]
section MAT
variable {n : Nat} {q : AQ} {nx : Nat → Nat} {J : MI} {P : MF} {N : MG} {m : Nat} {post : Int32 → Prop}
theorem tl_at (hA : AInv n q nx) (hM : MInv n q nx J P) {r c : Nat} (hr : r < 2) (hc : c < 24) {K : Int32 → Prop} : ∀ (d g : Nat), g + d = n → (∀ p, (PLf q g d).find? (fun p => p.2.1 == r && p.2.2 == c) = some p → post (nI p.1)) → ((PLf q g d).find? (fun p => p.2.1 == r && p.2.2 == c) = none → K (nI n)) → wl_M_at_2 post K (nI r) (nI c) J P N (d + 1) (nI g) := by
  have hn := hA.1
  intro d
  induction d with
  | zero =>
    intro g hi _ h
    have e : g = n := by omega
    subst e
    unfold wl_M_at_2
    rw [hM.1]
    exact ⟨fun _ => h rfl, fun c => absurd (nI_le (Nat.le_refl _) (by omega)) c⟩
  | succ d ih =>
    intro g hi h1 h0
    rw [PLf_succ, List.find?_append, gp_find] at h1 h0
    obtain ⟨_, _, _, _, e4, e5⟩ := hM.2.1 g (by omega)
    obtain ⟨_, _, _, _, _, k4, k5, k6⟩ := hA.2.1 g (by omega)
    have hx := (hA.2.2.1 _ k4).2
    have hp := npn_or q g
    have v := (nI_vp (a := g) (n := 12) (by omega)).mpr (by omega)
    unfold wl_M_at_2
    rw [hM.1, nI_clamp (by omega), e4, e5, nI_eq_iff (by omega) (by omega)]
    refine ⟨fun c => absurd c (nI_ge (by omega) (by omega)), fun _ => ⟨v, fun a x hx => ?_, fun a => ⟨v, t_pinsOf hA hM (by omega) ?_⟩⟩⟩
    · rw [hx, ← nI_succ]
      rw [if_neg (fun z => a z.1), Option.none_or] at h1 h0
      exact ih (g + 1) (by omega) h1 h0
    · rw [show (nI (npn q g) - 1 : Int32) = nI (npn q g - 1) from nI_sub (a := npn q g) (b := 1) (by omega)]
      refine s_in (b := npn q g - 1) (by omega) ?_
      have hw : wiB (nI c - nI (q 5 g)) (npn q g - 1 + 1) = decide (q 5 g ≤ c ∧ c < q 5 g + npn q g) := by
        have hs : (nI c - nI (q 5 g)).toInt = (c : Int) - (q 5 g : Int) := by
          rw [Int32.toInt_sub, nI_toInt (by omega), nI_toInt (by omega)]
          exact Int.bmod_eq_of_le (by omega) (by omega)
        simp only [wiB, hs]
        congr 1
        apply propext
        omega
      rw [hw]
      refine br (fun b x hx => ?_) (fun b => ⟨v, ?_⟩)
      · rw [hx, ← nI_succ]
        rw [if_neg (fun z => by simp only [decide_eq_false_iff_not] at b; exact b z.2), Option.none_or] at h1 h0
        exact ih (g + 1) (by omega) h1 h0
      · simp only [decide_eq_true_eq] at b
        rw [nI_sub b.1]
        rw [if_pos ⟨a, b⟩, Option.some_or] at h1
        exact t_netOf hA hM (by omega) (by omega) (h1 _ rfl)
theorem t_at (hA : AInv n q nx) (hM : MInv n q nx J P) {r c : Nat} (hr : r < 2) (hc : c < 24) (h : post (oI (atn n q r c))) : wp_M_at (nI r) (nI c) J P N post := by
  refine ⟨n + 1, tl_at hA hM hr hc n 0 (by omega) (fun p hp => ?_) (fun hp => ?_)⟩
  · rw [← PL_PLf] at hp
    unfold atn at h
    rw [hp] at h; exact h
  · rw [← PL_PLf] at hp
    unfold atn at h
    rw [hp] at h; exact h
/-- the reference's way to ask whether a net is free from above -/
def mfr (n : Nat) (q : AQ) (tr : Nat → Nat) (m t c : Nat) : Bool := !(atn n q 1 c == some m && (atn n q 0 c).any (fun u => decide (u ≠ m) && wirn n q u && !(decide (0 < tr u) && decide (tr u < t))))
theorem tl_isFree (hA : AInv n q nx) (hM : MInv n q nx J P) {tr : Nat → Nat} (ht : ∀ m, m < 12 → P 7 m = nI (tr m) ∧ tr m < 2 ^ 31) {t : Nat} (hm : m < 12) (htt : t < 2 ^ 31) {K : Int32 → Prop} :
    ∀ (d i : Nat), i + d = 24 → ((List.range' i d).all (mfr n q tr m t) = false → post 0) → ((List.range' i d).all (mfr n q tr m t) = true → K (nI 24)) → wl_M_isFree_2 post K (nI m) (nI t) J P N (d + 1) (nI i) := by
  intro d
  induction d with
  | zero =>
    intro i hi _ h
    have e : i = 24 := by omega
    subst e
    exact ⟨fun _ => h rfl, fun c => absurd (nI_le (Nat.le_refl 24) (by decide)) c⟩
  | succ d ih =>
    intro i hi h0 h1
    rw [List.range'_succ, List.all_cons] at h1 h0
    have go : mfr n q tr m t i = true → ∀ x : Int32, x = nI i + 1 → wl_M_isFree_2 post K (nI m) (nI t) J P N (d + 1) x := by
      intro z x hx
      rw [hx, ← nI_succ]
      rw [z, Bool.true_and] at h0 h1
      exact ih (i + 1) (by omega) h0 h1
    have stop : mfr n q tr m t i = false → post 0 := fun z => h0 (by rw [z]; rfl)
    refine ⟨fun c => absurd c (nI_ge (b := 24) (by omega) (by decide)), fun _ => t_at (r := 0) hA hM (by omega) (by omega) (t_at (r := 1) hA hM (by omega) (by omega) ?_)⟩
    have l0 : ∀ g, atn n q 0 i = some g → g < 2 ^ 31 := fun g hg => by have := atn_lt hA hg; omega
    have l1 : ∀ g, atn n q 1 i = some g → g < 2 ^ 31 := fun g hg => by have := atn_lt hA hg; omega
    rw [oI_eq l1 (by omega), i_m1, oI_nM l0, oI_eq l0 (by omega)]
    unfold mfr at go stop
    refine ⟨fun a => go (by simp [a]), fun a => ⟨fun b => go (by simp [a, b]), fun b => ⟨fun c => go (by simp [a, c]), fun c => ?_⟩⟩⟩
    obtain ⟨u, hu⟩ : ∃ u, atn n q 0 i = some u := by
      cases hd : atn n q 0 i with
      | none => exact absurd hd b
      | some u => exact ⟨u, rfl⟩
    have hu12 := atn_lt hA hu
    obtain ⟨eu, eu2⟩ := ht u hu12
    have hum : u ≠ m := fun z => c (by rw [hu, z])
    rw [hu] at go stop ⊢
    rw [oI_some, nI_clamp (by omega), eu, i_0, nI_eq_iff eu2 (by omega), nI_lt_iff eu2 htt]
    have v := (nI_vp (a := u) (n := 12) (by omega)).mpr hu12
    refine t_isWired hA hM hu12 (br' (fun w => ⟨v, fun z => stop ?_, fun z => ⟨v, fun y => go ?_, fun y => stop ?_⟩⟩) (fun w => go ?_))
    · simp [a, hum, w, z]
    · have : 0 < tr u := by omega
      simp [this, y]
    · simp [a, hum, w, y]
    · simp [w]
theorem fr_eq (hA : AInv n q nx) {tr : Nat → Nat} {t : Nat} (hm : m < 12) (hw : wirn n q m = true) : (List.range' 1 23).all (mfr n q tr m t) = frn n q tr m t := by
  rw [Bool.eq_iff_iff]
  simp only [List.all_eq_true, frn, List.mem_range, List.mem_range', mfr, abn]
  constructor
  · intro h u hu
    cases hz : (decide (0 < tr u) && decide (tr u < t)) with
    | true => rfl
    | false =>
      rw [Bool.false_or, Bool.not_eq_true']
      cases hb : (decide (u ≠ m) && wirn n q u && wirn n q m && (List.range 24).any (fun c => atn n q 0 c == some u && atn n q 1 c == some m)) with
      | false => rfl
      | true =>
        simp only [Bool.and_eq_true, decide_eq_true_eq, List.any_eq_true, List.mem_range, beq_iff_eq] at hb
        obtain ⟨⟨⟨b1, b2⟩, _⟩, c, hc, b3, b4⟩ := hb
        have hc1 : 1 ≤ c := by
          obtain ⟨p, hp, rfl⟩ := Option.map_eq_some_iff.mp b3
          have h1 := PL_mem hA (List.mem_of_find?_eq_some hp)
          have h2 := List.find?_some hp
          simp only [Bool.and_eq_true, beq_iff_eq] at h2
          omega
        have h9 := h c ⟨c - 1, by omega, by omega⟩
        rw [b3, b4] at h9
        simp only [BEq.rfl, Bool.true_and, Option.any_some, b2, hz] at h9
        simp [b1] at h9
  · rintro h c ⟨j, hj, rfl⟩
    rw [Bool.not_eq_true']
    cases hb : (atn n q 1 (1 + 1 * j) == some m && (atn n q 0 (1 + 1 * j)).any (fun u => decide (u ≠ m) && wirn n q u && !(decide (0 < tr u) && decide (tr u < t)))) with
    | false => rfl
    | true =>
      simp only [Bool.and_eq_true, beq_iff_eq, Option.any_eq_true] at hb
      obtain ⟨b1, u, b2, ⟨b3, b4⟩, b5⟩ := hb
      have h9 := h u (atn_lt hA b2)
      simp only [Bool.not_eq_true'] at b5
      rw [b5, Bool.false_or, Bool.not_eq_true'] at h9
      have : (decide (u ≠ m) && wirn n q u && wirn n q m && (List.range 24).any (fun c => atn n q 0 c == some u && atn n q 1 c == some m)) = true := by
        rw [b3, b4, hw]
        simp only [Bool.true_and, List.any_eq_true, List.mem_range]
        exact ⟨1 + 1 * j, by omega, by rw [b2, b1]; simp⟩
      rw [this] at h9; cases h9
theorem t_isFree (hA : AInv n q nx) (hM : MInv n q nx J P) {tr : Nat → Nat} (ht : ∀ m, m < 12 → P 7 m = nI (tr m) ∧ tr m < 2 ^ 31) {t : Nat} (hm : m < 12) (hw : wirn n q m = true) (htt : t < 2 ^ 31) (h : post (bI (frn n q tr m t))) : wp_M_isFree (nI m) (nI t) J P N post := by
  rw [← fr_eq hA hm hw] at h
  refine ⟨24, tl_isFree hA hM ht hm htt 23 1 rfl (fun z => ?_) (fun z => ?_)⟩
  · rw [z] at h; exact h
  · rw [z] at h; exact h
def wtn (n : Nat) (q : AQ) (tr : Nat → Nat) : Nat := (List.range 12).countP (fun m => wirn n q m && decide (tr m = 0))
theorem tl_waiting (hA : AInv n q nx) (hM : MInv n q nx J P) {tr : Nat → Nat} (ht : ∀ m, m < 12 → P 7 m = nI (tr m) ∧ tr m < 2 ^ 31) {K : Int32 → Int32 → Prop} :
    ∀ (d i acc : Nat), i + d = 12 → K (nI (acc + (List.range' i d).countP (fun m => wirn n q m && decide (tr m = 0)))) (nI 12) → wl_M_waiting_4 post K J P N (d + 1) (nI acc) (nI i) := by
  intro d
  induction d with
  | zero =>
    intro i acc hi h
    have e : i = 12 := by omega
    subst e
    exact ⟨fun _ => h, fun c => absurd (nI_le (Nat.le_refl 12) (by decide)) c⟩
  | succ d ih =>
    intro i acc hi h
    rw [List.range'_succ, List.countP_cons] at h
    obtain ⟨e1, e2⟩ := ht i (by omega)
    have v := (nI_vp (a := i) (n := 12) (by omega)).mpr (by omega)
    unfold wl_M_waiting_4
    rw [nI_clamp (by omega), e1, i_0, nI_eq_iff e2 (by omega)]
    refine ⟨fun c => absurd c (nI_ge (b := 12) (by omega) (by decide)), fun _ => t_isWired hA hM (by omega) ?_⟩
    rw [← i_0]
    refine br (fun w x hx => ?_) (fun w => ⟨v, fun z x hx => ?_, fun z x hx y hy => ?_⟩)
    · rw [hx, ← nI_succ]
      refine ih (i + 1) acc (by omega) ?_
      rw [w] at h; simpa using h
    · rw [hx, ← nI_succ]
      refine ih (i + 1) acc (by omega) ?_
      rw [w] at h; simpa [z] using h
    · rw [hx, hy, ← nI_succ, ← nI_succ]
      refine ih (i + 1) (acc + 1) (by omega) ?_
      rw [w] at h
      rw [show acc + 1 + (List.range' (i + 1) d).countP (fun m => wirn n q m && decide (tr m = 0)) = acc + ((List.range' (i + 1) d).countP (fun m => wirn n q m && decide (tr m = 0)) + 1) by omega]
      simpa [z] using h
theorem t_waiting (hA : AInv n q nx) (hM : MInv n q nx J P) {tr : Nat → Nat} (ht : ∀ m, m < 12 → P 7 m = nI (tr m) ∧ tr m < 2 ^ 31) (h : post (nI (wtn n q tr))) : wp_M_waiting J P N post := by
  refine ⟨13, ?_⟩
  have := tl_waiting (post := post) (N := N) hA hM ht (K := fun x _ => post x) 12 0 0 rfl (by rw [Nat.zero_add, ← List.range_eq_range']; exact h)
  exact this
end MAT
