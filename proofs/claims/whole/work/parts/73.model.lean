/-! what the reference's questions answer, of the netlist -/
def gpf (q : AQ) (g i d : Nat) : List (Nat × Nat × Nat) := (List.range' i d).map (fun i => (ntn q g i, q 4 g, q 5 g + i))
theorem gp_gpf (q : AQ) (g : Nat) : gp q g = gpf q g 0 (npn q g) := by unfold gp gpf; rw [List.range_eq_range']
theorem gpf_succ (q : AQ) (g i d : Nat) : gpf q g i (d + 1) = (ntn q g i, q 4 g, q 5 g + i) :: gpf q g (i + 1) d := by unfold gpf; rw [List.range'_succ]; rfl
theorem gpf_zero (q : AQ) (g i : Nat) : gpf q g i 0 = [] := rfl
def PLf (q : AQ) (g d : Nat) : List (Nat × Nat × Nat) := (List.range' g d).flatMap (gp q)
theorem PL_PLf (n : Nat) (q : AQ) : PL n q = PLf q 0 n := by unfold PL PLf; rw [List.range_eq_range']
theorem PLf_succ (q : AQ) (g d : Nat) : PLf q g (d + 1) = gp q g ++ PLf q (g + 1) d := by unfold PLf; rw [List.range'_succ]; rfl
theorem PLf_zero (q : AQ) (g : Nat) : PLf q g 0 = [] := rfl
section MQ9
variable {n : Nat} {q : AQ} {nx : Nat → Nat} {J : MI} {P : MF} {N : MG} {m g i : Nat} {post : Int32 → Prop}
theorem t_pinsOf (hA : AInv n q nx) (hM : MInv n q nx J P) (hg : g < n) (h : post (nI (npn q g))) : wp_M_pinsOf (nI g) J P N post := by
  have hn := hA.1
  have e := (hM.2.1 g hg).1
  have hk := (hA.2.1 g hg).1
  unfold wp_M_pinsOf
  rw [nI_clamp (by omega), e, i_2, nI_le_iff (by omega) (by omega)]
  unfold npn at h
  refine ⟨(nI_vp (by omega)).mpr (by omega), fun c => ?_, fun c => ?_⟩
  · rw [if_neg (by omega)] at h; exact h
  · rw [if_pos (by omega)] at h; exact h
theorem t_netOf (hA : AInv n q nx) (hM : MInv n q nx J P) (hg : g < n) (hi : i < npn q g) (h : post (nI (ntn q g i))) : wp_M_netOf (nI g) (nI i) J P N post := by
  have hn := hA.1
  obtain ⟨_, e1, e2, e3, _⟩ := hM.2.1 g hg
  have hp := npn_or q g
  have v := (nI_vp (a := g) (n := 12) (by omega)).mpr (by omega)
  unfold wp_M_netOf
  refine t_pinsOf hA hM hg ?_
  rw [nI_clamp (by omega), e1, e2, e3, i_1, i_0, nI_sub (by omega), nI_eq_iff (by omega) (by omega), nI_eq_iff (by omega) (by omega)]
  unfold ntn at h
  refine ⟨fun c => ⟨fun c2 => ⟨v, ?_⟩, fun c2 => ⟨v, ?_⟩⟩, fun c => ⟨v, ?_⟩⟩
  · rw [if_neg (by omega), if_neg c2] at h
    have : ¬ q 0 g < 2 := by
      intro z
      have : npn q g = 2 := by unfold npn; rw [if_pos z]
      omega
    rw [if_neg this]; exact h
  · rw [if_neg (by omega), if_pos c2] at h; exact h
  · rw [if_pos (by omega)] at h; exact h
theorem tl_driver (hA : AInv n q nx) (hM : MInv n q nx J P) (hm : m < 12) {K : Int32 → Prop} : ∀ (d i : Nat), i + d = n → (∀ g, (List.range' i d).find? (fun g => q 3 g == m) = some g → post (nI g)) → ((List.range' i d).find? (fun g => q 3 g == m) = none → K (nI n)) → wl_M_driver_2 post K (nI m) J P N (d + 1) (nI i) := by
  have hn := hA.1
  intro d
  induction d with
  | zero =>
    intro i hi _ h
    have e : i = n := by omega
    subst e
    unfold wl_M_driver_2
    rw [hM.1]
    exact ⟨fun _ => h rfl, fun c => absurd (nI_le (Nat.le_refl _) (by omega)) c⟩
  | succ d ih =>
    intro i hi h1 h0
    rw [List.range'_succ, List.find?_cons] at h1 h0
    have e := (hM.2.1 i (by omega)).2.2.2.1
    have hk := (hA.2.1 i (by omega)).2.2.2.2.1
    unfold wl_M_driver_2
    rw [hM.1, nI_clamp (by omega), e, nI_eq_iff (by omega) (by omega)]
    refine ⟨fun c => absurd c (nI_ge (by omega) (by omega)), fun _ => ⟨(nI_vp (by omega)).mpr (by omega), fun a x hx => ?_, fun a => ?_⟩⟩
    · rw [hx, ← nI_succ]
      have z : (q 3 i == m) = false := by simp [a]
      rw [z] at h1 h0
      exact ih (i + 1) (by omega) h1 h0
    · have z : (q 3 i == m) = true := by simp [a]
      rw [z] at h1
      exact h1 i rfl
theorem t_driver (hA : AInv n q nx) (hM : MInv n q nx J P) (hm : m < 12) (h : post (oI (dvn n q m))) : wp_M_driver (nI m) J P N post := by
  refine ⟨n + 1, tl_driver hA hM hm n 0 (by omega) (fun g hg => ?_) (fun hg => ?_)⟩
  · rw [← List.range_eq_range'] at hg
    have : dvn n q m = some g := hg
    rw [this] at h; exact h
  · rw [← List.range_eq_range'] at hg
    have : dvn n q m = none := hg
    rw [this] at h; exact h
abbrev fC (m : Nat) : Nat → Nat × Nat × Nat → Nat := fun a p => if p.1 = m then a + 1 else a
theorem fC_count (m : Nat) (L : List (Nat × Nat × Nat)) : ∀ a, L.foldl (fC m) a = a + L.countP (fun p => p.1 == m) := by
  induction L with
  | nil => intro a; rfl
  | cons p L ih =>
    intro a
    rw [List.foldl_cons, ih, List.countP_cons]
    by_cases c : p.1 = m
    · simp only [fC, c, if_true, beq_self_eq_true]; omega
    · have c2 : (p.1 == m) = false := by simp [c]
      simp only [fC, c, if_false, c2]; simp
theorem tl_pins_in (hA : AInv n q nx) (hM : MInv n q nx J P) (hm : m < 12) (hg : g < n) {K : Int32 → Int32 → Prop} : ∀ (d i acc : Nat), i + d = npn q g → K (nI ((gpf q g i d).foldl (fC m) acc)) (nI (npn q g)) → wl_M_pins_15 post K (nI m) (nI g) J P N (d + 1) (nI acc) (nI i) := by
  have hp := npn_or q g
  have hn := hA.1
  intro d
  induction d with
  | zero =>
    intro i acc hi h
    have e : i = npn q g := by omega
    subst e
    exact t_pinsOf hA hM hg ⟨fun _ => h, fun c => absurd (nI_le (Nat.le_refl _) (by omega)) c⟩
  | succ d ih =>
    intro i acc hi h
    rw [gpf_succ, List.foldl_cons] at h
    refine t_pinsOf hA hM hg ⟨fun c => absurd c (nI_ge (by omega) (by omega)), fun _ => t_netOf hA hM hg (by omega) ?_⟩
    have hb := ntn_lt hA (i := i) hg
    rw [nI_eq_iff (by omega) (by omega)]
    refine ⟨fun a x hx => ?_, fun a x hx y hy => ?_⟩
    · rw [hx, ← nI_succ]
      refine ih (i + 1) acc (by omega) ?_
      rw [show fC m acc (ntn q g i, q 4 g, q 5 g + i) = acc from if_neg a] at h; exact h
    · rw [hx, hy, ← nI_succ, ← nI_succ]
      refine ih (i + 1) (acc + 1) (by omega) ?_
      rw [show fC m acc (ntn q g i, q 4 g, q 5 g + i) = acc + 1 from if_pos a] at h; exact h
theorem tl_pins_out (hA : AInv n q nx) (hM : MInv n q nx J P) (hm : m < 12) {K : Int32 → Int32 → Prop} : ∀ (d g acc : Nat), g + d = n → K (nI ((PLf q g d).foldl (fC m) acc)) (nI n) → wl_M_pins_4 post K (nI m) J P N (d + 1) (nI acc) (nI g) := by
  have hn := hA.1
  intro d
  induction d with
  | zero =>
    intro g acc hi h
    have e : g = n := by omega
    subst e
    unfold wl_M_pins_4
    rw [hM.1]
    exact ⟨fun _ => h, fun c => absurd (nI_le (Nat.le_refl _) (by omega)) c⟩
  | succ d ih =>
    intro g acc hi h
    rw [PLf_succ, List.foldl_append] at h
    unfold wl_M_pins_4
    rw [hM.1]
    refine ⟨fun c => absurd c (nI_ge (by omega) (by omega)), fun _ => ⟨npn q g + 1, tl_pins_in hA hM hm (by omega) (npn q g) 0 acc (by omega) (fun x hx => ?_)⟩⟩
    rw [hx, ← nI_succ, ← gp_gpf]
    exact ih (g + 1) _ (by omega) h
theorem t_pins (hA : AInv n q nx) (hM : MInv n q nx J P) (hm : m < 12) (h : post (nI (pnn n q m))) : wp_M_pins (nI m) J P N post := by
  refine ⟨n + 1, tl_pins_out hA hM hm n 0 0 (by omega) ?_⟩
  rw [← PL_PLf, fC_count, Nat.zero_add]
  exact h
theorem t_hasPad (hA : AInv n q nx) (hM : MInv n q nx J P) (hm : m < 12) (h : post (bI (padn n q m))) : wp_M_hasPad (nI m) J P N post := by
  have hn := hA.1
  have hp := pnn_le hA m
  unfold wp_M_hasPad
  unfold padn at h
  refine t_driver hA hM hm ?_
  rw [i_m1, oI_nM (fun g hg => by have := (dvn_lt hg).1; omega)]
  refine ⟨fun e => ?_, fun e => t_pins hA hM hm ?_⟩
  · have : (dvn n q m).isNone = false := by cases hd : dvn n q m with | none => exact absurd hd e | some g => rfl
    rw [this] at h; exact h
  · rw [e] at h
    rw [i_0, nI_le_iff (by omega) (by omega)]
    refine ⟨fun c => ?_, fun c => ?_⟩
    · have h0 : decide (0 < pnn n q m) = false := by simp; omega
      rw [h0] at h; exact h
    · have h0 : decide (0 < pnn n q m) = true := by simp; omega
      rw [h0] at h; exact h
theorem t_isWired (hA : AInv n q nx) (hM : MInv n q nx J P) (hm : m < 12) (h : post (bI (wirn n q m))) : wp_M_isWired (nI m) J P N post := by
  have hp := pnn_le hA m
  unfold wp_M_isWired
  unfold wirn at h
  refine t_pins hA hM hm ?_
  rw [i_1, nI_lt_iff (by omega) (by omega)]
  refine ⟨fun c => ?_, fun c => t_hasPad hA hM hm (br (fun e => ?_) (fun e => ?_))⟩
  · rw [decide_eq_true (show 2 ≤ pnn n q m by omega), Bool.true_or] at h; exact h
  · rw [decide_eq_false (show ¬ 2 ≤ pnn n q m by omega), e] at h; exact h
  · rw [e, Bool.or_true] at h; exact h
abbrev fL (m : Nat) : Nat → Nat × Nat × Nat → Nat := fun a p => if p.1 = m ∧ p.2.2 < a then p.2.2 else a
abbrev fR (m : Nat) : Nat → Nat × Nat × Nat → Nat := fun a p => if p.1 = m ∧ a < p.2.2 then p.2.2 else a
theorem tl_left_in (hA : AInv n q nx) (hM : MInv n q nx J P) (hm : m < 12) (hg : g < n) {K : Int32 → Int32 → Prop} : ∀ (d i acc : Nat), i + d = npn q g → acc ≤ 24 → K (nI ((gpf q g i d).foldl (fL m) acc)) (nI (npn q g)) → wl_M_left_28 post K (nI m) (nI g) J P N (d + 1) (nI acc) (nI i) := by
  have hp := npn_or q g
  have hn := hA.1
  have e5 := (hM.2.1 g hg).2.2.2.2.2
  obtain ⟨_, _, _, _, _, hr, hb1, hb2⟩ := hA.2.1 g hg
  have hx9 := (hA.2.2.1 _ hr).2
  have v := (nI_vp (a := g) (n := 12) (by omega)).mpr (by omega)
  intro d
  induction d with
  | zero =>
    intro i acc hi _ h
    have e : i = npn q g := by omega
    subst e
    exact t_pinsOf hA hM hg ⟨fun _ => h, fun c => absurd (nI_le (Nat.le_refl _) (by omega)) c⟩
  | succ d ih =>
    intro i acc hi ha h
    rw [gpf_succ, List.foldl_cons] at h
    refine t_pinsOf hA hM hg ⟨fun c => absurd c (nI_ge (by omega) (by omega)), fun _ => t_netOf hA hM hg (by omega) ?_⟩
    have hb := ntn_lt hA (i := i) hg
    rw [nI_eq_iff (by omega) (by omega), nI_clamp (by omega), e5, nI_ad, nI_le_iff (by omega) (by omega)]
    refine ⟨fun a x hx => ?_, fun a => ⟨v, fun b x hx => ?_, fun b => ⟨v, fun x hx y hy => ?_⟩⟩⟩
    · rw [hx, ← nI_succ]
      refine ih (i + 1) acc (by omega) ha ?_
      rw [show fL m acc (ntn q g i, q 4 g, q 5 g + i) = acc from if_neg (fun z => a z.1)] at h; exact h
    · rw [hx, ← nI_succ]
      refine ih (i + 1) acc (by omega) ha ?_
      rw [show fL m acc (ntn q g i, q 4 g, q 5 g + i) = acc from if_neg (fun z => by have := z.2; simp only at this; omega)] at h; exact h
    · rw [hx, hy, ← nI_succ]
      refine ih (i + 1) (q 5 g + i) (by omega) (by omega) ?_
      rw [show fL m acc (ntn q g i, q 4 g, q 5 g + i) = q 5 g + i from if_pos ⟨a, by simp only; omega⟩] at h; exact h
theorem fL_le (m : Nat) (L : List (Nat × Nat × Nat)) : ∀ a, L.foldl (fL m) a ≤ a := by
  induction L with
  | nil => intro a; exact Nat.le_refl _
  | cons p L ih =>
    intro a
    rw [List.foldl_cons]
    refine Nat.le_trans (ih _) ?_
    simp only [fL]
    split <;> omega
theorem tl_left_out (hA : AInv n q nx) (hM : MInv n q nx J P) (hm : m < 12) {K : Int32 → Int32 → Prop} : ∀ (d g acc : Nat), g + d = n → acc ≤ 24 → K (nI ((PLf q g d).foldl (fL m) acc)) (nI n) → wl_M_left_17 post K (nI m) J P N (d + 1) (nI acc) (nI g) := by
  have hn := hA.1
  intro d
  induction d with
  | zero =>
    intro g acc hi _ h
    have e : g = n := by omega
    subst e
    unfold wl_M_left_17
    rw [hM.1]
    exact ⟨fun _ => h, fun c => absurd (nI_le (Nat.le_refl _) (by omega)) c⟩
  | succ d ih =>
    intro g acc hi ha h
    rw [PLf_succ, List.foldl_append] at h
    unfold wl_M_left_17
    rw [hM.1]
    refine ⟨fun c => absurd c (nI_ge (by omega) (by omega)), fun _ => ⟨npn q g + 1, tl_left_in hA hM hm (by omega) (npn q g) 0 acc (by omega) ha (fun x hx => ?_)⟩⟩
    rw [hx, ← nI_succ, ← gp_gpf]
    exact ih (g + 1) _ (by omega) (Nat.le_trans (fL_le m _ _) ha) h
theorem t_left (hA : AInv n q nx) (hM : MInv n q nx J P) (hm : m < 12) (h : post (nI (len n q m))) : wp_M_left (nI m) J P N post := by
  unfold wp_M_left
  unfold len at h
  refine t_hasPad hA hM hm (br (fun e => ⟨n + 1, tl_left_out hA hM hm n 0 24 (by omega) (by omega) ?_⟩) (fun e => ⟨n + 1, tl_left_out hA hM hm n 0 0 (by omega) (by omega) ?_⟩))
  · rw [if_neg (by rw [e]; decide)] at h
    rw [← PL_PLf]
    exact h
  · rw [if_pos e] at h
    have := fL_le m (PLf q 0 n) 0
    rw [show (PLf q 0 n).foldl (fL m) 0 = 0 by omega]
    exact h
theorem tl_right_in (hA : AInv n q nx) (hM : MInv n q nx J P) (hm : m < 12) (hg : g < n) {K : Int32 → Int32 → Prop} : ∀ (d i acc : Nat), i + d = npn q g → acc ≤ 24 → K (nI ((gpf q g i d).foldl (fR m) acc)) (nI (npn q g)) → wl_M_right_15 post K (nI m) (nI g) J P N (d + 1) (nI acc) (nI i) := by
  have hp := npn_or q g
  have hn := hA.1
  have e5 := (hM.2.1 g hg).2.2.2.2.2
  obtain ⟨_, _, _, _, _, hr, hb1, hb2⟩ := hA.2.1 g hg
  have hx9 := (hA.2.2.1 _ hr).2
  have v := (nI_vp (a := g) (n := 12) (by omega)).mpr (by omega)
  intro d
  induction d with
  | zero =>
    intro i acc hi _ h
    have e : i = npn q g := by omega
    subst e
    exact t_pinsOf hA hM hg ⟨fun _ => h, fun c => absurd (nI_le (Nat.le_refl _) (by omega)) c⟩
  | succ d ih =>
    intro i acc hi ha h
    rw [gpf_succ, List.foldl_cons] at h
    refine t_pinsOf hA hM hg ⟨fun c => absurd c (nI_ge (by omega) (by omega)), fun _ => t_netOf hA hM hg (by omega) ?_⟩
    have hb := ntn_lt hA (i := i) hg
    rw [nI_eq_iff (by omega) (by omega), nI_clamp (by omega), e5, nI_ad, nI_le_iff (by omega) (by omega)]
    refine ⟨fun a x hx => ?_, fun a => ⟨v, fun b x hx => ?_, fun b => ⟨v, fun x hx y hy => ?_⟩⟩⟩
    · rw [hx, ← nI_succ]
      refine ih (i + 1) acc (by omega) ha ?_
      rw [show fR m acc (ntn q g i, q 4 g, q 5 g + i) = acc from if_neg (fun z => a z.1)] at h; exact h
    · rw [hx, ← nI_succ]
      refine ih (i + 1) acc (by omega) ha ?_
      rw [show fR m acc (ntn q g i, q 4 g, q 5 g + i) = acc from if_neg (fun z => by have := z.2; simp only at this; omega)] at h; exact h
    · rw [hx, hy, ← nI_succ]
      refine ih (i + 1) (q 5 g + i) (by omega) (by omega) ?_
      rw [show fR m acc (ntn q g i, q 4 g, q 5 g + i) = q 5 g + i from if_pos ⟨a, by simp only; omega⟩] at h; exact h
theorem fR_le (m : Nat) (L : List (Nat × Nat × Nat)) (hL : ∀ p ∈ L, p.2.2 ≤ 23) : ∀ a, a ≤ 24 → L.foldl (fR m) a ≤ 24 := by
  induction L with
  | nil => intro a h; exact h
  | cons p L ih =>
    intro a h
    rw [List.foldl_cons]
    refine ih (fun x hx => hL x (List.mem_cons_of_mem _ hx)) _ ?_
    have := hL p List.mem_cons_self
    simp only [fR]
    split <;> omega
theorem gp_col (hA : AInv n q nx) (hg : g < n) : ∀ p ∈ gp q g, p.2.2 ≤ 23 := fun p hp => by
  obtain ⟨i, hi, rfl⟩ := mem_gp.mp hp
  exact (PL_mem hA (mem_PL.mpr ⟨g, i, hg, hi, rfl⟩)).2.2.2.2
theorem tl_right_out (hA : AInv n q nx) (hM : MInv n q nx J P) (hm : m < 12) {K : Int32 → Int32 → Prop} : ∀ (d g acc : Nat), g + d = n → acc ≤ 24 → K (nI ((PLf q g d).foldl (fR m) acc)) (nI n) → wl_M_right_4 post K (nI m) J P N (d + 1) (nI acc) (nI g) := by
  have hn := hA.1
  intro d
  induction d with
  | zero =>
    intro g acc hi _ h
    have e : g = n := by omega
    subst e
    unfold wl_M_right_4
    rw [hM.1]
    exact ⟨fun _ => h, fun c => absurd (nI_le (Nat.le_refl _) (by omega)) c⟩
  | succ d ih =>
    intro g acc hi ha h
    rw [PLf_succ, List.foldl_append] at h
    unfold wl_M_right_4
    rw [hM.1]
    refine ⟨fun c => absurd c (nI_ge (by omega) (by omega)), fun _ => ⟨npn q g + 1, tl_right_in hA hM hm (by omega) (npn q g) 0 acc (by omega) ha (fun x hx => ?_)⟩⟩
    rw [hx, ← nI_succ, ← gp_gpf]
    exact ih (g + 1) _ (by omega) (fR_le m _ (gp_col hA (by omega)) _ ha) h
theorem t_right (hA : AInv n q nx) (hM : MInv n q nx J P) (hm : m < 12) (h : post (nI (rgn n q m))) : wp_M_right (nI m) J P N post := by
  refine ⟨n + 1, tl_right_out hA hM hm n 0 0 (by omega) (by omega) ?_⟩
  rw [← PL_PLf]
  exact h
end MQ9
