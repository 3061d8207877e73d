/-! faults: open nets and short pairs, the class -/
def sR (f : Nat → Nat) : Nat → Nat → Nat
  | _, 0 => 0
  | i, d + 1 => f i + sR f (i + 1) d
theorem sR_count (b : Nat → Bool) : ∀ d i, sR (fun m => if b m then 1 else 0) i d = (List.range' i d).countP b := by
  intro d
  induction d with
  | zero => intro i; rfl
  | succ d ih =>
    intro i
    show (if b i then 1 else 0) + sR _ (i + 1) d = _
    rw [ih, List.range'_succ, List.countP_cons]
    omega
theorem sR_congr {f g : Nat → Nat} : ∀ d i, (∀ m, i ≤ m → m < i + d → f m = g m) → sR f i d = sR g i d := by
  intro d
  induction d with
  | zero => intro i _; rfl
  | succ d ih =>
    intro i h
    show f i + sR f (i + 1) d = g i + sR g (i + 1) d
    rw [h i (by omega) (by omega), ih (i + 1) (fun m h1 h2 => h m (by omega) (by omega))]
abbrev oj (en : Nat → Nat × Nat) (ρ : Nat → Nat) (i j m : Nat) : Bool := decide ((en i).1 = (en j).1 ∧ ρ (en i).2 ≠ ρ (en j).2 ∧ m = (en i).1)
abbrev ng (en : Nat → Nat × Nat) (ρ : Nat → Nat) (k g m : Nat) : Bool := (List.range' 0 k).any (fun j => decide (ρ (en j).2 = g ∧ m = (en j).1))
abbrev jw (en : Nat → Nat × Nat) (ρ : Nat → Nat) (k m0 m : Nat) : Bool := (List.range' 0 k).any (fun i => decide ((en i).1 = m0) && ng en ρ k (ρ (en i).2) m)
section PRS
variable {ρ : Nat → Nat} {I : MI} {F : MF} {G : MG} {k : Nat} {en : Nat → Nat × Nat} {post : Int32 → Prop}
abbrev EF (k : Nat) (en : Nat → Nat × Nat) (ρ : Nat → Nat) (F : MF) : Prop := ∀ i, i < k → F 12 i = nI (en i).1 ∧ F 13 i = nI (ρ (en i).2) ∧ (en i).1 < 12 ∧ ρ (en i).2 < 528
theorem sl_on1 (hk : k ≤ 60) (hc : EF k en ρ F) {i : Nat} (hi : i < k) {K : Int32 → Int32 → Prop} : ∀ (d j : Nat) (x : Int32) (S : Nat → Bool), j + d = i → MS x S → (∀ x', MS x' (fun m => S m || (List.range' j d).any (fun j => oj en ρ i j m)) → K x' (nI i)) → wl_D_openNets_14 post K (nI i) I F G (d + 1) x (nI j) := by
  obtain ⟨a1, a2, a3, a4⟩ := hc i hi
  have vi := (nI_vp (a := i) (n := 60) (by omega)).mpr (by omega)
  intro d
  induction d with
  | zero =>
    intro j x S hj hS h
    have e : j = i := by omega
    subst e
    exact ⟨fun _ => h x (MS_congr hS (fun m _ => by simp)), fun c => absurd (nI_le (Nat.le_refl _) (by omega)) c⟩
  | succ d ih =>
    intro j x S hj hS h
    obtain ⟨b1, b2, b3, b4⟩ := hc j (by omega)
    have vj := (nI_vp (a := j) (n := 60) (by omega)).mpr (by omega)
    rw [List.range'_succ] at h
    unfold wl_D_openNets_14
    rw [nI_clamp (n := i) (by omega), nI_clamp (n := j) (by omega), a1, a2, b1, b2, nI_eq_iff (by omega) (by omega), nI_eq_iff (by omega) (by omega)]
    refine ⟨fun c => absurd c (nI_ge (by omega) (by omega)), fun _ => ⟨vi, vj, fun z y hy => ?_, fun z => ⟨vi, vj, fun w y hy => ?_, fun w => ⟨vi, fun u hu y hy => ?_⟩⟩⟩⟩
    · rw [hy, ← nI_succ]
      refine ih (j + 1) x S (by omega) hS (fun x' hx' => h x' (MS_congr hx' (fun m _ => ?_)))
      rw [List.any_cons, show oj en ρ i j m = false from decide_eq_false (fun v => z v.1), Bool.false_or]
    · rw [hy, ← nI_succ]
      refine ih (j + 1) x S (by omega) hS (fun x' hx' => h x' (MS_congr hx' (fun m _ => ?_)))
      rw [List.any_cons, show oj en ρ i j m = false from decide_eq_false (fun v => v.2.1 w), Bool.false_or]
    · rw [hy, ← nI_succ]
      refine ih (j + 1) u _ (by omega) (by rw [hu]; exact MS_or1 hS a3) (fun x' hx' => h x' (MS_congr hx' (fun m _ => ?_)))
      rw [List.any_cons, Bool.or_assoc]
      congr 2
      exact decide_eq_decide.mpr ⟨fun v => ⟨z, w, v⟩, fun v => v.2.2⟩
theorem sl_on2 (hk : k ≤ 60) (e3 : I 3 = nI k) (hc : EF k en ρ F) {K : Int32 → Int32 → Prop} : ∀ (d i : Nat) (x : Int32) (S : Nat → Bool), i + d = k → MS x S → (∀ x', MS x' (fun m => S m || (List.range' i d).any (fun i => (List.range' 0 i).any (fun j => oj en ρ i j m))) → K x' (nI k)) → wl_D_openNets_4 post K I F G (d + 1) x (nI i) := by
  intro d
  induction d with
  | zero =>
    intro i x S hi hS h
    have e : i = k := by omega
    subst e
    unfold wl_D_openNets_4
    rw [e3]
    exact ⟨fun _ => h x (MS_congr hS (fun m _ => by simp)), fun c => absurd (nI_le (Nat.le_refl _) (by omega)) c⟩
  | succ d ih =>
    intro i x S hi hS h
    rw [List.range'_succ] at h
    unfold wl_D_openNets_4
    rw [e3]
    refine ⟨fun c => absurd c (nI_ge (by omega) (by omega)), fun _ => ⟨i + 1, sl_on1 hk hc (by omega) i 0 x S (by omega) hS (fun x1 h1 y hy => ?_)⟩⟩
    rw [hy, ← nI_succ]
    refine ih (i + 1) x1 _ (by omega) h1 (fun x' hx' => h x' (MS_congr hx' (fun m _ => ?_)))
    rw [List.any_cons, Bool.or_assoc]
theorem sl_nig (hk : k ≤ 60) (e3 : I 3 = nI k) (hc : EF k en ρ F) {g : Nat} (hg : g < 528) {K : Int32 → Int32 → Prop} : ∀ (d j : Nat) (x : Int32) (S : Nat → Bool), j + d = k → MS x S → (∀ x', MS x' (fun m => S m || (List.range' j d).any (fun j => decide (ρ (en j).2 = g ∧ m = (en j).1))) → K x' (nI k)) → wl_D_netsInGroup_4 post K (nI g) I F G (d + 1) x (nI j) := by
  intro d
  induction d with
  | zero =>
    intro i x S hi hS h
    have e : i = k := by omega
    subst e
    unfold wl_D_netsInGroup_4
    rw [e3]
    exact ⟨fun _ => h x (MS_congr hS (fun m _ => by simp)), fun c => absurd (nI_le (Nat.le_refl _) (by omega)) c⟩
  | succ d ih =>
    intro j x S hj hS h
    obtain ⟨b1, b2, b3, b4⟩ := hc j (by omega)
    have vj := (nI_vp (a := j) (n := 60) (by omega)).mpr (by omega)
    rw [List.range'_succ] at h
    unfold wl_D_netsInGroup_4
    rw [e3, nI_clamp (n := j) (by omega), b1, b2, nI_eq_iff (by omega) (by omega)]
    refine ⟨fun c => absurd c (nI_ge (by omega) (by omega)), fun _ => ⟨vj, fun z y hy => ?_, fun z => ⟨vj, fun u hu y hy => ?_⟩⟩⟩
    · rw [hy, ← nI_succ]
      refine ih (j + 1) x S (by omega) hS (fun x' hx' => h x' (MS_congr hx' (fun m _ => ?_)))
      rw [List.any_cons, decide_eq_false (fun v => z v.1), Bool.false_or]
    · rw [hy, ← nI_succ]
      refine ih (j + 1) u _ (by omega) (by rw [hu]; exact MS_or1 hS b3) (fun x' hx' => h x' (MS_congr hx' (fun m _ => ?_)))
      rw [List.any_cons, Bool.or_assoc]
      congr 2
      exact decide_eq_decide.mpr ⟨fun v => ⟨z, v⟩, fun v => v.2⟩
theorem sl_njw (hk : k ≤ 60) (e3 : I 3 = nI k) (hc : EF k en ρ F) {m0 : Nat} (hm : m0 < 12) {K : Int32 → Int32 → Prop} : ∀ (d i : Nat) (x : Int32) (S : Nat → Bool), i + d = k → MS x S → (∀ x', MS x' (fun m => S m || (List.range' i d).any (fun i => decide ((en i).1 = m0) && ng en ρ k (ρ (en i).2) m)) → K x' (nI k)) → wl_D_netsJoinedWith_4 post K (nI m0) I F G (d + 1) x (nI i) := by
  intro d
  induction d with
  | zero =>
    intro i x S hi hS h
    have e : i = k := by omega
    subst e
    unfold wl_D_netsJoinedWith_4
    rw [e3]
    exact ⟨fun _ => h x (MS_congr hS (fun m _ => by simp)), fun c => absurd (nI_le (Nat.le_refl _) (by omega)) c⟩
  | succ d ih =>
    intro j x S hj hS h
    obtain ⟨b1, b2, b3, b4⟩ := hc j (by omega)
    have vj := (nI_vp (a := j) (n := 60) (by omega)).mpr (by omega)
    rw [List.range'_succ] at h
    unfold wl_D_netsJoinedWith_4
    rw [e3, nI_clamp (n := j) (by omega), b1, b2, nI_eq_iff (by omega) (by omega)]
    refine ⟨fun c => absurd c (nI_ge (by omega) (by omega)), fun _ => ⟨vj, fun z y hy => ?_, fun z => ⟨vj, k + 1, ?_⟩⟩⟩
    · rw [hy, ← nI_succ]
      refine ih (j + 1) x S (by omega) hS (fun x' hx' => h x' (MS_congr hx' (fun m _ => ?_)))
      rw [List.any_cons, decide_eq_false z, Bool.false_and, Bool.false_or]
    · refine sl_nig hk e3 hc b4 k 0 0 _ (by omega) MS_0 (fun r hr u hu y hy => ?_)
      rw [hy, ← nI_succ]
      refine ih (j + 1) u _ (by omega) (by rw [hu]; exact MS_orS hS hr) (fun x' hx' => h x' (MS_congr hx' (fun m _ => ?_)))
      rw [List.any_cons, Bool.or_assoc, decide_eq_true z, Bool.true_and, Bool.false_or]
theorem sl_sp (hk : k ≤ 60) (e3 : I 3 = nI k) (hc : EF k en ρ F) {K : Int32 → Int32 → Prop} : ∀ (d i acc : Nat), i + d = 12 → K (nI (acc + sR (fun m0 => cK (fun m => jw en ρ k m0 m && decide (m < m0))) i d)) (nI 12) → wl_D_shortPairs_4 post K I F G (d + 1) (nI acc) (nI i) := by
  intro d
  induction d with
  | zero =>
    intro i acc hi h
    have e : i = 12 := by omega
    subst e
    exact ⟨fun _ => h, fun c => absurd (nI_le (Nat.le_refl 12) (by decide)) c⟩
  | succ d ih =>
    intro i acc hi h
    refine ⟨fun c => absurd c (nI_ge (b := 12) (by omega) (by decide)), fun _ u hu => ⟨k + 1, sl_njw hk e3 hc (by omega) k 0 0 _ (by omega) MS_0 (fun r hr => ?_)⟩⟩
    rw [hu]
    refine s_bitCount (S := fun m => jw en ρ k i m && decide (m < i)) (MS_andS (MS_congr hr (fun m _ => by rw [Bool.false_or])) (MS_low i (by omega))) (fun x hx y hy => ?_)
    rw [hx, hy, ← nI_succ, nI_ad]
    refine ih (i + 1) _ (by omega) ?_
    rw [Nat.add_assoc]
    exact h
theorem s_openNets {A : Nat → Nat → Prop} (hE : CE 60 A ρ I F) (h : ∀ S : Nat → Bool, (∀ m, S m = true ↔ ∃ s s', A m s ∧ A m s' ∧ ρ s ≠ ρ s') → post (nI (cK S))) : wp_D_openNets I F G post := by
  obtain ⟨k, en, hk, e3, hc, hA⟩ := hE
  refine ⟨k + 1, sl_on2 hk e3 hc k 0 0 _ (by omega) MS_0 (fun x hx => s_bitCount hx (h _ (fun m => ?_)))⟩
  rw [Bool.false_or]
  simp only [List.any_eq_true, List.mem_range'_1, decide_eq_true_eq]
  constructor
  · rintro ⟨i, ⟨_, hi⟩, j, ⟨_, hj⟩, x1, x2, x3⟩
    refine ⟨(en i).2, (en j).2, (hA _ _).mpr ⟨i, by omega, ?_⟩, (hA _ _).mpr ⟨j, by omega, ?_⟩, x2⟩
    · rw [x3]
    · rw [x3, x1]
  · rintro ⟨s, s', h1, h2, h3⟩
    obtain ⟨i, hi, ei⟩ := (hA _ _).mp h1
    obtain ⟨j, hj, ej⟩ := (hA _ _).mp h2
    have ne : i ≠ j := fun z => h3 (by rw [z, ej] at ei; rw [(Prod.mk.inj ei).2])
    rcases Nat.lt_or_ge i j with z | z
    · exact ⟨j, ⟨by omega, by omega⟩, i, ⟨by omega, by omega⟩, by rw [ei, ej], by rw [ei, ej]; exact fun y => h3 y.symm, by rw [ej]⟩
    · exact ⟨i, ⟨by omega, by omega⟩, j, ⟨by omega, by omega⟩, by rw [ei, ej], by rw [ei, ej]; exact h3, by rw [ei]⟩
theorem s_shortPairs {A : Nat → Nat → Prop} (hE : CE 60 A ρ I F) (h : ∀ S : Nat → Nat → Bool, (∀ m0 m, S m0 m = true ↔ ∃ s s', A m0 s ∧ A m s' ∧ ρ s = ρ s') → post (nI (sR (fun m0 => cK (fun m => S m0 m && decide (m < m0))) 0 12))) : wp_D_shortPairs I F G post := by
  obtain ⟨k, en, hk, e3, hc, hA⟩ := hE
  have hh := h (jw en ρ k) (fun m0 m => ?_)
  · refine ⟨13, sl_sp hk e3 hc 12 0 0 rfl ?_⟩
    rw [Nat.zero_add]
    exact hh
  · simp only [jw, ng, List.any_eq_true, List.mem_range'_1, decide_eq_true_eq, Bool.and_eq_true]
    constructor
    · rintro ⟨i, ⟨_, hi⟩, x1, j, ⟨_, hj⟩, x2, x3⟩
      refine ⟨(en i).2, (en j).2, (hA _ _).mpr ⟨i, by omega, ?_⟩, (hA _ _).mpr ⟨j, by omega, ?_⟩, x2.symm⟩
      · rw [← x1]
      · rw [x3]
    · rintro ⟨s, s', h1, h2, h3⟩
      obtain ⟨i, hi, ei⟩ := (hA _ _).mp h1
      obtain ⟨j, hj, ej⟩ := (hA _ _).mp h2
      exact ⟨i, ⟨by omega, by omega⟩, by rw [ei], j, ⟨by omega, by omega⟩, by rw [ei, ej]; exact h3.symm, by rw [ej]⟩
end PRS
