/-! faults: the reference, and the call -/
def fl (T m : Nat) (L : List (Nat × Nat × Nat)) : List Nat := (L.filter (fun p => p.1 == m)).map (fun p => sp T p.2.1 p.2.2)
theorem fl_nil (T m : Nat) : fl T m [] = [] := rfl
theorem fl_pos {T m : Nat} {p : Nat × Nat × Nat} (L : List (Nat × Nat × Nat)) (h : p.1 = m) : fl T m (p :: L) = sp T p.2.1 p.2.2 :: fl T m L := by
  unfold fl
  rw [List.filter_cons_of_pos (by simp [h]), List.map_cons]
theorem fl_neg {T m : Nat} {p : Nat × Nat × Nat} (L : List (Nat × Nat × Nat)) (h : ¬ p.1 = m) : fl T m (p :: L) = fl T m L := by
  unfold fl
  rw [List.filter_cons_of_neg (by simp [h])]
theorem fl_app (T m : Nat) (L L' : List (Nat × Nat × Nat)) : fl T m (L ++ L') = fl T m L ++ fl T m L' := by
  unfold fl
  rw [List.filter_append, List.map_append]
/-- the ends of a net -/
def EM (n : Nat) (q : AQ) (T : Nat) (tr : Nat → Nat) (m : Nat) : List Nat := fl T m (PL n q) ++ (if padn n q m then [48 * tr m] else [])
theorem EM_mem {n : Nat} {q : AQ} {T : Nat} {tr : Nat → Nat} {m s : Nat} : s ∈ EM n q T tr m ↔ (∃ r c, (m, r, c) ∈ PL n q ∧ s = sp T r c) ∨ (padn n q m = true ∧ s = 48 * tr m) := by
  unfold EM fl
  rw [List.mem_append, List.mem_map]
  refine or_congr ⟨?_, ?_⟩ ?_
  · rintro ⟨⟨m', r, c⟩, hp, e⟩
    rw [List.mem_filter] at hp
    have : m' = m := by simpa using hp.2
    subst this
    exact ⟨r, c, hp.1, e.symm⟩
  · rintro ⟨r, c, hp, e⟩
    exact ⟨(m, r, c), List.mem_filter.mpr ⟨hp, by simp⟩, e.symm⟩
  · cases padn n q m <;> simp
theorem EM_lt {n : Nat} {q : AQ} {nx : Nat → Nat} (hA : AInv n q nx) {T : Nat} {tr : Nat → Nat} {m s : Nat} (ht : tr m ≤ T) (h : s ∈ EM n q T tr m) : s < 48 * (T + 2) := by
  rcases EM_mem.mp h with ⟨r, c, hp, e⟩ | ⟨_, e⟩
  · have := (PL_mem hA hp).2.2.2.2
    simp only at this
    rw [e]; exact sp_lt (by omega)
  · omega
theorem EM_len {n : Nat} {q : AQ} {nx : Nat → Nat} (hA : AInv n q nx) {T : Nat} {tr : Nat → Nat} (m : Nat) : (EM n q T tr m).length ≤ 37 := by
  unfold EM fl
  have h1 := PL_len n q
  have h2 := hA.1
  have h3 := List.length_filter_le (fun p : Nat × Nat × Nat => p.1 == m) (PL n q)
  rw [List.length_append, List.length_map]
  split
  · rw [List.length_singleton]; omega
  · rw [List.length_nil]; omega
theorem oI_inj {o o' : Option Nat} (h : ∀ g, o = some g → g < 2 ^ 31) (h' : ∀ g, o' = some g → g < 2 ^ 31) : oI o = oI o' ↔ o = o' := by
  cases o with
  | none =>
    cases o' with
    | none => exact ⟨fun _ => rfl, fun _ => rfl⟩
    | some b => rw [oI_none, oI_some, nM_nI (h' b rfl)]; exact ⟨fun z => z.elim, fun z => absurd z (by simp)⟩
  | some a =>
    cases o' with
    | none => rw [oI_none, oI_some, nI_nM (h a rfl)]; exact ⟨fun z => z.elim, fun z => absurd z (by simp)⟩
    | some b => rw [oI_some, oI_some, nI_eq_iff (h a rfl) (h' b rfl)]; exact ⟨fun z => by rw [z], fun z => Option.some.inj z⟩
section FLT
variable {n : Nat} {q : AQ} {nx : Nat → Nat} {T : Nat} {tr : Nat → Nat} {J : MI} {P : MF} {N : MG} {E : Nat → Nat → Prop} {lab : Nat → Nat} {m : Nat} {post : Int32 → Prop}
theorem tl_pl1 (hA : AInv n q nx) (hM : MInv n q nx J P) (hT : T ≤ 9) (h2 : J 2 = nI T) (hL : ML E (48 * (T + 2)) P lab) (hm : m < 12) {g : Nat} (hg : g < n) {a2 : Int32} {K : Int32 → Int32 → Prop} : ∀ (d i a : Nat), i + d = npn q g → a ≤ 60 → (∀ s, (fl T m (gpf q g i d))[a]? = some s → post (nI (lab s))) → ((fl T m (gpf q g i d)).length ≤ a → K (nI (a - (fl T m (gpf q g i d)).length)) (nI (npn q g))) → wl_M_place_17 post K (nI m) a2 (nI g) J P N (d + 1) (nI a) (nI i) := by
  have hp := npn_or q g
  have hn := hA.1
  intro d
  induction d with
  | zero =>
    intro i a hi ha h1 h0
    have e : i = npn q g := by omega
    subst e
    exact t_pinsOf hA hM hg ⟨fun _ => h0 (Nat.zero_le _), fun c => absurd (nI_le (Nat.le_refl _) (by omega)) c⟩
  | succ d ih =>
    intro i a hi ha h1 h0
    have hb := ntn_lt hA (i := i) hg
    rw [gpf_succ] at h1 h0
    refine t_pinsOf hA hM hg ⟨fun c => absurd c (nI_ge (by omega) (by omega)), fun _ => t_netOf hA hM hg (by omega) ?_⟩
    rw [nI_eq_iff (by omega) (by omega), i_0, nI_eq_iff (by omega) (by omega)]
    refine ⟨fun z => ⟨fun w x hx y hy => ?_, fun w => t_pinAt hA hM hT h2 hg (by omega) hL ?_⟩, fun z y hy => ?_⟩
    · rw [fl_pos _ z] at h1 h0
      obtain ⟨b, rfl⟩ : ∃ b, a = b + 1 := ⟨a - 1, by omega⟩
      rw [hx, ix_s, hy, ← nI_succ]
      refine ih (i + 1) b (by omega) (by omega) (fun s hs => h1 s ?_) (fun hl => ?_)
      · rw [List.getElem?_cons_succ]; exact hs
      · have := h0 (by rw [List.length_cons]; omega)
        rw [List.length_cons, show b + 1 - ((fl T m (gpf q g (i + 1) d)).length + 1) = b - (fl T m (gpf q g (i + 1) d)).length by omega] at this
        exact this
    · rw [fl_pos _ z] at h1
      subst w
      exact h1 _ rfl
    · rw [fl_neg _ z] at h1 h0
      rw [hy, ← nI_succ]
      exact ih (i + 1) a (by omega) ha h1 h0
theorem tl_pl2 (hA : AInv n q nx) (hM : MInv n q nx J P) (hT : T ≤ 9) (h2 : J 2 = nI T) (hL : ML E (48 * (T + 2)) P lab) (hm : m < 12) {a2 : Int32} {K : Int32 → Int32 → Prop} : ∀ (d g a : Nat), g + d = n → a ≤ 60 → (∀ s, (fl T m (PLf q g d))[a]? = some s → post (nI (lab s))) → ((fl T m (PLf q g d)).length ≤ a → K (nI (a - (fl T m (PLf q g d)).length)) (nI n)) → wl_M_place_5 post K (nI m) a2 J P N (d + 1) (nI a) (nI g) := by
  have hn := hA.1
  intro d
  induction d with
  | zero =>
    intro g a hi ha h1 h0
    have e : g = n := by omega
    subst e
    unfold wl_M_place_5
    rw [hM.1]
    exact ⟨fun _ => h0 (Nat.zero_le _), fun c => absurd (nI_le (Nat.le_refl _) (by omega)) c⟩
  | succ d ih =>
    intro g a hi ha h1 h0
    rw [PLf_succ, fl_app] at h1 h0
    unfold wl_M_place_5
    rw [hM.1]
    refine ⟨fun c => absurd c (nI_ge (by omega) (by omega)), fun _ => ⟨npn q g + 1, tl_pl1 hA hM hT h2 hL hm (by omega) (npn q g) 0 a (by omega) ha (fun s hs => ?_) (fun hl x hx => ?_)⟩⟩
    · rw [← gp_gpf] at hs
      obtain ⟨hlt, _⟩ := List.getElem?_eq_some_iff.mp hs
      exact h1 s (by rw [List.getElem?_append_left hlt]; exact hs)
    · rw [← gp_gpf] at hl ⊢
      rw [hx, ← nI_succ]
      refine ih (g + 1) _ (by omega) (by omega) (fun s hs => h1 s ?_) (fun hl2 => ?_)
      · rw [List.getElem?_append_right hl]; exact hs
      · have := h0 (by rw [List.length_append]; omega)
        rw [List.length_append, Nat.sub_add_eq] at this
        exact this
theorem t_place (hA : AInv n q nx) (hM : MInv n q nx J P) (hR : RM n q T tr J P) (hL : ML E (48 * (T + 2)) P lab) (hm : m < 12) {a : Nat} (ha : a ≤ 60) (h : post (oI ((EM n q T tr m)[a]?.map lab))) : wp_M_place (nI m) (nI a) J P N post := by
  obtain ⟨hT, h2, h3⟩ := hR
  obtain ⟨e7, ht, _⟩ := h3 m hm
  have hn := hA.1
  unfold EM at h
  refine ⟨n + 1, tl_pl2 hA hM hT h2 hL hm n 0 a (by omega) ha (fun s hs => ?_) (fun hl => ?_)⟩
  · rw [← PL_PLf] at hs
    obtain ⟨hlt, _⟩ := List.getElem?_eq_some_iff.mp hs
    rw [List.getElem?_append_left hlt, hs] at h
    exact h
  · rw [← PL_PLf] at hl ⊢
    rw [List.getElem?_append_right hl] at h
    show ((¬ nI _ = 0 → post (-1)) ∧ (nI _ = 0 → _))
    rw [show (nI (a - (fl T m (PL n q)).length) = 0) = (a - (fl T m (PL n q)).length = 0) from propext (nI_eq_iff (b := 0) (by omega) (by omega))]
    generalize a - (fl T m (PL n q)).length = b at h
    refine ⟨fun z => ?_, fun z => t_hasPad hA hM hm (br (fun y => ?_) (fun y => ⟨(nI_vp (by omega)).mpr hm, ?_⟩))⟩
    · have : (if padn n q m = true then [48 * tr m] else [])[b]? = none := by
        rw [List.getElem?_eq_none_iff]
        split
        · rw [List.length_singleton]; omega
        · exact Nat.zero_le _
      rw [this] at h
      exact h
    · rw [if_neg (by rw [y]; decide)] at h
      exact h
    · rw [if_pos y, z] at h
      rw [nI_clamp (n := m) (by omega), e7, i_48, nI_mul, nI_clamp (by omega), (hL (48 * tr m) (by omega)).1]
      exact ⟨(nI_vp (by omega)).mpr (by omega), h⟩
theorem EM_bd (hA : AInv n q nx) (hR : RM n q T tr J P) (hL : ML E (48 * (T + 2)) P lab) (hm : m < 12) (a : Nat) : ∀ g, (EM n q T tr m)[a]?.map lab = some g → g < 2 ^ 31 := by
  intro g hg
  obtain ⟨s, hs, rfl⟩ := Option.map_eq_some_iff.mp hg
  have h1 := EM_lt hA (hR.2.2 m hm).2.1 (List.mem_of_getElem? hs)
  have h2 := (hL s h1).2.1
  have := hR.1
  omega
theorem tl_open (hA : AInv n q nx) (hM : MInv n q nx J P) (hR : RM n q T tr J P) (hL : ML E (48 * (T + 2)) P lab) (hm : m < 12) {K : Int32 → Prop} : ∀ (d i : Nat), (EM n q T tr m).length ≤ i + d → i ≤ 38 → ((∃ k, i ≤ k ∧ k < (EM n q T tr m).length ∧ (EM n q T tr m)[k]?.map lab ≠ (EM n q T tr m)[0]?.map lab) → post 1) → ((∀ k, i ≤ k → k < (EM n q T tr m).length → (EM n q T tr m)[k]?.map lab = (EM n q T tr m)[0]?.map lab) → ∀ x, K x) → wl_M_isOpen_2 post K (nI m) J P N (d + 1) (nI i) := by
  have hlen := EM_len hA (T := T) (tr := tr) m
  intro d
  induction d with
  | zero =>
    intro i hi h38 h1 h0
    refine t_place hA hM hR hL hm (by omega) ?_
    rw [List.getElem?_eq_none (by omega)]
    exact ⟨fun _ => h0 (fun k _ _ => by omega) _, fun c => absurd rfl c⟩
  | succ d ih =>
    intro i hi h38 h1 h0
    have b1 := EM_bd hA hR hL hm i
    have b0 := EM_bd hA hR hL hm 0
    refine t_place hA hM hR hL hm (by omega) ?_
    rw [i_m1, oI_nM b1]
    refine ⟨fun z => h0 (fun k hk hl => ?_) _, fun z => ?_⟩
    · rw [Option.map_eq_none_iff, List.getElem?_eq_none_iff] at z
      omega
    · have hlt : i < (EM n q T tr m).length := by
        rcases Nat.lt_or_ge i (EM n q T tr m).length with w | w
        · exact w
        · rw [List.getElem?_eq_none w] at z; exact absurd rfl z
      refine t_place hA hM hR hL hm (by omega) (t_place (a := 0) hA hM hR hL hm (by omega) ?_)
      rw [oI_inj b1 b0]
      refine ⟨fun e x hx => ?_, fun e => h1 ⟨i, Nat.le_refl _, hlt, e⟩⟩
      rw [hx, ← nI_succ]
      refine ih (i + 1) (by omega) (by omega) (fun ⟨k, k1, k2⟩ => h1 ⟨k, by omega, k2⟩) (fun hh => h0 (fun k k1 k2 => ?_))
      by_cases w : k = i
      · rw [w]; exact e
      · exact hh k (by omega) k2
theorem t_isOpen (hA : AInv n q nx) (hM : MInv n q nx J P) (hR : RM n q T tr J P) (hL : ML E (48 * (T + 2)) P lab) (hm : m < 12) {b : Bool} (hb : b = true ↔ ∃ s s', s ∈ EM n q T tr m ∧ s' ∈ EM n q T tr m ∧ lab s ≠ lab s') (h : post (bI b)) : wp_M_isOpen (nI m) J P N post := by
  have hlen := EM_len hA (T := T) (tr := tr) m
  refine ⟨38, tl_open hA hM hR hL hm 37 1 (by omega) (by omega) (fun ⟨k, k1, k2, k3⟩ => ?_) (fun hh _ => ?_)⟩
  · have : b = true := hb.mpr ⟨(EM n q T tr m)[k], (EM n q T tr m)[0], List.getElem_mem _, List.getElem_mem _, fun z => k3 ?_⟩
    · rw [this] at h; exact h
    · rw [List.getElem?_eq_getElem k2, List.getElem?_eq_getElem (show 0 < _ by omega), Option.map_some, Option.map_some, z]
  · have : b = false := by
      rw [← Bool.not_eq_true, hb]
      rintro ⟨s, s', x1, x2, x3⟩
      obtain ⟨i, hi, rfl⟩ := List.getElem_of_mem x1
      obtain ⟨j, hj, rfl⟩ := List.getElem_of_mem x2
      have key : ∀ i (hi : i < (EM n q T tr m).length), lab ((EM n q T tr m)[i]) = lab ((EM n q T tr m)[0]'(by omega)) := by
        intro i hi
        by_cases w : i = 0
        · subst w; rfl
        · have := hh i (by omega) hi
          rw [List.getElem?_eq_getElem hi, List.getElem?_eq_getElem (show 0 < _ by omega), Option.map_some, Option.map_some] at this
          exact Option.some.inj this
      exact x3 ((key i hi).trans (key j hj).symm)
    rw [this] at h; exact h
theorem tl_sh1 (hA : AInv n q nx) (hM : MInv n q nx J P) (hR : RM n q T tr J P) (hL : ML E (48 * (T + 2)) P lab) (hm : m < 12) {m2 i : Nat} (hm2 : m2 < 12) (hi38 : i ≤ 38) {K : Int32 → Prop} : ∀ (d j : Nat), (EM n q T tr m2).length ≤ j + d → j ≤ 38 → ((∃ k, j ≤ k ∧ k < (EM n q T tr m2).length ∧ (EM n q T tr m)[i]?.map lab = (EM n q T tr m2)[k]?.map lab) → post 1) → ((∀ k, j ≤ k → k < (EM n q T tr m2).length → (EM n q T tr m)[i]?.map lab ≠ (EM n q T tr m2)[k]?.map lab) → ∀ x, K x) → wl_M_isShort_15 post K (nI m) (nI m2) (nI i) J P N (d + 1) (nI j) := by
  have hlen := EM_len hA (T := T) (tr := tr) m2
  intro d
  induction d with
  | zero =>
    intro j hj h38 h1 h0
    refine t_place hA hM hR hL hm2 (by omega) ?_
    rw [List.getElem?_eq_none (by omega)]
    exact ⟨fun _ => h0 (fun k _ _ => by omega) _, fun c => absurd rfl c⟩
  | succ d ih =>
    intro j hj h38 h1 h0
    have b1 := EM_bd hA hR hL hm2 j
    have b0 := EM_bd hA hR hL hm i
    refine t_place hA hM hR hL hm2 (by omega) ?_
    rw [i_m1, oI_nM b1]
    refine ⟨fun z => h0 (fun k hk hl => ?_) _, fun z => ?_⟩
    · rw [Option.map_eq_none_iff, List.getElem?_eq_none_iff] at z
      omega
    · have hlt : j < (EM n q T tr m2).length := by
        rcases Nat.lt_or_ge j (EM n q T tr m2).length with w | w
        · exact w
        · rw [List.getElem?_eq_none w] at z; exact absurd rfl z
      refine t_place hA hM hR hL hm (by omega) (t_place hA hM hR hL hm2 (by omega) ?_)
      rw [oI_inj b0 b1]
      refine ⟨fun e x hx => ?_, fun e => h1 ⟨j, Nat.le_refl _, hlt, e⟩⟩
      rw [hx, ← nI_succ]
      refine ih (j + 1) (by omega) (by omega) (fun ⟨k, k1, k2⟩ => h1 ⟨k, by omega, k2⟩) (fun hh => h0 (fun k k1 k2 => ?_))
      by_cases w : k = j
      · rw [w]; exact e
      · exact hh k (by omega) k2
theorem tl_sh2 (hA : AInv n q nx) (hM : MInv n q nx J P) (hR : RM n q T tr J P) (hL : ML E (48 * (T + 2)) P lab) (hm : m < 12) {m2 : Nat} (hm2 : m2 < 12) {K : Int32 → Prop} : ∀ (d i : Nat), (EM n q T tr m).length ≤ i + d → i ≤ 38 → ((∃ k k', i ≤ k ∧ k < (EM n q T tr m).length ∧ k' < (EM n q T tr m2).length ∧ (EM n q T tr m)[k]?.map lab = (EM n q T tr m2)[k']?.map lab) → post 1) → ((∀ k k', i ≤ k → k < (EM n q T tr m).length → k' < (EM n q T tr m2).length → (EM n q T tr m)[k]?.map lab ≠ (EM n q T tr m2)[k']?.map lab) → ∀ x, K x) → wl_M_isShort_2 post K (nI m) (nI m2) J P N (d + 1) (nI i) := by
  have hlen := EM_len hA (T := T) (tr := tr) m
  have hlen2 := EM_len hA (T := T) (tr := tr) m2
  intro d
  induction d with
  | zero =>
    intro i hi h38 h1 h0
    refine t_place hA hM hR hL hm (by omega) ?_
    rw [List.getElem?_eq_none (by omega)]
    exact ⟨fun _ => h0 (fun k _ _ _ => by omega) _, fun c => absurd rfl c⟩
  | succ d ih =>
    intro i hi h38 h1 h0
    have b1 := EM_bd hA hR hL hm i
    refine t_place hA hM hR hL hm (by omega) ?_
    rw [i_m1, oI_nM b1]
    refine ⟨fun z => h0 (fun k k' hk hl => ?_) _, fun z => ⟨38, tl_sh1 hA hM hR hL hm hm2 h38 37 0 (by omega) (by omega) (fun ⟨k, k1, k2, k3⟩ => ?_) (fun hh x y hy => ?_)⟩⟩
    · rw [Option.map_eq_none_iff, List.getElem?_eq_none_iff] at z
      omega
    · have hlt : i < (EM n q T tr m).length := by
        rcases Nat.lt_or_ge i (EM n q T tr m).length with w | w
        · exact w
        · rw [List.getElem?_eq_none w] at z; exact absurd rfl z
      exact h1 ⟨i, k, Nat.le_refl _, hlt, k2, k3⟩
    · have hlt : i < (EM n q T tr m).length := by
        rcases Nat.lt_or_ge i (EM n q T tr m).length with w | w
        · exact w
        · rw [List.getElem?_eq_none w] at z; exact absurd rfl z
      rw [hy, ← nI_succ]
      refine ih (i + 1) (by omega) (by omega) (fun ⟨k, k', k1, k2⟩ => h1 ⟨k, k', by omega, k2⟩) (fun h3 => h0 (fun k k' k1 k2 k3 => ?_))
      by_cases w : k = i
      · rw [w]; exact hh k' (by omega) k3
      · exact h3 k k' (by omega) k2 k3
theorem t_isShort (hA : AInv n q nx) (hM : MInv n q nx J P) (hR : RM n q T tr J P) (hL : ML E (48 * (T + 2)) P lab) (hm : m < 12) {m2 : Nat} (hm2 : m2 < 12) {b : Bool} (hb : b = true ↔ ∃ s s', s ∈ EM n q T tr m ∧ s' ∈ EM n q T tr m2 ∧ lab s = lab s') (h : post (bI b)) : wp_M_isShort (nI m) (nI m2) J P N post := by
  have hlen := EM_len hA (T := T) (tr := tr) m
  refine ⟨38, tl_sh2 hA hM hR hL hm hm2 37 0 (by omega) (by omega) (fun ⟨k, k', k1, k2, k3, k4⟩ => ?_) (fun hh _ => ?_)⟩
  · rw [List.getElem?_eq_getElem k2, List.getElem?_eq_getElem k3, Option.map_some, Option.map_some] at k4
    have : b = true := hb.mpr ⟨_, _, List.getElem_mem k2, List.getElem_mem k3, Option.some.inj k4⟩
    rw [this] at h; exact h
  · have : b = false := by
      rw [← Bool.not_eq_true, hb]
      rintro ⟨s, s', x1, x2, x3⟩
      obtain ⟨i, hi, rfl⟩ := List.getElem_of_mem x1
      obtain ⟨j, hj, rfl⟩ := List.getElem_of_mem x2
      refine hh i j (by omega) hi hj ?_
      rw [List.getElem?_eq_getElem hi, List.getElem?_eq_getElem hj, Option.map_some, Option.map_some, x3]
    rw [this] at h; exact h
end FLT
section FLU
variable {n : Nat} {q : AQ} {nx : Nat → Nat} {T : Nat} {tr : Nat → Nat} {J : MI} {P : MF} {N : MG} {E : Nat → Nat → Prop} {lab : Nat → Nat} {post : Int32 → MI → MF → MG → Prop}
theorem tl_f0 (hA : AInv n q nx) (hM : MInv n q nx J P) (hR : RM n q T tr J P) (hL : ML E (48 * (T + 2)) P lab) {op : Nat → Bool} (hop : ∀ m, m < 12 → wirn n q m = true → (op m = true ↔ ∃ s s', s ∈ EM n q T tr m ∧ s' ∈ EM n q T tr m ∧ lab s ≠ lab s')) {K : Int32 → Int32 → Prop} : ∀ (d i acc : Nat), i + d = 12 → K (nI (acc + sR (fun m => if wirn n q m && op m then 1 else 0) i d)) (nI 12) → wl_M_faults_27 post K 0 J P N (d + 1) (nI acc) (nI i) := by
  intro d
  induction d with
  | zero =>
    intro i acc hi h
    have e : i = 12 := by omega
    subst e
    exact ⟨fun _ => h, fun c => absurd (nI_le (Nat.le_refl 12) (by decide)) c⟩
  | succ d ih =>
    intro i acc hi h
    have hs : sR (fun m => if wirn n q m && op m then 1 else 0) i (d + 1) = (if wirn n q i && op i then 1 else 0) + sR (fun m => if wirn n q m && op m then 1 else 0) (i + 1) d := rfl
    rw [hs] at h
    refine ⟨fun c => absurd c (nI_ge (b := 12) (by omega) (by decide)), fun _ => t_isWired hA hM (by omega) (br' (fun w => ⟨fun c => absurd rfl c, fun _ => t_isOpen hA hM hR hL (by omega) (hop i (by omega) w) (br (fun z => ⟨1, ?_⟩) (fun z y hy => ⟨1, ?_⟩))⟩) (fun w y hy => ?_))⟩
    · have k : ∀ x : Int32, x = nI i + 1 → wl_M_faults_27 post K 0 J P N (d + 1) (nI acc) x := by
        intro x hx
        rw [hx, ← nI_succ]
        refine ih (i + 1) acc (by omega) ?_
        rw [z, Bool.and_false, if_neg (by decide), Nat.zero_add] at h
        exact h
      exact ⟨fun _ => k, fun _ => ⟨fun _ => k, fun c => absurd rfl c⟩⟩
    · have k : ∀ x : Int32, x = nI i + 1 → wl_M_faults_27 post K 0 J P N (d + 1) y x := by
        intro x hx
        rw [hx, ← nI_succ, hy, ← nI_succ]
        refine ih (i + 1) (acc + 1) (by omega) ?_
        rw [w, z, Bool.and_self, if_pos rfl, ← Nat.add_assoc] at h
        exact h
      exact ⟨fun _ => k, fun _ => ⟨fun _ => k, fun c => absurd rfl c⟩⟩
    · rw [hy, ← nI_succ]
      refine ih (i + 1) acc (by omega) ?_
      rw [w, Bool.false_and, if_neg (by decide), Nat.zero_add] at h
      exact h
theorem tl_f1in (hA : AInv n q nx) (hM : MInv n q nx J P) (hR : RM n q T tr J P) (hL : ML E (48 * (T + 2)) P lab) {sh : Nat → Nat → Bool} (hsh : ∀ m, m < 12 → ∀ k, k < 12 → wirn n q m = true → wirn n q k = true → (sh m k = true ↔ ∃ s s', s ∈ EM n q T tr m ∧ s' ∈ EM n q T tr k ∧ lab s = lab s')) {m : Nat} (hm : m < 12) (hw : wirn n q m = true) {K : Int32 → Int32 → Prop} : ∀ (d i acc : Nat), i + d = m → K (nI (acc + (List.range' i d).countP (fun k => wirn n q k && sh m k))) (nI m) → wl_M_faults_62 post K 1 (nI m) J P N (d + 1) (nI acc) (nI i) := by
  intro d
  induction d with
  | zero =>
    intro i acc hi h
    have e : i = m := by omega
    subst e
    exact ⟨fun _ => h, fun c => absurd (nI_le (Nat.le_refl _) (by omega)) c⟩
  | succ d ih =>
    intro i acc hi h
    rw [List.range'_succ, List.countP_cons] at h
    refine ⟨fun c => absurd c (nI_ge (by omega) (by omega)), fun _ => ⟨fun c => absurd c (by decide), fun _ => t_isWired hA hM (by omega) (br (fun w y hy => ?_) (fun w => t_isShort hA hM hR hL hm (by omega) (hsh m hm i (by omega) hw w) (br (fun z y hy => ?_) (fun z x hx y hy => ?_))))⟩⟩
    · rw [hy, ← nI_succ]
      refine ih (i + 1) acc (by omega) ?_
      rw [w, Bool.false_and, if_neg (by decide), Nat.add_zero] at h
      exact h
    · rw [hy, ← nI_succ]
      refine ih (i + 1) acc (by omega) ?_
      rw [z, Bool.and_false, if_neg (by decide), Nat.add_zero] at h
      exact h
    · rw [hy, ← nI_succ, hx, ← nI_succ]
      refine ih (i + 1) (acc + 1) (by omega) ?_
      rw [w, z, Bool.and_self, if_pos rfl, show ∀ c, acc + (c + 1) = acc + 1 + c by omega] at h
      exact h
theorem tl_f1 (hA : AInv n q nx) (hM : MInv n q nx J P) (hR : RM n q T tr J P) (hL : ML E (48 * (T + 2)) P lab) {sh : Nat → Nat → Bool} (hsh : ∀ m, m < 12 → ∀ k, k < 12 → wirn n q m = true → wirn n q k = true → (sh m k = true ↔ ∃ s s', s ∈ EM n q T tr m ∧ s' ∈ EM n q T tr k ∧ lab s = lab s')) {K : Int32 → Int32 → Prop} : ∀ (d i acc : Nat), i + d = 12 → K (nI (acc + sR (fun m => if wirn n q m then (List.range' 0 m).countP (fun k => wirn n q k && sh m k) else 0) i d)) (nI 12) → wl_M_faults_27 post K 1 J P N (d + 1) (nI acc) (nI i) := by
  intro d
  induction d with
  | zero =>
    intro i acc hi h
    have e : i = 12 := by omega
    subst e
    exact ⟨fun _ => h, fun c => absurd (nI_le (Nat.le_refl 12) (by decide)) c⟩
  | succ d ih =>
    intro i acc hi h
    have hs : sR (fun m => if wirn n q m then (List.range' 0 m).countP (fun k => wirn n q k && sh m k) else 0) i (d + 1) = (if wirn n q i then (List.range' 0 i).countP (fun k => wirn n q k && sh i k) else 0) + sR (fun m => if wirn n q m then (List.range' 0 m).countP (fun k => wirn n q k && sh m k) else 0) (i + 1) d := rfl
    rw [hs] at h
    refine ⟨fun c => absurd c (nI_ge (b := 12) (by omega) (by decide)), fun _ => t_isWired hA hM (by omega) (br' (fun w => ⟨fun _ => ⟨i + 1, tl_f1in hA hM hR hL hsh (by omega) w i 0 acc (by omega) (fun y hy => ?_)⟩, fun c => absurd c (by decide)⟩) (fun w y hy => ?_))⟩
    · rw [hy, ← nI_succ]
      refine ih (i + 1) _ (by omega) ?_
      rw [if_pos w, ← Nat.add_assoc] at h
      exact h
    · rw [hy, ← nI_succ]
      refine ih (i + 1) acc (by omega) ?_
      rw [w, if_neg (by decide), Nat.zero_add] at h
      exact h
end FLU
theorem padn_wirn {n : Nat} {q : AQ} {m : Nat} (h : padn n q m = true) : wirn n q m = true := by unfold wirn; rw [h, Bool.or_true]
theorem padn_lt {n : Nat} {q : AQ} {nx : Nat → Nat} (hA : AInv n q nx) {m : Nat} (h : wirn n q m = true) : m < 12 := by
  have := wirn_pos h
  obtain ⟨p, hp, e⟩ := List.countP_pos_iff.mp this
  have e : p.1 = m := by simpa using e
  rw [← e]; exact (PL_mem hA hp).1
theorem BP_EM {n : Nat} {q : AQ} {nx : Nat → Nat} (hA : AInv n q nx) {T : Nat} {tr : Nat → Nat} (m s : Nat) : BP n q T tr 12 m s ↔ wirn n q m = true ∧ s ∈ EM n q T tr m := by
  rw [EM_mem]
  unfold BP AP
  constructor
  · rintro (⟨r, c, hr, hc, ha, hw, e⟩ | ⟨hm, hp, e⟩)
    · exact ⟨hw, Or.inl ⟨r, c, (atn_mem hA).mp ha, e⟩⟩
    · exact ⟨padn_wirn hp, Or.inr ⟨hp, e⟩⟩
  · rintro ⟨hw, ⟨r, c, hp, e⟩ | ⟨hp, e⟩⟩
    · obtain ⟨_, hr, _, _, hc⟩ := PL_mem hA hp
      simp only at hr hc
      exact Or.inl ⟨r, c, hr, by omega, (atn_mem hA).mpr hp, hw, e⟩
    · exact Or.inr ⟨padn_lt hA hw, hp, e⟩
theorem cnt_low (p : Nat → Bool) {m : Nat} : ∀ N, m ≤ N → (List.range N).countP (fun k => p k && decide (k < m)) = (List.range m).countP p := by
  intro N
  induction N with
  | zero =>
    intro h
    have : m = 0 := by omega
    subst this; rfl
  | succ N ih =>
    intro h
    by_cases z : m = N + 1
    · subst z
      apply List.countP_congr
      intro x hx
      rw [decide_eq_true (List.mem_range.mp hx), Bool.and_true]
    · rw [List.range_succ, List.countP_append, ih (by omega)]
      simp [show ¬ N < m by omega]
theorem g_faults {I : MI} {F : MF} {G : MG} {J : MI} {P : MF} {N : MG} (h : Sm I F G J P N) (z : Int32) (v : Int64) (hz : z = 0 ∨ z = 1) : st_faults Sm z v I F G J P N := by
  obtain ⟨n, q, nx, hA, hC, hM, hT, hR⟩ := id h
  have hn := hA.1
  unfold st_faults wq_faults wp_F_faults wp_F_needRouted
  rcases hR with hU | ⟨T, tr, dw, hR⟩
  · rw [hU.1]
    refine ⟨fun c => absurd rfl c, fun _ => ⟨rfl, ?_⟩⟩
    unfold wp_M_faults
    rw [hU.2]
    refine ⟨fun c => absurd rfl c, fun _ => rf_i ?_⟩
    exact ⟨rfl, fun z => absurd z (by decide), Sm_thr 1 h⟩
  · have hT9 := hR.2.1
    have hi2 := hR.2.2.1
    have hj2 := hR.2.2.2.1
    rw [hR.1]
    refine ⟨fun _ => ?_, fun c => absurd c (by decide)⟩
    refine s_findGroups hT9 hi2 hR.DC (fun F1 ρ b1 b2 b3 => ?_)
    have hC1 := hC.ofF (F' := F1) (fun k hk => b1 k (by omega))
    refine s_collectEnds (tr := tr) hA hC1 hT9 hi2 (fun m hm => (hR.2.2.2.2.1 m hm).2.2.1) (fun m hm => by rw [b1 10 (by omega)]; exact (hR.2.2.2.2.1 m hm).1) b2 (fun I2 F2 c1 c2 c3 => ?_)
    have hF2 : ∀ k, k ≠ 11 → k ≠ 12 → k ≠ 13 → F2 k = F k := fun k k1 k2 k3 => (c2 k k1 k2 k3).trans (b1 k k1)
    have c3 := c3.congr (BP_EM hA)
    have lt : ∀ m s, wirn n q m = true → s ∈ EM n q T tr m → s < 48 * (T + 2) := fun m s hw hs => EM_lt hA ((hR.2.2.2.2.1 m (padn_lt hA hw)).2.2.1) hs
    have md : ∀ (x : Nat) (hx : ∀ (J1 : MI) (P1 : MF) (lab : Nat → Nat), MInv n q nx J1 P1 → RM n q T tr J1 P1 → ML (Ed T dw) (48 * (T + 2)) P1 lab → (∀ s s', s < 48 * (T + 2) → s' < 48 * (T + 2) → (ρ s = ρ s' ↔ lab s = lab s')) → ∀ (post : Int32 → MI → MF → MG → Prop) (K : Int32 → Int32 → Prop), K (nI x) (nI 12) → wl_M_faults_27 post K z J1 P1 N 13 (nI 0) (nI 0)), wp_M_faults z J P N (fun b J1 P1 N1 => wp_M_thrown J1 P1 N1 (fun th => th = 0 ∧ ((0 : Int32) = 0 → (nI x).toInt64 = b.toInt64) ∧ Sm I2 F2 G J1 P1 N1)) := by
      intro x hx
      unfold wp_M_faults
      rw [hj2, i_m1, nI_nM (by omega)]
      refine ⟨fun _ J1 j1 => ?_, fun c => absurd c id⟩
      have hM1 : MInv n q nx J1 P := hM.ofP (by rw [j1]; rfl) (fun _ _ => rfl)
      have j12 : J1 2 = nI T := by rw [j1]; exact hj2
      refine t_find hT9 j12 hR.DM (fun P1 lab x1 x2 x3 => ⟨13, ?_⟩)
      have hM2 := hM1.ofP (J' := J1) (P' := P1) rfl (fun k hk => x1 k (by omega))
      have hRM : RM n q T tr J1 P1 := hR.M.ofP (by rw [j1]; rfl) (x1 7 (by omega))
      refine hx J1 P1 lab hM2 hRM x2 (fun s s' hs hs' => ?_) _ _ ?_
      · rw [Gd_iff x3 hs hs', ← Gd_iff b3 (show s < 528 by omega) (show s' < 528 by omega)]
      · exact ⟨by rw [j1]; rfl, fun _ => rfl, Sm_frame h (fun k hk => c1 k (by omega)) (fun k hk => hF2 k (by omega) (by omega) (by omega)) rfl (fun k hk => by rw [j1]; simp only [setI_c]; rw [if_neg hk]) (fun k hk => x1 k (by omega)) rfl⟩
    rcases hz with rfl | rfl
    · refine ⟨fun _ => s_openNets c3 (fun S hS => md _ (fun J1 P1 lab hM1 hR1 hL he post K hK => ?_)), fun c => absurd rfl c⟩
      refine tl_f0 hA hM1 hR1 hL (op := S) (fun m hm hw => (hS m).trans ?_) 12 0 0 rfl ?_
      · constructor
        · rintro ⟨s, s', x1, x2, x3⟩
          exact ⟨s, s', x1.2, x2.2, fun y => x3 ((he s s' (lt m s hw x1.2) (lt m s' hw x2.2)).mpr y)⟩
        · rintro ⟨s, s', x1, x2, x3⟩
          exact ⟨s, s', ⟨hw, x1⟩, ⟨hw, x2⟩, fun y => x3 ((he s s' (lt m s hw x1) (lt m s' hw x2)).mp y)⟩
      · rw [Nat.zero_add, sR_count, ← List.range_eq_range']
        have : (List.range 12).countP (fun m => wirn n q m && S m) = cK S := by
          unfold cK
          apply List.countP_congr
          intro m _
          rw [Bool.and_eq_true]
          refine ⟨fun y => y.2, fun y => ⟨?_, y⟩⟩
          obtain ⟨s, s', x1, _⟩ := (hS m).mp y
          exact x1.1
        rw [this]; exact hK
    · refine ⟨fun c => absurd c (by decide), fun _ => s_shortPairs c3 (fun S hS => md _ (fun J1 P1 lab hM1 hR1 hL he post K hK => ?_))⟩
      refine tl_f1 hA hM1 hR1 hL (sh := S) (fun m hm k hk hw hw' => (hS m k).trans ?_) 12 0 0 rfl ?_
      · constructor
        · rintro ⟨s, s', x1, x2, x3⟩
          exact ⟨s, s', x1.2, x2.2, (he s s' (lt m s hw x1.2) (lt k s' hw' x2.2)).mp x3⟩
        · rintro ⟨s, s', x1, x2, x3⟩
          exact ⟨s, s', ⟨hw, x1⟩, ⟨hw', x2⟩, (he s s' (lt m s hw x1) (lt k s' hw' x2)).mpr x3⟩
      · rw [Nat.zero_add]
        rw [sR_congr (g := fun m0 => cK (fun m => S m0 m && decide (m < m0))) 12 0 (fun m _ hm => ?_)]
        · exact hK
        · unfold cK
          rw [cnt_low _ 12 (by omega), ← List.range_eq_range']
          cases hw : wirn n q m with
          | true =>
            rw [if_pos rfl]
            apply List.countP_congr
            intro k _
            rw [Bool.and_eq_true]
            refine ⟨fun y => y.2, fun y => ⟨?_, y⟩⟩
            obtain ⟨s, s', _, x1, _⟩ := (hS m k).mp y
            exact x1.1
          | false =>
            rw [if_neg (by decide)]
            symm
            rw [List.countP_eq_zero]
            intro k _ y
            obtain ⟨s, s', x1, _⟩ := (hS m k).mp y
            exact absurd (hw.symm.trans x1.1) (by decide)
