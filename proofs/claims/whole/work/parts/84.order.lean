/-! what depends on what: values of nets by the gates that drive them -/
section EVF
variable {α : Type} (n : Nat) (q : AQ) (base : Nat → α) (step : Nat → α → α → α)
def evf : Nat → Nat → Option α
  | 0, _ => none
  | f + 1, m => match dvn n q m with
    | none => some (base m)
    | some g => match evf f (q 1 g), evf f (q 2 g) with
      | some x, some y => some (step g x y)
      | _, _ => none
/-- net m has the value v -/
def Ev (m : Nat) (v : α) : Prop := ∃ f, evf n q base step f m = some v
variable {n q base step}
theorem evf_mono : ∀ (f m : Nat) (v : α), evf n q base step f m = some v → evf n q base step (f + 1) m = some v := by
  intro f
  induction f with
  | zero => intro m v h; cases h
  | succ f ih =>
    intro m v h
    rw [evf] at h ⊢
    cases hd : dvn n q m with
    | none => rw [hd] at h; exact h
    | some g =>
      rw [hd] at h
      simp only at h ⊢
      cases h1 : evf n q base step f (q 1 g) with
      | none => rw [h1] at h; cases h
      | some x =>
        cases h2 : evf n q base step f (q 2 g) with
        | none => rw [h1, h2] at h; cases h
        | some y =>
          rw [h1, h2] at h
          rw [ih _ _ h1, ih _ _ h2]
          exact h
theorem evf_le {f f' m : Nat} {v : α} (h : f ≤ f') (he : evf n q base step f m = some v) : evf n q base step f' m = some v := by
  obtain ⟨d, rfl⟩ := Nat.le.dest h
  clear h
  induction d with
  | zero => exact he
  | succ d ih => exact evf_mono _ _ _ ih
theorem Ev.inj {m : Nat} {v v' : α} (h : Ev n q base step m v) (h' : Ev n q base step m v') : v = v' := by
  obtain ⟨f, hf⟩ := h
  obtain ⟨f', hf'⟩ := h'
  have a := evf_le (Nat.le_max_left f f') hf
  have b := evf_le (Nat.le_max_right f f') hf'
  rw [a] at b
  exact Option.some.inj b
theorem Ev.b0 {m : Nat} (h : dvn n q m = none) : Ev n q base step m (base m) := ⟨1, by rw [evf, h]⟩
theorem Ev.s1 {m g : Nat} {x y : α} (h : dvn n q m = some g) (hx : Ev n q base step (q 1 g) x) (hy : Ev n q base step (q 2 g) y) : Ev n q base step m (step g x y) := by
  obtain ⟨f, hf⟩ := hx
  obtain ⟨f', hf'⟩ := hy
  refine ⟨max f f' + 1, ?_⟩
  rw [evf, h]
  simp only
  rw [evf_le (Nat.le_max_left f f') hf, evf_le (Nat.le_max_right f f') hf']
/-- a set that holds what the outside gives, and the outputs of gates whose inputs it holds -/
def Fix (n : Nat) (q : AQ) (S : Nat → Bool) : Prop := (∀ m, m < 12 → dvn n q m = none → S m = true) ∧ ∀ g, g < n → S (q 1 g) = true → S (q 2 g) = true → S (q 3 g) = true
theorem Fix.all {nx : Nat → Nat} (hA : AInv n q nx) {S : Nat → Bool} (h : Fix n q S) {m : Nat} (hm : m < 12) {v : α} (he : Ev n q base step m v) : S m = true := by
  obtain ⟨f, hf⟩ := he
  revert m v
  induction f with
  | zero => intro m hm v hf; cases hf
  | succ f ih =>
    intro m hm v hf
    rw [evf] at hf
    cases hd : dvn n q m with
    | none => exact h.1 m hm hd
    | some g =>
      obtain ⟨hg, e3⟩ := dvn_lt hd
      obtain ⟨_, k1, k2, _⟩ := hA.2.1 g hg
      rw [hd] at hf
      simp only at hf
      cases h1 : evf n q base step f (q 1 g) with
      | none => rw [h1] at hf; cases hf
      | some x =>
        cases h2 : evf n q base step f (q 2 g) with
        | none => rw [h1, h2] at hf; cases hf
        | some y =>
          rw [← e3]
          exact h.2 g hg (ih k1 h1) (ih k2 h2)
end EVF
theorem dvn_out {n : Nat} {q : AQ} {nx : Nat → Nat} (hA : AInv n q nx) {g : Nat} (hg : g < n) : dvn n q (q 3 g) = some g := by
  cases hd : dvn n q (q 3 g) with
  | none => exact absurd rfl (dvn_none hd g hg)
  | some g' =>
    obtain ⟨h1, h2⟩ := dvn_lt hd
    rw [hA.2.2.2.1 g' h1 g hg h2]
/-- nets that are settled once the gates of L are: -/
def stl (n : Nat) (q : AQ) (L : List Nat) (m : Nat) : Bool := (dvn n q m).isNone || L.any (fun g => q 3 g == m)
/-- an order in which each gate comes behind those that drive its inputs -/
def OV (n : Nat) (q : AQ) (L : List Nat) : Prop := ∀ A g B, L = A ++ g :: B → g < n ∧ stl n q A (q 1 g) = true ∧ stl n q A (q 2 g) = true ∧ stl n q A (q 3 g) = false
theorem OV_nil (n : Nat) (q : AQ) : OV n q [] := fun A g B h => by simp at h
theorem stl_snoc (n : Nat) (q : AQ) (L : List Nat) (g m : Nat) : stl n q (L ++ [g]) m = (stl n q L m || decide (m = q 3 g)) := by
  unfold stl
  rw [List.any_append, ← Bool.or_assoc]
  congr 1
  simp only [List.any_cons, List.any_nil, Bool.or_false]
  by_cases z : q 3 g = m
  · simp [z]
  · have z2 : ¬ m = q 3 g := fun y => z y.symm
    simp [z, z2]
theorem OV_snoc {n : Nat} {q : AQ} {L : List Nat} {g : Nat} (h : OV n q L) (hg : g < n) (h1 : stl n q L (q 1 g) = true) (h2 : stl n q L (q 2 g) = true) (h3 : stl n q L (q 3 g) = false) : OV n q (L ++ [g]) := by
  intro A x B e
  rcases List.eq_nil_or_concat B with rfl | ⟨B', y, rfl⟩
  · have e' : L ++ [g] = A ++ [x] := e
    obtain ⟨rfl, e2⟩ := List.append_inj' e' rfl
    cases e2
    exact ⟨hg, h1, h2, h3⟩
  · have e' : L ++ [g] = (A ++ x :: B') ++ [y] := by rw [e]; simp
    obtain ⟨e1, _⟩ := List.append_inj' e' rfl
    exact h A x B' e1
theorem cnt_add (p : Nat → Bool) : ∀ (N g : Nat), g < N → p g = false → (List.range N).countP (fun x => p x || decide (x = g)) = (List.range N).countP p + 1 := by
  intro N
  induction N with
  | zero => intro g hg; omega
  | succ N ih =>
    intro g hg hp
    rw [List.range_succ, List.countP_append, List.countP_append]
    by_cases z : g = N
    · subst z
      have e : (List.range g).countP (fun x => p x || decide (x = g)) = (List.range g).countP p := by
        apply List.countP_congr
        intro x hx
        have := List.mem_range.mp hx
        have : ¬ x = g := by omega
        simp [this]
      rw [e]
      simp [hp]
    · rw [ih g (by omega) hp]
      have : ¬ N = g := fun y => z y.symm
      simp only [List.countP_cons, List.countP_nil, this, decide_false, Bool.or_false]
      omega
/-- how many gates are settled -/
def cst (n : Nat) (q : AQ) (L : List Nat) : Nat := (List.range n).countP (fun g => stl n q L (q 3 g))
theorem cst_le (n : Nat) (q : AQ) (L : List Nat) : cst n q L ≤ n := by
  have := List.countP_le_length (p := fun g => stl n q L (q 3 g)) (l := List.range n)
  simpa [cst] using this
theorem cst_snoc {n : Nat} {q : AQ} {nx : Nat → Nat} (hA : AInv n q nx) {L : List Nat} {g : Nat} (hg : g < n) (h3 : stl n q L (q 3 g) = false) : cst n q (L ++ [g]) = cst n q L + 1 := by
  unfold cst
  rw [← cnt_add (fun g => stl n q L (q 3 g)) n g hg h3]
  apply List.countP_congr
  intro x hx
  have hx := List.mem_range.mp hx
  rw [stl_snoc]
  have : (decide (q 3 x = q 3 g)) = decide (x = g) := by
    congr 1
    apply propext
    exact ⟨fun e => hA.2.2.2.1 x hx g hg e, fun e => by rw [e]⟩
  rw [this]
theorem cst_full {n : Nat} {q : AQ} {L : List Nat} (h : n ≤ cst n q L) : ∀ g, g < n → stl n q L (q 3 g) = true := by
  intro g hg
  have h1 : (List.range n).countP (fun g => stl n q L (q 3 g)) = (List.range n).length := by
    have := cst_le n q L
    unfold cst at h this
    rw [List.length_range]
    omega
  exact List.countP_eq_length.mp h1 g (List.mem_range.mpr hg)
theorem stl_fix {n : Nat} {q : AQ} {L : List Nat} (h : ∀ g, g < n → stl n q L (q 1 g) = true → stl n q L (q 2 g) = true → stl n q L (q 3 g) = true) : Fix n q (stl n q L) := ⟨fun m _ hd => by unfold stl; rw [hd]; rfl, h⟩
/-- what settles has a value -/
theorem stl_ev {α : Type} {n : Nat} {q : AQ} {base : Nat → α} {step : Nat → α → α → α} {nx : Nat → Nat} (hA : AInv n q nx) : ∀ (L : List Nat), OV n q L → ∀ m, stl n q L m = true → ∃ v, Ev n q base step m v := by
  intro L
  generalize hk : L.length = k
  revert L
  induction k with
  | zero =>
    intro L hk _ m hm
    have : L = [] := List.eq_nil_of_length_eq_zero hk
    subst this
    unfold stl at hm
    simp at hm
    exact ⟨_, Ev.b0 hm⟩
  | succ k ih =>
    intro L hk hO m hm
    rcases List.eq_nil_or_concat L with rfl | ⟨L', g, rfl⟩
    · simp at hk
    · have e : L'.concat g = L' ++ [g] := List.concat_eq_append
      rw [e] at hk hO hm
      have hO' : OV n q L' := fun A x B e2 => hO A x (B ++ [g]) (by rw [e2]; simp)
      have hk' : L'.length = k := by simp at hk; exact hk
      obtain ⟨hg, h1, h2, _⟩ := hO L' g [] rfl
      rw [stl_snoc, Bool.or_eq_true] at hm
      rcases hm with hm | hm
      · exact ih L' hk' hO' m hm
      · have em := of_decide_eq_true hm
        obtain ⟨x, hx⟩ := ih L' hk' hO' _ h1
        obtain ⟨y, hy⟩ := ih L' hk' hO' _ h2
        rw [em]
        exact ⟨_, Ev.s1 (dvn_out hA hg) hx hy⟩
theorem CInv.ofI {n : Nat} {q : AQ} {nx : Nat → Nat} {I I' : MI} {F : MF} (h : CInv n q nx I F) (e : I' 1 = I 1) : CInv n q nx I' F := ⟨by rw [e]; exact h.1, h.2⟩
theorem CInv.ofF {n : Nat} {q : AQ} {nx : Nat → Nat} {I : MI} {F F' : MF} (h : CInv n q nx I F) (e : ∀ k, k < 10 ∨ (15 ≤ k ∧ k < 19) → F' k = F k) : CInv n q nx I F' :=
  ⟨h.1, fun f hf g hg => by rw [e f (by omega)]; exact h.2.1 f hf g hg, fun r hr => by rw [e 6 (by omega)]; exact h.2.2.1 r hr, fun r hr c' hc' => by rw [e _ (by omega)]; exact h.2.2.2.1 r hr c' hc', fun r hr m hm => by rw [e _ (by omega)]; exact h.2.2.2.2.1 r hr m hm, fun m hm => by rw [e 7 (by omega)]; exact h.2.2.2.2.2.1 m hm, fun m hm => by rw [e 8 (by omega)]; exact h.2.2.2.2.2.2.1 m hm, fun m hm => by rw [e 9 (by omega)]; exact h.2.2.2.2.2.2.2 m hm⟩
section ORD
variable {n : Nat} {q : AQ} {nx : Nat → Nat} {G : MG}
/-- the class's memory of an order -/
def OI (n : Nat) (q : AQ) (L : List Nat) (I : MI) (F : MF) : Prop := I 4 = nI L.length ∧ MS (I 5) (stl n q L) ∧ ∀ j g, L[j]? = some g → F 14 j = nI g
theorem s_isSettled {S : Nat → Bool} {I : MI} {F : MF} (h : MS (I 5) S) {m : Nat} (hm : m < 12) {post : Int32 → Prop} (hp : post (bI (S m))) : wp_S_isSettled (nI m) I F G post := by
  unfold wp_S_isSettled wp_S_bit
  rw [MS_bit h hm]
  cases hs : S m with
  | true => rw [hs] at hp; exact ⟨fun z => absurd rfl z, fun _ => hp⟩
  | false => rw [hs] at hp; exact ⟨fun _ => hp, fun z => absurd z (by decide)⟩
theorem s_isReady {S : Nat → Bool} {I : MI} {F : MF} (hA : AInv n q nx) (hC : CInv n q nx I F) (h : MS (I 5) S) {g : Nat} (hg : g < n) {post : Int32 → Prop} (hp : post (bI (!S (q 3 g) && S (q 1 g) && S (q 2 g)))) : wp_S_isReady (nI g) I F G post := by
  have hn := hA.1
  obtain ⟨_, k1, k2, _, k3, _⟩ := hA.2.1 g hg
  have v := (nI_vp (a := g) (n := 12) (by omega)).mpr (by omega)
  unfold wp_S_isReady
  rw [nI_clamp (by omega), hC.2.1 3 (by omega) g hg, hC.2.1 1 (by omega) g hg, hC.2.1 2 (by omega) g hg]
  refine ⟨v, s_isSettled h k3 (br' (fun e3 => ?_) (fun e3 => ⟨v, s_isSettled h k1 (br (fun e1 => ?_) (fun e1 => ⟨v, s_isSettled h k2 (br (fun e2 => ?_) (fun e2 => ?_))⟩))⟩))⟩
  · rw [e3] at hp; exact hp
  · rw [e3, e1] at hp; exact hp
  · rw [e3, e1, e2] at hp; exact hp
  · rw [e3, e1, e2] at hp; exact hp
theorem sl_order1 (hA : AInv n q nx) {F : MF} {post : MI → MF → MG → Prop} {K : Int32 → MI → MF → MG → Prop} : ∀ (d i : Nat) (I : MI), CInv n q nx I F → i + d = 12 → MS (I 5) (fun m => decide (m < i) && (dvn n q m).isNone) →
    (∀ I', (∀ k, k ≠ 5 → I' k = I k) → MS (I' 5) (stl n q []) → K (nI 12) I' F G) → wl_S_orderGates_12 post K (d + 1) (nI i) I F G := by
  intro d
  induction d with
  | zero =>
    intro i I hC hi hS h
    have e : i = 12 := by omega
    subst e
    refine ⟨fun _ => h I (fun _ _ => rfl) (MS_congr hS (fun i hi => ?_)), fun c => absurd (nI_le (Nat.le_refl 12) (by decide)) c⟩
    simp [stl, hi]
  | succ d ih =>
    intro i I hC hi hS h
    refine ⟨fun c => absurd c (nI_ge (b := 12) (by omega) (by decide)), fun _ => s_isDriven hA hC (by omega) (br' (fun e x hx => ?_) (fun e I7 g7 x hx => ?_))⟩
    · rw [hx, ← nI_succ]
      refine ih (i + 1) I hC (by omega) (MS_congr hS (fun j hj => ?_)) h
      by_cases z : j = i
      · subst z
        have : (dvn n q j).isNone = false := by cases hd : dvn n q j with | none => rw [hd] at e; cases e | some g => rfl
        simp [this]
      · rw [show decide (j < i + 1) = decide (j < i) by congr 1; apply propext; omega]
    · rw [hx, ← nI_succ]
      have g1 : I7 1 = I 1 := by rw [g7]; rfl
      refine ih (i + 1) I7 (hC.ofI g1) (by omega) ?_ (fun I' h1 h2 => h I' (fun k hk => by rw [h1 k hk, g7]; simp only [setI_c]; rw [if_neg hk]) h2)
      rw [g7]
      simp only [setI_c, if_true]
      refine MS_congr (MS_or1 hS (by omega)) (fun j hj => ?_)
      by_cases z : j = i
      · subst z
        have : (dvn n q j).isNone = true := by cases hd : dvn n q j with | none => rfl | some g => rw [hd] at e; cases e
        simp [this]
      · rw [show decide (j < i + 1) = decide (j < i) by congr 1; apply propext; omega]
        simp [z]
theorem sl_order2 (hA : AInv n q nx) {a1 : Int32} {L0 : List Nat} {post : MI → MF → MG → Prop} {K : Int32 → MI → MF → MG → Prop} : ∀ (d g : Nat) (L : List Nat) (I : MI) (F : MF), CInv n q nx I F → g + d = n → OV n q L → L.length = cst n q L → OI n q L I F →
    ((L = L0 ∧ ∀ g', g' < g → stl n q L0 (q 1 g') = true → stl n q L0 (q 2 g') = true → stl n q L0 (q 3 g') = true) ∨ L0.length < L.length) → (Fix n q (stl n q L0) → L = L0) →
    (∀ (L' : List Nat) (I' : MI) (F' : MF), OV n q L' → L'.length = cst n q L' → OI n q L' I' F' → ((L' = L0 ∧ Fix n q (stl n q L0)) ∨ L0.length < L'.length) → (Fix n q (stl n q L0) → L' = L0) → (∀ k, k ≠ 4 → k ≠ 5 → I' k = I k) → (∀ k, k ≠ 14 → F' k = F k) → K (nI n) I' F' G) →
    wl_S_orderGates_62 post K a1 (d + 1) (nI g) I F G := by
  have hn := hA.1
  intro d
  induction d with
  | zero =>
    intro g L I F hC hi hO hl hI hP hX h
    have e : g = n := by omega
    subst e
    unfold wl_S_orderGates_62
    rw [hC.1]
    refine ⟨fun _ => h L I F hO hl hI ?_ hX (fun _ _ _ => rfl) (fun _ _ => rfl), fun c => absurd (nI_le (Nat.le_refl _) (by omega)) c⟩
    rcases hP with ⟨h1, h2⟩ | h1
    · exact Or.inl ⟨h1, stl_fix h2⟩
    · exact Or.inr h1
  | succ d ih =>
    intro g L I F hC hi hO hl hI hP hX h
    obtain ⟨i4, i5, f14⟩ := hI
    have hg : g < n := by omega
    obtain ⟨_, k1, k2, _, k3, _⟩ := hA.2.1 g hg
    unfold wl_S_orderGates_62
    rw [hC.1]
    refine ⟨fun c => absurd c (nI_ge (by omega) (by omega)), fun _ => s_isReady hA hC i5 hg (br (fun e x hx => ?_) (fun e => ?_))⟩
    · rw [hx, ← nI_succ]
      refine ih (g + 1) L I F hC (by omega) hO hl ⟨i4, i5, f14⟩ ?_ hX h
      rcases hP with ⟨h1, h2⟩ | h1
      · refine Or.inl ⟨h1, fun g' hg' a b => ?_⟩
        by_cases z : g' = g
        · subst z
          subst h1
          rw [a, b] at e
          simpa using e
        · exact h2 g' (by omega) a b
      · exact Or.inr h1
    · simp only [Bool.and_eq_true, Bool.not_eq_true'] at e
      obtain ⟨⟨e3, e1⟩, e2⟩ := e
      have hc1 := cst_snoc hA (L := L) hg e3
      have hle := cst_le n q (L ++ [g])
      have hlen : L.length < 12 := by omega
      rw [i4, nI_clamp (by omega), nI_clamp (by omega)]
      refine ⟨(nI_vp (by omega)).mpr hlen, fun F17 g17 I18 g18 => ⟨(nI_vp (by omega)).mpr (by omega), fun I20 g20 x hx => ?_⟩⟩
      rw [hx, ← nI_succ]
      have ef : ∀ k, k ≠ 14 → F17 k = F k := fun k hk => by rw [g17]; simp only [setF_c]; rw [if_neg hk]
      have ei : ∀ k, k ≠ 4 → k ≠ 5 → I20 k = I k := fun k h4 h5 => by rw [g20, g18]; simp only [setI_c]; rw [if_neg h5, if_neg h4]
      have hC20 : CInv n q nx I20 F17 := (hC.ofF (fun k hk => ef k (by omega))).ofI (ei 1 (by omega) (by omega))
      refine ih (g + 1) (L ++ [g]) I20 F17 hC20 (by omega) (OV_snoc hO hg e1 e2 e3) (by rw [hc1, List.length_append, hl]; rfl) ⟨?_, ?_, fun j g' hj => ?_⟩ (Or.inr ?_) (fun hfix => ?_) (fun L' I' F' a1 a2 a3 a4 a5 a6 a7 => h L' I' F' a1 a2 a3 a4 a5 (fun k h4 h5 => (a6 k h4 h5).trans (ei k h4 h5)) (fun k hk => (a7 k hk).trans (ef k hk)))
      · have : I20 4 = I18 4 := by rw [g20]; rfl
        rw [this, g18]
        simp only [setI_c, if_true]
        rw [List.length_append]
        exact nI_ad _ _
      · have e5 : I18 5 = I 5 := by rw [g18]; rfl
        have e35 : F17 3 g = nI (q 3 g) := by rw [ef 3 (by omega)]; exact hC.2.1 3 (by omega) g hg
        rw [g20]
        simp only [setI_c, if_true]
        rw [e5, e35]
        exact MS_congr (MS_or1 i5 k3) (fun i _ => (stl_snoc n q L g i).symm)
      · rw [g17]
        simp only [setF_c, if_true, upd_c]
        by_cases z : j = L.length
        · subst z
          rw [if_pos rfl]
          rw [List.getElem?_append_right (Nat.le_refl _)] at hj
          simp at hj
          rw [hj]
        · rw [if_neg z]
          have hj2 : j < L.length := by
            have := (List.getElem?_eq_some_iff.mp hj).1
            rw [List.length_append] at this
            simp at this
            omega
          rw [List.getElem?_append_left hj2] at hj
          exact f14 j g' hj
      · rw [List.length_append]
        rcases hP with ⟨h1, _⟩ | h1
        · rw [h1]; simp
        · simp; omega
      · have h1 := hX hfix
        subst h1
        have := hfix.2 g hg e1 e2
        rw [this] at e3; cases e3
theorem sl_order3 (hA : AInv n q nx) {post : MI → MF → MG → Prop} {K : Int32 → MI → MF → MG → Prop} : ∀ (d p : Nat) (L : List Nat) (I : MI) (F : MF), CInv n q nx I F → p + d = n → OV n q L → L.length = cst n q L → OI n q L I F → (Fix n q (stl n q L) ∨ p ≤ L.length) →
    (∀ (L' : List Nat) (I' : MI) (F' : MF), OV n q L' → L'.length = cst n q L' → OI n q L' I' F' → Fix n q (stl n q L') → (∀ k, k ≠ 4 → k ≠ 5 → I' k = I k) → (∀ k, k ≠ 14 → F' k = F k) → K (nI n) I' F' G) →
    wl_S_orderGates_49 post K (d + 1) (nI p) I F G := by
  have hn := hA.1
  intro d
  induction d with
  | zero =>
    intro p L I F hC hi hO hl hI hP h
    have e : p = n := by omega
    subst e
    unfold wl_S_orderGates_49
    rw [hC.1]
    refine ⟨fun _ => h L I F hO hl hI ?_ (fun _ _ _ => rfl) (fun _ _ => rfl), fun c => absurd (nI_le (Nat.le_refl _) (by omega)) c⟩
    rcases hP with h1 | h1
    · exact h1
    · exact stl_fix (fun g hg _ _ => cst_full (by omega) g hg)
  | succ d ih =>
    intro p L I F hC hi hO hl hI hP h
    unfold wl_S_orderGates_49
    rw [hC.1]
    refine ⟨fun c => absurd c (nI_ge (by omega) (by omega)), fun _ => ⟨n + 1, sl_order2 hA (L0 := L) n 0 L I F hC (by omega) hO hl hI (Or.inl ⟨rfl, fun g' hg' => by omega⟩) (fun _ => rfl) (fun L' I' F' a1 a2 a3 a4 a5 a6 a7 x hx => ?_)⟩⟩
    rw [hx, ← nI_succ]
    have hC' : CInv n q nx I' F' := (hC.ofF (fun k hk => a7 k (by omega))).ofI (a6 1 (by omega) (by omega))
    refine ih (p + 1) L' I' F' hC' (by omega) a1 a2 a3 ?_ (fun L2 I2 F2 b1 b2 b3 b4 b5 b6 => h L2 I2 F2 b1 b2 b3 b4 (fun k h4 h5 => (b5 k h4 h5).trans (a6 k h4 h5)) (fun k hk => (b6 k hk).trans (a7 k hk)))
    rcases a4 with ⟨e1, e2⟩ | e1
    · left; rw [e1]; exact e2
    · rcases hP with h1 | h1
      · left; rw [a5 h1]; exact h1
      · right; omega
theorem s_orderGates (hA : AInv n q nx) {I : MI} {F : MF} (hC : CInv n q nx I F) {post : MI → MF → MG → Prop}
    (h : ∀ (L : List Nat) (I' : MI) (F' : MF), OV n q L → L.length = cst n q L → OI n q L I' F' → Fix n q (stl n q L) → (∀ k, k ≠ 4 → k ≠ 5 → I' k = I k) → (∀ k, k ≠ 14 → F' k = F k) → post I' F' G) : wp_S_orderGates I F G post := by
  unfold wp_S_orderGates
  intro I1 g1 I2 g2
  have e : ∀ k, k ≠ 4 → k ≠ 5 → I2 k = I k := fun k h4 h5 => by rw [g2, g1]; simp only [setI_c]; rw [if_neg h5, if_neg h4]
  have hC2 := hC.ofI (e 1 (by omega) (by omega))
  refine ⟨13, sl_order1 hA 12 0 I2 hC2 rfl ?_ (fun I3 h3 hS => ⟨n + 1, ?_⟩)⟩
  · rw [g2]
    exact MS_congr MS_0 (fun i _ => by simp)
  · have hC3 := hC2.ofI (h3 1 (by omega))
    refine sl_order3 hA n 0 [] I3 F hC3 (by omega) (OV_nil n q) ?_ ⟨?_, hS, fun j g hj => by simp at hj⟩ (Or.inr (by omega)) (fun L' I' F' a1 a2 a3 a4 a5 a6 => h L' I' F' a1 a2 a3 a4 (fun k h4 h5 => (a5 k h4 h5).trans ((h3 k h5).trans (e k h4 h5))) a6)
    · have : (List.range n).countP (fun g => stl n q [] (q 3 g)) = 0 := by
        rw [List.countP_eq_zero]
        intro g hg
        have hg := List.mem_range.mp hg
        unfold stl
        rw [dvn_out hA hg]
        simp
      exact this.symm
    · rw [h3 4 (by omega), g2, g1]; rfl
end ORD
