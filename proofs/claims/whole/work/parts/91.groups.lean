/-! what is joined: the groups of spots -/
def tb (x b : Nat) : Bool := x.testBit b
theorem tb_0 : ∀ x, x < 8 → ((nI x &&& 1 = 0) ↔ tb x 0 = false) := by decide +kernel
theorem tb_1 : ∀ x, x < 8 → ((nI x &&& 2 = 0) ↔ tb x 1 = false) := by decide +kernel
theorem tb_2 : ∀ x, x < 8 → ((nI x &&& 4 = 0) ↔ tb x 2 = false) := by decide +kernel
/-- the wires of a drawing join two spots -/
def Ed (T : Nat) (dw : Nat → Nat → Nat) (a b : Nat) : Prop := ∃ l c, l < T + 2 ∧ c < 24 ∧ ((tb (dw l c) 0 = true ∧ c + 1 < 24 ∧ a = 2 * (24 * l + c) ∧ b = 2 * (24 * l + c) + 2) ∨ (tb (dw l c) 1 = true ∧ l + 1 < T + 2 ∧ a = 2 * (24 * l + c) + 1 ∧ b = 2 * (24 * (l + 1) + c) + 1) ∨ (tb (dw l c) 2 = true ∧ a = 2 * (24 * l + c) ∧ b = 2 * (24 * l + c) + 1))
/-- no labelling that is the same along wires tells them apart -/
def Cn (E : Nat → Nat → Prop) (i j : Nat) : Prop := ∀ R : Nat → Nat, (∀ a b, E a b → R a = R b) → R i = R j
def Gd (E : Nat → Nat → Prop) (ρ : Nat → Nat) (S : Nat) : Prop := (∀ i, i < S → Cn E i (ρ i)) ∧ ∀ a b, E a b → ρ a = ρ b
theorem Gd_iff {E : Nat → Nat → Prop} {ρ : Nat → Nat} {S : Nat} (h : Gd E ρ S) {i j : Nat} (hi : i < S) (hj : j < S) : ρ i = ρ j ↔ Cn E i j :=
  ⟨fun e R hR => by rw [h.1 i hi R hR, h.1 j hj R hR, e], fun c => c ρ h.2⟩
def Eq3 (T : Nat) (dw : Nat → Nat → Nat) (l c : Nat) (ρ : Nat → Nat) : Prop := (tb (dw l c) 0 = true → c + 1 < 24 → ρ (2 * (24 * l + c)) = ρ (2 * (24 * l + c) + 2)) ∧ (tb (dw l c) 1 = true → l + 1 < T + 2 → ρ (2 * (24 * l + c) + 1) = ρ (2 * (24 * (l + 1) + c) + 1)) ∧ (tb (dw l c) 2 = true → ρ (2 * (24 * l + c)) = ρ (2 * (24 * l + c) + 1))
theorem Eq3_Ed {T : Nat} {dw : Nat → Nat → Nat} {ρ : Nat → Nat} (h : ∀ l, l < T + 2 → ∀ c, c < 24 → Eq3 T dw l c ρ) : ∀ a b, Ed T dw a b → ρ a = ρ b := by
  rintro a b ⟨l, c, hl, hc, ⟨x, y, rfl, rfl⟩ | ⟨x, y, rfl, rfl⟩ | ⟨x, rfl, rfl⟩⟩
  · exact (h l hl c hc).1 x y
  · exact (h l hl c hc).2.1 x y
  · exact (h l hl c hc).2.2 x
/-- coarser -/
def Mo (ρ ρ' : Nat → Nat) : Prop := ∀ i j, ρ i = ρ j → ρ' i = ρ' j
theorem Mo.rfl' {ρ : Nat → Nat} : Mo ρ ρ := fun _ _ h => h
theorem Mo.tr {ρ ρ' ρ'' : Nat → Nat} (h : Mo ρ ρ') (h' : Mo ρ' ρ'') : Mo ρ ρ'' := fun i j e => h' i j (h i j e)
theorem Eq3.mo {T : Nat} {dw : Nat → Nat → Nat} {l c : Nat} {ρ ρ' : Nat → Nat} (h : Eq3 T dw l c ρ) (m : Mo ρ ρ') : Eq3 T dw l c ρ' := ⟨fun a b => m _ _ (h.1 a b), fun a b => m _ _ (h.2.1 a b), fun a => m _ _ (h.2.2 a)⟩
/-- the class's forest -/
def UF (E : Nat → Nat → Prop) (F : MF) (ρ : Nat → Nat) : Prop := ∃ f : Nat → Nat, ∀ i, i < 528 → F 11 i = nI (f i) ∧ f i ≤ i ∧ ρ (f i) = ρ i ∧ (f i = i → ρ i = i) ∧ ρ i ≤ i ∧ Cn E i (ρ i)
def DC (dw : Nat → Nat → Nat) (F : MF) : Prop := ∀ l, l < 11 → ∀ c, c < 24 → F (19 + l) c = nI (dw l c) ∧ dw l c < 8
theorem DC.ofF {dw : Nat → Nat → Nat} {F F' : MF} (h : DC dw F) (e : ∀ k, k ≠ 11 → F' k = F k) : DC dw F' := fun l hl c hc => by rw [e _ (by omega)]; exact h l hl c hc
theorem nI_ite {u w x y : Nat} (hu : u < 2 ^ 31) (hw : w < 2 ^ 31) : (if nI u < nI w then nI x else nI y) = nI (if u < w then x else y) := by
  by_cases c : u < w
  · rw [if_pos c, if_pos ((nI_lt_iff hu hw).mpr c)]
  · rw [if_neg c, if_neg (fun z => c ((nI_lt_iff hu hw).mp z))]
section GRP
variable {E : Nat → Nat → Prop} {T : Nat} {dw : Nat → Nat → Nat} {I : MI} {G : MG}
theorem sl_group {a1 : Int32} {ρ : Nat → Nat} {post : Int32 → MI → MF → MG → Prop} {K : Int32 → Int32 → MI → MF → MG → Prop} : ∀ (d x i : Nat) (F : MF), x < d → x + i < 528 → UF E F ρ → (∀ F' j, (∀ k, k ≠ 11 → F' k = F k) → UF E F' ρ → K (nI (ρ x)) j I F' G) → wl_D_group_4 post K a1 d (nI x) (nI i) I F G := by
  intro d
  induction d with
  | zero => intro x i F hx; omega
  | succ d ih =>
    intro x i F hx hi hU h
    obtain ⟨f, hf⟩ := id hU
    obtain ⟨f1, f2, f3, f4, f5, f6⟩ := hf x (by omega)
    obtain ⟨g1, g2, g3, g4, g5, g6⟩ := hf (f x) (by omega)
    have vx := (nI_vp (a := x) (n := 528) (by omega)).mpr (by omega)
    unfold wl_D_group_4
    rw [nI_clamp (n := x) (by omega), f1, nI_eq_iff (by omega) (by omega), nI_clamp (n := f x) (by omega), g1]
    refine ⟨fun c => absurd c (nI_ge (b := 528) (by omega) (by decide)), fun _ => ⟨vx, fun c => ?_, fun c => ⟨vx, (nI_vp (by omega)).mpr (by omega), vx, fun F7 g7 => ⟨vx, fun y hy z hz => ?_⟩⟩⟩⟩
    · have := h F (nI i) (fun _ _ => rfl) hU
      rw [f4 c] at this; exact this
    · have e7 : ∀ k, k ≠ 11 → F7 k = F k := fun k hk => by rw [g7]; simp only [setF_c]; rw [if_neg hk]
      have ey : y = nI (f (f x)) := by rw [hy, g7]; simp only [setF_c, if_true, upd_c]
      rw [ey, hz, ← nI_succ]
      have hU7 : UF E F7 ρ := by
        refine ⟨fun j => if j = x then f (f x) else f j, fun j hj => ?_⟩
        obtain ⟨b1, b2, b3, b4, b5, b6⟩ := hf j hj
        rw [g7]
        simp only [setF_c, if_true, upd_c]
        by_cases w : j = x
        · subst w
          simp only [if_true]
          exact ⟨trivial, by omega, by rw [g3, f3], fun u => absurd (by omega) c, b5, b6⟩
        · simp only [if_neg w]
          exact ⟨b1, b2, b3, b4, b5, b6⟩
      refine ih (f (f x)) (i + 1) F7 (by omega) (by omega) hU7 (fun F' j a1 a2 => ?_)
      rw [g3, f3]
      exact h F' j (fun k hk => (a1 k hk).trans (e7 k hk)) a2
theorem s_group {F : MF} {ρ : Nat → Nat} {s : Nat} (hs : s < 528) (hU : UF E F ρ) {post : Int32 → MI → MF → MG → Prop} (h : ∀ F', (∀ k, k ≠ 11 → F' k = F k) → UF E F' ρ → post (nI (ρ s)) I F' G) : wp_D_group (nI s) I F G post :=
  ⟨s + 1, sl_group (s + 1) s 0 F (by omega) (by omega) hU (fun F' _ a b => h F' a b)⟩
theorem s_join {F : MF} {ρ : Nat → Nat} {a b : Nat} (ha : a < 528) (hb : b < 528) (hE : E a b) (hU : UF E F ρ) {post : MI → MF → MG → Prop} (h : ∀ F' ρ', (∀ k, k ≠ 11 → F' k = F k) → UF E F' ρ' → Mo ρ ρ' → ρ' a = ρ' b → post I F' G) : wp_D_join (nI a) (nI b) I F G post := by
  unfold wp_D_join
  refine s_group ha hU (fun F1 a1 hU1 => s_group hb hU1 (fun F2 a2 hU2 => ?_))
  obtain ⟨f, hf⟩ := hU2
  have ra : ρ (ρ a) = ρ a ∧ f (ρ a) = ρ a := by
    have : ∀ d x, x < d → x < 528 → f (ρ x) = ρ x ∧ ρ (ρ x) = ρ x := by
      intro d
      induction d with
      | zero => intro x h; omega
      | succ d ih =>
        intro x hx hx'
        obtain ⟨f1, f2, f3, f4, f5, f6⟩ := hf x hx'
        by_cases z : f x = x
        · rw [f4 z]; exact ⟨z, f4 z⟩
        · have := ih (f x) (by omega) (by omega)
          rw [f3] at this; exact this
    exact (this (a + 1) a (by omega) ha).symm
  have rb : ρ (ρ b) = ρ b ∧ f (ρ b) = ρ b := by
    have : ∀ d x, x < d → x < 528 → f (ρ x) = ρ x ∧ ρ (ρ x) = ρ x := by
      intro d
      induction d with
      | zero => intro x h; omega
      | succ d ih =>
        intro x hx hx'
        obtain ⟨f1, f2, f3, f4, f5, f6⟩ := hf x hx'
        by_cases z : f x = x
        · rw [f4 z]; exact ⟨z, f4 z⟩
        · have := ih (f x) (by omega) (by omega)
          rw [f3] at this; exact this
    exact (this (b + 1) b (by omega) hb).symm
  obtain ⟨_, _, _, _, pa, qa⟩ := hf a ha
  obtain ⟨_, _, _, _, pb, qb⟩ := hf b hb
  have hR : ∀ R : Nat → Nat, (∀ a b, E a b → R a = R b) → R (ρ a) = R (ρ b) := fun R hr => by rw [← qa R hr, ← qb R hr, hr a b hE]
  rw [nI_ite (by omega) (by omega), nI_ite (by omega) (by omega)]
  have key : ∀ hi lo : Nat, ((hi = ρ a ∧ lo = ρ b) ∨ (hi = ρ b ∧ lo = ρ a)) → lo ≤ hi → vp_in (nI hi) 528 ∧ ∀ F6 : MF, F6 = setF F2 11 (upd (F2 11) (nI hi).toNatClampNeg (nI lo)) → post I F6 G := by
    intro hi lo hc hle
    have h5 : hi < 528 := by rcases hc with c | c <;> omega
    have hlo : ρ lo = lo := by
      rcases hc with c | c
      · rw [c.2]; exact rb.1
      · rw [c.2]; exact ra.1
    have hhi : ρ hi = hi := by
      rcases hc with c | c
      · rw [c.1]; exact ra.1
      · rw [c.1]; exact rb.1
    have hR' : ∀ R : Nat → Nat, (∀ a b, E a b → R a = R b) → R hi = R lo := fun R hr => by
      rcases hc with c | c
      · rw [c.1, c.2]; exact hR R hr
      · rw [c.1, c.2]; exact (hR R hr).symm
    refine ⟨(nI_vp (by omega)).mpr h5, fun F6 g6 => ?_⟩
    rw [nI_clamp (by omega)] at g6
    refine h F6 (fun i => if ρ i = hi then lo else ρ i) (fun k hk => by rw [g6]; simp only [setF_c]; rw [if_neg hk, a2 k hk, a1 k hk]) ⟨fun j => if j = hi then lo else f j, fun j hj => ?_⟩ (fun i j e => by simp only [e]) ?_
    · obtain ⟨b1, b2, b3, b4, b5, b6⟩ := hf j hj
      rw [g6]
      simp only [setF_c, if_true, upd_c]
      by_cases w : j = hi
      · subst w
        simp only [if_true, hhi, hlo]
        refine ⟨trivial, hle, ?_, fun u => u, hle, hR'⟩
        split <;> rfl
      · simp only [if_neg w, b3]
        refine ⟨b1, b2, trivial, fun u => ?_, ?_, fun R hr => ?_⟩
        · rw [b4 u, if_neg w]
        · split <;> omega
        · split
          · next u => rw [b6 R hr, u]; exact hR' R hr
          · exact b6 R hr
    · rcases hc with c | c
      · simp only [← c.1, ← c.2, if_true]
        split <;> rfl
      · simp only [← c.1, ← c.2, if_true]
        split <;> rfl
  by_cases c : ρ a < ρ b
  · rw [if_pos c, if_neg (by omega)]
    exact key _ _ (Or.inr ⟨rfl, rfl⟩) (by omega)
  · rw [if_neg c]
    by_cases c' : ρ b < ρ a
    · rw [if_pos c']
      exact key _ _ (Or.inl ⟨rfl, rfl⟩) (by omega)
    · rw [if_neg c']
      exact key (ρ a) (ρ a) (Or.inl ⟨rfl, by omega⟩) (Nat.le_refl _)
theorem s_spot {l c k : Nat} {post : Int32 → Prop} (h : post (nI (2 * (24 * l + c) + k))) : wp_D_spot (nI l) (nI c) (nI k) post := by
  unfold wp_D_spot
  rw [i_24, i_2, nI_mul, nI_ad, nI_mul, nI_ad, show (l * 24 + c) * 2 + k = 2 * (24 * l + c) + k by omega]
  exact h
abbrev St3 (post : MI → MF → MG → Prop) (x l c : Int32) (I : MI) (F : MF) (G : MG) : Prop := ((x &&& 4 = 0 → post I F G) ∧ (¬ x &&& 4 = 0 → wp_D_spot l c 0 (fun r => wp_D_spot l c 1 (fun s => wp_D_join r s I F G (fun I F G => post I F G)))))
abbrev St2 (post : MI → MF → MG → Prop) (x l c : Int32) (I : MI) (F : MF) (G : MG) : Prop := ((x &&& 2 = 0 → St3 post x l c I F G) ∧ (¬ x &&& 2 = 0 → wp_C_lines I F G (fun r => ((r ≤ l + 1 → St3 post x l c I F G) ∧ (¬ r ≤ l + 1 → wp_D_spot l c 1 (fun r => wp_D_spot (l + 1) c 1 (fun s => wp_D_join r s I F G (fun I F G => St3 post x l c I F G))))))))
theorem s_st3 {F : MF} {ρ : Nat → Nat} {l c : Nat} (hT : T ≤ 9) (hl : l < T + 2) (hc : c < 24) (hw : dw l c < 8) (hU : UF (Ed T dw) F ρ) {post : MI → MF → MG → Prop} (h : ∀ F' ρ', (∀ k, k ≠ 11 → F' k = F k) → UF (Ed T dw) F' ρ' → Mo ρ ρ' → (tb (dw l c) 2 = true → ρ' (2 * (24 * l + c)) = ρ' (2 * (24 * l + c) + 1)) → post I F' G) : St3 post (nI (dw l c)) (nI l) (nI c) I F G := by
  unfold St3
  rw [tb_2 _ hw]
  refine ⟨fun z => h F ρ (fun _ _ => rfl) hU Mo.rfl' (fun y => absurd (z.symm.trans y) (by decide)), fun z => s_spot (k := 0) (s_spot (k := 1) ?_)⟩
  have z : tb (dw l c) 2 = true := by simpa using z
  exact s_join (by omega) (by omega) ⟨l, c, hl, hc, Or.inr (Or.inr ⟨z, rfl, rfl⟩)⟩ hU (fun F' ρ' a1 a2 a3 a4 => h F' ρ' a1 a2 a3 (fun _ => a4))
theorem s_st2 {F : MF} {ρ : Nat → Nat} {l c : Nat} (hT : T ≤ 9) (h2 : I 2 = nI T) (hl : l < T + 2) (hc : c < 24) (hw : dw l c < 8) (hU : UF (Ed T dw) F ρ) {post : MI → MF → MG → Prop} (h : ∀ F' ρ', (∀ k, k ≠ 11 → F' k = F k) → UF (Ed T dw) F' ρ' → Mo ρ ρ' → (tb (dw l c) 1 = true → l + 1 < T + 2 → ρ' (2 * (24 * l + c) + 1) = ρ' (2 * (24 * (l + 1) + c) + 1)) → (tb (dw l c) 2 = true → ρ' (2 * (24 * l + c)) = ρ' (2 * (24 * l + c) + 1)) → post I F' G) :
    St2 post (nI (dw l c)) (nI l) (nI c) I F G := by
  unfold St2
  rw [tb_1 _ hw]
  have b3 : ∀ z : (tb (dw l c) 1 = true → ¬ l + 1 < T + 2), St3 post (nI (dw l c)) (nI l) (nI c) I F G := fun z => s_st3 hT hl hc hw hU (fun F' ρ' a1 a2 a3 a4 => h F' ρ' a1 a2 a3 (fun x y => absurd y (z x)) a4)
  refine ⟨fun z => b3 (fun y => absurd (z.symm.trans y) (by decide)), fun z => ?_⟩
  have z : tb (dw l c) 1 = true := by simpa using z
  show ((I 2 + 2 ≤ nI l + 1 → _) ∧ (¬ I 2 + 2 ≤ nI l + 1 → _))
  rw [h2, i_2, nI_ad, ← nI_succ, nI_le_iff (by omega) (by omega)]
  refine ⟨fun y => b3 (fun _ => by omega), fun y => s_spot (k := 1) (s_spot (k := 1) ?_)⟩
  exact s_join (by omega) (by omega) ⟨l, c, hl, hc, Or.inr (Or.inl ⟨z, by omega, rfl, rfl⟩)⟩ hU (fun F' ρ' a1 a2 a3 a4 => s_st3 hT hl hc hw a2 (fun F2 ρ2 b1 b2 b3 b4 => h F2 ρ2 (fun k hk => (b1 k hk).trans (a1 k hk)) b2 (a3.tr b3) (fun _ _ => b3 _ _ a4) b4))
theorem s_joinAt {F : MF} {ρ : Nat → Nat} {l c : Nat} (hT : T ≤ 9) (h2 : I 2 = nI T) (hl : l < T + 2) (hc : c < 24) (hD : DC dw F) (hU : UF (Ed T dw) F ρ) {post : MI → MF → MG → Prop} (h : ∀ F' ρ', (∀ k, k ≠ 11 → F' k = F k) → UF (Ed T dw) F' ρ' → Mo ρ ρ' → Eq3 T dw l c ρ' → post I F' G) : wp_D_joinAt (nI l) (nI c) I F G post := by
  obtain ⟨e, hw⟩ := hD l (by omega) c hc
  unfold wp_D_joinAt
  rw [nI_clamp (by omega), nI_clamp (by omega), e]
  refine ⟨(nI_vp (by omega)).mpr (by omega), (nI_vp (by omega)).mpr (by omega), fun x hx => ?_⟩
  subst hx
  rw [tb_0 _ hw]
  refine ⟨fun z => s_st2 hT h2 hl hc hw hU (fun F' ρ' a1 a2 a3 a4 a5 => h F' ρ' a1 a2 a3 ⟨fun y => absurd (z.symm.trans y) (by decide), a4, a5⟩), fun z => ?_⟩
  have z : tb (dw l c) 0 = true := by simpa using z
  rw [show (24 : Int32) ≤ nI c + 1 ↔ 24 ≤ c + 1 by rw [← nI_succ, i_24, nI_le_iff (by omega) (by omega)]]
  refine ⟨fun y => s_st2 hT h2 hl hc hw hU (fun F' ρ' a1 a2 a3 a4 a5 => h F' ρ' a1 a2 a3 ⟨fun _ w => by omega, a4, a5⟩), fun y => s_spot (k := 0) ?_⟩
  rw [← nI_succ c]
  refine s_spot (k := 0) (s_join (by omega) (by omega) ⟨l, c, hl, hc, Or.inl ⟨z, by omega, rfl, by omega⟩⟩ hU (fun F' ρ' a1 a2 a3 a4 => s_st2 hT h2 hl hc hw a2 (fun F2 ρ2 b1 b2 b3 b4 b5 => h F2 ρ2 (fun k hk => (b1 k hk).trans (a1 k hk)) b2 (a3.tr b3) ⟨fun _ _ => ?_, b4, b5⟩)))
  have := b3 _ _ a4
  rw [show 2 * (24 * l + (c + 1)) + 0 = 2 * (24 * l + c) + 2 by omega] at this
  exact this
theorem sl_fg1 {post : MI → MF → MG → Prop} {K : Int32 → MI → MF → MG → Prop} : ∀ (d i : Nat) (F : MF), i + d = 528 → (∀ m, m < i → F 11 m = nI m) → (∀ F', (∀ k, k ≠ 11 → F' k = F k) → (∀ m, m < 528 → F' 11 m = nI m) → K (nI 528) I F' G) → wl_D_findGroups_2 post K (d + 1) (nI i) I F G := by
  intro d
  induction d with
  | zero =>
    intro i F hi hS h
    have e : i = 528 := by omega
    subst e
    exact ⟨fun _ => h F (fun _ _ => rfl) hS, fun c => absurd (nI_le (Nat.le_refl 528) (by decide)) c⟩
  | succ d ih =>
    intro i F hi hS h
    unfold wl_D_findGroups_2
    rw [nI_clamp (by omega)]
    refine ⟨fun c => absurd c (nI_ge (b := 528) (by omega) (by decide)), fun _ => ⟨(nI_vp (by omega)).mpr (by omega), fun F3 g3 x hx => ?_⟩⟩
    rw [hx, ← nI_succ]
    refine ih (i + 1) F3 (by omega) (fun m hm => ?_) (fun F' h1 h2 => h F' (fun k hk => by rw [h1 k hk, g3]; simp only [setF_c]; rw [if_neg hk]) h2)
    rw [g3]
    simp only [setF_c, if_true, upd_c]
    by_cases z : m = i
    · rw [if_pos z, z]
    · rw [if_neg z]; exact hS m (by omega)
theorem sl_fg2 (hT : T ≤ 9) (h2 : I 2 = nI T) {l : Nat} (hl : l < T + 2) {post : MI → MF → MG → Prop} {K : Int32 → MI → MF → MG → Prop} : ∀ (d i : Nat) (F : MF) (ρ : Nat → Nat), i + d = 24 → DC dw F → UF (Ed T dw) F ρ → (∀ F' ρ', (∀ k, k ≠ 11 → F' k = F k) → UF (Ed T dw) F' ρ' → Mo ρ ρ' → (∀ c, i ≤ c → c < 24 → Eq3 T dw l c ρ') → K (nI 24) I F' G) → wl_D_findGroups_37 post K (nI l) (d + 1) (nI i) I F G := by
  intro d
  induction d with
  | zero =>
    intro i F ρ hi hD hU h
    have e : i = 24 := by omega
    subst e
    exact ⟨fun _ => h F ρ (fun _ _ => rfl) hU Mo.rfl' (fun c _ _ => by omega), fun c => absurd (nI_le (Nat.le_refl 24) (by decide)) c⟩
  | succ d ih =>
    intro i F ρ hi hD hU h
    refine ⟨fun c => absurd c (nI_ge (b := 24) (by omega) (by decide)), fun _ => s_joinAt hT h2 hl (by omega) hD hU (fun F1 ρ1 a1 a2 a3 a4 x hx => ?_)⟩
    rw [hx, ← nI_succ]
    refine ih (i + 1) F1 ρ1 (by omega) (hD.ofF a1) a2 (fun F2 ρ2 b1 b2 b3 b4 => h F2 ρ2 (fun k hk => (b1 k hk).trans (a1 k hk)) b2 (a3.tr b3) (fun c hc1 hc2 => ?_))
    by_cases z : c = i
    · subst z; exact a4.mo b3
    · exact b4 c (by omega) hc2
theorem sl_fg3 (hT : T ≤ 9) (h2 : I 2 = nI T) {post : MI → MF → MG → Prop} {K : Int32 → MI → MF → MG → Prop} : ∀ (d i : Nat) (F : MF) (ρ : Nat → Nat), i + d = T + 2 → DC dw F → UF (Ed T dw) F ρ → (∀ F' ρ', (∀ k, k ≠ 11 → F' k = F k) → UF (Ed T dw) F' ρ' → Mo ρ ρ' → (∀ l, i ≤ l → l < T + 2 → ∀ c, c < 24 → Eq3 T dw l c ρ') → K (nI (T + 2)) I F' G) → wl_D_findGroups_24 post K (d + 1) (nI i) I F G := by
  have e22 : I 2 + 2 = nI (T + 2) := by rw [h2, i_2, nI_ad]
  intro d
  induction d with
  | zero =>
    intro i F ρ hi hD hU h
    have e : i = T + 2 := by omega
    subst e
    show ((I 2 + 2 ≤ _ → _) ∧ _)
    rw [e22]
    exact ⟨fun _ => h F ρ (fun _ _ => rfl) hU Mo.rfl' (fun c _ _ => by omega), fun c => absurd (nI_le (Nat.le_refl _) (by omega)) c⟩
  | succ d ih =>
    intro i F ρ hi hD hU h
    show ((I 2 + 2 ≤ _ → _) ∧ (¬ I 2 + 2 ≤ _ → _))
    rw [e22]
    refine ⟨fun c => absurd c (nI_ge (by omega) (by omega)), fun _ => ⟨25, sl_fg2 hT h2 (by omega) 24 0 F ρ rfl hD hU (fun F1 ρ1 a1 a2 a3 a4 x hx => ?_)⟩⟩
    rw [hx, ← nI_succ]
    refine ih (i + 1) F1 ρ1 (by omega) (hD.ofF a1) a2 (fun F2 ρ2 b1 b2 b3 b4 => h F2 ρ2 (fun k hk => (b1 k hk).trans (a1 k hk)) b2 (a3.tr b3) (fun l hl1 hl2 c hc => ?_))
    by_cases z : l = i
    · subst z; exact (a4 c (by omega) hc).mo b3
    · exact b4 l (by omega) hl2 c hc
theorem s_findGroups {F : MF} (hT : T ≤ 9) (h2 : I 2 = nI T) (hD : DC dw F) {post : MI → MF → MG → Prop} (h : ∀ F' ρ, (∀ k, k ≠ 11 → F' k = F k) → UF (Ed T dw) F' ρ → Gd (Ed T dw) ρ 528 → post I F' G) : wp_D_findGroups I F G post := by
  refine ⟨529, sl_fg1 528 0 F rfl (fun m hm => by omega) (fun F1 a1 a2 => ⟨T + 3, ?_⟩)⟩
  refine sl_fg3 hT h2 (T + 2) 0 F1 (fun i => i) (by omega) (hD.ofF a1) ⟨fun i => i, fun i hi => ⟨a2 i hi, Nat.le_refl _, rfl, fun _ => rfl, Nat.le_refl _, fun R _ => rfl⟩⟩ (fun F2 ρ2 b1 b2 b3 b4 => h F2 ρ2 (fun k hk => (b1 k hk).trans (a1 k hk)) b2 ⟨fun i hi => ?_, Eq3_Ed (fun l hl => b4 l (by omega) hl)⟩)
  obtain ⟨f, hf⟩ := b2
  exact (hf i hi).2.2.2.2.2
end GRP
