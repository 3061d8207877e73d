/-! faults: the ends of the nets, the class -/
def CE (B : Nat) (A : Nat → Nat → Prop) (ρ : Nat → Nat) (I : MI) (F : MF) : Prop := ∃ (k : Nat) (en : Nat → Nat × Nat), k ≤ B ∧ I 3 = nI k ∧ (∀ i, i < k → F 12 i = nI (en i).1 ∧ F 13 i = nI (ρ (en i).2) ∧ (en i).1 < 12 ∧ ρ (en i).2 < 528) ∧ ∀ m s, A m s ↔ ∃ i, i < k ∧ en i = (m, s)
theorem CE.congr {B : Nat} {A A' : Nat → Nat → Prop} {ρ : Nat → Nat} {I : MI} {F : MF} (h : CE B A ρ I F) (e : ∀ m s, A m s ↔ A' m s) : CE B A' ρ I F := by
  obtain ⟨k, en, a, b, c, d⟩ := h
  exact ⟨k, en, a, b, c, fun m s => (e m s).symm.trans (d m s)⟩
theorem CE.up {B B' : Nat} {A : Nat → Nat → Prop} {ρ : Nat → Nat} {I : MI} {F : MF} (h : CE B A ρ I F) (hB : B ≤ B') : CE B' A ρ I F := by
  obtain ⟨k, en, a, b, c, d⟩ := h
  exact ⟨k, en, Nat.le_trans a hB, b, c, d⟩
theorem CE.ofF {B : Nat} {A : Nat → Nat → Prop} {ρ : Nat → Nat} {I : MI} {F F' : MF} (h : CE B A ρ I F) (e12 : F' 12 = F 12) (e13 : F' 13 = F 13) : CE B A ρ I F' := by
  obtain ⟨k, en, a, b, c, d⟩ := h
  exact ⟨k, en, a, b, fun i hi => by rw [e12, e13]; exact c i hi, d⟩
theorem UF.ofF {E : Nat → Nat → Prop} {F F' : MF} {ρ : Nat → Nat} (h : UF E F ρ) (e : F' 11 = F 11) : UF E F' ρ := by
  obtain ⟨f, hf⟩ := h
  exact ⟨f, fun i hi => by rw [e]; exact hf i hi⟩
theorem UF.lt {E : Nat → Nat → Prop} {F : MF} {ρ : Nat → Nat} (h : UF E F ρ) {s : Nat} (hs : s < 528) : ρ s < 528 := by
  obtain ⟨f, hf⟩ := h
  have := (hf s hs).2.2.2.2.1
  omega
section ENS
variable {n : Nat} {q : AQ} {nx : Nat → Nat} {T : Nat} {tr : Nat → Nat} {ρ : Nat → Nat} {G : MG} {E : Nat → Nat → Prop}
theorem s_addEnd {B : Nat} {A : Nat → Nat → Prop} {I : MI} {F : MF} (hB : B < 60) (hE : CE B A ρ I F) {m s : Nat} (hm : m < 12) (hs : ρ s < 528) {post : MI → MF → MG → Prop} (h : ∀ I' F', (∀ k, k ≠ 3 → I' k = I k) → (∀ k, k ≠ 12 → k ≠ 13 → F' k = F k) → CE (B + 1) (fun m' s' => A m' s' ∨ (m' = m ∧ s' = s)) ρ I' F' → post I' F' G) : wp_D_addEnd (nI m) (nI (ρ s)) I F G post := by
  obtain ⟨k, en, hk, e3, hc, hA⟩ := hE
  have v := (nI_vp (a := k) (n := 60) (by omega)).mpr (by omega)
  unfold wp_D_addEnd
  rw [e3, nI_clamp (by omega)]
  refine ⟨fun c => absurd c (nI_ge (b := 60) (by omega) (by decide)), fun _ => ⟨v, fun F3 g3 => ⟨v, fun F5 g5 I6 g6 => ?_⟩⟩⟩
  have f12 : F5 12 = upd (F 12) k (nI m) := by rw [g5, g3]; rfl
  have f13 : F5 13 = upd (F 13) k (nI (ρ s)) := by rw [g5, g3]; rfl
  refine h I6 F5 (fun j hj => by rw [g6]; simp only [setI_c]; rw [if_neg hj]) (fun j h1 h2 => by rw [g5, g3]; simp only [setF_c]; rw [if_neg h2, if_neg h1]) ⟨k + 1, fun j => if j = k then (m, s) else en j, by omega, ?_, fun i hi => ?_, fun m' s' => ?_⟩
  · rw [g6]
    simp only [setI_c, if_true]
    exact (nI_succ k).symm
  · rw [f12, f13]
    simp only [upd_c]
    by_cases z : i = k
    · simp only [if_pos z]
      exact ⟨trivial, trivial, hm, hs⟩
    · simp only [if_neg z]
      exact hc i (by omega)
  · show (A m' s' ∨ _) ↔ _
    rw [hA]
    constructor
    · rintro (⟨i, hi, e⟩ | ⟨rfl, rfl⟩)
      · exact ⟨i, by omega, by simp only [if_neg (show ¬ i = k by omega)]; exact e⟩
      · exact ⟨k, by omega, by simp only [if_true]⟩
    · rintro ⟨i, hi, e⟩
      by_cases z : i = k
      · simp only [if_pos z, Prod.mk.injEq] at e
        exact Or.inr ⟨e.1.symm, e.2.symm⟩
      · simp only [if_neg z] at e
        exact Or.inl ⟨i, by omega, e⟩
theorem s_addPinEnd (hA : AInv n q nx) {I : MI} {F : MF} (hC : CInv n q nx I F) (hT : T ≤ 9) (h2 : I 2 = nI T) {r c : Nat} (hr : r < 2) (hc : c < 24) {B : Nat} {A : Nat → Nat → Prop} (hB : B < 60) (hU : UF E F ρ) (hE : CE B A ρ I F) {post : MI → MF → MG → Prop} (h : ∀ I' F', (∀ k, k ≠ 3 → I' k = I k) → (∀ k, k ≠ 11 → k ≠ 12 → k ≠ 13 → F' k = F k) → UF E F' ρ → CE (B + 1) (fun m s => A m s ∨ (atn n q r c = some m ∧ wirn n q m = true ∧ s = sp T r c)) ρ I' F' → post I' F' G) : wp_D_addPinEnd (nI r) (nI c) I F G post := by
  have l0 : ∀ g, atn n q r c = some g → g < 2 ^ 31 := fun g hg => by have := atn_lt hA hg; omega
  unfold wp_D_addPinEnd
  rw [nI_clamp (n := r) (by omega), nI_clamp (n := c) (by omega), hC.2.2.2.1 r hr c hc]
  refine ⟨(nI_vp (by omega)).mpr hr, (nI_vp (by omega)).mpr hc, fun x3 hx3 => ?_⟩
  subst hx3
  rw [i_m1, oI_nM l0]
  refine ⟨fun e => h I F (fun _ _ => rfl) (fun _ _ _ _ => rfl) hU ((hE.up (by omega)).congr (fun m s => ⟨Or.inl, fun z => ?_⟩)), fun e => ?_⟩
  · rcases z with z | z
    · exact z
    · rw [e] at z; exact absurd z.1 (by simp)
  · cases hm : atn n q r c with
    | none => exact absurd hm e
    | some m =>
      rw [hm] at h
      have hm12 := atn_lt hA hm
      rw [oI_some]
      refine s_isWired hA hC hm12 (br (fun z => h I F (fun _ _ => rfl) (fun _ _ _ _ => rfl) hU ((hE.up (by omega)).congr (fun m' s => ⟨Or.inl, fun y => ?_⟩))) (fun z => ?_))
      · rcases y with y | y
        · exact y
        · have : m = m' := Option.some.inj y.1
          subst this
          exact absurd (z.symm.trans y.2.1) (by decide)
      · refine s_groupOfRow hT h2 hr hc hU (fun F1 a1 a2 => ?_)
        have hs := sp_lt (T := T) (r := r) hc
        refine s_addEnd hB (hE.ofF (a1 12 (by omega)) (a1 13 (by omega))) hm12 (a2.lt (by omega)) (fun I2 F2 b1 b2 b3 => h I2 F2 b1 (fun k k1 k2 k3 => (b2 k k2 k3).trans (a1 k k1)) (a2.ofF (b2 11 (by omega) (by omega))) (b3.congr (fun m' s' => ?_)))
        constructor
        · rintro (y | ⟨rfl, rfl⟩)
          · exact Or.inl y
          · exact Or.inr ⟨rfl, z, rfl⟩
        · rintro (y | ⟨y1, y2, y3⟩)
          · exact Or.inl y
          · exact Or.inr ⟨(Option.some.inj y1).symm, y3⟩
def AP (n : Nat) (q : AQ) (T i : Nat) (m s : Nat) : Prop := ∃ r c, r < 2 ∧ c < i ∧ atn n q r c = some m ∧ wirn n q m = true ∧ s = sp T r c
def BP (n : Nat) (q : AQ) (T : Nat) (tr : Nat → Nat) (j : Nat) (m s : Nat) : Prop := AP n q T 24 m s ∨ (m < j ∧ padn n q m = true ∧ s = 48 * tr m)
theorem sl_ce1 (hA : AInv n q nx) (hT : T ≤ 9) {post : MI → MF → MG → Prop} {K : Int32 → MI → MF → MG → Prop} : ∀ (d i : Nat) (I : MI) (F : MF), i + d = 24 → CInv n q nx I F → I 2 = nI T → UF E F ρ → CE (2 * i) (AP n q T i) ρ I F → (∀ I' F', (∀ k, k ≠ 3 → I' k = I k) → (∀ k, k ≠ 11 → k ≠ 12 → k ≠ 13 → F' k = F k) → UF E F' ρ → CE 48 (AP n q T 24) ρ I' F' → K (nI 24) I' F' G) → wl_D_collectEnds_7 post K (d + 1) (nI i) I F G := by
  intro d
  induction d with
  | zero =>
    intro i I F hi hC h2 hU hE h
    have e : i = 24 := by omega
    subst e
    exact ⟨fun _ => h I F (fun _ _ => rfl) (fun _ _ _ _ => rfl) hU hE, fun c => absurd (nI_le (Nat.le_refl 24) (by decide)) c⟩
  | succ d ih =>
    intro i I F hi hC h2 hU hE h
    refine ⟨fun c => absurd c (nI_ge (b := 24) (by omega) (by decide)), fun _ => s_addPinEnd (r := 0) hA hC hT h2 (by omega) (by omega) (by omega) hU hE (fun I1 F1 a1 a2 a3 a4 => ?_)⟩
    have hC1 : CInv n q nx I1 F1 := (hC.ofI (a1 1 (by omega))).ofF (fun k hk => a2 k (by omega) (by omega) (by omega))
    have h21 : I1 2 = nI T := (a1 2 (by omega)).trans h2
    refine s_addPinEnd (r := 1) hA hC1 hT h21 (by omega) (by omega) (by omega) a3 a4 (fun I2 F2 b1 b2 b3 b4 x hx => ?_)
    rw [hx, ← nI_succ]
    refine ih (i + 1) I2 F2 (by omega) ((hC1.ofI (b1 1 (by omega))).ofF (fun k hk => b2 k (by omega) (by omega) (by omega))) ((b1 2 (by omega)).trans h21) b3 (b4.congr (fun m s => ?_)) (fun I3 F3 c1 c2 c3 c4 => h I3 F3 (fun k hk => (c1 k hk).trans ((b1 k hk).trans (a1 k hk))) (fun k k1 k2 k3 => (c2 k k1 k2 k3).trans ((b2 k k1 k2 k3).trans (a2 k k1 k2 k3))) c3 c4)
    constructor
    · rintro ((⟨r, c, x1, x2, x3⟩ | x) | x)
      · exact ⟨r, c, x1, by omega, x3⟩
      · exact ⟨0, i, by omega, by omega, x⟩
      · exact ⟨1, i, by omega, by omega, x⟩
    · rintro ⟨r, c, x1, x2, x3⟩
      by_cases z : c = i
      · subst z
        rcases (show r = 0 ∨ r = 1 by omega) with rfl | rfl
        · exact Or.inl (Or.inr x3)
        · exact Or.inr x3
      · exact Or.inl (Or.inl ⟨r, c, x1, by omega, x3⟩)
theorem sl_ce2 (hA : AInv n q nx) (hT : T ≤ 9) (ht : ∀ m, m < 12 → tr m ≤ T) {post : MI → MF → MG → Prop} {K : Int32 → MI → MF → MG → Prop} : ∀ (d i : Nat) (I : MI) (F : MF), i + d = 12 → CInv n q nx I F → (∀ m, m < 12 → F 10 m = nI (tr m)) → UF E F ρ → CE (48 + i) (BP n q T tr i) ρ I F → (∀ I' F', (∀ k, k ≠ 3 → I' k = I k) → (∀ k, k ≠ 11 → k ≠ 12 → k ≠ 13 → F' k = F k) → CE 60 (BP n q T tr 12) ρ I' F' → K (nI 12) I' F' G) → wl_D_collectEnds_33 post K (d + 1) (nI i) I F G := by
  intro d
  induction d with
  | zero =>
    intro i I F hi hC hF hU hE h
    have e : i = 12 := by omega
    subst e
    exact ⟨fun _ => h I F (fun _ _ => rfl) (fun _ _ _ _ => rfl) hE, fun c => absurd (nI_le (Nat.le_refl 12) (by decide)) c⟩
  | succ d ih =>
    intro i I F hi hC hF hU hE h
    have hti := ht i (by omega)
    refine ⟨fun c => absurd c (nI_ge (b := 12) (by omega) (by decide)), fun _ => s_hasPad hA hC (by omega) (br (fun z x hx => ?_) (fun z => ⟨(nI_vp (by omega)).mpr (by omega), ?_⟩))⟩
    · rw [hx, ← nI_succ]
      refine ih (i + 1) I F (by omega) hC hF hU ((hE.up (by omega)).congr (fun m s => ⟨fun y => ?_, fun y => ?_⟩)) h
      · rcases y with y | ⟨y1, y2⟩
        · exact Or.inl y
        · exact Or.inr ⟨by omega, y2⟩
      · rcases y with y | ⟨y1, y2⟩
        · exact Or.inl y
        · refine Or.inr ⟨?_, y2⟩
          rcases Nat.lt_or_ge m i with w | w
          · exact w
          · have : m = i := by omega
            rw [this] at y2
            exact absurd (z.symm.trans y2.1) (by decide)
    · rw [nI_clamp (by omega), hF i (by omega)]
      refine s_spot (c := 0) (k := 0) (s_group (by omega) hU (fun F1 a1 a2 => ?_))
      refine s_addEnd (by omega) (hE.ofF (a1 12 (by omega)) (a1 13 (by omega))) (by omega) (a2.lt (by omega)) (fun I2 F2 b1 b2 b3 x hx => ?_)
      rw [hx, ← nI_succ]
      have hf : ∀ k, k ≠ 11 → k ≠ 12 → k ≠ 13 → F2 k = F k := fun k k1 k2 k3 => (b2 k k2 k3).trans (a1 k k1)
      refine ih (i + 1) I2 F2 (by omega) ((hC.ofI (b1 1 (by omega))).ofF (fun k hk => hf k (by omega) (by omega) (by omega))) (fun m hm => by rw [hf 10 (by omega) (by omega) (by omega)]; exact hF m hm) (a2.ofF (b2 11 (by omega) (by omega))) (b3.congr (fun m s => ⟨fun y => ?_, fun y => ?_⟩)) (fun I3 F3 c1 c2 c3 => h I3 F3 (fun k hk => (c1 k hk).trans (b1 k hk)) (fun k k1 k2 k3 => (c2 k k1 k2 k3).trans (hf k k1 k2 k3)) c3)
      · rcases y with (y | ⟨y1, y2⟩) | ⟨rfl, rfl⟩
        · exact Or.inl y
        · exact Or.inr ⟨by omega, y2⟩
        · exact Or.inr ⟨by omega, z, by omega⟩
      · rcases y with y | ⟨y1, y2, y3⟩
        · exact Or.inl (Or.inl y)
        · rcases Nat.lt_or_ge m i with w | w
          · exact Or.inl (Or.inr ⟨w, y2, y3⟩)
          · have : m = i := by omega
            subst this
            exact Or.inr ⟨rfl, by omega⟩
theorem s_collectEnds (hA : AInv n q nx) {I : MI} {F : MF} (hC : CInv n q nx I F) (hT : T ≤ 9) (h2 : I 2 = nI T) (ht : ∀ m, m < 12 → tr m ≤ T) (hF : ∀ m, m < 12 → F 10 m = nI (tr m)) (hU : UF E F ρ) {post : MI → MF → MG → Prop} (h : ∀ I' F', (∀ k, k ≠ 3 → I' k = I k) → (∀ k, k ≠ 11 → k ≠ 12 → k ≠ 13 → F' k = F k) → CE 60 (BP n q T tr 12) ρ I' F' → post I' F' G) : wp_D_collectEnds I F G post := by
  unfold wp_D_collectEnds
  intro I1 g1
  have e1 : ∀ k, k ≠ 3 → I1 k = I k := fun k hk => by rw [g1]; simp only [setI_c]; rw [if_neg hk]
  have hC1 := hC.ofI (I' := I1) (e1 1 (by omega))
  have c0 : CE (2 * 0) (AP n q T 0) ρ I1 F := ⟨0, fun _ => (0, 0), Nat.le_refl _, by rw [g1]; rfl, fun i hi => by omega, fun m s => ⟨fun ⟨r, c, _, z, _⟩ => by omega, fun ⟨i, z, _⟩ => by omega⟩⟩
  refine ⟨25, sl_ce1 hA hT 24 0 I1 F rfl hC1 ((e1 2 (by omega)).trans h2) hU c0 (fun I2 F2 a1 a2 a3 a4 => ⟨13, ?_⟩)⟩
  refine sl_ce2 (tr := tr) hA hT ht 12 0 I2 F2 rfl ((hC1.ofI (a1 1 (by omega))).ofF (fun k hk => a2 k (by omega) (by omega) (by omega))) (fun m hm => by rw [a2 10 (by omega) (by omega) (by omega)]; exact hF m hm) a3 (a4.congr (fun m s => ⟨Or.inl, fun z => ?_⟩)) (fun I3 F3 b1 b2 b3 => h I3 F3 (fun k hk => (b1 k hk).trans ((a1 k hk).trans (e1 k hk))) (fun k k1 k2 k3 => (b2 k k1 k2 k3).trans (a2 k k1 k2 k3)) b3)
  rcases z with z | z
  · exact z
  · omega
end ENS
/-! masks: more -/
theorem MS_orS {x y : Int32} {S S' : Nat → Bool} (h : MS x S) (h' : MS y S') : MS (x ||| y) (fun i => S i || S' i) := fun i hi => by
  rw [xb_or, h i hi, h' i hi, Bool.and_or_distrib_left]
theorem MS_andS {x y : Int32} {S S' : Nat → Bool} (h : MS x S) (h' : MS y S') : MS (x &&& y) (fun i => S i && S' i) := fun i hi => by
  rw [xb_and, h i hi, h' i hi]
  cases decide (i < 12) <;> simp
theorem MS_low : ∀ m, m < 12 → MS ((1 <<< (nI m &&& 31)) - 1) (fun i => decide (i < m)) := by
  have : ∀ m, m < 12 → ∀ i, i < 32 → xb ((1 <<< (nI m &&& 31)) - 1) i = (decide (i < 12) && decide (i < m)) := by decide +kernel
  exact this
def bcf (a0 : Int32) : Int32 :=
  let x1 := a0 - (((a0.toUInt32 >>> ((1 : Int32).toUInt32 &&& Int32.toUInt32 31)).toInt32) &&& 1431655765)
  let x2 := (x1 &&& 858993459) + (((x1.toUInt32 >>> ((2 : Int32).toUInt32 &&& Int32.toUInt32 31)).toInt32) &&& 858993459)
  let x3 := (x2 + ((x2.toUInt32 >>> ((4 : Int32).toUInt32 &&& Int32.toUInt32 31)).toInt32)) &&& 252645135
  let x4 := x3 + ((x3.toUInt32 >>> ((8 : Int32).toUInt32 &&& Int32.toUInt32 31)).toInt32)
  let x5 := x4 + ((x4.toUInt32 >>> ((16 : Int32).toUInt32 &&& Int32.toUInt32 31)).toInt32)
  x5 &&& 63
theorem s_bcf {a : Int32} {post : Int32 → Prop} (h : post (bcf a)) : wp_JI_bitCount a post := by
  intro x1 h1 x2 h2 x3 h3 x4 h4 x5 h5
  subst h1 h2 h3 h4 h5
  exact h
theorem bcf_ok2 : ∀ a, a < 64 → ∀ b, b < 64 → bcf (nI (64 * a + b)) = nI ((List.range 12).countP (fun i => xb (nI (64 * a + b)) i)) := by decide +kernel
theorem bcf_ok {k : Nat} (h : k < 4096) : bcf (nI k) = nI ((List.range 12).countP (fun i => xb (nI k) i)) := by
  have := bcf_ok2 (k / 64) (by omega) (k % 64) (by omega)
  rw [show 64 * (k / 64) + k % 64 = k by omega] at this
  exact this
theorem MS_nat {x : Int32} {S : Nat → Bool} (h : MS x S) : ∃ k, k < 4096 ∧ x = nI k := by
  refine ⟨x.toBitVec.toNat, ?_, ?_⟩
  · apply Nat.lt_pow_two_of_testBit (n := 12)
    intro i hi
    show xb x i = false
    by_cases z : i < 32
    · rw [h i z, decide_eq_false (by omega), Bool.false_and]
    · exact BitVec.getLsbD_of_ge _ _ (by omega)
  · apply Int32.toBitVec_inj.mp
    show x.toBitVec = BitVec.ofNat 32 x.toBitVec.toNat
    rw [BitVec.ofNat_toNat, BitVec.setWidth_eq]
theorem s_bitCount {x : Int32} {S : Nat → Bool} (h : MS x S) {post : Int32 → Prop} (hp : post (nI (cK S))) : wp_JI_bitCount x post := by
  obtain ⟨k, hk, e⟩ := MS_nat h
  refine s_bcf ?_
  rw [e, bcf_ok hk, ← e]
  have : (List.range 12).countP (fun i => xb x i) = cK S := by
    unfold cK
    apply List.countP_congr
    intro i hi
    have hi := List.mem_range.mp hi
    rw [h i (by omega), decide_eq_true hi, Bool.true_and]
  rw [this]; exact hp
