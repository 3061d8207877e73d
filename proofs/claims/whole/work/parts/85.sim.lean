/-! simulate -/
theorem Sm_frame {I I' : MI} {F F' : MF} {G G' : MG} {J J' : MI} {P P' : MF} {N N' : MG} (h : Sm I F G J P N) (hI : ∀ k, k < 3 → I' k = I k) (hF : ∀ k, k < 11 ∨ 15 ≤ k → F' k = F k) (hG : G' 0 = G 0) (hJ : ∀ k, k ≠ 0 → J' k = J k) (hP : ∀ k, k < 9 → P' k = P k) (hN : N' 0 = N 0) : Sm I' F' G' J' P' N' := by
  obtain ⟨n, q, nx, hA, hC, hM, hT, hR⟩ := h
  refine ⟨n, q, nx, hA, (hC.ofF (fun k hk => hF k (by omega))).ofI (hI 1 (by omega)), ⟨by rw [hJ 1 (by omega)]; exact hM.1, fun g hg => ?_, fun r hr => by rw [hP 6 (by omega)]; exact hM.2.2 r hr⟩, fun k hk => by rw [hG, hN]; exact hT k hk, ?_⟩
  · rw [hP 0 (by omega), hP 1 (by omega), hP 2 (by omega), hP 3 (by omega), hP 4 (by omega), hP 5 (by omega)]; exact hM.2.1 g hg
  · rcases hR with hU | ⟨T, tr, dw, r0, r1, r2, r3, r4, r5⟩
    · exact Or.inl ⟨by rw [hI 0 (by omega)]; exact hU.1, by rw [hJ 2 (by omega)]; exact hU.2⟩
    · refine Or.inr ⟨T, tr, dw, by rw [hI 0 (by omega)]; exact r0, r1, by rw [hI 2 (by omega)]; exact r2, by rw [hJ 2 (by omega)]; exact r3, fun m hm => ?_, fun l hl c hc => ?_⟩
      · rw [hF 10 (by omega), hP 7 (by omega)]; exact r4 m hm
      · rw [hF (19 + l) (by omega), hP 8 (by omega)]; exact r5 l hl c hc
theorem MInv.ofP {n : Nat} {q : AQ} {nx : Nat → Nat} {J J' : MI} {P P' : MF} (h : MInv n q nx J P) (e1 : J' 1 = J 1) (e : ∀ k, k < 7 → P' k = P k) : MInv n q nx J' P' :=
  ⟨by rw [e1]; exact h.1, fun g hg => by rw [e 0 (by omega), e 1 (by omega), e 2 (by omega), e 3 (by omega), e 4 (by omega), e 5 (by omega)]; exact h.2.1 g hg, fun r hr => by rw [e 6 (by omega)]; exact h.2.2 r hr⟩
theorem or_bit (x : Int32) {k i : Nat} (hk : k < 12) (hi : i < 32) (b : Bool) : xb (x ||| (bI b <<< (nI k &&& 31))) i = (xb x i || (decide (i = k) && b)) := by
  rw [xb_or, xb_shl k (by omega) _ hi]
  congr 1
  by_cases z : k ≤ i
  · rw [decide_eq_true z, Bool.true_and, xb_bI _ _ (by omega)]
    by_cases y : i = k
    · subst y; simp
    · rw [show (decide (i - k = 0)) = false by simp; omega]
      simp [y]
  · rw [decide_eq_false z]
    simp [show ¬ i = k by omega]
def bs (k : Nat) (x y : Bool) : Bool := match k with
  | 0 => !x
  | 1 => x
  | 2 => !(x && y)
  | _ => !(x || y)
section SIM
variable {n : Nat} {q : AQ} {nx : Nat → Nat} {G : MG} {N : MG} {v : Int32}
abbrev EvB (n : Nat) (q : AQ) (v : Int32) (m : Nat) (b : Bool) : Prop := Ev n q (fun m => xb v m) (fun g x y => bs (q 0 g) x y) m b
/-- the levels of the nets of S, as bits -/
def BV (n : Nat) (q : AQ) (v : Int32) (S : Nat → Bool) (x : Int32) : Prop := ∀ i, i < 32 → (i < 12 ∧ S i = true → EvB n q v i (xb x i)) ∧ (¬ (i < 12 ∧ S i = true) → xb x i = false)
theorem BV_inj {S S' : Nat → Bool} {x y : Int32} (hx : BV n q v S x) (hy : BV n q v S' y) (e : ∀ i, i < 12 → S i = S' i) : x = y := by
  apply xb_ext
  intro i hi
  by_cases c : i < 12 ∧ S i = true
  · exact ((hx i hi).1 c).inj ((hy i hi).1 ⟨c.1, by rw [← e i c.1]; exact c.2⟩)
  · rw [(hx i hi).2 c, (hy i hi).2 (fun z => c ⟨z.1, by rw [e i z.1]; exact z.2⟩)]
theorem BV_or {S S' : Nat → Bool} {x : Int32} (hx : BV n q v S x) {k : Nat} (hk : k < 12) (hS : S k = false) {b : Bool} (hb : EvB n q v k b) (e : ∀ i, i < 12 → S' i = (S i || decide (i = k))) : BV n q v S' (x ||| (bI b <<< (nI k &&& 31))) := by
  intro i hi
  rw [or_bit x hk hi]
  by_cases z : i = k
  · subst z
    have h0 : xb x i = false := (hx i hi).2 (fun z => by rw [hS] at z; exact absurd z.2 (by decide))
    rw [h0]
    simp only [decide_true, Bool.true_and, Bool.false_or]
    refine ⟨fun _ => hb, fun c => absurd ⟨hk, by rw [e i hk]; simp⟩ c⟩
  · simp only [z, decide_false, Bool.false_and, Bool.or_false]
    refine ⟨fun c => (hx i hi).1 ⟨c.1, ?_⟩, fun c => (hx i hi).2 (fun y => c ⟨y.1, ?_⟩)⟩
    · have := c.2
      rw [e i c.1] at this
      simpa [z] using this
    · rw [e i y.1, y.2]; rfl
theorem BV_congr {S S' : Nat → Bool} {x : Int32} (hx : BV n q v S x) (e : ∀ i, i < 12 → S i = S' i) : BV n q v S' x := fun i hi =>
  ⟨fun c => (hx i hi).1 ⟨c.1, by rw [e i c.1]; exact c.2⟩, fun c => (hx i hi).2 (fun y => c ⟨y.1, by rw [← e i y.1]; exact y.2⟩)⟩
theorem BV_0 : BV n q v (fun _ => false) 0 := fun i _ => ⟨fun c => absurd c.2 Bool.false_ne_true, fun _ => xb_0 i⟩
theorem s_output {k : Nat} (hk : k < 4) {x y : Bool} {post : Int32 → Prop} (h : post (bI (bs k x y))) : wp_S_output (nI k) (bI x) (bI y) post := by
  unfold wp_S_output
  rcases (show k = 0 ∨ k = 1 ∨ k = 2 ∨ k = 3 by omega) with rfl | rfl | rfl | rfl
  · refine ⟨fun _ => ?_, fun c => absurd rfl c⟩
    rw [show (1 - bI x : Int32) = bI (bs 0 x y) by cases x <;> cases y <;> decide]; exact h
  · exact ⟨fun c => absurd c (by decide), fun _ => ⟨fun _ => h, fun c => absurd rfl c⟩⟩
  · refine ⟨fun c => absurd c (by decide), fun _ => ⟨fun c => absurd c (by decide), fun _ => ⟨fun _ => ?_, fun c => absurd rfl c⟩⟩⟩
    rw [show (1 - (bI x &&& bI y) : Int32) = bI (bs 2 x y) by cases x <;> cases y <;> decide]; exact h
  · refine ⟨fun c => absurd c (by decide), fun _ => ⟨fun c => absurd c (by decide), fun _ => ⟨fun c => absurd c (by decide), fun _ => ?_⟩⟩⟩
    rw [show (1 - (bI x ||| bI y) : Int32) = bI (bs 3 x y) by cases x <;> cases y <;> decide]; exact h
theorem sl_lev1 (hA : AInv n q nx) {I : MI} {F : MF} (hC : CInv n q nx I F) {post : Int32 → Prop} {K : Int32 → Int32 → Prop} : ∀ (d i : Nat) (x : Int32), i + d = 12 → BV n q v (fun m => decide (m < i) && (dvn n q m).isNone) x → (∀ y, BV n q v (stl n q []) y → K y (nI 12)) → wl_S_levels_4 post K v I F G (d + 1) x (nI i) := by
  intro d
  induction d with
  | zero =>
    intro i x hi hB h
    have e : i = 12 := by omega
    subst e
    refine ⟨fun _ => h x (BV_congr hB (fun j hj => ?_)), fun c => absurd (nI_le (Nat.le_refl 12) (by decide)) c⟩
    simp [stl, hj]
  | succ d ih =>
    intro i x hi hB h
    refine ⟨fun c => absurd c (nI_ge (b := 12) (by omega) (by decide)), fun _ => s_isDriven hA hC (by omega) (br' (fun e y hy => ?_) (fun e => ?_))⟩
    · rw [hy, ← nI_succ]
      refine ih (i + 1) x (by omega) (BV_congr hB (fun j hj => ?_)) h
      by_cases z : j = i
      · subst z
        have : (dvn n q j).isNone = false := by cases hd : dvn n q j with | none => rw [hd] at e; cases e | some g => rfl
        simp [this]
      · rw [show decide (j < i + 1) = decide (j < i) by congr 1; apply propext; omega]
    · unfold wp_S_bit
      rw [bit_at v (by omega)]
      intro x6 hx6 x7 hx7
      rw [hx6, hx7, ← nI_succ]
      have hd : dvn n q i = none := by cases hd : dvn n q i with | none => rfl | some g => rw [hd] at e; cases e
      refine ih (i + 1) _ (by omega) (BV_or hB (by omega) (by simp) (Ev.b0 hd) (fun j hj => ?_)) h
      by_cases z : j = i
      · subst z; simp [hd]
      · rw [show decide (j < i + 1) = decide (j < i) by congr 1; apply propext; omega]
        simp [z]
theorem take_succ {L : List Nat} {j g : Nat} (h : L[j]? = some g) : L.take (j + 1) = L.take j ++ [g] := by
  rw [List.take_succ, h]; rfl
theorem sl_lev2 (hA : AInv n q nx) {I : MI} {F : MF} (hC : CInv n q nx I F) {L : List Nat} (hO : OV n q L) (hI : OI n q L I F) (hL : L.length ≤ 12) {post : Int32 → Prop} {K : Int32 → Int32 → Prop} : ∀ (d j : Nat) (x : Int32), j + d = L.length → BV n q v (stl n q (L.take j)) x → (∀ y, BV n q v (stl n q L) y → K y (nI L.length)) → wl_S_levels_39 post K v I F G (d + 1) x (nI j) := by
  obtain ⟨i4, i5, f14⟩ := hI
  have hn := hA.1
  intro d
  induction d with
  | zero =>
    intro j x hi hB h
    have e : j = L.length := by omega
    subst e
    unfold wl_S_levels_39
    rw [i4]
    rw [List.take_length] at hB
    exact ⟨fun _ => h x hB, fun c => absurd (nI_le (Nat.le_refl _) (by omega)) c⟩
  | succ d ih =>
    intro j x hi hB h
    obtain ⟨g, hg⟩ : ∃ g, L[j]? = some g := ⟨L[j], List.getElem?_eq_getElem (by omega)⟩
    have hsplit : L = L.take j ++ g :: L.drop (j + 1) := by
      have h1 := List.take_append_drop j L
      have h2 : L.drop j = g :: L.drop (j + 1) := by
        rw [List.drop_eq_getElem_cons (by omega)]
        congr 1
        exact Option.some.inj ((List.getElem?_eq_getElem (by omega)).symm.trans hg)
      rw [h2] at h1; exact h1.symm
    obtain ⟨hgn, h1, h2, h3⟩ := hO _ g _ hsplit
    obtain ⟨k0, k1, k2, _, k3, _⟩ := hA.2.1 g hgn
    have vg := (nI_vp (a := g) (n := 12) (by omega)).mpr (by omega)
    unfold wl_S_levels_39
    rw [i4, nI_clamp (n := j) (by omega), f14 j g hg]
    refine ⟨fun c => absurd c (nI_ge (by omega) (by omega)), fun _ => ⟨(nI_vp (by omega)).mpr (by omega), fun x12 hx12 => ?_⟩⟩
    subst hx12
    rw [nI_clamp (by omega), hC.2.1 1 (by omega) g hgn, hC.2.1 2 (by omega) g hgn, hC.2.1 0 (by omega) g hgn, hC.2.1 3 (by omega) g hgn]
    unfold wp_S_bit
    rw [bit_at x (m := q 1 g) (by omega), bit_at x (m := q 2 g) (by omega)]
    refine ⟨vg, vg, vg, s_output k0 ⟨vg, fun x20 hx20 x21 hx21 => ?_⟩⟩
    rw [hx20, hx21, ← nI_succ]
    have e1 := (hB (q 1 g) (by omega)).1 ⟨k1, h1⟩
    have e2 := (hB (q 2 g) (by omega)).1 ⟨k2, h2⟩
    refine ih (j + 1) _ (by omega) (BV_or hB k3 h3 (Ev.s1 (dvn_out hA hgn) e1 e2) (fun i _ => ?_)) h
    rw [take_succ hg, stl_snoc]
theorem s_levels (hA : AInv n q nx) {I : MI} {F : MF} (hC : CInv n q nx I F) {L : List Nat} (hO : OV n q L) (hI : OI n q L I F) (hL : L.length ≤ 12) {post : Int32 → Prop} (h : ∀ y, BV n q v (stl n q L) y → post y) : wp_S_levels v I F G post := by
  refine ⟨13, sl_lev1 hA hC 12 0 0 rfl (BV_congr BV_0 (fun i _ => by simp)) (fun y hy => ⟨L.length + 1, sl_lev2 hA hC hO hI hL L.length 0 y (by omega) (by simpa using hy) (fun z hz => h z hz)⟩)⟩
/-! the reference -/
def rdy (n : Nat) (q : AQ) (K : Nat → Bool) (m : Nat) : Bool := match dvn n q m with
  | none => true
  | some g => K (q 1 g) && K (q 2 g)
def RF (n : Nat) (q : AQ) (K : Nat → Bool) : Prop := ∀ m, m < 12 → rdy n q K m = true → K m = true
theorem RF.fix (hA : AInv n q nx) {K : Nat → Bool} (h : RF n q K) : Fix n q K := by
  refine ⟨fun m hm hd => h m hm (by unfold rdy; rw [hd]), fun g hg h1 h2 => h _ (hA.2.1 g hg).2.2.2.2.1 ?_⟩
  unfold rdy
  rw [dvn_out hA hg]
  show (K (q 1 g) && K (q 2 g)) = true
  rw [h1, h2]; rfl
theorem t_isReady {J : MI} {P : MF} (hA : AInv n q nx) (hM : MInv n q nx J P) {K : Nat → Bool} (hK : ∀ m, m < 12 → P 10 m = bI (K m)) {m : Nat} (hm : m < 12) {post : Int32 → Prop} (h : post (bI (rdy n q K m))) : wp_M_isReady (nI m) J P N post := by
  have hn := hA.1
  unfold wp_M_isReady
  unfold rdy at h
  refine t_driver hA hM hm ?_
  rw [i_m1, oI_nM (fun g hg => by have := (dvn_lt hg).1; omega)]
  refine ⟨fun e => ?_, fun e => ?_⟩
  · rw [e] at h; exact h
  · cases hd : dvn n q m with
    | none => exact absurd hd e
    | some g =>
      rw [hd] at h
      simp only at h
      obtain ⟨hg, _⟩ := dvn_lt hd
      obtain ⟨k0, k1, k2, kk, _⟩ := hA.2.1 g hg
      obtain ⟨e0, e1, e2, _⟩ := hM.2.1 g hg
      have vg := (nI_vp (a := g) (n := 12) (by omega)).mpr (by omega)
      rw [oI_some, nI_clamp (n := g) (by omega), e1, e0, nI_clamp (n := q 1 g) (by omega), hK _ k1]
      refine ⟨vg, (nI_vp (by omega)).mpr k1, br (fun z => ?_) (fun z => ⟨vg, fun c => ?_, fun c => ⟨vg, ?_⟩⟩)⟩
      · rw [z] at h; exact h
      · rw [i_2, nI_lt_iff (by omega) (by omega)] at c
        rw [kk c, z] at h; exact h
      · rw [i_2, nI_lt_iff (by omega) (by omega)] at c
        rw [if_neg c] at e2
        rw [e2, nI_clamp (by omega), hK _ k2]
        refine ⟨(nI_vp (by omega)).mpr k2, br (fun y => ?_) (fun y => ?_)⟩
        · rw [z, y] at h; exact h
        · rw [z, y] at h; exact h
def cK (K : Nat → Bool) : Nat := (List.range 12).countP K
theorem cK_le (K : Nat → Bool) : cK K ≤ 12 := by
  have := List.countP_le_length (p := K) (l := List.range 12)
  simpa [cK] using this
theorem tl_sim1 {J : MI} {post : Int32 → MI → MF → MG → Prop} {Kk : Int32 → MI → MF → MG → Prop} {a b c : Int32} : ∀ (d i : Nat) (P : MF), i + d = 12 → (∀ m, m < i → P 10 m = bI false) → (∀ P', (∀ k, k ≠ 10 → P' k = P k) → (∀ m, m < 12 → P' 10 m = bI false) → Kk (nI 12) J P' N) → wl_M_simulate_7 post Kk a b c (d + 1) (nI i) J P N := by
  intro d
  induction d with
  | zero =>
    intro i P hi hS h
    have e : i = 12 := by omega
    subst e
    exact ⟨fun _ => h P (fun _ _ => rfl) hS, fun c => absurd (nI_le (Nat.le_refl 12) (by decide)) c⟩
  | succ d ih =>
    intro i P hi hS h
    unfold wl_M_simulate_7
    rw [nI_clamp (by omega)]
    refine ⟨fun c => absurd c (nI_ge (b := 12) (by omega) (by decide)), fun _ => ⟨(nI_vp (by omega)).mpr (by omega), fun P3 p3 x hx => ?_⟩⟩
    rw [hx, ← nI_succ]
    refine ih (i + 1) P3 (by omega) (fun m hm => ?_) (fun P' h1 h2 => h P' (fun k hk => by rw [h1 k hk, p3]; simp only [setF_c]; rw [if_neg hk]) h2)
    rw [p3]
    simp only [setF_c, if_true, upd_c]
    by_cases z : m = i
    · rw [if_pos z]; rfl
    · rw [if_neg z]; exact hS m (by omega)
theorem tl_sim2 (hA : AInv n q nx) {J : MI} {a4 : Int32} {post : Int32 → MI → MF → MG → Prop} {Kk : Int32 → Int32 → Int32 → MI → MF → MG → Prop} {K0 : Nat → Bool} : ∀ (d i : Nat) (K : Nat → Bool) (x : Int32) (P : MF), MInv n q nx J P → i + d = 12 → BV n q v K x → (∀ m, m < 12 → P 10 m = bI (K m)) →
    ((K = K0 ∧ ∀ m, m < i → rdy n q K0 m = true → K0 m = true) ∨ cK K0 < cK K) → (RF n q K0 → K = K0) →
    (∀ (K' : Nat → Bool) (x' : Int32) (P' : MF), BV n q v K' x' → (∀ m, m < 12 → P' 10 m = bI (K' m)) → ((K' = K0 ∧ RF n q K0) ∨ cK K0 < cK K') → (RF n q K0 → K' = K0) → (∀ k, k ≠ 10 → P' k = P k) → Kk x' (nI (cK K')) (nI 12) J P' N) →
    wl_M_simulate_41 post Kk v a4 (d + 1) x (nI (cK K)) (nI i) J P N := by
  have hn := hA.1
  intro d
  induction d with
  | zero =>
    intro i K x P hM hi hB hK hP hX h
    have e : i = 12 := by omega
    subst e
    refine ⟨fun _ => h K x P hB hK ?_ hX (fun _ _ => rfl), fun c => absurd (nI_le (Nat.le_refl 12) (by decide)) c⟩
    rcases hP with ⟨h1, h2⟩ | h1
    · exact Or.inl ⟨h1, h2⟩
    · exact Or.inr h1
  | succ d ih =>
    intro i K x P hM hi hB hK hP hX h
    have vi := (nI_vp (a := i) (n := 12) (by omega)).mpr (by omega)
    have skip : (rdy n q K i = true → K i = true) → ∀ y : Int32, y = nI i + 1 → wl_M_simulate_41 post Kk v a4 (d + 1) x (nI (cK K)) y J P N := by
      intro hs y hy
      rw [hy, ← nI_succ]
      refine ih (i + 1) K x P hM (by omega) hB hK ?_ hX h
      rcases hP with ⟨h1, h2⟩ | h1
      · refine Or.inl ⟨h1, fun m hm hr => ?_⟩
        by_cases z : m = i
        · subst z; rw [← h1] at hr ⊢; exact hs hr
        · exact h2 m (by omega) hr
      · exact Or.inr h1
    unfold wl_M_simulate_41
    rw [nI_clamp (by omega), hK i (by omega), bit_at v (by omega)]
    refine ⟨fun c => absurd c (nI_ge (b := 12) (by omega) (by decide)), fun _ => ⟨vi, br' (fun ki => skip (fun _ => ki)) (fun ki => t_isReady hA hM hK (by omega) (br' (fun rd => ?_) (fun rd => skip (fun z => absurd (rd.symm.trans z) (by decide)))))⟩⟩
    refine ⟨vi, fun P15 p15 x16 hx16 => ?_⟩
    have ep : ∀ k, k ≠ 10 → P15 k = P k := fun k hk => by rw [p15]; simp only [setF_c]; rw [if_neg hk]
    have hM15 : MInv n q nx J P15 := hM.ofP rfl (fun k hk => ep k (by omega))
    obtain ⟨K', hK'⟩ : ∃ K' : Nat → Bool, K' = fun j => K j || decide (j = i) := ⟨_, rfl⟩
    have c1 : cK K' = cK K + 1 := by rw [hK']; exact cnt_add K 12 i (by omega) ki
    have hx16' : x16 = nI (cK K') := by rw [hx16, c1, nI_succ]
    have hK15 : ∀ m, m < 12 → P15 10 m = bI (K' m) := by
      intro m hm
      rw [p15, hK']
      simp only [setF_c, if_true, upd_c]
      by_cases z : m = i
      · rw [if_pos z]; simp [z]; rfl
      · rw [if_neg z, hK m hm]; simp [z]
    -- behind the step
    have go : ∀ (b : Bool), EvB n q v i b → ∀ y : Int32, y = nI i + 1 → wl_M_simulate_41 post Kk v a4 (d + 1) (x ||| (bI b <<< (nI i &&& 31))) x16 y J P15 N := by
      intro b hb y hy
      rw [hy, ← nI_succ, hx16']
      refine ih (i + 1) K' _ P15 hM15 (by omega) (BV_or hB (by omega) ki hb (fun j _ => by rw [hK'])) hK15 (Or.inr ?_) (fun hf => ?_) (fun K2 x2 P2 b1 b2 b3 b4 b5 => h K2 x2 P2 b1 b2 b3 b4 (fun k hk => (b5 k hk).trans (ep k hk)))
      · rw [c1]
        rcases hP with ⟨h1, _⟩ | h1
        · rw [h1]; omega
        · omega
      · have e := hX hf
        rw [e] at ki rd
        rw [hf i (by omega) rd] at ki; cases ki
    refine t_driver hA hM15 (by omega) (fun x18 hx18 => ?_)
    rw [i_m1, oI_nM (fun g hg => by have := (dvn_lt hg).1; omega)]
    refine ⟨fun hd x20 hx20 y hy => ?_, fun hd => ?_⟩
    · rw [hx20, hx18]
      exact go _ (Ev.b0 hd) y hy
    · cases hdd : dvn n q i with
      | none => exact absurd hdd hd
      | some g =>
        obtain ⟨hg, e3⟩ := dvn_lt hdd
        obtain ⟨k0, k1, k2, kk, _⟩ := hA.2.1 g hg
        obtain ⟨e0, e1, e2, _⟩ := hM15.2.1 g hg
        have vg := (nI_vp (a := g) (n := 12) (by omega)).mpr (by omega)
        have rr := rd
        unfold rdy at rr
        rw [hdd] at rr
        simp only [Bool.and_eq_true] at rr
        have v1 := (hB (q 1 g) (by omega)).1 ⟨k1, rr.1⟩
        have v2 := (hB (q 2 g) (by omega)).1 ⟨k2, rr.2⟩
        have hev := Ev.s1 hdd v1 v2
        rw [oI_some, nI_clamp (n := g) (by omega), e1, e0, bit_at x (m := q 1 g) (by omega)]
        refine ⟨vg, fun x23 hx23 => ⟨vg, ?_⟩⟩
        subst hx23
        rcases (show q 0 g = 0 ∨ q 0 g = 1 ∨ q 0 g = 2 ∨ q 0 g = 3 by omega) with z | z | z | z
        · rw [z]
          rw [z] at hev
          refine ⟨fun _ => ⟨vg, fun c => absurd rfl c, fun _ x40 hx40 x41 hx41 y hy => ?_⟩, fun c => absurd (by decide) c⟩
          rw [hx41, hx40, show (1 - bI (xb x (q 1 g)) : Int32) = bI (bs 0 (xb x (q 1 g)) (xb x (q 2 g))) by cases xb x (q 1 g) <;> cases xb x (q 2 g) <;> decide]
          exact go _ hev y hy
        · rw [z]
          rw [z] at hev
          refine ⟨fun _ => ⟨vg, fun _ => ⟨vg, fun c => absurd rfl c, fun _ x38 hx38 y hy => ?_⟩, fun c => absurd c (by decide)⟩, fun c => absurd (by decide) c⟩
          rw [hx38]
          exact go _ hev y hy
        · rw [z]
          rw [z] at hev
          rw [if_neg (by omega)] at e2
          rw [e2, bit_at x (m := q 2 g) (by omega)]
          refine ⟨fun c => absurd c (by decide), fun _ => ⟨vg, fun x44 hx44 => ⟨vg, fun _ => ⟨vg, fun _ => ⟨vg, fun c => absurd rfl c, fun _ x54 hx54 x55 hx55 y hy => ?_⟩, fun c => absurd c (by decide)⟩, fun c => absurd c (by decide)⟩⟩⟩
          subst hx44
          rw [hx55, hx54, show (1 - (bI (xb x (q 1 g)) &&& bI (xb x (q 2 g))) : Int32) = bI (bs 2 (xb x (q 1 g)) (xb x (q 2 g))) by cases xb x (q 1 g) <;> cases xb x (q 2 g) <;> decide]
          exact go _ hev y hy
        · rw [z]
          rw [z] at hev
          rw [if_neg (by omega)] at e2
          rw [e2, bit_at x (m := q 2 g) (by omega)]
          refine ⟨fun c => absurd c (by decide), fun _ => ⟨vg, fun x44 hx44 => ⟨vg, fun _ => ⟨vg, fun _ => ⟨vg, fun _ x51 hx51 x52 hx52 y hy => ?_, fun c => absurd c (by decide)⟩, fun c => absurd c (by decide)⟩, fun c => absurd c (by decide)⟩⟩⟩
          subst hx44
          rw [hx52, hx51, show (1 - (bI (xb x (q 1 g)) ||| bI (xb x (q 2 g))) : Int32) = bI (bs 3 (xb x (q 1 g)) (xb x (q 2 g))) by cases xb x (q 1 g) <;> cases xb x (q 2 g) <;> decide]
          exact go _ hev y hy
theorem tl_sim3 (hA : AInv n q nx) {J : MI} {post : Int32 → MI → MF → MG → Prop} {Kk : Int32 → Int32 → Int32 → MI → MF → MG → Prop} : ∀ (d p : Nat) (K : Nat → Bool) (x : Int32) (P : MF), MInv n q nx J P → p + d = 13 → BV n q v K x → (∀ m, m < 12 → P 10 m = bI (K m)) → (RF n q K ∨ p ≤ cK K) →
    (∀ (K' : Nat → Bool) (x' : Int32) (P' : MF), BV n q v K' x' → RF n q K' → (∀ k, k ≠ 10 → P' k = P k) → Kk x' (nI (cK K')) (nI 13) J P' N) → wl_M_simulate_31 post Kk v (d + 1) x (nI (cK K)) (nI p) J P N := by
  intro d
  induction d with
  | zero =>
    intro p K x P hM hi hB hK hP h
    have e : p = 13 := by omega
    subst e
    refine ⟨fun _ => h K x P hB ?_ (fun _ _ => rfl), fun c => absurd (nI_le (a := 13) (Nat.le_refl 13) (by decide)) c⟩
    rcases hP with h1 | h1
    · exact h1
    · have := cK_le K; omega
  | succ d ih =>
    intro p K x P hM hi hB hK hP h
    refine ⟨fun c => absurd c (nI_ge (b := 13) (by omega) (by decide)), fun _ => ⟨13, tl_sim2 hA (K0 := K) 12 0 K x P hM rfl hB hK (Or.inl ⟨rfl, fun m hm => by omega⟩) (fun _ => rfl) (fun K' x' P' a1 a2 a3 a4 a5 y hy => ?_)⟩⟩
    rw [hy, ← nI_succ]
    refine ih (p + 1) K' x' P' (hM.ofP rfl (fun k hk => a5 k (by omega))) (by omega) a1 a2 ?_ (fun K2 x2 P2 b1 b2 b3 => h K2 x2 P2 b1 b2 (fun k hk => (b3 k hk).trans (a5 k hk)))
    rcases a3 with ⟨e1, e2⟩ | e1
    · left; rw [e1]; exact e2
    · rcases hP with h1 | h1
      · left; rw [a4 h1]; exact h1
      · right; omega
theorem cK_full {K : Nat → Bool} (h : cK K = 12) : ∀ m, m < 12 → K m = true := fun m hm => List.countP_eq_length.mp (show (List.range 12).countP K = (List.range 12).length by rw [List.length_range]; exact h) m (List.mem_range.mpr hm)
theorem cK_of {K : Nat → Bool} (h : ∀ m, m < 12 → K m = true) : cK K = 12 := by
  have : (List.range 12).countP K = (List.range 12).length := List.countP_eq_length.mpr (fun m hm => h m (List.mem_range.mp hm))
  unfold cK
  rw [this, List.length_range]
theorem g_simulate {I : MI} {F : MF} {J : MI} {P : MF} (h : Sm I F G J P N) (v : Int32) (w : Int64) : st_simulate Sm v w I F G J P N := by
  obtain ⟨n, q, nx, hA, hC, hM, hT, hR⟩ := id h
  have hn := hA.1
  unfold st_simulate wq_simulate wp_F_simulate
  refine s_orderGates hA hC (fun L I' F' hO hl hI hF e4 e14 => ?_)
  have hC' : CInv n q nx I' F' := (hC.ofF (fun k hk => e14 k (by omega))).ofI (e4 1 (by omega) (by omega))
  have hle := cst_le n q L
  have hL : L.length ≤ 12 := by omega
  have hsm : ∀ (J' : MI) (P' : MF), (∀ k, k ≠ 0 → J' k = J k) → (∀ k, k ≠ 10 → P' k = P k) → Sm I' F' G J' P' N := fun J' P' hJ hP => Sm_frame h (fun k hk => e4 k (by omega) (by omega)) (fun k hk => e14 k (by omega)) rfl hJ (fun k hk => hP k (by omega)) rfl
  -- the reference's walk
  have ref : ∀ (post : Int32 → MI → MF → MG → Prop), (∀ (K : Nat → Bool) (x : Int32) (P' : MF), BV n q v K x → RF n q K → (∀ k, k ≠ 10 → P' k = P k) → (cK K = 12 → post x (setI J 0 0) P' N) ∧ (¬ cK K = 12 → post 0 (setI J 0 1) P' N)) → wp_M_simulate v J P N post := by
    intro post hp
    refine ⟨13, tl_sim1 12 0 P rfl (fun m hm => by omega) (fun P1 h1 h2 => ⟨14, ?_⟩)⟩
    have := tl_sim3 (v := v) (N := N) (post := post) (J := J) hA (Kk := fun x_69 x_70 x_71 I_72 F_72 G_72 => ((12 ≤ x_70 → ∀ I_74 : MI, I_74 = setI I_72 0 0 → post x_69 I_74 F_72 G_72) ∧ (¬ 12 ≤ x_70 → wp_M_refuse 1 I_72 F_72 G_72 (fun r_75 I_76 F_76 G_76 => post r_75 I_76 F_76 G_76)))) 13 0 (fun _ => false) 0 P1 (hM.ofP rfl (fun k hk => h1 k (by omega))) rfl BV_0 h2 (Or.inr (by omega)) (fun K x P' b1 b2 b3 => ?_)
    · exact this
    · have hc := cK_le K
      obtain ⟨p1, p2⟩ := hp K x P' b1 b2 (fun k hk => (b3 k hk).trans (h1 k hk))
      show ((nI 12 ≤ nI (cK K) → _) ∧ (¬ nI 12 ≤ nI (cK K) → _))
      rw [nI_le_iff (by omega) (by omega)]
      refine ⟨fun c I74 g74 => ?_, fun c => rf_i (p2 (by omega))⟩
      rw [g74]; exact p1 (by omega)
  have same : ∀ (K : Nat → Bool) (x : Int32), BV n q v K x → RF n q K → ∀ m, m < 12 → K m = stl n q L m := by
    intro K x hB hRF m hm
    rw [Bool.eq_iff_iff]
    constructor
    · intro hk
      exact hF.all hA hm ((hB m (by omega)).1 ⟨hm, hk⟩)
    · intro hs
      obtain ⟨b, hb⟩ := stl_ev (base := fun m => xb v m) (step := fun g x y => bs (q 0 g) x y) hA L hO m hs
      exact (hRF.fix hA).all hA hm hb
  have full : ∀ (K : Nat → Bool) (x : Int32), BV n q v K x → RF n q K → (cK K = 12 ↔ L.length = n) := by
    intro K x hB hRF
    have hs := same K x hB hRF
    constructor
    · intro hc
      have : (List.range n).countP (fun g => stl n q L (q 3 g)) = (List.range n).length := List.countP_eq_length.mpr (fun g hg => by
        have hg := List.mem_range.mp hg
        have h3 := (hA.2.1 g hg).2.2.2.2.1
        rw [← hs _ h3]; exact cK_full hc _ h3)
      rw [List.length_range] at this
      rw [hl]; exact this
    · intro hc
      refine cK_of (fun m hm => ?_)
      rw [hs m hm]
      cases hd : dvn n q m with
      | none => unfold stl; rw [hd]; rfl
      | some g =>
        obtain ⟨hg, e3⟩ := dvn_lt hd
        rw [← e3]; exact cst_full (by omega) g hg
  unfold wp_S_allSettled
  rw [hI.1, hC'.1, nI_eq_iff (by omega) (by omega)]
  refine ⟨fun c => ⟨fun z => absurd rfl z, fun _ => ⟨rfl, ref _ (fun K x P' b1 b2 b3 => ⟨fun hc => absurd ((full K x b1 b2).mp hc) c, fun _ => ⟨rfl, fun z => absurd z (by decide), hsm _ _ (fun k hk => by simp only [setI_c]; rw [if_neg hk]) b3⟩⟩)⟩⟩, fun c => ⟨fun _ => s_levels hA hC' hO hI hL (fun y hy => ref _ (fun K x P' b1 b2 b3 => ⟨fun _ => ⟨rfl, fun _ => ?_, hsm _ _ (fun k hk => by simp only [setI_c]; rw [if_neg hk]) b3⟩, fun hc => absurd ((full K x b1 b2).mpr c) hc⟩)), fun z => absurd z (by decide)⟩⟩
  rw [BV_inj hy b1 (fun i hi => (same K x b1 b2 i hi).symm)]
end SIM
