/-! route: the drawing -/
abbrev DW : Type := Nat → Nat → Nat → Bool
def dv (D : DW) (l c : Nat) : Nat := (if D l c 0 then 1 else 0) + (if D l c 1 then 2 else 0) + (if D l c 2 then 4 else 0)
theorem dv_lt (D : DW) (l c : Nat) : dv D l c < 8 := by
  unfold dv
  cases D l c 0 <;> cases D l c 1 <;> cases D l c 2 <;> decide
theorem dv_congr {D D' : DW} {l c : Nat} (h : ∀ b, D l c b = D' l c b) : dv D l c = dv D' l c := by unfold dv; rw [h 0, h 1, h 2]
def mk (D : DW) (l c b : Nat) : DW := fun l' c' b' => D l' c' b' || (decide (l' = l) && decide (c' = c) && decide (b' = b))
theorem dv_mk0 {D : DW} {l c b l' c' : Nat} (h : ¬ (l' = l ∧ c' = c)) : dv (mk D l c b) l' c' = dv D l' c' := by
  apply dv_congr
  intro b'
  unfold mk
  by_cases z : l' = l
  · have : ¬ c' = c := fun y => h ⟨z, y⟩
    simp [this]
  · simp [z]
theorem dv_mk1 (D : DW) (l c : Nat) {b : Nat} (hb : b < 3) : nI (dv D l c) ||| nI (2 ^ b) = nI (dv (mk D l c b) l c) := by
  rcases (show b = 0 ∨ b = 1 ∨ b = 2 by omega) with rfl | rfl | rfl
  all_goals
    simp only [dv, mk, decide_true, Bool.and_self, Bool.true_and, decide_false, Bool.and_false, Bool.or_false, Bool.or_true, Nat.zero_ne_one, Nat.one_ne_zero, reduceCtorEq, if_true, Nat.reduceEqDiff]
    cases D l c 0 <;> cases D l c 1 <;> cases D l c 2 <;> decide
def DrC (D : DW) (F : MF) : Prop := ∀ l, l < 11 → ∀ c, c < 24 → F (19 + l) c = nI (dv D l c)
def DrM (D : DW) (P : MF) : Prop := ∀ l, l < 11 → ∀ c, c < 24 → P 8 (24 * l + c) = nI (dv D l c)
theorem DrC.congr {D D' : DW} {F : MF} (h : DrC D F) (e : ∀ l c b, D l c b = D' l c b) : DrC D' F := fun l hl c hc => by rw [h l hl c hc, dv_congr (e l c)]
theorem DrM.congr {D D' : DW} {P : MF} (h : DrM D P) (e : ∀ l c b, D l c b = D' l c b) : DrM D' P := fun l hl c hc => by rw [h l hl c hc, dv_congr (e l c)]
theorem DrC.set {D : DW} {F F' : MF} (h : DrC D F) {l c b : Nat} (hl : l < 11) (hc : c < 24) (hb : b < 3) {x : Int32} (hx : x = nI (2 ^ b)) (e : F' = setF F (19 + l) (upd (F (19 + l)) c (F (19 + l) c ||| x))) : DrC (mk D l c b) F' := by
  intro l' hl' c' hc'
  rw [e]
  simp only [setF_c]
  by_cases z : l' = l
  · subst z
    rw [if_pos rfl, upd_c]
    by_cases y : c' = c
    · subst y
      rw [if_pos rfl, h l' hl c' hc, hx, dv_mk1 D l' c' hb]
    · rw [if_neg y, h l' hl c' hc', dv_mk0 (fun w => y w.2)]
  · rw [if_neg (by omega), h l' hl' c' hc', dv_mk0 (fun w => z w.1)]
theorem DrM.set {D : DW} {P P' : MF} (h : DrM D P) {l c b : Nat} (hl : l < 11) (hc : c < 24) (hb : b < 3) {x : Int32} (hx : x = nI (2 ^ b)) (e : P' = setF P 8 (upd (P 8) (24 * l + c) (P 8 (24 * l + c) ||| x))) : DrM (mk D l c b) P' := by
  intro l' hl' c' hc'
  rw [e]
  simp only [setF_c, if_true, upd_c]
  by_cases z : l' = l ∧ c' = c
  · obtain ⟨rfl, rfl⟩ := z
    rw [if_pos rfl, h l' hl c' hc, hx, dv_mk1 D l' c' hb]
  · rw [if_neg (fun y => z (by omega)), h l' hl' c' hc', dv_mk0 z]
def barD (D : DW) (t a b : Nat) : DW := fun l c x => D l c x || (decide (l = t) && decide (x = 0) && decide (a ≤ c) && decide (c < b))
theorem barD_nil (D : DW) (t a : Nat) (l c x : Nat) : barD D t a a l c x = D l c x := by
  unfold barD
  by_cases z : a ≤ c
  · simp [show ¬ c < a by omega]
  · simp [z]
theorem barD_step (D : DW) {t i R : Nat} (h : i < R) (l c x : Nat) : barD (mk D t i 0) t (i + 1) R l c x = barD D t i R l c x := by
  unfold barD mk
  rw [Bool.or_assoc]
  congr 1
  rw [Bool.eq_iff_iff]
  simp only [Bool.or_eq_true, Bool.and_eq_true, decide_eq_true_eq]
  omega
def colD (D : DW) (c0 a b : Nat) : DW := fun l c x => D l c x || (decide (c = c0) && decide (x = 1) && decide (a ≤ l) && decide (l < b))
theorem colD_nil (D : DW) (t a : Nat) (l c x : Nat) : colD D t a a l c x = D l c x := by
  unfold colD
  by_cases z : a ≤ l
  · simp [show ¬ l < a by omega]
  · simp [z]
theorem colD_step (D : DW) {t i R : Nat} (h : i < R) (l c x : Nat) : colD (mk D i t 1) t (i + 1) R l c x = colD D t i R l c x := by
  unfold colD mk
  rw [Bool.or_assoc]
  congr 1
  rw [Bool.eq_iff_iff]
  simp only [Bool.or_eq_true, Bool.and_eq_true, decide_eq_true_eq]
  omega
/-- what one pin draws -/
def pmk (tr : Nat → Nat) (T : Nat) (p : Nat × Nat × Nat) (l c x : Nat) : Bool := decide (0 < tr p.1) && decide (c = p.2.2) && ((decide (x = 2) && decide (l = tr p.1)) || (decide (x = 1) && decide ((if p.2.1 = 0 then 0 else tr p.1) ≤ l) && decide (l < if p.2.1 = 0 then tr p.1 else T + 1)))
theorem pmk_0 {tr : Nat → Nat} {T : Nat} {p : Nat × Nat × Nat} (h : tr p.1 = 0) (l c x : Nat) : pmk tr T p l c x = false := by unfold pmk; simp [h]
theorem pmk_1 (D : DW) {tr : Nat → Nat} {T : Nat} {p : Nat × Nat × Nat} (h : 0 < tr p.1) (l c x : Nat) : colD (mk D (tr p.1) p.2.2 2) p.2.2 (if p.2.1 = 0 then 0 else tr p.1) (if p.2.1 = 0 then tr p.1 else T + 1) l c x = (D l c x || pmk tr T p l c x) := by
  unfold colD mk pmk
  rw [Bool.or_assoc]
  congr 1
  rw [decide_eq_true h]
  rw [Bool.eq_iff_iff]
  simp only [Bool.or_eq_true, Bool.and_eq_true, decide_eq_true_eq, Bool.true_and]
  constructor
  · rintro (⟨⟨a, b⟩, d⟩ | ⟨⟨⟨a, b⟩, d⟩, e⟩)
    · exact ⟨b, Or.inl ⟨d, a⟩⟩
    · exact ⟨a, Or.inr ⟨⟨b, d⟩, e⟩⟩
  · rintro ⟨a, ⟨b, d⟩ | ⟨⟨b, d⟩, e⟩⟩
    · exact Or.inl ⟨⟨d, a⟩, b⟩
    · exact Or.inr ⟨⟨⟨a, b⟩, d⟩, e⟩
section DRA
variable {n : Nat} {q : AQ} {nx : Nat → Nat} {T : Nat} {tr : Nat → Nat} {G : MG} {N : MG}
theorem sl_bar {I : MI} {m t R : Nat} (hm : m < 12) (ht : t ≤ 9) (hR : R ≤ 23) {post : MI → MF → MG → Prop} {K : Int32 → MI → MF → MG → Prop} : ∀ (d i : Nat) (D : DW) (F : MF), i + d = R → F 10 m = nI t → DrC D F → (∀ F', (∀ k, k < 19 → F' k = F k) → DrC (barD D t i R) F' → K (nI R) I F' G) → wl_D_drawBars_18 post K (nI m) (nI R) (d + 1) (nI i) I F G := by
  intro d
  induction d with
  | zero =>
    intro i D F hi hF hD h
    have e : i = R := by omega
    subst e
    exact ⟨fun c => absurd c (nI_pos (by omega)), fun _ => ⟨fun _ => h F (fun _ _ => rfl) (hD.congr (fun l c x => (barD_nil D t i l c x).symm)), fun c => absurd (nI_le (Nat.le_refl _) (by omega)) c⟩⟩
  | succ d ih =>
    intro i D F hi hF hD h
    have vi := (nI_vp (a := i) (n := 24) (by omega)).mpr (by omega)
    unfold wl_D_drawBars_18
    rw [nI_clamp (n := m) (by omega), hF, nI_clamp (n := t) (by omega), nI_clamp (n := i) (by omega)]
    refine ⟨fun c => absurd c (nI_pos (by omega)), fun _ => ⟨fun c => absurd c (nI_ge (by omega) (by omega)), fun _ => ⟨(nI_vp (by omega)).mpr hm, (nI_vp (by omega)).mpr (by omega), vi, vi, fun F9 g9 y hy => ?_⟩⟩⟩
    rw [hy, ← nI_succ]
    have e9 : ∀ k, k < 19 → F9 k = F k := fun k hk => by rw [g9]; simp only [setF_c]; rw [if_neg (by omega)]
    refine ih (i + 1) _ F9 (by omega) (by rw [e9 10 (by omega)]; exact hF) (hD.set (b := 0) (by omega) (by omega) (by omega) (by decide) g9) (fun F' a1 a2 => h F' (fun k hk => (a1 k hk).trans (e9 k hk)) (a2.congr (barD_step D (by omega))))
theorem s_drawBars (hA : AInv n q nx) {I : MI} {F : MF} (hC : CInv n q nx I F) {D : DW} {m t : Nat} (hm : m < 12) (hw : wirn n q m = true) (ht : t ≤ 9) (hF : F 10 m = nI t) (hD : DrC D F) {post : MI → MF → MG → Prop} (h : ∀ F', (∀ k, k < 19 → F' k = F k) → DrC (barD D t (len n q m) (rgn n q m)) F' → post I F' G) : wp_D_drawBars (nI m) I F G post := by
  have hlr := len_rg (wirn_pos hw)
  have hr := rgn_le hA m
  refine s_rightEnd hA hC hm (s_leftEnd hA hC hm ?_)
  rw [if_pos hw, if_pos hw]
  exact ⟨rgn n q m - len n q m + 1, sl_bar hm ht hr _ _ D F (by omega) hF hD h⟩
def dBar (n : Nat) (q : AQ) (tr : Nat → Nat) (i : Nat) : DW := fun l c x => (List.range i).any (fun m => decide (0 < tr m) && (decide (l = tr m) && decide (x = 0) && decide (len n q m ≤ c) && decide (c < rgn n q m)))
theorem dBar_succ (n : Nat) (q : AQ) (tr : Nat → Nat) (i l c x : Nat) : dBar n q tr (i + 1) l c x = (dBar n q tr i l c x || (decide (0 < tr i) && (decide (l = tr i) && decide (x = 0) && decide (len n q i ≤ c) && decide (c < rgn n q i)))) := by
  unfold dBar
  rw [List.range_succ, List.any_append]
  simp
theorem dBar_0 {i : Nat} (h : tr i = 0) (l c x : Nat) : dBar n q tr i l c x = dBar n q tr (i + 1) l c x := by rw [dBar_succ, h]; simp
theorem dBar_1 {i : Nat} (h : 0 < tr i) (l c x : Nat) : barD (dBar n q tr i) (tr i) (len n q i) (rgn n q i) l c x = dBar n q tr (i + 1) l c x := by rw [dBar_succ, decide_eq_true h, Bool.true_and]; rfl
/-- what the tracks keep while drawing -/
def KT (n : Nat) (q : AQ) (T : Nat) (tr : Nat → Nat) : Prop := T ≤ 9 ∧ (∀ m, m < 12 → tr m ≤ T) ∧ ∀ m, m < 12 → 0 < tr m → wirn n q m = true
theorem sl_draw1 {I : MI} {post : MI → MF → MG → Prop} {K : Int32 → MI → MF → MG → Prop} : ∀ (d i : Nat) (F : MF), i + d = 11 → (∀ l, l < i → ∀ c, c < 24 → F (19 + l) c = nI 0) → (∀ F', (∀ k, k < 19 → F' k = F k) → (∀ l, l < 11 → ∀ c, c < 24 → F' (19 + l) c = nI 0) → K (nI 11) I F' G) → wl_D_draw_2 post K (d + 1) (nI i) I F G := by
  intro d
  induction d with
  | zero =>
    intro i F hi hS h
    have e : i = 11 := by omega
    subst e
    exact ⟨fun _ => h F (fun _ _ => rfl) hS, fun c => absurd (nI_le (Nat.le_refl 11) (by decide)) c⟩
  | succ d ih =>
    intro i F hi hS h
    unfold wl_D_draw_2
    rw [nI_clamp (by omega)]
    refine ⟨fun c => absurd c (nI_ge (b := 11) (by omega) (by decide)), fun _ => ⟨(nI_vp (by omega)).mpr (by omega), fun F3 g3 y hy => ?_⟩⟩
    rw [hy, ← nI_succ]
    refine ih (i + 1) F3 (by omega) (fun l hl c hc => ?_) (fun F' a1 a2 => h F' (fun k hk => (a1 k hk).trans (by rw [g3]; simp only [setF_c]; rw [if_neg (by omega)])) a2)
    rw [g3]
    simp only [setF_c]
    by_cases z : l = i
    · subst z; rw [if_pos rfl, filled_c, if_pos hc]; rfl
    · rw [if_neg (by omega)]; exact hS l (by omega) c hc
theorem sl_draw2 (hA : AInv n q nx) (hK : KT n q T tr) {I : MI} {post : MI → MF → MG → Prop} {K : Int32 → MI → MF → MG → Prop} : ∀ (d i : Nat) (F : MF), i + d = 12 → CInv n q nx I F → (∀ m, m < 12 → F 10 m = nI (tr m)) → DrC (dBar n q tr i) F → (∀ F', (∀ k, k < 19 → F' k = F k) → DrC (dBar n q tr 12) F' → K (nI 12) I F' G) → wl_D_draw_26 post K (d + 1) (nI i) I F G := by
  obtain ⟨k1, k2, k3⟩ := hK
  intro d
  induction d with
  | zero =>
    intro i F hi hC hF hD h
    have e : i = 12 := by omega
    subst e
    exact ⟨fun _ => h F (fun _ _ => rfl) hD, fun c => absurd (nI_le (Nat.le_refl 12) (by decide)) c⟩
  | succ d ih =>
    intro i F hi hC hF hD h
    have hti := k2 i (by omega)
    unfold wl_D_draw_26
    rw [nI_clamp (by omega), hF i (by omega), i_0, nI_le_iff (by omega) (by omega)]
    refine ⟨fun c => absurd c (nI_ge (b := 12) (by omega) (by decide)), fun _ => ⟨(nI_vp (by omega)).mpr (by omega), fun c y hy => ?_, fun c => ?_⟩⟩
    · rw [hy, ← nI_succ]
      exact ih (i + 1) F (by omega) hC hF (hD.congr (dBar_0 (by omega))) h
    · refine s_drawBars hA hC (by omega) (k3 i (by omega) (by omega)) (by omega) (hF i (by omega)) hD (fun F' a1 a2 y hy => ?_)
      rw [hy, ← nI_succ]
      exact ih (i + 1) F' (by omega) (hC.ofF (fun k hk => a1 k (by omega))) (fun m hm => by rw [a1 10 (by omega)]; exact hF m hm) (a2.congr (dBar_1 (by omega))) (fun F2 b1 b2 => h F2 (fun k hk => (b1 k hk).trans (a1 k hk)) b2)
theorem sl_col {I : MI} {c R : Nat} (hc : c < 24) (hR : R ≤ 11) {a1 a3 a4 a5 : Int32} {post : MI → MF → MG → Prop} {K : Int32 → MI → MF → MG → Prop} : ∀ (d i : Nat) (D : DW) (F : MF), i + d = R → DrC D F → (∀ F', (∀ k, k < 19 → F' k = F k) → DrC (colD D c i R) F' → K (nI R) I F' G) → wl_D_drawPin_90 post K a1 (nI c) a3 a4 a5 (nI R) (d + 1) (nI i) I F G := by
  intro d
  induction d with
  | zero =>
    intro i D F hi hD h
    have e : i = R := by omega
    subst e
    exact ⟨fun _ => h F (fun _ _ => rfl) (hD.congr (fun l c' x => (colD_nil D c i l c' x).symm)), fun c => absurd (nI_le (Nat.le_refl _) (by omega)) c⟩
  | succ d ih =>
    intro i D F hi hD h
    have vc := (nI_vp (a := c) (n := 24) (by omega)).mpr (by omega)
    unfold wl_D_drawPin_90
    rw [nI_clamp (n := c) (by omega), nI_clamp (n := i) (by omega)]
    refine ⟨fun c => absurd c (nI_ge (by omega) (by omega)), fun _ => ⟨(nI_vp (by omega)).mpr (by omega), vc, vc, fun F9 g9 y hy => ?_⟩⟩
    rw [hy, ← nI_succ]
    have e9 : ∀ k, k < 19 → F9 k = F k := fun k hk => by rw [g9]; simp only [setF_c]; rw [if_neg (by omega)]
    refine ih (i + 1) _ F9 (by omega) (hD.set (b := 1) (by omega) (by omega) (by omega) (by decide) g9) (fun F' a1 a2 => h F' (fun k hk => (a1 k hk).trans (e9 k hk)) (a2.congr (colD_step D (by omega))))
def pD (D : DW) (tr : Nat → Nat) (T : Nat) (o : Option Nat) (r c0 : Nat) : DW := fun l c x => D l c x || o.any (fun m => pmk tr T (m, r, c0) l c x)
theorem s_drawPin (hA : AInv n q nx) (hK : KT n q T tr) {I : MI} {F : MF} (hC : CInv n q nx I F) (h2 : I 2 = nI T) (hF : ∀ m, m < 12 → F 10 m = nI (tr m)) {D : DW} (hD : DrC D F) {r c : Nat} (hr : r < 2) (hc : c < 24) {post : MI → MF → MG → Prop} (h : ∀ F', (∀ k, k < 19 → F' k = F k) → DrC (pD D tr T (atn n q r c) r c) F' → post I F' G) : wp_D_drawPin (nI r) (nI c) I F G post := by
  obtain ⟨k1, k2, k3⟩ := hK
  have vc := (nI_vp (a := c) (n := 24) (by omega)).mpr hc
  have l0 : ∀ g, atn n q r c = some g → g < 2 ^ 31 := fun g hg => by have := atn_lt hA hg; omega
  unfold wp_D_drawPin
  rw [nI_clamp (n := r) (by omega), nI_clamp (n := c) (by omega), hC.2.2.2.1 r hr c hc]
  refine ⟨(nI_vp (by omega)).mpr hr, vc, fun x3 hx3 => ?_⟩
  subst hx3
  rw [i_m1, oI_nM l0]
  refine ⟨fun e => h F (fun _ _ => rfl) (hD.congr (fun l c x => by unfold pD; rw [e]; simp)), fun e => ?_⟩
  cases hm : atn n q r c with
  | none => exact absurd hm e
  | some m =>
    rw [hm] at h
    have hm12 := atn_lt hA hm
    have htm := k2 m hm12
    rw [oI_some, nI_clamp (by omega), hF m hm12, i_0, nI_eq_iff (by omega) (by omega)]
    have vm := (nI_vp (a := m) (n := 12) (by omega)).mpr hm12
    refine ⟨vm, fun z => ⟨vm, fun x8 hx8 => ?_⟩, fun z => h F (fun _ _ => rfl) (hD.congr (fun l c x => ?_))⟩
    · subst hx8
      rw [nI_clamp (n := tr m) (by omega), h2, nI_eq_iff (by omega) (by omega)]
      have vt := (nI_vp (a := tr m) (n := 11) (by omega)).mpr (by omega)
      refine ⟨fun y => ⟨fun _ x11 hx11 => ⟨vt, vc, vc, fun F15 g15 => ⟨T + 1 - tr m + 1, ?_⟩⟩, fun w => absurd w y⟩, fun y => ⟨fun w => absurd y w, fun _ => ⟨vt, vc, vc, fun F15 g15 => ⟨tr m + 1, ?_⟩⟩⟩⟩
      · have e15 : ∀ k, k < 19 → F15 k = F k := fun k hk => by rw [g15]; simp only [setF_c]; rw [if_neg (by omega)]
        rw [hx11, i_1, nI_ad]
        refine sl_col (R := T + 1) hc (by omega) (T + 1 - tr m) (tr m) (mk D (tr m) c 2) F15 (by omega) (hD.set (b := 2) (by omega) hc (by omega) (by decide) g15) (fun F' a1 a2 => h F' (fun k hk => (a1 k hk).trans (e15 k hk)) (a2.congr (fun l c' x => ?_)))
        have := pmk_1 D (tr := tr) (T := T) (p := (m, r, c)) (by show 0 < tr m; omega) l c' x
        simp only [if_neg y] at this
        rw [this]; rfl
      · have e15 : ∀ k, k < 19 → F15 k = F k := fun k hk => by rw [g15]; simp only [setF_c]; rw [if_neg (by omega)]
        refine sl_col (R := tr m) hc (by omega) (tr m) 0 (mk D (tr m) c 2) F15 (by omega) (hD.set (b := 2) (by omega) hc (by omega) (by decide) g15) (fun F' a1 a2 => h F' (fun k hk => (a1 k hk).trans (e15 k hk)) (a2.congr (fun l c' x => ?_)))
        have := pmk_1 D (tr := tr) (T := T) (p := (m, r, c)) (by show 0 < tr m; omega) l c' x
        simp only [if_pos y] at this
        rw [this]; rfl
    · unfold pD
      rw [Option.any_some, pmk_0 (p := (m, r, _)) z]; simp
def dPin (D : DW) (n : Nat) (q : AQ) (tr : Nat → Nat) (T i : Nat) : DW := fun l c x => D l c x || (List.range i).any (fun c1 => (atn n q 0 c1).any (fun m => pmk tr T (m, 0, c1) l c x) || (atn n q 1 c1).any (fun m => pmk tr T (m, 1, c1) l c x))
theorem dPin_succ (D : DW) (i l c x : Nat) : pD (pD (dPin D n q tr T i) tr T (atn n q 0 i) 0 i) tr T (atn n q 1 i) 1 i l c x = dPin D n q tr T (i + 1) l c x := by
  unfold dPin pD
  rw [List.range_succ, List.any_append]
  simp [Bool.or_assoc]
theorem sl_draw3 (hA : AInv n q nx) (hK : KT n q T tr) {D : DW} {I : MI} (h2 : I 2 = nI T) {post : MI → MF → MG → Prop} {K : Int32 → MI → MF → MG → Prop} : ∀ (d i : Nat) (F : MF), i + d = 24 → CInv n q nx I F → (∀ m, m < 12 → F 10 m = nI (tr m)) → DrC (dPin D n q tr T i) F → (∀ F', (∀ k, k < 19 → F' k = F k) → DrC (dPin D n q tr T 24) F' → K (nI 24) I F' G) → wl_D_draw_57 post K (d + 1) (nI i) I F G := by
  intro d
  induction d with
  | zero =>
    intro i F hi hC hF hD h
    have e : i = 24 := by omega
    subst e
    exact ⟨fun _ => h F (fun _ _ => rfl) hD, fun c => absurd (nI_le (Nat.le_refl 24) (by decide)) c⟩
  | succ d ih =>
    intro i F hi hC hF hD h
    refine ⟨fun c => absurd c (nI_ge (b := 24) (by omega) (by decide)), fun _ => s_drawPin (r := 0) hA hK hC h2 hF hD (by omega) (by omega) (fun F1 a1 a2 => ?_)⟩
    have hC1 := hC.ofF (F' := F1) (fun k hk => a1 k (by omega))
    refine s_drawPin (r := 1) hA hK hC1 h2 (fun m hm => by rw [a1 10 (by omega)]; exact hF m hm) a2 (by omega) (by omega) (fun F2 b1 b2 y hy => ?_)
    rw [hy, ← nI_succ]
    exact ih (i + 1) F2 (by omega) (hC1.ofF (fun k hk => b1 k (by omega))) (fun m hm => by rw [b1 10 (by omega), a1 10 (by omega)]; exact hF m hm) (b2.congr (dPin_succ D i)) (fun F' c1 c2 => h F' (fun k hk => (c1 k hk).trans ((b1 k hk).trans (a1 k hk))) c2)
/-- the whole drawing -/
def dAll (n : Nat) (q : AQ) (tr : Nat → Nat) (T : Nat) : DW := fun l c x => dBar n q tr 12 l c x || (PL n q).any (fun p => pmk tr T p l c x)
theorem pw_uniq {R : Nat × Nat × Nat → Nat × Nat × Nat → Prop} {L : List (Nat × Nat × Nat)} (h : L.Pairwise (fun p p' => ¬ (p.2.1 = p'.2.1 ∧ p.2.2 = p'.2.2))) : ∀ p, p ∈ L → ∀ p', p' ∈ L → p.2.1 = p'.2.1 → p.2.2 = p'.2.2 → p = p' := by
  induction L with
  | nil => intro p hp; cases hp
  | cons x L ih =>
    rw [List.pairwise_cons] at h
    intro p hp p' hp' e1 e2
    rcases List.mem_cons.mp hp with a | a
    · rcases List.mem_cons.mp hp' with b | b
      · rw [a, b]
      · subst a; exact absurd ⟨e1, e2⟩ (h.1 p' b)
    · rcases List.mem_cons.mp hp' with b | b
      · subst b; exact absurd ⟨e1.symm, e2.symm⟩ (h.1 p a)
      · exact ih h.2 p a p' b e1 e2
theorem atn_mem (hA : AInv n q nx) {r c m : Nat} : atn n q r c = some m ↔ (m, r, c) ∈ PL n q := by
  constructor
  · intro h
    obtain ⟨p, hp, rfl⟩ := Option.map_eq_some_iff.mp h
    have h1 := List.mem_of_find?_eq_some hp
    have h2 := List.find?_some hp
    simp only [Bool.and_eq_true, beq_iff_eq] at h2
    rw [← h2.1, ← h2.2]; exact h1
  · intro h
    cases hf : (PL n q).find? (fun p => p.2.1 == r && p.2.2 == c) with
    | none =>
      have := List.find?_eq_none.mp hf _ h
      simp at this
    | some p =>
      have h1 := List.mem_of_find?_eq_some hf
      have h2 := List.find?_some hf
      simp only [Bool.and_eq_true, beq_iff_eq] at h2
      have := pw_uniq (R := fun _ _ => True) hA.2.2.2.2 p h1 _ h h2.1 h2.2
      unfold atn
      rw [hf, this]; rfl
theorem dPin_all (hA : AInv n q nx) (l c x : Nat) : dPin (dBar n q tr 12) n q tr T 24 l c x = dAll n q tr T l c x := by
  unfold dPin dAll
  congr 1
  rw [Bool.eq_iff_iff]
  simp only [List.any_eq_true, List.mem_range, Bool.or_eq_true, Option.any_eq_true]
  constructor
  · rintro ⟨c1, _, ⟨m, h1, h2⟩ | ⟨m, h1, h2⟩⟩
    · exact ⟨_, (atn_mem hA).mp h1, h2⟩
    · exact ⟨_, (atn_mem hA).mp h1, h2⟩
  · rintro ⟨⟨m, r, c1⟩, h1, h2⟩
    obtain ⟨_, hr, _, _, hc⟩ := PL_mem hA h1
    simp only at hr hc
    refine ⟨c1, by omega, ?_⟩
    have := (atn_mem hA).mpr h1
    rcases (show r = 0 ∨ r = 1 by omega) with rfl | rfl
    · exact Or.inl ⟨m, this, h2⟩
    · exact Or.inr ⟨m, this, h2⟩
theorem dv_0 (l c : Nat) : dv (fun _ _ _ => false) l c = 0 := rfl
theorem s_draw (hA : AInv n q nx) (hK : KT n q T tr) {I : MI} {F : MF} (hC : CInv n q nx I F) (h2 : I 2 = nI T) (hF : ∀ m, m < 12 → F 10 m = nI (tr m)) {post : MI → MF → MG → Prop} (h : ∀ F', (∀ k, k < 19 → F' k = F k) → DrC (dAll n q tr T) F' → post I F' G) : wp_D_draw I F G post := by
  refine ⟨12, sl_draw1 11 0 F rfl (fun l hl => by omega) (fun F1 a1 a2 => ⟨13, ?_⟩)⟩
  have hC1 := hC.ofF (F' := F1) (fun k hk => a1 k (by omega))
  refine sl_draw2 hA hK 12 0 F1 rfl hC1 (fun m hm => by rw [a1 10 (by omega)]; exact hF m hm) (fun l hl c hc => by rw [a2 l hl c hc]; rfl) (fun F2 b1 b2 => ⟨25, ?_⟩)
  refine sl_draw3 hA hK (D := dBar n q tr 12) h2 24 0 F2 rfl (hC1.ofF (fun k hk => b1 k (by omega))) (fun m hm => by rw [b1 10 (by omega), a1 10 (by omega)]; exact hF m hm) (b2.congr (fun l c x => by unfold dPin; simp)) (fun F3 c1 c2 => h F3 (fun k hk => (c1 k hk).trans ((b1 k hk).trans (a1 k hk))) (c2.congr (dPin_all hA)))
end DRA
