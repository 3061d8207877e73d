/-! route: the tracks -/
def lep (l : Nat) : Option Nat → Bool
  | none => false
  | some r => decide (l ≤ r)
theorem lep_iff {l : Nat} {o : Option Nat} (hl : l < 2 ^ 31) (ho : ∀ r, o = some r → r < 2 ^ 31) : (nI l ≤ oI o) = (lep l o = true) := by
  cases o with
  | none => rw [oI_none, nM_nle hl]; simp [lep]
  | some r => rw [oI_some]; apply propext; rw [nI_le_iff hl (ho r rfl)]; simp [lep]
/-- placed on this track, the last one's right end, the tracks -/
abbrev TS : Type := Nat × Option Nat × (Nat → Nat)
section TRK
variable (n : Nat) (q : AQ) (t : Nat)
def sTp (s : TS) (m : Nat) : TS := if lep (len n q m) s.2.1 then s else if frn n q s.2.2 m t then (s.1 + 1, some (rgn n q m), fun x => if x = m then t else s.2.2 x) else s
def act (s : TS) (k : Nat) : Bool := decide (s.2.2 (k % 12) = 0) && wirn n q (k % 12) && decide (len n q (k % 12) = k / 12)
def sTk (s : TS) (k : Nat) : TS := if act n q s k then sTp n q t s (k % 12) else s
def sT (s0 : TS) : Nat → TS
  | 0 => s0
  | k + 1 => sTk n q t (sT s0 k) k
def TB (W : Nat) (s : TS) : Prop := (∀ r, s.2.1 = some r → r < 24) ∧ (∀ m, s.2.2 m ≤ t) ∧ wtn n q s.2.2 + s.1 = W ∧ ∀ m, 1 ≤ s.2.2 m → wirn n q m = true
end TRK
section TRL
variable {n : Nat} {q : AQ} {nx : Nat → Nat} {t W : Nat} {s0 : TS} {G : MG} {N : MG}
theorem wtn_set {tr : Nat → Nat} {m : Nat} (hm : m < 12) (hw : wirn n q m = true) (h0 : tr m = 0) (ht : 1 ≤ t) : wtn n q (fun x => if x = m then t else tr x) + 1 = wtn n q tr := by
  have h := cnt_add (fun x => wirn n q x && decide ((if x = m then t else tr x) = 0)) 12 m hm (by simp; omega)
  unfold wtn
  rw [← h]
  apply List.countP_congr
  intro x _
  by_cases z : x = m
  · subst z; simp [hw, h0]
  · simp [z]
theorem sTp_TB (hA : AInv n q nx) {s : TS} {m : Nat} (hm : m < 12) (hw : wirn n q m = true) (h0 : s.2.2 m = 0) (ht : 1 ≤ t) (h : TB n q t W s) : TB n q t W (sTp n q t s m) := by
  unfold sTp
  split
  · exact h
  · split
    · obtain ⟨h1, h2, h3, h4⟩ := h
      have := wtn_set (t := t) hm hw h0 ht
      refine ⟨fun r hr => ?_, fun x => ?_, ?_, fun x hx => ?_⟩
      · have := rgn_le hA m
        simp only [Option.some.injEq] at hr
        omega
      · show (if x = m then t else s.2.2 x) ≤ t
        split
        · exact Nat.le_refl _
        · exact h2 x
      · show wtn n q (fun x => if x = m then t else s.2.2 x) + (s.1 + 1) = W
        omega
      · by_cases z : x = m
        · rw [z]; exact hw
        · have hx' : 1 ≤ (if x = m then t else s.2.2 x) := hx
          rw [if_neg z] at hx'
          exact h4 x hx'
    · exact h
theorem sT_TB (hA : AInv n q nx) (ht : 1 ≤ t) (h : TB n q t W s0) : ∀ k, TB n q t W (sT n q t s0 k) := by
  intro k
  induction k with
  | zero => exact h
  | succ k ih =>
    show TB n q t W (sTk n q t (sT n q t s0 k) k)
    unfold sTk
    split
    · next c =>
      simp only [act, Bool.and_eq_true, decide_eq_true_eq] at c
      exact sTp_TB hA (Nat.mod_lt _ (by omega)) c.1.2 c.1.1 ht ih
    · exact ih
theorem sT_skip {k : Nat} : ∀ d, (∀ j, k ≤ j → j < k + d → act n q (sT n q t s0 k) j = false) → sT n q t s0 (k + d) = sT n q t s0 k := by
  intro d
  induction d with
  | zero => intro _; rfl
  | succ d ih =>
    intro h
    have e := ih (fun j h1 h2 => h j h1 (by omega))
    show sTk n q t (sT n q t s0 (k + d)) (k + d) = _
    rw [e]
    unfold sTk
    rw [h (k + d) (by omega) (by omega)]
    rfl
def TRC (s : TS) (F : MF) : Prop := ∀ m, m < 12 → F 10 m = nI (s.2.2 m)
theorem TB.t31 {s : TS} (h : TB n q t W s) (ht : t ≤ 9) {F : MF} {k : Nat} (hF : ∀ m, m < 12 → F k m = nI (s.2.2 m)) : ∀ m, m < 12 → F k m = nI (s.2.2 m) ∧ s.2.2 m < 2 ^ 31 := fun m hm => ⟨hF m hm, by have := h.2.1 m; omega⟩
theorem TB.o31 {s : TS} (h : TB n q t W s) : ∀ r, s.2.1 = some r → r < 2 ^ 31 := fun r hr => by have := h.1 r hr; omega
theorem sl_fill1 (hA : AInv n q nx) (ht : t ≤ 9) (hB : ∀ k, TB n q t W (sT n q t s0 k)) {l : Nat} (hl : l < 24) {I : MI} {post : Int32 → MI → MF → MG → Prop} {K : Int32 → Int32 → Int32 → MI → MF → MG → Prop} : ∀ (d i : Nat) (F : MF), i + d = 12 → CInv n q nx I F → TRC (sT n q t s0 (12 * l + i)) F →
    (∀ F', (∀ k, k ≠ 10 → F' k = F k) → TRC (sT n q t s0 (12 * l + 12)) F' → K (nI (sT n q t s0 (12 * l + 12)).1) (oI (sT n q t s0 (12 * l + 12)).2.1) (nI 12) I F' G) →
    wl_C_fillTrack_17 post K (nI t) (nI l) (d + 1) (nI (sT n q t s0 (12 * l + i)).1) (oI (sT n q t s0 (12 * l + i)).2.1) (nI i) I F G := by
  intro d
  induction d with
  | zero =>
    intro i F hi hC hT h
    have e : i = 12 := by omega
    subst e
    exact ⟨fun _ => h F (fun _ _ => rfl) hT, fun c => absurd (nI_le (Nat.le_refl 12) (by decide)) c⟩
  | succ d ih =>
    intro i F hi hC hT h
    have hb := hB (12 * l + i)
    have hs : sT n q t s0 (12 * l + (i + 1)) = sTk n q t (sT n q t s0 (12 * l + i)) (12 * l + i) := rfl
    have ih' := ih (i + 1)
    rw [hs] at ih'
    generalize sT n q t s0 (12 * l + i) = s at hT hb ih' ⊢
    have em : (12 * l + i) % 12 = i := by omega
    have ed : (12 * l + i) / 12 = l := by omega
    have skip : sTk n q t s (12 * l + i) = s → ∀ y : Int32, y = nI i + 1 → wl_C_fillTrack_17 post K (nI t) (nI l) (d + 1) (nI s.1) (oI s.2.1) y I F G := by
      intro hk y hy
      rw [hk] at ih'
      rw [hy, ← nI_succ]
      exact ih' F (by omega) hC hT h
    have h31 := hb.t31 ht hT
    have vi := (nI_vp (a := i) (n := 12) (by omega)).mpr (by omega)
    unfold wl_C_fillTrack_17
    rw [nI_clamp (by omega), hT i (by omega), i_0, nI_eq_iff (h31 i (by omega)).2 (by omega)]
    refine ⟨fun c => absurd c (nI_ge (b := 12) (by omega) (by decide)), fun _ => ⟨vi, fun c => skip ?_, fun c => s_leftEnd hA hC (by omega) ?_⟩⟩
    · unfold sTk act; rw [em]; simp [c]
    · by_cases w : wirn n q i = true
      · have hlen := len_rg (wirn_pos w)
        have hrg := rgn_le hA i
        rw [if_pos w, nI_eq_iff (by omega) (by omega), lep_iff (by omega) hb.o31]
        refine ⟨fun z => skip ?_, fun z => ⟨fun y => skip ?_, fun y => s_isFree hA hC h31 (by omega) (by omega) ?_⟩⟩
        · unfold sTk act; rw [em, ed]; simp [z]
        · unfold sTk sTp; rw [em, z, y]; simp
        · have hk : sTk n q t s (12 * l + i) = sTp n q t s i := by
            unfold sTk act; rw [em, ed]; simp [c, w, z]
          rw [← i_0]
          refine br (fun f => skip ?_) (fun f => ⟨vi, fun F18 g18 => ?_⟩)
          · rw [hk]; unfold sTp; rw [f]; simp
          · have hp : sTp n q t s i = (s.1 + 1, some (rgn n q i), fun x => if x = i then t else s.2.2 x) := by
              unfold sTp
              rw [z, if_neg y, if_pos f]
            rw [hk, hp] at ih'
            have ef : ∀ k, k ≠ 10 → F18 k = F k := fun k hk => by rw [g18]; simp only [setF_c]; rw [if_neg hk]
            have hC18 : CInv n q nx I F18 := hC.ofF (fun k hk => ef k (by omega))
            refine s_rightEnd hA hC18 (by omega) ?_
            rw [if_pos w]
            intro x20 hx20 x21 hx21
            rw [hx20, hx21, ← nI_succ, ← nI_succ]
            refine ih' F18 (by omega) hC18 (fun m hm => ?_) (fun F' a1 a2 => h F' (fun k hk => (a1 k hk).trans (ef k hk)) a2)
            rw [g18]
            simp only [setF_c, if_true, upd_c]
            by_cases z : m = i
            · rw [if_pos z, if_pos z]
            · rw [if_neg z, if_neg z]; exact hT m hm
      · rw [if_neg w]
        refine ⟨fun _ => skip ?_, fun z => absurd z (by rw [nM_nI (by omega)]; exact id)⟩
        unfold sTk act; rw [em]; simp [w]
theorem sl_fill2 (hA : AInv n q nx) (ht : t ≤ 9) (hB : ∀ k, TB n q t W (sT n q t s0 k)) {I : MI} {post : Int32 → MI → MF → MG → Prop} {K : Int32 → Int32 → Int32 → MI → MF → MG → Prop} : ∀ (d l : Nat) (F : MF), l + d = 24 → CInv n q nx I F → TRC (sT n q t s0 (12 * l)) F →
    (∀ F', (∀ k, k ≠ 10 → F' k = F k) → TRC (sT n q t s0 288) F' → K (nI (sT n q t s0 288).1) (oI (sT n q t s0 288).2.1) (nI 24) I F' G) →
    wl_C_fillTrack_7 post K (nI t) (d + 1) (nI (sT n q t s0 (12 * l)).1) (oI (sT n q t s0 (12 * l)).2.1) (nI l) I F G := by
  intro d
  induction d with
  | zero =>
    intro l F hi hC hT h
    have e : l = 24 := by omega
    subst e
    rw [show 12 * 24 = 288 from rfl] at hT ⊢
    exact ⟨fun _ => h F (fun _ _ => rfl) hT, fun c => absurd (nI_le (Nat.le_refl 24) (by decide)) c⟩
  | succ d ih =>
    intro l F hi hC hT h
    refine ⟨fun c => absurd c (nI_ge (b := 24) (by omega) (by decide)), fun _ => ⟨13, sl_fill1 hA ht hB (by omega) 12 0 F rfl hC hT (fun F' a1 a2 y hy => ?_)⟩⟩
    rw [hy, ← nI_succ]
    have ih' := ih (l + 1) F'
    rw [show 12 * (l + 1) = 12 * l + 12 by omega] at ih'
    exact ih' (by omega) (hC.ofF (fun k hk => a1 k (by omega))) a2 (fun F2 b1 b2 => h F2 (fun k hk => (b1 k hk).trans (a1 k hk)) b2)
theorem s_fill (hA : AInv n q nx) (ht : t ≤ 9) (hB : ∀ k, TB n q t W (sT n q t (0, none, s0.2.2) k)) {I : MI} {F : MF} (hC : CInv n q nx I F) (hT : TRC s0 F) {post : Int32 → MI → MF → MG → Prop}
    (h : ∀ F', (∀ k, k ≠ 10 → F' k = F k) → TRC (sT n q t (0, none, s0.2.2) 288) F' → post (nI (sT n q t (0, none, s0.2.2) 288).1) I F' G) : wp_C_fillTrack (nI t) I F G post :=
  ⟨25, sl_fill2 hA ht hB 24 0 F rfl hC hT h⟩
/-! the reference's way: always the leftmost that it has not looked at -/
def key (n : Nat) (q : AQ) (m : Nat) : Nat := 12 * len n q m + m
def cnd (n : Nat) (q : AQ) (tr : Nat → Nat) (S : Nat → Bool) (m : Nat) : Bool := wirn n q m && decide (tr m = 0) && !S m
def bst (n : Nat) (q : AQ) (tr : Nat → Nat) (S : Nat → Bool) (i : Nat) : Option Nat → Prop
  | none => ∀ m, m < i → cnd n q tr S m = false
  | some b => b < i ∧ cnd n q tr S b = true ∧ ∀ m, m < i → cnd n q tr S m = true → key n q b ≤ key n q m
theorem bst.keep {tr : Nat → Nat} {S : Nat → Bool} {i : Nat} {b : Option Nat} (h : bst n q tr S i b) (hc : cnd n q tr S i = false) : bst n q tr S (i + 1) b := by
  cases b with
  | none =>
    intro m hm
    by_cases z : m = i
    · rw [z]; exact hc
    · exact h m (by omega)
  | some b =>
    refine ⟨by have := h.1; omega, h.2.1, fun m hm hm2 => ?_⟩
    by_cases z : m = i
    · rw [z, hc] at hm2; cases hm2
    · exact h.2.2 m (by omega) hm2
theorem tl_give1 (hA : AInv n q nx) {tr : Nat → Nat} {J : MI} {P : MF} (hM : MInv n q nx J P) (hT : ∀ m, m < 12 → P 7 m = nI (tr m) ∧ tr m < 2 ^ 31) {S : Nat → Bool} {x a1 a2 a3 a5 : Int32} (hS : MS x S) {post : Int32 → MI → MF → MG → Prop} {K : Int32 → Int32 → Prop} : ∀ (d i : Nat) (b : Option Nat), i + d = 12 → bst n q tr S i b → (∀ b, bst n q tr S 12 b → K (oI b) (nI 12)) → wl_M_give_23 post K a1 a2 a3 x a5 J P N (d + 1) (oI b) (nI i) := by
  intro d
  induction d with
  | zero =>
    intro i b hi hb h
    have e : i = 12 := by omega
    subst e
    exact ⟨fun _ => h b hb, fun c => absurd (nI_le (Nat.le_refl 12) (by decide)) c⟩
  | succ d ih =>
    intro i b hi hb h
    have vi := (nI_vp (a := i) (n := 12) (by omega)).mpr (by omega)
    have skip : cnd n q tr S i = false → ∀ y : Int32, y = nI i + 1 → wl_M_give_23 post K a1 a2 a3 x a5 J P N (d + 1) (oI b) y := by
      intro hc y hy
      rw [hy, ← nI_succ]
      exact ih (i + 1) b (by omega) (hb.keep hc) h
    have take : bst n q tr S (i + 1) (some i) → ∀ y : Int32, y = nI i + 1 → wl_M_give_23 post K a1 a2 a3 x a5 J P N (d + 1) (nI i) y := by
      intro hc y hy
      rw [hy, ← nI_succ]
      exact ih (i + 1) (some i) (by omega) hc h
    unfold wl_M_give_23
    rw [nI_clamp (by omega), (hT i (by omega)).1, MS_bit hS (by omega)]
    refine ⟨fun c => absurd c (nI_ge (b := 12) (by omega) (by decide)), fun _ => t_isWired hA hM (by omega) (br (fun w => skip (by unfold cnd; rw [w]; rfl)) (fun w => ⟨vi, ?_⟩))⟩
    refine ⟨fun c => skip ?_, fun c => br' (fun z => skip (by unfold cnd; rw [z]; simp)) (fun z => ?_)⟩
    · have : ¬ tr i = 0 := fun z => c (by rw [z]; rfl)
      unfold cnd; simp [this]
    · have c0 : tr i = 0 := by rw [i_0, nI_eq_iff (hT i (by omega)).2 (by omega)] at c; exact c
      have hci : cnd n q tr S i = true := by unfold cnd; rw [w, z, c0]; rfl
      cases b with
      | none =>
        refine ⟨fun _ => take ⟨by omega, hci, fun m hm hm2 => ?_⟩, fun y => absurd (by decide) y⟩
        by_cases z : m = i
        · rw [z]; exact Nat.le_refl _
        · rw [hb m (by omega)] at hm2; cases hm2
      | some b =>
        obtain ⟨b1, b2, b3⟩ := id hb
        have wb : wirn n q b = true := by unfold cnd at b2; simp only [Bool.and_eq_true] at b2; exact b2.1.1
        have l1 := len_rg (wirn_pos w)
        have l2 := len_rg (wirn_pos wb)
        have r1 := rgn_le hA i
        have r2 := rgn_le hA b
        rw [oI_some]
        refine ⟨fun y => absurd y (nI_pos (by omega)), fun _ => t_left hA hM (by omega) (t_left hA hM (by omega) ?_)⟩
        rw [nI_le_iff (by omega) (by omega)]
        refine ⟨fun y x hx => ?_, fun y => take ⟨by omega, hci, fun m hm hm2 => ?_⟩⟩
        · rw [hx, ← nI_succ]
          refine ih (i + 1) (some b) (by omega) ⟨by omega, b2, fun m hm hm2 => ?_⟩ h
          by_cases z : m = i
          · rw [z]; unfold key; omega
          · exact b3 m (by omega) hm2
        · by_cases z : m = i
          · rw [z]; exact Nat.le_refl _
          · have := b3 m (by omega) hm2
            unfold key at this ⊢
            omega
theorem tl_give2 (hA : AInv n q nx) (ht : t ≤ 9) (hB : ∀ k, TB n q t W (sT n q t s0 k)) {J : MI} {post : Int32 → MI → MF → MG → Prop} : ∀ (d p k : Nat) (S : Nat → Bool) (x : Int32) (P : MF), p + d = 12 → MInv n q nx J P → (∀ m, m < 12 → P 7 m = nI ((sT n q t s0 k).2.2 m)) → MS x S → cK S = p → k ≤ 288 →
    (∀ m, m < 12 → S m = true → key n q m < k) → (∀ m, m < 12 → cnd n q (sT n q t s0 k).2.2 S m = true → k ≤ key n q m) →
    (∀ P', (∀ k, k ≠ 7 → P' k = P k) → (∀ m, m < 12 → P' 7 m = nI ((sT n q t s0 288).2.2 m)) → post (nI (sT n q t s0 288).1) J P' N) →
    wl_M_give_10 post (fun x34 _ _ _ I F G => post x34 I F G) (nI t) (d + 1) (nI (sT n q t s0 k).1) (oI (sT n q t s0 k).2.1) x (nI p) J P N := by
  -- nothing left to look at: nothing happens any more
  have fin : ∀ (k : Nat) (S : Nat → Bool), k ≤ 288 → (∀ m, m < 12 → S m = true → key n q m < k) → (∀ m, m < 12 → cnd n q (sT n q t s0 k).2.2 S m = false) → sT n q t s0 288 = sT n q t s0 k := by
    intro k S hk h2 hc
    have := sT_skip (n := n) (q := q) (t := t) (s0 := s0) (k := k) (288 - k) (fun j h3 h4 => ?_)
    · rw [show k + (288 - k) = 288 by omega] at this; exact this
    · cases ha : act n q (sT n q t s0 k) j with
      | false => rfl
      | true =>
        simp only [act, Bool.and_eq_true, decide_eq_true_eq] at ha
        have hm : j % 12 < 12 := Nat.mod_lt _ (by omega)
        have hcj := hc (j % 12) hm
        unfold cnd at hcj
        rw [ha.1.2, ha.1.1] at hcj
        have hs : S (j % 12) = true := by simpa using hcj
        have := h2 _ hm hs
        unfold key at this
        omega
  intro d
  induction d with
  | zero =>
    intro p k S x P hi hM hT hS hp hk h2 h3 h
    have e : p = 12 := by omega
    subst e
    refine ⟨fun _ => ?_, fun c => absurd (nI_le (Nat.le_refl 12) (by decide)) c⟩
    have e2 := fin k S hk h2 (fun m hm => by unfold cnd; rw [cK_full hp m hm]; simp)
    rw [e2] at h
    exact h P (fun _ _ => rfl) hT
  | succ d ih =>
    intro p k S x P hi hM hT hS hp hk h2 h3 h
    have hb := hB k
    refine ⟨fun c => absurd c (nI_ge (b := 12) (by omega) (by decide)), fun _ => ⟨13, ?_⟩⟩
    rw [i_m1]
    refine tl_give1 hA hM (hb.t31 ht hT) hS 12 0 none rfl (fun m hm => by omega) (fun b hbst => ?_)
    cases b with
    | none =>
      refine ⟨fun z => absurd rfl z, fun _ => ?_⟩
      have e2 := fin k S hk h2 hbst
      rw [e2] at h
      exact h P (fun _ _ => rfl) hT
    | some b =>
      obtain ⟨b1, b2, b3⟩ := hbst
      have hkb := h3 b b1 b2
      have b2' := b2
      unfold cnd at b2'
      simp only [Bool.and_eq_true, decide_eq_true_eq, Bool.not_eq_true'] at b2'
      obtain ⟨⟨wb, tb⟩, sb⟩ := b2'
      have l1 := len_rg (wirn_pos wb)
      have r1 := rgn_le hA b
      have kb : key n q b < 288 := by unfold key; omega
      have em : key n q b % 12 = b := by unfold key; omega
      have ed : key n q b / 12 = len n q b := by unfold key; omega
      have es : sT n q t s0 (key n q b) = sT n q t s0 k := by
        have := sT_skip (n := n) (q := q) (t := t) (s0 := s0) (k := k) (key n q b - k) (fun j h5 h4 => ?_)
        · rw [show k + (key n q b - k) = key n q b by omega] at this; exact this
        · cases ha : act n q (sT n q t s0 k) j with
          | false => rfl
          | true =>
            simp only [act, Bool.and_eq_true, decide_eq_true_eq] at ha
            have hm : j % 12 < 12 := Nat.mod_lt _ (by omega)
            have kj : key n q (j % 12) = j := by unfold key; omega
            have hsj : S (j % 12) = false := by
              cases hs : S (j % 12) with
              | false => rfl
              | true => have := h2 _ hm hs; omega
            have hcj : cnd n q (sT n q t s0 k).2.2 S (j % 12) = true := by unfold cnd; rw [ha.1.2, ha.1.1, hsj]; rfl
            have := b3 _ hm hcj
            omega
      have en : sT n q t s0 (key n q b + 1) = sTp n q t (sT n q t s0 k) b := by
        show sTk n q t (sT n q t s0 (key n q b)) (key n q b) = _
        rw [es]
        unfold sTk act
        rw [em, ed]
        simp [tb, wb]
      have ih' := fun P' => ih (p + 1) (key n q b + 1) (fun i => S i || decide (i = b)) (x ||| (1 <<< (nI b &&& 31))) P'
      have ii : ∀ m, m < 12 → (S m || decide (m = b)) = true → key n q m < key n q b + 1 := by
        intro m hm hs
        rw [Bool.or_eq_true] at hs
        rcases hs with hs | hs
        · have := h2 m hm hs; omega
        · rw [of_decide_eq_true hs]; omega
      have iii : ∀ (tr' : Nat → Nat), (∀ m, m ≠ b → tr' m = (sT n q t s0 k).2.2 m) → ∀ m, m < 12 → cnd n q tr' (fun i => S i || decide (i = b)) m = true → key n q b + 1 ≤ key n q m := by
        intro tr' htr m hm hc
        unfold cnd at hc
        simp only [Bool.and_eq_true, decide_eq_true_eq, Bool.not_eq_true', Bool.or_eq_false_iff, decide_eq_false_iff_not] at hc
        obtain ⟨⟨c1, c2⟩, c3, c4⟩ := hc
        rw [htr m c4] at c2
        have := b3 m hm (by unfold cnd; rw [c1, c2, c3]; rfl)
        unfold key at this ⊢
        omega
      rw [en] at ih'
      have ck : cK (fun i => S i || decide (i = b)) = p + 1 := by rw [← hp]; exact cnt_add S 12 b b1 sb
      have hS' := MS_or1 hS b1
      have vb := (nI_vp (a := b) (n := 12) (by omega)).mpr b1
      generalize sT n q t s0 k = s at hT hb ih' iii tb ⊢
      have stay : sTp n q t s b = s → ∀ y : Int32, y = nI p + 1 → wl_M_give_10 post (fun x34 _ _ _ I F G => post x34 I F G) (nI t) (d + 1) (nI s.1) (oI s.2.1) (x ||| (1 <<< (nI b &&& 31))) y J P N := by
        intro e y hy
        rw [e] at ih'
        rw [hy, ← nI_succ]
        exact ih' P (by omega) hM hT hS' ck (by omega) ii (iii _ (fun m _ => rfl)) h
      rw [oI_some, nI_clamp (by omega), nI_nM (by omega)]
      refine ⟨fun _ x21 hx21 => ?_, fun z => absurd z id⟩
      subst hx21
      refine t_left hA hM b1 ?_
      rw [lep_iff (by omega) hb.o31]
      refine ⟨fun y => stay (by unfold sTp; rw [if_pos y]), fun y => t_isFree hA hM (hb.t31 ht hT) b1 wb (by omega) (br' (fun f => ⟨vb, fun P28 p28 => ?_⟩) (fun f => stay (by unfold sTp; rw [f]; simp)))⟩
      have hp : sTp n q t s b = (s.1 + 1, some (rgn n q b), fun x => if x = b then t else s.2.2 x) := by
        unfold sTp
        rw [if_neg y, if_pos f]
      rw [hp] at ih'
      have ef : ∀ k, k ≠ 7 → P28 k = P k := fun k hk => by rw [p28]; simp only [setF_c]; rw [if_neg hk]
      have hM28 : MInv n q nx J P28 := hM.ofP rfl (fun k hk => ef k (by omega))
      refine t_right hA hM28 b1 (fun x30 hx30 x31 hx31 => ?_)
      rw [hx30, hx31, ← nI_succ, ← nI_succ]
      refine ih' P28 (by omega) hM28 (fun m hm => ?_) hS' ck (by omega) ii (iii _ (fun m hm => by show (if m = b then t else s.2.2 m) = _; rw [if_neg hm])) (fun P' a1 a2 => h P' (fun k hk => (a1 k hk).trans (ef k hk)) a2)
      rw [p28]
      simp only [setF_c, if_true, upd_c]
      by_cases z : m = b
      · rw [if_pos z, if_pos z]
      · rw [if_neg z, if_neg z]; exact hT m hm
theorem t_give (hA : AInv n q nx) (ht : t ≤ 9) {tr : Nat → Nat} (hB : ∀ k, TB n q t W (sT n q t (0, none, tr) k)) {J : MI} {P : MF} (hM : MInv n q nx J P) (hT : ∀ m, m < 12 → P 7 m = nI (tr m)) {post : Int32 → MI → MF → MG → Prop}
    (h : ∀ P', (∀ k, k ≠ 7 → P' k = P k) → (∀ m, m < 12 → P' 7 m = nI ((sT n q t (0, none, tr) 288).2.2 m)) → post (nI (sT n q t (0, none, tr) 288).1) J P' N) : wp_M_give (nI t) J P N post := by
  refine ⟨13, tl_give2 hA ht hB 12 0 0 (fun _ => false) 0 P rfl hM hT MS_0 ?_ (by omega) (fun m _ hs => by cases hs) (fun m _ _ => Nat.zero_le _) h⟩
  decide
end TRL
