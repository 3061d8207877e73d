/-! route: track after track -/
section RTE
variable {n : Nat} {q : AQ} {nx : Nat → Nat} {G : MG} {N : MG}
def rte (n : Nat) (q : AQ) : Nat → Nat → (Nat → Nat) → Nat × Nat × (Nat → Nat)
  | 0, t, tr => if wtn n q tr = 0 then (0, t, tr) else (1, t, tr)
  | d + 1, t, tr => if wtn n q tr = 0 then (0, t, tr) else if (sT n q (t + 1) (0, none, tr) 288).1 = 0 then (2, t, tr) else rte n q d (t + 1) (sT n q (t + 1) (0, none, tr) 288).2.2
def TQ (n : Nat) (q : AQ) (t : Nat) (tr : Nat → Nat) : Prop := (∀ m, tr m ≤ t) ∧ ∀ m, 1 ≤ tr m → wirn n q m = true
theorem TQ.B (hA : AInv n q nx) {t : Nat} {tr : Nat → Nat} (h : TQ n q t tr) : ∀ k, TB n q (t + 1) (wtn n q tr) (sT n q (t + 1) (0, none, tr) k) := sT_TB hA (by omega) ⟨fun r hr => (by cases hr), fun m => Nat.le_succ_of_le (h.1 m), rfl, h.2⟩
theorem wtn_le (n : Nat) (q : AQ) (tr : Nat → Nat) : wtn n q tr ≤ 12 := by
  have := List.countP_le_length (p := fun m => wirn n q m && decide (tr m = 0)) (l := List.range 12)
  simpa [wtn] using this
theorem rte_ok (hA : AInv n q nx) : ∀ (d t : Nat) (tr : Nat → Nat), t + d = 9 → TQ n q t tr → (rte n q d t tr).1 = 0 → (rte n q d t tr).2.1 ≤ 9 ∧ TQ n q (rte n q d t tr).2.1 (rte n q d t tr).2.2 ∧ wtn n q (rte n q d t tr).2.2 = 0 := by
  intro d
  induction d with
  | zero =>
    intro t tr hd hq h
    unfold rte at h ⊢
    split at h
    · next c => rw [if_pos c]; exact ⟨by show t ≤ 9; omega, hq, c⟩
    · exact absurd h (show ¬ (1 : Nat) = 0 by decide)
  | succ d ih =>
    intro t tr hd hq h
    unfold rte at h ⊢
    split at h
    · next c => rw [if_pos c]; exact ⟨by show t ≤ 9; omega, hq, c⟩
    · next c =>
      rw [if_neg c]
      split at h
      · exact absurd h (show ¬ (2 : Nat) = 0 by decide)
      · next c2 =>
        rw [if_neg c2]
        have hb := hq.B hA 288
        exact ih (t + 1) _ (by omega) ⟨hb.2.1, hb.2.2.2⟩ h
theorem sl_assign (hA : AInv n q nx) {post : MI → MF → MG → Prop} {thr : String → MI → MF → MG → Prop} : ∀ (d t : Nat) (tr : Nat → Nat) (I : MI) (F : MF), t + d = 9 → CInv n q nx I F → (∀ m, m < 12 → F 10 m = nI (tr m)) → I 2 = nI t → TQ n q t tr →
    (∀ I' F', (∀ k, k ≠ 2 → I' k = I k) → (∀ k, k ≠ 10 → F' k = F k) → ((rte n q d t tr).1 = 0 → I' 2 = nI (rte n q d t tr).2.1 → (∀ m, m < 12 → F' 10 m = nI ((rte n q d t tr).2.2 m)) → post I' F' G) ∧ ((rte n q d t tr).1 = 1 → thr "java/lang/IllegalStateException" I' F' G) ∧ ((rte n q d t tr).1 = 2 → thr "java/lang/UnsupportedOperationException" I' F' G)) →
    wl_C_assignTracks_23 post thr (fun x _ I F G => ((x ≤ 0 → post I F G) ∧ (¬ x ≤ 0 → thr "java/lang/IllegalStateException" I F G))) (d + 1) (nI (wtn n q tr)) (nI (t + 1)) I F G := by
  intro d
  induction d with
  | zero =>
    intro t tr I F hd hC hT h2 hq h
    have hw := wtn_le n q tr
    have e : t = 9 := by omega
    subst e
    obtain ⟨h0, h1, _⟩ := h I F (fun _ _ => rfl) (fun _ _ => rfl)
    refine ⟨fun _ => ?_, fun c => absurd (by decide) c⟩
    show ((nI (wtn n q tr) ≤ nI 0 → _) ∧ (¬ nI (wtn n q tr) ≤ nI 0 → _))
    rw [nI_le_iff (by omega) (by omega)]
    unfold rte at h0 h1
    refine ⟨fun c => ?_, fun c => ?_⟩
    · have c : wtn n q tr = 0 := by omega
      rw [if_pos c] at h0
      exact h0 rfl h2 hT
    · have c : ¬ wtn n q tr = 0 := by omega
      rw [if_neg c] at h1
      exact h1 rfl
  | succ d ih =>
    intro t tr I F hd hC hT h2 hq h
    have hw := wtn_le n q tr
    have hB := hq.B hA
    unfold wl_C_assignTracks_23
    unfold rte at h
    rw [i_9, nI_lt_iff (by omega) (by omega), i_0, nI_le_iff (by omega) (by omega)]
    refine ⟨fun c => by omega, fun _ => ⟨fun c => ?_, fun c => ?_⟩⟩
    · have c : wtn n q tr = 0 := by omega
      obtain ⟨h0, _, _⟩ := h I F (fun _ _ => rfl) (fun _ _ => rfl)
      rw [if_pos c] at h0
      refine ⟨fun _ => h0 rfl h2 hT, fun z => absurd ?_ z⟩
      rw [c]; decide
    · have c : ¬ wtn n q tr = 0 := by omega
      rw [if_neg c] at h
      refine s_fill hA (s0 := (0, none, tr)) (by omega) hB hC hT (fun F' a1 a2 => ?_)
      have hb := hB 288
      generalize sT n q (t + 1) (0, none, tr) 288 = s at hb h a2
      have hs := hb.2.2.1
      rw [nI_eq_iff (by omega) (by omega)]
      refine ⟨fun z x hx I10 g10 y hy => ?_, fun z => ?_⟩
      · rw [if_neg z] at h
        rw [hx, hy, nI_sub (by omega), show wtn n q tr - s.1 = wtn n q s.2.2 by omega]
        rw [show (nI (t + 1) + 1 : Int32) = nI (t + 1 + 1) from (nI_succ _).symm]
        have e10 : ∀ k, k ≠ 2 → I10 k = I k := fun k hk => by rw [g10]; simp only [setI_c]; rw [if_neg hk]
        refine ih (t + 1) s.2.2 I10 F' (by omega) ((hC.ofF (fun k hk => a1 k (by omega))).ofI (e10 1 (by omega))) a2 (by rw [g10]; simp only [setI_c, if_true]) ⟨hb.2.1, hb.2.2.2⟩ (fun I' F2 b1 b2 => h I' F2 (fun k hk => (b1 k hk).trans (e10 k hk)) (fun k hk => (b2 k hk).trans (a1 k hk)))
      · rw [if_pos z] at h
        exact (h I F' (fun _ _ => rfl) a1).2.2 rfl
theorem wtn_0 (n : Nat) (q : AQ) : wtn n q (fun _ => 0) = wcn n q := by
  unfold wtn wcn
  apply List.countP_congr
  intro x _
  simp
theorem TQ_0 (n : Nat) (q : AQ) : TQ n q 0 (fun _ => 0) := ⟨fun _ => Nat.le_refl _, fun m hm => absurd hm (show ¬ 1 ≤ 0 by decide)⟩
abbrev rt (n : Nat) (q : AQ) : Nat × Nat × (Nat → Nat) := rte n q 9 0 (fun _ => 0)
theorem s_assign (hA : AInv n q nx) {I : MI} {F : MF} (hC : CInv n q nx I F) {post : MI → MF → MG → Prop} {thr : String → MI → MF → MG → Prop}
    (h : ∀ I' F', (∀ k, k ≠ 2 → I' k = I k) → (∀ k, k ≠ 10 → F' k = F k) → ((rt n q).1 = 0 → I' 2 = nI (rt n q).2.1 → (∀ m, m < 12 → F' 10 m = nI ((rt n q).2.2 m)) → post I' F' G) ∧ ((rt n q).1 = 1 → thr "java/lang/IllegalStateException" I' F' G) ∧ ((rt n q).1 = 2 → thr "java/lang/UnsupportedOperationException" I' F' G)) : wp_C_assignTracks I F G post thr := by
  unfold wp_C_assignTracks
  intro F1 g1 I2 g2
  have e2 : ∀ k, k ≠ 2 → I2 k = I k := fun k hk => by rw [g2]; simp only [setI_c]; rw [if_neg hk]
  have e1 : ∀ k, k ≠ 10 → F1 k = F k := fun k hk => by rw [g1]; simp only [setF_c]; rw [if_neg hk]
  have hC2 : CInv n q nx I2 F1 := (hC.ofF (fun k hk => e1 k (by omega))).ofI (e2 1 (by omega))
  refine s_wiredNets hA hC2 ?_
  rw [← wtn_0]
  refine ⟨10, sl_assign hA 9 0 (fun _ => 0) I2 F1 rfl hC2 (fun m hm => ?_) (by rw [g2]; rfl) (TQ_0 n q) (fun I' F' a1 a2 => h I' F' (fun k hk => (a1 k hk).trans (e2 k hk)) (fun k hk => (a2 k hk).trans (e1 k hk)))⟩
  rw [g1]
  simp only [setF_c, if_true, filled_c]
  rw [if_pos hm]; rfl
/-! the reference -/
theorem tl_rt1 {J : MI} {a : Int32} {post : Int32 → MI → MF → MG → Prop} {K : Int32 → MI → MF → MG → Prop} : ∀ (d i : Nat) (P : MF), i + d = 12 → (∀ m, m < i → P 7 m = nI 0) → (∀ P', (∀ k, k ≠ 7 → P' k = P k) → (∀ m, m < 12 → P' 7 m = nI 0) → K (nI 12) J P' N) → wl_M_route_9 post K a (d + 1) (nI i) J P N := by
  intro d
  induction d with
  | zero =>
    intro i P hi hS h
    have e : i = 12 := by omega
    subst e
    exact ⟨fun _ => h P (fun _ _ => rfl) hS, fun c => absurd (nI_le (Nat.le_refl 12) (by decide)) c⟩
  | succ d ih =>
    intro i P hi hS h
    unfold wl_M_route_9
    rw [nI_clamp (by omega)]
    refine ⟨fun c => absurd c (nI_ge (b := 12) (by omega) (by decide)), fun _ => ⟨(nI_vp (by omega)).mpr (by omega), fun P3 p3 x hx => ?_⟩⟩
    rw [hx, ← nI_succ]
    refine ih (i + 1) P3 (by omega) (fun m hm => ?_) (fun P' h1 h2 => h P' (fun k hk => by rw [h1 k hk, p3]; simp only [setF_c]; rw [if_neg hk]) h2)
    rw [p3]
    simp only [setF_c, if_true, upd_c]
    by_cases z : m = i
    · rw [if_pos z]; rfl
    · rw [if_neg z]; exact hS m (by omega)
theorem tl_rt2 (hA : AInv n q nx) {J : MI} {a : Int32} {post : Int32 → MI → MF → MG → Prop} {K : Int32 → MI → MF → MG → Prop} : ∀ (d t : Nat) (tr : Nat → Nat) (P : MF), t + d = 9 → MInv n q nx J P → (∀ m, m < 12 → P 7 m = nI (tr m)) → TQ n q t tr →
    (∀ P', (∀ k, k ≠ 7 → P' k = P k) → ((rte n q d t tr).1 = 0 → (∀ m, m < 12 → P' 7 m = nI ((rte n q d t tr).2.2 m)) → K (nI (rte n q d t tr).2.1) J P' N) ∧ ((rte n q d t tr).1 = 1 → post 0 (setI J 0 1) P' N) ∧ ((rte n q d t tr).1 = 2 → post 0 (setI J 0 2) P' N)) →
    wl_M_route_28 post K a (d + 1) (nI t) J P N := by
  intro d
  induction d with
  | zero =>
    intro t tr P hd hM hT hq h
    have hw := wtn_le n q tr
    have e : t = 9 := by omega
    subst e
    obtain ⟨h0, h1, _⟩ := h P (fun _ _ => rfl)
    unfold rte at h0 h1
    refine t_waiting hA hM (tr := tr) (fun m hm => ⟨hT m hm, by have := hq.1 m; omega⟩) ?_
    rw [i_0, nI_le_iff (by omega) (by omega)]
    refine ⟨fun c => ?_, fun c x hx => ⟨fun z => absurd z (by rw [hx]; decide), fun _ => rf_i ?_⟩⟩
    · have c : wtn n q tr = 0 := by omega
      rw [if_pos c] at h0
      exact h0 rfl hT
    · have c : ¬ wtn n q tr = 0 := by omega
      rw [if_neg c] at h1
      exact h1 rfl
  | succ d ih =>
    intro t tr P hd hM hT hq h
    have hw := wtn_le n q tr
    have hB := hq.B hA
    unfold rte at h
    refine t_waiting hA hM (tr := tr) (fun m hm => ⟨hT m hm, by have := hq.1 m; omega⟩) ?_
    rw [i_0, nI_le_iff (by omega) (by omega)]
    refine ⟨fun c => ?_, fun c x hx => ?_⟩
    · have c : wtn n q tr = 0 := by omega
      obtain ⟨h0, _, _⟩ := h P (fun _ _ => rfl)
      rw [if_pos c] at h0
      exact h0 rfl hT
    · have c : ¬ wtn n q tr = 0 := by omega
      rw [if_neg c] at h
      rw [hx, ← nI_succ, i_9, nI_le_iff (by omega) (by omega)]
      refine ⟨fun _ => t_give hA (by omega) hB hM hT (fun P' a1 a2 => ?_), fun z => by omega⟩
      have hb := hB 288
      generalize sT n q (t + 1) (0, none, tr) 288 = s at hb h a2
      have hs := hb.2.2.1
      rw [← i_0, i_0, nI_eq_iff (by omega) (by omega)]
      refine ⟨fun z => ?_, fun z => rf_i ?_⟩
      · rw [if_neg z] at h
        exact ih (t + 1) s.2.2 P' (by omega) (hM.ofP rfl (fun k hk => a1 k (by omega))) a2 ⟨hb.2.1, hb.2.2.2⟩ (fun P2 b1 => h P2 (fun k hk => (b1 k hk).trans (a1 k hk)))
      · rw [if_pos z] at h
        exact (h P' a1).2.2 rfl
end RTE
