/-! the relation between the two memories; gate, clear, the beginning -/
def dFin (x : UInt64) : Prop := x.toNat % 2 ^ 63 < 2047 * 2 ^ 52
def TInv (G N : MG) : Prop := ∀ k, k < 4 → G 0 k = N 0 k ∧ dFin (G 0 k)
/-- routed: T tracks, tr the track of a net, dw the drawing -/
def RInv (n : Nat) (q : AQ) (T : Nat) (tr : Nat → Nat) (dw : Nat → Nat → Nat) (I : MI) (F : MF) (J : MI) (P : MF) : Prop :=
  I 0 = nI 1 ∧ T ≤ 9 ∧ I 2 = nI T ∧ J 2 = nI T ∧ (∀ m, m < 12 → F 10 m = nI (tr m) ∧ P 7 m = nI (tr m) ∧ tr m ≤ T ∧ (wirn n q m = true ↔ 1 ≤ tr m)) ∧
  (∀ l, l < 11 → ∀ c, c < 24 → F (19 + l) c = nI (dw l c) ∧ P 8 (24 * l + c) = nI (dw l c) ∧ dw l c < 8)
def UInv (I J : MI) : Prop := I 0 = nI 0 ∧ J 2 = nM
def Sm (I : MI) (F : MF) (G : MG) (J : MI) (P : MF) (N : MG) : Prop := ∃ (n : Nat) (q : AQ) (nx : Nat → Nat), AInv n q nx ∧ CInv n q nx I F ∧ MInv n q nx J P ∧ TInv G N ∧ (UInv I J ∨ ∃ (T : Nat) (tr : Nat → Nat) (dw : Nat → Nat → Nat), RInv n q T tr dw I F J P)
theorem Sm_thr {I : MI} {F : MF} {G : MG} {J : MI} {P : MF} {N : MG} (x : Int32) (h : Sm I F G J P N) : Sm I F G (setI J 0 x) P N := by
  obtain ⟨n, q, nx, hA, hC, hM, hT, hR⟩ := h
  refine ⟨n, q, nx, hA, hC, ⟨hM.1, hM.2⟩, hT, ?_⟩
  rcases hR with hU | ⟨T, tr, dw, hR⟩
  · exact Or.inl ⟨hU.1, hU.2⟩
  · exact Or.inr ⟨T, tr, dw, hR.1, hR.2.1, hR.2.2.1, hR.2.2.2.1, hR.2.2.2.2⟩
theorem g_gate {I : MI} {F : MF} {G : MG} {J : MI} {P : MF} {N : MG} (h : Sm I F G J P N) (a1 a2 a3 a4 a5 : Int32) (v : Int64) : st_gate Sm a1 a2 a3 a4 a5 v I F G J P N := by
  obtain ⟨n, q, nx, hA, hC, hM, hT, hR⟩ := id h
  unfold st_gate wq_gate
  refine s_gate hA hC (fun hb => Or.inl ⟨rfl, t_gate hA hM (fun _ => ⟨rfl, fun z => absurd z (by decide), Sm_thr 1 h⟩) (fun k a b o r hg _ => absurd hg (hb k a b o r)) (fun k a b o r hg _ => absurd hg (hb k a b o r))⟩)
    (fun k a b o r hg hno => Or.inr ⟨rfl, t_gate hA hM (fun hb => absurd hg (hb k a b o r)) (fun _ _ _ _ _ _ _ => ⟨rfl, fun z => absurd z (by decide), Sm_thr 2 h⟩) (fun k' a' b' o' r' hg' hyes => ?_)⟩)
    (fun k a b o r hg hyes I' F' e0 hC' => t_gate hA hM (fun hb => absurd hg (hb k a b o r)) (fun k' a' b' o' r' hg' hno => ?_) (fun k' a' b' o' r' hg' hyes' J' P' j0 j2 hM' => ?_))
  all_goals
    obtain ⟨x1, y1, x2, y2, x3, y3, x4, y4, y5, y6, x5⟩ := id hg
    obtain ⟨x1', y1', x2', y2', x3', y3', x4', y4', y5', y6', x5'⟩ := id hg'
    have e1 : k' = k := (nI_eq_iff (by omega) (by omega)).mp (x1'.symm.trans x1)
    have e2 : a' = a := (nI_eq_iff (by omega) (by omega)).mp (x2'.symm.trans x2)
    have e3 : o' = o := (nI_eq_iff (by omega) (by omega)).mp (x3'.symm.trans x3)
    have e4 : r' = r := (nI_eq_iff (by omega) (by omega)).mp (x4'.symm.trans x4)
    subst e1 e2 e3 e4
  · exact absurd hyes hno
  · exact absurd hyes hno
  · have e5 : b' = b := by
      by_cases hk2 : k' < 2
      · rw [y6 hk2, y6' hk2]
      · exact (nI_eq_iff (by omega) (by omega)).mp ((x5' (by omega)).symm.trans (x5 (by omega)))
    subst e5
    refine ⟨j0, fun _ => rfl, n + 1, _, _, A_add hA hyes.1.1 y1 y2 y5 y6 y3 y4 hyes.1.2 hyes.2, hC', hM', hT, Or.inl ⟨e0, j2⟩⟩
abbrev nx1 : Nat → Nat := fun _ => 1
theorem A_zero (q : AQ) : AInv 0 q nx1 := ⟨by omega, fun g hg => by omega, fun r hr => ⟨Nat.le_refl 1, by show 1 ≤ 25; omega⟩, fun g hg => by omega, List.Pairwise.nil⟩
theorem s_removeAll {I : MI} {F : MF} {G : MG} (q : AQ) {post : MI → MF → MG → Prop} (h : ∀ I' F', (∀ j, j ≠ 1 → I' j = I j) → CInv 0 q nx1 I' F' → (∀ k, ¬ nOk k → F' k = F k) → post I' F' G) : wp_N_removeAll I F G post := by
  unfold wp_N_removeAll
  intro I1 g1
  refine ⟨3, ⟨fun c => absurd c (by decide), fun _ => ⟨by unfold vp_in; decide, fun F1 h1 => ⟨by unfold vp_in; decide, fun F2 h2 => ⟨by unfold vp_in; decide, fun F3 h3 x1 hx1 => ?_⟩⟩⟩⟩⟩
  rw [show x1 = nI 1 from hx1]
  refine ⟨fun c => absurd c (by decide), fun _ => ⟨by unfold vp_in; decide, fun F4 h4 => ⟨by unfold vp_in; decide, fun F5 h5 => ⟨by unfold vp_in; decide, fun F6 h6 x2 hx2 => ?_⟩⟩⟩⟩
  rw [show x2 = nI 2 from hx2]
  refine ⟨fun _ F7 h7 F8 h8 F9 h9 => ?_, fun c => absurd (by decide) c⟩
  have c0 : (0 : Int32).toNatClampNeg = 0 := rfl
  have c1 : (nI 1).toNatClampNeg = 1 := rfl
  rw [c0] at h1 h2 h3
  rw [c1] at h4 h5 h6
  have hF : ∀ k, F9 k = if k = 9 then filled (F 9) 12 (-1) else if k = 8 then filled (F 8) 12 (-1) else if k = 7 then filled (F 7) 12 24 else if k = 18 then filled (F 18) 12 0 else if k = 16 then filled (F 16) 24 (-1) else if k = 17 then filled (F 17) 12 0 else if k = 15 then filled (F 15) 24 (-1) else if k = 6 then upd (upd (F 6) 0 1) 1 1 else F k := by
    intro k
    rw [h9, h8, h7, h6, h5, h4, h3, h2, h1]
    simp only [setF_c]
    by_cases k9 : k = 9
    · subst k9; simp
    · by_cases k8 : k = 8
      · subst k8; simp
      · by_cases k7 : k = 7
        · subst k7; simp
        · by_cases k18 : k = 18
          · subst k18; simp
          · by_cases k16 : k = 16
            · subst k16; simp
            · by_cases k17 : k = 17
              · subst k17; simp
              · by_cases k15 : k = 15
                · subst k15; simp
                · by_cases k6 : k = 6
                  · subst k6; simp
                  · simp [k9, k8, k7, k18, k16, k17, k15, k6]
  refine h I1 F9 (fun j hj => by rw [g1]; simp only [setI_c]; rw [if_neg hj]) ⟨by rw [g1]; rfl, fun f hf g hg => by omega, fun r hr => ?_, fun r hr c hc => ?_, fun r hr m hm => ?_, fun m hm => ?_, fun m hm => ?_, fun m hm => ?_⟩ (fun k hk => ?_)
  · rw [hF]
    rcases (show r = 0 ∨ r = 1 by omega) with rfl | rfl <;> simp [upd_c] <;> rfl
  · rw [hF]
    rcases (show r = 0 ∨ r = 1 by omega) with rfl | rfl <;> simp [filled_c, hc] <;> rfl
  · rw [hF]
    rcases (show r = 0 ∨ r = 1 by omega) with rfl | rfl <;> simp [filled_c, hm] <;> rfl
  · rw [hF]; simp [filled_c, hm]; rfl
  · rw [hF]; simp [filled_c, hm]; rfl
  · rw [hF]; simp [filled_c, hm]; rfl
  · unfold nOk at hk
    rw [hF]
    simp only [show ¬ k = 9 by omega, show ¬ k = 8 by omega, show ¬ k = 7 by omega, show ¬ k = 18 by omega, show ¬ k = 16 by omega, show ¬ k = 17 by omega, show ¬ k = 15 by omega, show ¬ k = 6 by omega, if_false]
theorem g_clear {I : MI} {F : MF} {G : MG} {J : MI} {P : MF} {N : MG} (h : Sm I F G J P N) : st_clear Sm I F G J P N := by
  obtain ⟨n, q, nx, hA, hC, hM, hT, hR⟩ := id h
  unfold st_clear wp_F_clear
  intro x1 hx1
  refine s_removeAll q (fun I' F' hI hC' _ I3 g3 => ?_)
  unfold wp_M_clear
  intro J1 j1 x2 hx2 J3 j3
  refine ⟨by unfold vp_in; decide, fun P5 p5 => ⟨by unfold vp_in; decide, fun P7 p7 J8 j8 => ⟨?_, 0, q, nx1, A_zero q, ⟨?_, hC'.2⟩, ⟨?_, fun g hg => by omega, fun r hr => ?_⟩, hT, Or.inl ⟨?_, ?_⟩⟩⟩⟩
  · rw [hx1, hx2, j1, hC.1]; exact hM.1.symm
  · rw [g3]; exact hC'.1
  · rw [j8, j3]; rfl
  · rw [p7, p5]
    rcases (show r = 0 ∨ r = 1 by omega) with rfl | rfl <;> simp [setF_c, upd_c] <;> rfl
  · rw [g3]; rfl
  · rw [j8]; rfl
theorem ones_ok : TInv onesG onesG := by
  intro k hk
  refine ⟨rfl, ?_⟩
  rcases (show k = 0 ∨ k = 1 ∨ k = 2 ∨ k = 3 by omega) with rfl | rfl | rfl | rfl <;> (unfold dFin; decide +kernel)
theorem g_init : wp_N_removeAll zI zF zG (fun I F _ => Sm (fI I) (fF F) onesG mI0 mF0 onesG) := by
  refine s_removeAll (fun _ _ => 0) (fun I' F' hI hC' _ => ⟨0, fun _ _ => 0, nx1, A_zero _, ⟨?_, fun f hf g hg => by omega, fun r hr => ?_, fun r hr c hc => ?_, fun r hr m hm => ?_, fun m hm => ?_, fun m hm => ?_, fun m hm => ?_⟩, ⟨rfl, fun g hg => by omega, fun r hr => ?_⟩, ones_ok, Or.inl ⟨rfl, rfl⟩⟩)
  · exact hC'.1
  · have := hC'.2.2.1 r hr
    exact this
  · have e : fF F' (15 + r) = F' (15 + r) := if_pos (by unfold nOk; omega)
    rw [e]; exact hC'.2.2.2.1 r hr c hc
  · have e : fF F' (17 + r) = F' (17 + r) := if_pos (by unfold nOk; omega)
    rw [e]; exact hC'.2.2.2.2.1 r hr m hm
  · exact hC'.2.2.2.2.2.1 m hm
  · exact hC'.2.2.2.2.2.2.1 m hm
  · exact hC'.2.2.2.2.2.2.2 m hm
  · rcases (show r = 0 ∨ r = 1 by omega) with rfl | rfl <;> rfl
