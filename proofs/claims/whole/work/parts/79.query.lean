/-! questions of pins and nets: column -/
theorem t_inb {a : Int32} {b : Nat} {post : Int32 → Prop} (hb : b < 2 ^ 31) (h : post (bI (wiB a b))) : wp_M_in a 0 (nI b - 1) post := by
  by_cases z : b = 0
  · subst z
    have e : wiB a 0 = false := by simp only [wiB, decide_eq_false_iff_not]; omega
    rw [e] at h
    have e2 : (nI 0 - 1 : Int32) = nM := rfl
    rw [e2]
    unfold wp_M_in
    refine ⟨fun _ => h, fun c => ⟨fun _ => h, fun c2 => ?_⟩⟩
    rw [Int32.lt_iff_toInt_lt, Int32.toInt_zero] at c
    rw [Int32.lt_iff_toInt_lt, nM_toInt] at c2
    omega
  · rw [show (nI b - 1 : Int32) = nI (b - 1) from nI_sub (a := b) (b := 1) (by omega)]
    refine s_in (b := b - 1) (by omega) ?_
    rw [show b - 1 + 1 = b by omega]; exact h
def pinB (n : Nat) (q : AQ) (a1 a2 : Int32) : Bool := wiB a1 n && wiB a2 (npn q a1.toNatClampNeg)
theorem pinB_ex {n : Nat} {q : AQ} {nx : Nat → Nat} (hA : AInv n q nx) {a1 a2 : Int32} (h : pinB n q a1 a2 = true) : ∃ g i, g < n ∧ i < npn q g ∧ a1 = nI g ∧ a2 = nI i := by
  have hn := hA.1
  simp only [pinB, Bool.and_eq_true] at h
  obtain ⟨g, hg, rfl⟩ := wiB_ex h.1 (by omega)
  have hp := npn_or q g
  have h2 := h.2
  rw [nI_clamp (by omega)] at h2
  obtain ⟨i, hi, rfl⟩ := wiB_ex h2 (by omega)
  exact ⟨g, i, hg, hi, rfl, rfl⟩
section QRY
variable {n : Nat} {q : AQ} {nx : Nat → Nat} {I : MI} {F : MF} {G : MG} {J : MI} {P : MF} {N : MG} {a1 a2 : Int32}
theorem s_hasPin (hA : AInv n q nx) (hC : CInv n q nx I F) {post : Int32 → Prop} (h : post (bI (pinB n q a1 a2))) : wp_N_hasPin a1 a2 I F G post := by
  have hn := hA.1
  unfold wp_N_hasPin
  unfold pinB at h
  rw [hC.1]
  refine s_within (by omega) (br (fun e => ?_) (fun e => ?_))
  · rw [e, Bool.false_and] at h; exact h
  · rw [e, Bool.true_and] at h
    obtain ⟨g, hg, rfl⟩ := wiB_ex e (by omega)
    have hk := (hA.2.1 g hg).1
    have hp := npn_or q g
    rw [nI_clamp (by omega)] at h ⊢
    rw [hC.2.1 0 (by omega) g hg]
    refine ⟨(nI_vp (by omega)).mpr (by omega), s_pinsOfKind hk ?_⟩
    have e2 : (if q 0 g < 2 then 2 else 3) = npn q g := rfl
    rw [e2]
    refine s_within (by omega) (br (fun e3 => ?_) (fun e3 => ?_))
    · rw [e3] at h; exact h
    · rw [e3] at h; exact h
theorem t_isPin (hA : AInv n q nx) (hM : MInv n q nx J P) {post : Int32 → Prop} (h : post (bI (pinB n q a1 a2))) : wp_M_isPin a1 a2 J P N post := by
  have hn := hA.1
  unfold wp_M_isPin
  unfold pinB at h
  rw [hM.1]
  refine t_inb (by omega) (br (fun e => ?_) (fun e => ?_))
  · rw [e, Bool.false_and] at h; exact h
  · rw [e, Bool.true_and] at h
    obtain ⟨g, hg, rfl⟩ := wiB_ex e (by omega)
    have hp := npn_or q g
    rw [nI_clamp (by omega)] at h
    refine t_pinsOf hA hM hg (t_inb (by omega) (br (fun e3 => ?_) (fun e3 => ?_)))
    · rw [e3] at h; exact h
    · rw [e3] at h; exact h
theorem g_column (h : Sm I F G J P N) (v : Int64) : st_column Sm a1 a2 v I F G J P N := by
  obtain ⟨n, q, nx, hA, hC, hM, hT, hR⟩ := id h
  have hn := hA.1
  unfold st_column wq_column wp_F_column wp_F_needPin
  refine s_hasPin hA hC (br' (fun e => ?_) (fun e => ⟨rfl, ?_⟩))
  · obtain ⟨g, i, hg, hi, rfl, rfl⟩ := pinB_ex hA e
    have e5 := hC.2.1 5 (by omega) g hg
    have e5' := (hM.2.1 g hg).2.2.2.2.2
    have v := (nI_vp (a := g) (n := 12) (by omega)).mpr (by omega)
    unfold wp_N_pinColumn
    refine ⟨v, ?_⟩
    unfold wp_M_column
    refine t_isPin hA hM (br' (fun _ J3 j3 => ⟨v, ?_⟩) (fun e2 => absurd (e.symm.trans e2) (by decide)))
    rw [j3, nI_clamp (by omega), e5, e5']
    exact ⟨rfl, fun _ => rfl, Sm_thr 0 h⟩
  · unfold wp_M_column wp_M_refuse
    refine t_isPin hA hM (br' (fun e2 => absurd (e2.symm.trans e) (by decide)) (fun _ J3 j3 => ?_))
    rw [j3]
    exact ⟨rfl, fun z => absurd z (by decide), Sm_thr 1 h⟩
end QRY
