/-! lengths and delays -/
theorem fL_mem {m : Nat} {p : Nat × Nat × Nat} (hp1 : p.1 = m) : ∀ (L : List (Nat × Nat × Nat)) (a : Nat), p ∈ L → L.foldl (fL m) a ≤ p.2.2 := by
  intro L
  induction L with
  | nil => intro a h; cases h
  | cons x L ih =>
    intro a h
    rw [List.foldl_cons]
    rcases List.mem_cons.mp h with e | e
    · subst e
      refine Nat.le_trans (fL_le m L _) ?_
      simp only [fL]
      split
      · exact Nat.le_refl _
      · next c =>
        have : ¬ p.2.2 < a := fun z => c ⟨hp1, z⟩
        omega
    · exact ih _ e
theorem fR_ge (m : Nat) : ∀ (L : List (Nat × Nat × Nat)) (a : Nat), a ≤ L.foldl (fR m) a := by
  intro L
  induction L with
  | nil => intro a; exact Nat.le_refl _
  | cons x L ih =>
    intro a
    rw [List.foldl_cons]
    refine Nat.le_trans ?_ (ih _)
    simp only [fR]
    split
    · next c => exact Nat.le_of_lt c.2
    · exact Nat.le_refl _
theorem fR_mem {m : Nat} {p : Nat × Nat × Nat} (hp1 : p.1 = m) : ∀ (L : List (Nat × Nat × Nat)) (a : Nat), p ∈ L → p.2.2 ≤ L.foldl (fR m) a := by
  intro L
  induction L with
  | nil => intro a h; cases h
  | cons x L ih =>
    intro a h
    rw [List.foldl_cons]
    rcases List.mem_cons.mp h with e | e
    · subst e
      refine Nat.le_trans ?_ (fR_ge m L _)
      simp only [fR]
      split
      · exact Nat.le_refl _
      · next c =>
        have : ¬ a < p.2.2 := fun z => c ⟨hp1, z⟩
        omega
    · exact ih _ e
theorem len_rg {n : Nat} {q : AQ} {m : Nat} (h : 0 < pnn n q m) : len n q m ≤ rgn n q m := by
  obtain ⟨p, hp, e⟩ := List.countP_pos_iff.mp h
  have e : p.1 = m := by simpa using e
  have h1 := fL_mem e (PL n q) 24 hp
  have h2 := fR_mem e (PL n q) 0 hp
  unfold len
  split
  · omega
  · exact Nat.le_trans h1 h2
/-- a wire's length -/
def lnn (n : Nat) (q : AQ) (T : Nat) (tr : Nat → Nat) (m : Nat) : Nat := if tr m = 0 then 0 else rgn n q m - len n q m + prn n q 0 m * tr m + prn n q 1 m * (T + 1 - tr m)
def dln (n : Nat) (q : AQ) (T : Nat) (tr : Nat → Nat) (m : Nat) : UInt64 := if tr m = 0 then FP.dconst0 else dlx (lnn n q T tr m) (pnn n q m)
theorem dln_m (n : Nat) (q : AQ) (T : Nat) (tr : Nat → Nat) (m : Nat) : dFin (dln n q T tr m) := by
  unfold dln
  split
  · unfold dFin; decide
  · exact dfin_of (dlx_m _ _) (by omega)
theorem lnn_bd {n : Nat} {q : AQ} {nx : Nat → Nat} (hA : AInv n q nx) {T : Nat} {tr : Nat → Nat} {m : Nat} (hT : T ≤ 9) (ht : tr m ≤ T) : lnn n q T tr m ≤ 2000 := by
  unfold lnn
  have h1 := rgn_le hA m
  have h2 := prn_le hA 0 m
  have h3 := prn_le hA 1 m
  split
  · omega
  · have h4 : prn n q 0 m * tr m ≤ 36 * 9 := Nat.mul_le_mul h2 (by omega)
    have h5 : prn n q 1 m * (T + 1 - tr m) ≤ 36 * 10 := Nat.mul_le_mul h3 (by omega)
    omega
theorem lnn_pos {n : Nat} {q : AQ} {nx : Nat → Nat} (hA : AInv n q nx) {T : Nat} {tr : Nat → Nat} {m : Nat} (ht : tr m ≤ T) (h1 : 1 ≤ tr m) (hw : wirn n q m = true) : 1 ≤ lnn n q T tr m := by
  unfold lnn
  rw [if_neg (by omega)]
  have hp := wirn_pos hw
  rw [pnn_split hA] at hp
  rcases (show 1 ≤ prn n q 0 m ∨ 1 ≤ prn n q 1 m by omega) with z | z
  · have : 1 * 1 ≤ prn n q 0 m * tr m := Nat.mul_le_mul z h1
    omega
  · have : 1 * 1 ≤ prn n q 1 m * (T + 1 - tr m) := Nat.mul_le_mul z (by omega)
    omega
section LEN
variable {n : Nat} {q : AQ} {nx : Nat → Nat} {T : Nat} {tr : Nat → Nat} {dw : Nat → Nat → Nat} {I : MI} {F : MF} {G : MG} {J : MI} {P : MF} {N : MG} {m : Nat}
/-- what the class has of a routing -/
def RC (n : Nat) (q : AQ) (T : Nat) (tr : Nat → Nat) (I : MI) (F : MF) : Prop := T ≤ 9 ∧ I 2 = nI T ∧ ∀ m, m < 12 → F 10 m = nI (tr m) ∧ tr m ≤ T ∧ (wirn n q m = true ↔ 1 ≤ tr m)
def RM (n : Nat) (q : AQ) (T : Nat) (tr : Nat → Nat) (J : MI) (P : MF) : Prop := T ≤ 9 ∧ J 2 = nI T ∧ ∀ m, m < 12 → P 7 m = nI (tr m) ∧ tr m ≤ T ∧ (wirn n q m = true ↔ 1 ≤ tr m)
theorem RInv.C (h : RInv n q T tr dw I F J P) : RC n q T tr I F := ⟨h.2.1, h.2.2.1, fun m hm => ⟨(h.2.2.2.2.1 m hm).1, (h.2.2.2.2.1 m hm).2.2⟩⟩
theorem RInv.M (h : RInv n q T tr dw I F J P) : RM n q T tr J P := ⟨h.2.1, h.2.2.2.1, fun m hm => ⟨(h.2.2.2.2.1 m hm).2.1, (h.2.2.2.2.1 m hm).2.2⟩⟩
theorem RInv.thr (h : RInv n q T tr dw I F J P) (x : Int32) : RInv n q T tr dw I F (setI J 0 x) P := ⟨h.1, h.2.1, h.2.2.1, h.2.2.2.1, h.2.2.2.2⟩
theorem s_wireLength (hA : AInv n q nx) (hC : CInv n q nx I F) (hR : RC n q T tr I F) (hm : m < 12) {post : Int32 → Prop} (h : post (nI (lnn n q T tr m))) : wp_C_wireLength (nI m) I F G post := by
  obtain ⟨hT, h2, h3⟩ := hR
  obtain ⟨e1, e2, e3⟩ := h3 m hm
  have v := (nI_vp (a := m) (n := 12) (by omega)).mpr hm
  have p0 := hC.2.2.2.2.1 0 (by omega) m hm
  have p1 := hC.2.2.2.2.1 1 (by omega) m hm
  unfold wp_C_wireLength
  rw [nI_clamp (by omega), e1, i_0, nI_eq_iff (by omega) (by omega)]
  unfold lnn at h
  refine ⟨v, fun c => s_rightEnd hA hC hm (s_leftEnd hA hC hm ?_), fun c => ?_⟩
  · rw [if_neg c] at h
    have hw : wirn n q m = true := e3.mpr (by omega)
    have hlr := len_rg (wirn_pos hw)
    rw [if_pos hw, if_pos hw]
    intro x5 hx5
    refine ⟨by unfold vp_in; decide, v, v, fun x9 hx9 => ⟨by unfold vp_in; decide, v, v, fun x13 hx13 => ?_⟩⟩
    have q0 : F (17 + (nI 0).toNatClampNeg) m = nI (prn n q 0 m) := p0
    have q1 : F (17 + (1 : Int32).toNatClampNeg) m = nI (prn n q 1 m) := p1
    rw [q0, nI_mul] at hx9
    rw [q1, h2, i_1, nI_ad, nI_sub (by omega), nI_mul] at hx13
    rw [nI_sub hlr] at hx5
    rw [hx5, hx9, hx13, nI_ad, nI_ad]
    exact h
  · rw [if_pos c] at h; exact h
theorem s_wireDelay (hA : AInv n q nx) (hC : CInv n q nx I F) (hR : RC n q T tr I F) (hm : m < 12) {post : UInt64 → Prop} (h : post (dln n q T tr m)) : wp_C_wireDelay (nI m) I F G post := by
  obtain ⟨e1, e2, e3⟩ := hR.2.2 m hm
  have hT := hR.1
  have v := (nI_vp (a := m) (n := 12) (by omega)).mpr hm
  unfold wp_C_wireDelay
  rw [nI_clamp (by omega), e1, i_0, nI_eq_iff (by omega) (by omega)]
  unfold dln at h
  refine ⟨v, fun c => s_wireLength hA hC hR hm ?_, fun c => ?_⟩
  · rw [if_neg c] at h
    intro x4 hx4
    subst hx4
    refine ⟨dFin.vf (dfin_of (dq_m _) (by omega)), dFin.vf (dfin_of (dh_m _) (by omega)), s_pins hA hC hm ⟨dFin.vf (dfin_of (da_m _ _) (by omega)), dFin.vf (dfin_of (dlx_m _ _) (by omega)), h⟩⟩
  · rw [if_pos c] at h; exact h
abbrev fN (m t u : Nat) : Nat → Nat × Nat × Nat → Nat := fun a p => if p.1 = m then a + (if p.2.1 = 0 then t else u) else a
theorem fN_count (m t u : Nat) (L : List (Nat × Nat × Nat)) (hL : ∀ p ∈ L, p.2.1 < 2) : ∀ a, L.foldl (fN m t u) a = a + L.countP (fun p => p.1 == m && p.2.1 == 0) * t + L.countP (fun p => p.1 == m && p.2.1 == 1) * u := by
  induction L with
  | nil => intro a; simp
  | cons p L ih =>
    intro a
    rw [List.foldl_cons, ih (fun x hx => hL x (List.mem_cons_of_mem _ hx)), List.countP_cons, List.countP_cons]
    have h2 := hL p List.mem_cons_self
    by_cases c : p.1 = m
    · rcases (show p.2.1 = 0 ∨ p.2.1 = 1 by omega) with e | e
      · simp only [fN, c, e, if_true, beq_self_eq_true, Bool.and_self, Nat.add_mul, Nat.one_mul]
        simp; omega
      · simp only [fN, c, e, if_true, beq_self_eq_true, Bool.and_self, Nat.add_mul, Nat.one_mul]
        simp; omega
    · have c2 : (p.1 == m) = false := by simp [c]
      simp only [fN, c, c2, if_false, Bool.false_and, Bool.false_eq_true, Nat.add_zero]
theorem tl_len_in (hA : AInv n q nx) (hM : MInv n q nx J P) (h2 : J 2 = nI T) {t g : Nat} (htT : t ≤ T) (hT : T ≤ 9) (hm : m < 12) (hg : g < n) {post : Int32 → Prop} {K : Int32 → Int32 → Prop} : ∀ (d i acc : Nat), i + d = npn q g → K (nI ((gpf q g i d).foldl (fN m t (T + 1 - t)) acc)) (nI (npn q g)) → wl_M_lengthOf_50 post K (nI m) (nI t) (nI g) J P N (d + 1) (nI acc) (nI i) := by
  have hp := npn_or q g
  have hn := hA.1
  have e4 := (hM.2.1 g hg).2.2.2.2.1
  have hr := (hA.2.1 g hg).2.2.2.2.2.1
  have v := (nI_vp (a := g) (n := 12) (by omega)).mpr (by omega)
  intro d
  induction d with
  | zero =>
    intro i acc hi h
    have e : i = npn q g := by omega
    subst e
    exact t_pinsOf hA hM hg ⟨fun _ => h, fun c => absurd (nI_le (Nat.le_refl _) (by omega)) c⟩
  | succ d ih =>
    intro i acc hi h
    rw [gpf_succ, List.foldl_cons] at h
    refine t_pinsOf hA hM hg ⟨fun c => absurd c (nI_ge (by omega) (by omega)), fun _ => t_netOf hA hM hg (by omega) ?_⟩
    have hb := ntn_lt hA (i := i) hg
    rw [nI_eq_iff (by omega) (by omega), nI_clamp (by omega), e4, i_0, nI_eq_iff (by omega) (by omega), h2]
    refine ⟨fun a x hx => ?_, fun a => ⟨v, fun b x hx y hy => ?_, fun b x hx y hy => ?_⟩⟩
    · rw [hx, ← nI_succ]
      refine ih (i + 1) acc (by omega) ?_
      rw [show fN m t (T + 1 - t) acc (ntn q g i, q 4 g, q 5 g + i) = acc from if_neg a] at h; exact h
    · rw [hx, hy, ← nI_succ, i_1, nI_ad, nI_sub (by omega), nI_ad]
      refine ih (i + 1) _ (by omega) ?_
      rw [show fN m t (T + 1 - t) acc (ntn q g i, q 4 g, q 5 g + i) = acc + (T + 1 - t) from by simp only [fN]; rw [if_pos a, if_neg b]] at h; exact h
    · rw [hx, hy, ← nI_succ, nI_ad]
      refine ih (i + 1) _ (by omega) ?_
      rw [show fN m t (T + 1 - t) acc (ntn q g i, q 4 g, q 5 g + i) = acc + t from by simp only [fN]; rw [if_pos a, if_pos b]] at h; exact h
theorem tl_len_out (hA : AInv n q nx) (hM : MInv n q nx J P) (h2 : J 2 = nI T) {t : Nat} (htT : t ≤ T) (hT : T ≤ 9) (hm : m < 12) {post : Int32 → Prop} {K : Int32 → Int32 → Prop} : ∀ (d g acc : Nat), g + d = n → K (nI ((PLf q g d).foldl (fN m t (T + 1 - t)) acc)) (nI n) → wl_M_lengthOf_38 post K (nI m) (nI t) J P N (d + 1) (nI acc) (nI g) := by
  have hn := hA.1
  intro d
  induction d with
  | zero =>
    intro g acc hi h
    have e : g = n := by omega
    subst e
    unfold wl_M_lengthOf_38
    rw [hM.1]
    exact ⟨fun _ => h, fun c => absurd (nI_le (Nat.le_refl _) (by omega)) c⟩
  | succ d ih =>
    intro g acc hi h
    rw [PLf_succ, List.foldl_append] at h
    unfold wl_M_lengthOf_38
    rw [hM.1]
    refine ⟨fun c => absurd c (nI_ge (by omega) (by omega)), fun _ => ⟨npn q g + 1, tl_len_in hA hM h2 htT hT hm (by omega) (npn q g) 0 acc (by omega) (fun x hx => ?_)⟩⟩
    rw [hx, ← nI_succ, ← gp_gpf]
    exact ih (g + 1) _ (by omega) h
theorem t_lengthOf (hA : AInv n q nx) (hM : MInv n q nx J P) (hR : RM n q T tr J P) (hm : m < 12) {post : Int32 → Prop} (h : post (nI (lnn n q T tr m))) : wp_M_lengthOf (nI m) J P N post := by
  obtain ⟨hT, h2, h3⟩ := hR
  obtain ⟨e1, e2, e3⟩ := h3 m hm
  have v := (nI_vp (a := m) (n := 12) (by omega)).mpr hm
  unfold wp_M_lengthOf
  rw [nI_clamp (by omega), h2, i_m1, nI_nM (by omega), e1]
  unfold lnn at h
  refine ⟨fun _ => ⟨v, fun x3 hx3 => ?_⟩, fun z => absurd z id⟩
  subst hx3
  rw [i_0, nI_eq_iff (by omega) (by omega)]
  refine ⟨fun c => ?_, fun c => ?_⟩
  · rw [if_pos c] at h; exact h
  · rw [if_neg c] at h
    have hw : wirn n q m = true := e3.mpr (by omega)
    have hlr := len_rg (wirn_pos hw)
    rw [← i_0]
    refine t_isWired hA hM hm (br' (fun _ => ⟨n + 1, ?_⟩) (fun z => absurd (hw.symm.trans z) (by decide)))
    refine tl_len_out hA hM h2 e2 hT hm n 0 0 (by omega) (t_right hA hM hm (t_left hA hM hm ?_))
    rw [← PL_PLf, fN_count _ _ _ _ (fun p hp => (PL_mem hA hp).2.1), nI_ad, nI_sub (by omega)]
    have e : 0 + (PL n q).countP (fun p => p.1 == m && p.2.1 == 0) * tr m + (PL n q).countP (fun p => p.1 == m && p.2.1 == 1) * (T + 1 - tr m) + rgn n q m - len n q m = rgn n q m - len n q m + prn n q 0 m * tr m + prn n q 1 m * (T + 1 - tr m) := by
      show 0 + prn n q 0 m * tr m + prn n q 1 m * (T + 1 - tr m) + rgn n q m - len n q m = _
      omega
    rw [e]; exact h
theorem t_delayOf (hA : AInv n q nx) (hM : MInv n q nx J P) (hR : RM n q T tr J P) (hm : m < 12) {post : UInt64 → Prop} (h : post (dln n q T tr m)) : wp_M_delayOf (nI m) J P N post := by
  obtain ⟨e1, e2, e3⟩ := hR.2.2 m hm
  have hb := lnn_bd hA hR.1 e2
  unfold wp_M_delayOf
  unfold dln at h
  refine t_lengthOf hA hM hR hm (fun x2 hx2 => ?_)
  subst hx2
  rw [dcmp_len (by omega)]
  refine ⟨fun c => ⟨dFin.vf (dfin_of (dq_m _) (by omega)), dFin.vf (dfin_of (dh_m _) (by omega)), t_pins hA hM hm ⟨dFin.vf (dfin_of (da_m _ _) (by omega)), dFin.vf (dfin_of (dlx_m _ _) (by omega)), ?_⟩⟩, fun c => ?_⟩
  · have : ¬ tr m = 0 := fun z => c (by unfold lnn; rw [if_pos z])
    rw [if_neg this] at h; exact h
  · have : tr m = 0 := by
      rcases Nat.eq_zero_or_pos (tr m) with z | z
      · exact z
      · have := lnn_pos hA e2 z (e3.mpr z)
        omega
    rw [if_pos this] at h; exact h
end LEN
