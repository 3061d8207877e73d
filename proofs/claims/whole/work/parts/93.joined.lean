/-! joined -/
def sp (T r c : Nat) : Nat := 2 * (24 * (if r = 0 then 0 else T + 1) + c) + 1
theorem sp_lt {T r c : Nat} (hc : c < 24) : sp T r c < 48 * (T + 2) := by unfold sp; split <;> omega
section JND
variable {n : Nat} {q : AQ} {nx : Nat → Nat} {T : Nat} {tr : Nat → Nat} {dw : Nat → Nat → Nat} {I : MI} {G : MG} {J : MI} {N : MG} {E : Nat → Nat → Prop}
theorem s_groupOfRow {F : MF} {ρ : Nat → Nat} (hT : T ≤ 9) (h2 : I 2 = nI T) {r c : Nat} (hr : r < 2) (hc : c < 24) (hU : UF E F ρ) {post : Int32 → MI → MF → MG → Prop} (h : ∀ F', (∀ k, k ≠ 11 → F' k = F k) → UF E F' ρ → post (nI (ρ (sp T r c))) I F' G) : wp_D_groupOfRow (nI r) (nI c) I F G post := by
  unfold wp_D_groupOfRow
  rw [i_0, nI_eq_iff (by omega) (by omega)]
  refine ⟨fun z x hx => ?_, fun z => s_spot (k := 1) (s_group (by omega) hU (fun F' a1 a2 => ?_))⟩
  · rw [h2, i_1, nI_ad] at hx
    rw [hx]
    refine s_spot (k := 1) (s_group (by omega) hU (fun F' a1 a2 => ?_))
    have := h F' a1 a2
    unfold sp at this
    rw [if_neg z] at this; exact this
  · have := h F' a1 a2
    unfold sp at this
    rw [if_pos z] at this; exact this
theorem s_groupOfPin (hA : AInv n q nx) {F : MF} (hC : CInv n q nx I F) {ρ : Nat → Nat} (hT : T ≤ 9) (h2 : I 2 = nI T) {g i : Nat} (hg : g < n) (hi : i < npn q g) (hU : UF E F ρ) {post : Int32 → MI → MF → MG → Prop} (h : ∀ F', (∀ k, k ≠ 11 → F' k = F k) → UF E F' ρ → post (nI (ρ (sp T (q 4 g) (q 5 g + i)))) I F' G) : wp_D_groupOfPin (nI g) (nI i) I F G post := by
  have hn := hA.1
  obtain ⟨_, _, _, _, _, hr, _, hq5⟩ := hA.2.1 g hg
  have hnx := (hA.2.2.1 (q 4 g) hr).2
  have v := (nI_vp (a := g) (n := 12) (by omega)).mpr (by omega)
  unfold wp_D_groupOfPin wp_N_pinColumn
  rw [nI_clamp (by omega), hC.2.1 4 (by omega) g hg, hC.2.1 5 (by omega) g hg, nI_ad]
  exact ⟨v, v, s_groupOfRow hT h2 hr (by omega) hU h⟩
theorem t_pinAt (hA : AInv n q nx) {P : MF} (hM : MInv n q nx J P) {m : Nat → Nat} (hT : T ≤ 9) (h2 : J 2 = nI T) {g i : Nat} (hg : g < n) (hi : i < npn q g) (hL : ML E (48 * (T + 2)) P m) {post : Int32 → Prop} (h : post (nI (m (sp T (q 4 g) (q 5 g + i))))) : wp_M_pinAt (nI g) (nI i) J P N post := by
  have hn := hA.1
  obtain ⟨_, _, _, _, _, hr, _, hq5⟩ := hA.2.1 g hg
  have hnx := (hA.2.2.1 (q 4 g) hr).2
  have v := (nI_vp (a := g) (n := 12) (by omega)).mpr (by omega)
  obtain ⟨_, _, _, _, e4, e5⟩ := hM.2.1 g hg
  unfold sp at h
  unfold wp_M_pinAt
  rw [nI_clamp (by omega), e4, e5, h2]
  have x1 : 2 * (24 * (nI T + 1) + nI (q 5 g) + nI i) + 1 = nI (2 * (24 * (T + 1) + (q 5 g + i)) + 1) := by
    rw [i_1, nI_ad, i_24, nI_mul, nI_ad, nI_ad, i_2, nI_mul, nI_ad]
    congr 1; omega
  have x0 : 2 * (24 * 0 + nI (q 5 g) + nI i) + 1 = nI (2 * (24 * 0 + (q 5 g + i)) + 1) := by
    rw [i_1, i_24, i_0, nI_mul, nI_ad, nI_ad, i_2, nI_mul, nI_ad]
    congr 1; omega
  rw [x1, x0, i_0, nI_eq_iff (by omega) (by omega), nI_clamp (by omega), nI_clamp (by omega)]
  refine ⟨v, fun z => ⟨v, (nI_vp (by omega)).mpr (by omega), ?_⟩, fun z => ⟨v, (nI_vp (by omega)).mpr (by omega), ?_⟩⟩
  · rw [if_neg z] at h
    rw [(hL _ (by omega)).1]; exact h
  · rw [if_pos z] at h
    rw [(hL _ (by omega)).1]; exact h
end JND
theorem RInv.DC {n : Nat} {q : AQ} {T : Nat} {tr : Nat → Nat} {dw : Nat → Nat → Nat} {I : MI} {F : MF} {J : MI} {P : MF} (h : RInv n q T tr dw I F J P) : DC dw F := fun l hl c hc => ⟨(h.2.2.2.2.2 l hl c hc).1, (h.2.2.2.2.2 l hl c hc).2.2⟩
theorem RInv.DM {n : Nat} {q : AQ} {T : Nat} {tr : Nat → Nat} {dw : Nat → Nat → Nat} {I : MI} {F : MF} {J : MI} {P : MF} (h : RInv n q T tr dw I F J P) : DM dw P := fun l hl c hc => ⟨(h.2.2.2.2.2 l hl c hc).2.1, (h.2.2.2.2.2 l hl c hc).2.2⟩
theorem g_joined {I : MI} {F : MF} {G : MG} {J : MI} {P : MF} {N : MG} (h : Sm I F G J P N) (a1 a2 a3 a4 : Int32) (v : Int64) : st_joined Sm a1 a2 a3 a4 v I F G J P N := by
  obtain ⟨n, q, nx, hA, hC, hM, hT, hR⟩ := id h
  have hn := hA.1
  unfold st_joined wq_joined wp_F_joined wp_F_needRouted
  rcases hR with hU | ⟨T, tr, dw, hR⟩
  · rw [hU.1]
    refine ⟨fun c => absurd rfl c, fun _ => Or.inl ⟨rfl, ?_⟩⟩
    unfold wp_M_joined
    rw [hU.2]
    refine ⟨fun c => absurd rfl c, fun _ J1 j1 => ⟨fun c => absurd c (by rw [j1]; exact (show ¬ (1 : Int32) ≤ 0 by decide)), fun _ => ?_⟩⟩
    rw [j1]
    exact ⟨rfl, fun z => absurd z (by decide), Sm_thr 1 h⟩
  · have hT9 := hR.2.1
    have hi2 := hR.2.2.1
    have hj2 := hR.2.2.2.1
    rw [hR.1]
    refine ⟨fun _ => ?_, fun c => absurd c (by decide)⟩
    have ref : ∀ J1, J1 = setI J 0 2 → ((J1 0 ≤ 0 → wp_M_find J1 P N (fun I_6 F_6 G_6 => wp_M_pinAt a1 a2 I_6 F_6 G_6 (fun r_7 => wp_M_pinAt a3 a4 I_6 F_6 G_6 (fun r_8 => ((¬ r_7 = r_8 → wp_M_thrown I_6 F_6 G_6 (fun th => th = 2 ∧ ((2 : Int32) = 0 → v = if (0 : Int32) = 0 then 0 else 1) ∧ Sm I F G I_6 F_6 G_6)) ∧ (r_7 = r_8 → wp_M_thrown I_6 F_6 G_6 (fun th => th = 2 ∧ ((2 : Int32) = 0 → v = if (1 : Int32) = 0 then 0 else 1) ∧ Sm I F G I_6 F_6 G_6))))))) ∧ (¬ J1 0 ≤ 0 → wp_M_thrown J1 P N (fun th => th = 2 ∧ ((2 : Int32) = 0 → v = if (0 : Int32) = 0 then 0 else 1) ∧ Sm I F G J1 P N))) := by
      intro J1 j1
      refine ⟨fun c => absurd c (by rw [j1]; exact (show ¬ (2 : Int32) ≤ 0 by decide)), fun _ => ?_⟩
      rw [j1]
      exact ⟨rfl, fun z => absurd z (by decide), Sm_thr 2 h⟩
    refine s_hasPin hA hC (br' (fun e => ?_) (fun e => Or.inr ⟨rfl, ?_⟩))
    · refine s_hasPin hA hC (br' (fun e' => ?_) (fun e' => Or.inr ⟨rfl, ?_⟩))
      · obtain ⟨g, i, hg, hi, e1, e2⟩ := pinB_ex hA e
        obtain ⟨g', i', hg', hi', e1', e2'⟩ := pinB_ex hA e'
        refine s_findGroups hT9 hi2 hR.DC (fun F1 ρ b1 b2 b3 => ?_)
        have hC1 := hC.ofF (F' := F1) (fun k hk => b1 k (by omega))
        rw [e1, e2, e1', e2']
        refine s_groupOfPin hA hC1 hT9 hi2 hg hi b2 (fun F2 c1 c2 => ?_)
        refine s_groupOfPin hA (hC1.ofF (fun k hk => c1 k (by omega))) hT9 hi2 hg' hi' c2 (fun F3 d1 d2 => ?_)
        have s1 : sp T (q 4 g) (q 5 g + i) < 48 * (T + 2) := sp_lt (by have := hA.2.1 g hg; have := (hA.2.2.1 (q 4 g) this.2.2.2.2.2.1).2; omega)
        have s2 : sp T (q 4 g') (q 5 g' + i') < 48 * (T + 2) := sp_lt (by have := hA.2.1 g' hg'; have := (hA.2.2.1 (q 4 g') this.2.2.2.2.2.1).2; omega)
        have k1 : ρ (sp T (q 4 g) (q 5 g + i)) < 2 ^ 31 := by obtain ⟨f, hf⟩ := b2; have := (hf _ (show sp T (q 4 g) (q 5 g + i) < 528 by omega)).2.2.2.2.1; omega
        have k2 : ρ (sp T (q 4 g') (q 5 g' + i')) < 2 ^ 31 := by obtain ⟨f, hf⟩ := b2; have := (hf _ (show sp T (q 4 g') (q 5 g' + i') < 528 by omega)).2.2.2.2.1; omega
        rw [nI_eq_iff k1 k2]
        have hF3 : ∀ k, k ≠ 11 → F3 k = F k := fun k hk => (d1 k hk).trans ((c1 k hk).trans (b1 k hk))
        have md : ∀ (x : Int64), ((ρ (sp T (q 4 g) (q 5 g + i)) = ρ (sp T (q 4 g') (q 5 g' + i')) → x = 1) ∧ (¬ ρ (sp T (q 4 g) (q 5 g + i)) = ρ (sp T (q 4 g') (q 5 g' + i')) → x = 0)) → wp_M_joined (nI g) (nI i) (nI g') (nI i') J P N (fun b J1 P1 N1 => wp_M_thrown J1 P1 N1 (fun th => th = 0 ∧ ((0 : Int32) = 0 → x = if b = 0 then 0 else 1) ∧ Sm I F3 G J1 P1 N1)) := by
          intro x hx
          unfold wp_M_joined
          rw [hj2, i_m1, nI_nM (by omega)]
          rw [e1, e2] at e
          rw [e1', e2'] at e'
          refine ⟨fun _ => t_isPin hA hM (br (fun y => absurd (e.symm.trans y) (by decide)) (fun _ => t_isPin hA hM (br' (fun _ J1 j1 => ⟨fun _ => ?_, fun c => absurd (by rw [j1]; exact (show (0 : Int32) ≤ 0 by decide)) c⟩) (fun y => absurd (e'.symm.trans y) (by decide))))), fun c => absurd c id⟩
          have hM1 : MInv n q nx J1 P := hM.ofP (by rw [j1]; rfl) (fun _ _ => rfl)
          have j12 : J1 2 = nI T := by rw [j1]; exact hj2
          refine t_find hT9 j12 hR.DM (fun P1 m x1 x2 x3 => ?_)
          have hM2 := hM1.ofP (J' := J1) (P' := P1) rfl (fun k hk => x1 k (by omega))
          refine t_pinAt hA hM2 hT9 j12 hg hi x2 (t_pinAt hA hM2 hT9 j12 hg' hi' x2 ?_)
          have l1 := (x2 _ s1).2.1
          have l2 := (x2 _ s2).2.1
          rw [nI_eq_iff (by omega) (by omega), Gd_iff x3 s1 s2, ← Gd_iff b3 (show _ < 528 by omega) (show _ < 528 by omega)]
          have sm : Sm I F3 G J1 P1 N := Sm_frame h (fun _ _ => rfl) (fun k hk => hF3 k (by omega)) rfl (fun k hk => by rw [j1]; simp only [setI_c]; rw [if_neg hk]) (fun k hk => x1 k (by omega)) rfl
          have j0 : J1 0 = 0 := by rw [j1]; rfl
          exact ⟨fun c => ⟨j0, fun _ => hx.2 c, sm⟩, fun c => ⟨j0, fun _ => hx.1 c, sm⟩⟩
        exact ⟨fun c => md _ ⟨fun y => absurd y c, fun _ => rfl⟩, fun c => md _ ⟨fun _ => rfl, fun y => absurd c y⟩⟩
      · unfold wp_M_joined
        rw [hj2, i_m1, nI_nM (by omega)]
        exact ⟨fun _ => t_isPin hA hM (br (fun y => absurd (e.symm.trans y) (by decide)) (fun _ => t_isPin hA hM (br' (fun y => absurd (e'.symm.trans y) (by decide)) (fun _ => ref)))), fun c => absurd c id⟩
    · unfold wp_M_joined
      rw [hj2, i_m1, nI_nM (by omega)]
      exact ⟨fun _ => t_isPin hA hM (br (fun _ => ref) (fun y => absurd (e.symm.trans y) (by decide))), fun c => absurd c id⟩
