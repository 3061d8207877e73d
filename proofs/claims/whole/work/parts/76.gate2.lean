/-! gate: both sides, whole -/
/-- the arguments of gate are good -/
def gArg (a1 a2 a3 a4 a5 : Int32) (k a b o r : Nat) : Prop := a1 = nI k ∧ k < 4 ∧ a2 = nI a ∧ a < 12 ∧ a4 = nI o ∧ o < 12 ∧ a5 = nI r ∧ r < 2 ∧ b < 12 ∧ (k < 2 → b = a) ∧ (2 ≤ k → a3 = nI b)
def gBad (a1 a2 a3 a4 a5 : Int32) : Prop := ∀ k a b o r, ¬ gArg a1 a2 a3 a4 a5 k a b o r
abbrev pk (k : Nat) : Nat := if k < 2 then 2 else 3
section GATE
variable {n : Nat} {q : AQ} {nx : Nat → Nat} {a1 a2 a3 a4 a5 : Int32}
theorem bad1 (h : wiB a1 4 = false) : gBad a1 a2 a3 a4 a5 := by
  rintro k a b o r ⟨e, hk, _⟩
  rw [e, wiB_nI (by omega), decide_eq_false_iff_not] at h; exact h hk
theorem bad2 (h : wiB a2 12 = false) : gBad a1 a2 a3 a4 a5 := by
  rintro k a b o r ⟨_, _, e, hk, _⟩
  rw [e, wiB_nI (by omega), decide_eq_false_iff_not] at h; exact h hk
theorem bad4 (h : wiB a4 12 = false) : gBad a1 a2 a3 a4 a5 := by
  rintro k a b o r ⟨_, _, _, _, e, hk, _⟩
  rw [e, wiB_nI (by omega), decide_eq_false_iff_not] at h; exact h hk
theorem bad5 (h : wiB a5 2 = false) : gBad a1 a2 a3 a4 a5 := by
  rintro k a b o r ⟨_, _, _, _, _, _, e, hk, _⟩
  rw [e, wiB_nI (by omega), decide_eq_false_iff_not] at h; exact h hk
theorem bad3 {k : Nat} (e1 : a1 = nI k) (hk1 : k < 4) (hk : ¬ k < 2) (h : wiB a3 12 = false) : gBad a1 a2 a3 a4 a5 := by
  rintro k' a b o r ⟨e, hk', _, _, _, _, _, _, hb, _, e3⟩
  rw [e1, nI_eq_iff (by omega) (by omega)] at e
  rw [e3 (by omega), wiB_nI (by omega), decide_eq_false_iff_not] at h; exact h hb
theorem s_gate {I : MI} {F : MF} {G : MG} (hA : AInv n q nx) (hC : CInv n q nx I F) {post : Int32 → MI → MF → MG → Prop} {thr : String → MI → MF → MG → Prop}
    (h1 : gBad a1 a2 a3 a4 a5 → thr "java/lang/IllegalArgumentException" I F G)
    (h2 : ∀ k a b o r, gArg a1 a2 a3 a4 a5 k a b o r → ¬ ((n < 12 ∧ nx r + pk k ≤ 24) ∧ dvn n q o = none) → thr "java/lang/IllegalStateException" I F G)
    (h3 : ∀ k a b o r, gArg a1 a2 a3 a4 a5 k a b o r → (n < 12 ∧ nx r + pk k ≤ 24) ∧ dvn n q o = none → ∀ I' F', I' 0 = nI 0 → CInv (n + 1) (qAdd n q k a b o r (nx r)) (nxAdd nx r (pk k)) I' F' → post (nI n) I' F' G) : wp_F_gate a1 a2 a3 a4 a5 I F G post thr := by
  unfold wp_F_gate
  refine s_within (b := 4) (by omega) (br (fun e1 => h1 (bad1 e1)) (fun e1 => s_within (b := 12) (by omega) (br (fun e2 => h1 (bad2 e2)) (fun e2 => s_within (b := 12) (by omega) (br (fun e4 => h1 (bad4 e4)) (fun e4 => s_within (b := 2) (by omega) (br' (fun e5 => ?_) (fun e5 => h1 (bad5 e5)))))))))
  obtain ⟨k, hk, rfl⟩ := wiB_ex e1 (by omega)
  obtain ⟨a, ha, rfl⟩ := wiB_ex e2 (by omega)
  obtain ⟨o, ho, rfl⟩ := wiB_ex e4 (by omega)
  obtain ⟨r, hr, rfl⟩ := wiB_ex e5 (by omega)
  have hC0 : CInv n q nx (setI I 0 0) F := ⟨hC.1, hC.2⟩
  have fin : ∀ b, gArg (nI k) (nI a) a3 (nI o) (nI r) k a b o r → ∀ (K : Prop), ((n < 12 ∧ nx r + pk k ≤ 24) ∧ dvn n q o = none → K) → ∀ (T : Prop), (T = thr "java/lang/IllegalStateException" I F G) → wp_N_hasRoom (nI k) (nI r) I F G (fun r_11 => ((r_11 = 0 → T) ∧ (¬ r_11 = 0 → wp_N_isDriven (nI o) I F G (fun r_13 => ((r_13 = 0 → K) ∧ (¬ r_13 = 0 → T)))))) := by
    intro b hg K hK T hT
    subst hT
    refine s_hasRoom hA hC hk hr (br (fun e => h2 k a b o r hg (fun z => ?_)) (fun e => s_isDriven hA hC ho (br (fun e9 => hK ⟨of_decide_eq_true e, ?_⟩) (fun e9 => h2 k a b o r hg (fun z => ?_)))))
    · exact of_decide_eq_false e z.1
    · cases hd : dvn n q o with
      | none => rfl
      | some g => rw [hd] at e9; cases e9
    · rw [z.2] at e9; cases e9
  refine s_hasOne hk (br' (fun c => ?_) (fun c => s_within (b := 12) (by omega) (br' (fun e3 => ?_) (fun e3 => h1 (bad3 rfl hk (of_decide_eq_false c) e3)))))
  · have c2 := of_decide_eq_true c
    have hg : gArg (nI k) (nI a) a3 (nI o) (nI r) k a a o r := ⟨rfl, hk, rfl, ha, rfl, ho, rfl, hr, ha, fun _ => rfl, fun z => by omega⟩
    refine fin a hg _ (fun hroom => ?_) _ rfl
    intro I1 g1
    refine ⟨fun z => ?_, fun _ => ?_⟩
    · rw [c] at z; exact absurd z (by decide)
    · subst g1
      exact s_add hA hC0 hroom.1.1 hk ha ha ho hr hroom.1.2 hroom.2 (fun I' F' e0 hC' => h3 k a a o r hg hroom I' F' (by rw [e0]; rfl) hC')
  · obtain ⟨b, hb, rfl⟩ := wiB_ex e3 (by omega)
    have c2 : ¬ k < 2 := of_decide_eq_false c
    have hg : gArg (nI k) (nI a) (nI b) (nI o) (nI r) k a b o r := ⟨rfl, hk, rfl, ha, rfl, ho, rfl, hr, hb, fun z => absurd z c2, fun _ => rfl⟩
    refine fin b hg _ (fun hroom => ?_) _ rfl
    intro I1 g1
    refine ⟨fun _ => ?_, fun z => ?_⟩
    · subst g1
      exact s_add hA hC0 hroom.1.1 hk ha hb ho hr hroom.1.2 hroom.2 (fun I' F' e0 hC' => h3 k a b o r hg hroom I' F' (by rw [e0]; rfl) hC')
    · rw [c] at z; exact absurd rfl z
theorem t_gate {J : MI} {P : MF} {N : MG} (hA : AInv n q nx) (hM : MInv n q nx J P) {post : Int32 → MI → MF → MG → Prop}
    (h1 : gBad a1 a2 a3 a4 a5 → post 0 (setI J 0 1) P N)
    (h2 : ∀ k a b o r, gArg a1 a2 a3 a4 a5 k a b o r → ¬ ((n < 12 ∧ nx r + pk k ≤ 24) ∧ dvn n q o = none) → post 0 (setI J 0 2) P N)
    (h3 : ∀ k a b o r, gArg a1 a2 a3 a4 a5 k a b o r → (n < 12 ∧ nx r + pk k ≤ 24) ∧ dvn n q o = none → ∀ J' P', J' 0 = nI 0 → J' 2 = nM → MInv (n + 1) (qAdd n q k a b o r (nx r)) (nxAdd nx r (pk k)) J' P' → post (nI n) J' P' N) : wp_M_gate a1 a2 a3 a4 a5 J P N post := by
  have hn := hA.1
  have rf : ∀ (x : Int32), post 0 (setI J 0 x) P N → wp_M_refuse x J P N (fun r I F G => post r I F G) := by
    intro x h
    unfold wp_M_refuse
    intro I1 e
    rw [e]; exact h
  have go : ∀ k a b o r (hk : k < 4) (ha : a < 12) (ho : o < 12) (hr : r < 2), gArg (nI k) (nI a) a3 (nI o) (nI r) k a b o r → a1 = nI k → a2 = nI a → a4 = nI o → a5 = nI r → ∀ (p : Nat), pk k = p → ∀ (K : Prop),
      ((n < 12 ∧ nx r + pk k ≤ 24) ∧ dvn n q o = none → K) →
      ((J 1 = 12 → wp_M_refuse 2 J P N (fun r I F G => post r I F G)) ∧ (¬ J 1 = 12 → vp_in (nI r) 2 ∧ ((nI 24 < P 6 (nI r).toNatClampNeg + nI p → wp_M_refuse 2 J P N (fun r I F G => post r I F G)) ∧ (¬ nI 24 < P 6 (nI r).toNatClampNeg + nI p → wp_M_driver (nI o) J P N (fun r_24 => ((r_24 = (-1) → K) ∧ (¬ r_24 = (-1) → wp_M_refuse 2 J P N (fun r I F G => post r I F G)))))))) := by
    rintro k a b o r hk ha ho hr hg rfl rfl rfl rfl p rfl K hK
    have hx := hA.2.2.1 r hr
    have hp : pk k ≤ 3 := by unfold pk; split <;> omega
    rw [hM.1, nI_clamp (by omega), hM.2.2 r hr, nI_ad, nI_lt_iff (by omega) (by omega), i_12, nI_eq_iff (by omega) (by omega)]
    refine ⟨fun c => rf _ (h2 k a b o r hg (fun z => ?_)), fun c => ⟨(nI_vp (by omega)).mpr hr, fun c2 => rf _ (h2 k a b o r hg (fun z => ?_)), fun c2 => t_driver hA hM ho ?_⟩⟩
    · omega
    · omega
    · rw [i_m1, oI_nM (fun g hg => by have := (dvn_lt hg).1; omega)]
      exact ⟨fun c3 => hK ⟨⟨by omega, by omega⟩, c3⟩, fun c3 => rf _ (h2 k a b o r hg (fun z => c3 z.2))⟩
  have fin : ∀ k a b o r, gArg (nI k) (nI a) a3 (nI o) (nI r) k a b o r → a1 = nI k → a2 = nI a → a4 = nI o → a5 = nI r → (n < 12 ∧ nx r + pk k ≤ 24) ∧ dvn n q o = none →
      ∀ (v2 v7 : Int32) (J1 J2 J3 : MI) (P1 P2 P3 P4 P5 P6 P7 : MF), v2 = (if k < 2 then nM else nI b) → v7 = nI (pk k + 1) → J1 = setI J 0 0 → P1 = setF P 0 (upd (P 0) n (nI k)) → P2 = setF P1 1 (upd (P1 1) n (nI a)) → P3 = setF P2 2 (upd (P2 2) n v2) → P4 = setF P3 3 (upd (P3 3) n (nI o)) → P5 = setF P4 4 (upd (P4 4) n (nI r)) →
        P6 = setF P5 5 (upd (P5 5) n (P5 6 r)) → P7 = setF P6 6 (upd (P6 6) r (P6 6 r + v7)) → J2 = setI J1 1 (J1 1 + 1) → J3 = setI J2 2 (-1) → post (J3 1 - 1) J3 P7 N := by
    rintro k a b o r hg rfl rfl rfl rfl hroom v2 v7 J1 J2 J3 P1 P2 P3 P4 P5 P6 P7 hv2 hv7 g1 p1 p2 p3 p4 p5 p6 p7 g2 g3
    obtain ⟨_, hk, _, ha, _, ho, _, hr, hb, hkb, _⟩ := id hg
    have e1 : J3 1 = nI (n + 1) := by
      rw [g3, g2, g1]
      show J 1 + 1 = nI (n + 1)
      rw [hM.1, i_1, nI_ad]
    have e6 : P5 6 = P 6 := by rw [p5, p4, p3, p2, p1]; simp [setF_c]
    rw [e1, i_1, nI_sub (by omega), Nat.add_sub_cancel]
    refine h3 k a b o r hg hroom J3 P7 (by rw [g3, g2, g1]; simp [setI_c]; rfl) (by rw [g3]; simp [setI_c]; rfl) ⟨e1, fun g hg9 => ?_, fun s hs => ?_⟩
    · rw [p7, p6, e6, p5, p4, p3, p2, p1]
      simp only [setF_c, qAdd]
      by_cases z : g = n
      · subst z
        simp [upd_c, hM.2.2 r hr, hv2]
      · have hg2 : g < n := by omega
        simp [upd_c, z]
        exact hM.2.1 g hg2
    · rw [p7]
      have e7 : P6 6 = P 6 := by rw [p6, ← e6]; simp [setF_c]
      simp only [setF_c, if_true, upd_c, nxAdd, e7]
      by_cases z : s = r
      · subst z
        rw [if_pos rfl, if_pos rfl, hM.2.2 s hs, hv7, nI_ad, Nat.add_assoc]
      · rw [if_neg z, if_neg z]; exact hM.2.2 s hs
  unfold wp_M_gate
  refine s_in (b := 3) (by omega) (br (fun e1 => rf _ (h1 (bad1 e1))) (fun e1 => s_in (b := 11) (by omega) (br (fun e2 => rf _ (h1 (bad2 e2))) (fun e2 => ?_))))
  obtain ⟨k, hk, rfl⟩ := wiB_ex e1 (by omega)
  obtain ⟨a, ha, rfl⟩ := wiB_ex e2 (by omega)
  have k1 : (nI k ≤ 1) = (k < 2) := by rw [i_1, nI_le_iff (by omega) (by omega)]; apply propext; omega
  have k2 : (2 ≤ nI k) = ¬ (k < 2) := by rw [i_2, nI_le_iff (by omega) (by omega)]; apply propext; omega
  rw [k1, k2]
  have vn : n < 12 → vp_in (nI n) 12 := fun h => (nI_vp (by omega)).mpr h
  refine ⟨fun c => s_in (b := 11) (by omega) (br (fun e4 => rf _ (h1 (bad4 e4))) (fun e4 => s_in (b := 1) (by omega) (br' (fun e5 => ⟨fun c2 => absurd c c2, fun _ => ?_⟩) (fun e5 => rf _ (h1 (bad5 e5)))))), fun c => s_in (b := 11) (by omega) (br (fun e3 => rf _ (h1 (bad3 rfl hk c e3))) (fun e3 => s_in (b := 11) (by omega) (br (fun e4 => rf _ (h1 (bad4 e4))) (fun e4 => s_in (b := 1) (by omega) (br' (fun e5 => ⟨fun _ => ?_, fun c2 => absurd c c2⟩) (fun e5 => rf _ (h1 (bad5 e5))))))))⟩
  · obtain ⟨o, ho, rfl⟩ := wiB_ex e4 (by omega)
    obtain ⟨r, hr, rfl⟩ := wiB_ex e5 (by omega)
    have hg : gArg (nI k) (nI a) a3 (nI o) (nI r) k a a o r := ⟨rfl, hk, rfl, ha, rfl, ho, rfl, hr, ha, fun _ => rfl, fun z => by omega⟩
    have hpk : pk k = 2 := if_pos c
    refine go k a a o r hk ha ho hr hg rfl rfl rfl rfl 2 hpk _ (fun hroom => ?_)
    · intro J1 g1
      have j1 : J1 1 = nI n := by rw [g1]; exact hM.1
      rw [j1, nI_clamp (n := n) (by omega), nI_clamp (n := r) (by omega)]
      have v := vn hroom.1.1
      have vr := (nI_vp (a := r) (n := 2) (by omega)).mpr hr
      refine ⟨v, fun P1 p1 => ⟨v, fun P2 p2 => ⟨fun _ => ⟨v, fun P3 p3 => ⟨v, fun P4 p4 => ⟨v, fun P5 p5 => ⟨vr, v, fun P6 p6 => ⟨vr, vr, fun P7 p7 J2 g2 J3 g3 => ?_⟩⟩⟩⟩⟩, fun z => absurd c z⟩⟩⟩
      refine fin k a a o r hg rfl rfl rfl rfl hroom _ _ J1 J2 J3 P1 P2 P3 P4 P5 P6 P7 (by rw [if_pos c]; rfl) (by rw [hpk]; rfl) g1 p1 p2 p3 p4 p5 p6 p7 (by rw [g2, j1]) g3
  · obtain ⟨b, hb, rfl⟩ := wiB_ex e3 (by omega)
    obtain ⟨o, ho, rfl⟩ := wiB_ex e4 (by omega)
    obtain ⟨r, hr, rfl⟩ := wiB_ex e5 (by omega)
    have hg : gArg (nI k) (nI a) (nI b) (nI o) (nI r) k a b o r := ⟨rfl, hk, rfl, ha, rfl, ho, rfl, hr, hb, fun z => absurd z c, fun _ => rfl⟩
    have hpk : pk k = 3 := if_neg c
    refine go k a b o r hk ha ho hr hg rfl rfl rfl rfl 3 hpk _ (fun hroom => ?_)
    · intro J1 g1
      have j1 : J1 1 = nI n := by rw [g1]; exact hM.1
      rw [j1, nI_clamp (n := n) (by omega), nI_clamp (n := r) (by omega)]
      have v := vn hroom.1.1
      have vr := (nI_vp (a := r) (n := 2) (by omega)).mpr hr
      refine ⟨v, fun P1 p1 => ⟨v, fun P2 p2 => ⟨fun z => absurd z c, fun _ => ⟨v, fun P3 p3 => ⟨v, fun P4 p4 => ⟨v, fun P5 p5 => ⟨vr, v, fun P6 p6 => ⟨vr, vr, fun P7 p7 J2 g2 J3 g3 => ?_⟩⟩⟩⟩⟩⟩⟩⟩
      refine fin k a b o r hg rfl rfl rfl rfl hroom _ _ J1 J2 J3 P1 P2 P3 P4 P5 P6 P7 (by rw [if_neg c]) (by rw [hpk]; rfl) g1 p1 p2 p3 p4 p5 p6 p7 (by rw [g2, j1]) g3
end GATE
