/-! net, mask, damage, time, delay -/
section OPS
variable {n : Nat} {q : AQ} {nx : Nat → Nat} {I : MI} {F : MF} {G : MG} {J : MI} {P : MF} {N : MG} {a1 a2 a3 : Int32}
theorem rf_i {post : Int32 → MI → MF → MG → Prop} {x : Int32} (h : post 0 (setI J 0 x) P N) : wp_M_refuse x J P N (fun r I F G => post r I F G) := by
  unfold wp_M_refuse
  intro I1 e
  rw [e]; exact h
theorem rf_d {post : UInt64 → MI → MF → MG → Prop} {x : Int32} (h : post (FP.i2d 0) (setI J 0 x) P N) : wp_M_refuse x J P N (fun r I F G => post (FP.i2d r) I F G) := by
  unfold wp_M_refuse
  intro I1 e
  rw [e]; exact h
/-- a routing, as the class and the reference have it; none: nothing is routed -/
def oC (n : Nat) (q : AQ) (o : Option (Nat × (Nat → Nat))) (I : MI) (F : MF) : Prop := (o = none ∧ I 0 = nI 0) ∨ ∃ T tr, o = some (T, tr) ∧ I 0 = nI 1 ∧ RC n q T tr I F
def oM (n : Nat) (q : AQ) (o : Option (Nat × (Nat → Nat))) (J : MI) (P : MF) : Prop := (o = none ∧ J 2 = nM) ∨ ∃ T tr, o = some (T, tr) ∧ RM n q T tr J P
theorem oM.thr {o : Option (Nat × (Nat → Nat))} (h : oM n q o J P) (x : Int32) : oM n q o (setI J 0 x) P := by
  rcases h with ⟨h1, h2⟩ | ⟨T, tr, h1, h2⟩
  · exact Or.inl ⟨h1, h2⟩
  · exact Or.inr ⟨T, tr, h1, h2.1, h2.2.1, h2.2.2⟩
theorem o_of (hR : UInv I J ∨ ∃ (T : Nat) (tr : Nat → Nat) (dw : Nat → Nat → Nat), RInv n q T tr dw I F J P) : ∃ o, oC n q o I F ∧ oM n q o J P := by
  rcases hR with hU | ⟨T, tr, dw, hR⟩
  · exact ⟨none, Or.inl ⟨rfl, hU.1⟩, Or.inl ⟨rfl, hU.2⟩⟩
  · exact ⟨some (T, tr), Or.inr ⟨T, tr, rfl, hR.1, hR.C⟩, Or.inr ⟨T, tr, rfl, hR.M⟩⟩
def netv (n : Nat) (q : AQ) (o : Option (Nat × (Nat → Nat))) (m k : Nat) : Int32 := match k with
  | 0 => nI (pnn n q m)
  | 1 => oI (dvn n q m)
  | 2 => bI (padn n q m)
  | 3 => if wirn n q m then nI (len n q m) else nM
  | 4 => if wirn n q m then nI (rgn n q m) else nM
  | 5 => (match o with | none => nI 0 | some (_, tr) => nI (tr m))
  | _ => (match o with | none => nI 0 | some (T, tr) => nI (lnn n q T tr m))
theorem s_net (hA : AInv n q nx) (hC : CInv n q nx I F) {o : Option (Nat × (Nat → Nat))} (hO : oC n q o I F) {post : Int32 → MI → MF → MG → Prop} {thr : String → MI → MF → MG → Prop}
    (h1 : (∀ m k, m < 12 → k < 7 → a1 = nI m → a2 ≠ nI k) → thr "java/lang/IllegalArgumentException" I F G) (h2 : ∀ m k, m < 12 → k < 7 → a1 = nI m → a2 = nI k → post (netv n q o m k) I F G) : wp_F_net a1 a2 I F G post thr := by
  unfold wp_F_net wp_F_needNet
  refine s_within (b := 12) (by omega) (br' (fun e => ?_) (fun e => h1 (fun m k hm _ e1 => ?_)))
  · obtain ⟨m, hm, rfl⟩ := wiB_ex e (by omega)
    have vm := (nI_vp (a := m) (n := 12) (by omega)).mpr hm
    have e9 := hC.2.2.2.2.2.2.2 m hm
    have go : ∀ k, k < 7 → a2 = nI k → post (netv n q o m k) I F G := fun k hk e2 => h2 m k hm hk rfl e2
    refine ⟨fun c0 => s_pins hA hC hm (go 0 (by omega) c0), fun c0 => ⟨fun c1 => ⟨vm, by rw [nI_clamp (by omega), e9]; exact go 1 (by omega) c1⟩, fun c1 => ⟨fun c2 => s_hasPad hA hC hm ?_, fun c2 => ⟨fun c3 => s_leftEnd hA hC hm (go 3 (by omega) c3), fun c3 => ⟨fun c4 => s_rightEnd hA hC hm (go 4 (by omega) c4), fun c4 => ⟨fun c5 => ?_, fun c5 => ⟨fun c6 => ?_, fun c6 => h1 (fun m' k hm' hk e1 e2 => ?_)⟩⟩⟩⟩⟩⟩⟩
    · have g2 : post (bI (padn n q m)) I F G := go 2 (by omega) c2
      refine br (fun z => ?_) (fun z => ?_)
      · rw [z] at g2; exact g2
      · rw [z] at g2; exact g2
    · have g5 := go 5 (by omega) c5
      rcases hO with ⟨rfl, hU⟩ | ⟨T, tr, rfl, hI, hR⟩
      · rw [hU]; exact ⟨fun _ => g5, fun z => absurd rfl z⟩
      · rw [hI]
        refine ⟨fun z => absurd z (by decide), fun _ => ⟨vm, ?_⟩⟩
        rw [nI_clamp (by omega), (hR.2.2 m hm).1]; exact g5
    · have g6 := go 6 (by omega) c6
      rcases hO with ⟨rfl, hU⟩ | ⟨T, tr, rfl, hI, hR⟩
      · rw [hU]; exact ⟨fun _ => g6, fun z => absurd rfl z⟩
      · rw [hI]
        exact ⟨fun z => absurd z (by decide), fun _ => s_wireLength hA hC hR hm g6⟩
    · rcases (show k = 0 ∨ k = 1 ∨ k = 2 ∨ k = 3 ∨ k = 4 ∨ k = 5 ∨ k = 6 by omega) with rfl | rfl | rfl | rfl | rfl | rfl | rfl
      · exact c0 e2
      · exact c1 e2
      · exact c2 e2
      · exact c3 e2
      · exact c4 e2
      · exact c5 e2
      · exact c6 e2
  · rw [e1, wiB_nI (by omega), decide_eq_false_iff_not] at e; exact absurd hm e
theorem t_net (hA : AInv n q nx) (hM : MInv n q nx J P) {o : Option (Nat × (Nat → Nat))} (hO : oM n q o J P) {post : Int32 → MI → MF → MG → Prop}
    (h1 : (∀ m k, m < 12 → k < 7 → a1 = nI m → a2 ≠ nI k) → post 0 (setI J 0 1) P N) (h2 : ∀ m k, m < 12 → k < 7 → a1 = nI m → a2 = nI k → post (netv n q o m k) (setI J 0 0) P N) : wp_M_net a1 a2 J P N post := by
  have hM0 : MInv n q nx (setI J 0 0) P := ⟨hM.1, hM.2⟩
  have hO0 := hO.thr 0
  unfold wp_M_net
  refine s_in (b := 11) (by omega) (br (fun e => rf_i (h1 (fun m k hm _ e1 => ?_))) (fun e => s_in (b := 6) (by omega) (br' (fun e2 J7 j7 => ?_) (fun e2 => rf_i (h1 (fun m k _ hk _ e3 => ?_))))))
  · rw [e1, wiB_nI (by omega), decide_eq_false_iff_not] at e; exact absurd hm e
  · subst j7
    obtain ⟨m, hm, rfl⟩ := wiB_ex e (by omega)
    obtain ⟨k, hk, rfl⟩ := wiB_ex e2 (by omega)
    have vm := (nI_vp (a := m) (n := 12) (by omega)).mpr hm
    have go := h2 m k hm hk rfl rfl
    rcases (show k = 0 ∨ k = 1 ∨ k = 2 ∨ k = 3 ∨ k = 4 ∨ k = 5 ∨ k = 6 by omega) with rfl | rfl | rfl | rfl | rfl | rfl | rfl
    · exact ⟨fun _ => t_pins hA hM0 hm go, fun z => absurd rfl z⟩
    · exact ⟨fun z => absurd z (by decide), fun _ => ⟨fun _ => t_driver hA hM0 hm go, fun z => absurd rfl z⟩⟩
    · refine ⟨fun z => absurd z (by decide), fun _ => ⟨fun z => absurd z (by decide), fun _ => ⟨fun _ => t_hasPad hA hM0 hm ?_, fun z => absurd rfl z⟩⟩⟩
      have g2 : post (bI (padn n q m)) (setI J 0 0) P N := go
      refine br (fun z => ?_) (fun z => ?_)
      · rw [z] at g2; exact g2
      · rw [z] at g2; exact g2
    · refine ⟨fun z => absurd z (by decide), fun _ => ⟨fun z => absurd z (by decide), fun _ => ⟨fun z => absurd z (by decide), fun _ => ⟨fun _ => t_isWired hA hM0 hm ?_, fun z => absurd rfl z⟩⟩⟩⟩
      have g2 : post (if wirn n q m then nI (len n q m) else nM) (setI J 0 0) P N := go
      refine br (fun z => ?_) (fun z => t_left hA hM0 hm ?_)
      · rw [if_neg (by rw [z]; decide)] at g2; exact g2
      · rw [if_pos z] at g2; exact g2
    · refine ⟨fun z => absurd z (by decide), fun _ => ⟨fun z => absurd z (by decide), fun _ => ⟨fun z => absurd z (by decide), fun _ => ⟨fun z => absurd z (by decide), fun _ => ⟨fun _ => t_isWired hA hM0 hm ?_, fun z => absurd rfl z⟩⟩⟩⟩⟩
      have g2 : post (if wirn n q m then nI (rgn n q m) else nM) (setI J 0 0) P N := go
      refine br (fun z => ?_) (fun z => t_right hA hM0 hm ?_)
      · rw [if_neg (by rw [z]; decide)] at g2; exact g2
      · rw [if_pos z] at g2; exact g2
    · refine ⟨fun z => absurd z (by decide), fun _ => ⟨fun z => absurd z (by decide), fun _ => ⟨fun z => absurd z (by decide), fun _ => ⟨fun z => absurd z (by decide), fun _ => ⟨fun z => absurd z (by decide), fun _ => ⟨fun _ => ?_, fun z => absurd rfl z⟩⟩⟩⟩⟩⟩
      rcases hO0 with ⟨rfl, hU⟩ | ⟨T, tr, rfl, hR⟩
      · rw [hU]; exact ⟨fun z => absurd rfl z, fun _ => go⟩
      · have hT := hR.1
        rw [hR.2.1, i_m1, nI_nM (by omega)]
        refine ⟨fun _ => ⟨vm, ?_⟩, fun z => absurd z id⟩
        rw [nI_clamp (by omega), (hR.2.2 m hm).1]; exact go
    · refine ⟨fun z => absurd z (by decide), fun _ => ⟨fun z => absurd z (by decide), fun _ => ⟨fun z => absurd z (by decide), fun _ => ⟨fun z => absurd z (by decide), fun _ => ⟨fun z => absurd z (by decide), fun _ => ⟨fun z => absurd z (by decide), fun _ => ?_⟩⟩⟩⟩⟩⟩
      rcases hO0 with ⟨rfl, hU⟩ | ⟨T, tr, rfl, hR⟩
      · unfold wp_M_lengthOf
        rw [hU]; exact ⟨fun z => absurd rfl z, fun _ => go⟩
      · exact t_lengthOf hA hM0 hR hm go
  · rw [e3, wiB_nI (by omega), decide_eq_false_iff_not] at e2; exact absurd hk e2
theorem g_net (h : Sm I F G J P N) (v : Int64) : st_net Sm a1 a2 v I F G J P N := by
  obtain ⟨n, q, nx, hA, hC, hM, hT, hR⟩ := id h
  obtain ⟨o, hOc, hOm⟩ := o_of hR
  unfold st_net wq_net
  refine s_net hA hC hOc (fun hb => ⟨rfl, t_net hA hM hOm (fun _ => ⟨rfl, fun z => absurd z (by decide), Sm_thr 1 h⟩) (fun m k hm hk e1 e2 => absurd e2 (hb m k hm hk e1))⟩)
    (fun m k hm hk e1 e2 => t_net hA hM hOm (fun hb => absurd e2 (hb m k hm hk e1)) (fun m' k' hm' hk' e1' e2' => ⟨rfl, fun _ => ?_, Sm_thr 0 h⟩))
  have x1 : m' = m := (nI_eq_iff (by omega) (by omega)).mp (e1'.symm.trans e1)
  have x2 : k' = k := (nI_eq_iff (by omega) (by omega)).mp (e2'.symm.trans e2)
  rw [x1, x2]
/-! points -/
theorem s_needPoint {T : Nat} {tr : Nat → Nat} {dw : Nat → Nat → Nat} (hR : RInv n q T tr dw I F J P) {post : MI → MF → MG → Prop} {thr : String → MI → MF → MG → Prop}
    (h1 : (∀ l c, l < T + 2 → c < 24 → a1 = nI l → a2 ≠ nI c) → thr "java/lang/IndexOutOfBoundsException" I F G) (h2 : ∀ l c, l < T + 2 → c < 24 → a1 = nI l → a2 = nI c → post I F G) : wp_F_needPoint a1 a2 I F G post thr := by
  obtain ⟨r0, rT, r2, _⟩ := hR
  unfold wp_F_needPoint wp_F_needRouted wp_C_lines
  rw [r0]
  refine ⟨fun _ => ?_, fun z => absurd z (by decide)⟩
  show wp_F_within a1 (I 2 + 2) _
  rw [r2, i_2, nI_ad]
  refine s_within (by omega) (br (fun e => h1 (fun l c hl _ e1 => ?_)) (fun e => s_within (b := 24) (by omega) (br' (fun e2 => ?_) (fun e2 => h1 (fun l c _ hc _ e3 => ?_)))))
  · rw [e1, wiB_nI (by omega), decide_eq_false_iff_not] at e; exact absurd hl e
  · obtain ⟨l, hl, e1⟩ := wiB_ex e (by omega)
    obtain ⟨c, hc, e3⟩ := wiB_ex e2 (by omega)
    exact h2 l c hl hc e1 e3
  · rw [e3, wiB_nI (by omega), decide_eq_false_iff_not] at e2; exact absurd hc e2
theorem s_needPoint0 (hU : I 0 = nI 0) {post : MI → MF → MG → Prop} {thr : String → MI → MF → MG → Prop} (h : thr "java/lang/IllegalStateException" I F G) : wp_F_needPoint a1 a2 I F G post thr := by
  unfold wp_F_needPoint wp_F_needRouted
  rw [hU]
  exact ⟨fun z => absurd rfl z, fun _ => h⟩
theorem t_isPoint {T : Nat} (hT : T ≤ 9) (h2 : J 2 = nI T) {post : Int32 → Prop} (h : post (bI (wiB a1 (T + 2) && wiB a2 24))) : wp_M_isPoint a1 a2 J P N post := by
  unfold wp_M_isPoint
  rw [h2, i_1, nI_ad]
  refine s_in (b := T + 1) (by omega) (br (fun e => ?_) (fun e => s_in (b := 23) (by omega) (br (fun e2 => ?_) (fun e2 => ?_))))
  · rw [show T + 1 + 1 = T + 2 by omega] at e; rw [e, Bool.false_and] at h; exact h
  · rw [show T + 1 + 1 = T + 2 by omega] at e; rw [e, show wiB a2 24 = false from e2] at h; exact h
  · rw [show T + 1 + 1 = T + 2 by omega] at e; rw [e, show wiB a2 24 = true from e2] at h; exact h
theorem pt_ex {T : Nat} (hT : T ≤ 9) (h : (wiB a1 (T + 2) && wiB a2 24) = true) : ∃ l c, l < T + 2 ∧ c < 24 ∧ a1 = nI l ∧ a2 = nI c := by
  simp only [Bool.and_eq_true] at h
  obtain ⟨l, hl, e1⟩ := wiB_ex h.1 (by omega)
  obtain ⟨c, hc, e2⟩ := wiB_ex h.2 (by omega)
  exact ⟨l, c, hl, hc, e1, e2⟩
theorem pt_no {T : Nat} (hT : T ≤ 9) (h : (wiB a1 (T + 2) && wiB a2 24) = false) : ∀ l c, l < T + 2 → c < 24 → a1 = nI l → a2 ≠ nI c := by
  intro l c hl hc e1 e2
  rw [e1, e2, wiB_nI (by omega), wiB_nI (by omega), decide_eq_true hl, decide_eq_true hc] at h
  cases h
theorem pt_ix {l c : Nat} : (24 * nI l + nI c : Int32) = nI (24 * l + c) := by rw [i_24, nI_mul, nI_ad]
theorem g_mask (h : Sm I F G J P N) (v : Int64) : st_mask Sm a1 a2 v I F G J P N := by
  obtain ⟨n, q, nx, hA, hC, hM, hT, hU | ⟨T, tr, dw, hR⟩⟩ := id h
  · unfold st_mask wq_mask wp_F_mask
    refine s_needPoint0 hU.1 (Or.inl ⟨rfl, ?_⟩)
    unfold wp_M_mask
    rw [hU.2]
    exact ⟨fun z => absurd rfl z, fun _ => rf_i ⟨rfl, fun z => absurd z (by decide), Sm_thr 1 h⟩⟩
  · have rT := hR.2.1
    have j2 := hR.2.2.2.1
    unfold st_mask wq_mask wp_F_mask
    refine s_needPoint hR (fun hb => Or.inr ⟨rfl, ?_⟩) (fun l c hl hc e1 e2 => ⟨?_, ?_, ?_⟩)
    · unfold wp_M_mask
      rw [j2, i_m1, nI_nM (by omega)]
      refine ⟨fun _ => t_isPoint rT j2 (br' (fun e => ?_) (fun _ => rf_i ⟨rfl, fun z => absurd z (by decide), Sm_thr 2 h⟩)), fun z => absurd z id⟩
      obtain ⟨l, c, hl, hc, e1, e2⟩ := pt_ex rT e
      exact absurd e2 (hb l c hl hc e1)
    · rw [e1]; exact (nI_vp (by omega)).mpr (by omega)
    · rw [e2]; exact (nI_vp (by omega)).mpr (by omega)
    · unfold wp_M_mask
      rw [j2, i_m1, nI_nM (by omega)]
      refine ⟨fun _ => t_isPoint rT j2 (br' (fun _ J4 j4 => ?_) (fun e => absurd e2 (pt_no rT e l c hl hc e1))), fun z => absurd z id⟩
      subst j4
      obtain ⟨f1, f2, f3⟩ := hR.2.2.2.2.2 l (by omega) c hc
      rw [e1, e2, pt_ix, nI_clamp (by omega), nI_clamp (by omega), nI_clamp (by omega), f1, f2]
      exact ⟨(nI_vp (by omega)).mpr (by omega), rfl, fun _ => rfl, Sm_thr 0 h⟩
theorem g_damage (h : Sm I F G J P N) (v : Int64) : st_damage Sm a1 a2 a3 v I F G J P N := by
  unfold st_damage wq_damage wp_F_damage
  have e7 : wiB a3 8 = true → ∃ k, k < 8 ∧ a3 = nI k := fun z => wiB_ex z (by omega)
  have bad : wiB a3 8 = false → wp_M_damage a1 a2 a3 J P N (fun b J1 P1 N1 => wp_M_thrown J1 P1 N1 (fun th => th = 1 ∧ ((1 : Int32) = 0 → v = b.toInt64) ∧ Sm I F G J1 P1 N1)) := by
    intro z
    unfold wp_M_damage
    exact s_in (b := 7) (by omega) (br' (fun y => absurd (z.symm.trans y) (by decide)) (fun _ => rf_i ⟨rfl, fun z => absurd z (by decide), Sm_thr 1 h⟩))
  refine ⟨fun c => Or.inl ⟨rfl, bad ?_⟩, fun c => ⟨fun c2 => ?_, fun c2 => Or.inl ⟨rfl, bad ?_⟩⟩⟩
  · rw [Int32.lt_iff_toInt_lt, Int32.toInt_zero] at c
    simp only [wiB, decide_eq_false_iff_not]; omega
  · have ok : wiB a3 8 = true := by
      rw [Int32.lt_iff_toInt_lt, Int32.toInt_zero] at c
      rw [i_7, Int32.le_iff_toInt_le, nI_toInt (by omega)] at c2
      simp only [wiB, decide_eq_true_eq]; omega
    obtain ⟨k, hk, rfl⟩ := e7 ok
    obtain ⟨n, q, nx, hA, hC, hM, hT, hU | ⟨T, tr, dw, hR⟩⟩ := id h
    · refine s_needPoint0 hU.1 (Or.inr (Or.inl ⟨rfl, ?_⟩))
      unfold wp_M_damage
      refine s_in (b := 7) (by omega) (br' (fun _ => ?_) (fun y => absurd (ok.symm.trans y) (by decide)))
      rw [hU.2]
      exact ⟨fun z => absurd rfl z, fun _ => rf_i ⟨rfl, fun z => absurd z (by decide), Sm_thr 2 h⟩⟩
    · have rT := hR.2.1
      have j2 := hR.2.2.2.1
      refine s_needPoint hR (fun hb => Or.inr (Or.inr ⟨rfl, ?_⟩)) (fun l c hl hc e1 e2 => ?_)
      · unfold wp_M_damage
        refine s_in (b := 7) (by omega) (br' (fun _ => ?_) (fun y => absurd (ok.symm.trans y) (by decide)))
        rw [j2, i_m1, nI_nM (by omega)]
        refine ⟨fun _ => t_isPoint rT j2 (br' (fun e => ?_) (fun _ => rf_i ⟨rfl, fun z => absurd z (by decide), Sm_thr 3 h⟩)), fun z => absurd z id⟩
        obtain ⟨l, c, hl, hc, e1, e2⟩ := pt_ex rT e
        exact absurd e2 (hb l c hl hc e1)
      · subst e1; subst e2
        have vl := (nI_vp (a := l) (n := 11) (by omega)).mpr (by omega)
        have vc := (nI_vp (a := c) (n := 24) (by omega)).mpr (by omega)
        refine ⟨vl, vc, fun x6 hx6 => ⟨vl, vc, fun F9 g9 => ?_⟩⟩
        unfold wp_M_damage
        refine s_in (b := 7) (by omega) (br' (fun _ => ?_) (fun y => absurd (ok.symm.trans y) (by decide)))
        rw [j2, i_m1, nI_nM (by omega)]
        refine ⟨fun _ => t_isPoint rT j2 (br' (fun _ J6 j6 => ?_) (fun e => absurd rfl (pt_no rT e l c hl hc rfl))), fun z => absurd z id⟩
        subst j6
        obtain ⟨f1, f2, f3⟩ := hR.2.2.2.2.2 l (by omega) c hc
        rw [pt_ix, nI_clamp (by omega)]
        rw [nI_clamp (by omega), nI_clamp (by omega)] at hx6 g9
        have vp := (nI_vp (a := 24 * l + c) (n := 264) (by omega)).mpr (by omega)
        refine ⟨vp, fun x8 hx8 => ⟨vp, fun P10 p10 => ⟨rfl, fun _ => by rw [hx6, hx8, f1, f2], n, q, nx, hA, ?_, ?_, hT, Or.inr ⟨T, tr, fun l' c' => if l' = l ∧ c' = c then k else dw l' c', hR.1, rT, hR.2.2.1, j2, fun m hm => ?_, fun l' hl' c' hc' => ?_⟩⟩⟩⟩
        · have e : ∀ j, j < 19 → F9 j = F j := fun j hj => by rw [g9]; simp only [setF_c]; rw [if_neg (by omega)]
          refine ⟨hC.1, fun f hf g hg => by rw [e f (by omega)]; exact hC.2.1 f hf g hg, fun r hr => by rw [e 6 (by omega)]; exact hC.2.2.1 r hr, fun r hr c' hc' => by rw [e _ (by omega)]; exact hC.2.2.2.1 r hr c' hc', fun r hr m hm => by rw [e _ (by omega)]; exact hC.2.2.2.2.1 r hr m hm, fun m hm => by rw [e 7 (by omega)]; exact hC.2.2.2.2.2.1 m hm, fun m hm => by rw [e 8 (by omega)]; exact hC.2.2.2.2.2.2.1 m hm, fun m hm => by rw [e 9 (by omega)]; exact hC.2.2.2.2.2.2.2 m hm⟩
        · refine ⟨hM.1, fun g hg => ?_, fun r hr => ?_⟩
          · rw [p10]; exact hM.2.1 g hg
          · rw [p10]; exact hM.2.2 r hr
        · obtain ⟨m1, m2, m3⟩ := hR.2.2.2.2.1 m hm
          refine ⟨?_, ?_, m3⟩
          · rw [g9]; simp only [setF_c]; rw [if_neg (by omega)]; exact m1
          · rw [p10]; exact m2
        · obtain ⟨d1, d2, d3⟩ := hR.2.2.2.2.2 l' hl' c' hc'
          show F9 (19 + l') c' = nI (if l' = l ∧ c' = c then k else dw l' c') ∧ P10 8 (24 * l' + c') = nI (if l' = l ∧ c' = c then k else dw l' c') ∧ (if l' = l ∧ c' = c then k else dw l' c') < 8
          rw [g9, p10]
          simp only [setF_c, if_true]
          by_cases z : l' = l ∧ c' = c
          · rw [if_pos z, if_pos (by omega), z.1, z.2]
            simp [upd_c, hk]
          · rw [if_neg z]
            refine ⟨?_, ?_, d3⟩
            · by_cases y : l' = l
              · have y2 : ¬ c' = c := fun w => z ⟨y, w⟩
                rw [if_pos (by omega), upd_c, if_neg y2, ← y]; exact d1
              · rw [if_neg (by omega)]; exact d1
            · rw [upd_c, if_neg (by omega)]; exact d2
  · rw [i_7, Int32.le_iff_toInt_le, nI_toInt (by omega)] at c2
    simp only [wiB, decide_eq_false_iff_not]; omega
/-! time, delay -/
theorem g_time (h : Sm I F G J P N) (v : UInt64) : vf_n64 (FP.dmul (FP.i2d a2) 4593671619917905920) ∧ st_time Sm a1 (FP.dmul (FP.i2d a2) 4593671619917905920) v I F G J P N := by
  have hfin : dFin (FP.dmul (FP.i2d a2) 4593671619917905920) := dfin_of (dt_m a2) (by omega)
  refine ⟨hfin.vf, ?_⟩
  generalize FP.dmul (FP.i2d a2) 4593671619917905920 = w at hfin
  obtain ⟨n, q, nx, hA, hC, hM, hT, hR⟩ := id h
  unfold st_time wq_time wp_F_time
  have leI : ∀ x : Int32, ¬ 0 < x ↔ x ≤ 0 := fun x => by rw [Int32.lt_iff_toInt_lt, Int32.le_iff_toInt_le]; omega
  have bad : (wiB a1 4 = false ∨ Op.cmpValue (FP.dcmp w FP.dconst0) .l < 0 ∨ 0 < Op.cmpValue (FP.dcmp w 4636737291354636288) .g) → wp_M_time a1 w J P N (fun b J1 P1 N1 => wp_M_thrown J1 P1 N1 (fun th => th = 1 ∧ ((1 : Int32) = 0 → v = b) ∧ Sm I F G J1 P1 N1)) := by
    intro z
    unfold wp_M_time
    have r1 := rf_d (J := J) (P := P) (N := N) (x := 1) (post := fun b J1 P1 N1 => wp_M_thrown J1 P1 N1 (fun th => th = 1 ∧ ((1 : Int32) = 0 → v = b) ∧ Sm I F G J1 P1 N1)) ⟨rfl, fun z => absurd z (by decide), Sm_thr 1 h⟩
    refine s_in (b := 3) (by omega) (br (fun _ => r1) (fun e => ⟨fun _ => r1, fun c => ⟨fun c2 => ?_, fun _ => r1⟩⟩))
    rcases z with z | z | z
    · exact absurd (z.symm.trans e) (by decide)
    · exact absurd z c
    · exact absurd z ((leI _).mpr c2)
  refine ⟨fun c => s_within (b := 4) (by omega) (br (fun e => ⟨rfl, bad (Or.inl e)⟩) (fun e => ⟨rfl, bad (Or.inr (Or.inl c))⟩)), fun c => ⟨fun c2 => s_within (b := 4) (by omega) (br (fun e => ⟨rfl, bad (Or.inl e)⟩) (fun e => ⟨rfl, bad (Or.inr (Or.inr c2))⟩)), fun c2 => s_within (b := 4) (by omega) (br (fun e => ⟨rfl, bad (Or.inl e)⟩) (fun e => ?_))⟩⟩
  obtain ⟨k, hk, rfl⟩ := wiB_ex e (by omega)
  have vk := (nI_vp (a := k) (n := 4) (by omega)).mpr hk
  refine ⟨vk, fun x13 hx13 => ⟨vk, fun G15 g15 => ?_⟩⟩
  unfold wp_M_time
  refine s_in (b := 3) (by omega) (br (fun z => absurd (e.symm.trans z) (by decide)) (fun _ => ⟨fun z => absurd z c, fun _ => ⟨fun _ J9 j9 => ⟨vk, fun x11 hx11 => ⟨vk, fun N13 n13 => ?_⟩⟩, fun z => absurd ((leI _).mp c2) z⟩⟩))
  subst j9
  rw [nI_clamp (by omega)] at hx13 g15 hx11 n13
  obtain ⟨t1, t2⟩ := hT k hk
  refine ⟨rfl, fun _ => by rw [hx13, hx11, t1], ?_⟩
  obtain ⟨n, q, nx, hA, hC, hM, _, hR⟩ := Sm_thr 0 h
  refine ⟨n, q, nx, hA, hC, hM, fun j hj => ?_, hR⟩
  rw [g15, n13]
  simp only [setG_c, if_true, vfupd_c]
  by_cases z : j = k
  · simp only [z, if_true]; exact ⟨trivial, hfin⟩
  · simp only [z, if_false]; exact hT j hj
theorem rf_sm (x : Int32) (hx : x ≠ 0) (h : Sm I F G J P N) (v : UInt64) : wp_M_refuse x J P N (fun r I1 F1 G1 => wp_M_thrown I1 F1 G1 (fun th => th = x ∧ (x = 0 → v = FP.i2d r) ∧ Sm I F G I1 F1 G1)) := by
  unfold wp_M_refuse
  intro I1 e
  rw [e]
  exact ⟨rfl, fun z => absurd z hx, Sm_thr x h⟩
theorem g_delay (h : Sm I F G J P N) (v : UInt64) : st_delay Sm a1 v I F G J P N := by
  unfold st_delay wq_delay wp_F_delay wp_F_needNet wp_F_needRouted
  refine s_within (b := 12) (by omega) (br' (fun e => ?_) (fun e => Or.inl ⟨rfl, ?_⟩))
  · obtain ⟨m, hm, rfl⟩ := wiB_ex e (by omega)
    obtain ⟨n, q, nx, hA, hC, hM, hT, hU | ⟨T, tr, dw, hR⟩⟩ := id h
    · rw [hU.1]
      refine ⟨fun z => absurd rfl z, fun _ => Or.inr ⟨rfl, ?_⟩⟩
      unfold wp_M_delay
      refine s_in (b := 11) (by omega) (br' (fun _ => ?_) (fun z => absurd (e.symm.trans z) (by decide)))
      rw [hU.2]
      exact ⟨fun z => absurd rfl z, fun _ => rf_sm 2 (by decide) h v⟩
    · have rT := hR.2.1
      have j2 := hR.2.2.2.1
      rw [hR.1]
      refine ⟨fun _ => s_wireDelay hA hC hR.C hm ?_, fun z => absurd z (by decide)⟩
      unfold wp_M_delay
      refine s_in (b := 11) (by omega) (br' (fun _ => ?_) (fun z => absurd (e.symm.trans z) (by decide)))
      rw [j2, i_m1, nI_nM (by omega)]
      refine ⟨fun _ J4 j4 => ?_, fun z => absurd z id⟩
      subst j4
      have hM0 : MInv n q nx (setI J 0 0) P := ⟨hM.1, hM.2⟩
      refine t_delayOf hA hM0 (hR.thr 0).M hm ?_
      exact ⟨rfl, fun _ => rfl, Sm_thr 0 h⟩
  · unfold wp_M_delay
    exact s_in (b := 11) (by omega) (br' (fun z => absurd (e.symm.trans z) (by decide)) (fun _ => rf_sm 1 (by decide) h v))
end OPS
