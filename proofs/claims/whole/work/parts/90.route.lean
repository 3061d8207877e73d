/-! route: the reference's drawing, and the call -/
section MDR
variable {n : Nat} {q : AQ} {nx : Nat → Nat} {T : Nat} {tr : Nat → Nat} {G : MG} {N : MG}
theorem t_mark {J : MI} {P : MF} {D : DW} (hD : DrM D P) {l c b : Nat} (hl : l < 11) (hc : c < 24) (hb : b < 3) {x : Int32} (hx : x = nI (2 ^ b)) {post : MI → MF → MG → Prop} (h : ∀ P', (∀ k, k ≠ 8 → P' k = P k) → DrM (mk D l c b) P' → post J P' N) : wp_M_mark (nI l) (nI c) x J P N post := by
  unfold wp_M_mark
  rw [i_24, nI_mul, nI_ad, nI_clamp (by omega)]
  have v := (nI_vp (a := 24 * l + c) (n := 264) (by omega)).mpr (by omega)
  exact ⟨v, v, fun P3 p3 => h P3 (fun k hk => by rw [p3]; simp only [setF_c]; rw [if_neg hk]) (hD.set hl hc hb hx p3)⟩
theorem tl_draw1 {J : MI} {post : MI → MF → MG → Prop} {K : Int32 → MI → MF → MG → Prop} : ∀ (d i : Nat) (P : MF), i + d = 264 → (∀ m, m < i → P 8 m = nI 0) → (∀ P', (∀ k, k ≠ 8 → P' k = P k) → (∀ m, m < 264 → P' 8 m = nI 0) → K (nI 264) J P' N) → wl_M_draw_2 post K (d + 1) (nI i) J P N := by
  intro d
  induction d with
  | zero =>
    intro i P hi hS h
    have e : i = 264 := by omega
    subst e
    exact ⟨fun _ => h P (fun _ _ => rfl) hS, fun c => absurd (nI_le (Nat.le_refl 264) (by decide)) c⟩
  | succ d ih =>
    intro i P hi hS h
    unfold wl_M_draw_2
    rw [nI_clamp (by omega)]
    refine ⟨fun c => absurd c (nI_ge (b := 264) (by omega) (by decide)), fun _ => ⟨(nI_vp (by omega)).mpr (by omega), fun P3 p3 x hx => ?_⟩⟩
    rw [hx, ← nI_succ]
    refine ih (i + 1) P3 (by omega) (fun m hm => ?_) (fun P' h1 h2 => h P' (fun k hk => by rw [h1 k hk, p3]; simp only [setF_c]; rw [if_neg hk]) h2)
    rw [p3]
    simp only [setF_c, if_true, upd_c]
    by_cases z : m = i
    · rw [if_pos z]; rfl
    · rw [if_neg z]; exact hS m (by omega)
theorem tl_bar (hA : AInv n q nx) {J : MI} {m t : Nat} (hm : m < 12) (ht : t ≤ 9) {post : MI → MF → MG → Prop} {K : Int32 → MI → MF → MG → Prop} : ∀ (d i : Nat) (D : DW) (P : MF), i + d = rgn n q m → MInv n q nx J P → DrM D P → (∀ P', (∀ k, k ≠ 8 → P' k = P k) → DrM (barD D t i (rgn n q m)) P' → K (nI (rgn n q m)) J P' N) → wl_M_draw_50 post K (nI m) (nI t) (d + 1) (nI i) J P N := by
  have hr := rgn_le hA m
  intro d
  induction d with
  | zero =>
    intro i D P hi hM hD h
    have e : i = rgn n q m := by omega
    subst e
    exact t_right hA hM hm ⟨fun _ => h P (fun _ _ => rfl) (hD.congr (fun l c x => (barD_nil D t _ l c x).symm)), fun c => absurd (nI_le (Nat.le_refl _) (by omega)) c⟩
  | succ d ih =>
    intro i D P hi hM hD h
    refine t_right hA hM hm ⟨fun c => absurd c (nI_ge (by omega) (by omega)), fun _ => t_mark hD (b := 0) (by omega) (by omega) (by omega) (by decide) (fun P1 a1 a2 x hx => ?_)⟩
    rw [hx, ← nI_succ]
    exact ih (i + 1) _ P1 (by omega) (hM.ofP rfl (fun k hk => a1 k (by omega))) a2 (fun P' b1 b2 => h P' (fun k hk => (b1 k hk).trans (a1 k hk)) (b2.congr (barD_step D (by omega))))
theorem tl_draw2 (hA : AInv n q nx) (hK : KT n q T tr) {J : MI} {post : MI → MF → MG → Prop} {K : Int32 → MI → MF → MG → Prop} : ∀ (d i : Nat) (P : MF), i + d = 12 → MInv n q nx J P → (∀ m, m < 12 → P 7 m = nI (tr m)) → DrM (dBar n q tr i) P → (∀ P', (∀ k, k ≠ 8 → P' k = P k) → DrM (dBar n q tr 12) P' → K (nI 12) J P' N) → wl_M_draw_24 post K (d + 1) (nI i) J P N := by
  obtain ⟨k1, k2, k3⟩ := hK
  intro d
  induction d with
  | zero =>
    intro i P hi hM hT hD h
    have e : i = 12 := by omega
    subst e
    exact ⟨fun _ => h P (fun _ _ => rfl) hD, fun c => absurd (nI_le (Nat.le_refl 12) (by decide)) c⟩
  | succ d ih =>
    intro i P hi hM hT hD h
    have hti := k2 i (by omega)
    unfold wl_M_draw_24
    rw [nI_clamp (by omega), hT i (by omega)]
    refine ⟨fun c => absurd c (nI_ge (b := 12) (by omega) (by decide)), fun _ => ⟨(nI_vp (by omega)).mpr (by omega), fun x hx => ?_⟩⟩
    subst hx
    rw [i_0, nI_eq_iff (by omega) (by omega)]
    refine ⟨fun c => t_left hA hM (by omega) ⟨rgn n q i - len n q i + 1, ?_⟩, fun c y hy => ?_⟩
    · have hlr := len_rg (wirn_pos (k3 i (by omega) (by omega)))
      refine tl_bar hA (by omega) (by omega) (rgn n q i - len n q i) (len n q i) _ P (by omega) hM hD (fun P' a1 a2 y hy => ?_)
      rw [hy, ← nI_succ]
      exact ih (i + 1) P' (by omega) (hM.ofP rfl (fun k hk => a1 k (by omega))) (fun m hm => by rw [a1 7 (by omega)]; exact hT m hm) (a2.congr (dBar_1 (by omega))) (fun P2 b1 b2 => h P2 (fun k hk => (b1 k hk).trans (a1 k hk)) b2)
    · rw [hy, ← nI_succ]
      exact ih (i + 1) P (by omega) hM hT (hD.congr (dBar_0 (by omega))) h
theorem tl_col (hA : AInv n q nx) {J : MI} (h2 : J 2 = nI T) (hT : T ≤ 9) {g t c : Nat} (hg : g < n) (htT : t ≤ T) (hc : c < 24) {a2 : Int32} {R : Nat} (hR : R = if q 4 g = 0 then t else T + 1) {post : MI → MF → MG → Prop} {K : Int32 → MI → MF → MG → Prop} : ∀ (d i : Nat) (D : DW) (P : MF), i + d = R → MInv n q nx J P → DrM D P → (∀ P', (∀ k, k ≠ 8 → P' k = P k) → DrM (colD D c i R) P' → K (nI R) J P' N) → wl_M_draw_152 post K (nI g) a2 (nI t) (nI c) (d + 1) (nI i) J P N := by
  have hn := hA.1
  have hr := (hA.2.1 g hg).2.2.2.2.2.1
  have v := (nI_vp (a := g) (n := 12) (by omega)).mpr (by omega)
  have e21 : J 2 + 1 = nI (T + 1) := by rw [h2, i_1, nI_ad]
  have hR9 : R ≤ 10 := by rw [hR]; split <;> omega
  intro d
  induction d with
  | zero =>
    intro i D P hi hM hD h
    have e4 := (hM.2.1 g hg).2.2.2.2.1
    have e : i = R := by omega
    subst e
    have hh := h P (fun _ _ => rfl) (hD.congr (fun l c' x => (colD_nil D c i l c' x).symm))
    unfold wl_M_draw_152
    rw [nI_clamp (by omega), e4, i_0, nI_eq_iff (by omega) (by omega), e21]
    refine ⟨v, fun z => ?_, fun z => ?_⟩
    · rw [if_neg z] at hR
      exact ⟨fun _ => hh, fun y => absurd (nI_le (by omega) (by omega)) y⟩
    · rw [if_pos z] at hR
      exact ⟨fun _ => hh, fun y => absurd (nI_le (by omega) (by omega)) y⟩
  | succ d ih =>
    intro i D P hi hM hD h
    have e4 := (hM.2.1 g hg).2.2.2.2.1
    unfold wl_M_draw_152
    rw [nI_clamp (by omega), e4, i_0, nI_eq_iff (by omega) (by omega), e21]
    have hh : ∀ (P1 : MF), (∀ k, k ≠ 8 → P1 k = P k) → DrM (mk D i c 1) P1 → ∀ (x : Int32), x = nI i + 1 → wl_M_draw_152 post K (nI g) a2 (nI t) (nI c) (d + 1) x J P1 N := by
      intro P1 a1 a2 x hx
      rw [hx, ← nI_succ]
      exact ih (i + 1) _ P1 (by omega) (hM.ofP rfl (fun k hk => a1 k (by omega))) a2 (fun P' b1 b2 => h P' (fun k hk => (b1 k hk).trans (a1 k hk)) (b2.congr (colD_step D (by omega))))
    refine ⟨v, fun z => ?_, fun z => ?_⟩
    · rw [if_neg z] at hR
      exact ⟨fun y => absurd y (nI_ge (by omega) (by omega)), fun _ => t_mark hD (b := 1) (by omega) hc (by omega) (by decide) hh⟩
    · rw [if_pos z] at hR
      exact ⟨fun y => absurd y (nI_ge (by omega) (by omega)), fun _ => t_mark hD (b := 1) (by omega) hc (by omega) (by decide) hh⟩
def aD (D : DW) (tr : Nat → Nat) (T : Nat) (L : List (Nat × Nat × Nat)) : DW := fun l c x => D l c x || L.any (fun p => pmk tr T p l c x)
theorem aD_nil (D : DW) (l c x : Nat) : aD D tr T [] l c x = D l c x := by unfold aD; simp
theorem aD_cons (D : DW) (p : Nat × Nat × Nat) (L : List (Nat × Nat × Nat)) (l c x : Nat) : aD D tr T (p :: L) l c x = aD (fun l c x => D l c x || pmk tr T p l c x) tr T L l c x := by unfold aD; rw [List.any_cons, Bool.or_assoc]
theorem aD_app (D : DW) (L L' : List (Nat × Nat × Nat)) (l c x : Nat) : aD D tr T (L ++ L') l c x = aD (aD D tr T L) tr T L' l c x := by unfold aD; rw [List.any_append, Bool.or_assoc]
theorem aD_congr {D D' : DW} (L : List (Nat × Nat × Nat)) (e : ∀ l c x, D l c x = D' l c x) (l c x : Nat) : aD D tr T L l c x = aD D' tr T L l c x := by unfold aD; rw [e]
theorem tl_dpin (hA : AInv n q nx) (hK : KT n q T tr) {J : MI} (h2 : J 2 = nI T) {g : Nat} (hg : g < n) {post : MI → MF → MG → Prop} {K : Int32 → MI → MF → MG → Prop} : ∀ (d i : Nat) (D : DW) (P : MF), i + d = npn q g → MInv n q nx J P → (∀ m, m < 12 → P 7 m = nI (tr m)) → DrM D P → (∀ P', (∀ k, k ≠ 8 → P' k = P k) → DrM (aD D tr T (gpf q g i d)) P' → K (nI (npn q g)) J P' N) → wl_M_draw_90 post K (nI g) (d + 1) (nI i) J P N := by
  obtain ⟨k1, k2, k3⟩ := hK
  have hp := npn_or q g
  have hn := hA.1
  obtain ⟨_, _, _, _, _, hr, _, hq5⟩ := hA.2.1 g hg
  have hnx := (hA.2.2.1 (q 4 g) hr).2
  have v := (nI_vp (a := g) (n := 12) (by omega)).mpr (by omega)
  intro d
  induction d with
  | zero =>
    intro i D P hi hM hT hD h
    have e : i = npn q g := by omega
    subst e
    exact t_pinsOf hA hM hg ⟨fun _ => h P (fun _ _ => rfl) (hD.congr (fun l c x => (aD_nil D l c x).symm)), fun c => absurd (nI_le (Nat.le_refl _) (by omega)) c⟩
  | succ d ih =>
    intro i D P hi hM hT hD h
    have e5 := (hM.2.1 g hg).2.2.2.2.2
    have hb := ntn_lt hA (i := i) hg
    have htm := k2 _ hb
    rw [gpf_succ] at h
    refine t_pinsOf hA hM hg ⟨fun c => absurd c (nI_ge (by omega) (by omega)), fun _ => t_netOf hA hM hg (by omega) ?_⟩
    rw [nI_clamp (by omega), hT _ hb, nI_clamp (n := g) (by omega), e5]
    refine ⟨(nI_vp (by omega)).mpr hb, fun x hx => ⟨v, fun y hy => ?_⟩⟩
    rw [hx, i_0, nI_eq_iff (by omega) (by omega), hy, nI_ad]
    refine ⟨fun z => t_mark hD (b := 2) (by omega) (by omega) (by omega) (by decide) (fun P1 a1 a2 => ?_), fun z w hw => ?_⟩
    · have hM1 := hM.ofP (J' := J) (P' := P1) rfl (fun k hk => a1 k (by omega))
      have e4 := (hM1.2.1 g hg).2.2.2.2.1
      have hpm := pmk_1 D (tr := tr) (T := T) (p := (ntn q g i, q 4 g, q 5 g + i)) (by show 0 < tr (ntn q g i); omega)
      simp only at hpm
      have hh : ∀ (P2 : MF), (∀ k, k ≠ 8 → P2 k = P1 k) → DrM (fun l c x => D l c x || pmk tr T (ntn q g i, q 4 g, q 5 g + i) l c x) P2 → ∀ (w : Int32), w = nI i + 1 → wl_M_draw_90 post K (nI g) (d + 1) w J P2 N := by
        intro P2 b1 b2 w hw
        rw [hw, ← nI_succ]
        exact ih (i + 1) _ P2 (by omega) (hM1.ofP rfl (fun k hk => b1 k (by omega))) (fun m hm => by rw [b1 7 (by omega), a1 7 (by omega)]; exact hT m hm) b2 (fun P' c1 c2 => h P' (fun k hk => (c1 k hk).trans ((b1 k hk).trans (a1 k hk))) (c2.congr (fun l c x => (aD_cons D _ _ l c x).symm)))
      rw [e4, nI_eq_iff (by omega) (by omega)]
      refine ⟨v, fun z4 => ⟨T + 1 - tr (ntn q g i) + 1, ?_⟩, fun z4 => ⟨tr (ntn q g i) + 1, ?_⟩⟩
      · simp only [if_neg z4] at hpm
        exact tl_col hA h2 k1 hg htm (by omega) (if_neg z4).symm (T + 1 - tr (ntn q g i)) (tr (ntn q g i)) _ P1 (by omega) hM1 a2 (fun P2 b1 b2 => hh P2 b1 (b2.congr hpm))
      · simp only [if_pos z4] at hpm
        exact tl_col hA h2 k1 hg htm (by omega) (if_pos z4).symm (tr (ntn q g i)) 0 _ P1 (by omega) hM1 a2 (fun P2 b1 b2 => hh P2 b1 (b2.congr hpm))
    · rw [hw, ← nI_succ]
      refine ih (i + 1) D P (by omega) hM hT hD (fun P' c1 c2 => h P' c1 (c2.congr (fun l c x => ?_)))
      rw [aD_cons]
      exact aD_congr _ (fun l c x => by rw [pmk_0 (p := (ntn q g i, q 4 g, q 5 g + i)) z, Bool.or_false]) l c x
theorem tl_dgate (hA : AInv n q nx) (hK : KT n q T tr) {J : MI} (h2 : J 2 = nI T) {post : MI → MF → MG → Prop} {K : Int32 → MI → MF → MG → Prop} : ∀ (d g : Nat) (D : DW) (P : MF), g + d = n → MInv n q nx J P → (∀ m, m < 12 → P 7 m = nI (tr m)) → DrM D P → (∀ P', (∀ k, k ≠ 8 → P' k = P k) → DrM (aD D tr T (PLf q g d)) P' → K (nI n) J P' N) → wl_M_draw_80 post K (d + 1) (nI g) J P N := by
  have hn := hA.1
  intro d
  induction d with
  | zero =>
    intro g D P hi hM hT hD h
    have e : g = n := by omega
    subst e
    unfold wl_M_draw_80
    rw [hM.1]
    exact ⟨fun _ => h P (fun _ _ => rfl) (hD.congr (fun l c x => (aD_nil D l c x).symm)), fun c => absurd (nI_le (Nat.le_refl _) (by omega)) c⟩
  | succ d ih =>
    intro g D P hi hM hT hD h
    rw [PLf_succ] at h
    unfold wl_M_draw_80
    rw [hM.1]
    refine ⟨fun c => absurd c (nI_ge (by omega) (by omega)), fun _ => ⟨npn q g + 1, tl_dpin hA hK h2 (by omega) (npn q g) 0 D P (by omega) hM hT hD (fun P1 a1 a2 x hx => ?_)⟩⟩
    rw [hx, ← nI_succ]
    rw [← gp_gpf] at a2
    exact ih (g + 1) _ P1 (by omega) (hM.ofP rfl (fun k hk => a1 k (by omega))) (fun m hm => by rw [a1 7 (by omega)]; exact hT m hm) a2 (fun P' b1 b2 => h P' (fun k hk => (b1 k hk).trans (a1 k hk)) (b2.congr (fun l c x => (aD_app D _ _ l c x).symm)))
theorem t_draw (hA : AInv n q nx) (hK : KT n q T tr) {J : MI} {P : MF} (hM : MInv n q nx J P) (h2 : J 2 = nI T) (hT : ∀ m, m < 12 → P 7 m = nI (tr m)) {post : MI → MF → MG → Prop} (h : ∀ P', (∀ k, k ≠ 8 → P' k = P k) → DrM (dAll n q tr T) P' → post J P' N) : wp_M_draw J P N post := by
  refine ⟨265, tl_draw1 264 0 P rfl (fun m hm => by omega) (fun P1 a1 a2 => ⟨13, ?_⟩)⟩
  have hM1 := hM.ofP (J' := J) (P' := P1) rfl (fun k hk => a1 k (by omega))
  refine tl_draw2 hA hK 12 0 P1 rfl hM1 (fun m hm => by rw [a1 7 (by omega)]; exact hT m hm) (fun l hl c hc => by rw [a2 _ (by omega)]; rfl) (fun P2 b1 b2 => ⟨n + 1, ?_⟩)
  refine tl_dgate hA hK h2 n 0 _ P2 (by omega) (hM1.ofP rfl (fun k hk => b1 k (by omega))) (fun m hm => by rw [b1 7 (by omega), a1 7 (by omega)]; exact hT m hm) b2 (fun P3 c1 c2 => h P3 (fun k hk => (c1 k hk).trans ((b1 k hk).trans (a1 k hk))) ?_)
  rw [← PL_PLf] at c2
  exact c2
theorem KT_rt (hA : AInv n q nx) (h0 : (rt n q).1 = 0) : KT n q (rt n q).2.1 (rt n q).2.2 ∧ ∀ m, m < 12 → (wirn n q m = true ↔ 1 ≤ (rt n q).2.2 m) := by
  obtain ⟨a, b, c⟩ := rte_ok hA 9 0 (fun _ => 0) rfl (TQ_0 n q) h0
  have k3 : ∀ m, m < 12 → 0 < (rt n q).2.2 m → wirn n q m = true := fun m hm h => b.2 m h
  refine ⟨⟨a, fun m _ => b.1 m, k3⟩, fun m hm => ⟨fun w => ?_, k3 m hm⟩⟩
  unfold wtn at c
  rw [List.countP_eq_zero] at c
  have := c m (List.mem_range.mpr hm)
  rw [w] at this
  simp at this
  exact Nat.pos_of_ne_zero this
theorem t_route (hA : AInv n q nx) {J : MI} {P : MF} (hM : MInv n q nx J P) {post : Int32 → MI → MF → MG → Prop}
    (h : ∀ J' P', J' 1 = J 1 → (∀ k, k < 7 → P' k = P k) → ((rt n q).1 = 0 → J' 0 = 0 → J' 2 = nI (rt n q).2.1 → (∀ m, m < 12 → P' 7 m = nI ((rt n q).2.2 m)) → DrM (dAll n q (rt n q).2.2 (rt n q).2.1) P' → post (nI (rt n q).2.1) J' P' N) ∧ ((rt n q).1 = 1 → J' 0 = 1 → J' 2 = nM → post 0 J' P' N) ∧ ((rt n q).1 = 2 → J' 0 = 2 → J' 2 = nM → post 0 J' P' N)) : wp_M_route J P N post := by
  unfold wp_M_route
  intro J1 j1
  have e1 : J1 1 = J 1 := by rw [j1]; rfl
  have e2 : J1 2 = nM := by rw [j1]; rfl
  refine ⟨13, tl_rt1 12 0 P rfl (fun m hm => by omega) (fun P1 a1 a2 => ⟨10, ?_⟩)⟩
  have hM1 := hM.ofP (J' := J1) (P' := P1) e1 (fun k hk => a1 k (by omega))
  refine tl_rt2 hA 9 0 (fun _ => 0) P1 rfl hM1 a2 (TQ_0 n q) (fun P2 b1 => ⟨fun z p7 J21 j21 J22 j22 => ?_, fun z => ?_, fun z => ?_⟩)
  · have hK := (KT_rt hA z).1
    refine t_draw hA hK (hM1.ofP (J' := J22) (P' := P2) (by rw [j22, j21]; rfl) (fun k hk => b1 k (by omega))) (by rw [j22]; rfl) p7 (fun P3 c1 c2 => ?_)
    rw [show J22 2 = nI (rt n q).2.1 by rw [j22]; rfl]
    exact (h J22 P3 (by rw [j22, j21]; exact e1) (fun k hk => (c1 k (by omega)).trans ((b1 k (by omega)).trans (a1 k (by omega))))).1 z (by rw [j22, j21]; rfl) (by rw [j22]; rfl) (fun m hm => by rw [c1 7 (by omega)]; exact p7 m hm) c2
  · exact (h (setI J1 0 1) P2 e1 (fun k hk => (b1 k (by omega)).trans (a1 k (by omega)))).2.1 z rfl e2
  · exact (h (setI J1 0 2) P2 e1 (fun k hk => (b1 k (by omega)).trans (a1 k (by omega)))).2.2 z rfl e2
end MDR
theorem g_route {I : MI} {F : MF} {G : MG} {J : MI} {P : MF} {N : MG} (h : Sm I F G J P N) (v : Int64) : st_route Sm v I F G J P N := by
  obtain ⟨n, q, nx, hA, hC, hM, hT, hR⟩ := h
  unfold st_route wq_route wp_F_route
  intro I1 g1
  have e1 : I1 1 = I 1 := by rw [g1]; rfl
  have e0 : I1 0 = nI 0 := by rw [g1]; rfl
  refine s_assign hA (hC.ofI e1) (fun I' F' a1 a2 => ⟨fun z i2 f10 => ?_, fun z => Or.inl ⟨rfl, ?_⟩, fun z => Or.inr ⟨rfl, ?_⟩⟩)
  · obtain ⟨hK, hw⟩ := KT_rt hA z
    have hC' : CInv n q nx I' F' := (hC.ofI ((a1 1 (by omega)).trans e1)).ofF (fun k hk => a2 k (by omega))
    refine s_draw hA hK hC' i2 f10 (fun F2 b1 b2 I4 g4 => ?_)
    refine t_route hA hM (fun J' P' c1 c2 => ⟨fun _ j0 j2 p7 dm => ⟨j0, fun _ => ?_, n, q, nx, hA, ?_, hM.ofP c1 c2, hT, Or.inr ⟨(rt n q).2.1, (rt n q).2.2, dv (dAll n q (rt n q).2.2 (rt n q).2.1), ?_, hK.1, ?_, j2, fun m hm => ⟨?_, p7 m hm, hK.2.1 m hm, hw m hm⟩, fun l hl c hc => ⟨b2 l hl c hc, dm l hl c hc, dv_lt _ l c⟩⟩⟩, fun y => absurd (z.symm.trans y) (by decide), fun y => absurd (z.symm.trans y) (by decide)⟩)
    · rw [g4]; show (I' 2).toInt64 = _; rw [i2]
    · exact (hC'.ofF (fun k hk => b1 k (by omega))).ofI (by rw [g4]; rfl)
    · rw [g4]; rfl
    · rw [g4]; exact i2
    · rw [b1 10 (by omega)]; exact f10 m hm
  · refine t_route hA hM (fun J' P' c1 c2 => ⟨fun y => absurd (z.symm.trans y) (by decide), fun _ j0 j2 => ⟨j0, fun y => absurd y (by decide), n, q, nx, hA, (hC.ofI ((a1 1 (by omega)).trans e1)).ofF (fun k hk => a2 k (by omega)), hM.ofP c1 c2, hT, Or.inl ⟨(a1 0 (by omega)).trans e0, j2⟩⟩, fun y => absurd (z.symm.trans y) (by decide)⟩)
  · refine t_route hA hM (fun J' P' c1 c2 => ⟨fun y => absurd (z.symm.trans y) (by decide), fun y => absurd (z.symm.trans y) (by decide), fun _ j0 j2 => ⟨j0, fun y => absurd y (by decide), n, q, nx, hA, (hC.ofI ((a1 1 (by omega)).trans e1)).ofF (fun k hk => a2 k (by omega)), hM.ofP c1 c2, hT, Or.inl ⟨(a1 0 (by omega)).trans e0, j2⟩⟩⟩)
