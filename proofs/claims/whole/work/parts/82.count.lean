/-! count -/
def bt (k v : Nat) : Bool := v / 2 ^ k % 2 == 1
theorem bt_c : ∀ v, v < 8 → ∀ k, k < 3 → ((nI v &&& nI (2 ^ k)) = 0 ↔ bt k v = false) := by decide
theorem bt_m : ∀ v, v < 8 → ∀ k, k < 3 → (((nI v >>> ((nI (k + 3) - 3) &&& 31)) &&& 1) = 1 ↔ bt k v = true) := by decide
/-- the points of lines l, l + 1 .. with bit k -/
def ptl (dw : Nat → Nat → Nat) (k l : Nat) : Nat → Nat
  | 0 => 0
  | d + 1 => (List.range 24).countP (fun c => bt k (dw l c)) + ptl dw k (l + 1) d
theorem ptl_m (dw : Nat → Nat → Nat) (k : Nat) : ∀ d l, (List.range' (24 * l) (24 * d)).countP (fun p => bt k (dw (p / 24) (p % 24))) = ptl dw k l d := by
  intro d
  induction d with
  | zero => intro l; rfl
  | succ d ih =>
    intro l
    rw [show 24 * (d + 1) = 24 + 24 * d by omega, ← List.range'_append_1, List.countP_append, show 24 * l + 24 = 24 * (l + 1) by omega, ih]
    show _ = (List.range 24).countP (fun c => bt k (dw l c)) + ptl dw k (l + 1) d
    congr 1
    rw [List.range'_eq_map_range, List.countP_map]
    apply List.countP_congr
    intro c hc
    have hc := List.mem_range.mp hc
    simp only [Function.comp]
    rw [show (24 * l + c) / 24 = l by omega, show (24 * l + c) % 24 = c by omega]
section CNT
variable {n : Nat} {q : AQ} {nx : Nat → Nat} {T : Nat} {tr : Nat → Nat} {dw : Nat → Nat → Nat} {I : MI} {F : MF} {G : MG} {J : MI} {P : MF} {N : MG} {a1 : Int32}
theorem sl_pw_in (hd : ∀ l, l < 11 → ∀ c, c < 24 → F (19 + l) c = nI (dw l c) ∧ dw l c < 8) {k l : Nat} (hk : k < 3) (hl : l < 11) {post : Int32 → Prop} {K : Int32 → Int32 → Prop} : ∀ (d c acc : Nat), c + d = 24 → K (nI (acc + (List.range' c d).countP (fun c => bt k (dw l c)))) (nI 24) → wl_D_pointsWith_18 post K (nI (2 ^ k)) (nI l) I F G (d + 1) (nI acc) (nI c) := by
  intro d
  induction d with
  | zero =>
    intro c acc hi h
    have e : c = 24 := by omega
    subst e
    exact ⟨fun _ => h, fun c => absurd (nI_le (Nat.le_refl 24) (by decide)) c⟩
  | succ d ih =>
    intro c acc hi h
    rw [List.range'_succ, List.countP_cons] at h
    obtain ⟨e1, e2⟩ := hd l hl c (by omega)
    unfold wl_D_pointsWith_18
    rw [nI_clamp (by omega), nI_clamp (by omega), e1, bt_c _ e2 _ hk]
    refine ⟨fun z => absurd z (nI_ge (b := 24) (by omega) (by decide)), fun _ => ⟨(nI_vp (by omega)).mpr hl, (nI_vp (by omega)).mpr (by omega), fun b x hx => ?_, fun b x hx y hy => ?_⟩⟩
    · rw [hx, ← nI_succ]
      refine ih (c + 1) acc (by omega) ?_
      rw [b] at h; simpa using h
    · rw [hx, hy, ← nI_succ, ← nI_succ]
      refine ih (c + 1) (acc + 1) (by omega) ?_
      have b : bt k (dw l c) = true := by cases hb : bt k (dw l c) with | true => rfl | false => exact absurd hb b
      rw [b] at h
      rw [show acc + 1 + (List.range' (c + 1) d).countP (fun c => bt k (dw l c)) = acc + ((List.range' (c + 1) d).countP (fun c => bt k (dw l c)) + 1) by omega]
      simpa using h
theorem sl_pw_out (hT : T ≤ 9) (h2 : I 2 = nI T) (hd : ∀ l, l < 11 → ∀ c, c < 24 → F (19 + l) c = nI (dw l c) ∧ dw l c < 8) {k : Nat} (hk : k < 3) {post : Int32 → Prop} {K : Int32 → Int32 → Prop} : ∀ (d l acc : Nat), l + d = T + 2 → K (nI (acc + ptl dw k l d)) (nI (T + 2)) → wl_D_pointsWith_4 post K (nI (2 ^ k)) I F G (d + 1) (nI acc) (nI l) := by
  intro d
  induction d with
  | zero =>
    intro l acc hi h
    have e : l = T + 2 := by omega
    subst e
    unfold wl_D_pointsWith_4 wp_C_lines
    rw [h2, i_2, nI_ad]
    exact ⟨fun _ => h, fun c => absurd (nI_le (Nat.le_refl _) (by omega)) c⟩
  | succ d ih =>
    intro l acc hi h
    have h : K (nI (acc + ((List.range 24).countP (fun c => bt k (dw l c)) + ptl dw k (l + 1) d))) (nI (T + 2)) := h
    unfold wl_D_pointsWith_4 wp_C_lines
    rw [h2, i_2, nI_ad]
    refine ⟨fun c => absurd c (nI_ge (by omega) (by omega)), fun _ => ⟨25, sl_pw_in hd hk (by omega) 24 0 acc rfl (fun x hx => ?_)⟩⟩
    rw [hx, ← nI_succ]
    refine ih (l + 1) _ (by omega) ?_
    rw [← List.range_eq_range', Nat.add_assoc]; exact h
theorem s_pointsWith (hT : T ≤ 9) (h2 : I 2 = nI T) (hd : ∀ l, l < 11 → ∀ c, c < 24 → F (19 + l) c = nI (dw l c) ∧ dw l c < 8) {k : Nat} (hk : k < 3) {post : Int32 → Prop} (h : post (nI (ptl dw k 0 (T + 2)))) : wp_D_pointsWith (nI (2 ^ k)) I F G post := by
  refine ⟨T + 3, ?_⟩
  have := sl_pw_out (post := post) (G := G) hT h2 hd hk (K := fun x _ => post x) (T + 2) 0 0 (by omega) (by rw [Nat.zero_add]; exact h)
  exact this
theorem tl_count (hT : T ≤ 9) (h2 : J 2 = nI T) (hd : ∀ l, l < 11 → ∀ c, c < 24 → P 8 (24 * l + c) = nI (dw l c) ∧ dw l c < 8) {k : Nat} (hk : k < 3) {post : Int32 → MI → MF → MG → Prop} {K : Int32 → Int32 → Prop} : ∀ (d p acc : Nat), p + d = 24 * (T + 2) → K (nI (acc + (List.range' p d).countP (fun p => bt k (dw (p / 24) (p % 24))))) (nI (24 * (T + 2))) → wl_M_count_85 post K (nI (k + 3)) J P N (d + 1) (nI acc) (nI p) := by
  intro d
  induction d with
  | zero =>
    intro p acc hi h
    have e : p = 24 * (T + 2) := by omega
    subst e
    unfold wl_M_count_85
    rw [h2, i_2, nI_ad, i_24, nI_mul]
    exact ⟨fun _ => h, fun c => absurd (nI_le (Nat.le_refl _) (by omega)) c⟩
  | succ d ih =>
    intro p acc hi h
    rw [List.range'_succ, List.countP_cons] at h
    obtain ⟨e1, e2⟩ := hd (p / 24) (by omega) (p % 24) (by omega)
    rw [show 24 * (p / 24) + p % 24 = p by omega] at e1
    have hm := bt_m _ e2 k hk
    unfold wl_M_count_85
    rw [h2, show (24 * (nI T + 2) : Int32) = nI (24 * (T + 2)) by rw [i_2, nI_ad, i_24, nI_mul], nI_clamp (by omega), e1, hm]
    refine ⟨fun c => absurd c (nI_ge (by omega) (by omega)), fun _ => ⟨(nI_vp (by omega)).mpr (by omega), fun b x hx => ?_, fun b x hx y hy => ?_⟩⟩
    · rw [hx, ← nI_succ]
      refine ih (p + 1) acc (by omega) ?_
      have b : bt k (dw (p / 24) (p % 24)) = false := by cases hb : bt k (dw (p / 24) (p % 24)) with | false => rfl | true => exact absurd hb b
      rw [b] at h; simpa using h
    · rw [hx, hy, ← nI_succ, ← nI_succ]
      refine ih (p + 1) (acc + 1) (by omega) ?_
      rw [b] at h
      rw [show acc + 1 + (List.range' (p + 1) d).countP (fun p => bt k (dw (p / 24) (p % 24))) = acc + ((List.range' (p + 1) d).countP (fun p => bt k (dw (p / 24) (p % 24))) + 1) by omega]
      simpa using h
theorem tl_count1 (hA : AInv n q nx) (hM : MInv n q nx J P) {a : Int32} {post : Int32 → MI → MF → MG → Prop} {K : Int32 → Int32 → Prop} : ∀ (d i acc : Nat), i + d = 12 → K (nI (acc + (List.range' i d).countP (wirn n q))) (nI 12) → wl_M_count_38 post K a J P N (d + 1) (nI acc) (nI i) := by
  intro d
  induction d with
  | zero =>
    intro i acc hi h
    have e : i = 12 := by omega
    subst e
    exact ⟨fun _ => h, fun c => absurd (nI_le (Nat.le_refl 12) (by decide)) c⟩
  | succ d ih =>
    intro i acc hi h
    rw [List.range'_succ, List.countP_cons] at h
    refine ⟨fun c => absurd c (nI_ge (b := 12) (by omega) (by decide)), fun _ => t_isWired hA hM (by omega) (br (fun w x hx => ?_) (fun w x hx y hy => ?_))⟩
    · rw [hx, ← nI_succ]
      refine ih (i + 1) acc (by omega) ?_
      rw [w] at h; simpa using h
    · rw [hx, hy, ← nI_succ, ← nI_succ]
      refine ih (i + 1) (acc + 1) (by omega) ?_
      rw [w] at h
      rw [show acc + 1 + (List.range' (i + 1) d).countP (wirn n q) = acc + ((List.range' (i + 1) d).countP (wirn n q) + 1) by omega]
      simpa using h
theorem g_count (h : Sm I F G J P N) (v : Int64) : st_count Sm a1 v I F G J P N := by
  obtain ⟨n, q, nx, hA, hC, hM, hT, hR⟩ := id h
  have hn := hA.1
  have hM0 : MInv n q nx (setI J 0 0) P := ⟨hM.1, hM.2⟩
  unfold st_count wq_count wp_F_count
  -- the reference, its argument known
  have good : ∀ (k : Nat) (r : Int32), k < 6 → a1 = nI k → ((¬ nI k = 0 → ((¬ nI k = 1 → ((¬ ((setI J 0 0) 2) = (-1) → ((¬ nI k = 2 → ∃ n_16 : Nat, wl_M_count_85 (fun b J1 P1 N1 => wp_M_thrown J1 P1 N1 (fun th => th = 0 ∧ ((0 : Int32) = 0 → r.toInt64 = b.toInt64) ∧ Sm I F G J1 P1 N1)) (fun (x_14 : Int32) (x_15 : Int32) => r.toInt64 = x_14.toInt64) (nI k) (setI J 0 0) P N n_16 0 0) ∧ (nI k = 2 → r.toInt64 = ((setI J 0 0) 2).toInt64))) ∧ (((setI J 0 0) 2) = (-1) → r.toInt64 = (0 : Int32).toInt64))) ∧ (nI k = 1 → r.toInt64 = (nI (wcn n q)).toInt64))) ∧ (nI k = 0 → r.toInt64 = ((setI J 0 0) 1).toInt64)) → wp_M_count a1 J P N (fun b J1 P1 N1 => wp_M_thrown J1 P1 N1 (fun th => th = 0 ∧ ((0 : Int32) = 0 → r.toInt64 = b.toInt64) ∧ Sm I F G J1 P1 N1)) := by
    intro k r hk e hg
    subst e
    unfold wp_M_count
    refine s_in (b := 5) (by omega) (br' (fun _ J3 j3 => ?_) (fun z => ?_))
    · subst j3
      have ok : ∀ x : Int32, r.toInt64 = x.toInt64 → wp_M_thrown (setI J 0 0) P N (fun th => th = 0 ∧ ((0 : Int32) = 0 → r.toInt64 = x.toInt64) ∧ Sm I F G (setI J 0 0) P N) := fun x hx => ⟨rfl, fun _ => hx, Sm_thr 0 h⟩
      refine ⟨fun c0 => ⟨fun c1 => ⟨fun c2 => ⟨fun c3 => ?_, fun c3 => ok _ ((((hg.1 c0).1 c1).1 c2).2 c3)⟩, fun c2 => ok 0 (((hg.1 c0).1 c1).2 c2)⟩, fun c1 => ⟨13, ?_⟩⟩, fun c0 => ok _ (hg.2 c0)⟩
      · obtain ⟨n16, h16⟩ := (((hg.1 c0).1 c1).1 c2).1 c3
        refine ⟨n16, ?_⟩
        -- the two ends differ only in what is done with the answer
        have mono : ∀ (K1 K2 : Int32 → Int32 → Prop) (post : Int32 → MI → MF → MG → Prop), (∀ x y, K1 x y → K2 x y) → ∀ (f : Nat) (x y : Int32), wl_M_count_85 post K1 (nI k) (setI J 0 0) P N f x y → wl_M_count_85 post K2 (nI k) (setI J 0 0) P N f x y := by
          intro K1 K2 post hK f
          induction f with
          | zero => intro x y z; exact z
          | succ f ih =>
            intro x y z
            exact ⟨fun c => hK _ _ (z.1 c), fun c => ⟨(z.2 c).1, fun d w hw => ih _ _ ((z.2 c).2.1 d w hw), fun d w hw u hu => ih _ _ ((z.2 c).2.2 d w hw u hu)⟩⟩
        exact mono _ _ _ (fun x y z => ok x z) _ _ _ h16
      · refine tl_count1 hA hM0 12 0 0 rfl ?_
        rw [Nat.zero_add, ← List.range_eq_range']
        exact ok _ ((hg.1 c0).2 c1)
    · rw [wiB_nI (by omega), decide_eq_false_iff_not] at z; exact absurd hk z
  have bad : (∀ k, k < 6 → a1 ≠ nI k) → wp_M_count a1 J P N (fun b J1 P1 N1 => wp_M_thrown J1 P1 N1 (fun th => th = 1 ∧ ((1 : Int32) = 0 → v = b.toInt64) ∧ Sm I F G J1 P1 N1)) := by
    intro hk
    unfold wp_M_count
    refine s_in (b := 5) (by omega) (br' (fun z => ?_) (fun _ => rf_i ⟨rfl, fun z => absurd z (by decide), Sm_thr 1 h⟩))
    obtain ⟨k, hk1, hk2⟩ := wiB_ex z (by omega)
    exact absurd hk2 (hk k hk1)
  have pts : ∀ k, k < 3 → a1 = nI (k + 3) → (I 0 = 0 → wp_M_count a1 J P N (fun b J1 P1 N1 => wp_M_thrown J1 P1 N1 (fun th => th = 0 ∧ ((0 : Int32) = 0 → (0 : Int32).toInt64 = b.toInt64) ∧ Sm I F G J1 P1 N1))) ∧ (¬ I 0 = 0 → wp_D_pointsWith (nI (2 ^ k)) I F G (fun r => wp_M_count a1 J P N (fun b J1 P1 N1 => wp_M_thrown J1 P1 N1 (fun th => th = 0 ∧ ((0 : Int32) = 0 → r.toInt64 = b.toInt64) ∧ Sm I F G J1 P1 N1)))) := by
    intro k hk e
    have nk : ∀ j, j < 3 → ¬ nI (k + 3) = nI j := fun j hj z => by rw [nI_eq_iff (by omega) (by omega)] at z; omega
    rcases hR with hU | ⟨T, tr, dw, hR⟩
    · refine ⟨fun _ => good (k + 3) 0 (by omega) e ⟨fun _ => ⟨fun _ => ⟨fun z => absurd hU.2 z, fun _ => rfl⟩, fun z => absurd z (nk 1 (by omega))⟩, fun z => absurd z (nk 0 (by omega))⟩, fun z => absurd hU.1 z⟩
    · have hR0 := hR.thr 0
      refine ⟨fun z => ?_, fun _ => s_pointsWith hR.2.1 hR.2.2.1 (fun l hl c hc => ⟨(hR.2.2.2.2.2 l hl c hc).1, (hR.2.2.2.2.2 l hl c hc).2.2⟩) hk (good (k + 3) _ (by omega) e ⟨fun _ => ⟨fun _ => ⟨fun _ => ⟨fun _ => ⟨24 * (T + 2) + 1, ?_⟩, fun z => absurd z (nk 2 (by omega))⟩, fun z => ?_⟩, fun z => absurd z (nk 1 (by omega))⟩, fun z => absurd z (nk 0 (by omega))⟩)⟩
      · rw [hR.1] at z; exact absurd z (by decide)
      · refine tl_count hR.2.1 hR0.2.2.2.1 (fun l hl c hc => (hR.2.2.2.2.2 l hl c hc).2) hk (24 * (T + 2)) 0 0 (by omega) ?_
        have := ptl_m dw k (T + 2) 0
        rw [Nat.mul_zero] at this
        rw [this, Nat.zero_add]
      · have z : J 2 = -1 := z
        have := hR.2.1
        rw [hR.2.2.2.1, i_m1, nI_nM (by omega)] at z; exact absurd z id
  refine ⟨fun c0 => ?_, fun c0 => ⟨fun c1 => s_wiredNets hA hC ?_, fun c1 => ⟨fun c2 => ?_, fun c2 => ⟨fun c3 => pts 0 (by omega) c3, fun c3 => ⟨fun c4 => pts 1 (by omega) c4, fun c4 => ⟨fun c5 => pts 2 (by omega) c5, fun c5 => ⟨rfl, bad (fun k hk e => ?_)⟩⟩⟩⟩⟩⟩⟩
  · refine good 0 _ (by omega) c0 ⟨fun z => absurd rfl z, fun _ => ?_⟩
    rw [hC.1]
    have : (setI J 0 0) 1 = nI n := hM.1
    rw [this]
  · exact good 1 _ (by omega) c1 ⟨fun _ => ⟨fun z => absurd rfl z, fun _ => rfl⟩, fun z => absurd z (by decide)⟩
  · rcases hR with hU | ⟨T, tr, dw, hR⟩
    · exact ⟨fun _ => good 2 0 (by omega) c2 ⟨fun _ => ⟨fun _ => ⟨fun z => absurd hU.2 z, fun _ => rfl⟩, fun z => absurd z (by decide)⟩, fun z => absurd z (by decide)⟩, fun z => absurd hU.1 z⟩
    · refine ⟨fun z => ?_, fun _ => good 2 _ (by omega) c2 ⟨fun _ => ⟨fun _ => ⟨fun _ => ⟨fun z => absurd rfl z, fun _ => ?_⟩, fun z => ?_⟩, fun z => absurd z (by decide)⟩, fun z => absurd z (by decide)⟩⟩
      · rw [hR.1] at z; exact absurd z (by decide)
      · have : (setI J 0 0) 2 = nI T := hR.2.2.2.1
        rw [hR.2.2.1, this]
      · have z : J 2 = -1 := z
        have := hR.2.1
        rw [hR.2.2.2.1, i_m1, nI_nM (by omega)] at z; exact absurd z id
  · rcases (show k = 0 ∨ k = 1 ∨ k = 2 ∨ k = 3 ∨ k = 4 ∨ k = 5 by omega) with rfl | rfl | rfl | rfl | rfl | rfl
    · exact c0 e
    · exact c1 e
    · exact c2 e
    · exact c3 e
    · exact c4 e
    · exact c5 e
end CNT
