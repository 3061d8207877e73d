/-! arrival -/
def nn (x : UInt64) : Prop := x.toNat % 2 ^ 63 ≤ 2047 * 2 ^ 52
theorem nn.vf {x : UInt64} (h : nn x) : vf_n64 x := vf_of h
theorem nn_add {a b : UInt64} (ha : nn a) (hb : dFin b) : nn (FP.dadd a b) := by
  have h1 : FP.Core.dIsNaN a = false := by
    cases h : FP.Core.dIsNaN a with
    | false => rfl
    | true =>
      have := (FP.Core.isNaN_bits a).mp h
      unfold nn at ha
      omega
  have h2 : FP.Core.DFin b := (FP.Core.fin_bits b).mpr (by unfold dFin at hb; omega)
  have h3 : FP.Core.dIsNaN (FP.dadd a b) = false := FP.Core.dadd_out h1 h2
  unfold nn
  rcases Nat.lt_or_ge (2047 * 2 ^ 52) ((FP.dadd a b).toNat % 2 ^ 63) with z | z
  · have := (FP.Core.isNaN_bits (FP.dadd a b)).mpr (by omega)
    rw [h3] at this; cases this
  · exact z
theorem dcmp_s {a : UInt64} (h : nn a) : Op.cmpValue (FP.dcmp a a) .l ≤ 0 := by
  have h1 : FP.Core.val64 a ≠ .nan := (FP.Core.ne_nan a).mpr (by unfold nn at h; omega)
  have h2 : FP.dcmp a a = some .eq := FP.Core.dcmp_self h1
  rw [h2]; decide
theorem nn_0 : nn FP.dconst0 := by unfold nn; decide
def mx (a b : UInt64) : UInt64 := if Op.cmpValue (FP.dcmp b a) .l ≤ 0 then a else b
theorem mx_nn {a b : UInt64} (ha : nn a) (hb : nn b) : nn (mx a b) := by
  unfold mx; split
  · exact ha
  · exact hb
theorem mx_s {a : UInt64} (ha : nn a) : mx a a = a := by unfold mx; split <;> rfl
def stD (q : AQ) (w t : Nat → UInt64) (g : Nat) (x y : UInt64) : UInt64 := FP.dadd (mx (FP.dadd x (w (q 1 g))) (FP.dadd y (w (q 2 g)))) (t (q 0 g))
abbrev EvD (n : Nat) (q : AQ) (w t : Nat → UInt64) (m : Nat) (v : UInt64) : Prop := Ev n q (fun _ => FP.dconst0) (stD q w t) m v
section ARR
variable {n : Nat} {q : AQ} {nx : Nat → Nat} {T : Nat} {tr : Nat → Nat} {w t : Nat → UInt64}
theorem EvD_nn (hA : AInv n q nx) (hw : ∀ m, dFin (w m)) (ht : ∀ k, k < 4 → dFin (t k)) : ∀ (f m : Nat) (v : UInt64), evf n q (fun _ => FP.dconst0) (stD q w t) f m = some v → nn v := by
  intro f
  induction f with
  | zero => intro m v h; cases h
  | succ f ih =>
    intro m v h
    rw [evf] at h
    cases hd : dvn n q m with
    | none => rw [hd] at h; cases h; exact nn_0
    | some g =>
      rw [hd] at h
      simp only at h
      have k0 := (hA.2.1 g (dvn_lt hd).1).1
      cases h1 : evf n q (fun _ => FP.dconst0) (stD q w t) f (q 1 g) with
      | none => rw [h1] at h; cases h
      | some x =>
        cases h2 : evf n q (fun _ => FP.dconst0) (stD q w t) f (q 2 g) with
        | none => rw [h1, h2] at h; cases h
        | some y =>
          rw [h1, h2] at h
          cases h
          exact nn_add (mx_nn (nn_add (ih _ _ h1) (hw _)) (nn_add (ih _ _ h2) (hw _))) (ht _ k0)
/-- the arrivals at the nets of S -/
def DV (n : Nat) (q : AQ) (w t : Nat → UInt64) (S : Nat → Bool) (G : MG) : Prop := (∀ k, k < 4 → G 0 k = t k) ∧ ∀ m, m < 12 → S m = true → EvD n q w t m (G 1 m)
theorem DV_set {S S' : Nat → Bool} {G : MG} (h : DV n q w t S G) {k : Nat} {x : UInt64} (hb : EvD n q w t k x) (e : ∀ i, i < 12 → S' i = (S i || decide (i = k))) : DV n q w t S' (setG G 1 (vf_upd (G 1) k x)) := by
  refine ⟨h.1, fun m hm hs => ?_⟩
  simp only [setG_c, if_true, vfupd_c]
  by_cases z : m = k
  · rw [if_pos z, z]; exact hb
  · rw [if_neg z]
    rw [e m hm] at hs
    exact h.2 m hm (by simpa [z] using hs)
theorem sl_arr1 {I : MI} {F : MF} {a1 : Int32} {post : UInt64 → MI → MF → MG → Prop} {K : Int32 → MI → MF → MG → Prop} : ∀ (d i : Nat) (G : MG), i + d = 12 → (∀ m, m < i → G 1 m = FP.dconst0) → (∀ G', G' 0 = G 0 → (∀ m, m < 12 → G' 1 m = FP.dconst0) → K (nI 12) I F G') → wl_S_arrivalAt_2 post K a1 (d + 1) (nI i) I F G := by
  intro d
  induction d with
  | zero =>
    intro i G hi hS h
    have e : i = 12 := by omega
    subst e
    exact ⟨fun _ => h G rfl hS, fun c => absurd (nI_le (Nat.le_refl 12) (by decide)) c⟩
  | succ d ih =>
    intro i G hi hS h
    unfold wl_S_arrivalAt_2
    rw [nI_clamp (by omega)]
    refine ⟨fun c => absurd c (nI_ge (b := 12) (by omega) (by decide)), fun _ => ⟨(nI_vp (by omega)).mpr (by omega), fun G3 g3 x hx => ?_⟩⟩
    rw [hx, ← nI_succ]
    refine ih (i + 1) G3 (by omega) (fun m hm => ?_) (fun G' h1 h2 => h G' (by rw [h1, g3]; rfl) h2)
    rw [g3]
    simp only [setG_c, if_true, vfupd_c]
    by_cases z : m = i
    · rw [if_pos z]
    · rw [if_neg z]; exact hS m (by omega)
theorem s_behind (hA : AInv n q nx) {I : MI} {F : MF} {G : MG} (hC : CInv n q nx I F) (hR : RC n q T tr I F) {m : Nat} (hm : m < 12) (hx : nn (G 1 m)) {post : UInt64 → Prop} (h : post (FP.dadd (G 1 m) (dln n q T tr m))) : wp_S_arrivalBehind (nI m) I F G post := by
  unfold wp_S_arrivalBehind
  refine ⟨(nI_vp (by omega)).mpr hm, s_wireDelay hA hC hR hm ?_⟩
  rw [nI_clamp (by omega)]
  exact ⟨(nn_add hx (dln_m _ _ _ _ _)).vf, h⟩
theorem sl_arr2 (hA : AInv n q nx) (hw : w = dln n q T tr) (ht : ∀ k, k < 4 → dFin (t k)) {I : MI} {F : MF} (hC : CInv n q nx I F) (hR : RC n q T tr I F) {L : List Nat} (hO : OV n q L) (hI : OI n q L I F) (hL : L.length ≤ 12) {a1 : Int32} {post : UInt64 → MI → MF → MG → Prop} {K : Int32 → MI → MF → MG → Prop} : ∀ (d j : Nat) (G : MG), j + d = L.length → DV n q w t (stl n q (L.take j)) G → (∀ G', G' 0 = G 0 → DV n q w t (stl n q L) G' → K (nI L.length) I F G') → wl_S_arrivalAt_23 post K a1 (d + 1) (nI j) I F G := by
  obtain ⟨i4, i5, f14⟩ := hI
  have hn := hA.1
  have hwf : ∀ m, dFin (w m) := fun m => by rw [hw]; exact dln_m _ _ _ _ _
  intro d
  induction d with
  | zero =>
    intro j G hi hB h
    have e : j = L.length := by omega
    subst e
    unfold wl_S_arrivalAt_23
    rw [i4]
    rw [List.take_length] at hB
    exact ⟨fun _ => h G rfl hB, fun c => absurd (nI_le (Nat.le_refl _) (by omega)) c⟩
  | succ d ih =>
    intro j G hi hB h
    obtain ⟨g, hg⟩ : ∃ g, L[j]? = some g := ⟨L[j], List.getElem?_eq_getElem (by omega)⟩
    have hsplit : L = L.take j ++ g :: L.drop (j + 1) := by
      have h1 := List.take_append_drop j L
      have h2 : L.drop j = g :: L.drop (j + 1) := by
        rw [List.drop_eq_getElem_cons (by omega)]
        congr 1
        exact Option.some.inj ((List.getElem?_eq_getElem (by omega)).symm.trans hg)
      rw [h2] at h1; exact h1.symm
    obtain ⟨hgn, h1, h2, h3⟩ := hO _ g _ hsplit
    obtain ⟨k0, k1, k2, _, k3, _⟩ := hA.2.1 g hgn
    have vg := (nI_vp (a := g) (n := 12) (by omega)).mpr (by omega)
    have v0 := (nI_vp (a := q 0 g) (n := 4) (by omega)).mpr k0
    have v3 := (nI_vp (a := q 3 g) (n := 12) (by omega)).mpr k3
    have e1 := hB.2 (q 1 g) k1 h1
    have e2 := hB.2 (q 2 g) k2 h2
    have n1 : nn (G 1 (q 1 g)) := by obtain ⟨f, hf⟩ := e1; exact EvD_nn hA hwf ht f _ _ hf
    have n2 : nn (G 1 (q 2 g)) := by obtain ⟨f, hf⟩ := e2; exact EvD_nn hA hwf ht f _ _ hf
    have hev := Ev.s1 (dvn_out hA hgn) e1 e2
    have t0 := hB.1 _ k0
    unfold wl_S_arrivalAt_23
    rw [i4, nI_clamp (n := j) (by omega), f14 j g hg]
    refine ⟨fun c => absurd c (nI_ge (by omega) (by omega)), fun _ => ⟨(nI_vp (by omega)).mpr (by omega), fun x12 hx12 => ?_⟩⟩
    subst hx12
    rw [nI_clamp (by omega), hC.2.1 1 (by omega) g hgn, hC.2.1 2 (by omega) g hgn, hC.2.1 0 (by omega) g hgn, hC.2.1 3 (by omega) g hgn, nI_clamp (n := q 0 g) (by omega), nI_clamp (n := q 3 g) (by omega), t0]
    have go : ∀ x, x = stD q w t g (G 1 (q 1 g)) (G 1 (q 2 g)) → ∀ G2 : MG, G2 = setG G 1 (vf_upd (G 1) (q 3 g) x) → ∀ y : Int32, y = nI j + 1 → wl_S_arrivalAt_23 post K a1 (d + 1) y I F G2 := by
      intro x hx G2 g2 y hy
      rw [hy, ← nI_succ, g2]
      refine ih (j + 1) _ (by omega) (DV_set hB (by rw [hx]; exact hev) (fun i _ => ?_)) (fun G' b1 b2 => h G' (by rw [b1]; rfl) b2)
      rw [take_succ hg, stl_snoc]
    refine ⟨vg, s_behind hA hC hR k1 n1 ⟨vg, s_behind hA hC hR k2 n2 ?_⟩⟩
    have m1 := nn_add n1 (hwf (q 1 g))
    have m2 := nn_add n2 (hwf (q 2 g))
    have hs : stD q w t g (G 1 (q 1 g)) (G 1 (q 2 g)) = FP.dadd (mx (FP.dadd (G 1 (q 1 g)) (w (q 1 g))) (FP.dadd (G 1 (q 2 g)) (w (q 2 g)))) (t (q 0 g)) := rfl
    rw [← hw]
    refine ⟨fun c => ⟨vg, vg, v0, (nn_add m1 (ht _ k0)).vf, v3, go _ ?_⟩, fun c => ⟨vg, vg, v0, (nn_add m2 (ht _ k0)).vf, v3, go _ ?_⟩⟩
    · rw [hs]; unfold mx; rw [if_pos c]
    · rw [hs]; unfold mx; rw [if_neg c]
theorem s_arrivalAt (hA : AInv n q nx) (hw : w = dln n q T tr) (ht : ∀ k, k < 4 → dFin (t k)) {I : MI} {F : MF} {G : MG} (hG : ∀ k, k < 4 → G 0 k = t k) (hC : CInv n q nx I F) (hR : RC n q T tr I F) {L : List Nat} (hO : OV n q L) (hI : OI n q L I F) (hL : L.length ≤ 12) {m : Nat} (hm : m < 12) (hs : stl n q L m = true) {post : UInt64 → MI → MF → MG → Prop} (h : ∀ v G', G' 0 = G 0 → EvD n q w t m v → post v I F G') : wp_S_arrivalAt (nI m) I F G post := by
  refine ⟨13, sl_arr1 12 0 G rfl (fun m hm => by omega) (fun G1 h1 h2 => ⟨L.length + 1, sl_arr2 hA hw ht hC hR hO hI hL L.length 0 G1 (by omega) ⟨fun k hk => by rw [h1]; exact hG k hk, fun i hi hs => ?_⟩ (fun G2 h3 h4 => ⟨(nI_vp (by omega)).mpr hm, ?_⟩)⟩)⟩
  · rw [h2 i hi]
    unfold stl at hs
    simp at hs
    exact Ev.b0 hs
  · rw [nI_clamp (by omega)]
    exact h _ _ (h3.trans h1) (h4.2 m hm hs)
/-! the reference -/
theorem tl_arr1 {J : MI} {N : MG} {post : UInt64 → MI → MF → MG → Prop} {Kk : Int32 → MI → MF → MG → Prop} {a : Int32} : ∀ (d i : Nat) (P : MF), i + d = 12 → (∀ m, m < i → P 10 m = bI false) → (∀ P', (∀ k, k ≠ 10 → P' k = P k) → (∀ m, m < 12 → P' 10 m = bI false) → Kk (nI 12) J P' N) → wl_M_arrival_34 post Kk a (d + 1) (nI i) J P N := by
  intro d
  induction d with
  | zero =>
    intro i P hi hS h
    have e : i = 12 := by omega
    subst e
    exact ⟨fun _ => h P (fun _ _ => rfl) hS, fun c => absurd (nI_le (Nat.le_refl 12) (by decide)) c⟩
  | succ d ih =>
    intro i P hi hS h
    unfold wl_M_arrival_34
    rw [nI_clamp (by omega)]
    refine ⟨fun c => absurd c (nI_ge (b := 12) (by omega) (by decide)), fun _ => ⟨(nI_vp (by omega)).mpr (by omega), fun P3 p3 x hx => ?_⟩⟩
    rw [hx, ← nI_succ]
    refine ih (i + 1) P3 (by omega) (fun m hm => ?_) (fun P' h1 h2 => h P' (fun k hk => by rw [h1 k hk, p3]; simp only [setF_c]; rw [if_neg hk]) h2)
    rw [p3]
    simp only [setF_c, if_true, upd_c]
    by_cases z : m = i
    · rw [if_pos z]; rfl
    · rw [if_neg z]; exact hS m (by omega)
theorem RM.ofP {J J' : MI} {P P' : MF} (h : RM n q T tr J P) (e : J' 2 = J 2) (e7 : P' 7 = P 7) : RM n q T tr J' P' := ⟨h.1, by rw [e]; exact h.2.1, fun m hm => by rw [e7]; exact h.2.2 m hm⟩
theorem tl_arr2 (hA : AInv n q nx) (hw : w = dln n q T tr) (ht : ∀ k, k < 4 → dFin (t k)) {J : MI} {a1 a4 : Int32} {post : UInt64 → MI → MF → MG → Prop} {Kk : Int32 → MI → MF → MG → Prop} {K0 : Nat → Bool} : ∀ (d i : Nat) (K : Nat → Bool) (P : MF) (N : MG), MInv n q nx J P → RM n q T tr J P → i + d = 12 → DV n q w t K N → (∀ m, m < 12 → P 10 m = bI (K m)) →
    ((K = K0 ∧ ∀ m, m < i → rdy n q K0 m = true → K0 m = true) ∨ cK K0 < cK K) → (RF n q K0 → K = K0) →
    (∀ (K' : Nat → Bool) (P' : MF) (N' : MG), DV n q w t K' N' → (∀ m, m < 12 → P' 10 m = bI (K' m)) → ((K' = K0 ∧ RF n q K0) ∨ cK K0 < cK K') → (RF n q K0 → K' = K0) → (∀ k, k ≠ 10 → P' k = P k) → N' 0 = N 0 → Kk (nI 12) J P' N') →
    wl_M_arrival_63 post Kk a1 a4 (d + 1) (nI i) J P N := by
  have hn := hA.1
  have hwf : ∀ m, dFin (w m) := fun m => by rw [hw]; exact dln_m _ _ _ _ _
  intro d
  induction d with
  | zero =>
    intro i K P N hM hR hi hB hK hP hX h
    have e : i = 12 := by omega
    subst e
    refine ⟨fun _ => h K P N hB hK ?_ hX (fun _ _ => rfl) rfl, fun c => absurd (nI_le (Nat.le_refl 12) (by decide)) c⟩
    rcases hP with ⟨h1, h2⟩ | h1
    · exact Or.inl ⟨h1, h2⟩
    · exact Or.inr h1
  | succ d ih =>
    intro i K P N hM hR hi hB hK hP hX h
    have vi := (nI_vp (a := i) (n := 12) (by omega)).mpr (by omega)
    have skip : (rdy n q K i = true → K i = true) → ∀ y : Int32, y = nI i + 1 → wl_M_arrival_63 post Kk a1 a4 (d + 1) y J P N := by
      intro hs y hy
      rw [hy, ← nI_succ]
      refine ih (i + 1) K P N hM hR (by omega) hB hK ?_ hX h
      rcases hP with ⟨h1, h2⟩ | h1
      · refine Or.inl ⟨h1, fun m hm hr => ?_⟩
        by_cases z : m = i
        · subst z; rw [← h1] at hr ⊢; exact hs hr
        · exact h2 m (by omega) hr
      · exact Or.inr h1
    unfold wl_M_arrival_63
    rw [nI_clamp (by omega), hK i (by omega)]
    refine ⟨fun c => absurd c (nI_ge (b := 12) (by omega) (by decide)), fun _ => ⟨vi, br' (fun ki => skip (fun _ => ki)) (fun ki => t_isReady hA hM hK (by omega) (br' (fun rd => ?_) (fun rd => skip (fun z => absurd (rd.symm.trans z) (by decide)))))⟩⟩
    refine ⟨vi, fun P15 p15 => ⟨vi, fun N20 p20 => ?_⟩⟩
    have ep : ∀ k, k ≠ 10 → P15 k = P k := fun k hk => by rw [p15]; simp only [setF_c]; rw [if_neg hk]
    have hM15 : MInv n q nx J P15 := hM.ofP rfl (fun k hk => ep k (by omega))
    have hR15 : RM n q T tr J P15 := hR.ofP rfl (ep 7 (by omega))
    obtain ⟨K', hK'⟩ : ∃ K' : Nat → Bool, K' = fun j => K j || decide (j = i) := ⟨_, rfl⟩
    have c1 : cK K' = cK K + 1 := by rw [hK']; exact cnt_add K 12 i (by omega) ki
    have hK15 : ∀ m, m < 12 → P15 10 m = bI (K' m) := by
      intro m hm
      rw [p15, hK']
      simp only [setF_c, if_true, upd_c]
      by_cases z : m = i
      · rw [if_pos z]; simp [z]; rfl
      · rw [if_neg z, hK m hm]; simp [z]
    have go : ∀ (N' : MG), N' 0 = N 0 → DV n q w t K' N' → ∀ y : Int32, y = nI i + 1 → wl_M_arrival_63 post Kk a1 a4 (d + 1) y J P15 N' := by
      intro N' hN' hb y hy
      rw [hy, ← nI_succ]
      refine ih (i + 1) K' P15 N' hM15 hR15 (by omega) hb hK15 (Or.inr ?_) (fun hf => ?_) (fun K2 P2 N2 b1 b2 b3 b4 b5 b6 => h K2 P2 N2 b1 b2 b3 b4 (fun k hk => (b5 k hk).trans (ep k hk)) (b6.trans hN'))
      · rw [c1]
        rcases hP with ⟨h1, _⟩ | h1
        · rw [h1]; omega
        · omega
      · have e := hX hf
        rw [e] at ki rd
        rw [hf i (by omega) rd] at ki; cases ki
    have sett : ∀ (x : UInt64), EvD n q w t i x → ∀ N2 : MG, N2 = setG N20 1 (vf_upd (N20 1) i x) → N2 0 = N 0 ∧ DV n q w t K' N2 := by
      intro x hx N2 h2
      refine ⟨by rw [h2, p20]; rfl, ?_, fun m hm hs => ?_⟩
      · rw [h2, p20]; exact hB.1
      · rw [h2, p20]
        simp only [setG_c, if_true, vfupd_c]
        by_cases z : m = i
        · rw [if_pos z, z]; exact hx
        · rw [if_neg z, if_neg z]
          rw [hK'] at hs
          exact hB.2 m hm (by simpa [z] using hs)
    refine t_driver hA hM15 (by omega) ?_
    rw [i_m1, oI_nM (fun g hg => by have := (dvn_lt hg).1; omega)]
    refine ⟨fun hd => ?_, fun hd x56 hx56 => ?_⟩
    · cases hdd : dvn n q i with
      | none => exact absurd hdd hd
      | some g =>
        obtain ⟨hg, e3⟩ := dvn_lt hdd
        obtain ⟨k0, k1, k2, kk, _⟩ := hA.2.1 g hg
        obtain ⟨e0, e1, e2, _⟩ := hM15.2.1 g hg
        have vg := (nI_vp (a := g) (n := 12) (by omega)).mpr (by omega)
        have v0 := (nI_vp (a := q 0 g) (n := 4) (by omega)).mpr k0
        have v1' := (nI_vp (a := q 1 g) (n := 12) (by omega)).mpr k1
        have rr := rd
        unfold rdy at rr
        rw [hdd] at rr
        simp only [Bool.and_eq_true] at rr
        have v1 := hB.2 (q 1 g) k1 rr.1
        have v2 := hB.2 (q 2 g) k2 rr.2
        have n1 : nn (N 1 (q 1 g)) := by obtain ⟨f, hf⟩ := v1; exact EvD_nn hA hwf ht f _ _ hf
        have n2 : nn (N 1 (q 2 g)) := by obtain ⟨f, hf⟩ := v2; exact EvD_nn hA hwf ht f _ _ hf
        have hev := Ev.s1 hdd v1 v2
        have i1 : N20 1 (q 1 g) = N 1 (q 1 g) := by
          rw [p20]; simp only [setG_c, if_true, vfupd_c]
          exact if_neg (fun z => by rw [z] at rr; rw [rr.1] at ki; cases ki)
        have i2 : N20 1 (q 2 g) = N 1 (q 2 g) := by
          rw [p20]; simp only [setG_c, if_true, vfupd_c]
          exact if_neg (fun z => by rw [z] at rr; rw [rr.2] at ki; cases ki)
        have t0 : N20 0 (q 0 g) = t (q 0 g) := by rw [p20]; exact hB.1 _ k0
        have m1 := nn_add n1 (hwf (q 1 g))
        have m2 := nn_add n2 (hwf (q 2 g))
        have hs : stD q w t g (N 1 (q 1 g)) (N 1 (q 2 g)) = FP.dadd (mx (FP.dadd (N 1 (q 1 g)) (w (q 1 g))) (FP.dadd (N 1 (q 2 g)) (w (q 2 g)))) (t (q 0 g)) := rfl
        have fin : ∀ x, x = stD q w t g (N 1 (q 1 g)) (N 1 (q 2 g)) → ∀ N2 : MG, N2 = setG N20 1 (vf_upd (N20 1) i x) → ∀ y : Int32, y = nI i + 1 → wl_M_arrival_63 post Kk a1 a4 (d + 1) y J P15 N2 := by
          intro x hx N2 h2 y hy
          obtain ⟨z1, z2⟩ := sett x (by rw [hx]; exact hev) N2 h2
          exact go N2 z1 z2 y hy
        rw [oI_some, nI_clamp (n := g) (by omega), e1, e0, nI_clamp (n := q 1 g) (by omega), nI_clamp (n := q 0 g) (by omega), i1, t0]
        refine ⟨vg, v1', vg, t_delayOf hA hM15 hR15 k1 ?_⟩
        rw [← hw]
        refine ⟨m1.vf, fun x28 hx28 => ⟨vg, ?_⟩⟩
        subst hx28
        rw [i_1, nI_le_iff (by omega) (by omega)]
        refine ⟨fun c => ⟨vg, v0, (nn_add m1 (ht _ k0)).vf, vi, fin _ ?_⟩, fun c => ?_⟩
        · rw [hs, kk (by omega), mx_s m1]
        · rw [if_neg (by omega)] at e2
          rw [e2, nI_clamp (n := q 2 g) (by omega), i2]
          refine ⟨vg, (nI_vp (by omega)).mpr k2, vg, t_delayOf hA hM15 hR15 k2 ?_⟩
          rw [← hw]
          refine ⟨m2.vf, fun x42 hx42 => ?_⟩
          subst hx42
          refine ⟨fun c => ⟨vg, v0, (nn_add m1 (ht _ k0)).vf, vi, fin _ ?_⟩, fun c => ⟨vg, v0, (nn_add m2 (ht _ k0)).vf, vi, fin _ ?_⟩⟩
          · rw [hs]; unfold mx; rw [if_pos c]
          · rw [hs]; unfold mx; rw [if_neg c]
    · refine go N20 (by rw [p20]; rfl) ?_ x56 hx56
      rw [p20]
      exact DV_set hB (Ev.b0 hd) (fun j _ => by rw [hK'])
theorem tl_arr3 (hA : AInv n q nx) (hw : w = dln n q T tr) (ht : ∀ k, k < 4 → dFin (t k)) {J : MI} {a1 : Int32} {post : UInt64 → MI → MF → MG → Prop} {Kk : Int32 → MI → MF → MG → Prop} : ∀ (d p : Nat) (K : Nat → Bool) (P : MF) (N : MG), MInv n q nx J P → RM n q T tr J P → p + d = 13 → DV n q w t K N → (∀ m, m < 12 → P 10 m = bI (K m)) → (RF n q K ∨ p ≤ cK K) →
    (∀ (K' : Nat → Bool) (P' : MF) (N' : MG), DV n q w t K' N' → (∀ m, m < 12 → P' 10 m = bI (K' m)) → RF n q K' → (∀ k, k ≠ 10 → P' k = P k) → N' 0 = N 0 → Kk (nI 13) J P' N') → wl_M_arrival_55 post Kk a1 (d + 1) (nI p) J P N := by
  intro d
  induction d with
  | zero =>
    intro p K P N hM hR hi hB hK hP h
    have e : p = 13 := by omega
    subst e
    refine ⟨fun _ => h K P N hB hK ?_ (fun _ _ => rfl) rfl, fun c => absurd (nI_le (a := 13) (Nat.le_refl 13) (by decide)) c⟩
    rcases hP with h1 | h1
    · exact h1
    · have := cK_le K; omega
  | succ d ih =>
    intro p K P N hM hR hi hB hK hP h
    refine ⟨fun c => absurd c (nI_ge (b := 13) (by omega) (by decide)), fun _ => ⟨13, tl_arr2 hA hw ht (K0 := K) 12 0 K P N hM hR rfl hB hK (Or.inl ⟨rfl, fun m hm => by omega⟩) (fun _ => rfl) (fun K' P' N' a1 a2 a3 a4 a5 a6 y hy => ?_)⟩⟩
    rw [hy, ← nI_succ]
    refine ih (p + 1) K' P' N' (hM.ofP rfl (fun k hk => a5 k (by omega))) (hR.ofP rfl (a5 7 (by omega))) (by omega) a1 a2 ?_ (fun K2 P2 N2 b1 b2 b3 b4 b5 => h K2 P2 N2 b1 b2 b3 (fun k hk => (b4 k hk).trans (a5 k hk)) (b5.trans a6))
    rcases a3 with ⟨e1, e2⟩ | e1
    · left; rw [e1]; exact e2
    · rcases hP with h1 | h1
      · left; rw [a4 h1]; exact h1
      · right; omega
theorem g_arrival {I : MI} {F : MF} {G : MG} {J : MI} {P : MF} {N : MG} (h : Sm I F G J P N) (a1 : Int32) (v : UInt64) : st_arrival Sm a1 v I F G J P N := by
  unfold st_arrival wq_arrival wp_F_arrival wp_F_needNet wp_F_needRouted
  refine s_within (b := 12) (by omega) (br' (fun e => ?_) (fun e => Or.inl ⟨rfl, ?_⟩))
  · obtain ⟨m, hm, rfl⟩ := wiB_ex e (by omega)
    obtain ⟨n, q, nx, hA, hC, hM, hT, hU | ⟨T, tr, dw, hR⟩⟩ := id h
    · rw [hU.1]
      refine ⟨fun z => absurd rfl z, fun _ => Or.inr (Or.inl ⟨rfl, ?_⟩)⟩
      unfold wp_M_arrival
      refine s_in (b := 11) (by omega) (br' (fun _ => ?_) (fun z => absurd (e.symm.trans z) (by decide)))
      rw [hU.2]
      exact ⟨fun z => absurd rfl z, fun _ => rf_sm 2 (by decide) h v⟩
    · have rT := hR.2.1
      have j2 := hR.2.2.2.1
      have hn := hA.1
      rw [hR.1]
      refine ⟨fun _ => s_orderGates hA hC (fun L I' F' hO hl hI hF e4 e14 => s_isSettled hI.2.1 hm ?_), fun z => absurd z (by decide)⟩
      have hC' : CInv n q nx I' F' := (hC.ofF (fun k hk => e14 k (by omega))).ofI (e4 1 (by omega) (by omega))
      have hRC' : RC n q T tr I' F' := ⟨hR.C.1, by rw [e4 2 (by omega) (by omega)]; exact hR.C.2.1, fun m hm => by rw [e14 10 (by omega)]; exact hR.C.2.2 m hm⟩
      have hle := cst_le n q L
      have hL : L.length ≤ 12 := by omega
      have hsm : ∀ (G' : MG) (J' : MI) (P' : MF) (N' : MG), G' 0 = G 0 → (∀ k, k ≠ 0 → J' k = J k) → (∀ k, k ≠ 10 → P' k = P k) → N' 0 = N 0 → Sm I' F' G' J' P' N' := fun G' J' P' N' hG hJ hP hN => Sm_frame h (fun k hk => e4 k (by omega) (by omega)) (fun k hk => e14 k (by omega)) hG hJ (fun k hk => hP k (by omega)) hN
      obtain ⟨t, et⟩ : ∃ t : Nat → UInt64, t = G 0 := ⟨_, rfl⟩
      have ht : ∀ k, k < 4 → dFin (t k) := fun k hk => by rw [et]; exact (hT k hk).2
      have ref : ∀ (post : UInt64 → MI → MF → MG → Prop), (∀ (K : Nat → Bool) (P' : MF) (N' : MG), DV n q (dln n q T tr) t K N' → RF n q K → (∀ k, k ≠ 10 → P' k = P k) → N' 0 = N 0 → (K m = true → post (N' 1 m) (setI J 0 0) P' N') ∧ (K m = false → post (FP.i2d 0) (setI J 0 3) P' N')) → wp_M_arrival (nI m) J P N post := by
        intro post hp
        unfold wp_M_arrival
        refine s_in (b := 11) (by omega) (br' (fun _ => ?_) (fun z => absurd (e.symm.trans z) (by decide)))
        rw [j2, i_m1, nI_nM (by omega)]
        refine ⟨fun _ => ⟨13, tl_arr1 12 0 P rfl (fun m hm => by omega) (fun P1 h1 h2 => ⟨14, ?_⟩)⟩, fun z => absurd z id⟩
        refine tl_arr3 hA (w := dln n q T tr) (t := t) rfl ht 13 0 (fun _ => false) P1 N (hM.ofP rfl (fun k hk => h1 k (by omega))) (hR.M.ofP rfl (h1 7 (by omega))) rfl ⟨fun k hk => by rw [et]; exact (hT k hk).1.symm, fun m _ hs => by cases hs⟩ h2 (Or.inr (by omega)) (fun K P' N' b1 b2 b3 b4 b5 => ⟨(nI_vp (by omega)).mpr hm, ?_⟩)
        obtain ⟨p1, p2⟩ := hp K P' N' b1 b3 (fun k hk => (b4 k hk).trans (h1 k hk)) b5
        rw [nI_clamp (by omega), b2 m hm]
        exact br' (fun z I66 g66 => ⟨(nI_vp (by omega)).mpr hm, by rw [g66]; exact p1 z⟩) (fun z => rf_d (p2 z))
      have same : ∀ (K : Nat → Bool) (N' : MG), DV n q (dln n q T tr) t K N' → RF n q K → K m = stl n q L m := by
        intro K N' hB hRF
        rw [Bool.eq_iff_iff]
        constructor
        · intro hk
          exact hF.all hA hm (hB.2 m hm hk)
        · intro hs
          obtain ⟨b, hb⟩ := stl_ev (base := fun _ => FP.dconst0) (step := stD q (dln n q T tr) t) hA L hO m hs
          exact (hRF.fix hA).all hA hm hb
      refine br' (fun c => s_arrivalAt hA (w := dln n q T tr) (t := t) rfl ht (fun k _ => by rw [et]) hC' hRC' hO hI hL hm c (fun x G' hG' hx => ref _ (fun K P' N' b1 b2 b3 b4 => ⟨fun hk => ?_, fun hk => ?_⟩))) (fun c => Or.inr (Or.inr ⟨rfl, ref _ (fun K P' N' b1 b2 b3 b4 => ⟨fun hk => ?_, fun hk => ?_⟩)⟩))
      · exact ⟨rfl, fun _ => hx.inj (b1.2 m hm hk), hsm _ _ _ _ hG' (fun k hk => by simp only [setI_c]; rw [if_neg hk]) b3 b4⟩
      · rw [same K N' b1 b2, c] at hk; cases hk
      · rw [same K N' b1 b2, c] at hk; cases hk
      · exact ⟨rfl, fun z => absurd z (by decide), hsm _ _ _ _ rfl (fun k hk => by simp only [setI_c]; rw [if_neg hk]) b3 b4⟩
  · unfold wp_M_arrival
    refine s_in (b := 11) (by omega) (br' (fun z => absurd (z.symm.trans e) (by decide)) (fun _ => rf_sm 1 (by decide) h v))
end ARR
