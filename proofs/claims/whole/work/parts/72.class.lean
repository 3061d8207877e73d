/-! what the class's questions answer, of the netlist -/
def wiB (a : Int32) (b : Nat) : Bool := decide (0 ≤ a.toInt ∧ a.toInt < (b : Int))
theorem wiB_ex {a : Int32} {b : Nat} (h : wiB a b = true) (hb : b < 2 ^ 31) : ∃ k, k < b ∧ a = nI k := by
  simp only [wiB, decide_eq_true_eq] at h
  refine ⟨a.toInt.toNat, by omega, ?_⟩
  rw [← Int32.toInt_inj, nI_toInt (by omega)]
  omega
theorem wiB_nI {k b : Nat} (hk : k < 2 ^ 31) : wiB (nI k) b = decide (k < b) := by
  simp only [wiB, nI_toInt hk]
  congr 1
  apply propext
  omega
theorem s_within {a : Int32} {b : Nat} {post : Int32 → Prop} (hb : b < 2 ^ 31) (h : post (bI (wiB a b))) : wp_F_within a (nI b) post := by
  unfold wp_F_within
  refine ⟨fun c => ?_, fun c => ⟨fun c2 => ?_, fun c2 => ?_⟩⟩
  · rw [Int32.lt_iff_toInt_lt, Int32.toInt_zero] at c
    have : wiB a b = false := by simp only [wiB, decide_eq_false_iff_not]; omega
    rw [this] at h; exact h
  · rw [Int32.le_iff_toInt_le, nI_toInt hb] at c2
    have : wiB a b = false := by simp only [wiB, decide_eq_false_iff_not]; omega
    rw [this] at h; exact h
  · rw [Int32.lt_iff_toInt_lt, Int32.toInt_zero] at c
    rw [Int32.le_iff_toInt_le, nI_toInt hb] at c2
    have : wiB a b = true := by simp only [wiB, decide_eq_true_eq]; omega
    rw [this] at h; exact h
theorem s_in {a : Int32} {b : Nat} {post : Int32 → Prop} (hb : b + 1 < 2 ^ 31) (h : post (bI (wiB a (b + 1)))) : wp_M_in a 0 (nI b) post := by
  unfold wp_M_in
  refine ⟨fun c => ?_, fun c => ⟨fun c2 => ?_, fun c2 => ?_⟩⟩
  · rw [Int32.lt_iff_toInt_lt, Int32.toInt_zero] at c
    have : wiB a (b + 1) = false := by simp only [wiB, decide_eq_false_iff_not]; omega
    rw [this] at h; exact h
  · rw [Int32.lt_iff_toInt_lt, nI_toInt (by omega)] at c2
    have : wiB a (b + 1) = false := by simp only [wiB, decide_eq_false_iff_not]; omega
    rw [this] at h; exact h
  · rw [Int32.lt_iff_toInt_lt, Int32.toInt_zero] at c
    rw [Int32.lt_iff_toInt_lt, nI_toInt (by omega)] at c2
    have : wiB a (b + 1) = true := by simp only [wiB, decide_eq_true_eq]; omega
    rw [this] at h; exact h
/-- a branch on a truth value -/
theorem br {b : Bool} {A B : Prop} (h0 : b = false → A) (h1 : b = true → B) : ((bI b = 0 → A) ∧ (¬ bI b = 0 → B)) :=
  ⟨fun e => h0 (by rw [i_0, bI_0] at e; exact e), fun e => h1 (by rw [i_0, bI_0] at e; cases b; exact absurd rfl e; rfl)⟩
theorem br' {b : Bool} {A B : Prop} (h1 : b = true → A) (h0 : b = false → B) : ((¬ bI b = 0 → A) ∧ (bI b = 0 → B)) := ⟨(br h0 h1).2, (br h0 h1).1⟩
theorem s_hasOne {k : Nat} {post : Int32 → Prop} (hk : k < 4) (h : post (bI (decide (k < 2)))) : wp_F_hasOneInput (nI k) post := by
  unfold wp_F_hasOneInput
  rcases (show k = 0 ∨ k = 1 ∨ k = 2 ∨ k = 3 by omega) with rfl | rfl | rfl | rfl
  · exact ⟨fun _ => h, fun c => absurd rfl c⟩
  · exact ⟨fun c => absurd c (by decide), fun _ => ⟨fun c => absurd rfl c, fun _ => h⟩⟩
  · exact ⟨fun c => absurd c (by decide), fun _ => ⟨fun _ => h, fun c => absurd c (by decide)⟩⟩
  · exact ⟨fun c => absurd c (by decide), fun _ => ⟨fun _ => h, fun c => absurd c (by decide)⟩⟩
theorem s_pinsOfKind {k : Nat} {post : Int32 → Prop} (hk : k < 4) (h : post (nI (if k < 2 then 2 else 3))) : wp_F_pinsOfKind (nI k) post := by
  unfold wp_F_pinsOfKind
  refine s_hasOne hk (br (fun e => ?_) (fun e => ?_))
  · rw [if_neg (by simpa using e)] at h; exact h
  · rw [if_pos (by simpa using e)] at h; exact h
section CQ
variable {n : Nat} {q : AQ} {nx : Nat → Nat} {I : MI} {F : MF} {G : MG} {m : Nat} {post : Int32 → Prop}
theorem s_isDriven (hA : AInv n q nx) (hC : CInv n q nx I F) (hm : m < 12) (h : post (bI (dvn n q m).isSome)) : wp_N_isDriven (nI m) I F G post := by
  have e := hC.2.2.2.2.2.2.2 m hm
  have hn := hA.1
  unfold wp_N_isDriven
  rw [nI_clamp (by omega), e]
  refine ⟨(nI_vp (by omega)).mpr hm, fun z => ?_, fun z => ?_⟩
  · rw [i_m1, oI_nM (fun g hg => by have := (dvn_lt hg).1; omega)] at z
    rw [z] at h; exact h
  · rw [i_m1, oI_nM (fun g hg => by have := (dvn_lt hg).1; omega)] at z
    cases hd : dvn n q m with
    | none => exact absurd hd z
    | some g => rw [hd] at h; exact h
theorem s_pins (hA : AInv n q nx) (hC : CInv n q nx I F) (hm : m < 12) (h : post (nI (pnn n q m))) : wp_N_pins (nI m) I F G post := by
  have e0 := hC.2.2.2.2.1 0 (by omega) m hm
  have e1 := hC.2.2.2.2.1 1 (by omega) m hm
  have v := (nI_vp (a := m) (n := 12) (by omega)).mpr hm
  unfold wp_N_pins
  rw [nI_clamp (by omega)]
  refine ⟨by unfold vp_in; decide, v, by unfold vp_in; decide, v, ?_⟩
  show post (F (17 + 0) m + F (17 + 1) m)
  rw [e0, e1, nI_ad, ← pnn_split hA]
  exact h
theorem s_hasPad (hA : AInv n q nx) (hC : CInv n q nx I F) (hm : m < 12) (h : post (bI (padn n q m))) : wp_N_hasPad (nI m) I F G post := by
  unfold wp_N_hasPad
  unfold padn at h
  refine s_isDriven hA hC hm (br' (fun e => ?_) (fun e => s_pins hA hC hm ⟨fun c => ?_, fun c => ?_⟩))
  · rw [Option.isSome_iff_ne_none] at e
    have : (dvn n q m).isNone = false := by cases hd : dvn n q m with | none => exact absurd hd e | some g => rfl
    rw [this] at h; exact h
  · have := pnn_le hA m
    rw [i_0, nI_le_iff (by omega) (by omega)] at c
    have h0 : decide (0 < pnn n q m) = false := by simp; omega
    rw [h0, Bool.and_false] at h; exact h
  · have := pnn_le hA m
    rw [i_0, nI_le_iff (by omega) (by omega)] at c
    have h0 : decide (0 < pnn n q m) = true := by simp; omega
    have h1 : (dvn n q m).isNone = true := by cases hd : dvn n q m with | none => rfl | some g => rw [hd] at e; cases e
    rw [h0, h1] at h; exact h
theorem s_isWired (hA : AInv n q nx) (hC : CInv n q nx I F) (hm : m < 12) (h : post (bI (wirn n q m))) : wp_N_isWired (nI m) I F G post := by
  have hp := pnn_le hA m
  unfold wp_N_isWired
  unfold wirn at h
  refine s_pins hA hC hm ⟨fun c => ?_, fun c => s_hasPad hA hC hm (br (fun e => ?_) (fun e => ?_))⟩
  · rw [i_2, nI_le_iff (by omega) (by omega)] at c
    rw [decide_eq_true c, Bool.true_or] at h; exact h
  · rw [i_2, nI_le_iff (by omega) (by omega)] at c
    rw [decide_eq_false c, e] at h; exact h
  · rw [e, Bool.or_true] at h; exact h
theorem wirn_pos (h : wirn n q m = true) : 0 < pnn n q m := by
  unfold wirn padn at h
  simp only [Bool.or_eq_true, Bool.and_eq_true, decide_eq_true_eq] at h
  omega
theorem s_leftEnd (hA : AInv n q nx) (hC : CInv n q nx I F) (hm : m < 12) (h : post (if wirn n q m then nI (len n q m) else nM)) : wp_N_leftEnd (nI m) I F G post := by
  have e := hC.2.2.2.2.2.1 m hm
  unfold wp_N_leftEnd
  rw [nI_clamp (by omega), e]
  refine s_isWired hA hC hm (br' (fun w => s_hasPad hA hC hm (br (fun p => ⟨(nI_vp (by omega)).mpr hm, ?_⟩) (fun p => ?_))) (fun w => ?_))
  · rw [if_pos w] at h; unfold len at h; rw [if_neg (by rw [p]; decide)] at h; exact h
  · rw [if_pos w] at h; unfold len at h; rw [if_pos p] at h; exact h
  · rw [if_neg (by rw [w]; decide)] at h; exact h
theorem s_rightEnd (hA : AInv n q nx) (hC : CInv n q nx I F) (hm : m < 12) (h : post (if wirn n q m then nI (rgn n q m) else nM)) : wp_N_rightEnd (nI m) I F G post := by
  have e := hC.2.2.2.2.2.2.1 m hm
  unfold wp_N_rightEnd
  rw [nI_clamp (by omega), e]
  refine s_isWired hA hC hm (br (fun w => ?_) (fun w => ⟨(nI_vp (by omega)).mpr hm, ?_⟩))
  · rw [if_neg (by rw [w]; decide)] at h; exact h
  · rw [if_pos w] at h
    rw [if_neg (by have := wirn_pos w; omega)]; exact h
theorem sl_wiredNets (hA : AInv n q nx) (hC : CInv n q nx I F) {K : Int32 → Int32 → Prop} : ∀ (d i acc : Nat), i + d = 12 → K (nI (acc + (List.range' i d).countP (wirn n q))) (nI 12) → wl_N_wiredNets_4 post K I F G (d + 1) (nI acc) (nI i) := by
  intro d
  induction d with
  | zero =>
    intro i acc hi h
    have e : i = 12 := by omega
    subst e
    exact ⟨fun _ => h, fun c => absurd (nI_le (Nat.le_refl 12) (by decide)) c⟩
  | succ d ih =>
    intro i acc hi h
    rw [List.range'_succ, List.countP_cons] at h
    refine ⟨fun c => absurd c (nI_ge (b := 12) (by omega) (by decide)), fun _ => s_isWired hA hC (by omega) (br (fun w x hx => ?_) (fun w x hx y hy => ?_))⟩
    · rw [hx, ← nI_succ]
      refine ih (i + 1) acc (by omega) ?_
      rw [w] at h; simpa using h
    · rw [hx, hy, ← nI_succ, ← nI_succ]
      refine ih (i + 1) (acc + 1) (by omega) ?_
      rw [w] at h
      rw [show acc + 1 + (List.range' (i + 1) d).countP (wirn n q) = acc + ((List.range' (i + 1) d).countP (wirn n q) + 1) by omega]
      simpa using h
def wcn (n : Nat) (q : AQ) : Nat := (List.range 12).countP (wirn n q)
theorem wcn_le (n : Nat) (q : AQ) : wcn n q ≤ 12 := by
  have := List.countP_le_length (p := wirn n q) (l := List.range 12)
  simpa [wcn] using this
theorem s_wiredNets (hA : AInv n q nx) (hC : CInv n q nx I F) (h : post (nI (wcn n q))) : wp_N_wiredNets I F G post := by
  refine ⟨13, ?_⟩
  have := sl_wiredNets (post := post) (G := G) hA hC (K := fun x _ => post x) 12 0 0 rfl (by rw [Nat.zero_add, ← List.range_eq_range']; exact h)
  exact this
/-- one net is above another -/
def abn (n : Nat) (q : AQ) (h l : Nat) : Bool := decide (h ≠ l) && wirn n q h && wirn n q l && (List.range 24).any (fun c => atn n q 0 c == some h && atn n q 1 c == some l)
theorem oI_eq {o : Option Nat} {k : Nat} (h : ∀ g, o = some g → g < 2 ^ 31) (hk : k < 2 ^ 31) : (oI o = nI k) = (o = some k) := by
  cases o with
  | none => simp [oI, nM_nI hk]
  | some g => simp only [oI, nI_eq_iff (h g rfl) hk, Option.some.injEq]
theorem sl_isAbove (hA : AInv n q nx) (hC : CInv n q nx I F) {hi lo : Nat} (hh : hi < 12) (hl : lo < 12) {K : Int32 → Prop} :
    ∀ (d i : Nat), i + d = 24 → ((List.range' i d).any (fun c => atn n q 0 c == some hi && atn n q 1 c == some lo) = true → post 1) → ((List.range' i d).any (fun c => atn n q 0 c == some hi && atn n q 1 c == some lo) = false → K (nI 24)) → wl_N_isAbove_25 post K (nI hi) (nI lo) I F G (d + 1) (nI i) := by
  intro d
  induction d with
  | zero =>
    intro i hi' _ h
    have e : i = 24 := by omega
    subst e
    exact ⟨fun _ => h rfl, fun c => absurd (nI_le (Nat.le_refl 24) (by decide)) c⟩
  | succ d ih =>
    intro i hi' h1 h0
    rw [List.range'_succ, List.any_cons] at h1 h0
    have e0 := hC.2.2.2.1 0 (by omega) i (by omega)
    have e1 := hC.2.2.2.1 1 (by omega) i (by omega)
    have v := (nI_vp (a := i) (n := 24) (by omega)).mpr (by omega)
    have l0 : ∀ g, atn n q 0 i = some g → g < 2 ^ 31 := fun g hg => by have := atn_lt hA hg; omega
    have l1 : ∀ g, atn n q 1 i = some g → g < 2 ^ 31 := fun g hg => by have := atn_lt hA hg; omega
    have c0 : (F (15 + (0 : Int32).toNatClampNeg) (nI i).toNatClampNeg = nI hi) = (atn n q 0 i = some hi) := by
      rw [nI_clamp (by omega)]; show (F (15 + 0) i = nI hi) = _; rw [e0, oI_eq l0 (by omega)]
    have c1 : (F (15 + (1 : Int32).toNatClampNeg) (nI i).toNatClampNeg = nI lo) = (atn n q 1 i = some lo) := by
      rw [nI_clamp (by omega)]; show (F (15 + 1) i = nI lo) = _; rw [e1, oI_eq l1 (by omega)]
    unfold wl_N_isAbove_25
    rw [c0, c1]
    refine ⟨fun c => absurd c (nI_ge (b := 24) (by omega) (by decide)), fun _ => ⟨by unfold vp_in; decide, v, fun a x hx => ?_, fun a => ⟨by unfold vp_in; decide, v, fun b x hx => ?_, fun b => ?_⟩⟩⟩
    · rw [hx, ← nI_succ]
      have z : (atn n q 0 i == some hi && atn n q 1 i == some lo) = false := by simp [a]
      rw [z, Bool.false_or] at h1 h0
      exact ih (i + 1) (by omega) h1 h0
    · rw [hx, ← nI_succ]
      have z : (atn n q 0 i == some hi && atn n q 1 i == some lo) = false := by simp [b]
      rw [z, Bool.false_or] at h1 h0
      exact ih (i + 1) (by omega) h1 h0
    · exact h1 (by simp [a, b])
theorem s_isAbove (hA : AInv n q nx) (hC : CInv n q nx I F) {hi lo : Nat} (hh : hi < 12) (hl : lo < 12) (h : post (bI (abn n q hi lo))) : wp_N_isAbove (nI hi) (nI lo) I F G post := by
  unfold wp_N_isAbove
  rw [nI_eq_iff (by omega) (by omega)]
  unfold abn at h
  refine ⟨fun e => ?_, fun e => s_isWired hA hC hh (br (fun w => ?_) (fun w => s_isWired hA hC hl (br' (fun w2 => ⟨25, ?_⟩) (fun w2 => ?_))))⟩
  · simp only [e, ne_eq, not_true_eq_false, decide_false, Bool.false_and] at h; exact h
  · simp only [w, Bool.and_false, Bool.false_and] at h; exact h
  · simp only [e, w, w2, ne_eq, not_false_eq_true, decide_true, Bool.true_and] at h
    refine sl_isAbove hA hC hh hl 24 0 rfl (fun z => ?_) (fun z => ?_)
    · rw [List.range_eq_range', z] at h; exact h
    · rw [List.range_eq_range', z] at h; exact h
  · simp only [w2, Bool.and_false, Bool.false_and] at h; exact h
/-- nothing above it is still without a track, or on this one or below -/
def frn (n : Nat) (q : AQ) (tr : Nat → Nat) (m t : Nat) : Bool := (List.range 12).all (fun h => (decide (0 < tr h) && decide (tr h < t)) || !(abn n q h m))
theorem sl_isFree (hA : AInv n q nx) (hC : CInv n q nx I F) {tr : Nat → Nat} (ht : ∀ m, m < 12 → F 10 m = nI (tr m) ∧ tr m < 2 ^ 31) {t : Nat} (hm : m < 12) (htt : t < 2 ^ 31) {K : Int32 → Prop} :
    ∀ (d i : Nat), i + d = 12 → ((List.range' i d).all (fun h => (decide (0 < tr h) && decide (tr h < t)) || !(abn n q h m)) = false → post 0) → ((List.range' i d).all (fun h => (decide (0 < tr h) && decide (tr h < t)) || !(abn n q h m)) = true → K (nI 12)) → wl_C_isFreeFromAbove_2 post K (nI m) (nI t) I F G (d + 1) (nI i) := by
  intro d
  induction d with
  | zero =>
    intro i hi' _ h
    have e : i = 12 := by omega
    subst e
    exact ⟨fun _ => h rfl, fun c => absurd (nI_le (Nat.le_refl 12) (by decide)) c⟩
  | succ d ih =>
    intro i hi' h0 h1
    rw [List.range'_succ, List.all_cons] at h1 h0
    obtain ⟨e0, et⟩ := ht i (by omega)
    have v := (nI_vp (a := i) (n := 12) (by omega)).mpr (by omega)
    unfold wl_C_isFreeFromAbove_2
    rw [nI_clamp (by omega), e0]
    have go : (decide (0 < tr i) && decide (tr i < t)) = false → wp_N_isAbove (nI i) (nI m) I F G (fun r => ((r = 0 → ∀ x : Int32, x = nI i + 1 → wl_C_isFreeFromAbove_2 post K (nI m) (nI t) I F G (d + 1) x) ∧ (¬ r = 0 → post 0))) := by
      intro z
      refine s_isAbove hA hC (by omega) hm (br (fun a x hx => ?_) (fun a => ?_))
      · rw [hx, ← nI_succ]
        rw [z, a] at h0 h1
        simp only [Bool.not_false, Bool.or_true, Bool.true_and] at h0 h1
        exact ih (i + 1) (by omega) h0 h1
      · exact h0 (by rw [z, a]; rfl)
    refine ⟨fun c => absurd c (nI_ge (b := 12) (by omega) (by decide)), fun _ => ⟨v, fun a => go ?_, fun a => ⟨v, fun b => go ?_, fun b x hx => ?_⟩⟩⟩
    · rw [i_0, nI_le_iff et (by omega)] at a
      have : ¬ 0 < tr i := by omega
      simp [this]
    · rw [nI_le_iff htt et] at b
      have : ¬ tr i < t := by omega
      simp [this]
    · rw [hx, ← nI_succ]
      rw [i_0, nI_le_iff et (by omega)] at a
      rw [nI_le_iff htt et] at b
      have z : (decide (0 < tr i) && decide (tr i < t)) = true := by simp; omega
      rw [z] at h0 h1
      simp only [Bool.true_or, Bool.true_and] at h0 h1
      exact ih (i + 1) (by omega) h0 h1
theorem s_isFree (hA : AInv n q nx) (hC : CInv n q nx I F) {tr : Nat → Nat} (ht : ∀ m, m < 12 → F 10 m = nI (tr m) ∧ tr m < 2 ^ 31) {t : Nat} (hm : m < 12) (htt : t < 2 ^ 31) (h : post (bI (frn n q tr m t))) : wp_C_isFreeFromAbove (nI m) (nI t) I F G post := by
  unfold frn at h
  refine ⟨13, sl_isFree hA hC ht hm htt 12 0 rfl (fun z => ?_) (fun z => ?_)⟩
  · rw [List.range_eq_range', z] at h; exact h
  · rw [List.range_eq_range', z] at h; exact h
end CQ
