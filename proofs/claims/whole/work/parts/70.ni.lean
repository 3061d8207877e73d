/-! numbers: Int32 by Nat -/
def nM : Int32 := -1
theorem i_m1 : (-1 : Int32) = nM := rfl
theorem i_0 : (0 : Int32) = nI 0 := rfl
theorem i_1 : (1 : Int32) = nI 1 := rfl
theorem i_2 : (2 : Int32) = nI 2 := rfl
theorem i_3 : (3 : Int32) = nI 3 := rfl
theorem i_4 : (4 : Int32) = nI 4 := rfl
theorem i_5 : (5 : Int32) = nI 5 := rfl
theorem i_6 : (6 : Int32) = nI 6 := rfl
theorem i_7 : (7 : Int32) = nI 7 := rfl
theorem i_8 : (8 : Int32) = nI 8 := rfl
theorem i_9 : (9 : Int32) = nI 9 := rfl
theorem i_10 : (10 : Int32) = nI 10 := rfl
theorem i_11 : (11 : Int32) = nI 11 := rfl
theorem i_12 : (12 : Int32) = nI 12 := rfl
theorem i_15 : (15 : Int32) = nI 15 := rfl
theorem i_23 : (23 : Int32) = nI 23 := rfl
theorem i_24 : (24 : Int32) = nI 24 := rfl
theorem i_31 : (31 : Int32) = nI 31 := rfl
theorem i_48 : (48 : Int32) = nI 48 := rfl
theorem i_60 : (60 : Int32) = nI 60 := rfl
theorem i_264 : (264 : Int32) = nI 264 := rfl
theorem i_528 : (528 : Int32) = nI 528 := rfl
theorem nI_le_iff {a b : Nat} (ha : a < 2 ^ 31) (hb : b < 2 ^ 31) : nI a ≤ nI b ↔ a ≤ b := by
  rw [Int32.le_iff_toInt_le, nI_toInt ha, nI_toInt hb]; omega
theorem nI_lt_iff {a b : Nat} (ha : a < 2 ^ 31) (hb : b < 2 ^ 31) : nI a < nI b ↔ a < b := by
  rw [Int32.lt_iff_toInt_lt, nI_toInt ha, nI_toInt hb]; omega
theorem nI_eq_iff {a b : Nat} (ha : a < 2 ^ 31) (hb : b < 2 ^ 31) : nI a = nI b ↔ a = b := by
  rw [← Int32.toInt_inj, nI_toInt ha, nI_toInt hb]; omega
theorem nM_toInt : nM.toInt = -1 := by decide
theorem nI_nM {a : Nat} (ha : a < 2 ^ 31) : (nI a = nM) = False := by
  apply eq_false; intro h; rw [← Int32.toInt_inj, nI_toInt ha, nM_toInt] at h; omega
theorem nM_nI {a : Nat} (ha : a < 2 ^ 31) : (nM = nI a) = False := by
  apply eq_false; intro h; rw [← Int32.toInt_inj, nI_toInt ha, nM_toInt] at h; omega
theorem nM_lt {a : Nat} (ha : a < 2 ^ 31) : (nM < nI a) = True := by
  apply eq_true; rw [Int32.lt_iff_toInt_lt, nI_toInt ha, nM_toInt]; omega
theorem nM_nlt {a : Nat} (ha : a < 2 ^ 31) : (nI a < nM) = False := by
  apply eq_false; rw [Int32.lt_iff_toInt_lt, nI_toInt ha, nM_toInt]; omega
theorem nM_le {a : Nat} (ha : a < 2 ^ 31) : (nM ≤ nI a) = True := by
  apply eq_true; rw [Int32.le_iff_toInt_le, nI_toInt ha, nM_toInt]; omega
theorem nM_nle {a : Nat} (ha : a < 2 ^ 31) : (nI a ≤ nM) = False := by
  apply eq_false; rw [Int32.le_iff_toInt_le, nI_toInt ha, nM_toInt]; omega
theorem nI_ad (a b : Nat) : nI a + nI b = nI (a + b) := (Int32.ofNat_add a b).symm
theorem nI_mul (a b : Nat) : nI a * nI b = nI (a * b) := (Int32.ofNat_mul a b).symm
theorem nI_sub {a b : Nat} (h : b ≤ a) : nI a - nI b = nI (a - b) := by
  have : nI a = nI (a - b) + nI b := by rw [nI_ad, Nat.sub_add_cancel h]
  rw [this, Int32.add_sub_cancel]
theorem nI_vp {a n : Nat} (ha : a < 2 ^ 31) : vp_in (nI a) n ↔ a < n := by
  unfold vp_in
  rw [nI_clamp ha]
  have h0 := nI_pos ha
  constructor
  · intro h; exact Nat.not_le.mp fun q => h (Or.inr q)
  · intro h q
    rcases q with q | q
    · exact h0 q
    · omega
/-- a number of a list's place, or none -/
def oI : Option Nat → Int32
  | some k => nI k
  | none => nM
theorem oI_some (k : Nat) : oI (some k) = nI k := rfl
theorem oI_none : oI none = nM := rfl
/-- an Int32 that is a small number is nI of it -/
theorem nI_ex {x : Int32} {n : Nat} (h0 : ¬ x < 0) (h1 : x < nI n) (hn : n < 2 ^ 31) : ∃ k, k < n ∧ x = nI k := by
  have a : 0 ≤ x.toInt := by
    rw [Int32.lt_iff_toInt_lt, Int32.toInt_zero] at h0; omega
  rw [Int32.lt_iff_toInt_lt, nI_toInt hn] at h1
  refine ⟨x.toInt.toNat, by omega, ?_⟩
  rw [← Int32.toInt_inj, nI_toInt (by omega)]
  omega
theorem setF_c {F : MF} {k j : Nat} {f : Nat → Int32} : setF F k f j = if j = k then f else F j := rfl
theorem setI_c {I : MI} {k j : Nat} {v : Int32} : setI I k v j = if j = k then v else I j := rfl
theorem setG_c {G : MG} {k j : Nat} {f : Nat → UInt64} : setG G k f j = if j = k then f else G j := rfl
theorem upd_c {f : Nat → Int32} {k j : Nat} {v : Int32} : upd f k v j = if j = k then v else f j := rfl
theorem filled_c {f : Nat → Int32} {n j : Nat} {v : Int32} : filled f n v j = if j < n then v else f j := rfl
theorem vfupd_c {f : Nat → UInt64} {k j : Nat} {v : UInt64} : vf_upd f k v j = if j = k then v else f j := rfl
