/-! doubles: what is no NaN; the delay -/
theorem vf_of {x : UInt64} (h : x.toNat % 2 ^ 63 ≤ 2047 * 2 ^ 52) : vf_n64 x := by
  unfold vf_n64
  rw [UInt64.le_iff_toNat_le, UInt64.toNat_and]
  have e : (0x7fffffffffffffff : UInt64).toNat = 2 ^ 63 - 1 := by decide
  rw [e, Nat.and_two_pow_sub_one_eq_mod]
  have e2 : (0x7ff0000000000000 : UInt64).toNat = 2047 * 2 ^ 52 := by decide
  rw [e2]; exact h
theorem dFin.vf {x : UInt64} (h : dFin x) : vf_n64 x := vf_of (Nat.le_of_lt h)
theorem dm_fin {a b : UInt64} {Ka Kb : Nat} (ha : a.toNat % 2 ^ 63 < Ka * 2 ^ 52) (hb : b.toNat % 2 ^ 63 < Kb * 2 ^ 52) (hKa : Ka ≤ 1100) (hKb : Kb ≤ 1100) : (FP.dmul a b).toNat % 2 ^ 63 < (Ka + Kb - 1025 + 3) * 2 ^ 52 := FP.Core.dmul_mag ha hb (by omega) (by omega)
theorem i2d_m (v : Int32) : (FP.i2d v).toNat % 2 ^ 63 < 1056 * 2 ^ 52 := FP.Core.i2d_mag v
theorem dq_m (v : Int32) : (FP.dmul 4598175219545276416 (FP.i2d v)).toNat % 2 ^ 63 < 1056 * 2 ^ 52 := dm_fin (Ka := 1022) (Kb := 1056) (by decide) (i2d_m v) (by omega) (by omega)
theorem dh_m (v : Int32) : (FP.dmul 4602678819172646912 (FP.i2d v)).toNat % 2 ^ 63 < 1057 * 2 ^ 52 := dm_fin (Ka := 1023) (Kb := 1056) (by decide) (i2d_m v) (by omega) (by omega)
theorem dt_m (v : Int32) : (FP.dmul (FP.i2d v) 4593671619917905920).toNat % 2 ^ 63 < 1055 * 2 ^ 52 := dm_fin (Ka := 1056) (Kb := 1021) (i2d_m v) (by decide) (by omega) (by omega)
theorem da_m (v w : Int32) : (FP.dadd (FP.dmul 4602678819172646912 (FP.i2d v)) (FP.i2d w)).toNat % 2 ^ 63 < 1059 * 2 ^ 52 := FP.Core.dadd_mag (K := 1057) (dh_m v) (Nat.lt_of_lt_of_le (i2d_m w) (by decide)) (by omega)
/-- a wire's delay, of its length and its pins -/
def dlx (l p : Nat) : UInt64 := FP.dmul (FP.dmul 4598175219545276416 (FP.i2d (nI l))) (FP.dadd (FP.dmul 4602678819172646912 (FP.i2d (nI l))) (FP.i2d (nI p)))
theorem dlx_m (l p : Nat) : (dlx l p).toNat % 2 ^ 63 < 1093 * 2 ^ 52 := dm_fin (Ka := 1056) (Kb := 1059) (dq_m _) (da_m _ _) (by omega) (by omega)
theorem dfin_of {x : UInt64} {K : Nat} (h : x.toNat % 2 ^ 63 < K * 2 ^ 52) (hK : K ≤ 2047) : dFin x := Nat.lt_of_lt_of_le h (Nat.mul_le_mul_right _ hK)
theorem dcmp_len {l : Nat} (hl : l < 2 ^ 31) : (Op.cmpValue (FP.dcmp (FP.i2d (nI l)) FP.dconst0) .l = 0) = (l = 0) := by
  have h1 : FP.Core.DInt (nI l).toInt (FP.Core.i2d (nI l)) := FP.Core.i2d_int (nI l)
  have h2 : FP.Core.DInt 0 FP.Core.dconst0 := by
    have h := FP.Core.i2d_int 0
    have e : FP.Core.i2d 0 = FP.Core.dconst0 := by decide +kernel
    rw [e] at h
    exact h
  have h3 : FP.Core.dcmp (FP.Core.i2d (nI l)) FP.Core.dconst0 = some (compare (nI l).toInt 0) := FP.Core.dcmp_int h1 h2
  show (Op.cmpValue (FP.Core.dcmp (FP.Core.i2d (nI l)) FP.Core.dconst0) .l = 0) = _
  rw [h3, nI_toInt hl]
  apply propext
  by_cases z : l = 0
  · subst z; simp [Op.cmpValue, compare, compareOfLessAndEq]
  · have : compare (l : Int) 0 = .gt := by
      simp only [compare, compareOfLessAndEq]
      rw [if_neg (by omega), if_neg (by omega)]
    rw [this]
    simp [Op.cmpValue, z]
