/-! bits (the first rows out of kit/laws/BITS), sets of nets as masks -/
def xb (x : Int32) (i : Nat) : Bool := x.toBitVec.getLsbD i
theorem xb_ext {x y : Int32} (h : ∀ i, i < 32 → xb x i = xb y i) : x = y := Int32.toBitVec_inj.mp (BitVec.eq_of_getLsbD_eq (fun i hi => h i hi))
theorem xb_or (x y : Int32) (i : Nat) : xb (x ||| y) i = (xb x i || xb y i) := by unfold xb; rw [Int32.toBitVec_or, BitVec.getLsbD_or]
theorem xb_and (x y : Int32) (i : Nat) : xb (x &&& y) i = (xb x i && xb y i) := by unfold xb; rw [Int32.toBitVec_and, BitVec.getLsbD_and]
theorem xb_0 (i : Nat) : xb 0 i = false := BitVec.getLsbD_zero
theorem xs_l : ∀ n, n < 32 → ((nI n &&& 31).toBitVec.smod 32).toNat = n := by decide +kernel
theorem xb_shl (n : Nat) (hn : n < 32) (x : Int32) {i : Nat} (hi : i < 32) : xb (x <<< (nI n &&& 31)) i = (decide (n ≤ i) && xb x (i - n)) := by
  unfold xb
  rw [Int32.toBitVec_shiftLeft]
  show (x.toBitVec <<< ((nI n &&& 31).toBitVec.smod 32).toNat).getLsbD i = _
  rw [xs_l n hn, BitVec.getLsbD_shiftLeft]
  rcases Nat.lt_or_ge i n with h | h
  · simp [h, Nat.not_le.mpr h]
  · simp [hi, h, Nat.not_lt.mpr h]
theorem xb_sshr (n : Nat) (hn : n < 32) (x : Int32) {i : Nat} (hi : i < 32) : xb (x >>> (nI n &&& 31)) i = if n + i < 32 then xb x (n + i) else xb x 31 := by
  unfold xb
  rw [Int32.toBitVec_shiftRight]
  show (x.toBitVec.sshiftRight ((nI n &&& 31).toBitVec.smod 32).toNat).getLsbD i = _
  rw [xs_l n hn, BitVec.getLsbD_sshiftRight, BitVec.msb_eq_getLsbD_last]
  simp [hi]
theorem xb_bI : ∀ (b : Bool) (i : Nat), i < 32 → xb (bI b) i = (decide (i = 0) && b) := by decide +kernel
/-- bit m of x -/
theorem bit_at (x : Int32) {m : Nat} (hm : m < 31) : (x >>> (nI m &&& 31)) &&& 1 = bI (xb x m) := by
  apply xb_ext
  intro i hi
  rw [xb_and, xb_sshr m (by omega) x hi, xb_bI _ _ hi, show (1 : Int32) = bI true from rfl, xb_bI _ _ hi]
  by_cases z : i = 0
  · subst z
    rw [if_pos (by omega)]; simp
  · simp [z]
/-- the mask of a set of nets -/
def MS (x : Int32) (S : Nat → Bool) : Prop := ∀ i, i < 32 → xb x i = (decide (i < 12) && S i)
theorem MS_0 : MS 0 (fun _ => false) := fun i _ => by rw [xb_0]; simp
theorem MS_bit {x : Int32} {S : Nat → Bool} (h : MS x S) {m : Nat} (hm : m < 12) : (x >>> (nI m &&& 31)) &&& 1 = bI (S m) := by
  rw [bit_at x (by omega), h m (by omega), decide_eq_true hm, Bool.true_and]
theorem MS_or {x : Int32} {S : Nat → Bool} (h : MS x S) {k : Nat} (hk : k < 12) (b : Bool) : MS (x ||| (bI b <<< (nI k &&& 31))) (fun i => S i || (decide (i = k) && b)) := by
  intro i hi
  rw [xb_or, h i hi, xb_shl k (by omega) _ hi]
  by_cases z : k ≤ i
  · rw [decide_eq_true z, Bool.true_and, xb_bI _ _ (by omega)]
    by_cases y : i = k
    · subst y; simp [hk]
    · rw [show (decide (i - k = 0)) = false by simp; omega]
      simp [y]
  · rw [decide_eq_false z]
    simp [show ¬ i = k by omega]
theorem MS_or1 {x : Int32} {S : Nat → Bool} (h : MS x S) {k : Nat} (hk : k < 12) : MS (x ||| (1 <<< (nI k &&& 31))) (fun i => S i || decide (i = k)) := by
  have := MS_or h hk true
  simp only [Bool.and_true] at this
  exact this
theorem MS_congr {x : Int32} {S S' : Nat → Bool} (h : MS x S) (e : ∀ i, i < 12 → S i = S' i) : MS x S' := by
  intro i hi
  rw [h i hi]
  by_cases z : i < 12
  · rw [e i z]
  · simp [z]
theorem MS_inj {x y : Int32} {S : Nat → Bool} (hx : MS x S) (hy : MS y S) : x = y := xb_ext (fun i hi => by rw [hx i hi, hy i hi])
