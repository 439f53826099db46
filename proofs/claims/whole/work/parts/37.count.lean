/-! Counting bits. -/
theorem xbv_ush (y : BitVec 32) (n : Nat) (h : 2 * y.toNat < 2 ^ 32) : (y >>> n).toInt = y.toInt / (2 : Int) ^ n := by
  have h2 : (y >>> n).toNat = y.toNat / 2 ^ n := by rw [BitVec.toNat_ushiftRight, Nat.shiftRight_eq_div_pow]
  have h3 : y.toNat / 2 ^ n ≤ y.toNat := Nat.div_le_self _ _
  rw [BitVec.toInt_eq_toNat_of_lt (by rw [h2]; omega), BitVec.toInt_eq_toNat_of_lt h, h2]
  simp
theorem xi_toNat {x : Int32} (h : 0 ≤ x.toInt) : 2 * x.toBitVec.toNat < 2 ^ 32 := by
  have e : x.toInt = x.toBitVec.toInt := rfl
  rw [e, BitVec.toInt_eq_toNat_cond] at h
  split at h
  · assumption
  · have := x.toBitVec.isLt
    omega
theorem xush16 {x : Int32} (h : 0 ≤ x.toInt) : (xushr x 16).toInt = x.toInt / 65536 := xbv_ush x.toBitVec 16 (xi_toNat h)
theorem xush8 {x : Int32} (h : 0 ≤ x.toInt) : (xushr x 8).toInt = x.toInt / 256 := xbv_ush x.toBitVec 8 (xi_toNat h)
theorem xush4 {x : Int32} (h : 0 ≤ x.toInt) : (xushr x 4).toInt = x.toInt / 16 := xbv_ush x.toBitVec 4 (xi_toNat h)
theorem xush2 {x : Int32} (h : 0 ≤ x.toInt) : (xushr x 2).toInt = x.toInt / 4 := xbv_ush x.toBitVec 2 (xi_toNat h)
theorem xush1 {x : Int32} (h : 0 ≤ x.toInt) : (xushr x 1).toInt = x.toInt / 2 := xbv_ush x.toBitVec 1 (xi_toNat h)
