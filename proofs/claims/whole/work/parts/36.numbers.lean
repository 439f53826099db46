/-! The arithmetic. -/
theorem xand31 (x : BitVec 32) : (x &&& 31#32).toNat = x.toNat % 32 := by
  rw [BitVec.toNat_and]
  exact Nat.and_two_pow_sub_one_eq_mod x.toNat 5
theorem xrotB (x : BitVec 32) : (-x) &&& 31#32 = (32#32 - (x &&& 31#32)) &&& 31#32 := by
  apply BitVec.eq_of_toNat_eq
  rw [xand31, xand31, BitVec.toNat_neg, BitVec.toNat_sub, xand31]
  have h := x.isLt
  have e : (32#32).toNat = 32 := rfl
  rw [e]
  omega
theorem xrot (b : Int32) : (-b) &&& 31 = (32 - (b &&& 31)) &&& 31 := Int32.toBitVec_inj.1 (xrotB b.toBitVec)
theorem xrotU (a b : Int32) : xushr a (-b) = xushr a (32 - (b &&& 31)) := by
  unfold xushr
  have : (-b).toUInt32 &&& Int32.toUInt32 31 = (32 - (b &&& 31)).toUInt32 &&& Int32.toUInt32 31 := UInt32.toBitVec_inj.1 (xrotB b.toBitVec)
  rw [this]
theorem xtwo (op a b : Int32) : f_n_ofTwo op a b = f_m_reckon op a b := by
  unfold f_n_ofTwo f_m_reckon
  rw [xrot, xrotU]
