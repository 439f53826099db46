/-! An int as an unsigned long. -/
theorem xm32 : ∀ i, i < 64 → (4294967295#64).getLsbD i = decide (i < 32) := by decide
theorem xulB (x : BitVec 32) : x.signExtend 64 &&& 4294967295#64 = x.setWidth 64 := by
  apply BitVec.eq_of_getLsbD_eq
  intro i hi
  rw [BitVec.getLsbD_and, BitVec.getLsbD_signExtend, BitVec.getLsbD_setWidth, xm32 i hi]
  by_cases h : i < 32
  · simp [h, hi]
  · have : x.getLsbD i = false := BitVec.getLsbD_of_ge x i (by omega)
    simp [h, this]
theorem xulV (a : Int32) : (f_i_toUnsignedLong a).toInt = (a.toBitVec.toNat : Int) := by
  have e : (f_i_toUnsignedLong a).toBitVec = a.toBitVec.setWidth 64 := xulB a.toBitVec
  show (f_i_toUnsignedLong a).toBitVec.toInt = _
  have lt := a.toBitVec.isLt
  have n : (a.toBitVec.setWidth 64).toNat = a.toBitVec.toNat := by
    rw [BitVec.toNat_setWidth]
    omega
  rw [e, BitVec.toInt_eq_toNat_cond, n, if_pos (by omega)]
theorem xul0 {a : Int32} (h : ¬ a = 0) : ¬ f_i_toUnsignedLong a = 0 := by
  intro e
  have v := xulV a
  rw [e] at v
  have z : (0 : Int64).toInt = 0 := rfl
  have n : a.toBitVec.toNat = 0 := by omega
  exact h (Int32.toBitVec_inj.mp (BitVec.eq_of_toNat_eq n))
