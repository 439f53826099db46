theorem xm255 : ∀ i, i < 32 → (255#32).getLsbD i = decide (i < 8) := by decide
theorem xbv_shift (x : BitVec 64) (s : Nat) (hs : s ≤ 56) : (x >>> s).signExtend 32 &&& 255#32 = (x.sshiftRight s).signExtend 32 &&& 255#32 := by
  apply BitVec.eq_of_getLsbD_eq
  intro i hi
  rw [BitVec.getLsbD_and, BitVec.getLsbD_and, xm255 i hi]
  by_cases h : i < 8
  · rw [BitVec.getLsbD_signExtend, BitVec.getLsbD_signExtend, BitVec.getLsbD_ushiftRight, BitVec.getLsbD_sshiftRight]
    have h1 : i < 64 := by omega
    have h2 : s + i < 64 := by omega
    have h3 : ¬ 64 ≤ i := by omega
    simp [h1, h2, h3, hi]
  · simp [h]
theorem xbv_byte (x : BitVec 32) : (((x.signExtend 8).signExtend 32).signExtend 8).signExtend 32 &&& 255#32 = x &&& 255#32 := by
  apply BitVec.eq_of_getLsbD_eq
  intro i hi
  rw [BitVec.getLsbD_and, BitVec.getLsbD_and, xm255 i hi]
  by_cases h : i < 8
  · rw [BitVec.getLsbD_signExtend, BitVec.getLsbD_signExtend, BitVec.getLsbD_signExtend, BitVec.getLsbD_signExtend]
    simp [h, hi]
  · simp [h]
theorem xbyte (x : Int32) : vp_nar .byte x.toInt8.toInt32 &&& 255 = x &&& 255 := by
  apply Int32.toBitVec_inj.1
  exact xbv_byte x.toBitVec
theorem xsh_cases (x : Int64) (v : Int32) (h0 : 0 ≤ v.toInt) (h7 : v.toInt ≤ 7) : (xlushr x (8 * v)).toInt32 &&& 255 = (x >>> ((8 * v).toInt64 &&& 63)).toInt32 &&& 255 := by
  have hv : v = 0 ∨ v = 1 ∨ v = 2 ∨ v = 3 ∨ v = 4 ∨ v = 5 ∨ v = 6 ∨ v = 7 := by
    simp only [xi_eq]
    have e0 : (0 : Int32).toInt = 0 := rfl
    have e1 : (1 : Int32).toInt = 1 := rfl
    have e2 : (2 : Int32).toInt = 2 := rfl
    have e3 : (3 : Int32).toInt = 3 := rfl
    have e4 : (4 : Int32).toInt = 4 := rfl
    have e5 : (5 : Int32).toInt = 5 := rfl
    have e6 : (6 : Int32).toInt = 6 := rfl
    have e7 : (7 : Int32).toInt = 7 := rfl
    omega
  rcases hv with rfl | rfl | rfl | rfl | rfl | rfl | rfl | rfl
  · exact Int32.toBitVec_inj.1 (xbv_shift x.toBitVec 0 (by decide))
  · exact Int32.toBitVec_inj.1 (xbv_shift x.toBitVec 8 (by decide))
  · exact Int32.toBitVec_inj.1 (xbv_shift x.toBitVec 16 (by decide))
  · exact Int32.toBitVec_inj.1 (xbv_shift x.toBitVec 24 (by decide))
  · exact Int32.toBitVec_inj.1 (xbv_shift x.toBitVec 32 (by decide))
  · exact Int32.toBitVec_inj.1 (xbv_shift x.toBitVec 40 (by decide))
  · exact Int32.toBitVec_inj.1 (xbv_shift x.toBitVec 48 (by decide))
  · exact Int32.toBitVec_inj.1 (xbv_shift x.toBitVec 56 (by decide))
