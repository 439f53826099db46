/-! The arithmetic. -/
theorem xand31 (x : BitVec 32) : (x &&& 31#32).toNat = x.toNat % 32 := by
  rw [BitVec.toNat_and]
  exact Nat.and_two_pow_sub_one_eq_mod x.toNat 5
theorem xrotB (x : BitVec 32) : (-x) &&& 31#32 = (32#32 - (x &&& 31#32)) &&& 31#32 := by
  apply BitVec.eq_of_toNat_eq
  rw [xand31, xand31, BitVec.toNat_neg, BitVec.toNat_sub, xand31]
  have h := x.isLt
  have e : (32#32).toNat = 32 := rfl
  rw [e]
  omega
theorem xrot (b : Int32) : (-b) &&& 31 = (32 - (b &&& 31)) &&& 31 := Int32.toBitVec_inj.1 (xrotB b.toBitVec)
theorem xrotU (a b : Int32) : xushr a (-b) = xushr a (32 - (b &&& 31)) := by
  unfold xushr
  have : (-b).toUInt32 &&& Int32.toUInt32 31 = (32 - (b &&& 31)).toUInt32 &&& Int32.toUInt32 31 := UInt32.toBitVec_inj.1 (xrotB b.toBitVec)
  rw [this]
theorem xtwo (op a b : Int32) : f_n_ofTwo op a b = f_m_reckon op a b := by
  unfold f_n_ofTwo f_m_reckon
  rw [xrot, xrotU]
theorem xcmp (op a b : Int32) : f_m_compare op a b = some (f_n_compared op a b) := by
  have hcu : f_i_compareUnsigned a b = if b + (-2147483648) ≤ a + (-2147483648) then (if a + (-2147483648) = b + (-2147483648) then 0 else 1) else -1 := rfl
  have hb1 : f_m_below a b = if b + (-2147483648) ≤ a + (-2147483648) then 0 else 1 := rfl
  have hb2 : f_m_below b a = if a + (-2147483648) ≤ b + (-2147483648) then 0 else 1 := rfl
  unfold f_m_compare f_n_compared f_n_isTrue xb01
  rw [hcu, hb1, hb2]
  generalize a + (-2147483648) = A
  generalize b + (-2147483648) = B
  by_cases c0 : op = 70
  · simp only [if_pos c0]; split <;> rfl
  simp only [if_neg c0]
  by_cases c1 : op = 71
  · simp only [if_pos c1]; split <;> rfl
  simp only [if_neg c1]
  by_cases c2 : op = 72
  · simp only [if_pos c2]; split <;> rfl
  simp only [if_neg c2]
  by_cases d1 : B ≤ A
  · simp only [if_pos d1]
    by_cases d2 : A = B
    · have d3 : A ≤ B := by rw [d2]; exact Int32.le_refl B
      simp only [if_pos d2, if_pos d3]
      by_cases c3 : op = 73
      · simp only [if_pos c3]; rfl
      simp only [if_neg c3]
      by_cases c4 : op = 74
      · simp only [if_pos c4]; split <;> rfl
      simp only [if_neg c4]
      by_cases c5 : op = 75
      · simp only [if_pos c5]; rfl
      simp only [if_neg c5]
      by_cases c6 : op = 76
      · simp only [if_pos c6]; split <;> rfl
      simp only [if_neg c6]
      by_cases c7 : op = 77
      · simp only [if_pos c7]; rfl
      simp only [if_neg c7]
      by_cases c8 : op = 78
      · simp only [if_pos c8]; split <;> rfl
      simp only [if_neg c8]
      rfl
    · have d3 : ¬ A ≤ B := by
        rw [xi_le] at d1 ⊢
        rw [xi_eq] at d2
        omega
      simp only [if_neg d2, if_neg d3]
      by_cases c3 : op = 73
      · simp only [if_pos c3]; rfl
      simp only [if_neg c3]
      by_cases c4 : op = 74
      · simp only [if_pos c4]; split <;> rfl
      simp only [if_neg c4]
      by_cases c5 : op = 75
      · simp only [if_pos c5]; rfl
      simp only [if_neg c5]
      by_cases c6 : op = 76
      · simp only [if_pos c6]; split <;> rfl
      simp only [if_neg c6]
      by_cases c7 : op = 77
      · simp only [if_pos c7]; rfl
      simp only [if_neg c7]
      by_cases c8 : op = 78
      · simp only [if_pos c8]; split <;> rfl
      simp only [if_neg c8]
      rfl
  · have d3 : A ≤ B := by
      rw [xi_le] at d1 ⊢
      omega
    simp only [if_neg d1, if_pos d3]
    by_cases c3 : op = 73
    · simp only [if_pos c3]; rfl
    simp only [if_neg c3]
    by_cases c4 : op = 74
    · simp only [if_pos c4]; split <;> rfl
    simp only [if_neg c4]
    by_cases c5 : op = 75
    · simp only [if_pos c5]; rfl
    simp only [if_neg c5]
    by_cases c6 : op = 76
    · simp only [if_pos c6]; split <;> rfl
    simp only [if_neg c6]
    by_cases c7 : op = 77
    · simp only [if_pos c7]; rfl
    simp only [if_neg c7]
    by_cases c8 : op = 78
    · simp only [if_pos c8]; split <;> rfl
    simp only [if_neg c8]
    rfl
theorem xdivm (a : Int32) : a / -1 = -a := by
  have e : (-1 : Int32).toInt = -1 := rfl
  have h : (a / -1).toInt = (-a).toInt := by
    rw [Int32.toInt_div, e, Int.tdiv_neg, Int.tdiv_one, Int32.toInt_neg]
  exact Int32.toInt_inj.mp h
theorem xremm (a : Int32) : a - a / -1 * -1 = 0 := by
  rw [xdivm, Int32.mul_neg, Int32.mul_one, Int32.neg_neg, Int32.sub_self]
theorem xdivide {op a b : Int32} (hb : b ≠ 0) : f_n_divided op a b = f_m_divide op a b := by
  unfold f_n_divided f_m_divide f_i_toUnsignedLong
  rw [if_neg hb]
  by_cases c0 : op = 109
  · simp only [if_pos c0]
  simp only [if_neg c0]
  by_cases c1 : op = 110
  · simp only [if_pos c1]
  simp only [if_neg c1]
  by_cases c2 : op = 111
  · simp only [if_pos c2]
    by_cases hm : b = -1
    · rw [if_pos hm, hm]
      unfold xdz
      rw [if_neg (by decide), xremm]
    · rw [if_neg hm]
  simp only [if_neg c2]
