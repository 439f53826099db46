/-! Calls: declare, value. -/
theorem RB.bodyStart {hc hr : xI} (R : RB hc hr) (f : Int32) (h0 : 0 ≤ f.toInt) (h1 : f.toInt ≤ 6) : f_c_bodyStart f hc = some (hr 29 f.toInt.toNat) := by
  unfold f_c_bodyStart
  have e1 : (1 : Int32).toInt = 1 := rfl
  by_cases hf : f = 0
  · rw [if_pos hf, hf]
    show some (0 : Int32) = some (hr 29 0)
    rw [R.from0]
  · have hf' : f.toInt ≠ 0 := fun e => hf (xi_eq.mpr (by rw [e]; rfl))
    have hs : (f - 1).toInt = f.toInt - 1 := by rw [xi_sub (by omega) (by omega), e1]
    rw [if_neg hf, xgd_ok (by omega) (by omega), R.ends, xi_nat, hs]
    have : (f.toInt - 1).toNat + 1 = f.toInt.toNat := by omega
    rw [this]
theorem RB.loose {hc hr : xI} (R : RB hc hr) : f_c_hasLooseWords hc = some (if hr 27 2 ≤ hr 29 (hr 27 4).toInt.toNat then 0 else 1) := by
  unfold f_c_hasLooseWords
  have hb := R.fnsB
  rw [R.fns, R.bodyStart _ hb.1 hb.2, R.len]
  show (if _ then _ else _) = _
  split <;> rfl
theorem RB.declare {hc hr : xI} (R : RB hc hr) (a b d : Int32) (g : xJ) : Agree (Post hc hr) (f_l_declare a b d hc g) (f_m_declare a b d hr) := by
  have e0 : (0 : Int32).toInt = 0 := rfl
  have e1 : (1 : Int32).toInt = 1 := rfl
  have e4 : (4 : Int32).toInt = 4 := rfl
  have e6 : (6 : Int32).toInt = 6 := rfl
  have hb := R.lenB
  have hf := R.fnsB
  have hlast := R.last
  have no1 : Agree (Post hc hr) (some (1, hc, g)) (some (0, xput hr 27 0 1)) := ⟨_, _, _, _, _, rfl, rfl, rfl, fun h => absurd h (by decide), Post.thrown R 1⟩
  have no2 : Agree (Post hc hr) (some (2, hc, g)) (some (0, xput hr 27 0 2)) := ⟨_, _, _, _, _, rfl, rfl, rfl, fun h => absurd h (by decide), Post.thrown R 2⟩
  have m28 : f_m_declare_28 a b d hr = some (0, xput hr 27 0 1) := rfl
  have m64 : f_m_declare_64 a b d hr = some (0, xput hr 27 0 2) := rfl
  unfold f_l_declare f_w_declare f_m_declare f_c_isSignature f_w_declare_46
  rw [m28, m64, R.status]
  by_cases h1 : a < 0
  · rw [if_pos h1, if_pos h1]; exact no1
  rw [if_neg h1, if_neg h1]
  by_cases h2 : 4 < a
  · rw [if_pos h2, if_pos h2]; exact no1
  rw [if_neg h2, if_neg h2]
  by_cases h3 : b < 0
  · rw [if_pos h3, if_pos h3]; exact no1
  rw [if_neg h3, if_neg h3]
  by_cases h4 : 4 < b
  · rw [if_pos h4, if_pos h4]; exact no1
  rw [if_neg h4, if_neg h4]
  by_cases h5 : d < 0
  · rw [if_pos h5, if_pos h5]; exact no1
  rw [if_neg h5, if_neg h5]
  by_cases h6 : d ≤ 1
  case neg =>
    have : (1 : Int32) < d := by rw [xi_lt]; rw [xi_le] at h6; omega
    rw [if_neg h6, if_pos this]; exact no1
  have h6' : ¬ (1 : Int32) < d := by rw [xi_lt]; rw [xi_le] at h6; omega
  rw [if_pos h6, if_neg h6', if_neg (by decide)]
  by_cases hs : hr 27 1 = 0
  case neg => rw [if_neg hs, if_neg hs]; exact no2
  rw [if_pos hs, if_pos hs]
  unfold f_c_hasRoomForFunction
  rw [R.fns]
  by_cases h7 : hr 27 4 = 6
  · have : (6 : Int32) ≤ hr 27 4 := by rw [h7]; decide
    rw [if_pos h7, if_pos this, if_pos rfl]; exact no2
  have h7i : (hr 27 4).toInt ≠ 6 := fun e => h7 (xi_eq.mpr (by rw [e, e6]))
  have h7' : ¬ (6 : Int32) ≤ hr 27 4 := by rw [xi_le]; omega
  rw [if_neg h7, if_neg h7', if_neg (by decide), xgd_ok hf.1 (by omega), R.loose, xi_nat]
  by_cases h8 : hr 29 (hr 27 4).toInt.toNat = hr 27 2
  · rw [if_pos h8, h8, if_pos (by rw [xi_le]; omega)]
    exact no2
  have h8i : (hr 29 (hr 27 4).toInt.toNat).toInt ≠ (hr 27 2).toInt := fun e => h8 (xi_eq.mpr e)
  rw [if_neg h8, if_neg (c := hr 27 2 ≤ hr 29 (hr 27 4).toInt.toNat) (by rw [xi_le]; omega)]
  have ha : (hr 27 4 + 1).toInt = (hr 27 4).toInt + 1 := xi_add (by omega) (by omega)
  have hab : (a + b).toInt = a.toInt + b.toInt := by
    rw [xi_lt] at h1 h2 h3 h4
    exact xi_add (by omega) (by omega)
  have hsub : hr 27 4 + 1 - 1 = hr 27 4 := by
    rw [xi_eq, xi_sub (by omega) (by omega), ha]
    omega
  unfold f_c_addFunction f_m_declare_69
  rw [R.fns, if_pos (by decide), R.len]
  simp only [xgd_ok hf.1 (show (hr 27 4).toInt < (6 : Nat) by omega), xgd_ok (show 0 ≤ (hr 27 4 + 1).toInt by omega) (show (hr 27 4 + 1).toInt < (7 : Nat) by omega), hsub]
  refine ⟨0, _, _, _, _, rfl, rfl, ?_, ?_, ?_, .inl ?_⟩
  · simp [f_m_thrown, xput_at]
  · intro _
    rw [xputL_at]
    exact lg_same _
  · have hn1 : (hr 27 4 + 1).toNatClampNeg = (hr 27 4).toNatClampNeg + 1 := by rw [xi_nat, xi_nat, ha]; omega
    have hn : (hr 27 4).toNatClampNeg = (hr 27 4).toInt.toNat := rfl
    rw [xi_lt] at h1 h2 h3 h4 h5
    rw [xi_le] at h6
    obtain ⟨r1, r2, r3, r4, r5, r6, r7, r8, r9, r10, r11, r12, r13, r14, r15, r16, r17, r18, r19, r20, r21, r22, r23, r24, r25, r26, r27, r28⟩ := R
    refine ⟨?_, ?_, ?_, ?_, ?_, ?_, ?_, ?_, ?_, ?_, ?_, ?_, ?_, ?_, ?_, ?_, ?_, ?_, ?_, ?_, ?_, ?_, ?_, ?_, ?_, ?_, ?_, ?_⟩ <;> simp only [xput_at, Nat.reduceEqDiff, reduceIte] <;> try assumption
    · omega
    · rw [if_neg (by omega)]; exact r14
    · intro f
      rw [hn1]
      by_cases hq : f = (hr 27 4).toNatClampNeg
      · rw [if_pos hq, if_pos (by omega)]
      · rw [if_neg hq, if_neg (by omega)]; exact r15 f
    · intro f; rw [r16 f]
    · intro f
      by_cases hq : f = (hr 27 4).toNatClampNeg
      · rw [if_pos hq]; omega
      · rw [if_neg hq]; exact r17 f
    · intro f
      by_cases hq : f = (hr 27 4).toNatClampNeg
      · rw [if_pos hq, if_pos hq, if_pos hq]
      · rw [if_neg hq, if_neg hq, if_neg hq]; exact r18 f
    · intro f
      by_cases hq : f = (hr 27 4).toNatClampNeg
      · rw [if_pos hq]; omega
      · rw [if_neg hq]; exact r19 f
    · intro f; rw [r20 f]
    · intro f
      by_cases hq : f = (hr 27 4).toNatClampNeg
      · rw [if_pos hq]
        simp only [xi_eq]
        omega
      · rw [if_neg hq]; exact r21 f
    · intro f h
      rw [ha] at h
      rw [hn1]
      by_cases hq : f = (hr 27 4).toNatClampNeg
      · rw [if_neg (by omega), if_pos (by omega), hq, hn]
        omega
      · rw [if_neg (by omega), if_neg (by omega)]
        exact r22 f (by omega)
    · rw [ha, hn1, if_pos (by omega)]
      omega
  · simp [xput_at, hs]
