theorem xpw (k m : Nat) : (2 : Int) ^ (k + m) = 2 ^ k * 2 ^ m := Int.pow_add 2 k m
theorem xlz61 {v w : Int32} (h1 : 1 ≤ v.toInt) (h2 : v.toInt < 16) (h3 : -100 ≤ w.toInt) (h4 : w.toInt ≤ 31) : ∃ k : Nat, (2 : Int) ^ k ≤ v.toInt ∧ v.toInt < 2 ^ (k + 1) ∧ (f_i_numberOfLeadingZeros_61 v w).toInt = w.toInt - k := by
  have e4 : (4 : Int32).toInt = 4 := rfl
  have em : (-2 : Int32).toInt = -2 := rfl
  have eb := @xush2 v (by omega)
  have ea : (w + -2).toInt = w.toInt - 2 := by rw [xi_add (by omega) (by omega), em]; rfl
  unfold f_i_numberOfLeadingZeros_61 f_i_numberOfLeadingZeros_73
  by_cases hc : v < 4
  · rw [if_pos hc]
    rw [xi_lt, e4] at hc
    have ec := @xush1 v (by omega)
    rw [xi_sub (by omega) (by omega), ec]
    by_cases hv : v.toInt < 2
    · exact ⟨0, by omega, by omega, by omega⟩
    · exact ⟨1, by omega, by omega, by omega⟩
  · rw [if_neg hc]
    rw [xi_lt, e4] at hc
    have ec := @xush1 (xushr v 2) (by omega)
    rw [xi_sub (by omega) (by omega), ec, eb, ea]
    by_cases hv : v.toInt < 8
    · exact ⟨2, by omega, by omega, by omega⟩
    · exact ⟨3, by omega, by omega, by omega⟩
theorem xlz48 {v w : Int32} (h1 : 1 ≤ v.toInt) (h2 : v.toInt < 256) (h3 : -90 ≤ w.toInt) (h4 : w.toInt ≤ 31) : ∃ k : Nat, (2 : Int) ^ k ≤ v.toInt ∧ v.toInt < 2 ^ (k + 1) ∧ (f_i_numberOfLeadingZeros_48 v w).toInt = w.toInt - k := by
  have el : (16 : Int32).toInt = 16 := rfl
  have em : (-4 : Int32).toInt = -4 := rfl
  have eb := @xush4 v (by omega)
  have ea : (w + -4).toInt = w.toInt - 4 := by rw [xi_add (by omega) (by omega), em]; rfl
  unfold f_i_numberOfLeadingZeros_48
  by_cases hc : v < 16
  · rw [if_pos hc]
    rw [xi_lt, el] at hc
    exact xlz61 h1 hc (by omega) h4
  · rw [if_neg hc]
    rw [xi_lt, el] at hc
    obtain ⟨k, a1, a2, a3⟩ := @xlz61 (xushr v 4) (w + -4) (by omega) (by omega) (by omega) (by omega)
    refine ⟨k + 4, ?_, ?_, ?_⟩
    · rw [xpw k 4]
      have : (2 : Int) ^ 4 = 16 := rfl
      rw [this]
      omega
    · have e2 : k + 4 + 1 = k + 1 + 4 := by omega
      rw [e2, xpw (k + 1) 4]
      have : (2 : Int) ^ 4 = 16 := rfl
      rw [this]
      omega
    · rw [a3, ea]
      omega
theorem xlz33 {v w : Int32} (h1 : 1 ≤ v.toInt) (h2 : v.toInt < 65536) (h3 : -80 ≤ w.toInt) (h4 : w.toInt ≤ 31) : ∃ k : Nat, (2 : Int) ^ k ≤ v.toInt ∧ v.toInt < 2 ^ (k + 1) ∧ (f_i_numberOfLeadingZeros_33 v w).toInt = w.toInt - k := by
  have el : (256 : Int32).toInt = 256 := rfl
  have em : (-8 : Int32).toInt = -8 := rfl
  have eb := @xush8 v (by omega)
  have ea : (w + -8).toInt = w.toInt - 8 := by rw [xi_add (by omega) (by omega), em]; rfl
  unfold f_i_numberOfLeadingZeros_33
  by_cases hc : v < 256
  · rw [if_pos hc]
    rw [xi_lt, el] at hc
    exact xlz48 h1 hc (by omega) h4
  · rw [if_neg hc]
    rw [xi_lt, el] at hc
    obtain ⟨k, a1, a2, a3⟩ := @xlz48 (xushr v 8) (w + -8) (by omega) (by omega) (by omega) (by omega)
    refine ⟨k + 8, ?_, ?_, ?_⟩
    · rw [xpw k 8]
      have : (2 : Int) ^ 8 = 256 := rfl
      rw [this]
      omega
    · have e2 : k + 8 + 1 = k + 1 + 8 := by omega
      rw [e2, xpw (k + 1) 8]
      have : (2 : Int) ^ 8 = 256 := rfl
      rw [this]
      omega
    · rw [a3, ea]
      omega
theorem xlz {v : Int32} (h1 : 1 ≤ v.toInt) : ∃ k : Nat, (2 : Int) ^ k ≤ v.toInt ∧ v.toInt < 2 ^ (k + 1) ∧ (f_i_numberOfLeadingZeros v).toInt = 31 - k := by
  have hr := xi_rng v
  have el : (65536 : Int32).toInt = 65536 := rfl
  have e0 : (0 : Int32).toInt = 0 := rfl
  have e31 : (31 : Int32).toInt = 31 := rfl
  have e15 : ((31 : Int32) + -16).toInt = 15 := rfl
  have eb := @xush16 v (by omega)
  unfold f_i_numberOfLeadingZeros
  rw [if_pos (by rw [xi_lt]; omega)]
  by_cases hc : v < 65536
  · rw [if_pos hc]
    rw [xi_lt, el] at hc
    exact xlz33 h1 hc (by omega) (by omega)
  · rw [if_neg hc]
    rw [xi_lt, el] at hc
    obtain ⟨k, a1, a2, a3⟩ := @xlz33 (xushr v 16) ((31 : Int32) + -16) (by omega) (by omega) (by omega) (by omega)
    refine ⟨k + 16, ?_, ?_, ?_⟩
    · rw [xpw k 16]
      have : (2 : Int) ^ 16 = 65536 := rfl
      rw [this]
      omega
    · have e2 : k + 16 + 1 = k + 1 + 16 := by omega
      rw [e2, xpw (k + 1) 16]
      have : (2 : Int) ^ 16 = 65536 := rfl
      rw [this]
      omega
    · rw [a3, e15]
      omega
