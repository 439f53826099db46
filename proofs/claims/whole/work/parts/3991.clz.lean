/-! Leading zeros alike. -/
theorem cT_none {a : Int32} : ∀ k, (∀ i, i < k → a.toBitVec.getLsbD i = false) → cT a k = 32 := by
  intro k
  induction k with
  | zero => intro _; rfl
  | succ k ih =>
    intro h
    unfold cT
    rw [if_neg (by rw [h k (by omega)]; decide)]
    exact ih (fun i hi => h i (by omega))
theorem cT_high {a : Int32} {j : Nat} (h1 : a.toBitVec.getLsbD j = true) (h0 : ∀ i, j < i → i < 32 → a.toBitVec.getLsbD i = false) : ∀ d, j + 1 + d ≤ 32 → cT a (j + 1 + d) = 31 - Int32.ofNat j := by
  intro d
  induction d with
  | zero =>
    intro _
    show (if a.toBitVec.getLsbD j = true then 31 - Int32.ofNat j else cT a j) = _
    rw [if_pos h1]
  | succ d ih =>
    intro hd
    show (if a.toBitVec.getLsbD (j + 1 + d) = true then 31 - Int32.ofNat (j + 1 + d) else cT a (j + 1 + d)) = _
    rw [if_neg (by rw [h0 _ (by omega) (by omega)]; decide)]
    exact ih (by omega)
theorem xclz_all (a : Int32) : f_i_numberOfLeadingZeros a = cT a 32 := by
  have e0 : (0 : Int32).toInt = 0 := rfl
  by_cases hp : 1 ≤ a.toInt
  · obtain ⟨k, h1, h2, h3⟩ := xlz hp
    have rg := xi_rng a
    have tn : a.toInt = (a.toBitVec.toNat : Int) := by
      have := xi_toNat (x := a) (by omega)
      show a.toBitVec.toInt = _
      rw [BitVec.toInt_eq_toNat_cond, if_pos this]
    rw [tn] at h1 h2
    have h1' : 2 ^ k ≤ a.toBitVec.toNat := by exact_mod_cast h1
    have h2' : a.toBitVec.toNat < 2 ^ (k + 1) := by exact_mod_cast h2
    have hk : k < 31 := by
      by_cases c : k < 31
      · exact c
      · have : 2 ^ 31 ≤ 2 ^ k := Nat.pow_le_pow_right (by omega) (by omega)
        omega
    have b1 : a.toBitVec.getLsbD k = true := Nat.testBit_of_two_pow_le_and_two_pow_add_one_gt h1' h2'
    have b0 : ∀ i, k < i → i < 32 → a.toBitVec.getLsbD i = false := by
      intro i hi _
      refine Nat.testBit_lt_two_pow (Nat.lt_of_lt_of_le h2' ?_)
      exact Nat.pow_le_pow_right (by omega) (by omega)
    have h := cT_high b1 b0 (31 - k) (by omega)
    rw [show k + 1 + (31 - k) = 32 by omega] at h
    have e31 : (31 : Int32).toInt = 31 := rfl
    have ek : (Int32.ofNat k).toInt = k := xi_ofNat (by omega)
    rw [h, xi_eq, h3, xi_sub (by omega) (by omega), e31, ek]
  · unfold f_i_numberOfLeadingZeros
    rw [if_neg (by rw [xi_lt]; omega)]
    by_cases hz : a = 0
    · rw [if_pos hz, hz]
      decide +kernel
    · rw [if_neg hz]
      have hn : a.toInt < 0 := by
        have : a.toInt ≠ 0 := fun e => hz (xi_eq.mpr (by rw [e, e0]))
        omega
      have b : a.toBitVec.getLsbD 31 = true := by
        have m : a.toBitVec.msb = true := by
          rw [BitVec.msb_eq_toInt]
          exact decide_eq_true hn
        rw [BitVec.msb_eq_getLsbD_last] at m
        exact m
      have h := cT_high b (fun i h1 h2 => by omega) 0 (by omega)
      rw [h]
      decide
