/-! The ones below the lowest bit. -/
theorem xlowN (n k : Nat) (h1 : n.testBit k = true) (h0 : ∀ i, i < k → n.testBit i = false) : ∃ q, n = 2 ^ k * (2 * q + 1) := by
  have hz : n % 2 ^ k = 0 := by
    apply Nat.eq_of_testBit_eq
    intro i
    rw [Nat.testBit_mod_two_pow, Nat.zero_testBit]
    by_cases hi : i < k
    · rw [h0 i hi]; simp
    · simp [hi]
  obtain ⟨p, hp⟩ := Nat.dvd_of_mod_eq_zero hz
  have hb : p.testBit 0 = true := by
    rw [hp] at h1
    have := Nat.testBit_two_pow_mul (i := k) (a := p) (j := k)
    rw [h1] at this
    simpa using this.symm
  rw [Nat.testBit_zero] at hb
  have hb' : p % 2 = 1 := by simpa using hb
  exact ⟨p / 2, by rw [hp]; congr 1; omega⟩
theorem xlow (x : BitVec 32) (k : Nat) (hk : k < 32) (h1 : x.getLsbD k = true) (h0 : ∀ i, i < k → x.getLsbD i = false) : (x ^^^ BitVec.allOnes 32) &&& (x - 1#32) = BitVec.ofNat 32 (2 ^ k - 1) := by
  obtain ⟨q, hq⟩ := xlowN x.toNat k h1 h0
  have hp : 0 < 2 ^ k := Nat.two_pow_pos k
  have hlt := x.isLt
  have hs : (x - 1#32).toNat = 2 ^ k * (2 * q) + (2 ^ k - 1) := by
    rw [BitVec.toNat_sub]
    have e1 : (1#32).toNat = 1 := rfl
    rw [e1, hq, Nat.mul_add]
    have : 2 ^ k * (2 * q) + 2 ^ k * 1 < 2 ^ 32 := by rw [← Nat.mul_add, ← hq]; exact hlt
    omega
  apply BitVec.eq_of_getLsbD_eq
  intro i hi
  have ha : (x - 1#32).getLsbD i = (2 ^ k * (2 * q) + (2 ^ k - 1)).testBit i := by rw [BitVec.getLsbD, hs]
  have hx : x.getLsbD i = (2 ^ k * (2 * q + 1)).testBit i := by rw [BitVec.getLsbD, hq]
  rw [BitVec.getLsbD_and, BitVec.getLsbD_xor, ha, Nat.testBit_two_pow_mul_add _ (by omega)]
  simp only [BitVec.getLsbD_allOnes, BitVec.getLsbD_ofNat, Nat.testBit_two_pow_sub_one, hi, decide_true, Bool.true_and]
  by_cases hik : i < k
  · simp [hik, h0 i hik]
  · rw [if_neg hik, hx, Nat.testBit_two_pow_mul]
    cases hj : i - k with
    | zero => simp [hik, Nat.testBit_zero]
    | succ j =>
      have e1 : (2 * q + 1).testBit (j + 1) = q.testBit j := by rw [Nat.testBit_succ]; congr 1; omega
      have e2 : (2 * q).testBit (j + 1) = q.testBit j := by rw [Nat.testBit_succ]; congr 1; omega
      have hge : k ≤ i := by omega
      rw [e1, e2]
      cases q.testBit j <;> simp [hik, hge]
theorem xctz {a : Int32} {k : Nat} (hk : k < 32) (h1 : a.toBitVec.getLsbD k = true) (h0 : ∀ i, i < k → a.toBitVec.getLsbD i = false) : f_i_numberOfTrailingZeros a = Int32.ofNat k := by
  have e : (a ^^^ -1) &&& (a - 1) = Int32.ofNat (2 ^ k - 1) := Int32.toBitVec_inj.1 (xlow a.toBitVec k hk h1 h0)
  rw [xtz_of, e]
  exact xtzg_ones ⟨k, hk⟩
theorem xctz_zero : f_i_numberOfTrailingZeros 0 = 32 := by decide +kernel
