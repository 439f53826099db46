/-! Ones alike: the end. -/
def xsum (n : Nat) : Nat → Nat
  | 0 => 0
  | k + 1 => xsum n k + n / 2 ^ k % 2
theorem xsum_le (n : Nat) : ∀ k, xsum n k ≤ k := by
  intro k
  induction k with
  | zero => exact Nat.le_refl _
  | succ k ih =>
    show xsum n k + n / 2 ^ k % 2 ≤ k + 1
    omega
theorem xbitN (x : BitVec 32) (k : Nat) : x.toNat / 2 ^ k % 2 = if x.getLsbD k = true then 1 else 0 := by
  have h : x.getLsbD k = decide (x.toNat / 2 ^ k % 2 = 1) := by
    show x.toNat.testBit k = _
    rw [Nat.testBit_eq_decide_div_mod_eq]
  rw [h]
  by_cases c : x.toNat / 2 ^ k % 2 = 1
  · rw [if_pos (decide_eq_true c), c]
  · rw [if_neg (by rw [decide_eq_false c]; decide)]
    omega
theorem cO_sum (a : Int32) : ∀ k, k ≤ 32 → (cO a k).toInt = xsum a.toBitVec.toNat k := by
  intro k
  induction k with
  | zero => intro _; rfl
  | succ k ih =>
    intro hk
    have i := ih (by omega)
    have l := xsum_le a.toBitVec.toNat k
    have b := xbitN a.toBitVec k
    have e1 : (1 : Int32).toInt = 1 := rfl
    have e0 : (0 : Int32).toInt = 0 := rfl
    show (if a.toBitVec.getLsbD k = true then cO a k + 1 else cO a k + 0).toInt = ((xsum a.toBitVec.toNat k + a.toBitVec.toNat / 2 ^ k % 2 : Nat) : Int)
    by_cases c : a.toBitVec.getLsbD k = true
    · rw [if_pos c] at b ⊢
      rw [xi_add (by omega) (by omega), b]
      omega
    · rw [if_neg c] at b ⊢
      rw [xi_add (by omega) (by omega), b]
      omega
theorem xt8_0 (n : Nat) : n / 2 ^ 0 % 2 = n % 256 % 2 := by omega
theorem xt8_1 (n : Nat) : n / 2 ^ 1 % 2 = n % 256 / 2 % 2 := by omega
theorem xt8_2 (n : Nat) : n / 2 ^ 2 % 2 = n % 256 / 4 % 2 := by omega
theorem xt8_3 (n : Nat) : n / 2 ^ 3 % 2 = n % 256 / 8 % 2 := by omega
theorem xt8_4 (n : Nat) : n / 2 ^ 4 % 2 = n % 256 / 16 % 2 := by omega
theorem xt8_5 (n : Nat) : n / 2 ^ 5 % 2 = n % 256 / 32 % 2 := by omega
theorem xt8_6 (n : Nat) : n / 2 ^ 6 % 2 = n % 256 / 64 % 2 := by omega
theorem xt8_7 (n : Nat) : n / 2 ^ 7 % 2 = n % 256 / 128 % 2 := by omega
theorem xt8_8 (n : Nat) : n / 2 ^ 8 % 2 = n / 256 % 256 % 2 := by omega
theorem xt8_9 (n : Nat) : n / 2 ^ 9 % 2 = n / 256 % 256 / 2 % 2 := by omega
theorem xt8_10 (n : Nat) : n / 2 ^ 10 % 2 = n / 256 % 256 / 4 % 2 := by omega
theorem xt8_11 (n : Nat) : n / 2 ^ 11 % 2 = n / 256 % 256 / 8 % 2 := by omega
theorem xt8_12 (n : Nat) : n / 2 ^ 12 % 2 = n / 256 % 256 / 16 % 2 := by omega
theorem xt8_13 (n : Nat) : n / 2 ^ 13 % 2 = n / 256 % 256 / 32 % 2 := by omega
theorem xt8_14 (n : Nat) : n / 2 ^ 14 % 2 = n / 256 % 256 / 64 % 2 := by omega
theorem xt8_15 (n : Nat) : n / 2 ^ 15 % 2 = n / 256 % 256 / 128 % 2 := by omega
theorem xt8_16 (n : Nat) : n / 2 ^ 16 % 2 = n / 65536 % 256 % 2 := by omega
theorem xt8_17 (n : Nat) : n / 2 ^ 17 % 2 = n / 65536 % 256 / 2 % 2 := by omega
theorem xt8_18 (n : Nat) : n / 2 ^ 18 % 2 = n / 65536 % 256 / 4 % 2 := by omega
theorem xt8_19 (n : Nat) : n / 2 ^ 19 % 2 = n / 65536 % 256 / 8 % 2 := by omega
theorem xt8_20 (n : Nat) : n / 2 ^ 20 % 2 = n / 65536 % 256 / 16 % 2 := by omega
theorem xt8_21 (n : Nat) : n / 2 ^ 21 % 2 = n / 65536 % 256 / 32 % 2 := by omega
theorem xt8_22 (n : Nat) : n / 2 ^ 22 % 2 = n / 65536 % 256 / 64 % 2 := by omega
theorem xt8_23 (n : Nat) : n / 2 ^ 23 % 2 = n / 65536 % 256 / 128 % 2 := by omega
theorem xt8_24 (n : Nat) : n / 2 ^ 24 % 2 = n / 16777216 % 256 % 2 := by omega
theorem xt8_25 (n : Nat) : n / 2 ^ 25 % 2 = n / 16777216 % 256 / 2 % 2 := by omega
theorem xt8_26 (n : Nat) : n / 2 ^ 26 % 2 = n / 16777216 % 256 / 4 % 2 := by omega
theorem xt8_27 (n : Nat) : n / 2 ^ 27 % 2 = n / 16777216 % 256 / 8 % 2 := by omega
theorem xt8_28 (n : Nat) : n / 2 ^ 28 % 2 = n / 16777216 % 256 / 16 % 2 := by omega
theorem xt8_29 (n : Nat) : n / 2 ^ 29 % 2 = n / 16777216 % 256 / 32 % 2 := by omega
theorem xt8_30 (n : Nat) : n / 2 ^ 30 % 2 = n / 16777216 % 256 / 64 % 2 := by omega
theorem xt8_31 (n : Nat) : n / 2 ^ 31 % 2 = n / 16777216 % 256 / 128 % 2 := by omega
theorem xsum32 (n : Nat) : xsum n 32 = xp8 (n % 256) + xp8 (n / 256 % 256) + xp8 (n / 65536 % 256) + xp8 (n / 16777216 % 256) := by
  simp only [xsum, xp8, xt8_0, xt8_1, xt8_2, xt8_3, xt8_4, xt8_5, xt8_6, xt8_7, xt8_8, xt8_9, xt8_10, xt8_11, xt8_12, xt8_13, xt8_14, xt8_15, xt8_16, xt8_17, xt8_18, xt8_19, xt8_20, xt8_21, xt8_22, xt8_23, xt8_24, xt8_25, xt8_26, xt8_27, xt8_28, xt8_29, xt8_30, xt8_31, Nat.zero_add, Nat.add_assoc]
theorem xby4 (n : Nat) (h : n < 2 ^ 32) : n = 16777216 * (n / 16777216 % 256) + 65536 * (n / 65536 % 256) + 256 * (n / 256 % 256) + n % 256 := by omega
theorem xpop_all (a : Int32) : f_i_bitCount a = cO a 32 := by
  have c := cO_sum a 32 (by omega)
  rw [xsum32] at c
  have hx := xby4 a.toBitVec.toNat a.toBitVec.isLt
  have b0 : a.toBitVec.toNat % 256 < 256 := Nat.mod_lt _ (by decide)
  have b1 : a.toBitVec.toNat / 256 % 256 < 256 := Nat.mod_lt _ (by decide)
  have b2 : a.toBitVec.toNat / 65536 % 256 < 256 := Nat.mod_lt _ (by decide)
  have b3 : a.toBitVec.toNat / 16777216 % 256 < 256 := Nat.mod_lt _ (by decide)
  generalize a.toBitVec.toNat % 256 = y0 at *
  generalize a.toBitVec.toNat / 256 % 256 = y1 at *
  generalize a.toBitVec.toNat / 65536 % 256 = y2 at *
  generalize a.toBitVec.toNat / 16777216 % 256 = y3 at *
  obtain ⟨z0, z1, z2, z3, s5, c0, c1, c2, c3⟩ := xpop a.toBitVec y0 y1 y2 y3 hx b0 b1 b2 b3
  have u := xpopZ _ z0 z1 z2 z3 _ _ _ _ s5 c0 c1 c2 c3
  have l0 : xp8 y0 ≤ 8 := xp8le ⟨y0, b0⟩
  have l1 : xp8 y1 ≤ 8 := xp8le ⟨y1, b1⟩
  have l2 : xp8 y2 ≤ 8 := xp8le ⟨y2, b2⟩
  have l3 : xp8 y3 ≤ 8 := xp8le ⟨y3, b3⟩
  have r := xpopU _ _ _ _ _ u l0 l1 l2 l3
  have e : (f_i_bitCount a).toBitVec.toNat = xp8 y0 + xp8 y1 + xp8 y2 + xp8 y3 := r
  clear r u s5 c0 c1 c2 c3 hx
  rw [xi_eq, c]
  show (f_i_bitCount a).toBitVec.toInt = _
  rw [BitVec.toInt_eq_toNat_cond, if_pos (by rw [e]; omega), e]
/-- the words of one operand -/
theorem xone1 {op a : Int32} (h : op = 103 ∨ op = 104 ∨ op = 105) : f_m_count op a = some (f_n_ofOne op a) := by
  rw [xcount]
  unfold f_n_ofOne
  rw [xclz_all, xctz_all, xpop_all]
  rcases h with e | e | e <;> subst e <;> rfl
