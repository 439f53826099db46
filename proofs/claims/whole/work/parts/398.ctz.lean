/-! Trailing zeros alike. -/
theorem xlowest (f : Nat → Bool) : ∀ k, (∀ i, i < k → f i = false) ∨ ∃ j, j < k ∧ f j = true ∧ ∀ i, i < j → f i = false := by
  intro k
  induction k with
  | zero => exact .inl (fun i hi => absurd hi (Nat.not_lt_zero i))
  | succ k ih =>
    rcases ih with h | ⟨j, h1, h2, h3⟩
    · cases hk : f k with
      | true => exact .inr ⟨k, by omega, hk, h⟩
      | false =>
        refine .inl (fun i hi => ?_)
        by_cases e : i = k
        · rw [e]; exact hk
        · exact h i (by omega)
    · exact .inr ⟨j, by omega, h2, h3⟩
theorem cL_none {a : Int32} : ∀ k, (∀ i, i < k → a.toBitVec.getLsbD i = false) → cL a k = 32 := by
  intro k
  induction k with
  | zero => intro _; rfl
  | succ k ih =>
    intro h
    unfold cL
    rw [if_neg (fun c => by rw [h k (by omega)] at c; exact absurd c.1 (by decide))]
    exact ih (fun i hi => h i (by omega))
theorem cL_low {a : Int32} {j : Nat} (h1 : a.toBitVec.getLsbD j = true) (h0 : ∀ i, i < j → a.toBitVec.getLsbD i = false) : ∀ d, j + 1 + d ≤ 32 → cL a (j + 1 + d) = Int32.ofNat j := by
  intro d
  induction d with
  | zero =>
    intro _
    show cL a (j + 1) = _
    unfold cL
    rw [if_pos ⟨h1, cL_none j h0⟩]
  | succ d ih =>
    intro hd
    have h := ih (by omega)
    show cL a ((j + 1 + d) + 1) = _
    unfold cL
    rw [h, if_neg]
    intro c
    have e : (Int32.ofNat j).toInt = j := xi_ofNat (by omega)
    have e32 : (32 : Int32).toInt = 32 := rfl
    have := xi_eq.mp c.2
    omega
theorem xctz_all (a : Int32) : f_i_numberOfTrailingZeros a = cL a 32 := by
  rcases xlowest (fun i => a.toBitVec.getLsbD i) 32 with h | ⟨j, h1, h2, h3⟩
  · have ha : a = 0 := by
      apply Int32.toBitVec_inj.1
      apply BitVec.eq_of_getLsbD_eq
      intro i hi
      rw [h i hi]
      show false = (0#32).getLsbD i
      simp
    rw [cL_none 32 h, ha]
    exact xctz_zero
  · rw [xctz h1 h2 h3]
    have := cL_low h2 h3 (31 - j) (by omega)
    have e : j + 1 + (31 - j) = 32 := by omega
    rw [e] at this
    exact this.symm
