/-! The reference's count. -/
def cT (a : Int32) : Nat → Int32
  | 0 => 32
  | k + 1 => if a.toBitVec.getLsbD k = true then 31 - Int32.ofNat k else cT a k
def cL (a : Int32) : Nat → Int32
  | 0 => 32
  | k + 1 => if a.toBitVec.getLsbD k = true ∧ cL a k = 32 then Int32.ofNat k else cL a k
def cO (a : Int32) : Nat → Int32
  | 0 => 0
  | k + 1 => if a.toBitVec.getLsbD k = true then cO a k + 1 else cO a k + 0
theorem xcount_loop (op a : Int32) : ∀ (d k n : Nat), k + d = 32 → d < n → f_m_count_12 n op a (cT a k) (cL a k) (cO a k) (Int32.ofNat k) = some (if op = 103 then cT a 32 else if op = 104 then cL a 32 else cO a 32) := by
  intro d
  induction d with
  | zero =>
    intro k n hk hn
    obtain ⟨n, rfl⟩ : ∃ m, n = m + 1 := ⟨n - 1, by omega⟩
    have : k = 32 := by omega
    subst this
    unfold f_m_count_12
    rw [if_pos (by decide)]
    split
    · rfl
    · split <;> rfl
  | succ d ih =>
    intro k n hk hn
    obtain ⟨n, rfl⟩ : ∃ m, n = m + 1 := ⟨n - 1, by omega⟩
    unfold f_m_count_12
    have ek : (Int32.ofNat k).toInt = k := xi_ofNat (by omega)
    have e32 : (32 : Int32).toInt = 32 := rfl
    have es : Int32.ofNat k + 1 = Int32.ofNat (k + 1) := by
      have e1 : (1 : Int32).toInt = 1 := rfl
      rw [xi_eq, xi_add (by omega) (by omega), ek, xi_ofNat (by omega), e1]
      omega
    rw [if_neg (by rw [xi_le]; omega)]
    have h := ih (k + 1) n (by omega) (by omega)
    have hb := xbit a k (by omega)
    by_cases hbit : a.toBitVec.getLsbD k = true
    · rw [if_pos (hb.mpr hbit)]
      unfold cT cL cO at h
      rw [if_pos hbit, if_pos hbit] at h
      unfold f_m_count_34 f_m_count_50 f_m_count_67 f_m_count_68 f_m_count_81
      rw [if_neg (by decide), if_neg (by decide), es]
      by_cases hl : cL a k = 32
      · rw [if_pos ⟨hbit, hl⟩] at h
        rw [if_pos hl, if_neg (by decide)]
        exact h
      · rw [if_neg (fun c => hl c.2)] at h
        rw [if_neg hl, if_neg (by decide)]
        exact h
    · rw [if_neg (fun c => hbit (hb.mp c))]
      unfold cT cL cO at h
      rw [if_neg hbit, if_neg hbit, if_neg (fun c => hbit c.1)] at h
      unfold f_m_count_34 f_m_count_50 f_m_count_67 f_m_count_68 f_m_count_81
      rw [if_pos rfl, if_pos rfl, if_pos rfl, es]
      exact h
theorem xcount (op a : Int32) : f_m_count op a = some (if op = 103 then cT a 32 else if op = 104 then cL a 32 else cO a 32) := xcount_loop op a 32 0 1000 (by omega) (by omega)
