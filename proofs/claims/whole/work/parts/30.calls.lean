/-! Calls: clear, declare. -/
theorem xfillB : ∀ (n : Nat) (v : Int32) (hc : xI), 0 ≤ v.toInt → v.toInt ≤ 256 → 256 - v.toInt < n → ∃ h', f_a_fill_5 n 0 v 256 hc = some h' ∧ (∀ k, k ≠ 12 → h' k = hc k) ∧ ∀ j : Nat, h' 12 j = if v.toInt ≤ j ∧ j < 256 then 0 else hc 12 j := by
  intro n
  induction n with
  | zero => intro v hc h0 h1 h2; omega
  | succ n ih =>
    intro v hc h0 h1 h2
    have e1 : (1 : Int32).toInt = 1 := rfl
    have el : (256 : Int32).toInt = 256 := rfl
    unfold f_a_fill_5
    by_cases hl : (256 : Int32) ≤ v
    · rw [if_pos hl]
      rw [xi_le, el] at hl
      exact ⟨_, rfl, fun _ _ => rfl, fun j => by rw [if_neg (by omega)]⟩
    · rw [if_neg hl]
      rw [xi_le, el] at hl
      have ha : (v + 1).toInt = v.toInt + 1 := xi_add (by omega) (by omega)
      rw [xgd_ok h0 (by omega)]
      obtain ⟨h', q1, q2, q3⟩ := ih (v + 1) (xput hc 12 v.toNatClampNeg (vp_nar .byte 0)) (by omega) (by omega) (by omega)
      refine ⟨h', q1, fun k hk => by rw [q2 k hk, xput_off hk], fun j => ?_⟩
      rw [q3 j, xput_at, if_pos rfl, xi_nat, ha]
      by_cases hj : j = v.toInt.toNat
      · rw [if_neg (by omega), if_pos hj, if_pos (by omega)]
        rfl
      · rw [if_neg hj]
        by_cases hq : v.toInt + 1 ≤ (j : Int) ∧ j < 256
        · rw [if_pos hq, if_pos (by omega)]
        · rw [if_neg hq, if_neg (by omega)]
theorem xfillG : ∀ (n : Nat) (v : Int32) (hc : xI), 0 ≤ v.toInt → v.toInt ≤ 4 → 4 - v.toInt < n → ∃ h', f_a_fill2_5 n 0 v 4 hc = some h' ∧ (∀ k, k ≠ 20 → h' k = hc k) ∧ ∀ j : Nat, h' 20 j = if v.toInt ≤ j ∧ j < 4 then 0 else hc 20 j := by
  intro n
  induction n with
  | zero => intro v hc h0 h1 h2; omega
  | succ n ih =>
    intro v hc h0 h1 h2
    have e1 : (1 : Int32).toInt = 1 := rfl
    have el : (4 : Int32).toInt = 4 := rfl
    unfold f_a_fill2_5
    by_cases hl : (4 : Int32) ≤ v
    · rw [if_pos hl]
      rw [xi_le, el] at hl
      exact ⟨_, rfl, fun _ _ => rfl, fun j => by rw [if_neg (by omega)]⟩
    · rw [if_neg hl]
      rw [xi_le, el] at hl
      have ha : (v + 1).toInt = v.toInt + 1 := xi_add (by omega) (by omega)
      rw [xgd_ok h0 (by omega)]
      obtain ⟨h', q1, q2, q3⟩ := ih (v + 1) (xput hc 20 v.toNatClampNeg 0) (by omega) (by omega) (by omega)
      refine ⟨h', q1, fun k hk => by rw [q2 k hk, xput_off hk], fun j => ?_⟩
      rw [q3 j, xput_at, if_pos rfl, xi_nat, ha]
      by_cases hj : j = v.toInt.toNat
      · rw [if_neg (by omega), if_pos hj, if_pos (by omega)]
      · rw [if_neg hj]
        by_cases hq : v.toInt + 1 ≤ (j : Int) ∧ j < 4
        · rw [if_pos hq, if_pos (by omega)]
        · rw [if_neg hq, if_neg (by omega)]
theorem xclr64 : ∀ (n : Nat) (v : Int32) (hr : xI), 0 ≤ v.toInt → v.toInt ≤ 4 → 4 - v.toInt < n → ∃ h', f_m_clear_64 n v hr = some h' ∧ (∀ k, k ≠ 44 → h' k = hr k) ∧ ∀ j : Nat, h' 44 j = if v.toInt ≤ j ∧ j < 4 then 0 else hr 44 j := by
  intro n
  induction n with
  | zero => intro v hr h0 h1 h2; omega
  | succ n ih =>
    intro v hr h0 h1 h2
    have e1 : (1 : Int32).toInt = 1 := rfl
    have el : (4 : Int32).toInt = 4 := rfl
    unfold f_m_clear_64
    by_cases hl : (4 : Int32) ≤ v
    · rw [if_pos hl]
      rw [xi_le, el] at hl
      exact ⟨_, rfl, fun _ _ => rfl, fun j => by rw [if_neg (by omega)]⟩
    · rw [if_neg hl]
      rw [xi_le, el] at hl
      have ha : (v + 1).toInt = v.toInt + 1 := xi_add (by omega) (by omega)
      rw [xgd_ok h0 (by omega)]
      obtain ⟨h', q1, q2, q3⟩ := ih (v + 1) (xput hr 44 v.toNatClampNeg 0) (by omega) (by omega) (by omega)
      refine ⟨h', q1, fun k hk => by rw [q2 k hk, xput_off hk], fun j => ?_⟩
      rw [q3 j, xput_at, if_pos rfl, xi_nat, ha]
      by_cases hj : j = v.toInt.toNat
      · rw [if_neg (by omega), if_pos hj, if_pos (by omega)]
      · rw [if_neg hj]
        by_cases hq : v.toInt + 1 ≤ (j : Int) ∧ j < 4
        · rw [if_pos hq, if_pos (by omega)]
        · rw [if_neg hq, if_neg (by omega)]
theorem xclr42 : ∀ (n : Nat) (v : Int32) (hr : xI), 0 ≤ v.toInt → v.toInt ≤ 256 → 256 - v.toInt < n → ∃ h', f_m_clear_42 n v hr = some h' ∧ (∀ k, k ≠ 43 → k ≠ 44 → h' k = hr k) ∧ (∀ j : Nat, h' 43 j = if v.toInt ≤ j ∧ j < 256 then 0 else hr 43 j) ∧ (∀ j : Nat, h' 44 j = if j < 4 then 0 else hr 44 j) := by
  intro n
  induction n with
  | zero => intro v hr h0 h1 h2; omega
  | succ n ih =>
    intro v hr h0 h1 h2
    have e1 : (1 : Int32).toInt = 1 := rfl
    have e0 : (0 : Int32).toInt = 0 := rfl
    have el : (256 : Int32).toInt = 256 := rfl
    unfold f_m_clear_42
    by_cases hl : (256 : Int32) ≤ v
    · rw [if_pos hl]
      rw [xi_le, el] at hl
      obtain ⟨h', q1, q2, q3⟩ := xclr64 1000 0 hr (by omega) (by omega) (by omega)
      refine ⟨h', q1, fun k _ hk => q2 k hk, fun j => ?_, fun j => ?_⟩
      · rw [q2 43 (by decide), if_neg (by omega)]
      · rw [q3 j, e0]
        by_cases hj : j < 4
        · rw [if_pos hj, if_pos (by omega)]
        · rw [if_neg hj, if_neg (by omega)]
    · rw [if_neg hl]
      rw [xi_le, el] at hl
      have ha : (v + 1).toInt = v.toInt + 1 := xi_add (by omega) (by omega)
      rw [xgd_ok h0 (by omega)]
      obtain ⟨h', q1, q2, q3, q4⟩ := ih (v + 1) (xput hr 43 v.toNatClampNeg 0) (by omega) (by omega) (by omega)
      refine ⟨h', q1, fun k hk hk2 => by rw [q2 k hk hk2, xput_off hk], fun j => ?_, fun j => by rw [q4 j, xput_off (by decide)]⟩
      rw [q3 j, xput_at, if_pos rfl, xi_nat, ha]
      by_cases hj : j = v.toInt.toNat
      · rw [if_neg (by omega), if_pos hj, if_pos (by omega)]
      · rw [if_neg hj]
        by_cases hq : v.toInt + 1 ≤ (j : Int) ∧ j < 256
        · rw [if_pos hq, if_pos (by omega)]
        · rw [if_neg hq, if_neg (by omega)]
theorem RB.clear {hc hr : xI} (R : RB hc hr) : ∃ hc' hr', f_w_clear hc = some hc' ∧ f_m_clear hr = some hr' ∧ Post hc hr hc' hr' := by
  have e0 : (0 : Int32).toInt = 0 := rfl
  unfold f_w_clear f_m_clear f_c_removeAll f_y_reset f_h_reset f_a_fill f_a_fill2
  obtain ⟨q1, a1, a2, a3⟩ := xfillB 1000 0 (xput (xput hc 1 1 0) 1 2 0) (by omega) (by omega) (by omega)
  obtain ⟨q2, b1, b2, b3⟩ := xfillG 1000 0 (xput q1 11 1 1) (by omega) (by omega) (by omega)
  obtain ⟨p, c1, c2, c3, c4⟩ := xclr42 1000 0 (xput (xput (xput (xput (xput (xput (xput (xput hr 27 0 0) 27 1 0) 27 2 0) 27 4 0) 27 9 (-1)) 27 10 (-1)) 27 27 1) 27 29 0) (by omega) (by omega) (by omega)
  refine ⟨xput (xput (xput (xput q2 0 5 0) 0 6 0) 0 8 (-1)) 0 9 (-1), p, ?_, c1, ?_, .inl ?_⟩
  · simp only [Option.bind_some, a1, b1]
  · have F : ∀ k j, k ≠ 0 → k ≠ 1 → k ≠ 11 → k ≠ 12 → k ≠ 20 → xput (xput (xput (xput q2 0 5 0) 0 6 0) 0 8 (-1)) 0 9 (-1) k j = hc k j := by
      intro k j k0 k1 k11 k12 k20
      rw [xput_off k0, xput_off k0, xput_off k0, xput_off k0, b2 k k20, xput_off k11, a2 k k12, xput_off k1, xput_off k1]
    have G : ∀ k j, k ≠ 27 → k ≠ 43 → k ≠ 44 → p k j = hr k j := by
      intro k j k27 k43 k44
      rw [c2 k k43 k44]
      simp only [xput_off k27]
    have G27 : p 27 = _ := c2 27 (by decide) (by decide)
    have q11 : q2 11 1 = 1 := by rw [b2 11 (by decide)]; simp [xput_at]
    have q1a : q2 1 1 = 0 := by rw [b2 1 (by decide), xput_off (by decide), a2 1 (by decide)]; simp [xput_at]
    have q1b : q2 1 2 = 0 := by rw [b2 1 (by decide), xput_off (by decide), a2 1 (by decide)]; simp [xput_at]
    obtain ⟨r1, r2, r3, r4, r5, r6, r7, r8, r9, r10, r11, r12, r13, r14, r15, r16, r17, r18, r19, r20, r21, r22, r23, r24, r25, r26, r27, r28⟩ := R
    refine ⟨?_, ?_, ?_, ?_, ?_, ?_, ?_, ?_, ?_, ?_, ?_, ?_, ?_, ?_, ?_, ?_, ?_, ?_, ?_, ?_, ?_, ?_, ?_, ?_, ?_, ?_, ?_, ?_⟩
    · simp [xput_at, G27]
    · rw [G27]; simp [xput_at]
    · intro j; rw [F 26 j (by decide) (by decide) (by decide) (by decide) (by decide), G 45 j (by decide) (by decide) (by decide)]; exact r3 j
    · simp [xput_at, G27]
    · rw [G27]; simp [xput_at]
    · intro h; rw [G27] at h; simp [xput_at] at h
    · simp [xput_at, G27]
    · simp [xput_at, G27]
    · rw [G27]; simp [xput_at, q1a]
    · rw [G27]; simp [xput_at]
    · intro j; rw [F 2 j (by decide) (by decide) (by decide) (by decide) (by decide), G 28 j (by decide) (by decide) (by decide)]; exact r11 j
    · rw [G27]; simp [xput_at, q1b]
    · rw [G27]; simp [xput_at]
    · rw [G 29 0 (by decide) (by decide) (by decide)]; exact r14
    · intro f; rw [F 3 f (by decide) (by decide) (by decide) (by decide) (by decide), G 29 _ (by decide) (by decide) (by decide)]; exact r15 f
    · intro f; rw [F 4 f (by decide) (by decide) (by decide) (by decide) (by decide), G 30 f (by decide) (by decide) (by decide)]; exact r16 f
    · intro f; rw [G 30 f (by decide) (by decide) (by decide)]; exact r17 f
    · intro f; rw [F 5 f (by decide) (by decide) (by decide) (by decide) (by decide), G 30 f (by decide) (by decide) (by decide), G 31 f (by decide) (by decide) (by decide)]; exact r18 f
    · intro f; rw [G 31 f (by decide) (by decide) (by decide)]; exact r19 f
    · intro f; rw [F 6 f (by decide) (by decide) (by decide) (by decide) (by decide), G 32 f (by decide) (by decide) (by decide)]; exact r20 f
    · intro f; rw [G 32 f (by decide) (by decide) (by decide)]; exact r21 f
    · intro f h; rw [G27] at h; simp [xput_at] at h; omega
    · have h4 : p 27 4 = 0 := by rw [G27]; simp [xput_at]
      have h2 : p 27 2 = 0 := by rw [G27]; simp [xput_at]
      rw [h4, h2]
      show (p 29 0).toInt ≤ 0
      rw [G 29 0 (by decide) (by decide) (by decide), r14]
      decide
    · intro j
      have f12 : xput (xput (xput (xput q2 0 5 0) 0 6 0) 0 8 (-1)) 0 9 (-1) 12 j = q1 12 j := by
        simp only [xput_off (show (12 : Nat) ≠ 0 by decide)]
        rw [b2 12 (by decide), xput_off (by decide)]
      rw [f12, c3 j, a3 j, e0]
      by_cases hj : (0 : Int) ≤ j ∧ j < 256
      · rw [if_pos hj, if_pos hj]; rfl
      · rw [if_neg hj, if_neg hj]
        simp only [xput_off (show (43 : Nat) ≠ 27 by decide), xput_off (show (12 : Nat) ≠ 1 by decide)]
        exact r24 j
    · rw [G27]; simp [xput_at, q11]
    · rw [G27]; simp [xput_at]
    · intro j
      have f20 : xput (xput (xput (xput q2 0 5 0) 0 6 0) 0 8 (-1)) 0 9 (-1) 20 j = q2 20 j := by
        simp only [xput_off (show (20 : Nat) ≠ 0 by decide)]
      rw [f20, c4 j, b3 j, e0]
      by_cases hj : j < 4
      · rw [if_pos hj, if_pos (by omega)]
      · rw [if_neg hj, if_neg (by omega), xput_off (by decide), a2 20 (by decide)]
        simp only [xput_off (show (44 : Nat) ≠ 27 by decide), xput_off (show (20 : Nat) ≠ 1 by decide)]
        exact r27 j
    · intro h; rw [G27] at h; simp [xput_at] at h
  · rw [c2 27 (by decide) (by decide)]; simp [xput_at]
