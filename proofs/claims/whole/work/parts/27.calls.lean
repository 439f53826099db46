/-! More calls. -/
theorem RB.look {hc hr : xI} (R : RB hc hr) (hN : hr 27 1 = 2 → RN hc hr) (v : Int32) : ∃ hr', f_m_look v hr = some (f_w_look v hc, hr') ∧ Post hc hr hc hr' := by
  refine ⟨xput hr 27 0 0, ?_, Post.thrown R 0⟩
  unfold f_m_look f_w_look
  rw [R.status]
  by_cases hs : hr 27 1 = 2
  · have N := hN hs
    rw [if_pos hs, if_pos hs]
    unfold f_m_look_18 f_w_look_13
    rw [R.status, R.pages, R.len, N.next, N.depth, N.calls]
    have h4 : ¬ hr 27 1 = 4 := by rw [hs]; decide
    simp only [xput_at, Nat.reduceEqDiff, reduceIte, if_neg h4]
    repeat' split
    all_goals first | rfl | contradiction
  · rw [if_neg hs, if_neg hs]
    unfold f_m_look_18 f_w_look_13
    rw [R.status, R.pages, R.len]
    simp only [xput_at, Nat.reduceEqDiff, reduceIte]
    by_cases h4 : hr 27 1 = 4
    · rw [R.trap h4]
      simp only [if_pos h4]
      repeat' split
      all_goals first | rfl | contradiction
    · simp only [if_neg h4]
      repeat' split
      all_goals first | rfl | contradiction
theorem xi_mul {a b : Int32} (h0 : -2147483648 ≤ a.toInt * b.toInt) (h1 : a.toInt * b.toInt < 2147483648) : (a * b).toInt = a.toInt * b.toInt := by
  rw [Int32.toInt_mul]
  exact xi_bm h0 h1
theorem xj_bm {x : Int} (h0 : -9223372036854775808 ≤ x) (h1 : x < 9223372036854775808) : x.bmod 18446744073709551616 = x := by
  rw [Int.bmod_def]
  split <;> omega
theorem xj_add {a b : Int64} (h0 : -9223372036854775808 ≤ a.toInt + b.toInt) (h1 : a.toInt + b.toInt < 9223372036854775808) : (a + b).toInt = a.toInt + b.toInt := by
  rw [Int64.toInt_add]
  exact xj_bm h0 h1
theorem xj_lt {a b : Int64} : a < b ↔ a.toInt < b.toInt := Int64.lt_iff_toInt_lt
/-- whether the memory holds a byte's place -/
theorem xholds {hc hr : xI} (R : RB hc hr) (a : Int64) (n : Int32) (ha : a.toInt < 9223372030000000000) (hn : 0 ≤ n.toInt) : f_y_holds a n hc = if 0 ≤ a.toInt ∧ a.toInt + n.toInt ≤ 64 * (hr 27 27).toInt then 1 else 0 := by
  unfold f_y_holds
  have hb := R.pagesB
  have hnr := xi_rng n
  have e64 : (64 : Int32).toInt = 64 := rfl
  have e0 : (0 : Int64).toInt = 0 := rfl
  have hm : (hr 27 27 * 64).toInt = (hr 27 27).toInt * 64 := by rw [xi_mul (by rw [e64]; omega) (by rw [e64]; omega), e64]
  simp only [R.pages, lg_cmp_lt, lg_cmp_gt, xj_lt, Int32.toInt_toInt64, e0, hm]
  by_cases h0 : a.toInt < 0
  · rw [if_pos h0, if_neg (by omega)]
  · rw [if_neg h0, xj_add (by rw [Int32.toInt_toInt64]; omega) (by rw [Int32.toInt_toInt64]; omega), Int32.toInt_toInt64]
    by_cases h1 : (hr 27 27).toInt * 64 < a.toInt + n.toInt
    · rw [if_pos h1, if_neg (by omega)]
    · rw [if_neg h1, if_pos (by omega)]
theorem RB.peek {hc hr : xI} (R : RB hc hr) (v : Int32) : ∃ hr' r, f_w_peek v hc = some r ∧ f_m_peek v hr = some (r, hr') ∧ Post hc hr hc hr' := by
  have hb := R.pagesB
  have hv := xi_rng v
  have e1 : (1 : Int32).toInt = 1 := rfl
  have e0 : (0 : Int32).toInt = 0 := rfl
  have e64 : (64 : Int32).toInt = 64 := rfl
  have hm : (64 * hr 27 27).toInt = 64 * (hr 27 27).toInt := by rw [xi_mul (by rw [e64]; omega) (by rw [e64]; omega), e64]
  unfold f_w_peek f_m_peek
  rw [xholds R v.toInt64 1 (by rw [Int32.toInt_toInt64]; omega) (by omega), Int32.toInt_toInt64, e1]
  by_cases h0 : v < 0
  · rw [if_pos h0]
    rw [xi_lt, e0] at h0
    rw [if_neg (c := 0 ≤ v.toInt ∧ v.toInt + 1 ≤ 64 * (hr 27 27).toInt) (by omega), if_pos rfl]
    exact ⟨_, _, rfl, rfl, Post.thrown R 0⟩
  · rw [if_neg h0]
    rw [xi_lt, e0] at h0
    by_cases h1 : v < 64 * hr 27 27
    · rw [if_pos h1]
      rw [xi_lt, hm] at h1
      rw [if_pos (c := 0 ≤ v.toInt ∧ v.toInt + 1 ≤ 64 * (hr 27 27).toInt) (by omega), if_neg (by decide), xgd_ok (by omega) (by omega)]
      refine ⟨_, _, ?_, rfl, Post.thrown R 0⟩
      unfold f_y_read
      show (f_y_read_7 1000 v 0 0 hc).bind _ = _
      unfold f_y_read_7
      have ev : v + 0 = v := Int32.add_zero v
      rw [if_neg (by decide), ev, xgd_ok (by omega) (by omega)]
      unfold f_y_read_31
      show (f_y_read_7 999 v _ (-1) hc).bind _ = _
      unfold f_y_read_7
      rw [if_pos (by decide), R.mem]
      have : ((0 : Int32) <<< ((8 : Int32) &&& 31)) = 0 := rfl
      rw [this]
      show some _ = some _
      rw [Int32.zero_or]
    · rw [if_neg h1]
      rw [xi_lt, hm] at h1
      rw [if_neg (c := 0 ≤ v.toInt ∧ v.toInt + 1 ≤ 64 * (hr 27 27).toInt) (by omega), if_pos rfl]
      exact ⟨_, _, rfl, rfl, Post.thrown R 0⟩
