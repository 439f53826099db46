/-! Calls: poke, feed, clear. -/
theorem RB.poke {hc hr : xI} (R : RB hc hr) (v w : Int32) : AgreeN (Post hc hr) (f_w_poke v w hc) (f_m_poke v w hr) := by
  have hb := R.pagesB
  have hv := xi_rng v
  have e1 : (1 : Int32).toInt = 1 := rfl
  have e0 : (0 : Int32).toInt = 0 := rfl
  have e64 : (64 : Int32).toInt = 64 := rfl
  have hm : (64 * hr 27 27).toInt = 64 * (hr 27 27).toInt := by rw [xi_mul (by rw [e64]; omega) (by rw [e64]; omega), e64]
  unfold f_w_poke f_m_poke
  rw [xholds R v.toInt64 1 (by rw [Int32.toInt_toInt64]; omega) (by omega), Int32.toInt_toInt64, e1, R.status]
  have no : AgreeN (Post hc hr) (some (0, hc)) (some (0, xput hr 27 0 0)) := ⟨_, _, _, rfl, rfl, Post.thrown R 0⟩
  by_cases h0 : v < 0
  · rw [if_pos h0]
    rw [xi_lt, e0] at h0
    rw [if_neg (c := 0 ≤ v.toInt ∧ v.toInt + 1 ≤ 64 * (hr 27 27).toInt) (by omega), if_pos (c := (0 : Int32) = 0) rfl, ite_self]
    exact no
  · rw [if_neg h0]
    rw [xi_lt, e0] at h0
    by_cases h1 : 64 * hr 27 27 ≤ v
    · rw [if_pos h1]
      rw [xi_le, hm] at h1
      rw [if_neg (c := 0 ≤ v.toInt ∧ v.toInt + 1 ≤ 64 * (hr 27 27).toInt) (by omega), if_pos (c := (0 : Int32) = 0) rfl, ite_self]
      exact no
    · rw [if_neg h1]
      rw [xi_le, hm] at h1
      by_cases hs : hr 27 1 = 2
      · rw [if_pos hs, if_pos hs]
        exact no
      · rw [if_neg hs, if_neg hs, if_pos (c := 0 ≤ v.toInt ∧ v.toInt + 1 ≤ 64 * (hr 27 27).toInt) (by omega), if_neg (by decide), xgd_ok (by omega) (by omega)]
        unfold f_y_write
        show AgreeN _ ((f_y_write_3 1000 v w 1 0 hc).bind _) _
        unfold f_y_write_3
        have ev : v + 0 = v := Int32.add_zero v
        rw [if_neg (by decide), ev, xgd_ok (by omega) (by omega)]
        show AgreeN _ ((f_y_write_3 999 v w 1 1 _).bind _) _
        unfold f_y_write_3
        rw [if_pos (by decide)]
        refine ⟨1, _, _, rfl, rfl, ?_, ?_⟩
        · obtain ⟨r1, r2, r3, r4, r5, r6, r7, r8, r9, r10, r11, r12, r13, r14, r15, r16, r17, r18, r19, r20, r21, r22, r23, r24, r25, r26, r27, r28⟩ := R
          refine ⟨?_, ?_, ?_, ?_, ?_, ?_, ?_, ?_, ?_, ?_, ?_, ?_, ?_, ?_, ?_, ?_, ?_, ?_, ?_, ?_, ?_, ?_, ?_, ?_, ?_, ?_, ?_, ?_⟩ <;> simp only [xput_at, Nat.reduceEqDiff, reduceIte] <;> try assumption
          intro j
          by_cases hj : j = v.toNatClampNeg
          · rw [if_pos hj, if_pos hj]
            have : w >>> (((8 : Int32) * 0) &&& 31) = w := by
              show w >>> 0 = w
              simp
            rw [this]
            exact (xbyte w).symm
          · rw [if_neg hj, if_neg hj]
            exact r24 j
        · by_cases h2 : hr 27 1 = 0
          · exact .inl (by simp [xput_at, h2])
          · refine .inr ⟨h2, by simp [xput_at], fun k hk => xput_off (by omega), fun k hk => ?_, by simp [xput_at], by simp [xput_at], by simp [xput_at], by simp [xput_at], by simp [xput_at]⟩
            rw [xput_off (by omega), xput_off (by omega)]
theorem RB.append {hc hr : xI} (R : RB hc hr) (hl : (hr 27 2).toInt < 240) (v : Int32) : f_c_append v hc = some (xput (xput hc 2 (hr 27 2).toNatClampNeg v) 1 1 (hr 27 2 + 1)) ∧ RB (xput (xput hc 2 (hr 27 2).toNatClampNeg v) 1 1 (hr 27 2 + 1)) (xput (xput hr 28 (hr 27 2).toNatClampNeg v) 27 2 (hr 27 2 + 1)) := by
  have hb := R.lenB
  have e1 : (1 : Int32).toInt = 1 := rfl
  have ha : (hr 27 2 + 1).toInt = (hr 27 2).toInt + 1 := xi_add (by omega) (by omega)
  refine ⟨?_, ?_⟩
  · unfold f_c_append
    rw [R.len, xgd_ok hb.1 (by omega)]
  · obtain ⟨r1, r2, r3, r4, r5, r6, r7, r8, r9, r10, r11, r12, r13, r14, r15, r16, r17, r18, r19, r20, r21, r22, r23, r24, r25, r26, r27, r28⟩ := R
    refine ⟨?_, ?_, ?_, ?_, ?_, ?_, ?_, ?_, ?_, ?_, ?_, ?_, ?_, ?_, ?_, ?_, ?_, ?_, ?_, ?_, ?_, ?_, ?_, ?_, ?_, ?_, ?_, ?_⟩ <;> simp only [xput_at, Nat.reduceEqDiff, reduceIte] <;> try assumption
    · omega
    · intro j; rw [r11 j]
    · omega
theorem RB.feedLoop {v2 : Int64} : ∀ (n : Nat) (v4 : Int32) (hc hr : xI), RB hc hr → hr 27 1 = 0 → -1 ≤ v4.toInt → v4.toInt ≤ 7 → (hr 27 2).toInt + v4.toInt + 1 ≤ 240 → v4.toInt + 1 < n → ∃ hc' hr', f_w_feed_54 n v2 v4 hc = some (.inl (hr' 27 2), hc') ∧ f_m_feed_57 n v2 v4 hr = some (hr' 27 2, hr') ∧ RB hc' hr' ∧ hr' 27 1 = 0 ∧ hr' 27 0 = hr 27 0 := by
  intro n
  induction n with
  | zero => intro v4 hc hr _ _ h1 _ _ h2; omega
  | succ n ih =>
    intro v4 hc hr R hs h1 h7 hl hn
    have e0 : (0 : Int32).toInt = 0 := rfl
    have e1 : (1 : Int32).toInt = 1 := rfl
    have em : (-1 : Int32).toInt = -1 := rfl
    unfold f_w_feed_54 f_m_feed_57
    by_cases h0 : v4 < 0
    · rw [if_pos h0, if_pos h0]
      exact ⟨hc, hr, by rw [R.len], rfl, R, hs, rfl⟩
    · rw [if_neg h0, if_neg h0]
      rw [xi_lt, e0] at h0
      have hb := R.lenB
      obtain ⟨ea, R'⟩ := R.append (by omega) ((xlushr v2 (8 * v4)).toInt32 &&& 255)
      rw [ea, xgd_ok hb.1 (by omega)]
      rw [xsh_cases v2 v4 (by omega) h7] at R' ⊢
      have hv : (v4 + -1).toInt = v4.toInt - 1 := by rw [xi_add (by omega) (by omega), em]; rfl
      have ha : (hr 27 2 + 1).toInt = (hr 27 2).toInt + 1 := xi_add (by omega) (by omega)
      obtain ⟨hc', hr', q1, q2, q3, q4, q5⟩ := ih (v4 + -1) _ _ R' (by simp [xput_at, hs]) (by omega) (by omega) (by
        have : xput (xput hr 28 (hr 27 2).toNatClampNeg ((v2 >>> ((8 * v4).toInt64 &&& 63)).toInt32 &&& 255)) 27 2 (hr 27 2 + 1) 27 2 = hr 27 2 + 1 := by simp [xput_at]
        rw [this, ha, hv]; omega) (by omega)
      refine ⟨hc', hr', q1, q2, q3, q4, ?_⟩
      rw [q5]
      simp [xput_at]
theorem RB.feed {hc hr : xI} (R : RB hc hr) (n : Int32) (w : Int64) (g : xJ) : Agree (Post hc hr) (f_l_feed n w hc g) (f_m_feed n w hr) := by
  have e0 : (0 : Int32).toInt = 0 := rfl
  have e1 : (1 : Int32).toInt = 1 := rfl
  have e8 : (8 : Int32).toInt = 8 := rfl
  have e240 : (240 : Int32).toInt = 240 := rfl
  have hb := R.lenB
  have no1 : Agree (Post hc hr) (some (1, hc, g)) (some (0, xput hr 27 0 1)) := ⟨_, _, _, _, _, rfl, rfl, rfl, fun h => absurd h (by decide), Post.thrown R 1⟩
  have no2 : Agree (Post hc hr) (some (2, hc, g)) (some (0, xput hr 27 0 2)) := ⟨_, _, _, _, _, rfl, rfl, rfl, fun h => absurd h (by decide), Post.thrown R 2⟩
  unfold f_l_feed f_w_feed f_m_feed f_w_feed_11 f_w_feed_39 f_m_feed_12 f_m_feed_35
  rw [R.status]
  by_cases h1 : n < 1
  · rw [if_pos h1, if_pos h1]
    unfold f_m_feed_40
    exact no1
  rw [if_neg h1, if_neg h1]
  by_cases h8 : n ≤ 8
  case neg =>
    rw [if_neg h8, if_neg h8]
    unfold f_m_feed_40
    exact no1
  rw [if_pos h8, if_pos h8]
  by_cases hs : hr 27 1 = 0
  case neg =>
    rw [if_neg hs, if_neg hs]
    unfold f_m_feed_40
    exact no2
  rw [if_pos hs, if_pos hs]
  rw [xi_lt, e1] at h1
  rw [xi_le, e8] at h8
  have ha : (hr 27 2 + n).toInt = (hr 27 2).toInt + n.toInt := xi_add (by omega) (by omega)
  have hsb : (n - 1).toInt = n.toInt - 1 := by rw [xi_sub (by omega) (by omega), e1]
  unfold f_c_hasRoomFor
  rw [R.len]
  by_cases hl : hr 27 2 + n ≤ 240
  case neg =>
    have : (240 : Int32) < hr 27 2 + n := by
      rw [xi_lt]
      rw [xi_le] at hl
      omega
    rw [if_neg hl, if_pos this, if_pos rfl]
    unfold f_m_feed_40
    exact no2
  have : ¬ (240 : Int32) < hr 27 2 + n := by
    rw [xi_lt]
    rw [xi_le] at hl
    omega
  rw [if_pos hl, if_neg this, if_neg (by decide)]
  rw [xi_le, ha, e240] at hl
  unfold f_m_feed_40
  rw [if_pos (by decide)]
  have el : xput hr 27 0 0 27 2 = hr 27 2 := by simp [xput_at]
  obtain ⟨hc', hr', q1, q2, q3, q4, q5⟩ := RB.feedLoop (v2 := w) 1000 (n - 1) hc (xput hr 27 0 0) (R.thrown 0) (by simp [xput_at, hs]) (by omega) (by omega) (by rw [el]; omega) (by omega)
  rw [q1, q2]
  refine ⟨0, hc', _, _, hr', rfl, rfl, ?_, ?_, q3, .inl q4⟩
  · unfold f_m_thrown
    rw [q5]
    simp [xput_at]
  · intro _
    rw [xputL_at]
    exact lg_same _
