/-! The calls. -/
/-- what the checked code and the run stand on is as it was -/
def Keep (hc hr hc' hr' : xI) : Prop := (∀ k, (1 ≤ k ∧ k ≤ 10) ∨ (21 ≤ k ∧ k ≤ 25) ∨ k = 19 → hc' k = hc k) ∧ (∀ k, (28 ≤ k ∧ k ≤ 42) ∨ 46 ≤ k → hr' k = hr k) ∧ hr' 27 2 = hr 27 2 ∧ hr' 27 4 = hr 27 4 ∧ hr' 27 32 = hr 27 32 ∧ hr' 27 33 = hr 27 33 ∧ hr' 27 35 = hr 27 35
def Post (hc hr hc' hr' : xI) : Prop := RB hc' hr' ∧ (hr' 27 1 = 0 ∨ (hr 27 1 ≠ 0 ∧ (hr' 27 1 = 2 → hr 27 1 = 2) ∧ Keep hc hr hc' hr'))
/-- the class and the reference answer a call that may throw alike, and go on so -/
def Agree (Q : xI → xI → Prop) (a : Option (Int32 × xI × xJ)) (b : Option (Int32 × xI)) : Prop := ∃ k hc' g' v hr', a = some (k, hc', g') ∧ b = some (v, hr') ∧ f_m_thrown hr' = k ∧ (k = 0 → lg_cmp (g' 51 0) v.toInt64 = 0) ∧ Q hc' hr'
/-- the same for a call that answers a number -/
def AgreeN (Q : xI → xI → Prop) (a b : Option (Int32 × xI)) : Prop := ∃ v hc' hr', a = some (v, hc') ∧ b = some (v, hr') ∧ Q hc' hr'
theorem lg_same (x : Int64) : lg_cmp x x = 0 := by
  unfold lg_cmp
  simp
theorem xputL_at (g : xJ) (k j : Nat) (v : Int64) : xputL g k j v k j = v := by
  unfold xputL vp_updL
  simp
theorem xput_off {h : xI} {k j : Nat} {v : Int32} {k' : Nat} (e : k' ≠ k) : xput h k j v k' = h k' := by
  unfold xput
  exact if_neg e
theorem RB.thrown {hc hr : xI} (R : RB hc hr) (v : Int32) : RB hc (xput hr 27 0 v) := by
  obtain ⟨r1, r2, r3, r4, r5, r6, r7, r8, r9, r10, r11, r12, r13, r14, r15, r16, r17, r18, r19, r20, r21, r22, r23, r24, r25, r26, r27, r28⟩ := R
  refine ⟨?_, ?_, ?_, ?_, ?_, ?_, ?_, ?_, ?_, ?_, ?_, ?_, ?_, ?_, ?_, ?_, ?_, ?_, ?_, ?_, ?_, ?_, ?_, ?_, ?_, ?_, ?_, ?_⟩ <;> (simp only [xput_at, Nat.reduceEqDiff, reduceIte]; assumption)
theorem Keep.thrown (hc hr : xI) (v : Int32) : Keep hc hr hc (xput hr 27 0 v) :=
  ⟨fun _ _ => rfl, fun k hk => xput_off (by omega), by simp [xput_at], by simp [xput_at], by simp [xput_at], by simp [xput_at], by simp [xput_at]⟩
theorem Post.thrown {hc hr : xI} (R : RB hc hr) (v : Int32) : Post hc hr hc (xput hr 27 0 v) := by
  refine ⟨R.thrown v, ?_⟩
  have e : xput hr 27 0 v 27 1 = hr 27 1 := by simp [xput_at]
  rw [e]
  by_cases h : hr 27 1 = 0
  · exact .inl h
  · exact .inr ⟨h, id, Keep.thrown hc hr v⟩
theorem RB.word {hc hr : xI} (R : RB hc hr) (v : Int32) (g : xJ) : Agree (Post hc hr) (f_l_word v hc g) (f_m_word v hr) := by
  unfold f_l_word f_w_word f_m_word
  rw [R.status]
  by_cases hs : hr 27 1 = 0
  · rw [if_pos hs, if_pos hs]
    unfold f_c_hasRoomFor
    rw [R.len]
    have hb := R.lenB
    by_cases hl : hr 27 2 = 240
    · have h1 : (240 : Int32) < hr 27 2 + 1 := by rw [hl]; decide
      rw [if_pos h1, if_pos hl, if_pos rfl]
      unfold f_w_word_18 f_m_word_18 f_m_word_23
      exact ⟨1, hc, g, 0, xput hr 27 0 1, rfl, rfl, rfl, fun h => absurd h (by decide), Post.thrown R 1⟩
    · have e240 : (240 : Int32).toInt = 240 := rfl
      have e1 : (1 : Int32).toInt = 1 := rfl
      have hl' : (hr 27 2).toInt ≠ 240 := fun e => hl (xi_eq.mpr (by rw [e, e240]))
      have ha : (hr 27 2 + 1).toInt = (hr 27 2).toInt + 1 := xi_add (by omega) (by omega)
      have h1 : ¬ (240 : Int32) < hr 27 2 + 1 := by rw [xi_lt, ha]; omega
      rw [if_neg h1, if_neg hl, if_neg (by decide)]
      unfold f_c_append f_m_word_23
      rw [R.len, if_pos (by decide), xgd_ok hb.1 (by omega), xgd_ok hb.1 (by omega)]
      refine ⟨0, _, _, _, _, rfl, rfl, by simp [f_m_thrown, xput_at], ?_, ?_, .inl (by simp [xput_at, hs])⟩
      · intro _
        rw [xputL_at]
        simp [xput_at, lg_same]
      · obtain ⟨r1, r2, r3, r4, r5, r6, r7, r8, r9, r10, r11, r12, r13, r14, r15, r16, r17, r18, r19, r20, r21, r22, r23, r24, r25, r26, r27, r28⟩ := R
        refine ⟨?_, ?_, ?_, ?_, ?_, ?_, ?_, ?_, ?_, ?_, ?_, ?_, ?_, ?_, ?_, ?_, ?_, ?_, ?_, ?_, ?_, ?_, ?_, ?_, ?_, ?_, ?_, ?_⟩ <;> simp only [xput_at, Nat.reduceEqDiff, reduceIte] <;> try assumption
        · omega
        · intro j; rw [r11 j]
        · omega
  · rw [if_neg hs, if_neg hs]
    unfold f_w_word_18 f_m_word_18 f_m_word_23
    exact ⟨1, hc, g, 0, xput hr 27 0 1, rfl, rfl, rfl, fun h => absurd h (by decide), Post.thrown R 1⟩
theorem RB.fault {hc hr : xI} (R : RB hc hr) (v : Int32) : ∃ hr', f_m_fault v hr = some (f_w_fault v hc, hr') ∧ Post hc hr hc hr' := by
  refine ⟨xput hr 27 0 0, ?_, Post.thrown R 0⟩
  unfold f_m_fault f_w_fault
  rw [R.fF, R.fP]
  split
  · rfl
  · split <;> rfl
theorem RB.result {hc hr : xI} (R : RB hc hr) (g : xJ) : ∃ k g' v hr', f_l_result hc g = some (k, g') ∧ f_m_result hr = some (v, hr') ∧ f_m_thrown hr' = k ∧ (k = 0 → lg_cmp (g' 51 0) v.toInt64 = 0) ∧ Post hc hr hc hr' := by
  unfold f_l_result f_w_result f_m_result
  rw [R.status]
  by_cases hs : hr 27 1 = 3
  · rw [if_pos hs, if_pos hs]
    unfold f_m_result_14
    rw [if_pos hs]
    refine ⟨0, _, _, _, rfl, rfl, rfl, ?_, Post.thrown R 0⟩
    intro _
    rw [xputL_at, R.outc hs]
    exact lg_same _
  · rw [if_neg hs, if_neg hs]
    unfold f_m_result_14
    rw [if_neg hs]
    exact ⟨1, _, _, _, rfl, rfl, rfl, fun h => absurd h (by decide), Post.thrown R 1⟩
theorem RB.stop {hc hr : xI} (R : RB hc hr) : AgreeN (Post hc hr) (f_w_stop hc) (f_m_stop hr) := by
  unfold f_w_stop f_m_stop f_m_stop_18 f_m_stop_32 xb01
  rw [R.status]
  by_cases hs : hr 27 1 = 2
  · rw [if_pos hs, if_pos hs, if_neg (by decide), if_pos (by decide)]
    refine ⟨1, _, _, rfl, rfl, ?_, .inr ⟨by rw [hs]; decide, fun _ => hs, ?_⟩⟩
    · obtain ⟨r1, r2, r3, r4, r5, r6, r7, r8, r9, r10, r11, r12, r13, r14, r15, r16, r17, r18, r19, r20, r21, r22, r23, r24, r25, r26, r27, r28⟩ := R
      refine ⟨?_, ?_, ?_, ?_, ?_, ?_, ?_, ?_, ?_, ?_, ?_, ?_, ?_, ?_, ?_, ?_, ?_, ?_, ?_, ?_, ?_, ?_, ?_, ?_, ?_, ?_, ?_, ?_⟩ <;> simp only [xput_at, Nat.reduceEqDiff, reduceIte] <;> try assumption
      · decide
      · intro h; exact absurd h (by decide)
      · intro h; exact absurd h (by decide)
    · refine ⟨fun k hk => xput_off (by omega), fun k hk => ?_, by simp [xput_at], by simp [xput_at], by simp [xput_at], by simp [xput_at], by simp [xput_at]⟩
      rw [xput_off (by omega), xput_off (by omega)]
  · rw [if_neg hs, if_neg hs, if_pos rfl, if_pos (by decide)]
    refine ⟨0, hc, _, rfl, rfl, ?_⟩
    have e : xput (xput hr 27 0 0) 27 1 (xput hr 27 0 0 27 1) = xput hr 27 0 0 := by
      funext a j
      by_cases ha : a = 27
      · subst ha
        by_cases hj : j = 1
        · subst hj; simp [xput_at]
        · simp [xput_at, hj]
      · simp [xput_at, ha]
    rw [e]
    exact Post.thrown R 0
theorem RB.argument {hc hr : xI} (R : RB hc hr) (v : Int32) : AgreeN (Post hc hr) (f_w_argument v hc) (f_m_argument v hr) := by
  unfold f_w_argument f_m_argument
  rw [R.argc]
  have hb := R.argcB
  have e4 : (4 : Int32).toInt = 4 := rfl
  have e1 : (1 : Int32).toInt = 1 := rfl
  by_cases hs : hr 27 29 = 4
  · rw [if_pos hs, if_pos hs]
    exact ⟨_, _, _, rfl, rfl, Post.thrown R 0⟩
  · have hs' : (hr 27 29).toInt ≠ 4 := fun e => hs (xi_eq.mpr (by rw [e, e4]))
    have ha : (hr 27 29 + 1).toInt = (hr 27 29).toInt + 1 := xi_add (by omega) (by omega)
    rw [if_neg hs, if_neg hs, xgd_ok hb.1 (by omega), xgd_ok hb.1 (by omega)]
    refine ⟨_, _, _, rfl, rfl, ?_, ?_⟩
    · obtain ⟨r1, r2, r3, r4, r5, r6, r7, r8, r9, r10, r11, r12, r13, r14, r15, r16, r17, r18, r19, r20, r21, r22, r23, r24, r25, r26, r27, r28⟩ := R
      refine ⟨?_, ?_, ?_, ?_, ?_, ?_, ?_, ?_, ?_, ?_, ?_, ?_, ?_, ?_, ?_, ?_, ?_, ?_, ?_, ?_, ?_, ?_, ?_, ?_, ?_, ?_, ?_, ?_⟩ <;> simp only [xput_at, Nat.reduceEqDiff, reduceIte] <;> try assumption
      · omega
      · intro j; rw [r3 j]
    · by_cases h0 : hr 27 1 = 0
      · exact .inl (by simp [xput_at, h0])
      · refine .inr ⟨h0, by simp [xput_at], fun k hk => ?_, fun k hk => ?_, by simp [xput_at], by simp [xput_at], by simp [xput_at], by simp [xput_at], by simp [xput_at]⟩
        · rw [xput_off (by omega), xput_off (by omega)]
        · rw [xput_off (by omega)]
          by_cases h45 : k = 45
          · omega
          · rw [xput_off h45, xput_off (by omega)]
