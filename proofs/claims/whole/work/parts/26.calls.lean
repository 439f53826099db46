/-! The calls. -/
/-- the class and the reference answer a call that may throw alike, and go on so -/
def Agree (Q : xI → xI → Prop) (a : Option (Int32 × xI × xJ)) (b : Option (Int32 × xI)) : Prop := ∃ k hc' g' v hr', a = some (k, hc', g') ∧ b = some (v, hr') ∧ f_m_thrown hr' = k ∧ (k = 0 → lg_cmp (g' 51 0) v.toInt64 = 0) ∧ Q hc' hr'
theorem lg_same (x : Int64) : lg_cmp x x = 0 := by
  unfold lg_cmp
  simp
theorem xputL_at (g : xJ) (k j : Nat) (v : Int64) : xputL g k j v k j = v := by
  unfold xputL vp_updL
  simp
theorem RB.thrown {hc hr : xI} (R : RB hc hr) (v : Int32) : RB hc (xput hr 27 0 v) := by
  obtain ⟨r1, r2, r3, r4, r5, r6, r7, r8, r9, r10, r11, r12, r13, r14, r15, r16, r17, r18, r19, r20, r21, r22, r23, r24, r25, r26, r27, r28⟩ := R
  refine ⟨?_, ?_, ?_, ?_, ?_, ?_, ?_, ?_, ?_, ?_, ?_, ?_, ?_, ?_, ?_, ?_, ?_, ?_, ?_, ?_, ?_, ?_, ?_, ?_, ?_, ?_, ?_, ?_⟩ <;> (simp only [xput_at, Nat.reduceEqDiff, reduceIte]; assumption)
theorem RB.word {hc hr : xI} (R : RB hc hr) (v : Int32) (g : xJ) : Agree RB (f_l_word v hc g) (f_m_word v hr) := by
  unfold f_l_word f_w_word f_m_word
  rw [R.status]
  by_cases hs : hr 27 1 = 0
  · rw [if_pos hs, if_pos hs]
    unfold f_c_hasRoomFor
    rw [R.len]
    have hb := R.lenB
    by_cases hl : hr 27 2 = 240
    · have h1 : (240 : Int32) < hr 27 2 + 1 := by rw [hl]; decide
      rw [if_pos h1, if_pos hl, if_pos rfl]
      unfold f_w_word_18 f_m_word_18 f_m_word_23
      exact ⟨1, hc, g, 0, xput hr 27 0 1, rfl, rfl, rfl, fun h => absurd h (by decide), R.thrown 1⟩
    · sorry
  · sorry
