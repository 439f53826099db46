/-! The plain words, one by one. -/
theorem RB.goingM {hc hr hc' hr' : xI} (R : RB hc hr) (hs : hr 27 1 = 2) (h1 : ∀ k, k ≠ 19 → ¬ (21 ≤ k ∧ k ≤ 25) → k ≠ 11 → k ≠ 12 → k ≠ 20 → hc' k = hc k) (h2 : ∀ k, k ≠ 27 → k < 46 → k ≠ 43 → k ≠ 44 → hr' k = hr k) (h3 : ∀ j, j ≠ 31 → j ≠ 32 → j ≠ 33 → j ≠ 35 → j ≠ 27 → hr' 27 j = hr 27 j) (mem : ∀ j, hr' 43 j = hc' 12 j &&& 255) (pg : hc' 11 1 = hr' 27 27) (pgB : 1 ≤ (hr' 27 27).toInt ∧ (hr' 27 27).toInt ≤ 4) (gl : ∀ j, hc' 20 j = hr' 44 j) : RB hc' hr' := by
  have hs' : hr' 27 1 = 2 := by rw [h3 1 (by omega) (by omega) (by omega) (by omega) (by omega), hs]
  obtain ⟨r1, r2, r3, r4, r5, r6, r7, r8, r9, r10, r11, r12, r13, r14, r15, r16, r17, r18, r19, r20, r21, r22, r23, r24, r25, r26, r27, r28⟩ := R
  have c0 : hc' 0 = hc 0 := h1 0 (by omega) (by omega) (by omega) (by omega) (by omega)
  have c1 : hc' 1 = hc 1 := h1 1 (by omega) (by omega) (by omega) (by omega) (by omega)
  have c2 : hc' 2 = hc 2 := h1 2 (by omega) (by omega) (by omega) (by omega) (by omega)
  have c3 : hc' 3 = hc 3 := h1 3 (by omega) (by omega) (by omega) (by omega) (by omega)
  have c4 : hc' 4 = hc 4 := h1 4 (by omega) (by omega) (by omega) (by omega) (by omega)
  have c5 : hc' 5 = hc 5 := h1 5 (by omega) (by omega) (by omega) (by omega) (by omega)
  have c6 : hc' 6 = hc 6 := h1 6 (by omega) (by omega) (by omega) (by omega) (by omega)
  have c26 : hc' 26 = hc 26 := h1 26 (by omega) (by omega) (by omega) (by omega) (by omega)
  have m1 : hr' 27 1 = hr 27 1 := h3 1 (by omega) (by omega) (by omega) (by omega) (by omega)
  have m2 : hr' 27 2 = hr 27 2 := h3 2 (by omega) (by omega) (by omega) (by omega) (by omega)
  have m4 : hr' 27 4 = hr 27 4 := h3 4 (by omega) (by omega) (by omega) (by omega) (by omega)
  have m9 : hr' 27 9 = hr 27 9 := h3 9 (by omega) (by omega) (by omega) (by omega) (by omega)
  have m10 : hr' 27 10 = hr 27 10 := h3 10 (by omega) (by omega) (by omega) (by omega) (by omega)
  have m29 : hr' 27 29 = hr 27 29 := h3 29 (by omega) (by omega) (by omega) (by omega) (by omega)
  have d28 : hr' 28 = hr 28 := h2 28 (by omega) (by omega) (by omega) (by omega)
  have d29 : hr' 29 = hr 29 := h2 29 (by omega) (by omega) (by omega) (by omega)
  have d30 : hr' 30 = hr 30 := h2 30 (by omega) (by omega) (by omega) (by omega)
  have d31 : hr' 31 = hr 31 := h2 31 (by omega) (by omega) (by omega) (by omega)
  have d32 : hr' 32 = hr 32 := h2 32 (by omega) (by omega) (by omega) (by omega)
  have d45 : hr' 45 = hr 45 := h2 45 (by omega) (by omega) (by omega) (by omega)
  refine ⟨?_, ?_, ?_, ?_, ?_, ?_, ?_, ?_, ?_, ?_, ?_, ?_, ?_, ?_, ?_, ?_, ?_, ?_, ?_, ?_, ?_, ?_, ?_, mem, pg, pgB, gl, ?_⟩ <;> (try simp only [c0, c1, c2, c3, c4, c5, c6, c26, m1, m2, m4, m9, m10, m29, d28, d29, d30, d31, d32, d45]) <;> first | assumption | (intro e; rw [hs] at e; exact absurd e (by decide))
theorem xlp (C i : Int32) {c k : Nat} (hC : C.toInt = (c : Int) + 1) (hc : c < 6) (hi : i.toInt = k) (hk : k < 8) : (C - 1) * 8 + i = 8 * (C - 1) + i ∧ (8 * (C - 1) + i).toInt = 8 * (c : Int) + k ∧ (8 * (C - 1) + i).toNatClampNeg = 8 * c + k := by
  have e1 : (1 : Int32).toInt = 1 := rfl
  have e8 : (8 : Int32).toInt = 8 := rfl
  have a : (C - 1).toInt = c := by rw [xi_sub (by omega) (by omega)]; omega
  have b : (8 * (C - 1)).toInt = 8 * (c : Int) := by rw [xi_mul (by rw [e8]; omega) (by rw [e8]; omega), e8]; omega
  have d : (8 * (C - 1) + i).toInt = 8 * (c : Int) + k := by rw [xi_add (by omega) (by omega)]; omega
  exact ⟨by rw [Int32.mul_comm], d, by rw [xi_nat]; omega⟩
theorem xs_drop {A : Nat → Nat → Int → Prop} {hc hr : xI} {c f p : Nat} {v : Int} (B : xBef A hc hr) (X : xCtxt A hc hr c f p v) (hw : hr 28 p = 26) : xStepOK A hc hr := by
  have hs := B.2.2.1
  have R := B.1
  have N := B.2.2.2.1
  have cs := xcstep B X (by rw [hw]; decide) (by rw [hw]; decide)
  have ms := xmgo X (xt0 X _ (by rw [hw]; decide) (by rw [hw]; decide) (by rw [hw]; decide) (by rw [hw]; decide) (by rw [hw]; decide) (by rw [hw]; decide) (by rw [hw]; decide) (by rw [hw]; decide) (by rw [hw]; decide))
  rw [xm54p (by rw [hw]; decide), hw] at ms
  have X' := X
  obtain ⟨x1, x2, x3, x4, x5, x6, x7, x8, x9, x10, x11, x12, x13, x14, x15, x16, C⟩ := X'
  have ea := (C.2.2.2.2.2.2.2.2.2.2 (.inr (by rw [hw]; decide))).1
  have ey : (f_m_eats 26).toInt = 1 ∧ (f_m_yields 26).toInt = 0 := by decide
  rw [hw] at ea
  have e0 : (0 : Int32).toInt = 0 := rfl
  have e1 : (1 : Int32).toInt = 1 := rfl
  have e2 : (2 : Int32).toInt = 2 := rfl
  have s1 : (hr 27 33 - 1).toInt = (hr 27 33).toInt - 1 := xi_sub (by omega) (by omega)
  have s2 : (hr 27 33 - 2).toInt = (hr 27 33).toInt - 2 := xi_sub (by omega) (by omega)
  have q33 : xput hr 27 31 0 27 33 = hr 27 33 := by simp [xput_at]
  have q32 : xput hr 27 31 0 27 32 = hr 27 32 := by simp [xput_at]
  have q35 : xput hr 27 31 0 27 35 = hr 27 35 := by simp [xput_at]
  have im : f_m_immediates 26 = 0 := by decide
  have st0 : f_m_isStore 26 = 0 := by decide
  have ee : f_m_eats 26 = 1 := by decide
  rw [xplainT (by rw [q33]; omega) (by rw [q33]; omega)] at ms
  have g1 : ∀ {α : Type} (x : Option α), xgd (hr 27 33 - 1) 101 x = x := fun x => xgd_ok (by omega) (by omega)
  simp [f_m_plain_27, f_m_one, f_m_one_41, f_m_one_51, f_m_one_63, f_m_one_166, f_m_plain_226, f_m_plain_99, f_m_give, f_m_give_40, f_m_give_66, f_m_give_84, q33, q32, g1, st0, ee, im, xput_at] at ms
  rw [hw, if_pos (by decide), if_neg (by decide)] at cs
  simp [f_h_move, xput_at, N.depth, im] at cs
  refine ⟨_, _, by rw [cs, Option.bind_some]; exact xheed0 _, ms, ?_⟩
  refine xgoesP B X (.inr (by rw [hw]; decide)) (R.going hs (by intro k a b; simp only [xput_off a, xput_off (show k ≠ 21 from by omega), xput_off (show k ≠ 25 from by omega)]) (by intro k a b; simp only [xput_off a, xput_off (show k ≠ 46 from by omega), xput_off (show k ≠ 50 from by omega)]) (by intro j a b c d; simp [xput_at, a, b, c, d])) ?_ ?_ ?_ ?_ ?_ ?_ ?_ ?_ ?_ ?_ ?_ ?_ ?_
  · intro k a1 a2 a3 a4 a5 a6; simp only [xput_off a1, xput_off a2, xput_off a3, xput_off a4, xput_off a5, xput_off a6]
  · intro k a1 a2 a3 a4 a5; simp only [xput_off a1, xput_off a2, xput_off a3, xput_off a4, xput_off a5]
  · simp [xput_at, hs]
  · simp [xput_at]
  · simp [xput_at]
  · simp [xput_at]
  · simp [xput_at, N.depth]
  · simp [xput_at]
  · simp [xput_at, hw, im]
  · intro j hj
    simp only [xput_at, Nat.reduceEqDiff, reduceIte] at hj ⊢
    exact N.stack j (by omega)
  · intro a b h1 h2
    simp only [xput_at, Nat.reduceEqDiff, reduceIte]
    exact N.locl a b h1 h2
  · simp only [xput_at, Nat.reduceEqDiff, reduceIte, hw]
    omega
  · simp only [xput_at, Nat.reduceEqDiff, reduceIte]
    omega
theorem xs_select {A : Nat → Nat → Int → Prop} {hc hr : xI} {c f p : Nat} {v : Int} (B : xBef A hc hr) (X : xCtxt A hc hr c f p v) (hw : hr 28 p = 27) : xStepOK A hc hr := by
  have hs := B.2.2.1
  have R := B.1
  have N := B.2.2.2.1
  have cs := xcstep B X (by rw [hw]; decide) (by rw [hw]; decide)
  have ms := xmgo X (xt0 X _ (by rw [hw]; decide) (by rw [hw]; decide) (by rw [hw]; decide) (by rw [hw]; decide) (by rw [hw]; decide) (by rw [hw]; decide) (by rw [hw]; decide) (by rw [hw]; decide) (by rw [hw]; decide))
  rw [xm54p (by rw [hw]; decide), hw] at ms
  have X' := X
  obtain ⟨x1, x2, x3, x4, x5, x6, x7, x8, x9, x10, x11, x12, x13, x14, x15, x16, C⟩ := X'
  have ea := (C.2.2.2.2.2.2.2.2.2.2 (.inr (by rw [hw]; decide))).1
  have ey : (f_m_eats 27).toInt = 3 ∧ (f_m_yields 27).toInt = 1 := by decide
  rw [hw] at ea
  have e0 : (0 : Int32).toInt = 0 := rfl
  have e1 : (1 : Int32).toInt = 1 := rfl
  have e2 : (2 : Int32).toInt = 2 := rfl
  have s1 : (hr 27 33 - 1).toInt = (hr 27 33).toInt - 1 := xi_sub (by omega) (by omega)
  have s2 : (hr 27 33 - 2).toInt = (hr 27 33).toInt - 2 := xi_sub (by omega) (by omega)
  have q33 : xput hr 27 31 0 27 33 = hr 27 33 := by simp [xput_at]
  have q32 : xput hr 27 31 0 27 32 = hr 27 32 := by simp [xput_at]
  have q35 : xput hr 27 31 0 27 35 = hr 27 35 := by simp [xput_at]
  have im : f_m_immediates 27 = 0 := by decide
  have st0 : f_m_isStore 27 = 0 := by decide
  have ee : f_m_eats 27 = 3 := by decide
  rw [xplainT (by rw [q33]; omega) (by rw [q33]; omega)] at ms
  have s21 : (hr 27 33 - 2 - 1).toInt = (hr 27 33).toInt - 3 := by rw [xi_sub (by omega) (by omega)]; omega
  have s11 : hr 27 33 - 1 - 1 = hr 27 33 - 2 := by rw [Int32.sub_sub]; rfl
  have g1 : ∀ {α : Type} (x : Option α), xgd (hr 27 33 - 1) 101 x = x := fun x => xgd_ok (by omega) (by omega)
  have g2 : ∀ {α : Type} (x : Option α), xgd (hr 27 33 - 2) 101 x = x := fun x => xgd_ok (by omega) (by omega)
  have g3 : ∀ {α : Type} (x : Option α), xgd (hr 27 33 - 2 - 1) 101 x = x := fun x => xgd_ok (by omega) (by omega)
  have k1 : ∀ {α : Type} (x : Option α), xgd (hr 27 33 - 1) 100 x = x := fun x => xgd_ok (by omega) (by omega)
  have k2 : ∀ {α : Type} (x : Option α), xgd (hr 27 33 - 2) 100 x = x := fun x => xgd_ok (by omega) (by omega)
  have k3 : ∀ {α : Type} (x : Option α), xgd (hr 27 33 - 2 - 1) 100 x = x := fun x => xgd_ok (by omega) (by omega)
  have t1 := N.stack (hr 27 33 - 1).toNatClampNeg (by rw [xi_nat]; omega)
  have t2 := N.stack (hr 27 33 - 2).toNatClampNeg (by rw [xi_nat]; omega)
  rw [hw, if_pos (by decide), if_neg (by decide)] at cs
  by_cases z : hr 46 (hr 27 33 - 1).toNatClampNeg = 0
  · simp [f_m_plain_27, f_m_one, f_m_one_41, f_m_one_51, f_m_one_63, f_m_one_166, f_m_plain_226, f_m_plain_99, f_m_give, f_m_give_40, f_m_give_66, f_m_give_84, q33, q32, g1, g2, g3, st0, ee, im, xput_at, z] at ms
    simp [f_h_move, f_h_select, f_h_pop, xput_at, N.depth, im, k1, k2, k3, s11, t1, t2, z] at cs
    refine ⟨_, _, by rw [cs, Option.bind_some]; exact xheed0 _, ms, ?_⟩
    refine xgoesP B X (.inr (by rw [hw]; decide)) (R.going hs (by intro k a b; simp only [xput_off a, xput_off (show k ≠ 21 from by omega), xput_off (show k ≠ 25 from by omega)]) (by intro k a b; simp only [xput_off a, xput_off (show k ≠ 46 from by omega), xput_off (show k ≠ 50 from by omega)]) (by intro j a b c d; simp [xput_at, a, b, c, d])) ?_ ?_ ?_ ?_ ?_ ?_ ?_ ?_ ?_ ?_ ?_ ?_ ?_
    · intro k a1 a2 a3 a4 a5 a6; simp only [xput_off a1, xput_off a2, xput_off a3, xput_off a4, xput_off a5, xput_off a6]
    · intro k a1 a2 a3 a4 a5; simp only [xput_off a1, xput_off a2, xput_off a3, xput_off a4, xput_off a5]
    · simp [xput_at, hs]
    · simp [xput_at]
    · simp [xput_at]
    · simp [xput_at]
    · simp [xput_at, N.depth]
    · simp [xput_at]
    · simp [xput_at, hw, im]
    · intro j hj
      simp only [xput_at, Nat.reduceEqDiff, reduceIte] at hj ⊢
      by_cases e : j = (hr 27 33 - 2 - 1).toNatClampNeg
      · rw [if_pos e, if_pos e]
      · rw [if_neg e, if_neg e]
        exact N.stack j (by omega)
    · intro a b h1 h2
      simp only [xput_at, Nat.reduceEqDiff, reduceIte]
      exact N.locl a b h1 h2
    · simp only [xput_at, Nat.reduceEqDiff, reduceIte, hw]
      omega
    · simp only [xput_at, Nat.reduceEqDiff, reduceIte]
      omega
  · simp [f_m_plain_27, f_m_one, f_m_one_41, f_m_one_51, f_m_one_63, f_m_one_166, f_m_plain_226, f_m_plain_99, f_m_give, f_m_give_40, f_m_give_66, f_m_give_84, q33, q32, g1, g2, g3, st0, ee, im, xput_at, z] at ms
    simp [f_h_move, f_h_select, f_h_pop, xput_at, N.depth, im, k1, k2, k3, s11, t1, t2, z] at cs
    refine ⟨_, _, by rw [cs, Option.bind_some]; exact xheed0 _, ms, ?_⟩
    refine xgoesP B X (.inr (by rw [hw]; decide)) (R.going hs (by intro k a b; simp only [xput_off a, xput_off (show k ≠ 21 from by omega), xput_off (show k ≠ 25 from by omega)]) (by intro k a b; simp only [xput_off a, xput_off (show k ≠ 46 from by omega), xput_off (show k ≠ 50 from by omega)]) (by intro j a b c d; simp [xput_at, a, b, c, d])) ?_ ?_ ?_ ?_ ?_ ?_ ?_ ?_ ?_ ?_ ?_ ?_ ?_
    · intro k a1 a2 a3 a4 a5 a6; simp only [xput_off a1, xput_off a2, xput_off a3, xput_off a4, xput_off a5, xput_off a6]
    · intro k a1 a2 a3 a4 a5; simp only [xput_off a1, xput_off a2, xput_off a3, xput_off a4, xput_off a5]
    · simp [xput_at, hs]
    · simp [xput_at]
    · simp [xput_at]
    · simp [xput_at]
    · simp [xput_at, N.depth]
    · simp [xput_at]
    · simp [xput_at, hw, im]
    · intro j hj
      simp only [xput_at, Nat.reduceEqDiff, reduceIte] at hj ⊢
      by_cases e : j = (hr 27 33 - 2 - 1).toNatClampNeg
      · rw [if_pos e, ← e]
        exact N.stack j (by omega)
      · rw [if_neg e]
        exact N.stack j (by omega)
    · intro a b h1 h2
      simp only [xput_at, Nat.reduceEqDiff, reduceIte]
      exact N.locl a b h1 h2
    · simp only [xput_at, Nat.reduceEqDiff, reduceIte, hw]
      omega
    · simp only [xput_at, Nat.reduceEqDiff, reduceIte]
      omega
theorem xs_lset {A : Nat → Nat → Int → Prop} {hc hr : xI} {c f p : Nat} {v : Int} (B : xBef A hc hr) (X : xCtxt A hc hr c f p v) (hw : hr 28 p = 33) : xStepOK A hc hr := by
  have hs := B.2.2.1
  have R := B.1
  have N := B.2.2.2.1
  have cs := xcstep B X (by rw [hw]; decide) (by rw [hw]; decide)
  have ms := xmgo X (xt0 X _ (by rw [hw]; decide) (by rw [hw]; decide) (by rw [hw]; decide) (by rw [hw]; decide) (by rw [hw]; decide) (by rw [hw]; decide) (by rw [hw]; decide) (by rw [hw]; decide) (by rw [hw]; decide))
  rw [xm54p (by rw [hw]; decide), hw] at ms
  have X' := X
  obtain ⟨x1, x2, x3, x4, x5, x6, x7, x8, x9, x10, x11, x12, x13, x14, x15, x16, C⟩ := X'
  have ea := (C.2.2.2.2.2.2.2.2.2.2 (.inr (by rw [hw]; decide))).1
  have ey : (f_m_eats 33).toInt = 1 ∧ (f_m_yields 33).toInt = 0 := by decide
  rw [hw] at ea
  have e0 : (0 : Int32).toInt = 0 := rfl
  have e1 : (1 : Int32).toInt = 1 := rfl
  have e2 : (2 : Int32).toInt = 2 := rfl
  have s1 : (hr 27 33 - 1).toInt = (hr 27 33).toInt - 1 := xi_sub (by omega) (by omega)
  have s2 : (hr 27 33 - 2).toInt = (hr 27 33).toInt - 2 := xi_sub (by omega) (by omega)
  have q33 : xput hr 27 31 0 27 33 = hr 27 33 := by simp [xput_at]
  have q32 : xput hr 27 31 0 27 32 = hr 27 32 := by simp [xput_at]
  have q35 : xput hr 27 31 0 27 35 = hr 27 35 := by simp [xput_at]
  have im : f_m_immediates 33 = 1 := by decide
  have ip := xwd_imm C.1 (by rw [hw, im]; decide)
  obtain ⟨j1, j2⟩ := xi_cl1 x6 (by omega)
  have gi : ∀ {α : Type} (x : Option α), xgd (hr 27 32 + 1) 240 x = x := fun x => xgd_ok (by omega) (by omega)
  have st0 : f_m_isStore 33 = 0 := by decide
  have ee : f_m_eats 33 = 1 := by decide
  rw [xplainT (by rw [q33]; omega) (by rw [q33]; omega)] at ms
  have wl := C.1.2.2.2.2.2.1 (by rw [hw]; decide)
  have pb := R.parsB f
  have lb := R.locsB f
  obtain ⟨l1, l2, l3⟩ := xlp (hr 27 35) (hr 28 (p + 1)) (k := (hr 28 (p + 1)).toInt.toNat) x1 x2 (by omega) (by omega)
  have g1 : ∀ {α : Type} (x : Option α), xgd (hr 27 33 - 1) 101 x = x := fun x => xgd_ok (by omega) (by omega)
  have k1 : ∀ {α : Type} (x : Option α), xgd (hr 27 33 - 1) 100 x = x := fun x => xgd_ok (by omega) (by omega)
  have g4 : ∀ {α : Type} (x : Option α), xgd (8 * (hr 27 35 - 1) + hr 28 (p + 1)) 48 x = x := fun x => xgd_ok (by omega) (by omega)
  have t1 := N.stack (hr 27 33 - 1).toNatClampNeg (by rw [xi_nat]; omega)
  simp [f_m_plain_27, f_m_one, f_m_one_41, f_m_one_51, f_m_one_63, f_m_one_166, f_m_plain_226, f_m_plain_99, f_m_give, f_m_give_40, f_m_give_66, f_m_give_84, q33, q32, q35, g1, g4, st0, ee, im, xput_at] at ms
  rw [hw, if_pos (by decide), if_neg (by decide)] at cs
  simp [f_h_move, f_h_pop, f_h_localPlace, xput_at, N.depth, N.calls, R.words, im, gi, k1, j2, l1, g4, t1] at cs
  refine ⟨_, _, by rw [cs, Option.bind_some]; exact xheed0 _, ms, ?_⟩
  refine xgoesP B X (.inr (by rw [hw]; decide)) (R.going hs (by intro k a b; simp only [xput_off a, xput_off (show k ≠ 21 from by omega), xput_off (show k ≠ 25 from by omega)]) (by intro k a b; simp only [xput_off a, xput_off (show k ≠ 46 from by omega), xput_off (show k ≠ 50 from by omega)]) (by intro j a b c d; simp [xput_at, a, b, c, d])) ?_ ?_ ?_ ?_ ?_ ?_ ?_ ?_ ?_ ?_ ?_ ?_ ?_
  · intro k a1 a2 a3 a4 a5 a6; simp only [xput_off a1, xput_off a2, xput_off a3, xput_off a4, xput_off a5, xput_off a6]
  · intro k a1 a2 a3 a4 a5; simp only [xput_off a1, xput_off a2, xput_off a3, xput_off a4, xput_off a5]
  · simp [xput_at, hs]
  · simp [xput_at]
  · simp [xput_at]
  · simp [xput_at]
  · simp [xput_at, N.depth]
  · simp [xput_at]
  · simp [xput_at, hw, im]
  · intro j hj
    simp only [xput_at, Nat.reduceEqDiff, reduceIte] at hj ⊢
    exact N.stack j (by omega)
  · intro a b h1 h2
    simp only [xput_at, Nat.reduceEqDiff, reduceIte]
    by_cases e : 8 * a + b = (8 * (hr 27 35 - 1) + hr 28 (p + 1)).toNatClampNeg
    · rw [if_pos e, if_pos e]
    · rw [if_neg e, if_neg e]
      exact N.locl a b h1 h2
  · simp only [xput_at, Nat.reduceEqDiff, reduceIte, hw]
    omega
  · simp only [xput_at, Nat.reduceEqDiff, reduceIte]
    omega
theorem xs_ltee {A : Nat → Nat → Int → Prop} {hc hr : xI} {c f p : Nat} {v : Int} (B : xBef A hc hr) (X : xCtxt A hc hr c f p v) (hw : hr 28 p = 34) : xStepOK A hc hr := by
  have hs := B.2.2.1
  have R := B.1
  have N := B.2.2.2.1
  have cs := xcstep B X (by rw [hw]; decide) (by rw [hw]; decide)
  have ms := xmgo X (xt0 X _ (by rw [hw]; decide) (by rw [hw]; decide) (by rw [hw]; decide) (by rw [hw]; decide) (by rw [hw]; decide) (by rw [hw]; decide) (by rw [hw]; decide) (by rw [hw]; decide) (by rw [hw]; decide))
  rw [xm54p (by rw [hw]; decide), hw] at ms
  have X' := X
  obtain ⟨x1, x2, x3, x4, x5, x6, x7, x8, x9, x10, x11, x12, x13, x14, x15, x16, C⟩ := X'
  have ea := (C.2.2.2.2.2.2.2.2.2.2 (.inr (by rw [hw]; decide))).1
  have ey : (f_m_eats 34).toInt = 1 ∧ (f_m_yields 34).toInt = 1 := by decide
  rw [hw] at ea
  have e0 : (0 : Int32).toInt = 0 := rfl
  have e1 : (1 : Int32).toInt = 1 := rfl
  have e2 : (2 : Int32).toInt = 2 := rfl
  have s1 : (hr 27 33 - 1).toInt = (hr 27 33).toInt - 1 := xi_sub (by omega) (by omega)
  have s2 : (hr 27 33 - 2).toInt = (hr 27 33).toInt - 2 := xi_sub (by omega) (by omega)
  have q33 : xput hr 27 31 0 27 33 = hr 27 33 := by simp [xput_at]
  have q32 : xput hr 27 31 0 27 32 = hr 27 32 := by simp [xput_at]
  have q35 : xput hr 27 31 0 27 35 = hr 27 35 := by simp [xput_at]
  have im : f_m_immediates 34 = 1 := by decide
  have ip := xwd_imm C.1 (by rw [hw, im]; decide)
  obtain ⟨j1, j2⟩ := xi_cl1 x6 (by omega)
  have gi : ∀ {α : Type} (x : Option α), xgd (hr 27 32 + 1) 240 x = x := fun x => xgd_ok (by omega) (by omega)
  have st0 : f_m_isStore 34 = 0 := by decide
  have ee : f_m_eats 34 = 1 := by decide
  rw [xplainT (by rw [q33]; omega) (by rw [q33]; omega)] at ms
  have wl := C.1.2.2.2.2.2.1 (by rw [hw]; decide)
  have pb := R.parsB f
  have lb := R.locsB f
  obtain ⟨l1, l2, l3⟩ := xlp (hr 27 35) (hr 28 (p + 1)) (k := (hr 28 (p + 1)).toInt.toNat) x1 x2 (by omega) (by omega)
  have g1 : ∀ {α : Type} (x : Option α), xgd (hr 27 33 - 1) 101 x = x := fun x => xgd_ok (by omega) (by omega)
  have k1 : ∀ {α : Type} (x : Option α), xgd (hr 27 33 - 1) 100 x = x := fun x => xgd_ok (by omega) (by omega)
  have g4 : ∀ {α : Type} (x : Option α), xgd (8 * (hr 27 35 - 1) + hr 28 (p + 1)) 48 x = x := fun x => xgd_ok (by omega) (by omega)
  have t1 := N.stack (hr 27 33 - 1).toNatClampNeg (by rw [xi_nat]; omega)
  simp [f_m_plain_27, f_m_one, f_m_one_41, f_m_one_51, f_m_one_63, f_m_one_166, f_m_plain_226, f_m_plain_99, f_m_give, f_m_give_40, f_m_give_66, f_m_give_84, q33, q32, q35, g1, g4, st0, ee, im, xput_at] at ms
  rw [hw, if_pos (by decide), if_neg (by decide)] at cs
  simp [f_h_move, f_h_pop, f_h_localPlace, xput_at, N.depth, N.calls, R.words, im, gi, k1, j2, l1, g4, t1] at cs
  refine ⟨_, _, by rw [cs, Option.bind_some]; exact xheed0 _, ms, ?_⟩
  refine xgoesP B X (.inr (by rw [hw]; decide)) (R.going hs (by intro k a b; simp only [xput_off a, xput_off (show k ≠ 21 from by omega), xput_off (show k ≠ 25 from by omega)]) (by intro k a b; simp only [xput_off a, xput_off (show k ≠ 46 from by omega), xput_off (show k ≠ 50 from by omega)]) (by intro j a b c d; simp [xput_at, a, b, c, d])) ?_ ?_ ?_ ?_ ?_ ?_ ?_ ?_ ?_ ?_ ?_ ?_ ?_
  · intro k a1 a2 a3 a4 a5 a6; simp only [xput_off a1, xput_off a2, xput_off a3, xput_off a4, xput_off a5, xput_off a6]
  · intro k a1 a2 a3 a4 a5; simp only [xput_off a1, xput_off a2, xput_off a3, xput_off a4, xput_off a5]
  · simp [xput_at, hs]
  · simp [xput_at]
  · simp [xput_at]
  · simp [xput_at]
  · simp [xput_at, N.depth]
  · simp [xput_at]
  · simp [xput_at, hw, im]
  · intro j hj
    simp only [xput_at, Nat.reduceEqDiff, reduceIte] at hj ⊢
    exact N.stack j (by omega)
  · intro a b h1 h2
    simp only [xput_at, Nat.reduceEqDiff, reduceIte]
    by_cases e : 8 * a + b = (8 * (hr 27 35 - 1) + hr 28 (p + 1)).toNatClampNeg
    · rw [if_pos e, if_pos e]
    · rw [if_neg e, if_neg e]
      exact N.locl a b h1 h2
  · simp only [xput_at, Nat.reduceEqDiff, reduceIte, hw]
    omega
  · simp only [xput_at, Nat.reduceEqDiff, reduceIte]
    omega
theorem xs_gset {A : Nat → Nat → Int → Prop} {hc hr : xI} {c f p : Nat} {v : Int} (B : xBef A hc hr) (X : xCtxt A hc hr c f p v) (hw : hr 28 p = 36) : xStepOK A hc hr := by
  have hs := B.2.2.1
  have R := B.1
  have N := B.2.2.2.1
  have cs := xcstep B X (by rw [hw]; decide) (by rw [hw]; decide)
  have ms := xmgo X (xt0 X _ (by rw [hw]; decide) (by rw [hw]; decide) (by rw [hw]; decide) (by rw [hw]; decide) (by rw [hw]; decide) (by rw [hw]; decide) (by rw [hw]; decide) (by rw [hw]; decide) (by rw [hw]; decide))
  rw [xm54p (by rw [hw]; decide), hw] at ms
  have X' := X
  obtain ⟨x1, x2, x3, x4, x5, x6, x7, x8, x9, x10, x11, x12, x13, x14, x15, x16, C⟩ := X'
  have ea := (C.2.2.2.2.2.2.2.2.2.2 (.inr (by rw [hw]; decide))).1
  have ey : (f_m_eats 36).toInt = 1 ∧ (f_m_yields 36).toInt = 0 := by decide
  rw [hw] at ea
  have e0 : (0 : Int32).toInt = 0 := rfl
  have e1 : (1 : Int32).toInt = 1 := rfl
  have e2 : (2 : Int32).toInt = 2 := rfl
  have s1 : (hr 27 33 - 1).toInt = (hr 27 33).toInt - 1 := xi_sub (by omega) (by omega)
  have s2 : (hr 27 33 - 2).toInt = (hr 27 33).toInt - 2 := xi_sub (by omega) (by omega)
  have q33 : xput hr 27 31 0 27 33 = hr 27 33 := by simp [xput_at]
  have q32 : xput hr 27 31 0 27 32 = hr 27 32 := by simp [xput_at]
  have q35 : xput hr 27 31 0 27 35 = hr 27 35 := by simp [xput_at]
  have im : f_m_immediates 36 = 1 := by decide
  have ip := xwd_imm C.1 (by rw [hw, im]; decide)
  obtain ⟨j1, j2⟩ := xi_cl1 x6 (by omega)
  have gi : ∀ {α : Type} (x : Option α), xgd (hr 27 32 + 1) 240 x = x := fun x => xgd_ok (by omega) (by omega)
  have st0 : f_m_isStore 36 = 0 := by decide
  have ee : f_m_eats 36 = 1 := by decide
  rw [xplainT (by rw [q33]; omega) (by rw [q33]; omega)] at ms
  have wl := C.1.2.2.2.2.2.2.1 (by rw [hw]; decide)
  have g1 : ∀ {α : Type} (x : Option α), xgd (hr 27 33 - 1) 101 x = x := fun x => xgd_ok (by omega) (by omega)
  have k1 : ∀ {α : Type} (x : Option α), xgd (hr 27 33 - 1) 100 x = x := fun x => xgd_ok (by omega) (by omega)
  have g4 : ∀ {α : Type} (x : Option α), xgd (hr 28 (p + 1)) 4 x = x := fun x => xgd_ok (by omega) (by omega)
  have t1 := N.stack (hr 27 33 - 1).toNatClampNeg (by rw [xi_nat]; omega)
  simp [f_m_plain_27, f_m_one, f_m_one_41, f_m_one_51, f_m_one_63, f_m_one_166, f_m_plain_226, f_m_plain_99, f_m_give, f_m_give_40, f_m_give_66, f_m_give_84, q33, q32, q35, g1, g4, st0, ee, im, xput_at] at ms
  rw [hw, if_pos (by decide), if_neg (by decide)] at cs
  simp [f_h_move, f_h_pop, f_h_localPlace, xput_at, N.depth, N.calls, R.words, im, gi, k1, j2, g4, t1] at cs
  refine ⟨_, _, by rw [cs, Option.bind_some]; exact xheed0 _, ms, ?_⟩
  refine xgoesP B X (.inr (by rw [hw]; decide)) (R.goingM hs (by intro k a b c1 c2 c3; simp only [xput_off a, xput_off c3]) (by intro k a b c1 c2; simp only [xput_off a, xput_off c2]) (by intro j a b c d e; simp [xput_at, a, b, c, d, e]) (by intro j; simp only [xput_at, Nat.reduceEqDiff, reduceIte]; exact R.mem j) (by simp only [xput_at, Nat.reduceEqDiff, reduceIte]; exact R.pages) (by simp only [xput_at, Nat.reduceEqDiff, reduceIte]; exact R.pagesB) (by intro j; simp only [xput_at, Nat.reduceEqDiff, reduceIte]; rw [R.glob j])) ?_ ?_ ?_ ?_ ?_ ?_ ?_ ?_ ?_ ?_ ?_ ?_ ?_
  · intro k a1 a2 a3 a4 a5 a6; simp only [xput_off a1, xput_off a2, xput_off a3, xput_off a4, xput_off a5, xput_off a6]
  · intro k a1 a2 a3 a4 a5; simp only [xput_off a1, xput_off a2, xput_off a3, xput_off a4, xput_off a5]
  · simp [xput_at, hs]
  · simp [xput_at]
  · simp [xput_at]
  · simp [xput_at]
  · simp [xput_at, N.depth]
  · simp [xput_at]
  · simp [xput_at, hw, im]
  · intro j hj
    simp only [xput_at, Nat.reduceEqDiff, reduceIte] at hj ⊢
    exact N.stack j (by omega)
  · intro a b h1 h2
    simp only [xput_at, Nat.reduceEqDiff, reduceIte]
    exact N.locl a b h1 h2
  · simp only [xput_at, Nat.reduceEqDiff, reduceIte, hw]
    omega
  · simp only [xput_at, Nat.reduceEqDiff, reduceIte]
    omega
theorem xs_const {A : Nat → Nat → Int → Prop} {hc hr : xI} {c f p : Nat} {v : Int} (B : xBef A hc hr) (X : xCtxt A hc hr c f p v) (hw : hr 28 p = 65) : xStepOK A hc hr := by
  have hs := B.2.2.1
  have R := B.1
  have N := B.2.2.2.1
  have hw' := hw
  have X' := X
  obtain ⟨x1, x2, x3, x4, x5, x6, x7, x8, x9, x10, x11, x12, x13, x14, x15, x16, C⟩ := X'
  have ea := (C.2.2.2.2.2.2.2.2.2.2 (.inr (by rw [hw]; decide))).1
  have ey : (f_m_eats 65).toInt = 0 ∧ (f_m_yields 65).toInt = 1 := by decide
  rw [hw] at ea
  have e0 : (0 : Int32).toInt = 0 := rfl
  have e1 : (1 : Int32).toInt = 1 := rfl
  have e2 : (2 : Int32).toInt = 2 := rfl
  have s1 : (hr 27 33 - 1).toInt = (hr 27 33).toInt - 1 := xi_sub (by omega) (by omega)
  have s2 : (hr 27 33 - 2).toInt = (hr 27 33).toInt - 2 := xi_sub (by omega) (by omega)
  have q33 : xput hr 27 31 0 27 33 = hr 27 33 := by simp [xput_at]
  have q32 : xput hr 27 31 0 27 32 = hr 27 32 := by simp [xput_at]
  have q35 : xput hr 27 31 0 27 35 = hr 27 35 := by simp [xput_at]
  have im : f_m_immediates 65 = 1 := by decide
  have ip := xwd_imm C.1 (by rw [hw, im]; decide)
  obtain ⟨j1, j2⟩ := xi_cl1 x6 (by omega)
  have gi : ∀ {α : Type} (x : Option α), xgd (hr 27 32 + 1) 240 x = x := fun x => xgd_ok (by omega) (by omega)
  have st0 : f_m_isStore 65 = 0 := by decide
  have ee : f_m_eats 65 = 0 := by decide
  have e100 : (100 : Int32).toInt = 100 := rfl
  have tr := (xtrapP (b := 0) (a := 0) (hr := hr) (w := hr 28 p) (by rw [hw]; decide))
  obtain ⟨b, a, tb, -⟩ := xtrapOf x13 x14 (hr 28 p)
  rw [xtrapP (by rw [hw]; decide)] at tb
  have cs : f_h_step hc = f_h_push (hr 28 (p + 1)) (xput hc 19 5 (hr 27 32 + (1 + f_m_immediates 65))) := by
    unfold f_h_step
    rw [N.next, xgd_ok (by omega) (by omega), xsize R x6 x7 C.1.1 (by rw [hw]; decide), Option.bind_some, xi_cl x6, R.words, hw, if_pos (by decide), if_pos (by decide), if_pos (by decide), if_pos rfl, gi, j2, R.words, xbp]
  by_cases full : hr 27 33 = 100
  · rw [if_pos full] at tb
    have ms := xmtrap x6 x7 tb (by decide)
    simp [im, f_h_push, xput_at, N.depth, N.calls, R.words, R.pages, R.glob, full] at cs
    have h1 : ∀ k, k ≠ 19 → ¬ (21 ≤ k ∧ k ≤ 25) → (xput hc 19 5 (hr 27 32 + (1 + f_m_immediates 65))) k = hc k := fun k a b => xput_off a
    obtain ⟨t1, t2⟩ := xtrap B h1 5 (by decide) (by decide)
    rw [im] at t1 t2
    exact ⟨_, _, by rw [cs, Option.bind_some]; exact t1, ms, t2⟩
  · rw [if_neg full] at tb
    have nf : (hr 27 33).toInt ≠ 100 := fun e => full (xi_eq.mpr (by rw [e, e100]))
    have ms := xmgo X tb
    rw [xm54p (by rw [hw]; decide), hw] at ms
    have sp : (hr 27 33 + 1).toInt = (hr 27 33).toInt + 1 := xi_add (by omega) (by omega)
    have pl : ∀ i, f_m_plain 65 i (xput hr 27 31 0) = (f_m_give 65 i (xput hr 27 31 0)).bind fun q12 => f_m_plain_226 65 q12 := by
      intro i
      have k : ∀ s, f_m_plain_27 65 i (f_m_eats 65) s (xput hr 27 31 0) = (f_m_give 65 i (xput hr 27 31 0)).bind fun q12 => f_m_plain_226 65 q12 := fun s => rfl
      unfold f_m_plain
      by_cases z : (xput hr 27 31 0 27 33) ≤ 0
      · rw [if_pos z, k]
      · rw [if_neg z, k]
        rw [q33] at z ⊢
        rw [xi_le] at z
        rw [xgd_ok (by omega) (by omega)]
    rw [pl] at ms
    have gs : ∀ {α : Type} (x : Option α), xgd (hr 27 33) 101 x = x := fun x => xgd_ok (by omega) (by omega)
    have ks : ∀ {α : Type} (x : Option α), xgd (hr 27 33) 100 x = x := fun x => xgd_ok (by omega) (by omega)
    simp [f_m_give, f_m_give_40, f_m_give_66, f_m_give_84, f_m_plain_226, q33, q32, q35, gs, im, xput_at, j2] at ms
    simp [im, f_h_push, xput_at, N.depth, N.calls, R.words, R.pages, R.glob, full, ks, j2] at cs
    refine ⟨_, _, by rw [cs, Option.bind_some]; exact xheed0 _, ms, ?_⟩
    refine xgoesP B X (.inr (by rw [hw]; decide)) (R.going hs (by intro k a b; simp only [xput_off a, xput_off (show k ≠ 21 from by omega), xput_off (show k ≠ 25 from by omega)]) (by intro k a b; simp only [xput_off a, xput_off (show k ≠ 46 from by omega), xput_off (show k ≠ 50 from by omega)]) (by intro j a b c d; simp [xput_at, a, b, c, d])) ?_ ?_ ?_ ?_ ?_ ?_ ?_ ?_ ?_ ?_ ?_ ?_ ?_
    · intro k a1 a2 a3 a4 a5 a6; simp only [xput_off a1, xput_off a2, xput_off a3, xput_off a4, xput_off a5, xput_off a6]
    · intro k a1 a2 a3 a4 a5; simp only [xput_off a1, xput_off a2, xput_off a3, xput_off a4, xput_off a5]
    · simp [xput_at, hs]
    · simp [xput_at]
    · simp [xput_at]
    · simp [xput_at]
    · simp [xput_at, N.depth]
    · simp [xput_at]
    · simp [xput_at, hw, im]
    · intro j hj
      simp only [xput_at, Nat.reduceEqDiff, reduceIte] at hj ⊢
      by_cases e : j = (hr 27 33).toNatClampNeg
      · rw [if_pos e, if_pos e]
      · rw [if_neg e, if_neg e]
        exact N.stack j (by rw [xi_nat] at e; omega)
    · intro a b h1 h2
      simp only [xput_at, Nat.reduceEqDiff, reduceIte]
      exact N.locl a b h1 h2
    · simp only [xput_at, Nat.reduceEqDiff, reduceIte, hw]
      omega
    · simp only [xput_at, Nat.reduceEqDiff, reduceIte]
      omega
theorem xs_msize {A : Nat → Nat → Int → Prop} {hc hr : xI} {c f p : Nat} {v : Int} (B : xBef A hc hr) (X : xCtxt A hc hr c f p v) (hw : hr 28 p = 63) : xStepOK A hc hr := by
  have hs := B.2.2.1
  have R := B.1
  have N := B.2.2.2.1
  have hw' := hw
  have X' := X
  obtain ⟨x1, x2, x3, x4, x5, x6, x7, x8, x9, x10, x11, x12, x13, x14, x15, x16, C⟩ := X'
  have ea := (C.2.2.2.2.2.2.2.2.2.2 (.inr (by rw [hw]; decide))).1
  have ey : (f_m_eats 63).toInt = 0 ∧ (f_m_yields 63).toInt = 1 := by decide
  rw [hw] at ea
  have e0 : (0 : Int32).toInt = 0 := rfl
  have e1 : (1 : Int32).toInt = 1 := rfl
  have e2 : (2 : Int32).toInt = 2 := rfl
  have s1 : (hr 27 33 - 1).toInt = (hr 27 33).toInt - 1 := xi_sub (by omega) (by omega)
  have s2 : (hr 27 33 - 2).toInt = (hr 27 33).toInt - 2 := xi_sub (by omega) (by omega)
  have q33 : xput hr 27 31 0 27 33 = hr 27 33 := by simp [xput_at]
  have q32 : xput hr 27 31 0 27 32 = hr 27 32 := by simp [xput_at]
  have q35 : xput hr 27 31 0 27 35 = hr 27 35 := by simp [xput_at]
  have im : f_m_immediates 63 = 0 := by decide
  have st0 : f_m_isStore 63 = 0 := by decide
  have ee : f_m_eats 63 = 0 := by decide
  have e100 : (100 : Int32).toInt = 100 := rfl
  have tr := (xtrapP (b := 0) (a := 0) (hr := hr) (w := hr 28 p) (by rw [hw]; decide))
  obtain ⟨b, a, tb, -⟩ := xtrapOf x13 x14 (hr 28 p)
  rw [xtrapP (by rw [hw]; decide)] at tb
  have cs := xcstep B X (by rw [hw]; decide) (by rw [hw]; decide)
  rw [hw] at cs
  by_cases full : hr 27 33 = 100
  · rw [if_pos full] at tb
    have ms := xmtrap x6 x7 tb (by decide)
    simp [f_h_useMemory, im, f_h_push, xput_at, N.depth, N.calls, R.words, R.pages, R.glob, full] at cs
    have h1 : ∀ k, k ≠ 19 → ¬ (21 ≤ k ∧ k ≤ 25) → (xput hc 19 5 (hr 27 32 + (1 + f_m_immediates 63))) k = hc k := fun k a b => xput_off a
    obtain ⟨t1, t2⟩ := xtrap B h1 5 (by decide) (by decide)
    rw [im] at t1 t2
    exact ⟨_, _, by rw [cs, Option.bind_some]; exact t1, ms, t2⟩
  · rw [if_neg full] at tb
    have nf : (hr 27 33).toInt ≠ 100 := fun e => full (xi_eq.mpr (by rw [e, e100]))
    have ms := xmgo X tb
    rw [xm54p (by rw [hw]; decide), hw] at ms
    have sp : (hr 27 33 + 1).toInt = (hr 27 33).toInt + 1 := xi_add (by omega) (by omega)
    have pl : ∀ i, f_m_plain 63 i (xput hr 27 31 0) = (f_m_give 63 i (xput hr 27 31 0)).bind fun q12 => f_m_plain_226 63 q12 := by
      intro i
      have k : ∀ s, f_m_plain_27 63 i (f_m_eats 63) s (xput hr 27 31 0) = (f_m_give 63 i (xput hr 27 31 0)).bind fun q12 => f_m_plain_226 63 q12 := fun s => rfl
      unfold f_m_plain
      by_cases z : (xput hr 27 31 0 27 33) ≤ 0
      · rw [if_pos z, k]
      · rw [if_neg z, k]
        rw [q33] at z ⊢
        rw [xi_le] at z
        rw [xgd_ok (by omega) (by omega)]
    rw [pl] at ms
    have gs : ∀ {α : Type} (x : Option α), xgd (hr 27 33) 101 x = x := fun x => xgd_ok (by omega) (by omega)
    have ks : ∀ {α : Type} (x : Option α), xgd (hr 27 33) 100 x = x := fun x => xgd_ok (by omega) (by omega)
    simp [f_m_give, f_m_give_40, f_m_give_66, f_m_give_84, f_m_plain_226, q33, q32, q35, gs, im, xput_at, im] at ms
    simp [f_h_useMemory, im, f_h_push, xput_at, N.depth, N.calls, R.words, R.pages, R.glob, full, ks, im] at cs
    refine ⟨_, _, by rw [cs, Option.bind_some]; exact xheed0 _, ms, ?_⟩
    refine xgoesP B X (.inr (by rw [hw]; decide)) (R.going hs (by intro k a b; simp only [xput_off a, xput_off (show k ≠ 21 from by omega), xput_off (show k ≠ 25 from by omega)]) (by intro k a b; simp only [xput_off a, xput_off (show k ≠ 46 from by omega), xput_off (show k ≠ 50 from by omega)]) (by intro j a b c d; simp [xput_at, a, b, c, d])) ?_ ?_ ?_ ?_ ?_ ?_ ?_ ?_ ?_ ?_ ?_ ?_ ?_
    · intro k a1 a2 a3 a4 a5 a6; simp only [xput_off a1, xput_off a2, xput_off a3, xput_off a4, xput_off a5, xput_off a6]
    · intro k a1 a2 a3 a4 a5; simp only [xput_off a1, xput_off a2, xput_off a3, xput_off a4, xput_off a5]
    · simp [xput_at, hs]
    · simp [xput_at]
    · simp [xput_at]
    · simp [xput_at]
    · simp [xput_at, N.depth]
    · simp [xput_at]
    · simp [xput_at, hw, im]
    · intro j hj
      simp only [xput_at, Nat.reduceEqDiff, reduceIte] at hj ⊢
      by_cases e : j = (hr 27 33).toNatClampNeg
      · rw [if_pos e, if_pos e]
      · rw [if_neg e, if_neg e]
        exact N.stack j (by rw [xi_nat] at e; omega)
    · intro a b h1 h2
      simp only [xput_at, Nat.reduceEqDiff, reduceIte]
      exact N.locl a b h1 h2
    · simp only [xput_at, Nat.reduceEqDiff, reduceIte, hw]
      omega
    · simp only [xput_at, Nat.reduceEqDiff, reduceIte]
      omega
theorem xs_gget {A : Nat → Nat → Int → Prop} {hc hr : xI} {c f p : Nat} {v : Int} (B : xBef A hc hr) (X : xCtxt A hc hr c f p v) (hw : hr 28 p = 35) : xStepOK A hc hr := by
  have hs := B.2.2.1
  have R := B.1
  have N := B.2.2.2.1
  have hw' := hw
  have X' := X
  obtain ⟨x1, x2, x3, x4, x5, x6, x7, x8, x9, x10, x11, x12, x13, x14, x15, x16, C⟩ := X'
  have ea := (C.2.2.2.2.2.2.2.2.2.2 (.inr (by rw [hw]; decide))).1
  have ey : (f_m_eats 35).toInt = 0 ∧ (f_m_yields 35).toInt = 1 := by decide
  rw [hw] at ea
  have e0 : (0 : Int32).toInt = 0 := rfl
  have e1 : (1 : Int32).toInt = 1 := rfl
  have e2 : (2 : Int32).toInt = 2 := rfl
  have s1 : (hr 27 33 - 1).toInt = (hr 27 33).toInt - 1 := xi_sub (by omega) (by omega)
  have s2 : (hr 27 33 - 2).toInt = (hr 27 33).toInt - 2 := xi_sub (by omega) (by omega)
  have q33 : xput hr 27 31 0 27 33 = hr 27 33 := by simp [xput_at]
  have q32 : xput hr 27 31 0 27 32 = hr 27 32 := by simp [xput_at]
  have q35 : xput hr 27 31 0 27 35 = hr 27 35 := by simp [xput_at]
  have im : f_m_immediates 35 = 1 := by decide
  have ip := xwd_imm C.1 (by rw [hw, im]; decide)
  obtain ⟨j1, j2⟩ := xi_cl1 x6 (by omega)
  have gi : ∀ {α : Type} (x : Option α), xgd (hr 27 32 + 1) 240 x = x := fun x => xgd_ok (by omega) (by omega)
  have st0 : f_m_isStore 35 = 0 := by decide
  have ee : f_m_eats 35 = 0 := by decide
  have wl := C.1.2.2.2.2.2.2.1 (by rw [hw]; decide)
  have g4 : ∀ {α : Type} (x : Option α), xgd (hr 28 (p + 1)) 4 x = x := fun x => xgd_ok (by omega) (by omega)
  have e100 : (100 : Int32).toInt = 100 := rfl
  have tr := (xtrapP (b := 0) (a := 0) (hr := hr) (w := hr 28 p) (by rw [hw]; decide))
  obtain ⟨b, a, tb, -⟩ := xtrapOf x13 x14 (hr 28 p)
  rw [xtrapP (by rw [hw]; decide)] at tb
  have cs := xcstep B X (by rw [hw]; decide) (by rw [hw]; decide)
  rw [hw] at cs
  by_cases full : hr 27 33 = 100
  · rw [if_pos full] at tb
    have ms := xmtrap x6 x7 tb (by decide)
    simp [f_h_move, im, gi, j2, g4, f_h_push, xput_at, N.depth, N.calls, R.words, R.pages, R.glob, full] at cs
    have h1 : ∀ k, k ≠ 19 → ¬ (21 ≤ k ∧ k ≤ 25) → (xput hc 19 5 (hr 27 32 + (1 + f_m_immediates 35))) k = hc k := fun k a b => xput_off a
    obtain ⟨t1, t2⟩ := xtrap B h1 5 (by decide) (by decide)
    rw [im] at t1 t2
    exact ⟨_, _, by rw [cs, Option.bind_some]; exact t1, ms, t2⟩
  · rw [if_neg full] at tb
    have nf : (hr 27 33).toInt ≠ 100 := fun e => full (xi_eq.mpr (by rw [e, e100]))
    have ms := xmgo X tb
    rw [xm54p (by rw [hw]; decide), hw] at ms
    have sp : (hr 27 33 + 1).toInt = (hr 27 33).toInt + 1 := xi_add (by omega) (by omega)
    have pl : ∀ i, f_m_plain 35 i (xput hr 27 31 0) = (f_m_give 35 i (xput hr 27 31 0)).bind fun q12 => f_m_plain_226 35 q12 := by
      intro i
      have k : ∀ s, f_m_plain_27 35 i (f_m_eats 35) s (xput hr 27 31 0) = (f_m_give 35 i (xput hr 27 31 0)).bind fun q12 => f_m_plain_226 35 q12 := fun s => rfl
      unfold f_m_plain
      by_cases z : (xput hr 27 31 0 27 33) ≤ 0
      · rw [if_pos z, k]
      · rw [if_neg z, k]
        rw [q33] at z ⊢
        rw [xi_le] at z
        rw [xgd_ok (by omega) (by omega)]
    rw [pl] at ms
    have gs : ∀ {α : Type} (x : Option α), xgd (hr 27 33) 101 x = x := fun x => xgd_ok (by omega) (by omega)
    have ks : ∀ {α : Type} (x : Option α), xgd (hr 27 33) 100 x = x := fun x => xgd_ok (by omega) (by omega)
    simp [f_m_give, f_m_give_40, f_m_give_66, f_m_give_84, f_m_plain_226, q33, q32, q35, gs, im, xput_at, g4] at ms
    simp [f_h_move, im, gi, j2, g4, f_h_push, xput_at, N.depth, N.calls, R.words, R.pages, R.glob, full, ks, g4] at cs
    refine ⟨_, _, by rw [cs, Option.bind_some]; exact xheed0 _, ms, ?_⟩
    refine xgoesP B X (.inr (by rw [hw]; decide)) (R.going hs (by intro k a b; simp only [xput_off a, xput_off (show k ≠ 21 from by omega), xput_off (show k ≠ 25 from by omega)]) (by intro k a b; simp only [xput_off a, xput_off (show k ≠ 46 from by omega), xput_off (show k ≠ 50 from by omega)]) (by intro j a b c d; simp [xput_at, a, b, c, d])) ?_ ?_ ?_ ?_ ?_ ?_ ?_ ?_ ?_ ?_ ?_ ?_ ?_
    · intro k a1 a2 a3 a4 a5 a6; simp only [xput_off a1, xput_off a2, xput_off a3, xput_off a4, xput_off a5, xput_off a6]
    · intro k a1 a2 a3 a4 a5; simp only [xput_off a1, xput_off a2, xput_off a3, xput_off a4, xput_off a5]
    · simp [xput_at, hs]
    · simp [xput_at]
    · simp [xput_at]
    · simp [xput_at]
    · simp [xput_at, N.depth]
    · simp [xput_at]
    · simp [xput_at, hw, im]
    · intro j hj
      simp only [xput_at, Nat.reduceEqDiff, reduceIte] at hj ⊢
      by_cases e : j = (hr 27 33).toNatClampNeg
      · rw [if_pos e, if_pos e]
      · rw [if_neg e, if_neg e]
        exact N.stack j (by rw [xi_nat] at e; omega)
    · intro a b h1 h2
      simp only [xput_at, Nat.reduceEqDiff, reduceIte]
      exact N.locl a b h1 h2
    · simp only [xput_at, Nat.reduceEqDiff, reduceIte, hw]
      omega
    · simp only [xput_at, Nat.reduceEqDiff, reduceIte]
      omega
theorem xs_lget {A : Nat → Nat → Int → Prop} {hc hr : xI} {c f p : Nat} {v : Int} (B : xBef A hc hr) (X : xCtxt A hc hr c f p v) (hw : hr 28 p = 32) : xStepOK A hc hr := by
  have hs := B.2.2.1
  have R := B.1
  have N := B.2.2.2.1
  have hw' := hw
  have X' := X
  obtain ⟨x1, x2, x3, x4, x5, x6, x7, x8, x9, x10, x11, x12, x13, x14, x15, x16, C⟩ := X'
  have ea := (C.2.2.2.2.2.2.2.2.2.2 (.inr (by rw [hw]; decide))).1
  have ey : (f_m_eats 32).toInt = 0 ∧ (f_m_yields 32).toInt = 1 := by decide
  rw [hw] at ea
  have e0 : (0 : Int32).toInt = 0 := rfl
  have e1 : (1 : Int32).toInt = 1 := rfl
  have e2 : (2 : Int32).toInt = 2 := rfl
  have s1 : (hr 27 33 - 1).toInt = (hr 27 33).toInt - 1 := xi_sub (by omega) (by omega)
  have s2 : (hr 27 33 - 2).toInt = (hr 27 33).toInt - 2 := xi_sub (by omega) (by omega)
  have q33 : xput hr 27 31 0 27 33 = hr 27 33 := by simp [xput_at]
  have q32 : xput hr 27 31 0 27 32 = hr 27 32 := by simp [xput_at]
  have q35 : xput hr 27 31 0 27 35 = hr 27 35 := by simp [xput_at]
  have im : f_m_immediates 32 = 1 := by decide
  have ip := xwd_imm C.1 (by rw [hw, im]; decide)
  obtain ⟨j1, j2⟩ := xi_cl1 x6 (by omega)
  have gi : ∀ {α : Type} (x : Option α), xgd (hr 27 32 + 1) 240 x = x := fun x => xgd_ok (by omega) (by omega)
  have st0 : f_m_isStore 32 = 0 := by decide
  have ee : f_m_eats 32 = 0 := by decide
  have wl := C.1.2.2.2.2.2.1 (by rw [hw]; decide)
  have pb := R.parsB f
  have lb := R.locsB f
  obtain ⟨l1, l2, l3⟩ := xlp (hr 27 35) (hr 28 (p + 1)) (k := (hr 28 (p + 1)).toInt.toNat) x1 x2 (by omega) (by omega)
  have g4 : ∀ {α : Type} (x : Option α), xgd (8 * (hr 27 35 - 1) + hr 28 (p + 1)) 48 x = x := fun x => xgd_ok (by omega) (by omega)
  have lv := N.locl c (hr 28 (p + 1)).toInt.toNat (by omega) (by omega)
  rw [← l3] at lv
  have e100 : (100 : Int32).toInt = 100 := rfl
  have tr := (xtrapP (b := 0) (a := 0) (hr := hr) (w := hr 28 p) (by rw [hw]; decide))
  obtain ⟨b, a, tb, -⟩ := xtrapOf x13 x14 (hr 28 p)
  rw [xtrapP (by rw [hw]; decide)] at tb
  have cs := xcstep B X (by rw [hw]; decide) (by rw [hw]; decide)
  rw [hw] at cs
  by_cases full : hr 27 33 = 100
  · rw [if_pos full] at tb
    have ms := xmtrap x6 x7 tb (by decide)
    simp [f_h_move, f_h_localPlace, im, gi, j2, l1, g4, lv, f_h_push, xput_at, N.depth, N.calls, R.words, R.pages, R.glob, full] at cs
    have h1 : ∀ k, k ≠ 19 → ¬ (21 ≤ k ∧ k ≤ 25) → (xput hc 19 5 (hr 27 32 + (1 + f_m_immediates 32))) k = hc k := fun k a b => xput_off a
    obtain ⟨t1, t2⟩ := xtrap B h1 5 (by decide) (by decide)
    rw [im] at t1 t2
    exact ⟨_, _, by rw [cs, Option.bind_some]; exact t1, ms, t2⟩
  · rw [if_neg full] at tb
    have nf : (hr 27 33).toInt ≠ 100 := fun e => full (xi_eq.mpr (by rw [e, e100]))
    have ms := xmgo X tb
    rw [xm54p (by rw [hw]; decide), hw] at ms
    have sp : (hr 27 33 + 1).toInt = (hr 27 33).toInt + 1 := xi_add (by omega) (by omega)
    have pl : ∀ i, f_m_plain 32 i (xput hr 27 31 0) = (f_m_give 32 i (xput hr 27 31 0)).bind fun q12 => f_m_plain_226 32 q12 := by
      intro i
      have k : ∀ s, f_m_plain_27 32 i (f_m_eats 32) s (xput hr 27 31 0) = (f_m_give 32 i (xput hr 27 31 0)).bind fun q12 => f_m_plain_226 32 q12 := fun s => rfl
      unfold f_m_plain
      by_cases z : (xput hr 27 31 0 27 33) ≤ 0
      · rw [if_pos z, k]
      · rw [if_neg z, k]
        rw [q33] at z ⊢
        rw [xi_le] at z
        rw [xgd_ok (by omega) (by omega)]
    rw [pl] at ms
    have gs : ∀ {α : Type} (x : Option α), xgd (hr 27 33) 101 x = x := fun x => xgd_ok (by omega) (by omega)
    have ks : ∀ {α : Type} (x : Option α), xgd (hr 27 33) 100 x = x := fun x => xgd_ok (by omega) (by omega)
    simp [f_m_give, f_m_give_40, f_m_give_66, f_m_give_84, f_m_plain_226, q33, q32, q35, gs, im, xput_at, g4, lv] at ms
    simp [f_h_move, f_h_localPlace, im, gi, j2, l1, g4, lv, f_h_push, xput_at, N.depth, N.calls, R.words, R.pages, R.glob, full, ks, g4, lv] at cs
    refine ⟨_, _, by rw [cs, Option.bind_some]; exact xheed0 _, ms, ?_⟩
    refine xgoesP B X (.inr (by rw [hw]; decide)) (R.going hs (by intro k a b; simp only [xput_off a, xput_off (show k ≠ 21 from by omega), xput_off (show k ≠ 25 from by omega)]) (by intro k a b; simp only [xput_off a, xput_off (show k ≠ 46 from by omega), xput_off (show k ≠ 50 from by omega)]) (by intro j a b c d; simp [xput_at, a, b, c, d])) ?_ ?_ ?_ ?_ ?_ ?_ ?_ ?_ ?_ ?_ ?_ ?_ ?_
    · intro k a1 a2 a3 a4 a5 a6; simp only [xput_off a1, xput_off a2, xput_off a3, xput_off a4, xput_off a5, xput_off a6]
    · intro k a1 a2 a3 a4 a5; simp only [xput_off a1, xput_off a2, xput_off a3, xput_off a4, xput_off a5]
    · simp [xput_at, hs]
    · simp [xput_at]
    · simp [xput_at]
    · simp [xput_at]
    · simp [xput_at, N.depth]
    · simp [xput_at]
    · simp [xput_at, hw, im]
    · intro j hj
      simp only [xput_at, Nat.reduceEqDiff, reduceIte] at hj ⊢
      by_cases e : j = (hr 27 33).toNatClampNeg
      · rw [if_pos e, if_pos e]
      · rw [if_neg e, if_neg e]
        exact N.stack j (by rw [xi_nat] at e; omega)
    · intro a b h1 h2
      simp only [xput_at, Nat.reduceEqDiff, reduceIte]
      exact N.locl a b h1 h2
    · simp only [xput_at, Nat.reduceEqDiff, reduceIte, hw]
      omega
    · simp only [xput_at, Nat.reduceEqDiff, reduceIte]
      omega
