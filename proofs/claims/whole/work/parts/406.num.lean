/-! The plain words of numbers. -/
theorem xs_un69 {A : Nat → Nat → Int → Prop} {hc hr : xI} {c f p : Nat} {v : Int} (B : xBef A hc hr) (X : xCtxt A hc hr c f p v) (hw : hr 28 p = 69) : xStepOK A hc hr := by
  have hs := B.2.2.1
  have R := B.1
  have N := B.2.2.2.1
  have cs := xcstep B X (by rw [hw]; decide) (by rw [hw]; decide)
  have ms := xmgo X (xt0 X _ (by rw [hw]; decide) (by rw [hw]; decide) (by rw [hw]; decide) (by rw [hw]; decide) (by rw [hw]; decide) (by rw [hw]; decide) (by rw [hw]; decide) (by rw [hw]; decide) (by rw [hw]; decide))
  rw [xm54p (by rw [hw]; decide), hw] at ms
  have X' := X
  obtain ⟨x1, x2, x3, x4, x5, x6, x7, x8, x9, x10, x11, x12, x13, x14, x15, x16, C⟩ := X'
  have ea := (C.2.2.2.2.2.2.2.2.2.2 (.inr (by rw [hw]; decide))).1
  have ey : (f_m_eats 69).toInt = 1 ∧ (f_m_yields 69).toInt = 1 := by decide
  rw [hw] at ea
  have e0 : (0 : Int32).toInt = 0 := rfl
  have e1 : (1 : Int32).toInt = 1 := rfl
  have e2 : (2 : Int32).toInt = 2 := rfl
  have s1 : (hr 27 33 - 1).toInt = (hr 27 33).toInt - 1 := xi_sub (by omega) (by omega)
  have s2 : (hr 27 33 - 2).toInt = (hr 27 33).toInt - 2 := xi_sub (by omega) (by omega)
  have q33 : xput hr 27 31 0 27 33 = hr 27 33 := by simp [xput_at]
  have q32 : xput hr 27 31 0 27 32 = hr 27 32 := by simp [xput_at]
  have q35 : xput hr 27 31 0 27 35 = hr 27 35 := by simp [xput_at]
  have im : f_m_immediates 69 = 0 := by decide
  have st0 : f_m_isStore 69 = 0 := by decide
  have ee : f_m_eats 69 = 1 := by decide
  have ld : f_m_isLoad 69 = 0 := by decide
  have un : f_o_isUnary 69 = 1 := by decide
  rw [xplainT (by rw [q33]; omega) (by rw [q33]; omega)] at ms
  have g1 : ∀ {α : Type} (x : Option α), xgd (hr 27 33 - 1) 101 x = x := fun x => xgd_ok (by omega) (by omega)
  have k1 : ∀ {α : Type} (x : Option α), xgd (hr 27 33 - 1) 100 x = x := fun x => xgd_ok (by omega) (by omega)
  have t1 := N.stack (hr 27 33 - 1).toNatClampNeg (by rw [xi_nat]; omega)
  rw [hw, if_pos (by decide), if_pos (by decide), if_pos (by decide)] at cs
  by_cases z : hr 46 (hr 27 33 - 1).toNatClampNeg = 0
  · simp [f_m_plain_27, f_m_one, f_m_one_41, f_m_one_51, f_m_one_63, f_m_one_166, f_m_plain_226, f_m_plain_99, f_m_give, f_m_give_40, f_m_give_66, f_m_give_84, q33, q32, g1, st0, ee, im, ld, z, xput_at] at ms
    simp [f_h_calculate, f_n_ofOne, un, xput_at, N.depth, im, k1, t1, z] at cs
    refine ⟨_, _, by rw [cs, Option.bind_some]; exact xheed0 _, ms, ?_⟩
    refine xgoesP B X (.inr (by rw [hw]; decide)) (R.going hs (by intro k a b; simp only [xput_off a, xput_off (show k ≠ 21 from by omega), xput_off (show k ≠ 25 from by omega)]) (by intro k a b; simp only [xput_off a, xput_off (show k ≠ 46 from by omega), xput_off (show k ≠ 50 from by omega)]) (by intro j a b c d; simp [xput_at, a, b, c, d])) ?_ ?_ ?_ ?_ ?_ ?_ ?_ ?_ ?_ ?_ ?_ ?_ ?_
    · intro k a1 a2 a3 a4 a5 a6; simp only [xput_off a1, xput_off a2, xput_off a3, xput_off a4, xput_off a5, xput_off a6]
    · intro k a1 a2 a3 a4 a5; simp only [xput_off a1, xput_off a2, xput_off a3, xput_off a4, xput_off a5]
    · simp [xput_at, hs]
    · simp [xput_at]
    · simp [xput_at]
    · simp [xput_at]
    · simp [xput_at, N.depth]
    · simp [xput_at]
    · simp [xput_at, hw, im]
    · intro j hj
      simp only [xput_at, Nat.reduceEqDiff, reduceIte] at hj ⊢
      by_cases e : j = (hr 27 33 - 1).toNatClampNeg
      · rw [if_pos e, if_pos e]
      · rw [if_neg e, if_neg e]
        exact N.stack j (by omega)
    · intro a b h1 h2
      simp only [xput_at, Nat.reduceEqDiff, reduceIte]
      exact N.locl a b h1 h2
    · simp only [xput_at, Nat.reduceEqDiff, reduceIte, hw]
      omega
    · simp only [xput_at, Nat.reduceEqDiff, reduceIte]
      omega
  · simp [f_m_plain_27, f_m_one, f_m_one_41, f_m_one_51, f_m_one_63, f_m_one_166, f_m_plain_226, f_m_plain_99, f_m_give, f_m_give_40, f_m_give_66, f_m_give_84, q33, q32, g1, st0, ee, im, ld, z, xput_at] at ms
    simp [f_h_calculate, f_n_ofOne, un, xput_at, N.depth, im, k1, t1, z] at cs
    refine ⟨_, _, by rw [cs, Option.bind_some]; exact xheed0 _, ms, ?_⟩
    refine xgoesP B X (.inr (by rw [hw]; decide)) (R.going hs (by intro k a b; simp only [xput_off a, xput_off (show k ≠ 21 from by omega), xput_off (show k ≠ 25 from by omega)]) (by intro k a b; simp only [xput_off a, xput_off (show k ≠ 46 from by omega), xput_off (show k ≠ 50 from by omega)]) (by intro j a b c d; simp [xput_at, a, b, c, d])) ?_ ?_ ?_ ?_ ?_ ?_ ?_ ?_ ?_ ?_ ?_ ?_ ?_
    · intro k a1 a2 a3 a4 a5 a6; simp only [xput_off a1, xput_off a2, xput_off a3, xput_off a4, xput_off a5, xput_off a6]
    · intro k a1 a2 a3 a4 a5; simp only [xput_off a1, xput_off a2, xput_off a3, xput_off a4, xput_off a5]
    · simp [xput_at, hs]
    · simp [xput_at]
    · simp [xput_at]
    · simp [xput_at]
    · simp [xput_at, N.depth]
    · simp [xput_at]
    · simp [xput_at, hw, im]
    · intro j hj
      simp only [xput_at, Nat.reduceEqDiff, reduceIte] at hj ⊢
      by_cases e : j = (hr 27 33 - 1).toNatClampNeg
      · rw [if_pos e, if_pos e]
      · rw [if_neg e, if_neg e]
        exact N.stack j (by omega)
    · intro a b h1 h2
      simp only [xput_at, Nat.reduceEqDiff, reduceIte]
      exact N.locl a b h1 h2
    · simp only [xput_at, Nat.reduceEqDiff, reduceIte, hw]
      omega
    · simp only [xput_at, Nat.reduceEqDiff, reduceIte]
      omega
theorem xs_un103 {A : Nat → Nat → Int → Prop} {hc hr : xI} {c f p : Nat} {v : Int} (B : xBef A hc hr) (X : xCtxt A hc hr c f p v) (hw : hr 28 p = 103) : xStepOK A hc hr := by
  have hs := B.2.2.1
  have R := B.1
  have N := B.2.2.2.1
  have cs := xcstep B X (by rw [hw]; decide) (by rw [hw]; decide)
  have ms := xmgo X (xt0 X _ (by rw [hw]; decide) (by rw [hw]; decide) (by rw [hw]; decide) (by rw [hw]; decide) (by rw [hw]; decide) (by rw [hw]; decide) (by rw [hw]; decide) (by rw [hw]; decide) (by rw [hw]; decide))
  rw [xm54p (by rw [hw]; decide), hw] at ms
  have X' := X
  obtain ⟨x1, x2, x3, x4, x5, x6, x7, x8, x9, x10, x11, x12, x13, x14, x15, x16, C⟩ := X'
  have ea := (C.2.2.2.2.2.2.2.2.2.2 (.inr (by rw [hw]; decide))).1
  have ey : (f_m_eats 103).toInt = 1 ∧ (f_m_yields 103).toInt = 1 := by decide
  rw [hw] at ea
  have e0 : (0 : Int32).toInt = 0 := rfl
  have e1 : (1 : Int32).toInt = 1 := rfl
  have e2 : (2 : Int32).toInt = 2 := rfl
  have s1 : (hr 27 33 - 1).toInt = (hr 27 33).toInt - 1 := xi_sub (by omega) (by omega)
  have s2 : (hr 27 33 - 2).toInt = (hr 27 33).toInt - 2 := xi_sub (by omega) (by omega)
  have q33 : xput hr 27 31 0 27 33 = hr 27 33 := by simp [xput_at]
  have q32 : xput hr 27 31 0 27 32 = hr 27 32 := by simp [xput_at]
  have q35 : xput hr 27 31 0 27 35 = hr 27 35 := by simp [xput_at]
  have im : f_m_immediates 103 = 0 := by decide
  have st0 : f_m_isStore 103 = 0 := by decide
  have ee : f_m_eats 103 = 1 := by decide
  have ld : f_m_isLoad 103 = 0 := by decide
  have un : f_o_isUnary 103 = 1 := by decide
  rw [xplainT (by rw [q33]; omega) (by rw [q33]; omega)] at ms
  have g1 : ∀ {α : Type} (x : Option α), xgd (hr 27 33 - 1) 101 x = x := fun x => xgd_ok (by omega) (by omega)
  have k1 : ∀ {α : Type} (x : Option α), xgd (hr 27 33 - 1) 100 x = x := fun x => xgd_ok (by omega) (by omega)
  have t1 := N.stack (hr 27 33 - 1).toNatClampNeg (by rw [xi_nat]; omega)
  have ct := xone1 (op := 103) (a := hr 46 (hr 27 33 - 1).toNatClampNeg) (by decide)
  simp [f_m_plain_27, f_m_one, f_m_one_41, f_m_one_51, f_m_one_63, f_m_one_166, f_m_plain_226, f_m_plain_99, f_m_give, f_m_give_40, f_m_give_66, f_m_give_84, q33, q32, g1, st0, ee, im, ld, ct, xput_at] at ms
  rw [hw, if_pos (by decide), if_pos (by decide), if_pos (by decide)] at cs
  simp [f_h_calculate, un, xput_at, N.depth, im, k1, t1] at cs
  refine ⟨_, _, by rw [cs, Option.bind_some]; exact xheed0 _, ms, ?_⟩
  refine xgoesP B X (.inr (by rw [hw]; decide)) (R.going hs (by intro k a b; simp only [xput_off a, xput_off (show k ≠ 21 from by omega), xput_off (show k ≠ 25 from by omega)]) (by intro k a b; simp only [xput_off a, xput_off (show k ≠ 46 from by omega), xput_off (show k ≠ 50 from by omega)]) (by intro j a b c d; simp [xput_at, a, b, c, d])) ?_ ?_ ?_ ?_ ?_ ?_ ?_ ?_ ?_ ?_ ?_ ?_ ?_
  · intro k a1 a2 a3 a4 a5 a6; simp only [xput_off a1, xput_off a2, xput_off a3, xput_off a4, xput_off a5, xput_off a6]
  · intro k a1 a2 a3 a4 a5; simp only [xput_off a1, xput_off a2, xput_off a3, xput_off a4, xput_off a5]
  · simp [xput_at, hs]
  · simp [xput_at]
  · simp [xput_at]
  · simp [xput_at]
  · simp [xput_at, N.depth]
  · simp [xput_at]
  · simp [xput_at, hw, im]
  · intro j hj
    simp only [xput_at, Nat.reduceEqDiff, reduceIte] at hj ⊢
    by_cases e : j = (hr 27 33 - 1).toNatClampNeg
    · rw [if_pos e, if_pos e]
    · rw [if_neg e, if_neg e]
      exact N.stack j (by omega)
  · intro a b h1 h2
    simp only [xput_at, Nat.reduceEqDiff, reduceIte]
    exact N.locl a b h1 h2
  · simp only [xput_at, Nat.reduceEqDiff, reduceIte, hw]
    omega
  · simp only [xput_at, Nat.reduceEqDiff, reduceIte]
    omega
theorem xs_un104 {A : Nat → Nat → Int → Prop} {hc hr : xI} {c f p : Nat} {v : Int} (B : xBef A hc hr) (X : xCtxt A hc hr c f p v) (hw : hr 28 p = 104) : xStepOK A hc hr := by
  have hs := B.2.2.1
  have R := B.1
  have N := B.2.2.2.1
  have cs := xcstep B X (by rw [hw]; decide) (by rw [hw]; decide)
  have ms := xmgo X (xt0 X _ (by rw [hw]; decide) (by rw [hw]; decide) (by rw [hw]; decide) (by rw [hw]; decide) (by rw [hw]; decide) (by rw [hw]; decide) (by rw [hw]; decide) (by rw [hw]; decide) (by rw [hw]; decide))
  rw [xm54p (by rw [hw]; decide), hw] at ms
  have X' := X
  obtain ⟨x1, x2, x3, x4, x5, x6, x7, x8, x9, x10, x11, x12, x13, x14, x15, x16, C⟩ := X'
  have ea := (C.2.2.2.2.2.2.2.2.2.2 (.inr (by rw [hw]; decide))).1
  have ey : (f_m_eats 104).toInt = 1 ∧ (f_m_yields 104).toInt = 1 := by decide
  rw [hw] at ea
  have e0 : (0 : Int32).toInt = 0 := rfl
  have e1 : (1 : Int32).toInt = 1 := rfl
  have e2 : (2 : Int32).toInt = 2 := rfl
  have s1 : (hr 27 33 - 1).toInt = (hr 27 33).toInt - 1 := xi_sub (by omega) (by omega)
  have s2 : (hr 27 33 - 2).toInt = (hr 27 33).toInt - 2 := xi_sub (by omega) (by omega)
  have q33 : xput hr 27 31 0 27 33 = hr 27 33 := by simp [xput_at]
  have q32 : xput hr 27 31 0 27 32 = hr 27 32 := by simp [xput_at]
  have q35 : xput hr 27 31 0 27 35 = hr 27 35 := by simp [xput_at]
  have im : f_m_immediates 104 = 0 := by decide
  have st0 : f_m_isStore 104 = 0 := by decide
  have ee : f_m_eats 104 = 1 := by decide
  have ld : f_m_isLoad 104 = 0 := by decide
  have un : f_o_isUnary 104 = 1 := by decide
  rw [xplainT (by rw [q33]; omega) (by rw [q33]; omega)] at ms
  have g1 : ∀ {α : Type} (x : Option α), xgd (hr 27 33 - 1) 101 x = x := fun x => xgd_ok (by omega) (by omega)
  have k1 : ∀ {α : Type} (x : Option α), xgd (hr 27 33 - 1) 100 x = x := fun x => xgd_ok (by omega) (by omega)
  have t1 := N.stack (hr 27 33 - 1).toNatClampNeg (by rw [xi_nat]; omega)
  have ct := xone1 (op := 104) (a := hr 46 (hr 27 33 - 1).toNatClampNeg) (by decide)
  simp [f_m_plain_27, f_m_one, f_m_one_41, f_m_one_51, f_m_one_63, f_m_one_166, f_m_plain_226, f_m_plain_99, f_m_give, f_m_give_40, f_m_give_66, f_m_give_84, q33, q32, g1, st0, ee, im, ld, ct, xput_at] at ms
  rw [hw, if_pos (by decide), if_pos (by decide), if_pos (by decide)] at cs
  simp [f_h_calculate, un, xput_at, N.depth, im, k1, t1] at cs
  refine ⟨_, _, by rw [cs, Option.bind_some]; exact xheed0 _, ms, ?_⟩
  refine xgoesP B X (.inr (by rw [hw]; decide)) (R.going hs (by intro k a b; simp only [xput_off a, xput_off (show k ≠ 21 from by omega), xput_off (show k ≠ 25 from by omega)]) (by intro k a b; simp only [xput_off a, xput_off (show k ≠ 46 from by omega), xput_off (show k ≠ 50 from by omega)]) (by intro j a b c d; simp [xput_at, a, b, c, d])) ?_ ?_ ?_ ?_ ?_ ?_ ?_ ?_ ?_ ?_ ?_ ?_ ?_
  · intro k a1 a2 a3 a4 a5 a6; simp only [xput_off a1, xput_off a2, xput_off a3, xput_off a4, xput_off a5, xput_off a6]
  · intro k a1 a2 a3 a4 a5; simp only [xput_off a1, xput_off a2, xput_off a3, xput_off a4, xput_off a5]
  · simp [xput_at, hs]
  · simp [xput_at]
  · simp [xput_at]
  · simp [xput_at]
  · simp [xput_at, N.depth]
  · simp [xput_at]
  · simp [xput_at, hw, im]
  · intro j hj
    simp only [xput_at, Nat.reduceEqDiff, reduceIte] at hj ⊢
    by_cases e : j = (hr 27 33 - 1).toNatClampNeg
    · rw [if_pos e, if_pos e]
    · rw [if_neg e, if_neg e]
      exact N.stack j (by omega)
  · intro a b h1 h2
    simp only [xput_at, Nat.reduceEqDiff, reduceIte]
    exact N.locl a b h1 h2
  · simp only [xput_at, Nat.reduceEqDiff, reduceIte, hw]
    omega
  · simp only [xput_at, Nat.reduceEqDiff, reduceIte]
    omega
theorem xs_un105 {A : Nat → Nat → Int → Prop} {hc hr : xI} {c f p : Nat} {v : Int} (B : xBef A hc hr) (X : xCtxt A hc hr c f p v) (hw : hr 28 p = 105) : xStepOK A hc hr := by
  have hs := B.2.2.1
  have R := B.1
  have N := B.2.2.2.1
  have cs := xcstep B X (by rw [hw]; decide) (by rw [hw]; decide)
  have ms := xmgo X (xt0 X _ (by rw [hw]; decide) (by rw [hw]; decide) (by rw [hw]; decide) (by rw [hw]; decide) (by rw [hw]; decide) (by rw [hw]; decide) (by rw [hw]; decide) (by rw [hw]; decide) (by rw [hw]; decide))
  rw [xm54p (by rw [hw]; decide), hw] at ms
  have X' := X
  obtain ⟨x1, x2, x3, x4, x5, x6, x7, x8, x9, x10, x11, x12, x13, x14, x15, x16, C⟩ := X'
  have ea := (C.2.2.2.2.2.2.2.2.2.2 (.inr (by rw [hw]; decide))).1
  have ey : (f_m_eats 105).toInt = 1 ∧ (f_m_yields 105).toInt = 1 := by decide
  rw [hw] at ea
  have e0 : (0 : Int32).toInt = 0 := rfl
  have e1 : (1 : Int32).toInt = 1 := rfl
  have e2 : (2 : Int32).toInt = 2 := rfl
  have s1 : (hr 27 33 - 1).toInt = (hr 27 33).toInt - 1 := xi_sub (by omega) (by omega)
  have s2 : (hr 27 33 - 2).toInt = (hr 27 33).toInt - 2 := xi_sub (by omega) (by omega)
  have q33 : xput hr 27 31 0 27 33 = hr 27 33 := by simp [xput_at]
  have q32 : xput hr 27 31 0 27 32 = hr 27 32 := by simp [xput_at]
  have q35 : xput hr 27 31 0 27 35 = hr 27 35 := by simp [xput_at]
  have im : f_m_immediates 105 = 0 := by decide
  have st0 : f_m_isStore 105 = 0 := by decide
  have ee : f_m_eats 105 = 1 := by decide
  have ld : f_m_isLoad 105 = 0 := by decide
  have un : f_o_isUnary 105 = 1 := by decide
  rw [xplainT (by rw [q33]; omega) (by rw [q33]; omega)] at ms
  have g1 : ∀ {α : Type} (x : Option α), xgd (hr 27 33 - 1) 101 x = x := fun x => xgd_ok (by omega) (by omega)
  have k1 : ∀ {α : Type} (x : Option α), xgd (hr 27 33 - 1) 100 x = x := fun x => xgd_ok (by omega) (by omega)
  have t1 := N.stack (hr 27 33 - 1).toNatClampNeg (by rw [xi_nat]; omega)
  have ct := xone1 (op := 105) (a := hr 46 (hr 27 33 - 1).toNatClampNeg) (by decide)
  simp [f_m_plain_27, f_m_one, f_m_one_41, f_m_one_51, f_m_one_63, f_m_one_166, f_m_plain_226, f_m_plain_99, f_m_give, f_m_give_40, f_m_give_66, f_m_give_84, q33, q32, g1, st0, ee, im, ld, ct, xput_at] at ms
  rw [hw, if_pos (by decide), if_pos (by decide), if_pos (by decide)] at cs
  simp [f_h_calculate, un, xput_at, N.depth, im, k1, t1] at cs
  refine ⟨_, _, by rw [cs, Option.bind_some]; exact xheed0 _, ms, ?_⟩
  refine xgoesP B X (.inr (by rw [hw]; decide)) (R.going hs (by intro k a b; simp only [xput_off a, xput_off (show k ≠ 21 from by omega), xput_off (show k ≠ 25 from by omega)]) (by intro k a b; simp only [xput_off a, xput_off (show k ≠ 46 from by omega), xput_off (show k ≠ 50 from by omega)]) (by intro j a b c d; simp [xput_at, a, b, c, d])) ?_ ?_ ?_ ?_ ?_ ?_ ?_ ?_ ?_ ?_ ?_ ?_ ?_
  · intro k a1 a2 a3 a4 a5 a6; simp only [xput_off a1, xput_off a2, xput_off a3, xput_off a4, xput_off a5, xput_off a6]
  · intro k a1 a2 a3 a4 a5; simp only [xput_off a1, xput_off a2, xput_off a3, xput_off a4, xput_off a5]
  · simp [xput_at, hs]
  · simp [xput_at]
  · simp [xput_at]
  · simp [xput_at]
  · simp [xput_at, N.depth]
  · simp [xput_at]
  · simp [xput_at, hw, im]
  · intro j hj
    simp only [xput_at, Nat.reduceEqDiff, reduceIte] at hj ⊢
    by_cases e : j = (hr 27 33 - 1).toNatClampNeg
    · rw [if_pos e, if_pos e]
    · rw [if_neg e, if_neg e]
      exact N.stack j (by omega)
  · intro a b h1 h2
    simp only [xput_at, Nat.reduceEqDiff, reduceIte]
    exact N.locl a b h1 h2
  · simp only [xput_at, Nat.reduceEqDiff, reduceIte, hw]
    omega
  · simp only [xput_at, Nat.reduceEqDiff, reduceIte]
    omega
theorem xwf2 {w : Int32} (hk : f_o_shapeOf w ≠ -1) (h : (70 ≤ w.toInt ∧ w.toInt ≤ 79) ∨ (106 ≤ w.toInt ∧ w.toInt ≤ 120)) : f_m_eats w = 2 ∧ f_m_yields w = 1 ∧ f_m_isStore w = 0 ∧ f_m_isLoad w = 0 ∧ f_m_immediates w = 0 ∧ f_o_isUnary w = 0 ∧ (f_o_isDivision w = 0 ∨ (109 ≤ w.toInt ∧ w.toInt ≤ 112)) ∧ w ≠ 14 ∧ w ≠ 65 ∧ w ≠ 0 ∧ w ≠ 32 ∧ w ≠ 35 ∧ w ≠ 63 ∧ w ≠ 16 := by
  revert h
  exact xop_known (P := fun w => (70 ≤ w.toInt ∧ w.toInt ≤ 79) ∨ (106 ≤ w.toInt ∧ w.toInt ≤ 120) → f_m_eats w = 2 ∧ f_m_yields w = 1 ∧ f_m_isStore w = 0 ∧ f_m_isLoad w = 0 ∧ f_m_immediates w = 0 ∧ f_o_isUnary w = 0 ∧ (f_o_isDivision w = 0 ∨ (109 ≤ w.toInt ∧ w.toInt ≤ 112)) ∧ w ≠ 14 ∧ w ≠ 65 ∧ w ≠ 0 ∧ w ≠ 32 ∧ w ≠ 35 ∧ w ≠ 63 ∧ w ≠ 16) (by decide +kernel) w hk
theorem xcmp01 (w a b : Int32) : f_n_compared w a b = 0 ∨ f_n_compared w a b = 1 := by
  unfold f_n_compared
  split
  · exact .inl rfl
  · exact .inr rfl
theorem xs_cmp {A : Nat → Nat → Int → Prop} {hc hr : xI} {c f p : Nat} {v : Int} (B : xBef A hc hr) (X : xCtxt A hc hr c f p v) (hw : (70 ≤ (hr 28 p).toInt ∧ (hr 28 p).toInt ≤ 79) ∨ (106 ≤ (hr 28 p).toInt ∧ (hr 28 p).toInt ≤ 120)) (hc79 : (hr 28 p).toInt ≤ 79) : xStepOK A hc hr := by
  have hs := B.2.2.1
  have R := B.1
  have N := B.2.2.2.1
  have X' := X
  obtain ⟨x1, x2, x3, x4, x5, x6, x7, x8, x9, x10, x11, x12, x13, x14, x15, x16, C⟩ := X'
  obtain ⟨ee, yy, st0, ld, im, un, dv, n14, n65, n0, n32, n35, n63, n16⟩ := xwf2 C.1.1 hw
  have ea := (C.2.2.2.2.2.2.2.2.2.2 (.inr (by omega))).1
  have e0 : (0 : Int32).toInt = 0 := rfl
  have e1 : (1 : Int32).toInt = 1 := rfl
  have e2 : (2 : Int32).toInt = 2 := rfl
  have e80 : (80 : Int32).toInt = 80 := rfl
  have e79 : (79 : Int32).toInt = 79 := rfl
  have e64 : (64 : Int32).toInt = 64 := rfl
  have e36 : (36 : Int32).toInt = 36 := rfl
  have e16 : (16 : Int32).toInt = 16 := rfl
  have e109 : (109 : Int32).toInt = 109 := rfl
  have e112 : (112 : Int32).toInt = 112 := rfl
  rw [ee, e2] at ea
  have s1 : (hr 27 33 - 1).toInt = (hr 27 33).toInt - 1 := xi_sub (by omega) (by omega)
  have s2 : (hr 27 33 - 2).toInt = (hr 27 33).toInt - 2 := xi_sub (by omega) (by omega)
  have s11 : hr 27 33 - 1 - 1 = hr 27 33 - 2 := by rw [Int32.sub_sub]; rfl
  have q33 : xput hr 27 31 0 27 33 = hr 27 33 := by simp [xput_at]
  have q32 : xput hr 27 31 0 27 32 = hr 27 32 := by simp [xput_at]
  have g1 : ∀ {α : Type} (x : Option α), xgd (hr 27 33 - 1) 101 x = x := fun x => xgd_ok (by omega) (by omega)
  have g2 : ∀ {α : Type} (x : Option α), xgd (hr 27 33 - 2) 101 x = x := fun x => xgd_ok (by omega) (by omega)
  have k1 : ∀ {α : Type} (x : Option α), xgd (hr 27 33 - 1) 100 x = x := fun x => xgd_ok (by omega) (by omega)
  have k2 : ∀ {α : Type} (x : Option α), xgd (hr 27 33 - 2) 100 x = x := fun x => xgd_ok (by omega) (by omega)
  have t1 := N.stack (hr 27 33 - 1).toNatClampNeg (by rw [xi_nat]; omega)
  have t2 := N.stack (hr 27 33 - 2).toNatClampNeg (by rw [xi_nat]; omega)
  have cs := xcstep B X n14 n65
  rw [if_pos (by rw [xi_lt]; omega), if_pos (by rw [xi_lt]; omega), if_pos (by rw [xi_lt]; omega)] at cs
  have dv0 : f_o_isDivision (hr 28 p) = 0 := dv.resolve_right (by omega)
  have ms := xmgo X (xt0 X _ n0 (by omega) ld st0 n32 n35 n63 n65 n16)
  rw [xm54p (by omega), xplainT (by rw [q33]; omega) (by rw [q33]; omega)] at ms
  have l80 : ¬ (80 : Int32) ≤ hr 28 p := by rw [xi_le]; omega
  have l79 : ¬ (79 : Int32) < hr 28 p := by rw [xi_lt]; omega
  have cm := xcmp (hr 28 p) (hr 46 (hr 27 33 - 2).toNatClampNeg) (hr 46 (hr 27 33 - 1).toNatClampNeg)
  have c01 := xcmp01 (hr 28 p) (hr 46 (hr 27 33 - 2).toNatClampNeg) (hr 46 (hr 27 33 - 1).toNatClampNeg)
  have ci : ∀ {α : Type} (x : Int32 → α), (if f_n_compared (hr 28 p) (hr 46 (hr 27 33 - 2).toNatClampNeg) (hr 46 (hr 27 33 - 1).toNatClampNeg) = 0 then x 0 else x 1) = x (f_n_compared (hr 28 p) (hr 46 (hr 27 33 - 2).toNatClampNeg) (hr 46 (hr 27 33 - 1).toNatClampNeg)) := by
    intro α x
    rcases c01 with e | e
    · rw [e]; rfl
    · rw [e]; rfl
  simp only [f_m_plain_27, f_m_plain_131, q33, q32, g1, g2, st0, ee, im, xput_at, Nat.reduceEqDiff, reduceIte, s11, l80, if_false, cm, Option.bind_some, show ((2 : Int32) = 3) = False from by decide, show ((2 : Int32) = 2) = True from by decide, if_true] at ms
  rw [ci (fun q => f_m_plain_197 (hr 28 p) q (hr 27 33 - 2) (xput (xput hr 27 31 0) 27 33 (hr 27 33 - 1)))] at ms
  simp only [f_m_plain_197, f_m_plain_226, g2, im, xput_at, Nat.reduceEqDiff, reduceIte] at ms
  simp [f_h_calculate, f_h_calculate_75, f_h_calculate_98, f_h_replaceTwo, un, dv0, l79, xput_at, N.depth, im, k1, k2, s11, t1, t2] at cs
  refine ⟨_, _, by rw [cs, Option.bind_some]; exact xheed0 _, ms, ?_⟩
  refine xgoesP B X (.inr (by omega)) (R.going hs (by intro k a b; simp only [xput_off a, xput_off (show k ≠ 21 from by omega), xput_off (show k ≠ 25 from by omega)]) (by intro k a b; simp only [xput_off a, xput_off (show k ≠ 46 from by omega), xput_off (show k ≠ 50 from by omega)]) (by intro j a b c d; simp [xput_at, a, b, c, d])) ?_ ?_ ?_ ?_ ?_ ?_ ?_ ?_ ?_ ?_ ?_ ?_ ?_
  · intro k a1 a2 a3 a4 a5 a6; simp only [xput_off a1, xput_off a2, xput_off a3, xput_off a4, xput_off a5, xput_off a6]
  · intro k a1 a2 a3 a4 a5; simp only [xput_off a1, xput_off a2, xput_off a3, xput_off a4, xput_off a5]
  · simp [xput_at, hs]
  · simp [xput_at]
  · simp [xput_at]
  · simp [xput_at]
  · simp [xput_at, N.depth]
  · simp [xput_at]
  · simp [xput_at, im]
  · intro j hj
    simp only [xput_at, Nat.reduceEqDiff, reduceIte] at hj ⊢
    by_cases e : j = (hr 27 33 - 2).toNatClampNeg
    · rw [if_pos e, if_pos e]
    · rw [if_neg e, if_neg e]
      exact N.stack j (by omega)
  · intro a b h1 h2
    simp only [xput_at, Nat.reduceEqDiff, reduceIte]
    exact N.locl a b h1 h2
  · simp only [xput_at, Nat.reduceEqDiff, reduceIte, ee, yy]
    omega
  · simp only [xput_at, Nat.reduceEqDiff, reduceIte]
    omega
theorem xs_two {A : Nat → Nat → Int → Prop} {hc hr : xI} {c f p : Nat} {v : Int} (B : xBef A hc hr) (X : xCtxt A hc hr c f p v) (hw : (70 ≤ (hr 28 p).toInt ∧ (hr 28 p).toInt ≤ 79) ∨ (106 ≤ (hr 28 p).toInt ∧ (hr 28 p).toInt ≤ 120)) (h80 : 80 ≤ (hr 28 p).toInt) (hd : (hr 28 p).toInt < 109 ∨ 112 < (hr 28 p).toInt) : xStepOK A hc hr := by
  have hs := B.2.2.1
  have R := B.1
  have N := B.2.2.2.1
  have X' := X
  obtain ⟨x1, x2, x3, x4, x5, x6, x7, x8, x9, x10, x11, x12, x13, x14, x15, x16, C⟩ := X'
  obtain ⟨ee, yy, st0, ld, im, un, dv, n14, n65, n0, n32, n35, n63, n16⟩ := xwf2 C.1.1 hw
  have ea := (C.2.2.2.2.2.2.2.2.2.2 (.inr (by omega))).1
  have e0 : (0 : Int32).toInt = 0 := rfl
  have e1 : (1 : Int32).toInt = 1 := rfl
  have e2 : (2 : Int32).toInt = 2 := rfl
  have e80 : (80 : Int32).toInt = 80 := rfl
  have e79 : (79 : Int32).toInt = 79 := rfl
  have e64 : (64 : Int32).toInt = 64 := rfl
  have e36 : (36 : Int32).toInt = 36 := rfl
  have e16 : (16 : Int32).toInt = 16 := rfl
  have e109 : (109 : Int32).toInt = 109 := rfl
  have e112 : (112 : Int32).toInt = 112 := rfl
  rw [ee, e2] at ea
  have s1 : (hr 27 33 - 1).toInt = (hr 27 33).toInt - 1 := xi_sub (by omega) (by omega)
  have s2 : (hr 27 33 - 2).toInt = (hr 27 33).toInt - 2 := xi_sub (by omega) (by omega)
  have s11 : hr 27 33 - 1 - 1 = hr 27 33 - 2 := by rw [Int32.sub_sub]; rfl
  have q33 : xput hr 27 31 0 27 33 = hr 27 33 := by simp [xput_at]
  have q32 : xput hr 27 31 0 27 32 = hr 27 32 := by simp [xput_at]
  have g1 : ∀ {α : Type} (x : Option α), xgd (hr 27 33 - 1) 101 x = x := fun x => xgd_ok (by omega) (by omega)
  have g2 : ∀ {α : Type} (x : Option α), xgd (hr 27 33 - 2) 101 x = x := fun x => xgd_ok (by omega) (by omega)
  have k1 : ∀ {α : Type} (x : Option α), xgd (hr 27 33 - 1) 100 x = x := fun x => xgd_ok (by omega) (by omega)
  have k2 : ∀ {α : Type} (x : Option α), xgd (hr 27 33 - 2) 100 x = x := fun x => xgd_ok (by omega) (by omega)
  have t1 := N.stack (hr 27 33 - 1).toNatClampNeg (by rw [xi_nat]; omega)
  have t2 := N.stack (hr 27 33 - 2).toNatClampNeg (by rw [xi_nat]; omega)
  have cs := xcstep B X n14 n65
  rw [if_pos (by rw [xi_lt]; omega), if_pos (by rw [xi_lt]; omega), if_pos (by rw [xi_lt]; omega)] at cs
  have dv0 : f_o_isDivision (hr 28 p) = 0 := dv.resolve_right (by omega)
  have ms := xmgo X (xt0 X _ n0 (by omega) ld st0 n32 n35 n63 n65 n16)
  rw [xm54p (by omega), xplainT (by rw [q33]; omega) (by rw [q33]; omega)] at ms
  have l80 : (80 : Int32) ≤ hr 28 p := by rw [xi_le]; omega
  have l79 : (79 : Int32) < hr 28 p := by rw [xi_lt]; omega
  have i2 : ∀ {α : Type} (x y : α), (if hr 28 p < 109 then x else if 112 < hr 28 p then x else y) = x := by
    intro α x y
    by_cases h : hr 28 p < 109
    · rw [if_pos h]
    · rw [if_neg h, if_pos (by rw [xi_lt] at h ⊢; omega)]
  simp only [f_m_plain_27, f_m_plain_131, q33, q32, g1, g2, st0, ee, im, xput_at, Nat.reduceEqDiff, reduceIte, s11, l80, if_true, i2, Option.bind_some, show ((2 : Int32) = 3) = False from by decide, show ((2 : Int32) = 2) = True from by decide, if_false, f_m_plain_189, f_m_plain_197, f_m_plain_226] at ms
  simp [f_h_calculate, f_h_calculate_75, f_h_calculate_98, f_h_replaceTwo, un, dv0, l79, xput_at, N.depth, im, k1, k2, s11, t1, t2, xtwo] at cs
  refine ⟨_, _, by rw [cs, Option.bind_some]; exact xheed0 _, ms, ?_⟩
  refine xgoesP B X (.inr (by omega)) (R.going hs (by intro k a b; simp only [xput_off a, xput_off (show k ≠ 21 from by omega), xput_off (show k ≠ 25 from by omega)]) (by intro k a b; simp only [xput_off a, xput_off (show k ≠ 46 from by omega), xput_off (show k ≠ 50 from by omega)]) (by intro j a b c d; simp [xput_at, a, b, c, d])) ?_ ?_ ?_ ?_ ?_ ?_ ?_ ?_ ?_ ?_ ?_ ?_ ?_
  · intro k a1 a2 a3 a4 a5 a6; simp only [xput_off a1, xput_off a2, xput_off a3, xput_off a4, xput_off a5, xput_off a6]
  · intro k a1 a2 a3 a4 a5; simp only [xput_off a1, xput_off a2, xput_off a3, xput_off a4, xput_off a5]
  · simp [xput_at, hs]
  · simp [xput_at]
  · simp [xput_at]
  · simp [xput_at]
  · simp [xput_at, N.depth]
  · simp [xput_at]
  · simp [xput_at, im]
  · intro j hj
    simp only [xput_at, Nat.reduceEqDiff, reduceIte] at hj ⊢
    by_cases e : j = (hr 27 33 - 2).toNatClampNeg
    · rw [if_pos e, if_pos e]
    · rw [if_neg e, if_neg e]
      exact N.stack j (by omega)
  · intro a b h1 h2
    simp only [xput_at, Nat.reduceEqDiff, reduceIte]
    exact N.locl a b h1 h2
  · simp only [xput_at, Nat.reduceEqDiff, reduceIte, ee, yy]
    omega
  · simp only [xput_at, Nat.reduceEqDiff, reduceIte]
    omega
theorem xs_div {A : Nat → Nat → Int → Prop} {hc hr : xI} {c f p : Nat} {v : Int} (B : xBef A hc hr) (X : xCtxt A hc hr c f p v) (hw : (70 ≤ (hr 28 p).toInt ∧ (hr 28 p).toInt ≤ 79) ∨ (106 ≤ (hr 28 p).toInt ∧ (hr 28 p).toInt ≤ 120)) (hd : 109 ≤ (hr 28 p).toInt ∧ (hr 28 p).toInt ≤ 112) : xStepOK A hc hr := by
  have hs := B.2.2.1
  have R := B.1
  have N := B.2.2.2.1
  have X' := X
  obtain ⟨x1, x2, x3, x4, x5, x6, x7, x8, x9, x10, x11, x12, x13, x14, x15, x16, C⟩ := X'
  obtain ⟨ee, yy, st0, ld, im, un, dv, n14, n65, n0, n32, n35, n63, n16⟩ := xwf2 C.1.1 hw
  have ea := (C.2.2.2.2.2.2.2.2.2.2 (.inr (by omega))).1
  have e0 : (0 : Int32).toInt = 0 := rfl
  have e1 : (1 : Int32).toInt = 1 := rfl
  have e2 : (2 : Int32).toInt = 2 := rfl
  have e80 : (80 : Int32).toInt = 80 := rfl
  have e79 : (79 : Int32).toInt = 79 := rfl
  have e64 : (64 : Int32).toInt = 64 := rfl
  have e36 : (36 : Int32).toInt = 36 := rfl
  have e16 : (16 : Int32).toInt = 16 := rfl
  have e109 : (109 : Int32).toInt = 109 := rfl
  have e112 : (112 : Int32).toInt = 112 := rfl
  rw [ee, e2] at ea
  have s1 : (hr 27 33 - 1).toInt = (hr 27 33).toInt - 1 := xi_sub (by omega) (by omega)
  have s2 : (hr 27 33 - 2).toInt = (hr 27 33).toInt - 2 := xi_sub (by omega) (by omega)
  have s11 : hr 27 33 - 1 - 1 = hr 27 33 - 2 := by rw [Int32.sub_sub]; rfl
  have q33 : xput hr 27 31 0 27 33 = hr 27 33 := by simp [xput_at]
  have q32 : xput hr 27 31 0 27 32 = hr 27 32 := by simp [xput_at]
  have g1 : ∀ {α : Type} (x : Option α), xgd (hr 27 33 - 1) 101 x = x := fun x => xgd_ok (by omega) (by omega)
  have g2 : ∀ {α : Type} (x : Option α), xgd (hr 27 33 - 2) 101 x = x := fun x => xgd_ok (by omega) (by omega)
  have k1 : ∀ {α : Type} (x : Option α), xgd (hr 27 33 - 1) 100 x = x := fun x => xgd_ok (by omega) (by omega)
  have k2 : ∀ {α : Type} (x : Option α), xgd (hr 27 33 - 2) 100 x = x := fun x => xgd_ok (by omega) (by omega)
  have t1 := N.stack (hr 27 33 - 1).toNatClampNeg (by rw [xi_nat]; omega)
  have t2 := N.stack (hr 27 33 - 2).toNatClampNeg (by rw [xi_nat]; omega)
  have cs := xcstep B X n14 n65
  rw [if_pos (by rw [xi_lt]; omega), if_pos (by rw [xi_lt]; omega), if_pos (by rw [xi_lt]; omega)] at cs
  have dv1 : f_o_isDivision (hr 28 p) = 1 := by
    unfold f_o_isDivision
    rw [if_neg (by rw [xi_lt]; omega), if_neg (by rw [xi_lt]; omega)]
  have l80 : (80 : Int32) ≤ hr 28 p := by rw [xi_le]; omega
  have na : ¬ hr 28 p < 109 := by rw [xi_lt]; omega
  have nb : ¬ 112 < hr 28 p := by rw [xi_lt]; omega
  obtain ⟨b, a, tb, vb, va⟩ := xtrapOf x13 x14 (hr 28 p)
  have vb := vb (by omega)
  have va := va (by omega)
  subst vb va
  simp only [f_m_trapOf_46, n0, na, nb, if_false] at tb
  simp [f_h_calculate, un, dv1, xput_at, N.depth, im, k1, k2, t1, t2] at cs
  have h1 : ∀ k, k ≠ 19 → ¬ (21 ≤ k ∧ k ≤ 25) → (xput hc 19 5 (hr 27 32 + 1)) k = hc k := fun k a b => xput_off a
  by_cases z : hr 46 (hr 27 33 - 1).toNatClampNeg = 0
  · rw [if_pos z] at tb
    have ms := xmtrap x6 x7 tb (by decide)
    simp [f_h_divide, z] at cs
    obtain ⟨t1, t2⟩ := xtrap B h1 2 (by decide) (by decide)
    exact ⟨_, _, by rw [cs, Option.bind_some]; exact t1, ms, t2⟩
  · rw [if_neg z] at tb
    by_cases q : hr 28 p = 109 ∧ hr 46 (hr 27 33 - 2).toNatClampNeg = -2147483648 ∧ hr 46 (hr 27 33 - 1).toNatClampNeg = -1
    · obtain ⟨q1, q2, q3⟩ := q
      rw [if_pos q1, if_pos q3, if_pos q2] at tb
      have ms := xmtrap x6 x7 tb (by decide)
      simp [f_h_divide, q1, q2, q3] at cs
      obtain ⟨t1, t2⟩ := xtrap B h1 3 (by decide) (by decide)
      exact ⟨_, _, by rw [cs, Option.bind_some]; exact t1, ms, t2⟩
    · have tb' : f_m_trapOf (hr 28 p) hr = some 0 := by
        rw [tb]
        by_cases q1 : hr 28 p = 109
        · rw [if_pos q1]
          by_cases q3 : hr 46 (hr 27 33 - 1).toNatClampNeg = -1
          · rw [if_pos q3, if_neg (fun q2 => q ⟨q1, q2, q3⟩)]
          · rw [if_neg q3]
        · rw [if_neg q1]
      have ms := xmgo X tb'
      rw [xm54p (by omega), xplainT (by rw [q33]; omega) (by rw [q33]; omega)] at ms
      have dd := xdivide (op := hr 28 p) (a := hr 46 (hr 27 33 - 2).toNatClampNeg) z
      have ds : ∃ r, f_m_divide (hr 28 p) (hr 46 (hr 27 33 - 2).toNatClampNeg) (hr 46 (hr 27 33 - 1).toNatClampNeg) = some r := by
        rw [← dd]
        unfold f_n_divided
        rw [if_neg z]
        have zL : ¬ f_i_toUnsignedLong (hr 46 (hr 27 33 - 1).toNatClampNeg) = 0 := xul0 z
        simp only [xdz, xdzL, z, zL, if_false]
        repeat' split
        all_goals exact ⟨_, rfl⟩
      obtain ⟨r, ds⟩ := ds
      have cd : f_h_divide (hr 28 p) (hr 46 (hr 27 33 - 2).toNatClampNeg) (hr 46 (hr 27 33 - 1).toNatClampNeg) (xput hc 19 5 (hr 27 32 + 1)) = f_h_divide_25 (hr 28 p) (hr 46 (hr 27 33 - 2).toNatClampNeg) (hr 46 (hr 27 33 - 1).toNatClampNeg) (xput hc 19 5 (hr 27 32 + 1)) := by
        unfold f_h_divide
        rw [if_neg z]
        by_cases q1 : hr 28 p = 109
        · rw [if_pos q1]
          by_cases q2 : hr 46 (hr 27 33 - 2).toNatClampNeg = -2147483648
          · rw [if_pos q2, if_neg (fun q3 => q ⟨q1, q2, q3⟩)]
          · rw [if_neg q2]
        · rw [if_neg q1]
      simp only [f_m_plain_27, f_m_plain_131, q33, q32, g1, g2, st0, ee, im, xput_at, Nat.reduceEqDiff, reduceIte, s11, l80, if_true, na, nb, if_false, ds, Option.bind_some, show ((2 : Int32) = 3) = False from by decide, show ((2 : Int32) = 2) = True from by decide, f_m_plain_197, f_m_plain_226] at ms
      rw [cd] at cs
      simp [f_h_divide_25, dd, ds, f_h_replaceTwo, xput_at, N.depth, s11, k2] at cs
      refine ⟨_, _, by rw [cs, Option.bind_some]; exact xheed0 _, ms, ?_⟩
      refine xgoesP B X (.inr (by omega)) (R.going hs (by intro k a b; simp only [xput_off a, xput_off (show k ≠ 21 from by omega), xput_off (show k ≠ 25 from by omega)]) (by intro k a b; simp only [xput_off a, xput_off (show k ≠ 46 from by omega), xput_off (show k ≠ 50 from by omega)]) (by intro j a b c d; simp [xput_at, a, b, c, d])) ?_ ?_ ?_ ?_ ?_ ?_ ?_ ?_ ?_ ?_ ?_ ?_ ?_
      · intro k a1 a2 a3 a4 a5 a6; simp only [xput_off a1, xput_off a2, xput_off a3, xput_off a4, xput_off a5, xput_off a6]
      · intro k a1 a2 a3 a4 a5; simp only [xput_off a1, xput_off a2, xput_off a3, xput_off a4, xput_off a5]
      · simp [xput_at, hs]
      · simp [xput_at]
      · simp [xput_at]
      · simp [xput_at]
      · simp [xput_at, N.depth]
      · simp [xput_at]
      · simp [xput_at, im]
      · intro j hj
        simp only [xput_at, Nat.reduceEqDiff, reduceIte] at hj ⊢
        by_cases e : j = (hr 27 33 - 2).toNatClampNeg
        · rw [if_pos e, if_pos e]
        · rw [if_neg e, if_neg e]
          exact N.stack j (by omega)
      · intro a b h1 h2
        simp only [xput_at, Nat.reduceEqDiff, reduceIte]
        exact N.locl a b h1 h2
      · simp only [xput_at, Nat.reduceEqDiff, reduceIte, ee, yy]
        omega
      · simp only [xput_at, Nat.reduceEqDiff, reduceIte]
        omega
