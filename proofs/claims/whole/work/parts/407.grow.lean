/-! memory.grow. -/
theorem xcmpU {x y : Int32} (hy : 0 ≤ y.toInt) : f_i_compareUnsigned x y ≤ 0 ↔ 0 ≤ x.toInt ∧ x.toInt ≤ y.toInt := by
  have em : (-2147483648 : Int32).toInt = -2147483648 := rfl
  have rx := xi_rng x
  have ry := xi_rng y
  have ey : (y + (-2147483648 : Int32)).toInt = y.toInt - 2147483648 := by rw [xi_add (by omega) (by omega), em]; omega
  have ex : (x + (-2147483648 : Int32)).toInt = if 0 ≤ x.toInt then x.toInt - 2147483648 else x.toInt + 2147483648 := by
    by_cases h : 0 ≤ x.toInt
    · rw [if_pos h, xi_add (by omega) (by omega), em]; omega
    · rw [if_neg h, Int32.toInt_add, em, Int.bmod_def]
      split <;> omega
  unfold f_i_compareUnsigned f_i_compare
  by_cases h : 0 ≤ x.toInt
  · rw [if_pos h] at ex
    by_cases g : y.toInt ≤ x.toInt
    · rw [if_pos (by rw [xi_le]; omega)]
      by_cases e : x + (-2147483648 : Int32) = y + (-2147483648 : Int32)
      · rw [if_pos e]
        have : x.toInt = y.toInt := by rw [xi_eq] at e; omega
        exact ⟨fun _ => ⟨h, by omega⟩, fun _ => by decide⟩
      · rw [if_neg e]
        have : x.toInt ≠ y.toInt := fun q => e (xi_eq.mpr (by omega))
        exact ⟨fun c => absurd c (by decide), fun c => by omega⟩
    · rw [if_neg (by rw [xi_le]; omega)]
      exact ⟨fun _ => ⟨h, by omega⟩, fun _ => by decide⟩
  · rw [if_neg h] at ex
    rw [if_pos (by rw [xi_le]; omega), if_neg (by rw [xi_eq]; omega)]
    exact ⟨fun c => absurd c (by decide), fun c => absurd c.1 h⟩
theorem xs_grow {A : Nat → Nat → Int → Prop} {hc hr : xI} {c f p : Nat} {v : Int} (B : xBef A hc hr) (X : xCtxt A hc hr c f p v) (hw : hr 28 p = 64) : xStepOK A hc hr := by
  have hs := B.2.2.1
  have R := B.1
  have N := B.2.2.2.1
  have cs := xcstep B X (by rw [hw]; decide) (by rw [hw]; decide)
  have ms := xmgo X (xt0 X _ (by rw [hw]; decide) (by rw [hw]; decide) (by rw [hw]; decide) (by rw [hw]; decide) (by rw [hw]; decide) (by rw [hw]; decide) (by rw [hw]; decide) (by rw [hw]; decide) (by rw [hw]; decide))
  rw [xm54p (by rw [hw]; decide), hw] at ms
  have X' := X
  obtain ⟨x1, x2, x3, x4, x5, x6, x7, x8, x9, x10, x11, x12, x13, x14, x15, x16, C⟩ := X'
  have ea := (C.2.2.2.2.2.2.2.2.2.2 (.inr (by rw [hw]; decide))).1
  have ey : (f_m_eats 64).toInt = 1 ∧ (f_m_yields 64).toInt = 1 := by decide
  rw [hw] at ea
  have e0 : (0 : Int32).toInt = 0 := rfl
  have e1 : (1 : Int32).toInt = 1 := rfl
  have e2 : (2 : Int32).toInt = 2 := rfl
  have s1 : (hr 27 33 - 1).toInt = (hr 27 33).toInt - 1 := xi_sub (by omega) (by omega)
  have s2 : (hr 27 33 - 2).toInt = (hr 27 33).toInt - 2 := xi_sub (by omega) (by omega)
  have q33 : xput hr 27 31 0 27 33 = hr 27 33 := by simp [xput_at]
  have q32 : xput hr 27 31 0 27 32 = hr 27 32 := by simp [xput_at]
  have q35 : xput hr 27 31 0 27 35 = hr 27 35 := by simp [xput_at]
  have im : f_m_immediates 64 = 0 := by decide
  have st0 : f_m_isStore 64 = 0 := by decide
  have ee : f_m_eats 64 = 1 := by decide
  rw [xplainT (by rw [q33]; omega) (by rw [q33]; omega)] at ms
  have g1 : ∀ {α : Type} (x : Option α), xgd (hr 27 33 - 1) 101 x = x := fun x => xgd_ok (by omega) (by omega)
  have k1 : ∀ {α : Type} (x : Option α), xgd (hr 27 33 - 1) 100 x = x := fun x => xgd_ok (by omega) (by omega)
  have t1 := N.stack (hr 27 33 - 1).toNatClampNeg (by rw [xi_nat]; omega)
  have pb := R.pagesB
  have e4 : (4 : Int32).toInt = 4 := rfl
  have e100 : (100 : Int32).toInt = 100 := rfl
  have p4 : (4 - hr 27 27).toInt = 4 - (hr 27 27).toInt := by rw [xi_sub (by omega) (by omega), e4]
  have cu := xcmpU (x := hr 46 (hr 27 33 - 1).toNatClampNeg) (y := 4 - hr 27 27) (by omega)
  have nf : ¬ hr 27 33 - 1 = 100 := by rw [xi_eq]; omega
  have sc : hr 27 33 - 1 + 1 = hr 27 33 := Int32.sub_add_cancel _ _
  have q27 : xput hr 27 31 0 27 27 = hr 27 27 := by simp [xput_at]
  rw [hw, if_pos (by decide), if_pos (by decide), if_neg (by decide)] at cs
  have p11 : xput (xput hc 19 5 (hr 27 32 + 1)) 19 4 (hr 27 33 - 1) 11 1 = hr 27 27 := by simp only [xput_at, Nat.reduceEqDiff, reduceIte]; exact R.pages
  have cpop : f_h_pop (xput hc 19 5 (hr 27 32 + 1)) = some (hr 46 (hr 27 33 - 1).toNatClampNeg, xput (xput hc 19 5 (hr 27 32 + 1)) 19 4 (hr 27 33 - 1)) := by
    have d4 : xput hc 19 5 (hr 27 32 + 1) 19 4 = hr 27 33 := by simp only [xput_at, Nat.reduceEqDiff, reduceIte]; exact N.depth
    have d21 : xput hc 19 5 (hr 27 32 + 1) 21 (hr 27 33 - 1).toNatClampNeg = hr 46 (hr 27 33 - 1).toNatClampNeg := by simp only [xput_at, Nat.reduceEqDiff, reduceIte]; exact t1
    unfold f_h_pop
    rw [d4, k1, d21]
  have cpush : ∀ (r : Int32) (h : xI), h 19 4 = hr 27 33 - 1 → f_h_push r h = some (0, xput (xput h 21 (hr 27 33 - 1).toNatClampNeg r) 19 4 (hr 27 33)) := by
    intro r h e
    unfold f_h_push
    rw [e, if_neg nf, k1, sc]
  have cuse : ∀ (r : Int32) (h2 : xI) (t : Int32) (h3 : xI), f_y_grow (hr 46 (hr 27 33 - 1).toNatClampNeg) (xput (xput hc 19 5 (hr 27 32 + 1)) 19 4 (hr 27 33 - 1)) = some (r, h2) → f_h_push r h2 = some (t, h3) → f_h_useMemory 64 (hr 27 32) (xput hc 19 5 (hr 27 32 + (1 + f_m_immediates 64))) = some (t, h3) := by
    intro r h2 t h3 g1 g2
    have i1 : (1 : Int32) + 0 = 1 := rfl
    rw [im, i1]
    unfold f_h_useMemory
    rw [if_neg (by decide), if_neg (by decide), if_pos rfl, cpop, Option.bind_some]
    show ((f_y_grow (hr 46 (hr 27 33 - 1).toNatClampNeg) (xput (xput hc 19 5 (hr 27 32 + 1)) 19 4 (hr 27 33 - 1))).bind fun q9 => (f_h_push q9.1 q9.2).bind fun q10 => some (q10.1, q10.2)) = _
    rw [g1, Option.bind_some]
    show ((f_h_push r h2).bind fun q10 => some (q10.1, q10.2)) = _
    rw [g2, Option.bind_some]
  by_cases z : 0 ≤ (hr 46 (hr 27 33 - 1).toNatClampNeg).toInt ∧ (hr 46 (hr 27 33 - 1).toNatClampNeg).toInt ≤ (4 - hr 27 27).toInt
  · have z1 : ¬ hr 46 (hr 27 33 - 1).toNatClampNeg < 0 := by rw [xi_lt]; omega
    have z2 : hr 46 (hr 27 33 - 1).toNatClampNeg ≤ 4 - hr 27 27 := by rw [xi_le]; exact z.2
    have z3 := cu.mpr z
    clear cu
    have sm : (hr 27 27 + hr 46 (hr 27 33 - 1).toNatClampNeg).toInt = (hr 27 27).toInt + (hr 46 (hr 27 33 - 1).toNatClampNeg).toInt := xi_add (by omega) (by omega)
    simp [f_m_plain_27, f_m_one, f_m_one_41, f_m_one_51, f_m_one_63, f_m_one_166, f_m_plain_226, f_m_plain_99, f_m_give, f_m_give_40, f_m_give_66, f_m_give_84, f_m_grow, q33, q32, q27, g1, st0, ee, im, xput_at, z1, z2] at ms
    have cg : f_y_grow (hr 46 (hr 27 33 - 1).toNatClampNeg) (xput (xput hc 19 5 (hr 27 32 + 1)) 19 4 (hr 27 33 - 1)) = some (hr 27 27, xput (xput (xput hc 19 5 (hr 27 32 + 1)) 19 4 (hr 27 33 - 1)) 11 1 (hr 27 27 + hr 46 (hr 27 33 - 1).toNatClampNeg)) := by
      unfold f_y_grow
      rw [p11, if_pos z3]
    have cp := cpush (hr 27 27) (xput (xput (xput hc 19 5 (hr 27 32 + 1)) 19 4 (hr 27 33 - 1)) 11 1 (hr 27 27 + hr 46 (hr 27 33 - 1).toNatClampNeg)) (by simp [xput_at])
    rw [cuse _ _ _ _ cg cp] at cs
    refine ⟨_, _, by rw [cs, Option.bind_some]; exact xheed0 _, ms, ?_⟩
    refine xgoesP B X (.inr (by rw [hw]; decide)) (R.goingM hs (by intro k a b c1 c2 c3; simp only [xput_off a, xput_off c1, xput_off (show k ≠ 21 from by omega)]) (by intro k a b c1 c2; simp only [xput_off a, xput_off (show k ≠ 46 from by omega)]) (by intro j a b c d e; simp [xput_at, a, b, c, d, e]) (by intro j; simp only [xput_at, Nat.reduceEqDiff, reduceIte]; exact R.mem j) (by simp only [xput_at, Nat.reduceEqDiff, reduceIte]) (by simp only [xput_at, Nat.reduceEqDiff, reduceIte]; omega) (by intro j; simp only [xput_at, Nat.reduceEqDiff, reduceIte]; exact R.glob j)) ?_ ?_ ?_ ?_ ?_ ?_ ?_ ?_ ?_ ?_ ?_ ?_ ?_
    · intro k a1 a2 a3 a4 a5 a6; simp only [xput_off a1, xput_off a2, xput_off a3, xput_off a4, xput_off a5, xput_off a6]
    · intro k a1 a2 a3 a4 a5; simp only [xput_off a1, xput_off a2, xput_off a3, xput_off a4, xput_off a5]
    · simp [xput_at, hs]
    · simp [xput_at]
    · simp [xput_at]
    · simp [xput_at]
    · simp [xput_at, N.depth]
    · simp [xput_at]
    · simp [xput_at, hw, im]
    · intro j hj
      simp only [xput_at, Nat.reduceEqDiff, reduceIte] at hj ⊢
      by_cases e : j = (hr 27 33 - 1).toNatClampNeg
      · rw [if_pos e, if_pos e]
      · rw [if_neg e, if_neg e]
        exact N.stack j (by omega)
    · intro a b h1 h2
      simp only [xput_at, Nat.reduceEqDiff, reduceIte]
      exact N.locl a b h1 h2
    · simp only [xput_at, Nat.reduceEqDiff, reduceIte, hw]
      omega
    · simp only [xput_at, Nat.reduceEqDiff, reduceIte]
      omega
  · have z3 : ¬ f_i_compareUnsigned (hr 46 (hr 27 33 - 1).toNatClampNeg) (4 - hr 27 27) ≤ 0 := fun c => z (cu.mp c)
    clear cu
    have mg : f_m_grow (hr 46 (hr 27 33 - 1).toNatClampNeg) (xput hr 27 31 0) = some (-1, xput hr 27 31 0) := by
      unfold f_m_grow
      by_cases z1 : hr 46 (hr 27 33 - 1).toNatClampNeg < 0
      · rw [if_pos z1]
      · rw [if_neg z1, q27, if_neg (fun c => z ⟨by rw [xi_lt] at z1; omega, by rw [xi_le] at c; exact c⟩)]
    simp [f_m_plain_27, f_m_one, f_m_one_41, f_m_one_51, f_m_one_63, f_m_one_166, f_m_plain_226, f_m_plain_99, f_m_give, f_m_give_40, f_m_give_66, f_m_give_84, mg, q33, q32, q27, g1, st0, ee, im, xput_at] at ms
    have cg : f_y_grow (hr 46 (hr 27 33 - 1).toNatClampNeg) (xput (xput hc 19 5 (hr 27 32 + 1)) 19 4 (hr 27 33 - 1)) = some (-1, xput (xput hc 19 5 (hr 27 32 + 1)) 19 4 (hr 27 33 - 1)) := by
      unfold f_y_grow
      rw [p11, if_neg z3]
    have cp := cpush (-1) (xput (xput hc 19 5 (hr 27 32 + 1)) 19 4 (hr 27 33 - 1)) (by simp [xput_at])
    rw [cuse _ _ _ _ cg cp] at cs
    refine ⟨_, _, by rw [cs, Option.bind_some]; exact xheed0 _, ms, ?_⟩
    refine xgoesP B X (.inr (by rw [hw]; decide)) (R.going hs (by intro k a b; simp only [xput_off a, xput_off (show k ≠ 21 from by omega), xput_off (show k ≠ 25 from by omega)]) (by intro k a b; simp only [xput_off a, xput_off (show k ≠ 46 from by omega), xput_off (show k ≠ 50 from by omega)]) (by intro j a b c d; simp [xput_at, a, b, c, d])) ?_ ?_ ?_ ?_ ?_ ?_ ?_ ?_ ?_ ?_ ?_ ?_ ?_
    · intro k a1 a2 a3 a4 a5 a6; simp only [xput_off a1, xput_off a2, xput_off a3, xput_off a4, xput_off a5, xput_off a6]
    · intro k a1 a2 a3 a4 a5; simp only [xput_off a1, xput_off a2, xput_off a3, xput_off a4, xput_off a5]
    · simp [xput_at, hs]
    · simp [xput_at]
    · simp [xput_at]
    · simp [xput_at]
    · simp [xput_at, N.depth]
    · simp [xput_at]
    · simp [xput_at, hw, im]
    · intro j hj
      simp only [xput_at, Nat.reduceEqDiff, reduceIte] at hj ⊢
      by_cases e : j = (hr 27 33 - 1).toNatClampNeg
      · rw [if_pos e, if_pos e]
      · rw [if_neg e, if_neg e]
        exact N.stack j (by omega)
    · intro a b h1 h2
      simp only [xput_at, Nat.reduceEqDiff, reduceIte]
      exact N.locl a b h1 h2
    · simp only [xput_at, Nat.reduceEqDiff, reduceIte, hw]
      omega
    · simp only [xput_at, Nat.reduceEqDiff, reduceIte]
      omega
