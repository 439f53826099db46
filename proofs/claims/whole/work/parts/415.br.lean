/-! Branches, calls, and all steps. -/
/-- the branch's conditions stand for the state in the middle too -/
theorem xMid.cnd {A : Nat → Nat → Int → Prop} {hc hr : xI} {c f p : Nat} {v : Int} (M : xMid A hc hr c f) (a : A f p v) : xCnd hc hr 250 (xKG A hc hr f) f p v := (M.2.1.2 f p v a).2.2.2.2
theorem xs_br {A : Nat → Nat → Int → Prop} {hc hr : xI} {c f p : Nat} {v : Int} (B : xBef A hc hr) (X : xCtxt A hc hr c f p v) (hw : hr 28 p = 12) : xStepOK A hc hr := by
  obtain ⟨cs, ms⟩ := xctl B X (by rw [hw]; decide) (by rw [hw]; decide) (by rw [hw]; decide)
  have M := xMid.start1 B X (hr 27 32 + (1 + f_m_immediates (hr 28 p)))
  obtain ⟨x1, x2, x3, x4, x5, x6, x7, x8, x9, x10, x11, x12, x13, x14, x15, x16, C⟩ := X
  have im : f_m_immediates (hr 28 p) = 1 := by rw [hw]; decide
  have ip := xwd_imm C.1 (by rw [im]; decide)
  have C2 := M.cnd x16
  have q28 : xput hr 27 31 0 28 = hr 28 := xput_off (by omega)
  have q32 : xput hr 27 31 0 27 32 = hr 27 32 := by simp [xput_at]
  have g := C2.2.2.2.2.2.1 (by rw [q28]; exact hw)
  have gP : ∀ {α : Type} (x : Option α), xgd (hr 27 32) 240 x = x := fun x => xgd_ok (by omega) (by omega)
  obtain ⟨i1, i2⟩ := xi_cl1 x6 (by omega)
  have a : f_h_control (hr 28 p) (hr 27 32) (xput hc 19 5 (hr 27 32 + (1 + f_m_immediates (hr 28 p)))) = f_h_branch (hr 27 32 + 1) (xput hc 19 5 (hr 27 32 + (1 + f_m_immediates (hr 28 p)))) := by
    unfold f_h_control
    rw [hw, if_neg (by decide), if_neg (by decide), if_neg (by decide), if_neg (by decide), if_pos rfl, xbp]
  have b : ∀ i, f_m_goes (hr 28 p) i (xput hr 27 31 0) = f_m_branch i (xput hr 27 31 0) := by
    intro i
    unfold f_m_goes
    rw [hw, q32, gP, if_neg (by decide), if_neg (by decide), if_neg (by decide), if_pos rfl, xbs]
  apply xEnd.ok
  rw [cs, ms, a, b, im, if_neg (by decide), ← q28]
  rw [im] at M g
  refine xbranch M (by rw [q32]; exact x6) x7 (lp := p + 1) i1 (by omega) ?_
  have e : (xput hr 27 31 0 27 33).toInt - (xput hr 27 31 0 49 c).toInt = v := by
    simp only [xput_at, Nat.reduceEqDiff, reduceIte]
    omega
  rw [e]
  exact g
/-- after a pop: what both sides have, and the conditions -/
theorem xpopped {A : Nat → Nat → Int → Prop} {hc hr : xI} {c f p : Nat} {v : Int} (B : xBef A hc hr) (X : xCtxt A hc hr c f p v) (q : Int32) (hv : 1 ≤ v) :
    f_h_pop (xput hc 19 5 q) = some (hr 46 (hr 27 33 - 1).toNatClampNeg, xput (xput hc 19 5 q) 19 4 (hr 27 33 - 1)) ∧ xMid A (xput (xput hc 19 5 q) 19 4 (hr 27 33 - 1)) (xput (xput hr 27 31 0) 27 33 (hr 27 33 - 1)) c f ∧ (xput (xput hr 27 31 0) 27 33 (hr 27 33 - 1) 27 33).toInt - (xput (xput hr 27 31 0) 27 33 (hr 27 33 - 1) 49 c).toInt = v - 1 ∧ (∀ {α : Type} (x : Option α), xgd (hr 27 33 - 1) 101 x = x) := by
  have M := xMid.start1 B X q
  obtain ⟨x1, x2, x3, x4, x5, x6, x7, x8, x9, x10, x11, x12, x13, x14, x15, x16, C⟩ := X
  have e1 : (1 : Int32).toInt = 1 := rfl
  have q33 : xput hr 27 31 0 27 33 = hr 27 33 := by simp [xput_at]
  have o : ∀ k, k ≠ 27 → xput hr 27 31 0 k = hr k := fun k h => xput_off h
  have s1 : (hr 27 33 - 1).toInt = (hr 27 33).toInt - 1 := xi_sub (by omega) (by omega)
  obtain ⟨p1, M2⟩ := M.pop (by rw [q33, o 49 (by omega)]; omega)
  rw [q33, o 46 (by omega)] at p1
  rw [q33] at M2
  refine ⟨p1, M2, ?_, fun x => xgd_ok (by omega) (by omega)⟩
  simp only [xput_at, Nat.reduceEqDiff, reduceIte]
  omega
theorem xs_brif {A : Nat → Nat → Int → Prop} {hc hr : xI} {c f p : Nat} {v : Int} (B : xBef A hc hr) (X : xCtxt A hc hr c f p v) (hw : hr 28 p = 13) : xStepOK A hc hr := by
  obtain ⟨cs, ms⟩ := xctl B X (by rw [hw]; decide) (by rw [hw]; decide) (by rw [hw]; decide)
  have C0 := X.2.2.2.2.2.2.2.2.2.2.2.2.2.2.2.2
  obtain ⟨g1, g2, -⟩ := C0.2.2.2.2.2.2.1 hw
  have e12 : (1 : Int32) + 1 = 2 := rfl
  have im : f_m_immediates (hr 28 p) = 1 := by rw [hw]; decide
  obtain ⟨p1, M2, sb, gS⟩ := xpopped B X (hr 27 32 + 2) g1
  obtain ⟨x1, x2, x3, x4, x5, x6, x7, x8, x9, x10, x11, x12, x13, x14, x15, x16, C⟩ := X
  have ip := xwd_imm C.1 (by rw [im]; decide)
  rw [im, e12, hw] at cs
  rw [im, hw, if_neg (by decide)] at ms
  have C2 := M2.cnd x16
  have o : ∀ k, k ≠ 27 → xput (xput hr 27 31 0) 27 33 (hr 27 33 - 1) k = hr k := fun k h => by rw [xput_off h, xput_off h]
  have o1 : ∀ k, k ≠ 27 → xput hr 27 31 0 k = hr k := fun k h => xput_off h
  obtain ⟨-, -, g⟩ := C2.2.2.2.2.2.2.1 (by rw [o 28 (by omega)]; exact hw)
  have q32 : xput hr 27 31 0 27 32 = hr 27 32 := by simp [xput_at]
  have q33 : xput hr 27 31 0 27 33 = hr 27 33 := by simp [xput_at]
  have p32 : xput (xput hr 27 31 0) 27 33 (hr 27 33 - 1) 27 32 = hr 27 32 := by simp [xput_at]
  have gP : ∀ {α : Type} (x : Option α), xgd (hr 27 32) 240 x = x := fun x => xgd_ok (by omega) (by omega)
  obtain ⟨i1, i2⟩ := xi_cl1 x6 (by omega)
  obtain ⟨j1, j2⟩ := xi_cl2 x6 (by omega)
  unfold f_h_control at cs
  rw [if_neg (by decide), if_neg (by decide), if_neg (by decide), if_neg (by decide), if_neg (by decide), if_pos rfl, p1, Option.bind_some] at cs
  unfold f_m_goes at ms
  rw [if_neg (by decide), if_neg (by decide), if_neg (by decide), if_neg (by decide), if_pos rfl, q32, gP, q33, gS, o1 46 (by omega)] at ms
  simp only [xbs] at ms
  by_cases z : hr 46 (hr 27 33 - 1).toNatClampNeg = 0
  · rw [if_pos z] at ms
    simp only [if_pos z] at cs
    refine ⟨_, _, by rw [cs, Option.bind_some]; exact xheed0 _, ms, ?_⟩
    refine M2.here (hr 27 32 + 2) (by simp [xput_at]) (q := p + 2) j1 ?_
    rw [sb]
    exact g2
  · rw [if_neg z] at ms
    simp only [if_neg z, xbp] at cs
    apply xEnd.ok
    rw [cs, ms, ← o 28 (by omega)]
    refine xbranch M2 (by rw [p32]; exact x6) x7 (lp := p + 1) i1 (by omega) ?_
    rw [sb]
    exact g
theorem xcmpG {x y : Int32} (hy : 0 ≤ y.toInt) : f_h_chosen x y = if 0 ≤ x.toInt ∧ x.toInt ≤ y.toInt then x else y := by
  have c := xcmpU (x := x) hy
  unfold f_h_chosen
  have rg : f_i_compareUnsigned x y = 0 ∨ f_i_compareUnsigned x y = 1 ∨ f_i_compareUnsigned x y = -1 := by
    unfold f_i_compareUnsigned f_i_compare
    split
    · split
      · exact .inl rfl
      · exact .inr (.inl rfl)
    · exact .inr (.inr rfl)
  rcases rg with e | e | e
  · have q := c.mp (by rw [e]; decide)
    rw [e, if_pos (by decide), if_pos q]
    unfold f_i_compareUnsigned f_i_compare at e
    by_cases h : y + (-2147483648 : Int32) ≤ x + (-2147483648 : Int32)
    · rw [if_pos h] at e
      by_cases h2 : x + (-2147483648 : Int32) = y + (-2147483648 : Int32)
      · have h3 : x + (-2147483648 : Int32) - (-2147483648 : Int32) = y + (-2147483648 : Int32) - (-2147483648 : Int32) := by rw [h2]
        rw [Int32.add_sub_cancel, Int32.add_sub_cancel] at h3
        exact h3.symm
      · rw [if_neg h2] at e; exact absurd e (by decide)
    · rw [if_neg h] at e; exact absurd e (by decide)
  · rw [e, if_pos (by decide), if_neg]
    intro q
    have := c.mpr q
    rw [e] at this
    exact absurd this (by decide)
  · have q := c.mp (by rw [e]; decide)
    rw [e, if_neg (by decide), if_pos q]
theorem xs_table {A : Nat → Nat → Int → Prop} {hc hr : xI} {c f p : Nat} {v : Int} (B : xBef A hc hr) (X : xCtxt A hc hr c f p v) (hw : hr 28 p = 14) : xStepOK A hc hr := by
  have C0 := X.2.2.2.2.2.2.2.2.2.2.2.2.2.2.2.2
  obtain ⟨g1, -⟩ := C0.2.2.2.2.2.2.2.1 hw
  have im : f_m_immediates (hr 28 p) = 1 := by rw [hw]; decide
  obtain ⟨w1, w2, w3⟩ := C0.1.2.2.2.1 hw
  have ms := xmgo X (xt0 X _ (by rw [hw]; decide) (by rw [hw]; decide) (by rw [hw]; decide) (by rw [hw]; decide) (by rw [hw]; decide) (by rw [hw]; decide) (by rw [hw]; decide) (by rw [hw]; decide) (by rw [hw]; decide))
  obtain ⟨p1, M2, sb, gS⟩ := xpopped B X (hr 27 32 + (3 + hr 28 (p + 1))) g1
  have R := B.1
  have N := B.2.2.2.1
  obtain ⟨x1, x2, x3, x4, x5, x6, x7, x8, x9, x10, x11, x12, x13, x14, x15, x16, C⟩ := X
  rw [xm54g (by rw [hw]; decide), im, hw, if_neg (by decide)] at ms
  have C2 := M2.cnd x16
  have o : ∀ k, k ≠ 27 → xput (xput hr 27 31 0) 27 33 (hr 27 33 - 1) k = hr k := fun k h => by rw [xput_off h, xput_off h]
  have o1 : ∀ k, k ≠ 27 → xput hr 27 31 0 k = hr k := fun k h => xput_off h
  obtain ⟨-, g⟩ := C2.2.2.2.2.2.2.2.1 (by rw [o 28 (by omega)]; exact hw)
  have q32 : xput hr 27 31 0 27 32 = hr 27 32 := by simp [xput_at]
  have q33 : xput hr 27 31 0 27 33 = hr 27 33 := by simp [xput_at]
  have p32 : xput (xput hr 27 31 0) 27 33 (hr 27 33 - 1) 27 32 = hr 27 32 := by simp [xput_at]
  have gP : ∀ {α : Type} (x : Option α), xgd (hr 27 32) 240 x = x := fun x => xgd_ok (by omega) (by omega)
  obtain ⟨i1, i2⟩ := xi_cl1 x6 (by omega)
  obtain ⟨j1, j2⟩ := xi_cl2 x6 (by omega)
  have gP1 : ∀ {α : Type} (x : Option α), xgd (hr 27 32 + 1) 240 x = x := fun x => xgd_ok (by omega) (by omega)
  -- the chosen label
  obtain ⟨i, Q, hi, hQ, hch, hmt⟩ : ∃ (i : Nat) (Q : Int32), (i : Int) ≤ (hr 28 (p + 1)).toInt ∧ f_h_chosen (hr 46 (hr 27 33 - 1).toNatClampNeg) (hr 28 (p + 1)) = Q ∧ Q.toInt = i ∧ f_m_table (xput hr 27 31 0) = f_m_table_57 Q (hr 27 32 + 2) (xput (xput hr 27 31 0) 27 33 (hr 27 33 - 1)) := by
    have e0 : (0 : Int32).toInt = 0 := rfl
    rw [xcmpG w1]
    unfold f_m_table f_m_table_52
    rw [q32, gP1, q33, gS, o1 46 (by omega), o1 28 (by omega), i2]
    by_cases z : 0 ≤ (hr 46 (hr 27 33 - 1).toNatClampNeg).toInt ∧ (hr 46 (hr 27 33 - 1).toNatClampNeg).toInt ≤ (hr 28 (p + 1)).toInt
    · rw [if_pos z]
      refine ⟨(hr 46 (hr 27 33 - 1).toNatClampNeg).toInt.toNat, _, by omega, rfl, by omega, ?_⟩
      rw [if_neg (by rw [xi_lt]; omega), if_pos (by rw [xi_le]; omega)]
    · rw [if_neg z]
      refine ⟨(hr 28 (p + 1)).toInt.toNat, _, by omega, rfl, by omega, ?_⟩
      by_cases y : hr 46 (hr 27 33 - 1).toNatClampNeg < 0
      · rw [if_pos y]
      · rw [if_neg y, if_neg]
        rw [xi_lt] at y
        rw [xi_le]
        omega
  have ch : (hr 27 32 + 2 + Q).toInt = (p + 2 + i : Nat) := by
    rw [xi_add (by omega) (by omega), j1, hch]
    omega
  have gl : ∀ {α : Type} (x : Option α), xgd (hr 27 32 + 2 + Q) 240 x = x := fun x => xgd_ok (by omega) (by omega)
  unfold f_m_goes at ms
  rw [if_neg (by decide), if_neg (by decide), if_neg (by decide), if_neg (by decide), if_neg (by decide), if_pos rfl, q32, gP, hmt, xbs] at ms
  unfold f_m_table_57 at ms
  rw [gl, xi_cl ch, xbs] at ms
  have cs : f_h_step hc = f_h_branch (hr 27 32 + 2 + Q) (xput (xput hc 19 5 (hr 27 32 + (3 + hr 28 (p + 1)))) 19 4 (hr 27 33 - 1)) := by
    unfold f_h_step
    rw [N.next, gP, xsize14 R x6 (by omega) hw, Option.bind_some, xi_cl x6, R.words, hw, if_neg (by decide), xbp]
    unfold f_h_control
    have d2 : xput (xput hc 19 5 (hr 27 32 + (3 + hr 28 (p + 1)))) 19 4 (hr 27 33 - 1) 2 = hc 2 := by rw [xput_off (by omega), xput_off (by omega)]
    rw [if_neg (by decide), if_neg (by decide), if_neg (by decide), if_neg (by decide), if_neg (by decide), if_neg (by decide), if_pos rfl, p1, Option.bind_some, gP1, xbp]
    dsimp only
    rw [d2, i2, R.words, hQ]
  apply xEnd.ok
  rw [cs, ms]
  refine xbranch M2 (by rw [p32]; exact x6) x7 (lp := p + 2 + i) ch (by omega) ?_
  rw [sb]
  exact g i (by rw [o 28 (by omega)]; exact hi)
theorem xs_call {A : Nat → Nat → Int → Prop} {hc hr : xI} {c f p : Nat} {v : Int} (B : xBef A hc hr) (X : xCtxt A hc hr c f p v) (hw : hr 28 p = 16) : xStepOK A hc hr := by
  have cs := xcstep B X (by rw [hw]; decide) (by rw [hw]; decide)
  have M := xMid.start1 B X (hr 27 32 + 2)
  have hs := B.2.2.1
  have R := B.1
  have N := B.2.2.2.1
  have K := B.2.1
  have X' := X
  obtain ⟨x1, x2, x3, x4, x5, x6, x7, x8, x9, x10, x11, x12, x13, x14, x15, x16, C⟩ := X'
  have im : f_m_immediates (hr 28 p) = 1 := by rw [hw]; decide
  have ip := xwd_imm C.1 (by rw [im]; decide)
  have e12 : (1 : Int32) + 1 = 2 := rfl
  have e1 : (1 : Int32).toInt = 1 := rfl
  have e6 : (6 : Int32).toInt = 6 := rfl
  rw [hw, if_neg (by decide), ← hw, im, e12, hw] at cs
  obtain ⟨w1, w2⟩ := C.1.2.2.2.2.1 hw
  obtain ⟨i1, i2⟩ := xi_cl1 x6 (by omega)
  obtain ⟨j1, j2⟩ := xi_cl2 x6 (by omega)
  have gP : ∀ {α : Type} (x : Option α), xgd (hr 27 32) 240 x = x := fun x => xgd_ok (by omega) (by omega)
  have gP1 : ∀ {α : Type} (x : Option α), xgd (hr 27 32 + 1) 240 x = x := fun x => xgd_ok (by omega) (by omega)
  have d2 : xput hc 19 5 (hr 27 32 + 2) 2 = hc 2 := xput_off (by omega)
  unfold f_h_control at cs
  rw [if_neg (by decide), if_neg (by decide), if_neg (by decide), if_neg (by decide), if_neg (by decide), if_neg (by decide), if_neg (by decide), if_neg (by decide), if_pos rfl, gP1, d2, i2, R.words, xbp] at cs
  obtain ⟨b, a, tb, -⟩ := xtrapOf x13 x14 (hr 28 p)
  have t0 : f_m_trapOf_46 (hr 28 p) b a hr = if hr 27 35 = 6 then some 6 else some 0 := by rw [hw]; exact xtrapC
  rw [t0] at tb
  by_cases full : hr 27 35 = 6
  · rw [if_pos full] at tb
    have ms := xmtrap x6 x7 tb (by decide)
    obtain ⟨t1, t2⟩ := xtrap (hc' := xput hc 19 5 (hr 27 32 + 2)) B (fun k a b => xput_off a) 6 (by decide) (by decide)
    unfold f_h_enter at cs
    have d7 : xput hc 19 5 (hr 27 32 + 2) 19 7 = hr 27 35 := by simp only [xput_at, Nat.reduceEqDiff, reduceIte]; exact N.calls
    rw [d7, if_pos full] at cs
    exact ⟨_, _, by rw [cs, Option.bind_some]; exact t1, ms, t2⟩
  · rw [if_neg full] at tb
    have ms := xmgo X tb
    have nf : (hr 27 35).toInt ≠ 6 := fun e => full (xi_eq.mpr (by rw [e, e6]))
    rw [xm54g (by rw [hw]; decide), im, hw, if_neg (by decide)] at ms
    have q32 : xput hr 27 31 0 27 32 = hr 27 32 := by simp [xput_at]
    have q33 : xput hr 27 31 0 27 33 = hr 27 33 := by simp [xput_at]
    have q35 : xput hr 27 31 0 27 35 = hr 27 35 := by simp [xput_at]
    have q4 : xput hr 27 31 0 27 4 = hr 27 4 := by simp [xput_at]
    have o : ∀ k, k ≠ 27 → xput hr 27 31 0 k = hr k := fun k h => xput_off h
    unfold f_m_goes at ms
    rw [if_neg (by decide), if_neg (by decide), if_neg (by decide), if_neg (by decide), if_neg (by decide), if_neg (by decide), if_neg (by decide), if_pos rfl, q32, gP, xbs] at ms
    obtain ⟨g, hg⟩ : ∃ g : Nat, (hr 28 (p + 1)).toInt = g := ⟨(hr 28 (p + 1)).toInt.toNat, by omega⟩
    obtain ⟨v1, v2⟩ := C.2.2.2.2.2.2.2.2.2.1 hw g hg
    have v2 : A f (p + 2) (v - (hr 30 g).toInt + (hr 32 g).toInt) := v2
    obtain ⟨R1, K1, m1, m2, m3, m4, m5, m6, m7, m8, m9, m10, m11, m12, m13, m14, m15, m16, m17, m18⟩ := M
    obtain ⟨hc', hr', y1, y2, y3, y4, y5, y6, y7, y8, y9, y10, y11, y12, y13, y14, y15, y16, y17, y18⟩ := xenter (c := c + 1) (hr := xput hr 27 31 0) (back := hr 27 32 + 2) hg (by have := R.fnsB; omega) (R1.parsB g) R1.pars (by have := R1.bodyStart (hr 28 (p + 1)) (by omega) (by have := R.fnsB; omega); rw [hg] at this; exact this) m4 (by rw [q35]; omega) (by omega) m5 m6 (by rw [o 30 (by omega), q33]; omega) m7
    rw [q33, o 30 (by omega)] at y6 y7 y16 y17
    rw [q35] at y10 y11
    rw [o 29 (by omega)] at y8 y9
    have pb := R.parsB g
    have sp : (hr 27 33 - hr 30 g).toInt = (hr 27 33).toInt - (hr 30 g).toInt := xi_sub (by omega) (by omega)
    have c1 : (hr 27 35 + 1).toInt = (c : Int) + 2 := by rw [xi_add (by omega) (by omega), x1, e1]; omega
    obtain ⟨s0, st1, st2⟩ := K.1 g (by omega)
    refine ⟨hc', hr', by rw [cs, y1, Option.bind_some]; exact xheed0 _, by rw [ms, y2], ?_⟩
    have K2 : xKC A hc' hr' := by
      refine xKC_keep ⟨fun k hk => y3 k (by omega) (by omega) (by omega) (by omega) (by omega), fun k hk => y4 k (by omega) (by omega) (by omega) (by omega) (by omega), y5 4 (by omega) (by omega) (by omega)⟩ K1
    refine xMid.go (c := c + 1) (f := g) (q := s0) ⟨R1.going m1 (fun k a b => y3 k a (by omega) (by omega) (by omega) (by omega)) (fun k a b => y4 k a (by omega) (by omega) (by omega) (by omega)) (fun j a b d e => y5 j b d e), K2, by rw [y5 1 (by omega) (by omega) (by omega)]; exact m1, by rw [y11]; omega, by omega, by rw [y10, y11], by rw [y6, y7], by rw [y7]; omega, ?_, ?_, ?_, ?_, ?_, ?_, ?_, ?_, ?_, ?_, ?_, ?_⟩ ?_ ?_ ?_
    · intro j hj
      rw [y7] at hj
      rw [y3 21 (by omega) (by omega) (by omega) (by omega) (by omega), y4 46 (by omega) (by omega) (by omega) (by omega) (by omega)]
      exact m7 j (by rw [q33]; omega)
    · intro k hk
      rw [y12, y13, y5 4 (by omega) (by omega) (by omega), q4]
      by_cases e : k = c + 1
      · rw [if_pos e, if_pos e]; exact ⟨rfl, by omega, by omega⟩
      · rw [if_neg e, if_neg e]
        have := m8 k (by omega)
        rw [q4] at this
        exact this
    · intro k h0 hk
      rw [y14, y15]
      by_cases e : k = c + 1
      · rw [if_pos e, if_pos e]; simp [xput_at]
      · rw [if_neg e, if_neg e]; exact m9 k h0 (by omega)
    · intro k hk
      rw [y16, y17]
      by_cases e : k = c + 1
      · rw [if_pos e, if_pos e]
      · rw [if_neg e, if_neg e]; exact m10 k (by omega)
    · intro k j hk hj
      exact y18 k j hk hj (fun h => m11 k j (by omega) hj)
    · rw [y17, if_neg (by omega)]; exact m12
    · rw [y17, if_pos rfl]; omega
    · rw [y17, if_pos rfl, y7]; omega
    · intro k hk
      rw [y17]
      by_cases e : k = c + 1
      · rw [if_pos e]; omega
      · rw [if_neg e]; exact m15 k (by omega)
    · rw [y13, if_pos rfl]; exact hg
    · rw [y5 4 (by omega) (by omega) (by omega), q4]; omega
    · intro k hk
      by_cases e : k = c
      · subst e
        refine ⟨f, g, p + 2, ?_, ?_, ?_, ?_, ?_⟩
        · rw [y13, if_neg (by omega)]; exact m16
        · rw [y13, if_pos rfl]; exact hg
        · rw [y15, if_pos rfl]; exact j1
        · rw [y17, y17, if_neg (by omega), if_pos rfl, o 49 (by omega)]; omega
        · rw [y17, y17, if_pos rfl, if_neg (by omega), o 49 (by omega), y4 32 (by omega) (by omega) (by omega) (by omega) (by omega), o 32 (by omega)]
          have q : (hr 27 33 - hr 30 g).toInt + (hr 32 g).toInt - (hr 49 k).toInt = v - (hr 30 g).toInt + (hr 32 g).toInt := by omega
          rw [q]
          exact v2
      · obtain ⟨f', g', p', u1, u2, u3, u4, u5⟩ := m18 k (by omega)
        refine ⟨f', g', p', ?_, ?_, ?_, ?_, ?_⟩
        · rw [y13, if_neg (by omega)]; exact u1
        · rw [y13, if_neg (by omega)]; exact u2
        · rw [y15, if_neg (by omega)]; exact u3
        · rw [y17, y17, if_neg (by omega), if_neg (by omega)]; exact u4
        · rw [y17, y17, if_neg (by omega), if_neg (by omega), y4 32 (by omega) (by omega) (by omega) (by omega) (by omega)]; exact u5
    · rw [y8, y9]
    · rw [y9]; exact st1
    · rw [y7, y17, if_pos rfl, Int.sub_self]; exact st2
