/-! The control words. -/
theorem xMid.start1 {A : Nat → Nat → Int → Prop} {hc hr : xI} {c f p : Nat} {v : Int} (B : xBef A hc hr) (X : xCtxt A hc hr c f p v) (q : Int32) : xMid A (xput hc 19 5 q) (xput hr 27 31 0) c f := by
  have M := xMid.start B X
  have M' := M
  obtain ⟨R, K, m1, m2, m3, m4, m5, m6, m7, m8, m9, m10, m11, m12, m13, m14, m15, m16, m17, m18⟩ := M'
  refine M.same ?_ ?_ ?_ ?_ ?_ ?_ ?_ ?_
  · intro k a b; exact xput_off a
  · intro j a b; simp [xput_at, b]
  · intro k a b; exact xput_off a
  · intro j a b d; simp [xput_at, a]
  · simp only [xput_at, Nat.reduceEqDiff, reduceIte]; exact m5
  · simp only [xput_at, Nat.reduceEqDiff, reduceIte]; exact m14
  · simp only [xput_at, Nat.reduceEqDiff, reduceIte]; exact m6
  · intro j; simp only [xput_at, Nat.reduceEqDiff, reduceIte]; exact m7 j
theorem xMid.pop {A : Nat → Nat → Int → Prop} {hc hr : xI} {c f : Nat} (M : xMid A hc hr c f) (h : (hr 49 c).toInt + 1 ≤ (hr 27 33).toInt) : f_h_pop hc = some (hr 46 (hr 27 33 - 1).toNatClampNeg, xput hc 19 4 (hr 27 33 - 1)) ∧ xMid A (xput hc 19 4 (hr 27 33 - 1)) (xput hr 27 33 (hr 27 33 - 1)) c f := by
  have M' := M
  obtain ⟨R, K, m1, m2, m3, m4, m5, m6, m7, m8, m9, m10, m11, m12, m13, m14, m15, m16, m17, m18⟩ := M'
  have e1 : (1 : Int32).toInt = 1 := rfl
  have s1 : (hr 27 33 - 1).toInt = (hr 27 33).toInt - 1 := xi_sub (by omega) (by omega)
  refine ⟨?_, M.same ?_ ?_ ?_ ?_ ?_ ?_ ?_ ?_⟩
  · unfold f_h_pop
    rw [m5, xgd_ok (by omega) (by omega), m7 _ (by rw [xi_nat]; omega)]
  · intro k a b; exact xput_off a
  · intro j a b; simp [xput_at, a]
  · intro k a b; exact xput_off a
  · intro j a b d; simp [xput_at, d]
  · simp only [xput_at, Nat.reduceEqDiff, reduceIte]
  · simp only [xput_at, Nat.reduceEqDiff, reduceIte]; omega
  · simp only [xput_at, Nat.reduceEqDiff, reduceIte]; omega
  · intro j hj
    simp only [xput_at, Nat.reduceEqDiff, reduceIte] at hj ⊢
    exact m7 j (by omega)
/-- only the place changes -/
theorem xMid.at {A : Nat → Nat → Int → Prop} {hc hr : xI} {c f q : Nat} (M : xMid A hc hr c f) (a : Int32) (ha : a.toInt = q) (h : A f q ((hr 27 33).toInt - (hr 49 c).toInt)) : xAft A (xput hc 19 5 a) (xput hr 27 32 a) := by
  have M' := M
  obtain ⟨R, K, m1, m2, m3, m4, m5, m6, m7, m8, m9, m10, m11, m12, m13, m14, m15, m16, m17, m18⟩ := M'
  refine xMid.go (c := c) (f := f) (q := q) (M.same ?_ ?_ ?_ ?_ ?_ ?_ ?_ ?_) ?_ ?_ ?_
  · intro k a b; exact xput_off a
  · intro j a b; simp [xput_at, b]
  · intro k a b; exact xput_off a
  · intro j a b d; simp [xput_at, b]
  · simp only [xput_at, Nat.reduceEqDiff, reduceIte]; exact m5
  · simp only [xput_at, Nat.reduceEqDiff, reduceIte]; exact m14
  · simp only [xput_at, Nat.reduceEqDiff, reduceIte]; exact m6
  · intro j; simp only [xput_at, Nat.reduceEqDiff, reduceIte]; exact m7 j
  · simp only [xput_at, Nat.reduceEqDiff, reduceIte]
  · simp only [xput_at, Nat.reduceEqDiff, reduceIte]; exact ha
  · simp only [xput_at, Nat.reduceEqDiff, reduceIte]; exact h
theorem xMid.here {A : Nat → Nat → Int → Prop} {hc hr : xI} {c f q : Nat} (M : xMid A hc hr c f) (a : Int32) (h5 : hc 19 5 = a) (ha : a.toInt = q) (h : A f q ((hr 27 33).toInt - (hr 49 c).toInt)) : xAft A hc (xput hr 27 32 a) := by
  have e : xput hc 19 5 a = hc := by
    funext k j
    rw [xput_at]
    by_cases x : k = 19
    · rw [if_pos x]
      by_cases y : j = 5
      · rw [if_pos y, x, y, h5]
      · rw [if_neg y]
    · rw [if_neg x]
  have := M.at a ha h
  rw [e] at this
  exact this
theorem xputswap (h : xI) (a b x y : Int32) : xput (xput h 19 4 a) 19 5 b = xput (xput h 19 5 b) 19 4 a := by
  funext k j
  simp only [xput_at]
  by_cases e : k = 19
  · simp only [if_pos e]
    by_cases p : j = 5
    · rw [if_pos p, if_neg (by omega), if_pos p]
    · rw [if_neg p, if_neg p]
  · simp only [if_neg e]
/-- unreachable -/
theorem xs_unr {A : Nat → Nat → Int → Prop} {hc hr : xI} {c f p : Nat} {v : Int} (B : xBef A hc hr) (X : xCtxt A hc hr c f p v) (hw : hr 28 p = 0) : xStepOK A hc hr := by
  have cs := xcstep B X (by rw [hw]; decide) (by rw [hw]; decide)
  obtain ⟨x1, x2, x3, x4, x5, x6, x7, x8, x9, x10, x11, x12, x13, x14, x15, x16, C⟩ := X
  rw [hw, if_neg (by decide)] at cs
  obtain ⟨b, a, tb, -⟩ := xtrapOf x13 x14 (hr 28 p)
  have t0 : f_m_trapOf_46 (hr 28 p) b a hr = some 1 := by rw [hw]; rfl
  rw [t0] at tb
  have ms := xmtrap x6 x7 tb (by decide)
  obtain ⟨t1, t2⟩ := xtrap (hc' := xput hc 19 5 (hr 27 32 + (1 + f_m_immediates 0))) B (fun k a b => xput_off a) 1 (by decide) (by decide)
  unfold f_h_control at cs
  rw [if_pos rfl] at cs
  exact ⟨_, _, by rw [cs, Option.bind_some]; exact t1, ms, t2⟩
/-- what the control words share -/
theorem xctl {A : Nat → Nat → Int → Prop} {hc hr : xI} {c f p : Nat} {v : Int} (B : xBef A hc hr) (X : xCtxt A hc hr c f p v) (h2 : 2 ≤ (hr 28 p).toInt) (h16 : (hr 28 p).toInt ≤ 15) (h14 : hr 28 p ≠ 14) : f_h_step hc = f_h_control (hr 28 p) (hr 27 32) (xput hc 19 5 (hr 27 32 + (1 + f_m_immediates (hr 28 p)))) ∧ f_m_step hr = f_m_goes (hr 28 p) (if f_m_immediates (hr 28 p) ≤ 0 then 0 else hr 28 (p + 1)) (xput hr 27 31 0) := by
  have e16 : (16 : Int32).toInt = 16 := rfl
  have n65 : hr 28 p ≠ 65 := fun e => by rw [e] at h16; exact absurd h16 (by decide)
  have k := X.2.2.2.2.2.2.2.2.2.2.2.2.2.2.2.2.1.1
  have wf : ∀ w : Int32, f_o_shapeOf w ≠ -1 → 2 ≤ w.toInt ∧ w.toInt ≤ 15 → w ≠ 0 ∧ (w.toInt < 109 ∨ 112 < w.toInt) ∧ f_m_isLoad w = 0 ∧ f_m_isStore w = 0 ∧ w ≠ 32 ∧ w ≠ 35 ∧ w ≠ 63 ∧ w ≠ 65 ∧ w ≠ 16 := by
    intro w hw
    exact xop_known (P := fun w => 2 ≤ w.toInt ∧ w.toInt ≤ 15 → w ≠ 0 ∧ (w.toInt < 109 ∨ 112 < w.toInt) ∧ f_m_isLoad w = 0 ∧ f_m_isStore w = 0 ∧ w ≠ 32 ∧ w ≠ 35 ∧ w ≠ 63 ∧ w ≠ 65 ∧ w ≠ 16) (by decide +kernel) w hw
  obtain ⟨w1, w2, w3, w4, w5, w6, w7, w8, w9⟩ := wf _ k ⟨h2, h16⟩
  have cs := xcstep B X h14 n65
  rw [if_neg (by rw [xi_lt]; omega)] at cs
  have ms := xmgo X (xt0 X _ w1 w2 w3 w4 w5 w6 w7 w8 w9)
  rw [xm54g ⟨h2, by omega⟩] at ms
  exact ⟨cs, ms⟩
theorem xi_add0 (a : Int32) : a + (1 + 0) = a + 1 := rfl
/-- block, loop -/
theorem xs_block {A : Nat → Nat → Int → Prop} {hc hr : xI} {c f p : Nat} {v : Int} (B : xBef A hc hr) (X : xCtxt A hc hr c f p v) (hw : hr 28 p = 2 ∨ hr 28 p = 3) : xStepOK A hc hr := by
  obtain ⟨cs, ms⟩ := xctl B X (by rcases hw with e | e <;> rw [e] <;> decide) (by rcases hw with e | e <;> rw [e] <;> decide) (by rcases hw with e | e <;> rw [e] <;> decide)
  have M := xMid.start1 B X (hr 27 32 + 2)
  obtain ⟨x1, x2, x3, x4, x5, x6, x7, x8, x9, x10, x11, x12, x13, x14, x15, x16, C⟩ := X
  have im : f_m_immediates (hr 28 p) = 1 := by rcases hw with e | e <;> rw [e] <;> decide
  have g := C.2.1 hw
  have e12 : (1 : Int32) + 1 = 2 := rfl
  rw [im, e12] at cs
  have q32 : xput hr 27 31 0 27 32 = hr 27 32 := by simp [xput_at]
  have gP : ∀ {α : Type} (x : Option α), xgd (hr 27 32) 240 x = x := fun x => xgd_ok (by omega) (by omega)
  obtain ⟨i1, i2⟩ := xi_cl2 x6 (by omega)
  apply xEnd.ok
  rw [cs, ms]
  refine ⟨0, xput hc 19 5 (hr 27 32 + 2), _, xput (xput hr 27 31 0) 27 32 (hr 27 32 + 2), ?_, xheed0 _, ?_, ?_⟩
  · rcases hw with e | e <;> rw [e] <;> rfl
  · unfold f_m_goes
    rw [q32, gP]
    rcases hw with e | e <;> rw [e] <;> rfl
  · refine M.here (hr 27 32 + 2) (by simp [xput_at]) (q := p + 2) i1 ?_
    simp only [xput_at, Nat.reduceEqDiff, reduceIte]
    rw [← x11]
    exact g
/-- if -/
theorem xs_if {A : Nat → Nat → Int → Prop} {hc hr : xI} {c f p : Nat} {v : Int} (B : xBef A hc hr) (X : xCtxt A hc hr c f p v) (hw : hr 28 p = 4) : xStepOK A hc hr := by
  obtain ⟨cs, ms⟩ := xctl B X (by rw [hw]; decide) (by rw [hw]; decide) (by rw [hw]; decide)
  have M := xMid.start1 B X (hr 27 32 + 2)
  obtain ⟨x1, x2, x3, x4, x5, x6, x7, x8, x9, x10, x11, x12, x13, x14, x15, x16, C⟩ := X
  obtain ⟨g1, g2, y, g3, g4, g5, g6, g7⟩ := C.2.2.1 hw
  obtain ⟨b', l1, l2, l3⟩ := g7
  have eb : b' = p := by omega
  subst eb
  have im : f_m_immediates (hr 28 b') = 1 := by rw [hw]; decide
  have e12 : (1 : Int32) + 1 = 2 := rfl
  rw [im, e12, hw] at cs
  rw [im, hw, if_neg (by decide)] at ms
  have e1 : (1 : Int32).toInt = 1 := rfl
  have q32 : xput hr 27 31 0 27 32 = hr 27 32 := by simp [xput_at]
  have q33 : xput hr 27 31 0 27 33 = hr 27 33 := by simp [xput_at]
  have o : ∀ k, k ≠ 27 → xput hr 27 31 0 k = hr k := fun k h => xput_off h
  have s1 : (hr 27 33 - 1).toInt = (hr 27 33).toInt - 1 := xi_sub (by omega) (by omega)
  have gP : ∀ {α : Type} (x : Option α), xgd (hr 27 32) 240 x = x := fun x => xgd_ok (by omega) (by omega)
  have gS : ∀ {α : Type} (x : Option α), xgd (hr 27 33 - 1) 101 x = x := fun x => xgd_ok (by omega) (by omega)
  have gy : ∀ {α : Type} (x : Option α), xgd (hr 42 b') 250 x = x := fun x => xgd_ok (by omega) (by omega)
  obtain ⟨i1, i2⟩ := xi_cl2 x6 (by omega)
  obtain ⟨p1, M2⟩ := M.pop (by rw [q33, o 49 (by omega)]; omega)
  rw [q33, o 46 (by omega)] at p1
  rw [q33] at M2
  unfold f_h_control at cs
  rw [if_neg (by decide), if_pos rfl, p1, Option.bind_some] at cs
  unfold f_m_goes at ms
  simp only [q32, q33, gP, if_true, gS, o 46 (by omega), o 42 (by omega), xi_cl x6, gy, xi_cl g3, o 38 (by omega), o 39 (by omega)] at ms
  have sb : (xput (xput hr 27 31 0) 27 33 (hr 27 33 - 1) 27 33).toInt - (xput (xput hr 27 31 0) 27 33 (hr 27 33 - 1) 49 c).toInt = v - 1 := by
    simp only [xput_at, Nat.reduceEqDiff, reduceIte]
    omega
  have t8 : xput (xput hc 19 5 (hr 27 32 + 2)) 19 4 (hr 27 33 - 1) 8 = hc 8 := by rw [xput_off (by omega), xput_off (by omega)]
  have t7 : xput (xput hc 19 5 (hr 27 32 + 2)) 19 4 (hr 27 33 - 1) 7 = hc 7 := by rw [xput_off (by omega), xput_off (by omega)]
  by_cases z : hr 46 (hr 27 33 - 1).toNatClampNeg = 0
  · rw [if_pos z] at ms
    simp only [if_pos z, xbp] at cs
    unfold f_h_passOver f_h_passOver_31 at cs
    rw [gP, gP, t8, t7, xi_cl x6, l2] at cs
    unfold f_m_goes_73 at ms
    rcases l3 with ⟨m, l3, l4⟩ | ⟨l3, e, l4, l5, l6⟩
    · have em : (-1 : Int32).toInt = -1 := rfl
      have e0 : (0 : Int32).toInt = 0 := rfl
      have mB := (B.2.1.2 f (m + 1) _ l4).2.2.1
      obtain ⟨k1, k2⟩ := xi_cl1 l3 (by omega)
      rw [if_neg (by rw [xi_eq]; omega)] at cs
      rw [if_neg (by rw [xi_lt]; omega)] at ms
      refine ⟨_, _, by rw [cs, Option.bind_some]; exact xheed0 _, ms, ?_⟩
      exact M2.at (hr 38 y + 1) (q := m + 1) k1 (by rw [sb]; exact l4)
    · rw [if_pos l3, l5] at cs
      rw [l3, if_pos (by decide)] at ms
      refine ⟨_, _, by rw [cs, Option.bind_some]; exact xheed0 _, ms, ?_⟩
      exact M2.at (hr 39 y) (q := e) l4 (by rw [sb]; exact l6)
  · rw [if_neg z] at ms
    simp only [if_neg z] at cs
    unfold f_m_goes_73 at ms
    refine ⟨_, _, by rw [cs, Option.bind_some]; exact xheed0 _, ms, ?_⟩
    refine M2.here (hr 27 32 + 2) (by simp [xput_at]) (q := b' + 2) i1 ?_
    rw [sb]
    exact g2
/-- else -/
theorem xs_else {A : Nat → Nat → Int → Prop} {hc hr : xI} {c f p : Nat} {v : Int} (B : xBef A hc hr) (X : xCtxt A hc hr c f p v) (hw : hr 28 p = 5) : xStepOK A hc hr := by
  obtain ⟨cs, ms⟩ := xctl B X (by rw [hw]; decide) (by rw [hw]; decide) (by rw [hw]; decide)
  have M := xMid.start1 B X (hr 27 32 + (1 + f_m_immediates (hr 28 p)))
  obtain ⟨x1, x2, x3, x4, x5, x6, x7, x8, x9, x10, x11, x12, x13, x14, x15, x16, C⟩ := X
  obtain ⟨x, g1, g2, g3, m, e, g4, g5, g6, g7⟩ := C.2.2.2.1 hw
  have em : m = p := by omega
  subst em
  have q32 : xput hr 27 31 0 27 32 = hr 27 32 := by simp [xput_at]
  have o : ∀ k, k ≠ 27 → xput hr 27 31 0 k = hr k := fun k h => xput_off h
  have gP : ∀ {α : Type} (x : Option α), xgd (hr 27 32) 240 x = x := fun x => xgd_ok (by omega) (by omega)
  have gx : ∀ {α : Type} (x : Option α), xgd (hr 41 m) 250 x = x := fun x => xgd_ok (by omega) (by omega)
  have t7 : xput hc 19 5 (hr 27 32 + (1 + f_m_immediates (hr 28 m))) 7 = hc 7 := xput_off (by omega)
  rw [hw] at ms
  have cs' : f_h_step hc = some (0, xput (xput hc 19 5 (hr 27 32 + (1 + f_m_immediates (hr 28 m)))) 19 5 (hr 39 x)) := by
    rw [cs]
    unfold f_h_control
    rw [hw, if_neg (by decide), if_neg (by decide), if_pos rfl, gP, ← hw, t7, xi_cl x6, g6]
  unfold f_m_goes at ms
  rw [if_neg (by decide), if_pos rfl, q32, gP, gP, o 41 (by omega), xi_cl x6, gx, xi_cl g1, o 39 (by omega)] at ms
  refine ⟨_, _, by rw [cs', Option.bind_some]; exact xheed0 _, ms, ?_⟩
  refine M.at (hr 39 x) (q := e) g5 ?_
  simp only [xput_at, Nat.reduceEqDiff, reduceIte]
  rw [← x11]
  exact g7
/-- end -/
theorem xs_end {A : Nat → Nat → Int → Prop} {hc hr : xI} {c f p : Nat} {v : Int} (B : xBef A hc hr) (X : xCtxt A hc hr c f p v) (hw : hr 28 p = 11) : xStepOK A hc hr := by
  obtain ⟨cs, ms⟩ := xctl B X (by rw [hw]; decide) (by rw [hw]; decide) (by rw [hw]; decide)
  have M := xMid.start1 B X (hr 27 32 + 1)
  obtain ⟨x1, x2, x3, x4, x5, x6, x7, x8, x9, x10, x11, x12, x13, x14, x15, x16, C⟩ := X
  obtain ⟨x, g1, g2, g3⟩ := C.2.2.2.2.1 hw
  have im : f_m_immediates (hr 28 p) = 0 := by rw [hw]; decide
  rw [im, xi_add0, hw] at cs
  rw [hw] at ms
  have R := B.1
  have N := B.2.2.2.1
  have e1 : (1 : Int32).toInt = 1 := rfl
  have q32 : xput hr 27 31 0 27 32 = hr 27 32 := by simp [xput_at]
  have o : ∀ k, k ≠ 27 → xput hr 27 31 0 k = hr k := fun k h => xput_off h
  have gP : ∀ {α : Type} (x : Option α), xgd (hr 27 32) 240 x = x := fun x => xgd_ok (by omega) (by omega)
  have gx : ∀ {α : Type} (x : Option α), xgd (hr 41 p) 250 x = x := fun x => xgd_ok (by omega) (by omega)
  have cm : (hr 27 35 - 1).toInt = c := by rw [xi_sub (by omega) (by omega), x1]; omega
  have cn : (hr 27 35 - 1).toNatClampNeg = c := xi_cl cm
  have g6 : ∀ {α : Type} (x : Option α), xgd (hr 27 35 - 1) 6 x = x := fun x => xgd_ok (by omega) (by omega)
  have gf : ∀ {α : Type} (x : Option α), xgd (hr 47 c) 6 x = x := fun x => xgd_ok (by omega) (by omega)
  obtain ⟨i1, i2⟩ := xi_cl1 x6 (by omega)
  unfold f_m_goes at ms
  rw [if_neg (by decide), if_neg (by decide), if_pos rfl, q32, gP, gP, o 41 (by omega), xi_cl x6, gx, xi_cl g1, o 33 (by omega), xbs] at ms
  have cs' : f_h_step hc = if hr 27 32 + 1 = hr 29 (f + 1) then f_h_leave (xput hc 19 5 (hr 27 32 + 1)) else some (0, xput hc 19 5 (hr 27 32 + 1)) := by
    rw [cs]
    unfold f_h_control
    have d7 : xput hc 19 5 (hr 27 32 + 1) 19 7 = hr 27 35 := by simp only [xput_at, Nat.reduceEqDiff, reduceIte]; exact N.calls
    have d5 : xput hc 19 5 (hr 27 32 + 1) 19 5 = hr 27 32 + 1 := by simp only [xput_at, Nat.reduceEqDiff, reduceIte]
    have d22 : xput hc 19 5 (hr 27 32 + 1) 22 = hc 22 := xput_off (by omega)
    have d3 : xput hc 19 5 (hr 27 32 + 1) 3 = hc 3 := xput_off (by omega)
    rw [if_neg (by decide), if_neg (by decide), if_neg (by decide), if_pos rfl, d7, g6, d22, cn, (N.callee c (by omega)).1, gf, d5, d3, xi_cl x3, R.ends, xbp]
  apply xEnd.ok
  rw [cs', ms]
  rcases g3 with ⟨k1, k2, k3⟩ | ⟨k1, k2⟩
  · rw [if_pos (by rw [xi_eq]; omega), if_pos k1]
    refine xleave M ?_
    simp only [xput_at, Nat.reduceEqDiff, reduceIte]
    omega
  · have pB := (B.2.1.2 f (p + 1) _ k2).2.2.1
    rw [if_neg (by rw [xi_eq]; omega), if_neg k1]
    refine ⟨_, _, _, _, rfl, xheed0 _, rfl, ?_⟩
    refine M.here (hr 27 32 + 1) (by simp [xput_at]) (q := p + 1) i1 ?_
    simp only [xput_at, Nat.reduceEqDiff, reduceIte]
    rw [← x11]
    exact k2
/-- return -/
theorem xs_ret {A : Nat → Nat → Int → Prop} {hc hr : xI} {c f p : Nat} {v : Int} (B : xBef A hc hr) (X : xCtxt A hc hr c f p v) (hw : hr 28 p = 15) : xStepOK A hc hr := by
  obtain ⟨cs, ms⟩ := xctl B X (by rw [hw]; decide) (by rw [hw]; decide) (by rw [hw]; decide)
  have M := xMid.start1 B X (hr 27 32 + (1 + f_m_immediates (hr 28 p)))
  obtain ⟨x1, x2, x3, x4, x5, x6, x7, x8, x9, x10, x11, x12, x13, x14, x15, x16, C⟩ := X
  have g := C.2.2.2.2.2.2.2.2.1 hw
  have q32 : xput hr 27 31 0 27 32 = hr 27 32 := by simp [xput_at]
  have gP : ∀ {α : Type} (x : Option α), xgd (hr 27 32) 240 x = x := fun x => xgd_ok (by omega) (by omega)
  have a : f_h_control (hr 28 p) (hr 27 32) (xput hc 19 5 (hr 27 32 + (1 + f_m_immediates (hr 28 p)))) = f_h_leave (xput hc 19 5 (hr 27 32 + (1 + f_m_immediates (hr 28 p)))) := by
    unfold f_h_control
    rw [hw, if_neg (by decide), if_neg (by decide), if_neg (by decide), if_neg (by decide), if_neg (by decide), if_neg (by decide), if_neg (by decide), if_pos rfl, xbp]
  have b : ∀ i, f_m_goes (hr 28 p) i (xput hr 27 31 0) = f_m_comeBack (xput hr 27 31 0) := by
    intro i
    unfold f_m_goes
    rw [hw, q32, gP, if_neg (by decide), if_neg (by decide), if_neg (by decide), if_neg (by decide), if_neg (by decide), if_neg (by decide), if_pos rfl, xbs]
  apply xEnd.ok
  rw [cs, ms, a, b]
  refine xleave M ?_
  simp only [xput_at, Nat.reduceEqDiff, reduceIte]
  omega
