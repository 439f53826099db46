/-! Loads and stores. -/
theorem xwfL {w : Int32} (hk : f_o_shapeOf w ≠ -1) (h : f_m_isLoad w ≠ 0) : f_m_eats w = 1 ∧ f_m_yields w = 1 ∧ f_m_isStore w = 0 ∧ f_m_immediates w = 1 ∧ f_o_shapeOf w = 7 ∧ 36 < w.toInt ∧ w.toInt ≤ 64 ∧ (w ≠ 14 ∧ w ≠ 65 ∧ w ≠ 0 ∧ w ≠ 54 ∧ w ≠ 58 ∧ w ≠ 59 ∧ w ≠ 63 ∧ w ≠ 64 ∧ w ≠ 26 ∧ w ≠ 33 ∧ w ≠ 34 ∧ w ≠ 36 ∧ w ≠ 69) ∧ 1 ≤ (f_m_bytesOf w).toInt ∧ (f_m_bytesOf w).toInt ≤ 4 := by
  revert h
  exact xop_known (P := fun w => f_m_isLoad w ≠ 0 → f_m_eats w = 1 ∧ f_m_yields w = 1 ∧ f_m_isStore w = 0 ∧ f_m_immediates w = 1 ∧ f_o_shapeOf w = 7 ∧ 36 < w.toInt ∧ w.toInt ≤ 64 ∧ (w ≠ 14 ∧ w ≠ 65 ∧ w ≠ 0 ∧ w ≠ 54 ∧ w ≠ 58 ∧ w ≠ 59 ∧ w ≠ 63 ∧ w ≠ 64 ∧ w ≠ 26 ∧ w ≠ 33 ∧ w ≠ 34 ∧ w ≠ 36 ∧ w ≠ 69) ∧ 1 ≤ (f_m_bytesOf w).toInt ∧ (f_m_bytesOf w).toInt ≤ 4) (by decide +kernel) w hk
theorem xwfS {w : Int32} (hk : f_o_shapeOf w ≠ -1) (h : f_m_isStore w ≠ 0) : f_m_eats w = 2 ∧ f_m_yields w = 0 ∧ f_m_isLoad w = 0 ∧ f_m_immediates w = 1 ∧ f_o_shapeOf w = 7 ∧ 36 < w.toInt ∧ w.toInt ≤ 64 ∧ (w ≠ 14 ∧ w ≠ 65 ∧ w ≠ 0 ∧ (w = 54 ∨ w = 58 ∨ w = 59)) ∧ 1 ≤ (f_m_bytesOf w).toInt ∧ (f_m_bytesOf w).toInt ≤ 4 := by
  revert h
  exact xop_known (P := fun w => f_m_isStore w ≠ 0 → f_m_eats w = 2 ∧ f_m_yields w = 0 ∧ f_m_isLoad w = 0 ∧ f_m_immediates w = 1 ∧ f_o_shapeOf w = 7 ∧ 36 < w.toInt ∧ w.toInt ≤ 64 ∧ (w ≠ 14 ∧ w ≠ 65 ∧ w ≠ 0 ∧ (w = 54 ∨ w = 58 ∨ w = 59)) ∧ 1 ≤ (f_m_bytesOf w).toInt ∧ (f_m_bytesOf w).toInt ≤ 4) (by decide +kernel) w hk
theorem xs_load {A : Nat → Nat → Int → Prop} {hc hr : xI} {c f p : Nat} {v : Int} (B : xBef A hc hr) (X : xCtxt A hc hr c f p v) (hw : f_m_isLoad (hr 28 p) ≠ 0) : xStepOK A hc hr := by
  have hs := B.2.2.1
  have R := B.1
  have N := B.2.2.2.1
  have X' := X
  obtain ⟨x1, x2, x3, x4, x5, x6, x7, x8, x9, x10, x11, x12, x13, x14, x15, x16, C⟩ := X'
  obtain ⟨ee, yy, st0, im, sh, r1, r2, ⟨n14, n65, n0, n54, n58, n59, n63, n64, n26, n33, n34, n36, n69⟩, b1, b4⟩ := xwfL C.1.1 hw
  have ea := (C.2.2.2.2.2.2.2.2.2.2 (.inr (by omega))).1
  have e0 : (0 : Int32).toInt = 0 := rfl
  have e1 : (1 : Int32).toInt = 1 := rfl
  have e2 : (2 : Int32).toInt = 2 := rfl
  have e64 : (64 : Int32).toInt = 64 := rfl
  have e36 : (36 : Int32).toInt = 36 := rfl
  have e16 : (16 : Int32).toInt = 16 := rfl
  have e109 : (109 : Int32).toInt = 109 := rfl
  rw [ee] at ea
  have s1 : (hr 27 33 - 1).toInt = (hr 27 33).toInt - 1 := xi_sub (by omega) (by omega)
  have s2 : (hr 27 33 - 2).toInt = (hr 27 33).toInt - 2 := xi_sub (by omega) (by omega)
  have q33 : xput hr 27 31 0 27 33 = hr 27 33 := by simp [xput_at]
  have q32 : xput hr 27 31 0 27 32 = hr 27 32 := by simp [xput_at]
  have ip := xwd_imm C.1 (by rw [im]; decide)
  have wl := C.1.2.2.2.2.2.2.2 sh
  obtain ⟨j1, j2⟩ := xi_cl1 x6 (by omega)
  have gi : ∀ {α : Type} (x : Option α), xgd (hr 27 32 + 1) 240 x = x := fun x => xgd_ok (by omega) (by omega)
  have g1 : ∀ {α : Type} (x : Option α), xgd (hr 27 33 - 1) 101 x = x := fun x => xgd_ok (by omega) (by omega)
  have k1 : ∀ {α : Type} (x : Option α), xgd (hr 27 33 - 1) 100 x = x := fun x => xgd_ok (by omega) (by omega)
  have t1 := N.stack (hr 27 33 - 1).toNatClampNeg (by rw [xi_nat]; omega)
  have cs := xcstep B X n14 n65
  rw [if_pos (by rw [xi_lt]; omega), if_pos (by rw [xi_lt]; omega), if_neg (by rw [xi_lt]; omega)] at cs
  have w2 : xput hc 19 5 (hr 27 32 + (1 + f_m_immediates (hr 28 p))) 2 (hr 27 32 + 1).toNatClampNeg = hr 28 (p + 1) := by
    simp only [xput_at, Nat.reduceEqDiff, reduceIte]
    rw [j2, R.words]
  have d4 : xput hc 19 5 (hr 27 32 + (1 + f_m_immediates (hr 28 p))) 19 4 = hr 27 33 := by simp only [xput_at, Nat.reduceEqDiff, reduceIte]; exact N.depth
  have R1 : RB (xput hc 19 5 (hr 27 32 + (1 + f_m_immediates (hr 28 p)))) (xput hr 27 31 0) := R.going hs (fun k a b => xput_off a) (fun k a b => xput_off a) (by intro j a b c d; simp [xput_at, a])
  have h1 : ∀ k, k ≠ 19 → ¬ (21 ≤ k ∧ k ≤ 25) → (xput hc 19 5 (hr 27 32 + (1 + f_m_immediates (hr 28 p)))) k = hc k := fun k a b => xput_off a
  have r28 : xput hr 27 31 0 28 = hr 28 := xput_off (by omega)
  have by1 := xbytes sh
  have lt109 : hr 28 p < 109 := by rw [xi_lt]; omega
  obtain ⟨b, a, tb, vb, va⟩ := xtrapOf x13 x14 (hr 28 p)
  have vb := vb (by omega)
  subst vb
  have d21 : xput hc 19 5 (hr 27 32 + (1 + f_m_immediates (hr 28 p))) 21 (hr 27 33 - 1).toNatClampNeg = hr 46 (hr 27 33 - 1).toNatClampNeg := by simp only [xput_at, Nat.reduceEqDiff, reduceIte]; exact t1
  have tp : f_m_trapOf (hr 28 p) hr = (f_m_place (hr 46 (hr 27 33 - 1).toNatClampNeg) (hr 28 p) hr).bind fun q1 => if 0 ≤ q1 then some 0 else some 4 := by
    rw [tb]
    unfold f_m_trapOf_46 f_m_trapOf_96 f_m_trapOf_110 f_m_trapOf_123
    rw [if_neg n0, if_pos lt109, if_neg hw, if_neg hw]
  obtain ⟨u0, uf, un, ub⟩ := xplace R x6 (by omega) (hr 28 p) (hr 46 (hr 27 33 - 1).toNatClampNeg) wl _ rfl b1 b4
  obtain ⟨-, uf', -, -⟩ := xplace R1 (p := p) (by rw [q32]; exact x6) (by omega) (hr 28 p) (hr 46 (hr 27 33 - 1).toNatClampNeg) (by rw [r28]; exact wl) _ rfl b1 b4
  have hh := xholds R1 (f_i_toUnsignedLong (hr 46 (hr 27 33 - 1).toNatClampNeg) + (hr 28 (p + 1)).toInt64) (f_m_bytesOf (hr 28 p)) ub (by omega)
  have q27 : xput hr 27 31 0 27 27 = hr 27 27 := by simp [xput_at]
  rw [q27] at hh uf'
  rw [r28] at uf'
  have us : f_h_useMemory (hr 28 p) (hr 27 32) (xput hc 19 5 (hr 27 32 + (1 + f_m_immediates (hr 28 p)))) = f_h_load (hr 28 p) (hr 28 (p + 1)) (xput hc 19 5 (hr 27 32 + (1 + f_m_immediates (hr 28 p)))) := by
    unfold f_h_useMemory
    rw [if_neg (fun h => h.elim n54 (fun h => h.elim n58 n59)), if_neg n63, if_neg n64, gi, w2, xbp]
  rw [us] at cs
  unfold f_h_load at cs
  rw [d4, k1, d21, by1] at cs
  by_cases fit : (f_i_toUnsignedLong (hr 46 (hr 27 33 - 1).toNatClampNeg) + (hr 28 (p + 1)).toInt64).toInt + (f_m_bytesOf (hr 28 p)).toInt ≤ 64 * (hr 27 27).toInt
  · rw [if_pos ⟨u0, fit⟩] at hh
    obtain ⟨f1, f2⟩ := uf fit
    obtain ⟨f1', -⟩ := uf' fit
    have pb := R.pagesB
    rw [f1, Option.bind_some, if_pos (by rw [xi_le]; omega)] at tp
    have ms := xmgo X tp
    rw [xm54p (by omega), xplainT (by rw [q33]; omega) (by rw [q33]; omega)] at ms
    have bm : (f_m_bytesOf (hr 28 p) - 1).toInt = (f_m_bytesOf (hr 28 p)).toInt - 1 := xi_sub (by omega) (by omega)
    obtain ⟨r, rd, ld⟩ := xread R1.mem (hr 28 p) (f_i_toUnsignedLong (hr 46 (hr 27 33 - 1).toNatClampNeg) + (hr 28 (p + 1)).toInt64).toInt32 (by omega) 1000 0 (f_m_bytesOf (hr 28 p) - 1) (by omega) (by omega) (by omega)
    have cs' : f_h_step hc = some (0, xput (xput hc 19 5 (hr 27 32 + (1 + f_m_immediates (hr 28 p)))) 21 (hr 27 33 - 1).toNatClampNeg (xext (hr 28 p) r)) := by
      rw [cs, hh, if_neg (by decide)]
      unfold f_y_read
      rw [rd, Option.bind_some]
      unfold f_h_load_77 xext
      rw [d4, k1, k1, k1]
      by_cases c1 : hr 28 p = 44
      · rw [if_pos c1, if_pos c1]
      · rw [if_neg c1, if_neg c1]
        by_cases c2 : hr 28 p = 46
        · rw [if_pos c2, if_pos c2]
        · rw [if_neg c2, if_neg c2]
    have ml : f_m_load (hr 28 p) (f_i_toUnsignedLong (hr 46 (hr 27 33 - 1).toNatClampNeg) + (hr 28 (p + 1)).toInt64).toInt32 (xput hr 27 31 0) = some (xext (hr 28 p) r) := ld
    have q46 : xput hr 27 31 0 46 = hr 46 := xput_off (by omega)
    rw [ee, q33, q46] at ms
    unfold f_m_plain_27 at ms
    rw [if_pos st0, if_neg (by decide), if_neg (by decide), if_pos rfl] at ms
    unfold f_m_one at ms
    rw [q33, g1, if_neg n26, if_neg n33, if_neg n36, q46] at ms
    unfold f_m_one_51 at ms
    rw [if_neg n33, if_neg n34, if_neg n36, if_neg n26, if_neg n64, if_neg n69, if_neg hw, f1', Option.bind_some, ml, Option.bind_some, q33] at ms
    unfold f_m_one_166 at ms
    rw [g1, Option.bind_some] at ms
    unfold f_m_plain_226 at ms
    rw [im] at ms cs'
    clear cs
    have cs := cs'
    refine ⟨_, _, by rw [cs, Option.bind_some]; exact xheed0 _, ms, ?_⟩
    refine xgoesP B X (.inr (by omega)) (R.going hs (by intro k a b; simp only [xput_off a, xput_off (show k ≠ 21 from by omega), xput_off (show k ≠ 25 from by omega)]) (by intro k a b; simp only [xput_off a, xput_off (show k ≠ 46 from by omega), xput_off (show k ≠ 50 from by omega)]) (by intro j a b c d; simp [xput_at, a, b, c, d])) ?_ ?_ ?_ ?_ ?_ ?_ ?_ ?_ ?_ ?_ ?_ ?_ ?_
    · intro k a1 a2 a3 a4 a5 a6; simp only [xput_off a1, xput_off a2, xput_off a3, xput_off a4, xput_off a5, xput_off a6]
    · intro k a1 a2 a3 a4 a5; simp only [xput_off a1, xput_off a2, xput_off a3, xput_off a4, xput_off a5]
    · simp [xput_at, hs]
    · simp [xput_at]
    · simp [xput_at]
    · simp [xput_at]
    · simp [xput_at, N.depth]
    · simp [xput_at]
    · simp [xput_at, im]
    · intro j hj
      simp only [xput_at, Nat.reduceEqDiff, reduceIte] at hj ⊢
      by_cases e : j = (hr 27 33 - 1).toNatClampNeg
      · rw [if_pos e, if_pos e]
      · rw [if_neg e, if_neg e]
        exact N.stack j (by omega)
    · intro a b h1 h2
      simp only [xput_at, Nat.reduceEqDiff, reduceIte]
      exact N.locl a b h1 h2
    · simp only [xput_at, Nat.reduceEqDiff, reduceIte, ee, yy]
      omega
    · simp only [xput_at, Nat.reduceEqDiff, reduceIte]
      omega
  · rw [if_neg (fun h => fit h.2)] at hh
    rw [un fit, Option.bind_some, if_neg (by decide)] at tp
    have ms := xmtrap x6 x7 tp (by decide)
    rw [hh, if_pos rfl] at cs
    obtain ⟨t1, t2⟩ := xtrap B h1 4 (by decide) (by decide)
    exact ⟨_, _, by rw [cs, Option.bind_some]; exact t1, ms, t2⟩
theorem xs_store {A : Nat → Nat → Int → Prop} {hc hr : xI} {c f p : Nat} {v : Int} (B : xBef A hc hr) (X : xCtxt A hc hr c f p v) (hw : f_m_isStore (hr 28 p) ≠ 0) : xStepOK A hc hr := by
  have hs := B.2.2.1
  have R := B.1
  have N := B.2.2.2.1
  have X' := X
  obtain ⟨x1, x2, x3, x4, x5, x6, x7, x8, x9, x10, x11, x12, x13, x14, x15, x16, C⟩ := X'
  obtain ⟨ee, yy, ld0, im, sh, r1, r2, ⟨n14, n65, n0, n54⟩, b1, b4⟩ := xwfS C.1.1 hw
  have ea := (C.2.2.2.2.2.2.2.2.2.2 (.inr (by omega))).1
  have e0 : (0 : Int32).toInt = 0 := rfl
  have e1 : (1 : Int32).toInt = 1 := rfl
  have e2 : (2 : Int32).toInt = 2 := rfl
  have e64 : (64 : Int32).toInt = 64 := rfl
  have e36 : (36 : Int32).toInt = 36 := rfl
  have e16 : (16 : Int32).toInt = 16 := rfl
  have e109 : (109 : Int32).toInt = 109 := rfl
  rw [ee] at ea
  have s1 : (hr 27 33 - 1).toInt = (hr 27 33).toInt - 1 := xi_sub (by omega) (by omega)
  have s2 : (hr 27 33 - 2).toInt = (hr 27 33).toInt - 2 := xi_sub (by omega) (by omega)
  have q33 : xput hr 27 31 0 27 33 = hr 27 33 := by simp [xput_at]
  have q32 : xput hr 27 31 0 27 32 = hr 27 32 := by simp [xput_at]
  have ip := xwd_imm C.1 (by rw [im]; decide)
  have wl := C.1.2.2.2.2.2.2.2 sh
  obtain ⟨j1, j2⟩ := xi_cl1 x6 (by omega)
  have gi : ∀ {α : Type} (x : Option α), xgd (hr 27 32 + 1) 240 x = x := fun x => xgd_ok (by omega) (by omega)
  have g1 : ∀ {α : Type} (x : Option α), xgd (hr 27 33 - 1) 101 x = x := fun x => xgd_ok (by omega) (by omega)
  have k1 : ∀ {α : Type} (x : Option α), xgd (hr 27 33 - 1) 100 x = x := fun x => xgd_ok (by omega) (by omega)
  have t1 := N.stack (hr 27 33 - 1).toNatClampNeg (by rw [xi_nat]; omega)
  have cs := xcstep B X n14 n65
  rw [if_pos (by rw [xi_lt]; omega), if_pos (by rw [xi_lt]; omega), if_neg (by rw [xi_lt]; omega)] at cs
  have w2 : xput hc 19 5 (hr 27 32 + (1 + f_m_immediates (hr 28 p))) 2 (hr 27 32 + 1).toNatClampNeg = hr 28 (p + 1) := by
    simp only [xput_at, Nat.reduceEqDiff, reduceIte]
    rw [j2, R.words]
  have d4 : xput hc 19 5 (hr 27 32 + (1 + f_m_immediates (hr 28 p))) 19 4 = hr 27 33 := by simp only [xput_at, Nat.reduceEqDiff, reduceIte]; exact N.depth
  have R1 : RB (xput hc 19 5 (hr 27 32 + (1 + f_m_immediates (hr 28 p)))) (xput hr 27 31 0) := R.going hs (fun k a b => xput_off a) (fun k a b => xput_off a) (by intro j a b c d; simp [xput_at, a])
  have h1 : ∀ k, k ≠ 19 → ¬ (21 ≤ k ∧ k ≤ 25) → (xput hc 19 5 (hr 27 32 + (1 + f_m_immediates (hr 28 p)))) k = hc k := fun k a b => xput_off a
  have r28 : xput hr 27 31 0 28 = hr 28 := xput_off (by omega)
  have by1 := xbytes sh
  have lt109 : hr 28 p < 109 := by rw [xi_lt]; omega
  obtain ⟨b, a, tb, vb, va⟩ := xtrapOf x13 x14 (hr 28 p)
  have vb := vb (by omega)
  have va := va (by omega)
  subst vb va
  have g2 : ∀ {α : Type} (x : Option α), xgd (hr 27 33 - 2) 101 x = x := fun x => xgd_ok (by omega) (by omega)
  have k2 : ∀ {α : Type} (x : Option α), xgd (hr 27 33 - 2) 100 x = x := fun x => xgd_ok (by omega) (by omega)
  have t2 := N.stack (hr 27 33 - 2).toNatClampNeg (by rw [xi_nat]; omega)
  have d21 : xput hc 19 5 (hr 27 32 + (1 + f_m_immediates (hr 28 p))) 21 (hr 27 33 - 1).toNatClampNeg = hr 46 (hr 27 33 - 1).toNatClampNeg := by simp only [xput_at, Nat.reduceEqDiff, reduceIte]; exact t1
  have d22 : xput hc 19 5 (hr 27 32 + (1 + f_m_immediates (hr 28 p))) 21 (hr 27 33 - 2).toNatClampNeg = hr 46 (hr 27 33 - 2).toNatClampNeg := by simp only [xput_at, Nat.reduceEqDiff, reduceIte]; exact t2
  have tp : f_m_trapOf (hr 28 p) hr = (f_m_place (hr 46 (hr 27 33 - 2).toNatClampNeg) (hr 28 p) hr).bind fun q1 => if 0 ≤ q1 then some 0 else some 4 := by
    rw [tb]
    unfold f_m_trapOf_46 f_m_trapOf_96 f_m_trapOf_110 f_m_trapOf_123
    rw [if_neg n0, if_pos lt109, if_pos ld0, if_neg hw, if_pos ld0]
  obtain ⟨u0, uf, un, ub⟩ := xplace R x6 (by omega) (hr 28 p) (hr 46 (hr 27 33 - 2).toNatClampNeg) wl _ rfl b1 b4
  obtain ⟨-, uf', -, -⟩ := xplace R1 (p := p) (by rw [q32]; exact x6) (by omega) (hr 28 p) (hr 46 (hr 27 33 - 2).toNatClampNeg) (by rw [r28]; exact wl) _ rfl b1 b4
  have hh := xholds R1 (f_i_toUnsignedLong (hr 46 (hr 27 33 - 2).toNatClampNeg) + (hr 28 (p + 1)).toInt64) (f_m_bytesOf (hr 28 p)) ub (by omega)
  have q27 : xput hr 27 31 0 27 27 = hr 27 27 := by simp [xput_at]
  rw [q27] at hh uf'
  rw [r28] at uf'
  have us : f_h_useMemory (hr 28 p) (hr 27 32) (xput hc 19 5 (hr 27 32 + (1 + f_m_immediates (hr 28 p)))) = f_h_store (f_m_bytesOf (hr 28 p)) (hr 28 (p + 1)) (xput hc 19 5 (hr 27 32 + (1 + f_m_immediates (hr 28 p)))) := by
    unfold f_h_useMemory
    rw [if_pos n54, gi, w2, xbp, by1]
  rw [us] at cs
  unfold f_h_store at cs
  rw [d4, k2, d22] at cs
  by_cases fit : (f_i_toUnsignedLong (hr 46 (hr 27 33 - 2).toNatClampNeg) + (hr 28 (p + 1)).toInt64).toInt + (f_m_bytesOf (hr 28 p)).toInt ≤ 64 * (hr 27 27).toInt
  · rw [if_pos ⟨u0, fit⟩] at hh
    obtain ⟨f1, f2⟩ := uf fit
    obtain ⟨f1', -⟩ := uf' fit
    have pb := R.pagesB
    rw [f1, Option.bind_some, if_pos (by rw [xi_le]; omega)] at tp
    have ms := xmgo X tp
    rw [xm54p (by omega), xplainT (by rw [q33]; omega) (by rw [q33]; omega)] at ms
    obtain ⟨h', r', w1, w3, w4, w5, w6⟩ := xwrite (hr 28 p) (f_i_toUnsignedLong (hr 46 (hr 27 33 - 2).toNatClampNeg) + (hr 28 (p + 1)).toInt64).toInt32 (hr 46 (hr 27 33 - 1).toNatClampNeg) (f_m_bytesOf (hr 28 p)) (by omega) (by omega) (by omega) rfl 1000 0 (hr 46 (hr 27 33 - 1).toNatClampNeg) (xput hc 19 5 (hr 27 32 + (1 + f_m_immediates (hr 28 p)))) (xput hr 27 31 0) R1.mem (by omega) (by omega) (fun _ => (Int32.shiftRight_zero).symm)
    have z0 : Int32.ofNat 0 = 0 := rfl
    rw [z0] at w1 w3
    have h4 : h' 19 4 = hr 27 33 := by rw [w4 19 (by omega), d4]
    have cs' : f_h_step hc = some (0, xput h' 19 4 (hr 27 33 - 2)) := by
      rw [cs, hh, if_neg (by decide), k1, d21]
      unfold f_y_write
      rw [w1, Option.bind_some, h4]
    have q46 : xput hr 27 31 0 46 = hr 46 := xput_off (by omega)
    rw [ee, q33, q46] at ms
    unfold f_m_plain_27 at ms
    rw [if_neg hw] at ms
    unfold f_m_store at ms
    rw [q33, g2, q46, f1', Option.bind_some, w3, Option.bind_some, q33] at ms
    unfold f_m_plain_226 at ms
    rw [im] at ms
    clear cs
    have cs := cs'
    have r32 : xput r' 27 33 (hr 27 33 - 2) 27 32 = hr 27 32 := by
      simp only [xput_at, Nat.reduceEqDiff, reduceIte]
      rw [w5 27 (by omega), q32]
    rw [r32] at ms
    have r27 : ∀ j, r' 27 j = if j = 31 then 0 else hr 27 j := by
      intro j
      rw [w5 27 (by omega), xput_at, if_pos rfl]
    have c5 : h' 19 5 = hr 27 32 + (1 + 1) := by
      rw [w4 19 (by omega), im]
      simp [xput_at]
    have c7 : h' 19 7 = hc 19 7 := by
      rw [w4 19 (by omega)]
      simp [xput_at]
    refine ⟨_, _, by rw [cs, Option.bind_some]; exact xheed0 _, ms, ?_⟩
    refine xgoesP B X (.inr (by omega)) (R.goingM hs (by intro k a b c1 c2 c3; simp only [xput_off a, w4 k c2]) (by intro k a b c1 c2; simp only [xput_off a, w5 k c1]) (by intro j a b c d e; simp [xput_at, a, b, c, d, e, r27]) (by intro j; simp only [xput_at, Nat.reduceEqDiff, reduceIte]; exact w6 j) (by simp only [xput_at, Nat.reduceEqDiff, reduceIte]; rw [w4 11 (by omega), r27 27, if_neg (by omega), xput_off (by omega)]; exact R.pages) (by simp only [xput_at, Nat.reduceEqDiff, reduceIte]; rw [r27 27, if_neg (by omega)]; exact R.pagesB) (by intro j; simp only [xput_at, Nat.reduceEqDiff, reduceIte]; rw [w4 20 (by omega), w5 44 (by omega), xput_off (by omega), xput_off (by omega)]; exact R.glob j)) ?_ ?_ ?_ ?_ ?_ ?_ ?_ ?_ ?_ ?_ ?_ ?_ ?_
    · intro k a1 a2 a3 a4 a5 a6
      show xput h' 19 4 (hr 27 33 - 2) k = hc k
      rw [xput_off a1, w4 k a5, xput_off a1]
    · intro k a1 a2 a3 a4 a5
      rw [xput_off a1, xput_off a1, w5 k a2, xput_off a1]
    · simp [xput_at, hs, r27]
    · simp [xput_at, r27]
    · simp [xput_at, c7]
    · simp [xput_at, r27]
    · simp [xput_at]
    · simp [xput_at, c5]
    · simp [xput_at, im]
    · intro j hj
      simp only [xput_at, Nat.reduceEqDiff, reduceIte] at hj ⊢
      rw [w4 21 (by omega), w5 46 (by omega), xput_off (by omega), xput_off (by omega)]
      exact N.stack j (by omega)
    · intro a b h1 h2
      simp only [xput_at, Nat.reduceEqDiff, reduceIte]
      rw [w4 25 (by omega), w5 50 (by omega), xput_off (by omega), xput_off (by omega)]
      exact N.locl a b h1 h2
    · simp only [xput_at, Nat.reduceEqDiff, reduceIte, ee, yy]
      omega
    · simp only [xput_at, Nat.reduceEqDiff, reduceIte]
      omega
  · rw [if_neg (fun h => fit h.2)] at hh
    rw [un fit, Option.bind_some, if_neg (by decide)] at tp
    have ms := xmtrap x6 x7 tp (by decide)
    rw [hh, if_pos rfl] at cs
    obtain ⟨t1, t2⟩ := xtrap B h1 4 (by decide) (by decide)
    exact ⟨_, _, by rw [cs, Option.bind_some]; exact t1, ms, t2⟩
