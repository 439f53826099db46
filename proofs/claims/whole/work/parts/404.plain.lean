/-! The plain words: going on. -/
def xStepOK (A : Nat → Nat → Int → Prop) (hc hr : xI) : Prop :=
  ∃ hc' hr', ((f_h_step hc).bind fun q => f_w_heed q.1 q.2) = some hc' ∧ f_m_step hr = some hr' ∧ xAft A hc' hr'
theorem xheed0 (h : xI) : f_w_heed 0 h = some h := by
  unfold f_w_heed
  rw [if_neg (by decide), if_pos rfl]
theorem xwd_imm {hr : xI} {f p : Nat} (W : xWd hr f p) (h : f_m_immediates (hr 28 p) ≠ 0) : (p : Int) + 2 ≤ (hr 29 (f + 1)).toInt := by
  refine W.2.1 (fun e => h ?_)
  rw [(xops (hr 28 p)).2, if_pos (.inl e)]
theorem ximm01 (w : Int32) : f_m_immediates w = 0 ∨ f_m_immediates w = 1 := by
  rw [(xops w).2]
  split
  · exact .inl rfl
  · exact .inr rfl
theorem xgoesP {A : Nat → Nat → Int → Prop} {hc hr hc' hr' : xI} {c f p : Nat} {v : Int} (B : xBef A hc hr) (X : xCtxt A hc hr c f p v) (hw : hr 28 p = 1 ∨ 17 ≤ (hr 28 p).toInt) (R' : RB hc' hr')
    (h1 : ∀ k, k ≠ 19 → k ≠ 21 → k ≠ 25 → k ≠ 11 → k ≠ 12 → k ≠ 20 → hc' k = hc k)
    (h2 : ∀ k, k ≠ 27 → k ≠ 43 → k ≠ 44 → k ≠ 46 → k ≠ 50 → hr' k = hr k)
    (m1 : hr' 27 1 = 2) (m4 : hr' 27 4 = hr 27 4) (c7 : hc' 19 7 = hc 19 7) (r35 : hr' 27 35 = hr 27 35) (sz : hc' 19 4 = hr' 27 33) (pc : hc' 19 5 = hr' 27 32)
    (pc' : hr' 27 32 = hr 27 32 + (1 + f_m_immediates (hr 28 p)))
    (st : ∀ j : Nat, (j : Int) < (hr' 27 33).toInt → hc' 21 j = hr' 46 j)
    (lo : ∀ c k : Nat, (c : Int) < (hr 27 35).toInt → k < 8 → hc' 25 (8 * c + k) = hr' 50 (8 * c + k))
    (s' : (hr' 27 33).toInt = (hr 27 33).toInt - (f_m_eats (hr 28 p)).toInt + (f_m_yields (hr 28 p)).toInt)
    (s100 : (hr' 27 33).toInt ≤ 100) : xAft A hc' hr' := by
  obtain ⟨x1, x2, x3, x4, x5, x6, x7, x8, x9, x10, x11, x12, x13, x14, x15, x16, C⟩ := X
  have cl := C.2.2.2.2.2.2.2.2.2.2 hw
  refine xgoes B R' ⟨fun k hk => h1 k (by omega) (by omega) (by omega) (by omega) (by omega) (by omega), fun k hk => h2 k (by omega) (by omega) (by omega) (by omega) (by omega), m4⟩ m1 c7 r35 sz pc (h1 22 (by omega) (by omega) (by omega) (by omega) (by omega) (by omega)) (h1 23 (by omega) (by omega) (by omega) (by omega) (by omega) (by omega)) (h1 24 (by omega) (by omega) (by omega) (by omega) (by omega) (by omega)) (h2 47 (by omega) (by omega) (by omega) (by omega) (by omega)) (h2 48 (by omega) (by omega) (by omega) (by omega) (by omega)) (h2 49 (by omega) (by omega) (by omega) (by omega) (by omega)) st lo s100 ?_
  intro c' f' e1 e2 e3
  have ec : c' = c := by omega
  subst ec
  have ef : f' = f := by omega
  subst ef
  refine ⟨p + 1 + (f_m_immediates (hr 28 p)).toInt.toNat, ?_, ?_⟩
  · rw [pc']
    rcases ximm01 (hr 28 p) with e | e
    · rw [e]
      have : ((1 : Int32) + 0).toInt = 1 := rfl
      have z : (0 : Int32).toInt = 0 := rfl
      rw [xi_add (by omega) (by omega)]
      omega
    · rw [e]
      have : ((1 : Int32) + 1).toInt = 2 := rfl
      have z : (1 : Int32).toInt = 1 := rfl
      rw [xi_add (by omega) (by omega)]
      omega
  · have a := cl.2
    have e : (hr' 27 33).toInt - (hr 49 c').toInt = v - (f_m_eats (hr 28 p)).toInt + (f_m_yields (hr 28 p)).toInt := by omega
    rw [e]
    exact a
/-- the class's step by the word's range -/
theorem xcstep {A : Nat → Nat → Int → Prop} {hc hr : xI} {c f p : Nat} {v : Int} (B : xBef A hc hr) (X : xCtxt A hc hr c f p v) (h14 : hr 28 p ≠ 14) (h65 : hr 28 p ≠ 65) :
    f_h_step hc = if 16 < hr 28 p then (if 36 < hr 28 p then (if 64 < hr 28 p then f_h_calculate (hr 28 p) (xput hc 19 5 (hr 27 32 + (1 + f_m_immediates (hr 28 p)))) else f_h_useMemory (hr 28 p) (hr 27 32) (xput hc 19 5 (hr 27 32 + (1 + f_m_immediates (hr 28 p))))) else f_h_move (hr 28 p) (hr 27 32) (xput hc 19 5 (hr 27 32 + (1 + f_m_immediates (hr 28 p))))) else f_h_control (hr 28 p) (hr 27 32) (xput hc 19 5 (hr 27 32 + (1 + f_m_immediates (hr 28 p)))) := by
  obtain ⟨R, K, hs, N, T⟩ := B
  obtain ⟨x1, x2, x3, x4, x5, x6, x7, x8, x9, x10, x11, x12, x13, x14, x15, x16, C⟩ := X
  unfold f_h_step
  rw [N.next, xgd_ok (by omega) (by omega), xsize R x6 x7 C.1.1 h14, Option.bind_some, xi_cl x6, R.words, if_neg h65]
  simp only [xbp]
/-- the reference's step, a plain word -/
theorem xmgo {A : Nat → Nat → Int → Prop} {hc hr : xI} {c f p : Nat} {v : Int} (X : xCtxt A hc hr c f p v) (ht : f_m_trapOf (hr 28 p) hr = some 0) : f_m_step hr = f_m_step_54 (hr 28 p) (if f_m_immediates (hr 28 p) ≤ 0 then 0 else hr 28 (p + 1)) (xput hr 27 31 0) := by
  obtain ⟨x1, x2, x3, x4, x5, x6, x7, x8, x9, x10, x11, x12, x13, x14, x15, x16, C⟩ := X
  refine xmstep x6 x7 (fun h => ?_) ht
  have := xwd_imm C.1 h
  omega
theorem xt0 {A : Nat → Nat → Int → Prop} {hc hr : xI} {c f p : Nat} {v : Int} (X : xCtxt A hc hr c f p v) (w : Int32) (h0 : w ≠ 0) (hd : w.toInt < 109 ∨ 112 < w.toInt) (hl : f_m_isLoad w = 0) (hst : f_m_isStore w = 0) (h32 : w ≠ 32) (h35 : w ≠ 35) (h63 : w ≠ 63) (h65 : w ≠ 65) (h16 : w ≠ 16) : f_m_trapOf w hr = some 0 := by
  obtain ⟨x1, x2, x3, x4, x5, x6, x7, x8, x9, x10, x11, x12, x13, x14, x15, x16, C⟩ := X
  obtain ⟨b, a, e, -⟩ := xtrapOf x13 x14 w
  rw [e]
  exact xtrap0 h0 hd hl hst h32 h35 h63 h65 h16
/-- nop -/
theorem xs_nop {A : Nat → Nat → Int → Prop} {hc hr : xI} {c f p : Nat} {v : Int} (B : xBef A hc hr) (X : xCtxt A hc hr c f p v) (hw : hr 28 p = 1) : xStepOK A hc hr := by
  have hs := B.2.2.1
  have R := B.1
  have N := B.2.2.2.1
  have cs := xcstep B X (by rw [hw]; decide) (by rw [hw]; decide)
  have ms := xmgo X (xt0 X _ (by rw [hw]; decide) (by rw [hw]; decide) (by rw [hw]; decide) (by rw [hw]; decide) (by rw [hw]; decide) (by rw [hw]; decide) (by rw [hw]; decide) (by rw [hw]; decide) (by rw [hw]; decide))
  rw [xm54p (by rw [hw]; decide), hw] at ms
  have X' := X
  obtain ⟨x1, x2, x3, x4, x5, x6, x7, x8, x9, x10, x11, x12, x13, x14, x15, x16, C⟩ := X'
  have pl : f_m_plain 1 (if f_m_immediates 1 ≤ 0 then 0 else hr 28 (p + 1)) (xput hr 27 31 0) = some (xput (xput hr 27 31 0) 27 32 (xput hr 27 31 0 27 32 + (1 + f_m_immediates 1))) := by
    have k : ∀ s i h, f_m_plain_27 1 i (f_m_eats 1) s h = some (xput h 27 32 (h 27 32 + (1 + f_m_immediates 1))) := fun s i h => rfl
    unfold f_m_plain
    by_cases z : (xput hr 27 31 0 27 33) ≤ 0
    · rw [if_pos z, k]
    · rw [if_neg z]
      have e0 : (0 : Int32).toInt = 0 := rfl
      have e1 : (1 : Int32).toInt = 1 := rfl
      have e : xput hr 27 31 0 27 33 = hr 27 33 := by simp [xput_at]
      rw [e] at z ⊢
      rw [xi_le] at z
      have s1 : (hr 27 33 - 1).toInt = (hr 27 33).toInt - 1 := xi_sub (by omega) (by omega)
      rw [xgd_ok (by omega) (by omega), k]
  rw [pl] at ms
  rw [hw, if_neg (by decide)] at cs
  have ct : f_h_control 1 (hr 27 32) (xput hc 19 5 (hr 27 32 + (1 + f_m_immediates 1))) = some (0, xput hc 19 5 (hr 27 32 + (1 + f_m_immediates 1))) := rfl
  rw [ct] at cs
  refine ⟨_, _, by rw [cs, Option.bind_some]; exact xheed0 _, ms, ?_⟩
  have i1 : f_m_immediates 1 = 0 := by decide
  refine xgoesP B X (.inl hw) (R.going hs ?_ ?_ ?_) ?_ ?_ ?_ ?_ ?_ ?_ ?_ ?_ ?_ ?_ ?_ ?_ ?_
  · intro k a b; exact xput_off a
  · intro k a b; rw [xput_off a, xput_off a]
  · intro j a b c d; simp [xput_at, a, b]
  · intro k a _ _ _ _ _; exact xput_off a
  · intro k a _ _ _ _; rw [xput_off a, xput_off a]
  · simp [xput_at, hs]
  · simp [xput_at]
  · simp [xput_at]
  · simp [xput_at]
  · simp [xput_at, N.depth]
  · simp [xput_at]
  · simp [xput_at, hw]
  · intro j hj
    simp only [xput_at, Nat.reduceEqDiff, reduceIte] at hj ⊢
    exact N.stack j hj
  · intro a b h1 h2
    simp only [xput_at, Nat.reduceEqDiff, reduceIte]
    exact N.locl a b h1 h2
  · simp only [xput_at, Nat.reduceEqDiff, reduceIte, hw]
    have : (f_m_eats 1).toInt = 0 ∧ (f_m_yields 1).toInt = 0 := by decide
    omega
  · simp only [xput_at, Nat.reduceEqDiff, reduceIte]
    omega
