/-! Leaving a call. -/
def xEnd (A : Nat → Nat → Int → Prop) (a : Option (Int32 × xI)) (b : Option xI) : Prop :=
  ∃ r hc' hc'' hr', a = some (r, hc') ∧ f_w_heed r hc' = some hc'' ∧ b = some hr' ∧ xAft A hc'' hr'
theorem xEnd.ok {A : Nat → Nat → Int → Prop} {hc hr : xI} (E : xEnd A (f_h_step hc) (f_m_step hr)) : xStepOK A hc hr := by
  obtain ⟨r, hc', hc'', hr', a, b, c, d⟩ := E
  exact ⟨hc'', hr', by rw [a, Option.bind_some]; exact b, c, d⟩
theorem xleave {A : Nat → Nat → Int → Prop} {hc hr : xI} {c f : Nat} (M : xMid A hc hr c f) (hv : (hr 32 f).toInt ≤ (hr 27 33).toInt - (hr 49 c).toInt) : xEnd A (f_h_leave hc) (f_m_comeBack hr) := by
  obtain ⟨R, K, m1, m2, m3, m4, m5, m6, m7, m8, m9, m10, m11, m12, m13, m14, m15, m16, m17, m18⟩ := M
  have e0 : (0 : Int32).toInt = 0 := rfl
  have e1 : (1 : Int32).toInt = 1 := rfl
  have fb := R.fnsB
  have cm : (hr 27 35 - 1).toInt = c := by rw [xi_sub (by omega) (by omega), m2]; omega
  have cn : (hr 27 35 - 1).toNatClampNeg = c := xi_cl cm
  have g6 : ∀ {α : Type} (x : Option α), xgd (hr 27 35 - 1) 6 x = x := fun x => xgd_ok (by omega) (by omega)
  have gf : ∀ {α : Type} (x : Option α), xgd (hr 47 c) 6 x = x := fun x => xgd_ok (by omega) (by omega)
  have fn : (hr 47 c).toNatClampNeg = f := xi_cl m16
  have rk : (hr 32 f).toInt = 0 ∨ (hr 32 f).toInt = 1 := by
    rcases R.ressB f with e | e
    · rw [e]; exact .inl rfl
    · rw [e]; exact .inr rfl
  obtain ⟨h', r', f1, f2, f3, f4, f5, f6, f7, f8, f9, f10⟩ := xfall (hc := hc) (hr := hr) (hr 49 c) (hr 32 f) (R.ressB f) m5 m13 (by omega) m6 m7
  have hl : f_h_leave hc = f_h_leave_22 (hr 27 35 - 1) (hr 32 f) hc := by
    unfold f_h_leave
    rw [m4, g6, cn, (m8 c (by omega)).1, gf, fn, R.ress]
  have h23 : h' 23 = hc 23 := f3 23 (by omega) (by omega)
  have h21 := f3 22 (by omega) (by omega)
  have r48 : r' 48 = hr 48 := f5 48 (by omega) (by omega)
  have r32 : r' 32 = hr 32 := f5 32 (by omega) (by omega)
  unfold xEnd
  rw [hl]
  unfold f_h_leave_22 f_m_comeBack
  simp only [g6, cn, gf, fn, m10 c (Nat.le_refl c), f1, f2, Option.bind_some]
  by_cases hc0 : c = 0
  · subst hc0
    have b0 : hr 49 0 = 0 := m12
    have e35 : hr 27 35 - 1 = 0 := by rw [xi_eq, cm, e0]; rfl
    rw [if_pos (by rw [xi_le]; omega), if_pos e35, r32]
    have g6' : ∀ {α : Type} (x : Option α), xgd (hr 47 0) 6 x = x := gf
    have fin : ∀ (hq rq : xI) (v : Int32), (∀ k, k ≠ 19 → k ≠ 21 → hq k = hc k) → (∀ k, k ≠ 27 → k ≠ 46 → rq k = hr k) → (∀ j, j ≠ 1 → j ≠ 32 → j ≠ 33 → j ≠ 35 → rq 27 j = hr 27 j) → rq 27 1 = 3 → f_w_heed (-1) (xput hq 19 6 v) = some (xput (xput hq 19 6 v) 0 6 3) ∧ xAft A (xput (xput hq 19 6 v) 0 6 3) (xput rq 27 40 v) := by
      intro hq rq v a1 a2 a3 a4
      refine ⟨by unfold f_w_heed; rw [if_pos rfl], ?_, ?_, ?_, ?_⟩
      · have R' := R.going (hc' := hq) (hr' := xput rq 27 1 2) m1 (fun k x y => a1 k x (by omega)) (fun k x y => by rw [xput_off x]; exact a2 k x (by omega)) (fun j x1 x2 x3 x4 => by
          rw [xput_at, if_pos rfl]
          by_cases j1 : j = 1
          · rw [if_pos j1, j1, m1]
          · rw [if_neg j1]; exact a3 j j1 x2 x3 x4)
        clear R
        obtain ⟨r1, r2, r3, r4, r5, r6, r7, r8, r9, r10, r11, r12, r13, r14, r15, r16, r17, r18, r19, r20, r21, r22, r23, r24, r25, r26, r27, r28⟩ := R'
        simp only [xput_at, Nat.reduceEqDiff, reduceIte] at r1 r2 r3 r4 r5 r6 r7 r8 r9 r10 r11 r12 r13 r14 r15 r16 r17 r18 r19 r20 r21 r22 r23 r24 r25 r26 r27 r28
        refine ⟨?_, ?_, ?_, ?_, ?_, ?_, ?_, ?_, ?_, ?_, ?_, ?_, ?_, ?_, ?_, ?_, ?_, ?_, ?_, ?_, ?_, ?_, ?_, ?_, ?_, ?_, ?_, ?_⟩ <;> simp only [xput_at, Nat.reduceEqDiff, reduceIte] <;> first | assumption | (rw [a4]; done) | (rw [a4]; decide) | (intro _; rfl) | (intro e; rw [a4] at e; exact absurd e (by decide))
      · refine xKC_keep (hc := hc) (hr := hr) ⟨fun k hk => ?_, fun k hk => ?_, ?_⟩ K
        · rw [xput_off (by omega), xput_off (by omega), a1 k (by omega) (by omega)]
        · rw [xput_off (by omega), a2 k (by omega) (by omega)]
        · rw [xput_at, if_pos rfl, if_neg (by omega)]; exact a3 4 (by omega) (by omega) (by omega) (by omega)
      · rw [xput_at, if_pos rfl, if_neg (by omega), a4]; decide
      · intro e
        rw [xput_at, if_pos rfl, if_neg (by omega), a4] at e
        exact absurd e (by decide)
    rcases R.ressB f with e | e
    · rw [e] at f7 f8 f9 f10 ⊢
      rw [if_neg (by decide), if_pos (by decide)]
      unfold f_h_leave_71 f_m_comeBack_74
      obtain ⟨q1, q2⟩ := fin (xput (xput h' 19 5 (h' 23 0)) 19 7 (hr 27 35 - 1)) (xput (xput (xput r' 27 35 (hr 27 35 - 1)) 27 32 (r' 48 0)) 27 1 3) 0 (by
        intro k x y; rw [xput_off x, xput_off x]; exact f3 k x y) (by
        intro k x y; rw [xput_off x, xput_off x, xput_off x]; exact f5 k x y) (by
        intro j x1 x2 x3 x4; simp only [xput_at, reduceIte, x1, x2, x4]; exact f6 j x3) (by simp [xput_at])
      exact ⟨_, _, _, _, rfl, q1, rfl, q2⟩
    · rw [e] at f7 f8 f9 f10 ⊢
      rw [if_pos rfl, if_neg (by decide)]
      have s0 : hr 49 0 + 1 - 1 = hr 49 0 := Int32.add_sub_cancel _ _
      have pp : f_h_pop (xput (xput h' 19 5 (h' 23 0)) 19 7 (hr 27 35 - 1)) = some (r' 46 0, xput (xput (xput h' 19 5 (h' 23 0)) 19 7 (hr 27 35 - 1)) 19 4 0) := by
        have d4 : xput (xput h' 19 5 (h' 23 0)) 19 7 (hr 27 35 - 1) 19 4 = hr 49 0 + 1 := by
          simp only [xput_at, Nat.reduceEqDiff, reduceIte]; exact f7
        have d21 : xput (xput h' 19 5 (h' 23 0)) 19 7 (hr 27 35 - 1) 21 = h' 21 := by rw [xput_off (by omega), xput_off (by omega)]
        unfold f_h_pop
        rw [d4, s0, b0, xgd_ok (by decide) (by decide), d21]
        have : h' 21 (0 : Int32).toNatClampNeg = r' 46 0 := f10 0 (by rw [f9, b0]; decide)
        rw [this]
      rw [pp, Option.bind_some]
      unfold f_h_leave_71 f_m_comeBack_74
      obtain ⟨q1, q2⟩ := fin (xput (xput (xput h' 19 5 (h' 23 0)) 19 7 (hr 27 35 - 1)) 19 4 0) (xput (xput (xput r' 27 35 (hr 27 35 - 1)) 27 32 (r' 48 0)) 27 1 3) (r' 46 0) (by
        intro k x y; rw [xput_off x, xput_off x, xput_off x]; exact f3 k x y) (by
        intro k x y; rw [xput_off x, xput_off x, xput_off x]; exact f5 k x y) (by
        intro j x1 x2 x3 x4; simp only [xput_at, reduceIte, x1, x2, x4]; exact f6 j x3) (by simp [xput_at])
      exact ⟨_, _, _, _, rfl, q1, rfl, q2⟩
  · have ne : ¬ hr 27 35 - 1 = 0 := by rw [xi_eq, cm, e0]; omega
    rw [if_neg (by rw [xi_le]; omega), if_neg ne]
    obtain ⟨f', g', p', u1, u2, u3, u4, u5⟩ := m18 (c - 1) (by omega)
    rw [show c - 1 + 1 = c by omega] at u2 u3 u4 u5
    have eg : g' = f := by omega
    subst eg
    have bk : h' 23 c = r' 48 c := by rw [h23, r48]; exact m9 c (by omega) (by omega)
    have r47 : r' 47 = hr 47 := f5 47 (by omega) (by omega)
    have r49 : r' 49 = hr 49 := f5 49 (by omega) (by omega)
    have r50 : r' 50 = hr 50 := f5 50 (by omega) (by omega)
    have h22 : h' 22 = hc 22 := f3 22 (by omega) (by omega)
    have h24 : h' 24 = hc 24 := f3 24 (by omega) (by omega)
    have h25 : h' 25 = hc 25 := f3 25 (by omega) (by omega)
    have r4 : r' 27 4 = hr 27 4 := f6 4 (by omega)
    have bc : c - 1 < c := by omega
    refine ⟨_, _, _, _, rfl, xheed0 _, rfl, ?_⟩
    refine xMid.go (c := c - 1) (f := f') (q := p') ?_ ?_ ?_ ?_
    · refine ⟨R.going m1 ?_ ?_ ?_, xKC_keep (hc := hc) (hr := hr) ⟨?_, ?_, ?_⟩ K, ?_, ?_, by omega, ?_, ?_, ?_, ?_, ?_, ?_, ?_, ?_, ?_, ?_, ?_, ?_, ?_, ?_, ?_⟩
      · intro k x y; rw [xput_off x, xput_off x]; exact f3 k x (by omega)
      · intro k x y; rw [xput_off x, xput_off x]; exact f5 k x (by omega)
      · intro j x1 x2 x3 x4; simp only [xput_at, reduceIte, x2, x4]; exact f6 j x3
      · intro k hk; rw [xput_off (by omega), xput_off (by omega)]; exact f3 k (by omega) (by omega)
      · intro k hk; rw [xput_off (by omega), xput_off (by omega)]; exact f5 k (by omega) (by omega)
      · simp only [xput_at, Nat.reduceEqDiff, reduceIte]; exact r4
      · simp only [xput_at, Nat.reduceEqDiff, reduceIte]; rw [f6 1 (by omega), m1]
      · simp only [xput_at, Nat.reduceEqDiff, reduceIte]; omega
      · simp only [xput_at, Nat.reduceEqDiff, reduceIte]
      · simp only [xput_at, Nat.reduceEqDiff, reduceIte]; rw [f7, f8]
      · simp only [xput_at, Nat.reduceEqDiff, reduceIte]; rw [f8, f9]; omega
      · intro j; simp only [xput_at, Nat.reduceEqDiff, reduceIte]; rw [f8]; exact f10 j
      · intro k hk; simp only [xput_at, Nat.reduceEqDiff, reduceIte]; rw [h22, r47, r4]; exact m8 k (by omega)
      · intro k h0 hk; simp only [xput_at, Nat.reduceEqDiff, reduceIte]; rw [h23, r48]; exact m9 k h0 (by omega)
      · intro k hk; simp only [xput_at, Nat.reduceEqDiff, reduceIte]; rw [h24, r49]; exact m10 k (by omega)
      · intro k j hk hj; simp only [xput_at, Nat.reduceEqDiff, reduceIte]; rw [h25, r50]; exact m11 k j (by omega) hj
      · simp only [xput_at, Nat.reduceEqDiff, reduceIte]; rw [r49]; exact m12
      · simp only [xput_at, Nat.reduceEqDiff, reduceIte]; rw [r49]; exact m15 _ (by omega)
      · simp only [xput_at, Nat.reduceEqDiff, reduceIte]; rw [r49, f8, f9]; omega
      · intro k hk; simp only [xput_at, Nat.reduceEqDiff, reduceIte]; rw [r49]; exact m15 _ (by omega)
      · simp only [xput_at, Nat.reduceEqDiff, reduceIte]; rw [r47]; exact u1
      · simp only [xput_at, Nat.reduceEqDiff, reduceIte]; rw [r4]
        have := (m8 (c - 1) (by omega)).2.2
        omega
      · intro k hk; simp only [xput_at, Nat.reduceEqDiff, reduceIte]; rw [r47, r48, r49, r32]; exact m18 k (by omega)
    · simp only [xput_at, Nat.reduceEqDiff, reduceIte]; exact bk
    · simp only [xput_at, Nat.reduceEqDiff, reduceIte]; rw [r48]; exact u3
    · simp only [xput_at, Nat.reduceEqDiff, reduceIte]; rw [r49, f8, f9]; exact u5
