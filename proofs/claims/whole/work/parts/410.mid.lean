/-! In the middle of a control step. -/
def xMid (A : Nat → Nat → Int → Prop) (hc hr : xI) (c f : Nat) : Prop :=
  RB hc hr ∧ xKC A hc hr ∧ hr 27 1 = 2 ∧ (hr 27 35).toInt = (c : Int) + 1 ∧ c < 6 ∧ hc 19 7 = hr 27 35 ∧ hc 19 4 = hr 27 33 ∧ (hr 27 33).toInt ≤ 100 ∧
  (∀ j : Nat, (j : Int) < (hr 27 33).toInt → hc 21 j = hr 46 j) ∧
  (∀ k : Nat, k ≤ c → hc 22 k = hr 47 k ∧ 0 ≤ (hr 47 k).toInt ∧ (hr 47 k).toInt < (hr 27 4).toInt) ∧
  (∀ k : Nat, 0 < k → k ≤ c → hc 23 k = hr 48 k) ∧
  (∀ k : Nat, k ≤ c → hc 24 k = hr 49 k) ∧
  (∀ k j : Nat, k ≤ c → j < 8 → hc 25 (8 * k + j) = hr 50 (8 * k + j)) ∧
  hr 49 0 = 0 ∧ 0 ≤ (hr 49 c).toInt ∧ (hr 49 c).toInt ≤ (hr 27 33).toInt ∧ (∀ k : Nat, k ≤ c → 0 ≤ (hr 49 k).toInt) ∧ (hr 47 c).toInt = f ∧ (f : Int) < (hr 27 4).toInt ∧
  (∀ k : Nat, k < c → ∃ f g p : Nat, (hr 47 k).toInt = f ∧ (hr 47 (k + 1)).toInt = g ∧ (hr 48 (k + 1)).toInt = p ∧ (hr 49 k).toInt ≤ (hr 49 (k + 1)).toInt ∧ A f p ((hr 49 (k + 1)).toInt + (hr 32 g).toInt - (hr 49 k).toInt))
theorem xbase_mono {A : Nat → Nat → Int → Prop} {hr : xI} {c : Nat} (t7 : ∀ k : Nat, k < c → ∃ f g p : Nat, (hr 47 k).toInt = f ∧ (hr 47 (k + 1)).toInt = g ∧ (hr 48 (k + 1)).toInt = p ∧ (hr 49 k).toInt ≤ (hr 49 (k + 1)).toInt ∧ A f p ((hr 49 (k + 1)).toInt + (hr 32 g).toInt - (hr 49 k).toInt)) (k : Nat) (hk : k ≤ c) : (hr 49 k).toInt ≤ (hr 49 c).toInt := by
  have aux : ∀ n k : Nat, k + n = c → (hr 49 k).toInt ≤ (hr 49 c).toInt := by
    intro n
    induction n with
    | zero => intro k e; have : k = c := by omega
              rw [this]; exact Int.le_refl _
    | succ n ih =>
      intro k e
      obtain ⟨f, g, p, -, -, -, m, -⟩ := t7 k (by omega)
      have := ih (k + 1) (by omega)
      omega
  exact aux (c - k) k (by omega)
theorem xMid.start {A : Nat → Nat → Int → Prop} {hc hr : xI} {c f p : Nat} {v : Int} (B : xBef A hc hr) (X : xCtxt A hc hr c f p v) : xMid A hc hr c f := by
  obtain ⟨R, K, hs, N, T⟩ := B
  obtain ⟨x1, x2, x3, x4, x5, x6, x7, x8, x9, x10, x11, x12, x13, x14, x15, x16, C⟩ := X
  obtain ⟨c', t1, t2, t3, -, t7⟩ := T
  have e : c' = c := by omega
  subst e
  refine ⟨R, K, hs, x1, x2, N.calls, N.depth, x14, N.stack, fun k hk => N.callee k (by omega), fun k h0 hk => N.back k h0 (by omega), fun k hk => N.base k (by omega), fun k j hk hj => N.locl k j (by omega) hj, t2, x12, (t3 c' (by omega)).2, fun k hk => (t3 k hk).1, x3, x4, t7⟩
/-- only the stack and where it goes on have changed -/
theorem xMid.same {A : Nat → Nat → Int → Prop} {hc hr hc' hr' : xI} {c f : Nat} (M : xMid A hc hr c f) (h1 : ∀ k, k ≠ 19 → k ≠ 21 → hc' k = hc k) (h1' : ∀ j, j ≠ 4 → j ≠ 5 → hc' 19 j = hc 19 j) (h2 : ∀ k, k ≠ 27 → k ≠ 46 → hr' k = hr k) (h3 : ∀ j, j ≠ 31 → j ≠ 32 → j ≠ 33 → hr' 27 j = hr 27 j) (sz : hc' 19 4 = hr' 27 33) (b1 : (hr 49 c).toInt ≤ (hr' 27 33).toInt) (b2 : (hr' 27 33).toInt ≤ 100) (st : ∀ j : Nat, (j : Int) < (hr' 27 33).toInt → hc' 21 j = hr' 46 j) : xMid A hc' hr' c f := by
  obtain ⟨R, K, m1, m2, m3, m4, m5, m6, m7, m8, m9, m10, m11, m12, m13, m14, m15, m16, m17, m18⟩ := M
  have r1 : hr' 27 1 = hr 27 1 := h3 1 (by omega) (by omega) (by omega)
  have r4 : hr' 27 4 = hr 27 4 := h3 4 (by omega) (by omega) (by omega)
  have r35 : hr' 27 35 = hr 27 35 := h3 35 (by omega) (by omega) (by omega)
  have r32 : hr' 32 = hr 32 := h2 32 (by omega) (by omega)
  have r47 : hr' 47 = hr 47 := h2 47 (by omega) (by omega)
  have r48 : hr' 48 = hr 48 := h2 48 (by omega) (by omega)
  have r49 : hr' 49 = hr 49 := h2 49 (by omega) (by omega)
  have r50 : hr' 50 = hr 50 := h2 50 (by omega) (by omega)
  have c22 : hc' 22 = hc 22 := h1 22 (by omega) (by omega)
  have c23 : hc' 23 = hc 23 := h1 23 (by omega) (by omega)
  have c24 : hc' 24 = hc 24 := h1 24 (by omega) (by omega)
  have c25 : hc' 25 = hc 25 := h1 25 (by omega) (by omega)
  have c7 : hc' 19 7 = hc 19 7 := h1' 7 (by omega) (by omega)
  refine ⟨R.going m1 (fun k a b => h1 k a (by omega)) (fun k a b => h2 k a (by omega)) (fun j a b d e => h3 j a b d), xKC_keep ⟨fun k hk => h1 k (by omega) (by omega), fun k hk => h2 k (by omega) (by omega), r4⟩ K, by rw [r1, m1], by rw [r35]; exact m2, m3, by rw [c7, r35]; exact m4, sz, b2, st, ?_, ?_, ?_, ?_, ?_, ?_, ?_, ?_, ?_, ?_, ?_⟩
  · rw [c22, r47, r4]; exact m8
  · rw [c23, r48]; exact m9
  · rw [c24, r49]; exact m10
  · rw [c25, r50]; exact m11
  · rw [r49]; exact m12
  · rw [r49]; exact m13
  · rw [r49]; exact b1
  · rw [r49]; exact m15
  · rw [r47]; exact m16
  · rw [r4]; exact m17
  · rw [r47, r48, r49, r32]; exact m18
/-- and at the end of the step -/
theorem xMid.go {A : Nat → Nat → Int → Prop} {hc hr : xI} {c f q : Nat} (M : xMid A hc hr c f) (pc : hc 19 5 = hr 27 32) (hq : (hr 27 32).toInt = q) (a : A f q ((hr 27 33).toInt - (hr 49 c).toInt)) : xAft A hc hr := by
  obtain ⟨R, K, m1, m2, m3, m4, m5, m6, m7, m8, m9, m10, m11, m12, m13, m14, m15, m16, m17, m18⟩ := M
  refine ⟨R, K, by rw [m1]; decide, fun _ => ⟨⟨m4, by omega, m5, by omega, pc, m7, fun k hk => m8 k (by omega), fun k h0 hk => m9 k h0 (by omega), fun k hk => m10 k (by omega), fun k j hk hj => m11 k j (by omega) hj⟩, c, m2, m12, fun k hk => ?_, ⟨f, q, m16, hq, a⟩, m18⟩⟩
  have := xbase_mono m18 k hk
  exact ⟨m15 k hk, by omega⟩
/-- falling to a height, with 0 or 1 values kept -/
theorem xfall {hc hr : xI} (h k : Int32) (hk : k = 0 ∨ k = 1) (sz : hc 19 4 = hr 27 33) (h0 : 0 ≤ h.toInt) (h1 : h.toInt + k.toInt ≤ (hr 27 33).toInt) (s100 : (hr 27 33).toInt ≤ 100) (st : ∀ j : Nat, (j : Int) < (hr 27 33).toInt → hc 21 j = hr 46 j) :
    ∃ hc' hr', f_h_fallTo h k hc = some hc' ∧ f_m_fall h k hr = some hr' ∧ (∀ k, k ≠ 19 → k ≠ 21 → hc' k = hc k) ∧ (∀ j, j ≠ 4 → hc' 19 j = hc 19 j) ∧ (∀ k, k ≠ 27 → k ≠ 46 → hr' k = hr k) ∧ (∀ j, j ≠ 33 → hr' 27 j = hr 27 j) ∧ hc' 19 4 = h + k ∧ hr' 27 33 = h + k ∧ (h + k).toInt = h.toInt + k.toInt ∧ ∀ j : Nat, (j : Int) < (h + k).toInt → hc' 21 j = hr' 46 j := by
  have e0 : (0 : Int32).toInt = 0 := rfl
  have e1 : (1 : Int32).toInt = 1 := rfl
  rcases hk with e | e <;> subst e
  · refine ⟨xput hc 19 4 (h + 0), xput hr 27 33 (h + 0), ?_, ?_, fun k a b => xput_off a, fun j a => by simp [xput_at, a], fun k a b => xput_off a, fun j a => by simp [xput_at, a], by simp [xput_at], by simp [xput_at], by rw [xi_add (by omega) (by omega)], fun j hj => ?_⟩
    · unfold f_h_fallTo f_h_fallTo_22
      rw [if_neg (by decide)]
    · show f_m_fall_2 1000 h 0 0 hr = _
      unfold f_m_fall_2
      rw [if_pos (by decide)]
    · rw [xi_add (by omega) (by omega)] at hj
      rw [xput_off (by omega), xput_off (by omega)]
      exact st j (by omega)
  · have s1 : (hr 27 33 - 1).toInt = (hr 27 33).toInt - 1 := xi_sub (by omega) (by omega)
    have a1 : (h + 1).toInt = h.toInt + 1 := xi_add (by omega) (by omega)
    have z1 : hr 27 33 - 1 + 0 = hr 27 33 - 1 := Int32.add_zero _
    have z2 : h + 0 = h := Int32.add_zero _
    have z3 : (0 : Int32) + 1 = 1 := rfl
    refine ⟨xput (xput hc 21 h.toNatClampNeg (hc 21 (hr 27 33 - 1).toNatClampNeg)) 19 4 (h + 1), xput (xput hr 46 h.toNatClampNeg (hr 46 (hr 27 33 - 1).toNatClampNeg)) 27 33 (h + 1), ?_, ?_, fun k a b => by rw [xput_off a, xput_off b], fun j a => by simp [xput_at, a], fun k a b => by rw [xput_off a, xput_off b], fun j a => by simp [xput_at, a], by simp [xput_at], by simp [xput_at], a1, fun j hj => ?_⟩
    · unfold f_h_fallTo f_h_fallTo_22
      rw [if_pos rfl, sz, xgd_ok (by omega) (by omega), xgd_ok (by omega) (by omega)]
    · show f_m_fall_2 1000 h 1 0 hr = _
      unfold f_m_fall_2
      rw [if_neg (by decide), z1, z2, z3, xgd_ok (by omega) (by omega), xgd_ok (by omega) (by omega)]
      unfold f_m_fall_2
      rw [if_pos (by decide)]
    · simp only [xput_at, Nat.reduceEqDiff, reduceIte]
      by_cases e : j = h.toNatClampNeg
      · rw [if_pos e, if_pos e]
        exact st _ (by rw [xi_nat]; omega)
      · rw [if_neg e, if_neg e]
        exact st j (by omega)
