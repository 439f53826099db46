/-! The run: what a step stands on. -/
theorem RB.riseTo {hc hr : xI} (R : RB hc hr) : ∀ (n f : Nat), ((f + n : Nat) : Int) = (hr 27 4).toInt → (hr 29 f).toInt ≤ (hr 29 (f + n)).toInt := by
  intro n
  induction n with
  | zero => intro f _; exact Int.le_refl _
  | succ n ih =>
    intro f h
    have a := R.rise f (by omega)
    have b := ih (f + 1) (by omega)
    have e : f + 1 + n = f + (n + 1) := by omega
    rw [e] at b
    omega
theorem RB.fromB {hc hr : xI} (R : RB hc hr) (f : Nat) (h : (f : Int) ≤ (hr 27 4).toInt) : 0 ≤ (hr 29 f).toInt ∧ (hr 29 f).toInt ≤ 240 := by
  have l := R.last
  have lb := R.lenB
  have a := R.riseTo ((hr 27 4).toInt.toNat - f) f (by omega)
  have e : f + ((hr 27 4).toInt.toNat - f) = (hr 27 4).toInt.toNat := by omega
  rw [e] at a
  refine ⟨?_, by omega⟩
  clear a e l
  induction f with
  | zero => rw [R.from0]; decide
  | succ f ih =>
    have i := ih (by omega)
    have j := R.rise f (by omega)
    omega
theorem xi_cl {a : Int32} {n : Nat} (h : a.toInt = n) : a.toNatClampNeg = n := by
  rw [xi_nat]
  omega
theorem xi_cl1 {a : Int32} {n : Nat} (h : a.toInt = n) (hn : n < 2147483000) : (a + 1).toInt = n + 1 ∧ (a + 1).toNatClampNeg = n + 1 := by
  have e1 : (1 : Int32).toInt = 1 := rfl
  have e : (a + 1).toInt = n + 1 := by rw [xi_add (by omega) (by omega), h, e1]
  exact ⟨e, by rw [xi_nat]; omega⟩
theorem xi_cl2 {a : Int32} {n : Nat} (h : a.toInt = n) (hn : n < 2147483000) : (a + 2).toInt = n + 2 ∧ (a + 2).toNatClampNeg = n + 2 := by
  have e1 : (2 : Int32).toInt = 2 := rfl
  have e : (a + 2).toInt = n + 2 := by rw [xi_add (by omega) (by omega), h, e1]
  exact ⟨e, by rw [xi_nat]; omega⟩
/-- a state that goes on: the run's own cells alone have changed -/
theorem RB.going {hc hr hc' hr' : xI} (R : RB hc hr) (hs : hr 27 1 = 2) (h1 : ∀ k, k ≠ 19 → ¬ (21 ≤ k ∧ k ≤ 25) → hc' k = hc k) (h2 : ∀ k, k ≠ 27 → k < 46 → hr' k = hr k) (h3 : ∀ j, j ≠ 31 → j ≠ 32 → j ≠ 33 → j ≠ 35 → hr' 27 j = hr 27 j) : RB hc' hr' := by
  have hs' : hr' 27 1 = 2 := by rw [h3 1 (by omega) (by omega) (by omega) (by omega), hs]
  obtain ⟨r1, r2, r3, r4, r5, r6, r7, r8, r9, r10, r11, r12, r13, r14, r15, r16, r17, r18, r19, r20, r21, r22, r23, r24, r25, r26, r27, r28⟩ := R
  have c0 : hc' 0 = hc 0 := h1 0 (by omega) (by omega)
  have c1 : hc' 1 = hc 1 := h1 1 (by omega) (by omega)
  have c2 : hc' 2 = hc 2 := h1 2 (by omega) (by omega)
  have c3 : hc' 3 = hc 3 := h1 3 (by omega) (by omega)
  have c4 : hc' 4 = hc 4 := h1 4 (by omega) (by omega)
  have c5 : hc' 5 = hc 5 := h1 5 (by omega) (by omega)
  have c6 : hc' 6 = hc 6 := h1 6 (by omega) (by omega)
  have c11 : hc' 11 = hc 11 := h1 11 (by omega) (by omega)
  have c12 : hc' 12 = hc 12 := h1 12 (by omega) (by omega)
  have c20 : hc' 20 = hc 20 := h1 20 (by omega) (by omega)
  have c26 : hc' 26 = hc 26 := h1 26 (by omega) (by omega)
  have m1 : hr' 27 1 = hr 27 1 := h3 1 (by omega) (by omega) (by omega) (by omega)
  have m2 : hr' 27 2 = hr 27 2 := h3 2 (by omega) (by omega) (by omega) (by omega)
  have m4 : hr' 27 4 = hr 27 4 := h3 4 (by omega) (by omega) (by omega) (by omega)
  have m9 : hr' 27 9 = hr 27 9 := h3 9 (by omega) (by omega) (by omega) (by omega)
  have m10 : hr' 27 10 = hr 27 10 := h3 10 (by omega) (by omega) (by omega) (by omega)
  have m27 : hr' 27 27 = hr 27 27 := h3 27 (by omega) (by omega) (by omega) (by omega)
  have m29 : hr' 27 29 = hr 27 29 := h3 29 (by omega) (by omega) (by omega) (by omega)
  have d28 : hr' 28 = hr 28 := h2 28 (by omega) (by omega)
  have d29 : hr' 29 = hr 29 := h2 29 (by omega) (by omega)
  have d30 : hr' 30 = hr 30 := h2 30 (by omega) (by omega)
  have d31 : hr' 31 = hr 31 := h2 31 (by omega) (by omega)
  have d32 : hr' 32 = hr 32 := h2 32 (by omega) (by omega)
  have d43 : hr' 43 = hr 43 := h2 43 (by omega) (by omega)
  have d44 : hr' 44 = hr 44 := h2 44 (by omega) (by omega)
  have d45 : hr' 45 = hr 45 := h2 45 (by omega) (by omega)
  refine ⟨?_, ?_, ?_, ?_, ?_, ?_, ?_, ?_, ?_, ?_, ?_, ?_, ?_, ?_, ?_, ?_, ?_, ?_, ?_, ?_, ?_, ?_, ?_, ?_, ?_, ?_, ?_, ?_⟩ <;> (try simp only [c0, c1, c2, c3, c4, c5, c6, c11, c12, c20, c26, m1, m2, m4, m9, m10, m27, m29, d28, d29, d30, d31, d32, d43, d44, d45]) <;> first | assumption | (intro e; rw [hs] at e; exact absurd e (by decide))
/-- after a step: what must hold -/
def xAft (A : Nat → Nat → Int → Prop) (hc' hr' : xI) : Prop :=
  RB hc' hr' ∧ xKC A hc' hr' ∧ hr' 27 1 ≠ 0 ∧ (hr' 27 1 = 2 → RN hc' hr' ∧ xRT A hr')
/-- before a step -/
def xBef (A : Nat → Nat → Int → Prop) (hc hr : xI) : Prop :=
  RB hc hr ∧ xKC A hc hr ∧ hr 27 1 = 2 ∧ RN hc hr ∧ xRT A hr
/-- a trap -/
theorem xtrap {A : Nat → Nat → Int → Prop} {hc hr hc' : xI} (B : xBef A hc hr) (h1 : ∀ k, k ≠ 19 → ¬ (21 ≤ k ∧ k ≤ 25) → hc' k = hc k) (t : Int32) (ht : t ≠ -1) (ht0 : t ≠ 0) : f_w_heed t hc' = some (xput (xput hc' 0 6 4) 0 7 t) ∧ xAft A (xput (xput hc' 0 6 4) 0 7 t) (xput (xput hr 27 31 t) 27 1 4) := by
  obtain ⟨R, K, hs, N, T⟩ := B
  refine ⟨by unfold f_w_heed; rw [if_neg ht, if_neg ht0], ?_, ?_, ?_, ?_⟩
  · have R' := R.going (hc' := hc') (hr' := hr) hs h1 (fun _ _ _ => rfl) (fun _ _ _ _ _ => rfl)
    clear R
    obtain ⟨r1, r2, r3, r4, r5, r6, r7, r8, r9, r10, r11, r12, r13, r14, r15, r16, r17, r18, r19, r20, r21, r22, r23, r24, r25, r26, r27, r28⟩ := R'
    refine ⟨?_, ?_, ?_, ?_, ?_, ?_, ?_, ?_, ?_, ?_, ?_, ?_, ?_, ?_, ?_, ?_, ?_, ?_, ?_, ?_, ?_, ?_, ?_, ?_, ?_, ?_, ?_, ?_⟩ <;> simp only [xput_at, Nat.reduceEqDiff, reduceIte] <;> first | assumption | decide | (intro _; rfl) | (intro e; exact absurd e (by decide))
  · refine xKC_keep (hc := hc) (hr := hr) ⟨fun k hk => ?_, fun k hk => ?_, by simp [xput_at]⟩ K
    · rw [xput_off (by omega), xput_off (by omega), h1 k (by omega) (by omega)]
    · rw [xput_off (by omega), xput_off (by omega)]
  · simp [xput_at]
  · intro e
    simp [xput_at] at e
/-- going on within the same call -/
theorem xgoes {A : Nat → Nat → Int → Prop} {hc hr hc' hr' : xI} (B : xBef A hc hr) (R' : RB hc' hr') (K' : xSame hc hr hc' hr') (hs : hr' 27 1 = 2)
    (c7 : hc' 19 7 = hc 19 7) (r35 : hr' 27 35 = hr 27 35) (sz : hc' 19 4 = hr' 27 33) (pc : hc' 19 5 = hr' 27 32)
    (c22 : hc' 22 = hc 22) (c23 : hc' 23 = hc 23) (c24 : hc' 24 = hc 24) (r47 : hr' 47 = hr 47) (r48 : hr' 48 = hr 48) (r49 : hr' 49 = hr 49)
    (st : ∀ j : Nat, (j : Int) < (hr' 27 33).toInt → hc' 21 j = hr' 46 j)
    (lo : ∀ c k : Nat, (c : Int) < (hr 27 35).toInt → k < 8 → hc' 25 (8 * c + k) = hr' 50 (8 * c + k))
    (s100 : (hr' 27 33).toInt ≤ 100)
    (at' : ∀ c f : Nat, (hr 27 35).toInt = (c : Int) + 1 → (hr 47 c).toInt = f → 0 ≤ (hr 49 c).toInt → ∃ q : Nat, (hr' 27 32).toInt = q ∧ A f q ((hr' 27 33).toInt - (hr 49 c).toInt)) : xAft A hc' hr' := by
  obtain ⟨R, K, hs0, N, T⟩ := B
  have K2 := xKC_keep K' K
  refine ⟨R', K2, by rw [hs]; decide, fun _ => ?_⟩
  have r4 : hr' 27 4 = hr 27 4 := K'.2.2
  have r32 : hr' 32 = hr 32 := K'.2.1 32 (by omega)
  obtain ⟨c, t1, t2, t3, ⟨f, p, t4, t5, t6⟩, t7⟩ := T
  obtain ⟨q, a1, a2⟩ := at' c f t1 t4 (t3 c (by omega)).1
  have nn := (K2.2 f q _ a2).2.2.2.1
  have b0 := (t3 c (by omega)).1
  have mono : ∀ k : Nat, k ≤ c → (hr 49 k).toInt ≤ (hr 49 c).toInt := by
    intro k hk
    have aux : ∀ n k : Nat, k + n = c → (hr 49 k).toInt ≤ (hr 49 c).toInt := by
      intro n
      induction n with
      | zero => intro k e; have : k = c := by omega
                rw [this]; exact Int.le_refl _
      | succ n ih =>
        intro k e
        obtain ⟨f, g, p, -, -, -, m, -⟩ := t7 k (by omega)
        have := ih (k + 1) (by omega)
        omega
    exact aux (c - k) k (by omega)
  refine ⟨⟨?_, ?_, sz, ?_, pc, st, ?_, ?_, ?_, ?_⟩, c, ?_, ?_, ?_, ⟨f, q, ?_, a1, ?_⟩, ?_⟩
  · rw [c7, r35]; exact N.calls
  · rw [r35]; exact N.callsB
  · exact ⟨by omega, s100⟩
  · intro k hk
    rw [r35] at hk
    rw [c22, r47, r4]; exact N.callee k hk
  · intro k h0 hk
    rw [r35] at hk
    rw [c23, r48]; exact N.back k h0 hk
  · intro k hk
    rw [r35] at hk
    rw [c24, r49]; exact N.base k hk
  · intro k j hk hj
    rw [r35] at hk
    exact lo k j hk hj
  · rw [r35]; exact t1
  · rw [r49]; exact t2
  · intro k hk
    rw [r49]
    have := mono k hk
    exact ⟨(t3 k hk).1, by omega⟩
  · rw [r47]; exact t4
  · rw [r49]; exact a2
  · intro k hk
    rw [r47, r48, r49, r32]
    exact t7 k hk
