/-! What is kept keeps the checked code and the run. -/
def xSame (hc hr hc' hr' : xI) : Prop := (∀ k, 7 ≤ k ∧ k ≤ 10 → hc' k = hc k) ∧ (∀ k, 28 ≤ k ∧ k ≤ 42 → hr' k = hr k) ∧ hr' 27 4 = hr 27 4
theorem Keep.same {hc hr hc' hr' : xI} (K : Keep hc hr hc' hr') : xSame hc hr hc' hr' := by
  obtain ⟨k1, k2, k3, k4, -⟩ := K
  exact ⟨fun k h => k1 k (by omega), fun k h => k2 k (by omega), k4⟩
theorem xKG_keep {A : Nat → Nat → Int → Prop} {hc hr hc' hr' : xI} (K : xSame hc hr hc' hr') (f : Nat) : xKG A hc' hr' f = xKG A hc hr f := by
  obtain ⟨k1, k2, -⟩ := K
  have c7 : hc' 7 = hc 7 := k1 7 (by omega)
  have c8 : hc' 8 = hc 8 := k1 8 (by omega)
  have r37 : hr' 37 = hr 37 := k2 37 (by omega)
  have r38 : hr' 38 = hr 38 := k2 38 (by omega)
  have r39 : hr' 39 = hr 39 := k2 39 (by omega)
  funext t q h
  unfold xKG
  rw [c7, c8, r37, r38, r39]
theorem xKC_keep {A : Nat → Nat → Int → Prop} {hc hr hc' hr' : xI} (K : xSame hc hr hc' hr') (H : xKC A hc hr) : xKC A hc' hr' := by
  obtain ⟨h1, h2⟩ := H
  have G := fun f => xKG_keep (A := A) K f
  obtain ⟨k1, k2, k4⟩ := K
  have c9 : hc' 9 = hc 9 := k1 9 (by omega)
  have c10 : hc' 10 = hc 10 := k1 10 (by omega)
  have r28 : hr' 28 = hr 28 := k2 28 (by omega)
  have r29 : hr' 29 = hr 29 := k2 29 (by omega)
  have r30 : hr' 30 = hr 30 := k2 30 (by omega)
  have r31 : hr' 31 = hr 31 := k2 31 (by omega)
  have r32 : hr' 32 = hr 32 := k2 32 (by omega)
  have r33 : hr' 33 = hr 33 := k2 33 (by omega)
  have r34 : hr' 34 = hr 34 := k2 34 (by omega)
  have r35 : hr' 35 = hr 35 := k2 35 (by omega)
  have r36 : hr' 36 = hr 36 := k2 36 (by omega)
  have r37 : hr' 37 = hr 37 := k2 37 (by omega)
  have r38 : hr' 38 = hr 38 := k2 38 (by omega)
  have r41 : hr' 41 = hr 41 := k2 41 (by omega)
  have r42 : hr' 42 = hr 42 := k2 42 (by omega)
  refine ⟨?_, ?_⟩
  · intro f hf
    rw [k4] at hf
    rw [r29]
    exact h1 f hf
  · intro f p v a
    obtain ⟨b1, b2, b3, b4, b5⟩ := h2 f p v a
    rw [k4, r29, G f]
    refine ⟨b1, b2, b3, b4, ?_⟩
    simp only [xCnd, xWd, xBr, xOuts, xOp, c9, c10, k4, r28, r29, r30, r31, r32, r33, r34, r35, r36, r37, r38, r41, r42] at b5 ⊢
    exact b5
theorem xRT_keep {A : Nat → Nat → Int → Prop} {hc hr hc' hr' : xI} (K : Keep hc hr hc' hr') (H : xRT A hr) : xRT A hr' := by
  obtain ⟨k1, k2, k3, k4, k5, k6, k7⟩ := K
  have r32 : hr' 32 = hr 32 := k2 32 (by omega)
  have r47 : hr' 47 = hr 47 := k2 47 (by omega)
  have r48 : hr' 48 = hr 48 := k2 48 (by omega)
  have r49 : hr' 49 = hr 49 := k2 49 (by omega)
  simp only [xRT, k5, k6, k7, r32, r47, r48, r49] at H ⊢
  exact H
theorem RN_keep {hc hr hc' hr' : xI} (K : Keep hc hr hc' hr') (H : RN hc hr) : RN hc' hr' := by
  obtain ⟨k1, k2, k3, k4, k5, k6, k7⟩ := K
  have c19 : hc' 19 = hc 19 := k1 19 (by omega)
  have c21 : hc' 21 = hc 21 := k1 21 (by omega)
  have c22 : hc' 22 = hc 22 := k1 22 (by omega)
  have c23 : hc' 23 = hc 23 := k1 23 (by omega)
  have c24 : hc' 24 = hc 24 := k1 24 (by omega)
  have c25 : hc' 25 = hc 25 := k1 25 (by omega)
  have r46 : hr' 46 = hr 46 := k2 46 (by omega)
  have r47 : hr' 47 = hr 47 := k2 47 (by omega)
  have r48 : hr' 48 = hr 48 := k2 48 (by omega)
  have r49 : hr' 49 = hr 49 := k2 49 (by omega)
  have r50 : hr' 50 = hr 50 := k2 50 (by omega)
  simp only [RN, c19, c21, c22, c23, c24, c25, k4, k5, k6, k7, r46, r47, r48, r49, r50] at H ⊢
  exact H
theorem xQ_post {hc hr hc' hr' : xI} (H : xQ hc hr) (P : Post hc hr hc' hr') : xQ hc' hr' := by
  obtain ⟨p1, p2⟩ := P
  refine ⟨p1, fun hs => ?_⟩
  rcases p2 with p2 | ⟨p2, p3, K⟩
  · exact absurd p2 hs
  · obtain ⟨A, q1, q2⟩ := H.2 p2
    refine ⟨A, xKC_keep K.same q1, fun h2 => ?_⟩
    obtain ⟨n1, n2⟩ := q2 (p3 h2)
    exact ⟨RN_keep K n1, xRT_keep K n2⟩
/-- the three calls that are left give all -/
theorem xsims {hc hr : xI} (H : xQ hc hr)
    (hv : hr 27 1 = 0 → hr 27 4 ≠ 0 → ∀ g, Agree xQ (f_l_validate hc g) (f_m_validate hr))
    (hi : hr 27 1 ≠ 0 → hr 27 1 ≠ 2 → ∀ v, ∃ k hc' hr', f_l_invoke v hc = some (k, hc') ∧ f_m_invoke v hr = some hr' ∧ f_m_thrown hr' = k ∧ xQ hc' hr')
    (hn : hr 27 1 = 2 → ∀ v, AgreeN xQ (f_w_run v hc) (f_m_run v hr)) : Sims hc hr xQ := by
  have R := H.1
  have N : hr 27 1 = 2 → RN hc hr := by
    intro h2
    obtain ⟨A, q1, q2⟩ := H.2 (by rw [h2]; decide)
    exact (q2 h2).1
  have T : ∀ x y, Post hc hr x y → xQ x y := fun _ _ p => xQ_post H p
  refine ⟨fun n w g => (R.feed n w g).mono T, fun v g => (R.word v g).mono T, fun a b d g => (R.declare a b d g).mono T, fun g => ?_, fun v => ?_, ?_, fun v => (R.argument v).mono T, fun v => ?_, fun v => ?_, R.stop.mono T, fun g => ?_, fun v => ?_, fun a b g => ?_, fun v => ?_, fun v w => (R.poke v w).mono T, H⟩
  · by_cases h0 : hr 27 1 = 0
    · by_cases h4 : hr 27 4 = 0
      · exact (R.validateNo (.inr h4) g).mono T
      · exact hv h0 h4 g
    · exact (R.validateNo (.inl h0) g).mono T
  · obtain ⟨hr', a1, a2⟩ := R.fault v
    exact ⟨hr', a1, T _ _ a2⟩
  · obtain ⟨hc', hr', a1, a2, a3⟩ := R.clear
    exact ⟨hc', hr', a1, a2, T _ _ a3⟩
  · by_cases h0 : hr 27 1 = 0
    · obtain ⟨k, hc', hr', a1, a2, a3, a4⟩ := R.invokeNo (.inl h0) v
      exact ⟨k, hc', hr', a1, a2, a3, T _ _ a4⟩
    · by_cases h2 : hr 27 1 = 2
      · obtain ⟨k, hc', hr', a1, a2, a3, a4⟩ := R.invokeNo (.inr h2) v
        exact ⟨k, hc', hr', a1, a2, a3, T _ _ a4⟩
      · exact hi h0 h2 v
  · by_cases h2 : hr 27 1 = 2
    · exact hn h2 v
    · exact (R.runNo h2 v).mono T
  · obtain ⟨k, g', v, hr', a1, a2, a3, a4, a5⟩ := R.result g
    exact ⟨k, g', v, hr', a1, a2, a3, a4, T _ _ a5⟩
  · obtain ⟨hr', a1, a2⟩ := R.look N v
    exact ⟨hr', a1, T _ _ a2⟩
  · obtain ⟨k, g', v, hr', a1, a2, a3, a4, a5⟩ := R.value N a b g
    exact ⟨k, g', v, hr', a1, a2, a3, a4, T _ _ a5⟩
  · obtain ⟨hr', r, a1, a2, a3⟩ := R.peek v
    exact ⟨hr', r, a1, a2, T _ _ a3⟩
