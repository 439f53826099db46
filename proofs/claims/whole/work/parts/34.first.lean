/-! The first call. -/
theorem Agree.mono {P Q : xI → xI → Prop} {a : Option (Int32 × xI × xJ)} {b : Option (Int32 × xI)} (h : ∀ x y, P x y → Q x y) (A : Agree P a b) : Agree Q a b := by
  obtain ⟨k, hc', g', v, hr', a1, a2, a3, a4, a5⟩ := A
  exact ⟨k, hc', g', v, hr', a1, a2, a3, a4, h _ _ a5⟩
theorem AgreeN.mono {P Q : xI → xI → Prop} {a b : Option (Int32 × xI)} (h : ∀ x y, P x y → Q x y) (A : AgreeN P a b) : AgreeN Q a b := by
  obtain ⟨v, hc', hr', a1, a2, a5⟩ := A
  exact ⟨v, hc', hr', a1, a2, h _ _ a5⟩
/-- a check that is refused -/
theorem RB.validateNo {hc hr : xI} (R : RB hc hr) (hn : hr 27 1 ≠ 0 ∨ hr 27 4 = 0) (g : xJ) : Agree (Post hc hr) (f_l_validate hc g) (f_m_validate hr) := by
  have no : Agree (Post hc hr) (some (1, hc, g)) (some (0, xput hr 27 0 1)) := ⟨_, _, _, _, _, rfl, rfl, rfl, fun h => absurd h (by decide), Post.thrown R 1⟩
  have m31 : f_m_validate_31 hr = some (0, xput hr 27 0 1) := rfl
  unfold f_l_validate f_w_validate f_m_validate f_w_validate_27
  rw [R.status, R.fns, m31]
  by_cases hs : hr 27 1 = 0
  · rw [if_pos hs, if_pos hs]
    have hf : hr 27 4 = 0 := hn.resolve_left (fun h => h hs)
    rw [if_pos hf, if_pos hf]
    exact no
  · rw [if_neg hs, if_neg hs]
    exact no
/-- a run where none goes on -/
theorem RB.runNo {hc hr : xI} (R : RB hc hr) (hs : hr 27 1 ≠ 2) (v : Int32) : AgreeN (Post hc hr) (f_w_run v hc) (f_m_run v hr) := by
  have w : ∀ n, f_w_run_15 (n + 1) v 0 hc = some (0, hc) := by
    intro n
    unfold f_w_run_15
    rw [R.status, if_neg hs, ite_self]
  have m : ∀ n, f_m_run_20 (n + 1) v 0 (xput hr 27 0 0) = some (0, xput hr 27 0 0) := by
    intro n
    unfold f_m_run_20
    have e : xput hr 27 0 0 27 1 = hr 27 1 := by simp [xput_at]
    rw [e, if_neg hs, ite_self]
  unfold f_w_run f_m_run
  rw [w 999, m 999]
  by_cases h0 : v < 0
  · rw [if_pos h0, if_pos h0]
    exact ⟨_, _, _, rfl, rfl, Post.thrown R 0⟩
  rw [if_neg h0, if_neg h0]
  by_cases h5 : v ≤ 500
  · rw [if_pos h5, if_pos h5]
    exact ⟨_, _, _, rfl, rfl, Post.thrown R 0⟩
  · rw [if_neg h5, if_neg h5]
    exact ⟨_, _, _, rfl, rfl, Post.thrown R 0⟩
/-- a call of a function that is refused for the status -/
theorem RB.invokeNo {hc hr : xI} (R : RB hc hr) (hs : hr 27 1 = 0 ∨ hr 27 1 = 2) (v : Int32) : ∃ k hc' hr', f_l_invoke v hc = some (k, hc') ∧ f_m_invoke v hr = some hr' ∧ f_m_thrown hr' = k ∧ Post hc hr hc' hr' := by
  have no : ∃ k hc' hr', (some (1, hc) : Option (Int32 × xI)) = some (k, hc') ∧ (some (xput hr 27 0 1) : Option xI) = some hr' ∧ f_m_thrown hr' = k ∧ Post hc hr hc' hr' := ⟨_, _, _, rfl, rfl, rfl, Post.thrown R 1⟩
  have m16 : f_m_invoke_16 v hr = some (xput hr 27 0 1) := rfl
  unfold f_l_invoke f_w_invoke f_m_invoke f_w_invoke_15
  rw [R.status, m16]
  by_cases h0 : hr 27 1 = 0
  · rw [if_pos h0, if_pos h0]
    exact no
  · rw [if_neg h0, if_neg h0]
    have h2 := hs.resolve_left h0
    rw [if_pos h2, if_pos h2]
    exact no
set_option maxRecDepth 100000 in
theorem RB.init (xs : Nat → Int32) : RB (xhI xs) (xhI xs) := by
  have z4 : xhI xs 27 4 = 0 := rfl
  have z2 : xhI xs 27 2 = 0 := rfl
  have z1 : xhI xs 27 1 = 0 := rfl
  have z29 : xhI xs 27 29 = 0 := rfl
  have z27 : xhI xs 27 27 = 1 := rfl
  have y29 : ∀ j, xhI xs 29 j = 0 := fun _ => rfl
  have y30 : ∀ j, xhI xs 30 j = 0 := fun _ => rfl
  have y31 : ∀ j, xhI xs 31 j = 0 := fun _ => rfl
  have y32 : ∀ j, xhI xs 32 j = 0 := fun _ => rfl
  have y12 : ∀ j, xhI xs 12 j = 0 := fun _ => rfl
  have y43 : ∀ j, xhI xs 43 j = 0 := fun _ => rfl
  have x5 : ∀ j, xhI xs 5 j = 0 := fun _ => rfl
  refine ⟨rfl, by rw [z29]; decide, fun _ => rfl, rfl, by rw [z1]; decide, fun h => absurd h (by rw [z1]; decide), rfl, rfl, rfl, by rw [z2]; decide, fun _ => rfl, rfl, by rw [z4]; decide, y29 0, fun _ => rfl, fun _ => rfl, fun f => by rw [y30]; decide, fun f => by rw [x5, y30, y31]; rfl, fun f => by rw [y31]; decide, fun _ => rfl, fun f => .inl (y32 f), fun f h => ?_, ?_, fun j => by rw [y43, y12]; rfl, rfl, by rw [z27]; decide, fun _ => rfl, fun h => absurd h (by rw [z1]; decide)⟩
  · rw [z4] at h
    have e0 : (0 : Int32).toInt = 0 := rfl
    omega
  · rw [y29, z2]
    decide
theorem sims_first (xs : Nat → Int32) : Sims (xhI xs) (xhI xs) (fun _ _ => True) := by
  have R := RB.init xs
  have z1 : xhI xs 27 1 = 0 := rfl
  have z4 : xhI xs 27 4 = 0 := rfl
  have n2 : xhI xs 27 1 ≠ 2 := by rw [z1]; decide
  have T : ∀ x y, Post (xhI xs) (xhI xs) x y → True := fun _ _ _ => trivial
  refine ⟨fun n w g => (R.feed n w g).mono T, fun v g => (R.word v g).mono T, fun a b d g => (R.declare a b d g).mono T, fun g => (R.validateNo (.inr z4) g).mono T, fun v => ?_, ?_, fun v => (R.argument v).mono T, fun v => ?_, fun v => (R.runNo n2 v).mono T, R.stop.mono T, fun g => ?_, fun v => ?_, fun a b g => ?_, fun v => ?_, fun v w => (R.poke v w).mono T, trivial⟩
  · obtain ⟨hr', a1, -⟩ := R.fault v
    exact ⟨hr', a1, trivial⟩
  · obtain ⟨hc', hr', a1, a2, -⟩ := R.clear
    exact ⟨hc', hr', a1, a2, trivial⟩
  · obtain ⟨k, hc', hr', a1, a2, a3, -⟩ := R.invokeNo (.inl z1) v
    exact ⟨k, hc', hr', a1, a2, a3, trivial⟩
  · obtain ⟨k, g', v, hr', a1, a2, a3, a4, -⟩ := R.result g
    exact ⟨k, g', v, hr', a1, a2, a3, a4, trivial⟩
  · obtain ⟨hr', a1, -⟩ := R.look (fun h => absurd h n2) v
    exact ⟨hr', a1, trivial⟩
  · obtain ⟨k, g', v, hr', a1, a2, a3, a4, -⟩ := R.value (fun h => absurd h n2) a b g
    exact ⟨k, g', v, hr', a1, a2, a3, a4, trivial⟩
  · obtain ⟨hr', r, a1, a2, -⟩ := R.peek v
    exact ⟨hr', r, a1, a2, trivial⟩
/-- scripts of one call -/
theorem xpure4 (L : Nat) (xs : Nat → Int32) (hL : L ≤ 4) : f_l_law xs L (xhI xs) (xhI xs) xjI = some 1 := by
  unfold f_l_law
  have e0 : (0 : Int32).toInt = 0 := rfl
  by_cases h : L = 4
  · refine law_step (n := 599) (by omega) (by omega) (by omega) (sims_first xs) (fun hc' hr' g' _ => ?_)
    have i4 : ((0 : Int32) + 4).toInt = 4 := rfl
    exact law_end (n := 598) (by omega) (by omega) (by omega)
  · exact law_end (n := 599) (by omega) (by omega) (by omega)
