/-! The law's loop over a relation. -/
def Sims (hc hr : xI) (Q : xI → xI → Prop) : Prop :=
  (∀ n w g, Agree Q (f_l_feed n w hc g) (f_m_feed n w hr)) ∧
  (∀ v g, Agree Q (f_l_word v hc g) (f_m_word v hr)) ∧
  (∀ a b d g, Agree Q (f_l_declare a b d hc g) (f_m_declare a b d hr)) ∧
  (∀ g, Agree Q (f_l_validate hc g) (f_m_validate hr)) ∧
  (∀ v, ∃ hr', f_m_fault v hr = some (f_w_fault v hc, hr') ∧ Q hc hr') ∧
  (∃ hc' hr', f_w_clear hc = some hc' ∧ f_m_clear hr = some hr' ∧ Q hc' hr') ∧
  (∀ v, AgreeN Q (f_w_argument v hc) (f_m_argument v hr)) ∧
  (∀ v, ∃ k hc' hr', f_l_invoke v hc = some (k, hc') ∧ f_m_invoke v hr = some hr' ∧ f_m_thrown hr' = k ∧ Q hc' hr') ∧
  (∀ v, AgreeN Q (f_w_run v hc) (f_m_run v hr)) ∧
  (AgreeN Q (f_w_stop hc) (f_m_stop hr)) ∧
  (∀ g, ∃ k g' v hr', f_l_result hc g = some (k, g') ∧ f_m_result hr = some (v, hr') ∧ f_m_thrown hr' = k ∧ (k = 0 → lg_cmp (g' 51 0) v.toInt64 = 0) ∧ Q hc hr') ∧
  (∀ v, ∃ hr', f_m_look v hr = some (f_w_look v hc, hr') ∧ Q hc hr') ∧
  (∀ a b g, ∃ k g' v hr', f_l_value a b hc g = some (k, g') ∧ f_m_value a b hr = some (v, hr') ∧ f_m_thrown hr' = k ∧ (k = 0 → lg_cmp (g' 51 0) v.toInt64 = 0) ∧ Q hc hr') ∧
  (∀ v, ∃ hr' r, f_w_peek v hc = some r ∧ f_m_peek v hr = some (r, hr') ∧ Q hc hr') ∧
  (∀ v w, AgreeN Q (f_w_poke v w hc) (f_m_poke v w hr)) ∧ Q hc hr
theorem xag {t k x : Int32} (h1 : t = k) (h2 : k = 0 → x = 0) (X Y : Option Int32) : (if t = k then (if k = 0 then (if x = 0 then X else Y) else X) else Y) = X := by
  rw [if_pos h1]
  by_cases hk : k = 0
  · rw [if_pos hk, if_pos (h2 hk)]
  · rw [if_neg hk]
theorem law_step {xs : Nat → Int32} {L n : Nat} {v4 : Int32} {hc hr : xI} {g : xJ} {Q : xI → xI → Prop} (h0 : 0 ≤ v4.toInt) (h3 : v4.toInt + 3 < L) (hL : L ≤ 2048) (S : Sims hc hr Q) (K : ∀ hc' hr' g', Q hc' hr' → f_l_law_23 xs L n (v4 + 4) hc' hr' g' = some 1) : f_l_law_23 xs L (n + 1) v4 hc hr g = some 1 := by
  have e1 : (1 : Int32).toInt = 1 := rfl
  have e2 : (2 : Int32).toInt = 2 := rfl
  have e3 : (3 : Int32).toInt = 3 := rfl
  have e4 : (4 : Int32).toInt = 4 := rfl
  have eL : (Int32.ofNat L).toInt = L := xi_ofNat (by omega)
  have eL4 : (Int32.ofNat L - 4).toInt = L - 4 := by rw [xi_sub (by omega) (by omega), eL, e4]
  have i1 : (v4 + 1).toInt = v4.toInt + 1 := xi_add (by omega) (by omega)
  have i2 : (v4 + 2).toInt = v4.toInt + 2 := xi_add (by omega) (by omega)
  have i3 : (v4 + 3).toInt = v4.toInt + 3 := xi_add (by omega) (by omega)
  obtain ⟨s0, s1, s2, s3, s4, s5, s6, s7, s8, s9, s10, s11, s12, s13, s14, s15⟩ := S
  unfold f_l_law_23
  rw [if_neg (by rw [xi_lt, eL4]; omega), xgd_ok h0 (by omega)]
  unfold f_l_law_209 f_l_law_265 f_l_law_345 f_l_law_389 f_l_law_568 f_l_law_661 f_l_law_726
  by_cases c0 : xs v4.toNatClampNeg &&& 15 = 0
  · rw [if_pos c0]
    simp only [xgd_ok (show 0 ≤ (v4 + 1).toInt by omega) (show (v4 + 1).toInt < L by omega), xgd_ok (show 0 ≤ (v4 + 2).toInt by omega) (show (v4 + 2).toInt < L by omega), xgd_ok (show 0 ≤ (v4 + 3).toInt by omega) (show (v4 + 3).toInt < L by omega)]
    obtain ⟨k, hc', g', v, hr', a1, a2, a3, a4, a5⟩ := s0 (xs (v4 + 1).toNatClampNeg) (((xs (v4 + 2).toNatClampNeg).toInt64 <<< ((32 : Int32).toInt64 &&& 63)) ||| ((xs (v4 + 3).toNatClampNeg).toInt64 &&& (4294967295 : Int64))) g
    rw [a1, a2]
    simp only [Option.bind_some]
    rw [xag a3 a4]
    exact K _ _ _ a5
  rw [if_neg c0]
  by_cases c1 : xs v4.toNatClampNeg &&& 15 = 1
  · rw [if_pos c1]
    simp only [xgd_ok (show 0 ≤ (v4 + 1).toInt by omega) (show (v4 + 1).toInt < L by omega)]
    obtain ⟨k, hc', g', v, hr', a1, a2, a3, a4, a5⟩ := s1 (xs (v4 + 1).toNatClampNeg) g
    rw [a1, a2]
    simp only [Option.bind_some]
    rw [xag a3 a4]
    exact K _ _ _ a5
  rw [if_neg c1]
  by_cases c2 : xs v4.toNatClampNeg &&& 15 = 2
  · rw [if_pos c2]
    simp only [xgd_ok (show 0 ≤ (v4 + 1).toInt by omega) (show (v4 + 1).toInt < L by omega), xgd_ok (show 0 ≤ (v4 + 2).toInt by omega) (show (v4 + 2).toInt < L by omega), xgd_ok (show 0 ≤ (v4 + 3).toInt by omega) (show (v4 + 3).toInt < L by omega)]
    obtain ⟨k, hc', g', v, hr', a1, a2, a3, a4, a5⟩ := s2 (xs (v4 + 1).toNatClampNeg) (xs (v4 + 2).toNatClampNeg) (xs (v4 + 3).toNatClampNeg) g
    rw [a1, a2]
    simp only [Option.bind_some]
    rw [xag a3 a4]
    exact K _ _ _ a5
  rw [if_neg c2]
  by_cases c3 : xs v4.toNatClampNeg &&& 15 = 3
  · rw [if_pos c3]
    obtain ⟨k, hc', g', v, hr', a1, a2, a3, a4, a5⟩ := s3 g
    rw [a1, a2]
    simp only [Option.bind_some]
    rw [xag a3 a4]
    exact K _ _ _ a5
  rw [if_neg c3]
  by_cases c4 : xs v4.toNatClampNeg &&& 15 = 4
  · rw [if_pos c4]
    simp only [xgd_ok (show 0 ≤ (v4 + 1).toInt by omega) (show (v4 + 1).toInt < L by omega)]
    obtain ⟨hr', a1, a2⟩ := s4 (xs (v4 + 1).toNatClampNeg)
    rw [a1]
    simp only [Option.bind_some]
    rw [if_pos trivial]
    exact K _ _ _ a2
  rw [if_neg c4]
  by_cases c5 : xs v4.toNatClampNeg &&& 15 = 5
  · rw [if_pos c5]
    obtain ⟨hc', hr', a1, a2, a3⟩ := s5
    rw [a1, a2]
    simp only [Option.bind_some]
    exact K _ _ _ a3
  rw [if_neg c5]
  by_cases c6 : xs v4.toNatClampNeg &&& 15 = 6
  · rw [if_pos c6]
    simp only [xgd_ok (show 0 ≤ (v4 + 1).toInt by omega) (show (v4 + 1).toInt < L by omega)]
    obtain ⟨v, hc', hr', a1, a2, a3⟩ := s6 (xs (v4 + 1).toNatClampNeg)
    rw [a1, a2]
    simp only [Option.bind_some]
    rw [if_pos trivial]
    exact K _ _ _ a3
  rw [if_neg c6]
  by_cases c7 : xs v4.toNatClampNeg &&& 15 = 7
  · rw [if_pos c7]
    simp only [xgd_ok (show 0 ≤ (v4 + 1).toInt by omega) (show (v4 + 1).toInt < L by omega)]
    obtain ⟨k, hc', hr', a1, a2, a3, a4⟩ := s7 (xs (v4 + 1).toNatClampNeg)
    rw [a1, a2]
    simp only [Option.bind_some]
    rw [if_pos a3]
    exact K _ _ _ a4
  rw [if_neg c7]
  by_cases c8 : xs v4.toNatClampNeg &&& 15 = 8
  · rw [if_pos c8]
    simp only [xgd_ok (show 0 ≤ (v4 + 1).toInt by omega) (show (v4 + 1).toInt < L by omega)]
    obtain ⟨v, hc', hr', a1, a2, a3⟩ := s8 (xs (v4 + 1).toNatClampNeg)
    rw [a1, a2]
    simp only [Option.bind_some]
    rw [if_pos trivial]
    exact K _ _ _ a3
  rw [if_neg c8]
  by_cases c9 : xs v4.toNatClampNeg &&& 15 = 9
  · rw [if_pos c9]
    obtain ⟨v, hc', hr', a1, a2, a3⟩ := s9
    rw [a1, a2]
    simp only [Option.bind_some]
    rw [if_pos trivial]
    exact K _ _ _ a3
  rw [if_neg c9]
  by_cases c10 : xs v4.toNatClampNeg &&& 15 = 10
  · rw [if_pos c10]
    obtain ⟨k, g', v, hr', a1, a2, a3, a4, a5⟩ := s10 g
    rw [a1, a2]
    simp only [Option.bind_some]
    rw [xag a3 a4]
    exact K _ _ _ a5
  rw [if_neg c10]
  by_cases c11 : xs v4.toNatClampNeg &&& 15 = 11
  · rw [if_pos c11]
    simp only [xgd_ok (show 0 ≤ (v4 + 1).toInt by omega) (show (v4 + 1).toInt < L by omega)]
    obtain ⟨hr', a1, a2⟩ := s11 (xs (v4 + 1).toNatClampNeg)
    rw [a1]
    simp only [Option.bind_some]
    rw [if_pos trivial]
    exact K _ _ _ a2
  rw [if_neg c11]
  by_cases c12 : xs v4.toNatClampNeg &&& 15 = 12
  · rw [if_pos c12]
    simp only [xgd_ok (show 0 ≤ (v4 + 1).toInt by omega) (show (v4 + 1).toInt < L by omega), xgd_ok (show 0 ≤ (v4 + 2).toInt by omega) (show (v4 + 2).toInt < L by omega)]
    obtain ⟨k, g', v, hr', a1, a2, a3, a4, a5⟩ := s12 (xs (v4 + 1).toNatClampNeg) (xs (v4 + 2).toNatClampNeg) g
    rw [a1, a2]
    simp only [Option.bind_some]
    rw [xag a3 a4]
    exact K _ _ _ a5
  rw [if_neg c12]
  by_cases c13 : xs v4.toNatClampNeg &&& 15 = 13
  · rw [if_pos c13]
    simp only [xgd_ok (show 0 ≤ (v4 + 1).toInt by omega) (show (v4 + 1).toInt < L by omega)]
    obtain ⟨hr', r, a1, a2, a3⟩ := s13 (xs (v4 + 1).toNatClampNeg)
    rw [a1, a2]
    simp only [Option.bind_some]
    rw [if_pos trivial]
    exact K _ _ _ a3
  rw [if_neg c13]
  by_cases c14 : xs v4.toNatClampNeg &&& 15 = 14
  · rw [if_pos c14]
    simp only [xgd_ok (show 0 ≤ (v4 + 1).toInt by omega) (show (v4 + 1).toInt < L by omega), xgd_ok (show 0 ≤ (v4 + 2).toInt by omega) (show (v4 + 2).toInt < L by omega)]
    obtain ⟨v, hc', hr', a1, a2, a3⟩ := s14 (xs (v4 + 1).toNatClampNeg) (xs (v4 + 2).toNatClampNeg)
    rw [a1, a2]
    simp only [Option.bind_some]
    rw [if_pos trivial]
    exact K _ _ _ a3
  rw [if_neg c14]
  exact K _ _ _ s15
theorem law_end {xs : Nat → Int32} {L n : Nat} {v4 : Int32} {hc hr : xI} {g : xJ} (h0 : 0 ≤ v4.toInt) (h3 : (L : Int) ≤ v4.toInt + 3) (hL : L ≤ 2048) : f_l_law_23 xs L (n + 1) v4 hc hr g = some 1 := by
  have e4 : (4 : Int32).toInt = 4 := rfl
  have eL : (Int32.ofNat L).toInt = L := xi_ofNat (by omega)
  have eL4 : (Int32.ofNat L - 4).toInt = L - 4 := by rw [xi_sub (by omega) (by omega), eL, e4]
  unfold f_l_law_23
  rw [if_pos (by rw [xi_lt, eL4]; omega)]
/-- the whole loop, where a relation is kept -/
theorem law_all {xs : Nat → Int32} {L : Nat} {Q : xI → xI → Prop} (hL : L ≤ 2048) (S : ∀ hc hr, Q hc hr → Sims hc hr Q) : ∀ (n : Nat) (v4 : Int32) (hc hr : xI) (g : xJ), Q hc hr → 0 ≤ v4.toInt → v4.toInt ≤ 2051 → (L : Int) ≤ v4.toInt + 4 * n → f_l_law_23 xs L (n + 1) v4 hc hr g = some 1 := by
  intro n
  induction n with
  | zero => intro v4 hc hr g _ h0 _ h; exact law_end h0 (by omega) hL
  | succ n ih =>
    intro v4 hc hr g q h0 h1 h
    by_cases h3 : v4.toInt + 3 < L
    · have e4 : (4 : Int32).toInt = 4 := rfl
      have i4 : (v4 + 4).toInt = v4.toInt + 4 := xi_add (by omega) (by omega)
      exact law_step h0 h3 hL (S hc hr q) (fun hc' hr' g' q' => ih (v4 + 4) hc' hr' g' q' (by omega) (by omega) (by omega))
    · exact law_end h0 (by omega) hL
