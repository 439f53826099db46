/-! All steps, and the run. -/
theorem xwords (w : Int32) (hk : f_o_shapeOf w ≠ -1) : w = 0 ∨ w = 1 ∨ (w = 2 ∨ w = 3) ∨ w = 4 ∨ w = 5 ∨ w = 11 ∨ w = 12 ∨ w = 13 ∨ w = 14 ∨ w = 15 ∨ w = 16 ∨ w = 26 ∨ w = 27 ∨ w = 32 ∨ w = 33 ∨ w = 34 ∨ w = 35 ∨ w = 36 ∨ f_m_isLoad w ≠ 0 ∨ f_m_isStore w ≠ 0 ∨ w = 63 ∨ w = 64 ∨ w = 65 ∨ w = 69 ∨ w = 103 ∨ w = 104 ∨ w = 105 ∨ (70 ≤ w.toInt ∧ w.toInt ≤ 79) ∨ (106 ≤ w.toInt ∧ w.toInt ≤ 120) :=
  xop_known (P := fun w => w = 0 ∨ w = 1 ∨ (w = 2 ∨ w = 3) ∨ w = 4 ∨ w = 5 ∨ w = 11 ∨ w = 12 ∨ w = 13 ∨ w = 14 ∨ w = 15 ∨ w = 16 ∨ w = 26 ∨ w = 27 ∨ w = 32 ∨ w = 33 ∨ w = 34 ∨ w = 35 ∨ w = 36 ∨ f_m_isLoad w ≠ 0 ∨ f_m_isStore w ≠ 0 ∨ w = 63 ∨ w = 64 ∨ w = 65 ∨ w = 69 ∨ w = 103 ∨ w = 104 ∨ w = 105 ∨ (70 ≤ w.toInt ∧ w.toInt ≤ 79) ∨ (106 ≤ w.toInt ∧ w.toInt ≤ 120)) (by decide +kernel) w hk
theorem xstep_all {A : Nat → Nat → Int → Prop} {hc hr : xI} (B : xBef A hc hr) : xStepOK A hc hr := by
  obtain ⟨c, f, p, v, X⟩ := xbef B
  have k := X.2.2.2.2.2.2.2.2.2.2.2.2.2.2.2.2.1.1
  rcases xwords _ k with h | h | h | h | h | h | h | h | h | h | h | h | h | h | h | h | h | h | h | h | h | h | h | h | h | h | h | h | h
  · exact xs_unr B X h
  · exact xs_nop B X h
  · exact xs_block B X h
  · exact xs_if B X h
  · exact xs_else B X h
  · exact xs_end B X h
  · exact xs_br B X h
  · exact xs_brif B X h
  · exact xs_table B X h
  · exact xs_ret B X h
  · exact xs_call B X h
  · exact xs_drop B X h
  · exact xs_select B X h
  · exact xs_lget B X h
  · exact xs_lset B X h
  · exact xs_ltee B X h
  · exact xs_gget B X h
  · exact xs_gset B X h
  · exact xs_load B X h
  · exact xs_store B X h
  · exact xs_msize B X h
  · exact xs_grow B X h
  · exact xs_const B X h
  · exact xs_un69 B X h
  · exact xs_un103 B X h
  · exact xs_un104 B X h
  · exact xs_un105 B X h
  · exact xs_cmp B X (.inl h) h.2
  · by_cases d : 109 ≤ (hr 28 p).toInt ∧ (hr 28 p).toInt ≤ 112
    · exact xs_div B X (.inr h) d
    · exact xs_two B X (.inr h) (by omega) (by omega)
theorem xrun_loop {A : Nat → Nat → Int → Prop} (v : Int32) (hv : v.toInt ≤ 500) : ∀ (n : Nat) (i : Int32) (hc hr : xI), xAft A hc hr → 0 ≤ i.toInt → i.toInt ≤ 500 → v.toInt - i.toInt < n → 0 < n → ∃ r hc' hr', f_w_run_15 n v i hc = some (r, hc') ∧ f_m_run_20 n v i hr = some (r, hr') ∧ xAft A hc' hr' := by
  have e1 : (1 : Int32).toInt = 1 := rfl
  intro n
  induction n with
  | zero => intro i hc hr Q h0 h1 h2 h3; omega
  | succ n ih =>
    intro i hc hr Q h0 h1 h2 h3
    have Q' := Q
    obtain ⟨R, K, n0, N⟩ := Q'
    unfold f_w_run_15 f_m_run_20
    by_cases z : v ≤ i
    · rw [if_pos z, if_pos z]
      exact ⟨i, hc, hr, rfl, rfl, Q⟩
    · rw [if_neg z, if_neg z, R.status]
      rw [xi_le] at z
      by_cases s : hr 27 1 = 2
      · rw [if_pos s, if_pos s]
        obtain ⟨N1, T1⟩ := N s
        obtain ⟨hc', hr', a1, a2, a3⟩ := xstep_all (A := A) ⟨R, K, s, N1, T1⟩
        have ei : (i + 1).toInt = i.toInt + 1 := by rw [xi_add (by omega) (by omega), e1]
        obtain ⟨r, hc2, hr2, b1, b2, b3⟩ := ih (i + 1) hc' hr' a3 (by omega) (by omega) (by omega) (by omega)
        refine ⟨r, hc2, hr2, ?_, ?_, b3⟩
        · cases hs : f_h_step hc with
          | none => rw [hs] at a1; cases a1
          | some q =>
            rw [hs, Option.bind_some] at a1
            rw [Option.bind_some, a1, Option.bind_some]
            exact b1
        · rw [a2, Option.bind_some]
          exact b2
      · rw [if_neg s, if_neg s]
        exact ⟨i, hc, hr, rfl, rfl, Q⟩
theorem xAft.q {A : Nat → Nat → Int → Prop} {hc hr : xI} (Q : xAft A hc hr) : xQ hc hr := ⟨Q.1, fun _ => ⟨A, Q.2.1, Q.2.2.2⟩⟩
theorem xrun_all {hc hr : xI} (Q : xQ hc hr) (hs : hr 27 1 = 2) (v : Int32) : AgreeN xQ (f_w_run v hc) (f_m_run v hr) := by
  have P := xQ_post Q (Post.thrown Q.1 0)
  unfold f_w_run f_m_run
  by_cases h0 : v < 0
  · rw [if_pos h0, if_pos h0]
    exact ⟨_, _, _, rfl, rfl, P⟩
  rw [if_neg h0, if_neg h0]
  by_cases h5 : v ≤ 500
  · rw [if_pos h5, if_pos h5]
    obtain ⟨A, K, N⟩ := P.2 (by simp [xput_at, hs])
    have e5 : (500 : Int32).toInt = 500 := rfl
    have e0 : (0 : Int32).toInt = 0 := rfl
    rw [xi_le] at h5
    obtain ⟨r, hc', hr', a1, a2, a3⟩ := xrun_loop (A := A) v (by omega) 1000 0 hc (xput hr 27 0 0) ⟨P.1, K, by simp [xput_at, hs], N⟩ (by omega) (by omega) (by omega) (by omega)
    exact ⟨r, hc', hr', a1, a2, a3.q⟩
  · rw [if_neg h5, if_neg h5]
    exact ⟨_, _, _, rfl, rfl, P⟩
