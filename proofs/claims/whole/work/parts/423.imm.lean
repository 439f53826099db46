/-! The check of the immediates. -/
theorem xshapes (w : Int32) (hk : f_o_shapeOf w ≠ -1) : (f_o_shapeOf w = 0 ∧ (w.toInt < 2 ∨ 4 < w.toInt) ∧ w ≠ 12 ∧ w ≠ 13 ∧ w ≠ 14 ∧ w ≠ 16 ∧ (w.toInt < 32 ∨ 34 < w.toInt) ∧ w ≠ 35 ∧ w ≠ 36 ∧ (w.toInt < 40 ∨ 59 < w.toInt)) ∨ (w = 2 ∨ w = 3 ∨ w = 4) ∨ (w = 12 ∨ w = 13) ∨ w = 14 ∨ w = 16 ∨ (w = 32 ∨ w = 33 ∨ w = 34) ∨ (w = 35 ∨ w = 36) ∨ (w = 40 ∨ w = 44 ∨ w = 45 ∨ w = 46 ∨ w = 47 ∨ w = 54 ∨ w = 58 ∨ w = 59) ∨ w = 65 :=
  xop_known (P := fun w => (f_o_shapeOf w = 0 ∧ (w.toInt < 2 ∨ 4 < w.toInt) ∧ w ≠ 12 ∧ w ≠ 13 ∧ w ≠ 14 ∧ w ≠ 16 ∧ (w.toInt < 32 ∨ 34 < w.toInt) ∧ w ≠ 35 ∧ w ≠ 36 ∧ (w.toInt < 40 ∨ 59 < w.toInt)) ∨ (w = 2 ∨ w = 3 ∨ w = 4) ∨ (w = 12 ∨ w = 13) ∨ w = 14 ∨ w = 16 ∨ (w = 32 ∨ w = 33 ∨ w = 34) ∨ (w = 35 ∨ w = 36) ∨ (w = 40 ∨ w = 44 ∨ w = 45 ∨ w = 46 ∨ w = 47 ∨ w = 54 ∨ w = 58 ∨ w = 59) ∨ w = 65) (by decide +kernel) w hk
theorem xwd_bare {hr : xI} {f v : Nat} (h : f_o_shapeOf (hr 28 v) = 0) : xWd hr f v := by
  have q : ∀ w : Int32, f_o_shapeOf w = 0 → w ≠ 2 ∧ w ≠ 3 ∧ w ≠ 4 ∧ w ≠ 14 ∧ w ≠ 16 ∧ w ≠ 32 ∧ w ≠ 33 ∧ w ≠ 34 ∧ w ≠ 35 ∧ w ≠ 36 := by
    intro w hw
    refine ⟨?_, ?_, ?_, ?_, ?_, ?_, ?_, ?_, ?_, ?_⟩ <;> (intro e; rw [e] at hw; exact absurd hw (by decide))
  obtain ⟨q1, q2, q3, q4, q5, q6, q7, q8, q9, q10⟩ := q _ h
  refine ⟨by rw [h]; decide, fun e => absurd h e, fun e => ?_, fun e => absurd e q4, fun e => absurd e q5, fun e => ?_, fun e => ?_, fun e => ?_⟩
  · rcases e with e | e | e
    · exact absurd e q1
    · exact absurd e q2
    · exact absurd e q3
  · rcases e with e | e | e
    · exact absurd e q6
    · exact absurd e q7
    · exact absurd e q8
  · rcases e with e | e
    · exact absurd e q9
    · exact absurd e q10
  · rw [h] at e; exact absurd e (by decide)
/-- what the labels get -/
def xLab (hc1 hc hr : xI) (d lp : Nat) : Prop := ∃ l : Nat, (hr 28 lp).toInt = l ∧ l < d ∧ hc1 10 lp = hc 18 (d - 1 - l)
theorem xlabel {hc hr : xI} (R2 : ∀ j, hc 2 j = hr 28 j) {d lp : Nat} (hd : (hr 27 23).toInt = d) (hd9 : d ≤ 9) (fr : hc 13 6 = hr 27 23) {LP : Int32} (hl : LP.toInt = lp) (hlb : lp < 240) :
    (f_m_isLabel (hr 28 lp) hr = 0 ∧ f_k_checkLabel LP hc = f_k_fail 4 hc) ∨ (f_m_isLabel (hr 28 lp) hr = 1 ∧ ∃ l : Nat, (hr 28 lp).toInt = l ∧ l < d ∧ f_k_checkLabel LP hc = some (xput hc 10 lp (hc 18 (d - 1 - l)))) := by
  have e0 : (0 : Int32).toInt = 0 := rfl
  have e1 : (1 : Int32).toInt = 1 := rfl
  unfold f_m_isLabel f_k_checkLabel f_k_checkLabel_22
  rw [xgd_ok (by omega) (by omega), xi_cl hl, R2, fr]
  by_cases h0 : hr 28 lp < 0
  · rw [if_pos h0, if_pos h0, xbs]
    exact .inl ⟨rfl, rfl⟩
  · rw [if_neg h0, if_neg h0]
    rw [xi_lt] at h0
    by_cases h1 : hr 27 23 ≤ hr 28 lp
    · rw [if_pos h1, if_neg (by rw [xi_le] at h1; rw [xi_lt]; omega), xbs]
      exact .inl ⟨rfl, rfl⟩
    · have h1' := h1
      rw [xi_le] at h1'
      have s1 : (hr 27 23 - 1).toInt = d - 1 := by rw [xi_sub (by omega) (by omega), hd, e1]
      have s2 : (hr 27 23 - 1 - hr 28 lp).toInt = d - 1 - (hr 28 lp).toInt := by rw [xi_sub (by omega) (by omega), s1]
      have s3 : (hr 27 23 - 1 - hr 28 lp).toNatClampNeg = d - 1 - (hr 28 lp).toInt.toNat := by rw [xi_nat]; omega
      rw [if_neg h1, if_pos (by rw [xi_lt]; omega), xgd_ok (by omega) (by omega), xgd_ok (by omega) (by omega), s3]
      exact .inr ⟨rfl, (hr 28 lp).toInt.toNat, by omega, by omega, rfl⟩
/-- the labels of a table -/
theorem xlabels {hr : xI} {d v : Nat} {P V3 : Int32} (hP : P.toInt = v) (hV3 : V3.toInt = v) (hd : (hr 27 23).toInt = d) (hd9 : d ≤ 9) {n : Int32} {nn : Nat} (hn : n.toInt = nn) (hn8 : nn ≤ 8) (hb : v + 2 + nn < 240) (h14 : ∀ r, f_m_flaw_131 14 n r = some 0) : ∀ (m i : Nat) (hc : xI), (∀ j, hc 2 j = hr 28 j) → hc 13 6 = hr 27 23 → hc 13 11 = P → i ≤ nn + 1 → nn + 1 - i < m → ∃ hc', f_k_checkTable_43 m n (Int32.ofNat i) hc = some hc' ∧ (∀ k, k ≠ 10 → k ≠ 13 → hc' k = hc k) ∧ (∀ j, j ≠ 9 → hc' 13 j = hc 13 j) ∧ (∀ b, b < v + 2 + i → hc' 10 b = hc 10 b) ∧
    ((hc 13 9 ≠ 0 ∧ hc' 13 9 = hc 13 9) ∨ (hc 13 9 = 0 ∧ f_m_flaw_98 m V3 14 n (Int32.ofNat i) hr = some (hc' 13 9) ∧ (hc' 13 9 = 0 ∨ hc' 13 9 = 4) ∧ (hc' 13 9 = 0 → ∀ k : Nat, i ≤ k → k ≤ nn → xLab hc' hc hr d (v + 2 + k)))) := by
  have e1 : (1 : Int32).toInt = 1 := rfl
  have e2 : (2 : Int32).toInt = 2 := rfl
  intro m
  induction m with
  | zero => intro i hc h2 hf hp h0 h1; omega
  | succ m ih =>
    intro i hc h2 hf hp h0 h1
    have ei : (Int32.ofNat i).toInt = i := xi_ofNat (by omega)
    unfold f_k_checkTable_43 f_m_flaw_98
    by_cases z : i = nn + 1
    · rw [if_pos (by rw [xi_lt]; omega), if_pos (by rw [xi_lt]; omega), h14]
      refine ⟨hc, rfl, fun _ _ _ => rfl, fun _ _ => rfl, fun _ _ => rfl, ?_⟩
      by_cases q : hc 13 9 = 0
      · exact .inr ⟨q, by rw [q], .inl q, fun _ k a b => by omega⟩
      · exact .inl ⟨q, rfl⟩
    · have es : Int32.ofNat i + 1 = Int32.ofNat (i + 1) := by
        rw [xi_eq, xi_add (by omega) (by omega), ei, xi_ofNat (by omega), e1]
        omega
      have p2 : (P + 2).toInt = v + 2 := by rw [xi_add (by omega) (by omega), hP, e2]
      have p3 : (P + 2 + Int32.ofNat i).toInt = (v + 2 + i : Nat) := by rw [xi_add (by omega) (by omega), p2, ei]; omega
      have v2 : (V3 + 2).toInt = v + 2 := by rw [xi_add (by omega) (by omega), hV3, e2]
      have v3 : (V3 + 2 + Int32.ofNat i).toInt = (v + 2 + i : Nat) := by rw [xi_add (by omega) (by omega), v2, ei]; omega
      have zl : ¬ n < Int32.ofNat i := by rw [xi_lt]; omega
      rw [if_neg zl, if_neg zl, hp, xgd_ok (by omega) (by omega), xi_cl v3, es]
      rcases xlabel h2 hd hd9 hf p3 (by omega) with ⟨l1, l2⟩ | ⟨l1, l, l2, l3, l4⟩
      · rw [l1, if_pos rfl, l2]
        by_cases q : hc 13 9 = 0
        · have kf : f_k_fail 4 hc = some (xput hc 13 9 4) := by unfold f_k_fail; rw [if_pos q]
          rw [kf, Option.bind_some]
          obtain ⟨hc', a1, a2, a3, a4, a5⟩ := ih (i + 1) (xput hc 13 9 4) (by rw [xput_off (by omega)]; exact h2) (by simp only [xput_at, Nat.reduceEqDiff, reduceIte]; exact hf) (by simp only [xput_at, Nat.reduceEqDiff, reduceIte]; exact hp) (by omega) (by omega)
          have e9 : xput hc 13 9 4 13 9 = 4 := by simp [xput_at]
          rw [e9] at a5
          have f9 : hc' 13 9 = 4 := by
            rcases a5 with ⟨-, a5⟩ | ⟨a5, -⟩
            · exact a5
            · exact absurd a5 (by decide)
          refine ⟨hc', a1, fun k x y => by rw [a2 k x y, xput_off y], fun j x => by rw [a3 j x]; simp [xput_at, x], fun b hb' => by rw [a4 b (by omega), xput_off (by omega)], .inr ⟨q, by rw [f9], .inr f9, fun e => by rw [f9] at e; exact absurd e (by decide)⟩⟩
        · have kf : f_k_fail 4 hc = some hc := by unfold f_k_fail; rw [if_neg q]
          rw [kf, Option.bind_some]
          obtain ⟨hc', a1, a2, a3, a4, a5⟩ := ih (i + 1) hc h2 hf hp (by omega) (by omega)
          refine ⟨hc', a1, a2, a3, fun b hb' => a4 b (by omega), .inl ⟨q, ?_⟩⟩
          rcases a5 with ⟨-, a5⟩ | ⟨a5, -⟩
          · exact a5
          · exact absurd a5 q
      · rw [l1, if_neg (by decide), l4, Option.bind_some]
        obtain ⟨hc', a1, a2, a3, a4, a5⟩ := ih (i + 1) (xput hc 10 (v + 2 + i) (hc 18 (d - 1 - l))) (by rw [xput_off (by omega)]; exact h2) (by simp only [xput_at, Nat.reduceEqDiff, reduceIte]; exact hf) (by simp only [xput_at, Nat.reduceEqDiff, reduceIte]; exact hp) (by omega) (by omega)
        have e9 : xput hc 10 (v + 2 + i) (hc 18 (d - 1 - l)) 13 = hc 13 := xput_off (by omega)
        have e18 : xput hc 10 (v + 2 + i) (hc 18 (d - 1 - l)) 18 = hc 18 := xput_off (by omega)
        rw [e9] at a3 a5
        refine ⟨hc', a1, fun k x y => by rw [a2 k x y, xput_off x], a3, fun b hb' => ?_, ?_⟩
        · rw [a4 b (by omega), xput_at, if_pos rfl, if_neg (by omega)]
        · rcases a5 with a5 | ⟨a5, a6, a7, a8⟩
          · exact .inl a5
          · refine .inr ⟨a5, a6, a7, fun e k hk1 hk2 => ?_⟩
            by_cases ki : k = i
            · subst ki
              refine ⟨l, l2, l3, ?_⟩
              rw [a4 _ (by omega), xput_at, if_pos rfl, if_pos rfl]
            · obtain ⟨l', u1, u2, u3⟩ := a8 e k (by omega) hk2
              rw [e18] at u3
              exact ⟨l', u1, u2, u3⟩
