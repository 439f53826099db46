/-! validate. -/
theorem xfirst : ∀ (n k : Nat) (hc hr : xI) (A : Nat → Nat → Int → Prop) (v : Nat), RB hc hr → xBtw A hc hr k v → hc 13 9 = 0 → hr 27 25 = 0 → (k : Int) ≤ (hr 27 4).toInt → (hr 27 4).toInt - k + 1 < n → ∃ hc' hr' E, f_k_firstError_7 n (Int32.ofNat k) hc = some (E, hc') ∧ ((E = 0 ∧ f_m_validate_60 n (Int32.ofNat k) hr = some (0, xput hr' 27 1 1) ∧ xFrm hc hr hc' hr' ∧ ∃ A, xKC A hc' hr') ∨ (E ≠ 0 ∧ f_m_validate_60 n (Int32.ofNat k) hr = some (E, xput (xput hr' 27 9 (hc' 13 10)) 27 10 (hc' 13 11)) ∧ xFrm hc hr hc' hr')) := by
  have o0 : (0 : Int32).toInt = 0 := rfl
  have o1 : (1 : Int32).toInt = 1 := rfl
  intro n
  induction n with
  | zero => intro k hc hr A v R B e1 e2 h1 h2; omega
  | succ n ih =>
    intro k hc hr A v R B e1 e2 h1 h2
    have fb := R.fnsB
    have ek : (Int32.ofNat k).toInt = k := xi_ofNat (by omega)
    unfold f_k_firstError_7 f_m_validate_60
    rw [R.fns]
    by_cases z : (hr 27 4).toInt ≤ k
    · rw [if_pos (by rw [xi_le]; omega), if_pos (by rw [xi_le]; omega)]
      unfold f_k_firstError_36
      rw [e1]
      have b := B.2.1
      have sb := R.fromB k (by omega)
      have b0 := B.1
      exact ⟨hc, hr, 0, rfl, .inl ⟨rfl, rfl, xFrm.refl _ _, A, xKC_btw B (by omega) (by omega)⟩⟩
    · have nz : ¬ hr 27 4 ≤ Int32.ofNat k := by rw [xi_le]; omega
      have es : Int32.ofNat k + 1 = Int32.ofNat (k + 1) := by
        rw [xi_eq, xi_add (by omega) (by omega), ek, xi_ofNat (by omega), o1]
        omega
      rw [if_neg nz, if_neg nz, e1, if_pos rfl]
      obtain ⟨hc', hr', r, y1, y2, y3, y4, y5, y6⟩ := xfunction (F := Int32.ofNat k) R B e1 e2 ek (by omega)
      rw [y1, y2, Option.bind_some, Option.bind_some, es]
      have R' := R.frm y3
      have r4 : hr' 27 4 = hr 27 4 := y3.2.2 4 (by omega) (by omega) (by omega) (by omega) (by omega)
      rcases y6 with ⟨u1, u2, A', φ, e, u3, u4, u5⟩ | ⟨u1, u2, u3⟩
      · obtain ⟨hc3, hr3, E, w1, w2⟩ := ih (k + 1) hc' hr' A' e R' (xBtw_of u4 u5) (by rw [y4, u1]) u1 (by rw [r4]; omega) (by rw [r4]; omega)
        dsimp only
        rw [if_pos (by rw [xi_lt]; omega)]
        refine ⟨hc3, hr3, E, w1, ?_⟩
        rcases w2 with ⟨w2, w3, w4, w5⟩ | ⟨w2, w3, w4⟩
        · exact .inl ⟨w2, w3, y3.trans w4, w5⟩
        · exact .inr ⟨w2, w3, y3.trans w4⟩
      · dsimp only
        rw [if_neg (by rw [xi_lt]; omega)]
        have ne : hc' 13 9 ≠ 0 := by rw [y4]; exact u1
        have nx : f_k_firstError_7 n (Int32.ofNat (k + 1)) hc' = some (hc' 13 9, hc') := by
          obtain ⟨n, rfl⟩ : ∃ m, n = m + 1 := ⟨n - 1, by omega⟩
          unfold f_k_firstError_7 f_k_firstError_36
          rw [if_neg ne, ite_self]
        refine ⟨hc', hr', hc' 13 9, nx, .inr ⟨ne, ?_, y3⟩⟩
        rw [y4, y5, u3]
theorem xvalidate_all {hc hr : xI} (Q : xQ hc hr) (h0 : hr 27 1 = 0) (h4 : hr 27 4 ≠ 0) (g : xJ) : Agree xQ (f_l_validate hc g) (f_m_validate hr) := by
  have R := Q.1
  have fb := R.fnsB
  have o0 : (0 : Int32).toInt = 0 := rfl
  have no : Agree xQ (some (1, hc, g)) (some (0, xput hr 27 0 1)) := ⟨_, _, _, _, _, rfl, rfl, rfl, fun h => absurd h (by decide), xQ_post Q (Post.thrown R 1)⟩
  have m31 : f_m_validate_31 hr = some (0, xput hr 27 0 1) := rfl
  unfold f_l_validate f_w_validate f_m_validate f_w_validate_27
  rw [R.status, R.fns, m31, if_pos h0, if_pos h0, if_neg h4, if_neg h4, R.loose, Option.bind_some, xgd_ok (by omega) (by omega)]
  have en : (hr 27 4).toNatClampNeg = (hr 27 4).toInt.toNat := xi_nat _
  rw [en]
  by_cases l : hr 27 2 ≤ hr 29 (hr 27 4).toInt.toNat
  · rw [if_pos l, if_pos rfl, if_pos l]
    unfold f_k_firstError f_m_validate_36
    rw [if_pos (show (0 : Int32) ≤ 0 by decide)]
    have F0 : xFrm hc (xput hr 27 0 0) (xput hc 13 9 0) (xput (xput (xput hr 27 0 0) 27 11 0) 27 25 0) := ⟨fun k a b => xput_off (by omega), fun k a b => by rw [xput_off a, xput_off a], fun j a1 a2 a3 a4 a5 => by simp [xput_at, a1, a5]⟩
    have R0 := R.thrown 0
    have R1 := R0.frm F0
    have B0 : xBtw (fun _ _ _ => False) (xput hc 13 9 0) (xput (xput (xput hr 27 0 0) 27 11 0) 27 25 0) 0 0 := by
      have n11 : xput (xput (xput hr 27 0 0) 27 11 0) 27 25 0 27 11 = 0 := by simp [xput_at]
      refine ⟨by rw [R1.from0]; rfl, by rw [n11]; decide, fun y hy => ?_, fun f' hf => by omega, fun f' p h a => a.elim⟩
      rw [n11] at hy
      omega
    have q4 : xput (xput (xput hr 27 0 0) 27 11 0) 27 25 0 27 4 = hr 27 4 := by simp [xput_at]
    obtain ⟨hc', hr', E, w1, w2⟩ := xfirst 1000 0 (xput hc 13 9 0) (xput (xput (xput hr 27 0 0) 27 11 0) 27 25 0) _ 0 R1 B0 (by simp [xput_at]) (by simp [xput_at]) (by rw [q4]; omega) (by rw [q4]; omega)
    have z0 : Int32.ofNat 0 = 0 := rfl
    rw [z0] at w1 w2
    rw [w1, Option.bind_some]
    rcases w2 with ⟨w2, w3, w4, A, w5⟩ | ⟨w2, w3, w4⟩
    · subst w2
      rw [w3]
      have R2 := R1.frm w4
      have p0 : hr' 27 0 = 0 := by rw [w4.2.2 0 (by omega) (by omega) (by omega) (by omega) (by omega)]; simp [xput_at]
      refine ⟨0, xput hc' 0 6 1, _, 0, xput hr' 27 1 1, rfl, rfl, ?_, ?_, ?_, ?_⟩
      · show xput hr' 27 1 1 27 0 = 0
        simp only [xput_at, Nat.reduceEqDiff, reduceIte]
        exact p0
      · intro _
        rw [xputL_at]
        exact lg_same _
      · obtain ⟨r1, r2, r3, r4, r5, r6, r7, r8, r9, r10, r11, r12, r13, r14, r15, r16, r17, r18, r19, r20, r21, r22, r23, r24, r25, r26, r27, r28⟩ := R2
        refine ⟨?_, ?_, ?_, ?_, ?_, ?_, ?_, ?_, ?_, ?_, ?_, ?_, ?_, ?_, ?_, ?_, ?_, ?_, ?_, ?_, ?_, ?_, ?_, ?_, ?_, ?_, ?_, ?_⟩ <;> simp only [xput_at, Nat.reduceEqDiff, reduceIte] <;> first | assumption | decide | (intro e; exact absurd e (by decide))
      · intro _
        refine ⟨A, xKC_keep (hc := hc') (hr := hr') ⟨fun k hk => xput_off (by omega), fun k hk => xput_off (by omega), by simp [xput_at]⟩ w5, fun e => ?_⟩
        simp [xput_at] at e
    · rw [if_neg w2, w3]
      have R2 := R1.frm w4
      have p0 : hr' 27 0 = 0 := by rw [w4.2.2 0 (by omega) (by omega) (by omega) (by omega) (by omega)]; simp [xput_at]
      have p1 : hr' 27 1 = 0 := by rw [w4.2.2 1 (by omega) (by omega) (by omega) (by omega) (by omega)]; simp only [xput_at, Nat.reduceEqDiff, reduceIte]; exact h0
      refine ⟨0, xput (xput hc' 0 8 (hc' 13 10)) 0 9 (hc' 13 11), _, E, xput (xput hr' 27 9 (hc' 13 10)) 27 10 (hc' 13 11), rfl, rfl, ?_, ?_, ?_, ?_⟩
      · show xput (xput hr' 27 9 (hc' 13 10)) 27 10 (hc' 13 11) 27 0 = 0
        simp only [xput_at, Nat.reduceEqDiff, reduceIte]
        exact p0
      · intro _
        rw [xputL_at]
        exact lg_same _
      · obtain ⟨r1, r2, r3, r4, r5, r6, r7, r8, r9, r10, r11, r12, r13, r14, r15, r16, r17, r18, r19, r20, r21, r22, r23, r24, r25, r26, r27, r28⟩ := R2
        refine ⟨?_, ?_, ?_, ?_, ?_, ?_, ?_, ?_, ?_, ?_, ?_, ?_, ?_, ?_, ?_, ?_, ?_, ?_, ?_, ?_, ?_, ?_, ?_, ?_, ?_, ?_, ?_, ?_⟩ <;> simp only [xput_at, Nat.reduceEqDiff, reduceIte] <;> assumption
      · intro e
        simp only [xput_at, Nat.reduceEqDiff, reduceIte] at e
        exact absurd p1 e
  · rw [if_neg l, if_neg (by decide), if_neg l]
    exact no
/-- every call, in every state that can come -/
theorem xsims_all {hc hr : xI} (Q : xQ hc hr) : Sims hc hr xQ := xsims Q (fun h0 h4 g => xvalidate_all Q h0 h4 g) (fun h0 h2 v => xinvoke_all Q h0 h2 v) (fun hs v => xrun_all Q hs v)
theorem xpure2048 (L : Nat) (xs : Nat → Int32) (hL : L ≤ 2048) : f_l_law xs L (xhI xs) (xhI xs) xjI = some 1 := by
  have Q : xQ (xhI xs) (xhI xs) := ⟨RB.init xs, fun h => absurd (show xhI xs 27 1 = 0 from rfl) h⟩
  unfold f_l_law
  have o0 : (0 : Int32).toInt = 0 := rfl
  exact law_all hL (fun hc hr q => xsims_all q) 599 0 _ _ _ Q (by omega) (by omega) (by omega)
