/-! Calling a function. -/
theorem xcopyA (v : Int32) : ∀ (n i : Nat) (r : xI) (k : Nat), (r 27 29).toInt = k → k ≤ 4 → i ≤ k → k - i < n → ∃ r', f_m_invoke_92 n v (Int32.ofNat i) r = f_m_enter v (-1) r' ∧ (∀ c, c ≠ 27 → c ≠ 46 → r' c = r c) ∧ (∀ j, j ≠ 29 → r' 27 j = r 27 j) ∧ r' 27 29 = 0 ∧ ∀ j : Nat, r' 46 j = if i ≤ j ∧ j < k then r 45 j else r 46 j := by
  have e1 : (1 : Int32).toInt = 1 := rfl
  intro n
  induction n with
  | zero => intro i r k h0 h1 h2 h3; omega
  | succ n ih =>
    intro i r k h0 h1 h2 h3
    have ei : (Int32.ofNat i).toInt = i := xi_ofNat (by omega)
    have en : (Int32.ofNat i).toNatClampNeg = i := xi_cl ei
    unfold f_m_invoke_92
    by_cases z : i = k
    · rw [if_pos (by rw [xi_le]; omega), xbs]
      refine ⟨xput r 27 29 0, rfl, fun c a b => xput_off a, fun j a => by simp [xput_at, a], by simp [xput_at], fun j => ?_⟩
      rw [if_neg (by omega), xput_off (by omega)]
    · have es : Int32.ofNat i + 1 = Int32.ofNat (i + 1) := by
        rw [xi_eq, xi_add (by omega) (by omega), ei, xi_ofNat (by omega), e1]
        omega
      rw [if_neg (by rw [xi_le]; omega), xgd_ok (by omega) (by omega), xgd_ok (by omega) (by omega), en, es]
      obtain ⟨r', a1, a2, a3, a4, a5⟩ := ih (i + 1) (xput r 46 i (r 45 i)) k (by simp only [xput_at, Nat.reduceEqDiff, reduceIte]; exact h0) h1 (by omega) (by omega)
      refine ⟨r', a1, fun c a b => by rw [a2 c a b, xput_off b], fun j a => by rw [a3 j a, xput_off (by omega)], a4, fun j => ?_⟩
      rw [a5 j, xput_off (by omega), xput_at, if_pos rfl]
      by_cases q : j = i
      · rw [if_neg (by omega), if_pos q, if_pos (by omega), q]
      · rw [if_neg q]
        by_cases w : i + 1 ≤ j ∧ j < k
        · rw [if_pos w, if_pos (by omega)]
        · rw [if_neg w, if_neg (by omega)]
theorem xinvoke_all {hc hr : xI} (Q : xQ hc hr) (h0 : hr 27 1 ≠ 0) (h2 : hr 27 1 ≠ 2) (v : Int32) : ∃ k hc' hr', f_l_invoke v hc = some (k, hc') ∧ f_m_invoke v hr = some hr' ∧ f_m_thrown hr' = k ∧ xQ hc' hr' := by
  have R := Q.1
  have e0 : (0 : Int32).toInt = 0 := rfl
  have e1 : (1 : Int32).toInt = 1 := rfl
  have fb := R.fnsB
  unfold f_l_invoke f_w_invoke f_m_invoke f_c_hasFunction
  rw [R.status, R.fns, if_neg h0, if_neg h2, if_neg h0, if_neg h2]
  have no2 : ∃ k hc' hr', (some (2, hc) : Option (Int32 × xI)) = some (k, hc') ∧ (some (xput hr 27 0 2) : Option xI) = some hr' ∧ f_m_thrown hr' = k ∧ xQ hc' hr' := ⟨_, _, _, rfl, rfl, rfl, xQ_post Q (Post.thrown R 2)⟩
  by_cases hn : v < 0
  · rw [if_pos hn, if_pos hn]
    exact no2
  rw [if_neg hn, if_neg hn]
  refine (Classical.em (v < hr 27 4)).symm.elim (fun hf => ?_) (fun hf => ?_)
  · have le : hr 27 4 ≤ v := by rw [xi_lt] at hf; rw [xi_le]; omega
    rw [if_pos le, if_pos rfl, if_neg hf]
    exact no2
  have le : ¬ hr 27 4 ≤ v := by rw [xi_lt] at hf; rw [xi_le]; omega
  rw [if_neg le, if_neg (show ¬ (1 : Int32) = 0 by decide), if_pos hf]
  rw [xi_lt] at hn hf
  obtain ⟨g, hg⟩ : ∃ g : Nat, v.toInt = g := ⟨v.toInt.toNat, by omega⟩
  have gv : ∀ {α : Type} (x : Option α), xgd v 6 x = x := fun x => xgd_ok (by omega) (by omega)
  unfold f_m_invoke_37
  rw [gv, gv, xi_cl hg, R.pars, R.argc, if_pos (show (0 : Int32) ≤ 0 by decide)]
  refine (Classical.em (hr 27 29 = hr 30 g)).symm.elim (fun ha => ?_) (fun ha => ?_)
  · rw [if_neg ha, if_neg ha]
    refine ⟨3, hc, xput (xput hr 27 0 0) 27 0 3, ?_, rfl, by simp [f_m_thrown, xput_at], ?_⟩
    · rfl
    · have e : xput (xput hr 27 0 0) 27 0 3 = xput hr 27 0 3 := by
        funext a b
        simp only [xput_at]
        by_cases x : a = 27
        · simp only [if_pos x]
          by_cases y : b = 0
          · rw [if_pos y, if_pos y]
          · rw [if_neg y, if_neg y, if_neg y]
        · simp only [if_neg x]
      rw [e]
      exact xQ_post Q (Post.thrown R 3)
  rw [if_pos ha, if_pos ha]
  have ab := R.argcB
  have pb := R.parsB g
  obtain ⟨A, K, -⟩ := Q.2 h0
  obtain ⟨k, hk⟩ : ∃ k : Nat, (hr 27 29).toInt = k := ⟨(hr 27 29).toInt.toNat, by omega⟩
  -- the reference's copy
  obtain ⟨r', c1, c2, c3, c4, c5⟩ := xcopyA v 1000 0 (xput (xput (xput (xput (xput hr 27 0 0) 27 1 2) 27 31 0) 27 35 0) 27 33 (hr 27 29)) k (by simp only [xput_at, Nat.reduceEqDiff, reduceIte]; exact hk) (by omega) (by omega) (by omega)
  have z0 : Int32.ofNat 0 = 0 := rfl
  rw [z0] at c1
  rw [c1]
  -- the class's
  have pk : (hr 30 g).toInt = k := by rw [← ha]; exact hk
  have hb : f_h_begin v hc = (f_h_enter v (xset (xput (xput hc 19 7 (0 : Int32)) 19 4 (hr 30 g)) 21 (va_cpy (hc 26) (hc 21) 0 0 k))).bind fun q3 => some q3.2 := by
    unfold f_h_begin xcpg
    rw [gv, xi_cl hg, R.pars, if_neg, xi_cl pk]
    · rfl
    · rw [xi_cl pk]
      have : (0 : Int32).toNatClampNeg = 0 := rfl
      rw [this]
      simp only [xi_lt]
      omega
  rw [hb]
  have hc1 : ∀ c, c ≠ 19 → c ≠ 21 → xset (xput (xput hc 19 7 (0 : Int32)) 19 4 (hr 30 g)) 21 (va_cpy (hc 26) (hc 21) 0 0 k) c = hc c := by
    intro c a b
    show (if c = 21 then _ else xput (xput hc 19 7 (0 : Int32)) 19 4 (hr 30 g) c) = hc c
    rw [if_neg b, xput_off a, xput_off a]
  have hc19 : ∀ j, xset (xput (xput hc 19 7 (0 : Int32)) 19 4 (hr 30 g)) 21 (va_cpy (hc 26) (hc 21) 0 0 k) 19 j = xput (xput hc 19 7 (0 : Int32)) 19 4 (hr 30 g) 19 j := fun j => congrFun (if_neg (by omega)) j
  have hc21 : xset (xput (xput hc 19 7 (0 : Int32)) 19 4 (hr 30 g)) 21 (va_cpy (hc 26) (hc 21) 0 0 k) 21 = va_cpy (hc 26) (hc 21) 0 0 k := if_pos rfl
  have r27 : ∀ j, r' 27 j = if j = 29 then 0 else if j = 33 then hr 27 29 else if j = 35 then 0 else if j = 31 then 0 else if j = 1 then 2 else if j = 0 then 0 else hr 27 j := by
    intro j
    by_cases x : j = 29
    · rw [if_pos x, x, c4]
    · rw [if_neg x, c3 j x]
      simp only [xput_at, reduceIte]
  have ro : ∀ c, c ≠ 27 → c ≠ 46 → r' c = hr c := by
    intro c a b
    rw [c2 c a b]
    simp only [xput_off a]
  have R0 : RB (xput (xput (xset (xput (xput hc 19 7 (0 : Int32)) 19 4 (hr 30 g)) 21 (va_cpy (hc 26) (hc 21) 0 0 k)) 0 5 0) 0 6 2) r' := by
    have o5 : ∀ c, c ≠ 0 → c ≠ 19 → c ≠ 21 → xput (xput (xset (xput (xput hc 19 7 (0 : Int32)) 19 4 (hr 30 g)) 21 (va_cpy (hc 26) (hc 21) 0 0 k)) 0 5 0) 0 6 2 c = hc c := by
      intro c a b d
      rw [xput_off a, xput_off a, hc1 c b d]
    have o0 : ∀ j, j ≠ 5 → j ≠ 6 → xput (xput (xset (xput (xput hc 19 7 (0 : Int32)) 19 4 (hr 30 g)) 21 (va_cpy (hc 26) (hc 21) 0 0 k)) 0 5 0) 0 6 2 0 j = hc 0 j := by
      intro j a b
      rw [xput_at, if_pos rfl, if_neg b, xput_at, if_pos rfl, if_neg a, hc1 0 (by omega) (by omega)]
    have s5 : xput (xput (xset (xput (xput hc 19 7 (0 : Int32)) 19 4 (hr 30 g)) 21 (va_cpy (hc 26) (hc 21) 0 0 k)) 0 5 0) 0 6 2 0 5 = 0 := by
      rw [xput_at, if_pos rfl, if_neg (by omega), xput_at, if_pos rfl, if_pos rfl]
    have s6 : xput (xput (xset (xput (xput hc 19 7 (0 : Int32)) 19 4 (hr 30 g)) 21 (va_cpy (hc 26) (hc 21) 0 0 k)) 0 5 0) 0 6 2 0 6 = 2 := by
      rw [xput_at, if_pos rfl, if_pos rfl]
    have q : ∀ j, j ≠ 29 → j ≠ 33 → j ≠ 35 → j ≠ 31 → j ≠ 1 → j ≠ 0 → r' 27 j = hr 27 j := by
      intro j a b c d e f
      rw [r27 j, if_neg a, if_neg b, if_neg c, if_neg d, if_neg e, if_neg f]
    have q1 : r' 27 1 = 2 := by rw [r27 1]; simp
    obtain ⟨r1, r2, r3, r4, r5, r6, r7, r8, r9, r10, r11, r12, r13, r14, r15, r16, r17, r18, r19, r20, r21, r22, r23, r24, r25, r26, r27', r28⟩ := R
    refine ⟨?_, ?_, ?_, ?_, ?_, ?_, ?_, ?_, ?_, ?_, ?_, ?_, ?_, ?_, ?_, ?_, ?_, ?_, ?_, ?_, ?_, ?_, ?_, ?_, ?_, ?_, ?_, ?_⟩
    · rw [s5, c4]
    · rw [c4]; decide
    · rw [o5 26 (by omega) (by omega) (by omega), ro 45 (by omega) (by omega)]; exact r3
    · rw [s6, q1]
    · rw [q1]; decide
    · intro e; rw [q1] at e; exact absurd e (by decide)
    · rw [o0 8 (by omega) (by omega), q 9 (by omega) (by omega) (by omega) (by omega) (by omega) (by omega)]; exact r7
    · rw [o0 9 (by omega) (by omega), q 10 (by omega) (by omega) (by omega) (by omega) (by omega) (by omega)]; exact r8
    · rw [o5 1 (by omega) (by omega) (by omega), q 2 (by omega) (by omega) (by omega) (by omega) (by omega) (by omega)]; exact r9
    · rw [q 2 (by omega) (by omega) (by omega) (by omega) (by omega) (by omega)]; exact r10
    · rw [o5 2 (by omega) (by omega) (by omega), ro 28 (by omega) (by omega)]; exact r11
    · rw [o5 1 (by omega) (by omega) (by omega), q 4 (by omega) (by omega) (by omega) (by omega) (by omega) (by omega)]; exact r12
    · rw [q 4 (by omega) (by omega) (by omega) (by omega) (by omega) (by omega)]; exact r13
    · rw [ro 29 (by omega) (by omega)]; exact r14
    · rw [o5 3 (by omega) (by omega) (by omega), ro 29 (by omega) (by omega)]; exact r15
    · rw [o5 4 (by omega) (by omega) (by omega), ro 30 (by omega) (by omega)]; exact r16
    · rw [ro 30 (by omega) (by omega)]; exact r17
    · rw [o5 5 (by omega) (by omega) (by omega), ro 30 (by omega) (by omega), ro 31 (by omega) (by omega)]; exact r18
    · rw [ro 31 (by omega) (by omega)]; exact r19
    · rw [o5 6 (by omega) (by omega) (by omega), ro 32 (by omega) (by omega)]; exact r20
    · rw [ro 32 (by omega) (by omega)]; exact r21
    · rw [q 4 (by omega) (by omega) (by omega) (by omega) (by omega) (by omega), ro 29 (by omega) (by omega)]; exact r22
    · rw [q 4 (by omega) (by omega) (by omega) (by omega) (by omega) (by omega), ro 29 (by omega) (by omega), q 2 (by omega) (by omega) (by omega) (by omega) (by omega) (by omega)]; exact r23
    · rw [o5 12 (by omega) (by omega) (by omega), ro 43 (by omega) (by omega)]; exact r24
    · rw [o5 11 (by omega) (by omega) (by omega), q 27 (by omega) (by omega) (by omega) (by omega) (by omega) (by omega)]; exact r25
    · rw [q 27 (by omega) (by omega) (by omega) (by omega) (by omega) (by omega)]; exact r26
    · rw [o5 20 (by omega) (by omega) (by omega), ro 44 (by omega) (by omega)]; exact r27'
    · intro e; rw [q1] at e; exact absurd e (by decide)
  have q1 : r' 27 1 = 2 := by rw [r27 1]; simp
  have q4 : r' 27 4 = hr 27 4 := by rw [r27 4]; simp
  have q33 : r' 27 33 = hr 27 29 := by rw [r27 33]; simp
  have q35 : r' 27 35 = 0 := by rw [r27 35]; simp
  have s4 : xset (xput (xput hc 19 7 (0 : Int32)) 19 4 (hr 30 g)) 21 (va_cpy (hc 26) (hc 21) 0 0 k) 19 4 = hr 30 g := by rw [hc19 4]; simp [xput_at]
  have s7 : xset (xput (xput hc 19 7 (0 : Int32)) 19 4 (hr 30 g)) 21 (va_cpy (hc 26) (hc 21) 0 0 k) 19 7 = 0 := by rw [hc19 7]; simp [xput_at]
  have bs0 : f_c_bodyStart v (xset (xput (xput hc 19 7 (0 : Int32)) 19 4 (hr 30 g)) 21 (va_cpy (hc 26) (hc 21) 0 0 k)) = some (r' 29 g) := by
    have q := R.bodyStart v (by omega) (by omega)
    rw [hg] at q
    unfold f_c_bodyStart at q ⊢
    rw [hc1 3 (by omega) (by omega), ro 29 (by omega) (by omega)]
    exact q
  obtain ⟨hc', hr', y1, y2, y3, y4, y5, y6, y7, y8, y9, y10, y11, y12, y13, y14, y15, y16, y17, y18⟩ := xenter (c := 0) (hr := r') (back := -1) hg (by omega) (by rw [ro 30 (by omega) (by omega)]; exact pb) (by rw [hc1 4 (by omega) (by omega), ro 30 (by omega) (by omega)]; exact R.pars) bs0 (by rw [s7, q35]) (by rw [q35]; rfl) (by omega) (by rw [s4, q33, ha]) (by rw [q33]; omega) (by rw [q33, ro 30 (by omega) (by omega), ha]; exact Int.le_refl _) (by
    intro j hj
    rw [q33, hk] at hj
    rw [hc21, c5 j, if_pos (by omega)]
    unfold va_cpy
    rw [if_pos (by omega)]
    simp only [xput_at, Nat.reduceEqDiff, reduceIte]
    rw [show 0 + (j - 0) = j by omega]
    exact R.args j)
  rw [q33, ro 30 (by omega) (by omega), ha, Int32.sub_self] at y6 y7 y16 y17
  rw [q35] at y10 y11
  have z01 : (0 : Int32) + 1 = 1 := rfl
  rw [z01] at y10 y11
  rw [ro 29 (by omega) (by omega)] at y8 y9
  rw [y1, y2]
  refine ⟨0, xput (xput hc' 0 5 0) 0 6 2, hr', rfl, rfl, ?_, ?_⟩
  · show hr' 27 0 = 0
    rw [y5 0 (by omega) (by omega) (by omega), r27 0]
    simp
  have q1' : hr' 27 1 = 2 := by rw [y5 1 (by omega) (by omega) (by omega), q1]
  have k0 : ∀ c, c ≠ 0 → c ≠ 19 → c ≠ 21 → c ≠ 22 → c ≠ 23 → c ≠ 24 → c ≠ 25 → xput (xput hc' 0 5 0) 0 6 2 c = hc c := by
    intro c a0 a1 a2 a3 a4 a5 a6
    rw [xput_off a0, xput_off a0, y3 c a1 a3 a4 a5 a6, hc1 c a1 a2]
  have kr : ∀ c, c ≠ 27 → c ≠ 46 → c ≠ 47 → c ≠ 48 → c ≠ 49 → c ≠ 50 → hr' c = hr c := by
    intro c a0 a1 a2 a3 a4 a5
    rw [y4 c a0 a2 a3 a4 a5, ro c a0 a1]
  have q4' : hr' 27 4 = hr 27 4 := by rw [y5 4 (by omega) (by omega) (by omega), q4]
  have KK : xKC A (xput (xput hc' 0 5 0) 0 6 2) hr' := xKC_keep ⟨fun c hc => k0 c (by omega) (by omega) (by omega) (by omega) (by omega) (by omega) (by omega), fun c hc => kr c (by omega) (by omega) (by omega) (by omega) (by omega) (by omega), q4'⟩ K
  obtain ⟨s0, st1, st2⟩ := K.1 g (by omega)
  have hx : ∀ c, c ≠ 0 → xput (xput hc' 0 5 0) 0 6 2 c = hc' c := fun c a => by rw [xput_off a, xput_off a]
  refine (xMid.go (A := A) (c := 0) (f := g) (q := s0) ⟨R0.going q1 ?_ ?_ ?_, KK, q1', ?_, by omega, ?_, ?_, ?_, ?_, ?_, ?_, ?_, ?_, ?_, ?_, ?_, ?_, ?_, ?_, ?_⟩ ?_ ?_ ?_).q
  · intro c a b
    by_cases e : c = 0
    · subst e
      funext j
      simp only [xput_at, reduceIte]
      rw [y3 0 (by omega) (by omega) (by omega) (by omega) (by omega)]
    · rw [xput_off e, xput_off e, xput_off e, xput_off e]
      exact y3 c a (by omega) (by omega) (by omega) (by omega)
  · intro c a b
    exact y4 c a (by omega) (by omega) (by omega) (by omega)
  · intro j a b d e
    exact y5 j b d e
  · rw [y11]; rfl
  · rw [hx 19 (by omega), y10, y11]
  · rw [hx 19 (by omega), y6, y7]
  · rw [y7]; decide
  · intro j hj
    rw [y7] at hj
    omega
  · intro c hc
    have : c = 0 := by omega
    subst this
    rw [hx 22 (by omega), y12, y13, if_pos rfl, if_pos rfl, q4']
    exact ⟨rfl, by omega, by omega⟩
  · intro c a b; omega
  · intro c hc
    have : c = 0 := by omega
    subst this
    rw [hx 24 (by omega), y16, y17, if_pos rfl, if_pos rfl]
  · intro c j hc hj
    rw [hx 25 (by omega)]
    exact y18 c j hc hj (fun h => by omega)
  · rw [y17, if_pos rfl]
  · rw [y17, if_pos rfl]; decide
  · rw [y17, if_pos rfl, y7]; decide
  · intro c hc
    have : c = 0 := by omega
    subst this
    rw [y17, if_pos rfl]; decide
  · rw [y13, if_pos rfl]; exact hg
  · rw [q4']; omega
  · intro c hc; omega
  · rw [hx 19 (by omega), y8, y9]
  · rw [y9]; exact st1
  · rw [y7, y17, if_pos rfl, Int.sub_self]; exact st2
