/-! Entering a function. -/
theorem xfillL (e : Int32) (he : e.toInt ≤ 48) : ∀ (n : Nat) (v : Int32) (h : xI), 0 ≤ v.toInt → v.toInt ≤ e.toInt → e.toInt - v.toInt < n → ∃ h', f_a_fill3_10 n e 0 v h = some h' ∧ (∀ k, k ≠ 25 → h' k = h k) ∧ ∀ j : Nat, h' 25 j = if v.toInt ≤ j ∧ j < e.toInt then 0 else h 25 j := by
  intro n
  induction n with
  | zero => intro v h h0 h1 h2; omega
  | succ n ih =>
    intro v h h0 h1 h2
    unfold f_a_fill3_10
    by_cases z : e.toInt ≤ v.toInt
    · rw [if_pos (by rw [xi_le]; omega)]
      refine ⟨h, rfl, fun _ _ => rfl, fun j => ?_⟩
      rw [if_neg (by omega)]
    · have e1 : (1 : Int32).toInt = 1 := rfl
      have s : (v + 1).toInt = v.toInt + 1 := by rw [xi_add (by omega) (by omega), e1]
      rw [if_neg (by rw [xi_le]; omega), xgd_ok (by omega) (by omega)]
      obtain ⟨h', a1, a2, a3⟩ := ih (v + 1) (xput h 25 v.toNatClampNeg 0) (by omega) (by omega) (by omega)
      refine ⟨h', a1, fun k hk => by rw [a2 k hk, xput_off hk], fun j => ?_⟩
      rw [a3 j, xput_at, if_pos rfl, xi_nat]
      by_cases q : j = v.toInt.toNat
      · rw [if_neg (by omega), if_pos q, if_pos (by omega)]
      · rw [if_neg q]
        by_cases w : v.toInt + 1 ≤ j ∧ j < e.toInt
        · rw [if_pos (by omega), if_pos (by omega)]
        · rw [if_neg (by omega), if_neg (by omega)]
theorem xenterL (g C : Int32) {gn c : Nat} (hg : g.toInt = gn) (hgn : gn < 6) (hC : C.toInt = c) (hc6 : c < 6) (S : Int) (hS : 0 ≤ S) (par : Int) (hp : 0 ≤ par) (hpS : S + par ≤ 100) : ∀ (n i : Nat) (r : xI), i ≤ 8 → 8 - i < n → (r 27 33).toInt = S → (r 30 gn).toInt = par → ∃ r', f_m_enter_47 n g C (Int32.ofNat i) r = some (xput (xput r' 49 c (r 27 33)) 27 32 (r 29 gn)) ∧ (∀ k, k ≠ 50 → r' k = r k) ∧ ∀ j : Nat, r' 50 j = if 8 * c + i ≤ j ∧ j < 8 * c + 8 then (if par ≤ j - 8 * c then 0 else r 46 (S.toNat + (j - 8 * c))) else r 50 j := by
  have e8 : (8 : Int32).toInt = 8 := rfl
  have e1 : (1 : Int32).toInt = 1 := rfl
  intro n
  induction n with
  | zero => intro i r h0 h1; omega
  | succ n ih =>
    intro i r h0 h1 hs hpar
    have ei : (Int32.ofNat i).toInt = i := xi_ofNat (by omega)
    unfold f_m_enter_47
    by_cases z : i = 8
    · subst z
      rw [if_pos (by decide), xgd_ok (by omega) (by omega), xgd_ok (by omega) (by omega), xi_cl hC, xi_cl hg]
      refine ⟨r, rfl, fun _ _ => rfl, fun j => ?_⟩
      rw [if_neg (by omega)]
    · have es : Int32.ofNat i + 1 = Int32.ofNat (i + 1) := by
        rw [xi_eq, xi_add (by omega) (by omega), ei, xi_ofNat (by omega), e1]
        omega
      have m8 : (8 * C).toInt = 8 * (c : Int) := by rw [xi_mul (by rw [e8]; omega) (by rw [e8]; omega), e8, hC]
      have ix : (8 * C + Int32.ofNat i).toInt = 8 * (c : Int) + i := by rw [xi_add (by omega) (by omega), m8, ei]
      have ixn : (8 * C + Int32.ofNat i).toNatClampNeg = 8 * c + i := by rw [xi_nat]; omega
      rw [if_neg (by rw [xi_le]; omega), xgd_ok (by omega) (by omega), xi_cl hg]
      have fin : ∀ val : Int32, (val = if par ≤ i then 0 else r 46 (S.toNat + i)) → ∃ r', f_m_enter_92 (f_m_enter_47 n) g C (Int32.ofNat i) val (8 * C + Int32.ofNat i) r = some (xput (xput r' 49 c (r 27 33)) 27 32 (r 29 gn)) ∧ (∀ k, k ≠ 50 → r' k = r k) ∧ ∀ j : Nat, r' 50 j = if 8 * c + i ≤ j ∧ j < 8 * c + 8 then (if par ≤ j - 8 * c then 0 else r 46 (S.toNat + (j - 8 * c))) else r 50 j := by
        intro val hval
        unfold f_m_enter_92
        rw [xgd_ok (by omega) (by omega), ixn, es]
        have q33 : xput r 50 (8 * c + i) val 27 33 = r 27 33 := by simp [xput_at]
        have q29 : xput r 50 (8 * c + i) val 29 = r 29 := xput_off (by omega)
        have q30 : xput r 50 (8 * c + i) val 30 = r 30 := xput_off (by omega)
        have q46 : xput r 50 (8 * c + i) val 46 = r 46 := xput_off (by omega)
        obtain ⟨r', a1, a2, a3⟩ := ih (i + 1) (xput r 50 (8 * c + i) val) (by omega) (by omega) (by rw [q33]; exact hs) (by rw [q30]; exact hpar)
        rw [q33, q29] at a1
        refine ⟨r', a1, fun k hk => by rw [a2 k hk, xput_off hk], fun j => ?_⟩
        rw [a3 j, q46, xput_at, if_pos rfl]
        by_cases q : j = 8 * c + i
        · rw [if_neg (by omega), if_pos q, if_pos (by omega), hval, q]
          have d : ((8 * c + i : Nat) : Int) - 8 * (c : Int) = i := by omega
          rw [show 8 * c + i - 8 * c = i by omega]
          by_cases pi : par ≤ i
          · rw [if_pos pi, if_pos (by omega)]
          · rw [if_neg pi, if_neg (by omega)]
        · rw [if_neg q]
          by_cases w : 8 * c + (i + 1) ≤ j ∧ j < 8 * c + 8
          · rw [if_pos w, if_pos (show 8 * c + i ≤ j ∧ j < 8 * c + 8 by omega)]
          · rw [if_neg w, if_neg (show ¬ (8 * c + i ≤ j ∧ j < 8 * c + 8) by omega)]
      by_cases pi : par ≤ i
      · rw [if_pos (by rw [xi_le]; omega)]
        exact fin 0 (by rw [if_pos pi])
      · have sp : (r 27 33 + Int32.ofNat i).toInt = S + i := by rw [xi_add (by omega) (by omega), hs, ei]
        have spn : (r 27 33 + Int32.ofNat i).toNatClampNeg = S.toNat + i := by rw [xi_nat]; omega
        rw [if_neg (by rw [xi_le]; omega), xgd_ok (by omega) (by omega), spn]
        exact fin _ (by rw [if_neg pi])
theorem xenter {hc hr : xI} {g back : Int32} {gn c : Nat} (hg : g.toInt = gn) (hgn : gn < 6) (pb : 0 ≤ (hr 30 gn).toInt ∧ (hr 30 gn).toInt ≤ 4) (pars : ∀ f, hc 4 f = hr 30 f) (q : f_c_bodyStart g hc = some (hr 29 gn)) (C1 : hc 19 7 = hr 27 35) (hC : (hr 27 35).toInt = c) (hc6 : c < 6) (sz : hc 19 4 = hr 27 33) (s100 : (hr 27 33).toInt ≤ 100) (ps : (hr 30 gn).toInt ≤ (hr 27 33).toInt) (st : ∀ j : Nat, (j : Int) < (hr 27 33).toInt → hc 21 j = hr 46 j) :
    ∃ hc' hr', f_h_enter g hc = some (0, hc') ∧ f_m_enter g back hr = some hr' ∧
      (∀ k, k ≠ 19 → k ≠ 22 → k ≠ 23 → k ≠ 24 → k ≠ 25 → hc' k = hc k) ∧ (∀ k, k ≠ 27 → k ≠ 47 → k ≠ 48 → k ≠ 49 → k ≠ 50 → hr' k = hr k) ∧ (∀ j, j ≠ 32 → j ≠ 33 → j ≠ 35 → hr' 27 j = hr 27 j) ∧
      hc' 19 4 = hr 27 33 - hr 30 gn ∧ hr' 27 33 = hr 27 33 - hr 30 gn ∧ hc' 19 5 = hr 29 gn ∧ hr' 27 32 = hr 29 gn ∧ hc' 19 7 = hr 27 35 + 1 ∧ hr' 27 35 = hr 27 35 + 1 ∧
      (∀ k, hc' 22 k = if k = c then g else hc 22 k) ∧ (∀ k, hr' 47 k = if k = c then g else hr 47 k) ∧
      (∀ k, hc' 23 k = if k = c then hc 19 5 else hc 23 k) ∧ (∀ k, hr' 48 k = if k = c then back else hr 48 k) ∧
      (∀ k, hc' 24 k = if k = c then hr 27 33 - hr 30 gn else hc 24 k) ∧ (∀ k, hr' 49 k = if k = c then hr 27 33 - hr 30 gn else hr 49 k) ∧
      (∀ k j : Nat, k ≤ c → j < 8 → (k < c → hc 25 (8 * k + j) = hr 50 (8 * k + j)) → hc' 25 (8 * k + j) = hr' 50 (8 * k + j)) := by
  have e1 : (1 : Int32).toInt = 1 := rfl
  have e6 : (6 : Int32).toInt = 6 := rfl
  have e8 : (8 : Int32).toInt = 8 := rfl
  have e0 : (0 : Int32).toInt = 0 := rfl
  have e48 : (48 : Int32).toInt = 48 := rfl
  have sp : (hr 27 33 - hr 30 gn).toInt = (hr 27 33).toInt - (hr 30 gn).toInt := xi_sub (by omega) (by omega)
  have gnn : g.toNatClampNeg = gn := xi_cl hg
  have cnn : (hr 27 35).toNatClampNeg = c := xi_cl hC
  have gg : ∀ {α : Type} (x : Option α), xgd g 6 x = x := fun x => xgd_ok (by omega) (by omega)
  have gC : ∀ {α : Type} (x : Option α), xgd (hr 27 35) 6 x = x := fun x => xgd_ok (by omega) (by omega)
  -- the reference
  obtain ⟨r', b1, b2, b3⟩ := xenterL g (hr 27 35) hg (by omega) hC hc6 ((hr 27 33).toInt - (hr 30 gn).toInt) (by omega) (hr 30 gn).toInt pb.1 (by omega) 1000 0 (xput (xput (xput (xput hr 27 35 (hr 27 35 + 1)) 47 c g) 48 c back) 27 33 (hr 27 33 - hr 30 gn)) (by omega) (by omega) (by simp only [xput_at, Nat.reduceEqDiff, reduceIte]; exact sp) (by simp only [xput_at, Nat.reduceEqDiff, reduceIte])
  have me : f_m_enter g back hr = some (xput (xput r' 49 c (hr 27 33 - hr 30 gn)) 27 32 (hr 29 gn)) := by
    unfold f_m_enter
    rw [gC, gC, gg, gnn, cnn]
    have z0 : Int32.ofNat 0 = 0 := rfl
    rw [z0] at b1
    rw [b1]
    simp only [xput_at, Nat.reduceEqDiff, reduceIte]
  -- the class
  have v3e : (hr 27 35 + 1 - 1) * 8 + 0 = 8 * hr 27 35 := by rw [Int32.add_sub_cancel, Int32.add_zero, Int32.mul_comm]
  have m8 : (8 * hr 27 35).toInt = 8 * (c : Int) := by rw [xi_mul (by rw [e8]; omega) (by rw [e8]; omega), e8, hC]
  have m88 : (8 * hr 27 35 + 8).toInt = 8 * (c : Int) + 8 := by rw [xi_add (by omega) (by omega), m8, e8]
  have m8n : (8 * hr 27 35).toNatClampNeg = 8 * c := by rw [xi_nat]; omega
  obtain ⟨h', a1, a2, a3⟩ := xfillL (8 * hr 27 35 + 8) (by omega) 1000 (8 * hr 27 35) (xput (xput (xput (xput (xput hc 19 4 (hr 27 33 - hr 30 gn)) 22 c g) 23 c (hc 19 5)) 24 c (hr 27 33 - hr 30 gn)) 19 7 (hr 27 35 + 1)) (by omega) (by omega) (by omega)
  have h19 : h' 19 4 = hr 27 33 - hr 30 gn := by rw [a2 19 (by omega)]; simp [xput_at]
  have h21 : h' 21 = hc 21 := by rw [a2 21 (by omega)]; simp only [xput_off (show (21 : Nat) ≠ 19 by omega), xput_off (show (21 : Nat) ≠ 22 by omega), xput_off (show (21 : Nat) ≠ 23 by omega), xput_off (show (21 : Nat) ≠ 24 by omega)]
  have spn : (hr 27 33 - hr 30 gn).toNatClampNeg = ((hr 27 33).toInt - (hr 30 gn).toInt).toNat := by rw [xi_nat, sp]
  have pn : (hr 30 gn).toNatClampNeg = (hr 30 gn).toInt.toNat := xi_nat _
  have bs : ∀ k : Nat → Int32, f_c_bodyStart g (xset h' 25 k) = some (hr 29 gn) := by
    intro k
    have h3 : xset h' 25 k 3 = hc 3 := by
      show (if (3 : Nat) = 25 then k else h' 3) = hc 3
      rw [if_neg (by omega), a2 3 (by omega)]
      simp only [xput_off (show (3 : Nat) ≠ 19 by omega), xput_off (show (3 : Nat) ≠ 22 by omega), xput_off (show (3 : Nat) ≠ 23 by omega), xput_off (show (3 : Nat) ≠ 24 by omega)]
    unfold f_c_bodyStart at q ⊢
    rw [h3, q]
  have ce : f_h_enter g hc = some (0, xput (xset h' 25 (va_cpy (h' 21) (h' 25) (hr 27 33 - hr 30 gn).toNatClampNeg (8 * hr 27 35).toNatClampNeg (hr 30 gn).toNatClampNeg)) 19 5 (hr 29 gn)) := by
    unfold f_h_enter f_h_localPlace
    rw [C1, sz, pars, if_neg (by rw [xi_eq]; omega), gg, gC, gC, gC, cnn, gnn]
    have d7 : xput (xput (xput (xput (xput hc 19 4 (hr 27 33 - hr 30 gn)) 22 c g) 23 c (hc 19 5)) 24 c (hr 27 33 - hr 30 gn)) 19 7 (hr 27 35 + 1) 19 7 = hr 27 35 + 1 := by simp [xput_at]
    rw [d7, v3e]
    unfold f_h_enter_84 f_a_fill3 f_a_rangeCheck
    rw [if_pos (by rw [xi_le]; omega), if_pos (by rw [xi_le]; omega), if_pos (by rw [xi_le]; omega), Option.bind_some, a1, Option.bind_some, h19]
    unfold xcpg
    rw [if_neg, bs, Option.bind_some]
    rw [spn, m8n, pn]
    simp only [xi_lt]
    omega
  refine ⟨_, _, ce, me, ?_⟩
  have c25 : ∀ k, k ≠ 19 → k ≠ 25 → (xput (xset h' 25 (va_cpy (h' 21) (h' 25) (hr 27 33 - hr 30 gn).toNatClampNeg (8 * hr 27 35).toNatClampNeg (hr 30 gn).toNatClampNeg)) 19 5 (hr 29 gn)) k = h' k := by
    intro k x y
    rw [xput_off x]
    exact if_neg y
  have c19 : ∀ j, j ≠ 5 → (xput (xset h' 25 (va_cpy (h' 21) (h' 25) (hr 27 33 - hr 30 gn).toNatClampNeg (8 * hr 27 35).toNatClampNeg (hr 30 gn).toNatClampNeg)) 19 5 (hr 29 gn)) 19 j = h' 19 j := by
    intro j x
    rw [xput_at, if_pos rfl, if_neg x]
    exact congrFun (if_neg (by omega)) j
  have r27 : ∀ j, j ≠ 32 → (xput (xput r' 49 c (hr 27 33 - hr 30 gn)) 27 32 (hr 29 gn)) 27 j = (if j = 33 then hr 27 33 - hr 30 gn else if j = 35 then hr 27 35 + 1 else hr 27 j) := by
    intro j x
    rw [xput_at, if_pos rfl, if_neg x, xput_off (by omega), b2 27 (by omega)]
    simp only [xput_at, Nat.reduceEqDiff, reduceIte]
  refine ⟨?_, ?_, ?_, ?_, ?_, ?_, ?_, ?_, ?_, ?_, ?_, ?_, ?_, ?_, ?_, ?_⟩
  · intro k x1 x2 x3 x4 x5
    rw [c25 k x1 x5, a2 k x5]
    simp only [xput_off x1, xput_off x2, xput_off x3, xput_off x4]
  · intro k x1 x2 x3 x4 x5
    rw [xput_off x1, xput_off x4, b2 k x5]
    simp only [xput_off x1, xput_off x2, xput_off x3]
  · intro j x1 x2 x3
    rw [r27 j x1, if_neg x2, if_neg x3]
  · rw [c19 4 (by omega)]; exact h19
  · rw [r27 33 (by omega), if_pos rfl]
  · rw [xput_at, if_pos rfl, if_pos rfl]
  · rw [xput_at, if_pos rfl, if_pos rfl]
  · rw [c19 7 (by omega), a2 19 (by omega)]; simp [xput_at]
  · rw [r27 35 (by omega), if_neg (by omega), if_pos rfl]
  · intro k
    rw [c25 22 (by omega) (by omega), a2 22 (by omega)]
    simp only [xput_at, Nat.reduceEqDiff, reduceIte]
  · intro k
    rw [xput_off (by omega), xput_off (by omega), b2 47 (by omega)]
    simp only [xput_at, Nat.reduceEqDiff, reduceIte]
  · intro k
    rw [c25 23 (by omega) (by omega), a2 23 (by omega)]
    simp only [xput_at, Nat.reduceEqDiff, reduceIte]
  · intro k
    rw [xput_off (by omega), xput_off (by omega), b2 48 (by omega)]
    simp only [xput_at, Nat.reduceEqDiff, reduceIte]
  · intro k
    rw [c25 24 (by omega) (by omega), a2 24 (by omega)]
    simp only [xput_at, Nat.reduceEqDiff, reduceIte]
  · intro k
    rw [xput_off (by omega), xput_at, if_pos rfl]
    by_cases x : k = c
    · rw [if_pos x, if_pos x]
    · rw [if_neg x, if_neg x, b2 49 (by omega)]
      simp only [xput_at, Nat.reduceEqDiff, reduceIte]
  · intro k j hk hj hb
    rw [xput_off (by omega), xput_off (by omega), xput_off (by omega), b3]
    have s25 : ∀ (q : Nat → Int32), xset h' 25 q 25 = q := fun q => if_pos rfl
    rw [s25]
    unfold va_cpy
    rw [spn, m8n, pn, h21]
    simp only [xput_at, Nat.reduceEqDiff, reduceIte]
    by_cases kc : k = c
    · subst kc
      by_cases pj : (hr 30 gn).toInt ≤ j
      · rw [if_neg (by omega), a3, if_pos (by omega), if_pos (by omega), if_pos (by omega)]
      · rw [if_pos (by omega), if_pos (by omega), if_neg (by omega)]
        exact st _ (by omega)
    · rw [if_neg (by omega), a3, if_neg (by omega), if_neg (by omega)]
      simp only [xput_at, Nat.reduceEqDiff, reduceIte]
      exact hb (by omega)
