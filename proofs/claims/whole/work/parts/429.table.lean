/-! br_table in the check. -/
theorem xtab_loop {A : Nat → Nat → Int → Prop} {hc hr : xI} {φ : Nat → Nat} {d f v : Nat} (P : xPre A hc hr φ d f v) {V3 : Int32} (hV : V3.toInt = v) (n t : Int32) {nn : Nat} (hn : n.toInt = nn) (hn8 : nn ≤ 8) (hb : v + 2 + nn < 240) (lab : ∀ i : Nat, i ≤ nn → xLab hc hc hr d (v + 2 + i)) (V : Int32) : ∀ (m i : Nat) (E : Int32), i ≤ nn + 1 → nn + 1 - i < m → 0 ≤ E.toInt → ∃ E', f_k_checkTableTyping_13 m n t (Int32.ofNat i) (xZc hc V E) = ((f_k_popValues (1 : Int32) (xZc hc V E')).bind fun q2 => (f_k_popValues t q2).bind fun q3 => f_k_leaveOff q3) ∧ f_m_checkTable_33 m V3 n t (Int32.ofNat i) (xZr (xput hr 41 v (hr 27 22)) V E) = ((f_m_pop (1 : Int32) (xZr (xput hr 41 v (hr 27 22)) V E')).bind fun q2 => (f_m_pop t q2).bind fun q3 => f_m_leave q3) ∧ 0 ≤ E'.toInt ∧ (E ≠ 0 → E' ≠ 0) ∧ (E' = 0 → ∀ k l : Nat, i ≤ k → k ≤ nn → (hr 28 (v + 2 + k)).toInt = l → xTk hr (φ (d - 1 - l)) = t) := by
  have bd := P.bounds
  have P' := P
  obtain ⟨R, K, I, hd, hv, e1, e2, fn, pl, be, W, l1, l2⟩ := P'
  have o1 : (1 : Int32).toInt = 1 := rfl
  have o2 : (2 : Int32).toInt = 2 := rfl
  intro m
  induction m with
  | zero => intro i E h0 h1; omega
  | succ m ih =>
    intro i E h0 h1 hE
    have ei : (Int32.ofNat i).toInt = i := xi_ofNat (by omega)
    unfold f_k_checkTableTyping_13 f_m_checkTable_33
    by_cases z : i = nn + 1
    · rw [if_pos (by rw [xi_lt]; omega), if_pos (by rw [xi_lt]; omega)]
      simp only [xbs]
      exact ⟨E, rfl, rfl, hE, id, fun _ k l a b => by omega⟩
    · have es : Int32.ofNat i + 1 = Int32.ofNat (i + 1) := by
        rw [xi_eq, xi_add (by omega) (by omega), ei, xi_ofNat (by omega), o1]
        omega
      have zl : ¬ n < Int32.ofNat i := by rw [xi_lt]; omega
      have z11 : xZc hc V E 13 11 = hc 13 11 := xZc_j _ _ _ (by omega) (by omega)
      have p2 : (hc 13 11 + 2).toInt = v + 2 := by rw [xi_add (by omega) (by omega), pl, o2]
      have p3 : (hc 13 11 + 2 + Int32.ofNat i).toInt = (v + 2 + i : Nat) := by rw [xi_add (by omega) (by omega), p2, ei]; omega
      have v2 : (V3 + 2).toInt = v + 2 := by rw [xi_add (by omega) (by omega), hV, o2]
      have v3 : (V3 + 2 + Int32.ofNat i).toInt = (v + 2 + i : Nat) := by rw [xi_add (by omega) (by omega), v2, ei]; omega
      obtain ⟨l, b1, b2, b3⟩ := lab i (by omega)
      obtain ⟨t1, ⟨Y, t2⟩, t3⟩ := xtaken P (lp := v + 2 + i) p3 (by omega) b1 b2
      obtain ⟨t2, t4⟩ := t2 V E
      have r28 : xZr (xput hr 41 v (hr 27 22)) V E 28 = hr 28 := by rw [xZr_o _ _ _ (by omega), xput_off (by omega)]
      rw [if_neg zl, if_neg zl, z11, t1, Option.bind_some, xgd_ok (by omega) (by omega), xi_cl v3, r28, t2, Option.bind_some, t4, Option.bind_some]
      unfold f_k_checkTableTyping_39 f_m_checkTable_71
      rw [es]
      by_cases q : xTk hr (φ (d - 1 - l)) = t
      · rw [if_pos q, if_pos q]
        obtain ⟨E', a1, a2, a3, a4, a5⟩ := ih (i + 1) E (by omega) (by omega) hE
        refine ⟨E', a1, a2, a3, a4, fun z0 k l' hk1 hk2 hl' => ?_⟩
        by_cases ki : k = i
        · subst ki
          have : l' = l := by omega
          rw [this]; exact q
        · exact a5 z0 k l' (by omega) hk2 hl'
      · rw [if_neg q, if_neg q, kfail, mfail, Option.bind_some, Option.bind_some]
        obtain ⟨E', a1, a2, a3, a4, a5⟩ := ih (i + 1) (xErr 3 E) (by omega) (by omega) (xE_pos (by decide) hE)
        exact ⟨E', a1, a2, a3, fun _ => a4 (xE_ne (by decide)), fun z0 => absurd z0 (a4 (xE_ne (by decide)))⟩
theorem xk_table {A : Nat → Nat → Int → Prop} {hc hr : xI} {φ : Nat → Nat} {d f v : Nat} (P : xPre A hc hr φ d f v) (hw : hr 28 v = 14) {F V3 : Int32} (hV : V3.toInt = v) : xIt hc hr f v (f_k_checkTyping (hr 28 v) hc) (f_m_check F V3 hr) := by
  have T := P.top
  have bd := P.bounds
  have mc := xmcheck P (F := F) hV
  obtain ⟨i1, i2, i3, i4⟩ := P.ids
  have im : f_m_immediates (hr 28 v) = 1 := by rw [hw]; decide
  have ki := xkimm P rfl (by rw [im]; decide) hc rfl rfl
  have P' := P
  obtain ⟨R, K, I, hd, hv, e1, e2, fn, pl, be, W, l1, l2⟩ := P'
  have ip := xwd_imm W (by rw [im]; decide)
  have h := K.height (i := d - 1) (by omega)
  have vb := K.2.2.2.2.1
  obtain ⟨w1, w2, w3⟩ := W.2.2.2.1 hw
  have lab := l2 hw
  obtain ⟨nn, hn⟩ : ∃ nn : Nat, (hr 28 (v + 1)).toInt = nn := ⟨(hr 28 (v + 1)).toInt.toNat, by omega⟩
  obtain ⟨P1, P2⟩ := xi_cl2 pl (by omega)
  obtain ⟨V1, V2⟩ := xi_cl2 hV (by omega)
  obtain ⟨V11, V12⟩ := xi_cl1 hV (by omega)
  obtain ⟨l, b1, b2, b3⟩ := lab 0 (by omega)
  obtain ⟨t1, ⟨Y, t2⟩, t3⟩ := xtaken P (lp := v + 2) P1 (by omega) b1 b2
  have t1 := t1 (hr 27 24) 0
  obtain ⟨t2, t4⟩ := t2 (hr 27 24) 0
  rw [i1] at t1
  rw [i2, xput_off (show (27 : Nat) ≠ 41 by omega)] at t2
  rw [i2] at t4
  obtain ⟨E0, a1, a2, a3, -, a5⟩ := xtab_loop P hV (hr 28 (v + 1)) (xTk hr (φ (d - 1 - l))) hn (by omega) (by omega) (fun i hi => lab i (by omega)) (hr 27 24) 1000 1 0 (by omega) (by omega) (by decide)
  rw [i1] at a1
  rw [i2] at a2
  obtain ⟨V', E, p1, p2, p3, p4, p5, p6⟩ := xpops T 1 (an := 1) rfl (by omega) (hr 27 24) E0 (by rw [i3]; exact h.2.2) (by omega)
  rw [i3, i4] at p6
  rw [i3] at p5 p3
  have hE : 0 ≤ E.toInt ∧ (E0 ≠ 0 → E ≠ 0) := by
    by_cases z : (hr 35 (φ (d - 1))).toInt ≤ (hr 27 24).toInt - ((1 : Nat) : Int)
    · rw [(p5 z).2]; exact ⟨a3, id⟩
    · rw [(p6 (by omega)).2]
      by_cases r : hr 40 (φ (d - 1)) = 0
      · rw [if_pos r]; exact ⟨a3, id⟩
      · rw [if_neg r]; exact ⟨xE_pos (by decide) a3, fun _ => xE_ne (by decide)⟩
  obtain ⟨U', E2, q1, q2, q3, q4, q5, q6⟩ := xpops T (xTk hr (φ (d - 1 - l))) (an := (xTk hr (φ (d - 1 - l))).toInt.toNat) (by omega) (by omega) V' E (by rw [i3]; exact p3) (by omega)
  rw [i3, i4] at q6
  rw [i3] at q5
  have hE2 : 0 ≤ E2.toInt ∧ (E ≠ 0 → E2 ≠ 0) := by
    by_cases z : (hr 35 (φ (d - 1))).toInt ≤ V'.toInt - ((xTk hr (φ (d - 1 - l))).toInt.toNat : Int)
    · rw [(q5 z).2]; exact ⟨hE.1, id⟩
    · rw [(q6 (by omega)).2]
      by_cases r : hr 40 (φ (d - 1)) = 0
      · rw [if_pos r]; exact ⟨hE.1, id⟩
      · rw [if_neg r]; exact ⟨xE_pos (by decide) hE.1, fun _ => xE_ne (by decide)⟩
  rw [p1, Option.bind_some, q1, Option.bind_some] at a1
  rw [p2, Option.bind_some, q2, Option.bind_some] at a2
  have z1 : Int32.ofNat 1 = 1 := rfl
  rw [z1] at a1 a2
  have kt : f_k_checkTyping (hr 28 v) hc = f_k_leaveOff (xZc hc U' E2) := by
    unfold f_k_checkTyping f_k_checkTableTyping
    rw [hw, if_neg (by decide), if_neg (by decide), if_neg (by decide), if_neg (by decide), if_neg (by decide), if_neg (by decide), if_neg (by decide), if_pos rfl, ki, Option.bind_some, t1, Option.bind_some, a1, xbs]
  have mt : f_m_check F V3 hr = f_m_leave (xZr (xput hr 41 v (hr 27 22)) U' E2) := by
    rw [mc, hw, if_neg (by decide), ← hw, im, if_neg (by decide), hw]
    unfold f_m_check_48
    rw [if_neg (by decide), if_pos (by decide)]
    unfold f_m_check_69
    rw [if_neg (by decide), if_neg (by decide), if_neg (by decide), if_neg (by decide), if_pos rfl, xbs]
    unfold f_m_checkTable
    rw [xgd_ok (by omega) (by omega), xgd_ok (by omega) (by omega), xput_off (show (27 : Nat) ≠ 41 by omega), xput_off (show (28 : Nat) ≠ 41 by omega), V2, V12, t2, Option.bind_some, t4, Option.bind_some, a2]
  rw [kt, mt]
  refine xIt.leave P E2 hE2.1 (fun z live lp => xCnd_table (xLr_wd W) ?_ ?_ ?_) _
  · rw [show xput (xZr (xput hr 41 v (hr 27 22)) (hr 35 (φ (d - 1))) 0) 40 (φ (d - 1)) 0 28 = hr 28 from xLr_o _ _ _ _ (by omega) (by omega) (by omega)]
    exact hw
  all_goals
    have Ez : E = 0 := by
      by_cases c : E = 0
      · exact c
      · exact absurd z (hE2.2 c)
    have Ez0 : E0 = 0 := by
      by_cases c : E0 = 0
      · exact c
      · exact absurd Ez (hE.2 c)
    have q : (hr 35 (φ (d - 1))).toInt ≤ (hr 27 24).toInt - 1 := by
      by_cases q : (hr 35 (φ (d - 1))).toInt ≤ (hr 27 24).toInt - ((1 : Nat) : Int)
      · omega
      · have e := (p6 (by omega)).2
        rw [if_neg (live _ (by omega)), Ez, Ez0] at e
        exact absurd e (by decide)
    have sv := (p5 (by omega)).1
    have q' : (hr 35 (φ (d - 1))).toInt ≤ V'.toInt - ((xTk hr (φ (d - 1 - l))).toInt.toNat : Int) := by
      by_cases q : (hr 35 (φ (d - 1))).toInt ≤ V'.toInt - ((xTk hr (φ (d - 1 - l))).toInt.toNat : Int)
      · exact q
      · have e := (q6 (by omega)).2
        rw [if_neg (live _ (by omega)), z, Ez] at e
        exact absurd e (by decide)
  · omega
  · intro i hi
    rw [show xput (xZr (xput hr 41 v (hr 27 22)) (hr 35 (φ (d - 1))) 0) 40 (φ (d - 1)) 0 28 = hr 28 from xLr_o _ _ _ _ (by omega) (by omega) (by omega)] at hi
    obtain ⟨l', c1, c2, c3⟩ := lab i hi
    have te : xTk hr (φ (d - 1 - l')) = xTk hr (φ (d - 1 - l)) := by
      by_cases i0 : i = 0
      · subst i0
        have : l' = l := by omega
        rw [this]
      · exact a5 Ez0 i l' (by omega) (by omega) c1
    have := xbrK (hc2 := xLc hc hr φ d) (hr2 := xLr hr φ d v) (lp := v + 2 + i) K hd (fun k hk => xLr_o _ _ _ _ (by omega) (by omega) (by omega)) (xLr_j _ _ _ _ (by omega) (by omega)) (by rw [xLr_41]; exact K.2.2.2.2.2.2.2.2.1 hd) (by unfold xLc; rw [xput_off (by omega), xZc_o _ _ _ (by omega)]) (by unfold xLc; rw [xput_off (by omega), xZc_o _ _ _ (by omega)]; exact c3) c1 c2 (fun j hj => by rw [xLr_40 K hj]; exact live j (by omega)) lp ((hr 27 24).toInt - 1) (by rw [te]; omega)
    rw [xLr_j _ _ _ _ (by omega) (by omega)] at this
    exact this
