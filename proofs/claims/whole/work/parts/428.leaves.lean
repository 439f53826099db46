/-! unreachable, return and the branches in the check. -/
theorem xPre.ids {A : Nat → Nat → Int → Prop} {hc hr : xI} {φ : Nat → Nat} {d f v : Nat} (P : xPre A hc hr φ d f v) : xZc hc (hr 27 24) 0 = hc ∧ xZr (xput hr 41 v (hr 27 22)) (hr 27 24) 0 = xput hr 41 v (hr 27 22) ∧ xput hr 41 v (hr 27 22) 35 = hr 35 ∧ xput hr 41 v (hr 27 22) 40 = hr 40 := by
  obtain ⟨R, K, I, hd, hv, e1, e2, fn, pl, be, W, l1, l2⟩ := P
  exact ⟨xZc_id K.2.2.2.1 e1, xZr_id (by rw [xput_off (by omega)]) (by rw [xput_off (by omega)]; exact e2), xput_off (by omega), xput_off (by omega)⟩
/-- the state behind a leave, in short -/
abbrev xLc (hc hr : xI) (φ : Nat → Nat) (d : Nat) : xI := xput (xZc hc (hr 35 (φ (d - 1))) 0) 17 (d - 1) 0
abbrev xLr (hr : xI) (φ : Nat → Nat) (d v : Nat) : xI := xput (xZr (xput hr 41 v (hr 27 22)) (hr 35 (φ (d - 1))) 0) 40 (φ (d - 1)) 0
theorem xLr_o (hr : xI) (φ : Nat → Nat) (d v : Nat) {k : Nat} (a : k ≠ 27) (b : k ≠ 40) (c : k ≠ 41) : xLr hr φ d v k = hr k := by
  unfold xLr
  rw [xput_off b, xZr_o _ _ _ a, xput_off c]
theorem xLr_j (hr : xI) (φ : Nat → Nat) (d v : Nat) {j : Nat} (a : j ≠ 24) (b : j ≠ 25) : xLr hr φ d v 27 j = hr 27 j := by
  unfold xLr
  rw [xput_off (by omega), xZr_j _ _ _ a b, xput_off (by omega)]
theorem xLr_41 (hr : xI) (φ : Nat → Nat) (d v : Nat) : xLr hr φ d v 41 v = hr 27 22 := by
  unfold xLr
  rw [xput_off (by omega), xZr_o _ _ _ (by omega), xput_at, if_pos rfl, if_pos rfl]
theorem xLr_40 {hc hr : xI} {φ : Nat → Nat} {d f v : Nat} (K : xCK hc hr φ d f v) {j : Nat} (hj : j + 1 < d) : xLr hr φ d v 40 (φ j) = hr 40 (φ j) := by
  unfold xLr
  rw [xput_at, if_pos rfl, if_neg (fun e => ?_), xZr_o _ _ _ (by omega), xput_off (by omega)]
  have := K.inj (by omega) (by omega) e
  omega
theorem xLr_wd {hr : xI} {φ : Nat → Nat} {d f v : Nat} (W : xWd hr f v) : xWd (xLr hr φ d v) f v := xwd_z W (fun k hk => xLr_o _ _ _ _ (by omega) (by omega) (by omega)) (xLr_j _ _ _ _ (by omega) (by omega))
theorem xk_unr {A : Nat → Nat → Int → Prop} {hc hr : xI} {φ : Nat → Nat} {d f v : Nat} (P : xPre A hc hr φ d f v) (hw : hr 28 v = 0) {F V3 : Int32} (hV : V3.toInt = v) : xIt hc hr f v (f_k_checkTyping (hr 28 v) hc) (f_m_check F V3 hr) := by
  have mc := xmcheck P (F := F) hV
  obtain ⟨i1, i2, i3, i4⟩ := P.ids
  have W := P.2.2.2.2.2.2.2.2.2.2.1
  have kt : f_k_checkTyping (hr 28 v) hc = f_k_leaveOff (xZc hc (hr 27 24) 0) := by
    unfold f_k_checkTyping
    rw [hw, if_pos rfl, xbs, i1]
  have mt : f_m_check F V3 hr = f_m_leave (xZr (xput hr 41 v (hr 27 22)) (hr 27 24) 0) := by
    rw [mc, hw, if_neg (by decide)]
    unfold f_m_check_48
    rw [if_pos (by decide)]
    unfold f_m_check_69
    rw [if_neg (by decide), if_neg (by decide), if_neg (by decide), if_neg (by decide), if_neg (by decide), if_neg (by decide), if_pos rfl, xbs, i2]
  rw [kt, mt]
  refine xIt.leave P 0 (by decide) (fun _ live lp => xCnd_unr (xLr_wd W) ?_) _
  rw [show xput (xZr (xput hr 41 v (hr 27 22)) (hr 35 (φ (d - 1))) 0) 40 (φ (d - 1)) 0 28 = hr 28 from xLr_o _ _ _ _ (by omega) (by omega) (by omega)]
  exact hw
theorem xk_ret {A : Nat → Nat → Int → Prop} {hc hr : xI} {φ : Nat → Nat} {d f v : Nat} (P : xPre A hc hr φ d f v) (hw : hr 28 v = 15) {F V3 : Int32} (hF : F.toInt = f) (hV : V3.toInt = v) : xIt hc hr f v (f_k_checkTyping (hr 28 v) hc) (f_m_check F V3 hr) := by
  have T := P.top
  have bd := P.bounds
  have mc := xmcheck P (F := F) hV
  obtain ⟨i1, i2, i3, i4⟩ := P.ids
  have P' := P
  obtain ⟨R, K, I, hd, hv, e1, e2, fn, pl, be, W, l1, l2⟩ := P'
  have h := K.height (i := d - 1) (by omega)
  have vb := K.2.2.2.2.1
  have rb : 0 ≤ (hr 32 f).toInt ∧ (hr 32 f).toInt ≤ 4 := by
    rcases R.ressB f with e | e <;> rw [e] <;> decide
  obtain ⟨V', E, p1, p2, p3, p4, p5, p6⟩ := xpops T (hr 32 f) (an := (hr 32 f).toInt.toNat) (by omega) (by omega) (hr 27 24) 0 (by rw [i3]; exact h.2.2) (by omega)
  rw [i1] at p1
  rw [i2] at p2
  rw [i3, i4] at p6
  rw [i3] at p5
  have hE : 0 ≤ E.toInt := by
    by_cases z : (hr 35 (φ (d - 1))).toInt ≤ (hr 27 24).toInt - ((hr 32 f).toInt.toNat : Int)
    · rw [(p5 z).2]; decide
    · rw [(p6 (by omega)).2]
      by_cases r : hr 40 (φ (d - 1)) = 0
      · rw [if_pos r]; decide
      · rw [if_neg r]; decide
  have kt : f_k_checkTyping (hr 28 v) hc = f_k_leaveOff (xZc hc V' E) := by
    unfold f_k_checkTyping
    rw [hw, if_neg (by decide), if_neg (by decide), if_neg (by decide), if_neg (by decide), if_neg (by decide), if_neg (by decide), if_neg (by decide), if_neg (by decide), if_pos rfl, xgd_ok (by omega) (by omega), xi_cl fn, R.ress, p1, Option.bind_some, xbs]
  have mt : f_m_check F V3 hr = f_m_leave (xZr (xput hr 41 v (hr 27 22)) V' E) := by
    rw [mc, hw, if_neg (by decide)]
    unfold f_m_check_48
    rw [if_neg (by decide), if_pos (by decide)]
    unfold f_m_check_69
    rw [if_neg (by decide), if_neg (by decide), if_neg (by decide), if_neg (by decide), if_neg (by decide), if_pos rfl, xgd_ok (by omega) (by omega), xi_cl hF, xput_off (show (32 : Nat) ≠ 41 by omega), p2, Option.bind_some, xbs]
  rw [kt, mt]
  refine xIt.leave P E hE (fun z live lp => xCnd_ret (xLr_wd W) ?_ ?_) _
  · rw [show xput (xZr (xput hr 41 v (hr 27 22)) (hr 35 (φ (d - 1))) 0) 40 (φ (d - 1)) 0 28 = hr 28 from xLr_o _ _ _ _ (by omega) (by omega) (by omega)]
    exact hw
  · rw [show xput (xZr (xput hr 41 v (hr 27 22)) (hr 35 (φ (d - 1))) 0) 40 (φ (d - 1)) 0 32 = hr 32 from xLr_o _ _ _ _ (by omega) (by omega) (by omega)]
    by_cases q : (hr 35 (φ (d - 1))).toInt ≤ (hr 27 24).toInt - ((hr 32 f).toInt.toNat : Int)
    · omega
    · have e := (p6 (by omega)).2
      rw [if_neg (live _ (by omega)), z] at e
      exact absurd e (by decide)
theorem xk_br {A : Nat → Nat → Int → Prop} {hc hr : xI} {φ : Nat → Nat} {d f v : Nat} (P : xPre A hc hr φ d f v) (hw : hr 28 v = 12) {F V3 : Int32} (hV : V3.toInt = v) : xIt hc hr f v (f_k_checkTyping (hr 28 v) hc) (f_m_check F V3 hr) := by
  have T := P.top
  have bd := P.bounds
  have mc := xmcheck P (F := F) hV
  obtain ⟨i1, i2, i3, i4⟩ := P.ids
  have im : f_m_immediates (hr 28 v) = 1 := by rw [hw]; decide
  have P' := P
  obtain ⟨R, K, I, hd, hv, e1, e2, fn, pl, be, W, l1, l2⟩ := P'
  have ip := xwd_imm W (by rw [im]; decide)
  have h := K.height (i := d - 1) (by omega)
  have vb := K.2.2.2.2.1
  obtain ⟨l, b1, b2, b3⟩ := l1 (.inl hw)
  obtain ⟨P1, P2⟩ := xi_cl1 pl (by omega)
  obtain ⟨t1, ⟨Y, t2⟩, t3⟩ := xtaken P (lp := v + 1) P1 (by omega) b1 b2
  have t1 := t1 (hr 27 24) 0
  obtain ⟨t2, t4⟩ := t2 (hr 27 24) 0
  rw [i1] at t1
  rw [i2, xput_off (show (27 : Nat) ≠ 41 by omega)] at t2
  rw [i2] at t4
  obtain ⟨V', E, p1, p2, p3, p4, p5, p6⟩ := xpops T (xTk hr (φ (d - 1 - l))) (an := (xTk hr (φ (d - 1 - l))).toInt.toNat) (by omega) (by omega) (hr 27 24) 0 (by rw [i3]; exact h.2.2) (by omega)
  rw [i1] at p1
  rw [i2] at p2
  rw [i3, i4] at p6
  rw [i3] at p5
  have hE : 0 ≤ E.toInt := by
    by_cases z : (hr 35 (φ (d - 1))).toInt ≤ (hr 27 24).toInt - ((xTk hr (φ (d - 1 - l))).toInt.toNat : Int)
    · rw [(p5 z).2]; decide
    · rw [(p6 (by omega)).2]
      by_cases r : hr 40 (φ (d - 1)) = 0
      · rw [if_pos r]; decide
      · rw [if_neg r]; decide
  have kt : f_k_checkTyping (hr 28 v) hc = f_k_leaveOff (xZc hc V' E) := by
    unfold f_k_checkTyping
    rw [hw, if_neg (by decide), if_neg (by decide), if_neg (by decide), if_neg (by decide), if_neg (by decide), if_pos rfl, t1, Option.bind_some, p1, Option.bind_some, xbs]
  have mt : f_m_check F V3 hr = f_m_leave (xZr (xput hr 41 v (hr 27 22)) V' E) := by
    rw [mc, hw, if_neg (by decide), ← hw, im, if_neg (by decide), hw]
    unfold f_m_check_48
    rw [if_neg (by decide), if_pos (by decide)]
    unfold f_m_check_69
    rw [if_neg (by decide), if_neg (by decide), if_pos rfl, xput_off (show (27 : Nat) ≠ 41 by omega), t2, Option.bind_some, t4, Option.bind_some, p2, Option.bind_some, xbs]
  rw [kt, mt]
  refine xIt.leave P E hE (fun z live lp => xCnd_br (xLr_wd W) ?_ ?_) _
  · rw [show xput (xZr (xput hr 41 v (hr 27 22)) (hr 35 (φ (d - 1))) 0) 40 (φ (d - 1)) 0 28 = hr 28 from xLr_o _ _ _ _ (by omega) (by omega) (by omega)]
    exact hw
  · have q : (hr 35 (φ (d - 1))).toInt ≤ (hr 27 24).toInt - ((xTk hr (φ (d - 1 - l))).toInt.toNat : Int) := by
      by_cases q : (hr 35 (φ (d - 1))).toInt ≤ (hr 27 24).toInt - ((xTk hr (φ (d - 1 - l))).toInt.toNat : Int)
      · exact q
      · have e := (p6 (by omega)).2
        rw [if_neg (live _ (by omega)), z] at e
        exact absurd e (by decide)
    have := xbrK (hc2 := xLc hc hr φ d) (hr2 := xLr hr φ d v) (lp := v + 1) K hd (fun k hk => xLr_o _ _ _ _ (by omega) (by omega) (by omega)) (xLr_j _ _ _ _ (by omega) (by omega)) (by rw [xLr_41]; exact K.2.2.2.2.2.2.2.2.1 hd) (by unfold xLc; rw [xput_off (by omega), xZc_o _ _ _ (by omega)]) (by unfold xLc; rw [xput_off (by omega), xZc_o _ _ _ (by omega)]; exact b3) b1 b2 (fun j hj => by rw [xLr_40 K hj]; exact live j (by omega)) lp (hr 27 24).toInt (by omega)
    rw [xLr_j _ _ _ _ (by omega) (by omega)] at this
    exact this
theorem xk_brif {A : Nat → Nat → Int → Prop} {hc hr : xI} {φ : Nat → Nat} {d f v : Nat} (P : xPre A hc hr φ d f v) (hw : hr 28 v = 13) {F V3 : Int32} (hV : V3.toInt = v) : xIt hc hr f v (f_k_checkTyping (hr 28 v) hc) (f_m_check F V3 hr) := by
  have T := P.top
  have bd := P.bounds
  have mc := xmcheck P (F := F) hV
  obtain ⟨i1, i2, i3, i4⟩ := P.ids
  have im : f_m_immediates (hr 28 v) = 1 := by rw [hw]; decide
  have P' := P
  obtain ⟨R, K, I, hd, hv, e1, e2, fn, pl, be, W, l1, l2⟩ := P'
  have ip := xwd_imm W (by rw [im]; decide)
  have h := K.height (i := d - 1) (by omega)
  have vb := K.2.2.2.2.1
  obtain ⟨l, b1, b2, b3⟩ := l1 (.inr hw)
  obtain ⟨P1, P2⟩ := xi_cl1 pl (by omega)
  obtain ⟨t1, ⟨Y, t2⟩, t3⟩ := xtaken P (lp := v + 1) P1 (by omega) b1 b2
  obtain ⟨t2, t4⟩ := t2 (hr 27 24) 0
  rw [i2, xput_off (show (27 : Nat) ≠ 41 by omega)] at t2
  rw [i2] at t4
  obtain ⟨V', E, p1, p2, p3, p4, p5, p6⟩ := xpops T 1 (an := 1) rfl (by omega) (hr 27 24) 0 (by rw [i3]; exact h.2.2) (by omega)
  rw [i1] at p1
  rw [i2] at p2
  rw [i3, i4] at p6
  rw [i3] at p5 p3
  have hE : 0 ≤ E.toInt := by
    by_cases z : (hr 35 (φ (d - 1))).toInt ≤ (hr 27 24).toInt - ((1 : Nat) : Int)
    · rw [(p5 z).2]; decide
    · rw [(p6 (by omega)).2]
      by_cases r : hr 40 (φ (d - 1)) = 0
      · rw [if_pos r]; decide
      · rw [if_neg r]; decide
  obtain ⟨U1, U2, E2, q1, q2, q3, q5, q4⟩ := xexch T (xTk hr (φ (d - 1 - l))) (xTk hr (φ (d - 1 - l))) (an := (xTk hr (φ (d - 1 - l))).toInt.toNat) (by omega) (by omega) (by omega) (by omega) V' E hE (by rw [i3]; exact p3) (by omega)
  rw [i3, i4] at q4
  have kt : f_k_checkTyping (hr 28 v) hc = some (xZc hc U1 E2) := by
    unfold f_k_checkTyping
    have z11 : xZc hc V' E 13 11 = hc 13 11 := xZc_j _ _ _ (by omega) (by omega)
    rw [hw, if_neg (by decide), if_neg (by decide), if_neg (by decide), if_neg (by decide), if_neg (by decide), if_neg (by decide), if_pos rfl, p1, Option.bind_some, z11, t1, Option.bind_some, Option.bind_some, xbs]
    exact q1
  have mt : f_m_check F V3 hr = some (xZr (xput hr 41 v (hr 27 22)) U2 E2) := by
    rw [mc, hw, if_neg (by decide), ← hw, im, if_neg (by decide), hw]
    unfold f_m_check_48
    rw [if_neg (by decide), if_pos (by decide)]
    unfold f_m_check_69
    rw [if_neg (by decide), if_neg (by decide), if_neg (by decide), if_pos rfl, xput_off (show (27 : Nat) ≠ 41 by omega), t2, Option.bind_some, t4, Option.bind_some, p2, Option.bind_some]
    simp only [xbs]
    exact q2
  rw [kt, mt]
  refine xIt.values P U1 U2 E2 q3 (fun z => ⟨(q4 z).1, (q4 z).2.1, (q4 z).2.2.1⟩) (fun z live nx => ?_)
  obtain ⟨s1, s2⟩ := (q4 z).2.2.2 (live _ (by omega))
  have Ez : E = 0 := by
    by_cases c : E = 0
    · exact c
    · exact absurd z (q5 c)
  have q : (hr 35 (φ (d - 1))).toInt ≤ (hr 27 24).toInt - 1 := by
    by_cases q : (hr 35 (φ (d - 1))).toInt ≤ (hr 27 24).toInt - ((1 : Nat) : Int)
    · omega
    · have e := (p6 (by omega)).2
      rw [if_neg (live _ (by omega)), Ez] at e
      exact absurd e (by decide)
  have sv := (p5 (by omega)).1
  have rr : ∀ k, k ≠ 27 → k ≠ 41 → xZr (xput hr 41 v (hr 27 22)) U2 0 k = hr k := fun k a b => by rw [xZr_o _ _ _ a, xput_off b]
  have r11 : xZr (xput hr 41 v (hr 27 22)) U2 0 27 11 = hr 27 11 := by rw [xZr_j _ _ _ (by omega) (by omega), xput_off (by omega)]
  have l2 : v + xLen hr v = v + 2 := by
    have := xlen1 (v := v) (hr := hr) (by rw [hw]; decide)
    rw [im] at this
    exact this
  rw [l2] at nx ⊢
  have eu : U2.toInt = (hr 27 24).toInt - 1 := by omega
  rw [eu] at nx
  refine xCnd_brif (xwd_z W (fun k hk => rr k (by omega) (by omega)) (by rw [xZr_j _ _ _ (by omega) (by omega), xput_off (by omega)])) ?_ (by omega) nx ?_
  · rw [rr 28 (by omega) (by omega)]; exact hw
  · have := xbrK (A' := xA' A f v (xLive hr φ d)) (v' := v + 2) (hc2 := xZc hc U2 0) (hr2 := xZr (xput hr 41 v (hr 27 22)) U2 0) (lp := v + 1) K hd (fun k hk => rr k (by omega) (by omega)) r11 (by rw [xZr_o _ _ _ (by omega), xput_at, if_pos rfl, if_pos rfl]; exact K.2.2.2.2.2.2.2.2.1 hd) (xZc_o _ _ _ (by omega)) (by rw [xZc_o _ _ _ (by omega)]; exact b3) b1 b2 (fun j hj => by rw [rr 40 (by omega) (by omega)]; exact live j (by omega)) (xLp_same I.2.2.1 (fun f' q h a => by
        rcases a with a | ⟨a1, a2, a3, a4, a5⟩
        · exact .inl (.inl a)
        · exact .inl (.inr ⟨a1, a2, a4, a5⟩)) (fun k hk i hi => by rw [rr k (by omega) (by omega)]) (fun j hj => by rw [rr 40 (by omega) (by omega)]; exact id)) ((hr 27 24).toInt - 1) (by omega)
    rw [r11] at this
    exact this
