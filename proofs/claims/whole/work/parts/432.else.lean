/-! else in the check. -/
theorem xclose {A : Nat → Nat → Int → Prop} {hc hr : xI} {φ : Nat → Nat} {d f v : Nat} (P : xPre A hc hr φ d f v) : ∃ V' E1 E', f_k_closeHeight (hc 13 6 - 1) hc = some (xZc hc V' E') ∧ f_m_pop (hr 34 (φ (d - 1))) (xput hr 41 v (hr 27 22)) = some (xZr (xput hr 41 v (hr 27 22)) V' E1) ∧ E' = (if V' = hr 35 (φ (d - 1)) then E1 else xErr 3 E1) ∧ 0 ≤ E'.toInt ∧ 0 ≤ E1.toInt ∧ (hr 35 (φ (d - 1))).toInt ≤ V'.toInt ∧ V'.toInt ≤ 20 ∧ (E' = 0 → V' = hr 35 (φ (d - 1)) ∧ E1 = 0 ∧ (hr 40 (φ (d - 1)) ≠ 0 → (hr 27 24).toInt = (hr 35 (φ (d - 1))).toInt + (hr 34 (φ (d - 1))).toInt)) := by
  have T := P.top
  have N := T.n
  obtain ⟨i1, i2, i3, i4⟩ := P.ids
  have hd := P.2.2.2.1
  have K := P.2.1
  have h := K.height (i := d - 1) (by omega)
  have vb := K.2.2.2.2.1
  obtain ⟨k1, k2, k3, k4, k5, k6, k7, k8, k9, k10, k11, k12, k13, k14, k15, k16, k17, k18, k19, k20, k21⟩ := K
  have g01 := k14 (d - 1) (by omega)
  have gb : 0 ≤ (hr 34 (φ (d - 1))).toInt ∧ (hr 34 (φ (d - 1))).toInt ≤ 1 := by
    rcases g01.2 with e | e <;> rw [e] <;> decide
  obtain ⟨V', E, p1, p2, p3, p4, p5, p6⟩ := xpops T (hr 34 (φ (d - 1))) (an := (hr 34 (φ (d - 1))).toInt.toNat) (by omega) (by omega) (hr 27 24) 0 (by rw [i3]; exact h.2.2) (by omega)
  rw [i1] at p1
  rw [i2] at p2
  rw [i3, i4] at p6
  rw [i3] at p5 p3
  have hE : 0 ≤ E.toInt := by
    by_cases z : (hr 35 (φ (d - 1))).toInt ≤ (hr 27 24).toInt - ((hr 34 (φ (d - 1))).toInt.toNat : Int)
    · rw [(p5 z).2]; decide
    · rw [(p6 (by omega)).2]
      by_cases r : hr 40 (φ (d - 1)) = 0
      · rw [if_pos r]; decide
      · rw [if_neg r]; decide
  refine ⟨V', E, _, ?_, p2, rfl, ?_, hE, p3, by omega, ?_⟩
  · unfold f_k_closeHeight
    rw [xgd_ok (by omega) (by omega), N.2, g01.1, p1, Option.bind_some, xgd_ok (by omega) (by omega), xZc_v, xZc_o _ _ _ (by omega), k15 _ (by omega)]
    by_cases c : V' = hr 35 (φ (d - 1))
    · rw [if_pos c, if_pos c]
    · rw [if_neg c, if_neg c, kfail, Option.bind_some]
  · by_cases c : V' = hr 35 (φ (d - 1))
    · rw [if_pos c]; exact hE
    · rw [if_neg c]; exact xE_pos (by decide) hE
  · intro z
    by_cases c : V' = hr 35 (φ (d - 1))
    · rw [if_pos c] at z
      refine ⟨c, z, fun r => ?_⟩
      by_cases q : (hr 35 (φ (d - 1))).toInt ≤ (hr 27 24).toInt - ((hr 34 (φ (d - 1))).toInt.toNat : Int)
      · have := (p5 q).1
        rw [c] at this
        omega
      · have e := (p6 (by omega)).2
        rw [if_neg r, z] at e
        exact absurd e (by decide)
    · rw [if_neg c] at z
      exact absurd z (xE_ne (by decide))
theorem xk_else {A : Nat → Nat → Int → Prop} {hc hr : xI} {φ : Nat → Nat} {d f v : Nat} (P : xPre A hc hr φ d f v) (hw : hr 28 v = 5) {F V3 : Int32} (hV : V3.toInt = v) : xIt hc hr f v (f_k_checkTyping (hr 28 v) hc) (f_m_check F V3 hr) := by
  have T := P.top
  have TN := T.n
  have mc := xmcheck P (F := F) hV
  obtain ⟨i1, i2, i3, i4⟩ := P.ids
  have bd := P.bounds
  have P' := P
  obtain ⟨R, K, I, hd, hv, e1, e2, fn, pl, be, W, l1, l2⟩ := P'
  have hh := K.height (i := d - 1) (by omega)
  have kk := K
  obtain ⟨k1, k2, k3, k4, k5, k6, k7, k8, k9, k10, k11, k12, k13, k14, k15, k16, k17, k18, k19, k20, k21⟩ := kk
  have yb := bd.2.2.2.2.2 (d - 1) (by omega)
  have gF : ∀ {α : Type} (x : Option α), xgd (hc 13 6 - 1) 9 x = x := fun x => xgd_ok (by omega) (by omega)
  have h22 := k9 hd
  have gY : ∀ {α : Type} (x : Option α), xgd (hr 27 22) 250 x = x := fun x => xgd_ok (by omega) (by omega)
  have h27 : ∀ j, xput hr 41 v (hr 27 22) 27 j = hr 27 j := fun j => by rw [xput_off (by omega)]
  have hx : ∀ k, k ≠ 41 → xput hr 41 v (hr 27 22) k = hr k := fun k a => xput_off a
  have kt : f_k_checkTyping (hr 28 v) hc = f_k_checkElse hc := by
    unfold f_k_checkTyping
    rw [hw, if_neg (by decide), if_neg (by decide), if_neg (by decide), if_pos rfl, xbs]
  have mt : f_m_check F V3 hr = f_m_checkElse V3 (xput hr 41 v (hr 27 22)) := by
    rw [mc, hw, if_neg (by decide)]
    unfold f_m_check_48
    rw [if_neg (by decide), if_pos (by decide)]
    unfold f_m_check_69
    rw [if_pos rfl, xbs]
  rw [kt, mt]
  have kinds : (hc 14 (d - 1) = 4 ↔ hr 33 (φ (d - 1)) = 4) ∧ (hr 33 (φ (d - 1)) = 4 → 0 < d - 1) := by
    by_cases z : d - 1 = 0
    · obtain ⟨q1, q2, q3, q4⟩ := k17 hd
      rw [z, q1, q3]
      exact ⟨⟨fun e => absurd e (by decide), fun e => absurd e (by decide)⟩, fun e => absurd e (by decide)⟩
    · rw [(k18 _ (by omega) (by omega)).1]
      exact ⟨Iff.rfl, fun _ => by omega⟩
  unfold f_k_checkElse f_m_checkElse
  rw [gF, TN.2, h27, gY, xi_cl h22, hx 33 (by omega)]
  by_cases k4' : hr 33 (φ (d - 1)) = 4
  · rw [if_pos (kinds.1.mpr k4'), if_pos k4', gY, hx 34 (by omega)]
    have d1 := kinds.2 k4'
    obtain ⟨q1, q2, q3, -⟩ := k18 (d - 1) d1 (by omega)
    obtain ⟨⟨b, w1, w2, w3, w4, w5, w6, w7, w8, w9, w10, w11⟩, g1, g2⟩ := k20 _ (k10 (d - 1) (by omega)) q2
    have mid : hr 38 (φ (d - 1)) = -1 := by
      rcases w11 with ⟨w11, -⟩ | ⟨w11, -⟩
      · exact w11
      · rw [k4'] at w11; exact absurd w11 (by decide)
    obtain ⟨V', E1, E', c1, c2, c3, c4, c5, c6, c7, c8⟩ := xclose P
    rw [c1, c2, Option.bind_some, Option.bind_some]
    have z18 : xZc hc V' E' 18 (d - 1) = hr 37 (φ (d - 1)) := by rw [xZc_o _ _ _ (by omega)]; exact q3
    have z11 : xZc hc V' E' 13 11 = hc 13 11 := xZc_j _ _ _ (by omega) (by omega)
    have r22 : ∀ D, xZr (xput hr 41 v (hr 27 22)) V' D 27 22 = hr 27 22 := fun D => by rw [xZr_j _ _ _ (by omega) (by omega), h27]
    have r35 : ∀ D, xZr (xput hr 41 v (hr 27 22)) V' D 35 = hr 35 := fun D => by rw [xZr_o _ _ _ (by omega), hx 35 (by omega)]
    have m53 : (if xZr (xput hr 41 v (hr 27 22)) V' E1 27 24 = xZr (xput hr 41 v (hr 27 22)) V' E1 35 (φ (d - 1)) then f_m_checkElse_53 V3 (xZr (xput hr 41 v (hr 27 22)) V' E1) else (f_m_fail 3 (xZr (xput hr 41 v (hr 27 22)) V' E1)).bind fun q7 => f_m_checkElse_53 V3 q7) = some (xput (xput (xput (xZr (xput hr 41 v (hr 27 22)) V' E') 33 (φ (d - 1)) 5) 38 (φ (d - 1)) V3) 40 (φ (d - 1)) 1) := by
      have k : ∀ D, f_m_checkElse_53 V3 (xZr (xput hr 41 v (hr 27 22)) V' D) = some (xput (xput (xput (xZr (xput hr 41 v (hr 27 22)) V' D) 33 (φ (d - 1)) 5) 38 (φ (d - 1)) V3) 40 (φ (d - 1)) 1) := by
        intro D
        unfold f_m_checkElse_53
        rw [r22, gY, gY, gY, xi_cl h22, xb1]
      rw [xZr_v, r35, c3]
      by_cases c : V' = hr 35 (φ (d - 1))
      · rw [if_pos c, if_pos c, k]
      · rw [if_neg c, if_neg c, mfail, Option.bind_some, k]
    rw [gF, gF, gF, z18, xgd_ok (by omega) (by omega), xi_cl w1, z11, xb1, r22, gY, xi_cl h22, m53]
    have P3 : hc 13 11 = V3 := by rw [xi_eq]; omega
    -- reading the new states
    have co : ∀ k, k ≠ 13 → k ≠ 14 → k ≠ 17 → k ≠ 8 → xput (xput (xput (xZc hc V' E') 14 (d - 1) 5) 17 (d - 1) 1) 8 b (hc 13 11) k = hc k := fun k a1 a2 a3 a4 => by
      rw [xput_off a4, xput_off a3, xput_off a2, xZc_o _ _ _ a1]
    have c13 : ∀ j, xput (xput (xput (xZc hc V' E') 14 (d - 1) 5) 17 (d - 1) 1) 8 b (hc 13 11) 13 j = xZc hc V' E' 13 j := fun j => by
      rw [xput_off (by omega), xput_off (by omega), xput_off (by omega)]
    have c14 : ∀ i, xput (xput (xput (xZc hc V' E') 14 (d - 1) 5) 17 (d - 1) 1) 8 b (hc 13 11) 14 i = if i = d - 1 then 5 else hc 14 i := fun i => by
      rw [xput_off (by omega), xput_off (by omega), xput_at, if_pos rfl, xZc_o _ _ _ (by omega)]
    have c17 : ∀ i, xput (xput (xput (xZc hc V' E') 14 (d - 1) 5) 17 (d - 1) 1) 8 b (hc 13 11) 17 i = if i = d - 1 then 1 else hc 17 i := fun i => by
      rw [xput_off (by omega), xput_at, if_pos rfl, xput_off (by omega), xZc_o _ _ _ (by omega)]
    have c8' : ∀ i, xput (xput (xput (xZc hc V' E') 14 (d - 1) 5) 17 (d - 1) 1) 8 b (hc 13 11) 8 i = if i = b then V3 else hc 8 i := fun i => by
      rw [xput_at, if_pos rfl, xput_off (by omega), xput_off (by omega), xZc_o _ _ _ (by omega), P3]
    have ro : ∀ k, k ≠ 27 → k ≠ 33 → k ≠ 38 → k ≠ 40 → k ≠ 41 → xput (xput (xput (xZr (xput hr 41 v (hr 27 22)) V' E') 33 (φ (d - 1)) 5) 38 (φ (d - 1)) V3) 40 (φ (d - 1)) 1 k = hr k := fun k a1 a2 a3 a4 a5 => by
      rw [xput_off a4, xput_off a3, xput_off a2, xZr_o _ _ _ a1, hx k a5]
    have r27 : ∀ j, xput (xput (xput (xZr (xput hr 41 v (hr 27 22)) V' E') 33 (φ (d - 1)) 5) 38 (φ (d - 1)) V3) 40 (φ (d - 1)) 1 27 j = xZr (xput hr 41 v (hr 27 22)) V' E' 27 j := fun j => by
      rw [xput_off (by omega), xput_off (by omega), xput_off (by omega)]
    have r33 : ∀ i, xput (xput (xput (xZr (xput hr 41 v (hr 27 22)) V' E') 33 (φ (d - 1)) 5) 38 (φ (d - 1)) V3) 40 (φ (d - 1)) 1 33 i = if i = φ (d - 1) then 5 else hr 33 i := fun i => by
      rw [xput_off (by omega), xput_off (by omega), xput_at, if_pos rfl, xZr_o _ _ _ (by omega), hx 33 (by omega)]
    have r38 : ∀ i, xput (xput (xput (xZr (xput hr 41 v (hr 27 22)) V' E') 33 (φ (d - 1)) 5) 38 (φ (d - 1)) V3) 40 (φ (d - 1)) 1 38 i = if i = φ (d - 1) then V3 else hr 38 i := fun i => by
      rw [xput_off (by omega), xput_at, if_pos rfl, xput_off (by omega), xZr_o _ _ _ (by omega), hx 38 (by omega)]
    have r40 : ∀ i, xput (xput (xput (xZr (xput hr 41 v (hr 27 22)) V' E') 33 (φ (d - 1)) 5) 38 (φ (d - 1)) V3) 40 (φ (d - 1)) 1 40 i = if i = φ (d - 1) then 1 else hr 40 i := fun i => by
      rw [xput_at, if_pos rfl, xput_off (by omega), xput_off (by omega), xZr_o _ _ _ (by omega), hx 40 (by omega)]
    have r41 : ∀ i, xput (xput (xput (xZr (xput hr 41 v (hr 27 22)) V' E') 33 (φ (d - 1)) 5) 38 (φ (d - 1)) V3) 40 (φ (d - 1)) 1 41 i = if i = v then hr 27 22 else hr 41 i := fun i => by
      rw [xput_off (by omega), xput_off (by omega), xput_off (by omega), xZr_o _ _ _ (by omega), xput_at, if_pos rfl]
    generalize xput (xput (xput (xZc hc V' E') 14 (d - 1) 5) 17 (d - 1) 1) 8 b (hc 13 11) = hc2 at co c13 c14 c17 c8' ⊢
    generalize xput (xput (xput (xZr (xput hr 41 v (hr 27 22)) V' E') 33 (φ (d - 1)) 5) 38 (φ (d - 1)) V3) 40 (φ (d - 1)) 1 = hr2 at ro r27 r33 r38 r40 r41 ⊢
    have F : xFrm hc hr hc2 hr2 := by
      refine ⟨fun k x y => co k (by omega) (by omega) (by omega) (by omega), fun k x y => ro k x (by omega) (by omega) (by omega) (by omega), fun j x1 x2 x3 x4 x5 => ?_⟩
      rw [r27, xZr_j _ _ _ x4 x5, h27]
    have q25 : hr2 27 25 = E' := by rw [r27, xZr_e]
    refine ⟨hc2, hr2, rfl, rfl, F, by rw [q25, c13, xZc_e], by rw [q25]; exact c4, fun j hj => by rw [c13]; exact xZc_j _ _ _ (by omega) (by omega), fun z => ?_⟩
    rw [q25] at z
    obtain ⟨vz, -, vr⟩ := c8 z
    have rm : ∀ j, j ≠ 24 → j ≠ 25 → hr2 27 j = hr 27 j := fun j a b => by rw [r27, xZr_j _ _ _ a b, h27]
    have q24 : hr2 27 24 = hr 35 (φ (d - 1)) := by rw [r27, xZr_v]; exact vz
    have len : xLen hr v = 1 := by
      unfold xLen
      rw [hw, if_neg (by decide)]
      rfl
    rw [len]
    have ny : ∀ i, i + 1 < d → φ i ≠ φ (d - 1) := fun i hi e => by have := K.inj (by omega) (by omega) e; omega
    have hlast := k10 (d - 1) (by omega)
    have K2 : xCK hc2 hr2 φ d f (v + 1) := by
      refine ⟨by rw [rm 23 (by omega) (by omega)]; exact k1, k2, by rw [c13, xZc_j _ _ _ (by omega) (by omega), rm 23 (by omega) (by omega)]; exact k3, by rw [c13, xZc_v, q24]; exact vz, by rw [q24]; omega, by rw [rm 4 (by omega) (by omega)]; exact k6, by rw [rm 11 (by omega) (by omega)]; omega, by rw [ro 29 (by omega) (by omega) (by omega) (by omega) (by omega)]; omega, fun _ => by rw [rm 22 (by omega) (by omega)]; exact k9 hd, by rw [rm 11 (by omega) (by omega)]; exact k10, ?_, fun _ => by rw [q24, ro 35 (by omega) (by omega) (by omega) (by omega) (by omega)]; exact Int.le_refl _, by rw [ro 35 (by omega) (by omega) (by omega) (by omega) (by omega)]; exact k13, ?_, ?_, fun i hi => ?_, fun _ => ?_, fun i h0 hi => ?_, by rw [ro 39 (by omega) (by omega) (by omega) (by omega) (by omega)]; exact k19, fun y hy hk => ?_, fun e => by omega⟩
      · rw [ro 36 (by omega) (by omega) (by omega) (by omega) (by omega), ro 35 (by omega) (by omega) (by omega) (by omega) (by omega)]; exact k11
      · rw [co 15 (by omega) (by omega) (by omega) (by omega), ro 34 (by omega) (by omega) (by omega) (by omega) (by omega)]; exact k14
      · rw [co 16 (by omega) (by omega) (by omega) (by omega), ro 35 (by omega) (by omega) (by omega) (by omega) (by omega)]; exact k15
      · rw [c17, r40]
        by_cases c : i = d - 1
        · rw [if_pos c, if_pos (by rw [c])]
        · rw [if_neg c, if_neg (ny i (by omega))]; exact k16 i hi
      · rw [c14, if_neg (by omega), co 18 (by omega) (by omega) (by omega) (by omega), r33, if_neg (ny 0 (by omega)), ro 34 (by omega) (by omega) (by omega) (by omega) (by omega), ro 32 (by omega) (by omega) (by omega) (by omega) (by omega)]
        exact k17 hd
      · rw [c14, r33, co 18 (by omega) (by omega) (by omega) (by omega), ro 37 (by omega) (by omega) (by omega) (by omega) (by omega)]
        by_cases c : i = d - 1
        · rw [if_pos c, if_pos (by rw [c])]
          exact ⟨rfl, by decide, (k18 i h0 hi).2.2.1, by decide⟩
        · rw [if_neg c, if_neg (ny i (by omega))]
          exact k18 i h0 hi
      · rw [rm 11 (by omega) (by omega)] at hy
        rw [ro 34 (by omega) (by omega) (by omega) (by omega) (by omega), ro 35 (by omega) (by omega) (by omega) (by omega) (by omega)]
        have r28 := ro 28 (by omega) (by omega) (by omega) (by omega) (by omega)
        have r34 := ro 34 (by omega) (by omega) (by omega) (by omega) (by omega)
        have r35 := ro 35 (by omega) (by omega) (by omega) (by omega) (by omega)
        have r37 := ro 37 (by omega) (by omega) (by omega) (by omega) (by omega)
        have r39 := ro 39 (by omega) (by omega) (by omega) (by omega) (by omega)
        have r42 := ro 42 (by omega) (by omega) (by omega) (by omega) (by omega)
        have cc7 := co 7 (by omega) (by omega) (by omega) (by omega)
        have cc9 := co 9 (by omega) (by omega) (by omega) (by omega)
        by_cases c : y = φ (d - 1)
        · subst c
          refine ⟨⟨b, by rw [r37]; exact w1, by omega, w3, by rw [r28]; exact w4, ?_, by rw [r28, r34]; exact w6, by rw [cc9, r35]; exact w7, by rw [r42]; exact w8, by rw [c8', if_pos rfl, r38, if_pos rfl], ?_, .inr ⟨by rw [r33, if_pos rfl], v, by rw [r38, if_pos rfl]; exact hV, by omega, by rw [r28]; exact hw, by rw [r41, if_pos rfl]; exact h22, ?_⟩⟩, g1, g2⟩
          · rw [r28, r33, if_pos rfl, w5, k4']
            exact ⟨fun e => absurd e (by decide), fun e => absurd e (by decide)⟩
          · rw [r39, k19 _ (by omega)]; intro e; exact absurd e (by decide)
          · rw [r39, k19 _ (by omega)]; intro e; exact absurd e (by decide)
        · rw [r33, if_neg c] at hk
          obtain ⟨⟨b', w1', w2', w3', w4', w5', w6', w7', w8', w9', w10', w11'⟩, g1', g2'⟩ := k20 y hy hk
          have nb : b' ≠ b := fun e => by rw [e] at w8'; omega
          refine ⟨⟨b', by rw [r37]; exact w1', by omega, w3', by rw [r28]; exact w4', by rw [r28, r33, if_neg c]; exact w5', by rw [r28, r34]; exact w6', by rw [cc9, r35]; exact w7', by rw [r42]; exact w8', by rw [c8', if_neg nb, r38, if_neg c]; exact w9', by rw [r39, cc7]; exact w10', ?_⟩, g1', g2'⟩
          rw [r38, if_neg c, r33, if_neg c, r28, r39, cc7]
          rcases w11' with w | ⟨u0, m, u1, u2, u3, u4, u5⟩
          · exact .inl w
          · exact .inr ⟨u0, m, u1, by omega, u3, by rw [r41, if_neg (by omega)]; exact u4, u5⟩
    have L0 : ∀ f' q h, xL0 A hr φ d f v f' q h → xL0 (xA' A f v (xLive hr φ d)) hr2 φ d f (v + 1) f' q h := by
      intro f' q h a
      rcases a with a | ⟨a1, a2, a3, a4, a5⟩
      · exact .inl (.inl a)
      · exact .inl (.inr ⟨a1, a2, a4, a5⟩)
    have op : ∀ q, xOpn hr φ d q → xOpn hr2 φ d q := by
      intro q o
      obtain ⟨i, o1, o2, o3, o4⟩ := o
      refine ⟨i, o1, o2, o3, fun j hj => ?_⟩
      rw [r40, if_neg (ny j (by omega))]
      exact o4 j hj
    have rN := rm 11 (by omega) (by omega)
    have r34 := ro 34 (by omega) (by omega) (by omega) (by omega) (by omega)
    have r35 := ro 35 (by omega) (by omega) (by omega) (by omega) (by omega)
    have r36 := ro 36 (by omega) (by omega) (by omega) (by omega) (by omega)
    have r37 := ro 37 (by omega) (by omega) (by omega) (by omega) (by omega)
    have r39 := ro 39 (by omega) (by omega) (by omega) (by omega) (by omega)
    have k33 : ∀ q, hr 33 q ≠ 0 → hr2 33 q ≠ 0 := by
      intro q hq
      rw [r33]
      by_cases c : q = φ (d - 1)
      · rw [if_pos c]; decide
      · rw [if_neg c]; exact hq
    refine ⟨xA' A f v (xLive hr φ d), φ, d, K2, ?_⟩
    refine xGI_gen K I F (by omega) (by rw [rN]; exact Int.le_refl _) hv (fun y hy => ?_) (fun p hp => ⟨by rw [r41, if_neg (by omega)], by rw [ro 42 (by omega) (by omega) (by omega) (by omega) (by omega)]⟩) (fun b' hb => by rw [co 9 (by omega) (by omega) (by omega) (by omega)]) (fun b' hb => by rw [co 10 (by omega) (by omega) (by omega) (by omega)]) ?_ L0 ?_ ?_
    · rw [r34, r35, r36, r37, r33, r38]
      by_cases c : y = φ (d - 1)
      · subst c
        rw [if_pos rfl, if_pos rfl, k4', mid]
        exact ⟨rfl, rfl, rfl, rfl, ⟨fun e => absurd e (by decide), fun e => absurd e (by decide)⟩, ⟨fun e => absurd e (by decide), fun e => absurd e (by decide)⟩, fun e => absurd e (by decide)⟩
      · rw [if_neg c, if_neg c]
        exact ⟨rfl, rfl, rfl, rfl, Iff.rfl, Iff.rfl, fun _ => rfl⟩
    · intro f' t q h a
      obtain ⟨a4, a0, a1, a2, a3⟩ := a
      refine ⟨a4, fun e => L0 _ _ _ (a0 e), fun e => ?_, fun e => ?_, fun e => ?_⟩
      · obtain ⟨b1, b2, b3⟩ := a1 e
        clear a0 a1 a2 a3
        rw [rN, r39, r35, r34]
        refine ⟨b1, k33 q b2, ?_⟩
        rcases b3 with ⟨e, u1, u2⟩ | ⟨u1, u2, u3⟩
        · exact .inl ⟨e, u1, L0 _ _ _ u2⟩
        · exact .inr ⟨u1, op _ u2, u3⟩
      · obtain ⟨b1, b2, b4, b3⟩ := a2 e
        clear a0 a1 a2 a3
        have c : q ≠ φ (d - 1) := fun c => by rw [c, mid] at b4; exact absurd b4 (by decide)
        rw [rN, r39, r35, r34, r38, if_neg c]
        refine ⟨b1, k33 q b2, b4, ?_⟩
        rcases b3 with ⟨e, u1, u2⟩ | ⟨u1, u2, u3⟩
        · exact .inl ⟨e, u1, L0 _ _ _ u2⟩
        · exact .inr ⟨u1, op _ u2, u3⟩
      · obtain ⟨b1, b2, b3⟩ := a3 e
        clear a0 a1 a2 a3
        rw [rN, r39, r35, r38, r33]
        by_cases c : q = φ (d - 1)
        · subst c
          rw [if_pos rfl, if_pos rfl]
          refine ⟨b1, by decide, .inl ⟨v, hV, ?_⟩⟩
          rcases b3 with ⟨m, u1, u2⟩ | ⟨u0, u1⟩
          · rw [mid] at u1
            have : (-1 : Int32).toInt = -1 := rfl
            omega
          · rcases u1 with ⟨e, u1, u2⟩ | ⟨u1, u2, u3, u4⟩
            · rw [k19 _ (by omega)] at u1
              have : (-1 : Int32).toInt = -1 := rfl
              omega
            · obtain ⟨i, o1, o2, o3, o4⟩ := u3
              have ei := K.inj o2 (by omega) o3
              refine .inr ⟨u1, rfl, hd, fun j hj => ?_, by rw [q24]; exact u4⟩
              rw [r40]
              by_cases cj : φ j = φ (d - 1)
              · rw [if_pos cj]; decide
              · rw [if_neg cj]
                have : j ≠ d - 1 := fun e => cj (by rw [e])
                exact o4 j (by omega)
        · rw [if_neg c, if_neg c]
          refine ⟨b1, b2, ?_⟩
          rcases b3 with ⟨m, u1, u2⟩ | ⟨u0, u1⟩
          · exact .inl ⟨m, u1, L0 _ _ _ u2⟩
          · refine .inr ⟨u0, ?_⟩
            rcases u1 with ⟨e, u1, u2⟩ | ⟨u1, u2, u3, u4⟩
            · exact .inl ⟨e, u1, L0 _ _ _ u2⟩
            · exact .inr ⟨u1, u2, op _ u3, u4⟩
    · intro i x1 x2 x3 x4
      rw [r33] at x3
      by_cases c : φ i = φ (d - 1)
      · rw [if_pos c] at x3; exact absurd x3 (by decide)
      · rw [if_neg c] at x3
        rw [r37, r35]
        obtain ⟨b', b1, b2⟩ := I.2.2.1 i x1 x2 x3 (fun j hj => by
          have := x4 j hj
          rw [r40, if_neg (ny j (by omega))] at this
          exact this)
        exact ⟨b', b1, L0 _ _ _ b2⟩
    · intro h a
      obtain ⟨live, rfl⟩ := a
      refine ⟨k5.1, fun e => by rw [hw] at e; exact absurd e (by decide), ?_⟩
      rw [rN]
      refine xCnd_else (xwd_z W (fun k hk => ro k (by omega) (by omega) (by omega) (by omega) (by omega)) (rm 4 (by omega) (by omega))) (by rw [ro 28 (by omega) (by omega) (by omega) (by omega) (by omega)]; exact hw) (x := φ (d - 1)) (by rw [r41, if_pos rfl]; exact h22) hlast (by rw [r38, if_pos rfl]; exact hV) ?_
      refine ⟨by omega, fun e => absurd e (by omega), fun e => absurd e (by omega), fun _ => ⟨by rw [rN]; exact hlast, by rw [r33, if_pos rfl]; decide, by rw [r38, if_pos rfl]; omega, .inr ⟨rfl, ⟨d - 1, d1, by omega, rfl, fun j hj => by rw [r40, if_neg (ny j (by omega))]; exact live j (by omega)⟩, ?_⟩⟩, fun e => absurd e (by omega)⟩
      rw [r35, r34]
      exact vr (live _ (by omega))
  · rw [if_neg (fun e => k4' (kinds.1.mp e)), if_neg k4', xbs, xbs]
    have kf : f_k_fail 3 hc = some (xZc hc (hr 27 24) 3) := by
      have := kfail 3 hc (hr 27 24) 0
      rw [i1] at this
      exact this
    have mf : f_m_fail 3 (xput hr 41 v (hr 27 22)) = some (xZr (xput hr 41 v (hr 27 22)) (hr 27 24) 3) := by
      have := mfail 3 (xput hr 41 v (hr 27 22)) (hr 27 24) 0
      rw [i2] at this
      exact this
    rw [kf, mf]
    refine xIt.values P _ _ 3 (by decide) (fun e => absurd e (by decide)) (fun e => absurd e (by decide))
