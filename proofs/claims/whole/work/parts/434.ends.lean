/-! end in the check: what stands behind. -/
def xHereE (hr : xI) (φ : Nat → Nat) (d : Nat) (h : Int) : Prop := (∀ j, j < d - 1 → hr 40 (φ j) ≠ 0) ∧ h = (hr 35 (φ (d - 1))).toInt + (hr 34 (φ (d - 1))).toInt
theorem xk_end {A : Nat → Nat → Int → Prop} {hc hr : xI} {φ : Nat → Nat} {d f v : Nat} (P : xPre A hc hr φ d f v) (hw : hr 28 v = 11) {F V3 : Int32} (hF : F.toInt = f) (hV : V3.toInt = v) : xIt hc hr f v (f_k_checkTyping (hr 28 v) hc) (f_m_check F V3 hr) := by
  have mc := xmcheck P (F := F) hV
  have bd := P.bounds
  obtain ⟨V1, V2, E, b, m, y1, y2, y3, y4, y5, y6⟩ := xend_eval P hF hV
  obtain ⟨R, K, I, hd, hv, e1, e2, fn, pl, be, W, l1, l2⟩ := P
  have kt : f_k_checkTyping (hr 28 v) hc = f_k_checkEnd hc := by
    unfold f_k_checkTyping
    rw [hw, if_neg (by decide), if_neg (by decide), if_neg (by decide), if_neg (by decide), if_pos rfl, xbs]
  have mt : f_m_check F V3 hr = f_m_checkEnd F V3 (xput hr 41 v (hr 27 22)) := by
    rw [mc, hw, if_neg (by decide)]
    unfold f_m_check_48
    rw [if_neg (by decide), if_pos (by decide)]
    unfold f_m_check_69
    rw [if_neg (by decide), if_pos rfl, xbs]
  rw [kt, mt, y3]
  have h27 : ∀ j, xput hr 41 v (hr 27 22) 27 j = hr 27 j := fun j => by rw [xput_off (by omega)]
  have hx : ∀ k, k ≠ 41 → xput hr 41 v (hr 27 22) k = hr k := fun k a => xput_off a
  -- reading the reference's new state
  have ro : ∀ k, k ≠ 27 → k ≠ 39 → k ≠ 41 → xZr (xEr (xput hr 41 v (hr 27 22)) (φ (d - 1)) V3) V2 E k = hr k := fun k a1 a2 a3 => by
    rw [xZr_o _ _ _ a1]
    unfold xEr
    rw [xput_off a1, xput_off a1, xput_off a2, hx k a3]
  have r39 : ∀ i, xZr (xEr (xput hr 41 v (hr 27 22)) (φ (d - 1)) V3) V2 E 39 i = if i = φ (d - 1) then V3 else hr 39 i := fun i => by
    rw [xZr_o _ _ _ (by omega)]
    unfold xEr
    rw [xput_off (by omega), xput_off (by omega), xput_at, if_pos rfl, hx 39 (by omega)]
  have r41 : ∀ i, xZr (xEr (xput hr 41 v (hr 27 22)) (φ (d - 1)) V3) V2 E 41 i = if i = v then hr 27 22 else hr 41 i := fun i => by
    rw [xZr_o _ _ _ (by omega)]
    unfold xEr
    rw [xput_off (by omega), xput_off (by omega), xput_off (by omega), xput_at, if_pos rfl]
  have rm : ∀ j, j ≠ 22 → j ≠ 23 → j ≠ 24 → j ≠ 25 → xZr (xEr (xput hr 41 v (hr 27 22)) (φ (d - 1)) V3) V2 E 27 j = hr 27 j := fun j a1 a2 a3 a4 => by
    rw [xZr_j _ _ _ a3 a4]
    unfold xEr
    rw [xput_at, if_pos rfl, if_neg a1, xput_at, if_pos rfl, if_neg a2, xput_off (by omega), h27]
  have q22 : xZr (xEr (xput hr 41 v (hr 27 22)) (φ (d - 1)) V3) V2 E 27 22 = hr 36 (φ (d - 1)) := by
    rw [xZr_j _ _ _ (by omega) (by omega)]
    unfold xEr
    rw [xput_at, if_pos rfl, if_pos rfl, hx 36 (by omega)]
  have q23 : xZr (xEr (xput hr 41 v (hr 27 22)) (φ (d - 1)) V3) V2 E 27 23 = hr 27 23 - 1 := by
    rw [xZr_j _ _ _ (by omega) (by omega)]
    unfold xEr
    rw [xput_at, if_pos rfl, if_neg (by omega), xput_at, if_pos rfl, if_pos rfl, h27]
  have q24 : xZr (xEr (xput hr 41 v (hr 27 22)) (φ (d - 1)) V3) V2 E 27 24 = V2 := xZr_v _ _ _
  have q25 : xZr (xEr (xput hr 41 v (hr 27 22)) (φ (d - 1)) V3) V2 E 27 25 = E := xZr_e _ _ _
  generalize xZr (xEr (xput hr 41 v (hr 27 22)) (φ (d - 1)) V3) V2 E = hr2 at ro r39 r41 rm q22 q23 q24 q25 ⊢
  have F2 : ∀ hc2 : xI, (∀ k, ¬ (7 ≤ k ∧ k ≤ 10) → ¬ (13 ≤ k ∧ k ≤ 18) → hc2 k = hc k) → xFrm hc hr hc2 hr2 := fun hc2 h => ⟨h, fun k a b => ro k a (by omega) (by omega), fun j a1 a2 a3 a4 a5 => rm j a2 a3 a4 a5⟩
  refine (Classical.em (E = 0)).symm.elim (fun z => ?_) (fun z => ?_)
  · rcases y2 z with q | q
    · rw [q]
      refine ⟨_, _, rfl, rfl, F2 _ (fun k a b => xZc_o _ _ _ (by omega)), by rw [xZc_e, q25], by rw [q25]; exact y4, fun j hj => xZc_j _ _ _ (by omega) (by omega), fun e => ?_⟩
      rw [q25] at e; exact absurd e z
    · rw [q]
      refine ⟨_, _, rfl, rfl, F2 _ (fun k a b => by rw [xZc_o _ _ _ (by omega), xEc_o (by omega) (by omega)]), by rw [xZc_e, q25], by rw [q25]; exact y4, fun j hj => by rw [xZc_j _ _ _ (by omega) (by omega), xEc_13, if_neg (by omega)], fun e => ?_⟩
      rw [q25] at e; exact absurd e z
  rw [y1 z]
  obtain ⟨z1, z2, z3, z4, z5⟩ := y6 z
  subst z1
  have hh := K.height (i := d - 1) (by omega)
  have kk := K
  obtain ⟨k1, k2, k3, k4, k5, k6, k7, k8, k9, k10, k11, k12, k13, k14, k15, k16, k17, k18, k19, k20, k21⟩ := kk
  have g01 := k14 (d - 1) (by omega)
  have gb : 0 ≤ (hr 34 (φ (d - 1))).toInt ∧ (hr 34 (φ (d - 1))).toInt ≤ 1 := by
    rcases g01.2 with e | e <;> rw [e] <;> decide
  have o1 : (1 : Int32).toInt = 1 := rfl
  have s23 : (hr 27 23 - 1).toInt = ((d - 1 : Nat) : Int) := by rw [xi_sub (by omega) (by omega), k1, o1]; omega
  have h22 := k9 hd
  have hlast := k10 (d - 1) (by omega)
  have ny : ∀ i, i < d - 1 → φ i ≠ φ (d - 1) := fun i hi e => by have := K.inj (by omega) (by omega) e; omega
  have kind0 : hr 33 (φ (d - 1)) = 0 ↔ d = 1 := by
    by_cases c : d = 1
    · obtain ⟨q1, q2, q3, q4⟩ := k17 hd
      rw [c]
      exact ⟨fun _ => rfl, fun _ => q3⟩
    · obtain ⟨q1, q2, q3, q4⟩ := k18 (d - 1) (by omega) (by omega)
      exact ⟨fun e => absurd e q2, fun e => absurd e c⟩
  -- reading the class's new state
  have co : ∀ k, k ≠ 13 → k ≠ 7 → xZc (xEc hc hr (φ (d - 1)) b m V3) V1 E k = hc k := fun k a1 a2 => by
    rw [xZc_o _ _ _ a1, xEc_o a1 a2]
  have c13 : ∀ j, j ≠ 6 → j ≠ 7 → j ≠ 9 → xZc (xEc hc hr (φ (d - 1)) b m V3) V1 E 13 j = hc 13 j := fun j a1 a2 a3 => by
    rw [xZc_j _ _ _ a2 a3, xEc_13, if_neg a1]
  have c6 : xZc (xEc hc hr (φ (d - 1)) b m V3) V1 E 13 6 = hc 13 6 - 1 := by
    rw [xZc_j _ _ _ (by omega) (by omega), xEc_13, if_pos rfl]
  have cv : xZc (xEc hc hr (φ (d - 1)) b m V3) V1 E 13 7 = V1 := xZc_v _ _ _
  have cE : xZc (xEc hc hr (φ (d - 1)) b m V3) V1 E 13 9 = E := xZc_e _ _ _
  have c7 : ∀ i, xZc (xEc hc hr (φ (d - 1)) b m V3) V1 E 7 i = if (hr 33 (φ (d - 1)) ≠ 0 ∧ i = b) ∨ (hr 33 (φ (d - 1)) = 5 ∧ i = m) then V3 else hc 7 i := fun i => by
    rw [xZc_o _ _ _ (by omega), xEc_7]
  generalize xZc (xEc hc hr (φ (d - 1)) b m V3) V1 E = hc2 at co c13 c6 cv cE c7 ⊢
  have FF := F2 hc2 (fun k a b => co k (by omega) (by omega))
  refine ⟨hc2, hr2, rfl, rfl, FF, by rw [cE, q25], by rw [q25]; exact y4, fun j hj => c13 j (by omega) (by omega) (by omega), fun _ => ?_⟩
  have len : xLen hr v = 1 := by
    unfold xLen
    rw [hw, if_neg (by decide)]
    rfl
  rw [len]
  have r28 := ro 28 (by omega) (by omega) (by omega)
  have r29 := ro 29 (by omega) (by omega) (by omega)
  have r32 := ro 32 (by omega) (by omega) (by omega)
  have r33 := ro 33 (by omega) (by omega) (by omega)
  have r34 := ro 34 (by omega) (by omega) (by omega)
  have r35 := ro 35 (by omega) (by omega) (by omega)
  have r36 := ro 36 (by omega) (by omega) (by omega)
  have r37 := ro 37 (by omega) (by omega) (by omega)
  have r38 := ro 38 (by omega) (by omega) (by omega)
  have r40 := ro 40 (by omega) (by omega) (by omega)
  have r42 := ro 42 (by omega) (by omega) (by omega)
  have rN := rm 11 (by omega) (by omega) (by omega) (by omega)
  have vV : V1.toInt = (hr 35 (φ (d - 1))).toInt + (if d = 1 then 0 else (hr 34 (φ (d - 1))).toInt) ∧ V1.toInt ≤ 20 := by
    by_cases c : d = 1
    · rw [if_pos c, (z4 c).2]; omega
    · rw [if_neg c]; have := z5 (by omega); omega
  have K2 : xCK hc2 hr2 φ (d - 1) f (v + 1) := by
    refine ⟨by rw [q23]; exact s23, by omega, by rw [c6, q23, k3], by rw [cv, q24], ?_, by rw [rm 4 (by omega) (by omega) (by omega) (by omega)]; exact k6, by rw [rN]; omega, by rw [r29]; omega, fun h => ?_, fun i hi => ?_, fun i hi => ?_, fun h => ?_, fun h => ?_, fun i hi => ?_, fun i hi => ?_, fun i hi => ?_, fun h => ?_, fun i h0 hi => ?_, fun i hi => ?_, fun y hy hk => ?_, fun h => ?_⟩
    · rw [q24]; split at vV <;> omega
    · rw [q22]
      have := (k11 (d - 1 - 1) (by omega)).2.1
      rw [show d - 1 - 1 + 1 = d - 1 by omega] at this
      exact this
    · rw [rN]; exact k10 i (by omega)
    · rw [r36, r35]; exact k11 i (by omega)
    · rw [r35, q24]
      have := (k11 (d - 1 - 1) (by omega)).2.2
      rw [show d - 1 - 1 + 1 = d - 1 by omega] at this
      split at vV <;> omega
    · rw [r35]; exact k13 hd
    · rw [co 15 (by omega) (by omega), r34]; exact k14 i (by omega)
    · rw [co 16 (by omega) (by omega), r35]; exact k15 i (by omega)
    · rw [co 17 (by omega) (by omega), r40]; exact k16 i (by omega)
    · rw [co 14 (by omega) (by omega), co 18 (by omega) (by omega), r33, r34, r32]; exact k17 hd
    · rw [co 14 (by omega) (by omega), co 18 (by omega) (by omega), r33, r37]; exact k18 i h0 (by omega)
    · rw [r39, if_neg (ny i hi)]; exact k19 i (by omega)
    · rw [rN] at hy
      rw [r33] at hk
      rw [r34, r35]
      obtain ⟨⟨b', w1, w2, w3, w4, w5, w6, w7, w8, w9, w10, w11⟩, g1, g2⟩ := k20 y hy hk
      refine ⟨⟨b', by rw [r37]; exact w1, by omega, w3, by rw [r28]; exact w4, by rw [r28, r33]; exact w5, by rw [r28, r34]; exact w6, by rw [co 9 (by omega) (by omega), r35]; exact w7, by rw [r42]; exact w8, by rw [co 8 (by omega) (by omega), r38]; exact w9, ?_, ?_⟩, g1, g2⟩
      · rw [r39, c7]
        by_cases c : y = φ (d - 1)
        · subst c
          obtain ⟨u1, u2⟩ := y5 hk
          have eb : b' = b := by omega
          rw [if_pos rfl, if_pos (.inl ⟨hk, eb⟩)]
          exact fun _ => rfl
        · rw [if_neg c, if_neg]
          · exact w10
          · intro q
            rcases q with ⟨q1, q2⟩ | ⟨q1, q2⟩
            · obtain ⟨⟨b'', x1, x2, x3, x4, x5, x6, x7, x8, -⟩, -⟩ := k20 _ hlast q1
              have u1 := (y5 q1).1
              have : b'' = b := by omega
              subst this
              rw [q2] at w8
              omega
            · have q0 : hr 33 (φ (d - 1)) ≠ 0 := by rw [q1]; decide
              obtain ⟨⟨b'', x1, x2, x3, x4, x5, x6, x7, x8, x9, x10, x11⟩, -⟩ := k20 _ hlast q0
              rcases x11 with ⟨-, x11⟩ | ⟨-, m', x11, x12, x13, -⟩
              · exact x11 q1
              · have := (y5 q0).2 q1
                have em : m' = m := by omega
                subst em
                rw [q2] at w4
                rw [x13] at w4
                rcases w4 with w4 | w4 | w4 <;> exact absurd w4 (by decide)
      · rw [r38, r33, r28, r39]
        rcases w11 with w11 | ⟨u0, m', u1, u2, u3, u4, u5⟩
        · exact .inl w11
        · refine .inr ⟨u0, m', u1, by omega, u3, by rw [r41, if_neg (by omega)]; exact u4, ?_⟩
          rw [c7]
          by_cases c : y = φ (d - 1)
          · subst c
            have em : m' = m := by have := (y5 hk).2 u0; omega
            rw [if_pos rfl, if_pos (.inr ⟨u0, em⟩)]
            exact fun _ => rfl
          · rw [if_neg c, if_neg]
            · exact u5
            · intro q
              rcases q with ⟨q1, q2⟩ | ⟨q1, q2⟩
              · obtain ⟨⟨b'', x1, x2, x3, x4, -⟩, -⟩ := k20 _ hlast q1
                have := (y5 q1).1
                have eb : b'' = b := by omega
                subst eb
                rw [q2] at u3
                rw [u3] at x4
                rcases x4 with x4 | x4 | x4 <;> exact absurd x4 (by decide)
              · have q0 : hr 33 (φ (d - 1)) ≠ 0 := by rw [q1]; decide
                obtain ⟨⟨b'', x1, x2, x3, x4, x5, x6, x7, x8, x9, x10, x11⟩, -⟩ := k20 _ hlast q0
                rcases x11 with ⟨-, x11⟩ | ⟨-, m'', x11, x12, x13, x14, -⟩
                · exact x11 q1
                · have := (y5 q0).2 q1
                  have em : m'' = m := by omega
                  subst em
                  rw [q2] at u4
                  omega
    · rw [r29]
      have := (z4 (by omega)).1
      omega
  have pend : 0 < d - 1 → (∀ j, j < d - 1 → hr 40 (φ j) ≠ 0) → ∀ A', xL0 A' hr2 φ (d - 1) f (v + 1) f (v + 1) ((hr 35 (φ (d - 1))).toInt + (hr 34 (φ (d - 1))).toInt) := by
    intro d1 live A'
    refine .inr ⟨rfl, rfl, d1, fun i hi => by rw [r40]; exact live i hi, ?_⟩
    rw [q24]
    have := (z5 (by omega)).1
    omega
  have L0 : ∀ f' q h, xL0 A hr φ d f v f' q h → xL0 (xA' A f v (xHereE hr φ d)) hr2 φ (d - 1) f (v + 1) f' q h := by
    intro f' q h a
    rcases a with a | ⟨a1, a2, a3, a4, a5⟩
    · exact .inl (.inl a)
    · refine .inl (.inr ⟨a1, a2, fun j hj => a4 j (by omega), ?_⟩)
      rw [a5]
      exact z3 (a4 _ (by omega))
  refine ⟨xA' A f v (xHereE hr φ d), φ, d - 1, K2, ?_⟩
  -- frames that are open: the one that is closed now, or another
  have opn : ∀ q, xOpn hr φ d q → (q = φ (d - 1) ∧ 0 < d - 1 ∧ (∀ j, j < d - 1 → hr 40 (φ j) ≠ 0)) ∨ (q ≠ φ (d - 1) ∧ xOpn hr2 φ (d - 1) q) := by
    intro q o
    obtain ⟨i, o1, o2, o3, o4⟩ := o
    by_cases c : i = d - 1
    · subst c
      exact .inl ⟨o3.symm, o1, o4⟩
    · exact .inr ⟨fun e => ny i (by omega) (by rw [o3, e]), i, o1, by omega, o3, fun j hj => by rw [r40]; exact o4 j hj⟩
  have cl : ∀ q e : Nat, (hr 39 q).toInt = e → q ≠ φ (d - 1) := by
    intro q e he c
    rw [c, k19 _ (by omega)] at he
    have : (-1 : Int32).toInt = -1 := rfl
    omega
  refine xGI_gen K I FF (by omega) (by rw [rN]; exact Int.le_refl _) hv (fun y hy => ?_) (fun p hp => ⟨by rw [r41, if_neg (by omega)], by rw [r42]⟩) (fun b' hb => by rw [co 9 (by omega) (by omega)]) (fun b' hb => by rw [co 10 (by omega) (by omega)]) ?_ L0 ?_ ?_
  · rw [r34, r35, r36, r37, r33, r38]
    exact ⟨rfl, rfl, rfl, rfl, Iff.rfl, Iff.rfl, fun _ => rfl⟩
  · intro f' t q h a
    obtain ⟨a4, a0, a1, a2, a3⟩ := a
    refine ⟨a4, fun e => L0 _ _ _ (a0 e), fun e => ?_, fun e => ?_, fun e => ?_⟩
    · obtain ⟨b1, b2, b3⟩ := a1 e
      clear a0 a1 a2 a3
      rw [rN, r33, r35, r34, r39]
      refine ⟨b1, b2, ?_⟩
      rcases b3 with ⟨e, u1, u2⟩ | ⟨u1, u2, u3⟩
      · rw [if_neg (cl q e u1)]
        exact .inl ⟨e, u1, L0 _ _ _ u2⟩
      · rcases opn q u2 with ⟨o1, o2, o3⟩ | ⟨o1, o2⟩
        · subst o1
          rw [if_pos rfl, u3, u1]
          exact .inl ⟨v, hV, pend o2 o3 _⟩
        · exact .inr ⟨u1, o2, u3⟩
    · obtain ⟨b1, b2, b4, b3⟩ := a2 e
      clear a0 a1 a2 a3
      rw [rN, r33, r35, r34, r39, r38]
      refine ⟨b1, b2, b4, ?_⟩
      rcases b3 with ⟨e, u1, u2⟩ | ⟨u1, u2, u3⟩
      · rw [if_neg (cl q e u1)]
        exact .inl ⟨e, u1, L0 _ _ _ u2⟩
      · rcases opn q u2 with ⟨o1, o2, o3⟩ | ⟨o1, o2⟩
        · subst o1
          rw [if_pos rfl]
          exact .inl ⟨v, hV, .inl (.inr ⟨u1, rfl, o3, u3⟩)⟩
        · exact .inr ⟨u1, o2, u3⟩
    · obtain ⟨b1, b2, b3⟩ := a3 e
      clear a0 a1 a2 a3
      rw [rN, r33, r35, r39, r38]
      refine ⟨b1, b2, ?_⟩
      rcases b3 with ⟨m', u1, u2⟩ | ⟨u0, u1⟩
      · exact .inl ⟨m', u1, L0 _ _ _ u2⟩
      · refine .inr ⟨u0, ?_⟩
        rcases u1 with ⟨e, u1, u2⟩ | ⟨u1, u2, u3, u4⟩
        · rw [if_neg (cl q e u1)]
          exact .inl ⟨e, u1, L0 _ _ _ u2⟩
        · rcases opn q u3 with ⟨o1, o2, o3⟩ | ⟨o1, o2⟩
          · subst o1
            rw [if_pos rfl]
            refine .inl ⟨v, hV, .inl (.inr ⟨u1, rfl, o3, ?_⟩)⟩
            rw [z2 u2, u4]
            have : (0 : Int32).toInt = 0 := rfl
            omega
          · exact .inr ⟨u1, u2, o2, u4⟩
  · intro i x1 x2 x3 x4
    rw [r33] at x3
    rw [r37, r35]
    obtain ⟨b', b1, b2⟩ := I.2.2.1 i x1 (by omega) x3 (fun j hj => by
      have := x4 j hj
      rw [r40] at this
      exact this)
    exact ⟨b', b1, L0 _ _ _ b2⟩
  · intro h a
    obtain ⟨live, ha⟩ := a
    refine ⟨by omega, fun e => by rw [hw] at e; exact absurd e (by decide), ?_⟩
    rw [rN]
    refine xCnd_end (xwd_z W (fun k hk => ro k (by omega) (by omega) (by omega)) (rm 4 (by omega) (by omega) (by omega) (by omega))) (by rw [r28]; exact hw) (x := φ (d - 1)) (by rw [r41, if_pos rfl]; exact h22) hlast ?_
    rw [r33, r32, r29]
    by_cases c : d = 1
    · refine .inl ⟨kind0.mpr c, ?_, (z4 c).1⟩
      obtain ⟨q1, q2, q3, q4⟩ := k17 hd
      have h0 := k13 hd
      have e : d - 1 = 0 := by omega
      rw [ha, e, h0, q4]
      have : (0 : Int32).toInt = 0 := rfl
      omega
    · refine .inr ⟨fun e => c (kind0.mp e), ?_⟩
      rw [ha]
      exact xLG0 (pend (by omega) live _)
