/-! block, loop and if in the check. -/
/-- the frames, with the new one -/
def xφ (φ : Nat → Nat) (d N : Nat) : Nat → Nat := fun i => if i = d then N else φ i
theorem xIt.opened {A : Nat → Nat → Int → Prop} {hc hr : xI} {φ : Nat → Nat} {d f v : Nat} (P : xPre A hc hr φ d f v) (hw : hr 28 v = 2 ∨ hr 28 v = 3 ∨ hr 28 v = 4) {V3 : Int32} (hV : V3.toInt = v) (V E : Int32) (hE : 0 ≤ E.toInt) (h1 : (hr 35 (φ (d - 1))).toInt ≤ V.toInt) (h2 : V.toInt ≤ 20)
    (new : E = 0 → (∀ i, i < d → hr 40 (φ i) ≠ 0) → (hr 28 v = 4 → V.toInt = (hr 27 24).toInt - 1) ∧ (hr 28 v ≠ 4 → V.toInt = (hr 27 24).toInt)) : xIt hc hr f v (f_k_openFrame (hr 28 v) (hr 28 (v + 1)) (hc 13 11) (xZc hc V E)) (f_m_open (hr 28 v) (hr 28 (v + 1)) V3 (xZr (xput hr 41 v (hr 27 22)) V E)) := by
  have bd := P.bounds
  have P' := P
  obtain ⟨R, K, I, hd, hv, e1, e2, fn, pl, be, W, l1, l2⟩ := P'
  have im : f_m_immediates (hr 28 v) = 1 := by rcases hw with e | e | e <;> rw [e] <;> decide
  have ip := xwd_imm W (by rw [im]; decide)
  have n01 := W.2.2.1 hw
  have w0 : hr 28 v ≠ 0 ∧ hr 28 v ≠ 5 ∧ hr 28 v ≠ 14 := by rcases hw with e | e | e <;> rw [e] <;> decide
  have len : xLen hr v = 2 := by
    unfold xLen
    rw [if_neg w0.2.2, im]
    rfl
  have kk := K
  obtain ⟨k1, k2, k3, k4, k5, k6, k7, k8, k9, k10, k11, k12, k13, k14, k15, k16, k17, k18, k19, k20, k21⟩ := kk
  obtain ⟨N, hN⟩ : ∃ N : Nat, (hr 27 11).toInt = N := ⟨(hr 27 11).toInt.toNat, by omega⟩
  have h27 : ∀ j, xput hr 41 v (hr 27 22) 27 j = hr 27 j := fun j => by rw [xput_off (by omega)]
  have hx : ∀ k, k ≠ 41 → xput hr 41 v (hr 27 22) k = hr k := fun k a => xput_off a
  have h41 : ∀ b, xput hr 41 v (hr 27 22) 41 b = if b = v then hr 27 22 else hr 41 b := fun b => by rw [xput_at, if_pos rfl]
  have oo := xopen (hc := hc) (hr := xput hr 41 v (hr 27 22)) (d := d) (v := v) (N := N) V E (hr 28 v) (hr 28 (v + 1)) (hc 13 11) V3 (by rw [h27]; exact k3) (by rw [h27]; exact k1) k2 (by rw [h27]; exact hN) (by omega) pl hV (by omega)
  by_cases h9 : d = 9
  · obtain ⟨a1, r, a2, a3, a4, a5⟩ := oo.2 h9
    rw [a1, a2]
    refine ⟨_, _, rfl, rfl, ⟨fun k x y => xZc_o _ _ _ (by omega), fun k x y => ?_, fun j x1 x2 x3 x4 x5 => ?_⟩, by rw [xZc_e, a3], by rw [a3]; exact xE_pos (by decide) hE, fun j hj => xZc_j _ _ _ (by omega) (by omega), fun z => ?_⟩
    · rw [a4 k x y, hx k (by omega)]
    · rw [a5 j x1 x2 x3 x4 x5, h27]
    · rw [a3] at z
      exact absurd z (xE_ne (by decide))
  · obtain ⟨a1, a2⟩ := oo.1 (by omega)
    rw [a1, a2]
    have cr := xOc_r hc V E d v (hr 28 v) (hr 28 (v + 1)) (hc 13 11)
    have c13 := xOc_13 hc V E d v (hr 28 v) (hr 28 (v + 1)) (hc 13 11)
    have rr := xOr_r (xput hr 41 v (hr 27 22)) V E N v (hr 28 v) (hr 28 (v + 1)) V3
    have r27 := xOr_27 (xput hr 41 v (hr 27 22)) V E N v (hr 28 v) (hr 28 (v + 1)) V3
    simp only [h27, hx 33 (by omega), hx 34 (by omega), hx 35 (by omega), hx 36 (by omega), hx 37 (by omega), hx 38 (by omega), hx 39 (by omega), hx 40 (by omega), hx 42 (by omega)] at rr r27
    have co : ∀ k, k ≠ 13 → ¬ (14 ≤ k ∧ k ≤ 18) → k ≠ 9 → k ≠ 8 → xOc hc V E d v (hr 28 v) (hr 28 (v + 1)) (hc 13 11) k = hc k := fun k a b c e => xOc_o _ _ _ _ _ _ _ _ a b c e
    have ro : ∀ k, k ≠ 27 → ¬ (33 ≤ k ∧ k ≤ 42) → xOr (xput hr 41 v (hr 27 22)) V E N v (hr 28 v) (hr 28 (v + 1)) V3 k = hr k := fun k a b => by
      rw [xOr_o _ _ _ _ _ _ _ _ a (by omega) (by omega), hx k (by omega)]
    have r41 : ∀ b, xOr (xput hr 41 v (hr 27 22)) V E N v (hr 28 v) (hr 28 (v + 1)) V3 41 b = if b = v then hr 27 22 else hr 41 b := fun b => by
      rw [xOr_o _ _ _ _ _ _ _ _ (by omega) (by omega) (by omega), h41]
    generalize xOc hc V E d v (hr 28 v) (hr 28 (v + 1)) (hc 13 11) = hc2 at cr c13 co ⊢
    generalize xOr (xput hr 41 v (hr 27 22)) V E N v (hr 28 v) (hr 28 (v + 1)) V3 = hr2 at rr r27 ro r41 ⊢
    have F : xFrm hc hr hc2 hr2 := by
      refine ⟨fun k x y => co k (by omega) (by omega) (by omega) (by omega), fun k x y => ro k x (by omega), fun j x1 x2 x3 x4 x5 => ?_⟩
      rw [r27, if_neg x3, if_neg x2, if_neg x1, if_neg x4, if_neg x5]
    have q25 : hr2 27 25 = E := by rw [r27]; simp
    refine ⟨hc2, hr2, rfl, rfl, F, by rw [q25, c13]; simp, by rw [q25]; exact hE, fun j hj => ?_, fun z => ?_⟩
    · rw [c13, if_neg (by omega), if_neg (by omega), if_neg (by omega)]
    rw [q25] at z
    obtain rfl := z
    have q11 : hr2 27 11 = hr 27 11 + 1 := by rw [r27]; simp
    have q22 : hr2 27 22 = hr 27 11 := by rw [r27]; simp
    have q23 : hr2 27 23 = hr 27 23 + 1 := by rw [r27]; simp
    have q24 : hr2 27 24 = V := by rw [r27]; simp
    have q4 : hr2 27 4 = hr 27 4 := by rw [r27]; simp
    have o1 : (1 : Int32).toInt = 1 := rfl
    have t11 : (hr2 27 11).toInt = (N : Int) + 1 := by rw [q11, xi_add (by omega) (by omega), hN, o1]
    have t23 : (hr2 27 23).toInt = ((d + 1 : Nat) : Int) := by rw [q23, xi_add (by omega) (by omega), k1, o1]; omega
    have d28 := ro 28 (by omega) (by omega)
    have d29 := ro 29 (by omega) (by omega)
    have d32 := ro 32 (by omega) (by omega)
    have ne : ∀ i, i < d → φ i ≠ N := fun i hi => by have := k10 i hi; omega
    have p0 : ∀ i, i < d → xφ φ d N i = φ i := fun i hi => if_neg (by omega)
    have pd : xφ φ d N d = N := if_pos rfl
    have same : ∀ y : Nat, y < N → hr2 33 y = hr 33 y ∧ hr2 34 y = hr 34 y ∧ hr2 35 y = hr 35 y ∧ hr2 36 y = hr 36 y ∧ hr2 37 y = hr 37 y ∧ hr2 38 y = hr 38 y ∧ hr2 39 y = hr 39 y ∧ hr2 40 y = hr 40 y := by
      intro y hy
      obtain ⟨s1, s2, s3, s4, s5, s6, s7, s8, s9⟩ := rr y
      have hy' : ¬ y = N := by omega
      rw [s1, s2, s3, s4, s5, s6, s7, s8, if_neg hy', if_neg hy', if_neg hy', if_neg hy', if_neg hy', if_neg hy', if_neg hy', if_neg hy']
      exact ⟨rfl, rfl, rfl, rfl, rfl, rfl, rfl, rfl⟩
    have sφ : ∀ i, i < d → hr2 33 (φ i) = hr 33 (φ i) ∧ hr2 34 (φ i) = hr 34 (φ i) ∧ hr2 35 (φ i) = hr 35 (φ i) ∧ hr2 36 (φ i) = hr 36 (φ i) ∧ hr2 37 (φ i) = hr 37 (φ i) ∧ hr2 38 (φ i) = hr 38 (φ i) ∧ hr2 39 (φ i) = hr 39 (φ i) ∧ hr2 40 (φ i) = hr 40 (φ i) := fun i hi => same _ (by have := k10 i hi; omega)
    obtain ⟨y33, y34, y35, y36, y37, y38, y39, y40, -⟩ := rr N
    rw [if_pos rfl] at y33 y34 y35 y36 y37 y38 y39 y40
    have y42 : hr2 42 v = hr 27 11 := by rw [(rr v).2.2.2.2.2.2.2.2, if_pos rfl]
    have P3 : hc 13 11 = V3 := by rw [xi_eq]; omega
    rw [len]
    have K2 : xCK hc2 hr2 (xφ φ d N) (d + 1) f (v + 2) := by
      refine ⟨t23, by omega, by rw [c13, q23, if_pos rfl, k3], by rw [c13, q24, if_neg (by omega), if_pos rfl], by rw [q24]; have := (K.height (i := d - 1) (by omega)).1; omega, by rw [q4]; exact k6, by omega, by rw [d29]; omega, fun _ => ?_, fun i hi => ?_, fun i hi => ?_, fun _ => ?_, fun _ => ?_, fun i hi => ?_, fun i hi => ?_, fun i hi => ?_, fun _ => ?_, fun i h0 hi => ?_, fun i hi => ?_, fun y hy hk => ?_, fun e => by omega⟩
      · rw [show d + 1 - 1 = d by omega, pd, q22]; exact hN
      · by_cases c : i = d
        · subst c; rw [pd]; omega
        · rw [p0 i (by omega)]; have := k10 i (by omega); omega
      · by_cases c : i + 1 = d
        · rw [c, pd, p0 i (by omega), y36, y35, (sφ i (by omega)).2.2.1]
          have ei : i = d - 1 := by omega
          subst ei
          refine ⟨by have := k10 (d - 1) (by omega); omega, ?_, by omega⟩
          exact k9 hd
        · rw [p0 i (by omega), p0 (i + 1) (by omega), (sφ i (by omega)).2.2.1, (sφ (i + 1) (by omega)).2.2.1, (sφ (i + 1) (by omega)).2.2.2.1]
          exact k11 i (by omega)
      · rw [show d + 1 - 1 = d by omega, pd, y35, q24]; exact Int.le_refl _
      · rw [p0 0 hd, (sφ 0 hd).2.2.1]; exact k13 hd
      · by_cases c : i = d
        · subst c
          rw [(cr i).2.1, if_pos rfl, pd, y34]
          exact ⟨rfl, n01⟩
        · rw [(cr i).2.1, if_neg c, p0 i (by omega), (sφ i (by omega)).2.1]
          exact k14 i (by omega)
      · by_cases c : i = d
        · subst c; rw [(cr i).2.2.1, if_pos rfl, pd, y35]
        · rw [(cr i).2.2.1, if_neg c, p0 i (by omega), (sφ i (by omega)).2.2.1]
          exact k15 i (by omega)
      · by_cases c : i = d
        · subst c; rw [(cr i).2.2.2.1, if_pos rfl, pd, y40]
        · rw [(cr i).2.2.2.1, if_neg c, p0 i (by omega), (sφ i (by omega)).2.2.2.2.2.2.2]
          exact k16 i (by omega)
      · rw [(cr 0).1, (cr 0).2.2.2.2.1, if_neg (by omega), if_neg (by omega), p0 0 hd, (sφ 0 hd).1, (sφ 0 hd).2.1, d32]
        exact k17 hd
      · by_cases c : i = d
        · subst c
          rw [(cr i).1, (cr i).2.2.2.2.1, if_pos rfl, if_pos rfl, pd, y33, y37]
          exact ⟨rfl, w0.1, P3, by rcases hw with e | e | e <;> rw [e] <;> decide⟩
        · rw [(cr i).1, (cr i).2.2.2.2.1, if_neg c, if_neg c, p0 i (by omega), (sφ i (by omega)).1, (sφ i (by omega)).2.2.2.2.1]
          exact k18 i h0 (by omega)
      · by_cases c : i = d
        · subst c; rw [pd, y39]
        · rw [p0 i (by omega), (sφ i (by omega)).2.2.2.2.2.2.1]; exact k19 i (by omega)
      · by_cases c : y = N
        · subst c
          refine ⟨⟨v, by rw [y37]; exact hV, Nat.le_refl _, by omega, by rw [d28]; exact hw, by rw [d28, y33], by rw [d28, y34], by rw [(cr v).2.2.2.2.2.1, if_pos rfl, y35], by rw [y42]; exact hN, by rw [(cr v).2.2.2.2.2.2, if_pos rfl, y38], fun q => ?_, .inl ⟨y38, by rw [y33]; exact w0.2.1⟩⟩, by rw [y34]; exact n01, by rw [y35]; have := (K.height (i := d - 1) (by omega)).1; omega⟩
          rw [y39] at q
          exact absurd q (by decide)
        · obtain ⟨s1, s2, s3, s4, s5, s6, s7, s8⟩ := same y (by omega)
          rw [s1] at hk
          obtain ⟨⟨b, w1, w2, w3, w4, w5, w6, w7, w8, w9, w10, w11⟩, g1, g2⟩ := k20 y (by omega) hk
          rw [s2, s3]
          refine ⟨⟨b, by rw [s5]; exact w1, by omega, w3, by rw [d28]; exact w4, by rw [d28, s1]; exact w5, by rw [d28, s2]; exact w6, by rw [(cr b).2.2.2.2.2.1, if_neg (by omega), s3]; exact w7, by rw [(rr b).2.2.2.2.2.2.2.2, if_neg (by omega)]; exact w8, by rw [(cr b).2.2.2.2.2.2, if_neg (by omega), s6]; exact w9, ?_, ?_⟩, g1, g2⟩
          · rw [s7, co 7 (by omega) (by omega) (by omega) (by omega)]; exact w10
          · rw [s6, s1, s7, d28]
            rcases w11 with w11 | ⟨u0, m, u1, u2, u3, u4, u5⟩
            · exact .inl w11
            · refine .inr ⟨u0, m, u1, by omega, u3, by rw [r41, if_neg (by omega)]; exact u4, ?_⟩
              rw [co 7 (by omega) (by omega) (by omega) (by omega)]; exact u5
    have pend : (∀ i, i < d → hr 40 (φ i) ≠ 0) → xL0 (xA' A f v (xLive hr φ d)) hr2 (xφ φ d N) (d + 1) f (v + 2) f (v + 2) V.toInt := by
      intro live
      refine .inr ⟨rfl, rfl, by omega, fun i hi => ?_, by rw [q24]⟩
      by_cases c : i = d
      · subst c; rw [pd, y40]; decide
      · rw [p0 i (by omega), (sφ i (by omega)).2.2.2.2.2.2.2]; exact live i (by omega)
    refine ⟨xA' A f v (xLive hr φ d), xφ φ d N, d + 1, K2, ?_⟩
    refine xGI_next K I F hd (by omega) (by omega) hv (fun y hy k a b => ?_) (fun p hp => ⟨by rw [r41, if_neg (by omega)], by rw [(rr p).2.2.2.2.2.2.2.2, if_neg (by omega)]⟩) (fun b hb => by rw [(cr b).2.2.2.2.2.1, if_neg (by omega)]) (fun b hb => by rw [co 10 (by omega) (by omega) (by omega) (by omega)]) ?_ ?_ (fun e => absurd e w0.2.2) ?_
    · obtain ⟨s1, s2, s3, s4, s5, s6, s7, s8⟩ := same y (by omega)
      have : k = 33 ∨ k = 34 ∨ k = 35 ∨ k = 36 ∨ k = 37 ∨ k = 38 ∨ k = 39 := by omega
      rcases this with e | e | e | e | e | e | e <;> subst e <;> assumption
    · intro q o
      obtain ⟨i, x1, x2, x3, x4⟩ := o
      refine ⟨i, x1, by omega, by rw [p0 i x2]; exact x3, fun j hj => ?_⟩
      rw [p0 j (by omega), (sφ j (by omega)).2.2.2.2.2.2.2]
      exact x4 j hj
    · intro L0 i x1 x2 x3 x4
      by_cases c : i = d
      · subst c
        rw [pd, y37, y35]
        refine ⟨v, hV, pend (fun j hj => ?_)⟩
        have := x4 j hj
        rw [p0 j hj, (sφ j hj).2.2.2.2.2.2.2] at this
        exact this
      · rw [p0 i (by omega)] at x3 ⊢
        rw [(sφ i (by omega)).1] at x3
        rw [(sφ i (by omega)).2.2.1, (sφ i (by omega)).2.2.2.2.1]
        obtain ⟨b, b1, b2⟩ := I.2.2.1 i x1 (by omega) x3 (fun j hj => by
          have := x4 j hj
          rw [p0 j (by omega), (sφ j (by omega)).2.2.2.2.2.2.2] at this
          exact this)
        exact ⟨b, b1, L0 _ _ _ b2⟩
    · intro live
      obtain ⟨m1, m2⟩ := new rfl live
      have W2 : xWd hr2 f v := xwd_z W (fun k hk => ro k (by omega) (by omega)) q4
      by_cases c : hr 28 v = 4
      · have ev := m1 c
        refine xCnd_if W2 (by rw [d28]; exact c) ?_ ?_ (y := N) (by rw [y42]; exact hN) (by omega) (by rw [y33]; exact w0.1) (by rw [y37]; exact hV) ?_
        · have := (K.height (i := d - 1) (by omega)).1
          omega
        · rw [← ev]; exact xLG0 (pend live)
        · rw [← ev]
          refine ⟨by omega, fun e => absurd e (by omega), fun e => absurd e (by omega), fun e => absurd e (by omega), fun _ => ⟨by omega, by rw [y33]; exact w0.1, .inr ⟨y38, .inr ⟨rfl, by rw [y33]; exact c, ⟨d, hd, by omega, pd, fun j hj => ?_⟩, by rw [y35]⟩⟩⟩⟩
          rw [p0 j hj, (sφ j hj).2.2.2.2.2.2.2]
          exact live j hj
      · have ev := m2 c
        refine xCnd_block W2 ?_ ?_
        · rw [d28]
          rcases hw with e | e | e
          · exact .inl e
          · exact .inr e
          · exact absurd e c
        · rw [← ev]; exact xLG0 (pend live)
theorem xk_block {A : Nat → Nat → Int → Prop} {hc hr : xI} {φ : Nat → Nat} {d f v : Nat} (P : xPre A hc hr φ d f v) (hw : hr 28 v = 2 ∨ hr 28 v = 3) {F V3 : Int32} (hV : V3.toInt = v) : xIt hc hr f v (f_k_checkTyping (hr 28 v) hc) (f_m_check F V3 hr) := by
  have mc := xmcheck P (F := F) hV
  obtain ⟨i1, i2, i3, i4⟩ := P.ids
  have im : f_m_immediates (hr 28 v) = 1 := by rcases hw with e | e <;> rw [e] <;> decide
  have ki := xkimm P rfl (by rw [im]; decide) hc rfl rfl
  have n0 : hr 28 v ≠ 0 := by rcases hw with e | e <;> rw [e] <;> decide
  have n4 : hr 28 v ≠ 4 := by rcases hw with e | e <;> rw [e] <;> decide
  have K := P.2.1
  have h := K.height (i := d - 1) (by have := P.2.2.2.1; omega)
  have vb := K.2.2.2.2.1
  have kt : f_k_checkTyping (hr 28 v) hc = f_k_openFrame (hr 28 v) (hr 28 (v + 1)) (hc 13 11) (xZc hc (hr 27 24) 0) := by
    unfold f_k_checkTyping
    rw [if_neg n0, if_pos hw, ki, Option.bind_some, xbs, i1]
  have mt : f_m_check F V3 hr = f_m_open (hr 28 v) (hr 28 (v + 1)) V3 (xZr (xput hr 41 v (hr 27 22)) (hr 27 24) 0) := by
    rw [mc, if_neg n4, im, if_neg (by decide)]
    unfold f_m_check_48
    rw [if_neg (by rcases hw with e | e <;> rw [e] <;> decide), if_neg (by rcases hw with e | e <;> rw [e] <;> decide), xbs, i2]
  rw [kt, mt]
  exact xIt.opened P (hw.elim .inl (fun e => .inr (.inl e))) hV _ 0 (by decide) h.2.2 vb.2 (fun _ _ => ⟨fun e => absurd e n4, fun _ => rfl⟩)
theorem xk_if {A : Nat → Nat → Int → Prop} {hc hr : xI} {φ : Nat → Nat} {d f v : Nat} (P : xPre A hc hr φ d f v) (hw : hr 28 v = 4) {F V3 : Int32} (hV : V3.toInt = v) : xIt hc hr f v (f_k_checkTyping (hr 28 v) hc) (f_m_check F V3 hr) := by
  have T := P.top
  have mc := xmcheck P (F := F) hV
  obtain ⟨i1, i2, i3, i4⟩ := P.ids
  have im : f_m_immediates (hr 28 v) = 1 := by rw [hw]; decide
  have hd := P.2.2.2.1
  have K := P.2.1
  have h := K.height (i := d - 1) (by omega)
  have vb := K.2.2.2.2.1
  obtain ⟨V', E, p1, p2, p3, p4, p5, p6⟩ := xpops T 1 (an := 1) rfl (by omega) (hr 27 24) 0 (by rw [i3]; exact h.2.2) (by omega)
  rw [i1] at p1
  rw [i2] at p2
  rw [i3, i4] at p6
  rw [i3] at p5 p3
  have hE : 0 ≤ E.toInt := by
    by_cases z : (hr 35 (φ (d - 1))).toInt ≤ (hr 27 24).toInt - ((1 : Nat) : Int)
    · rw [(p5 z).2]; decide
    · rw [(p6 (by omega)).2]
      by_cases r : hr 40 (φ (d - 1)) = 0
      · rw [if_pos r]; decide
      · rw [if_neg r]; decide
  have ki := xkimm P rfl (by rw [im]; decide) (xZc hc V' E) (xZc_j _ _ _ (by omega) (by omega)) (xZc_o _ _ _ (by omega))
  have z11 : xZc hc V' E 13 11 = hc 13 11 := xZc_j _ _ _ (by omega) (by omega)
  have kt : f_k_checkTyping (hr 28 v) hc = f_k_openFrame (hr 28 v) (hr 28 (v + 1)) (hc 13 11) (xZc hc V' E) := by
    unfold f_k_checkTyping
    rw [hw, if_neg (by decide), if_neg (by decide), if_pos rfl, p1, Option.bind_some, ki, Option.bind_some, z11, xbs]
  have mt : f_m_check F V3 hr = f_m_open (hr 28 v) (hr 28 (v + 1)) V3 (xZr (xput hr 41 v (hr 27 22)) V' E) := by
    rw [mc, if_pos hw, im, if_neg (by decide), p2, Option.bind_some, hw]
    unfold f_m_check_48
    rw [if_neg (by decide), if_neg (by decide), xbs]
  rw [kt, mt]
  refine xIt.opened P (.inr (.inr hw)) hV _ E hE p3 (by omega) (fun z live => ⟨fun _ => ?_, fun e => absurd hw e⟩)
  by_cases q : (hr 35 (φ (d - 1))).toInt ≤ (hr 27 24).toInt - ((1 : Nat) : Int)
  · have := (p5 q).1
    omega
  · have e := (p6 (by omega)).2
    rw [if_neg (live _ (by omega)), z] at e
    exact absurd e (by decide)
