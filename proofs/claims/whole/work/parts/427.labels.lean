/-! Labels in the check. -/
theorem xb0 : vp_nar .boolean 0 = 0 := rfl
theorem xb1 : vp_nar .boolean 1 = 1 := rfl
/-- what a branch to the frame takes -/
def xTk (hr : xI) (y : Nat) : Int32 := if hr 33 y = 3 then 0 else hr 34 y
theorem xtaken {A : Nat → Nat → Int → Prop} {hc hr : xI} {φ : Nat → Nat} {d f v lp l : Nat} (P : xPre A hc hr φ d f v) {LP : Int32} (hl : LP.toInt = lp) (hlb : lp < 240) (h1 : (hr 28 lp).toInt = l) (h2 : l < d) :
    (∀ V E, f_k_takenByLabel LP (xZc hc V E) = some (xTk hr (φ (d - 1 - l)))) ∧ (∃ Y, ∀ U D, f_m_outer (xZr (xput hr 41 v (hr 27 22)) U D 27 22) (hr 28 lp) (xZr (xput hr 41 v (hr 27 22)) U D) = some Y ∧ f_m_takes Y (xZr (xput hr 41 v (hr 27 22)) U D) = some (xTk hr (φ (d - 1 - l)))) ∧ ((xTk hr (φ (d - 1 - l))).toInt = 0 ∨ (xTk hr (φ (d - 1 - l))).toInt = 1) := by
  have b := P.bounds
  obtain ⟨R, K, I, hd, hv, e1, e2, fn, pl, be, W, l1, l2⟩ := P
  obtain ⟨k1, k2, k3, k4, k5, k6, k7, k8, k9, k10, k11, k12, k13, k14, k15, k16, k17, k18, k19, k20, k21⟩ := K
  have o1 : (1 : Int32).toInt = 1 := rfl
  have s1 : (hr 27 23 - 1).toInt = d - 1 := by rw [xi_sub (by omega) (by omega), k1, o1]
  have s2 : (hr 27 23 - 1 - hr 28 lp).toInt = d - 1 - (hr 28 lp).toInt := by rw [xi_sub (by omega) (by omega), s1]
  have s3 : (hr 27 23 - 1 - hr 28 lp).toNatClampNeg = d - 1 - l := by rw [xi_nat]; omega
  have y34 := k14 (d - 1 - l) (by omega)
  have yb := b.2.2.2.2.2 (d - 1 - l) (by omega)
  refine ⟨fun V E => ?_, ?_, ?_⟩
  · unfold f_k_takenByLabel xTk
    have z2 : xZc hc V E 2 = hc 2 := xZc_o _ _ _ (by omega)
    have z14 : xZc hc V E 14 = hc 14 := xZc_o _ _ _ (by omega)
    have z15 : xZc hc V E 15 = hc 15 := xZc_o _ _ _ (by omega)
    have z6 : xZc hc V E 13 6 = hr 27 23 := by rw [xZc_j _ _ _ (by omega) (by omega)]; exact k3
    rw [xgd_ok (by omega) (by omega), xi_cl hl, z2, R.words, z6, xgd_ok (by omega) (by omega), xgd_ok (by omega) (by omega), s3, z14, z15, y34.1]
    by_cases z : d - 1 - l = 0
    · obtain ⟨q1, q2, q3, q4⟩ := k17 hd
      rw [z, q1, q3, if_neg (by decide), if_neg (by decide)]
    · rw [(k18 _ (by omega) (by omega)).1]
      by_cases c : hr 33 (φ (d - 1 - l)) = 3
      · rw [if_pos c, if_pos c]
      · rw [if_neg c, if_neg c]
  · -- the chain of frames
    have O : ∀ hx : xI, hx 36 = hr 36 → xOuts hx 250 (φ (d - 1)) l (φ (d - 1 - l)) := by
      intro hx h36
      refine ⟨fun i => φ (d - 1 - i), by simp, rfl, fun i hi => ?_, fun i hi => ?_⟩
      · have := b.2.2.2.2.2 (d - 1 - i) (by omega)
        dsimp only
        omega
      · have := (k11 (d - 1 - (i + 1)) (by omega)).2.1
        rw [show d - 1 - (i + 1) + 1 = d - 1 - i by omega] at this
        rw [h36]
        exact this
    have r36 : ∀ U D, xZr (xput hr 41 v (hr 27 22)) U D 36 = hr 36 := fun U D => by rw [xZr_o _ _ _ (by omega), xput_off (by omega)]
    have r22 : ∀ U D, xZr (xput hr 41 v (hr 27 22)) U D 27 22 = hr 27 22 := fun U D => by rw [xZr_j _ _ _ (by omega) (by omega), xput_off (by omega)]
    obtain ⟨Y, y1, y2⟩ := xouter (O (xZr (xput hr 41 v (hr 27 22)) 0 0) (r36 0 0)) (by omega) (k9 hd) h1
    refine ⟨Y, fun U D => ⟨?_, ?_⟩⟩
    · obtain ⟨Y', z1, z2⟩ := xouter (O (xZr (xput hr 41 v (hr 27 22)) U D) (r36 U D)) (by omega) (k9 hd) h1
      have e : Y' = Y := by rw [xi_eq]; omega
      rw [r22, z1, e]
    · unfold f_m_takes xTk
      have z33 : xZr (xput hr 41 v (hr 27 22)) U D 33 = hr 33 := by rw [xZr_o _ _ _ (by omega), xput_off (by omega)]
      have z34 : xZr (xput hr 41 v (hr 27 22)) U D 34 = hr 34 := by rw [xZr_o _ _ _ (by omega), xput_off (by omega)]
      rw [xgd_ok (by omega) (by omega), xgd_ok (by omega) (by omega), xi_cl y2, z33, z34]
      by_cases c : hr 33 (φ (d - 1 - l)) = 3
      · rw [if_pos c, if_pos c]
      · rw [if_neg c, if_neg c]
  · unfold xTk
    by_cases c : hr 33 (φ (d - 1 - l)) = 3
    · rw [if_pos c]; exact .inl rfl
    · rw [if_neg c]
      rcases y34.2 with e | e
      · rw [e]; exact .inl rfl
      · rw [e]; exact .inr rfl
/-- a branch's conditions, out of the check -/
theorem xbrK {A' : Nat → Nat → Int → Prop} {hc hr hc2 hr2 : xI} {φ : Nat → Nat} {d f v v' lp l : Nat} (K : xCK hc hr φ d f v) (hd : 0 < d) (r2 : ∀ k, 28 ≤ k ∧ k ≤ 39 → hr2 k = hr k) (rN : hr2 27 11 = hr 27 11) (h41 : (hr2 41 v).toInt = φ (d - 1)) (c9 : hc2 9 = hc 9) (c10 : hc2 10 lp = hc 18 (d - 1 - l)) (hl : (hr 28 lp).toInt = l) (hld : l < d) (live : ∀ j, j + 1 < d → hr2 40 (φ j) ≠ 0) (lpn : xLp A' hr2 φ d f v') (w : Int) (hw : (hr 35 (φ (d - 1))).toInt + (xTk hr (φ (d - 1 - l))).toInt ≤ w) : xBr hc2 hr2 (hr2 27 11).toInt (xLG A' hr2 φ d f v' f) f v lp w := by
  have hh := K.height (i := d - 1 - l) (by omega)
  obtain ⟨k1, k2, k3, k4, k5, k6, k7, k8, k9, k10, k11, k12, k13, k14, k15, k16, k17, k18, k19, k20, k21⟩ := K
  have r28 := r2 28 (by omega)
  have r32 := r2 32 (by omega)
  have r33 := r2 33 (by omega)
  have r34 := r2 34 (by omega)
  have r35 := r2 35 (by omega)
  have r36 := r2 36 (by omega)
  have r37 := r2 37 (by omega)
  have y34 := k14 (d - 1 - l) (by omega)
  have g01 : (hr 34 (φ (d - 1 - l))).toInt = 0 ∨ (hr 34 (φ (d - 1 - l))).toInt = 1 := by
    rcases y34.2 with e | e
    · rw [e]; exact .inl rfl
    · rw [e]; exact .inr rfl
  refine ⟨φ (d - 1), l, φ (d - 1 - l), h41, by rw [r28]; exact hl, by omega, ?_, by rw [r34]; exact y34.2, by rw [r35]; exact hh.1, ?_⟩
  · refine ⟨fun i => φ (d - 1 - i), by simp, rfl, fun i hi => ?_, fun i hi => ?_⟩
    · rw [rN]
      exact k10 _ (by omega)
    · have := (k11 (d - 1 - (i + 1)) (by omega)).2.1
      rw [show d - 1 - (i + 1) + 1 = d - 1 - i by omega] at this
      rw [r36]
      exact this
  · rw [c10, r33, r37, r35, r34, r32]
    by_cases z : d - 1 - l = 0
    · obtain ⟨q1, q2, q3, q4⟩ := k17 hd
      rw [z]
      refine .inl ⟨q3, q2, ?_⟩
      unfold xTk at hw
      rw [z, if_neg (by rw [q3]; decide), q4] at hw
      have := hh
      rw [z] at this
      omega
    · obtain ⟨q1, q2, q3, -⟩ := k18 (d - 1 - l) (by omega) (by omega)
      obtain ⟨⟨b, w1, w2, w3, w4, w5, w6, w7, w8, w9, w10, w11⟩, -⟩ := k20 _ (k10 (d - 1 - l) (by omega)) q2
      refine .inr ⟨q2, q3, ⟨b, by rw [r37]; exact w1, w3, by rw [r28, r33]; exact w5, by rw [r28, r34]; exact w6, by rw [c9, r35]; exact w7⟩, ?_⟩
      unfold xTk at hw
      by_cases c : hr 33 (φ (d - 1 - l)) = 3
      · rw [if_pos c] at hw
        have z0 : (0 : Int32).toInt = 0 := rfl
        obtain ⟨b', u1, u2⟩ := lpn (d - 1 - l) (by omega) (by omega) (by rw [r33]; exact c) (fun j hj => live j (by omega))
        rw [r37] at u1
        rw [r35] at u2
        exact .inl ⟨c, by omega, b', u1, xLG0 u2⟩
      · rw [if_neg c] at hw
        refine .inr ⟨c, by omega, ?_⟩
        refine xLG1 ?_ ?_ ⟨d - 1 - l, by omega, by omega, rfl, fun j hj => live j (by omega)⟩ ?_
        · rw [rN]; exact k10 _ (by omega)
        · rw [r33]; exact q2
        · rw [r34, r35]
/-- what stands behind is not reached -/
theorem xIt.leave {A : Nat → Nat → Int → Prop} {hc hr : xI} {φ : Nat → Nat} {d f v : Nat} (P : xPre A hc hr φ d f v) (E : Int32) (hE : 0 ≤ E.toInt)
    (new : E = 0 → (∀ i, i < d → hr 40 (φ i) ≠ 0) → xLp (xA' A f v (xLive hr φ d)) (xput (xZr (xput hr 41 v (hr 27 22)) (hr 35 (φ (d - 1))) 0) 40 (φ (d - 1)) 0) φ d f (v + xLen hr v) → xCnd (xput (xZc hc (hr 35 (φ (d - 1))) 0) 17 (d - 1) 0) (xput (xZr (xput hr 41 v (hr 27 22)) (hr 35 (φ (d - 1))) 0) 40 (φ (d - 1)) 0) (hr 27 11).toInt (xLG (xA' A f v (xLive hr φ d)) (xput (xZr (xput hr 41 v (hr 27 22)) (hr 35 (φ (d - 1))) 0) 40 (φ (d - 1)) 0) φ d f (v + xLen hr v) f) f v (hr 27 24).toInt) (V : Int32) : xIt hc hr f v (f_k_leaveOff (xZc hc V E)) (f_m_leave (xZr (xput hr 41 v (hr 27 22)) V E)) := by
  have T := P.top
  have N := (T.z V E V E).n
  have P' := P
  obtain ⟨R, K, I, hd, hv, e1, e2, fn, pl, be, W, l1, l2⟩ := P'
  obtain ⟨n1, n2⟩ := xlen_le W hv
  have hh := K.height (i := d - 1) (by omega)
  have kk := K
  obtain ⟨k1, k2, k3, k4, k5, k6, k7, k8, k9, k10, k11, k12, k13, k14, k15, k16, k17, k18, k19, k20, k21⟩ := kk
  have bd := P.bounds.2.2.2.2.2 (d - 1) (by omega)
  have r22 : xZr (xput hr 41 v (hr 27 22)) V E 27 22 = hr 27 22 := by rw [xZr_j _ _ _ (by omega) (by omega), xput_off (by omega)]
  have kl : f_k_leaveOff (xZc hc V E) = some (xput (xZc hc (hr 35 (φ (d - 1))) E) 17 (d - 1) 0) := by
    unfold f_k_leaveOff
    rw [xgd_ok (by omega) (by omega), xgd_ok (by omega) (by omega), N.2, xZc_o _ _ _ (by omega), xZc_7, k15 _ (by omega), xb0]
  have ml : f_m_leave (xZr (xput hr 41 v (hr 27 22)) V E) = some (xput (xZr (xput hr 41 v (hr 27 22)) (hr 35 (φ (d - 1))) E) 40 (φ (d - 1)) 0) := by
    unfold f_m_leave
    rw [r22, xgd_ok (by have := k9 hd; omega) (by have := k9 hd; omega), xgd_ok (by have := k9 hd; omega) (by have := k9 hd; omega), xi_cl (k9 hd), xZr_o _ _ _ (by omega), xZr_24, xput_off (by omega), xb0]
  rw [kl, ml]
  have F : xFrm hc hr (xput (xZc hc (hr 35 (φ (d - 1))) E) 17 (d - 1) 0) (xput (xZr (xput hr 41 v (hr 27 22)) (hr 35 (φ (d - 1))) E) 40 (φ (d - 1)) 0) := by
    refine ⟨fun k a b => ?_, fun k a b => ?_, fun j a b c d e => ?_⟩
    · rw [xput_off (by omega), xZc_o _ _ _ (by omega)]
    · rw [xput_off (by omega), xZr_o _ _ _ a, xput_off (by omega)]
    · rw [xput_off (by omega), xZr_j _ _ _ d e, xput_off (by omega)]
  have z25 : xput (xZr (xput hr 41 v (hr 27 22)) (hr 35 (φ (d - 1))) E) 40 (φ (d - 1)) 0 27 25 = E := by rw [xput_off (by omega), xZr_e]
  refine ⟨_, _, rfl, rfl, F, ?_, by rw [z25]; exact hE, fun j hj => ?_, fun z => ?_⟩
  · rw [z25, xput_off (by omega), xZc_e]
  · rw [xput_off (by omega)]; exact xZc_j _ _ _ (by omega) (by omega)
  rw [z25] at z
  subst z
  have r40 : ∀ j, xput (xZr (xput hr 41 v (hr 27 22)) (hr 35 (φ (d - 1))) 0) 40 (φ (d - 1)) 0 40 j = if j = φ (d - 1) then 0 else hr 40 j := fun j => by
    rw [xput_at, if_pos rfl, xZr_o _ _ _ (by omega), xput_off (by omega)]
  have rr : ∀ k, k ≠ 27 → k ≠ 40 → k ≠ 41 → xput (xZr (xput hr 41 v (hr 27 22)) (hr 35 (φ (d - 1))) 0) 40 (φ (d - 1)) 0 k = hr k := fun k a b c => by
    rw [xput_off b, xZr_o _ _ _ a, xput_off c]
  have rm : ∀ j, j ≠ 24 → j ≠ 25 → xput (xZr (xput hr 41 v (hr 27 22)) (hr 35 (φ (d - 1))) 0) 40 (φ (d - 1)) 0 27 j = hr 27 j := fun j a b => by
    rw [xput_off (by omega), xZr_j _ _ _ a b, xput_off (by omega)]
  have r24 : xput (xZr (xput hr 41 v (hr 27 22)) (hr 35 (φ (d - 1))) 0) 40 (φ (d - 1)) 0 27 24 = hr 35 (φ (d - 1)) := by
    rw [xput_off (by omega), xZr_v]
  have cc : ∀ k, k ≠ 13 → k ≠ 17 → xput (xZc hc (hr 35 (φ (d - 1))) 0) 17 (d - 1) 0 k = hc k := fun k a b => by
    rw [xput_off b, xZc_o _ _ _ a]
  have re : ∀ j, j < d → xput (xZr (xput hr 41 v (hr 27 22)) (hr 35 (φ (d - 1))) 0) 40 (φ (d - 1)) 0 40 (φ j) ≠ 0 → hr 40 (φ j) ≠ 0 := by
    intro j hj a
    rw [r40] at a
    by_cases c : φ j = φ (d - 1)
    · rw [if_pos c] at a; exact absurd rfl a
    · rw [if_neg c] at a; exact a
  refine ⟨xA' A f v (xLive hr φ d), φ, d, ?_, ?_⟩
  · refine K.same hd (fun k hk => cc k (by omega) (by omega)) (fun k hk => cc k (by omega) (by omega)) (by rw [xput_off (by omega)]; exact xZc_j _ _ _ (by omega) (by omega)) (fun j hj => rm j (by omega) (by omega)) (fun k hk => rr k (by omega) (by omega) (by omega)) (fun b hb => ?_) (fun i hi => ?_) (by rw [r24, xput_off (by omega), xZc_v]) (by rw [r24]; omega) (by rw [r24]; exact Int.le_refl _) (by omega) n1
    · rw [xput_off (by omega), xZr_o _ _ _ (by omega), xput_at, if_pos rfl, if_neg (by omega)]
    · rw [r40, xput_at, if_pos rfl, xZc_o _ _ _ (by omega)]
      by_cases c : i = d - 1
      · rw [if_pos c, if_pos (by rw [c])]
      · rw [if_neg c, if_neg (fun e => c (K.inj hi (by omega) e))]
        exact k16 i hi
  · have lps : (∀ f' q h, xL0 A hr φ d f v f' q h → xL0 (xA' A f v (xLive hr φ d)) (xput (xZr (xput hr 41 v (hr 27 22)) (hr 35 (φ (d - 1))) 0) 40 (φ (d - 1)) 0) φ d f (v + xLen hr v) f' q h) → xLp (xA' A f v (xLive hr φ d)) (xput (xZr (xput hr 41 v (hr 27 22)) (hr 35 (φ (d - 1))) 0) 40 (φ (d - 1)) 0) φ d f (v + xLen hr v) := fun L0 => xLp_same I.2.2.1 L0 (fun k hk i hi => by rw [rr k (by omega) (by omega) (by omega)]) re
    refine xGI_next K I F hd n2 (by rw [rm 11 (by omega) (by omega)]; exact Int.le_refl _) hv (fun y hy k a b => by rw [rr k (by omega) (by omega) (by omega)]) (fun p hp => ⟨?_, ?_⟩) (fun b hb => by rw [cc 9 (by omega) (by omega)]) (fun b hb => by rw [cc 10 (by omega) (by omega)]) ?_ lps ?_ ?_
    · rw [xput_off (by omega), xZr_o _ _ _ (by omega), xput_at, if_pos rfl, if_neg (by omega)]
    · rw [rr 42 (by omega) (by omega) (by omega)]
    · intro q o
      obtain ⟨i, o1, o2, o3, o4⟩ := o
      refine ⟨i, o1, o2, o3, fun j hj => ?_⟩
      rw [r40, if_neg (fun e => ?_)]
      · exact o4 j hj
      · have := K.inj (by omega) (by omega) e
        omega
    · intro e
      unfold xLen
      rw [if_pos e]
      have := W.2.2.2.1 e
      omega
    · intro live
      rw [rm 11 (by omega) (by omega)]
      refine new rfl live (lps ?_)
      intro f' q h a
      rcases a with a | ⟨a1, a2, a3, a4, a5⟩
      · exact .inl (.inl a)
      · exact .inl (.inr ⟨a1, a2, a4, a5⟩)
