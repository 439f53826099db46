/-! end in the check. -/
theorem xZr_put (h : xI) (V E : Int32) {k j : Nat} (x : Int32) (hk : k ≠ 27 ∨ (j ≠ 24 ∧ j ≠ 25)) : xput (xZr h V E) k j x = xZr (xput h k j x) V E := by
  funext a c
  simp only [xZr, xput_at]
  by_cases e : k = 27
  · subst e
    have hj : j ≠ 24 ∧ j ≠ 25 := hk.resolve_left (fun h => h rfl)
    by_cases a1 : a = 27
    · simp only [if_pos a1]
      by_cases c1 : c = j
      · have n1 : ¬ c = 25 := by omega
        have n2 : ¬ c = 24 := by omega
        rw [if_pos c1, if_neg n1, if_neg n2, if_pos c1]
      · rw [if_neg c1, if_neg c1]
    · simp only [if_neg a1]
  · by_cases a1 : a = k
    · have n1 : ¬ a = 27 := by omega
      simp only [if_pos a1, if_neg n1]
    · simp only [if_neg a1]
theorem xZc_put (h : xI) (V E : Int32) {k j : Nat} (x : Int32) (hk : k ≠ 13 ∨ (j ≠ 7 ∧ j ≠ 9)) : xput (xZc h V E) k j x = xZc (xput h k j x) V E := by
  funext a c
  simp only [xZc, xput_at]
  by_cases e : k = 13
  · subst e
    have hj : j ≠ 7 ∧ j ≠ 9 := hk.resolve_left (fun h => h rfl)
    by_cases a1 : a = 13
    · simp only [if_pos a1]
      by_cases c1 : c = j
      · have n1 : ¬ c = 9 := by omega
        have n2 : ¬ c = 7 := by omega
        rw [if_pos c1, if_neg n1, if_neg n2, if_pos c1]
      · rw [if_neg c1, if_neg c1]
    · simp only [if_neg a1]
  · by_cases a1 : a = k
    · have n1 : ¬ a = 13 := by omega
      simp only [if_pos a1, if_neg n1]
    · simp only [if_neg a1]
/-- the reference's frame is closed -/
def xEr (hr : xI) (y : Nat) (V3 : Int32) : xI := xput (xput (xput hr 39 y V3) 27 23 (hr 27 23 - 1)) 27 22 (hr 36 y)
/-- the class's tables get the end, and a frame is gone -/
def xEc (hc hr : xI) (y b m : Nat) (V3 : Int32) : xI := xput (if hr 33 y = 0 then hc else if hr 33 y = 5 then xput (xput hc 7 b V3) 7 m V3 else xput hc 7 b V3) 13 6 (hc 13 6 - 1)
theorem xEc_o {hc hr : xI} {y b m : Nat} {V3 : Int32} {k : Nat} (h1 : k ≠ 13) (h2 : k ≠ 7) : xEc hc hr y b m V3 k = hc k := by
  unfold xEc
  rw [xput_off h1]
  by_cases a : hr 33 y = 0
  · rw [if_pos a]
  · rw [if_neg a]
    by_cases c : hr 33 y = 5
    · rw [if_pos c, xput_off h2, xput_off h2]
    · rw [if_neg c, xput_off h2]
theorem xEc_13 {hc hr : xI} {y b m : Nat} {V3 : Int32} (j : Nat) : xEc hc hr y b m V3 13 j = if j = 6 then hc 13 6 - 1 else hc 13 j := by
  unfold xEc
  rw [xput_at, if_pos rfl]
  by_cases e : j = 6
  · rw [if_pos e, if_pos e]
  · rw [if_neg e, if_neg e]
    by_cases a : hr 33 y = 0
    · rw [if_pos a]
    · rw [if_neg a]
      by_cases c : hr 33 y = 5
      · rw [if_pos c, xput_off (by omega), xput_off (by omega)]
      · rw [if_neg c, xput_off (by omega)]
theorem xEc_7 {hc hr : xI} {y b m : Nat} {V3 : Int32} (i : Nat) : xEc hc hr y b m V3 7 i = if (hr 33 y ≠ 0 ∧ i = b) ∨ (hr 33 y = 5 ∧ i = m) then V3 else hc 7 i := by
  unfold xEc
  rw [xput_off (by omega)]
  by_cases a : hr 33 y = 0
  · rw [if_pos a, if_neg]
    intro c
    rcases c with ⟨c, -⟩ | ⟨c, -⟩
    · exact c a
    · rw [a] at c; exact absurd c (by decide)
  · rw [if_neg a]
    by_cases c : hr 33 y = 5
    · rw [if_pos c, xput_at, if_pos rfl, xput_at, if_pos rfl]
      by_cases e1 : i = m
      · rw [if_pos e1, if_pos (.inr ⟨c, e1⟩)]
      · rw [if_neg e1]
        by_cases e2 : i = b
        · rw [if_pos e2, if_pos (.inl ⟨a, e2⟩)]
        · rw [if_neg e2, if_neg (fun q => q.elim (fun q => e2 q.2) (fun q => e1 q.2))]
    · rw [if_neg c, xput_at, if_pos rfl]
      by_cases e2 : i = b
      · rw [if_pos e2, if_pos (.inl ⟨a, e2⟩)]
      · rw [if_neg e2, if_neg (fun q => q.elim (fun q => e2 q.2) (fun q => c q.1))]
/-- both sides of an end -/
theorem xend_eval {A : Nat → Nat → Int → Prop} {hc hr : xI} {φ : Nat → Nat} {d f v : Nat} (P : xPre A hc hr φ d f v) {F V3 : Int32} (hF : F.toInt = f) (hV : V3.toInt = v) : ∃ (V1 V2 E : Int32) (b m : Nat), (E = 0 → f_k_checkEnd hc = some (xZc (xEc hc hr (φ (d - 1)) b m V3) V1 E)) ∧ (E ≠ 0 → f_k_checkEnd hc = some (xZc hc V1 E) ∨ f_k_checkEnd hc = some (xZc (xEc hc hr (φ (d - 1)) b m V3) V1 E)) ∧ f_m_checkEnd F V3 (xput hr 41 v (hr 27 22)) = some (xZr (xEr (xput hr 41 v (hr 27 22)) (φ (d - 1)) V3) V2 E) ∧ 0 ≤ E.toInt ∧
    (hr 33 (φ (d - 1)) ≠ 0 → (hr 37 (φ (d - 1))).toInt = b ∧ (hr 33 (φ (d - 1)) = 5 → (hr 38 (φ (d - 1))).toInt = m)) ∧
    (E = 0 → V1 = V2 ∧ (hr 33 (φ (d - 1)) = 4 → hr 34 (φ (d - 1)) = 0) ∧ (hr 40 (φ (d - 1)) ≠ 0 → (hr 27 24).toInt = (hr 35 (φ (d - 1))).toInt + (hr 34 (φ (d - 1))).toInt) ∧ (d = 1 → (v : Int) + 1 = (hr 29 (f + 1)).toInt ∧ V2 = hr 35 (φ (d - 1))) ∧ (1 < d → V2.toInt = (hr 35 (φ (d - 1))).toInt + (hr 34 (φ (d - 1))).toInt ∧ V2.toInt ≤ 20)) := by
  have T := P.top
  have TN := T.n
  have bd := P.bounds
  obtain ⟨V', E1, E', c1, c2, c3, c4, c5, c6, c7, c8⟩ := xclose P
  obtain ⟨R, K, I, hd, hv, e1, e2, fn, pl, be, W, l1, l2⟩ := P
  have hh := K.height (i := d - 1) (by omega)
  obtain ⟨k1, k2, k3, k4, k5, k6, k7, k8, k9, k10, k11, k12, k13, k14, k15, k16, k17, k18, k19, k20, k21⟩ := K
  have yb := bd.2.2.2.2.2 (d - 1) (by omega)
  have h22 := k9 hd
  have o0 : (0 : Int32).toInt = 0 := rfl
  have o1 : (1 : Int32).toInt = 1 := rfl
  have gF : ∀ {α : Type} (x : Option α), xgd (hc 13 6 - 1) 9 x = x := fun x => xgd_ok (by omega) (by omega)
  have gY : ∀ {α : Type} (x : Option α), xgd (hr 27 22) 250 x = x := fun x => xgd_ok (by omega) (by omega)
  have h27 : ∀ j, xput hr 41 v (hr 27 22) 27 j = hr 27 j := fun j => by rw [xput_off (by omega)]
  have hx : ∀ k, k ≠ 41 → xput hr 41 v (hr 27 22) k = hr k := fun k a => xput_off a
  have g01 := k14 (d - 1) (by omega)
  have gb : 0 ≤ (hr 34 (φ (d - 1))).toInt ∧ (hr 34 (φ (d - 1))).toInt ≤ 1 := by
    rcases g01.2 with e | e <;> rw [e] <;> decide
  have P3 : hc 13 11 = V3 := by rw [xi_eq]; omega
  -- kinds
  have kinds : (hc 14 (d - 1) = 4 ↔ hr 33 (φ (d - 1)) = 4) ∧ (hc 14 (d - 1) = -1 ↔ d = 1) ∧ (hr 33 (φ (d - 1)) = 0 ↔ d = 1) := by
    by_cases z : d - 1 = 0
    · obtain ⟨q1, q2, q3, q4⟩ := k17 hd
      rw [z, q1, q3]
      exact ⟨⟨fun e => absurd e (by decide), fun e => absurd e (by decide)⟩, ⟨fun _ => by omega, fun _ => rfl⟩, ⟨fun _ => by omega, fun _ => rfl⟩⟩
    · obtain ⟨q1, q2, q3, q4⟩ := k18 (d - 1) (by omega) (by omega)
      rw [q1]
      exact ⟨Iff.rfl, ⟨fun e => absurd e q4, fun e => by omega⟩, ⟨fun e => absurd e q2, fun e => by omega⟩⟩
  -- the error so far
  obtain ⟨E2, hE2⟩ : ∃ E2, E2 = if hr 33 (φ (d - 1)) = 4 ∧ hr 34 (φ (d - 1)) ≠ 0 then xErr 3 E' else E' := ⟨_, rfl⟩
  have E2p : 0 ≤ E2.toInt := by
    rw [hE2]
    split
    · exact xE_pos (by decide) c4
    · exact c4
  have E2z : E2 = 0 → E' = 0 ∧ (hr 33 (φ (d - 1)) = 4 → hr 34 (φ (d - 1)) = 0) := by
    intro z
    rw [hE2] at z
    by_cases c : hr 33 (φ (d - 1)) = 4 ∧ hr 34 (φ (d - 1)) ≠ 0
    · rw [if_pos c] at z; exact absurd z (xE_ne (by decide))
    · rw [if_neg c] at z
      refine ⟨z, fun q => ?_⟩
      by_cases r : hr 34 (φ (d - 1)) = 0
      · exact r
      · exact absurd ⟨q, r⟩ c
  have ce : f_k_checkEnd hc = f_k_checkEnd_36 (hc 13 6 - 1) (xZc hc V' E2) := by
    unfold f_k_checkEnd
    rw [c1, Option.bind_some, gF, gF, TN.2, xZc_o _ _ _ (by omega), xZc_o _ _ _ (by omega), g01.1]
    by_cases c : hr 33 (φ (d - 1)) = 4
    · rw [if_pos (kinds.1.mpr c)]
      by_cases r : hr 34 (φ (d - 1)) = 0
      · rw [if_pos r, hE2, if_neg (fun q => q.2 r)]
      · rw [if_neg r, kfail, Option.bind_some, hE2, if_pos ⟨c, r⟩]
    · rw [if_neg (fun q => c (kinds.1.mp q)), hE2, if_neg (fun q => c q.1)]
  have xEidem : ∀ a : Int32, a ≠ 0 → xErr 3 (xErr 3 a) = xErr 3 a := by
    intro a _
    have n : xErr 3 a ≠ 0 := xE_ne (by decide)
    show (if xErr 3 a = 0 then 3 else xErr 3 a) = xErr 3 a
    rw [if_neg n]
  have xE33 : ∀ a : Int32, xErr 3 (xErr 3 a) = xErr 3 a := by
    intro a
    have n : xErr 3 a ≠ 0 := xE_ne (by decide)
    show (if xErr 3 a = 0 then 3 else xErr 3 a) = xErr 3 a
    rw [if_neg n]
  have me : f_m_checkEnd F V3 (xput hr 41 v (hr 27 22)) = f_m_checkEnd_52 F V3 (hr 27 22) (xZr (xput hr 41 v (hr 27 22)) V' E2) := by
    have r33 : xZr (xput hr 41 v (hr 27 22)) V' E1 33 = hr 33 := by rw [xZr_o _ _ _ (by omega), hx 33 (by omega)]
    have r34 : xZr (xput hr 41 v (hr 27 22)) V' E1 34 = hr 34 := by rw [xZr_o _ _ _ (by omega), hx 34 (by omega)]
    have r35 : xZr (xput hr 41 v (hr 27 22)) V' E1 35 = hr 35 := by rw [xZr_o _ _ _ (by omega), hx 35 (by omega)]
    unfold f_m_checkEnd f_m_checkEnd_47
    rw [h27, gY, xi_cl h22, hx 34 (by omega), c2, Option.bind_some, gY, gY, gY, xZr_v, r33, r34, r35, mfail, Option.bind_some]
    rw [c3] at hE2
    by_cases c : V' = hr 35 (φ (d - 1))
    · rw [if_pos c] at hE2 ⊢
      by_cases k : hr 33 (φ (d - 1)) = 4
      · rw [if_pos k]
        by_cases r : hr 34 (φ (d - 1)) = 0
        · rw [if_neg (fun q => q.2 r)] at hE2
          rw [if_pos (by rw [r]; decide), hE2]
        · rw [if_pos ⟨k, r⟩] at hE2
          have r1 : hr 34 (φ (d - 1)) = 1 := g01.2.resolve_left r
          rw [if_neg (by rw [r1]; decide), hE2]
      · rw [if_neg (fun q => k q.1)] at hE2
        rw [if_neg k, hE2]
    · rw [if_neg c] at hE2 ⊢
      by_cases k : hr 33 (φ (d - 1)) = 4 ∧ hr 34 (φ (d - 1)) ≠ 0
      · rw [if_pos k, xE33] at hE2; rw [hE2]
      · rw [if_neg k] at hE2; rw [hE2]
  -- the reference goes on
  have s23 : (hr 27 23 - 1).toInt = (d : Int) - 1 := by rw [xi_sub (by omega) (by omega), k1, o1]
  have mstate : ∀ E, xput (xput (xput (xZr (xput hr 41 v (hr 27 22)) V' E) 39 (φ (d - 1)) V3) 27 23 (hr 27 23 - 1)) 27 22 (hr 36 (φ (d - 1))) = xZr (xEr (xput hr 41 v (hr 27 22)) (φ (d - 1)) V3) V' E := by
    intro E
    unfold xEr
    rw [xZr_put _ _ _ _ (.inl (by omega)), xZr_put _ _ _ _ (.inr ⟨by omega, by omega⟩), xZr_put _ _ _ _ (.inr ⟨by omega, by omega⟩), h27, hx 36 (by omega)]
  have m52 : ∀ E, f_m_checkEnd_52 F V3 (hr 27 22) (xZr (xput hr 41 v (hr 27 22)) V' E) = if d = 1 then (if (hr 29 (f + 1)).toInt ≤ v + 1 then some (xZr (xEr (xput hr 41 v (hr 27 22)) (φ (d - 1)) V3) V' E) else some (xZr (xEr (xput hr 41 v (hr 27 22)) (φ (d - 1)) V3) V' (xErr 7 E))) else f_m_push (hr 34 (φ (d - 1))) (xZr (xEr (xput hr 41 v (hr 27 22)) (φ (d - 1)) V3) V' E) := by
    intro E
    obtain ⟨F1, F2⟩ := xi_cl1 hF (by omega)
    obtain ⟨V31, V32⟩ := xi_cl1 hV (by omega)
    have d23 : xZr (xput hr 41 v (hr 27 22)) V' E 27 23 = hr 27 23 := by rw [xZr_j _ _ _ (by omega) (by omega), h27]
    have d36 : xZr (xput hr 41 v (hr 27 22)) V' E 36 = hr 36 := by rw [xZr_o _ _ _ (by omega), hx 36 (by omega)]
    have d34 : xZr (xput hr 41 v (hr 27 22)) V' E 34 = hr 34 := by rw [xZr_o _ _ _ (by omega), hx 34 (by omega)]
    have d29 : xZr (xput hr 41 v (hr 27 22)) V' E 29 = hr 29 := by rw [xZr_o _ _ _ (by omega), hx 29 (by omega)]
    unfold f_m_checkEnd_52
    rw [gY, gY, xi_cl h22, d23, d36, mstate, d34, d29, gY, xgd_ok (by omega) (by omega), F2, mfail, Option.bind_some, xbs]
    by_cases c : d = 1
    · rw [if_pos c, if_pos (by rw [xi_le]; omega)]
      by_cases q : (hr 29 (f + 1)).toInt ≤ v + 1
      · rw [if_pos q, if_pos (by rw [xi_le]; omega)]
      · rw [if_neg q, if_neg (by rw [xi_le]; omega)]
    · rw [if_neg c, if_neg (by rw [xi_le]; omega)]
  -- the opener and the else
  obtain ⟨b, m, hbm⟩ : ∃ b m : Nat, hr 33 (φ (d - 1)) ≠ 0 → ((hr 37 (φ (d - 1))).toInt = b ∧ b < 240 ∧ hc 18 (d - 1) = hr 37 (φ (d - 1)) ∧ hc 14 (d - 1) = hr 33 (φ (d - 1)) ∧ (hr 33 (φ (d - 1)) = 5 → (hr 38 (φ (d - 1))).toInt = m ∧ m < 240 ∧ hc 8 b = hr 38 (φ (d - 1)))) := by
    by_cases c : hr 33 (φ (d - 1)) = 0
    · exact ⟨0, 0, fun h => absurd c h⟩
    · have d1 : d ≠ 1 := fun e => c (kinds.2.2.mpr e)
      obtain ⟨q1, q2, q3, q4⟩ := k18 (d - 1) (by omega) (by omega)
      obtain ⟨⟨b, w1, w2, w3, w4, w5, w6, w7, w8, w9, w10, w11⟩, g1, g2⟩ := k20 _ (k10 (d - 1) (by omega)) q2
      rcases w11 with ⟨-, w11⟩ | ⟨w0, m, w11, w12, -⟩
      · exact ⟨b, 0, fun _ => ⟨w1, by omega, q3, q1, fun e => absurd e w11⟩⟩
      · exact ⟨b, m, fun _ => ⟨w1, by omega, q3, q1, fun _ => ⟨w11, by omega, w9⟩⟩⟩
  -- the class goes on where there is no error
  have k36 : E2 = 0 → f_k_checkEnd hc = if d = 1 then (if (hr 29 (f + 1)).toInt ≤ v + 1 then some (xZc (xEc hc hr (φ (d - 1)) b m V3) V' 0) else some (xZc (xEc hc hr (φ (d - 1)) b m V3) V' 7)) else f_k_pushValues (hr 34 (φ (d - 1))) (xZc (xEc hc hr (φ (d - 1)) b m V3) V' 0) := by
    intro z
    rw [ce, z]
    have ne : f_k_noteEnd (hc 13 6 - 1) (xZc hc V' 0) = some (xZc (if hr 33 (φ (d - 1)) = 0 then hc else if hr 33 (φ (d - 1)) = 5 then xput (xput hc 7 b V3) 7 m V3 else xput hc 7 b V3) V' 0) := by
      unfold f_k_noteEnd
      have z18 : xZc hc V' 0 18 = hc 18 := xZc_o _ _ _ (by omega)
      have z14 : xZc hc V' 0 14 = hc 14 := xZc_o _ _ _ (by omega)
      have z8 : xZc hc V' 0 8 = hc 8 := xZc_o _ _ _ (by omega)
      have z11 : xZc hc V' 0 13 11 = V3 := by rw [xZc_j _ _ _ (by omega) (by omega)]; exact P3
      rw [gF, gF, TN.2, z18, z14, z8, z11]
      by_cases c : hr 33 (φ (d - 1)) = 0
      · have d1 := kinds.2.2.mp c
        obtain ⟨q1, q2, q3, q4⟩ := k17 hd
        rw [if_pos c, if_pos (by rw [d1]; exact q2)]
      · obtain ⟨u1, u2, u3, u4, u5⟩ := hbm c
        have em : (-1 : Int32).toInt = -1 := rfl
        have gb' : ∀ {α : Type} (x : Option α), xgd (hr 37 (φ (d - 1))) 240 x = x := fun x => xgd_ok (by omega) (by omega)
        rw [if_neg c, u3, u4, if_neg (by rw [xi_eq]; omega), gb', gb', xi_cl u1]
        by_cases k : hr 33 (φ (d - 1)) = 5
        · obtain ⟨t1, t2, t3⟩ := u5 k
          rw [if_pos k, if_pos k, t3, xgd_ok (by omega) (by omega), xi_cl t1, xZc_put _ _ _ _ (.inl (by omega)), xZc_put _ _ _ _ (.inl (by omega))]
        · rw [if_neg k, if_neg k, xZc_put _ _ _ _ (.inl (by omega))]
    unfold f_k_checkEnd_36
    rw [xZc_e, if_pos rfl, ne, Option.bind_some, gF, gF, TN.2]
    have o14 : ∀ X, xZc (if hr 33 (φ (d - 1)) = 0 then hc else if hr 33 (φ (d - 1)) = 5 then xput (xput hc 7 b V3) 7 m V3 else xput hc 7 b V3) V' 0 X = (if X = 13 then xZc (if hr 33 (φ (d - 1)) = 0 then hc else if hr 33 (φ (d - 1)) = 5 then xput (xput hc 7 b V3) 7 m V3 else xput hc 7 b V3) V' 0 X else xEc hc hr (φ (d - 1)) b m V3 X) := by
      intro X
      by_cases e : X = 13
      · rw [if_pos e]
      · rw [if_neg e, xZc_o _ _ _ e]
        unfold xEc
        rw [xput_off e]
    have a14 := o14 14
    have a15 := o14 15
    rw [if_neg (show ¬ (14 : Nat) = 13 by omega), xEc_o (by omega) (by omega)] at a14
    rw [if_neg (show ¬ (15 : Nat) = 13 by omega), xEc_o (by omega) (by omega)] at a15
    have a13 : ∀ j, j ≠ 7 → j ≠ 9 → xZc (if hr 33 (φ (d - 1)) = 0 then hc else if hr 33 (φ (d - 1)) = 5 then xput (xput hc 7 b V3) 7 m V3 else xput hc 7 b V3) V' 0 13 j = hc 13 j := by
      intro j x y
      rw [xZc_j _ _ _ x y]
      by_cases c : hr 33 (φ (d - 1)) = 0
      · rw [if_pos c]
      · rw [if_neg c]
        by_cases k : hr 33 (φ (d - 1)) = 5
        · rw [if_pos k, xput_off (by omega), xput_off (by omega)]
        · rw [if_neg k, xput_off (by omega)]
    have st : xput (xZc (if hr 33 (φ (d - 1)) = 0 then hc else if hr 33 (φ (d - 1)) = 5 then xput (xput hc 7 b V3) 7 m V3 else xput hc 7 b V3) V' 0) 13 6 (hc 13 6 - 1) = xZc (xEc hc hr (φ (d - 1)) b m V3) V' 0 := by
      unfold xEc
      rw [xZc_put _ _ _ _ (.inr ⟨by omega, by omega⟩)]
    rw [a14, a15, a13 11 (by omega) (by omega), a13 8 (by omega) (by omega), a13 6 (by omega) (by omega), st, g01.1, be, P3, kfail, Option.bind_some, xbs]
    have b1 : (hr 29 (f + 1) - 1).toInt = (hr 29 (f + 1)).toInt - 1 := by rw [xi_sub (by omega) (by omega), o1]
    by_cases c : d = 1
    · rw [if_pos c, if_pos (kinds.2.1.mpr c)]
      by_cases q : (hr 29 (f + 1)).toInt ≤ v + 1
      · rw [if_pos q, if_pos (by rw [xi_eq]; omega)]
      · rw [if_neg q, if_neg (by rw [xi_eq]; omega)]
        rfl
    · rw [if_neg c, if_neg (fun e => c (kinds.2.1.mp e))]
  have facts : hr 33 (φ (d - 1)) ≠ 0 → (hr 37 (φ (d - 1))).toInt = b ∧ (hr 33 (φ (d - 1)) = 5 → (hr 38 (φ (d - 1))).toInt = m) := fun c => ⟨(hbm c).1, fun k => ((hbm c).2.2.2.2 k).1⟩
  by_cases z : E2 = 0
  · obtain ⟨z1, z2⟩ := E2z z
    obtain ⟨v1, v2, v3⟩ := c8 z1
    have kk := k36 z
    rw [me, m52, z]
    by_cases c : d = 1
    · rw [if_pos c] at kk ⊢
      by_cases q : (hr 29 (f + 1)).toInt ≤ v + 1
      · rw [if_pos q] at kk ⊢
        exact ⟨V', V', 0, b, m, fun _ => kk, fun e => absurd rfl e, rfl, by decide, facts, fun _ => ⟨rfl, z2, v3, fun _ => ⟨by omega, v1⟩, fun h => by omega⟩⟩
      · rw [if_neg q] at kk ⊢
        exact ⟨V', V', 7, b, m, fun e => absurd e (by decide), fun _ => .inr kk, rfl, by decide, facts, fun e => absurd e (by decide)⟩
    · rw [if_neg c] at kk ⊢
      obtain ⟨U1, U2, E3, u1, u2, u3, u4⟩ := xpushs (hc := xEc hc hr (φ (d - 1)) b m V3) (hr := xEr (xput hr 41 v (hr 27 22)) (φ (d - 1)) V3) (hr 34 (φ (d - 1))) V' 0 (by omega) (by omega) gb.1 (by omega)
      rw [u1] at kk
      refine ⟨U1, U2, E3, b, m, fun _ => kk, fun _ => .inr kk, u2, ?_, facts, fun e => ?_⟩
      · by_cases q : V'.toInt + (hr 34 (φ (d - 1))).toInt ≤ 20
        · rw [(u3 q).2.2]; decide
        · rw [u4 (by omega)]; decide
      · by_cases q : V'.toInt + (hr 34 (φ (d - 1))).toInt ≤ 20
        · obtain ⟨t1, t2, t3⟩ := u3 q
          refine ⟨t1, z2, v3, fun h => absurd h c, fun _ => ⟨by rw [t2, v1], by omega⟩⟩
        · rw [u4 (by omega)] at e
          exact absurd e (by decide)
  · have ck : f_k_checkEnd hc = some (xZc hc V' E2) := by
      rw [ce]
      unfold f_k_checkEnd_36
      rw [xZc_e, if_neg z]
    have id7 : ∀ a : Int32, xErr a E2 = E2 := fun a => if_neg z
    rw [me, m52, id7, ite_self]
    by_cases c : d = 1
    · rw [if_pos c]
      exact ⟨V', V', E2, b, m, fun e => absurd e z, fun _ => .inl ck, rfl, E2p, facts, fun e => absurd e z⟩
    · rw [if_neg c]
      obtain ⟨U1, U2, E3, u1, u2, u3, u4⟩ := xpushs (hc := hc) (hr := xEr (xput hr 41 v (hr 27 22)) (φ (d - 1)) V3) (hr 34 (φ (d - 1))) V' E2 (by omega) (by omega) gb.1 (by omega)
      have e3 : E3 = E2 := by
        by_cases q : V'.toInt + (hr 34 (φ (d - 1))).toInt ≤ 20
        · exact (u3 q).2.2
        · rw [u4 (by omega), id7]
      rw [e3] at u2
      exact ⟨V', U2, E2, b, m, fun e => absurd e z, fun _ => .inl ck, u2, E2p, facts, fun e => absurd e z⟩
