/-! The check of a body. -/
theorem xtyped {A : Nat → Nat → Int → Prop} {hc hr : xI} {φ : Nat → Nat} {d f v : Nat} (P : xPre A hc hr φ d f v) {F V3 : Int32} (hF : F.toInt = f) (hV : V3.toInt = v) : xIt hc hr f v (f_k_checkTyping (hr 28 v) hc) (f_m_check F V3 hr) := by
  have k := P.2.2.2.2.2.2.2.2.2.2.1.1
  have wf : ∀ w : Int32, f_o_shapeOf w ≠ -1 → (w = 1 ∨ 17 ≤ w.toInt) ∨ w = 0 ∨ (w = 2 ∨ w = 3) ∨ w = 4 ∨ w = 5 ∨ w = 11 ∨ w = 12 ∨ w = 13 ∨ w = 14 ∨ w = 15 ∨ w = 16 := by
    intro w hw
    exact xop_known (P := fun w => (w = 1 ∨ 17 ≤ w.toInt) ∨ w = 0 ∨ (w = 2 ∨ w = 3) ∨ w = 4 ∨ w = 5 ∨ w = 11 ∨ w = 12 ∨ w = 13 ∨ w = 14 ∨ w = 15 ∨ w = 16) (by decide +kernel) w hw
  rcases wf _ k with h | h | h | h | h | h | h | h | h | h | h
  · exact xk_plain P h hV
  · exact xk_unr P h hV
  · exact xk_block P h hV
  · exact xk_if P h hV
  · exact xk_else P h hV
  · exact xk_end P h hF hV
  · exact xk_br P h hV
  · exact xk_brif P h hV
  · exact xk_table P h hV
  · exact xk_ret P h hF hV
  · exact xk_call P h hV
/-- how long the instruction is, on both sides -/
theorem xlens {hc hr : xI} (R : RB hc hr) {f v : Nat} (W : xWd hr f v) (hv : (v : Int) < (hr 29 (f + 1)).toInt) (he : (hr 29 (f + 1)).toInt ≤ 240) {V3 P : Int32} (hV : V3.toInt = v) (hP : P.toInt = v) : ∃ L : Int32, f_c_sizeAt P hc = some L ∧ f_m_length V3 hr = some L ∧ L.toInt = xLen hr v := by
  have n14 : hr 28 v = 14 → v + 1 < 240 := fun e => by have := W.2.2.2.1 e; omega
  obtain ⟨V1, V2⟩ := xi_cl1 hV (by omega)
  have gV : ∀ {α : Type} (x : Option α), xgd V3 240 x = x := fun x => xgd_ok (by omega) (by omega)
  unfold xLen f_m_length
  rw [gV, gV, xi_cl hV]
  by_cases c : hr 28 v = 14
  · have := n14 c
    have w := W.2.2.2.1 c
    rw [if_pos c, if_pos c, xgd_ok (by omega) (by omega), V2]
    refine ⟨_, xsize14 R hP (by omega) c, rfl, ?_⟩
    have o3 : (3 : Int32).toInt = 3 := rfl
    rw [xi_add (by omega) (by omega), o3]
    omega
  · rw [if_neg c, if_neg c]
    refine ⟨_, xsize R hP (by omega) W.1 c, rfl, ?_⟩
    rcases ximm01 (hr 28 v) with e | e <;> rw [e] <;> rfl
theorem xCK_at {hc hr : xI} {φ : Nat → Nat} {d f v : Nat} (K : xCK hc hr φ d f v) (x : Int32) : xCK (xput hc 13 11 x) hr φ d f v := by
  have o13 : ∀ k, k ≠ 13 → xput hc 13 11 x k = hc k := fun k a => xput_off a
  have j13 : ∀ j, j ≠ 11 → xput hc 13 11 x 13 j = hc 13 j := fun j a => by rw [xput_at, if_pos rfl, if_neg a]
  obtain ⟨k1, k2, k3, k4, k5, k6, k7, k8, k9, k10, k11, k12, k13, k14, k15, k16, k17, k18, k19, k20, k21⟩ := K
  refine ⟨k1, k2, by rw [j13 6 (by omega)]; exact k3, by rw [j13 7 (by omega)]; exact k4, k5, k6, k7, k8, k9, k10, k11, k12, k13, by rw [o13 15 (by omega)]; exact k14, by rw [o13 16 (by omega)]; exact k15, by rw [o13 17 (by omega)]; exact k16, by rw [o13 14 (by omega), o13 18 (by omega)]; exact k17, by rw [o13 14 (by omega), o13 18 (by omega)]; exact k18, k19, fun y hy hk => ?_, k21⟩
  obtain ⟨q1, q2⟩ := k20 y hy hk
  refine ⟨?_, q2⟩
  unfold xFr at q1 ⊢
  rw [o13 7 (by omega), o13 8 (by omega), o13 9 (by omega)]
  exact q1
theorem xGI_at {A : Nat → Nat → Int → Prop} {hc hr : xI} {φ : Nat → Nat} {d f v : Nat} (K : xCK hc hr φ d f v) (I : xGI A hc hr φ d f v) (x : Int32) : xGI A (xput hc 13 11 x) hr φ d f v := by
  obtain ⟨j1, j2, j3, j4⟩ := I
  refine ⟨j1, j2, j3, fun f' p h a => ?_⟩
  obtain ⟨q1, q2, q3, q4, q5, q6, q7⟩ := j4 f' p h a
  refine ⟨q1, q2, q3, q4, q5, q6, ?_⟩
  refine xCnd_mono (v := v) (Int.le_refl _) ⟨fun k a b => xput_off (by omega), fun _ _ _ => rfl, fun _ _ _ _ _ _ => rfl⟩ (fun y hy => ⟨rfl, rfl, rfl, rfl, Iff.rfl, Iff.rfl, fun _ => rfl⟩) (fun p hp => ⟨rfl, rfl⟩) (fun b hb => by rw [xput_off (by omega)]) (fun b hb => by rw [xput_off (by omega)]) (fun y hy hky => ?_) q1 q6 (fun _ _ _ x => x) q7
  obtain ⟨⟨b, b1, b2, -⟩, -⟩ := K.2.2.2.2.2.2.2.2.2.2.2.2.2.2.2.2.2.2.2.1 y hy hky
  exact ⟨b, b1, by omega⟩
/-- what a checked body leaves, or the fault -/
def xDone (hc hr : xI) (f : Nat) (F : Int32) (a : Option xI) (b : Option (Int32 × xI)) : Prop :=
  ∃ hc' hr' r, a = some hc' ∧ b = some (r, hr') ∧ xFrm hc hr hc' hr' ∧ hc' 13 9 = hr' 27 25 ∧ hc' 13 10 = F ∧
    ((hr' 27 25 = 0 ∧ r.toInt < 0 ∧ ∃ (A : Nat → Nat → Int → Prop) (φ : Nat → Nat) (e : Nat), (hr 29 (f + 1)).toInt = e ∧ xCK hc' hr' φ 0 f e ∧ xGI A hc' hr' φ 0 f e) ∨ (hr' 27 25 ≠ 0 ∧ 0 ≤ r.toInt ∧ hc' 13 11 = r))
theorem xbody {f : Nat} {F : Int32} (hF : F.toInt = f) : ∀ (n v : Nat) (hc hr : xI) (A : Nat → Nat → Int → Prop) (φ : Nat → Nat) (d : Nat) (v2 V3 : Int32), RB hc hr → xCK hc hr φ d f v → xGI A hc hr φ d f v → hc 13 9 = 0 → hr 27 25 = 0 → hc 13 10 = F → (hc 13 11).toInt = v → hc 13 8 = hr 29 (f + 1) → V3.toInt = v → (hr 29 (f + 1)).toInt - v < n → (hr 29 (f + 1)).toInt - v ≤ v2.toInt → v2.toInt ≤ 1000 → -1000 ≤ v2.toInt → xDone hc hr f F (f_k_checkBody_65 n v2 hc) (f_m_checkFunction_36 n F V3 hr) := by
  have o0 : (0 : Int32).toInt = 0 := rfl
  have om : (-1 : Int32).toInt = -1 := rfl
  intro n
  induction n with
  | zero =>
    intro v hc hr A φ d v2 V3 R K I e1 e2 fn pl be hV h1 h2 h3
    have := K.2.2.2.2.2.2.2.1
    omega
  | succ n ih =>
    intro v hc hr A φ d v2 V3 R K I e1 e2 fn pl be hV h1 h2 h3 h4
    have fb := R.fnsB
    have ff := K.2.2.2.2.2.1
    have eb := R.fromB (f + 1) (by omega)
    have kv := K.2.2.2.2.2.2.2.1
    have P3 : hc 13 11 = V3 := by rw [xi_eq]; omega
    obtain ⟨F1, F2⟩ := xi_cl1 hF (by omega)
    have gF : ∀ {α : Type} (x : Option α), xgd (F + 1) 7 x = x := fun x => xgd_ok (by omega) (by omega)
    unfold f_k_checkBody_65 f_m_checkFunction_36
    rw [gF, F2, be]
    -- the end of the body, or of its frames
    by_cases hend : (hr 29 (f + 1)).toInt ≤ v
    · have le : hr 29 (f + 1) ≤ hc 13 11 := by rw [xi_le]; omega
      rw [if_pos le, ite_self, if_pos (by rw [xi_le]; omega)]
      unfold f_k_checkBody_147 f_m_checkFunction_98
      rw [K.2.2.1]
      by_cases dz : hr 27 23 ≤ 0
      · rw [if_pos dz, if_pos dz]
        have d0 : d = 0 := by have := K.1; rw [xi_le] at dz; omega
        subst d0
        refine ⟨hc, hr, -1, rfl, rfl, xFrm.refl _ _, by rw [e1, e2], fn, .inl ⟨e2, by decide, A, φ, v, by omega, K, I⟩⟩
      · rw [if_neg dz, if_neg dz]
        have kf : f_k_fail 1 hc = some (xput hc 13 9 1) := by unfold f_k_fail; rw [if_pos e1]
        have mf : f_m_fail 1 hr = some (xput hr 27 25 1) := by unfold f_m_fail f_m_fail_16; rw [if_pos e2]
        rw [kf, mf, Option.bind_some, Option.bind_some]
        refine ⟨_, _, V3, rfl, rfl, ⟨fun k a b => xput_off (by omega), fun k a b => xput_off a, fun j a1 a2 a3 a4 a5 => by simp [xput_at, a5]⟩, by simp [xput_at], by simp only [xput_at, Nat.reduceEqDiff, reduceIte]; exact fn, .inr ⟨by simp [xput_at], by omega, by simp only [xput_at, Nat.reduceEqDiff, reduceIte]; exact P3⟩⟩
    · have d0 : 0 < d := by
        by_cases c : d = 0
        · have := K.2.2.2.2.2.2.2.2.2.2.2.2.2.2.2.2.2.2.2.2 c
          omega
        · omega
      have gP : ∀ {α : Type} (x : Option α), xgd (hc 13 11) 240 x = x := fun x => xgd_ok (by omega) (by omega)
      rw [if_neg (by rw [xi_le]; omega), if_neg (by rw [xi_le]; omega), gP, xi_cl pl, R.words, if_neg (by rw [xi_le]; omega), if_neg (by have := K.1; rw [xi_le]; omega)]
      obtain ⟨E, hc1, i1, i2, i3, i4, i5, i6, i7, i8⟩ := ximms (F := F) (V3 := V3) R K.1 K.2.1 K.2.2.1 ff (by omega) e1 (by rw [fn]; exact hF) pl be hF hV
      have mf : f_m_fail E hr = some (xput hr 27 25 E) := by unfold f_m_fail f_m_fail_16; rw [if_pos e2]
      have c9 := i3
      have r25 : xput hr 27 25 E 27 25 = E := by simp [xput_at]
      rw [i1, i2, Option.bind_some, Option.bind_some, mf, Option.bind_some, c9, r25]
      unfold f_k_checkBody_113 f_m_checkFunction_78
      by_cases ez : E = 0
      · rw [if_pos ez, if_pos ez]
        have hrE : xput hr 27 25 E = hr := by
          funext a c
          rw [xput_at]
          by_cases x : a = 27
          · rw [if_pos x]
            by_cases y : c = 25
            · rw [if_pos y, x, y, e2, ez]
            · rw [if_neg y]
          · rw [if_neg x]
        rw [hrE]
        obtain ⟨W, l1, l2⟩ := i8 ez
        have h13 : ∀ j, hc1 13 j = hc 13 j := by
          intro j
          by_cases x : j = 9
          · rw [x, c9, ez, e1]
          · exact i6 j x
        have hk : ∀ k, k ≠ 10 → hc1 k = hc k := by
          intro k x
          by_cases y : k = 13
          · rw [y]; funext j; exact h13 j
          · exact i5 k x y
        have F1 : xFrm hc hr hc1 hr := ⟨fun k a b => hk k (by omega), fun _ _ _ => rfl, fun _ _ _ _ _ _ => rfl⟩
        have K1 : xCK hc1 hr φ d f v := K.same d0 (fun k h => hk k (by omega)) (fun k h => hk k (by omega)) (h13 6) (fun _ _ => rfl) (fun _ _ => rfl) (fun _ _ => rfl) (fun i hi => by rw [hk 17 (by omega)]; exact K.2.2.2.2.2.2.2.2.2.2.2.2.2.2.2.1 i hi) (by rw [h13]; exact K.2.2.2.1) K.2.2.2.2.1.2 (K.2.2.2.2.2.2.2.2.2.2.2.1 d0) (Nat.le_refl _) kv.2
        have I1 : xGI A hc1 hr φ d f v := by
          obtain ⟨j1, j2, j3, j4⟩ := I
          refine ⟨j1, j2, j3, fun f' p h a => ?_⟩
          obtain ⟨q1, q2, q3, q4, q5, q6, q7⟩ := j4 f' p h a
          refine ⟨q1, q2, q3, q4, q5, q6, ?_⟩
          refine xCnd_mono (v := v) (Int.le_refl _) F1 (fun y hy => ⟨rfl, rfl, rfl, rfl, Iff.rfl, Iff.rfl, fun _ => rfl⟩) (fun p hp => ⟨rfl, rfl⟩) (fun b hb => by rw [hk 9 (by omega)]) i7 (fun y hy hky => ?_) q1 q6 (fun _ _ _ x => x) q7
          obtain ⟨⟨b, b1, b2, -⟩, -⟩ := K.2.2.2.2.2.2.2.2.2.2.2.2.2.2.2.2.2.2.2.1 y hy hky
          exact ⟨b, b1, by omega⟩
        have R1 := R.frm F1
        have h18 : hc1 18 = hc 18 := hk 18 (by omega)
        have P : xPre A hc1 hr φ d f v := ⟨R1, K1, I1, d0, by omega, by rw [h13]; exact e1, e2, by rw [h13, fn]; exact hF, by rw [h13]; exact pl, by rw [h13]; exact be, W, fun h => by
            obtain ⟨l, u1, u2, u3⟩ := l1 h
            exact ⟨l, u1, u2, by rw [h18]; exact u3⟩, fun h i hi => by
            obtain ⟨l, u1, u2, u3⟩ := l2 h i hi
            exact ⟨l, u1, u2, by rw [h18]; exact u3⟩⟩
        obtain ⟨hc2, hr2, t1, t2, t3, t4, t5, t6, t7⟩ := xtyped P hF hV
        rw [t1, t2, Option.bind_some, Option.bind_some, t4]
        have FF := F1.trans t3
        by_cases z2 : hr2 27 25 = 0
        · obtain ⟨A', φ', d', K2, I2⟩ := t7 z2
          obtain ⟨n1, n2⟩ := xlen_le W (by omega)
          have R2 := R1.frm t3
          have r28 := t3.2.1 28 (by omega) (by omega)
          have r29 := t3.2.1 29 (by omega) (by omega)
          have W2 : xWd hr2 f v := xwd_z W (fun k hk => t3.2.1 k (by omega) (by omega)) (t3.2.2 4 (by omega) (by omega) (by omega) (by omega) (by omega))
          have p2 : hc2 13 11 = hc 13 11 := by rw [t6 11 (by omega), h13]
          have xl : xLen hr2 v = xLen hr v := by unfold xLen; rw [r28]
          obtain ⟨L, s1, s2, s3⟩ := xlens R2 W2 (by rw [r29]; omega) (by rw [r29]; omega) hV (P := hc2 13 11) (by rw [p2]; exact pl)
          rw [xl] at s3
          generalize xLen hr v = len at K2 I2 n1 n2 s3
          rw [if_pos z2, if_pos (by rw [z2]; decide), s1, s2, Option.bind_some, Option.bind_some]
          have le1000 : len ≤ 240 := by omega
          have pn : (hc2 13 11 + L).toInt = ((v + len : Nat) : Int) := by rw [p2, xi_add (by omega) (by omega), s3]; omega
          have vn : (V3 + L).toInt = ((v + len : Nat) : Int) := by rw [xi_add (by omega) (by omega), s3]; omega
          have v2n : (v2 + (-1 : Int32)).toInt = v2.toInt - 1 := by rw [xi_add (by omega) (by omega), om]; omega
          have F3 : xFrm hc2 hr2 (xput hc2 13 11 (hc2 13 11 + L)) hr2 := ⟨fun k a b => xput_off (by omega), fun _ _ _ => rfl, fun _ _ _ _ _ _ => rfl⟩
          have j13 : ∀ j, j ≠ 11 → xput hc2 13 11 (hc2 13 11 + L) 13 j = hc2 13 j := fun j a => by rw [xput_at, if_pos rfl, if_neg a]
          have K3 := xCK_at K2 (hc2 13 11 + L)
          have I3 := xGI_at K2 I2 (hc2 13 11 + L)
          obtain ⟨hc3, hr3, r, y1, y2, y3, y4, y5, y6⟩ := ih (v + len) (xput hc2 13 11 (hc2 13 11 + L)) hr2 A' φ' d' (v2 + (-1 : Int32)) (V3 + L) (R2.frm F3) K3 I3 (by rw [j13 9 (by omega), t4, z2]) z2 (by rw [j13 10 (by omega), t6 10 (by omega), h13]; exact fn) (by rw [xput_at, if_pos rfl, if_pos rfl]; exact pn) (by rw [j13 8 (by omega), t6 8 (by omega), h13, r29]; exact be) vn (by rw [r29]; clear v2n; omega) (by rw [r29, v2n]; clear v2n; omega) (by rw [v2n]; clear v2n; omega) (by rw [v2n]; clear v2n; omega)
          rw [r29] at y6
          exact ⟨hc3, hr3, r, y1, y2, (FF.trans F3).trans y3, y4, y5, y6⟩
        · rw [if_neg z2, if_neg (by rw [xi_le]; intro q; exact z2 (xi_eq.mpr (by omega)))]
          exact ⟨hc2, hr2, V3, rfl, rfl, FF, t4, by rw [t6 10 (by omega), h13]; exact fn, .inr ⟨z2, by omega, by rw [t6 11 (by omega), h13]; exact P3⟩⟩
      · rw [if_neg ez, if_neg ez, c9, if_neg ez, r25, if_neg (by rw [xi_le]; intro q; exact ez (xi_eq.mpr (by omega)))]
        refine ⟨hc1, _, V3, rfl, rfl, ⟨fun k a b => i5 k (by omega) (by omega), fun k a b => xput_off a, fun j a1 a2 a3 a4 a5 => by simp [xput_at, a5]⟩, by rw [c9, r25], by rw [i6 10 (by omega)]; exact fn, .inr ⟨by rw [r25]; exact ez, by omega, by rw [i6 11 (by omega)]; exact P3⟩⟩
