/-! All bodies. -/
/-- between two bodies: f functions are checked, up to the place v -/
def xBtw (A : Nat → Nat → Int → Prop) (hc hr : xI) (f v : Nat) : Prop :=
  (hr 29 f).toInt = v ∧ (0 ≤ (hr 27 11).toInt ∧ (hr 27 11).toInt ≤ (v : Int) + f) ∧
  (∀ y : Nat, (y : Int) < (hr 27 11).toInt → hr 33 y ≠ 0 → xFr hc hr v y ∧ (hr 34 y = 0 ∨ hr 34 y = 1) ∧ 0 ≤ (hr 35 y).toInt) ∧
  (∀ f' : Nat, f' < f → ∃ s : Nat, (hr 29 f').toInt = s ∧ A f' s 0) ∧
  ∀ (f' p : Nat) (h : Int), A f' p h → p < v ∧ f' < f ∧ (hr 29 f').toInt ≤ p ∧ (p : Int) < (hr 29 (f' + 1)).toInt ∧ 0 ≤ h ∧ (hr 28 p = 14 → (p : Int) + 3 + (hr 28 (p + 1)).toInt ≤ v) ∧ xCnd hc hr (hr 27 11).toInt (xLG A hr id 0 f v f') f' p h
/-- goals where no frame is open go over -/
theorem xLG_closed {A : Nat → Nat → Int → Prop} {hr hr' : xI} {φ φ' : Nat → Nat} {d' f f2 v v' f' t q : Nat} {h : Int} (hN : (hr 27 11).toInt ≤ (hr' 27 11).toInt) (fy : ∀ y : Nat, (y : Int) < (hr 27 11).toInt → ∀ k, 33 ≤ k → k ≤ 39 → hr' k y = hr k y) (a : xLG A hr φ 0 f v f' t q h) : xLG A hr' φ' d' f2 v' f' t q h := by
  have L0 : ∀ q h, xL0 A hr φ 0 f v f' q h → xL0 A hr' φ' d' f2 v' f' q h := by
    intro q h a
    rcases a with a | ⟨a1, a2, a3, a4, a5⟩
    · exact .inl a
    · omega
  have no : ∀ q, ¬ xOpn hr φ 0 q := by
    intro q c
    obtain ⟨i, h1, h2, -⟩ := c
    omega
  obtain ⟨a4, a0, a1, a2, a3⟩ := a
  refine ⟨a4, fun e => L0 _ _ (a0 e), fun e => ?_, fun e => ?_, fun e => ?_⟩
  · obtain ⟨b1, b2, b3⟩ := a1 e
    clear a0 a1 a2 a3
    have g := fy q b1
    rw [g 33 (by omega) (by omega), g 39 (by omega) (by omega)]
    refine ⟨by omega, b2, ?_⟩
    rcases b3 with ⟨e, e1, e2⟩ | ⟨e1, e2, e3⟩
    · exact .inl ⟨e, e1, L0 _ _ e2⟩
    · exact absurd e2 (no q)
  · obtain ⟨b1, b2, b4, b3⟩ := a2 e
    clear a0 a1 a2 a3
    have g := fy q b1
    rw [g 33 (by omega) (by omega), g 38 (by omega) (by omega), g 39 (by omega) (by omega)]
    refine ⟨by omega, b2, b4, ?_⟩
    rcases b3 with ⟨e, e1, e2⟩ | ⟨e1, e2, e3⟩
    · exact .inl ⟨e, e1, L0 _ _ e2⟩
    · exact absurd e2 (no q)
  · obtain ⟨b1, b2, b3⟩ := a3 e
    clear a0 a1 a2 a3
    have g := fy q b1
    rw [g 33 (by omega) (by omega), g 38 (by omega) (by omega), g 39 (by omega) (by omega)]
    refine ⟨by omega, b2, ?_⟩
    rcases b3 with ⟨m, e1, e2⟩ | ⟨e1, e2⟩
    · exact .inl ⟨m, e1, L0 _ _ e2⟩
    · refine .inr ⟨e1, ?_⟩
      rcases e2 with ⟨e, u1, u2⟩ | ⟨u1, u2, u3, u4⟩
      · exact .inl ⟨e, u1, L0 _ _ u2⟩
      · exact absurd u3 (no q)
/-- a body is done -/
theorem xBtw_of {A : Nat → Nat → Int → Prop} {hc hr : xI} {φ : Nat → Nat} {f v : Nat} (K : xCK hc hr φ 0 f v) (I : xGI A hc hr φ 0 f v) : xBtw A hc hr (f + 1) v := by
  obtain ⟨i1, i2, -, i3⟩ := I
  obtain ⟨k1, k2, k3, k4, k5, k6, k7, k8, k9, k10, k11, k12, k13, k14, k15, k16, k17, k18, k19, k20, k21⟩ := K
  refine ⟨(k21 rfl).symm, by omega, k20, fun f' hf => ?_, fun f' p h a => ?_⟩
  · by_cases e : f' < f
    · exact i1 f' e
    · have : f' = f := by omega
      subst this
      obtain ⟨s, s1, s2⟩ := i2
      refine ⟨s, s1, ?_⟩
      rcases s2 with s2 | ⟨a1, a2, a3, -⟩
      · exact s2
      · omega
  · obtain ⟨q1, q2, q3, q4, q5, q6, q7⟩ := i3 f' p h a
    refine ⟨q1, by omega, q3, q4, q5, q6, ?_⟩
    refine xCnd_mono (v := v) (Int.le_refl _) (xFrm.refl hc hr) (fun y hy => ⟨rfl, rfl, rfl, rfl, Iff.rfl, Iff.rfl, fun _ => rfl⟩) (fun p hp => ⟨rfl, rfl⟩) (fun b hb => rfl) (fun b hb => rfl) (fun y hy hk => ?_) q1 q6 (fun t q h a => xLG_closed (Int.le_refl _) (fun y hy k a b => rfl) a) q7
    obtain ⟨⟨b, b1, b2, -⟩, -⟩ := k20 y hy hk
    exact ⟨b, b1, by omega⟩
/-- all bodies are done -/
theorem xKC_btw {A : Nat → Nat → Int → Prop} {hc hr : xI} {f v : Nat} (B : xBtw A hc hr f v) (hN : (hr 27 11).toInt ≤ 250) (hf : (f : Int) = (hr 27 4).toInt) : xKC A hc hr := by
  obtain ⟨b1, b2, fr, i1, i3⟩ := B
  have L0 : ∀ f' q h, xL0 A hr id 0 f v f' q h → A f' q h := by
    intro f' q h a
    rcases a with a | ⟨a1, a2, a3, a4, a5⟩
    · exact a
    · omega
  have no : ∀ q, ¬ xOpn hr id 0 q := by
    intro q c
    obtain ⟨i, h1, h2, -⟩ := c
    omega
  refine ⟨fun f' hf' => i1 f' (by omega), fun f' p h a => ?_⟩
  obtain ⟨q1, q2, q3, q4, q5, q6, q7⟩ := i3 f' p h a
  refine ⟨by omega, q3, q4, q5, ?_⟩
  refine xCnd_mono (v := v) hN (xFrm.refl hc hr) (fun y hy => ⟨rfl, rfl, rfl, rfl, Iff.rfl, Iff.rfl, fun _ => rfl⟩) (fun p hp => ⟨rfl, rfl⟩) (fun b hb => rfl) (fun b hb => rfl) (fun y hy hk => ?_) q1 q6 ?_ q7
  · obtain ⟨⟨b, b1, b2, -⟩, -⟩ := fr y hy hk
    exact ⟨b, b1, by omega⟩
  · intro t q h a
    obtain ⟨a4, a0, a1, a2, a3⟩ := a
    match t with
    | 0 => exact L0 _ _ _ (a0 rfl)
    | 1 =>
      obtain ⟨b1, b2, b3⟩ := a1 rfl
      obtain ⟨⟨b, w1, w2, w3, w4, w5, w6, w7, w8, w9, w10, w11⟩, -⟩ := fr q b1 b2
      rcases b3 with ⟨e, e1, e2⟩ | ⟨e1, e2, e3⟩
      · exact ⟨b, e, w1, e1, w10 (by clear a0 a1 a2 a3; omega), L0 _ _ _ e2⟩
      · exact absurd e2 (no q)
    | 2 =>
      obtain ⟨b1, b2, b4, b3⟩ := a2 rfl
      obtain ⟨⟨b, w1, w2, w3, w4, w5, w6, w7, w8, w9, w10, w11⟩, -⟩ := fr q b1 b2
      rcases w11 with ⟨w11, -⟩ | ⟨-, m, w11, w12, w13, w14, w15⟩
      · rw [w11] at b4
        exact absurd b4 (by decide)
      · rcases b3 with ⟨e, e1, e2⟩ | ⟨e1, e2, e3⟩
        · exact ⟨m, e, w11, e1, w15 (by clear a0 a1 a2 a3; omega), L0 _ _ _ e2⟩
        · exact absurd e2 (no q)
    | 3 =>
      obtain ⟨b1, b2, b3⟩ := a3 rfl
      obtain ⟨⟨b, w1, w2, w3, w4, w5, w6, w7, w8, w9, w10, w11⟩, -⟩ := fr q b1 b2
      refine ⟨b, w1, w9, ?_⟩
      rcases b3 with ⟨m, e1, e2⟩ | ⟨e1, e2⟩
      · exact .inl ⟨m, e1, L0 _ _ _ e2⟩
      · refine .inr ⟨e1, ?_⟩
        rcases e2 with ⟨e, u1, u2⟩ | ⟨u1, u2, u3, u4⟩
        · exact ⟨e, u1, w10 (by clear a0 a1 a2 a3; omega), L0 _ _ _ u2⟩
        · exact absurd u3 (no q)
    | t + 4 => omega
/-- a body, from its beginning -/
theorem xfunction {A : Nat → Nat → Int → Prop} {hc hr : xI} {f v : Nat} {F : Int32} (R : RB hc hr) (B : xBtw A hc hr f v) (e1 : hc 13 9 = 0) (e2 : hr 27 25 = 0) (hF : F.toInt = f) (hff : (f : Int) < (hr 27 4).toInt) : xDone hc hr f F (f_k_checkBody F hc) (f_m_checkFunction F hr) := by
  obtain ⟨b1, b2, b3, b4, b5⟩ := B
  have fb := R.fnsB
  have eb := R.fromB (f + 1) (by omega)
  have sb := R.fromB f (by omega)
  have rs := R.rise f hff
  obtain ⟨N, hN⟩ : ∃ N : Nat, (hr 27 11).toInt = N := ⟨(hr 27 11).toInt.toNat, by omega⟩
  have gF6 : ∀ {α : Type} (x : Option α), xgd F 6 x = x := fun x => xgd_ok (by omega) (by omega)
  have gF7 : ∀ {α : Type} (x : Option α), xgd F 7 x = x := fun x => xgd_ok (by omega) (by omega)
  -- the class
  have bs : f_c_bodyStart F (xput hc 13 10 F) = some (hr 29 f) := by
    have q := R.bodyStart F (by omega) (by omega)
    rw [hF] at q
    unfold f_c_bodyStart at q ⊢
    rw [xput_off (show (3 : Nat) ≠ 13 by omega)]
    exact q
  obtain ⟨h6, hh6⟩ : ∃ h6 : xI, h6 = xput (xput (xput (xput (xput (xput (xput (xput (xput (xput (xput hc 13 10 F) 13 11 (hr 29 f)) 13 8 (hr 29 (f + 1))) 13 6 0) 13 7 0) 14 0 (-1)) 15 0 (hr 32 f)) 16 0 0) 17 0 1) 18 0 (-1)) 13 6 1 := ⟨_, rfl⟩
  have kb : f_k_checkBody F hc = f_k_checkBody_65 1000 (hr 29 (f + 1) - hr 29 f) h6 := by
    unfold f_k_checkBody
    rw [bs, Option.bind_some, gF6, gF6, xi_cl hF, R.ress, R.ends]
    have op : f_k_openFrame (-1) (hr 32 f) (-1) (xput (xput (xput (xput (xput hc 13 10 F) 13 11 (hr 29 f)) 13 8 (hr 29 (f + 1))) 13 6 0) 13 7 0) = some h6 := by
      unfold f_k_openFrame
      have z6 : xput (xput (xput (xput (xput hc 13 10 F) 13 11 (hr 29 f)) 13 8 (hr 29 (f + 1))) 13 6 0) 13 7 0 13 6 = 0 := by simp [xput_at]
      have z7 : xput (xput (xput (xput (xput hc 13 10 F) 13 11 (hr 29 f)) 13 8 (hr 29 (f + 1))) 13 6 0) 13 7 0 13 7 = 0 := by simp [xput_at]
      have g0 : ∀ {α : Type} (x : Option α), xgd (0 : Int32) 9 x = x := fun x => xgd_ok (by decide) (by decide)
      have n0 : (0 : Int32).toNatClampNeg = 0 := rfl
      have p1 : (0 : Int32) + 1 = 1 := rfl
      rw [z6, z7, if_neg (by decide), g0, g0, g0, g0, g0, if_pos rfl, n0, xb1, p1, hh6]
    rw [op, Option.bind_some]
    have q8 : h6 13 8 = hr 29 (f + 1) := by rw [hh6]; simp [xput_at]
    have q11 : h6 13 11 = hr 29 f := by rw [hh6]; simp [xput_at]
    rw [q8, q11]
  -- the reference
  obtain ⟨X, hX⟩ : ∃ X : xI, X = xput (xput hr 27 23 0) 27 22 (-1) := ⟨_, rfl⟩
  have X27 : ∀ j, X 27 j = if j = 22 then -1 else if j = 23 then 0 else hr 27 j := fun j => by rw [hX, xput_at, if_pos rfl, xput_at, if_pos rfl]
  have Xo : ∀ k, k ≠ 27 → X k = hr k := fun k a => by rw [hX, xput_off a, xput_off a]
  have x23 : X 27 23 = 0 := by rw [X27]; simp
  have x11 : X 27 11 = hr 27 11 := by rw [X27]; simp
  have x22 : X 27 22 = -1 := by rw [X27]; simp
  have xs : xput (xput (xput hr 27 24 0) 27 23 0) 27 22 (-1) = xZr X 0 0 := by
    have i : xput hr 27 24 0 = xZr hr 0 0 := by
      have := xZr_id (hr := xput hr 27 24 0) (V := 0) (E := 0) (by simp [xput_at]) (by simp only [xput_at, Nat.reduceEqDiff, reduceIte]; exact e2)
      rw [← this]
      unfold xZr
      funext a c
      simp only [xput_at]
      by_cases x : a = 27
      · simp only [if_pos x]
        by_cases y : c = 25
        · rw [if_pos y, if_pos y]
        · rw [if_neg y, if_neg y]
          by_cases w : c = 24
          · rw [if_pos w, if_pos w]
          · rw [if_neg w, if_neg w]
      · simp only [if_neg x]
    rw [i, xZr_put _ _ _ _ (.inr ⟨by omega, by omega⟩), xZr_put _ _ _ _ (.inr ⟨by omega, by omega⟩), hX]
  obtain ⟨h7, hh7⟩ : ∃ h7 : xI, h7 = xput hc 13 6 0 := ⟨_, rfl⟩
  have oo := ((xopen (hc := h7) (hr := X) (d := 0) (v := v) (N := N) 0 0 0 (hr 32 f) (hr 29 f) (hr 29 f) (by rw [hh7, x23]; simp [xput_at]) (by rw [x23]; rfl) (by omega) (by rw [x11]; exact hN) (by omega) b1 b1 (by omega)).1 (by omega)).2
  have mb : f_m_checkFunction F hr = f_m_checkFunction_36 1000 F (hr 29 f) (xOr X 0 0 N v 0 (hr 32 f) (hr 29 f)) := by
    unfold f_m_checkFunction
    rw [gF7, gF6, xi_cl hF, xs, oo, Option.bind_some]
  have rr := xOr_r X 0 0 N v 0 (hr 32 f) (hr 29 f)
  have r27 := xOr_27 X 0 0 N v 0 (hr 32 f) (hr 29 f)
  simp only [Xo 33 (by omega), Xo 34 (by omega), Xo 35 (by omega), Xo 36 (by omega), Xo 37 (by omega), Xo 38 (by omega), Xo 39 (by omega), Xo 40 (by omega), Xo 42 (by omega), x11, x22, x23] at rr r27
  have ro : ∀ k, k ≠ 27 → ¬ (33 ≤ k ∧ k ≤ 40) → k ≠ 42 → xOr X 0 0 N v 0 (hr 32 f) (hr 29 f) k = hr k := fun k a b c => by rw [xOr_o _ _ _ _ _ _ _ _ a b c, Xo k a]
  rw [kb, mb]
  generalize xOr X 0 0 N v 0 (hr 32 f) (hr 29 f) = hr2 at rr r27 ro ⊢
  have rm : ∀ j, j ≠ 11 → j ≠ 22 → j ≠ 23 → j ≠ 24 → j ≠ 25 → hr2 27 j = hr 27 j := fun j a1 a2 a3 a4 a5 => by
    rw [r27, if_neg a3, if_neg a2, if_neg a1, if_neg a4, if_neg a5, X27, if_neg a2, if_neg a3]
  have q11 : hr2 27 11 = hr 27 11 + 1 := by rw [r27]; simp
  have q22 : hr2 27 22 = hr 27 11 := by rw [r27]; simp
  have q23 : hr2 27 23 = 1 := by rw [r27]; simp
  have q24 : hr2 27 24 = 0 := by rw [r27]; simp
  have q25 : hr2 27 25 = 0 := by rw [r27]; simp
  have o1 : (1 : Int32).toInt = 1 := rfl
  have o0 : (0 : Int32).toInt = 0 := rfl
  have t11 : (hr2 27 11).toInt = (N : Int) + 1 := by rw [q11, xi_add (by omega) (by omega), hN, o1]
  have r29 := ro 29 (by omega) (by omega) (by omega)
  have r28 := ro 28 (by omega) (by omega) (by omega)
  have r32 := ro 32 (by omega) (by omega) (by omega)
  have r41 := ro 41 (by omega) (by omega) (by omega)
  have h13 : ∀ j, h6 13 j = if j = 6 then 1 else if j = 7 then 0 else if j = 8 then hr 29 (f + 1) else if j = 11 then hr 29 f else if j = 10 then F else hc 13 j := by
    intro j
    rw [hh6]
    simp only [xput_at, Nat.reduceEqDiff, reduceIte]
    by_cases a : j = 6
    · simp only [if_pos a]
    · by_cases b : j = 7
      · simp only [if_neg a, if_pos b]
      · simp only [if_neg a, if_neg b]
  have ho : ∀ k, k ≠ 13 → ¬ (14 ≤ k ∧ k ≤ 18) → h6 k = hc k := fun k a b => by
    rw [hh6, xput_off a, xput_off (by omega), xput_off (by omega), xput_off (by omega), xput_off (by omega), xput_off (by omega), xput_off a, xput_off a, xput_off a, xput_off a, xput_off a]
  have h14 : h6 14 0 = -1 ∧ h6 15 0 = hr 32 f ∧ h6 16 0 = 0 ∧ h6 17 0 = 1 ∧ h6 18 0 = -1 := by
    rw [hh6]
    simp only [xput_at, Nat.reduceEqDiff, reduceIte]
    exact ⟨trivial, trivial, trivial, trivial, trivial⟩
  clear hh6
  have FF : xFrm hc hr h6 hr2 := ⟨fun k a b => ho k (by omega) (by omega), fun k a b => ro k a (by omega) (by omega), fun j a1 a2 a3 a4 a5 => rm j a1 a2 a3 a4 a5⟩
  have same : ∀ y : Nat, (y : Int) < (hr 27 11).toInt → ∀ k, 33 ≤ k → k ≤ 40 → hr2 k y = hr k y := by
    intro y hy k a b
    obtain ⟨s1, s2, s3, s4, s5, s6, s7, s8, -⟩ := rr y
    have n : ¬ y = N := by omega
    rw [if_neg n] at s1 s2 s3 s4 s5 s6 s7 s8
    have : k = 33 ∨ k = 34 ∨ k = 35 ∨ k = 36 ∨ k = 37 ∨ k = 38 ∨ k = 39 ∨ k = 40 := by omega
    rcases this with e | e | e | e | e | e | e | e <;> subst e <;> assumption
  obtain ⟨n33, n34, n35, n36, n37, n38, n39, n40, -⟩ := rr N
  rw [if_pos rfl] at n33 n34 n35 n36 n37 n38 n39 n40
  have fb2 : ∀ y : Nat, (y : Int) < (hr 27 11).toInt → hr 33 y ≠ 0 → ∃ b : Nat, (hr 37 y).toInt = b ∧ b < v := by
    intro y hy hk
    obtain ⟨⟨b, w1, w2, -⟩, -⟩ := b3 y hy hk
    exact ⟨b, w1, by omega⟩
  have K0 : xCK h6 hr2 (fun _ => N) 1 f v := by
    refine ⟨by rw [q23]; rfl, by omega, by rw [h13, q23]; simp, by rw [h13, q24]; simp, by rw [q24]; decide, by rw [rm 4 (by omega) (by omega) (by omega) (by omega) (by omega)]; exact hff, by omega, by rw [r29]; omega, fun _ => by rw [q22]; exact hN, fun i hi => by rw [t11]; dsimp only; omega, fun i hi => by omega, fun _ => by rw [n35, q24]; exact Int.le_refl _, fun _ => n35, fun i hi => ?_, fun i hi => ?_, fun i hi => ?_, fun _ => ⟨h14.1, h14.2.2.2.2, n33, by rw [n34, r32]⟩, fun i a b => by omega, fun i hi => n39, fun y hy hk => ?_, fun e => by omega⟩
    · have : i = 0 := by omega
      subst this
      rw [h14.2.1, n34]
      exact ⟨rfl, R.ressB f⟩
    · have : i = 0 := by omega
      subst this
      rw [h14.2.2.1, n35]
    · have : i = 0 := by omega
      subst this
      rw [h14.2.2.2.1, n40]
    · by_cases c : y = N
      · subst c
        exact absurd n33 hk
      · have hy' : (y : Int) < (hr 27 11).toInt := by omega
        have g := same y hy'
        have g33 := g 33 (by omega) (by omega)
        have g34 := g 34 (by omega) (by omega)
        have g35 := g 35 (by omega) (by omega)
        have g37 := g 37 (by omega) (by omega)
        have g38 := g 38 (by omega) (by omega)
        have g39 := g 39 (by omega) (by omega)
        rw [g33] at hk
        obtain ⟨⟨b, w1, w2, w3, w4, w5, w6, w7, w8, w9, w10, w11⟩, x1, x2⟩ := b3 y hy' hk
        rw [g34, g35]
        refine ⟨⟨b, by rw [g37]; exact w1, w2, w3, by rw [r28]; exact w4, by rw [r28, g33]; exact w5, by rw [r28, g34]; exact w6, by rw [ho 9 (by omega) (by omega), g35]; exact w7, by rw [(rr b).2.2.2.2.2.2.2.2, if_neg (by omega)]; exact w8, by rw [ho 8 (by omega) (by omega), g38]; exact w9, by rw [g39, ho 7 (by omega) (by omega)]; exact w10, ?_⟩, x1, x2⟩
        rw [g38, g33, r28, g39, r41, ho 7 (by omega) (by omega)]
        exact w11
  have I0 : xGI A h6 hr2 (fun _ => N) 1 f v := by
    refine ⟨fun f' hf => ?_, ⟨v, by rw [r29]; exact b1, .inr ⟨rfl, rfl, by omega, fun i hi => by rw [n40]; decide, by rw [q24]; rfl⟩⟩, fun i a b => by omega, fun f' p h a => ?_⟩
    · rw [r29]; exact b4 f' hf
    · obtain ⟨q1, q2, q3, q4, q5, q6, q7⟩ := b5 f' p h a
      rw [r29, r28]
      refine ⟨q1, by omega, q3, q4, q5, q6, ?_⟩
      refine xCnd_mono (v := v) (by omega) FF (fun y hy => ?_) (fun p hp => ⟨by rw [r41], by rw [(rr p).2.2.2.2.2.2.2.2, if_neg (by omega)]⟩) (fun b hb => by rw [ho 9 (by omega) (by omega)]) (fun b hb => by rw [ho 10 (by omega) (by omega)]) fb2 q1 q6 (fun t q h a => xLG_closed (by omega) (fun y hy k a b => same y hy k a (by omega)) a) q7
      have g := same y hy
      rw [g 33 (by omega) (by omega)]
      exact ⟨g 34 (by omega) (by omega), g 35 (by omega) (by omega), g 36 (by omega) (by omega), g 37 (by omega) (by omega), Iff.rfl, Iff.rfl, fun _ => g 38 (by omega) (by omega)⟩
  have dl : (hr 29 (f + 1) - hr 29 f).toInt = (hr 29 (f + 1)).toInt - v := by rw [xi_sub (by omega) (by omega), b1]
  obtain ⟨hc', hr', r, y1, y2, y3, y4, y5, y6⟩ := xbody hF 1000 v h6 hr2 A (fun _ => N) 1 (hr 29 (f + 1) - hr 29 f) (hr 29 f) (R.frm FF) K0 I0 (by rw [h13]; simp; exact e1) q25 (by rw [h13]; simp) (by rw [h13]; simp; exact b1) (by rw [h13, r29]; simp) b1 (by rw [r29]; omega) (by rw [r29, dl]; exact Int.le_refl _) (by rw [dl]; omega) (by rw [dl]; omega)
  rw [r29] at y6
  exact ⟨hc', hr', r, y1, y2, FF.trans y3, y4, y5, y6⟩
