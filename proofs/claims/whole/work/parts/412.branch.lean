/-! Branches. -/
theorem xouter {hr : xI} {x l y : Nat} (O : xOuts hr 250 x l y) (hl : l < 9) {X L : Int32} (hX : X.toInt = x) (hL : L.toInt = l) : ∃ Y, f_m_outer X L hr = some Y ∧ Y.toInt = y := by
  obtain ⟨g, g0, gl, gb, gs⟩ := O
  have e10 : (10 : Int32).toInt = 10 := rfl
  have e1 : (1 : Int32).toInt = 1 := rfl
  have loop : ∀ (d i n : Nat) (V : Int32), i + d = l → V.toInt = g i → d < n → ∃ Y, f_m_outer_5 n L V (Int32.ofNat i) hr = some Y ∧ Y.toInt = y := by
    intro d
    induction d with
    | zero =>
      intro i n V hi hV hn
      obtain ⟨n, rfl⟩ : ∃ m, n = m + 1 := ⟨n - 1, by omega⟩
      have ei : (Int32.ofNat i).toInt = i := xi_ofNat (by omega)
      have e : i = l := by omega
      unfold f_m_outer_5
      rw [if_pos (by rw [xi_le]; omega)]
      exact ⟨V, rfl, by rw [hV, e, gl]⟩
    | succ d ih =>
      intro i n V hi hV hn
      obtain ⟨n, rfl⟩ : ∃ m, n = m + 1 := ⟨n - 1, by omega⟩
      have ei : (Int32.ofNat i).toInt = i := xi_ofNat (by omega)
      have b := gb i (by omega)
      have es : Int32.ofNat i + 1 = Int32.ofNat (i + 1) := by
        rw [xi_eq, xi_add (by omega) (by omega), ei, xi_ofNat (by omega), e1]
        omega
      unfold f_m_outer_5
      rw [if_neg (by rw [xi_le]; omega), if_neg (by rw [xi_le]; omega), xgd_ok (by omega) (by omega), xi_cl hV, es]
      exact ih (i + 1) n _ (by omega) (gs i (by omega)) (by omega)
  exact loop l 0 1000 X (by omega) (by rw [hX, g0]) (by omega)
theorem xbranch {A : Nat → Nat → Int → Prop} {hc hr : xI} {c f p lp : Nat} (M : xMid A hc hr c f) (hp : (hr 27 32).toInt = p) (hpb : p < 240) {LP : Int32} (hlp : LP.toInt = lp) (lpb : lp < 240) (b : xBr hc hr 250 (xKG A hc hr f) f p lp ((hr 27 33).toInt - (hr 49 c).toInt)) : xEnd A (f_h_branch LP hc) (f_m_branch (hr 28 lp) hr) := by
  obtain ⟨x, l, y, b1, b2, b3, b4, b5, b6, b7⟩ := b
  have yb : (y : Int) < 250 := by
    obtain ⟨g, g0, gl, gb, gs⟩ := b4
    have := gb l (Nat.le_refl l)
    rw [gl] at this
    exact this
  obtain ⟨Y, o1, o2⟩ := xouter b4 b3 b1 b2
  have yn : Y.toNatClampNeg = y := xi_cl o2
  have gY : ∀ {α : Type} (x : Option α), xgd Y 250 x = x := fun x => xgd_ok (by omega) (by omega)
  have gP : ∀ {α : Type} (x : Option α), xgd (hr 27 32) 240 x = x := fun x => xgd_ok (by omega) (by omega)
  have gL : ∀ {α : Type} (x : Option α), xgd LP 240 x = x := fun x => xgd_ok (by omega) (by omega)
  have ln : LP.toNatClampNeg = lp := xi_cl hlp
  have mb : f_m_branch (hr 28 lp) hr = if hr 33 y = 0 then f_m_comeBack hr else (xgd ((hr 27 35) - (1 : Int32)) 6 ((f_m_takes Y hr).bind fun q8 => (f_m_fall ((hr 49 ((hr 27 35) - (1 : Int32)).toNatClampNeg) + (hr 35 y)) q8 hr).bind fun q9 => (if (q9 33 y) = (3 : Int32) then ((f_m_branch_86 ((q9 37 y) + (2 : Int32)) q9)) else (f_m_branch_86 ((q9 39 y) + (1 : Int32)) q9)))) := by
    unfold f_m_branch
    simp only [gP, xi_cl hp, o1, Option.bind_some, gY, yn, xbs]
  unfold f_h_branch
  rw [mb, gL, ln]
  rcases b7 with ⟨k1, k2, k3⟩ | ⟨k1, k2, k3, k4⟩
  · rw [if_pos k1, if_pos k2, xbp]
    exact xleave M k3
  · obtain ⟨q, w1, w2, w3, w4, w5⟩ := k3
    have M' := M
    obtain ⟨R, K, m1, m2, m3, m4, m5, m6, m7, m8, m9, m10, m11, m12, m13, m14, m15, m16, m17, m18⟩ := M'
    have e0 : (0 : Int32).toInt = 0 := rfl
    have e1 : (1 : Int32).toInt = 1 := rfl
    have e2 : (2 : Int32).toInt = 2 := rfl
    have em : (-1 : Int32).toInt = -1 := rfl
    have n1 : ¬ hr 37 y = -1 := by rw [xi_eq]; omega
    have qn : (hr 37 y).toNatClampNeg = q := xi_cl w1
    obtain ⟨j1, j2⟩ := xi_cl1 w1 (by omega)
    have gq : ∀ {α : Type} (x : Option α), xgd (hr 37 y) 240 x = x := fun x => xgd_ok (by omega) (by omega)
    have gq1 : ∀ {α : Type} (x : Option α), xgd (hr 37 y + 1) 240 x = x := fun x => xgd_ok (by omega) (by omega)
    have cm : (hr 27 35 - 1).toInt = c := by rw [xi_sub (by omega) (by omega), m2]; omega
    have cn : (hr 27 35 - 1).toNatClampNeg = c := xi_cl cm
    have g6 : ∀ {α : Type} (x : Option α), xgd (hr 27 35 - 1) 6 x = x := fun x => xgd_ok (by omega) (by omega)
    rw [if_neg k1, k2, if_neg n1, gq, qn, R.words]
    unfold f_h_branch_38 f_h_branch_80 f_h_branch_105 f_m_takes f_m_branch_86
    simp only [m4, g6, cn, gq, gq1, qn, j2, R.words, gY, yn, m10 c (Nat.le_refl c), w5]
    rcases k4 with ⟨z1, z2, b', z3, z4⟩ | ⟨z1, z2, z4⟩
    · have eb : b' = q := by omega
      subst eb
      have hs : (hr 49 c + hr 35 y).toInt = (hr 49 c).toInt + (hr 35 y).toInt := xi_add (by omega) (by omega)
      obtain ⟨h', r', f1, f2, f3, f4, f5, f6, f7, f8, f9, f10⟩ := xfall (hc := hc) (hr := hr) (hr 49 c + hr 35 y) 0 (.inl rfl) m5 (by omega) (by omega) m6 m7
      rw [if_pos (w3.mpr z1), if_pos z1, if_neg (by decide), Option.bind_some, f1, f2, Option.bind_some, Option.bind_some, if_neg (by decide), f5 33 (by omega) (by omega), if_pos z1, f5 37 (by omega) (by omega)]
      refine ⟨_, _, _, _, rfl, xheed0 _, rfl, ?_⟩
      have M2 : xMid A (xput h' 19 5 (hr 37 y + 2)) (xput r' 27 32 (hr 37 y + 2)) c f := by
        refine M.same ?_ ?_ ?_ ?_ ?_ ?_ ?_ ?_
        · intro k x1 x2; rw [xput_off x1]; exact f3 k x1 x2
        · intro j x1 x2; rw [xput_at, if_pos rfl, if_neg x2]; exact f4 j x1
        · intro k x1 x2; rw [xput_off x1]; exact f5 k x1 x2
        · intro j x1 x2 x3; rw [xput_at, if_pos rfl, if_neg x2]; exact f6 j x3
        · simp only [xput_at, Nat.reduceEqDiff, reduceIte]; rw [f7, f8]
        · simp only [xput_at, Nat.reduceEqDiff, reduceIte]; rw [f8, f9]; omega
        · simp only [xput_at, Nat.reduceEqDiff, reduceIte]; rw [f8, f9]; omega
        · intro j; simp only [xput_at, Nat.reduceEqDiff, reduceIte]; rw [f8]; exact f10 j
      obtain ⟨i1, i2⟩ := xi_cl2 w1 (by omega)
      refine M2.go (q := b' + 2) ?_ ?_ ?_
      · simp only [xput_at, Nat.reduceEqDiff, reduceIte]
      · simp only [xput_at, Nat.reduceEqDiff, reduceIte]; exact i1
      · simp only [xput_at, Nat.reduceEqDiff, reduceIte]
        rw [f5 49 (by omega) (by omega), f8, f9]
        have e : (hr 49 c + hr 35 y).toInt + (0 : Int32).toInt - (hr 49 c).toInt = (hr 35 y).toInt := by omega
        rw [e]
        exact z4
    · obtain ⟨b', e', v1, v2, v3, v4⟩ := z4
      have eb : b' = q := by omega
      subst eb
      have gk : (hr 34 y).toInt = 0 ∨ (hr 34 y).toInt = 1 := by
        rcases b5 with e | e
        · rw [e]; exact .inl rfl
        · rw [e]; exact .inr rfl
      have hs : (hr 49 c + hr 35 y).toInt = (hr 49 c).toInt + (hr 35 y).toInt := xi_add (by omega) (by omega)
      obtain ⟨h', r', f1, f2, f3, f4, f5, f6, f7, f8, f9, f10⟩ := xfall (hc := hc) (hr := hr) (hr 49 c + hr 35 y) (hr 34 y) b5 m5 (by omega) (by omega) m6 m7
      rw [if_neg (fun e => z1 (w3.mp e)), if_neg z1, if_pos trivial, w4, Option.bind_some, f1, f2, Option.bind_some, Option.bind_some, if_pos trivial, f5 33 (by omega) (by omega), if_neg z1, f5 39 (by omega) (by omega), f3 7 (by omega) (by omega), v3]
      have eB : (e' : Int) + 1 < 241 := by
        have := (K.2 f (e' + 1) _ v4).2.2.1
        have := (R.fromB (f + 1) (by omega)).2
        omega
      refine ⟨_, _, _, _, rfl, xheed0 _, rfl, ?_⟩
      have M2 : xMid A (xput h' 19 5 (hr 39 y + 1)) (xput r' 27 32 (hr 39 y + 1)) c f := by
        refine M.same ?_ ?_ ?_ ?_ ?_ ?_ ?_ ?_
        · intro k x1 x2; rw [xput_off x1]; exact f3 k x1 x2
        · intro j x1 x2; rw [xput_at, if_pos rfl, if_neg x2]; exact f4 j x1
        · intro k x1 x2; rw [xput_off x1]; exact f5 k x1 x2
        · intro j x1 x2 x3; rw [xput_at, if_pos rfl, if_neg x2]; exact f6 j x3
        · simp only [xput_at, Nat.reduceEqDiff, reduceIte]; rw [f7, f8]
        · simp only [xput_at, Nat.reduceEqDiff, reduceIte]; rw [f8, f9]; omega
        · simp only [xput_at, Nat.reduceEqDiff, reduceIte]; rw [f8, f9]; omega
        · intro j; simp only [xput_at, Nat.reduceEqDiff, reduceIte]; rw [f8]; exact f10 j
      obtain ⟨i1, i2⟩ := xi_cl1 v2 (by omega)
      refine M2.go (q := e' + 1) ?_ ?_ ?_
      · simp only [xput_at, Nat.reduceEqDiff, reduceIte]
      · simp only [xput_at, Nat.reduceEqDiff, reduceIte]; exact i1
      · simp only [xput_at, Nat.reduceEqDiff, reduceIte]
        rw [f5 49 (by omega) (by omega), f8, f9]
        have e : (hr 49 c + hr 35 y).toInt + (hr 34 y).toInt - (hr 49 c).toInt = (hr 35 y).toInt + (hr 34 y).toInt := by omega
        rw [e]
        exact v4
