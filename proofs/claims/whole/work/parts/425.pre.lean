/-! Before an instruction is typed. -/
def xLen (hr : xI) (v : Nat) : Nat := if hr 28 v = 14 then 3 + (hr 28 (v + 1)).toInt.toNat else 1 + (f_m_immediates (hr 28 v)).toInt.toNat
def xPre (A : Nat → Nat → Int → Prop) (hc hr : xI) (φ : Nat → Nat) (d f v : Nat) : Prop :=
  RB hc hr ∧ xCK hc hr φ d f v ∧ xGI A hc hr φ d f v ∧ 0 < d ∧ (v : Int) < (hr 29 (f + 1)).toInt ∧ hc 13 9 = 0 ∧ hr 27 25 = 0 ∧ (hc 13 10).toInt = f ∧ (hc 13 11).toInt = v ∧ hc 13 8 = hr 29 (f + 1) ∧ xWd hr f v ∧
  (hr 28 v = 12 ∨ hr 28 v = 13 → xLab hc hc hr d (v + 1)) ∧ (hr 28 v = 14 → ∀ i : Nat, (i : Int) ≤ (hr 28 (v + 1)).toInt → xLab hc hc hr d (v + 2 + i))
/-- after it -/
def xIt (hc hr : xI) (f v : Nat) (a b : Option xI) : Prop :=
  ∃ hc2 hr2, a = some hc2 ∧ b = some hr2 ∧ xFrm hc hr hc2 hr2 ∧ hc2 13 9 = hr2 27 25 ∧ 0 ≤ (hr2 27 25).toInt ∧ (∀ j, j = 8 ∨ j = 10 ∨ j = 11 → hc2 13 j = hc 13 j) ∧
    (hr2 27 25 = 0 → ∃ (A' : Nat → Nat → Int → Prop) (φ' : Nat → Nat) (d' : Nat), xCK hc2 hr2 φ' d' f (v + xLen hr v) ∧ xGI A' hc2 hr2 φ' d' f (v + xLen hr v))
theorem xlen_le {hr : xI} {f v : Nat} (W : xWd hr f v) (hv : (v : Int) < (hr 29 (f + 1)).toInt) : ((v + xLen hr v : Nat) : Int) ≤ (hr 29 (f + 1)).toInt ∧ v < v + xLen hr v := by
  unfold xLen
  obtain ⟨w1, w2, w3, w4, -⟩ := W
  by_cases h : hr 28 v = 14
  · rw [if_pos h]
    have := w4 h
    omega
  · rw [if_neg h]
    rcases ximm01 (hr 28 v) with e | e
    · rw [e]
      have : (0 : Int32).toInt.toNat = 0 := rfl
      omega
    · rw [e]
      have : (1 : Int32).toInt.toNat = 1 := rfl
      have := w2 (fun c => by
        have q := (xops (hr 28 v)).2
        rw [if_pos (.inl c)] at q
        rw [q] at e
        exact absurd e (by decide))
      omega
theorem xCK.mono {hc hr : xI} {φ : Nat → Nat} {d f v : Nat} (K : xCK hc hr φ d f v) : ∀ (n i : Nat), i + n < d → φ i ≤ φ (i + n) ∧ (0 < n → φ i < φ (i + n)) ∧ (hr 35 (φ i)).toInt ≤ (hr 35 (φ (i + n))).toInt := by
  have ch := K.2.2.2.2.2.2.2.2.2.2.1
  intro n
  induction n with
  | zero => intro i _; exact ⟨Nat.le_refl _, fun h => absurd h (by omega), Int.le_refl _⟩
  | succ n ih =>
    intro i h
    obtain ⟨a1, a2, a3⟩ := ih i (by omega)
    obtain ⟨b1, b2, b3⟩ := ch (i + n) (by omega)
    rw [show i + (n + 1) = i + n + 1 by omega]
    exact ⟨by omega, fun _ => by omega, by omega⟩
theorem xCK.inj {hc hr : xI} {φ : Nat → Nat} {d f v : Nat} (K : xCK hc hr φ d f v) {i j : Nat} (hi : i < d) (hj : j < d) (e : φ i = φ j) : i = j := by
  by_cases a : i < j
  · have := (K.mono (j - i) i (by omega)).2.1 (by omega)
    rw [show i + (j - i) = j by omega] at this
    omega
  · by_cases b : j < i
    · have := (K.mono (i - j) j (by omega)).2.1 (by omega)
      rw [show j + (i - j) = i by omega] at this
      omega
    · omega
theorem xCK.height {hc hr : xI} {φ : Nat → Nat} {d f v : Nat} (K : xCK hc hr φ d f v) {i : Nat} (hi : i < d) : 0 ≤ (hr 35 (φ i)).toInt ∧ (hr 35 (φ i)).toInt ≤ (hr 35 (φ (d - 1))).toInt ∧ (hr 35 (φ i)).toInt ≤ (hr 27 24).toInt := by
  have h0 := K.2.2.2.2.2.2.2.2.2.2.2.2.1 (by omega)
  have ht := K.2.2.2.2.2.2.2.2.2.2.2.1 (by omega)
  have a := (K.mono i 0 (by omega)).2.2
  have b := (K.mono (d - 1 - i) i (by omega)).2.2
  rw [show 0 + i = i by omega] at a
  rw [show i + (d - 1 - i) = d - 1 by omega] at b
  have z : (0 : Int32).toInt = 0 := rfl
  rw [h0] at a
  omega
theorem xPre.bounds {A : Nat → Nat → Int → Prop} {hc hr : xI} {φ : Nat → Nat} {d f v : Nat} (P : xPre A hc hr φ d f v) : v < 240 ∧ f < 6 ∧ (hr 29 (f + 1)).toInt ≤ 240 ∧ (hr 27 11).toInt ≤ (v : Int) + f + 1 ∧ (hr 27 11).toInt ≤ 246 ∧ ∀ i, i < d → φ i < 250 := by
  obtain ⟨R, K, I, hd, hv, e1, e2, fn, pl, be, W, l1, l2⟩ := P
  have fb := R.fnsB
  have ff := K.2.2.2.2.2.1
  have nb := K.2.2.2.2.2.2.1
  have eb := R.fromB (f + 1) (by omega)
  have ph := K.2.2.2.2.2.2.2.2.2.1
  refine ⟨by omega, by omega, eb.2, nb.2, by omega, fun i hi => ?_⟩
  have := ph i hi
  omega
theorem xPre.top {A : Nat → Nat → Int → Prop} {hc hr : xI} {φ : Nat → Nat} {d f v : Nat} (P : xPre A hc hr φ d f v) : xTop hc (xput hr 41 v (hr 27 22)) d (φ (d - 1)) := by
  have b := P.bounds
  obtain ⟨R, K, I, hd, hv, e1, e2, fn, pl, be, W, l1, l2⟩ := P
  have h := K.height (i := d - 1) (by omega)
  obtain ⟨k1, k2, k3, k4, k5, k6, k7, k8, k9, k10, k11, k12, k13, k14, k15, k16, k17, k18, k19, k20, k21⟩ := K
  unfold xTop
  simp only [xput_at, Nat.reduceEqDiff, reduceIte]
  exact ⟨k3, k1, by omega, k2, k9 hd, b.2.2.2.2.2 _ (by omega), k15 _ (by omega), k16 _ (by omega), h.1, by omega⟩
/-- only values, reached and the notes of the place have changed -/
theorem xCK.same {hc hr hc' hr' : xI} {φ : Nat → Nat} {d f v v' : Nat} (K : xCK hc hr φ d f v) (hd : 0 < d) (c79 : ∀ k, 7 ≤ k ∧ k ≤ 9 → hc' k = hc k) (c14 : ∀ k, k = 14 ∨ k = 15 ∨ k = 16 ∨ k = 18 → hc' k = hc k) (c136 : hc' 13 6 = hc 13 6) (m : ∀ j, j = 4 ∨ j = 11 ∨ j = 22 ∨ j = 23 → hr' 27 j = hr 27 j) (r : ∀ k, (28 ≤ k ∧ k ≤ 39) ∨ k = 42 → hr' k = hr k) (r41 : ∀ b, b < v → hr' 41 b = hr 41 b) (re : ∀ i, i < d → hc' 17 i = hr' 40 (φ i)) (vv : hc' 13 7 = hr' 27 24) (v20 : (hr' 27 24).toInt ≤ 20) (vh : (hr 35 (φ (d - 1))).toInt ≤ (hr' 27 24).toInt) (hv : v ≤ v') (hv' : (v' : Int) ≤ (hr 29 (f + 1)).toInt) : xCK hc' hr' φ d f v' := by
  have h := K.height (i := d - 1) (by omega)
  obtain ⟨k1, k2, k3, k4, k5, k6, k7, k8, k9, k10, k11, k12, k13, k14, k15, k16, k17, k18, k19, k20, k21⟩ := K
  have m4 := m 4 (by omega)
  have m11 := m 11 (by omega)
  have m22 := m 22 (by omega)
  have m23 := m 23 (by omega)
  have r28 := r 28 (by omega)
  have r29 := r 29 (by omega)
  have r32 := r 32 (by omega)
  have r33 := r 33 (by omega)
  have r34 := r 34 (by omega)
  have r35 := r 35 (by omega)
  have r36 := r 36 (by omega)
  have r37 := r 37 (by omega)
  have r38 := r 38 (by omega)
  have r39 := r 39 (by omega)
  have r42 := r 42 (by omega)
  have c7 := c79 7 (by omega)
  have c8 := c79 8 (by omega)
  have c9 := c79 9 (by omega)
  have c14' := c14 14 (by omega)
  have c15 := c14 15 (by omega)
  have c16 := c14 16 (by omega)
  have c18 := c14 18 (by omega)
  unfold xCK
  rw [m4, m11, m22, m23, r29, r32, r33, r34, r35, r36, r37, r39, c136, c14', c15, c16, c18]
  refine ⟨k1, k2, k3, vv, by omega, k6, by omega, by omega, k9, k10, k11, fun _ => vh, k13, k14, k15, re, k17, k18, k19, fun y hy hk => ?_, fun e => by omega⟩
  obtain ⟨q1, q2⟩ := k20 y hy hk
  refine ⟨?_, q2⟩
  obtain ⟨b, w1, w2, w3, w4, w5, w6, w7, w8, w9, w10, w11⟩ := q1
  unfold xFr
  rw [r28, r33, r34, r35, r37, r38, r39, r42, c7, c8, c9]
  refine ⟨b, w1, by omega, w3, w4, w5, w6, w7, w8, w9, w10, ?_⟩
  rcases w11 with w11 | ⟨u0, m', u1, u2, u3, u4, u5⟩
  · exact .inl w11
  · exact .inr ⟨u0, m', u1, by omega, u3, by rw [r41 m' u2]; exact u4, u5⟩
/-- the reference reads the immediate, notes where it is -/
theorem xmcheck {A : Nat → Nat → Int → Prop} {hc hr : xI} {φ : Nat → Nat} {d f v : Nat} (P : xPre A hc hr φ d f v) {F V3 : Int32} (hV : V3.toInt = v) : f_m_check F V3 hr = (if hr 28 v = 4 then (f_m_pop 1 (xput hr 41 v (hr 27 22))).bind fun q3 => f_m_check_48 F V3 (hr 28 v) (if f_m_immediates (hr 28 v) ≤ 0 then 0 else hr 28 (v + 1)) q3 else f_m_check_48 F V3 (hr 28 v) (if f_m_immediates (hr 28 v) ≤ 0 then 0 else hr 28 (v + 1)) (xput hr 41 v (hr 27 22))) := by
  have b := P.bounds
  obtain ⟨R, K, I, hd, hv, e1, e2, fn, pl, be, W, l1, l2⟩ := P
  have gV : ∀ {α : Type} (x : Option α), xgd V3 240 x = x := fun x => xgd_ok (by omega) (by omega)
  unfold f_m_check f_m_check_26
  rw [gV, gV, gV, xi_cl hV]
  by_cases z : f_m_immediates (hr 28 v) ≤ 0
  · rw [if_pos z, if_pos z]
  · rw [if_neg z, if_neg z]
    have q := xwd_imm W (fun e => z (by rw [e]; decide))
    obtain ⟨V1, V2⟩ := xi_cl1 hV (by omega)
    rw [xgd_ok (by omega) (by omega), V2]
/-- the immediate word -/
theorem xkimm {A : Nat → Nat → Int → Prop} {hc hr : xI} {φ : Nat → Nat} {d f v : Nat} (P : xPre A hc hr φ d f v) (h : hc 13 11 = hc 13 11) (hi : f_m_immediates (hr 28 v) ≠ 0) (hx : xI) (hx13 : hx 13 11 = hc 13 11) (hx2 : hx 2 = hc 2) : f_k_immediate hx = some (hr 28 (v + 1)) := by
  have b := P.bounds
  obtain ⟨R, K, I, hd, hv, e1, e2, fn, pl, be, W, l1, l2⟩ := P
  have q := xwd_imm W hi
  obtain ⟨P1, P2⟩ := xi_cl1 pl (by omega)
  unfold f_k_immediate
  rw [hx13, xgd_ok (by omega) (by omega), P2, hx2, R.words]
