/-! The check: what it changes, what it keeps. -/
def xFrm (hc hr hc' hr' : xI) : Prop := (∀ k, ¬ (7 ≤ k ∧ k ≤ 10) → ¬ (13 ≤ k ∧ k ≤ 18) → hc' k = hc k) ∧ (∀ k, k ≠ 27 → ¬ (33 ≤ k ∧ k ≤ 42) → hr' k = hr k) ∧ ∀ j, j ≠ 11 → j ≠ 22 → j ≠ 23 → j ≠ 24 → j ≠ 25 → hr' 27 j = hr 27 j
theorem xFrm.refl (hc hr : xI) : xFrm hc hr hc hr := ⟨fun _ _ _ => rfl, fun _ _ _ => rfl, fun _ _ _ _ _ _ => rfl⟩
theorem xFrm.trans {hc hr hc1 hr1 hc2 hr2 : xI} (a : xFrm hc hr hc1 hr1) (b : xFrm hc1 hr1 hc2 hr2) : xFrm hc hr hc2 hr2 :=
  ⟨fun k x y => (b.1 k x y).trans (a.1 k x y), fun k x y => (b.2.1 k x y).trans (a.2.1 k x y), fun j x y z u w => (b.2.2 j x y z u w).trans (a.2.2 j x y z u w)⟩
theorem RB.frm {hc hr hc' hr' : xI} (R : RB hc hr) (F : xFrm hc hr hc' hr') : RB hc' hr' := by
  obtain ⟨h1, h2, h3⟩ := F
  obtain ⟨r1, r2, r3, r4, r5, r6, r7, r8, r9, r10, r11, r12, r13, r14, r15, r16, r17, r18, r19, r20, r21, r22, r23, r24, r25, r26, r27, r28⟩ := R
  have c0 : hc' 0 = hc 0 := h1 0 (by omega) (by omega)
  have c1 : hc' 1 = hc 1 := h1 1 (by omega) (by omega)
  have c2 : hc' 2 = hc 2 := h1 2 (by omega) (by omega)
  have c3 : hc' 3 = hc 3 := h1 3 (by omega) (by omega)
  have c4 : hc' 4 = hc 4 := h1 4 (by omega) (by omega)
  have c5 : hc' 5 = hc 5 := h1 5 (by omega) (by omega)
  have c6 : hc' 6 = hc 6 := h1 6 (by omega) (by omega)
  have c11 : hc' 11 = hc 11 := h1 11 (by omega) (by omega)
  have c12 : hc' 12 = hc 12 := h1 12 (by omega) (by omega)
  have c19 : hc' 19 = hc 19 := h1 19 (by omega) (by omega)
  have c20 : hc' 20 = hc 20 := h1 20 (by omega) (by omega)
  have c26 : hc' 26 = hc 26 := h1 26 (by omega) (by omega)
  have m : ∀ j, j ≠ 11 → j ≠ 22 → j ≠ 23 → j ≠ 24 → j ≠ 25 → hr' 27 j = hr 27 j := h3
  have m1 := m 1 (by omega) (by omega) (by omega) (by omega) (by omega)
  have m2 := m 2 (by omega) (by omega) (by omega) (by omega) (by omega)
  have m4 := m 4 (by omega) (by omega) (by omega) (by omega) (by omega)
  have m9 := m 9 (by omega) (by omega) (by omega) (by omega) (by omega)
  have m10 := m 10 (by omega) (by omega) (by omega) (by omega) (by omega)
  have m27 := m 27 (by omega) (by omega) (by omega) (by omega) (by omega)
  have m29 := m 29 (by omega) (by omega) (by omega) (by omega) (by omega)
  have m31 := m 31 (by omega) (by omega) (by omega) (by omega) (by omega)
  have m40 := m 40 (by omega) (by omega) (by omega) (by omega) (by omega)
  have d28 : hr' 28 = hr 28 := h2 28 (by omega) (by omega)
  have d29 : hr' 29 = hr 29 := h2 29 (by omega) (by omega)
  have d30 : hr' 30 = hr 30 := h2 30 (by omega) (by omega)
  have d31 : hr' 31 = hr 31 := h2 31 (by omega) (by omega)
  have d32 : hr' 32 = hr 32 := h2 32 (by omega) (by omega)
  have d43 : hr' 43 = hr 43 := h2 43 (by omega) (by omega)
  have d44 : hr' 44 = hr 44 := h2 44 (by omega) (by omega)
  have d45 : hr' 45 = hr 45 := h2 45 (by omega) (by omega)
  refine ⟨?_, ?_, ?_, ?_, ?_, ?_, ?_, ?_, ?_, ?_, ?_, ?_, ?_, ?_, ?_, ?_, ?_, ?_, ?_, ?_, ?_, ?_, ?_, ?_, ?_, ?_, ?_, ?_⟩ <;> (try simp only [c0, c1, c2, c3, c4, c5, c6, c11, c12, c19, c20, c26, m1, m2, m4, m9, m10, m27, m29, m31, m40, d28, d29, d30, d31, d32, d43, d44, d45]) <;> assumption
/-- what the check has noted of a frame that is not a body -/
def xFr (hc hr : xI) (v y : Nat) : Prop :=
  ∃ b : Nat, (hr 37 y).toInt = b ∧ b + 2 ≤ v ∧ b + 1 < 240 ∧ (hr 28 b = 2 ∨ hr 28 b = 3 ∨ hr 28 b = 4) ∧ (hr 28 b = 3 ↔ hr 33 y = 3) ∧ hr 28 (b + 1) = hr 34 y ∧ hc 9 b = hr 35 y ∧ (hr 42 b).toInt = y ∧ hc 8 b = hr 38 y ∧ (0 ≤ (hr 39 y).toInt → hc 7 b = hr 39 y) ∧
    ((hr 38 y = -1 ∧ hr 33 y ≠ 5) ∨ (hr 33 y = 5 ∧ ∃ m : Nat, (hr 38 y).toInt = m ∧ m < v ∧ hr 28 m = 5 ∧ (hr 41 m).toInt = y ∧ (0 ≤ (hr 39 y).toInt → hc 7 m = hr 39 y)))
/-- the class's check beside the reference's, at a place v of function f, with d frames open -/
def xCK (hc hr : xI) (φ : Nat → Nat) (d f v : Nat) : Prop :=
  (hr 27 23).toInt = d ∧ d ≤ 9 ∧ hc 13 6 = hr 27 23 ∧ hc 13 7 = hr 27 24 ∧ (0 ≤ (hr 27 24).toInt ∧ (hr 27 24).toInt ≤ 20) ∧
  (f : Int) < (hr 27 4).toInt ∧
  (0 ≤ (hr 27 11).toInt ∧ (hr 27 11).toInt ≤ (v : Int) + f + 1) ∧
  ((hr 29 f).toInt ≤ v ∧ (v : Int) ≤ (hr 29 (f + 1)).toInt) ∧
  (0 < d → (hr 27 22).toInt = φ (d - 1)) ∧
  (∀ i, i < d → (φ i : Int) < (hr 27 11).toInt) ∧
  (∀ i, i + 1 < d → φ i < φ (i + 1) ∧ (hr 36 (φ (i + 1))).toInt = φ i ∧ (hr 35 (φ i)).toInt ≤ (hr 35 (φ (i + 1))).toInt) ∧
  (0 < d → (hr 35 (φ (d - 1))).toInt ≤ (hr 27 24).toInt) ∧
  (0 < d → hr 35 (φ 0) = 0) ∧
  (∀ i, i < d → hc 15 i = hr 34 (φ i) ∧ (hr 34 (φ i) = 0 ∨ hr 34 (φ i) = 1)) ∧
  (∀ i, i < d → hc 16 i = hr 35 (φ i)) ∧
  (∀ i, i < d → hc 17 i = hr 40 (φ i)) ∧
  (0 < d → hc 14 0 = -1 ∧ hc 18 0 = -1 ∧ hr 33 (φ 0) = 0 ∧ hr 34 (φ 0) = hr 32 f) ∧
  (∀ i, 0 < i → i < d → hc 14 i = hr 33 (φ i) ∧ hr 33 (φ i) ≠ 0 ∧ hc 18 i = hr 37 (φ i) ∧ hr 33 (φ i) ≠ -1) ∧
  (∀ i, i < d → hr 39 (φ i) = -1) ∧
  (∀ y : Nat, (y : Int) < (hr 27 11).toInt → hr 33 y ≠ 0 → xFr hc hr v y ∧ (hr 34 y = 0 ∨ hr 34 y = 1) ∧ 0 ≤ (hr 35 y).toInt) ∧
  (d = 0 → (v : Int) = (hr 29 (f + 1)).toInt)
/-- a frame that is open, all around it reached -/
def xOpn (hr : xI) (φ : Nat → Nat) (d q : Nat) : Prop := ∃ i, 0 < i ∧ i < d ∧ φ i = q ∧ ∀ j, j < i → hr 40 (φ j) ≠ 0
/-- the goals while the check is under way -/
def xL0 (A : Nat → Nat → Int → Prop) (hr : xI) (φ : Nat → Nat) (d f v f' q : Nat) (h : Int) : Prop :=
  A f' q h ∨ (f' = f ∧ q = v ∧ 0 < d ∧ (∀ i, i < d → hr 40 (φ i) ≠ 0) ∧ h = (hr 27 24).toInt)
def xLG (A : Nat → Nat → Int → Prop) (hr : xI) (φ : Nat → Nat) (d f v f' : Nat) (t q : Nat) (h : Int) : Prop :=
  t ≤ 3 ∧ (t = 0 → xL0 A hr φ d f v f' q h) ∧
  (t = 1 → (q : Int) < (hr 27 11).toInt ∧ hr 33 q ≠ 0 ∧ ((∃ e : Nat, (hr 39 q).toInt = e ∧ xL0 A hr φ d f v f' (e + 1) h) ∨ (f' = f ∧ xOpn hr φ d q ∧ h = (hr 35 q).toInt + (hr 34 q).toInt))) ∧
  (t = 2 → (q : Int) < (hr 27 11).toInt ∧ hr 33 q ≠ 0 ∧ 0 ≤ (hr 38 q).toInt ∧ ((∃ e : Nat, (hr 39 q).toInt = e ∧ xL0 A hr φ d f v f' e h) ∨ (f' = f ∧ xOpn hr φ d q ∧ h = (hr 35 q).toInt + (hr 34 q).toInt))) ∧
  (t = 3 → (q : Int) < (hr 27 11).toInt ∧ hr 33 q ≠ 0 ∧ ((∃ m : Nat, (hr 38 q).toInt = m ∧ xL0 A hr φ d f v f' (m + 1) h) ∨ (hr 38 q = -1 ∧ ((∃ e : Nat, (hr 39 q).toInt = e ∧ xL0 A hr φ d f v f' e h) ∨ (f' = f ∧ hr 33 q = 4 ∧ xOpn hr φ d q ∧ h = (hr 35 q).toInt)))))
/-- the loops that are open, all around them reached: where they begin again -/
def xLp (A : Nat → Nat → Int → Prop) (hr : xI) (φ : Nat → Nat) (d f v : Nat) : Prop :=
  ∀ i, 0 < i → i < d → hr 33 (φ i) = 3 → (∀ j, j < i → hr 40 (φ j) ≠ 0) → ∃ b : Nat, (hr 37 (φ i)).toInt = b ∧ xL0 A hr φ d f v f (b + 2) (hr 35 (φ i)).toInt
/-- the places behind -/
def xGI (A : Nat → Nat → Int → Prop) (hc hr : xI) (φ : Nat → Nat) (d f v : Nat) : Prop :=
  (∀ f' : Nat, f' < f → ∃ s : Nat, (hr 29 f').toInt = s ∧ A f' s 0) ∧ (∃ s : Nat, (hr 29 f).toInt = s ∧ xL0 A hr φ d f v f s 0) ∧ xLp A hr φ d f v ∧
  ∀ (f' p : Nat) (h : Int), A f' p h → p < v ∧ f' ≤ f ∧ (hr 29 f').toInt ≤ p ∧ (p : Int) < (hr 29 (f' + 1)).toInt ∧ 0 ≤ h ∧ (hr 28 p = 14 → (p : Int) + 3 + (hr 28 (p + 1)).toInt ≤ v) ∧ xCnd hc hr (hr 27 11).toInt (xLG A hr φ d f v f') f' p h
theorem xOuts_mono {hr hr' : xI} {N N' : Int} {x l y : Nat} (hN : N ≤ N') (h36 : ∀ y : Nat, (y : Int) < N → hr' 36 y = hr 36 y) (O : xOuts hr N x l y) : xOuts hr' N' x l y ∧ (y : Int) < N := by
  obtain ⟨g, g0, gl, gb, gs⟩ := O
  have b := gb l (Nat.le_refl l)
  rw [gl] at b
  refine ⟨⟨g, g0, gl, fun i hi => ?_, fun i hi => ?_⟩, b⟩
  · have := gb i hi
    omega
  · rw [h36 _ (gb i (by omega))]
    exact gs i hi
/-- the conditions of a place behind go over -/
theorem xCnd_mono {hc hr hc' hr' : xI} {N N' : Int} {G G' : Nat → Nat → Int → Prop} {f p v : Nat} {h : Int} (hN : N ≤ N') (F : xFrm hc hr hc' hr')
    (fy : ∀ y : Nat, (y : Int) < N → hr' 34 y = hr 34 y ∧ hr' 35 y = hr 35 y ∧ hr' 36 y = hr 36 y ∧ hr' 37 y = hr 37 y ∧ (hr' 33 y = 0 ↔ hr 33 y = 0) ∧ (hr' 33 y = 3 ↔ hr 33 y = 3) ∧ (0 ≤ (hr 38 y).toInt → hr' 38 y = hr 38 y))
    (pl : ∀ p, p < v → hr' 41 p = hr 41 p ∧ hr' 42 p = hr 42 p) (h9 : ∀ b, b < v → hc' 9 b = hc 9 b) (h10 : ∀ b, b ≤ v → hc' 10 b = hc 10 b)
    (fb : ∀ y : Nat, (y : Int) < N → hr 33 y ≠ 0 → ∃ b : Nat, (hr 37 y).toInt = b ∧ b < v) (hp : p < v) (ht : hr 28 p = 14 → (p : Int) + 3 + (hr 28 (p + 1)).toInt ≤ v)
    (GG : ∀ t q h, G t q h → G' t q h) (C : xCnd hc hr N G f p h) : xCnd hc' hr' N' G' f p h := by
  obtain ⟨F1, F2, F3⟩ := F
  have d28 : hr' 28 = hr 28 := F2 28 (by omega) (by omega)
  have d29 : hr' 29 = hr 29 := F2 29 (by omega) (by omega)
  have d30 : hr' 30 = hr 30 := F2 30 (by omega) (by omega)
  have d31 : hr' 31 = hr 31 := F2 31 (by omega) (by omega)
  have d32 : hr' 32 = hr 32 := F2 32 (by omega) (by omega)
  have m4 : hr' 27 4 = hr 27 4 := F3 4 (by omega) (by omega) (by omega) (by omega) (by omega)
  obtain ⟨p41, p42⟩ := pl p hp
  have br : ∀ (lp : Nat) (w : Int), lp ≤ v → xBr hc hr N G f p lp w → xBr hc' hr' N' G' f p lp w := by
    intro lp w hlp b
    obtain ⟨x, l, y, b1, b2, b3, b4, b5, b6, b7⟩ := b
    obtain ⟨o1, o2⟩ := xOuts_mono hN (fun y hy => (fy y hy).2.2.1) b4
    obtain ⟨y34, y35, y36, y37, y0, y3, y38⟩ := fy y o2
    refine ⟨x, l, y, by rw [p41]; exact b1, by rw [d28]; exact b2, b3, o1, by rw [y34]; exact b5, by rw [y35]; exact b6, ?_⟩
    rw [h10 lp hlp, d32, y37, y35, y34]
    rcases b7 with ⟨k1, k2, k3⟩ | ⟨k1, k2, k3, k4⟩
    · exact .inl ⟨y0.mpr k1, k2, k3⟩
    · refine .inr ⟨fun e => k1 (y0.mp e), k2, ?_, ?_⟩
      · obtain ⟨b, w1, w2, w3, w4, w5⟩ := k3
        obtain ⟨b', u1, u2⟩ := fb y o2 k1
        have e : b' = b := by omega
        subst e
        exact ⟨b', by rw [y37]; exact w1, w2, by rw [d28, y3]; exact w3, by rw [d28, y34]; exact w4, by rw [h9 _ u2, y35]; exact w5⟩
      · rcases k4 with ⟨z1, z2, b, z3, z4⟩ | ⟨z1, z2, z3⟩
        · exact .inl ⟨y3.mpr z1, z2, b, z3, GG _ _ _ z4⟩
        · exact .inr ⟨fun e => z1 (y3.mp e), z2, GG _ _ _ z3⟩
  obtain ⟨c1, c2, c3, c4, c5, c6, c7, c8, c9, c10, c11⟩ := C
  unfold xCnd
  rw [d28, d29, d30, d32]
  refine ⟨?_, fun e => GG _ _ _ (c2 e), fun e => ?_, fun e => ?_, fun e => ?_, fun e => br _ _ (by omega) (c6 e), fun e => ?_, fun e => ?_, c9, fun e g hg => ?_, fun e => ?_⟩
  · unfold xWd at c1 ⊢
    rw [d28, d29, d30, d31, m4]
    exact c1
  · obtain ⟨a1, a2, y, a3, a4, a5, a6, a7⟩ := c3 e
    obtain ⟨y34, y35, y36, y37, y0, y3, y38⟩ := fy y a4
    exact ⟨a1, GG _ _ _ a2, y, by rw [p42]; exact a3, by omega, fun z => a5 (y0.mp z), by rw [y37]; exact a6, GG _ _ _ a7⟩
  · obtain ⟨x, a1, a2, a3, a4⟩ := c4 e
    obtain ⟨y34, y35, y36, y37, y0, y3, y38⟩ := fy x a2
    exact ⟨x, by rw [p41]; exact a1, by omega, by rw [y38 (by omega)]; exact a3, GG _ _ _ a4⟩
  · obtain ⟨x, a1, a2, a3⟩ := c5 e
    obtain ⟨y34, y35, y36, y37, y0, y3, y38⟩ := fy x a2
    refine ⟨x, by rw [p41]; exact a1, by omega, ?_⟩
    rcases a3 with ⟨z1, z2, z3⟩ | ⟨z1, z2⟩
    · exact .inl ⟨y0.mpr z1, z2, z3⟩
    · exact .inr ⟨fun q => z1 (y0.mp q), GG _ _ _ z2⟩
  · obtain ⟨a1, a2, a3⟩ := c7 e
    exact ⟨a1, GG _ _ _ a2, br _ _ (by omega) a3⟩
  · obtain ⟨a1, a2⟩ := c8 e
    have t := ht e
    exact ⟨a1, fun i hi => br _ _ (by omega) (a2 i hi)⟩
  · obtain ⟨a1, a2⟩ := c10 e g hg
    exact ⟨a1, GG _ _ _ a2⟩
  · obtain ⟨a1, a2⟩ := c11 e
    exact ⟨a1, GG _ _ _ a2⟩
