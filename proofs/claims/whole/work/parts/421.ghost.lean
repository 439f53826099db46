/-! The places behind, one instruction further. -/
def xA' (A : Nat → Nat → Int → Prop) (f v : Nat) (Here : Int → Prop) : Nat → Nat → Int → Prop := fun f' p h => A f' p h ∨ (f' = f ∧ p = v ∧ Here h)
theorem xGI_gen {A : Nat → Nat → Int → Prop} {hc hr hc' hr' : xI} {φ φ' : Nat → Nat} {d d' f v v' : Nat} {Here : Int → Prop} (K : xCK hc hr φ d f v) (I : xGI A hc hr φ d f v) (F : xFrm hc hr hc' hr') (hv : v < v') (hN : (hr 27 11).toInt ≤ (hr' 27 11).toInt)
    (hend : (v : Int) < (hr 29 (f + 1)).toInt)
    (fy : ∀ y : Nat, (y : Int) < (hr 27 11).toInt → hr' 34 y = hr 34 y ∧ hr' 35 y = hr 35 y ∧ hr' 36 y = hr 36 y ∧ hr' 37 y = hr 37 y ∧ (hr' 33 y = 0 ↔ hr 33 y = 0) ∧ (hr' 33 y = 3 ↔ hr 33 y = 3) ∧ (0 ≤ (hr 38 y).toInt → hr' 38 y = hr 38 y))
    (pl : ∀ p, p < v → hr' 41 p = hr 41 p ∧ hr' 42 p = hr 42 p) (h9 : ∀ b, b < v → hc' 9 b = hc 9 b) (h10 : ∀ b, b ≤ v → hc' 10 b = hc 10 b)
    (LM : ∀ f' t q h, xLG A hr φ d f v f' t q h → xLG (xA' A f v Here) hr' φ' d' f v' f' t q h)
    (L0 : ∀ f' q h, xL0 A hr φ d f v f' q h → xL0 (xA' A f v Here) hr' φ' d' f v' f' q h)
    (lpn : xLp (xA' A f v Here) hr' φ' d' f v')
    (new : ∀ h, Here h → 0 ≤ h ∧ (hr 28 v = 14 → (v : Int) + 3 + (hr 28 (v + 1)).toInt ≤ v') ∧ xCnd hc' hr' (hr' 27 11).toInt (xLG (xA' A f v Here) hr' φ' d' f v' f) f v h) : xGI (xA' A f v Here) hc' hr' φ' d' f v' := by
  obtain ⟨i1, i2, -, i3⟩ := I
  have d29 : hr' 29 = hr 29 := F.2.1 29 (by omega) (by omega)
  have d28 : hr' 28 = hr 28 := F.2.1 28 (by omega) (by omega)
  have fb : ∀ y : Nat, (y : Int) < (hr 27 11).toInt → hr 33 y ≠ 0 → ∃ b : Nat, (hr 37 y).toInt = b ∧ b < v := by
    intro y hy hk
    obtain ⟨⟨b, b1, b2, -⟩, -⟩ := K.2.2.2.2.2.2.2.2.2.2.2.2.2.2.2.2.2.2.2.1 y hy hk
    exact ⟨b, b1, by omega⟩
  refine ⟨fun f' hf => ?_, ?_, lpn, fun f' p h a => ?_⟩
  · obtain ⟨s, s1, s2⟩ := i1 f' hf
    exact ⟨s, by rw [d29]; exact s1, .inl s2⟩
  · obtain ⟨s, s1, s2⟩ := i2
    exact ⟨s, by rw [d29]; exact s1, L0 _ _ _ s2⟩
  · rw [d29, d28]
    rcases a with a | ⟨rfl, rfl, a⟩
    · obtain ⟨q1, q2, q3, q4, q5, q6, q7⟩ := i3 f' p h a
      refine ⟨by omega, q2, q3, q4, q5, fun e => by have := q6 e; omega, ?_⟩
      exact xCnd_mono hN F fy pl h9 h10 fb q1 q6 (fun t q h => LM f' t q h) q7
    · obtain ⟨n1, n2, n3⟩ := new h a
      exact ⟨hv, Nat.le_refl _, K.2.2.2.2.2.2.2.1.1, hend, n1, n2, n3⟩
def xLive (hr : xI) (φ : Nat → Nat) (d : Nat) (h : Int) : Prop := (∀ i, i < d → hr 40 (φ i) ≠ 0) ∧ h = (hr 27 24).toInt
/-- where no frame is closed and none gets its else -/
theorem xGI_next {A : Nat → Nat → Int → Prop} {hc hr hc' hr' : xI} {φ φ' : Nat → Nat} {d d' f v v' : Nat} (K : xCK hc hr φ d f v) (I : xGI A hc hr φ d f v) (F : xFrm hc hr hc' hr') (hd : 0 < d) (hv : v < v') (hN : (hr 27 11).toInt ≤ (hr' 27 11).toInt)
    (hend : (v : Int) < (hr 29 (f + 1)).toInt)
    (fy : ∀ y : Nat, (y : Int) < (hr 27 11).toInt → ∀ k, 33 ≤ k → k ≤ 39 → hr' k y = hr k y)
    (pl : ∀ p, p < v → hr' 41 p = hr 41 p ∧ hr' 42 p = hr 42 p) (h9 : ∀ b, b < v → hc' 9 b = hc 9 b) (h10 : ∀ b, b ≤ v → hc' 10 b = hc 10 b)
    (op : ∀ q, xOpn hr φ d q → xOpn hr' φ' d' q)
    (lpn : (∀ f' q h, xL0 A hr φ d f v f' q h → xL0 (xA' A f v (xLive hr φ d)) hr' φ' d' f v' f' q h) → xLp (xA' A f v (xLive hr φ d)) hr' φ' d' f v')
    (tb : hr 28 v = 14 → (v : Int) + 3 + (hr 28 (v + 1)).toInt ≤ v')
    (new : (∀ i, i < d → hr 40 (φ i) ≠ 0) → xCnd hc' hr' (hr' 27 11).toInt (xLG (xA' A f v (xLive hr φ d)) hr' φ' d' f v' f) f v (hr 27 24).toInt) : xGI (xA' A f v (xLive hr φ d)) hc' hr' φ' d' f v' := by
  have L0 : ∀ f' q h, xL0 A hr φ d f v f' q h → xL0 (xA' A f v (xLive hr φ d)) hr' φ' d' f v' f' q h := by
    intro f' q h a
    rcases a with a | ⟨a1, a2, a3, a4, a5⟩
    · exact .inl (.inl a)
    · exact .inl (.inr ⟨a1, a2, a4, a5⟩)
  refine xGI_gen K I F hv hN hend (fun y hy => ?_) pl h9 h10 ?_ L0 (lpn L0) (fun h a => ?_)
  · have g := fy y hy
    rw [g 33 (by omega) (by omega)]
    exact ⟨g 34 (by omega) (by omega), g 35 (by omega) (by omega), g 36 (by omega) (by omega), g 37 (by omega) (by omega), Iff.rfl, Iff.rfl, fun _ => g 38 (by omega) (by omega)⟩
  · intro f' t q h a
    obtain ⟨a4, a0, a1, a2, a3⟩ := a
    refine ⟨a4, fun e => L0 _ _ _ (a0 e), fun e => ?_, fun e => ?_, fun e => ?_⟩
    · obtain ⟨b1, b2, b3⟩ := a1 e
      have g := fy q b1
      rw [g 33 (by omega) (by omega), g 39 (by omega) (by omega), g 35 (by omega) (by omega), g 34 (by omega) (by omega)]
      refine ⟨by omega, b2, ?_⟩
      rcases b3 with ⟨e, e1, e2⟩ | ⟨e1, e2, e3⟩
      · exact .inl ⟨e, e1, L0 _ _ _ e2⟩
      · exact .inr ⟨e1, op _ e2, e3⟩
    · obtain ⟨b1, b2, b4, b3⟩ := a2 e
      have g := fy q b1
      rw [g 33 (by omega) (by omega), g 38 (by omega) (by omega), g 39 (by omega) (by omega), g 35 (by omega) (by omega), g 34 (by omega) (by omega)]
      refine ⟨by omega, b2, b4, ?_⟩
      rcases b3 with ⟨e, e1, e2⟩ | ⟨e1, e2, e3⟩
      · exact .inl ⟨e, e1, L0 _ _ _ e2⟩
      · exact .inr ⟨e1, op _ e2, e3⟩
    · obtain ⟨b1, b2, b3⟩ := a3 e
      have g := fy q b1
      rw [g 33 (by omega) (by omega), g 38 (by omega) (by omega), g 39 (by omega) (by omega), g 35 (by omega) (by omega)]
      refine ⟨by omega, b2, ?_⟩
      rcases b3 with ⟨m, e1, e2⟩ | ⟨e1, e2⟩
      · exact .inl ⟨m, e1, L0 _ _ _ e2⟩
      · refine .inr ⟨e1, ?_⟩
        rcases e2 with ⟨e, u1, u2⟩ | ⟨u1, u2, u3, u4⟩
        · exact .inl ⟨e, u1, L0 _ _ _ u2⟩
        · exact .inr ⟨u1, u2, op _ u3, u4⟩
  · obtain ⟨a1, rfl⟩ := a
    exact ⟨K.2.2.2.2.1.1, tb, new a1⟩
/-- the open loops go over, where no frame is opened or closed -/
theorem xLp_same {A A' : Nat → Nat → Int → Prop} {hr hr' : xI} {φ : Nat → Nat} {d f v v' : Nat} (L : xLp A hr φ d f v) (L0 : ∀ f' q h, xL0 A hr φ d f v f' q h → xL0 A' hr' φ d f v' f' q h) (h : ∀ k, k = 33 ∨ k = 35 ∨ k = 37 → ∀ i, i < d → hr' k (φ i) = hr k (φ i)) (re : ∀ j, j < d → hr' 40 (φ j) ≠ 0 → hr 40 (φ j) ≠ 0) : xLp A' hr' φ d f v' := by
  intro i h0 h1 h2 h3
  rw [h 33 (by omega) i h1] at h2
  obtain ⟨b, b1, b2⟩ := L i h0 h1 h2 (fun j hj => re j (by omega) (h3 j hj))
  exact ⟨b, by rw [h 37 (by omega) i h1]; exact b1, by rw [h 35 (by omega) i h1]; exact L0 _ _ _ b2⟩
/-- goals of a place from the class of goals -/
theorem xLG0 {A : Nat → Nat → Int → Prop} {hr : xI} {φ : Nat → Nat} {d f v f' q : Nat} {h : Int} (a : xL0 A hr φ d f v f' q h) : xLG A hr φ d f v f' 0 q h :=
  ⟨by omega, fun _ => a, fun e => absurd e (by omega), fun e => absurd e (by omega), fun e => absurd e (by omega)⟩
theorem xLG1 {A : Nat → Nat → Int → Prop} {hr : xI} {φ : Nat → Nat} {d f v q : Nat} {h : Int} (b1 : (q : Int) < (hr 27 11).toInt) (b2 : hr 33 q ≠ 0) (b3 : xOpn hr φ d q) (b4 : h = (hr 35 q).toInt + (hr 34 q).toInt) : xLG A hr φ d f v f 1 q h :=
  ⟨by omega, fun e => absurd e (by omega), fun _ => ⟨b1, b2, .inr ⟨rfl, b3, b4⟩⟩, fun e => absurd e (by omega), fun e => absurd e (by omega)⟩
/-- the empty annotation between functions, and the end: all is checked -/
theorem xKC_of {A : Nat → Nat → Int → Prop} {hc hr : xI} {φ : Nat → Nat} {f v : Nat} (K : xCK hc hr φ 0 f v) (I : xGI A hc hr φ 0 f v) (hN : (hr 27 11).toInt ≤ 250) (hf : (f : Int) + 1 = (hr 27 4).toInt) : xKC A hc hr := by
  obtain ⟨i1, i2, -, i3⟩ := I
  have L0 : ∀ f' q h, xL0 A hr φ 0 f v f' q h → A f' q h := by
    intro f' q h a
    rcases a with a | ⟨a1, a2, a3, a4, a5⟩
    · exact a
    · omega
  have no : ∀ q, ¬ xOpn hr φ 0 q := by
    intro q c
    obtain ⟨i, h1, h2, -⟩ := c
    omega
  have fr := K.2.2.2.2.2.2.2.2.2.2.2.2.2.2.2.2.2.2.2.1
  refine ⟨fun f' hf' => ?_, fun f' p h a => ?_⟩
  · by_cases e : f' < f
    · exact i1 f' e
    · have : f' = f := by omega
      subst this
      obtain ⟨s, s1, s2⟩ := i2
      exact ⟨s, s1, L0 _ _ _ s2⟩
  · obtain ⟨q1, q2, q3, q4, q5, q6, q7⟩ := i3 f' p h a
    refine ⟨by omega, q3, q4, q5, ?_⟩
    refine xCnd_mono (v := v) hN (xFrm.refl hc hr) (fun y hy => ⟨rfl, rfl, rfl, rfl, Iff.rfl, Iff.rfl, fun _ => rfl⟩) (fun p hp => ⟨rfl, rfl⟩) (fun b hb => rfl) (fun b hb => rfl) (fun y hy hk => ?_) q1 q6 ?_ q7
    · obtain ⟨⟨b, b1, b2, -⟩, -⟩ := fr y hy hk
      exact ⟨b, b1, by omega⟩
    · intro t q h a
      obtain ⟨a4, a0, a1, a2, a3⟩ := a
      match t with
      | 0 => exact L0 _ _ _ (a0 rfl)
      | 1 =>
        obtain ⟨b1, b2, b3⟩ := a1 rfl
        obtain ⟨⟨b, w1, w2, w3, w4, w5, w6, w7, w8, w9, w10, w11⟩, -⟩ := fr q b1 b2
        rcases b3 with ⟨e, e1, e2⟩ | ⟨e1, e2, e3⟩
        · exact ⟨b, e, w1, e1, w10 (by omega), L0 _ _ _ e2⟩
        · exact absurd e2 (no q)
      | 2 =>
        obtain ⟨b1, b2, b4, b3⟩ := a2 rfl
        obtain ⟨⟨b, w1, w2, w3, w4, w5, w6, w7, w8, w9, w10, w11⟩, -⟩ := fr q b1 b2
        rcases w11 with ⟨w11, -⟩ | ⟨-, m, w11, w12, w13, w14, w15⟩
        · rw [w11] at b4
          exact absurd b4 (by decide)
        · rcases b3 with ⟨e, e1, e2⟩ | ⟨e1, e2, e3⟩
          · exact ⟨m, e, w11, e1, w15 (by omega), L0 _ _ _ e2⟩
          · exact absurd e2 (no q)
      | 3 =>
        obtain ⟨b1, b2, b3⟩ := a3 rfl
        obtain ⟨⟨b, w1, w2, w3, w4, w5, w6, w7, w8, w9, w10, w11⟩, -⟩ := fr q b1 b2
        refine ⟨b, w1, w9, ?_⟩
        rcases b3 with ⟨m, e1, e2⟩ | ⟨e1, e2⟩
        · exact .inl ⟨m, e1, L0 _ _ _ e2⟩
        · refine .inr ⟨e1, ?_⟩
          rcases e2 with ⟨e, u1, u2⟩ | ⟨u1, u2, u3, u4⟩
          · exact ⟨e, u1, w10 (by omega), L0 _ _ _ u2⟩
          · exact absurd u3 (no q)
      | t + 4 => omega
