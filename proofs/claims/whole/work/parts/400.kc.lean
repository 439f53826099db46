/-! The checked code: what the check leaves behind. -/
/-- frames from x outwards, l of them -/
def xOuts (hr : xI) (N : Int) (x l y : Nat) : Prop :=
  ∃ g : Nat → Nat, g 0 = x ∧ g l = y ∧ (∀ i, i ≤ l → (g i : Int) < N) ∧ ∀ i, i < l → (hr 36 (g i)).toInt = (g (i + 1) : Int)
/-- what stands at a frame's opener -/
def xOp (hc hr : xI) (y : Nat) : Prop :=
  ∃ b : Nat, (hr 37 y).toInt = b ∧ b + 1 < 240 ∧ (hr 28 b = 3 ↔ hr 33 y = 3) ∧ hr 28 (b + 1) = hr 34 y ∧ hc 9 b = hr 35 y
/-- a branch at p by the label at lp, with v values -/
def xBr (hc hr : xI) (N : Int) (G : Nat → Nat → Int → Prop) (f p lp : Nat) (v : Int) : Prop :=
  ∃ x l y : Nat, (hr 41 p).toInt = x ∧ (hr 28 lp).toInt = l ∧ l < 9 ∧ xOuts hr N x l y ∧ (hr 34 y = 0 ∨ hr 34 y = 1) ∧ 0 ≤ (hr 35 y).toInt ∧
    ((hr 33 y = 0 ∧ hc 10 lp = -1 ∧ (hr 32 f).toInt ≤ v) ∨
     (hr 33 y ≠ 0 ∧ hc 10 lp = hr 37 y ∧ xOp hc hr y ∧
       ((hr 33 y = 3 ∧ (hr 35 y).toInt ≤ v ∧ ∃ b : Nat, (hr 37 y).toInt = b ∧ G 0 (b + 2) (hr 35 y).toInt) ∨
        (hr 33 y ≠ 3 ∧ (hr 35 y).toInt + (hr 34 y).toInt ≤ v ∧ G 1 y ((hr 35 y).toInt + (hr 34 y).toInt)))))
/-- the word at p is one, and its immediates are -/
def xWd (hr : xI) (f p : Nat) : Prop :=
  f_o_shapeOf (hr 28 p) ≠ -1 ∧
  (f_o_shapeOf (hr 28 p) ≠ 0 → (p : Int) + 2 ≤ (hr 29 (f + 1)).toInt) ∧
  (hr 28 p = 2 ∨ hr 28 p = 3 ∨ hr 28 p = 4 → hr 28 (p + 1) = 0 ∨ hr 28 (p + 1) = 1) ∧
  (hr 28 p = 14 → 0 ≤ (hr 28 (p + 1)).toInt ∧ (hr 28 (p + 1)).toInt ≤ 8 ∧ (p : Int) + 3 + (hr 28 (p + 1)).toInt ≤ (hr 29 (f + 1)).toInt) ∧
  (hr 28 p = 16 → 0 ≤ (hr 28 (p + 1)).toInt ∧ (hr 28 (p + 1)).toInt < (hr 27 4).toInt) ∧
  (hr 28 p = 32 ∨ hr 28 p = 33 ∨ hr 28 p = 34 → 0 ≤ (hr 28 (p + 1)).toInt ∧ (hr 28 (p + 1)).toInt < (hr 30 f).toInt + (hr 31 f).toInt) ∧
  (hr 28 p = 35 ∨ hr 28 p = 36 → 0 ≤ (hr 28 (p + 1)).toInt ∧ (hr 28 (p + 1)).toInt < 4) ∧
  (f_o_shapeOf (hr 28 p) = 7 → 0 ≤ (hr 28 (p + 1)).toInt)
/-- what holds of a place that may run with v values -/
def xCnd (hc hr : xI) (N : Int) (G : Nat → Nat → Int → Prop) (f p : Nat) (v : Int) : Prop :=
  xWd hr f p ∧
  (hr 28 p = 2 ∨ hr 28 p = 3 → G 0 (p + 2) v) ∧
  (hr 28 p = 4 → 1 ≤ v ∧ G 0 (p + 2) (v - 1) ∧ ∃ y : Nat, (hr 42 p).toInt = y ∧ (y : Int) < N ∧ hr 33 y ≠ 0 ∧ (hr 37 y).toInt = p ∧ G 3 y (v - 1)) ∧
  (hr 28 p = 5 → ∃ x : Nat, (hr 41 p).toInt = x ∧ (x : Int) < N ∧ (hr 38 x).toInt = p ∧ G 2 x v) ∧
  (hr 28 p = 11 → ∃ x : Nat, (hr 41 p).toInt = x ∧ (x : Int) < N ∧ ((hr 33 x = 0 ∧ v = (hr 32 f).toInt ∧ (p : Int) + 1 = (hr 29 (f + 1)).toInt) ∨ (hr 33 x ≠ 0 ∧ G 0 (p + 1) v))) ∧
  (hr 28 p = 12 → xBr hc hr N G f p (p + 1) v) ∧
  (hr 28 p = 13 → 1 ≤ v ∧ G 0 (p + 2) (v - 1) ∧ xBr hc hr N G f p (p + 1) (v - 1)) ∧
  (hr 28 p = 14 → 1 ≤ v ∧ ∀ i : Nat, (i : Int) ≤ (hr 28 (p + 1)).toInt → xBr hc hr N G f p (p + 2 + i) (v - 1)) ∧
  (hr 28 p = 15 → (hr 32 f).toInt ≤ v) ∧
  (hr 28 p = 16 → ∀ g : Nat, (hr 28 (p + 1)).toInt = g → (hr 30 g).toInt ≤ v ∧ G 0 (p + 2) (v - (hr 30 g).toInt + (hr 32 g).toInt)) ∧
  (hr 28 p = 1 ∨ 17 ≤ (hr 28 p).toInt → (f_m_eats (hr 28 p)).toInt ≤ v ∧ G 0 (p + 1 + (f_m_immediates (hr 28 p)).toInt.toNat) (v - (f_m_eats (hr 28 p)).toInt + (f_m_yields (hr 28 p)).toInt))
/-- the goals, when all is checked -/
def xKG (A : Nat → Nat → Int → Prop) (hc hr : xI) (f : Nat) : Nat → Nat → Int → Prop
  | 0, q, h => A f q h
  | 1, y, h => ∃ b e : Nat, (hr 37 y).toInt = b ∧ (hr 39 y).toInt = e ∧ hc 7 b = hr 39 y ∧ A f (e + 1) h
  | 2, y, h => ∃ m e : Nat, (hr 38 y).toInt = m ∧ (hr 39 y).toInt = e ∧ hc 7 m = hr 39 y ∧ A f e h
  | _, y, h => ∃ b : Nat, (hr 37 y).toInt = b ∧ hc 8 b = hr 38 y ∧ ((∃ m : Nat, (hr 38 y).toInt = m ∧ A f (m + 1) h) ∨ (hr 38 y = -1 ∧ ∃ e : Nat, (hr 39 y).toInt = e ∧ hc 7 b = hr 39 y ∧ A f e h))
/-- A: which function's places may run with how many values of the call's own -/
def xKC (A : Nat → Nat → Int → Prop) (hc hr : xI) : Prop :=
  (∀ f : Nat, (f : Int) < (hr 27 4).toInt → ∃ s : Nat, (hr 29 f).toInt = s ∧ A f s 0) ∧
  ∀ (f p : Nat) (v : Int), A f p v → (f : Int) < (hr 27 4).toInt ∧ (hr 29 f).toInt ≤ p ∧ (p : Int) < (hr 29 (f + 1)).toInt ∧ 0 ≤ v ∧ xCnd hc hr 250 (xKG A hc hr f) f p v
/-- a running state within -/
def xRT (A : Nat → Nat → Int → Prop) (hr : xI) : Prop :=
  ∃ c : Nat, (hr 27 35).toInt = (c : Int) + 1 ∧ hr 49 0 = 0 ∧
    (∀ k : Nat, k ≤ c → 0 ≤ (hr 49 k).toInt ∧ (hr 49 k).toInt ≤ (hr 27 33).toInt) ∧
    (∃ f p : Nat, (hr 47 c).toInt = f ∧ (hr 27 32).toInt = p ∧ A f p ((hr 27 33).toInt - (hr 49 c).toInt)) ∧
    ∀ k : Nat, k < c → (∃ f g p : Nat, (hr 47 k).toInt = f ∧ (hr 47 (k + 1)).toInt = g ∧ (hr 48 (k + 1)).toInt = p ∧ (hr 49 k).toInt ≤ (hr 49 (k + 1)).toInt ∧ A f p ((hr 49 (k + 1)).toInt + (hr 32 g).toInt - (hr 49 k).toInt))
/-- all that holds between two calls -/
def xQ (hc hr : xI) : Prop :=
  RB hc hr ∧ (hr 27 1 ≠ 0 → ∃ A, xKC A hc hr ∧ (hr 27 1 = 2 → RN hc hr ∧ xRT A hr))
