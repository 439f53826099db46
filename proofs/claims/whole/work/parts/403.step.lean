/-! A step: what both sides read first. -/
theorem xbs {α : Type} (o : Option α) : (o.bind fun q => some q) = o := by
  cases o <;> rfl
theorem xbp {α β : Type} (o : Option (α × β)) : (o.bind fun q => some (q.1, q.2)) = o := by
  cases o <;> rfl
/-- the state before a step, in numbers -/
def xCtxt (A : Nat → Nat → Int → Prop) (hc hr : xI) (c f p : Nat) (v : Int) : Prop :=
  (hr 27 35).toInt = (c : Int) + 1 ∧ c < 6 ∧ (hr 47 c).toInt = f ∧ (f : Int) < (hr 27 4).toInt ∧ f < 6 ∧ (hr 27 32).toInt = p ∧ p < 240 ∧ (p : Int) < (hr 29 (f + 1)).toInt ∧ (hr 29 (f + 1)).toInt ≤ 240 ∧ (hr 29 f).toInt ≤ p ∧ v = (hr 27 33).toInt - (hr 49 c).toInt ∧ 0 ≤ (hr 49 c).toInt ∧ 0 ≤ (hr 27 33).toInt ∧ (hr 27 33).toInt ≤ 100 ∧ 0 ≤ v ∧ A f p v ∧ xCnd hc hr 250 (xKG A hc hr f) f p v
theorem xbef {A : Nat → Nat → Int → Prop} {hc hr : xI} (B : xBef A hc hr) : ∃ (c f p : Nat) (v : Int), xCtxt A hc hr c f p v := by
  obtain ⟨R, K, hs, N, T⟩ := B
  obtain ⟨c, t1, t2, t3, ⟨f, p, t4, t5, t6⟩, t7⟩ := T
  have cb := N.callsB
  have sb := N.depthB
  obtain ⟨k1, k2, k3, k4, k5⟩ := K.2 f p _ t6
  have fb := R.fnsB
  have eb := R.fromB (f + 1) (by omega)
  exact ⟨c, f, p, _, t1, by omega, t4, k1, by omega, t5, by omega, k3, eb.2, k2, rfl, (t3 c (by omega)).1, sb.1, sb.2, k4, t6, k5⟩
/-- the trap's look at the stack -/
theorem xtrapOf {hr : xI} (h0 : 0 ≤ (hr 27 33).toInt) (h1 : (hr 27 33).toInt ≤ 100) (w : Int32) : ∃ b a : Int32, f_m_trapOf w hr = f_m_trapOf_46 w b a hr ∧ (1 ≤ (hr 27 33).toInt → b = hr 46 (hr 27 33 - 1).toNatClampNeg) ∧ (2 ≤ (hr 27 33).toInt → a = hr 46 (hr 27 33 - 2).toNatClampNeg) := by
  have e0 : (0 : Int32).toInt = 0 := rfl
  have e1 : (1 : Int32).toInt = 1 := rfl
  have e2 : (2 : Int32).toInt = 2 := rfl
  have s1 : (hr 27 33 - 1).toInt = (hr 27 33).toInt - 1 := xi_sub (by omega) (by omega)
  have s2 : (hr 27 33 - 2).toInt = (hr 27 33).toInt - 2 := xi_sub (by omega) (by omega)
  unfold f_m_trapOf f_m_trapOf_22
  by_cases z : (hr 27 33).toInt ≤ 0
  · rw [if_pos (by rw [xi_le]; omega), if_pos (by rw [xi_le]; omega)]
    exact ⟨_, _, rfl, fun _ => by omega, fun _ => by omega⟩
  · rw [if_neg (by rw [xi_le]; omega), xgd_ok (by omega) (by omega)]
    by_cases y : (hr 27 33).toInt ≤ 1
    · rw [if_pos (by rw [xi_le]; omega)]
      exact ⟨_, _, rfl, fun _ => rfl, fun _ => by omega⟩
    · rw [if_neg (by rw [xi_le]; omega), xgd_ok (by omega) (by omega)]
      exact ⟨_, _, rfl, fun _ => rfl, fun _ => rfl⟩
/-- words at which nothing can be wrong -/
theorem xtrap0 {w b a : Int32} {hr : xI} (h0 : w ≠ 0) (hd : w.toInt < 109 ∨ 112 < w.toInt) (hl : f_m_isLoad w = 0) (hst : f_m_isStore w = 0) (h32 : w ≠ 32) (h35 : w ≠ 35) (h63 : w ≠ 63) (h65 : w ≠ 65) (h16 : w ≠ 16) : f_m_trapOf_46 w b a hr = some 0 := by
  have e109 : (109 : Int32).toInt = 109 := rfl
  have e112 : (112 : Int32).toInt = 112 := rfl
  have k : f_m_trapOf_96 w b a hr = some 0 := by
    unfold f_m_trapOf_96
    rw [if_pos hl, if_pos hst, if_neg h32, if_neg h35, if_neg h63, if_neg h65]
    unfold f_m_trapOf_165 f_m_trapOf_185
    rw [if_pos rfl, if_neg h16]
  unfold f_m_trapOf_46
  rw [if_neg h0, k]
  by_cases h : w < 109
  · rw [if_pos h]
  · rw [if_neg h, if_pos]
    rw [xi_lt] at h ⊢
    omega
/-- words that put a value on the stack -/
theorem xtrapP {w b a : Int32} {hr : xI} (hw : w = 32 ∨ w = 35 ∨ w = 63 ∨ w = 65) : f_m_trapOf_46 w b a hr = if hr 27 33 = 100 then some 5 else some 0 := by
  have k : f_m_trapOf_160 w hr = if hr 27 33 = 100 then some 5 else some 0 := by
    unfold f_m_trapOf_160 f_m_trapOf_165 f_m_trapOf_185
    rw [if_neg (by decide)]
    rcases hw with e | e | e | e <;> subst e <;> rfl
  rcases hw with e | e | e | e <;> subst e <;> exact k
theorem xtrapC {b a : Int32} {hr : xI} : f_m_trapOf_46 16 b a hr = if hr 27 35 = 6 then some 6 else some 0 := rfl
/-- the reference's step, where nothing is wrong -/
theorem xmstep {hr : xI} {p : Nat} (hp : (hr 27 32).toInt = p) (hb : p < 240) (hi : f_m_immediates (hr 28 p) ≠ 0 → p + 1 < 240) (ht : f_m_trapOf (hr 28 p) hr = some 0) : f_m_step hr = f_m_step_54 (hr 28 p) (if f_m_immediates (hr 28 p) ≤ 0 then 0 else hr 28 (p + 1)) (xput hr 27 31 0) := by
  unfold f_m_step
  rw [xgd_ok (by omega) (by omega), xi_cl hp, ht, Option.bind_some, if_pos (by decide)]
  by_cases h : f_m_immediates (hr 28 p) ≤ 0
  · rw [if_pos h, if_pos h]
  · rw [if_neg h, if_neg h]
    have h' : f_m_immediates (hr 28 p) ≠ 0 := fun e => h (by rw [e]; decide)
    have hq := hi h'
    obtain ⟨e1, e2⟩ := xi_cl1 hp (by omega)
    rw [xgd_ok (by omega) (by omega), e2]
theorem xmtrap {hr : xI} {p : Nat} (hp : (hr 27 32).toInt = p) (hb : p < 240) {t : Int32} (ht : f_m_trapOf (hr 28 p) hr = some t) (t0 : 0 < t.toInt) : f_m_step hr = some (xput (xput hr 27 31 t) 27 1 4) := by
  have e0 : (0 : Int32).toInt = 0 := rfl
  unfold f_m_step
  rw [xgd_ok (by omega) (by omega), xi_cl hp, ht, Option.bind_some, if_neg (by rw [xi_le]; omega)]
theorem xm54p {w i : Int32} {h : xI} (hw : w.toInt ≤ 1 ∨ 17 ≤ w.toInt) : f_m_step_54 w i h = f_m_plain w i h := by
  have e1 : (1 : Int32).toInt = 1 := rfl
  have e17 : (17 : Int32).toInt = 17 := rfl
  have k : f_m_step_75 w i h = f_m_plain w i h := by
    unfold f_m_step_75
    exact xbs _
  unfold f_m_step_54
  rw [k]
  by_cases a : w ≤ 1
  · rw [if_pos a]
  · rw [if_neg a, if_pos]
    rw [xi_le] at a ⊢
    omega
theorem xm54g {w i : Int32} {h : xI} (hw : 2 ≤ w.toInt ∧ w.toInt ≤ 16) : f_m_step_54 w i h = f_m_goes w i h := by
  have e1 : (1 : Int32).toInt = 1 := rfl
  have e17 : (17 : Int32).toInt = 17 := rfl
  unfold f_m_step_54
  rw [if_neg (by rw [xi_le]; omega), if_neg (by rw [xi_le]; omega)]
  exact xbs _
/-- the plain words' top of the stack -/
theorem xplainT {hr : xI} (h0 : 1 ≤ (hr 27 33).toInt) (h1 : (hr 27 33).toInt ≤ 100) (w i : Int32) : f_m_plain w i hr = f_m_plain_27 w i (f_m_eats w) (hr 46 (hr 27 33 - 1).toNatClampNeg) hr := by
  have e0 : (0 : Int32).toInt = 0 := rfl
  have e1 : (1 : Int32).toInt = 1 := rfl
  have s1 : (hr 27 33 - 1).toInt = (hr 27 33).toInt - 1 := xi_sub (by omega) (by omega)
  unfold f_m_plain
  rw [if_neg (by rw [xi_le]; omega), xgd_ok (by omega) (by omega)]
/-- the class's step: the instruction's length -/
theorem xsize {hc hr : xI} (R : RB hc hr) {p : Nat} {P : Int32} (hp : P.toInt = p) (hb : p < 240) (hk : f_o_shapeOf (hr 28 p) ≠ -1) (h14 : hr 28 p ≠ 14) : f_c_sizeAt P hc = some (1 + f_m_immediates (hr 28 p)) := by
  have h3 : ∀ w : Int32, f_o_shapeOf w ≠ -1 → w ≠ 14 → f_o_shapeOf w ≠ 3 := by
    intro w hw
    exact xop_known (P := fun w => w ≠ 14 → f_o_shapeOf w ≠ 3) (by decide +kernel) w hw
  unfold f_c_sizeAt
  rw [xgd_ok (by omega) (by omega), xi_cl hp, R.words, if_neg (h3 _ hk h14)]
  have hi := (xops (hr 28 p)).2
  by_cases hz : f_o_shapeOf (hr 28 p) = 0
  · rw [if_pos (.inl hz)] at hi
    rw [if_pos hz, hi]
    rfl
  · rw [if_neg (fun h => h.elim hz hk)] at hi
    rw [if_neg hz, hi]
    rfl
theorem xsize14 {hc hr : xI} (R : RB hc hr) {p : Nat} {P : Int32} (hp : P.toInt = p) (hb : p + 1 < 240) (h14 : hr 28 p = 14) : f_c_sizeAt P hc = some (3 + hr 28 (p + 1)) := by
  unfold f_c_sizeAt
  obtain ⟨e1, e2⟩ := xi_cl1 hp (by omega)
  rw [xgd_ok (by omega) (by omega), xi_cl hp, R.words, h14, if_pos (by decide), xgd_ok (by omega) (by omega), e2, R.words]
