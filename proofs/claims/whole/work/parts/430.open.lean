/-! Opening a frame. -/
def xOc (hc : xI) (V E : Int32) (d v : Nat) (w n P : Int32) : xI :=
  xput (xput (xput (xput (xput (xput (xput (xput (xZc hc V E) 14 d w) 15 d n) 16 d V) 17 d 1) 18 d P) 13 6 (hc 13 6 + 1)) 9 v V) 8 v (-1)
def xOr (hr : xI) (V E : Int32) (N v : Nat) (w n P : Int32) : xI :=
  xput (xput (xput (xput (xput (xput (xput (xput (xput (xput (xput (xput (xZr hr V E) 27 11 (hr 27 11 + 1)) 33 N w) 34 N n) 35 N V) 36 N (hr 27 22)) 37 N P) 38 N (-1)) 39 N (-1)) 40 N 1) 42 v (hr 27 11)) 27 22 (hr 27 11)) 27 23 (hr 27 23 + 1)
theorem xopen {hc hr : xI} {d v N : Nat} (V E w n P P' : Int32) (fr : hc 13 6 = hr 27 23) (hd : (hr 27 23).toInt = d) (hd9 : d ≤ 9) (hN : (hr 27 11).toInt = N) (hNb : N < 250) (hP : P.toInt = v) (hP' : P'.toInt = v) (hv : v < 240) :
    (d < 9 → f_k_openFrame w n P (xZc hc V E) = some (xOc hc V E d v w n P) ∧ f_m_open w n P' (xZr hr V E) = some (xOr hr V E N v w n P')) ∧
    (d = 9 → f_k_openFrame w n P (xZc hc V E) = some (xZc hc V (xErr 6 E)) ∧ ∃ r, f_m_open w n P' (xZr hr V E) = some r ∧ r 27 25 = xErr 6 E ∧ (∀ k, k ≠ 27 → ¬ (33 ≤ k ∧ k ≤ 42) → r k = hr k) ∧ (∀ j, j ≠ 11 → j ≠ 22 → j ≠ 23 → j ≠ 24 → j ≠ 25 → r 27 j = hr 27 j)) := by
  have o1 : (1 : Int32).toInt = 1 := rfl
  have o9 : (9 : Int32).toInt = 9 := rfl
  have em : (-1 : Int32).toInt = -1 := rfl
  have z6 : xZc hc V E 13 6 = hc 13 6 := xZc_j _ _ _ (by omega) (by omega)
  have z7 : xZc hc V E 13 7 = V := xZc_v _ _ _
  have d11 : xZr hr V E 27 11 = hr 27 11 := xZr_j _ _ _ (by omega) (by omega)
  have d22 : xZr hr V E 27 22 = hr 27 22 := xZr_j _ _ _ (by omega) (by omega)
  have d23 : xZr hr V E 27 23 = hr 27 23 := xZr_j _ _ _ (by omega) (by omega)
  have d24 : xZr hr V E 27 24 = V := xZr_v _ _ _
  have dn : (hc 13 6).toNatClampNeg = d := by rw [fr]; exact xi_cl hd
  have nP : ¬ P = -1 := by rw [xi_eq]; omega
  have s1 : (hr 27 23 + 1).toInt = d + 1 := by rw [xi_add (by omega) (by omega), hd, o1]
  have gN : ∀ {α : Type} (x : Option α), xgd (hr 27 11) 250 x = x := fun x => xgd_ok (by omega) (by omega)
  have gP : ∀ {α : Type} (x : Option α), xgd P 240 x = x := fun x => xgd_ok (by omega) (by omega)
  have gP' : ∀ {α : Type} (x : Option α), xgd P' 240 x = x := fun x => xgd_ok (by omega) (by omega)
  refine ⟨fun h => ⟨?_, ?_⟩, fun h => ⟨?_, ?_⟩⟩
  · have gd : ∀ {α : Type} (x : Option α), xgd (hc 13 6) 9 x = x := fun x => xgd_ok (by rw [fr]; omega) (by rw [fr]; omega)
    unfold f_k_openFrame xOc
    rw [z6, z7, if_neg (by rw [fr, xi_eq]; omega), gd, gd, gd, gd, gd, if_neg nP, gP, gP, dn, xi_cl hP, xb1]
  · unfold f_m_open xOr
    simp only [d11, d22, d23, d24, gN, gP', xi_cl hN, xi_cl hP', xb1]
    rw [if_pos (by rw [xi_le]; omega)]
  · unfold f_k_openFrame
    rw [z6, if_pos (by rw [fr, xi_eq]; omega), kfail, Option.bind_some]
  · unfold f_m_open f_m_fail f_m_fail_16
    simp only [d11, d22, d23, d24, gN, gP', xi_cl hN, xi_cl hP', xb1]
    rw [if_neg (by rw [xi_le]; omega)]
    have e25 : ∀ a : Int32, xput (xput (xput (xput (xput (xput (xput (xput (xput (xput (xput (xput (xZr hr V E) 27 11 (hr 27 11 + 1)) 33 N w) 34 N n) 35 N V) 36 N (hr 27 22)) 37 N P') 38 N (-1)) 39 N (-1)) 40 N 1) 42 v (hr 27 11)) 27 22 (hr 27 11)) 27 23 (hr 27 23 + 1) 27 25 = E := by
      intro a
      simp only [xput_at, Nat.reduceEqDiff, reduceIte]
      exact xZr_e _ _ _
    rw [e25 0, xbs]
    unfold xErr
    have fin : ∀ a : Int32, ∃ r, some (xput (xput (xput (xput (xput (xput (xput (xput (xput (xput (xput (xput (xput (xZr hr V E) 27 11 (hr 27 11 + 1)) 33 N w) 34 N n) 35 N V) 36 N (hr 27 22)) 37 N P') 38 N (-1)) 39 N (-1)) 40 N 1) 42 v (hr 27 11)) 27 22 (hr 27 11)) 27 23 (hr 27 23 + 1)) 27 25 a) = some r ∧ r 27 25 = a ∧ (∀ k, k ≠ 27 → ¬ (33 ≤ k ∧ k ≤ 42) → r k = hr k) ∧ (∀ j, j ≠ 11 → j ≠ 22 → j ≠ 23 → j ≠ 24 → j ≠ 25 → r 27 j = hr 27 j) := by
      intro a
      refine ⟨_, rfl, by simp only [xput_at, Nat.reduceEqDiff, reduceIte], fun k x y => ?_, fun j x1 x2 x3 x4 x5 => ?_⟩
      · rw [xput_off x, xput_off x, xput_off x, xput_off (by omega), xput_off (by omega), xput_off (by omega), xput_off (by omega), xput_off (by omega), xput_off (by omega), xput_off (by omega), xput_off (by omega), xput_off (by omega), xput_off x, xZr_o _ _ _ x]
      · simp only [xput_at, Nat.reduceEqDiff, reduceIte, x1, x2, x3, x5]
        exact xZr_j _ _ _ x4 x5
    by_cases c : E = 0
    · rw [if_pos c, if_pos c]; exact fin 6
    · rw [if_neg c, if_neg c]; exact fin E
/-- reading what was opened -/
theorem xOc_o (hc : xI) (V E : Int32) (d v : Nat) (w n P : Int32) {k : Nat} (h1 : k ≠ 13) (h2 : ¬ (14 ≤ k ∧ k ≤ 18)) (h3 : k ≠ 9) (h4 : k ≠ 8) : xOc hc V E d v w n P k = hc k := by
  unfold xOc
  rw [xput_off h4, xput_off h3, xput_off h1, xput_off (by omega), xput_off (by omega), xput_off (by omega), xput_off (by omega), xput_off (by omega), xZc_o _ _ _ h1]
theorem xOc_r (hc : xI) (V E : Int32) (d v : Nat) (w n P : Int32) (i : Nat) : xOc hc V E d v w n P 14 i = (if i = d then w else hc 14 i) ∧ xOc hc V E d v w n P 15 i = (if i = d then n else hc 15 i) ∧ xOc hc V E d v w n P 16 i = (if i = d then V else hc 16 i) ∧ xOc hc V E d v w n P 17 i = (if i = d then 1 else hc 17 i) ∧ xOc hc V E d v w n P 18 i = (if i = d then P else hc 18 i) ∧ xOc hc V E d v w n P 9 i = (if i = v then V else hc 9 i) ∧ xOc hc V E d v w n P 8 i = (if i = v then -1 else hc 8 i) := by
  unfold xOc
  simp only [xput_at, Nat.reduceEqDiff, reduceIte, xZc_o hc V E (show (14 : Nat) ≠ 13 by omega), xZc_o hc V E (show (15 : Nat) ≠ 13 by omega), xZc_o hc V E (show (16 : Nat) ≠ 13 by omega), xZc_o hc V E (show (17 : Nat) ≠ 13 by omega), xZc_o hc V E (show (18 : Nat) ≠ 13 by omega), xZc_o hc V E (show (9 : Nat) ≠ 13 by omega), xZc_o hc V E (show (8 : Nat) ≠ 13 by omega)]
  exact ⟨trivial, trivial, trivial, trivial, trivial, trivial, trivial⟩
theorem xOc_13 (hc : xI) (V E : Int32) (d v : Nat) (w n P : Int32) (j : Nat) : xOc hc V E d v w n P 13 j = if j = 6 then hc 13 6 + 1 else if j = 7 then V else if j = 9 then E else hc 13 j := by
  unfold xOc
  simp only [xput_at, Nat.reduceEqDiff, reduceIte]
  by_cases a : j = 6
  · rw [if_pos a, if_pos a]
  · rw [if_neg a, if_neg a]
    by_cases b : j = 7
    · rw [if_pos b, b, xZc_v]
    · rw [if_neg b]
      by_cases c : j = 9
      · rw [if_pos c, c, xZc_e]
      · rw [if_neg c, xZc_j _ _ _ b c]
theorem xOr_o (hr : xI) (V E : Int32) (N v : Nat) (w n P : Int32) {k : Nat} (h1 : k ≠ 27) (h2 : ¬ (33 ≤ k ∧ k ≤ 40)) (h3 : k ≠ 42) : xOr hr V E N v w n P k = hr k := by
  unfold xOr
  rw [xput_off h1, xput_off h1, xput_off h3, xput_off (by omega), xput_off (by omega), xput_off (by omega), xput_off (by omega), xput_off (by omega), xput_off (by omega), xput_off (by omega), xput_off (by omega), xput_off h1, xZr_o _ _ _ h1]
theorem xOr_r (hr : xI) (V E : Int32) (N v : Nat) (w n P : Int32) (i : Nat) : xOr hr V E N v w n P 33 i = (if i = N then w else hr 33 i) ∧ xOr hr V E N v w n P 34 i = (if i = N then n else hr 34 i) ∧ xOr hr V E N v w n P 35 i = (if i = N then V else hr 35 i) ∧ xOr hr V E N v w n P 36 i = (if i = N then hr 27 22 else hr 36 i) ∧ xOr hr V E N v w n P 37 i = (if i = N then P else hr 37 i) ∧ xOr hr V E N v w n P 38 i = (if i = N then -1 else hr 38 i) ∧ xOr hr V E N v w n P 39 i = (if i = N then -1 else hr 39 i) ∧ xOr hr V E N v w n P 40 i = (if i = N then 1 else hr 40 i) ∧ xOr hr V E N v w n P 42 i = (if i = v then hr 27 11 else hr 42 i) := by
  unfold xOr
  simp only [xput_at, Nat.reduceEqDiff, reduceIte, xZr_o hr V E (show (33 : Nat) ≠ 27 by omega), xZr_o hr V E (show (34 : Nat) ≠ 27 by omega), xZr_o hr V E (show (35 : Nat) ≠ 27 by omega), xZr_o hr V E (show (36 : Nat) ≠ 27 by omega), xZr_o hr V E (show (37 : Nat) ≠ 27 by omega), xZr_o hr V E (show (38 : Nat) ≠ 27 by omega), xZr_o hr V E (show (39 : Nat) ≠ 27 by omega), xZr_o hr V E (show (40 : Nat) ≠ 27 by omega), xZr_o hr V E (show (42 : Nat) ≠ 27 by omega)]
  exact ⟨trivial, trivial, trivial, trivial, trivial, trivial, trivial, trivial, trivial⟩
theorem xOr_27 (hr : xI) (V E : Int32) (N v : Nat) (w n P : Int32) (j : Nat) : xOr hr V E N v w n P 27 j = if j = 23 then hr 27 23 + 1 else if j = 22 then hr 27 11 else if j = 11 then hr 27 11 + 1 else if j = 24 then V else if j = 25 then E else hr 27 j := by
  unfold xOr
  simp only [xput_at, Nat.reduceEqDiff, reduceIte]
  by_cases a : j = 23
  · rw [if_pos a, if_pos a]
  · rw [if_neg a, if_neg a]
    by_cases b : j = 22
    · rw [if_pos b, if_pos b]
    · rw [if_neg b, if_neg b]
      by_cases c : j = 11
      · rw [if_pos c, if_pos c]
      · rw [if_neg c, if_neg c]
        by_cases d : j = 24
        · rw [if_pos d, d, xZr_v]
        · rw [if_neg d]
          by_cases e : j = 25
          · rw [if_pos e, e, xZr_e]
          · rw [if_neg e, xZr_j _ _ _ d e]
