/-! Instructions that only take and put values. -/
theorem xCnd_unr {hc hr : xI} {N : Int} {G : Nat → Nat → Int → Prop} {f p : Nat} {v : Int} (W : xWd hr f p) (hw : hr 28 p = 0) : xCnd hc hr N G f p v := by
  have no0 : ¬ (hr 28 p = 2 ∨ hr 28 p = 3) := by rw [hw]; decide
  have no1 : ¬ (hr 28 p = 4) := by rw [hw]; decide
  have no2 : ¬ (hr 28 p = 5) := by rw [hw]; decide
  have no3 : ¬ (hr 28 p = 11) := by rw [hw]; decide
  have no4 : ¬ (hr 28 p = 12) := by rw [hw]; decide
  have no5 : ¬ (hr 28 p = 13) := by rw [hw]; decide
  have no6 : ¬ (hr 28 p = 14) := by rw [hw]; decide
  have no7 : ¬ (hr 28 p = 15) := by rw [hw]; decide
  have no8 : ¬ (hr 28 p = 16) := by rw [hw]; decide
  have no9 : ¬ (hr 28 p = 1 ∨ 17 ≤ (hr 28 p).toInt) := by rw [hw]; decide
  exact ⟨W, fun e => False.elim (no0 e), fun e => False.elim (no1 e), fun e => False.elim (no2 e), fun e => False.elim (no3 e), fun e => False.elim (no4 e), fun e => False.elim (no5 e), fun e => False.elim (no6 e), fun e => False.elim (no7 e), fun e => False.elim (no8 e), fun e => False.elim (no9 e)⟩
theorem xCnd_br {hc hr : xI} {N : Int} {G : Nat → Nat → Int → Prop} {f p : Nat} {v : Int} (W : xWd hr f p) (hw : hr 28 p = 12) (b : xBr hc hr N G f p (p + 1) v) : xCnd hc hr N G f p v := by
  have no0 : ¬ (hr 28 p = 2 ∨ hr 28 p = 3) := by rw [hw]; decide
  have no1 : ¬ (hr 28 p = 4) := by rw [hw]; decide
  have no2 : ¬ (hr 28 p = 5) := by rw [hw]; decide
  have no3 : ¬ (hr 28 p = 11) := by rw [hw]; decide
  have no5 : ¬ (hr 28 p = 13) := by rw [hw]; decide
  have no6 : ¬ (hr 28 p = 14) := by rw [hw]; decide
  have no7 : ¬ (hr 28 p = 15) := by rw [hw]; decide
  have no8 : ¬ (hr 28 p = 16) := by rw [hw]; decide
  have no9 : ¬ (hr 28 p = 1 ∨ 17 ≤ (hr 28 p).toInt) := by rw [hw]; decide
  exact ⟨W, fun e => False.elim (no0 e), fun e => False.elim (no1 e), fun e => False.elim (no2 e), fun e => False.elim (no3 e), fun _ => b, fun e => False.elim (no5 e), fun e => False.elim (no6 e), fun e => False.elim (no7 e), fun e => False.elim (no8 e), fun e => False.elim (no9 e)⟩
theorem xCnd_brif {hc hr : xI} {N : Int} {G : Nat → Nat → Int → Prop} {f p : Nat} {v : Int} (W : xWd hr f p) (hw : hr 28 p = 13) (h1 : 1 ≤ v) (g : G 0 (p + 2) (v - 1)) (b : xBr hc hr N G f p (p + 1) (v - 1)) : xCnd hc hr N G f p v := by
  have no0 : ¬ (hr 28 p = 2 ∨ hr 28 p = 3) := by rw [hw]; decide
  have no1 : ¬ (hr 28 p = 4) := by rw [hw]; decide
  have no2 : ¬ (hr 28 p = 5) := by rw [hw]; decide
  have no3 : ¬ (hr 28 p = 11) := by rw [hw]; decide
  have no4 : ¬ (hr 28 p = 12) := by rw [hw]; decide
  have no6 : ¬ (hr 28 p = 14) := by rw [hw]; decide
  have no7 : ¬ (hr 28 p = 15) := by rw [hw]; decide
  have no8 : ¬ (hr 28 p = 16) := by rw [hw]; decide
  have no9 : ¬ (hr 28 p = 1 ∨ 17 ≤ (hr 28 p).toInt) := by rw [hw]; decide
  exact ⟨W, fun e => False.elim (no0 e), fun e => False.elim (no1 e), fun e => False.elim (no2 e), fun e => False.elim (no3 e), fun e => False.elim (no4 e), fun _ => ⟨h1, g, b⟩, fun e => False.elim (no6 e), fun e => False.elim (no7 e), fun e => False.elim (no8 e), fun e => False.elim (no9 e)⟩
theorem xCnd_table {hc hr : xI} {N : Int} {G : Nat → Nat → Int → Prop} {f p : Nat} {v : Int} (W : xWd hr f p) (hw : hr 28 p = 14) (h1 : 1 ≤ v) (b : ∀ i : Nat, (i : Int) ≤ (hr 28 (p + 1)).toInt → xBr hc hr N G f p (p + 2 + i) (v - 1)) : xCnd hc hr N G f p v := by
  have no0 : ¬ (hr 28 p = 2 ∨ hr 28 p = 3) := by rw [hw]; decide
  have no1 : ¬ (hr 28 p = 4) := by rw [hw]; decide
  have no2 : ¬ (hr 28 p = 5) := by rw [hw]; decide
  have no3 : ¬ (hr 28 p = 11) := by rw [hw]; decide
  have no4 : ¬ (hr 28 p = 12) := by rw [hw]; decide
  have no5 : ¬ (hr 28 p = 13) := by rw [hw]; decide
  have no7 : ¬ (hr 28 p = 15) := by rw [hw]; decide
  have no8 : ¬ (hr 28 p = 16) := by rw [hw]; decide
  have no9 : ¬ (hr 28 p = 1 ∨ 17 ≤ (hr 28 p).toInt) := by rw [hw]; decide
  exact ⟨W, fun e => False.elim (no0 e), fun e => False.elim (no1 e), fun e => False.elim (no2 e), fun e => False.elim (no3 e), fun e => False.elim (no4 e), fun e => False.elim (no5 e), fun _ => ⟨h1, b⟩, fun e => False.elim (no7 e), fun e => False.elim (no8 e), fun e => False.elim (no9 e)⟩
theorem xCnd_ret {hc hr : xI} {N : Int} {G : Nat → Nat → Int → Prop} {f p : Nat} {v : Int} (W : xWd hr f p) (hw : hr 28 p = 15) (h1 : (hr 32 f).toInt ≤ v) : xCnd hc hr N G f p v := by
  have no0 : ¬ (hr 28 p = 2 ∨ hr 28 p = 3) := by rw [hw]; decide
  have no1 : ¬ (hr 28 p = 4) := by rw [hw]; decide
  have no2 : ¬ (hr 28 p = 5) := by rw [hw]; decide
  have no3 : ¬ (hr 28 p = 11) := by rw [hw]; decide
  have no4 : ¬ (hr 28 p = 12) := by rw [hw]; decide
  have no5 : ¬ (hr 28 p = 13) := by rw [hw]; decide
  have no6 : ¬ (hr 28 p = 14) := by rw [hw]; decide
  have no8 : ¬ (hr 28 p = 16) := by rw [hw]; decide
  have no9 : ¬ (hr 28 p = 1 ∨ 17 ≤ (hr 28 p).toInt) := by rw [hw]; decide
  exact ⟨W, fun e => False.elim (no0 e), fun e => False.elim (no1 e), fun e => False.elim (no2 e), fun e => False.elim (no3 e), fun e => False.elim (no4 e), fun e => False.elim (no5 e), fun e => False.elim (no6 e), fun _ => h1, fun e => False.elim (no8 e), fun e => False.elim (no9 e)⟩
theorem xCnd_call {hc hr : xI} {N : Int} {G : Nat → Nat → Int → Prop} {f p : Nat} {v : Int} (W : xWd hr f p) (hw : hr 28 p = 16) (h : ∀ g : Nat, (hr 28 (p + 1)).toInt = g → (hr 30 g).toInt ≤ v ∧ G 0 (p + 2) (v - (hr 30 g).toInt + (hr 32 g).toInt)) : xCnd hc hr N G f p v := by
  have no0 : ¬ (hr 28 p = 2 ∨ hr 28 p = 3) := by rw [hw]; decide
  have no1 : ¬ (hr 28 p = 4) := by rw [hw]; decide
  have no2 : ¬ (hr 28 p = 5) := by rw [hw]; decide
  have no3 : ¬ (hr 28 p = 11) := by rw [hw]; decide
  have no4 : ¬ (hr 28 p = 12) := by rw [hw]; decide
  have no5 : ¬ (hr 28 p = 13) := by rw [hw]; decide
  have no6 : ¬ (hr 28 p = 14) := by rw [hw]; decide
  have no7 : ¬ (hr 28 p = 15) := by rw [hw]; decide
  have no9 : ¬ (hr 28 p = 1 ∨ 17 ≤ (hr 28 p).toInt) := by rw [hw]; decide
  exact ⟨W, fun e => False.elim (no0 e), fun e => False.elim (no1 e), fun e => False.elim (no2 e), fun e => False.elim (no3 e), fun e => False.elim (no4 e), fun e => False.elim (no5 e), fun e => False.elim (no6 e), fun e => False.elim (no7 e), fun _ => h, fun e => False.elim (no9 e)⟩
theorem xCnd_if {hc hr : xI} {N : Int} {G : Nat → Nat → Int → Prop} {f p : Nat} {v : Int} (W : xWd hr f p) (hw : hr 28 p = 4) (h1 : 1 ≤ v) (g : G 0 (p + 2) (v - 1)) {y : Nat} (h2 : (hr 42 p).toInt = y) (h3 : (y : Int) < N) (h4 : hr 33 y ≠ 0) (h5 : (hr 37 y).toInt = p) (h6 : G 3 y (v - 1)) : xCnd hc hr N G f p v := by
  have no0 : ¬ (hr 28 p = 2 ∨ hr 28 p = 3) := by rw [hw]; decide
  have no2 : ¬ (hr 28 p = 5) := by rw [hw]; decide
  have no3 : ¬ (hr 28 p = 11) := by rw [hw]; decide
  have no4 : ¬ (hr 28 p = 12) := by rw [hw]; decide
  have no5 : ¬ (hr 28 p = 13) := by rw [hw]; decide
  have no6 : ¬ (hr 28 p = 14) := by rw [hw]; decide
  have no7 : ¬ (hr 28 p = 15) := by rw [hw]; decide
  have no8 : ¬ (hr 28 p = 16) := by rw [hw]; decide
  have no9 : ¬ (hr 28 p = 1 ∨ 17 ≤ (hr 28 p).toInt) := by rw [hw]; decide
  exact ⟨W, fun e => False.elim (no0 e), fun _ => ⟨h1, g, y, h2, h3, h4, h5, h6⟩, fun e => False.elim (no2 e), fun e => False.elim (no3 e), fun e => False.elim (no4 e), fun e => False.elim (no5 e), fun e => False.elim (no6 e), fun e => False.elim (no7 e), fun e => False.elim (no8 e), fun e => False.elim (no9 e)⟩
theorem xCnd_else {hc hr : xI} {N : Int} {G : Nat → Nat → Int → Prop} {f p : Nat} {v : Int} (W : xWd hr f p) (hw : hr 28 p = 5) {x : Nat} (h1 : (hr 41 p).toInt = x) (h2 : (x : Int) < N) (h3 : (hr 38 x).toInt = p) (h4 : G 2 x v) : xCnd hc hr N G f p v := by
  have no0 : ¬ (hr 28 p = 2 ∨ hr 28 p = 3) := by rw [hw]; decide
  have no1 : ¬ (hr 28 p = 4) := by rw [hw]; decide
  have no3 : ¬ (hr 28 p = 11) := by rw [hw]; decide
  have no4 : ¬ (hr 28 p = 12) := by rw [hw]; decide
  have no5 : ¬ (hr 28 p = 13) := by rw [hw]; decide
  have no6 : ¬ (hr 28 p = 14) := by rw [hw]; decide
  have no7 : ¬ (hr 28 p = 15) := by rw [hw]; decide
  have no8 : ¬ (hr 28 p = 16) := by rw [hw]; decide
  have no9 : ¬ (hr 28 p = 1 ∨ 17 ≤ (hr 28 p).toInt) := by rw [hw]; decide
  exact ⟨W, fun e => False.elim (no0 e), fun e => False.elim (no1 e), fun _ => ⟨x, h1, h2, h3, h4⟩, fun e => False.elim (no3 e), fun e => False.elim (no4 e), fun e => False.elim (no5 e), fun e => False.elim (no6 e), fun e => False.elim (no7 e), fun e => False.elim (no8 e), fun e => False.elim (no9 e)⟩
theorem xCnd_end {hc hr : xI} {N : Int} {G : Nat → Nat → Int → Prop} {f p : Nat} {v : Int} (W : xWd hr f p) (hw : hr 28 p = 11) {x : Nat} (h1 : (hr 41 p).toInt = x) (h2 : (x : Int) < N) (h3 : (hr 33 x = 0 ∧ v = (hr 32 f).toInt ∧ (p : Int) + 1 = (hr 29 (f + 1)).toInt) ∨ (hr 33 x ≠ 0 ∧ G 0 (p + 1) v)) : xCnd hc hr N G f p v := by
  have no0 : ¬ (hr 28 p = 2 ∨ hr 28 p = 3) := by rw [hw]; decide
  have no1 : ¬ (hr 28 p = 4) := by rw [hw]; decide
  have no2 : ¬ (hr 28 p = 5) := by rw [hw]; decide
  have no4 : ¬ (hr 28 p = 12) := by rw [hw]; decide
  have no5 : ¬ (hr 28 p = 13) := by rw [hw]; decide
  have no6 : ¬ (hr 28 p = 14) := by rw [hw]; decide
  have no7 : ¬ (hr 28 p = 15) := by rw [hw]; decide
  have no8 : ¬ (hr 28 p = 16) := by rw [hw]; decide
  have no9 : ¬ (hr 28 p = 1 ∨ 17 ≤ (hr 28 p).toInt) := by rw [hw]; decide
  exact ⟨W, fun e => False.elim (no0 e), fun e => False.elim (no1 e), fun e => False.elim (no2 e), fun _ => ⟨x, h1, h2, h3⟩, fun e => False.elim (no4 e), fun e => False.elim (no5 e), fun e => False.elim (no6 e), fun e => False.elim (no7 e), fun e => False.elim (no8 e), fun e => False.elim (no9 e)⟩
theorem xCnd_block {hc hr : xI} {N : Int} {G : Nat → Nat → Int → Prop} {f p : Nat} {v : Int} (W : xWd hr f p) (hw : hr 28 p = 2 ∨ hr 28 p = 3) (g : G 0 (p + 2) v) : xCnd hc hr N G f p v := by
  have no1 : ¬ (hr 28 p = 4) := by rcases hw with hw | hw <;> rw [hw] <;> decide
  have no2 : ¬ (hr 28 p = 5) := by rcases hw with hw | hw <;> rw [hw] <;> decide
  have no3 : ¬ (hr 28 p = 11) := by rcases hw with hw | hw <;> rw [hw] <;> decide
  have no4 : ¬ (hr 28 p = 12) := by rcases hw with hw | hw <;> rw [hw] <;> decide
  have no5 : ¬ (hr 28 p = 13) := by rcases hw with hw | hw <;> rw [hw] <;> decide
  have no6 : ¬ (hr 28 p = 14) := by rcases hw with hw | hw <;> rw [hw] <;> decide
  have no7 : ¬ (hr 28 p = 15) := by rcases hw with hw | hw <;> rw [hw] <;> decide
  have no8 : ¬ (hr 28 p = 16) := by rcases hw with hw | hw <;> rw [hw] <;> decide
  have no9 : ¬ (hr 28 p = 1 ∨ 17 ≤ (hr 28 p).toInt) := by rcases hw with hw | hw <;> rw [hw] <;> decide
  exact ⟨W, fun _ => g, fun e => False.elim (no1 e), fun e => False.elim (no2 e), fun e => False.elim (no3 e), fun e => False.elim (no4 e), fun e => False.elim (no5 e), fun e => False.elim (no6 e), fun e => False.elim (no7 e), fun e => False.elim (no8 e), fun e => False.elim (no9 e)⟩
theorem xCnd_plain {hc hr : xI} {N : Int} {G : Nat → Nat → Int → Prop} {f p : Nat} {v : Int} (W : xWd hr f p) (hw : hr 28 p = 1 ∨ 17 ≤ (hr 28 p).toInt) (h1 : (f_m_eats (hr 28 p)).toInt ≤ v) (g : G 0 (p + 1 + (f_m_immediates (hr 28 p)).toInt.toNat) (v - (f_m_eats (hr 28 p)).toInt + (f_m_yields (hr 28 p)).toInt)) : xCnd hc hr N G f p v := by
  have no0 : ¬ (hr 28 p = 2 ∨ hr 28 p = 3) := by intro e; rcases e with e | e <;> rw [e] at hw <;> exact absurd hw (by decide)
  have no1 : ¬ (hr 28 p = 4) := by intro e; rw [e] at hw; exact absurd hw (by decide)
  have no2 : ¬ (hr 28 p = 5) := by intro e; rw [e] at hw; exact absurd hw (by decide)
  have no3 : ¬ (hr 28 p = 11) := by intro e; rw [e] at hw; exact absurd hw (by decide)
  have no4 : ¬ (hr 28 p = 12) := by intro e; rw [e] at hw; exact absurd hw (by decide)
  have no5 : ¬ (hr 28 p = 13) := by intro e; rw [e] at hw; exact absurd hw (by decide)
  have no6 : ¬ (hr 28 p = 14) := by intro e; rw [e] at hw; exact absurd hw (by decide)
  have no7 : ¬ (hr 28 p = 15) := by intro e; rw [e] at hw; exact absurd hw (by decide)
  have no8 : ¬ (hr 28 p = 16) := by intro e; rw [e] at hw; exact absurd hw (by decide)
  exact ⟨W, fun e => False.elim (no0 e), fun e => False.elim (no1 e), fun e => False.elim (no2 e), fun e => False.elim (no3 e), fun e => False.elim (no4 e), fun e => False.elim (no5 e), fun e => False.elim (no6 e), fun e => False.elim (no7 e), fun e => False.elim (no8 e), fun _ => ⟨h1, g⟩⟩
theorem xexch {hc hr : xI} {d y : Nat} (T : xTop hc hr d y) (a b : Int32) {an : Nat} (ha : a.toInt = an) (ha4 : an ≤ 4) (hb : 0 ≤ b.toInt) (hb1 : b.toInt ≤ 4) (V E : Int32) (hE : 0 ≤ E.toInt) (h2 : (hr 35 y).toInt ≤ V.toInt) (h3 : V.toInt ≤ 20) : ∃ V1 V2 E', f_k_exchange a b (xZc hc V E) = some (xZc hc V1 E') ∧ ((f_m_pop a (xZr hr V E)).bind fun q => f_m_push b q) = some (xZr hr V2 E') ∧ 0 ≤ E'.toInt ∧ (E ≠ 0 → E' ≠ 0) ∧ (E' = 0 → V1 = V2 ∧ (hr 35 y).toInt ≤ V2.toInt ∧ V2.toInt ≤ 20 ∧ (hr 40 y ≠ 0 → V2.toInt = V.toInt - an + b.toInt ∧ (hr 35 y).toInt + an ≤ V.toInt)) := by
  obtain ⟨V', E1, p1, p2, p3, p4, p5, p6⟩ := xpops T a ha ha4 V E h2 (by omega)
  have t9 := T.2.2.2.2.2.2.2.2.1
  obtain ⟨U1, U2, E2, q1, q2, q3, q4⟩ := xpushs (hc := hc) (hr := hr) b V' E1 (by omega) (by omega) hb hb1
  have pos1 : 0 ≤ E1.toInt ∧ (E ≠ 0 → E1 ≠ 0) := by
    by_cases z : (hr 35 y).toInt ≤ V.toInt - an
    · rw [(p5 z).2]; exact ⟨hE, id⟩
    · rw [(p6 (by omega)).2]
      by_cases r : hr 40 y = 0
      · rw [if_pos r]; exact ⟨hE, id⟩
      · rw [if_neg r]; exact ⟨xE_pos (by decide) hE, fun _ => xE_ne (by decide)⟩
  refine ⟨U1, U2, E2, ?_, ?_, ?_, ?_, ?_⟩
  · unfold f_k_exchange
    rw [p1, Option.bind_some, q1, Option.bind_some]
  · rw [p2, Option.bind_some, q2]
  · by_cases z : V'.toInt + b.toInt ≤ 20
    · rw [(q3 z).2.2]; exact pos1.1
    · rw [q4 (by omega)]; exact xE_pos (by decide) pos1.1
  · intro hn
    by_cases z : V'.toInt + b.toInt ≤ 20
    · rw [(q3 z).2.2]; exact pos1.2 hn
    · rw [q4 (by omega)]; exact xE_ne (by decide)
  · intro z0
    by_cases z : V'.toInt + b.toInt ≤ 20
    · obtain ⟨r1, r2, r3⟩ := q3 z
      refine ⟨r1, by omega, by omega, fun hr0 => ?_⟩
      by_cases w : (hr 35 y).toInt ≤ V.toInt - an
      · have := (p5 w).1
        exact ⟨by omega, by omega⟩
      · have e := (p6 (by omega)).2
        rw [if_neg hr0] at e
        rw [r3, e] at z0
        exact absurd z0 (xE_ne (by decide))
    · rw [q4 (by omega)] at z0
      exact absurd z0 (xE_ne (by decide))
/-- the result of such an instruction -/
theorem xIt.values {A : Nat → Nat → Int → Prop} {hc hr : xI} {φ : Nat → Nat} {d f v : Nat} (P : xPre A hc hr φ d f v) (V1 V2 E : Int32) (hE : 0 ≤ E.toInt) (h : E = 0 → V1 = V2 ∧ (hr 35 (φ (d - 1))).toInt ≤ V2.toInt ∧ V2.toInt ≤ 20)
    (new : E = 0 → (∀ i, i < d → hr 40 (φ i) ≠ 0) → xLG (xA' A f v (xLive hr φ d)) (xZr (xput hr 41 v (hr 27 22)) V2 0) φ d f (v + xLen hr v) f 0 (v + xLen hr v) V2.toInt → xCnd (xZc hc V2 0) (xZr (xput hr 41 v (hr 27 22)) V2 0) (hr 27 11).toInt (xLG (xA' A f v (xLive hr φ d)) (xZr (xput hr 41 v (hr 27 22)) V2 0) φ d f (v + xLen hr v) f) f v (hr 27 24).toInt) : xIt hc hr f v (some (xZc hc V1 E)) (some (xZr (xput hr 41 v (hr 27 22)) V2 E)) := by
  obtain ⟨R, K, I, hd, hv, e1, e2, fn, pl, be, W, l1, l2⟩ := P
  obtain ⟨n1, n2⟩ := xlen_le W hv
  have F : ∀ V E U D, xFrm hc hr (xZc hc V E) (xZr (xput hr 41 v (hr 27 22)) U D) := by
    intro V E U D
    refine ⟨fun k a b => xZc_o _ _ _ (by omega), fun k a b => ?_, fun j a b c d e => ?_⟩
    · rw [xZr_o _ _ _ a, xput_off (by omega)]
    · rw [xZr_j _ _ _ d e, xput_off (by omega)]
  refine ⟨_, _, rfl, rfl, F _ _ _ _, by rw [xZc_e, xZr_e], by rw [xZr_e]; exact hE, fun j hj => xZc_j _ _ _ (by omega) (by omega), fun z => ?_⟩
  rw [xZr_e] at z
  subst z
  obtain ⟨u1, u2, u3⟩ := h rfl
  subst u1
  have r40 : ∀ j, xZr (xput hr 41 v (hr 27 22)) V1 0 40 j = hr 40 j := fun j => by rw [xZr_o _ _ _ (by omega), xput_off (by omega)]
  have r11 : xZr (xput hr 41 v (hr 27 22)) V1 0 27 11 = hr 27 11 := by rw [xZr_j _ _ _ (by omega) (by omega), xput_off (by omega)]
  have nx := new rfl
  refine ⟨xA' A f v (xLive hr φ d), φ, d, ?_, ?_⟩
  · refine K.same hd (fun k hk => xZc_o _ _ _ (by omega)) (fun k hk => xZc_o _ _ _ (by omega)) (xZc_j _ _ _ (by omega) (by omega)) (fun j hj => by rw [xZr_j _ _ _ (by omega) (by omega), xput_off (by omega)]) (fun k hk => by rw [xZr_o _ _ _ (by omega), xput_off (by omega)]) (fun b hb => ?_) (fun i hi => ?_) (by rw [xZc_v, xZr_v]) (by rw [xZr_v]; exact u3) (by rw [xZr_v]; exact u2) (by omega) n1
    · rw [xZr_o _ _ _ (by omega), xput_at, if_pos rfl, if_neg (by omega)]
    · rw [r40, xZc_o _ _ _ (by omega)]
      exact K.2.2.2.2.2.2.2.2.2.2.2.2.2.2.2.1 i hi
  · refine xGI_next K I (F _ _ _ _) hd n2 (by rw [r11]; exact Int.le_refl _) hv (fun y hy k a b => by rw [xZr_o _ _ _ (by omega), xput_off (by omega)]) (fun p hp => ⟨?_, ?_⟩) (fun b hb => by rw [xZc_o _ _ _ (by omega)]) (fun b hb => by rw [xZc_o _ _ _ (by omega)]) ?_ (fun L0 => xLp_same I.2.2.1 L0 (fun k hk i hi => by rw [xZr_o _ _ _ (by omega), xput_off (by omega)]) (fun j hj => by rw [r40]; exact id)) ?_ ?_
    · rw [xZr_o _ _ _ (by omega), xput_at, if_pos rfl, if_neg (by omega)]
    · rw [xZr_o _ _ _ (by omega), xput_off (by omega)]
    · intro q o
      obtain ⟨i, o1, o2, o3, o4⟩ := o
      exact ⟨i, o1, o2, o3, fun j hj => by rw [r40]; exact o4 j hj⟩
    · intro e
      unfold xLen
      rw [if_pos e]
      have := W.2.2.2.1 e
      omega
    · intro live
      rw [r11]
      refine nx live (xLG0 (.inr ⟨rfl, rfl, hd, fun i hi => by rw [r40]; exact live i hi, by rw [xZr_v]⟩))
/-- an immediate or none: the instruction's length -/
theorem xlen1 {hr : xI} {v : Nat} (h : hr 28 v ≠ 14) : v + xLen hr v = v + 1 + (f_m_immediates (hr 28 v)).toInt.toNat := by
  unfold xLen
  rw [if_neg h]
  omega
theorem xwd_z {hr hr' : xI} {f v : Nat} (W : xWd hr f v) (h : ∀ k, 28 ≤ k ∧ k ≤ 32 → hr' k = hr k) (m : hr' 27 4 = hr 27 4) : xWd hr' f v := by
  unfold xWd at W ⊢
  rw [h 28 (by omega), h 29 (by omega), h 30 (by omega), h 31 (by omega), m]
  exact W
/-- the plain words and calls -/
theorem xk_plain {A : Nat → Nat → Int → Prop} {hc hr : xI} {φ : Nat → Nat} {d f v : Nat} (P : xPre A hc hr φ d f v) (hw : hr 28 v = 1 ∨ 17 ≤ (hr 28 v).toInt) {F V3 : Int32} (hV : V3.toInt = v) : xIt hc hr f v (f_k_checkTyping (hr 28 v) hc) (f_m_check F V3 hr) := by
  have T := P.top
  have mc := xmcheck P (F := F) hV
  have P' := P
  obtain ⟨R, K, I, hd, hv, e1, e2, fn, pl, be, W, l1, l2⟩ := P'
  have h := K.height (i := d - 1) (by omega)
  have vb := K.2.2.2.2.1
  have hp : (hr 28 v).toInt = 1 ∨ 17 ≤ (hr 28 v).toInt := hw.imp (fun e => by rw [e]; rfl) id
  obtain ⟨tk1, tk2⟩ := xtakes W.1 hp
  have wf : ∀ w : Int32, f_o_shapeOf w ≠ -1 → (w.toInt = 1 ∨ 17 ≤ w.toInt) → (0 ≤ (f_m_eats w).toInt ∧ (f_m_eats w).toInt ≤ 4 ∧ 0 ≤ (f_m_yields w).toInt ∧ (f_m_yields w).toInt ≤ 4) ∧ (w ≠ 0 ∧ ¬ (w = 2 ∨ w = 3) ∧ w ≠ 4 ∧ w ≠ 5 ∧ w ≠ 11 ∧ w ≠ 12 ∧ w ≠ 13 ∧ w ≠ 14 ∧ w ≠ 15 ∧ w ≠ 16) := by
    intro w hw
    exact xop_known (P := fun w => (w.toInt = 1 ∨ 17 ≤ w.toInt) → (0 ≤ (f_m_eats w).toInt ∧ (f_m_eats w).toInt ≤ 4 ∧ 0 ≤ (f_m_yields w).toInt ∧ (f_m_yields w).toInt ≤ 4) ∧ (w ≠ 0 ∧ ¬ (w = 2 ∨ w = 3) ∧ w ≠ 4 ∧ w ≠ 5 ∧ w ≠ 11 ∧ w ≠ 12 ∧ w ≠ 13 ∧ w ≠ 14 ∧ w ≠ 15 ∧ w ≠ 16)) (by decide +kernel) w hw
  obtain ⟨⟨a1, a2, a3, a4⟩, n0, n2, n4, n5, n11, n12, n13, n14, n15, n16⟩ := wf _ W.1 hp
  have id1 : xZc hc (hr 27 24) 0 = hc := xZc_id K.2.2.2.1 e1
  have id2 : xZr (xput hr 41 v (hr 27 22)) (hr 27 24) 0 = xput hr 41 v (hr 27 22) := xZr_id (by rw [xput_off (by omega)]) (by rw [xput_off (by omega)]; exact e2)
  have h35 : xput hr 41 v (hr 27 22) 35 = hr 35 := xput_off (by omega)
  have h40 : xput hr 41 v (hr 27 22) 40 = hr 40 := xput_off (by omega)
  obtain ⟨U1, U2, E, q1, q2, q3, -, q4⟩ := xexch T (f_m_eats (hr 28 v)) (f_m_yields (hr 28 v)) (an := (f_m_eats (hr 28 v)).toInt.toNat) (by omega) (by omega) a3 a4 (hr 27 24) 0 (by decide) (by rw [h35]; exact h.2.2) vb.2
  rw [id1] at q1
  rw [id2] at q2
  rw [h35, h40] at q4
  have e2' : (2 : Int32).toInt = 2 := rfl
  have e4' : (4 : Int32).toInt = 4 := rfl
  have kt : f_k_checkTyping (hr 28 v) hc = some (xZc hc U1 E) := by
    unfold f_k_checkTyping
    rw [if_neg n0, if_neg n2, if_neg n4, if_neg n5, if_neg n11, if_neg n12, if_neg n13, if_neg n14, if_neg n15, if_neg n16, xbs, tk1, tk2]
    exact q1
  have mt : f_m_check F V3 hr = some (xZr (xput hr 41 v (hr 27 22)) U2 E) := by
    rw [mc, if_neg n4]
    have c69 : ∀ i, f_m_check_69 F V3 (hr 28 v) i (xput hr 41 v (hr 27 22)) = some (xZr (xput hr 41 v (hr 27 22)) U2 E) := by
      intro i
      unfold f_m_check_69
      rw [if_neg n5, if_neg n11, if_neg n12, if_neg n13, if_neg n14, if_neg n15, if_neg n0, if_neg n16]
      simp only [xbs]
      exact q2
    unfold f_m_check_48
    rw [c69]
    by_cases c : hr 28 v < 2
    · rw [if_pos c]
    · rw [if_neg c, if_pos]
      rw [xi_lt] at c ⊢
      omega
  rw [kt, mt]
  refine xIt.values P U1 U2 E q3 (fun z => ⟨(q4 z).1, (q4 z).2.1, (q4 z).2.2.1⟩) (fun z live nx => ?_)
  obtain ⟨s1, s2⟩ := (q4 z).2.2.2 (live _ (by omega))
  have r28 : xZr (xput hr 41 v (hr 27 22)) U2 0 28 = hr 28 := by rw [xZr_o _ _ _ (by omega), xput_off (by omega)]
  refine xCnd_plain (xwd_z W (fun k hk => by rw [xZr_o _ _ _ (by omega), xput_off (by omega)]) (by rw [xZr_j _ _ _ (by omega) (by omega), xput_off (by omega)])) ?_ ?_ ?_
  · rw [r28]; exact hw
  · rw [r28]; omega
  · rw [r28, ← xlen1 n14]
    have e : (hr 27 24).toInt - (f_m_eats (hr 28 v)).toInt + (f_m_yields (hr 28 v)).toInt = U2.toInt := by omega
    rw [e]
    exact nx
theorem xk_call {A : Nat → Nat → Int → Prop} {hc hr : xI} {φ : Nat → Nat} {d f v : Nat} (P : xPre A hc hr φ d f v) (hw : hr 28 v = 16) {F V3 : Int32} (hV : V3.toInt = v) : xIt hc hr f v (f_k_checkTyping (hr 28 v) hc) (f_m_check F V3 hr) := by
  have T := P.top
  have mc := xmcheck P (F := F) hV
  have im : f_m_immediates (hr 28 v) = 1 := by rw [hw]; decide
  have ki := xkimm P rfl (by rw [im]; decide) hc rfl rfl
  have P' := P
  obtain ⟨R, K, I, hd, hv, e1, e2, fn, pl, be, W, l1, l2⟩ := P'
  have h := K.height (i := d - 1) (by omega)
  have vb := K.2.2.2.2.1
  have fb := R.fnsB
  obtain ⟨w1, w2⟩ := W.2.2.2.2.1 hw
  obtain ⟨g, hg⟩ : ∃ g : Nat, (hr 28 (v + 1)).toInt = g := ⟨(hr 28 (v + 1)).toInt.toNat, by omega⟩
  have pb := R.parsB g
  have rb : 0 ≤ (hr 32 g).toInt ∧ (hr 32 g).toInt ≤ 4 := by
    rcases R.ressB g with e | e <;> rw [e] <;> decide
  have id1 : xZc hc (hr 27 24) 0 = hc := xZc_id K.2.2.2.1 e1
  have id2 : xZr (xput hr 41 v (hr 27 22)) (hr 27 24) 0 = xput hr 41 v (hr 27 22) := xZr_id (by rw [xput_off (by omega)]) (by rw [xput_off (by omega)]; exact e2)
  have h35 : xput hr 41 v (hr 27 22) 35 = hr 35 := xput_off (by omega)
  have h40 : xput hr 41 v (hr 27 22) 40 = hr 40 := xput_off (by omega)
  have h30 : xput hr 41 v (hr 27 22) 30 = hr 30 := xput_off (by omega)
  have h32 : xput hr 41 v (hr 27 22) 32 = hr 32 := xput_off (by omega)
  have gg : ∀ {α : Type} (x : Option α), xgd (hr 28 (v + 1)) 6 x = x := fun x => xgd_ok (by omega) (by omega)
  obtain ⟨U1, U2, E, q1, q2, q3, -, q4⟩ := xexch T (hr 30 g) (hr 32 g) (an := (hr 30 g).toInt.toNat) (by omega) (by omega) rb.1 rb.2 (hr 27 24) 0 (by decide) (by rw [h35]; exact h.2.2) vb.2
  obtain ⟨V', E1, p1, p2, -⟩ := xpops T (hr 30 g) (an := (hr 30 g).toInt.toNat) (by omega) (by omega) (hr 27 24) 0 (by rw [h35]; exact h.2.2) (by omega)
  rw [id1] at q1
  rw [id2] at q2 p2
  rw [h35, h40] at q4
  have kt : f_k_checkTyping (hr 28 v) hc = some (xZc hc U1 E) := by
    unfold f_k_checkTyping
    rw [hw]
    simp only [show ((16 : Int32) = 0) = False from by decide, show ((16 : Int32) = 2 ∨ (16 : Int32) = 3) = False from by decide, show ((16 : Int32) = 4) = False from by decide, show ((16 : Int32) = 5) = False from by decide, show ((16 : Int32) = 11) = False from by decide, show ((16 : Int32) = 12) = False from by decide, show ((16 : Int32) = 13) = False from by decide, show ((16 : Int32) = 14) = False from by decide, show ((16 : Int32) = 15) = False from by decide, if_false, if_true, ki, Option.bind_some, gg, xi_cl hg, R.pars, R.ress, xbs]
    exact q1
  have mt : f_m_check F V3 hr = some (xZr (xput hr 41 v (hr 27 22)) U2 E) := by
    rw [mc, hw, if_neg (by decide), ← hw, im, if_neg (by decide), hw]
    unfold f_m_check_48
    rw [if_neg (by decide), if_pos (by decide)]
    unfold f_m_check_69
    rw [if_neg (by decide), if_neg (by decide), if_neg (by decide), if_neg (by decide), if_neg (by decide), if_neg (by decide), if_neg (by decide), if_pos rfl, gg, xi_cl hg, h30, p2, Option.bind_some, gg, xbs, xZr_o _ _ _ (by omega), h32]
    rw [p2, Option.bind_some] at q2
    exact q2
  rw [kt, mt]
  refine xIt.values P U1 U2 E q3 (fun z => ⟨(q4 z).1, (q4 z).2.1, (q4 z).2.2.1⟩) (fun z live nx => ?_)
  obtain ⟨s1, s2⟩ := (q4 z).2.2.2 (live _ (by omega))
  have r28 : xZr (xput hr 41 v (hr 27 22)) U2 0 28 = hr 28 := by rw [xZr_o _ _ _ (by omega), xput_off (by omega)]
  have r30 : xZr (xput hr 41 v (hr 27 22)) U2 0 30 = hr 30 := by rw [xZr_o _ _ _ (by omega), xput_off (by omega)]
  have r32 : xZr (xput hr 41 v (hr 27 22)) U2 0 32 = hr 32 := by rw [xZr_o _ _ _ (by omega), xput_off (by omega)]
  refine xCnd_call (xwd_z W (fun k hk => by rw [xZr_o _ _ _ (by omega), xput_off (by omega)]) (by rw [xZr_j _ _ _ (by omega) (by omega), xput_off (by omega)])) ?_ ?_
  · rw [r28]; exact hw
  · intro g' hg'
    rw [r28] at hg'
    have : g' = g := by omega
    subst this
    rw [r30, r32]
    refine ⟨by omega, ?_⟩
    have l := xlen1 (v := v) (hr := hr) (by rw [hw]; decide)
    rw [im] at l
    have l2 : v + xLen hr v = v + 2 := l
    rw [l2] at nx ⊢
    have e : (hr 27 24).toInt - (hr 30 g').toInt + (hr 32 g').toInt = U2.toInt := by omega
    rw [e]
    exact nx
