/-! The check's small operations. -/
def xZc (hc : xI) (V E : Int32) : xI := xput (xput hc 13 7 V) 13 9 E
def xZr (hr : xI) (V E : Int32) : xI := xput (xput hr 27 24 V) 27 25 E
theorem xZc_7 (hc : xI) (V E U : Int32) : xput (xZc hc V E) 13 7 U = xZc hc U E := by
  funext k j
  simp only [xZc, xput_at]
  by_cases a : k = 13
  · simp only [if_pos a]
    by_cases b : j = 7
    · rw [if_pos b, if_neg (by omega), if_pos b]
    · rw [if_neg b, if_neg b, if_neg b]
  · simp only [if_neg a]
theorem xZc_9 (hc : xI) (V E U : Int32) : xput (xZc hc V E) 13 9 U = xZc hc V U := by
  funext k j
  simp only [xZc, xput_at]
  by_cases a : k = 13
  · simp only [if_pos a]
    by_cases b : j = 9
    · rw [if_pos b, if_pos b]
    · rw [if_neg b, if_neg b, if_neg b]
  · simp only [if_neg a]
theorem xZr_24 (hr : xI) (V E U : Int32) : xput (xZr hr V E) 27 24 U = xZr hr U E := by
  funext k j
  simp only [xZr, xput_at]
  by_cases a : k = 27
  · simp only [if_pos a]
    by_cases b : j = 24
    · rw [if_pos b, if_neg (by omega), if_pos b]
    · rw [if_neg b, if_neg b, if_neg b]
  · simp only [if_neg a]
theorem xZr_25 (hr : xI) (V E U : Int32) : xput (xZr hr V E) 27 25 U = xZr hr V U := by
  funext k j
  simp only [xZr, xput_at]
  by_cases a : k = 27
  · simp only [if_pos a]
    by_cases b : j = 25
    · rw [if_pos b, if_pos b]
    · rw [if_neg b, if_neg b, if_neg b]
  · simp only [if_neg a]
theorem xZc_id {hc : xI} {V E : Int32} (h1 : hc 13 7 = V) (h2 : hc 13 9 = E) : xZc hc V E = hc := by
  funext k j
  simp only [xZc, xput_at]
  by_cases a : k = 13
  · simp only [if_pos a]
    by_cases b : j = 9
    · rw [if_pos b, a, b, h2]
    · rw [if_neg b]
      by_cases c : j = 7
      · rw [if_pos c, a, c, h1]
      · rw [if_neg c]
  · simp only [if_neg a]
theorem xZr_id {hr : xI} {V E : Int32} (h1 : hr 27 24 = V) (h2 : hr 27 25 = E) : xZr hr V E = hr := by
  funext k j
  simp only [xZr, xput_at]
  by_cases a : k = 27
  · simp only [if_pos a]
    by_cases b : j = 25
    · rw [if_pos b, a, b, h2]
    · rw [if_neg b]
      by_cases c : j = 24
      · rw [if_pos c, a, c, h1]
      · rw [if_neg c]
  · simp only [if_neg a]
theorem xZc_v (hc : xI) (V E : Int32) : xZc hc V E 13 7 = V := by simp [xZc, xput_at]
theorem xZc_e (hc : xI) (V E : Int32) : xZc hc V E 13 9 = E := by simp [xZc, xput_at]
theorem xZr_v (hr : xI) (V E : Int32) : xZr hr V E 27 24 = V := by simp [xZr, xput_at]
theorem xZr_e (hr : xI) (V E : Int32) : xZr hr V E 27 25 = E := by simp [xZr, xput_at]
theorem xZc_o (hc : xI) (V E : Int32) {k : Nat} (h : k ≠ 13) : xZc hc V E k = hc k := by
  unfold xZc
  rw [xput_off h, xput_off h]
theorem xZr_o (hr : xI) (V E : Int32) {k : Nat} (h : k ≠ 27) : xZr hr V E k = hr k := by
  unfold xZr
  rw [xput_off h, xput_off h]
theorem xZc_j (hc : xI) (V E : Int32) {j : Nat} (h1 : j ≠ 7) (h2 : j ≠ 9) : xZc hc V E 13 j = hc 13 j := by simp [xZc, xput_at, h1, h2]
theorem xZr_j (hr : xI) (V E : Int32) {j : Nat} (h1 : j ≠ 24) (h2 : j ≠ 25) : xZr hr V E 27 j = hr 27 j := by simp [xZr, xput_at, h1, h2]
def xErr (a E : Int32) : Int32 := if E = 0 then a else E
theorem kfail (a : Int32) (hc : xI) (V E : Int32) : f_k_fail a (xZc hc V E) = some (xZc hc V (xErr a E)) := by
  unfold f_k_fail xErr
  rw [xZc_e]
  by_cases h : E = 0
  · rw [if_pos h, if_pos h, xZc_9]
  · rw [if_neg h, if_neg h]
theorem mfail (a : Int32) (hr : xI) (V E : Int32) : f_m_fail a (xZr hr V E) = some (xZr hr V (xErr a E)) := by
  unfold f_m_fail f_m_fail_16 xErr
  rw [xZr_e]
  by_cases h : E = 0
  · rw [if_pos h, if_pos h, xZr_25]
  · rw [if_neg h, if_neg h, xZr_25]
/-- the frame on top, on both sides -/
def xTop (hc hr : xI) (d y : Nat) : Prop :=
  hc 13 6 = hr 27 23 ∧ (hr 27 23).toInt = d ∧ 1 ≤ d ∧ d ≤ 9 ∧ (hr 27 22).toInt = y ∧ y < 250 ∧ hc 16 (d - 1) = hr 35 y ∧ hc 17 (d - 1) = hr 40 y ∧ 0 ≤ (hr 35 y).toInt ∧ (hr 35 y).toInt ≤ 20
theorem xTop.z {hc hr : xI} {d y : Nat} (T : xTop hc hr d y) (V E U D : Int32) : xTop (xZc hc V E) (xZr hr U D) d y := by
  unfold xTop
  rw [xZc_j _ _ _ (by omega) (by omega), xZr_j _ _ _ (by omega) (by omega), xZr_j _ _ _ (by omega) (by omega), xZc_o _ _ _ (by omega), xZc_o _ _ _ (by omega), xZr_o _ _ _ (by omega), xZr_o _ _ _ (by omega)]
  exact T
theorem xTop.n {hc hr : xI} {d y : Nat} (T : xTop hc hr d y) : (hc 13 6 - 1).toInt = ((d - 1 : Nat) : Int) ∧ (hc 13 6 - 1).toNatClampNeg = d - 1 := by
  obtain ⟨t1, t2, t3, t4, -⟩ := T
  have e1 : (1 : Int32).toInt = 1 := rfl
  have e : (hc 13 6 - 1).toInt = ((d - 1 : Nat) : Int) := by rw [t1, xi_sub (by omega) (by omega)]; omega
  exact ⟨e, xi_cl e⟩
theorem xpop_loop {hc hr : xI} {d y : Nat} (T : xTop hc hr d y) (a : Int32) {an : Nat} (ha : a.toInt = an) (ha4 : an ≤ 4) : ∀ (n i : Nat) (V E : Int32), i ≤ an → an - i < n → (hr 35 y).toInt ≤ V.toInt → V.toInt ≤ 100 → ∃ V' E', f_k_popValues_9 n a (hc 13 6 - 1) (Int32.ofNat i) (xZc hc V E) = some (xZc hc V' E') ∧ f_m_pop_2 n a (Int32.ofNat i) (xZr hr V E) = some (xZr hr V' E') ∧ (hr 35 y).toInt ≤ V'.toInt ∧ V'.toInt ≤ V.toInt ∧ ((hr 35 y).toInt ≤ V.toInt - (an - i : Nat) → V'.toInt = V.toInt - (an - i : Nat) ∧ E' = E) ∧ (V.toInt - (an - i : Nat) < (hr 35 y).toInt → V'.toInt = (hr 35 y).toInt ∧ E' = if hr 40 y = 0 then E else xErr 2 E) := by
  have N := T.n
  obtain ⟨t1, t2, t3, t4, t5, t6, t7, t8, t9, t10⟩ := T
  have e1 : (1 : Int32).toInt = 1 := rfl
  intro n
  induction n with
  | zero => intro i V E h0 h1; omega
  | succ n ih =>
    intro i V E h0 h1 h2 h3
    have ei : (Int32.ofNat i).toInt = i := xi_ofNat (by omega)
    unfold f_k_popValues_9 f_m_pop_2
    by_cases z : i = an
    · rw [if_pos (by rw [xi_le]; omega), if_pos (by rw [xi_le]; omega)]
      refine ⟨V, E, rfl, rfl, h2, Int.le_refl _, fun _ => ⟨by omega, rfl⟩, fun _ => by omega⟩
    · have es : Int32.ofNat i + 1 = Int32.ofNat (i + 1) := by
        rw [xi_eq, xi_add (by omega) (by omega), ei, xi_ofNat (by omega), e1]
        omega
      have k22 : xZr hr V E 27 22 = hr 27 22 := xZr_j _ _ _ (by omega) (by omega)
      have k35 : xZr hr V E 35 = hr 35 := xZr_o _ _ _ (by omega)
      have k40 : xZr hr V E 40 = hr 40 := xZr_o _ _ _ (by omega)
      have c16 : xZc hc V E 16 = hc 16 := xZc_o _ _ _ (by omega)
      have c17 : xZc hc V E 17 = hc 17 := xZc_o _ _ _ (by omega)
      have hz : ¬ a ≤ Int32.ofNat i := by rw [xi_le]; omega
      have gF : ∀ {α : Type} (x : Option α), xgd (hc 13 6 - 1) 9 x = x := fun x => xgd_ok (by omega) (by omega)
      have gY : ∀ {α : Type} (x : Option α), xgd (hr 27 22) 250 x = x := fun x => xgd_ok (by omega) (by omega)
      simp only [if_neg hz, k22, gF, gY, N.2, xi_cl t5, xZc_v, xZr_v, c16, c17, k35, k40, t7, t8]
      unfold f_k_popValues_54 f_m_pop_53
      by_cases w : V ≤ hr 35 y
      · have wv : V.toInt = (hr 35 y).toInt := by rw [xi_le] at w; omega
        rw [if_pos w, if_pos w]
        by_cases r : hr 40 y = 0
        · rw [if_pos r, if_pos r, es]
          obtain ⟨V', E', p1, p2, p3, p4, p5, p6⟩ := ih (i + 1) V E (by omega) (by omega) h2 h3
          refine ⟨V', E', p1, p2, p3, p4, fun _ => by omega, fun _ => ?_⟩
          by_cases q : i + 1 = an
          · obtain ⟨q1, q2⟩ := p5 (by omega)
            exact ⟨by omega, by rw [q2, if_pos r]⟩
          · obtain ⟨q1, q2⟩ := p6 (by omega)
            exact ⟨q1, q2⟩
        · rw [if_neg r, if_neg r, kfail, mfail, Option.bind_some, Option.bind_some, es]
          obtain ⟨V', E', p1, p2, p3, p4, p5, p6⟩ := ih (i + 1) V (xErr 2 E) (by omega) (by omega) h2 h3
          refine ⟨V', E', p1, p2, p3, p4, fun _ => by omega, fun _ => ?_⟩
          by_cases q : i + 1 = an
          · obtain ⟨q1, q2⟩ := p5 (by omega)
            exact ⟨by omega, by rw [q2, if_neg r]⟩
          · obtain ⟨q1, q2⟩ := p6 (by omega)
            refine ⟨q1, ?_⟩
            rw [q2, if_neg r, if_neg r]
            unfold xErr
            by_cases e : E = 0
            · rw [if_pos e, if_neg (by decide)]
            · rw [if_neg e, if_neg e]
      · have wv : (hr 35 y).toInt < V.toInt := by rw [xi_le] at w; omega
        have s1 : (V - 1).toInt = V.toInt - 1 := by rw [xi_sub (by omega) (by omega), e1]
        rw [if_neg w, if_neg w, xZc_7, xZr_24, es]
        obtain ⟨V', E', p1, p2, p3, p4, p5, p6⟩ := ih (i + 1) (V - 1) E (by omega) (by omega) (by omega) (by omega)
        refine ⟨V', E', p1, p2, p3, by omega, fun _ => ?_, fun _ => ?_⟩
        · obtain ⟨q1, q2⟩ := p5 (by omega)
          exact ⟨by omega, q2⟩
        · exact p6 (by omega)
theorem xpops {hc hr : xI} {d y : Nat} (T : xTop hc hr d y) (a : Int32) {an : Nat} (ha : a.toInt = an) (ha4 : an ≤ 4) (V E : Int32) (h2 : (hr 35 y).toInt ≤ V.toInt) (h3 : V.toInt ≤ 100) : ∃ V' E', f_k_popValues a (xZc hc V E) = some (xZc hc V' E') ∧ f_m_pop a (xZr hr V E) = some (xZr hr V' E') ∧ (hr 35 y).toInt ≤ V'.toInt ∧ V'.toInt ≤ V.toInt ∧ ((hr 35 y).toInt ≤ V.toInt - an → V'.toInt = V.toInt - an ∧ E' = E) ∧ (V.toInt - an < (hr 35 y).toInt → V'.toInt = (hr 35 y).toInt ∧ E' = if hr 40 y = 0 then E else xErr 2 E) := by
  obtain ⟨V', E', p1, p2, p3, p4, p5, p6⟩ := xpop_loop T a ha ha4 1000 0 V E (by omega) (by omega) h2 h3
  refine ⟨V', E', ?_, ?_, p3, p4, p5, p6⟩
  · unfold f_k_popValues
    rw [xZc_j _ _ _ (by omega) (by omega)]
    exact p1
  · exact p2
theorem xpushs {hc hr : xI} (a V E : Int32) (h0 : 0 ≤ V.toInt) (h1 : V.toInt ≤ 100) (ha : 0 ≤ a.toInt) (ha1 : a.toInt ≤ 4) : ∃ V1 V2 E', f_k_pushValues a (xZc hc V E) = some (xZc hc V1 E') ∧ f_m_push a (xZr hr V E) = some (xZr hr V2 E') ∧ (V.toInt + a.toInt ≤ 20 → V1 = V2 ∧ V2.toInt = V.toInt + a.toInt ∧ E' = E) ∧ (20 < V.toInt + a.toInt → E' = xErr 6 E) := by
  have e20 : (20 : Int32).toInt = 20 := rfl
  have s : (V + a).toInt = V.toInt + a.toInt := xi_add (by omega) (by omega)
  unfold f_k_pushValues f_m_push
  rw [xZc_v, xZr_v]
  by_cases z : V.toInt + a.toInt ≤ 20
  · rw [if_pos (by rw [xi_le]; omega), if_pos (by rw [xi_le]; omega), xZc_7, xZr_24]
    exact ⟨V + a, V + a, E, rfl, rfl, fun _ => ⟨rfl, s, rfl⟩, fun _ => by omega⟩
  · rw [if_neg (by rw [xi_le]; omega), if_neg (by rw [xi_le]; omega), xZr_24, kfail, mfail, Option.bind_some, Option.bind_some]
    exact ⟨V, V + a, xErr 6 E, rfl, rfl, fun _ => by omega, fun _ => rfl⟩
theorem xE_ne {a E : Int32} (ha : a ≠ 0) : xErr a E ≠ 0 := by
  unfold xErr
  by_cases e : E = 0
  · rw [if_pos e]; exact ha
  · rw [if_neg e]; exact e
theorem xE_pos {a E : Int32} (ha : 0 ≤ a.toInt) (hE : 0 ≤ E.toInt) : 0 ≤ (xErr a E).toInt := by
  unfold xErr
  by_cases e : E = 0
  · rw [if_pos e]; exact ha
  · rw [if_neg e]; exact hE
