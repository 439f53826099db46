/-! Calls: value. -/
theorem xthr1 {hr : xI} {v1 v2 v4 : Int32} : f_m_value_104 v1 v2 v4 hr = some (0, xput hr 27 0 1) := rfl
/-- the reference's second half -/
theorem xval91 {hr : xI} {a b c s : Int32} {w : Int32} (h : 0 ≤ b.toInt → b.toInt < s.toInt → f_m_value_109 a b c 0 hr = some (w, xput hr 27 0 0)) : f_m_value_91 a b c s hr = if 0 ≤ b.toInt ∧ b.toInt < s.toInt then some (w, xput hr 27 0 0) else some (0, xput hr 27 0 1) := by
  have e0 : (0 : Int32).toInt = 0 := rfl
  unfold f_m_value_91
  rw [xthr1]
  by_cases hb : b < 0
  · rw [if_pos hb]
    rw [xi_lt, e0] at hb
    rw [if_neg (by omega)]
  · rw [if_neg hb]
    rw [xi_lt, e0] at hb
    by_cases hl : b < s
    · rw [if_pos hl]
      rw [xi_lt] at hl
      rw [if_pos (by omega)]
      exact h (by omega) hl
    · rw [if_neg hl]
      rw [xi_lt] at hl
      rw [if_neg (by omega)]
theorem xvalG {hr : xI} {b c : Int32} (h0 : 0 ≤ b.toInt) (h1 : b.toInt < (4 : Int32).toInt) : f_m_value_109 2 b c 0 hr = some (hr 44 b.toNatClampNeg, xput hr 27 0 0) := by
  have e4 : (4 : Int32).toInt = 4 := rfl
  unfold f_m_value_109
  rw [if_pos (by decide), if_neg (by decide), if_neg (by decide), xgd_ok h0 (by omega)]
theorem xval81 {hr : xI} {a b c : Int32} : f_m_value_81 a b c hr = if a = 2 then (if 0 ≤ b.toInt ∧ b.toInt < 4 then some (hr 44 b.toNatClampNeg, xput hr 27 0 0) else some (0, xput hr 27 0 1)) else some (0, xput hr 27 0 1) := by
  unfold f_m_value_81
  by_cases ha : a = 2
  · subst ha
    rw [if_pos rfl, if_pos rfl, xval91 (fun h0 h1 => xvalG h0 h1)]
    rfl
  · rw [if_neg ha, if_neg ha, xval91 (w := 0) (fun h0 h1 => absurd h1 (by show ¬ b.toInt < 0; omega))]
    rw [if_neg (by show ¬ (0 ≤ b.toInt ∧ b.toInt < 0); omega)]
/-- how many, and which value -/
def xcnt (a : Int32) (run : Prop) [Decidable run] (size pl : Int) : Int := if a = 2 then 4 else if run then (if a = 0 then size else if a = 1 then pl else 0) else 0
theorem xcnt2 {run : Prop} [Decidable run] {s p : Int} : xcnt 2 run s p = 4 := if_pos rfl
theorem xcnt0 {run : Prop} [Decidable run] {s p : Int} (h : run) : xcnt 0 run s p = s := by
  unfold xcnt
  rw [if_neg (by decide), if_pos h, if_pos rfl]
theorem xcnt1 {run : Prop} [Decidable run] {s p : Int} (h : run) : xcnt 1 run s p = p := by
  unfold xcnt
  rw [if_neg (by decide), if_pos h, if_neg (by decide), if_pos rfl]
theorem xcntN {a : Int32} {run : Prop} [Decidable run] {s p : Int} (h : ¬ run) (ha : ¬ a = 2) : xcnt a run s p = 0 := by
  unfold xcnt
  rw [if_neg ha, if_neg h]
theorem xcntX {a : Int32} {run : Prop} [Decidable run] {s p : Int} (h0 : ¬ a = 0) (h1 : ¬ a = 1) (h2 : ¬ a = 2) : xcnt a run s p = 0 := by
  unfold xcnt
  rw [if_neg h2, if_neg h0, if_neg h1, ite_self]
theorem RB.valueM {hc hr : xI} (R : RB hc hr) (hN : hr 27 1 = 2 → RN hc hr) (a b : Int32) (w : Int32)
    (w0 : hr 27 1 = 2 → a = 0 → w = hr 46 b.toNatClampNeg) (w1 : hr 27 1 = 2 → a = 1 → w = hr 50 (8 * (hr 27 35 - 1) + b).toNatClampNeg) (w2 : a = 2 → w = hr 44 b.toNatClampNeg) :
    f_m_value a b hr = if 0 ≤ b.toInt ∧ b.toInt < xcnt a (hr 27 1 = 2) (hr 27 33).toInt (hr 30 (hr 47 (hr 27 35 - 1).toNatClampNeg).toNatClampNeg + hr 31 (hr 47 (hr 27 35 - 1).toNatClampNeg).toNatClampNeg).toInt then some (w, xput hr 27 0 0) else some (0, xput hr 27 0 1) := by
  have e0 : (0 : Int32).toInt = 0 := rfl
  have e1 : (1 : Int32).toInt = 1 := rfl
  have e8 : (8 : Int32).toInt = 8 := rfl
  unfold f_m_value f_m_value_13 f_m_value_28
  by_cases hs : hr 27 1 = 2
  · have N := hN hs
    have hcb := N.callsB
    have hdb := N.depthB
    have hf := R.fnsB
    have hc1 : (hr 27 35 - 1).toInt = (hr 27 35).toInt - 1 := by rw [xi_sub (by omega) (by omega), e1]
    obtain ⟨h1, h2, h3⟩ := N.callee (hr 27 35 - 1).toNatClampNeg (by rw [xi_nat]; omega)
    rw [if_pos hs, if_neg (by decide), xgd_ok (by omega) (by omega)]
    by_cases ha0 : a = 0
    · subst ha0
      rw [xcnt0 hs, if_pos rfl, if_neg (by decide), w0 hs rfl]
      refine xval91 (fun g0 g1 => ?_)
      unfold f_m_value_109
      rw [if_pos (by decide), if_pos rfl, xgd_ok g0 (by omega)]
    · rw [if_neg ha0]
      unfold f_m_value_54
      by_cases ha1 : a = 1
      · subst ha1
        have hp := R.parsB (hr 47 (hr 27 35 - 1).toNatClampNeg).toNatClampNeg
        have hq := R.locsB (hr 47 (hr 27 35 - 1).toNatClampNeg).toNatClampNeg
        have hpl : (hr 30 (hr 47 (hr 27 35 - 1).toNatClampNeg).toNatClampNeg + hr 31 (hr 47 (hr 27 35 - 1).toNatClampNeg).toNatClampNeg).toInt = _ := xi_add (by omega) (by omega)
        have hm1 : (8 * (hr 27 35 - 1)).toInt = 8 * ((hr 27 35).toInt - 1) := by rw [xi_mul (by rw [e8, hc1]; omega) (by rw [e8, hc1]; omega), e8, hc1]
        rw [xcnt1 hs, if_pos rfl, if_neg (by decide), xgd_ok h2 (by omega), xgd_ok h2 (by omega), w1 hs rfl]
        refine xval91 (fun g0 g1 => ?_)
        rw [hpl] at g1
        have hm3 : (8 * (hr 27 35 - 1) + b).toInt = 8 * ((hr 27 35).toInt - 1) + b.toInt := by rw [xi_add (by omega) (by omega), hm1]
        unfold f_m_value_109
        rw [if_pos (by decide), if_neg (by decide), if_pos rfl, xgd_ok (by omega) (by omega)]
      · rw [if_neg ha1, xval81]
        by_cases ha2 : a = 2
        · subst ha2
          rw [if_pos rfl, xcnt2, w2 rfl]
        · rw [if_neg ha2, xcntX ha0 ha1 ha2, if_neg (by omega)]
  · rw [if_neg hs, if_pos rfl, xgd_ok (by decide) (by decide)]
    unfold f_m_value_54
    simp only [if_pos, ite_self, xval81]
    by_cases ha2 : a = 2
    · subst ha2
      rw [if_pos rfl, xcnt2, w2 rfl]
    · rw [if_neg ha2, xcntN hs ha2, if_neg (by omega)]
theorem RB.valueW {hc hr : xI} (R : RB hc hr) (hN : hr 27 1 = 2 → RN hc hr) (a b : Int32) (w : Int32)
    (w0 : hr 27 1 = 2 → a = 0 → w = hr 46 b.toNatClampNeg) (w1 : hr 27 1 = 2 → a = 1 → w = hr 50 (8 * (hr 27 35 - 1) + b).toNatClampNeg) (w2 : a = 2 → w = hr 44 b.toNatClampNeg) :
    f_w_value a b hc = if 0 ≤ b.toInt ∧ b.toInt < xcnt a (hr 27 1 = 2) (hr 27 33).toInt (hr 30 (hr 47 (hr 27 35 - 1).toNatClampNeg).toNatClampNeg + hr 31 (hr 47 (hr 27 35 - 1).toNatClampNeg).toNatClampNeg).toInt then some (.inl w) else some (.inr 2) := by
  have e0 : (0 : Int32).toInt = 0 := rfl
  have e1 : (1 : Int32).toInt = 1 := rfl
  have e4 : (4 : Int32).toInt = 4 := rfl
  have e8 : (8 : Int32).toInt = 8 := rfl
  unfold f_w_value f_w_value_13 f_w_countOf
  rw [R.status]
  by_cases hb : b < 0
  · rw [if_pos hb]
    rw [xi_lt, e0] at hb
    rw [if_neg (c := 0 ≤ b.toInt ∧ _) (by omega)]
  rw [if_neg hb]
  rw [xi_lt, e0] at hb
  have fin : ∀ (s : Int32) (X : Option (Int32 ⊕ Nat)), (b.toInt < s.toInt → X = some (.inl w)) → (if b < s then X else some (.inr 2)) = if 0 ≤ b.toInt ∧ b.toInt < s.toInt then some (.inl w) else some (.inr 2) := by
    intro s X h
    by_cases hl : b < s
    · rw [if_pos hl]
      rw [xi_lt] at hl
      rw [if_pos (by omega), h hl]
    · rw [if_neg hl]
      rw [xi_lt] at hl
      rw [if_neg (by omega)]
  by_cases ha2 : a = 2
  · subst ha2
    rw [xcnt2, if_pos rfl]
    refine fin 4 _ (fun hl => ?_)
    rw [if_neg (by decide), if_neg (by decide), xgd_ok (by omega) (by omega), w2 rfl, R.glob]
  rw [if_neg ha2]
  by_cases hs : hr 27 1 = 2
  · have N := hN hs
    have hcb := N.callsB
    have hdb := N.depthB
    have hf := R.fnsB
    have hc1 : (hr 27 35 - 1).toInt = (hr 27 35).toInt - 1 := by rw [xi_sub (by omega) (by omega), e1]
    obtain ⟨h1, h2, h3⟩ := N.callee (hr 27 35 - 1).toNatClampNeg (by rw [xi_nat]; omega)
    rw [if_pos hs]
    by_cases ha0 : a = 0
    · subst ha0
      rw [xcnt0 hs, if_pos rfl, N.depth]
      refine fin _ _ (fun hl => ?_)
      show (if (0 : Int32) = 0 then _ else _) = _
      rw [if_pos rfl, xgd_ok (by omega) (by omega), w0 hs rfl, N.stack b.toNatClampNeg (by rw [xi_nat]; omega)]
    rw [if_neg ha0]
    by_cases ha1 : a = 1
    · subst ha1
      have hp := R.parsB (hr 47 (hr 27 35 - 1).toNatClampNeg).toNatClampNeg
      have hq := R.locsB (hr 47 (hr 27 35 - 1).toNatClampNeg).toNatClampNeg
      have hpl : (hr 30 (hr 47 (hr 27 35 - 1).toNatClampNeg).toNatClampNeg + hr 31 (hr 47 (hr 27 35 - 1).toNatClampNeg).toNatClampNeg).toInt = _ := xi_add (by omega) (by omega)
      have hm1 : (8 * (hr 27 35 - 1)).toInt = 8 * ((hr 27 35).toInt - 1) := by rw [xi_mul (by rw [e8, hc1]; omega) (by rw [e8, hc1]; omega), e8, hc1]
      have hm2 : ((hr 27 35 - 1) * 8).toInt = ((hr 27 35).toInt - 1) * 8 := by rw [xi_mul (by rw [e8, hc1]; omega) (by rw [e8, hc1]; omega), e8, hc1]
      rw [xcnt1 hs, if_pos rfl]
      unfold f_h_localCount
      rw [N.calls, xgd_ok (by omega) (by omega), h1, xgd_ok h2 (by omega), R.locs]
      refine fin _ _ (fun hl => ?_)
      rw [hpl] at hl
      have hm3 : (8 * (hr 27 35 - 1) + b).toInt = 8 * ((hr 27 35).toInt - 1) + b.toInt := by rw [xi_add (by omega) (by omega), hm1]
      have hm4 : ((hr 27 35 - 1) * 8 + b).toInt = ((hr 27 35).toInt - 1) * 8 + b.toInt := by rw [xi_add (by omega) (by omega), hm2]
      rw [if_neg (by decide), if_pos rfl]
      unfold f_h_localAt f_h_localPlace
      rw [N.calls, xgd_ok (by omega) (by omega), w1 hs rfl]
      have ei : ((hr 27 35 - 1) * 8 + b).toNatClampNeg = 8 * ((hr 27 35).toInt - 1).toNat + b.toInt.toNat := by rw [xi_nat, hm4]; omega
      have ej : (8 * (hr 27 35 - 1) + b).toNatClampNeg = 8 * ((hr 27 35).toInt - 1).toNat + b.toInt.toNat := by rw [xi_nat, hm3]; omega
      rw [ei, ej, N.locl _ _ (by omega) (by omega)]
      rfl
    rw [if_neg ha1, xcntX ha0 ha1 ha2]
    refine fin 0 _ (fun hl => ?_)
    rw [e0] at hl
    omega
  · rw [if_neg hs, xcntN hs ha2]
    refine fin 0 _ (fun hl => ?_)
    rw [e0] at hl
    omega
theorem RB.value {hc hr : xI} (R : RB hc hr) (hN : hr 27 1 = 2 → RN hc hr) (a b : Int32) (g : xJ) : ∃ k g' v hr', f_l_value a b hc g = some (k, g') ∧ f_m_value a b hr = some (v, hr') ∧ f_m_thrown hr' = k ∧ (k = 0 → lg_cmp (g' 51 0) v.toInt64 = 0) ∧ Post hc hr hc hr' := by
  obtain ⟨w, w0, w1, w2⟩ : ∃ w, (hr 27 1 = 2 → a = 0 → w = hr 46 b.toNatClampNeg) ∧ (hr 27 1 = 2 → a = 1 → w = hr 50 (8 * (hr 27 35 - 1) + b).toNatClampNeg) ∧ (a = 2 → w = hr 44 b.toNatClampNeg) := by
    by_cases h0 : a = 0
    · exact ⟨_, fun _ _ => rfl, fun _ h => absurd (h0.symm.trans h) (by decide), fun h => absurd (h0.symm.trans h) (by decide)⟩
    · by_cases h1 : a = 1
      · exact ⟨_, fun _ h => absurd h h0, fun _ _ => rfl, fun h => absurd (h1.symm.trans h) (by decide)⟩
      · exact ⟨_, fun _ h => absurd h h0, fun _ h => absurd h h1, fun _ => rfl⟩
  unfold f_l_value
  rw [R.valueW hN a b w w0 w1 w2, R.valueM hN a b w w0 w1 w2]
  split
  · exact ⟨0, _, _, _, rfl, rfl, rfl, fun _ => by rw [xputL_at]; exact lg_same _, Post.thrown R 0⟩
  · exact ⟨1, _, _, _, rfl, rfl, rfl, fun h => absurd h (by decide), Post.thrown R 1⟩
