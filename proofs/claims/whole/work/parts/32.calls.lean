/-! Calls: value. -/
theorem xthr1 {hr : xI} {v1 v2 v4 : Int32} : f_m_value_104 v1 v2 v4 hr = some (0, xput hr 27 0 1) := rfl
theorem RB.value {hc hr : xI} (R : RB hc hr) (hN : hr 27 1 = 2 → RN hc hr) (a b : Int32) (g : xJ) : ∃ k g' v hr', f_l_value a b hc g = some (k, g') ∧ f_m_value a b hr = some (v, hr') ∧ f_m_thrown hr' = k ∧ (k = 0 → lg_cmp (g' 51 0) v.toInt64 = 0) ∧ Post hc hr hc hr' := by
  have e0 : (0 : Int32).toInt = 0 := rfl
  have e1 : (1 : Int32).toInt = 1 := rfl
  have e4 : (4 : Int32).toInt = 4 := rfl
  have e8 : (8 : Int32).toInt = 8 := rfl
  have no : ∀ {x : Option (Int32 × xJ)} {y : Option (Int32 × xI)}, x = some (1, g) → y = some (0, xput hr 27 0 1) → ∃ k g' v hr', x = some (k, g') ∧ y = some (v, hr') ∧ f_m_thrown hr' = k ∧ (k = 0 → lg_cmp (g' 51 0) v.toInt64 = 0) ∧ Post hc hr hc hr' := by
    intro x y hx hy
    exact ⟨_, _, _, _, hx, hy, rfl, fun h => absurd h (by decide), Post.thrown R 1⟩
  have yes : ∀ {x : Option (Int32 × xJ)} {y : Option (Int32 × xI)} (w : Int32), x = some (0, xputL g 51 0 w.toInt64) → y = some (w, xput hr 27 0 0) → ∃ k g' v hr', x = some (k, g') ∧ y = some (v, hr') ∧ f_m_thrown hr' = k ∧ (k = 0 → lg_cmp (g' 51 0) v.toInt64 = 0) ∧ Post hc hr hc hr' := by
    intro x y w hx hy
    exact ⟨_, _, _, _, hx, hy, rfl, fun _ => by rw [xputL_at]; exact lg_same _, Post.thrown R 0⟩
  unfold f_l_value f_w_value f_w_countOf f_m_value f_m_value_13 f_m_value_28
  rw [R.status]
  by_cases hs : hr 27 1 = 2
  · have N := hN hs
    have hcb := N.callsB
    have hdb := N.depthB
    have hc1 : (hr 27 35 - 1).toInt = (hr 27 35).toInt - 1 := by rw [xi_sub (by omega) (by omega), e1]
    rw [if_pos hs, if_pos hs, if_neg (by decide), xgd_ok (by omega) (by omega)]
    unfold f_m_value_54 f_m_value_81 f_m_value_91 f_m_value_109
    simp only [xthr1]
    by_cases hb : b < 0
    · simp only [if_pos hb]
      refine no rfl ?_
      by_cases ha0 : a = 0
      · rw [if_pos ha0, if_neg (by decide)]
      · rw [if_neg ha0]
        by_cases ha1 : a = 1
        · obtain ⟨h1, h2, h3⟩ := N.callee (hr 27 35 - 1).toNatClampNeg (by rw [xi_nat]; omega)
          have hf := R.fnsB
          rw [if_pos ha1, if_neg (by decide), xgd_ok h2 (by omega), xgd_ok h2 (by omega)]
        · rw [if_neg ha1]
          split <;> rfl
    · simp only [if_neg hb]
      rw [xi_lt, e0] at hb
      by_cases ha0 : a = 0
      · subst ha0
        rw [if_neg (by decide), if_pos rfl, if_pos rfl, if_neg (by decide), N.depth]
        show ∃ k g' v hr', ((if b < hr 27 33 then _ else _ : Option (Int32 ⊕ Nat)).bind _) = _ ∧ _
        by_cases hl : b < hr 27 33
        · rw [if_pos hl, if_pos hl]
          rw [xi_lt] at hl
          rw [if_pos rfl, xgd_ok (by omega) (by omega), if_pos (by decide), if_pos rfl, xgd_ok (by omega) (by omega)]
          refine yes _ rfl ?_
          rw [N.stack b.toNatClampNeg (by rw [xi_nat]; omega)]
        · rw [if_neg hl, if_neg hl]
          exact no rfl rfl
      · rw [if_neg ha0]
        by_cases ha1 : a = 1
        · subst ha1
          obtain ⟨h1, h2, h3⟩ := N.callee (hr 27 35 - 1).toNatClampNeg (by rw [xi_nat]; omega)
          have hf := R.fnsB
          have hp := R.parsB (hr 47 (hr 27 35 - 1).toNatClampNeg).toNatClampNeg
          have hq := R.locsB (hr 47 (hr 27 35 - 1).toNatClampNeg).toNatClampNeg
          rw [if_pos rfl, if_neg (by decide), xgd_ok h2 (by omega), xgd_ok h2 (by omega), if_neg (by decide), if_neg ha0, if_pos rfl]
          unfold f_h_localCount
          rw [N.calls, xgd_ok (by omega) (by omega), h1, xgd_ok h2 (by omega), R.locs]
          show ∃ k g' v hr', ((if b < hr 30 _ + hr 31 _ then _ else _ : Option (Int32 ⊕ Nat)).bind _) = _ ∧ _
          have hpl : (hr 30 (hr 47 (hr 27 35 - 1).toNatClampNeg).toNatClampNeg + hr 31 (hr 47 (hr 27 35 - 1).toNatClampNeg).toNatClampNeg).toInt = _ := xi_add (by omega) (by omega)
          by_cases hl : b < hr 30 (hr 47 (hr 27 35 - 1).toNatClampNeg).toNatClampNeg + hr 31 (hr 47 (hr 27 35 - 1).toNatClampNeg).toNatClampNeg
          · rw [if_pos hl, if_pos hl]
            rw [xi_lt, hpl] at hl
            have hm1 : (8 * (hr 27 35 - 1)).toInt = 8 * ((hr 27 35).toInt - 1) := by rw [xi_mul (by rw [e8, hc1]; omega) (by rw [e8, hc1]; omega), e8, hc1]
            have hm2 : ((hr 27 35 - 1) * 8).toInt = ((hr 27 35).toInt - 1) * 8 := by rw [xi_mul (by rw [e8, hc1]; omega) (by rw [e8, hc1]; omega), e8, hc1]
            have hm3 : (8 * (hr 27 35 - 1) + b).toInt = 8 * ((hr 27 35).toInt - 1) + b.toInt := by rw [xi_add (by omega) (by omega), hm1]
            have hm4 : ((hr 27 35 - 1) * 8 + b).toInt = ((hr 27 35).toInt - 1) * 8 + b.toInt := by rw [xi_add (by omega) (by omega), hm2]
            rw [if_neg ha0, if_pos rfl, if_pos (by decide), if_neg ha0, if_pos rfl, xgd_ok (by omega) (by omega)]
            unfold f_h_localAt f_h_localPlace
            rw [N.calls, xgd_ok (by omega) (by omega)]
            refine yes _ rfl ?_
            have ei : ((hr 27 35 - 1) * 8 + b).toNatClampNeg = 8 * ((hr 27 35).toInt - 1).toNat + b.toInt.toNat := by rw [xi_nat, hm4]; omega
            have ej : (8 * (hr 27 35 - 1) + b).toNatClampNeg = 8 * ((hr 27 35).toInt - 1).toNat + b.toInt.toNat := by rw [xi_nat, hm3]; omega
            rw [ei, ej, N.locl _ _ (by omega) (by omega)]
          · rw [if_neg hl, if_neg hl]
            exact no rfl rfl
        · rw [if_neg ha1]
          by_cases ha2 : a = 2
          · subst ha2
            rw [if_pos rfl, if_pos rfl]
            show ∃ k g' v hr', ((if b < (4 : Int32) then _ else _ : Option (Int32 ⊕ Nat)).bind _) = _ ∧ _
            by_cases hl : b < 4
            · rw [if_pos hl, if_pos hl]
              rw [xi_lt, e4] at hl
              rw [if_neg (by decide), if_neg (by decide), xgd_ok (by omega) (by omega), if_pos (by decide), if_neg (by decide), if_neg (by decide), xgd_ok (by omega) (by omega)]
              refine yes _ rfl ?_
              rw [R.glob]
            · rw [if_neg hl, if_neg hl]
              exact no rfl rfl
          · rw [if_neg ha2, if_neg ha2, if_neg ha0, if_neg ha1]
            have hl : ¬ b < 0 := by rw [xi_lt, e0]; exact hb
            show ∃ k g' v hr', ((if b < (0 : Int32) then _ else _ : Option (Int32 ⊕ Nat)).bind _) = _ ∧ _
            rw [if_neg hl, if_neg hl]
            exact no rfl rfl
  · rw [if_neg hs, if_neg hs, if_pos rfl, xgd_ok (by decide) (by decide)]
    unfold f_m_value_54 f_m_value_81 f_m_value_91 f_m_value_109
    simp only [xthr1, if_pos, ite_self]
    by_cases hb : b < 0
    · simp only [if_pos hb, ite_self]
      exact no rfl rfl
    · simp only [if_neg hb, ite_self]
      by_cases ha2 : a = 2
      · subst ha2
        rw [if_pos rfl, if_pos rfl]
        show ∃ k g' v hr', ((if b < (4 : Int32) then _ else _ : Option (Int32 ⊕ Nat)).bind _) = _ ∧ _
        rw [xi_lt, e0] at hb
        by_cases hl : b < 4
        · rw [if_pos hl, if_pos hl]
          rw [xi_lt, e4] at hl
          rw [if_neg (by decide), if_neg (by decide), xgd_ok (by omega) (by omega), if_pos (by decide), if_neg (by decide), if_neg (by decide), xgd_ok (by omega) (by omega)]
          refine yes _ rfl ?_
          rw [R.glob]
        · rw [if_neg hl, if_neg hl]
          exact no rfl rfl
      · rw [if_neg ha2, if_neg ha2]
        show ∃ k g' v hr', ((if b < (0 : Int32) then _ else _ : Option (Int32 ⊕ Nat)).bind _) = _ ∧ _
        rw [if_neg hb]
        exact no rfl rfl
