/-! The instructions' words. -/
theorem xop_cases {P : Int32 → Prop} (h : ∀ k : Fin 121, P (Int32.ofNat k.val)) (ho : ∀ op : Int32, op.toInt < 0 ∨ 120 < op.toInt → P op) (op : Int32) : P op := by
  by_cases hr : op.toInt < 0 ∨ 120 < op.toInt
  · exact ho op hr
  · have e : op = Int32.ofNat op.toInt.toNat := by
      rw [xi_eq, xi_ofNat (by omega)]
      omega
    rw [e]
    exact h ⟨op.toInt.toNat, by omega⟩
theorem xnumeric_out (op : Int32) (h : op.toInt < 0 ∨ 120 < op.toInt) : f_o_isNumeric op = 0 := by
  simp only [f_o_isNumeric, f_o_isNumeric_12]
  repeat' split
  all_goals first | rfl | (exfalso; simp only [xi_eq, xi_lt, xi_le, Int32.reduceToInt] at *; omega)
theorem xshape_out (op : Int32) (h : op.toInt < 0 ∨ 120 < op.toInt) : f_o_shapeOf op = -1 := by
  unfold f_o_shapeOf
  rw [xnumeric_out op h, if_pos (c := (0 : Int32) = 0) rfl]
  repeat' split
  all_goals first | rfl | (exfalso; simp only [xi_eq, xi_lt, xi_le, Int32.reduceToInt] at *; omega)
theorem xknown_out_105 (op : Int32) (h : op.toInt < 0 ∨ 120 < op.toInt) : f_m_isKnown_105 op = 0 := by
  have n26 : ¬ op = 26 := by intro e; rw [e] at h; revert h; decide
  have n27 : ¬ op = 27 := by intro e; rw [e] at h; revert h; decide
  have n40 : ¬ op = 40 := by intro e; rw [e] at h; revert h; decide
  have n54 : ¬ op = 54 := by intro e; rw [e] at h; revert h; decide
  have n58 : ¬ op = 58 := by intro e; rw [e] at h; revert h; decide
  have n59 : ¬ op = 59 := by intro e; rw [e] at h; revert h; decide
  unfold f_m_isKnown_105
  simp only [n26, n27, n40, n54, n58, n59, if_false, xi_lt, xi_le, Int32.reduceToInt]
  repeat' split
  all_goals first | rfl | (exfalso; omega)
theorem xknown_out_93 (op : Int32) (h : op.toInt < 0 ∨ 120 < op.toInt) : f_m_isKnown_93 op = 0 := by
  have n26 : ¬ op = 26 := by intro e; rw [e] at h; revert h; decide
  have n27 : ¬ op = 27 := by intro e; rw [e] at h; revert h; decide
  have n40 : ¬ op = 40 := by intro e; rw [e] at h; revert h; decide
  have n54 : ¬ op = 54 := by intro e; rw [e] at h; revert h; decide
  have n58 : ¬ op = 58 := by intro e; rw [e] at h; revert h; decide
  have n59 : ¬ op = 59 := by intro e; rw [e] at h; revert h; decide
  unfold f_m_isKnown_93
  rw [xknown_out_105 op h]
  simp only [n26, n27, n40, n54, n58, n59, if_false, xi_lt, xi_le, Int32.reduceToInt]
  repeat' split
  all_goals first | rfl | (exfalso; omega)
theorem xknown_out_63 (op : Int32) (h : op.toInt < 0 ∨ 120 < op.toInt) : f_m_isKnown_63 op = 0 := by
  have n26 : ¬ op = 26 := by intro e; rw [e] at h; revert h; decide
  have n27 : ¬ op = 27 := by intro e; rw [e] at h; revert h; decide
  have n40 : ¬ op = 40 := by intro e; rw [e] at h; revert h; decide
  have n54 : ¬ op = 54 := by intro e; rw [e] at h; revert h; decide
  have n58 : ¬ op = 58 := by intro e; rw [e] at h; revert h; decide
  have n59 : ¬ op = 59 := by intro e; rw [e] at h; revert h; decide
  unfold f_m_isKnown_63
  rw [xknown_out_93 op h]
  simp only [n26, n27, n40, n54, n58, n59, if_false, xi_lt, xi_le, Int32.reduceToInt]
  repeat' split
  all_goals first | rfl | (exfalso; omega)
theorem xknown_out_45 (op : Int32) (h : op.toInt < 0 ∨ 120 < op.toInt) : f_m_isKnown_45 op = 0 := by
  have n26 : ¬ op = 26 := by intro e; rw [e] at h; revert h; decide
  have n27 : ¬ op = 27 := by intro e; rw [e] at h; revert h; decide
  have n40 : ¬ op = 40 := by intro e; rw [e] at h; revert h; decide
  have n54 : ¬ op = 54 := by intro e; rw [e] at h; revert h; decide
  have n58 : ¬ op = 58 := by intro e; rw [e] at h; revert h; decide
  have n59 : ¬ op = 59 := by intro e; rw [e] at h; revert h; decide
  unfold f_m_isKnown_45
  rw [xknown_out_63 op h]
  simp only [n26, n27, n40, n54, n58, n59, if_false, xi_lt, xi_le, Int32.reduceToInt]
  repeat' split
  all_goals first | rfl | (exfalso; omega)
theorem xknown_out_21 (op : Int32) (h : op.toInt < 0 ∨ 120 < op.toInt) : f_m_isKnown_21 op = 0 := by
  have n26 : ¬ op = 26 := by intro e; rw [e] at h; revert h; decide
  have n27 : ¬ op = 27 := by intro e; rw [e] at h; revert h; decide
  have n40 : ¬ op = 40 := by intro e; rw [e] at h; revert h; decide
  have n54 : ¬ op = 54 := by intro e; rw [e] at h; revert h; decide
  have n58 : ¬ op = 58 := by intro e; rw [e] at h; revert h; decide
  have n59 : ¬ op = 59 := by intro e; rw [e] at h; revert h; decide
  unfold f_m_isKnown_21
  rw [xknown_out_45 op h]
  simp only [n26, n27, n40, n54, n58, n59, if_false, xi_lt, xi_le, Int32.reduceToInt]
  repeat' split
  all_goals first | rfl | (exfalso; omega)
theorem xknown_out_9 (op : Int32) (h : op.toInt < 0 ∨ 120 < op.toInt) : f_m_isKnown_9 op = 0 := by
  have n26 : ¬ op = 26 := by intro e; rw [e] at h; revert h; decide
  have n27 : ¬ op = 27 := by intro e; rw [e] at h; revert h; decide
  have n40 : ¬ op = 40 := by intro e; rw [e] at h; revert h; decide
  have n54 : ¬ op = 54 := by intro e; rw [e] at h; revert h; decide
  have n58 : ¬ op = 58 := by intro e; rw [e] at h; revert h; decide
  have n59 : ¬ op = 59 := by intro e; rw [e] at h; revert h; decide
  unfold f_m_isKnown_9
  rw [xknown_out_21 op h]
  simp only [n26, n27, n40, n54, n58, n59, if_false, xi_lt, xi_le, Int32.reduceToInt]
  repeat' split
  all_goals first | rfl | (exfalso; omega)
theorem xknown_out (op : Int32) (h : op.toInt < 0 ∨ 120 < op.toInt) : f_m_isKnown op = 0 := by
  have n26 : ¬ op = 26 := by intro e; rw [e] at h; revert h; decide
  have n27 : ¬ op = 27 := by intro e; rw [e] at h; revert h; decide
  have n40 : ¬ op = 40 := by intro e; rw [e] at h; revert h; decide
  have n54 : ¬ op = 54 := by intro e; rw [e] at h; revert h; decide
  have n58 : ¬ op = 58 := by intro e; rw [e] at h; revert h; decide
  have n59 : ¬ op = 59 := by intro e; rw [e] at h; revert h; decide
  unfold f_m_isKnown
  rw [xknown_out_9 op h]
  simp only [n26, n27, n40, n54, n58, n59, if_false, xi_lt, xi_le, Int32.reduceToInt]
  repeat' split
  all_goals first | rfl | (exfalso; omega)
theorem ximm_out (op : Int32) (h : op.toInt < 0 ∨ 120 < op.toInt) : f_m_immediates op = 0 := by
  have n12 : ¬ op = 12 := by intro e; rw [e] at h; revert h; decide
  have n13 : ¬ op = 13 := by intro e; rw [e] at h; revert h; decide
  have n14 : ¬ op = 14 := by intro e; rw [e] at h; revert h; decide
  have n16 : ¬ op = 16 := by intro e; rw [e] at h; revert h; decide
  have n26 : ¬ op = 26 := by intro e; rw [e] at h; revert h; decide
  have n27 : ¬ op = 27 := by intro e; rw [e] at h; revert h; decide
  have n40 : ¬ op = 40 := by intro e; rw [e] at h; revert h; decide
  have n54 : ¬ op = 54 := by intro e; rw [e] at h; revert h; decide
  have n58 : ¬ op = 58 := by intro e; rw [e] at h; revert h; decide
  have n59 : ¬ op = 59 := by intro e; rw [e] at h; revert h; decide
  have n65 : ¬ op = 65 := by intro e; rw [e] at h; revert h; decide
  simp only [f_m_immediates, f_m_immediates_64, f_m_immediates_46, f_m_immediates_10]
  simp only [n12, n13, n14, n16, n26, n27, n40, n54, n58, n59, n65, if_false, xi_lt, xi_le, Int32.reduceToInt]
  repeat' split
  all_goals first | rfl | (exfalso; omega)
/-- known words, and words with an immediate -/
theorem xops (op : Int32) : f_m_isKnown op = (if f_o_shapeOf op = -1 then 0 else 1) ∧ f_m_immediates op = (if f_o_shapeOf op = 0 ∨ f_o_shapeOf op = -1 then 0 else 1) := by
  refine xop_cases (P := fun op => f_m_isKnown op = (if f_o_shapeOf op = -1 then 0 else 1) ∧ f_m_immediates op = (if f_o_shapeOf op = 0 ∨ f_o_shapeOf op = -1 then 0 else 1)) (by decide +kernel) (fun op h => ?_) op
  show _ ∧ _
  rw [xshape_out op h, xknown_out op h, ximm_out op h]
  decide
/-- a known word lies within -/
theorem xknown_in {op : Int32} (h : f_o_shapeOf op ≠ -1) : 0 ≤ op.toInt ∧ op.toInt ≤ 120 := by
  by_cases hr : op.toInt < 0 ∨ 120 < op.toInt
  · exact absurd (xshape_out op hr) h
  · omega
/-- what holds of the known words can be tried word by word -/
theorem xop_known {P : Int32 → Prop} (h : ∀ k : Fin 121, f_o_shapeOf (Int32.ofNat k.val) ≠ -1 → P (Int32.ofNat k.val)) (op : Int32) (ho : f_o_shapeOf op ≠ -1) : P op := by
  obtain ⟨h0, h1⟩ := xknown_in ho
  have e : op = Int32.ofNat op.toInt.toNat := by
    rw [xi_eq, xi_ofNat (by omega)]
    omega
  rw [e] at ho ⊢
  exact h ⟨op.toInt.toNat, by omega⟩ ho
/-- what the plain words take and give -/
theorem xtakes {op : Int32} (ho : f_o_shapeOf op ≠ -1) (hp : op.toInt = 1 ∨ 17 ≤ op.toInt) : f_o_takes op = f_m_eats op ∧ f_o_gives op = f_m_yields op := by
  revert hp
  refine xop_known (P := fun op => op.toInt = 1 ∨ 17 ≤ op.toInt → f_o_takes op = f_m_eats op ∧ f_o_gives op = f_m_yields op) (by decide +kernel) op ho
theorem xbytes {op : Int32} (ho : f_o_shapeOf op = 7) : f_o_bytesOf op = f_m_bytesOf op := by
  have : f_o_shapeOf op = 7 → f_o_bytesOf op = f_m_bytesOf op := by
    refine xop_known (P := fun op => f_o_shapeOf op = 7 → f_o_bytesOf op = f_m_bytesOf op) (by decide +kernel) op (by rw [ho]; decide)
  exact this ho
