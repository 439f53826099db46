/-! Reading and writing memory in a run. -/
theorem xsx8B (x : BitVec 32) : (x <<< 24).sshiftRight 24 = (x.signExtend 8).signExtend 32 := by
  apply BitVec.eq_of_getLsbD_eq
  intro i hi
  rw [BitVec.getLsbD_sshiftRight, BitVec.getLsbD_signExtend, BitVec.msb_eq_getLsbD_last, BitVec.msb_eq_getLsbD_last]
  by_cases h : i < 8
  · rw [if_pos (by omega), if_pos h, BitVec.getLsbD_shiftLeft, BitVec.getLsbD_signExtend, if_pos (by omega)]
    have a : decide (32 ≤ i) = false := decide_eq_false (by omega)
    have b : decide (24 + i < 32) = true := decide_eq_true (by omega)
    have c : decide (24 + i < 24) = false := decide_eq_false (by omega)
    have d : decide (i < 8) = true := decide_eq_true h
    have e : decide (i < 32) = true := decide_eq_true hi
    rw [a, b, c, d, e, show 24 + i - 24 = i by omega]
    simp
  · rw [if_neg (by omega), if_neg h, BitVec.getLsbD_shiftLeft, BitVec.getLsbD_signExtend, if_pos (by omega)]
    have a : decide (32 ≤ i) = false := decide_eq_false (by omega)
    have e : decide (i < 32) = true := decide_eq_true hi
    rw [a, e]
    simp
theorem xsx16B (x : BitVec 32) : (x <<< 16).sshiftRight 16 = (x.signExtend 16).signExtend 32 := by
  apply BitVec.eq_of_getLsbD_eq
  intro i hi
  rw [BitVec.getLsbD_sshiftRight, BitVec.getLsbD_signExtend, BitVec.msb_eq_getLsbD_last, BitVec.msb_eq_getLsbD_last]
  by_cases h : i < 16
  · rw [if_pos (by omega), if_pos h, BitVec.getLsbD_shiftLeft, BitVec.getLsbD_signExtend, if_pos (by omega)]
    have a : decide (32 ≤ i) = false := decide_eq_false (by omega)
    have b : decide (16 + i < 32) = true := decide_eq_true (by omega)
    have c : decide (16 + i < 16) = false := decide_eq_false (by omega)
    have d : decide (i < 16) = true := decide_eq_true h
    have e : decide (i < 32) = true := decide_eq_true hi
    rw [a, b, c, d, e, show 16 + i - 16 = i by omega]
    simp
  · rw [if_neg (by omega), if_neg h, BitVec.getLsbD_shiftLeft, BitVec.getLsbD_signExtend, if_pos (by omega)]
    have a : decide (32 ≤ i) = false := decide_eq_false (by omega)
    have e : decide (i < 32) = true := decide_eq_true hi
    rw [a, e]
    simp
theorem xsx8 (r : Int32) : (r <<< ((24 : Int32) &&& 31)) >>> ((24 : Int32) &&& 31) = r.toInt8.toInt32 := Int32.toBitVec_inj.mp (xsx8B r.toBitVec)
theorem xsx16 (r : Int32) : (r <<< ((16 : Int32) &&& 31)) >>> ((16 : Int32) &&& 31) = r.toInt16.toInt32 := Int32.toBitVec_inj.mp (xsx16B r.toBitVec)
/-- what a load makes of the bytes -/
def xext (w r : Int32) : Int32 := if w = 44 then r.toInt8.toInt32 else if w = 46 then r.toInt16.toInt32 else r
theorem xread {h hr : xI} (M : ∀ j, hr 43 j = h 12 j &&& 255) (w b : Int32) (hb : 0 ≤ b.toInt) : ∀ (n : Nat) (acc i : Int32), -1 ≤ i.toInt → b.toInt + i.toInt < 256 → i.toInt + 1 < n → ∃ r, f_y_read_7 n b acc i h = some r ∧ f_m_load_13 n w b acc i hr = some (xext w r) := by
  have e0 : (0 : Int32).toInt = 0 := rfl
  have em : (-1 : Int32).toInt = -1 := rfl
  intro n
  induction n with
  | zero => intro acc i h0 h1 h2; omega
  | succ n ih =>
    intro acc i h0 h1 h2
    unfold f_y_read_7 f_m_load_13
    by_cases z : i.toInt < 0
    · rw [if_pos (by rw [xi_lt]; omega), if_pos (by rw [xi_lt]; omega)]
      refine ⟨acc, rfl, ?_⟩
      unfold xext
      by_cases c1 : w = 44
      · rw [if_pos c1, if_pos c1, xsx8]
      · rw [if_neg c1, if_neg c1]
        by_cases c2 : w = 46
        · rw [if_pos c2, if_pos c2, xsx16]
        · rw [if_neg c2, if_neg c2]
    · have s : (b + i).toInt = b.toInt + i.toInt := xi_add (by omega) (by omega)
      have d : (i + (-1 : Int32)).toInt = i.toInt - 1 := by rw [xi_add (by omega) (by omega), em]; omega
      rw [if_neg (by rw [xi_lt]; omega), if_neg (by rw [xi_lt]; omega), xgd_ok (by omega) (by omega), xgd_ok (by omega) (by omega), ← M]
      unfold f_y_read_31 f_m_load_35
      exact ih _ _ (by omega) (by omega) (by omega)
theorem xsh8 (x : Int32) : ∀ i : Nat, i < 3 → (x >>> ((8 * Int32.ofNat i) &&& 31)) >>> ((8 : Int32) &&& 31) = x >>> ((8 * Int32.ofNat (i + 1)) &&& 31) := by
  have k : ∀ a b : Nat, (x.toBitVec.sshiftRight a).sshiftRight b = x.toBitVec.sshiftRight (a + b) := by
    intro a b
    apply BitVec.eq_of_toInt_eq
    rw [BitVec.toInt_sshiftRight, BitVec.toInt_sshiftRight, BitVec.toInt_sshiftRight, Int.shiftRight_add]
  intro i hi
  match i with
  | 0 => exact Int32.toBitVec_inj.mp (k 0 8)
  | 1 => exact Int32.toBitVec_inj.mp (k 8 8)
  | 2 => exact Int32.toBitVec_inj.mp (k 16 8)
  | i + 3 => omega
theorem xwrite (w b x c : Int32) (hb : 0 ≤ b.toInt) (hc4 : c.toInt ≤ 4) (hbc : b.toInt + c.toInt ≤ 256) (hcw : f_m_bytesOf w = c) : ∀ (n i : Nat) (y : Int32) (h hr : xI), (∀ j, hr 43 j = h 12 j &&& 255) → (i : Int) ≤ c.toInt → c.toInt - i < n → ((i : Int) < c.toInt → y = x >>> ((8 * Int32.ofNat i) &&& 31)) → ∃ h' r', f_y_write_3 n b x c (Int32.ofNat i) h = some h' ∧ f_m_store_23 n w b y (Int32.ofNat i) hr = some (xput r' 27 33 (hr 27 33 - 2)) ∧ (∀ k, k ≠ 12 → h' k = h k) ∧ (∀ k, k ≠ 43 → r' k = hr k) ∧ ∀ j, r' 43 j = h' 12 j &&& 255 := by
  intro n
  induction n with
  | zero => intro i y h hr M h0 h1; omega
  | succ n ih =>
    intro i y h hr M h0 h1 hy
    have ei : (Int32.ofNat i).toInt = i := xi_ofNat (by omega)
    unfold f_y_write_3 f_m_store_23
    rw [hcw]
    by_cases z : c.toInt ≤ i
    · rw [if_pos (by rw [xi_le]; omega), if_pos (by rw [xi_le]; omega)]
      exact ⟨h, hr, rfl, rfl, fun _ _ => rfl, fun _ _ => rfl, M⟩
    · have s : (b + Int32.ofNat i).toInt = b.toInt + i := by rw [xi_add (by omega) (by omega), ei]
      have e1 : (1 : Int32).toInt = 1 := rfl
      have es : Int32.ofNat i + 1 = Int32.ofNat (i + 1) := by
        rw [xi_eq, xi_add (by omega) (by omega), ei, xi_ofNat (by omega), e1]
        omega
      rw [if_neg (by rw [xi_le]; omega), if_neg (by rw [xi_le]; omega), xgd_ok (by omega) (by omega), xgd_ok (by omega) (by omega), es]
      have ey := hy (by omega)
      obtain ⟨h', r', a1, a2, a3, a4, a5⟩ := ih (i + 1) (y >>> ((8 : Int32) &&& 31)) (xput h 12 (b + Int32.ofNat i).toNatClampNeg (vp_nar .byte ((x >>> (((8 : Int32) * Int32.ofNat i) &&& 31)).toInt8.toInt32))) (xput hr 43 (b + Int32.ofNat i).toNatClampNeg (y &&& 255)) (by
        intro j
        rw [xput_at, xput_at, if_pos rfl, if_pos rfl]
        by_cases e : j = (b + Int32.ofNat i).toNatClampNeg
        · rw [if_pos e, if_pos e, ey, xbyte]
        · rw [if_neg e, if_neg e]; exact M j) (by omega) (by omega) (by
        intro hi
        rw [ey]
        exact xsh8 x i (by omega))
      have e33 : xput hr 43 (b + Int32.ofNat i).toNatClampNeg (y &&& 255) 27 33 = hr 27 33 := by simp [xput_at]
      rw [e33] at a2
      refine ⟨h', r', a1, a2, fun k hk => ?_, fun k hk => ?_, a5⟩
      · rw [a3 k hk, xput_off hk]
      · rw [a4 k hk, xput_off hk]
/-- where a load or a store goes -/
theorem xplace {hc hr : xI} (R : RB hc hr) {p : Nat} (hp : (hr 27 32).toInt = p) (hq : p + 1 < 240) (w a : Int32) (ho : 0 ≤ (hr 28 (p + 1)).toInt) (n : Int) (hn : (f_m_bytesOf w).toInt = n) (h1 : 1 ≤ n) (h4 : n ≤ 4) :
    (0 ≤ (f_i_toUnsignedLong a + (hr 28 (p + 1)).toInt64).toInt) ∧ ((f_i_toUnsignedLong a + (hr 28 (p + 1)).toInt64).toInt + n ≤ 64 * (hr 27 27).toInt → f_m_place a w hr = some (f_i_toUnsignedLong a + (hr 28 (p + 1)).toInt64).toInt32 ∧ ((f_i_toUnsignedLong a + (hr 28 (p + 1)).toInt64).toInt32).toInt = (f_i_toUnsignedLong a + (hr 28 (p + 1)).toInt64).toInt) ∧
    (¬ (f_i_toUnsignedLong a + (hr 28 (p + 1)).toInt64).toInt + n ≤ 64 * (hr 27 27).toInt → f_m_place a w hr = some (-1)) ∧ (f_i_toUnsignedLong a + (hr 28 (p + 1)).toInt64).toInt < 9223372030000000000 := by
  have ua := xulV a
  have lt := a.toBitVec.isLt
  have ob := xi_rng (hr 28 (p + 1))
  have pb := R.pagesB
  have e64 : (64 : Int32).toInt = 64 := rfl
  have eo : (hr 28 (p + 1)).toInt64.toInt = (hr 28 (p + 1)).toInt := Int32.toInt_toInt64 _
  have eU : (f_i_toUnsignedLong a + (hr 28 (p + 1)).toInt64).toInt = (a.toBitVec.toNat : Int) + (hr 28 (p + 1)).toInt := by
    rw [xj_add (by omega) (by omega), ua, eo]
  obtain ⟨j1, j2⟩ := xi_cl1 hp (by omega)
  have en : (f_m_bytesOf w).toInt64.toInt = n := by rw [Int32.toInt_toInt64, hn]
  have eN : ((f_i_toUnsignedLong a + (hr 28 (p + 1)).toInt64) + (f_m_bytesOf w).toInt64).toInt = (f_i_toUnsignedLong a + (hr 28 (p + 1)).toInt64).toInt + n := by
    rw [xj_add (by omega) (by omega), en]
  have eP : ((64 * hr 27 27 : Int32).toInt64).toInt = 64 * (hr 27 27).toInt := by
    rw [Int32.toInt_toInt64, xi_mul (by rw [e64]; omega) (by rw [e64]; omega), e64]
  have c : lg_cmp ((f_i_toUnsignedLong a + (hr 28 (p + 1)).toInt64) + (f_m_bytesOf w).toInt64) ((64 * hr 27 27 : Int32).toInt64) ≤ 0 ↔ (f_i_toUnsignedLong a + (hr 28 (p + 1)).toInt64).toInt + n ≤ 64 * (hr 27 27).toInt := by
    have g := lg_cmp_gt ((f_i_toUnsignedLong a + (hr 28 (p + 1)).toInt64) + (f_m_bytesOf w).toInt64) ((64 * hr 27 27 : Int32).toInt64)
    rw [xj_lt, eN, eP] at g
    rw [xi_le]
    rw [xi_lt] at g
    omega
  have pl : f_m_place a w hr = if lg_cmp ((f_i_toUnsignedLong a + (hr 28 (p + 1)).toInt64) + (f_m_bytesOf w).toInt64) ((64 * hr 27 27 : Int32).toInt64) ≤ 0 then some (f_i_toUnsignedLong a + (hr 28 (p + 1)).toInt64).toInt32 else some (-1) := by
    unfold f_m_place
    rw [xgd_ok (by omega) (by omega), j2]
    rfl
  refine ⟨by omega, fun fit => ?_, fun nfit => ?_, by omega⟩
  · rw [pl, if_pos (c.mpr fit)]
    refine ⟨rfl, ?_⟩
    rw [Int64.toInt_toInt32]
    exact xi_bm (by omega) (by omega)
  · rw [pl, if_neg (fun q => nfit (c.mp q))]
