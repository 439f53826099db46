/-! Integers and states. -/
theorem xi_lt {a b : Int32} : a < b ↔ a.toInt < b.toInt := Int32.lt_iff_toInt_lt
theorem xi_le {a b : Int32} : a ≤ b ↔ a.toInt ≤ b.toInt := Int32.le_iff_toInt_le
theorem xi_eq {a b : Int32} : a = b ↔ a.toInt = b.toInt := Int32.toInt_inj.symm
theorem xi_nat (a : Int32) : a.toNatClampNeg = a.toInt.toNat := rfl
theorem xi_bm {x : Int} (h0 : -2147483648 ≤ x) (h1 : x < 2147483648) : x.bmod 4294967296 = x := by
  rw [Int.bmod_def]
  split <;> omega
theorem xi_add {a b : Int32} (h0 : -2147483648 ≤ a.toInt + b.toInt) (h1 : a.toInt + b.toInt < 2147483648) : (a + b).toInt = a.toInt + b.toInt := by
  rw [Int32.toInt_add]
  exact xi_bm h0 h1
theorem xi_sub {a b : Int32} (h0 : -2147483648 ≤ a.toInt - b.toInt) (h1 : a.toInt - b.toInt < 2147483648) : (a - b).toInt = a.toInt - b.toInt := by
  rw [Int32.toInt_sub]
  exact xi_bm h0 h1
theorem xi_rng (a : Int32) : -2147483648 ≤ a.toInt ∧ a.toInt < 2147483648 := ⟨a.le_toInt, a.toInt_lt⟩
theorem xi_ofNat {n : Nat} (h : n < 2147483648) : (Int32.ofNat n).toInt = n := by
  rw [Int32.toInt_ofNat']
  exact xi_bm (by omega) (by omega)
theorem xput_at (h : xI) (k j : Nat) (v : Int32) (k' j' : Nat) : xput h k j v k' j' = if k' = k then (if j' = j then v else h k' j') else h k' j' := by
  unfold xput upd
  by_cases e : k' = k
  · subst e; rw [if_pos rfl, if_pos rfl]
  · rw [if_neg e, if_neg e]
theorem xgd_ok {α : Type} {i : Int32} {n : Nat} {x : Option α} (h0 : 0 ≤ i.toInt) (h1 : i.toInt < n) : xgd i n x = x := by
  unfold xgd
  rw [if_neg]
  intro c
  rcases c with c | c
  · rw [xi_lt] at c
    have : (0 : Int32).toInt = 0 := rfl
    omega
  · rw [xi_nat] at c
    omega
