/-! Tools for the law. -/
def ExI (d mi : Nat) (f : xF) (v : Int32) : Prop := ∃ S', Ex d mi f (.inl (some (.int v)), S')
theorem ExI.of {d mi : Nat} {f f' : xF} {v : Int32} (h : ∀ r, Ex d mi f' r → Ex d mi f r) (e : ExI d mi f' v) : ExI d mi f v := by
  obtain ⟨S', e⟩ := e
  exact ⟨S', h _ e⟩
theorem Ex.itep {d mi a b : Nat} {c : Prop} {_ : Decidable c} {f : xF} {ls : List (Option Value)} {st : List Value} {S : xS} {r : xO × xS} (h : xone d mi f = some (.inl (if c then a else b, ls, st, S))) (hc : c) (e : Ex d mi (a, ls, st, S) r) : Ex d mi f r := by
  rw [if_pos hc] at h
  exact Ex.next h e
theorem Ex.iten {d mi a b : Nat} {c : Prop} {_ : Decidable c} {f : xF} {ls : List (Option Value)} {st : List Value} {S : xS} {r : xO × xS} (h : xone d mi f = some (.inl (if c then a else b, ls, st, S))) (hc : ¬ c) (e : Ex d mi (b, ls, st, S) r) : Ex d mi f r := by
  rw [if_neg hc] at h
  exact Ex.next h e
theorem xble {a b : Nat} (h : a ≤ b) : Nat.ble a b = true := Nat.ble_eq.mpr h
theorem xbl {a b c z : Nat} (h : a ≤ c ∧ c ≤ a + 1 ∧ b ≤ z ∧ z ≤ b + 6) : (Nat.ble a c && Nat.ble b z) = true := by
  rw [xble h.1, xble h.2.2.1]
  rfl
theorem xbt (c z : Nat) : (Nat.ble (c - 1) c && Nat.ble (z - 6) z) = true := by
  rw [xble (Nat.sub_le _ _), xble (Nat.sub_le _ _)]
  rfl
