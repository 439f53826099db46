/-! A bit by a shift. -/
theorem xbit_amt : ∀ k : Fin 32, ((Int32.ofNat k.val &&& 31).toBitVec.smod 32#32).toNat = k.val := by decide +kernel
theorem xbit (a : Int32) (k : Nat) (hk : k < 32) : ((a >>> (Int32.ofNat k &&& 31)) &&& 1) = 1 ↔ a.toBitVec.getLsbD k = true := by
  rw [← Int32.toBitVec_inj]
  show (a.toBitVec.sshiftRight ((Int32.ofNat k &&& 31).toBitVec.smod 32#32).toNat) &&& 1#32 = 1#32 ↔ _
  rw [xbit_amt ⟨k, hk⟩]
  have e : (a.toBitVec.sshiftRight k).getLsbD 0 = a.toBitVec.getLsbD k := by
    rw [BitVec.getLsbD_sshiftRight]
    simp [hk]
  rw [BitVec.and_one_eq_setWidth_ofBool_getLsbD, e]
  cases a.toBitVec.getLsbD k <;> decide
