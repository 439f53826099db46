/-! Ones alike. -/
theorem xland2 (k a b m n : Nat) (ha : a < 2 ^ k) (hm : m < 2 ^ k) : (2 ^ k * b + a) &&& (2 ^ k * n + m) = 2 ^ k * (b &&& n) + (a &&& m) := by
  apply Nat.eq_of_testBit_eq
  intro i
  rw [Nat.testBit_and, Nat.testBit_two_pow_mul_add _ ha, Nat.testBit_two_pow_mul_add _ hm, Nat.testBit_two_pow_mul_add _ (Nat.and_lt_two_pow _ hm)]
  by_cases h : i < k
  · rw [if_pos h, if_pos h, if_pos h, Nat.testBit_and]
  · rw [if_neg h, if_neg h, if_neg h, Nat.testBit_and]
theorem xland4 (x0 x1 x2 x3 m : Nat) (h0 : x0 < 256) (h1 : x1 < 256) (h2 : x2 < 256) (hm : m < 256) : (16777216 * x3 + 65536 * x2 + 256 * x1 + x0) &&& (16843009 * m) = 16777216 * (x3 &&& m) + 65536 * (x2 &&& m) + 256 * (x1 &&& m) + (x0 &&& m) := by
  have a := xland2 8 x2 x3 m m h2 hm
  have b := xland2 8 x1 (2 ^ 8 * x3 + x2) m (2 ^ 8 * m + m) h1 hm
  have c := xland2 8 x0 (2 ^ 8 * (2 ^ 8 * x3 + x2) + x1) m (2 ^ 8 * (2 ^ 8 * m + m) + m) h0 hm
  rw [b, a] at c
  have e1 : 2 ^ 8 * (2 ^ 8 * (2 ^ 8 * x3 + x2) + x1) + x0 = 16777216 * x3 + 65536 * x2 + 256 * x1 + x0 := by omega
  have e2 : 2 ^ 8 * (2 ^ 8 * (2 ^ 8 * m + m) + m) + m = 16843009 * m := by omega
  rw [e1, e2] at c
  rw [c]
  omega
/-- the ones of a byte -/
def xp8 (t : Nat) : Nat := t % 2 + t / 2 % 2 + t / 4 % 2 + t / 8 % 2 + t / 16 % 2 + t / 32 % 2 + t / 64 % 2 + t / 128 % 2
theorem xpA : ∀ t : Fin 256, ∀ b : Fin 2, (t.val / 2 + 128 * b.val) &&& 85 = (t.val / 2) &&& 85 := by decide +kernel
theorem xpA' : ∀ t : Fin 256, (t.val / 2) &&& 85 ≤ t.val := by decide +kernel
theorem xpB : ∀ t : Fin 256, ∀ b : Fin 4, (t.val / 4 + 64 * b.val) &&& 51 = (t.val / 4) &&& 51 := by decide +kernel
theorem xpC : ∀ t : Fin 256, ((t.val - ((t.val / 2) &&& 85)) &&& 51) + (((t.val - ((t.val / 2) &&& 85)) / 4) &&& 51) ≤ 68 ∧ (((t.val - ((t.val / 2) &&& 85)) &&& 51) + (((t.val - ((t.val / 2) &&& 85)) / 4) &&& 51)) / 16 ≤ 4 ∧ (((t.val - ((t.val / 2) &&& 85)) &&& 51) + (((t.val - ((t.val / 2) &&& 85)) / 4) &&& 51)) % 16 ≤ 4 ∧ (((t.val - ((t.val / 2) &&& 85)) &&& 51) + (((t.val - ((t.val / 2) &&& 85)) / 4) &&& 51)) / 16 + (((t.val - ((t.val / 2) &&& 85)) &&& 51) + (((t.val - ((t.val / 2) &&& 85)) / 4) &&& 51)) % 16 = xp8 t.val := by decide +kernel
theorem xpD : ∀ t : Fin 256, t.val &&& 15 = t.val % 16 := by decide +kernel
theorem xp8le : ∀ t : Fin 256, xp8 t.val ≤ 8 := by decide +kernel
theorem xo2 (x0 x1 x2 x3 : Nat) : (16777216 * x3 + 65536 * x2 + 256 * x1 + x0) / 2 ^ 1 = 16777216 * (x3 / 2) + 65536 * (x2 / 2 + 128 * (x3 % 2)) + 256 * (x1 / 2 + 128 * (x2 % 2)) + (x0 / 2 + 128 * (x1 % 2)) := by omega
theorem xo4 (x0 x1 x2 x3 : Nat) : (16777216 * x3 + 65536 * x2 + 256 * x1 + x0) / 2 ^ 2 = 16777216 * (x3 / 4) + 65536 * (x2 / 4 + 64 * (x3 % 4)) + 256 * (x1 / 4 + 64 * (x2 % 4)) + (x0 / 4 + 64 * (x1 % 4)) := by omega
theorem xo16 (x0 x1 x2 x3 : Nat) : (16777216 * x3 + 65536 * x2 + 256 * x1 + x0) / 2 ^ 4 = 16777216 * (x3 / 16) + 65536 * (x2 / 16 + 16 * (x3 % 16)) + 256 * (x1 / 16 + 16 * (x2 % 16)) + (x0 / 16 + 16 * (x1 % 16)) := by omega
theorem xoS (x0 x1 x2 x3 a0 a1 a2 a3 : Nat) (h0 : a0 ≤ x0) (h1 : a1 ≤ x1) (h2 : a2 ≤ x2) (h3 : a3 ≤ x3) (b0 : x0 < 256) (b1 : x1 < 256) (b2 : x2 < 256) (b3 : x3 < 256) : (2 ^ 32 - (16777216 * a3 + 65536 * a2 + 256 * a1 + a0) + (16777216 * x3 + 65536 * x2 + 256 * x1 + x0)) % 2 ^ 32 = 16777216 * (x3 - a3) + 65536 * (x2 - a2) + 256 * (x1 - a1) + (x0 - a0) := by omega
theorem xoA (x0 x1 x2 x3 a0 a1 a2 a3 : Nat) (b0 : x0 + a0 < 256) (b1 : x1 + a1 < 256) (b2 : x2 + a2 < 256) (b3 : x3 + a3 < 256) : (16777216 * x3 + 65536 * x2 + 256 * x1 + x0 + (16777216 * a3 + 65536 * a2 + 256 * a1 + a0)) % 2 ^ 32 = 16777216 * (x3 + a3) + 65536 * (x2 + a2) + 256 * (x1 + a1) + (x0 + a0) := by omega
theorem xpop (x : BitVec 32) (x0 x1 x2 x3 : Nat) (hx : x.toNat = 16777216 * x3 + 65536 * x2 + 256 * x1 + x0) (h0 : x0 < 256) (h1 : x1 < 256) (h2 : x2 < 256) (h3 : x3 < 256)  : ∃ z0 z1 z2 z3 : Nat, ((((x - ((x >>> 1) &&& 1431655765#32)) &&& 858993459#32) + (((x - ((x >>> 1) &&& 1431655765#32)) >>> 2) &&& 858993459#32))).toNat = 16777216 * z3 + 65536 * z2 + 256 * z1 + z0 ∧ (z0 ≤ 68 ∧ z0 / 16 ≤ 4 ∧ z0 % 16 ≤ 4 ∧ z0 / 16 + z0 % 16 = xp8 x0) ∧ (z1 ≤ 68 ∧ z1 / 16 ≤ 4 ∧ z1 % 16 ≤ 4 ∧ z1 / 16 + z1 % 16 = xp8 x1) ∧ (z2 ≤ 68 ∧ z2 / 16 ≤ 4 ∧ z2 % 16 ≤ 4 ∧ z2 / 16 + z2 % 16 = xp8 x2) ∧ (z3 ≤ 68 ∧ z3 / 16 ≤ 4 ∧ z3 % 16 ≤ 4 ∧ z3 / 16 + z3 % 16 = xp8 x3) := by
  -- the first stage
  have s1 : ((x >>> 1) &&& 1431655765#32).toNat = 16777216 * ((x3 / 2) &&& 85) + 65536 * ((x2 / 2) &&& 85) + 256 * ((x1 / 2) &&& 85) + ((x0 / 2) &&& 85) := by
    rw [BitVec.toNat_and, BitVec.toNat_ushiftRight, Nat.shiftRight_eq_div_pow, hx]
    rw [xo2, show (1431655765#32).toNat = 16843009 * 85 from rfl, xland4 _ _ _ _ 85 (by omega) (by omega) (by omega) (by omega)]
    rw [xpA ⟨x0, h0⟩ ⟨x1 % 2, by omega⟩, xpA ⟨x1, h1⟩ ⟨x2 % 2, by omega⟩, xpA ⟨x2, h2⟩ ⟨x3 % 2, by omega⟩]
  have l0 := xpA' ⟨x0, h0⟩
  have l1 := xpA' ⟨x1, h1⟩
  have l2 := xpA' ⟨x2, h2⟩
  have l3 := xpA' ⟨x3, h3⟩
  have c0 := xpC ⟨x0, h0⟩
  have c1 := xpC ⟨x1, h1⟩
  have c2 := xpC ⟨x2, h2⟩
  have c3 := xpC ⟨x3, h3⟩
  dsimp only at l0 l1 l2 l3 c0 c1 c2 c3
  generalize hy0 : x0 - ((x0 / 2) &&& 85) = y0 at c0
  generalize hy1 : x1 - ((x1 / 2) &&& 85) = y1 at c1
  generalize hy2 : x2 - ((x2 / 2) &&& 85) = y2 at c2
  generalize hy3 : x3 - ((x3 / 2) &&& 85) = y3 at c3
  have s2 : (x - ((x >>> 1) &&& 1431655765#32)).toNat = 16777216 * y3 + 65536 * y2 + 256 * y1 + y0 := by
    rw [BitVec.toNat_sub, s1, hx, xoS _ _ _ _ _ _ _ _ l0 l1 l2 l3 h0 h1 h2 h3, hy0, hy1, hy2, hy3]
  generalize x - ((x >>> 1) &&& 1431655765#32) = y at s2
  have b0 : y0 < 256 := by clear c0 c1 c2 c3 s1 s2 hx; omega
  have b1 : y1 < 256 := by clear c0 c1 c2 c3 s1 s2 hx; omega
  have b2 : y2 < 256 := by clear c0 c1 c2 c3 s1 s2 hx; omega
  have b3 : y3 < 256 := by clear c0 c1 c2 c3 s1 s2 hx; omega
  have s3 : (y &&& 858993459#32).toNat = 16777216 * (y3 &&& 51) + 65536 * (y2 &&& 51) + 256 * (y1 &&& 51) + (y0 &&& 51) := by
    rw [BitVec.toNat_and, s2, show (858993459#32).toNat = 16843009 * 51 from rfl, xland4 _ _ _ _ 51 b0 b1 b2 (by omega)]
  have s4 : ((y >>> 2) &&& 858993459#32).toNat = 16777216 * ((y3 / 4) &&& 51) + 65536 * ((y2 / 4) &&& 51) + 256 * ((y1 / 4) &&& 51) + ((y0 / 4) &&& 51) := by
    rw [BitVec.toNat_and, BitVec.toNat_ushiftRight, Nat.shiftRight_eq_div_pow, s2]
    rw [xo4, show (858993459#32).toNat = 16843009 * 51 from rfl, xland4 _ _ _ _ 51 (by clear s2 s3 hx c0 c1 c2 c3; omega) (by clear s2 s3 hx c0 c1 c2 c3; omega) (by clear s2 s3 hx c0 c1 c2 c3; omega) (by decide)]
    rw [xpB ⟨y0, b0⟩ ⟨y1 % 4, by omega⟩, xpB ⟨y1, b1⟩ ⟨y2 % 4, by omega⟩, xpB ⟨y2, b2⟩ ⟨y3 % 4, by omega⟩]
  generalize y &&& 858993459#32 = ya at s3
  generalize (y >>> 2) &&& 858993459#32 = yb at s4
  generalize hz0 : (y0 &&& 51) + ((y0 / 4) &&& 51) = z0 at c0
  generalize hz1 : (y1 &&& 51) + ((y1 / 4) &&& 51) = z1 at c1
  generalize hz2 : (y2 &&& 51) + ((y2 / 4) &&& 51) = z2 at c2
  generalize hz3 : (y3 &&& 51) + ((y3 / 4) &&& 51) = z3 at c3
  have k0 := c0.1
  have k1 := c1.1
  have k2 := c2.1
  have k3 := c3.1
  have s5 : (ya + yb).toNat = 16777216 * z3 + 65536 * z2 + 256 * z1 + z0 := by
    rw [BitVec.toNat_add, s3, s4, xoA _ _ _ _ _ _ _ _ (by rw [hz0]; exact Nat.lt_of_le_of_lt k0 (by decide)) (by rw [hz1]; exact Nat.lt_of_le_of_lt k1 (by decide)) (by rw [hz2]; exact Nat.lt_of_le_of_lt k2 (by decide)) (by rw [hz3]; exact Nat.lt_of_le_of_lt k3 (by decide)), hz0, hz1, hz2, hz3]
  exact ⟨z0, z1, z2, z3, s5, c0, c1, c2, c3⟩
theorem xpopZ (z : BitVec 32) (z0 z1 z2 z3 n0 n1 n2 n3 : Nat) (s5 : z.toNat = 16777216 * z3 + 65536 * z2 + 256 * z1 + z0) (c0 : z0 ≤ 68 ∧ z0 / 16 ≤ 4 ∧ z0 % 16 ≤ 4 ∧ z0 / 16 + z0 % 16 = n0) (c1 : z1 ≤ 68 ∧ z1 / 16 ≤ 4 ∧ z1 % 16 ≤ 4 ∧ z1 / 16 + z1 % 16 = n1) (c2 : z2 ≤ 68 ∧ z2 / 16 ≤ 4 ∧ z2 % 16 ≤ 4 ∧ z2 / 16 + z2 % 16 = n2) (c3 : z3 ≤ 68 ∧ z3 / 16 ≤ 4 ∧ z3 % 16 ≤ 4 ∧ z3 / 16 + z3 % 16 = n3) : ((z + z >>> 4) &&& 252645135#32).toNat = 16777216 * n3 + 65536 * n2 + 256 * n1 + n0 := by
  have d0 : z0 + (z0 / 16 + 16 * (z1 % 16)) < 256 := by clear s5 c2 c3; omega
  have d1 : z1 + (z1 / 16 + 16 * (z2 % 16)) < 256 := by clear s5 c0 c3; omega
  have d2 : z2 + (z2 / 16 + 16 * (z3 % 16)) < 256 := by clear s5 c0 c1; omega
  have d3 : z3 + z3 / 16 < 256 := by clear s5 c0 c1 c2; omega
  have s6 : (z + z >>> 4).toNat = 16777216 * (z3 + z3 / 16) + 65536 * (z2 + (z2 / 16 + 16 * (z3 % 16))) + 256 * (z1 + (z1 / 16 + 16 * (z2 % 16))) + (z0 + (z0 / 16 + 16 * (z1 % 16))) := by
    rw [BitVec.toNat_add, BitVec.toNat_ushiftRight, Nat.shiftRight_eq_div_pow, s5, xo16, xoA _ _ _ _ _ _ _ _ d0 d1 d2 d3]
  have u0 : (z0 + (z0 / 16 + 16 * (z1 % 16))) % 16 = n0 := by clear s5 s6 c2 c3; omega
  have u1 : (z1 + (z1 / 16 + 16 * (z2 % 16))) % 16 = n1 := by clear s5 s6 c0 c3; omega
  have u2 : (z2 + (z2 / 16 + 16 * (z3 % 16))) % 16 = n2 := by clear s5 s6 c0 c1; omega
  have u3 : (z3 + z3 / 16) % 16 = n3 := by clear s5 s6 c0 c1 c2; omega
  rw [BitVec.toNat_and, s6, show (252645135#32).toNat = 16843009 * 15 from rfl, xland4 _ _ _ _ 15 d0 d1 d2 (by decide)]
  rw [xpD ⟨_, d3⟩, xpD ⟨_, d2⟩, xpD ⟨_, d1⟩, xpD ⟨_, d0⟩]
  dsimp only
  rw [u0, u1, u2, u3]
theorem xpopU (u : BitVec 32) (n0 n1 n2 n3 : Nat) (h : u.toNat = 16777216 * n3 + 65536 * n2 + 256 * n1 + n0) (h0 : n0 ≤ 8) (h1 : n1 ≤ 8) (h2 : n2 ≤ 8) (h3 : n3 ≤ 8) : (((u + u >>> 8) + (u + u >>> 8) >>> 16) &&& 63#32).toNat = n0 + n1 + n2 + n3 := by
  have a : (u + u >>> 8).toNat = 16777216 * n3 + 65536 * (n2 + n3) + 256 * (n1 + n2) + (n0 + n1) := by
    rw [BitVec.toNat_add, BitVec.toNat_ushiftRight, Nat.shiftRight_eq_div_pow, h]
    have e : (16777216 * n3 + 65536 * n2 + 256 * n1 + n0) / 2 ^ 8 = 65536 * n3 + 256 * n2 + n1 := by omega
    rw [e]
    omega
  have b : ((u + u >>> 8) + (u + u >>> 8) >>> 16).toNat % 64 = n0 + n1 + n2 + n3 := by
    rw [BitVec.toNat_add, BitVec.toNat_ushiftRight, Nat.shiftRight_eq_div_pow, a]
    have e : (16777216 * n3 + 65536 * (n2 + n3) + 256 * (n1 + n2) + (n0 + n1)) / 2 ^ 16 = 256 * n3 + (n2 + n3) := by omega
    rw [e]
    omega
  rw [BitVec.toNat_and, show (63#32).toNat = 2 ^ 6 - 1 from rfl, Nat.and_two_pow_sub_one_eq_mod]
  exact b
