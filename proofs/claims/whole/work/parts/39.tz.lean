/-! Trailing zeros: the class's steps from the ones below the lowest bit. -/
def xtzg (y : Int32) : Int32 := if 0 < y then (if y ≤ 65536 then f_i_numberOfTrailingZeros_34 y 1 else f_i_numberOfTrailingZeros_34 (xushr y 16) (1 + 16)) else y &&& 32
theorem xtz_of (a : Int32) : f_i_numberOfTrailingZeros a = xtzg ((a ^^^ -1) &&& (a - 1)) := rfl
theorem xtzg_ones : ∀ k : Fin 32, xtzg (Int32.ofNat (2 ^ k.val - 1)) = Int32.ofNat k.val := by decide +kernel
theorem xtzg_all : xtzg (-1) = 32 := by decide +kernel
