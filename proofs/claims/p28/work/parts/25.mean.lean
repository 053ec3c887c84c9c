/-! how dirty the bales are on the whole -/
def mnF (a n : Nat) : UInt64 := FP.ddiv (FP.i2d (iI (a : Int))) (FP.i2d (iI (n : Int)))
theorem mean_ok : ∀ n, n < 21 → 0 < n → ∀ a, a < 40 * n + 1 → (mnF a n &&& 0x7fffffffffffffff ≤ 0x7ff0000000000000) ∧ (Op.cmpValue (FP.dcmp (mnF a n) 4630826316843712512) .l).toInt ≤ 0 := by decide +kernel
