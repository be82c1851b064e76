/-! checks over all small sets -/
def ymk (q : Nat) : Nat := 4095 ^^^ 2 ^ q
theorem ysf1 : ∀ s, s < 4096 → s ≠ 0 → s.testBit (yfs s) = true ∧ s &&& ymk (yfs s) = s &&& (s - 1) := y4096 (by decide +kernel)
theorem ysf2 : ∀ s, s < 4096 → s ≠ 0 → ∀ q, q < 12 → q ≤ yfs s → (s &&& (s - 1)).testBit q = false := y4096 (by decide +kernel)
