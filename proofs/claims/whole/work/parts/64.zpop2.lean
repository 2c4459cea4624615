/-! pure rows: a point taken off by xor -/
theorem bit_xor : ∀ s, s < 4096 → ∀ p, p < 12 → s / 2 ^ p % 2 = 0 ∨ nI s ^^^ (1 <<< (nI p &&& 31)) = nI (s - 2 ^ p) := all4096 (by decide +kernel)
