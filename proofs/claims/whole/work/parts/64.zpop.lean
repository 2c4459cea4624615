/-! pure rows: one point less -/
theorem pop_clear : ∀ s, s < 4096 → ∀ p, p < 12 → s / 2 ^ p % 2 = 0 ∨ popc (s - 2 ^ p) 12 + 1 = popc s 12 := all4096 (by decide +kernel)
