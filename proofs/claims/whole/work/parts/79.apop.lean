/-! pure rows: one point more -/
theorem pop_set : ∀ o, o < 4096 → ∀ p, p < 12 → o / 2 ^ p % 2 = 1 ∨ popc (orp o p) 12 = popc o 12 + 1 := all4096 (by decide +kernel)
