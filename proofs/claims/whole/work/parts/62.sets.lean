/-! pure rows: sets of points, all 4096 of them -/
/-- how many points a set has -/
def popc (s : Nat) : Nat → Nat
  | 0 => 0
  | n + 1 => popc s n + s / 2 ^ n % 2
/-- the least point from p on, n tries -/
def lowf (s : Nat) : Nat → Nat → Nat
  | 0, p => p
  | n + 1, p => if s / 2 ^ p % 2 = 1 then p else lowf s n (p + 1)
def low (s : Nat) : Nat := lowf s 12 0
theorem all4096 {P : Nat → Prop} (h : ∀ a, a < 64 → ∀ b, b < 64 → P (64 * a + b)) : ∀ s, s < 4096 → P s := by
  intro s hs
  have := h (s / 64) (by omega) (s % 64) (by omega)
  rwa [Nat.div_add_mod] at this
theorem low_ok : ∀ s, s < 4096 → s = 0 ∨ (low s < 12 ∧ 2 ^ low s ≤ s ∧ s / 2 ^ low s % 2 = 1 ∧ s % 2 ^ low s = 0) := all4096 (by decide +kernel)
theorem bit_least : ∀ s, s < 4096 → s = 0 ∨ nI s &&& (-nI s) = nI (2 ^ low s) := all4096 (by decide +kernel)
theorem bit_rest : ∀ s, s < 4096 → s = 0 ∨ nI s ^^^ nI (2 ^ low s) = nI (s - 2 ^ low s) := all4096 (by decide +kernel)
theorem bc_low : ∀ p, p < 12 → f_J6_bitCount_0f7a4 (nI (2 ^ p) - 1) = some (nI p) := by decide +kernel
theorem bc_all : ∀ s, s < 4096 → f_J6_bitCount_0f7a4 (nI s) = some (nI (popc s 12)) := all4096 (by decide +kernel)
