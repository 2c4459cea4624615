/-! pure rows: points put out, by all 4096; and how many there are -/
def orp (o p : Nat) : Nat := Nat.lor o (2 ^ p)
theorem or_ok : ∀ o, o < 4096 → ∀ p, p < 12 → nI o ||| (1 <<< (nI p &&& 31)) = nI (orp o p) ∧ orp o p < 4096 := all4096 (by decide +kernel)
theorem many_all : ∀ s, s < 4096 → f_X9_many (nI s) = some (nI (popc s 12)) := all4096 (by decide +kernel)
