/-! pure rows: free points, by all 4096 -/
def fr (P o : Nat) : Nat := Nat.land (2 ^ P - 1) (4095 - o)
theorem fr_ok : ∀ o, o < 4096 → ∀ P, P < 13 → ((1 <<< (nI P &&& 31)) - 1) &&& (nI o ^^^ (-1)) = nI (fr P o) ∧ fr P o < 2 ^ P := all4096 (by decide +kernel)
