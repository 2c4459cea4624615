/-! pure rows: the reference's rows of COUNTS -/
theorem bit_clear : ∀ s, s < 4096 → ∀ p, p < 12 → s / 2 ^ p % 2 = 0 ∨ nI s &&& ((1 <<< (nI p &&& 31)) ^^^ (-1)) = nI (s - 2 ^ p) := all4096 (by decide +kernel)
theorem q_hasI {s k : Nat} (hs : s < 2 ^ 31) (hk : k < 64) : f_X9_has (nI s).toInt64 (nI k) = some (nI (s / 2 ^ k % 2)) := by
  rw [q_has _ hk]
  have e : lbit (nI s).toInt64 (nI k) = lN (s / 2 ^ k % 2) := by
    unfold lbit
    rw [nI_l hs, wb_bit (by omega) hk]
  rw [e]
  rcases Nat.mod_two_eq_zero_or_one (s / 2 ^ k) with h | h
  · rw [h]
    rfl
  · rw [h]
    rfl
/-- sums and products that know when they are too great, as values -/
def plV (a b : Int64) : Int64 := if a < 0 then -1 else if b < 0 then -1 else if 0 ≤ a + b then a + b else -1
def tiV (a b : Int64) : Int64 := if a = 0 then 0 else if b = 0 then 0 else if a < 0 then -1 else if b < 0 then -1 else if a ≤ 9223372036854775807 / b then a * b else -1
theorem q_plus (a b : Int64) : f_X9_plus a b = some (plV a b) := by
  unfold f_X9_plus plV
  simp only [lg_cmp_lt, lg_cmp_ge]
  by_cases h1 : a < 0
  · simp only [if_pos h1]
  · by_cases h2 : b < 0
    · simp only [if_neg h1, if_pos h2]
    · by_cases h3 : 0 ≤ a + b
      · simp only [if_neg h1, if_neg h2, if_pos h3]
      · simp only [if_neg h1, if_neg h2, if_neg h3]
theorem q_times (a b : Int64) : f_X9_times a b = some (tiV a b) := by
  unfold f_X9_times tiV
  simp only [lg_cmp_lt, lg_cmp_eq, lg_cmp_le]
  by_cases h1 : a = 0
  · simp only [if_pos h1]
  · by_cases h2 : b = 0
    · simp only [if_neg h1, if_pos h2]
    · by_cases h3 : a < 0
      · simp only [if_neg h1, if_neg h2, if_pos h3]
      · by_cases h4 : b < 0
        · simp only [if_neg h1, if_neg h2, if_neg h3, if_pos h4]
        · by_cases h5 : a ≤ 9223372036854775807 / b
          · simp only [if_neg h1, if_neg h2, if_neg h3, if_neg h4, if_pos h5]
          · simp only [if_neg h1, if_neg h2, if_neg h3, if_neg h4, if_neg h5]
/-- a row and what a pair of weight w adds to it, from k = 1 on up to j -/
def addR (acc : Nat → Int64) (w : Int32) (r : Nat → Int64) (j : Nat) : Nat → Int64 := fun k => if 1 ≤ k ∧ k < j then plV (acc k) (tiV w.toInt64 (r (k - 1))) else acc k
/-- a set's row: that of the rest, and for each point behind p that p has a LINE with (E p q not below 0) what the pair adds -/
def fq (E : Nat → Nat → Int32) (p rest : Nat) (R : Nat → Nat → Int64) : Nat → Nat → Int64
  | 0 => R rest
  | j + 1 => if p < j ∧ rest / 2 ^ j % 2 = 1 ∧ ¬ E p j < 0 then addR (fq E p rest R j) (E p j) (R (rest - 2 ^ j)) 7 else fq E p rest R j
theorem g28672 {α : Type} {n : Nat} (h : n < 28672) {x : Option α} : (if nI n < 0 ∨ 28672 ≤ (nI n).toNatClampNeg then none else x) = x := gN h (by decide)
theorem c28672 {n : Nat} (h : n < 28672) : (nI n).toNatClampNeg = n := nI_clamp (by omega)
theorem mul7 (a b : Nat) : (7 : Int32) * nI a + nI b = nI (7 * a + b) := by
  rw [show (7 : Int32) = nI 7 from rfl, pk_mul, nI_add]
theorem rest_lt : ∀ s, s < 4096 → s = 0 ∨ s - 2 ^ low s < s := by
  intro s hs
  rcases low_ok s hs with h | h
  · exact Or.inl h
  · have := Nat.two_pow_pos (low s)
    exact Or.inr (by omega)
theorem clear_lt {s q : Nat} (h : s / 2 ^ q % 2 = 1) : s - 2 ^ q < s ∧ 2 ^ q ≤ s := by
  have hp := Nat.two_pow_pos q
  have h1 : 2 ^ q ≤ s := by
    rcases Nat.lt_or_ge s (2 ^ q) with z | z
    · rw [Nat.div_eq_of_lt z] at h
      omega
    · exact z
  omega
/-- the inner loop: one pair's weight comes to a row -/
theorem inner_loop (xp : Int32) (hv : Nat → Int32) {s rest p q : Nat} {w : Int32} (hs : s < 4096) (hr : rest < s) (hq : q < 12) (hw : ¬ w < 0) (hb : rest / 2 ^ q % 2 = 1) (k70 : (Nat → Int64) → Int32 → Int32 → Int32 → Option (Nat → Int64)) : ∀ (m j : Nat) (tb : Nat → Int64), 1 ≤ j → j ≤ 7 → 7 - j < m → ∃ tb', f_X9_countsOf_b96 xp hv (nI s) k70 m tb (nI p) (nI rest) (nI q) w (nI j) = k70 tb' (nI p) (nI rest) (nI (q + 1)) ∧ (∀ k, k < 7 → tb' (7 * s + k) = if j ≤ k then plV (tb (7 * s + k)) (tiV w.toInt64 (tb (7 * (rest - 2 ^ q) + (k - 1)))) else tb (7 * s + k)) ∧ ∀ i, (i < 7 * s ∨ 7 * s + 7 ≤ i) → tb' i = tb i := by
  intro m
  induction m with
  | zero =>
    intro j tb _ _ h
    omega
  | succ m ih =>
    intro j tb h1 h7 hm
    show ∃ tb', f_X9_countsOf_s96 xp hv (nI s) k70 (f_X9_countsOf_b96 xp hv (nI s) k70 m) tb (nI p) (nI rest) (nI q) w (nI j) = k70 tb' (nI p) (nI rest) (nI (q + 1)) ∧ _
    unfold f_X9_countsOf_s96
    by_cases h : 7 ≤ j
    · have e : j = 7 := by omega
      subst e
      rw [if_pos (show (7 : Int32) ≤ nI 7 by decide), nmE, nI_1]
      exact ⟨tb, rfl, fun k hk => by rw [if_neg (by omega)], fun _ _ => rfl⟩
    · rw [if_neg (show ¬ (7 : Int32) ≤ nI j from nI_ge (a := j) (b := 7) (by omega) (by decide)), if_neg hw, q_hasI (by omega) (by omega), hb, bE1, if_neg (show ¬ nI 1 = 0 by decide)]
      have hc : nI rest &&& ((1 <<< (nI q &&& 31)) ^^^ (-1)) = nI (rest - 2 ^ q) := by
        rcases bit_clear rest (by omega) q hq with z | z
        · omega
        · exact z
      obtain ⟨c1, c2⟩ := clear_lt hb
      have e1 : (7 : Int32) * nI (rest - 2 ^ q) + nI j - 1 = nI (7 * (rest - 2 ^ q) + (j - 1)) := by
        rw [mul7]
        obtain ⟨j', rfl⟩ : ∃ j', j = j' + 1 := ⟨j - 1, by omega⟩
        exact nI_pred _
      have a1 : 7 * (rest - 2 ^ q) + (j - 1) < 28672 := by omega
      have a2 : 7 * s + j < 28672 := by omega
      rw [hc, e1, g28672 a1, q_times, bE1, mul7, g28672 a2, q_plus, bE1, g28672 a2, nmE, nmE, c28672 a1, c28672 a2, nI_1]
      obtain ⟨tb', t1, t2, t3⟩ := ih (j + 1) (vp_updL tb (7 * s + j) (plV (tb (7 * s + j)) (tiV w.toInt64 (tb (7 * (rest - 2 ^ q) + (j - 1)))))) (by omega) (by omega) (by omega)
      refine ⟨tb', t1, fun k hk => ?_, fun i hi => ?_⟩
      · rw [t2 k hk]
        by_cases e : k = j
        · subst e
          rw [if_neg (by omega), if_pos (by omega), pk_uLs]
        · by_cases z : j + 1 ≤ k
          · rw [if_pos z, if_pos (by omega), pk_uLn (by omega), pk_uLn (by omega)]
          · rw [if_neg z, if_neg (by omega), pk_uLn (by omega)]
      · rw [t3 i hi, pk_uLn (by omega)]
/-- the pair's loop where there is nothing to add -/
theorem inner_none (xp : Int32) (hv : Nat → Int32) {s rest p q : Nat} {w : Int32} (hr : rest < 4096) (hq : q < 12) (hn : w < 0 ∨ rest / 2 ^ q % 2 = 0) (k70 : (Nat → Int64) → Int32 → Int32 → Int32 → Option (Nat → Int64)) (m : Nat) (tb : Nat → Int64) : f_X9_countsOf_b96 xp hv (nI s) k70 (m + 1) tb (nI p) (nI rest) (nI q) w 1 = k70 tb (nI p) (nI rest) (nI (q + 1)) := by
  show f_X9_countsOf_s96 xp hv (nI s) k70 (f_X9_countsOf_b96 xp hv (nI s) k70 m) tb (nI p) (nI rest) (nI q) w 1 = _
  unfold f_X9_countsOf_s96
  rw [if_neg (show ¬ (7 : Int32) ≤ 1 by decide)]
  by_cases h : w < 0
  · rw [if_pos h, nmE, nI_1]
  · rw [if_neg h, q_hasI (by omega) (by omega)]
    have : rest / 2 ^ q % 2 = 0 := by
      rcases hn with z | z
      · exact absurd z h
      · exact z
    rw [this, bE1, if_pos (show nI 0 = 0 from rfl), nmE, nI_1]
