/-! pure rows: the greatest common measure, lowest terms -/
theorem half_rem1 {b r : Nat} (hr : 0 < r) (h : r < b) : 2 * (b % r) < b := by
  have h2 : b % r < r := Nat.mod_lt _ hr
  rcases Nat.lt_or_ge b (2 * r) with q | q
  · have h3 : b % r = b - r := by
      rw [Nat.mod_eq_sub_mod (by omega), Nat.mod_eq_of_lt (by omega)]
    omega
  · omega
theorem half_rem {a b : Nat} (hb : 0 < b) (hr : 0 < a % b) : 2 * (b % (a % b)) < b := half_rem1 hr (Nat.mod_lt _ hb)
theorem lN0 {n : Nat} (hn : n < 2 ^ 63) : lN n = 0 ↔ n = 0 := by
  rw [show (0 : Int64) = lN 0 from rfl]
  exact pk_lEQ hn (by decide)
theorem div_step (p1 p2 : Int64) {m a b : Nat} (ha : a < 2 ^ 63) (hb : b < 2 ^ 63) (h0 : 0 < b) : f_X9_divisor_b6 p1 p2 (m + 1) (lN a) (lN b) = f_X9_divisor_b6 p1 p2 m (lN b) (lN (a % b)) := by
  show f_X9_divisor_s6 p1 p2 (f_X9_divisor_b6 p1 p2 m) (lN a) (lN b) = _
  unfold f_X9_divisor_s6
  have hne : ¬ lN b = 0 := fun e => by have := (lN0 hb).mp e; omega
  rw [if_neg (fun q => hne ((lg_cmp_eq _ _).mp q)), if_neg hne, nmE, pk_lRem ha h0 hb]
theorem div_end (p1 p2 : Int64) {m a : Nat} : f_X9_divisor_b6 p1 p2 (m + 1) (lN a) 0 = some (lN a) := by
  show f_X9_divisor_s6 p1 p2 (f_X9_divisor_b6 p1 p2 m) (lN a) 0 = _
  unfold f_X9_divisor_s6
  rw [if_pos ((lg_cmp_eq _ _).mpr rfl)]
theorem com_step (p1 p2 : Int64) {m a b i : Nat} (ha : a < 2 ^ 63) (hb : b < 2 ^ 63) (h0 : 0 < b) (hi : i < 200) : f_X7_commonOf_b9 p1 p2 (m + 1) (lN a) (lN b) (nI i) = f_X7_commonOf_b9 p1 p2 m (lN b) (lN (a % b)) (nI (i + 1)) := by
  show f_X7_commonOf_s9 p1 p2 (f_X7_commonOf_b9 p1 p2 m) (lN a) (lN b) (nI i) = _
  unfold f_X7_commonOf_s9
  have hne : ¬ lN b = 0 := fun e => by have := (lN0 hb).mp e; omega
  rw [if_neg (show ¬ (200 : Int32) ≤ nI i from nI_ge (a := i) (b := 200) hi (by decide)), if_neg (fun q => hne ((lg_cmp_eq _ _).mp q)), if_neg hne, nmE, nmE, pk_lRem ha h0 hb, nI_1]
theorem com_end (p1 p2 : Int64) {m a i : Nat} : f_X7_commonOf_b9 p1 p2 (m + 1) (lN a) 0 (nI i) = f_X7_commonOf_b45 p1 p2 (lN a) := by
  show f_X7_commonOf_s9 p1 p2 (f_X7_commonOf_b9 p1 p2 m) (lN a) 0 (nI i) = _
  unfold f_X7_commonOf_s9
  by_cases h : (200 : Int32) ≤ nI i
  · rw [if_pos h]
  · rw [if_neg h, if_pos ((lg_cmp_eq _ _).mpr rfl)]
theorem euclid (p1 p2 : Int64) : ∀ (k a b i m m' : Nat), a < 2 ^ 63 → b < 2 ^ k → k ≤ 63 → i + 2 * k < 200 → 2 * k < m → 2 * k < m' → f_X7_commonOf_b9 p1 p2 m (lN a) (lN b) (nI i) = f_X7_commonOf_b45 p1 p2 (lN (Nat.gcd a b)) ∧ f_X9_divisor_b6 p1 p2 m' (lN a) (lN b) = some (lN (Nat.gcd a b)) := by
  intro k
  induction k with
  | zero =>
    intro a b i m m' ha hb hk hi hm hm'
    have e : b = 0 := by
      have : (2 : Nat) ^ 0 = 1 := rfl
      omega
    subst e
    obtain ⟨n, rfl⟩ : ∃ n, m = n + 1 := ⟨m - 1, by omega⟩
    obtain ⟨n', rfl⟩ : ∃ n, m' = n + 1 := ⟨m' - 1, by omega⟩
    rw [Nat.gcd_zero_right, show lN 0 = 0 from rfl]
    exact ⟨com_end p1 p2, div_end p1 p2⟩
  | succ k ih =>
    intro a b i m m' ha hb hk hi hm hm'
    have hb63 : b < 2 ^ 63 := Nat.lt_of_lt_of_le hb (Nat.pow_le_pow_right (by decide) hk)
    obtain ⟨n, rfl⟩ : ∃ n, m = n + 1 + 1 := ⟨m - 2, by omega⟩
    obtain ⟨n', rfl⟩ : ∃ n, m' = n + 1 + 1 := ⟨m' - 2, by omega⟩
    rcases Nat.eq_zero_or_pos b with e | h0
    · subst e
      rw [Nat.gcd_zero_right, show lN 0 = 0 from rfl]
      exact ⟨com_end p1 p2, div_end p1 p2⟩
    · have hr63 : a % b < 2 ^ 63 := Nat.lt_trans (Nat.mod_lt _ h0) hb63
      have eg : Nat.gcd a b = Nat.gcd b (a % b) := by rw [Nat.gcd_comm a b, Nat.gcd_rec b a, Nat.gcd_comm]
      rw [com_step p1 p2 ha hb63 h0 (by omega), div_step p1 p2 ha hb63 h0, eg]
      rcases Nat.eq_zero_or_pos (a % b) with e | h1
      · rw [e, Nat.gcd_zero_right, show lN 0 = 0 from rfl]
        exact ⟨com_end p1 p2, div_end p1 p2⟩
      · have eg2 : Nat.gcd b (a % b) = Nat.gcd (a % b) (b % (a % b)) := by rw [Nat.gcd_comm b (a % b), Nat.gcd_rec (a % b) b, Nat.gcd_comm]
        rw [com_step p1 p2 hb63 hr63 h1 (by omega), div_step p1 p2 hb63 hr63 h1, eg2]
        have hh := half_rem h0 h1
        have h2k : 2 ^ (k + 1) = 2 * 2 ^ k := by rw [Nat.pow_succ, Nat.mul_comm]
        exact ih (a % b) (b % (a % b)) (i + 1 + 1) n n' hr63 (by omega) (by omega) (by omega) (by omega) (by omega)
theorem common_eq {a b : Nat} (ha : a < 2 ^ 63) (hb : b < 2 ^ 63) (h0 : 0 < b) : f_X7_commonOf (lN a) (lN b) = some (lN (Nat.gcd a b)) ∧ f_X9_divisor (lN a) (lN b) = some (lN (Nat.gcd a b)) := by
  obtain ⟨e1, e2⟩ := euclid (lN a) (lN b) 63 a b 0 210 210 ha hb (by omega) (by omega) (by omega) (by omega)
  have hg : 0 < Nat.gcd a b := Nat.gcd_pos_of_pos_right a h0
  have hg2 : Nat.gcd a b < 2 ^ 63 := Nat.lt_of_le_of_lt (Nat.gcd_le_right a h0) hb
  refine ⟨?_, ?_⟩
  · unfold f_X7_commonOf
    rw [nI_0] at e1
    rw [e1]
    unfold f_X7_commonOf_b45
    rw [if_neg]
    intro q
    have q := (lg_cmp_le _ _).mp q
    rw [show (0 : Int64) = lN 0 from rfl, pk_lLE hg2 (by decide)] at q
    omega
  · unfold f_X9_divisor
    exact e2
/-- lowest terms, alike in both -/
theorem part_eq {a b : Nat} (ha : a < 2 ^ 63) (hb : b < 2 ^ 63) (h0 : 0 < b) (p : Int32) : f_X8_partOf (lN a) (lN b) p = f_X9_lowest (lN a) (lN b) p ∧ ∃ r, f_X9_lowest (lN a) (lN b) p = some r := by
  obtain ⟨e1, e2⟩ := common_eq ha hb h0
  have hg : 0 < Nat.gcd a b := Nat.gcd_pos_of_pos_right a h0
  have hg2 : Nat.gcd a b < 2 ^ 63 := Nat.lt_of_le_of_lt (Nat.gcd_le_right a h0) hb
  have hne : ¬ lN (Nat.gcd a b) = 0 := fun e => by have := (lN0 hg2).mp e; omega
  have n1 : ¬ lg_cmp (lN a) 0 < 0 := fun q => by
    have q := (lg_cmp_lt _ _).mp q
    rw [show (0 : Int64) = lN 0 from rfl, pk_lLT ha (by decide)] at q
    omega
  have n2 : 0 < lg_cmp (lN b) 0 := by
    apply (lg_cmp_gt _ _).mpr
    rw [show (0 : Int64) = lN 0 from rfl, pk_lLT (by decide) hb]
    exact h0
  unfold f_X8_partOf f_X9_lowest
  rw [if_neg n1, if_pos n2, e1, e2, bE1, if_neg hne, if_neg hne]
  refine ⟨rfl, ?_⟩
  by_cases h : p = 0
  · rw [if_pos h]
    exact ⟨_, rfl⟩
  · rw [if_neg h]
    exact ⟨_, rfl⟩
