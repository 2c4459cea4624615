/-! pure rows: the reference's row of a set -/
theorem fq_start (E : Nat → Nat → Int32) (p rest : Nat) (R : Nat → Nat → Int64) : ∀ j, j ≤ p + 1 → fq E p rest R j = R rest := by
  intro j
  induction j with
  | zero => intro _; rfl
  | succ j ih =>
    intro h
    show (if _ then _ else _) = _
    rw [if_neg (by omega)]
    exact ih (by omega)
theorem mul12r (a b : Nat) : (12 : Int32) * nI a + nI b = nI (12 * a + b) := by
  rw [show (12 : Int32) = nI 12 from rfl, pk_mul, nI_add]
theorem outer_loop {P s rest p : Nat} (hv : Nat → Int32) (R : Nat → Nat → Int64) (hP : P ≤ 12) (hs : s < 4096) (hr : rest < s) (hp : p < 12) : ∀ (m q : Nat) (tb : Nat → Int64), p < q → q ≤ P → P - q < m → (∀ k, k < 7 → tb (7 * s + k) = fq (fun a b => hv (12 * a + b)) p rest R q k) → (∀ j, j < 12 → rest / 2 ^ j % 2 = 1 → ∀ k, k < 7 → tb (7 * (rest - 2 ^ j) + k) = R (rest - 2 ^ j) k) → ∃ tb', f_X9_countsOf_b70 (nI P) hv (nI s) m tb (nI p) (nI rest) (nI q) = some tb' ∧ (∀ k, k < 7 → tb' (7 * s + k) = fq (fun a b => hv (12 * a + b)) p rest R P k) ∧ ∀ i, (i < 7 * s ∨ 7 * s + 7 ≤ i) → tb' i = tb i := by
  intro m
  induction m with
  | zero =>
    intro q tb _ _ h
    omega
  | succ m ih =>
    intro q tb hpq hqP hm hrow hsub
    show ∃ tb', f_X9_countsOf_s70 (nI P) hv (nI s) (f_X9_countsOf_b70 (nI P) hv (nI s) m) tb (nI p) (nI rest) (nI q) = some tb' ∧ _
    unfold f_X9_countsOf_s70
    by_cases h : P ≤ q
    · have e : q = P := by omega
      subst e
      rw [if_pos (nI_le (Nat.le_refl q) (by omega))]
      exact ⟨tb, rfl, hrow, fun _ _ => rfl⟩
    · have a1 : 12 * p + q < 144 := by omega
      rw [if_neg (nI_ge (by omega) (by omega)), mul12r, gN a1 (by decide), nmE, c144 a1]
      by_cases hedge : ¬ hv (12 * p + q) < 0 ∧ rest / 2 ^ q % 2 = 1
      · obtain ⟨tb1, t1, t2, t3⟩ := inner_loop (nI P) hv (p := p) hs hr (show q < 12 by omega) hedge.1 hedge.2 (f_X9_countsOf_b70 (nI P) hv (nI s) m) 70 1 tb (by omega) (by omega) (by omega)
        have t1 : f_X9_countsOf_b96 (nI P) hv (nI s) (f_X9_countsOf_b70 (nI P) hv (nI s) m) 70 tb (nI p) (nI rest) (nI q) (hv (12 * p + q)) 1 = f_X9_countsOf_b70 (nI P) hv (nI s) m tb1 (nI p) (nI rest) (nI (q + 1)) := t1
        rw [t1]
        obtain ⟨c1, c2⟩ := clear_lt hedge.2
        obtain ⟨tb', u1, u2, u3⟩ := ih (q + 1) tb1 (by omega) (by omega) (by omega) (fun k hk => by
          have e : fq (fun a b => hv (12 * a + b)) p rest R (q + 1) = addR (fq (fun a b => hv (12 * a + b)) p rest R q) (hv (12 * p + q)) (R (rest - 2 ^ q)) 7 := if_pos ⟨hpq, hedge.2, hedge.1⟩
          rw [t2 k hk, e]
          unfold addR
          by_cases z : 1 ≤ k
          · rw [if_pos z, if_pos ⟨z, hk⟩, hrow k hk, hsub q (by omega) hedge.2 (k - 1) (by omega)]
          · rw [if_neg z, if_neg (by omega), hrow k hk]) (fun j hj hb k hk => by
          obtain ⟨d1, d2⟩ := clear_lt hb
          rw [t3 _ (by omega)]
          exact hsub j hj hb k hk)
        exact ⟨tb', u1, u2, fun i hi => (u3 i hi).trans (t3 i hi)⟩
      · have hn : hv (12 * p + q) < 0 ∨ rest / 2 ^ q % 2 = 0 := by
          by_cases z : hv (12 * p + q) < 0
          · exact Or.inl z
          · rcases Nat.mod_two_eq_zero_or_one (rest / 2 ^ q) with y | y
            · exact Or.inr y
            · exact absurd ⟨z, y⟩ hedge
        rw [inner_none (nI P) hv (by omega) (by omega) hn (f_X9_countsOf_b70 (nI P) hv (nI s) m) 69 tb]
        refine ih (q + 1) tb (by omega) (by omega) (by omega) (fun k hk => ?_) hsub
        have e : fq (fun a b => hv (12 * a + b)) p rest R (q + 1) = fq (fun a b => hv (12 * a + b)) p rest R q := if_neg (fun z => hedge ⟨z.2.2, z.2.1⟩)
        rw [e]
        exact hrow k hk
theorem copy_loop {P s rest p : Nat} (hv : Nat → Int32) (hs : s < 4096) (hr : rest < s) : ∀ (m j : Nat) (tb : Nat → Int64), j ≤ 7 → 7 - j < m → ∃ tb', f_X9_countsOf_b28 (nI P) hv (nI s) m tb (nI p) (nI rest) (nI j) = f_X9_countsOf_b70 (nI P) hv (nI s) 70 tb' (nI p) (nI rest) (nI (p + 1)) ∧ (∀ k, k < 7 → tb' (7 * s + k) = if j ≤ k then tb (7 * rest + k) else tb (7 * s + k)) ∧ ∀ i, (i < 7 * s ∨ 7 * s + 7 ≤ i) → tb' i = tb i := by
  intro m
  induction m with
  | zero =>
    intro j tb _ h
    omega
  | succ m ih =>
    intro j tb h7 hm
    show ∃ tb', f_X9_countsOf_s28 (nI P) hv (nI s) (f_X9_countsOf_b28 (nI P) hv (nI s) m) tb (nI p) (nI rest) (nI j) = f_X9_countsOf_b70 (nI P) hv (nI s) 70 tb' (nI p) (nI rest) (nI (p + 1)) ∧ _
    unfold f_X9_countsOf_s28
    by_cases h : 7 ≤ j
    · have e : j = 7 := by omega
      subst e
      rw [if_pos (show (7 : Int32) ≤ nI 7 by decide), nmE, nI_1]
      exact ⟨tb, rfl, fun k hk => by rw [if_neg (by omega)], fun _ _ => rfl⟩
    · have a1 : 7 * rest + j < 28672 := by omega
      have a2 : 7 * s + j < 28672 := by omega
      rw [if_neg (show ¬ (7 : Int32) ≤ nI j from nI_ge (a := j) (b := 7) (by omega) (by decide)), mul7, mul7, g28672 a1, g28672 a2, nmE, nmE, c28672 a1, c28672 a2, nI_1]
      obtain ⟨tb', t1, t2, t3⟩ := ih (j + 1) (vp_updL tb (7 * s + j) (tb (7 * rest + j))) (by omega) (by omega)
      refine ⟨tb', t1, fun k hk => ?_, fun i hi => ?_⟩
      · rw [t2 k hk]
        by_cases e : k = j
        · subst e
          rw [if_neg (by omega), if_pos (by omega), pk_uLs]
        · by_cases z : j + 1 ≤ k
          · rw [if_pos z, if_pos (by omega), pk_uLn (by omega)]
          · rw [if_neg z, if_neg (by omega), pk_uLn (by omega)]
      · rw [t3 i hi, pk_uLn (by omega)]
theorem low_zero {s j l : Nat} (h : s % 2 ^ l = 0) (hj : j < l) : s / 2 ^ j % 2 = 0 := by
  obtain ⟨t, rfl⟩ := Nat.dvd_of_mod_eq_zero h
  have e : 2 ^ l = 2 ^ j * (2 * 2 ^ (l - j - 1)) := by
    rw [show 2 * 2 ^ (l - j - 1) = 2 ^ (l - j - 1 + 1) from by rw [Nat.pow_succ, Nat.mul_comm], ← Nat.pow_add]
    congr 1
    omega
  rw [e, Nat.mul_assoc, Nat.mul_div_cancel_left _ (Nat.two_pow_pos j), Nat.mul_assoc, Nat.mul_mod_right]
theorem find_loop {P s : Nat} (hv : Nat → Int32) (hs : s < 4096) (h0 : s ≠ 0) : ∀ (m i : Nat) (tb : Nat → Int64), i ≤ low s → low s - i < m → f_X9_countsOf_b2 (nI P) hv (nI s) m tb (nI i) = f_X9_countsOf_b28 (nI P) hv (nI s) 70 tb (nI (low s)) (nI (s - 2 ^ low s)) 0 := by
  obtain ⟨l1, l2, l3, l4⟩ := (low_ok s hs).resolve_left h0
  intro m
  induction m with
  | zero =>
    intro i tb _ h
    omega
  | succ m ih =>
    intro i tb hi hm
    show f_X9_countsOf_s2 (nI P) hv (nI s) (f_X9_countsOf_b2 (nI P) hv (nI s) m) tb (nI i) = _
    unfold f_X9_countsOf_s2
    rw [q_hasI (by omega) (by omega), bE1]
    by_cases h : i = low s
    · rw [h, l3, if_neg (show ¬ nI 1 = 0 by decide), nmE]
      have hc : nI s &&& ((1 <<< (nI (low s) &&& 31)) ^^^ (-1)) = nI (s - 2 ^ low s) := by
        rcases bit_clear s hs (low s) l1 with z | z
        · omega
        · exact z
      rw [hc]
    · rw [low_zero l4 (show i < low s by omega), if_pos (show nI 0 = 0 from rfl), nmE, nI_1]
      exact ih (i + 1) tb (by omega) (by omega)
/-- THE ROW OF A SET, by the rows of its rest and of its rest without one more -/
theorem row_ref {P s : Nat} (hv : Nat → Int32) (R : Nat → Nat → Int64) (tb : Nat → Int64) (hP : P ≤ 12) (hs : s < 2 ^ P) (h0 : s ≠ 0) (h1 : ∀ k, k < 7 → tb (7 * (s - 2 ^ low s) + k) = R (s - 2 ^ low s) k) (h2 : ∀ j, j < 12 → (s - 2 ^ low s) / 2 ^ j % 2 = 1 → ∀ k, k < 7 → tb (7 * (s - 2 ^ low s - 2 ^ j) + k) = R (s - 2 ^ low s - 2 ^ j) k) : ∃ tb', f_X9_countsOf (nI P) tb hv (nI s) = some tb' ∧ (∀ k, k < 7 → tb' (7 * s + k) = fq (fun a b => hv (12 * a + b)) (low s) (s - 2 ^ low s) R P k) ∧ ∀ i, (i < 7 * s ∨ 7 * s + 7 ≤ i) → tb' i = tb i := by
  have hs2 : s < 4096 := Nat.lt_of_lt_of_le hs (Nat.pow_le_pow_right (by decide) hP)
  obtain ⟨l1, l2, l3, l4⟩ := (low_ok s hs2).resolve_left h0
  have hp2 := Nat.two_pow_pos (low s)
  have hlP : low s < P := by
    rcases Nat.lt_or_ge (low s) P with z | z
    · exact z
    · have := Nat.pow_le_pow_right (n := 2) (by decide) z
      omega
  unfold f_X9_countsOf
  have e1 := find_loop (P := P) hv hs2 h0 70 0 tb (by omega) (by omega)
  rw [nI_0] at e1
  rw [e1]
  obtain ⟨tb1, t1, t2, t3⟩ := copy_loop (P := P) (s := s) (rest := s - 2 ^ low s) (p := low s) hv hs2 (by omega) 70 0 tb (by omega) (by omega)
  rw [nI_0] at t1
  rw [t1]
  obtain ⟨tb', u1, u2, u3⟩ := outer_loop (P := P) (s := s) (rest := s - 2 ^ low s) (p := low s) hv R hP hs2 (by omega) l1 70 (low s + 1) tb1 (by omega) (by omega) (by omega) (fun k hk => by
    rw [fq_start _ _ _ _ _ (Nat.le_refl _), t2 k hk, if_pos (by omega)]
    exact h1 k hk) (fun j hj hb k hk => by
    obtain ⟨d1, d2⟩ := clear_lt hb
    rw [t3 _ (by omega)]
    exact h2 j hj hb k hk)
  exact ⟨tb', u1, u2, fun i hi => (u3 i hi).trans (t3 i hi)⟩
