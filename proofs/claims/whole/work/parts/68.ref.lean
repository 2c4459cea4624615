/-! pure rows: the reference's COUNTS of a set -/
theorem ib_not (x : Int32) (i : Nat) : ib (x ^^^ (-1)) i = (decide (i < 32) && !ib x i) := by
  unfold ib
  rw [Int32.toBitVec_xor, BitVec.getLsbD_xor, show (-1 : Int32).toBitVec = BitVec.allOnes 32 from rfl, BitVec.getLsbD_allOnes]
  by_cases h : i < 32
  · simp [h]
  · have : x.toBitVec.getLsbD i = false := BitVec.getLsbD_of_ge _ _ (by omega)
    simp [h, this]
theorem ib_ge (x : Int32) {i : Nat} (h : 32 ≤ i) : ib x i = false := BitVec.getLsbD_of_ge _ _ h
/-- points of t are points of a -/
def sub (t a : Nat) : Prop := ∀ i, ib (nI t) i = true → ib (nI a) i = true
theorem sub_iff (t a : Nat) : nI t &&& (nI a ^^^ (-1)) = 0 ↔ sub t a := by
  rw [ib_eq0]
  constructor
  · intro h i hi
    have := h i
    rw [ib_and, ib_not, hi] at this
    have h32 : i < 32 := by
      rcases Nat.lt_or_ge i 32 with z | z
      · exact z
      · rw [ib_ge _ z] at hi
        cases hi
    simpa [h32] using this
  · intro h i
    rw [ib_and, ib_not]
    cases e : ib (nI t) i
    · simp
    · simp [h i e]
theorem sub_clear {s a j : Nat} (h : sub s a) (hs : s < 4096) (hj : j < 12) (hb : s / 2 ^ j % 2 = 1) : sub (s - 2 ^ j) a := by
  rcases bit_clear s hs j hj with z | z
  · omega
  · intro i hi
    rw [← z, ib_and] at hi
    apply h i
    cases e : ib (nI s) i
    · rw [e] at hi
      simp at hi
    · rfl
theorem sub_refl (a : Nat) : sub a a := fun _ h => h
theorem zero_row {P : Nat} (hv : Nat → Int32) {a : Nat} (ct : Nat → Int64) (im : Int32) : ∀ (m j : Nat) (tb : Nat → Int64), j ≤ 7 → 7 - j < m → (∀ k, k < j → tb k = if k = 0 then 1 else 0) → ∃ tb', f_X9_countsBy_b2 (nI P) hv (nI a) m tb ct im (nI j) = f_X9_countsBy_b31 (nI P) hv (nI a) 4200 tb' ct im 1 ∧ ∀ k, k < 7 → tb' k = if k = 0 then 1 else 0 := by
  intro m
  induction m with
  | zero => intro j tb _ h; omega
  | succ m ih =>
    intro j tb hj hm hr
    show ∃ tb', f_X9_countsBy_s2 (nI P) hv (nI a) (f_X9_countsBy_b2 (nI P) hv (nI a) m) tb ct im (nI j) = _ ∧ _
    unfold f_X9_countsBy_s2
    by_cases h : 7 ≤ j
    · have e : j = 7 := by omega
      subst e
      rw [if_pos (show (7 : Int32) ≤ nI 7 by decide)]
      exact ⟨tb, rfl, hr⟩
    · rw [if_neg (show ¬ (7 : Int32) ≤ nI j from nI_ge (a := j) (b := 7) (by omega) (by decide))]
      by_cases h0 : j = 0
      · subst h0
        rw [if_pos (show nI 0 = 0 from rfl), gN (n := 0) (N := 28672) (by decide) (by decide), nmE, nmE, nI_clamp (n := 0) (by decide), nI_1]
        refine ih 1 _ (by omega) (by omega) (fun k hk => ?_)
        have : k = 0 := by omega
        subst this
        rw [if_pos rfl]
        exact pk_uLs
      · rw [if_neg (show ¬ nI j = 0 from nI_ne (b := 0) (by omega) (by decide) h0), g28672 (by omega), nmE, nmE, c28672 (by omega), nI_1]
        refine ih (j + 1) _ (by omega) (by omega) (fun k hk => ?_)
        by_cases e : k = j
        · subst e
          rw [if_neg h0]
          exact pk_uLs
        · rw [pk_uLn e]
          exact hr k (by omega)
theorem sets_loop {P a : Nat} (hP : P ≤ 12) (ha : a < 2 ^ P) (hv : Nat → Int32) (ct : Nat → Int64) (im : Int32) : ∀ (m s : Nat) (tb : Nat → Int64), 1 ≤ s → s ≤ a + 1 → a + 1 - s < m → (∀ t, t < s → sub t a → ∀ k, k < 7 → tb (7 * t + k) = Rr (fun p q => hv (12 * p + q)) t k) → ∃ tb', f_X9_countsBy_b31 (nI P) hv (nI a) m tb ct im (nI s) = f_X9_countsBy_b62 (nI P) hv (nI a) 4200 tb' ct 0 0 ∧ ∀ k, k < 7 → tb' (7 * a + k) = Rr (fun p q => hv (12 * p + q)) a k := by
  have ha2 : a < 4096 := Nat.lt_of_lt_of_le ha (Nat.pow_le_pow_right (n := 2) (by decide) hP)
  intro m
  induction m with
  | zero => intro s tb _ _ h; omega
  | succ m ih =>
    intro s tb hs1 hsa hm hr
    show ∃ tb', f_X9_countsBy_s31 (nI P) hv (nI a) (f_X9_countsBy_b31 (nI P) hv (nI a) m) tb ct im (nI s) = _ ∧ _
    unfold f_X9_countsBy_s31
    by_cases h : a < s
    · rw [if_pos (nI_lt h (by omega))]
      exact ⟨tb, rfl, hr a h (sub_refl a)⟩
    · rw [if_neg (fun q => h ((nI_ltI (by omega) (by omega)).mp q))]
      by_cases hsub : sub s a
      · obtain ⟨l1, l2, l3, l4⟩ := (low_ok s (by omega)).resolve_left (by omega)
        have hp2 := Nat.two_pow_pos (low s)
        have hsr := sub_clear hsub (by omega) l1 l3
        obtain ⟨tb1, t1, t2, t3⟩ := row_ref (P := P) (s := s) hv (Rr (fun p q => hv (12 * p + q))) tb hP (by omega) (by omega) (hr _ (by omega) hsr) (fun j hj hb k hk => hr _ (by have := clear_lt hb; omega) (sub_clear hsr (by omega) hj hb) k hk)
        rw [if_pos ((sub_iff s a).mpr hsub), t1, bE1, nmE, nI_1]
        refine ih (s + 1) tb1 (by omega) (by omega) (by omega) (fun t ht hst k hk => ?_)
        rcases Nat.lt_or_ge t s with z | z
        · rw [t3 _ (by omega)]
          exact hr t z hst k hk
        · have : t = s := by omega
          subst this
          rw [t2 k hk, Rr_s _ (by omega) (by omega), fq_top (P := P) (by omega) 12 hP]
      · rw [if_neg (fun q => hsub ((sub_iff s a).mp q)), nmE, nI_1]
        refine ih (s + 1) tb (by omega) (by omega) (by omega) (fun t ht hst k hk => ?_)
        rcases Nat.lt_or_ge t s with z | z
        · exact hr t z hst k hk
        · have : t = s := by omega
          subst this
          exact absurd hst hsub
/-- whether one of a row is too great, as class and reference tell it -/
def muchV (r : Nat → Int64) (n : Nat) (b : Int32) : Prop := (b = 0 ∧ ∀ k, k < n → ¬ r k < 0) ∨ (b = 1 ∧ ∃ k, k < n ∧ r k < 0)
theorem last_loop {P a : Nat} (ha : a < 4096) (hv : Nat → Int32) (tb : Nat → Int64) : ∀ (m j : Nat) (ct : Nat → Int64) (im : Int32), j ≤ 7 → 7 - j < m → (∀ k, k < j → ct k = tb (7 * a + k)) → muchV (fun k => tb (7 * a + k)) j im → ∃ ct' im', f_X9_countsBy_b62 (nI P) hv (nI a) m tb ct im (nI j) = some (tb, ct', im') ∧ (∀ k, k < 7 → ct' k = tb (7 * a + k)) ∧ muchV (fun k => tb (7 * a + k)) 7 im' := by
  intro m
  induction m with
  | zero => intro j ct im _ h; omega
  | succ m ih =>
    intro j ct im hj hm hc hM
    show ∃ ct' im', f_X9_countsBy_s62 (nI P) hv (nI a) (f_X9_countsBy_b62 (nI P) hv (nI a) m) tb ct im (nI j) = _ ∧ _
    unfold f_X9_countsBy_s62
    by_cases h : 7 ≤ j
    · have e : j = 7 := by omega
      subst e
      rw [if_pos (show (7 : Int32) ≤ nI 7 by decide)]
      exact ⟨ct, im, rfl, hc, hM⟩
    · have a2 : 7 * a + j < 28672 := by omega
      have hc' : ∀ k, k < j + 1 → vp_updL ct j (tb (7 * a + j)) k = tb (7 * a + k) := by
        intro k hk
        by_cases e : k = j
        · subst e
          exact pk_uLs
        · rw [pk_uLn e]
          exact hc k (by omega)
      rw [if_neg (show ¬ (7 : Int32) ≤ nI j from nI_ge (a := j) (b := 7) (by omega) (by decide)), mul7, g28672 a2, gN (N := 7) (by omega) (by decide), nmE, c28672 a2, gN (N := 7) (by omega) (by decide), nI_clamp (show j < 2 ^ 31 by omega), pk_uLs]
      by_cases hn : tb (7 * a + j) < 0
      · rw [if_neg (fun q => by rw [lg_cmp_ge] at q; exact absurd hn (Int64.not_lt.mpr q)), nmE]
        have e1 : im ||| 1 = 1 := by
          rcases hM with ⟨z, _⟩ | ⟨z, _⟩ <;> rw [z] <;> decide
        rw [e1, if_pos (Or.inr rfl), nmE, nI_1]
        exact ih (j + 1) _ 1 (by omega) (by omega) hc' (Or.inr ⟨rfl, j, by omega, hn⟩)
      · rw [if_pos (by rw [lg_cmp_ge]; exact Int64.not_lt.mp hn), nmE, Int32.or_zero]
        have e1 : im = 0 ∨ im = 1 := by
          rcases hM with ⟨z, _⟩ | ⟨z, _⟩
          · exact Or.inl z
          · exact Or.inr z
        rw [if_pos e1, nmE, nI_1]
        refine ih (j + 1) _ im (by omega) (by omega) hc' ?_
        rcases hM with ⟨z, z2⟩ | ⟨z, k, z2, z3⟩
        · refine Or.inl ⟨z, fun k hk => ?_⟩
          by_cases e : k = j
          · subst e
            exact hn
          · exact z2 k (by omega)
        · exact Or.inr ⟨z, k, by omega, z3⟩
theorem q_countsBy {P a : Nat} (hP : P ≤ 12) (ha : a < 2 ^ P) (hv : Nat → Int32) (tb ct : Nat → Int64) (im : Int32) : ∃ tb' ct' im', f_X9_countsBy (nI P) tb ct hv im (nI a) = some (tb', ct', im') ∧ (∀ k, k < 7 → ct' k = Rr (fun p q => hv (12 * p + q)) a k) ∧ muchV (Rr (fun p q => hv (12 * p + q)) a) 7 im' := by
  have ha2 : a < 4096 := Nat.lt_of_lt_of_le ha (Nat.pow_le_pow_right (n := 2) (by decide) hP)
  unfold f_X9_countsBy
  obtain ⟨tb1, t1, t2⟩ := zero_row (P := P) hv (a := a) ct im 4200 0 tb (by omega) (by omega) (fun k hk => by omega)
  rw [nI_0] at t1
  rw [t1]
  obtain ⟨tb2, u1, u2⟩ := sets_loop hP ha hv ct im 4200 1 tb1 (by omega) (by omega) (by omega) (fun t ht _ k hk => by
    have : t = 0 := by omega
    subst this
    rw [show 7 * 0 + k = k by omega, t2 k hk, Rr_0])
  have u1 : f_X9_countsBy_b31 (nI P) hv (nI a) 4200 tb1 ct im 1 = f_X9_countsBy_b62 (nI P) hv (nI a) 4200 tb2 ct 0 0 := u1
  rw [u1]
  obtain ⟨ct', im', v1, v2, v3⟩ := last_loop (P := P) ha2 hv tb2 4200 0 ct 0 (by omega) (by omega) (fun k hk => by omega) (Or.inl ⟨rfl, fun k hk => by omega⟩)
  rw [nI_0] at v1
  rw [v1]
  refine ⟨tb2, ct', im', rfl, fun k hk => (v2 k hk).trans (u2 k hk), ?_⟩
  rcases v3 with ⟨z, z2⟩ | ⟨z, k, z2, z3⟩
  · exact Or.inl ⟨z, fun k hk => by rw [← u2 k hk]; exact z2 k hk⟩
  · exact Or.inr ⟨z, k, z2, by rw [← u2 k z2]; exact z3⟩
