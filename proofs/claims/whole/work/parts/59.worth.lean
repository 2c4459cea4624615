/-! pure rows: worth -/
theorem weight_nn {k f T : Nat} (hk : k < 6) (hf : f ≤ 9999) (hT : T ≤ 9) : ∃ j : Nat, j ≤ 20007 ∧ f_X9_weighs (nI T) (nI k) (nI f) = some (nI j) := by
  unfold f_X9_weighs
  have e : ∀ x : Nat, x ≤ 9999 → ∃ j : Nat, j ≤ 20007 ∧ f_X9_weighs_b18 (nI T) (nI k) (nI f) (nI x) = some (nI j) := by
    intro x hx
    unfold f_X9_weighs_b18
    simp only [if_neg (show ¬ (2 : Int32) = 0 by decide)]
    have m2 : (2 : Int32) * nI f = nI (2 * f) := by rw [show (2 : Int32) = nI 2 from rfl, pk_mul]
    have d2 : nI x / 2 = nI (x / 2) := by rw [show (2 : Int32) = nI 2 from rfl, pk_div (by omega) (by omega) (by decide)]
    rw [m2, nI_add, d2]
    repeat' split
    · exact ⟨2 * f, by omega, rfl⟩
    · exact ⟨x, by omega, rfl⟩
    · exact ⟨2 * f + T, by omega, rfl⟩
    · exact ⟨x / 2, by omega, rfl⟩
    · exact ⟨f, by omega, rfl⟩
    · exact ⟨1, by omega, rfl⟩
    · exact ⟨f, by omega, rfl⟩
  by_cases h : nI f ≤ nI T
  · rw [if_pos h]
    exact e 0 (by omega)
  · rw [if_neg h]
    have hlt : T ≤ f := by
      rcases Nat.lt_or_ge f T with q | q
      · exact absurd (nI_le (Nat.le_of_lt q) (by omega)) h
      · exact q
    rw [pk_sub hlt]
    exact e (f - T) (by omega)
theorem times_some (a b : Int64) : ∃ r, f_X9_times a b = some r := by
  unfold f_X9_times
  simp only [lg_cmp_eq]
  by_cases h1 : a = 0
  · simp only [if_pos h1]
    exact ⟨_, rfl⟩
  · by_cases h2 : b = 0
    · simp only [if_neg h1, if_pos h2]
      exact ⟨_, rfl⟩
    · simp only [if_neg h1, if_neg h2]
      repeat' split
      all_goals exact ⟨_, rfl⟩
theorem worth_none (lo hi : Nat → Int32) {kd fg : Nat → Int32} {L T : Nat} (hL : L ≤ 40) (x : Int64) : ∀ (m i : Nat) (v : Int64), i ≤ L → L - i < m → f_X9_worth_b36 (nI L) (nI T) kd fg lo hi x m v 1 (nI i) = some 0 := by
  intro m
  induction m with
  | zero =>
    intro i v _ h
    omega
  | succ m ih =>
    intro i v hi' hm
    show f_X9_worth_s36 (nI L) (nI T) kd fg lo hi x (f_X9_worth_b36 (nI L) (nI T) kd fg lo hi x m) v 1 (nI i) = some 0
    unfold f_X9_worth_s36 f_X9_worth_b69
    by_cases h : L ≤ i
    · rw [if_pos (nI_le h (by omega)), if_neg (by decide)]
    · rw [if_neg (nI_ge (by omega) (by omega))]
      have h40 : i < 40 := by omega
      rw [q_has x (k := i) (by omega), q_weight (nI T) h40]
      obtain ⟨w, ew⟩ := weight_some (nI T) (kd i) (fg i)
      obtain ⟨r, er⟩ := times_some v w.toInt64
      rw [ew]
      simp only [bs1, er, h01, nm_eq, nI_1, Int32.or_zero, Int32.or_self]
      by_cases hb : lbit x (nI i) = 0
      · simp only [if_pos hb]
        exact ih (i + 1) v (by omega) (by omega)
      · simp only [if_neg hb]
        by_cases hw : w = 0
        · simp only [if_pos hw]
          exact ih (i + 1) r (by omega) (by omega)
        · simp only [if_neg hw]
          exact ih (i + 1) r (by omega) (by omega)
theorem worth_loop {kd fg lo hi jn nr : Nat → Int32} {la : Nat → Int64} {P L T : Nat} (hn : NetI kd fg lo hi jn nr la P L T) (x : Int64) : ∀ (m i : Nat) (v : Int64), i ≤ L → L - i < m → ∃ r, f_X1_productOf_b5 kd fg (nI L) (nI T) x m v (nI i) = some r ∧ f_X9_worth_b36 (nI L) (nI T) kd fg lo hi x m v 0 (nI i) = some (if 0 ≤ r then r else -4611686018427387909) := by
  have hL := hn.2.1
  intro m
  induction m with
  | zero =>
    intro i v _ h
    omega
  | succ m ih =>
    intro i v hi' hm
    show ∃ r, f_X1_productOf_s5 kd fg (nI L) (nI T) x (f_X1_productOf_b5 kd fg (nI L) (nI T) x m) v (nI i) = some r ∧ f_X9_worth_s36 (nI L) (nI T) kd fg lo hi x (f_X9_worth_b36 (nI L) (nI T) kd fg lo hi x m) v 0 (nI i) = some (if 0 ≤ r then r else -4611686018427387909)
    unfold f_X1_productOf_s5 f_X9_worth_s36 f_X9_worth_b69
    by_cases h : L ≤ i
    · rw [if_pos (nI_le h (by omega)), if_pos (nI_le h (by omega)), if_pos rfl]
      refine ⟨v, rfl, ?_⟩
      simp only [lg_cmp_ge]
      by_cases hv : 0 ≤ v
      · rw [if_pos hv, if_pos hv]
      · rw [if_neg hv, if_neg hv]
        rfl
    · rw [if_neg (nI_ge (by omega) (by omega)), if_neg (nI_ge (by omega) (by omega))]
      have h40 : i < 40 := by omega
      obtain ⟨k, hk1, hk2⟩ := hn.2.2.2.1 i h40
      obtain ⟨f, hf1, hf2⟩ := hn.2.2.2.2.1 i h40
      obtain ⟨j, hj, ew⟩ := weight_nn hk1 hf1 hn.2.2.1
      rw [q_has x (k := i) (by omega), weigh_eq hn h40, q_weight (nI T) h40, hk2, hf2, ew]
      simp only [bs1, h01, nm_eq, nI_1, Int32.or_zero, Int32.zero_or, lg_cmp_eq]
      show ∃ r, (if lbit x (nI i) = 0 then _ else _) = some r ∧ _
      by_cases hb : lbit x (nI i) = 0
      · simp only [if_pos hb]
        exact ih (i + 1) v (by omega) (by omega)
      · simp only [if_neg hb]
        obtain ⟨r, er⟩ := times_some v (nI j).toInt64
        by_cases hw : nI j = 0
        · simp only [if_pos hw, er, bs1]
          exact ⟨0, rfl, worth_none lo hi hL x m (i + 1) r (by omega) (by omega)⟩
        · simp only [if_neg hw]
          have t1 : ¬ (nI j).toInt64 < 0 := by
            rw [show (0 : Int64) = (0 : Int32).toInt64 from rfl, i2l_lt]
            exact nI_pos (by omega)
          have t2 : ¬ (nI j).toInt64 = 0 := by
            rw [show (0 : Int64) = (0 : Int32).toInt64 from rfl, i2l_eq]
            exact hw
          rw [times_eq (fun q => t1 q.2) (fun q => t2 q.2), er]
          simp only [bs1]
          exact ih (i + 1) r (by omega) (by omega)
theorem s_worth {kd fg lo hi jn nr : Nat → Int32} {la : Nat → Int64} {P L T : Nat} (hn : NetI kd fg lo hi jn nr la P L T) (x : Int64) : ∃ r, f_X8_worth kd fg lo hi (nI L) (nI T) x = some r ∧ f_X9_worth (nI L) (nI T) kd fg lo hi x = some r := by
  have hL := hn.2.1
  unfold f_X8_worth f_X9_worth
  obtain ⟨a1, a2⟩ := lines_eq x hn.2.1
  obtain ⟨b1, b2⟩ := paired_eq lo hi x hn.2.1
  rw [a1, b1]
  rcases a2 with a2 | a2
  · rw [a2]
    exact ⟨_, rfl, rfl⟩
  · rw [a2]
    rcases b2 with b2 | b2
    · rw [b2]
      exact ⟨_, rfl, rfl⟩
    · rw [b2]
      simp only [bs1, if_neg (show ¬ (1 : Int32) = 0 by decide)]
      unfold f_X1_productOf
      obtain ⟨r, e1, e2⟩ := worth_loop hn x 70 0 1 (by omega) (by omega)
      rw [nI_0] at e1 e2
      rw [e1, e2]
      simp only [bs1, lg_cmp_ge]
      by_cases hr : 0 ≤ r
      · rw [if_pos hr, if_pos hr]
        exact ⟨_, rfl, rfl⟩
      · rw [if_neg hr, if_neg hr]
        exact ⟨_, rfl, rfl⟩
