/-! pure rows: sign, changes -/
def okM (a b : Int64) : Prop := -9223372036854775808 ≤ a.toInt * b.toInt ∧ a.toInt * b.toInt < 9223372036854775808
theorem lm1 : (-1 : Int64).toInt = -1 := by decide
theorem lmin : (-9223372036854775808 : Int64).toInt = -9223372036854775808 := by decide
theorem mul_key {a b : Int64} (hb : b ≠ 0) (hb1 : b ≠ -1) : (a * b) / b = a ↔ okM a b := by
  rw [← Int64.toInt_inj, Int64.toInt_div, Int64.toInt_mul]
  unfold okM
  have hA1 := a.le_toInt
  have hA2 := a.toInt_lt
  have hB1 := b.le_toInt
  have hB2 := b.toInt_lt
  have hb0 : b.toInt ≠ 0 := fun q => hb (Int64.toInt_inj.mp (q.trans l0.symm))
  have hbm : b.toInt ≠ -1 := fun q => hb1 (Int64.toInt_inj.mp (q.trans lm1.symm))
  generalize a.toInt = A at *
  generalize b.toInt = D at *
  by_cases h1 : D = 1
  · subst h1
    have eA : A.bmod (2 ^ 64) = A := Int.bmod_eq_of_le (by omega) (by omega)
    rw [Int.mul_one, Int.tdiv_one, eA, eA]
    exact ⟨fun _ => ⟨by omega, by omega⟩, fun _ => rfl⟩
  · have e1 := Int.bmod_add_bdiv (A * D) (2 ^ 64)
    have e2 : -((2 ^ 64 : Nat) / 2 : Int) ≤ (A * D).bmod (2 ^ 64) := Int.le_bmod (by decide)
    have e3 : (A * D).bmod (2 ^ 64) < ((2 ^ 64 : Nat) + 1 : Int) / 2 := Int.bmod_lt (by decide)
    have e4 : -9223372036854775808 ≤ A * D ∧ A * D < 9223372036854775808 → (A * D).bmod (2 ^ 64) = A * D := fun q => Int.bmod_eq_of_le (by omega) (by omega)
    have e5 : (A * D).tdiv D = A := Int.mul_tdiv_cancel A hb0
    have e6 : D * A = A * D := Int.mul_comm D A
    generalize hk : (A * D).bdiv (2 ^ 64) = k at e1
    generalize hY : (A * D).bmod (2 ^ 64) = Y at e1 e2 e3 e4 ⊢
    have t0 := Int.mul_tdiv_add_tmod Y D
    have t1 : (Y.tdiv D).natAbs = Y.natAbs / D.natAbs := Int.natAbs_tdiv Y D
    have t2 : Y.natAbs / D.natAbs ≤ Y.natAbs / 2 := Nat.div_le_div_left (by omega) (by omega)
    have t4 : (Y.tmod D).natAbs = Y.natAbs % D.natAbs := Int.natAbs_tmod Y D
    have t5 : Y.natAbs % D.natAbs < D.natAbs := Nat.mod_lt _ (by omega)
    have t3 : (Y.tdiv D).bmod (2 ^ 64) = Y.tdiv D := Int.bmod_eq_of_le (by omega) (by omega)
    rw [t3]
    constructor
    · intro h
      rw [h, e6] at t0
      generalize A * D = X at *
      omega
    · intro h
      rw [e4 h, e5]
theorem okM_comm {a b : Int64} : okM a b ↔ okM b a := by
  unfold okM
  rw [Int.mul_comm]
theorem okM_m1 (a : Int64) : okM a (-1) ↔ ¬ a = -9223372036854775808 := by
  unfold okM
  rw [lm1, ← Int64.toInt_inj, lmin]
  have hA1 := a.le_toInt
  have hA2 := a.toInt_lt
  omega
theorem okM_0 (a : Int64) : okM a 0 := by
  unfold okM
  rw [l0]
  omega
theorem can_ok {a b : Int64} (h : okM a b) : f_X7_canMultiply a b = some 1 := by
  unfold f_X7_canMultiply
  simp only [lg_cmp_eq]
  by_cases h0 : b = 0
  · rw [if_pos h0]
  · rw [if_neg h0]
    by_cases h1 : b = -1
    · subst h1
      rw [if_pos rfl, if_neg ((okM_m1 a).mp h)]
    · rw [if_neg h1, if_neg h0, if_pos ((mul_key h0 h1).mpr h)]
theorem can_no {a b : Int64} (h : ¬ okM a b) : f_X7_canMultiply a b = some 0 := by
  unfold f_X7_canMultiply
  simp only [lg_cmp_eq]
  by_cases h0 : b = 0
  · subst h0
    exact absurd (okM_0 a) h
  · rw [if_neg h0]
    by_cases h1 : b = -1
    · subst h1
      rw [if_pos rfl, if_pos]
      apply Classical.byContradiction
      intro q
      exact h ((okM_m1 a).mpr q)
    · rw [if_neg h1, if_neg h0, if_neg (fun q => h ((mul_key h0 h1).mp q))]
theorem m1_div (b : Int64) : (-1 * b) / (-1) = b := by
  rw [← Int64.neg_eq_neg_one_mul]
  apply Int64.toInt_inj.mp
  rw [Int64.toInt_div, Int64.toInt_neg, lm1]
  have hA1 := b.le_toInt
  have hA2 := b.toInt_lt
  generalize b.toInt = A at *
  rw [Int.tdiv_neg, Int.tdiv_one]
  by_cases h : A = -9223372036854775808
  · subst h
    decide
  · rw [Int.bmod_eq_of_le (n := -A) (by omega) (by omega), Int.neg_neg, Int.bmod_eq_of_le (by omega) (by omega)]
theorem or1 {f : Int32} (h : f = 0 ∨ f = 1) : f ||| 1 = 1 := by
  rcases h with rfl | rfl <;> decide
theorem prod_ok {f : Int32} (hf : f = 0 ∨ f = 1) {a b : Int64} (h : okM a b) : f_X9_product f a b = some (a * b, f) := by
  unfold f_X9_product
  simp only [nmE, lg_cmp_eq, Int32.or_zero, or1 hf]
  by_cases h0 : a = 0
  · rw [if_pos h0, if_pos hf]
  · rw [if_neg h0, if_neg h0]
    by_cases h1 : a = -1
    · subst h1
      rw [if_pos (m1_div b), if_pos rfl, if_neg ((okM_m1 b).mp (okM_comm.mp h)), if_pos hf]
    · rw [if_pos (by rw [Int64.mul_comm]; exact (mul_key h0 h1).mpr (okM_comm.mp h)), if_neg h1, if_pos hf]
theorem prod_no {f : Int32} (hf : f = 0 ∨ f = 1) {a b : Int64} (h : ¬ okM a b) : f_X9_product f a b = some (a * b, 1) := by
  unfold f_X9_product
  simp only [nmE, lg_cmp_eq, Int32.or_zero, or1 hf]
  have c1 : (1 : Int32) = 0 ∨ True := Or.inr True.intro
  by_cases h0 : a = 0
  · subst h0
    exact absurd (okM_comm.mp (okM_0 b)) h
  · rw [if_neg h0, if_neg h0]
    by_cases h1 : a = -1
    · subst h1
      rw [if_pos (m1_div b), if_pos rfl, if_pos, if_pos c1]
      apply Classical.byContradiction
      intro q
      exact h (okM_comm.mp ((okM_m1 b).mpr q))
    · rw [if_neg (by rw [Int64.mul_comm]; exact fun q => h (okM_comm.mp ((mul_key h0 h1).mp q))), if_pos c1]
theorem prod_1 (a b : Int64) : f_X9_product 1 a b = some (a * b, 1) := by
  by_cases h : okM a b
  · exact prod_ok (Or.inr rfl) h
  · exact prod_no (Or.inr rfl) h
theorem neg_msb (z : Int64) : z < 0 ↔ z.toBitVec.msb = true := by
  rw [Int64.lt_iff_toInt_lt, l0, BitVec.msb_eq_toInt, decide_eq_true_eq]
  exact Iff.rfl
theorem neg_and (x y : Int64) : x &&& y < 0 ↔ x < 0 ∧ y < 0 := by
  rw [neg_msb, neg_msb, neg_msb, Int64.toBitVec_and, BitVec.msb_and, Bool.and_eq_true]
theorem add_cases (a b : Int64) : (f_X7_canAdd a b = some 0 ∧ ∀ f : Int32, f = 0 ∨ f = 1 → f_X9_total f a b = some (a + b, 1)) ∨ (f_X7_canAdd a b = some 1 ∧ ∀ f : Int32, f = 0 ∨ f = 1 → f_X9_total f a b = some (a + b, f)) := by
  have c1 : (1 : Int32) = 0 ∨ (1 : Int32) = 1 := Or.inr rfl
  unfold f_X7_canAdd f_X9_total
  simp only [nmE, lg_cmp_lt, lg_cmp_ge, neg_and, Int32.or_zero]
  by_cases h1 : a ^^^ (a + b) < 0
  · by_cases h2 : b ^^^ (a + b) < 0
    · refine Or.inl ⟨if_pos ⟨h1, h2⟩, fun f hf => ?_⟩
      rw [if_neg (Int64.not_le.mpr h1), if_neg (Int64.not_le.mpr h2), or1 hf, if_pos c1]
    · refine Or.inr ⟨if_neg (fun q => h2 q.2), fun f hf => ?_⟩
      rw [if_neg (Int64.not_le.mpr h1), if_pos (Int64.not_lt.mp h2), if_pos hf]
  · refine Or.inr ⟨if_neg (fun q => h1 q.1), fun f hf => ?_⟩
    rw [if_pos (Int64.not_lt.mp h1), if_pos hf]
theorem total_1 (a b : Int64) : f_X9_total 1 a b = some (a + b, 1) := by
  rcases add_cases a b with ⟨_, h⟩ | ⟨_, h⟩
  · exact h 1 (Or.inr rfl)
  · exact h 1 (Or.inr rfl)
theorem at_eq {ct r : Nat → Int64} (hc : ∀ k, k < 7 → ct k = r k) {d i : Nat} (hd : d ≤ 12) (hi : i ≤ 12) : f_X9_at ct (nI d) (nI i) = some (cf r d i) := (q_number (wo := r) (s := 0) (by omega) (fun k _ => by rw [Nat.mul_zero, Nat.zero_add]) hc hd hi).2
theorem sign_much {ct r : Nat → Int64} (hc : ∀ k, k < 7 → ct k = r k) {d : Nat} (hd : d ≤ 12) (p q : Int32) : ∀ (m i : Nat) (v pw : Int64), 1 ≤ i → i ≤ d + 1 → d + 1 - i < m → f_X9_signAt_b19 ct (nI d) p q m 1 v pw (nI i) = some (-5, 1) := by
  intro m
  induction m with
  | zero => intro i v pw _ _ h; omega
  | succ m ih =>
    intro i v pw h1 hi hm
    show f_X9_signAt_s19 ct (nI d) p q (f_X9_signAt_b19 ct (nI d) p q m) 1 v pw (nI i) = _
    unfold f_X9_signAt_s19
    by_cases h : d < i
    · rw [if_pos (nI_lt h (by omega)), if_neg (by decide)]
    · rw [if_neg (fun z => h ((nI_ltI (by omega) (by omega)).mp z)), prod_1, bE2, prod_1, bE2, pk_sub (by omega), at_eq hc hd (by omega), bE1, prod_1, bE2, total_1, bE2, nmE, nI_1]
      exact ih (i + 1) _ _ (by omega) (by omega) (by omega)
theorem pow6 {q k : Nat} (hq : q ≤ 6) (hk : k ≤ 12) : q ^ k < 2 ^ 32 := by
  have h1 : q ^ k ≤ 6 ^ k := Nat.pow_le_pow_left hq k
  have h2 : 6 ^ k ≤ 6 ^ 12 := Nat.pow_le_pow_right (by decide) hk
  have h3 : 6 ^ 12 < 2 ^ 32 := by decide
  omega
def sgnV (r : Int32) : Prop := r = -5 ∨ r = -1 ∨ r = 0 ∨ r = 1
theorem sign_loop {wo ct r : Nat → Int64} {s : Nat} (hs : s < 515) (hr : ∀ k, k < 7 → wo (7 * s + k) = r k) (hc : ∀ k, k < 7 → ct k = r k) {d : Nat} (hd : d ≤ 12) (p : Int32) {q : Nat} (hq : q ≤ 6) : ∀ (m i : Nat) (v : Int64), i ≤ d → d - i < m → ∃ g z, f_X4_signAt_b26 wo (nI (7 * s)) (nI d) p (nI q) m v (lN (q ^ i)) (nI (i + 1)) = some z ∧ f_X9_signAt_b19 ct (nI d) p (nI q) m 0 v (lN (q ^ i)) (nI (i + 1)) = some (z, g) ∧ sgnV z := by
  intro m
  induction m with
  | zero => intro i v _ h; omega
  | succ m ih =>
    intro i v hi hm
    show ∃ g z, f_X4_signAt_s26 wo (nI (7 * s)) (nI d) p (nI q) (f_X4_signAt_b26 wo (nI (7 * s)) (nI d) p (nI q) m) v (lN (q ^ i)) (nI (i + 1)) = some z ∧ f_X9_signAt_s19 ct (nI d) p (nI q) (f_X9_signAt_b19 ct (nI d) p (nI q) m) 0 v (lN (q ^ i)) (nI (i + 1)) = some (z, g) ∧ sgnV z
    unfold f_X4_signAt_s26 f_X9_signAt_s19
    have f0 : (0 : Int32) = 0 ∨ (0 : Int32) = 1 := Or.inl rfl
    by_cases h : d < i + 1
    · rw [if_pos (nI_lt h (by omega)), if_pos (nI_lt h (by omega)), if_pos rfl]
      unfold f_J13_compare_74951
      by_cases c1 : 0 ≤ lg_cmp v 0
      · rw [if_pos c1, if_pos c1]
        by_cases c2 : lg_cmp v 0 = 0
        · rw [if_pos c2, if_pos (by rw [c2]; decide), bE1]
          exact ⟨0, 0, rfl, rfl, Or.inr (Or.inr (Or.inl rfl))⟩
        · rw [if_neg c2, if_neg, bE1]
          · exact ⟨0, 1, rfl, rfl, Or.inr (Or.inr (Or.inr rfl))⟩
          · intro z
            rw [lg_cmp_le] at z
            rw [lg_cmp_ge] at c1
            exact c2 ((lg_cmp_eq _ _).mpr (Int64.le_antisymm z c1))
      · rw [if_neg c1, if_neg c1, bE1]
        exact ⟨0, -1, rfl, rfl, Or.inr (Or.inl rfl)⟩
    · have hp := pow6 hq (show i + 1 ≤ 12 by omega)
      have hp0 := pow6 hq (show i ≤ 12 by omega)
      have eq64 : (nI q).toInt64 = lN q := nI_64 (by omega)
      have epw : lN (q ^ i) * (nI q).toInt64 = lN (q ^ (i + 1)) := by rw [eq64, lN_mul, Nat.pow_succ]
      have okp : okM (lN (q ^ i)) (nI q).toInt64 := by
        unfold okM
        rw [eq64, lN_tI (by omega), lN_tI (by omega)]
        have : ((q ^ i : Nat) : Int) * ((q : Nat) : Int) = ((q ^ (i + 1) : Nat) : Int) := by rw [Nat.pow_succ, Int.natCast_mul]
        rw [this]
        omega
      obtain ⟨n1, n2⟩ := q_number hs hr hc (d := d) (i := d - (i + 1)) hd (by omega)
      rw [if_neg (fun z => h ((nI_ltI (by omega) (by omega)).mp z)), if_neg (fun z => h ((nI_ltI (by omega) (by omega)).mp z)), nmE, epw, prod_ok f0 okp, bE2, epw, pk_sub (by omega), n1, n2, bE1]
      have more : ∀ v' : Int64, f_X9_signAt_b19 ct (nI d) p (nI q) m 1 v' (lN (q ^ (i + 1))) (nI (i + 1 + 1)) = some (-5, 1) := fun v' => sign_much hc hd p (nI q) m (i + 2) v' _ (by omega) (by omega) (by omega)
      by_cases o1 : okM v p.toInt64
      · rw [can_ok o1, bE1, if_neg (show ¬ (1 : Int32) = 0 by decide), prod_ok f0 o1, bE2, bE1]
        by_cases o2 : okM (cf r d (d - (i + 1))) (lN (q ^ (i + 1)))
        · rw [can_ok o2, bE1, if_neg (show ¬ (1 : Int32) = 0 by decide), prod_ok f0 o2, bE2]
          rcases add_cases (v * p.toInt64) (cf r d (d - (i + 1)) * lN (q ^ (i + 1))) with ⟨a1, a2⟩ | ⟨a1, a2⟩
          · rw [a1, bE1, if_pos rfl, a2 0 f0, bE2, nmE, nI_1, more]
            exact ⟨1, -5, rfl, rfl, Or.inl rfl⟩
          · rw [a1, bE1, if_neg (show ¬ (1 : Int32) = 0 by decide), a2 0 f0, bE2, nmE, nmE, nmE, nI_1]
            exact ih (i + 1) _ (by omega) (by omega)
        · rw [can_no o2, bE1, if_pos rfl, prod_no f0 o2, bE2, total_1, bE2, nmE, nI_1, more]
          exact ⟨1, -5, rfl, rfl, Or.inl rfl⟩
      · rw [can_no o1, bE1, if_pos rfl, prod_no f0 o1, bE2, bE1, prod_1, bE2, total_1, bE2, nmE, nI_1, more]
        exact ⟨1, -5, rfl, rfl, Or.inl rfl⟩
theorem q_signAt {wo ct r : Nat → Int64} {s : Nat} (hs : s < 515) (hr : ∀ k, k < 7 → wo (7 * s + k) = r k) (hc : ∀ k, k < 7 → ct k = r k) (hm : muchV r 7 0) {d : Nat} (hd : d ≤ 12) (p : Int32) {q : Nat} (hq : q ≤ 6) (tg : Int32) : ∃ g z, f_X4_signAt wo (nI (7 * s)) (nI d) p (nI q) = some z ∧ f_X9_signAt ct tg (nI d) p (nI q) = some (z, g) ∧ sgnV z := by
  obtain ⟨n1, n2⟩ := q_number hs hr hc (d := d) (i := d) hd hd
  unfold f_X4_signAt f_X9_signAt
  rw [q_isMuch hs hr hm, bE1, if_pos rfl, n1, bE1, n2, bE1]
  exact sign_loop hs hr hc hd p hq 70 0 (cf r d d) (by omega) (by omega)
theorem q_signAt1 {wo r : Nat → Int64} {s : Nat} (hs : s < 515) (hr : ∀ k, k < 7 → wo (7 * s + k) = r k) (hm : muchV r 7 1) (d p q : Int32) : f_X4_signAt wo (nI (7 * s)) d p q = some (-5) := by
  unfold f_X4_signAt
  rw [q_isMuch hs hr hm, bE1, if_neg (by decide)]
theorem n60 : ((-60 : Int32)).toInt64 = -60 := by decide
theorem s_sign {kd fg lo hi jn nr : Nat → Int32} {la : Nat → Int64} {P L T : Nat} (hn : NetI kd fg lo hi jn nr la P L T) {N B : Nat} (hB : B < 2 ^ 30) (hN : N < 2 ^ 30) {wo : Nat → Int64} {lg se st tn wt : Nat → Int32} {S ag tu : Int32} (ht : TabI (En kd fg lo hi T L) (Eo lo hi L) P N B wo lg se st tn wt S ag tu) (tb ct : Nat → Int64) (hv : Nat → Int32) (im : Int32) (tg p1 p2 p3 : Int32) :
    ∃ (r : Int32) (wo' : Nat → Int64) (lg' se' st' tn' wt' : Nat → Int32) (S' ag' tu' : Int32) (tb' ct' : Nat → Int64) (hv' : Nat → Int32) (im' : Int32) (tg' : Int32), f_X8_sign kd fg jn nr (nI P) (nI T) (nI N) wo lg se st tn wt S ag tu p1 p2 p3 = some (r, wo', lg', se', st', tn', wt', S', ag', tu') ∧ f_X9_sign (nI P) (nI L) (nI T) kd fg lo hi tb ct hv im tg p1 p2 p3 = some (r, tb', ct', hv', im', tg') ∧ TabI (En kd fg lo hi T L) (Eo lo hi L) P N (B + 1) wo' lg' se' st' tn' wt' S' ag' tu' := by
  have hP := hn.1
  unfold f_X8_sign f_X9_sign
  rw [q_isNoSet, q_isNoPlace, q_isBeyond, q_isOut, q_inL p2 (lo := -60) (hi := 60) (-60) 60 n60 rfl, q_inL p3 (lo := 1) (hi := 6) 1 6 rfl rfl, bE1, bE1, bE1, bE1, bE1, bE1]
  simp only [h10, h01]
  by_cases b1 : p1 < 0 ∨ 4095 < p1
  · rw [if_neg (fun q => q b1), if_pos b1]
    exact ⟨_, _, _, _, _, _, _, _, _, _, _, _, _, _, _, rfl, rfl, ht.more (by omega)⟩
  · rw [if_pos b1, if_neg b1]
    by_cases b2 : p2 < -60 ∨ 60 < p2
    · rw [if_neg (fun q => q b2), if_pos b2]
      exact ⟨_, _, _, _, _, _, _, _, _, _, _, _, _, _, _, rfl, rfl, ht.more (by omega)⟩
    · rw [if_pos b2, if_neg b2]
      by_cases b3 : p3 < 1 ∨ 6 < p3
      · rw [if_neg (fun q => q b3), if_pos b3]
        exact ⟨_, _, _, _, _, _, _, _, _, _, _, _, _, _, _, rfl, rfl, ht.more (by omega)⟩
      · rw [if_pos b3, if_neg b3]
        obtain ⟨o, ho, rfl⟩ := nI_of2 (M := 4095) (n := 4095) rfl (fun q => b1 (Or.inl q)) (Int32.not_lt.mp (fun q => b1 (Or.inr q)))
        obtain ⟨k, hk, rfl⟩ := nI_of2 (M := 6) (n := 6) rfl (fun q => b3 (Or.inl (Int32.lt_trans q (by decide)))) (Int32.not_lt.mp (fun q => b3 (Or.inr q)))
        obtain ⟨wo', lg', se', st', tn', wt', S', tb', ct', hv', im', r1, r2, r3, r4, r5, r6, r7⟩ := row_both hn hB hN ht (o := o) (by omega) tb ct hv im
        have fs : fr P o < 4096 := fr_lt hP (by omega)
        rw [r1, bE10, r2, bE4, q_degree hP (by omega), bE1]
        rcases much01 r6 with e | e
        · subst e
          obtain ⟨g, z, n1, n2, _⟩ := q_signAt (pl_lt fs) r3 r5 r6 (d := popc (fr P o) 12) (pop_le _ fs) p2 hk tg
          rw [if_pos rfl, n1, bE1, q_free hP (by omega), bE1, many_all _ fs, bE1, n2, bE2]
          exact ⟨_, _, _, _, _, _, _, _, _, _, _, _, _, _, _, rfl, rfl, r7⟩
        · subst e
          rw [if_neg (by decide), q_signAt1 (pl_lt fs) r3 r6, bE1]
          exact ⟨_, _, _, _, _, _, _, _, _, _, _, _, _, _, _, rfl, rfl, r7⟩
theorem ch_end (P L T : Int32) (kd fg lo hi : Nat → Int32) (p1 p2 p3 p4 : Int32) (tb ct : Nat → Int64) (hv : Nat → Int32) (im tg n last x : Int32) (m : Nat) : f_X9_changes_b77 P L T kd fg lo hi p1 p2 p3 p4 (m + 1) tb ct hv im tg n last 1 x = some (-5, tb, ct, hv, im, tg) := by
  show f_X9_changes_s77 P L T kd fg lo hi p1 p2 p3 p4 (f_X9_changes_b77 P L T kd fg lo hi p1 p2 p3 p4 m) tb ct hv im tg n last 1 x = _
  unfold f_X9_changes_s77
  rw [if_neg (show ¬ (1 : Int32) = 0 by decide), if_neg (show ¬ (1 : Int32) = 0 by decide), ite_self]
theorem ch_loop (kd fg lo hi jn nr : Nat → Int32) (P L T N : Nat) (p2 p3 p4 : Int32) (hp : p4.toInt ≤ 60) {wo tb ct : Nat → Int64} {lg se st tn wt hv : Nat → Int32} {S ag tu row dg im p1 fo : Int32} (hf : f_X9_free (nI P) p1 = some fo) (hmany : f_X9_many fo = some dg) (hsig : ∀ p tg : Int32, ∃ g z, f_X4_signAt wo row dg p p2 = some z ∧ f_X9_signAt ct tg dg p p2 = some (z, g) ∧ sgnV z) : ∀ (m : Nat) (x last n tg : Int32), (last = -1 ∨ last = 0 ∨ last = 1) → x.toInt ≤ p4.toInt + 1 → p4.toInt - x.toInt + 1 < m → ∃ r tg', f_X8_changes_b64 kd fg jn nr (nI P) (nI T) (nI N) p1 p2 p3 p4 m wo lg se st tn wt S ag tu row dg last n x = some (r, wo, lg, se, st, tn, wt, S, ag, tu) ∧ f_X9_changes_b77 (nI P) (nI L) (nI T) kd fg lo hi p1 p2 p3 p4 m tb ct hv im tg n last 0 x = some (r, tb, ct, hv, im, tg') := by
  intro m
  induction m with
  | zero =>
    intro x last n tg hl hx hm
    omega
  | succ m ih =>
    intro x last n tg hl hxp hm
    show ∃ r tg', f_X8_changes_s64 kd fg jn nr (nI P) (nI T) (nI N) p1 p2 p3 p4 (f_X8_changes_b64 kd fg jn nr (nI P) (nI T) (nI N) p1 p2 p3 p4 m) wo lg se st tn wt S ag tu row dg last n x = _ ∧ f_X9_changes_s77 (nI P) (nI L) (nI T) kd fg lo hi p1 p2 p3 p4 (f_X9_changes_b77 (nI P) (nI L) (nI T) kd fg lo hi p1 p2 p3 p4 m) tb ct hv im tg n last 0 x = _
    unfold f_X8_changes_s64 f_X9_changes_s77
    by_cases h : p4 < x
    · rw [if_pos h, if_pos h, if_pos rfl]
      exact ⟨_, _, rfl, rfl⟩
    · have hx : x.toInt ≤ p4.toInt := by
        rw [Int32.lt_iff_toInt_lt] at h
        omega
      have hx1 := x.le_toInt
      have ex : (x + 1).toInt = x.toInt + 1 := by
        rw [Int32.toInt_add]
        exact Int.bmod_eq_of_le (by show _ ≤ x.toInt + 1; omega) (by show x.toInt + 1 < _; omega)
      obtain ⟨g, z, s1, s2, s3⟩ := hsig x tg
      rw [if_neg h, if_neg h, if_pos rfl, s1, bE1, hf, bE1, hmany, bE1, s2, bE2]
      unfold f_X9_changes_b118 f_X9_changes_b139 f_X9_changes_b140 f_X8_changes_b120
      simp only [nmE, Int32.add_zero]
      have go : ∀ l' n', (l' = -1 ∨ l' = 0 ∨ l' = 1) → ∃ r tg', f_X8_changes_b64 kd fg jn nr (nI P) (nI T) (nI N) p1 p2 p3 p4 m wo lg se st tn wt S ag tu row dg l' n' (x + 1) = some (r, wo, lg, se, st, tn, wt, S, ag, tu) ∧ f_X9_changes_b77 (nI P) (nI L) (nI T) kd fg lo hi p1 p2 p3 p4 m tb ct hv im g n' l' 0 (x + 1) = some (r, tb, ct, hv, im, tg') := fun l' n' hl' => ih (x + 1) l' n' g hl' (by rw [ex]; omega) (by rw [ex]; omega)
      have em : ∃ m', m = m' + 1 := ⟨m - 1, by omega⟩
      rcases s3 with rfl | rfl | rfl | rfl
      · obtain ⟨m', rfl⟩ := em
        rw [if_pos rfl, if_pos rfl, if_neg (show ¬ (1 : Int32) = 0 by decide), if_neg (show ¬ (-5 : Int32) = 0 by decide), ite_self, ch_end]
        exact ⟨_, _, rfl, rfl⟩
      · rcases hl with rfl | rfl | rfl
        · simp only [if_neg (show ¬ (-1 : Int32) = -5 by decide), if_neg (show ¬ (-1 : Int32) = 0 by decide), if_neg (show ¬ (-1 : Int32) = 0 by decide), if_pos (show (-1 : Int32) = (-1 : Int32) by decide), if_neg (show ¬ (-1 : Int32) = -5 by decide), if_pos (show 0 ≤ (-1 : Int32) * (-1 : Int32) by decide), if_neg (show ¬ (-1 : Int32) = 0 by decide)]
          exact go (-1) n (Or.inl rfl)
        · simp only [if_neg (show ¬ (-1 : Int32) = -5 by decide), if_neg (show ¬ (-1 : Int32) = 0 by decide), if_pos (show (0 : Int32) = 0 by decide), if_neg (show ¬ (-1 : Int32) = -5 by decide), if_pos (show 0 ≤ (-1 : Int32) * (0 : Int32) by decide), if_neg (show ¬ (-1 : Int32) = 0 by decide)]
          exact go (-1) n (Or.inl rfl)
        · simp only [if_neg (show ¬ (-1 : Int32) = -5 by decide), if_neg (show ¬ (-1 : Int32) = 0 by decide), if_neg (show ¬ (1 : Int32) = 0 by decide), if_neg (show ¬ (-1 : Int32) = (1 : Int32) by decide), if_neg (show ¬ (-1 : Int32) = -5 by decide), if_neg (show ¬ 0 ≤ (-1 : Int32) * (1 : Int32) by decide), if_pos (show (0 : Int32) = 0 from rfl), if_neg (show ¬ (-1 : Int32) = 0 by decide)]
          exact go (-1) (n + 1) (Or.inl rfl)
      · rcases hl with rfl | rfl | rfl
        · simp only [if_neg (show ¬ (0 : Int32) = -5 by decide), if_pos (show (0 : Int32) = 0 by decide), if_neg (show ¬ (0 : Int32) = -5 by decide), if_pos (show 0 ≤ (0 : Int32) * (-1 : Int32) by decide), if_pos (show (0 : Int32) = 0 by decide)]
          exact go (-1) n (Or.inl rfl)
        · simp only [if_neg (show ¬ (0 : Int32) = -5 by decide), if_pos (show (0 : Int32) = 0 by decide), if_neg (show ¬ (0 : Int32) = -5 by decide), if_pos (show 0 ≤ (0 : Int32) * (0 : Int32) by decide), if_pos (show (0 : Int32) = 0 by decide)]
          exact go (0) n (Or.inr (Or.inl rfl))
        · simp only [if_neg (show ¬ (0 : Int32) = -5 by decide), if_pos (show (0 : Int32) = 0 by decide), if_neg (show ¬ (0 : Int32) = -5 by decide), if_pos (show 0 ≤ (0 : Int32) * (1 : Int32) by decide), if_pos (show (0 : Int32) = 0 by decide)]
          exact go (1) n (Or.inr (Or.inr rfl))
      · rcases hl with rfl | rfl | rfl
        · simp only [if_neg (show ¬ (1 : Int32) = -5 by decide), if_neg (show ¬ (1 : Int32) = 0 by decide), if_neg (show ¬ (-1 : Int32) = 0 by decide), if_neg (show ¬ (1 : Int32) = (-1 : Int32) by decide), if_neg (show ¬ (1 : Int32) = -5 by decide), if_neg (show ¬ 0 ≤ (1 : Int32) * (-1 : Int32) by decide), if_pos (show (0 : Int32) = 0 from rfl), if_neg (show ¬ (1 : Int32) = 0 by decide)]
          exact go (1) (n + 1) (Or.inr (Or.inr rfl))
        · simp only [if_neg (show ¬ (1 : Int32) = -5 by decide), if_neg (show ¬ (1 : Int32) = 0 by decide), if_pos (show (0 : Int32) = 0 by decide), if_neg (show ¬ (1 : Int32) = -5 by decide), if_pos (show 0 ≤ (1 : Int32) * (0 : Int32) by decide), if_neg (show ¬ (1 : Int32) = 0 by decide)]
          exact go (1) n (Or.inr (Or.inr rfl))
        · simp only [if_neg (show ¬ (1 : Int32) = -5 by decide), if_neg (show ¬ (1 : Int32) = 0 by decide), if_neg (show ¬ (1 : Int32) = 0 by decide), if_pos (show (1 : Int32) = (1 : Int32) by decide), if_neg (show ¬ (1 : Int32) = -5 by decide), if_pos (show 0 ≤ (1 : Int32) * (1 : Int32) by decide), if_neg (show ¬ (1 : Int32) = 0 by decide)]
          exact go (1) n (Or.inr (Or.inr rfl))
theorem s_changes {kd fg lo hi jn nr : Nat → Int32} {la : Nat → Int64} {P L T : Nat} (hn : NetI kd fg lo hi jn nr la P L T) {N B : Nat} (hB : B < 2 ^ 30) (hN : N < 2 ^ 30) {wo : Nat → Int64} {lg se st tn wt : Nat → Int32} {S ag tu : Int32} (ht : TabI (En kd fg lo hi T L) (Eo lo hi L) P N B wo lg se st tn wt S ag tu) (tb ct : Nat → Int64) (hv : Nat → Int32) (im : Int32) (tg p1 p2 p3 p4 : Int32) :
    ∃ (r : Int32) (wo' : Nat → Int64) (lg' se' st' tn' wt' : Nat → Int32) (S' ag' tu' : Int32) (tb' ct' : Nat → Int64) (hv' : Nat → Int32) (im' : Int32) (tg' : Int32), f_X8_changes kd fg jn nr (nI P) (nI T) (nI N) wo lg se st tn wt S ag tu p1 p2 p3 p4 = some (r, wo', lg', se', st', tn', wt', S', ag', tu') ∧ f_X9_changes (nI P) (nI L) (nI T) kd fg lo hi tb ct hv im tg p1 p2 p3 p4 = some (r, tb', ct', hv', im', tg') ∧ TabI (En kd fg lo hi T L) (Eo lo hi L) P N (B + 1) wo' lg' se' st' tn' wt' S' ag' tu' := by
  have hP := hn.1
  unfold f_X8_changes f_X9_changes
  rw [q_isNoSet, q_isNoPlace, q_isNoPlace, q_isBeyond, q_isOut, q_inL p3 (lo := -60) (hi := 60) (-60) 60 n60 rfl, q_inL p4 (lo := -60) (hi := 60) (-60) 60 n60 rfl, q_inL p2 (lo := 1) (hi := 6) 1 6 rfl rfl, bE1, bE1, bE1, bE1, bE1, bE1, bE1, bE1]
  simp only [h10, h01]
  by_cases b1 : p1 < 0 ∨ 4095 < p1
  · rw [if_neg (fun q => q b1), if_pos b1]
    exact ⟨_, _, _, _, _, _, _, _, _, _, _, _, _, _, _, rfl, rfl, ht.more (by omega)⟩
  · rw [if_pos b1, if_neg b1]
    by_cases b2 : p2 < 1 ∨ 6 < p2
    · rw [if_neg (fun q => q b2), if_pos b2]
      exact ⟨_, _, _, _, _, _, _, _, _, _, _, _, _, _, _, rfl, rfl, ht.more (by omega)⟩
    · rw [if_pos b2, if_neg b2]
      by_cases b0 : p4 < p3
      · rw [if_pos b0, if_pos b0]
        exact ⟨_, _, _, _, _, _, _, _, _, _, _, _, _, _, _, rfl, rfl, ht.more (by omega)⟩
      · rw [if_neg b0, if_neg b0]
        by_cases b3 : p3 < -60 ∨ 60 < p3
        · rw [if_neg (fun q => q b3), if_pos b3]
          exact ⟨_, _, _, _, _, _, _, _, _, _, _, _, _, _, _, rfl, rfl, ht.more (by omega)⟩
        · rw [if_pos b3, if_neg b3]
          by_cases b4 : p4 < -60 ∨ 60 < p4
          · rw [if_neg (fun q => q b4), if_pos b4]
            exact ⟨_, _, _, _, _, _, _, _, _, _, _, _, _, _, _, rfl, rfl, ht.more (by omega)⟩
          · rw [if_pos b4, if_neg b4]
            obtain ⟨o, ho, rfl⟩ := nI_of2 (M := 4095) (n := 4095) rfl (fun q => b1 (Or.inl q)) (Int32.not_lt.mp (fun q => b1 (Or.inr q)))
            obtain ⟨k, hk, rfl⟩ := nI_of2 (M := 6) (n := 6) rfl (fun q => b2 (Or.inl (Int32.lt_trans q (by decide)))) (Int32.not_lt.mp (fun q => b2 (Or.inr q)))
            obtain ⟨wo', lg', se', st', tn', wt', S', tb', ct', hv', im', r1, r2, r3, r4, r5, r6, r7⟩ := row_both hn hB hN ht (o := o) (by omega) tb ct hv im
            have fs : fr P o < 4096 := fr_lt hP (by omega)
            rw [r1, bE10, r2, bE4, q_degree hP (by omega), bE1]
            rw [Int32.lt_iff_toInt_lt, Int32.lt_iff_toInt_lt] at b3 b4
            have z60 : (60 : Int32).toInt = 60 := rfl
            have zm60 : (-60 : Int32).toInt = -60 := by decide
            rcases much01 r6 with e | e
            · subst e
              obtain ⟨r, tg', c1, c2⟩ := ch_loop kd fg lo hi jn nr P L T N (nI k) p3 p4 (by omega) (tb := tb') (lg := lg') (se := se') (st := st') (tn := tn') (wt := wt') (hv := hv') (S := S') (ag := nI N) (tu := 0) (im := 0) (q_free hP (show o < 4096 by omega)) (many_all _ fs) (fun p tg => q_signAt (pl_lt fs) r3 r5 r6 (d := popc (fr P o) 12) (pop_le _ fs) p hk tg) 130 p3 0 0 tg (Or.inr (Or.inl rfl)) (by rw [Int32.lt_iff_toInt_lt] at b0; omega) (by omega)
              rw [c1, c2]
              exact ⟨_, _, _, _, _, _, _, _, _, _, _, _, _, _, _, rfl, rfl, r7⟩
            · subst e
              rw [ch_end]
              show ∃ r wo'' lg'' se'' st'' tn'' wt'' S'' ag' tu' tb'' ct'' hv'' im'' tg', f_X8_changes_s64 kd fg jn nr (nI P) (nI T) (nI N) (nI o) (nI k) p3 p4 (f_X8_changes_b64 kd fg jn nr (nI P) (nI T) (nI N) (nI o) (nI k) p3 p4 129) wo' lg' se' st' tn' wt' S' (nI N) 0 (nI (7 * pl (fr P o))) (nI (popc (fr P o) 12)) 0 0 p3 = some (r, wo'', lg'', se'', st'', tn'', wt'', S'', ag', tu') ∧ _ ∧ _
              unfold f_X8_changes_s64
              rw [if_neg b0, q_signAt1 (pl_lt fs) r3 r6, bE1, if_pos rfl]
              exact ⟨_, _, _, _, _, _, _, _, _, _, _, _, _, _, _, rfl, rfl, r7⟩
