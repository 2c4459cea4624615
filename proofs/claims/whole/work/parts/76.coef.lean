/-! pure rows: coef, likely, spread -/
def cf (r : Nat → Int64) (d i : Nat) : Int64 := if d < i then 0 else if (d - i) % 2 = 1 then 0 else if (d - i) % 4 = 0 then r ((d - i) / 2) else -(r ((d - i) / 2))
theorem nb_lt : ∀ d, d < 13 → ∀ i, i < 13 → d < i → nI d - nI i < 0 := by decide +kernel
theorem nb_ge : ∀ d, d < 13 → ∀ i, i < 13 → ¬ d < i → nI d - nI i = nI (d - i) := by decide +kernel
theorem nb_2 : ∀ v, v < 13 → nI v - nI v / 2 * 2 = nI (v % 2) := by decide +kernel
theorem nb_4 : ∀ v, v < 13 → nI v - nI v / 4 * 4 = nI (v % 4) := by decide +kernel
theorem nb_h : ∀ v, v < 13 → nI v / 2 = nI (v / 2) := by decide +kernel
theorem ne20 : ((2 : Int32) = 0) = False := by decide
theorem ne40 : ((4 : Int32) = 0) = False := by decide
theorem q_number {wo ct r : Nat → Int64} {s : Nat} (hs : s < 515) (hr : ∀ k, k < 7 → wo (7 * s + k) = r k) (hc : ∀ k, k < 7 → ct k = r k) {d i : Nat} (hd : d ≤ 12) (hi : i ≤ 12) : f_X4_numberAt wo (nI (7 * s)) (nI d) (nI i) = some (cf r d i) ∧ f_X9_at ct (nI d) (nI i) = some (cf r d i) := by
  unfold f_X4_numberAt f_X9_at cf
  simp only [nmE, ne20, ne40, if_false]
  by_cases h : d < i
  · rw [if_pos (nb_lt d (by omega) i (by omega) h), if_pos h]
    exact ⟨rfl, if_pos (nb_lt d (by omega) i (by omega) h)⟩
  · rw [nb_ge d (by omega) i (by omega) h, if_neg h]
    have hv : d - i < 13 := by omega
    generalize d - i = v at hv ⊢
    have e1 : v / 2 < 7 := by omega
    have e2 : 7 * s + v / 2 < 3605 := by omega
    rw [nb_2 v hv, nb_4 v hv, nb_h v hv, nb_2 (v / 2) (by omega), nI_add, if_neg (nI_pos (n := v) (by omega)), if_neg (nI_pos (n := v) (by omega)), g3605 e2, g3605 e2, c3605 e2, hr _ e1, g7 e1, g7 e1, c7 e1, hc _ e1]
    have h4 : v % 4 = 0 ∨ v % 4 = 1 ∨ v % 4 = 2 ∨ v % 4 = 3 := by omega
    rcases h4 with h4 | h4 | h4 | h4
    · rw [h4, show v % 2 = 0 by omega, show v / 2 % 2 = 0 by omega]
      exact ⟨rfl, rfl⟩
    · rw [h4, show v % 2 = 1 by omega]
      exact ⟨rfl, rfl⟩
    · rw [h4, show v % 2 = 0 by omega, show v / 2 % 2 = 1 by omega]
      exact ⟨rfl, rfl⟩
    · rw [h4, show v % 2 = 1 by omega]
      exact ⟨rfl, rfl⟩
theorem fr_lt {P o : Nat} (hP : P ≤ 12) (ho : o < 4096) : fr P o < 4096 := Nat.lt_of_lt_of_le (fr_ok o ho P (by omega)).2 (Nat.pow_le_pow_right (n := 2) (by decide) hP)
theorem q_degree {P o : Nat} (hP : P ≤ 12) (ho : o < 4096) : f_X8_degreeOf (nI P) (nI o) = some (nI (popc (fr P o) 12)) := by
  unfold f_X8_degreeOf f_X1_allPoints
  rw [bE1, (fr_ok o ho P (by omega)).1, bc_all _ (fr_lt hP ho), bE1]
theorem q_free {P o : Nat} (hP : P ≤ 12) (ho : o < 4096) : f_X9_free (nI P) (nI o) = some (nI (fr P o)) := by
  unfold f_X9_free
  rw [(fr_ok o ho P (by omega)).1]
theorem s_coef {kd fg lo hi jn nr : Nat → Int32} {la : Nat → Int64} {P L T : Nat} (hn : NetI kd fg lo hi jn nr la P L T) {N B : Nat} (hB : B < 2 ^ 30) (hN : N < 2 ^ 30) {wo : Nat → Int64} {lg se st tn wt : Nat → Int32} {S ag tu : Int32} (ht : TabI (En kd fg lo hi T L) (Eo lo hi L) P N B wo lg se st tn wt S ag tu) (tb ct : Nat → Int64) (hv : Nat → Int32) (im : Int32) (p1 p2 : Int32) :
    ∃ (r : Int64) (wo' : Nat → Int64) (lg' se' st' tn' wt' : Nat → Int32) (S' ag' tu' : Int32) (tb' ct' : Nat → Int64) (hv' : Nat → Int32) (im' : Int32), f_X8_coef kd fg jn nr (nI P) (nI T) (nI N) wo lg se st tn wt S ag tu p1 p2 = some (r, wo', lg', se', st', tn', wt', S', ag', tu') ∧ f_X9_coef (nI P) (nI L) (nI T) kd fg lo hi tb ct hv im p1 p2 = some (r, tb', ct', hv', im') ∧ TabI (En kd fg lo hi T L) (Eo lo hi L) P N (B + 1) wo' lg' se' st' tn' wt' S' ag' tu' := by
  have hP := hn.1
  unfold f_X8_coef f_X9_coef
  rw [q_isNoSet, q_isBeyond, q_isOut, q_inL p2 (lo := 0) (hi := 12) 0 12 rfl rfl, bE1, bE1, bE1, bE1, told_bad]
  simp only [h10, h01, bE1]
  by_cases b1 : p1 < 0 ∨ 4095 < p1
  · rw [if_neg (fun q => q b1), if_pos b1]
    exact ⟨_, _, _, _, _, _, _, _, _, _, _, _, _, _, rfl, rfl, ht.more (by omega)⟩
  · rw [if_pos b1, if_neg b1]
    by_cases b2 : p2 < 0 ∨ 12 < p2
    · rw [if_neg (fun q => q b2), if_pos b2]
      exact ⟨_, _, _, _, _, _, _, _, _, _, _, _, _, _, rfl, rfl, ht.more (by omega)⟩
    · rw [if_pos b2, if_neg b2]
      obtain ⟨o, ho, rfl⟩ := nI_of2 (M := 4095) (n := 4095) rfl (fun q => b1 (Or.inl q)) (Int32.not_lt.mp (fun q => b1 (Or.inr q)))
      obtain ⟨k, hk, rfl⟩ := nI_of2 (M := 12) (n := 12) rfl (fun q => b2 (Or.inl q)) (Int32.not_lt.mp (fun q => b2 (Or.inr q)))
      obtain ⟨wo', lg', se', st', tn', wt', S', tb', ct', hv', im', r1, r2, r3, r4, r5, r6, r7⟩ := row_both hn hB hN ht (o := o) (by omega) tb ct hv im
      have fs : fr P o < 4096 := fr_lt hP (by omega)
      rw [r1, bE10, r2, bE4, q_isMuch (pl_lt fs) r3 r6, bE1]
      rcases much01 r6 with e | e
      · subst e
        obtain ⟨n1, n2⟩ := q_number (pl_lt fs) r3 r5 (d := popc (fr P o) 12) (i := k) (pop_le _ fs) hk
        rw [if_pos rfl, if_pos rfl, q_degree hP (by omega), bE1, n1, bE1, q_free hP (by omega), bE1, many_all _ fs, bE1, n2, bE1]
        exact ⟨_, _, _, _, _, _, _, _, _, _, _, _, _, _, rfl, rfl, r7⟩
      · subst e
        rw [if_neg (by decide), if_neg (by decide), told_much, bE1]
        exact ⟨_, _, _, _, _, _, _, _, _, _, _, _, _, _, rfl, rfl, r7⟩
theorem great_much {ea : Nat → Int64} : ∀ (m j b : Nat), j ≤ 7 → b < 7 → 7 - j < m → (∃ k, j ≤ k ∧ k < 7 ∧ ea k < 0) → f_X5_greatest_b4 ea m (nI b) (nI j) = some (-5) := by
  intro m
  induction m with
  | zero => intro j b _ _ h; omega
  | succ m ih =>
    intro j b hj hb hm hk
    obtain ⟨k, k1, k2, k3⟩ := hk
    show f_X5_greatest_s4 ea (f_X5_greatest_b4 ea m) (nI b) (nI j) = _
    unfold f_X5_greatest_s4
    have h7 : j < 7 := by omega
    rw [if_neg (show ¬ (7 : Int32) ≤ nI j from nI_ge (a := j) (b := 7) (by omega) (by decide)), g7 h7, g7 h7, c7 h7, g7 hb, c7 hb, nmE, nmE, nI_1]
    by_cases hn : ea j < 0
    · rw [if_neg (by rw [lg_cmp_ge]; exact fun q => absurd hn (Int64.not_lt.mpr q))]
    · rw [if_pos (by rw [lg_cmp_ge]; exact Int64.not_lt.mp hn)]
      have e : k ≠ j := fun e => hn (e ▸ k3)
      by_cases z : lg_cmp (ea j) (ea b) ≤ 0
      · rw [if_pos z]
        exact ih (j + 1) b (by omega) hb (by omega) ⟨k, by omega, k2, k3⟩
      · rw [if_neg z]
        exact ih (j + 1) j (by omega) h7 (by omega) ⟨k, by omega, k2, k3⟩
theorem great_eq (P L T : Int32) (kd fg lo hi : Nat → Int32) (p1 p2 : Int32) {ea tm : Nat → Int64} (h : ∀ k, k < 7 → ea k = tm k ∧ ¬ ea k < 0) (tb ct : Nat → Int64) (hv : Nat → Int32) (im : Int32) (xs xo xt : Int64) (itm : Int32) : ∀ (m m' j b : Nat), j ≤ 7 → b < 7 → 7 - j < m → 7 - j < m' → ∃ c, f_X5_greatest_b4 ea m (nI b) (nI j) = some (nI c) ∧ f_X9_likely_b38 P L T kd fg lo hi p1 p2 m' tb ct hv im tm xs xo xt itm (nI b) (nI j) = some (nI c, tb, ct, hv, im, tm, xs, xo, xt, itm) := by
  intro m
  induction m with
  | zero => intro m' j b _ _ h; omega
  | succ m ih =>
    intro m' j b hj hb hm hm'
    obtain ⟨m', rfl⟩ : ∃ z, m' = z + 1 := ⟨m' - 1, by omega⟩
    show ∃ c, f_X5_greatest_s4 ea (f_X5_greatest_b4 ea m) (nI b) (nI j) = _ ∧ f_X9_likely_s38 P L T kd fg lo hi p1 p2 (f_X9_likely_b38 P L T kd fg lo hi p1 p2 m') tb ct hv im tm xs xo xt itm (nI b) (nI j) = _
    unfold f_X5_greatest_s4 f_X9_likely_s38
    by_cases h7' : 7 ≤ j
    · have e : j = 7 := by omega
      subst e
      rw [if_pos (show (7 : Int32) ≤ nI 7 by decide), if_pos (show (7 : Int32) ≤ nI 7 by decide)]
      exact ⟨b, rfl, rfl⟩
    · have h7 : j < 7 := by omega
      obtain ⟨h1, h2⟩ := h j h7
      obtain ⟨h3, _⟩ := h b hb
      rw [if_neg (show ¬ (7 : Int32) ≤ nI j from nI_ge (a := j) (b := 7) (by omega) (by decide)), if_neg (show ¬ (7 : Int32) ≤ nI j from nI_ge (a := j) (b := 7) (by omega) (by decide)), g7 h7, g7 h7, g7 h7, c7 h7, g7 hb, g7 hb, c7 hb, if_pos (by rw [lg_cmp_ge]; exact Int64.not_lt.mp h2), nmE, nmE, nmE, nmE, nI_1, ← h1, ← h3]
      by_cases z : lg_cmp (ea j) (ea b) ≤ 0
      · rw [if_pos z, if_pos z]
        exact ih m' (j + 1) b (by omega) hb (by omega) (by omega)
      · rw [if_neg z, if_neg z]
        exact ih m' (j + 1) j (by omega) h7 (by omega) (by omega)
theorem great_0 {ea : Nat → Int64} (h : ¬ ea 0 < 0) (m : Nat) : f_X5_greatest_b4 ea (m + 1) 0 0 = f_X5_greatest_b4 ea m (nI 0) (nI 1) := by
  show f_X5_greatest_s4 ea (f_X5_greatest_b4 ea m) (nI 0) (nI 0) = _
  unfold f_X5_greatest_s4
  rw [if_neg (show ¬ (7 : Int32) ≤ nI 0 by decide), g7 (by decide), g7 (by decide), g7 (by decide), c7 (by decide), if_pos (by rw [lg_cmp_ge]; exact Int64.not_lt.mp h), if_pos (by rw [lg_cmp_le]; exact Int64.le_refl _), nmE, nI_1]
theorem s_likely {kd fg lo hi jn nr : Nat → Int32} {la : Nat → Int64} {P L T : Nat} (hn : NetI kd fg lo hi jn nr la P L T) {N B : Nat} (hB : B < 2 ^ 30) (hN : N < 2 ^ 30) {wo : Nat → Int64} {lg se st tn wt : Nat → Int32} {S ag tu : Int32} (ht : TabI (En kd fg lo hi T L) (Eo lo hi L) P N B wo lg se st tn wt S ag tu) (tb ct : Nat → Int64) (hv : Nat → Int32) (im : Int32) (tm : Nat → Int64) (xs xo xt : Int64) (itm : Int32) (ea : Nat → Int64) (ms mo mt' : Int64) (p1 p2 : Int32) :
    ∃ (r : Int32) (wo' : Nat → Int64) (lg' se' st' tn' wt' : Nat → Int32) (S' ag' tu' : Int32) (ea' : Nat → Int64) (a1 b1 c1 : Int64) (tb' ct' : Nat → Int64) (hv' : Nat → Int32) (im' : Int32) (tm' : Nat → Int64) (xs' xo' xt' : Int64) (itm' : Int32), f_X8_likely kd fg jn nr (nI P) (nI T) (nI N) wo lg se st tn wt S ag tu ea ms mo mt' p1 p2 = some (r, wo', lg', se', st', tn', wt', S', ag', tu', ea', a1, b1, c1) ∧ f_X9_likely (nI P) (nI L) (nI T) kd fg lo hi tb ct hv im tm xs xo xt itm p1 p2 = some (r, tb', ct', hv', im', tm', xs', xo', xt', itm') ∧ TabI (En kd fg lo hi T L) (Eo lo hi L) P N (B + 1) wo' lg' se' st' tn' wt' S' ag' tu' := by
  unfold f_X8_likely f_X9_likely
  rw [q_isNoSet, q_isNoRate, q_isOut, q_isRate, bE1, bE1, bE1, bE1]
  simp only [h10, h01]
  by_cases b1 : p1 < 0 ∨ 4095 < p1
  · rw [if_neg (fun q => q b1), if_pos b1]
    exact ⟨_, _, _, _, _, _, _, _, _, _, _, _, _, _, _, _, _, _, _, _, _, _, _, rfl, rfl, ht.more (by omega)⟩
  · rw [if_pos b1, if_neg b1]
    by_cases b2 : p2 < 0 ∨ 9 < p2
    · rw [if_neg (fun q => q b2), if_pos b2]
      exact ⟨_, _, _, _, _, _, _, _, _, _, _, _, _, _, _, _, _, _, _, _, _, _, _, rfl, rfl, ht.more (by omega)⟩
    · rw [if_pos b2, if_neg b2]
      obtain ⟨o, ho, rfl⟩ := nI_of2 (M := 4095) (n := 4095) rfl (fun q => b1 (Or.inl q)) (Int32.not_lt.mp (fun q => b1 (Or.inr q)))
      obtain ⟨k, hk, rfl⟩ := nI_of2 (M := 9) (n := 9) rfl (fun q => b2 (Or.inl q)) (Int32.not_lt.mp (fun q => b2 (Or.inr q)))
      obtain ⟨wo', lg', se', st', tn', wt', S', tb', ct', hv', im', ea', a1, c1, d1, tm', itm', t, r1, r2, r3, r4, r5⟩ := terms_both hn hB hN ht (o := o) (q := k) (by omega) hk tb ct hv im tm xs xo xt itm ea ms mo mt'
      rw [r1, bE10, r2, bE4, r3, bE9]
      obtain ⟨t0, t1, h⟩ := r4
      rcases h with ⟨rfl, t2, t3, _, _, _⟩ | ⟨rfl, _, _, _, k', k1, k2⟩
      · have hall : ∀ k, k < 7 → ea' k = tm' k ∧ ¬ ea' k < 0 := fun k hk => ⟨(t3 k hk).trans (t1 k hk).symm, fun z => by
          rw [t3 k hk, sv_neg] at z
          exact z (t2 k hk)⟩
        obtain ⟨c, y1, y2⟩ := great_eq (nI P) (nI L) (nI T) kd fg lo hi (nI o) (nI k) hall tb' ct' hv' im' (sv (sm t 7)) (sv (sm (fun k => k * t k) 7)) (sv (sm (fun k => k * k * t k) 7)) 0 69 70 1 0 (by omega) (by omega) (by omega) (by omega)
        rw [if_pos rfl]
        unfold f_X5_greatest
        rw [great_0 (hall 0 (by omega)).2, y1, bE1]
        exact ⟨_, _, _, _, _, _, _, _, _, _, _, _, _, _, _, _, _, _, _, _, _, _, _, rfl, y2, r5⟩
      · rw [if_neg (by decide)]
        unfold f_X5_greatest
        have y := great_much (ea := ea') 70 0 0 (by omega) (by omega) (by omega) ⟨k', by omega, k1, k2⟩
        rw [nI_0] at y
        rw [y, bE1]
        exact ⟨_, _, _, _, _, _, _, _, _, _, _, _, _, _, _, _, _, _, _, _, _, _, _, rfl, rfl, r5⟩
theorem sq2 (x n : Nat) : 2 * (x * n) ≤ n * n + x * x := by
  rcases Nat.le_total x n with h | h
  · obtain ⟨d, rfl⟩ := Nat.exists_eq_add_of_le h
    have e1 : x * (x + d) = x * x + x * d := Nat.mul_add x x d
    have e2 : (x + d) * (x + d) = x * x + x * d + (x * d + d * d) := by rw [Nat.add_mul, Nat.mul_add, Nat.mul_add, Nat.mul_comm d x]
    rw [e1, e2]
    omega
  · obtain ⟨d, rfl⟩ := Nat.exists_eq_add_of_le h
    have e1 : (n + d) * n = n * n + n * d := by rw [Nat.add_mul, Nat.mul_comm d n]
    have e2 : (n + d) * (n + d) = n * n + n * d + (n * d + d * d) := by rw [Nat.add_mul, Nat.mul_add, Nat.mul_add, Nat.mul_comm d n]
    rw [e1, e2]
    omega
theorem sm_aux (t : Nat → Nat) (x : Nat) : ∀ n, 2 * (x * sm (fun k => k * t k) n) ≤ sm (fun k => k * k * t k) n + x * x * sm t n := by
  intro n
  induction n with
  | zero => exact Nat.zero_le _
  | succ n ih =>
    show 2 * (x * (sm (fun k => k * t k) n + n * t n)) ≤ sm (fun k => k * k * t k) n + n * n * t n + x * x * (sm t n + t n)
    have h := Nat.mul_le_mul_right (t n) (sq2 x n)
    have e1 : 2 * (x * n) * t n = 2 * (x * (n * t n)) := by rw [Nat.mul_assoc, Nat.mul_assoc]
    have e2 : (n * n + x * x) * t n = n * n * t n + x * x * t n := Nat.add_mul _ _ _
    rw [e1, e2] at h
    rw [Nat.mul_add x, Nat.mul_add (x * x)]
    omega
theorem sm_cs (t : Nat → Nat) : ∀ n, sm (fun k => k * t k) n * sm (fun k => k * t k) n ≤ sm (fun k => k * k * t k) n * sm t n := by
  intro n
  induction n with
  | zero => exact Nat.le_refl _
  | succ n ih =>
    show (sm (fun k => k * t k) n + n * t n) * (sm (fun k => k * t k) n + n * t n) ≤ (sm (fun k => k * k * t k) n + n * n * t n) * (sm t n + t n)
    have h := Nat.mul_le_mul_right (t n) (sm_aux t n n)
    generalize sm (fun k => k * t k) n = O at *
    generalize sm (fun k => k * k * t k) n = W at *
    generalize sm t n = S at *
    generalize t n = z at *
    have e1 : (O + n * z) * (O + n * z) = O * O + O * (n * z) + (O * (n * z) + n * z * (n * z)) := by rw [Nat.add_mul, Nat.mul_add, Nat.mul_add, Nat.mul_comm (n * z) O]
    have e2 : (W + n * n * z) * (S + z) = W * S + W * z + (n * n * z * S + n * n * z * z) := by rw [Nat.add_mul, Nat.mul_add, Nat.mul_add]
    have e3 : 2 * (n * O) * z = O * (n * z) + O * (n * z) := by
      have : n * O * z = O * (n * z) := by rw [Nat.mul_comm n O, Nat.mul_assoc]
      rw [Nat.mul_assoc, this]
      omega
    have e4 : (W + n * n * S) * z = W * z + n * n * z * S := by
      rw [Nat.add_mul, Nat.mul_assoc (n * n) S z, Nat.mul_comm S z, ← Nat.mul_assoc]
    have e5 : n * z * (n * z) = n * n * z * z := by
      rw [Nat.mul_assoc n z (n * z), ← Nat.mul_assoc z n z, Nat.mul_comm z n, Nat.mul_assoc n z z, ← Nat.mul_assoc n n, ← Nat.mul_assoc]
    rw [e3, e4] at h
    rw [e1, e2, e5]
    omega
theorem x7_times (a b : Nat) : f_X7_times (sv a) (sv b) = some (if a < 2 ^ 63 ∧ b < 2 ^ 63 then sv (a * b) else -1) := by
  by_cases h : a < 2 ^ 63 ∧ b < 2 ^ 63
  · rw [if_pos h, times_eq (fun z => (sv_neg b).mp z.2 h.2) (fun z => (sv_neg a).mp z.1 h.1), q_times, tiV_sv]
  · rw [if_neg h]
    unfold f_X7_times
    by_cases ha : a < 2 ^ 63
    · have hb : ¬ b < 2 ^ 63 := fun z => h ⟨ha, z⟩
      rw [if_neg (fun z => lt_sv.mp z ha), if_neg (fun z => hb (ge_sv.mp z))]
    · rw [if_pos (lt_sv.mpr ha)]
theorem x7_m1 (b : Int64) : f_X7_times (-1) b = some (-1) := by
  unfold f_X7_times
  rw [if_pos (by decide)]
theorem meanMuch (a b : Nat) : f_X9_isMeanMuch (sv a) (sv b) 0 = some (if a < 2 ^ 63 ∧ b < 2 ^ 63 then 0 else 1) := by
  unfold f_X9_isMeanMuch
  rw [if_pos rfl]
  by_cases ha : a < 2 ^ 63
  · rw [if_neg (fun z => lt_sv.mp z ha)]
    by_cases hb : b < 2 ^ 63
    · rw [if_pos (ge_sv.mpr hb), if_pos ⟨ha, hb⟩]
    · rw [if_neg (fun z => hb (ge_sv.mp z)), if_neg (fun z => hb z.2)]
  · rw [if_pos (lt_sv.mpr ha), if_neg (fun z => ha z.1)]
theorem meanMuch1 (a b : Int64) : f_X9_isMeanMuch a b 1 = some 1 := by
  unfold f_X9_isMeanMuch
  rw [if_neg (by decide)]
theorem s_spread {kd fg lo hi jn nr : Nat → Int32} {la : Nat → Int64} {P L T : Nat} (hn : NetI kd fg lo hi jn nr la P L T) {N B : Nat} (hB : B < 2 ^ 30) (hN : N < 2 ^ 30) {wo : Nat → Int64} {lg se st tn wt : Nat → Int32} {S ag tu : Int32} (ht : TabI (En kd fg lo hi T L) (Eo lo hi L) P N B wo lg se st tn wt S ag tu) (tb ct : Nat → Int64) (hv : Nat → Int32) (im : Int32) (tm : Nat → Int64) (xs xo xt : Int64) (itm : Int32) (ea : Nat → Int64) (ms mo mt' : Int64) (p1 p2 p3 : Int32) :
    ∃ (r : Int64) (wo' : Nat → Int64) (lg' se' st' tn' wt' : Nat → Int32) (S' ag' tu' : Int32) (ea' : Nat → Int64) (a1 b1 c1 : Int64) (tb' ct' : Nat → Int64) (hv' : Nat → Int32) (im' : Int32) (tm' : Nat → Int64) (xs' xo' xt' : Int64) (itm' : Int32), f_X8_spread kd fg jn nr (nI P) (nI T) (nI N) wo lg se st tn wt S ag tu ea ms mo mt' p1 p2 p3 = some (r, wo', lg', se', st', tn', wt', S', ag', tu', ea', a1, b1, c1) ∧ f_X9_spread (nI P) (nI L) (nI T) kd fg lo hi tb ct hv im tm xs xo xt itm p1 p2 p3 = some (r, tb', ct', hv', im', tm', xs', xo', xt', itm') ∧ TabI (En kd fg lo hi T L) (Eo lo hi L) P N (B + 1) wo' lg' se' st' tn' wt' S' ag' tu' := by
  unfold f_X8_spread f_X9_spread
  rw [q_isNoSet, q_isNoRate, q_isNoPart, q_isOut, q_isRate, q_isPart, bE1, bE1, bE1, bE1, bE1, bE1, told_bad]
  simp only [h10, h01, bE1]
  by_cases b1 : p1 < 0 ∨ 4095 < p1
  · rw [if_neg (fun q => q b1), if_pos b1]
    exact ⟨_, _, _, _, _, _, _, _, _, _, _, _, _, _, _, _, _, _, _, _, _, _, _, rfl, rfl, ht.more (by omega)⟩
  · rw [if_pos b1, if_neg b1]
    by_cases b2 : p2 < 0 ∨ 9 < p2
    · rw [if_neg (fun q => q b2), if_pos b2]
      exact ⟨_, _, _, _, _, _, _, _, _, _, _, _, _, _, _, _, _, _, _, _, _, _, _, rfl, rfl, ht.more (by omega)⟩
    · rw [if_pos b2, if_neg b2]
      by_cases b3 : p3 < 0 ∨ 1 < p3
      · rw [if_neg (fun q => q b3), if_pos b3]
        exact ⟨_, _, _, _, _, _, _, _, _, _, _, _, _, _, _, _, _, _, _, _, _, _, _, rfl, rfl, ht.more (by omega)⟩
      · rw [if_pos b3, if_neg b3]
        obtain ⟨o, ho, rfl⟩ := nI_of2 (M := 4095) (n := 4095) rfl (fun q => b1 (Or.inl q)) (Int32.not_lt.mp (fun q => b1 (Or.inr q)))
        obtain ⟨k, hk, rfl⟩ := nI_of2 (M := 9) (n := 9) rfl (fun q => b2 (Or.inl q)) (Int32.not_lt.mp (fun q => b2 (Or.inr q)))
        obtain ⟨wo', lg', se', st', tn', wt', S', tb', ct', hv', im', ea', a1, c1, d1, tm', itm', t, r1, r2, r3, r4, r5⟩ := terms_both hn hB hN ht (o := o) (q := k) (by omega) hk tb ct hv im tm xs xo xt itm ea ms mo mt'
        rw [r1, bE10, r2, bE4, r3, bE9, told_much]
        obtain ⟨t0, _, h⟩ := r4
        rcases h with ⟨rfl, _, _, rfl, rfl, rfl⟩ | ⟨rfl, rfl, rfl, rfl, _⟩
        · have hcs := sm_cs t 7
          have hS := sm_pos t0
          generalize sm t 7 = S0 at hcs hS ⊢
          generalize sm (fun k => k * t k) 7 = O0 at hcs ⊢
          generalize sm (fun k => k * k * t k) 7 = W0 at hcs ⊢
          rw [x7_times, x7_times, x7_times, q_times, q_times, q_times, tiV_sv, tiV_sv, tiV_sv, meanMuch, bE1, bE1, bE1, bE1, bE1, bE1, bE1]
          simp only [bE1]
          by_cases zS : S0 < 2 ^ 63
          · by_cases zW : W0 < 2 ^ 63
            · by_cases zO : O0 < 2 ^ 63
              · rw [if_pos (show W0 < 2 ^ 63 ∧ S0 < 2 ^ 63 from ⟨zW, zS⟩), if_pos (show O0 < 2 ^ 63 ∧ O0 < 2 ^ 63 from ⟨zO, zO⟩), if_pos (show S0 < 2 ^ 63 ∧ S0 < 2 ^ 63 from ⟨zS, zS⟩), if_pos (show S0 < 2 ^ 63 ∧ O0 < 2 ^ 63 from ⟨zS, zO⟩), if_pos rfl, if_neg (fun z => lt_sv.mp z zW)]
                by_cases z1 : W0 * S0 < 2 ^ 63
                · have z2 : O0 * O0 < 2 ^ 63 := Nat.lt_of_le_of_lt hcs z1
                  rw [if_neg (fun z => lt_sv.mp z z1), if_neg (fun z => lt_sv.mp z z1), if_pos (ge_sv.mpr z2), if_neg (fun z => lt_sv.mp z z2), sv_lt z1, sv_lt z2, lN_sub hcs, ← sv_lt (show W0 * S0 - O0 * O0 < 2 ^ 63 by omega)]
                  rcases part_sv (a := W0 * S0 - O0 * O0) (b := S0 * S0) (Nat.mul_pos hS hS) p3 with ⟨y1, y2, r, y3, y4⟩ | ⟨y1, y2⟩
                  · rw [if_pos (ge_sv.mpr y2), y3, y4, bE1, bE1]
                    exact ⟨_, _, _, _, _, _, _, _, _, _, _, _, _, _, _, _, _, _, _, _, _, _, _, rfl, rfl, r5⟩
                  · have y3 : ¬ S0 * S0 < 2 ^ 63 := fun y => y1 ⟨by omega, y⟩
                    rw [if_neg (fun z => y3 (ge_sv.mp z)), y2, bE1]
                    exact ⟨_, _, _, _, _, _, _, _, _, _, _, _, _, _, _, _, _, _, _, _, _, _, _, rfl, rfl, r5⟩
                · rw [if_pos (lt_sv.mpr z1), if_pos (lt_sv.mpr z1)]
                  exact ⟨_, _, _, _, _, _, _, _, _, _, _, _, _, _, _, _, _, _, _, _, _, _, _, rfl, rfl, r5⟩
              · rw [if_neg (fun z => zO z.1) (c := O0 < 2 ^ 63 ∧ O0 < 2 ^ 63), if_neg (fun z => zO z.2) (c := S0 < 2 ^ 63 ∧ O0 < 2 ^ 63), if_neg (show ¬ (1 : Int32) = 0 by decide), if_neg (show ¬ 0 ≤ lg_cmp (-1) 0 by decide), ite_self]
                exact ⟨_, _, _, _, _, _, _, _, _, _, _, _, _, _, _, _, _, _, _, _, _, _, _, rfl, rfl, r5⟩
            · rw [if_neg (fun z => zW z.1) (c := W0 < 2 ^ 63 ∧ S0 < 2 ^ 63), if_pos (show lg_cmp (-1) 0 < 0 by decide), if_pos (lt_sv.mpr zW), ite_self]
              exact ⟨_, _, _, _, _, _, _, _, _, _, _, _, _, _, _, _, _, _, _, _, _, _, _, rfl, rfl, r5⟩
          · rw [if_neg (fun z => zS z.2) (c := W0 < 2 ^ 63 ∧ S0 < 2 ^ 63), if_pos (show lg_cmp (-1) 0 < 0 by decide), if_neg (fun z => zS z.1) (c := S0 < 2 ^ 63 ∧ O0 < 2 ^ 63), if_neg (show ¬ (1 : Int32) = 0 by decide)]
            exact ⟨_, _, _, _, _, _, _, _, _, _, _, _, _, _, _, _, _, _, _, _, _, _, _, rfl, rfl, r5⟩
        · rw [x7_m1, bE1, bE1, bE1, if_pos (show lg_cmp (-1) 0 < 0 by decide), q_times, q_times, q_times, bE1, bE1, bE1, meanMuch1, bE1, if_neg (show ¬ (1 : Int32) = 0 by decide), bE1]
          exact ⟨_, _, _, _, _, _, _, _, _, _, _, _, _, _, _, _, _, _, _, _, _, _, _, rfl, rfl, r5⟩
