/-! pure rows: TERMS, class and reference -/
def TR (t : Nat → Nat) (tm : Nat → Int64) (itm : Int32) (ea : Nat → Int64) (a1 b1 c1 : Int64) : Prop :=
  t 0 = 1 ∧ (∀ k, k < 7 → tm k = sv (t k)) ∧ ((itm = 0 ∧ (∀ k, k < 7 → t k < 2 ^ 63) ∧ (∀ k, k < 7 → ea k = sv (t k)) ∧ a1 = sv (sm t 7) ∧ b1 = sv (sm (fun k => k * t k) 7) ∧ c1 = sv (sm (fun k => k * k * t k) 7)) ∨ (itm = 1 ∧ a1 = -1 ∧ b1 = -1 ∧ c1 = -1 ∧ ∃ k, k < 7 ∧ ea k < 0))
theorem terms_both {kd fg lo hi jn nr : Nat → Int32} {la : Nat → Int64} {P L T : Nat} (hn : NetI kd fg lo hi jn nr la P L T) {N B : Nat} (hB : B < 2 ^ 30) (hN : N < 2 ^ 30) {wo : Nat → Int64} {lg se st tn wt : Nat → Int32} {S ag tu : Int32} (ht : TabI (En kd fg lo hi T L) (Eo lo hi L) P N B wo lg se st tn wt S ag tu) {o q : Nat} (ho : o < 4096) (hq : q ≤ 9) (tb ct : Nat → Int64) (hv : Nat → Int32) (im : Int32) (tm : Nat → Int64) (xs xo xt : Int64) (itm : Int32) (ea : Nat → Int64) (ms mo mt' : Int64) :
    ∃ (wo' : Nat → Int64) (lg' se' st' tn' wt' : Nat → Int32) (S' : Int32) (tb' ct' : Nat → Int64) (hv' : Nat → Int32) (im' : Int32) (ea' : Nat → Int64) (a1 b1 c1 : Int64) (tm' : Nat → Int64) (itm' : Int32) (t : Nat → Nat), f_X8_rowOf kd fg jn nr (nI P) (nI T) (nI N) wo lg se st tn wt S ag tu (nI o) = some (nI (7 * pl (fr P o)), wo', lg', se', st', tn', wt', S', nI N, 0) ∧ f_X5_load wo' ea ms mo mt' (nI (7 * pl (fr P o))) (nI q) = some (ea', a1, b1, c1) ∧ f_X9_findsTerms (nI P) (nI L) (nI T) kd fg lo hi tb ct hv im tm xs xo xt itm (nI o) (nI q) = some (tb', ct', hv', im', tm', sv (sm t 7), sv (sm (fun k => k * t k) 7), sv (sm (fun k => k * k * t k) 7), itm') ∧ TR t tm' itm' ea' a1 b1 c1 ∧ TabI (En kd fg lo hi T L) (Eo lo hi L) P N (B + 1) wo' lg' se' st' tn' wt' S' (nI N) 0 := by
  have hP := hn.1
  have fs : fr P o < 4096 := Nat.lt_of_lt_of_le (fr_ok o (by omega) P (by omega)).2 (Nat.pow_le_pow_right (n := 2) (by decide) hP)
  obtain ⟨wo', lg', se', st', tn', wt', S', tb', ct', hv', im', r1, r2, r3, r4, r5, r6, r7⟩ := row_both hn hB hN ht (o := o) ho tb ct hv im
  obtain ⟨r, r0, hr⟩ := Rr_sv (En kd fg lo hi T L) (fr P o) fs
  have hc : ∀ k, k < 7 → ct' k = sv (r k) := fun k hk => (r5 k hk).trans (hr k)
  have hw : ∀ k, k < 7 → wo' (7 * pl (fr P o) + k) = sv (r k) := fun k hk => (r3 k hk).trans (hr k)
  obtain ⟨tm', itm', y1, y2, y3⟩ := terms_ref (nI P) (nI L) (nI T) kd fg lo hi (nI o) hq tb' ct' hv' im' (much01 r6) hc 70 0 tm im' (by omega) (by omega) (fun k hk => by omega) (Or.inl ⟨rfl, fun k hk => by omega⟩)
  have y1' : f_X9_findsTerms (nI P) (nI L) (nI T) kd fg lo hi tb ct hv im tm xs xo xt itm (nI o) (nI q) = some (tb', ct', hv', im', tm', sv (sm (fun k => r k * q ^ k) 7), sv (sm (fun k => k * (r k * q ^ k)) 7), sv (sm (fun k => k * k * (r k * q ^ k)) 7), itm') := by
    unfold f_X9_findsTerms
    rw [r2, bE4, if_pos (much01 r6)]
    exact y1
  have t0 : r 0 * q ^ 0 = 1 := by rw [r0, Nat.pow_zero]
  rcases r6 with ⟨e, r6'⟩ | ⟨e, k, hk, r6'⟩
  · have hlt : ∀ k, k < 7 → r k < 2 ^ 63 := by
      intro k hk
      have := r6' k hk
      rw [hr k, sv_neg] at this
      omega
    obtain ⟨ea', z1, z2⟩ := terms_cls (wo := wo') (pl_lt fs) hq r0 hw hlt 70 0 ea (by omega) (by omega) (fun k hk => by omega)
    refine ⟨wo', lg', se', st', tn', wt', S', tb', ct', hv', im', ea', sv (sm (fun k => r k * q ^ k) 7), sv (sm (fun k => k * (r k * q ^ k)) 7), sv (sm (fun k => k * k * (r k * q ^ k)) 7), tm', itm', fun k => r k * q ^ k, r1, ?_, y1', ⟨t0, y2, ?_⟩, r7⟩
    · unfold f_X5_load
      rw [q_isMuch (pl_lt fs) r3 (Or.inl ⟨rfl, r6'⟩), bE1, if_pos rfl]
      exact z1
    · rcases y3 with ⟨w1, w2⟩ | ⟨w1, k, w2, w3⟩
      · exact Or.inl ⟨w1.trans e, w2, z2, rfl, rfl, rfl⟩
      · refine Or.inr ⟨w1, sv_ge ?_, sv_ge ?_, sv_ge ?_, k, w2, ?_⟩
        · have := sm_ge (f := fun k => r k * q ^ k) 7 w2
          have h2 : r k * q ^ k ≤ sm (fun k => r k * q ^ k) 7 := this
          omega
        · have hk0 : k ≠ 0 := by
            intro z
            subst z
            rw [t0] at w3
            omega
          have h2 : k * (r k * q ^ k) ≤ sm (fun k => k * (r k * q ^ k)) 7 := sm_ge (f := fun k => k * (r k * q ^ k)) 7 w2
          have h3 : r k * q ^ k ≤ k * (r k * q ^ k) := Nat.le_mul_of_pos_left _ (by omega)
          omega
        · have hk0 : k ≠ 0 := by
            intro z
            subst z
            rw [t0] at w3
            omega
          have h2 : k * k * (r k * q ^ k) ≤ sm (fun k => k * k * (r k * q ^ k)) 7 := sm_ge (f := fun k => k * k * (r k * q ^ k)) 7 w2
          have h3 : r k * q ^ k ≤ k * k * (r k * q ^ k) := Nat.le_mul_of_pos_left _ (Nat.mul_pos (by omega) (by omega))
          omega
        · rw [z2 k w2, sv_neg]
          exact w3
  · obtain ⟨ea', z1, z2⟩ := terms_much (wo := wo') (s := pl (fr P o)) (nI q) 70 0 ea 1 (by omega) (by omega) (fun k hk => by omega)
    refine ⟨wo', lg', se', st', tn', wt', S', tb', ct', hv', im', ea', -1, -1, -1, tm', itm', fun k => r k * q ^ k, r1, ?_, y1', ⟨t0, y2, Or.inr ⟨?_, rfl, rfl, rfl, 0, by omega, ?_⟩⟩, r7⟩
    · unfold f_X5_load
      rw [q_isMuch (pl_lt fs) r3 (Or.inr ⟨rfl, k, hk, r6'⟩), bE1, if_neg (by decide)]
      exact z1
    · rcases y3 with ⟨w1, _⟩ | ⟨w1, _⟩
      · exact w1.trans e
      · exact w1
    · rw [z2 0 (by omega)]
      decide
theorem q_isPart (a : Int32) : f_X9_isPart a = some (if a < 0 ∨ 1 < a then 0 else 1) := by
  unfold f_X9_isPart
  have key : (a = 0 ∨ a = 1) ↔ ¬ (a < 0 ∨ 1 < a) := by
    rw [Int32.lt_iff_toInt_lt, Int32.lt_iff_toInt_lt, ← Int32.toInt_inj, ← Int32.toInt_inj]
    have z0 : (0 : Int32).toInt = 0 := rfl
    have z1 : (1 : Int32).toInt = 1 := rfl
    omega
  by_cases h0 : a = 0
  · rw [if_pos h0, if_neg (key.mp (Or.inl h0))]
  · rw [if_neg h0]
    by_cases h1 : a = 1
    · rw [if_pos h1, if_neg (key.mp (Or.inr h1))]
    · rw [if_neg h1, if_pos]
      apply Classical.byContradiction
      intro q
      rcases key.mpr q with z | z
      · exact h0 z
      · exact h1 z
theorem sm_pos {t : Nat → Nat} (h : t 0 = 1) : 1 ≤ sm t 7 := by
  have := sm_ge (f := t) 7 (show 0 < 7 by omega)
  omega
theorem ge_sv {n : Nat} : 0 ≤ lg_cmp (sv n) 0 ↔ n < 2 ^ 63 := by
  rw [lg_cmp_ge]
  constructor
  · intro h
    apply Classical.byContradiction
    intro q
    exact Int64.not_lt.mpr h ((sv_neg n).mpr q)
  · intro h
    exact Int64.not_lt.mp (fun q => (sv_neg n).mp q h)
theorem lt_sv {n : Nat} : lg_cmp (sv n) 0 < 0 ↔ ¬ n < 2 ^ 63 := by
  rw [lg_cmp_lt]
  exact sv_neg n
theorem part_sv {a b : Nat} (hb : 0 < b) (p : Int32) : (a < 2 ^ 63 ∧ b < 2 ^ 63 ∧ ∃ r, f_X8_partOf (sv a) (sv b) p = some r ∧ f_X9_lowest (sv a) (sv b) p = some r) ∨ (¬ (a < 2 ^ 63 ∧ b < 2 ^ 63) ∧ f_X8_partOf (sv a) (sv b) p = some (-4611686018427387909)) := by
  by_cases ha : a < 2 ^ 63
  · by_cases hb2 : b < 2 ^ 63
    · obtain ⟨h1, r, h2⟩ := part_eq ha hb2 hb p
      refine Or.inl ⟨ha, hb2, r, ?_, ?_⟩
      · rw [sv_lt ha, sv_lt hb2, h1, h2]
      · rw [sv_lt ha, sv_lt hb2, h2]
    · refine Or.inr ⟨fun z => hb2 z.2, ?_⟩
      unfold f_X8_partOf
      rw [if_neg (fun z => lt_sv.mp z ha), sv_ge hb2, if_neg (by decide)]
  · refine Or.inr ⟨fun z => ha z.1, ?_⟩
    unfold f_X8_partOf
    rw [if_pos (lt_sv.mpr ha)]
theorem s_sum {kd fg lo hi jn nr : Nat → Int32} {la : Nat → Int64} {P L T : Nat} (hn : NetI kd fg lo hi jn nr la P L T) {N B : Nat} (hB : B < 2 ^ 30) (hN : N < 2 ^ 30) {wo : Nat → Int64} {lg se st tn wt : Nat → Int32} {S ag tu : Int32} (ht : TabI (En kd fg lo hi T L) (Eo lo hi L) P N B wo lg se st tn wt S ag tu) (tb ct : Nat → Int64) (hv : Nat → Int32) (im : Int32) (tm : Nat → Int64) (xs xo xt : Int64) (itm : Int32) (ea : Nat → Int64) (ms mo mt' : Int64) (p1 p2 : Int32) :
    ∃ (r : Int64) (wo' : Nat → Int64) (lg' se' st' tn' wt' : Nat → Int32) (S' ag' tu' : Int32) (ea' : Nat → Int64) (a1 b1 c1 : Int64) (tb' ct' : Nat → Int64) (hv' : Nat → Int32) (im' : Int32) (tm' : Nat → Int64) (xs' xo' xt' : Int64) (itm' : Int32), f_X8_sum kd fg jn nr (nI P) (nI T) (nI N) wo lg se st tn wt S ag tu ea ms mo mt' p1 p2 = some (r, wo', lg', se', st', tn', wt', S', ag', tu', ea', a1, b1, c1) ∧ f_X9_sum (nI P) (nI L) (nI T) kd fg lo hi tb ct hv im tm xs xo xt itm p1 p2 = some (r, tb', ct', hv', im', tm', xs', xo', xt', itm') ∧ TabI (En kd fg lo hi T L) (Eo lo hi L) P N (B + 1) wo' lg' se' st' tn' wt' S' ag' tu' := by
  unfold f_X8_sum f_X9_sum
  rw [q_isNoSet, q_isNoRate, q_isOut, q_isRate, bE1, bE1, bE1, bE1, told_bad]
  simp only [h10, h01, bE1]
  by_cases b1 : p1 < 0 ∨ 4095 < p1
  · rw [if_neg (fun q => q b1), if_pos b1]
    exact ⟨_, _, _, _, _, _, _, _, _, _, _, _, _, _, _, _, _, _, _, _, _, _, _, rfl, rfl, ht.more (by omega)⟩
  · rw [if_pos b1, if_neg b1]
    by_cases b2 : p2 < 0 ∨ 9 < p2
    · rw [if_neg (fun q => q b2), if_pos b2]
      exact ⟨_, _, _, _, _, _, _, _, _, _, _, _, _, _, _, _, _, _, _, _, _, _, _, rfl, rfl, ht.more (by omega)⟩
    · rw [if_pos b2, if_neg b2]
      obtain ⟨o, ho, rfl⟩ := nI_of2 (M := 4095) (n := 4095) rfl (fun q => b1 (Or.inl q)) (Int32.not_lt.mp (fun q => b1 (Or.inr q)))
      obtain ⟨k, hk, rfl⟩ := nI_of2 (M := 9) (n := 9) rfl (fun q => b2 (Or.inl q)) (Int32.not_lt.mp (fun q => b2 (Or.inr q)))
      obtain ⟨wo', lg', se', st', tn', wt', S', tb', ct', hv', im', ea', a1, c1, d1, tm', itm', t, r1, r2, r3, r4, r5⟩ := terms_both hn hB hN ht (o := o) (q := k) (by omega) hk tb ct hv im tm xs xo xt itm ea ms mo mt'
      rw [r1, bE10, r2, bE4, r3, bE9]
      obtain ⟨t0, _, h⟩ := r4
      rcases h with ⟨rfl, _, _, rfl, _, _⟩ | ⟨rfl, rfl, _, _, _⟩
      · rw [if_pos rfl, told_much, bE1]
        by_cases z : 0 ≤ lg_cmp (sv (sm t 7)) 0
        · rw [if_pos z, if_pos z]
          exact ⟨_, _, _, _, _, _, _, _, _, _, _, _, _, _, _, _, _, _, _, _, _, _, _, rfl, rfl, r5⟩
        · rw [if_neg z, if_neg z]
          exact ⟨_, _, _, _, _, _, _, _, _, _, _, _, _, _, _, _, _, _, _, _, _, _, _, rfl, rfl, r5⟩
      · rw [if_neg (by decide), if_neg (by decide), told_much, bE1]
        exact ⟨_, _, _, _, _, _, _, _, _, _, _, _, _, _, _, _, _, _, _, _, _, _, _, rfl, rfl, r5⟩
theorem s_mean {kd fg lo hi jn nr : Nat → Int32} {la : Nat → Int64} {P L T : Nat} (hn : NetI kd fg lo hi jn nr la P L T) {N B : Nat} (hB : B < 2 ^ 30) (hN : N < 2 ^ 30) {wo : Nat → Int64} {lg se st tn wt : Nat → Int32} {S ag tu : Int32} (ht : TabI (En kd fg lo hi T L) (Eo lo hi L) P N B wo lg se st tn wt S ag tu) (tb ct : Nat → Int64) (hv : Nat → Int32) (im : Int32) (tm : Nat → Int64) (xs xo xt : Int64) (itm : Int32) (ea : Nat → Int64) (ms mo mt' : Int64) (p1 p2 p3 : Int32) :
    ∃ (r : Int64) (wo' : Nat → Int64) (lg' se' st' tn' wt' : Nat → Int32) (S' ag' tu' : Int32) (ea' : Nat → Int64) (a1 b1 c1 : Int64) (tb' ct' : Nat → Int64) (hv' : Nat → Int32) (im' : Int32) (tm' : Nat → Int64) (xs' xo' xt' : Int64) (itm' : Int32), f_X8_mean kd fg jn nr (nI P) (nI T) (nI N) wo lg se st tn wt S ag tu ea ms mo mt' p1 p2 p3 = some (r, wo', lg', se', st', tn', wt', S', ag', tu', ea', a1, b1, c1) ∧ f_X9_mean (nI P) (nI L) (nI T) kd fg lo hi tb ct hv im tm xs xo xt itm p1 p2 p3 = some (r, tb', ct', hv', im', tm', xs', xo', xt', itm') ∧ TabI (En kd fg lo hi T L) (Eo lo hi L) P N (B + 1) wo' lg' se' st' tn' wt' S' ag' tu' := by
  unfold f_X8_mean f_X9_mean
  rw [q_isNoSet, q_isNoRate, q_isNoPart, q_isOut, q_isRate, q_isPart, bE1, bE1, bE1, bE1, bE1, bE1, told_bad]
  simp only [h10, h01, bE1]
  by_cases b1 : p1 < 0 ∨ 4095 < p1
  · rw [if_neg (fun q => q b1), if_pos b1]
    exact ⟨_, _, _, _, _, _, _, _, _, _, _, _, _, _, _, _, _, _, _, _, _, _, _, rfl, rfl, ht.more (by omega)⟩
  · rw [if_pos b1, if_neg b1]
    by_cases b2 : p2 < 0 ∨ 9 < p2
    · rw [if_neg (fun q => q b2), if_pos b2]
      exact ⟨_, _, _, _, _, _, _, _, _, _, _, _, _, _, _, _, _, _, _, _, _, _, _, rfl, rfl, ht.more (by omega)⟩
    · rw [if_pos b2, if_neg b2]
      by_cases b3 : p3 < 0 ∨ 1 < p3
      · rw [if_neg (fun q => q b3), if_pos b3]
        exact ⟨_, _, _, _, _, _, _, _, _, _, _, _, _, _, _, _, _, _, _, _, _, _, _, rfl, rfl, ht.more (by omega)⟩
      · rw [if_pos b3, if_neg b3]
        obtain ⟨o, ho, rfl⟩ := nI_of2 (M := 4095) (n := 4095) rfl (fun q => b1 (Or.inl q)) (Int32.not_lt.mp (fun q => b1 (Or.inr q)))
        obtain ⟨k, hk, rfl⟩ := nI_of2 (M := 9) (n := 9) rfl (fun q => b2 (Or.inl q)) (Int32.not_lt.mp (fun q => b2 (Or.inr q)))
        obtain ⟨wo', lg', se', st', tn', wt', S', tb', ct', hv', im', ea', a1, c1, d1, tm', itm', t, r1, r2, r3, r4, r5⟩ := terms_both hn hB hN ht (o := o) (q := k) (by omega) hk tb ct hv im tm xs xo xt itm ea ms mo mt'
        rw [r1, bE10, r2, bE4, r3, bE9, told_much]
        obtain ⟨t0, _, h⟩ := r4
        rcases h with ⟨rfl, _, _, rfl, rfl, _⟩ | ⟨rfl, rfl, rfl, _, _⟩
        · unfold f_X9_isMeanMuch
          rw [if_pos rfl]
          rcases part_sv (a := sm (fun k => k * t k) 7) (b := sm t 7) (sm_pos t0) p3 with ⟨z1, z2, r, z3, z4⟩ | ⟨z1, z2⟩
          · rw [if_neg (fun z => lt_sv.mp z z2), if_pos (ge_sv.mpr z1), bE1, if_pos rfl, z3, z4, bE1, bE1]
            exact ⟨_, _, _, _, _, _, _, _, _, _, _, _, _, _, _, _, _, _, _, _, _, _, _, rfl, rfl, r5⟩
          · have e : (if lg_cmp (sv (sm t 7)) 0 < 0 then some (1 : Int32) else if 0 ≤ lg_cmp (sv (sm (fun k => k * t k) 7)) 0 then some 0 else some 1) = some 1 := by
              by_cases y1 : sm t 7 < 2 ^ 63
              · have y2 : ¬ sm (fun k => k * t k) 7 < 2 ^ 63 := fun y2 => z1 ⟨y2, y1⟩
                rw [if_neg (fun z => lt_sv.mp z y1), if_neg (fun z => y2 (ge_sv.mp z))]
              · rw [if_pos (lt_sv.mpr y1)]
            rw [e, bE1, if_neg (by decide), z2, bE1, bE1]
            exact ⟨_, _, _, _, _, _, _, _, _, _, _, _, _, _, _, _, _, _, _, _, _, _, _, rfl, rfl, r5⟩
        · unfold f_X9_isMeanMuch f_X8_partOf
          rw [if_pos (show lg_cmp (-1) 0 < 0 by decide), if_neg (show ¬ (1 : Int32) = 0 by decide), bE1, bE1, if_neg (show ¬ (1 : Int32) = 0 by decide), bE1]
          exact ⟨_, _, _, _, _, _, _, _, _, _, _, _, _, _, _, _, _, _, _, _, _, _, _, rfl, rfl, r5⟩
