/-! pure rows: the row of a set, class and reference -/
theorem bE4 {A0 A1 A2 A3 γ : Type} (a0 : A0) (a1 : A1) (a2 : A2) (a3 : A3) (f : A0 → A1 → A2 → A3 → Option γ) : bn4 (some (a0, a1, a2, a3)) f = f a0 a1 a2 a3 := Eq.trans (Eq.refl (bn4 (some (a0, a1, a2, a3)) f)) (Eq.refl (f a0 a1 a2 a3))
theorem bE6 {A0 A1 A2 A3 A4 A5 γ : Type} (a0 : A0) (a1 : A1) (a2 : A2) (a3 : A3) (a4 : A4) (a5 : A5) (f : A0 → A1 → A2 → A3 → A4 → A5 → Option γ) : bn6 (some (a0, a1, a2, a3, a4, a5)) f = f a0 a1 a2 a3 a4 a5 := Eq.trans (Eq.refl (bn6 (some (a0, a1, a2, a3, a4, a5)) f)) (Eq.refl (f a0 a1 a2 a3 a4 a5))
theorem bE7 {A0 A1 A2 A3 A4 A5 A6 γ : Type} (a0 : A0) (a1 : A1) (a2 : A2) (a3 : A3) (a4 : A4) (a5 : A5) (a6 : A6) (f : A0 → A1 → A2 → A3 → A4 → A5 → A6 → Option γ) : bn7 (some (a0, a1, a2, a3, a4, a5, a6)) f = f a0 a1 a2 a3 a4 a5 a6 := Eq.trans (Eq.refl (bn7 (some (a0, a1, a2, a3, a4, a5, a6)) f)) (Eq.refl (f a0 a1 a2 a3 a4 a5 a6))
theorem bE8 {A0 A1 A2 A3 A4 A5 A6 A7 γ : Type} (a0 : A0) (a1 : A1) (a2 : A2) (a3 : A3) (a4 : A4) (a5 : A5) (a6 : A6) (a7 : A7) (f : A0 → A1 → A2 → A3 → A4 → A5 → A6 → A7 → Option γ) : bn8 (some (a0, a1, a2, a3, a4, a5, a6, a7)) f = f a0 a1 a2 a3 a4 a5 a6 a7 := Eq.trans (Eq.refl (bn8 (some (a0, a1, a2, a3, a4, a5, a6, a7)) f)) (Eq.refl (f a0 a1 a2 a3 a4 a5 a6 a7))
theorem bE9 {A0 A1 A2 A3 A4 A5 A6 A7 A8 γ : Type} (a0 : A0) (a1 : A1) (a2 : A2) (a3 : A3) (a4 : A4) (a5 : A5) (a6 : A6) (a7 : A7) (a8 : A8) (f : A0 → A1 → A2 → A3 → A4 → A5 → A6 → A7 → A8 → Option γ) : bn9 (some (a0, a1, a2, a3, a4, a5, a6, a7, a8)) f = f a0 a1 a2 a3 a4 a5 a6 a7 a8 := Eq.trans (Eq.refl (bn9 (some (a0, a1, a2, a3, a4, a5, a6, a7, a8)) f)) (Eq.refl (f a0 a1 a2 a3 a4 a5 a6 a7 a8))
theorem bE10 {A0 A1 A2 A3 A4 A5 A6 A7 A8 A9 γ : Type} (a0 : A0) (a1 : A1) (a2 : A2) (a3 : A3) (a4 : A4) (a5 : A5) (a6 : A6) (a7 : A7) (a8 : A8) (a9 : A9) (f : A0 → A1 → A2 → A3 → A4 → A5 → A6 → A7 → A8 → A9 → Option γ) : bn10 (some (a0, a1, a2, a3, a4, a5, a6, a7, a8, a9)) f = f a0 a1 a2 a3 a4 a5 a6 a7 a8 a9 := Eq.trans (Eq.refl (bn10 (some (a0, a1, a2, a3, a4, a5, a6, a7, a8, a9)) f)) (Eq.refl (f a0 a1 a2 a3 a4 a5 a6 a7 a8 a9))
theorem bE11 {A0 A1 A2 A3 A4 A5 A6 A7 A8 A9 A10 γ : Type} (a0 : A0) (a1 : A1) (a2 : A2) (a3 : A3) (a4 : A4) (a5 : A5) (a6 : A6) (a7 : A7) (a8 : A8) (a9 : A9) (a10 : A10) (f : A0 → A1 → A2 → A3 → A4 → A5 → A6 → A7 → A8 → A9 → A10 → Option γ) : bn11 (some (a0, a1, a2, a3, a4, a5, a6, a7, a8, a9, a10)) f = f a0 a1 a2 a3 a4 a5 a6 a7 a8 a9 a10 := Eq.trans (Eq.refl (bn11 (some (a0, a1, a2, a3, a4, a5, a6, a7, a8, a9, a10)) f)) (Eq.refl (f a0 a1 a2 a3 a4 a5 a6 a7 a8 a9 a10))
theorem bE12 {A0 A1 A2 A3 A4 A5 A6 A7 A8 A9 A10 A11 γ : Type} (a0 : A0) (a1 : A1) (a2 : A2) (a3 : A3) (a4 : A4) (a5 : A5) (a6 : A6) (a7 : A7) (a8 : A8) (a9 : A9) (a10 : A10) (a11 : A11) (f : A0 → A1 → A2 → A3 → A4 → A5 → A6 → A7 → A8 → A9 → A10 → A11 → Option γ) : bn12 (some (a0, a1, a2, a3, a4, a5, a6, a7, a8, a9, a10, a11)) f = f a0 a1 a2 a3 a4 a5 a6 a7 a8 a9 a10 a11 := Eq.trans (Eq.refl (bn12 (some (a0, a1, a2, a3, a4, a5, a6, a7, a8, a9, a10, a11)) f)) (Eq.refl (f a0 a1 a2 a3 a4 a5 a6 a7 a8 a9 a10 a11))
theorem bE13 {A0 A1 A2 A3 A4 A5 A6 A7 A8 A9 A10 A11 A12 γ : Type} (a0 : A0) (a1 : A1) (a2 : A2) (a3 : A3) (a4 : A4) (a5 : A5) (a6 : A6) (a7 : A7) (a8 : A8) (a9 : A9) (a10 : A10) (a11 : A11) (a12 : A12) (f : A0 → A1 → A2 → A3 → A4 → A5 → A6 → A7 → A8 → A9 → A10 → A11 → A12 → Option γ) : bn13 (some (a0, a1, a2, a3, a4, a5, a6, a7, a8, a9, a10, a11, a12)) f = f a0 a1 a2 a3 a4 a5 a6 a7 a8 a9 a10 a11 a12 := Eq.trans (Eq.refl (bn13 (some (a0, a1, a2, a3, a4, a5, a6, a7, a8, a9, a10, a11, a12)) f)) (Eq.refl (f a0 a1 a2 a3 a4 a5 a6 a7 a8 a9 a10 a11 a12))
theorem fq_congrP {E E' : Nat → Nat → Int32} {p rest P : Nat} {R : Nat → Nat → Int64} (hr : rest < 2 ^ P) (h : ∀ q, p < q → q < P → E p q = E' p q) : ∀ j, fq E p rest R j = fq E' p rest R j := by
  intro j
  induction j with
  | zero => rfl
  | succ j ih =>
    show (if _ then _ else _) = (if _ then _ else _)
    by_cases z : p < j ∧ j < P
    · rw [ih, h j z.1 z.2]
    · have c : ¬ (p < j ∧ rest / 2 ^ j % 2 = 1) := by
        rintro ⟨q1, q2⟩
        have : P ≤ j := by omega
        rw [Nat.div_eq_of_lt (Nat.lt_of_lt_of_le hr (Nat.pow_le_pow_right (by decide) this))] at q2
        omega
      rw [ih, if_neg (fun q => c ⟨q.1, q.2.1⟩), if_neg (fun q => c ⟨q.1, q.2.1⟩)]
theorem Rr_congrP {E E' : Nat → Nat → Int32} {P : Nat} (hP : P ≤ 12) (h : ∀ p q, p < q → q < P → E p q = E' p q) : ∀ s, s < 4096 → s < 2 ^ P → Rr E s = Rr E' s := by
  refine set_ind (P := fun s => s < 2 ^ P → Rr E s = Rr E' s) (fun _ => (Rr_0 E).trans (Rr_0 E').symm) ?_
  intro s hs h0 ih hsP
  have := (rest_lt s hs).resolve_left h0
  rw [Rr_s E hs h0, Rr_s E' hs h0, fq_congrP (P := P) (by omega) (fun q => h (low s) q) 12]
  exact fq_congr (fun t ht => ih t (by omega) (by omega)) 12
theorem row_both {kd fg lo hi jn nr : Nat → Int32} {la : Nat → Int64} {P L T : Nat} (hn : NetI kd fg lo hi jn nr la P L T) {N B : Nat} (hB : B < 2 ^ 30) (hN : N < 2 ^ 30) {wo : Nat → Int64} {lg se st tn wt : Nat → Int32} {S ag tu : Int32} (ht : TabI (En kd fg lo hi T L) (Eo lo hi L) P N B wo lg se st tn wt S ag tu) {o : Nat} (ho : o < 4096) (tb ct : Nat → Int64) (hv : Nat → Int32) (im : Int32) :
    ∃ (wo' : Nat → Int64) (lg' se' st' tn' wt' : Nat → Int32) (S' : Int32) (tb' ct' : Nat → Int64) (hv' : Nat → Int32) (im' : Int32), f_X8_rowOf kd fg jn nr (nI P) (nI T) (nI N) wo lg se st tn wt S ag tu (nI o) = some (nI (7 * pl (fr P o)), wo', lg', se', st', tn', wt', S', nI N, 0) ∧ f_X9_findsCounts (nI P) (nI L) (nI T) kd fg lo hi tb ct hv im (nI o) = some (tb', ct', hv', im') ∧ (∀ k, k < 7 → wo' (7 * pl (fr P o) + k) = Rr (En kd fg lo hi T L) (fr P o) k) ∧ lg' (pl (fr P o)) = nI (Lg (En kd fg lo hi T L) (fr P o)) ∧ (∀ k, k < 7 → ct' k = Rr (En kd fg lo hi T L) (fr P o) k) ∧ muchV (Rr (En kd fg lo hi T L) (fr P o)) 7 im' ∧ TabI (En kd fg lo hi T L) (Eo lo hi L) P N (B + 1) wo' lg' se' st' tn' wt' S' (nI N) 0 := by
  have hP := hn.1
  obtain ⟨tn', wt', S', h1, h2, _⟩ := q_prepare hn hB hN ht (p2 := 0) (Or.inl rfl)
  obtain ⟨Sn, rfl, g1, g2, g3, g4, g5, _, g6⟩ := h2 rfl
  obtain ⟨f1, f2⟩ := fr_ok o ho P (by omega)
  have fs : fr P o < 4096 := Nat.lt_of_lt_of_le f2 (Nat.pow_le_pow_right (n := 2) (by decide) hP)
  obtain ⟨wo', lg', se', st', r1, r2, r3, r4, r5⟩ := q_rowFor g5 fs g4
  obtain ⟨hv', y1, y2⟩ := q_lays hn 0 hv
  obtain ⟨tb', ct', im', c1, c2, c3⟩ := q_countsBy hP f2 hv' tb ct im
  have er : Rr (fun p q => hv' (12 * p + q)) (fr P o) = Rr (En kd fg lo hi T L) (fr P o) := Rr_congr (fun p q hpq hq => by
    rw [y2 p q hpq hq, if_pos rfl]) _ fs
  rw [er] at c2 c3
  refine ⟨wo', lg', se', st', tn', wt', nI Sn, tb', ct', hv', im', ?_, ?_, fun k hk => ?_, ?_, c2, c3, ?_⟩
  · unfold f_X8_rowOf f_X1_allPoints
    rw [h1, bE5, bE1, f1, r1, bE5]
  · unfold f_X9_findsCounts f_X9_free
    rw [y1, bE1, bE1, f1, c1, bE3]
  · rw [r3 k hk, Rr_congr g6 _ fs]
  · rw [r4, Lg_congr g6 _ fs]
  · refine ⟨Sn, rfl, g2, fun t ht' => ?_, r2.2.1, r2.2.2, Or.inl rfl, fun _ => ⟨r2, g5, N, rfl, Nat.le_refl _, fun _ => ⟨fun _ => g6, fun e => absurd e (by decide)⟩⟩⟩
    rcases r5 t with z | z
    · rw [z]
      exact g3 t ht'
    · exact ⟨Sn, Nat.le_refl _, z⟩
theorem told_v (r : Int32) {v : Int64} (h : (-4611686018427387904 : Int64) + r.toInt64 = v) : f_X9_told r = some v := by
  unfold f_X9_told
  rw [h]
theorem told_bad : f_X9_told (-2) = some (-4611686018427387906) := told_v (-2) (by decide)
theorem told_much : f_X9_told (-5) = some (-4611686018427387909) := told_v (-5) (by decide)
/-- isMuch of a row -/
theorem much_loop {wo : Nat → Int64} {r : Nat → Int64} {s : Nat} (hs : s < 515) (hr : ∀ k, k < 7 → wo (7 * s + k) = r k) : ∀ (m j : Nat), j ≤ 7 → 7 - j < m → (∀ k, k < j → ¬ r k < 0) → ∃ b, f_X4_isMuch_b2 wo (nI (7 * s)) m (nI j) = some b ∧ muchV r 7 b := by
  intro m
  induction m with
  | zero => intro j _ h; omega
  | succ m ih =>
    intro j hj hm hc
    show ∃ b, f_X4_isMuch_s2 wo (nI (7 * s)) (f_X4_isMuch_b2 wo (nI (7 * s)) m) (nI j) = some b ∧ _
    unfold f_X4_isMuch_s2
    by_cases h : 7 ≤ j
    · have e : j = 7 := by omega
      subst e
      rw [if_pos (show (7 : Int32) ≤ nI 7 by decide)]
      exact ⟨0, rfl, Or.inl ⟨rfl, hc⟩⟩
    · have a2 : 7 * s + j < 3605 := by omega
      rw [if_neg (show ¬ (7 : Int32) ≤ nI j from nI_ge (a := j) (b := 7) (by omega) (by decide)), nI_add, g3605 a2, c3605 a2, hr j (by omega)]
      by_cases hn : r j < 0
      · rw [if_neg (fun q => by rw [lg_cmp_ge] at q; exact absurd hn (Int64.not_lt.mpr q))]
        exact ⟨1, rfl, Or.inr ⟨rfl, j, by omega, hn⟩⟩
      · rw [if_pos (by rw [lg_cmp_ge]; exact Int64.not_lt.mp hn), nmE, nI_1]
        refine ih (j + 1) (by omega) (by omega) (fun k hk => ?_)
        by_cases e : k = j
        · subst e
          exact hn
        · exact hc k (by omega)
theorem muchV_eq {r : Nat → Int64} {n : Nat} {a b : Int32} (h1 : muchV r n a) (h2 : muchV r n b) : a = b := by
  rcases h1 with ⟨rfl, h1⟩ | ⟨rfl, k, hk, h1⟩
  · rcases h2 with ⟨rfl, h2⟩ | ⟨rfl, k, hk, h2⟩
    · rfl
    · exact absurd h2 (h1 k hk)
  · rcases h2 with ⟨rfl, h2⟩ | ⟨rfl, k, hk, h2⟩
    · exact absurd h1 (h2 k hk)
    · rfl
theorem q_isMuch {wo r : Nat → Int64} {s : Nat} (hs : s < 515) (hr : ∀ k, k < 7 → wo (7 * s + k) = r k) {b : Int32} (hb : muchV r 7 b) : f_X4_isMuch wo (nI (7 * s)) = some b := by
  obtain ⟨c, h1, h2⟩ := much_loop hs hr 70 0 (by omega) (by omega) (fun k hk => by omega)
  rw [nI_0] at h1
  unfold f_X4_isMuch
  rw [h1, muchV_eq h2 hb]
theorem much01 {r : Nat → Int64} {n : Nat} {b : Int32} (h : muchV r n b) : b = 0 ∨ b = 1 := by
  rcases h with ⟨h, _⟩ | ⟨h, _⟩
  · exact Or.inl h
  · exact Or.inr h
/-- the class's table behind a call, and what of the reference went along -/
theorem s_counts {kd fg lo hi jn nr : Nat → Int32} {la : Nat → Int64} {P L T : Nat} (hn : NetI kd fg lo hi jn nr la P L T) {N B : Nat} (hB : B < 2 ^ 30) (hN : N < 2 ^ 30) {wo : Nat → Int64} {lg se st tn wt : Nat → Int32} {S ag tu : Int32} (ht : TabI (En kd fg lo hi T L) (Eo lo hi L) P N B wo lg se st tn wt S ag tu) (tb ct : Nat → Int64) (hv : Nat → Int32) (im p1 p2 : Int32) :
    ∃ (r : Int64) (wo' : Nat → Int64) (lg' se' st' tn' wt' : Nat → Int32) (S' ag' tu' : Int32) (tb' ct' : Nat → Int64) (hv' : Nat → Int32) (im' : Int32), f_X8_counts kd fg jn nr (nI P) (nI T) (nI N) wo lg se st tn wt S ag tu p1 p2 = some (r, wo', lg', se', st', tn', wt', S', ag', tu') ∧ f_X9_counts (nI P) (nI L) (nI T) kd fg lo hi tb ct hv im p1 p2 = some (r, tb', ct', hv', im') ∧ TabI (En kd fg lo hi T L) (Eo lo hi L) P N (B + 1) wo' lg' se' st' tn' wt' S' ag' tu' := by
  have hP := hn.1
  unfold f_X8_counts f_X9_counts
  rw [q_isNoSet, q_isBeyond, q_isOut, q_inL p2 (lo := 0) (hi := 6) 0 6 rfl rfl, bE1, bE1, bE1, bE1, told_bad]
  simp only [h10, h01, bE1]
  by_cases b1 : p1 < 0 ∨ 4095 < p1
  · rw [if_neg (fun q => q b1), if_pos b1]
    exact ⟨_, _, _, _, _, _, _, _, _, _, _, _, _, _, rfl, rfl, ht.more (by omega)⟩
  · rw [if_pos b1, if_neg b1]
    by_cases b2 : p2 < 0 ∨ 6 < p2
    · rw [if_neg (fun q => q b2), if_pos b2]
      exact ⟨_, _, _, _, _, _, _, _, _, _, _, _, _, _, rfl, rfl, ht.more (by omega)⟩
    · rw [if_pos b2, if_neg b2]
      obtain ⟨o, ho, rfl⟩ := nI_of2 (M := 4095) (n := 4095) rfl (fun q => b1 (Or.inl q)) (Int32.not_lt.mp (fun q => b1 (Or.inr q)))
      obtain ⟨k, hk, rfl⟩ := nI_of2 (M := 6) (n := 6) rfl (fun q => b2 (Or.inl q)) (Int32.not_lt.mp (fun q => b2 (Or.inr q)))
      obtain ⟨wo', lg', se', st', tn', wt', S', tb', ct', hv', im', r1, r2, r3, r4, r5, r6, r7⟩ := row_both hn hB hN ht (o := o) (by omega) tb ct hv im
      have fs : fr P o < 4096 := Nat.lt_of_lt_of_le (fr_ok o (by omega) P (by omega)).2 (Nat.pow_le_pow_right (n := 2) (by decide) hP)
      have fp := pl_lt fs
      rw [r1, bE10, r2, bE4, q_isMuch (pl_lt fs) r3 r6, bE1]
      rcases much01 r6 with e | e
      · subst e
        rw [if_pos rfl, if_pos rfl, nI_add, g3605 (by omega), c3605 (by omega), gN (N := 7) (by omega) (by decide), nI_clamp (show k < 2 ^ 31 by omega), r3 k (by omega), r5 k (by omega)]
        exact ⟨_, _, _, _, _, _, _, _, _, _, _, _, _, _, rfl, rfl, r7⟩
      · subst e
        rw [if_neg (by decide), if_neg (by decide), told_much, bE1]
        exact ⟨_, _, _, _, _, _, _, _, _, _, _, _, _, _, rfl, rfl, r7⟩
