/-! pure rows: other, alone, most -/
theorem all_fr : ∀ P, P < 13 → ((1 : Int32) <<< (nI P &&& 31)) - 1 = nI (fr P 0) := by decide +kernel
theorem s_other {kd fg lo hi jn nr : Nat → Int32} {la : Nat → Int64} {P L T : Nat} (hn : NetI kd fg lo hi jn nr la P L T) {N B : Nat} (hB : B < 2 ^ 30) (hN : N < 2 ^ 30) {wo : Nat → Int64} {lg se st tn wt : Nat → Int32} {S ag tu : Int32} (ht : TabI (En kd fg lo hi T L) (Eo lo hi L) P N B wo lg se st tn wt S ag tu) (tb ct : Nat → Int64) (hv : Nat → Int32) (im : Int32) (p1 : Int32) :
    ∃ (r : Int64) (wo' : Nat → Int64) (lg' se' st' tn' wt' : Nat → Int32) (S' ag' tu' : Int32) (tb' ct' : Nat → Int64) (hv' : Nat → Int32) (im' : Int32), f_X8_other kd fg jn nr (nI P) (nI T) (nI N) wo lg se st tn wt S ag tu p1 = some (r, wo', lg', se', st', tn', wt', S', ag', tu') ∧ f_X9_other (nI P) (nI L) (nI T) kd fg lo hi tb ct hv im p1 = some (r, tb', ct', hv', im') ∧ TabI (En kd fg lo hi T L) (Eo lo hi L) P N (B + 1) wo' lg' se' st' tn' wt' S' ag' tu' := by
  have hP := hn.1
  unfold f_X8_other f_X9_other
  rw [q_isBeyond, q_inL p1 (lo := 0) (hi := 6) 0 6 rfl rfl, bE1, bE1, told_bad]
  simp only [h10, h01, bE1]
  by_cases b1 : p1 < 0 ∨ 6 < p1
  · rw [if_neg (fun q => q b1), if_pos b1]
    exact ⟨_, _, _, _, _, _, _, _, _, _, _, _, _, _, rfl, rfl, ht.more (by omega)⟩
  · rw [if_pos b1, if_neg b1]
    obtain ⟨k, hk, rfl⟩ := nI_of2 (M := 6) (n := 6) rfl (fun q => b1 (Or.inl q)) (Int32.not_lt.mp (fun q => b1 (Or.inr q)))
    obtain ⟨tn', wt', S', h1, _, h2⟩ := q_prepare hn hB hN ht (p2 := 1) (Or.inr rfl)
    obtain ⟨Sn, rfl, g1, g2, g3, g4, g5, _, g6⟩ := h2 rfl
    have f2 : fr P 0 < 2 ^ P := (fr_ok 0 (by omega) P (by omega)).2
    have fs : fr P 0 < 4096 := fr_lt hP (by omega)
    obtain ⟨wo', lg', se', st', r1, r2, r3, r4, r5⟩ := q_rowFor g5 fs g4
    obtain ⟨hv', y1, y2⟩ := q_lays hn 1 hv
    obtain ⟨tb', ct', im', c1, c2, c3⟩ := q_countsBy hP f2 hv' tb ct im
    have er : Rr (fun p q => hv' (12 * p + q)) (fr P 0) = Rr (Eo lo hi L) (fr P 0) := Rr_congr (fun p q hpq hq => by
      rw [y2 p q hpq hq, if_neg (by decide)]) _ fs
    have ec : Rr (Et tn' wt') (fr P 0) = Rr (Eo lo hi L) (fr P 0) := Rr_congrP hP g6 _ fs f2
    have q0 := q_free (P := P) (o := 0) hP (by omega)
    rw [nI_0] at q0
    have fp := pl_lt fs
    unfold f_X1_allPoints
    rw [h1, bE5, bE1, all_fr P (by omega), r1, bE5, nI_add, g3605 (by omega), c3605 (by omega), y1, bE1, q0, bE1, c1, bE3, gN (N := 7) (by omega) (by decide), nI_clamp (show k < 2 ^ 31 by omega), r3 k (by omega), c2 k (by omega), er, ec]
    refine ⟨_, _, _, _, _, _, _, _, _, _, _, _, _, _, rfl, rfl, ⟨Sn, rfl, g2, fun t ht' => ?_, r2.2.1, r2.2.2, Or.inr rfl, fun _ => ⟨r2, g5, N, rfl, Nat.le_refl _, fun _ => ⟨fun e => absurd e (by decide), fun _ => g6⟩⟩⟩⟩
    rcases r5 t with z | z
    · rw [z]
      exact g3 t ht'
    · exact ⟨Sn, Nat.le_refl _, z⟩
theorem pt_cases {P : Nat} (hP : P ≤ 12) (p1 p2 : Int32) : (f_X8_isNoPointIn (nI P) p1 p2 = some 1 ∧ (f_X9_isPoint (nI P) p1 = some 0 ∨ (f_X9_isPoint (nI P) p1 = some 1 ∧ (f_X9_isOut p2 = some 0 ∨ (f_X9_isOut p2 = some 1 ∧ f_X9_has p2.toInt64 p1 = some 1))))) ∨ ∃ p o : Nat, p < P ∧ o < 4096 ∧ p1 = nI p ∧ p2 = nI o ∧ o / 2 ^ p % 2 = 0 ∧ f_X8_isNoPointIn (nI P) p1 p2 = some 0 ∧ f_X9_isPoint (nI P) p1 = some 1 ∧ f_X9_isOut p2 = some 1 ∧ f_X9_has p2.toInt64 p1 = some 0 := by
  rcases ix_cases p1 (n := P) (by omega) with ⟨hb, _⟩ | ⟨p, hp, rfl, hb⟩
  · refine Or.inl ⟨?_, Or.inl ?_⟩
    · unfold f_X8_isNoPointIn
      rw [q_hasPoint, if_pos hb, bE1, if_pos rfl]
    · rw [q_isPoint]
      simp only [pred_lt (n := P) (by omega)]
      rw [if_pos hb]
  · have e1 : f_X9_isPoint (nI P) (nI p) = some 1 := by
      rw [q_isPoint]
      simp only [pred_lt (n := P) (by omega)]
      rw [if_neg hb]
    have e2 : f_X1_hasPoint (nI P) (nI p) = some 1 := by rw [q_hasPoint, if_neg hb]
    by_cases b2 : p2 < 0 ∨ 4095 < p2
    · refine Or.inl ⟨?_, Or.inr ⟨e1, Or.inl ?_⟩⟩
      · unfold f_X8_isNoPointIn
        rw [e2, bE1, if_neg (show ¬ (1 : Int32) = 0 by decide), q_isNoSet, if_pos b2, bE1, if_neg (show ¬ (1 : Int32) = 0 by decide)]
      · rw [q_isOut, if_pos b2]
    · have e3 : f_X9_isOut p2 = some 1 := by rw [q_isOut, if_neg b2]
      have e4 : f_X8_isNoSet p2 = some 0 := by rw [q_isNoSet, if_neg b2]
      obtain ⟨o, ho, rfl⟩ := nI_of2 (M := 4095) (n := 4095) rfl (fun q => b2 (Or.inl q)) (Int32.not_lt.mp (fun q => b2 (Or.inr q)))
      have e5 : f_X8_isNoPointIn (nI P) (nI p) (nI o) = some (if o / 2 ^ p % 2 = 1 then 1 else 0) := by
        unfold f_X8_isNoPointIn
        rw [e2, bE1, if_neg (show ¬ (1 : Int32) = 0 by decide), e4, bE1, if_pos rfl]
        by_cases z : o / 2 ^ p % 2 = 1
        · rw [if_pos z, if_neg]
          rw [ib_sh _ (by omega), ib_nI _ (by omega), decide_eq_false_iff_not]
          exact fun q => q z
        · rw [if_neg z, if_pos]
          rw [ib_sh _ (by omega), ib_nI _ (by omega), decide_eq_false_iff_not]
          exact z
      have e6 : f_X9_has (nI o).toInt64 (nI p) = some (nI (o / 2 ^ p % 2)) := q_hasI (by omega) (by omega)
      have h2 : o / 2 ^ p % 2 = 0 ∨ o / 2 ^ p % 2 = 1 := by omega
      rcases h2 with z | z
      · rw [z] at e5 e6
        exact Or.inr ⟨p, o, hp, by omega, rfl, rfl, z, e5, e1, e3, e6⟩
      · rw [z] at e5 e6
        exact Or.inl ⟨e5, Or.inr ⟨e1, Or.inr ⟨e3, e6⟩⟩⟩
theorem part_b (x : Int64) (p : Int32) : f_X8_partOf x (-1) p = some (-4611686018427387909) := by
  unfold f_X8_partOf
  rw [if_neg (show ¬ 0 < lg_cmp (-1) 0 by decide), ite_self]
theorem part_a (x : Int64) (p : Int32) : f_X8_partOf (-1) x p = some (-4611686018427387909) := by
  unfold f_X8_partOf
  rw [if_pos (show lg_cmp (-1) 0 < 0 by decide)]
theorem s_alone {kd fg lo hi jn nr : Nat → Int32} {la : Nat → Int64} {P L T : Nat} (hn : NetI kd fg lo hi jn nr la P L T) {N B : Nat} (hB : B < 2 ^ 29) (hN : N < 2 ^ 30) {wo : Nat → Int64} {lg se st tn wt : Nat → Int32} {S ag tu : Int32} (ht : TabI (En kd fg lo hi T L) (Eo lo hi L) P N B wo lg se st tn wt S ag tu) (tb ct : Nat → Int64) (hv : Nat → Int32) (im : Int32) (tm : Nat → Int64) (xs xo xt : Int64) (itm : Int32) (ea : Nat → Int64) (ms mo mt' : Int64) (p1 p2 p3 p4 : Int32) :
    ∃ (r : Int64) (wo' : Nat → Int64) (lg' se' st' tn' wt' : Nat → Int32) (S' ag' tu' : Int32) (ea' : Nat → Int64) (a1 b1 c1 : Int64) (tb' ct' : Nat → Int64) (hv' : Nat → Int32) (im' : Int32) (tm' : Nat → Int64) (xs' xo' xt' : Int64) (itm' : Int32), f_X8_alone kd fg jn nr (nI P) (nI T) (nI N) wo lg se st tn wt S ag tu ea ms mo mt' p1 p2 p3 p4 = some (r, wo', lg', se', st', tn', wt', S', ag', tu', ea', a1, b1, c1) ∧ f_X9_alone (nI P) (nI L) (nI T) kd fg lo hi tb ct hv im tm xs xo xt itm p1 p2 p3 p4 = some (r, tb', ct', hv', im', tm', xs', xo', xt', itm') ∧ TabI (En kd fg lo hi T L) (Eo lo hi L) P N (B + 2) wo' lg' se' st' tn' wt' S' ag' tu' := by
  have hP := hn.1
  unfold f_X8_alone f_X9_alone
  rw [told_bad]
  simp only [bE1]
  rcases pt_cases hP p1 p2 with ⟨c1, cr⟩ | ⟨p, o, hp, ho, rfl, rfl, hbit, c1, c2, c3, c4⟩
  · rw [c1, bE1, if_neg (show ¬ (1 : Int32) = 0 by decide)]
    rcases cr with z | ⟨z, z2 | ⟨z2, z3⟩⟩
    · rw [z, bE1, if_pos rfl]
      exact ⟨_, _, _, _, _, _, _, _, _, _, _, _, _, _, _, _, _, _, _, _, _, _, _, rfl, rfl, ht.more (by omega)⟩
    · rw [z, bE1, if_neg (show ¬ (1 : Int32) = 0 by decide), z2, bE1, if_pos rfl]
      exact ⟨_, _, _, _, _, _, _, _, _, _, _, _, _, _, _, _, _, _, _, _, _, _, _, rfl, rfl, ht.more (by omega)⟩
    · rw [z, bE1, if_neg (show ¬ (1 : Int32) = 0 by decide), z2, bE1, if_neg (show ¬ (1 : Int32) = 0 by decide), z3, bE1, if_neg (show ¬ (1 : Int32) = 0 by decide)]
      exact ⟨_, _, _, _, _, _, _, _, _, _, _, _, _, _, _, _, _, _, _, _, _, _, _, rfl, rfl, ht.more (by omega)⟩
  · rw [c1, bE1, if_pos rfl, c2, bE1, if_neg (show ¬ (1 : Int32) = 0 by decide), c3, bE1, if_neg (show ¬ (1 : Int32) = 0 by decide), c4, bE1, if_pos rfl, q_isNoRate, q_isNoPart, q_isRate, q_isPart, bE1, bE1, bE1, bE1]
    simp only [h10, h01]
    by_cases b2 : p3 < 0 ∨ 9 < p3
    · rw [if_neg (fun q => q b2), if_pos b2]
      exact ⟨_, _, _, _, _, _, _, _, _, _, _, _, _, _, _, _, _, _, _, _, _, _, _, rfl, rfl, ht.more (by omega)⟩
    · rw [if_pos b2, if_neg b2]
      by_cases b3 : p4 < 0 ∨ 1 < p4
      · rw [if_neg (fun q => q b3), if_pos b3]
        exact ⟨_, _, _, _, _, _, _, _, _, _, _, _, _, _, _, _, _, _, _, _, _, _, _, rfl, rfl, ht.more (by omega)⟩
      · rw [if_pos b3, if_neg b3]
        obtain ⟨k, hk, rfl⟩ := nI_of2 (M := 9) (n := 9) rfl (fun q => b2 (Or.inl q)) (Int32.not_lt.mp (fun q => b2 (Or.inr q)))
        obtain ⟨e1, e2⟩ := or_ok o ho p (by omega)
        rw [e1]
        obtain ⟨wo1, lg1, se1, st1, tn1, wt1, S1, _, _, _, _, ea1, a1, b1, c1, _, _, _, r1, r2, _, _, r5⟩ := terms_both hn (show B < 2 ^ 30 by omega) hN ht (o := o) (q := k) ho hk tb ct hv im tm xs xo xt itm ea ms mo mt'
        obtain ⟨wo2, lg2, se2, st2, tn2, wt2, S2, tb2, ct2, hv2, im2, ea2, a2, b2', c2', tm2, itm2, t2, q1, q2, q3, q4, q5⟩ := terms_both hn (show B + 1 < 2 ^ 30 by omega) hN r5 (o := orp o p) (q := k) e2 hk tb ct hv im tm xs xo xt itm ea1 a1 b1 c1
        obtain ⟨wo3, lg3, se3, st3, tn3, wt3, S3, tb3, ct3, hv3, im3, ea3, a3, b3', c3', tm3, itm3, t3, s1, s2, s3, s4, s5⟩ := terms_both hn (show B < 2 ^ 30 by omega) hN ht (o := o) (q := k) ho hk tb2 ct2 hv2 im2 tm2 (sv (sm t2 7)) (sv (sm (fun k => k * t2 k) 7)) (sv (sm (fun k => k * k * t2 k) 7)) itm2 ea ms mo mt'
        have E := s1.symm.trans r1
        simp only [Option.some.injEq, Prod.mk.injEq] at E
        obtain ⟨_, rfl, rfl, rfl, rfl, rfl, rfl, rfl, _, _⟩ := E
        have E2 := s2.symm.trans r2
        simp only [Option.some.injEq, Prod.mk.injEq] at E2
        obtain ⟨rfl, rfl, rfl, rfl⟩ := E2
        rw [r1, bE10, r2, bE4, q1, bE10, q2, bE4, q3, bE9]
        unfold f_X9_alone_b72
        rw [s3, told_much]
        simp only [bE1, bE9]
        obtain ⟨u0, _, u⟩ := q4
        obtain ⟨v0, _, v⟩ := s4
        rcases u with ⟨rfl, _, _, rfl, _, _⟩ | ⟨rfl, rfl, _, _, _⟩
        · rw [if_pos rfl]
          rcases v with ⟨rfl, _, _, rfl, _, _⟩ | ⟨rfl, rfl, _, _, _⟩
          · rw [if_pos rfl]
            rcases part_sv (a := sm t2 7) (b := sm t3 7) (sm_pos v0) p4 with ⟨y1, y2, r, y3, y4⟩ | ⟨y1, y2⟩
            · rw [if_neg (fun z => lt_sv.mp z y2), if_pos (ge_sv.mpr y1), y3, y4, bE1, bE1]
              exact ⟨_, _, _, _, _, _, _, _, _, _, _, _, _, _, _, _, _, _, _, _, _, _, _, rfl, rfl, q5⟩
            · rw [y2, bE1]
              by_cases z1 : sm t3 7 < 2 ^ 63
              · have z2 : ¬ sm t2 7 < 2 ^ 63 := fun z => y1 ⟨z, z1⟩
                rw [if_neg (fun z => lt_sv.mp z z1), if_neg (fun z => z2 (ge_sv.mp z))]
                exact ⟨_, _, _, _, _, _, _, _, _, _, _, _, _, _, _, _, _, _, _, _, _, _, _, rfl, rfl, q5⟩
              · rw [if_pos (lt_sv.mpr z1)]
                exact ⟨_, _, _, _, _, _, _, _, _, _, _, _, _, _, _, _, _, _, _, _, _, _, _, rfl, rfl, q5⟩
          · rw [if_neg (show ¬ (1 : Int32) = 0 by decide), part_b, bE1]
            exact ⟨_, _, _, _, _, _, _, _, _, _, _, _, _, _, _, _, _, _, _, _, _, _, _, rfl, rfl, q5⟩
        · rw [if_neg (show ¬ (1 : Int32) = 0 by decide), part_a, bE1, if_neg (show ¬ 0 ≤ lg_cmp (-1) 0 by decide), ite_self, ite_self]
          exact ⟨_, _, _, _, _, _, _, _, _, _, _, _, _, _, _, _, _, _, _, _, _, _, _, rfl, rfl, q5⟩
theorem nI_and {a b : Nat} (ha : a < 2 ^ 32) (hb : b < 2 ^ 32) : nI a &&& nI b = nI (a &&& b) := by
  apply Int32.toBitVec_inj.mp
  rw [Int32.toBitVec_and]
  show BitVec.ofNat 32 a &&& BitVec.ofNat 32 b = BitVec.ofNat 32 (a &&& b)
  apply BitVec.eq_of_toNat_eq
  rw [BitVec.toNat_and, BitVec.toNat_ofNat, BitVec.toNat_ofNat, BitVec.toNat_ofNat, Nat.mod_eq_of_lt ha, Nat.mod_eq_of_lt hb, Nat.mod_eq_of_lt (Nat.and_lt_two_pow _ hb)]
theorem and_set (x : Int32) {s : Nat} (hs : s < 4096) : ∃ z, z < 4096 ∧ x &&& nI s = nI z := by
  obtain ⟨n, hn, rfl⟩ := wb_of32 x
  exact ⟨n &&& s, Nat.lt_of_le_of_lt Nat.and_le_right hs, nI_and hn (by omega)⟩
theorem has_and (x : Int32) {s v : Nat} (hs : s < 4096) (hv : v < 32) : f_X9_has (x &&& nI s).toInt64 (nI v) = some (if ib x v = true ∧ s / 2 ^ v % 2 = 1 then 1 else 0) := by
  obtain ⟨z, hz, e⟩ := and_set x hs
  rw [e, q_hasI (by omega) (by omega)]
  have h := ib_and x (nI s) v
  rw [e, ib_nI z hv, ib_nI s hv] at h
  by_cases c : ib x v = true ∧ s / 2 ^ v % 2 = 1
  · rw [if_pos c]
    rw [c.1, decide_eq_true c.2, Bool.and_true, decide_eq_true_eq] at h
    rw [h]
    rfl
  · rw [if_neg c]
    have h2 : ¬ z / 2 ^ v % 2 = 1 := by
      intro q
      rw [decide_eq_true q] at h
      have h := h.symm
      rw [Bool.and_eq_true, decide_eq_true_eq] at h
      exact c h
    rw [show z / 2 ^ v % 2 = 0 by omega]
    rfl
theorem lq_step_le {E : Nat → Nat → Int32} {p rest : Nat} {F : Nat → Nat} (j : Nat) : lq E p rest F j ≤ lq E p rest F (j + 1) := by
  show _ ≤ (if _ then _ else _)
  split
  · exact Nat.le_max_left _ _
  · exact Nat.le_refl _
theorem lq_mono {E : Nat → Nat → Int32} {p rest : Nat} {F : Nat → Nat} : ∀ d j, lq E p rest F j ≤ lq E p rest F (j + d) := by
  intro d
  induction d with
  | zero => exact fun j => Nat.le_refl _
  | succ d ih => exact fun j => Nat.le_trans (ih j) (lq_step_le (j + d))
theorem lt_pow12 {P r : Nat} (hP : P ≤ 12) (h : r < 2 ^ P) : r < 4096 := Nat.lt_of_lt_of_le h (Nat.pow_le_pow_right (n := 2) (by decide) hP)
theorem En_nn {kd fg lo hi jn nr : Nat → Int32} {la : Nat → Int64} {P L T : Nat} (hn : NetI kd fg lo hi jn nr la P L T) {p q : Nat} (hp : p < 12) (hq : q < 12) : ib (nrs lo hi (nI p) L) q = true ↔ ¬ En kd fg lo hi T L p q < 0 := by
  have hL := hn.2.1
  rw [nrs_lnk hp hq hL hn.e12]
  unfold En
  obtain ⟨j, hj, e⟩ := lnk_form lo hi (nI p) (nI q) L
  rw [e]
  by_cases h : j = 0
  · subst h
    rw [if_pos (show nI 0 = 0 from rfl)]
    exact ⟨fun q => absurd rfl q, fun q => absurd (by decide) q⟩
  · obtain ⟨i, rfl⟩ : ∃ i, j = i + 1 := ⟨j - 1, by omega⟩
    rw [if_neg (nI_s0 i (by omega)), nI_pred, nI_clamp (by omega)]
    obtain ⟨w, hw, ew⟩ := wV_nn hn (i := i) (by omega)
    rw [ew]
    exact ⟨fun _ => nI_pos (by omega), fun _ => nI_s0 i (by omega)⟩
def MostOk (E : Nat → Nat → Int32) (lo hi : Nat → Int32) (P L n : Nat) : Prop := ∀ s, s < 2 ^ P → popc s 12 < n → f_X9_mostOf n (nI P) (nI L) lo hi (nI s) = some (nI (Lg E s))
theorem most_loop {kd fg lo hi jn nr : Nat → Int32} {la : Nat → Int64} {P L T : Nat} (hn : NetI kd fg lo hi jn nr la P L T) (p1 : Int32) {n p rest : Nat} (ih : MostOk (En kd fg lo hi T L) lo hi P L n) (hr : rest < 2 ^ P) (hp : p < 12) (hc : popc rest 12 < n) : ∀ (m q : Nat), p < q → q ≤ P → P - q < m → f_X9_mostOf_b80 (f_X9_mostOf n) (nI P) (nI L) lo hi p1 m (nI rest) (nI (lq (En kd fg lo hi T L) p rest (Lg (En kd fg lo hi T L)) q)) (nrs lo hi (nI p) L &&& nI rest) (nI ((popc rest 12 + 1) / 2)) (nI q) = some (nI (lq (En kd fg lo hi T L) p rest (Lg (En kd fg lo hi T L)) 12)) := by
  have hP := hn.1
  have hr2 := lt_pow12 hP hr
  have hpop := pop_le rest hr2
  have half : ∀ j, j ≤ 12 → lq (En kd fg lo hi T L) p rest (Lg (En kd fg lo hi T L)) j ≤ (popc rest 12 + 1) / 2 := lq_half hr2 (fun t ht => Lg_half _ t (by omega))
  intro m
  induction m with
  | zero => intro q _ _ h; omega
  | succ m ihm =>
    intro q hq hqP hm
    show f_X9_mostOf_s80 (f_X9_mostOf n) (nI P) (nI L) lo hi p1 (f_X9_mostOf_b80 (f_X9_mostOf n) (nI P) (nI L) lo hi p1 m) (nI rest) _ _ _ (nI q) = _
    unfold f_X9_mostOf_s80
    have hh := half q (by omega)
    by_cases h : P ≤ q
    · have e : q = P := by omega
      subst e
      rw [if_pos (nI_le (Nat.le_refl q) (by omega)), lq_top hr 12 hP]
    · rw [if_neg (nI_ge (by omega) (by omega))]
      by_cases hb : (popc rest 12 + 1) / 2 ≤ lq (En kd fg lo hi T L) p rest (Lg (En kd fg lo hi T L)) q
      · rw [if_pos (nI_le hb (by omega))]
        have m1 := lq_mono (E := En kd fg lo hi T L) (p := p) (rest := rest) (F := Lg (En kd fg lo hi T L)) (12 - q) q
        rw [show q + (12 - q) = 12 by omega] at m1
        have := half 12 (by omega)
        rw [show lq (En kd fg lo hi T L) p rest (Lg (En kd fg lo hi T L)) q = lq (En kd fg lo hi T L) p rest (Lg (En kd fg lo hi T L)) 12 by omega]
      · rw [if_neg (nI_ge (by omega) (by omega)), has_and _ hr2 (by omega), bE1, nmE, nI_1]
        have es : lq (En kd fg lo hi T L) p rest (Lg (En kd fg lo hi T L)) (q + 1) = if p < q ∧ rest / 2 ^ q % 2 = 1 ∧ ¬ En kd fg lo hi T L p q < 0 then max (lq (En kd fg lo hi T L) p rest (Lg (En kd fg lo hi T L)) q) (Lg (En kd fg lo hi T L) (rest - 2 ^ q) + 1) else lq (En kd fg lo hi T L) p rest (Lg (En kd fg lo hi T L)) q := rfl
        have go := ihm (q + 1) (by omega) (by omega) (by omega)
        by_cases c : ib (nrs lo hi (nI p) L) q = true ∧ rest / 2 ^ q % 2 = 1
        · rw [if_pos c, if_neg (show ¬ (1 : Int32) = 0 by decide)]
          rw [if_pos ⟨hq, c.2, (En_nn hn hp (by omega)).mp c.1⟩] at es
          have hcl : nI rest &&& ((1 <<< (nI q &&& 31)) ^^^ (-1)) = nI (rest - 2 ^ q) := by
            rcases bit_clear rest hr2 q (by omega) with z | z
            · omega
            · exact z
          have hpc : popc (rest - 2 ^ q) 12 + 1 = popc rest 12 := by
            rcases pop_clear rest hr2 q (by omega) with z | z
            · omega
            · exact z
          have hsub : rest - 2 ^ q ≤ rest := Nat.sub_le _ _
          have hl := Lg_half (En kd fg lo hi T L) (rest - 2 ^ q) (Nat.lt_of_le_of_lt hsub hr2)
          rw [hcl, ih (rest - 2 ^ q) (Nat.lt_of_le_of_lt hsub hr) (by omega), bE1, nmE, show (1 : Int32) = nI 1 from rfl, nI_add]
          by_cases z : 1 + Lg (En kd fg lo hi T L) (rest - 2 ^ q) ≤ lq (En kd fg lo hi T L) p rest (Lg (En kd fg lo hi T L)) q
          · rw [if_pos (nI_le z (by omega))]
            rw [es, Nat.max_eq_left (by omega)] at go
            exact go
          · rw [if_neg (nI_ge (by omega) (by omega))]
            rw [es, Nat.max_eq_right (by omega), Nat.add_comm] at go
            exact go
        · rw [if_neg c, if_pos rfl]
          rw [if_neg (fun z => c ⟨(En_nn hn hp (by omega)).mpr z.2.2, z.2.1⟩)] at es
          rw [es] at go
          exact go
theorem most_find {P s : Nat} (rc : Int32 → Int32 → (Nat → Int32) → (Nat → Int32) → Int32 → Option Int32) (L : Int32) (lo hi : Nat → Int32) (hP : P ≤ 12) (hs : s < 2 ^ P) (h0 : s ≠ 0) : ∀ (m i : Nat), i ≤ low s → low s - i < m → f_X9_mostOf_b2 rc (nI P) L lo hi (nI s) m (nI i) = f_X9_mostOf_b25 rc (nI P) L lo hi (nI s) (nI (low s)) := by
  have hs2 := lt_pow12 hP hs
  obtain ⟨l1, l2, l3, l4⟩ := (low_ok s hs2).resolve_left h0
  have hlP : low s < P := by
    rcases Nat.lt_or_ge (low s) P with z | z
    · exact z
    · have := Nat.pow_le_pow_right (n := 2) (by decide) z
      omega
  intro m
  induction m with
  | zero => intro i _ h; omega
  | succ m ih =>
    intro i hi' hm
    show f_X9_mostOf_s2 rc (nI P) L lo hi (nI s) (f_X9_mostOf_b2 rc (nI P) L lo hi (nI s) m) (nI i) = _
    unfold f_X9_mostOf_s2
    rw [if_neg (nI_ge (by omega) (by omega)), q_hasI (by omega) (by omega), bE1]
    by_cases h : i = low s
    · rw [h, l3, if_neg (show ¬ nI 1 = 0 by decide)]
    · rw [low_zero l4 (show i < low s by omega), if_pos (show nI 0 = 0 from rfl), nmE, nI_1]
      exact ih (i + 1) (by omega) (by omega)
theorem most_none {P : Nat} (rc : Int32 → Int32 → (Nat → Int32) → (Nat → Int32) → Int32 → Option Int32) (L : Int32) (lo hi : Nat → Int32) (hP : P ≤ 12) : ∀ (m i : Nat), i ≤ P → P - i < m → f_X9_mostOf_b2 rc (nI P) L lo hi (nI 0) m (nI i) = some 0 := by
  intro m
  induction m with
  | zero => intro i _ h; omega
  | succ m ih =>
    intro i hi' hm
    show f_X9_mostOf_s2 rc (nI P) L lo hi (nI 0) (f_X9_mostOf_b2 rc (nI P) L lo hi (nI 0) m) (nI i) = _
    unfold f_X9_mostOf_s2
    by_cases h : P ≤ i
    · have e : i = P := by omega
      subst e
      rw [if_pos (nI_le (Nat.le_refl i) (by omega))]
      unfold f_X9_mostOf_b25
      rw [if_pos rfl]
    · rw [if_neg (nI_ge (by omega) (by omega)), q_hasI (by omega) (by omega), bE1, Nat.zero_div, if_pos (show nI (0 % 2) = 0 from rfl), nmE, nI_1]
      exact ih (i + 1) (by omega) (by omega)
theorem nb_h2 : ∀ v, v < 13 → nI v / 2 + (nI v - nI v / 2 * 2) = nI ((v + 1) / 2) := by decide +kernel
theorem most_ok {kd fg lo hi jn nr : Nat → Int32} {la : Nat → Int64} {P L T : Nat} (hn : NetI kd fg lo hi jn nr la P L T) : ∀ n, MostOk (En kd fg lo hi T L) lo hi P L n := by
  have hP := hn.1
  have hL := hn.2.1
  intro n
  induction n with
  | zero => intro s _ h; omega
  | succ n ih =>
    intro s hs hc
    have hs2 := lt_pow12 hP hs
    show f_X9_mostOf_st (f_X9_mostOf n) (nI P) (nI L) lo hi (nI s) = _
    unfold f_X9_mostOf_st
    by_cases h0 : s = 0
    · subst h0
      have := most_none (f_X9_mostOf n) (nI L) lo hi hP 70 0 (by omega) (by omega)
      rw [nI_0] at this
      rw [nI_0, this, Lg_0]
      rfl
    · have e := most_find (f_X9_mostOf n) (nI L) lo hi hP hs h0 70 0 (by omega) (by have := (low_ok s hs2).resolve_left h0; omega)
      rw [nI_0] at e
      rw [e]
      obtain ⟨l1, l2, l3, l4⟩ := (low_ok s hs2).resolve_left h0
      have hp2 := Nat.two_pow_pos (low s)
      have hlP : low s < P := by
        rcases Nat.lt_or_ge (low s) P with z | z
        · exact z
        · have := Nat.pow_le_pow_right (n := 2) (by decide) z
          omega
      have hcl : nI s &&& ((1 <<< (nI (low s) &&& 31)) ^^^ (-1)) = nI (s - 2 ^ low s) := by
        rcases bit_clear s hs2 (low s) l1 with z | z
        · omega
        · exact z
      have hpl := pop_low hs2 h0
      have hr2 : s - 2 ^ low s < 4096 := by omega
      have hpp := pop_le _ hr2
      unfold f_X9_mostOf_b25
      rw [if_neg (nI_ne (by omega) (by omega) (by omega)), nmE, hcl, ih (s - 2 ^ low s) (by omega) (by omega), bE1, q_nearOf hL, bE1, nmE, many_all _ hr2, bE1, bE1]
      simp only [ne20, if_false]
      rw [nmE, nb_h2 _ (by omega), nmE, show (0 : Int32) ^^^ (-1) = -1 by decide, Int32.and_neg_one, nI_1]
      have st := lq_start (En kd fg lo hi T L) (low s) (s - 2 ^ low s) (Lg (En kd fg lo hi T L)) (low s + 1) (Nat.le_refl _)
      have go := most_loop hn (nI s) ih (rest := s - 2 ^ low s) (p := low s) (by omega) (by omega) (by omega) 70 (low s + 1) (by omega) (by omega) (by omega)
      rw [st] at go
      rw [go, Lg_s _ hs2 h0]
theorem d7 : ∀ a, a < 64 → ∀ b, b < 64 → nI (7 * (64 * a + b)) / 7 = nI (64 * a + b) := by decide +kernel
theorem s_most {kd fg lo hi jn nr : Nat → Int32} {la : Nat → Int64} {P L T : Nat} (hn : NetI kd fg lo hi jn nr la P L T) {N B : Nat} (hB : B < 2 ^ 30) (hN : N < 2 ^ 30) {wo : Nat → Int64} {lg se st tn wt : Nat → Int32} {S ag tu : Int32} (ht : TabI (En kd fg lo hi T L) (Eo lo hi L) P N B wo lg se st tn wt S ag tu) (p1 : Int32) :
    ∃ (r : Int32) (wo' : Nat → Int64) (lg' se' st' tn' wt' : Nat → Int32) (S' ag' tu' : Int32), f_X8_most kd fg jn nr (nI P) (nI T) (nI N) wo lg se st tn wt S ag tu p1 = some (r, wo', lg', se', st', tn', wt', S', ag', tu') ∧ f_X9_most (nI P) (nI L) lo hi p1 = some r ∧ TabI (En kd fg lo hi T L) (Eo lo hi L) P N (B + 1) wo' lg' se' st' tn' wt' S' ag' tu' := by
  have hP := hn.1
  unfold f_X8_most f_X9_most
  rw [q_isNoSet, q_isOut, bE1, bE1]
  simp only [h10, h01]
  by_cases b1 : p1 < 0 ∨ 4095 < p1
  · rw [if_neg (fun q => q b1), if_pos b1]
    exact ⟨_, _, _, _, _, _, _, _, _, _, rfl, rfl, ht.more (by omega)⟩
  · rw [if_pos b1, if_neg b1]
    obtain ⟨o, ho, rfl⟩ := nI_of2 (M := 4095) (n := 4095) rfl (fun q => b1 (Or.inl q)) (Int32.not_lt.mp (fun q => b1 (Or.inr q)))
    obtain ⟨wo', lg', se', st', tn', wt', S', _, _, _, _, r1, _, r3, r4, _, _, r7⟩ := row_both hn hB hN ht (o := o) (by omega) (fun _ => 0) (fun _ => 0) (fun _ => 0) 0
    have fs : fr P o < 4096 := fr_lt hP (by omega)
    have f2 := (fr_ok o (by omega) P (by omega)).2
    have fp := pl_lt fs
    have e7 : nI (7 * pl (fr P o)) / 7 = nI (pl (fr P o)) := all4096 (P := fun s => nI (7 * s) / 7 = nI s) d7 _ (by omega)
    have hpp := pop_le _ fs
    rw [r1, bE10, if_neg (show ¬ (7 : Int32) = 0 by decide), e7, g515 fp, c515 fp, r4, q_free hP (by omega), bE1, most_ok hn 16 _ f2 (by omega), bE1]
    exact ⟨_, _, _, _, _, _, _, _, _, _, rfl, rfl, r7⟩
