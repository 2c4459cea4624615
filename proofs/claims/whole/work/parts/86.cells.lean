/-! pure rows: cell, writes, same -/
theorem q_cell {i b z : Nat} (hi : i < 4) (hb : b < z) (hz : z ≤ 60) {si : Nat → Int32} {sl : Nat → Int64} {sf : Nat → UInt32} {sd : Nat → UInt64} {sn : Nat → Int32} {so : Int32} {xo xz : Nat → Int32} {xw : Nat → Int64} {xf : Nat → UInt32} {xd : Nat → UInt64} (h : ShAt (nI i) si sl sf sd sn so (nI z) xo xz xw xf xd) (hm : ¬ so = -1) (v : Int64) : f_X9_cell xo xz xw xf xd (nI i) (nI b) v = if so = 0 then (if v = v.toInt32.toInt64 then some (1, vp_updL xw (60 * i + b) v, vf_upd xf (60 * i + b) (FP.l2f v), vf_upd xd (60 * i + b) (FP.l2d v)) else some (-5, xw, xf, xd)) else some (1, vp_updL xw (60 * i + b) v, vf_upd xf (60 * i + b) (FP.l2f v), vf_upd xd (60 * i + b) (FP.l2d v)) := by
  have b60 : b < 60 := by omega
  obtain ⟨e1, e2, e3, _, hh⟩ := h i hi rfl
  unfold f_X9_cell f_X9_cell_b35 f_X9_isInt
  rw [q_wrong hi hz e2 (by rw [e1]; exact e3), e1, if_neg hm, if_neg (show ¬ (nI b < 0 ∨ nI z ≤ nI b) from fun q => q.elim (nI_pos (by omega)) (nI_ge hb (by omega))), bE1, if_pos rfl, q_puts hi b60]
  simp only [c4 hi, g4 hi, e1, bs3, lg_cmp_eq]
  by_cases z0 : so = 0
  · rw [if_pos z0, if_pos z0]
    by_cases z1 : v = v.toInt32.toInt64
    · rw [if_pos z1, if_pos z1, bE1, if_neg (by decide)]
    · rw [if_neg z1, if_neg z1, bE1, if_pos rfl]
  · rw [if_neg z0, if_neg z0]
theorem put_both {i b z : Nat} (hi : i < 4) (hb : b < z) (hz : z ≤ 60) {si : Nat → Int32} {sl : Nat → Int64} {sf : Nat → UInt32} {sd : Nat → UInt64} {sn : Nat → Int32} {so : Int32} {xo xz : Nat → Int32} {xw : Nat → Int64} {xf : Nat → UInt32} {xd : Nat → UInt64} (h : ShAt (nI i) si sl sf sd sn so (nI z) xo xz xw xf xd) (hm : ¬ so = -1) (v : Int64) :
    (∃ (si' : Nat → Int32) (sl' : Nat → Int64) (sf' : Nat → UInt32) (sd' : Nat → UInt64) (sn' : Nat → Int32) (xw' : Nat → Int64) (xf' : Nat → UInt32) (xd' : Nat → UInt64), f_X3_put si sl sf sd sn so (nI b) v = some (1, si', sl', sf', sd', sn') ∧ f_X9_cell xo xz xw xf xd (nI i) (nI b) v = some (1, xw', xf', xd') ∧ ShOut (nI i) si sl sf sd sn so (nI z) xo xz xw xf xd si' sl' sf' sd' sn' so (nI z) xo xz xw' xf' xd') ∨ (f_X3_put si sl sf sd sn so (nI b) v = some (0, si, sl, sf, sd, sn) ∧ f_X9_cell xo xz xw xf xd (nI i) (nI b) v = some (-5, xw, xf, xd)) := by
  have b60 : b < 60 := by omega
  have C9 := q_cell hi hb hz h hm v
  obtain ⟨e1, e2, e3, _, hh⟩ := h i hi rfl
  rcases e3 with e | e | e | e | e
  · exact absurd e hm
  · subst e
    by_cases z1 : v = v.toInt32.toInt64
    · refine Or.inl ⟨upd si b v.toInt32, sl, sf, sd, upd sn b (cz v), _, _, _, ?_, C9.trans ((if_pos rfl).trans (if_pos z1)), ShOut.one hi b60 h (fun q hq => ⟨pk_un hq, rfl, rfl, rfl, pk_un hq⟩) ⟨fun _ => ?_, fun e => absurd e (by decide), fun e => absurd e (by decide), fun e => absurd e (by decide), ok_l2f v, ok_l2d v⟩⟩
      · unfold f_X3_put f_X3_put_b17
        rw [if_pos rfl, if_pos ((lg_cmp_eq _ _).mpr z1), q_cz, bE1, gN b60 (by decide), nmE, if_pos rfl, gN b60 (by decide), nmE, c60 b60]
      · rw [pk_us]
        exact z1
    · refine Or.inr ⟨?_, C9.trans ((if_pos rfl).trans (if_neg z1))⟩
      unfold f_X3_put
      rw [if_pos rfl, if_neg (fun q => z1 ((lg_cmp_eq _ _).mp q))]
  · subst e
    refine Or.inl ⟨si, vp_updL sl b v, sf, sd, upd sn b (cz v), _, _, _, ?_, C9.trans (if_neg (by decide)), ShOut.one hi b60 h (fun q hq => ⟨rfl, pk_uLn hq, rfl, rfl, pk_un hq⟩) ⟨fun e => absurd e (by decide), fun _ => pk_uLs.symm, fun e => absurd e (by decide), fun e => absurd e (by decide), ok_l2f v, ok_l2d v⟩⟩
    unfold f_X3_put f_X3_put_b17
    rw [if_neg (show ¬ (1 : Int32) = 0 by decide), q_cz, bE1, gN b60 (by decide), nmE, if_neg (show ¬ (1 : Int32) = 0 by decide), if_pos rfl, gN b60 (by decide), nmE, c60 b60]
  · subst e
    refine Or.inl ⟨si, sl, vf_upd sf b (FP.l2f v), sd, upd sn b (cz v), _, _, _, ?_, C9.trans (if_neg (by decide)), ShOut.one hi b60 h (fun q hq => ⟨rfl, rfl, vf_n hq, rfl, pk_un hq⟩) ⟨fun e => absurd e (by decide), fun e => absurd e (by decide), fun _ => ⟨vf_s.symm, by rw [vf_s, pk_us]; exact sgF_put v⟩, fun e => absurd e (by decide), ok_l2f v, ok_l2d v⟩⟩
    unfold f_X3_put f_X3_put_b17
    rw [if_neg (show ¬ (2 : Int32) = 0 by decide), q_cz, bE1, gN b60 (by decide), nmE, if_neg (show ¬ (2 : Int32) = 0 by decide), if_neg (show ¬ (2 : Int32) = 1 by decide), if_pos rfl, gN b60 (by decide), nmE, c60 b60]
  · subst e
    refine Or.inl ⟨si, sl, sf, vf_upd sd b (FP.l2d v), upd sn b (cz v), _, _, _, ?_, C9.trans (if_neg (by decide)), ShOut.one hi b60 h (fun q hq => ⟨rfl, rfl, rfl, vf_n hq, pk_un hq⟩) ⟨fun e => absurd e (by decide), fun e => absurd e (by decide), fun e => absurd e (by decide), fun _ => ⟨vf_s.symm, by rw [vf_s, pk_us]; exact sgD_put v⟩, ok_l2f v, ok_l2d v⟩⟩
    unfold f_X3_put f_X3_put_b17
    rw [if_neg (show ¬ (3 : Int32) = 0 by decide), q_cz, bE1, gN b60 (by decide), nmE, if_neg (show ¬ (3 : Int32) = 0 by decide), if_neg (show ¬ (3 : Int32) = 1 by decide), if_neg (show ¬ (3 : Int32) = 2 by decide), gN b60 (by decide), nmE, c60 b60]
theorem wrong_bad {xo xz : Nat → Int32} {p1 p2 : Int32} (b1 : p1 < 0 ∨ 3 < p1) : f_X9_wrong xo xz p1 p2 = some (-2) := by
  unfold f_X9_wrong
  rw [q_isSheet, bE1]
  simp only [h01]
  exact if_pos b1
theorem cell_bad {i z : Nat} (hi : i < 4) (hz : z ≤ 60) {si : Nat → Int32} {sl : Nat → Int64} {sf : Nat → UInt32} {sd : Nat → UInt64} {sn : Nat → Int32} {so : Int32} {xo xz : Nat → Int32} {xw : Nat → Int64} {xf : Nat → UInt32} {xd : Nat → UInt64} (h : ShAt (nI i) si sl sf sd sn so (nI z) xo xz xw xf xd) (hm : ¬ so = -1) {b : Int32} (hb : b < 0 ∨ nI z ≤ b) (v : Int64) : f_X9_cell xo xz xw xf xd (nI i) b v = some (-12, xw, xf, xd) := by
  obtain ⟨e1, e2, e3, _, hh⟩ := h i hi rfl
  unfold f_X9_cell
  rw [q_wrong hi hz e2 (by rw [e1]; exact e3), e1, if_neg hm, if_pos hb, bE1]
  exact if_neg (by decide)
theorem s_cell (p1 p2 : Int32) (v : Int64) {si : Nat → Int32} {sl : Nat → Int64} {sf : Nat → UInt32} {sd : Nat → UInt64} {sn : Nat → Int32} {so sz : Int32} {xo xz : Nat → Int32} {xw : Nat → Int64} {xf : Nat → UInt32} {xd : Nat → UInt64} (h : ShAt p1 si sl sf sd sn so sz xo xz xw xf xd) :
    ∃ (r : Int32) (si' : Nat → Int32) (sl' : Nat → Int64) (sf' : Nat → UInt32) (sd' : Nat → UInt64) (sn' : Nat → Int32) (xw' : Nat → Int64) (xf' : Nat → UInt32) (xd' : Nat → UInt64), f_X8_cell si sl sf sd sn so sz p1 p2 v = some (r, si', sl', sf', sd', sn') ∧ f_X9_cell xo xz xw xf xd p1 p2 v = some (r, xw', xf', xd') ∧ ShOut p1 si sl sf sd sn so sz xo xz xw xf xd si' sl' sf' sd' sn' so sz xo xz xw' xf' xd' := by
  have E8 : f_X8_cell si sl sf sd sn so sz p1 p2 v = f_X8_cell si sl sf sd sn so sz p1 p2 v := rfl
  conv at E8 => rhs; unfold f_X8_cell; simp only [q_isNoSheet, q_fault, bs1, h10]
  by_cases b1 : p1 < 0 ∨ 3 < p1
  · refine ⟨-2, si, sl, sf, sd, sn, xw, xf, xd, E8.trans (if_neg (fun q => q b1)), ?_, ShOut.refl h⟩
    unfold f_X9_cell
    rw [wrong_bad b1, bE1]
    exact if_neg (by decide)
  rw [if_pos b1] at E8
  obtain ⟨i, hi, rfl⟩ := of3 b1
  obtain ⟨e1, e2, e3, ⟨z, hz, rfl⟩, hh⟩ := h i hi rfl
  simp only [c4 hi, g4 hi] at E8
  by_cases m : so = -1
  · rw [if_pos m, if_neg (by decide)] at E8
    refine ⟨-11, si, sl, sf, sd, sn, xw, xf, xd, E8, ?_, ShOut.refl h⟩
    unfold f_X9_cell
    rw [q_wrong hi hz e2 (by rw [e1]; exact e3), e1, if_pos m, bE1]
    exact if_neg (by decide)
  rw [if_neg m] at E8
  rcases ix_cases p2 (n := z) (by omega) with ⟨q, -⟩ | ⟨b, hb, rfl, q⟩
  · rw [if_pos q, if_neg (by decide)] at E8
    exact ⟨-12, si, sl, sf, sd, sn, xw, xf, xd, E8, cell_bad hi hz h m q v, ShOut.refl h⟩
  · rw [if_neg q, if_pos rfl] at E8
    rcases put_both hi hb hz h m v with ⟨si', sl', sf', sd', sn', xw', xf', xd', q1, q2, q3⟩ | ⟨q1, q2⟩
    · rw [q1, bE6, if_neg (by decide)] at E8
      exact ⟨1, si', sl', sf', sd', sn', xw', xf', xd', E8, q2, q3⟩
    · rw [q1, bE6, if_pos rfl] at E8
      exact ⟨-5, si, sl, sf, sd, sn, xw, xf, xd, E8, q2, ShOut.refl h⟩
theorem writes_both (kd fg jn nr lo hi : Nat → Int32) (P0 T0 N0 L0 p2 : Int32) {wo ct r : Nat → Int64} (lg se st tn wt : Nat → Int32) (S ag tu : Int32) (tb : Nat → Int64) (hv : Nat → Int32) (im : Int32) {s : Nat} (hs : s < 515) (hr : ∀ k, k < 7 → wo (7 * s + k) = r k) (hc : ∀ k, k < 7 → ct k = r k) {d : Nat} (hd : d ≤ 12) {i z : Nat} (hi4 : i < 4) (hz : z ≤ 60) {so : Int32} (hm : ¬ so = -1) {xo xz : Nat → Int32} : ∀ (m m' j : Nat) (si : Nat → Int32) (sl : Nat → Int64) (sf : Nat → UInt32) (sd : Nat → UInt64) (sn : Nat → Int32) (xw : Nat → Int64) (xf : Nat → UInt32) (xd : Nat → UInt64), j ≤ d + 1 → d + 1 - j < m → d + 1 - j < m' → ShAt (nI i) si sl sf sd sn so (nI z) xo xz xw xf xd →
    ∃ (rr : Int32) (si' : Nat → Int32) (sl' : Nat → Int64) (sf' : Nat → UInt32) (sd' : Nat → UInt64) (sn' : Nat → Int32) (xw' : Nat → Int64) (xf' : Nat → UInt32) (xd' : Nat → UInt64), f_X8_writes_b30 kd fg jn nr P0 T0 N0 so (nI z) (nI i) p2 m wo lg se st tn wt S ag tu si sl sf sd sn (nI (7 * s)) (nI d) (nI j) = some (rr, wo, lg, se, st, tn, wt, S, ag, tu, si', sl', sf', sd', sn') ∧ f_X9_writes_b56 P0 L0 T0 kd fg lo hi xo xz (nI i) p2 m' tb ct hv im xw xf xd (nI d) (nI j) = some (rr, tb, ct, hv, im, xw', xf', xd') ∧ ShOut (nI i) si sl sf sd sn so (nI z) xo xz xw xf xd si' sl' sf' sd' sn' so (nI z) xo xz xw' xf' xd' := by
  intro m
  induction m with
  | zero =>
    intro m' j si sl sf sd sn xw xf xd _ h
    omega
  | succ m ih =>
    intro m' j si sl sf sd sn xw xf xd hj hm1 hm2 hS
    obtain ⟨m', rfl⟩ : ∃ z, m' = z + 1 := ⟨m' - 1, by omega⟩
    show ∃ (rr : Int32) (si' : Nat → Int32) (sl' : Nat → Int64) (sf' : Nat → UInt32) (sd' : Nat → UInt64) (sn' : Nat → Int32) (xw' : Nat → Int64) (xf' : Nat → UInt32) (xd' : Nat → UInt64), f_X8_writes_s30 kd fg jn nr P0 T0 N0 so (nI z) (nI i) p2 (f_X8_writes_b30 kd fg jn nr P0 T0 N0 so (nI z) (nI i) p2 m) wo lg se st tn wt S ag tu si sl sf sd sn (nI (7 * s)) (nI d) (nI j) = some (rr, wo, lg, se, st, tn, wt, S, ag, tu, si', sl', sf', sd', sn') ∧ f_X9_writes_s56 P0 L0 T0 kd fg lo hi xo xz (nI i) p2 (f_X9_writes_b56 P0 L0 T0 kd fg lo hi xo xz (nI i) p2 m') tb ct hv im xw xf xd (nI d) (nI j) = some (rr, tb, ct, hv, im, xw', xf', xd') ∧ _
    unfold f_X8_writes_s30 f_X9_writes_s56
    by_cases h : d < j
    · rw [if_pos (nI_lt h (by omega)), if_pos (nI_lt h (by omega))]
      exact ⟨_, si, sl, sf, sd, sn, xw, xf, xd, rfl, rfl, ShOut.refl hS⟩
    · obtain ⟨n1, n2⟩ := q_number hs hr hc hd (i := j) (by omega)
      rw [if_neg (nI_nlt (by omega) (by omega)), if_neg (nI_nlt (by omega) (by omega)), gN hi4 (by decide), q_hasPlace3, bE1, n2, bE1]
      by_cases hp : j < z
      · have nn : ¬ (nI j < 0 ∨ nI z ≤ nI j) := fun q => q.elim (nI_pos (by omega)) (nI_ge hp (by omega))
        rw [if_neg nn, if_neg (show ¬ (1 : Int32) = 0 by decide), gN hi4 (by decide), n1, bE1]
        rcases put_both hi4 hp hz hS hm (cf r d j) with ⟨si', sl', sf', sd', sn', xw', xf', xd', q1, q2, q3⟩ | ⟨q1, q2⟩
        · rw [q1, bE6, q2, bE4, if_neg (show ¬ (1 : Int32) = 0 by decide), if_pos rfl, nmE, nmE, nI_1]
          obtain ⟨rr, si2, sl2, sf2, sd2, sn2, xw2, xf2, xd2, w1, w2, w3⟩ := ih m' (j + 1) si' sl' sf' sd' sn' xw' xf' xd' (by omega) (by omega) (by omega) q3.1
          exact ⟨rr, si2, sl2, sf2, sd2, sn2, xw2, xf2, xd2, w1, w2, q3.trans w3⟩
        · rw [q1, bE6, q2, bE4, if_pos rfl, if_neg (show ¬ (-5 : Int32) = 1 by decide)]
          exact ⟨_, si, sl, sf, sd, sn, xw, xf, xd, rfl, rfl, ShOut.refl hS⟩
      · have yy : nI j < 0 ∨ nI z ≤ nI j := Or.inr (nI_le (by omega) (by omega))
        rw [if_pos yy, if_pos rfl, cell_bad hi4 hz hS hm yy, bE4, if_neg (show ¬ (-12 : Int32) = 1 by decide)]
        exact ⟨_, si, sl, sf, sd, sn, xw, xf, xd, rfl, rfl, ShOut.refl hS⟩
theorem s_writes {kd fg lo hi jn nr : Nat → Int32} {la : Nat → Int64} {P L T : Nat} (hn : NetI kd fg lo hi jn nr la P L T) {N B : Nat} (hB : B < 2 ^ 29) (hN : N < 2 ^ 30) {wo : Nat → Int64} {lg se st tn wt : Nat → Int32} {S ag tu : Int32} (ht : TabI (En kd fg lo hi T L) (Eo lo hi L) P N B wo lg se st tn wt S ag tu) (tb ct : Nat → Int64) (hv : Nat → Int32) (im : Int32) (p1 p2 : Int32) {si : Nat → Int32} {sl : Nat → Int64} {sf : Nat → UInt32} {sd : Nat → UInt64} {sn : Nat → Int32} {so sz : Int32} {xo xz : Nat → Int32} {xw : Nat → Int64} {xf : Nat → UInt32} {xd : Nat → UInt64} (h : ShAt p1 si sl sf sd sn so sz xo xz xw xf xd) :
    ∃ (r : Int32) (wo' : Nat → Int64) (lg' se' st' tn' wt' : Nat → Int32) (S' ag' tu' : Int32) (si' : Nat → Int32) (sl' : Nat → Int64) (sf' : Nat → UInt32) (sd' : Nat → UInt64) (sn' : Nat → Int32) (tb' ct' : Nat → Int64) (hv' : Nat → Int32) (im' : Int32) (xw' : Nat → Int64) (xf' : Nat → UInt32) (xd' : Nat → UInt64), f_X8_writes kd fg jn nr (nI P) (nI T) (nI N) wo lg se st tn wt S ag tu si sl sf sd sn so sz p1 p2 = some (r, wo', lg', se', st', tn', wt', S', ag', tu', si', sl', sf', sd', sn') ∧ f_X9_writes (nI P) (nI L) (nI T) kd fg lo hi tb ct hv im xo xz xw xf xd p1 p2 = some (r, tb', ct', hv', im', xw', xf', xd') ∧ TabI (En kd fg lo hi T L) (Eo lo hi L) P N (B + 2) wo' lg' se' st' tn' wt' S' ag' tu' ∧ ShOut p1 si sl sf sd sn so sz xo xz xw xf xd si' sl' sf' sd' sn' so sz xo xz xw' xf' xd' := by
  have hP := hn.1
  unfold f_X8_writes f_X9_writes f_X8_faultOf
  rw [q_isNoSheet, q_isNoSet, q_isSheet, q_isOut, bE1, bE1, bE1, bE1]
  simp only [h10, h01]
  by_cases b1 : p1 < 0 ∨ 3 < p1
  · rw [if_neg (fun q => q b1), if_pos b1, bE10, if_neg (show ¬ (-2 : Int32) = 0 by decide)]
    exact ⟨_, _, _, _, _, _, _, _, _, _, _, _, _, _, _, _, _, _, _, _, _, _, rfl, rfl, ht.more (by omega), ShOut.refl h⟩
  · rw [if_pos b1, if_neg b1]
    by_cases b2 : p2 < 0 ∨ 4095 < p2
    · rw [if_neg (fun q => q b2), if_pos b2, bE10, if_neg (show ¬ (-2 : Int32) = 0 by decide)]
      exact ⟨_, _, _, _, _, _, _, _, _, _, _, _, _, _, _, _, _, _, _, _, _, _, rfl, rfl, ht.more (by omega), ShOut.refl h⟩
    · rw [if_pos b2, if_neg b2]
      obtain ⟨i, hi4, rfl⟩ := of3 b1
      obtain ⟨o, ho, rfl⟩ := nI_of2 (M := 4095) (n := 4095) rfl (fun q => b2 (Or.inl q)) (Int32.not_lt.mp (fun q => b2 (Or.inr q)))
      obtain ⟨e1, e2, e3, ⟨z, hz, rfl⟩, hh⟩ := h i hi4 rfl
      rw [gN hi4 (by decide), gN hi4 (by decide), c4 hi4, e1, q_isMissing3, bE1]
      by_cases hm : so = -1
      · rw [if_pos hm, if_neg (show ¬ (1 : Int32) = 0 by decide), if_neg (fun q => (sort0 e3).mp q hm), bE10, if_neg (show ¬ (-11 : Int32) = 0 by decide)]
        exact ⟨_, _, _, _, _, _, _, _, _, _, _, _, _, _, _, _, _, _, _, _, _, _, rfl, rfl, ht.more (by omega), ShOut.refl h⟩
      · rw [if_neg hm, if_pos rfl, if_pos ((sort0 e3).mpr hm)]
        obtain ⟨wo', lg', se', st', tn', wt', S', tb', ct', hv', im', r1, r2, r3, r4, r5, r6, r7⟩ := row_both hn (show B < 2 ^ 30 by omega) hN ht (o := o) (by omega) tb ct hv im
        obtain ⟨wo2, lg2, se2, st2, tn2, wt2, S2, _, _, _, _, q1, _, q3, _, _, _, q7⟩ := row_both hn (show B + 1 < 2 ^ 30 by omega) hN r7 (o := o) (by omega) tb ct hv im
        have fs : fr P o < 4096 := fr_lt hP (by omega)
        rw [r1, bE10, r2, bE4, q_isMuch (pl_lt fs) r3 r6, bE1]
        rcases much01 r6 with e | e
        · subst e
          rw [if_pos rfl, if_pos rfl, bE10, if_pos rfl, q1, bE10, q_degree hP (by omega), bE1, q_free hP (by omega), bE1, many_all _ fs, bE1]
          obtain ⟨rr, si', sl', sf', sd', sn', xw', xf', xd', w1, w2, w3⟩ := writes_both kd fg jn nr lo hi (nI P) (nI T) (nI N) (nI L) (nI o) lg2 se2 st2 tn2 wt2 S2 (nI N) 0 tb' hv' 0 (pl_lt fs) q3 r5 (pop_le _ fs) hi4 hz hm 70 70 0 si sl sf sd sn xw xf xd (by omega) (by have := pop_le _ fs; omega) (by have := pop_le _ fs; omega) h
          rw [nI_0] at w1 w2
          rw [w1, w2]
          exact ⟨_, _, _, _, _, _, _, _, _, _, _, _, _, _, _, _, _, _, _, _, _, _, rfl, rfl, q7, w3⟩
        · subst e
          rw [if_neg (show ¬ (1 : Int32) = 0 by decide), if_neg (show ¬ (1 : Int32) = 0 by decide), bE10, if_neg (show ¬ (-5 : Int32) = 0 by decide)]
          exact ⟨_, _, _, _, _, _, _, _, _, _, _, _, _, _, _, _, _, _, _, _, _, _, rfl, rfl, r7.more (by omega), ShOut.refl h⟩
theorem two01 (c : Prop) [Decidable c] : ∃ b : Int32, (if c then some (1 : Int32) else some 0) = some b ∧ (if c then some (1 : Int32) else some 0) = some b := by
  by_cases h : c
  · rw [if_pos h]
    exact ⟨1, rfl, rfl⟩
  · rw [if_neg h]
    exact ⟨0, rfl, rfl⟩
theorem holds_both {i j : Nat} (hi : i < 4) (hj : j < 60) {si : Nat → Int32} {sl : Nat → Int64} {sf : Nat → UInt32} {sd : Nat → UInt64} {sn : Nat → Int32} {so : Int32} {xo : Nat → Int32} {xw : Nat → Int64} {xf : Nat → UInt32} {xd : Nat → UInt64} (hso : sortI so) (hm : ¬ so = -1) (e1 : xo i = so) (hc : CellI so (si j) (sl j) (sf j) (sd j) (sn j) (xw (60 * i + j)) (xf (60 * i + j)) (xd (60 * i + j))) (v : Int64) : ∃ b : Int32, f_X3_holds si sl sf sd so (nI j) v = some b ∧ f_X9_isLike xo xw xf xd (nI i) (nI j) v = some b := by
  have h240 : 60 * i + j < 240 := by omega
  unfold f_X3_holds f_X9_isLike
  simp only [mul60, nm, c4 hi, g4 hi, c60 hj, g60 hj, c240 h240, g240 h240, e1]
  rcases hso with e | e | e | e | e
  · exact absurd e hm
  · subst e
    rw [if_pos rfl, if_neg (show ¬ (0 : Int32) = 2 by decide), if_neg (show ¬ (0 : Int32) = 3 by decide), hc.1 rfl]
    exact two01 _
  · subst e
    rw [if_neg (show ¬ (1 : Int32) = 0 by decide), if_pos rfl, if_neg (show ¬ (1 : Int32) = 2 by decide), if_neg (show ¬ (1 : Int32) = 3 by decide), hc.2.1 rfl]
    exact two01 _
  · subst e
    rw [if_neg (show ¬ (2 : Int32) = 0 by decide), if_neg (show ¬ (2 : Int32) = 1 by decide), if_pos rfl, if_pos rfl, (hc.2.2.1 rfl).1]
    exact two01 _
  · subst e
    rw [if_neg (show ¬ (3 : Int32) = 0 by decide), if_neg (show ¬ (3 : Int32) = 1 by decide), if_neg (show ¬ (3 : Int32) = 2 by decide), if_neg (show ¬ (3 : Int32) = 2 by decide), if_pos rfl, (hc.2.2.2.1 rfl).1]
    exact two01 _
theorem same_both (kd fg jn nr lo hi : Nat → Int32) (P0 T0 N0 L0 p2 : Int32) {wo ct r : Nat → Int64} (lg se st tn wt : Nat → Int32) (S ag tu : Int32) (tb : Nat → Int64) (hv : Nat → Int32) (im : Int32) {s : Nat} (hs : s < 515) (hr : ∀ k, k < 7 → wo (7 * s + k) = r k) (hc : ∀ k, k < 7 → ct k = r k) {i z : Nat} (hi4 : i < 4) (hz : z ≤ 60) {si : Nat → Int32} {sl : Nat → Int64} {sf : Nat → UInt32} {sd : Nat → UInt64} {sn : Nat → Int32} {so : Int32} {xo xz : Nat → Int32} {xw : Nat → Int64} {xf : Nat → UInt32} {xd : Nat → UInt64} (hm : ¬ so = -1) (hS : ShAt (nI i) si sl sf sd sn so (nI z) xo xz xw xf xd) : ∀ (m m' j : Nat), j ≤ z → z - j < m → z - j < m' →
    ∃ rr : Int32, f_X8_same_b23 kd fg jn nr P0 T0 N0 si sl sf sd so (nI z) (nI i) p2 m wo lg se st tn wt S ag tu (nI (7 * s)) (nI j) = some (rr, wo, lg, se, st, tn, wt, S, ag, tu) ∧ f_X9_same_b46 P0 L0 T0 kd fg lo hi xo xz xw xf xd (nI i) p2 m' tb ct hv im (nI j) = some (rr, tb, ct, hv, im) := by
  obtain ⟨e1, e2, e3, _, hh⟩ := hS i hi4 rfl
  intro m
  induction m with
  | zero =>
    intro m' j _ h
    omega
  | succ m ih =>
    intro m' j hj hm1 hm2
    obtain ⟨m', rfl⟩ : ∃ z, m' = z + 1 := ⟨m' - 1, by omega⟩
    show ∃ rr : Int32, f_X8_same_s23 kd fg jn nr P0 T0 N0 si sl sf sd so (nI z) (nI i) p2 (f_X8_same_b23 kd fg jn nr P0 T0 N0 si sl sf sd so (nI z) (nI i) p2 m) wo lg se st tn wt S ag tu (nI (7 * s)) (nI j) = some (rr, wo, lg, se, st, tn, wt, S, ag, tu) ∧ f_X9_same_s46 P0 L0 T0 kd fg lo hi xo xz xw xf xd (nI i) p2 (f_X9_same_b46 P0 L0 T0 kd fg lo hi xo xz xw xf xd (nI i) p2 m') tb ct hv im (nI j) = some (rr, tb, ct, hv, im)
    unfold f_X8_same_s23 f_X9_same_s46
    rw [gN hi4 (by decide), gN hi4 (by decide), gN hi4 (by decide), c4 hi4, e2]
    by_cases h : z ≤ j
    · rw [if_pos (nI_le h (by omega)), if_pos (nI_le h (by omega))]
      exact ⟨_, rfl, rfl⟩
    · rw [if_neg (nI_ge (a := j) (b := z) (by omega) (by omega)), if_neg (nI_ge (a := j) (b := z) (by omega) (by omega))]
      have go : ∀ v : Int64, ∃ rr : Int32, bn1 (f_X3_holds si sl sf sd so (nI j) v) (fun (r5 : Int32) => if r5 = 0 then (some (nI j, wo, lg, se, st, tn, wt, S, ag, tu)) else (nm (nI j + 1) (fun v7 : Int32 => f_X8_same_b23 kd fg jn nr P0 T0 N0 si sl sf sd so (nI z) (nI i) p2 m wo lg se st tn wt S ag tu (nI (7 * s)) v7))) = some (rr, wo, lg, se, st, tn, wt, S, ag, tu) ∧ bn1 (f_X9_isLike xo xw xf xd (nI i) (nI j) v) (fun (r4 : Int32) => if r4 = 0 then (some (nI j, tb, ct, hv, im)) else (nm (nI j + 1) (fun v6 : Int32 => f_X9_same_b46 P0 L0 T0 kd fg lo hi xo xz xw xf xd (nI i) p2 m' tb ct hv im v6))) = some (rr, tb, ct, hv, im) := by
        intro v
        obtain ⟨b, q1, q2⟩ := holds_both hi4 (show j < 60 by omega) e3 hm e1 (hh j (by omega)) v
        rw [q1, q2, bE1, bE1]
        by_cases hb : b = 0
        · rw [if_pos hb, if_pos hb]
          exact ⟨_, rfl, rfl⟩
        · rw [if_neg hb, if_neg hb, nmE, nmE, nI_1]
          exact ih m' (j + 1) (by omega) (by omega) (by omega)
      by_cases h7 : 7 ≤ j
      · rw [if_pos (show (7 : Int32) ≤ nI j from nI_le (a := 7) (b := j) h7 (by omega)), if_pos (show (7 : Int32) ≤ nI j from nI_le (a := 7) (b := j) h7 (by omega))]
        exact go 0
      · rw [if_neg (show ¬ (7 : Int32) ≤ nI j from nI_ge (a := j) (b := 7) (by omega) (by decide)), if_neg (show ¬ (7 : Int32) ≤ nI j from nI_ge (a := j) (b := 7) (by omega) (by decide)), nI_add, g3605 (by omega), c3605 (by omega), g7 (by omega), c7 (by omega), hr j (by omega), hc j (by omega)]
        exact go (r j)
theorem s_same {kd fg lo hi jn nr : Nat → Int32} {la : Nat → Int64} {P L T : Nat} (hn : NetI kd fg lo hi jn nr la P L T) {N B : Nat} (hB : B < 2 ^ 29) (hN : N < 2 ^ 30) {wo : Nat → Int64} {lg se st tn wt : Nat → Int32} {S ag tu : Int32} (ht : TabI (En kd fg lo hi T L) (Eo lo hi L) P N B wo lg se st tn wt S ag tu) (tb ct : Nat → Int64) (hv : Nat → Int32) (im : Int32) (p1 p2 : Int32) {si : Nat → Int32} {sl : Nat → Int64} {sf : Nat → UInt32} {sd : Nat → UInt64} {sn : Nat → Int32} {so sz : Int32} {xo xz : Nat → Int32} {xw : Nat → Int64} {xf : Nat → UInt32} {xd : Nat → UInt64} (h : ShAt p1 si sl sf sd sn so sz xo xz xw xf xd) :
    ∃ (r : Int32) (wo' : Nat → Int64) (lg' se' st' tn' wt' : Nat → Int32) (S' ag' tu' : Int32) (tb' ct' : Nat → Int64) (hv' : Nat → Int32) (im' : Int32), f_X8_same kd fg jn nr (nI P) (nI T) (nI N) wo lg se st tn wt S ag tu si sl sf sd so sz p1 p2 = some (r, wo', lg', se', st', tn', wt', S', ag', tu') ∧ f_X9_same (nI P) (nI L) (nI T) kd fg lo hi tb ct hv im xo xz xw xf xd p1 p2 = some (r, tb', ct', hv', im') ∧ TabI (En kd fg lo hi T L) (Eo lo hi L) P N (B + 2) wo' lg' se' st' tn' wt' S' ag' tu' := by
  have hP := hn.1
  unfold f_X8_same f_X9_same f_X8_faultOf
  rw [q_isNoSheet, q_isNoSet, q_isSheet, q_isOut, bE1, bE1, bE1, bE1]
  simp only [h10, h01]
  by_cases b1 : p1 < 0 ∨ 3 < p1
  · rw [if_neg (fun q => q b1), if_pos b1, bE10, if_neg (show ¬ (-2 : Int32) = 0 by decide)]
    exact ⟨_, _, _, _, _, _, _, _, _, _, _, _, _, _, rfl, rfl, ht.more (by omega)⟩
  · rw [if_pos b1, if_neg b1]
    by_cases b2 : p2 < 0 ∨ 4095 < p2
    · rw [if_neg (fun q => q b2), if_pos b2, bE10, if_neg (show ¬ (-2 : Int32) = 0 by decide)]
      exact ⟨_, _, _, _, _, _, _, _, _, _, _, _, _, _, rfl, rfl, ht.more (by omega)⟩
    · rw [if_pos b2, if_neg b2]
      obtain ⟨i, hi4, rfl⟩ := of3 b1
      obtain ⟨o, ho, rfl⟩ := nI_of2 (M := 4095) (n := 4095) rfl (fun q => b2 (Or.inl q)) (Int32.not_lt.mp (fun q => b2 (Or.inr q)))
      obtain ⟨e1, e2, e3, ⟨z, hz, rfl⟩, hh⟩ := h i hi4 rfl
      rw [gN hi4 (by decide), gN hi4 (by decide), c4 hi4, e1, q_isMissing3, bE1]
      by_cases hm : so = -1
      · rw [if_pos hm, if_neg (show ¬ (1 : Int32) = 0 by decide), if_neg (fun q => (sort0 e3).mp q hm), bE10, if_neg (show ¬ (-11 : Int32) = 0 by decide)]
        exact ⟨_, _, _, _, _, _, _, _, _, _, _, _, _, _, rfl, rfl, ht.more (by omega)⟩
      · rw [if_neg hm, if_pos rfl, if_pos ((sort0 e3).mpr hm)]
        obtain ⟨wo', lg', se', st', tn', wt', S', tb', ct', hv', im', r1, r2, r3, r4, r5, r6, r7⟩ := row_both hn (show B < 2 ^ 30 by omega) hN ht (o := o) (by omega) tb ct hv im
        obtain ⟨wo2, lg2, se2, st2, tn2, wt2, S2, _, _, _, _, q1, _, q3, _, _, _, q7⟩ := row_both hn (show B + 1 < 2 ^ 30 by omega) hN r7 (o := o) (by omega) tb ct hv im
        have fs : fr P o < 4096 := fr_lt hP (by omega)
        rw [r1, bE10, r2, bE4, q_isMuch (pl_lt fs) r3 r6, bE1]
        rcases much01 r6 with e | e
        · subst e
          rw [if_pos rfl, if_pos rfl, bE10, if_pos rfl, q1, bE10]
          obtain ⟨rr, w1, w2⟩ := same_both kd fg jn nr lo hi (nI P) (nI T) (nI N) (nI L) (nI o) lg2 se2 st2 tn2 wt2 S2 (nI N) 0 tb' hv' 0 (pl_lt fs) q3 r5 hi4 hz hm h 70 70 0 (by omega) (by omega) (by omega)
          rw [nI_0] at w1 w2
          rw [w1, w2]
          exact ⟨_, _, _, _, _, _, _, _, _, _, _, _, _, _, rfl, rfl, q7⟩
        · subst e
          rw [if_neg (show ¬ (1 : Int32) = 0 by decide), if_neg (show ¬ (1 : Int32) = 0 by decide), bE10, if_neg (show ¬ (-5 : Int32) = 0 by decide)]
          exact ⟨_, _, _, _, _, _, _, _, _, _, _, _, _, _, rfl, rfl, r7.more (by omega)⟩
