/-! pure rows: share -/
theorem x7_some (a b : Int64) : ∃ r, f_X7_times a b = some r := by
  unfold f_X7_times
  simp only [lg_cmp_eq]
  split
  · exact ⟨_, rfl⟩
  · split
    · split
      · exact ⟨_, rfl⟩
      · split <;> exact ⟨_, rfl⟩
    · exact ⟨_, rfl⟩
theorem x7_b1 {a : Int64} : f_X7_times a (-1) = some (-1) := by
  unfold f_X7_times
  rw [if_neg (show ¬ 0 ≤ lg_cmp (-1) 0 by decide), ite_self]
theorem x7_p1 (b : Int64) : f_X7_plus (-1) b = some (-1) := by
  unfold f_X7_plus
  rw [if_pos neg_cmp]
theorem hW_lt {kd fg lo hi jn nr : Nat → Int32} {la : Nat → Int64} {P L T : Nat} (hn : NetI kd fg lo hi jn nr la P L T) (q : Nat) (hq : q ≤ 9) (sp : Nat → Int32) (i o : Nat) : hW kd fg lo hi T L q sp i o < 2 ^ 31 := by
  unfold hW
  obtain ⟨w, hw, e⟩ := wB_nn hn (sp i).toNatClampNeg (sp o).toNatClampNeg
  rw [e, nI_clamp (by omega)]
  have : q * w ≤ 9 * 20007 := Nat.mul_le_mul hq hw
  omega
theorem hW_eq {kd fg lo hi jn nr : Nat → Int32} {la : Nat → Int64} {P L T : Nat} (hn : NetI kd fg lo hi jn nr la P L T) {q : Nat} (hq : q ≤ 9) {sp : Nat → Int32} {i o a b : Nat} (ha : a < 12) (hb : b < 12) (e1 : sp i = nI a) (e2 : sp o = nI b) : ∃ w : Nat, w ≤ 20007 ∧ wB kd fg lo hi T L a b = nI w ∧ hW kd fg lo hi T L q sp i o = q * w := by
  obtain ⟨w, hw, e⟩ := wB_nn hn a b
  refine ⟨w, hw, e, ?_⟩
  unfold hW
  rw [e1, e2, nI_clamp (by omega), nI_clamp (by omega), e, nI_clamp (by omega)]
def ShOk (kd fg lo hi : Nat → Int32) (T L q : Nat) (sp pa de np no : Nat → Int32) (z n : Nat) : Prop := ∀ (k d : Nat) (ab bl : Nat → Int64), k < z → d ≤ 11 → de k = nI d → 11 < n + d → ∃ ab' bl', f_X9_findsShare n (nI L) (nI T) kd fg lo hi np no (nI z) ab bl (nI k) (nI q) = some (ab', bl') ∧ rep (Sv pa (hW kd fg lo hi T L q sp) z k) (ab' k) (bl' k) ∧ ∀ j, j < k → ab' j = ab j ∧ bl' j = bl j
theorem sh_loop {kd fg lo hi jn nr : Nat → Int32} {la : Nat → Int64} {P L T : Nat} (hn : NetI kd fg lo hi jn nr la P L T) {sp pa br de en np no : Nat → Int32} {z : Nat} (hz : z ≤ 300) (hs : Seg sp pa br de en 0 z) (hag : ∀ j, j < z → sp j = np j ∧ pa j = no j) (hwh : ∀ o g, 0 < o → o < z → g < 300 → pa o = nI g → ¬ lnk lo hi (sp o) (sp g) L = 0) {q : Nat} (hq : q ≤ 9) {n : Nat} (ih : ShOk kd fg lo hi T L q sp pa de np no z n) {k d : Nat} (hk : k < z) (hd : de k = nI d) (hd2 : d ≤ 11) (hnd : 11 < n + 1 + d) : ∀ (m o : Nat) (ab bl : Nat → Int64), k < o → o ≤ z → z - o < m → rep (foldv pa (hW kd fg lo hi T L q sp) k (Sv pa (hW kd fg lo hi T L q sp) z) o) (ab k) (bl k) → ∃ ab' bl', f_X9_findsShare_b18 (f_X9_findsShare n) (nI L) (nI T) kd fg lo hi np no (nI z) (nI k) (nI q) m ab bl (nI o) = some (ab', bl') ∧ rep (Sv pa (hW kd fg lo hi T L q sp) z k) (ab' k) (bl' k) ∧ ∀ j, j < k → ab' j = ab j ∧ bl' j = bl j := by
  have hP := hn.1
  intro m
  induction m with
  | zero => intro o ab bl _ _ h; omega
  | succ m ihm =>
    intro o ab bl hko hoz hm hr
    show ∃ ab' bl', f_X9_findsShare_s18 (f_X9_findsShare n) (nI L) (nI T) kd fg lo hi np no (nI z) (nI k) (nI q) (f_X9_findsShare_b18 (f_X9_findsShare n) (nI L) (nI T) kd fg lo hi np no (nI z) (nI k) (nI q) m) ab bl (nI o) = _ ∧ _
    unfold f_X9_findsShare_s18
    by_cases e : z ≤ o
    · have e : o = z := by omega
      subst e
      rw [if_pos (nI_le (Nat.le_refl o) (by omega))]
      rw [← Sv_eq hk] at hr
      exact ⟨ab, bl, rfl, hr, fun j _ => ⟨rfl, rfl⟩⟩
    · have h3 : o < 300 := by omega
      have k3 : k < 300 := by omega
      obtain ⟨eo1, eo2⟩ := hag o (by omega)
      obtain ⟨ek1, ek2⟩ := hag k hk
      rw [if_neg (nI_ge (by omega) (by omega))]
      simp only [c300 h3, g300c h3, c300 k3, g300c k3, nmE, nI_1]
      rw [← eo2, ← eo1, ← ek1]
      have es := foldv_succ pa (hW kd fg lo hi T L q sp) k (Sv pa (hW kd fg lo hi T L q sp) z) o
      by_cases c : pa o = nI k
      · rw [if_pos c]
        rw [if_pos ⟨hko, c⟩] at es
        obtain ⟨g, d', g1, g2, g3, g4, g5, g6⟩ := hs.2.1 o (by omega) (by omega)
        have egk : g = k := by
          rw [c] at g3
          exact (nI_inj (by omega) (by omega) g3).symm
        subst egk
        have edd : d = d' := by
          rw [hd] at g5
          exact nI_inj (by omega) (by omega) g5
        subst edd
        obtain ⟨ab1, bl1, r1, r2, r3⟩ := ih o (d + 1) ab bl (by omega) (by omega) g6 (by omega)
        obtain ⟨a, ha, ea⟩ := (hs.2.2.1 g (by omega) hk).1
        obtain ⟨b, hb, eb⟩ := (hs.2.2.1 o (by omega) (by omega)).1
        have hl : ¬ lnk lo hi (nI a) (nI b) L = 0 := by
          have := hwh o g (by omega) (by omega) (by omega) c
          rw [ea, eb, lnk_symm] at this
          exact this
        obtain ⟨r, l1, l2⟩ := w_ref hn hl
        obtain ⟨w, hw, ew, eh⟩ := hW_eq hn hq (sp := sp) (i := g) (o := o) ha hb ea eb
        have hqw : q * w ≤ 9 * 20007 := Nat.mul_le_mul hq hw
        obtain ⟨ab2, bl2, s1, s2, s3⟩ := q_adds (ab := ab1) (bl := bl1) (k := g) (o := o) (w := q * w) k3 h3 (by omega) (x := foldv pa (hW kd fg lo hi T L q sp) g (Sv pa (hW kd fg lo hi T L q sp) z) o) (y := (Sv pa (hW kd fg lo hi T L q sp) z) o) (by rw [(r3 g hko).1, (r3 g hko).2]; exact hr) r2 (foldv_ok (Sv_ok _ _ _) o) (Sv_ok _ _ _ _) (by omega)
        rw [r1, bE2, ea, eb, l1, bE1, l2, bE1, ew, nI_64 (by omega), nI_64 (by omega), lN_mul, s1, bE2]
        rw [← eh, ← es] at s2
        obtain ⟨ab3, bl3, t1, t2, t3⟩ := ihm (o + 1) ab2 bl2 (by omega) (by omega) (by omega) s2
        refine ⟨ab3, bl3, t1, t2, fun j hj => ?_⟩
        exact ⟨(t3 j hj).1.trans ((s3 j (by omega)).1.trans (r3 j (by omega)).1), (t3 j hj).2.trans ((s3 j (by omega)).2.trans (r3 j (by omega)).2)⟩
      · rw [if_neg c]
        rw [if_neg (fun z => c z.2)] at es
        rw [← es] at hr
        exact ihm (o + 1) ab bl (by omega) (by omega) (by omega) hr
theorem sh_ok {kd fg lo hi jn nr : Nat → Int32} {la : Nat → Int64} {P L T : Nat} (hn : NetI kd fg lo hi jn nr la P L T) {sp pa br de en np no : Nat → Int32} {z : Nat} (hz : z ≤ 300) (hs : Seg sp pa br de en 0 z) (hag : ∀ j, j < z → sp j = np j ∧ pa j = no j) (hwh : ∀ o g, 0 < o → o < z → g < 300 → pa o = nI g → ¬ lnk lo hi (sp o) (sp g) L = 0) {q : Nat} (hq : q ≤ 9) : ∀ n, ShOk kd fg lo hi T L q sp pa de np no z n := by
  intro n
  induction n with
  | zero => intro k d ab bl _ h1 _ h2; omega
  | succ n ih =>
    intro k d ab bl hk hd2 hd hnd
    have k3 : k < 300 := by omega
    show ∃ ab' bl', f_X9_findsShare_st (f_X9_findsShare n) (nI L) (nI T) kd fg lo hi np no (nI z) ab bl (nI k) (nI q) = _ ∧ _
    unfold f_X9_findsShare_st
    simp only [c300 k3, g300c k3, nmE, nI_1]
    obtain ⟨ab', bl', t1, t2, t3⟩ := sh_loop hn hz hs hag hwh hq ih hk hd hd2 hnd 310 (k + 1) (vp_updL ab k 1) (vp_updL bl k 1) (by omega) (by omega) (by omega) (by
      rw [foldv_first (k + 1) (Nat.le_refl _)]
      exact Or.inr ⟨1, 1, rfl, pk_uLs, pk_uLs⟩)
    exact ⟨ab', bl', t1, t2, fun j hj => ⟨(t3 j hj).1.trans (pk_uLn (by omega)), (t3 j hj).2.trans (pk_uLn (by omega))⟩⟩
def st2 (x : Option (Nat × Nat)) (A B : Int64) : Prop := (x = none ∧ A = -1 ∧ B = -1) ∨ ∃ a b, x = some (a, b) ∧ A = lN a ∧ B = lN b
theorem st2.rep {x : Option (Nat × Nat)} {A B : Int64} (h : st2 x A B) : rep x A B := by
  rcases h with ⟨h1, h2, _⟩ | h
  · exact Or.inl ⟨h1, h2⟩
  · exact Or.inr h
theorem weigh_loop {kd fg lo hi jn nr : Nat → Int32} {la : Nat → Int64} {P L T : Nat} (hn : NetI kd fg lo hi jn nr la P L T) {sp pa br de en : Nat → Int32} {z : Nat} (hz : z ≤ 300) (hs : Seg sp pa br de en 0 z) {q : Nat} (hq : q ≤ 9) {i e : Nat} (hiz : i < z) (k1 : i < e) (k2 : e ≤ z) (k5 : ∀ o, e ≤ o → o < z → ¬ pa o = nI i) (k6 : ∀ o, i < o → o < e → pa o = nI i → ∃ e' : Nat, en o = nI e' ∧ o < e' ∧ e' ≤ e ∧ (e' = e ∨ pa e' = nI i) ∧ ∀ u, o < u → u < e' → ¬ pa u = nI i) {ab bl : Nat → Int64} (hch : ∀ o, i < o → o < z → pa o = nI i → rep ((Sv pa (hW kd fg lo hi T L q sp) z) o) (ab o) (bl o)) : ∀ (m o : Nat) (x4 x6 : Int64), i < o → o ≤ e → (o = e ∨ pa o = nI i) → cn pa i (i + 1) z - cn pa i (i + 1) o < m → st2 (foldv pa (hW kd fg lo hi T L q sp) i (Sv pa (hW kd fg lo hi T L q sp) z) o) x4 x6 → ∃ X Y, f_X6_weigh_b14 kd fg jn (nI T) sp br en (nI z) (nI i) (nI q) m ab bl x4 x6 (nI o) (nI (cn pa i (i + 1) o)) = some (vp_updL ab i X, vp_updL bl i Y) ∧ st2 ((Sv pa (hW kd fg lo hi T L q sp) z) i) X Y := by
  have hP := hn.1
  have i3 : i < 300 := by omega
  obtain ⟨⟨ai, hai, eai⟩, hbr, hb12, _⟩ := hs.2.2.1 i (by omega) hiz
  have fin : ∀ o x4 x6, foldv pa (hW kd fg lo hi T L q sp) i (Sv pa (hW kd fg lo hi T L q sp) z) o = (Sv pa (hW kd fg lo hi T L q sp) z) i → st2 (foldv pa (hW kd fg lo hi T L q sp) i (Sv pa (hW kd fg lo hi T L q sp) z) o) x4 x6 → ∃ X Y, f_X6_weigh_b204 kd fg jn (nI T) sp br en (nI z) (nI i) (nI q) ab bl x4 x6 = some (vp_updL ab i X, vp_updL bl i Y) ∧ st2 ((Sv pa (hW kd fg lo hi T L q sp) z) i) X Y := by
    intro o x4 x6 h1 h2
    unfold f_X6_weigh_b204
    simp only [c300 i3, g300c i3, nmE]
    rw [h1] at h2
    exact ⟨x4, x6, rfl, h2⟩
  intro m
  induction m with
  | zero => intro o x4 x6 _ _ _ h; omega
  | succ m ihm =>
    intro o x4 x6 hio hoe hst hm hx
    show ∃ X Y, f_X6_weigh_s14 kd fg jn (nI T) sp br en (nI z) (nI i) (nI q) (f_X6_weigh_b14 kd fg jn (nI T) sp br en (nI z) (nI i) (nI q) m) ab bl x4 x6 (nI o) (nI (cn pa i (i + 1) o)) = _ ∧ _
    unfold f_X6_weigh_s14
    have hcle := cn_le pa i (i + 1) o
    by_cases eo : o = e
    · subst eo
      have ecn : cn pa i (i + 1) z = cn pa i (i + 1) o := by
        rw [cn_split (show i + 1 ≤ o by omega) z k2, cn_zero (a := o) z k5, Nat.add_zero]
      simp only [c300 i3, g300c i3]
      rw [hbr, ecn, if_pos (nI_le (Nat.le_refl _) (by omega))]
      exact fin o x4 x6 (by rw [Sv_eq hiz, foldv_skip z k2 k5]) hx
    · have hoz : o < z := by omega
      have o3 : o < 300 := by omega
      have c := hst.resolve_left eo
      obtain ⟨e', f1, f2, f3, f4, f5⟩ := k6 o hio (by omega) c
      have ecn1 : cn pa i (i + 1) (o + 1) = cn pa i (i + 1) o + 1 := by
        rw [cn_succ, if_pos ⟨by omega, c⟩]
      have ecn2 : cn pa i (i + 1) e' = cn pa i (i + 1) o + 1 := by
        rw [cn_split (show i + 1 ≤ o + 1 by omega) e' (by omega), ecn1, cn_zero (a := o + 1) e' (fun u u1 u2 => f5 u (by omega) u2), Nat.add_zero]
      have ecn3 := cn_split (pa := pa) (i := i) (show i + 1 ≤ e' by omega) z (by omega)
      have es : foldv pa (hW kd fg lo hi T L q sp) i (Sv pa (hW kd fg lo hi T L q sp) z) e' = addv (hW kd fg lo hi T L q sp i o) (foldv pa (hW kd fg lo hi T L q sp) i (Sv pa (hW kd fg lo hi T L q sp) z) o) ((Sv pa (hW kd fg lo hi T L q sp) z) o) := by
        rw [foldv_skip (a := o + 1) e' (by omega) (fun u u1 u2 => f5 u (by omega) u2), foldv_succ, if_pos ⟨hio, c⟩]
      have next : ∀ y4 y6, st2 (foldv pa (hW kd fg lo hi T L q sp) i (Sv pa (hW kd fg lo hi T L q sp) z) e') y4 y6 → ∃ X Y, f_X6_weigh_b187 kd fg jn (nI T) sp br en (nI z) (nI i) (nI q) (f_X6_weigh_b14 kd fg jn (nI T) sp br en (nI z) (nI i) (nI q) m) ab bl y4 (nI o) (nI (cn pa i (i + 1) o)) y6 = some (vp_updL ab i X, vp_updL bl i Y) ∧ st2 ((Sv pa (hW kd fg lo hi T L q sp) z) i) X Y := by
        intro y4 y6 hy
        unfold f_X6_weigh_b187
        simp only [c300 o3, g300c o3, nmE, nI_1]
        rw [f1, ← ecn2]
        exact ihm e' y4 y6 (by omega) f3 f4 (by omega) hy
      have much : ∀ r1 r2, foldv pa (hW kd fg lo hi T L q sp) i (Sv pa (hW kd fg lo hi T L q sp) z) e' = none → ∃ X Y, f_X6_weigh_b128 kd fg jn (nI T) sp br en (nI z) (nI i) (nI q) (f_X6_weigh_b14 kd fg jn (nI T) sp br en (nI z) (nI i) (nI q) m) ab bl (nI o) (nI (cn pa i (i + 1) o)) r1 r2 = some (vp_updL ab i X, vp_updL bl i Y) ∧ st2 ((Sv pa (hW kd fg lo hi T L q sp) z) i) X Y := by
        intro r1 r2 hy
        unfold f_X6_weigh_b128 f_X6_weigh_b133 f_X6_weigh_b151 f_X6_weigh_b169
        rw [if_neg (show ¬ (1 : Int32) = 0 by decide), if_neg (show ¬ (1 : Int32) = 0 by decide), if_neg (show ¬ (1 : Int32) = 0 by decide)]
        exact next (-1) (-1) (Or.inl ⟨hy, rfl, rfl⟩)
      simp only [c300 i3, g300c i3, c300 o3, g300c o3, nmE]
      rw [hbr, if_neg (nI_ge (show cn pa i (i + 1) o < cn pa i (i + 1) z by omega) (by omega)), if_neg (nI_ge hoz (by omega))]
      rcases hx with ⟨hx, rfl, rfl⟩ | ⟨a, b, hx, rfl, rfl⟩
      · rw [if_pos (show lg_cmp (-1) 0 ≤ 0 by decide)]
        exact fin o (-1) (-1) (by rw [hx, Sv_eq hiz, foldv_none hx z (by omega)]) (Or.inl ⟨hx, rfl, rfl⟩)
      · obtain ⟨a1, a2, b1, b2⟩ := foldv_ok (Sv_ok pa (hW kd fg lo hi T L q sp) z) o a b hx
        obtain ⟨ao, hao, eao⟩ := (hs.2.2.1 o (by omega) hoz).1
        obtain ⟨w, hw, ew, eh⟩ := hW_eq hn hq (sp := sp) (i := i) (o := o) hai hao eai eao
        have hqw : q * w ≤ 9 * 20007 := Nat.mul_le_mul hq hw
        rw [if_neg (fun y => by
          rw [lg_cmp_le, Int64.le_iff_toInt_le, lN_tI a2, l0] at y
          omega), eai, eao, q_weightBetween hn hai hao, bE1, ew, pk_mul, nI_64 (by omega)]
        rw [hx, eh] at es
        rcases hch o hio hoz c with ⟨y, y1⟩ | ⟨d, c', y, y1, y2⟩
        · obtain ⟨r27, z1⟩ := x7_some (lN (q * w)) (bl o)
          obtain ⟨r28, z2⟩ := x7_some r27 (lN b)
          rw [y1, x7_b1, bE1, z1, bE1, z2, bE1, x7_p1, bE1, x7_b1, bE1, if_pos (show lg_cmp (-1) 0 ≤ 0 by decide)]
          exact much _ _ (by rw [es, y, addv_none2])
        · obtain ⟨d1, d2, c1, c2⟩ := Sv_ok pa (hW kd fg lo hi T L q sp) z o d c' y
          have ea : addv (q * w) (some (a, b)) (some (d, c')) = if a * d + q * w * c' * b < 2 ^ 63 ∧ b * d < 2 ^ 63 then some ((a * d + q * w * c' * b) / Nat.gcd (a * d + q * w * c' * b) (b * d), (b * d) / Nat.gcd (a * d + q * w * c' * b) (b * d)) else none := rfl
          rw [y, ea] at es
          have m1 : 1 ≤ a * d := Nat.mul_pos a1 d1
          have m2 : 1 ≤ b * d := Nat.mul_pos b1 d1
          have e28 : (if q * w * c' < 2 ^ 63 ∧ b < 2 ^ 63 then sv (q * w * c' * b) else -1) = sv (q * w * c' * b) := by
            by_cases z : q * w * c' < 2 ^ 63
            · rw [if_pos ⟨z, b2⟩]
            · have : q * w * c' ≤ q * w * c' * b := Nat.le_mul_of_pos_right _ b1
              rw [if_neg (fun y => z y.1), sv_ge (by omega)]
          rw [y1, y2, ← sv_lt a2, ← sv_lt b2, ← sv_lt d2, ← sv_lt c2, ← sv_lt (show q * w < 2 ^ 63 by omega), x7_times, bE1, x7_times, bE1, if_pos (show a < 2 ^ 63 ∧ d < 2 ^ 63 from ⟨a2, d2⟩), if_pos (show q * w < 2 ^ 63 ∧ c' < 2 ^ 63 from ⟨by omega, c2⟩), x7_times, bE1, e28, plus_eq, q_plus, plV_sv, bE1, x7_times, bE1, if_pos (show b < 2 ^ 63 ∧ d < 2 ^ 63 from ⟨b2, d2⟩)]
          have m3 : 1 ≤ a * d + q * w * c' * b := Nat.le_trans m1 (Nat.le_add_right _ _)
          generalize a * d + q * w * c' * b = top at es m3 ⊢
          generalize b * d = f at es m2 ⊢
          by_cases z1 : top < 2 ^ 63
          · rw [if_neg (fun y => by
              rw [lg_cmp_le, sv_lt z1, Int64.le_iff_toInt_le, lN_tI z1, l0] at y
              omega)]
            by_cases z2 : f < 2 ^ 63
            · rw [if_pos (by
                rw [lg_cmp_gt, sv_lt z2, Int64.lt_iff_toInt_lt, lN_tI z2, l0]
                omega)]
              have hg : Nat.gcd top f < 2 ^ 63 := Nat.lt_of_le_of_lt (Nat.gcd_le_right _ m2) z2
              have g0 : 0 < Nat.gcd top f := Nat.gcd_pos_of_pos_right _ m2
              have gn : ¬ lN (Nat.gcd top f) = 0 := fun y => by have := (lN_0' hg).mp y; omega
              unfold f_X6_weigh_b133 f_X6_weigh_b151 f_X6_weigh_b169
              rw [sv_lt z1, sv_lt z2, (common_eq z1 z2 m2).1]
              simp only [bE1, if_true]
              rw [if_neg gn, if_neg gn, lN_div z1 hg, lN_div z2 hg]
              rw [if_pos ⟨z1, z2⟩] at es
              exact next _ _ (Or.inr ⟨_, _, es, rfl, rfl⟩)
            · rw [if_neg (fun y => by
                rw [sv_ge z2] at y
                exact absurd y (by decide))]
              rw [if_neg (fun y => z2 y.2)] at es
              exact much _ _ es
          · rw [if_pos (by rw [sv_ge z1]; decide)]
            rw [if_neg (fun y => z1 y.1)] at es
            exact much _ _ es
theorem q_weigh {kd fg lo hi jn nr : Nat → Int32} {la : Nat → Int64} {P L T : Nat} (hn : NetI kd fg lo hi jn nr la P L T) {sp pa br de en : Nat → Int32} {z : Nat} (hz : z ≤ 300) (hs : Seg sp pa br de en 0 z) {q : Nat} (hq : q ≤ 9) {i : Nat} (hiz : i < z) {ab bl : Nat → Int64} (hch : ∀ o, i < o → o < z → pa o = nI i → rep ((Sv pa (hW kd fg lo hi T L q sp) z) o) (ab o) (bl o)) : ∃ X Y, f_X6_weigh kd fg jn (nI T) sp br en ab bl (nI z) (nI i) (nI q) = some (vp_updL ab i X, vp_updL bl i Y) ∧ rep ((Sv pa (hW kd fg lo hi T L q sp) z) i) X Y := by
  obtain ⟨e, k1, k2, k3, k4, k5, k6⟩ := kids hz hs hiz
  obtain ⟨_, _, hb12, _⟩ := hs.2.2.1 i (by omega) hiz
  unfold f_X6_weigh
  rw [nmE, nI_1]
  have c0 : cn pa i (i + 1) (i + 1) = 0 := cn_zero (i + 1) (fun o o1 o2 => by omega)
  obtain ⟨X, Y, t1, t2⟩ := weigh_loop hn hz hs hq hiz k1 k2 k5 k6 hch 70 (i + 1) 1 1 (by omega) (by omega) k4 (by omega) (by
    rw [foldv_first (i + 1) (Nat.le_refl _)]
    exact Or.inr ⟨1, 1, rfl, rfl, rfl⟩)
  rw [c0, nI_0] at t1
  exact ⟨X, Y, t1, t2.rep⟩
theorem weighFrom_loop {kd fg lo hi jn nr : Nat → Int32} {la : Nat → Int64} {P L T : Nat} (hn : NetI kd fg lo hi jn nr la P L T) {sp pa br de en : Nat → Int32} {z : Nat} (hz : z ≤ 300) (hs : Seg sp pa br de en 0 z) {q : Nat} (hq : q ≤ 9) {k e : Nat} (hk : k < z) (he : en k = nI e) (he2 : e ≤ z) : ∀ (m y : Nat) (ab bl : Nat → Int64), k ≤ y → y ≤ e → y - k < m → (∀ j, y ≤ j → j < e → rep ((Sv pa (hW kd fg lo hi T L q sp) z) j) (ab j) (bl j)) → ∃ ab' bl', f_X6_weighFrom_b10 kd fg jn (nI T) sp br en (nI z) (nI k) (nI q) m ab bl (nI y - 1) = some (ab', bl') ∧ ∀ j, k ≤ j → j < e → rep ((Sv pa (hW kd fg lo hi T L q sp) z) j) (ab' j) (bl' j) := by
  intro m
  induction m with
  | zero => intro y ab bl _ _ h; omega
  | succ m ihm =>
    intro y ab bl hky hye hm hr
    show ∃ ab' bl', f_X6_weighFrom_s10 kd fg jn (nI T) sp br en (nI z) (nI k) (nI q) (f_X6_weighFrom_b10 kd fg jn (nI T) sp br en (nI z) (nI k) (nI q) m) ab bl (nI y - 1) = _ ∧ _
    unfold f_X6_weighFrom_s10
    by_cases c : y = k
    · subst c
      have : nI y - 1 < nI y := by
        have h2 := pk_sub_toInt (a := y) (b := 1) (by omega) (by decide)
        rw [Int32.lt_iff_toInt_lt, show (1 : Int32) = nI 1 from rfl, h2, nI_toInt (by omega)]
        omega
      rw [if_pos this]
      exact ⟨ab, bl, rfl, hr⟩
    · obtain ⟨i, rfl⟩ : ∃ i, y = i + 1 := ⟨y - 1, by omega⟩
      rw [nI_pred, if_neg (fun z => absurd ((nI_ltI (by omega) (by omega)).mp z) (by omega))]
      obtain ⟨X, Y, t1, t2⟩ := q_weigh hn hz hs hq (i := i) (by omega) (ab := ab) (bl := bl) (fun o o1 o2 o3 => hr o (by omega) (by
        apply Classical.byContradiction
        intro qq
        obtain ⟨_, _, _, e', e1, e2, e3, e4, e5⟩ := hs.2.2.1 k (by omega) hk
        rw [he] at e3
        have := nI_inj (by omega) (by omega) e3
        subst this
        obtain ⟨g, g1, g2, g3⟩ := e5 o (by omega) o2
        rw [o3] at g3
        have := nI_inj (by omega) (by omega) g3
        omega))
      rw [t1, bE2, nmE, ← Int32.sub_eq_add_neg]
      refine ihm i _ _ (by omega) (by omega) (by omega) (fun j j1 j2 => ?_)
      by_cases ej : j = i
      · subst ej
        rw [pk_uLs, pk_uLs]
        exact t2
      · rw [pk_uLn ej, pk_uLn ej]
        exact hr j (by omega) j2
theorem stands_loop {kd fg lo hi jn nr : Nat → Int32} {la : Nat → Int64} {P L T : Nat} (hn : NetI kd fg lo hi jn nr la P L T) {sp pa br de en np no : Nat → Int32} {z : Nat} (hz : z ≤ 300) (hs : Seg sp pa br de en 0 z) (hag : ∀ j, j < z → sp j = np j ∧ pa j = no j) : ∀ (m o : Nat), 1 ≤ o → (o ≤ z ∨ o = 1) → z - o < m → (∀ u g, 0 < u → u < o → u < z → g < 300 → pa u = nI g → ¬ lnk lo hi (sp u) (sp g) L = 0) → ∃ b, f_X6_standsIn_b2 jn sp pa (nI z) m (nI o) = some b ∧ f_X9_isWhole_b2 (nI L) lo hi np no (nI z) m (nI o) = some b ∧ (b = 0 ∨ (b = 1 ∧ ∀ u g, 0 < u → u < z → g < 300 → pa u = nI g → ¬ lnk lo hi (sp u) (sp g) L = 0)) := by
  have hP := hn.1
  have hL := hn.2.1
  intro m
  induction m with
  | zero => intro o _ _ h; omega
  | succ m ihm =>
    intro o h1 hoz hm hno
    show ∃ b, f_X6_standsIn_s2 jn sp pa (nI z) (f_X6_standsIn_b2 jn sp pa (nI z) m) (nI o) = some b ∧ f_X9_isWhole_s2 (nI L) lo hi np no (nI z) (f_X9_isWhole_b2 (nI L) lo hi np no (nI z) m) (nI o) = some b ∧ _
    unfold f_X6_standsIn_s2 f_X9_isWhole_s2
    by_cases e : z ≤ o
    · rw [if_pos (nI_le e (by omega)), if_pos (nI_le e (by omega))]
      exact ⟨1, rfl, rfl, Or.inr ⟨rfl, fun u g u1 u2 => hno u g u1 (by omega) u2⟩⟩
    · have o3 : o < 300 := by omega
      obtain ⟨eo1, eo2⟩ := hag o (by omega)
      obtain ⟨g, d', g1, g2, g3, g4, g5, g6⟩ := hs.2.1 o (by omega) (by omega)
      obtain ⟨eg1, eg2⟩ := hag g (by omega)
      have gg3 : g < 300 := by omega
      obtain ⟨a, ha, ea⟩ := (hs.2.2.1 o (by omega) (by omega)).1
      obtain ⟨b, hb, eb⟩ := (hs.2.2.1 g (by omega) (by omega)).1
      rw [if_neg (nI_ge (by omega) (by omega)), if_neg (nI_ge (by omega) (by omega))]
      simp only [c300 o3, g300c o3, nmE, nI_1]
      rw [← eo2, g3]
      simp only [c300 gg3, g300c gg3]
      rw [← eo1, ← eg1, ea, eb, q_joining ha hb, q_lineOf hL hn.2.2.2.2.2.2.1, bE1, bE1, hn.2.2.2.2.2.2.2.1 a b ha hb]
      by_cases c : lnk lo hi (nI a) (nI b) L - 1 = -1
      · rw [if_pos c, if_pos c]
        exact ⟨0, rfl, rfl, Or.inl rfl⟩
      · rw [if_neg c, if_neg c]
        refine ihm (o + 1) (by omega) (by omega) (by omega) (fun u g' u1 u2 u3 u4 u5 => ?_)
        by_cases eu : u = o
        · subst eu
          rw [g3] at u5
          have := nI_inj (by omega) (by omega) u5
          subst this
          rw [ea, eb]
          intro qq
          rw [qq] at c
          exact c (by decide)
        · exact hno u g' u1 (by omega) u3 u4 u5
theorem told_12 : f_X9_told (-12) = some (-4611686018427387916) := told_v (-12) (by decide)
theorem told_3 : f_X9_told (-3) = some (-4611686018427387907) := told_v (-3) (by decide)
theorem s_share {kd fg lo hi jn nr : Nat → Int32} {la : Nat → Int64} {P L T : Nat} (hn : NetI kd fg lo hi jn nr la P L T) {sp pa br de en : Nat → Int32} {sz : Int32} {np no : Nat → Int32} {xz : Int32} (h : TreeI sp pa br de en sz np no xz) (ab bl xa xb : Nat → Int64) (p1 p2 p3 : Int32) : ∃ (r : Int64) (ab' bl' xa' xb' : Nat → Int64), f_X8_share kd fg jn (nI T) sp pa br en ab bl sz p1 p2 p3 = some (r, ab', bl') ∧ f_X9_share (nI L) (nI T) kd fg lo hi np no xz xa xb p1 p2 p3 = some (r, xa', xb') := by
  obtain ⟨z, hz, rfl, rfl, hag, hs⟩ := h
  unfold f_X8_share f_X9_share
  rw [q_hasNode, q_inL p1 (lo := 0) (hi := (nI z - 1).toInt64) 0 (nI z - 1) rfl rfl, q_isNoRate, q_isNoPart, q_isRate, q_isPart, told_bad, told_12, told_3, told_much, bE1, bE1]
  simp only [h01, h10, bE1, pred_lt (n := z) (by omega)]
  rcases ix_cases p1 (n := z) (by omega) with ⟨hb, _⟩ | ⟨k, hk, rfl, hb⟩
  · rw [if_pos hb, if_pos hb]
    exact ⟨_, _, _, _, _, rfl, rfl⟩
  · rw [if_neg hb, if_neg hb]
    by_cases b2 : p2 < 0 ∨ 9 < p2
    · rw [if_neg (fun q => q b2), if_pos b2]
      exact ⟨_, _, _, _, _, rfl, rfl⟩
    · rw [if_pos b2, if_neg b2]
      by_cases b3 : p3 < 0 ∨ 1 < p3
      · rw [if_neg (fun q => q b3), if_pos b3]
        exact ⟨_, _, _, _, _, rfl, rfl⟩
      · rw [if_pos b3, if_neg b3]
        obtain ⟨q, hq, rfl⟩ := nI_of2 (M := 9) (n := 9) rfl (fun q => b2 (Or.inl q)) (Int32.not_lt.mp (fun q => b2 (Or.inr q)))
        have hs := hs.resolve_left (by omega)
        obtain ⟨hp0, hd0, hs⟩ := hs
        obtain ⟨b, s1, s2, s3⟩ := stands_loop hn hz hs hag 310 1 (by omega) (Or.inr rfl) (by omega) (fun u g u1 u2 => by omega)
        unfold f_X6_standsIn f_X9_isWhole
        have n1 : nI 1 = 1 := rfl
        rw [n1] at s1 s2
        rw [s1, s2, bE1, bE1]
        rcases s3 with rfl | ⟨rfl, hwh⟩
        · rw [if_pos rfl, if_pos rfl]
          exact ⟨_, _, _, _, _, rfl, rfl⟩
        · have k3 : k < 300 := by omega
          rw [if_neg (show ¬ (1 : Int32) = 0 by decide), if_neg (show ¬ (1 : Int32) = 0 by decide)]
          have hd : ∃ d, d ≤ 11 ∧ de k = nI d := by
            by_cases k0 : k = 0
            · subst k0
              exact ⟨0, by omega, hd0⟩
            · obtain ⟨g, d, _, _, _, d1, _, d2⟩ := hs.2.1 k (by omega) hk
              exact ⟨d + 1, by omega, d2⟩
          obtain ⟨d, d1, d2⟩ := hd
          obtain ⟨xa', xb', t1, t2, _⟩ := sh_ok hn hz hs hag hwh hq 16 k d xa xb hk d1 d2 (by omega)
          obtain ⟨_, _, _, e, e1, e2, e3, _, _⟩ := hs.2.2.1 k (by omega) hk
          obtain ⟨ab', bl', u1, u2⟩ := weighFrom_loop hn hz hs hq hk e3 e2 310 e ab bl (by omega) (Nat.le_refl _) (by omega) (fun j j1 j2 => by omega)
          unfold f_X6_weighFrom
          simp only [c300 k3, g300c k3, nmE]
          rw [e3, u1, t1, bE2, bE2]
          have v1 := u2 k (Nat.le_refl _) e1
          rcases t2 with ⟨y, y1⟩ | ⟨a, b, y, y1, y2⟩
          · rcases v1 with ⟨x, x1⟩ | ⟨a', b', x, _⟩
            · rw [y1, x1, if_neg (show ¬ 0 ≤ lg_cmp (-1) 0 by decide), if_neg (show ¬ 0 ≤ lg_cmp (-1) 0 by decide)]
              exact ⟨_, _, _, _, _, rfl, rfl⟩
            · rw [y] at x
              cases x
          · rcases v1 with ⟨x, x1⟩ | ⟨a', b', x, x1, x2⟩
            · rw [y] at x
              cases x
            · rw [y] at x
              obtain ⟨rfl, rfl⟩ := Prod.mk.inj (Option.some.inj x)
              obtain ⟨_, a2, _, _⟩ := Sv_ok pa (hW kd fg lo hi T L q sp) z k a b y
              rw [y1, y2, x1, x2, ← sv_lt a2, if_pos (ge_sv.mpr a2), if_pos (ge_sv.mpr a2)]
              by_cases c : p3 = 0
              · rw [if_pos c, if_pos c]
                exact ⟨_, _, _, _, _, rfl, rfl⟩
              · rw [if_neg c, if_neg c]
                exact ⟨_, _, _, _, _, rfl, rfl⟩
