/-! pure rows: line, told, set, turns, drop, tide, between, near -/
theorem h01 {c : Prop} [Decidable c] : ((if c then (0 : Int32) else 1) = 0) = c := by
  by_cases h : c <;> simp [h]
theorem h10 {c : Prop} [Decidable c] : ((if c then (1 : Int32) else 0) = 0) = ¬ c := by
  by_cases h : c <;> simp [h]
theorem q_areTwo (n a b : Int32) : f_X9_areTwo n a b = some (if (a < 0 ∨ n - 1 < a) ∨ (b < 0 ∨ n - 1 < b) ∨ a = b then 0 else 1) := by
  unfold f_X9_areTwo
  rw [q_isPoint, q_isPoint]
  simp only [bs1, h01]
  by_cases h1 : a < 0 ∨ n - 1 < a
  · rw [if_pos h1, if_pos (Or.inl h1)]
  · rw [if_neg h1]
    by_cases h2 : b < 0 ∨ n - 1 < b
    · rw [if_pos h2, if_pos (Or.inr (Or.inl h2))]
    · rw [if_neg h2]
      by_cases h3 : a = b
      · rw [if_pos h3, if_pos (Or.inr (Or.inr h3))]
      · rw [if_neg h3, if_neg]
        rintro (q | q | q)
        · exact h1 q
        · exact h2 q
        · exact h3 q
theorem nI_m1 {n : Nat} (hn : n < 2 ^ 30) : nI n - 1 = -1 ↔ n = 0 := by
  constructor
  · intro h
    have h1 : (nI n - nI 1).toInt = (-1 : Int32).toInt := congrArg Int32.toInt h
    rw [pk_sub_toInt hn (by decide)] at h1
    have h2 : (-1 : Int32).toInt = -1 := rfl
    omega
  · intro h
    subst h
    rfl
theorem lnk_form (lo hi : Nat → Int32) (a b : Int32) : ∀ n, ∃ j, j ≤ n ∧ lnk lo hi a b n = nI j := by
  intro n
  induction n with
  | zero => exact ⟨0, by omega, rfl⟩
  | succ n ih =>
    by_cases e : mt lo hi a b n
    · exact ⟨n + 1, by omega, lnk_succ_pos e⟩
    · obtain ⟨j, h1, h2⟩ := ih
      exact ⟨j, by omega, (lnk_succ_neg e).trans h2⟩
theorem s_line {kd fg lo hi jn nr : Nat → Int32} {la : Nat → Int64} {P L T : Nat} (h : NetI kd fg lo hi jn nr la P L T) (age p1 p2 p3 p4 : Int32) :
    ∃ (r : Int32) (kd' fg' lo' hi' jn' nr' : Nat → Int32) (la' : Nat → Int64) (L' : Nat) (ag' : Int32), f_X8_line kd fg lo hi jn nr la (nI P) (nI L) age p1 p2 p3 p4 = some (r, kd', fg', lo', hi', jn', nr', la', nI L', ag') ∧ f_X9_line (nI P) (nI L) kd fg lo hi p1 p2 p3 p4 = some (r, nI L', kd', fg', lo', hi') ∧ NetI kd' fg' lo' hi' jn' nr' la' P L' T ∧ ((ag' = age ∧ kd' = kd ∧ fg' = fg ∧ lo' = lo ∧ hi' = hi ∧ jn' = jn ∧ nr' = nr ∧ la' = la ∧ L' = L) ∨ ag' = age + 1) := by
  have hP := h.1
  have hL := h.2.1
  have same : ∀ r : Int32, (f_X8_line kd fg lo hi jn nr la (nI P) (nI L) age p1 p2 p3 p4 = some (r, kd, fg, lo, hi, jn, nr, la, nI L, age)) → f_X9_line (nI P) (nI L) kd fg lo hi p1 p2 p3 p4 = some (r, nI L, kd, fg, lo, hi) → ∃ (r : Int32) (kd' fg' lo' hi' jn' nr' : Nat → Int32) (la' : Nat → Int64) (L' : Nat) (ag' : Int32), f_X8_line kd fg lo hi jn nr la (nI P) (nI L) age p1 p2 p3 p4 = some (r, kd', fg', lo', hi', jn', nr', la', nI L', ag') ∧ f_X9_line (nI P) (nI L) kd fg lo hi p1 p2 p3 p4 = some (r, nI L', kd', fg', lo', hi') ∧ NetI kd' fg' lo' hi' jn' nr' la' P L' T ∧ ((ag' = age ∧ kd' = kd ∧ fg' = fg ∧ lo' = lo ∧ hi' = hi ∧ jn' = jn ∧ nr' = nr ∧ la' = la ∧ L' = L) ∨ ag' = age + 1) :=
    fun r a b => ⟨r, kd, fg, lo, hi, jn, nr, la, L, age, a, b, h, Or.inl ⟨rfl, rfl, rfl, rfl, rfl, rfl, rfl, rfl, rfl⟩⟩
  have hpl : ∀ a : Int32, (nI P - 1 < a) = (nI P ≤ a) := fun a => propext (pred_lt (by omega) a)
  have E8 : f_X8_line kd fg lo hi jn nr la (nI P) (nI L) age p1 p2 p3 p4 = f_X1_add kd fg lo hi jn nr la (nI P) (nI L) age p1 p2 p3 p4 := by
    unfold f_X8_line
    cases f_X1_add kd fg lo hi jn nr la (nI P) (nI L) age p1 p2 p3 p4 <;> rfl
  have E1 : f_X1_add kd fg lo hi jn nr la (nI P) (nI L) age p1 p2 p3 p4 = f_X1_add kd fg lo hi jn nr la (nI P) (nI L) age p1 p2 p3 p4 := rfl
  have E9 : f_X9_line (nI P) (nI L) kd fg lo hi p1 p2 p3 p4 = f_X9_line (nI P) (nI L) kd fg lo hi p1 p2 p3 p4 := rfl
  conv at E1 => rhs; unfold f_X1_add; simp only [q_isBeyond, q_hasPoint, bs1, h10, h01]
  conv at E9 => rhs; unfold f_X9_line; simp only [q_inL p1 (lo := 0) (hi := 5) 0 5 rfl rfl, q_inL p2 (lo := 0) (hi := 9999) 0 9999 rfl rfl, q_areTwo, q_lineOf hL h.2.2.2.2.2.2.1, bs1, h01, hpl]
  rw [E1] at E8
  by_cases b1 : p1 < 0 ∨ 5 < p1
  · exact same (-2) (E8.trans (if_neg (fun q => q b1))) (E9.trans (if_pos b1))
  rw [if_pos b1] at E8
  rw [if_neg b1] at E9
  by_cases b2 : p2 < 0 ∨ 9999 < p2
  · exact same (-2) (E8.trans (if_neg (fun q => q b2))) (E9.trans (if_pos b2))
  rw [if_pos b2] at E8
  rw [if_neg b2] at E9
  by_cases b3 : p3 < 0 ∨ nI P ≤ p3
  · exact same (-2) (E8.trans (if_pos b3)) (E9.trans (if_pos (Or.inl b3)))
  rw [if_neg b3] at E8
  by_cases b4 : p4 < 0 ∨ nI P ≤ p4
  · exact same (-2) (E8.trans (if_pos b4)) (E9.trans (if_pos (Or.inr (Or.inl b4))))
  rw [if_neg b4] at E8
  by_cases b5 : p3 = p4
  · exact same (-2) (E8.trans (if_pos b5)) (E9.trans (if_pos (Or.inr (Or.inr b5))))
  rw [if_neg b5] at E8
  rw [if_neg (by rintro (q | q | q); exact b3 q; exact b4 q; exact b5 q)] at E9
  rcases ix_cases p3 (n := P) (by omega) with ⟨q, -⟩ | ⟨a, ha, rfl, -⟩
  · exact absurd q b3
  rcases ix_cases p4 (n := P) (by omega) with ⟨q, -⟩ | ⟨b, hb, rfl, -⟩
  · exact absurd q b4
  have hab : a ≠ b := fun e => b5 (by rw [e])
  rw [q_joining (by omega) (by omega), h.2.2.2.2.2.2.2.1 a b (by omega) (by omega)] at E8
  simp only [bs1] at E8
  obtain ⟨j, hj, ej⟩ := lnk_form lo hi (nI a) (nI b) L
  rw [ej] at E8 E9
  by_cases b6 : j = 0
  case neg =>
    rw [if_neg (fun q => b6 ((nI_m1 (by omega)).mp q))] at E8 E9
    exact same (-3) E8 E9
  rw [if_pos ((nI_m1 (by omega)).mpr b6)] at E8 E9
  subst b6
  by_cases b7 : L = 40
  · subst b7
    exact same (-4) (E8.trans (if_neg (by decide))) (E9.trans (if_pos rfl))
  rw [if_pos (show nI L < 40 from nI_lt (a := L) (b := 40) (by omega) (by decide))] at E8
  rw [if_neg (show ¬ nI L = 40 from nI_ne (a := L) (b := 40) (by omega) (by decide) b7)] at E9
  have h40 : L < 40 := by omega
  simp only [nm, c40 h40, g40 h40, nI_1] at E8 E9
  obtain ⟨k, rfl, hk⟩ : ∃ k : Nat, p1 = nI k ∧ k ≤ 5 := by
    obtain ⟨k, hk, e⟩ := nI_of2 (M := 5) (n := 5) rfl (fun q => b1 (Or.inl q)) (Int32.not_lt.mp (fun q => b1 (Or.inr q)))
    exact ⟨k, e, hk⟩
  obtain ⟨f, rfl, hf⟩ : ∃ f : Nat, p2 = nI f ∧ f ≤ 9999 := by
    obtain ⟨f, hf, e⟩ := nI_of2 (M := 9999) (n := 9999) rfl (fun q => b2 (Or.inl q)) (Int32.not_lt.mp (fun q => b2 (Or.inr q)))
    exact ⟨f, e, hf⟩
  have hno := lnk_zero L (by omega) ej
  -- the lesser and the greater end
  obtain ⟨x, y, hxy, hy, e1, e2, e3, e4, hno2⟩ : ∃ x y : Nat, x < y ∧ y < P ∧ (if nI b < nI a then nI b else nI a) = nI x ∧ (if nI a < nI b then nI b else nI a) = nI y ∧ (f_X9_line (nI P) (nI L) kd fg lo hi (nI k) (nI f) (nI a) (nI b) = some (nI L, nI (L + 1), upd kd L (nI k), upd fg L (nI f), upd lo L (nI x), upd hi L (nI y))) ∧ True ∧ ∀ i, i < L → ¬ mt lo hi (nI x) (nI y) i := by
    have pl : nI (L + 1) - 1 = nI L := nI_pred L
    rcases Nat.lt_or_ge a b with q | q
    · refine ⟨a, b, q, hb, if_neg (nI_nlt (by omega) (by omega)), if_pos (nI_lt q (by omega)), ?_, trivial, hno⟩
      rw [E9, if_neg (nI_ge q (by omega))]
      unfold f_X9_line_b103 f_X9_line_b124
      simp only [nm, c40 h40, g40 h40, nI_1, pl]
      rw [if_neg (nI_ge q (by omega))]
    · refine ⟨b, a, by omega, ha, if_pos (nI_lt (by omega) (by omega)), if_neg (nI_nlt (by omega) (by omega)), ?_, trivial, fun i hi' m => hno i hi' m.symm⟩
      rw [E9, if_pos (nI_le (by omega) (by omega))]
      unfold f_X9_line_b103 f_X9_line_b124
      simp only [nm, c40 h40, g40 h40, nI_1, pl]
      rw [if_pos (nI_le (by omega) (by omega))]
  rw [e1, e2] at E8
  have hlk : linked (upd lo L (nI x)) (upd hi L (nI y)) jn nr la L := linked_congr (fun i hi' => ⟨(pk_un (by omega)).symm, (pk_un (by omega)).symm⟩) h.2.2.2.2.2.2.2
  have hq := q_linkOne (lo := upd lo L (nI x)) (hi := upd hi L (nI y)) (jn := jn) (nr := nr) (la := la) (n := L) (a := x) (b := y) h40 (by omega) (by omega) pk_us pk_us
  have he : ends12 (upd lo L (nI x)) (upd hi L (nI y)) (L + 1) := by
    intro i hi'
    rcases Nat.lt_or_ge i L with q | q
    · obtain ⟨a', b', z1, z2, z3, z4, z5⟩ := h.e12 i q
      exact ⟨a', b', z1, z2, z3, (pk_un (by omega)).trans z4, (pk_un (by omega)).trans z5⟩
    · have : i = L := by omega
      subst this
      exact ⟨x, y, by omega, by omega, by omega, pk_us, pk_us⟩
  have hlk2 := linked_step hlk h40 he hq
  rw [hq] at E8
  simp only [bs3] at E8
  refine ⟨_, _, _, _, _, _, _, _, L + 1, _, E8, e3, ⟨hP, by omega, h.2.2.1, ?_, ?_, ?_, uniq_add h.2.2.2.2.2.2.1 hno2, hlk2⟩, Or.inr rfl⟩
  · intro i hi'
    by_cases q : i = L
    · subst q
      exact ⟨k, by omega, pk_us⟩
    · obtain ⟨k', z1, z2⟩ := h.2.2.2.1 i hi'
      exact ⟨k', z1, (pk_un q).trans z2⟩
  · intro i hi'
    by_cases q : i = L
    · subst q
      exact ⟨f, hf, pk_us⟩
    · obtain ⟨k', z1, z2⟩ := h.2.2.2.2.1 i hi'
      exact ⟨k', z1, (pk_un q).trans z2⟩
  · intro i hi'
    by_cases q : i = L
    · subst q
      exact ⟨x, y, hxy, hy, pk_us, pk_us⟩
    · obtain ⟨a', b', z1, z2, z3, z4⟩ := h.2.2.2.2.2.1 i (by omega)
      exact ⟨a', b', z1, z2, (pk_un q).trans z3, (pk_un q).trans z4⟩
theorem q_weightOf {kd fg : Nat → Int32} (t : Int32) {i : Nat} (hi : i < 40) : f_X1_weightOf kd fg t (nI i) = f_X8_weightBy (kd i) (fg i) t := by
  simp only [f_X1_weightOf, c40 hi, g40 hi]
  cases f_X8_weightBy (kd i) (fg i) t <;> rfl
theorem q_weight {kd fg : Nat → Int32} (t : Int32) {i : Nat} (hi : i < 40) : f_X9_weight t kd fg (nI i) = f_X9_weighs t (kd i) (fg i) := by
  simp only [f_X9_weight, c40 hi, g40 hi]
  cases f_X9_weighs t (kd i) (fg i) <;> rfl
/-- class and reference weigh alike -/
theorem weigh_eq {kd fg lo hi jn nr : Nat → Int32} {la : Nat → Int64} {P L T : Nat} (h : NetI kd fg lo hi jn nr la P L T) {i : Nat} (hi' : i < 40) : f_X1_weightOf kd fg (nI T) (nI i) = f_X9_weight (nI T) kd fg (nI i) := by
  rw [q_weightOf _ hi', q_weight _ hi']
  obtain ⟨f, hf, e⟩ := h.2.2.2.2.1 i hi'
  have hT := h.2.2.1
  rw [e]
  exact q_weights (nI_pos (by omega)) (nI_le (a := f) (b := 9999) hf (by decide)) (nI_pos (by omega)) (nI_le (a := T) (b := 9) hT (by decide))
theorem weight_some (t k f : Int32) : ∃ w, f_X9_weighs t k f = some w := by
  unfold f_X9_weighs f_X9_weighs_b18
  simp only [if_neg (show ¬ (2 : Int32) = 0 by decide)]
  repeat' split
  all_goals exact ⟨_, rfl⟩
theorem s_told {kd fg lo hi jn nr : Nat → Int32} {la : Nat → Int64} {P L T : Nat} (h : NetI kd fg lo hi jn nr la P L T) (p1 p2 : Int32) : ∃ r, f_X8_told kd fg lo hi (nI L) (nI T) p1 p2 = some r ∧ f_X9_told_ (nI L) (nI T) kd fg lo hi p1 p2 = some r := by
  have hL := h.2.1
  unfold f_X8_told f_X9_told_
  rw [q_hasLine, q_isLine]
  simp only [bs1, h01, propext (pred_lt (n := L) (by omega) p1)]
  rcases ix_cases p1 (n := L) (by omega) with ⟨q, -⟩ | ⟨a, ha, rfl, q⟩
  · rw [if_pos q, if_pos q]
    exact ⟨_, rfl, rfl⟩
  · rw [if_neg q, if_neg q]
    have h40 : a < 40 := by omega
    simp only [c40 h40, g40 h40, weigh_eq h h40, q_weight _ h40]
    obtain ⟨w, ew⟩ := weight_some (nI T) (kd a) (fg a)
    rw [ew]
    simp only [bs1]
    repeat' split
    all_goals exact ⟨_, rfl, rfl⟩
theorem s_set {kd fg lo hi jn nr : Nat → Int32} {la : Nat → Int64} {P L T : Nat} (h : NetI kd fg lo hi jn nr la P L T) (age p1 p2 : Int32) : ∃ (r : Int32) (fg' : Nat → Int32) (ag' : Int32), f_X8_set fg (nI L) age p1 p2 = some (r, fg', ag') ∧ f_X9_set (nI L) fg p1 p2 = some (r, fg') ∧ NetI kd fg' lo hi jn nr la P L T ∧ ((ag' = age ∧ fg' = fg) ∨ ag' = age + 1) := by
  have hL := h.2.1
  unfold f_X8_set f_X9_set
  rw [q_hasLine, q_isLine, q_isBeyond, q_inL p2 (lo := 0) (hi := 9999) 0 9999 rfl rfl]
  simp only [bs1, h01, h10, propext (pred_lt (n := L) (by omega) p1)]
  rcases ix_cases p1 (n := L) (by omega) with ⟨q, -⟩ | ⟨a, ha, rfl, q⟩
  · rw [if_pos q, if_pos q]
    exact ⟨_, _, _, rfl, rfl, h, Or.inl ⟨rfl, rfl⟩⟩
  · rw [if_neg q, if_neg q]
    by_cases b2 : p2 < 0 ∨ 9999 < p2
    · rw [if_neg (fun z => z b2), if_pos b2]
      exact ⟨_, _, _, rfl, rfl, h, Or.inl ⟨rfl, rfl⟩⟩
    · rw [if_pos b2, if_neg b2]
      have h40 : a < 40 := by omega
      simp only [nm, c40 h40, g40 h40]
      obtain ⟨f, hf, rfl⟩ := nI_of2 (M := 9999) (n := 9999) rfl (fun q => b2 (Or.inl q)) (Int32.not_lt.mp (fun q => b2 (Or.inr q)))
      refine ⟨_, _, _, rfl, rfl, ⟨h.1, hL, h.2.2.1, h.2.2.2.1, fun i hi' => ?_, h.2.2.2.2.2⟩, Or.inr rfl⟩
      by_cases e : i = a
      · subst e
        exact ⟨f, hf, pk_us⟩
      · obtain ⟨k', z1, z2⟩ := h.2.2.2.2.1 i hi'
        exact ⟨k', z1, (pk_un e).trans z2⟩
theorem s_turns {kd fg lo hi jn nr : Nat → Int32} {la : Nat → Int64} {P L T : Nat} (h : NetI kd fg lo hi jn nr la P L T) (age p1 p2 : Int32) : ∃ (r : Int32) (kd' : Nat → Int32) (ag' : Int32), f_X8_turns kd (nI L) age p1 p2 = some (r, kd', ag') ∧ f_X9_turns (nI L) kd p1 p2 = some (r, kd') ∧ NetI kd' fg lo hi jn nr la P L T ∧ ((ag' = age ∧ kd' = kd) ∨ ag' = age + 1) := by
  have hL := h.2.1
  unfold f_X8_turns f_X9_turns
  rw [q_hasLine, q_isLine, q_isBeyond, q_inL p2 (lo := 0) (hi := 5) 0 5 rfl rfl]
  simp only [bs1, h01, h10, propext (pred_lt (n := L) (by omega) p1)]
  rcases ix_cases p1 (n := L) (by omega) with ⟨q, -⟩ | ⟨a, ha, rfl, q⟩
  · rw [if_pos q, if_pos q]
    exact ⟨_, _, _, rfl, rfl, h, Or.inl ⟨rfl, rfl⟩⟩
  · rw [if_neg q, if_neg q]
    by_cases b2 : p2 < 0 ∨ 5 < p2
    · rw [if_neg (fun z => z b2), if_pos b2]
      exact ⟨_, _, _, rfl, rfl, h, Or.inl ⟨rfl, rfl⟩⟩
    · rw [if_pos b2, if_neg b2]
      have h40 : a < 40 := by omega
      simp only [nm, c40 h40, g40 h40]
      obtain ⟨f, hf, rfl⟩ := nI_of2 (M := 5) (n := 5) rfl (fun q => b2 (Or.inl q)) (Int32.not_lt.mp (fun q => b2 (Or.inr q)))
      refine ⟨_, _, _, rfl, rfl, ⟨h.1, hL, h.2.2.1, fun i hi' => ?_, h.2.2.2.2⟩, Or.inr rfl⟩
      by_cases e : i = a
      · subst e
        exact ⟨f, by omega, pk_us⟩
      · obtain ⟨k', z1, z2⟩ := h.2.2.2.1 i hi'
        exact ⟨k', z1, (pk_un e).trans z2⟩
theorem s_tide {kd fg lo hi jn nr : Nat → Int32} {la : Nat → Int64} {P L T : Nat} (h : NetI kd fg lo hi jn nr la P L T) (age p1 : Int32) : ∃ (r : Int32) (T' : Nat) (ag' : Int32), f_X8_tide (nI T) age p1 = some (r, nI T', ag') ∧ f_X9_tide (nI T) p1 = some (r, nI T') ∧ NetI kd fg lo hi jn nr la P L T' ∧ ((ag' = age ∧ T' = T) ∨ ag' = age + 1) := by
  unfold f_X8_tide f_X9_tide
  rw [q_isBeyond, q_inL p1 (lo := 0) (hi := 9) 0 9 rfl rfl]
  simp only [bs1, h01, h10]
  by_cases b2 : p1 < 0 ∨ 9 < p1
  · rw [if_neg (fun z => z b2), if_pos b2]
    exact ⟨_, _, _, rfl, rfl, h, Or.inl ⟨rfl, rfl⟩⟩
  · rw [if_pos b2, if_neg b2]
    obtain ⟨f, hf, rfl⟩ := nI_of2 (M := 9) (n := 9) rfl (fun q => b2 (Or.inl q)) (Int32.not_lt.mp (fun q => b2 (Or.inr q)))
    exact ⟨_, f, _, rfl, rfl, ⟨h.1, h.2.1, hf, h.2.2.2⟩, Or.inr rfl⟩
theorem s_between {kd fg lo hi jn nr : Nat → Int32} {la : Nat → Int64} {P L T : Nat} (h : NetI kd fg lo hi jn nr la P L T) (p1 p2 : Int32) : ∃ r, f_X8_between jn (nI P) p1 p2 = some r ∧ f_X9_between (nI P) (nI L) lo hi p1 p2 = some r := by
  have hP := h.1
  have hL := h.2.1
  have hpl : ∀ a : Int32, (nI P - 1 < a) = (nI P ≤ a) := fun a => propext (pred_lt (by omega) a)
  unfold f_X8_between f_X9_between
  rw [q_hasPoint, q_hasPoint, q_areTwo, q_lineOf hL h.2.2.2.2.2.2.1]
  simp only [bs1, h01, hpl]
  by_cases b3 : p1 < 0 ∨ nI P ≤ p1
  · rw [if_pos b3, if_pos (Or.inl b3)]
    exact ⟨_, rfl, rfl⟩
  rw [if_neg b3]
  by_cases b4 : p2 < 0 ∨ nI P ≤ p2
  · rw [if_pos b4, if_pos (Or.inr (Or.inl b4))]
    exact ⟨_, rfl, rfl⟩
  rw [if_neg b4]
  by_cases b5 : p1 = p2
  · rw [if_pos b5, if_pos (Or.inr (Or.inr b5))]
    exact ⟨_, rfl, rfl⟩
  rw [if_neg b5, if_neg (by rintro (q | q | q); exact b3 q; exact b4 q; exact b5 q)]
  rcases ix_cases p1 (n := P) (by omega) with ⟨q, -⟩ | ⟨a, ha, rfl, -⟩
  · exact absurd q b3
  rcases ix_cases p2 (n := P) (by omega) with ⟨q, -⟩ | ⟨b, hb, rfl, -⟩
  · exact absurd q b4
  rw [q_joining (by omega) (by omega), h.2.2.2.2.2.2.2.1 a b (by omega) (by omega)]
  simp only [bs1]
  exact ⟨_, rfl, rfl⟩
theorem s_near {kd fg lo hi jn nr : Nat → Int32} {la : Nat → Int64} {P L T : Nat} (h : NetI kd fg lo hi jn nr la P L T) (p1 p2 : Int32) : ∃ r, f_X8_near nr (nI P) p1 p2 = some r ∧ f_X9_near (nI P) (nI L) lo hi p1 p2 = some r := by
  have hP := h.1
  have hL := h.2.1
  have hpl : ∀ a : Int32, (nI P - 1 < a) = (nI P ≤ a) := fun a => propext (pred_lt (by omega) a)
  unfold f_X8_near f_X9_near
  rw [q_hasPoint, q_isPoint, q_isNoSet, q_isOut, q_nearOf hL]
  simp only [bs1, h01, h10, hpl]
  by_cases b3 : p1 < 0 ∨ nI P ≤ p1
  · rw [if_pos b3, if_pos b3]
    exact ⟨_, rfl, rfl⟩
  rw [if_neg b3, if_neg b3]
  by_cases b4 : p2 < 0 ∨ 4095 < p2
  · rw [if_neg (fun z => z b4), if_pos b4]
    exact ⟨_, rfl, rfl⟩
  rw [if_pos b4, if_neg b4]
  rcases ix_cases p1 (n := P) (by omega) with ⟨q, -⟩ | ⟨a, ha, rfl, -⟩
  · exact absurd q b3
  have h12 : a < 12 := by omega
  simp only [c12 h12, g12 h12, h.2.2.2.2.2.2.2.2.1 a h12]
  exact ⟨_, rfl, rfl⟩
