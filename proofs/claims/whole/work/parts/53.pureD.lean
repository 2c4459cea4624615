/-! pure rows: the net as class and reference hold it -/
def NetI (kd fg lo hi jn nr : Nat → Int32) (la : Nat → Int64) (P L T : Nat) : Prop :=
  P ≤ 12 ∧ L ≤ 40 ∧ T ≤ 9 ∧ (∀ i, i < 40 → ∃ k : Nat, k < 6 ∧ kd i = nI k) ∧ (∀ i, i < 40 → ∃ f : Nat, f ≤ 9999 ∧ fg i = nI f) ∧ (∀ i, i < L → ∃ a b : Nat, a < b ∧ b < P ∧ lo i = nI a ∧ hi i = nI b) ∧ uniq lo hi L ∧ linked lo hi jn nr la L
theorem NetI.e12 {kd fg lo hi jn nr : Nat → Int32} {la : Nat → Int64} {P L T : Nat} (h : NetI kd fg lo hi jn nr la P L T) : ends12 lo hi L := by
  intro i hi'
  obtain ⟨a, b, h1, h2, h3, h4⟩ := h.2.2.2.2.2.1 i hi'
  have := h.1
  exact ⟨a, b, by omega, by omega, by omega, h3, h4⟩
theorem i1 : ((1 : Int32) = 0) = False := by decide
theorem i0 : ((0 : Int32) = 0) = True := by decide
theorem s_points {kd fg lo hi jn nr : Nat → Int32} {la : Nat → Int64} {P L T : Nat} (h : NetI kd fg lo hi jn nr la P L T) (age p1 : Int32) :
    ∃ (r : Int32) (jn' nr' : Nat → Int32) (la' : Nat → Int64) (P' L' : Nat) (ag' : Int32), f_X8_points lo hi jn nr la (nI P) (nI L) age p1 = some (r, jn', nr', la', nI P', nI L', ag') ∧ f_X9_points (nI P) (nI L) p1 = some (r, nI P', nI L') ∧ NetI kd fg lo hi jn' nr' la' P' L' T ∧ ((ag' = age ∧ jn' = jn ∧ nr' = nr ∧ la' = la ∧ P' = P ∧ L' = L) ∨ ag' = age + 1) := by
  unfold f_X8_points f_X9_points
  rw [q_isBeyond, q_inL p1 (lo := 0) (hi := 12) 0 12 rfl rfl]
  by_cases hb : p1 < 0 ∨ 12 < p1
  · simp only [if_pos hb, bs1, i1, i0, if_true, if_false]
    exact ⟨-2, jn, nr, la, P, L, age, rfl, rfl, h, Or.inl ⟨rfl, rfl, rfl, rfl, rfl, rfl⟩⟩
  · simp only [if_neg hb, bs1, i1, i0, if_true, if_false]
    obtain ⟨p, hp, rfl⟩ := nI_of2 (M := 12) (n := 12) rfl (fun q => hb (Or.inl q)) (Int32.not_lt.mp (fun q => hb (Or.inr q)))
    obtain ⟨jn', nr', la', h1, h2⟩ := q_link (lo := lo) (hi := hi) (jn := jn) (nr := nr) (la := la) (L := 0) (by omega) (fun i hi' => by omega) age
    have h1 : f_X1_link lo hi jn nr la 0 age = some (jn', nr', la', age + 1) := h1
    simp only [f_X1_begin, h1, bs4, bs6]
    refine ⟨nI P, jn', nr', la', p, 0, age + 1, rfl, rfl, ⟨hp, by omega, h.2.2.1, h.2.2.2.1, h.2.2.2.2.1, fun i hi' => by omega, fun a b i j hi' => by omega, h2⟩, Or.inr rfl⟩
/-- one more LINE -/
theorem uniq_add {lo hi : Nat → Int32} {n : Nat} {a b : Int32} (h : uniq lo hi n) (hab : ∀ i, i < n → ¬ mt lo hi a b i) : uniq (upd lo n a) (upd hi n b) (n + 1) := by
  intro x y i j hi' hj m1 m2
  have key : ∀ k, k < n → mt (upd lo n a) (upd hi n b) x y k → mt lo hi x y k := by
    intro k hk m
    unfold mt at m ⊢
    rw [pk_un (by omega), pk_un (by omega)] at m
    exact m
  have last : mt (upd lo n a) (upd hi n b) x y n → (a = x ∧ b = y) ∨ (a = y ∧ b = x) := by
    intro m
    unfold mt at m
    rw [pk_us, pk_us] at m
    exact m
  have no : ∀ k, k < n → mt (upd lo n a) (upd hi n b) x y k → mt (upd lo n a) (upd hi n b) x y n → False := by
    intro k hk m1 m2
    have q1 := key k hk m1
    refine hab k hk ?_
    rcases last m2 with ⟨rfl, rfl⟩ | ⟨rfl, rfl⟩
    · exact q1
    · exact q1.symm
  rcases Nat.lt_or_ge i n with q1 | q1
  · rcases Nat.lt_or_ge j n with q2 | q2
    · exact h x y i j q1 q2 (key i q1 m1) (key j q2 m2)
    · have : j = n := by omega
      subst this
      exact (no i q1 m1 m2).elim
  · have : i = n := by omega
    subst this
    rcases Nat.lt_or_ge j i with q2 | q2
    · exact (no j q2 m2 m1).elim
    · omega
theorem lnk_zero {lo hi : Nat → Int32} {a b : Int32} : ∀ n, n < 2 ^ 30 → lnk lo hi a b n = 0 → ∀ i, i < n → ¬ mt lo hi a b i := by
  intro n
  induction n with
  | zero => intro _ _ i hi'; omega
  | succ n ih =>
    intro hn h i hi' m
    by_cases e : mt lo hi a b n
    · rw [lnk_succ_pos e] at h
      exact nI_ne0 (by omega) (by omega) h
    · rw [lnk_succ_neg e] at h
      rcases Nat.lt_or_ge i n with q | q
      · exact ih (by omega) h i q m
      · have : i = n := by omega
        subst this
        exact e m
theorem lnk_congr {lo hi lo' hi' : Nat → Int32} {a b : Int32} : ∀ n, (∀ i, i < n → lo i = lo' i ∧ hi i = hi' i) → lnk lo hi a b n = lnk lo' hi' a b n := by
  intro n
  induction n with
  | zero => intro _; rfl
  | succ n ih =>
    intro h
    show (if _ then _ else _) = (if _ then _ else _)
    rw [ih (fun i hi' => h i (by omega)), (h n (by omega)).1, (h n (by omega)).2]
theorem nrs_congr {lo hi lo' hi' : Nat → Int32} {a : Int32} : ∀ n, (∀ i, i < n → lo i = lo' i ∧ hi i = hi' i) → nrs lo hi a n = nrs lo' hi' a n := by
  intro n
  induction n with
  | zero => intro _; rfl
  | succ n ih =>
    intro h
    show (if _ then _ else _) = (if _ then _ else _)
    rw [ih (fun i hi' => h i (by omega)), (h n (by omega)).1, (h n (by omega)).2]
theorem lns_congr {lo hi lo' hi' : Nat → Int32} {a : Int32} : ∀ n, (∀ i, i < n → lo i = lo' i ∧ hi i = hi' i) → lns lo hi a n = lns lo' hi' a n := by
  intro n
  induction n with
  | zero => intro _; rfl
  | succ n ih =>
    intro h
    show (if _ then _ else _) = (if _ then _ else _)
    rw [ih (fun i hi' => h i (by omega)), (h n (by omega)).1, (h n (by omega)).2]
theorem linked_congr {lo hi lo' hi' jn nr : Nat → Int32} {la : Nat → Int64} {n : Nat} (e : ∀ i, i < n → lo i = lo' i ∧ hi i = hi' i) (h : linked lo hi jn nr la n) : linked lo' hi' jn nr la n :=
  ⟨fun a b ha hb => (h.1 a b ha hb).trans (lnk_congr n e), fun a ha => (h.2.1 a ha).trans (nrs_congr n e), fun a ha => (h.2.2 a ha).trans (lns_congr n e)⟩
