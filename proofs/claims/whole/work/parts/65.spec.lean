/-! pure rows: rows of COUNTS and the longest PAIRING as functions of a set -/
theorem fq_congr {E : Nat → Nat → Int32} {p rest : Nat} {R R' : Nat → Nat → Int64} (h : ∀ t, t ≤ rest → R t = R' t) : ∀ j, fq E p rest R j = fq E p rest R' j := by
  intro j
  induction j with
  | zero => exact h rest (Nat.le_refl _)
  | succ j ih =>
    show (if _ then _ else _) = (if _ then _ else _)
    rw [ih, h (rest - 2 ^ j) (Nat.sub_le _ _)]
theorem fq_congrE {E E' : Nat → Nat → Int32} {p rest : Nat} {R : Nat → Nat → Int64} (h : ∀ q, p < q → q < 12 → E p q = E' p q) : ∀ j, j ≤ 12 → fq E p rest R j = fq E' p rest R j := by
  intro j
  induction j with
  | zero => intro _; rfl
  | succ j ih =>
    intro hj
    show (if _ then _ else _) = (if _ then _ else _)
    by_cases z : p < j
    · rw [ih (by omega), h j z (by omega)]
    · rw [ih (by omega), if_neg (fun q => z q.1), if_neg (fun q => z q.1)]
theorem fq_top {E : Nat → Nat → Int32} {p rest P : Nat} {R : Nat → Nat → Int64} (h : rest < 2 ^ P) : ∀ j, P ≤ j → fq E p rest R j = fq E p rest R P := by
  intro j
  induction j with
  | zero =>
    intro hj
    have : P = 0 := by omega
    subst this
    rfl
  | succ j ih =>
    intro hj
    rcases Nat.lt_or_ge j P with z | z
    · have : P = j + 1 := by omega
      subst this
      rfl
    · rw [← ih z]
      show (if _ then _ else _) = _
      rw [if_neg]
      rintro ⟨_, q, _⟩
      rw [Nat.div_eq_of_lt (Nat.lt_of_lt_of_le h (Nat.pow_le_pow_right (by decide) z))] at q
      omega
def rf (E : Nat → Nat → Int32) : Nat → Nat → Nat → Int64
  | 0 => fun _ _ => 0
  | n + 1 => fun s => if s = 0 then (fun k => if k = 0 then 1 else 0) else fq E (low s) (s - 2 ^ low s) (rf E n) 12
def Rr (E : Nat → Nat → Int32) (s : Nat) : Nat → Int64 := rf E (s + 1) s
theorem rf_stable (E : Nat → Nat → Int32) : ∀ n m s, s < n → s < m → s < 4096 → rf E n s = rf E m s := by
  intro n
  induction n with
  | zero => intro m s h; omega
  | succ n ih =>
    intro m s h1 h2 h3
    obtain ⟨m, rfl⟩ : ∃ m', m = m' + 1 := ⟨m - 1, by omega⟩
    show (if s = 0 then _ else _) = (if s = 0 then _ else _)
    by_cases h : s = 0
    · rw [if_pos h, if_pos h]
    · rw [if_neg h, if_neg h]
      have := (rest_lt s h3).resolve_left h
      exact fq_congr (fun t ht => ih m t (by omega) (by omega) (by omega)) 12
theorem Rr_0 (E : Nat → Nat → Int32) : Rr E 0 = fun k => if k = 0 then 1 else 0 := rfl
theorem Rr_s (E : Nat → Nat → Int32) {s : Nat} (hs : s < 4096) (h : s ≠ 0) : Rr E s = fq E (low s) (s - 2 ^ low s) (Rr E) 12 := by
  have e : Rr E s = fq E (low s) (s - 2 ^ low s) (rf E s) 12 := if_neg h
  rw [e]
  have := (rest_lt s hs).resolve_left h
  exact fq_congr (fun t ht => rf_stable E s (t + 1) t (by omega) (by omega) (by omega)) 12
/-- the longest PAIRING -/
def lq (E : Nat → Nat → Int32) (p rest : Nat) (F : Nat → Nat) : Nat → Nat
  | 0 => F rest
  | j + 1 => if p < j ∧ rest / 2 ^ j % 2 = 1 ∧ ¬ E p j < 0 then max (lq E p rest F j) (F (rest - 2 ^ j) + 1) else lq E p rest F j
theorem lq_congr {E : Nat → Nat → Int32} {p rest : Nat} {R R' : Nat → Nat} (h : ∀ t, t ≤ rest → R t = R' t) : ∀ j, lq E p rest R j = lq E p rest R' j := by
  intro j
  induction j with
  | zero => exact h rest (Nat.le_refl _)
  | succ j ih =>
    show (if _ then _ else _) = (if _ then _ else _)
    rw [ih, h (rest - 2 ^ j) (Nat.sub_le _ _)]
theorem lq_congrE {E E' : Nat → Nat → Int32} {p rest : Nat} {R : Nat → Nat} (h : ∀ q, p < q → q < 12 → E p q = E' p q) : ∀ j, j ≤ 12 → lq E p rest R j = lq E' p rest R j := by
  intro j
  induction j with
  | zero => intro _; rfl
  | succ j ih =>
    intro hj
    show (if _ then _ else _) = (if _ then _ else _)
    by_cases z : p < j
    · rw [ih (by omega), h j z (by omega)]
    · rw [ih (by omega), if_neg (fun q => z q.1), if_neg (fun q => z q.1)]
theorem lq_start (E : Nat → Nat → Int32) (p rest : Nat) (R : Nat → Nat) : ∀ j, j ≤ p + 1 → lq E p rest R j = R rest := by
  intro j
  induction j with
  | zero => intro _; rfl
  | succ j ih =>
    intro h
    show (if _ then _ else _) = _
    rw [if_neg (by omega)]
    exact ih (by omega)
theorem lq_top {E : Nat → Nat → Int32} {p rest P : Nat} {R : Nat → Nat} (h : rest < 2 ^ P) : ∀ j, P ≤ j → lq E p rest R j = lq E p rest R P := by
  intro j
  induction j with
  | zero =>
    intro hj
    have : P = 0 := by omega
    subst this
    rfl
  | succ j ih =>
    intro hj
    rcases Nat.lt_or_ge j P with z | z
    · have : P = j + 1 := by omega
      subst this
      rfl
    · rw [← ih z]
      show (if _ then _ else _) = _
      rw [if_neg]
      rintro ⟨_, q, _⟩
      rw [Nat.div_eq_of_lt (Nat.lt_of_lt_of_le h (Nat.pow_le_pow_right (by decide) z))] at q
      omega
def lgf (E : Nat → Nat → Int32) : Nat → Nat → Nat
  | 0 => fun _ => 0
  | n + 1 => fun s => if s = 0 then 0 else lq E (low s) (s - 2 ^ low s) (lgf E n) 12
def Lg (E : Nat → Nat → Int32) (s : Nat) : Nat := lgf E (s + 1) s
theorem lgf_stable (E : Nat → Nat → Int32) : ∀ n m s, s < n → s < m → s < 4096 → lgf E n s = lgf E m s := by
  intro n
  induction n with
  | zero => intro m s h; omega
  | succ n ih =>
    intro m s h1 h2 h3
    obtain ⟨m, rfl⟩ : ∃ m', m = m' + 1 := ⟨m - 1, by omega⟩
    show (if s = 0 then _ else _) = (if s = 0 then _ else _)
    by_cases h : s = 0
    · rw [if_pos h, if_pos h]
    · rw [if_neg h, if_neg h]
      have := (rest_lt s h3).resolve_left h
      exact lq_congr (fun t ht => ih m t (by omega) (by omega) (by omega)) 12
theorem Lg_0 (E : Nat → Nat → Int32) : Lg E 0 = 0 := rfl
theorem Lg_s (E : Nat → Nat → Int32) {s : Nat} (hs : s < 4096) (h : s ≠ 0) : Lg E s = lq E (low s) (s - 2 ^ low s) (Lg E) 12 := by
  have e : Lg E s = lq E (low s) (s - 2 ^ low s) (lgf E s) 12 := if_neg h
  rw [e]
  have := (rest_lt s hs).resolve_left h
  exact lq_congr (fun t ht => lgf_stable E s (t + 1) t (by omega) (by omega) (by omega)) 12
/-- by the number of a set -/
theorem set_ind {P : Nat → Prop} (h0 : P 0) (hs : ∀ s, s < 4096 → s ≠ 0 → (∀ t, t < s → P t) → P s) : ∀ s, s < 4096 → P s := by
  intro s
  induction s using Nat.strongRecOn with
  | _ s ih =>
    intro h
    by_cases z : s = 0
    · rw [z]
      exact h0
    · exact hs s h z (fun t ht => ih t ht (by omega))
def okL (x : Int64) : Prop := x = -1 ∨ ¬ x < 0
theorem plV_ok (a b : Int64) : okL (plV a b) := by
  unfold plV
  by_cases h1 : a < 0
  · rw [if_pos h1]
    exact Or.inl rfl
  · rw [if_neg h1]
    by_cases h2 : b < 0
    · rw [if_pos h2]
      exact Or.inl rfl
    · rw [if_neg h2]
      by_cases h3 : 0 ≤ a + b
      · rw [if_pos h3]
        exact Or.inr (Int64.not_lt.mpr h3)
      · rw [if_neg h3]
        exact Or.inl rfl
theorem plV_0 {a : Int64} (h : okL a) : plV a 0 = a := by
  unfold plV
  rcases h with h | h
  · subst h
    decide
  · rw [if_neg h, if_neg (by decide), Int64.add_zero, if_pos (Int64.not_lt.mp h)]
theorem tiV_0 (a : Int64) : tiV a 0 = 0 := by
  unfold tiV
  by_cases h : a = 0
  · rw [if_pos h]
  · rw [if_neg h, if_pos rfl]
theorem tiV_z (a : Int64) : tiV 0 a = 0 := if_pos rfl
theorem fq_ok {E : Nat → Nat → Int32} {p rest : Nat} {R : Nat → Nat → Int64} (h : ∀ k, okL (R rest k)) : ∀ j k, okL (fq E p rest R j k) := by
  intro j
  induction j with
  | zero => exact h
  | succ j ih =>
    intro k
    have e : fq E p rest R (j + 1) = if p < j ∧ rest / 2 ^ j % 2 = 1 ∧ ¬ E p j < 0 then addR (fq E p rest R j) (E p j) (R (rest - 2 ^ j)) 7 else fq E p rest R j := rfl
    rw [e]
    split
    · unfold addR
      split
      · exact plV_ok _ _
      · exact ih k
    · exact ih k
theorem Rr_ok (E : Nat → Nat → Int32) : ∀ s, s < 4096 → ∀ k, okL (Rr E s k) := by
  refine set_ind (P := fun s => ∀ k, okL (Rr E s k)) ?_ ?_
  · intro k
    rw [Rr_0]
    show okL (if k = 0 then 1 else 0)
    split
    · exact Or.inr (by decide)
    · exact Or.inr (by decide)
  · intro s hs h0 ih k
    rw [Rr_s E hs h0]
    have := (rest_lt s hs).resolve_left h0
    exact fq_ok (ih _ this) 12 k
theorem fq_zero {E : Nat → Nat → Int32} {p rest : Nat} {R : Nat → Nat → Int64} {F : Nat → Nat} (h : ∀ t, t ≤ rest → ∀ k, F t < k → R t k = 0) : ∀ j k, lq E p rest F j < k → fq E p rest R j k = 0 := by
  intro j
  induction j with
  | zero => exact fun k hk => h rest (Nat.le_refl _) k hk
  | succ j ih =>
    intro k hk
    show (if p < j ∧ rest / 2 ^ j % 2 = 1 ∧ ¬ E p j < 0 then addR (fq E p rest R j) (E p j) (R (rest - 2 ^ j)) 7 else fq E p rest R j) k = 0
    have e : lq E p rest F (j + 1) = if p < j ∧ rest / 2 ^ j % 2 = 1 ∧ ¬ E p j < 0 then max (lq E p rest F j) (F (rest - 2 ^ j) + 1) else lq E p rest F j := rfl
    rw [e] at hk
    by_cases c : p < j ∧ rest / 2 ^ j % 2 = 1 ∧ ¬ E p j < 0
    · rw [if_pos c]
      rw [if_pos c] at hk
      have hk1 := Nat.lt_of_le_of_lt (Nat.le_max_left _ _) hk
      have hk2 := Nat.lt_of_le_of_lt (Nat.le_max_right _ _) hk
      unfold addR
      rw [ih k hk1]
      by_cases d : 1 ≤ k ∧ k < 7
      · rw [if_pos d, h (rest - 2 ^ j) (Nat.sub_le _ _) (k - 1) (by omega), tiV_0]
        decide
      · rw [if_neg d]
    · rw [if_neg c]
      rw [if_neg c] at hk
      exact ih k hk
theorem Rr_zero (E : Nat → Nat → Int32) : ∀ s, s < 4096 → ∀ k, Lg E s < k → Rr E s k = 0 := by
  refine set_ind (P := fun s => ∀ k, Lg E s < k → Rr E s k = 0) ?_ ?_
  · intro k hk
    rw [Rr_0]
    exact if_neg (by omega)
  · intro s hs h0 ih k hk
    rw [Rr_s E hs h0]
    rw [Lg_s E hs h0] at hk
    have := (rest_lt s hs).resolve_left h0
    exact fq_zero (fun t ht => ih t (by omega)) 12 k hk
theorem pop_low {s : Nat} (hs : s < 4096) (h : s ≠ 0) : popc (s - 2 ^ low s) 12 + 1 = popc s 12 := by
  obtain ⟨l1, l2, l3, l4⟩ := (low_ok s hs).resolve_left h
  rcases pop_clear s hs (low s) l1 with z | z
  · omega
  · exact z
theorem pop_le : ∀ s, s < 4096 → popc s 12 ≤ 12 := by
  intro s _
  have h : ∀ n, popc s n ≤ n := by
    intro n
    induction n with
    | zero => exact Nat.le_refl _
    | succ n ih =>
      show popc s n + s / 2 ^ n % 2 ≤ n + 1
      omega
  exact h 12
theorem lq_half {E : Nat → Nat → Int32} {p rest : Nat} {F : Nat → Nat} (hr : rest < 4096) (h : ∀ t, t ≤ rest → F t ≤ popc t 12 / 2) : ∀ j, j ≤ 12 → lq E p rest F j ≤ (popc rest 12 + 1) / 2 := by
  intro j
  induction j with
  | zero =>
    intro _
    have := h rest (Nat.le_refl _)
    show F rest ≤ _
    omega
  | succ j ih =>
    intro hj
    have := ih (by omega)
    show (if _ then _ else _) ≤ _
    split
    · rename_i c
      have h1 := h (rest - 2 ^ j) (Nat.sub_le _ _)
      rcases pop_clear rest hr j (by omega) with z | z
      · exact absurd (z.symm.trans c.2.1) (by decide)
      · refine Nat.max_le.mpr ⟨this, ?_⟩
        omega
    · exact this
theorem Lg_half (E : Nat → Nat → Int32) : ∀ s, s < 4096 → Lg E s ≤ popc s 12 / 2 := by
  refine set_ind (P := fun s => Lg E s ≤ popc s 12 / 2) ?_ ?_
  · rw [Lg_0]
    omega
  · intro s hs h0 ih
    rw [Lg_s E hs h0, ← pop_low hs h0]
    have := (rest_lt s hs).resolve_left h0
    exact lq_half (by omega) (fun t ht => ih t (by omega)) 12 (by omega)
theorem Lg_6 (E : Nat → Nat → Int32) {s : Nat} (hs : s < 4096) : Lg E s ≤ 6 := by
  have := Lg_half E s hs
  have := pop_le s hs
  omega
theorem Rr_congr {E E' : Nat → Nat → Int32} (h : ∀ p q, p < q → q < 12 → E p q = E' p q) : ∀ s, s < 4096 → Rr E s = Rr E' s := by
  refine set_ind (P := fun s => Rr E s = Rr E' s) ((Rr_0 E).trans (Rr_0 E').symm) ?_
  intro s hs h0 ih
  have := (rest_lt s hs).resolve_left h0
  rw [Rr_s E hs h0, Rr_s E' hs h0, fq_congrE (fun q => h (low s) q) 12 (by omega)]
  exact fq_congr (fun t ht => ih t (by omega)) 12
theorem Lg_congr {E E' : Nat → Nat → Int32} (h : ∀ p q, p < q → q < 12 → E p q = E' p q) : ∀ s, s < 4096 → Lg E s = Lg E' s := by
  refine set_ind (P := fun s => Lg E s = Lg E' s) ((Lg_0 E).trans (Lg_0 E').symm) ?_
  intro s hs h0 ih
  have := (rest_lt s hs).resolve_left h0
  rw [Lg_s E hs h0, Lg_s E' hs h0, lq_congrE (fun q => h (low s) q) 12 (by omega)]
  exact lq_congr (fun t ht => ih t (by omega)) 12
