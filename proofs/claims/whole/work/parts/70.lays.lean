/-! pure rows: which LINES there are, as the reference lays them and as the class's table prepares them -/
noncomputable def wV (kd fg : Nat → Int32) (T i : Nat) : Int32 := (f_X9_weighs (nI T) (kd i) (fg i)).getD 0
theorem wV_eq (kd fg : Nat → Int32) (T i : Nat) : f_X9_weighs (nI T) (kd i) (fg i) = some (wV kd fg T i) := by
  obtain ⟨w, hw⟩ := weight_some (nI T) (kd i) (fg i)
  unfold wV
  rw [hw]
  rfl
/-- by the first n LINES -/
noncomputable def En (kd fg lo hi : Nat → Int32) (T n p q : Nat) : Int32 := if lnk lo hi (nI p) (nI q) n = 0 then -1 else wV kd fg T (lnk lo hi (nI p) (nI q) n - 1).toNatClampNeg
def Eo (lo hi : Nat → Int32) (n p q : Nat) : Int32 := if lnk lo hi (nI p) (nI q) n = 0 then 1 else -1
theorem nI_s0 (n : Nat) (h : n < 2 ^ 30) : ¬ nI (n + 1) = 0 := nI_ne (b := 0) (by omega) (by decide) (by omega)
theorem En_succ {kd fg lo hi : Nat → Int32} {T n a b p q : Nat} (hn : n < 40) (hab : a < b) (hb : b < 12) (hpq : p < q) (hq : q < 12) (hl : lo n = nI a) (hh : hi n = nI b) : En kd fg lo hi T (n + 1) p q = (if 12 * a + b = 12 * p + q then wV kd fg T n else En kd fg lo hi T n p q) ∧ Eo lo hi (n + 1) p q = (if 12 * a + b = 12 * p + q then -1 else Eo lo hi n p q) := by
  by_cases h : 12 * a + b = 12 * p + q
  · have e1 : a = p := by omega
    have e2 : b = q := by omega
    subst e1
    subst e2
    have hm : mt lo hi (nI a) (nI b) n := Or.inl ⟨hl, hh⟩
    rw [if_pos rfl, if_pos rfl]
    unfold En Eo
    rw [lnk_succ_pos hm, if_neg (nI_s0 n (by omega)), if_neg (nI_s0 n (by omega)), nI_pred, nI_clamp (by omega)]
    exact ⟨rfl, rfl⟩
  · have hm : ¬ mt lo hi (nI p) (nI q) n := by
      rintro (⟨q1, q2⟩ | ⟨q1, q2⟩)
      · have := nI_inj (by omega) (by omega) (hl.symm.trans q1)
        have := nI_inj (by omega) (by omega) (hh.symm.trans q2)
        omega
      · have := nI_inj (by omega) (by omega) (hl.symm.trans q1)
        have := nI_inj (by omega) (by omega) (hh.symm.trans q2)
        omega
    rw [if_neg h, if_neg h]
    unfold En Eo
    rw [lnk_succ_neg hm]
    exact ⟨rfl, rfl⟩
theorem lays_lines {kd fg lo hi jn nr : Nat → Int32} {la : Nat → Int64} {P L T : Nat} (hn : NetI kd fg lo hi jn nr la P L T) (t : Int32) : ∀ (m i : Nat) (hv : Nat → Int32), i ≤ L → L - i < m → (∀ p q, p < q → q < 12 → hv (12 * p + q) = if t = 0 then En kd fg lo hi T i p q else Eo lo hi i p q) → ∃ hv', f_X9_lays_b32 (nI L) (nI T) kd fg lo hi t m hv (nI i) = some hv' ∧ ∀ p q, p < q → q < 12 → hv' (12 * p + q) = if t = 0 then En kd fg lo hi T L p q else Eo lo hi L p q := by
  have hL := hn.2.1
  have hP := hn.1
  intro m
  induction m with
  | zero => intro i hv _ h; omega
  | succ m ih =>
    intro i hv hi' hm hr
    show ∃ hv', f_X9_lays_s32 (nI L) (nI T) kd fg lo hi t (f_X9_lays_b32 (nI L) (nI T) kd fg lo hi t m) hv (nI i) = some hv' ∧ _
    unfold f_X9_lays_s32
    by_cases h : L ≤ i
    · have e : i = L := by omega
      subst e
      rw [if_pos (nI_le (Nat.le_refl i) (by omega))]
      exact ⟨hv, rfl, hr⟩
    · have h40 : i < 40 := by omega
      obtain ⟨a, b, hab, hbP, hl, hh⟩ := hn.2.2.2.2.2.1 i (by omega)
      have a1 : 12 * a + b < 144 := by omega
      rw [if_neg (nI_ge (by omega) (by omega)), gN h40 (by decide), gN h40 (by decide), c40 h40, hl, hh, mul12r]
      by_cases ht : t = 0
      · rw [if_pos ht, q_weight (nI T) h40, wV_eq, bE1, gN a1 (by decide), nmE, nmE, c144 a1, nI_1]
        refine ih (i + 1) _ (by omega) (by omega) (fun p q hpq hq => ?_)
        rw [if_pos ht, (En_succ h40 hab (by omega) hpq hq hl hh).1]
        by_cases e : 12 * a + b = 12 * p + q
        · rw [if_pos e, ← e]
          exact pk_us
        · rw [if_neg e, pk_un (Ne.symm e), hr p q hpq hq, if_pos ht]
      · rw [if_neg ht, gN a1 (by decide), nmE, nmE, c144 a1, nI_1]
        refine ih (i + 1) _ (by omega) (by omega) (fun p q hpq hq => ?_)
        rw [if_neg ht, (En_succ (kd := kd) (fg := fg) (T := T) h40 hab (by omega) hpq hq hl hh).2]
        by_cases e : 12 * a + b = 12 * p + q
        · rw [if_pos e, ← e]
          exact pk_us
        · rw [if_neg e, pk_un (Ne.symm e), hr p q hpq hq, if_neg ht]
theorem lays_fill (L T : Int32) (kd fg lo hi : Nat → Int32) (t : Int32) : ∀ (m i : Nat) (hv : Nat → Int32), i ≤ 144 → 144 - i < m → (∀ k, k < i → hv k = if t = 0 then -1 else 1) → ∃ hv', f_X9_lays_b2 L T kd fg lo hi t m hv (nI i) = f_X9_lays_b32 L T kd fg lo hi t 150 hv' 0 ∧ ∀ k, k < 144 → hv' k = if t = 0 then -1 else 1 := by
  intro m
  induction m with
  | zero => intro i hv _ h; omega
  | succ m ih =>
    intro i hv hi' hm hr
    show ∃ hv', f_X9_lays_s2 L T kd fg lo hi t (f_X9_lays_b2 L T kd fg lo hi t m) hv (nI i) = _ ∧ _
    unfold f_X9_lays_s2
    by_cases h : 144 ≤ i
    · have e : i = 144 := by omega
      subst e
      rw [if_pos (show (144 : Int32) ≤ nI 144 by decide)]
      exact ⟨hv, rfl, hr⟩
    · rw [if_neg (show ¬ (144 : Int32) ≤ nI i from nI_ge (a := i) (b := 144) (by omega) (by decide))]
      by_cases ht : t = 0
      · rw [if_pos ht, gN (N := 144) (by omega) (by decide), nmE, nmE, c144 (by omega), nI_1]
        refine ih (i + 1) _ (by omega) (by omega) (fun k hk => ?_)
        by_cases e : k = i
        · subst e
          rw [if_pos ht]
          exact pk_us
        · rw [pk_un e]
          exact hr k (by omega)
      · rw [if_neg ht, gN (N := 144) (by omega) (by decide), nmE, nmE, c144 (by omega), nI_1]
        refine ih (i + 1) _ (by omega) (by omega) (fun k hk => ?_)
        by_cases e : k = i
        · subst e
          rw [if_neg ht]
          exact pk_us
        · rw [pk_un e]
          exact hr k (by omega)
theorem q_lays {kd fg lo hi jn nr : Nat → Int32} {la : Nat → Int64} {P L T : Nat} (hn : NetI kd fg lo hi jn nr la P L T) (t : Int32) (hv : Nat → Int32) : ∃ hv', f_X9_lays (nI L) (nI T) kd fg lo hi hv t = some hv' ∧ ∀ p q, p < q → q < 12 → hv' (12 * p + q) = if t = 0 then En kd fg lo hi T L p q else Eo lo hi L p q := by
  unfold f_X9_lays
  obtain ⟨hv1, t1, t2⟩ := lays_fill (nI L) (nI T) kd fg lo hi t 150 0 hv (by omega) (by omega) (fun k hk => by omega)
  rw [nI_0] at t1
  rw [t1]
  have hL := hn.2.1
  have := lays_lines hn t 150 0 hv1 (by omega) (by omega) (fun p q hpq hq => by
    rw [t2 _ (by omega)]
    rfl)
  rw [nI_0] at this
  exact this
/-! the class's -/
theorem nrs_bit {lo hi : Nat → Int32} {p q : Nat} (hp : p < 12) (hq : q < 12) : ∀ n, ends12 lo hi n → (ib (nrs lo hi (nI p) n) q = true ↔ ∃ i, i < n ∧ mt lo hi (nI p) (nI q) i) := by
  intro n
  induction n with
  | zero =>
    intro _
    show ib 0 q = true ↔ _
    rw [ib_0]
    constructor
    · intro h
      cases h
    · rintro ⟨i, hi', _⟩
      omega
  | succ n ih =>
    intro he
    have ih := ih (fun i hi' => he i (by omega))
    obtain ⟨a, b, ha, hb, hab, hl, hh⟩ := he n (by omega)
    have e : nrs lo hi (nI p) (n + 1) = if lo n = nI p then nrs lo hi (nI p) n ||| (1 <<< (hi n &&& 31)) else if hi n = nI p then nrs lo hi (nI p) n ||| (1 <<< (lo n &&& 31)) else nrs lo hi (nI p) n := rfl
    have key : ib (nrs lo hi (nI p) (n + 1)) q = true ↔ ib (nrs lo hi (nI p) n) q = true ∨ mt lo hi (nI p) (nI q) n := by
      rw [e]
      unfold mt
      rw [hl, hh]
      by_cases h1 : a = p
      · subst h1
        rw [if_pos rfl, ib_or, ib_1 (by omega)]
        by_cases h2 : b = q
        · subst h2
          simp
        · have g1 : ¬ nI b = nI q := nI_ne (by omega) (by omega) h2
          have g2 : ¬ nI b = nI a := nI_ne (by omega) (by omega) (Ne.symm hab)
          simp [h2, g1, g2]
      · rw [if_neg (nI_ne (by omega) (by omega) h1)]
        by_cases h2 : b = p
        · subst h2
          rw [if_pos rfl, ib_or, ib_1 (by omega)]
          by_cases h3 : a = q
          · subst h3
            simp
          · have g1 : ¬ nI a = nI q := nI_ne (by omega) (by omega) h3
            have g2 : ¬ nI a = nI b := nI_ne (by omega) (by omega) hab
            simp [h3, g1, g2]
        · have g1 : ¬ nI a = nI p := nI_ne (by omega) (by omega) h1
          have g2 : ¬ nI b = nI p := nI_ne (by omega) (by omega) h2
          rw [if_neg g2]
          simp [g1, g2]
    rw [key, ih]
    constructor
    · rintro (⟨i, hi', hm⟩ | hm)
      · exact ⟨i, by omega, hm⟩
      · exact ⟨n, by omega, hm⟩
    · rintro ⟨i, hi', hm⟩
      rcases Nat.lt_or_ge i n with z | z
      · exact Or.inl ⟨i, z, hm⟩
      · have : i = n := by omega
        subst this
        exact Or.inr hm
theorem nrs_lnk {lo hi : Nat → Int32} {p q n : Nat} (hp : p < 12) (hq : q < 12) (hn : n ≤ 40) (he : ends12 lo hi n) : ib (nrs lo hi (nI p) n) q = true ↔ ¬ lnk lo hi (nI p) (nI q) n = 0 := by
  rw [nrs_bit hp hq n he]
  constructor
  · rintro ⟨i, hi', hm⟩ h
    exact lnk_zero n (by omega) h i hi' hm
  · intro h
    apply Classical.byContradiction
    intro hno
    exact h (lnk_none n (fun i hi' hm => hno ⟨i, hi', hm⟩))
noncomputable def wB (kd fg lo hi : Nat → Int32) (T n p q : Nat) : Int32 := if lnk lo hi (nI p) (nI q) n = 0 then 0 else wV kd fg T (lnk lo hi (nI p) (nI q) n - 1).toNatClampNeg
theorem q_weightBetween {kd fg lo hi jn nr : Nat → Int32} {la : Nat → Int64} {P L T : Nat} (hn : NetI kd fg lo hi jn nr la P L T) {a b : Nat} (ha : a < 12) (hb : b < 12) : f_X1_weightBetween kd fg jn (nI T) (nI a) (nI b) = some (wB kd fg lo hi T L a b) := by
  have hL := hn.2.1
  unfold f_X1_weightBetween wB
  rw [q_joining ha hb, bE1, hn.2.2.2.2.2.2.2.1 a b ha hb]
  obtain ⟨j, hj, e⟩ := lnk_form lo hi (nI a) (nI b) L
  rw [e]
  by_cases h : j = 0
  · subst h
    rw [if_neg (by decide), if_pos (show nI 0 = 0 from rfl)]
  · obtain ⟨i, rfl⟩ : ∃ i, j = i + 1 := ⟨j - 1, by omega⟩
    rw [nI_pred, if_pos (show (0 : Int32) ≤ nI i from nI_le (a := 0) (by omega) (by omega)), if_neg (nI_s0 i (by omega)), nI_clamp (by omega), weigh_eq hn (by omega), q_weight (nI T) (by omega), wV_eq, bE1]
theorem wV_nn {kd fg lo hi jn nr : Nat → Int32} {la : Nat → Int64} {P L T : Nat} (hn : NetI kd fg lo hi jn nr la P L T) {i : Nat} (hi' : i < 40) : ∃ j : Nat, j ≤ 20007 ∧ wV kd fg T i = nI j := by
  obtain ⟨k, hk, e1⟩ := hn.2.2.2.1 i hi'
  obtain ⟨f, hf, e2⟩ := hn.2.2.2.2.1 i hi'
  obtain ⟨j, hj, e⟩ := weight_nn hk hf hn.2.2.1
  refine ⟨j, hj, ?_⟩
  unfold wV
  rw [e1, e2, e]
  rfl
theorem wB_nn {kd fg lo hi jn nr : Nat → Int32} {la : Nat → Int64} {P L T : Nat} (hn : NetI kd fg lo hi jn nr la P L T) (a b : Nat) : ∃ j : Nat, j ≤ 20007 ∧ wB kd fg lo hi T L a b = nI j := by
  have hL := hn.2.1
  unfold wB
  obtain ⟨j, hj, e⟩ := lnk_form lo hi (nI a) (nI b) L
  rw [e]
  by_cases h : j = 0
  · subst h
    exact ⟨0, by omega, if_pos rfl⟩
  · obtain ⟨i, rfl⟩ : ∃ i, j = i + 1 := ⟨j - 1, by omega⟩
    rw [if_neg (nI_s0 i (by omega)), nI_pred, nI_clamp (by omega)]
    exact wV_nn hn (by omega)
