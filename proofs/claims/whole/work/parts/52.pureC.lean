/-! pure rows: the reference's own search, and that a pair has one LINE at most -/
def mt (lo hi : Nat → Int32) (a b : Int32) (i : Nat) : Prop := (lo i = a ∧ hi i = b) ∨ (lo i = b ∧ hi i = a)
def uniq (lo hi : Nat → Int32) (n : Nat) : Prop := ∀ a b i j, i < n → j < n → mt lo hi a b i → mt lo hi a b j → i = j
theorem lnk_succ_pos {lo hi : Nat → Int32} {a b : Int32} {n : Nat} (h : mt lo hi a b n) : lnk lo hi a b (n + 1) = nI (n + 1) := if_pos h
theorem lnk_succ_neg {lo hi : Nat → Int32} {a b : Int32} {n : Nat} (h : ¬ mt lo hi a b n) : lnk lo hi a b (n + 1) = lnk lo hi a b n := if_neg h
theorem lnk_none {lo hi : Nat → Int32} {a b : Int32} : ∀ n, (∀ i, i < n → ¬ mt lo hi a b i) → lnk lo hi a b n = 0 := by
  intro n
  induction n with
  | zero => exact fun _ => rfl
  | succ n ih =>
    intro h
    rw [lnk_succ_neg (h n (by omega))]
    exact ih (fun i hi => h i (by omega))
theorem lnk_at {lo hi : Nat → Int32} {a b : Int32} {i : Nat} : ∀ n, uniq lo hi n → i < n → mt lo hi a b i → lnk lo hi a b n = nI (i + 1) := by
  intro n
  induction n with
  | zero => intro _ h _; omega
  | succ n ih =>
    intro hu h hm
    by_cases e : mt lo hi a b n
    · have := hu a b i n h (by omega) hm e
      subst this
      exact lnk_succ_pos e
    · rw [lnk_succ_neg e]
      refine ih (fun a b i j hi hj => hu a b i j (by omega) (by omega)) ?_ hm
      rcases Nat.lt_or_ge i n with q | q
      · exact q
      · have : i = n := by omega
        subst this
        exact absurd hm e
theorem lineOf_loop {lo hi : Nat → Int32} {L : Nat} (hL : L ≤ 40) (hu : uniq lo hi L) (a b : Int32) : ∀ (m i : Nat), i ≤ L → L - i < m → (∀ j, j < i → ¬ mt lo hi a b j) → f_X9_lineOf_b2 (nI L) lo hi a b m (nI i) = some (lnk lo hi a b L - 1) := by
  intro m
  induction m with
  | zero =>
    intro i _ h
    omega
  | succ m ih =>
    intro i hi' hm hno
    show f_X9_lineOf_s2 (nI L) lo hi a b (f_X9_lineOf_b2 (nI L) lo hi a b m) (nI i) = _
    unfold f_X9_lineOf_s2 f_X9_lineOf_b30 nm
    by_cases h : L ≤ i
    · rw [if_pos (nI_le (by omega) (by omega)), lnk_none L (fun j hj => hno j (by omega))]
      rfl
    · rw [if_neg (nI_ge (by omega) (by omega))]
      have h40 : i < 40 := by omega
      simp only [g40 h40, c40 h40]
      by_cases e : mt lo hi a b i
      · rw [lnk_at L hu (by omega) e, nI_pred]
        rcases e with ⟨e1, e2⟩ | ⟨e1, e2⟩
        · rw [if_pos e1, if_pos e2]
        · by_cases q1 : lo i = a
          · rw [if_pos q1]
            by_cases q2 : hi i = b
            · rw [if_pos q2]
            · rw [if_neg q2, if_pos e1, if_pos e2]
          · rw [if_neg q1, if_pos e1, if_pos e2]
      · have key : f_X9_lineOf_b2 (nI L) lo hi a b m (nI i + 1) = some (lnk lo hi a b L - 1) := by
          rw [nI_1]
          refine ih (i + 1) (by omega) (by omega) (fun j hj => ?_)
          rcases Nat.lt_or_ge j i with q | q
          · exact hno j q
          · have : j = i := by omega
            subst this
            exact e
        by_cases q1 : lo i = a
        · have q2 : ¬ hi i = b := fun q => e (Or.inl ⟨q1, q⟩)
          rw [if_pos q1, if_neg q2]
          by_cases q3 : lo i = b
          · have q4 : ¬ hi i = a := fun q => e (Or.inr ⟨q3, q⟩)
            rw [if_pos q3, if_neg q4]
            exact key
          · rw [if_neg q3]
            exact key
        · rw [if_neg q1]
          by_cases q3 : lo i = b
          · have q4 : ¬ hi i = a := fun q => e (Or.inr ⟨q3, q⟩)
            rw [if_pos q3, if_neg q4]
            exact key
          · rw [if_neg q3]
            exact key
theorem q_lineOf {lo hi : Nat → Int32} {L : Nat} (hL : L ≤ 40) (hu : uniq lo hi L) (a b : Int32) : f_X9_lineOf (nI L) lo hi a b = some (lnk lo hi a b L - 1) := by
  unfold f_X9_lineOf
  exact lineOf_loop hL hu a b 70 0 (by omega) (by omega) (fun j hj => by omega)
theorem nearOf_loop {lo hi : Nat → Int32} {L : Nat} (hL : L ≤ 40) (p out : Int32) : ∀ (m i : Nat), i ≤ L → L - i < m → f_X9_nearOf_b5 (nI L) lo hi p out m (nrs lo hi p i) (nI i) = some (nrs lo hi p L &&& (out ^^^ (-1))) := by
  intro m
  induction m with
  | zero =>
    intro i _ h
    omega
  | succ m ih =>
    intro i hi' hm
    show f_X9_nearOf_s5 (nI L) lo hi p out (f_X9_nearOf_b5 (nI L) lo hi p out m) (nrs lo hi p i) (nI i) = _
    unfold f_X9_nearOf_s5 nm
    by_cases h : L ≤ i
    · have e : i = L := by omega
      subst e
      rw [if_pos (nI_le (Nat.le_refl i) (by omega))]
    · rw [if_neg (nI_ge (by omega) (by omega))]
      have h40 : i < 40 := by omega
      simp only [g40 h40, c40 h40, nI_1]
      have key := ih (i + 1) (by omega) (by omega)
      by_cases q1 : lo i = p
      · have e : nrs lo hi p (i + 1) = nrs lo hi p i ||| (1 <<< (hi i &&& 31)) := if_pos q1
        rw [e] at key
        rw [if_pos q1]
        exact key
      · by_cases q2 : hi i = p
        · have e : nrs lo hi p (i + 1) = nrs lo hi p i ||| (1 <<< (lo i &&& 31)) := (if_neg q1).trans (if_pos q2)
          rw [e] at key
          rw [if_neg q1, if_pos q2]
          exact key
        · have e : nrs lo hi p (i + 1) = nrs lo hi p i := (if_neg q1).trans (if_neg q2)
          rw [e] at key
          rw [if_neg q1, if_neg q2, Int32.or_zero]
          exact key
theorem q_nearOf {lo hi : Nat → Int32} {L : Nat} (hL : L ≤ 40) (p out : Int32) : f_X9_nearOf (nI L) lo hi p out = some (nrs lo hi p L &&& (out ^^^ (-1))) := by
  unfold f_X9_nearOf
  exact nearOf_loop hL p out 70 0 (by omega) (by omega)
theorem q_joining {jn : Nat → Int32} {a b : Nat} (ha : a < 12) (hb : b < 12) : f_X1_joining jn (nI a) (nI b) = some (jn (a * 12 + b) - 1) := by
  unfold f_X1_joining
  have h1 : a * 12 + b < 144 := by omega
  simp only [mul12, g144 h1, c144 h1]
