/-! pure rows: TERMS -/
def sm (f : Nat → Nat) : Nat → Nat
  | 0 => 0
  | n + 1 => sm f n + f n
theorem sm_ge {f : Nat → Nat} {k : Nat} : ∀ n, k < n → f k ≤ sm f n := by
  intro n
  induction n with
  | zero => intro h; omega
  | succ n ih =>
    intro h
    show f k ≤ sm f n + f n
    by_cases e : k = n
    · subst e
      omega
    · have := ih (by omega)
      omega
theorem nI_64 {n : Nat} (h : n < 2 ^ 31) : (nI n).toInt64 = lN n := nI_l h
theorem pow9 {q k : Nat} (hq : q ≤ 9) (hk : k ≤ 7) : q ^ k < 2 ^ 31 := by
  have h1 : q ^ k ≤ 9 ^ k := Nat.pow_le_pow_left hq k
  have h2 : 9 ^ k ≤ 9 ^ 7 := Nat.pow_le_pow_right (by decide) hk
  have h3 : 9 ^ 7 < 2 ^ 31 := by decide
  omega
theorem g7 {α : Type} {n : Nat} (h : n < 7) {x : Option α} : (if nI n < 0 ∨ 7 ≤ (nI n).toNatClampNeg then none else x) = x := gN h (by decide)
theorem c7 {n : Nat} (h : n < 7) : (nI n).toNatClampNeg = n := nI_clamp (by omega)
/-- the reference's loop -/
theorem terms_ref (P L T : Int32) (kd fg lo hi : Nat → Int32) (p1 : Int32) {q : Nat} (hq : q ≤ 9) (tb ct : Nat → Int64) (hv : Nat → Int32) (im : Int32) (him : im = 0 ∨ im = 1) {r : Nat → Nat} (hr : ∀ k, k < 7 → ct k = sv (r k)) : ∀ (m j : Nat) (tm : Nat → Int64) (itm : Int32), j ≤ 7 → 7 - j < m → (∀ k, k < j → tm k = sv (r k * q ^ k)) → ((itm = im ∧ ∀ k, k < j → r k * q ^ k < 2 ^ 63) ∨ (itm = 1 ∧ ∃ k, k < j ∧ ¬ r k * q ^ k < 2 ^ 63)) →
    ∃ (tm' : Nat → Int64) (itm' : Int32), f_X9_findsTerms_b33 P L T kd fg lo hi p1 (nI q) m tb ct hv im tm (sv (sm (fun k => r k * q ^ k) j)) (sv (sm (fun k => k * (r k * q ^ k)) j)) (sv (sm (fun k => k * k * (r k * q ^ k)) j)) itm (lN (q ^ j)) (nI j) = some (tb, ct, hv, im, tm', sv (sm (fun k => r k * q ^ k) 7), sv (sm (fun k => k * (r k * q ^ k)) 7), sv (sm (fun k => k * k * (r k * q ^ k)) 7), itm') ∧ (∀ k, k < 7 → tm' k = sv (r k * q ^ k)) ∧ ((itm' = im ∧ ∀ k, k < 7 → r k * q ^ k < 2 ^ 63) ∨ (itm' = 1 ∧ ∃ k, k < 7 ∧ ¬ r k * q ^ k < 2 ^ 63)) := by
  intro m
  induction m with
  | zero => intro j tm itm _ h; omega
  | succ m ih =>
    intro j tm itm hj hm ht hi'
    show ∃ tm' itm', f_X9_findsTerms_s33 P L T kd fg lo hi p1 (nI q) (f_X9_findsTerms_b33 P L T kd fg lo hi p1 (nI q) m) tb ct hv im tm _ _ _ itm (lN (q ^ j)) (nI j) = _ ∧ _
    unfold f_X9_findsTerms_s33
    by_cases h : 7 ≤ j
    · have e : j = 7 := by omega
      subst e
      rw [if_pos (show (7 : Int32) ≤ nI 7 by decide)]
      exact ⟨tm, itm, rfl, ht, hi'⟩
    · have h7 : j < 7 := by omega
      have hp := pow9 hq (show j ≤ 7 by omega)
      have et : tiV (ct j) (lN (q ^ j)) = sv (r j * q ^ j) := by
        rw [hr j h7, ← sv_lt (show q ^ j < 2 ^ 63 by omega), tiV_sv]
      have ep : lN (q ^ j) * (nI q).toInt64 = lN (q ^ (j + 1)) := by
        rw [nI_64 (by omega), lN_mul, Nat.pow_succ]
      rw [if_neg (show ¬ (7 : Int32) ≤ nI j from nI_ge (a := j) (b := 7) (by omega) (by decide)), g7 h7, c7 h7, q_times, bE1, et, gC h7 (by decide), nmE, nmE, gC h7 (by decide), ep, pk_uLs]
      have ht' : ∀ k, k < j + 1 → vp_updL tm j (sv (r j * q ^ j)) k = sv (r k * q ^ k) := by
        intro k hk
        by_cases e : k = j
        · subst e
          exact pk_uLs
        · rw [pk_uLn e]
          exact ht k (by omega)
      have go : ∀ b : Int32, ((itm ||| b = im ∧ ∀ k, k < j + 1 → r k * q ^ k < 2 ^ 63) ∨ (itm ||| b = 1 ∧ ∃ k, k < j + 1 ∧ ¬ r k * q ^ k < 2 ^ 63)) → ∃ (tm' : Nat → Int64) (itm' : Int32), f_X9_findsTerms_b85 P L T kd fg lo hi p1 (nI q) (f_X9_findsTerms_b33 P L T kd fg lo hi p1 (nI q) m) tb ct hv im (vp_updL tm j (sv (r j * q ^ j))) (sv (sm (fun k => r k * q ^ k) j)) (sv (sm (fun k => k * (r k * q ^ k)) j)) (sv (sm (fun k => k * k * (r k * q ^ k)) j)) itm (lN (q ^ (j + 1))) (nI j) b itm = some (tb, ct, hv, im, tm', sv (sm (fun k => r k * q ^ k) 7), sv (sm (fun k => k * (r k * q ^ k)) 7), sv (sm (fun k => k * k * (r k * q ^ k)) 7), itm') ∧ (∀ k, k < 7 → tm' k = sv (r k * q ^ k)) ∧ ((itm' = im ∧ ∀ k, k < 7 → r k * q ^ k < 2 ^ 63) ∨ (itm' = 1 ∧ ∃ k, k < 7 ∧ ¬ r k * q ^ k < 2 ^ 63)) := by
        intro b hb
        unfold f_X9_findsTerms_b85
        have h01' : itm ||| b = 0 ∨ itm ||| b = 1 := by
          rcases hb with ⟨z, _⟩ | ⟨z, _⟩
          · rw [z]
            exact him
          · exact Or.inr z
        have ek : (nI j).toInt64 = sv j := by rw [nI_64 (by omega), sv_lt (by omega)]
        have hjj : j * j ≤ 49 := Nat.mul_le_mul (show j ≤ 7 by omega) (show j ≤ 7 by omega)
        have ekk : (nI j * nI j).toInt64 = sv (j * j) := by rw [pk_mul, nI_64 (by omega), sv_lt (by omega)]
        rw [nmE, if_pos h01', g7 h7, c7 h7, pk_uLs, q_plus, bE1, plV_sv, gC h7 (by decide), q_times, bE1, ek, tiV_sv, q_plus, bE1, plV_sv, gC h7 (by decide), q_times, bE1, ekk, tiV_sv, q_plus, bE1, plV_sv, nmE, nI_1]
        exact ih (j + 1) _ (itm ||| b) (by omega) (by omega) ht' hb
      by_cases hs : r j * q ^ j < 2 ^ 63
      · rw [if_pos (by rw [lg_cmp_ge]; exact Int64.not_lt.mp (fun z => (sv_neg _).mp z hs))]
        refine go 0 ?_
        rw [Int32.or_zero]
        rcases hi' with ⟨z1, z2⟩ | ⟨z1, k, z2, z3⟩
        · refine Or.inl ⟨z1, fun k hk => ?_⟩
          by_cases e : k = j
          · subst e
            exact hs
          · exact z2 k (by omega)
        · exact Or.inr ⟨z1, k, by omega, z3⟩
      · rw [if_neg (by rw [lg_cmp_ge]; exact fun z => (Int64.not_lt.mpr z) ((sv_neg _).mpr hs))]
        refine go 1 (Or.inr ⟨?_, j, by omega, hs⟩)
        have : itm = 0 ∨ itm = 1 := by
          rcases hi' with ⟨z1, _⟩ | ⟨z1, _⟩
          · rw [z1]
            exact him
          · exact Or.inr z1
        rcases this with z | z <;> rw [z] <;> decide
/-- the class's, where no COUNT is too great -/
theorem terms_cls {wo : Nat → Int64} {s q : Nat} (hs : s < 515) (hq : q ≤ 9) {r : Nat → Nat} (h0 : r 0 = 1) (hr : ∀ k, k < 7 → wo (7 * s + k) = sv (r k)) (hn : ∀ k, k < 7 → r k < 2 ^ 63) : ∀ (m j : Nat) (ea : Nat → Int64), j ≤ 7 → 7 - j < m → (∀ k, k < j → ea k = sv (r k * q ^ k)) →
    ∃ (ea' : Nat → Int64), f_X5_load_b45 wo (nI (7 * s)) (nI q) m ea (sv (sm (fun k => r k * q ^ k) j)) (sv (sm (fun k => k * (r k * q ^ k)) j)) (sv (sm (fun k => k * k * (r k * q ^ k)) j)) 0 (lN (q ^ j)) (nI j) = some (ea', sv (sm (fun k => r k * q ^ k) 7), sv (sm (fun k => k * (r k * q ^ k)) 7), sv (sm (fun k => k * k * (r k * q ^ k)) 7)) ∧ ∀ k, k < 7 → ea' k = sv (r k * q ^ k) := by
  intro m
  induction m with
  | zero => intro j ea _ h; omega
  | succ m ih =>
    intro j ea hj hm he
    show ∃ ea', f_X5_load_s45 wo (nI (7 * s)) (nI q) (f_X5_load_b45 wo (nI (7 * s)) (nI q) m) ea _ _ _ 0 (lN (q ^ j)) (nI j) = _ ∧ _
    unfold f_X5_load_s45
    by_cases h : 7 ≤ j
    · have e : j = 7 := by omega
      subst e
      rw [if_pos (show (7 : Int32) ≤ nI 7 by decide)]
      exact ⟨ea, rfl, he⟩
    · have h7 : j < 7 := by omega
      have hp := pow9 hq (show j ≤ 7 by omega)
      have a2 : 7 * s + j < 3605 := by omega
      have ep : lN (q ^ j) * (nI q).toInt64 = lN (q ^ (j + 1)) := by
        rw [nI_64 (by omega), lN_mul, Nat.pow_succ]
      have et : f_X7_times (wo (7 * s + j)) (lN (q ^ j)) = some (sv (r j * q ^ j)) := by
        rw [hr j h7, sv_lt (hn j h7), times_eq (fun z => lN_nn (by omega) z.2) (fun z => lN_nn (hn j h7) z.1), q_times, ← sv_lt (hn j h7), ← sv_lt (show q ^ j < 2 ^ 63 by omega), tiV_sv]
      have ek : (nI j).toInt64 = sv j := by rw [nI_64 (by omega), sv_lt (by omega)]
      have hjj : j * j ≤ 49 := Nat.mul_le_mul (show j ≤ 7 by omega) (show j ≤ 7 by omega)
      have ekk : (nI j * nI j).toInt64 = sv (j * j) := by rw [pk_mul, nI_64 (by omega), sv_lt (by omega)]
      have hz : j = 0 → ¬ sv (r j * q ^ j) < 0 := by
        intro z
        subst z
        rw [h0, Nat.pow_zero]
        decide
      have et1 : f_X7_times (sv j) (sv (r j * q ^ j)) = some (sv (j * (r j * q ^ j))) := by
        rw [times_eq (fun z => hz (by rw [sv_lt (by omega)] at z; exact (lN_0' (by omega)).mp z.1) z.2) (fun z => (sv_neg j).mp z.1 (by omega)), q_times, tiV_sv]
      have et2 : f_X7_times (sv (j * j)) (sv (r j * q ^ j)) = some (sv (j * j * (r j * q ^ j))) := by
        rw [times_eq (fun z => hz (by rw [sv_lt (by omega)] at z; have := (lN_0' (by omega)).mp z.1; rcases Nat.mul_eq_zero.mp this with y | y <;> exact y) z.2) (fun z => (sv_neg (j * j)).mp z.1 (by omega)), q_times, tiV_sv]
      rw [if_neg (show ¬ (7 : Int32) ≤ nI j from nI_ge (a := j) (b := 7) (by omega) (by decide)), if_pos rfl, nI_add, g3605 a2, c3605 a2, et, bE1]
      unfold f_X5_load_b83
      rw [g7 h7, nmE, c7 h7, gC h7 (by decide), pk_uLs, plus_eq, q_plus, bE1, plV_sv, gC h7 (by decide), ek, et1, bE1, plus_eq, q_plus, bE1, plV_sv, gC h7 (by decide), ekk, et2, bE1, plus_eq, q_plus, bE1, plV_sv, nmE, nmE, nI_1, ep]
      refine ih (j + 1) _ (by omega) (by omega) (fun k hk => ?_)
      by_cases e : k = j
      · subst e
        exact pk_uLs
      · rw [pk_uLn e]
        exact he k (by omega)
theorem plV_m1 (a : Int64) : plV (-1) a = -1 := if_pos (by decide)
/-- the class's, where one is -/
theorem terms_much {wo : Nat → Int64} {s : Nat} (p3 : Int32) : ∀ (m j : Nat) (ea : Nat → Int64) (pw : Int64), j ≤ 7 → 7 - j < m → (∀ k, k < j → ea k = -1) → ∃ (ea' : Nat → Int64), f_X5_load_b45 wo (nI (7 * s)) p3 m ea (-1) (-1) (-1) 1 pw (nI j) = some (ea', -1, -1, -1) ∧ ∀ k, k < 7 → ea' k = -1 := by
  intro m
  induction m with
  | zero => intro j ea pw _ h; omega
  | succ m ih =>
    intro j ea pw hj hm he
    show ∃ ea', f_X5_load_s45 wo (nI (7 * s)) p3 (f_X5_load_b45 wo (nI (7 * s)) p3 m) ea _ _ _ 1 pw (nI j) = _ ∧ _
    unfold f_X5_load_s45
    by_cases h : 7 ≤ j
    · have e : j = 7 := by omega
      subst e
      rw [if_pos (show (7 : Int32) ≤ nI 7 by decide)]
      exact ⟨ea, rfl, he⟩
    · have h7 : j < 7 := by omega
      rw [if_neg (show ¬ (7 : Int32) ≤ nI j from nI_ge (a := j) (b := 7) (by omega) (by decide)), if_neg (by decide)]
      unfold f_X5_load_b83
      have et : ∀ x : Int64, f_X7_times x (-1) = some (-1) := by
        intro x
        unfold f_X7_times
        simp only [lg_cmp_lt, lg_cmp_ge, lg_cmp_le]
        by_cases z : x < 0
        · rw [if_pos z]
        · rw [if_neg z, if_neg (by decide)]
      rw [g7 h7, nmE, c7 h7, gC h7 (by decide), pk_uLs, plus_eq, q_plus, bE1, plV_m1, gC h7 (by decide), et, bE1, plus_eq, q_plus, bE1, plV_m1, gC h7 (by decide), et, bE1, plus_eq, q_plus, bE1, plV_m1, nmE, nmE, nI_1]
      refine ih (j + 1) _ _ (by omega) (by omega) (fun k hk => ?_)
      by_cases e : k = j
      · subst e
        exact pk_uLs
      · rw [pk_uLn e]
        exact he k (by omega)
