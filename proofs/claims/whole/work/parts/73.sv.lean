/-! pure rows: numbers that know when they are too great, out of the naturals -/
def sv (n : Nat) : Int64 := if n < 2 ^ 63 then lN n else -1
theorem lN_tI {n : Nat} (h : n < 2 ^ 63) : (lN n).toInt = n := lg_ofNat_toInt h
theorem sv_lt {n : Nat} (h : n < 2 ^ 63) : sv n = lN n := if_pos h
theorem sv_ge {n : Nat} (h : ¬ n < 2 ^ 63) : sv n = -1 := if_neg h
theorem lN_nn {n : Nat} (h : n < 2 ^ 63) : ¬ lN n < 0 := by
  rw [Int64.lt_iff_toInt_lt, lN_tI h, l0]
  omega
theorem sv_neg (n : Nat) : sv n < 0 ↔ ¬ n < 2 ^ 63 := by
  constructor
  · intro h q
    rw [sv_lt q] at h
    exact lN_nn q h
  · intro h
    rw [sv_ge h]
    decide
theorem plV_sv (a b : Nat) : plV (sv a) (sv b) = sv (a + b) := by
  unfold plV
  by_cases ha : a < 2 ^ 63
  · by_cases hb : b < 2 ^ 63
    · rw [sv_lt ha, sv_lt hb, if_neg (lN_nn ha), if_neg (lN_nn hb), lN_add]
      by_cases h : a + b < 2 ^ 63
      · rw [if_pos (Int64.not_lt.mp (lN_nn h)), sv_lt h]
      · rw [if_neg, sv_ge h]
        rw [Int64.le_iff_toInt_le, ← lN_add, Int64.toInt_add, lN_tI ha, lN_tI hb, l0]
        have e2 : ((a : Int) + b).bmod (2 ^ 64) = (a : Int) + b - 2 ^ 64 := by
          rw [Int.bmod_def]
          have : ((a : Int) + b) % (2 ^ 64 : Nat) = (a : Int) + b := Int.emod_eq_of_lt (by omega) (by omega)
          rw [this, if_neg (by omega)]
          rfl
        rw [e2]
        omega
    · rw [sv_lt ha, sv_ge hb, if_neg (lN_nn ha), if_pos (by decide), sv_ge (by omega)]
  · rw [sv_ge ha, if_pos (by decide), sv_ge (by omega)]
theorem lN_0' {n : Nat} (h : n < 2 ^ 63) : lN n = 0 ↔ n = 0 := by
  rw [← Int64.toInt_inj, lN_tI h, l0]
  omega
theorem tiV_sv (a b : Nat) : tiV (sv a) (sv b) = sv (a * b) := by
  unfold tiV
  by_cases ha0 : a = 0
  · subst ha0
    rw [Nat.zero_mul]
    exact if_pos rfl
  · have hsa : ¬ sv a = 0 := by
      by_cases ha : a < 2 ^ 63
      · rw [sv_lt ha]
        exact fun q => ha0 ((lN_0' ha).mp q)
      · rw [sv_ge ha]
        decide
    rw [if_neg hsa]
    by_cases hb0 : b = 0
    · subst hb0
      rw [Nat.mul_zero]
      exact if_pos rfl
    · have hsb : ¬ sv b = 0 := by
        by_cases hb : b < 2 ^ 63
        · rw [sv_lt hb]
          exact fun q => hb0 ((lN_0' hb).mp q)
        · rw [sv_ge hb]
          decide
      rw [if_neg hsb]
      have hle1 : a ≤ a * b := Nat.le_mul_of_pos_right a (by omega)
      have hle2 : b ≤ a * b := Nat.le_mul_of_pos_left b (by omega)
      by_cases ha : a < 2 ^ 63
      · by_cases hb : b < 2 ^ 63
        · rw [sv_lt ha, sv_lt hb, if_neg (lN_nn ha), if_neg (lN_nn hb), lN_mul]
          have hd : lN a ≤ 9223372036854775807 / lN b ↔ a * b < 2 ^ 63 := by
            rw [Int64.le_iff_toInt_le, Int64.toInt_div, lmax, lN_tI ha, lN_tI hb]
            have e1 : (9223372036854775807 : Int).tdiv b = ((9223372036854775807 / b : Nat) : Int) := Int.ofNat_tdiv 9223372036854775807 b
            have e2 : 9223372036854775807 / b ≤ 9223372036854775807 := Nat.div_le_self _ _
            have e3 : a ≤ 9223372036854775807 / b ↔ a * b ≤ 9223372036854775807 := Nat.le_div_iff_mul_le (by omega)
            rw [e1]
            clear e1
            generalize 9223372036854775807 / b = X at e2 e3 ⊢
            rw [Int.bmod_eq_of_le (by omega) (by omega)]
            omega
          by_cases h : a * b < 2 ^ 63
          · rw [if_pos (hd.mpr h), sv_lt h]
          · rw [if_neg (fun q => h (hd.mp q)), sv_ge h]
        · rw [sv_lt ha, sv_ge hb, if_neg (lN_nn ha), if_pos (by decide), sv_ge (by omega)]
      · rw [sv_ge ha, if_pos (by decide), sv_ge (by omega)]
theorem i_sv {w : Int32} (h : ¬ w < 0) : ∃ n : Nat, n < 2 ^ 31 ∧ w = nI n ∧ w.toInt64 = sv n := by
  have h1 : 0 ≤ w.toInt := by
    rw [Int32.lt_iff_toInt_lt] at h
    have z0 : (0 : Int32).toInt = 0 := rfl
    omega
  have h2 := w.toInt_lt
  refine ⟨w.toInt.toNat, by omega, ?_, ?_⟩
  · apply Int32.toInt_inj.mp
    rw [nI_toInt (by omega)]
    omega
  · rw [sv_lt (by omega)]
    apply Int64.toInt_inj.mp
    rw [Int32.toInt_toInt64, lN_tI (by omega)]
    omega
/-- a row of naturals -/
def svR (r : Nat → Int64) : Prop := ∃ n : Nat → Nat, n 0 = 1 ∧ ∀ k, r k = sv (n k)
theorem fq_sv {E : Nat → Nat → Int32} {p rest : Nat} {R : Nat → Nat → Int64} (h : ∀ t, t ≤ rest → svR (R t)) : ∀ j, svR (fq E p rest R j) := by
  intro j
  induction j with
  | zero => exact h rest (Nat.le_refl _)
  | succ j ih =>
    have e : fq E p rest R (j + 1) = if p < j ∧ rest / 2 ^ j % 2 = 1 ∧ ¬ E p j < 0 then addR (fq E p rest R j) (E p j) (R (rest - 2 ^ j)) 7 else fq E p rest R j := rfl
    rw [e]
    by_cases c : p < j ∧ rest / 2 ^ j % 2 = 1 ∧ ¬ E p j < 0
    · rw [if_pos c]
      obtain ⟨n, n0, hn⟩ := ih
      obtain ⟨l, l0', hl⟩ := h (rest - 2 ^ j) (Nat.sub_le _ _)
      obtain ⟨w, hw, e1, e2⟩ := i_sv c.2.2
      refine ⟨fun k => if 1 ≤ k ∧ k < 7 then n k + w * l (k - 1) else n k, ?_, fun k => ?_⟩
      · show (if 1 ≤ 0 ∧ 0 < 7 then _ else n 0) = 1
        rw [if_neg (by omega)]
        exact n0
      · unfold addR
        show _ = sv (if 1 ≤ k ∧ k < 7 then _ else _)
        by_cases d : 1 ≤ k ∧ k < 7
        · rw [if_pos d, if_pos d, e2, hn k, hl (k - 1), tiV_sv, plV_sv]
        · rw [if_neg d, if_neg d]
          exact hn k
    · rw [if_neg c]
      exact ih
theorem Rr_sv (E : Nat → Nat → Int32) : ∀ s, s < 4096 → svR (Rr E s) := by
  refine set_ind (P := fun s => svR (Rr E s)) ?_ ?_
  · refine ⟨fun k => if k = 0 then 1 else 0, rfl, fun k => ?_⟩
    rw [Rr_0]
    show (if k = 0 then (1 : Int64) else 0) = sv (if k = 0 then 1 else 0)
    by_cases h : k = 0
    · rw [if_pos h, if_pos h]
      rfl
    · rw [if_neg h, if_neg h]
      rfl
  · intro s hs h0 ih
    rw [Rr_s E hs h0]
    have := (rest_lt s hs).resolve_left h0
    exact fq_sv (fun t ht => ih t (by omega)) 12
