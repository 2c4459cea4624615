/-! pure rows: lay, of -/
theorem fault_m (z p : Int32) : f_X2_faultAt (-1) z p = some (-11) := if_pos rfl
theorem fault_p {k z p : Int32} (h : ¬ k = -1) (h2 : p < 0 ∨ z ≤ p) : f_X2_faultAt k z p = some (-12) := by
  unfold f_X2_faultAt
  rw [if_neg h]
  by_cases h1 : p < 0
  · rw [if_pos h1]
  · rw [if_neg h1, if_pos (h2.resolve_left h1)]
theorem fault_0 {k z p : Int32} (h : ¬ k = -1) (h2 : ¬ (p < 0 ∨ z ≤ p)) : f_X2_faultAt k z p = some 0 := by
  unfold f_X2_faultAt
  rw [if_neg h, if_neg (fun q => h2 (Or.inl q)), if_neg (fun q => h2 (Or.inr q))]
theorem ge0_m1 {k : Int32} (h : k = -1 ∨ ∃ j : Nat, j < 6 ∧ k = nI j) : 0 ≤ k ↔ ¬ k = -1 := by
  rcases h with rfl | ⟨j, hj, rfl⟩
  · exact ⟨fun q => absurd q (by decide), fun q => absurd rfl q⟩
  · refine ⟨fun _ e => ?_, fun _ => nI_pos' (by omega)⟩
    have := nI_pos' (n := j) (by omega)
    rw [e] at this
    exact absurd this (by decide)
theorem s_lay {kd fg lo hi jn nr : Nat → Int32} {la : Nat → Int64} {P L T : Nat} (hn : NetI kd fg lo hi jn nr la P L T) (p1 p2 p3 : Int32) {rk rf : Nat → Int32} {rd sz : Int32} {xk xs xh : Nat → Int32} (h : ∀ i, i < 3 → p1 = nI i → RackI rk rf rd sz (xk i) (xs i) (fun j => xh (20 * i + j))) :
    ∃ (r : Int32) (rk' rf' xh' : Nat → Int32), f_X8_lay kd fg (nI L) rk rf rd sz p1 p2 p3 = some (r, rk', rf') ∧ f_X9_lay (nI L) kd fg xk xs xh p1 p2 p3 = some (r, xh') ∧ (∀ i, i < 3 → p1 = nI i → RackI rk' rf' rd sz (xk i) (xs i) (fun j => xh' (20 * i + j))) ∧ (∀ i, i < 3 → p1 ≠ nI i → ∀ j, j < 20 → xh' (20 * i + j) = xh (20 * i + j)) ∧ ((∀ i, i < 3 → p1 ≠ nI i) → rk' = rk ∧ rf' = rf) := by
  have hL := hn.2.1
  have E8 : f_X8_lay kd fg (nI L) rk rf rd sz p1 p2 p3 = f_X8_lay kd fg (nI L) rk rf rd sz p1 p2 p3 := rfl
  have E9 : f_X9_lay (nI L) kd fg xk xs xh p1 p2 p3 = f_X9_lay (nI L) kd fg xk xs xh p1 p2 p3 := rfl
  conv at E8 => rhs; unfold f_X8_lay; simp only [q_isNoRack, q_hasLine, bs1, h10, h01]
  conv at E9 => rhs; unfold f_X9_lay; simp only [q_inL p1 (lo := 0) (hi := 2) 0 2 rfl rfl, q_isLine, bs1, h01, propext (pred_lt (n := L) (by omega) p3)]
  have same : ∀ r : Int32, f_X8_lay kd fg (nI L) rk rf rd sz p1 p2 p3 = some (r, rk, rf) → f_X9_lay (nI L) kd fg xk xs xh p1 p2 p3 = some (r, xh) → ∃ (r : Int32) (rk' rf' xh' : Nat → Int32), f_X8_lay kd fg (nI L) rk rf rd sz p1 p2 p3 = some (r, rk', rf') ∧ f_X9_lay (nI L) kd fg xk xs xh p1 p2 p3 = some (r, xh') ∧ (∀ i, i < 3 → p1 = nI i → RackI rk' rf' rd sz (xk i) (xs i) (fun j => xh' (20 * i + j))) ∧ (∀ i, i < 3 → p1 ≠ nI i → ∀ j, j < 20 → xh' (20 * i + j) = xh (20 * i + j)) ∧ ((∀ i, i < 3 → p1 ≠ nI i) → rk' = rk ∧ rf' = rf) :=
    fun r a b => ⟨r, rk, rf, xh, a, b, h, fun _ _ _ _ _ => rfl, fun _ => ⟨rfl, rfl⟩⟩
  by_cases b1 : p1 < 0 ∨ 2 < p1
  · exact same (-2) (E8.trans (if_neg (fun q => q b1))) (E9.trans (if_pos b1))
  rw [if_pos b1] at E8
  rw [if_neg b1] at E9
  obtain ⟨i, hi, rfl⟩ : ∃ i : Nat, i < 3 ∧ p1 = nI i := by
    obtain ⟨i, hi, e⟩ := nI_of2 (M := 2) (n := 2) rfl (fun q => b1 (Or.inl q)) (Int32.not_lt.mp (fun q => b1 (Or.inr q)))
    exact ⟨i, by omega, e⟩
  obtain ⟨ek, es, hk, ⟨z, hz, ez⟩, hh⟩ := h i hi rfl
  rcases ix_cases p3 (n := L) (by omega) with ⟨q, -⟩ | ⟨a, ha, rfl, q⟩
  · exact same (-2) (E8.trans (if_pos q)) (E9.trans (if_pos q))
  rw [if_neg q] at E8 E9
  have h40 : a < 40 := by omega
  simp only [c3 hi, g3 hi, c40 h40, g40 h40, ek, es] at E8 E9
  subst ez
  by_cases b2 : rd = -1
  · exact same (-11) (E8.trans (by rw [b2, fault_m, bs1]; exact if_neg (by decide))) (E9.trans (if_neg (fun z => (ge0_m1 hk).mp z b2)))
  rw [if_pos ((ge0_m1 hk).mpr b2), q_inL p2 (lo := 0) (hi := (nI z - 1).toInt64) 0 (nI z - 1) rfl rfl] at E9
  simp only [bs1, h01, propext (pred_lt (n := z) (by omega) p2)] at E9
  rcases ix_cases p2 (n := z) (by omega) with ⟨q2, -⟩ | ⟨b, hb, rfl, q2⟩
  · exact same (-12) (E8.trans (by rw [fault_p b2 q2, bs1]; exact if_neg (by decide))) (E9.trans (if_pos q2))
  rw [fault_0 b2 q2, bs1, if_pos rfl] at E8
  rw [if_neg q2] at E9
  rcases hk with q3 | ⟨r, hr, rfl⟩
  · exact absurd q3 b2
  obtain ⟨k, hk1, hk2⟩ := hn.2.2.2.1 a h40
  obtain ⟨f, hf1, hf2⟩ := hn.2.2.2.2.1 a h40
  obtain ⟨u1, v, u2⟩ := under_eq k hk1 r hr
  rw [nm_eq] at E8
  rw [hk2, u1, u2] at E8
  rw [hk2, u2] at E9
  simp only [bs1] at E8 E9
  by_cases b4 : v = 0
  · exact same (-13) (E8.trans (if_pos b4)) (E9.trans (if_pos b4))
  rw [if_neg b4] at E8 E9
  have h20 : b < 20 := by omega
  have h60 : 20 * i + b < 60 := by omega
  simp only [mul20, c60 h60, g60 h60, nm_eq, hf2] at E9
  simp only [f_X2_put, c20 h20, g20 h20, nm_eq, bs2, hf2] at E8
  have e10 : (10 : Int32) * nI f + nI k = nI (10 * f + k) := by
    rw [show (10 : Int32) = nI 10 from rfl, pk_mul, nI_add]
  rw [e10] at E9
  refine ⟨_, _, _, _, E8, E9, fun j hj ej => ?_, fun j hj ej q hq => ?_, fun q => absurd rfl (q i hi)⟩
  · have : i = j := nI_inj (by omega) (by omega) ej
    subst this
    refine ⟨ek, es, Or.inr ⟨r, hr, rfl⟩, ⟨z, hz, rfl⟩, fun q hq => ?_⟩
    by_cases e : q = b
    · subst e
      exact Or.inr ⟨k, f, hk1, hf1, pk_us, pk_us, pk_us⟩
    · show (upd rk b (nI k) q = -1 ∧ upd xh (20 * i + b) (nI (10 * f + k)) (20 * i + q) = -1) ∨ _
      rw [pk_un e, pk_un (by omega)]
      rcases hh q hq with w | ⟨k', f', w1, w2, w3, w4, w5⟩
      · exact Or.inl w
      · exact Or.inr ⟨k', f', w1, w2, w3, (pk_un e).trans w4, (pk_un (by omega)).trans w5⟩
  · have hne : i ≠ j := fun e => ej (by rw [e])
    rw [pk_un (by omega)]
theorem s_of {kd fg lo hi jn nr : Nat → Int32} {la : Nat → Int64} {P L T : Nat} (hn : NetI kd fg lo hi jn nr la P L T) (p1 p2 : Int32) {rk rf : Nat → Int32} {rd sz : Int32} {xk xs xh : Nat → Int32} (h : ∀ i, i < 3 → p1 = nI i → RackI rk rf rd sz (xk i) (xs i) (fun j => xh (20 * i + j))) :
    ∃ r : Int32, f_X8_of (nI T) rk rf rd sz p1 p2 = some r ∧ f_X9_of (nI T) xk xs xh p1 p2 = some r := by
  have hT := hn.2.2.1
  have E8 : f_X8_of (nI T) rk rf rd sz p1 p2 = f_X8_of (nI T) rk rf rd sz p1 p2 := rfl
  have E9 : f_X9_of (nI T) xk xs xh p1 p2 = f_X9_of (nI T) xk xs xh p1 p2 := rfl
  conv at E8 => rhs; unfold f_X8_of; simp only [q_isNoRack, bs1, h10, h01]
  conv at E9 => rhs; unfold f_X9_of; simp only [q_inL p1 (lo := 0) (hi := 2) 0 2 rfl rfl, bs1, h01]
  by_cases b1 : p1 < 0 ∨ 2 < p1
  · exact ⟨-2, E8.trans (if_neg (fun q => q b1)), E9.trans (if_pos b1)⟩
  rw [if_pos b1] at E8
  rw [if_neg b1] at E9
  obtain ⟨i, hi, rfl⟩ : ∃ i : Nat, i < 3 ∧ p1 = nI i := by
    obtain ⟨i, hi, e⟩ := nI_of2 (M := 2) (n := 2) rfl (fun q => b1 (Or.inl q)) (Int32.not_lt.mp (fun q => b1 (Or.inr q)))
    exact ⟨i, by omega, e⟩
  obtain ⟨ek, es, hk, ⟨z, hz, ez⟩, hh⟩ := h i hi rfl
  simp only [c3 hi, g3 hi, ek, es] at E8 E9
  subst ez
  by_cases b2 : rd = -1
  · exact ⟨-11, E8.trans (by rw [b2, fault_m, bs1]; exact if_neg (by decide)), E9.trans (if_neg (fun z => (ge0_m1 hk).mp z b2))⟩
  rw [if_pos ((ge0_m1 hk).mpr b2), q_inL p2 (lo := 0) (hi := (nI z - 1).toInt64) 0 (nI z - 1) rfl rfl] at E9
  simp only [bs1, h01, propext (pred_lt (n := z) (by omega) p2)] at E9
  rcases ix_cases p2 (n := z) (by omega) with ⟨q2, -⟩ | ⟨b, hb, rfl, q2⟩
  · exact ⟨-12, E8.trans (by rw [fault_p b2 q2, bs1]; exact if_neg (by decide)), E9.trans (if_pos q2)⟩
  rw [fault_0 b2 q2, bs1, if_pos rfl] at E8
  rw [if_neg q2] at E9
  have h20 : b < 20 := by omega
  have h60 : 20 * i + b < 60 := by omega
  simp only [mul20, c60 h60, g60 h60, nm_eq] at E9
  simp only [f_X2_isEmptyAt, c20 h20, g20 h20] at E8
  rcases hh b h20 with ⟨w1, w2⟩ | ⟨k, f, w1, w2, w3, w4, w5⟩
  · have w2 : xh (20 * i + b) = -1 := w2
    rw [w1, if_pos rfl] at E8
    rw [w2, if_neg (by decide)] at E9
    exact ⟨-3, E8, E9⟩
  · have w5 : xh (20 * i + b) = nI (10 * f + k) := w5
    have hne : ¬ rk b = -1 := by
      rw [w3]
      intro e
      have := nI_pos' (n := k) (by omega)
      rw [e] at this
      exact absurd this (by decide)
    rw [if_neg hne] at E8
    rw [w5, if_pos (nI_pos' (by omega)), if_neg (by decide), if_neg (by decide)] at E9
    have d1 : nI (10 * f + k) / 10 = nI f := by
      rw [show (10 : Int32) = nI 10 from rfl, pk_div (by omega) (by omega) (by decide)]
      congr 1
      omega
    have d2 : nI (10 * f + k) - nI (10 * f + k) / 10 * 10 = nI k := by
      rw [show (10 : Int32) = nI 10 from rfl, pk_rem (by omega) (by omega) (by decide)]
      congr 1
      omega
    rw [d2, d1] at E9
    simp only [bs1] at E8
    rw [if_pos trivial, w3, w4, q_weights (nI_pos (by omega)) (nI_le (a := f) (b := 9999) w2 (by decide)) (nI_pos (by omega)) (nI_le (a := T) (b := 9) hT (by decide))] at E8
    obtain ⟨w, ew⟩ := weight_some (nI T) (nI k) (nI f)
    rw [ew] at E8 E9
    exact ⟨w, E8, E9⟩
