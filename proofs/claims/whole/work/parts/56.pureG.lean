/-! pure rows: racks -/
/-- a RACK as both hold it; hd: its twenty places in the reference's row -/
def RackI (rk rf : Nat → Int32) (kd sz xk xs : Int32) (hd : Nat → Int32) : Prop :=
  xk = kd ∧ xs = sz ∧ (kd = -1 ∨ ∃ k : Nat, k < 6 ∧ kd = nI k) ∧ (∃ z : Nat, z ≤ 20 ∧ sz = nI z) ∧ ∀ j, j < 20 → (rk j = -1 ∧ hd j = -1) ∨ ∃ k f : Nat, k < 6 ∧ f ≤ 9999 ∧ rk j = nI k ∧ rf j = nI f ∧ hd j = nI (10 * f + k)
theorem g3 {α : Type} {n : Nat} (h : n < 3) {x : Option α} : (if nI n < 0 ∨ 3 ≤ n then none else x) = x := gC h (by decide)
theorem c3 {n : Nat} (h : n < 3) : (nI n).toNatClampNeg = n := nI_clamp (by omega)
theorem g20 {α : Type} {n : Nat} (h : n < 20) {x : Option α} : (if nI n < 0 ∨ 20 ≤ n then none else x) = x := gC h (by decide)
theorem c20 {n : Nat} (h : n < 20) : (nI n).toNatClampNeg = n := nI_clamp (by omega)
theorem g60 {α : Type} {n : Nat} (h : n < 60) {x : Option α} : (if nI n < 0 ∨ 60 ≤ n then none else x) = x := gC h (by decide)
theorem c60 {n : Nat} (h : n < 60) : (nI n).toNatClampNeg = n := nI_clamp (by omega)
theorem mul20 (a b : Nat) : (20 : Int32) * nI a + nI b = nI (20 * a + b) := by
  rw [show (20 : Int32) = nI 20 from rfl, pk_mul, nI_add]
theorem rack_loop (p2 p3 : Int32) {r : Nat} (hr : r < 3) (xk xs : Nat → Int32) : ∀ (m i : Nat) (xh : Nat → Int32), i ≤ 20 → 20 - i < m → ∃ xh', f_X9_rack_b75 (nI r) p2 p3 m xk xs xh (nI i) = some (1, xk, xs, xh') ∧ ∀ j, xh' j = if 20 * r + i ≤ j ∧ j < 20 * r + 20 then -1 else xh j := by
  intro m
  induction m with
  | zero =>
    intro i xh _ h
    omega
  | succ m ih =>
    intro i xh hi hm
    show ∃ xh', f_X9_rack_s75 (nI r) p2 p3 (f_X9_rack_b75 (nI r) p2 p3 m) xk xs xh (nI i) = some (1, xk, xs, xh') ∧ _
    unfold f_X9_rack_s75
    by_cases h : 20 ≤ i
    · have e : i = 20 := by omega
      subst e
      rw [if_pos (show (20 : Int32) ≤ nI 20 by decide)]
      exact ⟨xh, rfl, fun j => by rw [if_neg (by omega)]⟩
    · rw [if_neg (show ¬ (20 : Int32) ≤ nI i from nI_ge (a := i) (b := 20) (by omega) (by decide))]
      have a0 : 20 * r + i < 60 := by omega
      simp only [mul20, c60 a0, g60 a0, nm, nI_1]
      obtain ⟨xh', h1, h2⟩ := ih (i + 1) (upd xh (20 * r + i) (-1)) (by omega) (by omega)
      refine ⟨xh', h1, fun j => ?_⟩
      rw [h2 j]
      by_cases e : j = 20 * r + i
      · subst e
        rw [if_neg (by omega), if_pos (by omega), pk_us]
      · by_cases z : 20 * r + (i + 1) ≤ j ∧ j < 20 * r + 20
        · rw [if_pos z, if_pos (by omega)]
        · rw [if_neg z, if_neg (by omega), pk_un e]
theorem m1_neg {x : Int32} (h1 : ¬ x < -1) : x < 0 ↔ x = -1 := by
  rw [Int32.lt_iff_toInt_lt, ← Int32.toInt_inj]
  rw [Int32.lt_iff_toInt_lt] at h1
  have z0 : (0 : Int32).toInt = 0 := rfl
  have z1 : (-1 : Int32).toInt = -1 := rfl
  omega
theorem s_rack (p1 p2 p3 : Int32) {rk rf : Nat → Int32} {kd sz : Int32} {xk xs xh : Nat → Int32} (h : ∀ i, i < 3 → p1 = nI i → RackI rk rf kd sz (xk i) (xs i) (fun j => xh (20 * i + j))) :
    ∃ (r : Int32) (rk' : Nat → Int32) (kd' sz' : Int32) (xk' xs' xh' : Nat → Int32), f_X8_rack rk kd sz p1 p2 p3 = some (r, rk', kd', sz') ∧ f_X9_rack xk xs xh p1 p2 p3 = some (r, xk', xs', xh') ∧ (∀ i, i < 3 → p1 = nI i → RackI rk' rf kd' sz' (xk' i) (xs' i) (fun j => xh' (20 * i + j))) ∧ (∀ i, i < 3 → p1 ≠ nI i → xk' i = xk i ∧ xs' i = xs i ∧ ∀ j, j < 20 → xh' (20 * i + j) = xh (20 * i + j)) ∧ ((∀ i, i < 3 → p1 ≠ nI i) → rk' = rk ∧ kd' = kd ∧ sz' = sz) := by
  have E8 : f_X8_rack rk kd sz p1 p2 p3 = f_X8_rack rk kd sz p1 p2 p3 := rfl
  have E9 : f_X9_rack xk xs xh p1 p2 p3 = f_X9_rack xk xs xh p1 p2 p3 := rfl
  conv at E8 => rhs; unfold f_X8_rack; simp only [q_isNoRack, q_isBeyond, bs1, h10]
  conv at E9 => rhs; unfold f_X9_rack; simp only [q_inL p1 (lo := 0) (hi := 2) 0 2 rfl rfl, q_inL p2 (lo := -1) (hi := 5) (-1) 5 rfl rfl, bs1, h01]
  have same : ∀ r : Int32, f_X8_rack rk kd sz p1 p2 p3 = some (r, rk, kd, sz) → f_X9_rack xk xs xh p1 p2 p3 = some (r, xk, xs, xh) → ∃ (r : Int32) (rk' : Nat → Int32) (kd' sz' : Int32) (xk' xs' xh' : Nat → Int32), f_X8_rack rk kd sz p1 p2 p3 = some (r, rk', kd', sz') ∧ f_X9_rack xk xs xh p1 p2 p3 = some (r, xk', xs', xh') ∧ (∀ i, i < 3 → p1 = nI i → RackI rk' rf kd' sz' (xk' i) (xs' i) (fun j => xh' (20 * i + j))) ∧ (∀ i, i < 3 → p1 ≠ nI i → xk' i = xk i ∧ xs' i = xs i ∧ ∀ j, j < 20 → xh' (20 * i + j) = xh (20 * i + j)) ∧ ((∀ i, i < 3 → p1 ≠ nI i) → rk' = rk ∧ kd' = kd ∧ sz' = sz) :=
    fun r a b => ⟨r, rk, kd, sz, xk, xs, xh, a, b, h, fun _ _ _ => ⟨rfl, rfl, fun _ _ => rfl⟩, fun _ => ⟨rfl, rfl, rfl⟩⟩
  by_cases b1 : p1 < 0 ∨ 2 < p1
  · exact same (-2) (E8.trans (if_neg (fun q => q b1))) (E9.trans (if_pos b1))
  rw [if_pos b1] at E8
  rw [if_neg b1] at E9
  by_cases b2 : p2 < -1 ∨ 5 < p2
  · exact same (-2) (E8.trans (if_neg (fun q => q b2))) (E9.trans (if_pos b2))
  rw [if_pos b2] at E8
  rw [if_neg b2] at E9
  have hneg : p2 < 0 ↔ p2 = -1 := m1_neg (fun q => b2 (Or.inl q))
  obtain ⟨i, hi, rfl⟩ : ∃ i : Nat, i < 3 ∧ p1 = nI i := by
    obtain ⟨i, hi, e⟩ := nI_of2 (M := 2) (n := 2) rfl (fun q => b1 (Or.inl q)) (Int32.not_lt.mp (fun q => b1 (Or.inr q)))
    exact ⟨i, by omega, e⟩
  -- the rack becomes another one
  have go : ∀ z : Nat, z ≤ 20 → (∀ g, f_J7_fill_53178 rk 20 (-1) = some g → f_X8_rack rk kd sz (nI i) p2 p3 = some (1, g, p2, nI z)) → f_X9_rack xk xs xh (nI i) p2 p3 = f_X9_rack_b75 (nI i) p2 p3 70 (upd xk i p2) (upd xs i (nI z)) xh 0 → ∃ (r : Int32) (rk' : Nat → Int32) (kd' sz' : Int32) (xk' xs' xh' : Nat → Int32), f_X8_rack rk kd sz (nI i) p2 p3 = some (r, rk', kd', sz') ∧ f_X9_rack xk xs xh (nI i) p2 p3 = some (r, xk', xs', xh') ∧ (∀ j, j < 3 → nI i = nI j → RackI rk' rf kd' sz' (xk' j) (xs' j) (fun q => xh' (20 * j + q))) ∧ (∀ j, j < 3 → nI i ≠ nI j → xk' j = xk j ∧ xs' j = xs j ∧ ∀ q, q < 20 → xh' (20 * j + q) = xh (20 * j + q)) ∧ ((∀ j, j < 3 → nI i ≠ nI j) → rk' = rk ∧ kd' = kd ∧ sz' = sz) := by
    intro z hz q8 q9
    obtain ⟨g, g1, g2⟩ := q_fillI rk (n := 20) (by decide) (-1)
    obtain ⟨xh', e1, e2⟩ := rack_loop p2 p3 hi (upd xk i p2) (upd xs i (nI z)) 70 0 xh (by omega) (by omega)
    rw [nI_0] at e1
    refine ⟨1, g, p2, nI z, _, _, xh', q8 g g1, q9.trans e1, fun j hj ej => ?_, fun j hj ej => ?_, fun q => absurd rfl (q i hi)⟩
    · have : i = j := nI_inj (by omega) (by omega) ej
      subst this
      refine ⟨pk_us, pk_us, ?_, ⟨z, hz, rfl⟩, fun q hq => Or.inl ⟨?_, ?_⟩⟩
      · by_cases e : p2 = -1
        · exact Or.inl e
        · obtain ⟨k, hk, e2⟩ := nI_of2 (M := 5) (n := 5) rfl (fun q => e (hneg.mp q)) (Int32.not_lt.mp (fun q => b2 (Or.inr q)))
          exact Or.inr ⟨k, by omega, e2⟩
      · rw [g2, if_pos hq]
      · show xh' (20 * i + q) = -1
        rw [e2, if_pos (by omega)]
    · have hne : i ≠ j := fun e => ej (by rw [e])
      refine ⟨pk_un (Ne.symm hne), pk_un (Ne.symm hne), fun q hq => ?_⟩
      rw [e2, if_neg (by omega)]
  have B8 : ∀ g, f_J7_fill_53178 rk 20 (-1) = some g → f_X8_rack_b42 (nI i) p2 p3 rk kd sz = some (1, g, p2, if p2 = -1 then 0 else p3) := by
    intro g hg
    unfold f_X8_rack_b42 f_X2_begin
    rw [gN hi (by decide), hg]
    by_cases e : p2 = -1
    · rw [if_pos e, if_pos e]
      rfl
    · rw [if_neg e, if_neg e]
      rfl
  have B9 : f_X9_rack_b50 (nI i) p2 p3 xk xs xh = f_X9_rack_b75 (nI i) p2 p3 70 (upd xk i p2) (upd xs i (if p2 = -1 then 0 else p3)) xh 0 := by
    unfold f_X9_rack_b50
    rw [gN hi (by decide), nm_eq]
    by_cases e : p2 = -1
    · rw [if_neg (show ¬ 0 ≤ p2 from fun q => absurd (hneg.mpr e) (Int32.not_lt.mpr q)), gN hi (by decide), nm_eq, if_pos e, c3 hi]
    · rw [if_pos (show 0 ≤ p2 from Int32.not_lt.mp (fun q => e (hneg.mp q))), gN hi (by decide), nm_eq, if_neg e, c3 hi]
  by_cases e : p2 = -1
  · rw [if_pos e] at E8
    rw [if_pos (hneg.mpr e)] at E9
    unfold f_X8_rack_b30 at E8
    unfold f_X9_rack_b39 at E9
    rw [if_pos e] at E8
    rw [if_pos (hneg.mpr e)] at E9
    refine go 0 (by omega) (fun g hg => ?_) ?_
    · rw [E8, B8 g hg, if_pos e]
      rfl
    · rw [E9, B9, if_pos e]
      rfl
  · rw [if_neg e] at E8
    rw [if_neg (fun q => e (hneg.mp q))] at E9
    by_cases b3 : p3 ≤ 20
    · rw [if_pos b3] at E8 E9
      unfold f_X8_rack_b30 at E8
      unfold f_X9_rack_b39 at E9
      rw [if_neg e] at E8
      rw [if_neg (fun q => e (hneg.mp q))] at E9
      by_cases b4 : 0 ≤ p3
      · rw [if_pos b4] at E8 E9
        obtain ⟨z, hz, rfl⟩ := nI_of2 (M := 20) (n := 20) rfl (Int32.not_lt.mpr b4) b3
        refine go z hz (fun g hg => ?_) ?_
        · rw [E8, B8 g hg, if_neg e]
        · rw [E9, B9, if_neg e]
      · exact same (-14) (E8.trans (if_neg b4)) (E9.trans (if_neg b4))
    · exact same (-2) (E8.trans (if_neg b3)) (E9.trans (if_neg b3))
theorem under_eq : ∀ k, k < 6 → ∀ r, r < 6 → f_X8_isUnder (nI k) (nI r) = f_X9_isUnder (nI k) (nI r) ∧ ∃ b, f_X9_isUnder (nI k) (nI r) = some b := by
  intro k hk r hr
  rcases (show k = 0 ∨ k = 1 ∨ k = 2 ∨ k = 3 ∨ k = 4 ∨ k = 5 by omega) with rfl | rfl | rfl | rfl | rfl | rfl <;> rcases (show r = 0 ∨ r = 1 ∨ r = 2 ∨ r = 3 ∨ r = 4 ∨ r = 5 by omega) with rfl | rfl | rfl | rfl | rfl | rfl <;> exact ⟨rfl, _, rfl⟩
