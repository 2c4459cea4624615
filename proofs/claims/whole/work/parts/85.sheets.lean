/-! pure rows: sheets -/
theorem g4 {α : Type} {n : Nat} (h : n < 4) {x : Option α} : (if nI n < 0 ∨ 4 ≤ n then none else x) = x := gC h (by decide)
theorem c4 {n : Nat} (h : n < 4) : (nI n).toNatClampNeg = n := nI_clamp (by omega)
theorem g240 {α : Type} {n : Nat} (h : n < 240) {x : Option α} : (if nI n < 0 ∨ 240 ≤ n then none else x) = x := gC h (by decide)
theorem c240 {n : Nat} (h : n < 240) : (nI n).toNatClampNeg = n := nI_clamp (by omega)
theorem mul60 (a b : Nat) : (60 : Int32) * nI a + nI b = nI (60 * a + b) := by
  rw [show (60 : Int32) = nI 60 from rfl, pk_mul, nI_add]
theorem vf_s {α : Type} {f : Nat → α} {k : Nat} {x : α} : vf_upd f k x k = x := if_pos rfl
theorem vf_n {α : Type} {f : Nat → α} {k j : Nat} {x : α} (h : j ≠ k) : vf_upd f k x j = f j := if_neg h
/-- numbers of at most 2 to the 63rd -/
def okF (x : UInt32) : Prop := x.toNat % 2 ^ 31 ≤ 190 * 2 ^ 23
def okD (x : UInt64) : Prop := x.toNat % 2 ^ 63 ≤ 1086 * 2 ^ 52
theorem ok_l2f (v : Int64) : okF (FP.l2f v) := FP.Core.fromInt_mag32 (FP.Core.toNat_l2f v) (j := 63) (K := 190) (FP.Core.int64_abs v) (by decide) (by decide)
theorem ok_l2d (v : Int64) : okD (FP.l2d v) := FP.Core.fromInt_mag (FP.Core.toNat_l2d v) (j := 63) (K := 1086) (FP.Core.int64_abs v) (by decide) (by decide)
theorem l2f_0 : FP.l2f 0 = FP.fconst0 := FP.Core.l2f_zero
theorem l2d_0 : FP.l2d 0 = FP.dconst0 := FP.Core.l2d_zero
def sgF (c : UInt32) (n : Int32) : Prop := n < 0 ↔ 2 ^ 31 ≤ c.toNat
def sgD (d : UInt64) (n : Int32) : Prop := n < 0 ↔ 2 ^ 63 ≤ d.toNat
theorem sgn_l2f (v : Int64) : 2 ^ 31 ≤ (FP.l2f v).toNat ↔ v < 0 := by
  obtain ⟨c, q, e⟩ := FP.Core.l2f_shape v
  have e : FP.Core.val32 (FP.l2f v) = .fin (decide (v.toInt < 0)) c q := e
  have hs := FP.Core.sgn_bits32 (a := FP.l2f v) (by rw [e]; exact fun z => by cases z)
  rw [e] at hs
  have hs : decide (v.toInt < 0) = decide (2 ^ 31 ≤ (FP.l2f v).toNat) := hs
  rw [Int64.lt_iff_toInt_lt]
  exact (decide_eq_decide.mp hs).symm
theorem sgn_l2d (v : Int64) : 2 ^ 63 ≤ (FP.l2d v).toNat ↔ v < 0 := by
  obtain ⟨c, q, e⟩ := FP.Core.l2d_shape v
  have e : FP.Core.val64 (FP.l2d v) = .fin (decide (v.toInt < 0)) c q := e
  have hs := FP.Core.sgn_bits (a := FP.l2d v) (by rw [e]; exact fun z => by cases z)
  rw [e] at hs
  have hs : decide (v.toInt < 0) = decide (2 ^ 63 ≤ (FP.l2d v).toNat) := hs
  rw [Int64.lt_iff_toInt_lt]
  exact (decide_eq_decide.mp hs).symm
/-- how a long stands to nothing -/
def cz (v : Int64) : Int32 := if v < 0 then -1 else if v = 0 then 0 else 1
theorem cz_neg (v : Int64) : cz v < 0 ↔ v < 0 := by
  unfold cz
  by_cases h : v < 0
  · rw [if_pos h]
    exact ⟨fun _ => h, fun _ => by decide⟩
  · rw [if_neg h]
    refine ⟨fun q => ?_, fun q => absurd q h⟩
    by_cases h2 : v = 0
    · rw [if_pos h2] at q
      exact absurd q (by decide)
    · rw [if_neg h2] at q
      exact absurd q (by decide)
theorem q_cz (v : Int64) : f_J13_compare_74951 v 0 = some (cz v) := by
  unfold f_J13_compare_74951 cz
  simp only [lg_cmp_ge, lg_cmp_eq]
  by_cases h : v < 0
  · rw [if_neg (fun q => absurd h (Int64.not_lt.mpr q)), if_pos h]
  · rw [if_pos (Int64.not_lt.mp h), if_neg h]
    by_cases h2 : v = 0
    · rw [if_pos h2, if_pos h2]
    · rw [if_neg h2, if_neg h2]
theorem sgF_put (v : Int64) : sgF (FP.l2f v) (cz v) := (cz_neg v).trans (sgn_l2f v).symm
theorem sgD_put (v : Int64) : sgD (FP.l2d v) (cz v) := (cz_neg v).trans (sgn_l2d v).symm
def CellI (so a : Int32) (b : Int64) (c : UInt32) (d : UInt64) (n : Int32) (w : Int64) (f : UInt32) (g : UInt64) : Prop :=
  (so = 0 → w = a.toInt64) ∧ (so = 1 → w = b) ∧ (so = 2 → f = c ∧ sgF c n) ∧ (so = 3 → g = d ∧ sgD d n) ∧ okF f ∧ okD g
def sortI (so : Int32) : Prop := so = -1 ∨ so = 0 ∨ so = 1 ∨ so = 2 ∨ so = 3
def SheetI (si : Nat → Int32) (sl : Nat → Int64) (sf : Nat → UInt32) (sd : Nat → UInt64) (sn : Nat → Int32) (so sz xo xz : Int32) (xw : Nat → Int64) (xf : Nat → UInt32) (xd : Nat → UInt64) : Prop :=
  xo = so ∧ xz = sz ∧ sortI so ∧ (∃ z : Nat, z ≤ 60 ∧ sz = nI z) ∧ ∀ j, j < 60 → CellI so (si j) (sl j) (sf j) (sd j) (sn j) (xw j) (xf j) (xd j)
/-- the SHEET that an argument tells, if it tells one -/
def ShAt (p1 : Int32) (si : Nat → Int32) (sl : Nat → Int64) (sf : Nat → UInt32) (sd : Nat → UInt64) (sn : Nat → Int32) (so sz : Int32) (xo xz : Nat → Int32) (xw : Nat → Int64) (xf : Nat → UInt32) (xd : Nat → UInt64) : Prop :=
  ∀ i, i < 4 → p1 = nI i → SheetI si sl sf sd sn so sz (xo i) (xz i) (fun j => xw (60 * i + j)) (fun j => xf (60 * i + j)) (fun j => xd (60 * i + j))
/-- the other SHEETS stay -/
def ShKeep (p1 : Int32) (xo xz : Nat → Int32) (xw : Nat → Int64) (xf : Nat → UInt32) (xd : Nat → UInt64) (xo' xz' : Nat → Int32) (xw' : Nat → Int64) (xf' : Nat → UInt32) (xd' : Nat → UInt64) : Prop :=
  ∀ i, i < 4 → p1 ≠ nI i → xo' i = xo i ∧ xz' i = xz i ∧ ∀ j, j < 60 → xw' (60 * i + j) = xw (60 * i + j) ∧ xf' (60 * i + j) = xf (60 * i + j) ∧ xd' (60 * i + j) = xd (60 * i + j)
def ShOut (p1 : Int32) (si : Nat → Int32) (sl : Nat → Int64) (sf : Nat → UInt32) (sd : Nat → UInt64) (sn : Nat → Int32) (so sz : Int32) (xo xz : Nat → Int32) (xw : Nat → Int64) (xf : Nat → UInt32) (xd : Nat → UInt64) (si' : Nat → Int32) (sl' : Nat → Int64) (sf' : Nat → UInt32) (sd' : Nat → UInt64) (sn' : Nat → Int32) (so' sz' : Int32) (xo' xz' : Nat → Int32) (xw' : Nat → Int64) (xf' : Nat → UInt32) (xd' : Nat → UInt64) : Prop :=
  ShAt p1 si' sl' sf' sd' sn' so' sz' xo' xz' xw' xf' xd' ∧ ShKeep p1 xo xz xw xf xd xo' xz' xw' xf' xd' ∧ ((∀ i, i < 4 → p1 ≠ nI i) → si' = si ∧ sl' = sl ∧ sf' = sf ∧ sd' = sd ∧ sn' = sn ∧ so' = so ∧ sz' = sz)
section
variable {p1 : Int32} {si : Nat → Int32} {sl : Nat → Int64} {sf : Nat → UInt32} {sd : Nat → UInt64} {sn : Nat → Int32} {so sz : Int32} {xo xz : Nat → Int32} {xw : Nat → Int64} {xf : Nat → UInt32} {xd : Nat → UInt64}
theorem ShOut.refl (h : ShAt p1 si sl sf sd sn so sz xo xz xw xf xd) : ShOut p1 si sl sf sd sn so sz xo xz xw xf xd si sl sf sd sn so sz xo xz xw xf xd :=
  ⟨h, fun _ _ _ => ⟨rfl, rfl, fun _ _ => ⟨rfl, rfl, rfl⟩⟩, fun _ => ⟨rfl, rfl, rfl, rfl, rfl, rfl, rfl⟩⟩
theorem ShOut.trans {si1 : Nat → Int32} {sl1 : Nat → Int64} {sf1 : Nat → UInt32} {sd1 : Nat → UInt64} {sn1 : Nat → Int32} {so1 sz1 : Int32} {xo1 xz1 : Nat → Int32} {xw1 : Nat → Int64} {xf1 : Nat → UInt32} {xd1 : Nat → UInt64} {si' : Nat → Int32} {sl' : Nat → Int64} {sf' : Nat → UInt32} {sd' : Nat → UInt64} {sn' : Nat → Int32} {so' sz' : Int32} {xo' xz' : Nat → Int32} {xw' : Nat → Int64} {xf' : Nat → UInt32} {xd' : Nat → UInt64}
    (h1 : ShOut p1 si sl sf sd sn so sz xo xz xw xf xd si1 sl1 sf1 sd1 sn1 so1 sz1 xo1 xz1 xw1 xf1 xd1) (h2 : ShOut p1 si1 sl1 sf1 sd1 sn1 so1 sz1 xo1 xz1 xw1 xf1 xd1 si' sl' sf' sd' sn' so' sz' xo' xz' xw' xf' xd') : ShOut p1 si sl sf sd sn so sz xo xz xw xf xd si' sl' sf' sd' sn' so' sz' xo' xz' xw' xf' xd' := by
  refine ⟨h2.1, fun i hi e => ?_, fun q => ?_⟩
  · obtain ⟨a1, a2, a3⟩ := h1.2.1 i hi e
    obtain ⟨b1, b2, b3⟩ := h2.2.1 i hi e
    exact ⟨b1.trans a1, b2.trans a2, fun j hj => ⟨(b3 j hj).1.trans (a3 j hj).1, (b3 j hj).2.1.trans (a3 j hj).2.1, (b3 j hj).2.2.trans (a3 j hj).2.2⟩⟩
  · obtain ⟨a1, a2, a3, a4, a5, a6, a7⟩ := h1.2.2 q
    obtain ⟨b1, b2, b3, b4, b5, b6, b7⟩ := h2.2.2 q
    exact ⟨b1.trans a1, b2.trans a2, b3.trans a3, b4.trans a4, b5.trans a5, b6.trans a6, b7.trans a7⟩
/-- one place becomes another -/
theorem ShOut.one {i b : Nat} (hi : i < 4) (hb : b < 60) (h : ShAt (nI i) si sl sf sd sn so sz xo xz xw xf xd) {si' : Nat → Int32} {sl' : Nat → Int64} {sf' : Nat → UInt32} {sd' : Nat → UInt64} {sn' : Nat → Int32} (hk : ∀ q, q ≠ b → si' q = si q ∧ sl' q = sl q ∧ sf' q = sf q ∧ sd' q = sd q ∧ sn' q = sn q) {w : Int64} {f : UInt32} {g : UInt64} (hc : CellI so (si' b) (sl' b) (sf' b) (sd' b) (sn' b) w f g) :
    ShOut (nI i) si sl sf sd sn so sz xo xz xw xf xd si' sl' sf' sd' sn' so sz xo xz (vp_updL xw (60 * i + b) w) (vf_upd xf (60 * i + b) f) (vf_upd xd (60 * i + b) g) := by
  refine ⟨fun j hj ej => ?_, fun j hj ej => ?_, fun q => absurd rfl (q i hi)⟩
  · have : i = j := nI_inj (by omega) (by omega) ej
    subst this
    obtain ⟨e1, e2, e3, e4, hh⟩ := h i hi rfl
    refine ⟨e1, e2, e3, e4, fun q hq => ?_⟩
    show CellI so (si' q) (sl' q) (sf' q) (sd' q) (sn' q) (vp_updL xw (60 * i + b) w (60 * i + q)) (vf_upd xf (60 * i + b) f (60 * i + q)) (vf_upd xd (60 * i + b) g (60 * i + q))
    by_cases e : q = b
    · subst e
      rw [pk_uLs, vf_s, vf_s]
      exact hc
    · obtain ⟨k1, k2, k3, k4, k5⟩ := hk q e
      rw [k1, k2, k3, k4, k5, pk_uLn (by omega), vf_n (by omega), vf_n (by omega)]
      exact hh q hq
  · have hne : i ≠ j := fun e => ej (by rw [e])
    exact ⟨rfl, rfl, fun q hq => ⟨pk_uLn (by omega), vf_n (by omega), vf_n (by omega)⟩⟩
end
theorem q_isMissing3 (k : Int32) : f_X3_isMissing k = some (if k = -1 then 1 else 0) := by
  unfold f_X3_isMissing
  by_cases h : k = -1 <;> simp [h]
theorem q_hasPlace3 (n a : Int32) : f_X3_hasPlace n a = some (if a < 0 ∨ n ≤ a then 0 else 1) := by
  unfold f_X3_hasPlace
  by_cases h1 : a < 0 <;> by_cases h2 : n ≤ a <;> simp [h1, h2]
theorem q_fault (so sz a : Int32) : f_X3_faultAt so sz a = some (if so = -1 then -11 else if a < 0 ∨ sz ≤ a then -12 else 0) := by
  unfold f_X3_faultAt
  rw [q_isMissing3, q_hasPlace3, bE1, bE1]
  simp only [h10, h01]
  by_cases h1 : so = -1
  · rw [if_pos h1, if_neg (fun q => q h1)]
  · rw [if_neg h1, if_pos h1]
    by_cases h2 : a < 0 ∨ sz ≤ a
    · rw [if_pos h2, if_pos h2]
    · rw [if_neg h2, if_neg h2]
theorem sort0 {so : Int32} (h : sortI so) : 0 ≤ so ↔ ¬ so = -1 := by
  rcases h with rfl | rfl | rfl | rfl | rfl <;> decide
theorem sort0' {so : Int32} (h : sortI so) : so < 0 ↔ so = -1 := by
  rcases h with rfl | rfl | rfl | rfl | rfl <;> decide
theorem in3 {i : Nat} (hi : i < 4) : ¬ (nI i < 0 ∨ 3 < nI i) := fun q => q.elim (nI_pos (by omega)) (nI_nlt (a := 3) (b := i) (by omega) (by decide))
theorem of3 {p1 : Int32} (b1 : ¬ (p1 < 0 ∨ 3 < p1)) : ∃ i : Nat, i < 4 ∧ p1 = nI i := by
  obtain ⟨i, hi, e⟩ := nI_of2 (M := 3) (n := 3) rfl (fun q => b1 (Or.inl q)) (Int32.not_lt.mp (fun q => b1 (Or.inr q)))
  exact ⟨i, by omega, e⟩
theorem q_wrong {i z : Nat} (hi : i < 4) (hz : z ≤ 60) {xo xz : Nat → Int32} (ez : xz i = nI z) (ho : sortI (xo i)) (p2 : Int32) : f_X9_wrong xo xz (nI i) p2 = some (if xo i = -1 then -11 else if p2 < 0 ∨ nI z ≤ p2 then -12 else 0) := by
  unfold f_X9_wrong
  rw [q_isSheet, bE1]
  simp only [h01]
  rw [if_neg (in3 hi)]
  simp only [c4 hi, g4 hi, ez]
  by_cases b : xo i = -1
  · rw [if_pos b, if_neg (fun q => (sort0 ho).mp q b)]
  · rw [if_neg b, if_pos ((sort0 ho).mpr b), q_inL p2 (lo := 0) (hi := (nI z - 1).toInt64) 0 (nI z - 1) rfl rfl, bE1]
    simp only [h01, propext (pred_lt (n := z) (by omega) p2)]
    by_cases h2 : p2 < 0 ∨ nI z ≤ p2
    · rw [if_pos h2, if_pos h2]
    · rw [if_neg h2, if_neg h2]
theorem q_puts {i j : Nat} (hi : i < 4) (hj : j < 60) (xw : Nat → Int64) (xf : Nat → UInt32) (xd : Nat → UInt64) (v : Int64) : f_X9_puts xw xf xd (nI i) (nI j) v = some (vp_updL xw (60 * i + j) v, vf_upd xf (60 * i + j) (FP.l2f v), vf_upd xd (60 * i + j) (FP.l2d v)) := by
  have h : 60 * i + j < 240 := by omega
  unfold f_X9_puts
  simp only [mul60, c240 h, g240 h, nm]
theorem begin_loop (p1 p2 so sz : Int32) : ∀ (m i : Nat) (si : Nat → Int32) (sl : Nat → Int64) (sf : Nat → UInt32) (sd : Nat → UInt64) (sn : Nat → Int32), i ≤ 60 → 60 - i < m → ∃ si' sl' sf' sd' sn', f_X3_begin_b21 p1 p2 m si sl sf sd sn so sz (nI i) = some (si', sl', sf', sd', sn', so, sz) ∧ ∀ j, j < 60 → si' j = (if i ≤ j then 0 else si j) ∧ sl' j = (if i ≤ j then 0 else sl j) ∧ sf' j = (if i ≤ j then FP.fconst0 else sf j) ∧ sd' j = (if i ≤ j then FP.dconst0 else sd j) ∧ sn' j = (if i ≤ j then 0 else sn j) := by
  intro m
  induction m with
  | zero =>
    intro i si sl sf sd sn _ h
    omega
  | succ m ih =>
    intro i si sl sf sd sn hi hm
    show ∃ si' sl' sf' sd' sn', f_X3_begin_s21 p1 p2 (f_X3_begin_b21 p1 p2 m) si sl sf sd sn so sz (nI i) = some (si', sl', sf', sd', sn', so, sz) ∧ _
    unfold f_X3_begin_s21
    by_cases h : 60 ≤ i
    · have e : i = 60 := by omega
      subst e
      rw [if_pos (show (60 : Int32) ≤ nI 60 by decide)]
      exact ⟨si, sl, sf, sd, sn, rfl, fun j hj => ⟨(if_neg (by omega)).symm, (if_neg (by omega)).symm, (if_neg (by omega)).symm, (if_neg (by omega)).symm, (if_neg (by omega)).symm⟩⟩
    · have a : i < 60 := by omega
      rw [if_neg (show ¬ (60 : Int32) ≤ nI i from nI_ge (a := i) (b := 60) (by omega) (by decide))]
      simp only [c60 a, g60 a, nm, nI_1]
      obtain ⟨si', sl', sf', sd', sn', h1, h2⟩ := ih (i + 1) (upd si i 0) (vp_updL sl i 0) (vf_upd sf i FP.fconst0) (vf_upd sd i FP.dconst0) (upd sn i 0) (by omega) (by omega)
      refine ⟨si', sl', sf', sd', sn', h1, fun j hj => ?_⟩
      obtain ⟨w1, w2, w3, w4, w5⟩ := h2 j hj
      by_cases e : j = i
      · subst e
        have nn : ¬ j + 1 ≤ j := by omega
        rw [if_neg nn] at w1 w2 w3 w4 w5
        exact ⟨w1.trans (pk_us.trans (if_pos (Nat.le_refl j)).symm), w2.trans (pk_uLs.trans (if_pos (Nat.le_refl j)).symm), w3.trans (vf_s.trans (if_pos (Nat.le_refl j)).symm), w4.trans (vf_s.trans (if_pos (Nat.le_refl j)).symm), w5.trans (pk_us.trans (if_pos (Nat.le_refl j)).symm)⟩
      · by_cases z : i + 1 ≤ j
        · have z2 : i ≤ j := by omega
          rw [if_pos z] at w1 w2 w3 w4 w5
          exact ⟨w1.trans (if_pos z2).symm, w2.trans (if_pos z2).symm, w3.trans (if_pos z2).symm, w4.trans (if_pos z2).symm, w5.trans (if_pos z2).symm⟩
        · have z2 : ¬ i ≤ j := by omega
          rw [if_neg z] at w1 w2 w3 w4 w5
          exact ⟨w1.trans ((pk_un e).trans (if_neg z2).symm), w2.trans ((pk_uLn e).trans (if_neg z2).symm), w3.trans ((vf_n e).trans (if_neg z2).symm), w4.trans ((vf_n e).trans (if_neg z2).symm), w5.trans ((pk_un e).trans (if_neg z2).symm)⟩
theorem sheet_loop (p2 p3 : Int32) {r : Nat} (hr : r < 4) (xo xz : Nat → Int32) : ∀ (m i : Nat) (xw : Nat → Int64) (xf : Nat → UInt32) (xd : Nat → UInt64), i ≤ 60 → 60 - i < m → ∃ xw' xf' xd', f_X9_sheet_b70 (nI r) p2 p3 m xo xz xw xf xd (nI i) = some (1, xo, xz, xw', xf', xd') ∧ ∀ j, xw' j = (if 60 * r + i ≤ j ∧ j < 60 * r + 60 then 0 else xw j) ∧ xf' j = (if 60 * r + i ≤ j ∧ j < 60 * r + 60 then FP.l2f 0 else xf j) ∧ xd' j = (if 60 * r + i ≤ j ∧ j < 60 * r + 60 then FP.l2d 0 else xd j) := by
  intro m
  induction m with
  | zero =>
    intro i xw xf xd _ h
    omega
  | succ m ih =>
    intro i xw xf xd hi hm
    show ∃ xw' xf' xd', f_X9_sheet_s70 (nI r) p2 p3 (f_X9_sheet_b70 (nI r) p2 p3 m) xo xz xw xf xd (nI i) = some (1, xo, xz, xw', xf', xd') ∧ _
    unfold f_X9_sheet_s70
    by_cases h : 60 ≤ i
    · have e : i = 60 := by omega
      subst e
      rw [if_pos (show (60 : Int32) ≤ nI 60 by decide)]
      exact ⟨xw, xf, xd, rfl, fun j => ⟨(if_neg (by omega)).symm, (if_neg (by omega)).symm, (if_neg (by omega)).symm⟩⟩
    · have a : i < 60 := by omega
      rw [if_neg (show ¬ (60 : Int32) ≤ nI i from nI_ge (a := i) (b := 60) (by omega) (by decide)), q_puts hr a]
      simp only [bs3, nm, nI_1]
      obtain ⟨xw', xf', xd', h1, h2⟩ := ih (i + 1) (vp_updL xw (60 * r + i) 0) (vf_upd xf (60 * r + i) (FP.l2f 0)) (vf_upd xd (60 * r + i) (FP.l2d 0)) (by omega) (by omega)
      refine ⟨xw', xf', xd', h1, fun j => ?_⟩
      obtain ⟨w1, w2, w3⟩ := h2 j
      by_cases e : j = 60 * r + i
      · subst e
        have nn : ¬ (60 * r + (i + 1) ≤ 60 * r + i ∧ 60 * r + i < 60 * r + 60) := by omega
        have yy : 60 * r + i ≤ 60 * r + i ∧ 60 * r + i < 60 * r + 60 := by omega
        rw [if_neg nn] at w1 w2 w3
        exact ⟨w1.trans (pk_uLs.trans (if_pos yy).symm), w2.trans (vf_s.trans (if_pos yy).symm), w3.trans (vf_s.trans (if_pos yy).symm)⟩
      · by_cases z : 60 * r + (i + 1) ≤ j ∧ j < 60 * r + 60
        · have z2 : 60 * r + i ≤ j ∧ j < 60 * r + 60 := by omega
          rw [if_pos z] at w1 w2 w3
          exact ⟨w1.trans (if_pos z2).symm, w2.trans (if_pos z2).symm, w3.trans (if_pos z2).symm⟩
        · have z2 : ¬ (60 * r + i ≤ j ∧ j < 60 * r + 60) := by omega
          rw [if_neg z] at w1 w2 w3
          exact ⟨w1.trans ((pk_uLn e).trans (if_neg z2).symm), w2.trans ((vf_n e).trans (if_neg z2).symm), w3.trans ((vf_n e).trans (if_neg z2).symm)⟩
theorem cell0 (so : Int32) : CellI so 0 0 FP.fconst0 FP.dconst0 0 0 (FP.l2f 0) (FP.l2d 0) :=
  ⟨fun _ => rfl, fun _ => rfl, fun _ => ⟨l2f_0, by rw [← l2f_0]; exact sgF_put 0⟩, fun _ => ⟨l2d_0, by rw [← l2d_0]; exact sgD_put 0⟩, ok_l2f 0, ok_l2d 0⟩
theorem s_sheet (p1 p2 p3 : Int32) {si : Nat → Int32} {sl : Nat → Int64} {sf : Nat → UInt32} {sd : Nat → UInt64} {sn : Nat → Int32} {so sz : Int32} {xo xz : Nat → Int32} {xw : Nat → Int64} {xf : Nat → UInt32} {xd : Nat → UInt64} (h : ShAt p1 si sl sf sd sn so sz xo xz xw xf xd) :
    ∃ (r : Int32) (si' : Nat → Int32) (sl' : Nat → Int64) (sf' : Nat → UInt32) (sd' : Nat → UInt64) (sn' : Nat → Int32) (so' sz' : Int32) (xo' xz' : Nat → Int32) (xw' : Nat → Int64) (xf' : Nat → UInt32) (xd' : Nat → UInt64), f_X8_sheet si sl sf sd sn so sz p1 p2 p3 = some (r, si', sl', sf', sd', sn', so', sz') ∧ f_X9_sheet xo xz xw xf xd p1 p2 p3 = some (r, xo', xz', xw', xf', xd') ∧ ShOut p1 si sl sf sd sn so sz xo xz xw xf xd si' sl' sf' sd' sn' so' sz' xo' xz' xw' xf' xd' := by
  have E8 : f_X8_sheet si sl sf sd sn so sz p1 p2 p3 = f_X8_sheet si sl sf sd sn so sz p1 p2 p3 := rfl
  have E9 : f_X9_sheet xo xz xw xf xd p1 p2 p3 = f_X9_sheet xo xz xw xf xd p1 p2 p3 := rfl
  conv at E8 => rhs; unfold f_X8_sheet; simp only [q_isNoSheet, q_isBeyond, bs1, h10]
  conv at E9 => rhs; unfold f_X9_sheet; simp only [q_isSheet, q_inL p2 (lo := -1) (hi := 3) (-1) 3 rfl rfl, bs1, h01]
  have same : ∀ r : Int32, f_X8_sheet si sl sf sd sn so sz p1 p2 p3 = some (r, si, sl, sf, sd, sn, so, sz) → f_X9_sheet xo xz xw xf xd p1 p2 p3 = some (r, xo, xz, xw, xf, xd) → ∃ (r : Int32) (si' : Nat → Int32) (sl' : Nat → Int64) (sf' : Nat → UInt32) (sd' : Nat → UInt64) (sn' : Nat → Int32) (so' sz' : Int32) (xo' xz' : Nat → Int32) (xw' : Nat → Int64) (xf' : Nat → UInt32) (xd' : Nat → UInt64), f_X8_sheet si sl sf sd sn so sz p1 p2 p3 = some (r, si', sl', sf', sd', sn', so', sz') ∧ f_X9_sheet xo xz xw xf xd p1 p2 p3 = some (r, xo', xz', xw', xf', xd') ∧ ShOut p1 si sl sf sd sn so sz xo xz xw xf xd si' sl' sf' sd' sn' so' sz' xo' xz' xw' xf' xd' :=
    fun r a b => ⟨r, si, sl, sf, sd, sn, so, sz, xo, xz, xw, xf, xd, a, b, ShOut.refl h⟩
  by_cases b1 : p1 < 0 ∨ 3 < p1
  · exact same (-2) (E8.trans (if_neg (fun q => q b1))) (E9.trans (if_pos b1))
  rw [if_pos b1] at E8
  rw [if_neg b1] at E9
  by_cases b2 : p2 < -1 ∨ 3 < p2
  · exact same (-2) (E8.trans (if_neg (fun q => q b2))) (E9.trans (if_pos b2))
  rw [if_pos b2] at E8
  rw [if_neg b2] at E9
  have hneg : p2 < 0 ↔ p2 = -1 := m1_neg (fun q => b2 (Or.inl q))
  have hso : sortI p2 := by
    by_cases e : p2 = -1
    · exact Or.inl e
    · obtain ⟨k, hk, e2⟩ := nI_of2 (M := 3) (n := 3) rfl (fun q => e (hneg.mp q)) (Int32.not_lt.mp (fun q => b2 (Or.inr q)))
      rcases (show k = 0 ∨ k = 1 ∨ k = 2 ∨ k = 3 by omega) with rfl | rfl | rfl | rfl
      · exact Or.inr (Or.inl e2)
      · exact Or.inr (Or.inr (Or.inl e2))
      · exact Or.inr (Or.inr (Or.inr (Or.inl e2)))
      · exact Or.inr (Or.inr (Or.inr (Or.inr e2)))
  obtain ⟨i, hi, rfl⟩ := of3 b1
  -- the sheet becomes another one
  have go : ∀ z : Nat, z ≤ 60 → f_X8_sheet si sl sf sd sn so sz (nI i) p2 p3 = bn7 (f_X3_begin_b21 p2 p3 70 si sl sf sd sn p2 (nI z) 0) (fun (w2 : Nat → Int32) (w3 : Nat → Int64) (w4 : Nat → UInt32) (w5 : Nat → UInt64) (w8 : Nat → Int32) (w6 : Int32) (w7 : Int32) => some ((1 : Int32), w2, w3, w4, w5, w8, w6, w7)) → f_X9_sheet xo xz xw xf xd (nI i) p2 p3 = f_X9_sheet_b70 (nI i) p2 p3 70 (upd xo i p2) (upd xz i (nI z)) xw xf xd 0 → ∃ (r : Int32) (si' : Nat → Int32) (sl' : Nat → Int64) (sf' : Nat → UInt32) (sd' : Nat → UInt64) (sn' : Nat → Int32) (so' sz' : Int32) (xo' xz' : Nat → Int32) (xw' : Nat → Int64) (xf' : Nat → UInt32) (xd' : Nat → UInt64), f_X8_sheet si sl sf sd sn so sz (nI i) p2 p3 = some (r, si', sl', sf', sd', sn', so', sz') ∧ f_X9_sheet xo xz xw xf xd (nI i) p2 p3 = some (r, xo', xz', xw', xf', xd') ∧ ShOut (nI i) si sl sf sd sn so sz xo xz xw xf xd si' sl' sf' sd' sn' so' sz' xo' xz' xw' xf' xd' := by
    intro z hz q8 q9
    obtain ⟨si', sl', sf', sd', sn', g1, g2⟩ := begin_loop p2 p3 p2 (nI z) 70 0 si sl sf sd sn (by omega) (by omega)
    obtain ⟨xw', xf', xd', e1, e2⟩ := sheet_loop p2 p3 hi (upd xo i p2) (upd xz i (nI z)) 70 0 xw xf xd (by omega) (by omega)
    rw [nI_0] at e1 g1
    rw [g1] at q8
    refine ⟨1, si', sl', sf', sd', sn', p2, nI z, _, _, xw', xf', xd', q8, q9.trans e1, fun j hj ej => ?_, fun j hj ej => ?_, fun q => absurd rfl (q i hi)⟩
    · have : i = j := nI_inj (by omega) (by omega) ej
      subst this
      refine ⟨pk_us, pk_us, hso, ⟨z, hz, rfl⟩, fun q hq => ?_⟩
      show CellI p2 (si' q) (sl' q) (sf' q) (sd' q) (sn' q) (xw' (60 * i + q)) (xf' (60 * i + q)) (xd' (60 * i + q))
      obtain ⟨u1, u2, u3, u4, u5⟩ := g2 q hq
      obtain ⟨v1, v2, v3⟩ := e2 (60 * i + q)
      have yy : 60 * i + 0 ≤ 60 * i + q ∧ 60 * i + q < 60 * i + 60 := by omega
      rw [u1, u2, u3, u4, u5, v1, v2, v3, if_pos (Nat.zero_le q), if_pos (Nat.zero_le q), if_pos (Nat.zero_le q), if_pos (Nat.zero_le q), if_pos (Nat.zero_le q), if_pos yy, if_pos yy, if_pos yy]
      exact cell0 p2
    · have hne : i ≠ j := fun e => ej (by rw [e])
      refine ⟨pk_un (Ne.symm hne), pk_un (Ne.symm hne), fun q hq => ?_⟩
      obtain ⟨v1, v2, v3⟩ := e2 (60 * j + q)
      have nn : ¬ (60 * i + 0 ≤ 60 * j + q ∧ 60 * j + q < 60 * i + 60) := by omega
      rw [if_neg nn] at v1 v2 v3
      exact ⟨v1, v2, v3⟩
  have B8 : f_X8_sheet_b42 (nI i) p2 p3 si sl sf sd sn so sz = bn7 (f_X3_begin_b21 p2 p3 70 si sl sf sd sn p2 (if p2 = -1 then 0 else p3) 0) (fun (w2 : Nat → Int32) (w3 : Nat → Int64) (w4 : Nat → UInt32) (w5 : Nat → UInt64) (w8 : Nat → Int32) (w6 : Int32) (w7 : Int32) => some ((1 : Int32), w2, w3, w4, w5, w8, w6, w7)) := by
    unfold f_X8_sheet_b42 f_X3_begin
    rw [gN hi (by decide)]
    by_cases e : p2 = -1
    · rw [if_pos e, if_pos e]
    · rw [if_neg e, if_neg e]
  have B9 : f_X9_sheet_b45 (nI i) p2 p3 xo xz xw xf xd = f_X9_sheet_b70 (nI i) p2 p3 70 (upd xo i p2) (upd xz i (if p2 = -1 then 0 else p3)) xw xf xd 0 := by
    unfold f_X9_sheet_b45
    rw [gN hi (by decide), nm_eq]
    by_cases e : p2 = -1
    · rw [if_neg (show ¬ 0 ≤ p2 from fun q => absurd (hneg.mpr e) (Int32.not_lt.mpr q)), gN hi (by decide), nm_eq, if_pos e, c4 hi]
    · rw [if_pos (show 0 ≤ p2 from Int32.not_lt.mp (fun q => e (hneg.mp q))), gN hi (by decide), nm_eq, if_neg e, c4 hi]
  by_cases e : p2 = -1
  · rw [if_pos e] at E8
    rw [if_pos (hneg.mpr e)] at E9
    unfold f_X8_sheet_b30 at E8
    unfold f_X9_sheet_b34 at E9
    rw [if_pos e] at E8
    rw [if_pos (hneg.mpr e)] at E9
    refine go 0 (by omega) ?_ ?_
    · rw [E8, B8, if_pos e]
      rfl
    · rw [E9, B9, if_pos e]
      rfl
  · rw [if_neg e] at E8
    rw [if_neg (fun q => e (hneg.mp q))] at E9
    by_cases b3 : p3 ≤ 60
    · rw [if_pos b3] at E8 E9
      unfold f_X8_sheet_b30 at E8
      unfold f_X9_sheet_b34 at E9
      rw [if_neg e] at E8
      rw [if_neg (fun q => e (hneg.mp q))] at E9
      by_cases b4 : 0 ≤ p3
      · rw [if_pos b4] at E8 E9
        obtain ⟨z, hz, rfl⟩ := nI_of2 (M := 60) (n := 60) rfl (Int32.not_lt.mpr b4) b3
        refine go z hz ?_ ?_
        · rw [E8, B8, if_neg e]
        · rw [E9, B9, if_neg e]
      · exact same (-14) (E8.trans (if_neg b4)) (E9.trans (if_neg b4))
    · exact same (-2) (E8.trans (if_neg b3)) (E9.trans (if_neg b3))
