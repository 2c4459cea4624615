/-! floats: what is left of one by another; the mean -/
def Zd (c : Nat) (q : Int) : Nat := c * 2 ^ (q + 1074).toNat
theorem zd_eq (c : Nat) (q : Int) : FP.Core.inUnits c q FP.Core.b64.qmin = Zd c q := by
  unfold FP.Core.inUnits Zd
  rw [FP.Core.qmin_b64, show q - -1074 = q + 1074 by omega]
theorem zd_succ (d : Nat) {x : Int} (h : -1074 ≤ x) : Zd d (x + 1) = 2 * Zd d x := by
  unfold Zd
  rw [show (x + 1 + 1074).toNat = (x + 1074).toNat + 1 by omega, Nat.pow_succ, Nat.mul_comm _ 2, ← Nat.mul_assoc, Nat.mul_comm d 2, Nat.mul_assoc]
theorem zd_pow (d : Nat) {x : Int} (h : -1074 ≤ x) (k : Nat) : Zd d (x + (k : Int)) = Zd d x * 2 ^ k := by
  unfold Zd
  rw [show (x + (k : Int) + 1074).toNat = (x + 1074).toNat + k by omega, Nat.pow_add, Nat.mul_assoc]
theorem zd_bits {y : UInt64} {c : Nat} {q : Int} (hy : FP.Core.val64 y = .fin false c q) : Zd c q = FP.Core.unitsOf FP.Core.b64 y.toNat := by
  rw [← zd_eq, unitsD hy, Nat.mod_eq_of_lt (posD hy)]
theorem eqU {y z : UInt64} {c d : Nat} {q r : Int} (hy : FP.Core.val64 y = .fin false c q) (hz : FP.Core.val64 z = .fin false d r) (h : Zd c q = Zd d r) : y = z := by
  rw [zd_bits hy, zd_bits hz] at h
  have h1 := FP.Core.unitsOf_le_iff.mp (Nat.le_of_eq h)
  have h2 := FP.Core.unitsOf_le_iff.mp (Nat.le_of_eq h.symm)
  exact UInt64.toNat_inj.mp (Nat.le_antisymm h1 h2)
theorem cmpU {y z : UInt64} {c d : Nat} {q r : Int} (hy : FP.Core.val64 y = .fin false c q) (hz : FP.Core.val64 z = .fin false d r) (op : CmpOp) : Op.cmpValue (FP.dcmp y z) op < 0 ↔ Zd c q < Zd d r := by
  rw [(cmpD hy hz op).1, zd_bits hy, zd_bits hz]
  exact FP.Core.unitsOf_lt_iff.symm
/-- a number less one that is above its half: nothing is rounded -/
theorem subP {y z : UInt64} {c d : Nat} {q r : Int} (hy : FP.Core.val64 y = .fin false c q) (hz : FP.Core.val64 z = .fin false d r) (h1 : Zd d r ≤ Zd c q) (h2 : Zd c q < 2 * Zd d r) : ∃ (c' : Nat) (q' : Int), FP.Core.val64 (FP.dsub y z) = .fin false c' q' ∧ Zd c' q' = Zd c q - Zd d r := by
  obtain ⟨f1, f2, f3, f4⟩ := fitsD hy
  obtain ⟨g1, g2, g3, g4⟩ := fitsD hz
  have hqr : r ≤ q := by
    by_cases z : r ≤ q
    · exact z
    · have hd : 2 ^ 52 ≤ d := g4.resolve_left (by omega)
      have e : Zd d r = Zd d (q + 1 + ((r - q - 1).toNat : Int)) := by
        congr 1
        omega
      rw [zd_pow d (by omega)] at e
      have e2 : Zd d (q + 1) ≤ Zd d r := by
        rw [e]
        exact Nat.le_mul_of_pos_right _ (Nat.two_pow_pos _)
      rw [zd_succ d (by omega)] at e2
      have e3 : 2 * Zd d q ≤ Zd c q := Nat.le_trans e2 h1
      unfold Zd at e3
      have e4 : 2 * d * 2 ^ (q + 1074).toNat ≤ c * 2 ^ (q + 1074).toNat := by
        rw [Nat.mul_assoc]
        exact e3
      have := Nat.le_of_mul_le_mul_right e4 (Nat.two_pow_pos _)
      omega
  have ec : Zd c q = c * 2 ^ (q - r).toNat * 2 ^ (r + 1074).toNat := by
    unfold Zd
    rw [show (q + 1074).toNat = (q - r).toNat + (r + 1074).toNat by omega, Nat.pow_add, Nat.mul_assoc]
  have ed : Zd d r = d * 2 ^ (r + 1074).toNat := rfl
  have hp := Nat.two_pow_pos (r + 1074).toNat
  have h1' : d ≤ c * 2 ^ (q - r).toNat := by
    rw [ec, ed] at h1
    exact Nat.le_of_mul_le_mul_right h1 hp
  have h2' : c * 2 ^ (q - r).toNat < 2 * d := by
    rw [ec, ed, ← Nat.mul_assoc] at h2
    exact Nat.lt_of_mul_lt_mul_right h2
  have hv : FP.Core.val64 (FP.dsub y z) = FP.Core.round FP.Core.b64 (.fin false (c * 2 ^ (q - r).toNat - d) r) := by
    show FP.Core.val64 (FP.Core.dsub y z) = _
    rw [FP.Core.val64_dsub, hy, hz]
    show FP.Core.round FP.Core.b64 (.fin (FP.Core.sumSign false true (FP.Core.sumUnits false c q true d r (min q r))) (FP.Core.sumUnits false c q true d r (min q r)).natAbs (min q r)) = _
    rw [show min q r = r by omega]
    have su : FP.Core.sumUnits false c q true d r r = ((c * 2 ^ (q - r).toNat - d : Nat) : Int) := by
      show ((c * 2 ^ (q - r).toNat : Nat) : Int) + -((d * 2 ^ (r - r).toNat : Nat) : Int) = _
      rw [show (r - r).toNat = 0 by omega, Nat.pow_zero, Nat.mul_one]
      omega
    rw [su, Int.natAbs_natCast]
    have sg : FP.Core.sumSign false true ((c * 2 ^ (q - r).toNat - d : Nat) : Int) = false := by
      unfold FP.Core.sumSign
      by_cases z0 : ((c * 2 ^ (q - r).toNat - d : Nat) : Int) = 0
      · rw [if_pos z0]
        rfl
      · rw [if_neg z0]
        exact decide_eq_false (by omega)
    rw [sg]
  obtain ⟨c', q', k1, k2⟩ := FP.Core.round_exact FP.Core.good_b64 false (c := c * 2 ^ (q - r).toNat - d) (q := r) (show c * 2 ^ (q - r).toNat - d < 2 ^ 53 by omega) (by rw [FP.Core.qmin_b64]; exact g2) (by rw [show FP.Core.b64.qmax = 971 from by decide]; exact g3)
  refine ⟨c', q', hv.trans k1, ?_⟩
  rw [zd_eq, zd_eq] at k2
  rw [k2, ec, ed, ← Nat.sub_mul]
  rfl
theorem rest_loop {p1 p2 : UInt64} {d : Nat} {r : Int} (hd1 : 2 ^ 52 ≤ d) (hd2 : d < 2 ^ 53) (hr1 : -1000 ≤ r) (hr2 : r ≤ 900) : ∀ (m i : Nat) (y z : UInt64) (c : Nat) (q : Int), i ≤ 6 → 6 - i < m → FP.Core.val64 y = .fin false c q → FP.Core.val64 z = .fin false d (r + 5 - (i : Int)) → Zd c q < 2 * Zd d (r + 5 - (i : Int)) → ∃ (y' : UInt64) (c' : Nat) (q' : Int), f_X0_restOf_b13 p1 p2 m y z (nI i) = some y' ∧ FP.Core.val64 y' = .fin false c' q' ∧ Zd c' q' = Zd c q % Zd d r := by
  intro m
  induction m with
  | zero =>
    intro i y z c q _ h
    omega
  | succ m ih =>
    intro i y z c q hi hm hy hz hlt
    show ∃ (y' : UInt64) (c' : Nat) (q' : Int), f_X0_restOf_s13 p1 p2 (f_X0_restOf_b13 p1 p2 m) y z (nI i) = some y' ∧ _
    unfold f_X0_restOf_s13
    by_cases h6 : 6 ≤ i
    · have e : i = 6 := by omega
      subst e
      rw [if_pos (show (6 : Int32) ≤ nI 6 by decide)]
      refine ⟨y, c, q, rfl, hy, ?_⟩
      rw [← zd_succ d (by omega), show r + 5 - ((6 : Nat) : Int) + 1 = r by omega] at hlt
      exact (Nat.mod_eq_of_lt hlt).symm
    · rw [if_neg (show ¬ (6 : Int32) ≤ nI i from nI_ge (a := i) (b := 6) (by omega) (by decide))]
      have hs := divP hz v_two hd1 hd2 (by omega) (by omega)
      rw [show r + 5 - (i : Int) - -51 - 52 = r + 5 - ((i + 1 : Nat) : Int) by omega] at hs
      have es : Zd d (r + 5 - (i : Int)) = 2 * Zd d (r + 5 - ((i + 1 : Nat) : Int)) := by
        rw [← zd_succ d (by omega)]
        congr 1
        omega
      have ep : Zd d (r + 5 - (i : Int)) = Zd d r * 2 ^ (5 - i) := by
        rw [← zd_pow d (by omega)]
        congr 1
        omega
      unfold f_X0_restOf_b38
      have cm := cmpU hy hz CmpOp.l
      by_cases h : Zd c q < Zd d (r + 5 - (i : Int))
      · rw [if_pos (cm.mpr h), if_pos (ngD (fin_ne hs)), nmE, nmE, nI_1]
        exact ih (i + 1) y _ c q (by omega) (by omega) hy hs (by omega)
      · obtain ⟨c1, q1, k1, k2⟩ := subP hy hz (by omega) hlt
        rw [if_neg (fun x => h (cm.mp x)), if_pos (ngD (fin_ne k1)), if_pos (ngD (fin_ne hs)), nmE, nmE, nI_1]
        obtain ⟨y', c', q', w1, w2, w3⟩ := ih (i + 1) _ _ c1 q1 (by omega) (by omega) k1 hs (by omega)
        refine ⟨y', c', q', w1, w2, ?_⟩
        have e : Zd c q = Zd d r * 2 ^ (5 - i) + Zd c1 q1 := by
          rw [← ep]
          omega
        rw [w3, e, Nat.mul_add_mod]
theorem q_restOf {m p : UInt64} {c d : Nat} {q r : Int} (hm : FP.Core.val64 m = .fin false c q) (hp : FP.Core.val64 p = .fin false d r) (hd1 : 2 ^ 52 ≤ d) (hr1 : -1000 ≤ r) (hr2 : r ≤ 900) (hlt : Zd c q < 64 * Zd d r) : f_X0_restOf m p = some (FP.drem m p) ∧ ∃ (c' : Nat) (q' : Int), FP.Core.val64 (FP.drem m p) = .fin false c' q' ∧ Zd c' q' = Zd c q % Zd d r := by
  obtain ⟨g1, g2, g3, g4⟩ := fitsD hp
  obtain ⟨c2, q2, k1, k2⟩ := FP.Core.drem_exact hm hp (by omega)
  rw [zd_eq, zd_eq, zd_eq] at k2
  have hs := mulP hp v_32 hd1 g1 (by omega) (by omega)
  rw [show r + -47 + 52 = r + 5 - ((0 : Nat) : Int) by omega] at hs
  have e5 : Zd d (r + 5 - ((0 : Nat) : Int)) = Zd d r * 2 ^ 5 := by
    rw [← zd_pow d (by omega)]
    congr 1
    omega
  obtain ⟨y', c', q', w1, w2, w3⟩ := rest_loop (p1 := m) (p2 := p) hd1 g1 hr1 hr2 70 0 m _ c q (by omega) (by omega) hm hs (by rw [e5]; omega)
  refine ⟨?_, c2, q2, k1, k2⟩
  unfold f_X0_restOf
  rw [if_pos (ngD (fin_ne hs)), nmE, ← nI_0, w1]
  congr 1
  exact eqU w2 k1 (w3.trans k2.symm)
theorem l2d_v {n : Nat} (h : n < 2 ^ 63) : FP.Core.val64 (FP.l2d (lN n)) = FP.Core.roundRatio FP.Core.b64 false n 1 0 := by
  show FP.Core.val64 (FP.Core.l2d (lN n)) = _
  rw [FP.Core.val64_l2d, lN_tI h]
  show FP.Core.roundRatio FP.Core.b64 (decide ((n : Int) < 0)) (n : Int).natAbs 1 0 = _
  rw [decide_eq_false (by omega), Int.natAbs_natCast]
theorem l2d_at {n : Nat} (h : n < 2 ^ 63) : ∃ (c : Nat) (q : Int), FP.Core.val64 (FP.l2d (lN n)) = .fin false c q := by
  obtain ⟨c, q, e⟩ := FP.Core.l2d_shape (lN n)
  rw [lN_tI h, decide_eq_false (by omega)] at e
  exact ⟨c, q, e⟩
theorem units_K {K : Nat} (h : 1 ≤ K) : FP.Core.unitsOf FP.Core.b64 (K * 2 ^ 52) = 2 ^ 52 * 2 ^ (K - 1) := by
  have := FP.Core.unitsOf_start (f := FP.Core.b64) h
  rw [FP.Core.tails_b64] at this
  exact this
/-- a mean of at most 6 is at most 16 as a double -/
theorem mean_at {a b : Nat} (ha : 1 ≤ a) (ha2 : a < 2 ^ 63) (hb : b ≤ 6 * a) (hb2 : b < 2 ^ 63) : ∃ (c : Nat) (q : Int), FP.Core.val64 (FP.ddiv (FP.l2d (lN b)) (FP.l2d (lN a))) = .fin false c q ∧ (FP.ddiv (FP.l2d (lN b)) (FP.l2d (lN a))).toNat ≤ 1027 * 2 ^ 52 := by
  obtain ⟨c, q, hB⟩ := l2d_at hb2
  obtain ⟨d, r, hA⟩ := l2d_at ha2
  obtain ⟨f1, f2, f3, f4⟩ := fitsD hB
  obtain ⟨g1, g2, g3, g4⟩ := fitsD hA
  have e1 : 2 ^ a.log2 ≤ a := Nat.log2_self_le (by omega)
  have e2 : a < 2 ^ (a.log2 + 1) := Nat.lt_log2_self
  have e3 : a.log2 < 63 := (Nat.log2_lt (by omega)).mpr ha2
  generalize a.log2 = e at e1 e2 e3
  have mb : (FP.l2d (lN b)).toNat ≤ (e + 1027) * 2 ^ 52 := by
    have := FP.Core.fromInt_mag (FP.Core.toNat_l2d (lN b)) (j := e + 4) (K := e + 1027) (by
      rw [lN_tI hb2, Int.natAbs_natCast, show e + 4 = e + 1 + 3 from rfl, Nat.pow_add (m := e + 1) (n := 3)]
      omega) (by omega) (by omega)
    rw [Nat.mod_eq_of_lt (posD hB)] at this
    exact this
  have ma : (e + 1023) * 2 ^ 52 ≤ (FP.l2d (lN a)).toNat := by
    have := FP.Core.mag_ge FP.Core.good_b64 (n := (FP.l2d (lN a)).toNat) (m := (e + 1023) * 2 ^ 52) (e0 := FP.Core.b64.qmin) (l2d_v ha2) (by decide) (Int.le_refl _) (by decide) (by rw [FP.Core.infBits_b64]; omega) (by
      rw [units_K (by omega), show (FP.Core.b64.qmin - FP.Core.b64.qmin).toNat = 0 by omega, Nat.pow_zero, Nat.mul_one, Nat.mul_one, ← Nat.pow_add]
      unfold FP.Core.inUnits
      rw [FP.Core.qmin_b64, show ((0 : Int) - -1074).toNat = 1074 from rfl, show 52 + (e + 1023 - 1) = e + 1074 by omega, Nat.pow_add]
      exact Nat.mul_le_mul_right _ e1)
    rw [FP.Core.mag_toNat64, Nat.mod_eq_of_lt (posD hA)] at this
    exact this
  have zb : Zd c q ≤ 2 ^ 52 * 2 ^ (e + 1026) := by
    rw [zd_bits hB, show e + 1026 = e + 1027 - 1 by omega, ← units_K (by omega)]
    exact FP.Core.unitsOf_le_iff.mpr mb
  have za : 2 ^ 52 * 2 ^ (e + 1022) ≤ Zd d r := by
    rw [zd_bits hA, show e + 1022 = e + 1023 - 1 by omega, ← units_K (by omega)]
    exact FP.Core.unitsOf_le_iff.mpr ma
  have zz : Zd c q ≤ 2 ^ 4 * Zd d r := by
    refine Nat.le_trans zb ?_
    rw [show e + 1026 = e + 1022 + 4 by omega, Nat.pow_add, ← Nat.mul_assoc, Nat.mul_comm]
    exact Nat.mul_le_mul_left _ za
  have d0 : 0 < d := by
    rcases Nat.eq_zero_or_pos d with z | z
    · subst z
      have hp := Nat.mul_pos (Nat.two_pow_pos 52) (Nat.two_pow_pos (e + 1022))
      unfold Zd at za
      rw [Nat.zero_mul] at za
      omega
    · exact z
  have hn : FP.Core.val64 (FP.ddiv (FP.l2d (lN b)) (FP.l2d (lN a))) = FP.Core.roundRatio FP.Core.b64 false c d (q - r) := by
    show FP.Core.val64 (FP.Core.ddiv _ _) = _
    rw [FP.Core.val64_ddiv, hB, hA]
    show (if d = 0 then (if c = 0 then FP.Core.Datum.nan else .inf (false != false)) else FP.Core.roundRatio FP.Core.b64 (false != false) c d (q - r)) = _
    rw [if_neg (by omega)]
    rfl
  have hm := FP.Core.mag_le FP.Core.good_b64 (n := (FP.ddiv (FP.l2d (lN b)) (FP.l2d (lN a))).toNat) (m := 1027 * 2 ^ 52) (e0 := -3000) hn d0 (by decide) (by omega) (by
    rw [units_K (by decide), FP.Core.qmin_b64, show ((-1074 : Int) - -3000).toNat = 1926 from rfl]
    unfold FP.Core.inUnits
    refine Nat.le_of_mul_le_mul_right (c := 2 ^ (r + 1074).toNat) ?_ (Nat.two_pow_pos _)
    have el : c * 2 ^ (q - r - -3000).toNat * 2 ^ (r + 1074).toNat = Zd c q * 2 ^ 3000 := by
      unfold Zd
      rw [Nat.mul_assoc, ← Nat.pow_add, Nat.mul_assoc, ← Nat.pow_add]
      congr 2
      omega
    have ek : 2 ^ 52 * 2 ^ (1027 - 1) * 2 ^ 1926 = 2 ^ 4 * 2 ^ 3000 := by
      rw [← Nat.pow_add, ← Nat.pow_add, ← Nat.pow_add]
    have er : 2 ^ 52 * 2 ^ (1027 - 1) * 2 ^ 1926 * d * 2 ^ (r + 1074).toNat = 2 ^ 4 * Zd d r * 2 ^ 3000 := by
      rw [ek]
      unfold Zd
      rw [Nat.mul_assoc, Nat.mul_right_comm]
    rw [el, er]
    exact Nat.mul_le_mul_right _ zz)
  rw [FP.Core.mag_toNat64] at hm
  obtain ⟨s', c', q', e'⟩ := (FP.Core.fin_bits (FP.ddiv (FP.l2d (lN b)) (FP.l2d (lN a)))).mpr (by omega)
  have e' : FP.Core.val64 (FP.ddiv (FP.l2d (lN b)) (FP.l2d (lN a))) = .fin s' c' q' := e'
  have es : s' = false := by
    have := FP.Core.sgn_roundRatio FP.Core.b64 false c d (q - r)
    rw [← hn, e'] at this
    exact this
  subst es
  refine ⟨c', q', e', ?_⟩
  rw [Nat.mod_eq_of_lt (posD e')] at hm
  exact hm
theorem f2d_u {a : UInt32} {s : Bool} {c : Nat} {q : Int} (ha : FP.Core.val32 a = .fin s c q) : ∃ (c' : Nat) (q' : Int), FP.Core.val64 (FP.f2d a) = .fin s c' q' ∧ Zd c' q' = FP.Core.inUnits c q FP.Core.b32.qmin * 2 ^ 925 := by
  obtain ⟨f1, f2, f3, f4⟩ := fitsF ha
  obtain ⟨c', q', k1, k2⟩ := FP.Core.round_exact FP.Core.good_b64 s (c := c) (q := q) (show c < 2 ^ 53 by omega) (by rw [FP.Core.qmin_b64]; omega) (by rw [show FP.Core.b64.qmax = 971 from by decide]; omega)
  refine ⟨c', q', ?_, ?_⟩
  · rw [f2d_c (fin_ne ha), FP.Core.val64_f2d, ha]
    exact k1
  · rw [zd_eq, zd_eq] at k2
    rw [k2]
    unfold Zd FP.Core.inUnits
    rw [FP.Core.qmin_b32, show (q + 1074).toNat = (q - -149).toNat + 925 by omega, Nat.pow_add, Nat.mul_assoc]
theorem v_375 : FP.Core.val64 (4600427019358961664 : UInt64) = .fin false (3 * 2 ^ 51) (-54) := by decide +kernel
theorem f_03 : FP.f2d (1050253722 : UInt32) = (4599075939685498880 : UInt64) := by decide +kernel
theorem v_03 : FP.Core.val64 (4599075939685498880 : UInt64) = .fin false 5404319767592960 (-54) := by decide +kernel
theorem w_03 : FP.Core.val32 (1050253722 : UInt32) = .fin false 10066330 (-25) := by decide +kernel
theorem v_1000 : FP.Core.DFin (4652007308841189376 : UInt64) := ⟨false, 8796093022208000, -43, by decide +kernel⟩
theorem dmul_ne {x : UInt64} {s : Bool} {c : Nat} {q : Int} (hx : FP.Core.val64 x = .fin s c q) : FP.dmul x (4652007308841189376 : UInt64) &&& 0x7fffffffffffffff ≤ 0x7ff0000000000000 := by
  refine ngD ?_
  exact (FP.Core.notNaN_iff _).mp (FP.Core.dmul_out ⟨s, c, q, hx⟩ v_1000)
theorem okD_16 {m : UInt64} (h : m.toNat ≤ 1027 * 2 ^ 52) : okD m := by
  unfold okD
  have : m.toNat % 2 ^ 63 ≤ m.toNat := Nat.mod_le _ _
  omega
/-- what is left is no greater -/
theorem rem_le {m y : UInt64} {c d : Nat} {q r : Int} (hm : FP.Core.val64 m = .fin false c q) (hy : FP.Core.val64 y = .fin false d r) (h : Zd d r ≤ Zd c q) : y.toNat ≤ m.toNat := by
  rw [zd_bits hm, zd_bits hy] at h
  exact FP.Core.unitsOf_le_iff.mp h
section
variable {m : UInt64} {c : Nat} {q : Int} (hm : FP.Core.val64 m = .fin false c q) (hb : m.toNat ≤ 1027 * 2 ^ 52)
theorem z16 (hm : FP.Core.val64 m = .fin false c q) (hb : m.toNat ≤ 1027 * 2 ^ 52) : Zd c q ≤ 2 ^ 52 * 2 ^ 1026 := by
  rw [zd_bits hm, show (1026 : Nat) = 1027 - 1 from rfl, ← units_K (by decide)]
  exact FP.Core.unitsOf_le_iff.mpr hb
theorem zlt (hm : FP.Core.val64 m = .fin false c q) (hb : m.toNat ≤ 1027 * 2 ^ 52) {d : Nat} {r : Int} (hr : -54 ≤ r) (hd : 5404319767592960 ≤ d) : Zd c q < 64 * Zd d r := by
  refine Nat.lt_of_le_of_lt (z16 hm hb) ?_
  have e : Zd d r = d * (2 ^ 1020 * 2 ^ (r + 54).toNat) := by
    unfold Zd
    rw [← Nat.pow_add]
    congr 2
    omega
  have e2 : 2 ^ 52 * 2 ^ 1026 = 2 ^ 58 * 2 ^ 1020 := by
    rw [← Nat.pow_add, ← Nat.pow_add]
  have p1 := Nat.two_pow_pos 1020
  have p2 := Nat.two_pow_pos (r + 54).toNat
  rw [e, e2, ← Nat.mul_assoc]
  generalize 2 ^ 1020 = X at p1
  have h1 : X ≤ X * 2 ^ (r + 54).toNat := Nat.le_mul_of_pos_right _ p2
  have h2 : 64 * d * X ≤ 64 * d * (X * 2 ^ (r + 54).toNat) := Nat.mul_le_mul_left _ h1
  refine Nat.lt_of_lt_of_le ?_ h2
  exact (Nat.mul_lt_mul_right p1).mpr (by omega)
theorem told0 (hm : FP.Core.val64 m = .fin false c q) : f_X8_meanTold m 0 = some (FP.d2l (FP.dmul m (4652007308841189376 : UInt64))) := by
  unfold f_X8_meanTold
  rw [if_pos rfl, if_pos (dmul_ne hm)]
theorem told2 (hb : m.toNat ≤ 1027 * 2 ^ 52) : f_X8_meanTold m 2 = some m.toInt64 := by
  unfold f_X8_meanTold
  rw [if_neg (show ¬ (2 : Int32) = 0 by decide), if_neg (show ¬ (2 : Int32) = 1 by decide), if_pos rfl, q_ofDouble0 (okD_16 hb) (by omega), bE1]
theorem rem1 (hm : FP.Core.val64 m = .fin false c q) (hb : m.toNat ≤ 1027 * 2 ^ 52) : f_X0_restOf m FP.dconst1 = some (FP.drem m FP.dconst1) ∧ ∃ (c' : Nat) (q' : Int), FP.Core.val64 (FP.drem m FP.dconst1) = .fin false c' q' := by
  obtain ⟨h1, c', q', h2, _⟩ := q_restOf hm v_one (by decide) (by decide) (by decide) (by
    have := zlt hm hb (d := 3 * 2 ^ 51) (r := -54) (by decide) (by decide)
    have e : Zd (2 ^ 52) (-52) = 2 ^ 52 * 2 ^ 1022 := by
      unfold Zd
      rw [show ((-52 : Int) + 1074).toNat = 1022 from rfl]
    have e2 : Zd (3 * 2 ^ 51) (-54) = 3 * 2 ^ 51 * 2 ^ 1020 := by
      unfold Zd
      rw [show ((-54 : Int) + 1074).toNat = 1020 from rfl]
    rw [e2] at this
    rw [e, show 1022 = 1020 + 2 from rfl, Nat.pow_add]
    have p1 := Nat.two_pow_pos 1020
    generalize 2 ^ 1020 = X at this p1
    omega)
  exact ⟨h1, c', q', h2⟩
theorem rem375 (hm : FP.Core.val64 m = .fin false c q) (hb : m.toNat ≤ 1027 * 2 ^ 52) : f_X0_restOf m (4600427019358961664 : UInt64) = some (FP.drem m (4600427019358961664 : UInt64)) ∧ okD (FP.drem m (4600427019358961664 : UInt64)) ∧ (FP.drem m (4600427019358961664 : UInt64)).toNat < 2 ^ 63 := by
  obtain ⟨h1, c', q', h2, h3⟩ := q_restOf hm v_375 (by decide) (by decide) (by decide) (zlt hm hb (by decide) (by decide))
  have hle := Nat.le_trans (rem_le hm h2 (by
    rw [h3]
    exact Nat.mod_le _ _)) hb
  exact ⟨h1, okD_16 hle, by omega⟩
theorem told3 (hm : FP.Core.val64 m = .fin false c q) (hb : m.toNat ≤ 1027 * 2 ^ 52) : f_X8_meanTold m 3 = some (FP.d2i (FP.dmul (FP.drem m FP.dconst1) (4652007308841189376 : UInt64))).toInt64 := by
  obtain ⟨h1, c', q', h2⟩ := rem1 hm hb
  unfold f_X8_meanTold
  rw [if_neg (show ¬ (3 : Int32) = 0 by decide), if_neg (show ¬ (3 : Int32) = 1 by decide), if_neg (show ¬ (3 : Int32) = 2 by decide), if_pos rfl, h1, bE1, if_pos (dmul_ne h2)]
theorem told4 (hm : FP.Core.val64 m = .fin false c q) (hb : m.toNat ≤ 1027 * 2 ^ 52) : f_X8_meanTold m 4 = some (FP.drem m (4600427019358961664 : UInt64)).toInt64 := by
  obtain ⟨h1, h2, h3⟩ := rem375 hm hb
  unfold f_X8_meanTold
  rw [if_neg (show ¬ (4 : Int32) = 0 by decide), if_neg (show ¬ (4 : Int32) = 1 by decide), if_neg (show ¬ (4 : Int32) = 2 by decide), if_neg (show ¬ (4 : Int32) = 3 by decide), if_pos rfl, h1, bE1, q_ofDouble0 h2 h3, bE1]
/-- the mean as a float -/
theorem d2f_at (hm : FP.Core.val64 m = .fin false c q) (hb : m.toNat ≤ 1027 * 2 ^ 52) : ∃ (c' : Nat) (q' : Int), FP.Core.val32 (FP.d2f m) = .fin false c' q' ∧ (FP.d2f m).toNat ≤ 131 * 2 ^ 23 := by
  obtain ⟨f1, f2, f3, f4⟩ := fitsD hm
  have hn : FP.Core.val32 (FP.d2f m) = FP.Core.roundRatio FP.Core.b32 false c 1 q := by
    rw [d2f_c (fin_ne hm), FP.Core.val32_d2f, hm]
    rfl
  obtain ⟨s, c', q', e⟩ := okF_fin (ok_d2f (okD_16 hb))
  have es : s = false := by
    have := FP.Core.sgn_roundRatio FP.Core.b32 false c 1 q
    rw [← hn, e] at this
    exact this
  subst es
  refine ⟨c', q', e, ?_⟩
  have e2 : FP.Core.unitsOf FP.Core.b32 (131 * 2 ^ 23) = 2 ^ 23 * 2 ^ 130 := by
    have := FP.Core.unitsOf_start (f := FP.Core.b32) (K := 131) (by decide)
    rw [FP.Core.tails_b32, show 131 - 1 = 130 from rfl] at this
    exact this
  have hu : FP.Core.inUnits c q (-1074) ≤ 2 ^ 52 * 2 ^ 1026 := by
    have := z16 hm hb
    rw [← zd_eq, FP.Core.qmin_b64] at this
    exact this
  have := FP.Core.mag_le FP.Core.good_b32 (n := (FP.d2f m).toNat) (m := 131 * 2 ^ 23) (e0 := -1074) hn (by decide) (by decide) f2 (by
    rw [e2, FP.Core.qmin_b32, Nat.mul_one]
    refine Nat.le_trans hu ?_
    rw [show ((-149 : Int) - -1074).toNat = 925 from rfl, ← Nat.pow_add, ← Nat.pow_add, ← Nat.pow_add]
    exact Nat.le_refl _)
  rw [FP.Core.mag_toNat32, Nat.mod_eq_of_lt (posF e)] at this
  exact this
theorem okF_16 {x : UInt32} (h : x.toNat ≤ 131 * 2 ^ 23) : okF x := by
  unfold okF
  have : x.toNat % 2 ^ 31 ≤ x.toNat := Nat.mod_le _ _
  omega
theorem told1 (hm : FP.Core.val64 m = .fin false c q) (hb : m.toNat ≤ 1027 * 2 ^ 52) : f_X8_meanTold m 1 = some (FP.d2f m).toInt32.toInt64 := by
  obtain ⟨c1, q1, h1, h2⟩ := d2f_at hm hb
  have o := okF_16 h2
  unfold f_X8_meanTold
  rw [if_neg (show ¬ (1 : Int32) = 0 by decide), if_pos rfl, if_pos (ngF (okF_ne o)), q_ofFloat0 o (by omega), bE1]
theorem rem03 (hm : FP.Core.val64 m = .fin false c q) (hb : m.toNat ≤ 1027 * 2 ^ 52) : ∃ y : UInt64, FP.Core.val64 (FP.f2d (FP.d2f m)) ≠ .nan ∧ f_X0_restOf (FP.f2d (FP.d2f m)) (4599075939685498880 : UInt64) = some y ∧ FP.d2f y = FP.frem (FP.d2f m) (1050253722 : UInt32) ∧ (FP.frem (FP.d2f m) (1050253722 : UInt32)).toNat ≤ 131 * 2 ^ 23 := by
  obtain ⟨c1, q1, h1, h2⟩ := d2f_at hm hb
  obtain ⟨c2, q2, h3, h4⟩ := f2d_u h1
  obtain ⟨c3, q3, h5, h6⟩ := f2d_u w_03
  rw [f_03, v_03] at h5
  injection h5 with _ i1 i2
  subst i1
  subst i2
  have hz : Zd c2 q2 < 64 * Zd 5404319767592960 (-54) := by
    have u1 : FP.Core.inUnits c1 q1 FP.Core.b32.qmin ≤ 2 ^ 23 * 2 ^ 130 := by
      have := FP.Core.unitsOf_start (f := FP.Core.b32) (K := 131) (by decide)
      rw [FP.Core.tails_b32, show 131 - 1 = 130 from rfl] at this
      rw [unitsF h1, ← this, Nat.mod_eq_of_lt (posF h1)]
      exact FP.Core.unitsOf_le_iff.mpr h2
    have u2 : FP.Core.inUnits 10066330 (-25) FP.Core.b32.qmin = 10066330 * 2 ^ 124 := rfl
    rw [h4, h6, u2, ← Nat.mul_assoc]
    refine (Nat.mul_lt_mul_right (Nat.two_pow_pos 925)).mpr (Nat.lt_of_le_of_lt u1 ?_)
    rw [show (130 : Nat) = 6 + 124 from rfl, Nat.pow_add]
    have p := Nat.two_pow_pos 124
    generalize 2 ^ 124 = X at p
    omega
  obtain ⟨k1, c4, q4, k2, k3⟩ := q_restOf h3 v_03 (by decide) (by decide) (by decide) hz
  obtain ⟨c5, q5, k4, k5⟩ := FP.Core.frem_exact h1 w_03 (by decide)
  have k4 : FP.Core.val32 (FP.frem (FP.d2f m) (1050253722 : UInt32)) = .fin false c5 q5 := k4
  obtain ⟨c6, q6, k6, k7⟩ := f2d_u k4
  have ey : FP.drem (FP.f2d (FP.d2f m)) (4599075939685498880 : UInt64) = FP.f2d (FP.frem (FP.d2f m) (1050253722 : UInt32)) := by
    refine eqU k2 k6 ?_
    rw [k3, k7, k5, h4, h6, Nat.mul_mod_mul_right]
  refine ⟨_, fin_ne h3, k1, ?_, ?_⟩
  · rw [ey, d2f_c (fin_ne k6), f2d_c (fin_ne k4)]
    exact FP.Core.d2f_f2d (fin_ne k4)
  · refine Nat.le_trans ?_ h2
    have : FP.Core.inUnits c5 q5 FP.Core.b32.qmin ≤ FP.Core.inUnits c1 q1 FP.Core.b32.qmin := by
      rw [k5]
      exact Nat.mod_le _ _
    rw [unitsF k4, unitsF h1, Nat.mod_eq_of_lt (posF k4), Nat.mod_eq_of_lt (posF h1)] at this
    exact FP.Core.unitsOf_le_iff.mp this
theorem told5 (hm : FP.Core.val64 m = .fin false c q) (hb : m.toNat ≤ 1027 * 2 ^ 52) : f_X8_meanTold m 5 = some (FP.frem (FP.d2f m) (1050253722 : UInt32)).toInt32.toInt64 := by
  obtain ⟨y, h1, h2, h3, h4⟩ := rem03 hm hb
  have o := ok_d2f (okD_16 hb)
  have g : FP.d2f y &&& 0x7fffffff ≤ 0x7f800000 := by
    rw [h3]
    exact ngF (okF_ne (okF_16 h4))
  unfold f_X8_meanTold
  rw [if_neg (show ¬ (5 : Int32) = 0 by decide), if_neg (show ¬ (5 : Int32) = 1 by decide), if_neg (show ¬ (5 : Int32) = 2 by decide), if_neg (show ¬ (5 : Int32) = 3 by decide), if_neg (show ¬ (5 : Int32) = 4 by decide), if_pos (ngF (okF_ne o)), if_pos (ngD h1), h2, bE1, if_pos g, h3, q_ofFloat0 (okF_16 h4) (by omega), bE1]
end
