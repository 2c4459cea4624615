/-! floats: the bits that packed makes of a number -/
theorem ngD {a : UInt64} (h : FP.Core.val64 a ≠ .nan) : a &&& 0x7fffffffffffffff ≤ 0x7ff0000000000000 := by
  have e : (0x7ff0000000000000 : UInt64).toNat = 9218868437227405312 := rfl
  rw [UInt64.le_iff_toNat_le, FP.Core.mask_toNat, e]
  exact (FP.Core.ne_nan a).mp h
theorem ngF {a : UInt32} (h : FP.Core.val32 a ≠ .nan) : a &&& 0x7fffffff ≤ 0x7f800000 := by
  have e : (0x7f800000 : UInt32).toNat = 2139095040 := rfl
  rw [UInt32.le_iff_toNat_le, FP.Core.mask_toNat32, e]
  exact (FP.Core.ne_nan32 a).mp h
theorem fin_ne {d : FP.Core.Datum} {s : Bool} {c : Nat} {q : Int} (h : d = .fin s c q) : d ≠ .nan := by
  subst h
  intro e
  cases e
theorem posD {y : UInt64} {c : Nat} {q : Int} (h : FP.Core.val64 y = .fin false c q) : y.toNat < 2 ^ 63 := by
  have e := FP.Core.sgn_bits (fin_ne h)
  rw [h] at e
  have e : false = decide (2 ^ 63 ≤ y.toNat) := e
  have := of_decide_eq_false e.symm
  omega
theorem posF {y : UInt32} {c : Nat} {q : Int} (h : FP.Core.val32 y = .fin false c q) : y.toNat < 2 ^ 31 := by
  have e := FP.Core.sgn_bits32 (fin_ne h)
  rw [h] at e
  have e : false = decide (2 ^ 31 ≤ y.toNat) := e
  have := of_decide_eq_false e.symm
  omega
theorem fitsD {y : UInt64} {s : Bool} {c : Nat} {q : Int} (h : FP.Core.val64 y = .fin s c q) : c < 2 ^ 53 ∧ -1074 ≤ q ∧ q ≤ 971 ∧ (q = -1074 ∨ 2 ^ 52 ≤ c) := by
  have hf := FP.Core.val64_fits y
  rw [h] at hf
  obtain ⟨f1, f2, f3, f4⟩ := hf
  have e1 : FP.Core.b64.qmin = -1074 := FP.Core.qmin_b64
  have e2 : FP.Core.b64.qmax = 971 := by decide
  have e3 : FP.Core.b64.tails = 2 ^ 52 := FP.Core.tails_b64
  rw [e1] at f2 f4
  rw [e2] at f3
  rw [e3] at f4
  exact ⟨f1, f2, f3, f4⟩
theorem fitsF {y : UInt32} {s : Bool} {c : Nat} {q : Int} (h : FP.Core.val32 y = .fin s c q) : c < 2 ^ 24 ∧ -149 ≤ q ∧ q ≤ 104 ∧ (q = -149 ∨ 2 ^ 23 ≤ c) := by
  have hf := FP.Core.val32_fits y
  rw [h] at hf
  obtain ⟨f1, f2, f3, f4⟩ := hf
  have e1 : FP.Core.b32.qmin = -149 := FP.Core.qmin_b32
  have e2 : FP.Core.b32.qmax = 104 := by decide
  have e3 : FP.Core.b32.tails = 2 ^ 23 := FP.Core.tails_b32
  rw [e1] at f2 f4
  rw [e2] at f3
  rw [e3] at f4
  exact ⟨f1, f2, f3, f4⟩
theorem bitsD {y : UInt64} {c : Nat} {q : Int} (h : FP.Core.val64 y = .fin false c q) : y.toNat = (q + 1074).toNat * 2 ^ 52 + c := by
  have hf := FP.Core.val64_fits y
  have hn := FP.Core.of64_val64 (fin_ne h)
  obtain ⟨f1, f2, f3, f4⟩ := fitsD h
  rw [h] at hf hn
  have e : y.toNat = FP.Core.encode FP.Core.b64 (.fin false c q) := by
    rw [← FP.Core.toNat_of64 hf, hn]
  have e1 : FP.Core.b64.qmin = -1074 := FP.Core.qmin_b64
  have e3 : FP.Core.b64.tails = 2 ^ 52 := FP.Core.tails_b64
  have e4 : FP.Core.encode FP.Core.b64 (.fin false c q) = if c < FP.Core.b64.tails then FP.Core.assemble FP.Core.b64 false 0 c else FP.Core.assemble FP.Core.b64 false ((q - FP.Core.b64.qmin).toNat + 1) (c - FP.Core.b64.tails) := rfl
  rw [e, e4]
  unfold FP.Core.assemble
  rw [e1, e3, show false.toNat = 0 from rfl, Nat.zero_mul, Nat.zero_add, Nat.zero_add]
  by_cases hc : c < 2 ^ 52
  · rw [if_pos hc]
    have hq : q = -1074 := f4.resolve_right (by omega)
    subst hq
    omega
  · rw [if_neg hc]
    omega
theorem bitsF {y : UInt32} {c : Nat} {q : Int} (h : FP.Core.val32 y = .fin false c q) : y.toNat = (q + 149).toNat * 2 ^ 23 + c := by
  have hf := FP.Core.val32_fits y
  have hn := FP.Core.of32_val32 (fin_ne h)
  obtain ⟨f1, f2, f3, f4⟩ := fitsF h
  rw [h] at hf hn
  have e : y.toNat = FP.Core.encode FP.Core.b32 (.fin false c q) := by
    rw [← FP.Core.toNat_of32 hf, hn]
  have e1 : FP.Core.b32.qmin = -149 := FP.Core.qmin_b32
  have e3 : FP.Core.b32.tails = 2 ^ 23 := FP.Core.tails_b32
  have e4 : FP.Core.encode FP.Core.b32 (.fin false c q) = if c < FP.Core.b32.tails then FP.Core.assemble FP.Core.b32 false 0 c else FP.Core.assemble FP.Core.b32 false ((q - FP.Core.b32.qmin).toNat + 1) (c - FP.Core.b32.tails) := rfl
  rw [e, e4]
  unfold FP.Core.assemble
  rw [e1, e3, show false.toNat = 0 from rfl, Nat.zero_mul, Nat.zero_add, Nat.zero_add]
  by_cases hc : c < 2 ^ 23
  · rw [if_pos hc]
    have hq : q = -149 := f4.resolve_right (by omega)
    subst hq
    omega
  · rw [if_neg hc]
    omega
theorem cv_l (op : CmpOp) : Op.cmpValue (some .lt) op = -1 := rfl
theorem cv_e (op : CmpOp) : Op.cmpValue (some .eq) op = 0 := rfl
theorem cv_g (op : CmpOp) : Op.cmpValue (some .gt) op = 1 := rfl
theorem cmpD {y z : UInt64} {c d : Nat} {q r : Int} (hy : FP.Core.val64 y = .fin false c q) (hz : FP.Core.val64 z = .fin false d r) (op : CmpOp) : (Op.cmpValue (FP.dcmp y z) op < 0 ↔ y.toNat < z.toNat) ∧ (0 ≤ Op.cmpValue (FP.dcmp y z) op ↔ z.toNat ≤ y.toNat) ∧ (Op.cmpValue (FP.dcmp y z) op = 0 ↔ y.toNat = z.toNat) := by
  obtain ⟨m1, m2, m3⟩ := FP.Core.mono_bits (fin_ne hy) (fin_ne hz) (posD hy) (posD hz)
  rcases Nat.lt_trichotomy y.toNat z.toNat with h | h | h
  · rw [show FP.dcmp y z = some .lt from m1.mpr h, cv_l]
    exact ⟨⟨fun _ => h, fun _ => by decide⟩, ⟨fun q => absurd q (by decide), fun q => by omega⟩, ⟨fun q => absurd q (by decide), fun q => by omega⟩⟩
  · rw [show FP.dcmp y z = some .eq from m2.mpr h, cv_e]
    exact ⟨⟨fun q => absurd q (by decide), fun q => by omega⟩, ⟨fun _ => by omega, fun _ => by decide⟩, ⟨fun _ => h, fun _ => rfl⟩⟩
  · rw [show FP.dcmp y z = some .gt from m3.mpr h, cv_g]
    exact ⟨⟨fun q => absurd q (by decide), fun q => by omega⟩, ⟨fun _ => by omega, fun _ => by decide⟩, ⟨fun q => absurd q (by decide), fun q => by omega⟩⟩
theorem v_one : FP.Core.val64 FP.dconst1 = .fin false (2 ^ 52) (-52) := by decide +kernel
theorem v_zero : FP.Core.val64 FP.dconst0 = .fin false 0 (-1074) := by decide +kernel
theorem v_2p64 : FP.Core.val64 (4895412794951729152 : UInt64) = .fin false (2 ^ 52) 12 := by decide +kernel
theorem v_two : FP.Core.val64 (4611686018427387904 : UInt64) = .fin false (2 ^ 52) (-51) := by decide +kernel
theorem v_2p52 : FP.Core.val64 (4841369599423283200 : UInt64) = .fin false (2 ^ 52) 0 := by decide +kernel
theorem v_32 : FP.Core.val64 (4629700416936869888 : UInt64) = .fin false (2 ^ 52) (-47) := by decide +kernel
theorem fitN {s : Bool} {M : Nat} {E : Int} (h1 : 2 ^ 52 ≤ M) (h2 : M < 2 ^ 53) (h3 : -1074 ≤ E) (h4 : E ≤ 971) : FP.Core.fits FP.Core.b64 (.fin s M E) := by
  have e1 : FP.Core.b64.qmin = -1074 := FP.Core.qmin_b64
  have e2 : FP.Core.b64.qmax = 971 := by decide
  have e3 : FP.Core.b64.tails = 2 ^ 52 := FP.Core.tails_b64
  exact ⟨h2, by rw [e1]; exact h3, by rw [e2]; exact h4, Or.inr (by rw [e3]; exact h1)⟩
theorem mulP {y z : UInt64} {M : Nat} {E r : Int} (hy : FP.Core.val64 y = .fin false M E) (hz : FP.Core.val64 z = .fin false (2 ^ 52) r) (h1 : 2 ^ 52 ≤ M) (h2 : M < 2 ^ 53) (h3 : -1074 ≤ E + r + 52) (h4 : E + r + 52 ≤ 971) : FP.Core.val64 (FP.dmul y z) = .fin false M (E + r + 52) := by
  have e : FP.Core.val64 (FP.dmul y z) = FP.Core.roundRatio FP.Core.b64 false (M * 2 ^ 52) 1 (E + r) := by
    show FP.Core.val64 (FP.Core.dmul y z) = _
    rw [FP.Core.val64_dmul, hy, hz]
    rfl
  rw [e]
  refine FP.Core.roundRatio_exact FP.Core.good_b64 (by decide) (fitN h1 h2 h3 h4) ?_
  rw [show ((E + r) - (E + r + 52)).toNat = 0 by omega, show ((E + r + 52) - (E + r)).toNat = 52 by omega, Nat.pow_zero, Nat.mul_one, Nat.mul_one]
theorem divP {y z : UInt64} {M : Nat} {E r : Int} (hy : FP.Core.val64 y = .fin false M E) (hz : FP.Core.val64 z = .fin false (2 ^ 52) r) (h1 : 2 ^ 52 ≤ M) (h2 : M < 2 ^ 53) (h3 : -1074 ≤ E - r - 52) (h4 : E - r - 52 ≤ 971) : FP.Core.val64 (FP.ddiv y z) = .fin false M (E - r - 52) := by
  have e : FP.Core.val64 (FP.ddiv y z) = FP.Core.roundRatio FP.Core.b64 false M (2 ^ 52) (E - r) := by
    show FP.Core.val64 (FP.Core.ddiv y z) = _
    rw [FP.Core.val64_ddiv, hy, hz]
    show (if (2 ^ 52 : Nat) = 0 then (if M = 0 then FP.Core.Datum.nan else .inf (false != false)) else FP.Core.roundRatio FP.Core.b64 (false != false) M (2 ^ 52) (E - r)) = _
    rw [if_neg (by decide)]
    rfl
  rw [e]
  refine FP.Core.roundRatio_exact FP.Core.good_b64 (by decide) (fitN h1 h2 h3 h4) ?_
  rw [show ((E - r) - (E - r - 52)).toNat = 52 by omega, show ((E - r - 52) - (E - r)).toNat = 0 by omega, Nat.pow_zero, Nat.mul_one]
theorem norm_ex {c : Nat} (h0 : 0 < c) {p : Nat} (h : c < 2 ^ (p + 1)) : ∃ k, k ≤ p ∧ 2 ^ p ≤ c * 2 ^ k ∧ c * 2 ^ k < 2 ^ (p + 1) := by
  have l1 : 2 ^ c.log2 ≤ c := Nat.log2_self_le (by omega)
  have l2 : c < 2 ^ (c.log2 + 1) := Nat.lt_log2_self
  have l3 : c.log2 < p + 1 := (Nat.log2_lt (by omega)).mpr h
  have e1 : 2 ^ p = 2 ^ c.log2 * 2 ^ (p - c.log2) := by
    rw [← Nat.pow_add]
    congr 1
    omega
  have e2 : 2 ^ (p + 1) = 2 ^ (c.log2 + 1) * 2 ^ (p - c.log2) := by
    rw [← Nat.pow_add]
    congr 1
    omega
  refine ⟨p - c.log2, by omega, ?_, ?_⟩
  · rw [e1]
    exact Nat.mul_le_mul_right _ l1
  · rw [e2]
    exact (Nat.mul_lt_mul_right (Nat.two_pow_pos _)).mpr l2
/-- a subnormal one, the first time that it is taken times 2 to the 64th -/
theorem mulS {y : UInt64} {c k : Nat} (hy : FP.Core.val64 y = .fin false c (-1074)) (hk : k ≤ 52) (h1 : 2 ^ 52 ≤ c * 2 ^ k) (h2 : c * 2 ^ k < 2 ^ 53) : FP.Core.val64 (FP.dmul y (4895412794951729152 : UInt64)) = .fin false (c * 2 ^ k) (-1010 - (k : Int)) := by
  have e : FP.Core.val64 (FP.dmul y (4895412794951729152 : UInt64)) = FP.Core.roundRatio FP.Core.b64 false (c * 2 ^ 52) 1 (-1062) := by
    show FP.Core.val64 (FP.Core.dmul y _) = _
    rw [FP.Core.val64_dmul, hy, v_2p64]
    rfl
  rw [e]
  refine FP.Core.roundRatio_exact FP.Core.good_b64 (by decide) (fitN h1 h2 (by omega) (by omega)) ?_
  rw [show ((-1062 : Int) - (-1010 - (k : Int))).toNat = 0 by omega, show ((-1010 - (k : Int)) - (-1062)).toNat = 52 - k by omega, Nat.pow_zero, Nat.mul_one, Nat.mul_one, Nat.mul_assoc, ← Nat.pow_add]
  congr 2
  omega
theorem oI (pw k : Int) (c : Int32) (h : Int32.ofInt k = c) : Int32.ofInt pw + c = Int32.ofInt (pw + k) := by
  rw [← h, Int32.ofInt_add]
section
variable (p1 : UInt64) (p2 p3 : Int32) {M : Nat} (h1 : 2 ^ 52 ≤ M) (h2 : M < 2 ^ 53)
theorem loop91 (h1 : 2 ^ 52 ≤ M) (h2 : M < 2 ^ 53) : ∀ (m j : Nat) (y : UInt64) (E pw : Int), FP.Core.val64 y = .fin false M E → -116 ≤ E → E ≤ -52 → -52 - E + (j : Int) ≤ 64 → -52 - E < (m : Int) → ∃ y', f_X0_packed_b91 p1 p2 p3 m y (Int32.ofInt pw) (nI j) = f_X0_packed_b122 p1 p2 p3 y' (Int32.ofInt (pw + E + 52)) ∧ FP.Core.val64 y' = .fin false M (-52) := by
  intro m
  induction m with
  | zero =>
    intro j y E pw hy a1 a2 a3 a4
    omega
  | succ m ih =>
    intro j y E pw hy a1 a2 a3 a4
    show ∃ y', f_X0_packed_s91 p1 p2 p3 (f_X0_packed_b91 p1 p2 p3 m) y (Int32.ofInt pw) (nI j) = _ ∧ _
    unfold f_X0_packed_s91
    have hb := bitsD hy
    have ho := bitsD v_one
    have cm := cmpD hy v_one CmpOp.g
    by_cases e : E = -52
    · subst e
      have ge : 0 ≤ Op.cmpValue (FP.dcmp y FP.dconst1) CmpOp.g := cm.2.1.mpr (by omega)
      have ep : pw + -52 + 52 = pw := by omega
      rw [ep]
      by_cases h : (64 : Int32) ≤ nI j
      · rw [if_pos h]
        exact ⟨y, rfl, hy⟩
      · rw [if_neg h, if_pos ge]
        exact ⟨y, rfl, hy⟩
    · have lt : ¬ 0 ≤ Op.cmpValue (FP.dcmp y FP.dconst1) CmpOp.g := fun q => by
        have := cm.2.1.mp q
        rw [hb, ho] at this
        omega
      have hm := mulP hy v_two h1 h2 (by omega) (by omega)
      rw [if_neg (show ¬ (64 : Int32) ≤ nI j from nI_ge (a := j) (b := 64) (by omega) (by decide)), if_neg lt, if_pos (ngD (fin_ne hm)), nmE, nmE, nmE, nI_1, oI pw (-1) (-1) (by decide)]
      obtain ⟨y', q1, q2⟩ := ih (j + 1) _ (E + -51 + 52) (pw + -1) hm (by omega) (by omega) (by omega) (by omega)
      refine ⟨y', ?_, q2⟩
      rw [q1, show pw + -1 + (E + -51 + 52) + 52 = pw + E + 52 by omega]
theorem loop55 (h1 : 2 ^ 52 ≤ M) (h2 : M < 2 ^ 53) : ∀ (m j : Nat) (y : UInt64) (E pw : Int), FP.Core.val64 y = .fin false M E → -116 ≤ E → E ≤ 12 → (E + 52 + (j : Int) ≤ 64 ∨ E ≤ -52) → E + 52 < (m : Int) → 0 < m → ∃ y', f_X0_packed_b55 p1 p2 p3 m y (Int32.ofInt pw) (nI j) = f_X0_packed_b122 p1 p2 p3 y' (Int32.ofInt (pw + E + 52)) ∧ FP.Core.val64 y' = .fin false M (-52) := by
  intro m
  induction m with
  | zero =>
    intro j y E pw hy a1 a2 a3 a4 a5
    omega
  | succ m ih =>
    intro j y E pw hy a1 a2 a3 a4 a5
    show ∃ y', f_X0_packed_s55 p1 p2 p3 (f_X0_packed_b55 p1 p2 p3 m) y (Int32.ofInt pw) (nI j) = _ ∧ _
    unfold f_X0_packed_s55
    have hb := bitsD hy
    have ho := bitsD v_two
    have cm := cmpD hy v_two CmpOp.l
    by_cases e : E ≤ -52
    · have lt : Op.cmpValue (FP.dcmp y (4611686018427387904 : UInt64)) CmpOp.l < 0 := cm.1.mpr (by omega)
      have go := loop91 p1 p2 p3 h1 h2 70 0 y E pw hy a1 e (by omega) (by omega)
      rw [nI_0] at go
      by_cases h : (64 : Int32) ≤ nI j
      · rw [if_pos h]
        exact go
      · rw [if_neg h, if_pos lt]
        exact go
    · have nl : ¬ Op.cmpValue (FP.dcmp y (4611686018427387904 : UInt64)) CmpOp.l < 0 := fun q => by
        have := cm.1.mp q
        rw [hb, ho] at this
        omega
      have hm := divP hy v_two h1 h2 (by omega) (by omega)
      rw [if_neg (show ¬ (64 : Int32) ≤ nI j from nI_ge (a := j) (b := 64) (by omega) (by decide)), if_neg nl, if_pos (ngD (fin_ne hm)), nmE, nmE, nmE, nI_1, oI pw 1 1 (by decide)]
      obtain ⟨y', q1, q2⟩ := ih (j + 1) _ (E - -51 - 52) (pw + 1) hm (by omega) (by omega) (by omega) (by omega) (by omega)
      refine ⟨y', ?_, q2⟩
      rw [q1, show pw + 1 + (E - -51 - 52) + 52 = pw + E + 52 by omega]
theorem loop17 (h1 : 2 ^ 52 ≤ M) (h2 : M < 2 ^ 53) : ∀ (m j : Nat) (y : UInt64) (E pw : Int), FP.Core.val64 y = .fin false M E → -1074 ≤ E → E ≤ 12 → -116 - E ≤ 64 * (20 - (j : Int)) → -116 - E ≤ 64 * (m : Int) - 64 → 0 < m → ∃ y', f_X0_packed_b17 p1 p2 p3 m y (Int32.ofInt pw) (nI j) = f_X0_packed_b122 p1 p2 p3 y' (Int32.ofInt (pw + E + 52)) ∧ FP.Core.val64 y' = .fin false M (-52) := by
  intro m
  induction m with
  | zero =>
    intro j y E pw hy a1 a2 a3 a4 a5
    omega
  | succ m ih =>
    intro j y E pw hy a1 a2 a3 a4 a5
    show ∃ y', f_X0_packed_s17 p1 p2 p3 (f_X0_packed_b17 p1 p2 p3 m) y (Int32.ofInt pw) (nI j) = _ ∧ _
    unfold f_X0_packed_s17
    have hm := mulP hy v_2p64 h1 h2 (by omega) (by omega)
    have hb := bitsD hm
    have ho := bitsD v_one
    have cm := cmpD hm v_one CmpOp.g
    by_cases e : -116 ≤ E
    · have ge : 0 ≤ Op.cmpValue (FP.dcmp (FP.dmul y (4895412794951729152 : UInt64)) FP.dconst1) CmpOp.g := cm.2.1.mpr (by omega)
      have go := loop55 p1 p2 p3 h1 h2 70 0 y E pw hy e a2 (by omega) (by omega) (by omega)
      rw [nI_0] at go
      by_cases h : (20 : Int32) ≤ nI j
      · rw [if_pos h]
        exact go
      · rw [if_neg h, if_pos (ngD (fin_ne hm)), if_pos ge]
        exact go
    · have lt : ¬ 0 ≤ Op.cmpValue (FP.dcmp (FP.dmul y (4895412794951729152 : UInt64)) FP.dconst1) CmpOp.g := fun q => by
        have := cm.2.1.mp q
        rw [hb, ho] at this
        omega
      rw [if_neg (show ¬ (20 : Int32) ≤ nI j from nI_ge (a := j) (b := 20) (by omega) (by decide)), if_pos (ngD (fin_ne hm)), if_neg lt, if_pos (ngD (fin_ne hm)), nmE, nmE, nmE, nI_1, oI pw (-64) (-64) (by decide)]
      obtain ⟨y', q1, q2⟩ := ih (j + 1) _ (E + 12 + 52) (pw + -64) hm (by omega) (by omega) (by omega) (by omega) (by omega)
      refine ⟨y', ?_, q2⟩
      rw [q1, show pw + -64 + (E + 12 + 52) + 52 = pw + E + 52 by omega]
end
theorem packed_at (p2 p3 : Int32) {y : UInt64} {c : Nat} {q : Int} (hy : FP.Core.val64 y = .fin false c q) (h0 : 0 < c) (hq : q ≤ 12) : ∃ (k : Nat) (y' : UInt64), k ≤ 52 ∧ 2 ^ 52 ≤ c * 2 ^ k ∧ c * 2 ^ k < 2 ^ 53 ∧ (2 ^ 52 ≤ c → k = 0) ∧ (¬ 2 ^ 52 ≤ c → 0 < k ∧ q = -1074) ∧ f_X0_packed y p2 p3 = f_X0_packed_b122 y p2 p3 y' (Int32.ofInt (q - (k : Int) + 52)) ∧ FP.Core.val64 y' = .fin false (c * 2 ^ k) (-52) := by
  obtain ⟨f1, f2, f3, f4⟩ := fitsD hy
  have hb := bitsD hy
  have hz := bitsD v_zero
  have cz := cmpD hy v_zero CmpOp.l
  have ne : ¬ Op.cmpValue (FP.dcmp y FP.dconst0) CmpOp.l = 0 := fun z => by
    have := cz.2.2.mp z
    rw [hb, hz] at this
    omega
  unfold f_X0_packed
  rw [if_neg ne]
  by_cases hc : 2 ^ 52 ≤ c
  · obtain ⟨y', q1, q2⟩ := loop17 y p2 p3 hc f1 70 0 y q 0 hy f2 hq (by omega) (by omega) (by omega)
    rw [nI_0, show Int32.ofInt 0 = 0 from rfl] at q1
    refine ⟨0, y', by omega, by omega, by omega, fun _ => rfl, fun n => absurd hc n, ?_, ?_⟩
    · rw [q1, show (0 : Int) + q + 52 = q - ((0 : Nat) : Int) + 52 by omega]
    · rw [q2, Nat.pow_zero, Nat.mul_one]
  · have e : q = -1074 := f4.resolve_right hc
    subst e
    obtain ⟨k, k1, k2, k3⟩ := norm_ex h0 (p := 52) f1
    have kp : 0 < k := by
      rcases Nat.eq_zero_or_pos k with z | z
      · subst z
        rw [Nat.pow_zero, Nat.mul_one] at k2
        omega
      · exact z
    have hm := mulS hy k1 k2 k3
    have hbm := bitsD hm
    have ho := bitsD v_one
    have cm := cmpD hm v_one CmpOp.g
    have lt : ¬ 0 ≤ Op.cmpValue (FP.dcmp (FP.dmul y (4895412794951729152 : UInt64)) FP.dconst1) CmpOp.g := fun z => by
      have := cm.2.1.mp z
      rw [hbm, ho] at this
      omega
    obtain ⟨y', q1, q2⟩ := loop17 y p2 p3 k2 k3 69 1 (FP.dmul y (4895412794951729152 : UInt64)) (-1010 - (k : Int)) (0 + -64) hm (by omega) (by omega) (by omega) (by omega) (by omega)
    refine ⟨k, y', k1, k2, k3, fun n => absurd n hc, fun _ => ⟨kp, rfl⟩, ?_, q2⟩
    show f_X0_packed_s17 y p2 p3 (f_X0_packed_b17 y p2 p3 69) y 0 0 = _
    unfold f_X0_packed_s17
    rw [if_neg (show ¬ (20 : Int32) ≤ 0 by decide), if_pos (ngD (fin_ne hm)), if_neg lt, if_pos (ngD (fin_ne hm)), nmE, nmE, nmE]
    have e1 : (0 : Int32) + (-64) = Int32.ofInt (0 + -64) := by decide
    have e2 : (0 : Int32) + 1 = nI 1 := by decide
    rw [e1, e2, q1, show (0 : Int) + -64 + (-1010 - (k : Int)) + 52 = -1074 - (k : Int) + 52 by omega]
theorem wb_sar {n k : Nat} (hn : n < 2 ^ 63) (hk : k < 64) : lN n >>> ((nI k).toInt64 &&& 63) = lN (n / 2 ^ k) := by
  rw [wb_c k hk]
  apply Int64.toInt_inj.mp
  have hs : ((lN k).toBitVec.smod 64).toNat = k := by
    rw [wb_tb, wb_sm k hk, BitVec.toNat_ofNat, Nat.mod_eq_of_lt (by omega)]
  have h : (lN n >>> lN k).toInt = (lN n).toInt >>> k := by
    show ((lN n).toBitVec.sshiftRight ((lN k).toBitVec.smod 64).toNat).toInt = _
    rw [hs, BitVec.toInt_sshiftRight]
    rfl
  rw [h, lN_tI hn, lN_tI (Nat.lt_of_le_of_lt (Nat.div_le_self _ _) hn), Int.shiftRight_eq_div_pow]
  rfl
theorem b122_at (p1 : UInt64) (p2 p3 x6 : Int32) {y : UInt64} {M : Nat} (hy : FP.Core.val64 y = .fin false M (-52)) (h1 : 2 ^ 52 ≤ M) (h2 : M < 2 ^ 53) {a : Nat} (ha : a < 64) (e : (52 : Int32) - p2 = nI a) : f_X0_packed_b122 p1 p2 p3 y x6 = if p3 ≤ x6 then some (((x6 - p3) + (1 : Int32)).toInt64 * ((1 : Int64) <<< (p2.toInt64 &&& 63)) ||| (lN (M / 2 ^ a) &&& ((1 : Int64) <<< (p2.toInt64 &&& 63) - 1))) else some (lN (M / 2 ^ a) >>> ((p3 - x6).toInt64 &&& 63)) := by
  have hm : FP.Core.val64 (FP.dmul y (4841369599423283200 : UInt64)) = .fin false M 0 := mulP hy v_2p52 h1 h2 (by decide) (by decide)
  have hd : FP.d2l (FP.dmul y (4841369599423283200 : UInt64)) = lN M := by
    refine FP.Core.d2l_int ?_
    show FP.Core.Whole (lN M).toInt (FP.Core.val64 (FP.dmul y (4841369599423283200 : UInt64)))
    rw [hm, lN_tI (by omega)]
    show FP.Core.signed false (M * 2 ^ 0) = (M : Int) * ((2 ^ 0 : Nat) : Int)
    rw [Nat.pow_zero, Nat.mul_one]
    show (M : Int) = (M : Int) * ((1 : Nat) : Int)
    omega
  unfold f_X0_packed_b122
  rw [if_pos (ngD (fin_ne hm)), hd, nmE, e, wb_sar (by omega) ha]
  by_cases h : p3 ≤ x6
  · rw [if_pos h, if_pos h, nmE]
  · rw [if_neg h, if_neg h]
theorem iI_le {a b : Int} (ha : -2 ^ 31 ≤ a) (ha' : a < 2 ^ 31) (hb : -2 ^ 31 ≤ b) (hb' : b < 2 ^ 31) : Int32.ofInt a ≤ Int32.ofInt b ↔ a ≤ b := by
  rw [Int32.le_iff_toInt_le, Int32.toInt_ofInt_of_le ha ha', Int32.toInt_ofInt_of_le hb hb']
theorem or_add {i a b : Nat} (h : b < 2 ^ i) : (a * 2 ^ i) ||| b = a * 2 ^ i + b := by
  rw [Nat.mul_comm]
  exact (Nat.two_pow_add_eq_or_of_lt h a).symm
/-- a normal one: the bits out of the power and the digits -/
theorem pk_norm {d t m : Nat} (hd : d ≤ 52) {p2 : Int32} (e2 : p2 = nI d) (h1 : 2 ^ d ≤ m) (h2 : m < 2 ^ (d + 1)) (ht : 1 ≤ t) (ht2 : t < 2047) {x : Int32} (ex : x = nI t) : x.toInt64 * ((1 : Int64) <<< (p2.toInt64 &&& 63)) ||| (lN m &&& ((1 : Int64) <<< (p2.toInt64 &&& 63) - 1)) = lN ((t - 1) * 2 ^ d + m) := by
  subst e2
  subst ex
  have hp : 2 ^ d ≤ 2 ^ 52 := Nat.pow_le_pow_right (by decide) hd
  have hpp := Nat.two_pow_pos d
  have es : (1 : Int64) <<< ((nI d).toInt64 &&& 63) = lN (2 ^ d) := by
    have := wb_shl 1 (k := d) (by omega)
    rw [Nat.one_mul] at this
    exact this
  have hm : m % 2 ^ d = m - 2 ^ d := by
    rw [Nat.pow_succ] at h2
    rw [Nat.mod_eq_sub_mod h1, Nat.mod_eq_of_lt (by omega)]
  have hml : m < 2 ^ 64 := by
    have : 2 ^ (d + 1) ≤ 2 ^ 53 := Nat.pow_le_pow_right (by decide) (by omega)
    omega
  have htl : t * 2 ^ d < 2 ^ 64 := by
    have : t * 2 ^ d ≤ 2047 * 2 ^ 52 := Nat.mul_le_mul (by omega) hp
    omega
  rw [es, lN_pow_pred, nI_l (by omega), lN_mul, wb_and hml (by omega), Nat.and_two_pow_sub_one_eq_mod, wb_or htl (Nat.lt_trans (Nat.mod_lt _ hpp) (by omega)), or_add (Nat.mod_lt _ hpp), hm]
  congr 1
  obtain ⟨s, rfl⟩ : ∃ s, t = s + 1 := ⟨t - 1, by omega⟩
  rw [Nat.add_mul, Nat.one_mul, Nat.add_sub_cancel]
  omega
theorem packD {y : UInt64} {c : Nat} {q : Int} (hy : FP.Core.val64 y = .fin false c q) (hq : q ≤ 12) : f_X0_packed y 52 (-1022) = some (lN y.toNat) := by
  have hb := bitsD hy
  obtain ⟨f1, f2, f3, f4⟩ := fitsD hy
  by_cases h0 : c = 0
  · subst h0
    have hq : q = -1074 := f4.resolve_right (by omega)
    subst hq
    have z : y.toNat = 0 := by
      rw [hb]
      omega
    unfold f_X0_packed
    rw [if_pos ((cmpD hy v_zero CmpOp.l).2.2.mpr (by rw [z, bitsD v_zero]; rfl)), z]
    rfl
  · obtain ⟨k, y', k1, k2, k3, k4, k5, q1, q2⟩ := packed_at 52 (-1022) hy (by omega) hq
    rw [q1, b122_at y 52 (-1022) _ q2 k2 k3 (a := 0) (by decide) (by decide), Nat.pow_zero, Nat.div_one]
    have e3 : (-1022 : Int32) = Int32.ofInt (-1022) := by decide
    by_cases hc : 2 ^ 52 ≤ c
    · have k0 := k4 hc
      subst k0
      rw [Nat.pow_zero, Nat.mul_one]
      have le : (-1022 : Int32) ≤ Int32.ofInt (q - ((0 : Nat) : Int) + 52) := by
        rw [e3, iI_le (by decide) (by decide) (by omega) (by omega)]
        omega
      have ex : Int32.ofInt (q - ((0 : Nat) : Int) + 52) - (-1022 : Int32) + 1 = nI (q + 1075).toNat := by
        rw [e3, ← Int32.ofInt_sub, show (1 : Int32) = Int32.ofInt 1 from rfl, ← Int32.ofInt_add]
        apply Int32.toInt_inj.mp
        rw [Int32.toInt_ofInt_of_le (by omega) (by omega), nI_toInt (by omega)]
        omega
      rw [if_pos le, pk_norm (p2 := 52) (d := 52) (t := (q + 1075).toNat) (m := c) (by decide) rfl hc f1 (by omega) (by omega) ex, hb, show (q + 1075).toNat - 1 = (q + 1074).toNat by omega]
    · obtain ⟨kp, e⟩ := k5 hc
      subst e
      have nl : ¬ (-1022 : Int32) ≤ Int32.ofInt (-1074 - (k : Int) + 52) := by
        rw [e3, iI_le (by decide) (by decide) (by omega) (by omega)]
        omega
      have ex : (-1022 : Int32) - Int32.ofInt (-1074 - (k : Int) + 52) = nI k := by
        rw [e3, ← Int32.ofInt_sub]
        apply Int32.toInt_inj.mp
        rw [Int32.toInt_ofInt_of_le (by omega) (by omega), nI_toInt (by omega)]
        omega
      rw [if_neg nl, ex, wb_sar (by omega) (by omega), Nat.mul_div_cancel _ (Nat.two_pow_pos k), hb, show ((-1074 : Int) + 1074).toNat * 2 ^ 52 + c = c by omega]
