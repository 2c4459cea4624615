/-! floats: ofFloat and ofDouble are the host's bits -/
theorem f2d_c {x : UInt32} (h : FP.Core.val32 x ≠ .nan) : FP.f2d x = FP.Core.f2d x := FP.f2d_core ((FP.Core.notNaN_iff32 x).mpr h)
theorem d2f_c {x : UInt64} (h : FP.Core.val64 x ≠ .nan) : FP.d2f x = FP.Core.d2f x := FP.d2f_core ((FP.Core.notNaN_iff x).mpr h)
theorem f2d_at {x : UInt32} {s : Bool} {c k : Nat} {q : Int} (hx : FP.Core.val32 x = .fin s c q) (hk : k ≤ 23) (h1 : 2 ^ 23 ≤ c * 2 ^ k) (h2 : c * 2 ^ k < 2 ^ 24) : FP.Core.val64 (FP.f2d x) = .fin s (c * 2 ^ k * 2 ^ 29) (q - (k : Int) - 29) := by
  obtain ⟨f1, f2, f3, f4⟩ := fitsF hx
  have e : FP.Core.val64 (FP.f2d x) = FP.Core.roundRatio FP.Core.b64 s c 1 q := by
    rw [f2d_c (fin_ne hx), FP.Core.val64_f2d, hx]
    rfl
  rw [e]
  refine FP.Core.roundRatio_exact FP.Core.good_b64 (by decide) (fitN (by omega) (by omega) (by omega) (by omega)) ?_
  rw [show (q - (q - (k : Int) - 29)).toNat = k + 29 by omega, show ((q - (k : Int) - 29) - q).toNat = 0 by omega, Nat.pow_zero, Nat.mul_one, Nat.mul_one, Nat.pow_add, Nat.mul_assoc]
theorem f2d_0 {x : UInt32} {s : Bool} {q : Int} (hx : FP.Core.val32 x = .fin s 0 q) : FP.Core.val64 (FP.f2d x) = .fin s 0 (-1074) := by
  rw [f2d_c (fin_ne hx), FP.Core.val64_f2d, hx]
  rfl
theorem packF {x : UInt32} {c : Nat} {q : Int} (hx : FP.Core.val32 x = .fin false c q) (h0 : 0 < c) (hq : q ≤ 40) : f_X0_packed (FP.f2d x) 23 (-126) = some (lN x.toNat) := by
  have hb := bitsF hx
  obtain ⟨f1, f2, f3, f4⟩ := fitsF hx
  obtain ⟨k, k1, k2, k3⟩ := norm_ex h0 (p := 23) f1
  have hy := f2d_at hx k1 k2 k3
  obtain ⟨k', y', g1, g2, g3, g4, g5, q1, q2⟩ := packed_at 23 (-126) hy (by omega) (by omega)
  have k0 : k' = 0 := g4 (by omega)
  subst k0
  rw [q1, b122_at _ 23 (-126) _ q2 g2 g3 (a := 29) (by decide) (by decide), Nat.pow_zero, Nat.mul_one, Nat.mul_div_cancel _ (Nat.two_pow_pos 29)]
  have e3 : (-126 : Int32) = Int32.ofInt (-126) := by decide
  by_cases hc : 2 ^ 23 ≤ c
  · have k0 : k = 0 := by
      rcases Nat.eq_zero_or_pos k with z | z
      · exact z
      · obtain ⟨j, rfl⟩ : ∃ j, k = j + 1 := ⟨k - 1, by omega⟩
        have : 2 ^ 23 * 2 ≤ c * 2 ^ (j + 1) := Nat.mul_le_mul hc (by rw [Nat.pow_succ]; have := Nat.two_pow_pos j; omega)
        omega
    subst k0
    rw [Nat.pow_zero, Nat.mul_one]
    have le : (-126 : Int32) ≤ Int32.ofInt (q - ((0 : Nat) : Int) - 29 - ((0 : Nat) : Int) + 52) := by
      rw [e3, iI_le (by decide) (by decide) (by omega) (by omega)]
      omega
    have ex : Int32.ofInt (q - ((0 : Nat) : Int) - 29 - ((0 : Nat) : Int) + 52) - (-126 : Int32) + 1 = nI (q + 150).toNat := by
      rw [e3, ← Int32.ofInt_sub, show (1 : Int32) = Int32.ofInt 1 from rfl, ← Int32.ofInt_add]
      apply Int32.toInt_inj.mp
      rw [Int32.toInt_ofInt_of_le (by omega) (by omega), nI_toInt (by omega)]
      omega
    rw [if_pos le, pk_norm (p2 := 23) (d := 23) (t := (q + 150).toNat) (m := c) (by decide) rfl hc f1 (by omega) (by omega) ex, hb, show (q + 150).toNat - 1 = (q + 149).toNat by omega]
  · have e : q = -149 := f4.resolve_right hc
    subst e
    have kp : 0 < k := by
      rcases Nat.eq_zero_or_pos k with z | z
      · subst z
        rw [Nat.pow_zero, Nat.mul_one] at k2
        omega
      · exact z
    have nl : ¬ (-126 : Int32) ≤ Int32.ofInt (-149 - (k : Int) - 29 - ((0 : Nat) : Int) + 52) := by
      rw [e3, iI_le (by decide) (by decide) (by omega) (by omega)]
      omega
    have ex : (-126 : Int32) - Int32.ofInt (-149 - (k : Int) - 29 - ((0 : Nat) : Int) + 52) = nI k := by
      rw [e3, ← Int32.ofInt_sub]
      apply Int32.toInt_inj.mp
      rw [Int32.toInt_ofInt_of_le (by omega) (by omega), nI_toInt (by omega)]
      omega
    rw [if_neg nl, ex, wb_sar (by omega) (by omega), Nat.mul_div_cancel _ (Nat.two_pow_pos k), hb, show ((-149 : Int) + 149).toNat * 2 ^ 23 + c = c by omega]
theorem cmpK {y z : UInt64} (hy : FP.Core.val64 y ≠ .nan) (hz : FP.Core.val64 z ≠ .nan) (op : CmpOp) : (Op.cmpValue (FP.dcmp y z) op < 0 ↔ FP.Core.dkey y < FP.Core.dkey z) ∧ (0 ≤ Op.cmpValue (FP.dcmp y z) op ↔ FP.Core.dkey z ≤ FP.Core.dkey y) ∧ (Op.cmpValue (FP.dcmp y z) op = 0 ↔ FP.Core.dkey y = FP.Core.dkey z) := by
  rcases Int.lt_trichotomy (FP.Core.dkey y) (FP.Core.dkey z) with h | h | h
  · rw [show FP.dcmp y z = some .lt from (FP.Core.dcmp_lt_key hy hz).mpr h, cv_l]
    exact ⟨⟨fun _ => h, fun _ => by decide⟩, ⟨fun q => absurd q (by decide), fun q => by omega⟩, ⟨fun q => absurd q (by decide), fun q => by omega⟩⟩
  · rw [show FP.dcmp y z = some .eq from (FP.Core.dcmp_eq_key hy hz).mpr h, cv_e]
    exact ⟨⟨fun q => absurd q (by decide), fun q => by omega⟩, ⟨fun _ => by omega, fun _ => by decide⟩, ⟨fun _ => h, fun _ => rfl⟩⟩
  · rw [show FP.dcmp y z = some .gt from (FP.Core.dcmp_gt_key hy hz).mpr h, cv_g]
    exact ⟨⟨fun q => absurd q (by decide), fun q => by omega⟩, ⟨fun _ => by omega, fun _ => by decide⟩, ⟨fun q => absurd q (by decide), fun q => by omega⟩⟩
theorem cmpKF {y z : UInt32} (hy : FP.Core.val32 y ≠ .nan) (hz : FP.Core.val32 z ≠ .nan) (op : CmpOp) : (Op.cmpValue (FP.fcmp y z) op < 0 ↔ FP.Core.fkey y < FP.Core.fkey z) ∧ (0 ≤ Op.cmpValue (FP.fcmp y z) op ↔ FP.Core.fkey z ≤ FP.Core.fkey y) ∧ (Op.cmpValue (FP.fcmp y z) op = 0 ↔ FP.Core.fkey y = FP.Core.fkey z) := by
  rcases Int.lt_trichotomy (FP.Core.fkey y) (FP.Core.fkey z) with h | h | h
  · rw [show FP.fcmp y z = some .lt from (FP.Core.fcmp_lt_key hy hz).mpr h, cv_l]
    exact ⟨⟨fun _ => h, fun _ => by decide⟩, ⟨fun q => absurd q (by decide), fun q => by omega⟩, ⟨fun q => absurd q (by decide), fun q => by omega⟩⟩
  · rw [show FP.fcmp y z = some .eq from (FP.Core.fcmp_eq_key hy hz).mpr h, cv_e]
    exact ⟨⟨fun q => absurd q (by decide), fun q => by omega⟩, ⟨fun _ => by omega, fun _ => by decide⟩, ⟨fun _ => h, fun _ => rfl⟩⟩
  · rw [show FP.fcmp y z = some .gt from (FP.Core.fcmp_gt_key hy hz).mpr h, cv_g]
    exact ⟨⟨fun q => absurd q (by decide), fun q => by omega⟩, ⟨fun _ => by omega, fun _ => by decide⟩, ⟨fun q => absurd q (by decide), fun q => by omega⟩⟩
theorem dkey_0 : FP.Core.dkey FP.dconst0 = 0 := by decide +kernel
theorem fkey_0 : FP.Core.fkey FP.fconst0 = 0 := by decide +kernel
theorem v_zeroF : FP.Core.val32 FP.fconst0 = .fin false 0 (-149) := by decide +kernel
/-- a number with a sign, that isn't 0: its key -/
theorem keyD {y : UInt64} {s : Bool} {c : Nat} {q : Int} (hy : FP.Core.val64 y = .fin s c q) (h0 : 0 < c) : (s = true ∧ 2 ^ 63 < y.toNat ∧ FP.Core.dkey y < 0) ∨ (s = false ∧ y.toNat < 2 ^ 63 ∧ 0 < FP.Core.dkey y) := by
  have nz : ¬ y.toNat % 2 ^ 63 = 0 := fun z => by
    obtain ⟨s', q', e⟩ := (FP.Core.zero_bits2 y).mpr z
    rw [hy] at e
    injection e with e1 e2 e3
    omega
  have hs := FP.Core.sgn_bits (fin_ne hy)
  rw [hy] at hs
  have hs : s = decide (2 ^ 63 ≤ y.toNat) := hs
  unfold FP.Core.dkey
  by_cases h : 2 ^ 63 ≤ y.toNat
  · refine Or.inl ⟨by rw [hs, decide_eq_true h], ?_, ?_⟩
    · omega
    · rw [if_pos h]
      omega
  · refine Or.inr ⟨by rw [hs, decide_eq_false h], by omega, ?_⟩
    rw [if_neg h]
    omega
theorem keyF {y : UInt32} {s : Bool} {c : Nat} {q : Int} (hy : FP.Core.val32 y = .fin s c q) (h0 : 0 < c) : (s = true ∧ 2 ^ 31 < y.toNat ∧ FP.Core.fkey y < 0) ∨ (s = false ∧ y.toNat < 2 ^ 31 ∧ 0 < FP.Core.fkey y) := by
  have nz : ¬ y.toNat % 2 ^ 31 = 0 := fun z => by
    obtain ⟨s', q', e⟩ := (FP.Core.zero_bits232 y).mpr z
    rw [hy] at e
    injection e with e1 e2 e3
    omega
  have hs := FP.Core.sgn_bits32 (fin_ne hy)
  rw [hy] at hs
  have hs : s = decide (2 ^ 31 ≤ y.toNat) := hs
  unfold FP.Core.fkey
  by_cases h : 2 ^ 31 ≤ y.toNat
  · refine Or.inl ⟨by rw [hs, decide_eq_true h], ?_, ?_⟩
    · omega
    · rw [if_pos h]
      omega
  · refine Or.inr ⟨by rw [hs, decide_eq_false h], by omega, ?_⟩
    rw [if_neg h]
    omega
theorem u2l (x : UInt64) : x.toInt64 = lN x.toNat := by
  apply wb_inj
  rw [wb_tb]
  apply BitVec.eq_of_toNat_eq
  rw [BitVec.toNat_ofNat]
  exact (Nat.mod_eq_of_lt x.toNat_lt).symm
theorem u2i (x : UInt32) : x.toInt32 = nI x.toNat := by
  apply Int32.toBitVec_inj.mp
  apply BitVec.eq_of_toNat_eq
  show x.toNat = (BitVec.ofNat 32 x.toNat).toNat
  rw [BitVec.toNat_ofNat]
  exact (Nat.mod_eq_of_lt x.toNat_lt).symm
theorem dneg_n {x : UInt64} (h : 2 ^ 63 ≤ x.toNat) : (FP.dneg x).toNat = x.toNat - 2 ^ 63 := by
  have hl := x.toNat_lt
  have e : (FP.dneg x).toNat = x.toNat ^^^ 2 ^ 63 := by
    unfold FP.dneg
    rw [UInt64.toNat_xor]
    rfl
  rw [e]
  exact (FP.xor_top (a := x.toNat) (k := 63) hl).2 h
theorem fneg_n {x : UInt32} (h : 2 ^ 31 ≤ x.toNat) : (FP.fneg x).toNat = x.toNat - 2 ^ 31 := by
  have hl := x.toNat_lt
  have e : (FP.fneg x).toNat = x.toNat ^^^ 2 ^ 31 := by
    unfold FP.fneg
    rw [UInt32.toNat_xor]
    rfl
  rw [e]
  exact (FP.xor_top (a := x.toNat) (k := 31) hl).2 h
theorem or_topL {n : Nat} (h : n < 2 ^ 63) : lN n ||| (-9223372036854775808 : Int64) = lN (n + 2 ^ 63) := by
  rw [show (-9223372036854775808 : Int64) = lN (1 * 2 ^ 63) from by decide, wb_or (by omega) (by decide), Nat.or_comm, or_add h]
  congr 1
  omega
theorem or_topI {n : Nat} (h : n < 2 ^ 31) : nI n ||| (-2147483648 : Int32) = nI (n + 2 ^ 31) := by
  apply Int32.toBitVec_inj.mp
  rw [Int32.toBitVec_or]
  show BitVec.ofNat 32 n ||| BitVec.ofNat 32 (1 * 2 ^ 31) = BitVec.ofNat 32 (n + 2 ^ 31)
  apply BitVec.eq_of_toNat_eq
  rw [BitVec.toNat_or, BitVec.toNat_ofNat, BitVec.toNat_ofNat, BitVec.toNat_ofNat, Nat.mod_eq_of_lt (show n < 2 ^ 32 by omega), Nat.mod_eq_of_lt (show 1 * 2 ^ 31 < 2 ^ 32 by decide), Nat.or_comm, or_add h, Nat.mod_eq_of_lt (by omega)]
  omega
theorem od_0 : f_X0_ofDouble 0 0 = some (0 : UInt64).toInt64 := by decide +kernel
theorem od_m : f_X0_ofDouble 9223372036854775808 1 = some (9223372036854775808 : UInt64).toInt64 := by decide +kernel
theorem of_0 : f_X0_ofFloat 0 0 = some (0 : UInt32).toInt32 := by decide +kernel
theorem of_m : f_X0_ofFloat 2147483648 1 = some (2147483648 : UInt32).toInt32 := by decide +kernel
theorem okD_fin {x : UInt64} (h : okD x) : ∃ s c q, FP.Core.val64 x = .fin s c q := (FP.Core.fin_bits x).mpr (by unfold okD at h; omega)
theorem okF_fin {x : UInt32} (h : okF x) : ∃ s c q, FP.Core.val32 x = .fin s c q := (FP.Core.fin_bits32 x).mpr (by unfold okF at h; omega)
theorem q_ofDouble {x : UInt64} (h : okD x) {n : Int32} (hn : n = if 2 ^ 63 ≤ x.toNat then 1 else 0) : f_X0_ofDouble x n = some x.toInt64 := by
  obtain ⟨s, c, q, hx⟩ := okD_fin h
  unfold okD at h
  have hl := x.toNat_lt
  by_cases h0 : c = 0
  · subst h0
    have z := (FP.Core.zero_bits2 x).mp ⟨s, q, hx⟩
    have e : x.toNat = 0 ∨ x.toNat = 9223372036854775808 := by omega
    rcases e with e | e
    · have n0 : n = 0 := hn.trans (if_neg (by omega))
      rw [n0, show x = 0 from UInt64.toNat_inj.mp e]
      exact od_0
    · have n0 : n = 1 := hn.trans (if_pos (by omega))
      rw [n0, show x = 9223372036854775808 from UInt64.toNat_inj.mp e]
      exact od_m
  · have cm := cmpK (fin_ne hx) (fin_ne v_zero)
    unfold f_X0_ofDouble f_X0_ofDouble_b12
    rw [u2l]
    rcases keyD hx (by omega) with ⟨rfl, p, hk⟩ | ⟨rfl, p, hk⟩
    · have hy : FP.Core.val64 (FP.dneg x) = .fin false c q := by
        rw [FP.val64_dneg, hx]
        rfl
      have n0 : n = 1 := hn.trans (if_pos (by omega))
      have hb := bitsD hy
      rw [dneg_n (by omega)] at hb
      obtain ⟨f1, f2, f3, f4⟩ := fitsD hy
      have pk := packD hy (by omega)
      rw [n0, if_neg (fun z => by have := (cm CmpOp.g).2.1.mp z; rw [dkey_0] at this; omega), pk, bE1, if_neg (show ¬ (1 : Int32) = 0 by decide), dneg_n (by omega), or_topL (by omega), show x.toNat - 2 ^ 63 + 2 ^ 63 = x.toNat by omega]
    · have n0 : n = 0 := hn.trans (if_neg (by omega))
      have hb := bitsD hx
      obtain ⟨f1, f2, f3, f4⟩ := fitsD hx
      have pk := packD hx (by omega)
      rw [n0, if_pos ((cm CmpOp.g).2.1.mpr (by rw [dkey_0]; omega)), pk, bE1, if_pos rfl]
theorem q_ofFloat {x : UInt32} (h : okF x) {n : Int32} (hn : n = if 2 ^ 31 ≤ x.toNat then 1 else 0) : f_X0_ofFloat x n = some x.toInt32 := by
  obtain ⟨s, c, q, hx⟩ := okF_fin h
  unfold okF at h
  have hl := x.toNat_lt
  by_cases h0 : c = 0
  · subst h0
    have z := (FP.Core.zero_bits232 x).mp ⟨s, q, hx⟩
    have e : x.toNat = 0 ∨ x.toNat = 2147483648 := by omega
    rcases e with e | e
    · have n0 : n = 0 := hn.trans (if_neg (by omega))
      rw [n0, show x = 0 from UInt32.toNat_inj.mp e]
      exact of_0
    · have n0 : n = 1 := hn.trans (if_pos (by omega))
      rw [n0, show x = 2147483648 from UInt32.toNat_inj.mp e]
      exact of_m
  · have cm := cmpKF (fin_ne hx) (fin_ne v_zeroF)
    obtain ⟨f1, f2, f3, f4⟩ := fitsF hx
    obtain ⟨k, k1, k2, k3⟩ := norm_ex (c := c) (by omega) (p := 23) f1
    have hd := f2d_at hx k1 k2 k3
    unfold f_X0_ofFloat f_X0_ofFloat_b14
    rw [u2i]
    rcases keyF hx (by omega) with ⟨rfl, p, hk⟩ | ⟨rfl, p, hk⟩
    · have hy : FP.Core.val32 (FP.fneg x) = .fin false c q := by
        rw [FP.val32_fneg, hx]
        rfl
      have n0 : n = 1 := hn.trans (if_pos (by omega))
      have hb := bitsF hy
      rw [fneg_n (by omega)] at hb
      have pk := packF hy (by omega) (by omega)
      have hd2 := f2d_at hy k1 k2 k3
      rw [n0, if_neg (fun z => by have := (cm CmpOp.g).2.1.mp z; rw [fkey_0] at this; omega), if_pos (ngD (fin_ne hd2)), pk, bE1, nmE, if_neg (show ¬ (1 : Int32) = 0 by decide), lN_i, fneg_n (by omega), or_topI (by omega), show x.toNat - 2 ^ 31 + 2 ^ 31 = x.toNat by omega]
    · have n0 : n = 0 := hn.trans (if_neg (by omega))
      have hb := bitsF hx
      have pk := packF hx (by omega) (by omega)
      rw [n0, if_pos ((cm CmpOp.g).2.1.mpr (by rw [fkey_0]; omega)), if_pos (ngD (fin_ne hd)), pk, bE1, nmE, if_pos rfl, lN_i]
theorem q_ofDouble0 {x : UInt64} (h : okD x) (h2 : x.toNat < 2 ^ 63) : f_X0_ofDouble x 0 = some x.toInt64 := q_ofDouble h (if_neg (by omega)).symm
theorem q_ofFloat0 {x : UInt32} (h : okF x) (h2 : x.toNat < 2 ^ 31) : f_X0_ofFloat x 0 = some x.toInt32 := q_ofFloat h (if_neg (by omega)).symm
theorem q_f2i {x : UInt32} (h : FP.Core.val32 x ≠ .nan) : f_Jxf58ca_floatToIntBits_5c35a x = some x.toInt32 := by
  unfold f_Jxf58ca_floatToIntBits_5c35a f_Jxf58ca_isNaN_12338
  rw [if_pos ((cmpKF h h CmpOp.l).2.2.mpr rfl), bE1, if_pos rfl]
theorem q_d2l {x : UInt64} (h : FP.Core.val64 x ≠ .nan) : f_Jxe99ae_doubleToLongBits_ccdee x = some x.toInt64 := by
  unfold f_Jxe99ae_doubleToLongBits_ccdee f_Jxe99ae_isNaN_b9ae7
  rw [if_pos ((cmpK h h CmpOp.l).2.2.mpr rfl), bE1, if_pos rfl]
