/-! pure rows: parts, read -/
theorem div_ok {f : FP.Core.Fmt} (hf : FP.Core.Good f) {n m : Nat} {s : Bool} {c d k : Nat} {q r : Int} (hn : FP.Core.decode f n = FP.Core.quotient f (.fin s c q) (.fin false d r)) (hq : f.qmin ≤ q) (hr : r ≤ 0) (hk : 1 ≤ k) (hd : d = k * 2 ^ (-r).toNat) (hu : FP.Core.inUnits c q f.qmin ≤ FP.Core.unitsOf f m) : FP.Core.mag f n ≤ m := by
  have hp := Nat.two_pow_pos (-r).toNat
  have d0 : 0 < d := by
    rw [hd]
    exact Nat.mul_pos hk hp
  have hn2 : FP.Core.decode f n = FP.Core.roundRatio f (s != false) c d (q - r) := by
    rw [hn]
    show (if d = 0 then (if c = 0 then FP.Core.Datum.nan else .inf (s != false)) else FP.Core.roundRatio f (s != false) c d (q - r)) = _
    rw [if_neg (by omega)]
  refine FP.Core.mag_le hf hn2 d0 (Int.le_refl _) (by omega) ?_
  have e : FP.Core.inUnits c (q - r) f.qmin = FP.Core.inUnits c q f.qmin * 2 ^ (-r).toNat := by
    unfold FP.Core.inUnits
    rw [show (q - r - f.qmin).toNat = (q - f.qmin).toNat + (-r).toNat by omega, Nat.pow_add, Nat.mul_assoc]
  rw [e, show (f.qmin - f.qmin).toNat = 0 by omega, Nat.pow_zero, Nat.mul_one]
  refine Nat.mul_le_mul hu ?_
  rw [hd]
  exact Nat.le_mul_of_pos_left _ hk
theorem whole_at {s : Bool} {d k : Nat} {r : Int} (hk : 1 ≤ k) (h : FP.Core.Whole (k : Int) (.fin s d r)) : s = false ∧ d * 2 ^ r.toNat = k * 2 ^ (-r).toNat := by
  refine ⟨?_, ?_⟩
  · rw [FP.Core.whole_sign h (by omega)]
    exact decide_eq_false (by omega)
  · have := FP.Core.whole_natAbs h
    rw [Int.natAbs_natCast] at this
    exact this
theorem i2d_at {k : Nat} (h1 : 1 ≤ k) (h2 : k < 2 ^ 24) : ∃ (d : Nat) (r : Int), FP.Core.val64 (FP.i2d (nI k)) = .fin false d r ∧ r ≤ 0 ∧ d = k * 2 ^ (-r).toNat := by
  have hw : FP.Core.Whole (nI k).toInt (FP.Core.val64 (FP.i2d (nI k))) := FP.Core.i2d_int (nI k)
  obtain ⟨s, d, r, e⟩ := FP.Core.i2d_fin (nI k)
  have e : FP.Core.val64 (FP.i2d (nI k)) = .fin s d r := e
  obtain ⟨f1, f2, f3, f4⟩ := fitsD e
  rw [e, nI_toInt (by omega)] at hw
  obtain ⟨rfl, hd⟩ := whole_at h1 hw
  have hr : r ≤ 0 := by
    by_cases z : r ≤ 0
    · exact z
    · rw [show (-r).toNat = 0 by omega, Nat.pow_zero, Nat.mul_one] at hd
      have := Nat.le_mul_of_pos_right d (Nat.two_pow_pos r.toNat)
      omega
  rw [show r.toNat = 0 by omega, Nat.pow_zero, Nat.mul_one] at hd
  exact ⟨d, r, e, hr, hd⟩
theorem i2f_at {k : Nat} (h1 : 1 ≤ k) (h2 : k < 2 ^ 23) : ∃ (d : Nat) (r : Int), FP.Core.val32 (FP.i2f (nI k)) = .fin false d r ∧ r ≤ 0 ∧ d = k * 2 ^ (-r).toNat := by
  have hw : FP.Core.Whole (nI k).toInt (FP.Core.val32 (FP.i2f (nI k))) := FP.Core.i2f_int (a := nI k) (by rw [nI_toInt (by omega), Int.natAbs_natCast]; omega)
  obtain ⟨s, d, r, e⟩ := FP.Core.i2f_fin (nI k)
  have e : FP.Core.val32 (FP.i2f (nI k)) = .fin s d r := e
  obtain ⟨f1, f2, f3, f4⟩ := fitsF e
  rw [e, nI_toInt (by omega)] at hw
  obtain ⟨rfl, hd⟩ := whole_at h1 hw
  have hr : r ≤ 0 := by
    by_cases z : r ≤ 0
    · exact z
    · rw [show (-r).toNat = 0 by omega, Nat.pow_zero, Nat.mul_one] at hd
      have := Nat.le_mul_of_pos_right d (Nat.two_pow_pos r.toNat)
      omega
  rw [show r.toNat = 0 by omega, Nat.pow_zero, Nat.mul_one] at hd
  exact ⟨d, r, e, hr, hd⟩
theorem unitsD {x : UInt64} {s : Bool} {c : Nat} {q : Int} (hx : FP.Core.val64 x = .fin s c q) : FP.Core.inUnits c q FP.Core.b64.qmin = FP.Core.unitsOf FP.Core.b64 (x.toNat % 2 ^ 63) := by
  have := FP.Core.zmag_bits (fin_ne hx)
  rw [hx] at this
  exact this
theorem unitsF {x : UInt32} {s : Bool} {c : Nat} {q : Int} (hx : FP.Core.val32 x = .fin s c q) : FP.Core.inUnits c q FP.Core.b32.qmin = FP.Core.unitsOf FP.Core.b32 (x.toNat % 2 ^ 31) := by
  have := FP.Core.zmag_bits32 (fin_ne hx)
  rw [hx] at this
  exact this
theorem ok_ddiv {x : UInt64} (h : okD x) {k : Nat} (h1 : 1 ≤ k) (h2 : k < 2 ^ 23) : okD (FP.ddiv x (FP.i2d (nI k))) := by
  obtain ⟨s, c, q, hx⟩ := okD_fin h
  obtain ⟨d, r, hy, hr, hd⟩ := i2d_at h1 (by omega)
  obtain ⟨f1, f2, f3, f4⟩ := fitsD hx
  have hn : FP.Core.val64 (FP.ddiv x (FP.i2d (nI k))) = FP.Core.quotient FP.Core.b64 (.fin s c q) (.fin false d r) := by
    rw [← hx, ← hy]
    exact FP.Core.val64_ddiv _ _
  have := div_ok FP.Core.good_b64 (n := (FP.ddiv x (FP.i2d (nI k))).toNat) (m := 1086 * 2 ^ 52) hn (by rw [FP.Core.qmin_b64]; exact f2) hr h1 hd (by rw [unitsD hx]; exact FP.Core.unitsOf_le_iff.mpr h)
  rw [FP.Core.mag_toNat64] at this
  exact this
theorem ok_fdiv {x : UInt32} (h : okF x) {k : Nat} (h1 : 1 ≤ k) (h2 : k < 2 ^ 23) : okF (FP.fdiv x (FP.i2f (nI k))) := by
  obtain ⟨s, c, q, hx⟩ := okF_fin h
  obtain ⟨d, r, hy, hr, hd⟩ := i2f_at h1 (by omega)
  obtain ⟨f1, f2, f3, f4⟩ := fitsF hx
  have hn : FP.Core.val32 (FP.fdiv x (FP.i2f (nI k))) = FP.Core.quotient FP.Core.b32 (.fin s c q) (.fin false d r) := by
    rw [← hx, ← hy]
    exact FP.Core.val32_fdiv _ _
  have := div_ok FP.Core.good_b32 (n := (FP.fdiv x (FP.i2f (nI k))).toNat) (m := 190 * 2 ^ 23) hn (by rw [FP.Core.qmin_b32]; exact f2) hr h1 hd (by rw [unitsF hx]; exact FP.Core.unitsOf_le_iff.mpr h)
  rw [FP.Core.mag_toNat32] at this
  exact this
theorem ok_d2f {x : UInt64} (h : okD x) : okF (FP.d2f x) := by
  obtain ⟨s, c, q, hx⟩ := okD_fin h
  obtain ⟨f1, f2, f3, f4⟩ := fitsD hx
  have hn : FP.Core.val32 (FP.d2f x) = FP.Core.roundRatio FP.Core.b32 s c 1 q := by
    rw [d2f_c (fin_ne hx), FP.Core.val32_d2f, hx]
    rfl
  have e1 : FP.Core.unitsOf FP.Core.b64 (1086 * 2 ^ 52) = 2 ^ 52 * 2 ^ 1085 := by
    have := FP.Core.unitsOf_start (f := FP.Core.b64) (K := 1086) (by decide)
    rw [FP.Core.tails_b64, show 1086 - 1 = 1085 from rfl] at this
    exact this
  have e2 : FP.Core.unitsOf FP.Core.b32 (190 * 2 ^ 23) = 2 ^ 23 * 2 ^ 189 := by
    have := FP.Core.unitsOf_start (f := FP.Core.b32) (K := 190) (by decide)
    rw [FP.Core.tails_b32, show 190 - 1 = 189 from rfl] at this
    exact this
  have hu : FP.Core.inUnits c q FP.Core.b64.qmin ≤ 2 ^ 52 * 2 ^ 1085 := by
    rw [unitsD hx, ← e1]
    exact FP.Core.unitsOf_le_iff.mpr h
  rw [FP.Core.qmin_b64] at hu
  have := FP.Core.mag_le FP.Core.good_b32 (n := (FP.d2f x).toNat) (m := 190 * 2 ^ 23) (e0 := -1074) hn (by decide) (by decide) f2 (by
    rw [e2, FP.Core.qmin_b32, Nat.mul_one]
    refine Nat.le_trans hu ?_
    rw [show ((-149 : Int) - -1074).toNat = 925 from rfl, ← Nat.pow_add, ← Nat.pow_add, ← Nat.pow_add]
    exact Nat.le_refl _)
  rw [FP.Core.mag_toNat32] at this
  exact this
theorem okD_ne {x : UInt64} (h : okD x) : FP.Core.val64 x ≠ .nan := by
  obtain ⟨s, c, q, hx⟩ := okD_fin h
  exact fin_ne hx
theorem okF_ne {x : UInt32} (h : okF x) : FP.Core.val32 x ≠ .nan := by
  obtain ⟨s, c, q, hx⟩ := okF_fin h
  exact fin_ne hx
theorem sg_fdiv {x : UInt32} (h : okF x) {k : Nat} (h1 : 1 ≤ k) (h2 : k < 2 ^ 23) : 2 ^ 31 ≤ (FP.fdiv x (FP.i2f (nI k))).toNat ↔ 2 ^ 31 ≤ x.toNat := by
  obtain ⟨s, c, q, hx⟩ := okF_fin h
  obtain ⟨d, r, hy, hr, hd⟩ := i2f_at h1 (by omega)
  have d0 : ¬ d = 0 := by
    rw [hd]
    exact Nat.ne_of_gt (Nat.mul_pos (by omega) (Nat.two_pow_pos _))
  have hn : FP.Core.val32 (FP.fdiv x (FP.i2f (nI k))) = FP.Core.quotient FP.Core.b32 (.fin s c q) (.fin false d r) := by
    rw [← hx, ← hy]
    exact FP.Core.val32_fdiv _ _
  have hn2 : FP.Core.val32 (FP.fdiv x (FP.i2f (nI k))) = FP.Core.roundRatio FP.Core.b32 (s != false) c d (q - r) := by
    rw [hn]
    show (if d = 0 then (if c = 0 then FP.Core.Datum.nan else .inf (s != false)) else FP.Core.roundRatio FP.Core.b32 (s != false) c d (q - r)) = _
    rw [if_neg d0]
  have a := FP.Core.sgn_bits32 (okF_ne (ok_fdiv h (k := k) h1 h2))
  have b := FP.Core.sgn_bits32 (fin_ne hx)
  rw [hn2, FP.Core.sgn_roundRatio, show (s != false) = s by cases s <;> rfl] at a
  rw [hx] at b
  have b : s = decide (2 ^ 31 ≤ x.toNat) := b
  exact decide_eq_decide.mp (a.symm.trans b)
theorem sg_ddiv {x : UInt64} (h : okD x) {k : Nat} (h1 : 1 ≤ k) (h2 : k < 2 ^ 23) : 2 ^ 63 ≤ (FP.ddiv x (FP.i2d (nI k))).toNat ↔ 2 ^ 63 ≤ x.toNat := by
  obtain ⟨s, c, q, hx⟩ := okD_fin h
  obtain ⟨d, r, hy, hr, hd⟩ := i2d_at h1 (by omega)
  have d0 : ¬ d = 0 := by
    rw [hd]
    exact Nat.ne_of_gt (Nat.mul_pos (by omega) (Nat.two_pow_pos _))
  have hn : FP.Core.val64 (FP.ddiv x (FP.i2d (nI k))) = FP.Core.quotient FP.Core.b64 (.fin s c q) (.fin false d r) := by
    rw [← hx, ← hy]
    exact FP.Core.val64_ddiv _ _
  have hn2 : FP.Core.val64 (FP.ddiv x (FP.i2d (nI k))) = FP.Core.roundRatio FP.Core.b64 (s != false) c d (q - r) := by
    rw [hn]
    show (if d = 0 then (if c = 0 then FP.Core.Datum.nan else .inf (s != false)) else FP.Core.roundRatio FP.Core.b64 (s != false) c d (q - r)) = _
    rw [if_neg d0]
  have a := FP.Core.sgn_bits (okD_ne (ok_ddiv h (k := k) h1 h2))
  have b := FP.Core.sgn_bits (fin_ne hx)
  rw [hn2, FP.Core.sgn_roundRatio, show (s != false) = s by cases s <;> rfl] at a
  rw [hx] at b
  have b : s = decide (2 ^ 63 ≤ x.toNat) := b
  exact decide_eq_decide.mp (a.symm.trans b)
theorem sg_d2f {x : UInt64} (h : okD x) : 2 ^ 31 ≤ (FP.d2f x).toNat ↔ 2 ^ 63 ≤ x.toNat := by
  obtain ⟨s, c, q, hx⟩ := okD_fin h
  have hn : FP.Core.val32 (FP.d2f x) = FP.Core.roundRatio FP.Core.b32 s c 1 q := by
    rw [d2f_c (fin_ne hx), FP.Core.val32_d2f, hx]
    rfl
  have a := FP.Core.sgn_bits32 (okF_ne (ok_d2f h))
  have b := FP.Core.sgn_bits (fin_ne hx)
  rw [hn, FP.Core.sgn_roundRatio] at a
  rw [hx] at b
  have b : s = decide (2 ^ 63 ≤ x.toNat) := b
  exact decide_eq_decide.mp (a.symm.trans b)
/-- a flag out of what it stands for -/
theorem flag_if {p q : Prop} [Decidable p] [Decidable q] (h : p ↔ ¬ q) : (if p then some (0 : Int32) else some 1) = some (if q then 1 else 0) := by
  by_cases z : q
  · rw [if_neg (fun y => h.mp y z), if_pos z]
  · rw [if_pos (h.mpr z), if_neg z]
theorem neg_ge {x : Int32} {q : Prop} (h : x < 0 ↔ q) : 0 ≤ x ↔ ¬ q := by
  rw [← h]
  exact Int32.not_lt.symm
theorem divide_both {i b k : Nat} (hi : i < 4) (hb : b < 60) (k1 : 1 ≤ k) (k2 : k ≤ 99) {si : Nat → Int32} {sl : Nat → Int64} {sf : Nat → UInt32} {sd : Nat → UInt64} {sn : Nat → Int32} {so sz : Int32} {xo xz : Nat → Int32} {xw : Nat → Int64} {xf : Nat → UInt32} {xd : Nat → UInt64} (h : ShAt (nI i) si sl sf sd sn so sz xo xz xw xf xd) (hm : ¬ so = -1) : ∃ (si' : Nat → Int32) (sl' : Nat → Int64) (sf' : Nat → UInt32) (sd' : Nat → UInt64), f_X3_divide si sl sf sd so (nI b) (nI k) = some (si', sl', sf', sd') ∧ ShOut (nI i) si sl sf sd sn so sz xo xz xw xf xd si' sl' sf' sd' sn so sz xo xz (vp_updL xw (60 * i + b) (xw (60 * i + b) / (nI k).toInt64)) (vf_upd xf (60 * i + b) (FP.fdiv (xf (60 * i + b)) (FP.i2f (nI k)))) (vf_upd xd (60 * i + b) (FP.ddiv (xd (60 * i + b)) (FP.i2d (nI k)))) := by
  obtain ⟨e1, e2, e3, e4, hh⟩ := h i hi rfl
  obtain ⟨c0, c1, c2, c3, o1, o2⟩ := hh b hb
  have kz : ¬ nI k = 0 := nI_ne0 (by omega) (by omega)
  have kl : ¬ (nI k).toInt64 = 0 := by
    rw [nI_l (by omega)]
    exact fun e => by rw [lN0 (by omega)] at e; omega
  have o1' := ok_fdiv o1 (k := k) k1 (by omega)
  have o2' := ok_ddiv o2 (k := k) k1 (by omega)
  unfold f_X3_divide
  rw [if_neg kz]
  rcases e3 with e | e | e | e | e
  · exact absurd e hm
  · subst e
    rw [if_pos rfl, gN hb (by decide), if_neg kz, gN hb (by decide), nmE, c60 hb]
    refine ⟨_, _, _, _, rfl, ShOut.one hi hb h (fun q hq => ⟨pk_un hq, rfl, rfl, rfl, rfl⟩) ⟨fun _ => ?_, fun e => absurd e (by decide), fun e => absurd e (by decide), fun e => absurd e (by decide), o1', o2'⟩⟩
    rw [pk_us, Int32.toInt64_div_of_ne_right _ _ (fun e => by
      have := nI_pos' (n := k) (by omega)
      rw [e] at this
      exact absurd this (by decide))]
    show xw (60 * i + b) / (nI k).toInt64 = _
    rw [show xw (60 * i + b) = (si b).toInt64 from c0 rfl]
  · subst e
    rw [if_neg (show ¬ (1 : Int32) = 0 by decide), if_pos rfl, gN hb (by decide), if_neg kl, gN hb (by decide), nmE, c60 hb]
    refine ⟨_, _, _, _, rfl, ShOut.one hi hb h (fun q hq => ⟨rfl, pk_uLn hq, rfl, rfl, rfl⟩) ⟨fun e => absurd e (by decide), fun _ => ?_, fun e => absurd e (by decide), fun e => absurd e (by decide), o1', o2'⟩⟩
    rw [pk_uLs, show xw (60 * i + b) = sl b from c1 rfl]
  · subst e
    have cc : xf (60 * i + b) = sf b := (c2 rfl).1
    have cs : sgF (sf b) (sn b) := (c2 rfl).2
    have g : FP.fdiv (sf b) (FP.i2f (nI k)) &&& 0x7fffffff ≤ 0x7f800000 := by
      rw [← cc]
      exact ngF (okF_ne o1')
    rw [if_neg (show ¬ (2 : Int32) = 0 by decide), if_neg (show ¬ (2 : Int32) = 1 by decide), if_pos rfl, gN hb (by decide), c60 hb, if_pos g, if_neg (show ¬ (nI b < 0 ∨ 60 ≤ b) from fun q => q.elim (nI_pos (by omega)) (by omega)), nmE]
    refine ⟨_, _, _, _, rfl, ShOut.one hi hb h (fun q hq => ⟨rfl, rfl, vf_n hq, rfl, rfl⟩) ⟨fun e => absurd e (by decide), fun e => absurd e (by decide), fun _ => ?_, fun e => absurd e (by decide), o1', o2'⟩⟩
    rw [vf_s, cc]
    refine ⟨rfl, cs.trans (sg_fdiv (by rw [← cc]; exact o1) k1 (by omega)).symm⟩
  · subst e
    have cc : xd (60 * i + b) = sd b := (c3 rfl).1
    have cs : sgD (sd b) (sn b) := (c3 rfl).2
    have g : FP.ddiv (sd b) (FP.i2d (nI k)) &&& 0x7fffffffffffffff ≤ 0x7ff0000000000000 := by
      rw [← cc]
      exact ngD (okD_ne o2')
    rw [if_neg (show ¬ (3 : Int32) = 0 by decide), if_neg (show ¬ (3 : Int32) = 1 by decide), if_neg (show ¬ (3 : Int32) = 2 by decide), gN hb (by decide), c60 hb, if_pos g, if_neg (show ¬ (nI b < 0 ∨ 60 ≤ b) from fun q => q.elim (nI_pos (by omega)) (by omega)), nmE]
    refine ⟨_, _, _, _, rfl, ShOut.one hi hb h (fun q hq => ⟨rfl, rfl, rfl, vf_n hq, rfl⟩) ⟨fun e => absurd e (by decide), fun e => absurd e (by decide), fun e => absurd e (by decide), fun _ => ?_, o1', o2'⟩⟩
    rw [vf_s, cc]
    refine ⟨rfl, cs.trans (sg_ddiv (by rw [← cc]; exact o2) k1 (by omega)).symm⟩
theorem s_parts (p1 p2 p3 : Int32) {si : Nat → Int32} {sl : Nat → Int64} {sf : Nat → UInt32} {sd : Nat → UInt64} {sn : Nat → Int32} {so sz : Int32} {xo xz : Nat → Int32} {xw : Nat → Int64} {xf : Nat → UInt32} {xd : Nat → UInt64} (h : ShAt p1 si sl sf sd sn so sz xo xz xw xf xd) :
    ∃ (r : Int32) (si' : Nat → Int32) (sl' : Nat → Int64) (sf' : Nat → UInt32) (sd' : Nat → UInt64) (xw' : Nat → Int64) (xf' : Nat → UInt32) (xd' : Nat → UInt64), f_X8_parts si sl sf sd so sz p1 p2 p3 = some (r, si', sl', sf', sd') ∧ f_X9_parts xo xz xw xf xd p1 p2 p3 = some (r, xw', xf', xd') ∧ ShOut p1 si sl sf sd sn so sz xo xz xw xf xd si' sl' sf' sd' sn so sz xo xz xw' xf' xd' := by
  have same : ∀ r : Int32, f_X8_parts si sl sf sd so sz p1 p2 p3 = some (r, si, sl, sf, sd) → f_X9_parts xo xz xw xf xd p1 p2 p3 = some (r, xw, xf, xd) → ∃ (r : Int32) (si' : Nat → Int32) (sl' : Nat → Int64) (sf' : Nat → UInt32) (sd' : Nat → UInt64) (xw' : Nat → Int64) (xf' : Nat → UInt32) (xd' : Nat → UInt64), f_X8_parts si sl sf sd so sz p1 p2 p3 = some (r, si', sl', sf', sd') ∧ f_X9_parts xo xz xw xf xd p1 p2 p3 = some (r, xw', xf', xd') ∧ ShOut p1 si sl sf sd sn so sz xo xz xw xf xd si' sl' sf' sd' sn so sz xo xz xw' xf' xd' :=
    fun r a b => ⟨r, si, sl, sf, sd, xw, xf, xd, a, b, ShOut.refl h⟩
  have E8 : f_X8_parts si sl sf sd so sz p1 p2 p3 = f_X8_parts si sl sf sd so sz p1 p2 p3 := rfl
  have E9 : f_X9_parts xo xz xw xf xd p1 p2 p3 = f_X9_parts xo xz xw xf xd p1 p2 p3 := rfl
  conv at E8 => rhs; unfold f_X8_parts; simp only [q_isNoSheet, q_isBeyond, q_fault, bs1, h10]
  conv at E9 => rhs; unfold f_X9_parts; simp only [q_isSheet, q_inL p3 (lo := 1) (hi := 99) 1 99 rfl rfl, bs1, h01]
  by_cases b1 : p1 < 0 ∨ 3 < p1
  · exact same (-2) (E8.trans (if_neg (fun q => q b1))) (E9.trans (if_pos b1))
  rw [if_pos b1] at E8
  rw [if_neg b1] at E9
  by_cases b2 : p3 < 1 ∨ 99 < p3
  · exact same (-2) (E8.trans (if_neg (fun q => q b2))) (E9.trans (if_pos b2))
  rw [if_pos b2] at E8
  rw [if_neg b2] at E9
  obtain ⟨i, hi, rfl⟩ := of3 b1
  obtain ⟨e1, e2, e3, ⟨z, hz, rfl⟩, hh⟩ := h i hi rfl
  rw [q_wrong hi hz e2 (by rw [e1]; exact e3), e1, bE1] at E9
  simp only [c4 hi, g4 hi] at E8
  by_cases m : so = -1
  · rw [if_pos m, if_neg (by decide)] at E8 E9
    exact same (-11) E8 E9
  rw [if_neg m] at E8 E9
  rcases ix_cases p2 (n := z) (by omega) with ⟨q, -⟩ | ⟨b, hb, rfl, q⟩
  · rw [if_pos q, if_neg (by decide)] at E8 E9
    exact same (-12) E8 E9
  · rw [if_neg q, if_pos rfl] at E8 E9
    have g0 : ¬ p3 < 0 := fun q => b2 (Or.inl (by
      rw [Int32.lt_iff_toInt_lt] at q ⊢
      have z1 : (1 : Int32).toInt = 1 := rfl
      have z0 : (0 : Int32).toInt = 0 := rfl
      omega))
    obtain ⟨k, hk, rfl⟩ := nI_of2 (M := 99) (n := 99) rfl g0 (Int32.not_lt.mp (fun q => b2 (Or.inr q)))
    have k1 : 1 ≤ k := by
      rcases Nat.eq_zero_or_pos k with w | w
      · subst w
        exact absurd (Or.inl (by decide)) b2
      · exact w
    have b60 : b < 60 := by omega
    have h240 : 60 * i + b < 240 := by omega
    have kl : ¬ (nI k).toInt64 = 0 := by
      rw [nI_l (by omega)]
      exact fun e => by rw [lN0 (by omega)] at e; omega
    obtain ⟨_, _, _, _, o1, o2⟩ := hh b b60
    have o1' : FP.fdiv (xf (60 * i + b)) (FP.i2f (nI k)) &&& 0x7fffffff ≤ 0x7f800000 := ngF (okF_ne (ok_fdiv o1 (k := k) k1 (by omega)))
    have o2' : FP.ddiv (xd (60 * i + b)) (FP.i2d (nI k)) &&& 0x7fffffffffffffff ≤ 0x7ff0000000000000 := ngD (okD_ne (ok_ddiv o2 (k := k) k1 (by omega)))
    obtain ⟨si', sl', sf', sd', q1, q2⟩ := divide_both hi b60 k1 hk h m
    rw [q1, bE4] at E8
    simp only [mul60, c240 h240, g240 h240, nm, if_neg kl, if_pos o1', if_pos o2'] at E9
    exact ⟨1, si', sl', sf', sd', _, _, _, E8, E9, q2⟩
theorem nq01 : ((0 : Int32) = 1) = False := by decide
theorem nq02 : ((0 : Int32) = 2) = False := by decide
theorem nq03 : ((0 : Int32) = 3) = False := by decide
theorem nq04 : ((0 : Int32) = 4) = False := by decide
theorem nq10 : ((1 : Int32) = 0) = False := by decide
theorem nq12 : ((1 : Int32) = 2) = False := by decide
theorem nq13 : ((1 : Int32) = 3) = False := by decide
theorem nq14 : ((1 : Int32) = 4) = False := by decide
theorem nq20 : ((2 : Int32) = 0) = False := by decide
theorem nq21 : ((2 : Int32) = 1) = False := by decide
theorem nq23 : ((2 : Int32) = 3) = False := by decide
theorem nq24 : ((2 : Int32) = 4) = False := by decide
theorem nq30 : ((3 : Int32) = 0) = False := by decide
theorem nq31 : ((3 : Int32) = 1) = False := by decide
theorem nq32 : ((3 : Int32) = 2) = False := by decide
theorem nq34 : ((3 : Int32) = 4) = False := by decide
theorem nq40 : ((4 : Int32) = 0) = False := by decide
theorem nq41 : ((4 : Int32) = 1) = False := by decide
theorem nq42 : ((4 : Int32) = 2) = False := by decide
theorem nq43 : ((4 : Int32) = 3) = False := by decide
theorem nl20 : ((2 : Int32) ≤ 0) = False := by decide
theorem nl21 : ((2 : Int32) ≤ 1) = False := by decide
theorem nl22 : ((2 : Int32) ≤ 2) = True := by decide
theorem nl23 : ((2 : Int32) ≤ 3) = True := by decide
theorem upto4 {p : Int32} (h : ¬ (p < 0 ∨ 4 < p)) : p = 0 ∨ p = 1 ∨ p = 2 ∨ p = 3 ∨ p = 4 := by
  obtain ⟨k, hk, rfl⟩ := nI_of2 (M := 4) (n := 4) rfl (fun q => h (Or.inl q)) (Int32.not_lt.mp (fun q => h (Or.inr q)))
  rcases (show k = 0 ∨ k = 1 ∨ k = 2 ∨ k = 3 ∨ k = 4 by omega) with rfl | rfl | rfl | rfl | rfl <;> decide
theorem read_both {i b : Nat} (hb : b < 60) {si : Nat → Int32} {sl : Nat → Int64} {sf : Nat → UInt32} {sd : Nat → UInt64} {sn : Nat → Int32} {so : Int32} {xw : Nat → Int64} {xf : Nat → UInt32} {xd : Nat → UInt64} (hso : sortI so) (hm : ¬ so = -1) (hc : CellI so (si b) (sl b) (sf b) (sd b) (sn b) (xw (60 * i + b)) (xf (60 * i + b)) (xd (60 * i + b))) {p3 : Int32} (hp : p3 = 0 ∨ p3 = 1 ∨ p3 = 2 ∨ p3 = 3 ∨ p3 = 4) : ∃ v : Int64, bn1 (f_X3_readAs si sl sf sd sn so (nI b) p3) (fun (r9 : Int64) => some r9) = some v ∧ (if (2 : Int32) ≤ so then (if so = (2 : Int32) then bn1 (f_X9_readFloat (xf (60 * i + b)) p3) (fun (r16 : Int64) => some r16) else bn1 (f_X9_readDouble (xd (60 * i + b)) p3) (fun (r14 : Int64) => some r14)) else bn1 (f_X9_readWhole (xw (60 * i + b)) p3) (fun (r18 : Int64) => some r18)) = some v := by
  obtain ⟨c0, c1, c2, c3, o1, o2⟩ := hc
  have ng : ∀ (t : Int32), f_X3_isNegative si sl sn t (nI b) = if t = 0 then (if 0 ≤ si b then some 0 else some 1) else if t = 1 then (if 0 ≤ lg_cmp (sl b) 0 then some 0 else some 1) else (if 0 ≤ sn b then some 0 else some 1) := by
    intro t
    unfold f_X3_isNegative
    simp only [c60 hb, g60 hb]
  unfold f_X3_readAs f_X3_asItIs f_X3_asInt f_X3_asLong f_X3_asFloat f_X9_readFloat f_X9_readDouble f_X9_readWhole
  simp only [c60 hb, g60 hb]
  rcases hso with e | e | e | e | e
  · exact absurd e hm
  · subst e
    have w := c0 rfl
    obtain ⟨nf, n0, f1⟩ : ∃ nf, f_X3_isNegative si sl sn 0 (nI b) = some nf ∧ f_X0_ofFloat (FP.l2f (si b).toInt64) nf = some (FP.l2f (si b).toInt64).toInt32 := ⟨_, (ng 0).trans ((if_pos rfl).trans (flag_if (neg_ge ((i2l_lt (a := si b) (b := 0)).symm.trans (sgn_l2f (si b).toInt64).symm)))), q_ofFloat (ok_l2f (si b).toInt64) rfl⟩
    have f2 := q_f2i (okF_ne (ok_l2f (si b).toInt64))
    have f3 : FP.i2f (si b) = FP.l2f (si b).toInt64 := FP.Core.i2f_l2f (si b)
    rcases hp with rfl | rfl | rfl | rfl | rfl <;> simp only [nq01, nq02, nq03, nq04, nq10, nq12, nq13, nq14, nq20, nq21, nq23, nq24, nq30, nq31, nq32, nq34, nq40, nq41, nq42, nq43, nl20, nl21, nl22, nl23, eq_self, if_true, if_false, bs1, w, n0, f1, f2, f3, Int32.toInt32_toInt64] <;> exact ⟨_, rfl, rfl⟩
  · subst e
    have w := c1 rfl
    obtain ⟨nf, n0, f1⟩ : ∃ nf, f_X3_isNegative si sl sn 1 (nI b) = some nf ∧ f_X0_ofFloat (FP.l2f (sl b)) nf = some (FP.l2f (sl b)).toInt32 := ⟨_, (ng 1).trans ((if_neg (by decide)).trans ((if_pos rfl).trans (flag_if (by rw [lg_cmp_ge, sgn_l2f]; exact Int64.not_lt.symm)))), q_ofFloat (ok_l2f (sl b)) rfl⟩
    have f2 := q_f2i (okF_ne (ok_l2f (sl b)))
    rcases hp with rfl | rfl | rfl | rfl | rfl <;> simp only [nq01, nq02, nq03, nq04, nq10, nq12, nq13, nq14, nq20, nq21, nq23, nq24, nq30, nq31, nq32, nq34, nq40, nq41, nq42, nq43, nl20, nl21, nl22, nl23, eq_self, if_true, if_false, bs1, w, n0, f1, f2] <;> exact ⟨_, rfl, rfl⟩
  · subst e
    have w := (c2 rfl).1
    have ws := (c2 rfl).2
    rw [w] at o1
    obtain ⟨nf, n0, f1⟩ : ∃ nf, f_X3_isNegative si sl sn 2 (nI b) = some nf ∧ f_X0_ofFloat (sf b) nf = some (sf b).toInt32 := ⟨_, (ng 2).trans ((if_neg (by decide)).trans ((if_neg (by decide)).trans (flag_if (neg_ge ws)))), q_ofFloat o1 rfl⟩
    have f2 := q_f2i (okF_ne o1)
    rcases hp with rfl | rfl | rfl | rfl | rfl <;> simp only [nq01, nq02, nq03, nq04, nq10, nq12, nq13, nq14, nq20, nq21, nq23, nq24, nq30, nq31, nq32, nq34, nq40, nq41, nq42, nq43, nl20, nl21, nl22, nl23, eq_self, if_true, if_false, bs1, w, n0, f1, f2] <;> exact ⟨_, rfl, rfl⟩
  · subst e
    have w := (c3 rfl).1
    have ws := (c3 rfl).2
    rw [w] at o2
    have g := ngF (okF_ne (ok_d2f o2))
    obtain ⟨nf, n0, f1, f3⟩ : ∃ nf, f_X3_isNegative si sl sn 3 (nI b) = some nf ∧ f_X0_ofFloat (FP.d2f (sd b)) nf = some (FP.d2f (sd b)).toInt32 ∧ f_X0_ofDouble (sd b) nf = some (sd b).toInt64 := ⟨_, (ng 3).trans ((if_neg (by decide)).trans ((if_neg (by decide)).trans (flag_if (neg_ge ws)))), q_ofFloat (ok_d2f o2) (by simp only [propext (sg_d2f o2)]), q_ofDouble o2 rfl⟩
    have f2 := q_f2i (okF_ne (ok_d2f o2))
    have f4 := q_d2l (okD_ne o2)
    rcases hp with rfl | rfl | rfl | rfl | rfl <;> simp only [nq01, nq02, nq03, nq04, nq10, nq12, nq13, nq14, nq20, nq21, nq23, nq24, nq30, nq31, nq32, nq34, nq40, nq41, nq42, nq43, nl20, nl21, nl22, nl23, eq_self, if_true, if_false, bs1, w, n0, if_pos g, f1, f2, f3, f4] <;> exact ⟨_, rfl, rfl⟩
theorem s_read (p1 p2 p3 : Int32) {si : Nat → Int32} {sl : Nat → Int64} {sf : Nat → UInt32} {sd : Nat → UInt64} {sn : Nat → Int32} {so sz : Int32} {xo xz : Nat → Int32} {xw : Nat → Int64} {xf : Nat → UInt32} {xd : Nat → UInt64} (h : ShAt p1 si sl sf sd sn so sz xo xz xw xf xd) : ∃ r : Int64, f_X8_read si sl sf sd sn so sz p1 p2 p3 = some r ∧ f_X9_read xo xz xw xf xd p1 p2 p3 = some r := by
  have E8 : f_X8_read si sl sf sd sn so sz p1 p2 p3 = f_X8_read si sl sf sd sn so sz p1 p2 p3 := rfl
  have E9 : f_X9_read xo xz xw xf xd p1 p2 p3 = f_X9_read xo xz xw xf xd p1 p2 p3 := rfl
  conv at E8 => rhs; unfold f_X8_read; simp only [q_isNoSheet, q_isBeyond, q_fault, bs1, h10]
  conv at E9 => rhs; unfold f_X9_read; simp only [q_isSheet, q_inL p3 (lo := 0) (hi := 4) 0 4 rfl rfl, told_bad, bs1, h01]
  by_cases b1 : p1 < 0 ∨ 3 < p1
  · exact ⟨_, E8.trans (if_neg (fun q => q b1)), E9.trans (if_pos b1)⟩
  rw [if_pos b1] at E8
  rw [if_neg b1] at E9
  by_cases b2 : p3 < 0 ∨ 4 < p3
  · exact ⟨_, E8.trans (if_neg (fun q => q b2)), E9.trans (if_pos b2)⟩
  rw [if_pos b2] at E8
  rw [if_neg b2] at E9
  obtain ⟨i, hi, rfl⟩ := of3 b1
  obtain ⟨e1, e2, e3, ⟨z, hz, rfl⟩, hh⟩ := h i hi rfl
  rw [q_wrong hi hz e2 (by rw [e1]; exact e3), e1, bE1] at E9
  simp only [c4 hi, g4 hi] at E8
  by_cases m : so = -1
  · rw [if_pos m, if_neg (by decide)] at E8 E9
    rw [told_v (-11) rfl, bE1] at E9
    exact ⟨_, E8, E9⟩
  rw [if_neg m] at E8 E9
  rcases ix_cases p2 (n := z) (by omega) with ⟨q, -⟩ | ⟨b, hb, rfl, q⟩
  · rw [if_pos q, if_neg (by decide)] at E8 E9
    rw [told_v (-12) rfl, bE1] at E9
    exact ⟨_, E8, E9⟩
  · rw [if_neg q, if_pos rfl] at E8 E9
    have b60 : b < 60 := by omega
    have h240 : 60 * i + b < 240 := by omega
    simp only [mul60, c240 h240, g240 h240, c4 hi, g4 hi, nm, e1] at E9
    obtain ⟨v, q1, q2⟩ := read_both (i := i) b60 e3 m (hh b b60) (upto4 b2)
    exact ⟨v, E8.trans q1, E9.trans q2⟩
