/-! pure rows: meanAs, cutOff -/
theorem nq50 : ((5 : Int32) = 0) = False := by decide
theorem nq51 : ((5 : Int32) = 1) = False := by decide
theorem nq52 : ((5 : Int32) = 2) = False := by decide
theorem nq53 : ((5 : Int32) = 3) = False := by decide
theorem nq54 : ((5 : Int32) = 4) = False := by decide
theorem upto5 {p : Int32} (h : ¬ (p < 0 ∨ 5 < p)) : p = 0 ∨ p = 1 ∨ p = 2 ∨ p = 3 ∨ p = 4 ∨ p = 5 := by
  obtain ⟨k, hk, rfl⟩ := nI_of2 (M := 5) (n := 5) rfl (fun q => h (Or.inl q)) (Int32.not_lt.mp (fun q => h (Or.inr q)))
  rcases (show k = 0 ∨ k = 1 ∨ k = 2 ∨ k = 3 ∨ k = 4 ∨ k = 5 by omega) with rfl | rfl | rfl | rfl | rfl | rfl <;> decide
theorem sm_6 (t : Nat → Nat) : ∀ n, n ≤ 7 → sm (fun k => k * t k) n ≤ 6 * sm t n := by
  intro n
  induction n with
  | zero => exact fun _ => Nat.le_refl _
  | succ n ih =>
    intro h
    have h1 := ih (by omega)
    have h2 : n * t n ≤ 6 * t n := Nat.mul_le_mul_right _ (by omega)
    show sm (fun k => k * t k) n + n * t n ≤ 6 * (sm t n + t n)
    omega
theorem mean_switch {γ : Type} {m : UInt64} {c : Nat} {q : Int} (hm : FP.Core.val64 m = .fin false c q) (hb : m.toNat ≤ 1027 * 2 ^ 52) {p3 : Int32} (hp : p3 = 0 ∨ p3 = 1 ∨ p3 = 2 ∨ p3 = 3 ∨ p3 = 4 ∨ p3 = 5) (K : Int64 → Option γ) : ∃ v : Int64, f_X8_meanTold m p3 = some v ∧ (if p3 = 0 then (if (FP.dmul m (4652007308841189376 : UInt64)) &&& 0x7fffffffffffffff ≤ 0x7ff0000000000000 then K (FP.d2l (FP.dmul m (4652007308841189376 : UInt64))) else none) else if p3 = 1 then (if (FP.d2f m) &&& 0x7fffffff ≤ 0x7f800000 then (bn1 (f_Jxf58ca_floatToIntBits_5c35a (FP.d2f m)) (fun (r26 : Int32) => K r26.toInt64)) else none) else if p3 = 2 then (bn1 (f_Jxe99ae_doubleToLongBits_ccdee m) (fun (r28 : Int64) => K r28)) else if p3 = 3 then (if (FP.drem m FP.dconst1) &&& 0x7fffffffffffffff ≤ 0x7ff0000000000000 then (if (FP.dmul (FP.drem m FP.dconst1) (4652007308841189376 : UInt64)) &&& 0x7fffffffffffffff ≤ 0x7ff0000000000000 then K (FP.d2i (FP.dmul (FP.drem m FP.dconst1) (4652007308841189376 : UInt64))).toInt64 else none) else none) else if p3 = 4 then (if (FP.drem m (4600427019358961664 : UInt64)) &&& 0x7fffffffffffffff ≤ 0x7ff0000000000000 then (bn1 (f_Jxe99ae_doubleToLongBits_ccdee (FP.drem m (4600427019358961664 : UInt64))) (fun (r34 : Int64) => K r34)) else none) else (if (FP.d2f m) &&& 0x7fffffff ≤ 0x7f800000 then (if (FP.frem (FP.d2f m) (1050253722 : UInt32)) &&& 0x7fffffff ≤ 0x7f800000 then (bn1 (f_Jxf58ca_floatToIntBits_5c35a (FP.frem (FP.d2f m) (1050253722 : UInt32))) (fun (r37 : Int32) => K r37.toInt64)) else none) else none)) = K v := by
  have o := ok_d2f (okD_16 hb)
  obtain ⟨_, c', q', r1⟩ := rem1 hm hb
  obtain ⟨_, r4, _⟩ := rem375 hm hb
  obtain ⟨_, _, _, _, r5b⟩ := rem03 hm hb
  have r5 := okF_16 r5b
  have g0 := dmul_ne hm
  have g1 := ngF (okF_ne o)
  have g3 := ngD (fin_ne r1)
  have g3' := dmul_ne r1
  have g4 := ngD (okD_ne r4)
  have g5 := ngF (okF_ne r5)
  have a1 := q_f2i (okF_ne o)
  have a2 := q_d2l (fin_ne hm)
  have a4 := q_d2l (okD_ne r4)
  have a5 := q_f2i (okF_ne r5)
  rcases hp with rfl | rfl | rfl | rfl | rfl | rfl
  · refine ⟨_, told0 hm, ?_⟩
    simp only [eq_self, if_true, if_pos g0]
  · refine ⟨_, told1 hm hb, ?_⟩
    simp only [nq01, nq02, nq03, nq04, nq10, nq12, nq13, nq14, nq20, nq21, nq23, nq24, nq30, nq31, nq32, nq34, nq40, nq41, nq42, nq43, nq50, nq51, nq52, nq53, nq54, eq_self, if_true, if_false, if_pos g1, a1, bs1]
  · refine ⟨_, told2 hb, ?_⟩
    simp only [nq01, nq02, nq03, nq04, nq10, nq12, nq13, nq14, nq20, nq21, nq23, nq24, nq30, nq31, nq32, nq34, nq40, nq41, nq42, nq43, nq50, nq51, nq52, nq53, nq54, eq_self, if_true, if_false, a2, bs1]
  · refine ⟨_, told3 hm hb, ?_⟩
    simp only [nq01, nq02, nq03, nq04, nq10, nq12, nq13, nq14, nq20, nq21, nq23, nq24, nq30, nq31, nq32, nq34, nq40, nq41, nq42, nq43, nq50, nq51, nq52, nq53, nq54, eq_self, if_true, if_false, if_pos g3, if_pos g3']
  · refine ⟨_, told4 hm hb, ?_⟩
    simp only [nq01, nq02, nq03, nq04, nq10, nq12, nq13, nq14, nq20, nq21, nq23, nq24, nq30, nq31, nq32, nq34, nq40, nq41, nq42, nq43, nq50, nq51, nq52, nq53, nq54, eq_self, if_true, if_false, if_pos g4, a4, bs1]
  · refine ⟨_, told5 hm hb, ?_⟩
    simp only [nq01, nq02, nq03, nq04, nq10, nq12, nq13, nq14, nq20, nq21, nq23, nq24, nq30, nq31, nq32, nq34, nq40, nq41, nq42, nq43, nq50, nq51, nq52, nq53, nq54, eq_self, if_true, if_false, if_pos g1, if_pos g5, a5, bs1]
theorem gt_sv {n : Nat} (h : 1 ≤ n) : 0 < lg_cmp (sv n) 0 ↔ n < 2 ^ 63 := by
  rw [lg_cmp_gt]
  by_cases z : n < 2 ^ 63
  · rw [show sv n = lN n from if_pos z, show (0 : Int64) = lN 0 from rfl, pk_lLT (by omega) z]
    exact ⟨fun _ => z, fun _ => by omega⟩
  · rw [show sv n = -1 from if_neg z]
    exact ⟨fun q => absurd q (by decide), fun q => absurd q z⟩
theorem s_meanAs {kd fg lo hi jn nr : Nat → Int32} {la : Nat → Int64} {P L T : Nat} (hn : NetI kd fg lo hi jn nr la P L T) {N B : Nat} (hB : B < 2 ^ 30) (hN : N < 2 ^ 30) {wo : Nat → Int64} {lg se st tn wt : Nat → Int32} {S ag tu : Int32} (ht : TabI (En kd fg lo hi T L) (Eo lo hi L) P N B wo lg se st tn wt S ag tu) (tb ct : Nat → Int64) (hv : Nat → Int32) (im : Int32) (tm : Nat → Int64) (xs xo xt : Int64) (itm : Int32) (ea : Nat → Int64) (ms mo mt' : Int64) (p1 p2 p3 : Int32) :
    ∃ (r : Int64) (wo' : Nat → Int64) (lg' se' st' tn' wt' : Nat → Int32) (S' ag' tu' : Int32) (ea' : Nat → Int64) (a1 b1 c1 : Int64) (tb' ct' : Nat → Int64) (hv' : Nat → Int32) (im' : Int32) (tm' : Nat → Int64) (xs' xo' xt' : Int64) (itm' : Int32), f_X8_meanAs kd fg jn nr (nI P) (nI T) (nI N) wo lg se st tn wt S ag tu ea ms mo mt' p1 p2 p3 = some (r, wo', lg', se', st', tn', wt', S', ag', tu', ea', a1, b1, c1) ∧ f_X9_meanAs (nI P) (nI L) (nI T) kd fg lo hi tb ct hv im tm xs xo xt itm p1 p2 p3 = some (r, tb', ct', hv', im', tm', xs', xo', xt', itm') ∧ TabI (En kd fg lo hi T L) (Eo lo hi L) P N (B + 1) wo' lg' se' st' tn' wt' S' ag' tu' := by
  unfold f_X8_meanAs f_X9_meanAs
  rw [q_isNoSet, q_isNoRate, q_isBeyond, q_isOut, q_isRate, q_inL p3 (lo := 0) (hi := 5) 0 5 rfl rfl, bE1, bE1, bE1, bE1, bE1, bE1, told_bad]
  simp only [h10, h01, bE1]
  by_cases b1 : p1 < 0 ∨ 4095 < p1
  · rw [if_neg (fun q => q b1), if_pos b1]
    exact ⟨_, _, _, _, _, _, _, _, _, _, _, _, _, _, _, _, _, _, _, _, _, _, _, rfl, rfl, ht.more (by omega)⟩
  · rw [if_pos b1, if_neg b1]
    by_cases b2 : p2 < 0 ∨ 9 < p2
    · rw [if_neg (fun q => q b2), if_pos b2]
      exact ⟨_, _, _, _, _, _, _, _, _, _, _, _, _, _, _, _, _, _, _, _, _, _, _, rfl, rfl, ht.more (by omega)⟩
    · rw [if_pos b2, if_neg b2]
      by_cases b3 : p3 < 0 ∨ 5 < p3
      · rw [if_neg (fun q => q b3), if_pos b3]
        exact ⟨_, _, _, _, _, _, _, _, _, _, _, _, _, _, _, _, _, _, _, _, _, _, _, rfl, rfl, ht.more (by omega)⟩
      · rw [if_pos b3, if_neg b3]
        obtain ⟨o, ho, rfl⟩ := nI_of2 (M := 4095) (n := 4095) rfl (fun q => b1 (Or.inl q)) (Int32.not_lt.mp (fun q => b1 (Or.inr q)))
        obtain ⟨k, hk, rfl⟩ := nI_of2 (M := 9) (n := 9) rfl (fun q => b2 (Or.inl q)) (Int32.not_lt.mp (fun q => b2 (Or.inr q)))
        obtain ⟨wo', lg', se', st', tn', wt', S', tb', ct', hv', im', ea', a1, c1, d1, tm', itm', t, r1, r2, r3, r4, r5⟩ := terms_both hn hB hN ht (o := o) (q := k) (by omega) hk tb ct hv im tm xs xo xt itm ea ms mo mt'
        rw [r1, bE10, r2, bE4, r3, bE9, told_much]
        obtain ⟨t0, _, h⟩ := r4
        have tp := sm_pos t0
        have t6 := sm_6 t 7 (by omega)
        rcases h with ⟨rfl, _, _, rfl, rfl, _⟩ | ⟨rfl, rfl, rfl, _, _⟩
        · unfold f_X9_isMeanMuch
          rw [if_pos rfl]
          by_cases y1 : sm t 7 < 2 ^ 63
          · by_cases y2 : sm (fun k => k * t k) 7 < 2 ^ 63
            · obtain ⟨c, q, hm, hb⟩ := mean_at tp y1 t6 y2
              rw [if_neg (fun z => lt_sv.mp z y1), if_pos (ge_sv.mpr y2), bE1, if_pos rfl, if_neg (fun z => lt_sv.mp z y2), if_pos ((gt_sv tp).mpr y1), show sv (sm t 7) = lN (sm t 7) from if_pos y1, show sv (sm (fun k => k * t k) 7) = lN (sm (fun k => k * t k) 7) from if_pos y2, if_pos (ngD (fin_ne hm)), if_pos (ngD (fin_ne hm)), nmE]
              obtain ⟨v, q1, q2⟩ := mean_switch hm hb (upto5 b3) (fun v => some (v, tb', ct', hv', im', tm', lN (sm t 7), lN (sm (fun k => k * t k) 7), sv (sm (fun k => k * k * t k) 7), (0 : Int32)))
              rw [q1, bE1]
              exact ⟨_, _, _, _, _, _, _, _, _, _, _, _, _, _, _, _, _, _, _, _, _, _, _, rfl, q2, r5⟩
            · rw [if_neg (fun z => lt_sv.mp z y1), if_neg (fun z => y2 (ge_sv.mp z)), bE1, if_neg (show ¬ (1 : Int32) = 0 by decide), if_pos (lt_sv.mpr y2), bE1]
              exact ⟨_, _, _, _, _, _, _, _, _, _, _, _, _, _, _, _, _, _, _, _, _, _, _, rfl, rfl, r5⟩
          · rw [if_pos (lt_sv.mpr y1), bE1, if_neg (show ¬ (1 : Int32) = 0 by decide), bE1]
            by_cases y2 : sm (fun k => k * t k) 7 < 2 ^ 63
            · rw [if_neg (fun z => lt_sv.mp z y2), if_neg (fun z => y1 ((gt_sv tp).mp z))]
              exact ⟨_, _, _, _, _, _, _, _, _, _, _, _, _, _, _, _, _, _, _, _, _, _, _, rfl, rfl, r5⟩
            · rw [if_pos (lt_sv.mpr y2)]
              exact ⟨_, _, _, _, _, _, _, _, _, _, _, _, _, _, _, _, _, _, _, _, _, _, _, rfl, rfl, r5⟩
        · unfold f_X9_isMeanMuch
          rw [if_pos (show lg_cmp (-1) 0 < 0 by decide), if_neg (show ¬ (1 : Int32) = 0 by decide), bE1, if_neg (show ¬ (1 : Int32) = 0 by decide), bE1]
          exact ⟨_, _, _, _, _, _, _, _, _, _, _, _, _, _, _, _, _, _, _, _, _, _, _, rfl, rfl, r5⟩
/-- a sum of floats that is 1 at least -/
def sOk (s : UInt32) (v : Nat) : Prop := (∃ c q, FP.Core.val32 s = .fin false c q) ∧ 127 * 2 ^ 23 ≤ s.toNat ∧ s.toNat < (163 + 2 * v) * 2 ^ 23
def cOk (x : UInt32) : Prop := (∃ c q, FP.Core.val32 x = .fin false c q) ∧ x.toNat < 129 * 2 ^ 23
theorem v_oneF : FP.Core.val32 FP.fconst1 = .fin false (2 ^ 23) (-23) := by decide +kernel
theorem n_oneF : FP.fconst1.toNat = 127 * 2 ^ 23 := by decide +kernel
theorem sOk_1 : sOk FP.fconst1 0 := ⟨⟨_, _, v_oneF⟩, by rw [n_oneF]; exact Nat.le_refl _, by rw [n_oneF]; decide⟩
theorem cOk_1 : cOk FP.fconst1 := ⟨⟨_, _, v_oneF⟩, by rw [n_oneF]; decide⟩
/-- a finite one whose sign is told -/
theorem fin_of {x : UInt32} {K : Nat} (h : x.toNat % 2 ^ 31 < K * 2 ^ 23) (hK : K ≤ 255) (hs : FP.Core.sgn (FP.Core.val32 x) = false) : ∃ c q, FP.Core.val32 x = .fin false c q := by
  obtain ⟨s, c, q, e⟩ := FP.Core.fin_of_lt32 h hK
  rw [e] at hs
  have hs : s = false := hs
  subst hs
  exact ⟨c, q, e⟩
theorem i2f_pos (w : Nat) (hw : w < 2 ^ 31) : ∃ c q, FP.Core.val32 (FP.i2f (nI w)) = .fin false c q := by
  refine fin_of (FP.Core.i2f_mag (nI w)) (by decide) ?_
  show FP.Core.sgn (FP.Core.val32 (FP.Core.i2f (nI w))) = false
  rw [FP.Core.val32_i2f, nI_toInt hw]
  show FP.Core.sgn (FP.Core.roundRatio FP.Core.b32 (decide ((w : Int) < 0)) _ 1 0) = false
  rw [FP.Core.sgn_roundRatio]
  exact decide_eq_false (by omega)
theorem mul_pos' {x y : UInt32} {c d : Nat} {q r : Int} (hx : FP.Core.val32 x = .fin false c q) (hy : FP.Core.val32 y = .fin false d r) (h1 : x.toNat % 2 ^ 31 < 160 * 2 ^ 23) (h2 : y.toNat < 129 * 2 ^ 23) : (∃ c' q', FP.Core.val32 (FP.fmul x y) = .fin false c' q') ∧ (FP.fmul x y).toNat < 163 * 2 ^ 23 := by
  have hm : (FP.fmul x y).toNat % 2 ^ 31 < 163 * 2 ^ 23 := FP.Core.fmul_mag (Ka := 160) (Kb := 129) h1 (by rw [Nat.mod_eq_of_lt (posF hy)]; exact h2) (by decide) (by decide)
  obtain ⟨c', q', e⟩ := fin_of hm (by decide) (by
    show FP.Core.sgn (FP.Core.val32 (FP.Core.fmul x y)) = false
    rw [FP.Core.val32_fmul, hx, hy]
    show FP.Core.sgn (FP.Core.roundRatio FP.Core.b32 (false != false) _ 1 _) = false
    rw [FP.Core.sgn_roundRatio]
    rfl)
  rw [Nat.mod_eq_of_lt (posF e)] at hm
  exact ⟨⟨c', q', e⟩, hm⟩
theorem zvalF {x : UInt32} {c : Nat} {q : Int} (hx : FP.Core.val32 x = .fin false c q) : FP.Core.zval FP.Core.b32 (FP.Core.val32 x) = (FP.Core.unitsOf FP.Core.b32 x.toNat : Int) := by
  have h := unitsF hx
  rw [Nat.mod_eq_of_lt (posF hx)] at h
  rw [hx, ← h]
  rfl
theorem add_ok {s t : UInt32} {v : Nat} (hs : sOk s v) (hv : v ≤ 12) (ht : ∃ c q, FP.Core.val32 t = .fin false c q) (ht2 : t.toNat < 163 * 2 ^ 23) : sOk (FP.fadd s t) (v + 1) := by
  obtain ⟨⟨c, q, hx⟩, h1, h2⟩ := hs
  obtain ⟨d, r, hy⟩ := ht
  have hm : (FP.fadd s t).toNat % 2 ^ 31 < (163 + 2 * v + 2) * 2 ^ 23 := FP.Core.fadd_mag (K := 163 + 2 * v) (Nat.lt_of_le_of_lt (Nat.mod_le _ _) h2) (Nat.lt_of_le_of_lt (Nat.mod_le _ _) (Nat.lt_of_lt_of_le ht2 (Nat.mul_le_mul_right _ (by omega)))) (by omega)
  have u1 := FP.Core.unitsOf_le_iff (f := FP.Core.b32).mpr h1
  have z1 : FP.Core.zval FP.Core.b32 (FP.Core.val32 FP.fconst1) = (FP.Core.unitsOf FP.Core.b32 (127 * 2 ^ 23) : Int) := by
    rw [zvalF v_oneF, n_oneF]
  have up : 0 < FP.Core.unitsOf FP.Core.b32 (127 * 2 ^ 23) := by
    rcases Nat.eq_zero_or_pos (FP.Core.unitsOf FP.Core.b32 (127 * 2 ^ 23)) with z | z
    · exact absurd (FP.Core.unitsOf_eq_zero.mp z) (by decide)
    · exact z
  have hz : FP.Core.zval FP.Core.b32 (FP.Core.val32 FP.fconst1) ≤ FP.Core.zval FP.Core.b32 (FP.Core.val32 (FP.fadd s t)) := by
    show _ ≤ FP.Core.zval FP.Core.b32 (FP.Core.val32 (FP.Core.fadd s t))
    rw [FP.Core.val32_fadd]
    refine FP.Core.sum_ge FP.Core.good_b32 ⟨_, _, _, hx⟩ ⟨_, _, _, hy⟩ (FP.Core.val32_fits s) (FP.Core.val32_fits t) (FP.Core.val32_fits _) (fin_ne v_oneF) ?_
    rw [z1, zvalF hx, zvalF hy]
    omega
  obtain ⟨sg, c', q', e⟩ := FP.Core.fin_of_lt32 hm (by omega)
  have e : FP.Core.val32 (FP.fadd s t) = .fin sg c' q' := e
  have es : sg = false := by
    cases sg with
    | false => rfl
    | true =>
      rw [z1, e] at hz
      have hz : (FP.Core.unitsOf FP.Core.b32 (127 * 2 ^ 23) : Int) ≤ -((FP.Core.inUnits c' q' FP.Core.b32.qmin : Nat) : Int) := hz
      omega
  subst es
  rw [Nat.mod_eq_of_lt (posF e)] at hm
  refine ⟨⟨c', q', e⟩, ?_, ?_⟩
  · rw [z1, zvalF e] at hz
    exact (FP.Core.unitsOf_le_iff (f := FP.Core.b32)).mp (by omega)
  · omega
theorem inv_ok {s : UInt32} {v : Nat} (hs : sOk s v) (hv : v ≤ 12) : cOk (FP.fdiv FP.fconst1 s) := by
  obtain ⟨⟨c, q, hx⟩, h1, h2⟩ := hs
  have hm : (FP.fdiv FP.fconst1 s).toNat % 2 ^ 31 < 129 * 2 ^ 23 := FP.Core.fdiv_mag (K := 128) (L := 127) (by rw [n_oneF]; decide) (Nat.le_trans h1 (Nat.le_of_eq (Nat.mod_eq_of_lt (posF hx)).symm)) (Nat.lt_of_le_of_lt (Nat.mod_le _ _) (Nat.lt_of_lt_of_le h2 (Nat.mul_le_mul_right _ (by omega)))) (by decide) (by decide)
  have c0 : ¬ c = 0 := fun z => by
    subst z
    have := (FP.Core.zero_bits232 s).mp ⟨_, _, hx⟩
    rw [Nat.mod_eq_of_lt (posF hx)] at this
    omega
  obtain ⟨c', q', e⟩ := fin_of hm (by decide) (by
    show FP.Core.sgn (FP.Core.val32 (FP.Core.fdiv FP.fconst1 s)) = false
    rw [FP.Core.val32_fdiv, hx, v_oneF]
    show FP.Core.sgn (if c = 0 then (if (2 ^ 23 : Nat) = 0 then FP.Core.Datum.nan else .inf (false != false)) else FP.Core.roundRatio FP.Core.b32 (false != false) (2 ^ 23) c _) = false
    rw [if_neg c0, FP.Core.sgn_roundRatio]
    rfl)
  rw [Nat.mod_eq_of_lt (posF e)] at hm
  exact ⟨⟨c', q', e⟩, hm⟩
def CutOk (kd fg lo hi jn nr : Nat → Int32) (P L T q n : Nat) : Prop := ∀ p o d : Nat, p < P → o < 4096 → d ≤ 5 → d < n → ∃ x : UInt32, f_X1_cutAt n kd fg jn nr (nI P) (nI T) (nI p) (nI o) (nI q) (nI d) = some x ∧ f_X9_cutOf n (nI P) (nI L) (nI T) kd fg lo hi (nI p) (nI o) (nI q) (nI d) = some x ∧ cOk x
theorem cut_zero {kd fg lo hi : Nat → Int32} {P L : Nat} (hP : P ≤ 12) (he : ends12 lo hi L) (T0 : Int32) (rc : Int32 → Int32 → Int32 → (Nat → Int32) → (Nat → Int32) → (Nat → Int32) → (Nat → Int32) → Int32 → Int32 → Int32 → Int32 → Option UInt32) (p1 p2 p3 : Int32) : ∀ (m v : Nat), v ≤ P → P - v < m → f_X9_cutOf_b23 rc (nI P) (nI L) T0 kd fg lo hi p1 p2 p3 0 m FP.fconst1 0 (nI v) = some FP.fconst1 := by
  intro m
  induction m with
  | zero => intro v _ h; omega
  | succ m ih =>
    intro v hv hm
    show f_X9_cutOf_s23 rc (nI P) (nI L) T0 kd fg lo hi p1 p2 p3 0 (f_X9_cutOf_b23 rc (nI P) (nI L) T0 kd fg lo hi p1 p2 p3 0 m) FP.fconst1 0 (nI v) = _
    unfold f_X9_cutOf_s23
    by_cases h : P ≤ v
    · rw [if_pos (nI_le h (by omega)), if_pos rfl]
    · have hh := near_has he p1 0 (v := v) (by omega)
      rw [Int32.and_zero, ib_0, if_neg (by decide)] at hh
      rw [if_neg (nI_ge (by omega) (by omega)), hh, bE1, if_pos rfl, nmE, nI_1]
      exact ih (v + 1) (by omega) (by omega)
theorem near_self {lo hi : Nat → Int32} {P L : Nat} (hP : P ≤ 12) (hends : ∀ i, i < L → ∃ a b : Nat, a < b ∧ b < P ∧ lo i = nI a ∧ hi i = nI b) (he : ends12 lo hi L) {p o : Nat} (hp : p < 12) : nrs lo hi (nI p) L &&& ((nI o ||| (1 <<< (nI p &&& 31))) ^^^ (-1)) = nrs lo hi (nI p) L &&& (nI o ^^^ (-1)) := by
  refine ib_ext (fun i => ?_)
  rw [ib_and, ib_and, ib_not, ib_not, ib_or, ib_1 (by omega)]
  by_cases e : p = i
  · subst e
    have : ib (nrs lo hi (nI p) L) p = false := by
      apply Bool.eq_false_iff.mpr
      intro h
      obtain ⟨i, hi', hm⟩ := (nrs_bit hp hp L he).mp h
      obtain ⟨a, b, ab, bP, ea, eb⟩ := hends i hi'
      rcases hm with ⟨q1, q2⟩ | ⟨q1, q2⟩
      · rw [ea] at q1
        rw [eb] at q2
        have := nI_inj (by omega) (by omega) q1
        have := nI_inj (by omega) (by omega) q2
        omega
      · rw [ea] at q1
        rw [eb] at q2
        have := nI_inj (by omega) (by omega) q1
        have := nI_inj (by omega) (by omega) q2
        omega
    rw [this, Bool.false_and, Bool.false_and]
  · rw [decide_eq_false e, Bool.or_false]
theorem cut_loop {kd fg lo hi jn nr : Nat → Int32} {la : Nat → Int64} {P L T : Nat} (hn : NetI kd fg lo hi jn nr la P L T) {q n : Nat} (hq : q ≤ 9) (ih : CutOk kd fg lo hi jn nr P L T q n) {p o d : Nat} (hp : p < P) (ho : o < 4096) (hd1 : 1 ≤ d) (hd : d ≤ 5) (hnd : d < n + 1) : ∀ (m m' v : Nat) (s : UInt32), v ≤ P → P - v < m → P - v < m' → sOk s v → ∃ x : UInt32, f_X1_cutAt_b33 (f_X1_cutAt n) kd fg jn nr (nI P) (nI T) (nI p) (nI o) (nI q) (nI d) m (nI (orp o p)) (nrs lo hi (nI p) L &&& (nI o ^^^ (-1))) s (nI v) = some x ∧ f_X9_cutOf_b23 (f_X9_cutOf n) (nI P) (nI L) (nI T) kd fg lo hi (nI p) (nI o) (nI q) (nI d) m' s (nrs lo hi (nI p) L &&& (nI o ^^^ (-1))) (nI v) = some x ∧ cOk x := by
  have hP := hn.1
  have hL := hn.2.1
  have he := hn.e12
  obtain ⟨eo, ho2⟩ := or_ok o ho p (by omega)
  intro m
  induction m with
  | zero => intro m' v s _ h; omega
  | succ m ihm =>
    intro m' v s hv hm hm' hs
    obtain ⟨m', rfl⟩ : ∃ z, m' = z + 1 := ⟨m' - 1, by omega⟩
    show ∃ x : UInt32, f_X1_cutAt_s33 (f_X1_cutAt n) kd fg jn nr (nI P) (nI T) (nI p) (nI o) (nI q) (nI d) (f_X1_cutAt_b33 (f_X1_cutAt n) kd fg jn nr (nI P) (nI T) (nI p) (nI o) (nI q) (nI d) m) (nI (orp o p)) (nrs lo hi (nI p) L &&& (nI o ^^^ (-1))) s (nI v) = some x ∧ f_X9_cutOf_s23 (f_X9_cutOf n) (nI P) (nI L) (nI T) kd fg lo hi (nI p) (nI o) (nI q) (nI d) (f_X9_cutOf_b23 (f_X9_cutOf n) (nI P) (nI L) (nI T) kd fg lo hi (nI p) (nI o) (nI q) (nI d) m') s (nrs lo hi (nI p) L &&& (nI o ^^^ (-1))) (nI v) = some x ∧ cOk x
    unfold f_X1_cutAt_s33 f_X9_cutOf_s23
    by_cases h : P ≤ v
    · have co := inv_ok hs (by omega)
      obtain ⟨c', q', ec⟩ := co.1
      rw [if_pos (nI_le h (by omega)), if_pos (nI_le h (by omega)), if_neg (nI_ne0 (n := d) (by omega) (by omega)), if_pos (ngF (fin_ne ec))]
      exact ⟨_, rfl, rfl, co⟩
    · rw [if_neg (nI_ge (by omega) (by omega)), if_neg (nI_ge (by omega) (by omega)), near_has he _ _ (by omega), bE1]
      have s1 : sOk s (v + 1) := ⟨hs.1, hs.2.1, Nat.lt_of_lt_of_le hs.2.2 (Nat.mul_le_mul_right _ (by omega))⟩
      by_cases hb : ib (nrs lo hi (nI p) L &&& (nI o ^^^ (-1))) v = true
      · have hb1 : ib (nrs lo hi (nI p) L) v = true := by
          rw [ib_and, Bool.and_eq_true] at hb
          exact hb.1
        have hl := (nrs_lnk (by omega) (by omega) hL he).mp hb1
        obtain ⟨r, l1, l2⟩ := w_ref hn hl
        obtain ⟨w, hw, ew⟩ := wB_nn hn p v
        have hqw : q * w ≤ 9 * 20007 := Nat.mul_le_mul hq hw
        have ed : nI d - 1 = nI (d - 1) := by
          rw [show (1 : Int32) = nI 1 from rfl, pk_sub (by omega)]
        obtain ⟨x, r1, r2, r3⟩ := ih v (orp o p) (d - 1) (by omega) ho2 (by omega) (by omega)
        obtain ⟨⟨xc, xq, xe⟩, xl⟩ := r3
        obtain ⟨ic, iq, ie⟩ := i2f_pos (q * w) (by omega)
        obtain ⟨⟨tc, tq, te⟩, tl⟩ := mul_pos' ie xe (FP.Core.i2f_mag _) xl
        have so := add_ok hs (by omega) ⟨tc, tq, te⟩ tl
        obtain ⟨ac, aq, ae⟩ := so.1
        rw [if_neg (fun z => by rw [ib_sh _ (by omega), hb] at z; exact absurd z (by decide)), if_pos hb, if_neg (show ¬ (1 : Int32) = 0 by decide), q_weightBetween hn (by omega) (by omega), bE1, l1, bE1, l2, bE1, ew, eo, ed, r1, bE1, r2, bE1, pk_mul, if_pos (ngF (fin_ne te)), if_pos (ngF (fin_ne ae)), if_pos (ngF (fin_ne te)), if_pos (ngF (fin_ne ae)), nmE, nmE, nmE, nmE, nI_1]
        exact ihm m' (v + 1) _ (by omega) (by omega) (by omega) so
      · rw [if_pos ((ib_sh _ (by omega)).mpr (Bool.eq_false_iff.mpr hb)), if_neg hb, if_pos rfl, nmE, nmE, nI_1]
        exact ihm m' (v + 1) s (by omega) (by omega) (by omega) s1
theorem cut_ok {kd fg lo hi jn nr : Nat → Int32} {la : Nat → Int64} {P L T : Nat} (hn : NetI kd fg lo hi jn nr la P L T) {q : Nat} (hq : q ≤ 9) : ∀ n, CutOk kd fg lo hi jn nr P L T q n := by
  have hP := hn.1
  have hL := hn.2.1
  have he := hn.e12
  intro n
  induction n with
  | zero => intro p o d _ _ _ h; omega
  | succ n ih =>
    intro p o d hp ho hd hnd
    obtain ⟨eo, ho2⟩ := or_ok o ho p (by omega)
    show ∃ x : UInt32, f_X1_cutAt_st (f_X1_cutAt n) kd fg jn nr (nI P) (nI T) (nI p) (nI o) (nI q) (nI d) = some x ∧ f_X9_cutOf_st (f_X9_cutOf n) (nI P) (nI L) (nI T) kd fg lo hi (nI p) (nI o) (nI q) (nI d) = some x ∧ cOk x
    unfold f_X1_cutAt_st f_X9_cutOf_st
    rcases Nat.eq_zero_or_pos d with z | z
    · subst z
      have cz := cut_zero (kd := kd) (fg := fg) hP he (nI T) (f_X9_cutOf n) (nI p) (nI o) (nI q) 70 0 (by omega) (by omega)
      rw [nI_0] at cz
      rw [nI_0, if_neg (by decide), if_pos rfl, cz]
      exact ⟨_, rfl, rfl, cOk_1⟩
    · have h12 : p < 12 := by omega
      rw [if_pos (show (0 : Int32) < nI d from nI_lt (a := 0) z (by omega)), if_neg (nI_ne0 z (by omega)), q_nearOf hL, bE1, nmE, gN h12 (by decide), nmE, c12 h12, hn.2.2.2.2.2.2.2.2.1 p h12, near_self hP hn.2.2.2.2.2.1 he h12, eo]
      obtain ⟨x, r1, r2, r3⟩ := cut_loop hn hq ih hp ho z hd hnd 70 70 0 FP.fconst1 (by omega) (by omega) (by omega) sOk_1
      rw [nI_0] at r1 r2
      exact ⟨x, r1, r2, r3⟩
theorem s_cutOff {kd fg lo hi jn nr : Nat → Int32} {la : Nat → Int64} {P L T : Nat} (hn : NetI kd fg lo hi jn nr la P L T) (p1 p2 p3 p4 : Int32) : ∃ r : Int32, f_X8_cutOff kd fg jn nr (nI P) (nI T) p1 p2 p3 p4 = some r ∧ f_X9_cutOff (nI P) (nI L) (nI T) kd fg lo hi p1 p2 p3 p4 = some r := by
  have hP := hn.1
  unfold f_X8_cutOff f_X9_cutOff
  rcases pt_cases hP p1 p2 with ⟨c1, cr⟩ | ⟨p, o, hp, ho, rfl, rfl, hbit, c1, c2, c3, c4⟩
  · rw [c1, bE1, if_neg (show ¬ (1 : Int32) = 0 by decide)]
    rcases cr with z | ⟨z, z2 | ⟨z2, z3⟩⟩
    · rw [z, bE1, if_pos rfl]
      exact ⟨_, rfl, rfl⟩
    · rw [z, bE1, if_neg (show ¬ (1 : Int32) = 0 by decide), z2, bE1, if_pos rfl]
      exact ⟨_, rfl, rfl⟩
    · rw [z, bE1, if_neg (show ¬ (1 : Int32) = 0 by decide), z2, bE1, if_neg (show ¬ (1 : Int32) = 0 by decide), z3, bE1, if_neg (show ¬ (1 : Int32) = 0 by decide)]
      exact ⟨_, rfl, rfl⟩
  · rw [c1, bE1, if_pos rfl, c2, bE1, if_neg (show ¬ (1 : Int32) = 0 by decide), c3, bE1, if_neg (show ¬ (1 : Int32) = 0 by decide), c4, bE1, if_pos rfl, q_isNoRate, bE1, q_isRate, bE1, q_isBeyond, bE1, q_inL p4 (lo := 0) (hi := 5) 0 5 rfl rfl, bE1]
    simp only [h10, h01]
    by_cases b2 : p3 < 0 ∨ 9 < p3
    · rw [if_neg (fun q => q b2), if_pos b2]
      exact ⟨_, rfl, rfl⟩
    · rw [if_pos b2, if_neg b2]
      by_cases b3 : p4 < 0 ∨ 5 < p4
      · rw [if_neg (fun q => q b3), if_pos b3]
        exact ⟨_, rfl, rfl⟩
      · rw [if_pos b3, if_neg b3]
        obtain ⟨k, hk, rfl⟩ := nI_of2 (M := 9) (n := 9) rfl (fun q => b2 (Or.inl q)) (Int32.not_lt.mp (fun q => b2 (Or.inr q)))
        obtain ⟨d, hd, rfl⟩ := nI_of2 (M := 5) (n := 5) rfl (fun q => b3 (Or.inl q)) (Int32.not_lt.mp (fun q => b3 (Or.inr q)))
        obtain ⟨x, r1, r2, ⟨xc, xq, xe⟩, r4⟩ := cut_ok hn hk 16 p o d hp ho hd (by omega)
        have ok : okF x := by
          unfold okF
          rw [Nat.mod_eq_of_lt (posF xe)]
          omega
        unfold f_X1_cutAsBits
        rw [r1, bE1, r2, bE1, q_ofFloat0 ok (posF xe), bE1, bE1, q_f2i (fin_ne xe), bE1]
        exact ⟨_, rfl, rfl⟩
