/-! pure rows: listed, one by one -/
def fnd (g : Nat → Nat) (j : Nat) : Nat → Nat
  | 0 => 0
  | b + 1 => if sm g b ≤ j then b else fnd g j b
theorem fnd_eq {g : Nat → Nat} {j l : Nat} (h1 : sm g l ≤ j) (h2 : j < sm g (l + 1)) : ∀ b, l < b → fnd g j b = l := by
  intro b
  induction b with
  | zero => intro h; omega
  | succ b ih =>
    intro h
    show (if sm g b ≤ j then b else fnd g j b) = l
    by_cases e : l = b
    · subst e
      rw [if_pos h1]
    · have := sm_mono g (b - (l + 1)) (l + 1)
      rw [show l + 1 + (b - (l + 1)) = b by omega] at this
      rw [if_neg (by omega)]
      exact ih (by omega)
/-- the PAIRING at a place -/
def Kv (lo hi : Nat → Int32) : Nat → Nat → Int32 → Nat → Int64
  | 0, _, _, _ => 0
  | s + 1, b, U, j => lN (2 ^ fnd (gN2 lo hi s U) j b) ||| Kv lo hi s (fnd (gN2 lo hi s U) j b) (U ||| tw lo hi (fnd (gN2 lo hi s U) j b)) (j - sm (gN2 lo hi s U) (fnd (gN2 lo hi s U) j b))
theorem Kv_s {lo hi : Nat → Int32} {s b l j : Nat} {U : Int32} (h1 : sm (gN2 lo hi s U) l ≤ j) (h2 : j < sm (gN2 lo hi s U) (l + 1)) (hb : l < b) : Kv lo hi (s + 1) b U j = lN (2 ^ l) ||| Kv lo hi s l (U ||| tw lo hi l) (j - sm (gN2 lo hi s U) l) := by
  show lN (2 ^ fnd (gN2 lo hi s U) j b) ||| _ = _
  rw [fnd_eq h1 h2 b hb]
/-- what the reference has found behind its walk: places c .. c + N - 1 -/
def ff (k : Int32) (c N : Nat) (v : Nat → Int64) (f : Int64) : Int64 := if 0 ≤ k ∧ c ≤ k.toNatClampNeg ∧ k.toNatClampNeg < c + N then v (k.toNatClampNeg - c) else f
theorem ff_0 (k : Int32) (c : Nat) (v : Nat → Int64) (f : Int64) : ff k c 0 v f = f := if_neg (fun q => by omega)
theorem ff_in {kk c N : Nat} {v : Nat → Int64} {f : Int64} (hk : kk < 2 ^ 31) (h1 : c ≤ kk) (h2 : kk < c + N) : ff (nI kk) c N v f = v (kk - c) := by
  unfold ff
  rw [nI_clamp hk]
  exact if_pos ⟨nI_pos' hk, h1, h2⟩
theorem ff_out {kk c N : Nat} {v : Nat → Int64} {f : Int64} (hk : kk < 2 ^ 31) (h : kk < c ∨ c + N ≤ kk) : ff (nI kk) c N v f = f := by
  unfold ff
  rw [nI_clamp hk]
  exact if_neg (fun q => by omega)
theorem ff_neg {k : Int32} {c N : Nat} {v : Nat → Int64} {f : Int64} (h : ¬ 0 ≤ k) : ff k c N v f = f := if_neg (fun q => h q.1)
def LsOk (lo hi : Nat → Int32) (L n : Nat) : Prop := ∀ (s b c : Nat) (U : Int32) (set f : Int64) (k : Int32), s < n → s < 7 → b ≤ L → c + Nn lo hi s b U < 2 ^ 31 → f_X9_lists n lo hi (nI c) f (nI s) (nI b) U set k = some (nI (c + Nn lo hi s b U), ff k c (Nn lo hi s b U) (fun j => set ||| Kv lo hi s b U j) f)
theorem k_cases (k : Int32) : (¬ 0 ≤ k ∧ ∀ n : Nat, n < 2 ^ 31 → ¬ nI n = k) ∨ ∃ j : Nat, j < 2 ^ 31 ∧ k = nI j := by
  by_cases h : 0 ≤ k
  · refine Or.inr ⟨k.toInt.toNat, ?_, ?_⟩
    · have := k.toInt_lt
      omega
    · rw [Int32.le_iff_toInt_le] at h
      have z0 : (0 : Int32).toInt = 0 := rfl
      have := k.toInt_lt
      apply Int32.toInt_inj.mp
      rw [nI_toInt (by omega)]
      omega
  · exact Or.inl ⟨h, fun n hn e => h (e ▸ nI_pos' hn)⟩
theorem ls_loop {kd fg lo hi jn nr : Nat → Int32} {la : Nat → Int64} {P L T : Nat} (hn : NetI kd fg lo hi jn nr la P L T) {n : Nat} (ih : LsOk lo hi L n) {s b c : Nat} {U : Int32} {set : Int64} {k : Int32} (hs : s < n) (hs2 : s < 7) (hb : b ≤ L) (hc : c + Nn lo hi (s + 1) b U < 2 ^ 31) : ∀ (m l : Nat) (f : Int64), l ≤ b → b - l < m → f_X9_lists_b42 (f_X9_lists n) lo hi (nI (s + 1)) (nI b) U set k m (nI (c + sm (gN2 lo hi s U) l)) f (nI l) = some (nI (c + Nn lo hi (s + 1) b U), ff k (c + sm (gN2 lo hi s U) l) (Nn lo hi (s + 1) b U - sm (gN2 lo hi s U) l) (fun j => set ||| Kv lo hi (s + 1) b U (j + sm (gN2 lo hi s U) l)) f) := by
  have hL := hn.2.1
  intro m
  induction m with
  | zero => intro l f _ h; omega
  | succ m ihm =>
    intro l f hl hm
    show f_X9_lists_s42 (f_X9_lists n) lo hi (nI (s + 1)) (nI b) U set k (f_X9_lists_b42 (f_X9_lists n) lo hi (nI (s + 1)) (nI b) U set k m) (nI (c + sm (gN2 lo hi s U) l)) f (nI l) = _
    unfold f_X9_lists_s42
    rw [Nn_s] at hc ⊢
    by_cases e : b ≤ l
    · have e : l = b := by omega
      subst e
      rw [if_pos (nI_le (Nat.le_refl l) (by omega)), Nat.sub_self, ff_0]
    · have l40 : l < 40 := by omega
      have mo := sm_mono (gN2 lo hi s U) (b - (l + 1)) (l + 1)
      rw [show l + 1 + (b - (l + 1)) = b by omega] at mo
      have es := sm_s (gN2 lo hi s U) l
      rw [if_neg (nI_ge (by omega) (by omega))]
      simp only [c40 l40, g40 l40, nmE, nI_1]
      show (if U &&& tw lo hi l = 0 then bn2 (f_X9_lists n lo hi _ f (nI (s + 1) - 1) (nI l) (U ||| tw lo hi l) (set ||| (1 <<< ((nI l).toInt64 &&& 63))) k) _ else _) = _
      have go := ihm (l + 1)
      rw [Nn_s] at go
      by_cases q : U &&& tw lo hi l = 0
      · have eg : gN2 lo hi s U l = Nn lo hi s l (U ||| tw lo hi l) := if_pos q
        have e1 : (1 : Int64) <<< ((nI l).toInt64 &&& 63) = lN (2 ^ l) := by
          have := wb_shl 1 (k := l) (by omega)
          rw [Nat.one_mul] at this
          exact this
        rw [if_pos q, nI_pred, e1, ih s l (c + sm (gN2 lo hi s U) l) (U ||| tw lo hi l) (set ||| lN (2 ^ l)) f k hs hs2 (by omega) (by rw [← eg]; omega), bE2, ← eg, Nat.add_assoc, ← es, go _ (by omega) (by omega)]
        refine congrArg (fun x => some (_, x)) ?_
        rcases k_cases k with ⟨k1, _⟩ | ⟨kk, k1, rfl⟩
        · rw [ff_neg k1, ff_neg k1, ff_neg k1]
        · by_cases z1 : c + sm (gN2 lo hi s U) (l + 1) ≤ kk ∧ kk < c + sm (gN2 lo hi s U) b
          · rw [ff_in k1 (by omega) (by omega), ff_in k1 (by omega) (by omega), show kk - (c + sm (gN2 lo hi s U) (l + 1)) + sm (gN2 lo hi s U) (l + 1) = kk - (c + sm (gN2 lo hi s U) l) + sm (gN2 lo hi s U) l by omega]
          · rw [ff_out (c := c + sm (gN2 lo hi s U) (l + 1)) k1 (by omega)]
            by_cases z2 : c + sm (gN2 lo hi s U) l ≤ kk ∧ kk < c + sm (gN2 lo hi s U) l + gN2 lo hi s U l
            · rw [ff_in k1 (by omega) (by omega), ff_in k1 (by omega) (by omega), Kv_s (l := l) (by omega) (by omega) (by omega), Nat.add_sub_cancel, Int64.or_assoc]
            · rw [ff_out k1 (by omega), ff_out k1 (by omega)]
      · have eg : gN2 lo hi s U l = 0 := if_neg q
        rw [if_neg q]
        rw [eg, Nat.add_zero] at es
        have go := go f (by omega) (by omega)
        rw [es] at go
        exact go
theorem ls_ok {kd fg lo hi jn nr : Nat → Int32} {la : Nat → Int64} {P L T : Nat} (hn : NetI kd fg lo hi jn nr la P L T) : ∀ n, LsOk lo hi L n := by
  intro n
  induction n with
  | zero => intro s b c U set f k h; omega
  | succ n ih =>
    intro s b c U set f k hs hs2 hb hc
    show f_X9_lists_st (f_X9_lists n) lo hi (nI c) f (nI s) (nI b) U set k = _
    unfold f_X9_lists_st f_X9_lists_b23
    simp only [nmE, nI_1]
    cases s with
    | zero =>
      rw [if_pos (show nI 0 = 0 from rfl), Nn_0]
      rw [Nn_0] at hc
      rcases k_cases k with ⟨k1, k2⟩ | ⟨kk, k1, rfl⟩
      · rw [if_neg (k2 c (by omega)), ff_neg k1]
      · by_cases e : c = kk
        · subst e
          rw [if_pos rfl, ff_in k1 (Nat.le_refl _) (by omega)]
          show _ = some (_, set ||| 0)
          rw [Int64.or_zero]
        · rw [if_neg (nI_ne (by omega) k1 e), ff_out k1 (by omega)]
    | succ s =>
      rw [if_neg (show ¬ nI (s + 1) = 0 from nI_s0 s (by omega)), nI_pred]
      have z : sm (gN2 lo hi s U) s = 0 := by
        refine sm_skip (a := 0) s (by omega) (fun i _ hi' => ?_)
        unfold gN2
        split
        · have := Nn_le lo hi s i (U ||| tw lo hi i)
          rw [bnm_0 s i hi'] at this
          omega
        · rfl
      by_cases hsb : s ≤ b
      · have := ls_loop hn ih (s := s) (b := b) (c := c) (U := U) (set := set) (k := k) (by omega) (by omega) hb hc 70 s f hsb (by have := hn.2.1; omega)
        rw [z] at this
        exact this
      · have e0 : Nn lo hi (s + 1) b U = 0 := by
          have := Nn_le lo hi (s + 1) b U
          rw [bnm_0 (s + 1) b (by omega)] at this
          omega
        rw [e0, ff_0]
        show f_X9_lists_s42 (f_X9_lists n) lo hi (nI (s + 1)) (nI b) U set k (f_X9_lists_b42 (f_X9_lists n) lo hi (nI (s + 1)) (nI b) U set k 69) (nI c) f (nI s) = _
        unfold f_X9_lists_s42
        rw [if_pos (nI_le (by omega) (by omega))]
        rfl
/-- the class's choice -/
def pv (c : Prop) [Decidable c] (v : Int64) : Option Int64 := some (if c then v else -1)
theorem cmp_lN {a b : Nat} (ha : a < 2 ^ 63) (hb : b < 2 ^ 63) : 0 ≤ lg_cmp (lN a) (lN b) ↔ b ≤ a := by
  rw [lg_cmp_ge, Int64.le_iff_toInt_le, lN_tI ha, lN_tI hb]
  omega
theorem pow_n0 {l : Nat} (h : l < 40) : ¬ lg_cmp (lN (2 ^ l)) 0 = 0 := by
  rw [lg_cmp_eq, lN_0']
  · have := Nat.two_pow_pos l
    omega
  · exact wb_lt2 (by omega)
theorem at_loop {kd fg lo hi jn nr : Nat → Int32} {la : Nat → Int64} {P L T : Nat} (hn : NetI kd fg lo hi jn nr la P L T) (p1 p2 : Int32) {t m0 : Nat} (ht : t < 6) (ih : ∀ (b : Nat) (U : Int32) (X Fd : Int64) (j : Nat), b ≤ L → j < 2 ^ 32 → FRL lo hi X b U → f_X1_pairingAt_b15 lo hi la (nI L) p1 p2 m0 Fd X (lN j) (nI t) = some (if j < Nn lo hi t b U then Fd ||| Kv lo hi t b U j else -1)) {b : Nat} {U : Int32} {X Fd : Int64} {j : Nat} (hb : b ≤ L) (hj : j < 2 ^ 32) (h : FRL lo hi X b U) : ∀ (m l : Nat) (R : Int64), l ≤ b → pcb X b - pcb X l + 1 < m → RST X R l → sm (gN2 lo hi t U) l ≤ j → f_X1_pairingAt_b34 lo hi la (nI L) p1 p2 (f_X1_pairingAt_b15 lo hi la (nI L) p1 p2 m0) m Fd X (lN (j - sm (gN2 lo hi t U) l)) (nI (t + 1)) 0 R (nI (pcb X b - pcb X l)) = some (if j < Nn lo hi (t + 1) b U then Fd ||| Kv lo hi (t + 1) b U j else -1) := by
  have hL := hn.2.1
  have hpb := pcb_le X b
  intro m
  induction m with
  | zero => intro l R _ h; omega
  | succ m ihm =>
    intro l R hl hm hR hS
    show f_X1_pairingAt_s34 lo hi la (nI L) p1 p2 (f_X1_pairingAt_b15 lo hi la (nI L) p1 p2 m0) (f_X1_pairingAt_b34 lo hi la (nI L) p1 p2 (f_X1_pairingAt_b15 lo hi la (nI L) p1 p2 m0) m) Fd X (lN (j - sm (gN2 lo hi t U) l)) (nI (t + 1)) 0 R (nI (pcb X b - pcb X l)) = _
    unfold f_X1_pairingAt_s34
    have hmo := pcb_mono X (b - l) l
    rw [show l + (b - l) = b by omega] at hmo
    by_cases c : pcb X b ≤ pcb X l
    · rw [if_pos (show nI (pcb X b - pcb X l) ≤ 0 from nI_le (b := 0) (by omega) (by decide))]
      unfold f_X1_pairingAt_b107
      rw [if_pos (show lg_cmp 0 0 = 0 by decide), Nn_s, h.none hl (Nat.le_refl _), if_neg (by omega)]
      intro i h1 h2
      apply Bool.eq_false_iff.mpr
      intro q
      have m1 := pcb_mono X (i - l) l
      rw [show l + (i - l) = i by omega] at m1
      have m2 := pcb_mono X (b - (i + 1)) (i + 1)
      rw [show i + 1 + (b - (i + 1)) = b by omega, pcb_s, if_pos q] at m2
      omega
    · obtain ⟨l', a1, a2, a3, a4⟩ := pcb_more (X := X) hl (by omega)
      obtain ⟨r1, r2⟩ := rst_step hR a1 (by omega) a3 a4
      obtain ⟨Y, y1, y2⟩ := q_freeBelow hn hb h a3
      have e1 : pcb X l + 1 = pcb X (l' + 1) := by rw [pcb_s, if_pos a3, pcb_skip l' a1 a4]
      have e3 : sm (gN2 lo hi t U) l' = sm (gN2 lo hi t U) l := h.none a1 (by omega) a4
      have e2 : sm (gN2 lo hi t U) (l' + 1) = sm (gN2 lo hi t U) l + Nn lo hi t l' (U ||| tw lo hi l') := by
        rw [sm_s, e3]
        unfold gN2
        rw [if_pos ((h l').mp a3).2]
      have hNl := Nn_lt (lo := lo) (hi := hi) (s := t) (b := l') (U ||| tw lo hi l') (by omega) (by omega)
      have mo := sm_mono (gN2 lo hi t U) (b - (l' + 1)) (l' + 1)
      rw [show l' + 1 + (b - (l' + 1)) = b by omega] at mo
      rw [if_neg (show ¬ nI (pcb X b - pcb X l) ≤ 0 from nI_ge (a := 0) (by omega) (by omega)), if_pos (show lg_cmp 0 0 = 0 by decide), r1, nmE, nmE, y1, bE1, nI_pred, pin_ok hn 16 t l' _ Y (by omega) (by omega) (by omega) y2, bE1]
      simp only [cmp_lN (show j - sm (gN2 lo hi t U) l < 2 ^ 63 by omega) (show Nn lo hi t l' (U ||| tw lo hi l') < 2 ^ 63 by omega), nmE]
      have ed : nI (pcb X b - pcb X l) + (-1) = nI (pcb X b - pcb X (l' + 1)) := by
        rw [← Int32.sub_eq_add_neg, show pcb X b - pcb X l = (pcb X b - pcb X (l' + 1)) + 1 by omega, nI_pred]
      rw [ed]
      by_cases q : Nn lo hi t l' (U ||| tw lo hi l') ≤ j - sm (gN2 lo hi t U) l
      · rw [if_pos q, lN_sub q, show j - sm (gN2 lo hi t U) l - Nn lo hi t l' (U ||| tw lo hi l') = j - sm (gN2 lo hi t U) (l' + 1) by omega]
        exact ihm (l' + 1) _ (by omega) (by omega) r2 (by omega)
      · rw [if_neg q]
        obtain ⟨m', rfl⟩ : ∃ m', m = m' + 1 := ⟨m - 1, by omega⟩
        show f_X1_pairingAt_s34 lo hi la (nI L) p1 p2 (f_X1_pairingAt_b15 lo hi la (nI L) p1 p2 m0) (f_X1_pairingAt_b34 lo hi la (nI L) p1 p2 (f_X1_pairingAt_b15 lo hi la (nI L) p1 p2 m0) m') Fd X (lN (j - sm (gN2 lo hi t U) l)) (nI (t + 1)) (lN (2 ^ l')) _ _ = _
        unfold f_X1_pairingAt_s34 f_X1_pairingAt_b107
        rw [if_neg (pow_n0 (show l' < 40 by omega)), if_neg (pow_n0 (show l' < 40 by omega)), ite_self, nmE, y1, bE1, nmE, ← Int32.sub_eq_add_neg, nI_pred, ih l' _ Y _ _ (by omega) (by omega) y2, if_pos (by omega), Nn_s, if_pos (by omega), Kv_s (l := l') (by omega) (by omega) a2, Int64.or_assoc, e3]
theorem at_ok {kd fg lo hi jn nr : Nat → Int32} {la : Nat → Int64} {P L T : Nat} (hn : NetI kd fg lo hi jn nr la P L T) (p1 p2 : Int32) : ∀ (t m : Nat) (b : Nat) (U : Int32) (X Fd : Int64) (j : Nat), t < 7 → t < m → b ≤ L → j < 2 ^ 32 → FRL lo hi X b U → f_X1_pairingAt_b15 lo hi la (nI L) p1 p2 m Fd X (lN j) (nI t) = some (if j < Nn lo hi t b U then Fd ||| Kv lo hi t b U j else -1) := by
  have hL := hn.2.1
  intro t
  induction t with
  | zero =>
    intro m b U X Fd j _ hm hb hj h
    obtain ⟨m, rfl⟩ : ∃ y, m = y + 1 := ⟨m - 1, by omega⟩
    show f_X1_pairingAt_s15 lo hi la (nI L) p1 p2 (f_X1_pairingAt_b15 lo hi la (nI L) p1 p2 m) Fd X (lN j) (nI 0) = _
    unfold f_X1_pairingAt_s15
    rw [if_pos (show nI 0 ≤ 0 by decide), Nn_0]
    by_cases c : j = 0
    · subst c
      rw [if_pos (show lg_cmp (lN 0) 0 = 0 by decide), if_pos (by decide)]
      show _ = some (Fd ||| 0)
      rw [Int64.or_zero]
    · rw [if_neg, if_neg (by omega)]
      rw [lg_cmp_eq, lN_0' (by omega)]
      exact c
  | succ t iht =>
    intro m b U X Fd j ht hm hb hj h
    obtain ⟨m, rfl⟩ : ∃ y, m = y + 1 := ⟨m - 1, by omega⟩
    show f_X1_pairingAt_s15 lo hi la (nI L) p1 p2 (f_X1_pairingAt_b15 lo hi la (nI L) p1 p2 m) Fd X (lN j) (nI (t + 1)) = _
    unfold f_X1_pairingAt_s15
    have hpb := pcb_le X b
    rw [if_neg (show ¬ nI (t + 1) ≤ 0 from nI_ge (a := 0) (by omega) (by omega)), bc_ok (fun i q => by have := ((h i).mp q).1; omega), bE1, h.all (by omega)]
    have := at_loop hn p1 p2 (by omega) (fun b U X Fd j => iht m b U X Fd j (by omega) (by omega)) hb hj h (Fd := Fd) 70 0 X (by omega) (by omega) (fun i => ⟨fun q => ⟨q, Nat.zero_le _⟩, fun q => q.1⟩) (Nat.zero_le _)
    exact this
theorem and_0 (x : Int32) : (0 : Int32) &&& x = 0 := by rw [Int32.and_comm, Int32.and_zero]
theorem all_lines {kd fg lo hi jn nr : Nat → Int32} {la : Nat → Int64} {P L T : Nat} (hn : NetI kd fg lo hi jn nr la P L T) : ∃ X, f_X1_allLines (nI L) = some X ∧ FRL lo hi X L 0 := by
  have hL := hn.2.1
  unfold f_X1_allLines
  have e1 : (1 : Int64) <<< ((nI L).toInt64 &&& 63) = lN (2 ^ L) := by
    have := wb_shl 1 (k := L) (by omega)
    rw [Nat.one_mul] at this
    exact this
  refine ⟨_, rfl, fun i => ?_⟩
  rw [e1, lN_pow_pred]
  have e2 : lb (lN (2 ^ L - 1)) i = decide (i < L) := by
    by_cases hi' : i < 64
    · rw [lb_lN _ hi', ← Nat.testBit_eq_decide_div_mod_eq, Nat.testBit_two_pow_sub_one]
    · rw [lb_ge _ (by omega), decide_eq_false (by omega)]
  rw [e2, decide_eq_true_eq, and_0]
  exact ⟨fun q => ⟨q, rfl⟩, fun q => q.1⟩
theorem s_listed {kd fg lo hi jn nr : Nat → Int32} {la : Nat → Int64} {P L T : Nat} (hn : NetI kd fg lo hi jn nr la P L T) (cm : Int32) (fs : Int64) (p1 p2 : Int32) : ∃ (r : Int64) (cm' : Int32) (fs' : Int64), f_X8_listed lo hi la (nI L) p1 p2 = some r ∧ f_X9_listed (nI L) lo hi cm fs p1 p2 = some (r, cm', fs') := by
  have hL := hn.2.1
  unfold f_X8_listed f_X9_listed
  rw [q_isBeyond, q_inL p1 (lo := 0) (hi := 6) 0 6 rfl rfl, bE1, bE1, told_bad, told_12]
  simp only [h10, h01, bE1]
  by_cases b1 : p1 < 0 ∨ 6 < p1
  · rw [if_neg (fun q => q b1), if_pos b1]
    exact ⟨_, _, _, rfl, rfl⟩
  · rw [if_pos b1, if_neg b1]
    obtain ⟨s, hs, rfl⟩ := nI_of2 (M := 6) (n := 6) rfl (fun q => b1 (Or.inl q)) (Int32.not_lt.mp (fun q => b1 (Or.inr q)))
    have hN := Nn_lt (lo := lo) (hi := hi) (s := s) (b := L) 0 (by omega) hL
    have r0 := ls_ok hn 16 s L 0 0 0 (-1) p2 (by omega) (by omega) (Nat.le_refl _) (by omega)
    rw [nI_0, Nat.zero_add] at r0
    rw [r0, bE2]
    obtain ⟨X, x1, x2⟩ := all_lines hn
    by_cases c1 : p2 = -1
    · subst c1
      unfold f_X1_pairingsOf
      rw [if_pos (by decide), if_pos rfl, if_pos rfl, x1, bE1, pin_ok hn 16 s L 0 X (by omega) (by omega) (Nat.le_refl _) x2, bE1, bE1, nI_64 (by omega)]
      exact ⟨_, _, _, rfl, rfl⟩
    · rw [if_neg c1, if_neg c1]
      rcases k_cases p2 with ⟨k1, _⟩ | ⟨kk, k1, rfl⟩
      · have c2 : ¬ -1 ≤ p2 := by
          intro q
          rw [Int32.le_iff_toInt_le] at q k1
          have z0 : (0 : Int32).toInt = 0 := rfl
          have z1 : (-1 : Int32).toInt = -1 := by decide
          apply c1
          apply Int32.toInt_inj.mp
          omega
        rw [if_neg c2, ff_neg k1, if_neg (show ¬ 0 ≤ lg_cmp (-1) 0 by decide)]
        exact ⟨_, _, _, rfl, rfl⟩
      · have c2 : (-1 : Int32) ≤ nI kk := Int32.le_trans (show (-1 : Int32) ≤ 0 by decide) (nI_pos' k1)
        unfold f_X1_pairingAt
        rw [if_pos c2, x1, bE1, nmE, nI_64 k1, at_ok hn (nI s) (nI kk) s 70 L 0 X 0 kk (by omega) (by omega) (Nat.le_refl _) (by omega) x2, bE1]
        by_cases z : kk < Nn lo hi s L 0
        · rw [if_pos z, ff_in k1 (Nat.zero_le _) (by omega), Nat.sub_zero]
          by_cases y : 0 ≤ lg_cmp (0 ||| Kv lo hi s L 0 kk) 0
          · rw [if_pos y, if_pos y]
            exact ⟨_, _, _, rfl, rfl⟩
          · rw [if_neg y, if_neg y]
            exact ⟨_, _, _, rfl, rfl⟩
        · rw [if_neg z, ff_out k1 (by omega), if_neg (show ¬ 0 ≤ lg_cmp (-1) 0 by decide), if_neg (show ¬ 0 ≤ lg_cmp (-1) 0 by decide)]
          exact ⟨_, _, _, rfl, rfl⟩
