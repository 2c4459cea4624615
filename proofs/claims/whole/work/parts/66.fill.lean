/-! pure rows: the class's table, one set -/
theorem sm32 : ∀ l, l < 32 → (nI l &&& 31).toBitVec.smod 32 = BitVec.ofNat 32 l := by decide +kernel
theorem ib_nI (n : Nat) {v : Nat} (hv : v < 32) : ib (nI n) v = decide (n / 2 ^ v % 2 = 1) := by
  unfold ib
  show (BitVec.ofNat 32 n).getLsbD v = _
  rw [BitVec.getLsbD_ofNat, Nat.testBit_eq_decide_div_mod_eq]
  simp [hv]
theorem ib_sh (x : Int32) {v : Nat} (hv : v < 32) : (x >>> (nI v &&& 31)) &&& 1 = 0 ↔ ib x v = false := by
  have e : ∀ i, ib ((x >>> (nI v &&& 31)) &&& 1) i = (decide (0 = i) && ib x v) := by
    intro i
    rw [ib_and, show (1 : Int32) = 1 <<< (nI 0 &&& 31) from by decide, ib_1 (by decide)]
    by_cases h : 0 = i
    · subst h
      simp only [decide_true, Bool.and_true, Bool.true_and]
      unfold ib
      rw [Int32.toBitVec_shiftRight, sm32 v hv, BitVec.sshiftRight_eq', BitVec.toNat_ofNat, Nat.mod_eq_of_lt (by omega), BitVec.getLsbD_sshiftRight]
      simp [hv]
    · simp [h]
  constructor
  · intro h
    have := e 0
    rw [h, ib_0] at this
    simpa using this.symm
  · intro h
    rw [ib_eq0]
    intro i
    rw [e i, h]
    simp
theorem mul7r (a : Nat) : nI a * (7 : Int32) = nI (7 * a) := by
  rw [show (7 : Int32) = nI 7 from rfl, pk_mul, Nat.mul_comm]
theorem w64 {w : Int32} (h : ¬ w < 0) : ¬ w.toInt64 < 0 := fun q => h (i2l_lt.mp q)
theorem w64n {w : Int32} (h : ¬ w = 0) : ¬ w.toInt64 = 0 := fun q => h (i2l_eq.mp q)
theorem add_loop (lg : Nat → Int32) (p1 p2 : Int32) {w : Int32} {s left M : Nat} (hs : s < 4096) (hl : left < s) (hw : ¬ w < 0) (hw0 : ¬ w = 0) (hM : M ≤ 6) : ∀ (m j : Nat) (wo : Nat → Int64), 1 ≤ j → j ≤ M + 1 → M + 1 - j < m → ∃ wo', f_X4_addPaired_b35 lg p1 p2 w m wo (nI (7 * s)) (nI (7 * left)) (nI M) (nI j) = some wo' ∧ (∀ k, k < 7 → wo' (7 * s + k) = if j ≤ k ∧ k ≤ M then plV (wo (7 * s + k)) (tiV w.toInt64 (wo (7 * left + (k - 1)))) else wo (7 * s + k)) ∧ ∀ i, (i < 7 * s ∨ 7 * s + 7 ≤ i) → wo' i = wo i := by
  intro m
  induction m with
  | zero =>
    intro j wo _ _ h
    omega
  | succ m ih =>
    intro j wo h1 h7 hm
    show ∃ wo', f_X4_addPaired_s35 lg p1 p2 w (f_X4_addPaired_b35 lg p1 p2 w m) wo (nI (7 * s)) (nI (7 * left)) (nI M) (nI j) = some wo' ∧ _
    unfold f_X4_addPaired_s35
    by_cases h : M < j
    · rw [if_pos (nI_lt h (by omega))]
      exact ⟨wo, rfl, fun k hk => by rw [if_neg (by omega)], fun _ _ => rfl⟩
    · rw [if_neg (fun q => h ((nI_ltI (by omega) (by omega)).mp q))]
      have e1 : nI (7 * left) + nI j - 1 = nI (7 * left + (j - 1)) := by
        rw [nI_add]
        obtain ⟨j', rfl⟩ : ∃ j', j = j' + 1 := ⟨j - 1, by omega⟩
        exact nI_pred _
      have a1 : 7 * left + (j - 1) < 28672 := by omega
      have a2 : 7 * s + j < 28672 := by omega
      rw [e1, nI_add, g28672 a2, g28672 a1, times_eq (fun q => w64n hw0 q.1) (fun q => w64 hw q.1), q_times, bE1, plus_eq, q_plus, bE1, g28672 a2, nmE, nmE, c28672 a1, c28672 a2, nI_1]
      obtain ⟨wo', t1, t2, t3⟩ := ih (j + 1) (vp_updL wo (7 * s + j) (plV (wo (7 * s + j)) (tiV w.toInt64 (wo (7 * left + (j - 1)))))) (by omega) (by omega) (by omega)
      refine ⟨wo', t1, fun k hk => ?_, fun i hi => ?_⟩
      · rw [t2 k hk]
        by_cases e : k = j
        · subst e
          rw [if_neg (by omega), if_pos (by omega), pk_uLs]
        · by_cases z : j + 1 ≤ k ∧ k ≤ M
          · rw [if_pos z, if_pos (by omega), pk_uLn (by omega), pk_uLn (by omega)]
          · rw [if_neg z, if_neg (by omega), pk_uLn (by omega)]
      · rw [t3 i hi, pk_uLn (by omega)]
theorem g4096 {α : Type} {n : Nat} (h : n < 4096) {x : Option α} : (if nI n < 0 ∨ 4096 ≤ (nI n).toNatClampNeg then none else x) = x := gN h (by decide)
theorem c4096 {n : Nat} (h : n < 4096) : (nI n).toNatClampNeg = n := nI_clamp (by omega)
theorem q_addPaired {wo : Nat → Int64} {lg : Nat → Int32} {w : Int32} {s left M : Nat} (hs : s < 4096) (hl : left < s) (hw : ¬ w < 0) (hM : M ≤ 6) (hlg : lg left = nI M) (hz : ∀ k, M < k → k < 7 → wo (7 * left + k) = 0) (hok : ∀ k, k < 7 → okL (wo (7 * s + k))) : ∃ wo', f_X4_addPaired wo lg (nI s) (nI left) w = some wo' ∧ (∀ k, k < 7 → wo' (7 * s + k) = addR (fun k => wo (7 * s + k)) w (fun k => wo (7 * left + k)) 7 k) ∧ ∀ i, (i < 7 * s ∨ 7 * s + 7 ≤ i) → wo' i = wo i := by
  unfold f_X4_addPaired
  by_cases h0 : w = 0
  · rw [if_pos h0]
    refine ⟨wo, rfl, fun k hk => ?_, fun _ _ => rfl⟩
    unfold addR
    by_cases d : 1 ≤ k ∧ k < 7
    · rw [if_pos d, h0, show (0 : Int32).toInt64 = 0 from rfl, tiV_z, plV_0 (hok k hk)]
    · rw [if_neg d]
  · rw [if_neg h0, nmE, nmE, g4096 (by omega), c4096 (by omega), hlg, nmE, mul7r, mul7r]
    have em : (if (6 : Int32) < nI M + 1 then (6 : Int32) else nI M + 1) = nI (if M < 6 then M + 1 else 6) := by
      rw [nI_1]
      by_cases z : M < 6
      · rw [if_pos z, if_neg]
        intro q
        have := (nI_ltI (a := 6) (b := M + 1) (by omega) (by omega)).mp q
        omega
      · have : M = 6 := by omega
        subst this
        rfl
    rw [em]
    have hM2 : (if M < 6 then M + 1 else 6) ≤ 6 := by split <;> omega
    have hM3 : (if M < 6 then M + 1 else 6) = M + 1 ∨ (if M < 6 then M + 1 else 6) = 6 := by split <;> omega
    have hM4 : M ≤ (if M < 6 then M + 1 else 6) := by split <;> omega
    generalize (if M < 6 then M + 1 else 6) = M' at hM2 hM3 hM4
    obtain ⟨wo', t1, t2, t3⟩ := add_loop lg (nI s) (nI left) (M := M') hs hl hw h0 (by omega) 70 1 wo (by omega) (by omega) (by omega)
    refine ⟨wo', t1, fun k hk => ?_, t3⟩
    rw [t2 k hk]
    unfold addR
    by_cases d : 1 ≤ k ∧ k < 7
    · rw [if_pos d]
      by_cases z : k ≤ M'
      · rw [if_pos ⟨d.1, z⟩]
      · rw [if_neg (fun q => z q.2)]
        show _ = plV (wo (7 * s + k)) (tiV _ (wo (7 * left + (k - 1))))
        rw [hz (k - 1) (by omega) (by omega), tiV_0, plV_0 (hok k hk)]
    · rw [if_neg d, if_neg (by omega)]
/-- LINES as the table holds them: the pair's weight, or less than nothing -/
def Et (nr wt : Nat → Int32) (p q : Nat) : Int32 := if ib (nr p) q = true then wt (p * 12 + q) else -1
/-- the table's rows below b that bear the stamp are right -/
def FI (E : Nat → Nat → Int32) (S : Int32) (b : Nat) (wo : Nat → Int64) (lg st : Nat → Int32) : Prop :=
  (∀ t, t < b → st t = S → (∀ k, k < 7 → wo (7 * t + k) = Rr E t k) ∧ lg t = nI (Lg E t)) ∧ (∀ k, 1 ≤ k → k < 7 → wo k = 0) ∧ lg 0 = 0
theorem FI.lower {E : Nat → Nat → Int32} {S : Int32} {b c : Nat} {wo : Nat → Int64} {lg st : Nat → Int32} (h : FI E S b wo lg st) (hc : c ≤ b) : FI E S c wo lg st := ⟨fun t ht => h.1 t (by omega), h.2.1, h.2.2⟩
theorem FI.lift {E : Nat → Nat → Int32} {S : Int32} {b a : Nat} {wo wo' : Nat → Int64} {lg st lg' st' : Nat → Int32} (h : FI E S b wo lg st) (h' : FI E S (a + 1) wo' lg' st') (h1 : ∀ t, a < t → st' t = st t ∧ lg' t = lg t) (h2 : ∀ i, 7 * a + 7 ≤ i → wo' i = wo i) : FI E S b wo' lg' st' := by
  refine ⟨fun t ht hst => ?_, h'.2.1, h'.2.2⟩
  rcases Nat.lt_or_ge t (a + 1) with z | z
  · exact h'.1 t z hst
  · obtain ⟨e1, e2⟩ := h1 t (by omega)
    rw [e1] at hst
    obtain ⟨q1, q2⟩ := h.1 t ht hst
    exact ⟨fun k hk => by rw [h2 _ (by omega)]; exact q1 k hk, by rw [e2]; exact q2⟩
/-- what a fill makes of the table -/
def Filled (E : Nat → Nat → Int32) (S : Int32) (s : Nat) (wo wo' : Nat → Int64) (lg st lg' st' : Nat → Int32) : Prop :=
  FI E S (s + 1) wo' lg' st' ∧ st' s = S ∧ (∀ t, st' t = st t ∨ st' t = S) ∧ (∀ t, s < t → st' t = st t ∧ lg' t = lg t) ∧ ∀ i, 7 * s + 7 ≤ i → wo' i = wo i
def FillOk (nr wt : Nat → Int32) (S : Int32) (n : Nat) : Prop := ∀ (s d : Nat) (wo : Nat → Int64) (lg st : Nat → Int32), s < 4096 → popc s 12 < n → d + popc s 12 ≤ 12 → FI (Et nr wt) S (s + 1) wo lg st → ∃ wo' lg' st', f_X4_fill n wo lg st nr wt S (nI s) (nI d) = some (wo', lg', st') ∧ Filled (Et nr wt) S s wo wo' lg st lg' st'
theorem bE3 {A0 A1 A2 γ : Type} (a0 : A0) (a1 : A1) (a2 : A2) (f : A0 → A1 → A2 → Option γ) : bn3 (some (a0, a1, a2)) f = f a0 a1 a2 := Eq.trans (Eq.refl (bn3 (some (a0, a1, a2)) f)) (Eq.refl (f a0 a1 a2))
theorem fill_loop {nr wt : Nat → Int32} {S : Int32} (hw : ∀ i, i < 144 → ¬ wt i < 0) {n : Nat} (ih : FillOk nr wt S n) {s p rest d : Nat} (hs : s < 4096) (hr : rest < s) (hp : p < 12) (hn : popc rest 12 < n) (hd : d + 1 + popc rest 12 ≤ 12) : ∀ (m v : Nat) (wo : Nat → Int64) (lg st : Nat → Int32), p < v → v ≤ 12 → 12 - v < m → FI (Et nr wt) S s wo lg st → (∀ k, k < 7 → wo (7 * s + k) = fq (Et nr wt) p rest (Rr (Et nr wt)) v k) → lg s = nI (lq (Et nr wt) p rest (Lg (Et nr wt)) v) → st s = S → ∃ wo' lg' st', f_X4_fill_b127 (f_X4_fill n) nr wt S (nI s) (nI d) m wo lg st (nI p) (nI rest) (nr p &&& nI rest) (nI v) = some (wo', lg', st') ∧ FI (Et nr wt) S s wo' lg' st' ∧ (∀ k, k < 7 → wo' (7 * s + k) = fq (Et nr wt) p rest (Rr (Et nr wt)) 12 k) ∧ lg' s = nI (lq (Et nr wt) p rest (Lg (Et nr wt)) 12) ∧ st' s = S ∧ (∀ t, st' t = st t ∨ st' t = S) ∧ (∀ t, s < t → st' t = st t ∧ lg' t = lg t) ∧ ∀ i, 7 * s + 7 ≤ i → wo' i = wo i := by
  intro m
  induction m with
  | zero =>
    intro v wo lg st _ _ h
    omega
  | succ m ihm =>
    intro v wo lg st hpv hv hm hF hrow hlg hst
    show ∃ wo' lg' st', f_X4_fill_s127 (f_X4_fill n) nr wt S (nI s) (nI d) (f_X4_fill_b127 (f_X4_fill n) nr wt S (nI s) (nI d) m) wo lg st (nI p) (nI rest) (nr p &&& nI rest) (nI v) = some (wo', lg', st') ∧ _
    unfold f_X4_fill_s127
    by_cases h : 12 ≤ v
    · have e : v = 12 := by omega
      subst e
      rw [if_pos (show (12 : Int32) ≤ nI 12 by decide)]
      exact ⟨wo, lg, st, rfl, hF, hrow, hlg, hst, fun t => Or.inl rfl, fun t _ => ⟨rfl, rfl⟩, fun _ _ => rfl⟩
    · rw [if_neg (show ¬ (12 : Int32) ≤ nI v from nI_ge (a := v) (b := 12) (by omega) (by decide))]
      have hbit : ((nr p &&& nI rest) >>> (nI v &&& 31)) &&& 1 = 0 ↔ ¬ (ib (nr p) v = true ∧ rest / 2 ^ v % 2 = 1) := by
        rw [ib_sh _ (by omega), ib_and, ib_nI rest (by omega)]
        cases ib (nr p) v <;> simp
      by_cases hb : ib (nr p) v = true ∧ rest / 2 ^ v % 2 = 1
      · rw [if_neg (fun q => (hbit.mp q) hb), nmE]
        have hx : nI rest ^^^ (1 <<< (nI v &&& 31)) = nI (rest - 2 ^ v) := by
          rcases bit_xor rest (by omega) v (by omega) with z | z
          · omega
          · exact z
        obtain ⟨c1, c2⟩ := clear_lt hb.2
        have hpop : popc (rest - 2 ^ v) 12 + 1 = popc rest 12 := by
          rcases pop_clear rest (by omega) v (by omega) with z | z
          · omega
          · exact z
        rw [hx, nI_1]
        obtain ⟨wo1, lg1, st1, q1, q2, q3, q4, q5, q6⟩ := ih (rest - 2 ^ v) (d + 1) wo lg st (by omega) (by omega) (by omega) (hF.lower (by omega))
        have a1 : p * 12 + v < 144 := by omega
        have hEe : Et nr wt p v = wt (p * 12 + v) := if_pos hb.1
        have hE : p < v ∧ rest / 2 ^ v % 2 = 1 ∧ ¬ Et nr wt p v < 0 := ⟨hpv, hb.2, by rw [hEe]; exact hw _ a1⟩
        have hF1 : FI (Et nr wt) S s wo1 lg1 st1 := hF.lift q2 q5 q6
        obtain ⟨r1, r2⟩ := q2.1 (rest - 2 ^ v) (by omega) q3
        obtain ⟨wo2, u1, u2, u3⟩ := q_addPaired (wo := wo1) (lg := lg1) (w := wt (p * 12 + v)) (s := s) (left := rest - 2 ^ v) (M := Lg (Et nr wt) (rest - 2 ^ v)) hs (by omega) (hw _ a1) (Lg_6 _ (by omega)) r2 (fun k hk hk7 => by rw [r1 k hk7]; exact Rr_zero _ _ (by omega) k hk) (fun k hk => by
          rw [q6 _ (by omega), hrow k hk]
          exact fq_ok (Rr_ok _ rest (by omega)) v k)
        rw [q1, bE3, mul12, gN a1 (by decide), c144 a1, u1, bE1, g4096 hs, g4096 (by omega), g4096 hs, nmE, nmE, c4096 hs, c4096 (show rest - 2 ^ v < 4096 by omega), nI_1 v]
        obtain ⟨e1, e2⟩ := q5 s (by omega)
        have hmax : (if lg1 s < lg1 (rest - 2 ^ v) + 1 then lg1 (rest - 2 ^ v) + 1 else lg1 s) = nI (lq (Et nr wt) p rest (Lg (Et nr wt)) (v + 1)) := by
          have e3 : lq (Et nr wt) p rest (Lg (Et nr wt)) (v + 1) = max (lq (Et nr wt) p rest (Lg (Et nr wt)) v) (Lg (Et nr wt) (rest - 2 ^ v) + 1) := if_pos hE
          rw [e3, e2, hlg, r2, nI_1]
          have b1 : lq (Et nr wt) p rest (Lg (Et nr wt)) v ≤ 7 := by
            have := lq_half (E := Et nr wt) (p := p) (rest := rest) (F := Lg (Et nr wt)) (by omega) (fun t ht => Lg_half _ t (by omega)) v hv
            have := pop_le rest (by omega)
            omega
          have b2 := Lg_6 (Et nr wt) (s := rest - 2 ^ v) (by omega)
          rcases Nat.lt_or_ge (lq (Et nr wt) p rest (Lg (Et nr wt)) v) (Lg (Et nr wt) (rest - 2 ^ v) + 1) with z | z
          · rw [if_pos (nI_lt z (by omega)), Nat.max_eq_right (by omega)]
          · rw [if_neg (fun q => by have := (nI_ltI (by omega) (by omega)).mp q; omega), Nat.max_eq_left z]
        rw [hmax]
        obtain ⟨wo', lg', st', y1, y2, y3, y4, y5, y6, y7, y8⟩ := ihm (v + 1) wo2 (upd lg1 s (nI (lq (Et nr wt) p rest (Lg (Et nr wt)) (v + 1)))) st1 (by omega) (by omega) (by omega) ⟨fun t ht hst2 => by
            obtain ⟨f1, f2⟩ := hF1.1 t ht hst2
            refine ⟨fun k hk => ?_, ?_⟩
            · rw [u3 _ (by omega)]
              exact f1 k hk
            · rw [pk_un (by omega)]
              exact f2, fun k h1 h7 => by
            rw [u3 _ (by omega)]
            exact hF1.2.1 k h1 h7, by
            rw [pk_un (by omega)]
            exact hF1.2.2⟩ (fun k hk => by
            have e4 : fq (Et nr wt) p rest (Rr (Et nr wt)) (v + 1) = addR (fq (Et nr wt) p rest (Rr (Et nr wt)) v) (Et nr wt p v) (Rr (Et nr wt) (rest - 2 ^ v)) 7 := if_pos hE
            rw [u2 k hk, e4, hEe]
            unfold addR
            by_cases d1 : 1 ≤ k ∧ k < 7
            · rw [if_pos d1, if_pos d1]
              show plV (wo1 (7 * s + k)) (tiV _ (wo1 (7 * (rest - 2 ^ v) + (k - 1)))) = _
              rw [q6 (7 * s + k) (by omega), hrow k hk, r1 (k - 1) (by omega)]
            · rw [if_neg d1, if_neg d1]
              show wo1 (7 * s + k) = _
              rw [q6 (7 * s + k) (by omega), hrow k hk]) (by rw [pk_us]) (by rw [e1]; exact hst)
        refine ⟨wo', lg', st', y1, y2, y3, y4, y5, fun t => ?_, fun t ht => ?_, fun i hi => ?_⟩
        · rcases y6 t with z | z
          · rw [z]
            exact q4 t
          · exact Or.inr z
        · obtain ⟨z1, z2⟩ := y7 t ht
          obtain ⟨z3, z4⟩ := q5 t (by omega)
          refine ⟨z1.trans z3, z2.trans ?_⟩
          rw [pk_un (by omega)]
          exact z4
        · rw [y8 i hi, u3 i (Or.inr hi)]
          exact q6 i (by omega)
      · rw [if_pos (hbit.mpr hb), nmE, nI_1]
        have hE : ¬ (p < v ∧ rest / 2 ^ v % 2 = 1 ∧ ¬ Et nr wt p v < 0) := by
          rintro ⟨_, z1, z2⟩
          apply hb
          refine ⟨?_, z1⟩
          by_cases z : ib (nr p) v = true
          · exact z
          · exfalso
            apply z2
            have : Et nr wt p v = -1 := if_neg z
            rw [this]
            decide
        have e4 : fq (Et nr wt) p rest (Rr (Et nr wt)) (v + 1) = fq (Et nr wt) p rest (Rr (Et nr wt)) v := if_neg hE
        have e5 : lq (Et nr wt) p rest (Lg (Et nr wt)) (v + 1) = lq (Et nr wt) p rest (Lg (Et nr wt)) v := if_neg hE
        exact ihm (v + 1) wo lg st (by omega) (by omega) (by omega) hF (by rw [e4]; exact hrow) (by rw [e5]; exact hlg) hst
