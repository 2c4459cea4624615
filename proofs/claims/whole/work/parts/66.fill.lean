/-! pure rows: the class's table, one set -/
theorem sm32 : ∀ l, l < 32 → (nI l &&& 31).toBitVec.smod 32 = BitVec.ofNat 32 l := by decide +kernel
theorem ib_nI (n : Nat) {v : Nat} (hv : v < 32) : ib (nI n) v = decide (n / 2 ^ v % 2 = 1) := by
  unfold ib
  show (BitVec.ofNat 32 n).getLsbD v = _
  rw [BitVec.getLsbD_ofNat, Nat.testBit_eq_decide_div_mod_eq]
  simp [hv]
theorem ib_sh (x : Int32) {v : Nat} (hv : v < 32) : (x >>> (nI v &&& 31)) &&& 1 = 0 ↔ ib x v = false := by
  have e : ∀ i, ib ((x >>> (nI v &&& 31)) &&& 1) i = (decide (0 = i) && ib x v) := by
    intro i
    rw [ib_and, show (1 : Int32) = 1 <<< (nI 0 &&& 31) from by decide, ib_1 (by decide)]
    by_cases h : 0 = i
    · subst h
      simp only [decide_true, Bool.and_true, Bool.true_and]
      unfold ib
      rw [Int32.toBitVec_shiftRight, sm32 v hv, BitVec.sshiftRight_eq', BitVec.toNat_ofNat, Nat.mod_eq_of_lt (by omega), BitVec.getLsbD_sshiftRight]
      simp [hv]
    · simp [h]
  constructor
  · intro h
    have := e 0
    rw [h, ib_0] at this
    simpa using this.symm
  · intro h
    rw [ib_eq0]
    intro i
    rw [e i, h]
    simp
theorem mul7r (a : Nat) : nI a * (7 : Int32) = nI (7 * a) := by
  rw [show (7 : Int32) = nI 7 from rfl, pk_mul, Nat.mul_comm]
theorem w64 {w : Int32} (h : ¬ w < 0) : ¬ w.toInt64 < 0 := fun q => h (i2l_lt.mp q)
theorem w64n {w : Int32} (h : ¬ w = 0) : ¬ w.toInt64 = 0 := fun q => h (i2l_eq.mp q)
theorem g3605 {α : Type} {n : Nat} (h : n < 3605) {x : Option α} : (if nI n < 0 ∨ 3605 ≤ (nI n).toNatClampNeg then none else x) = x := gN h (by decide)
theorem c3605 {n : Nat} (h : n < 3605) : (nI n).toNatClampNeg = n := nI_clamp (by omega)
theorem g515 {α : Type} {n : Nat} (h : n < 515) {x : Option α} : (if nI n < 0 ∨ 515 ≤ (nI n).toNatClampNeg then none else x) = x := gN h (by decide)
theorem c515 {n : Nat} (h : n < 515) : (nI n).toNatClampNeg = n := nI_clamp (by omega)
theorem add_loop (lg : Nat → Int32) (p1 p2 : Int32) {w : Int32} {a b M : Nat} (ha : a < 515) (hb : b < 515) (hab : a ≠ b) (hw : ¬ w < 0) (hw0 : ¬ w = 0) (hM : M ≤ 6) : ∀ (m j : Nat) (wo : Nat → Int64), 1 ≤ j → j ≤ M + 1 → M + 1 - j < m → ∃ wo', f_X4_addPaired_b58 p1 p2 w m wo lg (nI (7 * a)) (nI (7 * b)) (nI M) (nI j) = some (wo', lg) ∧ (∀ k, k < 7 → wo' (7 * a + k) = if j ≤ k ∧ k ≤ M then plV (wo (7 * a + k)) (tiV w.toInt64 (wo (7 * b + (k - 1)))) else wo (7 * a + k)) ∧ ∀ i, (i < 7 * a ∨ 7 * a + 7 ≤ i) → wo' i = wo i := by
  intro m
  induction m with
  | zero =>
    intro j wo _ _ h
    omega
  | succ m ih =>
    intro j wo h1 h7 hm
    show ∃ wo', f_X4_addPaired_s58 p1 p2 w (f_X4_addPaired_b58 p1 p2 w m) wo lg (nI (7 * a)) (nI (7 * b)) (nI M) (nI j) = some (wo', lg) ∧ _
    unfold f_X4_addPaired_s58
    by_cases h : M < j
    · rw [if_pos (nI_lt h (by omega))]
      exact ⟨wo, rfl, fun k hk => by rw [if_neg (by omega)], fun _ _ => rfl⟩
    · rw [if_neg (fun q => h ((nI_ltI (by omega) (by omega)).mp q))]
      have e1 : nI (7 * b) + nI j - 1 = nI (7 * b + (j - 1)) := by
        rw [nI_add]
        obtain ⟨j', rfl⟩ : ∃ j', j = j' + 1 := ⟨j - 1, by omega⟩
        exact nI_pred _
      have a1 : 7 * b + (j - 1) < 3605 := by omega
      have a2 : 7 * a + j < 3605 := by omega
      rw [e1, nI_add, g3605 a2, g3605 a1, times_eq (fun q => w64n hw0 q.1) (fun q => w64 hw q.1), q_times, bE1, plus_eq, q_plus, bE1, g3605 a2, nmE, nmE, c3605 a1, c3605 a2, nI_1]
      obtain ⟨wo', t1, t2, t3⟩ := ih (j + 1) (vp_updL wo (7 * a + j) (plV (wo (7 * a + j)) (tiV w.toInt64 (wo (7 * b + (j - 1)))))) (by omega) (by omega) (by omega)
      refine ⟨wo', t1, fun k hk => ?_, fun i hi => ?_⟩
      · rw [t2 k hk]
        by_cases e : k = j
        · subst e
          rw [if_neg (by omega), if_pos (by omega), pk_uLs]
        · by_cases z : j + 1 ≤ k ∧ k ≤ M
          · rw [if_pos z, if_pos (by omega), pk_uLn (by omega), pk_uLn (by omega)]
          · rw [if_neg z, if_neg (by omega), pk_uLn (by omega)]
      · rw [t3 i hi, pk_uLn (by omega)]
theorem q_addPaired {wo : Nat → Int64} {lg : Nat → Int32} {w : Int32} {a b M : Nat} (ha : a < 515) (hb : b < 515) (hab : a ≠ b) (hw : ¬ w < 0) (hM : M ≤ 6) (hlg : lg b = nI M) (hz : ∀ k, M < k → k < 7 → wo (7 * b + k) = 0) (hok : ∀ k, k < 7 → okL (wo (7 * a + k))) : ∃ wo', f_X4_addPaired wo lg (nI a) (nI b) w = some (wo', upd lg a (if lg a < nI M + 1 then nI M + 1 else lg a)) ∧ (∀ k, k < 7 → wo' (7 * a + k) = addR (fun k => wo (7 * a + k)) w (fun k => wo (7 * b + k)) 7 k) ∧ ∀ i, (i < 7 * a ∨ 7 * a + 7 ≤ i) → wo' i = wo i := by
  unfold f_X4_addPaired
  rw [g515 ha, g515 hb, g515 ha, nmE, c515 ha, c515 hb, hlg]
  by_cases h0 : w = 0
  · rw [if_pos h0]
    refine ⟨wo, rfl, fun k hk => ?_, fun _ _ => rfl⟩
    unfold addR
    by_cases d : 1 ≤ k ∧ k < 7
    · rw [if_pos d, h0, show (0 : Int32).toInt64 = 0 from rfl, tiV_z, plV_0 (hok k hk)]
    · rw [if_neg d]
  · rw [if_neg h0, nmE, nmE, gC hb (by decide), pk_un (Ne.symm hab), hlg, nmE, mul7r, mul7r]
    generalize (if lg a < nI M + 1 then nI M + 1 else lg a) = X
    have em : (if (6 : Int32) < nI M + 1 then (6 : Int32) else nI M + 1) = nI (if M < 6 then M + 1 else 6) := by
      rw [nI_1]
      by_cases z : M < 6
      · rw [if_pos z, if_neg]
        intro q
        have := (nI_ltI (a := 6) (b := M + 1) (by omega) (by omega)).mp q
        omega
      · have : M = 6 := by omega
        subst this
        rfl
    rw [em]
    have hM2 : (if M < 6 then M + 1 else 6) ≤ 6 := by split <;> omega
    have hM3 : (if M < 6 then M + 1 else 6) = M + 1 ∨ (if M < 6 then M + 1 else 6) = 6 := by split <;> omega
    have hM4 : M ≤ (if M < 6 then M + 1 else 6) := by split <;> omega
    generalize (if M < 6 then M + 1 else 6) = M' at hM2 hM3 hM4
    obtain ⟨wo', t1, t2, t3⟩ := add_loop (upd lg a X) (nI a) (nI b) (M := M') ha hb hab hw h0 (by omega) 70 1 wo (by omega) (by omega) (by omega)
    refine ⟨wo', t1, fun k hk => ?_, t3⟩
    rw [t2 k hk]
    unfold addR
    by_cases d : 1 ≤ k ∧ k < 7
    · rw [if_pos d]
      by_cases z : k ≤ M'
      · rw [if_pos ⟨d.1, z⟩]
      · rw [if_neg (fun q => z q.2)]
        show _ = plV (wo (7 * a + k)) (tiV _ (wo (7 * b + (k - 1))))
        rw [hz (k - 1) (by omega) (by omega), tiV_0, plV_0 (hok k hk)]
    · rw [if_neg d, if_neg (by omega)]
/-- where a set's row lies -/
def pl (s : Nat) : Nat := if s % 8 = 0 then 3 + s / 8 else low s
theorem pl_eq : ∀ s, s < 4096 → f_X4_placeOf (nI s) = some (nI (pl s)) := all4096 (by decide +kernel)
theorem low3 : ∀ s, s < 4096 → s % 8 = 0 ∨ low s < 3 := all4096 (by decide +kernel)
theorem pl_lt {s : Nat} (hs : s < 4096) : pl s < 515 := by
  unfold pl
  rcases low3 s hs with h | h
  · rw [if_pos h]
    omega
  · split <;> omega
theorem q_leastOf {s : Nat} (hs : s < 4096) (h0 : s ≠ 0) : f_X4_leastOf (nI s) = some (nI (low s)) := by
  unfold f_X4_leastOf
  rw [(bit_least s hs).resolve_left h0, bc_low _ ((low_ok s hs).resolve_left h0).1, bE1]
theorem mod_up {u l m : Nat} (h : u % 2 ^ m = 0) (hl : l ≤ m) : u % 2 ^ l = 0 := Nat.mod_eq_zero_of_dvd (Nat.dvd_trans (Nat.pow_dvd_pow 2 hl) (Nat.dvd_of_mod_eq_zero h))
/-- no set of points from l on comes to this place -/
def Fr (l a : Nat) : Prop := ∀ u, u < 4096 → u % 2 ^ l = 0 → pl u ≠ a
theorem Fr.up {l m a : Nat} (h : Fr l a) (hl : l ≤ m) : Fr m a := fun u hu hm => h u hu (mod_up hm hl)
theorem pl_fr {u l : Nat} (hu : u < 4096) (h : ¬ u % 2 ^ l = 0) : Fr l (pl u) := by
  intro v hv hl e
  have u0 : u ≠ 0 := by
    rintro rfl
    exact h (Nat.zero_mod _)
  obtain ⟨l1, l2, l3, l4⟩ := (low_ok u hu).resolve_left u0
  have hlu : low u < l := by
    rcases Nat.lt_or_ge (low u) l with z | z
    · exact z
    · exact absurd (mod_up l4 z) h
  unfold pl at e
  by_cases u8 : u % 8 = 0
  · rw [if_pos u8] at e
    by_cases v8 : v % 8 = 0
    · rw [if_pos v8] at e
      have : u = v := by omega
      subst this
      exact h hl
    · rw [if_neg v8] at e
      have := (low3 v hv).resolve_left v8
      omega
  · rw [if_neg u8] at e
    by_cases v8 : v % 8 = 0
    · rw [if_pos v8] at e
      have := (low3 u hu).resolve_left u8
      omega
    · rw [if_neg v8] at e
      have v0 : v ≠ 0 := by
        rintro rfl
        exact v8 rfl
      have k := ((low_ok v hv).resolve_left v0).2.2.1
      rw [low_zero hl (show low v < l by omega)] at k
      omega
theorem low_mod {s : Nat} (hs : s < 4096) (h0 : s ≠ 0) : ¬ s % 2 ^ (low s + 1) = 0 := by
  intro h
  have k := ((low_ok s hs).resolve_left h0).2.2.1
  rw [low_zero h (Nat.lt_succ_self _)] at k
  omega
theorem pl_3 {s : Nat} (hs : s < 4096) (h0 : s ≠ 0) : pl s ≠ 3 := fun e => pl_fr hs (low_mod hs h0) 0 (by decide) (Nat.zero_mod _) (by rw [e]; rfl)
theorem rest_mod : ∀ s, s < 4096 → s = 0 ∨ (s - 2 ^ low s) % 2 ^ (low s + 1) = 0 := all4096 (by decide +kernel)
theorem clear_mod {r v l : Nat} (h : r % 2 ^ l = 0) (hv : l ≤ v) : (r - 2 ^ v) % 2 ^ l = 0 := Nat.mod_eq_zero_of_dvd (Nat.dvd_sub (Nat.dvd_of_mod_eq_zero h) (Nat.pow_dvd_pow 2 hv))
/-- LINES as the table holds them: the pair's weight, or less than nothing -/
def Et (nr wt : Nat → Int32) (p q : Nat) : Int32 := if ib (nr p) q = true then wt (p * 12 + q) else -1
/-- the rows of sets of points from l on that are in the table are right -/
def FI (E : Nat → Nat → Int32) (S : Int32) (l : Nat) (wo : Nat → Int64) (lg se st : Nat → Int32) : Prop :=
  (∀ u, u < 4096 → u % 2 ^ l = 0 → st (pl u) = S → se (pl u) = nI u → (∀ k, k < 7 → wo (7 * pl u + k) = Rr E u k) ∧ lg (pl u) = nI (Lg E u)) ∧ (∀ k, 1 ≤ k → k < 7 → wo (21 + k) = 0) ∧ lg 3 = 0
theorem FI.up {E : Nat → Nat → Int32} {S : Int32} {l m : Nat} {wo : Nat → Int64} {lg se st : Nat → Int32} (h : FI E S l wo lg se st) (hl : l ≤ m) : FI E S m wo lg se st := ⟨fun u hu hm => h.1 u hu (mod_up hm hl), h.2.1, h.2.2⟩
/-- the same at a place -/
def Sm (a : Nat) (wo wo' : Nat → Int64) (lg lg' se se' st st' : Nat → Int32) : Prop := st' a = st a ∧ lg' a = lg a ∧ se' a = se a ∧ ∀ k, k < 7 → wo' (7 * a + k) = wo (7 * a + k)
theorem Sm.rf {a : Nat} {wo : Nat → Int64} {lg se st : Nat → Int32} : Sm a wo wo lg lg se se st st := ⟨rfl, rfl, rfl, fun _ _ => rfl⟩
theorem Sm.tr {a : Nat} {wo wo' wo'' : Nat → Int64} {lg lg' lg'' se se' se'' st st' st'' : Nat → Int32} (h : Sm a wo wo' lg lg' se se' st st') (h' : Sm a wo' wo'' lg' lg'' se' se'' st' st'') : Sm a wo wo'' lg lg'' se se'' st st'' := ⟨h'.1.trans h.1, h'.2.1.trans h.2.1, h'.2.2.1.trans h.2.2.1, fun k hk => (h'.2.2.2 k hk).trans (h.2.2.2 k hk)⟩
/-- what a place that no set from l on comes to is written with leaves the rest right -/
theorem FI.put {E : Nat → Nat → Int32} {S : Int32} {l a : Nat} {wo wo' : Nat → Int64} {lg lg' se se' st st' : Nat → Int32} (h : FI E S l wo lg se st) (ha : Fr l a) (hs : ∀ b, b ≠ a → Sm b wo wo' lg lg' se se' st st') : FI E S l wo' lg' se' st' := by
  have p3 : (3 : Nat) ≠ a := fun e => ha 0 (by decide) (Nat.zero_mod _) (by rw [← e]; rfl)
  refine ⟨fun u hu hm e1 e2 => ?_, fun k h1 h7 => ?_, ?_⟩
  · obtain ⟨s1, s2, s3, s4⟩ := hs (pl u) (ha u hu hm)
    obtain ⟨q1, q2⟩ := h.1 u hu hm (s1.symm.trans e1) (s3.symm.trans e2)
    exact ⟨fun k hk => (s4 k hk).trans (q1 k hk), s2.trans q2⟩
  · obtain ⟨s1, s2, s3, s4⟩ := hs 3 p3
    exact (s4 k h7).trans (h.2.1 k h1 h7)
  · obtain ⟨s1, s2, s3, s4⟩ := hs 3 p3
    exact s2.trans h.2.2
/-- what a place asked for makes of the table -/
def Filled (E : Nat → Nat → Int32) (S : Int32) (l s : Nat) (wo wo' : Nat → Int64) (lg lg' se se' st st' : Nat → Int32) : Prop :=
  FI E S l wo' lg' se' st' ∧ (∀ k, k < 7 → wo' (7 * pl s + k) = Rr E s k) ∧ lg' (pl s) = nI (Lg E s) ∧ (∀ t, st' t = st t ∨ st' t = S) ∧ ∀ a, Fr l a → Sm a wo wo' lg lg' se se' st st'
def FillOk (nr wt : Nat → Int32) (S : Int32) (n : Nat) : Prop := ∀ (s l d : Nat) (wo : Nat → Int64) (lg se st : Nat → Int32), s < 4096 → s % 2 ^ l = 0 → popc s 12 < n → d + popc s 12 ≤ 12 → FI (Et nr wt) S l wo lg se st → ∃ wo' lg' se' st', f_X4_placeFor n wo lg se st nr wt S (nI s) (nI d) = some (nI (pl s), wo', lg', se', st') ∧ Filled (Et nr wt) S l s wo wo' lg lg' se se' st st'
theorem bE2 {A0 A1 γ : Type} (a0 : A0) (a1 : A1) (f : A0 → A1 → Option γ) : bn2 (some (a0, a1)) f = f a0 a1 := Eq.trans (Eq.refl (bn2 (some (a0, a1)) f)) (Eq.refl (f a0 a1))
theorem bE3 {A0 A1 A2 γ : Type} (a0 : A0) (a1 : A1) (a2 : A2) (f : A0 → A1 → A2 → Option γ) : bn3 (some (a0, a1, a2)) f = f a0 a1 a2 := Eq.trans (Eq.refl (bn3 (some (a0, a1, a2)) f)) (Eq.refl (f a0 a1 a2))
theorem bE5 {A0 A1 A2 A3 A4 γ : Type} (a0 : A0) (a1 : A1) (a2 : A2) (a3 : A3) (a4 : A4) (f : A0 → A1 → A2 → A3 → A4 → Option γ) : bn5 (some (a0, a1, a2, a3, a4)) f = f a0 a1 a2 a3 a4 := Eq.trans (Eq.refl (bn5 (some (a0, a1, a2, a3, a4)) f)) (Eq.refl (f a0 a1 a2 a3 a4))
theorem fill_loop {nr wt : Nat → Int32} {S : Int32} (hw : ∀ i, i < 144 → ¬ wt i < 0) {n : Nat} (ih : FillOk nr wt S n) {p rest d a : Nat} (s : Int32) (ha : a < 515) (hr : rest < 4096) (hp : p < 12) (hn : popc rest 12 < n) (hd : d + 1 + popc rest 12 ≤ 12) (hfr : Fr (p + 1) a) (hrm : rest % 2 ^ (p + 1) = 0) : ∀ (m v : Nat) (wo : Nat → Int64) (lg se st : Nat → Int32), p < v → v ≤ 12 → 12 - v < m → FI (Et nr wt) S (p + 1) wo lg se st → (∀ k, k < 7 → wo (7 * a + k) = fq (Et nr wt) p rest (Rr (Et nr wt)) v k) → lg a = nI (lq (Et nr wt) p rest (Lg (Et nr wt)) v) → ∃ wo' lg' se' st', f_X4_placeFor_b147 (f_X4_placeFor n) nr wt S s (nI d) m wo lg se st (nI a) (nI p) (nI rest) (nr p &&& nI rest) (nI v) = some (nI a, wo', lg', se', st') ∧ FI (Et nr wt) S (p + 1) wo' lg' se' st' ∧ (∀ k, k < 7 → wo' (7 * a + k) = fq (Et nr wt) p rest (Rr (Et nr wt)) 12 k) ∧ lg' a = nI (lq (Et nr wt) p rest (Lg (Et nr wt)) 12) ∧ st' a = st a ∧ se' a = se a ∧ (∀ t, st' t = st t ∨ st' t = S) ∧ ∀ b, b ≠ a → Fr (p + 1) b → Sm b wo wo' lg lg' se se' st st' := by
  intro m
  induction m with
  | zero =>
    intro v wo lg se st _ _ h
    omega
  | succ m ihm =>
    intro v wo lg se st hpv hv hm hF hrow hlg
    show ∃ wo' lg' se' st', f_X4_placeFor_s147 (f_X4_placeFor n) nr wt S s (nI d) (f_X4_placeFor_b147 (f_X4_placeFor n) nr wt S s (nI d) m) wo lg se st (nI a) (nI p) (nI rest) (nr p &&& nI rest) (nI v) = some (nI a, wo', lg', se', st') ∧ _
    unfold f_X4_placeFor_s147
    by_cases h : 12 ≤ v
    · have e : v = 12 := by omega
      subst e
      rw [if_pos (show (12 : Int32) ≤ nI 12 by decide)]
      exact ⟨wo, lg, se, st, rfl, hF, hrow, hlg, rfl, rfl, fun t => Or.inl rfl, fun b _ _ => Sm.rf⟩
    · rw [if_neg (show ¬ (12 : Int32) ≤ nI v from nI_ge (a := v) (b := 12) (by omega) (by decide))]
      have hbit : ((nr p &&& nI rest) >>> (nI v &&& 31)) &&& 1 = 0 ↔ ¬ (ib (nr p) v = true ∧ rest / 2 ^ v % 2 = 1) := by
        rw [ib_sh _ (by omega), ib_and, ib_nI rest (by omega)]
        cases ib (nr p) v <;> simp
      by_cases hb : ib (nr p) v = true ∧ rest / 2 ^ v % 2 = 1
      · rw [if_neg (fun q => (hbit.mp q) hb)]
        have hx : nI rest ^^^ (1 <<< (nI v &&& 31)) = nI (rest - 2 ^ v) := by
          rcases bit_xor rest (by omega) v (by omega) with z | z
          · omega
          · exact z
        obtain ⟨c1, c2⟩ := clear_lt hb.2
        have hpop : popc (rest - 2 ^ v) 12 + 1 = popc rest 12 := by
          rcases pop_clear rest (by omega) v (by omega) with z | z
          · omega
          · exact z
        have hcm := clear_mod (v := v) hrm (by omega)
        have hb4 : rest - 2 ^ v < 4096 := by omega
        have hpb := pl_lt hb4
        have hne : pl (rest - 2 ^ v) ≠ a := hfr _ hb4 hcm
        rw [hx, nI_1]
        obtain ⟨wo1, lg1, se1, st1, q1, q2, q3, q4, q5, q6⟩ := ih (rest - 2 ^ v) (p + 1) (d + 1) wo lg se st hb4 hcm (by omega) (by omega) hF
        obtain ⟨e1, e2, e3, e4⟩ := q6 a hfr
        have a1 : p * 12 + v < 144 := by omega
        have hEe : Et nr wt p v = wt (p * 12 + v) := if_pos hb.1
        have hE : p < v ∧ rest / 2 ^ v % 2 = 1 ∧ ¬ Et nr wt p v < 0 := ⟨hpv, hb.2, by rw [hEe]; exact hw _ a1⟩
        obtain ⟨wo2, u1, u2, u3⟩ := q_addPaired (wo := wo1) (lg := lg1) (w := wt (p * 12 + v)) (a := a) (b := pl (rest - 2 ^ v)) (M := Lg (Et nr wt) (rest - 2 ^ v)) ha hpb (Ne.symm hne) (hw _ a1) (Lg_6 _ hb4) q4 (fun k hk hk7 => by rw [q3 k hk7]; exact Rr_zero _ _ hb4 k hk) (fun k hk => by
          rw [e4 k hk, hrow k hk]
          exact fq_ok (Rr_ok _ rest (by omega)) v k)
        rw [q1, bE5, mul12, gN a1 (by decide), c144 a1, u1, bE2, nmE, nI_1 v]
        have hmax : (if lg1 a < nI (Lg (Et nr wt) (rest - 2 ^ v)) + 1 then nI (Lg (Et nr wt) (rest - 2 ^ v)) + 1 else lg1 a) = nI (lq (Et nr wt) p rest (Lg (Et nr wt)) (v + 1)) := by
          have e5 : lq (Et nr wt) p rest (Lg (Et nr wt)) (v + 1) = max (lq (Et nr wt) p rest (Lg (Et nr wt)) v) (Lg (Et nr wt) (rest - 2 ^ v) + 1) := if_pos hE
          rw [e5, e2, hlg, nI_1]
          have b1 : lq (Et nr wt) p rest (Lg (Et nr wt)) v ≤ 7 := by
            have := lq_half (E := Et nr wt) (p := p) (rest := rest) (F := Lg (Et nr wt)) (by omega) (fun t ht => Lg_half _ t (by omega)) v hv
            have := pop_le rest (by omega)
            omega
          have b2 := Lg_6 (Et nr wt) (s := rest - 2 ^ v) (by omega)
          rcases Nat.lt_or_ge (lq (Et nr wt) p rest (Lg (Et nr wt)) v) (Lg (Et nr wt) (rest - 2 ^ v) + 1) with z | z
          · rw [if_pos (nI_lt z (by omega)), Nat.max_eq_right (by omega)]
          · rw [if_neg (fun q => by have := (nI_ltI (by omega) (by omega)).mp q; omega), Nat.max_eq_left z]
        rw [hmax]
        have hS : ∀ b, b ≠ a → Sm b wo1 wo2 lg1 (upd lg1 a (nI (lq (Et nr wt) p rest (Lg (Et nr wt)) (v + 1)))) se1 se1 st1 st1 := fun b hba => ⟨rfl, pk_un hba, rfl, fun k hk => u3 _ (by omega)⟩
        obtain ⟨wo', lg', se', st', y1, y2, y3, y4, y5, y6, y7, y8⟩ := ihm (v + 1) wo2 (upd lg1 a (nI (lq (Et nr wt) p rest (Lg (Et nr wt)) (v + 1)))) se1 st1 (by omega) (by omega) (by omega) (q2.put hfr hS) (fun k hk => by
            have e5 : fq (Et nr wt) p rest (Rr (Et nr wt)) (v + 1) = addR (fq (Et nr wt) p rest (Rr (Et nr wt)) v) (Et nr wt p v) (Rr (Et nr wt) (rest - 2 ^ v)) 7 := if_pos hE
            rw [u2 k hk, e5, hEe]
            unfold addR
            by_cases d1 : 1 ≤ k ∧ k < 7
            · rw [if_pos d1, if_pos d1]
              show plV (wo1 (7 * a + k)) (tiV _ (wo1 (7 * pl (rest - 2 ^ v) + (k - 1)))) = _
              rw [e4 k hk, hrow k hk, q3 (k - 1) (by omega)]
            · rw [if_neg d1, if_neg d1]
              show wo1 (7 * a + k) = _
              rw [e4 k hk, hrow k hk]) pk_us
        refine ⟨wo', lg', se', st', y1, y2, y3, y4, y5.trans e1, y6.trans e3, fun t => ?_, fun b hba hbf => ?_⟩
        · rcases y7 t with z | z
          · rw [z]
            exact q5 t
          · exact Or.inr z
        · exact ((q6 b hbf).tr (hS b hba)).tr (y8 b hba hbf)
      · rw [if_pos (hbit.mpr hb), nmE, nI_1]
        have hE : ¬ (p < v ∧ rest / 2 ^ v % 2 = 1 ∧ ¬ Et nr wt p v < 0) := by
          rintro ⟨_, z1, z2⟩
          apply hb
          refine ⟨?_, z1⟩
          by_cases z : ib (nr p) v = true
          · exact z
          · exfalso
            apply z2
            have : Et nr wt p v = -1 := if_neg z
            rw [this]
            decide
        have e4 : fq (Et nr wt) p rest (Rr (Et nr wt)) (v + 1) = fq (Et nr wt) p rest (Rr (Et nr wt)) v := if_neg hE
        have e5 : lq (Et nr wt) p rest (Lg (Et nr wt)) (v + 1) = lq (Et nr wt) p rest (Lg (Et nr wt)) v := if_neg hE
        exact ihm (v + 1) wo lg se st (by omega) (by omega) (by omega) hF (by rw [e4]; exact hrow) (by rw [e5]; exact hlg)
