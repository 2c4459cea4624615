/-! bits of longs: out of kit/laws/BITS.to-paste (family wb_) -/
theorem wb_tb (n : Nat) : (lN n).toBitVec = BitVec.ofNat 64 n := rfl
theorem wb_inj {a b : Int64} (h : a.toBitVec = b.toBitVec) : a = b := Int64.toBitVec_inj.mp h
theorem wb_tn {n : Nat} (h : n < 2 ^ 64) : (lN n).toBitVec.toNat = n := by rw [wb_tb, BitVec.toNat_ofNat, Nat.mod_eq_of_lt h]
theorem wb_of (x : Int64) : ∃ n, n < 2 ^ 64 ∧ x = lN n := ⟨x.toBitVec.toNat, x.toBitVec.isLt, wb_inj (by rw [wb_tb]; simp)⟩
theorem wb_of32 (x : Int32) : ∃ n, n < 2 ^ 32 ∧ x = nI n := ⟨x.toBitVec.toNat, x.toBitVec.isLt, Int32.toBitVec_inj.mp (by show _ = BitVec.ofNat 32 _; simp)⟩
theorem wb_c : ∀ k, k < 64 → ((nI k).toInt64 &&& 63) = lN k := by decide +kernel
theorem wb_cu : ∀ k, k < 64 → ((nI k).toInt64.toUInt64 &&& Int64.toUInt64 63) = UInt64.ofNat k := by decide +kernel
theorem wb_sm : ∀ k, k < 64 → (BitVec.ofNat 64 k).smod 64 = BitVec.ofNat 64 k := by decide +kernel
theorem wb_pw {a b : Nat} (h : a ≤ b) : 2 ^ b = 2 ^ a * 2 ^ (b - a) := by rw [← Nat.pow_add]; congr 1; omega
theorem wb_lt2 {a b : Nat} (h : a < b) : 2 ^ a < 2 ^ b := Nat.pow_lt_pow_right (by decide) h
theorem wb_mod (n : Nat) : lN n = lN (n % 2 ^ 64) := wb_inj (by rw [wb_tb, wb_tb]; apply BitVec.eq_of_toNat_eq; rw [BitVec.toNat_ofNat, BitVec.toNat_ofNat, Nat.mod_mod])
theorem wb_shr {n k : Nat} (hn : n < 2 ^ 64) (hk : k < 64) : ((lN n).toUInt64 >>> ((nI k).toInt64.toUInt64 &&& Int64.toUInt64 63)).toInt64 = lN (n / 2 ^ k) := by
  rw [wb_cu k hk]
  apply wb_inj
  apply BitVec.eq_of_toNat_eq
  show ((lN n).toUInt64 >>> UInt64.ofNat k).toNat = (BitVec.ofNat 64 _).toNat
  have h1 : (UInt64.ofNat k).toNat = k := by
    show (BitVec.ofNat 64 k).toNat = k
    rw [BitVec.toNat_ofNat, Nat.mod_eq_of_lt (by omega)]
  have h2 : (lN n).toUInt64.toNat = n := wb_tn hn
  rw [UInt64.toNat_shiftRight, h1, h2, Nat.mod_eq_of_lt hk, Nat.shiftRight_eq_div_pow, BitVec.toNat_ofNat, Nat.mod_eq_of_lt (Nat.lt_of_le_of_lt (Nat.div_le_self _ _) hn)]
theorem wb_shl (n : Nat) {k : Nat} (hk : k < 64) : lN n <<< ((nI k).toInt64 &&& 63) = lN (n * 2 ^ k) := by
  rw [wb_c k hk]
  apply wb_inj
  rw [Int64.toBitVec_shiftLeft, wb_tb, wb_tb, wb_tb, wb_sm k hk]
  apply BitVec.eq_of_toNat_eq
  rw [BitVec.shiftLeft_eq', BitVec.toNat_shiftLeft, BitVec.toNat_ofNat, BitVec.toNat_ofNat, BitVec.toNat_ofNat, Nat.mod_eq_of_lt (show k < 2 ^ 64 by omega), Nat.shiftLeft_eq, Nat.mul_mod, Nat.mod_mod, ← Nat.mul_mod]
theorem wb_and {a b : Nat} (ha : a < 2 ^ 64) (hb : b < 2 ^ 64) : lN a &&& lN b = lN (a &&& b) := by
  apply wb_inj
  rw [Int64.toBitVec_and, wb_tb, wb_tb, wb_tb]
  apply BitVec.eq_of_toNat_eq
  rw [BitVec.toNat_and, BitVec.toNat_ofNat, BitVec.toNat_ofNat, BitVec.toNat_ofNat, Nat.mod_eq_of_lt ha, Nat.mod_eq_of_lt hb, Nat.mod_eq_of_lt (Nat.and_lt_two_pow _ hb)]
theorem wb_or {a b : Nat} (ha : a < 2 ^ 64) (hb : b < 2 ^ 64) : lN a ||| lN b = lN (a ||| b) := by
  apply wb_inj
  rw [Int64.toBitVec_or, wb_tb, wb_tb, wb_tb]
  apply BitVec.eq_of_toNat_eq
  rw [BitVec.toNat_or, BitVec.toNat_ofNat, BitVec.toNat_ofNat, BitVec.toNat_ofNat, Nat.mod_eq_of_lt ha, Nat.mod_eq_of_lt hb, Nat.mod_eq_of_lt (Nat.or_lt_two_pow ha hb)]
theorem wb_mask {n k : Nat} (hn : n < 2 ^ 64) (hk : k < 64) : lN n &&& lN (2 ^ k - 1) = lN (n % 2 ^ k) := by
  rw [wb_and hn (by have := wb_lt2 hk; omega), Nat.and_two_pow_sub_one_eq_mod]
theorem wb_a1 {n : Nat} (hn : n < 2 ^ 64) : lN n &&& 1 = lN (n % 2) := wb_mask (k := 1) hn (by decide)
theorem wb_bit {n k : Nat} (hn : n < 2 ^ 64) (hk : k < 64) : ((lN n).toUInt64 >>> ((nI k).toInt64.toUInt64 &&& Int64.toUInt64 63)).toInt64 &&& 1 = lN (n / 2 ^ k % 2) := by
  rw [wb_shr hn hk, wb_a1 (Nat.lt_of_le_of_lt (Nat.div_le_self _ _) hn)]
/-! own rows -/
/-- a bit of a long as the bytecode asks for it -/
def lbit (x : Int64) (i : Int32) : Int64 := (x.toUInt64 >>> (i.toInt64.toUInt64 &&& Int64.toUInt64 63)).toInt64 &&& 1
theorem lbit01 (x : Int64) {k : Nat} (hk : k < 64) : lbit x (nI k) = 0 ∨ lbit x (nI k) = 1 := by
  obtain ⟨n, hn, rfl⟩ := wb_of x
  unfold lbit
  rw [wb_bit hn hk]
  rcases Nat.mod_two_eq_zero_or_one (n / 2 ^ k) with e | e
  · rw [e]
    exact Or.inl rfl
  · rw [e]
    exact Or.inr rfl
theorem q_has (x : Int64) {k : Nat} (hk : k < 64) : f_X9_has x (nI k) = some (if lbit x (nI k) = 0 then 0 else 1) := by
  have e : f_X9_has x (nI k) = if lbit x (nI k) = 1 then some 1 else some 0 := by
    unfold f_X9_has lbit
    simp only [lg_cmp_eq]
  rw [e]
  rcases lbit01 x hk with h | h
  · rw [h, if_neg (by decide), if_pos rfl]
  · rw [h, if_pos rfl, if_neg (by decide)]
theorem lmax : (9223372036854775807 : Int64).toInt = 9223372036854775807 := by decide
theorem l0 : (0 : Int64).toInt = 0 := by decide
theorem plus_eq (a b : Int64) : f_X7_plus a b = f_X9_plus a b := by
  unfold f_X7_plus f_X9_plus
  simp only [lg_cmp_lt, lg_cmp_le, lg_cmp_ge]
  by_cases h1 : a < 0
  · rw [if_pos h1, if_pos h1]
  · rw [if_neg h1, if_neg h1]
    by_cases h2 : b < 0
    · rw [if_pos h2, if_pos h2]
    · rw [if_neg h2, if_neg h2]
      have key : a ≤ 9223372036854775807 - b ↔ 0 ≤ a + b := by
        rw [Int64.lt_iff_toInt_lt, l0] at h1 h2
        rw [Int64.le_iff_toInt_le, Int64.le_iff_toInt_le, Int64.toInt_sub, Int64.toInt_add, lmax, l0]
        have r1 := a.toInt_lt
        have r2 := b.toInt_lt
        have e1 : (9223372036854775807 - b.toInt).bmod (2 ^ 64) = 9223372036854775807 - b.toInt := Int.bmod_eq_of_le (by omega) (by omega)
        rw [e1]
        rcases Int.lt_or_le (a.toInt + b.toInt) 9223372036854775808 with q | q
        · rw [Int.bmod_eq_of_le (by omega) (by omega)]
          omega
        · have e2 : (a.toInt + b.toInt).bmod (2 ^ 64) = a.toInt + b.toInt - 2 ^ 64 := by
            rw [Int.bmod_def]
            have : (a.toInt + b.toInt) % (2 ^ 64 : Nat) = a.toInt + b.toInt := Int.emod_eq_of_lt (by omega) (by omega)
            rw [this, if_neg (by omega)]
            rfl
          rw [e2]
          omega
      by_cases h3 : 0 ≤ a + b
      · rw [if_pos h3, if_pos (key.mpr h3)]
      · rw [if_neg h3, if_neg (fun q => h3 (key.mp q))]
theorem ldiv0 {b : Int64} (h : ¬ b < 0) (hb : ¬ b = 0) : (0 : Int64) ≤ 9223372036854775807 / b := by
  rw [Int64.lt_iff_toInt_lt, l0] at h
  have hb2 : b.toInt ≠ 0 := fun e => hb (Int64.toInt_inj.mp (e.trans l0.symm))
  rw [Int64.le_iff_toInt_le, l0, Int64.toInt_div, lmax]
  have h1 : 0 ≤ (9223372036854775807 : Int).tdiv b.toInt := Int.tdiv_nonneg (by omega) (by omega)
  have h2 : (9223372036854775807 : Int).tdiv b.toInt ≤ 9223372036854775807 := by
    have := Int.tdiv_le_self (a := 9223372036854775807) b.toInt (by omega)
    exact this
  rw [Int.bmod_eq_of_le (by omega) (by omega)]
  exact h1
theorem times_eq {a b : Int64} (h1 : ¬ (a = 0 ∧ b < 0)) (h2 : ¬ (a < 0 ∧ b = 0)) : f_X7_times a b = f_X9_times a b := by
  unfold f_X7_times f_X9_times
  simp only [lg_cmp_lt, lg_cmp_le, lg_cmp_ge, lg_cmp_eq]
  by_cases ha : a = 0
  · subst ha
    have hb : ¬ b < 0 := fun q => h1 ⟨rfl, q⟩
    rw [if_neg (show ¬ (0 : Int64) < 0 by decide), if_pos rfl, if_pos (Int64.not_lt.mp hb), Int64.zero_mul]
    by_cases hb0 : b = 0
    · rw [if_pos hb0]
    · rw [if_neg hb0, if_neg hb0, if_pos (ldiv0 hb hb0)]
  · rw [if_neg ha]
    by_cases hb0 : b = 0
    · have ha2 : ¬ a < 0 := fun q => h2 ⟨q, hb0⟩
      subst hb0
      rw [if_neg ha2, if_pos (show (0 : Int64) ≤ 0 by decide), if_pos rfl, if_pos rfl, Int64.mul_zero]
    · by_cases ha2 : a < 0
      · simp only [if_pos ha2, if_neg hb0]
      · by_cases hb2 : b < 0
        · simp only [if_neg ha2, if_neg hb0, if_neg (Int64.not_le.mpr hb2), if_pos hb2]
        · simp only [if_neg ha2, if_neg hb0, if_pos (Int64.not_lt.mp hb2), if_neg hb2]
/-- a set of LINES that are there -/
theorem lines_eq (x : Int64) {L : Nat} (hL : L ≤ 40) : f_X1_hasLines (nI L) x = f_X9_areLines (nI L) x ∧ (f_X9_areLines (nI L) x = some 0 ∨ f_X9_areLines (nI L) x = some 1) := by
  obtain ⟨n, hn, rfl⟩ := wb_of x
  have hk : L < 64 := by omega
  have h2 := wb_lt2 hk
  have e1 : ((1 : Int64) <<< ((nI L).toInt64 &&& 63)) - 1 = lN (2 ^ L - 1) := by
    rw [show (1 : Int64) = lN 1 from rfl, wb_shl 1 hk, Nat.one_mul]
    exact lN_sub (Nat.two_pow_pos L)
  have m1 : ∀ a m : Int64, a &&& (m ^^^ (-1)) = 0 ↔ a &&& m = a := by
    intro a m
    constructor
    · intro h
      apply wb_inj
      apply BitVec.eq_of_getLsbD_eq
      intro i hi
      have := congrArg (fun z => z.toBitVec.getLsbD i) h
      simp only [Int64.toBitVec_and, Int64.toBitVec_xor, BitVec.getLsbD_and, BitVec.getLsbD_xor] at this ⊢
      have h1 : (-1 : Int64).toBitVec.getLsbD i = true := by
        rw [show (-1 : Int64).toBitVec = BitVec.allOnes 64 from rfl, BitVec.getLsbD_allOnes]
        simpa using hi
      have h0 : (0 : Int64).toBitVec.getLsbD i = false := by
        rw [show (0 : Int64).toBitVec = 0#64 from rfl, BitVec.getLsbD_zero]
      rw [h1, h0] at this
      revert this
      cases a.toBitVec.getLsbD i <;> cases m.toBitVec.getLsbD i <;> simp
    · intro h
      apply wb_inj
      apply BitVec.eq_of_getLsbD_eq
      intro i hi
      have := congrArg (fun z => z.toBitVec.getLsbD i) h
      simp only [Int64.toBitVec_and, Int64.toBitVec_xor, BitVec.getLsbD_and, BitVec.getLsbD_xor] at this ⊢
      have h1 : (-1 : Int64).toBitVec.getLsbD i = true := by
        rw [show (-1 : Int64).toBitVec = BitVec.allOnes 64 from rfl, BitVec.getLsbD_allOnes]
        simpa using hi
      have h0 : (0 : Int64).toBitVec.getLsbD i = false := by
        rw [show (0 : Int64).toBitVec = 0#64 from rfl, BitVec.getLsbD_zero]
      rw [h1, h0]
      revert this
      cases a.toBitVec.getLsbD i <;> cases m.toBitVec.getLsbD i <;> simp
  have inj : ∀ a b : Nat, a < 2 ^ 64 → b < 2 ^ 64 → (lN a = lN b ↔ a = b) := by
    intro a b ha hb
    constructor
    · intro h
      have := congrArg (fun z => z.toBitVec.toNat) h
      simp only [wb_tn ha, wb_tn hb] at this
      exact this
    · intro h
      rw [h]
  have key : (lN n &&& (lN (2 ^ L - 1) ^^^ (-1)) = 0) ↔ ((lN n).toUInt64 >>> ((nI L).toInt64.toUInt64 &&& Int64.toUInt64 63)).toInt64 = 0 := by
    rw [m1, wb_mask hn hk, wb_shr hn hk, show (0 : Int64) = lN 0 from rfl]
    have b1 : n % 2 ^ L < 2 ^ 64 := Nat.lt_of_le_of_lt (Nat.mod_le _ _) hn
    have b2 : n / 2 ^ L < 2 ^ 64 := Nat.lt_of_le_of_lt (Nat.div_le_self _ _) hn
    rw [inj _ _ b1 hn, inj _ _ b2 (by decide)]
    constructor
    · intro h
      exact Nat.div_eq_of_lt (by rw [← h]; exact Nat.mod_lt _ (Nat.two_pow_pos L))
    · intro h
      rcases Nat.div_eq_zero_iff.mp h with q | q
      · have := Nat.two_pow_pos L
        omega
      · exact Nat.mod_eq_of_lt q
  have E9 : f_X9_areLines (nI L) (lN n) = if ((lN n).toUInt64 >>> ((nI L).toInt64.toUInt64 &&& Int64.toUInt64 63)).toInt64 = 0 then some 1 else some 0 := by
    unfold f_X9_areLines
    simp only [lg_cmp_eq]
  have E8 : f_X1_hasLines (nI L) (lN n) = if lN n &&& (lN (2 ^ L - 1) ^^^ (-1)) = 0 then some 1 else some 0 := by
    unfold f_X1_hasLines f_X1_allLines
    simp only [lg_cmp_eq, bs1, e1]
  rw [E8, E9]
  by_cases h : ((lN n).toUInt64 >>> ((nI L).toInt64.toUInt64 &&& Int64.toUInt64 63)).toInt64 = 0
  · rw [if_pos h, if_pos (key.mpr h)]
    exact ⟨rfl, Or.inr rfl⟩
  · rw [if_neg h, if_neg (fun q => h (key.mp q))]
    exact ⟨rfl, Or.inl rfl⟩
theorem pair_loop (lo hi : Nat → Int32) (x : Int64) {L : Nat} (hL : L ≤ 40) : ∀ (m i : Nat) (used : Int32), i ≤ L → L - i < m → f_X1_meetNowhere_b5 lo hi (nI L) x m used (nI i) = f_X9_arePaired_b5 (nI L) lo hi x m used (nI i) ∧ (f_X9_arePaired_b5 (nI L) lo hi x m used (nI i) = some 0 ∨ f_X9_arePaired_b5 (nI L) lo hi x m used (nI i) = some 1) := by
  intro m
  induction m with
  | zero =>
    intro i used _ h
    omega
  | succ m ih =>
    intro i used hi' hm
    show f_X1_meetNowhere_s5 lo hi (nI L) x (f_X1_meetNowhere_b5 lo hi (nI L) x m) used (nI i) = f_X9_arePaired_s5 (nI L) lo hi x (f_X9_arePaired_b5 (nI L) lo hi x m) used (nI i) ∧ (f_X9_arePaired_s5 (nI L) lo hi x (f_X9_arePaired_b5 (nI L) lo hi x m) used (nI i) = some 0 ∨ f_X9_arePaired_s5 (nI L) lo hi x (f_X9_arePaired_b5 (nI L) lo hi x m) used (nI i) = some 1)
    unfold f_X1_meetNowhere_s5 f_X9_arePaired_s5 f_X9_arePaired_b53
    by_cases h : L ≤ i
    · rw [if_pos (nI_le h (by omega)), if_pos (nI_le h (by omega))]
      exact ⟨rfl, Or.inr rfl⟩
    · rw [if_neg (nI_ge (by omega) (by omega)), if_neg (nI_ge (by omega) (by omega))]
      have h40 : i < 40 := by omega
      rw [q_has x (k := i) (by omega)]
      simp only [nm_eq, bs1, c40 h40, g40 h40, nI_1, h01, lg_cmp_eq, Int32.or_zero]
      show (if lbit x (nI i) = 0 then _ else _) = _ ∧ _
      by_cases hb : lbit x (nI i) = 0
      · simp only [if_pos hb]
        exact ih (i + 1) used (by omega) (by omega)
      · simp only [if_neg hb]
        by_cases hu : used &&& (1 <<< (lo i &&& 31) ||| 1 <<< (hi i &&& 31)) = 0
        · simp only [if_pos hu]
          exact ih (i + 1) _ (by omega) (by omega)
        · simp only [if_neg hu]
          exact ⟨trivial, Or.inl trivial⟩
theorem paired_eq (lo hi : Nat → Int32) (x : Int64) {L : Nat} (hL : L ≤ 40) : f_X1_meetNowhere lo hi (nI L) x = f_X9_arePaired (nI L) lo hi x ∧ (f_X9_arePaired (nI L) lo hi x = some 0 ∨ f_X9_arePaired (nI L) lo hi x = some 1) := by
  unfold f_X1_meetNowhere f_X9_arePaired
  exact pair_loop lo hi x hL 70 0 0 (by omega) (by omega)
theorem s_isPairing (lo hi : Nat → Int32) {L : Nat} (hL : L ≤ 40) (x : Int64) : ∃ r, f_X8_isPairing lo hi (nI L) x = some r ∧ f_X9_isPairing (nI L) lo hi x = some r := by
  unfold f_X8_isPairing f_X9_isPairing
  obtain ⟨a1, a2⟩ := lines_eq x hL
  obtain ⟨b1, b2⟩ := paired_eq lo hi x hL
  rw [a1, b1]
  rcases a2 with a2 | a2 <;> rw [a2] <;> rcases b2 with b2 | b2 <;> rw [b2] <;> exact ⟨_, rfl, rfl⟩
