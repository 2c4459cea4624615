/-! pure rows: Long.bitCount of sets of 40 -/
theorem land8 {a c : Nat} (u v : Nat) (ha : a < 256) (hc : c < 256) : (a + 256 * u) &&& (c + 256 * v) = (a &&& c) + 256 * (u &&& v) := by
  have h1 : ((a + 256 * u) &&& (c + 256 * v)) % 2 ^ 8 = a &&& c := by
    rw [Nat.and_mod_two_pow, show (a + 256 * u) % 2 ^ 8 = a by omega, show (c + 256 * v) % 2 ^ 8 = c by omega]
  have h2 : ((a + 256 * u) &&& (c + 256 * v)) / 2 ^ 8 = u &&& v := by
    rw [Nat.and_div_two_pow, show (a + 256 * u) / 2 ^ 8 = u by omega, show (c + 256 * v) / 2 ^ 8 = v by omega]
  have h3 := Nat.div_add_mod ((a + 256 * u) &&& (c + 256 * v)) (2 ^ 8)
  rw [h1, h2] at h3
  rw [← h3, Nat.add_comm]
theorem m85 : ∀ h, h < 128 → ∀ t, t < 2 → (h + 128 * t) &&& 85 = h &&& 85 := by decide +kernel
theorem m51 : ∀ h, h < 64 → ∀ t, t < 4 → (h + 64 * t) &&& 51 = h &&& 51 := by decide +kernel
theorem m15 : ∀ h, h < 73 → ∀ t, t < 5 → (h + 16 * t) &&& 15 = h &&& 15 := by decide +kernel
theorem stepA {b : Nat} (y M : Nat) (hb : b < 256) : (b + 256 * y) - (((b + 256 * y) / 2) &&& (85 + 256 * M)) = (b - ((b / 2) &&& 85)) + 256 * (y - ((y / 2) &&& M)) := by
  have e : (b + 256 * y) / 2 = (b / 2 + 128 * (y % 2)) + 256 * (y / 2) := by omega
  rw [e, land8 _ _ (by omega) (by decide), m85 (b / 2) (by omega) (y % 2) (by omega)]
  have h1 : (b / 2) &&& 85 ≤ b / 2 := Nat.and_le_left
  have h2 : (y / 2) &&& M ≤ y / 2 := Nat.and_le_left
  generalize (b / 2) &&& 85 = p at h1 ⊢
  generalize (y / 2) &&& M = q at h2 ⊢
  omega
theorem stepB {a : Nat} (w M : Nat) (ha : a < 256) : ((a + 256 * w) &&& (51 + 256 * M)) + (((a + 256 * w) / 4) &&& (51 + 256 * M)) = ((a &&& 51) + ((a / 4) &&& 51)) + 256 * ((w &&& M) + ((w / 4) &&& M)) := by
  have e : (a + 256 * w) / 4 = (a / 4 + 64 * (w % 4)) + 256 * (w / 4) := by omega
  rw [e, land8 _ _ ha (by decide), land8 _ _ (by omega) (by decide), m51 (a / 4) (by omega) (w % 4) (by omega)]
  generalize a &&& 51 = p1
  generalize (a / 4) &&& 51 = p2
  generalize w &&& M = p3
  generalize (w / 4) &&& M = p4
  omega
theorem stepC {a : Nat} (w M : Nat) (ha : a ≤ 68) (hw : w % 16 ≤ 4) : ((a + 256 * w) + (a + 256 * w) / 16) &&& (15 + 256 * M) = ((a + a / 16) &&& 15) + 256 * ((w + w / 16) &&& M) := by
  have e : (a + 256 * w) + (a + 256 * w) / 16 = (a + a / 16 + 16 * (w % 16)) + 256 * (w + w / 16) := by omega
  rw [e, land8 _ _ (by omega) (by decide), m15 (a + a / 16) (by omega) (w % 16) (by omega)]
def swA (x : Nat) : Nat := x - ((x / 2) &&& 6148914691236517205)
def swB (v : Nat) : Nat := (v &&& 3689348814741910323) + ((v / 4) &&& 3689348814741910323)
def swC (v : Nat) : Nat := (v + v / 16) &&& 1085102592571150095
def a8 (b : Nat) : Nat := b - ((b / 2) &&& 85)
def b8 (a : Nat) : Nat := (a &&& 51) + ((a / 4) &&& 51)
def c8 (c : Nat) : Nat := (c + c / 16) &&& 15
def by5 (b0 b1 b2 b3 b4 : Nat) : Nat := b0 + 256 * (b1 + 256 * (b2 + 256 * (b3 + 256 * (b4 + 256 * 0))))
theorem swA_5 {b0 b1 b2 b3 b4 : Nat} (h0 : b0 < 256) (h1 : b1 < 256) (h2 : b2 < 256) (h3 : b3 < 256) (h4 : b4 < 256) : swA (by5 b0 b1 b2 b3 b4) = by5 (a8 b0) (a8 b1) (a8 b2) (a8 b3) (a8 b4) := by
  unfold swA by5
  rw [show (6148914691236517205 : Nat) = 85 + 256 * (85 + 256 * (85 + 256 * (85 + 256 * (85 + 256 * 5592405)))) from rfl, stepA _ _ h0, stepA _ _ h1, stepA _ _ h2, stepA _ _ h3, stepA _ _ h4]
  rfl
theorem swB_5 {b0 b1 b2 b3 b4 : Nat} (h0 : b0 < 256) (h1 : b1 < 256) (h2 : b2 < 256) (h3 : b3 < 256) (h4 : b4 < 256) : swB (by5 b0 b1 b2 b3 b4) = by5 (b8 b0) (b8 b1) (b8 b2) (b8 b3) (b8 b4) := by
  unfold swB by5
  rw [show (3689348814741910323 : Nat) = 51 + 256 * (51 + 256 * (51 + 256 * (51 + 256 * (51 + 256 * 3355443)))) from rfl, stepB _ _ h0, stepB _ _ h1, stepB _ _ h2, stepB _ _ h3, stepB _ _ h4]
  rfl
theorem swC_5 {b0 b1 b2 b3 b4 : Nat} (h0 : b0 ≤ 68) (h1 : b1 ≤ 68) (h2 : b2 ≤ 68) (h3 : b3 ≤ 68) (h4 : b4 ≤ 68) (k1 : b1 % 16 ≤ 4) (k2 : b2 % 16 ≤ 4) (k3 : b3 % 16 ≤ 4) (k4 : b4 % 16 ≤ 4) : swC (by5 b0 b1 b2 b3 b4) = by5 (c8 b0) (c8 b1) (c8 b2) (c8 b3) (c8 b4) := by
  unfold swC by5
  rw [show (1085102592571150095 : Nat) = 15 + 256 * (15 + 256 * (15 + 256 * (15 + 256 * (15 + 256 * 986895)))) from rfl, stepC _ _ h0 (by omega), stepC _ _ h1 (by omega), stepC _ _ h2 (by omega), stepC _ _ h3 (by omega), stepC _ _ h4 (by omega)]
  rfl
theorem byte_ok : ∀ b, b < 256 → a8 b < 256 ∧ b8 (a8 b) ≤ 68 ∧ b8 (a8 b) % 16 ≤ 4 ∧ c8 (b8 (a8 b)) = popc b 8 ∧ popc b 8 ≤ 8 := by decide +kernel
theorem popc_low (x : Nat) : ∀ n, n ≤ 8 → popc (x % 256) n = popc x n := by
  intro n
  induction n with
  | zero => exact fun _ => rfl
  | succ n ih =>
    intro h
    show popc (x % 256) n + x % 256 / 2 ^ n % 2 = popc x n + x / 2 ^ n % 2
    rw [ih (by omega)]
    have : x % 256 / 2 ^ n % 2 = x / 2 ^ n % 2 := by
      have hn : n = 0 ∨ n = 1 ∨ n = 2 ∨ n = 3 ∨ n = 4 ∨ n = 5 ∨ n = 6 ∨ n = 7 := by omega
      rcases hn with rfl | rfl | rfl | rfl | rfl | rfl | rfl | rfl <;> omega
    rw [this]
theorem popc_8 (x : Nat) : ∀ n, popc x (8 + n) = popc (x % 256) 8 + popc (x / 256) n := by
  intro n
  induction n with
  | zero => exact (popc_low x 8 (Nat.le_refl _)).symm
  | succ n ih =>
    show popc x (8 + n) + x / 2 ^ (8 + n) % 2 = popc (x % 256) 8 + (popc (x / 256) n + x / 256 / 2 ^ n % 2)
    rw [ih, Nat.pow_add, ← Nat.div_div_eq_div_mul, show (2 : Nat) ^ 8 = 256 from rfl]
    omega
theorem nI_andG (a b : Nat) : nI a &&& nI b = nI (a &&& b) := by
  apply Int32.toBitVec_inj.mp
  rw [Int32.toBitVec_and]
  show BitVec.ofNat 32 a &&& BitVec.ofNat 32 b = BitVec.ofNat 32 (a &&& b)
  apply BitVec.eq_of_toNat_eq
  rw [BitVec.toNat_and, BitVec.toNat_ofNat, BitVec.toNat_ofNat, BitVec.toNat_ofNat, Nat.and_mod_two_pow]
theorem bc_sum {p0 p1 p2 p3 p4 : Nat} (h0 : p0 ≤ 8) (h1 : p1 ≤ 8) (h2 : p2 ≤ 8) (h3 : p3 ≤ 8) (h4 : p4 ≤ 8) (v3 v4 v5 v6 : Nat) (e3 : v3 = by5 p0 p1 p2 p3 p4) (e4 : v4 = v3 + v3 / 256) (e5 : v5 = v4 + v4 / 65536) (e6 : v6 = v5 + v5 / 4294967296) : v6 % 128 = p0 + (p1 + (p2 + (p3 + p4))) ∧ v6 < 2 ^ 40 := by
  unfold by5 at e3
  have d3 : v3 / 256 = p1 + 256 * p2 + 65536 * p3 + 16777216 * p4 := by omega
  have f4 : v4 = (p0 + p1) + 256 * (p1 + p2) + 65536 * (p2 + p3) + 16777216 * (p3 + p4) + 4294967296 * p4 := by omega
  have d4 : v4 / 65536 = (p2 + p3) + 256 * (p3 + p4) + 65536 * p4 := by omega
  have f5 : v5 = (p0 + p1 + p2 + p3) + 256 * (p1 + p2 + p3 + p4) + 65536 * (p2 + p3 + p4) + 16777216 * (p3 + p4) + 4294967296 * p4 := by omega
  have d5 : v5 / 4294967296 = p4 := by omega
  have f6 : v6 = (p0 + p1 + p2 + p3 + p4) + 256 * ((p1 + p2 + p3 + p4) + 256 * (p2 + p3 + p4) + 65536 * (p3 + p4) + 16777216 * p4) := by omega
  constructor
  · omega
  · omega
theorem bc40 {x : Nat} (hx : x < 2 ^ 40) : f_J13_bitCount_95d88 (lN x) = some (nI (popc x 40)) := by
  obtain ⟨b0, b1, b2, b3, b4, h0, h1, h2, h3, h4, ex⟩ : ∃ b0 b1 b2 b3 b4 : Nat, b0 < 256 ∧ b1 < 256 ∧ b2 < 256 ∧ b3 < 256 ∧ b4 < 256 ∧ x = by5 b0 b1 b2 b3 b4 := ⟨x % 256, x / 256 % 256, x / 65536 % 256, x / 16777216 % 256, x / 4294967296, by omega, by omega, by omega, by omega, by omega, by unfold by5; omega⟩
  obtain ⟨q01, q02, q03, q04, q05⟩ := byte_ok b0 h0
  obtain ⟨q11, q12, q13, q14, q15⟩ := byte_ok b1 h1
  obtain ⟨q21, q22, q23, q24, q25⟩ := byte_ok b2 h2
  obtain ⟨q31, q32, q33, q34, q35⟩ := byte_ok b3 h3
  obtain ⟨q41, q42, q43, q44, q45⟩ := byte_ok b4 h4
  have eA : swA x = by5 (a8 b0) (a8 b1) (a8 b2) (a8 b3) (a8 b4) := by rw [ex, swA_5 h0 h1 h2 h3 h4]
  have eB : swB (swA x) = by5 (b8 (a8 b0)) (b8 (a8 b1)) (b8 (a8 b2)) (b8 (a8 b3)) (b8 (a8 b4)) := by rw [eA, swB_5 q01 q11 q21 q31 q41]
  have eC : swC (swB (swA x)) = by5 (popc b0 8) (popc b1 8) (popc b2 8) (popc b3 8) (popc b4 8) := by rw [eB, swC_5 q02 q12 q22 q32 q42 q13 q23 q33 q43, q04, q14, q24, q34, q44]
  have hp : popc x 40 = popc b0 8 + (popc b1 8 + (popc b2 8 + (popc b3 8 + popc b4 8))) := by
    have s0 := popc_8 x 32
    have s1 := popc_8 (x / 256) 24
    have s2 := popc_8 (x / 256 / 256) 16
    have s3 := popc_8 (x / 256 / 256 / 256) 8
    unfold by5 at ex
    rw [show x / 256 / 256 / 256 / 256 = b4 by omega, show x / 256 / 256 / 256 % 256 = b3 by omega] at s3
    rw [show x / 256 / 256 % 256 = b2 by omega] at s2
    rw [show x / 256 % 256 = b1 by omega] at s1
    rw [show x % 256 = b0 by omega] at s0
    show popc x (8 + 32) = _
    rw [s0]
    show _ + popc (x / 256) (8 + 24) = _
    rw [s1]
    show _ + (_ + popc (x / 256 / 256) (8 + 16)) = _
    rw [s2]
    show _ + (_ + (_ + popc (x / 256 / 256 / 256) (8 + 8))) = _
    rw [s3]
  obtain ⟨f1, f2⟩ := bc_sum q05 q15 q25 q35 q45 (swC (swB (swA x))) _ _ _ eC rfl rfl rfl
  have lA : swA x ≤ x := Nat.sub_le _ _
  have lB : swB (swA x) < 2 ^ 41 := by
    rw [eB]
    unfold by5
    omega
  have lC : swC (swB (swA x)) < 2 ^ 40 := by
    rw [eC]
    unfold by5
    omega
  have hle : (x / 2) &&& 6148914691236517205 ≤ x := Nat.le_trans Nat.and_le_left (Nat.div_le_self _ _)
  have s1 : ∀ n, n < 2 ^ 64 → ((lN n).toUInt64 >>> ((1 : Int32).toInt64.toUInt64 &&& Int64.toUInt64 63)).toInt64 = lN (n / 2) := fun n h => wb_shr (k := 1) h (by decide)
  have s2 : ∀ n, n < 2 ^ 64 → ((lN n).toUInt64 >>> ((2 : Int32).toInt64.toUInt64 &&& Int64.toUInt64 63)).toInt64 = lN (n / 4) := fun n h => wb_shr (k := 2) h (by decide)
  have s4 : ∀ n, n < 2 ^ 64 → ((lN n).toUInt64 >>> ((4 : Int32).toInt64.toUInt64 &&& Int64.toUInt64 63)).toInt64 = lN (n / 16) := fun n h => wb_shr (k := 4) h (by decide)
  have s8 : ∀ n, n < 2 ^ 64 → ((lN n).toUInt64 >>> ((8 : Int32).toInt64.toUInt64 &&& Int64.toUInt64 63)).toInt64 = lN (n / 256) := fun n h => wb_shr (k := 8) h (by decide)
  have s16 : ∀ n, n < 2 ^ 64 → ((lN n).toUInt64 >>> ((16 : Int32).toInt64.toUInt64 &&& Int64.toUInt64 63)).toInt64 = lN (n / 65536) := fun n h => wb_shr (k := 16) h (by decide)
  have s32 : ∀ n, n < 2 ^ 64 → ((lN n).toUInt64 >>> ((32 : Int32).toInt64.toUInt64 &&& Int64.toUInt64 63)).toInt64 = lN (n / 4294967296) := fun n h => wb_shr (k := 32) h (by decide)
  have eA' : lN x - lN ((x / 2) &&& 6148914691236517205) = lN (swA x) := lN_sub hle
  have eB' : lN (swA x &&& 3689348814741910323) + lN ((swA x / 4) &&& 3689348814741910323) = lN (swB (swA x)) := lN_add _ _
  have eC' : lN (swB (swA x) + swB (swA x) / 16) &&& lN 1085102592571150095 = lN (swC (swB (swA x))) := wb_and (by omega) (by decide)
  unfold f_J13_bitCount_95d88
  simp only [nmE]
  rw [s1 x (by omega), show (6148914691236517205 : Int64) = lN 6148914691236517205 from rfl, wb_and (by omega) (by decide), eA', s2 _ (by omega), show (3689348814741910323 : Int64) = lN 3689348814741910323 from rfl, wb_and (by omega) (by decide), wb_and (by omega) (by decide), eB', s4 _ (by omega), lN_add, show (1085102592571150095 : Int64) = lN 1085102592571150095 from rfl, eC', s8 _ (by omega), lN_add, s16 _ (by omega), lN_add, s32 _ (by omega), lN_add]
  rw [show ∀ n, (lN n).toInt32 = nI n from fun n => Int64.toInt32_ofNat', show (127 : Int32) = nI 127 from rfl, nI_andG, show (127 : Nat) = 2 ^ 7 - 1 from rfl, Nat.and_two_pow_sub_one_eq_mod, show (2 : Nat) ^ 7 = 128 from rfl, f1, hp]
