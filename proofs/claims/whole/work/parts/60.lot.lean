/-! pure rows: lot -/
theorem tp32 : ∀ l, l < 32 → ((1 : Int32) <<< (nI l &&& 31)).toBitVec = BitVec.twoPow 32 l := by decide +kernel
theorem tp64 : ∀ l, l < 64 → ((1 : Int64) <<< ((nI l).toInt64 &&& 63)).toBitVec = BitVec.twoPow 64 l := by decide +kernel
def ib (x : Int32) (i : Nat) : Bool := x.toBitVec.getLsbD i
def lb (x : Int64) (i : Nat) : Bool := x.toBitVec.getLsbD i
theorem ib_or (x y : Int32) (i : Nat) : ib (x ||| y) i = (ib x i || ib y i) := by
  unfold ib
  rw [Int32.toBitVec_or, BitVec.getLsbD_or]
theorem ib_and (x y : Int32) (i : Nat) : ib (x &&& y) i = (ib x i && ib y i) := by
  unfold ib
  rw [Int32.toBitVec_and, BitVec.getLsbD_and]
theorem lb_or (x y : Int64) (i : Nat) : lb (x ||| y) i = (lb x i || lb y i) := by
  unfold lb
  rw [Int64.toBitVec_or, BitVec.getLsbD_or]
theorem lb_and (x y : Int64) (i : Nat) : lb (x &&& y) i = (lb x i && lb y i) := by
  unfold lb
  rw [Int64.toBitVec_and, BitVec.getLsbD_and]
theorem ib_0 (i : Nat) : ib 0 i = false := by
  unfold ib
  rw [show (0 : Int32).toBitVec = 0#32 from rfl, BitVec.getLsbD_zero]
theorem lb_0 (i : Nat) : lb 0 i = false := by
  unfold lb
  rw [show (0 : Int64).toBitVec = 0#64 from rfl, BitVec.getLsbD_zero]
theorem ib_1 {n : Nat} (hn : n < 32) (i : Nat) : ib (1 <<< (nI n &&& 31)) i = decide (n = i) := by
  unfold ib
  rw [tp32 n hn, BitVec.getLsbD_twoPow]
  simp [hn]
theorem lb_1 {n : Nat} (hn : n < 64) (i : Nat) : lb (1 <<< ((nI n).toInt64 &&& 63)) i = decide (n = i) := by
  unfold lb
  rw [tp64 n hn, BitVec.getLsbD_twoPow]
  simp [hn]
theorem ib_eq0 (x : Int32) : x = 0 ↔ ∀ i, ib x i = false := by
  constructor
  · intro h i
    rw [h, ib_0]
  · intro h
    apply Int32.toBitVec_inj.mp
    apply BitVec.eq_of_getLsbD_eq
    intro i hi
    have := h i
    rw [show (0 : Int32).toBitVec = 0#32 from rfl, BitVec.getLsbD_zero]
    exact this
theorem lb_eq0 (x : Int64) : x = 0 ↔ ∀ i, lb x i = false := by
  constructor
  · intro h i
    rw [h, lb_0]
  · intro h
    apply Int64.toBitVec_inj.mp
    apply BitVec.eq_of_getLsbD_eq
    intro i hi
    have := h i
    rw [show (0 : Int64).toBitVec = 0#64 from rfl, BitVec.getLsbD_zero]
    exact this
theorem lns_bit (lo hi : Nat → Int32) (p : Int32) : ∀ n, n ≤ 40 → ∀ a, lb (lns lo hi p n) a = decide (a < n ∧ (lo a = p ∨ hi a = p)) := by
  intro n
  induction n with
  | zero =>
    intro _ a
    show lb 0 a = _
    rw [lb_0]
    simp
  | succ n ih =>
    intro hn a
    show lb (if lo n = p ∨ hi n = p then lns lo hi p n ||| (1 <<< ((nI n).toInt64 &&& 63)) else lns lo hi p n) a = _
    by_cases h : lo n = p ∨ hi n = p
    · rw [if_pos h, lb_or, ih (by omega), lb_1 (by omega)]
      by_cases e : n = a
      · subst e
        simp [h]
      · have e1 : (a < n + 1 ∧ (lo a = p ∨ hi a = p)) ↔ (a < n ∧ (lo a = p ∨ hi a = p)) := by
          constructor
          · intro q
            exact ⟨by omega, q.2⟩
          · intro q
            exact ⟨by omega, q.2⟩
        simp only [e1]
        simp [e]
    · rw [if_neg h, ih (by omega)]
      by_cases e : n = a
      · subst e
        simp [h]
      · have e1 : (a < n + 1 ∧ (lo a = p ∨ hi a = p)) ↔ (a < n ∧ (lo a = p ∨ hi a = p)) := by
          constructor
          · intro q
            exact ⟨by omega, q.2⟩
          · intro q
            exact ⟨by omega, q.2⟩
        simp only [e1]
/-- POINTS used by the LINES of a set -/
def usedBy (lo hi : Nat → Int32) (F : Int64) (U : Int32) (i : Nat) : Prop := (∀ a, lb F a = true → a < i) ∧ ∀ q, q < 32 → (ib U q = true ↔ ∃ a, lb F a = true ∧ (lo a = nI q ∨ hi a = nI q))
theorem meet_eq {lo hi : Nat → Int32} {la : Nat → Int64} {L i x y : Nat} {F : Int64} {U : Int32} (hL : L ≤ 40) (hla : ∀ a, a < 12 → la a = lns lo hi (nI a) L) (hi' : i < L) (hx : x < 12) (hy : y < 12) (hu : usedBy lo hi F U i) : (la x ||| la y) &&& F = 0 ↔ U &&& (1 <<< (nI x &&& 31) ||| 1 <<< (nI y &&& 31)) = 0 := by
  rw [lb_eq0, ib_eq0]
  constructor
  · intro h q
    rw [ib_and, ib_or, ib_1 (by omega), ib_1 (by omega)]
    rcases Nat.lt_or_ge q 32 with hq | hq
    · cases hU : ib U q with
      | false => rfl
      | true =>
        obtain ⟨a, ha, hm⟩ := (hu.2 q hq).mp hU
        have hai := hu.1 a ha
        have := h a
        rw [lb_and, lb_or, hla x hx, hla y hy, lns_bit lo hi _ L hL, lns_bit lo hi _ L hL, ha] at this
        by_cases e1 : x = q
        · subst e1
          exfalso
          have z : (a < L ∧ (lo a = nI x ∨ hi a = nI x)) := ⟨by omega, hm⟩
          simp [z] at this
        · by_cases e2 : y = q
          · subst e2
            exfalso
            have z : (a < L ∧ (lo a = nI y ∨ hi a = nI y)) := ⟨by omega, hm⟩
            simp [z] at this
          · simp [e1, e2]
    · have : ib U q = false := by
        unfold ib
        exact BitVec.getLsbD_of_ge _ _ hq
      rw [this]
      rfl
  · intro h a
    rw [lb_and, lb_or, hla x hx, hla y hy, lns_bit lo hi _ L hL, lns_bit lo hi _ L hL]
    cases hF : lb F a with
    | false => simp
    | true =>
      have hai := hu.1 a hF
      have k : ∀ z, z < 12 → (lo a = nI z ∨ hi a = nI z) → (z = x ∨ z = y) → False := by
        intro z hz hm hxy
        have hU : ib U z = true := (hu.2 z (by omega)).mpr ⟨a, hF, hm⟩
        have := h z
        rw [ib_and, ib_or, ib_1 (by omega), ib_1 (by omega), hU] at this
        rcases hxy with rfl | rfl <;> simp at this
      have k1 : ¬ (a < L ∧ (lo a = nI x ∨ hi a = nI x)) := fun q => k x hx q.2 (Or.inl rfl)
      have k2 : ¬ (a < L ∧ (lo a = nI y ∨ hi a = nI y)) := fun q => k y hy q.2 (Or.inr rfl)
      simp only [k1, k2]
      rfl
theorem usedBy_skip {lo hi : Nat → Int32} {F : Int64} {U : Int32} {i : Nat} (h : usedBy lo hi F U i) : usedBy lo hi F U (i + 1) := ⟨fun a ha => Nat.lt_succ_of_lt (h.1 a ha), h.2⟩
theorem usedBy_add {lo hi : Nat → Int32} {F : Int64} {U : Int32} {i x y : Nat} (hi40 : i < 40) (hx : x < 12) (hy : y < 12) (hl : lo i = nI x) (hh : hi i = nI y) (h : usedBy lo hi F U i) : usedBy lo hi (F ||| (1 <<< ((nI i).toInt64 &&& 63))) (U ||| (1 <<< (nI x &&& 31) ||| 1 <<< (nI y &&& 31))) (i + 1) := by
  refine ⟨fun a ha => ?_, fun q hq => ?_⟩
  · rw [lb_or, lb_1 (by omega)] at ha
    cases hF : lb F a with
    | true => exact Nat.lt_succ_of_lt (h.1 a hF)
    | false =>
      rw [hF] at ha
      have : i = a := by simpa using ha
      omega
  · rw [ib_or, ib_or, ib_1 (by omega), ib_1 (by omega)]
    constructor
    · intro hU
      cases hU1 : ib U q with
      | true =>
        obtain ⟨a, ha, hm⟩ := (h.2 q hq).mp hU1
        exact ⟨a, by rw [lb_or, ha]; rfl, hm⟩
      | false =>
        rw [hU1] at hU
        refine ⟨i, by rw [lb_or, lb_1 (by omega)]; simp, ?_⟩
        have : x = q ∨ y = q := by simpa using hU
        rcases this with rfl | rfl
        · exact Or.inl hl
        · exact Or.inr hh
    · rintro ⟨a, ha, hm⟩
      rw [lb_or, lb_1 (by omega)] at ha
      cases hF : lb F a with
      | true =>
        have := (h.2 q hq).mpr ⟨a, hF, hm⟩
        rw [this]
        rfl
      | false =>
        rw [hF] at ha
        have e : i = a := by simpa using ha
        subst e
        rw [hl, hh] at hm
        have : x = q ∨ y = q := by
          rcases hm with z | z
          · exact Or.inl (nI_inj (by omega) (by omega) z)
          · exact Or.inr (nI_inj (by omega) (by omega) z)
        rcases this with rfl | rfl <;> simp
/-- by a proof that isn't 'rfl', so that no machine number is reckoned with -/
theorem nmE {α β : Type} (e : α) (f : α → β) : nm e f = f e := Eq.trans (Eq.refl (nm e f)) (Eq.refl (f e))
theorem bE1 {α γ : Type} (a : α) (f : α → Option γ) : bn1 (some a) f = f a := Eq.trans (Eq.refl (bn1 (some a) f)) (Eq.refl (f a))
theorem lot93_0 {L : Int32} {lo hi : Nat → Int32} {p1 p2 : Int32} {k : Int32 → Int32 → Int64 → Int32 → Option Int64} {z U i t : Int32} {F : Int64} : f_X9_lot_b93 L lo hi p1 p2 k z U F i t 0 = k z U F (i + 1) := by
  unfold f_X9_lot_b93
  rw [if_pos rfl]
  unfold f_X9_lot_b110
  rw [nmE, if_pos rfl, nmE, nmE, Int32.or_zero, Int64.or_zero]
theorem lot93_1 {L : Int32} {lo hi : Nat → Int32} {p1 p2 : Int32} {k : Int32 → Int32 → Int64 → Int32 → Option Int64} {z U i t : Int32} {F : Int64} : f_X9_lot_b93 L lo hi p1 p2 k z U F i t 1 = k z (U ||| t) (F ||| (1 <<< (i.toInt64 &&& 63))) (i + 1) := by
  unfold f_X9_lot_b93
  rw [if_neg (by decide)]
  unfold f_X9_lot_b110
  rw [nmE, if_neg (by decide), nmE, nmE]
theorem lot_loop {kd fg lo hi jn nr : Nat → Int32} {la : Nat → Int64} {P L T : Nat} (hn : NetI kd fg lo hi jn nr la P L T) (p1 p2 : Int32) : ∀ (m i : Nat) (z : Int32) (F : Int64) (U : Int32), i ≤ L → L - i < m → usedBy lo hi F U i → ∃ r, f_X1_drawn_b8 lo hi la (nI L) p1 p2 m z F (nI i) = some r ∧ f_X9_lot_b29 (nI L) lo hi p1 p2 m z U F (nI i) = some r := by
  have hL := hn.2.1
  have hP := hn.1
  intro m
  induction m with
  | zero =>
    intro i z F U _ h
    omega
  | succ m ih =>
    intro i z F U hi' hm hu
    show ∃ r, f_X1_drawn_s8 lo hi la (nI L) p1 p2 (f_X1_drawn_b8 lo hi la (nI L) p1 p2 m) z F (nI i) = some r ∧ f_X9_lot_s29 (nI L) lo hi p1 p2 (f_X9_lot_b29 (nI L) lo hi p1 p2 m) z U F (nI i) = some r
    unfold f_X1_drawn_s8 f_X9_lot_s29
    by_cases h : L ≤ i
    · rw [if_pos (nI_le h (by omega)), if_pos (nI_le h (by omega))]
      exact ⟨F, rfl, rfl⟩
    · rw [if_neg (nI_ge (by omega) (by omega)), if_neg (nI_ge (by omega) (by omega))]
      have h40 : i < 40 := by omega
      obtain ⟨x, y, hxy, hy, hl, hh⟩ := hn.2.2.2.2.2.1 i (by omega)
      have x12 : x < 12 := by omega
      have y12 : y < 12 := by omega
      have em : f_X1_meeting lo hi la (nI i) = some (la x ||| la y) := by
        unfold f_X1_meeting
        simp only [c40 h40, g40 h40, hl, hh, c12 x12, c12 y12, g12 x12, g12 y12]
      have key := meet_eq hL hn.2.2.2.2.2.2.2.2.2 (show i < L by omega) x12 y12 hu
      have g1 : ∀ {w : Option Int64}, (if nI i < 0 ∨ 40 ≤ (nI i).toNatClampNeg then none else w) = w := gN h40 (by decide)
      have ec : (lg_cmp ((la x ||| la y) &&& F) 0 = 0) = ((la x ||| la y) &&& F = 0) := propext (lg_cmp_eq _ _)
      rw [em, bE1, g1, g1, c40 h40, hl, hh]
      simp only [nmE, nI_1]
      by_cases hz : U &&& (1 <<< (nI x &&& 31) ||| 1 <<< (nI y &&& 31)) = 0
      · rw [if_pos hz, if_pos (ec.mpr (key.mpr hz)), if_neg (show ¬ (10 : Int32) = 0 by decide), if_neg (show ¬ (10 : Int32) = 0 by decide)]
        generalize z * 1103515245 + 12345 = z'
        generalize (z'.toUInt32 >>> (Int32.toUInt32 8 &&& Int32.toUInt32 31)).toInt32 - (z'.toUInt32 >>> (Int32.toUInt32 8 &&& Int32.toUInt32 31)).toInt32 / 10 * 10 = d
        by_cases hd : p2 ≤ d
        · rw [if_pos hd, if_pos hd, lot93_0, nI_1]
          exact ih (i + 1) _ F U (by omega) (by omega) (usedBy_skip hu)
        · rw [if_neg hd, if_neg hd, lot93_1, nI_1]
          exact ih (i + 1) _ _ _ (by omega) (by omega) (usedBy_add h40 x12 y12 hl hh hu)
      · rw [if_neg hz, if_neg (fun q => hz (key.mp (ec.mp q)))]
        exact ih (i + 1) z F U (by omega) (by omega) (usedBy_skip hu)
theorem s_lot {kd fg lo hi jn nr : Nat → Int32} {la : Nat → Int64} {P L T : Nat} (hn : NetI kd fg lo hi jn nr la P L T) (p1 p2 : Int32) : ∃ r, f_X8_lot lo hi la (nI L) p1 p2 = some r ∧ f_X9_lot (nI L) lo hi p1 p2 = some r := by
  have hL := hn.2.1
  unfold f_X8_lot f_X9_lot
  rw [q_isBeyond, q_inL p2 (lo := 0) (hi := 10) 0 10 rfl rfl]
  simp only [bs1, h01, h10]
  by_cases b2 : p2 < 0 ∨ 10 < p2
  · rw [if_neg (fun z => z b2), if_pos b2]
    exact ⟨_, rfl, rfl⟩
  · rw [if_pos b2, if_neg b2]
    have h0 : usedBy lo hi 0 0 0 := by
      refine ⟨fun a ha => ?_, fun q hq => ⟨fun z => ?_, fun z => ?_⟩⟩
      · rw [lb_0] at ha
        cases ha
      · rw [ib_0] at z
        cases z
      · obtain ⟨a, ha, _⟩ := z
        rw [lb_0] at ha
        cases ha
    obtain ⟨r, e1, e2⟩ := lot_loop hn p1 p2 70 0 p1 0 0 (by omega) (by omega) h0
    rw [nI_0] at e1 e2
    unfold f_X1_drawn
    rw [e1, e2, bE1]
    exact ⟨r, rfl, rfl⟩
