/-! pure rows: listed -/
/-- bits of a row below l -/
def pcb (X : Int64) : Nat → Nat
  | 0 => 0
  | l + 1 => pcb X l + (if lb X l = true then 1 else 0)
theorem pcb_s (X : Int64) (l : Nat) : pcb X (l + 1) = pcb X l + (if lb X l = true then 1 else 0) := rfl
theorem pcb_mono (X : Int64) : ∀ d l, pcb X l ≤ pcb X (l + d) := by
  intro d
  induction d with
  | zero => exact fun l => Nat.le_refl _
  | succ d ih =>
    intro l
    have := ih l
    show pcb X l ≤ pcb X (l + d) + _
    omega
theorem pcb_skip {X : Int64} {a : Nat} : ∀ b, a ≤ b → (∀ i, a ≤ i → i < b → lb X i = false) → pcb X b = pcb X a := by
  intro b
  induction b with
  | zero =>
    intro h _
    have : a = 0 := by omega
    subst this
    rfl
  | succ b ih =>
    intro h hno
    by_cases e : a = b + 1
    · subst e
      rfl
    · rw [pcb_s, hno b (by omega) (by omega), if_neg (by decide), Nat.add_zero]
      exact ih (by omega) (fun u u1 u2 => hno u u1 (by omega))
theorem pcb_le (X : Int64) : ∀ b, pcb X b ≤ b := by
  intro b
  induction b with
  | zero => exact Nat.le_refl _
  | succ b ih =>
    rw [pcb_s]
    split <;> omega
theorem lb_lN (n : Nat) {i : Nat} (hi : i < 64) : lb (lN n) i = decide (n / 2 ^ i % 2 = 1) := by
  unfold lb
  rw [wb_tb, BitVec.getLsbD_ofNat, decide_eq_true hi, Bool.true_and, Nat.testBit_eq_decide_div_mod_eq]
theorem lb_ge (x : Int64) {i : Nat} (h : 64 ≤ i) : lb x i = false := BitVec.getLsbD_of_ge _ _ h
theorem pcb_popc (n : Nat) : ∀ l, l ≤ 64 → pcb (lN n) l = popc n l := by
  intro l
  induction l with
  | zero => exact fun _ => rfl
  | succ l ih =>
    intro h
    rw [pcb_s, ih (by omega), lb_lN n (by omega)]
    show _ = popc n l + n / 2 ^ l % 2
    by_cases c : n / 2 ^ l % 2 = 1
    · rw [decide_eq_true c, if_pos rfl, c]
    · rw [decide_eq_false c, if_neg (by decide)]
      omega
theorem bc_ok {X : Int64} (h : ∀ i, lb X i = true → i < 40) : f_J13_bitCount_95d88 X = some (nI (pcb X 40)) := by
  obtain ⟨n, hn, rfl⟩ := wb_of X
  have hlt : n < 2 ^ 40 := by
    apply Nat.lt_pow_two_of_testBit
    intro i hi
    apply Bool.eq_false_iff.mpr
    intro q
    by_cases h64 : i < 64
    · have := h i (by rw [lb_lN n h64, ← Nat.testBit_eq_decide_div_mod_eq]; exact q)
      omega
    · have h2 : n < 2 ^ i := Nat.lt_of_lt_of_le hn (Nat.pow_le_pow_right (by decide) (by omega))
      rw [Nat.testBit_lt_two_pow h2] at q
      cases q
  rw [bc40 hlt, pcb_popc n 40 (by decide)]
/-- the ends of a LINE as a set -/
def tw (lo hi : Nat → Int32) (l : Nat) : Int32 := (1 <<< (lo l &&& 31)) ||| (1 <<< (hi l &&& 31))
/-- how many PAIRINGS of s LINES below b there are, apart from U -/
def Nn (lo hi : Nat → Int32) : Nat → Nat → Int32 → Nat
  | 0, _, _ => 1
  | s + 1, b, U => sm (fun l => if U &&& tw lo hi l = 0 then Nn lo hi s l (U ||| tw lo hi l) else 0) b
def gN2 (lo hi : Nat → Int32) (s : Nat) (U : Int32) (l : Nat) : Nat := if U &&& tw lo hi l = 0 then Nn lo hi s l (U ||| tw lo hi l) else 0
theorem Nn_0 (lo hi : Nat → Int32) (b : Nat) (U : Int32) : Nn lo hi 0 b U = 1 := rfl
theorem Nn_s (lo hi : Nat → Int32) (s b : Nat) (U : Int32) : Nn lo hi (s + 1) b U = sm (gN2 lo hi s U) b := rfl
theorem sm_s (f : Nat → Nat) (n : Nat) : sm f (n + 1) = sm f n + f n := rfl
theorem sm_mono (f : Nat → Nat) : ∀ d l, sm f l ≤ sm f (l + d) := by
  intro d
  induction d with
  | zero => exact fun l => Nat.le_refl _
  | succ d ih =>
    intro l
    have := ih l
    show sm f l ≤ sm f (l + d) + _
    omega
theorem sm_skip {f : Nat → Nat} {a : Nat} : ∀ b, a ≤ b → (∀ i, a ≤ i → i < b → f i = 0) → sm f b = sm f a := by
  intro b
  induction b with
  | zero =>
    intro h _
    have : a = 0 := by omega
    subst this
    rfl
  | succ b ih =>
    intro h hno
    by_cases e : a = b + 1
    · subst e
      rfl
    · rw [sm_s, hno b (by omega) (by omega), Nat.add_zero]
      exact ih (by omega) (fun u u1 u2 => hno u u1 (by omega))
def bnm : Nat → Nat → Nat
  | 0, _ => 1
  | s + 1, b => sm (bnm s) b
theorem sm_le {f g : Nat → Nat} (h : ∀ i, f i ≤ g i) : ∀ n, sm f n ≤ sm g n := by
  intro n
  induction n with
  | zero => exact Nat.le_refl _
  | succ n ih =>
    have := h n
    rw [sm_s, sm_s]
    omega
theorem Nn_le (lo hi : Nat → Int32) : ∀ s b U, Nn lo hi s b U ≤ bnm s b := by
  intro s
  induction s with
  | zero => exact fun _ _ => Nat.le_refl _
  | succ s ih =>
    intro b U
    rw [Nn_s]
    refine sm_le (fun i => ?_) b
    unfold gN2
    split
    · exact ih _ _
    · exact Nat.zero_le _
theorem bnm_mono (s d l : Nat) : bnm s l ≤ bnm s (l + d) := by
  cases s with
  | zero => exact Nat.le_refl _
  | succ s => exact sm_mono _ d l
theorem bnm_0 : ∀ s b, b < s → bnm s b = 0 := by
  intro s
  induction s with
  | zero => intro b h; omega
  | succ s ih =>
    intro b h
    exact sm_skip (a := 0) b (by omega) (fun i _ h2 => ih i (by omega))
theorem bnm_40 : ∀ s, s < 7 → bnm s 40 ≤ 3838380 := by decide +kernel
theorem Nn_lt {lo hi : Nat → Int32} {s b : Nat} (U : Int32) (hs : s < 7) (hb : b ≤ 40) : Nn lo hi s b U ≤ 3838380 := by
  have h1 := Nn_le lo hi s b U
  have h2 := bnm_mono s (40 - b) b
  rw [show b + (40 - b) = 40 by omega] at h2
  have h3 := bnm_40 s hs
  omega
/-- LINES that are free below b -/
def fre (lo hi : Nat → Int32) (U : Int32) (l : Nat) : Nat := if U &&& tw lo hi l = 0 then 1 else 0
theorem and_or0 (U V W : Int32) : (U ||| V) &&& W = 0 ↔ U &&& W = 0 ∧ V &&& W = 0 := by
  rw [ib_eq0, ib_eq0, ib_eq0]
  constructor
  · intro h
    refine ⟨fun i => ?_, fun i => ?_⟩
    · have := h i
      rw [ib_and, ib_or] at this
      rw [ib_and]
      cases h1 : ib U i <;> cases h2 : ib V i <;> cases h3 : ib W i <;> rw [h1, h2, h3] at this <;> first | rfl | exact this
    · have := h i
      rw [ib_and, ib_or] at this
      rw [ib_and]
      cases h1 : ib U i <;> cases h2 : ib V i <;> cases h3 : ib W i <;> rw [h1, h2, h3] at this <;> first | rfl | exact this
  · intro ⟨a, b⟩ i
    have ha := a i
    have hb := b i
    rw [ib_and] at ha hb
    rw [ib_and, ib_or]
    cases h1 : ib U i <;> cases h2 : ib V i <;> cases h3 : ib W i <;> rw [h1, h3] at ha <;> rw [h2, h3] at hb <;> first | rfl | exact ha | exact hb
theorem fre_le (lo hi : Nat → Int32) (U V : Int32) (l : Nat) : fre lo hi (U ||| V) l ≤ fre lo hi U l := by
  unfold fre
  by_cases c : (U ||| V) &&& tw lo hi l = 0
  · rw [if_pos c, if_pos ((and_or0 _ _ _).mp c).1]
    exact Nat.le_refl _
  · rw [if_neg c]
    exact Nat.zero_le _
theorem Nn_few (lo hi : Nat → Int32) : ∀ s b U, sm (fre lo hi U) b < s → Nn lo hi s b U = 0 := by
  intro s
  induction s with
  | zero => intro b U h; omega
  | succ s ih =>
    intro b U h
    rw [Nn_s]
    refine sm_skip (a := 0) b (by omega) (fun i _ hi' => ?_)
    unfold gN2
    by_cases c : U &&& tw lo hi i = 0
    · rw [if_pos c]
      apply ih
      have h1 := sm_le (fre_le lo hi U (tw lo hi i)) i
      have h2 := sm_mono (fre lo hi U) (b - (i + 1)) (i + 1)
      rw [show i + 1 + (b - (i + 1)) = b by omega, sm_s] at h2
      have h3 : fre lo hi U i = 1 := if_pos c
      omega
    · rw [if_neg c]
/-- the row of LINES that are free below b -/
def FRL (lo hi : Nat → Int32) (X : Int64) (b : Nat) (U : Int32) : Prop := ∀ l, lb X l = true ↔ l < b ∧ U &&& tw lo hi l = 0
theorem FRL.sum {lo hi : Nat → Int32} {X : Int64} {b : Nat} {U : Int32} (h : FRL lo hi X b U) : ∀ l, l ≤ b → sm (fre lo hi U) l = pcb X l := by
  intro l
  induction l with
  | zero => exact fun _ => rfl
  | succ l ih =>
    intro hl
    rw [sm_s, pcb_s, ih (by omega)]
    unfold fre
    by_cases c : U &&& tw lo hi l = 0
    · rw [if_pos c, if_pos ((h l).mpr ⟨by omega, c⟩)]
    · rw [if_neg c, if_neg (fun q => c ((h l).mp q).2)]
theorem FRL.all {lo hi : Nat → Int32} {X : Int64} {b : Nat} {U : Int32} (h : FRL lo hi X b U) (hb : b ≤ 40) : pcb X 40 = pcb X b := by
  refine pcb_skip 40 hb (fun i h1 h2 => ?_)
  apply Bool.eq_false_iff.mpr
  intro q
  have := ((h i).mp q).1
  omega
theorem FRL.none {lo hi : Nat → Int32} {X : Int64} {b : Nat} {U : Int32} (h : FRL lo hi X b U) {s a c : Nat} (hac : a ≤ c) (hcb : c ≤ b) (hno : ∀ i, a ≤ i → i < c → lb X i = false) : sm (gN2 lo hi s U) c = sm (gN2 lo hi s U) a := by
  refine sm_skip c hac (fun i h1 h2 => ?_)
  unfold gN2
  rw [if_neg]
  intro q
  have := (h i).mpr ⟨by omega, q⟩
  rw [hno i h1 h2] at this
  cases this
theorem least_bit {X : Int64} : ∀ d l, lb X (l + d) = true → ∃ l', l ≤ l' ∧ l' ≤ l + d ∧ lb X l' = true ∧ ∀ i, l ≤ i → i < l' → lb X i = false := by
  intro d
  induction d with
  | zero => exact fun l h => ⟨l, Nat.le_refl _, Nat.le_refl _, h, fun i h1 h2 => by omega⟩
  | succ d ih =>
    intro l h
    by_cases c : lb X l = true
    · exact ⟨l, Nat.le_refl _, by omega, c, fun i h1 h2 => by omega⟩
    · obtain ⟨l', a1, a2, a3, a4⟩ := ih (l + 1) (by rw [show l + 1 + d = l + (d + 1) by omega]; exact h)
      refine ⟨l', by omega, by omega, a3, fun i h1 h2 => ?_⟩
      by_cases e : i = l
      · subst e
        exact Bool.eq_false_iff.mpr c
      · exact a4 i (by omega) h2
theorem pcb_more {X : Int64} {l b : Nat} (hl : l ≤ b) (h : pcb X l < pcb X b) : ∃ l', l ≤ l' ∧ l' < b ∧ lb X l' = true ∧ ∀ i, l ≤ i → i < l' → lb X i = false := by
  have : ∃ i, l ≤ i ∧ i < b ∧ lb X i = true := by
    apply Classical.byContradiction
    intro q
    have := pcb_skip (X := X) (a := l) b hl (fun i h1 h2 => by
      apply Bool.eq_false_iff.mpr
      intro z
      exact q ⟨i, h1, h2, z⟩)
    omega
  obtain ⟨i, h1, h2, h3⟩ := this
  obtain ⟨l', a1, a2, a3, a4⟩ := least_bit (X := X) (i - l) l (by rw [show l + (i - l) = i by omega]; exact h3)
  exact ⟨l', a1, by omega, a3, a4⟩
theorem lb_ext {x y : Int64} (h : ∀ i, lb x i = lb y i) : x = y := wb_inj (BitVec.eq_of_getLsbD_eq (fun i _ => h i))
theorem lb_xor (x y : Int64) (i : Nat) : lb (x ^^^ y) i = (lb x i ^^ lb y i) := by
  unfold lb
  rw [Int64.toBitVec_xor, BitVec.getLsbD_xor]
theorem lb_2 {l : Nat} (hl : l < 64) (i : Nat) : lb (lN (2 ^ l)) i = decide (l = i) := by
  have := wb_shl 1 (k := l) hl
  rw [Nat.one_mul] at this
  rw [← this]
  exact lb_1 hl i
/-- the least bit -/
theorem low_bit {R : Int64} {l : Nat} (hl : l < 64) (h1 : lb R l = true) (h2 : ∀ i, i < l → lb R i = false) : R &&& (-R) = lN (2 ^ l) := by
  refine lb_ext (fun i => ?_)
  rw [lb_and, lb_2 hl]
  have hn : lb (-R) i = (lb R i ^^ decide (i < 64) && decide (∃ j, j < i ∧ lb R j = true)) := by
    unfold lb
    rw [Int64.toBitVec_neg, BitVec.getLsbD_neg]
  rw [hn]
  by_cases e : l = i
  · subst e
    rw [h1, decide_eq_false (show ¬ ∃ j, j < l ∧ lb R j = true from fun ⟨j, j1, j2⟩ => by rw [h2 j j1] at j2; cases j2), decide_eq_true rfl]
    simp
  · rw [decide_eq_false e]
    by_cases c : i < l
    · rw [h2 i c]
      rfl
    · by_cases c2 : i < 64
      · rw [decide_eq_true c2, decide_eq_true (show ∃ j, j < i ∧ lb R j = true from ⟨l, by omega, h1⟩)]
        cases lb R i <;> rfl
      · rw [lb_ge R (by omega)]
        rfl
theorem pc_one : ∀ l, l < 40 → popc (2 ^ l - 1) 40 = l := by decide +kernel
theorem lb_low {l : Nat} (hl : l < 40) (i : Nat) : lb (lN (2 ^ l - 1)) i = decide (i < l) := by
  by_cases hi : i < 64
  · rw [lb_lN _ hi, ← Nat.testBit_eq_decide_div_mod_eq, Nat.testBit_two_pow_sub_one]
  · rw [lb_ge _ (by omega), decide_eq_false (by omega)]
theorem lb_not (x : Int64) {i : Nat} (hi : i < 64) : lb (x ^^^ (-1)) i = !lb x i := by
  rw [lb_xor, show lb (-1) i = true from by
    unfold lb
    rw [show ((-1 : Int64)).toBitVec = BitVec.allOnes 64 by decide, BitVec.getLsbD_allOnes, decide_eq_true hi]]
  cases lb x i <;> rfl
theorem lN_pow_pred {l : Nat} : lN (2 ^ l) - 1 = lN (2 ^ l - 1) := lN_sub (b := 1) (Nat.two_pow_pos l)
theorem tw_meet {kd fg lo hi jn nr : Nat → Int32} {la : Nat → Int64} {P L T : Nat} (hn : NetI kd fg lo hi jn nr la P L T) {i l x y : Nat} (hi' : i < L) (hx : x < 12) (hy : y < 12) (ex : lo l = nI x) (ey : hi l = nI y) : lb (la x ||| la y) i = true ↔ ¬ tw lo hi l &&& tw lo hi i = 0 := by
  have hL := hn.2.1
  have hla := hn.2.2.2.2.2.2.2.2.2
  obtain ⟨u, v, hu, hv, _, eu, ev⟩ := hn.e12 i hi'
  rw [lb_or, hla x hx, hla y hy, lns_bit lo hi (nI x) L hL i, lns_bit lo hi (nI y) L hL i, Bool.or_eq_true, decide_eq_true_eq, decide_eq_true_eq, eu, ev]
  unfold tw
  rw [ex, ey, eu, ev, ib_eq0]
  have key : ∀ q, ib ((1 <<< (nI x &&& 31) ||| 1 <<< (nI y &&& 31)) &&& (1 <<< (nI u &&& 31) ||| 1 <<< (nI v &&& 31))) q = ((decide (x = q) || decide (y = q)) && (decide (u = q) || decide (v = q))) := by
    intro q
    rw [ib_and, ib_or, ib_or, ib_1 (by omega), ib_1 (by omega), ib_1 (by omega), ib_1 (by omega)]
  have nq : ∀ a b : Nat, a < 12 → b < 12 → (nI a = nI b ↔ a = b) := fun a b ha hb => nI_eq (by omega) (by omega)
  rw [nq u x hu hx, nq v x hv hx, nq u y hu hy, nq v y hv hy]
  constructor
  · intro h q
    have q1 := q u
    have q2 := q v
    rw [key, Bool.and_eq_false_iff, Bool.or_eq_false_iff, Bool.or_eq_false_iff, decide_eq_false_iff_not, decide_eq_false_iff_not, decide_eq_false_iff_not, decide_eq_false_iff_not] at q1 q2
    omega
  · intro h
    apply Classical.byContradiction
    intro q
    apply h
    intro z
    rw [key, Bool.and_eq_false_iff, Bool.or_eq_false_iff, Bool.or_eq_false_iff, decide_eq_false_iff_not, decide_eq_false_iff_not, decide_eq_false_iff_not, decide_eq_false_iff_not]
    omega
theorem q_freeBelow {kd fg lo hi jn nr : Nat → Int32} {la : Nat → Int64} {P L T : Nat} (hn : NetI kd fg lo hi jn nr la P L T) {X : Int64} {b l : Nat} {U : Int32} (hb : b ≤ L) (h : FRL lo hi X b U) (hl : lb X l = true) : ∃ Y, f_X1_freeBelow lo hi la (nI L) X (lN (2 ^ l)) = some Y ∧ FRL lo hi Y l (U ||| tw lo hi l) := by
  have hL := hn.2.1
  obtain ⟨l1, l2⟩ := (h l).mp hl
  have l40 : l < 40 := by omega
  obtain ⟨x, y, hx, hy, _, ex, ey⟩ := hn.e12 l (by omega)
  unfold f_X1_freeBelow
  have e1 : f_J13_bitCount_95d88 (lN (2 ^ l) - 1) = some (nI l) := by
    rw [lN_pow_pred, bc40, pc_one l l40]
    have := wb_lt2 l40
    omega
  rw [e1, bE1, q_hasLine, if_neg (fun q => q.elim (nI_pos (by omega)) (nI_ge (by omega) (by omega))), bE1, if_neg (show ¬ (1 : Int32) = 0 by decide)]
  unfold f_X1_meeting
  simp only [c40 l40, g40 l40, ex, ey, c12 hx, c12 hy, g12 hx, g12 hy, bE1]
  refine ⟨_, rfl, fun i => ?_⟩
  rw [lN_pow_pred, lb_and, lb_and, lb_low l40]
  constructor
  · intro q
    rw [Bool.and_eq_true, Bool.and_eq_true, decide_eq_true_eq] at q
    obtain ⟨⟨q1, q2⟩, q3⟩ := q
    obtain ⟨f1, f2⟩ := (h i).mp q1
    refine ⟨q2, (and_or0 _ _ _).mpr ⟨f2, ?_⟩⟩
    apply Classical.byContradiction
    intro z
    rw [lb_not _ (by omega), (tw_meet hn (i := i) (l := l) (by omega) hx hy ex ey).mpr z] at q3
    cases q3
  · rintro ⟨q1, q2⟩
    obtain ⟨f1, f2⟩ := (and_or0 _ _ _).mp q2
    rw [(h i).mpr ⟨by omega, f1⟩, decide_eq_true q1, lb_not _ (by omega), Bool.eq_false_iff.mpr (fun z => (tw_meet hn (i := i) (l := l) (by omega) hx hy ex ey).mp z f2)]
    rfl
/-- what is left of a row from l on -/
def RST (X R : Int64) (l : Nat) : Prop := ∀ i, lb R i = true ↔ lb X i = true ∧ l ≤ i
theorem rst_step {X R : Int64} {l l' : Nat} (h : RST X R l) (hl : l ≤ l') (h64 : l' < 64) (hb : lb X l' = true) (hno : ∀ i, l ≤ i → i < l' → lb X i = false) : R &&& (-R) = lN (2 ^ l') ∧ RST X (R ^^^ lN (2 ^ l')) (l' + 1) := by
  refine ⟨low_bit h64 ((h l').mpr ⟨hb, hl⟩) (fun i hi' => ?_), fun i => ?_⟩
  · apply Bool.eq_false_iff.mpr
    intro q
    obtain ⟨q1, q2⟩ := (h i).mp q
    rw [hno i q2 hi'] at q1
    cases q1
  · rw [lb_xor, lb_2 h64]
    by_cases e : l' = i
    · subst e
      rw [(h l').mpr ⟨hb, hl⟩, decide_eq_true rfl]
      exact ⟨fun q => absurd q (by decide), fun q => absurd q.2 (by omega)⟩
    · rw [decide_eq_false e, Bool.xor_false, h i]
      constructor
      · rintro ⟨q1, q2⟩
        refine ⟨q1, ?_⟩
        apply Classical.byContradiction
        intro z
        rw [hno i q2 (by omega)] at q1
        cases q1
      · rintro ⟨q1, q2⟩
        exact ⟨q1, by omega⟩
def PinOk (lo hi : Nat → Int32) (la : Nat → Int64) (L n : Nat) : Prop := ∀ (s b : Nat) (U : Int32) (X : Int64), s < n → s < 2 ^ 20 → b ≤ L → FRL lo hi X b U → f_X1_pairingsIn n lo hi la (nI L) X (nI s) = some (lN (Nn lo hi s b U))
theorem pin_loop {kd fg lo hi jn nr : Nat → Int32} {la : Nat → Int64} {P L T : Nat} (hn : NetI kd fg lo hi jn nr la P L T) {n : Nat} (ih : PinOk lo hi la L n) {s b : Nat} {U : Int32} {X : Int64} (hs : s < n) (hs2 : s < 2 ^ 20) (hb : b ≤ L) (h : FRL lo hi X b U) : ∀ (m l : Nat) (R : Int64), l ≤ b → pcb X b - pcb X l < m → RST X R l → f_X1_pairingsIn_b44 (f_X1_pairingsIn n) lo hi la (nI L) X (nI (s + 1)) m (nI (pcb X b)) (lN (sm (gN2 lo hi s U) l)) R (nI (pcb X l)) = some (lN (Nn lo hi (s + 1) b U)) := by
  have hL := hn.2.1
  have hpb := pcb_le X b
  intro m
  induction m with
  | zero => intro l R _ h; omega
  | succ m ihm =>
    intro l R hl hm hR
    show f_X1_pairingsIn_s44 (f_X1_pairingsIn n) lo hi la (nI L) X (nI (s + 1)) (f_X1_pairingsIn_b44 (f_X1_pairingsIn n) lo hi la (nI L) X (nI (s + 1)) m) (nI (pcb X b)) (lN (sm (gN2 lo hi s U) l)) R (nI (pcb X l)) = _
    unfold f_X1_pairingsIn_s44
    have hmo := pcb_mono X (b - l) l
    rw [show l + (b - l) = b by omega] at hmo
    by_cases c : pcb X b ≤ pcb X l
    · rw [if_pos (nI_le c (by omega)), Nn_s, h.none hl (Nat.le_refl _)]
      intro i h1 h2
      apply Bool.eq_false_iff.mpr
      intro q
      have m1 := pcb_mono X (i - l) l
      rw [show l + (i - l) = i by omega] at m1
      have m2 := pcb_mono X (b - (i + 1)) (i + 1)
      rw [show i + 1 + (b - (i + 1)) = b by omega, pcb_s, if_pos q] at m2
      omega
    · obtain ⟨l', a1, a2, a3, a4⟩ := pcb_more (X := X) hl (by omega)
      obtain ⟨r1, r2⟩ := rst_step hR a1 (by omega) a3 a4
      obtain ⟨Y, y1, y2⟩ := q_freeBelow hn hb h a3
      rw [if_neg (nI_ge (by omega) (by omega)), r1, nmE, nmE, y1, bE1, nI_pred, ih s l' _ Y hs hs2 (by omega) y2, bE1, nmE, nmE, lN_add, nI_1]
      have e1 : pcb X l + 1 = pcb X (l' + 1) := by rw [pcb_s, if_pos a3, pcb_skip l' a1 a4]
      have e2 : sm (gN2 lo hi s U) l + Nn lo hi s l' (U ||| tw lo hi l') = sm (gN2 lo hi s U) (l' + 1) := by
        rw [sm_s, h.none a1 (by omega) a4]
        unfold gN2
        rw [if_pos ((h l').mp a3).2]
      rw [e1, e2]
      exact ihm (l' + 1) _ (by omega) (by omega) r2
theorem pin_ok {kd fg lo hi jn nr : Nat → Int32} {la : Nat → Int64} {P L T : Nat} (hn : NetI kd fg lo hi jn nr la P L T) : ∀ n, PinOk lo hi la L n := by
  have hL := hn.2.1
  intro n
  induction n with
  | zero => intro s b U X h; omega
  | succ n ih =>
    intro s b U X hs hs2 hb h
    show f_X1_pairingsIn_st (f_X1_pairingsIn n) lo hi la (nI L) X (nI s) = _
    unfold f_X1_pairingsIn_st
    have hpb := pcb_le X b
    rw [bc_ok (fun i q => by have := ((h i).mp q).1; omega), bE1, h.all (by omega)]
    cases s with
    | zero =>
      rw [if_pos (show nI 0 ≤ 0 by decide), if_pos (show nI 0 = 0 from rfl)]
      rfl
    | succ s =>
      rw [if_neg (show ¬ nI (s + 1) ≤ 0 from nI_ge (a := 0) (by omega) (by omega))]
      by_cases c : s + 1 ≤ pcb X b
      · rw [if_pos (nI_le c (by omega))]
        by_cases c1 : s = 0
        · subst c1
          rw [if_pos (show nI (0 + 1) = 1 from rfl), nI_64 (by omega), ← h.sum b (Nat.le_refl _)]
          rfl
        · rw [if_neg (show ¬ nI (s + 1) = 1 from nI_ne (b := 1) (by omega) (by decide) (by omega))]
          have := pin_loop hn ih (s := s) (by omega) (by omega) hb h 70 0 X (by omega) (by omega) (fun i => ⟨fun q => ⟨q, Nat.zero_le _⟩, fun q => q.1⟩)
          exact this
      · rw [if_neg (nI_ge (by omega) (by omega)), if_neg (show ¬ nI (s + 1) = 0 from nI_s0 s (by omega)), Nn_few lo hi (s + 1) b U (by rw [h.sum b (Nat.le_refl _)]; omega)]
        rfl
