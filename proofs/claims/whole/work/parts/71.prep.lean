/-! pure rows: the table prepared -/
theorem prep_in {kd fg lo hi jn nr : Nat → Int32} {la : Nat → Int64} {P L T : Nat} (hn : NetI kd fg lo hi jn nr la P L T) (ag p2 : Int32) {a : Nat} (ha : a < 12) (tn : Nat → Int32) (s1 s2 s3 : Int32) (k52 : (Nat → Int32) → (Nat → Int32) → Int32 → Int32 → Int32 → Int32 → Option ((Nat → Int32) × (Nat → Int32) × Int32 × Int32 × Int32)) : ∀ (m b : Nat) (wt : Nat → Int32), b ≤ 12 → 12 - b < m → ∃ wt', f_X4_prepare_b99 kd fg jn nr (nI P) (nI T) ag p2 k52 m tn wt s1 s2 s3 (nI a) (nI b) = k52 tn wt' s1 s2 s3 (nI (a + 1)) ∧ (∀ c, b ≤ c → c < 12 → wt' (a * 12 + c) = if p2 = 0 then wB kd fg lo hi T L a c else 1) ∧ ∀ i, (i < a * 12 + b ∨ a * 12 + 12 ≤ i) → wt' i = wt i := by
  intro m
  induction m with
  | zero => intro b wt _ h; omega
  | succ m ih =>
    intro b wt hb hm
    show ∃ wt', f_X4_prepare_s99 kd fg jn nr (nI P) (nI T) ag p2 k52 (f_X4_prepare_b99 kd fg jn nr (nI P) (nI T) ag p2 k52 m) tn wt s1 s2 s3 (nI a) (nI b) = _ ∧ _
    unfold f_X4_prepare_s99
    by_cases h : 12 ≤ b
    · have e : b = 12 := by omega
      subst e
      rw [if_pos (show (12 : Int32) ≤ nI 12 by decide), nmE, nI_1]
      exact ⟨wt, rfl, fun c h1 h2 => by omega, fun _ _ => rfl⟩
    · have a1 : a * 12 + b < 144 := by omega
      have go : ∀ w, w = (if p2 = 0 then wB kd fg lo hi T L a b else 1) → ∃ wt', f_X4_prepare_b99 kd fg jn nr (nI P) (nI T) ag p2 k52 m tn (upd wt (a * 12 + b) w) s1 s2 s3 (nI a) (nI (b + 1)) = k52 tn wt' s1 s2 s3 (nI (a + 1)) ∧ (∀ c, b ≤ c → c < 12 → wt' (a * 12 + c) = if p2 = 0 then wB kd fg lo hi T L a c else 1) ∧ ∀ i, (i < a * 12 + b ∨ a * 12 + 12 ≤ i) → wt' i = wt i := by
        intro w hw
        obtain ⟨wt', t1, t2, t3⟩ := ih (b + 1) (upd wt (a * 12 + b) w) (by omega) (by omega)
        refine ⟨wt', t1, fun c h1 h2 => ?_, fun i hi => ?_⟩
        · by_cases e : c = b
          · subst e
            rw [t3 _ (by omega), pk_us]
            exact hw
          · exact t2 c (by omega) h2
        · rw [t3 i (by omega), pk_un (by omega)]
      rw [if_neg (show ¬ (12 : Int32) ≤ nI b from nI_ge (a := b) (b := 12) (by omega) (by decide)), mul12]
      by_cases h0 : p2 = 0
      · rw [if_pos h0, q_weightBetween hn ha (by omega), bE1, gN a1 (by decide), nmE, nmE, c144 a1, nI_1]
        exact go _ (by rw [if_pos h0])
      · rw [if_neg h0, gN a1 (by decide), nmE, nmE, c144 a1, nI_1]
        exact go _ (by rw [if_neg h0])
def nV (nr : Nat → Int32) (P : Nat) (p2 : Int32) (x : Nat) : Int32 := if p2 = 0 then nr x else ((((1 : Int32) <<< (nI P &&& 31)) - (1 : Int32)) &&& (nr x ^^^ (-1 : Int32))) &&& (((1 : Int32) <<< (nI x &&& 31)) ^^^ (-1 : Int32))
theorem prep_out {kd fg lo hi jn nr : Nat → Int32} {la : Nat → Int64} {P L T : Nat} (hn : NetI kd fg lo hi jn nr la P L T) (ag p2 s1 s2 s3 : Int32) : ∀ (m a : Nat) (tn wt : Nat → Int32), a ≤ 12 → 12 - a < m → ∃ tn' wt', f_X4_prepare_b52 kd fg jn nr (nI P) (nI T) ag p2 m tn wt s1 s2 s3 (nI a) = some (tn', wt', s1, s2, s3) ∧ (∀ x, a ≤ x → x < 12 → tn' x = nV nr P p2 x) ∧ (∀ x, x < a → tn' x = tn x) ∧ (∀ x c, a ≤ x → x < 12 → c < 12 → wt' (x * 12 + c) = if p2 = 0 then wB kd fg lo hi T L x c else 1) ∧ ∀ i, i < a * 12 → wt' i = wt i := by
  intro m
  induction m with
  | zero => intro a tn wt _ h; omega
  | succ m ih =>
    intro a tn wt ha hm
    show ∃ tn' wt', f_X4_prepare_s52 kd fg jn nr (nI P) (nI T) ag p2 (f_X4_prepare_b52 kd fg jn nr (nI P) (nI T) ag p2 m) tn wt s1 s2 s3 (nI a) = _ ∧ _
    unfold f_X4_prepare_s52
    by_cases h : 12 ≤ a
    · have e : a = 12 := by omega
      subst e
      rw [if_pos (show (12 : Int32) ≤ nI 12 by decide)]
      exact ⟨tn, wt, rfl, fun x h1 h2 => by omega, fun _ _ => rfl, fun x c h1 h2 => by omega, fun _ _ => rfl⟩
    · have a12 : a < 12 := by omega
      have go : ∀ v, v = nV nr P p2 a → ∃ tn' wt', f_X4_prepare_b99 kd fg jn nr (nI P) (nI T) ag p2 (f_X4_prepare_b52 kd fg jn nr (nI P) (nI T) ag p2 m) 70 (upd tn a v) wt s1 s2 s3 (nI a) 0 = some (tn', wt', s1, s2, s3) ∧ (∀ x, a ≤ x → x < 12 → tn' x = nV nr P p2 x) ∧ (∀ x, x < a → tn' x = tn x) ∧ (∀ x c, a ≤ x → x < 12 → c < 12 → wt' (x * 12 + c) = if p2 = 0 then wB kd fg lo hi T L x c else 1) ∧ ∀ i, i < a * 12 → wt' i = wt i := by
        intro v hv
        obtain ⟨wt1, t1, t2, t3⟩ := prep_in hn ag p2 a12 (upd tn a v) s1 s2 s3 (f_X4_prepare_b52 kd fg jn nr (nI P) (nI T) ag p2 m) 70 0 wt (by omega) (by omega)
        rw [nI_0] at t1
        rw [t1]
        obtain ⟨tn', wt', u1, u2, u3, u4, u5⟩ := ih (a + 1) (upd tn a v) wt1 (by omega) (by omega)
        refine ⟨tn', wt', u1, fun x h1 h2 => ?_, fun x hx => ?_, fun x c h1 h2 h3 => ?_, fun i hi => ?_⟩
        · by_cases e : x = a
          · subst e
            rw [u3 x (by omega), pk_us]
            exact hv
          · exact u2 x (by omega) h2
        · rw [u3 x (by omega), pk_un (by omega)]
        · by_cases e : x = a
          · subst e
            rw [u5 _ (by omega)]
            exact t2 c (by omega) h3
          · exact u4 x c (by omega) h2 h3
        · rw [u5 i (by omega), t3 i (by omega)]
      rw [if_neg (show ¬ (12 : Int32) ≤ nI a from nI_ge (a := a) (b := 12) (by omega) (by decide))]
      by_cases h0 : p2 = 0
      · rw [if_pos h0, gN a12 (by decide), gN a12 (by decide), nmE, c12 a12]
        exact go _ (by unfold nV; rw [if_pos h0])
      · rw [if_neg h0]
        unfold f_X1_allPoints
        rw [bE1, gN a12 (by decide), gN a12 (by decide), nmE, c12 a12]
        exact go _ (by unfold nV; rw [if_neg h0])
/-- the table and the net it was made of: E1, E2 are the net's LINES as it is and turned -/
def TabI (E1 E2 : Nat → Nat → Int32) (P N B : Nat) (wo : Nat → Int64) (lg se st nr wt : Nat → Int32) (S ag tu : Int32) : Prop :=
  ∃ Sn : Nat, S = nI Sn ∧ Sn ≤ B ∧ (∀ t, t < 515 → ∃ z, z ≤ Sn ∧ st t = nI z) ∧ (∀ k, 1 ≤ k → k < 7 → wo (21 + k) = 0) ∧ lg 3 = 0 ∧ (tu = 0 ∨ tu = 1) ∧ (0 < Sn → FI (Et nr wt) S 0 wo lg se st ∧ (∀ i, i < 144 → ¬ wt i < 0) ∧ ∃ A : Nat, ag = nI A ∧ A ≤ N ∧ (A = N → (tu = 0 → ∀ p q, p < q → q < 12 → Et nr wt p q = E1 p q) ∧ (tu = 1 → ∀ p q, p < q → q < P → Et nr wt p q = E2 p q)))
theorem TabI.older {E1 E2 E1' E2' : Nat → Nat → Int32} {P P' N N' B B' : Nat} {wo : Nat → Int64} {lg se st nr wt : Nat → Int32} {S ag tu : Int32} (h : TabI E1 E2 P N B wo lg se st nr wt S ag tu) (hN : N < N') (hB : B ≤ B') : TabI E1' E2' P' N' B' wo lg se st nr wt S ag tu := by
  obtain ⟨Sn, h1, h2, h3, h4, h5, h6, h7⟩ := h
  refine ⟨Sn, h1, by omega, h3, h4, h5, h6, fun z => ?_⟩
  obtain ⟨q1, q2, A, q3, q4, q5⟩ := h7 z
  exact ⟨q1, q2, A, q3, by omega, fun e => by omega⟩
theorem TabI.more {E1 E2 : Nat → Nat → Int32} {P N B B' : Nat} {wo : Nat → Int64} {lg se st nr wt : Nat → Int32} {S ag tu : Int32} (h : TabI E1 E2 P N B wo lg se st nr wt S ag tu) (hB : B ≤ B') : TabI E1 E2 P N B' wo lg se st nr wt S ag tu := by
  obtain ⟨Sn, h1, h2, h3⟩ := h
  exact ⟨Sn, h1, by omega, h3⟩
/-- prepared for the net as it is (p2 = 0) or turned (p2 = 1) -/
def PrepI (E : Nat → Nat → Int32) (Q N B : Nat) (wo : Nat → Int64) (lg se st nr wt : Nat → Int32) (S ag : Int32) : Prop :=
  ∃ Sn : Nat, S = nI Sn ∧ 0 < Sn ∧ Sn ≤ B ∧ (∀ t, t < 515 → ∃ z, z ≤ Sn ∧ st t = nI z) ∧ FI (Et nr wt) S 0 wo lg se st ∧ (∀ i, i < 144 → ¬ wt i < 0) ∧ ag = nI N ∧ ∀ p q, p < q → q < Q → Et nr wt p q = E p q
theorem Et_net {kd fg lo hi jn nr : Nat → Int32} {la : Nat → Int64} {P L T : Nat} (hn : NetI kd fg lo hi jn nr la P L T) {tn wt : Nat → Int32} (h1 : ∀ x, x < 12 → tn x = nV nr P 0 x) (h2 : ∀ x c, x < 12 → c < 12 → wt (x * 12 + c) = if (0 : Int32) = 0 then wB kd fg lo hi T L x c else 1) : ∀ p q, p < q → q < 12 → Et tn wt p q = En kd fg lo hi T L p q := by
  intro p q hpq hq
  have hL := hn.2.1
  unfold Et En
  have e : tn p = nrs lo hi (nI p) L := by
    rw [h1 p (by omega)]
    unfold nV
    rw [if_pos rfl]
    exact hn.2.2.2.2.2.2.2.2.1 p (by omega)
  rw [e, h2 p q (by omega) hq, if_pos rfl]
  have k := nrs_lnk (lo := lo) (hi := hi) (p := p) (q := q) (by omega) hq hL hn.e12
  by_cases z : lnk lo hi (nI p) (nI q) L = 0
  · rw [if_neg (fun y => (k.mp y) z), if_pos z]
  · rw [if_pos (k.mpr z), if_neg z]
    unfold wB
    rw [if_neg z]
theorem all_bit : ∀ P, P < 13 → ∀ q, q < 12 → ib (((1 : Int32) <<< (nI P &&& 31)) - (1 : Int32)) q = decide (q < P) := by decide +kernel
theorem Et_turned {kd fg lo hi jn nr : Nat → Int32} {la : Nat → Int64} {P L T : Nat} (hn : NetI kd fg lo hi jn nr la P L T) {tn wt : Nat → Int32} (h1 : ∀ x, x < 12 → tn x = nV nr P 1 x) (h2 : ∀ x c, x < 12 → c < 12 → wt (x * 12 + c) = if (1 : Int32) = 0 then wB kd fg lo hi T L x c else 1) : ∀ p q, p < q → q < P → Et tn wt p q = Eo lo hi L p q := by
  intro p q hpq hq
  have hL := hn.2.1
  have hP := hn.1
  unfold Et Eo
  have e : ib (tn p) q = true ↔ lnk lo hi (nI p) (nI q) L = 0 := by
    rw [h1 p (by omega)]
    unfold nV
    rw [if_neg (show ¬ (1 : Int32) = 0 by decide), ib_and, ib_and, ib_not, ib_not, ib_1 (by omega), all_bit P (by omega) q (by omega), hn.2.2.2.2.2.2.2.2.1 p (by omega)]
    have k := nrs_lnk (lo := lo) (hi := hi) (p := p) (q := q) (by omega) (by omega) hL hn.e12
    have h32 : q < 32 := by omega
    have hne : ¬ p = q := by omega
    by_cases z : lnk lo hi (nI p) (nI q) L = 0
    · have : ib (nrs lo hi (nI p) L) q = false := by
        cases y : ib (nrs lo hi (nI p) L) q
        · rfl
        · exact absurd z (k.mp y)
      simp [z, this, h32, hne, hq]
    · rw [k.mpr z]
      simp [z]
  rw [h2 p q (by omega) (by omega), if_neg (show ¬ (1 : Int32) = 0 by decide)]
  by_cases z : lnk lo hi (nI p) (nI q) L = 0
  · rw [if_pos (e.mpr z), if_pos z]
  · rw [if_neg (fun y => z (e.mp y)), if_neg z]
theorem prep_new {kd fg lo hi jn nr : Nat → Int32} {la : Nat → Int64} {P L T : Nat} (hn : NetI kd fg lo hi jn nr la P L T) {N B Sn : Nat} (hB : B < 2 ^ 30) {wo : Nat → Int64} {lg se st tn wt : Nat → Int32} (s2 s3 : Int32) (h2 : Sn ≤ B) (h3 : ∀ t, t < 515 → ∃ z, z ≤ Sn ∧ st t = nI z) (h4 : ∀ k, 1 ≤ k → k < 7 → wo (21 + k) = 0) (h5 : lg 3 = 0) {p2 : Int32} (hp : p2 = 0 ∨ p2 = 1) : ∃ tn' wt' S', f_X4_prepare_b27 kd fg jn nr (nI P) (nI T) (nI N) p2 tn wt (nI Sn) s2 s3 = some (tn', wt', S', nI N, p2) ∧ (p2 = 0 → PrepI (En kd fg lo hi T L) 12 N (B + 1) wo lg se st tn' wt' S' (nI N)) ∧ (p2 = 1 → PrepI (Eo lo hi L) P N (B + 1) wo lg se st tn' wt' S' (nI N)) := by
  unfold f_X4_prepare_b27
  rw [nmE, if_pos hp, nI_1]
  obtain ⟨tn', wt', u1, u2, u3, u4, u5⟩ := prep_out hn (nI N) p2 (nI (Sn + 1)) (nI N) p2 70 0 tn wt (by omega) (by omega)
  rw [nI_0] at u1
  refine ⟨tn', wt', nI (Sn + 1), u1, ?_⟩
  have hst : ∀ t, t < 515 → ∃ z, z ≤ Sn + 1 ∧ st t = nI z := fun t ht => by
    obtain ⟨z, q1, q2⟩ := h3 t ht
    exact ⟨z, by omega, q2⟩
  have hF : FI (Et tn' wt') (nI (Sn + 1)) 0 wo lg se st := ⟨fun u hu _ e _ => by
    obtain ⟨z, q1, q2⟩ := h3 (pl u) (pl_lt hu)
    rw [q2] at e
    have := nI_inj (by omega) (by omega) e
    omega, h4, h5⟩
  have hw : ∀ i, i < 144 → ¬ wt' i < 0 := by
    intro i hi'
    have e := u4 (i / 12) (i % 12) (by omega) (by omega) (by omega)
    rw [show i / 12 * 12 + i % 12 = i by omega] at e
    rw [e]
    by_cases z : p2 = 0
    · rw [if_pos z]
      obtain ⟨j, hj, e2⟩ := wB_nn hn (i / 12) (i % 12)
      rw [e2]
      exact nI_pos (by omega)
    · rw [if_neg z]
      decide
  constructor
  · intro e
    subst e
    exact ⟨Sn + 1, rfl, by omega, by omega, hst, hF, hw, rfl, Et_net hn (fun x hx => u2 x (by omega) hx) (fun x c hx hc => u4 x c (by omega) hx hc)⟩
  · intro e
    subst e
    exact ⟨Sn + 1, rfl, by omega, by omega, hst, hF, hw, rfl, Et_turned hn (fun x hx => u2 x (by omega) hx) (fun x c hx hc => u4 x c (by omega) hx hc)⟩
theorem q_prepare {kd fg lo hi jn nr : Nat → Int32} {la : Nat → Int64} {P L T : Nat} (hn : NetI kd fg lo hi jn nr la P L T) {N B : Nat} (hB : B < 2 ^ 30) (hN : N < 2 ^ 30) {wo : Nat → Int64} {lg se st tn wt : Nat → Int32} {S ag tu : Int32} (ht : TabI (En kd fg lo hi T L) (Eo lo hi L) P N B wo lg se st tn wt S ag tu) {p2 : Int32} (hp : p2 = 0 ∨ p2 = 1) : ∃ tn' wt' S', f_X4_prepare kd fg jn nr (nI P) (nI T) (nI N) tn wt S ag tu p2 = some (tn', wt', S', nI N, p2) ∧ (p2 = 0 → PrepI (En kd fg lo hi T L) 12 N (B + 1) wo lg se st tn' wt' S' (nI N)) ∧ (p2 = 1 → PrepI (Eo lo hi L) P N (B + 1) wo lg se st tn' wt' S' (nI N)) := by
  obtain ⟨Sn, rfl, h2, h3, h4, h5, h6, h7⟩ := ht
  have nw := fun s2 s3 => prep_new (se := se) (tn := tn) (wt := wt) hn (N := N) hB s2 s3 h2 h3 h4 h5 hp
  unfold f_X4_prepare
  by_cases z0 : nI Sn ≤ 0
  · rw [if_pos z0]
    exact nw ag tu
  · have hS : 0 < Sn := by
      rcases Nat.eq_zero_or_pos Sn with y | y
      · subst y
        exact absurd (by decide) z0
      · exact y
    obtain ⟨q1, q2, A, q3, q4, q5⟩ := h7 hS
    rw [if_neg z0]
    by_cases z1 : ag = nI N
    · rw [if_pos z1]
      by_cases z2 : tu = p2
      · rw [if_pos z2]
        have hA : A = N := nI_inj (by omega) (by omega) (q3.symm.trans z1)
        obtain ⟨y1, y2⟩ := q5 hA
        subst z2
        subst z1
        refine ⟨tn, wt, nI Sn, rfl, fun e => ?_, fun e => ?_⟩
        · exact ⟨Sn, rfl, hS, by omega, h3, q1, q2, rfl, y1 e⟩
        · exact ⟨Sn, rfl, hS, by omega, h3, q1, q2, rfl, y2 e⟩
      · rw [if_neg z2]
        exact nw ag tu
    · rw [if_neg z1]
      exact nw ag tu
