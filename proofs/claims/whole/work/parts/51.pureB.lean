/-! pure rows: the net's links -/
theorem gC {α : Type} {n N : Nat} (h : n < N) (hN : N < 2 ^ 31) {x : Option α} : (if nI n < 0 ∨ N ≤ n then none else x) = x := if_neg (fun q => q.elim (nI_pos (by omega)) (by omega))
theorem g40 {α : Type} {n : Nat} (h : n < 40) {x : Option α} : (if nI n < 0 ∨ 40 ≤ n then none else x) = x := gC h (by decide)
theorem g12 {α : Type} {n : Nat} (h : n < 12) {x : Option α} : (if nI n < 0 ∨ 12 ≤ n then none else x) = x := gC h (by decide)
theorem g144 {α : Type} {n : Nat} (h : n < 144) {x : Option α} : (if nI n < 0 ∨ 144 ≤ n then none else x) = x := gC h (by decide)
theorem mul12 (a b : Nat) : nI a * 12 + nI b = nI (a * 12 + b) := by
  rw [show (12 : Int32) = nI 12 from rfl, pk_mul, nI_add]
theorem c40 {n : Nat} (h : n < 40) : (nI n).toNatClampNeg = n := nI_clamp (by omega)
theorem c12 {n : Nat} (h : n < 12) : (nI n).toNatClampNeg = n := nI_clamp (by omega)
theorem c144 {n : Nat} (h : n < 144) : (nI n).toNatClampNeg = n := nI_clamp (by omega)
theorem fillI (n : Nat) (hn : n < 2 ^ 31) (v : Int32) : ∀ (m i : Nat) (a : Nat → Int32), i ≤ n → n - i < m → ∃ g, f_J7_fill_53178_b5 n v m a (nI i) (nI n) = some g ∧ ∀ j, g j = if i ≤ j ∧ j < n then v else a j := by
  intro m
  induction m with
  | zero =>
    intro i a _ h
    omega
  | succ m ih =>
    intro i a hi hm
    show ∃ g, f_J7_fill_53178_s5 n v (f_J7_fill_53178_b5 n v m) a (nI i) (nI n) = some g ∧ _
    unfold f_J7_fill_53178_s5
    by_cases h : n ≤ i
    · have e : i = n := by omega
      subst e
      rw [if_pos (nI_le (Nat.le_refl i) hn)]
      exact ⟨a, rfl, fun j => by rw [if_neg (by omega)]⟩
    · rw [if_neg (nI_ge (by omega) hn), gN (by omega) hn]
      show ∃ g, f_J7_fill_53178_b5 n v m (upd a (nI i).toNatClampNeg v) (nI i + 1) (nI n) = some g ∧ _
      rw [nI_clamp (by omega), nI_1]
      obtain ⟨g, h1, h2⟩ := ih (i + 1) (upd a i v) (by omega) (by omega)
      refine ⟨g, h1, fun j => ?_⟩
      rw [h2 j]
      by_cases hj : j = i
      · subst hj
        rw [if_neg (by omega), if_pos (by omega), pk_us]
      · by_cases hk : i + 1 ≤ j ∧ j < n
        · rw [if_pos hk, if_pos (by omega)]
        · rw [if_neg hk, if_neg (by omega), pk_un hj]
theorem q_fillI (a : Nat → Int32) {n : Nat} (hn : n < 150) (v : Int32) : ∃ g, f_J7_fill_53178 a n v = some g ∧ ∀ j, g j = if j < n then v else a j := by
  obtain ⟨g, h1, h2⟩ := fillI n (by omega) v 150 0 a (by omega) (by omega)
  refine ⟨g, h1, fun j => ?_⟩
  rw [h2 j]
  simp
theorem fillL (n : Nat) (hn : n < 2 ^ 31) (v : Int64) : ∀ (m i : Nat) (a : Nat → Int64), i ≤ n → n - i < m → ∃ g, f_J7_fill_d0a16_b6 n v m a (nI i) (nI n) = some g ∧ ∀ j, g j = if i ≤ j ∧ j < n then v else a j := by
  intro m
  induction m with
  | zero =>
    intro i a _ h
    omega
  | succ m ih =>
    intro i a hi hm
    show ∃ g, f_J7_fill_d0a16_s6 n v (f_J7_fill_d0a16_b6 n v m) a (nI i) (nI n) = some g ∧ _
    unfold f_J7_fill_d0a16_s6
    by_cases h : n ≤ i
    · have e : i = n := by omega
      subst e
      rw [if_pos (nI_le (Nat.le_refl i) hn)]
      exact ⟨a, rfl, fun j => by rw [if_neg (by omega)]⟩
    · rw [if_neg (nI_ge (by omega) hn), gN (by omega) hn]
      show ∃ g, f_J7_fill_d0a16_b6 n v m (vp_updL a (nI i).toNatClampNeg v) (nI i + 1) (nI n) = some g ∧ _
      rw [nI_clamp (by omega), nI_1]
      obtain ⟨g, h1, h2⟩ := ih (i + 1) (vp_updL a i v) (by omega) (by omega)
      refine ⟨g, h1, fun j => ?_⟩
      rw [h2 j]
      by_cases hj : j = i
      · subst hj
        rw [if_neg (by omega), if_pos (by omega), pk_uLs]
      · by_cases hk : i + 1 ≤ j ∧ j < n
        · rw [if_pos hk, if_pos (by omega)]
        · rw [if_neg hk, if_neg (by omega), pk_uLn hj]
theorem q_fillL (a : Nat → Int64) {n : Nat} (hn : n < 150) (v : Int64) : ∃ g, f_J7_fill_d0a16 a n v = some g ∧ ∀ j, g j = if j < n then v else a j := by
  obtain ⟨g, h1, h2⟩ := fillL n (by omega) v 150 0 a (by omega) (by omega)
  refine ⟨g, h1, fun j => ?_⟩
  rw [h2 j]
  simp
/-- the number, and one more, of the last of the first n LINES that two POINTS have -/
def lnk (lo hi : Nat → Int32) (a b : Int32) : Nat → Int32
  | 0 => 0
  | n + 1 => if (lo n = a ∧ hi n = b) ∨ (lo n = b ∧ hi n = a) then nI (n + 1) else lnk lo hi a b n
/-- POINTS that have one of the first n LINES with p -/
def nrs (lo hi : Nat → Int32) (p : Int32) : Nat → Int32
  | 0 => 0
  | n + 1 => if lo n = p then nrs lo hi p n ||| (1 <<< (hi n &&& 31)) else if hi n = p then nrs lo hi p n ||| (1 <<< (lo n &&& 31)) else nrs lo hi p n
/-- which of the first n LINES p has -/
def lns (lo hi : Nat → Int32) (p : Int32) : Nat → Int64
  | 0 => 0
  | n + 1 => if lo n = p ∨ hi n = p then lns lo hi p n ||| (1 <<< ((nI n).toInt64 &&& 63)) else lns lo hi p n
/-- ends of LINES: two different ones of twelve -/
def ends12 (lo hi : Nat → Int32) (n : Nat) : Prop := ∀ i, i < n → ∃ a b : Nat, a < 12 ∧ b < 12 ∧ a ≠ b ∧ lo i = nI a ∧ hi i = nI b
/-- what joins, nears and linesAt hold behind the first n LINES -/
def linked (lo hi jn nr : Nat → Int32) (la : Nat → Int64) (n : Nat) : Prop :=
  (∀ a b, a < 12 → b < 12 → jn (a * 12 + b) = lnk lo hi (nI a) (nI b) n) ∧ (∀ a, a < 12 → nr a = nrs lo hi (nI a) n) ∧ ∀ a, a < 12 → la a = lns lo hi (nI a) n
theorem nI_inj {a b : Nat} (ha : a < 2 ^ 31) (hb : b < 2 ^ 31) (h : nI a = nI b) : a = b := (nI_eq ha hb).mp h
theorem nI_ne {a b : Nat} (ha : a < 2 ^ 31) (hb : b < 2 ^ 31) (h : a ≠ b) : ¬ nI a = nI b := fun e => h ((nI_eq ha hb).mp e)
theorem q_linkOne {lo hi jn nr : Nat → Int32} {la : Nat → Int64} {n a b : Nat} (hn : n < 40) (ha : a < 12) (hb : b < 12) (hl : lo n = nI a) (hh : hi n = nI b) :
    f_X1_linkOne lo hi jn nr la (nI n) = some (upd (upd jn (a * 12 + b) (nI (n + 1))) (b * 12 + a) (nI (n + 1)), upd (upd nr a (nr a ||| (1 <<< (nI b &&& 31)))) b (upd nr a (nr a ||| (1 <<< (nI b &&& 31))) b ||| (1 <<< (nI a &&& 31))), vp_updL (vp_updL la a (la a ||| (1 <<< ((nI n).toInt64 &&& 63)))) b (vp_updL la a (la a ||| (1 <<< ((nI n).toInt64 &&& 63))) b ||| (1 <<< ((nI n).toInt64 &&& 63)))) := by
  have h1 : a * 12 + b < 144 := by omega
  have h2 : b * 12 + a < 144 := by omega
  simp only [f_X1_linkOne, nm, g40 hn, c40 hn, hl, hh, mul12, g144 h1, g144 h2, c144 h1, c144 h2, g12 ha, g12 hb, c12 ha, c12 hb, nI_1]
theorem linked_step {lo hi jn nr jn' nr' : Nat → Int32} {la la' : Nat → Int64} {n : Nat} (h : linked lo hi jn nr la n) (hn : n < 40) (he : ends12 lo hi (n + 1)) (hq : f_X1_linkOne lo hi jn nr la (nI n) = some (jn', nr', la')) : linked lo hi jn' nr' la' (n + 1) := by
  obtain ⟨a, b, ha, hb, hab, hl, hh⟩ := he n (by omega)
  rw [q_linkOne hn ha hb hl hh] at hq
  obtain ⟨e1, e2, e3⟩ := rt3 hq
  subst e1
  subst e2
  subst e3
  refine ⟨fun x y hx hy => ?_, fun x hx => ?_, fun x hx => ?_⟩
  · show _ = if (lo n = nI x ∧ hi n = nI y) ∨ (lo n = nI y ∧ hi n = nI x) then nI (n + 1) else lnk lo hi (nI x) (nI y) n
    rw [hl, hh]
    by_cases h1 : x = b ∧ y = a
    · obtain ⟨rfl, rfl⟩ := h1
      rw [pk_us, if_pos (Or.inr ⟨rfl, rfl⟩)]
    · rw [pk_un (by omega)]
      by_cases h2 : x = a ∧ y = b
      · obtain ⟨rfl, rfl⟩ := h2
        rw [pk_us, if_pos (Or.inl ⟨rfl, rfl⟩)]
      · rw [pk_un (by omega), if_neg, h.1 x y hx hy]
        rintro (⟨q1, q2⟩ | ⟨q1, q2⟩)
        · exact h2 ⟨(nI_inj (by omega) (by omega) q1).symm, (nI_inj (by omega) (by omega) q2).symm⟩
        · exact h1 ⟨(nI_inj (by omega) (by omega) q2).symm, (nI_inj (by omega) (by omega) q1).symm⟩
  · show _ = if lo n = nI x then nrs lo hi (nI x) n ||| (1 <<< (hi n &&& 31)) else if hi n = nI x then nrs lo hi (nI x) n ||| (1 <<< (lo n &&& 31)) else nrs lo hi (nI x) n
    rw [hl, hh]
    by_cases h1 : x = b
    · subst h1
      rw [pk_us, pk_un (by omega), if_neg (nI_ne (by omega) (by omega) hab), if_pos rfl, h.2.1 x hx]
    · rw [pk_un h1]
      by_cases h2 : x = a
      · subst h2
        rw [pk_us, if_pos rfl, h.2.1 x hx]
      · rw [pk_un h2, if_neg (nI_ne (by omega) (by omega) (Ne.symm h2)), if_neg (nI_ne (by omega) (by omega) (Ne.symm h1)), h.2.1 x hx]
  · show _ = if lo n = nI x ∨ hi n = nI x then lns lo hi (nI x) n ||| (1 <<< ((nI n).toInt64 &&& 63)) else lns lo hi (nI x) n
    rw [hl, hh]
    by_cases h1 : x = b
    · subst h1
      rw [pk_uLs, pk_uLn (by omega), if_pos (Or.inr rfl), h.2.2 x hx]
    · rw [pk_uLn h1]
      by_cases h2 : x = a
      · subst h2
        rw [pk_uLs, if_pos (Or.inl rfl), h.2.2 x hx]
      · rw [pk_uLn h2, if_neg, h.2.2 x hx]
        rintro (q | q)
        · exact h2 (nI_inj (by omega) (by omega) q).symm
        · exact h1 (nI_inj (by omega) (by omega) q).symm
theorem link_loop {lo hi : Nat → Int32} {L : Nat} (hL : L ≤ 40) (he : ends12 lo hi L) (age : Int32) : ∀ (m i : Nat) (jn nr : Nat → Int32) (la : Nat → Int64), i ≤ L → L - i < m → linked lo hi jn nr la i → ∃ jn' nr' la', f_X1_link_b26 lo hi (nI L) m jn nr la age (nI i) = some (jn', nr', la', age + 1) ∧ linked lo hi jn' nr' la' L := by
  intro m
  induction m with
  | zero =>
    intro i jn nr la _ h
    omega
  | succ m ih =>
    intro i jn nr la hi hm hk
    show ∃ jn' nr' la', f_X1_link_s26 lo _ (nI L) (f_X1_link_b26 lo _ (nI L) m) jn nr la age (nI i) = some (jn', nr', la', age + 1) ∧ _
    unfold f_X1_link_s26 nm
    by_cases h : L ≤ i
    · have e : i = L := by omega
      subst e
      rw [if_pos (nI_le (Nat.le_refl i) (by omega))]
      exact ⟨jn, nr, la, rfl, hk⟩
    · rw [if_neg (nI_ge (by omega) (by omega))]
      obtain ⟨a, b, ha, hb, hab, hl, hh⟩ := he i (by omega)
      have hq := q_linkOne (jn := jn) (nr := nr) (la := la) (n := i) (by omega) ha hb hl hh
      have hk2 := linked_step hk (by omega) (fun j hj => he j (by omega)) hq
      rw [hq]
      show ∃ jn' nr' la', f_X1_link_b26 lo _ (nI L) m _ _ _ age (nI i + 1) = some (jn', nr', la', age + 1) ∧ _
      rw [nI_1]
      exact ih (i + 1) _ _ _ (by omega) (by omega) hk2
theorem q_link {lo hi jn nr : Nat → Int32} {la : Nat → Int64} {L : Nat} (hL : L ≤ 40) (he : ends12 lo hi L) (age : Int32) : ∃ jn' nr' la', f_X1_link lo hi jn nr la (nI L) age = some (jn', nr', la', age + 1) ∧ linked lo hi jn' nr' la' L := by
  unfold f_X1_link
  obtain ⟨g1, h1, e1⟩ := q_fillI jn (n := 144) (by decide) 0
  obtain ⟨g2, h2, e2⟩ := q_fillI nr (n := 12) (by decide) 0
  obtain ⟨g3, h3, e3⟩ := q_fillL la (n := 12) (by decide) 0
  simp only [h1, h2, h3, bs1]
  show ∃ jn' nr' la', f_X1_link_b26 lo hi (nI L) 70 g1 g2 g3 age (nI 0) = some (jn', nr', la', age + 1) ∧ _
  refine link_loop hL he age 70 0 g1 g2 g3 (by omega) (by omega) ⟨fun a b ha hb => ?_, fun a ha => ?_, fun a ha => ?_⟩
  · rw [e1, if_pos (by omega)]
    rfl
  · rw [e2, if_pos ha]
    rfl
  · rw [e3, if_pos ha]
    rfl
