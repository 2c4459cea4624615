/-! pure rows: node, share -/
theorem node_cnt {np no : Nat → Int32} {z k : Nat} (hz : z ≤ 300) (p2 : Int32) : ∀ (m o : Nat), k + 1 ≤ o → o ≤ z → z - o < m → f_X9_node_b71 np no (nI z) (nI k) p2 m (nI (cn no k (k + 1) o)) (nI o) = some (nI (cn no k (k + 1) z)) := by
  intro m
  induction m with
  | zero => intro o _ _ h; omega
  | succ m ih =>
    intro o h1 h2 hm
    show f_X9_node_s71 np no (nI z) (nI k) p2 (f_X9_node_b71 np no (nI z) (nI k) p2 m) (nI (cn no k (k + 1) o)) (nI o) = _
    unfold f_X9_node_s71
    have go := fun h => ih (o + 1) (by omega) h
    by_cases e : z ≤ o
    · have e : o = z := by omega
      subst e
      rw [if_pos (nI_le (Nat.le_refl o) (by omega))]
    · have h3 : o < 300 := by omega
      rw [if_neg (nI_ge (by omega) (by omega))]
      simp only [nmE, c300 h3, g300c h3, nI_1, Int32.add_zero]
      have go := ih (o + 1) (by omega) (by omega) (by omega)
      rw [cn_succ] at go
      by_cases q : no o = nI k
      · rw [if_pos q]
        rw [if_pos ⟨h1, q⟩] at go
        exact go
      · rw [if_neg q]
        rw [if_neg (fun z => q z.2)] at go
        exact go
theorem m1_ne (n : Nat) (h : n < 2 ^ 31) : ¬ nI n = -1 := by
  intro q
  have := nI_pos h
  rw [q] at this
  exact this (by decide)
theorem node_dep {sp pa br de en np no : Nat → Int32} {z : Nat} (hz : z ≤ 300) (hp : pa 0 = -1) (h0 : de 0 = 0) (hs : Seg sp pa br de en 0 z) (hag : ∀ j, j < z → sp j = np j ∧ pa j = no j) (xz p1 p2 : Int32) : ∀ (m x j d : Nat), x < z → x < m → d ≤ 11 → de x = nI d → f_X9_node_b110 np no xz p1 p2 m (nI j) (nI x) = some (nI (j + d)) := by
  intro m
  induction m with
  | zero => intro x j d _ h; omega
  | succ m ih =>
    intro x j d hx hm hd e
    show f_X9_node_s110 np no xz p1 p2 (f_X9_node_b110 np no xz p1 p2 m) (nI j) (nI x) = _
    unfold f_X9_node_s110
    have h3 : x < 300 := by omega
    simp only [nmE, c300 h3, g300c h3, nI_1]
    rw [← (hag x hx).2]
    by_cases hx0 : x = 0
    · subst hx0
      rw [h0] at e
      have : d = 0 := (nI_inj (a := 0) (by omega) (by omega) e).symm
      subst this
      rw [if_pos hp]
      rfl
    · obtain ⟨g, d', g1, g2, g3, g4, g5, g6⟩ := hs.2.1 x (by omega) hx
      rw [g6] at e
      have := nI_inj (by omega) (by omega) e
      subst this
      rw [g3, if_neg (m1_ne g (by omega)), ih g (j + 1) d' (by omega) (by omega) (by omega) g5]
      congr 2
      omega
theorem q_hasNode (n a : Int32) : f_X6_hasNode n a = some (if a < 0 ∨ n ≤ a then 0 else 1) := by
  unfold f_X6_hasNode
  by_cases h1 : a < 0 <;> by_cases h2 : n ≤ a <;> simp [h1, h2]
theorem s_node {sp pa br de en : Nat → Int32} {sz : Int32} {np no : Nat → Int32} {xz : Int32} (h : TreeI sp pa br de en sz np no xz) (p1 p2 : Int32) : ∃ r, f_X8_node sp pa br de sz p1 p2 = some r ∧ f_X9_node np no xz p1 p2 = some r := by
  obtain ⟨z, hz, rfl, rfl, hag, hs⟩ := h
  unfold f_X8_node f_X9_node
  rw [q_hasNode, q_inL p1 (lo := 0) (hi := (nI z - 1).toInt64) 0 (nI z - 1) rfl rfl, bE1, bE1]
  simp only [h01, pred_lt (n := z) (by omega)]
  rcases ix_cases p1 (n := z) (by omega) with ⟨hb, _⟩ | ⟨k, hk, rfl, hb⟩
  · rw [if_pos hb, if_pos hb]
    exact ⟨_, rfl, rfl⟩
  · rw [if_neg hb, if_neg hb]
    have h3 : k < 300 := by omega
    obtain ⟨e1, e2⟩ := hag k hk
    have hs := hs.resolve_left (by omega)
    simp only [nmE, c300 h3, g300c h3, nI_1]
    by_cases q0 : p2 = 0
    · rw [if_pos q0, if_pos q0, e1]
      exact ⟨_, rfl, rfl⟩
    · rw [if_neg q0, if_neg q0]
      by_cases q1 : p2 = 1
      · rw [if_pos q1, if_pos q1, e2]
        exact ⟨_, rfl, rfl⟩
      · rw [if_neg q1, if_neg q1]
        by_cases q2 : p2 = 2
        · rw [if_pos q2, if_pos q2, (hs.2.2.2.2.1 k (by omega) hk).2.1]
          have := node_cnt (np := np) (no := no) (k := k) hz p2 310 (k + 1) (by omega) (by omega) (by omega)
          rw [cn_zero (k + 1) (fun o o1 o2 => by omega), nI_0] at this
          rw [this, cn_congr z (fun o o1 o2 => (hag o o2).2)]
          exact ⟨_, rfl, rfl⟩
        · rw [if_neg q2, if_neg q2]
          by_cases q3 : p2 = 3
          · rw [if_pos q3, if_pos q3]
            have hd : ∃ d, d ≤ 11 ∧ de k = nI d := by
              by_cases k0 : k = 0
              · subst k0
                exact ⟨0, by omega, hs.2.1⟩
              · obtain ⟨g, d, _, _, _, d1, _, d2⟩ := hs.2.2.2.1 k (by omega) hk
                exact ⟨d + 1, by omega, d2⟩
            obtain ⟨d, d1, d2⟩ := hd
            have := node_dep hz hs.1 hs.2.1 hs.2.2 hag (nI z) (nI k) p2 310 k 0 d hk (by omega) d1 d2
            rw [nI_0, Nat.zero_add] at this
            rw [this, d2]
            exact ⟨_, rfl, rfl⟩
          · rw [if_neg q3, if_neg q3]
            exact ⟨_, rfl, rfl⟩
/-- which children a NODE has, one behind the other -/
theorem par_lt {sp pa br de en : Nat → Int32} {z : Nat} (hz : z ≤ 300) (hs : Seg sp pa br de en 0 z) {o g : Nat} (h0 : 0 < o) (ho : o < z) (hg : g < 300) (e : pa o = nI g) : g < o := by
  obtain ⟨g', _, _, g2, g3, _⟩ := hs.2.1 o h0 ho
  rw [g3] at e
  have := nI_inj (by omega) (by omega) e
  omega
theorem kid_in {sp pa br de en : Nat → Int32} {z : Nat} (hz : z ≤ 300) (hs : Seg sp pa br de en 0 z) {i e o : Nat} (hi : i < z) (he : en i = nI e) (he3 : e ≤ 300) (ho : o < z) (hp : pa o = nI i) : o < e := by
  obtain ⟨_, _, _, e', e1, e2, e3, e4, e5⟩ := hs.2.2.1 i (by omega) hi
  rw [e3] at he
  have := nI_inj (by omega) (by omega) he
  subst this
  apply Classical.byContradiction
  intro q
  obtain ⟨g, g1, g2, g3⟩ := e5 o (by omega) ho
  rw [hp] at g3
  have := nI_inj (by omega) (by omega) g3
  omega
theorem kids {sp pa br de en : Nat → Int32} {z : Nat} (hz : z ≤ 300) (hs : Seg sp pa br de en 0 z) {i : Nat} (hi : i < z) : ∃ e : Nat, i < e ∧ e ≤ z ∧ en i = nI e ∧ (i + 1 = e ∨ pa (i + 1) = nI i) ∧ (∀ o, e ≤ o → o < z → ¬ pa o = nI i) ∧ ∀ o, i < o → o < e → pa o = nI i → ∃ e' : Nat, en o = nI e' ∧ o < e' ∧ e' ≤ e ∧ (e' = e ∨ pa e' = nI i) ∧ ∀ u, o < u → u < e' → ¬ pa u = nI i := by
  obtain ⟨_, _, _, e, e1, e2, e3, e4, e5⟩ := hs.2.2.1 i (by omega) hi
  refine ⟨e, e1, e2, e3, ?_, fun o o1 o2 q => ?_, fun o o1 o2 hp => ?_⟩
  · by_cases q : i + 1 = e
    · exact Or.inl q
    · obtain ⟨g, g1, g2, g3⟩ := e4 (i + 1) (by omega) (by omega)
      have := par_lt hz hs (o := i + 1) (by omega) (by omega) g2 g3
      have : g = i := by omega
      subst this
      exact Or.inr g3
  · have := kid_in hz hs hi e3 (by omega) o2 q
    omega
  · obtain ⟨_, _, _, e', f1, f2, f3, f4, f5⟩ := hs.2.2.1 o (by omega) (by omega)
    have hle : e' ≤ e := by
      apply Classical.byContradiction
      intro q
      have hez : e < z := by omega
      obtain ⟨g, g1, g2, g3⟩ := f4 e o2 (by omega)
      obtain ⟨g', g1', g2', g3'⟩ := e5 e (Nat.le_refl _) hez
      rw [g3] at g3'
      have := nI_inj (by omega) (by omega) g3'
      subst this
      have := par_lt hz hs (o := e) (by omega) hez g2 g3
      omega
    refine ⟨e', f3, f1, hle, ?_, fun u u1 u2 q => ?_⟩
    · by_cases q : e' = e
      · exact Or.inl q
      · obtain ⟨g, g1, g2, g3⟩ := e4 e' (by omega) (by omega)
        obtain ⟨g', g1', g2', g3'⟩ := f5 e' (Nat.le_refl _) (by omega)
        rw [g3] at g3'
        have := nI_inj (by omega) (by omega) g3'
        subst this
        have hlt := par_lt hz hs (o := e') (by omega) (by omega) g2 g3
        by_cases gi : g = i
        · subst gi
          exact Or.inr g3
        · obtain ⟨_, _, _, eg, k1, k2, k3, k4, k5⟩ := hs.2.2.1 g (by omega) (by omega)
          have hin := kid_in hz hs (i := g) (by omega) k3 (by omega) (show e' < z by omega) g3
          obtain ⟨u, u1, u2, u3⟩ := k4 o (by omega) (by omega)
          rw [hp] at u3
          have := nI_inj (by omega) (by omega) u3
          omega
    · obtain ⟨g, g1, g2, g3⟩ := f4 u u1 u2
      rw [q] at g3
      have := nI_inj (by omega) (by omega) g3
      omega
/-- SHARE in lowest terms, or none where a number is too great -/
def addv (w : Nat) (x y : Option (Nat × Nat)) : Option (Nat × Nat) :=
  x.bind (fun u => y.bind (fun v => if u.1 * v.1 + w * v.2 * u.2 < 2 ^ 63 ∧ u.2 * v.1 < 2 ^ 63 then some ((u.1 * v.1 + w * v.2 * u.2) / Nat.gcd (u.1 * v.1 + w * v.2 * u.2) (u.2 * v.1), (u.2 * v.1) / Nat.gcd (u.1 * v.1 + w * v.2 * u.2) (u.2 * v.1)) else none))
def foldv (pa : Nat → Int32) (w : Nat → Nat → Nat) (i : Nat) (R : Nat → Option (Nat × Nat)) : Nat → Option (Nat × Nat)
  | 0 => some (1, 1)
  | j + 1 => if i < j ∧ pa j = nI i then addv (w i j) (foldv pa w i R j) (R j) else foldv pa w i R j
theorem foldv_succ (pa : Nat → Int32) (w : Nat → Nat → Nat) (i : Nat) (R : Nat → Option (Nat × Nat)) (j : Nat) : foldv pa w i R (j + 1) = if i < j ∧ pa j = nI i then addv (w i j) (foldv pa w i R j) (R j) else foldv pa w i R j := rfl
def shf (pa : Nat → Int32) (w : Nat → Nat → Nat) (z : Nat) : Nat → Nat → Option (Nat × Nat)
  | 0, _ => none
  | n + 1, i => foldv pa w i (shf pa w z n) z
def Sv (pa : Nat → Int32) (w : Nat → Nat → Nat) (z i : Nat) : Option (Nat × Nat) := shf pa w z (z - i) i
theorem foldv_congr {pa : Nat → Int32} {w : Nat → Nat → Nat} {i : Nat} {R R' : Nat → Option (Nat × Nat)} : ∀ b, (∀ j, i < j → j < b → R j = R' j) → foldv pa w i R b = foldv pa w i R' b := by
  intro b
  induction b with
  | zero => exact fun _ => rfl
  | succ b ih =>
    intro h
    rw [foldv_succ, foldv_succ, ih (fun j h1 h2 => h j h1 (by omega))]
    by_cases c : i < b ∧ pa b = nI i
    · rw [if_pos c, if_pos c, h b c.1 (by omega)]
    · rw [if_neg c, if_neg c]
theorem shf_stable {pa : Nat → Int32} {w : Nat → Nat → Nat} {z : Nat} : ∀ n m i, i < z → z - i ≤ n → z - i ≤ m → shf pa w z n i = shf pa w z m i := by
  intro n
  induction n with
  | zero => intro m i h1 h2; omega
  | succ n ih =>
    intro m i h1 h2 h3
    obtain ⟨m, rfl⟩ : ∃ y, m = y + 1 := ⟨m - 1, by omega⟩
    exact foldv_congr z (fun j j1 j2 => ih m j j2 (by omega) (by omega))
theorem Sv_eq {pa : Nat → Int32} {w : Nat → Nat → Nat} {z i : Nat} (hi : i < z) : Sv pa w z i = foldv pa w i (Sv pa w z) z := by
  unfold Sv
  obtain ⟨n, e⟩ : ∃ n, z - i = n + 1 := ⟨z - i - 1, by omega⟩
  rw [e]
  exact foldv_congr z (fun j j1 j2 => shf_stable n (z - j) j j2 (by omega) (Nat.le_refl _))
theorem foldv_skip {pa : Nat → Int32} {w : Nat → Nat → Nat} {i a : Nat} {R : Nat → Option (Nat × Nat)} : ∀ b, a ≤ b → (∀ u, a ≤ u → u < b → ¬ pa u = nI i) → foldv pa w i R b = foldv pa w i R a := by
  intro b
  induction b with
  | zero =>
    intro h _
    have : a = 0 := by omega
    subst this
    rfl
  | succ b ih =>
    intro h hno
    by_cases e : a = b + 1
    · subst e
      rfl
    · rw [foldv_succ, if_neg (fun q => hno b (by omega) (by omega) q.2)]
      exact ih (by omega) (fun u u1 u2 => hno u u1 (by omega))
theorem foldv_first {pa : Nat → Int32} {w : Nat → Nat → Nat} {i : Nat} {R : Nat → Option (Nat × Nat)} : ∀ b, b ≤ i + 1 → foldv pa w i R b = some (1, 1) := by
  intro b
  induction b with
  | zero => exact fun _ => rfl
  | succ b ih =>
    intro h
    rw [foldv_succ, if_neg (fun q => by omega)]
    exact ih (by omega)
theorem addv_none (w : Nat) (y : Option (Nat × Nat)) : addv w none y = none := rfl
theorem addv_none2 (w : Nat) (x : Option (Nat × Nat)) : addv w x none = none := by cases x <;> rfl
theorem foldv_none {pa : Nat → Int32} {w : Nat → Nat → Nat} {i a : Nat} {R : Nat → Option (Nat × Nat)} (h : foldv pa w i R a = none) : ∀ b, a ≤ b → foldv pa w i R b = none := by
  intro b
  induction b with
  | zero =>
    intro hab
    have : a = 0 := by omega
    subst this
    exact h
  | succ b ih =>
    intro hab
    by_cases e : a = b + 1
    · subst e
      exact h
    · rw [foldv_succ, ih (by omega), addv_none, ite_self]
def okv (x : Option (Nat × Nat)) : Prop := ∀ a b, x = some (a, b) → 1 ≤ a ∧ a < 2 ^ 63 ∧ 1 ≤ b ∧ b < 2 ^ 63
theorem gdiv {t f : Nat} (ht : 1 ≤ t) (hf : 1 ≤ f) : 1 ≤ t / Nat.gcd t f ∧ 1 ≤ f / Nat.gcd t f := by
  have g0 : 0 < Nat.gcd t f := Nat.gcd_pos_of_pos_left f ht
  exact ⟨Nat.div_pos (Nat.le_of_dvd ht (Nat.gcd_dvd_left t f)) g0, Nat.div_pos (Nat.le_of_dvd hf (Nat.gcd_dvd_right t f)) g0⟩
theorem addv_ok {w : Nat} {x y : Option (Nat × Nat)} (hx : okv x) (hy : okv y) : okv (addv w x y) := by
  intro a b h
  cases x with
  | none => exact absurd h (by rw [addv_none]; exact fun q => by cases q)
  | some u =>
    cases y with
    | none => exact absurd h (by rw [addv_none2]; exact fun q => by cases q)
    | some v =>
      obtain ⟨u1, u2⟩ := u
      obtain ⟨v1, v2⟩ := v
      obtain ⟨p1, p2, p3, p4⟩ := hx u1 u2 rfl
      obtain ⟨q1, q2, q3, q4⟩ := hy v1 v2 rfl
      have h : (if u1 * v1 + w * v2 * u2 < 2 ^ 63 ∧ u2 * v1 < 2 ^ 63 then some ((u1 * v1 + w * v2 * u2) / Nat.gcd (u1 * v1 + w * v2 * u2) (u2 * v1), (u2 * v1) / Nat.gcd (u1 * v1 + w * v2 * u2) (u2 * v1)) else none) = some (a, b) := h
      have m1 : 1 ≤ u1 * v1 := Nat.mul_pos p1 q1
      have m2 : 1 ≤ u2 * v1 := Nat.mul_pos p3 q1
      have ht : 1 ≤ u1 * v1 + w * v2 * u2 := Nat.le_trans m1 (Nat.le_add_right _ _)
      by_cases c : u1 * v1 + w * v2 * u2 < 2 ^ 63 ∧ u2 * v1 < 2 ^ 63
      · rw [if_pos c] at h
        obtain ⟨e1, e2⟩ := Prod.mk.inj (Option.some.inj h)
        obtain ⟨z1, z2⟩ := gdiv ht m2
        rw [← e1, ← e2]
        exact ⟨z1, Nat.lt_of_le_of_lt (Nat.div_le_self _ _) c.1, z2, Nat.lt_of_le_of_lt (Nat.div_le_self _ _) c.2⟩
      · rw [if_neg c] at h
        cases h
theorem foldv_ok {pa : Nat → Int32} {w : Nat → Nat → Nat} {i : Nat} {R : Nat → Option (Nat × Nat)} (h : ∀ j, okv (R j)) : ∀ b, okv (foldv pa w i R b) := by
  intro b
  induction b with
  | zero =>
    intro a b e
    obtain ⟨e1, e2⟩ := Prod.mk.inj (Option.some.inj e)
    rw [← e1, ← e2]
    decide
  | succ b ih =>
    rw [foldv_succ]
    split
    · exact addv_ok ih (h b)
    · exact ih
theorem shf_ok {pa : Nat → Int32} {w : Nat → Nat → Nat} {z : Nat} : ∀ n i, okv (shf pa w z n i) := by
  intro n
  induction n with
  | zero => intro i a b e; cases e
  | succ n ih => exact fun i => foldv_ok ih z
theorem Sv_ok (pa : Nat → Int32) (w : Nat → Nat → Nat) (z i : Nat) : okv (Sv pa w z i) := shf_ok _ _
def rep (x : Option (Nat × Nat)) (A B : Int64) : Prop := (x = none ∧ A = -1) ∨ ∃ a b, x = some (a, b) ∧ A = lN a ∧ B = lN b
theorem lN_div {a g : Nat} (ha : a < 2 ^ 63) (hg : g < 2 ^ 63) : lN a / lN g = lN (a / g) := by
  apply Int64.toInt_inj.mp
  have h1 : a / g ≤ a := Nat.div_le_self _ _
  rw [Int64.toInt_div, lN_tI ha, lN_tI hg, lN_tI (by omega)]
  have e1 : (a : Int).tdiv g = ((a / g : Nat) : Int) := Int.ofNat_tdiv a g
  rw [e1]
  generalize a / g = X at h1 ⊢
  exact Int.bmod_eq_of_le (by omega) (by omega)
theorem lN_inj {a b : Nat} (ha : a < 2 ^ 63) (hb : b < 2 ^ 63) (h : lN a = lN b) : a = b := by
  rw [← Int64.toInt_inj, lN_tI ha, lN_tI hb] at h
  omega
theorem neg_cmp : lg_cmp (-1) 0 < 0 := by decide
theorem nn_cmp {n : Nat} (h : n < 2 ^ 63) : ¬ lg_cmp (lN n) 0 < 0 := fun z => by
  rw [← sv_lt h] at z
  exact lt_sv.mp z h
theorem q_adds {ab bl : Nat → Int64} {k o w : Nat} (hk : k < 300) (ho : o < 300) (hko : k ≠ o) {x y : Option (Nat × Nat)} (hx : rep x (ab k) (bl k)) (hy : rep y (ab o) (bl o)) (ox : okv x) (oy : okv y) (hw : w < 2 ^ 63) : ∃ ab' bl', f_X9_adds ab bl (nI k) (nI o) (lN w) = some (ab', bl') ∧ rep (addv w x y) (ab' k) (bl' k) ∧ ∀ j, j ≠ k → ab' j = ab j ∧ bl' j = bl j := by
  unfold f_X9_adds
  simp only [c300 hk, c300 ho, g300c hk, g300c ho, q_times, q_plus, bE1, nmE]
  rcases hx with ⟨rfl, e1⟩ | ⟨a, b, rfl, e1, e2⟩
  · rw [e1, if_pos neg_cmp]
    exact ⟨_, _, rfl, Or.inl ⟨rfl, pk_uLs⟩, fun j hj => ⟨pk_uLn hj, rfl⟩⟩
  · obtain ⟨a1, a2, b1, b2⟩ := ox a b rfl
    rw [e1, if_neg (nn_cmp a2)]
    rcases hy with ⟨rfl, f1⟩ | ⟨d, c, rfl, f1, f2⟩
    · rw [f1, if_pos neg_cmp]
      exact ⟨_, _, rfl, Or.inl ⟨addv_none2 w _, pk_uLs⟩, fun j hj => ⟨pk_uLn hj, rfl⟩⟩
    · obtain ⟨d1, d2, c1, c2⟩ := oy d c rfl
      have ea : addv w (some (a, b)) (some (d, c)) = if a * d + w * c * b < 2 ^ 63 ∧ b * d < 2 ^ 63 then some ((a * d + w * c * b) / Nat.gcd (a * d + w * c * b) (b * d), (b * d) / Nat.gcd (a * d + w * c * b) (b * d)) else none := rfl
      rw [f1, if_neg (nn_cmp d2), e2, f2, ← sv_lt a2, ← sv_lt d2, ← sv_lt b2, ← sv_lt c2, ← sv_lt hw, tiV_sv, tiV_sv, tiV_sv, tiV_sv, plV_sv, ea]
      have m1 : 1 ≤ a * d := Nat.mul_pos a1 d1
      have m2 : 1 ≤ b * d := Nat.mul_pos b1 d1
      generalize w * c * b = v
      generalize a * d = u at m1 ⊢
      generalize b * d = f at m2 ⊢
      by_cases z1 : u < 2 ^ 63
      · rw [if_neg (fun z => lt_sv.mp z z1)]
        by_cases z2 : v < 2 ^ 63
        · rw [if_neg (fun z => lt_sv.mp z z2)]
          by_cases z3 : f < 2 ^ 63
          · rw [if_neg (fun z => lt_sv.mp z z3)]
            by_cases z4 : u + v < 2 ^ 63
            · have hg : Nat.gcd (u + v) f < 2 ^ 63 := Nat.lt_of_le_of_lt (Nat.gcd_le_right _ m2) z3
              have g0 : 0 < Nat.gcd (u + v) f := Nat.gcd_pos_of_pos_right _ m2
              rw [if_pos (ge_sv.mpr z4), sv_lt z4, sv_lt z3, (common_eq z4 z3 m2).2, bE1, if_neg (fun q => by have := (lN_0' hg).mp q; omega), if_neg (fun q => by have := (lN_0' hg).mp q; omega), lN_div z4 hg, lN_div z3 hg, if_pos ⟨z4, z3⟩]
              exact ⟨_, _, rfl, Or.inr ⟨_, _, rfl, pk_uLs, pk_uLs⟩, fun j hj => ⟨pk_uLn hj, pk_uLn hj⟩⟩
            · rw [if_neg (fun z => z4 (ge_sv.mp z)), if_neg (fun z => z4 z.1)]
              exact ⟨_, _, rfl, Or.inl ⟨rfl, pk_uLs⟩, fun j hj => ⟨pk_uLn hj, rfl⟩⟩
          · rw [if_pos (lt_sv.mpr z3), if_neg (fun z => z3 z.2)]
            exact ⟨_, _, rfl, Or.inl ⟨rfl, pk_uLs⟩, fun j hj => ⟨pk_uLn hj, rfl⟩⟩
        · rw [if_pos (lt_sv.mpr z2), if_neg (fun z => by omega)]
          exact ⟨_, _, rfl, Or.inl ⟨rfl, pk_uLs⟩, fun j hj => ⟨pk_uLn hj, rfl⟩⟩
      · rw [if_pos (lt_sv.mpr z1), if_neg (fun z => by omega)]
        exact ⟨_, _, rfl, Or.inl ⟨rfl, pk_uLs⟩, fun j hj => ⟨pk_uLn hj, rfl⟩⟩
/-- how heavy a NODE's line to one behind it is, times the RATE -/
noncomputable def hW (kd fg lo hi : Nat → Int32) (T L q : Nat) (sp : Nat → Int32) (i o : Nat) : Nat := q * (wB kd fg lo hi T L (sp i).toNatClampNeg (sp o).toNatClampNeg).toNatClampNeg
theorem lnk_symm (lo hi : Nat → Int32) (a b : Int32) : ∀ n, lnk lo hi a b n = lnk lo hi b a n := by
  intro n
  induction n with
  | zero => rfl
  | succ n ih =>
    show (if (lo n = a ∧ hi n = b) ∨ (lo n = b ∧ hi n = a) then nI (n + 1) else lnk lo hi a b n) = (if (lo n = b ∧ hi n = a) ∨ (lo n = a ∧ hi n = b) then nI (n + 1) else lnk lo hi b a n)
    rw [ih]
    by_cases c : (lo n = a ∧ hi n = b) ∨ (lo n = b ∧ hi n = a)
    · rw [if_pos c, if_pos c.symm]
    · rw [if_neg c, if_neg (fun q => c q.symm)]
theorem w_ref {kd fg lo hi jn nr : Nat → Int32} {la : Nat → Int64} {P L T : Nat} (hn : NetI kd fg lo hi jn nr la P L T) {a b : Nat} (hl : ¬ lnk lo hi (nI a) (nI b) L = 0) : ∃ r, f_X9_lineOf (nI L) lo hi (nI a) (nI b) = some r ∧ f_X9_weight (nI T) kd fg r = some (wB kd fg lo hi T L a b) := by
  have hL := hn.2.1
  refine ⟨_, q_lineOf hL hn.2.2.2.2.2.2.1 _ _, ?_⟩
  unfold wB
  rw [if_neg hl]
  obtain ⟨j, hj, e⟩ := lnk_form lo hi (nI a) (nI b) L
  rw [e] at hl ⊢
  by_cases h : j = 0
  · subst h
    exact absurd rfl hl
  · obtain ⟨i, rfl⟩ : ∃ i, j = i + 1 := ⟨j - 1, by omega⟩
    rw [nI_pred, q_weight (nI T) (by omega), wV_eq, nI_clamp (by omega)]
