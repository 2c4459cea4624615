/-! pure rows: copy, build -/
theorem cpy_fwd {α : Type} (f : Nat → α) {sp dp t : Nat} (h : ¬ (dp ≤ sp + t ∧ sp + t < dp + t)) : vf_upd (va_cpy f f sp dp t) (dp + t) (va_cpy f f sp dp t (sp + t)) = va_cpy f f sp dp (t + 1) := by
  funext j
  show (if j = dp + t then va_cpy f f sp dp t (sp + t) else va_cpy f f sp dp t j) = va_cpy f f sp dp (t + 1) j
  by_cases e : j = dp + t
  · subst e
    rw [if_pos rfl, pk_cpy_out (by omega), pk_cpy_in (by omega) (by omega)]
    congr 1
    omega
  · rw [if_neg e]
    by_cases z : dp ≤ j ∧ j < dp + t
    · rw [pk_cpy_in z.1 z.2, pk_cpy_in z.1 (by omega)]
    · rw [pk_cpy_out (by omega), pk_cpy_out (by omega)]
theorem cpy_bwd {α : Type} (f : Nat → α) {sp dp n t : Nat} (ht : t < n) (h : ¬ (dp + (n - t) ≤ sp + (n - 1 - t) ∧ sp + (n - 1 - t) < dp + n)) : vf_upd (va_cpy f f (sp + (n - t)) (dp + (n - t)) t) (dp + (n - 1 - t)) (va_cpy f f (sp + (n - t)) (dp + (n - t)) t (sp + (n - 1 - t))) = va_cpy f f (sp + (n - (t + 1))) (dp + (n - (t + 1))) (t + 1) := by
  funext j
  show (if j = dp + (n - 1 - t) then va_cpy f f (sp + (n - t)) (dp + (n - t)) t (sp + (n - 1 - t)) else va_cpy f f (sp + (n - t)) (dp + (n - t)) t j) = va_cpy f f (sp + (n - (t + 1))) (dp + (n - (t + 1))) (t + 1) j
  by_cases e : j = dp + (n - 1 - t)
  · subst e
    rw [if_pos rfl, pk_cpy_out (by omega), pk_cpy_in (by omega) (by omega)]
    congr 1
    omega
  · rw [if_neg e]
    by_cases z : dp + (n - t) ≤ j ∧ j < dp + (n - t) + t
    · rw [pk_cpy_in z.1 z.2, pk_cpy_in (by omega) (by omega)]
      congr 1
      omega
    · rw [pk_cpy_out (by omega), pk_cpy_out (by omega)]
theorem cpy_none {α : Type} (f : Nat → α) (sp dp : Nat) : va_cpy f f sp dp 0 = f := by
  funext j
  exact pk_cpy_out (by omega)
theorem upd_vf (f : Nat → Int64) (k : Nat) (x : Int64) : vp_updL f k x = vf_upd f k x := rfl
theorem copy_step (xo xz : Nat → Int32) (p1 p2 p3 p4 p5 : Int32) (k0 : (Nat → Int64) → (Nat → UInt32) → (Nat → UInt64) → Int32 → Option (Int32 × (Nat → Int64) × (Nat → UInt32) × (Nat → UInt64))) (xw : Nat → Int64) (xf : Nat → UInt32) (xd : Nat → UInt64) (x6 : Int32) {i a k b y : Nat} (e1 : p1 = nI i) (e2 : p2 = nI a) (e3 : p3 = nI k) (e4 : p4 = nI b) (h1 : 60 * i + a + y < 240) (h2 : 60 * k + b + y < 240) : f_X9_copy_b128 xo xz p1 p2 p3 p4 p5 k0 xw xf xd x6 (nI y) = k0 (vf_upd xw (60 * k + b + y) (xw (60 * i + a + y))) (vf_upd xf (60 * k + b + y) (xf (60 * i + a + y))) (vf_upd xd (60 * k + b + y) (xd (60 * i + a + y))) (x6 + 1) := by
  subst e1
  subst e2
  subst e3
  subst e4
  unfold f_X9_copy_b128
  simp only [mul60, nI_add, c240 h1, g240 h1, c240 h2, g240 h2, nm, upd_vf]
theorem copy_fwd (xo xz : Nat → Int32) (xw : Nat → Int64) (xf : Nat → UInt32) (xd : Nat → UInt64) {i k a b n : Nat} (hi : i < 4) (hk : k < 4) (ha : a + n ≤ 60) (hb : b + n ≤ 60) (hab : b < a) : ∀ (m t : Nat), t ≤ n → n - t < m → f_X9_copy_b103 xo xz (nI i) (nI a) (nI k) (nI b) (nI n) m (va_cpy xw xw (60 * i + a) (60 * k + b) t) (va_cpy xf xf (60 * i + a) (60 * k + b) t) (va_cpy xd xd (60 * i + a) (60 * k + b) t) (nI t) = some (nI n, va_cpy xw xw (60 * i + a) (60 * k + b) n, va_cpy xf xf (60 * i + a) (60 * k + b) n, va_cpy xd xd (60 * i + a) (60 * k + b) n) := by
  intro m
  induction m with
  | zero =>
    intro t _ h
    omega
  | succ m ih =>
    intro t ht hm
    show f_X9_copy_s103 xo xz (nI i) (nI a) (nI k) (nI b) (nI n) (f_X9_copy_b103 xo xz (nI i) (nI a) (nI k) (nI b) (nI n) m) (va_cpy xw xw (60 * i + a) (60 * k + b) t) (va_cpy xf xf (60 * i + a) (60 * k + b) t) (va_cpy xd xd (60 * i + a) (60 * k + b) t) (nI t) = _
    unfold f_X9_copy_s103
    by_cases h : n ≤ t
    · have e : t = n := by omega
      subst e
      rw [if_pos (nI_le (Nat.le_refl t) (by omega))]
    · have hno : ¬ (60 * k + b ≤ 60 * i + a + t ∧ 60 * i + a + t < 60 * k + b + t) := by omega
      rw [if_neg (nI_ge (a := t) (b := n) (by omega) (by omega)), if_neg (nI_ge (a := b) (b := a) hab (by omega)), copy_step xo xz _ _ _ _ _ _ _ _ _ _ rfl rfl rfl rfl (by omega) (by omega), cpy_fwd xw hno, cpy_fwd xf hno, cpy_fwd xd hno, nI_1]
      exact ih (t + 1) (by omega) (by omega)
theorem copy_bwd (xo xz : Nat → Int32) (xw : Nat → Int64) (xf : Nat → UInt32) (xd : Nat → UInt64) {i k a b n : Nat} (hi : i < 4) (hk : k < 4) (ha : a + n ≤ 60) (hb : b + n ≤ 60) (hab : a ≤ b) : ∀ (m t : Nat), t ≤ n → n - t < m → f_X9_copy_b103 xo xz (nI i) (nI a) (nI k) (nI b) (nI n) m (va_cpy xw xw (60 * i + a + (n - t)) (60 * k + b + (n - t)) t) (va_cpy xf xf (60 * i + a + (n - t)) (60 * k + b + (n - t)) t) (va_cpy xd xd (60 * i + a + (n - t)) (60 * k + b + (n - t)) t) (nI t) = some (nI n, va_cpy xw xw (60 * i + a) (60 * k + b) n, va_cpy xf xf (60 * i + a) (60 * k + b) n, va_cpy xd xd (60 * i + a) (60 * k + b) n) := by
  intro m
  induction m with
  | zero =>
    intro t _ h
    omega
  | succ m ih =>
    intro t ht hm
    show f_X9_copy_s103 xo xz (nI i) (nI a) (nI k) (nI b) (nI n) (f_X9_copy_b103 xo xz (nI i) (nI a) (nI k) (nI b) (nI n) m) (va_cpy xw xw (60 * i + a + (n - t)) (60 * k + b + (n - t)) t) (va_cpy xf xf (60 * i + a + (n - t)) (60 * k + b + (n - t)) t) (va_cpy xd xd (60 * i + a + (n - t)) (60 * k + b + (n - t)) t) (nI t) = _
    unfold f_X9_copy_s103
    by_cases h : n ≤ t
    · have e : t = n := by omega
      subst e
      rw [if_pos (nI_le (Nat.le_refl t) (by omega)), Nat.sub_self, Nat.add_zero, Nat.add_zero]
    · have hno : ¬ (60 * k + b + (n - t) ≤ 60 * i + a + (n - 1 - t) ∧ 60 * i + a + (n - 1 - t) < 60 * k + b + n) := by omega
      have ey : nI n - 1 - nI t = nI (n - 1 - t) := by
        rw [show (1 : Int32) = nI 1 from rfl, pk_sub (by omega), pk_sub (by omega)]
      rw [if_neg (nI_ge (a := t) (b := n) (by omega) (by omega)), if_pos (nI_le hab (by omega)), ey, copy_step xo xz _ _ _ _ _ _ _ _ _ _ rfl rfl rfl rfl (by omega) (by omega), cpy_bwd xw (by omega) hno, cpy_bwd xf (by omega) hno, cpy_bwd xd (by omega) hno, nI_1]
      exact ih (t + 1) (by omega) (by omega)
theorem copy_all (xo xz : Nat → Int32) (xw : Nat → Int64) (xf : Nat → UInt32) (xd : Nat → UInt64) {i k a b n : Nat} (hi : i < 4) (hk : k < 4) (ha : a + n ≤ 60) (hb : b + n ≤ 60) : f_X9_copy_b103 xo xz (nI i) (nI a) (nI k) (nI b) (nI n) 70 xw xf xd 0 = some (nI n, va_cpy xw xw (60 * i + a) (60 * k + b) n, va_cpy xf xf (60 * i + a) (60 * k + b) n, va_cpy xd xd (60 * i + a) (60 * k + b) n) := by
  by_cases h : b < a
  · have q := copy_fwd xo xz xw xf xd hi hk ha hb h 70 0 (by omega) (by omega)
    rw [cpy_none, cpy_none, cpy_none, nI_0] at q
    exact q
  · have q := copy_bwd xo xz xw xf xd hi hk ha hb (by omega) 70 0 (by omega) (by omega)
    rw [cpy_none, cpy_none, cpy_none, nI_0] at q
    exact q
theorem q_hasRun (sz i n : Int32) : f_X3_hasRun sz i n = some (if i < 0 ∨ n < 0 ∨ sz < i ∨ sz - i < n then 0 else 1) := by
  unfold f_X3_hasRun
  by_cases h1 : i < 0
  · rw [if_pos h1, if_pos (Or.inl h1)]
  · rw [if_neg h1]
    by_cases h2 : n < 0
    · rw [if_pos h2, if_pos (Or.inr (Or.inl h2))]
    · rw [if_neg h2]
      by_cases h3 : sz < i
      · rw [if_pos h3, if_pos (Or.inr (Or.inr (Or.inl h3)))]
      · rw [if_neg h3]
        by_cases h4 : sz - i < n
        · rw [if_pos h4, if_pos (Or.inr (Or.inr (Or.inr h4)))]
        · rw [if_neg h4, if_neg]
          rintro (q | q | q | q)
          · exact h1 q
          · exact h2 q
          · exact h3 q
          · exact h4 q
theorem run_cases {z : Nat} (hz : z ≤ 60) (p n : Int32) : ((p < 0 ∨ n < 0 ∨ nI z < p ∨ nI z - p < n) ∧ (n < 0 ∨ p < 0 ∨ nI z - p < n)) ∨ ∃ a c : Nat, a + c ≤ z ∧ p = nI a ∧ n = nI c ∧ ¬ (p < 0 ∨ n < 0 ∨ nI z < p ∨ nI z - p < n) ∧ ¬ nI z - p < n := by
  by_cases h1 : p < 0
  · exact Or.inl ⟨Or.inl h1, Or.inr (Or.inl h1)⟩
  by_cases h2 : n < 0
  · exact Or.inl ⟨Or.inr (Or.inl h2), Or.inl h2⟩
  obtain ⟨a, ha, rfl⟩ := nI_of h1
  obtain ⟨c, hc, rfl⟩ := nI_of h2
  have e : (nI z - nI a).toInt = (z : Int) - a := by
    rw [Int32.toInt_sub, nI_toInt (by omega), nI_toInt ha]
    exact Int.bmod_eq_of_le (by omega) (by omega)
  have e2 : nI z - nI a < nI c ↔ (z : Int) - a < c := by
    rw [Int32.lt_iff_toInt_lt, e, nI_toInt hc]
  by_cases h3 : a + c ≤ z
  · refine Or.inr ⟨a, c, h3, rfl, rfl, ?_, fun q => ?_⟩
    · rintro (q | q | q | q)
      · exact h1 q
      · exact h2 q
      · rw [nI_ltI (by omega) ha] at q
        omega
      · rw [e2] at q
        omega
    · rw [e2] at q
      omega
  · have q : nI z - nI a < nI c := e2.mpr (by omega)
    exact Or.inl ⟨Or.inr (Or.inr (Or.inr q)), Or.inr (Or.inr q)⟩
theorem take_ok {a b n : Nat} (ha : a + n ≤ 60) (hb : b + n ≤ 60) : ¬ nI a < 0 ∧ ¬ nI b < 0 ∧ ¬ nI n < 0 ∧ (nI a).toNatClampNeg + (nI n).toNatClampNeg ≤ 60 ∧ (nI b).toNatClampNeg + (nI n).toNatClampNeg ≤ 60 := by
  rw [nI_clamp (n := a) (by omega), nI_clamp (n := b) (by omega), nI_clamp (n := n) (by omega)]
  exact ⟨nI_pos (by omega), nI_pos (by omega), nI_pos (by omega), ha, hb⟩
/-- what take does: only the row of its own sort is another one -/
theorem take_both {si : Nat → Int32} {sl : Nat → Int64} {sf : Nat → UInt32} {sd : Nat → UInt64} {sn : Nat → Int32} {ui : Nat → Int32} {ul : Nat → Int64} {uf : Nat → UInt32} {ud : Nat → UInt64} {un : Nat → Int32} {so : Int32} (hso : sortI so) (hm : ¬ so = -1) {a b n : Nat} (ha : a + n ≤ 60) (hb : b + n ≤ 60) : ∃ (ui' : Nat → Int32) (ul' : Nat → Int64) (uf' : Nat → UInt32) (ud' : Nat → UInt64) (un' : Nat → Int32), f_X3_take ui ul uf ud un so si sl sf sd sn (nI a) (nI b) (nI n) = some (ui', ul', uf', ud', un') ∧ (so = 0 → ui' = va_cpy si ui a b n) ∧ (so = 1 → ul' = va_cpy sl ul a b n) ∧ (so = 2 → uf' = va_cpy sf uf a b n) ∧ (so = 3 → ud' = va_cpy sd ud a b n) ∧ un' = va_cpy sn un a b n := by
  have tk := take_ok ha hb
  unfold f_X3_take
  simp only [if_pos tk, nmE]
  rw [nI_clamp (n := a) (by omega), nI_clamp (n := b) (by omega), nI_clamp (n := n) (by omega)]
  rcases hso with e | e | e | e | e
  · exact absurd e hm
  · subst e
    rw [if_pos rfl]
    exact ⟨_, _, _, _, _, rfl, fun _ => rfl, fun e => absurd e (by decide), fun e => absurd e (by decide), fun e => absurd e (by decide), rfl⟩
  · subst e
    rw [if_neg (show ¬ (1 : Int32) = 0 by decide), if_pos rfl]
    exact ⟨_, _, _, _, _, rfl, fun e => absurd e (by decide), fun _ => rfl, fun e => absurd e (by decide), fun e => absurd e (by decide), rfl⟩
  · subst e
    rw [if_neg (show ¬ (2 : Int32) = 0 by decide), if_neg (show ¬ (2 : Int32) = 1 by decide), if_pos rfl]
    exact ⟨_, _, _, _, _, rfl, fun e => absurd e (by decide), fun e => absurd e (by decide), fun _ => rfl, fun e => absurd e (by decide), rfl⟩
  · subst e
    rw [if_neg (show ¬ (3 : Int32) = 0 by decide), if_neg (show ¬ (3 : Int32) = 1 by decide), if_neg (show ¬ (3 : Int32) = 2 by decide)]
    exact ⟨_, _, _, _, _, rfl, fun e => absurd e (by decide), fun e => absurd e (by decide), fun e => absurd e (by decide), fun _ => rfl, rfl⟩
theorem take_one_eq {si : Nat → Int32} {sl : Nat → Int64} {sf : Nat → UInt32} {sd : Nat → UInt64} {sn : Nat → Int32} (so p2 p3 p4 : Int32) : f_X3_take_one si sl sf sd sn so p2 p3 p4 = f_X3_take si sl sf sd sn so si sl sf sd sn p2 p3 p4 := rfl
/-- what lies behind a copy -/
theorem copy_out {si : Nat → Int32} {sl : Nat → Int64} {sf : Nat → UInt32} {sd : Nat → UInt64} {sn : Nat → Int32} {so sz : Int32} {xo xz : Nat → Int32} {xw : Nat → Int64} {xf : Nat → UInt32} {xd : Nat → UInt64} {ui : Nat → Int32} {ul : Nat → Int64} {uf : Nat → UInt32} {ud : Nat → UInt64} {un : Nat → Int32} {uz : Int32} {i k a b n : Nat} (hi : i < 4) (hk : k < 4) (h1 : ShAt (nI i) si sl sf sd sn so sz xo xz xw xf xd) (h2 : ShAt (nI k) ui ul uf ud un so uz xo xz xw xf xd) (ha : a + n ≤ 60) (hb : b + n ≤ 60) {ui' : Nat → Int32} {ul' : Nat → Int64} {uf' : Nat → UInt32} {ud' : Nat → UInt64} {un' : Nat → Int32} (q0 : so = 0 → ui' = va_cpy si ui a b n) (q1 : so = 1 → ul' = va_cpy sl ul a b n) (q2 : so = 2 → uf' = va_cpy sf uf a b n) (q3 : so = 3 → ud' = va_cpy sd ud a b n) (q4 : un' = va_cpy sn un a b n) :
    ShOut (nI k) ui ul uf ud un so uz xo xz xw xf xd ui' ul' uf' ud' un' so uz xo xz (va_cpy xw xw (60 * i + a) (60 * k + b) n) (va_cpy xf xf (60 * i + a) (60 * k + b) n) (va_cpy xd xd (60 * i + a) (60 * k + b) n) := by
  obtain ⟨s1, s2, s3, s4, s5⟩ := h1 i hi rfl
  obtain ⟨t1, t2, t3, t4, t5⟩ := h2 k hk rfl
  refine ⟨fun j hj ej => ?_, fun j hj ej => ?_, fun q => absurd rfl (q k hk)⟩
  · have : k = j := nI_inj (by omega) (by omega) ej
    subst this
    refine ⟨t1, t2, t3, t4, fun q hq => ?_⟩
    show CellI so (ui' q) (ul' q) (uf' q) (ud' q) (un' q) (va_cpy xw xw (60 * i + a) (60 * k + b) n (60 * k + q)) (va_cpy xf xf (60 * i + a) (60 * k + b) n (60 * k + q)) (va_cpy xd xd (60 * i + a) (60 * k + b) n (60 * k + q))
    by_cases z : b ≤ q ∧ q < b + n
    · have e : 60 * i + a + (60 * k + q - (60 * k + b)) = 60 * i + (a + (q - b)) := by omega
      rw [pk_cpy_in (by omega) (by omega), pk_cpy_in (by omega) (by omega), pk_cpy_in (by omega) (by omega), e]
      obtain ⟨c0, c1, c2, c3, c4', c5⟩ := s5 (a + (q - b)) (by omega)
      exact ⟨fun e => by rw [q0 e, pk_cpy_in z.1 z.2]; exact c0 e, fun e => by rw [q1 e, pk_cpy_in z.1 z.2]; exact c1 e, fun e => by rw [q2 e, q4, pk_cpy_in z.1 z.2, pk_cpy_in z.1 z.2]; exact c2 e, fun e => by rw [q3 e, q4, pk_cpy_in z.1 z.2, pk_cpy_in z.1 z.2]; exact c3 e, c4', c5⟩
    · rw [pk_cpy_out (by omega), pk_cpy_out (by omega), pk_cpy_out (by omega)]
      obtain ⟨c0, c1, c2, c3, c4', c5⟩ := t5 q hq
      exact ⟨fun e => by rw [q0 e, pk_cpy_out (by omega)]; exact c0 e, fun e => by rw [q1 e, pk_cpy_out (by omega)]; exact c1 e, fun e => by rw [q2 e, q4, pk_cpy_out (by omega), pk_cpy_out (by omega)]; exact c2 e, fun e => by rw [q3 e, q4, pk_cpy_out (by omega), pk_cpy_out (by omega)]; exact c3 e, c4', c5⟩
  · have hne : k ≠ j := fun e => ej (by rw [e])
    exact ⟨rfl, rfl, fun q hq => ⟨pk_cpy_out (by omega), pk_cpy_out (by omega), pk_cpy_out (by omega)⟩⟩
theorem copy_bad (xo xz : Nat → Int32) (xw : Nat → Int64) (xf : Nat → UInt32) (xd : Nat → UInt64) (p1 p2 p3 p4 p5 : Int32) (h : (p1 < 0 ∨ 3 < p1) ∨ (p3 < 0 ∨ 3 < p3)) : f_X9_copy xo xz xw xf xd p1 p2 p3 p4 p5 = some (-2, xw, xf, xd) := by
  unfold f_X9_copy
  rw [q_isSheet, q_isSheet, bE1, bE1]
  simp only [h01]
  by_cases b1 : p1 < 0 ∨ 3 < p1
  · exact if_pos b1
  · rw [if_neg b1]
    exact if_pos (h.resolve_left b1)
theorem s_copy_both {si : Nat → Int32} {sl : Nat → Int64} {sf : Nat → UInt32} {sd : Nat → UInt64} {sn : Nat → Int32} {so sz : Int32} {xo xz : Nat → Int32} {xw : Nat → Int64} {xf : Nat → UInt32} {xd : Nat → UInt64} {ui : Nat → Int32} {ul : Nat → Int64} {uf : Nat → UInt32} {ud : Nat → UInt64} {un : Nat → Int32} {uo uz : Int32} {i k : Nat} (hi : i < 4) (hk : k < 4) (p2 p4 p5 : Int32) (h1 : ShAt (nI i) si sl sf sd sn so sz xo xz xw xf xd) (h2 : ShAt (nI k) ui ul uf ud un uo uz xo xz xw xf xd) :
    ∃ (r : Int32) (ui' : Nat → Int32) (ul' : Nat → Int64) (uf' : Nat → UInt32) (ud' : Nat → UInt64) (un' : Nat → Int32) (xw' : Nat → Int64) (xf' : Nat → UInt32) (xd' : Nat → UInt64), f_X8_copy_diff si sl sf sd sn so sz ui ul uf ud un uo uz (nI i) p2 (nI k) p4 p5 = some (r, ui', ul', uf', ud', un') ∧ f_X9_copy xo xz xw xf xd (nI i) p2 (nI k) p4 p5 = some (r, xw', xf', xd') ∧ ShOut (nI k) ui ul uf ud un uo uz xo xz xw xf xd ui' ul' uf' ud' un' uo uz xo xz xw' xf' xd' := by
  obtain ⟨s1, s2, s3, ⟨z, hz, rfl⟩, s5⟩ := h1 i hi rfl
  obtain ⟨t1, t2, t3, ⟨y, hy, rfl⟩, t5⟩ := h2 k hk rfl
  have E8 : f_X8_copy_diff si sl sf sd sn so (nI z) ui ul uf ud un uo (nI y) (nI i) p2 (nI k) p4 p5 = f_X8_copy_diff si sl sf sd sn so (nI z) ui ul uf ud un uo (nI y) (nI i) p2 (nI k) p4 p5 := rfl
  have E9 : f_X9_copy xo xz xw xf xd (nI i) p2 (nI k) p4 p5 = f_X9_copy xo xz xw xf xd (nI i) p2 (nI k) p4 p5 := rfl
  conv at E8 => rhs; unfold f_X8_copy_diff; simp only [q_isNoSheet, q_isMissing3, q_hasRun, bs1, h10, h01, c4 hi, g4 hi, c4 hk, g4 hk]
  conv at E9 => rhs; unfold f_X9_copy; simp only [q_isSheet, bs1, h01, c4 hi, g4 hi, c4 hk, g4 hk, s1, s2, t1, t2]
  have same : ∀ r : Int32, f_X8_copy_diff si sl sf sd sn so (nI z) ui ul uf ud un uo (nI y) (nI i) p2 (nI k) p4 p5 = some (r, ui, ul, uf, ud, un) → f_X9_copy xo xz xw xf xd (nI i) p2 (nI k) p4 p5 = some (r, xw, xf, xd) → ∃ (r : Int32) (ui' : Nat → Int32) (ul' : Nat → Int64) (uf' : Nat → UInt32) (ud' : Nat → UInt64) (un' : Nat → Int32) (xw' : Nat → Int64) (xf' : Nat → UInt32) (xd' : Nat → UInt64), f_X8_copy_diff si sl sf sd sn so (nI z) ui ul uf ud un uo (nI y) (nI i) p2 (nI k) p4 p5 = some (r, ui', ul', uf', ud', un') ∧ f_X9_copy xo xz xw xf xd (nI i) p2 (nI k) p4 p5 = some (r, xw', xf', xd') ∧ ShOut (nI k) ui ul uf ud un uo (nI y) xo xz xw xf xd ui' ul' uf' ud' un' uo (nI y) xo xz xw' xf' xd' :=
    fun r a b => ⟨r, ui, ul, uf, ud, un, xw, xf, xd, a, b, ShOut.refl h2⟩
  rw [if_pos (in3 hi), if_pos (in3 hk)] at E8
  rw [if_neg (in3 hi), if_neg (in3 hk)] at E9
  by_cases m1 : so = -1
  · exact same (-11) (E8.trans (if_neg (fun q => q m1))) (E9.trans (if_pos ((sort0' s3).mpr m1)))
  rw [if_pos m1] at E8
  rw [if_neg (fun q => m1 ((sort0' s3).mp q))] at E9
  by_cases m2 : uo = -1
  · exact same (-11) (E8.trans (if_neg (fun q => q m2))) (E9.trans (if_neg (fun q => (sort0 t3).mp q m2)))
  rw [if_pos m2] at E8
  rw [if_pos ((sort0 t3).mpr m2)] at E9
  by_cases m3 : so = uo
  · rw [if_pos m3] at E8 E9
    subst m3
    rcases run_cases hz p2 p5 with ⟨r1, r1'⟩ | ⟨a, n, ha, rfl, rfl, r1, r1'⟩
    · rw [if_pos r1] at E8
      refine same (-12) E8 (E9.trans ?_)
      by_cases n1 : p5 < 0
      · exact if_pos n1
      · rw [if_neg n1]
        by_cases n2 : p2 < 0
        · exact if_pos n2
        · rw [if_neg n2]
          by_cases n3 : p4 < 0
          · exact if_pos n3
          · rw [if_neg n3]
            exact if_pos ((r1'.resolve_left n1).resolve_left n2)
    · rw [if_neg r1] at E8
      rw [if_neg (nI_pos (n := n) (by omega)), if_neg (nI_pos (n := a) (by omega))] at E9
      rcases run_cases hy p4 (nI n) with ⟨r2, r2'⟩ | ⟨b, c, hb, rfl, e, r2, r2'⟩
      · rw [if_pos r2] at E8
        refine same (-12) E8 (E9.trans ?_)
        by_cases n3 : p4 < 0
        · exact if_pos n3
        · rw [if_neg n3, if_neg r1']
          exact if_neg (fun q => absurd ((r2'.resolve_left (nI_pos (by omega))).resolve_left n3) (Int32.not_lt.mpr q))
      · have : n = c := nI_inj (by omega) (by omega) e
        subst this
        rw [if_neg r2] at E8
        rw [if_neg (nI_pos (n := b) (by omega)), if_neg r1', if_pos (Int32.not_lt.mp r2'), copy_all xo xz xw xf xd hi hk (by omega) (by omega)] at E9
        obtain ⟨ui', ul', uf', ud', un', k0, k1, k2, k3, k4, k5⟩ := take_both (si := si) (sl := sl) (sf := sf) (sd := sd) (sn := sn) (ui := ui) (ul := ul) (uf := uf) (ud := ud) (un := un) s3 m1 (a := a) (b := b) (n := n) (by omega) (by omega)
        rw [k0, bE5] at E8
        exact ⟨_, _, _, _, _, _, _, _, _, E8, E9, copy_out hi hk h1 h2 (by omega) (by omega) k1 k2 k3 k4 k5⟩
  · rw [if_neg m3] at E8 E9
    exact same (-13) E8 E9
theorem copy_one_eq {si : Nat → Int32} {sl : Nat → Int64} {sf : Nat → UInt32} {sd : Nat → UInt64} {sn : Nat → Int32} (so sz p1 p2 p4 p5 : Int32) : f_X8_copy_one si sl sf sd sn so sz p1 p2 p4 p5 = f_X8_copy_diff si sl sf sd sn so sz si sl sf sd sn so sz p1 p2 p1 p4 p5 := rfl
theorem place_cases (p2 : Int32) {k z : Nat} (hk : k < 15) (hz : z ≤ 60) : (∃ a : Nat, a + 4 ≤ z ∧ ¬ 60 < p2 ∧ p2 + 4 * nI k = nI a ∧ p2.toInt64 + 4 * (nI k).toInt64 = lN a) ∨ ((60 < p2 ∨ (p2 + 4 * nI k < 0 ∨ (4 : Int32) < 0 ∨ nI z < p2 + 4 * nI k ∨ nI z - (p2 + 4 * nI k) < 4)) ∧ (p2.toInt64 + 4 * (nI k).toInt64 < 0 ∨ (nI z - 4).toInt64 < p2.toInt64 + 4 * (nI k).toInt64)) := by
  have l1 := p2.le_toInt
  have l2 := p2.toInt_lt
  have z60 : (60 : Int32).toInt = 60 := rfl
  have z4 : (4 : Int32).toInt = 4 := rfl
  have z0 : (0 : Int32).toInt = 0 := rfl
  have z0' : (0 : Int64).toInt = 0 := rfl
  have ek : (4 : Int32) * nI k = nI (4 * k) := by
    rw [show (4 : Int32) = nI 4 from rfl, pk_mul]
  have ek' : (4 : Int64) * (nI k).toInt64 = lN (4 * k) := by
    rw [nI_l (by omega), show (4 : Int64) = lN 4 from rfl, lN_mul]
  have t1 : (nI (4 * k)).toInt = 4 * (k : Int) := by
    rw [nI_toInt (by omega)]
    omega
  have t2 : (lN (4 * k)).toInt = 4 * (k : Int) := by
    rw [lN_toInt (by omega)]
    omega
  have tv : (p2.toInt64 + lN (4 * k)).toInt = p2.toInt + 4 * (k : Int) := by
    rw [Int64.toInt_add, t2, Int32.toInt_toInt64]
    exact Int.bmod_eq_of_le (by omega) (by omega)
  have tz : ((nI z - 4).toInt64).toInt = (z : Int) - 4 := by
    rw [Int32.toInt_toInt64, Int32.toInt_sub, nI_toInt (by omega), z4]
    exact Int.bmod_eq_of_le (by omega) (by omega)
  rw [ek, ek']
  by_cases ok : 0 ≤ p2.toInt + 4 * (k : Int) ∧ p2.toInt + 4 * (k : Int) ≤ (z : Int) - 4
  · have tx : (p2 + nI (4 * k)).toInt = p2.toInt + 4 * (k : Int) := by
      rw [Int32.toInt_add, t1]
      exact Int.bmod_eq_of_le (by omega) (by omega)
    refine Or.inl ⟨(p2.toInt + 4 * (k : Int)).toNat, by omega, ?_, ?_, ?_⟩
    · rw [Int32.lt_iff_toInt_lt, z60]
      omega
    · rw [← Int32.toInt_inj, tx, nI_toInt (by omega)]
      omega
    · rw [← Int64.toInt_inj, tv, lN_toInt (by omega)]
      omega
  · refine Or.inr ⟨?_, ?_⟩
    · by_cases h6 : 60 < p2
      · exact Or.inl h6
      · have h6' : ¬ 60 < p2.toInt := fun q => h6 (by rw [Int32.lt_iff_toInt_lt, z60]; exact q)
        have tx : (p2 + nI (4 * k)).toInt = p2.toInt + 4 * (k : Int) := by
          rw [Int32.toInt_add, t1]
          exact Int.bmod_eq_of_le (by omega) (by omega)
        refine Or.inr ?_
        by_cases a1 : p2.toInt + 4 * (k : Int) < 0
        · refine Or.inl ?_
          rw [Int32.lt_iff_toInt_lt, tx, z0]
          exact a1
        · refine Or.inr (Or.inr ?_)
          by_cases a2 : (z : Int) < p2.toInt + 4 * (k : Int)
          · refine Or.inl ?_
            rw [Int32.lt_iff_toInt_lt, tx, nI_toInt (by omega)]
            exact a2
          · refine Or.inr ?_
            rw [Int32.lt_iff_toInt_lt, Int32.toInt_sub, tx, nI_toInt (by omega), z4, Int.bmod_eq_of_le (by omega) (by omega)]
            omega
    · rw [Int64.lt_iff_toInt_lt, Int64.lt_iff_toInt_lt, tv, tz, z0']
      omega
theorem add_both {kd fg lo hi jn nr : Nat → Int32} {la : Nat → Int64} {P L T : Nat} (h : NetI kd fg lo hi jn nr la P L T) (N : Nat) (p1 p2 p3 p4 : Int32) :
    ∃ (r : Int32) (kd' fg' lo' hi' jn' nr' : Nat → Int32) (la' : Nat → Int64) (L' c : Nat), f_X1_add kd fg lo hi jn nr la (nI P) (nI L) (nI N) p1 p2 p3 p4 = some (r, kd', fg', lo', hi', jn', nr', la', nI L', nI (N + c)) ∧ f_X9_line (nI P) (nI L) kd fg lo hi p1 p2 p3 p4 = some (r, nI L', kd', fg', lo', hi') ∧ NetI kd' fg' lo' hi' jn' nr' la' P L' T ∧ c ≤ 1 ∧ (c = 0 → kd' = kd ∧ fg' = fg ∧ lo' = lo ∧ hi' = hi ∧ jn' = jn ∧ nr' = nr ∧ la' = la ∧ L' = L) := by
  have E8 : f_X8_line kd fg lo hi jn nr la (nI P) (nI L) (nI N) p1 p2 p3 p4 = f_X1_add kd fg lo hi jn nr la (nI P) (nI L) (nI N) p1 p2 p3 p4 := by
    unfold f_X8_line
    cases f_X1_add kd fg lo hi jn nr la (nI P) (nI L) (nI N) p1 p2 p3 p4 <;> rfl
  obtain ⟨r, kd', fg', lo', hi', jn', nr', la', L', ag', q1, q2, q3, q4⟩ := s_line h (nI N) p1 p2 p3 p4
  rw [E8] at q1
  rcases q4 with ⟨e, q4⟩ | e
  · subst e
    exact ⟨r, kd', fg', lo', hi', jn', nr', la', L', 0, q1, q2, q3, by omega, fun _ => q4⟩
  · subst e
    rw [nI_1] at q1
    exact ⟨r, kd', fg', lo', hi', jn', nr', la', L', 1, q1, q2, q3, by omega, fun e => absurd e (by decide)⟩
theorem build_loop {P T : Nat} {si : Nat → Int32} {so : Int32} {xo xz : Nat → Int32} {xw : Nat → Int64} {i z n : Nat} (hi4 : i < 4) (hz : z ≤ 60) (hn : n ≤ 15) (e2 : xz i = nI z) (hw : ∀ j, j < 60 → xw (60 * i + j) = (si j).toInt64) (p2 : Int32) : ∀ (m m' k : Nat) (kd fg lo hi jn nr : Nat → Int32) (la : Nat → Int64) (L N : Nat) (cm : Int32), k ≤ n → n - k < m → n - k < m' → NetI kd fg lo hi jn nr la P L T →
    ∃ (r : Int32) (kd' fg' lo' hi' jn' nr' : Nat → Int32) (la' : Nat → Int64) (L' c : Nat), f_X8_build_b67 (nI P) si so (nI z) (nI i) p2 (nI n) m kd fg lo hi jn nr la (nI L) (nI N) cm (nI k) = some (r, kd', fg', lo', hi', jn', nr', la', nI L', nI (N + c)) ∧ f_X9_build_b52 (nI P) xo xz xw (nI i) p2 (nI n) m' (nI L) kd fg lo hi cm (nI k) = some (r, nI L', kd', fg', lo', hi') ∧ NetI kd' fg' lo' hi' jn' nr' la' P L' T ∧ c + k ≤ n ∧ (c = 0 → kd' = kd ∧ fg' = fg ∧ lo' = lo ∧ hi' = hi ∧ jn' = jn ∧ nr' = nr ∧ la' = la ∧ L' = L) := by
  intro m
  induction m with
  | zero =>
    intro m' k kd fg lo hi jn nr la L N cm _ h
    omega
  | succ m ih =>
    intro m' k kd fg lo hi jn nr la L N cm hk hm1 hm2 hN
    obtain ⟨m', rfl⟩ : ∃ z, m' = z + 1 := ⟨m' - 1, by omega⟩
    show ∃ (r : Int32) (kd' fg' lo' hi' jn' nr' : Nat → Int32) (la' : Nat → Int64) (L' c : Nat), f_X8_build_s67 (nI P) si so (nI z) (nI i) p2 (nI n) (f_X8_build_b67 (nI P) si so (nI z) (nI i) p2 (nI n) m) kd fg lo hi jn nr la (nI L) (nI N) cm (nI k) = some (r, kd', fg', lo', hi', jn', nr', la', nI L', nI (N + c)) ∧ f_X9_build_s52 (nI P) xo xz xw (nI i) p2 (nI n) (f_X9_build_b52 (nI P) xo xz xw (nI i) p2 (nI n) m') (nI L) kd fg lo hi cm (nI k) = some (r, nI L', kd', fg', lo', hi') ∧ _
    unfold f_X8_build_s67 f_X9_build_s52
    by_cases h : n ≤ k
    · rw [if_pos (nI_le h (by omega)), if_pos (nI_le h (by omega))]
      exact ⟨_, kd, fg, lo, hi, jn, nr, la, L, 0, rfl, rfl, hN, by omega, fun _ => ⟨rfl, rfl, rfl, rfl, rfl, rfl, rfl, rfl⟩⟩
    · rw [if_neg (nI_ge (a := k) (b := n) (by omega) (by omega)), if_neg (nI_ge (a := k) (b := n) (by omega) (by omega)), gN hi4 (by decide), nmE (p2.toInt64 + 4 * (nI k).toInt64), gN hi4 (by decide), c4 hi4, e2, q_hasRun, bE1, q_in, bE1]
      simp only [h01]
      rcases place_cases p2 (k := k) (by omega) hz with ⟨a, ha, g1, g2, g3⟩ | ⟨g1, g2⟩
      · have r8 : ¬ (nI a < 0 ∨ (4 : Int32) < 0 ∨ nI z < nI a ∨ nI z - nI a < 4) := by
          rintro (q | q | q | q)
          · exact nI_pos (by omega) q
          · exact absurd q (by decide)
          · exact nI_nlt (a := z) (b := a) (by omega) (by omega) q
          · rw [pk_sub (by omega)] at q
            exact nI_nlt (a := z - a) (b := 4) (by omega) (by omega) q
        have r9 : ¬ (lN a < 0 ∨ (nI z - 4).toInt64 < lN a) := by
          rintro (q | q)
          · rw [Int64.lt_iff_toInt_lt, lN_toInt (by omega), show (0 : Int64).toInt = 0 from rfl] at q
            omega
          · rw [show (4 : Int32) = nI 4 from rfl, pk_sub (by omega), nI_l (by omega), lN_lt (by omega) (by omega)] at q
            omega
        have a0 : a < 60 := by omega
        have a1 : a + 1 < 60 := by omega
        have a2 : a + 2 < 60 := by omega
        have a3 : a + 3 < 60 := by omega
        have b0 : 60 * i + a < 240 := by omega
        have b1 : 60 * i + a + 1 < 240 := by omega
        have b2 : 60 * i + a + 2 < 240 := by omega
        have b3 : 60 * i + a + 3 < 240 := by omega
        have s2 : nI a + 2 = nI (a + 2) := nI_add a 2
        have s3 : nI a + 3 = nI (a + 3) := nI_add a 3
        have s2' : nI (60 * i + a) + 2 = nI (60 * i + a + 2) := nI_add _ 2
        have s3' : nI (60 * i + a) + 3 = nI (60 * i + a + 3) := nI_add _ 3
        rw [if_neg g1, g2, g3, if_neg r8, if_neg r9]
        simp only [nm, lN_i, mul60, nI_1, s2, s3, s2', s3', c60 a0, c60 a1, c60 a2, c60 a3, g60 a0, g60 a1, g60 a2, g60 a3, c240 b0, c240 b1, c240 b2, c240 b3, g240 b0, g240 b1, g240 b2, g240 b3]
        have w0 := hw a a0
        have w1 := hw (a + 1) a1
        have w2 := hw (a + 2) a2
        have w3 := hw (a + 3) a3
        rw [← Nat.add_assoc] at w1 w2 w3
        rw [w0, w1, w2, w3, Int32.toInt32_toInt64, Int32.toInt32_toInt64, Int32.toInt32_toInt64, Int32.toInt32_toInt64]
        obtain ⟨r, kd', fg', lo', hi', jn', nr', la', L', c, q1, q2, q3, q4, q5⟩ := add_both hN N (si a) (si (a + 1)) (si (a + 2)) (si (a + 3))
        rw [q1, bE10, q2, bE6]
        have step : ∀ cm' : Int32, ∃ (r : Int32) (kd1 fg1 lo1 hi1 jn1 nr1 : Nat → Int32) (la1 : Nat → Int64) (L1 c1 : Nat), f_X8_build_b67 (nI P) si so (nI z) (nI i) p2 (nI n) m kd' fg' lo' hi' jn' nr' la' (nI L') (nI (N + c)) cm' (nI (k + 1)) = some (r, kd1, fg1, lo1, hi1, jn1, nr1, la1, nI L1, nI (N + c1)) ∧ f_X9_build_b52 (nI P) xo xz xw (nI i) p2 (nI n) m' (nI L') kd' fg' lo' hi' cm' (nI (k + 1)) = some (r, nI L1, kd1, fg1, lo1, hi1) ∧ NetI kd1 fg1 lo1 hi1 jn1 nr1 la1 P L1 T ∧ c1 + k ≤ n ∧ (c1 = 0 → kd1 = kd ∧ fg1 = fg ∧ lo1 = lo ∧ hi1 = hi ∧ jn1 = jn ∧ nr1 = nr ∧ la1 = la ∧ L1 = L) := by
          intro cm'
          obtain ⟨r, kd1, fg1, lo1, hi1, jn1, nr1, la1, L1, c1, t1, t2, t3, t4, t5⟩ := ih m' (k + 1) kd' fg' lo' hi' jn' nr' la' L' (N + c) cm' (by omega) (by omega) (by omega) q3
          rw [Nat.add_assoc] at t1
          refine ⟨r, kd1, fg1, lo1, hi1, jn1, nr1, la1, L1, c + c1, t1, t2, t3, by omega, fun e => ?_⟩
          obtain ⟨u1, u2, u3, u4, u5, u6, u7, u8⟩ := t5 (by omega)
          obtain ⟨v1, v2, v3, v4, v5, v6, v7, v8⟩ := q5 (by omega)
          exact ⟨u1.trans v1, u2.trans v2, u3.trans v3, u4.trans v4, u5.trans v5, u6.trans v6, u7.trans v7, u8.trans v8⟩
        by_cases hr : r < 0
        · rw [if_pos hr, if_neg (Int32.not_le.mpr hr)]
          exact step _
        · rw [if_neg hr, if_pos (Int32.not_lt.mp hr)]
          exact step _
      · rw [if_pos g2]
        by_cases h6 : 60 < p2
        · rw [if_pos h6]
          exact ⟨_, kd, fg, lo, hi, jn, nr, la, L, 0, rfl, rfl, hN, by omega, fun _ => ⟨rfl, rfl, rfl, rfl, rfl, rfl, rfl, rfl⟩⟩
        · rw [if_neg h6, if_pos (g1.resolve_left h6)]
          exact ⟨_, kd, fg, lo, hi, jn, nr, la, L, 0, rfl, rfl, hN, by omega, fun _ => ⟨rfl, rfl, rfl, rfl, rfl, rfl, rfl, rfl⟩⟩
theorem s_build {kd fg lo hi jn nr : Nat → Int32} {la : Nat → Int64} {P L T : Nat} (h : NetI kd fg lo hi jn nr la P L T) (N : Nat) (p1 p2 p3 : Int32) {si : Nat → Int32} {sl : Nat → Int64} {sf : Nat → UInt32} {sd : Nat → UInt64} {sn : Nat → Int32} {so sz : Int32} {xo xz : Nat → Int32} {xw : Nat → Int64} {xf : Nat → UInt32} {xd : Nat → UInt64} (hs : ShAt p1 si sl sf sd sn so sz xo xz xw xf xd) :
    ∃ (r : Int32) (kd' fg' lo' hi' jn' nr' : Nat → Int32) (la' : Nat → Int64) (L' c : Nat), f_X8_build kd fg lo hi jn nr la (nI P) (nI L) (nI N) si so sz p1 p2 p3 = some (r, kd', fg', lo', hi', jn', nr', la', nI L', nI (N + c)) ∧ f_X9_build (nI P) (nI L) kd fg lo hi xo xz xw p1 p2 p3 = some (r, nI L', kd', fg', lo', hi') ∧ NetI kd' fg' lo' hi' jn' nr' la' P L' T ∧ c ≤ 15 ∧ (c = 0 → kd' = kd ∧ fg' = fg ∧ lo' = lo ∧ hi' = hi ∧ jn' = jn ∧ nr' = nr ∧ la' = la ∧ L' = L) := by
  have same : ∀ r : Int32, f_X8_build kd fg lo hi jn nr la (nI P) (nI L) (nI N) si so sz p1 p2 p3 = some (r, kd, fg, lo, hi, jn, nr, la, nI L, nI N) → f_X9_build (nI P) (nI L) kd fg lo hi xo xz xw p1 p2 p3 = some (r, nI L, kd, fg, lo, hi) → ∃ (r : Int32) (kd' fg' lo' hi' jn' nr' : Nat → Int32) (la' : Nat → Int64) (L' c : Nat), f_X8_build kd fg lo hi jn nr la (nI P) (nI L) (nI N) si so sz p1 p2 p3 = some (r, kd', fg', lo', hi', jn', nr', la', nI L', nI (N + c)) ∧ f_X9_build (nI P) (nI L) kd fg lo hi xo xz xw p1 p2 p3 = some (r, nI L', kd', fg', lo', hi') ∧ NetI kd' fg' lo' hi' jn' nr' la' P L' T ∧ c ≤ 15 ∧ (c = 0 → kd' = kd ∧ fg' = fg ∧ lo' = lo ∧ hi' = hi ∧ jn' = jn ∧ nr' = nr ∧ la' = la ∧ L' = L) :=
    fun r a b => ⟨r, kd, fg, lo, hi, jn, nr, la, L, 0, a, b, h, by omega, fun _ => ⟨rfl, rfl, rfl, rfl, rfl, rfl, rfl, rfl⟩⟩
  have E8 : f_X8_build kd fg lo hi jn nr la (nI P) (nI L) (nI N) si so sz p1 p2 p3 = f_X8_build kd fg lo hi jn nr la (nI P) (nI L) (nI N) si so sz p1 p2 p3 := rfl
  have E9 : f_X9_build (nI P) (nI L) kd fg lo hi xo xz xw p1 p2 p3 = f_X9_build (nI P) (nI L) kd fg lo hi xo xz xw p1 p2 p3 := rfl
  conv at E8 => rhs; unfold f_X8_build; simp only [q_isNoSheet, q_isBeyond, q_isMissing3, bs1, h10]
  conv at E9 => rhs; unfold f_X9_build; simp only [q_isSheet, q_inL p3 (lo := 0) (hi := 15) 0 15 rfl rfl, bs1, h01]
  by_cases b1 : p1 < 0 ∨ 3 < p1
  · exact same (-2) (E8.trans (if_neg (fun q => q b1))) (E9.trans (if_pos b1))
  rw [if_pos b1] at E8
  rw [if_neg b1] at E9
  by_cases b2 : p3 < 0 ∨ 15 < p3
  · exact same (-2) (E8.trans (if_neg (fun q => q b2))) (E9.trans (if_pos b2))
  rw [if_pos b2] at E8
  rw [if_neg b2] at E9
  obtain ⟨i, hi4, rfl⟩ := of3 b1
  obtain ⟨n, hn, rfl⟩ := nI_of2 (M := 15) (n := 15) rfl (fun q => b2 (Or.inl q)) (Int32.not_lt.mp (fun q => b2 (Or.inr q)))
  obtain ⟨e1, e2, e3, ⟨z, hz, rfl⟩, hh⟩ := hs i hi4 rfl
  simp only [c4 hi4, g4 hi4, e1] at E8 E9
  by_cases m : so = -1
  · exact same (-11) (E8.trans (if_neg (fun q => q m))) (E9.trans (if_neg (fun q => (sort0 e3).mp q m)))
  rw [if_pos m] at E8
  rw [if_pos ((sort0 e3).mpr m)] at E9
  by_cases m0 : so = 0
  · rw [if_pos m0] at E8 E9
    obtain ⟨r, kd', fg', lo', hi', jn', nr', la', L', c, q1, q2, q3, q4, q5⟩ := build_loop (P := P) (T := T) (si := si) (so := so) (xo := xo) hi4 hz hn e2 (fun j hj => (hh j hj).1 m0) p2 70 70 0 kd fg lo hi jn nr la L N 0 (by omega) (by omega) (by omega) h
    rw [nI_0] at q1 q2
    exact ⟨r, kd', fg', lo', hi', jn', nr', la', L', c, E8.trans q1, E9.trans q2, q3, by omega, q5⟩
  · rw [if_neg m0] at E8 E9
    exact same (-13) E8 E9
