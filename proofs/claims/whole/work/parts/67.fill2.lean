/-! pure rows: the class's table, all sets -/
theorem fill_ok {nr wt : Nat → Int32} {S : Int32} (hw : ∀ i, i < 144 → ¬ wt i < 0) : ∀ n, FillOk nr wt S n := by
  intro n
  induction n with
  | zero =>
    intro s d wo lg st _ h
    omega
  | succ n ih =>
    intro s d wo lg st hs hn hd hF
    show ∃ wo' lg' st', f_X4_fill_st (f_X4_fill n) wo lg st nr wt S (nI s) (nI d) = some (wo', lg', st') ∧ _
    unfold f_X4_fill_st
    rw [g4096 hs]
    by_cases h : st s = S
    · rw [c4096 hs, if_pos h]
      exact ⟨wo, lg, st, rfl, hF, h, fun t => Or.inl rfl, fun t _ => ⟨rfl, rfl⟩, fun _ _ => rfl⟩
    · rw [c4096 hs, if_neg h, if_pos (show nI d ≤ 12 from nI_le (a := d) (b := 12) (by omega) (by decide)), gC hs (by decide), nmE, nmE, mul7r]
      by_cases h0 : s = 0
      · subst h0
        rw [if_pos (show nI 0 = 0 from rfl), gN (n := 7 * 0) (N := 28672) (by decide) (by decide), nmE, nI_clamp (n := 7 * 0) (by decide)]
        refine ⟨_, _, _, rfl, ⟨fun t ht hst => ?_, fun k h1 h7 => ?_, hF.2.2⟩, ?_, fun t => ?_, fun t ht => ?_, fun i hi => ?_⟩
        · have : t = 0 := by omega
          subst this
          refine ⟨fun k hk => ?_, hF.2.2⟩
          rw [Rr_0]
          show _ = if k = 0 then _ else _
          by_cases z : k = 0
          · subst z
            rw [if_pos rfl]
            exact pk_uLs
          · rw [if_neg z, pk_uLn (by omega), show 7 * 0 + k = k by omega]
            exact hF.2.1 k (by omega) hk
        · rw [pk_uLn (by omega)]
          exact hF.2.1 k h1 h7
        · exact pk_us
        · by_cases z : t = 0
          · subst z
            exact Or.inr pk_us
          · exact Or.inl (pk_un z)
        · exact ⟨pk_un (by omega), rfl⟩
        · exact pk_uLn (by omega)
      · obtain ⟨l1, l2, l3, l4⟩ := (low_ok s hs).resolve_left h0
        have hp2 := Nat.two_pow_pos (low s)
        have hpop := pop_low hs h0
        rw [if_neg (show ¬ nI s = 0 from nI_ne (b := 0) (by omega) (by decide) h0), nmE, (bit_least s hs).resolve_left h0, bc_low _ l1, bE1, nmE, (bit_rest s hs).resolve_left h0, nI_1]
        obtain ⟨wo1, lg1, st1, q1, q2, q3, q4, q5, q6⟩ := ih (s - 2 ^ low s) (d + 1) wo lg (upd st s S) (by omega) (by omega) (by omega) ⟨fun t ht hst => hF.1 t (by omega) (by rw [pk_un (by omega)] at hst; exact hst), hF.2.1, hF.2.2⟩
        obtain ⟨r1, r2⟩ := q2.1 (s - 2 ^ low s) (by omega) q3
        rw [q1, bE3, mul7r]
        have c7 : (7 : Int32).toNatClampNeg = 7 := nI_clamp (n := 7) (by decide)
        rw [c7, nI_clamp (show 7 * (s - 2 ^ low s) < 2 ^ 31 by omega), nI_clamp (show 7 * s < 2 ^ 31 by omega)]
        rw [if_pos ⟨nI_pos (by omega), nI_pos (by omega), by decide, by omega, by omega⟩, nmE, g4096 (by omega), gC hs (by decide), nmE, c4096 (show s - 2 ^ low s < 4096 by omega), gN (n := low s) (N := 12) l1 (by decide), nmE, nmE, c12 l1, nI_1]
        obtain ⟨e1, e2⟩ := q5 s (by omega)
        have cp1 : ∀ k, k < 7 → va_cpy wo1 wo1 (7 * (s - 2 ^ low s)) (7 * s) 7 (7 * s + k) = wo1 (7 * (s - 2 ^ low s) + k) := by
          intro k hk
          unfold va_cpy
          rw [if_pos (by omega)]
          congr 1
          omega
        have cp2 : ∀ i, (i < 7 * s ∨ 7 * s + 7 ≤ i) → va_cpy wo1 wo1 (7 * (s - 2 ^ low s)) (7 * s) 7 i = wo1 i := by
          intro i hi
          unfold va_cpy
          rw [if_neg (by omega)]
        have hF1 : FI (Et nr wt) S s wo1 lg1 st1 := FI.lift (b := s) ⟨fun t ht hst => hF.1 t (by omega) (by rw [pk_un (by omega)] at hst; exact hst), hF.2.1, hF.2.2⟩ q2 q5 q6
        obtain ⟨wo', lg', st', y1, y2, y3, y4, y5, y6, y7, y8⟩ := fill_loop hw ih (s := s) (p := low s) (rest := s - 2 ^ low s) (d := d) hs (by omega) l1 (by omega) (by omega) 70 (low s + 1) (va_cpy wo1 wo1 (7 * (s - 2 ^ low s)) (7 * s) 7) (upd lg1 s (lg1 (s - 2 ^ low s))) st1 (by omega) (by omega) (by omega) ⟨fun t ht hst => by
            obtain ⟨f1, f2⟩ := hF1.1 t ht hst
            refine ⟨fun k hk => ?_, ?_⟩
            · rw [cp2 _ (by omega)]
              exact f1 k hk
            · rw [pk_un (by omega)]
              exact f2, fun k h1 h7 => by
            rw [cp2 _ (by omega)]
            exact hF1.2.1 k h1 h7, by
            rw [pk_un (by omega)]
            exact hF1.2.2⟩ (fun k hk => by
            rw [cp1 k hk, fq_start _ _ _ _ _ (Nat.le_refl _)]
            exact r1 k hk) (by
            rw [pk_us, lq_start _ _ _ _ _ (Nat.le_refl _)]
            exact r2) (by
            rw [e1]
            exact pk_us)
        refine ⟨wo', lg', st', y1, ⟨fun t ht hst => ?_, y2.2.1, y2.2.2⟩, y5, fun t => ?_, fun t ht => ?_, fun i hi => ?_⟩
        · rcases Nat.lt_or_ge t s with z | z
          · exact y2.1 t z hst
          · have : t = s := by omega
            subst this
            exact ⟨fun k hk => by rw [y3 k hk, Rr_s _ hs h0], by rw [y4, Lg_s _ hs h0]⟩
        · rcases y6 t with z | z
          · rw [z]
            rcases q4 t with z2 | z2
            · rw [z2]
              by_cases z3 : t = s
              · subst z3
                exact Or.inr pk_us
              · exact Or.inl (pk_un z3)
            · exact Or.inr z2
          · exact Or.inr z
        · obtain ⟨z1, z2⟩ := y7 t ht
          obtain ⟨z3, z4⟩ := q5 t (by omega)
          rw [pk_un (by omega)] at z3 z2
          exact ⟨z1.trans z3, z2.trans z4⟩
        · rw [y8 i hi, cp2 i (Or.inr hi)]
          exact q6 i (by omega)
/-- a row asked for: it is right, and so is all else that bears the stamp -/
theorem q_rowFor {nr wt : Nat → Int32} {S : Int32} (hw : ∀ i, i < 144 → ¬ wt i < 0) {wo : Nat → Int64} {lg st : Nat → Int32} {s : Nat} (hs : s < 4096) (hF : FI (Et nr wt) S 4096 wo lg st) : ∃ wo' lg' st', f_X4_rowFor wo lg st nr wt S (nI s) = some (nI (7 * s), wo', lg', st') ∧ FI (Et nr wt) S 4096 wo' lg' st' ∧ (∀ k, k < 7 → wo' (7 * s + k) = Rr (Et nr wt) s k) ∧ lg' s = nI (Lg (Et nr wt) s) ∧ ∀ t, st' t = st t ∨ st' t = S := by
  have := pop_le s hs
  obtain ⟨wo1, lg1, st1, q1, q2, q3, q4, q5, q6⟩ := fill_ok hw 16 s 0 wo lg st hs (by omega) (by omega) (hF.lower (by omega))
  rw [nI_0] at q1
  obtain ⟨r1, r2⟩ := q2.1 s (by omega) q3
  refine ⟨wo1, lg1, st1, ?_, hF.lift q2 q5 q6, r1, r2, q4⟩
  unfold f_X4_rowFor
  rw [q1, bE3, mul7r]
