/-! pure rows: the class's table, all sets -/
theorem fill_new {nr wt : Nat → Int32} {S : Int32} (hw : ∀ i, i < 144 → ¬ wt i < 0) {n : Nat} (ih : FillOk nr wt S n) (s l d : Nat) (wo : Nat → Int64) (lg se st : Nat → Int32) (hs : s < 4096) (hsl : s % 2 ^ l = 0) (hn : popc s 12 < n + 1) (hd : d + popc s 12 ≤ 12) (hF : FI (Et nr wt) S l wo lg se st) : ∃ wo' lg' se' st', f_X4_placeFor_b28 (f_X4_placeFor n) nr wt S (nI s) (nI d) wo lg se st (nI (pl s)) = some (nI (pl s), wo', lg', se', st') ∧ Filled (Et nr wt) S l s wo wo' lg lg' se se' st st' := by
  have hp := pl_lt hs
  unfold f_X4_placeFor_b28
  rw [if_pos (show nI d ≤ 12 from nI_le (a := d) (b := 12) (by omega) (by decide)), g515 hp, nmE, g515 hp, nmE, c515 hp]
  by_cases h0 : s = 0
  · subst h0
    have e3 : pl 0 = 3 := rfl
    rw [e3, if_pos (show nI 0 = 0 from rfl), mul7r, gN (n := 7 * 3) (N := 3605) (by decide) (by decide), nmE, nI_clamp (n := 7 * 3) (by decide)]
    have row : ∀ k, k < 7 → vp_updL wo (7 * 3) 1 (7 * 3 + k) = Rr (Et nr wt) 0 k := by
      intro k hk
      rw [Rr_0]
      show _ = if k = 0 then _ else _
      by_cases z : k = 0
      · subst z
        rw [if_pos rfl]
        exact pk_uLs
      · rw [if_neg z, pk_uLn (by omega)]
        exact hF.2.1 k (by omega) hk
    have hne : ∀ u, u < 4096 → u ≠ 0 → pl u ≠ 3 := fun u hu h => pl_3 hu h
    refine ⟨_, _, _, _, rfl, ⟨fun u hu hm e1 e2 => ?_, fun k h1 h7 => ?_, hF.2.2⟩, row, hF.2.2, fun t => ?_, fun a ha => ?_⟩
    · by_cases z : u = 0
      · subst z
        exact ⟨row, hF.2.2⟩
      · have z3 := hne u hu z
        rw [pk_un z3] at e1 e2
        obtain ⟨q1, q2⟩ := hF.1 u hu hm e1 e2
        exact ⟨fun k hk => by rw [pk_uLn (by omega)]; exact q1 k hk, q2⟩
    · rw [pk_uLn (by omega)]
      exact hF.2.1 k h1 h7
    · by_cases z : t = 3
      · subst z
        exact Or.inr pk_us
      · exact Or.inl (pk_un z)
    · have z : a ≠ 3 := fun e => ha 0 (by decide) (Nat.zero_mod _) (by rw [e]; rfl)
      exact ⟨pk_un z, rfl, pk_un z, fun k hk => pk_uLn (by omega)⟩
  · obtain ⟨l1, l2, l3, l4⟩ := (low_ok s hs).resolve_left h0
    have hp2 := Nat.two_pow_pos (low s)
    have hpop := pop_low hs h0
    have hx : nI s ^^^ (1 <<< (nI (low s) &&& 31)) = nI (s - 2 ^ low s) := by
      rcases bit_xor s hs (low s) l1 with z | z
      · omega
      · exact z
    have hrm := (rest_mod s hs).resolve_left h0
    have hfr : Fr (low s + 1) (pl s) := pl_fr hs (low_mod hs h0)
    have hll : l ≤ low s + 1 := by
      rcases Nat.lt_or_ge (low s) l with z | z
      · have k := l3
        rw [low_zero hsl z] at k
        omega
      · omega
    have hr4 : s - 2 ^ low s < 4096 := by omega
    have hpr := pl_lt hr4
    rw [if_neg (show ¬ nI s = 0 from nI_ne (b := 0) (by omega) (by decide) h0), q_leastOf hs h0, bE1, hx, nmE, nI_1]
    have hS0 : ∀ b, b ≠ pl s → Sm b wo wo lg lg se (upd se (pl s) (nI s)) st (upd st (pl s) S) := fun b hb => ⟨pk_un hb, rfl, pk_un hb, fun _ _ => rfl⟩
    obtain ⟨wo1, lg1, se1, st1, q1, q2, q3, q4, q5, q6⟩ := ih (s - 2 ^ low s) (low s + 1) (d + 1) wo lg (upd se (pl s) (nI s)) (upd st (pl s) S) hr4 hrm (by omega) (by omega) ((hF.up hll).put hfr hS0)
    obtain ⟨e1, e2, e3, e4⟩ := q6 (pl s) hfr
    have hne : pl (s - 2 ^ low s) ≠ pl s := hfr _ hr4 hrm
    have c7 : (7 : Int32).toNatClampNeg = 7 := nI_clamp (n := 7) (by decide)
    rw [q1, bE5, mul7r, mul7r, c7, nI_clamp (show 7 * pl (s - 2 ^ low s) < 2 ^ 31 by omega), nI_clamp (show 7 * pl s < 2 ^ 31 by omega)]
    rw [if_pos ⟨nI_pos (by omega), nI_pos (by omega), by decide, by omega, by omega⟩, nmE, g515 hpr, gC hp (by decide), nmE, c515 hpr, gN (n := low s) (N := 12) l1 (by decide), nmE, nmE, c12 l1, nI_1]
    have cp1 : ∀ k, k < 7 → va_cpy wo1 wo1 (7 * pl (s - 2 ^ low s)) (7 * pl s) 7 (7 * pl s + k) = wo1 (7 * pl (s - 2 ^ low s) + k) := by
      intro k hk
      unfold va_cpy
      rw [if_pos (by omega)]
      congr 1
      omega
    have cp2 : ∀ i, (i < 7 * pl s ∨ 7 * pl s + 7 ≤ i) → va_cpy wo1 wo1 (7 * pl (s - 2 ^ low s)) (7 * pl s) 7 i = wo1 i := by
      intro i hi
      unfold va_cpy
      rw [if_neg (by omega)]
    have hS1 : ∀ b, b ≠ pl s → Sm b wo1 (va_cpy wo1 wo1 (7 * pl (s - 2 ^ low s)) (7 * pl s) 7) lg1 (upd lg1 (pl s) (lg1 (pl (s - 2 ^ low s)))) se1 se1 st1 st1 := fun b hb => ⟨rfl, pk_un hb, rfl, fun k hk => cp2 _ (by omega)⟩
    obtain ⟨wo', lg', se', st', y1, y2, y3, y4, y5, y6, y7, y8⟩ := fill_loop hw ih (p := low s) (rest := s - 2 ^ low s) (d := d) (a := pl s) (nI s) hp hr4 l1 (by omega) (by omega) hfr hrm 70 (low s + 1) (va_cpy wo1 wo1 (7 * pl (s - 2 ^ low s)) (7 * pl s) 7) (upd lg1 (pl s) (lg1 (pl (s - 2 ^ low s)))) se1 st1 (by omega) (by omega) (by omega) (q2.put hfr hS1) (fun k hk => by
        rw [cp1 k hk, fq_start _ _ _ _ _ (Nat.le_refl _)]
        exact q3 k hk) (by
        rw [pk_us, lq_start _ _ _ _ _ (Nat.le_refl _)]
        exact q4)
    have hall : ∀ b, b ≠ pl s → Fr (low s + 1) b → Sm b wo wo' lg lg' se se' st st' := fun b hb hf => (((hS0 b hb).tr (q6 b hf)).tr (hS1 b hb)).tr (y8 b hb hf)
    have row : ∀ k, k < 7 → wo' (7 * pl s + k) = Rr (Et nr wt) s k := fun k hk => by rw [y3 k hk, Rr_s _ hs h0]
    have rlg : lg' (pl s) = nI (Lg (Et nr wt) s) := by rw [y4, Lg_s _ hs h0]
    refine ⟨wo', lg', se', st', y1, ⟨fun u hu hm t1 t2 => ?_, y2.2.1, y2.2.2⟩, row, rlg, fun t => ?_, fun a ha => ?_⟩
    · by_cases z : u % 2 ^ (low s + 1) = 0
      · exact y2.1 u hu z t1 t2
      · by_cases z2 : pl u = pl s
        · rw [z2, y6, e3, pk_us] at t2
          have : s = u := nI_inj (by omega) (by omega) t2
          subst this
          exact ⟨row, rlg⟩
        · obtain ⟨s1, s2, s3, s4⟩ := hall (pl u) z2 (pl_fr hu z)
          obtain ⟨r1, r2⟩ := hF.1 u hu hm (s1.symm.trans t1) (s3.symm.trans t2)
          exact ⟨fun k hk => (s4 k hk).trans (r1 k hk), s2.trans r2⟩
    · rcases y7 t with z | z
      · rw [z]
        rcases q5 t with z2 | z2
        · rw [z2]
          by_cases z3 : t = pl s
          · rw [z3]
            exact Or.inr pk_us
          · exact Or.inl (pk_un z3)
        · exact Or.inr z2
      · exact Or.inr z
    · exact hall a (Ne.symm (ha s hs hsl)) (ha.up hll)
theorem fill_ok {nr wt : Nat → Int32} {S : Int32} (hw : ∀ i, i < 144 → ¬ wt i < 0) : ∀ n, FillOk nr wt S n := by
  intro n
  induction n with
  | zero =>
    intro s l d wo lg se st _ _ h
    omega
  | succ n ih =>
    intro s l d wo lg se st hs hsl hn hd hF
    have hp := pl_lt hs
    show ∃ wo' lg' se' st', f_X4_placeFor_st (f_X4_placeFor n) wo lg se st nr wt S (nI s) (nI d) = some (nI (pl s), wo', lg', se', st') ∧ _
    unfold f_X4_placeFor_st
    rw [pl_eq s hs, bE1, g515 hp, g515 hp, c515 hp]
    have nw := fill_new hw ih s l d wo lg se st hs hsl hn hd hF
    by_cases h : st (pl s) = S
    · by_cases h2 : se (pl s) = nI s
      · rw [if_pos h, if_pos h2]
        obtain ⟨r1, r2⟩ := hF.1 s hs hsl h h2
        exact ⟨wo, lg, se, st, rfl, hF, r1, r2, fun t => Or.inl rfl, fun a _ => Sm.rf⟩
      · rw [if_pos h, if_neg h2]
        exact nw
    · rw [if_neg h]
      exact nw
/-- a row asked for: it is right, and so is all else that bears the stamp -/
theorem q_rowFor {nr wt : Nat → Int32} {S : Int32} (hw : ∀ i, i < 144 → ¬ wt i < 0) {wo : Nat → Int64} {lg se st : Nat → Int32} {s : Nat} (hs : s < 4096) (hF : FI (Et nr wt) S 0 wo lg se st) : ∃ wo' lg' se' st', f_X4_rowFor wo lg se st nr wt S (nI s) = some (nI (7 * pl s), wo', lg', se', st') ∧ FI (Et nr wt) S 0 wo' lg' se' st' ∧ (∀ k, k < 7 → wo' (7 * pl s + k) = Rr (Et nr wt) s k) ∧ lg' (pl s) = nI (Lg (Et nr wt) s) ∧ ∀ t, st' t = st t ∨ st' t = S := by
  have := pop_le s hs
  obtain ⟨wo1, lg1, se1, st1, q1, q2, q3, q4, q5, q6⟩ := fill_ok hw 16 s 0 0 wo lg se st hs (Nat.mod_one s) (by omega) (by omega) hF
  rw [nI_0] at q1
  refine ⟨wo1, lg1, se1, st1, ?_, q2, q3, q4, q5⟩
  unfold f_X4_rowFor
  rw [q1, bE5, mul7r]
