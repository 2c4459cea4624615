/-! the law: its world -/
def rqf (r0 r1 r2 : Nat → Nat) : Nat → Nat → Nat := fun k => if k = 1 then r1 else if k = 2 then r2 else r0
def sqf (s0 s1 s2 s3 : Nat → Nat) : Nat → Nat → Nat := fun k => if k = 1 then s1 else if k = 2 then s2 else if k = 3 then s3 else s0
theorem rq_cases (r0 r1 r2 : Nat → Nat) (p : Int32) : (rqf r0 r1 r2 p.toNatClampNeg = r0 ∧ ∀ i, i < 3 → p = nI i → i = 0) ∨ (rqf r0 r1 r2 p.toNatClampNeg = r1 ∧ ∀ i, i < 3 → p = nI i → i = 1) ∨ (rqf r0 r1 r2 p.toNatClampNeg = r2 ∧ ∀ i, i < 3 → p = nI i → i = 2) := by
  have hc : ∀ i, i < 3 → p = nI i → p.toNatClampNeg = i := fun i hi e => by rw [e]; exact c3 hi
  unfold rqf
  by_cases h1 : p.toNatClampNeg = 1
  · exact Or.inr (Or.inl ⟨if_pos h1, fun i hi e => by have := hc i hi e; omega⟩)
  · by_cases h2 : p.toNatClampNeg = 2
    · exact Or.inr (Or.inr ⟨(if_neg h1).trans (if_pos h2), fun i hi e => by have := hc i hi e; omega⟩)
    · exact Or.inl ⟨(if_neg h1).trans (if_neg h2), fun i hi e => by have := hc i hi e; omega⟩
theorem sq_cases (s0 s1 s2 s3 : Nat → Nat) (p : Int32) : (sqf s0 s1 s2 s3 p.toNatClampNeg = s0 ∧ ∀ i, i < 4 → p = nI i → i = 0) ∨ (sqf s0 s1 s2 s3 p.toNatClampNeg = s1 ∧ ∀ i, i < 4 → p = nI i → i = 1) ∨ (sqf s0 s1 s2 s3 p.toNatClampNeg = s2 ∧ ∀ i, i < 4 → p = nI i → i = 2) ∨ (sqf s0 s1 s2 s3 p.toNatClampNeg = s3 ∧ ∀ i, i < 4 → p = nI i → i = 3) := by
  have hc : ∀ i, i < 4 → p = nI i → p.toNatClampNeg = i := fun i hi e => by rw [e]; exact c4 hi
  unfold sqf
  by_cases h1 : p.toNatClampNeg = 1
  · exact Or.inr (Or.inl ⟨if_pos h1, fun i hi e => by have := hc i hi e; omega⟩)
  · by_cases h2 : p.toNatClampNeg = 2
    · exact Or.inr (Or.inr (Or.inl ⟨(if_neg h1).trans (if_pos h2), fun i hi e => by have := hc i hi e; omega⟩))
    · by_cases h3 : p.toNatClampNeg = 3
      · exact Or.inr (Or.inr (Or.inr ⟨(if_neg h1).trans ((if_neg h2).trans (if_pos h3)), fun i hi e => by have := hc i hi e; omega⟩))
      · exact Or.inl ⟨(if_neg h1).trans ((if_neg h2).trans (if_neg h3)), fun i hi e => by have := hc i hi e; omega⟩
theorem in4 {p : Int32} (h : ¬ (p < 0 ∨ 3 < p)) : p = nI 0 ∨ p = nI 1 ∨ p = nI 2 ∨ p = nI 3 := by
  obtain ⟨i, hi, rfl⟩ := of3 h
  rcases (show i = 0 ∨ i = 1 ∨ i = 2 ∨ i = 3 by omega) with rfl | rfl | rfl | rfl
  · exact Or.inl rfl
  · exact Or.inr (Or.inl rfl)
  · exact Or.inr (Or.inr (Or.inl rfl))
  · exact Or.inr (Or.inr (Or.inr rfl))
def Wd (Y : Nat → ClassId) (qh qn qk qt qm qg qp r0 r1 r2 s0 s1 s2 s3 qx : Nat → Nat) (h_isKept : Int32) (n_kinds n_figures n_lows n_highs n_joins n_nears : Nat → Int32) (n_linesAt : Nat → Int64) (P L T : Nat) (n_age : Int32) (k_kinds k_figures k_lows k_highs k_joins k_nears : Nat → Int32) (k_linesAt : Nat → Int64) (k_pointCount k_lineCount k_tideNow k_age : Int32) (t_worths : Nat → Int64) (t_longest t_sets t_stamps t_nears t_weights : Nat → Int32) (t_stamp t_age t_isTurned : Int32) (m_each : Nat → Int64) (m_total m_once m_twice : Int64) (g_spots g_parents g_branches g_depths g_ends : Nat → Int32) (g_above g_below : Nat → Int64) (g_size : Int32) (p_spots p_parents p_branches p_depths p_ends : Nat → Int32) (p_above p_below : Nat → Int64) (p_size : Int32) (r0_kinds r0_figures : Nat → Int32) (r0_kind r0_size : Int32) (r1_kinds r1_figures : Nat → Int32) (r1_kind r1_size : Int32) (r2_kinds r2_figures : Nat → Int32) (r2_kind r2_size : Int32) (s0_ints : Nat → Int32) (s0_longs : Nat → Int64) (s0_floats : Nat → UInt32) (s0_doubles : Nat → UInt64) (s0_signs : Nat → Int32) (s0_sort s0_size : Int32) (s1_ints : Nat → Int32) (s1_longs : Nat → Int64) (s1_floats : Nat → UInt32) (s1_doubles : Nat → UInt64) (s1_signs : Nat → Int32) (s1_sort s1_size : Int32) (s2_ints : Nat → Int32) (s2_longs : Nat → Int64) (s2_floats : Nat → UInt32) (s2_doubles : Nat → UInt64) (s2_signs : Nat → Int32) (s2_sort s2_size : Int32) (s3_ints : Nat → Int32) (s3_longs : Nat → Int64) (s3_floats : Nat → UInt32) (s3_doubles : Nat → UInt64) (s3_signs : Nat → Int32) (s3_sort s3_size : Int32) (xP xL xT : Nat) (x_kind x_figure x_low x_high : Nat → Int32) (x_isKept : Int32) (x_kept : Nat → Int32) (x_table x_count : Nat → Int64) (x_heavy : Nat → Int32) (x_isMuch : Int32) (x_term : Nat → Int64) (x_sum x_once x_twice : Int64) (x_isTermMuch : Int32) (x_nodePoint x_nodeOver x_newPoint x_newOver : Nat → Int32) (x_nodes x_newMany : Int32) (x_above x_below : Nat → Int64) (x_isTooGreat x_come : Int32) (x_foundSet : Int64) (x_rackKind x_rackSize x_rackHeld x_sorts x_sizes : Nat → Int32) (x_wholes : Nat → Int64) (x_floats : Nat → UInt32) (x_doubles : Nat → UInt64) : va_W := [(qh 0, oX8 qh (qn 0) (qk 0) h_isKept (qt 0) (qm 0) (qg 0) (qp 0)), (qn 0, oX1 qn (nI P) (nI L) (nI T) n_age), (qn 1, .inl (Y 0, 40, .inl n_kinds)), (qn 2, .inl (Y 0, 40, .inl n_figures)), (qn 3, .inl (Y 0, 40, .inl n_lows)), (qn 4, .inl (Y 0, 40, .inl n_highs)), (qn 5, .inl (Y 0, 144, .inl n_joins)), (qn 6, .inl (Y 0, 12, .inl n_nears)), (qn 7, .inl (Y 1, 12, .inr (.inl n_linesAt))), (qk 0, oX1 qk k_pointCount k_lineCount k_tideNow k_age), (qk 1, .inl (Y 0, 40, .inl k_kinds)), (qk 2, .inl (Y 0, 40, .inl k_figures)), (qk 3, .inl (Y 0, 40, .inl k_lows)), (qk 4, .inl (Y 0, 40, .inl k_highs)), (qk 5, .inl (Y 0, 144, .inl k_joins)), (qk 6, .inl (Y 0, 12, .inl k_nears)), (qk 7, .inl (Y 1, 12, .inr (.inl k_linesAt))), (qt 0, oX4 qt t_stamp t_age t_isTurned), (qt 1, .inl (Y 1, 3605, .inr (.inl t_worths))), (qt 2, .inl (Y 0, 515, .inl t_longest)), (qt 3, .inl (Y 0, 515, .inl t_sets)), (qt 4, .inl (Y 0, 515, .inl t_stamps)), (qt 5, .inl (Y 0, 12, .inl t_nears)), (qt 6, .inl (Y 0, 144, .inl t_weights)), (qm 0, oX5 qm m_total m_once m_twice), (qm 1, .inl (Y 1, 7, .inr (.inl m_each))), (qg 0, oX6 qg g_size), (qg 1, .inl (Y 0, 300, .inl g_spots)), (qg 2, .inl (Y 0, 300, .inl g_parents)), (qg 3, .inl (Y 0, 300, .inl g_branches)), (qg 4, .inl (Y 0, 300, .inl g_depths)), (qg 5, .inl (Y 0, 300, .inl g_ends)), (qg 6, .inl (Y 1, 300, .inr (.inl g_above))), (qg 7, .inl (Y 1, 300, .inr (.inl g_below))), (qp 0, oX6 qp p_size), (qp 1, .inl (Y 0, 300, .inl p_spots)), (qp 2, .inl (Y 0, 300, .inl p_parents)), (qp 3, .inl (Y 0, 300, .inl p_branches)), (qp 4, .inl (Y 0, 300, .inl p_depths)), (qp 5, .inl (Y 0, 300, .inl p_ends)), (qp 6, .inl (Y 1, 300, .inr (.inl p_above))), (qp 7, .inl (Y 1, 300, .inr (.inl p_below))), (qh 8, .inl (Y 4, 3, .inr (.inr (.inr (.inr (fun k => some ((rqf r0 r1 r2) k 0))))))), (qh 9, .inl (Y 5, 4, .inr (.inr (.inr (.inr (fun k => some ((sqf s0 s1 s2 s3) k 0))))))), (r0 0, oX2 r0 r0_kind r0_size), (r0 1, .inl (Y 0, 20, .inl r0_kinds)), (r0 2, .inl (Y 0, 20, .inl r0_figures)), (r1 0, oX2 r1 r1_kind r1_size), (r1 1, .inl (Y 0, 20, .inl r1_kinds)), (r1 2, .inl (Y 0, 20, .inl r1_figures)), (r2 0, oX2 r2 r2_kind r2_size), (r2 1, .inl (Y 0, 20, .inl r2_kinds)), (r2 2, .inl (Y 0, 20, .inl r2_figures)), (s0 0, oX3 s0 s0_sort s0_size), (s0 1, .inl (Y 0, 60, .inl s0_ints)), (s0 2, .inl (Y 1, 60, .inr (.inl s0_longs))), (s0 3, .inl (Y 2, 60, .inr (.inr (.inl s0_floats)))), (s0 4, .inl (Y 3, 60, .inr (.inr (.inr (.inl s0_doubles))))), (s0 5, .inl (Y 0, 60, .inl s0_signs)), (s1 0, oX3 s1 s1_sort s1_size), (s1 1, .inl (Y 0, 60, .inl s1_ints)), (s1 2, .inl (Y 1, 60, .inr (.inl s1_longs))), (s1 3, .inl (Y 2, 60, .inr (.inr (.inl s1_floats)))), (s1 4, .inl (Y 3, 60, .inr (.inr (.inr (.inl s1_doubles))))), (s1 5, .inl (Y 0, 60, .inl s1_signs)), (s2 0, oX3 s2 s2_sort s2_size), (s2 1, .inl (Y 0, 60, .inl s2_ints)), (s2 2, .inl (Y 1, 60, .inr (.inl s2_longs))), (s2 3, .inl (Y 2, 60, .inr (.inr (.inl s2_floats)))), (s2 4, .inl (Y 3, 60, .inr (.inr (.inr (.inl s2_doubles))))), (s2 5, .inl (Y 0, 60, .inl s2_signs)), (s3 0, oX3 s3 s3_sort s3_size), (s3 1, .inl (Y 0, 60, .inl s3_ints)), (s3 2, .inl (Y 1, 60, .inr (.inl s3_longs))), (s3 3, .inl (Y 2, 60, .inr (.inr (.inl s3_floats)))), (s3 4, .inl (Y 3, 60, .inr (.inr (.inr (.inl s3_doubles))))), (s3 5, .inl (Y 0, 60, .inl s3_signs)), (qx 0, oX9 qx (nI xP) (nI xL) (nI xT) x_isKept x_isMuch x_sum x_once x_twice x_isTermMuch x_nodes x_newMany x_isTooGreat x_come x_foundSet), (qx 4, .inl (Y 0, 40, .inl x_kind)), (qx 5, .inl (Y 0, 40, .inl x_figure)), (qx 6, .inl (Y 0, 40, .inl x_low)), (qx 7, .inl (Y 0, 40, .inl x_high)), (qx 9, .inl (Y 0, 163, .inl x_kept)), (qx 10, .inl (Y 1, 28672, .inr (.inl x_table))), (qx 11, .inl (Y 1, 7, .inr (.inl x_count))), (qx 12, .inl (Y 0, 144, .inl x_heavy)), (qx 14, .inl (Y 1, 7, .inr (.inl x_term))), (qx 19, .inl (Y 0, 300, .inl x_nodePoint)), (qx 20, .inl (Y 0, 300, .inl x_nodeOver)), (qx 21, .inl (Y 0, 300, .inl x_newPoint)), (qx 22, .inl (Y 0, 300, .inl x_newOver)), (qx 25, .inl (Y 1, 300, .inr (.inl x_above))), (qx 26, .inl (Y 1, 300, .inr (.inl x_below))), (qx 30, .inl (Y 0, 3, .inl x_rackKind)), (qx 31, .inl (Y 0, 3, .inl x_rackSize)), (qx 32, .inl (Y 0, 60, .inl x_rackHeld)), (qx 33, .inl (Y 0, 4, .inl x_sorts)), (qx 34, .inl (Y 0, 4, .inl x_sizes)), (qx 35, .inl (Y 1, 240, .inr (.inl x_wholes))), (qx 36, .inl (Y 2, 240, .inr (.inr (.inl x_floats)))), (qx 37, .inl (Y 3, 240, .inr (.inr (.inr (.inl x_doubles)))))]
/-- the table, at the t-th call -/
def TabX (t P L T : Nat) (kd fg lo hi : Nat → Int32) (ag : Int32) (wo : Nat → Int64) (lg se st tn wt : Nat → Int32) (S tg tu : Int32) : Prop := ∃ N B : Nat, ag = nI N ∧ N ≤ 16 * t ∧ B ≤ 2 * t ∧ TabI (En kd fg lo hi T L) (Eo lo hi L) P N B wo lg se st tn wt S tg tu
theorem TabX.go {t P L T N B : Nat} {kd fg lo hi : Nat → Int32} {wo : Nat → Int64} {lg se st tn wt : Nat → Int32} {S tg tu : Int32} (hN : N ≤ 16 * t) (hB : B ≤ 2 * t + 2) (h : TabI (En kd fg lo hi T L) (Eo lo hi L) P N B wo lg se st tn wt S tg tu) : TabX (t + 1) P L T kd fg lo hi (nI N) wo lg se st tn wt S tg tu :=
  ⟨N, B, rfl, by omega, by omega, h⟩
theorem TabX.old {t P L T N B P' L' T' c : Nat} {kd fg lo hi kd' fg' lo' hi' : Nat → Int32} {wo : Nat → Int64} {lg se st tn wt : Nat → Int32} {S tg tu : Int32} (hN : N ≤ 16 * t) (hB : B ≤ 2 * t) (hc : 1 ≤ c) (hc2 : c ≤ 16) (h : TabI (En kd fg lo hi T L) (Eo lo hi L) P N B wo lg se st tn wt S tg tu) : TabX (t + 1) P' L' T' kd' fg' lo' hi' (nI (N + c)) wo lg se st tn wt S tg tu :=
  ⟨N + c, B, rfl, by omega, by omega, h.older (by omega) (Nat.le_refl _)⟩
def INV (t : Nat) (h_isKept : Int32) (n_kinds n_figures n_lows n_highs n_joins n_nears : Nat → Int32) (n_linesAt : Nat → Int64) (P L T : Nat) (n_age : Int32) (k_kinds k_figures k_lows k_highs : Nat → Int32) (k_pointCount k_lineCount k_tideNow : Int32) (t_worths : Nat → Int64) (t_longest t_sets t_stamps t_nears t_weights : Nat → Int32) (t_stamp t_age t_isTurned : Int32) (g_spots g_parents g_branches g_depths g_ends : Nat → Int32) (g_size : Int32) (r0_kinds r0_figures : Nat → Int32) (r0_kind r0_size : Int32) (r1_kinds r1_figures : Nat → Int32) (r1_kind r1_size : Int32) (r2_kinds r2_figures : Nat → Int32) (r2_kind r2_size : Int32) (s0_ints : Nat → Int32) (s0_longs : Nat → Int64) (s0_floats : Nat → UInt32) (s0_doubles : Nat → UInt64) (s0_signs : Nat → Int32) (s0_sort s0_size : Int32) (s1_ints : Nat → Int32) (s1_longs : Nat → Int64) (s1_floats : Nat → UInt32) (s1_doubles : Nat → UInt64) (s1_signs : Nat → Int32) (s1_sort s1_size : Int32) (s2_ints : Nat → Int32) (s2_longs : Nat → Int64) (s2_floats : Nat → UInt32) (s2_doubles : Nat → UInt64) (s2_signs : Nat → Int32) (s2_sort s2_size : Int32) (s3_ints : Nat → Int32) (s3_longs : Nat → Int64) (s3_floats : Nat → UInt32) (s3_doubles : Nat → UInt64) (s3_signs : Nat → Int32) (s3_sort s3_size : Int32) (x_kept x_nodePoint x_nodeOver : Nat → Int32) (x_nodes : Int32) (x_rackKind x_rackSize x_rackHeld x_sorts x_sizes : Nat → Int32) (x_wholes : Nat → Int64) (x_floats : Nat → UInt32) (x_doubles : Nat → UInt64) : Prop := NetI n_kinds n_figures n_lows n_highs n_joins n_nears n_linesAt P L T ∧ KeptI h_isKept k_kinds k_figures k_lows k_highs k_pointCount k_lineCount k_tideNow x_kept ∧ TabX t P L T n_kinds n_figures n_lows n_highs n_age t_worths t_longest t_sets t_stamps t_nears t_weights t_stamp t_age t_isTurned ∧ TreeI g_spots g_parents g_branches g_depths g_ends g_size x_nodePoint x_nodeOver x_nodes ∧ RackI r0_kinds r0_figures r0_kind r0_size (x_rackKind 0) (x_rackSize 0) (fun j => x_rackHeld (20 * 0 + j)) ∧ RackI r1_kinds r1_figures r1_kind r1_size (x_rackKind 1) (x_rackSize 1) (fun j => x_rackHeld (20 * 1 + j)) ∧ RackI r2_kinds r2_figures r2_kind r2_size (x_rackKind 2) (x_rackSize 2) (fun j => x_rackHeld (20 * 2 + j)) ∧ SheetI s0_ints s0_longs s0_floats s0_doubles s0_signs s0_sort s0_size (x_sorts 0) (x_sizes 0) (fun j => x_wholes (60 * 0 + j)) (fun j => x_floats (60 * 0 + j)) (fun j => x_doubles (60 * 0 + j)) ∧ SheetI s1_ints s1_longs s1_floats s1_doubles s1_signs s1_sort s1_size (x_sorts 1) (x_sizes 1) (fun j => x_wholes (60 * 1 + j)) (fun j => x_floats (60 * 1 + j)) (fun j => x_doubles (60 * 1 + j)) ∧ SheetI s2_ints s2_longs s2_floats s2_doubles s2_signs s2_sort s2_size (x_sorts 2) (x_sizes 2) (fun j => x_wholes (60 * 2 + j)) (fun j => x_floats (60 * 2 + j)) (fun j => x_doubles (60 * 2 + j)) ∧ SheetI s3_ints s3_longs s3_floats s3_doubles s3_signs s3_sort s3_size (x_sorts 3) (x_sizes 3) (fun j => x_wholes (60 * 3 + j)) (fun j => x_floats (60 * 3 + j)) (fun j => x_doubles (60 * 3 + j))
/-- the law at its loop's head behind t calls -/
def LG (G : va_G) (Y : Nat → ClassId) (s : State) (a8 a9 t : Nat) (H : Heap) : Prop := ∃ (qh qn qk qt qm qg qp r0 r1 r2 s0 s1 s2 s3 qx : Nat → Nat) (h_isKept : Int32) (n_kinds n_figures n_lows n_highs n_joins n_nears : Nat → Int32) (n_linesAt : Nat → Int64) (P L T : Nat) (n_age : Int32) (k_kinds k_figures k_lows k_highs k_joins k_nears : Nat → Int32) (k_linesAt : Nat → Int64) (k_pointCount k_lineCount k_tideNow k_age : Int32) (t_worths : Nat → Int64) (t_longest t_sets t_stamps t_nears t_weights : Nat → Int32) (t_stamp t_age t_isTurned : Int32) (m_each : Nat → Int64) (m_total m_once m_twice : Int64) (g_spots g_parents g_branches g_depths g_ends : Nat → Int32) (g_above g_below : Nat → Int64) (g_size : Int32) (p_spots p_parents p_branches p_depths p_ends : Nat → Int32) (p_above p_below : Nat → Int64) (p_size : Int32) (r0_kinds r0_figures : Nat → Int32) (r0_kind r0_size : Int32) (r1_kinds r1_figures : Nat → Int32) (r1_kind r1_size : Int32) (r2_kinds r2_figures : Nat → Int32) (r2_kind r2_size : Int32) (s0_ints : Nat → Int32) (s0_longs : Nat → Int64) (s0_floats : Nat → UInt32) (s0_doubles : Nat → UInt64) (s0_signs : Nat → Int32) (s0_sort s0_size : Int32) (s1_ints : Nat → Int32) (s1_longs : Nat → Int64) (s1_floats : Nat → UInt32) (s1_doubles : Nat → UInt64) (s1_signs : Nat → Int32) (s1_sort s1_size : Int32) (s2_ints : Nat → Int32) (s2_longs : Nat → Int64) (s2_floats : Nat → UInt32) (s2_doubles : Nat → UInt64) (s2_signs : Nat → Int32) (s2_sort s2_size : Int32) (s3_ints : Nat → Int32) (s3_longs : Nat → Int64) (s3_floats : Nat → UInt32) (s3_doubles : Nat → UInt64) (s3_signs : Nat → Int32) (s3_sort s3_size : Int32) (x_kept : Nat → Int32) (x_table x_count : Nat → Int64) (x_heavy : Nat → Int32) (x_isMuch : Int32) (x_term : Nat → Int64) (x_sum x_once x_twice : Int64) (x_isTermMuch : Int32) (x_nodePoint x_nodeOver x_newPoint x_newOver : Nat → Int32) (x_nodes x_newMany : Int32) (x_above x_below : Nat → Int64) (x_isTooGreat x_come : Int32) (x_foundSet : Int64) (x_rackKind x_rackSize x_rackHeld x_sorts x_sizes : Nat → Int32) (x_wholes : Nat → Int64) (x_floats : Nat → UInt32) (x_doubles : Nat → UInt64), qh 0 = a8 ∧ qx 0 = a9 ∧ INV t h_isKept n_kinds n_figures n_lows n_highs n_joins n_nears n_linesAt P L T n_age k_kinds k_figures k_lows k_highs k_pointCount k_lineCount k_tideNow t_worths t_longest t_sets t_stamps t_nears t_weights t_stamp t_age t_isTurned g_spots g_parents g_branches g_depths g_ends g_size r0_kinds r0_figures r0_kind r0_size r1_kinds r1_figures r1_kind r1_size r2_kinds r2_figures r2_kind r2_size s0_ints s0_longs s0_floats s0_doubles s0_signs s0_sort s0_size s1_ints s1_longs s1_floats s1_doubles s1_signs s1_sort s1_size s2_ints s2_longs s2_floats s2_doubles s2_signs s2_sort s2_size s3_ints s3_longs s3_floats s3_doubles s3_signs s3_sort s3_size x_kept x_nodePoint x_nodeOver x_nodes x_rackKind x_rackSize x_rackHeld x_sorts x_sizes x_wholes x_floats x_doubles ∧ va_P G vwCl (Wd Y qh qn qk qt qm qg qp r0 r1 r2 s0 s1 s2 s3 qx h_isKept n_kinds n_figures n_lows n_highs n_joins n_nears n_linesAt P L T n_age k_kinds k_figures k_lows k_highs k_joins k_nears k_linesAt k_pointCount k_lineCount k_tideNow k_age t_worths t_longest t_sets t_stamps t_nears t_weights t_stamp t_age t_isTurned m_each m_total m_once m_twice g_spots g_parents g_branches g_depths g_ends g_above g_below g_size p_spots p_parents p_branches p_depths p_ends p_above p_below p_size r0_kinds r0_figures r0_kind r0_size r1_kinds r1_figures r1_kind r1_size r2_kinds r2_figures r2_kind r2_size s0_ints s0_longs s0_floats s0_doubles s0_signs s0_sort s0_size s1_ints s1_longs s1_floats s1_doubles s1_signs s1_sort s1_size s2_ints s2_longs s2_floats s2_doubles s2_signs s2_sort s2_size s3_ints s3_longs s3_floats s3_doubles s3_signs s3_sort s3_size P L T n_kinds n_figures n_lows n_highs h_isKept x_kept x_table x_count x_heavy x_isMuch x_term x_sum x_once x_twice x_isTermMuch x_nodePoint x_nodeOver x_newPoint x_newOver x_nodes x_newMany x_above x_below x_isTooGreat x_come x_foundSet x_rackKind x_rackSize x_rackHeld x_sorts x_sizes x_wholes x_floats x_doubles) H ∧ va_D (fun q : Nat => s.heap.size ≤ q) (Wd Y qh qn qk qt qm qg qp r0 r1 r2 s0 s1 s2 s3 qx h_isKept n_kinds n_figures n_lows n_highs n_joins n_nears n_linesAt P L T n_age k_kinds k_figures k_lows k_highs k_joins k_nears k_linesAt k_pointCount k_lineCount k_tideNow k_age t_worths t_longest t_sets t_stamps t_nears t_weights t_stamp t_age t_isTurned m_each m_total m_once m_twice g_spots g_parents g_branches g_depths g_ends g_above g_below g_size p_spots p_parents p_branches p_depths p_ends p_above p_below p_size r0_kinds r0_figures r0_kind r0_size r1_kinds r1_figures r1_kind r1_size r2_kinds r2_figures r2_kind r2_size s0_ints s0_longs s0_floats s0_doubles s0_signs s0_sort s0_size s1_ints s1_longs s1_floats s1_doubles s1_signs s1_sort s1_size s2_ints s2_longs s2_floats s2_doubles s2_signs s2_sort s2_size s3_ints s3_longs s3_floats s3_doubles s3_signs s3_sort s3_size P L T n_kinds n_figures n_lows n_highs h_isKept x_kept x_table x_count x_heavy x_isMuch x_term x_sum x_once x_twice x_isTermMuch x_nodePoint x_nodeOver x_newPoint x_newOver x_nodes x_newMany x_above x_below x_isTooGreat x_come x_foundSet x_rackKind x_rackSize x_rackHeld x_sorts x_sizes x_wholes x_floats x_doubles)
def LC (p : Program) (s : State) (m : MethodId) (meth : Method) (c : Code) (b ln : Nat) (xs : Nat → Int32) (G : va_G) (Y : Nat → ClassId) (zt : Nat) : Prop := lw_At p s m meth c b ln xs ∧ ln ≤ 3072 ∧ va_K G vwCl (tys Y) s ∧ xN s ∧ va_Z "PairedLines" "ABOVE" "[I" (.ref zt) (fun q : Nat => s.heap.size ≤ q) s s.heap ∧ va_T .int zt 6 (fun k => .int (abv k)) (fun q : Nat => s.heap.size ≤ q) s s.heap
/-- the cells behind a call, by places: kept, or one of the callee's -/
def fill (wc : va_W) : List (Option Nat) → va_W → va_W
  | none :: ms, w :: ws => w :: fill wc ms ws
  | some i :: ms, _ :: ws => match wc[i]? with
    | some v => v :: fill wc ms ws
    | none => []
  | _, _ => []
theorem fill_at (wc : va_W) : ∀ (ms : List (Option Nat)) (ws : va_W) (k : Nat) (q : Nat × va_E), (fill wc ms ws)[k]? = some q → (ms[k]? = some none ∧ ws[k]? = some q) ∨ ∃ i : Nat, wc[i]? = some q
  | [], ws, k, q, h => by
    have : fill wc [] ws = [] := by cases ws <;> rfl
    rw [this] at h
    cases h
  | none :: ms, [], k, q, h => by cases h
  | some i :: ms, [], k, q, h => by cases h
  | none :: ms, w :: ws, 0, q, h => Or.inl ⟨rfl, h⟩
  | none :: ms, w :: ws, k + 1, q, h => fill_at wc ms ws k q h
  | some i :: ms, w :: ws, k, q, h => by
    cases hi : wc[i]? with
    | none =>
      have : fill wc (some i :: ms) (w :: ws) = [] := by
        show (match wc[i]? with
          | some v => v :: fill wc ms ws
          | none => []) = []
        rw [hi]
      rw [this] at h
      cases h
    | some v =>
      have : fill wc (some i :: ms) (w :: ws) = v :: fill wc ms ws := by
        show (match wc[i]? with
          | some v => v :: fill wc ms ws
          | none => []) = _
        rw [hi]
      rw [this] at h
      cases k with
      | zero => exact Or.inr ⟨i, hi.trans h⟩
      | succ k => exact fill_at wc ms ws k q h
theorem map_fst {ws ws' : va_W} (h : ws'.map Prod.fst = ws.map Prod.fst) {k : Nat} {q : Nat × va_E} (hq : ws'[k]? = some q) : ∃ p, ws[k]? = some p ∧ p.1 = q.1 := by
  have h1 : (ws'.map Prod.fst)[k]? = some q.1 := by rw [List.getElem?_map, hq]; rfl
  rw [h, List.getElem?_map] at h1
  cases hw : ws[k]? with
  | none => rw [hw] at h1; cases h1
  | some p => rw [hw] at h1; exact ⟨p, rfl, Option.some.inj h1⟩
theorem va_D.like {A : Nat → Prop} {ws ws' : va_W} (h : va_D A ws) (hm : ws'.map Prod.fst = ws.map Prod.fst) : va_D A ws' := by
  refine ⟨fun i j p q hp hq hpq => ?_, fun k q hq => ?_⟩
  · obtain ⟨p2, h1, h2⟩ := map_fst hm hp
    obtain ⟨q2, h3, h4⟩ := map_fst hm hq
    exact h.1 i j p2 q2 h1 h3 (by rw [h2, h4, hpq])
  · obtain ⟨q2, h3, h4⟩ := map_fst hm hq
    rw [← h4]
    exact h.2 k q2 h3
def fillOk (isC : List Nat) : Nat → List (Option Nat) → Bool
  | _, [] => true
  | k, none :: ms => !isC.contains k && fillOk isC (k + 1) ms
  | k, some _ :: ms => fillOk isC (k + 1) ms
theorem fillOk_at (isC : List Nat) : ∀ (ms : List (Option Nat)) (a k : Nat), fillOk isC a ms = true → ms[k]? = some none → a + k ∉ isC
  | [], a, k, _, h => by cases h
  | none :: ms, a, 0, ho, _ => fun hh => by
    have := ((Bool.and_eq_true _ _).mp ho).1
    rw [Nat.add_zero] at hh
    rw [List.contains_iff_mem.mpr hh] at this
    exact absurd this (by decide)
  | none :: ms, a, k + 1, ho, h => by
    have := fillOk_at isC ms (a + 1) k ((Bool.and_eq_true _ _).mp ho).2 h
    rw [Nat.add_right_comm] at this
    exact this
  | some i :: ms, a, 0, ho, h => by cases h
  | some i :: ms, a, k + 1, ho, h => by
    have := fillOk_at isC ms (a + 1) k ho h
    rw [Nat.add_right_comm] at this
    exact this
theorem fill_join {A0 : Nat → Prop} {D : va_G} {cl : List vw_C} {ws wc w1 : va_W} {H H1 : Heap} (hP : va_P D cl ws H) (hD : va_D A0 ws) (isC : List Nat) (ms : List (Option Nat)) (hC : isC.map (fun i => ws[i]?) = wc.map some) (ho : fillOk isC 0 ms = true)
    (hk : ∀ q : Nat, q < H.size → ¬ va_A wc H.size q → H1[q]? = H[q]?) (hF : ∀ q, va_A wc H.size q → A0 q) (hP1 : va_P D cl w1 H1) (hD1 : va_D (va_A wc H.size) w1) : va_P D cl (fill w1 ms ws) H1 := by
  intro k q hq
  rcases fill_at w1 ms ws k q hq with ⟨h1, h2⟩ | ⟨i, h1⟩
  · have hn := fillOk_at isC ms 0 k ho h1
    rw [Nat.zero_add] at hn
    obtain ⟨hj, -⟩ := va_join (wr := [q]) hP hD isC [k] hC (by show [ws[k]?] = [some q]; rw [h2]) rfl (fun i hi => by
      have : i = k := by simpa using hi
      rw [this]
      exact hn) hk hF hP1 hD1
    exact hj 0 q rfl
  · exact hP1 i q h1
theorem blindZ {G : va_G} {T : List (ClassId × FieldType)} {ws : va_W} {sz zt : Nat} {A : Nat → Prop} (av : List Value) : FrameBlind (va_Pc av (Pre G T ws sz (xZ zt A))) := by
  intro a U g mk q
  obtain ⟨q0, q1, qP, qK, qD, qX⟩ := q
  exact ⟨q0, q1, qP, va_K.moved (u := U) (U := U.calling g mk a) (Vm.Alike.refl U.vm) qK, qD, va_Z.moved (u := U) (U := U.calling g mk a) (Vm.Alike.refl U.vm) qX.1, va_T.moved (u := U) (U := U.calling g mk a) (Vm.Alike.refl U.vm) qX.2⟩
section
variable {p : Program} {l : Launch} {e : Env} {R : Room} {s : State} {m : MethodId} {args : Array Value} {below : List Frame} {meth : Method} {c : Code} {H H0 : Heap} {locs : List Loc} {Q : State → Prop} {A0 : Nat → Prop} {G : va_G} {T : List (ClassId × FieldType)} {ws wc wc' ws' : va_W} {y : MethodName} {bytes cc : ByteArray} {maxL nL n index cells slots : Nat} {ret : Option FieldType} {wy : List Cond} {rm : Room} {Ts : List Cond} {own C : String} {b : Addr} {As rest : List Value} {pc : Nat} {ls : Array Slot} {st0 : List Value} {X : State → Prop}
theorem cV_i {rv : Int32} (S : CallFix p m c cc nL s args Ts own) (hM : Met l y wy rm (va_Pc (.ref b :: As) (Pre G T wc H.size X)) (va_Qi (fun (r : Int32) (_ : Unit) => r = rv) (Pst G T wc H.size wc') (va_A wc H.size)) 0 0 (va_A wc H.size)) (cw : CallW R s args own C index y bytes maxL ret wy rm 0 0 n) (hX : ∀ U : State, U.heap = H → s.WarmedH U.vm → X U) (hok : FrameBlind (va_Pc (.ref b :: As) (Pre G T wc H.size X))) (hK : va_K G vwCl T s) (hP : va_P G vwCl ws H) (hD : va_D A0 ws) (hS : va_S A0 H0 H locs) (hA : ∀ q, H0.size ≤ q → A0 q) (isC : List Nat) (ms : List (Option Nat)) (hC : isC.map (fun i => ws[i]?) = wc.map some) (hnC : va_nd isC = true) (ho : fillOk isC 0 ms = true) (hF : fill wc' ms ws = ws') (hF2 : ws'.map Prod.fst = ws.map Prod.fst) {ci q0 : Nat} {q : vw_C} {fs : List Value} (hc : vwCl[ci]? = some q) (he : wc[q0]? = some (b, .inr (ci, fs))) (hq : q.1 = C) (hn2 : As.length = n) (hsize : ls.size = nL) (hstack : st0 = As.reverse ++ .ref b :: rest) (hW : (rest.map fun v => v.category).sum ≤ 8) (hdg : decode cc pc = .ok (.invokevirtual index, 3)) (hcs : cells + 0 ≤ R.cells ∧ slots + 0 ≤ R.slots)
    (kk : ∀ (H1 : Heap) (locs1 : List Loc), va_P G vwCl ws' H1 → va_D A0 ws' → va_S A0 H0 H1 locs1 → W p l e R s m args below meth c H1 locs1 cells slots Q (F0 m (pc + 3) ls (.int rv :: rest))) : W p l e R s m args below meth c H locs cells slots Q (F0 m pc ls st0) := by
  subst hq
  have hPc := hP.sub isC (map_some_fm _ hC)
  have hDc := hD.sub isC hnC hC
  have hFc := va_free hD hS hA isC hC
  refine va_calli (va_runV (g := F0 m pc ls st0) S hM cw ⟨hok, va_recv hK hPc (ci := ci) (q0 := q0) hc he, fun U hU hW => ⟨rfl, by rw [hU], by rw [hU]; exact hPc, va_K.moved hW.alike hK, hDc.weaken (fun _ _ _ _ => trivial), hX U hU hW⟩⟩ rfl hn2 hsize hstack (lv_room hW) hdg hcs) hS (fun q _ h => hFc q h) hFc (fun r u t H1 locs1 ht hvm hw hB hz hk hS1 => ?_)
  subst hw
  obtain ⟨hP1, hK1, hD1⟩ := hB
  rw [ht] at hP1
  have hP2 := fill_join hP hD isC ms hC ho hk hFc hP1 hD1
  rw [hF] at hP2
  exact kk H1 locs1 hP2 (hD.like hF2) hS1
theorem cV_l {rv : Int64} (S : CallFix p m c cc nL s args Ts own) (hM : Met l y wy rm (va_Pc (.ref b :: As) (Pre G T wc H.size X)) (va_Ql (fun (r : Int64) (_ : Unit) => r = rv) (Pst G T wc H.size wc') (va_A wc H.size)) 0 0 (va_A wc H.size)) (cw : CallW R s args own C index y bytes maxL ret wy rm 0 0 n) (hX : ∀ U : State, U.heap = H → s.WarmedH U.vm → X U) (hok : FrameBlind (va_Pc (.ref b :: As) (Pre G T wc H.size X))) (hK : va_K G vwCl T s) (hP : va_P G vwCl ws H) (hD : va_D A0 ws) (hS : va_S A0 H0 H locs) (hA : ∀ q, H0.size ≤ q → A0 q) (isC : List Nat) (ms : List (Option Nat)) (hC : isC.map (fun i => ws[i]?) = wc.map some) (hnC : va_nd isC = true) (ho : fillOk isC 0 ms = true) (hF : fill wc' ms ws = ws') (hF2 : ws'.map Prod.fst = ws.map Prod.fst) {ci q0 : Nat} {q : vw_C} {fs : List Value} (hc : vwCl[ci]? = some q) (he : wc[q0]? = some (b, .inr (ci, fs))) (hq : q.1 = C) (hn2 : As.length = n) (hsize : ls.size = nL) (hstack : st0 = As.reverse ++ .ref b :: rest) (hW : (rest.map fun v => v.category).sum ≤ 8) (hdg : decode cc pc = .ok (.invokevirtual index, 3)) (hcs : cells + 0 ≤ R.cells ∧ slots + 0 ≤ R.slots)
    (kk : ∀ (H1 : Heap) (locs1 : List Loc), va_P G vwCl ws' H1 → va_D A0 ws' → va_S A0 H0 H1 locs1 → W p l e R s m args below meth c H1 locs1 cells slots Q (F0 m (pc + 3) ls (.long rv :: rest))) : W p l e R s m args below meth c H locs cells slots Q (F0 m pc ls st0) := by
  subst hq
  have hPc := hP.sub isC (map_some_fm _ hC)
  have hDc := hD.sub isC hnC hC
  have hFc := va_free hD hS hA isC hC
  refine va_calll (va_runV (g := F0 m pc ls st0) S hM cw ⟨hok, va_recv hK hPc (ci := ci) (q0 := q0) hc he, fun U hU hW => ⟨rfl, by rw [hU], by rw [hU]; exact hPc, va_K.moved hW.alike hK, hDc.weaken (fun _ _ _ _ => trivial), hX U hU hW⟩⟩ rfl hn2 hsize hstack (lv_room hW) hdg hcs) hS (fun q _ h => hFc q h) hFc (fun r u t H1 locs1 ht hvm hw hB hz hk hS1 => ?_)
  subst hw
  obtain ⟨hP1, hK1, hD1⟩ := hB
  rw [ht] at hP1
  have hP2 := fill_join hP hD isC ms hC ho hk hFc hP1 hD1
  rw [hF] at hP2
  exact kk H1 locs1 hP2 (hD.like hF2) hS1
end
section
variable {p : Program} {l : Launch} {e : Env} {R : Room} {s : State} {m : MethodId} {below : List Frame} {meth : Method} {c : Code} {H : Heap} {locs : List Loc} {Q : State → Prop} {A : Nat → Prop} {b L t pc cells slots : Nat} {xs : Nat → Int32} {ls : Array Slot} {rest : List Value} {args : Array Value} {lv : List (Nat × Value)}
/-- a word of the script -/
theorem ldS (hx : p.tables.exec = Jvm.exec) (hb : c.code = cL_law) (hX : va_X b L xs s s.heap) (hbl : b < s.heap.size) (hbA : ¬ A b) (hS : va_S A s.heap H locs) (hl : lv_has ls 4 lv) (l0 : lv[0]? = some (0, .ref b)) (l3 : lv[3]? = some (3, .int (nI (6 * t)))) (hL : L ≤ 3072) {k : Nat} {ki : Int} {v : Int32} (ht : 6 * t + k < L) (hk : Int32.ofInt ki = nI k) (hv : xs (6 * t + k) = v) (d0 : decode cL_law pc = .ok (.aload_n 0, 1)) (d1 : decode cL_law (pc + 1) = .ok (.iload_n 3, 1)) (d2 : decode cL_law (pc + 1 + 1) = .ok (.iconst ki, 1)) (d3 : decode cL_law (pc + 1 + 1 + 1) = .ok (.iadd, 1)) (d4 : decode cL_law (pc + 1 + 1 + 1 + 1) = .ok (.iaload, 1))
    (kk : W p l e R s m args below meth c H locs cells slots Q (F0 m (pc + 1 + 1 + 1 + 1 + 1) ls (.int v :: rest))) : W p l e R s m args below meth c H locs cells slots Q (F0 m pc ls rest) := by
  refine lv_aload_n hx hb d0 rfl (lv_at hl 0 l0) ?_
  refine lv_iload_n hx hb d1 rfl (lv_at hl 3 l3) ?_
  refine lv_iconst hx hb d2 hk ?_
  refine lv_iadd hx hb d3 ?_
  refine va_sld hx hb hX hbl hbA hS (i := nI (6 * t) + nI k) (by rw [nI_add]; exact vp_in_nI ht (by omega)) d4 ?_
  rw [nI_add, nI_clamp (by omega), hv]
  exact kk
end
theorem RackI.at {rk rf hd hd' : Nat → Int32} {kd sz xk xs xk' xs' : Int32} (h : RackI rk rf kd sz xk xs hd) (e1 : xk' = xk) (e2 : xs' = xs) (e3 : ∀ j, j < 20 → hd' j = hd j) : RackI rk rf kd sz xk' xs' hd' := by
  obtain ⟨a, b, c, d, e⟩ := h
  refine ⟨e1.trans a, e2.trans b, c, d, fun j hj => ?_⟩
  rw [e3 j hj]
  exact e j hj
theorem SheetI.at {si : Nat → Int32} {sl : Nat → Int64} {sf : Nat → UInt32} {sd : Nat → UInt64} {sn : Nat → Int32} {so sz xo xz xo' xz' : Int32} {xw xw' : Nat → Int64} {xf xf' : Nat → UInt32} {xd xd' : Nat → UInt64} (h : SheetI si sl sf sd sn so sz xo xz xw xf xd) (e1 : xo' = xo) (e2 : xz' = xz) (e3 : ∀ j, j < 60 → xw' j = xw j ∧ xf' j = xf j ∧ xd' j = xd j) : SheetI si sl sf sd sn so sz xo' xz' xw' xf' xd' := by
  obtain ⟨a, b, c, d, e⟩ := h
  refine ⟨e1.trans a, e2.trans b, c, d, fun j hj => ?_⟩
  obtain ⟨k1, k2, k3⟩ := e3 j hj
  rw [k1, k2, k3]
  exact e j hj
section
variable {p1 : Int32} {si : Nat → Int32} {sl : Nat → Int64} {sf : Nat → UInt32} {sd : Nat → UInt64} {sn : Nat → Int32} {so sz : Int32} {xo xz : Nat → Int32} {xw : Nat → Int64} {xf : Nat → UInt32} {xd : Nat → UInt64} {si' : Nat → Int32} {sl' : Nat → Int64} {sf' : Nat → UInt32} {sd' : Nat → UInt64} {sn' : Nat → Int32} {so' sz' : Int32} {xo' xz' : Nat → Int32} {xw' : Nat → Int64} {xf' : Nat → UInt32} {xd' : Nat → UInt64}
/-- the SHEET of the call behind it -/
theorem ShOut.j (ho : ShOut p1 si sl sf sd sn so sz xo xz xw xf xd si' sl' sf' sd' sn' so' sz' xo' xz' xw' xf' xd') {j : Nat} (hj4 : j < 4) (hj : ∀ i, i < 4 → p1 = nI i → i = j) (h : SheetI si sl sf sd sn so sz (xo j) (xz j) (fun q => xw (60 * j + q)) (fun q => xf (60 * j + q)) (fun q => xd (60 * j + q))) : SheetI si' sl' sf' sd' sn' so' sz' (xo' j) (xz' j) (fun q => xw' (60 * j + q)) (fun q => xf' (60 * j + q)) (fun q => xd' (60 * j + q)) := by
  by_cases e : p1 = nI j
  · exact ho.1 j hj4 e
  · obtain ⟨k1, k2, k3⟩ := ho.2.1 j hj4 e
    obtain ⟨rfl, rfl, rfl, rfl, rfl, rfl, rfl⟩ := ho.2.2 (fun i hi z => e (by rw [← hj i hi z]; exact z))
    exact h.at k1 k2 k3
/-- another SHEET behind it -/
theorem ShOut.o (ho : ShOut p1 si sl sf sd sn so sz xo xz xw xf xd si' sl' sf' sd' sn' so' sz' xo' xz' xw' xf' xd') {j i : Nat} (hi4 : i < 4) (hj : ∀ i, i < 4 → p1 = nI i → i = j) (hne : i ≠ j) {ti : Nat → Int32} {tl : Nat → Int64} {tf : Nat → UInt32} {td : Nat → UInt64} {tn : Nat → Int32} {to tz : Int32} (h : SheetI ti tl tf td tn to tz (xo i) (xz i) (fun q => xw (60 * i + q)) (fun q => xf (60 * i + q)) (fun q => xd (60 * i + q))) : SheetI ti tl tf td tn to tz (xo' i) (xz' i) (fun q => xw' (60 * i + q)) (fun q => xf' (60 * i + q)) (fun q => xd' (60 * i + q)) := by
  obtain ⟨k1, k2, k3⟩ := ho.2.1 i hi4 (fun z => hne (hj i hi4 z))
  exact h.at k1 k2 k3
end
set_option maxRecDepth 100000 in
set_option maxHeartbeats 4000000 in
theorem c_X8_copy_bad (l : Launch) (G : va_G) (Y : Nat → ClassId) (sz : Nat) (qh : Nat → Nat) (qn : Nat → Nat) (qk : Nat → Nat) (qt : Nat → Nat) (qm : Nat → Nat) (qg : Nat → Nat) (qp : Nat → Nat) (h_isKept : Int32) (p1 p2 p3 p4 p5 : Int32) (hbad : (p1 < 0 ∨ 3 < p1) ∨ (p3 < 0 ∨ 3 < p3)) : Met l yX8_copy wsX8_copy (rmk 2 84) (va_Pc [.ref (qh 0), .int p1, .int p2, .int p3, .int p4, .int p5] (Pre G (tys Y) [(qh 0, oX8 qh (qn 0) (qk 0) h_isKept (qt 0) (qm 0) (qg 0) (qp 0))] sz xT)) (va_Qi (fun (r : Int32) (_ : Unit) => r = -2) (Pst G (tys Y) [(qh 0, oX8 qh (qn 0) (qk 0) h_isKept (qt 0) (qm 0) (qg 0) (qp 0))] sz [(qh 0, oX8 qh (qn 0) (qk 0) h_isKept (qt 0) (qm 0) (qg 0) (qp 0))]) (va_A [(qh 0, oX8 qh (qn 0) (qk 0) h_isKept (qt 0) (qm 0) (qg 0) (qp 0))] sz)) 0 0 (va_A [(qh 0, oX8 qh (qn 0) (qk 0) h_isKept (qt 0) (qm 0) (qg 0) (qp 0))] sz) := by
  refine Met.ofW (cc := cX8_copy) (maxL := 6) (ret := (some .int)) (by decide) rfl ?_
  intro p e s m args below meth c s₁ B hml hv
  obtain ⟨rfl, hsz, hP, hK, hD0, hX⟩ := hv
  have hx := B.exec
  have hb := B.bytes
  have hr := B.returns
  have hts := atoms_spec (ws := wsX8_copy) B.pre
  have hown : s.vm.findClass RX8 = some m.cls := findClass_of_methodNamed B.named
  subst hsz
  have hD := hD0.self (sz := s.heap.size)
  generalize hAe : va_A [(qh 0, oX8 qh (qn 0) (qk 0) h_isKept (qt 0) (qm 0) (qg 0) (qp 0))] s.heap.size = A at hD ⊢
  have hA : ∀ q : Nat, s.heap.size ≤ q → A q := fun q h => by rw [← hAe]; exact Or.inr h
  have hS : va_S A s.heap s.heap [] := va_S.rf
  have hP : va_P G vwCl [(qh 0, oX8 qh (qn 0) (qk 0) h_isKept (qt 0) (qm 0) (qg 0) (qp 0))] s.heap := hP
  have hl := lv_entry ([.ref (qh 0), .int p1, .int p2, .int p3, .int p4, .int p5]) (n := 6) (Nat.le_of_ble_eq_true rfl)
  rw [lg_entry_eq]
  generalize (lg_sl ([.ref (qh 0), .int p1, .int p2, .int p3, .int p4, .int p5]) ++ List.replicate (6 - (lg_sl ([.ref (qh 0), .int p1, .int p2, .int p3, .int p4, .int p5])).length) Slot.unset).toArray = ls at hl ⊢
  have hl : lv_has ls 6 [(0, .ref (qh 0)), (1, .int p1), (2, .int p2), (3, .int p3), (4, .int p4), (5, .int p5)] := hl
  have E0 : ∀ (H : Heap) (locs : List Loc), va_P G vwCl [(qh 0, oX8 qh (qn 0) (qk 0) h_isKept (qt 0) (qm 0) (qg 0) (qp 0))] H → va_D A [(qh 0, oX8 qh (qn 0) (qk 0) h_isKept (qt 0) (qm 0) (qg 0) (qp 0))] → va_S A s.heap H locs → W p l e (headSpec wsX8_copy (rmk 2 84)).room s m [.ref (qh 0), .int p1, .int p2, .int p3, .int p4, .int p5].toArray below meth c H locs 0 0 (MQ below (va_Qi (fun (r : Int32) (_ : Unit) => r = -2) (Pst G (tys Y) [(qh 0, oX8 qh (qn 0) (qk 0) h_isKept (qt 0) (qm 0) (qg 0) (qp 0))] s.heap.size [(qh 0, oX8 qh (qn 0) (qk 0) h_isKept (qt 0) (qm 0) (qg 0) (qp 0))]) A) [.ref (qh 0), .int p1, .int p2, .int p3, .int p4, .int p5].toArray s 0 0 A) (F0 m 0 ls []) := by
    intro H locs hP hD hS
    refine lv_iload_n hx hb dX8_copy_0 rfl (lv_at hl 1 rfl) ?_
    refine cl_i (ws' := [(qh 0, oX8 qh (qn 0) (qk 0) h_isKept (qt 0) (qm 0) (qg 0) (qp 0))]) (wr := [(qh 0, oX8 qh (qn 0) (qk 0) h_isKept (qt 0) (qm 0) (qg 0) (qp 0))]) (rnS (As := [.int p1]) (rest := []) ⟨hx, hb, hml, hown, hts⟩ (c_X8_isNoSheet l G Y H.size p1 _ (q_isNoSheet p1)) (va_cwS 1 hts gX8_copy_X8_isNoSheet rfl rfl rfl (by decide +kernel) ⟨(Nat.le_of_ble_eq_true rfl), (Nat.le_of_ble_eq_true rfl)⟩) trivial okT hK hP hD [] rfl rfl rfl hl.1 rfl (Nat.le_of_ble_eq_true rfl) dX8_copy_1) hP hD hS hA [] [0] [0] rfl rfl rfl (by decide) rfl rfl (fun H locs hP hD hS => ?_)
    refine lv_if_ne (tgt := 14) hx hb dX8_copy_4 (by decide) (fun c2 => ?_) (fun c2 => ?_)
    · refine lv_bipush (v := -2) hx hb dX8_copy_14 (by decide) ?_
      exact W.iret (v := (-2 : Int32)) hx hb hr (fun t ht hW => ⟨⟨(-2 : Int32), (), rfl, rfl, by rw [ht]; exact hP, va_K.moved hW.alike hK, by rw [hAe]; exact hD⟩, hS.F ht⟩) hS.2.2 dX8_copy_16
    · have n1 : ¬ (p1 < 0 ∨ 3 < p1) := fun z => absurd c2 (by rw [if_pos z]; decide)
      refine lv_iload_n hx hb dX8_copy_7 rfl (lv_at hl 3 rfl) ?_
      refine cl_i (ws' := [(qh 0, oX8 qh (qn 0) (qk 0) h_isKept (qt 0) (qm 0) (qg 0) (qp 0))]) (wr := [(qh 0, oX8 qh (qn 0) (qk 0) h_isKept (qt 0) (qm 0) (qg 0) (qp 0))]) (rnS (As := [.int p3]) (rest := []) ⟨hx, hb, hml, hown, hts⟩ (c_X8_isNoSheet l G Y H.size p3 _ (q_isNoSheet p3)) (va_cwS 1 hts gX8_copy_X8_isNoSheet rfl rfl rfl (by decide +kernel) ⟨(Nat.le_of_ble_eq_true rfl), (Nat.le_of_ble_eq_true rfl)⟩) trivial okT hK hP hD [] rfl rfl rfl hl.1 rfl (Nat.le_of_ble_eq_true rfl) dX8_copy_8) hP hD hS hA [] [0] [0] rfl rfl rfl (by decide) rfl rfl (fun H locs hP hD hS => ?_)
      refine lv_if_eq (tgt := 17) hx hb dX8_copy_11 (by decide) (fun c4 => ?_) (fun c4 => ?_)
      · exact absurd c4 (by rw [if_pos (hbad.resolve_left n1)]; decide)
      · refine lv_bipush (v := -2) hx hb dX8_copy_14 (by decide) ?_
        exact W.iret (v := (-2 : Int32)) hx hb hr (fun t ht hW => ⟨⟨(-2 : Int32), (), rfl, rfl, by rw [ht]; exact hP, va_K.moved hW.alike hK, by rw [hAe]; exact hD⟩, hS.F ht⟩) hS.2.2 dX8_copy_16
  exact E0 s.heap [] hP hD hS
