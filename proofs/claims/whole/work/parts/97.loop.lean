theorem LG.next {G : va_G} {Y : Nat → ClassId} {s : State} {a8 a9 t : Nat} {H : Heap} (h : LG G Y s a8 a9 t H) : LG G Y s a8 a9 (t + 1) H := by
  refine h.out (fun qh qn qk qt qm qg qp r0 r1 r2 s0 s1 s2 s3 qx h_isKept n_kinds n_figures n_lows n_highs n_joins n_nears n_linesAt P L T n_age k_kinds k_figures k_lows k_highs k_joins k_nears k_linesAt k_pointCount k_lineCount k_tideNow k_age t_worths t_longest t_sets t_stamps t_nears t_weights t_stamp t_age t_isTurned m_each m_total m_once m_twice g_spots g_parents g_branches g_depths g_ends g_above g_below g_size p_spots p_parents p_branches p_depths p_ends p_above p_below p_size r0_kinds r0_figures r0_kind r0_size r1_kinds r1_figures r1_kind r1_size r2_kinds r2_figures r2_kind r2_size s0_ints s0_longs s0_floats s0_doubles s0_signs s0_sort s0_size s1_ints s1_longs s1_floats s1_doubles s1_signs s1_sort s1_size s2_ints s2_longs s2_floats s2_doubles s2_signs s2_sort s2_size s3_ints s3_longs s3_floats s3_doubles s3_signs s3_sort s3_size x_kept x_table x_count x_heavy x_isMuch x_term x_sum x_once x_twice x_isTermMuch x_nodePoint x_nodeOver x_newPoint x_newOver x_nodes x_newMany x_above x_below x_isTooGreat x_come x_foundSet x_rackKind x_rackSize x_rackHeld x_sorts x_sizes x_wholes x_floats x_doubles ea8 ea9 hI hP hD => ?_)
  subst ea8
  subst ea9
  obtain ⟨hN, hKe, ⟨N, B, rfl, hNt, hBt, hT⟩, hTr, hR0, hR1, hR2, hS0, hS1, hS2, hS3⟩ := hI
  exact LG.mk hP hD ⟨hN, hKe, (TabX.go hNt (by omega) hT), hTr, hR0, hR1, hR2, hS0, hS1, hS2, hS3⟩
theorem end_lt {ln t : Nat} (h1 : 6 * t ≤ ln) (h2 : ln < 6 * t + 6) (h3 : ln ≤ 3072) : nI ln - 6 < nI (6 * t) := by
  by_cases h6 : 6 ≤ ln
  · obtain ⟨k, rfl⟩ : ∃ k, ln = k + 6 := ⟨ln - 6, by omega⟩
    have e : nI (k + 6) - 6 = nI k := by
      rw [← nI_add]
      exact Int32.add_sub_cancel _ _
    rw [e]
    exact nI_lt (by omega) (by omega)
  · obtain rfl : t = 0 := by omega
    rcases (show ln = 0 ∨ ln = 1 ∨ ln = 2 ∨ ln = 3 ∨ ln = 4 ∨ ln = 5 by omega) with rfl | rfl | rfl | rfl | rfl | rfl <;> decide
set_option maxRecDepth 100000 in
set_option maxHeartbeats 4000000 in
theorem law_loop {p : Program} {l : Launch} {e : Env} {s : State} {m : MethodId} {below : List Frame} {meth : Method} {c : Code} {G : va_G} {Y : Nat → ClassId} {b ln zt a8 a9 : Nat} {xs : Nat → Int32} (C0 : LC p s m meth c b ln xs G Y zt) :
    ∀ (n t : Nat), 6 * t ≤ ln → ln + 1 ≤ 6 * t + n → ∀ (H : Heap) (locs : List Loc), LG G Y s a8 a9 t H → va_S (fun q : Nat => s.heap.size ≤ q) s.heap H locs → ∀ (ls : Array Slot), lv_has ls 4 [(0, .ref b), (1, .ref a8), (2, .ref a9), (3, .int (nI (6 * t)))] → W p l e room_1 s m #[Value.ref b] below meth c H locs 101 43380 (lw_Z below #[Value.ref b] s) (F0 m 18 ls []) := by
  have C1 := C0
  obtain ⟨⟨hx, hb, hr, hml, hown, hts, hX, hbl, hlocks, hgv⟩, hL3, hK, hXN, hZ, hZT⟩ := C0
  have hbA : ¬ (fun q : Nat => s.heap.size ≤ q) b := Nat.not_le.mpr hbl
  have hcs : 101 + 0 ≤ room_1.cells ∧ 43380 + 0 ≤ room_1.slots := ⟨Nat.le_of_ble_eq_true rfl, Nat.le_of_ble_eq_true rfl⟩
  intro n
  induction n with
  | zero =>
    intro t h1 h2
    exact absurd h2 (by omega)
  | succ n ih =>
    intro t ht hn H locs hG hS ls hl
    refine lv_iload_n hx hb dL_law_18 rfl (lv_at hl 3 rfl) ?_
    refine lv_aload_n hx hb dL_law_19 rfl (lv_at hl 0 rfl) ?_
    refine va_slen hx hb hX hbl hbA hS dL_law_20 ?_
    refine lv_bipush (v := 6) hx hb dL_law_21 (by decide) ?_
    refine lv_isub hx hb dL_law_23 ?_
    refine lv_icmp_gt (tgt := 1858) hx hb dL_law_24 (by decide) (fun _ => ?_) (fun c1 => ?_)
    · refine lv_iconst (v := 1) hx hb dL_law_1858 (by decide) ?_
      refine va_forget (fun q hq => hS.2.2 q hq) ?_
      refine W.widen (k := 600000) (n := 7302250) (Nat.le_of_ble_eq_true rfl) (Nat.le_of_ble_eq_true rfl) ?_
      exact lw_ret (d0 := s.drawn) (Drawn.sameBut.refl s.drawn lw_cs) hx hb hr hlocks dL_law_1859
    · have h6 : 6 * t + 6 ≤ ln := by
        rcases Nat.lt_or_ge ln (6 * t + 6) with q | q
        · exact absurd (end_lt ht q hL3) c1
        · exact q
      have e6 : nI (6 * (t + 1)) = nI (6 * t) + 6 := by
        rw [Nat.mul_succ]
        exact (nI_add _ 6).symm
      have kk : ∀ (H : Heap) (locs : List Loc), LG G Y s a8 a9 (t + 1) H → va_S (fun q : Nat => s.heap.size ≤ q) s.heap H locs → W p l e room_1 s m #[Value.ref b] below meth c H locs 101 43380 (lw_Z below #[Value.ref b] s) (F0 m 1852 ls []) := by
        intro H locs hG hS
        refine lv_iinc (v := nI (6 * (t + 1))) (lv' := [(3, .int (nI (6 * (t + 1)))), (0, .ref b), (1, .ref a8), (2, .ref a9)]) hx hb dL_law_1852 hl (k := 3) rfl (by rw [e6]; rfl) (by decide) rfl (fun ls hl => ?_)
        refine lv_goto (tgt := 18) hx hb dL_law_1855 (by decide) ?_
        exact ih (t + 1) (by omega) (by omega) H locs hG hS ls (lv_sub hl [1, 2, 3, 0] rfl)
      refine lv_aload_n hx hb dL_law_27 rfl (lv_at hl 0 rfl) ?_
      refine lv_iload_n hx hb dL_law_28 rfl (lv_at hl 3 rfl) ?_
      refine va_sld hx hb hX hbl hbA hS (i := nI (6 * t)) (vp_in_nI (by omega) (by omega)) dL_law_29 ?_
      refine lv_bipush (v := 63) hx hb dL_law_30 (by decide) ?_
      refine lv_iand hx hb dL_law_32 ?_
      refine lv_topi (fun v _ => ?_)
      by_cases ho : v.toInt < 0 ∨ 42 < v.toInt
      · exact lv_tableOut (tgt := 1852) hx hb dL_law_33 ho (by decide) (kk H locs hG.next hS)
      have n1 : ¬ v.toInt < 0 := fun z => ho (Or.inl z)
      have n2 : ¬ 42 < v.toInt := fun z => ho (Or.inr z)
      by_cases v0 : v.toInt = 0
      · exact lv_tableIn (off := 187) (tgt := 220) hx hb dL_law_33 n1 n2 (by rw [v0]; rfl) (by decide) (k_points C1 hcs h6 hl hG hS kk)
      by_cases v1 : v.toInt = 1
      · exact lv_tableIn (off := 210) (tgt := 243) hx hb dL_law_33 n1 n2 (by rw [v1]; rfl) (by decide) (k_line C1 hcs h6 hl hG hS kk)
      by_cases v2 : v.toInt = 2
      · exact lv_tableIn (off := 263) (tgt := 296) hx hb dL_law_33 n1 n2 (by rw [v2]; rfl) (by decide) (k_told C1 hcs h6 hl hG hS kk)
      by_cases v3 : v.toInt = 3
      · exact lv_tableIn (off := 296) (tgt := 329) hx hb dL_law_33 n1 n2 (by rw [v3]; rfl) (by decide) (k_set C1 hcs h6 hl hG hS kk)
      by_cases v4 : v.toInt = 4
      · exact lv_tableIn (off := 329) (tgt := 362) hx hb dL_law_33 n1 n2 (by rw [v4]; rfl) (by decide) (k_turns C1 hcs h6 hl hG hS kk)
      by_cases v5 : v.toInt = 5
      · exact lv_tableIn (off := 362) (tgt := 395) hx hb dL_law_33 n1 n2 (by rw [v5]; rfl) (by decide) (k_drop C1 hcs h6 hl hG hS kk)
      by_cases v6 : v.toInt = 6
      · exact lv_tableIn (off := 385) (tgt := 418) hx hb dL_law_33 n1 n2 (by rw [v6]; rfl) (by decide) (k_tide C1 hcs h6 hl hG hS kk)
      by_cases v7 : v.toInt = 7
      · exact lv_tableIn (off := 408) (tgt := 441) hx hb dL_law_33 n1 n2 (by rw [v7]; rfl) (by decide) (k_between C1 hcs h6 hl hG hS kk)
      by_cases v8 : v.toInt = 8
      · exact lv_tableIn (off := 441) (tgt := 474) hx hb dL_law_33 n1 n2 (by rw [v8]; rfl) (by decide) (k_near C1 hcs h6 hl hG hS kk)
      by_cases v9 : v.toInt = 9
      · exact lv_tableIn (off := 474) (tgt := 507) hx hb dL_law_33 n1 n2 (by rw [v9]; rfl) (by decide) (k_counts C1 hcs h6 hl hG hS kk)
      by_cases v10 : v.toInt = 10
      · exact lv_tableIn (off := 508) (tgt := 541) hx hb dL_law_33 n1 n2 (by rw [v10]; rfl) (by decide) (k_coef C1 hcs h6 hl hG hS kk)
      by_cases v11 : v.toInt = 11
      · exact lv_tableIn (off := 542) (tgt := 575) hx hb dL_law_33 n1 n2 (by rw [v11]; rfl) (by decide) (k_sum C1 hcs h6 hl hG hS kk)
      by_cases v12 : v.toInt = 12
      · exact lv_tableIn (off := 576) (tgt := 609) hx hb dL_law_33 n1 n2 (by rw [v12]; rfl) (by decide) (k_likely C1 hcs h6 hl hG hS kk)
      by_cases v13 : v.toInt = 13
      · exact lv_tableIn (off := 609) (tgt := 642) hx hb dL_law_33 n1 n2 (by rw [v13]; rfl) (by decide) (k_mean C1 hcs h6 hl hG hS kk)
      by_cases v14 : v.toInt = 14
      · exact lv_tableIn (off := 653) (tgt := 686) hx hb dL_law_33 n1 n2 (by rw [v14]; rfl) (by decide) (k_spread C1 hcs h6 hl hG hS kk)
      by_cases v15 : v.toInt = 15
      · exact lv_tableIn (off := 697) (tgt := 730) hx hb dL_law_33 n1 n2 (by rw [v15]; rfl) (by decide) (k_meanAs C1 hcs h6 hl hG hS kk)
      by_cases v16 : v.toInt = 16
      · exact lv_tableIn (off := 741) (tgt := 774) hx hb dL_law_33 n1 n2 (by rw [v16]; rfl) (by decide) (k_most C1 hcs h6 hl hG hS kk)
      by_cases v17 : v.toInt = 17
      · exact lv_tableIn (off := 764) (tgt := 797) hx hb dL_law_33 n1 n2 (by rw [v17]; rfl) (by decide) (k_other C1 hcs h6 hl hG hS kk)
      by_cases v18 : v.toInt = 18
      · exact lv_tableIn (off := 788) (tgt := 821) hx hb dL_law_33 n1 n2 (by rw [v18]; rfl) (by decide) (k_alone C1 hcs h6 hl hG hS kk)
      by_cases v19 : v.toInt = 19
      · exact lv_tableIn (off := 842) (tgt := 875) hx hb dL_law_33 n1 n2 (by rw [v19]; rfl) (by decide) (k_tree C1 hcs h6 hl hG hS kk)
      by_cases v20 : v.toInt = 20
      · exact lv_tableIn (off := 875) (tgt := 908) hx hb dL_law_33 n1 n2 (by rw [v20]; rfl) (by decide) (k_node C1 hcs h6 hl hG hS kk)
      by_cases v21 : v.toInt = 21
      · exact lv_tableIn (off := 908) (tgt := 941) hx hb dL_law_33 n1 n2 (by rw [v21]; rfl) (by decide) (k_share C1 hcs h6 hl hG hS kk)
      by_cases v22 : v.toInt = 22
      · exact lv_tableIn (off := 952) (tgt := 985) hx hb dL_law_33 n1 n2 (by rw [v22]; rfl) (by decide) (k_cutOff C1 hcs h6 hl hG hS kk)
      by_cases v23 : v.toInt = 23
      · exact lv_tableIn (off := 1005) (tgt := 1038) hx hb dL_law_33 n1 n2 (by rw [v23]; rfl) (by decide) (k_sign C1 hcs h6 hl hG hS kk)
      by_cases v24 : v.toInt = 24
      · exact lv_tableIn (off := 1048) (tgt := 1081) hx hb dL_law_33 n1 n2 (by rw [v24]; rfl) (by decide) (k_changes C1 hcs h6 hl hG hS kk)
      by_cases v25 : v.toInt = 25
      · exact lv_tableIn (off := 1101) (tgt := 1134) hx hb dL_law_33 n1 n2 (by rw [v25]; rfl) (by decide) (k_isPairing C1 hcs h6 hl hG hS kk)
      by_cases v26 : v.toInt = 26
      · exact lv_tableIn (off := 1154) (tgt := 1187) hx hb dL_law_33 n1 n2 (by rw [v26]; rfl) (by decide) (k_worth C1 hcs h6 hl hG hS kk)
      by_cases v27 : v.toInt = 27
      · exact lv_tableIn (off := 1208) (tgt := 1241) hx hb dL_law_33 n1 n2 (by rw [v27]; rfl) (by decide) (k_listed C1 hcs h6 hl hG hS kk)
      by_cases v28 : v.toInt = 28
      · exact lv_tableIn (off := 1242) (tgt := 1275) hx hb dL_law_33 n1 n2 (by rw [v28]; rfl) (by decide) (k_lot C1 hcs h6 hl hG hS kk)
      by_cases v29 : v.toInt = 29
      · exact lv_tableIn (off := 1276) (tgt := 1309) hx hb dL_law_33 n1 n2 (by rw [v29]; rfl) (by decide) (k_rack C1 hcs h6 hl hG hS kk)
      by_cases v30 : v.toInt = 30
      · exact lv_tableIn (off := 1319) (tgt := 1352) hx hb dL_law_33 n1 n2 (by rw [v30]; rfl) (by decide) (k_lay C1 hcs h6 hl hG hS kk)
      by_cases v31 : v.toInt = 31
      · exact lv_tableIn (off := 1362) (tgt := 1395) hx hb dL_law_33 n1 n2 (by rw [v31]; rfl) (by decide) (k_of C1 hcs h6 hl hG hS kk)
      by_cases v32 : v.toInt = 32
      · exact lv_tableIn (off := 1395) (tgt := 1428) hx hb dL_law_33 n1 n2 (by rw [v32]; rfl) (by decide) (k_sheet C1 hcs h6 hl hG hS kk)
      by_cases v33 : v.toInt = 33
      · exact lv_tableIn (off := 1438) (tgt := 1471) hx hb dL_law_33 n1 n2 (by rw [v33]; rfl) (by decide) (k_cell C1 hcs h6 hl hG hS kk)
      by_cases v34 : v.toInt = 34
      · exact lv_tableIn (off := 1511) (tgt := 1544) hx hb dL_law_33 n1 n2 (by rw [v34]; rfl) (by decide) (k_read C1 hcs h6 hl hG hS kk)
      by_cases v35 : v.toInt = 35
      · exact lv_tableIn (off := 1555) (tgt := 1588) hx hb dL_law_33 n1 n2 (by rw [v35]; rfl) (by decide) (k_parts C1 hcs h6 hl hG hS kk)
      by_cases v36 : v.toInt = 36
      · exact lv_tableIn (off := 1598) (tgt := 1631) hx hb dL_law_33 n1 n2 (by rw [v36]; rfl) (by decide) (k_writes C1 hcs h6 hl hG hS kk)
      by_cases v37 : v.toInt = 37
      · exact lv_tableIn (off := 1631) (tgt := 1664) hx hb dL_law_33 n1 n2 (by rw [v37]; rfl) (by decide) (k_same C1 hcs h6 hl hG hS kk)
      by_cases v38 : v.toInt = 38
      · exact lv_tableIn (off := 1664) (tgt := 1697) hx hb dL_law_33 n1 n2 (by rw [v38]; rfl) (by decide) (k_copy C1 hcs h6 hl hG hS kk)
      by_cases v39 : v.toInt = 39
      · exact lv_tableIn (off := 1727) (tgt := 1760) hx hb dL_law_33 n1 n2 (by rw [v39]; rfl) (by decide) (k_build C1 hcs h6 hl hG hS kk)
      by_cases v40 : v.toInt = 40
      · exact lv_tableIn (off := 1770) (tgt := 1803) hx hb dL_law_33 n1 n2 (by rw [v40]; rfl) (by decide) (k_image C1 hcs h6 hl hG hS kk)
      by_cases v41 : v.toInt = 41
      · exact lv_tableIn (off := 1783) (tgt := 1816) hx hb dL_law_33 n1 n2 (by rw [v41]; rfl) (by decide) (k_back C1 hcs h6 hl hG hS kk)
      by_cases v42 : v.toInt = 42
      · exact lv_tableIn (off := 1796) (tgt := 1829) hx hb dL_law_33 n1 n2 (by rw [v42]; rfl) (by decide) (k_count C1 hcs h6 hl hG hS kk)
      exact absurd rfl (fun _ : v = v => by omega)
