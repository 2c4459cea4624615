-- X1_linkOne
set_option maxRecDepth 100000 in
set_option maxHeartbeats 4000000 in
theorem c_X1_linkOne (l : Launch) (G : va_G) (Y : Nat → ClassId) (sz : Nat) (qn : Nat → Nat) (n_lows : Nat → Int32) (n_highs : Nat → Int32) (n_joins : Nat → Int32) (n_nears : Nat → Int32) (n_linesAt : Nat → Int64) (n_pointCount : Int32) (n_lineCount : Int32) (n_tideNow : Int32) (n_age : Int32) (p1 : Int32) (o_n_joins : Nat → Int32) (o_n_nears : Nat → Int32) (o_n_linesAt : Nat → Int64) (hf : f_X1_linkOne n_lows n_highs n_joins n_nears n_linesAt p1 = some (o_n_joins, o_n_nears, o_n_linesAt)) : Met l yX1_linkOne wsX1_linkOne (rmk 0 0) (va_Pc [.ref (qn 0), .int p1] (Pre G (tys Y) [(qn 0, oX1 qn n_pointCount n_lineCount n_tideNow n_age), (qn 3, .inl (Y 0, 40, .inl n_lows)), (qn 4, .inl (Y 0, 40, .inl n_highs)), (qn 5, .inl (Y 0, 144, .inl n_joins)), (qn 6, .inl (Y 0, 12, .inl n_nears)), (qn 7, .inl (Y 1, 12, .inr (.inl n_linesAt)))] sz xT)) (va_Qv (fun (_ : Unit) => True) (Pst G (tys Y) [(qn 0, oX1 qn n_pointCount n_lineCount n_tideNow n_age), (qn 3, .inl (Y 0, 40, .inl n_lows)), (qn 4, .inl (Y 0, 40, .inl n_highs)), (qn 5, .inl (Y 0, 144, .inl n_joins)), (qn 6, .inl (Y 0, 12, .inl n_nears)), (qn 7, .inl (Y 1, 12, .inr (.inl n_linesAt)))] sz [(qn 0, oX1 qn n_pointCount n_lineCount n_tideNow n_age), (qn 3, .inl (Y 0, 40, .inl n_lows)), (qn 4, .inl (Y 0, 40, .inl n_highs)), (qn 5, .inl (Y 0, 144, .inl o_n_joins)), (qn 6, .inl (Y 0, 12, .inl o_n_nears)), (qn 7, .inl (Y 1, 12, .inr (.inl o_n_linesAt)))]) (va_A [(qn 0, oX1 qn n_pointCount n_lineCount n_tideNow n_age), (qn 3, .inl (Y 0, 40, .inl n_lows)), (qn 4, .inl (Y 0, 40, .inl n_highs)), (qn 5, .inl (Y 0, 144, .inl n_joins)), (qn 6, .inl (Y 0, 12, .inl n_nears)), (qn 7, .inl (Y 1, 12, .inr (.inl n_linesAt)))] sz)) 0 0 (va_A [(qn 0, oX1 qn n_pointCount n_lineCount n_tideNow n_age), (qn 3, .inl (Y 0, 40, .inl n_lows)), (qn 4, .inl (Y 0, 40, .inl n_highs)), (qn 5, .inl (Y 0, 144, .inl n_joins)), (qn 6, .inl (Y 0, 12, .inl n_nears)), (qn 7, .inl (Y 1, 12, .inr (.inl n_linesAt)))] sz) := by
  refine Met.ofW (cc := cX1_linkOne) (maxL := 4) (ret := none) (by decide) rfl ?_
  intro p e s m args below meth c s₁ B hml hv
  obtain ⟨rfl, hsz, hP, hK, hD0, hX⟩ := hv
  have hx := B.exec
  have hb := B.bytes
  have hr := B.returns
  have hts := atoms_spec (ws := wsX1_linkOne) B.pre
  have hown : s.vm.findClass RX1 = some m.cls := findClass_of_methodNamed B.named
  have hlocks := B.notSynchronized
  subst hsz
  have hD := hD0.self (sz := s.heap.size)
  generalize hAe : va_A [(qn 0, oX1 qn n_pointCount n_lineCount n_tideNow n_age), (qn 3, .inl (Y 0, 40, .inl n_lows)), (qn 4, .inl (Y 0, 40, .inl n_highs)), (qn 5, .inl (Y 0, 144, .inl n_joins)), (qn 6, .inl (Y 0, 12, .inl n_nears)), (qn 7, .inl (Y 1, 12, .inr (.inl n_linesAt)))] s.heap.size = A at hD ⊢
  have hA : ∀ q : Nat, s.heap.size ≤ q → A q := fun q h => by rw [← hAe]; exact Or.inr h
  have hS : va_S A s.heap s.heap [] := va_S.rf
  have hP : va_P G vwCl [(qn 0, oX1 qn n_pointCount n_lineCount n_tideNow n_age), (qn 3, .inl (Y 0, 40, .inl n_lows)), (qn 4, .inl (Y 0, 40, .inl n_highs)), (qn 5, .inl (Y 0, 144, .inl n_joins)), (qn 6, .inl (Y 0, 12, .inl n_nears)), (qn 7, .inl (Y 1, 12, .inr (.inl n_linesAt)))] s.heap := hP
  have wd1 : (Cond.fieldLink RX1 18 "PairedLines$Net" "lows" "[I").before [.ref (qn 0), .int p1].toArray s = true := hts _ (List.mem_of_getElem? (i := 1) rfl)
  have wd2 : (Cond.fieldLink RX1 21 "PairedLines$Net" "highs" "[I").before [.ref (qn 0), .int p1].toArray s = true := hts _ (List.mem_of_getElem? (i := 2) rfl)
  have wd3 : (Cond.fieldLink RX1 24 "PairedLines$Net" "joins" "[I").before [.ref (qn 0), .int p1].toArray s = true := hts _ (List.mem_of_getElem? (i := 3) rfl)
  have wd4 : (Cond.fieldLink RX1 27 "PairedLines$Net" "nears" "[I").before [.ref (qn 0), .int p1].toArray s = true := hts _ (List.mem_of_getElem? (i := 4) rfl)
  have wd5 : (Cond.fieldLink RX1 30 "PairedLines$Net" "linesAt" "[J").before [.ref (qn 0), .int p1].toArray s = true := hts _ (List.mem_of_getElem? (i := 5) rfl)
  have inX1w : ∀ w ∈ u_ws RX1 TX1 11, w ∈ wsX1_linkOne := fun w hw => List.mem_cons_of_mem _ (List.mem_append_right _ (hw))
  have hl := lv_entry ([.ref (qn 0), .int p1]) (n := 4) (Nat.le_of_ble_eq_true rfl)
  rw [lg_entry_eq]
  generalize (lg_sl ([.ref (qn 0), .int p1]) ++ List.replicate (4 - (lg_sl ([.ref (qn 0), .int p1])).length) Slot.unset).toArray = ls at hl ⊢
  have hl : lv_has ls 4 [(0, .ref (qn 0)), (1, .int p1)] := hl
  have E0 : ∀ (H : Heap) (locs : List Loc), va_P G vwCl [(qn 0, oX1 qn n_pointCount n_lineCount n_tideNow n_age), (qn 3, .inl (Y 0, 40, .inl n_lows)), (qn 4, .inl (Y 0, 40, .inl n_highs)), (qn 5, .inl (Y 0, 144, .inl n_joins)), (qn 6, .inl (Y 0, 12, .inl n_nears)), (qn 7, .inl (Y 1, 12, .inr (.inl n_linesAt)))] H → va_D A [(qn 0, oX1 qn n_pointCount n_lineCount n_tideNow n_age), (qn 3, .inl (Y 0, 40, .inl n_lows)), (qn 4, .inl (Y 0, 40, .inl n_highs)), (qn 5, .inl (Y 0, 144, .inl n_joins)), (qn 6, .inl (Y 0, 12, .inl n_nears)), (qn 7, .inl (Y 1, 12, .inr (.inl n_linesAt)))] → va_S A s.heap H locs → ∀ (ls : Array Slot), lv_has ls 4 [(0, .ref (qn 0)), (1, .int p1)] → W p l e (headSpec wsX1_linkOne (rmk 0 0)).room s m [.ref (qn 0), .int p1].toArray below meth c H locs 0 0 (MQ below (va_Qv (fun (_ : Unit) => True) (Pst G (tys Y) [(qn 0, oX1 qn n_pointCount n_lineCount n_tideNow n_age), (qn 3, .inl (Y 0, 40, .inl n_lows)), (qn 4, .inl (Y 0, 40, .inl n_highs)), (qn 5, .inl (Y 0, 144, .inl n_joins)), (qn 6, .inl (Y 0, 12, .inl n_nears)), (qn 7, .inl (Y 1, 12, .inr (.inl n_linesAt)))] s.heap.size [(qn 0, oX1 qn n_pointCount n_lineCount n_tideNow n_age), (qn 3, .inl (Y 0, 40, .inl n_lows)), (qn 4, .inl (Y 0, 40, .inl n_highs)), (qn 5, .inl (Y 0, 144, .inl o_n_joins)), (qn 6, .inl (Y 0, 12, .inl o_n_nears)), (qn 7, .inl (Y 1, 12, .inr (.inl o_n_linesAt)))]) A) [.ref (qn 0), .int p1].toArray s 0 0 A) (F0 m 0 ls []) := by
    intro H locs hP hD hS ls hl
    unfold f_X1_linkOne at hf
    refine lv_aload_n hx hb dX1_linkOne_0 rfl (lv_at hl 0 rfl) ?_
    refine va_get (D := G) (ci := 0) (v := .ref (qn 3)) (C := RX1) (T := TX1) (N := 11) hx hb hts inX1w hown hK hP 0 rfl rfl 2 (by decide) wd1 (fun _ h9 => h9) rfl dX1_linkOne_1 ?_
    refine lv_iload_n hx hb dX1_linkOne_4 rfl (lv_at hl 1 rfl) ?_
    obtain ⟨g1, hf⟩ := gd hf
    refine va_iald hx hb hK hP 1 0 rfl rfl g1 dX1_linkOne_5 ?_
    refine lv_topi (fun v2 e_v2 => ?_)
    have hf := nm_at hf e_v2
    refine lv_istore_n (lv' := [(2, .int v2), (0, .ref (qn 0)), (1, .int p1)]) hx hb dX1_linkOne_6 rfl hl (by decide) rfl (fun ls hl => ?_)
    refine lv_aload_n hx hb dX1_linkOne_7 rfl (lv_at hl 1 rfl) ?_
    refine va_get (D := G) (ci := 0) (v := .ref (qn 4)) (C := RX1) (T := TX1) (N := 11) hx hb hts inX1w hown hK hP 0 rfl rfl 3 (by decide) wd2 (fun _ h9 => h9) rfl dX1_linkOne_8 ?_
    refine lv_iload_n hx hb dX1_linkOne_11 rfl (lv_at hl 2 rfl) ?_
    obtain ⟨g3, hf⟩ := gd hf
    refine va_iald hx hb hK hP 2 0 rfl rfl g3 dX1_linkOne_12 ?_
    refine lv_topi (fun v4 e_v4 => ?_)
    have hf := nm_at hf e_v4
    refine lv_istore_n (lv' := [(3, .int v4), (2, .int v2), (0, .ref (qn 0)), (1, .int p1)]) hx hb dX1_linkOne_13 rfl hl (by decide) rfl (fun ls hl => ?_)
    refine lv_aload_n hx hb dX1_linkOne_14 rfl (lv_at hl 2 rfl) ?_
    refine va_get (D := G) (ci := 0) (v := .ref (qn 5)) (C := RX1) (T := TX1) (N := 11) hx hb hts inX1w hown hK hP 0 rfl rfl 4 (by decide) wd3 (fun _ h9 => h9) rfl dX1_linkOne_15 ?_
    refine lv_iload_n hx hb dX1_linkOne_18 rfl (lv_at hl 1 rfl) ?_
    refine lv_bipush (v := 12) hx hb dX1_linkOne_19 (by decide) ?_
    refine lv_imul hx hb dX1_linkOne_21 ?_
    refine lv_iload_n hx hb dX1_linkOne_22 rfl (lv_at hl 0 rfl) ?_
    refine lv_iadd hx hb dX1_linkOne_23 ?_
    refine lv_iload_n hx hb dX1_linkOne_24 rfl (lv_at hl 3 rfl) ?_
    refine lv_iconst (v := 1) hx hb dX1_linkOne_25 (by decide) ?_
    refine lv_iadd hx hb dX1_linkOne_26 ?_
    obtain ⟨g5, hf⟩ := gd hf
    refine va_iast hx hb hK hP hD hS 3 0 rfl rfl g5 dX1_linkOne_27 (fun H locs hP hD hS => ?_)
    obtain ⟨v6, e_v6⟩ : ∃ z : Nat → Int32, z = upd n_joins ((v2 * (12 : Int32)) + v4).toNatClampNeg (p1 + (1 : Int32)) := ⟨_, rfl⟩
    have hf := nm_at hf e_v6
    have hP : va_P G vwCl [(qn 0, oX1 qn n_pointCount n_lineCount n_tideNow n_age), (qn 3, .inl (Y 0, 40, .inl n_lows)), (qn 4, .inl (Y 0, 40, .inl n_highs)), (qn 5, .inl (Y 0, 144, .inl v6)), (qn 6, .inl (Y 0, 12, .inl n_nears)), (qn 7, .inl (Y 1, 12, .inr (.inl n_linesAt)))] H := by rw [e_v6]; exact hP
    have hD : va_D A [(qn 0, oX1 qn n_pointCount n_lineCount n_tideNow n_age), (qn 3, .inl (Y 0, 40, .inl n_lows)), (qn 4, .inl (Y 0, 40, .inl n_highs)), (qn 5, .inl (Y 0, 144, .inl v6)), (qn 6, .inl (Y 0, 12, .inl n_nears)), (qn 7, .inl (Y 1, 12, .inr (.inl n_linesAt)))] := by rw [e_v6]; exact hD
    refine lv_aload_n hx hb dX1_linkOne_28 rfl (lv_at hl 2 rfl) ?_
    refine va_get (D := G) (ci := 0) (v := .ref (qn 5)) (C := RX1) (T := TX1) (N := 11) hx hb hts inX1w hown hK hP 0 rfl rfl 4 (by decide) wd3 (fun _ h9 => h9) rfl dX1_linkOne_29 ?_
    refine lv_iload_n hx hb dX1_linkOne_32 rfl (lv_at hl 0 rfl) ?_
    refine lv_bipush (v := 12) hx hb dX1_linkOne_33 (by decide) ?_
    refine lv_imul hx hb dX1_linkOne_35 ?_
    refine lv_iload_n hx hb dX1_linkOne_36 rfl (lv_at hl 1 rfl) ?_
    refine lv_iadd hx hb dX1_linkOne_37 ?_
    refine lv_iload_n hx hb dX1_linkOne_38 rfl (lv_at hl 3 rfl) ?_
    refine lv_iconst (v := 1) hx hb dX1_linkOne_39 (by decide) ?_
    refine lv_iadd hx hb dX1_linkOne_40 ?_
    obtain ⟨g7, hf⟩ := gd hf
    refine va_iast hx hb hK hP hD hS 3 0 rfl rfl g7 dX1_linkOne_41 (fun H locs hP hD hS => ?_)
    obtain ⟨v8, e_v8⟩ : ∃ z : Nat → Int32, z = upd v6 ((v4 * (12 : Int32)) + v2).toNatClampNeg (p1 + (1 : Int32)) := ⟨_, rfl⟩
    have hf := nm_at hf e_v8
    have hP : va_P G vwCl [(qn 0, oX1 qn n_pointCount n_lineCount n_tideNow n_age), (qn 3, .inl (Y 0, 40, .inl n_lows)), (qn 4, .inl (Y 0, 40, .inl n_highs)), (qn 5, .inl (Y 0, 144, .inl v8)), (qn 6, .inl (Y 0, 12, .inl n_nears)), (qn 7, .inl (Y 1, 12, .inr (.inl n_linesAt)))] H := by rw [e_v8]; exact hP
    have hD : va_D A [(qn 0, oX1 qn n_pointCount n_lineCount n_tideNow n_age), (qn 3, .inl (Y 0, 40, .inl n_lows)), (qn 4, .inl (Y 0, 40, .inl n_highs)), (qn 5, .inl (Y 0, 144, .inl v8)), (qn 6, .inl (Y 0, 12, .inl n_nears)), (qn 7, .inl (Y 1, 12, .inr (.inl n_linesAt)))] := by rw [e_v8]; exact hD
    refine lv_aload_n hx hb dX1_linkOne_42 rfl (lv_at hl 2 rfl) ?_
    refine va_get (D := G) (ci := 0) (v := .ref (qn 6)) (C := RX1) (T := TX1) (N := 11) hx hb hts inX1w hown hK hP 0 rfl rfl 5 (by decide) wd4 (fun _ h9 => h9) rfl dX1_linkOne_43 ?_
    refine lv_iload_n hx hb dX1_linkOne_46 rfl (lv_at hl 1 rfl) ?_
    refine lv_dup2_11 hx hb dX1_linkOne_47 rfl rfl ?_
    obtain ⟨g9, hf⟩ := gd hf
    refine va_iald hx hb hK hP 4 0 rfl rfl g9 dX1_linkOne_48 ?_
    refine lv_iconst (v := 1) hx hb dX1_linkOne_49 (by decide) ?_
    refine lv_iload_n hx hb dX1_linkOne_50 rfl (lv_at hl 0 rfl) ?_
    refine lv_ishl hx hb dX1_linkOne_51 ?_
    refine lv_ior hx hb dX1_linkOne_52 ?_
    obtain ⟨g10, hf⟩ := gd hf
    refine va_iast hx hb hK hP hD hS 4 0 rfl rfl g10 dX1_linkOne_53 (fun H locs hP hD hS => ?_)
    obtain ⟨v11, e_v11⟩ : ∃ z : Nat → Int32, z = upd n_nears v2.toNatClampNeg ((n_nears v2.toNatClampNeg) ||| ((1 : Int32) <<< (v4 &&& 31))) := ⟨_, rfl⟩
    have hf := nm_at hf e_v11
    have hP : va_P G vwCl [(qn 0, oX1 qn n_pointCount n_lineCount n_tideNow n_age), (qn 3, .inl (Y 0, 40, .inl n_lows)), (qn 4, .inl (Y 0, 40, .inl n_highs)), (qn 5, .inl (Y 0, 144, .inl v8)), (qn 6, .inl (Y 0, 12, .inl v11)), (qn 7, .inl (Y 1, 12, .inr (.inl n_linesAt)))] H := by rw [e_v11]; exact hP
    have hD : va_D A [(qn 0, oX1 qn n_pointCount n_lineCount n_tideNow n_age), (qn 3, .inl (Y 0, 40, .inl n_lows)), (qn 4, .inl (Y 0, 40, .inl n_highs)), (qn 5, .inl (Y 0, 144, .inl v8)), (qn 6, .inl (Y 0, 12, .inl v11)), (qn 7, .inl (Y 1, 12, .inr (.inl n_linesAt)))] := by rw [e_v11]; exact hD
    refine lv_aload_n hx hb dX1_linkOne_54 rfl (lv_at hl 2 rfl) ?_
    refine va_get (D := G) (ci := 0) (v := .ref (qn 6)) (C := RX1) (T := TX1) (N := 11) hx hb hts inX1w hown hK hP 0 rfl rfl 5 (by decide) wd4 (fun _ h9 => h9) rfl dX1_linkOne_55 ?_
    refine lv_iload_n hx hb dX1_linkOne_58 rfl (lv_at hl 0 rfl) ?_
    refine lv_dup2_11 hx hb dX1_linkOne_59 rfl rfl ?_
    obtain ⟨g12, hf⟩ := gd hf
    refine va_iald hx hb hK hP 4 0 rfl rfl g12 dX1_linkOne_60 ?_
    refine lv_iconst (v := 1) hx hb dX1_linkOne_61 (by decide) ?_
    refine lv_iload_n hx hb dX1_linkOne_62 rfl (lv_at hl 1 rfl) ?_
    refine lv_ishl hx hb dX1_linkOne_63 ?_
    refine lv_ior hx hb dX1_linkOne_64 ?_
    obtain ⟨g13, hf⟩ := gd hf
    refine va_iast hx hb hK hP hD hS 4 0 rfl rfl g13 dX1_linkOne_65 (fun H locs hP hD hS => ?_)
    obtain ⟨v14, e_v14⟩ : ∃ z : Nat → Int32, z = upd v11 v4.toNatClampNeg ((v11 v4.toNatClampNeg) ||| ((1 : Int32) <<< (v2 &&& 31))) := ⟨_, rfl⟩
    have hf := nm_at hf e_v14
    have hP : va_P G vwCl [(qn 0, oX1 qn n_pointCount n_lineCount n_tideNow n_age), (qn 3, .inl (Y 0, 40, .inl n_lows)), (qn 4, .inl (Y 0, 40, .inl n_highs)), (qn 5, .inl (Y 0, 144, .inl v8)), (qn 6, .inl (Y 0, 12, .inl v14)), (qn 7, .inl (Y 1, 12, .inr (.inl n_linesAt)))] H := by rw [e_v14]; exact hP
    have hD : va_D A [(qn 0, oX1 qn n_pointCount n_lineCount n_tideNow n_age), (qn 3, .inl (Y 0, 40, .inl n_lows)), (qn 4, .inl (Y 0, 40, .inl n_highs)), (qn 5, .inl (Y 0, 144, .inl v8)), (qn 6, .inl (Y 0, 12, .inl v14)), (qn 7, .inl (Y 1, 12, .inr (.inl n_linesAt)))] := by rw [e_v14]; exact hD
    refine lv_aload_n hx hb dX1_linkOne_66 rfl (lv_at hl 2 rfl) ?_
    refine va_get (D := G) (ci := 0) (v := .ref (qn 7)) (C := RX1) (T := TX1) (N := 11) hx hb hts inX1w hown hK hP 0 rfl rfl 6 (by decide) wd5 (fun _ h9 => h9) rfl dX1_linkOne_67 ?_
    refine lv_iload_n hx hb dX1_linkOne_70 rfl (lv_at hl 1 rfl) ?_
    refine lv_dup2_11 hx hb dX1_linkOne_71 rfl rfl ?_
    obtain ⟨g15, hf⟩ := gd hf
    refine va_lald hx hb hK hP 5 1 rfl rfl g15 dX1_linkOne_72 ?_
    refine lv_lconst (v := 1) hx hb dX1_linkOne_73 (by decide) ?_
    refine lv_iload_n hx hb dX1_linkOne_74 rfl (lv_at hl 3 rfl) ?_
    refine lv_lshl hx hb dX1_linkOne_75 rfl ?_
    refine lv_lor hx hb dX1_linkOne_76 ?_
    obtain ⟨g16, hf⟩ := gd hf
    refine va_last hx hb hK hP hD hS 5 1 rfl rfl g16 dX1_linkOne_77 (fun H locs hP hD hS => ?_)
    obtain ⟨v17, e_v17⟩ : ∃ z : Nat → Int64, z = vp_updL n_linesAt v2.toNatClampNeg ((n_linesAt v2.toNatClampNeg) ||| ((1 : Int64) <<< (p1.toInt64 &&& 63))) := ⟨_, rfl⟩
    have hf := nm_at hf e_v17
    have hP : va_P G vwCl [(qn 0, oX1 qn n_pointCount n_lineCount n_tideNow n_age), (qn 3, .inl (Y 0, 40, .inl n_lows)), (qn 4, .inl (Y 0, 40, .inl n_highs)), (qn 5, .inl (Y 0, 144, .inl v8)), (qn 6, .inl (Y 0, 12, .inl v14)), (qn 7, .inl (Y 1, 12, .inr (.inl v17)))] H := by rw [e_v17]; exact hP
    have hD : va_D A [(qn 0, oX1 qn n_pointCount n_lineCount n_tideNow n_age), (qn 3, .inl (Y 0, 40, .inl n_lows)), (qn 4, .inl (Y 0, 40, .inl n_highs)), (qn 5, .inl (Y 0, 144, .inl v8)), (qn 6, .inl (Y 0, 12, .inl v14)), (qn 7, .inl (Y 1, 12, .inr (.inl v17)))] := by rw [e_v17]; exact hD
    refine lv_aload_n hx hb dX1_linkOne_78 rfl (lv_at hl 2 rfl) ?_
    refine va_get (D := G) (ci := 0) (v := .ref (qn 7)) (C := RX1) (T := TX1) (N := 11) hx hb hts inX1w hown hK hP 0 rfl rfl 6 (by decide) wd5 (fun _ h9 => h9) rfl dX1_linkOne_79 ?_
    refine lv_iload_n hx hb dX1_linkOne_82 rfl (lv_at hl 0 rfl) ?_
    refine lv_dup2_11 hx hb dX1_linkOne_83 rfl rfl ?_
    obtain ⟨g18, hf⟩ := gd hf
    refine va_lald hx hb hK hP 5 1 rfl rfl g18 dX1_linkOne_84 ?_
    refine lv_lconst (v := 1) hx hb dX1_linkOne_85 (by decide) ?_
    refine lv_iload_n hx hb dX1_linkOne_86 rfl (lv_at hl 3 rfl) ?_
    refine lv_lshl hx hb dX1_linkOne_87 rfl ?_
    refine lv_lor hx hb dX1_linkOne_88 ?_
    obtain ⟨g19, hf⟩ := gd hf
    refine va_last hx hb hK hP hD hS 5 1 rfl rfl g19 dX1_linkOne_89 (fun H locs hP hD hS => ?_)
    obtain ⟨v20, e_v20⟩ : ∃ z : Nat → Int64, z = vp_updL v17 v4.toNatClampNeg ((v17 v4.toNatClampNeg) ||| ((1 : Int64) <<< (p1.toInt64 &&& 63))) := ⟨_, rfl⟩
    have hf := nm_at hf e_v20
    have hP : va_P G vwCl [(qn 0, oX1 qn n_pointCount n_lineCount n_tideNow n_age), (qn 3, .inl (Y 0, 40, .inl n_lows)), (qn 4, .inl (Y 0, 40, .inl n_highs)), (qn 5, .inl (Y 0, 144, .inl v8)), (qn 6, .inl (Y 0, 12, .inl v14)), (qn 7, .inl (Y 1, 12, .inr (.inl v20)))] H := by rw [e_v20]; exact hP
    have hD : va_D A [(qn 0, oX1 qn n_pointCount n_lineCount n_tideNow n_age), (qn 3, .inl (Y 0, 40, .inl n_lows)), (qn 4, .inl (Y 0, 40, .inl n_highs)), (qn 5, .inl (Y 0, 144, .inl v8)), (qn 6, .inl (Y 0, 12, .inl v14)), (qn 7, .inl (Y 1, 12, .inr (.inl v20)))] := by rw [e_v20]; exact hD
    obtain ⟨e0, e1, e2⟩ := rt3 hf
    have hP : va_P G vwCl [(qn 0, oX1 qn n_pointCount n_lineCount n_tideNow n_age), (qn 3, .inl (Y 0, 40, .inl n_lows)), (qn 4, .inl (Y 0, 40, .inl n_highs)), (qn 5, .inl (Y 0, 144, .inl o_n_joins)), (qn 6, .inl (Y 0, 12, .inl o_n_nears)), (qn 7, .inl (Y 1, 12, .inr (.inl o_n_linesAt)))] H := by rw [← e0, ← e1, ← e2]; exact hP
    have hD : va_D A [(qn 0, oX1 qn n_pointCount n_lineCount n_tideNow n_age), (qn 3, .inl (Y 0, 40, .inl n_lows)), (qn 4, .inl (Y 0, 40, .inl n_highs)), (qn 5, .inl (Y 0, 144, .inl o_n_joins)), (qn 6, .inl (Y 0, 12, .inl o_n_nears)), (qn 7, .inl (Y 1, 12, .inr (.inl o_n_linesAt)))] := by rw [← e0, ← e1, ← e2]; exact hD
    exact W.vret hx hb hr (fun t ht hW => ⟨⟨(), rfl, trivial, by rw [ht]; exact hP, va_K.moved hW.alike hK, by rw [hAe]; exact hD⟩, hS.F ht⟩) hS.2.2 dX1_linkOne_90
  exact E0 s.heap [] hP hD hS ls hl
-- X1_link
set_option maxRecDepth 100000 in
set_option maxHeartbeats 4000000 in
theorem c_X1_link (l : Launch) (G : va_G) (Y : Nat → ClassId) (sz : Nat) (qn : Nat → Nat) (n_lows : Nat → Int32) (n_highs : Nat → Int32) (n_joins : Nat → Int32) (n_nears : Nat → Int32) (n_linesAt : Nat → Int64) (n_pointCount : Int32) (n_lineCount : Int32) (n_tideNow : Int32) (n_age : Int32) (o_n_joins : Nat → Int32) (o_n_nears : Nat → Int32) (o_n_linesAt : Nat → Int64) (o_n_age : Int32) (hf : f_X1_link n_lows n_highs n_joins n_nears n_linesAt n_lineCount n_age = some (o_n_joins, o_n_nears, o_n_linesAt, o_n_age)) : Met l yX1_link wsX1_link (rmk 1 24) (va_Pc [.ref (qn 0)] (Pre G (tys Y) [(qn 0, oX1 qn n_pointCount n_lineCount n_tideNow n_age), (qn 3, .inl (Y 0, 40, .inl n_lows)), (qn 4, .inl (Y 0, 40, .inl n_highs)), (qn 5, .inl (Y 0, 144, .inl n_joins)), (qn 6, .inl (Y 0, 12, .inl n_nears)), (qn 7, .inl (Y 1, 12, .inr (.inl n_linesAt)))] sz xT)) (va_Qv (fun (_ : Unit) => True) (Pst G (tys Y) [(qn 0, oX1 qn n_pointCount n_lineCount n_tideNow n_age), (qn 3, .inl (Y 0, 40, .inl n_lows)), (qn 4, .inl (Y 0, 40, .inl n_highs)), (qn 5, .inl (Y 0, 144, .inl n_joins)), (qn 6, .inl (Y 0, 12, .inl n_nears)), (qn 7, .inl (Y 1, 12, .inr (.inl n_linesAt)))] sz [(qn 0, oX1 qn n_pointCount n_lineCount n_tideNow o_n_age), (qn 3, .inl (Y 0, 40, .inl n_lows)), (qn 4, .inl (Y 0, 40, .inl n_highs)), (qn 5, .inl (Y 0, 144, .inl o_n_joins)), (qn 6, .inl (Y 0, 12, .inl o_n_nears)), (qn 7, .inl (Y 1, 12, .inr (.inl o_n_linesAt)))]) (va_A [(qn 0, oX1 qn n_pointCount n_lineCount n_tideNow n_age), (qn 3, .inl (Y 0, 40, .inl n_lows)), (qn 4, .inl (Y 0, 40, .inl n_highs)), (qn 5, .inl (Y 0, 144, .inl n_joins)), (qn 6, .inl (Y 0, 12, .inl n_nears)), (qn 7, .inl (Y 1, 12, .inr (.inl n_linesAt)))] sz)) 0 0 (va_A [(qn 0, oX1 qn n_pointCount n_lineCount n_tideNow n_age), (qn 3, .inl (Y 0, 40, .inl n_lows)), (qn 4, .inl (Y 0, 40, .inl n_highs)), (qn 5, .inl (Y 0, 144, .inl n_joins)), (qn 6, .inl (Y 0, 12, .inl n_nears)), (qn 7, .inl (Y 1, 12, .inr (.inl n_linesAt)))] sz) := by
  refine Met.ofW (cc := cX1_link) (maxL := 2) (ret := none) (by decide) rfl ?_
  intro p e s m args below meth c s₁ B hml hv
  obtain ⟨rfl, hsz, hP, hK, hD0, hX⟩ := hv
  have hx := B.exec
  have hb := B.bytes
  have hr := B.returns
  have hts := atoms_spec (ws := wsX1_link) B.pre
  have hown : s.vm.findClass RX1 = some m.cls := findClass_of_methodNamed B.named
  have hlocks := B.notSynchronized
  subst hsz
  have hD := hD0.self (sz := s.heap.size)
  generalize hAe : va_A [(qn 0, oX1 qn n_pointCount n_lineCount n_tideNow n_age), (qn 3, .inl (Y 0, 40, .inl n_lows)), (qn 4, .inl (Y 0, 40, .inl n_highs)), (qn 5, .inl (Y 0, 144, .inl n_joins)), (qn 6, .inl (Y 0, 12, .inl n_nears)), (qn 7, .inl (Y 1, 12, .inr (.inl n_linesAt)))] s.heap.size = A at hD ⊢
  have hA : ∀ q : Nat, s.heap.size ≤ q → A q := fun q h => by rw [← hAe]; exact Or.inr h
  have hS : va_S A s.heap s.heap [] := va_S.rf
  have hP : va_P G vwCl [(qn 0, oX1 qn n_pointCount n_lineCount n_tideNow n_age), (qn 3, .inl (Y 0, 40, .inl n_lows)), (qn 4, .inl (Y 0, 40, .inl n_highs)), (qn 5, .inl (Y 0, 144, .inl n_joins)), (qn 6, .inl (Y 0, 12, .inl n_nears)), (qn 7, .inl (Y 1, 12, .inr (.inl n_linesAt)))] s.heap := hP
  have wd1 : (Cond.fieldLink RX1 24 "PairedLines$Net" "joins" "[I").before [.ref (qn 0)].toArray s = true := hts _ (List.mem_of_getElem? (i := 1) rfl)
  have wd2 : (Cond.fieldLink RX1 27 "PairedLines$Net" "nears" "[I").before [.ref (qn 0)].toArray s = true := hts _ (List.mem_of_getElem? (i := 2) rfl)
  have wd3 : (Cond.fieldLink RX1 30 "PairedLines$Net" "linesAt" "[J").before [.ref (qn 0)].toArray s = true := hts _ (List.mem_of_getElem? (i := 3) rfl)
  have wd4 : (Cond.fieldLink RX1 38 "PairedLines$Net" "lineCount" "I").before [.ref (qn 0)].toArray s = true := hts _ (List.mem_of_getElem? (i := 4) rfl)
  have wd5 : (Cond.fieldLink RX1 44 "PairedLines$Net" "age" "I").before [.ref (qn 0)].toArray s = true := hts _ (List.mem_of_getElem? (i := 5) rfl)
  have inX1w : ∀ w ∈ u_ws RX1 TX1 11, w ∈ wsX1_link := fun w hw => List.mem_cons_of_mem _ (List.mem_append_right _ (hw))
  have hl := lv_entry ([.ref (qn 0)]) (n := 2) (Nat.le_of_ble_eq_true rfl)
  rw [lg_entry_eq]
  generalize (lg_sl ([.ref (qn 0)]) ++ List.replicate (2 - (lg_sl ([.ref (qn 0)])).length) Slot.unset).toArray = ls at hl ⊢
  have hl : lv_has ls 2 [(0, .ref (qn 0))] := hl
  have B26 : ∀ (n26 : Nat), ∀ (b_n_joins : Nat → Int32) (b_n_nears : Nat → Int32) (b_n_linesAt : Nat → Int64) (b_n_age : Int32) (x1 : Int32), f_X1_link_b26 n_lows n_highs n_lineCount n26 b_n_joins b_n_nears b_n_linesAt b_n_age x1 = some (o_n_joins, o_n_nears, o_n_linesAt, o_n_age) → ∀ (H : Heap) (locs : List Loc), va_P G vwCl [(qn 0, oX1 qn n_pointCount n_lineCount n_tideNow b_n_age), (qn 3, .inl (Y 0, 40, .inl n_lows)), (qn 4, .inl (Y 0, 40, .inl n_highs)), (qn 5, .inl (Y 0, 144, .inl b_n_joins)), (qn 6, .inl (Y 0, 12, .inl b_n_nears)), (qn 7, .inl (Y 1, 12, .inr (.inl b_n_linesAt)))] H → va_D A [(qn 0, oX1 qn n_pointCount n_lineCount n_tideNow b_n_age), (qn 3, .inl (Y 0, 40, .inl n_lows)), (qn 4, .inl (Y 0, 40, .inl n_highs)), (qn 5, .inl (Y 0, 144, .inl b_n_joins)), (qn 6, .inl (Y 0, 12, .inl b_n_nears)), (qn 7, .inl (Y 1, 12, .inr (.inl b_n_linesAt)))] → va_S A s.heap H locs → ∀ (ls : Array Slot), lv_has ls 2 [(0, .ref (qn 0)), (1, .int x1)] → W p l e (headSpec wsX1_link (rmk 1 24)).room s m [.ref (qn 0)].toArray below meth c H locs 0 0 (MQ below (va_Qv (fun (_ : Unit) => True) (Pst G (tys Y) [(qn 0, oX1 qn n_pointCount n_lineCount n_tideNow n_age), (qn 3, .inl (Y 0, 40, .inl n_lows)), (qn 4, .inl (Y 0, 40, .inl n_highs)), (qn 5, .inl (Y 0, 144, .inl n_joins)), (qn 6, .inl (Y 0, 12, .inl n_nears)), (qn 7, .inl (Y 1, 12, .inr (.inl n_linesAt)))] s.heap.size [(qn 0, oX1 qn n_pointCount n_lineCount n_tideNow o_n_age), (qn 3, .inl (Y 0, 40, .inl n_lows)), (qn 4, .inl (Y 0, 40, .inl n_highs)), (qn 5, .inl (Y 0, 144, .inl o_n_joins)), (qn 6, .inl (Y 0, 12, .inl o_n_nears)), (qn 7, .inl (Y 1, 12, .inr (.inl o_n_linesAt)))]) A) [.ref (qn 0)].toArray s 0 0 A) (F0 m 26 ls []) := by
    intro n26
    induction n26 with
    | zero =>
      intro b_n_joins b_n_nears b_n_linesAt b_n_age x1 hf H locs hP hD hS ls hl
      exact no_none hf
    | succ n26 ih26 =>
      intro b_n_joins b_n_nears b_n_linesAt b_n_age x1 hf H locs hP hD hS ls hl
      have hf : f_X1_link_s26 n_lows n_highs n_lineCount (f_X1_link_b26 n_lows n_highs n_lineCount  n26) b_n_joins b_n_nears b_n_linesAt b_n_age x1 = some (o_n_joins, o_n_nears, o_n_linesAt, o_n_age) := hf
      unfold f_X1_link_s26 at hf
      refine lv_iload_n hx hb dX1_link_26 rfl (lv_at hl 1 rfl) ?_
      refine lv_aload_n hx hb dX1_link_27 rfl (lv_at hl 0 rfl) ?_
      refine va_get (D := G) (ci := 0) (v := .int n_lineCount) (C := RX1) (T := TX1) (N := 11) hx hb hts inX1w hown hK hP 0 rfl rfl 8 (by decide) wd4 (fun _ h9 => h9) rfl dX1_link_28 ?_
      refine lv_icmp_ge (tgt := 45) hx hb dX1_link_31 (by decide) (fun c1 => ?_) (fun c1 => ?_)
      · have hf := it hf c1
        refine lv_aload_n hx hb dX1_link_45 rfl (lv_at hl 0 rfl) ?_
        refine lv_dup hx hb dX1_link_46 rfl ?_
        refine va_get (D := G) (ci := 0) (v := .int b_n_age) (C := RX1) (T := TX1) (N := 11) hx hb hts inX1w hown hK hP 0 rfl rfl 10 (by decide) wd5 (fun _ h9 => h9) rfl dX1_link_47 ?_
        refine lv_iconst (v := 1) hx hb dX1_link_50 (by decide) ?_
        refine lv_iadd hx hb dX1_link_51 ?_
        refine lv_topi (fun v2 e_v2 => ?_)
        have hf := nm_at hf e_v2
        refine va_put (D := G) (ci := 0) (v := .int v2) (ty := .int) (C := RX1) (T := TX1) (N := 11) hx hb hts inX1w tyX1 tyX1_ok nmX1 hown hK hP hD hS 0 rfl rfl 10 (by decide) wd5 (fun _ h9 => h9) rfl (by decide +kernel) rfl rfl (Nat.le_of_ble_eq_true rfl) dX1_link_52 (fun H locs hP hD hS => ?_)
        have hP : va_P G vwCl [(qn 0, oX1 qn n_pointCount n_lineCount n_tideNow v2), (qn 3, .inl (Y 0, 40, .inl n_lows)), (qn 4, .inl (Y 0, 40, .inl n_highs)), (qn 5, .inl (Y 0, 144, .inl b_n_joins)), (qn 6, .inl (Y 0, 12, .inl b_n_nears)), (qn 7, .inl (Y 1, 12, .inr (.inl b_n_linesAt)))] H := hP
        have hD : va_D A [(qn 0, oX1 qn n_pointCount n_lineCount n_tideNow v2), (qn 3, .inl (Y 0, 40, .inl n_lows)), (qn 4, .inl (Y 0, 40, .inl n_highs)), (qn 5, .inl (Y 0, 144, .inl b_n_joins)), (qn 6, .inl (Y 0, 12, .inl b_n_nears)), (qn 7, .inl (Y 1, 12, .inr (.inl b_n_linesAt)))] := hD
        obtain ⟨e0, e1, e2, e3⟩ := rt4 hf
        have hP : va_P G vwCl [(qn 0, oX1 qn n_pointCount n_lineCount n_tideNow o_n_age), (qn 3, .inl (Y 0, 40, .inl n_lows)), (qn 4, .inl (Y 0, 40, .inl n_highs)), (qn 5, .inl (Y 0, 144, .inl o_n_joins)), (qn 6, .inl (Y 0, 12, .inl o_n_nears)), (qn 7, .inl (Y 1, 12, .inr (.inl o_n_linesAt)))] H := by rw [← e0, ← e1, ← e2, ← e3]; exact hP
        have hD : va_D A [(qn 0, oX1 qn n_pointCount n_lineCount n_tideNow o_n_age), (qn 3, .inl (Y 0, 40, .inl n_lows)), (qn 4, .inl (Y 0, 40, .inl n_highs)), (qn 5, .inl (Y 0, 144, .inl o_n_joins)), (qn 6, .inl (Y 0, 12, .inl o_n_nears)), (qn 7, .inl (Y 1, 12, .inr (.inl o_n_linesAt)))] := by rw [← e0, ← e1, ← e2, ← e3]; exact hD
        exact W.vret hx hb hr (fun t ht hW => ⟨⟨(), rfl, trivial, by rw [ht]; exact hP, va_K.moved hW.alike hK, by rw [hAe]; exact hD⟩, hS.F ht⟩) hS.2.2 dX1_link_55
      · have hf := ie hf c1
        refine lv_aload_n hx hb dX1_link_34 rfl (lv_at hl 0 rfl) ?_
        refine lv_iload_n hx hb dX1_link_35 rfl (lv_at hl 1 rfl) ?_
        obtain ⟨w3, w4, w5, hc, hf⟩ := bd3 hf
        refine cl_v (ws' := [(qn 0, oX1 qn n_pointCount n_lineCount n_tideNow b_n_age), (qn 3, .inl (Y 0, 40, .inl n_lows)), (qn 4, .inl (Y 0, 40, .inl n_highs)), (qn 5, .inl (Y 0, 144, .inl w3)), (qn 6, .inl (Y 0, 12, .inl w4)), (qn 7, .inl (Y 1, 12, .inr (.inl w5)))]) (wr := []) (rnV (As := [.int x1]) (rest := []) ⟨hx, hb, hml, hown, hts⟩ (c_X1_linkOne l G Y H.size qn n_lows n_highs b_n_joins b_n_nears b_n_linesAt n_pointCount n_lineCount n_tideNow b_n_age x1 w3 w4 w5 hc) (cwV 1 hts gX1_link_X1_linkOne rfl rfl rfl (by decide +kernel) ⟨(Nat.le_of_ble_eq_true rfl), (Nat.le_of_ble_eq_true rfl)⟩) trivial okT hK hP hD [0, 1, 2, 3, 4, 5] rfl rfl (ci := 0) (q0 := 0) rfl rfl rfl rfl hl.1 rfl (Nat.le_of_ble_eq_true rfl) dX1_link_36) hP hD hS hA [0, 1, 2, 3, 4, 5] [] [0, 1, 2, 3, 4, 5] rfl rfl rfl (by decide) rfl rfl (fun H locs hP hD hS => ?_)
        obtain ⟨v6, e_v6⟩ : ∃ z : Int32, z = (x1 + 1) := ⟨_, rfl⟩
        have hf := nm_at hf e_v6
        refine lv_iinc (v := v6) (lv' := [(1, .int v6), (0, .ref (qn 0))]) hx hb dX1_link_39 hl (k := 1) rfl (by rw [e_v6]; rfl) (by decide) rfl (fun ls hl => ?_)
        refine lv_goto (tgt := 26) hx hb dX1_link_42 (by decide) ?_
        exact ih26 w3 w4 w5 b_n_age v6 hf _ _ hP hD hS ls (lv_sub hl [1, 0] rfl)
  have E0 : ∀ (H : Heap) (locs : List Loc), va_P G vwCl [(qn 0, oX1 qn n_pointCount n_lineCount n_tideNow n_age), (qn 3, .inl (Y 0, 40, .inl n_lows)), (qn 4, .inl (Y 0, 40, .inl n_highs)), (qn 5, .inl (Y 0, 144, .inl n_joins)), (qn 6, .inl (Y 0, 12, .inl n_nears)), (qn 7, .inl (Y 1, 12, .inr (.inl n_linesAt)))] H → va_D A [(qn 0, oX1 qn n_pointCount n_lineCount n_tideNow n_age), (qn 3, .inl (Y 0, 40, .inl n_lows)), (qn 4, .inl (Y 0, 40, .inl n_highs)), (qn 5, .inl (Y 0, 144, .inl n_joins)), (qn 6, .inl (Y 0, 12, .inl n_nears)), (qn 7, .inl (Y 1, 12, .inr (.inl n_linesAt)))] → va_S A s.heap H locs → ∀ (ls : Array Slot), lv_has ls 2 [(0, .ref (qn 0))] → W p l e (headSpec wsX1_link (rmk 1 24)).room s m [.ref (qn 0)].toArray below meth c H locs 0 0 (MQ below (va_Qv (fun (_ : Unit) => True) (Pst G (tys Y) [(qn 0, oX1 qn n_pointCount n_lineCount n_tideNow n_age), (qn 3, .inl (Y 0, 40, .inl n_lows)), (qn 4, .inl (Y 0, 40, .inl n_highs)), (qn 5, .inl (Y 0, 144, .inl n_joins)), (qn 6, .inl (Y 0, 12, .inl n_nears)), (qn 7, .inl (Y 1, 12, .inr (.inl n_linesAt)))] s.heap.size [(qn 0, oX1 qn n_pointCount n_lineCount n_tideNow o_n_age), (qn 3, .inl (Y 0, 40, .inl n_lows)), (qn 4, .inl (Y 0, 40, .inl n_highs)), (qn 5, .inl (Y 0, 144, .inl o_n_joins)), (qn 6, .inl (Y 0, 12, .inl o_n_nears)), (qn 7, .inl (Y 1, 12, .inr (.inl o_n_linesAt)))]) A) [.ref (qn 0)].toArray s 0 0 A) (F0 m 0 ls []) := by
    intro H locs hP hD hS ls hl
    unfold f_X1_link at hf
    refine lv_aload_n hx hb dX1_link_0 rfl (lv_at hl 0 rfl) ?_
    refine va_get (D := G) (ci := 0) (v := .ref (qn 5)) (C := RX1) (T := TX1) (N := 11) hx hb hts inX1w hown hK hP 0 rfl rfl 4 (by decide) wd1 (fun _ h9 => h9) rfl dX1_link_1 ?_
    refine lv_iconst (v := 0) hx hb dX1_link_4 (by decide) ?_
    obtain ⟨w7, hc, hf⟩ := bd1 hf
    refine cl_v (ws' := [(qn 0, oX1 qn n_pointCount n_lineCount n_tideNow n_age), (qn 3, .inl (Y 0, 40, .inl n_lows)), (qn 4, .inl (Y 0, 40, .inl n_highs)), (qn 5, .inl (Y 0, 144, .inl w7)), (qn 6, .inl (Y 0, 12, .inl n_nears)), (qn 7, .inl (Y 1, 12, .inr (.inl n_linesAt)))]) (wr := [(qn 0, oX1 qn n_pointCount n_lineCount n_tideNow n_age), (qn 3, .inl (Y 0, 40, .inl n_lows)), (qn 4, .inl (Y 0, 40, .inl n_highs)), (qn 6, .inl (Y 0, 12, .inl n_nears)), (qn 7, .inl (Y 1, 12, .inr (.inl n_linesAt)))]) (rnS (As := [.ref (qn 5), .int (0 : Int32)]) (rest := []) ⟨hx, hb, hml, hown, hts⟩ (c_J7_fill_53178 l G Y H.size (fun _ => qn 5) n_joins 144 (0 : Int32) w7 hc) (va_cwS 2 hts gX1_link_J7_fill_53178 rfl rfl rfl (by decide +kernel) ⟨(Nat.le_of_ble_eq_true rfl), (Nat.le_of_ble_eq_true rfl)⟩) trivial okT hK hP hD [3] rfl rfl rfl hl.1 rfl (Nat.le_of_ble_eq_true rfl) dX1_link_5) hP hD hS hA [3] [0, 1, 2, 4, 5] [0, 1, 2, 5, 3, 4] rfl rfl rfl (by decide) rfl rfl (fun H locs hP hD hS => ?_)
    refine lv_aload_n hx hb dX1_link_8 rfl (lv_at hl 0 rfl) ?_
    refine va_get (D := G) (ci := 0) (v := .ref (qn 6)) (C := RX1) (T := TX1) (N := 11) hx hb hts inX1w hown hK hP 0 rfl rfl 5 (by decide) wd2 (fun _ h9 => h9) rfl dX1_link_9 ?_
    refine lv_iconst (v := 0) hx hb dX1_link_12 (by decide) ?_
    obtain ⟨w8, hc, hf⟩ := bd1 hf
    refine cl_v (ws' := [(qn 0, oX1 qn n_pointCount n_lineCount n_tideNow n_age), (qn 3, .inl (Y 0, 40, .inl n_lows)), (qn 4, .inl (Y 0, 40, .inl n_highs)), (qn 5, .inl (Y 0, 144, .inl w7)), (qn 6, .inl (Y 0, 12, .inl w8)), (qn 7, .inl (Y 1, 12, .inr (.inl n_linesAt)))]) (wr := [(qn 0, oX1 qn n_pointCount n_lineCount n_tideNow n_age), (qn 3, .inl (Y 0, 40, .inl n_lows)), (qn 4, .inl (Y 0, 40, .inl n_highs)), (qn 5, .inl (Y 0, 144, .inl w7)), (qn 7, .inl (Y 1, 12, .inr (.inl n_linesAt)))]) (rnS (As := [.ref (qn 6), .int (0 : Int32)]) (rest := []) ⟨hx, hb, hml, hown, hts⟩ (c_J7_fill_53178 l G Y H.size (fun _ => qn 6) n_nears 12 (0 : Int32) w8 hc) (va_cwS 2 hts gX1_link_J7_fill_53178 rfl rfl rfl (by decide +kernel) ⟨(Nat.le_of_ble_eq_true rfl), (Nat.le_of_ble_eq_true rfl)⟩) trivial okT hK hP hD [4] rfl rfl rfl hl.1 rfl (Nat.le_of_ble_eq_true rfl) dX1_link_13) hP hD hS hA [4] [0, 1, 2, 3, 5] [0, 1, 2, 3, 5, 4] rfl rfl rfl (by decide) rfl rfl (fun H locs hP hD hS => ?_)
    refine lv_aload_n hx hb dX1_link_16 rfl (lv_at hl 0 rfl) ?_
    refine va_get (D := G) (ci := 0) (v := .ref (qn 7)) (C := RX1) (T := TX1) (N := 11) hx hb hts inX1w hown hK hP 0 rfl rfl 6 (by decide) wd3 (fun _ h9 => h9) rfl dX1_link_17 ?_
    refine lv_lconst (v := 0) hx hb dX1_link_20 (by decide) ?_
    obtain ⟨w9, hc, hf⟩ := bd1 hf
    refine cl_v (ws' := [(qn 0, oX1 qn n_pointCount n_lineCount n_tideNow n_age), (qn 3, .inl (Y 0, 40, .inl n_lows)), (qn 4, .inl (Y 0, 40, .inl n_highs)), (qn 5, .inl (Y 0, 144, .inl w7)), (qn 6, .inl (Y 0, 12, .inl w8)), (qn 7, .inl (Y 1, 12, .inr (.inl w9)))]) (wr := [(qn 0, oX1 qn n_pointCount n_lineCount n_tideNow n_age), (qn 3, .inl (Y 0, 40, .inl n_lows)), (qn 4, .inl (Y 0, 40, .inl n_highs)), (qn 5, .inl (Y 0, 144, .inl w7)), (qn 6, .inl (Y 0, 12, .inl w8))]) (rnS (As := [.ref (qn 7), .long (0 : Int64)]) (rest := []) ⟨hx, hb, hml, hown, hts⟩ (c_J7_fill_d0a16 l G Y H.size (fun _ => qn 7) n_linesAt 12 (0 : Int64) w9 hc) (va_cwS 2 hts gX1_link_J7_fill_d0a16 rfl rfl rfl (by decide +kernel) ⟨(Nat.le_of_ble_eq_true rfl), (Nat.le_of_ble_eq_true rfl)⟩) trivial okT hK hP hD [5] rfl rfl rfl hl.1 rfl (Nat.le_of_ble_eq_true rfl) dX1_link_21) hP hD hS hA [5] [0, 1, 2, 3, 4] [0, 1, 2, 3, 4, 5] rfl rfl rfl (by decide) rfl rfl (fun H locs hP hD hS => ?_)
    refine lv_iconst (v := 0) hx hb dX1_link_24 (by decide) ?_
    refine lv_istore_n (lv' := [(1, .int (0 : Int32)), (0, .ref (qn 0))]) hx hb dX1_link_25 rfl hl (by decide) rfl (fun ls hl => ?_)
    exact B26 70 w7 w8 w9 n_age (0 : Int32) hf _ _ hP hD hS ls (lv_sub hl [1, 0] rfl)
  exact E0 s.heap [] hP hD hS ls hl
-- X1_begin
set_option maxRecDepth 100000 in
set_option maxHeartbeats 4000000 in
theorem c_X1_begin (l : Launch) (G : va_G) (Y : Nat → ClassId) (sz : Nat) (qn : Nat → Nat) (n_lows : Nat → Int32) (n_highs : Nat → Int32) (n_joins : Nat → Int32) (n_nears : Nat → Int32) (n_linesAt : Nat → Int64) (n_pointCount : Int32) (n_lineCount : Int32) (n_tideNow : Int32) (n_age : Int32) (p1 : Int32) (o_n_joins : Nat → Int32) (o_n_nears : Nat → Int32) (o_n_linesAt : Nat → Int64) (o_n_pointCount : Int32) (o_n_lineCount : Int32) (o_n_age : Int32) (hf : f_X1_begin n_lows n_highs n_joins n_nears n_linesAt n_pointCount n_lineCount n_age p1 = some (o_n_joins, o_n_nears, o_n_linesAt, o_n_pointCount, o_n_lineCount, o_n_age)) : Met l yX1_begin wsX1_begin (rmk 2 45) (va_Pc [.ref (qn 0), .int p1] (Pre G (tys Y) [(qn 0, oX1 qn n_pointCount n_lineCount n_tideNow n_age), (qn 3, .inl (Y 0, 40, .inl n_lows)), (qn 4, .inl (Y 0, 40, .inl n_highs)), (qn 5, .inl (Y 0, 144, .inl n_joins)), (qn 6, .inl (Y 0, 12, .inl n_nears)), (qn 7, .inl (Y 1, 12, .inr (.inl n_linesAt)))] sz xT)) (va_Qv (fun (_ : Unit) => True) (Pst G (tys Y) [(qn 0, oX1 qn n_pointCount n_lineCount n_tideNow n_age), (qn 3, .inl (Y 0, 40, .inl n_lows)), (qn 4, .inl (Y 0, 40, .inl n_highs)), (qn 5, .inl (Y 0, 144, .inl n_joins)), (qn 6, .inl (Y 0, 12, .inl n_nears)), (qn 7, .inl (Y 1, 12, .inr (.inl n_linesAt)))] sz [(qn 0, oX1 qn o_n_pointCount o_n_lineCount n_tideNow o_n_age), (qn 3, .inl (Y 0, 40, .inl n_lows)), (qn 4, .inl (Y 0, 40, .inl n_highs)), (qn 5, .inl (Y 0, 144, .inl o_n_joins)), (qn 6, .inl (Y 0, 12, .inl o_n_nears)), (qn 7, .inl (Y 1, 12, .inr (.inl o_n_linesAt)))]) (va_A [(qn 0, oX1 qn n_pointCount n_lineCount n_tideNow n_age), (qn 3, .inl (Y 0, 40, .inl n_lows)), (qn 4, .inl (Y 0, 40, .inl n_highs)), (qn 5, .inl (Y 0, 144, .inl n_joins)), (qn 6, .inl (Y 0, 12, .inl n_nears)), (qn 7, .inl (Y 1, 12, .inr (.inl n_linesAt)))] sz)) 0 0 (va_A [(qn 0, oX1 qn n_pointCount n_lineCount n_tideNow n_age), (qn 3, .inl (Y 0, 40, .inl n_lows)), (qn 4, .inl (Y 0, 40, .inl n_highs)), (qn 5, .inl (Y 0, 144, .inl n_joins)), (qn 6, .inl (Y 0, 12, .inl n_nears)), (qn 7, .inl (Y 1, 12, .inr (.inl n_linesAt)))] sz) := by
  refine Met.ofW (cc := cX1_begin) (maxL := 2) (ret := none) (by decide) rfl ?_
  intro p e s m args below meth c s₁ B hml hv
  obtain ⟨rfl, hsz, hP, hK, hD0, hX⟩ := hv
  have hx := B.exec
  have hb := B.bytes
  have hr := B.returns
  have hts := atoms_spec (ws := wsX1_begin) B.pre
  have hown : s.vm.findClass RX1 = some m.cls := findClass_of_methodNamed B.named
  have hlocks := B.notSynchronized
  subst hsz
  have hD := hD0.self (sz := s.heap.size)
  generalize hAe : va_A [(qn 0, oX1 qn n_pointCount n_lineCount n_tideNow n_age), (qn 3, .inl (Y 0, 40, .inl n_lows)), (qn 4, .inl (Y 0, 40, .inl n_highs)), (qn 5, .inl (Y 0, 144, .inl n_joins)), (qn 6, .inl (Y 0, 12, .inl n_nears)), (qn 7, .inl (Y 1, 12, .inr (.inl n_linesAt)))] s.heap.size = A at hD ⊢
  have hA : ∀ q : Nat, s.heap.size ≤ q → A q := fun q h => by rw [← hAe]; exact Or.inr h
  have hS : va_S A s.heap s.heap [] := va_S.rf
  have hP : va_P G vwCl [(qn 0, oX1 qn n_pointCount n_lineCount n_tideNow n_age), (qn 3, .inl (Y 0, 40, .inl n_lows)), (qn 4, .inl (Y 0, 40, .inl n_highs)), (qn 5, .inl (Y 0, 144, .inl n_joins)), (qn 6, .inl (Y 0, 12, .inl n_nears)), (qn 7, .inl (Y 1, 12, .inr (.inl n_linesAt)))] s.heap := hP
  have wd1 : (Cond.fieldLink RX1 34 "PairedLines$Net" "pointCount" "I").before [.ref (qn 0), .int p1].toArray s = true := hts _ (List.mem_of_getElem? (i := 1) rfl)
  have wd2 : (Cond.fieldLink RX1 38 "PairedLines$Net" "lineCount" "I").before [.ref (qn 0), .int p1].toArray s = true := hts _ (List.mem_of_getElem? (i := 2) rfl)
  have inX1w : ∀ w ∈ u_ws RX1 TX1 11, w ∈ wsX1_begin := fun w hw => List.mem_cons_of_mem _ (List.mem_append_right _ (hw))
  have hl := lv_entry ([.ref (qn 0), .int p1]) (n := 2) (Nat.le_of_ble_eq_true rfl)
  rw [lg_entry_eq]
  generalize (lg_sl ([.ref (qn 0), .int p1]) ++ List.replicate (2 - (lg_sl ([.ref (qn 0), .int p1])).length) Slot.unset).toArray = ls at hl ⊢
  have hl : lv_has ls 2 [(0, .ref (qn 0)), (1, .int p1)] := hl
  have E0 : ∀ (H : Heap) (locs : List Loc), va_P G vwCl [(qn 0, oX1 qn n_pointCount n_lineCount n_tideNow n_age), (qn 3, .inl (Y 0, 40, .inl n_lows)), (qn 4, .inl (Y 0, 40, .inl n_highs)), (qn 5, .inl (Y 0, 144, .inl n_joins)), (qn 6, .inl (Y 0, 12, .inl n_nears)), (qn 7, .inl (Y 1, 12, .inr (.inl n_linesAt)))] H → va_D A [(qn 0, oX1 qn n_pointCount n_lineCount n_tideNow n_age), (qn 3, .inl (Y 0, 40, .inl n_lows)), (qn 4, .inl (Y 0, 40, .inl n_highs)), (qn 5, .inl (Y 0, 144, .inl n_joins)), (qn 6, .inl (Y 0, 12, .inl n_nears)), (qn 7, .inl (Y 1, 12, .inr (.inl n_linesAt)))] → va_S A s.heap H locs → ∀ (ls : Array Slot), lv_has ls 2 [(0, .ref (qn 0)), (1, .int p1)] → W p l e (headSpec wsX1_begin (rmk 2 45)).room s m [.ref (qn 0), .int p1].toArray below meth c H locs 0 0 (MQ below (va_Qv (fun (_ : Unit) => True) (Pst G (tys Y) [(qn 0, oX1 qn n_pointCount n_lineCount n_tideNow n_age), (qn 3, .inl (Y 0, 40, .inl n_lows)), (qn 4, .inl (Y 0, 40, .inl n_highs)), (qn 5, .inl (Y 0, 144, .inl n_joins)), (qn 6, .inl (Y 0, 12, .inl n_nears)), (qn 7, .inl (Y 1, 12, .inr (.inl n_linesAt)))] s.heap.size [(qn 0, oX1 qn o_n_pointCount o_n_lineCount n_tideNow o_n_age), (qn 3, .inl (Y 0, 40, .inl n_lows)), (qn 4, .inl (Y 0, 40, .inl n_highs)), (qn 5, .inl (Y 0, 144, .inl o_n_joins)), (qn 6, .inl (Y 0, 12, .inl o_n_nears)), (qn 7, .inl (Y 1, 12, .inr (.inl o_n_linesAt)))]) A) [.ref (qn 0), .int p1].toArray s 0 0 A) (F0 m 0 ls []) := by
    intro H locs hP hD hS ls hl
    unfold f_X1_begin at hf
    refine lv_aload_n hx hb dX1_begin_0 rfl (lv_at hl 0 rfl) ?_
    refine lv_iload_n hx hb dX1_begin_1 rfl (lv_at hl 1 rfl) ?_
    refine va_put (D := G) (ci := 0) (v := .int p1) (ty := .int) (C := RX1) (T := TX1) (N := 11) hx hb hts inX1w tyX1 tyX1_ok nmX1 hown hK hP hD hS 0 rfl rfl 7 (by decide) wd1 (fun _ h9 => h9) rfl (by decide +kernel) rfl rfl (Nat.le_of_ble_eq_true rfl) dX1_begin_2 (fun H locs hP hD hS => ?_)
    have hP : va_P G vwCl [(qn 0, oX1 qn p1 n_lineCount n_tideNow n_age), (qn 3, .inl (Y 0, 40, .inl n_lows)), (qn 4, .inl (Y 0, 40, .inl n_highs)), (qn 5, .inl (Y 0, 144, .inl n_joins)), (qn 6, .inl (Y 0, 12, .inl n_nears)), (qn 7, .inl (Y 1, 12, .inr (.inl n_linesAt)))] H := hP
    have hD : va_D A [(qn 0, oX1 qn p1 n_lineCount n_tideNow n_age), (qn 3, .inl (Y 0, 40, .inl n_lows)), (qn 4, .inl (Y 0, 40, .inl n_highs)), (qn 5, .inl (Y 0, 144, .inl n_joins)), (qn 6, .inl (Y 0, 12, .inl n_nears)), (qn 7, .inl (Y 1, 12, .inr (.inl n_linesAt)))] := hD
    refine lv_aload_n hx hb dX1_begin_5 rfl (lv_at hl 0 rfl) ?_
    refine lv_iconst (v := 0) hx hb dX1_begin_6 (by decide) ?_
    refine va_put (D := G) (ci := 0) (v := .int (0 : Int32)) (ty := .int) (C := RX1) (T := TX1) (N := 11) hx hb hts inX1w tyX1 tyX1_ok nmX1 hown hK hP hD hS 0 rfl rfl 8 (by decide) wd2 (fun _ h9 => h9) rfl (by decide +kernel) rfl rfl (Nat.le_of_ble_eq_true rfl) dX1_begin_7 (fun H locs hP hD hS => ?_)
    have hP : va_P G vwCl [(qn 0, oX1 qn p1 (0 : Int32) n_tideNow n_age), (qn 3, .inl (Y 0, 40, .inl n_lows)), (qn 4, .inl (Y 0, 40, .inl n_highs)), (qn 5, .inl (Y 0, 144, .inl n_joins)), (qn 6, .inl (Y 0, 12, .inl n_nears)), (qn 7, .inl (Y 1, 12, .inr (.inl n_linesAt)))] H := hP
    have hD : va_D A [(qn 0, oX1 qn p1 (0 : Int32) n_tideNow n_age), (qn 3, .inl (Y 0, 40, .inl n_lows)), (qn 4, .inl (Y 0, 40, .inl n_highs)), (qn 5, .inl (Y 0, 144, .inl n_joins)), (qn 6, .inl (Y 0, 12, .inl n_nears)), (qn 7, .inl (Y 1, 12, .inr (.inl n_linesAt)))] := hD
    refine lv_aload_n hx hb dX1_begin_10 rfl (lv_at hl 0 rfl) ?_
    obtain ⟨w1, w2, w3, w4, hc, hf⟩ := bd4 hf
    refine cl_v (ws' := [(qn 0, oX1 qn p1 (0 : Int32) n_tideNow w4), (qn 3, .inl (Y 0, 40, .inl n_lows)), (qn 4, .inl (Y 0, 40, .inl n_highs)), (qn 5, .inl (Y 0, 144, .inl w1)), (qn 6, .inl (Y 0, 12, .inl w2)), (qn 7, .inl (Y 1, 12, .inr (.inl w3)))]) (wr := []) (rnV (As := []) (rest := []) ⟨hx, hb, hml, hown, hts⟩ (c_X1_link l G Y H.size qn n_lows n_highs n_joins n_nears n_linesAt p1 (0 : Int32) n_tideNow n_age w1 w2 w3 w4 hc) (cwV 0 hts gX1_begin_X1_link rfl rfl rfl (by decide +kernel) ⟨(Nat.le_of_ble_eq_true rfl), (Nat.le_of_ble_eq_true rfl)⟩) trivial okT hK hP hD [0, 1, 2, 3, 4, 5] rfl rfl (ci := 0) (q0 := 0) rfl rfl rfl rfl hl.1 rfl (Nat.le_of_ble_eq_true rfl) dX1_begin_11) hP hD hS hA [0, 1, 2, 3, 4, 5] [] [0, 1, 2, 3, 4, 5] rfl rfl rfl (by decide) rfl rfl (fun H locs hP hD hS => ?_)
    obtain ⟨e0, e1, e2, e3, e4, e5⟩ := rt6 hf
    have hP : va_P G vwCl [(qn 0, oX1 qn o_n_pointCount o_n_lineCount n_tideNow o_n_age), (qn 3, .inl (Y 0, 40, .inl n_lows)), (qn 4, .inl (Y 0, 40, .inl n_highs)), (qn 5, .inl (Y 0, 144, .inl o_n_joins)), (qn 6, .inl (Y 0, 12, .inl o_n_nears)), (qn 7, .inl (Y 1, 12, .inr (.inl o_n_linesAt)))] H := by rw [← e0, ← e1, ← e2, ← e3, ← e4, ← e5]; exact hP
    have hD : va_D A [(qn 0, oX1 qn o_n_pointCount o_n_lineCount n_tideNow o_n_age), (qn 3, .inl (Y 0, 40, .inl n_lows)), (qn 4, .inl (Y 0, 40, .inl n_highs)), (qn 5, .inl (Y 0, 144, .inl o_n_joins)), (qn 6, .inl (Y 0, 12, .inl o_n_nears)), (qn 7, .inl (Y 1, 12, .inr (.inl o_n_linesAt)))] := by rw [← e0, ← e1, ← e2, ← e3, ← e4, ← e5]; exact hD
    exact W.vret hx hb hr (fun t ht hW => ⟨⟨(), rfl, trivial, by rw [ht]; exact hP, va_K.moved hW.alike hK, by rw [hAe]; exact hD⟩, hS.F ht⟩) hS.2.2 dX1_begin_14
  exact E0 s.heap [] hP hD hS ls hl
-- X1_hasPoint
set_option maxRecDepth 100000 in
set_option maxHeartbeats 4000000 in
theorem c_X1_hasPoint (l : Launch) (G : va_G) (Y : Nat → ClassId) (sz : Nat) (qn : Nat → Nat) (n_pointCount : Int32) (n_lineCount : Int32) (n_tideNow : Int32) (n_age : Int32) (p1 : Int32) (rv : Int32) (hf : f_X1_hasPoint n_pointCount p1 = some (rv)) : Met l yX1_hasPoint wsX1_hasPoint (rmk 0 0) (va_Pc [.ref (qn 0), .int p1] (Pre G (tys Y) [(qn 0, oX1 qn n_pointCount n_lineCount n_tideNow n_age)] sz xT)) (va_Qi (fun (r : Int32) (_ : Unit) => r = rv) (Pst G (tys Y) [(qn 0, oX1 qn n_pointCount n_lineCount n_tideNow n_age)] sz [(qn 0, oX1 qn n_pointCount n_lineCount n_tideNow n_age)]) (va_A [(qn 0, oX1 qn n_pointCount n_lineCount n_tideNow n_age)] sz)) 0 0 (va_A [(qn 0, oX1 qn n_pointCount n_lineCount n_tideNow n_age)] sz) := by
  refine Met.ofW (cc := cX1_hasPoint) (maxL := 2) (ret := (some .boolean)) (by decide) rfl ?_
  intro p e s m args below meth c s₁ B hml hv
  obtain ⟨rfl, hsz, hP, hK, hD0, hX⟩ := hv
  have hx := B.exec
  have hb := B.bytes
  have hr := B.returns
  have hts := atoms_spec (ws := wsX1_hasPoint) B.pre
  have hown : s.vm.findClass RX1 = some m.cls := findClass_of_methodNamed B.named
  have hlocks := B.notSynchronized
  subst hsz
  have hD := hD0.self (sz := s.heap.size)
  generalize hAe : va_A [(qn 0, oX1 qn n_pointCount n_lineCount n_tideNow n_age)] s.heap.size = A at hD ⊢
  have hA : ∀ q : Nat, s.heap.size ≤ q → A q := fun q h => by rw [← hAe]; exact Or.inr h
  have hS : va_S A s.heap s.heap [] := va_S.rf
  have hP : va_P G vwCl [(qn 0, oX1 qn n_pointCount n_lineCount n_tideNow n_age)] s.heap := hP
  have wd1 : (Cond.fieldLink RX1 34 "PairedLines$Net" "pointCount" "I").before [.ref (qn 0), .int p1].toArray s = true := hts _ (List.mem_of_getElem? (i := 1) rfl)
  have inX1w : ∀ w ∈ u_ws RX1 TX1 11, w ∈ wsX1_hasPoint := fun w hw => List.mem_cons_of_mem _ (List.mem_append_right _ (hw))
  have hl := lv_entry ([.ref (qn 0), .int p1]) (n := 2) (Nat.le_of_ble_eq_true rfl)
  rw [lg_entry_eq]
  generalize (lg_sl ([.ref (qn 0), .int p1]) ++ List.replicate (2 - (lg_sl ([.ref (qn 0), .int p1])).length) Slot.unset).toArray = ls at hl ⊢
  have hl : lv_has ls 2 [(0, .ref (qn 0)), (1, .int p1)] := hl
  have E0 : ∀ (H : Heap) (locs : List Loc), va_P G vwCl [(qn 0, oX1 qn n_pointCount n_lineCount n_tideNow n_age)] H → va_D A [(qn 0, oX1 qn n_pointCount n_lineCount n_tideNow n_age)] → va_S A s.heap H locs → ∀ (ls : Array Slot), lv_has ls 2 [(0, .ref (qn 0)), (1, .int p1)] → W p l e (headSpec wsX1_hasPoint (rmk 0 0)).room s m [.ref (qn 0), .int p1].toArray below meth c H locs 0 0 (MQ below (va_Qi (fun (r : Int32) (_ : Unit) => r = rv) (Pst G (tys Y) [(qn 0, oX1 qn n_pointCount n_lineCount n_tideNow n_age)] s.heap.size [(qn 0, oX1 qn n_pointCount n_lineCount n_tideNow n_age)]) A) [.ref (qn 0), .int p1].toArray s 0 0 A) (F0 m 0 ls []) := by
    intro H locs hP hD hS ls hl
    unfold f_X1_hasPoint at hf
    refine lv_iload_n hx hb dX1_hasPoint_0 rfl (lv_at hl 1 rfl) ?_
    refine lv_if_lt (tgt := 16) hx hb dX1_hasPoint_1 (by decide) (fun c1 => ?_) (fun c1 => ?_)
    · have hf := it hf c1
      refine lv_iconst (v := 0) hx hb dX1_hasPoint_16 (by decide) ?_
      have e0 := rt1 hf
      exact W.zret (v := (0 : Int32)) hx hb hr rfl (fun t ht hW => ⟨⟨(0 : Int32), (), rfl, e0, by rw [ht]; exact hP, va_K.moved hW.alike hK, by rw [hAe]; exact hD⟩, hS.F ht⟩) hS.2.2 dX1_hasPoint_17
    · have hf := ie hf c1
      refine lv_iload_n hx hb dX1_hasPoint_4 rfl (lv_at hl 1 rfl) ?_
      refine lv_aload_n hx hb dX1_hasPoint_5 rfl (lv_at hl 0 rfl) ?_
      refine va_get (D := G) (ci := 0) (v := .int n_pointCount) (C := RX1) (T := TX1) (N := 11) hx hb hts inX1w hown hK hP 0 rfl rfl 7 (by decide) wd1 (fun _ h9 => h9) rfl dX1_hasPoint_6 ?_
      refine lv_icmp_ge (tgt := 16) hx hb dX1_hasPoint_9 (by decide) (fun c2 => ?_) (fun c2 => ?_)
      · have hf := it hf c2
        refine lv_iconst (v := 0) hx hb dX1_hasPoint_16 (by decide) ?_
        have e0 := rt1 hf
        exact W.zret (v := (0 : Int32)) hx hb hr rfl (fun t ht hW => ⟨⟨(0 : Int32), (), rfl, e0, by rw [ht]; exact hP, va_K.moved hW.alike hK, by rw [hAe]; exact hD⟩, hS.F ht⟩) hS.2.2 dX1_hasPoint_17
      · have hf := ie hf c2
        refine lv_iconst (v := 1) hx hb dX1_hasPoint_12 (by decide) ?_
        refine lv_goto (tgt := 17) hx hb dX1_hasPoint_13 (by decide) ?_
        have e0 := rt1 hf
        exact W.zret (v := (1 : Int32)) hx hb hr rfl (fun t ht hW => ⟨⟨(1 : Int32), (), rfl, e0, by rw [ht]; exact hP, va_K.moved hW.alike hK, by rw [hAe]; exact hD⟩, hS.F ht⟩) hS.2.2 dX1_hasPoint_17
  exact E0 s.heap [] hP hD hS ls hl
-- X1_joining
set_option maxRecDepth 100000 in
set_option maxHeartbeats 4000000 in
theorem c_X1_joining (l : Launch) (G : va_G) (Y : Nat → ClassId) (sz : Nat) (qn : Nat → Nat) (n_joins : Nat → Int32) (n_pointCount : Int32) (n_lineCount : Int32) (n_tideNow : Int32) (n_age : Int32) (p1 : Int32) (p2 : Int32) (rv : Int32) (hf : f_X1_joining n_joins p1 p2 = some (rv)) : Met l yX1_joining wsX1_joining (rmk 0 0) (va_Pc [.ref (qn 0), .int p1, .int p2] (Pre G (tys Y) [(qn 0, oX1 qn n_pointCount n_lineCount n_tideNow n_age), (qn 5, .inl (Y 0, 144, .inl n_joins))] sz xT)) (va_Qi (fun (r : Int32) (_ : Unit) => r = rv) (Pst G (tys Y) [(qn 0, oX1 qn n_pointCount n_lineCount n_tideNow n_age), (qn 5, .inl (Y 0, 144, .inl n_joins))] sz [(qn 0, oX1 qn n_pointCount n_lineCount n_tideNow n_age), (qn 5, .inl (Y 0, 144, .inl n_joins))]) (va_A [(qn 0, oX1 qn n_pointCount n_lineCount n_tideNow n_age), (qn 5, .inl (Y 0, 144, .inl n_joins))] sz)) 0 0 (va_A [(qn 0, oX1 qn n_pointCount n_lineCount n_tideNow n_age), (qn 5, .inl (Y 0, 144, .inl n_joins))] sz) := by
  refine Met.ofW (cc := cX1_joining) (maxL := 3) (ret := (some .int)) (by decide) rfl ?_
  intro p e s m args below meth c s₁ B hml hv
  obtain ⟨rfl, hsz, hP, hK, hD0, hX⟩ := hv
  have hx := B.exec
  have hb := B.bytes
  have hr := B.returns
  have hts := atoms_spec (ws := wsX1_joining) B.pre
  have hown : s.vm.findClass RX1 = some m.cls := findClass_of_methodNamed B.named
  have hlocks := B.notSynchronized
  subst hsz
  have hD := hD0.self (sz := s.heap.size)
  generalize hAe : va_A [(qn 0, oX1 qn n_pointCount n_lineCount n_tideNow n_age), (qn 5, .inl (Y 0, 144, .inl n_joins))] s.heap.size = A at hD ⊢
  have hA : ∀ q : Nat, s.heap.size ≤ q → A q := fun q h => by rw [← hAe]; exact Or.inr h
  have hS : va_S A s.heap s.heap [] := va_S.rf
  have hP : va_P G vwCl [(qn 0, oX1 qn n_pointCount n_lineCount n_tideNow n_age), (qn 5, .inl (Y 0, 144, .inl n_joins))] s.heap := hP
  have wd1 : (Cond.fieldLink RX1 24 "PairedLines$Net" "joins" "[I").before [.ref (qn 0), .int p1, .int p2].toArray s = true := hts _ (List.mem_of_getElem? (i := 1) rfl)
  have inX1w : ∀ w ∈ u_ws RX1 TX1 11, w ∈ wsX1_joining := fun w hw => List.mem_cons_of_mem _ (List.mem_append_right _ (hw))
  have hl := lv_entry ([.ref (qn 0), .int p1, .int p2]) (n := 3) (Nat.le_of_ble_eq_true rfl)
  rw [lg_entry_eq]
  generalize (lg_sl ([.ref (qn 0), .int p1, .int p2]) ++ List.replicate (3 - (lg_sl ([.ref (qn 0), .int p1, .int p2])).length) Slot.unset).toArray = ls at hl ⊢
  have hl : lv_has ls 3 [(0, .ref (qn 0)), (1, .int p1), (2, .int p2)] := hl
  have E0 : ∀ (H : Heap) (locs : List Loc), va_P G vwCl [(qn 0, oX1 qn n_pointCount n_lineCount n_tideNow n_age), (qn 5, .inl (Y 0, 144, .inl n_joins))] H → va_D A [(qn 0, oX1 qn n_pointCount n_lineCount n_tideNow n_age), (qn 5, .inl (Y 0, 144, .inl n_joins))] → va_S A s.heap H locs → ∀ (ls : Array Slot), lv_has ls 3 [(0, .ref (qn 0)), (1, .int p1), (2, .int p2)] → W p l e (headSpec wsX1_joining (rmk 0 0)).room s m [.ref (qn 0), .int p1, .int p2].toArray below meth c H locs 0 0 (MQ below (va_Qi (fun (r : Int32) (_ : Unit) => r = rv) (Pst G (tys Y) [(qn 0, oX1 qn n_pointCount n_lineCount n_tideNow n_age), (qn 5, .inl (Y 0, 144, .inl n_joins))] s.heap.size [(qn 0, oX1 qn n_pointCount n_lineCount n_tideNow n_age), (qn 5, .inl (Y 0, 144, .inl n_joins))]) A) [.ref (qn 0), .int p1, .int p2].toArray s 0 0 A) (F0 m 0 ls []) := by
    intro H locs hP hD hS ls hl
    unfold f_X1_joining at hf
    refine lv_aload_n hx hb dX1_joining_0 rfl (lv_at hl 0 rfl) ?_
    refine va_get (D := G) (ci := 0) (v := .ref (qn 5)) (C := RX1) (T := TX1) (N := 11) hx hb hts inX1w hown hK hP 0 rfl rfl 4 (by decide) wd1 (fun _ h9 => h9) rfl dX1_joining_1 ?_
    refine lv_iload_n hx hb dX1_joining_4 rfl (lv_at hl 1 rfl) ?_
    refine lv_bipush (v := 12) hx hb dX1_joining_5 (by decide) ?_
    refine lv_imul hx hb dX1_joining_7 ?_
    refine lv_iload_n hx hb dX1_joining_8 rfl (lv_at hl 2 rfl) ?_
    refine lv_iadd hx hb dX1_joining_9 ?_
    obtain ⟨g1, hf⟩ := gd hf
    refine va_iald hx hb hK hP 1 0 rfl rfl g1 dX1_joining_10 ?_
    refine lv_iconst (v := 1) hx hb dX1_joining_11 (by decide) ?_
    refine lv_isub hx hb dX1_joining_12 ?_
    have e0 := rt1 hf
    exact W.iret (v := ((n_joins ((p1 * (12 : Int32)) + p2).toNatClampNeg) - (1 : Int32))) hx hb hr (fun t ht hW => ⟨⟨((n_joins ((p1 * (12 : Int32)) + p2).toNatClampNeg) - (1 : Int32)), (), rfl, e0, by rw [ht]; exact hP, va_K.moved hW.alike hK, by rw [hAe]; exact hD⟩, hS.F ht⟩) hS.2.2 dX1_joining_13
  exact E0 s.heap [] hP hD hS ls hl
-- X1_add
set_option maxRecDepth 100000 in
set_option maxHeartbeats 4000000 in
theorem c_X1_add (l : Launch) (G : va_G) (Y : Nat → ClassId) (sz : Nat) (qn : Nat → Nat) (n_kinds : Nat → Int32) (n_figures : Nat → Int32) (n_lows : Nat → Int32) (n_highs : Nat → Int32) (n_joins : Nat → Int32) (n_nears : Nat → Int32) (n_linesAt : Nat → Int64) (n_pointCount : Int32) (n_lineCount : Int32) (n_tideNow : Int32) (n_age : Int32) (p1 : Int32) (p2 : Int32) (p3 : Int32) (p4 : Int32) (rv : Int32) (o_n_kinds : Nat → Int32) (o_n_figures : Nat → Int32) (o_n_lows : Nat → Int32) (o_n_highs : Nat → Int32) (o_n_joins : Nat → Int32) (o_n_nears : Nat → Int32) (o_n_linesAt : Nat → Int64) (o_n_lineCount : Int32) (o_n_age : Int32) (hf : f_X1_add n_kinds n_figures n_lows n_highs n_joins n_nears n_linesAt n_pointCount n_lineCount n_age p1 p2 p3 p4 = some (rv, o_n_kinds, o_n_figures, o_n_lows, o_n_highs, o_n_joins, o_n_nears, o_n_linesAt, o_n_lineCount, o_n_age)) : Met l yX1_add wsX1_add (rmk 1 23) (va_Pc [.ref (qn 0), .int p1, .int p2, .int p3, .int p4] (Pre G (tys Y) [(qn 0, oX1 qn n_pointCount n_lineCount n_tideNow n_age), (qn 1, .inl (Y 0, 40, .inl n_kinds)), (qn 2, .inl (Y 0, 40, .inl n_figures)), (qn 3, .inl (Y 0, 40, .inl n_lows)), (qn 4, .inl (Y 0, 40, .inl n_highs)), (qn 5, .inl (Y 0, 144, .inl n_joins)), (qn 6, .inl (Y 0, 12, .inl n_nears)), (qn 7, .inl (Y 1, 12, .inr (.inl n_linesAt)))] sz xN)) (va_Qi (fun (r : Int32) (_ : Unit) => r = rv) (Pst G (tys Y) [(qn 0, oX1 qn n_pointCount n_lineCount n_tideNow n_age), (qn 1, .inl (Y 0, 40, .inl n_kinds)), (qn 2, .inl (Y 0, 40, .inl n_figures)), (qn 3, .inl (Y 0, 40, .inl n_lows)), (qn 4, .inl (Y 0, 40, .inl n_highs)), (qn 5, .inl (Y 0, 144, .inl n_joins)), (qn 6, .inl (Y 0, 12, .inl n_nears)), (qn 7, .inl (Y 1, 12, .inr (.inl n_linesAt)))] sz [(qn 0, oX1 qn n_pointCount o_n_lineCount n_tideNow o_n_age), (qn 1, .inl (Y 0, 40, .inl o_n_kinds)), (qn 2, .inl (Y 0, 40, .inl o_n_figures)), (qn 3, .inl (Y 0, 40, .inl o_n_lows)), (qn 4, .inl (Y 0, 40, .inl o_n_highs)), (qn 5, .inl (Y 0, 144, .inl o_n_joins)), (qn 6, .inl (Y 0, 12, .inl o_n_nears)), (qn 7, .inl (Y 1, 12, .inr (.inl o_n_linesAt)))]) (va_A [(qn 0, oX1 qn n_pointCount n_lineCount n_tideNow n_age), (qn 1, .inl (Y 0, 40, .inl n_kinds)), (qn 2, .inl (Y 0, 40, .inl n_figures)), (qn 3, .inl (Y 0, 40, .inl n_lows)), (qn 4, .inl (Y 0, 40, .inl n_highs)), (qn 5, .inl (Y 0, 144, .inl n_joins)), (qn 6, .inl (Y 0, 12, .inl n_nears)), (qn 7, .inl (Y 1, 12, .inr (.inl n_linesAt)))] sz)) 0 0 (va_A [(qn 0, oX1 qn n_pointCount n_lineCount n_tideNow n_age), (qn 1, .inl (Y 0, 40, .inl n_kinds)), (qn 2, .inl (Y 0, 40, .inl n_figures)), (qn 3, .inl (Y 0, 40, .inl n_lows)), (qn 4, .inl (Y 0, 40, .inl n_highs)), (qn 5, .inl (Y 0, 144, .inl n_joins)), (qn 6, .inl (Y 0, 12, .inl n_nears)), (qn 7, .inl (Y 1, 12, .inr (.inl n_linesAt)))] sz) := by
  refine Met.ofW (cc := cX1_add) (maxL := 6) (ret := (some .int)) (by decide) rfl ?_
  intro p e s m args below meth c s₁ B hml hv
  obtain ⟨rfl, hsz, hP, hK, hD0, hX⟩ := hv
  have hx := B.exec
  have hb := B.bytes
  have hr := B.returns
  have hts := atoms_spec (ws := wsX1_add) B.pre
  have hown : s.vm.findClass RX1 = some m.cls := findClass_of_methodNamed B.named
  have hlocks := B.notSynchronized
  subst hsz
  have hD := hD0.self (sz := s.heap.size)
  generalize hAe : va_A [(qn 0, oX1 qn n_pointCount n_lineCount n_tideNow n_age), (qn 1, .inl (Y 0, 40, .inl n_kinds)), (qn 2, .inl (Y 0, 40, .inl n_figures)), (qn 3, .inl (Y 0, 40, .inl n_lows)), (qn 4, .inl (Y 0, 40, .inl n_highs)), (qn 5, .inl (Y 0, 144, .inl n_joins)), (qn 6, .inl (Y 0, 12, .inl n_nears)), (qn 7, .inl (Y 1, 12, .inr (.inl n_linesAt)))] s.heap.size = A at hD ⊢
  have hA : ∀ q : Nat, s.heap.size ≤ q → A q := fun q h => by rw [← hAe]; exact Or.inr h
  have hS : va_S A s.heap s.heap [] := va_S.rf
  have hP : va_P G vwCl [(qn 0, oX1 qn n_pointCount n_lineCount n_tideNow n_age), (qn 1, .inl (Y 0, 40, .inl n_kinds)), (qn 2, .inl (Y 0, 40, .inl n_figures)), (qn 3, .inl (Y 0, 40, .inl n_lows)), (qn 4, .inl (Y 0, 40, .inl n_highs)), (qn 5, .inl (Y 0, 144, .inl n_joins)), (qn 6, .inl (Y 0, 12, .inl n_nears)), (qn 7, .inl (Y 1, 12, .inr (.inl n_linesAt)))] s.heap := hP
  have wd1 : (Cond.fieldLink RX1 38 "PairedLines$Net" "lineCount" "I").before [.ref (qn 0), .int p1, .int p2, .int p3, .int p4].toArray s = true := hts _ (List.mem_of_getElem? (i := 1) rfl)
  have wd2 : (Cond.fieldLink RX1 9 "PairedLines$Net" "kinds" "[I").before [.ref (qn 0), .int p1, .int p2, .int p3, .int p4].toArray s = true := hts _ (List.mem_of_getElem? (i := 2) rfl)
  have wd3 : (Cond.fieldLink RX1 15 "PairedLines$Net" "figures" "[I").before [.ref (qn 0), .int p1, .int p2, .int p3, .int p4].toArray s = true := hts _ (List.mem_of_getElem? (i := 3) rfl)
  have wd4 : (Cond.fieldLink RX1 18 "PairedLines$Net" "lows" "[I").before [.ref (qn 0), .int p1, .int p2, .int p3, .int p4].toArray s = true := hts _ (List.mem_of_getElem? (i := 4) rfl)
  have wd5 : (Cond.methodLink RX1 62 Lib.Math.min.name).before [.ref (qn 0), .int p1, .int p2, .int p3, .int p4].toArray s = true := hts _ (List.mem_of_getElem? (i := 5) rfl)
  have wd6 : (Cond.static Lib.Math.min.name).before [.ref (qn 0), .int p1, .int p2, .int p3, .int p4].toArray s = true := hts _ (List.mem_of_getElem? (i := 6) rfl)
  have wd7 : (Cond.initialized "java/lang/Math").before [.ref (qn 0), .int p1, .int p2, .int p3, .int p4].toArray s = true := hts _ (List.mem_of_getElem? (i := 7) rfl)
  have wd8 : (Cond.code Lib.Math.min.name Lib.Math.min.code 2 (some .int)).before [.ref (qn 0), .int p1, .int p2, .int p3, .int p4].toArray s = true := hts _ (List.mem_of_getElem? (i := 8) rfl)
  have wd9 : (Cond.fieldLink RX1 21 "PairedLines$Net" "highs" "[I").before [.ref (qn 0), .int p1, .int p2, .int p3, .int p4].toArray s = true := hts _ (List.mem_of_getElem? (i := 9) rfl)
  have wd10 : (Cond.methodLink RX1 67 Lib.Math.max.name).before [.ref (qn 0), .int p1, .int p2, .int p3, .int p4].toArray s = true := hts _ (List.mem_of_getElem? (i := 10) rfl)
  have wd11 : (Cond.static Lib.Math.max.name).before [.ref (qn 0), .int p1, .int p2, .int p3, .int p4].toArray s = true := hts _ (List.mem_of_getElem? (i := 11) rfl)
  have wd12 : (Cond.code Lib.Math.max.name Lib.Math.max.code 2 (some .int)).before [.ref (qn 0), .int p1, .int p2, .int p3, .int p4].toArray s = true := hts _ (List.mem_of_getElem? (i := 12) rfl)
  have wd13 : (Cond.fieldLink RX1 44 "PairedLines$Net" "age" "I").before [.ref (qn 0), .int p1, .int p2, .int p3, .int p4].toArray s = true := hts _ (List.mem_of_getElem? (i := 13) rfl)
  have wd14 : (Cond.static yX8_isBeyond).before [.ref (qn 0), .int p1, .int p2, .int p3, .int p4].toArray s = true := hts _ (List.mem_of_getElem? (i := 14) rfl)
  have wd15 : (Cond.initialized RX8).before [.ref (qn 0), .int p1, .int p2, .int p3, .int p4].toArray s = true := hts _ (List.mem_of_getElem? (i := 15) rfl)
  have inX1w : ∀ w ∈ u_ws RX1 TX1 11, w ∈ wsX1_add := fun w hw => List.mem_cons_of_mem _ (List.mem_append_right _ (hw))
  have hl := lv_entry ([.ref (qn 0), .int p1, .int p2, .int p3, .int p4]) (n := 6) (Nat.le_of_ble_eq_true rfl)
  rw [lg_entry_eq]
  generalize (lg_sl ([.ref (qn 0), .int p1, .int p2, .int p3, .int p4]) ++ List.replicate (6 - (lg_sl ([.ref (qn 0), .int p1, .int p2, .int p3, .int p4])).length) Slot.unset).toArray = ls at hl ⊢
  have hl : lv_has ls 6 [(0, .ref (qn 0)), (1, .int p1), (2, .int p2), (3, .int p3), (4, .int p4)] := hl
  have E0 : ∀ (H : Heap) (locs : List Loc), va_P G vwCl [(qn 0, oX1 qn n_pointCount n_lineCount n_tideNow n_age), (qn 1, .inl (Y 0, 40, .inl n_kinds)), (qn 2, .inl (Y 0, 40, .inl n_figures)), (qn 3, .inl (Y 0, 40, .inl n_lows)), (qn 4, .inl (Y 0, 40, .inl n_highs)), (qn 5, .inl (Y 0, 144, .inl n_joins)), (qn 6, .inl (Y 0, 12, .inl n_nears)), (qn 7, .inl (Y 1, 12, .inr (.inl n_linesAt)))] H → va_D A [(qn 0, oX1 qn n_pointCount n_lineCount n_tideNow n_age), (qn 1, .inl (Y 0, 40, .inl n_kinds)), (qn 2, .inl (Y 0, 40, .inl n_figures)), (qn 3, .inl (Y 0, 40, .inl n_lows)), (qn 4, .inl (Y 0, 40, .inl n_highs)), (qn 5, .inl (Y 0, 144, .inl n_joins)), (qn 6, .inl (Y 0, 12, .inl n_nears)), (qn 7, .inl (Y 1, 12, .inr (.inl n_linesAt)))] → va_S A s.heap H locs → ∀ (ls : Array Slot), lv_has ls 6 [(0, .ref (qn 0)), (1, .int p1), (2, .int p2), (3, .int p3), (4, .int p4)] → W p l e (headSpec wsX1_add (rmk 1 23)).room s m [.ref (qn 0), .int p1, .int p2, .int p3, .int p4].toArray below meth c H locs 0 0 (MQ below (va_Qi (fun (r : Int32) (_ : Unit) => r = rv) (Pst G (tys Y) [(qn 0, oX1 qn n_pointCount n_lineCount n_tideNow n_age), (qn 1, .inl (Y 0, 40, .inl n_kinds)), (qn 2, .inl (Y 0, 40, .inl n_figures)), (qn 3, .inl (Y 0, 40, .inl n_lows)), (qn 4, .inl (Y 0, 40, .inl n_highs)), (qn 5, .inl (Y 0, 144, .inl n_joins)), (qn 6, .inl (Y 0, 12, .inl n_nears)), (qn 7, .inl (Y 1, 12, .inr (.inl n_linesAt)))] s.heap.size [(qn 0, oX1 qn n_pointCount o_n_lineCount n_tideNow o_n_age), (qn 1, .inl (Y 0, 40, .inl o_n_kinds)), (qn 2, .inl (Y 0, 40, .inl o_n_figures)), (qn 3, .inl (Y 0, 40, .inl o_n_lows)), (qn 4, .inl (Y 0, 40, .inl o_n_highs)), (qn 5, .inl (Y 0, 144, .inl o_n_joins)), (qn 6, .inl (Y 0, 12, .inl o_n_nears)), (qn 7, .inl (Y 1, 12, .inr (.inl o_n_linesAt)))]) A) [.ref (qn 0), .int p1, .int p2, .int p3, .int p4].toArray s 0 0 A) (F0 m 0 ls []) := by
    intro H locs hP hD hS ls hl
    unfold f_X1_add at hf
    refine lv_iload_n hx hb dX1_add_0 rfl (lv_at hl 1 rfl) ?_
    refine lv_iconst (v := 0) hx hb dX1_add_1 (by decide) ?_
    refine lv_iconst (v := 5) hx hb dX1_add_2 (by decide) ?_
    obtain ⟨r1, hc, hf⟩ := bd1 hf
    refine cl_i (ws' := [(qn 0, oX1 qn n_pointCount n_lineCount n_tideNow n_age), (qn 1, .inl (Y 0, 40, .inl n_kinds)), (qn 2, .inl (Y 0, 40, .inl n_figures)), (qn 3, .inl (Y 0, 40, .inl n_lows)), (qn 4, .inl (Y 0, 40, .inl n_highs)), (qn 5, .inl (Y 0, 144, .inl n_joins)), (qn 6, .inl (Y 0, 12, .inl n_nears)), (qn 7, .inl (Y 1, 12, .inr (.inl n_linesAt)))]) (wr := [(qn 0, oX1 qn n_pointCount n_lineCount n_tideNow n_age), (qn 1, .inl (Y 0, 40, .inl n_kinds)), (qn 2, .inl (Y 0, 40, .inl n_figures)), (qn 3, .inl (Y 0, 40, .inl n_lows)), (qn 4, .inl (Y 0, 40, .inl n_highs)), (qn 5, .inl (Y 0, 144, .inl n_joins)), (qn 6, .inl (Y 0, 12, .inl n_nears)), (qn 7, .inl (Y 1, 12, .inr (.inl n_linesAt)))]) (rnN (As := [.int p1, .int (0 : Int32), .int (5 : Int32)]) (rest := []) ⟨hx, hb, hml, hown, hts⟩ (c_X8_isBeyond l G Y H.size p1 (0 : Int32) (5 : Int32) r1 hc) ⟨va_cnB 3 hts gX1_add_X8_isBeyond_n50 rfl rfl rfl hX.1 wd15 (by decide +kernel) ⟨(Nat.le_of_ble_eq_true rfl), (Nat.le_of_ble_eq_true rfl)⟩, wd14, trivial⟩ trivial okT hK hP hD [] rfl rfl rfl hl.1 rfl (Nat.le_of_ble_eq_true rfl) dX1_add_3) hP hD hS hA [] [0, 1, 2, 3, 4, 5, 6, 7] [0, 1, 2, 3, 4, 5, 6, 7] rfl rfl rfl (by decide) rfl rfl (fun H locs hP hD hS => ?_)
    refine lv_if_ne (tgt := 43) hx hb dX1_add_6 (by decide) (fun c2 => ?_) (fun c2 => ?_)
    · have hf := ie hf c2
      refine lv_bipush (v := -2) hx hb dX1_add_43 (by decide) ?_
      obtain ⟨e0, e1, e2, e3, e4, e5, e6, e7, e8, e9⟩ := rt10 hf
      have hP : va_P G vwCl [(qn 0, oX1 qn n_pointCount o_n_lineCount n_tideNow o_n_age), (qn 1, .inl (Y 0, 40, .inl o_n_kinds)), (qn 2, .inl (Y 0, 40, .inl o_n_figures)), (qn 3, .inl (Y 0, 40, .inl o_n_lows)), (qn 4, .inl (Y 0, 40, .inl o_n_highs)), (qn 5, .inl (Y 0, 144, .inl o_n_joins)), (qn 6, .inl (Y 0, 12, .inl o_n_nears)), (qn 7, .inl (Y 1, 12, .inr (.inl o_n_linesAt)))] H := by rw [← e1, ← e2, ← e3, ← e4, ← e5, ← e6, ← e7, ← e8, ← e9]; exact hP
      have hD : va_D A [(qn 0, oX1 qn n_pointCount o_n_lineCount n_tideNow o_n_age), (qn 1, .inl (Y 0, 40, .inl o_n_kinds)), (qn 2, .inl (Y 0, 40, .inl o_n_figures)), (qn 3, .inl (Y 0, 40, .inl o_n_lows)), (qn 4, .inl (Y 0, 40, .inl o_n_highs)), (qn 5, .inl (Y 0, 144, .inl o_n_joins)), (qn 6, .inl (Y 0, 12, .inl o_n_nears)), (qn 7, .inl (Y 1, 12, .inr (.inl o_n_linesAt)))] := by rw [← e1, ← e2, ← e3, ← e4, ← e5, ← e6, ← e7, ← e8, ← e9]; exact hD
      exact W.iret (v := (-2 : Int32)) hx hb hr (fun t ht hW => ⟨⟨(-2 : Int32), (), rfl, e0, by rw [ht]; exact hP, va_K.moved hW.alike hK, by rw [hAe]; exact hD⟩, hS.F ht⟩) hS.2.2 dX1_add_45
    · have hf := it hf c2
      refine lv_iload_n hx hb dX1_add_9 rfl (lv_at hl 2 rfl) ?_
      refine lv_iconst (v := 0) hx hb dX1_add_10 (by decide) ?_
      refine lv_sipush (v := 9999) hx hb dX1_add_11 (by decide) ?_
      obtain ⟨r3, hc, hf⟩ := bd1 hf
      refine cl_i (ws' := [(qn 0, oX1 qn n_pointCount n_lineCount n_tideNow n_age), (qn 1, .inl (Y 0, 40, .inl n_kinds)), (qn 2, .inl (Y 0, 40, .inl n_figures)), (qn 3, .inl (Y 0, 40, .inl n_lows)), (qn 4, .inl (Y 0, 40, .inl n_highs)), (qn 5, .inl (Y 0, 144, .inl n_joins)), (qn 6, .inl (Y 0, 12, .inl n_nears)), (qn 7, .inl (Y 1, 12, .inr (.inl n_linesAt)))]) (wr := [(qn 0, oX1 qn n_pointCount n_lineCount n_tideNow n_age), (qn 1, .inl (Y 0, 40, .inl n_kinds)), (qn 2, .inl (Y 0, 40, .inl n_figures)), (qn 3, .inl (Y 0, 40, .inl n_lows)), (qn 4, .inl (Y 0, 40, .inl n_highs)), (qn 5, .inl (Y 0, 144, .inl n_joins)), (qn 6, .inl (Y 0, 12, .inl n_nears)), (qn 7, .inl (Y 1, 12, .inr (.inl n_linesAt)))]) (rnN (As := [.int p2, .int (0 : Int32), .int (9999 : Int32)]) (rest := []) ⟨hx, hb, hml, hown, hts⟩ (c_X8_isBeyond l G Y H.size p2 (0 : Int32) (9999 : Int32) r3 hc) ⟨va_cnB 3 hts gX1_add_X8_isBeyond_n50 rfl rfl rfl hX.1 wd15 (by decide +kernel) ⟨(Nat.le_of_ble_eq_true rfl), (Nat.le_of_ble_eq_true rfl)⟩, wd14, trivial⟩ trivial okT hK hP hD [] rfl rfl rfl hl.1 rfl (Nat.le_of_ble_eq_true rfl) dX1_add_14) hP hD hS hA [] [0, 1, 2, 3, 4, 5, 6, 7] [0, 1, 2, 3, 4, 5, 6, 7] rfl rfl rfl (by decide) rfl rfl (fun H locs hP hD hS => ?_)
      refine lv_if_ne (tgt := 43) hx hb dX1_add_17 (by decide) (fun c4 => ?_) (fun c4 => ?_)
      · have hf := ie hf c4
        refine lv_bipush (v := -2) hx hb dX1_add_43 (by decide) ?_
        obtain ⟨e0, e1, e2, e3, e4, e5, e6, e7, e8, e9⟩ := rt10 hf
        have hP : va_P G vwCl [(qn 0, oX1 qn n_pointCount o_n_lineCount n_tideNow o_n_age), (qn 1, .inl (Y 0, 40, .inl o_n_kinds)), (qn 2, .inl (Y 0, 40, .inl o_n_figures)), (qn 3, .inl (Y 0, 40, .inl o_n_lows)), (qn 4, .inl (Y 0, 40, .inl o_n_highs)), (qn 5, .inl (Y 0, 144, .inl o_n_joins)), (qn 6, .inl (Y 0, 12, .inl o_n_nears)), (qn 7, .inl (Y 1, 12, .inr (.inl o_n_linesAt)))] H := by rw [← e1, ← e2, ← e3, ← e4, ← e5, ← e6, ← e7, ← e8, ← e9]; exact hP
        have hD : va_D A [(qn 0, oX1 qn n_pointCount o_n_lineCount n_tideNow o_n_age), (qn 1, .inl (Y 0, 40, .inl o_n_kinds)), (qn 2, .inl (Y 0, 40, .inl o_n_figures)), (qn 3, .inl (Y 0, 40, .inl o_n_lows)), (qn 4, .inl (Y 0, 40, .inl o_n_highs)), (qn 5, .inl (Y 0, 144, .inl o_n_joins)), (qn 6, .inl (Y 0, 12, .inl o_n_nears)), (qn 7, .inl (Y 1, 12, .inr (.inl o_n_linesAt)))] := by rw [← e1, ← e2, ← e3, ← e4, ← e5, ← e6, ← e7, ← e8, ← e9]; exact hD
        exact W.iret (v := (-2 : Int32)) hx hb hr (fun t ht hW => ⟨⟨(-2 : Int32), (), rfl, e0, by rw [ht]; exact hP, va_K.moved hW.alike hK, by rw [hAe]; exact hD⟩, hS.F ht⟩) hS.2.2 dX1_add_45
      · have hf := it hf c4
        refine lv_aload_n hx hb dX1_add_20 rfl (lv_at hl 0 rfl) ?_
        refine lv_iload_n hx hb dX1_add_21 rfl (lv_at hl 3 rfl) ?_
        obtain ⟨r5, hc, hf⟩ := bd1 hf
        refine cl_i (ws' := [(qn 0, oX1 qn n_pointCount n_lineCount n_tideNow n_age), (qn 1, .inl (Y 0, 40, .inl n_kinds)), (qn 2, .inl (Y 0, 40, .inl n_figures)), (qn 3, .inl (Y 0, 40, .inl n_lows)), (qn 4, .inl (Y 0, 40, .inl n_highs)), (qn 5, .inl (Y 0, 144, .inl n_joins)), (qn 6, .inl (Y 0, 12, .inl n_nears)), (qn 7, .inl (Y 1, 12, .inr (.inl n_linesAt)))]) (wr := [(qn 1, .inl (Y 0, 40, .inl n_kinds)), (qn 2, .inl (Y 0, 40, .inl n_figures)), (qn 3, .inl (Y 0, 40, .inl n_lows)), (qn 4, .inl (Y 0, 40, .inl n_highs)), (qn 5, .inl (Y 0, 144, .inl n_joins)), (qn 6, .inl (Y 0, 12, .inl n_nears)), (qn 7, .inl (Y 1, 12, .inr (.inl n_linesAt)))]) (rnV (As := [.int p3]) (rest := []) ⟨hx, hb, hml, hown, hts⟩ (c_X1_hasPoint l G Y H.size qn n_pointCount n_lineCount n_tideNow n_age p3 r5 hc) (cwV 1 hts gX1_add_X1_hasPoint rfl rfl rfl (by decide +kernel) ⟨(Nat.le_of_ble_eq_true rfl), (Nat.le_of_ble_eq_true rfl)⟩) trivial okT hK hP hD [0] rfl rfl (ci := 0) (q0 := 0) rfl rfl rfl rfl hl.1 rfl (Nat.le_of_ble_eq_true rfl) dX1_add_22) hP hD hS hA [0] [1, 2, 3, 4, 5, 6, 7] [7, 0, 1, 2, 3, 4, 5, 6] rfl rfl rfl (by decide) rfl rfl (fun H locs hP hD hS => ?_)
        refine lv_if_eq (tgt := 43) hx hb dX1_add_25 (by decide) (fun c6 => ?_) (fun c6 => ?_)
        · have hf := it hf c6
          refine lv_bipush (v := -2) hx hb dX1_add_43 (by decide) ?_
          obtain ⟨e0, e1, e2, e3, e4, e5, e6, e7, e8, e9⟩ := rt10 hf
          have hP : va_P G vwCl [(qn 0, oX1 qn n_pointCount o_n_lineCount n_tideNow o_n_age), (qn 1, .inl (Y 0, 40, .inl o_n_kinds)), (qn 2, .inl (Y 0, 40, .inl o_n_figures)), (qn 3, .inl (Y 0, 40, .inl o_n_lows)), (qn 4, .inl (Y 0, 40, .inl o_n_highs)), (qn 5, .inl (Y 0, 144, .inl o_n_joins)), (qn 6, .inl (Y 0, 12, .inl o_n_nears)), (qn 7, .inl (Y 1, 12, .inr (.inl o_n_linesAt)))] H := by rw [← e1, ← e2, ← e3, ← e4, ← e5, ← e6, ← e7, ← e8, ← e9]; exact hP
          have hD : va_D A [(qn 0, oX1 qn n_pointCount o_n_lineCount n_tideNow o_n_age), (qn 1, .inl (Y 0, 40, .inl o_n_kinds)), (qn 2, .inl (Y 0, 40, .inl o_n_figures)), (qn 3, .inl (Y 0, 40, .inl o_n_lows)), (qn 4, .inl (Y 0, 40, .inl o_n_highs)), (qn 5, .inl (Y 0, 144, .inl o_n_joins)), (qn 6, .inl (Y 0, 12, .inl o_n_nears)), (qn 7, .inl (Y 1, 12, .inr (.inl o_n_linesAt)))] := by rw [← e1, ← e2, ← e3, ← e4, ← e5, ← e6, ← e7, ← e8, ← e9]; exact hD
          exact W.iret (v := (-2 : Int32)) hx hb hr (fun t ht hW => ⟨⟨(-2 : Int32), (), rfl, e0, by rw [ht]; exact hP, va_K.moved hW.alike hK, by rw [hAe]; exact hD⟩, hS.F ht⟩) hS.2.2 dX1_add_45
        · have hf := ie hf c6
          refine lv_aload_n hx hb dX1_add_28 rfl (lv_at hl 0 rfl) ?_
          refine lv_iload hx hb dX1_add_29 (lv_at hl 4 rfl) ?_
          obtain ⟨r7, hc, hf⟩ := bd1 hf
          refine cl_i (ws' := [(qn 0, oX1 qn n_pointCount n_lineCount n_tideNow n_age), (qn 1, .inl (Y 0, 40, .inl n_kinds)), (qn 2, .inl (Y 0, 40, .inl n_figures)), (qn 3, .inl (Y 0, 40, .inl n_lows)), (qn 4, .inl (Y 0, 40, .inl n_highs)), (qn 5, .inl (Y 0, 144, .inl n_joins)), (qn 6, .inl (Y 0, 12, .inl n_nears)), (qn 7, .inl (Y 1, 12, .inr (.inl n_linesAt)))]) (wr := [(qn 1, .inl (Y 0, 40, .inl n_kinds)), (qn 2, .inl (Y 0, 40, .inl n_figures)), (qn 3, .inl (Y 0, 40, .inl n_lows)), (qn 4, .inl (Y 0, 40, .inl n_highs)), (qn 5, .inl (Y 0, 144, .inl n_joins)), (qn 6, .inl (Y 0, 12, .inl n_nears)), (qn 7, .inl (Y 1, 12, .inr (.inl n_linesAt)))]) (rnV (As := [.int p4]) (rest := []) ⟨hx, hb, hml, hown, hts⟩ (c_X1_hasPoint l G Y H.size qn n_pointCount n_lineCount n_tideNow n_age p4 r7 hc) (cwV 1 hts gX1_add_X1_hasPoint rfl rfl rfl (by decide +kernel) ⟨(Nat.le_of_ble_eq_true rfl), (Nat.le_of_ble_eq_true rfl)⟩) trivial okT hK hP hD [0] rfl rfl (ci := 0) (q0 := 0) rfl rfl rfl rfl hl.1 rfl (Nat.le_of_ble_eq_true rfl) dX1_add_31) hP hD hS hA [0] [1, 2, 3, 4, 5, 6, 7] [7, 0, 1, 2, 3, 4, 5, 6] rfl rfl rfl (by decide) rfl rfl (fun H locs hP hD hS => ?_)
          refine lv_if_eq (tgt := 43) hx hb dX1_add_34 (by decide) (fun c8 => ?_) (fun c8 => ?_)
          · have hf := it hf c8
            refine lv_bipush (v := -2) hx hb dX1_add_43 (by decide) ?_
            obtain ⟨e0, e1, e2, e3, e4, e5, e6, e7, e8, e9⟩ := rt10 hf
            have hP : va_P G vwCl [(qn 0, oX1 qn n_pointCount o_n_lineCount n_tideNow o_n_age), (qn 1, .inl (Y 0, 40, .inl o_n_kinds)), (qn 2, .inl (Y 0, 40, .inl o_n_figures)), (qn 3, .inl (Y 0, 40, .inl o_n_lows)), (qn 4, .inl (Y 0, 40, .inl o_n_highs)), (qn 5, .inl (Y 0, 144, .inl o_n_joins)), (qn 6, .inl (Y 0, 12, .inl o_n_nears)), (qn 7, .inl (Y 1, 12, .inr (.inl o_n_linesAt)))] H := by rw [← e1, ← e2, ← e3, ← e4, ← e5, ← e6, ← e7, ← e8, ← e9]; exact hP
            have hD : va_D A [(qn 0, oX1 qn n_pointCount o_n_lineCount n_tideNow o_n_age), (qn 1, .inl (Y 0, 40, .inl o_n_kinds)), (qn 2, .inl (Y 0, 40, .inl o_n_figures)), (qn 3, .inl (Y 0, 40, .inl o_n_lows)), (qn 4, .inl (Y 0, 40, .inl o_n_highs)), (qn 5, .inl (Y 0, 144, .inl o_n_joins)), (qn 6, .inl (Y 0, 12, .inl o_n_nears)), (qn 7, .inl (Y 1, 12, .inr (.inl o_n_linesAt)))] := by rw [← e1, ← e2, ← e3, ← e4, ← e5, ← e6, ← e7, ← e8, ← e9]; exact hD
            exact W.iret (v := (-2 : Int32)) hx hb hr (fun t ht hW => ⟨⟨(-2 : Int32), (), rfl, e0, by rw [ht]; exact hP, va_K.moved hW.alike hK, by rw [hAe]; exact hD⟩, hS.F ht⟩) hS.2.2 dX1_add_45
          · have hf := ie hf c8
            refine lv_iload_n hx hb dX1_add_37 rfl (lv_at hl 3 rfl) ?_
            refine lv_iload hx hb dX1_add_38 (lv_at hl 4 rfl) ?_
            refine lv_icmp_ne (tgt := 46) hx hb dX1_add_40 (by decide) (fun c9 => ?_) (fun c9 => ?_)
            · have hf := ie hf c9
              refine lv_aload_n hx hb dX1_add_46 rfl (lv_at hl 0 rfl) ?_
              refine lv_iload_n hx hb dX1_add_47 rfl (lv_at hl 3 rfl) ?_
              refine lv_iload hx hb dX1_add_48 (lv_at hl 4 rfl) ?_
              obtain ⟨r10, hc, hf⟩ := bd1 hf
              refine cl_i (ws' := [(qn 0, oX1 qn n_pointCount n_lineCount n_tideNow n_age), (qn 1, .inl (Y 0, 40, .inl n_kinds)), (qn 2, .inl (Y 0, 40, .inl n_figures)), (qn 3, .inl (Y 0, 40, .inl n_lows)), (qn 4, .inl (Y 0, 40, .inl n_highs)), (qn 5, .inl (Y 0, 144, .inl n_joins)), (qn 6, .inl (Y 0, 12, .inl n_nears)), (qn 7, .inl (Y 1, 12, .inr (.inl n_linesAt)))]) (wr := [(qn 1, .inl (Y 0, 40, .inl n_kinds)), (qn 2, .inl (Y 0, 40, .inl n_figures)), (qn 3, .inl (Y 0, 40, .inl n_lows)), (qn 4, .inl (Y 0, 40, .inl n_highs)), (qn 6, .inl (Y 0, 12, .inl n_nears)), (qn 7, .inl (Y 1, 12, .inr (.inl n_linesAt)))]) (rnV (As := [.int p3, .int p4]) (rest := []) ⟨hx, hb, hml, hown, hts⟩ (c_X1_joining l G Y H.size qn n_joins n_pointCount n_lineCount n_tideNow n_age p3 p4 r10 hc) (cwV 2 hts gX1_add_X1_joining rfl rfl rfl (by decide +kernel) ⟨(Nat.le_of_ble_eq_true rfl), (Nat.le_of_ble_eq_true rfl)⟩) trivial okT hK hP hD [0, 5] rfl rfl (ci := 0) (q0 := 0) rfl rfl rfl rfl hl.1 rfl (Nat.le_of_ble_eq_true rfl) dX1_add_50) hP hD hS hA [0, 5] [1, 2, 3, 4, 6, 7] [6, 0, 1, 2, 3, 7, 4, 5] rfl rfl rfl (by decide) rfl rfl (fun H locs hP hD hS => ?_)
              refine lv_iconst (v := -1) hx hb dX1_add_53 (by decide) ?_
              refine lv_icmp_eq (tgt := 60) hx hb dX1_add_54 (by decide) (fun c11 => ?_) (fun c11 => ?_)
              · have hf := it hf c11
                refine lv_aload_n hx hb dX1_add_60 rfl (lv_at hl 0 rfl) ?_
                refine va_get (D := G) (ci := 0) (v := .int n_lineCount) (C := RX1) (T := TX1) (N := 11) hx hb hts inX1w hown hK hP 0 rfl rfl 8 (by decide) wd1 (fun _ h9 => h9) rfl dX1_add_61 ?_
                refine lv_bipush (v := 40) hx hb dX1_add_64 (by decide) ?_
                refine lv_icmp_lt (tgt := 72) hx hb dX1_add_66 (by decide) (fun c12 => ?_) (fun c12 => ?_)
                · have hf := it hf c12
                  refine lv_aload_n hx hb dX1_add_72 rfl (lv_at hl 0 rfl) ?_
                  refine va_get (D := G) (ci := 0) (v := .int n_lineCount) (C := RX1) (T := TX1) (N := 11) hx hb hts inX1w hown hK hP 0 rfl rfl 8 (by decide) wd1 (fun _ h9 => h9) rfl dX1_add_73 ?_
                  refine lv_istore (lv' := [(5, .int n_lineCount), (0, .ref (qn 0)), (1, .int p1), (2, .int p2), (3, .int p3), (4, .int p4)]) hx hb dX1_add_76 hl (by decide) rfl (fun ls hl => ?_)
                  refine lv_aload_n hx hb dX1_add_78 rfl (lv_at hl 1 rfl) ?_
                  refine lv_dup hx hb dX1_add_79 rfl ?_
                  refine va_get (D := G) (ci := 0) (v := .int n_lineCount) (C := RX1) (T := TX1) (N := 11) hx hb hts inX1w hown hK hP 0 rfl rfl 8 (by decide) wd1 (fun _ h9 => h9) rfl dX1_add_80 ?_
                  refine lv_iconst (v := 1) hx hb dX1_add_83 (by decide) ?_
                  refine lv_iadd hx hb dX1_add_84 ?_
                  refine lv_topi (fun v13 e_v13 => ?_)
                  have hf := nm_at hf e_v13
                  refine va_put (D := G) (ci := 0) (v := .int v13) (ty := .int) (C := RX1) (T := TX1) (N := 11) hx hb hts inX1w tyX1 tyX1_ok nmX1 hown hK hP hD hS 0 rfl rfl 8 (by decide) wd1 (fun _ h9 => h9) rfl (by decide +kernel) rfl rfl (Nat.le_of_ble_eq_true rfl) dX1_add_85 (fun H locs hP hD hS => ?_)
                  have hP : va_P G vwCl [(qn 0, oX1 qn n_pointCount v13 n_tideNow n_age), (qn 1, .inl (Y 0, 40, .inl n_kinds)), (qn 2, .inl (Y 0, 40, .inl n_figures)), (qn 3, .inl (Y 0, 40, .inl n_lows)), (qn 4, .inl (Y 0, 40, .inl n_highs)), (qn 5, .inl (Y 0, 144, .inl n_joins)), (qn 6, .inl (Y 0, 12, .inl n_nears)), (qn 7, .inl (Y 1, 12, .inr (.inl n_linesAt)))] H := hP
                  have hD : va_D A [(qn 0, oX1 qn n_pointCount v13 n_tideNow n_age), (qn 1, .inl (Y 0, 40, .inl n_kinds)), (qn 2, .inl (Y 0, 40, .inl n_figures)), (qn 3, .inl (Y 0, 40, .inl n_lows)), (qn 4, .inl (Y 0, 40, .inl n_highs)), (qn 5, .inl (Y 0, 144, .inl n_joins)), (qn 6, .inl (Y 0, 12, .inl n_nears)), (qn 7, .inl (Y 1, 12, .inr (.inl n_linesAt)))] := hD
                  refine lv_aload_n hx hb dX1_add_88 rfl (lv_at hl 1 rfl) ?_
                  refine va_get (D := G) (ci := 0) (v := .ref (qn 1)) (C := RX1) (T := TX1) (N := 11) hx hb hts inX1w hown hK hP 0 rfl rfl 0 (by decide) wd2 (fun _ h9 => h9) rfl dX1_add_89 ?_
                  refine lv_iload hx hb dX1_add_92 (lv_at hl 0 rfl) ?_
                  refine lv_iload_n hx hb dX1_add_94 rfl (lv_at hl 2 rfl) ?_
                  obtain ⟨g14, hf⟩ := gd hf
                  refine va_iast hx hb hK hP hD hS 1 0 rfl rfl g14 dX1_add_95 (fun H locs hP hD hS => ?_)
                  obtain ⟨v15, e_v15⟩ : ∃ z : Nat → Int32, z = upd n_kinds n_lineCount.toNatClampNeg p1 := ⟨_, rfl⟩
                  have hf := nm_at hf e_v15
                  have hP : va_P G vwCl [(qn 0, oX1 qn n_pointCount v13 n_tideNow n_age), (qn 1, .inl (Y 0, 40, .inl v15)), (qn 2, .inl (Y 0, 40, .inl n_figures)), (qn 3, .inl (Y 0, 40, .inl n_lows)), (qn 4, .inl (Y 0, 40, .inl n_highs)), (qn 5, .inl (Y 0, 144, .inl n_joins)), (qn 6, .inl (Y 0, 12, .inl n_nears)), (qn 7, .inl (Y 1, 12, .inr (.inl n_linesAt)))] H := by rw [e_v15]; exact hP
                  have hD : va_D A [(qn 0, oX1 qn n_pointCount v13 n_tideNow n_age), (qn 1, .inl (Y 0, 40, .inl v15)), (qn 2, .inl (Y 0, 40, .inl n_figures)), (qn 3, .inl (Y 0, 40, .inl n_lows)), (qn 4, .inl (Y 0, 40, .inl n_highs)), (qn 5, .inl (Y 0, 144, .inl n_joins)), (qn 6, .inl (Y 0, 12, .inl n_nears)), (qn 7, .inl (Y 1, 12, .inr (.inl n_linesAt)))] := by rw [e_v15]; exact hD
                  refine lv_aload_n hx hb dX1_add_96 rfl (lv_at hl 1 rfl) ?_
                  refine va_get (D := G) (ci := 0) (v := .ref (qn 2)) (C := RX1) (T := TX1) (N := 11) hx hb hts inX1w hown hK hP 0 rfl rfl 1 (by decide) wd3 (fun _ h9 => h9) rfl dX1_add_97 ?_
                  refine lv_iload hx hb dX1_add_100 (lv_at hl 0 rfl) ?_
                  refine lv_iload_n hx hb dX1_add_102 rfl (lv_at hl 3 rfl) ?_
                  obtain ⟨g16, hf⟩ := gd hf
                  refine va_iast hx hb hK hP hD hS 2 0 rfl rfl g16 dX1_add_103 (fun H locs hP hD hS => ?_)
                  obtain ⟨v17, e_v17⟩ : ∃ z : Nat → Int32, z = upd n_figures n_lineCount.toNatClampNeg p2 := ⟨_, rfl⟩
                  have hf := nm_at hf e_v17
                  have hP : va_P G vwCl [(qn 0, oX1 qn n_pointCount v13 n_tideNow n_age), (qn 1, .inl (Y 0, 40, .inl v15)), (qn 2, .inl (Y 0, 40, .inl v17)), (qn 3, .inl (Y 0, 40, .inl n_lows)), (qn 4, .inl (Y 0, 40, .inl n_highs)), (qn 5, .inl (Y 0, 144, .inl n_joins)), (qn 6, .inl (Y 0, 12, .inl n_nears)), (qn 7, .inl (Y 1, 12, .inr (.inl n_linesAt)))] H := by rw [e_v17]; exact hP
                  have hD : va_D A [(qn 0, oX1 qn n_pointCount v13 n_tideNow n_age), (qn 1, .inl (Y 0, 40, .inl v15)), (qn 2, .inl (Y 0, 40, .inl v17)), (qn 3, .inl (Y 0, 40, .inl n_lows)), (qn 4, .inl (Y 0, 40, .inl n_highs)), (qn 5, .inl (Y 0, 144, .inl n_joins)), (qn 6, .inl (Y 0, 12, .inl n_nears)), (qn 7, .inl (Y 1, 12, .inr (.inl n_linesAt)))] := by rw [e_v17]; exact hD
                  refine lv_aload_n hx hb dX1_add_104 rfl (lv_at hl 1 rfl) ?_
                  refine va_get (D := G) (ci := 0) (v := .ref (qn 3)) (C := RX1) (T := TX1) (N := 11) hx hb hts inX1w hown hK hP 0 rfl rfl 2 (by decide) wd4 (fun _ h9 => h9) rfl dX1_add_105 ?_
                  refine lv_iload hx hb dX1_add_108 (lv_at hl 0 rfl) ?_
                  refine lv_iload_n hx hb dX1_add_110 rfl (lv_at hl 4 rfl) ?_
                  refine lv_iload hx hb dX1_add_111 (lv_at hl 5 rfl) ?_
                  refine va_mmin hx hb (hml.trans hl.1.symm) hown wd5 wd6 wd7 wd8 (Nat.le_of_ble_eq_true rfl) (Nat.le_of_ble_eq_true rfl) (Nat.zero_le _) (Nat.zero_le _) dX1_add_113 ?_
                  obtain ⟨g18, hf⟩ := gd hf
                  refine va_iast hx hb hK hP hD hS 3 0 rfl rfl g18 dX1_add_116 (fun H locs hP hD hS => ?_)
                  obtain ⟨v19, e_v19⟩ : ∃ z : Nat → Int32, z = upd n_lows n_lineCount.toNatClampNeg (if p4 < p3 then p4 else p3) := ⟨_, rfl⟩
                  have hf := nm_at hf e_v19
                  have hP : va_P G vwCl [(qn 0, oX1 qn n_pointCount v13 n_tideNow n_age), (qn 1, .inl (Y 0, 40, .inl v15)), (qn 2, .inl (Y 0, 40, .inl v17)), (qn 3, .inl (Y 0, 40, .inl v19)), (qn 4, .inl (Y 0, 40, .inl n_highs)), (qn 5, .inl (Y 0, 144, .inl n_joins)), (qn 6, .inl (Y 0, 12, .inl n_nears)), (qn 7, .inl (Y 1, 12, .inr (.inl n_linesAt)))] H := by rw [e_v19]; exact hP
                  have hD : va_D A [(qn 0, oX1 qn n_pointCount v13 n_tideNow n_age), (qn 1, .inl (Y 0, 40, .inl v15)), (qn 2, .inl (Y 0, 40, .inl v17)), (qn 3, .inl (Y 0, 40, .inl v19)), (qn 4, .inl (Y 0, 40, .inl n_highs)), (qn 5, .inl (Y 0, 144, .inl n_joins)), (qn 6, .inl (Y 0, 12, .inl n_nears)), (qn 7, .inl (Y 1, 12, .inr (.inl n_linesAt)))] := by rw [e_v19]; exact hD
                  refine lv_aload_n hx hb dX1_add_117 rfl (lv_at hl 1 rfl) ?_
                  refine va_get (D := G) (ci := 0) (v := .ref (qn 4)) (C := RX1) (T := TX1) (N := 11) hx hb hts inX1w hown hK hP 0 rfl rfl 3 (by decide) wd9 (fun _ h9 => h9) rfl dX1_add_118 ?_
                  refine lv_iload hx hb dX1_add_121 (lv_at hl 0 rfl) ?_
                  refine lv_iload_n hx hb dX1_add_123 rfl (lv_at hl 4 rfl) ?_
                  refine lv_iload hx hb dX1_add_124 (lv_at hl 5 rfl) ?_
                  refine va_mmax hx hb (hml.trans hl.1.symm) hown wd10 wd11 wd7 wd12 (Nat.le_of_ble_eq_true rfl) (Nat.le_of_ble_eq_true rfl) (Nat.zero_le _) (Nat.zero_le _) dX1_add_126 ?_
                  obtain ⟨g20, hf⟩ := gd hf
                  refine va_iast hx hb hK hP hD hS 4 0 rfl rfl g20 dX1_add_129 (fun H locs hP hD hS => ?_)
                  obtain ⟨v21, e_v21⟩ : ∃ z : Nat → Int32, z = upd n_highs n_lineCount.toNatClampNeg (if p3 < p4 then p4 else p3) := ⟨_, rfl⟩
                  have hf := nm_at hf e_v21
                  have hP : va_P G vwCl [(qn 0, oX1 qn n_pointCount v13 n_tideNow n_age), (qn 1, .inl (Y 0, 40, .inl v15)), (qn 2, .inl (Y 0, 40, .inl v17)), (qn 3, .inl (Y 0, 40, .inl v19)), (qn 4, .inl (Y 0, 40, .inl v21)), (qn 5, .inl (Y 0, 144, .inl n_joins)), (qn 6, .inl (Y 0, 12, .inl n_nears)), (qn 7, .inl (Y 1, 12, .inr (.inl n_linesAt)))] H := by rw [e_v21]; exact hP
                  have hD : va_D A [(qn 0, oX1 qn n_pointCount v13 n_tideNow n_age), (qn 1, .inl (Y 0, 40, .inl v15)), (qn 2, .inl (Y 0, 40, .inl v17)), (qn 3, .inl (Y 0, 40, .inl v19)), (qn 4, .inl (Y 0, 40, .inl v21)), (qn 5, .inl (Y 0, 144, .inl n_joins)), (qn 6, .inl (Y 0, 12, .inl n_nears)), (qn 7, .inl (Y 1, 12, .inr (.inl n_linesAt)))] := by rw [e_v21]; exact hD
                  refine lv_aload_n hx hb dX1_add_130 rfl (lv_at hl 1 rfl) ?_
                  refine lv_iload hx hb dX1_add_131 (lv_at hl 0 rfl) ?_
                  obtain ⟨w22, w23, w24, hc, hf⟩ := bd3 hf
                  refine cl_v (ws' := [(qn 0, oX1 qn n_pointCount v13 n_tideNow n_age), (qn 1, .inl (Y 0, 40, .inl v15)), (qn 2, .inl (Y 0, 40, .inl v17)), (qn 3, .inl (Y 0, 40, .inl v19)), (qn 4, .inl (Y 0, 40, .inl v21)), (qn 5, .inl (Y 0, 144, .inl w22)), (qn 6, .inl (Y 0, 12, .inl w23)), (qn 7, .inl (Y 1, 12, .inr (.inl w24)))]) (wr := [(qn 1, .inl (Y 0, 40, .inl v15)), (qn 2, .inl (Y 0, 40, .inl v17))]) (rnV (As := [.int n_lineCount]) (rest := []) ⟨hx, hb, hml, hown, hts⟩ (c_X1_linkOne l G Y H.size qn v19 v21 n_joins n_nears n_linesAt n_pointCount v13 n_tideNow n_age n_lineCount w22 w23 w24 hc) (cwV 1 hts gX1_add_X1_linkOne rfl rfl rfl (by decide +kernel) ⟨(Nat.le_of_ble_eq_true rfl), (Nat.le_of_ble_eq_true rfl)⟩) trivial okT hK hP hD [0, 3, 4, 5, 6, 7] rfl rfl (ci := 0) (q0 := 0) rfl rfl rfl rfl hl.1 rfl (Nat.le_of_ble_eq_true rfl) dX1_add_133) hP hD hS hA [0, 3, 4, 5, 6, 7] [1, 2] [2, 0, 1, 3, 4, 5, 6, 7] rfl rfl rfl (by decide) rfl rfl (fun H locs hP hD hS => ?_)
                  refine lv_aload_n hx hb dX1_add_136 rfl (lv_at hl 1 rfl) ?_
                  refine lv_dup hx hb dX1_add_137 rfl ?_
                  refine va_get (D := G) (ci := 0) (v := .int n_age) (C := RX1) (T := TX1) (N := 11) hx hb hts inX1w hown hK hP 0 rfl rfl 10 (by decide) wd13 (fun _ h9 => h9) rfl dX1_add_138 ?_
                  refine lv_iconst (v := 1) hx hb dX1_add_141 (by decide) ?_
                  refine lv_iadd hx hb dX1_add_142 ?_
                  refine lv_topi (fun v25 e_v25 => ?_)
                  have hf := nm_at hf e_v25
                  refine va_put (D := G) (ci := 0) (v := .int v25) (ty := .int) (C := RX1) (T := TX1) (N := 11) hx hb hts inX1w tyX1 tyX1_ok nmX1 hown hK hP hD hS 0 rfl rfl 10 (by decide) wd13 (fun _ h9 => h9) rfl (by decide +kernel) rfl rfl (Nat.le_of_ble_eq_true rfl) dX1_add_143 (fun H locs hP hD hS => ?_)
                  have hP : va_P G vwCl [(qn 0, oX1 qn n_pointCount v13 n_tideNow v25), (qn 1, .inl (Y 0, 40, .inl v15)), (qn 2, .inl (Y 0, 40, .inl v17)), (qn 3, .inl (Y 0, 40, .inl v19)), (qn 4, .inl (Y 0, 40, .inl v21)), (qn 5, .inl (Y 0, 144, .inl w22)), (qn 6, .inl (Y 0, 12, .inl w23)), (qn 7, .inl (Y 1, 12, .inr (.inl w24)))] H := hP
                  have hD : va_D A [(qn 0, oX1 qn n_pointCount v13 n_tideNow v25), (qn 1, .inl (Y 0, 40, .inl v15)), (qn 2, .inl (Y 0, 40, .inl v17)), (qn 3, .inl (Y 0, 40, .inl v19)), (qn 4, .inl (Y 0, 40, .inl v21)), (qn 5, .inl (Y 0, 144, .inl w22)), (qn 6, .inl (Y 0, 12, .inl w23)), (qn 7, .inl (Y 1, 12, .inr (.inl w24)))] := hD
                  refine lv_iload hx hb dX1_add_146 (lv_at hl 0 rfl) ?_
                  obtain ⟨e0, e1, e2, e3, e4, e5, e6, e7, e8, e9⟩ := rt10 hf
                  have hP : va_P G vwCl [(qn 0, oX1 qn n_pointCount o_n_lineCount n_tideNow o_n_age), (qn 1, .inl (Y 0, 40, .inl o_n_kinds)), (qn 2, .inl (Y 0, 40, .inl o_n_figures)), (qn 3, .inl (Y 0, 40, .inl o_n_lows)), (qn 4, .inl (Y 0, 40, .inl o_n_highs)), (qn 5, .inl (Y 0, 144, .inl o_n_joins)), (qn 6, .inl (Y 0, 12, .inl o_n_nears)), (qn 7, .inl (Y 1, 12, .inr (.inl o_n_linesAt)))] H := by rw [← e1, ← e2, ← e3, ← e4, ← e5, ← e6, ← e7, ← e8, ← e9]; exact hP
                  have hD : va_D A [(qn 0, oX1 qn n_pointCount o_n_lineCount n_tideNow o_n_age), (qn 1, .inl (Y 0, 40, .inl o_n_kinds)), (qn 2, .inl (Y 0, 40, .inl o_n_figures)), (qn 3, .inl (Y 0, 40, .inl o_n_lows)), (qn 4, .inl (Y 0, 40, .inl o_n_highs)), (qn 5, .inl (Y 0, 144, .inl o_n_joins)), (qn 6, .inl (Y 0, 12, .inl o_n_nears)), (qn 7, .inl (Y 1, 12, .inr (.inl o_n_linesAt)))] := by rw [← e1, ← e2, ← e3, ← e4, ← e5, ← e6, ← e7, ← e8, ← e9]; exact hD
                  exact W.iret (v := n_lineCount) hx hb hr (fun t ht hW => ⟨⟨n_lineCount, (), rfl, e0, by rw [ht]; exact hP, va_K.moved hW.alike hK, by rw [hAe]; exact hD⟩, hS.F ht⟩) hS.2.2 dX1_add_148
                · have hf := ie hf c12
                  refine lv_bipush (v := -4) hx hb dX1_add_69 (by decide) ?_
                  obtain ⟨e0, e1, e2, e3, e4, e5, e6, e7, e8, e9⟩ := rt10 hf
                  have hP : va_P G vwCl [(qn 0, oX1 qn n_pointCount o_n_lineCount n_tideNow o_n_age), (qn 1, .inl (Y 0, 40, .inl o_n_kinds)), (qn 2, .inl (Y 0, 40, .inl o_n_figures)), (qn 3, .inl (Y 0, 40, .inl o_n_lows)), (qn 4, .inl (Y 0, 40, .inl o_n_highs)), (qn 5, .inl (Y 0, 144, .inl o_n_joins)), (qn 6, .inl (Y 0, 12, .inl o_n_nears)), (qn 7, .inl (Y 1, 12, .inr (.inl o_n_linesAt)))] H := by rw [← e1, ← e2, ← e3, ← e4, ← e5, ← e6, ← e7, ← e8, ← e9]; exact hP
                  have hD : va_D A [(qn 0, oX1 qn n_pointCount o_n_lineCount n_tideNow o_n_age), (qn 1, .inl (Y 0, 40, .inl o_n_kinds)), (qn 2, .inl (Y 0, 40, .inl o_n_figures)), (qn 3, .inl (Y 0, 40, .inl o_n_lows)), (qn 4, .inl (Y 0, 40, .inl o_n_highs)), (qn 5, .inl (Y 0, 144, .inl o_n_joins)), (qn 6, .inl (Y 0, 12, .inl o_n_nears)), (qn 7, .inl (Y 1, 12, .inr (.inl o_n_linesAt)))] := by rw [← e1, ← e2, ← e3, ← e4, ← e5, ← e6, ← e7, ← e8, ← e9]; exact hD
                  exact W.iret (v := (-4 : Int32)) hx hb hr (fun t ht hW => ⟨⟨(-4 : Int32), (), rfl, e0, by rw [ht]; exact hP, va_K.moved hW.alike hK, by rw [hAe]; exact hD⟩, hS.F ht⟩) hS.2.2 dX1_add_71
              · have hf := ie hf c11
                refine lv_bipush (v := -3) hx hb dX1_add_57 (by decide) ?_
                obtain ⟨e0, e1, e2, e3, e4, e5, e6, e7, e8, e9⟩ := rt10 hf
                have hP : va_P G vwCl [(qn 0, oX1 qn n_pointCount o_n_lineCount n_tideNow o_n_age), (qn 1, .inl (Y 0, 40, .inl o_n_kinds)), (qn 2, .inl (Y 0, 40, .inl o_n_figures)), (qn 3, .inl (Y 0, 40, .inl o_n_lows)), (qn 4, .inl (Y 0, 40, .inl o_n_highs)), (qn 5, .inl (Y 0, 144, .inl o_n_joins)), (qn 6, .inl (Y 0, 12, .inl o_n_nears)), (qn 7, .inl (Y 1, 12, .inr (.inl o_n_linesAt)))] H := by rw [← e1, ← e2, ← e3, ← e4, ← e5, ← e6, ← e7, ← e8, ← e9]; exact hP
                have hD : va_D A [(qn 0, oX1 qn n_pointCount o_n_lineCount n_tideNow o_n_age), (qn 1, .inl (Y 0, 40, .inl o_n_kinds)), (qn 2, .inl (Y 0, 40, .inl o_n_figures)), (qn 3, .inl (Y 0, 40, .inl o_n_lows)), (qn 4, .inl (Y 0, 40, .inl o_n_highs)), (qn 5, .inl (Y 0, 144, .inl o_n_joins)), (qn 6, .inl (Y 0, 12, .inl o_n_nears)), (qn 7, .inl (Y 1, 12, .inr (.inl o_n_linesAt)))] := by rw [← e1, ← e2, ← e3, ← e4, ← e5, ← e6, ← e7, ← e8, ← e9]; exact hD
                exact W.iret (v := (-3 : Int32)) hx hb hr (fun t ht hW => ⟨⟨(-3 : Int32), (), rfl, e0, by rw [ht]; exact hP, va_K.moved hW.alike hK, by rw [hAe]; exact hD⟩, hS.F ht⟩) hS.2.2 dX1_add_59
            · have hf := it hf c9
              refine lv_bipush (v := -2) hx hb dX1_add_43 (by decide) ?_
              obtain ⟨e0, e1, e2, e3, e4, e5, e6, e7, e8, e9⟩ := rt10 hf
              have hP : va_P G vwCl [(qn 0, oX1 qn n_pointCount o_n_lineCount n_tideNow o_n_age), (qn 1, .inl (Y 0, 40, .inl o_n_kinds)), (qn 2, .inl (Y 0, 40, .inl o_n_figures)), (qn 3, .inl (Y 0, 40, .inl o_n_lows)), (qn 4, .inl (Y 0, 40, .inl o_n_highs)), (qn 5, .inl (Y 0, 144, .inl o_n_joins)), (qn 6, .inl (Y 0, 12, .inl o_n_nears)), (qn 7, .inl (Y 1, 12, .inr (.inl o_n_linesAt)))] H := by rw [← e1, ← e2, ← e3, ← e4, ← e5, ← e6, ← e7, ← e8, ← e9]; exact hP
              have hD : va_D A [(qn 0, oX1 qn n_pointCount o_n_lineCount n_tideNow o_n_age), (qn 1, .inl (Y 0, 40, .inl o_n_kinds)), (qn 2, .inl (Y 0, 40, .inl o_n_figures)), (qn 3, .inl (Y 0, 40, .inl o_n_lows)), (qn 4, .inl (Y 0, 40, .inl o_n_highs)), (qn 5, .inl (Y 0, 144, .inl o_n_joins)), (qn 6, .inl (Y 0, 12, .inl o_n_nears)), (qn 7, .inl (Y 1, 12, .inr (.inl o_n_linesAt)))] := by rw [← e1, ← e2, ← e3, ← e4, ← e5, ← e6, ← e7, ← e8, ← e9]; exact hD
              exact W.iret (v := (-2 : Int32)) hx hb hr (fun t ht hW => ⟨⟨(-2 : Int32), (), rfl, e0, by rw [ht]; exact hP, va_K.moved hW.alike hK, by rw [hAe]; exact hD⟩, hS.F ht⟩) hS.2.2 dX1_add_45
  exact E0 s.heap [] hP hD hS ls hl
-- X1_remove
set_option maxRecDepth 100000 in
set_option maxHeartbeats 4000000 in
theorem c_X1_remove (l : Launch) (G : va_G) (Y : Nat → ClassId) (sz : Nat) (qn : Nat → Nat) (n_kinds : Nat → Int32) (n_figures : Nat → Int32) (n_lows : Nat → Int32) (n_highs : Nat → Int32) (n_joins : Nat → Int32) (n_nears : Nat → Int32) (n_linesAt : Nat → Int64) (n_pointCount : Int32) (n_lineCount : Int32) (n_tideNow : Int32) (n_age : Int32) (p1 : Int32) (o_n_kinds : Nat → Int32) (o_n_figures : Nat → Int32) (o_n_lows : Nat → Int32) (o_n_highs : Nat → Int32) (o_n_joins : Nat → Int32) (o_n_nears : Nat → Int32) (o_n_linesAt : Nat → Int64) (o_n_lineCount : Int32) (o_n_age : Int32) (hf : f_X1_remove n_kinds n_figures n_lows n_highs n_joins n_nears n_linesAt n_lineCount n_age p1 = some (o_n_kinds, o_n_figures, o_n_lows, o_n_highs, o_n_joins, o_n_nears, o_n_linesAt, o_n_lineCount, o_n_age)) : Met l yX1_remove wsX1_remove (rmk 2 45) (va_Pc [.ref (qn 0), .int p1] (Pre G (tys Y) [(qn 0, oX1 qn n_pointCount n_lineCount n_tideNow n_age), (qn 1, .inl (Y 0, 40, .inl n_kinds)), (qn 2, .inl (Y 0, 40, .inl n_figures)), (qn 3, .inl (Y 0, 40, .inl n_lows)), (qn 4, .inl (Y 0, 40, .inl n_highs)), (qn 5, .inl (Y 0, 144, .inl n_joins)), (qn 6, .inl (Y 0, 12, .inl n_nears)), (qn 7, .inl (Y 1, 12, .inr (.inl n_linesAt)))] sz xT)) (va_Qv (fun (_ : Unit) => True) (Pst G (tys Y) [(qn 0, oX1 qn n_pointCount n_lineCount n_tideNow n_age), (qn 1, .inl (Y 0, 40, .inl n_kinds)), (qn 2, .inl (Y 0, 40, .inl n_figures)), (qn 3, .inl (Y 0, 40, .inl n_lows)), (qn 4, .inl (Y 0, 40, .inl n_highs)), (qn 5, .inl (Y 0, 144, .inl n_joins)), (qn 6, .inl (Y 0, 12, .inl n_nears)), (qn 7, .inl (Y 1, 12, .inr (.inl n_linesAt)))] sz [(qn 0, oX1 qn n_pointCount o_n_lineCount n_tideNow o_n_age), (qn 1, .inl (Y 0, 40, .inl o_n_kinds)), (qn 2, .inl (Y 0, 40, .inl o_n_figures)), (qn 3, .inl (Y 0, 40, .inl o_n_lows)), (qn 4, .inl (Y 0, 40, .inl o_n_highs)), (qn 5, .inl (Y 0, 144, .inl o_n_joins)), (qn 6, .inl (Y 0, 12, .inl o_n_nears)), (qn 7, .inl (Y 1, 12, .inr (.inl o_n_linesAt)))]) (va_A [(qn 0, oX1 qn n_pointCount n_lineCount n_tideNow n_age), (qn 1, .inl (Y 0, 40, .inl n_kinds)), (qn 2, .inl (Y 0, 40, .inl n_figures)), (qn 3, .inl (Y 0, 40, .inl n_lows)), (qn 4, .inl (Y 0, 40, .inl n_highs)), (qn 5, .inl (Y 0, 144, .inl n_joins)), (qn 6, .inl (Y 0, 12, .inl n_nears)), (qn 7, .inl (Y 1, 12, .inr (.inl n_linesAt)))] sz)) 0 0 (va_A [(qn 0, oX1 qn n_pointCount n_lineCount n_tideNow n_age), (qn 1, .inl (Y 0, 40, .inl n_kinds)), (qn 2, .inl (Y 0, 40, .inl n_figures)), (qn 3, .inl (Y 0, 40, .inl n_lows)), (qn 4, .inl (Y 0, 40, .inl n_highs)), (qn 5, .inl (Y 0, 144, .inl n_joins)), (qn 6, .inl (Y 0, 12, .inl n_nears)), (qn 7, .inl (Y 1, 12, .inr (.inl n_linesAt)))] sz) := by
  refine Met.ofW (cc := cX1_remove) (maxL := 3) (ret := none) (by decide) rfl ?_
  intro p e s m args below meth c s₁ B hml hv
  obtain ⟨rfl, hsz, hP, hK, hD0, hX⟩ := hv
  have hx := B.exec
  have hb := B.bytes
  have hr := B.returns
  have hts := atoms_spec (ws := wsX1_remove) B.pre
  have hown : s.vm.findClass RX1 = some m.cls := findClass_of_methodNamed B.named
  have hlocks := B.notSynchronized
  subst hsz
  have hD := hD0.self (sz := s.heap.size)
  generalize hAe : va_A [(qn 0, oX1 qn n_pointCount n_lineCount n_tideNow n_age), (qn 1, .inl (Y 0, 40, .inl n_kinds)), (qn 2, .inl (Y 0, 40, .inl n_figures)), (qn 3, .inl (Y 0, 40, .inl n_lows)), (qn 4, .inl (Y 0, 40, .inl n_highs)), (qn 5, .inl (Y 0, 144, .inl n_joins)), (qn 6, .inl (Y 0, 12, .inl n_nears)), (qn 7, .inl (Y 1, 12, .inr (.inl n_linesAt)))] s.heap.size = A at hD ⊢
  have hA : ∀ q : Nat, s.heap.size ≤ q → A q := fun q h => by rw [← hAe]; exact Or.inr h
  have hS : va_S A s.heap s.heap [] := va_S.rf
  have hP : va_P G vwCl [(qn 0, oX1 qn n_pointCount n_lineCount n_tideNow n_age), (qn 1, .inl (Y 0, 40, .inl n_kinds)), (qn 2, .inl (Y 0, 40, .inl n_figures)), (qn 3, .inl (Y 0, 40, .inl n_lows)), (qn 4, .inl (Y 0, 40, .inl n_highs)), (qn 5, .inl (Y 0, 144, .inl n_joins)), (qn 6, .inl (Y 0, 12, .inl n_nears)), (qn 7, .inl (Y 1, 12, .inr (.inl n_linesAt)))] s.heap := hP
  have wd1 : (Cond.fieldLink RX1 38 "PairedLines$Net" "lineCount" "I").before [.ref (qn 0), .int p1].toArray s = true := hts _ (List.mem_of_getElem? (i := 1) rfl)
  have wd2 : (Cond.fieldLink RX1 9 "PairedLines$Net" "kinds" "[I").before [.ref (qn 0), .int p1].toArray s = true := hts _ (List.mem_of_getElem? (i := 2) rfl)
  have wd3 : (Cond.fieldLink RX1 15 "PairedLines$Net" "figures" "[I").before [.ref (qn 0), .int p1].toArray s = true := hts _ (List.mem_of_getElem? (i := 3) rfl)
  have wd4 : (Cond.fieldLink RX1 18 "PairedLines$Net" "lows" "[I").before [.ref (qn 0), .int p1].toArray s = true := hts _ (List.mem_of_getElem? (i := 4) rfl)
  have wd5 : (Cond.fieldLink RX1 21 "PairedLines$Net" "highs" "[I").before [.ref (qn 0), .int p1].toArray s = true := hts _ (List.mem_of_getElem? (i := 5) rfl)
  have inX1w : ∀ w ∈ u_ws RX1 TX1 11, w ∈ wsX1_remove := fun w hw => List.mem_cons_of_mem _ (List.mem_append_right _ (hw))
  have hl := lv_entry ([.ref (qn 0), .int p1]) (n := 3) (Nat.le_of_ble_eq_true rfl)
  rw [lg_entry_eq]
  generalize (lg_sl ([.ref (qn 0), .int p1]) ++ List.replicate (3 - (lg_sl ([.ref (qn 0), .int p1])).length) Slot.unset).toArray = ls at hl ⊢
  have hl : lv_has ls 3 [(0, .ref (qn 0)), (1, .int p1)] := hl
  have B12 : ∀ (n12 : Nat), ∀ (b_n_kinds : Nat → Int32) (b_n_figures : Nat → Int32) (b_n_lows : Nat → Int32) (b_n_highs : Nat → Int32) (b_n_joins : Nat → Int32) (b_n_nears : Nat → Int32) (b_n_linesAt : Nat → Int64) (b_n_lineCount : Int32) (b_n_age : Int32) (x2 : Int32), f_X1_remove_b12 p1 n12 b_n_kinds b_n_figures b_n_lows b_n_highs b_n_joins b_n_nears b_n_linesAt b_n_lineCount b_n_age x2 = some (o_n_kinds, o_n_figures, o_n_lows, o_n_highs, o_n_joins, o_n_nears, o_n_linesAt, o_n_lineCount, o_n_age) → ∀ (H : Heap) (locs : List Loc), va_P G vwCl [(qn 0, oX1 qn n_pointCount b_n_lineCount n_tideNow b_n_age), (qn 1, .inl (Y 0, 40, .inl b_n_kinds)), (qn 2, .inl (Y 0, 40, .inl b_n_figures)), (qn 3, .inl (Y 0, 40, .inl b_n_lows)), (qn 4, .inl (Y 0, 40, .inl b_n_highs)), (qn 5, .inl (Y 0, 144, .inl b_n_joins)), (qn 6, .inl (Y 0, 12, .inl b_n_nears)), (qn 7, .inl (Y 1, 12, .inr (.inl b_n_linesAt)))] H → va_D A [(qn 0, oX1 qn n_pointCount b_n_lineCount n_tideNow b_n_age), (qn 1, .inl (Y 0, 40, .inl b_n_kinds)), (qn 2, .inl (Y 0, 40, .inl b_n_figures)), (qn 3, .inl (Y 0, 40, .inl b_n_lows)), (qn 4, .inl (Y 0, 40, .inl b_n_highs)), (qn 5, .inl (Y 0, 144, .inl b_n_joins)), (qn 6, .inl (Y 0, 12, .inl b_n_nears)), (qn 7, .inl (Y 1, 12, .inr (.inl b_n_linesAt)))] → va_S A s.heap H locs → ∀ (ls : Array Slot), lv_has ls 3 [(0, .ref (qn 0)), (2, .int x2)] → W p l e (headSpec wsX1_remove (rmk 2 45)).room s m [.ref (qn 0), .int p1].toArray below meth c H locs 0 0 (MQ below (va_Qv (fun (_ : Unit) => True) (Pst G (tys Y) [(qn 0, oX1 qn n_pointCount n_lineCount n_tideNow n_age), (qn 1, .inl (Y 0, 40, .inl n_kinds)), (qn 2, .inl (Y 0, 40, .inl n_figures)), (qn 3, .inl (Y 0, 40, .inl n_lows)), (qn 4, .inl (Y 0, 40, .inl n_highs)), (qn 5, .inl (Y 0, 144, .inl n_joins)), (qn 6, .inl (Y 0, 12, .inl n_nears)), (qn 7, .inl (Y 1, 12, .inr (.inl n_linesAt)))] s.heap.size [(qn 0, oX1 qn n_pointCount o_n_lineCount n_tideNow o_n_age), (qn 1, .inl (Y 0, 40, .inl o_n_kinds)), (qn 2, .inl (Y 0, 40, .inl o_n_figures)), (qn 3, .inl (Y 0, 40, .inl o_n_lows)), (qn 4, .inl (Y 0, 40, .inl o_n_highs)), (qn 5, .inl (Y 0, 144, .inl o_n_joins)), (qn 6, .inl (Y 0, 12, .inl o_n_nears)), (qn 7, .inl (Y 1, 12, .inr (.inl o_n_linesAt)))]) A) [.ref (qn 0), .int p1].toArray s 0 0 A) (F0 m 12 ls []) := by
    intro n12
    induction n12 with
    | zero =>
      intro b_n_kinds b_n_figures b_n_lows b_n_highs b_n_joins b_n_nears b_n_linesAt b_n_lineCount b_n_age x2 hf H locs hP hD hS ls hl
      exact no_none hf
    | succ n12 ih12 =>
      intro b_n_kinds b_n_figures b_n_lows b_n_highs b_n_joins b_n_nears b_n_linesAt b_n_lineCount b_n_age x2 hf H locs hP hD hS ls hl
      have hf : f_X1_remove_s12 p1 (f_X1_remove_b12 p1  n12) b_n_kinds b_n_figures b_n_lows b_n_highs b_n_joins b_n_nears b_n_linesAt b_n_lineCount b_n_age x2 = some (o_n_kinds, o_n_figures, o_n_lows, o_n_highs, o_n_joins, o_n_nears, o_n_linesAt, o_n_lineCount, o_n_age) := hf
      unfold f_X1_remove_s12 at hf
      refine lv_iload_n hx hb dX1_remove_12 rfl (lv_at hl 1 rfl) ?_
      refine lv_aload_n hx hb dX1_remove_13 rfl (lv_at hl 0 rfl) ?_
      refine va_get (D := G) (ci := 0) (v := .int b_n_lineCount) (C := RX1) (T := TX1) (N := 11) hx hb hts inX1w hown hK hP 0 rfl rfl 8 (by decide) wd1 (fun _ h9 => h9) rfl dX1_remove_14 ?_
      refine lv_icmp_ge (tgt := 82) hx hb dX1_remove_17 (by decide) (fun c1 => ?_) (fun c1 => ?_)
      · have hf := it hf c1
        refine lv_aload_n hx hb dX1_remove_82 rfl (lv_at hl 0 rfl) ?_
        obtain ⟨w2, w3, w4, w5, hc, hf⟩ := bd4 hf
        refine cl_v (ws' := [(qn 0, oX1 qn n_pointCount b_n_lineCount n_tideNow w5), (qn 1, .inl (Y 0, 40, .inl b_n_kinds)), (qn 2, .inl (Y 0, 40, .inl b_n_figures)), (qn 3, .inl (Y 0, 40, .inl b_n_lows)), (qn 4, .inl (Y 0, 40, .inl b_n_highs)), (qn 5, .inl (Y 0, 144, .inl w2)), (qn 6, .inl (Y 0, 12, .inl w3)), (qn 7, .inl (Y 1, 12, .inr (.inl w4)))]) (wr := [(qn 1, .inl (Y 0, 40, .inl b_n_kinds)), (qn 2, .inl (Y 0, 40, .inl b_n_figures))]) (rnV (As := []) (rest := []) ⟨hx, hb, hml, hown, hts⟩ (c_X1_link l G Y H.size qn b_n_lows b_n_highs b_n_joins b_n_nears b_n_linesAt n_pointCount b_n_lineCount n_tideNow b_n_age w2 w3 w4 w5 hc) (cwV 0 hts gX1_remove_X1_link rfl rfl rfl (by decide +kernel) ⟨(Nat.le_of_ble_eq_true rfl), (Nat.le_of_ble_eq_true rfl)⟩) trivial okT hK hP hD [0, 3, 4, 5, 6, 7] rfl rfl (ci := 0) (q0 := 0) rfl rfl rfl rfl hl.1 rfl (Nat.le_of_ble_eq_true rfl) dX1_remove_83) hP hD hS hA [0, 3, 4, 5, 6, 7] [1, 2] [2, 0, 1, 3, 4, 5, 6, 7] rfl rfl rfl (by decide) rfl rfl (fun H locs hP hD hS => ?_)
        obtain ⟨e0, e1, e2, e3, e4, e5, e6, e7, e8⟩ := rt9 hf
        have hP : va_P G vwCl [(qn 0, oX1 qn n_pointCount o_n_lineCount n_tideNow o_n_age), (qn 1, .inl (Y 0, 40, .inl o_n_kinds)), (qn 2, .inl (Y 0, 40, .inl o_n_figures)), (qn 3, .inl (Y 0, 40, .inl o_n_lows)), (qn 4, .inl (Y 0, 40, .inl o_n_highs)), (qn 5, .inl (Y 0, 144, .inl o_n_joins)), (qn 6, .inl (Y 0, 12, .inl o_n_nears)), (qn 7, .inl (Y 1, 12, .inr (.inl o_n_linesAt)))] H := by rw [← e0, ← e1, ← e2, ← e3, ← e4, ← e5, ← e6, ← e7, ← e8]; exact hP
        have hD : va_D A [(qn 0, oX1 qn n_pointCount o_n_lineCount n_tideNow o_n_age), (qn 1, .inl (Y 0, 40, .inl o_n_kinds)), (qn 2, .inl (Y 0, 40, .inl o_n_figures)), (qn 3, .inl (Y 0, 40, .inl o_n_lows)), (qn 4, .inl (Y 0, 40, .inl o_n_highs)), (qn 5, .inl (Y 0, 144, .inl o_n_joins)), (qn 6, .inl (Y 0, 12, .inl o_n_nears)), (qn 7, .inl (Y 1, 12, .inr (.inl o_n_linesAt)))] := by rw [← e0, ← e1, ← e2, ← e3, ← e4, ← e5, ← e6, ← e7, ← e8]; exact hD
        exact W.vret hx hb hr (fun t ht hW => ⟨⟨(), rfl, trivial, by rw [ht]; exact hP, va_K.moved hW.alike hK, by rw [hAe]; exact hD⟩, hS.F ht⟩) hS.2.2 dX1_remove_86
      · have hf := ie hf c1
        refine lv_aload_n hx hb dX1_remove_20 rfl (lv_at hl 0 rfl) ?_
        refine va_get (D := G) (ci := 0) (v := .ref (qn 1)) (C := RX1) (T := TX1) (N := 11) hx hb hts inX1w hown hK hP 0 rfl rfl 0 (by decide) wd2 (fun _ h9 => h9) rfl dX1_remove_21 ?_
        refine lv_iload_n hx hb dX1_remove_24 rfl (lv_at hl 1 rfl) ?_
        refine lv_aload_n hx hb dX1_remove_25 rfl (lv_at hl 0 rfl) ?_
        refine va_get (D := G) (ci := 0) (v := .ref (qn 1)) (C := RX1) (T := TX1) (N := 11) hx hb hts inX1w hown hK hP 0 rfl rfl 0 (by decide) wd2 (fun _ h9 => h9) rfl dX1_remove_26 ?_
        refine lv_iload_n hx hb dX1_remove_29 rfl (lv_at hl 1 rfl) ?_
        refine lv_iconst (v := 1) hx hb dX1_remove_30 (by decide) ?_
        refine lv_iadd hx hb dX1_remove_31 ?_
        obtain ⟨g6, hf⟩ := gd hf
        refine va_iald hx hb hK hP 1 0 rfl rfl g6 dX1_remove_32 ?_
        obtain ⟨g7, hf⟩ := gd hf
        refine va_iast hx hb hK hP hD hS 1 0 rfl rfl g7 dX1_remove_33 (fun H locs hP hD hS => ?_)
        obtain ⟨v8, e_v8⟩ : ∃ z : Nat → Int32, z = upd b_n_kinds x2.toNatClampNeg (b_n_kinds (x2 + (1 : Int32)).toNatClampNeg) := ⟨_, rfl⟩
        have hf := nm_at hf e_v8
        have hP : va_P G vwCl [(qn 0, oX1 qn n_pointCount b_n_lineCount n_tideNow b_n_age), (qn 1, .inl (Y 0, 40, .inl v8)), (qn 2, .inl (Y 0, 40, .inl b_n_figures)), (qn 3, .inl (Y 0, 40, .inl b_n_lows)), (qn 4, .inl (Y 0, 40, .inl b_n_highs)), (qn 5, .inl (Y 0, 144, .inl b_n_joins)), (qn 6, .inl (Y 0, 12, .inl b_n_nears)), (qn 7, .inl (Y 1, 12, .inr (.inl b_n_linesAt)))] H := by rw [e_v8]; exact hP
        have hD : va_D A [(qn 0, oX1 qn n_pointCount b_n_lineCount n_tideNow b_n_age), (qn 1, .inl (Y 0, 40, .inl v8)), (qn 2, .inl (Y 0, 40, .inl b_n_figures)), (qn 3, .inl (Y 0, 40, .inl b_n_lows)), (qn 4, .inl (Y 0, 40, .inl b_n_highs)), (qn 5, .inl (Y 0, 144, .inl b_n_joins)), (qn 6, .inl (Y 0, 12, .inl b_n_nears)), (qn 7, .inl (Y 1, 12, .inr (.inl b_n_linesAt)))] := by rw [e_v8]; exact hD
        refine lv_aload_n hx hb dX1_remove_34 rfl (lv_at hl 0 rfl) ?_
        refine va_get (D := G) (ci := 0) (v := .ref (qn 2)) (C := RX1) (T := TX1) (N := 11) hx hb hts inX1w hown hK hP 0 rfl rfl 1 (by decide) wd3 (fun _ h9 => h9) rfl dX1_remove_35 ?_
        refine lv_iload_n hx hb dX1_remove_38 rfl (lv_at hl 1 rfl) ?_
        refine lv_aload_n hx hb dX1_remove_39 rfl (lv_at hl 0 rfl) ?_
        refine va_get (D := G) (ci := 0) (v := .ref (qn 2)) (C := RX1) (T := TX1) (N := 11) hx hb hts inX1w hown hK hP 0 rfl rfl 1 (by decide) wd3 (fun _ h9 => h9) rfl dX1_remove_40 ?_
        refine lv_iload_n hx hb dX1_remove_43 rfl (lv_at hl 1 rfl) ?_
        refine lv_iconst (v := 1) hx hb dX1_remove_44 (by decide) ?_
        refine lv_iadd hx hb dX1_remove_45 ?_
        obtain ⟨g9, hf⟩ := gd hf
        refine va_iald hx hb hK hP 2 0 rfl rfl g9 dX1_remove_46 ?_
        obtain ⟨g10, hf⟩ := gd hf
        refine va_iast hx hb hK hP hD hS 2 0 rfl rfl g10 dX1_remove_47 (fun H locs hP hD hS => ?_)
        obtain ⟨v11, e_v11⟩ : ∃ z : Nat → Int32, z = upd b_n_figures x2.toNatClampNeg (b_n_figures (x2 + (1 : Int32)).toNatClampNeg) := ⟨_, rfl⟩
        have hf := nm_at hf e_v11
        have hP : va_P G vwCl [(qn 0, oX1 qn n_pointCount b_n_lineCount n_tideNow b_n_age), (qn 1, .inl (Y 0, 40, .inl v8)), (qn 2, .inl (Y 0, 40, .inl v11)), (qn 3, .inl (Y 0, 40, .inl b_n_lows)), (qn 4, .inl (Y 0, 40, .inl b_n_highs)), (qn 5, .inl (Y 0, 144, .inl b_n_joins)), (qn 6, .inl (Y 0, 12, .inl b_n_nears)), (qn 7, .inl (Y 1, 12, .inr (.inl b_n_linesAt)))] H := by rw [e_v11]; exact hP
        have hD : va_D A [(qn 0, oX1 qn n_pointCount b_n_lineCount n_tideNow b_n_age), (qn 1, .inl (Y 0, 40, .inl v8)), (qn 2, .inl (Y 0, 40, .inl v11)), (qn 3, .inl (Y 0, 40, .inl b_n_lows)), (qn 4, .inl (Y 0, 40, .inl b_n_highs)), (qn 5, .inl (Y 0, 144, .inl b_n_joins)), (qn 6, .inl (Y 0, 12, .inl b_n_nears)), (qn 7, .inl (Y 1, 12, .inr (.inl b_n_linesAt)))] := by rw [e_v11]; exact hD
        refine lv_aload_n hx hb dX1_remove_48 rfl (lv_at hl 0 rfl) ?_
        refine va_get (D := G) (ci := 0) (v := .ref (qn 3)) (C := RX1) (T := TX1) (N := 11) hx hb hts inX1w hown hK hP 0 rfl rfl 2 (by decide) wd4 (fun _ h9 => h9) rfl dX1_remove_49 ?_
        refine lv_iload_n hx hb dX1_remove_52 rfl (lv_at hl 1 rfl) ?_
        refine lv_aload_n hx hb dX1_remove_53 rfl (lv_at hl 0 rfl) ?_
        refine va_get (D := G) (ci := 0) (v := .ref (qn 3)) (C := RX1) (T := TX1) (N := 11) hx hb hts inX1w hown hK hP 0 rfl rfl 2 (by decide) wd4 (fun _ h9 => h9) rfl dX1_remove_54 ?_
        refine lv_iload_n hx hb dX1_remove_57 rfl (lv_at hl 1 rfl) ?_
        refine lv_iconst (v := 1) hx hb dX1_remove_58 (by decide) ?_
        refine lv_iadd hx hb dX1_remove_59 ?_
        obtain ⟨g12, hf⟩ := gd hf
        refine va_iald hx hb hK hP 3 0 rfl rfl g12 dX1_remove_60 ?_
        obtain ⟨g13, hf⟩ := gd hf
        refine va_iast hx hb hK hP hD hS 3 0 rfl rfl g13 dX1_remove_61 (fun H locs hP hD hS => ?_)
        obtain ⟨v14, e_v14⟩ : ∃ z : Nat → Int32, z = upd b_n_lows x2.toNatClampNeg (b_n_lows (x2 + (1 : Int32)).toNatClampNeg) := ⟨_, rfl⟩
        have hf := nm_at hf e_v14
        have hP : va_P G vwCl [(qn 0, oX1 qn n_pointCount b_n_lineCount n_tideNow b_n_age), (qn 1, .inl (Y 0, 40, .inl v8)), (qn 2, .inl (Y 0, 40, .inl v11)), (qn 3, .inl (Y 0, 40, .inl v14)), (qn 4, .inl (Y 0, 40, .inl b_n_highs)), (qn 5, .inl (Y 0, 144, .inl b_n_joins)), (qn 6, .inl (Y 0, 12, .inl b_n_nears)), (qn 7, .inl (Y 1, 12, .inr (.inl b_n_linesAt)))] H := by rw [e_v14]; exact hP
        have hD : va_D A [(qn 0, oX1 qn n_pointCount b_n_lineCount n_tideNow b_n_age), (qn 1, .inl (Y 0, 40, .inl v8)), (qn 2, .inl (Y 0, 40, .inl v11)), (qn 3, .inl (Y 0, 40, .inl v14)), (qn 4, .inl (Y 0, 40, .inl b_n_highs)), (qn 5, .inl (Y 0, 144, .inl b_n_joins)), (qn 6, .inl (Y 0, 12, .inl b_n_nears)), (qn 7, .inl (Y 1, 12, .inr (.inl b_n_linesAt)))] := by rw [e_v14]; exact hD
        refine lv_aload_n hx hb dX1_remove_62 rfl (lv_at hl 0 rfl) ?_
        refine va_get (D := G) (ci := 0) (v := .ref (qn 4)) (C := RX1) (T := TX1) (N := 11) hx hb hts inX1w hown hK hP 0 rfl rfl 3 (by decide) wd5 (fun _ h9 => h9) rfl dX1_remove_63 ?_
        refine lv_iload_n hx hb dX1_remove_66 rfl (lv_at hl 1 rfl) ?_
        refine lv_aload_n hx hb dX1_remove_67 rfl (lv_at hl 0 rfl) ?_
        refine va_get (D := G) (ci := 0) (v := .ref (qn 4)) (C := RX1) (T := TX1) (N := 11) hx hb hts inX1w hown hK hP 0 rfl rfl 3 (by decide) wd5 (fun _ h9 => h9) rfl dX1_remove_68 ?_
        refine lv_iload_n hx hb dX1_remove_71 rfl (lv_at hl 1 rfl) ?_
        refine lv_iconst (v := 1) hx hb dX1_remove_72 (by decide) ?_
        refine lv_iadd hx hb dX1_remove_73 ?_
        obtain ⟨g15, hf⟩ := gd hf
        refine va_iald hx hb hK hP 4 0 rfl rfl g15 dX1_remove_74 ?_
        obtain ⟨g16, hf⟩ := gd hf
        refine va_iast hx hb hK hP hD hS 4 0 rfl rfl g16 dX1_remove_75 (fun H locs hP hD hS => ?_)
        obtain ⟨v17, e_v17⟩ : ∃ z : Nat → Int32, z = upd b_n_highs x2.toNatClampNeg (b_n_highs (x2 + (1 : Int32)).toNatClampNeg) := ⟨_, rfl⟩
        have hf := nm_at hf e_v17
        have hP : va_P G vwCl [(qn 0, oX1 qn n_pointCount b_n_lineCount n_tideNow b_n_age), (qn 1, .inl (Y 0, 40, .inl v8)), (qn 2, .inl (Y 0, 40, .inl v11)), (qn 3, .inl (Y 0, 40, .inl v14)), (qn 4, .inl (Y 0, 40, .inl v17)), (qn 5, .inl (Y 0, 144, .inl b_n_joins)), (qn 6, .inl (Y 0, 12, .inl b_n_nears)), (qn 7, .inl (Y 1, 12, .inr (.inl b_n_linesAt)))] H := by rw [e_v17]; exact hP
        have hD : va_D A [(qn 0, oX1 qn n_pointCount b_n_lineCount n_tideNow b_n_age), (qn 1, .inl (Y 0, 40, .inl v8)), (qn 2, .inl (Y 0, 40, .inl v11)), (qn 3, .inl (Y 0, 40, .inl v14)), (qn 4, .inl (Y 0, 40, .inl v17)), (qn 5, .inl (Y 0, 144, .inl b_n_joins)), (qn 6, .inl (Y 0, 12, .inl b_n_nears)), (qn 7, .inl (Y 1, 12, .inr (.inl b_n_linesAt)))] := by rw [e_v17]; exact hD
        obtain ⟨v18, e_v18⟩ : ∃ z : Int32, z = (x2 + 1) := ⟨_, rfl⟩
        have hf := nm_at hf e_v18
        refine lv_iinc (v := v18) (lv' := [(2, .int v18), (0, .ref (qn 0))]) hx hb dX1_remove_76 hl (k := 1) rfl (by rw [e_v18]; rfl) (by decide) rfl (fun ls hl => ?_)
        refine lv_goto (tgt := 12) hx hb dX1_remove_79 (by decide) ?_
        exact ih12 v8 v11 v14 v17 b_n_joins b_n_nears b_n_linesAt b_n_lineCount b_n_age v18 hf _ _ hP hD hS ls (lv_sub hl [1, 0] rfl)
  have E0 : ∀ (H : Heap) (locs : List Loc), va_P G vwCl [(qn 0, oX1 qn n_pointCount n_lineCount n_tideNow n_age), (qn 1, .inl (Y 0, 40, .inl n_kinds)), (qn 2, .inl (Y 0, 40, .inl n_figures)), (qn 3, .inl (Y 0, 40, .inl n_lows)), (qn 4, .inl (Y 0, 40, .inl n_highs)), (qn 5, .inl (Y 0, 144, .inl n_joins)), (qn 6, .inl (Y 0, 12, .inl n_nears)), (qn 7, .inl (Y 1, 12, .inr (.inl n_linesAt)))] H → va_D A [(qn 0, oX1 qn n_pointCount n_lineCount n_tideNow n_age), (qn 1, .inl (Y 0, 40, .inl n_kinds)), (qn 2, .inl (Y 0, 40, .inl n_figures)), (qn 3, .inl (Y 0, 40, .inl n_lows)), (qn 4, .inl (Y 0, 40, .inl n_highs)), (qn 5, .inl (Y 0, 144, .inl n_joins)), (qn 6, .inl (Y 0, 12, .inl n_nears)), (qn 7, .inl (Y 1, 12, .inr (.inl n_linesAt)))] → va_S A s.heap H locs → ∀ (ls : Array Slot), lv_has ls 3 [(0, .ref (qn 0)), (1, .int p1)] → W p l e (headSpec wsX1_remove (rmk 2 45)).room s m [.ref (qn 0), .int p1].toArray below meth c H locs 0 0 (MQ below (va_Qv (fun (_ : Unit) => True) (Pst G (tys Y) [(qn 0, oX1 qn n_pointCount n_lineCount n_tideNow n_age), (qn 1, .inl (Y 0, 40, .inl n_kinds)), (qn 2, .inl (Y 0, 40, .inl n_figures)), (qn 3, .inl (Y 0, 40, .inl n_lows)), (qn 4, .inl (Y 0, 40, .inl n_highs)), (qn 5, .inl (Y 0, 144, .inl n_joins)), (qn 6, .inl (Y 0, 12, .inl n_nears)), (qn 7, .inl (Y 1, 12, .inr (.inl n_linesAt)))] s.heap.size [(qn 0, oX1 qn n_pointCount o_n_lineCount n_tideNow o_n_age), (qn 1, .inl (Y 0, 40, .inl o_n_kinds)), (qn 2, .inl (Y 0, 40, .inl o_n_figures)), (qn 3, .inl (Y 0, 40, .inl o_n_lows)), (qn 4, .inl (Y 0, 40, .inl o_n_highs)), (qn 5, .inl (Y 0, 144, .inl o_n_joins)), (qn 6, .inl (Y 0, 12, .inl o_n_nears)), (qn 7, .inl (Y 1, 12, .inr (.inl o_n_linesAt)))]) A) [.ref (qn 0), .int p1].toArray s 0 0 A) (F0 m 0 ls []) := by
    intro H locs hP hD hS ls hl
    unfold f_X1_remove at hf
    refine lv_aload_n hx hb dX1_remove_0 rfl (lv_at hl 0 rfl) ?_
    refine lv_dup hx hb dX1_remove_1 rfl ?_
    refine va_get (D := G) (ci := 0) (v := .int n_lineCount) (C := RX1) (T := TX1) (N := 11) hx hb hts inX1w hown hK hP 0 rfl rfl 8 (by decide) wd1 (fun _ h9 => h9) rfl dX1_remove_2 ?_
    refine lv_iconst (v := 1) hx hb dX1_remove_5 (by decide) ?_
    refine lv_isub hx hb dX1_remove_6 ?_
    refine lv_topi (fun v19 e_v19 => ?_)
    have hf := nm_at hf e_v19
    refine va_put (D := G) (ci := 0) (v := .int v19) (ty := .int) (C := RX1) (T := TX1) (N := 11) hx hb hts inX1w tyX1 tyX1_ok nmX1 hown hK hP hD hS 0 rfl rfl 8 (by decide) wd1 (fun _ h9 => h9) rfl (by decide +kernel) rfl rfl (Nat.le_of_ble_eq_true rfl) dX1_remove_7 (fun H locs hP hD hS => ?_)
    have hP : va_P G vwCl [(qn 0, oX1 qn n_pointCount v19 n_tideNow n_age), (qn 1, .inl (Y 0, 40, .inl n_kinds)), (qn 2, .inl (Y 0, 40, .inl n_figures)), (qn 3, .inl (Y 0, 40, .inl n_lows)), (qn 4, .inl (Y 0, 40, .inl n_highs)), (qn 5, .inl (Y 0, 144, .inl n_joins)), (qn 6, .inl (Y 0, 12, .inl n_nears)), (qn 7, .inl (Y 1, 12, .inr (.inl n_linesAt)))] H := hP
    have hD : va_D A [(qn 0, oX1 qn n_pointCount v19 n_tideNow n_age), (qn 1, .inl (Y 0, 40, .inl n_kinds)), (qn 2, .inl (Y 0, 40, .inl n_figures)), (qn 3, .inl (Y 0, 40, .inl n_lows)), (qn 4, .inl (Y 0, 40, .inl n_highs)), (qn 5, .inl (Y 0, 144, .inl n_joins)), (qn 6, .inl (Y 0, 12, .inl n_nears)), (qn 7, .inl (Y 1, 12, .inr (.inl n_linesAt)))] := hD
    refine lv_iload_n hx hb dX1_remove_10 rfl (lv_at hl 1 rfl) ?_
    refine lv_istore_n (lv' := [(2, .int p1), (0, .ref (qn 0)), (1, .int p1)]) hx hb dX1_remove_11 rfl hl (by decide) rfl (fun ls hl => ?_)
    exact B12 70 n_kinds n_figures n_lows n_highs n_joins n_nears n_linesAt v19 n_age p1 hf _ _ hP hD hS ls (lv_sub hl [1, 0] rfl)
  exact E0 s.heap [] hP hD hS ls hl
-- X1_become
set_option maxRecDepth 100000 in
set_option maxHeartbeats 4000000 in
theorem c_X1_become (l : Launch) (G : va_G) (Y : Nat → ClassId) (sz : Nat) (qn : Nat → Nat) (qk : Nat → Nat) (n_kinds : Nat → Int32) (n_figures : Nat → Int32) (n_lows : Nat → Int32) (n_highs : Nat → Int32) (n_joins : Nat → Int32) (n_nears : Nat → Int32) (n_linesAt : Nat → Int64) (n_pointCount : Int32) (n_lineCount : Int32) (n_tideNow : Int32) (n_age : Int32) (k_kinds : Nat → Int32) (k_figures : Nat → Int32) (k_lows : Nat → Int32) (k_highs : Nat → Int32) (k_pointCount : Int32) (k_lineCount : Int32) (k_tideNow : Int32) (k_age : Int32) (o_n_kinds : Nat → Int32) (o_n_figures : Nat → Int32) (o_n_lows : Nat → Int32) (o_n_highs : Nat → Int32) (o_n_joins : Nat → Int32) (o_n_nears : Nat → Int32) (o_n_linesAt : Nat → Int64) (o_n_pointCount : Int32) (o_n_lineCount : Int32) (o_n_tideNow : Int32) (o_n_age : Int32) (hf : f_X1_become n_kinds n_figures n_lows n_highs n_joins n_nears n_linesAt n_pointCount n_lineCount n_tideNow n_age k_kinds k_figures k_lows k_highs k_pointCount k_lineCount k_tideNow = some (o_n_kinds, o_n_figures, o_n_lows, o_n_highs, o_n_joins, o_n_nears, o_n_linesAt, o_n_pointCount, o_n_lineCount, o_n_tideNow, o_n_age)) : Met l yX1_become wsX1_become (rmk 2 60) (va_Pc [.ref (qn 0), .ref (qk 0)] (Pre G (tys Y) [(qn 0, oX1 qn n_pointCount n_lineCount n_tideNow n_age), (qn 1, .inl (Y 0, 40, .inl n_kinds)), (qn 2, .inl (Y 0, 40, .inl n_figures)), (qn 3, .inl (Y 0, 40, .inl n_lows)), (qn 4, .inl (Y 0, 40, .inl n_highs)), (qn 5, .inl (Y 0, 144, .inl n_joins)), (qn 6, .inl (Y 0, 12, .inl n_nears)), (qn 7, .inl (Y 1, 12, .inr (.inl n_linesAt))), (qk 0, oX1 qk k_pointCount k_lineCount k_tideNow k_age), (qk 1, .inl (Y 0, 40, .inl k_kinds)), (qk 2, .inl (Y 0, 40, .inl k_figures)), (qk 3, .inl (Y 0, 40, .inl k_lows)), (qk 4, .inl (Y 0, 40, .inl k_highs))] sz xT)) (va_Qv (fun (_ : Unit) => True) (Pst G (tys Y) [(qn 0, oX1 qn n_pointCount n_lineCount n_tideNow n_age), (qn 1, .inl (Y 0, 40, .inl n_kinds)), (qn 2, .inl (Y 0, 40, .inl n_figures)), (qn 3, .inl (Y 0, 40, .inl n_lows)), (qn 4, .inl (Y 0, 40, .inl n_highs)), (qn 5, .inl (Y 0, 144, .inl n_joins)), (qn 6, .inl (Y 0, 12, .inl n_nears)), (qn 7, .inl (Y 1, 12, .inr (.inl n_linesAt))), (qk 0, oX1 qk k_pointCount k_lineCount k_tideNow k_age), (qk 1, .inl (Y 0, 40, .inl k_kinds)), (qk 2, .inl (Y 0, 40, .inl k_figures)), (qk 3, .inl (Y 0, 40, .inl k_lows)), (qk 4, .inl (Y 0, 40, .inl k_highs))] sz [(qn 0, oX1 qn o_n_pointCount o_n_lineCount o_n_tideNow o_n_age), (qn 1, .inl (Y 0, 40, .inl o_n_kinds)), (qn 2, .inl (Y 0, 40, .inl o_n_figures)), (qn 3, .inl (Y 0, 40, .inl o_n_lows)), (qn 4, .inl (Y 0, 40, .inl o_n_highs)), (qn 5, .inl (Y 0, 144, .inl o_n_joins)), (qn 6, .inl (Y 0, 12, .inl o_n_nears)), (qn 7, .inl (Y 1, 12, .inr (.inl o_n_linesAt))), (qk 0, oX1 qk k_pointCount k_lineCount k_tideNow k_age), (qk 1, .inl (Y 0, 40, .inl k_kinds)), (qk 2, .inl (Y 0, 40, .inl k_figures)), (qk 3, .inl (Y 0, 40, .inl k_lows)), (qk 4, .inl (Y 0, 40, .inl k_highs))]) (va_A [(qn 0, oX1 qn n_pointCount n_lineCount n_tideNow n_age), (qn 1, .inl (Y 0, 40, .inl n_kinds)), (qn 2, .inl (Y 0, 40, .inl n_figures)), (qn 3, .inl (Y 0, 40, .inl n_lows)), (qn 4, .inl (Y 0, 40, .inl n_highs)), (qn 5, .inl (Y 0, 144, .inl n_joins)), (qn 6, .inl (Y 0, 12, .inl n_nears)), (qn 7, .inl (Y 1, 12, .inr (.inl n_linesAt))), (qk 0, oX1 qk k_pointCount k_lineCount k_tideNow k_age), (qk 1, .inl (Y 0, 40, .inl k_kinds)), (qk 2, .inl (Y 0, 40, .inl k_figures)), (qk 3, .inl (Y 0, 40, .inl k_lows)), (qk 4, .inl (Y 0, 40, .inl k_highs))] sz)) 0 0 (va_A [(qn 0, oX1 qn n_pointCount n_lineCount n_tideNow n_age), (qn 1, .inl (Y 0, 40, .inl n_kinds)), (qn 2, .inl (Y 0, 40, .inl n_figures)), (qn 3, .inl (Y 0, 40, .inl n_lows)), (qn 4, .inl (Y 0, 40, .inl n_highs)), (qn 5, .inl (Y 0, 144, .inl n_joins)), (qn 6, .inl (Y 0, 12, .inl n_nears)), (qn 7, .inl (Y 1, 12, .inr (.inl n_linesAt))), (qk 0, oX1 qk k_pointCount k_lineCount k_tideNow k_age), (qk 1, .inl (Y 0, 40, .inl k_kinds)), (qk 2, .inl (Y 0, 40, .inl k_figures)), (qk 3, .inl (Y 0, 40, .inl k_lows)), (qk 4, .inl (Y 0, 40, .inl k_highs))] sz) := by
  refine Met.ofW (cc := cX1_become) (maxL := 2) (ret := none) (by decide) rfl ?_
  intro p e s m args below meth c s₁ B hml hv
  obtain ⟨rfl, hsz, hP, hK, hD0, hX⟩ := hv
  have hx := B.exec
  have hb := B.bytes
  have hr := B.returns
  have hts := atoms_spec (ws := wsX1_become) B.pre
  have hown : s.vm.findClass RX1 = some m.cls := findClass_of_methodNamed B.named
  have hlocks := B.notSynchronized
  subst hsz
  have hD := hD0.self (sz := s.heap.size)
  generalize hAe : va_A [(qn 0, oX1 qn n_pointCount n_lineCount n_tideNow n_age), (qn 1, .inl (Y 0, 40, .inl n_kinds)), (qn 2, .inl (Y 0, 40, .inl n_figures)), (qn 3, .inl (Y 0, 40, .inl n_lows)), (qn 4, .inl (Y 0, 40, .inl n_highs)), (qn 5, .inl (Y 0, 144, .inl n_joins)), (qn 6, .inl (Y 0, 12, .inl n_nears)), (qn 7, .inl (Y 1, 12, .inr (.inl n_linesAt))), (qk 0, oX1 qk k_pointCount k_lineCount k_tideNow k_age), (qk 1, .inl (Y 0, 40, .inl k_kinds)), (qk 2, .inl (Y 0, 40, .inl k_figures)), (qk 3, .inl (Y 0, 40, .inl k_lows)), (qk 4, .inl (Y 0, 40, .inl k_highs))] s.heap.size = A at hD ⊢
  have hA : ∀ q : Nat, s.heap.size ≤ q → A q := fun q h => by rw [← hAe]; exact Or.inr h
  have hS : va_S A s.heap s.heap [] := va_S.rf
  have hP : va_P G vwCl [(qn 0, oX1 qn n_pointCount n_lineCount n_tideNow n_age), (qn 1, .inl (Y 0, 40, .inl n_kinds)), (qn 2, .inl (Y 0, 40, .inl n_figures)), (qn 3, .inl (Y 0, 40, .inl n_lows)), (qn 4, .inl (Y 0, 40, .inl n_highs)), (qn 5, .inl (Y 0, 144, .inl n_joins)), (qn 6, .inl (Y 0, 12, .inl n_nears)), (qn 7, .inl (Y 1, 12, .inr (.inl n_linesAt))), (qk 0, oX1 qk k_pointCount k_lineCount k_tideNow k_age), (qk 1, .inl (Y 0, 40, .inl k_kinds)), (qk 2, .inl (Y 0, 40, .inl k_figures)), (qk 3, .inl (Y 0, 40, .inl k_lows)), (qk 4, .inl (Y 0, 40, .inl k_highs))] s.heap := hP
  have wd1 : (Cond.fieldLink RX1 9 "PairedLines$Net" "kinds" "[I").before [.ref (qn 0), .ref (qk 0)].toArray s = true := hts _ (List.mem_of_getElem? (i := 1) rfl)
  have wd2 : (Cond.methodLink RX1 74 arraycopyName).before [.ref (qn 0), .ref (qk 0)].toArray s = true := hts _ (List.mem_of_getElem? (i := 2) rfl)
  have wd3 : (Cond.native arraycopyName).before [.ref (qn 0), .ref (qk 0)].toArray s = true := hts _ (List.mem_of_getElem? (i := 3) rfl)
  have wd4 : (Cond.static arraycopyName).before [.ref (qn 0), .ref (qk 0)].toArray s = true := hts _ (List.mem_of_getElem? (i := 4) rfl)
  have wd5 : (Cond.initialized "java/lang/System").before [.ref (qn 0), .ref (qk 0)].toArray s = true := hts _ (List.mem_of_getElem? (i := 5) rfl)
  have wd6 : (Cond.fieldLink RX1 15 "PairedLines$Net" "figures" "[I").before [.ref (qn 0), .ref (qk 0)].toArray s = true := hts _ (List.mem_of_getElem? (i := 6) rfl)
  have wd7 : (Cond.fieldLink RX1 18 "PairedLines$Net" "lows" "[I").before [.ref (qn 0), .ref (qk 0)].toArray s = true := hts _ (List.mem_of_getElem? (i := 7) rfl)
  have wd8 : (Cond.fieldLink RX1 21 "PairedLines$Net" "highs" "[I").before [.ref (qn 0), .ref (qk 0)].toArray s = true := hts _ (List.mem_of_getElem? (i := 8) rfl)
  have wd9 : (Cond.fieldLink RX1 34 "PairedLines$Net" "pointCount" "I").before [.ref (qn 0), .ref (qk 0)].toArray s = true := hts _ (List.mem_of_getElem? (i := 9) rfl)
  have wd10 : (Cond.fieldLink RX1 38 "PairedLines$Net" "lineCount" "I").before [.ref (qn 0), .ref (qk 0)].toArray s = true := hts _ (List.mem_of_getElem? (i := 10) rfl)
  have wd11 : (Cond.fieldLink RX1 41 "PairedLines$Net" "tideNow" "I").before [.ref (qn 0), .ref (qk 0)].toArray s = true := hts _ (List.mem_of_getElem? (i := 11) rfl)
  have inX1w : ∀ w ∈ u_ws RX1 TX1 11, w ∈ wsX1_become := fun w hw => List.mem_cons_of_mem _ (List.mem_append_right _ (hw))
  have hl := lv_entry ([.ref (qn 0), .ref (qk 0)]) (n := 2) (Nat.le_of_ble_eq_true rfl)
  rw [lg_entry_eq]
  generalize (lg_sl ([.ref (qn 0), .ref (qk 0)]) ++ List.replicate (2 - (lg_sl ([.ref (qn 0), .ref (qk 0)])).length) Slot.unset).toArray = ls at hl ⊢
  have hl : lv_has ls 2 [(0, .ref (qn 0)), (1, .ref (qk 0))] := hl
  have E0 : ∀ (H : Heap) (locs : List Loc), va_P G vwCl [(qn 0, oX1 qn n_pointCount n_lineCount n_tideNow n_age), (qn 1, .inl (Y 0, 40, .inl n_kinds)), (qn 2, .inl (Y 0, 40, .inl n_figures)), (qn 3, .inl (Y 0, 40, .inl n_lows)), (qn 4, .inl (Y 0, 40, .inl n_highs)), (qn 5, .inl (Y 0, 144, .inl n_joins)), (qn 6, .inl (Y 0, 12, .inl n_nears)), (qn 7, .inl (Y 1, 12, .inr (.inl n_linesAt))), (qk 0, oX1 qk k_pointCount k_lineCount k_tideNow k_age), (qk 1, .inl (Y 0, 40, .inl k_kinds)), (qk 2, .inl (Y 0, 40, .inl k_figures)), (qk 3, .inl (Y 0, 40, .inl k_lows)), (qk 4, .inl (Y 0, 40, .inl k_highs))] H → va_D A [(qn 0, oX1 qn n_pointCount n_lineCount n_tideNow n_age), (qn 1, .inl (Y 0, 40, .inl n_kinds)), (qn 2, .inl (Y 0, 40, .inl n_figures)), (qn 3, .inl (Y 0, 40, .inl n_lows)), (qn 4, .inl (Y 0, 40, .inl n_highs)), (qn 5, .inl (Y 0, 144, .inl n_joins)), (qn 6, .inl (Y 0, 12, .inl n_nears)), (qn 7, .inl (Y 1, 12, .inr (.inl n_linesAt))), (qk 0, oX1 qk k_pointCount k_lineCount k_tideNow k_age), (qk 1, .inl (Y 0, 40, .inl k_kinds)), (qk 2, .inl (Y 0, 40, .inl k_figures)), (qk 3, .inl (Y 0, 40, .inl k_lows)), (qk 4, .inl (Y 0, 40, .inl k_highs))] → va_S A s.heap H locs → ∀ (ls : Array Slot), lv_has ls 2 [(0, .ref (qn 0)), (1, .ref (qk 0))] → W p l e (headSpec wsX1_become (rmk 2 60)).room s m [.ref (qn 0), .ref (qk 0)].toArray below meth c H locs 0 0 (MQ below (va_Qv (fun (_ : Unit) => True) (Pst G (tys Y) [(qn 0, oX1 qn n_pointCount n_lineCount n_tideNow n_age), (qn 1, .inl (Y 0, 40, .inl n_kinds)), (qn 2, .inl (Y 0, 40, .inl n_figures)), (qn 3, .inl (Y 0, 40, .inl n_lows)), (qn 4, .inl (Y 0, 40, .inl n_highs)), (qn 5, .inl (Y 0, 144, .inl n_joins)), (qn 6, .inl (Y 0, 12, .inl n_nears)), (qn 7, .inl (Y 1, 12, .inr (.inl n_linesAt))), (qk 0, oX1 qk k_pointCount k_lineCount k_tideNow k_age), (qk 1, .inl (Y 0, 40, .inl k_kinds)), (qk 2, .inl (Y 0, 40, .inl k_figures)), (qk 3, .inl (Y 0, 40, .inl k_lows)), (qk 4, .inl (Y 0, 40, .inl k_highs))] s.heap.size [(qn 0, oX1 qn o_n_pointCount o_n_lineCount o_n_tideNow o_n_age), (qn 1, .inl (Y 0, 40, .inl o_n_kinds)), (qn 2, .inl (Y 0, 40, .inl o_n_figures)), (qn 3, .inl (Y 0, 40, .inl o_n_lows)), (qn 4, .inl (Y 0, 40, .inl o_n_highs)), (qn 5, .inl (Y 0, 144, .inl o_n_joins)), (qn 6, .inl (Y 0, 12, .inl o_n_nears)), (qn 7, .inl (Y 1, 12, .inr (.inl o_n_linesAt))), (qk 0, oX1 qk k_pointCount k_lineCount k_tideNow k_age), (qk 1, .inl (Y 0, 40, .inl k_kinds)), (qk 2, .inl (Y 0, 40, .inl k_figures)), (qk 3, .inl (Y 0, 40, .inl k_lows)), (qk 4, .inl (Y 0, 40, .inl k_highs))]) A) [.ref (qn 0), .ref (qk 0)].toArray s 0 0 A) (F0 m 0 ls []) := by
    intro H locs hP hD hS ls hl
    unfold f_X1_become at hf
    refine lv_aload_n hx hb dX1_become_0 rfl (lv_at hl 1 rfl) ?_
    refine va_get (D := G) (ci := 0) (v := .ref (qk 1)) (C := RX1) (T := TX1) (N := 11) hx hb hts inX1w hown hK hP 8 rfl rfl 0 (by decide) wd1 (fun _ h9 => h9) rfl dX1_become_1 ?_
    refine lv_iconst (v := 0) hx hb dX1_become_4 (by decide) ?_
    refine lv_aload_n hx hb dX1_become_5 rfl (lv_at hl 0 rfl) ?_
    refine va_get (D := G) (ci := 0) (v := .ref (qn 1)) (C := RX1) (T := TX1) (N := 11) hx hb hts inX1w hown hK hP 0 rfl rfl 0 (by decide) wd1 (fun _ h9 => h9) rfl dX1_become_6 ?_
    refine lv_iconst (v := 0) hx hb dX1_become_9 (by decide) ?_
    refine lv_bipush (v := 40) hx hb dX1_become_10 (by decide) ?_
    obtain ⟨⟨g1, g2, g3, g4, g5⟩, hf⟩ := gp hf
    refine va_copyi hx hb (hml.trans hl.1.symm) hown wd2 wd3 wd4 wd5 hK hP hD hS 9 1 0 0 rfl rfl rfl rfl rfl g1 g2 g3 g4 g5 (fun _ _ => rfl) (Nat.le_of_ble_eq_true rfl) (Nat.le_of_ble_eq_true rfl) dX1_become_12 (fun H locs hP hD hS => ?_)
    obtain ⟨v7, e_v7⟩ : ∃ z : Nat → Int32, z = va_cpy k_kinds n_kinds (0 : Int32).toNatClampNeg (0 : Int32).toNatClampNeg (40 : Int32).toNatClampNeg := ⟨_, rfl⟩
    have hf := nm_at hf e_v7
    have hP : va_P G vwCl [(qn 0, oX1 qn n_pointCount n_lineCount n_tideNow n_age), (qn 1, .inl (Y 0, 40, .inl v7)), (qn 2, .inl (Y 0, 40, .inl n_figures)), (qn 3, .inl (Y 0, 40, .inl n_lows)), (qn 4, .inl (Y 0, 40, .inl n_highs)), (qn 5, .inl (Y 0, 144, .inl n_joins)), (qn 6, .inl (Y 0, 12, .inl n_nears)), (qn 7, .inl (Y 1, 12, .inr (.inl n_linesAt))), (qk 0, oX1 qk k_pointCount k_lineCount k_tideNow k_age), (qk 1, .inl (Y 0, 40, .inl k_kinds)), (qk 2, .inl (Y 0, 40, .inl k_figures)), (qk 3, .inl (Y 0, 40, .inl k_lows)), (qk 4, .inl (Y 0, 40, .inl k_highs))] H := by rw [e_v7]; exact hP
    have hD : va_D A [(qn 0, oX1 qn n_pointCount n_lineCount n_tideNow n_age), (qn 1, .inl (Y 0, 40, .inl v7)), (qn 2, .inl (Y 0, 40, .inl n_figures)), (qn 3, .inl (Y 0, 40, .inl n_lows)), (qn 4, .inl (Y 0, 40, .inl n_highs)), (qn 5, .inl (Y 0, 144, .inl n_joins)), (qn 6, .inl (Y 0, 12, .inl n_nears)), (qn 7, .inl (Y 1, 12, .inr (.inl n_linesAt))), (qk 0, oX1 qk k_pointCount k_lineCount k_tideNow k_age), (qk 1, .inl (Y 0, 40, .inl k_kinds)), (qk 2, .inl (Y 0, 40, .inl k_figures)), (qk 3, .inl (Y 0, 40, .inl k_lows)), (qk 4, .inl (Y 0, 40, .inl k_highs))] := by rw [e_v7]; exact hD
    refine lv_aload_n hx hb dX1_become_15 rfl (lv_at hl 1 rfl) ?_
    refine va_get (D := G) (ci := 0) (v := .ref (qk 2)) (C := RX1) (T := TX1) (N := 11) hx hb hts inX1w hown hK hP 8 rfl rfl 1 (by decide) wd6 (fun _ h9 => h9) rfl dX1_become_16 ?_
    refine lv_iconst (v := 0) hx hb dX1_become_19 (by decide) ?_
    refine lv_aload_n hx hb dX1_become_20 rfl (lv_at hl 0 rfl) ?_
    refine va_get (D := G) (ci := 0) (v := .ref (qn 2)) (C := RX1) (T := TX1) (N := 11) hx hb hts inX1w hown hK hP 0 rfl rfl 1 (by decide) wd6 (fun _ h9 => h9) rfl dX1_become_21 ?_
    refine lv_iconst (v := 0) hx hb dX1_become_24 (by decide) ?_
    refine lv_bipush (v := 40) hx hb dX1_become_25 (by decide) ?_
    obtain ⟨⟨g8, g9, g10, g11, g12⟩, hf⟩ := gp hf
    refine va_copyi hx hb (hml.trans hl.1.symm) hown wd2 wd3 wd4 wd5 hK hP hD hS 10 2 0 0 rfl rfl rfl rfl rfl g8 g9 g10 g11 g12 (fun _ _ => rfl) (Nat.le_of_ble_eq_true rfl) (Nat.le_of_ble_eq_true rfl) dX1_become_27 (fun H locs hP hD hS => ?_)
    obtain ⟨v14, e_v14⟩ : ∃ z : Nat → Int32, z = va_cpy k_figures n_figures (0 : Int32).toNatClampNeg (0 : Int32).toNatClampNeg (40 : Int32).toNatClampNeg := ⟨_, rfl⟩
    have hf := nm_at hf e_v14
    have hP : va_P G vwCl [(qn 0, oX1 qn n_pointCount n_lineCount n_tideNow n_age), (qn 1, .inl (Y 0, 40, .inl v7)), (qn 2, .inl (Y 0, 40, .inl v14)), (qn 3, .inl (Y 0, 40, .inl n_lows)), (qn 4, .inl (Y 0, 40, .inl n_highs)), (qn 5, .inl (Y 0, 144, .inl n_joins)), (qn 6, .inl (Y 0, 12, .inl n_nears)), (qn 7, .inl (Y 1, 12, .inr (.inl n_linesAt))), (qk 0, oX1 qk k_pointCount k_lineCount k_tideNow k_age), (qk 1, .inl (Y 0, 40, .inl k_kinds)), (qk 2, .inl (Y 0, 40, .inl k_figures)), (qk 3, .inl (Y 0, 40, .inl k_lows)), (qk 4, .inl (Y 0, 40, .inl k_highs))] H := by rw [e_v14]; exact hP
    have hD : va_D A [(qn 0, oX1 qn n_pointCount n_lineCount n_tideNow n_age), (qn 1, .inl (Y 0, 40, .inl v7)), (qn 2, .inl (Y 0, 40, .inl v14)), (qn 3, .inl (Y 0, 40, .inl n_lows)), (qn 4, .inl (Y 0, 40, .inl n_highs)), (qn 5, .inl (Y 0, 144, .inl n_joins)), (qn 6, .inl (Y 0, 12, .inl n_nears)), (qn 7, .inl (Y 1, 12, .inr (.inl n_linesAt))), (qk 0, oX1 qk k_pointCount k_lineCount k_tideNow k_age), (qk 1, .inl (Y 0, 40, .inl k_kinds)), (qk 2, .inl (Y 0, 40, .inl k_figures)), (qk 3, .inl (Y 0, 40, .inl k_lows)), (qk 4, .inl (Y 0, 40, .inl k_highs))] := by rw [e_v14]; exact hD
    refine lv_aload_n hx hb dX1_become_30 rfl (lv_at hl 1 rfl) ?_
    refine va_get (D := G) (ci := 0) (v := .ref (qk 3)) (C := RX1) (T := TX1) (N := 11) hx hb hts inX1w hown hK hP 8 rfl rfl 2 (by decide) wd7 (fun _ h9 => h9) rfl dX1_become_31 ?_
    refine lv_iconst (v := 0) hx hb dX1_become_34 (by decide) ?_
    refine lv_aload_n hx hb dX1_become_35 rfl (lv_at hl 0 rfl) ?_
    refine va_get (D := G) (ci := 0) (v := .ref (qn 3)) (C := RX1) (T := TX1) (N := 11) hx hb hts inX1w hown hK hP 0 rfl rfl 2 (by decide) wd7 (fun _ h9 => h9) rfl dX1_become_36 ?_
    refine lv_iconst (v := 0) hx hb dX1_become_39 (by decide) ?_
    refine lv_bipush (v := 40) hx hb dX1_become_40 (by decide) ?_
    obtain ⟨⟨g15, g16, g17, g18, g19⟩, hf⟩ := gp hf
    refine va_copyi hx hb (hml.trans hl.1.symm) hown wd2 wd3 wd4 wd5 hK hP hD hS 11 3 0 0 rfl rfl rfl rfl rfl g15 g16 g17 g18 g19 (fun _ _ => rfl) (Nat.le_of_ble_eq_true rfl) (Nat.le_of_ble_eq_true rfl) dX1_become_42 (fun H locs hP hD hS => ?_)
    obtain ⟨v21, e_v21⟩ : ∃ z : Nat → Int32, z = va_cpy k_lows n_lows (0 : Int32).toNatClampNeg (0 : Int32).toNatClampNeg (40 : Int32).toNatClampNeg := ⟨_, rfl⟩
    have hf := nm_at hf e_v21
    have hP : va_P G vwCl [(qn 0, oX1 qn n_pointCount n_lineCount n_tideNow n_age), (qn 1, .inl (Y 0, 40, .inl v7)), (qn 2, .inl (Y 0, 40, .inl v14)), (qn 3, .inl (Y 0, 40, .inl v21)), (qn 4, .inl (Y 0, 40, .inl n_highs)), (qn 5, .inl (Y 0, 144, .inl n_joins)), (qn 6, .inl (Y 0, 12, .inl n_nears)), (qn 7, .inl (Y 1, 12, .inr (.inl n_linesAt))), (qk 0, oX1 qk k_pointCount k_lineCount k_tideNow k_age), (qk 1, .inl (Y 0, 40, .inl k_kinds)), (qk 2, .inl (Y 0, 40, .inl k_figures)), (qk 3, .inl (Y 0, 40, .inl k_lows)), (qk 4, .inl (Y 0, 40, .inl k_highs))] H := by rw [e_v21]; exact hP
    have hD : va_D A [(qn 0, oX1 qn n_pointCount n_lineCount n_tideNow n_age), (qn 1, .inl (Y 0, 40, .inl v7)), (qn 2, .inl (Y 0, 40, .inl v14)), (qn 3, .inl (Y 0, 40, .inl v21)), (qn 4, .inl (Y 0, 40, .inl n_highs)), (qn 5, .inl (Y 0, 144, .inl n_joins)), (qn 6, .inl (Y 0, 12, .inl n_nears)), (qn 7, .inl (Y 1, 12, .inr (.inl n_linesAt))), (qk 0, oX1 qk k_pointCount k_lineCount k_tideNow k_age), (qk 1, .inl (Y 0, 40, .inl k_kinds)), (qk 2, .inl (Y 0, 40, .inl k_figures)), (qk 3, .inl (Y 0, 40, .inl k_lows)), (qk 4, .inl (Y 0, 40, .inl k_highs))] := by rw [e_v21]; exact hD
    refine lv_aload_n hx hb dX1_become_45 rfl (lv_at hl 1 rfl) ?_
    refine va_get (D := G) (ci := 0) (v := .ref (qk 4)) (C := RX1) (T := TX1) (N := 11) hx hb hts inX1w hown hK hP 8 rfl rfl 3 (by decide) wd8 (fun _ h9 => h9) rfl dX1_become_46 ?_
    refine lv_iconst (v := 0) hx hb dX1_become_49 (by decide) ?_
    refine lv_aload_n hx hb dX1_become_50 rfl (lv_at hl 0 rfl) ?_
    refine va_get (D := G) (ci := 0) (v := .ref (qn 4)) (C := RX1) (T := TX1) (N := 11) hx hb hts inX1w hown hK hP 0 rfl rfl 3 (by decide) wd8 (fun _ h9 => h9) rfl dX1_become_51 ?_
    refine lv_iconst (v := 0) hx hb dX1_become_54 (by decide) ?_
    refine lv_bipush (v := 40) hx hb dX1_become_55 (by decide) ?_
    obtain ⟨⟨g22, g23, g24, g25, g26⟩, hf⟩ := gp hf
    refine va_copyi hx hb (hml.trans hl.1.symm) hown wd2 wd3 wd4 wd5 hK hP hD hS 12 4 0 0 rfl rfl rfl rfl rfl g22 g23 g24 g25 g26 (fun _ _ => rfl) (Nat.le_of_ble_eq_true rfl) (Nat.le_of_ble_eq_true rfl) dX1_become_57 (fun H locs hP hD hS => ?_)
    obtain ⟨v28, e_v28⟩ : ∃ z : Nat → Int32, z = va_cpy k_highs n_highs (0 : Int32).toNatClampNeg (0 : Int32).toNatClampNeg (40 : Int32).toNatClampNeg := ⟨_, rfl⟩
    have hf := nm_at hf e_v28
    have hP : va_P G vwCl [(qn 0, oX1 qn n_pointCount n_lineCount n_tideNow n_age), (qn 1, .inl (Y 0, 40, .inl v7)), (qn 2, .inl (Y 0, 40, .inl v14)), (qn 3, .inl (Y 0, 40, .inl v21)), (qn 4, .inl (Y 0, 40, .inl v28)), (qn 5, .inl (Y 0, 144, .inl n_joins)), (qn 6, .inl (Y 0, 12, .inl n_nears)), (qn 7, .inl (Y 1, 12, .inr (.inl n_linesAt))), (qk 0, oX1 qk k_pointCount k_lineCount k_tideNow k_age), (qk 1, .inl (Y 0, 40, .inl k_kinds)), (qk 2, .inl (Y 0, 40, .inl k_figures)), (qk 3, .inl (Y 0, 40, .inl k_lows)), (qk 4, .inl (Y 0, 40, .inl k_highs))] H := by rw [e_v28]; exact hP
    have hD : va_D A [(qn 0, oX1 qn n_pointCount n_lineCount n_tideNow n_age), (qn 1, .inl (Y 0, 40, .inl v7)), (qn 2, .inl (Y 0, 40, .inl v14)), (qn 3, .inl (Y 0, 40, .inl v21)), (qn 4, .inl (Y 0, 40, .inl v28)), (qn 5, .inl (Y 0, 144, .inl n_joins)), (qn 6, .inl (Y 0, 12, .inl n_nears)), (qn 7, .inl (Y 1, 12, .inr (.inl n_linesAt))), (qk 0, oX1 qk k_pointCount k_lineCount k_tideNow k_age), (qk 1, .inl (Y 0, 40, .inl k_kinds)), (qk 2, .inl (Y 0, 40, .inl k_figures)), (qk 3, .inl (Y 0, 40, .inl k_lows)), (qk 4, .inl (Y 0, 40, .inl k_highs))] := by rw [e_v28]; exact hD
    refine lv_aload_n hx hb dX1_become_60 rfl (lv_at hl 0 rfl) ?_
    refine lv_aload_n hx hb dX1_become_61 rfl (lv_at hl 1 rfl) ?_
    refine va_get (D := G) (ci := 0) (v := .int k_pointCount) (C := RX1) (T := TX1) (N := 11) hx hb hts inX1w hown hK hP 8 rfl rfl 7 (by decide) wd9 (fun _ h9 => h9) rfl dX1_become_62 ?_
    refine va_put (D := G) (ci := 0) (v := .int k_pointCount) (ty := .int) (C := RX1) (T := TX1) (N := 11) hx hb hts inX1w tyX1 tyX1_ok nmX1 hown hK hP hD hS 0 rfl rfl 7 (by decide) wd9 (fun _ h9 => h9) rfl (by decide +kernel) rfl rfl (Nat.le_of_ble_eq_true rfl) dX1_become_65 (fun H locs hP hD hS => ?_)
    have hP : va_P G vwCl [(qn 0, oX1 qn k_pointCount n_lineCount n_tideNow n_age), (qn 1, .inl (Y 0, 40, .inl v7)), (qn 2, .inl (Y 0, 40, .inl v14)), (qn 3, .inl (Y 0, 40, .inl v21)), (qn 4, .inl (Y 0, 40, .inl v28)), (qn 5, .inl (Y 0, 144, .inl n_joins)), (qn 6, .inl (Y 0, 12, .inl n_nears)), (qn 7, .inl (Y 1, 12, .inr (.inl n_linesAt))), (qk 0, oX1 qk k_pointCount k_lineCount k_tideNow k_age), (qk 1, .inl (Y 0, 40, .inl k_kinds)), (qk 2, .inl (Y 0, 40, .inl k_figures)), (qk 3, .inl (Y 0, 40, .inl k_lows)), (qk 4, .inl (Y 0, 40, .inl k_highs))] H := hP
    have hD : va_D A [(qn 0, oX1 qn k_pointCount n_lineCount n_tideNow n_age), (qn 1, .inl (Y 0, 40, .inl v7)), (qn 2, .inl (Y 0, 40, .inl v14)), (qn 3, .inl (Y 0, 40, .inl v21)), (qn 4, .inl (Y 0, 40, .inl v28)), (qn 5, .inl (Y 0, 144, .inl n_joins)), (qn 6, .inl (Y 0, 12, .inl n_nears)), (qn 7, .inl (Y 1, 12, .inr (.inl n_linesAt))), (qk 0, oX1 qk k_pointCount k_lineCount k_tideNow k_age), (qk 1, .inl (Y 0, 40, .inl k_kinds)), (qk 2, .inl (Y 0, 40, .inl k_figures)), (qk 3, .inl (Y 0, 40, .inl k_lows)), (qk 4, .inl (Y 0, 40, .inl k_highs))] := hD
    refine lv_aload_n hx hb dX1_become_68 rfl (lv_at hl 0 rfl) ?_
    refine lv_aload_n hx hb dX1_become_69 rfl (lv_at hl 1 rfl) ?_
    refine va_get (D := G) (ci := 0) (v := .int k_lineCount) (C := RX1) (T := TX1) (N := 11) hx hb hts inX1w hown hK hP 8 rfl rfl 8 (by decide) wd10 (fun _ h9 => h9) rfl dX1_become_70 ?_
    refine va_put (D := G) (ci := 0) (v := .int k_lineCount) (ty := .int) (C := RX1) (T := TX1) (N := 11) hx hb hts inX1w tyX1 tyX1_ok nmX1 hown hK hP hD hS 0 rfl rfl 8 (by decide) wd10 (fun _ h9 => h9) rfl (by decide +kernel) rfl rfl (Nat.le_of_ble_eq_true rfl) dX1_become_73 (fun H locs hP hD hS => ?_)
    have hP : va_P G vwCl [(qn 0, oX1 qn k_pointCount k_lineCount n_tideNow n_age), (qn 1, .inl (Y 0, 40, .inl v7)), (qn 2, .inl (Y 0, 40, .inl v14)), (qn 3, .inl (Y 0, 40, .inl v21)), (qn 4, .inl (Y 0, 40, .inl v28)), (qn 5, .inl (Y 0, 144, .inl n_joins)), (qn 6, .inl (Y 0, 12, .inl n_nears)), (qn 7, .inl (Y 1, 12, .inr (.inl n_linesAt))), (qk 0, oX1 qk k_pointCount k_lineCount k_tideNow k_age), (qk 1, .inl (Y 0, 40, .inl k_kinds)), (qk 2, .inl (Y 0, 40, .inl k_figures)), (qk 3, .inl (Y 0, 40, .inl k_lows)), (qk 4, .inl (Y 0, 40, .inl k_highs))] H := hP
    have hD : va_D A [(qn 0, oX1 qn k_pointCount k_lineCount n_tideNow n_age), (qn 1, .inl (Y 0, 40, .inl v7)), (qn 2, .inl (Y 0, 40, .inl v14)), (qn 3, .inl (Y 0, 40, .inl v21)), (qn 4, .inl (Y 0, 40, .inl v28)), (qn 5, .inl (Y 0, 144, .inl n_joins)), (qn 6, .inl (Y 0, 12, .inl n_nears)), (qn 7, .inl (Y 1, 12, .inr (.inl n_linesAt))), (qk 0, oX1 qk k_pointCount k_lineCount k_tideNow k_age), (qk 1, .inl (Y 0, 40, .inl k_kinds)), (qk 2, .inl (Y 0, 40, .inl k_figures)), (qk 3, .inl (Y 0, 40, .inl k_lows)), (qk 4, .inl (Y 0, 40, .inl k_highs))] := hD
    refine lv_aload_n hx hb dX1_become_76 rfl (lv_at hl 0 rfl) ?_
    refine lv_aload_n hx hb dX1_become_77 rfl (lv_at hl 1 rfl) ?_
    refine va_get (D := G) (ci := 0) (v := .int k_tideNow) (C := RX1) (T := TX1) (N := 11) hx hb hts inX1w hown hK hP 8 rfl rfl 9 (by decide) wd11 (fun _ h9 => h9) rfl dX1_become_78 ?_
    refine va_put (D := G) (ci := 0) (v := .int k_tideNow) (ty := .int) (C := RX1) (T := TX1) (N := 11) hx hb hts inX1w tyX1 tyX1_ok nmX1 hown hK hP hD hS 0 rfl rfl 9 (by decide) wd11 (fun _ h9 => h9) rfl (by decide +kernel) rfl rfl (Nat.le_of_ble_eq_true rfl) dX1_become_81 (fun H locs hP hD hS => ?_)
    have hP : va_P G vwCl [(qn 0, oX1 qn k_pointCount k_lineCount k_tideNow n_age), (qn 1, .inl (Y 0, 40, .inl v7)), (qn 2, .inl (Y 0, 40, .inl v14)), (qn 3, .inl (Y 0, 40, .inl v21)), (qn 4, .inl (Y 0, 40, .inl v28)), (qn 5, .inl (Y 0, 144, .inl n_joins)), (qn 6, .inl (Y 0, 12, .inl n_nears)), (qn 7, .inl (Y 1, 12, .inr (.inl n_linesAt))), (qk 0, oX1 qk k_pointCount k_lineCount k_tideNow k_age), (qk 1, .inl (Y 0, 40, .inl k_kinds)), (qk 2, .inl (Y 0, 40, .inl k_figures)), (qk 3, .inl (Y 0, 40, .inl k_lows)), (qk 4, .inl (Y 0, 40, .inl k_highs))] H := hP
    have hD : va_D A [(qn 0, oX1 qn k_pointCount k_lineCount k_tideNow n_age), (qn 1, .inl (Y 0, 40, .inl v7)), (qn 2, .inl (Y 0, 40, .inl v14)), (qn 3, .inl (Y 0, 40, .inl v21)), (qn 4, .inl (Y 0, 40, .inl v28)), (qn 5, .inl (Y 0, 144, .inl n_joins)), (qn 6, .inl (Y 0, 12, .inl n_nears)), (qn 7, .inl (Y 1, 12, .inr (.inl n_linesAt))), (qk 0, oX1 qk k_pointCount k_lineCount k_tideNow k_age), (qk 1, .inl (Y 0, 40, .inl k_kinds)), (qk 2, .inl (Y 0, 40, .inl k_figures)), (qk 3, .inl (Y 0, 40, .inl k_lows)), (qk 4, .inl (Y 0, 40, .inl k_highs))] := hD
    refine lv_aload_n hx hb dX1_become_84 rfl (lv_at hl 0 rfl) ?_
    obtain ⟨w29, w30, w31, w32, hc, hf⟩ := bd4 hf
    refine cl_v (ws' := [(qn 0, oX1 qn k_pointCount k_lineCount k_tideNow w32), (qn 1, .inl (Y 0, 40, .inl v7)), (qn 2, .inl (Y 0, 40, .inl v14)), (qn 3, .inl (Y 0, 40, .inl v21)), (qn 4, .inl (Y 0, 40, .inl v28)), (qn 5, .inl (Y 0, 144, .inl w29)), (qn 6, .inl (Y 0, 12, .inl w30)), (qn 7, .inl (Y 1, 12, .inr (.inl w31))), (qk 0, oX1 qk k_pointCount k_lineCount k_tideNow k_age), (qk 1, .inl (Y 0, 40, .inl k_kinds)), (qk 2, .inl (Y 0, 40, .inl k_figures)), (qk 3, .inl (Y 0, 40, .inl k_lows)), (qk 4, .inl (Y 0, 40, .inl k_highs))]) (wr := [(qn 1, .inl (Y 0, 40, .inl v7)), (qn 2, .inl (Y 0, 40, .inl v14)), (qk 0, oX1 qk k_pointCount k_lineCount k_tideNow k_age), (qk 1, .inl (Y 0, 40, .inl k_kinds)), (qk 2, .inl (Y 0, 40, .inl k_figures)), (qk 3, .inl (Y 0, 40, .inl k_lows)), (qk 4, .inl (Y 0, 40, .inl k_highs))]) (rnV (As := []) (rest := []) ⟨hx, hb, hml, hown, hts⟩ (c_X1_link l G Y H.size qn v21 v28 n_joins n_nears n_linesAt k_pointCount k_lineCount k_tideNow n_age w29 w30 w31 w32 hc) (cwV 0 hts gX1_become_X1_link rfl rfl rfl (by decide +kernel) ⟨(Nat.le_of_ble_eq_true rfl), (Nat.le_of_ble_eq_true rfl)⟩) trivial okT hK hP hD [0, 3, 4, 5, 6, 7] rfl rfl (ci := 0) (q0 := 0) rfl rfl rfl rfl hl.1 rfl (Nat.le_of_ble_eq_true rfl) dX1_become_85) hP hD hS hA [0, 3, 4, 5, 6, 7] [1, 2, 8, 9, 10, 11, 12] [7, 0, 1, 8, 9, 10, 11, 12, 2, 3, 4, 5, 6] rfl rfl rfl (by decide) rfl rfl (fun H locs hP hD hS => ?_)
    obtain ⟨e0, e1, e2, e3, e4, e5, e6, e7, e8, e9, e10⟩ := rt11 hf
    have hP : va_P G vwCl [(qn 0, oX1 qn o_n_pointCount o_n_lineCount o_n_tideNow o_n_age), (qn 1, .inl (Y 0, 40, .inl o_n_kinds)), (qn 2, .inl (Y 0, 40, .inl o_n_figures)), (qn 3, .inl (Y 0, 40, .inl o_n_lows)), (qn 4, .inl (Y 0, 40, .inl o_n_highs)), (qn 5, .inl (Y 0, 144, .inl o_n_joins)), (qn 6, .inl (Y 0, 12, .inl o_n_nears)), (qn 7, .inl (Y 1, 12, .inr (.inl o_n_linesAt))), (qk 0, oX1 qk k_pointCount k_lineCount k_tideNow k_age), (qk 1, .inl (Y 0, 40, .inl k_kinds)), (qk 2, .inl (Y 0, 40, .inl k_figures)), (qk 3, .inl (Y 0, 40, .inl k_lows)), (qk 4, .inl (Y 0, 40, .inl k_highs))] H := by rw [← e0, ← e1, ← e2, ← e3, ← e4, ← e5, ← e6, ← e7, ← e8, ← e9, ← e10]; exact hP
    have hD : va_D A [(qn 0, oX1 qn o_n_pointCount o_n_lineCount o_n_tideNow o_n_age), (qn 1, .inl (Y 0, 40, .inl o_n_kinds)), (qn 2, .inl (Y 0, 40, .inl o_n_figures)), (qn 3, .inl (Y 0, 40, .inl o_n_lows)), (qn 4, .inl (Y 0, 40, .inl o_n_highs)), (qn 5, .inl (Y 0, 144, .inl o_n_joins)), (qn 6, .inl (Y 0, 12, .inl o_n_nears)), (qn 7, .inl (Y 1, 12, .inr (.inl o_n_linesAt))), (qk 0, oX1 qk k_pointCount k_lineCount k_tideNow k_age), (qk 1, .inl (Y 0, 40, .inl k_kinds)), (qk 2, .inl (Y 0, 40, .inl k_figures)), (qk 3, .inl (Y 0, 40, .inl k_lows)), (qk 4, .inl (Y 0, 40, .inl k_highs))] := by rw [← e0, ← e1, ← e2, ← e3, ← e4, ← e5, ← e6, ← e7, ← e8, ← e9, ← e10]; exact hD
    exact W.vret hx hb hr (fun t ht hW => ⟨⟨(), rfl, trivial, by rw [ht]; exact hP, va_K.moved hW.alike hK, by rw [hAe]; exact hD⟩, hS.F ht⟩) hS.2.2 dX1_become_88
  exact E0 s.heap [] hP hD hS ls hl
-- X1_hasLine
set_option maxRecDepth 100000 in
set_option maxHeartbeats 4000000 in
theorem c_X1_hasLine (l : Launch) (G : va_G) (Y : Nat → ClassId) (sz : Nat) (qn : Nat → Nat) (n_pointCount : Int32) (n_lineCount : Int32) (n_tideNow : Int32) (n_age : Int32) (p1 : Int32) (rv : Int32) (hf : f_X1_hasLine n_lineCount p1 = some (rv)) : Met l yX1_hasLine wsX1_hasLine (rmk 0 0) (va_Pc [.ref (qn 0), .int p1] (Pre G (tys Y) [(qn 0, oX1 qn n_pointCount n_lineCount n_tideNow n_age)] sz xT)) (va_Qi (fun (r : Int32) (_ : Unit) => r = rv) (Pst G (tys Y) [(qn 0, oX1 qn n_pointCount n_lineCount n_tideNow n_age)] sz [(qn 0, oX1 qn n_pointCount n_lineCount n_tideNow n_age)]) (va_A [(qn 0, oX1 qn n_pointCount n_lineCount n_tideNow n_age)] sz)) 0 0 (va_A [(qn 0, oX1 qn n_pointCount n_lineCount n_tideNow n_age)] sz) := by
  refine Met.ofW (cc := cX1_hasLine) (maxL := 2) (ret := (some .boolean)) (by decide) rfl ?_
  intro p e s m args below meth c s₁ B hml hv
  obtain ⟨rfl, hsz, hP, hK, hD0, hX⟩ := hv
  have hx := B.exec
  have hb := B.bytes
  have hr := B.returns
  have hts := atoms_spec (ws := wsX1_hasLine) B.pre
  have hown : s.vm.findClass RX1 = some m.cls := findClass_of_methodNamed B.named
  have hlocks := B.notSynchronized
  subst hsz
  have hD := hD0.self (sz := s.heap.size)
  generalize hAe : va_A [(qn 0, oX1 qn n_pointCount n_lineCount n_tideNow n_age)] s.heap.size = A at hD ⊢
  have hA : ∀ q : Nat, s.heap.size ≤ q → A q := fun q h => by rw [← hAe]; exact Or.inr h
  have hS : va_S A s.heap s.heap [] := va_S.rf
  have hP : va_P G vwCl [(qn 0, oX1 qn n_pointCount n_lineCount n_tideNow n_age)] s.heap := hP
  have wd1 : (Cond.fieldLink RX1 38 "PairedLines$Net" "lineCount" "I").before [.ref (qn 0), .int p1].toArray s = true := hts _ (List.mem_of_getElem? (i := 1) rfl)
  have inX1w : ∀ w ∈ u_ws RX1 TX1 11, w ∈ wsX1_hasLine := fun w hw => List.mem_cons_of_mem _ (List.mem_append_right _ (hw))
  have hl := lv_entry ([.ref (qn 0), .int p1]) (n := 2) (Nat.le_of_ble_eq_true rfl)
  rw [lg_entry_eq]
  generalize (lg_sl ([.ref (qn 0), .int p1]) ++ List.replicate (2 - (lg_sl ([.ref (qn 0), .int p1])).length) Slot.unset).toArray = ls at hl ⊢
  have hl : lv_has ls 2 [(0, .ref (qn 0)), (1, .int p1)] := hl
  have E0 : ∀ (H : Heap) (locs : List Loc), va_P G vwCl [(qn 0, oX1 qn n_pointCount n_lineCount n_tideNow n_age)] H → va_D A [(qn 0, oX1 qn n_pointCount n_lineCount n_tideNow n_age)] → va_S A s.heap H locs → ∀ (ls : Array Slot), lv_has ls 2 [(0, .ref (qn 0)), (1, .int p1)] → W p l e (headSpec wsX1_hasLine (rmk 0 0)).room s m [.ref (qn 0), .int p1].toArray below meth c H locs 0 0 (MQ below (va_Qi (fun (r : Int32) (_ : Unit) => r = rv) (Pst G (tys Y) [(qn 0, oX1 qn n_pointCount n_lineCount n_tideNow n_age)] s.heap.size [(qn 0, oX1 qn n_pointCount n_lineCount n_tideNow n_age)]) A) [.ref (qn 0), .int p1].toArray s 0 0 A) (F0 m 0 ls []) := by
    intro H locs hP hD hS ls hl
    unfold f_X1_hasLine at hf
    refine lv_iload_n hx hb dX1_hasLine_0 rfl (lv_at hl 1 rfl) ?_
    refine lv_if_lt (tgt := 16) hx hb dX1_hasLine_1 (by decide) (fun c1 => ?_) (fun c1 => ?_)
    · have hf := it hf c1
      refine lv_iconst (v := 0) hx hb dX1_hasLine_16 (by decide) ?_
      have e0 := rt1 hf
      exact W.zret (v := (0 : Int32)) hx hb hr rfl (fun t ht hW => ⟨⟨(0 : Int32), (), rfl, e0, by rw [ht]; exact hP, va_K.moved hW.alike hK, by rw [hAe]; exact hD⟩, hS.F ht⟩) hS.2.2 dX1_hasLine_17
    · have hf := ie hf c1
      refine lv_iload_n hx hb dX1_hasLine_4 rfl (lv_at hl 1 rfl) ?_
      refine lv_aload_n hx hb dX1_hasLine_5 rfl (lv_at hl 0 rfl) ?_
      refine va_get (D := G) (ci := 0) (v := .int n_lineCount) (C := RX1) (T := TX1) (N := 11) hx hb hts inX1w hown hK hP 0 rfl rfl 8 (by decide) wd1 (fun _ h9 => h9) rfl dX1_hasLine_6 ?_
      refine lv_icmp_ge (tgt := 16) hx hb dX1_hasLine_9 (by decide) (fun c2 => ?_) (fun c2 => ?_)
      · have hf := it hf c2
        refine lv_iconst (v := 0) hx hb dX1_hasLine_16 (by decide) ?_
        have e0 := rt1 hf
        exact W.zret (v := (0 : Int32)) hx hb hr rfl (fun t ht hW => ⟨⟨(0 : Int32), (), rfl, e0, by rw [ht]; exact hP, va_K.moved hW.alike hK, by rw [hAe]; exact hD⟩, hS.F ht⟩) hS.2.2 dX1_hasLine_17
      · have hf := ie hf c2
        refine lv_iconst (v := 1) hx hb dX1_hasLine_12 (by decide) ?_
        refine lv_goto (tgt := 17) hx hb dX1_hasLine_13 (by decide) ?_
        have e0 := rt1 hf
        exact W.zret (v := (1 : Int32)) hx hb hr rfl (fun t ht hW => ⟨⟨(1 : Int32), (), rfl, e0, by rw [ht]; exact hP, va_K.moved hW.alike hK, by rw [hAe]; exact hD⟩, hS.F ht⟩) hS.2.2 dX1_hasLine_17
  exact E0 s.heap [] hP hD hS ls hl
-- X1_allLines
set_option maxRecDepth 100000 in
set_option maxHeartbeats 4000000 in
theorem c_X1_allLines (l : Launch) (G : va_G) (Y : Nat → ClassId) (sz : Nat) (qn : Nat → Nat) (n_pointCount : Int32) (n_lineCount : Int32) (n_tideNow : Int32) (n_age : Int32) (rv : Int64) (hf : f_X1_allLines n_lineCount = some (rv)) : Met l yX1_allLines wsX1_allLines (rmk 0 0) (va_Pc [.ref (qn 0)] (Pre G (tys Y) [(qn 0, oX1 qn n_pointCount n_lineCount n_tideNow n_age)] sz xT)) (va_Ql (fun (r : Int64) (_ : Unit) => r = rv) (Pst G (tys Y) [(qn 0, oX1 qn n_pointCount n_lineCount n_tideNow n_age)] sz [(qn 0, oX1 qn n_pointCount n_lineCount n_tideNow n_age)]) (va_A [(qn 0, oX1 qn n_pointCount n_lineCount n_tideNow n_age)] sz)) 0 0 (va_A [(qn 0, oX1 qn n_pointCount n_lineCount n_tideNow n_age)] sz) := by
  refine Met.ofW (cc := cX1_allLines) (maxL := 1) (ret := (some .long)) (by decide) rfl ?_
  intro p e s m args below meth c s₁ B hml hv
  obtain ⟨rfl, hsz, hP, hK, hD0, hX⟩ := hv
  have hx := B.exec
  have hb := B.bytes
  have hr := B.returns
  have hts := atoms_spec (ws := wsX1_allLines) B.pre
  have hown : s.vm.findClass RX1 = some m.cls := findClass_of_methodNamed B.named
  have hlocks := B.notSynchronized
  subst hsz
  have hD := hD0.self (sz := s.heap.size)
  generalize hAe : va_A [(qn 0, oX1 qn n_pointCount n_lineCount n_tideNow n_age)] s.heap.size = A at hD ⊢
  have hA : ∀ q : Nat, s.heap.size ≤ q → A q := fun q h => by rw [← hAe]; exact Or.inr h
  have hS : va_S A s.heap s.heap [] := va_S.rf
  have hP : va_P G vwCl [(qn 0, oX1 qn n_pointCount n_lineCount n_tideNow n_age)] s.heap := hP
  have wd1 : (Cond.fieldLink RX1 38 "PairedLines$Net" "lineCount" "I").before [.ref (qn 0)].toArray s = true := hts _ (List.mem_of_getElem? (i := 1) rfl)
  have inX1w : ∀ w ∈ u_ws RX1 TX1 11, w ∈ wsX1_allLines := fun w hw => List.mem_cons_of_mem _ (List.mem_append_right _ (hw))
  have hl := lv_entry ([.ref (qn 0)]) (n := 1) (Nat.le_of_ble_eq_true rfl)
  rw [lg_entry_eq]
  generalize (lg_sl ([.ref (qn 0)]) ++ List.replicate (1 - (lg_sl ([.ref (qn 0)])).length) Slot.unset).toArray = ls at hl ⊢
  have hl : lv_has ls 1 [(0, .ref (qn 0))] := hl
  have E0 : ∀ (H : Heap) (locs : List Loc), va_P G vwCl [(qn 0, oX1 qn n_pointCount n_lineCount n_tideNow n_age)] H → va_D A [(qn 0, oX1 qn n_pointCount n_lineCount n_tideNow n_age)] → va_S A s.heap H locs → ∀ (ls : Array Slot), lv_has ls 1 [(0, .ref (qn 0))] → W p l e (headSpec wsX1_allLines (rmk 0 0)).room s m [.ref (qn 0)].toArray below meth c H locs 0 0 (MQ below (va_Ql (fun (r : Int64) (_ : Unit) => r = rv) (Pst G (tys Y) [(qn 0, oX1 qn n_pointCount n_lineCount n_tideNow n_age)] s.heap.size [(qn 0, oX1 qn n_pointCount n_lineCount n_tideNow n_age)]) A) [.ref (qn 0)].toArray s 0 0 A) (F0 m 0 ls []) := by
    intro H locs hP hD hS ls hl
    unfold f_X1_allLines at hf
    refine lv_lconst (v := 1) hx hb dX1_allLines_0 (by decide) ?_
    refine lv_aload_n hx hb dX1_allLines_1 rfl (lv_at hl 0 rfl) ?_
    refine va_get (D := G) (ci := 0) (v := .int n_lineCount) (C := RX1) (T := TX1) (N := 11) hx hb hts inX1w hown hK hP 0 rfl rfl 8 (by decide) wd1 (fun _ h9 => h9) rfl dX1_allLines_2 ?_
    refine lv_lshl hx hb dX1_allLines_5 rfl ?_
    refine lv_lconst (v := 1) hx hb dX1_allLines_6 (by decide) ?_
    refine lv_lsub hx hb dX1_allLines_7 ?_
    have e0 := rt1 hf
    exact W.lret (v := (((1 : Int64) <<< (n_lineCount.toInt64 &&& 63)) - (1 : Int64))) hx hb hr (fun t ht hW => ⟨⟨(((1 : Int64) <<< (n_lineCount.toInt64 &&& 63)) - (1 : Int64)), (), rfl, e0, by rw [ht]; exact hP, va_K.moved hW.alike hK, by rw [hAe]; exact hD⟩, hS.F ht⟩) hS.2.2 dX1_allLines_8
  exact E0 s.heap [] hP hD hS ls hl
-- X1_hasLines
set_option maxRecDepth 100000 in
set_option maxHeartbeats 4000000 in
theorem c_X1_hasLines (l : Launch) (G : va_G) (Y : Nat → ClassId) (sz : Nat) (qn : Nat → Nat) (n_pointCount : Int32) (n_lineCount : Int32) (n_tideNow : Int32) (n_age : Int32) (p1 : Int64) (rv : Int32) (hf : f_X1_hasLines n_lineCount p1 = some (rv)) : Met l yX1_hasLines wsX1_hasLines (rmk 1 20) (va_Pc [.ref (qn 0), .long p1] (Pre G (tys Y) [(qn 0, oX1 qn n_pointCount n_lineCount n_tideNow n_age)] sz xT)) (va_Qi (fun (r : Int32) (_ : Unit) => r = rv) (Pst G (tys Y) [(qn 0, oX1 qn n_pointCount n_lineCount n_tideNow n_age)] sz [(qn 0, oX1 qn n_pointCount n_lineCount n_tideNow n_age)]) (va_A [(qn 0, oX1 qn n_pointCount n_lineCount n_tideNow n_age)] sz)) 0 0 (va_A [(qn 0, oX1 qn n_pointCount n_lineCount n_tideNow n_age)] sz) := by
  refine Met.ofW (cc := cX1_hasLines) (maxL := 3) (ret := (some .boolean)) (by decide) rfl ?_
  intro p e s m args below meth c s₁ B hml hv
  obtain ⟨rfl, hsz, hP, hK, hD0, hX⟩ := hv
  have hx := B.exec
  have hb := B.bytes
  have hr := B.returns
  have hts := atoms_spec (ws := wsX1_hasLines) B.pre
  have hown : s.vm.findClass RX1 = some m.cls := findClass_of_methodNamed B.named
  have hlocks := B.notSynchronized
  subst hsz
  have hD := hD0.self (sz := s.heap.size)
  generalize hAe : va_A [(qn 0, oX1 qn n_pointCount n_lineCount n_tideNow n_age)] s.heap.size = A at hD ⊢
  have hA : ∀ q : Nat, s.heap.size ≤ q → A q := fun q h => by rw [← hAe]; exact Or.inr h
  have hS : va_S A s.heap s.heap [] := va_S.rf
  have hP : va_P G vwCl [(qn 0, oX1 qn n_pointCount n_lineCount n_tideNow n_age)] s.heap := hP
  have wd1 : (Cond.constantLong RX1 93 (-1)).before [.ref (qn 0), .long p1].toArray s = true := hts _ (List.mem_of_getElem? (i := 1) rfl)
  have hl := lv_entry ([.ref (qn 0), .long p1]) (n := 3) (Nat.le_of_ble_eq_true rfl)
  rw [lg_entry_eq]
  generalize (lg_sl ([.ref (qn 0), .long p1]) ++ List.replicate (3 - (lg_sl ([.ref (qn 0), .long p1])).length) Slot.unset).toArray = ls at hl ⊢
  have hl : lv_has ls 3 [(0, .ref (qn 0)), (1, .long p1)] := hl
  have E0 : ∀ (H : Heap) (locs : List Loc), va_P G vwCl [(qn 0, oX1 qn n_pointCount n_lineCount n_tideNow n_age)] H → va_D A [(qn 0, oX1 qn n_pointCount n_lineCount n_tideNow n_age)] → va_S A s.heap H locs → ∀ (ls : Array Slot), lv_has ls 3 [(0, .ref (qn 0)), (1, .long p1)] → W p l e (headSpec wsX1_hasLines (rmk 1 20)).room s m [.ref (qn 0), .long p1].toArray below meth c H locs 0 0 (MQ below (va_Qi (fun (r : Int32) (_ : Unit) => r = rv) (Pst G (tys Y) [(qn 0, oX1 qn n_pointCount n_lineCount n_tideNow n_age)] s.heap.size [(qn 0, oX1 qn n_pointCount n_lineCount n_tideNow n_age)]) A) [.ref (qn 0), .long p1].toArray s 0 0 A) (F0 m 0 ls []) := by
    intro H locs hP hD hS ls hl
    unfold f_X1_hasLines at hf
    refine lv_lload_n hx hb dX1_hasLines_0 rfl (lv_at hl 1 rfl) ?_
    refine lv_aload_n hx hb dX1_hasLines_1 rfl (lv_at hl 0 rfl) ?_
    obtain ⟨r1, hc, hf⟩ := bd1 hf
    refine cl_l (ws' := [(qn 0, oX1 qn n_pointCount n_lineCount n_tideNow n_age)]) (wr := []) (rnV (As := []) (rest := [.long p1]) ⟨hx, hb, hml, hown, hts⟩ (c_X1_allLines l G Y H.size qn n_pointCount n_lineCount n_tideNow n_age r1 hc) (cwV 0 hts gX1_hasLines_X1_allLines rfl rfl rfl (by decide +kernel) ⟨(Nat.le_of_ble_eq_true rfl), (Nat.le_of_ble_eq_true rfl)⟩) trivial okT hK hP hD [0] rfl rfl (ci := 0) (q0 := 0) rfl rfl rfl rfl hl.1 rfl (Nat.le_of_ble_eq_true rfl) dX1_hasLines_2) hP hD hS hA [0] [] [0] rfl rfl rfl (by decide) rfl rfl (fun H locs hP hD hS => ?_)
    refine lv_ldc2 hx hb hown wd1 dX1_hasLines_5 ?_
    refine lv_lxor hx hb dX1_hasLines_8 ?_
    refine lv_land hx hb dX1_hasLines_9 ?_
    refine lv_lconst (v := 0) hx hb dX1_hasLines_10 (by decide) ?_
    refine W.lcmp hx hb dX1_hasLines_11 ?_
    refine lv_if_ne (tgt := 19) hx hb dX1_hasLines_12 (by decide) (fun c2 => ?_) (fun c2 => ?_)
    · have hf := ie hf c2
      refine lv_iconst (v := 0) hx hb dX1_hasLines_19 (by decide) ?_
      have e0 := rt1 hf
      exact W.zret (v := (0 : Int32)) hx hb hr rfl (fun t ht hW => ⟨⟨(0 : Int32), (), rfl, e0, by rw [ht]; exact hP, va_K.moved hW.alike hK, by rw [hAe]; exact hD⟩, hS.F ht⟩) hS.2.2 dX1_hasLines_20
    · have hf := it hf c2
      refine lv_iconst (v := 1) hx hb dX1_hasLines_15 (by decide) ?_
      refine lv_goto (tgt := 20) hx hb dX1_hasLines_16 (by decide) ?_
      have e0 := rt1 hf
      exact W.zret (v := (1 : Int32)) hx hb hr rfl (fun t ht hW => ⟨⟨(1 : Int32), (), rfl, e0, by rw [ht]; exact hP, va_K.moved hW.alike hK, by rw [hAe]; exact hD⟩, hS.F ht⟩) hS.2.2 dX1_hasLines_20
  exact E0 s.heap [] hP hD hS ls hl
-- X1_allPoints
set_option maxRecDepth 100000 in
set_option maxHeartbeats 4000000 in
theorem c_X1_allPoints (l : Launch) (G : va_G) (Y : Nat → ClassId) (sz : Nat) (qn : Nat → Nat) (n_pointCount : Int32) (n_lineCount : Int32) (n_tideNow : Int32) (n_age : Int32) (rv : Int32) (hf : f_X1_allPoints n_pointCount = some (rv)) : Met l yX1_allPoints wsX1_allPoints (rmk 0 0) (va_Pc [.ref (qn 0)] (Pre G (tys Y) [(qn 0, oX1 qn n_pointCount n_lineCount n_tideNow n_age)] sz xT)) (va_Qi (fun (r : Int32) (_ : Unit) => r = rv) (Pst G (tys Y) [(qn 0, oX1 qn n_pointCount n_lineCount n_tideNow n_age)] sz [(qn 0, oX1 qn n_pointCount n_lineCount n_tideNow n_age)]) (va_A [(qn 0, oX1 qn n_pointCount n_lineCount n_tideNow n_age)] sz)) 0 0 (va_A [(qn 0, oX1 qn n_pointCount n_lineCount n_tideNow n_age)] sz) := by
  refine Met.ofW (cc := cX1_allPoints) (maxL := 1) (ret := (some .int)) (by decide) rfl ?_
  intro p e s m args below meth c s₁ B hml hv
  obtain ⟨rfl, hsz, hP, hK, hD0, hX⟩ := hv
  have hx := B.exec
  have hb := B.bytes
  have hr := B.returns
  have hts := atoms_spec (ws := wsX1_allPoints) B.pre
  have hown : s.vm.findClass RX1 = some m.cls := findClass_of_methodNamed B.named
  have hlocks := B.notSynchronized
  subst hsz
  have hD := hD0.self (sz := s.heap.size)
  generalize hAe : va_A [(qn 0, oX1 qn n_pointCount n_lineCount n_tideNow n_age)] s.heap.size = A at hD ⊢
  have hA : ∀ q : Nat, s.heap.size ≤ q → A q := fun q h => by rw [← hAe]; exact Or.inr h
  have hS : va_S A s.heap s.heap [] := va_S.rf
  have hP : va_P G vwCl [(qn 0, oX1 qn n_pointCount n_lineCount n_tideNow n_age)] s.heap := hP
  have wd1 : (Cond.fieldLink RX1 34 "PairedLines$Net" "pointCount" "I").before [.ref (qn 0)].toArray s = true := hts _ (List.mem_of_getElem? (i := 1) rfl)
  have inX1w : ∀ w ∈ u_ws RX1 TX1 11, w ∈ wsX1_allPoints := fun w hw => List.mem_cons_of_mem _ (List.mem_append_right _ (hw))
  have hl := lv_entry ([.ref (qn 0)]) (n := 1) (Nat.le_of_ble_eq_true rfl)
  rw [lg_entry_eq]
  generalize (lg_sl ([.ref (qn 0)]) ++ List.replicate (1 - (lg_sl ([.ref (qn 0)])).length) Slot.unset).toArray = ls at hl ⊢
  have hl : lv_has ls 1 [(0, .ref (qn 0))] := hl
  have E0 : ∀ (H : Heap) (locs : List Loc), va_P G vwCl [(qn 0, oX1 qn n_pointCount n_lineCount n_tideNow n_age)] H → va_D A [(qn 0, oX1 qn n_pointCount n_lineCount n_tideNow n_age)] → va_S A s.heap H locs → ∀ (ls : Array Slot), lv_has ls 1 [(0, .ref (qn 0))] → W p l e (headSpec wsX1_allPoints (rmk 0 0)).room s m [.ref (qn 0)].toArray below meth c H locs 0 0 (MQ below (va_Qi (fun (r : Int32) (_ : Unit) => r = rv) (Pst G (tys Y) [(qn 0, oX1 qn n_pointCount n_lineCount n_tideNow n_age)] s.heap.size [(qn 0, oX1 qn n_pointCount n_lineCount n_tideNow n_age)]) A) [.ref (qn 0)].toArray s 0 0 A) (F0 m 0 ls []) := by
    intro H locs hP hD hS ls hl
    unfold f_X1_allPoints at hf
    refine lv_iconst (v := 1) hx hb dX1_allPoints_0 (by decide) ?_
    refine lv_aload_n hx hb dX1_allPoints_1 rfl (lv_at hl 0 rfl) ?_
    refine va_get (D := G) (ci := 0) (v := .int n_pointCount) (C := RX1) (T := TX1) (N := 11) hx hb hts inX1w hown hK hP 0 rfl rfl 7 (by decide) wd1 (fun _ h9 => h9) rfl dX1_allPoints_2 ?_
    refine lv_ishl hx hb dX1_allPoints_5 ?_
    refine lv_iconst (v := 1) hx hb dX1_allPoints_6 (by decide) ?_
    refine lv_isub hx hb dX1_allPoints_7 ?_
    have e0 := rt1 hf
    exact W.iret (v := (((1 : Int32) <<< (n_pointCount &&& 31)) - (1 : Int32))) hx hb hr (fun t ht hW => ⟨⟨(((1 : Int32) <<< (n_pointCount &&& 31)) - (1 : Int32)), (), rfl, e0, by rw [ht]; exact hP, va_K.moved hW.alike hK, by rw [hAe]; exact hD⟩, hS.F ht⟩) hS.2.2 dX1_allPoints_8
  exact E0 s.heap [] hP hD hS ls hl
-- X1_weightOf
set_option maxRecDepth 100000 in
set_option maxHeartbeats 4000000 in
theorem c_X1_weightOf (l : Launch) (G : va_G) (Y : Nat → ClassId) (sz : Nat) (qn : Nat → Nat) (n_kinds : Nat → Int32) (n_figures : Nat → Int32) (n_pointCount : Int32) (n_lineCount : Int32) (n_tideNow : Int32) (n_age : Int32) (p1 : Int32) (rv : Int32) (hf : f_X1_weightOf n_kinds n_figures n_tideNow p1 = some (rv)) : Met l yX1_weightOf wsX1_weightOf (rmk 2 43) (va_Pc [.ref (qn 0), .int p1] (Pre G (tys Y) [(qn 0, oX1 qn n_pointCount n_lineCount n_tideNow n_age), (qn 1, .inl (Y 0, 40, .inl n_kinds)), (qn 2, .inl (Y 0, 40, .inl n_figures))] sz xN)) (va_Qi (fun (r : Int32) (_ : Unit) => r = rv) (Pst G (tys Y) [(qn 0, oX1 qn n_pointCount n_lineCount n_tideNow n_age), (qn 1, .inl (Y 0, 40, .inl n_kinds)), (qn 2, .inl (Y 0, 40, .inl n_figures))] sz [(qn 0, oX1 qn n_pointCount n_lineCount n_tideNow n_age), (qn 1, .inl (Y 0, 40, .inl n_kinds)), (qn 2, .inl (Y 0, 40, .inl n_figures))]) (va_A [(qn 0, oX1 qn n_pointCount n_lineCount n_tideNow n_age), (qn 1, .inl (Y 0, 40, .inl n_kinds)), (qn 2, .inl (Y 0, 40, .inl n_figures))] sz)) 0 0 (va_A [(qn 0, oX1 qn n_pointCount n_lineCount n_tideNow n_age), (qn 1, .inl (Y 0, 40, .inl n_kinds)), (qn 2, .inl (Y 0, 40, .inl n_figures))] sz) := by
  refine Met.ofW (cc := cX1_weightOf) (maxL := 2) (ret := (some .int)) (by decide) rfl ?_
  intro p e s m args below meth c s₁ B hml hv
  obtain ⟨rfl, hsz, hP, hK, hD0, hX⟩ := hv
  have hx := B.exec
  have hb := B.bytes
  have hr := B.returns
  have hts := atoms_spec (ws := wsX1_weightOf) B.pre
  have hown : s.vm.findClass RX1 = some m.cls := findClass_of_methodNamed B.named
  have hlocks := B.notSynchronized
  subst hsz
  have hD := hD0.self (sz := s.heap.size)
  generalize hAe : va_A [(qn 0, oX1 qn n_pointCount n_lineCount n_tideNow n_age), (qn 1, .inl (Y 0, 40, .inl n_kinds)), (qn 2, .inl (Y 0, 40, .inl n_figures))] s.heap.size = A at hD ⊢
  have hA : ∀ q : Nat, s.heap.size ≤ q → A q := fun q h => by rw [← hAe]; exact Or.inr h
  have hS : va_S A s.heap s.heap [] := va_S.rf
  have hP : va_P G vwCl [(qn 0, oX1 qn n_pointCount n_lineCount n_tideNow n_age), (qn 1, .inl (Y 0, 40, .inl n_kinds)), (qn 2, .inl (Y 0, 40, .inl n_figures))] s.heap := hP
  have wd1 : (Cond.fieldLink RX1 9 "PairedLines$Net" "kinds" "[I").before [.ref (qn 0), .int p1].toArray s = true := hts _ (List.mem_of_getElem? (i := 1) rfl)
  have wd2 : (Cond.fieldLink RX1 15 "PairedLines$Net" "figures" "[I").before [.ref (qn 0), .int p1].toArray s = true := hts _ (List.mem_of_getElem? (i := 2) rfl)
  have wd3 : (Cond.fieldLink RX1 41 "PairedLines$Net" "tideNow" "I").before [.ref (qn 0), .int p1].toArray s = true := hts _ (List.mem_of_getElem? (i := 3) rfl)
  have wd4 : (Cond.static yX8_weightBy).before [.ref (qn 0), .int p1].toArray s = true := hts _ (List.mem_of_getElem? (i := 4) rfl)
  have wd5 : (Cond.initialized RX8).before [.ref (qn 0), .int p1].toArray s = true := hts _ (List.mem_of_getElem? (i := 5) rfl)
  have inX1w : ∀ w ∈ u_ws RX1 TX1 11, w ∈ wsX1_weightOf := fun w hw => List.mem_cons_of_mem _ (List.mem_append_right _ (hw))
  have hl := lv_entry ([.ref (qn 0), .int p1]) (n := 2) (Nat.le_of_ble_eq_true rfl)
  rw [lg_entry_eq]
  generalize (lg_sl ([.ref (qn 0), .int p1]) ++ List.replicate (2 - (lg_sl ([.ref (qn 0), .int p1])).length) Slot.unset).toArray = ls at hl ⊢
  have hl : lv_has ls 2 [(0, .ref (qn 0)), (1, .int p1)] := hl
  have E0 : ∀ (H : Heap) (locs : List Loc), va_P G vwCl [(qn 0, oX1 qn n_pointCount n_lineCount n_tideNow n_age), (qn 1, .inl (Y 0, 40, .inl n_kinds)), (qn 2, .inl (Y 0, 40, .inl n_figures))] H → va_D A [(qn 0, oX1 qn n_pointCount n_lineCount n_tideNow n_age), (qn 1, .inl (Y 0, 40, .inl n_kinds)), (qn 2, .inl (Y 0, 40, .inl n_figures))] → va_S A s.heap H locs → ∀ (ls : Array Slot), lv_has ls 2 [(0, .ref (qn 0)), (1, .int p1)] → W p l e (headSpec wsX1_weightOf (rmk 2 43)).room s m [.ref (qn 0), .int p1].toArray below meth c H locs 0 0 (MQ below (va_Qi (fun (r : Int32) (_ : Unit) => r = rv) (Pst G (tys Y) [(qn 0, oX1 qn n_pointCount n_lineCount n_tideNow n_age), (qn 1, .inl (Y 0, 40, .inl n_kinds)), (qn 2, .inl (Y 0, 40, .inl n_figures))] s.heap.size [(qn 0, oX1 qn n_pointCount n_lineCount n_tideNow n_age), (qn 1, .inl (Y 0, 40, .inl n_kinds)), (qn 2, .inl (Y 0, 40, .inl n_figures))]) A) [.ref (qn 0), .int p1].toArray s 0 0 A) (F0 m 0 ls []) := by
    intro H locs hP hD hS ls hl
    unfold f_X1_weightOf at hf
    refine lv_aload_n hx hb dX1_weightOf_0 rfl (lv_at hl 0 rfl) ?_
    refine va_get (D := G) (ci := 0) (v := .ref (qn 1)) (C := RX1) (T := TX1) (N := 11) hx hb hts inX1w hown hK hP 0 rfl rfl 0 (by decide) wd1 (fun _ h9 => h9) rfl dX1_weightOf_1 ?_
    refine lv_iload_n hx hb dX1_weightOf_4 rfl (lv_at hl 1 rfl) ?_
    obtain ⟨g1, hf⟩ := gd hf
    refine va_iald hx hb hK hP 1 0 rfl rfl g1 dX1_weightOf_5 ?_
    refine lv_aload_n hx hb dX1_weightOf_6 rfl (lv_at hl 0 rfl) ?_
    refine va_get (D := G) (ci := 0) (v := .ref (qn 2)) (C := RX1) (T := TX1) (N := 11) hx hb hts inX1w hown hK hP 0 rfl rfl 1 (by decide) wd2 (fun _ h9 => h9) rfl dX1_weightOf_7 ?_
    refine lv_iload_n hx hb dX1_weightOf_10 rfl (lv_at hl 1 rfl) ?_
    obtain ⟨g2, hf⟩ := gd hf
    refine va_iald hx hb hK hP 2 0 rfl rfl g2 dX1_weightOf_11 ?_
    refine lv_aload_n hx hb dX1_weightOf_12 rfl (lv_at hl 0 rfl) ?_
    refine va_get (D := G) (ci := 0) (v := .int n_tideNow) (C := RX1) (T := TX1) (N := 11) hx hb hts inX1w hown hK hP 0 rfl rfl 9 (by decide) wd3 (fun _ h9 => h9) rfl dX1_weightOf_13 ?_
    obtain ⟨r3, hc, hf⟩ := bd1 hf
    refine cl_i (ws' := [(qn 0, oX1 qn n_pointCount n_lineCount n_tideNow n_age), (qn 1, .inl (Y 0, 40, .inl n_kinds)), (qn 2, .inl (Y 0, 40, .inl n_figures))]) (wr := [(qn 0, oX1 qn n_pointCount n_lineCount n_tideNow n_age), (qn 1, .inl (Y 0, 40, .inl n_kinds)), (qn 2, .inl (Y 0, 40, .inl n_figures))]) (rnN (As := [.int (n_kinds p1.toNatClampNeg), .int (n_figures p1.toNatClampNeg), .int n_tideNow]) (rest := []) ⟨hx, hb, hml, hown, hts⟩ (c_X8_weightBy l G Y H.size (n_kinds p1.toNatClampNeg) (n_figures p1.toNatClampNeg) n_tideNow r3 hc) ⟨va_cnB 3 hts gX1_weightOf_X8_weightBy_n95 rfl rfl rfl hX.2 wd5 (by decide +kernel) ⟨(Nat.le_of_ble_eq_true rfl), (Nat.le_of_ble_eq_true rfl)⟩, wd4, trivial⟩ trivial okT hK hP hD [] rfl rfl rfl hl.1 rfl (Nat.le_of_ble_eq_true rfl) dX1_weightOf_16) hP hD hS hA [] [0, 1, 2] [0, 1, 2] rfl rfl rfl (by decide) rfl rfl (fun H locs hP hD hS => ?_)
    have e0 := rt1 hf
    exact W.iret (v := r3) hx hb hr (fun t ht hW => ⟨⟨r3, (), rfl, e0, by rw [ht]; exact hP, va_K.moved hW.alike hK, by rw [hAe]; exact hD⟩, hS.F ht⟩) hS.2.2 dX1_weightOf_19
  exact E0 s.heap [] hP hD hS ls hl
-- X1_weightBetween
set_option maxRecDepth 100000 in
set_option maxHeartbeats 4000000 in
theorem c_X1_weightBetween (l : Launch) (G : va_G) (Y : Nat → ClassId) (sz : Nat) (qn : Nat → Nat) (n_kinds : Nat → Int32) (n_figures : Nat → Int32) (n_joins : Nat → Int32) (n_pointCount : Int32) (n_lineCount : Int32) (n_tideNow : Int32) (n_age : Int32) (p1 : Int32) (p2 : Int32) (rv : Int32) (hf : f_X1_weightBetween n_kinds n_figures n_joins n_tideNow p1 p2 = some (rv)) : Met l yX1_weightBetween wsX1_weightBetween (rmk 3 64) (va_Pc [.ref (qn 0), .int p1, .int p2] (Pre G (tys Y) [(qn 0, oX1 qn n_pointCount n_lineCount n_tideNow n_age), (qn 1, .inl (Y 0, 40, .inl n_kinds)), (qn 2, .inl (Y 0, 40, .inl n_figures)), (qn 5, .inl (Y 0, 144, .inl n_joins))] sz xN)) (va_Qi (fun (r : Int32) (_ : Unit) => r = rv) (Pst G (tys Y) [(qn 0, oX1 qn n_pointCount n_lineCount n_tideNow n_age), (qn 1, .inl (Y 0, 40, .inl n_kinds)), (qn 2, .inl (Y 0, 40, .inl n_figures)), (qn 5, .inl (Y 0, 144, .inl n_joins))] sz [(qn 0, oX1 qn n_pointCount n_lineCount n_tideNow n_age), (qn 1, .inl (Y 0, 40, .inl n_kinds)), (qn 2, .inl (Y 0, 40, .inl n_figures)), (qn 5, .inl (Y 0, 144, .inl n_joins))]) (va_A [(qn 0, oX1 qn n_pointCount n_lineCount n_tideNow n_age), (qn 1, .inl (Y 0, 40, .inl n_kinds)), (qn 2, .inl (Y 0, 40, .inl n_figures)), (qn 5, .inl (Y 0, 144, .inl n_joins))] sz)) 0 0 (va_A [(qn 0, oX1 qn n_pointCount n_lineCount n_tideNow n_age), (qn 1, .inl (Y 0, 40, .inl n_kinds)), (qn 2, .inl (Y 0, 40, .inl n_figures)), (qn 5, .inl (Y 0, 144, .inl n_joins))] sz) := by
  refine Met.ofW (cc := cX1_weightBetween) (maxL := 4) (ret := (some .int)) (by decide) rfl ?_
  intro p e s m args below meth c s₁ B hml hv
  obtain ⟨rfl, hsz, hP, hK, hD0, hX⟩ := hv
  have hx := B.exec
  have hb := B.bytes
  have hr := B.returns
  have hts := atoms_spec (ws := wsX1_weightBetween) B.pre
  have hown : s.vm.findClass RX1 = some m.cls := findClass_of_methodNamed B.named
  have hlocks := B.notSynchronized
  subst hsz
  have hD := hD0.self (sz := s.heap.size)
  generalize hAe : va_A [(qn 0, oX1 qn n_pointCount n_lineCount n_tideNow n_age), (qn 1, .inl (Y 0, 40, .inl n_kinds)), (qn 2, .inl (Y 0, 40, .inl n_figures)), (qn 5, .inl (Y 0, 144, .inl n_joins))] s.heap.size = A at hD ⊢
  have hA : ∀ q : Nat, s.heap.size ≤ q → A q := fun q h => by rw [← hAe]; exact Or.inr h
  have hS : va_S A s.heap s.heap [] := va_S.rf
  have hP : va_P G vwCl [(qn 0, oX1 qn n_pointCount n_lineCount n_tideNow n_age), (qn 1, .inl (Y 0, 40, .inl n_kinds)), (qn 2, .inl (Y 0, 40, .inl n_figures)), (qn 5, .inl (Y 0, 144, .inl n_joins))] s.heap := hP
  have hl := lv_entry ([.ref (qn 0), .int p1, .int p2]) (n := 4) (Nat.le_of_ble_eq_true rfl)
  rw [lg_entry_eq]
  generalize (lg_sl ([.ref (qn 0), .int p1, .int p2]) ++ List.replicate (4 - (lg_sl ([.ref (qn 0), .int p1, .int p2])).length) Slot.unset).toArray = ls at hl ⊢
  have hl : lv_has ls 4 [(0, .ref (qn 0)), (1, .int p1), (2, .int p2)] := hl
  have E0 : ∀ (H : Heap) (locs : List Loc), va_P G vwCl [(qn 0, oX1 qn n_pointCount n_lineCount n_tideNow n_age), (qn 1, .inl (Y 0, 40, .inl n_kinds)), (qn 2, .inl (Y 0, 40, .inl n_figures)), (qn 5, .inl (Y 0, 144, .inl n_joins))] H → va_D A [(qn 0, oX1 qn n_pointCount n_lineCount n_tideNow n_age), (qn 1, .inl (Y 0, 40, .inl n_kinds)), (qn 2, .inl (Y 0, 40, .inl n_figures)), (qn 5, .inl (Y 0, 144, .inl n_joins))] → va_S A s.heap H locs → ∀ (ls : Array Slot), lv_has ls 4 [(0, .ref (qn 0)), (1, .int p1), (2, .int p2)] → W p l e (headSpec wsX1_weightBetween (rmk 3 64)).room s m [.ref (qn 0), .int p1, .int p2].toArray below meth c H locs 0 0 (MQ below (va_Qi (fun (r : Int32) (_ : Unit) => r = rv) (Pst G (tys Y) [(qn 0, oX1 qn n_pointCount n_lineCount n_tideNow n_age), (qn 1, .inl (Y 0, 40, .inl n_kinds)), (qn 2, .inl (Y 0, 40, .inl n_figures)), (qn 5, .inl (Y 0, 144, .inl n_joins))] s.heap.size [(qn 0, oX1 qn n_pointCount n_lineCount n_tideNow n_age), (qn 1, .inl (Y 0, 40, .inl n_kinds)), (qn 2, .inl (Y 0, 40, .inl n_figures)), (qn 5, .inl (Y 0, 144, .inl n_joins))]) A) [.ref (qn 0), .int p1, .int p2].toArray s 0 0 A) (F0 m 0 ls []) := by
    intro H locs hP hD hS ls hl
    unfold f_X1_weightBetween at hf
    refine lv_aload_n hx hb dX1_weightBetween_0 rfl (lv_at hl 0 rfl) ?_
    refine lv_iload_n hx hb dX1_weightBetween_1 rfl (lv_at hl 1 rfl) ?_
    refine lv_iload_n hx hb dX1_weightBetween_2 rfl (lv_at hl 2 rfl) ?_
    obtain ⟨r1, hc, hf⟩ := bd1 hf
    refine cl_i (ws' := [(qn 0, oX1 qn n_pointCount n_lineCount n_tideNow n_age), (qn 1, .inl (Y 0, 40, .inl n_kinds)), (qn 2, .inl (Y 0, 40, .inl n_figures)), (qn 5, .inl (Y 0, 144, .inl n_joins))]) (wr := [(qn 1, .inl (Y 0, 40, .inl n_kinds)), (qn 2, .inl (Y 0, 40, .inl n_figures))]) (rnV (As := [.int p1, .int p2]) (rest := []) ⟨hx, hb, hml, hown, hts⟩ (c_X1_joining l G Y H.size qn n_joins n_pointCount n_lineCount n_tideNow n_age p1 p2 r1 hc) (cwV 2 hts gX1_weightBetween_X1_joining rfl rfl rfl (by decide +kernel) ⟨(Nat.le_of_ble_eq_true rfl), (Nat.le_of_ble_eq_true rfl)⟩) trivial okT hK hP hD [0, 3] rfl rfl (ci := 0) (q0 := 0) rfl rfl rfl rfl hl.1 rfl (Nat.le_of_ble_eq_true rfl) dX1_weightBetween_3) hP hD hS hA [0, 3] [1, 2] [2, 0, 1, 3] rfl rfl rfl (by decide) rfl rfl (fun H locs hP hD hS => ?_)
    refine lv_istore_n (lv' := [(3, .int r1), (0, .ref (qn 0)), (1, .int p1), (2, .int p2)]) hx hb dX1_weightBetween_6 rfl hl (by decide) rfl (fun ls hl => ?_)
    refine lv_iload_n hx hb dX1_weightBetween_7 rfl (lv_at hl 0 rfl) ?_
    refine lv_if_ge (tgt := 15) hx hb dX1_weightBetween_8 (by decide) (fun c2 => ?_) (fun c2 => ?_)
    · have hf := it hf c2
      refine lv_aload_n hx hb dX1_weightBetween_15 rfl (lv_at hl 1 rfl) ?_
      refine lv_iload_n hx hb dX1_weightBetween_16 rfl (lv_at hl 0 rfl) ?_
      obtain ⟨r3, hc, hf⟩ := bd1 hf
      refine cl_i (ws' := [(qn 0, oX1 qn n_pointCount n_lineCount n_tideNow n_age), (qn 1, .inl (Y 0, 40, .inl n_kinds)), (qn 2, .inl (Y 0, 40, .inl n_figures)), (qn 5, .inl (Y 0, 144, .inl n_joins))]) (wr := [(qn 5, .inl (Y 0, 144, .inl n_joins))]) (rnV (As := [.int r1]) (rest := []) ⟨hx, hb, hml, hown, hts⟩ (c_X1_weightOf l G Y H.size qn n_kinds n_figures n_pointCount n_lineCount n_tideNow n_age r1 r3 hc) (cwV 1 hts gX1_weightBetween_X1_weightOf rfl rfl rfl (by decide +kernel) ⟨(Nat.le_of_ble_eq_true rfl), (Nat.le_of_ble_eq_true rfl)⟩) hX okN hK hP hD [0, 1, 2] rfl rfl (ci := 0) (q0 := 0) rfl rfl rfl rfl hl.1 rfl (Nat.le_of_ble_eq_true rfl) dX1_weightBetween_17) hP hD hS hA [0, 1, 2] [3] [1, 2, 3, 0] rfl rfl rfl (by decide) rfl rfl (fun H locs hP hD hS => ?_)
      have e0 := rt1 hf
      exact W.iret (v := r3) hx hb hr (fun t ht hW => ⟨⟨r3, (), rfl, e0, by rw [ht]; exact hP, va_K.moved hW.alike hK, by rw [hAe]; exact hD⟩, hS.F ht⟩) hS.2.2 dX1_weightBetween_20
    · have hf := ie hf c2
      refine lv_iconst (v := 0) hx hb dX1_weightBetween_11 (by decide) ?_
      refine lv_goto (tgt := 20) hx hb dX1_weightBetween_12 (by decide) ?_
      have e0 := rt1 hf
      exact W.iret (v := (0 : Int32)) hx hb hr (fun t ht hW => ⟨⟨(0 : Int32), (), rfl, e0, by rw [ht]; exact hP, va_K.moved hW.alike hK, by rw [hAe]; exact hD⟩, hS.F ht⟩) hS.2.2 dX1_weightBetween_20
  exact E0 s.heap [] hP hD hS ls hl
-- X1_meeting
set_option maxRecDepth 100000 in
set_option maxHeartbeats 4000000 in
theorem c_X1_meeting (l : Launch) (G : va_G) (Y : Nat → ClassId) (sz : Nat) (qn : Nat → Nat) (n_lows : Nat → Int32) (n_highs : Nat → Int32) (n_linesAt : Nat → Int64) (n_pointCount : Int32) (n_lineCount : Int32) (n_tideNow : Int32) (n_age : Int32) (p1 : Int32) (rv : Int64) (hf : f_X1_meeting n_lows n_highs n_linesAt p1 = some (rv)) : Met l yX1_meeting wsX1_meeting (rmk 0 0) (va_Pc [.ref (qn 0), .int p1] (Pre G (tys Y) [(qn 0, oX1 qn n_pointCount n_lineCount n_tideNow n_age), (qn 3, .inl (Y 0, 40, .inl n_lows)), (qn 4, .inl (Y 0, 40, .inl n_highs)), (qn 7, .inl (Y 1, 12, .inr (.inl n_linesAt)))] sz xT)) (va_Ql (fun (r : Int64) (_ : Unit) => r = rv) (Pst G (tys Y) [(qn 0, oX1 qn n_pointCount n_lineCount n_tideNow n_age), (qn 3, .inl (Y 0, 40, .inl n_lows)), (qn 4, .inl (Y 0, 40, .inl n_highs)), (qn 7, .inl (Y 1, 12, .inr (.inl n_linesAt)))] sz [(qn 0, oX1 qn n_pointCount n_lineCount n_tideNow n_age), (qn 3, .inl (Y 0, 40, .inl n_lows)), (qn 4, .inl (Y 0, 40, .inl n_highs)), (qn 7, .inl (Y 1, 12, .inr (.inl n_linesAt)))]) (va_A [(qn 0, oX1 qn n_pointCount n_lineCount n_tideNow n_age), (qn 3, .inl (Y 0, 40, .inl n_lows)), (qn 4, .inl (Y 0, 40, .inl n_highs)), (qn 7, .inl (Y 1, 12, .inr (.inl n_linesAt)))] sz)) 0 0 (va_A [(qn 0, oX1 qn n_pointCount n_lineCount n_tideNow n_age), (qn 3, .inl (Y 0, 40, .inl n_lows)), (qn 4, .inl (Y 0, 40, .inl n_highs)), (qn 7, .inl (Y 1, 12, .inr (.inl n_linesAt)))] sz) := by
  refine Met.ofW (cc := cX1_meeting) (maxL := 2) (ret := (some .long)) (by decide) rfl ?_
  intro p e s m args below meth c s₁ B hml hv
  obtain ⟨rfl, hsz, hP, hK, hD0, hX⟩ := hv
  have hx := B.exec
  have hb := B.bytes
  have hr := B.returns
  have hts := atoms_spec (ws := wsX1_meeting) B.pre
  have hown : s.vm.findClass RX1 = some m.cls := findClass_of_methodNamed B.named
  have hlocks := B.notSynchronized
  subst hsz
  have hD := hD0.self (sz := s.heap.size)
  generalize hAe : va_A [(qn 0, oX1 qn n_pointCount n_lineCount n_tideNow n_age), (qn 3, .inl (Y 0, 40, .inl n_lows)), (qn 4, .inl (Y 0, 40, .inl n_highs)), (qn 7, .inl (Y 1, 12, .inr (.inl n_linesAt)))] s.heap.size = A at hD ⊢
  have hA : ∀ q : Nat, s.heap.size ≤ q → A q := fun q h => by rw [← hAe]; exact Or.inr h
  have hS : va_S A s.heap s.heap [] := va_S.rf
  have hP : va_P G vwCl [(qn 0, oX1 qn n_pointCount n_lineCount n_tideNow n_age), (qn 3, .inl (Y 0, 40, .inl n_lows)), (qn 4, .inl (Y 0, 40, .inl n_highs)), (qn 7, .inl (Y 1, 12, .inr (.inl n_linesAt)))] s.heap := hP
  have wd1 : (Cond.fieldLink RX1 30 "PairedLines$Net" "linesAt" "[J").before [.ref (qn 0), .int p1].toArray s = true := hts _ (List.mem_of_getElem? (i := 1) rfl)
  have wd2 : (Cond.fieldLink RX1 18 "PairedLines$Net" "lows" "[I").before [.ref (qn 0), .int p1].toArray s = true := hts _ (List.mem_of_getElem? (i := 2) rfl)
  have wd3 : (Cond.fieldLink RX1 21 "PairedLines$Net" "highs" "[I").before [.ref (qn 0), .int p1].toArray s = true := hts _ (List.mem_of_getElem? (i := 3) rfl)
  have inX1w : ∀ w ∈ u_ws RX1 TX1 11, w ∈ wsX1_meeting := fun w hw => List.mem_cons_of_mem _ (List.mem_append_right _ (hw))
  have hl := lv_entry ([.ref (qn 0), .int p1]) (n := 2) (Nat.le_of_ble_eq_true rfl)
  rw [lg_entry_eq]
  generalize (lg_sl ([.ref (qn 0), .int p1]) ++ List.replicate (2 - (lg_sl ([.ref (qn 0), .int p1])).length) Slot.unset).toArray = ls at hl ⊢
  have hl : lv_has ls 2 [(0, .ref (qn 0)), (1, .int p1)] := hl
  have E0 : ∀ (H : Heap) (locs : List Loc), va_P G vwCl [(qn 0, oX1 qn n_pointCount n_lineCount n_tideNow n_age), (qn 3, .inl (Y 0, 40, .inl n_lows)), (qn 4, .inl (Y 0, 40, .inl n_highs)), (qn 7, .inl (Y 1, 12, .inr (.inl n_linesAt)))] H → va_D A [(qn 0, oX1 qn n_pointCount n_lineCount n_tideNow n_age), (qn 3, .inl (Y 0, 40, .inl n_lows)), (qn 4, .inl (Y 0, 40, .inl n_highs)), (qn 7, .inl (Y 1, 12, .inr (.inl n_linesAt)))] → va_S A s.heap H locs → ∀ (ls : Array Slot), lv_has ls 2 [(0, .ref (qn 0)), (1, .int p1)] → W p l e (headSpec wsX1_meeting (rmk 0 0)).room s m [.ref (qn 0), .int p1].toArray below meth c H locs 0 0 (MQ below (va_Ql (fun (r : Int64) (_ : Unit) => r = rv) (Pst G (tys Y) [(qn 0, oX1 qn n_pointCount n_lineCount n_tideNow n_age), (qn 3, .inl (Y 0, 40, .inl n_lows)), (qn 4, .inl (Y 0, 40, .inl n_highs)), (qn 7, .inl (Y 1, 12, .inr (.inl n_linesAt)))] s.heap.size [(qn 0, oX1 qn n_pointCount n_lineCount n_tideNow n_age), (qn 3, .inl (Y 0, 40, .inl n_lows)), (qn 4, .inl (Y 0, 40, .inl n_highs)), (qn 7, .inl (Y 1, 12, .inr (.inl n_linesAt)))]) A) [.ref (qn 0), .int p1].toArray s 0 0 A) (F0 m 0 ls []) := by
    intro H locs hP hD hS ls hl
    unfold f_X1_meeting at hf
    refine lv_aload_n hx hb dX1_meeting_0 rfl (lv_at hl 0 rfl) ?_
    refine va_get (D := G) (ci := 0) (v := .ref (qn 7)) (C := RX1) (T := TX1) (N := 11) hx hb hts inX1w hown hK hP 0 rfl rfl 6 (by decide) wd1 (fun _ h9 => h9) rfl dX1_meeting_1 ?_
    refine lv_aload_n hx hb dX1_meeting_4 rfl (lv_at hl 0 rfl) ?_
    refine va_get (D := G) (ci := 0) (v := .ref (qn 3)) (C := RX1) (T := TX1) (N := 11) hx hb hts inX1w hown hK hP 0 rfl rfl 2 (by decide) wd2 (fun _ h9 => h9) rfl dX1_meeting_5 ?_
    refine lv_iload_n hx hb dX1_meeting_8 rfl (lv_at hl 1 rfl) ?_
    obtain ⟨g1, hf⟩ := gd hf
    refine va_iald hx hb hK hP 1 0 rfl rfl g1 dX1_meeting_9 ?_
    obtain ⟨g2, hf⟩ := gd hf
    refine va_lald hx hb hK hP 3 1 rfl rfl g2 dX1_meeting_10 ?_
    refine lv_aload_n hx hb dX1_meeting_11 rfl (lv_at hl 0 rfl) ?_
    refine va_get (D := G) (ci := 0) (v := .ref (qn 7)) (C := RX1) (T := TX1) (N := 11) hx hb hts inX1w hown hK hP 0 rfl rfl 6 (by decide) wd1 (fun _ h9 => h9) rfl dX1_meeting_12 ?_
    refine lv_aload_n hx hb dX1_meeting_15 rfl (lv_at hl 0 rfl) ?_
    refine va_get (D := G) (ci := 0) (v := .ref (qn 4)) (C := RX1) (T := TX1) (N := 11) hx hb hts inX1w hown hK hP 0 rfl rfl 3 (by decide) wd3 (fun _ h9 => h9) rfl dX1_meeting_16 ?_
    refine lv_iload_n hx hb dX1_meeting_19 rfl (lv_at hl 1 rfl) ?_
    obtain ⟨g3, hf⟩ := gd hf
    refine va_iald hx hb hK hP 2 0 rfl rfl g3 dX1_meeting_20 ?_
    obtain ⟨g4, hf⟩ := gd hf
    refine va_lald hx hb hK hP 3 1 rfl rfl g4 dX1_meeting_21 ?_
    refine lv_lor hx hb dX1_meeting_22 ?_
    have e0 := rt1 hf
    exact W.lret (v := ((n_linesAt (n_lows p1.toNatClampNeg).toNatClampNeg) ||| (n_linesAt (n_highs p1.toNatClampNeg).toNatClampNeg))) hx hb hr (fun t ht hW => ⟨⟨((n_linesAt (n_lows p1.toNatClampNeg).toNatClampNeg) ||| (n_linesAt (n_highs p1.toNatClampNeg).toNatClampNeg)), (), rfl, e0, by rw [ht]; exact hP, va_K.moved hW.alike hK, by rw [hAe]; exact hD⟩, hS.F ht⟩) hS.2.2 dX1_meeting_23
  exact E0 s.heap [] hP hD hS ls hl
-- X1_meetNowhere
set_option maxRecDepth 100000 in
set_option maxHeartbeats 4000000 in
theorem c_X1_meetNowhere (l : Launch) (G : va_G) (Y : Nat → ClassId) (sz : Nat) (qn : Nat → Nat) (n_lows : Nat → Int32) (n_highs : Nat → Int32) (n_pointCount : Int32) (n_lineCount : Int32) (n_tideNow : Int32) (n_age : Int32) (p1 : Int64) (rv : Int32) (hf : f_X1_meetNowhere n_lows n_highs n_lineCount p1 = some (rv)) : Met l yX1_meetNowhere wsX1_meetNowhere (rmk 0 0) (va_Pc [.ref (qn 0), .long p1] (Pre G (tys Y) [(qn 0, oX1 qn n_pointCount n_lineCount n_tideNow n_age), (qn 3, .inl (Y 0, 40, .inl n_lows)), (qn 4, .inl (Y 0, 40, .inl n_highs))] sz xT)) (va_Qi (fun (r : Int32) (_ : Unit) => r = rv) (Pst G (tys Y) [(qn 0, oX1 qn n_pointCount n_lineCount n_tideNow n_age), (qn 3, .inl (Y 0, 40, .inl n_lows)), (qn 4, .inl (Y 0, 40, .inl n_highs))] sz [(qn 0, oX1 qn n_pointCount n_lineCount n_tideNow n_age), (qn 3, .inl (Y 0, 40, .inl n_lows)), (qn 4, .inl (Y 0, 40, .inl n_highs))]) (va_A [(qn 0, oX1 qn n_pointCount n_lineCount n_tideNow n_age), (qn 3, .inl (Y 0, 40, .inl n_lows)), (qn 4, .inl (Y 0, 40, .inl n_highs))] sz)) 0 0 (va_A [(qn 0, oX1 qn n_pointCount n_lineCount n_tideNow n_age), (qn 3, .inl (Y 0, 40, .inl n_lows)), (qn 4, .inl (Y 0, 40, .inl n_highs))] sz) := by
  refine Met.ofW (cc := cX1_meetNowhere) (maxL := 6) (ret := (some .boolean)) (by decide) rfl ?_
  intro p e s m args below meth c s₁ B hml hv
  obtain ⟨rfl, hsz, hP, hK, hD0, hX⟩ := hv
  have hx := B.exec
  have hb := B.bytes
  have hr := B.returns
  have hts := atoms_spec (ws := wsX1_meetNowhere) B.pre
  have hown : s.vm.findClass RX1 = some m.cls := findClass_of_methodNamed B.named
  have hlocks := B.notSynchronized
  subst hsz
  have hD := hD0.self (sz := s.heap.size)
  generalize hAe : va_A [(qn 0, oX1 qn n_pointCount n_lineCount n_tideNow n_age), (qn 3, .inl (Y 0, 40, .inl n_lows)), (qn 4, .inl (Y 0, 40, .inl n_highs))] s.heap.size = A at hD ⊢
  have hA : ∀ q : Nat, s.heap.size ≤ q → A q := fun q h => by rw [← hAe]; exact Or.inr h
  have hS : va_S A s.heap s.heap [] := va_S.rf
  have hP : va_P G vwCl [(qn 0, oX1 qn n_pointCount n_lineCount n_tideNow n_age), (qn 3, .inl (Y 0, 40, .inl n_lows)), (qn 4, .inl (Y 0, 40, .inl n_highs))] s.heap := hP
  have wd1 : (Cond.fieldLink RX1 38 "PairedLines$Net" "lineCount" "I").before [.ref (qn 0), .long p1].toArray s = true := hts _ (List.mem_of_getElem? (i := 1) rfl)
  have wd2 : (Cond.fieldLink RX1 18 "PairedLines$Net" "lows" "[I").before [.ref (qn 0), .long p1].toArray s = true := hts _ (List.mem_of_getElem? (i := 2) rfl)
  have wd3 : (Cond.fieldLink RX1 21 "PairedLines$Net" "highs" "[I").before [.ref (qn 0), .long p1].toArray s = true := hts _ (List.mem_of_getElem? (i := 3) rfl)
  have inX1w : ∀ w ∈ u_ws RX1 TX1 11, w ∈ wsX1_meetNowhere := fun w hw => List.mem_cons_of_mem _ (List.mem_append_right _ (hw))
  have hl := lv_entry ([.ref (qn 0), .long p1]) (n := 6) (Nat.le_of_ble_eq_true rfl)
  rw [lg_entry_eq]
  generalize (lg_sl ([.ref (qn 0), .long p1]) ++ List.replicate (6 - (lg_sl ([.ref (qn 0), .long p1])).length) Slot.unset).toArray = ls at hl ⊢
  have hl : lv_has ls 6 [(0, .ref (qn 0)), (1, .long p1)] := hl
  have B5 : ∀ (n5 : Nat), ∀ (x3 : Int32) (x4 : Int32), f_X1_meetNowhere_b5 n_lows n_highs n_lineCount p1 n5 x3 x4 = some (rv) → ∀ (H : Heap) (locs : List Loc), va_P G vwCl [(qn 0, oX1 qn n_pointCount n_lineCount n_tideNow n_age), (qn 3, .inl (Y 0, 40, .inl n_lows)), (qn 4, .inl (Y 0, 40, .inl n_highs))] H → va_D A [(qn 0, oX1 qn n_pointCount n_lineCount n_tideNow n_age), (qn 3, .inl (Y 0, 40, .inl n_lows)), (qn 4, .inl (Y 0, 40, .inl n_highs))] → va_S A s.heap H locs → ∀ (ls : Array Slot), lv_has ls 6 [(0, .ref (qn 0)), (1, .long p1), (3, .int x3), (4, .int x4)] → W p l e (headSpec wsX1_meetNowhere (rmk 0 0)).room s m [.ref (qn 0), .long p1].toArray below meth c H locs 0 0 (MQ below (va_Qi (fun (r : Int32) (_ : Unit) => r = rv) (Pst G (tys Y) [(qn 0, oX1 qn n_pointCount n_lineCount n_tideNow n_age), (qn 3, .inl (Y 0, 40, .inl n_lows)), (qn 4, .inl (Y 0, 40, .inl n_highs))] s.heap.size [(qn 0, oX1 qn n_pointCount n_lineCount n_tideNow n_age), (qn 3, .inl (Y 0, 40, .inl n_lows)), (qn 4, .inl (Y 0, 40, .inl n_highs))]) A) [.ref (qn 0), .long p1].toArray s 0 0 A) (F0 m 5 ls []) := by
    intro n5
    induction n5 with
    | zero =>
      intro x3 x4 hf H locs hP hD hS ls hl
      exact no_none hf
    | succ n5 ih5 =>
      intro x3 x4 hf H locs hP hD hS ls hl
      have hf : f_X1_meetNowhere_s5 n_lows n_highs n_lineCount p1 (f_X1_meetNowhere_b5 n_lows n_highs n_lineCount p1  n5) x3 x4 = some (rv) := hf
      unfold f_X1_meetNowhere_s5 at hf
      refine lv_iload hx hb dX1_meetNowhere_5 (lv_at hl 3 rfl) ?_
      refine lv_aload_n hx hb dX1_meetNowhere_7 rfl (lv_at hl 0 rfl) ?_
      refine va_get (D := G) (ci := 0) (v := .int n_lineCount) (C := RX1) (T := TX1) (N := 11) hx hb hts inX1w hown hK hP 0 rfl rfl 8 (by decide) wd1 (fun _ h9 => h9) rfl dX1_meetNowhere_8 ?_
      refine lv_icmp_ge (tgt := 66) hx hb dX1_meetNowhere_11 (by decide) (fun c1 => ?_) (fun c1 => ?_)
      · have hf := it hf c1
        refine lv_iconst (v := 1) hx hb dX1_meetNowhere_66 (by decide) ?_
        have e0 := rt1 hf
        exact W.zret (v := (1 : Int32)) hx hb hr rfl (fun t ht hW => ⟨⟨(1 : Int32), (), rfl, e0, by rw [ht]; exact hP, va_K.moved hW.alike hK, by rw [hAe]; exact hD⟩, hS.F ht⟩) hS.2.2 dX1_meetNowhere_67
      · have hf := ie hf c1
        refine lv_lload_n hx hb dX1_meetNowhere_14 rfl (lv_at hl 1 rfl) ?_
        refine lv_iload hx hb dX1_meetNowhere_15 (lv_at hl 3 rfl) ?_
        refine lv_lushr hx hb dX1_meetNowhere_17 rfl ?_
        refine lv_lconst (v := 1) hx hb dX1_meetNowhere_18 (by decide) ?_
        refine lv_land hx hb dX1_meetNowhere_19 ?_
        refine lv_lconst (v := 0) hx hb dX1_meetNowhere_20 (by decide) ?_
        refine W.lcmp hx hb dX1_meetNowhere_21 ?_
        refine lv_if_eq (tgt := 60) hx hb dX1_meetNowhere_22 (by decide) (fun c2 => ?_) (fun c2 => ?_)
        · have hf := it hf c2
          obtain ⟨v3, e_v3⟩ : ∃ z : Int32, z = (x4 + 1) := ⟨_, rfl⟩
          have hf := nm_at hf e_v3
          refine lv_iinc (v := v3) (lv' := [(4, .int v3), (0, .ref (qn 0)), (1, .long p1), (3, .int x3)]) hx hb dX1_meetNowhere_60 hl (k := 3) rfl (by rw [e_v3]; rfl) (by decide) rfl (fun ls hl => ?_)
          refine lv_goto (tgt := 5) hx hb dX1_meetNowhere_63 (by decide) ?_
          exact ih5 x3 v3 hf _ _ hP hD hS ls (lv_sub hl [1, 2, 3, 0] rfl)
        · have hf := ie hf c2
          refine lv_iconst (v := 1) hx hb dX1_meetNowhere_25 (by decide) ?_
          refine lv_aload_n hx hb dX1_meetNowhere_26 rfl (lv_at hl 0 rfl) ?_
          refine va_get (D := G) (ci := 0) (v := .ref (qn 3)) (C := RX1) (T := TX1) (N := 11) hx hb hts inX1w hown hK hP 0 rfl rfl 2 (by decide) wd2 (fun _ h9 => h9) rfl dX1_meetNowhere_27 ?_
          refine lv_iload hx hb dX1_meetNowhere_30 (lv_at hl 3 rfl) ?_
          obtain ⟨g4, hf⟩ := gd hf
          refine va_iald hx hb hK hP 1 0 rfl rfl g4 dX1_meetNowhere_32 ?_
          refine lv_ishl hx hb dX1_meetNowhere_33 ?_
          refine lv_iconst (v := 1) hx hb dX1_meetNowhere_34 (by decide) ?_
          refine lv_aload_n hx hb dX1_meetNowhere_35 rfl (lv_at hl 0 rfl) ?_
          refine va_get (D := G) (ci := 0) (v := .ref (qn 4)) (C := RX1) (T := TX1) (N := 11) hx hb hts inX1w hown hK hP 0 rfl rfl 3 (by decide) wd3 (fun _ h9 => h9) rfl dX1_meetNowhere_36 ?_
          refine lv_iload hx hb dX1_meetNowhere_39 (lv_at hl 3 rfl) ?_
          obtain ⟨g5, hf⟩ := gd hf
          refine va_iald hx hb hK hP 2 0 rfl rfl g5 dX1_meetNowhere_41 ?_
          refine lv_ishl hx hb dX1_meetNowhere_42 ?_
          refine lv_ior hx hb dX1_meetNowhere_43 ?_
          refine lv_topi (fun v6 e_v6 => ?_)
          have hf := nm_at hf e_v6
          refine lv_istore (lv' := [(5, .int v6), (0, .ref (qn 0)), (1, .long p1), (3, .int x3), (4, .int x4)]) hx hb dX1_meetNowhere_44 hl (by decide) rfl (fun ls hl => ?_)
          refine lv_iload_n hx hb dX1_meetNowhere_46 rfl (lv_at hl 3 rfl) ?_
          refine lv_iload hx hb dX1_meetNowhere_47 (lv_at hl 0 rfl) ?_
          refine lv_iand hx hb dX1_meetNowhere_49 ?_
          refine lv_if_eq (tgt := 55) hx hb dX1_meetNowhere_50 (by decide) (fun c7 => ?_) (fun c7 => ?_)
          · have hf := it hf c7
            refine lv_iload_n hx hb dX1_meetNowhere_55 rfl (lv_at hl 3 rfl) ?_
            refine lv_iload hx hb dX1_meetNowhere_56 (lv_at hl 0 rfl) ?_
            refine lv_ior hx hb dX1_meetNowhere_58 ?_
            refine lv_topi (fun v8 e_v8 => ?_)
            have hf := nm_at hf e_v8
            refine lv_istore_n (lv' := [(3, .int v8), (5, .int v6), (0, .ref (qn 0)), (1, .long p1), (4, .int x4)]) hx hb dX1_meetNowhere_59 rfl hl (by decide) rfl (fun ls hl => ?_)
            obtain ⟨v9, e_v9⟩ : ∃ z : Int32, z = (x4 + 1) := ⟨_, rfl⟩
            have hf := nm_at hf e_v9
            refine lv_iinc (v := v9) (lv' := [(4, .int v9), (3, .int v8), (5, .int v6), (0, .ref (qn 0)), (1, .long p1)]) hx hb dX1_meetNowhere_60 hl (k := 4) rfl (by rw [e_v9]; rfl) (by decide) rfl (fun ls hl => ?_)
            refine lv_goto (tgt := 5) hx hb dX1_meetNowhere_63 (by decide) ?_
            exact ih5 v8 v9 hf _ _ hP hD hS ls (lv_sub hl [3, 4, 1, 0] rfl)
          · have hf := ie hf c7
            refine lv_iconst (v := 0) hx hb dX1_meetNowhere_53 (by decide) ?_
            have e0 := rt1 hf
            exact W.zret (v := (0 : Int32)) hx hb hr rfl (fun t ht hW => ⟨⟨(0 : Int32), (), rfl, e0, by rw [ht]; exact hP, va_K.moved hW.alike hK, by rw [hAe]; exact hD⟩, hS.F ht⟩) hS.2.2 dX1_meetNowhere_54
  have E0 : ∀ (H : Heap) (locs : List Loc), va_P G vwCl [(qn 0, oX1 qn n_pointCount n_lineCount n_tideNow n_age), (qn 3, .inl (Y 0, 40, .inl n_lows)), (qn 4, .inl (Y 0, 40, .inl n_highs))] H → va_D A [(qn 0, oX1 qn n_pointCount n_lineCount n_tideNow n_age), (qn 3, .inl (Y 0, 40, .inl n_lows)), (qn 4, .inl (Y 0, 40, .inl n_highs))] → va_S A s.heap H locs → ∀ (ls : Array Slot), lv_has ls 6 [(0, .ref (qn 0)), (1, .long p1)] → W p l e (headSpec wsX1_meetNowhere (rmk 0 0)).room s m [.ref (qn 0), .long p1].toArray below meth c H locs 0 0 (MQ below (va_Qi (fun (r : Int32) (_ : Unit) => r = rv) (Pst G (tys Y) [(qn 0, oX1 qn n_pointCount n_lineCount n_tideNow n_age), (qn 3, .inl (Y 0, 40, .inl n_lows)), (qn 4, .inl (Y 0, 40, .inl n_highs))] s.heap.size [(qn 0, oX1 qn n_pointCount n_lineCount n_tideNow n_age), (qn 3, .inl (Y 0, 40, .inl n_lows)), (qn 4, .inl (Y 0, 40, .inl n_highs))]) A) [.ref (qn 0), .long p1].toArray s 0 0 A) (F0 m 0 ls []) := by
    intro H locs hP hD hS ls hl
    unfold f_X1_meetNowhere at hf
    refine lv_iconst (v := 0) hx hb dX1_meetNowhere_0 (by decide) ?_
    refine lv_istore_n (lv' := [(3, .int (0 : Int32)), (0, .ref (qn 0)), (1, .long p1)]) hx hb dX1_meetNowhere_1 rfl hl (by decide) rfl (fun ls hl => ?_)
    refine lv_iconst (v := 0) hx hb dX1_meetNowhere_2 (by decide) ?_
    refine lv_istore (lv' := [(4, .int (0 : Int32)), (3, .int (0 : Int32)), (0, .ref (qn 0)), (1, .long p1)]) hx hb dX1_meetNowhere_3 hl (by decide) rfl (fun ls hl => ?_)
    exact B5 70 (0 : Int32) (0 : Int32) hf _ _ hP hD hS ls (lv_sub hl [2, 3, 1, 0] rfl)
  exact E0 s.heap [] hP hD hS ls hl
-- X1_productOf
set_option maxRecDepth 100000 in
set_option maxHeartbeats 4000000 in
theorem c_X1_productOf (l : Launch) (G : va_G) (Y : Nat → ClassId) (sz : Nat) (qn : Nat → Nat) (n_kinds : Nat → Int32) (n_figures : Nat → Int32) (n_pointCount : Int32) (n_lineCount : Int32) (n_tideNow : Int32) (n_age : Int32) (p1 : Int64) (rv : Int64) (hf : f_X1_productOf n_kinds n_figures n_lineCount n_tideNow p1 = some (rv)) : Met l yX1_productOf wsX1_productOf (rmk 3 64) (va_Pc [.ref (qn 0), .long p1] (Pre G (tys Y) [(qn 0, oX1 qn n_pointCount n_lineCount n_tideNow n_age), (qn 1, .inl (Y 0, 40, .inl n_kinds)), (qn 2, .inl (Y 0, 40, .inl n_figures))] sz xN)) (va_Ql (fun (r : Int64) (_ : Unit) => r = rv) (Pst G (tys Y) [(qn 0, oX1 qn n_pointCount n_lineCount n_tideNow n_age), (qn 1, .inl (Y 0, 40, .inl n_kinds)), (qn 2, .inl (Y 0, 40, .inl n_figures))] sz [(qn 0, oX1 qn n_pointCount n_lineCount n_tideNow n_age), (qn 1, .inl (Y 0, 40, .inl n_kinds)), (qn 2, .inl (Y 0, 40, .inl n_figures))]) (va_A [(qn 0, oX1 qn n_pointCount n_lineCount n_tideNow n_age), (qn 1, .inl (Y 0, 40, .inl n_kinds)), (qn 2, .inl (Y 0, 40, .inl n_figures))] sz)) 0 0 (va_A [(qn 0, oX1 qn n_pointCount n_lineCount n_tideNow n_age), (qn 1, .inl (Y 0, 40, .inl n_kinds)), (qn 2, .inl (Y 0, 40, .inl n_figures))] sz) := by
  refine Met.ofW (cc := cX1_productOf) (maxL := 7) (ret := (some .long)) (by decide) rfl ?_
  intro p e s m args below meth c s₁ B hml hv
  obtain ⟨rfl, hsz, hP, hK, hD0, hX⟩ := hv
  have hx := B.exec
  have hb := B.bytes
  have hr := B.returns
  have hts := atoms_spec (ws := wsX1_productOf) B.pre
  have hown : s.vm.findClass RX1 = some m.cls := findClass_of_methodNamed B.named
  have hlocks := B.notSynchronized
  subst hsz
  have hD := hD0.self (sz := s.heap.size)
  generalize hAe : va_A [(qn 0, oX1 qn n_pointCount n_lineCount n_tideNow n_age), (qn 1, .inl (Y 0, 40, .inl n_kinds)), (qn 2, .inl (Y 0, 40, .inl n_figures))] s.heap.size = A at hD ⊢
  have hA : ∀ q : Nat, s.heap.size ≤ q → A q := fun q h => by rw [← hAe]; exact Or.inr h
  have hS : va_S A s.heap s.heap [] := va_S.rf
  have hP : va_P G vwCl [(qn 0, oX1 qn n_pointCount n_lineCount n_tideNow n_age), (qn 1, .inl (Y 0, 40, .inl n_kinds)), (qn 2, .inl (Y 0, 40, .inl n_figures))] s.heap := hP
  have wd1 : (Cond.fieldLink RX1 38 "PairedLines$Net" "lineCount" "I").before [.ref (qn 0), .long p1].toArray s = true := hts _ (List.mem_of_getElem? (i := 1) rfl)
  have inX1w : ∀ w ∈ u_ws RX1 TX1 11, w ∈ wsX1_productOf := fun w hw => List.mem_cons_of_mem _ (List.mem_append_right _ (hw))
  have hl := lv_entry ([.ref (qn 0), .long p1]) (n := 7) (Nat.le_of_ble_eq_true rfl)
  rw [lg_entry_eq]
  generalize (lg_sl ([.ref (qn 0), .long p1]) ++ List.replicate (7 - (lg_sl ([.ref (qn 0), .long p1])).length) Slot.unset).toArray = ls at hl ⊢
  have hl : lv_has ls 7 [(0, .ref (qn 0)), (1, .long p1)] := hl
  have B5 : ∀ (n5 : Nat), ∀ (x3 : Int64) (x5 : Int32), f_X1_productOf_b5 n_kinds n_figures n_lineCount n_tideNow p1 n5 x3 x5 = some (rv) → ∀ (H : Heap) (locs : List Loc), va_P G vwCl [(qn 0, oX1 qn n_pointCount n_lineCount n_tideNow n_age), (qn 1, .inl (Y 0, 40, .inl n_kinds)), (qn 2, .inl (Y 0, 40, .inl n_figures))] H → va_D A [(qn 0, oX1 qn n_pointCount n_lineCount n_tideNow n_age), (qn 1, .inl (Y 0, 40, .inl n_kinds)), (qn 2, .inl (Y 0, 40, .inl n_figures))] → va_S A s.heap H locs → ∀ (ls : Array Slot), lv_has ls 7 [(0, .ref (qn 0)), (1, .long p1), (3, .long x3), (5, .int x5)] → W p l e (headSpec wsX1_productOf (rmk 3 64)).room s m [.ref (qn 0), .long p1].toArray below meth c H locs 0 0 (MQ below (va_Ql (fun (r : Int64) (_ : Unit) => r = rv) (Pst G (tys Y) [(qn 0, oX1 qn n_pointCount n_lineCount n_tideNow n_age), (qn 1, .inl (Y 0, 40, .inl n_kinds)), (qn 2, .inl (Y 0, 40, .inl n_figures))] s.heap.size [(qn 0, oX1 qn n_pointCount n_lineCount n_tideNow n_age), (qn 1, .inl (Y 0, 40, .inl n_kinds)), (qn 2, .inl (Y 0, 40, .inl n_figures))]) A) [.ref (qn 0), .long p1].toArray s 0 0 A) (F0 m 5 ls []) := by
    intro n5
    induction n5 with
    | zero =>
      intro x3 x5 hf H locs hP hD hS ls hl
      exact no_none hf
    | succ n5 ih5 =>
      intro x3 x5 hf H locs hP hD hS ls hl
      have hf : f_X1_productOf_s5 n_kinds n_figures n_lineCount n_tideNow p1 (f_X1_productOf_b5 n_kinds n_figures n_lineCount n_tideNow p1  n5) x3 x5 = some (rv) := hf
      unfold f_X1_productOf_s5 at hf
      refine lv_iload hx hb dX1_productOf_5 (lv_at hl 3 rfl) ?_
      refine lv_aload_n hx hb dX1_productOf_7 rfl (lv_at hl 0 rfl) ?_
      refine va_get (D := G) (ci := 0) (v := .int n_lineCount) (C := RX1) (T := TX1) (N := 11) hx hb hts inX1w hown hK hP 0 rfl rfl 8 (by decide) wd1 (fun _ h9 => h9) rfl dX1_productOf_8 ?_
      refine lv_icmp_ge (tgt := 54) hx hb dX1_productOf_11 (by decide) (fun c1 => ?_) (fun c1 => ?_)
      · have hf := it hf c1
        refine lv_lload_n hx hb dX1_productOf_54 rfl (lv_at hl 2 rfl) ?_
        have e0 := rt1 hf
        exact W.lret (v := x3) hx hb hr (fun t ht hW => ⟨⟨x3, (), rfl, e0, by rw [ht]; exact hP, va_K.moved hW.alike hK, by rw [hAe]; exact hD⟩, hS.F ht⟩) hS.2.2 dX1_productOf_55
      · have hf := ie hf c1
        refine lv_lload_n hx hb dX1_productOf_14 rfl (lv_at hl 1 rfl) ?_
        refine lv_iload hx hb dX1_productOf_15 (lv_at hl 3 rfl) ?_
        refine lv_lushr hx hb dX1_productOf_17 rfl ?_
        refine lv_lconst (v := 1) hx hb dX1_productOf_18 (by decide) ?_
        refine lv_land hx hb dX1_productOf_19 ?_
        refine lv_lconst (v := 0) hx hb dX1_productOf_20 (by decide) ?_
        refine W.lcmp hx hb dX1_productOf_21 ?_
        refine lv_if_eq (tgt := 48) hx hb dX1_productOf_22 (by decide) (fun c2 => ?_) (fun c2 => ?_)
        · have hf := it hf c2
          obtain ⟨v3, e_v3⟩ : ∃ z : Int32, z = (x5 + 1) := ⟨_, rfl⟩
          have hf := nm_at hf e_v3
          refine lv_iinc (v := v3) (lv' := [(5, .int v3), (0, .ref (qn 0)), (1, .long p1), (3, .long x3)]) hx hb dX1_productOf_48 hl (k := 3) rfl (by rw [e_v3]; rfl) (by decide) rfl (fun ls hl => ?_)
          refine lv_goto (tgt := 5) hx hb dX1_productOf_51 (by decide) ?_
          exact ih5 x3 v3 hf _ _ hP hD hS ls (lv_sub hl [1, 2, 3, 0] rfl)
        · have hf := ie hf c2
          refine lv_aload_n hx hb dX1_productOf_25 rfl (lv_at hl 0 rfl) ?_
          refine lv_iload hx hb dX1_productOf_26 (lv_at hl 3 rfl) ?_
          obtain ⟨r4, hc, hf⟩ := bd1 hf
          refine cl_i (ws' := [(qn 0, oX1 qn n_pointCount n_lineCount n_tideNow n_age), (qn 1, .inl (Y 0, 40, .inl n_kinds)), (qn 2, .inl (Y 0, 40, .inl n_figures))]) (wr := []) (rnV (As := [.int x5]) (rest := []) ⟨hx, hb, hml, hown, hts⟩ (c_X1_weightOf l G Y H.size qn n_kinds n_figures n_pointCount n_lineCount n_tideNow n_age x5 r4 hc) (cwV 1 hts gX1_productOf_X1_weightOf rfl rfl rfl (by decide +kernel) ⟨(Nat.le_of_ble_eq_true rfl), (Nat.le_of_ble_eq_true rfl)⟩) hX okN hK hP hD [0, 1, 2] rfl rfl (ci := 0) (q0 := 0) rfl rfl rfl rfl hl.1 rfl (Nat.le_of_ble_eq_true rfl) dX1_productOf_28) hP hD hS hA [0, 1, 2] [] [0, 1, 2] rfl rfl rfl (by decide) rfl rfl (fun H locs hP hD hS => ?_)
          refine lv_istore (lv' := [(6, .int r4), (0, .ref (qn 0)), (1, .long p1), (3, .long x3), (5, .int x5)]) hx hb dX1_productOf_31 hl (by decide) rfl (fun ls hl => ?_)
          refine lv_iload hx hb dX1_productOf_33 (lv_at hl 0 rfl) ?_
          refine lv_if_ne (tgt := 40) hx hb dX1_productOf_35 (by decide) (fun c5 => ?_) (fun c5 => ?_)
          · have hf := ie hf c5
            refine lv_lload_n hx hb dX1_productOf_40 rfl (lv_at hl 3 rfl) ?_
            refine lv_iload hx hb dX1_productOf_41 (lv_at hl 0 rfl) ?_
            refine lv_i2l hx hb dX1_productOf_43 rfl ?_
            obtain ⟨r6, hc, hf⟩ := bd1 hf
            refine cl_l (ws' := [(qn 0, oX1 qn n_pointCount n_lineCount n_tideNow n_age), (qn 1, .inl (Y 0, 40, .inl n_kinds)), (qn 2, .inl (Y 0, 40, .inl n_figures))]) (wr := [(qn 0, oX1 qn n_pointCount n_lineCount n_tideNow n_age), (qn 1, .inl (Y 0, 40, .inl n_kinds)), (qn 2, .inl (Y 0, 40, .inl n_figures))]) (rnS (As := [.long x3, .long r4.toInt64]) (rest := []) ⟨hx, hb, hml, hown, hts⟩ (c_X7_times l G Y H.size x3 r4.toInt64 r6 hc) (va_cwS 2 hts gX1_productOf_X7_times rfl rfl rfl (by decide +kernel) ⟨(Nat.le_of_ble_eq_true rfl), (Nat.le_of_ble_eq_true rfl)⟩) trivial okT hK hP hD [] rfl rfl rfl hl.1 rfl (Nat.le_of_ble_eq_true rfl) dX1_productOf_44) hP hD hS hA [] [0, 1, 2] [0, 1, 2] rfl rfl rfl (by decide) rfl rfl (fun H locs hP hD hS => ?_)
            refine lv_lstore_n (lv' := [(3, .long r6), (6, .int r4), (0, .ref (qn 0)), (1, .long p1), (5, .int x5)]) hx hb dX1_productOf_47 rfl hl (by decide) rfl (fun ls hl => ?_)
            obtain ⟨v7, e_v7⟩ : ∃ z : Int32, z = (x5 + 1) := ⟨_, rfl⟩
            have hf := nm_at hf e_v7
            refine lv_iinc (v := v7) (lv' := [(5, .int v7), (3, .long r6), (6, .int r4), (0, .ref (qn 0)), (1, .long p1)]) hx hb dX1_productOf_48 hl (k := 4) rfl (by rw [e_v7]; rfl) (by decide) rfl (fun ls hl => ?_)
            refine lv_goto (tgt := 5) hx hb dX1_productOf_51 (by decide) ?_
            exact ih5 r6 v7 hf _ _ hP hD hS ls (lv_sub hl [3, 4, 1, 0] rfl)
          · have hf := it hf c5
            refine lv_lconst (v := 0) hx hb dX1_productOf_38 (by decide) ?_
            have e0 := rt1 hf
            exact W.lret (v := (0 : Int64)) hx hb hr (fun t ht hW => ⟨⟨(0 : Int64), (), rfl, e0, by rw [ht]; exact hP, va_K.moved hW.alike hK, by rw [hAe]; exact hD⟩, hS.F ht⟩) hS.2.2 dX1_productOf_39
  have E0 : ∀ (H : Heap) (locs : List Loc), va_P G vwCl [(qn 0, oX1 qn n_pointCount n_lineCount n_tideNow n_age), (qn 1, .inl (Y 0, 40, .inl n_kinds)), (qn 2, .inl (Y 0, 40, .inl n_figures))] H → va_D A [(qn 0, oX1 qn n_pointCount n_lineCount n_tideNow n_age), (qn 1, .inl (Y 0, 40, .inl n_kinds)), (qn 2, .inl (Y 0, 40, .inl n_figures))] → va_S A s.heap H locs → ∀ (ls : Array Slot), lv_has ls 7 [(0, .ref (qn 0)), (1, .long p1)] → W p l e (headSpec wsX1_productOf (rmk 3 64)).room s m [.ref (qn 0), .long p1].toArray below meth c H locs 0 0 (MQ below (va_Ql (fun (r : Int64) (_ : Unit) => r = rv) (Pst G (tys Y) [(qn 0, oX1 qn n_pointCount n_lineCount n_tideNow n_age), (qn 1, .inl (Y 0, 40, .inl n_kinds)), (qn 2, .inl (Y 0, 40, .inl n_figures))] s.heap.size [(qn 0, oX1 qn n_pointCount n_lineCount n_tideNow n_age), (qn 1, .inl (Y 0, 40, .inl n_kinds)), (qn 2, .inl (Y 0, 40, .inl n_figures))]) A) [.ref (qn 0), .long p1].toArray s 0 0 A) (F0 m 0 ls []) := by
    intro H locs hP hD hS ls hl
    unfold f_X1_productOf at hf
    refine lv_lconst (v := 1) hx hb dX1_productOf_0 (by decide) ?_
    refine lv_lstore_n (lv' := [(3, .long (1 : Int64)), (0, .ref (qn 0)), (1, .long p1)]) hx hb dX1_productOf_1 rfl hl (by decide) rfl (fun ls hl => ?_)
    refine lv_iconst (v := 0) hx hb dX1_productOf_2 (by decide) ?_
    refine lv_istore (lv' := [(5, .int (0 : Int32)), (3, .long (1 : Int64)), (0, .ref (qn 0)), (1, .long p1)]) hx hb dX1_productOf_3 hl (by decide) rfl (fun ls hl => ?_)
    exact B5 70 (1 : Int64) (0 : Int32) hf _ _ hP hD hS ls (lv_sub hl [2, 3, 1, 0] rfl)
  exact E0 s.heap [] hP hD hS ls hl
