-- X4_prepare
set_option maxRecDepth 100000 in
set_option maxHeartbeats 4000000 in
theorem c_X4_prepare (l : Launch) (G : va_G) (Y : Nat → ClassId) (sz : Nat) (qn : Nat → Nat) (qt : Nat → Nat) (n_kinds : Nat → Int32) (n_figures : Nat → Int32) (n_joins : Nat → Int32) (n_nears : Nat → Int32) (n_pointCount : Int32) (n_lineCount : Int32) (n_tideNow : Int32) (n_age : Int32) (t_nears : Nat → Int32) (t_weights : Nat → Int32) (t_stamp : Int32) (t_age : Int32) (t_isTurned : Int32) (p2 : Int32) (o_t_nears : Nat → Int32) (o_t_weights : Nat → Int32) (o_t_stamp : Int32) (o_t_age : Int32) (o_t_isTurned : Int32) (hf : f_X4_prepare n_kinds n_figures n_joins n_nears n_pointCount n_tideNow n_age t_nears t_weights t_stamp t_age t_isTurned p2 = some (o_t_nears, o_t_weights, o_t_stamp, o_t_age, o_t_isTurned)) : Met l yX4_prepare wsX4_prepare (rmk 4 87) (va_Pc [.ref (qt 0), .ref (qn 0), .int p2] (Pre G (tys Y) [(qn 0, oX1 qn n_pointCount n_lineCount n_tideNow n_age), (qn 1, .inl (Y 0, 40, .inl n_kinds)), (qn 2, .inl (Y 0, 40, .inl n_figures)), (qn 5, .inl (Y 0, 144, .inl n_joins)), (qn 6, .inl (Y 0, 12, .inl n_nears)), (qt 0, oX4 qt t_stamp t_age t_isTurned), (qt 5, .inl (Y 0, 12, .inl t_nears)), (qt 6, .inl (Y 0, 144, .inl t_weights))] sz xN)) (va_Qv (fun (_ : Unit) => True) (Pst G (tys Y) [(qn 0, oX1 qn n_pointCount n_lineCount n_tideNow n_age), (qn 1, .inl (Y 0, 40, .inl n_kinds)), (qn 2, .inl (Y 0, 40, .inl n_figures)), (qn 5, .inl (Y 0, 144, .inl n_joins)), (qn 6, .inl (Y 0, 12, .inl n_nears)), (qt 0, oX4 qt t_stamp t_age t_isTurned), (qt 5, .inl (Y 0, 12, .inl t_nears)), (qt 6, .inl (Y 0, 144, .inl t_weights))] sz [(qn 0, oX1 qn n_pointCount n_lineCount n_tideNow n_age), (qn 1, .inl (Y 0, 40, .inl n_kinds)), (qn 2, .inl (Y 0, 40, .inl n_figures)), (qn 5, .inl (Y 0, 144, .inl n_joins)), (qn 6, .inl (Y 0, 12, .inl n_nears)), (qt 0, oX4 qt o_t_stamp o_t_age o_t_isTurned), (qt 5, .inl (Y 0, 12, .inl o_t_nears)), (qt 6, .inl (Y 0, 144, .inl o_t_weights))]) (va_A [(qn 0, oX1 qn n_pointCount n_lineCount n_tideNow n_age), (qn 1, .inl (Y 0, 40, .inl n_kinds)), (qn 2, .inl (Y 0, 40, .inl n_figures)), (qn 5, .inl (Y 0, 144, .inl n_joins)), (qn 6, .inl (Y 0, 12, .inl n_nears)), (qt 0, oX4 qt t_stamp t_age t_isTurned), (qt 5, .inl (Y 0, 12, .inl t_nears)), (qt 6, .inl (Y 0, 144, .inl t_weights))] sz)) 0 0 (va_A [(qn 0, oX1 qn n_pointCount n_lineCount n_tideNow n_age), (qn 1, .inl (Y 0, 40, .inl n_kinds)), (qn 2, .inl (Y 0, 40, .inl n_figures)), (qn 5, .inl (Y 0, 144, .inl n_joins)), (qn 6, .inl (Y 0, 12, .inl n_nears)), (qt 0, oX4 qt t_stamp t_age t_isTurned), (qt 5, .inl (Y 0, 12, .inl t_nears)), (qt 6, .inl (Y 0, 144, .inl t_weights))] sz) := by
  refine Met.ofW (cc := cX4_prepare) (maxL := 5) (ret := none) (by decide) rfl ?_
  intro p e s m args below meth c s₁ B hml hv
  obtain ⟨rfl, hsz, hP, hK, hD0, hX⟩ := hv
  have hx := B.exec
  have hb := B.bytes
  have hr := B.returns
  have hts := atoms_spec (ws := wsX4_prepare) B.pre
  have hown : s.vm.findClass RX4 = some m.cls := findClass_of_methodNamed B.named
  have hlocks := B.notSynchronized
  subst hsz
  have hD := hD0.self (sz := s.heap.size)
  generalize hAe : va_A [(qn 0, oX1 qn n_pointCount n_lineCount n_tideNow n_age), (qn 1, .inl (Y 0, 40, .inl n_kinds)), (qn 2, .inl (Y 0, 40, .inl n_figures)), (qn 5, .inl (Y 0, 144, .inl n_joins)), (qn 6, .inl (Y 0, 12, .inl n_nears)), (qt 0, oX4 qt t_stamp t_age t_isTurned), (qt 5, .inl (Y 0, 12, .inl t_nears)), (qt 6, .inl (Y 0, 144, .inl t_weights))] s.heap.size = A at hD ⊢
  have hA : ∀ q : Nat, s.heap.size ≤ q → A q := fun q h => by rw [← hAe]; exact Or.inr h
  have hS : va_S A s.heap s.heap [] := va_S.rf
  have hP : va_P G vwCl [(qn 0, oX1 qn n_pointCount n_lineCount n_tideNow n_age), (qn 1, .inl (Y 0, 40, .inl n_kinds)), (qn 2, .inl (Y 0, 40, .inl n_figures)), (qn 5, .inl (Y 0, 144, .inl n_joins)), (qn 6, .inl (Y 0, 12, .inl n_nears)), (qt 0, oX4 qt t_stamp t_age t_isTurned), (qt 5, .inl (Y 0, 12, .inl t_nears)), (qt 6, .inl (Y 0, 144, .inl t_weights))] s.heap := hP
  have wd1 : (Cond.fieldLink RX4 31 "PairedLines$Table" "stamp" "I").before [.ref (qt 0), .ref (qn 0), .int p2].toArray s = true := hts _ (List.mem_of_getElem? (i := 1) rfl)
  have wd2 : (Cond.fieldLink RX4 35 "PairedLines$Table" "age" "I").before [.ref (qt 0), .ref (qn 0), .int p2].toArray s = true := hts _ (List.mem_of_getElem? (i := 2) rfl)
  have wd3 : (Cond.fieldLink RX4 42 "PairedLines$Net" "age" "I").before [.ref (qt 0), .ref (qn 0), .int p2].toArray s = true := hts _ (List.mem_of_getElem? (i := 3) rfl)
  have wd4 : (Cond.fieldLink RX4 38 "PairedLines$Table" "isTurned" "Z").before [.ref (qt 0), .ref (qn 0), .int p2].toArray s = true := hts _ (List.mem_of_getElem? (i := 4) rfl)
  have wd5 : (Cond.fieldLink RX4 25 "PairedLines$Table" "nears" "[I").before [.ref (qt 0), .ref (qn 0), .int p2].toArray s = true := hts _ (List.mem_of_getElem? (i := 5) rfl)
  have wd6 : (Cond.fieldLink RX4 49 "PairedLines$Net" "nears" "[I").before [.ref (qt 0), .ref (qn 0), .int p2].toArray s = true := hts _ (List.mem_of_getElem? (i := 6) rfl)
  have wd7 : (Cond.fieldLink RX4 28 "PairedLines$Table" "weights" "[I").before [.ref (qt 0), .ref (qn 0), .int p2].toArray s = true := hts _ (List.mem_of_getElem? (i := 7) rfl)
  have inX1w : ∀ w ∈ u_ws RX1 TX1 11, w ∈ wsX4_prepare := fun w hw => List.mem_cons_of_mem _ (List.mem_append_right _ (hw))
  have inX4w : ∀ w ∈ u_ws RX4 TX4 9, w ∈ wsX4_prepare := fun w hw => List.mem_cons_of_mem _ (List.mem_append_left _ (List.mem_append_right _ (hw)))
  have hl := lv_entry ([.ref (qt 0), .ref (qn 0), .int p2]) (n := 5) (Nat.le_of_ble_eq_true rfl)
  rw [lg_entry_eq]
  generalize (lg_sl ([.ref (qt 0), .ref (qn 0), .int p2]) ++ List.replicate (5 - (lg_sl ([.ref (qt 0), .ref (qn 0), .int p2])).length) Slot.unset).toArray = ls at hl ⊢
  have hl : lv_has ls 5 [(0, .ref (qt 0)), (1, .ref (qn 0)), (2, .int p2)] := hl
  have B52 : ∀ (n52 : Nat), ∀ (b_t_nears : Nat → Int32) (b_t_weights : Nat → Int32) (b_t_stamp : Int32) (b_t_age : Int32) (b_t_isTurned : Int32) (x3 : Int32), f_X4_prepare_b52 n_kinds n_figures n_joins n_nears n_pointCount n_tideNow n_age p2 n52 b_t_nears b_t_weights b_t_stamp b_t_age b_t_isTurned x3 = some (o_t_nears, o_t_weights, o_t_stamp, o_t_age, o_t_isTurned) → ∀ (H : Heap) (locs : List Loc), va_P G vwCl [(qn 0, oX1 qn n_pointCount n_lineCount n_tideNow n_age), (qn 1, .inl (Y 0, 40, .inl n_kinds)), (qn 2, .inl (Y 0, 40, .inl n_figures)), (qn 5, .inl (Y 0, 144, .inl n_joins)), (qn 6, .inl (Y 0, 12, .inl n_nears)), (qt 0, oX4 qt b_t_stamp b_t_age b_t_isTurned), (qt 5, .inl (Y 0, 12, .inl b_t_nears)), (qt 6, .inl (Y 0, 144, .inl b_t_weights))] H → va_D A [(qn 0, oX1 qn n_pointCount n_lineCount n_tideNow n_age), (qn 1, .inl (Y 0, 40, .inl n_kinds)), (qn 2, .inl (Y 0, 40, .inl n_figures)), (qn 5, .inl (Y 0, 144, .inl n_joins)), (qn 6, .inl (Y 0, 12, .inl n_nears)), (qt 0, oX4 qt b_t_stamp b_t_age b_t_isTurned), (qt 5, .inl (Y 0, 12, .inl b_t_nears)), (qt 6, .inl (Y 0, 144, .inl b_t_weights))] → va_S A s.heap H locs → ∀ (ls : Array Slot), lv_has ls 5 [(0, .ref (qt 0)), (1, .ref (qn 0)), (2, .int p2), (3, .int x3)] → W p l e (headSpec wsX4_prepare (rmk 4 87)).room s m [.ref (qt 0), .ref (qn 0), .int p2].toArray below meth c H locs 0 0 (MQ below (va_Qv (fun (_ : Unit) => True) (Pst G (tys Y) [(qn 0, oX1 qn n_pointCount n_lineCount n_tideNow n_age), (qn 1, .inl (Y 0, 40, .inl n_kinds)), (qn 2, .inl (Y 0, 40, .inl n_figures)), (qn 5, .inl (Y 0, 144, .inl n_joins)), (qn 6, .inl (Y 0, 12, .inl n_nears)), (qt 0, oX4 qt t_stamp t_age t_isTurned), (qt 5, .inl (Y 0, 12, .inl t_nears)), (qt 6, .inl (Y 0, 144, .inl t_weights))] s.heap.size [(qn 0, oX1 qn n_pointCount n_lineCount n_tideNow n_age), (qn 1, .inl (Y 0, 40, .inl n_kinds)), (qn 2, .inl (Y 0, 40, .inl n_figures)), (qn 5, .inl (Y 0, 144, .inl n_joins)), (qn 6, .inl (Y 0, 12, .inl n_nears)), (qt 0, oX4 qt o_t_stamp o_t_age o_t_isTurned), (qt 5, .inl (Y 0, 12, .inl o_t_nears)), (qt 6, .inl (Y 0, 144, .inl o_t_weights))]) A) [.ref (qt 0), .ref (qn 0), .int p2].toArray s 0 0 A) (F0 m 52 ls []) := by
    intro n52
    induction n52 with
    | zero =>
      intro b_t_nears b_t_weights b_t_stamp b_t_age b_t_isTurned x3 hf H locs hP hD hS ls hl
      exact no_none hf
    | succ n52 ih52 =>
      have B99 : ∀ (n99 : Nat), ∀ (b_t_nears : Nat → Int32) (b_t_weights : Nat → Int32) (b_t_stamp : Int32) (b_t_age : Int32) (b_t_isTurned : Int32) (x3 : Int32) (x4 : Int32), f_X4_prepare_b99 n_kinds n_figures n_joins n_nears n_pointCount n_tideNow n_age p2 (f_X4_prepare_b52 n_kinds n_figures n_joins n_nears n_pointCount n_tideNow n_age p2 n52) n99 b_t_nears b_t_weights b_t_stamp b_t_age b_t_isTurned x3 x4 = some (o_t_nears, o_t_weights, o_t_stamp, o_t_age, o_t_isTurned) → ∀ (H : Heap) (locs : List Loc), va_P G vwCl [(qn 0, oX1 qn n_pointCount n_lineCount n_tideNow n_age), (qn 1, .inl (Y 0, 40, .inl n_kinds)), (qn 2, .inl (Y 0, 40, .inl n_figures)), (qn 5, .inl (Y 0, 144, .inl n_joins)), (qn 6, .inl (Y 0, 12, .inl n_nears)), (qt 0, oX4 qt b_t_stamp b_t_age b_t_isTurned), (qt 5, .inl (Y 0, 12, .inl b_t_nears)), (qt 6, .inl (Y 0, 144, .inl b_t_weights))] H → va_D A [(qn 0, oX1 qn n_pointCount n_lineCount n_tideNow n_age), (qn 1, .inl (Y 0, 40, .inl n_kinds)), (qn 2, .inl (Y 0, 40, .inl n_figures)), (qn 5, .inl (Y 0, 144, .inl n_joins)), (qn 6, .inl (Y 0, 12, .inl n_nears)), (qt 0, oX4 qt b_t_stamp b_t_age b_t_isTurned), (qt 5, .inl (Y 0, 12, .inl b_t_nears)), (qt 6, .inl (Y 0, 144, .inl b_t_weights))] → va_S A s.heap H locs → ∀ (ls : Array Slot), lv_has ls 5 [(0, .ref (qt 0)), (1, .ref (qn 0)), (2, .int p2), (3, .int x3), (4, .int x4)] → W p l e (headSpec wsX4_prepare (rmk 4 87)).room s m [.ref (qt 0), .ref (qn 0), .int p2].toArray below meth c H locs 0 0 (MQ below (va_Qv (fun (_ : Unit) => True) (Pst G (tys Y) [(qn 0, oX1 qn n_pointCount n_lineCount n_tideNow n_age), (qn 1, .inl (Y 0, 40, .inl n_kinds)), (qn 2, .inl (Y 0, 40, .inl n_figures)), (qn 5, .inl (Y 0, 144, .inl n_joins)), (qn 6, .inl (Y 0, 12, .inl n_nears)), (qt 0, oX4 qt t_stamp t_age t_isTurned), (qt 5, .inl (Y 0, 12, .inl t_nears)), (qt 6, .inl (Y 0, 144, .inl t_weights))] s.heap.size [(qn 0, oX1 qn n_pointCount n_lineCount n_tideNow n_age), (qn 1, .inl (Y 0, 40, .inl n_kinds)), (qn 2, .inl (Y 0, 40, .inl n_figures)), (qn 5, .inl (Y 0, 144, .inl n_joins)), (qn 6, .inl (Y 0, 12, .inl n_nears)), (qt 0, oX4 qt o_t_stamp o_t_age o_t_isTurned), (qt 5, .inl (Y 0, 12, .inl o_t_nears)), (qt 6, .inl (Y 0, 144, .inl o_t_weights))]) A) [.ref (qt 0), .ref (qn 0), .int p2].toArray s 0 0 A) (F0 m 99 ls []) := by
        intro n99
        induction n99 with
        | zero =>
          intro b_t_nears b_t_weights b_t_stamp b_t_age b_t_isTurned x3 x4 hf H locs hP hD hS ls hl
          exact no_none hf
        | succ n99 ih99 =>
          intro b_t_nears b_t_weights b_t_stamp b_t_age b_t_isTurned x3 x4 hf H locs hP hD hS ls hl
          have hf : f_X4_prepare_s99 n_kinds n_figures n_joins n_nears n_pointCount n_tideNow n_age p2 (f_X4_prepare_b52 n_kinds n_figures n_joins n_nears n_pointCount n_tideNow n_age p2 n52) (f_X4_prepare_b99 n_kinds n_figures n_joins n_nears n_pointCount n_tideNow n_age p2 (f_X4_prepare_b52 n_kinds n_figures n_joins n_nears n_pointCount n_tideNow n_age p2 n52) n99) b_t_nears b_t_weights b_t_stamp b_t_age b_t_isTurned x3 x4 = some (o_t_nears, o_t_weights, o_t_stamp, o_t_age, o_t_isTurned) := hf
          unfold f_X4_prepare_s99 at hf
          refine lv_iload hx hb dX4_prepare_99 (lv_at hl 4 rfl) ?_
          refine lv_bipush (v := 12) hx hb dX4_prepare_101 (by decide) ?_
          refine lv_icmp_ge (tgt := 139) hx hb dX4_prepare_103 (by decide) (fun c1 => ?_) (fun c1 => ?_)
          · have hf := it hf c1
            obtain ⟨v2, e_v2⟩ : ∃ z : Int32, z = (x3 + 1) := ⟨_, rfl⟩
            have hf := nm_at hf e_v2
            refine lv_iinc (v := v2) (lv' := [(3, .int v2), (0, .ref (qt 0)), (1, .ref (qn 0)), (2, .int p2), (4, .int x4)]) hx hb dX4_prepare_139 hl (k := 3) rfl (by rw [e_v2]; rfl) (by decide) rfl (fun ls hl => ?_)
            refine lv_goto (tgt := 52) hx hb dX4_prepare_142 (by decide) ?_
            exact ih52 b_t_nears b_t_weights b_t_stamp b_t_age b_t_isTurned v2 hf _ _ hP hD hS ls (lv_sub hl [1, 2, 3, 0] rfl)
          · have hf := ie hf c1
            refine lv_aload_n hx hb dX4_prepare_106 rfl (lv_at hl 0 rfl) ?_
            refine va_get (D := G) (ci := 3) (v := .ref (qt 6)) (C := RX4) (T := TX4) (N := 9) hx hb hts inX4w hown hK hP 5 rfl rfl 5 (by decide) wd7 (fun _ h9 => h9) rfl dX4_prepare_107 ?_
            refine lv_iload_n hx hb dX4_prepare_110 rfl (lv_at hl 3 rfl) ?_
            refine lv_bipush (v := 12) hx hb dX4_prepare_111 (by decide) ?_
            refine lv_imul hx hb dX4_prepare_113 ?_
            refine lv_iload hx hb dX4_prepare_114 (lv_at hl 4 rfl) ?_
            refine lv_iadd hx hb dX4_prepare_116 ?_
            refine lv_iload_n hx hb dX4_prepare_117 rfl (lv_at hl 2 rfl) ?_
            refine lv_if_eq (tgt := 125) hx hb dX4_prepare_118 (by decide) (fun c3 => ?_) (fun c3 => ?_)
            · have hf := it hf c3
              refine lv_aload_n hx hb dX4_prepare_125 rfl (lv_at hl 1 rfl) ?_
              refine lv_iload_n hx hb dX4_prepare_126 rfl (lv_at hl 3 rfl) ?_
              refine lv_iload hx hb dX4_prepare_127 (lv_at hl 4 rfl) ?_
              obtain ⟨r4, hc, hf⟩ := bd1 hf
              refine cl_i (ws' := [(qn 0, oX1 qn n_pointCount n_lineCount n_tideNow n_age), (qn 1, .inl (Y 0, 40, .inl n_kinds)), (qn 2, .inl (Y 0, 40, .inl n_figures)), (qn 5, .inl (Y 0, 144, .inl n_joins)), (qn 6, .inl (Y 0, 12, .inl n_nears)), (qt 0, oX4 qt b_t_stamp b_t_age b_t_isTurned), (qt 5, .inl (Y 0, 12, .inl b_t_nears)), (qt 6, .inl (Y 0, 144, .inl b_t_weights))]) (wr := [(qn 6, .inl (Y 0, 12, .inl n_nears)), (qt 0, oX4 qt b_t_stamp b_t_age b_t_isTurned), (qt 5, .inl (Y 0, 12, .inl b_t_nears)), (qt 6, .inl (Y 0, 144, .inl b_t_weights))]) (rnV (As := [.int x3, .int x4]) (rest := [.int ((x3 * (12 : Int32)) + x4), .ref (qt 6)]) ⟨hx, hb, hml, hown, hts⟩ (c_X1_weightBetween l G Y H.size qn n_kinds n_figures n_joins n_pointCount n_lineCount n_tideNow n_age x3 x4 r4 hc) (cwV 2 hts gX4_prepare_X1_weightBetween rfl rfl rfl (by decide +kernel) ⟨(Nat.le_of_ble_eq_true rfl), (Nat.le_of_ble_eq_true rfl)⟩) hX okN hK hP hD [0, 1, 2, 3] rfl rfl (ci := 0) (q0 := 0) rfl rfl rfl rfl hl.1 rfl (Nat.le_of_ble_eq_true rfl) dX4_prepare_129) hP hD hS hA [0, 1, 2, 3] [4, 5, 6, 7] [4, 5, 6, 7, 0, 1, 2, 3] rfl rfl rfl (by decide) rfl rfl (fun H locs hP hD hS => ?_)
              obtain ⟨g5, hf⟩ := gd hf
              refine va_iast hx hb hK hP hD hS 7 0 rfl rfl g5 dX4_prepare_132 (fun H locs hP hD hS => ?_)
              obtain ⟨v6, e_v6⟩ : ∃ z : Nat → Int32, z = upd b_t_weights ((x3 * (12 : Int32)) + x4).toNatClampNeg r4 := ⟨_, rfl⟩
              have hf := nm_at hf e_v6
              have hP : va_P G vwCl [(qn 0, oX1 qn n_pointCount n_lineCount n_tideNow n_age), (qn 1, .inl (Y 0, 40, .inl n_kinds)), (qn 2, .inl (Y 0, 40, .inl n_figures)), (qn 5, .inl (Y 0, 144, .inl n_joins)), (qn 6, .inl (Y 0, 12, .inl n_nears)), (qt 0, oX4 qt b_t_stamp b_t_age b_t_isTurned), (qt 5, .inl (Y 0, 12, .inl b_t_nears)), (qt 6, .inl (Y 0, 144, .inl v6))] H := by rw [e_v6]; exact hP
              have hD : va_D A [(qn 0, oX1 qn n_pointCount n_lineCount n_tideNow n_age), (qn 1, .inl (Y 0, 40, .inl n_kinds)), (qn 2, .inl (Y 0, 40, .inl n_figures)), (qn 5, .inl (Y 0, 144, .inl n_joins)), (qn 6, .inl (Y 0, 12, .inl n_nears)), (qt 0, oX4 qt b_t_stamp b_t_age b_t_isTurned), (qt 5, .inl (Y 0, 12, .inl b_t_nears)), (qt 6, .inl (Y 0, 144, .inl v6))] := by rw [e_v6]; exact hD
              obtain ⟨v7, e_v7⟩ : ∃ z : Int32, z = (x4 + 1) := ⟨_, rfl⟩
              have hf := nm_at hf e_v7
              refine lv_iinc (v := v7) (lv' := [(4, .int v7), (0, .ref (qt 0)), (1, .ref (qn 0)), (2, .int p2), (3, .int x3)]) hx hb dX4_prepare_133 hl (k := 4) rfl (by rw [e_v7]; rfl) (by decide) rfl (fun ls hl => ?_)
              refine lv_goto (tgt := 99) hx hb dX4_prepare_136 (by decide) ?_
              exact ih99 b_t_nears v6 b_t_stamp b_t_age b_t_isTurned x3 v7 hf _ _ hP hD hS ls (lv_sub hl [1, 2, 3, 4, 0] rfl)
            · have hf := ie hf c3
              refine lv_iconst (v := 1) hx hb dX4_prepare_121 (by decide) ?_
              refine lv_goto (tgt := 132) hx hb dX4_prepare_122 (by decide) ?_
              obtain ⟨g8, hf⟩ := gd hf
              refine va_iast hx hb hK hP hD hS 7 0 rfl rfl g8 dX4_prepare_132 (fun H locs hP hD hS => ?_)
              obtain ⟨v9, e_v9⟩ : ∃ z : Nat → Int32, z = upd b_t_weights ((x3 * (12 : Int32)) + x4).toNatClampNeg (1 : Int32) := ⟨_, rfl⟩
              have hf := nm_at hf e_v9
              have hP : va_P G vwCl [(qn 0, oX1 qn n_pointCount n_lineCount n_tideNow n_age), (qn 1, .inl (Y 0, 40, .inl n_kinds)), (qn 2, .inl (Y 0, 40, .inl n_figures)), (qn 5, .inl (Y 0, 144, .inl n_joins)), (qn 6, .inl (Y 0, 12, .inl n_nears)), (qt 0, oX4 qt b_t_stamp b_t_age b_t_isTurned), (qt 5, .inl (Y 0, 12, .inl b_t_nears)), (qt 6, .inl (Y 0, 144, .inl v9))] H := by rw [e_v9]; exact hP
              have hD : va_D A [(qn 0, oX1 qn n_pointCount n_lineCount n_tideNow n_age), (qn 1, .inl (Y 0, 40, .inl n_kinds)), (qn 2, .inl (Y 0, 40, .inl n_figures)), (qn 5, .inl (Y 0, 144, .inl n_joins)), (qn 6, .inl (Y 0, 12, .inl n_nears)), (qt 0, oX4 qt b_t_stamp b_t_age b_t_isTurned), (qt 5, .inl (Y 0, 12, .inl b_t_nears)), (qt 6, .inl (Y 0, 144, .inl v9))] := by rw [e_v9]; exact hD
              obtain ⟨v10, e_v10⟩ : ∃ z : Int32, z = (x4 + 1) := ⟨_, rfl⟩
              have hf := nm_at hf e_v10
              refine lv_iinc (v := v10) (lv' := [(4, .int v10), (0, .ref (qt 0)), (1, .ref (qn 0)), (2, .int p2), (3, .int x3)]) hx hb dX4_prepare_133 hl (k := 4) rfl (by rw [e_v10]; rfl) (by decide) rfl (fun ls hl => ?_)
              refine lv_goto (tgt := 99) hx hb dX4_prepare_136 (by decide) ?_
              exact ih99 b_t_nears v9 b_t_stamp b_t_age b_t_isTurned x3 v10 hf _ _ hP hD hS ls (lv_sub hl [1, 2, 3, 4, 0] rfl)
      intro b_t_nears b_t_weights b_t_stamp b_t_age b_t_isTurned x3 hf H locs hP hD hS ls hl
      have hf : f_X4_prepare_s52 n_kinds n_figures n_joins n_nears n_pointCount n_tideNow n_age p2 (f_X4_prepare_b52 n_kinds n_figures n_joins n_nears n_pointCount n_tideNow n_age p2  n52) b_t_nears b_t_weights b_t_stamp b_t_age b_t_isTurned x3 = some (o_t_nears, o_t_weights, o_t_stamp, o_t_age, o_t_isTurned) := hf
      unfold f_X4_prepare_s52 at hf
      refine lv_iload_n hx hb dX4_prepare_52 rfl (lv_at hl 3 rfl) ?_
      refine lv_bipush (v := 12) hx hb dX4_prepare_53 (by decide) ?_
      refine lv_icmp_ge (tgt := 145) hx hb dX4_prepare_55 (by decide) (fun c11 => ?_) (fun c11 => ?_)
      · have hf := it hf c11
        obtain ⟨e0, e1, e2, e3, e4⟩ := rt5 hf
        have hP : va_P G vwCl [(qn 0, oX1 qn n_pointCount n_lineCount n_tideNow n_age), (qn 1, .inl (Y 0, 40, .inl n_kinds)), (qn 2, .inl (Y 0, 40, .inl n_figures)), (qn 5, .inl (Y 0, 144, .inl n_joins)), (qn 6, .inl (Y 0, 12, .inl n_nears)), (qt 0, oX4 qt o_t_stamp o_t_age o_t_isTurned), (qt 5, .inl (Y 0, 12, .inl o_t_nears)), (qt 6, .inl (Y 0, 144, .inl o_t_weights))] H := by rw [← e0, ← e1, ← e2, ← e3, ← e4]; exact hP
        have hD : va_D A [(qn 0, oX1 qn n_pointCount n_lineCount n_tideNow n_age), (qn 1, .inl (Y 0, 40, .inl n_kinds)), (qn 2, .inl (Y 0, 40, .inl n_figures)), (qn 5, .inl (Y 0, 144, .inl n_joins)), (qn 6, .inl (Y 0, 12, .inl n_nears)), (qt 0, oX4 qt o_t_stamp o_t_age o_t_isTurned), (qt 5, .inl (Y 0, 12, .inl o_t_nears)), (qt 6, .inl (Y 0, 144, .inl o_t_weights))] := by rw [← e0, ← e1, ← e2, ← e3, ← e4]; exact hD
        exact W.vret hx hb hr (fun t ht hW => ⟨⟨(), rfl, trivial, by rw [ht]; exact hP, va_K.moved hW.alike hK, by rw [hAe]; exact hD⟩, hS.F ht⟩) hS.2.2 dX4_prepare_145
      · have hf := ie hf c11
        refine lv_aload_n hx hb dX4_prepare_58 rfl (lv_at hl 0 rfl) ?_
        refine va_get (D := G) (ci := 3) (v := .ref (qt 5)) (C := RX4) (T := TX4) (N := 9) hx hb hts inX4w hown hK hP 5 rfl rfl 4 (by decide) wd5 (fun _ h9 => h9) rfl dX4_prepare_59 ?_
        refine lv_iload_n hx hb dX4_prepare_62 rfl (lv_at hl 3 rfl) ?_
        refine lv_iload_n hx hb dX4_prepare_63 rfl (lv_at hl 2 rfl) ?_
        refine lv_if_eq (tgt := 89) hx hb dX4_prepare_64 (by decide) (fun c12 => ?_) (fun c12 => ?_)
        · have hf := it hf c12
          refine lv_aload_n hx hb dX4_prepare_89 rfl (lv_at hl 1 rfl) ?_
          refine va_get (D := G) (ci := 0) (v := .ref (qn 6)) (C := RX1) (T := TX1) (N := 11) hx hb hts inX1w hown hK hP 0 rfl rfl 5 (by decide) wd6 (fun _ h9 => h9) rfl dX4_prepare_90 ?_
          refine lv_iload_n hx hb dX4_prepare_93 rfl (lv_at hl 3 rfl) ?_
          obtain ⟨g13, hf⟩ := gd hf
          refine va_iald hx hb hK hP 4 0 rfl rfl g13 dX4_prepare_94 ?_
          obtain ⟨g14, hf⟩ := gd hf
          refine va_iast hx hb hK hP hD hS 6 0 rfl rfl g14 dX4_prepare_95 (fun H locs hP hD hS => ?_)
          obtain ⟨v15, e_v15⟩ : ∃ z : Nat → Int32, z = upd b_t_nears x3.toNatClampNeg (n_nears x3.toNatClampNeg) := ⟨_, rfl⟩
          have hf := nm_at hf e_v15
          have hP : va_P G vwCl [(qn 0, oX1 qn n_pointCount n_lineCount n_tideNow n_age), (qn 1, .inl (Y 0, 40, .inl n_kinds)), (qn 2, .inl (Y 0, 40, .inl n_figures)), (qn 5, .inl (Y 0, 144, .inl n_joins)), (qn 6, .inl (Y 0, 12, .inl n_nears)), (qt 0, oX4 qt b_t_stamp b_t_age b_t_isTurned), (qt 5, .inl (Y 0, 12, .inl v15)), (qt 6, .inl (Y 0, 144, .inl b_t_weights))] H := by rw [e_v15]; exact hP
          have hD : va_D A [(qn 0, oX1 qn n_pointCount n_lineCount n_tideNow n_age), (qn 1, .inl (Y 0, 40, .inl n_kinds)), (qn 2, .inl (Y 0, 40, .inl n_figures)), (qn 5, .inl (Y 0, 144, .inl n_joins)), (qn 6, .inl (Y 0, 12, .inl n_nears)), (qt 0, oX4 qt b_t_stamp b_t_age b_t_isTurned), (qt 5, .inl (Y 0, 12, .inl v15)), (qt 6, .inl (Y 0, 144, .inl b_t_weights))] := by rw [e_v15]; exact hD
          refine lv_iconst (v := 0) hx hb dX4_prepare_96 (by decide) ?_
          refine lv_istore (lv' := [(4, .int (0 : Int32)), (0, .ref (qt 0)), (1, .ref (qn 0)), (2, .int p2), (3, .int x3)]) hx hb dX4_prepare_97 hl (by decide) rfl (fun ls hl => ?_)
          exact B99 70 v15 b_t_weights b_t_stamp b_t_age b_t_isTurned x3 (0 : Int32) hf _ _ hP hD hS ls (lv_sub hl [1, 2, 3, 4, 0] rfl)
        · have hf := ie hf c12
          refine lv_aload_n hx hb dX4_prepare_67 rfl (lv_at hl 1 rfl) ?_
          obtain ⟨r16, hc, hf⟩ := bd1 hf
          refine cl_i (ws' := [(qn 0, oX1 qn n_pointCount n_lineCount n_tideNow n_age), (qn 1, .inl (Y 0, 40, .inl n_kinds)), (qn 2, .inl (Y 0, 40, .inl n_figures)), (qn 5, .inl (Y 0, 144, .inl n_joins)), (qn 6, .inl (Y 0, 12, .inl n_nears)), (qt 0, oX4 qt b_t_stamp b_t_age b_t_isTurned), (qt 5, .inl (Y 0, 12, .inl b_t_nears)), (qt 6, .inl (Y 0, 144, .inl b_t_weights))]) (wr := [(qn 1, .inl (Y 0, 40, .inl n_kinds)), (qn 2, .inl (Y 0, 40, .inl n_figures)), (qn 5, .inl (Y 0, 144, .inl n_joins)), (qn 6, .inl (Y 0, 12, .inl n_nears)), (qt 0, oX4 qt b_t_stamp b_t_age b_t_isTurned), (qt 5, .inl (Y 0, 12, .inl b_t_nears)), (qt 6, .inl (Y 0, 144, .inl b_t_weights))]) (rnV (As := []) (rest := [.int x3, .ref (qt 5)]) ⟨hx, hb, hml, hown, hts⟩ (c_X1_allPoints l G Y H.size qn n_pointCount n_lineCount n_tideNow n_age r16 hc) (cwV 0 hts gX4_prepare_X1_allPoints rfl rfl rfl (by decide +kernel) ⟨(Nat.le_of_ble_eq_true rfl), (Nat.le_of_ble_eq_true rfl)⟩) trivial okT hK hP hD [0] rfl rfl (ci := 0) (q0 := 0) rfl rfl rfl rfl hl.1 rfl (Nat.le_of_ble_eq_true rfl) dX4_prepare_68) hP hD hS hA [0] [1, 2, 3, 4, 5, 6, 7] [7, 0, 1, 2, 3, 4, 5, 6] rfl rfl rfl (by decide) rfl rfl (fun H locs hP hD hS => ?_)
          refine lv_aload_n hx hb dX4_prepare_71 rfl (lv_at hl 1 rfl) ?_
          refine va_get (D := G) (ci := 0) (v := .ref (qn 6)) (C := RX1) (T := TX1) (N := 11) hx hb hts inX1w hown hK hP 0 rfl rfl 5 (by decide) wd6 (fun _ h9 => h9) rfl dX4_prepare_72 ?_
          refine lv_iload_n hx hb dX4_prepare_75 rfl (lv_at hl 3 rfl) ?_
          obtain ⟨g17, hf⟩ := gd hf
          refine va_iald hx hb hK hP 4 0 rfl rfl g17 dX4_prepare_76 ?_
          refine lv_iconst (v := -1) hx hb dX4_prepare_77 (by decide) ?_
          refine lv_ixor hx hb dX4_prepare_78 ?_
          refine lv_iand hx hb dX4_prepare_79 ?_
          refine lv_iconst (v := 1) hx hb dX4_prepare_80 (by decide) ?_
          refine lv_iload_n hx hb dX4_prepare_81 rfl (lv_at hl 3 rfl) ?_
          refine lv_ishl hx hb dX4_prepare_82 ?_
          refine lv_iconst (v := -1) hx hb dX4_prepare_83 (by decide) ?_
          refine lv_ixor hx hb dX4_prepare_84 ?_
          refine lv_iand hx hb dX4_prepare_85 ?_
          refine lv_goto (tgt := 95) hx hb dX4_prepare_86 (by decide) ?_
          obtain ⟨g18, hf⟩ := gd hf
          refine va_iast hx hb hK hP hD hS 6 0 rfl rfl g18 dX4_prepare_95 (fun H locs hP hD hS => ?_)
          obtain ⟨v19, e_v19⟩ : ∃ z : Nat → Int32, z = upd b_t_nears x3.toNatClampNeg ((r16 &&& ((n_nears x3.toNatClampNeg) ^^^ (-1 : Int32))) &&& (((1 : Int32) <<< (x3 &&& 31)) ^^^ (-1 : Int32))) := ⟨_, rfl⟩
          have hf := nm_at hf e_v19
          have hP : va_P G vwCl [(qn 0, oX1 qn n_pointCount n_lineCount n_tideNow n_age), (qn 1, .inl (Y 0, 40, .inl n_kinds)), (qn 2, .inl (Y 0, 40, .inl n_figures)), (qn 5, .inl (Y 0, 144, .inl n_joins)), (qn 6, .inl (Y 0, 12, .inl n_nears)), (qt 0, oX4 qt b_t_stamp b_t_age b_t_isTurned), (qt 5, .inl (Y 0, 12, .inl v19)), (qt 6, .inl (Y 0, 144, .inl b_t_weights))] H := by rw [e_v19]; exact hP
          have hD : va_D A [(qn 0, oX1 qn n_pointCount n_lineCount n_tideNow n_age), (qn 1, .inl (Y 0, 40, .inl n_kinds)), (qn 2, .inl (Y 0, 40, .inl n_figures)), (qn 5, .inl (Y 0, 144, .inl n_joins)), (qn 6, .inl (Y 0, 12, .inl n_nears)), (qt 0, oX4 qt b_t_stamp b_t_age b_t_isTurned), (qt 5, .inl (Y 0, 12, .inl v19)), (qt 6, .inl (Y 0, 144, .inl b_t_weights))] := by rw [e_v19]; exact hD
          refine lv_iconst (v := 0) hx hb dX4_prepare_96 (by decide) ?_
          refine lv_istore (lv' := [(4, .int (0 : Int32)), (0, .ref (qt 0)), (1, .ref (qn 0)), (2, .int p2), (3, .int x3)]) hx hb dX4_prepare_97 hl (by decide) rfl (fun ls hl => ?_)
          exact B99 70 v19 b_t_weights b_t_stamp b_t_age b_t_isTurned x3 (0 : Int32) hf _ _ hP hD hS ls (lv_sub hl [1, 2, 3, 4, 0] rfl)
  have B27 : ∀ (b_t_nears : Nat → Int32) (b_t_weights : Nat → Int32) (b_t_stamp : Int32) (b_t_age : Int32) (b_t_isTurned : Int32), f_X4_prepare_b27 n_kinds n_figures n_joins n_nears n_pointCount n_tideNow n_age p2 b_t_nears b_t_weights b_t_stamp b_t_age b_t_isTurned = some (o_t_nears, o_t_weights, o_t_stamp, o_t_age, o_t_isTurned) → ∀ (H : Heap) (locs : List Loc), va_P G vwCl [(qn 0, oX1 qn n_pointCount n_lineCount n_tideNow n_age), (qn 1, .inl (Y 0, 40, .inl n_kinds)), (qn 2, .inl (Y 0, 40, .inl n_figures)), (qn 5, .inl (Y 0, 144, .inl n_joins)), (qn 6, .inl (Y 0, 12, .inl n_nears)), (qt 0, oX4 qt b_t_stamp b_t_age b_t_isTurned), (qt 5, .inl (Y 0, 12, .inl b_t_nears)), (qt 6, .inl (Y 0, 144, .inl b_t_weights))] H → va_D A [(qn 0, oX1 qn n_pointCount n_lineCount n_tideNow n_age), (qn 1, .inl (Y 0, 40, .inl n_kinds)), (qn 2, .inl (Y 0, 40, .inl n_figures)), (qn 5, .inl (Y 0, 144, .inl n_joins)), (qn 6, .inl (Y 0, 12, .inl n_nears)), (qt 0, oX4 qt b_t_stamp b_t_age b_t_isTurned), (qt 5, .inl (Y 0, 12, .inl b_t_nears)), (qt 6, .inl (Y 0, 144, .inl b_t_weights))] → va_S A s.heap H locs → ∀ (ls : Array Slot), lv_has ls 5 [(0, .ref (qt 0)), (1, .ref (qn 0)), (2, .int p2)] → W p l e (headSpec wsX4_prepare (rmk 4 87)).room s m [.ref (qt 0), .ref (qn 0), .int p2].toArray below meth c H locs 0 0 (MQ below (va_Qv (fun (_ : Unit) => True) (Pst G (tys Y) [(qn 0, oX1 qn n_pointCount n_lineCount n_tideNow n_age), (qn 1, .inl (Y 0, 40, .inl n_kinds)), (qn 2, .inl (Y 0, 40, .inl n_figures)), (qn 5, .inl (Y 0, 144, .inl n_joins)), (qn 6, .inl (Y 0, 12, .inl n_nears)), (qt 0, oX4 qt t_stamp t_age t_isTurned), (qt 5, .inl (Y 0, 12, .inl t_nears)), (qt 6, .inl (Y 0, 144, .inl t_weights))] s.heap.size [(qn 0, oX1 qn n_pointCount n_lineCount n_tideNow n_age), (qn 1, .inl (Y 0, 40, .inl n_kinds)), (qn 2, .inl (Y 0, 40, .inl n_figures)), (qn 5, .inl (Y 0, 144, .inl n_joins)), (qn 6, .inl (Y 0, 12, .inl n_nears)), (qt 0, oX4 qt o_t_stamp o_t_age o_t_isTurned), (qt 5, .inl (Y 0, 12, .inl o_t_nears)), (qt 6, .inl (Y 0, 144, .inl o_t_weights))]) A) [.ref (qt 0), .ref (qn 0), .int p2].toArray s 0 0 A) (F0 m 27 ls []) := by
    intro b_t_nears b_t_weights b_t_stamp b_t_age b_t_isTurned hf H locs hP hD hS ls hl
    unfold f_X4_prepare_b27 at hf
    refine lv_aload_n hx hb dX4_prepare_27 rfl (lv_at hl 0 rfl) ?_
    refine lv_dup hx hb dX4_prepare_28 rfl ?_
    refine va_get (D := G) (ci := 3) (v := .int b_t_stamp) (C := RX4) (T := TX4) (N := 9) hx hb hts inX4w hown hK hP 5 rfl rfl 6 (by decide) wd1 (fun _ h9 => h9) rfl dX4_prepare_29 ?_
    refine lv_iconst (v := 1) hx hb dX4_prepare_32 (by decide) ?_
    refine lv_iadd hx hb dX4_prepare_33 ?_
    refine lv_topi (fun v20 e_v20 => ?_)
    have hf := nm_at hf e_v20
    refine va_put (D := G) (ci := 3) (v := .int v20) (ty := .int) (C := RX4) (T := TX4) (N := 9) hx hb hts inX4w tyX4 tyX4_ok nmX4 hown hK hP hD hS 5 rfl rfl 6 (by decide) wd1 (fun _ h9 => h9) rfl (by decide +kernel) rfl rfl (Nat.le_of_ble_eq_true rfl) dX4_prepare_34 (fun H locs hP hD hS => ?_)
    have hP : va_P G vwCl [(qn 0, oX1 qn n_pointCount n_lineCount n_tideNow n_age), (qn 1, .inl (Y 0, 40, .inl n_kinds)), (qn 2, .inl (Y 0, 40, .inl n_figures)), (qn 5, .inl (Y 0, 144, .inl n_joins)), (qn 6, .inl (Y 0, 12, .inl n_nears)), (qt 0, oX4 qt v20 b_t_age b_t_isTurned), (qt 5, .inl (Y 0, 12, .inl b_t_nears)), (qt 6, .inl (Y 0, 144, .inl b_t_weights))] H := hP
    have hD : va_D A [(qn 0, oX1 qn n_pointCount n_lineCount n_tideNow n_age), (qn 1, .inl (Y 0, 40, .inl n_kinds)), (qn 2, .inl (Y 0, 40, .inl n_figures)), (qn 5, .inl (Y 0, 144, .inl n_joins)), (qn 6, .inl (Y 0, 12, .inl n_nears)), (qt 0, oX4 qt v20 b_t_age b_t_isTurned), (qt 5, .inl (Y 0, 12, .inl b_t_nears)), (qt 6, .inl (Y 0, 144, .inl b_t_weights))] := hD
    refine lv_aload_n hx hb dX4_prepare_37 rfl (lv_at hl 0 rfl) ?_
    refine lv_aload_n hx hb dX4_prepare_38 rfl (lv_at hl 1 rfl) ?_
    refine va_get (D := G) (ci := 0) (v := .int n_age) (C := RX1) (T := TX1) (N := 11) hx hb hts inX1w hown hK hP 0 rfl rfl 10 (by decide) wd3 (fun _ h9 => h9) rfl dX4_prepare_39 ?_
    refine va_put (D := G) (ci := 3) (v := .int n_age) (ty := .int) (C := RX4) (T := TX4) (N := 9) hx hb hts inX4w tyX4 tyX4_ok nmX4 hown hK hP hD hS 5 rfl rfl 7 (by decide) wd2 (fun _ h9 => h9) rfl (by decide +kernel) rfl rfl (Nat.le_of_ble_eq_true rfl) dX4_prepare_42 (fun H locs hP hD hS => ?_)
    have hP : va_P G vwCl [(qn 0, oX1 qn n_pointCount n_lineCount n_tideNow n_age), (qn 1, .inl (Y 0, 40, .inl n_kinds)), (qn 2, .inl (Y 0, 40, .inl n_figures)), (qn 5, .inl (Y 0, 144, .inl n_joins)), (qn 6, .inl (Y 0, 12, .inl n_nears)), (qt 0, oX4 qt v20 n_age b_t_isTurned), (qt 5, .inl (Y 0, 12, .inl b_t_nears)), (qt 6, .inl (Y 0, 144, .inl b_t_weights))] H := hP
    have hD : va_D A [(qn 0, oX1 qn n_pointCount n_lineCount n_tideNow n_age), (qn 1, .inl (Y 0, 40, .inl n_kinds)), (qn 2, .inl (Y 0, 40, .inl n_figures)), (qn 5, .inl (Y 0, 144, .inl n_joins)), (qn 6, .inl (Y 0, 12, .inl n_nears)), (qt 0, oX4 qt v20 n_age b_t_isTurned), (qt 5, .inl (Y 0, 12, .inl b_t_nears)), (qt 6, .inl (Y 0, 144, .inl b_t_weights))] := hD
    refine lv_aload_n hx hb dX4_prepare_45 rfl (lv_at hl 0 rfl) ?_
    refine lv_iload_n hx hb dX4_prepare_46 rfl (lv_at hl 2 rfl) ?_
    obtain ⟨g21, hf⟩ := gp hf
    refine va_put (D := G) (ci := 3) (v := .int p2) (ty := .boolean) (C := RX4) (T := TX4) (N := 9) hx hb hts inX4w tyX4 tyX4_ok nmX4 hown hK hP hD hS 5 rfl rfl 8 (by decide) wd4 (fun _ h9 => h9) rfl (by decide +kernel) (nb_n g21) (nb_f g21) (Nat.le_of_ble_eq_true rfl) dX4_prepare_47 (fun H locs hP hD hS => ?_)
    have hP : va_P G vwCl [(qn 0, oX1 qn n_pointCount n_lineCount n_tideNow n_age), (qn 1, .inl (Y 0, 40, .inl n_kinds)), (qn 2, .inl (Y 0, 40, .inl n_figures)), (qn 5, .inl (Y 0, 144, .inl n_joins)), (qn 6, .inl (Y 0, 12, .inl n_nears)), (qt 0, oX4 qt v20 n_age p2), (qt 5, .inl (Y 0, 12, .inl b_t_nears)), (qt 6, .inl (Y 0, 144, .inl b_t_weights))] H := hP
    have hD : va_D A [(qn 0, oX1 qn n_pointCount n_lineCount n_tideNow n_age), (qn 1, .inl (Y 0, 40, .inl n_kinds)), (qn 2, .inl (Y 0, 40, .inl n_figures)), (qn 5, .inl (Y 0, 144, .inl n_joins)), (qn 6, .inl (Y 0, 12, .inl n_nears)), (qt 0, oX4 qt v20 n_age p2), (qt 5, .inl (Y 0, 12, .inl b_t_nears)), (qt 6, .inl (Y 0, 144, .inl b_t_weights))] := hD
    refine lv_iconst (v := 0) hx hb dX4_prepare_50 (by decide) ?_
    refine lv_istore_n (lv' := [(3, .int (0 : Int32)), (0, .ref (qt 0)), (1, .ref (qn 0)), (2, .int p2)]) hx hb dX4_prepare_51 rfl hl (by decide) rfl (fun ls hl => ?_)
    exact B52 70 b_t_nears b_t_weights v20 n_age p2 (0 : Int32) hf _ _ hP hD hS ls (lv_sub hl [1, 2, 3, 0] rfl)
  have E0 : ∀ (H : Heap) (locs : List Loc), va_P G vwCl [(qn 0, oX1 qn n_pointCount n_lineCount n_tideNow n_age), (qn 1, .inl (Y 0, 40, .inl n_kinds)), (qn 2, .inl (Y 0, 40, .inl n_figures)), (qn 5, .inl (Y 0, 144, .inl n_joins)), (qn 6, .inl (Y 0, 12, .inl n_nears)), (qt 0, oX4 qt t_stamp t_age t_isTurned), (qt 5, .inl (Y 0, 12, .inl t_nears)), (qt 6, .inl (Y 0, 144, .inl t_weights))] H → va_D A [(qn 0, oX1 qn n_pointCount n_lineCount n_tideNow n_age), (qn 1, .inl (Y 0, 40, .inl n_kinds)), (qn 2, .inl (Y 0, 40, .inl n_figures)), (qn 5, .inl (Y 0, 144, .inl n_joins)), (qn 6, .inl (Y 0, 12, .inl n_nears)), (qt 0, oX4 qt t_stamp t_age t_isTurned), (qt 5, .inl (Y 0, 12, .inl t_nears)), (qt 6, .inl (Y 0, 144, .inl t_weights))] → va_S A s.heap H locs → ∀ (ls : Array Slot), lv_has ls 5 [(0, .ref (qt 0)), (1, .ref (qn 0)), (2, .int p2)] → W p l e (headSpec wsX4_prepare (rmk 4 87)).room s m [.ref (qt 0), .ref (qn 0), .int p2].toArray below meth c H locs 0 0 (MQ below (va_Qv (fun (_ : Unit) => True) (Pst G (tys Y) [(qn 0, oX1 qn n_pointCount n_lineCount n_tideNow n_age), (qn 1, .inl (Y 0, 40, .inl n_kinds)), (qn 2, .inl (Y 0, 40, .inl n_figures)), (qn 5, .inl (Y 0, 144, .inl n_joins)), (qn 6, .inl (Y 0, 12, .inl n_nears)), (qt 0, oX4 qt t_stamp t_age t_isTurned), (qt 5, .inl (Y 0, 12, .inl t_nears)), (qt 6, .inl (Y 0, 144, .inl t_weights))] s.heap.size [(qn 0, oX1 qn n_pointCount n_lineCount n_tideNow n_age), (qn 1, .inl (Y 0, 40, .inl n_kinds)), (qn 2, .inl (Y 0, 40, .inl n_figures)), (qn 5, .inl (Y 0, 144, .inl n_joins)), (qn 6, .inl (Y 0, 12, .inl n_nears)), (qt 0, oX4 qt o_t_stamp o_t_age o_t_isTurned), (qt 5, .inl (Y 0, 12, .inl o_t_nears)), (qt 6, .inl (Y 0, 144, .inl o_t_weights))]) A) [.ref (qt 0), .ref (qn 0), .int p2].toArray s 0 0 A) (F0 m 0 ls []) := by
    intro H locs hP hD hS ls hl
    unfold f_X4_prepare at hf
    refine lv_aload_n hx hb dX4_prepare_0 rfl (lv_at hl 0 rfl) ?_
    refine va_get (D := G) (ci := 3) (v := .int t_stamp) (C := RX4) (T := TX4) (N := 9) hx hb hts inX4w hown hK hP 5 rfl rfl 6 (by decide) wd1 (fun _ h9 => h9) rfl dX4_prepare_1 ?_
    refine lv_if_le (tgt := 27) hx hb dX4_prepare_4 (by decide) (fun c22 => ?_) (fun c22 => ?_)
    · have hf := it hf c22
      exact B27 t_nears t_weights t_stamp t_age t_isTurned hf _ _ hP hD hS ls (lv_sub hl [0, 1, 2] rfl)
    · have hf := ie hf c22
      refine lv_aload_n hx hb dX4_prepare_7 rfl (lv_at hl 0 rfl) ?_
      refine va_get (D := G) (ci := 3) (v := .int t_age) (C := RX4) (T := TX4) (N := 9) hx hb hts inX4w hown hK hP 5 rfl rfl 7 (by decide) wd2 (fun _ h9 => h9) rfl dX4_prepare_8 ?_
      refine lv_aload_n hx hb dX4_prepare_11 rfl (lv_at hl 1 rfl) ?_
      refine va_get (D := G) (ci := 0) (v := .int n_age) (C := RX1) (T := TX1) (N := 11) hx hb hts inX1w hown hK hP 0 rfl rfl 10 (by decide) wd3 (fun _ h9 => h9) rfl dX4_prepare_12 ?_
      refine lv_icmp_ne (tgt := 27) hx hb dX4_prepare_15 (by decide) (fun c23 => ?_) (fun c23 => ?_)
      · have hf := ie hf c23
        exact B27 t_nears t_weights t_stamp t_age t_isTurned hf _ _ hP hD hS ls (lv_sub hl [0, 1, 2] rfl)
      · have hf := it hf c23
        refine lv_aload_n hx hb dX4_prepare_18 rfl (lv_at hl 0 rfl) ?_
        refine va_get (D := G) (ci := 3) (v := .int t_isTurned) (C := RX4) (T := TX4) (N := 9) hx hb hts inX4w hown hK hP 5 rfl rfl 8 (by decide) wd4 (fun _ h9 => h9) rfl dX4_prepare_19 ?_
        refine lv_iload_n hx hb dX4_prepare_22 rfl (lv_at hl 2 rfl) ?_
        refine lv_icmp_ne (tgt := 27) hx hb dX4_prepare_23 (by decide) (fun c24 => ?_) (fun c24 => ?_)
        · have hf := ie hf c24
          exact B27 t_nears t_weights t_stamp t_age t_isTurned hf _ _ hP hD hS ls (lv_sub hl [0, 1, 2] rfl)
        · have hf := it hf c24
          obtain ⟨e0, e1, e2, e3, e4⟩ := rt5 hf
          have hP : va_P G vwCl [(qn 0, oX1 qn n_pointCount n_lineCount n_tideNow n_age), (qn 1, .inl (Y 0, 40, .inl n_kinds)), (qn 2, .inl (Y 0, 40, .inl n_figures)), (qn 5, .inl (Y 0, 144, .inl n_joins)), (qn 6, .inl (Y 0, 12, .inl n_nears)), (qt 0, oX4 qt o_t_stamp o_t_age o_t_isTurned), (qt 5, .inl (Y 0, 12, .inl o_t_nears)), (qt 6, .inl (Y 0, 144, .inl o_t_weights))] H := by rw [← e0, ← e1, ← e2, ← e3, ← e4]; exact hP
          have hD : va_D A [(qn 0, oX1 qn n_pointCount n_lineCount n_tideNow n_age), (qn 1, .inl (Y 0, 40, .inl n_kinds)), (qn 2, .inl (Y 0, 40, .inl n_figures)), (qn 5, .inl (Y 0, 144, .inl n_joins)), (qn 6, .inl (Y 0, 12, .inl n_nears)), (qt 0, oX4 qt o_t_stamp o_t_age o_t_isTurned), (qt 5, .inl (Y 0, 12, .inl o_t_nears)), (qt 6, .inl (Y 0, 144, .inl o_t_weights))] := by rw [← e0, ← e1, ← e2, ← e3, ← e4]; exact hD
          exact W.vret hx hb hr (fun t ht hW => ⟨⟨(), rfl, trivial, by rw [ht]; exact hP, va_K.moved hW.alike hK, by rw [hAe]; exact hD⟩, hS.F ht⟩) hS.2.2 dX4_prepare_26
  exact E0 s.heap [] hP hD hS ls hl
-- X4_leastOf
set_option maxRecDepth 100000 in
set_option maxHeartbeats 4000000 in
theorem c_X4_leastOf (l : Launch) (G : va_G) (Y : Nat → ClassId) (sz : Nat) (p1 : Int32) (rv : Int32) (hf : f_X4_leastOf p1 = some (rv)) : Met l yX4_leastOf wsX4_leastOf (rmk 1 20) (va_Pc [.int p1] (Pre G (tys Y) [] sz xT)) (va_Qi (fun (r : Int32) (_ : Unit) => r = rv) (Pst G (tys Y) [] sz []) (va_A [] sz)) 0 0 (va_A [] sz) := by
  refine Met.ofW (cc := cX4_leastOf) (maxL := 1) (ret := (some .int)) (by decide) rfl ?_
  intro p e s m args below meth c s₁ B hml hv
  obtain ⟨rfl, hsz, hP, hK, hD0, hX⟩ := hv
  have hx := B.exec
  have hb := B.bytes
  have hr := B.returns
  have hts := atoms_spec (ws := wsX4_leastOf) B.pre
  have hown : s.vm.findClass RX4 = some m.cls := findClass_of_methodNamed B.named
  have hlocks := B.notSynchronized
  subst hsz
  have hD := hD0.self (sz := s.heap.size)
  generalize hAe : va_A [] s.heap.size = A at hD ⊢
  have hA : ∀ q : Nat, s.heap.size ≤ q → A q := fun q h => by rw [← hAe]; exact Or.inr h
  have hS : va_S A s.heap s.heap [] := va_S.rf
  have hP : va_P G vwCl [] s.heap := hP
  have hl := lv_entry ([.int p1]) (n := 1) (Nat.le_of_ble_eq_true rfl)
  rw [lg_entry_eq]
  generalize (lg_sl ([.int p1]) ++ List.replicate (1 - (lg_sl ([.int p1])).length) Slot.unset).toArray = ls at hl ⊢
  have hl : lv_has ls 1 [(0, .int p1)] := hl
  have E0 : ∀ (H : Heap) (locs : List Loc), va_P G vwCl [] H → va_D A [] → va_S A s.heap H locs → ∀ (ls : Array Slot), lv_has ls 1 [(0, .int p1)] → W p l e (headSpec wsX4_leastOf (rmk 1 20)).room s m [.int p1].toArray below meth c H locs 0 0 (MQ below (va_Qi (fun (r : Int32) (_ : Unit) => r = rv) (Pst G (tys Y) [] s.heap.size []) A) [.int p1].toArray s 0 0 A) (F0 m 0 ls []) := by
    intro H locs hP hD hS ls hl
    unfold f_X4_leastOf at hf
    refine lv_iload_n hx hb dX4_leastOf_0 rfl (lv_at hl 0 rfl) ?_
    refine lv_iload_n hx hb dX4_leastOf_1 rfl (lv_at hl 0 rfl) ?_
    refine lv_ineg hx hb dX4_leastOf_2 ?_
    refine lv_iand hx hb dX4_leastOf_3 ?_
    refine lv_iconst (v := 1) hx hb dX4_leastOf_4 (by decide) ?_
    refine lv_isub hx hb dX4_leastOf_5 ?_
    obtain ⟨r1, hc, hf⟩ := bd1 hf
    refine cl_i (ws' := []) (wr := []) (rnS (As := [.int ((p1 &&& (-p1)) - (1 : Int32))]) (rest := []) ⟨hx, hb, hml, hown, hts⟩ (c_J6_bitCount_0f7a4 l G Y H.size ((p1 &&& (-p1)) - (1 : Int32)) r1 hc) (va_cwS 1 hts gX4_leastOf_J6_bitCount_0f7a4 rfl rfl rfl (by decide +kernel) ⟨(Nat.le_of_ble_eq_true rfl), (Nat.le_of_ble_eq_true rfl)⟩) trivial okT hK hP hD [] rfl rfl rfl hl.1 rfl (Nat.le_of_ble_eq_true rfl) dX4_leastOf_6) hP hD hS hA [] [] [] rfl rfl rfl (by decide) rfl rfl (fun H locs hP hD hS => ?_)
    have e0 := rt1 hf
    exact W.iret (v := r1) hx hb hr (fun t ht hW => ⟨⟨r1, (), rfl, e0, by rw [ht]; exact hP, va_K.moved hW.alike hK, by rw [hAe]; exact hD⟩, hS.F ht⟩) hS.2.2 dX4_leastOf_9
  exact E0 s.heap [] hP hD hS ls hl
-- X4_placeOf
set_option maxRecDepth 100000 in
set_option maxHeartbeats 4000000 in
theorem c_X4_placeOf (l : Launch) (G : va_G) (Y : Nat → ClassId) (sz : Nat) (p1 : Int32) (rv : Int32) (hf : f_X4_placeOf p1 = some (rv)) : Met l yX4_placeOf wsX4_placeOf (rmk 2 40) (va_Pc [.int p1] (Pre G (tys Y) [] sz xT)) (va_Qi (fun (r : Int32) (_ : Unit) => r = rv) (Pst G (tys Y) [] sz []) (va_A [] sz)) 0 0 (va_A [] sz) := by
  refine Met.ofW (cc := cX4_placeOf) (maxL := 2) (ret := (some .int)) (by decide) rfl ?_
  intro p e s m args below meth c s₁ B hml hv
  obtain ⟨rfl, hsz, hP, hK, hD0, hX⟩ := hv
  have hx := B.exec
  have hb := B.bytes
  have hr := B.returns
  have hts := atoms_spec (ws := wsX4_placeOf) B.pre
  have hown : s.vm.findClass RX4 = some m.cls := findClass_of_methodNamed B.named
  have hlocks := B.notSynchronized
  subst hsz
  have hD := hD0.self (sz := s.heap.size)
  generalize hAe : va_A [] s.heap.size = A at hD ⊢
  have hA : ∀ q : Nat, s.heap.size ≤ q → A q := fun q h => by rw [← hAe]; exact Or.inr h
  have hS : va_S A s.heap s.heap [] := va_S.rf
  have hP : va_P G vwCl [] s.heap := hP
  have hl := lv_entry ([.int p1]) (n := 2) (Nat.le_of_ble_eq_true rfl)
  rw [lg_entry_eq]
  generalize (lg_sl ([.int p1]) ++ List.replicate (2 - (lg_sl ([.int p1])).length) Slot.unset).toArray = ls at hl ⊢
  have hl : lv_has ls 2 [(0, .int p1)] := hl
  have E0 : ∀ (H : Heap) (locs : List Loc), va_P G vwCl [] H → va_D A [] → va_S A s.heap H locs → ∀ (ls : Array Slot), lv_has ls 2 [(0, .int p1)] → W p l e (headSpec wsX4_placeOf (rmk 2 40)).room s m [.int p1].toArray below meth c H locs 0 0 (MQ below (va_Qi (fun (r : Int32) (_ : Unit) => r = rv) (Pst G (tys Y) [] s.heap.size []) A) [.int p1].toArray s 0 0 A) (F0 m 0 ls []) := by
    intro H locs hP hD hS ls hl
    unfold f_X4_placeOf at hf
    refine lv_iload_n hx hb dX4_placeOf_0 rfl (lv_at hl 0 rfl) ?_
    refine lv_bipush (v := 7) hx hb dX4_placeOf_1 (by decide) ?_
    refine lv_iand hx hb dX4_placeOf_3 ?_
    refine lv_topi (fun v1 e_v1 => ?_)
    have hf := nm_at hf e_v1
    refine lv_istore_n (lv' := [(1, .int v1), (0, .int p1)]) hx hb dX4_placeOf_4 rfl hl (by decide) rfl (fun ls hl => ?_)
    refine lv_iload_n hx hb dX4_placeOf_5 rfl (lv_at hl 0 rfl) ?_
    refine lv_if_ne (tgt := 17) hx hb dX4_placeOf_6 (by decide) (fun c2 => ?_) (fun c2 => ?_)
    · have hf := ie hf c2
      refine lv_iload_n hx hb dX4_placeOf_17 rfl (lv_at hl 0 rfl) ?_
      obtain ⟨r3, hc, hf⟩ := bd1 hf
      refine cl_i (ws' := []) (wr := []) (rnS (As := [.int v1]) (rest := []) ⟨hx, hb, hml, hown, hts⟩ (c_X4_leastOf l G Y H.size v1 r3 hc) (va_cwS 1 hts gX4_placeOf_X4_leastOf rfl rfl rfl (by decide +kernel) ⟨(Nat.le_of_ble_eq_true rfl), (Nat.le_of_ble_eq_true rfl)⟩) trivial okT hK hP hD [] rfl rfl rfl hl.1 rfl (Nat.le_of_ble_eq_true rfl) dX4_placeOf_18) hP hD hS hA [] [] [] rfl rfl rfl (by decide) rfl rfl (fun H locs hP hD hS => ?_)
      have e0 := rt1 hf
      exact W.iret (v := r3) hx hb hr (fun t ht hW => ⟨⟨r3, (), rfl, e0, by rw [ht]; exact hP, va_K.moved hW.alike hK, by rw [hAe]; exact hD⟩, hS.F ht⟩) hS.2.2 dX4_placeOf_21
    · have hf := it hf c2
      refine lv_iconst (v := 3) hx hb dX4_placeOf_9 (by decide) ?_
      refine lv_iload_n hx hb dX4_placeOf_10 rfl (lv_at hl 1 rfl) ?_
      refine lv_iconst (v := 3) hx hb dX4_placeOf_11 (by decide) ?_
      refine lv_ishr hx hb dX4_placeOf_12 ?_
      refine lv_iadd hx hb dX4_placeOf_13 ?_
      refine lv_goto (tgt := 21) hx hb dX4_placeOf_14 (by decide) ?_
      have e0 := rt1 hf
      exact W.iret (v := ((3 : Int32) + (p1 >>> ((3 : Int32) &&& 31)))) hx hb hr (fun t ht hW => ⟨⟨((3 : Int32) + (p1 >>> ((3 : Int32) &&& 31))), (), rfl, e0, by rw [ht]; exact hP, va_K.moved hW.alike hK, by rw [hAe]; exact hD⟩, hS.F ht⟩) hS.2.2 dX4_placeOf_21
  exact E0 s.heap [] hP hD hS ls hl
-- X4_addPaired
set_option maxRecDepth 100000 in
set_option maxHeartbeats 4000000 in
theorem c_X4_addPaired (l : Launch) (G : va_G) (Y : Nat → ClassId) (sz : Nat) (qt : Nat → Nat) (t_worths : Nat → Int64) (t_longest : Nat → Int32) (t_stamp : Int32) (t_age : Int32) (t_isTurned : Int32) (p1 : Int32) (p2 : Int32) (p3 : Int32) (o_t_worths : Nat → Int64) (o_t_longest : Nat → Int32) (hf : f_X4_addPaired t_worths t_longest p1 p2 p3 = some (o_t_worths, o_t_longest)) : Met l yX4_addPaired wsX4_addPaired (rmk 1 23) (va_Pc [.ref (qt 0), .int p1, .int p2, .int p3] (Pre G (tys Y) [(qt 0, oX4 qt t_stamp t_age t_isTurned), (qt 1, .inl (Y 1, 3605, .inr (.inl t_worths))), (qt 2, .inl (Y 0, 515, .inl t_longest))] sz xT)) (va_Qv (fun (_ : Unit) => True) (Pst G (tys Y) [(qt 0, oX4 qt t_stamp t_age t_isTurned), (qt 1, .inl (Y 1, 3605, .inr (.inl t_worths))), (qt 2, .inl (Y 0, 515, .inl t_longest))] sz [(qt 0, oX4 qt t_stamp t_age t_isTurned), (qt 1, .inl (Y 1, 3605, .inr (.inl o_t_worths))), (qt 2, .inl (Y 0, 515, .inl o_t_longest))]) (va_A [(qt 0, oX4 qt t_stamp t_age t_isTurned), (qt 1, .inl (Y 1, 3605, .inr (.inl t_worths))), (qt 2, .inl (Y 0, 515, .inl t_longest))] sz)) 0 0 (va_A [(qt 0, oX4 qt t_stamp t_age t_isTurned), (qt 1, .inl (Y 1, 3605, .inr (.inl t_worths))), (qt 2, .inl (Y 0, 515, .inl t_longest))] sz) := by
  refine Met.ofW (cc := cX4_addPaired) (maxL := 8) (ret := none) (by decide) rfl ?_
  intro p e s m args below meth c s₁ B hml hv
  obtain ⟨rfl, hsz, hP, hK, hD0, hX⟩ := hv
  have hx := B.exec
  have hb := B.bytes
  have hr := B.returns
  have hts := atoms_spec (ws := wsX4_addPaired) B.pre
  have hown : s.vm.findClass RX4 = some m.cls := findClass_of_methodNamed B.named
  have hlocks := B.notSynchronized
  subst hsz
  have hD := hD0.self (sz := s.heap.size)
  generalize hAe : va_A [(qt 0, oX4 qt t_stamp t_age t_isTurned), (qt 1, .inl (Y 1, 3605, .inr (.inl t_worths))), (qt 2, .inl (Y 0, 515, .inl t_longest))] s.heap.size = A at hD ⊢
  have hA : ∀ q : Nat, s.heap.size ≤ q → A q := fun q h => by rw [← hAe]; exact Or.inr h
  have hS : va_S A s.heap s.heap [] := va_S.rf
  have hP : va_P G vwCl [(qt 0, oX4 qt t_stamp t_age t_isTurned), (qt 1, .inl (Y 1, 3605, .inr (.inl t_worths))), (qt 2, .inl (Y 0, 515, .inl t_longest))] s.heap := hP
  have wd1 : (Cond.fieldLink RX4 15 "PairedLines$Table" "longest" "[I").before [.ref (qt 0), .int p1, .int p2, .int p3].toArray s = true := hts _ (List.mem_of_getElem? (i := 1) rfl)
  have wd2 : (Cond.methodLink RX4 79 Lib.Math.max.name).before [.ref (qt 0), .int p1, .int p2, .int p3].toArray s = true := hts _ (List.mem_of_getElem? (i := 2) rfl)
  have wd3 : (Cond.static Lib.Math.max.name).before [.ref (qt 0), .int p1, .int p2, .int p3].toArray s = true := hts _ (List.mem_of_getElem? (i := 3) rfl)
  have wd4 : (Cond.initialized "java/lang/Math").before [.ref (qt 0), .int p1, .int p2, .int p3].toArray s = true := hts _ (List.mem_of_getElem? (i := 4) rfl)
  have wd5 : (Cond.code Lib.Math.max.name Lib.Math.max.code 2 (some .int)).before [.ref (qt 0), .int p1, .int p2, .int p3].toArray s = true := hts _ (List.mem_of_getElem? (i := 5) rfl)
  have wd6 : (Cond.methodLink RX4 84 Lib.Math.min.name).before [.ref (qt 0), .int p1, .int p2, .int p3].toArray s = true := hts _ (List.mem_of_getElem? (i := 6) rfl)
  have wd7 : (Cond.static Lib.Math.min.name).before [.ref (qt 0), .int p1, .int p2, .int p3].toArray s = true := hts _ (List.mem_of_getElem? (i := 7) rfl)
  have wd8 : (Cond.code Lib.Math.min.name Lib.Math.min.code 2 (some .int)).before [.ref (qt 0), .int p1, .int p2, .int p3].toArray s = true := hts _ (List.mem_of_getElem? (i := 8) rfl)
  have wd9 : (Cond.fieldLink RX4 9 "PairedLines$Table" "worths" "[J").before [.ref (qt 0), .int p1, .int p2, .int p3].toArray s = true := hts _ (List.mem_of_getElem? (i := 9) rfl)
  have inX4w : ∀ w ∈ u_ws RX4 TX4 9, w ∈ wsX4_addPaired := fun w hw => List.mem_cons_of_mem _ (List.mem_append_right _ (hw))
  have hl := lv_entry ([.ref (qt 0), .int p1, .int p2, .int p3]) (n := 8) (Nat.le_of_ble_eq_true rfl)
  rw [lg_entry_eq]
  generalize (lg_sl ([.ref (qt 0), .int p1, .int p2, .int p3]) ++ List.replicate (8 - (lg_sl ([.ref (qt 0), .int p1, .int p2, .int p3])).length) Slot.unset).toArray = ls at hl ⊢
  have hl : lv_has ls 8 [(0, .ref (qt 0)), (1, .int p1), (2, .int p2), (3, .int p3)] := hl
  have B58 : ∀ (n58 : Nat), ∀ (b_t_worths : Nat → Int64) (b_t_longest : Nat → Int32) (x4 : Int32) (x5 : Int32) (x6 : Int32) (x7 : Int32), f_X4_addPaired_b58 p1 p2 p3 n58 b_t_worths b_t_longest x4 x5 x6 x7 = some (o_t_worths, o_t_longest) → ∀ (H : Heap) (locs : List Loc), va_P G vwCl [(qt 0, oX4 qt t_stamp t_age t_isTurned), (qt 1, .inl (Y 1, 3605, .inr (.inl b_t_worths))), (qt 2, .inl (Y 0, 515, .inl b_t_longest))] H → va_D A [(qt 0, oX4 qt t_stamp t_age t_isTurned), (qt 1, .inl (Y 1, 3605, .inr (.inl b_t_worths))), (qt 2, .inl (Y 0, 515, .inl b_t_longest))] → va_S A s.heap H locs → ∀ (ls : Array Slot), lv_has ls 8 [(0, .ref (qt 0)), (3, .int p3), (4, .int x4), (5, .int x5), (6, .int x6), (7, .int x7)] → W p l e (headSpec wsX4_addPaired (rmk 1 23)).room s m [.ref (qt 0), .int p1, .int p2, .int p3].toArray below meth c H locs 0 0 (MQ below (va_Qv (fun (_ : Unit) => True) (Pst G (tys Y) [(qt 0, oX4 qt t_stamp t_age t_isTurned), (qt 1, .inl (Y 1, 3605, .inr (.inl t_worths))), (qt 2, .inl (Y 0, 515, .inl t_longest))] s.heap.size [(qt 0, oX4 qt t_stamp t_age t_isTurned), (qt 1, .inl (Y 1, 3605, .inr (.inl o_t_worths))), (qt 2, .inl (Y 0, 515, .inl o_t_longest))]) A) [.ref (qt 0), .int p1, .int p2, .int p3].toArray s 0 0 A) (F0 m 58 ls []) := by
    intro n58
    induction n58 with
    | zero =>
      intro b_t_worths b_t_longest x4 x5 x6 x7 hf H locs hP hD hS ls hl
      exact no_none hf
    | succ n58 ih58 =>
      intro b_t_worths b_t_longest x4 x5 x6 x7 hf H locs hP hD hS ls hl
      have hf : f_X4_addPaired_s58 p1 p2 p3 (f_X4_addPaired_b58 p1 p2 p3  n58) b_t_worths b_t_longest x4 x5 x6 x7 = some (o_t_worths, o_t_longest) := hf
      unfold f_X4_addPaired_s58 at hf
      refine lv_iload hx hb dX4_addPaired_58 (lv_at hl 5 rfl) ?_
      refine lv_iload hx hb dX4_addPaired_60 (lv_at hl 4 rfl) ?_
      refine lv_icmp_gt (tgt := 111) hx hb dX4_addPaired_62 (by decide) (fun c1 => ?_) (fun c1 => ?_)
      · have hf := it hf c1
        obtain ⟨e0, e1⟩ := rt2 hf
        have hP : va_P G vwCl [(qt 0, oX4 qt t_stamp t_age t_isTurned), (qt 1, .inl (Y 1, 3605, .inr (.inl o_t_worths))), (qt 2, .inl (Y 0, 515, .inl o_t_longest))] H := by rw [← e0, ← e1]; exact hP
        have hD : va_D A [(qt 0, oX4 qt t_stamp t_age t_isTurned), (qt 1, .inl (Y 1, 3605, .inr (.inl o_t_worths))), (qt 2, .inl (Y 0, 515, .inl o_t_longest))] := by rw [← e0, ← e1]; exact hD
        exact W.vret hx hb hr (fun t ht hW => ⟨⟨(), rfl, trivial, by rw [ht]; exact hP, va_K.moved hW.alike hK, by rw [hAe]; exact hD⟩, hS.F ht⟩) hS.2.2 dX4_addPaired_111
      · have hf := ie hf c1
        refine lv_aload_n hx hb dX4_addPaired_65 rfl (lv_at hl 0 rfl) ?_
        refine va_get (D := G) (ci := 3) (v := .ref (qt 1)) (C := RX4) (T := TX4) (N := 9) hx hb hts inX4w hown hK hP 0 rfl rfl 0 (by decide) wd9 (fun _ h9 => h9) rfl dX4_addPaired_66 ?_
        refine lv_iload hx hb dX4_addPaired_69 (lv_at hl 2 rfl) ?_
        refine lv_iload hx hb dX4_addPaired_71 (lv_at hl 5 rfl) ?_
        refine lv_iadd hx hb dX4_addPaired_73 ?_
        refine lv_aload_n hx hb dX4_addPaired_74 rfl (lv_at hl 0 rfl) ?_
        refine va_get (D := G) (ci := 3) (v := .ref (qt 1)) (C := RX4) (T := TX4) (N := 9) hx hb hts inX4w hown hK hP 0 rfl rfl 0 (by decide) wd9 (fun _ h9 => h9) rfl dX4_addPaired_75 ?_
        refine lv_iload hx hb dX4_addPaired_78 (lv_at hl 2 rfl) ?_
        refine lv_iload hx hb dX4_addPaired_80 (lv_at hl 5 rfl) ?_
        refine lv_iadd hx hb dX4_addPaired_82 ?_
        obtain ⟨g2, hf⟩ := gd hf
        refine va_lald hx hb hK hP 1 1 rfl rfl g2 dX4_addPaired_83 ?_
        refine lv_iload_n hx hb dX4_addPaired_84 rfl (lv_at hl 1 rfl) ?_
        refine lv_i2l hx hb dX4_addPaired_85 rfl ?_
        refine lv_aload_n hx hb dX4_addPaired_86 rfl (lv_at hl 0 rfl) ?_
        refine va_get (D := G) (ci := 3) (v := .ref (qt 1)) (C := RX4) (T := TX4) (N := 9) hx hb hts inX4w hown hK hP 0 rfl rfl 0 (by decide) wd9 (fun _ h9 => h9) rfl dX4_addPaired_87 ?_
        refine lv_iload hx hb dX4_addPaired_90 (lv_at hl 3 rfl) ?_
        refine lv_iload hx hb dX4_addPaired_92 (lv_at hl 5 rfl) ?_
        refine lv_iadd hx hb dX4_addPaired_94 ?_
        refine lv_iconst (v := 1) hx hb dX4_addPaired_95 (by decide) ?_
        refine lv_isub hx hb dX4_addPaired_96 ?_
        obtain ⟨g3, hf⟩ := gd hf
        refine va_lald hx hb hK hP 1 1 rfl rfl g3 dX4_addPaired_97 ?_
        obtain ⟨r4, hc, hf⟩ := bd1 hf
        refine cl_l (ws' := [(qt 0, oX4 qt t_stamp t_age t_isTurned), (qt 1, .inl (Y 1, 3605, .inr (.inl b_t_worths))), (qt 2, .inl (Y 0, 515, .inl b_t_longest))]) (wr := [(qt 0, oX4 qt t_stamp t_age t_isTurned), (qt 1, .inl (Y 1, 3605, .inr (.inl b_t_worths))), (qt 2, .inl (Y 0, 515, .inl b_t_longest))]) (rnS (As := [.long p3.toInt64, .long (b_t_worths ((x5 + x7) - (1 : Int32)).toNatClampNeg)]) (rest := [.long (b_t_worths (x4 + x7).toNatClampNeg), .int (x4 + x7), .ref (qt 1)]) ⟨hx, hb, hml, hown, hts⟩ (c_X7_times l G Y H.size p3.toInt64 (b_t_worths ((x5 + x7) - (1 : Int32)).toNatClampNeg) r4 hc) (va_cwS 2 hts gX4_addPaired_X7_times rfl rfl rfl (by decide +kernel) ⟨(Nat.le_of_ble_eq_true rfl), (Nat.le_of_ble_eq_true rfl)⟩) trivial okT hK hP hD [] rfl rfl rfl hl.1 rfl (Nat.le_of_ble_eq_true rfl) dX4_addPaired_98) hP hD hS hA [] [0, 1, 2] [0, 1, 2] rfl rfl rfl (by decide) rfl rfl (fun H locs hP hD hS => ?_)
        obtain ⟨r5, hc, hf⟩ := bd1 hf
        refine cl_l (ws' := [(qt 0, oX4 qt t_stamp t_age t_isTurned), (qt 1, .inl (Y 1, 3605, .inr (.inl b_t_worths))), (qt 2, .inl (Y 0, 515, .inl b_t_longest))]) (wr := [(qt 0, oX4 qt t_stamp t_age t_isTurned), (qt 1, .inl (Y 1, 3605, .inr (.inl b_t_worths))), (qt 2, .inl (Y 0, 515, .inl b_t_longest))]) (rnS (As := [.long (b_t_worths (x4 + x7).toNatClampNeg), .long r4]) (rest := [.int (x4 + x7), .ref (qt 1)]) ⟨hx, hb, hml, hown, hts⟩ (c_X7_plus l G Y H.size (b_t_worths (x4 + x7).toNatClampNeg) r4 r5 hc) (va_cwS 2 hts gX4_addPaired_X7_plus rfl rfl rfl (by decide +kernel) ⟨(Nat.le_of_ble_eq_true rfl), (Nat.le_of_ble_eq_true rfl)⟩) trivial okT hK hP hD [] rfl rfl rfl hl.1 rfl (Nat.le_of_ble_eq_true rfl) dX4_addPaired_101) hP hD hS hA [] [0, 1, 2] [0, 1, 2] rfl rfl rfl (by decide) rfl rfl (fun H locs hP hD hS => ?_)
        obtain ⟨g6, hf⟩ := gd hf
        refine va_last hx hb hK hP hD hS 1 1 rfl rfl g6 dX4_addPaired_104 (fun H locs hP hD hS => ?_)
        obtain ⟨v7, e_v7⟩ : ∃ z : Nat → Int64, z = vp_updL b_t_worths (x4 + x7).toNatClampNeg r5 := ⟨_, rfl⟩
        have hf := nm_at hf e_v7
        have hP : va_P G vwCl [(qt 0, oX4 qt t_stamp t_age t_isTurned), (qt 1, .inl (Y 1, 3605, .inr (.inl v7))), (qt 2, .inl (Y 0, 515, .inl b_t_longest))] H := by rw [e_v7]; exact hP
        have hD : va_D A [(qt 0, oX4 qt t_stamp t_age t_isTurned), (qt 1, .inl (Y 1, 3605, .inr (.inl v7))), (qt 2, .inl (Y 0, 515, .inl b_t_longest))] := by rw [e_v7]; exact hD
        obtain ⟨v8, e_v8⟩ : ∃ z : Int32, z = (x7 + 1) := ⟨_, rfl⟩
        have hf := nm_at hf e_v8
        refine lv_iinc (v := v8) (lv' := [(7, .int v8), (0, .ref (qt 0)), (3, .int p3), (4, .int x4), (5, .int x5), (6, .int x6)]) hx hb dX4_addPaired_105 hl (k := 5) rfl (by rw [e_v8]; rfl) (by decide) rfl (fun ls hl => ?_)
        refine lv_goto (tgt := 58) hx hb dX4_addPaired_108 (by decide) ?_
        exact ih58 v7 b_t_longest x4 x5 x6 v8 hf _ _ hP hD hS ls (lv_sub hl [1, 2, 3, 4, 5, 0] rfl)
  have E0 : ∀ (H : Heap) (locs : List Loc), va_P G vwCl [(qt 0, oX4 qt t_stamp t_age t_isTurned), (qt 1, .inl (Y 1, 3605, .inr (.inl t_worths))), (qt 2, .inl (Y 0, 515, .inl t_longest))] H → va_D A [(qt 0, oX4 qt t_stamp t_age t_isTurned), (qt 1, .inl (Y 1, 3605, .inr (.inl t_worths))), (qt 2, .inl (Y 0, 515, .inl t_longest))] → va_S A s.heap H locs → ∀ (ls : Array Slot), lv_has ls 8 [(0, .ref (qt 0)), (1, .int p1), (2, .int p2), (3, .int p3)] → W p l e (headSpec wsX4_addPaired (rmk 1 23)).room s m [.ref (qt 0), .int p1, .int p2, .int p3].toArray below meth c H locs 0 0 (MQ below (va_Qv (fun (_ : Unit) => True) (Pst G (tys Y) [(qt 0, oX4 qt t_stamp t_age t_isTurned), (qt 1, .inl (Y 1, 3605, .inr (.inl t_worths))), (qt 2, .inl (Y 0, 515, .inl t_longest))] s.heap.size [(qt 0, oX4 qt t_stamp t_age t_isTurned), (qt 1, .inl (Y 1, 3605, .inr (.inl o_t_worths))), (qt 2, .inl (Y 0, 515, .inl o_t_longest))]) A) [.ref (qt 0), .int p1, .int p2, .int p3].toArray s 0 0 A) (F0 m 0 ls []) := by
    intro H locs hP hD hS ls hl
    unfold f_X4_addPaired at hf
    refine lv_aload_n hx hb dX4_addPaired_0 rfl (lv_at hl 0 rfl) ?_
    refine va_get (D := G) (ci := 3) (v := .ref (qt 2)) (C := RX4) (T := TX4) (N := 9) hx hb hts inX4w hown hK hP 0 rfl rfl 1 (by decide) wd1 (fun _ h9 => h9) rfl dX4_addPaired_1 ?_
    refine lv_iload_n hx hb dX4_addPaired_4 rfl (lv_at hl 1 rfl) ?_
    refine lv_aload_n hx hb dX4_addPaired_5 rfl (lv_at hl 0 rfl) ?_
    refine va_get (D := G) (ci := 3) (v := .ref (qt 2)) (C := RX4) (T := TX4) (N := 9) hx hb hts inX4w hown hK hP 0 rfl rfl 1 (by decide) wd1 (fun _ h9 => h9) rfl dX4_addPaired_6 ?_
    refine lv_iload_n hx hb dX4_addPaired_9 rfl (lv_at hl 1 rfl) ?_
    obtain ⟨g9, hf⟩ := gd hf
    refine va_iald hx hb hK hP 2 0 rfl rfl g9 dX4_addPaired_10 ?_
    refine lv_aload_n hx hb dX4_addPaired_11 rfl (lv_at hl 0 rfl) ?_
    refine va_get (D := G) (ci := 3) (v := .ref (qt 2)) (C := RX4) (T := TX4) (N := 9) hx hb hts inX4w hown hK hP 0 rfl rfl 1 (by decide) wd1 (fun _ h9 => h9) rfl dX4_addPaired_12 ?_
    refine lv_iload_n hx hb dX4_addPaired_15 rfl (lv_at hl 2 rfl) ?_
    obtain ⟨g10, hf⟩ := gd hf
    refine va_iald hx hb hK hP 2 0 rfl rfl g10 dX4_addPaired_16 ?_
    refine lv_iconst (v := 1) hx hb dX4_addPaired_17 (by decide) ?_
    refine lv_iadd hx hb dX4_addPaired_18 ?_
    refine va_mmax hx hb (hml.trans hl.1.symm) hown wd2 wd3 wd4 wd5 (Nat.le_of_ble_eq_true rfl) (Nat.le_of_ble_eq_true rfl) (Nat.zero_le _) (Nat.zero_le _) dX4_addPaired_19 ?_
    obtain ⟨g11, hf⟩ := gd hf
    refine va_iast hx hb hK hP hD hS 2 0 rfl rfl g11 dX4_addPaired_22 (fun H locs hP hD hS => ?_)
    obtain ⟨v12, e_v12⟩ : ∃ z : Nat → Int32, z = upd t_longest p1.toNatClampNeg (if (t_longest p1.toNatClampNeg) < ((t_longest p2.toNatClampNeg) + (1 : Int32)) then ((t_longest p2.toNatClampNeg) + (1 : Int32)) else (t_longest p1.toNatClampNeg)) := ⟨_, rfl⟩
    have hf := nm_at hf e_v12
    have hP : va_P G vwCl [(qt 0, oX4 qt t_stamp t_age t_isTurned), (qt 1, .inl (Y 1, 3605, .inr (.inl t_worths))), (qt 2, .inl (Y 0, 515, .inl v12))] H := by rw [e_v12]; exact hP
    have hD : va_D A [(qt 0, oX4 qt t_stamp t_age t_isTurned), (qt 1, .inl (Y 1, 3605, .inr (.inl t_worths))), (qt 2, .inl (Y 0, 515, .inl v12))] := by rw [e_v12]; exact hD
    refine lv_iload_n hx hb dX4_addPaired_23 rfl (lv_at hl 3 rfl) ?_
    refine lv_if_ne (tgt := 28) hx hb dX4_addPaired_24 (by decide) (fun c13 => ?_) (fun c13 => ?_)
    · have hf := ie hf c13
      refine lv_iload_n hx hb dX4_addPaired_28 rfl (lv_at hl 1 rfl) ?_
      refine lv_bipush (v := 7) hx hb dX4_addPaired_29 (by decide) ?_
      refine lv_imul hx hb dX4_addPaired_31 ?_
      refine lv_topi (fun v14 e_v14 => ?_)
      have hf := nm_at hf e_v14
      refine lv_istore (lv' := [(4, .int v14), (0, .ref (qt 0)), (1, .int p1), (2, .int p2), (3, .int p3)]) hx hb dX4_addPaired_32 hl (by decide) rfl (fun ls hl => ?_)
      refine lv_iload_n hx hb dX4_addPaired_34 rfl (lv_at hl 3 rfl) ?_
      refine lv_bipush (v := 7) hx hb dX4_addPaired_35 (by decide) ?_
      refine lv_imul hx hb dX4_addPaired_37 ?_
      refine lv_topi (fun v15 e_v15 => ?_)
      have hf := nm_at hf e_v15
      refine lv_istore (lv' := [(5, .int v15), (4, .int v14), (0, .ref (qt 0)), (1, .int p1), (2, .int p2), (3, .int p3)]) hx hb dX4_addPaired_38 hl (by decide) rfl (fun ls hl => ?_)
      refine lv_aload_n hx hb dX4_addPaired_40 rfl (lv_at hl 2 rfl) ?_
      refine va_get (D := G) (ci := 3) (v := .ref (qt 2)) (C := RX4) (T := TX4) (N := 9) hx hb hts inX4w hown hK hP 0 rfl rfl 1 (by decide) wd1 (fun _ h9 => h9) rfl dX4_addPaired_41 ?_
      refine lv_iload_n hx hb dX4_addPaired_44 rfl (lv_at hl 4 rfl) ?_
      obtain ⟨g16, hf⟩ := gd hf
      refine va_iald hx hb hK hP 2 0 rfl rfl g16 dX4_addPaired_45 ?_
      refine lv_iconst (v := 1) hx hb dX4_addPaired_46 (by decide) ?_
      refine lv_iadd hx hb dX4_addPaired_47 ?_
      refine lv_bipush (v := 6) hx hb dX4_addPaired_48 (by decide) ?_
      refine va_mmin hx hb (hml.trans hl.1.symm) hown wd6 wd7 wd4 wd8 (Nat.le_of_ble_eq_true rfl) (Nat.le_of_ble_eq_true rfl) (Nat.zero_le _) (Nat.zero_le _) dX4_addPaired_50 ?_
      refine lv_topi (fun v17 e_v17 => ?_)
      have hf := nm_at hf e_v17
      refine lv_istore (lv' := [(6, .int v17), (5, .int v15), (4, .int v14), (0, .ref (qt 0)), (1, .int p1), (2, .int p2), (3, .int p3)]) hx hb dX4_addPaired_53 hl (by decide) rfl (fun ls hl => ?_)
      refine lv_iconst (v := 1) hx hb dX4_addPaired_55 (by decide) ?_
      refine lv_istore (lv' := [(7, .int (1 : Int32)), (6, .int v17), (5, .int v15), (4, .int v14), (0, .ref (qt 0)), (1, .int p1), (2, .int p2), (3, .int p3)]) hx hb dX4_addPaired_56 hl (by decide) rfl (fun ls hl => ?_)
      exact B58 70 t_worths v12 v14 v15 v17 (1 : Int32) hf _ _ hP hD hS ls (lv_sub hl [4, 7, 3, 2, 1, 0] rfl)
    · have hf := it hf c13
      obtain ⟨e0, e1⟩ := rt2 hf
      have hP : va_P G vwCl [(qt 0, oX4 qt t_stamp t_age t_isTurned), (qt 1, .inl (Y 1, 3605, .inr (.inl o_t_worths))), (qt 2, .inl (Y 0, 515, .inl o_t_longest))] H := by rw [← e0, ← e1]; exact hP
      have hD : va_D A [(qt 0, oX4 qt t_stamp t_age t_isTurned), (qt 1, .inl (Y 1, 3605, .inr (.inl o_t_worths))), (qt 2, .inl (Y 0, 515, .inl o_t_longest))] := by rw [← e0, ← e1]; exact hD
      exact W.vret hx hb hr (fun t ht hW => ⟨⟨(), rfl, trivial, by rw [ht]; exact hP, va_K.moved hW.alike hK, by rw [hAe]; exact hD⟩, hS.F ht⟩) hS.2.2 dX4_addPaired_27
  exact E0 s.heap [] hP hD hS ls hl
-- X4_placeFor
set_option maxRecDepth 100000 in
set_option maxHeartbeats 4000000 in
theorem c_X4_placeFor (l : Launch) (G : va_G) (Y : Nat → ClassId) : ∀ (d : Nat) (sz : Nat) (qt : Nat → Nat) (t_worths : Nat → Int64) (t_longest : Nat → Int32) (t_sets : Nat → Int32) (t_stamps : Nat → Int32) (t_nears : Nat → Int32) (t_weights : Nat → Int32) (t_stamp : Int32) (t_age : Int32) (t_isTurned : Int32) (p1 : Int32) (p2 : Int32) (rv : Int32) (o_t_worths : Nat → Int64) (o_t_longest : Nat → Int32) (o_t_sets : Nat → Int32) (o_t_stamps : Nat → Int32) (hf : f_X4_placeFor d t_worths t_longest t_sets t_stamps t_nears t_weights t_stamp p1 p2 = some (rv, o_t_worths, o_t_longest, o_t_sets, o_t_stamps)), Met l yX4_placeFor wsX4_placeFor (rmk (3 + d) (61 + 28 * d)) (va_Pc [.ref (qt 0), .int p1, .int p2] (Pre G (tys Y) [(qt 0, oX4 qt t_stamp t_age t_isTurned), (qt 1, .inl (Y 1, 3605, .inr (.inl t_worths))), (qt 2, .inl (Y 0, 515, .inl t_longest)), (qt 3, .inl (Y 0, 515, .inl t_sets)), (qt 4, .inl (Y 0, 515, .inl t_stamps)), (qt 5, .inl (Y 0, 12, .inl t_nears)), (qt 6, .inl (Y 0, 144, .inl t_weights))] sz xT)) (va_Qi (fun (r : Int32) (_ : Unit) => r = rv) (Pst G (tys Y) [(qt 0, oX4 qt t_stamp t_age t_isTurned), (qt 1, .inl (Y 1, 3605, .inr (.inl t_worths))), (qt 2, .inl (Y 0, 515, .inl t_longest)), (qt 3, .inl (Y 0, 515, .inl t_sets)), (qt 4, .inl (Y 0, 515, .inl t_stamps)), (qt 5, .inl (Y 0, 12, .inl t_nears)), (qt 6, .inl (Y 0, 144, .inl t_weights))] sz [(qt 0, oX4 qt t_stamp t_age t_isTurned), (qt 1, .inl (Y 1, 3605, .inr (.inl o_t_worths))), (qt 2, .inl (Y 0, 515, .inl o_t_longest)), (qt 3, .inl (Y 0, 515, .inl o_t_sets)), (qt 4, .inl (Y 0, 515, .inl o_t_stamps)), (qt 5, .inl (Y 0, 12, .inl t_nears)), (qt 6, .inl (Y 0, 144, .inl t_weights))]) (va_A [(qt 0, oX4 qt t_stamp t_age t_isTurned), (qt 1, .inl (Y 1, 3605, .inr (.inl t_worths))), (qt 2, .inl (Y 0, 515, .inl t_longest)), (qt 3, .inl (Y 0, 515, .inl t_sets)), (qt 4, .inl (Y 0, 515, .inl t_stamps)), (qt 5, .inl (Y 0, 12, .inl t_nears)), (qt 6, .inl (Y 0, 144, .inl t_weights))] sz)) 0 0 (va_A [(qt 0, oX4 qt t_stamp t_age t_isTurned), (qt 1, .inl (Y 1, 3605, .inr (.inl t_worths))), (qt 2, .inl (Y 0, 515, .inl t_longest)), (qt 3, .inl (Y 0, 515, .inl t_sets)), (qt 4, .inl (Y 0, 515, .inl t_stamps)), (qt 5, .inl (Y 0, 12, .inl t_nears)), (qt 6, .inl (Y 0, 144, .inl t_weights))] sz) := by
  intro d
  induction d with
  | zero =>
    intro sz qt t_worths t_longest t_sets t_stamps t_nears t_weights t_stamp t_age t_isTurned p1 p2 rv o_t_worths o_t_longest o_t_sets o_t_stamps hf
    exact no_none hf
  | succ d ihd =>
  intro sz qt t_worths t_longest t_sets t_stamps t_nears t_weights t_stamp t_age t_isTurned p1 p2 rv o_t_worths o_t_longest o_t_sets o_t_stamps hf
  have hf : f_X4_placeFor_st (f_X4_placeFor d) t_worths t_longest t_sets t_stamps t_nears t_weights t_stamp p1 p2 = some (rv, o_t_worths, o_t_longest, o_t_sets, o_t_stamps) := hf
  refine Met.ofW (cc := cX4_placeFor) (maxL := 9) (ret := (some .int)) (by decide) rfl ?_
  intro p e s m args below meth c s₁ B hml hv
  obtain ⟨rfl, hsz, hP, hK, hD0, hX⟩ := hv
  have hx := B.exec
  have hb := B.bytes
  have hr := B.returns
  have hts := atoms_spec (ws := wsX4_placeFor) B.pre
  have hown : s.vm.findClass RX4 = some m.cls := findClass_of_methodNamed B.named
  have hlocks := B.notSynchronized
  subst hsz
  have hD := hD0.self (sz := s.heap.size)
  generalize hAe : va_A [(qt 0, oX4 qt t_stamp t_age t_isTurned), (qt 1, .inl (Y 1, 3605, .inr (.inl t_worths))), (qt 2, .inl (Y 0, 515, .inl t_longest)), (qt 3, .inl (Y 0, 515, .inl t_sets)), (qt 4, .inl (Y 0, 515, .inl t_stamps)), (qt 5, .inl (Y 0, 12, .inl t_nears)), (qt 6, .inl (Y 0, 144, .inl t_weights))] s.heap.size = A at hD ⊢
  have hA : ∀ q : Nat, s.heap.size ≤ q → A q := fun q h => by rw [← hAe]; exact Or.inr h
  have hS : va_S A s.heap s.heap [] := va_S.rf
  have hP : va_P G vwCl [(qt 0, oX4 qt t_stamp t_age t_isTurned), (qt 1, .inl (Y 1, 3605, .inr (.inl t_worths))), (qt 2, .inl (Y 0, 515, .inl t_longest)), (qt 3, .inl (Y 0, 515, .inl t_sets)), (qt 4, .inl (Y 0, 515, .inl t_stamps)), (qt 5, .inl (Y 0, 12, .inl t_nears)), (qt 6, .inl (Y 0, 144, .inl t_weights))] s.heap := hP
  have wd1 : (Cond.fieldLink RX4 22 "PairedLines$Table" "stamps" "[I").before [.ref (qt 0), .int p1, .int p2].toArray s = true := hts _ (List.mem_of_getElem? (i := 1) rfl)
  have wd2 : (Cond.fieldLink RX4 31 "PairedLines$Table" "stamp" "I").before [.ref (qt 0), .int p1, .int p2].toArray s = true := hts _ (List.mem_of_getElem? (i := 2) rfl)
  have wd3 : (Cond.fieldLink RX4 19 "PairedLines$Table" "sets" "[I").before [.ref (qt 0), .int p1, .int p2].toArray s = true := hts _ (List.mem_of_getElem? (i := 3) rfl)
  have wd4 : (Cond.fieldLink RX4 9 "PairedLines$Table" "worths" "[J").before [.ref (qt 0), .int p1, .int p2].toArray s = true := hts _ (List.mem_of_getElem? (i := 4) rfl)
  have wd5 : (Cond.methodLink RX4 69 arraycopyName).before [.ref (qt 0), .int p1, .int p2].toArray s = true := hts _ (List.mem_of_getElem? (i := 5) rfl)
  have wd6 : (Cond.native arraycopyName).before [.ref (qt 0), .int p1, .int p2].toArray s = true := hts _ (List.mem_of_getElem? (i := 6) rfl)
  have wd7 : (Cond.static arraycopyName).before [.ref (qt 0), .int p1, .int p2].toArray s = true := hts _ (List.mem_of_getElem? (i := 7) rfl)
  have wd8 : (Cond.initialized "java/lang/System").before [.ref (qt 0), .int p1, .int p2].toArray s = true := hts _ (List.mem_of_getElem? (i := 8) rfl)
  have wd9 : (Cond.fieldLink RX4 15 "PairedLines$Table" "longest" "[I").before [.ref (qt 0), .int p1, .int p2].toArray s = true := hts _ (List.mem_of_getElem? (i := 9) rfl)
  have wd10 : (Cond.fieldLink RX4 25 "PairedLines$Table" "nears" "[I").before [.ref (qt 0), .int p1, .int p2].toArray s = true := hts _ (List.mem_of_getElem? (i := 10) rfl)
  have wd11 : (Cond.fieldLink RX4 28 "PairedLines$Table" "weights" "[I").before [.ref (qt 0), .int p1, .int p2].toArray s = true := hts _ (List.mem_of_getElem? (i := 11) rfl)
  have inX4w : ∀ w ∈ u_ws RX4 TX4 9, w ∈ wsX4_placeFor := fun w hw => List.mem_cons_of_mem _ (List.mem_append_right _ (hw))
  have hl := lv_entry ([.ref (qt 0), .int p1, .int p2]) (n := 9) (Nat.le_of_ble_eq_true rfl)
  rw [lg_entry_eq]
  generalize (lg_sl ([.ref (qt 0), .int p1, .int p2]) ++ List.replicate (9 - (lg_sl ([.ref (qt 0), .int p1, .int p2])).length) Slot.unset).toArray = ls at hl ⊢
  have hl : lv_has ls 9 [(0, .ref (qt 0)), (1, .int p1), (2, .int p2)] := hl
  have B147 : ∀ (n147 : Nat), ∀ (b_t_worths : Nat → Int64) (b_t_longest : Nat → Int32) (b_t_sets : Nat → Int32) (b_t_stamps : Nat → Int32) (x3 : Int32) (x4 : Int32) (x5 : Int32) (x7 : Int32) (x8 : Int32), f_X4_placeFor_b147 (f_X4_placeFor d) t_nears t_weights t_stamp p1 p2 n147 b_t_worths b_t_longest b_t_sets b_t_stamps x3 x4 x5 x7 x8 = some (rv, o_t_worths, o_t_longest, o_t_sets, o_t_stamps) → ∀ (H : Heap) (locs : List Loc), va_P G vwCl [(qt 0, oX4 qt t_stamp t_age t_isTurned), (qt 1, .inl (Y 1, 3605, .inr (.inl b_t_worths))), (qt 2, .inl (Y 0, 515, .inl b_t_longest)), (qt 3, .inl (Y 0, 515, .inl b_t_sets)), (qt 4, .inl (Y 0, 515, .inl b_t_stamps)), (qt 5, .inl (Y 0, 12, .inl t_nears)), (qt 6, .inl (Y 0, 144, .inl t_weights))] H → va_D A [(qt 0, oX4 qt t_stamp t_age t_isTurned), (qt 1, .inl (Y 1, 3605, .inr (.inl b_t_worths))), (qt 2, .inl (Y 0, 515, .inl b_t_longest)), (qt 3, .inl (Y 0, 515, .inl b_t_sets)), (qt 4, .inl (Y 0, 515, .inl b_t_stamps)), (qt 5, .inl (Y 0, 12, .inl t_nears)), (qt 6, .inl (Y 0, 144, .inl t_weights))] → va_S A s.heap H locs → ∀ (ls : Array Slot), lv_has ls 9 [(0, .ref (qt 0)), (2, .int p2), (3, .int x3), (4, .int x4), (5, .int x5), (7, .int x7), (8, .int x8)] → W p l e (headSpec wsX4_placeFor (rmk (3 + (d + 1)) (61 + 28 * (d + 1)))).room s m [.ref (qt 0), .int p1, .int p2].toArray below meth c H locs 0 0 (MQ below (va_Qi (fun (r : Int32) (_ : Unit) => r = rv) (Pst G (tys Y) [(qt 0, oX4 qt t_stamp t_age t_isTurned), (qt 1, .inl (Y 1, 3605, .inr (.inl t_worths))), (qt 2, .inl (Y 0, 515, .inl t_longest)), (qt 3, .inl (Y 0, 515, .inl t_sets)), (qt 4, .inl (Y 0, 515, .inl t_stamps)), (qt 5, .inl (Y 0, 12, .inl t_nears)), (qt 6, .inl (Y 0, 144, .inl t_weights))] s.heap.size [(qt 0, oX4 qt t_stamp t_age t_isTurned), (qt 1, .inl (Y 1, 3605, .inr (.inl o_t_worths))), (qt 2, .inl (Y 0, 515, .inl o_t_longest)), (qt 3, .inl (Y 0, 515, .inl o_t_sets)), (qt 4, .inl (Y 0, 515, .inl o_t_stamps)), (qt 5, .inl (Y 0, 12, .inl t_nears)), (qt 6, .inl (Y 0, 144, .inl t_weights))]) A) [.ref (qt 0), .int p1, .int p2].toArray s 0 0 A) (F0 m 147 ls []) := by
    intro n147
    induction n147 with
    | zero =>
      intro b_t_worths b_t_longest b_t_sets b_t_stamps x3 x4 x5 x7 x8 hf H locs hP hD hS ls hl
      exact no_none hf
    | succ n147 ih147 =>
      intro b_t_worths b_t_longest b_t_sets b_t_stamps x3 x4 x5 x7 x8 hf H locs hP hD hS ls hl
      have hf : f_X4_placeFor_s147 (f_X4_placeFor d) t_nears t_weights t_stamp p1 p2 (f_X4_placeFor_b147 (f_X4_placeFor d) t_nears t_weights t_stamp p1 p2  n147) b_t_worths b_t_longest b_t_sets b_t_stamps x3 x4 x5 x7 x8 = some (rv, o_t_worths, o_t_longest, o_t_sets, o_t_stamps) := hf
      unfold f_X4_placeFor_s147 at hf
      refine lv_iload hx hb dX4_placeFor_147 (lv_at hl 6 rfl) ?_
      refine lv_bipush (v := 12) hx hb dX4_placeFor_149 (by decide) ?_
      refine lv_icmp_ge (tgt := 202) hx hb dX4_placeFor_151 (by decide) (fun c1 => ?_) (fun c1 => ?_)
      · have hf := it hf c1
        refine lv_iload_n hx hb dX4_placeFor_202 rfl (lv_at hl 2 rfl) ?_
        obtain ⟨e0, e1, e2, e3, e4⟩ := rt5 hf
        have hP : va_P G vwCl [(qt 0, oX4 qt t_stamp t_age t_isTurned), (qt 1, .inl (Y 1, 3605, .inr (.inl o_t_worths))), (qt 2, .inl (Y 0, 515, .inl o_t_longest)), (qt 3, .inl (Y 0, 515, .inl o_t_sets)), (qt 4, .inl (Y 0, 515, .inl o_t_stamps)), (qt 5, .inl (Y 0, 12, .inl t_nears)), (qt 6, .inl (Y 0, 144, .inl t_weights))] H := by rw [← e1, ← e2, ← e3, ← e4]; exact hP
        have hD : va_D A [(qt 0, oX4 qt t_stamp t_age t_isTurned), (qt 1, .inl (Y 1, 3605, .inr (.inl o_t_worths))), (qt 2, .inl (Y 0, 515, .inl o_t_longest)), (qt 3, .inl (Y 0, 515, .inl o_t_sets)), (qt 4, .inl (Y 0, 515, .inl o_t_stamps)), (qt 5, .inl (Y 0, 12, .inl t_nears)), (qt 6, .inl (Y 0, 144, .inl t_weights))] := by rw [← e1, ← e2, ← e3, ← e4]; exact hD
        exact W.iret (v := x3) hx hb hr (fun t ht hW => ⟨⟨x3, (), rfl, e0, by rw [ht]; exact hP, va_K.moved hW.alike hK, by rw [hAe]; exact hD⟩, hS.F ht⟩) hS.2.2 dX4_placeFor_203
      · have hf := ie hf c1
        refine lv_iload hx hb dX4_placeFor_154 (lv_at hl 5 rfl) ?_
        refine lv_iload hx hb dX4_placeFor_156 (lv_at hl 6 rfl) ?_
        refine lv_ishr hx hb dX4_placeFor_158 ?_
        refine lv_iconst (v := 1) hx hb dX4_placeFor_159 (by decide) ?_
        refine lv_iand hx hb dX4_placeFor_160 ?_
        refine lv_if_eq (tgt := 196) hx hb dX4_placeFor_161 (by decide) (fun c2 => ?_) (fun c2 => ?_)
        · have hf := it hf c2
          obtain ⟨v3, e_v3⟩ : ∃ z : Int32, z = (x8 + 1) := ⟨_, rfl⟩
          have hf := nm_at hf e_v3
          refine lv_iinc (v := v3) (lv' := [(8, .int v3), (0, .ref (qt 0)), (2, .int p2), (3, .int x3), (4, .int x4), (5, .int x5), (7, .int x7)]) hx hb dX4_placeFor_196 hl (k := 6) rfl (by rw [e_v3]; rfl) (by decide) rfl (fun ls hl => ?_)
          refine lv_goto (tgt := 147) hx hb dX4_placeFor_199 (by decide) ?_
          exact ih147 b_t_worths b_t_longest b_t_sets b_t_stamps x3 x4 x5 x7 v3 hf _ _ hP hD hS ls (lv_sub hl [1, 2, 3, 4, 5, 6, 0] rfl)
        · have hf := ie hf c2
          refine lv_aload_n hx hb dX4_placeFor_164 rfl (lv_at hl 0 rfl) ?_
          refine lv_iload_n hx hb dX4_placeFor_165 rfl (lv_at hl 2 rfl) ?_
          refine lv_aload_n hx hb dX4_placeFor_166 rfl (lv_at hl 0 rfl) ?_
          refine lv_iload hx hb dX4_placeFor_167 (lv_at hl 4 rfl) ?_
          refine lv_iconst (v := 1) hx hb dX4_placeFor_169 (by decide) ?_
          refine lv_iload hx hb dX4_placeFor_170 (lv_at hl 6 rfl) ?_
          refine lv_ishl hx hb dX4_placeFor_172 ?_
          refine lv_ixor hx hb dX4_placeFor_173 ?_
          refine lv_iload_n hx hb dX4_placeFor_174 rfl (lv_at hl 1 rfl) ?_
          refine lv_iconst (v := 1) hx hb dX4_placeFor_175 (by decide) ?_
          refine lv_iadd hx hb dX4_placeFor_176 ?_
          obtain ⟨r4, w5, w6, w7, w8, hc, hf⟩ := bd5 hf
          refine cl_i (ws' := [(qt 0, oX4 qt t_stamp t_age t_isTurned), (qt 1, .inl (Y 1, 3605, .inr (.inl w5))), (qt 2, .inl (Y 0, 515, .inl w6)), (qt 3, .inl (Y 0, 515, .inl w7)), (qt 4, .inl (Y 0, 515, .inl w8)), (qt 5, .inl (Y 0, 12, .inl t_nears)), (qt 6, .inl (Y 0, 144, .inl t_weights))]) (wr := []) (rnV (As := [.int (x5 ^^^ ((1 : Int32) <<< (x8 &&& 31))), .int (p2 + (1 : Int32))]) (rest := [.int x3, .ref (qt 0)]) ⟨hx, hb, hml, hown, hts⟩ (ihd H.size qt b_t_worths b_t_longest b_t_sets b_t_stamps t_nears t_weights t_stamp t_age t_isTurned (x5 ^^^ ((1 : Int32) <<< (x8 &&& 31))) (p2 + (1 : Int32)) r4 w5 w6 w7 w8 hc) (cwV 2 hts gX4_placeFor_X4_placeFor rfl rfl rfl (by decide +kernel) ⟨by show _ + _ + 1 ≤ _ + (_ + 1); omega, by show 8 + (_ + 11) + (_ + _ * _) ≤ _ + _ * (_ + 1); omega⟩) trivial okT hK hP hD [0, 1, 2, 3, 4, 5, 6] rfl rfl (ci := 3) (q0 := 0) rfl rfl rfl rfl hl.1 rfl (Nat.le_of_ble_eq_true rfl) dX4_placeFor_177) hP hD hS hA [0, 1, 2, 3, 4, 5, 6] [] [0, 1, 2, 3, 4, 5, 6] rfl rfl rfl (by decide) rfl rfl (fun H locs hP hD hS => ?_)
          refine lv_aload_n hx hb dX4_placeFor_180 rfl (lv_at hl 0 rfl) ?_
          refine va_get (D := G) (ci := 3) (v := .ref (qt 6)) (C := RX4) (T := TX4) (N := 9) hx hb hts inX4w hown hK hP 0 rfl rfl 5 (by decide) wd11 (fun _ h9 => h9) rfl dX4_placeFor_181 ?_
          refine lv_iload hx hb dX4_placeFor_184 (lv_at hl 3 rfl) ?_
          refine lv_bipush (v := 12) hx hb dX4_placeFor_186 (by decide) ?_
          refine lv_imul hx hb dX4_placeFor_188 ?_
          refine lv_iload hx hb dX4_placeFor_189 (lv_at hl 6 rfl) ?_
          refine lv_iadd hx hb dX4_placeFor_191 ?_
          obtain ⟨g9, hf⟩ := gd hf
          refine va_iald hx hb hK hP 6 0 rfl rfl g9 dX4_placeFor_192 ?_
          obtain ⟨w10, w11, hc, hf⟩ := bd2 hf
          refine cl_v (ws' := [(qt 0, oX4 qt t_stamp t_age t_isTurned), (qt 1, .inl (Y 1, 3605, .inr (.inl w10))), (qt 2, .inl (Y 0, 515, .inl w11)), (qt 3, .inl (Y 0, 515, .inl w7)), (qt 4, .inl (Y 0, 515, .inl w8)), (qt 5, .inl (Y 0, 12, .inl t_nears)), (qt 6, .inl (Y 0, 144, .inl t_weights))]) (wr := [(qt 3, .inl (Y 0, 515, .inl w7)), (qt 4, .inl (Y 0, 515, .inl w8)), (qt 5, .inl (Y 0, 12, .inl t_nears)), (qt 6, .inl (Y 0, 144, .inl t_weights))]) (rnV (As := [.int x3, .int r4, .int (t_weights ((x4 * (12 : Int32)) + x8).toNatClampNeg)]) (rest := []) ⟨hx, hb, hml, hown, hts⟩ (c_X4_addPaired l G Y H.size qt w5 w6 t_stamp t_age t_isTurned x3 r4 (t_weights ((x4 * (12 : Int32)) + x8).toNatClampNeg) w10 w11 hc) (cwV 3 hts gX4_placeFor_X4_addPaired rfl rfl rfl (by decide +kernel) ⟨(by first | exact Nat.le_of_ble_eq_true rfl | (show _ ≤ _ + _; simp only [List.map, List.sum_cons, List.sum_nil]; omega) | (simp [headSpec, rmk]; omega)), (by first | exact Nat.le_of_ble_eq_true rfl | (show _ ≤ _ + _; simp only [List.map, List.sum_cons, List.sum_nil]; omega) | (simp [headSpec, rmk]; omega))⟩) trivial okT hK hP hD [0, 1, 2] rfl rfl (ci := 3) (q0 := 0) rfl rfl rfl rfl hl.1 rfl (Nat.le_of_ble_eq_true rfl) dX4_placeFor_193) hP hD hS hA [0, 1, 2] [3, 4, 5, 6] [4, 5, 6, 0, 1, 2, 3] rfl rfl rfl (by decide) rfl rfl (fun H locs hP hD hS => ?_)
          obtain ⟨v12, e_v12⟩ : ∃ z : Int32, z = (x8 + 1) := ⟨_, rfl⟩
          have hf := nm_at hf e_v12
          refine lv_iinc (v := v12) (lv' := [(8, .int v12), (0, .ref (qt 0)), (2, .int p2), (3, .int x3), (4, .int x4), (5, .int x5), (7, .int x7)]) hx hb dX4_placeFor_196 hl (k := 6) rfl (by rw [e_v12]; rfl) (by decide) rfl (fun ls hl => ?_)
          refine lv_goto (tgt := 147) hx hb dX4_placeFor_199 (by decide) ?_
          exact ih147 w10 w11 w7 w8 x3 x4 x5 x7 v12 hf _ _ hP hD hS ls (lv_sub hl [1, 2, 3, 4, 5, 6, 0] rfl)
  have B28 : ∀ (b_t_worths : Nat → Int64) (b_t_longest : Nat → Int32) (b_t_sets : Nat → Int32) (b_t_stamps : Nat → Int32) (x3 : Int32), f_X4_placeFor_b28 (f_X4_placeFor d) t_nears t_weights t_stamp p1 p2 b_t_worths b_t_longest b_t_sets b_t_stamps x3 = some (rv, o_t_worths, o_t_longest, o_t_sets, o_t_stamps) → ∀ (H : Heap) (locs : List Loc), va_P G vwCl [(qt 0, oX4 qt t_stamp t_age t_isTurned), (qt 1, .inl (Y 1, 3605, .inr (.inl b_t_worths))), (qt 2, .inl (Y 0, 515, .inl b_t_longest)), (qt 3, .inl (Y 0, 515, .inl b_t_sets)), (qt 4, .inl (Y 0, 515, .inl b_t_stamps)), (qt 5, .inl (Y 0, 12, .inl t_nears)), (qt 6, .inl (Y 0, 144, .inl t_weights))] H → va_D A [(qt 0, oX4 qt t_stamp t_age t_isTurned), (qt 1, .inl (Y 1, 3605, .inr (.inl b_t_worths))), (qt 2, .inl (Y 0, 515, .inl b_t_longest)), (qt 3, .inl (Y 0, 515, .inl b_t_sets)), (qt 4, .inl (Y 0, 515, .inl b_t_stamps)), (qt 5, .inl (Y 0, 12, .inl t_nears)), (qt 6, .inl (Y 0, 144, .inl t_weights))] → va_S A s.heap H locs → ∀ (ls : Array Slot), lv_has ls 9 [(0, .ref (qt 0)), (1, .int p1), (2, .int p2), (3, .int x3)] → W p l e (headSpec wsX4_placeFor (rmk (3 + (d + 1)) (61 + 28 * (d + 1)))).room s m [.ref (qt 0), .int p1, .int p2].toArray below meth c H locs 0 0 (MQ below (va_Qi (fun (r : Int32) (_ : Unit) => r = rv) (Pst G (tys Y) [(qt 0, oX4 qt t_stamp t_age t_isTurned), (qt 1, .inl (Y 1, 3605, .inr (.inl t_worths))), (qt 2, .inl (Y 0, 515, .inl t_longest)), (qt 3, .inl (Y 0, 515, .inl t_sets)), (qt 4, .inl (Y 0, 515, .inl t_stamps)), (qt 5, .inl (Y 0, 12, .inl t_nears)), (qt 6, .inl (Y 0, 144, .inl t_weights))] s.heap.size [(qt 0, oX4 qt t_stamp t_age t_isTurned), (qt 1, .inl (Y 1, 3605, .inr (.inl o_t_worths))), (qt 2, .inl (Y 0, 515, .inl o_t_longest)), (qt 3, .inl (Y 0, 515, .inl o_t_sets)), (qt 4, .inl (Y 0, 515, .inl o_t_stamps)), (qt 5, .inl (Y 0, 12, .inl t_nears)), (qt 6, .inl (Y 0, 144, .inl t_weights))]) A) [.ref (qt 0), .int p1, .int p2].toArray s 0 0 A) (F0 m 28 ls []) := by
    intro b_t_worths b_t_longest b_t_sets b_t_stamps x3 hf H locs hP hD hS ls hl
    unfold f_X4_placeFor_b28 at hf
    refine lv_iload_n hx hb dX4_placeFor_28 rfl (lv_at hl 2 rfl) ?_
    refine lv_bipush (v := 12) hx hb dX4_placeFor_29 (by decide) ?_
    refine lv_icmp_le (tgt := 36) hx hb dX4_placeFor_31 (by decide) (fun c13 => ?_) (fun c13 => ?_)
    · have hf := it hf c13
      refine lv_aload_n hx hb dX4_placeFor_36 rfl (lv_at hl 0 rfl) ?_
      refine va_get (D := G) (ci := 3) (v := .ref (qt 4)) (C := RX4) (T := TX4) (N := 9) hx hb hts inX4w hown hK hP 0 rfl rfl 3 (by decide) wd1 (fun _ h9 => h9) rfl dX4_placeFor_37 ?_
      refine lv_iload_n hx hb dX4_placeFor_40 rfl (lv_at hl 3 rfl) ?_
      refine lv_aload_n hx hb dX4_placeFor_41 rfl (lv_at hl 0 rfl) ?_
      refine va_get (D := G) (ci := 3) (v := .int t_stamp) (C := RX4) (T := TX4) (N := 9) hx hb hts inX4w hown hK hP 0 rfl rfl 6 (by decide) wd2 (fun _ h9 => h9) rfl dX4_placeFor_42 ?_
      obtain ⟨g14, hf⟩ := gd hf
      refine va_iast hx hb hK hP hD hS 4 0 rfl rfl g14 dX4_placeFor_45 (fun H locs hP hD hS => ?_)
      obtain ⟨v15, e_v15⟩ : ∃ z : Nat → Int32, z = upd b_t_stamps x3.toNatClampNeg t_stamp := ⟨_, rfl⟩
      have hf := nm_at hf e_v15
      have hP : va_P G vwCl [(qt 0, oX4 qt t_stamp t_age t_isTurned), (qt 1, .inl (Y 1, 3605, .inr (.inl b_t_worths))), (qt 2, .inl (Y 0, 515, .inl b_t_longest)), (qt 3, .inl (Y 0, 515, .inl b_t_sets)), (qt 4, .inl (Y 0, 515, .inl v15)), (qt 5, .inl (Y 0, 12, .inl t_nears)), (qt 6, .inl (Y 0, 144, .inl t_weights))] H := by rw [e_v15]; exact hP
      have hD : va_D A [(qt 0, oX4 qt t_stamp t_age t_isTurned), (qt 1, .inl (Y 1, 3605, .inr (.inl b_t_worths))), (qt 2, .inl (Y 0, 515, .inl b_t_longest)), (qt 3, .inl (Y 0, 515, .inl b_t_sets)), (qt 4, .inl (Y 0, 515, .inl v15)), (qt 5, .inl (Y 0, 12, .inl t_nears)), (qt 6, .inl (Y 0, 144, .inl t_weights))] := by rw [e_v15]; exact hD
      refine lv_aload_n hx hb dX4_placeFor_46 rfl (lv_at hl 0 rfl) ?_
      refine va_get (D := G) (ci := 3) (v := .ref (qt 3)) (C := RX4) (T := TX4) (N := 9) hx hb hts inX4w hown hK hP 0 rfl rfl 2 (by decide) wd3 (fun _ h9 => h9) rfl dX4_placeFor_47 ?_
      refine lv_iload_n hx hb dX4_placeFor_50 rfl (lv_at hl 3 rfl) ?_
      refine lv_iload_n hx hb dX4_placeFor_51 rfl (lv_at hl 1 rfl) ?_
      obtain ⟨g16, hf⟩ := gd hf
      refine va_iast hx hb hK hP hD hS 3 0 rfl rfl g16 dX4_placeFor_52 (fun H locs hP hD hS => ?_)
      obtain ⟨v17, e_v17⟩ : ∃ z : Nat → Int32, z = upd b_t_sets x3.toNatClampNeg p1 := ⟨_, rfl⟩
      have hf := nm_at hf e_v17
      have hP : va_P G vwCl [(qt 0, oX4 qt t_stamp t_age t_isTurned), (qt 1, .inl (Y 1, 3605, .inr (.inl b_t_worths))), (qt 2, .inl (Y 0, 515, .inl b_t_longest)), (qt 3, .inl (Y 0, 515, .inl v17)), (qt 4, .inl (Y 0, 515, .inl v15)), (qt 5, .inl (Y 0, 12, .inl t_nears)), (qt 6, .inl (Y 0, 144, .inl t_weights))] H := by rw [e_v17]; exact hP
      have hD : va_D A [(qt 0, oX4 qt t_stamp t_age t_isTurned), (qt 1, .inl (Y 1, 3605, .inr (.inl b_t_worths))), (qt 2, .inl (Y 0, 515, .inl b_t_longest)), (qt 3, .inl (Y 0, 515, .inl v17)), (qt 4, .inl (Y 0, 515, .inl v15)), (qt 5, .inl (Y 0, 12, .inl t_nears)), (qt 6, .inl (Y 0, 144, .inl t_weights))] := by rw [e_v17]; exact hD
      refine lv_iload_n hx hb dX4_placeFor_53 rfl (lv_at hl 1 rfl) ?_
      refine lv_if_ne (tgt := 69) hx hb dX4_placeFor_54 (by decide) (fun c18 => ?_) (fun c18 => ?_)
      · have hf := ie hf c18
        refine lv_iload_n hx hb dX4_placeFor_69 rfl (lv_at hl 1 rfl) ?_
        obtain ⟨r19, hc, hf⟩ := bd1 hf
        refine cl_i (ws' := [(qt 0, oX4 qt t_stamp t_age t_isTurned), (qt 1, .inl (Y 1, 3605, .inr (.inl b_t_worths))), (qt 2, .inl (Y 0, 515, .inl b_t_longest)), (qt 3, .inl (Y 0, 515, .inl v17)), (qt 4, .inl (Y 0, 515, .inl v15)), (qt 5, .inl (Y 0, 12, .inl t_nears)), (qt 6, .inl (Y 0, 144, .inl t_weights))]) (wr := [(qt 0, oX4 qt t_stamp t_age t_isTurned), (qt 1, .inl (Y 1, 3605, .inr (.inl b_t_worths))), (qt 2, .inl (Y 0, 515, .inl b_t_longest)), (qt 3, .inl (Y 0, 515, .inl v17)), (qt 4, .inl (Y 0, 515, .inl v15)), (qt 5, .inl (Y 0, 12, .inl t_nears)), (qt 6, .inl (Y 0, 144, .inl t_weights))]) (rnS (As := [.int p1]) (rest := []) ⟨hx, hb, hml, hown, hts⟩ (c_X4_leastOf l G Y H.size p1 r19 hc) (va_cwS 1 hts gX4_placeFor_X4_leastOf rfl rfl rfl (by decide +kernel) ⟨(by first | exact Nat.le_of_ble_eq_true rfl | (show _ ≤ _ + _; simp only [List.map, List.sum_cons, List.sum_nil]; omega) | (simp [headSpec, rmk]; omega)), (by first | exact Nat.le_of_ble_eq_true rfl | (show _ ≤ _ + _; simp only [List.map, List.sum_cons, List.sum_nil]; omega) | (simp [headSpec, rmk]; omega))⟩) trivial okT hK hP hD [] rfl rfl rfl hl.1 rfl (Nat.le_of_ble_eq_true rfl) dX4_placeFor_70) hP hD hS hA [] [0, 1, 2, 3, 4, 5, 6] [0, 1, 2, 3, 4, 5, 6] rfl rfl rfl (by decide) rfl rfl (fun H locs hP hD hS => ?_)
        refine lv_istore (lv' := [(4, .int r19), (0, .ref (qt 0)), (1, .int p1), (2, .int p2), (3, .int x3)]) hx hb dX4_placeFor_73 hl (by decide) rfl (fun ls hl => ?_)
        refine lv_iload_n hx hb dX4_placeFor_75 rfl (lv_at hl 2 rfl) ?_
        refine lv_iconst (v := 1) hx hb dX4_placeFor_76 (by decide) ?_
        refine lv_iload hx hb dX4_placeFor_77 (lv_at hl 0 rfl) ?_
        refine lv_ishl hx hb dX4_placeFor_79 ?_
        refine lv_ixor hx hb dX4_placeFor_80 ?_
        refine lv_topi (fun v20 e_v20 => ?_)
        have hf := nm_at hf e_v20
        refine lv_istore (lv' := [(5, .int v20), (4, .int r19), (0, .ref (qt 0)), (1, .int p1), (2, .int p2), (3, .int x3)]) hx hb dX4_placeFor_81 hl (by decide) rfl (fun ls hl => ?_)
        refine lv_aload_n hx hb dX4_placeFor_83 rfl (lv_at hl 2 rfl) ?_
        refine lv_iload hx hb dX4_placeFor_84 (lv_at hl 0 rfl) ?_
        refine lv_iload_n hx hb dX4_placeFor_86 rfl (lv_at hl 4 rfl) ?_
        refine lv_iconst (v := 1) hx hb dX4_placeFor_87 (by decide) ?_
        refine lv_iadd hx hb dX4_placeFor_88 ?_
        obtain ⟨r21, w22, w23, w24, w25, hc, hf⟩ := bd5 hf
        refine cl_i (ws' := [(qt 0, oX4 qt t_stamp t_age t_isTurned), (qt 1, .inl (Y 1, 3605, .inr (.inl w22))), (qt 2, .inl (Y 0, 515, .inl w23)), (qt 3, .inl (Y 0, 515, .inl w24)), (qt 4, .inl (Y 0, 515, .inl w25)), (qt 5, .inl (Y 0, 12, .inl t_nears)), (qt 6, .inl (Y 0, 144, .inl t_weights))]) (wr := []) (rnV (As := [.int v20, .int (p2 + (1 : Int32))]) (rest := []) ⟨hx, hb, hml, hown, hts⟩ (ihd H.size qt b_t_worths b_t_longest v17 v15 t_nears t_weights t_stamp t_age t_isTurned v20 (p2 + (1 : Int32)) r21 w22 w23 w24 w25 hc) (cwV 2 hts gX4_placeFor_X4_placeFor rfl rfl rfl (by decide +kernel) ⟨by show _ + _ + 1 ≤ _ + (_ + 1); omega, by show 8 + (_ + 11) + (_ + _ * _) ≤ _ + _ * (_ + 1); omega⟩) trivial okT hK hP hD [0, 1, 2, 3, 4, 5, 6] rfl rfl (ci := 3) (q0 := 0) rfl rfl rfl rfl hl.1 rfl (Nat.le_of_ble_eq_true rfl) dX4_placeFor_89) hP hD hS hA [0, 1, 2, 3, 4, 5, 6] [] [0, 1, 2, 3, 4, 5, 6] rfl rfl rfl (by decide) rfl rfl (fun H locs hP hD hS => ?_)
        refine lv_istore (lv' := [(6, .int r21), (5, .int v20), (4, .int r19), (0, .ref (qt 0)), (1, .int p1), (2, .int p2), (3, .int x3)]) hx hb dX4_placeFor_92 hl (by decide) rfl (fun ls hl => ?_)
        refine lv_aload_n hx hb dX4_placeFor_94 rfl (lv_at hl 3 rfl) ?_
        refine va_get (D := G) (ci := 3) (v := .ref (qt 1)) (C := RX4) (T := TX4) (N := 9) hx hb hts inX4w hown hK hP 0 rfl rfl 0 (by decide) wd4 (fun _ h9 => h9) rfl dX4_placeFor_95 ?_
        refine lv_iload hx hb dX4_placeFor_98 (lv_at hl 0 rfl) ?_
        refine lv_bipush (v := 7) hx hb dX4_placeFor_100 (by decide) ?_
        refine lv_imul hx hb dX4_placeFor_102 ?_
        refine lv_aload_n hx hb dX4_placeFor_103 rfl (lv_at hl 3 rfl) ?_
        refine va_get (D := G) (ci := 3) (v := .ref (qt 1)) (C := RX4) (T := TX4) (N := 9) hx hb hts inX4w hown hK hP 0 rfl rfl 0 (by decide) wd4 (fun _ h9 => h9) rfl dX4_placeFor_104 ?_
        refine lv_iload_n hx hb dX4_placeFor_107 rfl (lv_at hl 6 rfl) ?_
        refine lv_bipush (v := 7) hx hb dX4_placeFor_108 (by decide) ?_
        refine lv_imul hx hb dX4_placeFor_110 ?_
        refine lv_bipush (v := 7) hx hb dX4_placeFor_111 (by decide) ?_
        obtain ⟨⟨g26, g27, g28, g29, g30⟩, hf⟩ := gp hf
        refine va_copyl hx hb (hml.trans hl.1.symm) hown wd5 wd6 wd7 wd8 hK hP hD hS 1 1 1 1 rfl rfl rfl rfl rfl g26 g27 g28 g29 g30 (fun _ _ => rfl) (by first | exact Nat.le_of_ble_eq_true rfl | (show _ ≤ _ + _; simp only [List.map, List.sum_cons, List.sum_nil]; omega) | (simp [headSpec, rmk]; omega)) (by first | exact Nat.le_of_ble_eq_true rfl | (show _ ≤ _ + _; simp only [List.map, List.sum_cons, List.sum_nil]; omega) | (simp [headSpec, rmk]; omega)) dX4_placeFor_113 (fun H locs hP hD hS => ?_)
        obtain ⟨v32, e_v32⟩ : ∃ z : Nat → Int64, z = va_cpy w22 w22 (r21 * (7 : Int32)).toNatClampNeg (x3 * (7 : Int32)).toNatClampNeg (7 : Int32).toNatClampNeg := ⟨_, rfl⟩
        have hf := nm_at hf e_v32
        have hP : va_P G vwCl [(qt 0, oX4 qt t_stamp t_age t_isTurned), (qt 1, .inl (Y 1, 3605, .inr (.inl v32))), (qt 2, .inl (Y 0, 515, .inl w23)), (qt 3, .inl (Y 0, 515, .inl w24)), (qt 4, .inl (Y 0, 515, .inl w25)), (qt 5, .inl (Y 0, 12, .inl t_nears)), (qt 6, .inl (Y 0, 144, .inl t_weights))] H := by rw [e_v32]; exact hP
        have hD : va_D A [(qt 0, oX4 qt t_stamp t_age t_isTurned), (qt 1, .inl (Y 1, 3605, .inr (.inl v32))), (qt 2, .inl (Y 0, 515, .inl w23)), (qt 3, .inl (Y 0, 515, .inl w24)), (qt 4, .inl (Y 0, 515, .inl w25)), (qt 5, .inl (Y 0, 12, .inl t_nears)), (qt 6, .inl (Y 0, 144, .inl t_weights))] := by rw [e_v32]; exact hD
        refine lv_aload_n hx hb dX4_placeFor_116 rfl (lv_at hl 3 rfl) ?_
        refine va_get (D := G) (ci := 3) (v := .ref (qt 2)) (C := RX4) (T := TX4) (N := 9) hx hb hts inX4w hown hK hP 0 rfl rfl 1 (by decide) wd9 (fun _ h9 => h9) rfl dX4_placeFor_117 ?_
        refine lv_iload_n hx hb dX4_placeFor_120 rfl (lv_at hl 6 rfl) ?_
        refine lv_aload_n hx hb dX4_placeFor_121 rfl (lv_at hl 3 rfl) ?_
        refine va_get (D := G) (ci := 3) (v := .ref (qt 2)) (C := RX4) (T := TX4) (N := 9) hx hb hts inX4w hown hK hP 0 rfl rfl 1 (by decide) wd9 (fun _ h9 => h9) rfl dX4_placeFor_122 ?_
        refine lv_iload hx hb dX4_placeFor_125 (lv_at hl 0 rfl) ?_
        obtain ⟨g33, hf⟩ := gd hf
        refine va_iald hx hb hK hP 2 0 rfl rfl g33 dX4_placeFor_127 ?_
        obtain ⟨g34, hf⟩ := gd hf
        refine va_iast hx hb hK hP hD hS 2 0 rfl rfl g34 dX4_placeFor_128 (fun H locs hP hD hS => ?_)
        obtain ⟨v35, e_v35⟩ : ∃ z : Nat → Int32, z = upd w23 x3.toNatClampNeg (w23 r21.toNatClampNeg) := ⟨_, rfl⟩
        have hf := nm_at hf e_v35
        have hP : va_P G vwCl [(qt 0, oX4 qt t_stamp t_age t_isTurned), (qt 1, .inl (Y 1, 3605, .inr (.inl v32))), (qt 2, .inl (Y 0, 515, .inl v35)), (qt 3, .inl (Y 0, 515, .inl w24)), (qt 4, .inl (Y 0, 515, .inl w25)), (qt 5, .inl (Y 0, 12, .inl t_nears)), (qt 6, .inl (Y 0, 144, .inl t_weights))] H := by rw [e_v35]; exact hP
        have hD : va_D A [(qt 0, oX4 qt t_stamp t_age t_isTurned), (qt 1, .inl (Y 1, 3605, .inr (.inl v32))), (qt 2, .inl (Y 0, 515, .inl v35)), (qt 3, .inl (Y 0, 515, .inl w24)), (qt 4, .inl (Y 0, 515, .inl w25)), (qt 5, .inl (Y 0, 12, .inl t_nears)), (qt 6, .inl (Y 0, 144, .inl t_weights))] := by rw [e_v35]; exact hD
        refine lv_aload_n hx hb dX4_placeFor_129 rfl (lv_at hl 3 rfl) ?_
        refine va_get (D := G) (ci := 3) (v := .ref (qt 5)) (C := RX4) (T := TX4) (N := 9) hx hb hts inX4w hown hK hP 0 rfl rfl 4 (by decide) wd10 (fun _ h9 => h9) rfl dX4_placeFor_130 ?_
        refine lv_iload hx hb dX4_placeFor_133 (lv_at hl 2 rfl) ?_
        obtain ⟨g36, hf⟩ := gd hf
        refine va_iald hx hb hK hP 5 0 rfl rfl g36 dX4_placeFor_135 ?_
        refine lv_iload hx hb dX4_placeFor_136 (lv_at hl 1 rfl) ?_
        refine lv_iand hx hb dX4_placeFor_138 ?_
        refine lv_topi (fun v37 e_v37 => ?_)
        have hf := nm_at hf e_v37
        refine lv_istore (lv' := [(7, .int v37), (6, .int r21), (5, .int v20), (4, .int r19), (0, .ref (qt 0)), (1, .int p1), (2, .int p2), (3, .int x3)]) hx hb dX4_placeFor_139 hl (by decide) rfl (fun ls hl => ?_)
        refine lv_iload hx hb dX4_placeFor_141 (lv_at hl 3 rfl) ?_
        refine lv_iconst (v := 1) hx hb dX4_placeFor_143 (by decide) ?_
        refine lv_iadd hx hb dX4_placeFor_144 ?_
        refine lv_topi (fun v38 e_v38 => ?_)
        have hf := nm_at hf e_v38
        refine lv_istore (lv' := [(8, .int v38), (7, .int v37), (6, .int r21), (5, .int v20), (4, .int r19), (0, .ref (qt 0)), (1, .int p1), (2, .int p2), (3, .int x3)]) hx hb dX4_placeFor_145 hl (by decide) rfl (fun ls hl => ?_)
        exact B147 70 v32 v35 w24 w25 x3 r19 v20 v37 v38 hf _ _ hP hD hS ls (lv_sub hl [5, 7, 8, 4, 3, 1, 0] rfl)
      · have hf := it hf c18
        refine lv_aload_n hx hb dX4_placeFor_57 rfl (lv_at hl 0 rfl) ?_
        refine va_get (D := G) (ci := 3) (v := .ref (qt 1)) (C := RX4) (T := TX4) (N := 9) hx hb hts inX4w hown hK hP 0 rfl rfl 0 (by decide) wd4 (fun _ h9 => h9) rfl dX4_placeFor_58 ?_
        refine lv_iload_n hx hb dX4_placeFor_61 rfl (lv_at hl 3 rfl) ?_
        refine lv_bipush (v := 7) hx hb dX4_placeFor_62 (by decide) ?_
        refine lv_imul hx hb dX4_placeFor_64 ?_
        refine lv_lconst (v := 1) hx hb dX4_placeFor_65 (by decide) ?_
        obtain ⟨g39, hf⟩ := gd hf
        refine va_last hx hb hK hP hD hS 1 1 rfl rfl g39 dX4_placeFor_66 (fun H locs hP hD hS => ?_)
        obtain ⟨v40, e_v40⟩ : ∃ z : Nat → Int64, z = vp_updL b_t_worths (x3 * (7 : Int32)).toNatClampNeg (1 : Int64) := ⟨_, rfl⟩
        have hf := nm_at hf e_v40
        have hP : va_P G vwCl [(qt 0, oX4 qt t_stamp t_age t_isTurned), (qt 1, .inl (Y 1, 3605, .inr (.inl v40))), (qt 2, .inl (Y 0, 515, .inl b_t_longest)), (qt 3, .inl (Y 0, 515, .inl v17)), (qt 4, .inl (Y 0, 515, .inl v15)), (qt 5, .inl (Y 0, 12, .inl t_nears)), (qt 6, .inl (Y 0, 144, .inl t_weights))] H := by rw [e_v40]; exact hP
        have hD : va_D A [(qt 0, oX4 qt t_stamp t_age t_isTurned), (qt 1, .inl (Y 1, 3605, .inr (.inl v40))), (qt 2, .inl (Y 0, 515, .inl b_t_longest)), (qt 3, .inl (Y 0, 515, .inl v17)), (qt 4, .inl (Y 0, 515, .inl v15)), (qt 5, .inl (Y 0, 12, .inl t_nears)), (qt 6, .inl (Y 0, 144, .inl t_weights))] := by rw [e_v40]; exact hD
        refine lv_iload_n hx hb dX4_placeFor_67 rfl (lv_at hl 3 rfl) ?_
        obtain ⟨e0, e1, e2, e3, e4⟩ := rt5 hf
        have hP : va_P G vwCl [(qt 0, oX4 qt t_stamp t_age t_isTurned), (qt 1, .inl (Y 1, 3605, .inr (.inl o_t_worths))), (qt 2, .inl (Y 0, 515, .inl o_t_longest)), (qt 3, .inl (Y 0, 515, .inl o_t_sets)), (qt 4, .inl (Y 0, 515, .inl o_t_stamps)), (qt 5, .inl (Y 0, 12, .inl t_nears)), (qt 6, .inl (Y 0, 144, .inl t_weights))] H := by rw [← e1, ← e2, ← e3, ← e4]; exact hP
        have hD : va_D A [(qt 0, oX4 qt t_stamp t_age t_isTurned), (qt 1, .inl (Y 1, 3605, .inr (.inl o_t_worths))), (qt 2, .inl (Y 0, 515, .inl o_t_longest)), (qt 3, .inl (Y 0, 515, .inl o_t_sets)), (qt 4, .inl (Y 0, 515, .inl o_t_stamps)), (qt 5, .inl (Y 0, 12, .inl t_nears)), (qt 6, .inl (Y 0, 144, .inl t_weights))] := by rw [← e1, ← e2, ← e3, ← e4]; exact hD
        exact W.iret (v := x3) hx hb hr (fun t ht hW => ⟨⟨x3, (), rfl, e0, by rw [ht]; exact hP, va_K.moved hW.alike hK, by rw [hAe]; exact hD⟩, hS.F ht⟩) hS.2.2 dX4_placeFor_68
    · have hf := ie hf c13
      refine lv_iload_n hx hb dX4_placeFor_34 rfl (lv_at hl 3 rfl) ?_
      obtain ⟨e0, e1, e2, e3, e4⟩ := rt5 hf
      have hP : va_P G vwCl [(qt 0, oX4 qt t_stamp t_age t_isTurned), (qt 1, .inl (Y 1, 3605, .inr (.inl o_t_worths))), (qt 2, .inl (Y 0, 515, .inl o_t_longest)), (qt 3, .inl (Y 0, 515, .inl o_t_sets)), (qt 4, .inl (Y 0, 515, .inl o_t_stamps)), (qt 5, .inl (Y 0, 12, .inl t_nears)), (qt 6, .inl (Y 0, 144, .inl t_weights))] H := by rw [← e1, ← e2, ← e3, ← e4]; exact hP
      have hD : va_D A [(qt 0, oX4 qt t_stamp t_age t_isTurned), (qt 1, .inl (Y 1, 3605, .inr (.inl o_t_worths))), (qt 2, .inl (Y 0, 515, .inl o_t_longest)), (qt 3, .inl (Y 0, 515, .inl o_t_sets)), (qt 4, .inl (Y 0, 515, .inl o_t_stamps)), (qt 5, .inl (Y 0, 12, .inl t_nears)), (qt 6, .inl (Y 0, 144, .inl t_weights))] := by rw [← e1, ← e2, ← e3, ← e4]; exact hD
      exact W.iret (v := x3) hx hb hr (fun t ht hW => ⟨⟨x3, (), rfl, e0, by rw [ht]; exact hP, va_K.moved hW.alike hK, by rw [hAe]; exact hD⟩, hS.F ht⟩) hS.2.2 dX4_placeFor_35
  have E0 : ∀ (H : Heap) (locs : List Loc), va_P G vwCl [(qt 0, oX4 qt t_stamp t_age t_isTurned), (qt 1, .inl (Y 1, 3605, .inr (.inl t_worths))), (qt 2, .inl (Y 0, 515, .inl t_longest)), (qt 3, .inl (Y 0, 515, .inl t_sets)), (qt 4, .inl (Y 0, 515, .inl t_stamps)), (qt 5, .inl (Y 0, 12, .inl t_nears)), (qt 6, .inl (Y 0, 144, .inl t_weights))] H → va_D A [(qt 0, oX4 qt t_stamp t_age t_isTurned), (qt 1, .inl (Y 1, 3605, .inr (.inl t_worths))), (qt 2, .inl (Y 0, 515, .inl t_longest)), (qt 3, .inl (Y 0, 515, .inl t_sets)), (qt 4, .inl (Y 0, 515, .inl t_stamps)), (qt 5, .inl (Y 0, 12, .inl t_nears)), (qt 6, .inl (Y 0, 144, .inl t_weights))] → va_S A s.heap H locs → ∀ (ls : Array Slot), lv_has ls 9 [(0, .ref (qt 0)), (1, .int p1), (2, .int p2)] → W p l e (headSpec wsX4_placeFor (rmk (3 + (d + 1)) (61 + 28 * (d + 1)))).room s m [.ref (qt 0), .int p1, .int p2].toArray below meth c H locs 0 0 (MQ below (va_Qi (fun (r : Int32) (_ : Unit) => r = rv) (Pst G (tys Y) [(qt 0, oX4 qt t_stamp t_age t_isTurned), (qt 1, .inl (Y 1, 3605, .inr (.inl t_worths))), (qt 2, .inl (Y 0, 515, .inl t_longest)), (qt 3, .inl (Y 0, 515, .inl t_sets)), (qt 4, .inl (Y 0, 515, .inl t_stamps)), (qt 5, .inl (Y 0, 12, .inl t_nears)), (qt 6, .inl (Y 0, 144, .inl t_weights))] s.heap.size [(qt 0, oX4 qt t_stamp t_age t_isTurned), (qt 1, .inl (Y 1, 3605, .inr (.inl o_t_worths))), (qt 2, .inl (Y 0, 515, .inl o_t_longest)), (qt 3, .inl (Y 0, 515, .inl o_t_sets)), (qt 4, .inl (Y 0, 515, .inl o_t_stamps)), (qt 5, .inl (Y 0, 12, .inl t_nears)), (qt 6, .inl (Y 0, 144, .inl t_weights))]) A) [.ref (qt 0), .int p1, .int p2].toArray s 0 0 A) (F0 m 0 ls []) := by
    intro H locs hP hD hS ls hl
    unfold f_X4_placeFor_st at hf
    refine lv_iload_n hx hb dX4_placeFor_0 rfl (lv_at hl 1 rfl) ?_
    obtain ⟨r41, hc, hf⟩ := bd1 hf
    refine cl_i (ws' := [(qt 0, oX4 qt t_stamp t_age t_isTurned), (qt 1, .inl (Y 1, 3605, .inr (.inl t_worths))), (qt 2, .inl (Y 0, 515, .inl t_longest)), (qt 3, .inl (Y 0, 515, .inl t_sets)), (qt 4, .inl (Y 0, 515, .inl t_stamps)), (qt 5, .inl (Y 0, 12, .inl t_nears)), (qt 6, .inl (Y 0, 144, .inl t_weights))]) (wr := [(qt 0, oX4 qt t_stamp t_age t_isTurned), (qt 1, .inl (Y 1, 3605, .inr (.inl t_worths))), (qt 2, .inl (Y 0, 515, .inl t_longest)), (qt 3, .inl (Y 0, 515, .inl t_sets)), (qt 4, .inl (Y 0, 515, .inl t_stamps)), (qt 5, .inl (Y 0, 12, .inl t_nears)), (qt 6, .inl (Y 0, 144, .inl t_weights))]) (rnS (As := [.int p1]) (rest := []) ⟨hx, hb, hml, hown, hts⟩ (c_X4_placeOf l G Y H.size p1 r41 hc) (va_cwS 1 hts gX4_placeFor_X4_placeOf rfl rfl rfl (by decide +kernel) ⟨(by first | exact Nat.le_of_ble_eq_true rfl | (show _ ≤ _ + _; simp only [List.map, List.sum_cons, List.sum_nil]; omega) | (simp [headSpec, rmk]; omega)), (by first | exact Nat.le_of_ble_eq_true rfl | (show _ ≤ _ + _; simp only [List.map, List.sum_cons, List.sum_nil]; omega) | (simp [headSpec, rmk]; omega))⟩) trivial okT hK hP hD [] rfl rfl rfl hl.1 rfl (Nat.le_of_ble_eq_true rfl) dX4_placeFor_1) hP hD hS hA [] [0, 1, 2, 3, 4, 5, 6] [0, 1, 2, 3, 4, 5, 6] rfl rfl rfl (by decide) rfl rfl (fun H locs hP hD hS => ?_)
    refine lv_istore_n (lv' := [(3, .int r41), (0, .ref (qt 0)), (1, .int p1), (2, .int p2)]) hx hb dX4_placeFor_4 rfl hl (by decide) rfl (fun ls hl => ?_)
    refine lv_aload_n hx hb dX4_placeFor_5 rfl (lv_at hl 1 rfl) ?_
    refine va_get (D := G) (ci := 3) (v := .ref (qt 4)) (C := RX4) (T := TX4) (N := 9) hx hb hts inX4w hown hK hP 0 rfl rfl 3 (by decide) wd1 (fun _ h9 => h9) rfl dX4_placeFor_6 ?_
    refine lv_iload_n hx hb dX4_placeFor_9 rfl (lv_at hl 0 rfl) ?_
    obtain ⟨g42, hf⟩ := gd hf
    refine va_iald hx hb hK hP 4 0 rfl rfl g42 dX4_placeFor_10 ?_
    refine lv_aload_n hx hb dX4_placeFor_11 rfl (lv_at hl 1 rfl) ?_
    refine va_get (D := G) (ci := 3) (v := .int t_stamp) (C := RX4) (T := TX4) (N := 9) hx hb hts inX4w hown hK hP 0 rfl rfl 6 (by decide) wd2 (fun _ h9 => h9) rfl dX4_placeFor_12 ?_
    refine lv_icmp_ne (tgt := 28) hx hb dX4_placeFor_15 (by decide) (fun c43 => ?_) (fun c43 => ?_)
    · have hf := ie hf c43
      exact B28 t_worths t_longest t_sets t_stamps r41 hf _ _ hP hD hS ls (lv_sub hl [1, 2, 3, 0] rfl)
    · have hf := it hf c43
      refine lv_aload_n hx hb dX4_placeFor_18 rfl (lv_at hl 1 rfl) ?_
      refine va_get (D := G) (ci := 3) (v := .ref (qt 3)) (C := RX4) (T := TX4) (N := 9) hx hb hts inX4w hown hK hP 0 rfl rfl 2 (by decide) wd3 (fun _ h9 => h9) rfl dX4_placeFor_19 ?_
      refine lv_iload_n hx hb dX4_placeFor_22 rfl (lv_at hl 0 rfl) ?_
      obtain ⟨g44, hf⟩ := gd hf
      refine va_iald hx hb hK hP 3 0 rfl rfl g44 dX4_placeFor_23 ?_
      refine lv_iload_n hx hb dX4_placeFor_24 rfl (lv_at hl 2 rfl) ?_
      refine lv_icmp_eq (tgt := 34) hx hb dX4_placeFor_25 (by decide) (fun c45 => ?_) (fun c45 => ?_)
      · have hf := it hf c45
        refine lv_iload_n hx hb dX4_placeFor_34 rfl (lv_at hl 0 rfl) ?_
        obtain ⟨e0, e1, e2, e3, e4⟩ := rt5 hf
        have hP : va_P G vwCl [(qt 0, oX4 qt t_stamp t_age t_isTurned), (qt 1, .inl (Y 1, 3605, .inr (.inl o_t_worths))), (qt 2, .inl (Y 0, 515, .inl o_t_longest)), (qt 3, .inl (Y 0, 515, .inl o_t_sets)), (qt 4, .inl (Y 0, 515, .inl o_t_stamps)), (qt 5, .inl (Y 0, 12, .inl t_nears)), (qt 6, .inl (Y 0, 144, .inl t_weights))] H := by rw [← e1, ← e2, ← e3, ← e4]; exact hP
        have hD : va_D A [(qt 0, oX4 qt t_stamp t_age t_isTurned), (qt 1, .inl (Y 1, 3605, .inr (.inl o_t_worths))), (qt 2, .inl (Y 0, 515, .inl o_t_longest)), (qt 3, .inl (Y 0, 515, .inl o_t_sets)), (qt 4, .inl (Y 0, 515, .inl o_t_stamps)), (qt 5, .inl (Y 0, 12, .inl t_nears)), (qt 6, .inl (Y 0, 144, .inl t_weights))] := by rw [← e1, ← e2, ← e3, ← e4]; exact hD
        exact W.iret (v := r41) hx hb hr (fun t ht hW => ⟨⟨r41, (), rfl, e0, by rw [ht]; exact hP, va_K.moved hW.alike hK, by rw [hAe]; exact hD⟩, hS.F ht⟩) hS.2.2 dX4_placeFor_35
      · have hf := ie hf c45
        exact B28 t_worths t_longest t_sets t_stamps r41 hf _ _ hP hD hS ls (lv_sub hl [1, 2, 3, 0] rfl)
  exact E0 s.heap [] hP hD hS ls hl
-- X4_rowFor
set_option maxRecDepth 100000 in
set_option maxHeartbeats 4000000 in
theorem c_X4_rowFor (l : Launch) (G : va_G) (Y : Nat → ClassId) (sz : Nat) (qt : Nat → Nat) (t_worths : Nat → Int64) (t_longest : Nat → Int32) (t_sets : Nat → Int32) (t_stamps : Nat → Int32) (t_nears : Nat → Int32) (t_weights : Nat → Int32) (t_stamp : Int32) (t_age : Int32) (t_isTurned : Int32) (p1 : Int32) (rv : Int32) (o_t_worths : Nat → Int64) (o_t_longest : Nat → Int32) (o_t_sets : Nat → Int32) (o_t_stamps : Nat → Int32) (hf : f_X4_rowFor t_worths t_longest t_sets t_stamps t_nears t_weights t_stamp p1 = some (rv, o_t_worths, o_t_longest, o_t_sets, o_t_stamps)) : Met l yX4_rowFor wsX4_rowFor (rmk 20 537) (va_Pc [.ref (qt 0), .int p1] (Pre G (tys Y) [(qt 0, oX4 qt t_stamp t_age t_isTurned), (qt 1, .inl (Y 1, 3605, .inr (.inl t_worths))), (qt 2, .inl (Y 0, 515, .inl t_longest)), (qt 3, .inl (Y 0, 515, .inl t_sets)), (qt 4, .inl (Y 0, 515, .inl t_stamps)), (qt 5, .inl (Y 0, 12, .inl t_nears)), (qt 6, .inl (Y 0, 144, .inl t_weights))] sz xT)) (va_Qi (fun (r : Int32) (_ : Unit) => r = rv) (Pst G (tys Y) [(qt 0, oX4 qt t_stamp t_age t_isTurned), (qt 1, .inl (Y 1, 3605, .inr (.inl t_worths))), (qt 2, .inl (Y 0, 515, .inl t_longest)), (qt 3, .inl (Y 0, 515, .inl t_sets)), (qt 4, .inl (Y 0, 515, .inl t_stamps)), (qt 5, .inl (Y 0, 12, .inl t_nears)), (qt 6, .inl (Y 0, 144, .inl t_weights))] sz [(qt 0, oX4 qt t_stamp t_age t_isTurned), (qt 1, .inl (Y 1, 3605, .inr (.inl o_t_worths))), (qt 2, .inl (Y 0, 515, .inl o_t_longest)), (qt 3, .inl (Y 0, 515, .inl o_t_sets)), (qt 4, .inl (Y 0, 515, .inl o_t_stamps)), (qt 5, .inl (Y 0, 12, .inl t_nears)), (qt 6, .inl (Y 0, 144, .inl t_weights))]) (va_A [(qt 0, oX4 qt t_stamp t_age t_isTurned), (qt 1, .inl (Y 1, 3605, .inr (.inl t_worths))), (qt 2, .inl (Y 0, 515, .inl t_longest)), (qt 3, .inl (Y 0, 515, .inl t_sets)), (qt 4, .inl (Y 0, 515, .inl t_stamps)), (qt 5, .inl (Y 0, 12, .inl t_nears)), (qt 6, .inl (Y 0, 144, .inl t_weights))] sz)) 0 0 (va_A [(qt 0, oX4 qt t_stamp t_age t_isTurned), (qt 1, .inl (Y 1, 3605, .inr (.inl t_worths))), (qt 2, .inl (Y 0, 515, .inl t_longest)), (qt 3, .inl (Y 0, 515, .inl t_sets)), (qt 4, .inl (Y 0, 515, .inl t_stamps)), (qt 5, .inl (Y 0, 12, .inl t_nears)), (qt 6, .inl (Y 0, 144, .inl t_weights))] sz) := by
  refine Met.ofW (cc := cX4_rowFor) (maxL := 2) (ret := (some .int)) (by decide) rfl ?_
  intro p e s m args below meth c s₁ B hml hv
  obtain ⟨rfl, hsz, hP, hK, hD0, hX⟩ := hv
  have hx := B.exec
  have hb := B.bytes
  have hr := B.returns
  have hts := atoms_spec (ws := wsX4_rowFor) B.pre
  have hown : s.vm.findClass RX4 = some m.cls := findClass_of_methodNamed B.named
  have hlocks := B.notSynchronized
  subst hsz
  have hD := hD0.self (sz := s.heap.size)
  generalize hAe : va_A [(qt 0, oX4 qt t_stamp t_age t_isTurned), (qt 1, .inl (Y 1, 3605, .inr (.inl t_worths))), (qt 2, .inl (Y 0, 515, .inl t_longest)), (qt 3, .inl (Y 0, 515, .inl t_sets)), (qt 4, .inl (Y 0, 515, .inl t_stamps)), (qt 5, .inl (Y 0, 12, .inl t_nears)), (qt 6, .inl (Y 0, 144, .inl t_weights))] s.heap.size = A at hD ⊢
  have hA : ∀ q : Nat, s.heap.size ≤ q → A q := fun q h => by rw [← hAe]; exact Or.inr h
  have hS : va_S A s.heap s.heap [] := va_S.rf
  have hP : va_P G vwCl [(qt 0, oX4 qt t_stamp t_age t_isTurned), (qt 1, .inl (Y 1, 3605, .inr (.inl t_worths))), (qt 2, .inl (Y 0, 515, .inl t_longest)), (qt 3, .inl (Y 0, 515, .inl t_sets)), (qt 4, .inl (Y 0, 515, .inl t_stamps)), (qt 5, .inl (Y 0, 12, .inl t_nears)), (qt 6, .inl (Y 0, 144, .inl t_weights))] s.heap := hP
  have hl := lv_entry ([.ref (qt 0), .int p1]) (n := 2) (Nat.le_of_ble_eq_true rfl)
  rw [lg_entry_eq]
  generalize (lg_sl ([.ref (qt 0), .int p1]) ++ List.replicate (2 - (lg_sl ([.ref (qt 0), .int p1])).length) Slot.unset).toArray = ls at hl ⊢
  have hl : lv_has ls 2 [(0, .ref (qt 0)), (1, .int p1)] := hl
  have E0 : ∀ (H : Heap) (locs : List Loc), va_P G vwCl [(qt 0, oX4 qt t_stamp t_age t_isTurned), (qt 1, .inl (Y 1, 3605, .inr (.inl t_worths))), (qt 2, .inl (Y 0, 515, .inl t_longest)), (qt 3, .inl (Y 0, 515, .inl t_sets)), (qt 4, .inl (Y 0, 515, .inl t_stamps)), (qt 5, .inl (Y 0, 12, .inl t_nears)), (qt 6, .inl (Y 0, 144, .inl t_weights))] H → va_D A [(qt 0, oX4 qt t_stamp t_age t_isTurned), (qt 1, .inl (Y 1, 3605, .inr (.inl t_worths))), (qt 2, .inl (Y 0, 515, .inl t_longest)), (qt 3, .inl (Y 0, 515, .inl t_sets)), (qt 4, .inl (Y 0, 515, .inl t_stamps)), (qt 5, .inl (Y 0, 12, .inl t_nears)), (qt 6, .inl (Y 0, 144, .inl t_weights))] → va_S A s.heap H locs → ∀ (ls : Array Slot), lv_has ls 2 [(0, .ref (qt 0)), (1, .int p1)] → W p l e (headSpec wsX4_rowFor (rmk 20 537)).room s m [.ref (qt 0), .int p1].toArray below meth c H locs 0 0 (MQ below (va_Qi (fun (r : Int32) (_ : Unit) => r = rv) (Pst G (tys Y) [(qt 0, oX4 qt t_stamp t_age t_isTurned), (qt 1, .inl (Y 1, 3605, .inr (.inl t_worths))), (qt 2, .inl (Y 0, 515, .inl t_longest)), (qt 3, .inl (Y 0, 515, .inl t_sets)), (qt 4, .inl (Y 0, 515, .inl t_stamps)), (qt 5, .inl (Y 0, 12, .inl t_nears)), (qt 6, .inl (Y 0, 144, .inl t_weights))] s.heap.size [(qt 0, oX4 qt t_stamp t_age t_isTurned), (qt 1, .inl (Y 1, 3605, .inr (.inl o_t_worths))), (qt 2, .inl (Y 0, 515, .inl o_t_longest)), (qt 3, .inl (Y 0, 515, .inl o_t_sets)), (qt 4, .inl (Y 0, 515, .inl o_t_stamps)), (qt 5, .inl (Y 0, 12, .inl t_nears)), (qt 6, .inl (Y 0, 144, .inl t_weights))]) A) [.ref (qt 0), .int p1].toArray s 0 0 A) (F0 m 0 ls []) := by
    intro H locs hP hD hS ls hl
    unfold f_X4_rowFor at hf
    refine lv_aload_n hx hb dX4_rowFor_0 rfl (lv_at hl 0 rfl) ?_
    refine lv_iload_n hx hb dX4_rowFor_1 rfl (lv_at hl 1 rfl) ?_
    refine lv_iconst (v := 0) hx hb dX4_rowFor_2 (by decide) ?_
    obtain ⟨r1, w2, w3, w4, w5, hc, hf⟩ := bd5 hf
    refine cl_i (ws' := [(qt 0, oX4 qt t_stamp t_age t_isTurned), (qt 1, .inl (Y 1, 3605, .inr (.inl w2))), (qt 2, .inl (Y 0, 515, .inl w3)), (qt 3, .inl (Y 0, 515, .inl w4)), (qt 4, .inl (Y 0, 515, .inl w5)), (qt 5, .inl (Y 0, 12, .inl t_nears)), (qt 6, .inl (Y 0, 144, .inl t_weights))]) (wr := []) (rnV (As := [.int p1, .int (0 : Int32)]) (rest := []) ⟨hx, hb, hml, hown, hts⟩ (c_X4_placeFor l G Y 16 H.size qt t_worths t_longest t_sets t_stamps t_nears t_weights t_stamp t_age t_isTurned p1 (0 : Int32) r1 w2 w3 w4 w5 hc) (cwV 2 hts gX4_rowFor_X4_placeFor rfl rfl rfl (by decide +kernel) ⟨(Nat.le_of_ble_eq_true rfl), (Nat.le_of_ble_eq_true rfl)⟩) trivial okT hK hP hD [0, 1, 2, 3, 4, 5, 6] rfl rfl (ci := 3) (q0 := 0) rfl rfl rfl rfl hl.1 rfl (Nat.le_of_ble_eq_true rfl) dX4_rowFor_3) hP hD hS hA [0, 1, 2, 3, 4, 5, 6] [] [0, 1, 2, 3, 4, 5, 6] rfl rfl rfl (by decide) rfl rfl (fun H locs hP hD hS => ?_)
    refine lv_bipush (v := 7) hx hb dX4_rowFor_6 (by decide) ?_
    refine lv_imul hx hb dX4_rowFor_8 ?_
    obtain ⟨e0, e1, e2, e3, e4⟩ := rt5 hf
    have hP : va_P G vwCl [(qt 0, oX4 qt t_stamp t_age t_isTurned), (qt 1, .inl (Y 1, 3605, .inr (.inl o_t_worths))), (qt 2, .inl (Y 0, 515, .inl o_t_longest)), (qt 3, .inl (Y 0, 515, .inl o_t_sets)), (qt 4, .inl (Y 0, 515, .inl o_t_stamps)), (qt 5, .inl (Y 0, 12, .inl t_nears)), (qt 6, .inl (Y 0, 144, .inl t_weights))] H := by rw [← e1, ← e2, ← e3, ← e4]; exact hP
    have hD : va_D A [(qt 0, oX4 qt t_stamp t_age t_isTurned), (qt 1, .inl (Y 1, 3605, .inr (.inl o_t_worths))), (qt 2, .inl (Y 0, 515, .inl o_t_longest)), (qt 3, .inl (Y 0, 515, .inl o_t_sets)), (qt 4, .inl (Y 0, 515, .inl o_t_stamps)), (qt 5, .inl (Y 0, 12, .inl t_nears)), (qt 6, .inl (Y 0, 144, .inl t_weights))] := by rw [← e1, ← e2, ← e3, ← e4]; exact hD
    exact W.iret (v := (r1 * (7 : Int32))) hx hb hr (fun t ht hW => ⟨⟨(r1 * (7 : Int32)), (), rfl, e0, by rw [ht]; exact hP, va_K.moved hW.alike hK, by rw [hAe]; exact hD⟩, hS.F ht⟩) hS.2.2 dX4_rowFor_9
  exact E0 s.heap [] hP hD hS ls hl
-- X4_isMuch
set_option maxRecDepth 100000 in
set_option maxHeartbeats 4000000 in
theorem c_X4_isMuch (l : Launch) (G : va_G) (Y : Nat → ClassId) (sz : Nat) (qt : Nat → Nat) (t_worths : Nat → Int64) (t_stamp : Int32) (t_age : Int32) (t_isTurned : Int32) (p1 : Int32) (rv : Int32) (hf : f_X4_isMuch t_worths p1 = some (rv)) : Met l yX4_isMuch wsX4_isMuch (rmk 0 0) (va_Pc [.ref (qt 0), .int p1] (Pre G (tys Y) [(qt 0, oX4 qt t_stamp t_age t_isTurned), (qt 1, .inl (Y 1, 3605, .inr (.inl t_worths)))] sz xT)) (va_Qi (fun (r : Int32) (_ : Unit) => r = rv) (Pst G (tys Y) [(qt 0, oX4 qt t_stamp t_age t_isTurned), (qt 1, .inl (Y 1, 3605, .inr (.inl t_worths)))] sz [(qt 0, oX4 qt t_stamp t_age t_isTurned), (qt 1, .inl (Y 1, 3605, .inr (.inl t_worths)))]) (va_A [(qt 0, oX4 qt t_stamp t_age t_isTurned), (qt 1, .inl (Y 1, 3605, .inr (.inl t_worths)))] sz)) 0 0 (va_A [(qt 0, oX4 qt t_stamp t_age t_isTurned), (qt 1, .inl (Y 1, 3605, .inr (.inl t_worths)))] sz) := by
  refine Met.ofW (cc := cX4_isMuch) (maxL := 3) (ret := (some .boolean)) (by decide) rfl ?_
  intro p e s m args below meth c s₁ B hml hv
  obtain ⟨rfl, hsz, hP, hK, hD0, hX⟩ := hv
  have hx := B.exec
  have hb := B.bytes
  have hr := B.returns
  have hts := atoms_spec (ws := wsX4_isMuch) B.pre
  have hown : s.vm.findClass RX4 = some m.cls := findClass_of_methodNamed B.named
  have hlocks := B.notSynchronized
  subst hsz
  have hD := hD0.self (sz := s.heap.size)
  generalize hAe : va_A [(qt 0, oX4 qt t_stamp t_age t_isTurned), (qt 1, .inl (Y 1, 3605, .inr (.inl t_worths)))] s.heap.size = A at hD ⊢
  have hA : ∀ q : Nat, s.heap.size ≤ q → A q := fun q h => by rw [← hAe]; exact Or.inr h
  have hS : va_S A s.heap s.heap [] := va_S.rf
  have hP : va_P G vwCl [(qt 0, oX4 qt t_stamp t_age t_isTurned), (qt 1, .inl (Y 1, 3605, .inr (.inl t_worths)))] s.heap := hP
  have wd1 : (Cond.fieldLink RX4 9 "PairedLines$Table" "worths" "[J").before [.ref (qt 0), .int p1].toArray s = true := hts _ (List.mem_of_getElem? (i := 1) rfl)
  have inX4w : ∀ w ∈ u_ws RX4 TX4 9, w ∈ wsX4_isMuch := fun w hw => List.mem_cons_of_mem _ (List.mem_append_right _ (hw))
  have hl := lv_entry ([.ref (qt 0), .int p1]) (n := 3) (Nat.le_of_ble_eq_true rfl)
  rw [lg_entry_eq]
  generalize (lg_sl ([.ref (qt 0), .int p1]) ++ List.replicate (3 - (lg_sl ([.ref (qt 0), .int p1])).length) Slot.unset).toArray = ls at hl ⊢
  have hl : lv_has ls 3 [(0, .ref (qt 0)), (1, .int p1)] := hl
  have B2 : ∀ (n2 : Nat), ∀ (x2 : Int32), f_X4_isMuch_b2 t_worths p1 n2 x2 = some (rv) → ∀ (H : Heap) (locs : List Loc), va_P G vwCl [(qt 0, oX4 qt t_stamp t_age t_isTurned), (qt 1, .inl (Y 1, 3605, .inr (.inl t_worths)))] H → va_D A [(qt 0, oX4 qt t_stamp t_age t_isTurned), (qt 1, .inl (Y 1, 3605, .inr (.inl t_worths)))] → va_S A s.heap H locs → ∀ (ls : Array Slot), lv_has ls 3 [(0, .ref (qt 0)), (1, .int p1), (2, .int x2)] → W p l e (headSpec wsX4_isMuch (rmk 0 0)).room s m [.ref (qt 0), .int p1].toArray below meth c H locs 0 0 (MQ below (va_Qi (fun (r : Int32) (_ : Unit) => r = rv) (Pst G (tys Y) [(qt 0, oX4 qt t_stamp t_age t_isTurned), (qt 1, .inl (Y 1, 3605, .inr (.inl t_worths)))] s.heap.size [(qt 0, oX4 qt t_stamp t_age t_isTurned), (qt 1, .inl (Y 1, 3605, .inr (.inl t_worths)))]) A) [.ref (qt 0), .int p1].toArray s 0 0 A) (F0 m 2 ls []) := by
    intro n2
    induction n2 with
    | zero =>
      intro x2 hf H locs hP hD hS ls hl
      exact no_none hf
    | succ n2 ih2 =>
      intro x2 hf H locs hP hD hS ls hl
      have hf : f_X4_isMuch_s2 t_worths p1 (f_X4_isMuch_b2 t_worths p1  n2) x2 = some (rv) := hf
      unfold f_X4_isMuch_s2 at hf
      refine lv_iload_n hx hb dX4_isMuch_2 rfl (lv_at hl 2 rfl) ?_
      refine lv_bipush (v := 7) hx hb dX4_isMuch_3 (by decide) ?_
      refine lv_icmp_ge (tgt := 29) hx hb dX4_isMuch_5 (by decide) (fun c1 => ?_) (fun c1 => ?_)
      · have hf := it hf c1
        refine lv_iconst (v := 0) hx hb dX4_isMuch_29 (by decide) ?_
        have e0 := rt1 hf
        exact W.zret (v := (0 : Int32)) hx hb hr rfl (fun t ht hW => ⟨⟨(0 : Int32), (), rfl, e0, by rw [ht]; exact hP, va_K.moved hW.alike hK, by rw [hAe]; exact hD⟩, hS.F ht⟩) hS.2.2 dX4_isMuch_30
      · have hf := ie hf c1
        refine lv_aload_n hx hb dX4_isMuch_8 rfl (lv_at hl 0 rfl) ?_
        refine va_get (D := G) (ci := 3) (v := .ref (qt 1)) (C := RX4) (T := TX4) (N := 9) hx hb hts inX4w hown hK hP 0 rfl rfl 0 (by decide) wd1 (fun _ h9 => h9) rfl dX4_isMuch_9 ?_
        refine lv_iload_n hx hb dX4_isMuch_12 rfl (lv_at hl 1 rfl) ?_
        refine lv_iload_n hx hb dX4_isMuch_13 rfl (lv_at hl 2 rfl) ?_
        refine lv_iadd hx hb dX4_isMuch_14 ?_
        obtain ⟨g2, hf⟩ := gd hf
        refine va_lald hx hb hK hP 1 1 rfl rfl g2 dX4_isMuch_15 ?_
        refine lv_lconst (v := 0) hx hb dX4_isMuch_16 (by decide) ?_
        refine W.lcmp hx hb dX4_isMuch_17 ?_
        refine lv_if_ge (tgt := 23) hx hb dX4_isMuch_18 (by decide) (fun c3 => ?_) (fun c3 => ?_)
        · have hf := it hf c3
          obtain ⟨v4, e_v4⟩ : ∃ z : Int32, z = (x2 + 1) := ⟨_, rfl⟩
          have hf := nm_at hf e_v4
          refine lv_iinc (v := v4) (lv' := [(2, .int v4), (0, .ref (qt 0)), (1, .int p1)]) hx hb dX4_isMuch_23 hl (k := 2) rfl (by rw [e_v4]; rfl) (by decide) rfl (fun ls hl => ?_)
          refine lv_goto (tgt := 2) hx hb dX4_isMuch_26 (by decide) ?_
          exact ih2 v4 hf _ _ hP hD hS ls (lv_sub hl [1, 2, 0] rfl)
        · have hf := ie hf c3
          refine lv_iconst (v := 1) hx hb dX4_isMuch_21 (by decide) ?_
          have e0 := rt1 hf
          exact W.zret (v := (1 : Int32)) hx hb hr rfl (fun t ht hW => ⟨⟨(1 : Int32), (), rfl, e0, by rw [ht]; exact hP, va_K.moved hW.alike hK, by rw [hAe]; exact hD⟩, hS.F ht⟩) hS.2.2 dX4_isMuch_22
  have E0 : ∀ (H : Heap) (locs : List Loc), va_P G vwCl [(qt 0, oX4 qt t_stamp t_age t_isTurned), (qt 1, .inl (Y 1, 3605, .inr (.inl t_worths)))] H → va_D A [(qt 0, oX4 qt t_stamp t_age t_isTurned), (qt 1, .inl (Y 1, 3605, .inr (.inl t_worths)))] → va_S A s.heap H locs → ∀ (ls : Array Slot), lv_has ls 3 [(0, .ref (qt 0)), (1, .int p1)] → W p l e (headSpec wsX4_isMuch (rmk 0 0)).room s m [.ref (qt 0), .int p1].toArray below meth c H locs 0 0 (MQ below (va_Qi (fun (r : Int32) (_ : Unit) => r = rv) (Pst G (tys Y) [(qt 0, oX4 qt t_stamp t_age t_isTurned), (qt 1, .inl (Y 1, 3605, .inr (.inl t_worths)))] s.heap.size [(qt 0, oX4 qt t_stamp t_age t_isTurned), (qt 1, .inl (Y 1, 3605, .inr (.inl t_worths)))]) A) [.ref (qt 0), .int p1].toArray s 0 0 A) (F0 m 0 ls []) := by
    intro H locs hP hD hS ls hl
    unfold f_X4_isMuch at hf
    refine lv_iconst (v := 0) hx hb dX4_isMuch_0 (by decide) ?_
    refine lv_istore_n (lv' := [(2, .int (0 : Int32)), (0, .ref (qt 0)), (1, .int p1)]) hx hb dX4_isMuch_1 rfl hl (by decide) rfl (fun ls hl => ?_)
    exact B2 70 (0 : Int32) hf _ _ hP hD hS ls (lv_sub hl [1, 2, 0] rfl)
  exact E0 s.heap [] hP hD hS ls hl
-- X4_numberAt
set_option maxRecDepth 100000 in
set_option maxHeartbeats 4000000 in
theorem c_X4_numberAt (l : Launch) (G : va_G) (Y : Nat → ClassId) (sz : Nat) (qt : Nat → Nat) (t_worths : Nat → Int64) (t_stamp : Int32) (t_age : Int32) (t_isTurned : Int32) (p1 : Int32) (p2 : Int32) (p3 : Int32) (rv : Int64) (hf : f_X4_numberAt t_worths p1 p2 p3 = some (rv)) : Met l yX4_numberAt wsX4_numberAt (rmk 0 0) (va_Pc [.ref (qt 0), .int p1, .int p2, .int p3] (Pre G (tys Y) [(qt 0, oX4 qt t_stamp t_age t_isTurned), (qt 1, .inl (Y 1, 3605, .inr (.inl t_worths)))] sz xT)) (va_Ql (fun (r : Int64) (_ : Unit) => r = rv) (Pst G (tys Y) [(qt 0, oX4 qt t_stamp t_age t_isTurned), (qt 1, .inl (Y 1, 3605, .inr (.inl t_worths)))] sz [(qt 0, oX4 qt t_stamp t_age t_isTurned), (qt 1, .inl (Y 1, 3605, .inr (.inl t_worths)))]) (va_A [(qt 0, oX4 qt t_stamp t_age t_isTurned), (qt 1, .inl (Y 1, 3605, .inr (.inl t_worths)))] sz)) 0 0 (va_A [(qt 0, oX4 qt t_stamp t_age t_isTurned), (qt 1, .inl (Y 1, 3605, .inr (.inl t_worths)))] sz) := by
  refine Met.ofW (cc := cX4_numberAt) (maxL := 6) (ret := (some .long)) (by decide) rfl ?_
  intro p e s m args below meth c s₁ B hml hv
  obtain ⟨rfl, hsz, hP, hK, hD0, hX⟩ := hv
  have hx := B.exec
  have hb := B.bytes
  have hr := B.returns
  have hts := atoms_spec (ws := wsX4_numberAt) B.pre
  have hown : s.vm.findClass RX4 = some m.cls := findClass_of_methodNamed B.named
  have hlocks := B.notSynchronized
  subst hsz
  have hD := hD0.self (sz := s.heap.size)
  generalize hAe : va_A [(qt 0, oX4 qt t_stamp t_age t_isTurned), (qt 1, .inl (Y 1, 3605, .inr (.inl t_worths)))] s.heap.size = A at hD ⊢
  have hA : ∀ q : Nat, s.heap.size ≤ q → A q := fun q h => by rw [← hAe]; exact Or.inr h
  have hS : va_S A s.heap s.heap [] := va_S.rf
  have hP : va_P G vwCl [(qt 0, oX4 qt t_stamp t_age t_isTurned), (qt 1, .inl (Y 1, 3605, .inr (.inl t_worths)))] s.heap := hP
  have wd1 : (Cond.fieldLink RX4 9 "PairedLines$Table" "worths" "[J").before [.ref (qt 0), .int p1, .int p2, .int p3].toArray s = true := hts _ (List.mem_of_getElem? (i := 1) rfl)
  have inX4w : ∀ w ∈ u_ws RX4 TX4 9, w ∈ wsX4_numberAt := fun w hw => List.mem_cons_of_mem _ (List.mem_append_right _ (hw))
  have hl := lv_entry ([.ref (qt 0), .int p1, .int p2, .int p3]) (n := 6) (Nat.le_of_ble_eq_true rfl)
  rw [lg_entry_eq]
  generalize (lg_sl ([.ref (qt 0), .int p1, .int p2, .int p3]) ++ List.replicate (6 - (lg_sl ([.ref (qt 0), .int p1, .int p2, .int p3])).length) Slot.unset).toArray = ls at hl ⊢
  have hl : lv_has ls 6 [(0, .ref (qt 0)), (1, .int p1), (2, .int p2), (3, .int p3)] := hl
  have E0 : ∀ (H : Heap) (locs : List Loc), va_P G vwCl [(qt 0, oX4 qt t_stamp t_age t_isTurned), (qt 1, .inl (Y 1, 3605, .inr (.inl t_worths)))] H → va_D A [(qt 0, oX4 qt t_stamp t_age t_isTurned), (qt 1, .inl (Y 1, 3605, .inr (.inl t_worths)))] → va_S A s.heap H locs → ∀ (ls : Array Slot), lv_has ls 6 [(0, .ref (qt 0)), (1, .int p1), (2, .int p2), (3, .int p3)] → W p l e (headSpec wsX4_numberAt (rmk 0 0)).room s m [.ref (qt 0), .int p1, .int p2, .int p3].toArray below meth c H locs 0 0 (MQ below (va_Ql (fun (r : Int64) (_ : Unit) => r = rv) (Pst G (tys Y) [(qt 0, oX4 qt t_stamp t_age t_isTurned), (qt 1, .inl (Y 1, 3605, .inr (.inl t_worths)))] s.heap.size [(qt 0, oX4 qt t_stamp t_age t_isTurned), (qt 1, .inl (Y 1, 3605, .inr (.inl t_worths)))]) A) [.ref (qt 0), .int p1, .int p2, .int p3].toArray s 0 0 A) (F0 m 0 ls []) := by
    intro H locs hP hD hS ls hl
    unfold f_X4_numberAt at hf
    refine lv_iload_n hx hb dX4_numberAt_0 rfl (lv_at hl 2 rfl) ?_
    refine lv_iload_n hx hb dX4_numberAt_1 rfl (lv_at hl 3 rfl) ?_
    refine lv_isub hx hb dX4_numberAt_2 ?_
    refine lv_topi (fun v1 e_v1 => ?_)
    have hf := nm_at hf e_v1
    refine lv_istore (lv' := [(4, .int v1), (0, .ref (qt 0)), (1, .int p1), (2, .int p2), (3, .int p3)]) hx hb dX4_numberAt_3 hl (by decide) rfl (fun ls hl => ?_)
    refine lv_iload hx hb dX4_numberAt_5 (lv_at hl 0 rfl) ?_
    refine lv_if_lt (tgt := 17) hx hb dX4_numberAt_7 (by decide) (fun c2 => ?_) (fun c2 => ?_)
    · have hf := it hf c2
      refine lv_lconst (v := 0) hx hb dX4_numberAt_17 (by decide) ?_
      have e0 := rt1 hf
      exact W.lret (v := (0 : Int64)) hx hb hr (fun t ht hW => ⟨⟨(0 : Int64), (), rfl, e0, by rw [ht]; exact hP, va_K.moved hW.alike hK, by rw [hAe]; exact hD⟩, hS.F ht⟩) hS.2.2 dX4_numberAt_18
    · have hf := ie hf c2
      refine lv_iload hx hb dX4_numberAt_10 (lv_at hl 0 rfl) ?_
      refine lv_iconst (v := 2) hx hb dX4_numberAt_12 (by decide) ?_
      obtain ⟨g3, hf⟩ := gd hf
      refine lv_irem hx hb dX4_numberAt_13 g3 ?_
      refine lv_if_eq (tgt := 19) hx hb dX4_numberAt_14 (by decide) (fun c4 => ?_) (fun c4 => ?_)
      · have hf := it hf c4
        refine lv_iload hx hb dX4_numberAt_19 (lv_at hl 0 rfl) ?_
        refine lv_iconst (v := 2) hx hb dX4_numberAt_21 (by decide) ?_
        obtain ⟨g5, hf⟩ := gd hf
        refine lv_idiv hx hb dX4_numberAt_22 g5 ?_
        refine lv_topi (fun v6 e_v6 => ?_)
        have hf := nm_at hf e_v6
        refine lv_istore (lv' := [(5, .int v6), (4, .int v1), (0, .ref (qt 0)), (1, .int p1), (2, .int p2), (3, .int p3)]) hx hb dX4_numberAt_23 hl (by decide) rfl (fun ls hl => ?_)
        refine lv_iload hx hb dX4_numberAt_25 (lv_at hl 0 rfl) ?_
        refine lv_iconst (v := 2) hx hb dX4_numberAt_27 (by decide) ?_
        obtain ⟨g7, hf⟩ := gd hf
        refine lv_irem hx hb dX4_numberAt_28 g7 ?_
        refine lv_if_ne (tgt := 44) hx hb dX4_numberAt_29 (by decide) (fun c8 => ?_) (fun c8 => ?_)
        · have hf := ie hf c8
          refine lv_aload_n hx hb dX4_numberAt_44 rfl (lv_at hl 2 rfl) ?_
          refine va_get (D := G) (ci := 3) (v := .ref (qt 1)) (C := RX4) (T := TX4) (N := 9) hx hb hts inX4w hown hK hP 0 rfl rfl 0 (by decide) wd1 (fun _ h9 => h9) rfl dX4_numberAt_45 ?_
          refine lv_iload_n hx hb dX4_numberAt_48 rfl (lv_at hl 3 rfl) ?_
          refine lv_iload hx hb dX4_numberAt_49 (lv_at hl 0 rfl) ?_
          refine lv_iadd hx hb dX4_numberAt_51 ?_
          obtain ⟨g9, hf⟩ := gd hf
          refine va_lald hx hb hK hP 1 1 rfl rfl g9 dX4_numberAt_52 ?_
          refine lv_lneg hx hb dX4_numberAt_53 ?_
          have e0 := rt1 hf
          exact W.lret (v := (-(t_worths (p1 + v6).toNatClampNeg))) hx hb hr (fun t ht hW => ⟨⟨(-(t_worths (p1 + v6).toNatClampNeg)), (), rfl, e0, by rw [ht]; exact hP, va_K.moved hW.alike hK, by rw [hAe]; exact hD⟩, hS.F ht⟩) hS.2.2 dX4_numberAt_54
        · have hf := it hf c8
          refine lv_aload_n hx hb dX4_numberAt_32 rfl (lv_at hl 2 rfl) ?_
          refine va_get (D := G) (ci := 3) (v := .ref (qt 1)) (C := RX4) (T := TX4) (N := 9) hx hb hts inX4w hown hK hP 0 rfl rfl 0 (by decide) wd1 (fun _ h9 => h9) rfl dX4_numberAt_33 ?_
          refine lv_iload_n hx hb dX4_numberAt_36 rfl (lv_at hl 3 rfl) ?_
          refine lv_iload hx hb dX4_numberAt_37 (lv_at hl 0 rfl) ?_
          refine lv_iadd hx hb dX4_numberAt_39 ?_
          obtain ⟨g10, hf⟩ := gd hf
          refine va_lald hx hb hK hP 1 1 rfl rfl g10 dX4_numberAt_40 ?_
          refine lv_goto (tgt := 54) hx hb dX4_numberAt_41 (by decide) ?_
          have e0 := rt1 hf
          exact W.lret (v := (t_worths (p1 + v6).toNatClampNeg)) hx hb hr (fun t ht hW => ⟨⟨(t_worths (p1 + v6).toNatClampNeg), (), rfl, e0, by rw [ht]; exact hP, va_K.moved hW.alike hK, by rw [hAe]; exact hD⟩, hS.F ht⟩) hS.2.2 dX4_numberAt_54
      · have hf := ie hf c4
        refine lv_lconst (v := 0) hx hb dX4_numberAt_17 (by decide) ?_
        have e0 := rt1 hf
        exact W.lret (v := (0 : Int64)) hx hb hr (fun t ht hW => ⟨⟨(0 : Int64), (), rfl, e0, by rw [ht]; exact hP, va_K.moved hW.alike hK, by rw [hAe]; exact hD⟩, hS.F ht⟩) hS.2.2 dX4_numberAt_18
  exact E0 s.heap [] hP hD hS ls hl
-- X4_signAt
set_option maxRecDepth 100000 in
set_option maxHeartbeats 4000000 in
theorem c_X4_signAt (l : Launch) (G : va_G) (Y : Nat → ClassId) (sz : Nat) (qt : Nat → Nat) (t_worths : Nat → Int64) (t_stamp : Int32) (t_age : Int32) (t_isTurned : Int32) (p1 : Int32) (p2 : Int32) (p3 : Int32) (p4 : Int32) (rv : Int32) (hf : f_X4_signAt t_worths p1 p2 p3 p4 = some (rv)) : Met l yX4_signAt wsX4_signAt (rmk 1 25) (va_Pc [.ref (qt 0), .int p1, .int p2, .int p3, .int p4] (Pre G (tys Y) [(qt 0, oX4 qt t_stamp t_age t_isTurned), (qt 1, .inl (Y 1, 3605, .inr (.inl t_worths)))] sz xT)) (va_Qi (fun (r : Int32) (_ : Unit) => r = rv) (Pst G (tys Y) [(qt 0, oX4 qt t_stamp t_age t_isTurned), (qt 1, .inl (Y 1, 3605, .inr (.inl t_worths)))] sz [(qt 0, oX4 qt t_stamp t_age t_isTurned), (qt 1, .inl (Y 1, 3605, .inr (.inl t_worths)))]) (va_A [(qt 0, oX4 qt t_stamp t_age t_isTurned), (qt 1, .inl (Y 1, 3605, .inr (.inl t_worths)))] sz)) 0 0 (va_A [(qt 0, oX4 qt t_stamp t_age t_isTurned), (qt 1, .inl (Y 1, 3605, .inr (.inl t_worths)))] sz) := by
  refine Met.ofW (cc := cX4_signAt) (maxL := 12) (ret := (some .int)) (by decide) rfl ?_
  intro p e s m args below meth c s₁ B hml hv
  obtain ⟨rfl, hsz, hP, hK, hD0, hX⟩ := hv
  have hx := B.exec
  have hb := B.bytes
  have hr := B.returns
  have hts := atoms_spec (ws := wsX4_signAt) B.pre
  have hown : s.vm.findClass RX4 = some m.cls := findClass_of_methodNamed B.named
  have hlocks := B.notSynchronized
  subst hsz
  have hD := hD0.self (sz := s.heap.size)
  generalize hAe : va_A [(qt 0, oX4 qt t_stamp t_age t_isTurned), (qt 1, .inl (Y 1, 3605, .inr (.inl t_worths)))] s.heap.size = A at hD ⊢
  have hA : ∀ q : Nat, s.heap.size ≤ q → A q := fun q h => by rw [← hAe]; exact Or.inr h
  have hS : va_S A s.heap s.heap [] := va_S.rf
  have hP : va_P G vwCl [(qt 0, oX4 qt t_stamp t_age t_isTurned), (qt 1, .inl (Y 1, 3605, .inr (.inl t_worths)))] s.heap := hP
  have hl := lv_entry ([.ref (qt 0), .int p1, .int p2, .int p3, .int p4]) (n := 12) (Nat.le_of_ble_eq_true rfl)
  rw [lg_entry_eq]
  generalize (lg_sl ([.ref (qt 0), .int p1, .int p2, .int p3, .int p4]) ++ List.replicate (12 - (lg_sl ([.ref (qt 0), .int p1, .int p2, .int p3, .int p4])).length) Slot.unset).toArray = ls at hl ⊢
  have hl : lv_has ls 12 [(0, .ref (qt 0)), (1, .int p1), (2, .int p2), (3, .int p3), (4, .int p4)] := hl
  have B26 : ∀ (n26 : Nat), ∀ (x5 : Int64) (x7 : Int64) (x9 : Int32), f_X4_signAt_b26 t_worths p1 p2 p3 p4 n26 x5 x7 x9 = some (rv) → ∀ (H : Heap) (locs : List Loc), va_P G vwCl [(qt 0, oX4 qt t_stamp t_age t_isTurned), (qt 1, .inl (Y 1, 3605, .inr (.inl t_worths)))] H → va_D A [(qt 0, oX4 qt t_stamp t_age t_isTurned), (qt 1, .inl (Y 1, 3605, .inr (.inl t_worths)))] → va_S A s.heap H locs → ∀ (ls : Array Slot), lv_has ls 12 [(0, .ref (qt 0)), (1, .int p1), (2, .int p2), (3, .int p3), (4, .int p4), (5, .long x5), (7, .long x7), (9, .int x9)] → W p l e (headSpec wsX4_signAt (rmk 1 25)).room s m [.ref (qt 0), .int p1, .int p2, .int p3, .int p4].toArray below meth c H locs 0 0 (MQ below (va_Qi (fun (r : Int32) (_ : Unit) => r = rv) (Pst G (tys Y) [(qt 0, oX4 qt t_stamp t_age t_isTurned), (qt 1, .inl (Y 1, 3605, .inr (.inl t_worths)))] s.heap.size [(qt 0, oX4 qt t_stamp t_age t_isTurned), (qt 1, .inl (Y 1, 3605, .inr (.inl t_worths)))]) A) [.ref (qt 0), .int p1, .int p2, .int p3, .int p4].toArray s 0 0 A) (F0 m 26 ls []) := by
    intro n26
    induction n26 with
    | zero =>
      intro x5 x7 x9 hf H locs hP hD hS ls hl
      exact no_none hf
    | succ n26 ih26 =>
      intro x5 x7 x9 hf H locs hP hD hS ls hl
      have hf : f_X4_signAt_s26 t_worths p1 p2 p3 p4 (f_X4_signAt_b26 t_worths p1 p2 p3 p4  n26) x5 x7 x9 = some (rv) := hf
      unfold f_X4_signAt_s26 at hf
      refine lv_iload hx hb dX4_signAt_26 (lv_at hl 7 rfl) ?_
      refine lv_iload_n hx hb dX4_signAt_28 rfl (lv_at hl 2 rfl) ?_
      refine lv_icmp_gt (tgt := 113) hx hb dX4_signAt_29 (by decide) (fun c1 => ?_) (fun c1 => ?_)
      · have hf := it hf c1
        refine lv_lload hx hb dX4_signAt_113 (lv_at hl 5 rfl) ?_
        refine lv_lconst (v := 0) hx hb dX4_signAt_115 (by decide) ?_
        obtain ⟨r2, hc, hf⟩ := bd1 hf
        refine cl_i (ws' := [(qt 0, oX4 qt t_stamp t_age t_isTurned), (qt 1, .inl (Y 1, 3605, .inr (.inl t_worths)))]) (wr := [(qt 0, oX4 qt t_stamp t_age t_isTurned), (qt 1, .inl (Y 1, 3605, .inr (.inl t_worths)))]) (rnS (As := [.long x5, .long (0 : Int64)]) (rest := []) ⟨hx, hb, hml, hown, hts⟩ (c_J13_compare_74951 l G Y H.size x5 (0 : Int64) r2 hc) (va_cwS 2 hts gX4_signAt_J13_compare_74951 rfl rfl rfl (by decide +kernel) ⟨(Nat.le_of_ble_eq_true rfl), (Nat.le_of_ble_eq_true rfl)⟩) trivial okT hK hP hD [] rfl rfl rfl hl.1 rfl (Nat.le_of_ble_eq_true rfl) dX4_signAt_116) hP hD hS hA [] [0, 1] [0, 1] rfl rfl rfl (by decide) rfl rfl (fun H locs hP hD hS => ?_)
        have e0 := rt1 hf
        exact W.iret (v := r2) hx hb hr (fun t ht hW => ⟨⟨r2, (), rfl, e0, by rw [ht]; exact hP, va_K.moved hW.alike hK, by rw [hAe]; exact hD⟩, hS.F ht⟩) hS.2.2 dX4_signAt_119
      · have hf := ie hf c1
        refine lv_lload hx hb dX4_signAt_32 (lv_at hl 6 rfl) ?_
        refine lv_iload hx hb dX4_signAt_34 (lv_at hl 4 rfl) ?_
        refine lv_i2l hx hb dX4_signAt_36 rfl ?_
        refine lv_lmul hx hb dX4_signAt_37 ?_
        refine lv_topl (fun v3 e_v3 => ?_)
        have hf := nm_at hf e_v3
        refine lv_lstore (lv' := [(7, .long v3), (0, .ref (qt 0)), (1, .int p1), (2, .int p2), (3, .int p3), (4, .int p4), (5, .long x5), (9, .int x9)]) hx hb dX4_signAt_38 hl (by decide) rfl (fun ls hl => ?_)
        refine lv_aload_n hx hb dX4_signAt_40 rfl (lv_at hl 1 rfl) ?_
        refine lv_iload_n hx hb dX4_signAt_41 rfl (lv_at hl 2 rfl) ?_
        refine lv_iload_n hx hb dX4_signAt_42 rfl (lv_at hl 3 rfl) ?_
        refine lv_iload_n hx hb dX4_signAt_43 rfl (lv_at hl 3 rfl) ?_
        refine lv_iload hx hb dX4_signAt_44 (lv_at hl 7 rfl) ?_
        refine lv_isub hx hb dX4_signAt_46 ?_
        obtain ⟨r4, hc, hf⟩ := bd1 hf
        refine cl_l (ws' := [(qt 0, oX4 qt t_stamp t_age t_isTurned), (qt 1, .inl (Y 1, 3605, .inr (.inl t_worths)))]) (wr := []) (rnV (As := [.int p1, .int p2, .int (p2 - x9)]) (rest := []) ⟨hx, hb, hml, hown, hts⟩ (c_X4_numberAt l G Y H.size qt t_worths t_stamp t_age t_isTurned p1 p2 (p2 - x9) r4 hc) (cwV 3 hts gX4_signAt_X4_numberAt rfl rfl rfl (by decide +kernel) ⟨(Nat.le_of_ble_eq_true rfl), (Nat.le_of_ble_eq_true rfl)⟩) trivial okT hK hP hD [0, 1] rfl rfl (ci := 3) (q0 := 0) rfl rfl rfl rfl hl.1 rfl (Nat.le_of_ble_eq_true rfl) dX4_signAt_47) hP hD hS hA [0, 1] [] [0, 1] rfl rfl rfl (by decide) rfl rfl (fun H locs hP hD hS => ?_)
        refine lv_lstore (lv' := [(10, .long r4), (7, .long v3), (0, .ref (qt 0)), (1, .int p1), (2, .int p2), (3, .int p3), (4, .int p4), (5, .long x5), (9, .int x9)]) hx hb dX4_signAt_50 hl (by decide) rfl (fun ls hl => ?_)
        refine lv_lload hx hb dX4_signAt_52 (lv_at hl 7 rfl) ?_
        refine lv_iload_n hx hb dX4_signAt_54 rfl (lv_at hl 5 rfl) ?_
        refine lv_i2l hx hb dX4_signAt_55 rfl ?_
        obtain ⟨r5, hc, hf⟩ := bd1 hf
        refine cl_i (ws' := [(qt 0, oX4 qt t_stamp t_age t_isTurned), (qt 1, .inl (Y 1, 3605, .inr (.inl t_worths)))]) (wr := [(qt 0, oX4 qt t_stamp t_age t_isTurned), (qt 1, .inl (Y 1, 3605, .inr (.inl t_worths)))]) (rnS (As := [.long x5, .long p3.toInt64]) (rest := []) ⟨hx, hb, hml, hown, hts⟩ (c_X7_canMultiply l G Y H.size x5 p3.toInt64 r5 hc) (va_cwS 2 hts gX4_signAt_X7_canMultiply rfl rfl rfl (by decide +kernel) ⟨(Nat.le_of_ble_eq_true rfl), (Nat.le_of_ble_eq_true rfl)⟩) trivial okT hK hP hD [] rfl rfl rfl hl.1 rfl (Nat.le_of_ble_eq_true rfl) dX4_signAt_56) hP hD hS hA [] [0, 1] [0, 1] rfl rfl rfl (by decide) rfl rfl (fun H locs hP hD hS => ?_)
        refine lv_if_eq (tgt := 72) hx hb dX4_signAt_59 (by decide) (fun c6 => ?_) (fun c6 => ?_)
        · have hf := it hf c6
          refine lv_bipush (v := -5) hx hb dX4_signAt_72 (by decide) ?_
          have e0 := rt1 hf
          exact W.iret (v := (-5 : Int32)) hx hb hr (fun t ht hW => ⟨⟨(-5 : Int32), (), rfl, e0, by rw [ht]; exact hP, va_K.moved hW.alike hK, by rw [hAe]; exact hD⟩, hS.F ht⟩) hS.2.2 dX4_signAt_74
        · have hf := ie hf c6
          refine lv_lload hx hb dX4_signAt_62 (lv_at hl 0 rfl) ?_
          refine lv_lload hx hb dX4_signAt_64 (lv_at hl 1 rfl) ?_
          obtain ⟨r7, hc, hf⟩ := bd1 hf
          refine cl_i (ws' := [(qt 0, oX4 qt t_stamp t_age t_isTurned), (qt 1, .inl (Y 1, 3605, .inr (.inl t_worths)))]) (wr := [(qt 0, oX4 qt t_stamp t_age t_isTurned), (qt 1, .inl (Y 1, 3605, .inr (.inl t_worths)))]) (rnS (As := [.long r4, .long v3]) (rest := []) ⟨hx, hb, hml, hown, hts⟩ (c_X7_canMultiply l G Y H.size r4 v3 r7 hc) (va_cwS 2 hts gX4_signAt_X7_canMultiply rfl rfl rfl (by decide +kernel) ⟨(Nat.le_of_ble_eq_true rfl), (Nat.le_of_ble_eq_true rfl)⟩) trivial okT hK hP hD [] rfl rfl rfl hl.1 rfl (Nat.le_of_ble_eq_true rfl) dX4_signAt_66) hP hD hS hA [] [0, 1] [0, 1] rfl rfl rfl (by decide) rfl rfl (fun H locs hP hD hS => ?_)
          refine lv_if_ne (tgt := 75) hx hb dX4_signAt_69 (by decide) (fun c8 => ?_) (fun c8 => ?_)
          · have hf := ie hf c8
            refine lv_lload hx hb dX4_signAt_75 (lv_at hl 7 rfl) ?_
            refine lv_iload_n hx hb dX4_signAt_77 rfl (lv_at hl 5 rfl) ?_
            refine lv_i2l hx hb dX4_signAt_78 rfl ?_
            refine lv_lmul hx hb dX4_signAt_79 ?_
            refine lv_lload hx hb dX4_signAt_80 (lv_at hl 0 rfl) ?_
            refine lv_lload hx hb dX4_signAt_82 (lv_at hl 1 rfl) ?_
            refine lv_lmul hx hb dX4_signAt_84 ?_
            obtain ⟨r9, hc, hf⟩ := bd1 hf
            refine cl_i (ws' := [(qt 0, oX4 qt t_stamp t_age t_isTurned), (qt 1, .inl (Y 1, 3605, .inr (.inl t_worths)))]) (wr := [(qt 0, oX4 qt t_stamp t_age t_isTurned), (qt 1, .inl (Y 1, 3605, .inr (.inl t_worths)))]) (rnS (As := [.long (x5 * p3.toInt64), .long (r4 * v3)]) (rest := []) ⟨hx, hb, hml, hown, hts⟩ (c_X7_canAdd l G Y H.size (x5 * p3.toInt64) (r4 * v3) r9 hc) (va_cwS 2 hts gX4_signAt_X7_canAdd rfl rfl rfl (by decide +kernel) ⟨(Nat.le_of_ble_eq_true rfl), (Nat.le_of_ble_eq_true rfl)⟩) trivial okT hK hP hD [] rfl rfl rfl hl.1 rfl (Nat.le_of_ble_eq_true rfl) dX4_signAt_85) hP hD hS hA [] [0, 1] [0, 1] rfl rfl rfl (by decide) rfl rfl (fun H locs hP hD hS => ?_)
            refine lv_if_ne (tgt := 94) hx hb dX4_signAt_88 (by decide) (fun c10 => ?_) (fun c10 => ?_)
            · have hf := ie hf c10
              refine lv_lload hx hb dX4_signAt_94 (lv_at hl 7 rfl) ?_
              refine lv_iload_n hx hb dX4_signAt_96 rfl (lv_at hl 5 rfl) ?_
              refine lv_i2l hx hb dX4_signAt_97 rfl ?_
              refine lv_lmul hx hb dX4_signAt_98 ?_
              refine lv_lload hx hb dX4_signAt_99 (lv_at hl 0 rfl) ?_
              refine lv_lload hx hb dX4_signAt_101 (lv_at hl 1 rfl) ?_
              refine lv_lmul hx hb dX4_signAt_103 ?_
              refine lv_ladd hx hb dX4_signAt_104 ?_
              refine lv_topl (fun v11 e_v11 => ?_)
              have hf := nm_at hf e_v11
              refine lv_lstore (lv' := [(5, .long v11), (10, .long r4), (7, .long v3), (0, .ref (qt 0)), (1, .int p1), (2, .int p2), (3, .int p3), (4, .int p4), (9, .int x9)]) hx hb dX4_signAt_105 hl (by decide) rfl (fun ls hl => ?_)
              obtain ⟨v12, e_v12⟩ : ∃ z : Int32, z = (x9 + 1) := ⟨_, rfl⟩
              have hf := nm_at hf e_v12
              refine lv_iinc (v := v12) (lv' := [(9, .int v12), (5, .long v11), (10, .long r4), (7, .long v3), (0, .ref (qt 0)), (1, .int p1), (2, .int p2), (3, .int p3), (4, .int p4)]) hx hb dX4_signAt_107 hl (k := 8) rfl (by rw [e_v12]; rfl) (by decide) rfl (fun ls hl => ?_)
              refine lv_goto (tgt := 26) hx hb dX4_signAt_110 (by decide) ?_
              exact ih26 v11 v3 v12 hf _ _ hP hD hS ls (lv_sub hl [4, 5, 6, 7, 8, 1, 3, 0] rfl)
            · have hf := it hf c10
              refine lv_bipush (v := -5) hx hb dX4_signAt_91 (by decide) ?_
              have e0 := rt1 hf
              exact W.iret (v := (-5 : Int32)) hx hb hr (fun t ht hW => ⟨⟨(-5 : Int32), (), rfl, e0, by rw [ht]; exact hP, va_K.moved hW.alike hK, by rw [hAe]; exact hD⟩, hS.F ht⟩) hS.2.2 dX4_signAt_93
          · have hf := it hf c8
            refine lv_bipush (v := -5) hx hb dX4_signAt_72 (by decide) ?_
            have e0 := rt1 hf
            exact W.iret (v := (-5 : Int32)) hx hb hr (fun t ht hW => ⟨⟨(-5 : Int32), (), rfl, e0, by rw [ht]; exact hP, va_K.moved hW.alike hK, by rw [hAe]; exact hD⟩, hS.F ht⟩) hS.2.2 dX4_signAt_74
  have E0 : ∀ (H : Heap) (locs : List Loc), va_P G vwCl [(qt 0, oX4 qt t_stamp t_age t_isTurned), (qt 1, .inl (Y 1, 3605, .inr (.inl t_worths)))] H → va_D A [(qt 0, oX4 qt t_stamp t_age t_isTurned), (qt 1, .inl (Y 1, 3605, .inr (.inl t_worths)))] → va_S A s.heap H locs → ∀ (ls : Array Slot), lv_has ls 12 [(0, .ref (qt 0)), (1, .int p1), (2, .int p2), (3, .int p3), (4, .int p4)] → W p l e (headSpec wsX4_signAt (rmk 1 25)).room s m [.ref (qt 0), .int p1, .int p2, .int p3, .int p4].toArray below meth c H locs 0 0 (MQ below (va_Qi (fun (r : Int32) (_ : Unit) => r = rv) (Pst G (tys Y) [(qt 0, oX4 qt t_stamp t_age t_isTurned), (qt 1, .inl (Y 1, 3605, .inr (.inl t_worths)))] s.heap.size [(qt 0, oX4 qt t_stamp t_age t_isTurned), (qt 1, .inl (Y 1, 3605, .inr (.inl t_worths)))]) A) [.ref (qt 0), .int p1, .int p2, .int p3, .int p4].toArray s 0 0 A) (F0 m 0 ls []) := by
    intro H locs hP hD hS ls hl
    unfold f_X4_signAt at hf
    refine lv_aload_n hx hb dX4_signAt_0 rfl (lv_at hl 0 rfl) ?_
    refine lv_iload_n hx hb dX4_signAt_1 rfl (lv_at hl 1 rfl) ?_
    obtain ⟨r13, hc, hf⟩ := bd1 hf
    refine cl_i (ws' := [(qt 0, oX4 qt t_stamp t_age t_isTurned), (qt 1, .inl (Y 1, 3605, .inr (.inl t_worths)))]) (wr := []) (rnV (As := [.int p1]) (rest := []) ⟨hx, hb, hml, hown, hts⟩ (c_X4_isMuch l G Y H.size qt t_worths t_stamp t_age t_isTurned p1 r13 hc) (cwV 1 hts gX4_signAt_X4_isMuch rfl rfl rfl (by decide +kernel) ⟨(Nat.le_of_ble_eq_true rfl), (Nat.le_of_ble_eq_true rfl)⟩) trivial okT hK hP hD [0, 1] rfl rfl (ci := 3) (q0 := 0) rfl rfl rfl rfl hl.1 rfl (Nat.le_of_ble_eq_true rfl) dX4_signAt_2) hP hD hS hA [0, 1] [] [0, 1] rfl rfl rfl (by decide) rfl rfl (fun H locs hP hD hS => ?_)
    refine lv_if_eq (tgt := 11) hx hb dX4_signAt_5 (by decide) (fun c14 => ?_) (fun c14 => ?_)
    · have hf := it hf c14
      refine lv_aload_n hx hb dX4_signAt_11 rfl (lv_at hl 0 rfl) ?_
      refine lv_iload_n hx hb dX4_signAt_12 rfl (lv_at hl 1 rfl) ?_
      refine lv_iload_n hx hb dX4_signAt_13 rfl (lv_at hl 2 rfl) ?_
      refine lv_iload_n hx hb dX4_signAt_14 rfl (lv_at hl 2 rfl) ?_
      obtain ⟨r15, hc, hf⟩ := bd1 hf
      refine cl_l (ws' := [(qt 0, oX4 qt t_stamp t_age t_isTurned), (qt 1, .inl (Y 1, 3605, .inr (.inl t_worths)))]) (wr := []) (rnV (As := [.int p1, .int p2, .int p2]) (rest := []) ⟨hx, hb, hml, hown, hts⟩ (c_X4_numberAt l G Y H.size qt t_worths t_stamp t_age t_isTurned p1 p2 p2 r15 hc) (cwV 3 hts gX4_signAt_X4_numberAt rfl rfl rfl (by decide +kernel) ⟨(Nat.le_of_ble_eq_true rfl), (Nat.le_of_ble_eq_true rfl)⟩) trivial okT hK hP hD [0, 1] rfl rfl (ci := 3) (q0 := 0) rfl rfl rfl rfl hl.1 rfl (Nat.le_of_ble_eq_true rfl) dX4_signAt_15) hP hD hS hA [0, 1] [] [0, 1] rfl rfl rfl (by decide) rfl rfl (fun H locs hP hD hS => ?_)
      refine lv_lstore (lv' := [(5, .long r15), (0, .ref (qt 0)), (1, .int p1), (2, .int p2), (3, .int p3), (4, .int p4)]) hx hb dX4_signAt_18 hl (by decide) rfl (fun ls hl => ?_)
      refine lv_lconst (v := 1) hx hb dX4_signAt_20 (by decide) ?_
      refine lv_lstore (lv' := [(7, .long (1 : Int64)), (5, .long r15), (0, .ref (qt 0)), (1, .int p1), (2, .int p2), (3, .int p3), (4, .int p4)]) hx hb dX4_signAt_21 hl (by decide) rfl (fun ls hl => ?_)
      refine lv_iconst (v := 1) hx hb dX4_signAt_23 (by decide) ?_
      refine lv_istore (lv' := [(9, .int (1 : Int32)), (7, .long (1 : Int64)), (5, .long r15), (0, .ref (qt 0)), (1, .int p1), (2, .int p2), (3, .int p3), (4, .int p4)]) hx hb dX4_signAt_24 hl (by decide) rfl (fun ls hl => ?_)
      exact B26 70 r15 (1 : Int64) (1 : Int32) hf _ _ hP hD hS ls (lv_sub hl [3, 4, 5, 6, 7, 2, 1, 0] rfl)
    · have hf := ie hf c14
      refine lv_bipush (v := -5) hx hb dX4_signAt_8 (by decide) ?_
      have e0 := rt1 hf
      exact W.iret (v := (-5 : Int32)) hx hb hr (fun t ht hW => ⟨⟨(-5 : Int32), (), rfl, e0, by rw [ht]; exact hP, va_K.moved hW.alike hK, by rw [hAe]; exact hD⟩, hS.F ht⟩) hS.2.2 dX4_signAt_10
  exact E0 s.heap [] hP hD hS ls hl
