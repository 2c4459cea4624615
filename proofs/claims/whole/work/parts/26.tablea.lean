-- X4_prepare
set_option maxRecDepth 100000 in
set_option maxHeartbeats 4000000 in
theorem c_X4_prepare (l : Launch) (G : va_G) (Y : Nat → ClassId) (sz : Nat) (qn : Nat → Nat) (qt : Nat → Nat) (n_kinds : Nat → Int32) (n_figures : Nat → Int32) (n_joins : Nat → Int32) (n_nears : Nat → Int32) (n_pointCount : Int32) (n_lineCount : Int32) (n_tideNow : Int32) (n_age : Int32) (t_nears : Nat → Int32) (t_weights : Nat → Int32) (t_stamp : Int32) (t_age : Int32) (t_isTurned : Int32) (p2 : Int32) (o_t_nears : Nat → Int32) (o_t_weights : Nat → Int32) (o_t_stamp : Int32) (o_t_age : Int32) (o_t_isTurned : Int32) (hf : f_X4_prepare n_kinds n_figures n_joins n_nears n_pointCount n_tideNow n_age t_nears t_weights t_stamp t_age t_isTurned p2 = some (o_t_nears, o_t_weights, o_t_stamp, o_t_age, o_t_isTurned)) : Met l yX4_prepare wsX4_prepare (rmk 4 87) (va_Pc [.ref (qt 0), .ref (qn 0), .int p2] (Pre G (tys Y) [(qn 0, oX1 qn n_pointCount n_lineCount n_tideNow n_age), (qn 1, .inl (Y 0, 40, .inl n_kinds)), (qn 2, .inl (Y 0, 40, .inl n_figures)), (qn 5, .inl (Y 0, 144, .inl n_joins)), (qn 6, .inl (Y 0, 12, .inl n_nears)), (qt 0, oX4 qt t_stamp t_age t_isTurned), (qt 4, .inl (Y 0, 12, .inl t_nears)), (qt 5, .inl (Y 0, 144, .inl t_weights))] sz xN)) (va_Qv (fun (_ : Unit) => True) (Pst G (tys Y) [(qn 0, oX1 qn n_pointCount n_lineCount n_tideNow n_age), (qn 1, .inl (Y 0, 40, .inl n_kinds)), (qn 2, .inl (Y 0, 40, .inl n_figures)), (qn 5, .inl (Y 0, 144, .inl n_joins)), (qn 6, .inl (Y 0, 12, .inl n_nears)), (qt 0, oX4 qt t_stamp t_age t_isTurned), (qt 4, .inl (Y 0, 12, .inl t_nears)), (qt 5, .inl (Y 0, 144, .inl t_weights))] sz [(qn 0, oX1 qn n_pointCount n_lineCount n_tideNow n_age), (qn 1, .inl (Y 0, 40, .inl n_kinds)), (qn 2, .inl (Y 0, 40, .inl n_figures)), (qn 5, .inl (Y 0, 144, .inl n_joins)), (qn 6, .inl (Y 0, 12, .inl n_nears)), (qt 0, oX4 qt o_t_stamp o_t_age o_t_isTurned), (qt 4, .inl (Y 0, 12, .inl o_t_nears)), (qt 5, .inl (Y 0, 144, .inl o_t_weights))]) (va_A [(qn 0, oX1 qn n_pointCount n_lineCount n_tideNow n_age), (qn 1, .inl (Y 0, 40, .inl n_kinds)), (qn 2, .inl (Y 0, 40, .inl n_figures)), (qn 5, .inl (Y 0, 144, .inl n_joins)), (qn 6, .inl (Y 0, 12, .inl n_nears)), (qt 0, oX4 qt t_stamp t_age t_isTurned), (qt 4, .inl (Y 0, 12, .inl t_nears)), (qt 5, .inl (Y 0, 144, .inl t_weights))] sz)) 0 0 (va_A [(qn 0, oX1 qn n_pointCount n_lineCount n_tideNow n_age), (qn 1, .inl (Y 0, 40, .inl n_kinds)), (qn 2, .inl (Y 0, 40, .inl n_figures)), (qn 5, .inl (Y 0, 144, .inl n_joins)), (qn 6, .inl (Y 0, 12, .inl n_nears)), (qt 0, oX4 qt t_stamp t_age t_isTurned), (qt 4, .inl (Y 0, 12, .inl t_nears)), (qt 5, .inl (Y 0, 144, .inl t_weights))] sz) := by
  refine Met.ofW (cc := cX4_prepare) (maxL := 5) (ret := none) (by decide) rfl ?_
  intro p e s m args below meth c s₁ B hml hv
  obtain ⟨rfl, hsz, hP, hK, hD0, hX⟩ := hv
  have hx := B.exec
  have hb := B.bytes
  have hr := B.returns
  have hts := atoms_spec (ws := wsX4_prepare) B.pre
  have hown : s.vm.findClass RX4 = some m.cls := findClass_of_methodNamed B.named
  have hlocks := B.notSynchronized
  subst hsz
  have hD := hD0.self (sz := s.heap.size)
  generalize hAe : va_A [(qn 0, oX1 qn n_pointCount n_lineCount n_tideNow n_age), (qn 1, .inl (Y 0, 40, .inl n_kinds)), (qn 2, .inl (Y 0, 40, .inl n_figures)), (qn 5, .inl (Y 0, 144, .inl n_joins)), (qn 6, .inl (Y 0, 12, .inl n_nears)), (qt 0, oX4 qt t_stamp t_age t_isTurned), (qt 4, .inl (Y 0, 12, .inl t_nears)), (qt 5, .inl (Y 0, 144, .inl t_weights))] s.heap.size = A at hD ⊢
  have hA : ∀ q : Nat, s.heap.size ≤ q → A q := fun q h => by rw [← hAe]; exact Or.inr h
  have hS : va_S A s.heap s.heap [] := va_S.rf
  have hP : va_P G vwCl [(qn 0, oX1 qn n_pointCount n_lineCount n_tideNow n_age), (qn 1, .inl (Y 0, 40, .inl n_kinds)), (qn 2, .inl (Y 0, 40, .inl n_figures)), (qn 5, .inl (Y 0, 144, .inl n_joins)), (qn 6, .inl (Y 0, 12, .inl n_nears)), (qt 0, oX4 qt t_stamp t_age t_isTurned), (qt 4, .inl (Y 0, 12, .inl t_nears)), (qt 5, .inl (Y 0, 144, .inl t_weights))] s.heap := hP
  have wd1 : (Cond.fieldLink RX4 28 "PairedLines$Table" "stamp" "I").before [.ref (qt 0), .ref (qn 0), .int p2].toArray s = true := hts _ (List.mem_of_getElem? (i := 1) rfl)
  have wd2 : (Cond.fieldLink RX4 32 "PairedLines$Table" "age" "I").before [.ref (qt 0), .ref (qn 0), .int p2].toArray s = true := hts _ (List.mem_of_getElem? (i := 2) rfl)
  have wd3 : (Cond.fieldLink RX4 39 "PairedLines$Net" "age" "I").before [.ref (qt 0), .ref (qn 0), .int p2].toArray s = true := hts _ (List.mem_of_getElem? (i := 3) rfl)
  have wd4 : (Cond.fieldLink RX4 35 "PairedLines$Table" "isTurned" "Z").before [.ref (qt 0), .ref (qn 0), .int p2].toArray s = true := hts _ (List.mem_of_getElem? (i := 4) rfl)
  have wd5 : (Cond.fieldLink RX4 22 "PairedLines$Table" "nears" "[I").before [.ref (qt 0), .ref (qn 0), .int p2].toArray s = true := hts _ (List.mem_of_getElem? (i := 5) rfl)
  have wd6 : (Cond.fieldLink RX4 46 "PairedLines$Net" "nears" "[I").before [.ref (qt 0), .ref (qn 0), .int p2].toArray s = true := hts _ (List.mem_of_getElem? (i := 6) rfl)
  have wd7 : (Cond.fieldLink RX4 25 "PairedLines$Table" "weights" "[I").before [.ref (qt 0), .ref (qn 0), .int p2].toArray s = true := hts _ (List.mem_of_getElem? (i := 7) rfl)
  have inX1w : ∀ w ∈ u_ws RX1 TX1 11, w ∈ wsX4_prepare := fun w hw => List.mem_cons_of_mem _ (List.mem_append_right _ (hw))
  have inX4w : ∀ w ∈ u_ws RX4 TX4 8, w ∈ wsX4_prepare := fun w hw => List.mem_cons_of_mem _ (List.mem_append_left _ (List.mem_append_right _ (hw)))
  have hl := lv_entry ([.ref (qt 0), .ref (qn 0), .int p2]) (n := 5) (Nat.le_of_ble_eq_true rfl)
  rw [lg_entry_eq]
  generalize (lg_sl ([.ref (qt 0), .ref (qn 0), .int p2]) ++ List.replicate (5 - (lg_sl ([.ref (qt 0), .ref (qn 0), .int p2])).length) Slot.unset).toArray = ls at hl ⊢
  have hl : lv_has ls 5 [(0, .ref (qt 0)), (1, .ref (qn 0)), (2, .int p2)] := hl
  have B52 : ∀ (n52 : Nat), ∀ (b_t_nears : Nat → Int32) (b_t_weights : Nat → Int32) (b_t_stamp : Int32) (b_t_age : Int32) (b_t_isTurned : Int32) (x3 : Int32), f_X4_prepare_b52 n_kinds n_figures n_joins n_nears n_pointCount n_tideNow n_age p2 n52 b_t_nears b_t_weights b_t_stamp b_t_age b_t_isTurned x3 = some (o_t_nears, o_t_weights, o_t_stamp, o_t_age, o_t_isTurned) → ∀ (H : Heap) (locs : List Loc), va_P G vwCl [(qn 0, oX1 qn n_pointCount n_lineCount n_tideNow n_age), (qn 1, .inl (Y 0, 40, .inl n_kinds)), (qn 2, .inl (Y 0, 40, .inl n_figures)), (qn 5, .inl (Y 0, 144, .inl n_joins)), (qn 6, .inl (Y 0, 12, .inl n_nears)), (qt 0, oX4 qt b_t_stamp b_t_age b_t_isTurned), (qt 4, .inl (Y 0, 12, .inl b_t_nears)), (qt 5, .inl (Y 0, 144, .inl b_t_weights))] H → va_D A [(qn 0, oX1 qn n_pointCount n_lineCount n_tideNow n_age), (qn 1, .inl (Y 0, 40, .inl n_kinds)), (qn 2, .inl (Y 0, 40, .inl n_figures)), (qn 5, .inl (Y 0, 144, .inl n_joins)), (qn 6, .inl (Y 0, 12, .inl n_nears)), (qt 0, oX4 qt b_t_stamp b_t_age b_t_isTurned), (qt 4, .inl (Y 0, 12, .inl b_t_nears)), (qt 5, .inl (Y 0, 144, .inl b_t_weights))] → va_S A s.heap H locs → ∀ (ls : Array Slot), lv_has ls 5 [(0, .ref (qt 0)), (1, .ref (qn 0)), (2, .int p2), (3, .int x3)] → W p l e (headSpec wsX4_prepare (rmk 4 87)).room s m [.ref (qt 0), .ref (qn 0), .int p2].toArray below meth c H locs 0 0 (MQ below (va_Qv (fun (_ : Unit) => True) (Pst G (tys Y) [(qn 0, oX1 qn n_pointCount n_lineCount n_tideNow n_age), (qn 1, .inl (Y 0, 40, .inl n_kinds)), (qn 2, .inl (Y 0, 40, .inl n_figures)), (qn 5, .inl (Y 0, 144, .inl n_joins)), (qn 6, .inl (Y 0, 12, .inl n_nears)), (qt 0, oX4 qt t_stamp t_age t_isTurned), (qt 4, .inl (Y 0, 12, .inl t_nears)), (qt 5, .inl (Y 0, 144, .inl t_weights))] s.heap.size [(qn 0, oX1 qn n_pointCount n_lineCount n_tideNow n_age), (qn 1, .inl (Y 0, 40, .inl n_kinds)), (qn 2, .inl (Y 0, 40, .inl n_figures)), (qn 5, .inl (Y 0, 144, .inl n_joins)), (qn 6, .inl (Y 0, 12, .inl n_nears)), (qt 0, oX4 qt o_t_stamp o_t_age o_t_isTurned), (qt 4, .inl (Y 0, 12, .inl o_t_nears)), (qt 5, .inl (Y 0, 144, .inl o_t_weights))]) A) [.ref (qt 0), .ref (qn 0), .int p2].toArray s 0 0 A) (F0 m 52 ls []) := by
    intro n52
    induction n52 with
    | zero =>
      intro b_t_nears b_t_weights b_t_stamp b_t_age b_t_isTurned x3 hf H locs hP hD hS ls hl
      exact no_none hf
    | succ n52 ih52 =>
      have B99 : ∀ (n99 : Nat), ∀ (b_t_nears : Nat → Int32) (b_t_weights : Nat → Int32) (b_t_stamp : Int32) (b_t_age : Int32) (b_t_isTurned : Int32) (x3 : Int32) (x4 : Int32), f_X4_prepare_b99 n_kinds n_figures n_joins n_nears n_pointCount n_tideNow n_age p2 (f_X4_prepare_b52 n_kinds n_figures n_joins n_nears n_pointCount n_tideNow n_age p2 n52) n99 b_t_nears b_t_weights b_t_stamp b_t_age b_t_isTurned x3 x4 = some (o_t_nears, o_t_weights, o_t_stamp, o_t_age, o_t_isTurned) → ∀ (H : Heap) (locs : List Loc), va_P G vwCl [(qn 0, oX1 qn n_pointCount n_lineCount n_tideNow n_age), (qn 1, .inl (Y 0, 40, .inl n_kinds)), (qn 2, .inl (Y 0, 40, .inl n_figures)), (qn 5, .inl (Y 0, 144, .inl n_joins)), (qn 6, .inl (Y 0, 12, .inl n_nears)), (qt 0, oX4 qt b_t_stamp b_t_age b_t_isTurned), (qt 4, .inl (Y 0, 12, .inl b_t_nears)), (qt 5, .inl (Y 0, 144, .inl b_t_weights))] H → va_D A [(qn 0, oX1 qn n_pointCount n_lineCount n_tideNow n_age), (qn 1, .inl (Y 0, 40, .inl n_kinds)), (qn 2, .inl (Y 0, 40, .inl n_figures)), (qn 5, .inl (Y 0, 144, .inl n_joins)), (qn 6, .inl (Y 0, 12, .inl n_nears)), (qt 0, oX4 qt b_t_stamp b_t_age b_t_isTurned), (qt 4, .inl (Y 0, 12, .inl b_t_nears)), (qt 5, .inl (Y 0, 144, .inl b_t_weights))] → va_S A s.heap H locs → ∀ (ls : Array Slot), lv_has ls 5 [(0, .ref (qt 0)), (1, .ref (qn 0)), (2, .int p2), (3, .int x3), (4, .int x4)] → W p l e (headSpec wsX4_prepare (rmk 4 87)).room s m [.ref (qt 0), .ref (qn 0), .int p2].toArray below meth c H locs 0 0 (MQ below (va_Qv (fun (_ : Unit) => True) (Pst G (tys Y) [(qn 0, oX1 qn n_pointCount n_lineCount n_tideNow n_age), (qn 1, .inl (Y 0, 40, .inl n_kinds)), (qn 2, .inl (Y 0, 40, .inl n_figures)), (qn 5, .inl (Y 0, 144, .inl n_joins)), (qn 6, .inl (Y 0, 12, .inl n_nears)), (qt 0, oX4 qt t_stamp t_age t_isTurned), (qt 4, .inl (Y 0, 12, .inl t_nears)), (qt 5, .inl (Y 0, 144, .inl t_weights))] s.heap.size [(qn 0, oX1 qn n_pointCount n_lineCount n_tideNow n_age), (qn 1, .inl (Y 0, 40, .inl n_kinds)), (qn 2, .inl (Y 0, 40, .inl n_figures)), (qn 5, .inl (Y 0, 144, .inl n_joins)), (qn 6, .inl (Y 0, 12, .inl n_nears)), (qt 0, oX4 qt o_t_stamp o_t_age o_t_isTurned), (qt 4, .inl (Y 0, 12, .inl o_t_nears)), (qt 5, .inl (Y 0, 144, .inl o_t_weights))]) A) [.ref (qt 0), .ref (qn 0), .int p2].toArray s 0 0 A) (F0 m 99 ls []) := by
        intro n99
        induction n99 with
        | zero =>
          intro b_t_nears b_t_weights b_t_stamp b_t_age b_t_isTurned x3 x4 hf H locs hP hD hS ls hl
          exact no_none hf
        | succ n99 ih99 =>
          intro b_t_nears b_t_weights b_t_stamp b_t_age b_t_isTurned x3 x4 hf H locs hP hD hS ls hl
          have hf : f_X4_prepare_s99 n_kinds n_figures n_joins n_nears n_pointCount n_tideNow n_age p2 (f_X4_prepare_b52 n_kinds n_figures n_joins n_nears n_pointCount n_tideNow n_age p2 n52) (f_X4_prepare_b99 n_kinds n_figures n_joins n_nears n_pointCount n_tideNow n_age p2 (f_X4_prepare_b52 n_kinds n_figures n_joins n_nears n_pointCount n_tideNow n_age p2 n52) n99) b_t_nears b_t_weights b_t_stamp b_t_age b_t_isTurned x3 x4 = some (o_t_nears, o_t_weights, o_t_stamp, o_t_age, o_t_isTurned) := hf
          unfold f_X4_prepare_s99 at hf
          refine lv_iload hx hb dX4_prepare_99 (lv_at hl 4 rfl) ?_
          refine lv_bipush (v := 12) hx hb dX4_prepare_101 (by decide) ?_
          refine lv_icmp_ge (tgt := 139) hx hb dX4_prepare_103 (by decide) (fun c1 => ?_) (fun c1 => ?_)
          · have hf := it hf c1
            obtain ⟨v2, e_v2⟩ : ∃ z : Int32, z = (x3 + 1) := ⟨_, rfl⟩
            have hf := nm_at hf e_v2
            refine lv_iinc (v := v2) (lv' := [(3, .int v2), (0, .ref (qt 0)), (1, .ref (qn 0)), (2, .int p2), (4, .int x4)]) hx hb dX4_prepare_139 hl (k := 3) rfl (by rw [e_v2]; rfl) (by decide) rfl (fun ls hl => ?_)
            refine lv_goto (tgt := 52) hx hb dX4_prepare_142 (by decide) ?_
            exact ih52 b_t_nears b_t_weights b_t_stamp b_t_age b_t_isTurned v2 hf _ _ hP hD hS ls (lv_sub hl [1, 2, 3, 0] rfl)
          · have hf := ie hf c1
            refine lv_aload_n hx hb dX4_prepare_106 rfl (lv_at hl 0 rfl) ?_
            refine va_get (D := G) (ci := 3) (v := .ref (qt 5)) (C := RX4) (T := TX4) (N := 8) hx hb hts inX4w hown hK hP 5 rfl rfl 4 (by decide) wd7 (fun _ h9 => h9) rfl dX4_prepare_107 ?_
            refine lv_iload_n hx hb dX4_prepare_110 rfl (lv_at hl 3 rfl) ?_
            refine lv_bipush (v := 12) hx hb dX4_prepare_111 (by decide) ?_
            refine lv_imul hx hb dX4_prepare_113 ?_
            refine lv_iload hx hb dX4_prepare_114 (lv_at hl 4 rfl) ?_
            refine lv_iadd hx hb dX4_prepare_116 ?_
            refine lv_iload_n hx hb dX4_prepare_117 rfl (lv_at hl 2 rfl) ?_
            refine lv_if_eq (tgt := 125) hx hb dX4_prepare_118 (by decide) (fun c3 => ?_) (fun c3 => ?_)
            · have hf := it hf c3
              refine lv_aload_n hx hb dX4_prepare_125 rfl (lv_at hl 1 rfl) ?_
              refine lv_iload_n hx hb dX4_prepare_126 rfl (lv_at hl 3 rfl) ?_
              refine lv_iload hx hb dX4_prepare_127 (lv_at hl 4 rfl) ?_
              obtain ⟨r4, hc, hf⟩ := bd1 hf
              refine cl_i (ws' := [(qn 0, oX1 qn n_pointCount n_lineCount n_tideNow n_age), (qn 1, .inl (Y 0, 40, .inl n_kinds)), (qn 2, .inl (Y 0, 40, .inl n_figures)), (qn 5, .inl (Y 0, 144, .inl n_joins)), (qn 6, .inl (Y 0, 12, .inl n_nears)), (qt 0, oX4 qt b_t_stamp b_t_age b_t_isTurned), (qt 4, .inl (Y 0, 12, .inl b_t_nears)), (qt 5, .inl (Y 0, 144, .inl b_t_weights))]) (wr := [(qn 6, .inl (Y 0, 12, .inl n_nears)), (qt 0, oX4 qt b_t_stamp b_t_age b_t_isTurned), (qt 4, .inl (Y 0, 12, .inl b_t_nears)), (qt 5, .inl (Y 0, 144, .inl b_t_weights))]) (rnV (As := [.int x3, .int x4]) (rest := [.int ((x3 * (12 : Int32)) + x4), .ref (qt 5)]) ⟨hx, hb, hml, hown, hts⟩ (c_X1_weightBetween l G Y H.size qn n_kinds n_figures n_joins n_pointCount n_lineCount n_tideNow n_age x3 x4 r4 hc) (cwV 2 hts gX4_prepare_X1_weightBetween rfl rfl rfl (by decide +kernel) ⟨(Nat.le_of_ble_eq_true rfl), (Nat.le_of_ble_eq_true rfl)⟩) hX okN hK hP hD [0, 1, 2, 3] rfl rfl (ci := 0) (q0 := 0) rfl rfl rfl rfl hl.1 rfl (Nat.le_of_ble_eq_true rfl) dX4_prepare_129) hP hD hS hA [0, 1, 2, 3] [4, 5, 6, 7] [4, 5, 6, 7, 0, 1, 2, 3] rfl rfl rfl (by decide) rfl rfl (fun H locs hP hD hS => ?_)
              obtain ⟨g5, hf⟩ := gd hf
              refine va_iast hx hb hK hP hD hS 7 0 rfl rfl g5 dX4_prepare_132 (fun H locs hP hD hS => ?_)
              obtain ⟨v6, e_v6⟩ : ∃ z : Nat → Int32, z = upd b_t_weights ((x3 * (12 : Int32)) + x4).toNatClampNeg r4 := ⟨_, rfl⟩
              have hf := nm_at hf e_v6
              have hP : va_P G vwCl [(qn 0, oX1 qn n_pointCount n_lineCount n_tideNow n_age), (qn 1, .inl (Y 0, 40, .inl n_kinds)), (qn 2, .inl (Y 0, 40, .inl n_figures)), (qn 5, .inl (Y 0, 144, .inl n_joins)), (qn 6, .inl (Y 0, 12, .inl n_nears)), (qt 0, oX4 qt b_t_stamp b_t_age b_t_isTurned), (qt 4, .inl (Y 0, 12, .inl b_t_nears)), (qt 5, .inl (Y 0, 144, .inl v6))] H := by rw [e_v6]; exact hP
              have hD : va_D A [(qn 0, oX1 qn n_pointCount n_lineCount n_tideNow n_age), (qn 1, .inl (Y 0, 40, .inl n_kinds)), (qn 2, .inl (Y 0, 40, .inl n_figures)), (qn 5, .inl (Y 0, 144, .inl n_joins)), (qn 6, .inl (Y 0, 12, .inl n_nears)), (qt 0, oX4 qt b_t_stamp b_t_age b_t_isTurned), (qt 4, .inl (Y 0, 12, .inl b_t_nears)), (qt 5, .inl (Y 0, 144, .inl v6))] := by rw [e_v6]; exact hD
              obtain ⟨v7, e_v7⟩ : ∃ z : Int32, z = (x4 + 1) := ⟨_, rfl⟩
              have hf := nm_at hf e_v7
              refine lv_iinc (v := v7) (lv' := [(4, .int v7), (0, .ref (qt 0)), (1, .ref (qn 0)), (2, .int p2), (3, .int x3)]) hx hb dX4_prepare_133 hl (k := 4) rfl (by rw [e_v7]; rfl) (by decide) rfl (fun ls hl => ?_)
              refine lv_goto (tgt := 99) hx hb dX4_prepare_136 (by decide) ?_
              exact ih99 b_t_nears v6 b_t_stamp b_t_age b_t_isTurned x3 v7 hf _ _ hP hD hS ls (lv_sub hl [1, 2, 3, 4, 0] rfl)
            · have hf := ie hf c3
              refine lv_iconst (v := 1) hx hb dX4_prepare_121 (by decide) ?_
              refine lv_goto (tgt := 132) hx hb dX4_prepare_122 (by decide) ?_
              obtain ⟨g8, hf⟩ := gd hf
              refine va_iast hx hb hK hP hD hS 7 0 rfl rfl g8 dX4_prepare_132 (fun H locs hP hD hS => ?_)
              obtain ⟨v9, e_v9⟩ : ∃ z : Nat → Int32, z = upd b_t_weights ((x3 * (12 : Int32)) + x4).toNatClampNeg (1 : Int32) := ⟨_, rfl⟩
              have hf := nm_at hf e_v9
              have hP : va_P G vwCl [(qn 0, oX1 qn n_pointCount n_lineCount n_tideNow n_age), (qn 1, .inl (Y 0, 40, .inl n_kinds)), (qn 2, .inl (Y 0, 40, .inl n_figures)), (qn 5, .inl (Y 0, 144, .inl n_joins)), (qn 6, .inl (Y 0, 12, .inl n_nears)), (qt 0, oX4 qt b_t_stamp b_t_age b_t_isTurned), (qt 4, .inl (Y 0, 12, .inl b_t_nears)), (qt 5, .inl (Y 0, 144, .inl v9))] H := by rw [e_v9]; exact hP
              have hD : va_D A [(qn 0, oX1 qn n_pointCount n_lineCount n_tideNow n_age), (qn 1, .inl (Y 0, 40, .inl n_kinds)), (qn 2, .inl (Y 0, 40, .inl n_figures)), (qn 5, .inl (Y 0, 144, .inl n_joins)), (qn 6, .inl (Y 0, 12, .inl n_nears)), (qt 0, oX4 qt b_t_stamp b_t_age b_t_isTurned), (qt 4, .inl (Y 0, 12, .inl b_t_nears)), (qt 5, .inl (Y 0, 144, .inl v9))] := by rw [e_v9]; exact hD
              obtain ⟨v10, e_v10⟩ : ∃ z : Int32, z = (x4 + 1) := ⟨_, rfl⟩
              have hf := nm_at hf e_v10
              refine lv_iinc (v := v10) (lv' := [(4, .int v10), (0, .ref (qt 0)), (1, .ref (qn 0)), (2, .int p2), (3, .int x3)]) hx hb dX4_prepare_133 hl (k := 4) rfl (by rw [e_v10]; rfl) (by decide) rfl (fun ls hl => ?_)
              refine lv_goto (tgt := 99) hx hb dX4_prepare_136 (by decide) ?_
              exact ih99 b_t_nears v9 b_t_stamp b_t_age b_t_isTurned x3 v10 hf _ _ hP hD hS ls (lv_sub hl [1, 2, 3, 4, 0] rfl)
      intro b_t_nears b_t_weights b_t_stamp b_t_age b_t_isTurned x3 hf H locs hP hD hS ls hl
      have hf : f_X4_prepare_s52 n_kinds n_figures n_joins n_nears n_pointCount n_tideNow n_age p2 (f_X4_prepare_b52 n_kinds n_figures n_joins n_nears n_pointCount n_tideNow n_age p2  n52) b_t_nears b_t_weights b_t_stamp b_t_age b_t_isTurned x3 = some (o_t_nears, o_t_weights, o_t_stamp, o_t_age, o_t_isTurned) := hf
      unfold f_X4_prepare_s52 at hf
      refine lv_iload_n hx hb dX4_prepare_52 rfl (lv_at hl 3 rfl) ?_
      refine lv_bipush (v := 12) hx hb dX4_prepare_53 (by decide) ?_
      refine lv_icmp_ge (tgt := 145) hx hb dX4_prepare_55 (by decide) (fun c11 => ?_) (fun c11 => ?_)
      · have hf := it hf c11
        obtain ⟨e0, e1, e2, e3, e4⟩ := rt5 hf
        have hP : va_P G vwCl [(qn 0, oX1 qn n_pointCount n_lineCount n_tideNow n_age), (qn 1, .inl (Y 0, 40, .inl n_kinds)), (qn 2, .inl (Y 0, 40, .inl n_figures)), (qn 5, .inl (Y 0, 144, .inl n_joins)), (qn 6, .inl (Y 0, 12, .inl n_nears)), (qt 0, oX4 qt o_t_stamp o_t_age o_t_isTurned), (qt 4, .inl (Y 0, 12, .inl o_t_nears)), (qt 5, .inl (Y 0, 144, .inl o_t_weights))] H := by rw [← e0, ← e1, ← e2, ← e3, ← e4]; exact hP
        have hD : va_D A [(qn 0, oX1 qn n_pointCount n_lineCount n_tideNow n_age), (qn 1, .inl (Y 0, 40, .inl n_kinds)), (qn 2, .inl (Y 0, 40, .inl n_figures)), (qn 5, .inl (Y 0, 144, .inl n_joins)), (qn 6, .inl (Y 0, 12, .inl n_nears)), (qt 0, oX4 qt o_t_stamp o_t_age o_t_isTurned), (qt 4, .inl (Y 0, 12, .inl o_t_nears)), (qt 5, .inl (Y 0, 144, .inl o_t_weights))] := by rw [← e0, ← e1, ← e2, ← e3, ← e4]; exact hD
        exact W.vret hx hb hr (fun t ht hW => ⟨⟨(), rfl, trivial, by rw [ht]; exact hP, va_K.moved hW.alike hK, by rw [hAe]; exact hD⟩, hS.F ht⟩) hS.2.2 dX4_prepare_145
      · have hf := ie hf c11
        refine lv_aload_n hx hb dX4_prepare_58 rfl (lv_at hl 0 rfl) ?_
        refine va_get (D := G) (ci := 3) (v := .ref (qt 4)) (C := RX4) (T := TX4) (N := 8) hx hb hts inX4w hown hK hP 5 rfl rfl 3 (by decide) wd5 (fun _ h9 => h9) rfl dX4_prepare_59 ?_
        refine lv_iload_n hx hb dX4_prepare_62 rfl (lv_at hl 3 rfl) ?_
        refine lv_iload_n hx hb dX4_prepare_63 rfl (lv_at hl 2 rfl) ?_
        refine lv_if_eq (tgt := 89) hx hb dX4_prepare_64 (by decide) (fun c12 => ?_) (fun c12 => ?_)
        · have hf := it hf c12
          refine lv_aload_n hx hb dX4_prepare_89 rfl (lv_at hl 1 rfl) ?_
          refine va_get (D := G) (ci := 0) (v := .ref (qn 6)) (C := RX1) (T := TX1) (N := 11) hx hb hts inX1w hown hK hP 0 rfl rfl 5 (by decide) wd6 (fun _ h9 => h9) rfl dX4_prepare_90 ?_
          refine lv_iload_n hx hb dX4_prepare_93 rfl (lv_at hl 3 rfl) ?_
          obtain ⟨g13, hf⟩ := gd hf
          refine va_iald hx hb hK hP 4 0 rfl rfl g13 dX4_prepare_94 ?_
          obtain ⟨g14, hf⟩ := gd hf
          refine va_iast hx hb hK hP hD hS 6 0 rfl rfl g14 dX4_prepare_95 (fun H locs hP hD hS => ?_)
          obtain ⟨v15, e_v15⟩ : ∃ z : Nat → Int32, z = upd b_t_nears x3.toNatClampNeg (n_nears x3.toNatClampNeg) := ⟨_, rfl⟩
          have hf := nm_at hf e_v15
          have hP : va_P G vwCl [(qn 0, oX1 qn n_pointCount n_lineCount n_tideNow n_age), (qn 1, .inl (Y 0, 40, .inl n_kinds)), (qn 2, .inl (Y 0, 40, .inl n_figures)), (qn 5, .inl (Y 0, 144, .inl n_joins)), (qn 6, .inl (Y 0, 12, .inl n_nears)), (qt 0, oX4 qt b_t_stamp b_t_age b_t_isTurned), (qt 4, .inl (Y 0, 12, .inl v15)), (qt 5, .inl (Y 0, 144, .inl b_t_weights))] H := by rw [e_v15]; exact hP
          have hD : va_D A [(qn 0, oX1 qn n_pointCount n_lineCount n_tideNow n_age), (qn 1, .inl (Y 0, 40, .inl n_kinds)), (qn 2, .inl (Y 0, 40, .inl n_figures)), (qn 5, .inl (Y 0, 144, .inl n_joins)), (qn 6, .inl (Y 0, 12, .inl n_nears)), (qt 0, oX4 qt b_t_stamp b_t_age b_t_isTurned), (qt 4, .inl (Y 0, 12, .inl v15)), (qt 5, .inl (Y 0, 144, .inl b_t_weights))] := by rw [e_v15]; exact hD
          refine lv_iconst (v := 0) hx hb dX4_prepare_96 (by decide) ?_
          refine lv_istore (lv' := [(4, .int (0 : Int32)), (0, .ref (qt 0)), (1, .ref (qn 0)), (2, .int p2), (3, .int x3)]) hx hb dX4_prepare_97 hl (by decide) rfl (fun ls hl => ?_)
          exact B99 70 v15 b_t_weights b_t_stamp b_t_age b_t_isTurned x3 (0 : Int32) hf _ _ hP hD hS ls (lv_sub hl [1, 2, 3, 4, 0] rfl)
        · have hf := ie hf c12
          refine lv_aload_n hx hb dX4_prepare_67 rfl (lv_at hl 1 rfl) ?_
          obtain ⟨r16, hc, hf⟩ := bd1 hf
          refine cl_i (ws' := [(qn 0, oX1 qn n_pointCount n_lineCount n_tideNow n_age), (qn 1, .inl (Y 0, 40, .inl n_kinds)), (qn 2, .inl (Y 0, 40, .inl n_figures)), (qn 5, .inl (Y 0, 144, .inl n_joins)), (qn 6, .inl (Y 0, 12, .inl n_nears)), (qt 0, oX4 qt b_t_stamp b_t_age b_t_isTurned), (qt 4, .inl (Y 0, 12, .inl b_t_nears)), (qt 5, .inl (Y 0, 144, .inl b_t_weights))]) (wr := [(qn 1, .inl (Y 0, 40, .inl n_kinds)), (qn 2, .inl (Y 0, 40, .inl n_figures)), (qn 5, .inl (Y 0, 144, .inl n_joins)), (qn 6, .inl (Y 0, 12, .inl n_nears)), (qt 0, oX4 qt b_t_stamp b_t_age b_t_isTurned), (qt 4, .inl (Y 0, 12, .inl b_t_nears)), (qt 5, .inl (Y 0, 144, .inl b_t_weights))]) (rnV (As := []) (rest := [.int x3, .ref (qt 4)]) ⟨hx, hb, hml, hown, hts⟩ (c_X1_allPoints l G Y H.size qn n_pointCount n_lineCount n_tideNow n_age r16 hc) (cwV 0 hts gX4_prepare_X1_allPoints rfl rfl rfl (by decide +kernel) ⟨(Nat.le_of_ble_eq_true rfl), (Nat.le_of_ble_eq_true rfl)⟩) trivial okT hK hP hD [0] rfl rfl (ci := 0) (q0 := 0) rfl rfl rfl rfl hl.1 rfl (Nat.le_of_ble_eq_true rfl) dX4_prepare_68) hP hD hS hA [0] [1, 2, 3, 4, 5, 6, 7] [7, 0, 1, 2, 3, 4, 5, 6] rfl rfl rfl (by decide) rfl rfl (fun H locs hP hD hS => ?_)
          refine lv_aload_n hx hb dX4_prepare_71 rfl (lv_at hl 1 rfl) ?_
          refine va_get (D := G) (ci := 0) (v := .ref (qn 6)) (C := RX1) (T := TX1) (N := 11) hx hb hts inX1w hown hK hP 0 rfl rfl 5 (by decide) wd6 (fun _ h9 => h9) rfl dX4_prepare_72 ?_
          refine lv_iload_n hx hb dX4_prepare_75 rfl (lv_at hl 3 rfl) ?_
          obtain ⟨g17, hf⟩ := gd hf
          refine va_iald hx hb hK hP 4 0 rfl rfl g17 dX4_prepare_76 ?_
          refine lv_iconst (v := -1) hx hb dX4_prepare_77 (by decide) ?_
          refine lv_ixor hx hb dX4_prepare_78 ?_
          refine lv_iand hx hb dX4_prepare_79 ?_
          refine lv_iconst (v := 1) hx hb dX4_prepare_80 (by decide) ?_
          refine lv_iload_n hx hb dX4_prepare_81 rfl (lv_at hl 3 rfl) ?_
          refine lv_ishl hx hb dX4_prepare_82 ?_
          refine lv_iconst (v := -1) hx hb dX4_prepare_83 (by decide) ?_
          refine lv_ixor hx hb dX4_prepare_84 ?_
          refine lv_iand hx hb dX4_prepare_85 ?_
          refine lv_goto (tgt := 95) hx hb dX4_prepare_86 (by decide) ?_
          obtain ⟨g18, hf⟩ := gd hf
          refine va_iast hx hb hK hP hD hS 6 0 rfl rfl g18 dX4_prepare_95 (fun H locs hP hD hS => ?_)
          obtain ⟨v19, e_v19⟩ : ∃ z : Nat → Int32, z = upd b_t_nears x3.toNatClampNeg ((r16 &&& ((n_nears x3.toNatClampNeg) ^^^ (-1 : Int32))) &&& (((1 : Int32) <<< (x3 &&& 31)) ^^^ (-1 : Int32))) := ⟨_, rfl⟩
          have hf := nm_at hf e_v19
          have hP : va_P G vwCl [(qn 0, oX1 qn n_pointCount n_lineCount n_tideNow n_age), (qn 1, .inl (Y 0, 40, .inl n_kinds)), (qn 2, .inl (Y 0, 40, .inl n_figures)), (qn 5, .inl (Y 0, 144, .inl n_joins)), (qn 6, .inl (Y 0, 12, .inl n_nears)), (qt 0, oX4 qt b_t_stamp b_t_age b_t_isTurned), (qt 4, .inl (Y 0, 12, .inl v19)), (qt 5, .inl (Y 0, 144, .inl b_t_weights))] H := by rw [e_v19]; exact hP
          have hD : va_D A [(qn 0, oX1 qn n_pointCount n_lineCount n_tideNow n_age), (qn 1, .inl (Y 0, 40, .inl n_kinds)), (qn 2, .inl (Y 0, 40, .inl n_figures)), (qn 5, .inl (Y 0, 144, .inl n_joins)), (qn 6, .inl (Y 0, 12, .inl n_nears)), (qt 0, oX4 qt b_t_stamp b_t_age b_t_isTurned), (qt 4, .inl (Y 0, 12, .inl v19)), (qt 5, .inl (Y 0, 144, .inl b_t_weights))] := by rw [e_v19]; exact hD
          refine lv_iconst (v := 0) hx hb dX4_prepare_96 (by decide) ?_
          refine lv_istore (lv' := [(4, .int (0 : Int32)), (0, .ref (qt 0)), (1, .ref (qn 0)), (2, .int p2), (3, .int x3)]) hx hb dX4_prepare_97 hl (by decide) rfl (fun ls hl => ?_)
          exact B99 70 v19 b_t_weights b_t_stamp b_t_age b_t_isTurned x3 (0 : Int32) hf _ _ hP hD hS ls (lv_sub hl [1, 2, 3, 4, 0] rfl)
  have B27 : ∀ (b_t_nears : Nat → Int32) (b_t_weights : Nat → Int32) (b_t_stamp : Int32) (b_t_age : Int32) (b_t_isTurned : Int32), f_X4_prepare_b27 n_kinds n_figures n_joins n_nears n_pointCount n_tideNow n_age p2 b_t_nears b_t_weights b_t_stamp b_t_age b_t_isTurned = some (o_t_nears, o_t_weights, o_t_stamp, o_t_age, o_t_isTurned) → ∀ (H : Heap) (locs : List Loc), va_P G vwCl [(qn 0, oX1 qn n_pointCount n_lineCount n_tideNow n_age), (qn 1, .inl (Y 0, 40, .inl n_kinds)), (qn 2, .inl (Y 0, 40, .inl n_figures)), (qn 5, .inl (Y 0, 144, .inl n_joins)), (qn 6, .inl (Y 0, 12, .inl n_nears)), (qt 0, oX4 qt b_t_stamp b_t_age b_t_isTurned), (qt 4, .inl (Y 0, 12, .inl b_t_nears)), (qt 5, .inl (Y 0, 144, .inl b_t_weights))] H → va_D A [(qn 0, oX1 qn n_pointCount n_lineCount n_tideNow n_age), (qn 1, .inl (Y 0, 40, .inl n_kinds)), (qn 2, .inl (Y 0, 40, .inl n_figures)), (qn 5, .inl (Y 0, 144, .inl n_joins)), (qn 6, .inl (Y 0, 12, .inl n_nears)), (qt 0, oX4 qt b_t_stamp b_t_age b_t_isTurned), (qt 4, .inl (Y 0, 12, .inl b_t_nears)), (qt 5, .inl (Y 0, 144, .inl b_t_weights))] → va_S A s.heap H locs → ∀ (ls : Array Slot), lv_has ls 5 [(0, .ref (qt 0)), (1, .ref (qn 0)), (2, .int p2)] → W p l e (headSpec wsX4_prepare (rmk 4 87)).room s m [.ref (qt 0), .ref (qn 0), .int p2].toArray below meth c H locs 0 0 (MQ below (va_Qv (fun (_ : Unit) => True) (Pst G (tys Y) [(qn 0, oX1 qn n_pointCount n_lineCount n_tideNow n_age), (qn 1, .inl (Y 0, 40, .inl n_kinds)), (qn 2, .inl (Y 0, 40, .inl n_figures)), (qn 5, .inl (Y 0, 144, .inl n_joins)), (qn 6, .inl (Y 0, 12, .inl n_nears)), (qt 0, oX4 qt t_stamp t_age t_isTurned), (qt 4, .inl (Y 0, 12, .inl t_nears)), (qt 5, .inl (Y 0, 144, .inl t_weights))] s.heap.size [(qn 0, oX1 qn n_pointCount n_lineCount n_tideNow n_age), (qn 1, .inl (Y 0, 40, .inl n_kinds)), (qn 2, .inl (Y 0, 40, .inl n_figures)), (qn 5, .inl (Y 0, 144, .inl n_joins)), (qn 6, .inl (Y 0, 12, .inl n_nears)), (qt 0, oX4 qt o_t_stamp o_t_age o_t_isTurned), (qt 4, .inl (Y 0, 12, .inl o_t_nears)), (qt 5, .inl (Y 0, 144, .inl o_t_weights))]) A) [.ref (qt 0), .ref (qn 0), .int p2].toArray s 0 0 A) (F0 m 27 ls []) := by
    intro b_t_nears b_t_weights b_t_stamp b_t_age b_t_isTurned hf H locs hP hD hS ls hl
    unfold f_X4_prepare_b27 at hf
    refine lv_aload_n hx hb dX4_prepare_27 rfl (lv_at hl 0 rfl) ?_
    refine lv_dup hx hb dX4_prepare_28 rfl ?_
    refine va_get (D := G) (ci := 3) (v := .int b_t_stamp) (C := RX4) (T := TX4) (N := 8) hx hb hts inX4w hown hK hP 5 rfl rfl 5 (by decide) wd1 (fun _ h9 => h9) rfl dX4_prepare_29 ?_
    refine lv_iconst (v := 1) hx hb dX4_prepare_32 (by decide) ?_
    refine lv_iadd hx hb dX4_prepare_33 ?_
    refine lv_topi (fun v20 e_v20 => ?_)
    have hf := nm_at hf e_v20
    refine va_put (D := G) (ci := 3) (v := .int v20) (ty := .int) (C := RX4) (T := TX4) (N := 8) hx hb hts inX4w tyX4 tyX4_ok nmX4 hown hK hP hD hS 5 rfl rfl 5 (by decide) wd1 (fun _ h9 => h9) rfl (by decide +kernel) rfl rfl (Nat.le_of_ble_eq_true rfl) dX4_prepare_34 (fun H locs hP hD hS => ?_)
    have hP : va_P G vwCl [(qn 0, oX1 qn n_pointCount n_lineCount n_tideNow n_age), (qn 1, .inl (Y 0, 40, .inl n_kinds)), (qn 2, .inl (Y 0, 40, .inl n_figures)), (qn 5, .inl (Y 0, 144, .inl n_joins)), (qn 6, .inl (Y 0, 12, .inl n_nears)), (qt 0, oX4 qt v20 b_t_age b_t_isTurned), (qt 4, .inl (Y 0, 12, .inl b_t_nears)), (qt 5, .inl (Y 0, 144, .inl b_t_weights))] H := hP
    have hD : va_D A [(qn 0, oX1 qn n_pointCount n_lineCount n_tideNow n_age), (qn 1, .inl (Y 0, 40, .inl n_kinds)), (qn 2, .inl (Y 0, 40, .inl n_figures)), (qn 5, .inl (Y 0, 144, .inl n_joins)), (qn 6, .inl (Y 0, 12, .inl n_nears)), (qt 0, oX4 qt v20 b_t_age b_t_isTurned), (qt 4, .inl (Y 0, 12, .inl b_t_nears)), (qt 5, .inl (Y 0, 144, .inl b_t_weights))] := hD
    refine lv_aload_n hx hb dX4_prepare_37 rfl (lv_at hl 0 rfl) ?_
    refine lv_aload_n hx hb dX4_prepare_38 rfl (lv_at hl 1 rfl) ?_
    refine va_get (D := G) (ci := 0) (v := .int n_age) (C := RX1) (T := TX1) (N := 11) hx hb hts inX1w hown hK hP 0 rfl rfl 10 (by decide) wd3 (fun _ h9 => h9) rfl dX4_prepare_39 ?_
    refine va_put (D := G) (ci := 3) (v := .int n_age) (ty := .int) (C := RX4) (T := TX4) (N := 8) hx hb hts inX4w tyX4 tyX4_ok nmX4 hown hK hP hD hS 5 rfl rfl 6 (by decide) wd2 (fun _ h9 => h9) rfl (by decide +kernel) rfl rfl (Nat.le_of_ble_eq_true rfl) dX4_prepare_42 (fun H locs hP hD hS => ?_)
    have hP : va_P G vwCl [(qn 0, oX1 qn n_pointCount n_lineCount n_tideNow n_age), (qn 1, .inl (Y 0, 40, .inl n_kinds)), (qn 2, .inl (Y 0, 40, .inl n_figures)), (qn 5, .inl (Y 0, 144, .inl n_joins)), (qn 6, .inl (Y 0, 12, .inl n_nears)), (qt 0, oX4 qt v20 n_age b_t_isTurned), (qt 4, .inl (Y 0, 12, .inl b_t_nears)), (qt 5, .inl (Y 0, 144, .inl b_t_weights))] H := hP
    have hD : va_D A [(qn 0, oX1 qn n_pointCount n_lineCount n_tideNow n_age), (qn 1, .inl (Y 0, 40, .inl n_kinds)), (qn 2, .inl (Y 0, 40, .inl n_figures)), (qn 5, .inl (Y 0, 144, .inl n_joins)), (qn 6, .inl (Y 0, 12, .inl n_nears)), (qt 0, oX4 qt v20 n_age b_t_isTurned), (qt 4, .inl (Y 0, 12, .inl b_t_nears)), (qt 5, .inl (Y 0, 144, .inl b_t_weights))] := hD
    refine lv_aload_n hx hb dX4_prepare_45 rfl (lv_at hl 0 rfl) ?_
    refine lv_iload_n hx hb dX4_prepare_46 rfl (lv_at hl 2 rfl) ?_
    obtain ⟨g21, hf⟩ := gp hf
    refine va_put (D := G) (ci := 3) (v := .int p2) (ty := .boolean) (C := RX4) (T := TX4) (N := 8) hx hb hts inX4w tyX4 tyX4_ok nmX4 hown hK hP hD hS 5 rfl rfl 7 (by decide) wd4 (fun _ h9 => h9) rfl (by decide +kernel) (nb_n g21) (nb_f g21) (Nat.le_of_ble_eq_true rfl) dX4_prepare_47 (fun H locs hP hD hS => ?_)
    have hP : va_P G vwCl [(qn 0, oX1 qn n_pointCount n_lineCount n_tideNow n_age), (qn 1, .inl (Y 0, 40, .inl n_kinds)), (qn 2, .inl (Y 0, 40, .inl n_figures)), (qn 5, .inl (Y 0, 144, .inl n_joins)), (qn 6, .inl (Y 0, 12, .inl n_nears)), (qt 0, oX4 qt v20 n_age p2), (qt 4, .inl (Y 0, 12, .inl b_t_nears)), (qt 5, .inl (Y 0, 144, .inl b_t_weights))] H := hP
    have hD : va_D A [(qn 0, oX1 qn n_pointCount n_lineCount n_tideNow n_age), (qn 1, .inl (Y 0, 40, .inl n_kinds)), (qn 2, .inl (Y 0, 40, .inl n_figures)), (qn 5, .inl (Y 0, 144, .inl n_joins)), (qn 6, .inl (Y 0, 12, .inl n_nears)), (qt 0, oX4 qt v20 n_age p2), (qt 4, .inl (Y 0, 12, .inl b_t_nears)), (qt 5, .inl (Y 0, 144, .inl b_t_weights))] := hD
    refine lv_iconst (v := 0) hx hb dX4_prepare_50 (by decide) ?_
    refine lv_istore_n (lv' := [(3, .int (0 : Int32)), (0, .ref (qt 0)), (1, .ref (qn 0)), (2, .int p2)]) hx hb dX4_prepare_51 rfl hl (by decide) rfl (fun ls hl => ?_)
    exact B52 70 b_t_nears b_t_weights v20 n_age p2 (0 : Int32) hf _ _ hP hD hS ls (lv_sub hl [1, 2, 3, 0] rfl)
  have E0 : ∀ (H : Heap) (locs : List Loc), va_P G vwCl [(qn 0, oX1 qn n_pointCount n_lineCount n_tideNow n_age), (qn 1, .inl (Y 0, 40, .inl n_kinds)), (qn 2, .inl (Y 0, 40, .inl n_figures)), (qn 5, .inl (Y 0, 144, .inl n_joins)), (qn 6, .inl (Y 0, 12, .inl n_nears)), (qt 0, oX4 qt t_stamp t_age t_isTurned), (qt 4, .inl (Y 0, 12, .inl t_nears)), (qt 5, .inl (Y 0, 144, .inl t_weights))] H → va_D A [(qn 0, oX1 qn n_pointCount n_lineCount n_tideNow n_age), (qn 1, .inl (Y 0, 40, .inl n_kinds)), (qn 2, .inl (Y 0, 40, .inl n_figures)), (qn 5, .inl (Y 0, 144, .inl n_joins)), (qn 6, .inl (Y 0, 12, .inl n_nears)), (qt 0, oX4 qt t_stamp t_age t_isTurned), (qt 4, .inl (Y 0, 12, .inl t_nears)), (qt 5, .inl (Y 0, 144, .inl t_weights))] → va_S A s.heap H locs → ∀ (ls : Array Slot), lv_has ls 5 [(0, .ref (qt 0)), (1, .ref (qn 0)), (2, .int p2)] → W p l e (headSpec wsX4_prepare (rmk 4 87)).room s m [.ref (qt 0), .ref (qn 0), .int p2].toArray below meth c H locs 0 0 (MQ below (va_Qv (fun (_ : Unit) => True) (Pst G (tys Y) [(qn 0, oX1 qn n_pointCount n_lineCount n_tideNow n_age), (qn 1, .inl (Y 0, 40, .inl n_kinds)), (qn 2, .inl (Y 0, 40, .inl n_figures)), (qn 5, .inl (Y 0, 144, .inl n_joins)), (qn 6, .inl (Y 0, 12, .inl n_nears)), (qt 0, oX4 qt t_stamp t_age t_isTurned), (qt 4, .inl (Y 0, 12, .inl t_nears)), (qt 5, .inl (Y 0, 144, .inl t_weights))] s.heap.size [(qn 0, oX1 qn n_pointCount n_lineCount n_tideNow n_age), (qn 1, .inl (Y 0, 40, .inl n_kinds)), (qn 2, .inl (Y 0, 40, .inl n_figures)), (qn 5, .inl (Y 0, 144, .inl n_joins)), (qn 6, .inl (Y 0, 12, .inl n_nears)), (qt 0, oX4 qt o_t_stamp o_t_age o_t_isTurned), (qt 4, .inl (Y 0, 12, .inl o_t_nears)), (qt 5, .inl (Y 0, 144, .inl o_t_weights))]) A) [.ref (qt 0), .ref (qn 0), .int p2].toArray s 0 0 A) (F0 m 0 ls []) := by
    intro H locs hP hD hS ls hl
    unfold f_X4_prepare at hf
    refine lv_aload_n hx hb dX4_prepare_0 rfl (lv_at hl 0 rfl) ?_
    refine va_get (D := G) (ci := 3) (v := .int t_stamp) (C := RX4) (T := TX4) (N := 8) hx hb hts inX4w hown hK hP 5 rfl rfl 5 (by decide) wd1 (fun _ h9 => h9) rfl dX4_prepare_1 ?_
    refine lv_if_le (tgt := 27) hx hb dX4_prepare_4 (by decide) (fun c22 => ?_) (fun c22 => ?_)
    · have hf := it hf c22
      exact B27 t_nears t_weights t_stamp t_age t_isTurned hf _ _ hP hD hS ls (lv_sub hl [0, 1, 2] rfl)
    · have hf := ie hf c22
      refine lv_aload_n hx hb dX4_prepare_7 rfl (lv_at hl 0 rfl) ?_
      refine va_get (D := G) (ci := 3) (v := .int t_age) (C := RX4) (T := TX4) (N := 8) hx hb hts inX4w hown hK hP 5 rfl rfl 6 (by decide) wd2 (fun _ h9 => h9) rfl dX4_prepare_8 ?_
      refine lv_aload_n hx hb dX4_prepare_11 rfl (lv_at hl 1 rfl) ?_
      refine va_get (D := G) (ci := 0) (v := .int n_age) (C := RX1) (T := TX1) (N := 11) hx hb hts inX1w hown hK hP 0 rfl rfl 10 (by decide) wd3 (fun _ h9 => h9) rfl dX4_prepare_12 ?_
      refine lv_icmp_ne (tgt := 27) hx hb dX4_prepare_15 (by decide) (fun c23 => ?_) (fun c23 => ?_)
      · have hf := ie hf c23
        exact B27 t_nears t_weights t_stamp t_age t_isTurned hf _ _ hP hD hS ls (lv_sub hl [0, 1, 2] rfl)
      · have hf := it hf c23
        refine lv_aload_n hx hb dX4_prepare_18 rfl (lv_at hl 0 rfl) ?_
        refine va_get (D := G) (ci := 3) (v := .int t_isTurned) (C := RX4) (T := TX4) (N := 8) hx hb hts inX4w hown hK hP 5 rfl rfl 7 (by decide) wd4 (fun _ h9 => h9) rfl dX4_prepare_19 ?_
        refine lv_iload_n hx hb dX4_prepare_22 rfl (lv_at hl 2 rfl) ?_
        refine lv_icmp_ne (tgt := 27) hx hb dX4_prepare_23 (by decide) (fun c24 => ?_) (fun c24 => ?_)
        · have hf := ie hf c24
          exact B27 t_nears t_weights t_stamp t_age t_isTurned hf _ _ hP hD hS ls (lv_sub hl [0, 1, 2] rfl)
        · have hf := it hf c24
          obtain ⟨e0, e1, e2, e3, e4⟩ := rt5 hf
          have hP : va_P G vwCl [(qn 0, oX1 qn n_pointCount n_lineCount n_tideNow n_age), (qn 1, .inl (Y 0, 40, .inl n_kinds)), (qn 2, .inl (Y 0, 40, .inl n_figures)), (qn 5, .inl (Y 0, 144, .inl n_joins)), (qn 6, .inl (Y 0, 12, .inl n_nears)), (qt 0, oX4 qt o_t_stamp o_t_age o_t_isTurned), (qt 4, .inl (Y 0, 12, .inl o_t_nears)), (qt 5, .inl (Y 0, 144, .inl o_t_weights))] H := by rw [← e0, ← e1, ← e2, ← e3, ← e4]; exact hP
          have hD : va_D A [(qn 0, oX1 qn n_pointCount n_lineCount n_tideNow n_age), (qn 1, .inl (Y 0, 40, .inl n_kinds)), (qn 2, .inl (Y 0, 40, .inl n_figures)), (qn 5, .inl (Y 0, 144, .inl n_joins)), (qn 6, .inl (Y 0, 12, .inl n_nears)), (qt 0, oX4 qt o_t_stamp o_t_age o_t_isTurned), (qt 4, .inl (Y 0, 12, .inl o_t_nears)), (qt 5, .inl (Y 0, 144, .inl o_t_weights))] := by rw [← e0, ← e1, ← e2, ← e3, ← e4]; exact hD
          exact W.vret hx hb hr (fun t ht hW => ⟨⟨(), rfl, trivial, by rw [ht]; exact hP, va_K.moved hW.alike hK, by rw [hAe]; exact hD⟩, hS.F ht⟩) hS.2.2 dX4_prepare_26
  exact E0 s.heap [] hP hD hS ls hl
-- X4_addPaired
set_option maxRecDepth 100000 in
set_option maxHeartbeats 4000000 in
theorem c_X4_addPaired (l : Launch) (G : va_G) (Y : Nat → ClassId) (sz : Nat) (qt : Nat → Nat) (t_worths : Nat → Int64) (t_longest : Nat → Int32) (t_stamp : Int32) (t_age : Int32) (t_isTurned : Int32) (p1 : Int32) (p2 : Int32) (p3 : Int32) (o_t_worths : Nat → Int64) (hf : f_X4_addPaired t_worths t_longest p1 p2 p3 = some (o_t_worths)) : Met l yX4_addPaired wsX4_addPaired (rmk 1 23) (va_Pc [.ref (qt 0), .int p1, .int p2, .int p3] (Pre G (tys Y) [(qt 0, oX4 qt t_stamp t_age t_isTurned), (qt 1, .inl (Y 1, 28672, .inr (.inl t_worths))), (qt 2, .inl (Y 0, 4096, .inl t_longest))] sz xT)) (va_Qv (fun (_ : Unit) => True) (Pst G (tys Y) [(qt 0, oX4 qt t_stamp t_age t_isTurned), (qt 1, .inl (Y 1, 28672, .inr (.inl t_worths))), (qt 2, .inl (Y 0, 4096, .inl t_longest))] sz [(qt 0, oX4 qt t_stamp t_age t_isTurned), (qt 1, .inl (Y 1, 28672, .inr (.inl o_t_worths))), (qt 2, .inl (Y 0, 4096, .inl t_longest))]) (va_A [(qt 0, oX4 qt t_stamp t_age t_isTurned), (qt 1, .inl (Y 1, 28672, .inr (.inl t_worths))), (qt 2, .inl (Y 0, 4096, .inl t_longest))] sz)) 0 0 (va_A [(qt 0, oX4 qt t_stamp t_age t_isTurned), (qt 1, .inl (Y 1, 28672, .inr (.inl t_worths))), (qt 2, .inl (Y 0, 4096, .inl t_longest))] sz) := by
  refine Met.ofW (cc := cX4_addPaired) (maxL := 8) (ret := none) (by decide) rfl ?_
  intro p e s m args below meth c s₁ B hml hv
  obtain ⟨rfl, hsz, hP, hK, hD0, hX⟩ := hv
  have hx := B.exec
  have hb := B.bytes
  have hr := B.returns
  have hts := atoms_spec (ws := wsX4_addPaired) B.pre
  have hown : s.vm.findClass RX4 = some m.cls := findClass_of_methodNamed B.named
  have hlocks := B.notSynchronized
  subst hsz
  have hD := hD0.self (sz := s.heap.size)
  generalize hAe : va_A [(qt 0, oX4 qt t_stamp t_age t_isTurned), (qt 1, .inl (Y 1, 28672, .inr (.inl t_worths))), (qt 2, .inl (Y 0, 4096, .inl t_longest))] s.heap.size = A at hD ⊢
  have hA : ∀ q : Nat, s.heap.size ≤ q → A q := fun q h => by rw [← hAe]; exact Or.inr h
  have hS : va_S A s.heap s.heap [] := va_S.rf
  have hP : va_P G vwCl [(qt 0, oX4 qt t_stamp t_age t_isTurned), (qt 1, .inl (Y 1, 28672, .inr (.inl t_worths))), (qt 2, .inl (Y 0, 4096, .inl t_longest))] s.heap := hP
  have wd1 : (Cond.fieldLink RX4 15 "PairedLines$Table" "longest" "[I").before [.ref (qt 0), .int p1, .int p2, .int p3].toArray s = true := hts _ (List.mem_of_getElem? (i := 1) rfl)
  have wd2 : (Cond.methodLink RX4 76 Lib.Math.min.name).before [.ref (qt 0), .int p1, .int p2, .int p3].toArray s = true := hts _ (List.mem_of_getElem? (i := 2) rfl)
  have wd3 : (Cond.static Lib.Math.min.name).before [.ref (qt 0), .int p1, .int p2, .int p3].toArray s = true := hts _ (List.mem_of_getElem? (i := 3) rfl)
  have wd4 : (Cond.initialized "java/lang/Math").before [.ref (qt 0), .int p1, .int p2, .int p3].toArray s = true := hts _ (List.mem_of_getElem? (i := 4) rfl)
  have wd5 : (Cond.code Lib.Math.min.name Lib.Math.min.code 2 (some .int)).before [.ref (qt 0), .int p1, .int p2, .int p3].toArray s = true := hts _ (List.mem_of_getElem? (i := 5) rfl)
  have wd6 : (Cond.fieldLink RX4 9 "PairedLines$Table" "worths" "[J").before [.ref (qt 0), .int p1, .int p2, .int p3].toArray s = true := hts _ (List.mem_of_getElem? (i := 6) rfl)
  have inX4w : ∀ w ∈ u_ws RX4 TX4 8, w ∈ wsX4_addPaired := fun w hw => List.mem_cons_of_mem _ (List.mem_append_right _ (hw))
  have hl := lv_entry ([.ref (qt 0), .int p1, .int p2, .int p3]) (n := 8) (Nat.le_of_ble_eq_true rfl)
  rw [lg_entry_eq]
  generalize (lg_sl ([.ref (qt 0), .int p1, .int p2, .int p3]) ++ List.replicate (8 - (lg_sl ([.ref (qt 0), .int p1, .int p2, .int p3])).length) Slot.unset).toArray = ls at hl ⊢
  have hl : lv_has ls 8 [(0, .ref (qt 0)), (1, .int p1), (2, .int p2), (3, .int p3)] := hl
  have B35 : ∀ (n35 : Nat), ∀ (b_t_worths : Nat → Int64) (x4 : Int32) (x5 : Int32) (x6 : Int32) (x7 : Int32), f_X4_addPaired_b35 t_longest p1 p2 p3 n35 b_t_worths x4 x5 x6 x7 = some (o_t_worths) → ∀ (H : Heap) (locs : List Loc), va_P G vwCl [(qt 0, oX4 qt t_stamp t_age t_isTurned), (qt 1, .inl (Y 1, 28672, .inr (.inl b_t_worths))), (qt 2, .inl (Y 0, 4096, .inl t_longest))] H → va_D A [(qt 0, oX4 qt t_stamp t_age t_isTurned), (qt 1, .inl (Y 1, 28672, .inr (.inl b_t_worths))), (qt 2, .inl (Y 0, 4096, .inl t_longest))] → va_S A s.heap H locs → ∀ (ls : Array Slot), lv_has ls 8 [(0, .ref (qt 0)), (3, .int p3), (4, .int x4), (5, .int x5), (6, .int x6), (7, .int x7)] → W p l e (headSpec wsX4_addPaired (rmk 1 23)).room s m [.ref (qt 0), .int p1, .int p2, .int p3].toArray below meth c H locs 0 0 (MQ below (va_Qv (fun (_ : Unit) => True) (Pst G (tys Y) [(qt 0, oX4 qt t_stamp t_age t_isTurned), (qt 1, .inl (Y 1, 28672, .inr (.inl t_worths))), (qt 2, .inl (Y 0, 4096, .inl t_longest))] s.heap.size [(qt 0, oX4 qt t_stamp t_age t_isTurned), (qt 1, .inl (Y 1, 28672, .inr (.inl o_t_worths))), (qt 2, .inl (Y 0, 4096, .inl t_longest))]) A) [.ref (qt 0), .int p1, .int p2, .int p3].toArray s 0 0 A) (F0 m 35 ls []) := by
    intro n35
    induction n35 with
    | zero =>
      intro b_t_worths x4 x5 x6 x7 hf H locs hP hD hS ls hl
      exact no_none hf
    | succ n35 ih35 =>
      intro b_t_worths x4 x5 x6 x7 hf H locs hP hD hS ls hl
      have hf : f_X4_addPaired_s35 t_longest p1 p2 p3 (f_X4_addPaired_b35 t_longest p1 p2 p3  n35) b_t_worths x4 x5 x6 x7 = some (o_t_worths) := hf
      unfold f_X4_addPaired_s35 at hf
      refine lv_iload hx hb dX4_addPaired_35 (lv_at hl 5 rfl) ?_
      refine lv_iload hx hb dX4_addPaired_37 (lv_at hl 4 rfl) ?_
      refine lv_icmp_gt (tgt := 88) hx hb dX4_addPaired_39 (by decide) (fun c1 => ?_) (fun c1 => ?_)
      · have hf := it hf c1
        have e0 := rt1 hf
        have hP : va_P G vwCl [(qt 0, oX4 qt t_stamp t_age t_isTurned), (qt 1, .inl (Y 1, 28672, .inr (.inl o_t_worths))), (qt 2, .inl (Y 0, 4096, .inl t_longest))] H := by rw [← e0]; exact hP
        have hD : va_D A [(qt 0, oX4 qt t_stamp t_age t_isTurned), (qt 1, .inl (Y 1, 28672, .inr (.inl o_t_worths))), (qt 2, .inl (Y 0, 4096, .inl t_longest))] := by rw [← e0]; exact hD
        exact W.vret hx hb hr (fun t ht hW => ⟨⟨(), rfl, trivial, by rw [ht]; exact hP, va_K.moved hW.alike hK, by rw [hAe]; exact hD⟩, hS.F ht⟩) hS.2.2 dX4_addPaired_88
      · have hf := ie hf c1
        refine lv_aload_n hx hb dX4_addPaired_42 rfl (lv_at hl 0 rfl) ?_
        refine va_get (D := G) (ci := 3) (v := .ref (qt 1)) (C := RX4) (T := TX4) (N := 8) hx hb hts inX4w hown hK hP 0 rfl rfl 0 (by decide) wd6 (fun _ h9 => h9) rfl dX4_addPaired_43 ?_
        refine lv_iload hx hb dX4_addPaired_46 (lv_at hl 2 rfl) ?_
        refine lv_iload hx hb dX4_addPaired_48 (lv_at hl 5 rfl) ?_
        refine lv_iadd hx hb dX4_addPaired_50 ?_
        refine lv_aload_n hx hb dX4_addPaired_51 rfl (lv_at hl 0 rfl) ?_
        refine va_get (D := G) (ci := 3) (v := .ref (qt 1)) (C := RX4) (T := TX4) (N := 8) hx hb hts inX4w hown hK hP 0 rfl rfl 0 (by decide) wd6 (fun _ h9 => h9) rfl dX4_addPaired_52 ?_
        refine lv_iload hx hb dX4_addPaired_55 (lv_at hl 2 rfl) ?_
        refine lv_iload hx hb dX4_addPaired_57 (lv_at hl 5 rfl) ?_
        refine lv_iadd hx hb dX4_addPaired_59 ?_
        obtain ⟨g2, hf⟩ := gd hf
        refine va_lald hx hb hK hP 1 1 rfl rfl g2 dX4_addPaired_60 ?_
        refine lv_iload_n hx hb dX4_addPaired_61 rfl (lv_at hl 1 rfl) ?_
        refine lv_i2l hx hb dX4_addPaired_62 rfl ?_
        refine lv_aload_n hx hb dX4_addPaired_63 rfl (lv_at hl 0 rfl) ?_
        refine va_get (D := G) (ci := 3) (v := .ref (qt 1)) (C := RX4) (T := TX4) (N := 8) hx hb hts inX4w hown hK hP 0 rfl rfl 0 (by decide) wd6 (fun _ h9 => h9) rfl dX4_addPaired_64 ?_
        refine lv_iload hx hb dX4_addPaired_67 (lv_at hl 3 rfl) ?_
        refine lv_iload hx hb dX4_addPaired_69 (lv_at hl 5 rfl) ?_
        refine lv_iadd hx hb dX4_addPaired_71 ?_
        refine lv_iconst (v := 1) hx hb dX4_addPaired_72 (by decide) ?_
        refine lv_isub hx hb dX4_addPaired_73 ?_
        obtain ⟨g3, hf⟩ := gd hf
        refine va_lald hx hb hK hP 1 1 rfl rfl g3 dX4_addPaired_74 ?_
        obtain ⟨r4, hc, hf⟩ := bd1 hf
        refine cl_l (ws' := [(qt 0, oX4 qt t_stamp t_age t_isTurned), (qt 1, .inl (Y 1, 28672, .inr (.inl b_t_worths))), (qt 2, .inl (Y 0, 4096, .inl t_longest))]) (wr := [(qt 0, oX4 qt t_stamp t_age t_isTurned), (qt 1, .inl (Y 1, 28672, .inr (.inl b_t_worths))), (qt 2, .inl (Y 0, 4096, .inl t_longest))]) (rnS (As := [.long p3.toInt64, .long (b_t_worths ((x5 + x7) - (1 : Int32)).toNatClampNeg)]) (rest := [.long (b_t_worths (x4 + x7).toNatClampNeg), .int (x4 + x7), .ref (qt 1)]) ⟨hx, hb, hml, hown, hts⟩ (c_X7_times l G Y H.size p3.toInt64 (b_t_worths ((x5 + x7) - (1 : Int32)).toNatClampNeg) r4 hc) (va_cwS 2 hts gX4_addPaired_X7_times rfl rfl rfl (by decide +kernel) ⟨(Nat.le_of_ble_eq_true rfl), (Nat.le_of_ble_eq_true rfl)⟩) trivial okT hK hP hD [] rfl rfl rfl hl.1 rfl (Nat.le_of_ble_eq_true rfl) dX4_addPaired_75) hP hD hS hA [] [0, 1, 2] [0, 1, 2] rfl rfl rfl (by decide) rfl rfl (fun H locs hP hD hS => ?_)
        obtain ⟨r5, hc, hf⟩ := bd1 hf
        refine cl_l (ws' := [(qt 0, oX4 qt t_stamp t_age t_isTurned), (qt 1, .inl (Y 1, 28672, .inr (.inl b_t_worths))), (qt 2, .inl (Y 0, 4096, .inl t_longest))]) (wr := [(qt 0, oX4 qt t_stamp t_age t_isTurned), (qt 1, .inl (Y 1, 28672, .inr (.inl b_t_worths))), (qt 2, .inl (Y 0, 4096, .inl t_longest))]) (rnS (As := [.long (b_t_worths (x4 + x7).toNatClampNeg), .long r4]) (rest := [.int (x4 + x7), .ref (qt 1)]) ⟨hx, hb, hml, hown, hts⟩ (c_X7_plus l G Y H.size (b_t_worths (x4 + x7).toNatClampNeg) r4 r5 hc) (va_cwS 2 hts gX4_addPaired_X7_plus rfl rfl rfl (by decide +kernel) ⟨(Nat.le_of_ble_eq_true rfl), (Nat.le_of_ble_eq_true rfl)⟩) trivial okT hK hP hD [] rfl rfl rfl hl.1 rfl (Nat.le_of_ble_eq_true rfl) dX4_addPaired_78) hP hD hS hA [] [0, 1, 2] [0, 1, 2] rfl rfl rfl (by decide) rfl rfl (fun H locs hP hD hS => ?_)
        obtain ⟨g6, hf⟩ := gd hf
        refine va_last hx hb hK hP hD hS 1 1 rfl rfl g6 dX4_addPaired_81 (fun H locs hP hD hS => ?_)
        obtain ⟨v7, e_v7⟩ : ∃ z : Nat → Int64, z = vp_updL b_t_worths (x4 + x7).toNatClampNeg r5 := ⟨_, rfl⟩
        have hf := nm_at hf e_v7
        have hP : va_P G vwCl [(qt 0, oX4 qt t_stamp t_age t_isTurned), (qt 1, .inl (Y 1, 28672, .inr (.inl v7))), (qt 2, .inl (Y 0, 4096, .inl t_longest))] H := by rw [e_v7]; exact hP
        have hD : va_D A [(qt 0, oX4 qt t_stamp t_age t_isTurned), (qt 1, .inl (Y 1, 28672, .inr (.inl v7))), (qt 2, .inl (Y 0, 4096, .inl t_longest))] := by rw [e_v7]; exact hD
        obtain ⟨v8, e_v8⟩ : ∃ z : Int32, z = (x7 + 1) := ⟨_, rfl⟩
        have hf := nm_at hf e_v8
        refine lv_iinc (v := v8) (lv' := [(7, .int v8), (0, .ref (qt 0)), (3, .int p3), (4, .int x4), (5, .int x5), (6, .int x6)]) hx hb dX4_addPaired_82 hl (k := 5) rfl (by rw [e_v8]; rfl) (by decide) rfl (fun ls hl => ?_)
        refine lv_goto (tgt := 35) hx hb dX4_addPaired_85 (by decide) ?_
        exact ih35 v7 x4 x5 x6 v8 hf _ _ hP hD hS ls (lv_sub hl [1, 2, 3, 4, 5, 0] rfl)
  have E0 : ∀ (H : Heap) (locs : List Loc), va_P G vwCl [(qt 0, oX4 qt t_stamp t_age t_isTurned), (qt 1, .inl (Y 1, 28672, .inr (.inl t_worths))), (qt 2, .inl (Y 0, 4096, .inl t_longest))] H → va_D A [(qt 0, oX4 qt t_stamp t_age t_isTurned), (qt 1, .inl (Y 1, 28672, .inr (.inl t_worths))), (qt 2, .inl (Y 0, 4096, .inl t_longest))] → va_S A s.heap H locs → ∀ (ls : Array Slot), lv_has ls 8 [(0, .ref (qt 0)), (1, .int p1), (2, .int p2), (3, .int p3)] → W p l e (headSpec wsX4_addPaired (rmk 1 23)).room s m [.ref (qt 0), .int p1, .int p2, .int p3].toArray below meth c H locs 0 0 (MQ below (va_Qv (fun (_ : Unit) => True) (Pst G (tys Y) [(qt 0, oX4 qt t_stamp t_age t_isTurned), (qt 1, .inl (Y 1, 28672, .inr (.inl t_worths))), (qt 2, .inl (Y 0, 4096, .inl t_longest))] s.heap.size [(qt 0, oX4 qt t_stamp t_age t_isTurned), (qt 1, .inl (Y 1, 28672, .inr (.inl o_t_worths))), (qt 2, .inl (Y 0, 4096, .inl t_longest))]) A) [.ref (qt 0), .int p1, .int p2, .int p3].toArray s 0 0 A) (F0 m 0 ls []) := by
    intro H locs hP hD hS ls hl
    unfold f_X4_addPaired at hf
    refine lv_iload_n hx hb dX4_addPaired_0 rfl (lv_at hl 3 rfl) ?_
    refine lv_if_ne (tgt := 5) hx hb dX4_addPaired_1 (by decide) (fun c9 => ?_) (fun c9 => ?_)
    · have hf := ie hf c9
      refine lv_iload_n hx hb dX4_addPaired_5 rfl (lv_at hl 1 rfl) ?_
      refine lv_bipush (v := 7) hx hb dX4_addPaired_6 (by decide) ?_
      refine lv_imul hx hb dX4_addPaired_8 ?_
      refine lv_topi (fun v10 e_v10 => ?_)
      have hf := nm_at hf e_v10
      refine lv_istore (lv' := [(4, .int v10), (0, .ref (qt 0)), (1, .int p1), (2, .int p2), (3, .int p3)]) hx hb dX4_addPaired_9 hl (by decide) rfl (fun ls hl => ?_)
      refine lv_iload_n hx hb dX4_addPaired_11 rfl (lv_at hl 3 rfl) ?_
      refine lv_bipush (v := 7) hx hb dX4_addPaired_12 (by decide) ?_
      refine lv_imul hx hb dX4_addPaired_14 ?_
      refine lv_topi (fun v11 e_v11 => ?_)
      have hf := nm_at hf e_v11
      refine lv_istore (lv' := [(5, .int v11), (4, .int v10), (0, .ref (qt 0)), (1, .int p1), (2, .int p2), (3, .int p3)]) hx hb dX4_addPaired_15 hl (by decide) rfl (fun ls hl => ?_)
      refine lv_aload_n hx hb dX4_addPaired_17 rfl (lv_at hl 2 rfl) ?_
      refine va_get (D := G) (ci := 3) (v := .ref (qt 2)) (C := RX4) (T := TX4) (N := 8) hx hb hts inX4w hown hK hP 0 rfl rfl 1 (by decide) wd1 (fun _ h9 => h9) rfl dX4_addPaired_18 ?_
      refine lv_iload_n hx hb dX4_addPaired_21 rfl (lv_at hl 4 rfl) ?_
      obtain ⟨g12, hf⟩ := gd hf
      refine va_iald hx hb hK hP 2 0 rfl rfl g12 dX4_addPaired_22 ?_
      refine lv_iconst (v := 1) hx hb dX4_addPaired_23 (by decide) ?_
      refine lv_iadd hx hb dX4_addPaired_24 ?_
      refine lv_bipush (v := 6) hx hb dX4_addPaired_25 (by decide) ?_
      refine va_mmin hx hb (hml.trans hl.1.symm) hown wd2 wd3 wd4 wd5 (Nat.le_of_ble_eq_true rfl) (Nat.le_of_ble_eq_true rfl) (Nat.zero_le _) (Nat.zero_le _) dX4_addPaired_27 ?_
      refine lv_topi (fun v13 e_v13 => ?_)
      have hf := nm_at hf e_v13
      refine lv_istore (lv' := [(6, .int v13), (5, .int v11), (4, .int v10), (0, .ref (qt 0)), (1, .int p1), (2, .int p2), (3, .int p3)]) hx hb dX4_addPaired_30 hl (by decide) rfl (fun ls hl => ?_)
      refine lv_iconst (v := 1) hx hb dX4_addPaired_32 (by decide) ?_
      refine lv_istore (lv' := [(7, .int (1 : Int32)), (6, .int v13), (5, .int v11), (4, .int v10), (0, .ref (qt 0)), (1, .int p1), (2, .int p2), (3, .int p3)]) hx hb dX4_addPaired_33 hl (by decide) rfl (fun ls hl => ?_)
      exact B35 70 t_worths v10 v11 v13 (1 : Int32) hf _ _ hP hD hS ls (lv_sub hl [4, 7, 3, 2, 1, 0] rfl)
    · have hf := it hf c9
      have e0 := rt1 hf
      have hP : va_P G vwCl [(qt 0, oX4 qt t_stamp t_age t_isTurned), (qt 1, .inl (Y 1, 28672, .inr (.inl o_t_worths))), (qt 2, .inl (Y 0, 4096, .inl t_longest))] H := by rw [← e0]; exact hP
      have hD : va_D A [(qt 0, oX4 qt t_stamp t_age t_isTurned), (qt 1, .inl (Y 1, 28672, .inr (.inl o_t_worths))), (qt 2, .inl (Y 0, 4096, .inl t_longest))] := by rw [← e0]; exact hD
      exact W.vret hx hb hr (fun t ht hW => ⟨⟨(), rfl, trivial, by rw [ht]; exact hP, va_K.moved hW.alike hK, by rw [hAe]; exact hD⟩, hS.F ht⟩) hS.2.2 dX4_addPaired_4
  exact E0 s.heap [] hP hD hS ls hl
-- X4_fill
set_option maxRecDepth 100000 in
set_option maxHeartbeats 4000000 in
theorem c_X4_fill (l : Launch) (G : va_G) (Y : Nat → ClassId) : ∀ (d : Nat) (sz : Nat) (qt : Nat → Nat) (t_worths : Nat → Int64) (t_longest : Nat → Int32) (t_stamps : Nat → Int32) (t_nears : Nat → Int32) (t_weights : Nat → Int32) (t_stamp : Int32) (t_age : Int32) (t_isTurned : Int32) (p1 : Int32) (p2 : Int32) (o_t_worths : Nat → Int64) (o_t_longest : Nat → Int32) (o_t_stamps : Nat → Int32) (hf : f_X4_fill d t_worths t_longest t_stamps t_nears t_weights t_stamp p1 p2 = some (o_t_worths, o_t_longest, o_t_stamps)), Met l yX4_fill wsX4_fill (rmk (2 + d) (60 + 29 * d)) (va_Pc [.ref (qt 0), .int p1, .int p2] (Pre G (tys Y) [(qt 0, oX4 qt t_stamp t_age t_isTurned), (qt 1, .inl (Y 1, 28672, .inr (.inl t_worths))), (qt 2, .inl (Y 0, 4096, .inl t_longest)), (qt 3, .inl (Y 0, 4096, .inl t_stamps)), (qt 4, .inl (Y 0, 12, .inl t_nears)), (qt 5, .inl (Y 0, 144, .inl t_weights))] sz xT)) (va_Qv (fun (_ : Unit) => True) (Pst G (tys Y) [(qt 0, oX4 qt t_stamp t_age t_isTurned), (qt 1, .inl (Y 1, 28672, .inr (.inl t_worths))), (qt 2, .inl (Y 0, 4096, .inl t_longest)), (qt 3, .inl (Y 0, 4096, .inl t_stamps)), (qt 4, .inl (Y 0, 12, .inl t_nears)), (qt 5, .inl (Y 0, 144, .inl t_weights))] sz [(qt 0, oX4 qt t_stamp t_age t_isTurned), (qt 1, .inl (Y 1, 28672, .inr (.inl o_t_worths))), (qt 2, .inl (Y 0, 4096, .inl o_t_longest)), (qt 3, .inl (Y 0, 4096, .inl o_t_stamps)), (qt 4, .inl (Y 0, 12, .inl t_nears)), (qt 5, .inl (Y 0, 144, .inl t_weights))]) (va_A [(qt 0, oX4 qt t_stamp t_age t_isTurned), (qt 1, .inl (Y 1, 28672, .inr (.inl t_worths))), (qt 2, .inl (Y 0, 4096, .inl t_longest)), (qt 3, .inl (Y 0, 4096, .inl t_stamps)), (qt 4, .inl (Y 0, 12, .inl t_nears)), (qt 5, .inl (Y 0, 144, .inl t_weights))] sz)) 0 0 (va_A [(qt 0, oX4 qt t_stamp t_age t_isTurned), (qt 1, .inl (Y 1, 28672, .inr (.inl t_worths))), (qt 2, .inl (Y 0, 4096, .inl t_longest)), (qt 3, .inl (Y 0, 4096, .inl t_stamps)), (qt 4, .inl (Y 0, 12, .inl t_nears)), (qt 5, .inl (Y 0, 144, .inl t_weights))] sz) := by
  intro d
  induction d with
  | zero =>
    intro sz qt t_worths t_longest t_stamps t_nears t_weights t_stamp t_age t_isTurned p1 p2 o_t_worths o_t_longest o_t_stamps hf
    exact no_none hf
  | succ d ihd =>
  intro sz qt t_worths t_longest t_stamps t_nears t_weights t_stamp t_age t_isTurned p1 p2 o_t_worths o_t_longest o_t_stamps hf
  have hf : f_X4_fill_st (f_X4_fill d) t_worths t_longest t_stamps t_nears t_weights t_stamp p1 p2 = some (o_t_worths, o_t_longest, o_t_stamps) := hf
  refine Met.ofW (cc := cX4_fill) (maxL := 10) (ret := none) (by decide) rfl ?_
  intro p e s m args below meth c s₁ B hml hv
  obtain ⟨rfl, hsz, hP, hK, hD0, hX⟩ := hv
  have hx := B.exec
  have hb := B.bytes
  have hr := B.returns
  have hts := atoms_spec (ws := wsX4_fill) B.pre
  have hown : s.vm.findClass RX4 = some m.cls := findClass_of_methodNamed B.named
  have hlocks := B.notSynchronized
  subst hsz
  have hD := hD0.self (sz := s.heap.size)
  generalize hAe : va_A [(qt 0, oX4 qt t_stamp t_age t_isTurned), (qt 1, .inl (Y 1, 28672, .inr (.inl t_worths))), (qt 2, .inl (Y 0, 4096, .inl t_longest)), (qt 3, .inl (Y 0, 4096, .inl t_stamps)), (qt 4, .inl (Y 0, 12, .inl t_nears)), (qt 5, .inl (Y 0, 144, .inl t_weights))] s.heap.size = A at hD ⊢
  have hA : ∀ q : Nat, s.heap.size ≤ q → A q := fun q h => by rw [← hAe]; exact Or.inr h
  have hS : va_S A s.heap s.heap [] := va_S.rf
  have hP : va_P G vwCl [(qt 0, oX4 qt t_stamp t_age t_isTurned), (qt 1, .inl (Y 1, 28672, .inr (.inl t_worths))), (qt 2, .inl (Y 0, 4096, .inl t_longest)), (qt 3, .inl (Y 0, 4096, .inl t_stamps)), (qt 4, .inl (Y 0, 12, .inl t_nears)), (qt 5, .inl (Y 0, 144, .inl t_weights))] s.heap := hP
  have wd1 : (Cond.fieldLink RX4 19 "PairedLines$Table" "stamps" "[I").before [.ref (qt 0), .int p1, .int p2].toArray s = true := hts _ (List.mem_of_getElem? (i := 1) rfl)
  have wd2 : (Cond.fieldLink RX4 28 "PairedLines$Table" "stamp" "I").before [.ref (qt 0), .int p1, .int p2].toArray s = true := hts _ (List.mem_of_getElem? (i := 2) rfl)
  have wd3 : (Cond.fieldLink RX4 9 "PairedLines$Table" "worths" "[J").before [.ref (qt 0), .int p1, .int p2].toArray s = true := hts _ (List.mem_of_getElem? (i := 3) rfl)
  have wd4 : (Cond.methodLink RX4 61 arraycopyName).before [.ref (qt 0), .int p1, .int p2].toArray s = true := hts _ (List.mem_of_getElem? (i := 4) rfl)
  have wd5 : (Cond.native arraycopyName).before [.ref (qt 0), .int p1, .int p2].toArray s = true := hts _ (List.mem_of_getElem? (i := 5) rfl)
  have wd6 : (Cond.static arraycopyName).before [.ref (qt 0), .int p1, .int p2].toArray s = true := hts _ (List.mem_of_getElem? (i := 6) rfl)
  have wd7 : (Cond.initialized "java/lang/System").before [.ref (qt 0), .int p1, .int p2].toArray s = true := hts _ (List.mem_of_getElem? (i := 7) rfl)
  have wd8 : (Cond.fieldLink RX4 15 "PairedLines$Table" "longest" "[I").before [.ref (qt 0), .int p1, .int p2].toArray s = true := hts _ (List.mem_of_getElem? (i := 8) rfl)
  have wd9 : (Cond.fieldLink RX4 22 "PairedLines$Table" "nears" "[I").before [.ref (qt 0), .int p1, .int p2].toArray s = true := hts _ (List.mem_of_getElem? (i := 9) rfl)
  have wd10 : (Cond.fieldLink RX4 25 "PairedLines$Table" "weights" "[I").before [.ref (qt 0), .int p1, .int p2].toArray s = true := hts _ (List.mem_of_getElem? (i := 10) rfl)
  have wd11 : (Cond.methodLink RX4 71 Lib.Math.max.name).before [.ref (qt 0), .int p1, .int p2].toArray s = true := hts _ (List.mem_of_getElem? (i := 11) rfl)
  have wd12 : (Cond.static Lib.Math.max.name).before [.ref (qt 0), .int p1, .int p2].toArray s = true := hts _ (List.mem_of_getElem? (i := 12) rfl)
  have wd13 : (Cond.initialized "java/lang/Math").before [.ref (qt 0), .int p1, .int p2].toArray s = true := hts _ (List.mem_of_getElem? (i := 13) rfl)
  have wd14 : (Cond.code Lib.Math.max.name Lib.Math.max.code 2 (some .int)).before [.ref (qt 0), .int p1, .int p2].toArray s = true := hts _ (List.mem_of_getElem? (i := 14) rfl)
  have inX4w : ∀ w ∈ u_ws RX4 TX4 8, w ∈ wsX4_fill := fun w hw => List.mem_cons_of_mem _ (List.mem_append_right _ (hw))
  have hl := lv_entry ([.ref (qt 0), .int p1, .int p2]) (n := 10) (Nat.le_of_ble_eq_true rfl)
  rw [lg_entry_eq]
  generalize (lg_sl ([.ref (qt 0), .int p1, .int p2]) ++ List.replicate (10 - (lg_sl ([.ref (qt 0), .int p1, .int p2])).length) Slot.unset).toArray = ls at hl ⊢
  have hl : lv_has ls 10 [(0, .ref (qt 0)), (1, .int p1), (2, .int p2)] := hl
  have B127 : ∀ (n127 : Nat), ∀ (b_t_worths : Nat → Int64) (b_t_longest : Nat → Int32) (b_t_stamps : Nat → Int32) (x5 : Int32) (x6 : Int32) (x7 : Int32) (x8 : Int32), f_X4_fill_b127 (f_X4_fill d) t_nears t_weights t_stamp p1 p2 n127 b_t_worths b_t_longest b_t_stamps x5 x6 x7 x8 = some (o_t_worths, o_t_longest, o_t_stamps) → ∀ (H : Heap) (locs : List Loc), va_P G vwCl [(qt 0, oX4 qt t_stamp t_age t_isTurned), (qt 1, .inl (Y 1, 28672, .inr (.inl b_t_worths))), (qt 2, .inl (Y 0, 4096, .inl b_t_longest)), (qt 3, .inl (Y 0, 4096, .inl b_t_stamps)), (qt 4, .inl (Y 0, 12, .inl t_nears)), (qt 5, .inl (Y 0, 144, .inl t_weights))] H → va_D A [(qt 0, oX4 qt t_stamp t_age t_isTurned), (qt 1, .inl (Y 1, 28672, .inr (.inl b_t_worths))), (qt 2, .inl (Y 0, 4096, .inl b_t_longest)), (qt 3, .inl (Y 0, 4096, .inl b_t_stamps)), (qt 4, .inl (Y 0, 12, .inl t_nears)), (qt 5, .inl (Y 0, 144, .inl t_weights))] → va_S A s.heap H locs → ∀ (ls : Array Slot), lv_has ls 10 [(0, .ref (qt 0)), (1, .int p1), (2, .int p2), (5, .int x5), (6, .int x6), (7, .int x7), (8, .int x8)] → W p l e (headSpec wsX4_fill (rmk (2 + (d + 1)) (60 + 29 * (d + 1)))).room s m [.ref (qt 0), .int p1, .int p2].toArray below meth c H locs 0 0 (MQ below (va_Qv (fun (_ : Unit) => True) (Pst G (tys Y) [(qt 0, oX4 qt t_stamp t_age t_isTurned), (qt 1, .inl (Y 1, 28672, .inr (.inl t_worths))), (qt 2, .inl (Y 0, 4096, .inl t_longest)), (qt 3, .inl (Y 0, 4096, .inl t_stamps)), (qt 4, .inl (Y 0, 12, .inl t_nears)), (qt 5, .inl (Y 0, 144, .inl t_weights))] s.heap.size [(qt 0, oX4 qt t_stamp t_age t_isTurned), (qt 1, .inl (Y 1, 28672, .inr (.inl o_t_worths))), (qt 2, .inl (Y 0, 4096, .inl o_t_longest)), (qt 3, .inl (Y 0, 4096, .inl o_t_stamps)), (qt 4, .inl (Y 0, 12, .inl t_nears)), (qt 5, .inl (Y 0, 144, .inl t_weights))]) A) [.ref (qt 0), .int p1, .int p2].toArray s 0 0 A) (F0 m 127 ls []) := by
    intro n127
    induction n127 with
    | zero =>
      intro b_t_worths b_t_longest b_t_stamps x5 x6 x7 x8 hf H locs hP hD hS ls hl
      exact no_none hf
    | succ n127 ih127 =>
      intro b_t_worths b_t_longest b_t_stamps x5 x6 x7 x8 hf H locs hP hD hS ls hl
      have hf : f_X4_fill_s127 (f_X4_fill d) t_nears t_weights t_stamp p1 p2 (f_X4_fill_b127 (f_X4_fill d) t_nears t_weights t_stamp p1 p2  n127) b_t_worths b_t_longest b_t_stamps x5 x6 x7 x8 = some (o_t_worths, o_t_longest, o_t_stamps) := hf
      unfold f_X4_fill_s127 at hf
      refine lv_iload hx hb dX4_fill_127 (lv_at hl 6 rfl) ?_
      refine lv_bipush (v := 12) hx hb dX4_fill_129 (by decide) ?_
      refine lv_icmp_ge (tgt := 212) hx hb dX4_fill_131 (by decide) (fun c1 => ?_) (fun c1 => ?_)
      · have hf := it hf c1
        obtain ⟨e0, e1, e2⟩ := rt3 hf
        have hP : va_P G vwCl [(qt 0, oX4 qt t_stamp t_age t_isTurned), (qt 1, .inl (Y 1, 28672, .inr (.inl o_t_worths))), (qt 2, .inl (Y 0, 4096, .inl o_t_longest)), (qt 3, .inl (Y 0, 4096, .inl o_t_stamps)), (qt 4, .inl (Y 0, 12, .inl t_nears)), (qt 5, .inl (Y 0, 144, .inl t_weights))] H := by rw [← e0, ← e1, ← e2]; exact hP
        have hD : va_D A [(qt 0, oX4 qt t_stamp t_age t_isTurned), (qt 1, .inl (Y 1, 28672, .inr (.inl o_t_worths))), (qt 2, .inl (Y 0, 4096, .inl o_t_longest)), (qt 3, .inl (Y 0, 4096, .inl o_t_stamps)), (qt 4, .inl (Y 0, 12, .inl t_nears)), (qt 5, .inl (Y 0, 144, .inl t_weights))] := by rw [← e0, ← e1, ← e2]; exact hD
        exact W.vret hx hb hr (fun t ht hW => ⟨⟨(), rfl, trivial, by rw [ht]; exact hP, va_K.moved hW.alike hK, by rw [hAe]; exact hD⟩, hS.F ht⟩) hS.2.2 dX4_fill_212
      · have hf := ie hf c1
        refine lv_iload hx hb dX4_fill_134 (lv_at hl 5 rfl) ?_
        refine lv_iload hx hb dX4_fill_136 (lv_at hl 6 rfl) ?_
        refine lv_ishr hx hb dX4_fill_138 ?_
        refine lv_iconst (v := 1) hx hb dX4_fill_139 (by decide) ?_
        refine lv_iand hx hb dX4_fill_140 ?_
        refine lv_if_eq (tgt := 206) hx hb dX4_fill_141 (by decide) (fun c2 => ?_) (fun c2 => ?_)
        · have hf := it hf c2
          obtain ⟨v3, e_v3⟩ : ∃ z : Int32, z = (x8 + 1) := ⟨_, rfl⟩
          have hf := nm_at hf e_v3
          refine lv_iinc (v := v3) (lv' := [(8, .int v3), (0, .ref (qt 0)), (1, .int p1), (2, .int p2), (5, .int x5), (6, .int x6), (7, .int x7)]) hx hb dX4_fill_206 hl (k := 6) rfl (by rw [e_v3]; rfl) (by decide) rfl (fun ls hl => ?_)
          refine lv_goto (tgt := 127) hx hb dX4_fill_209 (by decide) ?_
          exact ih127 b_t_worths b_t_longest b_t_stamps x5 x6 x7 v3 hf _ _ hP hD hS ls (lv_sub hl [1, 2, 3, 4, 5, 6, 0] rfl)
        · have hf := ie hf c2
          refine lv_iload hx hb dX4_fill_144 (lv_at hl 4 rfl) ?_
          refine lv_iconst (v := 1) hx hb dX4_fill_146 (by decide) ?_
          refine lv_iload hx hb dX4_fill_147 (lv_at hl 6 rfl) ?_
          refine lv_ishl hx hb dX4_fill_149 ?_
          refine lv_ixor hx hb dX4_fill_150 ?_
          refine lv_topi (fun v4 e_v4 => ?_)
          have hf := nm_at hf e_v4
          refine lv_istore (lv' := [(9, .int v4), (0, .ref (qt 0)), (1, .int p1), (2, .int p2), (5, .int x5), (6, .int x6), (7, .int x7), (8, .int x8)]) hx hb dX4_fill_151 hl (by decide) rfl (fun ls hl => ?_)
          refine lv_aload_n hx hb dX4_fill_153 rfl (lv_at hl 1 rfl) ?_
          refine lv_iload hx hb dX4_fill_154 (lv_at hl 0 rfl) ?_
          refine lv_iload_n hx hb dX4_fill_156 rfl (lv_at hl 3 rfl) ?_
          refine lv_iconst (v := 1) hx hb dX4_fill_157 (by decide) ?_
          refine lv_iadd hx hb dX4_fill_158 ?_
          obtain ⟨w5, w6, w7, hc, hf⟩ := bd3 hf
          refine cl_v (ws' := [(qt 0, oX4 qt t_stamp t_age t_isTurned), (qt 1, .inl (Y 1, 28672, .inr (.inl w5))), (qt 2, .inl (Y 0, 4096, .inl w6)), (qt 3, .inl (Y 0, 4096, .inl w7)), (qt 4, .inl (Y 0, 12, .inl t_nears)), (qt 5, .inl (Y 0, 144, .inl t_weights))]) (wr := []) (rnV (As := [.int v4, .int (p2 + (1 : Int32))]) (rest := []) ⟨hx, hb, hml, hown, hts⟩ (ihd H.size qt b_t_worths b_t_longest b_t_stamps t_nears t_weights t_stamp t_age t_isTurned v4 (p2 + (1 : Int32)) w5 w6 w7 hc) (cwV 2 hts gX4_fill_X4_fill rfl rfl rfl (by decide +kernel) ⟨by show _ + _ + 1 ≤ _ + (_ + 1); omega, by show 8 + (_ + 11) + (_ + _ * _) ≤ _ + _ * (_ + 1); omega⟩) trivial okT hK hP hD [0, 1, 2, 3, 4, 5] rfl rfl (ci := 3) (q0 := 0) rfl rfl rfl rfl hl.1 rfl (Nat.le_of_ble_eq_true rfl) dX4_fill_159) hP hD hS hA [0, 1, 2, 3, 4, 5] [] [0, 1, 2, 3, 4, 5] rfl rfl rfl (by decide) rfl rfl (fun H locs hP hD hS => ?_)
          refine lv_aload_n hx hb dX4_fill_162 rfl (lv_at hl 1 rfl) ?_
          refine lv_iload_n hx hb dX4_fill_163 rfl (lv_at hl 2 rfl) ?_
          refine lv_iload hx hb dX4_fill_164 (lv_at hl 0 rfl) ?_
          refine lv_aload_n hx hb dX4_fill_166 rfl (lv_at hl 1 rfl) ?_
          refine va_get (D := G) (ci := 3) (v := .ref (qt 5)) (C := RX4) (T := TX4) (N := 8) hx hb hts inX4w hown hK hP 0 rfl rfl 4 (by decide) wd10 (fun _ h9 => h9) rfl dX4_fill_167 ?_
          refine lv_iload hx hb dX4_fill_170 (lv_at hl 4 rfl) ?_
          refine lv_bipush (v := 12) hx hb dX4_fill_172 (by decide) ?_
          refine lv_imul hx hb dX4_fill_174 ?_
          refine lv_iload hx hb dX4_fill_175 (lv_at hl 7 rfl) ?_
          refine lv_iadd hx hb dX4_fill_177 ?_
          obtain ⟨g8, hf⟩ := gd hf
          refine va_iald hx hb hK hP 5 0 rfl rfl g8 dX4_fill_178 ?_
          obtain ⟨w9, hc, hf⟩ := bd1 hf
          refine cl_v (ws' := [(qt 0, oX4 qt t_stamp t_age t_isTurned), (qt 1, .inl (Y 1, 28672, .inr (.inl w9))), (qt 2, .inl (Y 0, 4096, .inl w6)), (qt 3, .inl (Y 0, 4096, .inl w7)), (qt 4, .inl (Y 0, 12, .inl t_nears)), (qt 5, .inl (Y 0, 144, .inl t_weights))]) (wr := [(qt 3, .inl (Y 0, 4096, .inl w7)), (qt 4, .inl (Y 0, 12, .inl t_nears)), (qt 5, .inl (Y 0, 144, .inl t_weights))]) (rnV (As := [.int p1, .int v4, .int (t_weights ((x5 * (12 : Int32)) + x8).toNatClampNeg)]) (rest := []) ⟨hx, hb, hml, hown, hts⟩ (c_X4_addPaired l G Y H.size qt w5 w6 t_stamp t_age t_isTurned p1 v4 (t_weights ((x5 * (12 : Int32)) + x8).toNatClampNeg) w9 hc) (cwV 3 hts gX4_fill_X4_addPaired rfl rfl rfl (by decide +kernel) ⟨(by first | exact Nat.le_of_ble_eq_true rfl | (show _ ≤ _ + _; simp only [List.map, List.sum_cons, List.sum_nil]; omega) | (simp [headSpec, rmk]; omega)), (by first | exact Nat.le_of_ble_eq_true rfl | (show _ ≤ _ + _; simp only [List.map, List.sum_cons, List.sum_nil]; omega) | (simp [headSpec, rmk]; omega))⟩) trivial okT hK hP hD [0, 1, 2] rfl rfl (ci := 3) (q0 := 0) rfl rfl rfl rfl hl.1 rfl (Nat.le_of_ble_eq_true rfl) dX4_fill_179) hP hD hS hA [0, 1, 2] [3, 4, 5] [3, 4, 5, 0, 1, 2] rfl rfl rfl (by decide) rfl rfl (fun H locs hP hD hS => ?_)
          refine lv_aload_n hx hb dX4_fill_182 rfl (lv_at hl 1 rfl) ?_
          refine va_get (D := G) (ci := 3) (v := .ref (qt 2)) (C := RX4) (T := TX4) (N := 8) hx hb hts inX4w hown hK hP 0 rfl rfl 1 (by decide) wd8 (fun _ h9 => h9) rfl dX4_fill_183 ?_
          refine lv_iload_n hx hb dX4_fill_186 rfl (lv_at hl 2 rfl) ?_
          refine lv_aload_n hx hb dX4_fill_187 rfl (lv_at hl 1 rfl) ?_
          refine va_get (D := G) (ci := 3) (v := .ref (qt 2)) (C := RX4) (T := TX4) (N := 8) hx hb hts inX4w hown hK hP 0 rfl rfl 1 (by decide) wd8 (fun _ h9 => h9) rfl dX4_fill_188 ?_
          refine lv_iload_n hx hb dX4_fill_191 rfl (lv_at hl 2 rfl) ?_
          obtain ⟨g10, hf⟩ := gd hf
          refine va_iald hx hb hK hP 2 0 rfl rfl g10 dX4_fill_192 ?_
          refine lv_aload_n hx hb dX4_fill_193 rfl (lv_at hl 1 rfl) ?_
          refine va_get (D := G) (ci := 3) (v := .ref (qt 2)) (C := RX4) (T := TX4) (N := 8) hx hb hts inX4w hown hK hP 0 rfl rfl 1 (by decide) wd8 (fun _ h9 => h9) rfl dX4_fill_194 ?_
          refine lv_iload hx hb dX4_fill_197 (lv_at hl 0 rfl) ?_
          obtain ⟨g11, hf⟩ := gd hf
          refine va_iald hx hb hK hP 2 0 rfl rfl g11 dX4_fill_199 ?_
          refine lv_iconst (v := 1) hx hb dX4_fill_200 (by decide) ?_
          refine lv_iadd hx hb dX4_fill_201 ?_
          refine va_mmax hx hb (hml.trans hl.1.symm) hown wd11 wd12 wd13 wd14 (by first | exact Nat.le_of_ble_eq_true rfl | (show _ ≤ _ + _; simp only [List.map, List.sum_cons, List.sum_nil]; omega) | (simp [headSpec, rmk]; omega)) (by first | exact Nat.le_of_ble_eq_true rfl | (show _ ≤ _ + _; simp only [List.map, List.sum_cons, List.sum_nil]; omega) | (simp [headSpec, rmk]; omega)) (Nat.zero_le _) (Nat.zero_le _) dX4_fill_202 ?_
          obtain ⟨g12, hf⟩ := gd hf
          refine va_iast hx hb hK hP hD hS 2 0 rfl rfl g12 dX4_fill_205 (fun H locs hP hD hS => ?_)
          obtain ⟨v13, e_v13⟩ : ∃ z : Nat → Int32, z = upd w6 p1.toNatClampNeg (if (w6 p1.toNatClampNeg) < ((w6 v4.toNatClampNeg) + (1 : Int32)) then ((w6 v4.toNatClampNeg) + (1 : Int32)) else (w6 p1.toNatClampNeg)) := ⟨_, rfl⟩
          have hf := nm_at hf e_v13
          have hP : va_P G vwCl [(qt 0, oX4 qt t_stamp t_age t_isTurned), (qt 1, .inl (Y 1, 28672, .inr (.inl w9))), (qt 2, .inl (Y 0, 4096, .inl v13)), (qt 3, .inl (Y 0, 4096, .inl w7)), (qt 4, .inl (Y 0, 12, .inl t_nears)), (qt 5, .inl (Y 0, 144, .inl t_weights))] H := by rw [e_v13]; exact hP
          have hD : va_D A [(qt 0, oX4 qt t_stamp t_age t_isTurned), (qt 1, .inl (Y 1, 28672, .inr (.inl w9))), (qt 2, .inl (Y 0, 4096, .inl v13)), (qt 3, .inl (Y 0, 4096, .inl w7)), (qt 4, .inl (Y 0, 12, .inl t_nears)), (qt 5, .inl (Y 0, 144, .inl t_weights))] := by rw [e_v13]; exact hD
          obtain ⟨v14, e_v14⟩ : ∃ z : Int32, z = (x8 + 1) := ⟨_, rfl⟩
          have hf := nm_at hf e_v14
          refine lv_iinc (v := v14) (lv' := [(8, .int v14), (9, .int v4), (0, .ref (qt 0)), (1, .int p1), (2, .int p2), (5, .int x5), (6, .int x6), (7, .int x7)]) hx hb dX4_fill_206 hl (k := 7) rfl (by rw [e_v14]; rfl) (by decide) rfl (fun ls hl => ?_)
          refine lv_goto (tgt := 127) hx hb dX4_fill_209 (by decide) ?_
          exact ih127 w9 v13 w7 x5 x6 x7 v14 hf _ _ hP hD hS ls (lv_sub hl [2, 3, 4, 5, 6, 7, 0] rfl)
  have E0 : ∀ (H : Heap) (locs : List Loc), va_P G vwCl [(qt 0, oX4 qt t_stamp t_age t_isTurned), (qt 1, .inl (Y 1, 28672, .inr (.inl t_worths))), (qt 2, .inl (Y 0, 4096, .inl t_longest)), (qt 3, .inl (Y 0, 4096, .inl t_stamps)), (qt 4, .inl (Y 0, 12, .inl t_nears)), (qt 5, .inl (Y 0, 144, .inl t_weights))] H → va_D A [(qt 0, oX4 qt t_stamp t_age t_isTurned), (qt 1, .inl (Y 1, 28672, .inr (.inl t_worths))), (qt 2, .inl (Y 0, 4096, .inl t_longest)), (qt 3, .inl (Y 0, 4096, .inl t_stamps)), (qt 4, .inl (Y 0, 12, .inl t_nears)), (qt 5, .inl (Y 0, 144, .inl t_weights))] → va_S A s.heap H locs → ∀ (ls : Array Slot), lv_has ls 10 [(0, .ref (qt 0)), (1, .int p1), (2, .int p2)] → W p l e (headSpec wsX4_fill (rmk (2 + (d + 1)) (60 + 29 * (d + 1)))).room s m [.ref (qt 0), .int p1, .int p2].toArray below meth c H locs 0 0 (MQ below (va_Qv (fun (_ : Unit) => True) (Pst G (tys Y) [(qt 0, oX4 qt t_stamp t_age t_isTurned), (qt 1, .inl (Y 1, 28672, .inr (.inl t_worths))), (qt 2, .inl (Y 0, 4096, .inl t_longest)), (qt 3, .inl (Y 0, 4096, .inl t_stamps)), (qt 4, .inl (Y 0, 12, .inl t_nears)), (qt 5, .inl (Y 0, 144, .inl t_weights))] s.heap.size [(qt 0, oX4 qt t_stamp t_age t_isTurned), (qt 1, .inl (Y 1, 28672, .inr (.inl o_t_worths))), (qt 2, .inl (Y 0, 4096, .inl o_t_longest)), (qt 3, .inl (Y 0, 4096, .inl o_t_stamps)), (qt 4, .inl (Y 0, 12, .inl t_nears)), (qt 5, .inl (Y 0, 144, .inl t_weights))]) A) [.ref (qt 0), .int p1, .int p2].toArray s 0 0 A) (F0 m 0 ls []) := by
    intro H locs hP hD hS ls hl
    unfold f_X4_fill_st at hf
    refine lv_aload_n hx hb dX4_fill_0 rfl (lv_at hl 0 rfl) ?_
    refine va_get (D := G) (ci := 3) (v := .ref (qt 3)) (C := RX4) (T := TX4) (N := 8) hx hb hts inX4w hown hK hP 0 rfl rfl 2 (by decide) wd1 (fun _ h9 => h9) rfl dX4_fill_1 ?_
    refine lv_iload_n hx hb dX4_fill_4 rfl (lv_at hl 1 rfl) ?_
    obtain ⟨g15, hf⟩ := gd hf
    refine va_iald hx hb hK hP 3 0 rfl rfl g15 dX4_fill_5 ?_
    refine lv_aload_n hx hb dX4_fill_6 rfl (lv_at hl 0 rfl) ?_
    refine va_get (D := G) (ci := 3) (v := .int t_stamp) (C := RX4) (T := TX4) (N := 8) hx hb hts inX4w hown hK hP 0 rfl rfl 5 (by decide) wd2 (fun _ h9 => h9) rfl dX4_fill_7 ?_
    refine lv_icmp_eq (tgt := 19) hx hb dX4_fill_10 (by decide) (fun c16 => ?_) (fun c16 => ?_)
    · have hf := it hf c16
      obtain ⟨e0, e1, e2⟩ := rt3 hf
      have hP : va_P G vwCl [(qt 0, oX4 qt t_stamp t_age t_isTurned), (qt 1, .inl (Y 1, 28672, .inr (.inl o_t_worths))), (qt 2, .inl (Y 0, 4096, .inl o_t_longest)), (qt 3, .inl (Y 0, 4096, .inl o_t_stamps)), (qt 4, .inl (Y 0, 12, .inl t_nears)), (qt 5, .inl (Y 0, 144, .inl t_weights))] H := by rw [← e0, ← e1, ← e2]; exact hP
      have hD : va_D A [(qt 0, oX4 qt t_stamp t_age t_isTurned), (qt 1, .inl (Y 1, 28672, .inr (.inl o_t_worths))), (qt 2, .inl (Y 0, 4096, .inl o_t_longest)), (qt 3, .inl (Y 0, 4096, .inl o_t_stamps)), (qt 4, .inl (Y 0, 12, .inl t_nears)), (qt 5, .inl (Y 0, 144, .inl t_weights))] := by rw [← e0, ← e1, ← e2]; exact hD
      exact W.vret hx hb hr (fun t ht hW => ⟨⟨(), rfl, trivial, by rw [ht]; exact hP, va_K.moved hW.alike hK, by rw [hAe]; exact hD⟩, hS.F ht⟩) hS.2.2 dX4_fill_19
    · have hf := ie hf c16
      refine lv_iload_n hx hb dX4_fill_13 rfl (lv_at hl 2 rfl) ?_
      refine lv_bipush (v := 12) hx hb dX4_fill_14 (by decide) ?_
      refine lv_icmp_le (tgt := 20) hx hb dX4_fill_16 (by decide) (fun c17 => ?_) (fun c17 => ?_)
      · have hf := it hf c17
        refine lv_aload_n hx hb dX4_fill_20 rfl (lv_at hl 0 rfl) ?_
        refine va_get (D := G) (ci := 3) (v := .ref (qt 3)) (C := RX4) (T := TX4) (N := 8) hx hb hts inX4w hown hK hP 0 rfl rfl 2 (by decide) wd1 (fun _ h9 => h9) rfl dX4_fill_21 ?_
        refine lv_iload_n hx hb dX4_fill_24 rfl (lv_at hl 1 rfl) ?_
        refine lv_aload_n hx hb dX4_fill_25 rfl (lv_at hl 0 rfl) ?_
        refine va_get (D := G) (ci := 3) (v := .int t_stamp) (C := RX4) (T := TX4) (N := 8) hx hb hts inX4w hown hK hP 0 rfl rfl 5 (by decide) wd2 (fun _ h9 => h9) rfl dX4_fill_26 ?_
        obtain ⟨g18, hf⟩ := gd hf
        refine va_iast hx hb hK hP hD hS 3 0 rfl rfl g18 dX4_fill_29 (fun H locs hP hD hS => ?_)
        obtain ⟨v19, e_v19⟩ : ∃ z : Nat → Int32, z = upd t_stamps p1.toNatClampNeg t_stamp := ⟨_, rfl⟩
        have hf := nm_at hf e_v19
        have hP : va_P G vwCl [(qt 0, oX4 qt t_stamp t_age t_isTurned), (qt 1, .inl (Y 1, 28672, .inr (.inl t_worths))), (qt 2, .inl (Y 0, 4096, .inl t_longest)), (qt 3, .inl (Y 0, 4096, .inl v19)), (qt 4, .inl (Y 0, 12, .inl t_nears)), (qt 5, .inl (Y 0, 144, .inl t_weights))] H := by rw [e_v19]; exact hP
        have hD : va_D A [(qt 0, oX4 qt t_stamp t_age t_isTurned), (qt 1, .inl (Y 1, 28672, .inr (.inl t_worths))), (qt 2, .inl (Y 0, 4096, .inl t_longest)), (qt 3, .inl (Y 0, 4096, .inl v19)), (qt 4, .inl (Y 0, 12, .inl t_nears)), (qt 5, .inl (Y 0, 144, .inl t_weights))] := by rw [e_v19]; exact hD
        refine lv_iload_n hx hb dX4_fill_30 rfl (lv_at hl 1 rfl) ?_
        refine lv_bipush (v := 7) hx hb dX4_fill_31 (by decide) ?_
        refine lv_imul hx hb dX4_fill_33 ?_
        refine lv_topi (fun v20 e_v20 => ?_)
        have hf := nm_at hf e_v20
        refine lv_istore_n (lv' := [(3, .int v20), (0, .ref (qt 0)), (1, .int p1), (2, .int p2)]) hx hb dX4_fill_34 rfl hl (by decide) rfl (fun ls hl => ?_)
        refine lv_iload_n hx hb dX4_fill_35 rfl (lv_at hl 2 rfl) ?_
        refine lv_if_ne (tgt := 47) hx hb dX4_fill_36 (by decide) (fun c21 => ?_) (fun c21 => ?_)
        · have hf := ie hf c21
          refine lv_iload_n hx hb dX4_fill_47 rfl (lv_at hl 2 rfl) ?_
          refine lv_iload_n hx hb dX4_fill_48 rfl (lv_at hl 2 rfl) ?_
          refine lv_ineg hx hb dX4_fill_49 ?_
          refine lv_iand hx hb dX4_fill_50 ?_
          refine lv_topi (fun v22 e_v22 => ?_)
          have hf := nm_at hf e_v22
          refine lv_istore (lv' := [(4, .int v22), (3, .int v20), (0, .ref (qt 0)), (1, .int p1), (2, .int p2)]) hx hb dX4_fill_51 hl (by decide) rfl (fun ls hl => ?_)
          refine lv_iload hx hb dX4_fill_53 (lv_at hl 0 rfl) ?_
          refine lv_iconst (v := 1) hx hb dX4_fill_55 (by decide) ?_
          refine lv_isub hx hb dX4_fill_56 ?_
          obtain ⟨r23, hc, hf⟩ := bd1 hf
          refine cl_i (ws' := [(qt 0, oX4 qt t_stamp t_age t_isTurned), (qt 1, .inl (Y 1, 28672, .inr (.inl t_worths))), (qt 2, .inl (Y 0, 4096, .inl t_longest)), (qt 3, .inl (Y 0, 4096, .inl v19)), (qt 4, .inl (Y 0, 12, .inl t_nears)), (qt 5, .inl (Y 0, 144, .inl t_weights))]) (wr := [(qt 0, oX4 qt t_stamp t_age t_isTurned), (qt 1, .inl (Y 1, 28672, .inr (.inl t_worths))), (qt 2, .inl (Y 0, 4096, .inl t_longest)), (qt 3, .inl (Y 0, 4096, .inl v19)), (qt 4, .inl (Y 0, 12, .inl t_nears)), (qt 5, .inl (Y 0, 144, .inl t_weights))]) (rnS (As := [.int (v22 - (1 : Int32))]) (rest := []) ⟨hx, hb, hml, hown, hts⟩ (c_J6_bitCount_0f7a4 l G Y H.size (v22 - (1 : Int32)) r23 hc) (va_cwS 1 hts gX4_fill_J6_bitCount_0f7a4 rfl rfl rfl (by decide +kernel) ⟨(by first | exact Nat.le_of_ble_eq_true rfl | (show _ ≤ _ + _; simp only [List.map, List.sum_cons, List.sum_nil]; omega) | (simp [headSpec, rmk]; omega)), (by first | exact Nat.le_of_ble_eq_true rfl | (show _ ≤ _ + _; simp only [List.map, List.sum_cons, List.sum_nil]; omega) | (simp [headSpec, rmk]; omega))⟩) trivial okT hK hP hD [] rfl rfl rfl hl.1 rfl (Nat.le_of_ble_eq_true rfl) dX4_fill_57) hP hD hS hA [] [0, 1, 2, 3, 4, 5] [0, 1, 2, 3, 4, 5] rfl rfl rfl (by decide) rfl rfl (fun H locs hP hD hS => ?_)
          refine lv_istore (lv' := [(5, .int r23), (4, .int v22), (3, .int v20), (0, .ref (qt 0)), (1, .int p1), (2, .int p2)]) hx hb dX4_fill_60 hl (by decide) rfl (fun ls hl => ?_)
          refine lv_iload_n hx hb dX4_fill_62 rfl (lv_at hl 4 rfl) ?_
          refine lv_iload hx hb dX4_fill_63 (lv_at hl 1 rfl) ?_
          refine lv_ixor hx hb dX4_fill_65 ?_
          refine lv_topi (fun v24 e_v24 => ?_)
          have hf := nm_at hf e_v24
          refine lv_istore (lv' := [(6, .int v24), (5, .int r23), (4, .int v22), (3, .int v20), (0, .ref (qt 0)), (1, .int p1), (2, .int p2)]) hx hb dX4_fill_66 hl (by decide) rfl (fun ls hl => ?_)
          refine lv_aload_n hx hb dX4_fill_68 rfl (lv_at hl 4 rfl) ?_
          refine lv_iload hx hb dX4_fill_69 (lv_at hl 0 rfl) ?_
          refine lv_iload_n hx hb dX4_fill_71 rfl (lv_at hl 6 rfl) ?_
          refine lv_iconst (v := 1) hx hb dX4_fill_72 (by decide) ?_
          refine lv_iadd hx hb dX4_fill_73 ?_
          obtain ⟨w25, w26, w27, hc, hf⟩ := bd3 hf
          refine cl_v (ws' := [(qt 0, oX4 qt t_stamp t_age t_isTurned), (qt 1, .inl (Y 1, 28672, .inr (.inl w25))), (qt 2, .inl (Y 0, 4096, .inl w26)), (qt 3, .inl (Y 0, 4096, .inl w27)), (qt 4, .inl (Y 0, 12, .inl t_nears)), (qt 5, .inl (Y 0, 144, .inl t_weights))]) (wr := []) (rnV (As := [.int v24, .int (p2 + (1 : Int32))]) (rest := []) ⟨hx, hb, hml, hown, hts⟩ (ihd H.size qt t_worths t_longest v19 t_nears t_weights t_stamp t_age t_isTurned v24 (p2 + (1 : Int32)) w25 w26 w27 hc) (cwV 2 hts gX4_fill_X4_fill rfl rfl rfl (by decide +kernel) ⟨by show _ + _ + 1 ≤ _ + (_ + 1); omega, by show 8 + (_ + 11) + (_ + _ * _) ≤ _ + _ * (_ + 1); omega⟩) trivial okT hK hP hD [0, 1, 2, 3, 4, 5] rfl rfl (ci := 3) (q0 := 0) rfl rfl rfl rfl hl.1 rfl (Nat.le_of_ble_eq_true rfl) dX4_fill_74) hP hD hS hA [0, 1, 2, 3, 4, 5] [] [0, 1, 2, 3, 4, 5] rfl rfl rfl (by decide) rfl rfl (fun H locs hP hD hS => ?_)
          refine lv_aload_n hx hb dX4_fill_77 rfl (lv_at hl 4 rfl) ?_
          refine va_get (D := G) (ci := 3) (v := .ref (qt 1)) (C := RX4) (T := TX4) (N := 8) hx hb hts inX4w hown hK hP 0 rfl rfl 0 (by decide) wd3 (fun _ h9 => h9) rfl dX4_fill_78 ?_
          refine lv_iload hx hb dX4_fill_81 (lv_at hl 0 rfl) ?_
          refine lv_bipush (v := 7) hx hb dX4_fill_83 (by decide) ?_
          refine lv_imul hx hb dX4_fill_85 ?_
          refine lv_aload_n hx hb dX4_fill_86 rfl (lv_at hl 4 rfl) ?_
          refine va_get (D := G) (ci := 3) (v := .ref (qt 1)) (C := RX4) (T := TX4) (N := 8) hx hb hts inX4w hown hK hP 0 rfl rfl 0 (by decide) wd3 (fun _ h9 => h9) rfl dX4_fill_87 ?_
          refine lv_iload_n hx hb dX4_fill_90 rfl (lv_at hl 3 rfl) ?_
          refine lv_bipush (v := 7) hx hb dX4_fill_91 (by decide) ?_
          obtain ⟨⟨g28, g29, g30, g31, g32⟩, hf⟩ := gp hf
          refine va_copyl hx hb (hml.trans hl.1.symm) hown wd4 wd5 wd6 wd7 hK hP hD hS 1 1 1 1 rfl rfl rfl rfl rfl g28 g29 g30 g31 g32 (fun _ _ => rfl) (by first | exact Nat.le_of_ble_eq_true rfl | (show _ ≤ _ + _; simp only [List.map, List.sum_cons, List.sum_nil]; omega) | (simp [headSpec, rmk]; omega)) (by first | exact Nat.le_of_ble_eq_true rfl | (show _ ≤ _ + _; simp only [List.map, List.sum_cons, List.sum_nil]; omega) | (simp [headSpec, rmk]; omega)) dX4_fill_93 (fun H locs hP hD hS => ?_)
          obtain ⟨v34, e_v34⟩ : ∃ z : Nat → Int64, z = va_cpy w25 w25 (v24 * (7 : Int32)).toNatClampNeg v20.toNatClampNeg (7 : Int32).toNatClampNeg := ⟨_, rfl⟩
          have hf := nm_at hf e_v34
          have hP : va_P G vwCl [(qt 0, oX4 qt t_stamp t_age t_isTurned), (qt 1, .inl (Y 1, 28672, .inr (.inl v34))), (qt 2, .inl (Y 0, 4096, .inl w26)), (qt 3, .inl (Y 0, 4096, .inl w27)), (qt 4, .inl (Y 0, 12, .inl t_nears)), (qt 5, .inl (Y 0, 144, .inl t_weights))] H := by rw [e_v34]; exact hP
          have hD : va_D A [(qt 0, oX4 qt t_stamp t_age t_isTurned), (qt 1, .inl (Y 1, 28672, .inr (.inl v34))), (qt 2, .inl (Y 0, 4096, .inl w26)), (qt 3, .inl (Y 0, 4096, .inl w27)), (qt 4, .inl (Y 0, 12, .inl t_nears)), (qt 5, .inl (Y 0, 144, .inl t_weights))] := by rw [e_v34]; exact hD
          refine lv_aload_n hx hb dX4_fill_96 rfl (lv_at hl 4 rfl) ?_
          refine va_get (D := G) (ci := 3) (v := .ref (qt 2)) (C := RX4) (T := TX4) (N := 8) hx hb hts inX4w hown hK hP 0 rfl rfl 1 (by decide) wd8 (fun _ h9 => h9) rfl dX4_fill_97 ?_
          refine lv_iload_n hx hb dX4_fill_100 rfl (lv_at hl 5 rfl) ?_
          refine lv_aload_n hx hb dX4_fill_101 rfl (lv_at hl 4 rfl) ?_
          refine va_get (D := G) (ci := 3) (v := .ref (qt 2)) (C := RX4) (T := TX4) (N := 8) hx hb hts inX4w hown hK hP 0 rfl rfl 1 (by decide) wd8 (fun _ h9 => h9) rfl dX4_fill_102 ?_
          refine lv_iload hx hb dX4_fill_105 (lv_at hl 0 rfl) ?_
          obtain ⟨g35, hf⟩ := gd hf
          refine va_iald hx hb hK hP 2 0 rfl rfl g35 dX4_fill_107 ?_
          obtain ⟨g36, hf⟩ := gd hf
          refine va_iast hx hb hK hP hD hS 2 0 rfl rfl g36 dX4_fill_108 (fun H locs hP hD hS => ?_)
          obtain ⟨v37, e_v37⟩ : ∃ z : Nat → Int32, z = upd w26 p1.toNatClampNeg (w26 v24.toNatClampNeg) := ⟨_, rfl⟩
          have hf := nm_at hf e_v37
          have hP : va_P G vwCl [(qt 0, oX4 qt t_stamp t_age t_isTurned), (qt 1, .inl (Y 1, 28672, .inr (.inl v34))), (qt 2, .inl (Y 0, 4096, .inl v37)), (qt 3, .inl (Y 0, 4096, .inl w27)), (qt 4, .inl (Y 0, 12, .inl t_nears)), (qt 5, .inl (Y 0, 144, .inl t_weights))] H := by rw [e_v37]; exact hP
          have hD : va_D A [(qt 0, oX4 qt t_stamp t_age t_isTurned), (qt 1, .inl (Y 1, 28672, .inr (.inl v34))), (qt 2, .inl (Y 0, 4096, .inl v37)), (qt 3, .inl (Y 0, 4096, .inl w27)), (qt 4, .inl (Y 0, 12, .inl t_nears)), (qt 5, .inl (Y 0, 144, .inl t_weights))] := by rw [e_v37]; exact hD
          refine lv_aload_n hx hb dX4_fill_109 rfl (lv_at hl 4 rfl) ?_
          refine va_get (D := G) (ci := 3) (v := .ref (qt 4)) (C := RX4) (T := TX4) (N := 8) hx hb hts inX4w hown hK hP 0 rfl rfl 3 (by decide) wd9 (fun _ h9 => h9) rfl dX4_fill_110 ?_
          refine lv_iload hx hb dX4_fill_113 (lv_at hl 1 rfl) ?_
          obtain ⟨g38, hf⟩ := gd hf
          refine va_iald hx hb hK hP 4 0 rfl rfl g38 dX4_fill_115 ?_
          refine lv_iload hx hb dX4_fill_116 (lv_at hl 0 rfl) ?_
          refine lv_iand hx hb dX4_fill_118 ?_
          refine lv_topi (fun v39 e_v39 => ?_)
          have hf := nm_at hf e_v39
          refine lv_istore (lv' := [(7, .int v39), (6, .int v24), (5, .int r23), (4, .int v22), (3, .int v20), (0, .ref (qt 0)), (1, .int p1), (2, .int p2)]) hx hb dX4_fill_119 hl (by decide) rfl (fun ls hl => ?_)
          refine lv_iload hx hb dX4_fill_121 (lv_at hl 2 rfl) ?_
          refine lv_iconst (v := 1) hx hb dX4_fill_123 (by decide) ?_
          refine lv_iadd hx hb dX4_fill_124 ?_
          refine lv_topi (fun v40 e_v40 => ?_)
          have hf := nm_at hf e_v40
          refine lv_istore (lv' := [(8, .int v40), (7, .int v39), (6, .int v24), (5, .int r23), (4, .int v22), (3, .int v20), (0, .ref (qt 0)), (1, .int p1), (2, .int p2)]) hx hb dX4_fill_125 hl (by decide) rfl (fun ls hl => ?_)
          exact B127 70 v34 v37 w27 r23 v24 v39 v40 hf _ _ hP hD hS ls (lv_sub hl [6, 7, 8, 3, 2, 1, 0] rfl)
        · have hf := it hf c21
          refine lv_aload_n hx hb dX4_fill_39 rfl (lv_at hl 1 rfl) ?_
          refine va_get (D := G) (ci := 3) (v := .ref (qt 1)) (C := RX4) (T := TX4) (N := 8) hx hb hts inX4w hown hK hP 0 rfl rfl 0 (by decide) wd3 (fun _ h9 => h9) rfl dX4_fill_40 ?_
          refine lv_iload_n hx hb dX4_fill_43 rfl (lv_at hl 0 rfl) ?_
          refine lv_lconst (v := 1) hx hb dX4_fill_44 (by decide) ?_
          obtain ⟨g41, hf⟩ := gd hf
          refine va_last hx hb hK hP hD hS 1 1 rfl rfl g41 dX4_fill_45 (fun H locs hP hD hS => ?_)
          obtain ⟨v42, e_v42⟩ : ∃ z : Nat → Int64, z = vp_updL t_worths v20.toNatClampNeg (1 : Int64) := ⟨_, rfl⟩
          have hf := nm_at hf e_v42
          have hP : va_P G vwCl [(qt 0, oX4 qt t_stamp t_age t_isTurned), (qt 1, .inl (Y 1, 28672, .inr (.inl v42))), (qt 2, .inl (Y 0, 4096, .inl t_longest)), (qt 3, .inl (Y 0, 4096, .inl v19)), (qt 4, .inl (Y 0, 12, .inl t_nears)), (qt 5, .inl (Y 0, 144, .inl t_weights))] H := by rw [e_v42]; exact hP
          have hD : va_D A [(qt 0, oX4 qt t_stamp t_age t_isTurned), (qt 1, .inl (Y 1, 28672, .inr (.inl v42))), (qt 2, .inl (Y 0, 4096, .inl t_longest)), (qt 3, .inl (Y 0, 4096, .inl v19)), (qt 4, .inl (Y 0, 12, .inl t_nears)), (qt 5, .inl (Y 0, 144, .inl t_weights))] := by rw [e_v42]; exact hD
          obtain ⟨e0, e1, e2⟩ := rt3 hf
          have hP : va_P G vwCl [(qt 0, oX4 qt t_stamp t_age t_isTurned), (qt 1, .inl (Y 1, 28672, .inr (.inl o_t_worths))), (qt 2, .inl (Y 0, 4096, .inl o_t_longest)), (qt 3, .inl (Y 0, 4096, .inl o_t_stamps)), (qt 4, .inl (Y 0, 12, .inl t_nears)), (qt 5, .inl (Y 0, 144, .inl t_weights))] H := by rw [← e0, ← e1, ← e2]; exact hP
          have hD : va_D A [(qt 0, oX4 qt t_stamp t_age t_isTurned), (qt 1, .inl (Y 1, 28672, .inr (.inl o_t_worths))), (qt 2, .inl (Y 0, 4096, .inl o_t_longest)), (qt 3, .inl (Y 0, 4096, .inl o_t_stamps)), (qt 4, .inl (Y 0, 12, .inl t_nears)), (qt 5, .inl (Y 0, 144, .inl t_weights))] := by rw [← e0, ← e1, ← e2]; exact hD
          exact W.vret hx hb hr (fun t ht hW => ⟨⟨(), rfl, trivial, by rw [ht]; exact hP, va_K.moved hW.alike hK, by rw [hAe]; exact hD⟩, hS.F ht⟩) hS.2.2 dX4_fill_46
      · have hf := ie hf c17
        obtain ⟨e0, e1, e2⟩ := rt3 hf
        have hP : va_P G vwCl [(qt 0, oX4 qt t_stamp t_age t_isTurned), (qt 1, .inl (Y 1, 28672, .inr (.inl o_t_worths))), (qt 2, .inl (Y 0, 4096, .inl o_t_longest)), (qt 3, .inl (Y 0, 4096, .inl o_t_stamps)), (qt 4, .inl (Y 0, 12, .inl t_nears)), (qt 5, .inl (Y 0, 144, .inl t_weights))] H := by rw [← e0, ← e1, ← e2]; exact hP
        have hD : va_D A [(qt 0, oX4 qt t_stamp t_age t_isTurned), (qt 1, .inl (Y 1, 28672, .inr (.inl o_t_worths))), (qt 2, .inl (Y 0, 4096, .inl o_t_longest)), (qt 3, .inl (Y 0, 4096, .inl o_t_stamps)), (qt 4, .inl (Y 0, 12, .inl t_nears)), (qt 5, .inl (Y 0, 144, .inl t_weights))] := by rw [← e0, ← e1, ← e2]; exact hD
        exact W.vret hx hb hr (fun t ht hW => ⟨⟨(), rfl, trivial, by rw [ht]; exact hP, va_K.moved hW.alike hK, by rw [hAe]; exact hD⟩, hS.F ht⟩) hS.2.2 dX4_fill_19
  exact E0 s.heap [] hP hD hS ls hl
-- X4_rowFor
set_option maxRecDepth 100000 in
set_option maxHeartbeats 4000000 in
theorem c_X4_rowFor (l : Launch) (G : va_G) (Y : Nat → ClassId) (sz : Nat) (qt : Nat → Nat) (t_worths : Nat → Int64) (t_longest : Nat → Int32) (t_stamps : Nat → Int32) (t_nears : Nat → Int32) (t_weights : Nat → Int32) (t_stamp : Int32) (t_age : Int32) (t_isTurned : Int32) (p1 : Int32) (rv : Int32) (o_t_worths : Nat → Int64) (o_t_longest : Nat → Int32) (o_t_stamps : Nat → Int32) (hf : f_X4_rowFor t_worths t_longest t_stamps t_nears t_weights t_stamp p1 = some (rv, o_t_worths, o_t_longest, o_t_stamps)) : Met l yX4_rowFor wsX4_rowFor (rmk 19 553) (va_Pc [.ref (qt 0), .int p1] (Pre G (tys Y) [(qt 0, oX4 qt t_stamp t_age t_isTurned), (qt 1, .inl (Y 1, 28672, .inr (.inl t_worths))), (qt 2, .inl (Y 0, 4096, .inl t_longest)), (qt 3, .inl (Y 0, 4096, .inl t_stamps)), (qt 4, .inl (Y 0, 12, .inl t_nears)), (qt 5, .inl (Y 0, 144, .inl t_weights))] sz xT)) (va_Qi (fun (r : Int32) (_ : Unit) => r = rv) (Pst G (tys Y) [(qt 0, oX4 qt t_stamp t_age t_isTurned), (qt 1, .inl (Y 1, 28672, .inr (.inl t_worths))), (qt 2, .inl (Y 0, 4096, .inl t_longest)), (qt 3, .inl (Y 0, 4096, .inl t_stamps)), (qt 4, .inl (Y 0, 12, .inl t_nears)), (qt 5, .inl (Y 0, 144, .inl t_weights))] sz [(qt 0, oX4 qt t_stamp t_age t_isTurned), (qt 1, .inl (Y 1, 28672, .inr (.inl o_t_worths))), (qt 2, .inl (Y 0, 4096, .inl o_t_longest)), (qt 3, .inl (Y 0, 4096, .inl o_t_stamps)), (qt 4, .inl (Y 0, 12, .inl t_nears)), (qt 5, .inl (Y 0, 144, .inl t_weights))]) (va_A [(qt 0, oX4 qt t_stamp t_age t_isTurned), (qt 1, .inl (Y 1, 28672, .inr (.inl t_worths))), (qt 2, .inl (Y 0, 4096, .inl t_longest)), (qt 3, .inl (Y 0, 4096, .inl t_stamps)), (qt 4, .inl (Y 0, 12, .inl t_nears)), (qt 5, .inl (Y 0, 144, .inl t_weights))] sz)) 0 0 (va_A [(qt 0, oX4 qt t_stamp t_age t_isTurned), (qt 1, .inl (Y 1, 28672, .inr (.inl t_worths))), (qt 2, .inl (Y 0, 4096, .inl t_longest)), (qt 3, .inl (Y 0, 4096, .inl t_stamps)), (qt 4, .inl (Y 0, 12, .inl t_nears)), (qt 5, .inl (Y 0, 144, .inl t_weights))] sz) := by
  refine Met.ofW (cc := cX4_rowFor) (maxL := 2) (ret := (some .int)) (by decide) rfl ?_
  intro p e s m args below meth c s₁ B hml hv
  obtain ⟨rfl, hsz, hP, hK, hD0, hX⟩ := hv
  have hx := B.exec
  have hb := B.bytes
  have hr := B.returns
  have hts := atoms_spec (ws := wsX4_rowFor) B.pre
  have hown : s.vm.findClass RX4 = some m.cls := findClass_of_methodNamed B.named
  have hlocks := B.notSynchronized
  subst hsz
  have hD := hD0.self (sz := s.heap.size)
  generalize hAe : va_A [(qt 0, oX4 qt t_stamp t_age t_isTurned), (qt 1, .inl (Y 1, 28672, .inr (.inl t_worths))), (qt 2, .inl (Y 0, 4096, .inl t_longest)), (qt 3, .inl (Y 0, 4096, .inl t_stamps)), (qt 4, .inl (Y 0, 12, .inl t_nears)), (qt 5, .inl (Y 0, 144, .inl t_weights))] s.heap.size = A at hD ⊢
  have hA : ∀ q : Nat, s.heap.size ≤ q → A q := fun q h => by rw [← hAe]; exact Or.inr h
  have hS : va_S A s.heap s.heap [] := va_S.rf
  have hP : va_P G vwCl [(qt 0, oX4 qt t_stamp t_age t_isTurned), (qt 1, .inl (Y 1, 28672, .inr (.inl t_worths))), (qt 2, .inl (Y 0, 4096, .inl t_longest)), (qt 3, .inl (Y 0, 4096, .inl t_stamps)), (qt 4, .inl (Y 0, 12, .inl t_nears)), (qt 5, .inl (Y 0, 144, .inl t_weights))] s.heap := hP
  have hl := lv_entry ([.ref (qt 0), .int p1]) (n := 2) (Nat.le_of_ble_eq_true rfl)
  rw [lg_entry_eq]
  generalize (lg_sl ([.ref (qt 0), .int p1]) ++ List.replicate (2 - (lg_sl ([.ref (qt 0), .int p1])).length) Slot.unset).toArray = ls at hl ⊢
  have hl : lv_has ls 2 [(0, .ref (qt 0)), (1, .int p1)] := hl
  have E0 : ∀ (H : Heap) (locs : List Loc), va_P G vwCl [(qt 0, oX4 qt t_stamp t_age t_isTurned), (qt 1, .inl (Y 1, 28672, .inr (.inl t_worths))), (qt 2, .inl (Y 0, 4096, .inl t_longest)), (qt 3, .inl (Y 0, 4096, .inl t_stamps)), (qt 4, .inl (Y 0, 12, .inl t_nears)), (qt 5, .inl (Y 0, 144, .inl t_weights))] H → va_D A [(qt 0, oX4 qt t_stamp t_age t_isTurned), (qt 1, .inl (Y 1, 28672, .inr (.inl t_worths))), (qt 2, .inl (Y 0, 4096, .inl t_longest)), (qt 3, .inl (Y 0, 4096, .inl t_stamps)), (qt 4, .inl (Y 0, 12, .inl t_nears)), (qt 5, .inl (Y 0, 144, .inl t_weights))] → va_S A s.heap H locs → ∀ (ls : Array Slot), lv_has ls 2 [(0, .ref (qt 0)), (1, .int p1)] → W p l e (headSpec wsX4_rowFor (rmk 19 553)).room s m [.ref (qt 0), .int p1].toArray below meth c H locs 0 0 (MQ below (va_Qi (fun (r : Int32) (_ : Unit) => r = rv) (Pst G (tys Y) [(qt 0, oX4 qt t_stamp t_age t_isTurned), (qt 1, .inl (Y 1, 28672, .inr (.inl t_worths))), (qt 2, .inl (Y 0, 4096, .inl t_longest)), (qt 3, .inl (Y 0, 4096, .inl t_stamps)), (qt 4, .inl (Y 0, 12, .inl t_nears)), (qt 5, .inl (Y 0, 144, .inl t_weights))] s.heap.size [(qt 0, oX4 qt t_stamp t_age t_isTurned), (qt 1, .inl (Y 1, 28672, .inr (.inl o_t_worths))), (qt 2, .inl (Y 0, 4096, .inl o_t_longest)), (qt 3, .inl (Y 0, 4096, .inl o_t_stamps)), (qt 4, .inl (Y 0, 12, .inl t_nears)), (qt 5, .inl (Y 0, 144, .inl t_weights))]) A) [.ref (qt 0), .int p1].toArray s 0 0 A) (F0 m 0 ls []) := by
    intro H locs hP hD hS ls hl
    unfold f_X4_rowFor at hf
    refine lv_aload_n hx hb dX4_rowFor_0 rfl (lv_at hl 0 rfl) ?_
    refine lv_iload_n hx hb dX4_rowFor_1 rfl (lv_at hl 1 rfl) ?_
    refine lv_iconst (v := 0) hx hb dX4_rowFor_2 (by decide) ?_
    obtain ⟨w1, w2, w3, hc, hf⟩ := bd3 hf
    refine cl_v (ws' := [(qt 0, oX4 qt t_stamp t_age t_isTurned), (qt 1, .inl (Y 1, 28672, .inr (.inl w1))), (qt 2, .inl (Y 0, 4096, .inl w2)), (qt 3, .inl (Y 0, 4096, .inl w3)), (qt 4, .inl (Y 0, 12, .inl t_nears)), (qt 5, .inl (Y 0, 144, .inl t_weights))]) (wr := []) (rnV (As := [.int p1, .int (0 : Int32)]) (rest := []) ⟨hx, hb, hml, hown, hts⟩ (c_X4_fill l G Y 16 H.size qt t_worths t_longest t_stamps t_nears t_weights t_stamp t_age t_isTurned p1 (0 : Int32) w1 w2 w3 hc) (cwV 2 hts gX4_rowFor_X4_fill rfl rfl rfl (by decide +kernel) ⟨(Nat.le_of_ble_eq_true rfl), (Nat.le_of_ble_eq_true rfl)⟩) trivial okT hK hP hD [0, 1, 2, 3, 4, 5] rfl rfl (ci := 3) (q0 := 0) rfl rfl rfl rfl hl.1 rfl (Nat.le_of_ble_eq_true rfl) dX4_rowFor_3) hP hD hS hA [0, 1, 2, 3, 4, 5] [] [0, 1, 2, 3, 4, 5] rfl rfl rfl (by decide) rfl rfl (fun H locs hP hD hS => ?_)
    refine lv_iload_n hx hb dX4_rowFor_6 rfl (lv_at hl 1 rfl) ?_
    refine lv_bipush (v := 7) hx hb dX4_rowFor_7 (by decide) ?_
    refine lv_imul hx hb dX4_rowFor_9 ?_
    obtain ⟨e0, e1, e2, e3⟩ := rt4 hf
    have hP : va_P G vwCl [(qt 0, oX4 qt t_stamp t_age t_isTurned), (qt 1, .inl (Y 1, 28672, .inr (.inl o_t_worths))), (qt 2, .inl (Y 0, 4096, .inl o_t_longest)), (qt 3, .inl (Y 0, 4096, .inl o_t_stamps)), (qt 4, .inl (Y 0, 12, .inl t_nears)), (qt 5, .inl (Y 0, 144, .inl t_weights))] H := by rw [← e1, ← e2, ← e3]; exact hP
    have hD : va_D A [(qt 0, oX4 qt t_stamp t_age t_isTurned), (qt 1, .inl (Y 1, 28672, .inr (.inl o_t_worths))), (qt 2, .inl (Y 0, 4096, .inl o_t_longest)), (qt 3, .inl (Y 0, 4096, .inl o_t_stamps)), (qt 4, .inl (Y 0, 12, .inl t_nears)), (qt 5, .inl (Y 0, 144, .inl t_weights))] := by rw [← e1, ← e2, ← e3]; exact hD
    exact W.iret (v := (p1 * (7 : Int32))) hx hb hr (fun t ht hW => ⟨⟨(p1 * (7 : Int32)), (), rfl, e0, by rw [ht]; exact hP, va_K.moved hW.alike hK, by rw [hAe]; exact hD⟩, hS.F ht⟩) hS.2.2 dX4_rowFor_10
  exact E0 s.heap [] hP hD hS ls hl
-- X4_isMuch
set_option maxRecDepth 100000 in
set_option maxHeartbeats 4000000 in
theorem c_X4_isMuch (l : Launch) (G : va_G) (Y : Nat → ClassId) (sz : Nat) (qt : Nat → Nat) (t_worths : Nat → Int64) (t_stamp : Int32) (t_age : Int32) (t_isTurned : Int32) (p1 : Int32) (rv : Int32) (hf : f_X4_isMuch t_worths p1 = some (rv)) : Met l yX4_isMuch wsX4_isMuch (rmk 0 0) (va_Pc [.ref (qt 0), .int p1] (Pre G (tys Y) [(qt 0, oX4 qt t_stamp t_age t_isTurned), (qt 1, .inl (Y 1, 28672, .inr (.inl t_worths)))] sz xT)) (va_Qi (fun (r : Int32) (_ : Unit) => r = rv) (Pst G (tys Y) [(qt 0, oX4 qt t_stamp t_age t_isTurned), (qt 1, .inl (Y 1, 28672, .inr (.inl t_worths)))] sz [(qt 0, oX4 qt t_stamp t_age t_isTurned), (qt 1, .inl (Y 1, 28672, .inr (.inl t_worths)))]) (va_A [(qt 0, oX4 qt t_stamp t_age t_isTurned), (qt 1, .inl (Y 1, 28672, .inr (.inl t_worths)))] sz)) 0 0 (va_A [(qt 0, oX4 qt t_stamp t_age t_isTurned), (qt 1, .inl (Y 1, 28672, .inr (.inl t_worths)))] sz) := by
  refine Met.ofW (cc := cX4_isMuch) (maxL := 3) (ret := (some .boolean)) (by decide) rfl ?_
  intro p e s m args below meth c s₁ B hml hv
  obtain ⟨rfl, hsz, hP, hK, hD0, hX⟩ := hv
  have hx := B.exec
  have hb := B.bytes
  have hr := B.returns
  have hts := atoms_spec (ws := wsX4_isMuch) B.pre
  have hown : s.vm.findClass RX4 = some m.cls := findClass_of_methodNamed B.named
  have hlocks := B.notSynchronized
  subst hsz
  have hD := hD0.self (sz := s.heap.size)
  generalize hAe : va_A [(qt 0, oX4 qt t_stamp t_age t_isTurned), (qt 1, .inl (Y 1, 28672, .inr (.inl t_worths)))] s.heap.size = A at hD ⊢
  have hA : ∀ q : Nat, s.heap.size ≤ q → A q := fun q h => by rw [← hAe]; exact Or.inr h
  have hS : va_S A s.heap s.heap [] := va_S.rf
  have hP : va_P G vwCl [(qt 0, oX4 qt t_stamp t_age t_isTurned), (qt 1, .inl (Y 1, 28672, .inr (.inl t_worths)))] s.heap := hP
  have wd1 : (Cond.fieldLink RX4 9 "PairedLines$Table" "worths" "[J").before [.ref (qt 0), .int p1].toArray s = true := hts _ (List.mem_of_getElem? (i := 1) rfl)
  have inX4w : ∀ w ∈ u_ws RX4 TX4 8, w ∈ wsX4_isMuch := fun w hw => List.mem_cons_of_mem _ (List.mem_append_right _ (hw))
  have hl := lv_entry ([.ref (qt 0), .int p1]) (n := 3) (Nat.le_of_ble_eq_true rfl)
  rw [lg_entry_eq]
  generalize (lg_sl ([.ref (qt 0), .int p1]) ++ List.replicate (3 - (lg_sl ([.ref (qt 0), .int p1])).length) Slot.unset).toArray = ls at hl ⊢
  have hl : lv_has ls 3 [(0, .ref (qt 0)), (1, .int p1)] := hl
  have B2 : ∀ (n2 : Nat), ∀ (x2 : Int32), f_X4_isMuch_b2 t_worths p1 n2 x2 = some (rv) → ∀ (H : Heap) (locs : List Loc), va_P G vwCl [(qt 0, oX4 qt t_stamp t_age t_isTurned), (qt 1, .inl (Y 1, 28672, .inr (.inl t_worths)))] H → va_D A [(qt 0, oX4 qt t_stamp t_age t_isTurned), (qt 1, .inl (Y 1, 28672, .inr (.inl t_worths)))] → va_S A s.heap H locs → ∀ (ls : Array Slot), lv_has ls 3 [(0, .ref (qt 0)), (1, .int p1), (2, .int x2)] → W p l e (headSpec wsX4_isMuch (rmk 0 0)).room s m [.ref (qt 0), .int p1].toArray below meth c H locs 0 0 (MQ below (va_Qi (fun (r : Int32) (_ : Unit) => r = rv) (Pst G (tys Y) [(qt 0, oX4 qt t_stamp t_age t_isTurned), (qt 1, .inl (Y 1, 28672, .inr (.inl t_worths)))] s.heap.size [(qt 0, oX4 qt t_stamp t_age t_isTurned), (qt 1, .inl (Y 1, 28672, .inr (.inl t_worths)))]) A) [.ref (qt 0), .int p1].toArray s 0 0 A) (F0 m 2 ls []) := by
    intro n2
    induction n2 with
    | zero =>
      intro x2 hf H locs hP hD hS ls hl
      exact no_none hf
    | succ n2 ih2 =>
      intro x2 hf H locs hP hD hS ls hl
      have hf : f_X4_isMuch_s2 t_worths p1 (f_X4_isMuch_b2 t_worths p1  n2) x2 = some (rv) := hf
      unfold f_X4_isMuch_s2 at hf
      refine lv_iload_n hx hb dX4_isMuch_2 rfl (lv_at hl 2 rfl) ?_
      refine lv_bipush (v := 7) hx hb dX4_isMuch_3 (by decide) ?_
      refine lv_icmp_ge (tgt := 29) hx hb dX4_isMuch_5 (by decide) (fun c1 => ?_) (fun c1 => ?_)
      · have hf := it hf c1
        refine lv_iconst (v := 0) hx hb dX4_isMuch_29 (by decide) ?_
        have e0 := rt1 hf
        exact W.zret (v := (0 : Int32)) hx hb hr rfl (fun t ht hW => ⟨⟨(0 : Int32), (), rfl, e0, by rw [ht]; exact hP, va_K.moved hW.alike hK, by rw [hAe]; exact hD⟩, hS.F ht⟩) hS.2.2 dX4_isMuch_30
      · have hf := ie hf c1
        refine lv_aload_n hx hb dX4_isMuch_8 rfl (lv_at hl 0 rfl) ?_
        refine va_get (D := G) (ci := 3) (v := .ref (qt 1)) (C := RX4) (T := TX4) (N := 8) hx hb hts inX4w hown hK hP 0 rfl rfl 0 (by decide) wd1 (fun _ h9 => h9) rfl dX4_isMuch_9 ?_
        refine lv_iload_n hx hb dX4_isMuch_12 rfl (lv_at hl 1 rfl) ?_
        refine lv_iload_n hx hb dX4_isMuch_13 rfl (lv_at hl 2 rfl) ?_
        refine lv_iadd hx hb dX4_isMuch_14 ?_
        obtain ⟨g2, hf⟩ := gd hf
        refine va_lald hx hb hK hP 1 1 rfl rfl g2 dX4_isMuch_15 ?_
        refine lv_lconst (v := 0) hx hb dX4_isMuch_16 (by decide) ?_
        refine W.lcmp hx hb dX4_isMuch_17 ?_
        refine lv_if_ge (tgt := 23) hx hb dX4_isMuch_18 (by decide) (fun c3 => ?_) (fun c3 => ?_)
        · have hf := it hf c3
          obtain ⟨v4, e_v4⟩ : ∃ z : Int32, z = (x2 + 1) := ⟨_, rfl⟩
          have hf := nm_at hf e_v4
          refine lv_iinc (v := v4) (lv' := [(2, .int v4), (0, .ref (qt 0)), (1, .int p1)]) hx hb dX4_isMuch_23 hl (k := 2) rfl (by rw [e_v4]; rfl) (by decide) rfl (fun ls hl => ?_)
          refine lv_goto (tgt := 2) hx hb dX4_isMuch_26 (by decide) ?_
          exact ih2 v4 hf _ _ hP hD hS ls (lv_sub hl [1, 2, 0] rfl)
        · have hf := ie hf c3
          refine lv_iconst (v := 1) hx hb dX4_isMuch_21 (by decide) ?_
          have e0 := rt1 hf
          exact W.zret (v := (1 : Int32)) hx hb hr rfl (fun t ht hW => ⟨⟨(1 : Int32), (), rfl, e0, by rw [ht]; exact hP, va_K.moved hW.alike hK, by rw [hAe]; exact hD⟩, hS.F ht⟩) hS.2.2 dX4_isMuch_22
  have E0 : ∀ (H : Heap) (locs : List Loc), va_P G vwCl [(qt 0, oX4 qt t_stamp t_age t_isTurned), (qt 1, .inl (Y 1, 28672, .inr (.inl t_worths)))] H → va_D A [(qt 0, oX4 qt t_stamp t_age t_isTurned), (qt 1, .inl (Y 1, 28672, .inr (.inl t_worths)))] → va_S A s.heap H locs → ∀ (ls : Array Slot), lv_has ls 3 [(0, .ref (qt 0)), (1, .int p1)] → W p l e (headSpec wsX4_isMuch (rmk 0 0)).room s m [.ref (qt 0), .int p1].toArray below meth c H locs 0 0 (MQ below (va_Qi (fun (r : Int32) (_ : Unit) => r = rv) (Pst G (tys Y) [(qt 0, oX4 qt t_stamp t_age t_isTurned), (qt 1, .inl (Y 1, 28672, .inr (.inl t_worths)))] s.heap.size [(qt 0, oX4 qt t_stamp t_age t_isTurned), (qt 1, .inl (Y 1, 28672, .inr (.inl t_worths)))]) A) [.ref (qt 0), .int p1].toArray s 0 0 A) (F0 m 0 ls []) := by
    intro H locs hP hD hS ls hl
    unfold f_X4_isMuch at hf
    refine lv_iconst (v := 0) hx hb dX4_isMuch_0 (by decide) ?_
    refine lv_istore_n (lv' := [(2, .int (0 : Int32)), (0, .ref (qt 0)), (1, .int p1)]) hx hb dX4_isMuch_1 rfl hl (by decide) rfl (fun ls hl => ?_)
    exact B2 70 (0 : Int32) hf _ _ hP hD hS ls (lv_sub hl [1, 2, 0] rfl)
  exact E0 s.heap [] hP hD hS ls hl
-- X4_numberAt
set_option maxRecDepth 100000 in
set_option maxHeartbeats 4000000 in
theorem c_X4_numberAt (l : Launch) (G : va_G) (Y : Nat → ClassId) (sz : Nat) (qt : Nat → Nat) (t_worths : Nat → Int64) (t_stamp : Int32) (t_age : Int32) (t_isTurned : Int32) (p1 : Int32) (p2 : Int32) (p3 : Int32) (rv : Int64) (hf : f_X4_numberAt t_worths p1 p2 p3 = some (rv)) : Met l yX4_numberAt wsX4_numberAt (rmk 0 0) (va_Pc [.ref (qt 0), .int p1, .int p2, .int p3] (Pre G (tys Y) [(qt 0, oX4 qt t_stamp t_age t_isTurned), (qt 1, .inl (Y 1, 28672, .inr (.inl t_worths)))] sz xT)) (va_Ql (fun (r : Int64) (_ : Unit) => r = rv) (Pst G (tys Y) [(qt 0, oX4 qt t_stamp t_age t_isTurned), (qt 1, .inl (Y 1, 28672, .inr (.inl t_worths)))] sz [(qt 0, oX4 qt t_stamp t_age t_isTurned), (qt 1, .inl (Y 1, 28672, .inr (.inl t_worths)))]) (va_A [(qt 0, oX4 qt t_stamp t_age t_isTurned), (qt 1, .inl (Y 1, 28672, .inr (.inl t_worths)))] sz)) 0 0 (va_A [(qt 0, oX4 qt t_stamp t_age t_isTurned), (qt 1, .inl (Y 1, 28672, .inr (.inl t_worths)))] sz) := by
  refine Met.ofW (cc := cX4_numberAt) (maxL := 6) (ret := (some .long)) (by decide) rfl ?_
  intro p e s m args below meth c s₁ B hml hv
  obtain ⟨rfl, hsz, hP, hK, hD0, hX⟩ := hv
  have hx := B.exec
  have hb := B.bytes
  have hr := B.returns
  have hts := atoms_spec (ws := wsX4_numberAt) B.pre
  have hown : s.vm.findClass RX4 = some m.cls := findClass_of_methodNamed B.named
  have hlocks := B.notSynchronized
  subst hsz
  have hD := hD0.self (sz := s.heap.size)
  generalize hAe : va_A [(qt 0, oX4 qt t_stamp t_age t_isTurned), (qt 1, .inl (Y 1, 28672, .inr (.inl t_worths)))] s.heap.size = A at hD ⊢
  have hA : ∀ q : Nat, s.heap.size ≤ q → A q := fun q h => by rw [← hAe]; exact Or.inr h
  have hS : va_S A s.heap s.heap [] := va_S.rf
  have hP : va_P G vwCl [(qt 0, oX4 qt t_stamp t_age t_isTurned), (qt 1, .inl (Y 1, 28672, .inr (.inl t_worths)))] s.heap := hP
  have wd1 : (Cond.fieldLink RX4 9 "PairedLines$Table" "worths" "[J").before [.ref (qt 0), .int p1, .int p2, .int p3].toArray s = true := hts _ (List.mem_of_getElem? (i := 1) rfl)
  have inX4w : ∀ w ∈ u_ws RX4 TX4 8, w ∈ wsX4_numberAt := fun w hw => List.mem_cons_of_mem _ (List.mem_append_right _ (hw))
  have hl := lv_entry ([.ref (qt 0), .int p1, .int p2, .int p3]) (n := 6) (Nat.le_of_ble_eq_true rfl)
  rw [lg_entry_eq]
  generalize (lg_sl ([.ref (qt 0), .int p1, .int p2, .int p3]) ++ List.replicate (6 - (lg_sl ([.ref (qt 0), .int p1, .int p2, .int p3])).length) Slot.unset).toArray = ls at hl ⊢
  have hl : lv_has ls 6 [(0, .ref (qt 0)), (1, .int p1), (2, .int p2), (3, .int p3)] := hl
  have E0 : ∀ (H : Heap) (locs : List Loc), va_P G vwCl [(qt 0, oX4 qt t_stamp t_age t_isTurned), (qt 1, .inl (Y 1, 28672, .inr (.inl t_worths)))] H → va_D A [(qt 0, oX4 qt t_stamp t_age t_isTurned), (qt 1, .inl (Y 1, 28672, .inr (.inl t_worths)))] → va_S A s.heap H locs → ∀ (ls : Array Slot), lv_has ls 6 [(0, .ref (qt 0)), (1, .int p1), (2, .int p2), (3, .int p3)] → W p l e (headSpec wsX4_numberAt (rmk 0 0)).room s m [.ref (qt 0), .int p1, .int p2, .int p3].toArray below meth c H locs 0 0 (MQ below (va_Ql (fun (r : Int64) (_ : Unit) => r = rv) (Pst G (tys Y) [(qt 0, oX4 qt t_stamp t_age t_isTurned), (qt 1, .inl (Y 1, 28672, .inr (.inl t_worths)))] s.heap.size [(qt 0, oX4 qt t_stamp t_age t_isTurned), (qt 1, .inl (Y 1, 28672, .inr (.inl t_worths)))]) A) [.ref (qt 0), .int p1, .int p2, .int p3].toArray s 0 0 A) (F0 m 0 ls []) := by
    intro H locs hP hD hS ls hl
    unfold f_X4_numberAt at hf
    refine lv_iload_n hx hb dX4_numberAt_0 rfl (lv_at hl 2 rfl) ?_
    refine lv_iload_n hx hb dX4_numberAt_1 rfl (lv_at hl 3 rfl) ?_
    refine lv_isub hx hb dX4_numberAt_2 ?_
    refine lv_topi (fun v1 e_v1 => ?_)
    have hf := nm_at hf e_v1
    refine lv_istore (lv' := [(4, .int v1), (0, .ref (qt 0)), (1, .int p1), (2, .int p2), (3, .int p3)]) hx hb dX4_numberAt_3 hl (by decide) rfl (fun ls hl => ?_)
    refine lv_iload hx hb dX4_numberAt_5 (lv_at hl 0 rfl) ?_
    refine lv_if_lt (tgt := 17) hx hb dX4_numberAt_7 (by decide) (fun c2 => ?_) (fun c2 => ?_)
    · have hf := it hf c2
      refine lv_lconst (v := 0) hx hb dX4_numberAt_17 (by decide) ?_
      have e0 := rt1 hf
      exact W.lret (v := (0 : Int64)) hx hb hr (fun t ht hW => ⟨⟨(0 : Int64), (), rfl, e0, by rw [ht]; exact hP, va_K.moved hW.alike hK, by rw [hAe]; exact hD⟩, hS.F ht⟩) hS.2.2 dX4_numberAt_18
    · have hf := ie hf c2
      refine lv_iload hx hb dX4_numberAt_10 (lv_at hl 0 rfl) ?_
      refine lv_iconst (v := 2) hx hb dX4_numberAt_12 (by decide) ?_
      obtain ⟨g3, hf⟩ := gd hf
      refine lv_irem hx hb dX4_numberAt_13 g3 ?_
      refine lv_if_eq (tgt := 19) hx hb dX4_numberAt_14 (by decide) (fun c4 => ?_) (fun c4 => ?_)
      · have hf := it hf c4
        refine lv_iload hx hb dX4_numberAt_19 (lv_at hl 0 rfl) ?_
        refine lv_iconst (v := 2) hx hb dX4_numberAt_21 (by decide) ?_
        obtain ⟨g5, hf⟩ := gd hf
        refine lv_idiv hx hb dX4_numberAt_22 g5 ?_
        refine lv_topi (fun v6 e_v6 => ?_)
        have hf := nm_at hf e_v6
        refine lv_istore (lv' := [(5, .int v6), (4, .int v1), (0, .ref (qt 0)), (1, .int p1), (2, .int p2), (3, .int p3)]) hx hb dX4_numberAt_23 hl (by decide) rfl (fun ls hl => ?_)
        refine lv_iload hx hb dX4_numberAt_25 (lv_at hl 0 rfl) ?_
        refine lv_iconst (v := 2) hx hb dX4_numberAt_27 (by decide) ?_
        obtain ⟨g7, hf⟩ := gd hf
        refine lv_irem hx hb dX4_numberAt_28 g7 ?_
        refine lv_if_ne (tgt := 44) hx hb dX4_numberAt_29 (by decide) (fun c8 => ?_) (fun c8 => ?_)
        · have hf := ie hf c8
          refine lv_aload_n hx hb dX4_numberAt_44 rfl (lv_at hl 2 rfl) ?_
          refine va_get (D := G) (ci := 3) (v := .ref (qt 1)) (C := RX4) (T := TX4) (N := 8) hx hb hts inX4w hown hK hP 0 rfl rfl 0 (by decide) wd1 (fun _ h9 => h9) rfl dX4_numberAt_45 ?_
          refine lv_iload_n hx hb dX4_numberAt_48 rfl (lv_at hl 3 rfl) ?_
          refine lv_iload hx hb dX4_numberAt_49 (lv_at hl 0 rfl) ?_
          refine lv_iadd hx hb dX4_numberAt_51 ?_
          obtain ⟨g9, hf⟩ := gd hf
          refine va_lald hx hb hK hP 1 1 rfl rfl g9 dX4_numberAt_52 ?_
          refine lv_lneg hx hb dX4_numberAt_53 ?_
          have e0 := rt1 hf
          exact W.lret (v := (-(t_worths (p1 + v6).toNatClampNeg))) hx hb hr (fun t ht hW => ⟨⟨(-(t_worths (p1 + v6).toNatClampNeg)), (), rfl, e0, by rw [ht]; exact hP, va_K.moved hW.alike hK, by rw [hAe]; exact hD⟩, hS.F ht⟩) hS.2.2 dX4_numberAt_54
        · have hf := it hf c8
          refine lv_aload_n hx hb dX4_numberAt_32 rfl (lv_at hl 2 rfl) ?_
          refine va_get (D := G) (ci := 3) (v := .ref (qt 1)) (C := RX4) (T := TX4) (N := 8) hx hb hts inX4w hown hK hP 0 rfl rfl 0 (by decide) wd1 (fun _ h9 => h9) rfl dX4_numberAt_33 ?_
          refine lv_iload_n hx hb dX4_numberAt_36 rfl (lv_at hl 3 rfl) ?_
          refine lv_iload hx hb dX4_numberAt_37 (lv_at hl 0 rfl) ?_
          refine lv_iadd hx hb dX4_numberAt_39 ?_
          obtain ⟨g10, hf⟩ := gd hf
          refine va_lald hx hb hK hP 1 1 rfl rfl g10 dX4_numberAt_40 ?_
          refine lv_goto (tgt := 54) hx hb dX4_numberAt_41 (by decide) ?_
          have e0 := rt1 hf
          exact W.lret (v := (t_worths (p1 + v6).toNatClampNeg)) hx hb hr (fun t ht hW => ⟨⟨(t_worths (p1 + v6).toNatClampNeg), (), rfl, e0, by rw [ht]; exact hP, va_K.moved hW.alike hK, by rw [hAe]; exact hD⟩, hS.F ht⟩) hS.2.2 dX4_numberAt_54
      · have hf := ie hf c4
        refine lv_lconst (v := 0) hx hb dX4_numberAt_17 (by decide) ?_
        have e0 := rt1 hf
        exact W.lret (v := (0 : Int64)) hx hb hr (fun t ht hW => ⟨⟨(0 : Int64), (), rfl, e0, by rw [ht]; exact hP, va_K.moved hW.alike hK, by rw [hAe]; exact hD⟩, hS.F ht⟩) hS.2.2 dX4_numberAt_18
  exact E0 s.heap [] hP hD hS ls hl
-- X4_signAt
set_option maxRecDepth 100000 in
set_option maxHeartbeats 4000000 in
theorem c_X4_signAt (l : Launch) (G : va_G) (Y : Nat → ClassId) (sz : Nat) (qt : Nat → Nat) (t_worths : Nat → Int64) (t_stamp : Int32) (t_age : Int32) (t_isTurned : Int32) (p1 : Int32) (p2 : Int32) (p3 : Int32) (p4 : Int32) (rv : Int32) (hf : f_X4_signAt t_worths p1 p2 p3 p4 = some (rv)) : Met l yX4_signAt wsX4_signAt (rmk 1 25) (va_Pc [.ref (qt 0), .int p1, .int p2, .int p3, .int p4] (Pre G (tys Y) [(qt 0, oX4 qt t_stamp t_age t_isTurned), (qt 1, .inl (Y 1, 28672, .inr (.inl t_worths)))] sz xT)) (va_Qi (fun (r : Int32) (_ : Unit) => r = rv) (Pst G (tys Y) [(qt 0, oX4 qt t_stamp t_age t_isTurned), (qt 1, .inl (Y 1, 28672, .inr (.inl t_worths)))] sz [(qt 0, oX4 qt t_stamp t_age t_isTurned), (qt 1, .inl (Y 1, 28672, .inr (.inl t_worths)))]) (va_A [(qt 0, oX4 qt t_stamp t_age t_isTurned), (qt 1, .inl (Y 1, 28672, .inr (.inl t_worths)))] sz)) 0 0 (va_A [(qt 0, oX4 qt t_stamp t_age t_isTurned), (qt 1, .inl (Y 1, 28672, .inr (.inl t_worths)))] sz) := by
  refine Met.ofW (cc := cX4_signAt) (maxL := 12) (ret := (some .int)) (by decide) rfl ?_
  intro p e s m args below meth c s₁ B hml hv
  obtain ⟨rfl, hsz, hP, hK, hD0, hX⟩ := hv
  have hx := B.exec
  have hb := B.bytes
  have hr := B.returns
  have hts := atoms_spec (ws := wsX4_signAt) B.pre
  have hown : s.vm.findClass RX4 = some m.cls := findClass_of_methodNamed B.named
  have hlocks := B.notSynchronized
  subst hsz
  have hD := hD0.self (sz := s.heap.size)
  generalize hAe : va_A [(qt 0, oX4 qt t_stamp t_age t_isTurned), (qt 1, .inl (Y 1, 28672, .inr (.inl t_worths)))] s.heap.size = A at hD ⊢
  have hA : ∀ q : Nat, s.heap.size ≤ q → A q := fun q h => by rw [← hAe]; exact Or.inr h
  have hS : va_S A s.heap s.heap [] := va_S.rf
  have hP : va_P G vwCl [(qt 0, oX4 qt t_stamp t_age t_isTurned), (qt 1, .inl (Y 1, 28672, .inr (.inl t_worths)))] s.heap := hP
  have hl := lv_entry ([.ref (qt 0), .int p1, .int p2, .int p3, .int p4]) (n := 12) (Nat.le_of_ble_eq_true rfl)
  rw [lg_entry_eq]
  generalize (lg_sl ([.ref (qt 0), .int p1, .int p2, .int p3, .int p4]) ++ List.replicate (12 - (lg_sl ([.ref (qt 0), .int p1, .int p2, .int p3, .int p4])).length) Slot.unset).toArray = ls at hl ⊢
  have hl : lv_has ls 12 [(0, .ref (qt 0)), (1, .int p1), (2, .int p2), (3, .int p3), (4, .int p4)] := hl
  have B26 : ∀ (n26 : Nat), ∀ (x5 : Int64) (x7 : Int64) (x9 : Int32), f_X4_signAt_b26 t_worths p1 p2 p3 p4 n26 x5 x7 x9 = some (rv) → ∀ (H : Heap) (locs : List Loc), va_P G vwCl [(qt 0, oX4 qt t_stamp t_age t_isTurned), (qt 1, .inl (Y 1, 28672, .inr (.inl t_worths)))] H → va_D A [(qt 0, oX4 qt t_stamp t_age t_isTurned), (qt 1, .inl (Y 1, 28672, .inr (.inl t_worths)))] → va_S A s.heap H locs → ∀ (ls : Array Slot), lv_has ls 12 [(0, .ref (qt 0)), (1, .int p1), (2, .int p2), (3, .int p3), (4, .int p4), (5, .long x5), (7, .long x7), (9, .int x9)] → W p l e (headSpec wsX4_signAt (rmk 1 25)).room s m [.ref (qt 0), .int p1, .int p2, .int p3, .int p4].toArray below meth c H locs 0 0 (MQ below (va_Qi (fun (r : Int32) (_ : Unit) => r = rv) (Pst G (tys Y) [(qt 0, oX4 qt t_stamp t_age t_isTurned), (qt 1, .inl (Y 1, 28672, .inr (.inl t_worths)))] s.heap.size [(qt 0, oX4 qt t_stamp t_age t_isTurned), (qt 1, .inl (Y 1, 28672, .inr (.inl t_worths)))]) A) [.ref (qt 0), .int p1, .int p2, .int p3, .int p4].toArray s 0 0 A) (F0 m 26 ls []) := by
    intro n26
    induction n26 with
    | zero =>
      intro x5 x7 x9 hf H locs hP hD hS ls hl
      exact no_none hf
    | succ n26 ih26 =>
      intro x5 x7 x9 hf H locs hP hD hS ls hl
      have hf : f_X4_signAt_s26 t_worths p1 p2 p3 p4 (f_X4_signAt_b26 t_worths p1 p2 p3 p4  n26) x5 x7 x9 = some (rv) := hf
      unfold f_X4_signAt_s26 at hf
      refine lv_iload hx hb dX4_signAt_26 (lv_at hl 7 rfl) ?_
      refine lv_iload_n hx hb dX4_signAt_28 rfl (lv_at hl 2 rfl) ?_
      refine lv_icmp_gt (tgt := 113) hx hb dX4_signAt_29 (by decide) (fun c1 => ?_) (fun c1 => ?_)
      · have hf := it hf c1
        refine lv_lload hx hb dX4_signAt_113 (lv_at hl 5 rfl) ?_
        refine lv_lconst (v := 0) hx hb dX4_signAt_115 (by decide) ?_
        obtain ⟨r2, hc, hf⟩ := bd1 hf
        refine cl_i (ws' := [(qt 0, oX4 qt t_stamp t_age t_isTurned), (qt 1, .inl (Y 1, 28672, .inr (.inl t_worths)))]) (wr := [(qt 0, oX4 qt t_stamp t_age t_isTurned), (qt 1, .inl (Y 1, 28672, .inr (.inl t_worths)))]) (rnS (As := [.long x5, .long (0 : Int64)]) (rest := []) ⟨hx, hb, hml, hown, hts⟩ (c_J13_compare_74951 l G Y H.size x5 (0 : Int64) r2 hc) (va_cwS 2 hts gX4_signAt_J13_compare_74951 rfl rfl rfl (by decide +kernel) ⟨(Nat.le_of_ble_eq_true rfl), (Nat.le_of_ble_eq_true rfl)⟩) trivial okT hK hP hD [] rfl rfl rfl hl.1 rfl (Nat.le_of_ble_eq_true rfl) dX4_signAt_116) hP hD hS hA [] [0, 1] [0, 1] rfl rfl rfl (by decide) rfl rfl (fun H locs hP hD hS => ?_)
        have e0 := rt1 hf
        exact W.iret (v := r2) hx hb hr (fun t ht hW => ⟨⟨r2, (), rfl, e0, by rw [ht]; exact hP, va_K.moved hW.alike hK, by rw [hAe]; exact hD⟩, hS.F ht⟩) hS.2.2 dX4_signAt_119
      · have hf := ie hf c1
        refine lv_lload hx hb dX4_signAt_32 (lv_at hl 6 rfl) ?_
        refine lv_iload hx hb dX4_signAt_34 (lv_at hl 4 rfl) ?_
        refine lv_i2l hx hb dX4_signAt_36 rfl ?_
        refine lv_lmul hx hb dX4_signAt_37 ?_
        refine lv_topl (fun v3 e_v3 => ?_)
        have hf := nm_at hf e_v3
        refine lv_lstore (lv' := [(7, .long v3), (0, .ref (qt 0)), (1, .int p1), (2, .int p2), (3, .int p3), (4, .int p4), (5, .long x5), (9, .int x9)]) hx hb dX4_signAt_38 hl (by decide) rfl (fun ls hl => ?_)
        refine lv_aload_n hx hb dX4_signAt_40 rfl (lv_at hl 1 rfl) ?_
        refine lv_iload_n hx hb dX4_signAt_41 rfl (lv_at hl 2 rfl) ?_
        refine lv_iload_n hx hb dX4_signAt_42 rfl (lv_at hl 3 rfl) ?_
        refine lv_iload_n hx hb dX4_signAt_43 rfl (lv_at hl 3 rfl) ?_
        refine lv_iload hx hb dX4_signAt_44 (lv_at hl 7 rfl) ?_
        refine lv_isub hx hb dX4_signAt_46 ?_
        obtain ⟨r4, hc, hf⟩ := bd1 hf
        refine cl_l (ws' := [(qt 0, oX4 qt t_stamp t_age t_isTurned), (qt 1, .inl (Y 1, 28672, .inr (.inl t_worths)))]) (wr := []) (rnV (As := [.int p1, .int p2, .int (p2 - x9)]) (rest := []) ⟨hx, hb, hml, hown, hts⟩ (c_X4_numberAt l G Y H.size qt t_worths t_stamp t_age t_isTurned p1 p2 (p2 - x9) r4 hc) (cwV 3 hts gX4_signAt_X4_numberAt rfl rfl rfl (by decide +kernel) ⟨(Nat.le_of_ble_eq_true rfl), (Nat.le_of_ble_eq_true rfl)⟩) trivial okT hK hP hD [0, 1] rfl rfl (ci := 3) (q0 := 0) rfl rfl rfl rfl hl.1 rfl (Nat.le_of_ble_eq_true rfl) dX4_signAt_47) hP hD hS hA [0, 1] [] [0, 1] rfl rfl rfl (by decide) rfl rfl (fun H locs hP hD hS => ?_)
        refine lv_lstore (lv' := [(10, .long r4), (7, .long v3), (0, .ref (qt 0)), (1, .int p1), (2, .int p2), (3, .int p3), (4, .int p4), (5, .long x5), (9, .int x9)]) hx hb dX4_signAt_50 hl (by decide) rfl (fun ls hl => ?_)
        refine lv_lload hx hb dX4_signAt_52 (lv_at hl 7 rfl) ?_
        refine lv_iload_n hx hb dX4_signAt_54 rfl (lv_at hl 5 rfl) ?_
        refine lv_i2l hx hb dX4_signAt_55 rfl ?_
        obtain ⟨r5, hc, hf⟩ := bd1 hf
        refine cl_i (ws' := [(qt 0, oX4 qt t_stamp t_age t_isTurned), (qt 1, .inl (Y 1, 28672, .inr (.inl t_worths)))]) (wr := [(qt 0, oX4 qt t_stamp t_age t_isTurned), (qt 1, .inl (Y 1, 28672, .inr (.inl t_worths)))]) (rnS (As := [.long x5, .long p3.toInt64]) (rest := []) ⟨hx, hb, hml, hown, hts⟩ (c_X7_canMultiply l G Y H.size x5 p3.toInt64 r5 hc) (va_cwS 2 hts gX4_signAt_X7_canMultiply rfl rfl rfl (by decide +kernel) ⟨(Nat.le_of_ble_eq_true rfl), (Nat.le_of_ble_eq_true rfl)⟩) trivial okT hK hP hD [] rfl rfl rfl hl.1 rfl (Nat.le_of_ble_eq_true rfl) dX4_signAt_56) hP hD hS hA [] [0, 1] [0, 1] rfl rfl rfl (by decide) rfl rfl (fun H locs hP hD hS => ?_)
        refine lv_if_eq (tgt := 72) hx hb dX4_signAt_59 (by decide) (fun c6 => ?_) (fun c6 => ?_)
        · have hf := it hf c6
          refine lv_bipush (v := -5) hx hb dX4_signAt_72 (by decide) ?_
          have e0 := rt1 hf
          exact W.iret (v := (-5 : Int32)) hx hb hr (fun t ht hW => ⟨⟨(-5 : Int32), (), rfl, e0, by rw [ht]; exact hP, va_K.moved hW.alike hK, by rw [hAe]; exact hD⟩, hS.F ht⟩) hS.2.2 dX4_signAt_74
        · have hf := ie hf c6
          refine lv_lload hx hb dX4_signAt_62 (lv_at hl 0 rfl) ?_
          refine lv_lload hx hb dX4_signAt_64 (lv_at hl 1 rfl) ?_
          obtain ⟨r7, hc, hf⟩ := bd1 hf
          refine cl_i (ws' := [(qt 0, oX4 qt t_stamp t_age t_isTurned), (qt 1, .inl (Y 1, 28672, .inr (.inl t_worths)))]) (wr := [(qt 0, oX4 qt t_stamp t_age t_isTurned), (qt 1, .inl (Y 1, 28672, .inr (.inl t_worths)))]) (rnS (As := [.long r4, .long v3]) (rest := []) ⟨hx, hb, hml, hown, hts⟩ (c_X7_canMultiply l G Y H.size r4 v3 r7 hc) (va_cwS 2 hts gX4_signAt_X7_canMultiply rfl rfl rfl (by decide +kernel) ⟨(Nat.le_of_ble_eq_true rfl), (Nat.le_of_ble_eq_true rfl)⟩) trivial okT hK hP hD [] rfl rfl rfl hl.1 rfl (Nat.le_of_ble_eq_true rfl) dX4_signAt_66) hP hD hS hA [] [0, 1] [0, 1] rfl rfl rfl (by decide) rfl rfl (fun H locs hP hD hS => ?_)
          refine lv_if_ne (tgt := 75) hx hb dX4_signAt_69 (by decide) (fun c8 => ?_) (fun c8 => ?_)
          · have hf := ie hf c8
            refine lv_lload hx hb dX4_signAt_75 (lv_at hl 7 rfl) ?_
            refine lv_iload_n hx hb dX4_signAt_77 rfl (lv_at hl 5 rfl) ?_
            refine lv_i2l hx hb dX4_signAt_78 rfl ?_
            refine lv_lmul hx hb dX4_signAt_79 ?_
            refine lv_lload hx hb dX4_signAt_80 (lv_at hl 0 rfl) ?_
            refine lv_lload hx hb dX4_signAt_82 (lv_at hl 1 rfl) ?_
            refine lv_lmul hx hb dX4_signAt_84 ?_
            obtain ⟨r9, hc, hf⟩ := bd1 hf
            refine cl_i (ws' := [(qt 0, oX4 qt t_stamp t_age t_isTurned), (qt 1, .inl (Y 1, 28672, .inr (.inl t_worths)))]) (wr := [(qt 0, oX4 qt t_stamp t_age t_isTurned), (qt 1, .inl (Y 1, 28672, .inr (.inl t_worths)))]) (rnS (As := [.long (x5 * p3.toInt64), .long (r4 * v3)]) (rest := []) ⟨hx, hb, hml, hown, hts⟩ (c_X7_canAdd l G Y H.size (x5 * p3.toInt64) (r4 * v3) r9 hc) (va_cwS 2 hts gX4_signAt_X7_canAdd rfl rfl rfl (by decide +kernel) ⟨(Nat.le_of_ble_eq_true rfl), (Nat.le_of_ble_eq_true rfl)⟩) trivial okT hK hP hD [] rfl rfl rfl hl.1 rfl (Nat.le_of_ble_eq_true rfl) dX4_signAt_85) hP hD hS hA [] [0, 1] [0, 1] rfl rfl rfl (by decide) rfl rfl (fun H locs hP hD hS => ?_)
            refine lv_if_ne (tgt := 94) hx hb dX4_signAt_88 (by decide) (fun c10 => ?_) (fun c10 => ?_)
            · have hf := ie hf c10
              refine lv_lload hx hb dX4_signAt_94 (lv_at hl 7 rfl) ?_
              refine lv_iload_n hx hb dX4_signAt_96 rfl (lv_at hl 5 rfl) ?_
              refine lv_i2l hx hb dX4_signAt_97 rfl ?_
              refine lv_lmul hx hb dX4_signAt_98 ?_
              refine lv_lload hx hb dX4_signAt_99 (lv_at hl 0 rfl) ?_
              refine lv_lload hx hb dX4_signAt_101 (lv_at hl 1 rfl) ?_
              refine lv_lmul hx hb dX4_signAt_103 ?_
              refine lv_ladd hx hb dX4_signAt_104 ?_
              refine lv_topl (fun v11 e_v11 => ?_)
              have hf := nm_at hf e_v11
              refine lv_lstore (lv' := [(5, .long v11), (10, .long r4), (7, .long v3), (0, .ref (qt 0)), (1, .int p1), (2, .int p2), (3, .int p3), (4, .int p4), (9, .int x9)]) hx hb dX4_signAt_105 hl (by decide) rfl (fun ls hl => ?_)
              obtain ⟨v12, e_v12⟩ : ∃ z : Int32, z = (x9 + 1) := ⟨_, rfl⟩
              have hf := nm_at hf e_v12
              refine lv_iinc (v := v12) (lv' := [(9, .int v12), (5, .long v11), (10, .long r4), (7, .long v3), (0, .ref (qt 0)), (1, .int p1), (2, .int p2), (3, .int p3), (4, .int p4)]) hx hb dX4_signAt_107 hl (k := 8) rfl (by rw [e_v12]; rfl) (by decide) rfl (fun ls hl => ?_)
              refine lv_goto (tgt := 26) hx hb dX4_signAt_110 (by decide) ?_
              exact ih26 v11 v3 v12 hf _ _ hP hD hS ls (lv_sub hl [4, 5, 6, 7, 8, 1, 3, 0] rfl)
            · have hf := it hf c10
              refine lv_bipush (v := -5) hx hb dX4_signAt_91 (by decide) ?_
              have e0 := rt1 hf
              exact W.iret (v := (-5 : Int32)) hx hb hr (fun t ht hW => ⟨⟨(-5 : Int32), (), rfl, e0, by rw [ht]; exact hP, va_K.moved hW.alike hK, by rw [hAe]; exact hD⟩, hS.F ht⟩) hS.2.2 dX4_signAt_93
          · have hf := it hf c8
            refine lv_bipush (v := -5) hx hb dX4_signAt_72 (by decide) ?_
            have e0 := rt1 hf
            exact W.iret (v := (-5 : Int32)) hx hb hr (fun t ht hW => ⟨⟨(-5 : Int32), (), rfl, e0, by rw [ht]; exact hP, va_K.moved hW.alike hK, by rw [hAe]; exact hD⟩, hS.F ht⟩) hS.2.2 dX4_signAt_74
  have E0 : ∀ (H : Heap) (locs : List Loc), va_P G vwCl [(qt 0, oX4 qt t_stamp t_age t_isTurned), (qt 1, .inl (Y 1, 28672, .inr (.inl t_worths)))] H → va_D A [(qt 0, oX4 qt t_stamp t_age t_isTurned), (qt 1, .inl (Y 1, 28672, .inr (.inl t_worths)))] → va_S A s.heap H locs → ∀ (ls : Array Slot), lv_has ls 12 [(0, .ref (qt 0)), (1, .int p1), (2, .int p2), (3, .int p3), (4, .int p4)] → W p l e (headSpec wsX4_signAt (rmk 1 25)).room s m [.ref (qt 0), .int p1, .int p2, .int p3, .int p4].toArray below meth c H locs 0 0 (MQ below (va_Qi (fun (r : Int32) (_ : Unit) => r = rv) (Pst G (tys Y) [(qt 0, oX4 qt t_stamp t_age t_isTurned), (qt 1, .inl (Y 1, 28672, .inr (.inl t_worths)))] s.heap.size [(qt 0, oX4 qt t_stamp t_age t_isTurned), (qt 1, .inl (Y 1, 28672, .inr (.inl t_worths)))]) A) [.ref (qt 0), .int p1, .int p2, .int p3, .int p4].toArray s 0 0 A) (F0 m 0 ls []) := by
    intro H locs hP hD hS ls hl
    unfold f_X4_signAt at hf
    refine lv_aload_n hx hb dX4_signAt_0 rfl (lv_at hl 0 rfl) ?_
    refine lv_iload_n hx hb dX4_signAt_1 rfl (lv_at hl 1 rfl) ?_
    obtain ⟨r13, hc, hf⟩ := bd1 hf
    refine cl_i (ws' := [(qt 0, oX4 qt t_stamp t_age t_isTurned), (qt 1, .inl (Y 1, 28672, .inr (.inl t_worths)))]) (wr := []) (rnV (As := [.int p1]) (rest := []) ⟨hx, hb, hml, hown, hts⟩ (c_X4_isMuch l G Y H.size qt t_worths t_stamp t_age t_isTurned p1 r13 hc) (cwV 1 hts gX4_signAt_X4_isMuch rfl rfl rfl (by decide +kernel) ⟨(Nat.le_of_ble_eq_true rfl), (Nat.le_of_ble_eq_true rfl)⟩) trivial okT hK hP hD [0, 1] rfl rfl (ci := 3) (q0 := 0) rfl rfl rfl rfl hl.1 rfl (Nat.le_of_ble_eq_true rfl) dX4_signAt_2) hP hD hS hA [0, 1] [] [0, 1] rfl rfl rfl (by decide) rfl rfl (fun H locs hP hD hS => ?_)
    refine lv_if_eq (tgt := 11) hx hb dX4_signAt_5 (by decide) (fun c14 => ?_) (fun c14 => ?_)
    · have hf := it hf c14
      refine lv_aload_n hx hb dX4_signAt_11 rfl (lv_at hl 0 rfl) ?_
      refine lv_iload_n hx hb dX4_signAt_12 rfl (lv_at hl 1 rfl) ?_
      refine lv_iload_n hx hb dX4_signAt_13 rfl (lv_at hl 2 rfl) ?_
      refine lv_iload_n hx hb dX4_signAt_14 rfl (lv_at hl 2 rfl) ?_
      obtain ⟨r15, hc, hf⟩ := bd1 hf
      refine cl_l (ws' := [(qt 0, oX4 qt t_stamp t_age t_isTurned), (qt 1, .inl (Y 1, 28672, .inr (.inl t_worths)))]) (wr := []) (rnV (As := [.int p1, .int p2, .int p2]) (rest := []) ⟨hx, hb, hml, hown, hts⟩ (c_X4_numberAt l G Y H.size qt t_worths t_stamp t_age t_isTurned p1 p2 p2 r15 hc) (cwV 3 hts gX4_signAt_X4_numberAt rfl rfl rfl (by decide +kernel) ⟨(Nat.le_of_ble_eq_true rfl), (Nat.le_of_ble_eq_true rfl)⟩) trivial okT hK hP hD [0, 1] rfl rfl (ci := 3) (q0 := 0) rfl rfl rfl rfl hl.1 rfl (Nat.le_of_ble_eq_true rfl) dX4_signAt_15) hP hD hS hA [0, 1] [] [0, 1] rfl rfl rfl (by decide) rfl rfl (fun H locs hP hD hS => ?_)
      refine lv_lstore (lv' := [(5, .long r15), (0, .ref (qt 0)), (1, .int p1), (2, .int p2), (3, .int p3), (4, .int p4)]) hx hb dX4_signAt_18 hl (by decide) rfl (fun ls hl => ?_)
      refine lv_lconst (v := 1) hx hb dX4_signAt_20 (by decide) ?_
      refine lv_lstore (lv' := [(7, .long (1 : Int64)), (5, .long r15), (0, .ref (qt 0)), (1, .int p1), (2, .int p2), (3, .int p3), (4, .int p4)]) hx hb dX4_signAt_21 hl (by decide) rfl (fun ls hl => ?_)
      refine lv_iconst (v := 1) hx hb dX4_signAt_23 (by decide) ?_
      refine lv_istore (lv' := [(9, .int (1 : Int32)), (7, .long (1 : Int64)), (5, .long r15), (0, .ref (qt 0)), (1, .int p1), (2, .int p2), (3, .int p3), (4, .int p4)]) hx hb dX4_signAt_24 hl (by decide) rfl (fun ls hl => ?_)
      exact B26 70 r15 (1 : Int64) (1 : Int32) hf _ _ hP hD hS ls (lv_sub hl [3, 4, 5, 6, 7, 2, 1, 0] rfl)
    · have hf := ie hf c14
      refine lv_bipush (v := -5) hx hb dX4_signAt_8 (by decide) ?_
      have e0 := rt1 hf
      exact W.iret (v := (-5 : Int32)) hx hb hr (fun t ht hW => ⟨⟨(-5 : Int32), (), rfl, e0, by rw [ht]; exact hP, va_K.moved hW.alike hK, by rw [hAe]; exact hD⟩, hS.F ht⟩) hS.2.2 dX4_signAt_10
  exact E0 s.heap [] hP hD hS ls hl
