-- X9_build
set_option maxRecDepth 100000 in
set_option maxHeartbeats 4000000 in
theorem c_X9_build (l : Launch) (G : va_G) (Y : Nat → ClassId) (sz : Nat) (qx : Nat → Nat) (x_points : Int32) (x_lines : Int32) (x_tide : Int32) (x_kind : Nat → Int32) (x_figure : Nat → Int32) (x_low : Nat → Int32) (x_high : Nat → Int32) (x_isKept : Int32) (x_isMuch : Int32) (x_sum : Int64) (x_once : Int64) (x_twice : Int64) (x_isTermMuch : Int32) (x_nodes : Int32) (x_newMany : Int32) (x_isTooGreat : Int32) (x_come : Int32) (x_foundSet : Int64) (x_sorts : Nat → Int32) (x_sizes : Nat → Int32) (x_wholes : Nat → Int64) (p1 : Int32) (p2 : Int32) (p3 : Int32) (rv : Int32) (o_x_lines : Int32) (o_x_kind : Nat → Int32) (o_x_figure : Nat → Int32) (o_x_low : Nat → Int32) (o_x_high : Nat → Int32) (hf : f_X9_build x_points x_lines x_kind x_figure x_low x_high x_sorts x_sizes x_wholes p1 p2 p3 = some (rv, o_x_lines, o_x_kind, o_x_figure, o_x_low, o_x_high)) : Met l yX9_build wsX9_build (rmk 4 92) (va_Pc [.ref (qx 0), .int p1, .int p2, .int p3] (Pre G (tys Y) [(qx 0, oX9 qx x_points x_lines x_tide x_isKept x_isMuch x_sum x_once x_twice x_isTermMuch x_nodes x_newMany x_isTooGreat x_come x_foundSet), (qx 4, .inl (Y 0, 40, .inl x_kind)), (qx 5, .inl (Y 0, 40, .inl x_figure)), (qx 6, .inl (Y 0, 40, .inl x_low)), (qx 7, .inl (Y 0, 40, .inl x_high)), (qx 33, .inl (Y 0, 4, .inl x_sorts)), (qx 34, .inl (Y 0, 4, .inl x_sizes)), (qx 35, .inl (Y 1, 240, .inr (.inl x_wholes)))] sz xT)) (va_Qi (fun (r : Int32) (_ : Unit) => r = rv) (Pst G (tys Y) [(qx 0, oX9 qx x_points x_lines x_tide x_isKept x_isMuch x_sum x_once x_twice x_isTermMuch x_nodes x_newMany x_isTooGreat x_come x_foundSet), (qx 4, .inl (Y 0, 40, .inl x_kind)), (qx 5, .inl (Y 0, 40, .inl x_figure)), (qx 6, .inl (Y 0, 40, .inl x_low)), (qx 7, .inl (Y 0, 40, .inl x_high)), (qx 33, .inl (Y 0, 4, .inl x_sorts)), (qx 34, .inl (Y 0, 4, .inl x_sizes)), (qx 35, .inl (Y 1, 240, .inr (.inl x_wholes)))] sz [(qx 0, oX9 qx x_points o_x_lines x_tide x_isKept x_isMuch x_sum x_once x_twice x_isTermMuch x_nodes x_newMany x_isTooGreat x_come x_foundSet), (qx 4, .inl (Y 0, 40, .inl o_x_kind)), (qx 5, .inl (Y 0, 40, .inl o_x_figure)), (qx 6, .inl (Y 0, 40, .inl o_x_low)), (qx 7, .inl (Y 0, 40, .inl o_x_high)), (qx 33, .inl (Y 0, 4, .inl x_sorts)), (qx 34, .inl (Y 0, 4, .inl x_sizes)), (qx 35, .inl (Y 1, 240, .inr (.inl x_wholes)))]) (va_A [(qx 0, oX9 qx x_points x_lines x_tide x_isKept x_isMuch x_sum x_once x_twice x_isTermMuch x_nodes x_newMany x_isTooGreat x_come x_foundSet), (qx 4, .inl (Y 0, 40, .inl x_kind)), (qx 5, .inl (Y 0, 40, .inl x_figure)), (qx 6, .inl (Y 0, 40, .inl x_low)), (qx 7, .inl (Y 0, 40, .inl x_high)), (qx 33, .inl (Y 0, 4, .inl x_sorts)), (qx 34, .inl (Y 0, 4, .inl x_sizes)), (qx 35, .inl (Y 1, 240, .inr (.inl x_wholes)))] sz)) 0 0 (va_A [(qx 0, oX9 qx x_points x_lines x_tide x_isKept x_isMuch x_sum x_once x_twice x_isTermMuch x_nodes x_newMany x_isTooGreat x_come x_foundSet), (qx 4, .inl (Y 0, 40, .inl x_kind)), (qx 5, .inl (Y 0, 40, .inl x_figure)), (qx 6, .inl (Y 0, 40, .inl x_low)), (qx 7, .inl (Y 0, 40, .inl x_high)), (qx 33, .inl (Y 0, 4, .inl x_sorts)), (qx 34, .inl (Y 0, 4, .inl x_sizes)), (qx 35, .inl (Y 1, 240, .inr (.inl x_wholes)))] sz) := by
  refine Met.ofW (cc := cX9_build) (maxL := 9) (ret := (some .int)) (by decide) rfl ?_
  intro p e s m args below meth c s₁ B hml hv
  obtain ⟨rfl, hsz, hP, hK, hD0, hX⟩ := hv
  have hx := B.exec
  have hb := B.bytes
  have hr := B.returns
  have hts := atoms_spec (ws := wsX9_build) B.pre
  have hown : s.vm.findClass RX9 = some m.cls := findClass_of_methodNamed B.named
  have hlocks := B.notSynchronized
  subst hsz
  have hD := hD0.self (sz := s.heap.size)
  generalize hAe : va_A [(qx 0, oX9 qx x_points x_lines x_tide x_isKept x_isMuch x_sum x_once x_twice x_isTermMuch x_nodes x_newMany x_isTooGreat x_come x_foundSet), (qx 4, .inl (Y 0, 40, .inl x_kind)), (qx 5, .inl (Y 0, 40, .inl x_figure)), (qx 6, .inl (Y 0, 40, .inl x_low)), (qx 7, .inl (Y 0, 40, .inl x_high)), (qx 33, .inl (Y 0, 4, .inl x_sorts)), (qx 34, .inl (Y 0, 4, .inl x_sizes)), (qx 35, .inl (Y 1, 240, .inr (.inl x_wholes)))] s.heap.size = A at hD ⊢
  have hA : ∀ q : Nat, s.heap.size ≤ q → A q := fun q h => by rw [← hAe]; exact Or.inr h
  have hS : va_S A s.heap s.heap [] := va_S.rf
  have hP : va_P G vwCl [(qx 0, oX9 qx x_points x_lines x_tide x_isKept x_isMuch x_sum x_once x_twice x_isTermMuch x_nodes x_newMany x_isTooGreat x_come x_foundSet), (qx 4, .inl (Y 0, 40, .inl x_kind)), (qx 5, .inl (Y 0, 40, .inl x_figure)), (qx 6, .inl (Y 0, 40, .inl x_low)), (qx 7, .inl (Y 0, 40, .inl x_high)), (qx 33, .inl (Y 0, 4, .inl x_sorts)), (qx 34, .inl (Y 0, 4, .inl x_sizes)), (qx 35, .inl (Y 1, 240, .inr (.inl x_wholes)))] s.heap := hP
  have wd1 : (Cond.constantLong RX9 345 (15)).before [.ref (qx 0), .int p1, .int p2, .int p3].toArray s = true := hts _ (List.mem_of_getElem? (i := 1) rfl)
  have wd2 : (Cond.fieldLink RX9 65 "PairedLinesModel" "sorts" "[I").before [.ref (qx 0), .int p1, .int p2, .int p3].toArray s = true := hts _ (List.mem_of_getElem? (i := 2) rfl)
  have wd3 : (Cond.constantLong RX9 321 (4)).before [.ref (qx 0), .int p1, .int p2, .int p3].toArray s = true := hts _ (List.mem_of_getElem? (i := 3) rfl)
  have wd4 : (Cond.fieldLink RX9 68 "PairedLinesModel" "sizes" "[I").before [.ref (qx 0), .int p1, .int p2, .int p3].toArray s = true := hts _ (List.mem_of_getElem? (i := 4) rfl)
  have wd5 : (Cond.fieldLink RX9 71 "PairedLinesModel" "wholes" "[J").before [.ref (qx 0), .int p1, .int p2, .int p3].toArray s = true := hts _ (List.mem_of_getElem? (i := 5) rfl)
  have inX9w : ∀ w ∈ u_ws RX9 TX9 37, w ∈ wsX9_build := fun w hw => List.mem_cons_of_mem _ (List.mem_append_right _ (hw))
  have hl := lv_entry ([.ref (qx 0), .int p1, .int p2, .int p3]) (n := 9) (Nat.le_of_ble_eq_true rfl)
  rw [lg_entry_eq]
  generalize (lg_sl ([.ref (qx 0), .int p1, .int p2, .int p3]) ++ List.replicate (9 - (lg_sl ([.ref (qx 0), .int p1, .int p2, .int p3])).length) Slot.unset).toArray = ls at hl ⊢
  have hl : lv_has ls 9 [(0, .ref (qx 0)), (1, .int p1), (2, .int p2), (3, .int p3)] := hl
  have B52 : ∀ (n52 : Nat), ∀ (b_x_lines : Int32) (b_x_kind : Nat → Int32) (b_x_figure : Nat → Int32) (b_x_low : Nat → Int32) (b_x_high : Nat → Int32) (x4 : Int32) (x5 : Int32), f_X9_build_b52 x_points x_sorts x_sizes x_wholes p1 p2 p3 n52 b_x_lines b_x_kind b_x_figure b_x_low b_x_high x4 x5 = some (rv, o_x_lines, o_x_kind, o_x_figure, o_x_low, o_x_high) → ∀ (H : Heap) (locs : List Loc), va_P G vwCl [(qx 0, oX9 qx x_points b_x_lines x_tide x_isKept x_isMuch x_sum x_once x_twice x_isTermMuch x_nodes x_newMany x_isTooGreat x_come x_foundSet), (qx 4, .inl (Y 0, 40, .inl b_x_kind)), (qx 5, .inl (Y 0, 40, .inl b_x_figure)), (qx 6, .inl (Y 0, 40, .inl b_x_low)), (qx 7, .inl (Y 0, 40, .inl b_x_high)), (qx 33, .inl (Y 0, 4, .inl x_sorts)), (qx 34, .inl (Y 0, 4, .inl x_sizes)), (qx 35, .inl (Y 1, 240, .inr (.inl x_wholes)))] H → va_D A [(qx 0, oX9 qx x_points b_x_lines x_tide x_isKept x_isMuch x_sum x_once x_twice x_isTermMuch x_nodes x_newMany x_isTooGreat x_come x_foundSet), (qx 4, .inl (Y 0, 40, .inl b_x_kind)), (qx 5, .inl (Y 0, 40, .inl b_x_figure)), (qx 6, .inl (Y 0, 40, .inl b_x_low)), (qx 7, .inl (Y 0, 40, .inl b_x_high)), (qx 33, .inl (Y 0, 4, .inl x_sorts)), (qx 34, .inl (Y 0, 4, .inl x_sizes)), (qx 35, .inl (Y 1, 240, .inr (.inl x_wholes)))] → va_S A s.heap H locs → ∀ (ls : Array Slot), lv_has ls 9 [(0, .ref (qx 0)), (1, .int p1), (2, .int p2), (3, .int p3), (4, .int x4), (5, .int x5)] → W p l e (headSpec wsX9_build (rmk 4 92)).room s m [.ref (qx 0), .int p1, .int p2, .int p3].toArray below meth c H locs 0 0 (MQ below (va_Qi (fun (r : Int32) (_ : Unit) => r = rv) (Pst G (tys Y) [(qx 0, oX9 qx x_points x_lines x_tide x_isKept x_isMuch x_sum x_once x_twice x_isTermMuch x_nodes x_newMany x_isTooGreat x_come x_foundSet), (qx 4, .inl (Y 0, 40, .inl x_kind)), (qx 5, .inl (Y 0, 40, .inl x_figure)), (qx 6, .inl (Y 0, 40, .inl x_low)), (qx 7, .inl (Y 0, 40, .inl x_high)), (qx 33, .inl (Y 0, 4, .inl x_sorts)), (qx 34, .inl (Y 0, 4, .inl x_sizes)), (qx 35, .inl (Y 1, 240, .inr (.inl x_wholes)))] s.heap.size [(qx 0, oX9 qx x_points o_x_lines x_tide x_isKept x_isMuch x_sum x_once x_twice x_isTermMuch x_nodes x_newMany x_isTooGreat x_come x_foundSet), (qx 4, .inl (Y 0, 40, .inl o_x_kind)), (qx 5, .inl (Y 0, 40, .inl o_x_figure)), (qx 6, .inl (Y 0, 40, .inl o_x_low)), (qx 7, .inl (Y 0, 40, .inl o_x_high)), (qx 33, .inl (Y 0, 4, .inl x_sorts)), (qx 34, .inl (Y 0, 4, .inl x_sizes)), (qx 35, .inl (Y 1, 240, .inr (.inl x_wholes)))]) A) [.ref (qx 0), .int p1, .int p2, .int p3].toArray s 0 0 A) (F0 m 52 ls []) := by
    intro n52
    induction n52 with
    | zero =>
      intro b_x_lines b_x_kind b_x_figure b_x_low b_x_high x4 x5 hf H locs hP hD hS ls hl
      exact no_none hf
    | succ n52 ih52 =>
      intro b_x_lines b_x_kind b_x_figure b_x_low b_x_high x4 x5 hf H locs hP hD hS ls hl
      have hf : f_X9_build_s52 x_points x_sorts x_sizes x_wholes p1 p2 p3 (f_X9_build_b52 x_points x_sorts x_sizes x_wholes p1 p2 p3  n52) b_x_lines b_x_kind b_x_figure b_x_low b_x_high x4 x5 = some (rv, o_x_lines, o_x_kind, o_x_figure, o_x_low, o_x_high) := hf
      unfold f_X9_build_s52 at hf
      refine lv_iload hx hb dX9_build_52 (lv_at hl 5 rfl) ?_
      refine lv_iload_n hx hb dX9_build_54 rfl (lv_at hl 3 rfl) ?_
      refine lv_icmp_ge (tgt := 162) hx hb dX9_build_55 (by decide) (fun c1 => ?_) (fun c1 => ?_)
      · have hf := it hf c1
        refine lv_iload hx hb dX9_build_162 (lv_at hl 4 rfl) ?_
        obtain ⟨e0, e1, e2, e3, e4, e5⟩ := rt6 hf
        have hP : va_P G vwCl [(qx 0, oX9 qx x_points o_x_lines x_tide x_isKept x_isMuch x_sum x_once x_twice x_isTermMuch x_nodes x_newMany x_isTooGreat x_come x_foundSet), (qx 4, .inl (Y 0, 40, .inl o_x_kind)), (qx 5, .inl (Y 0, 40, .inl o_x_figure)), (qx 6, .inl (Y 0, 40, .inl o_x_low)), (qx 7, .inl (Y 0, 40, .inl o_x_high)), (qx 33, .inl (Y 0, 4, .inl x_sorts)), (qx 34, .inl (Y 0, 4, .inl x_sizes)), (qx 35, .inl (Y 1, 240, .inr (.inl x_wholes)))] H := by rw [← e1, ← e2, ← e3, ← e4, ← e5]; exact hP
        have hD : va_D A [(qx 0, oX9 qx x_points o_x_lines x_tide x_isKept x_isMuch x_sum x_once x_twice x_isTermMuch x_nodes x_newMany x_isTooGreat x_come x_foundSet), (qx 4, .inl (Y 0, 40, .inl o_x_kind)), (qx 5, .inl (Y 0, 40, .inl o_x_figure)), (qx 6, .inl (Y 0, 40, .inl o_x_low)), (qx 7, .inl (Y 0, 40, .inl o_x_high)), (qx 33, .inl (Y 0, 4, .inl x_sorts)), (qx 34, .inl (Y 0, 4, .inl x_sizes)), (qx 35, .inl (Y 1, 240, .inr (.inl x_wholes)))] := by rw [← e1, ← e2, ← e3, ← e4, ← e5]; exact hD
        exact W.iret (v := x4) hx hb hr (fun t ht hW => ⟨⟨x4, (), rfl, e0, by rw [ht]; exact hP, va_K.moved hW.alike hK, by rw [hAe]; exact hD⟩, hS.F ht⟩) hS.2.2 dX9_build_164
      · have hf := ie hf c1
        refine lv_iload_n hx hb dX9_build_58 rfl (lv_at hl 2 rfl) ?_
        refine lv_i2l hx hb dX9_build_59 rfl ?_
        refine lv_ldc2 hx hb hown wd3 dX9_build_60 ?_
        refine lv_iload hx hb dX9_build_63 (lv_at hl 5 rfl) ?_
        refine lv_i2l hx hb dX9_build_65 rfl ?_
        refine lv_lmul hx hb dX9_build_66 ?_
        refine lv_ladd hx hb dX9_build_67 ?_
        refine lv_topl (fun v2 e_v2 => ?_)
        have hf := nm_at hf e_v2
        refine lv_lstore (lv' := [(6, .long v2), (0, .ref (qx 0)), (1, .int p1), (2, .int p2), (3, .int p3), (4, .int x4), (5, .int x5)]) hx hb dX9_build_68 hl (by decide) rfl (fun ls hl => ?_)
        refine lv_lload hx hb dX9_build_70 (lv_at hl 0 rfl) ?_
        refine lv_lconst (v := 0) hx hb dX9_build_72 (by decide) ?_
        refine lv_aload_n hx hb dX9_build_73 rfl (lv_at hl 1 rfl) ?_
        refine va_get (D := G) (ci := 7) (v := .ref (qx 34)) (C := RX9) (T := TX9) (N := 37) hx hb hts inX9w hown hK hP 0 rfl rfl 33 (by decide) wd4 (fun _ h9 => h9) rfl dX9_build_74 ?_
        refine lv_iload_n hx hb dX9_build_77 rfl (lv_at hl 2 rfl) ?_
        obtain ⟨g3, hf⟩ := gd hf
        refine va_iald hx hb hK hP 6 0 rfl rfl g3 dX9_build_78 ?_
        refine lv_iconst (v := 4) hx hb dX9_build_79 (by decide) ?_
        refine lv_isub hx hb dX9_build_80 ?_
        refine lv_i2l hx hb dX9_build_81 rfl ?_
        obtain ⟨r4, hc, hf⟩ := bd1 hf
        refine cl_i (ws' := [(qx 0, oX9 qx x_points b_x_lines x_tide x_isKept x_isMuch x_sum x_once x_twice x_isTermMuch x_nodes x_newMany x_isTooGreat x_come x_foundSet), (qx 4, .inl (Y 0, 40, .inl b_x_kind)), (qx 5, .inl (Y 0, 40, .inl b_x_figure)), (qx 6, .inl (Y 0, 40, .inl b_x_low)), (qx 7, .inl (Y 0, 40, .inl b_x_high)), (qx 33, .inl (Y 0, 4, .inl x_sorts)), (qx 34, .inl (Y 0, 4, .inl x_sizes)), (qx 35, .inl (Y 1, 240, .inr (.inl x_wholes)))]) (wr := [(qx 0, oX9 qx x_points b_x_lines x_tide x_isKept x_isMuch x_sum x_once x_twice x_isTermMuch x_nodes x_newMany x_isTooGreat x_come x_foundSet), (qx 4, .inl (Y 0, 40, .inl b_x_kind)), (qx 5, .inl (Y 0, 40, .inl b_x_figure)), (qx 6, .inl (Y 0, 40, .inl b_x_low)), (qx 7, .inl (Y 0, 40, .inl b_x_high)), (qx 33, .inl (Y 0, 4, .inl x_sorts)), (qx 34, .inl (Y 0, 4, .inl x_sizes)), (qx 35, .inl (Y 1, 240, .inr (.inl x_wholes)))]) (rnS (As := [.long v2, .long (0 : Int64), .long (((x_sizes p1.toNatClampNeg) - (4 : Int32)).toInt64)]) (rest := []) ⟨hx, hb, hml, hown, hts⟩ (c_X9_in l G Y H.size v2 (0 : Int64) (((x_sizes p1.toNatClampNeg) - (4 : Int32)).toInt64) r4 hc) (va_cwS 3 hts gX9_build_X9_in rfl rfl rfl (by decide +kernel) ⟨(Nat.le_of_ble_eq_true rfl), (Nat.le_of_ble_eq_true rfl)⟩) trivial okT hK hP hD [] rfl rfl rfl hl.1 rfl (Nat.le_of_ble_eq_true rfl) dX9_build_82) hP hD hS hA [] [0, 1, 2, 3, 4, 5, 6, 7] [0, 1, 2, 3, 4, 5, 6, 7] rfl rfl rfl (by decide) rfl rfl (fun H locs hP hD hS => ?_)
        refine lv_if_ne (tgt := 91) hx hb dX9_build_85 (by decide) (fun c5 => ?_) (fun c5 => ?_)
        · have hf := ie hf c5
          refine lv_bipush (v := 60) hx hb dX9_build_91 (by decide) ?_
          refine lv_iload_n hx hb dX9_build_93 rfl (lv_at hl 2 rfl) ?_
          refine lv_imul hx hb dX9_build_94 ?_
          refine lv_lload hx hb dX9_build_95 (lv_at hl 0 rfl) ?_
          refine lv_l2i hx hb dX9_build_97 rfl ?_
          refine lv_iadd hx hb dX9_build_98 ?_
          refine lv_topi (fun v6 e_v6 => ?_)
          have hf := nm_at hf e_v6
          refine lv_istore (lv' := [(8, .int v6), (6, .long v2), (0, .ref (qx 0)), (1, .int p1), (2, .int p2), (3, .int p3), (4, .int x4), (5, .int x5)]) hx hb dX9_build_99 hl (by decide) rfl (fun ls hl => ?_)
          refine lv_iload hx hb dX9_build_101 (lv_at hl 6 rfl) ?_
          refine lv_aload_n hx hb dX9_build_103 rfl (lv_at hl 2 rfl) ?_
          refine lv_aload_n hx hb dX9_build_104 rfl (lv_at hl 2 rfl) ?_
          refine va_get (D := G) (ci := 7) (v := .ref (qx 35)) (C := RX9) (T := TX9) (N := 37) hx hb hts inX9w hown hK hP 0 rfl rfl 34 (by decide) wd5 (fun _ h9 => h9) rfl dX9_build_105 ?_
          refine lv_iload hx hb dX9_build_108 (lv_at hl 0 rfl) ?_
          obtain ⟨g7, hf⟩ := gd hf
          refine va_lald hx hb hK hP 7 1 rfl rfl g7 dX9_build_110 ?_
          refine lv_l2i hx hb dX9_build_111 rfl ?_
          refine lv_aload_n hx hb dX9_build_112 rfl (lv_at hl 2 rfl) ?_
          refine va_get (D := G) (ci := 7) (v := .ref (qx 35)) (C := RX9) (T := TX9) (N := 37) hx hb hts inX9w hown hK hP 0 rfl rfl 34 (by decide) wd5 (fun _ h9 => h9) rfl dX9_build_113 ?_
          refine lv_iload hx hb dX9_build_116 (lv_at hl 0 rfl) ?_
          refine lv_iconst (v := 1) hx hb dX9_build_118 (by decide) ?_
          refine lv_iadd hx hb dX9_build_119 ?_
          obtain ⟨g8, hf⟩ := gd hf
          refine va_lald hx hb hK hP 7 1 rfl rfl g8 dX9_build_120 ?_
          refine lv_l2i hx hb dX9_build_121 rfl ?_
          refine lv_aload_n hx hb dX9_build_122 rfl (lv_at hl 2 rfl) ?_
          refine va_get (D := G) (ci := 7) (v := .ref (qx 35)) (C := RX9) (T := TX9) (N := 37) hx hb hts inX9w hown hK hP 0 rfl rfl 34 (by decide) wd5 (fun _ h9 => h9) rfl dX9_build_123 ?_
          refine lv_iload hx hb dX9_build_126 (lv_at hl 0 rfl) ?_
          refine lv_iconst (v := 2) hx hb dX9_build_128 (by decide) ?_
          refine lv_iadd hx hb dX9_build_129 ?_
          obtain ⟨g9, hf⟩ := gd hf
          refine va_lald hx hb hK hP 7 1 rfl rfl g9 dX9_build_130 ?_
          refine lv_l2i hx hb dX9_build_131 rfl ?_
          refine lv_aload_n hx hb dX9_build_132 rfl (lv_at hl 2 rfl) ?_
          refine va_get (D := G) (ci := 7) (v := .ref (qx 35)) (C := RX9) (T := TX9) (N := 37) hx hb hts inX9w hown hK hP 0 rfl rfl 34 (by decide) wd5 (fun _ h9 => h9) rfl dX9_build_133 ?_
          refine lv_iload hx hb dX9_build_136 (lv_at hl 0 rfl) ?_
          refine lv_iconst (v := 3) hx hb dX9_build_138 (by decide) ?_
          refine lv_iadd hx hb dX9_build_139 ?_
          obtain ⟨g10, hf⟩ := gd hf
          refine va_lald hx hb hK hP 7 1 rfl rfl g10 dX9_build_140 ?_
          refine lv_l2i hx hb dX9_build_141 rfl ?_
          obtain ⟨r11, w12, w13, w14, w15, w16, hc, hf⟩ := bd6 hf
          refine cl_i (ws' := [(qx 0, oX9 qx x_points w12 x_tide x_isKept x_isMuch x_sum x_once x_twice x_isTermMuch x_nodes x_newMany x_isTooGreat x_come x_foundSet), (qx 4, .inl (Y 0, 40, .inl w13)), (qx 5, .inl (Y 0, 40, .inl w14)), (qx 6, .inl (Y 0, 40, .inl w15)), (qx 7, .inl (Y 0, 40, .inl w16)), (qx 33, .inl (Y 0, 4, .inl x_sorts)), (qx 34, .inl (Y 0, 4, .inl x_sizes)), (qx 35, .inl (Y 1, 240, .inr (.inl x_wholes)))]) (wr := [(qx 33, .inl (Y 0, 4, .inl x_sorts)), (qx 34, .inl (Y 0, 4, .inl x_sizes)), (qx 35, .inl (Y 1, 240, .inr (.inl x_wholes)))]) (rnV (As := [.int ((x_wholes v6.toNatClampNeg).toInt32), .int ((x_wholes (v6 + (1 : Int32)).toNatClampNeg).toInt32), .int ((x_wholes (v6 + (2 : Int32)).toNatClampNeg).toInt32), .int ((x_wholes (v6 + (3 : Int32)).toNatClampNeg).toInt32)]) (rest := [.int x4]) ⟨hx, hb, hml, hown, hts⟩ (c_X9_line l G Y H.size qx x_points b_x_lines x_tide b_x_kind b_x_figure b_x_low b_x_high x_isKept x_isMuch x_sum x_once x_twice x_isTermMuch x_nodes x_newMany x_isTooGreat x_come x_foundSet ((x_wholes v6.toNatClampNeg).toInt32) ((x_wholes (v6 + (1 : Int32)).toNatClampNeg).toInt32) ((x_wholes (v6 + (2 : Int32)).toNatClampNeg).toInt32) ((x_wholes (v6 + (3 : Int32)).toNatClampNeg).toInt32) r11 w12 w13 w14 w15 w16 hc) (cwV 4 hts gX9_build_X9_line rfl rfl rfl (by decide +kernel) ⟨(Nat.le_of_ble_eq_true rfl), (Nat.le_of_ble_eq_true rfl)⟩) trivial okT hK hP hD [0, 1, 2, 3, 4] rfl rfl (ci := 7) (q0 := 0) rfl rfl rfl rfl hl.1 rfl (Nat.le_of_ble_eq_true rfl) dX9_build_142) hP hD hS hA [0, 1, 2, 3, 4] [5, 6, 7] [3, 4, 5, 6, 7, 0, 1, 2] rfl rfl rfl (by decide) rfl rfl (fun H locs hP hD hS => ?_)
          refine lv_if_ge (tgt := 152) hx hb dX9_build_145 (by decide) (fun c17 => ?_) (fun c17 => ?_)
          · have hf := it hf c17
            refine lv_iconst (v := 1) hx hb dX9_build_152 (by decide) ?_
            refine lv_iadd hx hb dX9_build_153 ?_
            refine lv_topi (fun v18 e_v18 => ?_)
            have hf := nm_at hf e_v18
            refine lv_istore (lv' := [(4, .int v18), (8, .int v6), (6, .long v2), (0, .ref (qx 0)), (1, .int p1), (2, .int p2), (3, .int p3), (5, .int x5)]) hx hb dX9_build_154 hl (by decide) rfl (fun ls hl => ?_)
            obtain ⟨v19, e_v19⟩ : ∃ z : Int32, z = (x5 + 1) := ⟨_, rfl⟩
            have hf := nm_at hf e_v19
            refine lv_iinc (v := v19) (lv' := [(5, .int v19), (4, .int v18), (8, .int v6), (6, .long v2), (0, .ref (qx 0)), (1, .int p1), (2, .int p2), (3, .int p3)]) hx hb dX9_build_156 hl (k := 7) rfl (by rw [e_v19]; rfl) (by decide) rfl (fun ls hl => ?_)
            refine lv_goto (tgt := 52) hx hb dX9_build_159 (by decide) ?_
            exact ih52 w12 w13 w14 w15 w16 v18 v19 hf _ _ hP hD hS ls (lv_sub hl [4, 5, 6, 7, 1, 0] rfl)
          · have hf := ie hf c17
            refine lv_iconst (v := 0) hx hb dX9_build_148 (by decide) ?_
            refine lv_goto (tgt := 153) hx hb dX9_build_149 (by decide) ?_
            refine lv_iadd hx hb dX9_build_153 ?_
            refine lv_topi (fun v20 e_v20 => ?_)
            have hf := nm_at hf e_v20
            refine lv_istore (lv' := [(4, .int v20), (8, .int v6), (6, .long v2), (0, .ref (qx 0)), (1, .int p1), (2, .int p2), (3, .int p3), (5, .int x5)]) hx hb dX9_build_154 hl (by decide) rfl (fun ls hl => ?_)
            obtain ⟨v21, e_v21⟩ : ∃ z : Int32, z = (x5 + 1) := ⟨_, rfl⟩
            have hf := nm_at hf e_v21
            refine lv_iinc (v := v21) (lv' := [(5, .int v21), (4, .int v20), (8, .int v6), (6, .long v2), (0, .ref (qx 0)), (1, .int p1), (2, .int p2), (3, .int p3)]) hx hb dX9_build_156 hl (k := 7) rfl (by rw [e_v21]; rfl) (by decide) rfl (fun ls hl => ?_)
            refine lv_goto (tgt := 52) hx hb dX9_build_159 (by decide) ?_
            exact ih52 w12 w13 w14 w15 w16 v20 v21 hf _ _ hP hD hS ls (lv_sub hl [4, 5, 6, 7, 1, 0] rfl)
        · have hf := it hf c5
          refine lv_bipush (v := -12) hx hb dX9_build_88 (by decide) ?_
          obtain ⟨e0, e1, e2, e3, e4, e5⟩ := rt6 hf
          have hP : va_P G vwCl [(qx 0, oX9 qx x_points o_x_lines x_tide x_isKept x_isMuch x_sum x_once x_twice x_isTermMuch x_nodes x_newMany x_isTooGreat x_come x_foundSet), (qx 4, .inl (Y 0, 40, .inl o_x_kind)), (qx 5, .inl (Y 0, 40, .inl o_x_figure)), (qx 6, .inl (Y 0, 40, .inl o_x_low)), (qx 7, .inl (Y 0, 40, .inl o_x_high)), (qx 33, .inl (Y 0, 4, .inl x_sorts)), (qx 34, .inl (Y 0, 4, .inl x_sizes)), (qx 35, .inl (Y 1, 240, .inr (.inl x_wholes)))] H := by rw [← e1, ← e2, ← e3, ← e4, ← e5]; exact hP
          have hD : va_D A [(qx 0, oX9 qx x_points o_x_lines x_tide x_isKept x_isMuch x_sum x_once x_twice x_isTermMuch x_nodes x_newMany x_isTooGreat x_come x_foundSet), (qx 4, .inl (Y 0, 40, .inl o_x_kind)), (qx 5, .inl (Y 0, 40, .inl o_x_figure)), (qx 6, .inl (Y 0, 40, .inl o_x_low)), (qx 7, .inl (Y 0, 40, .inl o_x_high)), (qx 33, .inl (Y 0, 4, .inl x_sorts)), (qx 34, .inl (Y 0, 4, .inl x_sizes)), (qx 35, .inl (Y 1, 240, .inr (.inl x_wholes)))] := by rw [← e1, ← e2, ← e3, ← e4, ← e5]; exact hD
          exact W.iret (v := (-12 : Int32)) hx hb hr (fun t ht hW => ⟨⟨(-12 : Int32), (), rfl, e0, by rw [ht]; exact hP, va_K.moved hW.alike hK, by rw [hAe]; exact hD⟩, hS.F ht⟩) hS.2.2 dX9_build_90
  have E0 : ∀ (H : Heap) (locs : List Loc), va_P G vwCl [(qx 0, oX9 qx x_points x_lines x_tide x_isKept x_isMuch x_sum x_once x_twice x_isTermMuch x_nodes x_newMany x_isTooGreat x_come x_foundSet), (qx 4, .inl (Y 0, 40, .inl x_kind)), (qx 5, .inl (Y 0, 40, .inl x_figure)), (qx 6, .inl (Y 0, 40, .inl x_low)), (qx 7, .inl (Y 0, 40, .inl x_high)), (qx 33, .inl (Y 0, 4, .inl x_sorts)), (qx 34, .inl (Y 0, 4, .inl x_sizes)), (qx 35, .inl (Y 1, 240, .inr (.inl x_wholes)))] H → va_D A [(qx 0, oX9 qx x_points x_lines x_tide x_isKept x_isMuch x_sum x_once x_twice x_isTermMuch x_nodes x_newMany x_isTooGreat x_come x_foundSet), (qx 4, .inl (Y 0, 40, .inl x_kind)), (qx 5, .inl (Y 0, 40, .inl x_figure)), (qx 6, .inl (Y 0, 40, .inl x_low)), (qx 7, .inl (Y 0, 40, .inl x_high)), (qx 33, .inl (Y 0, 4, .inl x_sorts)), (qx 34, .inl (Y 0, 4, .inl x_sizes)), (qx 35, .inl (Y 1, 240, .inr (.inl x_wholes)))] → va_S A s.heap H locs → ∀ (ls : Array Slot), lv_has ls 9 [(0, .ref (qx 0)), (1, .int p1), (2, .int p2), (3, .int p3)] → W p l e (headSpec wsX9_build (rmk 4 92)).room s m [.ref (qx 0), .int p1, .int p2, .int p3].toArray below meth c H locs 0 0 (MQ below (va_Qi (fun (r : Int32) (_ : Unit) => r = rv) (Pst G (tys Y) [(qx 0, oX9 qx x_points x_lines x_tide x_isKept x_isMuch x_sum x_once x_twice x_isTermMuch x_nodes x_newMany x_isTooGreat x_come x_foundSet), (qx 4, .inl (Y 0, 40, .inl x_kind)), (qx 5, .inl (Y 0, 40, .inl x_figure)), (qx 6, .inl (Y 0, 40, .inl x_low)), (qx 7, .inl (Y 0, 40, .inl x_high)), (qx 33, .inl (Y 0, 4, .inl x_sorts)), (qx 34, .inl (Y 0, 4, .inl x_sizes)), (qx 35, .inl (Y 1, 240, .inr (.inl x_wholes)))] s.heap.size [(qx 0, oX9 qx x_points o_x_lines x_tide x_isKept x_isMuch x_sum x_once x_twice x_isTermMuch x_nodes x_newMany x_isTooGreat x_come x_foundSet), (qx 4, .inl (Y 0, 40, .inl o_x_kind)), (qx 5, .inl (Y 0, 40, .inl o_x_figure)), (qx 6, .inl (Y 0, 40, .inl o_x_low)), (qx 7, .inl (Y 0, 40, .inl o_x_high)), (qx 33, .inl (Y 0, 4, .inl x_sorts)), (qx 34, .inl (Y 0, 4, .inl x_sizes)), (qx 35, .inl (Y 1, 240, .inr (.inl x_wholes)))]) A) [.ref (qx 0), .int p1, .int p2, .int p3].toArray s 0 0 A) (F0 m 0 ls []) := by
    intro H locs hP hD hS ls hl
    unfold f_X9_build at hf
    refine lv_iload_n hx hb dX9_build_0 rfl (lv_at hl 1 rfl) ?_
    obtain ⟨r22, hc, hf⟩ := bd1 hf
    refine cl_i (ws' := [(qx 0, oX9 qx x_points x_lines x_tide x_isKept x_isMuch x_sum x_once x_twice x_isTermMuch x_nodes x_newMany x_isTooGreat x_come x_foundSet), (qx 4, .inl (Y 0, 40, .inl x_kind)), (qx 5, .inl (Y 0, 40, .inl x_figure)), (qx 6, .inl (Y 0, 40, .inl x_low)), (qx 7, .inl (Y 0, 40, .inl x_high)), (qx 33, .inl (Y 0, 4, .inl x_sorts)), (qx 34, .inl (Y 0, 4, .inl x_sizes)), (qx 35, .inl (Y 1, 240, .inr (.inl x_wholes)))]) (wr := [(qx 0, oX9 qx x_points x_lines x_tide x_isKept x_isMuch x_sum x_once x_twice x_isTermMuch x_nodes x_newMany x_isTooGreat x_come x_foundSet), (qx 4, .inl (Y 0, 40, .inl x_kind)), (qx 5, .inl (Y 0, 40, .inl x_figure)), (qx 6, .inl (Y 0, 40, .inl x_low)), (qx 7, .inl (Y 0, 40, .inl x_high)), (qx 33, .inl (Y 0, 4, .inl x_sorts)), (qx 34, .inl (Y 0, 4, .inl x_sizes)), (qx 35, .inl (Y 1, 240, .inr (.inl x_wholes)))]) (rnS (As := [.int p1]) (rest := []) ⟨hx, hb, hml, hown, hts⟩ (c_X9_isSheet l G Y H.size p1 r22 hc) (va_cwS 1 hts gX9_build_X9_isSheet rfl rfl rfl (by decide +kernel) ⟨(Nat.le_of_ble_eq_true rfl), (Nat.le_of_ble_eq_true rfl)⟩) trivial okT hK hP hD [] rfl rfl rfl hl.1 rfl (Nat.le_of_ble_eq_true rfl) dX9_build_1) hP hD hS hA [] [0, 1, 2, 3, 4, 5, 6, 7] [0, 1, 2, 3, 4, 5, 6, 7] rfl rfl rfl (by decide) rfl rfl (fun H locs hP hD hS => ?_)
    refine lv_if_eq (tgt := 19) hx hb dX9_build_4 (by decide) (fun c23 => ?_) (fun c23 => ?_)
    · have hf := it hf c23
      refine lv_bipush (v := -2) hx hb dX9_build_19 (by decide) ?_
      obtain ⟨e0, e1, e2, e3, e4, e5⟩ := rt6 hf
      have hP : va_P G vwCl [(qx 0, oX9 qx x_points o_x_lines x_tide x_isKept x_isMuch x_sum x_once x_twice x_isTermMuch x_nodes x_newMany x_isTooGreat x_come x_foundSet), (qx 4, .inl (Y 0, 40, .inl o_x_kind)), (qx 5, .inl (Y 0, 40, .inl o_x_figure)), (qx 6, .inl (Y 0, 40, .inl o_x_low)), (qx 7, .inl (Y 0, 40, .inl o_x_high)), (qx 33, .inl (Y 0, 4, .inl x_sorts)), (qx 34, .inl (Y 0, 4, .inl x_sizes)), (qx 35, .inl (Y 1, 240, .inr (.inl x_wholes)))] H := by rw [← e1, ← e2, ← e3, ← e4, ← e5]; exact hP
      have hD : va_D A [(qx 0, oX9 qx x_points o_x_lines x_tide x_isKept x_isMuch x_sum x_once x_twice x_isTermMuch x_nodes x_newMany x_isTooGreat x_come x_foundSet), (qx 4, .inl (Y 0, 40, .inl o_x_kind)), (qx 5, .inl (Y 0, 40, .inl o_x_figure)), (qx 6, .inl (Y 0, 40, .inl o_x_low)), (qx 7, .inl (Y 0, 40, .inl o_x_high)), (qx 33, .inl (Y 0, 4, .inl x_sorts)), (qx 34, .inl (Y 0, 4, .inl x_sizes)), (qx 35, .inl (Y 1, 240, .inr (.inl x_wholes)))] := by rw [← e1, ← e2, ← e3, ← e4, ← e5]; exact hD
      exact W.iret (v := (-2 : Int32)) hx hb hr (fun t ht hW => ⟨⟨(-2 : Int32), (), rfl, e0, by rw [ht]; exact hP, va_K.moved hW.alike hK, by rw [hAe]; exact hD⟩, hS.F ht⟩) hS.2.2 dX9_build_21
    · have hf := ie hf c23
      refine lv_iload_n hx hb dX9_build_7 rfl (lv_at hl 3 rfl) ?_
      refine lv_i2l hx hb dX9_build_8 rfl ?_
      refine lv_lconst (v := 0) hx hb dX9_build_9 (by decide) ?_
      refine lv_ldc2 hx hb hown wd1 dX9_build_10 ?_
      obtain ⟨r24, hc, hf⟩ := bd1 hf
      refine cl_i (ws' := [(qx 0, oX9 qx x_points x_lines x_tide x_isKept x_isMuch x_sum x_once x_twice x_isTermMuch x_nodes x_newMany x_isTooGreat x_come x_foundSet), (qx 4, .inl (Y 0, 40, .inl x_kind)), (qx 5, .inl (Y 0, 40, .inl x_figure)), (qx 6, .inl (Y 0, 40, .inl x_low)), (qx 7, .inl (Y 0, 40, .inl x_high)), (qx 33, .inl (Y 0, 4, .inl x_sorts)), (qx 34, .inl (Y 0, 4, .inl x_sizes)), (qx 35, .inl (Y 1, 240, .inr (.inl x_wholes)))]) (wr := [(qx 0, oX9 qx x_points x_lines x_tide x_isKept x_isMuch x_sum x_once x_twice x_isTermMuch x_nodes x_newMany x_isTooGreat x_come x_foundSet), (qx 4, .inl (Y 0, 40, .inl x_kind)), (qx 5, .inl (Y 0, 40, .inl x_figure)), (qx 6, .inl (Y 0, 40, .inl x_low)), (qx 7, .inl (Y 0, 40, .inl x_high)), (qx 33, .inl (Y 0, 4, .inl x_sorts)), (qx 34, .inl (Y 0, 4, .inl x_sizes)), (qx 35, .inl (Y 1, 240, .inr (.inl x_wholes)))]) (rnS (As := [.long p3.toInt64, .long (0 : Int64), .long (15 : Int64)]) (rest := []) ⟨hx, hb, hml, hown, hts⟩ (c_X9_in l G Y H.size p3.toInt64 (0 : Int64) (15 : Int64) r24 hc) (va_cwS 3 hts gX9_build_X9_in rfl rfl rfl (by decide +kernel) ⟨(Nat.le_of_ble_eq_true rfl), (Nat.le_of_ble_eq_true rfl)⟩) trivial okT hK hP hD [] rfl rfl rfl hl.1 rfl (Nat.le_of_ble_eq_true rfl) dX9_build_13) hP hD hS hA [] [0, 1, 2, 3, 4, 5, 6, 7] [0, 1, 2, 3, 4, 5, 6, 7] rfl rfl rfl (by decide) rfl rfl (fun H locs hP hD hS => ?_)
      refine lv_if_ne (tgt := 22) hx hb dX9_build_16 (by decide) (fun c25 => ?_) (fun c25 => ?_)
      · have hf := ie hf c25
        refine lv_aload_n hx hb dX9_build_22 rfl (lv_at hl 0 rfl) ?_
        refine va_get (D := G) (ci := 7) (v := .ref (qx 33)) (C := RX9) (T := TX9) (N := 37) hx hb hts inX9w hown hK hP 0 rfl rfl 32 (by decide) wd2 (fun _ h9 => h9) rfl dX9_build_23 ?_
        refine lv_iload_n hx hb dX9_build_26 rfl (lv_at hl 1 rfl) ?_
        obtain ⟨g26, hf⟩ := gd hf
        refine va_iald hx hb hK hP 5 0 rfl rfl g26 dX9_build_27 ?_
        refine lv_if_ge (tgt := 34) hx hb dX9_build_28 (by decide) (fun c27 => ?_) (fun c27 => ?_)
        · have hf := it hf c27
          refine lv_aload_n hx hb dX9_build_34 rfl (lv_at hl 0 rfl) ?_
          refine va_get (D := G) (ci := 7) (v := .ref (qx 33)) (C := RX9) (T := TX9) (N := 37) hx hb hts inX9w hown hK hP 0 rfl rfl 32 (by decide) wd2 (fun _ h9 => h9) rfl dX9_build_35 ?_
          refine lv_iload_n hx hb dX9_build_38 rfl (lv_at hl 1 rfl) ?_
          obtain ⟨g28, hf⟩ := gd hf
          refine va_iald hx hb hK hP 5 0 rfl rfl g28 dX9_build_39 ?_
          refine lv_if_eq (tgt := 46) hx hb dX9_build_40 (by decide) (fun c29 => ?_) (fun c29 => ?_)
          · have hf := it hf c29
            refine lv_iconst (v := 0) hx hb dX9_build_46 (by decide) ?_
            refine lv_istore (lv' := [(4, .int (0 : Int32)), (0, .ref (qx 0)), (1, .int p1), (2, .int p2), (3, .int p3)]) hx hb dX9_build_47 hl (by decide) rfl (fun ls hl => ?_)
            refine lv_iconst (v := 0) hx hb dX9_build_49 (by decide) ?_
            refine lv_istore (lv' := [(5, .int (0 : Int32)), (4, .int (0 : Int32)), (0, .ref (qx 0)), (1, .int p1), (2, .int p2), (3, .int p3)]) hx hb dX9_build_50 hl (by decide) rfl (fun ls hl => ?_)
            exact B52 70 x_lines x_kind x_figure x_low x_high (0 : Int32) (0 : Int32) hf _ _ hP hD hS ls (lv_sub hl [2, 3, 4, 5, 1, 0] rfl)
          · have hf := ie hf c29
            refine lv_bipush (v := -13) hx hb dX9_build_43 (by decide) ?_
            obtain ⟨e0, e1, e2, e3, e4, e5⟩ := rt6 hf
            have hP : va_P G vwCl [(qx 0, oX9 qx x_points o_x_lines x_tide x_isKept x_isMuch x_sum x_once x_twice x_isTermMuch x_nodes x_newMany x_isTooGreat x_come x_foundSet), (qx 4, .inl (Y 0, 40, .inl o_x_kind)), (qx 5, .inl (Y 0, 40, .inl o_x_figure)), (qx 6, .inl (Y 0, 40, .inl o_x_low)), (qx 7, .inl (Y 0, 40, .inl o_x_high)), (qx 33, .inl (Y 0, 4, .inl x_sorts)), (qx 34, .inl (Y 0, 4, .inl x_sizes)), (qx 35, .inl (Y 1, 240, .inr (.inl x_wholes)))] H := by rw [← e1, ← e2, ← e3, ← e4, ← e5]; exact hP
            have hD : va_D A [(qx 0, oX9 qx x_points o_x_lines x_tide x_isKept x_isMuch x_sum x_once x_twice x_isTermMuch x_nodes x_newMany x_isTooGreat x_come x_foundSet), (qx 4, .inl (Y 0, 40, .inl o_x_kind)), (qx 5, .inl (Y 0, 40, .inl o_x_figure)), (qx 6, .inl (Y 0, 40, .inl o_x_low)), (qx 7, .inl (Y 0, 40, .inl o_x_high)), (qx 33, .inl (Y 0, 4, .inl x_sorts)), (qx 34, .inl (Y 0, 4, .inl x_sizes)), (qx 35, .inl (Y 1, 240, .inr (.inl x_wholes)))] := by rw [← e1, ← e2, ← e3, ← e4, ← e5]; exact hD
            exact W.iret (v := (-13 : Int32)) hx hb hr (fun t ht hW => ⟨⟨(-13 : Int32), (), rfl, e0, by rw [ht]; exact hP, va_K.moved hW.alike hK, by rw [hAe]; exact hD⟩, hS.F ht⟩) hS.2.2 dX9_build_45
        · have hf := ie hf c27
          refine lv_bipush (v := -11) hx hb dX9_build_31 (by decide) ?_
          obtain ⟨e0, e1, e2, e3, e4, e5⟩ := rt6 hf
          have hP : va_P G vwCl [(qx 0, oX9 qx x_points o_x_lines x_tide x_isKept x_isMuch x_sum x_once x_twice x_isTermMuch x_nodes x_newMany x_isTooGreat x_come x_foundSet), (qx 4, .inl (Y 0, 40, .inl o_x_kind)), (qx 5, .inl (Y 0, 40, .inl o_x_figure)), (qx 6, .inl (Y 0, 40, .inl o_x_low)), (qx 7, .inl (Y 0, 40, .inl o_x_high)), (qx 33, .inl (Y 0, 4, .inl x_sorts)), (qx 34, .inl (Y 0, 4, .inl x_sizes)), (qx 35, .inl (Y 1, 240, .inr (.inl x_wholes)))] H := by rw [← e1, ← e2, ← e3, ← e4, ← e5]; exact hP
          have hD : va_D A [(qx 0, oX9 qx x_points o_x_lines x_tide x_isKept x_isMuch x_sum x_once x_twice x_isTermMuch x_nodes x_newMany x_isTooGreat x_come x_foundSet), (qx 4, .inl (Y 0, 40, .inl o_x_kind)), (qx 5, .inl (Y 0, 40, .inl o_x_figure)), (qx 6, .inl (Y 0, 40, .inl o_x_low)), (qx 7, .inl (Y 0, 40, .inl o_x_high)), (qx 33, .inl (Y 0, 4, .inl x_sorts)), (qx 34, .inl (Y 0, 4, .inl x_sizes)), (qx 35, .inl (Y 1, 240, .inr (.inl x_wholes)))] := by rw [← e1, ← e2, ← e3, ← e4, ← e5]; exact hD
          exact W.iret (v := (-11 : Int32)) hx hb hr (fun t ht hW => ⟨⟨(-11 : Int32), (), rfl, e0, by rw [ht]; exact hP, va_K.moved hW.alike hK, by rw [hAe]; exact hD⟩, hS.F ht⟩) hS.2.2 dX9_build_33
      · have hf := it hf c25
        refine lv_bipush (v := -2) hx hb dX9_build_19 (by decide) ?_
        obtain ⟨e0, e1, e2, e3, e4, e5⟩ := rt6 hf
        have hP : va_P G vwCl [(qx 0, oX9 qx x_points o_x_lines x_tide x_isKept x_isMuch x_sum x_once x_twice x_isTermMuch x_nodes x_newMany x_isTooGreat x_come x_foundSet), (qx 4, .inl (Y 0, 40, .inl o_x_kind)), (qx 5, .inl (Y 0, 40, .inl o_x_figure)), (qx 6, .inl (Y 0, 40, .inl o_x_low)), (qx 7, .inl (Y 0, 40, .inl o_x_high)), (qx 33, .inl (Y 0, 4, .inl x_sorts)), (qx 34, .inl (Y 0, 4, .inl x_sizes)), (qx 35, .inl (Y 1, 240, .inr (.inl x_wholes)))] H := by rw [← e1, ← e2, ← e3, ← e4, ← e5]; exact hP
        have hD : va_D A [(qx 0, oX9 qx x_points o_x_lines x_tide x_isKept x_isMuch x_sum x_once x_twice x_isTermMuch x_nodes x_newMany x_isTooGreat x_come x_foundSet), (qx 4, .inl (Y 0, 40, .inl o_x_kind)), (qx 5, .inl (Y 0, 40, .inl o_x_figure)), (qx 6, .inl (Y 0, 40, .inl o_x_low)), (qx 7, .inl (Y 0, 40, .inl o_x_high)), (qx 33, .inl (Y 0, 4, .inl x_sorts)), (qx 34, .inl (Y 0, 4, .inl x_sizes)), (qx 35, .inl (Y 1, 240, .inr (.inl x_wholes)))] := by rw [← e1, ← e2, ← e3, ← e4, ← e5]; exact hD
        exact W.iret (v := (-2 : Int32)) hx hb hr (fun t ht hW => ⟨⟨(-2 : Int32), (), rfl, e0, by rw [ht]; exact hP, va_K.moved hW.alike hK, by rw [hAe]; exact hD⟩, hS.F ht⟩) hS.2.2 dX9_build_21
  exact E0 s.heap [] hP hD hS ls hl
-- X9_image
set_option maxRecDepth 100000 in
set_option maxHeartbeats 4000000 in
theorem c_X9_image (l : Launch) (G : va_G) (Y : Nat → ClassId) (sz : Nat) (qx : Nat → Nat) (x_points : Int32) (x_lines : Int32) (x_tide : Int32) (x_kind : Nat → Int32) (x_figure : Nat → Int32) (x_low : Nat → Int32) (x_high : Nat → Int32) (x_isKept : Int32) (x_kept : Nat → Int32) (x_isMuch : Int32) (x_sum : Int64) (x_once : Int64) (x_twice : Int64) (x_isTermMuch : Int32) (x_nodes : Int32) (x_newMany : Int32) (x_isTooGreat : Int32) (x_come : Int32) (x_foundSet : Int64) (rv : Int32) (o_x_isKept : Int32) (o_x_kept : Nat → Int32) (hf : f_X9_image x_points x_lines x_tide x_kind x_figure x_low x_high x_isKept x_kept = some (rv, o_x_isKept, o_x_kept)) : Met l yX9_image wsX9_image (rmk 0 0) (va_Pc [.ref (qx 0)] (Pre G (tys Y) [(qx 0, oX9 qx x_points x_lines x_tide x_isKept x_isMuch x_sum x_once x_twice x_isTermMuch x_nodes x_newMany x_isTooGreat x_come x_foundSet), (qx 4, .inl (Y 0, 40, .inl x_kind)), (qx 5, .inl (Y 0, 40, .inl x_figure)), (qx 6, .inl (Y 0, 40, .inl x_low)), (qx 7, .inl (Y 0, 40, .inl x_high)), (qx 9, .inl (Y 0, 163, .inl x_kept))] sz xT)) (va_Qi (fun (r : Int32) (_ : Unit) => r = rv) (Pst G (tys Y) [(qx 0, oX9 qx x_points x_lines x_tide x_isKept x_isMuch x_sum x_once x_twice x_isTermMuch x_nodes x_newMany x_isTooGreat x_come x_foundSet), (qx 4, .inl (Y 0, 40, .inl x_kind)), (qx 5, .inl (Y 0, 40, .inl x_figure)), (qx 6, .inl (Y 0, 40, .inl x_low)), (qx 7, .inl (Y 0, 40, .inl x_high)), (qx 9, .inl (Y 0, 163, .inl x_kept))] sz [(qx 0, oX9 qx x_points x_lines x_tide o_x_isKept x_isMuch x_sum x_once x_twice x_isTermMuch x_nodes x_newMany x_isTooGreat x_come x_foundSet), (qx 4, .inl (Y 0, 40, .inl x_kind)), (qx 5, .inl (Y 0, 40, .inl x_figure)), (qx 6, .inl (Y 0, 40, .inl x_low)), (qx 7, .inl (Y 0, 40, .inl x_high)), (qx 9, .inl (Y 0, 163, .inl o_x_kept))]) (va_A [(qx 0, oX9 qx x_points x_lines x_tide x_isKept x_isMuch x_sum x_once x_twice x_isTermMuch x_nodes x_newMany x_isTooGreat x_come x_foundSet), (qx 4, .inl (Y 0, 40, .inl x_kind)), (qx 5, .inl (Y 0, 40, .inl x_figure)), (qx 6, .inl (Y 0, 40, .inl x_low)), (qx 7, .inl (Y 0, 40, .inl x_high)), (qx 9, .inl (Y 0, 163, .inl x_kept))] sz)) 0 0 (va_A [(qx 0, oX9 qx x_points x_lines x_tide x_isKept x_isMuch x_sum x_once x_twice x_isTermMuch x_nodes x_newMany x_isTooGreat x_come x_foundSet), (qx 4, .inl (Y 0, 40, .inl x_kind)), (qx 5, .inl (Y 0, 40, .inl x_figure)), (qx 6, .inl (Y 0, 40, .inl x_low)), (qx 7, .inl (Y 0, 40, .inl x_high)), (qx 9, .inl (Y 0, 163, .inl x_kept))] sz) := by
  refine Met.ofW (cc := cX9_image) (maxL := 2) (ret := (some .int)) (by decide) rfl ?_
  intro p e s m args below meth c s₁ B hml hv
  obtain ⟨rfl, hsz, hP, hK, hD0, hX⟩ := hv
  have hx := B.exec
  have hb := B.bytes
  have hr := B.returns
  have hts := atoms_spec (ws := wsX9_image) B.pre
  have hown : s.vm.findClass RX9 = some m.cls := findClass_of_methodNamed B.named
  have hlocks := B.notSynchronized
  subst hsz
  have hD := hD0.self (sz := s.heap.size)
  generalize hAe : va_A [(qx 0, oX9 qx x_points x_lines x_tide x_isKept x_isMuch x_sum x_once x_twice x_isTermMuch x_nodes x_newMany x_isTooGreat x_come x_foundSet), (qx 4, .inl (Y 0, 40, .inl x_kind)), (qx 5, .inl (Y 0, 40, .inl x_figure)), (qx 6, .inl (Y 0, 40, .inl x_low)), (qx 7, .inl (Y 0, 40, .inl x_high)), (qx 9, .inl (Y 0, 163, .inl x_kept))] s.heap.size = A at hD ⊢
  have hA : ∀ q : Nat, s.heap.size ≤ q → A q := fun q h => by rw [← hAe]; exact Or.inr h
  have hS : va_S A s.heap s.heap [] := va_S.rf
  have hP : va_P G vwCl [(qx 0, oX9 qx x_points x_lines x_tide x_isKept x_isMuch x_sum x_once x_twice x_isTermMuch x_nodes x_newMany x_isTooGreat x_come x_foundSet), (qx 4, .inl (Y 0, 40, .inl x_kind)), (qx 5, .inl (Y 0, 40, .inl x_figure)), (qx 6, .inl (Y 0, 40, .inl x_low)), (qx 7, .inl (Y 0, 40, .inl x_high)), (qx 9, .inl (Y 0, 163, .inl x_kept))] s.heap := hP
  have wd1 : (Cond.fieldLink RX9 351 "PairedLinesModel" "isKept" "Z").before [.ref (qx 0)].toArray s = true := hts _ (List.mem_of_getElem? (i := 1) rfl)
  have wd2 : (Cond.fieldLink RX9 22 "PairedLinesModel" "kept" "[I").before [.ref (qx 0)].toArray s = true := hts _ (List.mem_of_getElem? (i := 2) rfl)
  have wd3 : (Cond.fieldLink RX9 92 "PairedLinesModel" "points" "I").before [.ref (qx 0)].toArray s = true := hts _ (List.mem_of_getElem? (i := 3) rfl)
  have wd4 : (Cond.fieldLink RX9 111 "PairedLinesModel" "tide" "I").before [.ref (qx 0)].toArray s = true := hts _ (List.mem_of_getElem? (i := 4) rfl)
  have wd5 : (Cond.fieldLink RX9 100 "PairedLinesModel" "lines" "I").before [.ref (qx 0)].toArray s = true := hts _ (List.mem_of_getElem? (i := 5) rfl)
  have wd6 : (Cond.fieldLink RX9 9 "PairedLinesModel" "kind" "[I").before [.ref (qx 0)].toArray s = true := hts _ (List.mem_of_getElem? (i := 6) rfl)
  have wd7 : (Cond.fieldLink RX9 13 "PairedLinesModel" "figure" "[I").before [.ref (qx 0)].toArray s = true := hts _ (List.mem_of_getElem? (i := 7) rfl)
  have wd8 : (Cond.fieldLink RX9 16 "PairedLinesModel" "low" "[I").before [.ref (qx 0)].toArray s = true := hts _ (List.mem_of_getElem? (i := 8) rfl)
  have wd9 : (Cond.fieldLink RX9 19 "PairedLinesModel" "high" "[I").before [.ref (qx 0)].toArray s = true := hts _ (List.mem_of_getElem? (i := 9) rfl)
  have inX9w : ∀ w ∈ u_ws RX9 TX9 37, w ∈ wsX9_image := fun w hw => List.mem_cons_of_mem _ (List.mem_append_right _ (hw))
  have hl := lv_entry ([.ref (qx 0)]) (n := 2) (Nat.le_of_ble_eq_true rfl)
  rw [lg_entry_eq]
  generalize (lg_sl ([.ref (qx 0)]) ++ List.replicate (2 - (lg_sl ([.ref (qx 0)])).length) Slot.unset).toArray = ls at hl ⊢
  have hl : lv_has ls 2 [(0, .ref (qx 0))] := hl
  have B37 : ∀ (n37 : Nat), ∀ (b_x_isKept : Int32) (b_x_kept : Nat → Int32) (x1 : Int32), f_X9_image_b37 x_points x_lines x_tide x_kind x_figure x_low x_high n37 b_x_isKept b_x_kept x1 = some (rv, o_x_isKept, o_x_kept) → ∀ (H : Heap) (locs : List Loc), va_P G vwCl [(qx 0, oX9 qx x_points x_lines x_tide b_x_isKept x_isMuch x_sum x_once x_twice x_isTermMuch x_nodes x_newMany x_isTooGreat x_come x_foundSet), (qx 4, .inl (Y 0, 40, .inl x_kind)), (qx 5, .inl (Y 0, 40, .inl x_figure)), (qx 6, .inl (Y 0, 40, .inl x_low)), (qx 7, .inl (Y 0, 40, .inl x_high)), (qx 9, .inl (Y 0, 163, .inl b_x_kept))] H → va_D A [(qx 0, oX9 qx x_points x_lines x_tide b_x_isKept x_isMuch x_sum x_once x_twice x_isTermMuch x_nodes x_newMany x_isTooGreat x_come x_foundSet), (qx 4, .inl (Y 0, 40, .inl x_kind)), (qx 5, .inl (Y 0, 40, .inl x_figure)), (qx 6, .inl (Y 0, 40, .inl x_low)), (qx 7, .inl (Y 0, 40, .inl x_high)), (qx 9, .inl (Y 0, 163, .inl b_x_kept))] → va_S A s.heap H locs → ∀ (ls : Array Slot), lv_has ls 2 [(0, .ref (qx 0)), (1, .int x1)] → W p l e (headSpec wsX9_image (rmk 0 0)).room s m [.ref (qx 0)].toArray below meth c H locs 0 0 (MQ below (va_Qi (fun (r : Int32) (_ : Unit) => r = rv) (Pst G (tys Y) [(qx 0, oX9 qx x_points x_lines x_tide x_isKept x_isMuch x_sum x_once x_twice x_isTermMuch x_nodes x_newMany x_isTooGreat x_come x_foundSet), (qx 4, .inl (Y 0, 40, .inl x_kind)), (qx 5, .inl (Y 0, 40, .inl x_figure)), (qx 6, .inl (Y 0, 40, .inl x_low)), (qx 7, .inl (Y 0, 40, .inl x_high)), (qx 9, .inl (Y 0, 163, .inl x_kept))] s.heap.size [(qx 0, oX9 qx x_points x_lines x_tide o_x_isKept x_isMuch x_sum x_once x_twice x_isTermMuch x_nodes x_newMany x_isTooGreat x_come x_foundSet), (qx 4, .inl (Y 0, 40, .inl x_kind)), (qx 5, .inl (Y 0, 40, .inl x_figure)), (qx 6, .inl (Y 0, 40, .inl x_low)), (qx 7, .inl (Y 0, 40, .inl x_high)), (qx 9, .inl (Y 0, 163, .inl o_x_kept))]) A) [.ref (qx 0)].toArray s 0 0 A) (F0 m 37 ls []) := by
    intro n37
    induction n37 with
    | zero =>
      intro b_x_isKept b_x_kept x1 hf H locs hP hD hS ls hl
      exact no_none hf
    | succ n37 ih37 =>
      intro b_x_isKept b_x_kept x1 hf H locs hP hD hS ls hl
      have hf : f_X9_image_s37 x_points x_lines x_tide x_kind x_figure x_low x_high (f_X9_image_b37 x_points x_lines x_tide x_kind x_figure x_low x_high  n37) b_x_isKept b_x_kept x1 = some (rv, o_x_isKept, o_x_kept) := hf
      unfold f_X9_image_s37 at hf
      refine lv_iload_n hx hb dX9_image_37 rfl (lv_at hl 1 rfl) ?_
      refine lv_bipush (v := 40) hx hb dX9_image_38 (by decide) ?_
      refine lv_icmp_ge (tgt := 114) hx hb dX9_image_40 (by decide) (fun c1 => ?_) (fun c1 => ?_)
      · have hf := it hf c1
        refine lv_aload_n hx hb dX9_image_114 rfl (lv_at hl 0 rfl) ?_
        refine va_get (D := G) (ci := 7) (v := .int x_lines) (C := RX9) (T := TX9) (N := 37) hx hb hts inX9w hown hK hP 0 rfl rfl 1 (by decide) wd5 (fun _ h9 => h9) rfl dX9_image_115 ?_
        obtain ⟨e0, e1, e2⟩ := rt3 hf
        have hP : va_P G vwCl [(qx 0, oX9 qx x_points x_lines x_tide o_x_isKept x_isMuch x_sum x_once x_twice x_isTermMuch x_nodes x_newMany x_isTooGreat x_come x_foundSet), (qx 4, .inl (Y 0, 40, .inl x_kind)), (qx 5, .inl (Y 0, 40, .inl x_figure)), (qx 6, .inl (Y 0, 40, .inl x_low)), (qx 7, .inl (Y 0, 40, .inl x_high)), (qx 9, .inl (Y 0, 163, .inl o_x_kept))] H := by rw [← e1, ← e2]; exact hP
        have hD : va_D A [(qx 0, oX9 qx x_points x_lines x_tide o_x_isKept x_isMuch x_sum x_once x_twice x_isTermMuch x_nodes x_newMany x_isTooGreat x_come x_foundSet), (qx 4, .inl (Y 0, 40, .inl x_kind)), (qx 5, .inl (Y 0, 40, .inl x_figure)), (qx 6, .inl (Y 0, 40, .inl x_low)), (qx 7, .inl (Y 0, 40, .inl x_high)), (qx 9, .inl (Y 0, 163, .inl o_x_kept))] := by rw [← e1, ← e2]; exact hD
        exact W.iret (v := x_lines) hx hb hr (fun t ht hW => ⟨⟨x_lines, (), rfl, e0, by rw [ht]; exact hP, va_K.moved hW.alike hK, by rw [hAe]; exact hD⟩, hS.F ht⟩) hS.2.2 dX9_image_118
      · have hf := ie hf c1
        refine lv_aload_n hx hb dX9_image_43 rfl (lv_at hl 0 rfl) ?_
        refine va_get (D := G) (ci := 7) (v := .ref (qx 9)) (C := RX9) (T := TX9) (N := 37) hx hb hts inX9w hown hK hP 0 rfl rfl 8 (by decide) wd2 (fun _ h9 => h9) rfl dX9_image_44 ?_
        refine lv_iconst (v := 3) hx hb dX9_image_47 (by decide) ?_
        refine lv_iconst (v := 4) hx hb dX9_image_48 (by decide) ?_
        refine lv_iload_n hx hb dX9_image_49 rfl (lv_at hl 1 rfl) ?_
        refine lv_imul hx hb dX9_image_50 ?_
        refine lv_iadd hx hb dX9_image_51 ?_
        refine lv_aload_n hx hb dX9_image_52 rfl (lv_at hl 0 rfl) ?_
        refine va_get (D := G) (ci := 7) (v := .ref (qx 4)) (C := RX9) (T := TX9) (N := 37) hx hb hts inX9w hown hK hP 0 rfl rfl 3 (by decide) wd6 (fun _ h9 => h9) rfl dX9_image_53 ?_
        refine lv_iload_n hx hb dX9_image_56 rfl (lv_at hl 1 rfl) ?_
        obtain ⟨g2, hf⟩ := gd hf
        refine va_iald hx hb hK hP 1 0 rfl rfl g2 dX9_image_57 ?_
        obtain ⟨g3, hf⟩ := gd hf
        refine va_iast hx hb hK hP hD hS 5 0 rfl rfl g3 dX9_image_58 (fun H locs hP hD hS => ?_)
        obtain ⟨v4, e_v4⟩ : ∃ z : Nat → Int32, z = upd b_x_kept ((3 : Int32) + ((4 : Int32) * x1)).toNatClampNeg (x_kind x1.toNatClampNeg) := ⟨_, rfl⟩
        have hf := nm_at hf e_v4
        have hP : va_P G vwCl [(qx 0, oX9 qx x_points x_lines x_tide b_x_isKept x_isMuch x_sum x_once x_twice x_isTermMuch x_nodes x_newMany x_isTooGreat x_come x_foundSet), (qx 4, .inl (Y 0, 40, .inl x_kind)), (qx 5, .inl (Y 0, 40, .inl x_figure)), (qx 6, .inl (Y 0, 40, .inl x_low)), (qx 7, .inl (Y 0, 40, .inl x_high)), (qx 9, .inl (Y 0, 163, .inl v4))] H := by rw [e_v4]; exact hP
        have hD : va_D A [(qx 0, oX9 qx x_points x_lines x_tide b_x_isKept x_isMuch x_sum x_once x_twice x_isTermMuch x_nodes x_newMany x_isTooGreat x_come x_foundSet), (qx 4, .inl (Y 0, 40, .inl x_kind)), (qx 5, .inl (Y 0, 40, .inl x_figure)), (qx 6, .inl (Y 0, 40, .inl x_low)), (qx 7, .inl (Y 0, 40, .inl x_high)), (qx 9, .inl (Y 0, 163, .inl v4))] := by rw [e_v4]; exact hD
        refine lv_aload_n hx hb dX9_image_59 rfl (lv_at hl 0 rfl) ?_
        refine va_get (D := G) (ci := 7) (v := .ref (qx 9)) (C := RX9) (T := TX9) (N := 37) hx hb hts inX9w hown hK hP 0 rfl rfl 8 (by decide) wd2 (fun _ h9 => h9) rfl dX9_image_60 ?_
        refine lv_iconst (v := 4) hx hb dX9_image_63 (by decide) ?_
        refine lv_iconst (v := 4) hx hb dX9_image_64 (by decide) ?_
        refine lv_iload_n hx hb dX9_image_65 rfl (lv_at hl 1 rfl) ?_
        refine lv_imul hx hb dX9_image_66 ?_
        refine lv_iadd hx hb dX9_image_67 ?_
        refine lv_aload_n hx hb dX9_image_68 rfl (lv_at hl 0 rfl) ?_
        refine va_get (D := G) (ci := 7) (v := .ref (qx 5)) (C := RX9) (T := TX9) (N := 37) hx hb hts inX9w hown hK hP 0 rfl rfl 4 (by decide) wd7 (fun _ h9 => h9) rfl dX9_image_69 ?_
        refine lv_iload_n hx hb dX9_image_72 rfl (lv_at hl 1 rfl) ?_
        obtain ⟨g5, hf⟩ := gd hf
        refine va_iald hx hb hK hP 2 0 rfl rfl g5 dX9_image_73 ?_
        obtain ⟨g6, hf⟩ := gd hf
        refine va_iast hx hb hK hP hD hS 5 0 rfl rfl g6 dX9_image_74 (fun H locs hP hD hS => ?_)
        obtain ⟨v7, e_v7⟩ : ∃ z : Nat → Int32, z = upd v4 ((4 : Int32) + ((4 : Int32) * x1)).toNatClampNeg (x_figure x1.toNatClampNeg) := ⟨_, rfl⟩
        have hf := nm_at hf e_v7
        have hP : va_P G vwCl [(qx 0, oX9 qx x_points x_lines x_tide b_x_isKept x_isMuch x_sum x_once x_twice x_isTermMuch x_nodes x_newMany x_isTooGreat x_come x_foundSet), (qx 4, .inl (Y 0, 40, .inl x_kind)), (qx 5, .inl (Y 0, 40, .inl x_figure)), (qx 6, .inl (Y 0, 40, .inl x_low)), (qx 7, .inl (Y 0, 40, .inl x_high)), (qx 9, .inl (Y 0, 163, .inl v7))] H := by rw [e_v7]; exact hP
        have hD : va_D A [(qx 0, oX9 qx x_points x_lines x_tide b_x_isKept x_isMuch x_sum x_once x_twice x_isTermMuch x_nodes x_newMany x_isTooGreat x_come x_foundSet), (qx 4, .inl (Y 0, 40, .inl x_kind)), (qx 5, .inl (Y 0, 40, .inl x_figure)), (qx 6, .inl (Y 0, 40, .inl x_low)), (qx 7, .inl (Y 0, 40, .inl x_high)), (qx 9, .inl (Y 0, 163, .inl v7))] := by rw [e_v7]; exact hD
        refine lv_aload_n hx hb dX9_image_75 rfl (lv_at hl 0 rfl) ?_
        refine va_get (D := G) (ci := 7) (v := .ref (qx 9)) (C := RX9) (T := TX9) (N := 37) hx hb hts inX9w hown hK hP 0 rfl rfl 8 (by decide) wd2 (fun _ h9 => h9) rfl dX9_image_76 ?_
        refine lv_iconst (v := 5) hx hb dX9_image_79 (by decide) ?_
        refine lv_iconst (v := 4) hx hb dX9_image_80 (by decide) ?_
        refine lv_iload_n hx hb dX9_image_81 rfl (lv_at hl 1 rfl) ?_
        refine lv_imul hx hb dX9_image_82 ?_
        refine lv_iadd hx hb dX9_image_83 ?_
        refine lv_aload_n hx hb dX9_image_84 rfl (lv_at hl 0 rfl) ?_
        refine va_get (D := G) (ci := 7) (v := .ref (qx 6)) (C := RX9) (T := TX9) (N := 37) hx hb hts inX9w hown hK hP 0 rfl rfl 5 (by decide) wd8 (fun _ h9 => h9) rfl dX9_image_85 ?_
        refine lv_iload_n hx hb dX9_image_88 rfl (lv_at hl 1 rfl) ?_
        obtain ⟨g8, hf⟩ := gd hf
        refine va_iald hx hb hK hP 3 0 rfl rfl g8 dX9_image_89 ?_
        obtain ⟨g9, hf⟩ := gd hf
        refine va_iast hx hb hK hP hD hS 5 0 rfl rfl g9 dX9_image_90 (fun H locs hP hD hS => ?_)
        obtain ⟨v10, e_v10⟩ : ∃ z : Nat → Int32, z = upd v7 ((5 : Int32) + ((4 : Int32) * x1)).toNatClampNeg (x_low x1.toNatClampNeg) := ⟨_, rfl⟩
        have hf := nm_at hf e_v10
        have hP : va_P G vwCl [(qx 0, oX9 qx x_points x_lines x_tide b_x_isKept x_isMuch x_sum x_once x_twice x_isTermMuch x_nodes x_newMany x_isTooGreat x_come x_foundSet), (qx 4, .inl (Y 0, 40, .inl x_kind)), (qx 5, .inl (Y 0, 40, .inl x_figure)), (qx 6, .inl (Y 0, 40, .inl x_low)), (qx 7, .inl (Y 0, 40, .inl x_high)), (qx 9, .inl (Y 0, 163, .inl v10))] H := by rw [e_v10]; exact hP
        have hD : va_D A [(qx 0, oX9 qx x_points x_lines x_tide b_x_isKept x_isMuch x_sum x_once x_twice x_isTermMuch x_nodes x_newMany x_isTooGreat x_come x_foundSet), (qx 4, .inl (Y 0, 40, .inl x_kind)), (qx 5, .inl (Y 0, 40, .inl x_figure)), (qx 6, .inl (Y 0, 40, .inl x_low)), (qx 7, .inl (Y 0, 40, .inl x_high)), (qx 9, .inl (Y 0, 163, .inl v10))] := by rw [e_v10]; exact hD
        refine lv_aload_n hx hb dX9_image_91 rfl (lv_at hl 0 rfl) ?_
        refine va_get (D := G) (ci := 7) (v := .ref (qx 9)) (C := RX9) (T := TX9) (N := 37) hx hb hts inX9w hown hK hP 0 rfl rfl 8 (by decide) wd2 (fun _ h9 => h9) rfl dX9_image_92 ?_
        refine lv_bipush (v := 6) hx hb dX9_image_95 (by decide) ?_
        refine lv_iconst (v := 4) hx hb dX9_image_97 (by decide) ?_
        refine lv_iload_n hx hb dX9_image_98 rfl (lv_at hl 1 rfl) ?_
        refine lv_imul hx hb dX9_image_99 ?_
        refine lv_iadd hx hb dX9_image_100 ?_
        refine lv_aload_n hx hb dX9_image_101 rfl (lv_at hl 0 rfl) ?_
        refine va_get (D := G) (ci := 7) (v := .ref (qx 7)) (C := RX9) (T := TX9) (N := 37) hx hb hts inX9w hown hK hP 0 rfl rfl 6 (by decide) wd9 (fun _ h9 => h9) rfl dX9_image_102 ?_
        refine lv_iload_n hx hb dX9_image_105 rfl (lv_at hl 1 rfl) ?_
        obtain ⟨g11, hf⟩ := gd hf
        refine va_iald hx hb hK hP 4 0 rfl rfl g11 dX9_image_106 ?_
        obtain ⟨g12, hf⟩ := gd hf
        refine va_iast hx hb hK hP hD hS 5 0 rfl rfl g12 dX9_image_107 (fun H locs hP hD hS => ?_)
        obtain ⟨v13, e_v13⟩ : ∃ z : Nat → Int32, z = upd v10 ((6 : Int32) + ((4 : Int32) * x1)).toNatClampNeg (x_high x1.toNatClampNeg) := ⟨_, rfl⟩
        have hf := nm_at hf e_v13
        have hP : va_P G vwCl [(qx 0, oX9 qx x_points x_lines x_tide b_x_isKept x_isMuch x_sum x_once x_twice x_isTermMuch x_nodes x_newMany x_isTooGreat x_come x_foundSet), (qx 4, .inl (Y 0, 40, .inl x_kind)), (qx 5, .inl (Y 0, 40, .inl x_figure)), (qx 6, .inl (Y 0, 40, .inl x_low)), (qx 7, .inl (Y 0, 40, .inl x_high)), (qx 9, .inl (Y 0, 163, .inl v13))] H := by rw [e_v13]; exact hP
        have hD : va_D A [(qx 0, oX9 qx x_points x_lines x_tide b_x_isKept x_isMuch x_sum x_once x_twice x_isTermMuch x_nodes x_newMany x_isTooGreat x_come x_foundSet), (qx 4, .inl (Y 0, 40, .inl x_kind)), (qx 5, .inl (Y 0, 40, .inl x_figure)), (qx 6, .inl (Y 0, 40, .inl x_low)), (qx 7, .inl (Y 0, 40, .inl x_high)), (qx 9, .inl (Y 0, 163, .inl v13))] := by rw [e_v13]; exact hD
        obtain ⟨v14, e_v14⟩ : ∃ z : Int32, z = (x1 + 1) := ⟨_, rfl⟩
        have hf := nm_at hf e_v14
        refine lv_iinc (v := v14) (lv' := [(1, .int v14), (0, .ref (qx 0))]) hx hb dX9_image_108 hl (k := 1) rfl (by rw [e_v14]; rfl) (by decide) rfl (fun ls hl => ?_)
        refine lv_goto (tgt := 37) hx hb dX9_image_111 (by decide) ?_
        exact ih37 b_x_isKept v13 v14 hf _ _ hP hD hS ls (lv_sub hl [1, 0] rfl)
  have E0 : ∀ (H : Heap) (locs : List Loc), va_P G vwCl [(qx 0, oX9 qx x_points x_lines x_tide x_isKept x_isMuch x_sum x_once x_twice x_isTermMuch x_nodes x_newMany x_isTooGreat x_come x_foundSet), (qx 4, .inl (Y 0, 40, .inl x_kind)), (qx 5, .inl (Y 0, 40, .inl x_figure)), (qx 6, .inl (Y 0, 40, .inl x_low)), (qx 7, .inl (Y 0, 40, .inl x_high)), (qx 9, .inl (Y 0, 163, .inl x_kept))] H → va_D A [(qx 0, oX9 qx x_points x_lines x_tide x_isKept x_isMuch x_sum x_once x_twice x_isTermMuch x_nodes x_newMany x_isTooGreat x_come x_foundSet), (qx 4, .inl (Y 0, 40, .inl x_kind)), (qx 5, .inl (Y 0, 40, .inl x_figure)), (qx 6, .inl (Y 0, 40, .inl x_low)), (qx 7, .inl (Y 0, 40, .inl x_high)), (qx 9, .inl (Y 0, 163, .inl x_kept))] → va_S A s.heap H locs → ∀ (ls : Array Slot), lv_has ls 2 [(0, .ref (qx 0))] → W p l e (headSpec wsX9_image (rmk 0 0)).room s m [.ref (qx 0)].toArray below meth c H locs 0 0 (MQ below (va_Qi (fun (r : Int32) (_ : Unit) => r = rv) (Pst G (tys Y) [(qx 0, oX9 qx x_points x_lines x_tide x_isKept x_isMuch x_sum x_once x_twice x_isTermMuch x_nodes x_newMany x_isTooGreat x_come x_foundSet), (qx 4, .inl (Y 0, 40, .inl x_kind)), (qx 5, .inl (Y 0, 40, .inl x_figure)), (qx 6, .inl (Y 0, 40, .inl x_low)), (qx 7, .inl (Y 0, 40, .inl x_high)), (qx 9, .inl (Y 0, 163, .inl x_kept))] s.heap.size [(qx 0, oX9 qx x_points x_lines x_tide o_x_isKept x_isMuch x_sum x_once x_twice x_isTermMuch x_nodes x_newMany x_isTooGreat x_come x_foundSet), (qx 4, .inl (Y 0, 40, .inl x_kind)), (qx 5, .inl (Y 0, 40, .inl x_figure)), (qx 6, .inl (Y 0, 40, .inl x_low)), (qx 7, .inl (Y 0, 40, .inl x_high)), (qx 9, .inl (Y 0, 163, .inl o_x_kept))]) A) [.ref (qx 0)].toArray s 0 0 A) (F0 m 0 ls []) := by
    intro H locs hP hD hS ls hl
    unfold f_X9_image at hf
    refine lv_aload_n hx hb dX9_image_0 rfl (lv_at hl 0 rfl) ?_
    refine lv_iconst (v := 1) hx hb dX9_image_1 (by decide) ?_
    refine va_put (D := G) (ci := 7) (v := .int (1 : Int32)) (ty := .boolean) (C := RX9) (T := TX9) (N := 37) hx hb hts inX9w tyX9 tyX9_ok nmX9 hown hK hP hD hS 0 rfl rfl 7 (by decide) wd1 (fun _ h9 => h9) rfl (by decide +kernel) rfl rfl (Nat.le_of_ble_eq_true rfl) dX9_image_2 (fun H locs hP hD hS => ?_)
    have hP : va_P G vwCl [(qx 0, oX9 qx x_points x_lines x_tide (1 : Int32) x_isMuch x_sum x_once x_twice x_isTermMuch x_nodes x_newMany x_isTooGreat x_come x_foundSet), (qx 4, .inl (Y 0, 40, .inl x_kind)), (qx 5, .inl (Y 0, 40, .inl x_figure)), (qx 6, .inl (Y 0, 40, .inl x_low)), (qx 7, .inl (Y 0, 40, .inl x_high)), (qx 9, .inl (Y 0, 163, .inl x_kept))] H := hP
    have hD : va_D A [(qx 0, oX9 qx x_points x_lines x_tide (1 : Int32) x_isMuch x_sum x_once x_twice x_isTermMuch x_nodes x_newMany x_isTooGreat x_come x_foundSet), (qx 4, .inl (Y 0, 40, .inl x_kind)), (qx 5, .inl (Y 0, 40, .inl x_figure)), (qx 6, .inl (Y 0, 40, .inl x_low)), (qx 7, .inl (Y 0, 40, .inl x_high)), (qx 9, .inl (Y 0, 163, .inl x_kept))] := hD
    refine lv_aload_n hx hb dX9_image_5 rfl (lv_at hl 0 rfl) ?_
    refine va_get (D := G) (ci := 7) (v := .ref (qx 9)) (C := RX9) (T := TX9) (N := 37) hx hb hts inX9w hown hK hP 0 rfl rfl 8 (by decide) wd2 (fun _ h9 => h9) rfl dX9_image_6 ?_
    refine lv_iconst (v := 0) hx hb dX9_image_9 (by decide) ?_
    refine lv_aload_n hx hb dX9_image_10 rfl (lv_at hl 0 rfl) ?_
    refine va_get (D := G) (ci := 7) (v := .int x_points) (C := RX9) (T := TX9) (N := 37) hx hb hts inX9w hown hK hP 0 rfl rfl 0 (by decide) wd3 (fun _ h9 => h9) rfl dX9_image_11 ?_
    obtain ⟨g15, hf⟩ := gd hf
    refine va_iast hx hb hK hP hD hS 5 0 rfl rfl g15 dX9_image_14 (fun H locs hP hD hS => ?_)
    obtain ⟨v16, e_v16⟩ : ∃ z : Nat → Int32, z = upd x_kept (0 : Int32).toNatClampNeg x_points := ⟨_, rfl⟩
    have hf := nm_at hf e_v16
    have hP : va_P G vwCl [(qx 0, oX9 qx x_points x_lines x_tide (1 : Int32) x_isMuch x_sum x_once x_twice x_isTermMuch x_nodes x_newMany x_isTooGreat x_come x_foundSet), (qx 4, .inl (Y 0, 40, .inl x_kind)), (qx 5, .inl (Y 0, 40, .inl x_figure)), (qx 6, .inl (Y 0, 40, .inl x_low)), (qx 7, .inl (Y 0, 40, .inl x_high)), (qx 9, .inl (Y 0, 163, .inl v16))] H := by rw [e_v16]; exact hP
    have hD : va_D A [(qx 0, oX9 qx x_points x_lines x_tide (1 : Int32) x_isMuch x_sum x_once x_twice x_isTermMuch x_nodes x_newMany x_isTooGreat x_come x_foundSet), (qx 4, .inl (Y 0, 40, .inl x_kind)), (qx 5, .inl (Y 0, 40, .inl x_figure)), (qx 6, .inl (Y 0, 40, .inl x_low)), (qx 7, .inl (Y 0, 40, .inl x_high)), (qx 9, .inl (Y 0, 163, .inl v16))] := by rw [e_v16]; exact hD
    refine lv_aload_n hx hb dX9_image_15 rfl (lv_at hl 0 rfl) ?_
    refine va_get (D := G) (ci := 7) (v := .ref (qx 9)) (C := RX9) (T := TX9) (N := 37) hx hb hts inX9w hown hK hP 0 rfl rfl 8 (by decide) wd2 (fun _ h9 => h9) rfl dX9_image_16 ?_
    refine lv_iconst (v := 1) hx hb dX9_image_19 (by decide) ?_
    refine lv_aload_n hx hb dX9_image_20 rfl (lv_at hl 0 rfl) ?_
    refine va_get (D := G) (ci := 7) (v := .int x_tide) (C := RX9) (T := TX9) (N := 37) hx hb hts inX9w hown hK hP 0 rfl rfl 2 (by decide) wd4 (fun _ h9 => h9) rfl dX9_image_21 ?_
    obtain ⟨g17, hf⟩ := gd hf
    refine va_iast hx hb hK hP hD hS 5 0 rfl rfl g17 dX9_image_24 (fun H locs hP hD hS => ?_)
    obtain ⟨v18, e_v18⟩ : ∃ z : Nat → Int32, z = upd v16 (1 : Int32).toNatClampNeg x_tide := ⟨_, rfl⟩
    have hf := nm_at hf e_v18
    have hP : va_P G vwCl [(qx 0, oX9 qx x_points x_lines x_tide (1 : Int32) x_isMuch x_sum x_once x_twice x_isTermMuch x_nodes x_newMany x_isTooGreat x_come x_foundSet), (qx 4, .inl (Y 0, 40, .inl x_kind)), (qx 5, .inl (Y 0, 40, .inl x_figure)), (qx 6, .inl (Y 0, 40, .inl x_low)), (qx 7, .inl (Y 0, 40, .inl x_high)), (qx 9, .inl (Y 0, 163, .inl v18))] H := by rw [e_v18]; exact hP
    have hD : va_D A [(qx 0, oX9 qx x_points x_lines x_tide (1 : Int32) x_isMuch x_sum x_once x_twice x_isTermMuch x_nodes x_newMany x_isTooGreat x_come x_foundSet), (qx 4, .inl (Y 0, 40, .inl x_kind)), (qx 5, .inl (Y 0, 40, .inl x_figure)), (qx 6, .inl (Y 0, 40, .inl x_low)), (qx 7, .inl (Y 0, 40, .inl x_high)), (qx 9, .inl (Y 0, 163, .inl v18))] := by rw [e_v18]; exact hD
    refine lv_aload_n hx hb dX9_image_25 rfl (lv_at hl 0 rfl) ?_
    refine va_get (D := G) (ci := 7) (v := .ref (qx 9)) (C := RX9) (T := TX9) (N := 37) hx hb hts inX9w hown hK hP 0 rfl rfl 8 (by decide) wd2 (fun _ h9 => h9) rfl dX9_image_26 ?_
    refine lv_iconst (v := 2) hx hb dX9_image_29 (by decide) ?_
    refine lv_aload_n hx hb dX9_image_30 rfl (lv_at hl 0 rfl) ?_
    refine va_get (D := G) (ci := 7) (v := .int x_lines) (C := RX9) (T := TX9) (N := 37) hx hb hts inX9w hown hK hP 0 rfl rfl 1 (by decide) wd5 (fun _ h9 => h9) rfl dX9_image_31 ?_
    obtain ⟨g19, hf⟩ := gd hf
    refine va_iast hx hb hK hP hD hS 5 0 rfl rfl g19 dX9_image_34 (fun H locs hP hD hS => ?_)
    obtain ⟨v20, e_v20⟩ : ∃ z : Nat → Int32, z = upd v18 (2 : Int32).toNatClampNeg x_lines := ⟨_, rfl⟩
    have hf := nm_at hf e_v20
    have hP : va_P G vwCl [(qx 0, oX9 qx x_points x_lines x_tide (1 : Int32) x_isMuch x_sum x_once x_twice x_isTermMuch x_nodes x_newMany x_isTooGreat x_come x_foundSet), (qx 4, .inl (Y 0, 40, .inl x_kind)), (qx 5, .inl (Y 0, 40, .inl x_figure)), (qx 6, .inl (Y 0, 40, .inl x_low)), (qx 7, .inl (Y 0, 40, .inl x_high)), (qx 9, .inl (Y 0, 163, .inl v20))] H := by rw [e_v20]; exact hP
    have hD : va_D A [(qx 0, oX9 qx x_points x_lines x_tide (1 : Int32) x_isMuch x_sum x_once x_twice x_isTermMuch x_nodes x_newMany x_isTooGreat x_come x_foundSet), (qx 4, .inl (Y 0, 40, .inl x_kind)), (qx 5, .inl (Y 0, 40, .inl x_figure)), (qx 6, .inl (Y 0, 40, .inl x_low)), (qx 7, .inl (Y 0, 40, .inl x_high)), (qx 9, .inl (Y 0, 163, .inl v20))] := by rw [e_v20]; exact hD
    refine lv_iconst (v := 0) hx hb dX9_image_35 (by decide) ?_
    refine lv_istore_n (lv' := [(1, .int (0 : Int32)), (0, .ref (qx 0))]) hx hb dX9_image_36 rfl hl (by decide) rfl (fun ls hl => ?_)
    exact B37 70 (1 : Int32) v20 (0 : Int32) hf _ _ hP hD hS ls (lv_sub hl [1, 0] rfl)
  exact E0 s.heap [] hP hD hS ls hl
-- X9_back
set_option maxRecDepth 100000 in
set_option maxHeartbeats 4000000 in
theorem c_X9_back (l : Launch) (G : va_G) (Y : Nat → ClassId) (sz : Nat) (qx : Nat → Nat) (x_points : Int32) (x_lines : Int32) (x_tide : Int32) (x_kind : Nat → Int32) (x_figure : Nat → Int32) (x_low : Nat → Int32) (x_high : Nat → Int32) (x_isKept : Int32) (x_kept : Nat → Int32) (x_isMuch : Int32) (x_sum : Int64) (x_once : Int64) (x_twice : Int64) (x_isTermMuch : Int32) (x_nodes : Int32) (x_newMany : Int32) (x_isTooGreat : Int32) (x_come : Int32) (x_foundSet : Int64) (rv : Int32) (o_x_points : Int32) (o_x_lines : Int32) (o_x_tide : Int32) (o_x_kind : Nat → Int32) (o_x_figure : Nat → Int32) (o_x_low : Nat → Int32) (o_x_high : Nat → Int32) (hf : f_X9_back x_points x_lines x_tide x_kind x_figure x_low x_high x_isKept x_kept = some (rv, o_x_points, o_x_lines, o_x_tide, o_x_kind, o_x_figure, o_x_low, o_x_high)) : Met l yX9_back wsX9_back (rmk 0 0) (va_Pc [.ref (qx 0)] (Pre G (tys Y) [(qx 0, oX9 qx x_points x_lines x_tide x_isKept x_isMuch x_sum x_once x_twice x_isTermMuch x_nodes x_newMany x_isTooGreat x_come x_foundSet), (qx 4, .inl (Y 0, 40, .inl x_kind)), (qx 5, .inl (Y 0, 40, .inl x_figure)), (qx 6, .inl (Y 0, 40, .inl x_low)), (qx 7, .inl (Y 0, 40, .inl x_high)), (qx 9, .inl (Y 0, 163, .inl x_kept))] sz xT)) (va_Qi (fun (r : Int32) (_ : Unit) => r = rv) (Pst G (tys Y) [(qx 0, oX9 qx x_points x_lines x_tide x_isKept x_isMuch x_sum x_once x_twice x_isTermMuch x_nodes x_newMany x_isTooGreat x_come x_foundSet), (qx 4, .inl (Y 0, 40, .inl x_kind)), (qx 5, .inl (Y 0, 40, .inl x_figure)), (qx 6, .inl (Y 0, 40, .inl x_low)), (qx 7, .inl (Y 0, 40, .inl x_high)), (qx 9, .inl (Y 0, 163, .inl x_kept))] sz [(qx 0, oX9 qx o_x_points o_x_lines o_x_tide x_isKept x_isMuch x_sum x_once x_twice x_isTermMuch x_nodes x_newMany x_isTooGreat x_come x_foundSet), (qx 4, .inl (Y 0, 40, .inl o_x_kind)), (qx 5, .inl (Y 0, 40, .inl o_x_figure)), (qx 6, .inl (Y 0, 40, .inl o_x_low)), (qx 7, .inl (Y 0, 40, .inl o_x_high)), (qx 9, .inl (Y 0, 163, .inl x_kept))]) (va_A [(qx 0, oX9 qx x_points x_lines x_tide x_isKept x_isMuch x_sum x_once x_twice x_isTermMuch x_nodes x_newMany x_isTooGreat x_come x_foundSet), (qx 4, .inl (Y 0, 40, .inl x_kind)), (qx 5, .inl (Y 0, 40, .inl x_figure)), (qx 6, .inl (Y 0, 40, .inl x_low)), (qx 7, .inl (Y 0, 40, .inl x_high)), (qx 9, .inl (Y 0, 163, .inl x_kept))] sz)) 0 0 (va_A [(qx 0, oX9 qx x_points x_lines x_tide x_isKept x_isMuch x_sum x_once x_twice x_isTermMuch x_nodes x_newMany x_isTooGreat x_come x_foundSet), (qx 4, .inl (Y 0, 40, .inl x_kind)), (qx 5, .inl (Y 0, 40, .inl x_figure)), (qx 6, .inl (Y 0, 40, .inl x_low)), (qx 7, .inl (Y 0, 40, .inl x_high)), (qx 9, .inl (Y 0, 163, .inl x_kept))] sz) := by
  refine Met.ofW (cc := cX9_back) (maxL := 2) (ret := (some .int)) (by decide) rfl ?_
  intro p e s m args below meth c s₁ B hml hv
  obtain ⟨rfl, hsz, hP, hK, hD0, hX⟩ := hv
  have hx := B.exec
  have hb := B.bytes
  have hr := B.returns
  have hts := atoms_spec (ws := wsX9_back) B.pre
  have hown : s.vm.findClass RX9 = some m.cls := findClass_of_methodNamed B.named
  have hlocks := B.notSynchronized
  subst hsz
  have hD := hD0.self (sz := s.heap.size)
  generalize hAe : va_A [(qx 0, oX9 qx x_points x_lines x_tide x_isKept x_isMuch x_sum x_once x_twice x_isTermMuch x_nodes x_newMany x_isTooGreat x_come x_foundSet), (qx 4, .inl (Y 0, 40, .inl x_kind)), (qx 5, .inl (Y 0, 40, .inl x_figure)), (qx 6, .inl (Y 0, 40, .inl x_low)), (qx 7, .inl (Y 0, 40, .inl x_high)), (qx 9, .inl (Y 0, 163, .inl x_kept))] s.heap.size = A at hD ⊢
  have hA : ∀ q : Nat, s.heap.size ≤ q → A q := fun q h => by rw [← hAe]; exact Or.inr h
  have hS : va_S A s.heap s.heap [] := va_S.rf
  have hP : va_P G vwCl [(qx 0, oX9 qx x_points x_lines x_tide x_isKept x_isMuch x_sum x_once x_twice x_isTermMuch x_nodes x_newMany x_isTooGreat x_come x_foundSet), (qx 4, .inl (Y 0, 40, .inl x_kind)), (qx 5, .inl (Y 0, 40, .inl x_figure)), (qx 6, .inl (Y 0, 40, .inl x_low)), (qx 7, .inl (Y 0, 40, .inl x_high)), (qx 9, .inl (Y 0, 163, .inl x_kept))] s.heap := hP
  have wd1 : (Cond.fieldLink RX9 351 "PairedLinesModel" "isKept" "Z").before [.ref (qx 0)].toArray s = true := hts _ (List.mem_of_getElem? (i := 1) rfl)
  have wd2 : (Cond.fieldLink RX9 22 "PairedLinesModel" "kept" "[I").before [.ref (qx 0)].toArray s = true := hts _ (List.mem_of_getElem? (i := 2) rfl)
  have wd3 : (Cond.fieldLink RX9 92 "PairedLinesModel" "points" "I").before [.ref (qx 0)].toArray s = true := hts _ (List.mem_of_getElem? (i := 3) rfl)
  have wd4 : (Cond.fieldLink RX9 111 "PairedLinesModel" "tide" "I").before [.ref (qx 0)].toArray s = true := hts _ (List.mem_of_getElem? (i := 4) rfl)
  have wd5 : (Cond.fieldLink RX9 100 "PairedLinesModel" "lines" "I").before [.ref (qx 0)].toArray s = true := hts _ (List.mem_of_getElem? (i := 5) rfl)
  have wd6 : (Cond.fieldLink RX9 9 "PairedLinesModel" "kind" "[I").before [.ref (qx 0)].toArray s = true := hts _ (List.mem_of_getElem? (i := 6) rfl)
  have wd7 : (Cond.fieldLink RX9 13 "PairedLinesModel" "figure" "[I").before [.ref (qx 0)].toArray s = true := hts _ (List.mem_of_getElem? (i := 7) rfl)
  have wd8 : (Cond.fieldLink RX9 16 "PairedLinesModel" "low" "[I").before [.ref (qx 0)].toArray s = true := hts _ (List.mem_of_getElem? (i := 8) rfl)
  have wd9 : (Cond.fieldLink RX9 19 "PairedLinesModel" "high" "[I").before [.ref (qx 0)].toArray s = true := hts _ (List.mem_of_getElem? (i := 9) rfl)
  have inX9w : ∀ w ∈ u_ws RX9 TX9 37, w ∈ wsX9_back := fun w hw => List.mem_cons_of_mem _ (List.mem_append_right _ (hw))
  have hl := lv_entry ([.ref (qx 0)]) (n := 2) (Nat.le_of_ble_eq_true rfl)
  rw [lg_entry_eq]
  generalize (lg_sl ([.ref (qx 0)]) ++ List.replicate (2 - (lg_sl ([.ref (qx 0)])).length) Slot.unset).toArray = ls at hl ⊢
  have hl : lv_has ls 2 [(0, .ref (qx 0))] := hl
  have B42 : ∀ (n42 : Nat), ∀ (b_x_points : Int32) (b_x_lines : Int32) (b_x_tide : Int32) (b_x_kind : Nat → Int32) (b_x_figure : Nat → Int32) (b_x_low : Nat → Int32) (b_x_high : Nat → Int32) (x1 : Int32), f_X9_back_b42 x_isKept x_kept n42 b_x_points b_x_lines b_x_tide b_x_kind b_x_figure b_x_low b_x_high x1 = some (rv, o_x_points, o_x_lines, o_x_tide, o_x_kind, o_x_figure, o_x_low, o_x_high) → ∀ (H : Heap) (locs : List Loc), va_P G vwCl [(qx 0, oX9 qx b_x_points b_x_lines b_x_tide x_isKept x_isMuch x_sum x_once x_twice x_isTermMuch x_nodes x_newMany x_isTooGreat x_come x_foundSet), (qx 4, .inl (Y 0, 40, .inl b_x_kind)), (qx 5, .inl (Y 0, 40, .inl b_x_figure)), (qx 6, .inl (Y 0, 40, .inl b_x_low)), (qx 7, .inl (Y 0, 40, .inl b_x_high)), (qx 9, .inl (Y 0, 163, .inl x_kept))] H → va_D A [(qx 0, oX9 qx b_x_points b_x_lines b_x_tide x_isKept x_isMuch x_sum x_once x_twice x_isTermMuch x_nodes x_newMany x_isTooGreat x_come x_foundSet), (qx 4, .inl (Y 0, 40, .inl b_x_kind)), (qx 5, .inl (Y 0, 40, .inl b_x_figure)), (qx 6, .inl (Y 0, 40, .inl b_x_low)), (qx 7, .inl (Y 0, 40, .inl b_x_high)), (qx 9, .inl (Y 0, 163, .inl x_kept))] → va_S A s.heap H locs → ∀ (ls : Array Slot), lv_has ls 2 [(0, .ref (qx 0)), (1, .int x1)] → W p l e (headSpec wsX9_back (rmk 0 0)).room s m [.ref (qx 0)].toArray below meth c H locs 0 0 (MQ below (va_Qi (fun (r : Int32) (_ : Unit) => r = rv) (Pst G (tys Y) [(qx 0, oX9 qx x_points x_lines x_tide x_isKept x_isMuch x_sum x_once x_twice x_isTermMuch x_nodes x_newMany x_isTooGreat x_come x_foundSet), (qx 4, .inl (Y 0, 40, .inl x_kind)), (qx 5, .inl (Y 0, 40, .inl x_figure)), (qx 6, .inl (Y 0, 40, .inl x_low)), (qx 7, .inl (Y 0, 40, .inl x_high)), (qx 9, .inl (Y 0, 163, .inl x_kept))] s.heap.size [(qx 0, oX9 qx o_x_points o_x_lines o_x_tide x_isKept x_isMuch x_sum x_once x_twice x_isTermMuch x_nodes x_newMany x_isTooGreat x_come x_foundSet), (qx 4, .inl (Y 0, 40, .inl o_x_kind)), (qx 5, .inl (Y 0, 40, .inl o_x_figure)), (qx 6, .inl (Y 0, 40, .inl o_x_low)), (qx 7, .inl (Y 0, 40, .inl o_x_high)), (qx 9, .inl (Y 0, 163, .inl x_kept))]) A) [.ref (qx 0)].toArray s 0 0 A) (F0 m 42 ls []) := by
    intro n42
    induction n42 with
    | zero =>
      intro b_x_points b_x_lines b_x_tide b_x_kind b_x_figure b_x_low b_x_high x1 hf H locs hP hD hS ls hl
      exact no_none hf
    | succ n42 ih42 =>
      intro b_x_points b_x_lines b_x_tide b_x_kind b_x_figure b_x_low b_x_high x1 hf H locs hP hD hS ls hl
      have hf : f_X9_back_s42 x_isKept x_kept (f_X9_back_b42 x_isKept x_kept  n42) b_x_points b_x_lines b_x_tide b_x_kind b_x_figure b_x_low b_x_high x1 = some (rv, o_x_points, o_x_lines, o_x_tide, o_x_kind, o_x_figure, o_x_low, o_x_high) := hf
      unfold f_X9_back_s42 at hf
      refine lv_iload_n hx hb dX9_back_42 rfl (lv_at hl 1 rfl) ?_
      refine lv_bipush (v := 40) hx hb dX9_back_43 (by decide) ?_
      refine lv_icmp_ge (tgt := 119) hx hb dX9_back_45 (by decide) (fun c1 => ?_) (fun c1 => ?_)
      · have hf := it hf c1
        refine lv_aload_n hx hb dX9_back_119 rfl (lv_at hl 0 rfl) ?_
        refine va_get (D := G) (ci := 7) (v := .int b_x_lines) (C := RX9) (T := TX9) (N := 37) hx hb hts inX9w hown hK hP 0 rfl rfl 1 (by decide) wd5 (fun _ h9 => h9) rfl dX9_back_120 ?_
        obtain ⟨e0, e1, e2, e3, e4, e5, e6, e7⟩ := rt8 hf
        have hP : va_P G vwCl [(qx 0, oX9 qx o_x_points o_x_lines o_x_tide x_isKept x_isMuch x_sum x_once x_twice x_isTermMuch x_nodes x_newMany x_isTooGreat x_come x_foundSet), (qx 4, .inl (Y 0, 40, .inl o_x_kind)), (qx 5, .inl (Y 0, 40, .inl o_x_figure)), (qx 6, .inl (Y 0, 40, .inl o_x_low)), (qx 7, .inl (Y 0, 40, .inl o_x_high)), (qx 9, .inl (Y 0, 163, .inl x_kept))] H := by rw [← e1, ← e2, ← e3, ← e4, ← e5, ← e6, ← e7]; exact hP
        have hD : va_D A [(qx 0, oX9 qx o_x_points o_x_lines o_x_tide x_isKept x_isMuch x_sum x_once x_twice x_isTermMuch x_nodes x_newMany x_isTooGreat x_come x_foundSet), (qx 4, .inl (Y 0, 40, .inl o_x_kind)), (qx 5, .inl (Y 0, 40, .inl o_x_figure)), (qx 6, .inl (Y 0, 40, .inl o_x_low)), (qx 7, .inl (Y 0, 40, .inl o_x_high)), (qx 9, .inl (Y 0, 163, .inl x_kept))] := by rw [← e1, ← e2, ← e3, ← e4, ← e5, ← e6, ← e7]; exact hD
        exact W.iret (v := b_x_lines) hx hb hr (fun t ht hW => ⟨⟨b_x_lines, (), rfl, e0, by rw [ht]; exact hP, va_K.moved hW.alike hK, by rw [hAe]; exact hD⟩, hS.F ht⟩) hS.2.2 dX9_back_123
      · have hf := ie hf c1
        refine lv_aload_n hx hb dX9_back_48 rfl (lv_at hl 0 rfl) ?_
        refine va_get (D := G) (ci := 7) (v := .ref (qx 4)) (C := RX9) (T := TX9) (N := 37) hx hb hts inX9w hown hK hP 0 rfl rfl 3 (by decide) wd6 (fun _ h9 => h9) rfl dX9_back_49 ?_
        refine lv_iload_n hx hb dX9_back_52 rfl (lv_at hl 1 rfl) ?_
        refine lv_aload_n hx hb dX9_back_53 rfl (lv_at hl 0 rfl) ?_
        refine va_get (D := G) (ci := 7) (v := .ref (qx 9)) (C := RX9) (T := TX9) (N := 37) hx hb hts inX9w hown hK hP 0 rfl rfl 8 (by decide) wd2 (fun _ h9 => h9) rfl dX9_back_54 ?_
        refine lv_iconst (v := 3) hx hb dX9_back_57 (by decide) ?_
        refine lv_iconst (v := 4) hx hb dX9_back_58 (by decide) ?_
        refine lv_iload_n hx hb dX9_back_59 rfl (lv_at hl 1 rfl) ?_
        refine lv_imul hx hb dX9_back_60 ?_
        refine lv_iadd hx hb dX9_back_61 ?_
        obtain ⟨g2, hf⟩ := gd hf
        refine va_iald hx hb hK hP 5 0 rfl rfl g2 dX9_back_62 ?_
        obtain ⟨g3, hf⟩ := gd hf
        refine va_iast hx hb hK hP hD hS 1 0 rfl rfl g3 dX9_back_63 (fun H locs hP hD hS => ?_)
        obtain ⟨v4, e_v4⟩ : ∃ z : Nat → Int32, z = upd b_x_kind x1.toNatClampNeg (x_kept ((3 : Int32) + ((4 : Int32) * x1)).toNatClampNeg) := ⟨_, rfl⟩
        have hf := nm_at hf e_v4
        have hP : va_P G vwCl [(qx 0, oX9 qx b_x_points b_x_lines b_x_tide x_isKept x_isMuch x_sum x_once x_twice x_isTermMuch x_nodes x_newMany x_isTooGreat x_come x_foundSet), (qx 4, .inl (Y 0, 40, .inl v4)), (qx 5, .inl (Y 0, 40, .inl b_x_figure)), (qx 6, .inl (Y 0, 40, .inl b_x_low)), (qx 7, .inl (Y 0, 40, .inl b_x_high)), (qx 9, .inl (Y 0, 163, .inl x_kept))] H := by rw [e_v4]; exact hP
        have hD : va_D A [(qx 0, oX9 qx b_x_points b_x_lines b_x_tide x_isKept x_isMuch x_sum x_once x_twice x_isTermMuch x_nodes x_newMany x_isTooGreat x_come x_foundSet), (qx 4, .inl (Y 0, 40, .inl v4)), (qx 5, .inl (Y 0, 40, .inl b_x_figure)), (qx 6, .inl (Y 0, 40, .inl b_x_low)), (qx 7, .inl (Y 0, 40, .inl b_x_high)), (qx 9, .inl (Y 0, 163, .inl x_kept))] := by rw [e_v4]; exact hD
        refine lv_aload_n hx hb dX9_back_64 rfl (lv_at hl 0 rfl) ?_
        refine va_get (D := G) (ci := 7) (v := .ref (qx 5)) (C := RX9) (T := TX9) (N := 37) hx hb hts inX9w hown hK hP 0 rfl rfl 4 (by decide) wd7 (fun _ h9 => h9) rfl dX9_back_65 ?_
        refine lv_iload_n hx hb dX9_back_68 rfl (lv_at hl 1 rfl) ?_
        refine lv_aload_n hx hb dX9_back_69 rfl (lv_at hl 0 rfl) ?_
        refine va_get (D := G) (ci := 7) (v := .ref (qx 9)) (C := RX9) (T := TX9) (N := 37) hx hb hts inX9w hown hK hP 0 rfl rfl 8 (by decide) wd2 (fun _ h9 => h9) rfl dX9_back_70 ?_
        refine lv_iconst (v := 4) hx hb dX9_back_73 (by decide) ?_
        refine lv_iconst (v := 4) hx hb dX9_back_74 (by decide) ?_
        refine lv_iload_n hx hb dX9_back_75 rfl (lv_at hl 1 rfl) ?_
        refine lv_imul hx hb dX9_back_76 ?_
        refine lv_iadd hx hb dX9_back_77 ?_
        obtain ⟨g5, hf⟩ := gd hf
        refine va_iald hx hb hK hP 5 0 rfl rfl g5 dX9_back_78 ?_
        obtain ⟨g6, hf⟩ := gd hf
        refine va_iast hx hb hK hP hD hS 2 0 rfl rfl g6 dX9_back_79 (fun H locs hP hD hS => ?_)
        obtain ⟨v7, e_v7⟩ : ∃ z : Nat → Int32, z = upd b_x_figure x1.toNatClampNeg (x_kept ((4 : Int32) + ((4 : Int32) * x1)).toNatClampNeg) := ⟨_, rfl⟩
        have hf := nm_at hf e_v7
        have hP : va_P G vwCl [(qx 0, oX9 qx b_x_points b_x_lines b_x_tide x_isKept x_isMuch x_sum x_once x_twice x_isTermMuch x_nodes x_newMany x_isTooGreat x_come x_foundSet), (qx 4, .inl (Y 0, 40, .inl v4)), (qx 5, .inl (Y 0, 40, .inl v7)), (qx 6, .inl (Y 0, 40, .inl b_x_low)), (qx 7, .inl (Y 0, 40, .inl b_x_high)), (qx 9, .inl (Y 0, 163, .inl x_kept))] H := by rw [e_v7]; exact hP
        have hD : va_D A [(qx 0, oX9 qx b_x_points b_x_lines b_x_tide x_isKept x_isMuch x_sum x_once x_twice x_isTermMuch x_nodes x_newMany x_isTooGreat x_come x_foundSet), (qx 4, .inl (Y 0, 40, .inl v4)), (qx 5, .inl (Y 0, 40, .inl v7)), (qx 6, .inl (Y 0, 40, .inl b_x_low)), (qx 7, .inl (Y 0, 40, .inl b_x_high)), (qx 9, .inl (Y 0, 163, .inl x_kept))] := by rw [e_v7]; exact hD
        refine lv_aload_n hx hb dX9_back_80 rfl (lv_at hl 0 rfl) ?_
        refine va_get (D := G) (ci := 7) (v := .ref (qx 6)) (C := RX9) (T := TX9) (N := 37) hx hb hts inX9w hown hK hP 0 rfl rfl 5 (by decide) wd8 (fun _ h9 => h9) rfl dX9_back_81 ?_
        refine lv_iload_n hx hb dX9_back_84 rfl (lv_at hl 1 rfl) ?_
        refine lv_aload_n hx hb dX9_back_85 rfl (lv_at hl 0 rfl) ?_
        refine va_get (D := G) (ci := 7) (v := .ref (qx 9)) (C := RX9) (T := TX9) (N := 37) hx hb hts inX9w hown hK hP 0 rfl rfl 8 (by decide) wd2 (fun _ h9 => h9) rfl dX9_back_86 ?_
        refine lv_iconst (v := 5) hx hb dX9_back_89 (by decide) ?_
        refine lv_iconst (v := 4) hx hb dX9_back_90 (by decide) ?_
        refine lv_iload_n hx hb dX9_back_91 rfl (lv_at hl 1 rfl) ?_
        refine lv_imul hx hb dX9_back_92 ?_
        refine lv_iadd hx hb dX9_back_93 ?_
        obtain ⟨g8, hf⟩ := gd hf
        refine va_iald hx hb hK hP 5 0 rfl rfl g8 dX9_back_94 ?_
        obtain ⟨g9, hf⟩ := gd hf
        refine va_iast hx hb hK hP hD hS 3 0 rfl rfl g9 dX9_back_95 (fun H locs hP hD hS => ?_)
        obtain ⟨v10, e_v10⟩ : ∃ z : Nat → Int32, z = upd b_x_low x1.toNatClampNeg (x_kept ((5 : Int32) + ((4 : Int32) * x1)).toNatClampNeg) := ⟨_, rfl⟩
        have hf := nm_at hf e_v10
        have hP : va_P G vwCl [(qx 0, oX9 qx b_x_points b_x_lines b_x_tide x_isKept x_isMuch x_sum x_once x_twice x_isTermMuch x_nodes x_newMany x_isTooGreat x_come x_foundSet), (qx 4, .inl (Y 0, 40, .inl v4)), (qx 5, .inl (Y 0, 40, .inl v7)), (qx 6, .inl (Y 0, 40, .inl v10)), (qx 7, .inl (Y 0, 40, .inl b_x_high)), (qx 9, .inl (Y 0, 163, .inl x_kept))] H := by rw [e_v10]; exact hP
        have hD : va_D A [(qx 0, oX9 qx b_x_points b_x_lines b_x_tide x_isKept x_isMuch x_sum x_once x_twice x_isTermMuch x_nodes x_newMany x_isTooGreat x_come x_foundSet), (qx 4, .inl (Y 0, 40, .inl v4)), (qx 5, .inl (Y 0, 40, .inl v7)), (qx 6, .inl (Y 0, 40, .inl v10)), (qx 7, .inl (Y 0, 40, .inl b_x_high)), (qx 9, .inl (Y 0, 163, .inl x_kept))] := by rw [e_v10]; exact hD
        refine lv_aload_n hx hb dX9_back_96 rfl (lv_at hl 0 rfl) ?_
        refine va_get (D := G) (ci := 7) (v := .ref (qx 7)) (C := RX9) (T := TX9) (N := 37) hx hb hts inX9w hown hK hP 0 rfl rfl 6 (by decide) wd9 (fun _ h9 => h9) rfl dX9_back_97 ?_
        refine lv_iload_n hx hb dX9_back_100 rfl (lv_at hl 1 rfl) ?_
        refine lv_aload_n hx hb dX9_back_101 rfl (lv_at hl 0 rfl) ?_
        refine va_get (D := G) (ci := 7) (v := .ref (qx 9)) (C := RX9) (T := TX9) (N := 37) hx hb hts inX9w hown hK hP 0 rfl rfl 8 (by decide) wd2 (fun _ h9 => h9) rfl dX9_back_102 ?_
        refine lv_bipush (v := 6) hx hb dX9_back_105 (by decide) ?_
        refine lv_iconst (v := 4) hx hb dX9_back_107 (by decide) ?_
        refine lv_iload_n hx hb dX9_back_108 rfl (lv_at hl 1 rfl) ?_
        refine lv_imul hx hb dX9_back_109 ?_
        refine lv_iadd hx hb dX9_back_110 ?_
        obtain ⟨g11, hf⟩ := gd hf
        refine va_iald hx hb hK hP 5 0 rfl rfl g11 dX9_back_111 ?_
        obtain ⟨g12, hf⟩ := gd hf
        refine va_iast hx hb hK hP hD hS 4 0 rfl rfl g12 dX9_back_112 (fun H locs hP hD hS => ?_)
        obtain ⟨v13, e_v13⟩ : ∃ z : Nat → Int32, z = upd b_x_high x1.toNatClampNeg (x_kept ((6 : Int32) + ((4 : Int32) * x1)).toNatClampNeg) := ⟨_, rfl⟩
        have hf := nm_at hf e_v13
        have hP : va_P G vwCl [(qx 0, oX9 qx b_x_points b_x_lines b_x_tide x_isKept x_isMuch x_sum x_once x_twice x_isTermMuch x_nodes x_newMany x_isTooGreat x_come x_foundSet), (qx 4, .inl (Y 0, 40, .inl v4)), (qx 5, .inl (Y 0, 40, .inl v7)), (qx 6, .inl (Y 0, 40, .inl v10)), (qx 7, .inl (Y 0, 40, .inl v13)), (qx 9, .inl (Y 0, 163, .inl x_kept))] H := by rw [e_v13]; exact hP
        have hD : va_D A [(qx 0, oX9 qx b_x_points b_x_lines b_x_tide x_isKept x_isMuch x_sum x_once x_twice x_isTermMuch x_nodes x_newMany x_isTooGreat x_come x_foundSet), (qx 4, .inl (Y 0, 40, .inl v4)), (qx 5, .inl (Y 0, 40, .inl v7)), (qx 6, .inl (Y 0, 40, .inl v10)), (qx 7, .inl (Y 0, 40, .inl v13)), (qx 9, .inl (Y 0, 163, .inl x_kept))] := by rw [e_v13]; exact hD
        obtain ⟨v14, e_v14⟩ : ∃ z : Int32, z = (x1 + 1) := ⟨_, rfl⟩
        have hf := nm_at hf e_v14
        refine lv_iinc (v := v14) (lv' := [(1, .int v14), (0, .ref (qx 0))]) hx hb dX9_back_113 hl (k := 1) rfl (by rw [e_v14]; rfl) (by decide) rfl (fun ls hl => ?_)
        refine lv_goto (tgt := 42) hx hb dX9_back_116 (by decide) ?_
        exact ih42 b_x_points b_x_lines b_x_tide v4 v7 v10 v13 v14 hf _ _ hP hD hS ls (lv_sub hl [1, 0] rfl)
  have E0 : ∀ (H : Heap) (locs : List Loc), va_P G vwCl [(qx 0, oX9 qx x_points x_lines x_tide x_isKept x_isMuch x_sum x_once x_twice x_isTermMuch x_nodes x_newMany x_isTooGreat x_come x_foundSet), (qx 4, .inl (Y 0, 40, .inl x_kind)), (qx 5, .inl (Y 0, 40, .inl x_figure)), (qx 6, .inl (Y 0, 40, .inl x_low)), (qx 7, .inl (Y 0, 40, .inl x_high)), (qx 9, .inl (Y 0, 163, .inl x_kept))] H → va_D A [(qx 0, oX9 qx x_points x_lines x_tide x_isKept x_isMuch x_sum x_once x_twice x_isTermMuch x_nodes x_newMany x_isTooGreat x_come x_foundSet), (qx 4, .inl (Y 0, 40, .inl x_kind)), (qx 5, .inl (Y 0, 40, .inl x_figure)), (qx 6, .inl (Y 0, 40, .inl x_low)), (qx 7, .inl (Y 0, 40, .inl x_high)), (qx 9, .inl (Y 0, 163, .inl x_kept))] → va_S A s.heap H locs → ∀ (ls : Array Slot), lv_has ls 2 [(0, .ref (qx 0))] → W p l e (headSpec wsX9_back (rmk 0 0)).room s m [.ref (qx 0)].toArray below meth c H locs 0 0 (MQ below (va_Qi (fun (r : Int32) (_ : Unit) => r = rv) (Pst G (tys Y) [(qx 0, oX9 qx x_points x_lines x_tide x_isKept x_isMuch x_sum x_once x_twice x_isTermMuch x_nodes x_newMany x_isTooGreat x_come x_foundSet), (qx 4, .inl (Y 0, 40, .inl x_kind)), (qx 5, .inl (Y 0, 40, .inl x_figure)), (qx 6, .inl (Y 0, 40, .inl x_low)), (qx 7, .inl (Y 0, 40, .inl x_high)), (qx 9, .inl (Y 0, 163, .inl x_kept))] s.heap.size [(qx 0, oX9 qx o_x_points o_x_lines o_x_tide x_isKept x_isMuch x_sum x_once x_twice x_isTermMuch x_nodes x_newMany x_isTooGreat x_come x_foundSet), (qx 4, .inl (Y 0, 40, .inl o_x_kind)), (qx 5, .inl (Y 0, 40, .inl o_x_figure)), (qx 6, .inl (Y 0, 40, .inl o_x_low)), (qx 7, .inl (Y 0, 40, .inl o_x_high)), (qx 9, .inl (Y 0, 163, .inl x_kept))]) A) [.ref (qx 0)].toArray s 0 0 A) (F0 m 0 ls []) := by
    intro H locs hP hD hS ls hl
    unfold f_X9_back at hf
    refine lv_aload_n hx hb dX9_back_0 rfl (lv_at hl 0 rfl) ?_
    refine va_get (D := G) (ci := 7) (v := .int x_isKept) (C := RX9) (T := TX9) (N := 37) hx hb hts inX9w hown hK hP 0 rfl rfl 7 (by decide) wd1 (fun _ h9 => h9) rfl dX9_back_1 ?_
    refine lv_if_ne (tgt := 10) hx hb dX9_back_4 (by decide) (fun c15 => ?_) (fun c15 => ?_)
    · have hf := ie hf c15
      refine lv_aload_n hx hb dX9_back_10 rfl (lv_at hl 0 rfl) ?_
      refine lv_aload_n hx hb dX9_back_11 rfl (lv_at hl 0 rfl) ?_
      refine va_get (D := G) (ci := 7) (v := .ref (qx 9)) (C := RX9) (T := TX9) (N := 37) hx hb hts inX9w hown hK hP 0 rfl rfl 8 (by decide) wd2 (fun _ h9 => h9) rfl dX9_back_12 ?_
      refine lv_iconst (v := 0) hx hb dX9_back_15 (by decide) ?_
      obtain ⟨g16, hf⟩ := gd hf
      refine va_iald hx hb hK hP 5 0 rfl rfl g16 dX9_back_16 ?_
      refine lv_topi (fun v17 e_v17 => ?_)
      have hf := nm_at hf e_v17
      refine va_put (D := G) (ci := 7) (v := .int v17) (ty := .int) (C := RX9) (T := TX9) (N := 37) hx hb hts inX9w tyX9 tyX9_ok nmX9 hown hK hP hD hS 0 rfl rfl 0 (by decide) wd3 (fun _ h9 => h9) rfl (by decide +kernel) rfl rfl (Nat.le_of_ble_eq_true rfl) dX9_back_17 (fun H locs hP hD hS => ?_)
      have hP : va_P G vwCl [(qx 0, oX9 qx v17 x_lines x_tide x_isKept x_isMuch x_sum x_once x_twice x_isTermMuch x_nodes x_newMany x_isTooGreat x_come x_foundSet), (qx 4, .inl (Y 0, 40, .inl x_kind)), (qx 5, .inl (Y 0, 40, .inl x_figure)), (qx 6, .inl (Y 0, 40, .inl x_low)), (qx 7, .inl (Y 0, 40, .inl x_high)), (qx 9, .inl (Y 0, 163, .inl x_kept))] H := hP
      have hD : va_D A [(qx 0, oX9 qx v17 x_lines x_tide x_isKept x_isMuch x_sum x_once x_twice x_isTermMuch x_nodes x_newMany x_isTooGreat x_come x_foundSet), (qx 4, .inl (Y 0, 40, .inl x_kind)), (qx 5, .inl (Y 0, 40, .inl x_figure)), (qx 6, .inl (Y 0, 40, .inl x_low)), (qx 7, .inl (Y 0, 40, .inl x_high)), (qx 9, .inl (Y 0, 163, .inl x_kept))] := hD
      refine lv_aload_n hx hb dX9_back_20 rfl (lv_at hl 0 rfl) ?_
      refine lv_aload_n hx hb dX9_back_21 rfl (lv_at hl 0 rfl) ?_
      refine va_get (D := G) (ci := 7) (v := .ref (qx 9)) (C := RX9) (T := TX9) (N := 37) hx hb hts inX9w hown hK hP 0 rfl rfl 8 (by decide) wd2 (fun _ h9 => h9) rfl dX9_back_22 ?_
      refine lv_iconst (v := 1) hx hb dX9_back_25 (by decide) ?_
      obtain ⟨g18, hf⟩ := gd hf
      refine va_iald hx hb hK hP 5 0 rfl rfl g18 dX9_back_26 ?_
      refine lv_topi (fun v19 e_v19 => ?_)
      have hf := nm_at hf e_v19
      refine va_put (D := G) (ci := 7) (v := .int v19) (ty := .int) (C := RX9) (T := TX9) (N := 37) hx hb hts inX9w tyX9 tyX9_ok nmX9 hown hK hP hD hS 0 rfl rfl 2 (by decide) wd4 (fun _ h9 => h9) rfl (by decide +kernel) rfl rfl (Nat.le_of_ble_eq_true rfl) dX9_back_27 (fun H locs hP hD hS => ?_)
      have hP : va_P G vwCl [(qx 0, oX9 qx v17 x_lines v19 x_isKept x_isMuch x_sum x_once x_twice x_isTermMuch x_nodes x_newMany x_isTooGreat x_come x_foundSet), (qx 4, .inl (Y 0, 40, .inl x_kind)), (qx 5, .inl (Y 0, 40, .inl x_figure)), (qx 6, .inl (Y 0, 40, .inl x_low)), (qx 7, .inl (Y 0, 40, .inl x_high)), (qx 9, .inl (Y 0, 163, .inl x_kept))] H := hP
      have hD : va_D A [(qx 0, oX9 qx v17 x_lines v19 x_isKept x_isMuch x_sum x_once x_twice x_isTermMuch x_nodes x_newMany x_isTooGreat x_come x_foundSet), (qx 4, .inl (Y 0, 40, .inl x_kind)), (qx 5, .inl (Y 0, 40, .inl x_figure)), (qx 6, .inl (Y 0, 40, .inl x_low)), (qx 7, .inl (Y 0, 40, .inl x_high)), (qx 9, .inl (Y 0, 163, .inl x_kept))] := hD
      refine lv_aload_n hx hb dX9_back_30 rfl (lv_at hl 0 rfl) ?_
      refine lv_aload_n hx hb dX9_back_31 rfl (lv_at hl 0 rfl) ?_
      refine va_get (D := G) (ci := 7) (v := .ref (qx 9)) (C := RX9) (T := TX9) (N := 37) hx hb hts inX9w hown hK hP 0 rfl rfl 8 (by decide) wd2 (fun _ h9 => h9) rfl dX9_back_32 ?_
      refine lv_iconst (v := 2) hx hb dX9_back_35 (by decide) ?_
      obtain ⟨g20, hf⟩ := gd hf
      refine va_iald hx hb hK hP 5 0 rfl rfl g20 dX9_back_36 ?_
      refine lv_topi (fun v21 e_v21 => ?_)
      have hf := nm_at hf e_v21
      refine va_put (D := G) (ci := 7) (v := .int v21) (ty := .int) (C := RX9) (T := TX9) (N := 37) hx hb hts inX9w tyX9 tyX9_ok nmX9 hown hK hP hD hS 0 rfl rfl 1 (by decide) wd5 (fun _ h9 => h9) rfl (by decide +kernel) rfl rfl (Nat.le_of_ble_eq_true rfl) dX9_back_37 (fun H locs hP hD hS => ?_)
      have hP : va_P G vwCl [(qx 0, oX9 qx v17 v21 v19 x_isKept x_isMuch x_sum x_once x_twice x_isTermMuch x_nodes x_newMany x_isTooGreat x_come x_foundSet), (qx 4, .inl (Y 0, 40, .inl x_kind)), (qx 5, .inl (Y 0, 40, .inl x_figure)), (qx 6, .inl (Y 0, 40, .inl x_low)), (qx 7, .inl (Y 0, 40, .inl x_high)), (qx 9, .inl (Y 0, 163, .inl x_kept))] H := hP
      have hD : va_D A [(qx 0, oX9 qx v17 v21 v19 x_isKept x_isMuch x_sum x_once x_twice x_isTermMuch x_nodes x_newMany x_isTooGreat x_come x_foundSet), (qx 4, .inl (Y 0, 40, .inl x_kind)), (qx 5, .inl (Y 0, 40, .inl x_figure)), (qx 6, .inl (Y 0, 40, .inl x_low)), (qx 7, .inl (Y 0, 40, .inl x_high)), (qx 9, .inl (Y 0, 163, .inl x_kept))] := hD
      refine lv_iconst (v := 0) hx hb dX9_back_40 (by decide) ?_
      refine lv_istore_n (lv' := [(1, .int (0 : Int32)), (0, .ref (qx 0))]) hx hb dX9_back_41 rfl hl (by decide) rfl (fun ls hl => ?_)
      exact B42 70 v17 v21 v19 x_kind x_figure x_low x_high (0 : Int32) hf _ _ hP hD hS ls (lv_sub hl [1, 0] rfl)
    · have hf := it hf c15
      refine lv_bipush (v := -3) hx hb dX9_back_7 (by decide) ?_
      obtain ⟨e0, e1, e2, e3, e4, e5, e6, e7⟩ := rt8 hf
      have hP : va_P G vwCl [(qx 0, oX9 qx o_x_points o_x_lines o_x_tide x_isKept x_isMuch x_sum x_once x_twice x_isTermMuch x_nodes x_newMany x_isTooGreat x_come x_foundSet), (qx 4, .inl (Y 0, 40, .inl o_x_kind)), (qx 5, .inl (Y 0, 40, .inl o_x_figure)), (qx 6, .inl (Y 0, 40, .inl o_x_low)), (qx 7, .inl (Y 0, 40, .inl o_x_high)), (qx 9, .inl (Y 0, 163, .inl x_kept))] H := by rw [← e1, ← e2, ← e3, ← e4, ← e5, ← e6, ← e7]; exact hP
      have hD : va_D A [(qx 0, oX9 qx o_x_points o_x_lines o_x_tide x_isKept x_isMuch x_sum x_once x_twice x_isTermMuch x_nodes x_newMany x_isTooGreat x_come x_foundSet), (qx 4, .inl (Y 0, 40, .inl o_x_kind)), (qx 5, .inl (Y 0, 40, .inl o_x_figure)), (qx 6, .inl (Y 0, 40, .inl o_x_low)), (qx 7, .inl (Y 0, 40, .inl o_x_high)), (qx 9, .inl (Y 0, 163, .inl x_kept))] := by rw [← e1, ← e2, ← e3, ← e4, ← e5, ← e6, ← e7]; exact hD
      exact W.iret (v := (-3 : Int32)) hx hb hr (fun t ht hW => ⟨⟨(-3 : Int32), (), rfl, e0, by rw [ht]; exact hP, va_K.moved hW.alike hK, by rw [hAe]; exact hD⟩, hS.F ht⟩) hS.2.2 dX9_back_9
  exact E0 s.heap [] hP hD hS ls hl
-- X9_count
set_option maxRecDepth 100000 in
set_option maxHeartbeats 4000000 in
theorem c_X9_count (l : Launch) (G : va_G) (Y : Nat → ClassId) (sz : Nat) (qx : Nat → Nat) (x_points : Int32) (x_lines : Int32) (x_tide : Int32) (x_isKept : Int32) (x_isMuch : Int32) (x_sum : Int64) (x_once : Int64) (x_twice : Int64) (x_isTermMuch : Int32) (x_nodes : Int32) (x_newMany : Int32) (x_isTooGreat : Int32) (x_come : Int32) (x_foundSet : Int64) (p1 : Int32) (rv : Int32) (hf : f_X9_count x_points x_lines x_tide x_nodes p1 = some (rv)) : Met l yX9_count wsX9_count (rmk 0 0) (va_Pc [.ref (qx 0), .int p1] (Pre G (tys Y) [(qx 0, oX9 qx x_points x_lines x_tide x_isKept x_isMuch x_sum x_once x_twice x_isTermMuch x_nodes x_newMany x_isTooGreat x_come x_foundSet)] sz xT)) (va_Qi (fun (r : Int32) (_ : Unit) => r = rv) (Pst G (tys Y) [(qx 0, oX9 qx x_points x_lines x_tide x_isKept x_isMuch x_sum x_once x_twice x_isTermMuch x_nodes x_newMany x_isTooGreat x_come x_foundSet)] sz [(qx 0, oX9 qx x_points x_lines x_tide x_isKept x_isMuch x_sum x_once x_twice x_isTermMuch x_nodes x_newMany x_isTooGreat x_come x_foundSet)]) (va_A [(qx 0, oX9 qx x_points x_lines x_tide x_isKept x_isMuch x_sum x_once x_twice x_isTermMuch x_nodes x_newMany x_isTooGreat x_come x_foundSet)] sz)) 0 0 (va_A [(qx 0, oX9 qx x_points x_lines x_tide x_isKept x_isMuch x_sum x_once x_twice x_isTermMuch x_nodes x_newMany x_isTooGreat x_come x_foundSet)] sz) := by
  refine Met.ofW (cc := cX9_count) (maxL := 2) (ret := (some .int)) (by decide) rfl ?_
  intro p e s m args below meth c s₁ B hml hv
  obtain ⟨rfl, hsz, hP, hK, hD0, hX⟩ := hv
  have hx := B.exec
  have hb := B.bytes
  have hr := B.returns
  have hts := atoms_spec (ws := wsX9_count) B.pre
  have hown : s.vm.findClass RX9 = some m.cls := findClass_of_methodNamed B.named
  have hlocks := B.notSynchronized
  subst hsz
  have hD := hD0.self (sz := s.heap.size)
  generalize hAe : va_A [(qx 0, oX9 qx x_points x_lines x_tide x_isKept x_isMuch x_sum x_once x_twice x_isTermMuch x_nodes x_newMany x_isTooGreat x_come x_foundSet)] s.heap.size = A at hD ⊢
  have hA : ∀ q : Nat, s.heap.size ≤ q → A q := fun q h => by rw [← hAe]; exact Or.inr h
  have hS : va_S A s.heap s.heap [] := va_S.rf
  have hP : va_P G vwCl [(qx 0, oX9 qx x_points x_lines x_tide x_isKept x_isMuch x_sum x_once x_twice x_isTermMuch x_nodes x_newMany x_isTooGreat x_come x_foundSet)] s.heap := hP
  have wd1 : (Cond.fieldLink RX9 92 "PairedLinesModel" "points" "I").before [.ref (qx 0), .int p1].toArray s = true := hts _ (List.mem_of_getElem? (i := 1) rfl)
  have wd2 : (Cond.fieldLink RX9 100 "PairedLinesModel" "lines" "I").before [.ref (qx 0), .int p1].toArray s = true := hts _ (List.mem_of_getElem? (i := 2) rfl)
  have wd3 : (Cond.fieldLink RX9 111 "PairedLinesModel" "tide" "I").before [.ref (qx 0), .int p1].toArray s = true := hts _ (List.mem_of_getElem? (i := 3) rfl)
  have wd4 : (Cond.fieldLink RX9 246 "PairedLinesModel" "nodes" "I").before [.ref (qx 0), .int p1].toArray s = true := hts _ (List.mem_of_getElem? (i := 4) rfl)
  have inX9w : ∀ w ∈ u_ws RX9 TX9 37, w ∈ wsX9_count := fun w hw => List.mem_cons_of_mem _ (List.mem_append_right _ (hw))
  have hl := lv_entry ([.ref (qx 0), .int p1]) (n := 2) (Nat.le_of_ble_eq_true rfl)
  rw [lg_entry_eq]
  generalize (lg_sl ([.ref (qx 0), .int p1]) ++ List.replicate (2 - (lg_sl ([.ref (qx 0), .int p1])).length) Slot.unset).toArray = ls at hl ⊢
  have hl : lv_has ls 2 [(0, .ref (qx 0)), (1, .int p1)] := hl
  have E0 : ∀ (H : Heap) (locs : List Loc), va_P G vwCl [(qx 0, oX9 qx x_points x_lines x_tide x_isKept x_isMuch x_sum x_once x_twice x_isTermMuch x_nodes x_newMany x_isTooGreat x_come x_foundSet)] H → va_D A [(qx 0, oX9 qx x_points x_lines x_tide x_isKept x_isMuch x_sum x_once x_twice x_isTermMuch x_nodes x_newMany x_isTooGreat x_come x_foundSet)] → va_S A s.heap H locs → ∀ (ls : Array Slot), lv_has ls 2 [(0, .ref (qx 0)), (1, .int p1)] → W p l e (headSpec wsX9_count (rmk 0 0)).room s m [.ref (qx 0), .int p1].toArray below meth c H locs 0 0 (MQ below (va_Qi (fun (r : Int32) (_ : Unit) => r = rv) (Pst G (tys Y) [(qx 0, oX9 qx x_points x_lines x_tide x_isKept x_isMuch x_sum x_once x_twice x_isTermMuch x_nodes x_newMany x_isTooGreat x_come x_foundSet)] s.heap.size [(qx 0, oX9 qx x_points x_lines x_tide x_isKept x_isMuch x_sum x_once x_twice x_isTermMuch x_nodes x_newMany x_isTooGreat x_come x_foundSet)]) A) [.ref (qx 0), .int p1].toArray s 0 0 A) (F0 m 0 ls []) := by
    intro H locs hP hD hS ls hl
    unfold f_X9_count at hf
    refine lv_iload_n hx hb dX9_count_0 rfl (lv_at hl 1 rfl) ?_
    by_cases c1 : p1 = 0
    · have hf := it hf c1
      refine lv_tableIn (tgt := 32) hx hb dX9_count_1 (by rw [c1]; decide) (by rw [c1]; decide) (off := 31) (by rw [c1]; rfl) (by decide) ?_
      refine lv_aload_n hx hb dX9_count_32 rfl (lv_at hl 0 rfl) ?_
      refine va_get (D := G) (ci := 7) (v := .int x_points) (C := RX9) (T := TX9) (N := 37) hx hb hts inX9w hown hK hP 0 rfl rfl 0 (by decide) wd1 (fun _ h9 => h9) rfl dX9_count_33 ?_
      have e0 := rt1 hf
      exact W.iret (v := x_points) hx hb hr (fun t ht hW => ⟨⟨x_points, (), rfl, e0, by rw [ht]; exact hP, va_K.moved hW.alike hK, by rw [hAe]; exact hD⟩, hS.F ht⟩) hS.2.2 dX9_count_36
    have hf := ie hf c1
    by_cases c2 : p1 = 1
    · have hf := it hf c2
      refine lv_tableIn (tgt := 37) hx hb dX9_count_1 (by rw [c2]; decide) (by rw [c2]; decide) (off := 36) (by rw [c2]; rfl) (by decide) ?_
      refine lv_aload_n hx hb dX9_count_37 rfl (lv_at hl 0 rfl) ?_
      refine va_get (D := G) (ci := 7) (v := .int x_lines) (C := RX9) (T := TX9) (N := 37) hx hb hts inX9w hown hK hP 0 rfl rfl 1 (by decide) wd2 (fun _ h9 => h9) rfl dX9_count_38 ?_
      have e0 := rt1 hf
      exact W.iret (v := x_lines) hx hb hr (fun t ht hW => ⟨⟨x_lines, (), rfl, e0, by rw [ht]; exact hP, va_K.moved hW.alike hK, by rw [hAe]; exact hD⟩, hS.F ht⟩) hS.2.2 dX9_count_41
    have hf := ie hf c2
    by_cases c3 : p1 = 2
    · have hf := it hf c3
      refine lv_tableIn (tgt := 42) hx hb dX9_count_1 (by rw [c3]; decide) (by rw [c3]; decide) (off := 41) (by rw [c3]; rfl) (by decide) ?_
      refine lv_aload_n hx hb dX9_count_42 rfl (lv_at hl 0 rfl) ?_
      refine va_get (D := G) (ci := 7) (v := .int x_tide) (C := RX9) (T := TX9) (N := 37) hx hb hts inX9w hown hK hP 0 rfl rfl 2 (by decide) wd3 (fun _ h9 => h9) rfl dX9_count_43 ?_
      have e0 := rt1 hf
      exact W.iret (v := x_tide) hx hb hr (fun t ht hW => ⟨⟨x_tide, (), rfl, e0, by rw [ht]; exact hP, va_K.moved hW.alike hK, by rw [hAe]; exact hD⟩, hS.F ht⟩) hS.2.2 dX9_count_46
    have hf := ie hf c3
    by_cases c4 : p1 = 3
    · have hf := it hf c4
      refine lv_tableIn (tgt := 47) hx hb dX9_count_1 (by rw [c4]; decide) (by rw [c4]; decide) (off := 46) (by rw [c4]; rfl) (by decide) ?_
      refine lv_aload_n hx hb dX9_count_47 rfl (lv_at hl 0 rfl) ?_
      refine va_get (D := G) (ci := 7) (v := .int x_nodes) (C := RX9) (T := TX9) (N := 37) hx hb hts inX9w hown hK hP 0 rfl rfl 22 (by decide) wd4 (fun _ h9 => h9) rfl dX9_count_48 ?_
      have e0 := rt1 hf
      exact W.iret (v := x_nodes) hx hb hr (fun t ht hW => ⟨⟨x_nodes, (), rfl, e0, by rw [ht]; exact hP, va_K.moved hW.alike hK, by rw [hAe]; exact hD⟩, hS.F ht⟩) hS.2.2 dX9_count_51
    have hf := ie hf c4
    have t_c1 : ¬ p1.toInt = 0 := lv_neT c1 (by decide)
    have t_c2 : ¬ p1.toInt = 1 := lv_neT c2 (by decide)
    have t_c3 : ¬ p1.toInt = 2 := lv_neT c3 (by decide)
    have t_c4 : ¬ p1.toInt = 3 := lv_neT c4 (by decide)
    refine lv_tableOut (tgt := 52) hx hb dX9_count_1 (by omega) (by decide) ?_
    refine lv_bipush (v := -2) hx hb dX9_count_52 (by decide) ?_
    have e0 := rt1 hf
    exact W.iret (v := (-2 : Int32)) hx hb hr (fun t ht hW => ⟨⟨(-2 : Int32), (), rfl, e0, by rw [ht]; exact hP, va_K.moved hW.alike hK, by rw [hAe]; exact hD⟩, hS.F ht⟩) hS.2.2 dX9_count_54
  exact E0 s.heap [] hP hD hS ls hl
