-- X9_cutOf
set_option maxRecDepth 100000 in
set_option maxHeartbeats 4000000 in
theorem c_X9_cutOf (l : Launch) (G : va_G) (Y : Nat → ClassId) : ∀ (d : Nat) (sz : Nat) (qx : Nat → Nat) (x_points : Int32) (x_lines : Int32) (x_tide : Int32) (x_kind : Nat → Int32) (x_figure : Nat → Int32) (x_low : Nat → Int32) (x_high : Nat → Int32) (x_isKept : Int32) (x_isMuch : Int32) (x_sum : Int64) (x_once : Int64) (x_twice : Int64) (x_isTermMuch : Int32) (x_nodes : Int32) (x_newMany : Int32) (x_isTooGreat : Int32) (x_come : Int32) (x_foundSet : Int64) (p1 : Int32) (p2 : Int32) (p3 : Int32) (p4 : Int32) (rv : UInt32) (hf : f_X9_cutOf d x_points x_lines x_tide x_kind x_figure x_low x_high p1 p2 p3 p4 = some (rv)), Met l yX9_cutOf wsX9_cutOf (rmk (2 + d) (44 + 27 * d)) (va_Pc [.ref (qx 0), .int p1, .int p2, .int p3, .int p4] (Pre G (tys Y) [(qx 0, oX9 qx x_points x_lines x_tide x_isKept x_isMuch x_sum x_once x_twice x_isTermMuch x_nodes x_newMany x_isTooGreat x_come x_foundSet), (qx 4, .inl (Y 0, 40, .inl x_kind)), (qx 5, .inl (Y 0, 40, .inl x_figure)), (qx 6, .inl (Y 0, 40, .inl x_low)), (qx 7, .inl (Y 0, 40, .inl x_high))] sz xT)) (va_Qf (fun (r : UInt32) (_ : Unit) => r = rv) (Pst G (tys Y) [(qx 0, oX9 qx x_points x_lines x_tide x_isKept x_isMuch x_sum x_once x_twice x_isTermMuch x_nodes x_newMany x_isTooGreat x_come x_foundSet), (qx 4, .inl (Y 0, 40, .inl x_kind)), (qx 5, .inl (Y 0, 40, .inl x_figure)), (qx 6, .inl (Y 0, 40, .inl x_low)), (qx 7, .inl (Y 0, 40, .inl x_high))] sz [(qx 0, oX9 qx x_points x_lines x_tide x_isKept x_isMuch x_sum x_once x_twice x_isTermMuch x_nodes x_newMany x_isTooGreat x_come x_foundSet), (qx 4, .inl (Y 0, 40, .inl x_kind)), (qx 5, .inl (Y 0, 40, .inl x_figure)), (qx 6, .inl (Y 0, 40, .inl x_low)), (qx 7, .inl (Y 0, 40, .inl x_high))]) (va_A [(qx 0, oX9 qx x_points x_lines x_tide x_isKept x_isMuch x_sum x_once x_twice x_isTermMuch x_nodes x_newMany x_isTooGreat x_come x_foundSet), (qx 4, .inl (Y 0, 40, .inl x_kind)), (qx 5, .inl (Y 0, 40, .inl x_figure)), (qx 6, .inl (Y 0, 40, .inl x_low)), (qx 7, .inl (Y 0, 40, .inl x_high))] sz)) 0 0 (va_A [(qx 0, oX9 qx x_points x_lines x_tide x_isKept x_isMuch x_sum x_once x_twice x_isTermMuch x_nodes x_newMany x_isTooGreat x_come x_foundSet), (qx 4, .inl (Y 0, 40, .inl x_kind)), (qx 5, .inl (Y 0, 40, .inl x_figure)), (qx 6, .inl (Y 0, 40, .inl x_low)), (qx 7, .inl (Y 0, 40, .inl x_high))] sz) := by
  intro d
  induction d with
  | zero =>
    intro sz qx x_points x_lines x_tide x_kind x_figure x_low x_high x_isKept x_isMuch x_sum x_once x_twice x_isTermMuch x_nodes x_newMany x_isTooGreat x_come x_foundSet p1 p2 p3 p4 rv hf
    exact no_none hf
  | succ d ihd =>
  intro sz qx x_points x_lines x_tide x_kind x_figure x_low x_high x_isKept x_isMuch x_sum x_once x_twice x_isTermMuch x_nodes x_newMany x_isTooGreat x_come x_foundSet p1 p2 p3 p4 rv hf
  have hf : f_X9_cutOf_st (f_X9_cutOf d) x_points x_lines x_tide x_kind x_figure x_low x_high p1 p2 p3 p4 = some (rv) := hf
  refine Met.ofW (cc := cX9_cutOf) (maxL := 8) (ret := (some .float)) (by decide) rfl ?_
  intro p e s m args below meth c s₁ B hml hv
  obtain ⟨rfl, hsz, hP, hK, hD0, hX⟩ := hv
  have hx := B.exec
  have hb := B.bytes
  have hr := B.returns
  have hts := atoms_spec (ws := wsX9_cutOf) B.pre
  have hown : s.vm.findClass RX9 = some m.cls := findClass_of_methodNamed B.named
  have hlocks := B.notSynchronized
  subst hsz
  have hD := hD0.self (sz := s.heap.size)
  generalize hAe : va_A [(qx 0, oX9 qx x_points x_lines x_tide x_isKept x_isMuch x_sum x_once x_twice x_isTermMuch x_nodes x_newMany x_isTooGreat x_come x_foundSet), (qx 4, .inl (Y 0, 40, .inl x_kind)), (qx 5, .inl (Y 0, 40, .inl x_figure)), (qx 6, .inl (Y 0, 40, .inl x_low)), (qx 7, .inl (Y 0, 40, .inl x_high))] s.heap.size = A at hD ⊢
  have hA : ∀ q : Nat, s.heap.size ≤ q → A q := fun q h => by rw [← hAe]; exact Or.inr h
  have hS : va_S A s.heap s.heap [] := va_S.rf
  have hP : va_P G vwCl [(qx 0, oX9 qx x_points x_lines x_tide x_isKept x_isMuch x_sum x_once x_twice x_isTermMuch x_nodes x_newMany x_isTooGreat x_come x_foundSet), (qx 4, .inl (Y 0, 40, .inl x_kind)), (qx 5, .inl (Y 0, 40, .inl x_figure)), (qx 6, .inl (Y 0, 40, .inl x_low)), (qx 7, .inl (Y 0, 40, .inl x_high))] s.heap := hP
  have wd1 : (Cond.fieldLink RX9 92 "PairedLinesModel" "points" "I").before [.ref (qx 0), .int p1, .int p2, .int p3, .int p4].toArray s = true := hts _ (List.mem_of_getElem? (i := 1) rfl)
  have inX9w : ∀ w ∈ u_ws RX9 TX9 37, w ∈ wsX9_cutOf := fun w hw => List.mem_cons_of_mem _ (List.mem_append_right _ (hw))
  have hl := lv_entry ([.ref (qx 0), .int p1, .int p2, .int p3, .int p4]) (n := 8) (Nat.le_of_ble_eq_true rfl)
  rw [lg_entry_eq]
  generalize (lg_sl ([.ref (qx 0), .int p1, .int p2, .int p3, .int p4]) ++ List.replicate (8 - (lg_sl ([.ref (qx 0), .int p1, .int p2, .int p3, .int p4])).length) Slot.unset).toArray = ls at hl ⊢
  have hl : lv_has ls 8 [(0, .ref (qx 0)), (1, .int p1), (2, .int p2), (3, .int p3), (4, .int p4)] := hl
  have B23 : ∀ (n23 : Nat), ∀ (x5 : UInt32) (x6 : Int32) (x7 : Int32), f_X9_cutOf_b23 (f_X9_cutOf d) x_points x_lines x_tide x_kind x_figure x_low x_high p1 p2 p3 p4 n23 x5 x6 x7 = some (rv) → ∀ (H : Heap) (locs : List Loc), va_P G vwCl [(qx 0, oX9 qx x_points x_lines x_tide x_isKept x_isMuch x_sum x_once x_twice x_isTermMuch x_nodes x_newMany x_isTooGreat x_come x_foundSet), (qx 4, .inl (Y 0, 40, .inl x_kind)), (qx 5, .inl (Y 0, 40, .inl x_figure)), (qx 6, .inl (Y 0, 40, .inl x_low)), (qx 7, .inl (Y 0, 40, .inl x_high))] H → va_D A [(qx 0, oX9 qx x_points x_lines x_tide x_isKept x_isMuch x_sum x_once x_twice x_isTermMuch x_nodes x_newMany x_isTooGreat x_come x_foundSet), (qx 4, .inl (Y 0, 40, .inl x_kind)), (qx 5, .inl (Y 0, 40, .inl x_figure)), (qx 6, .inl (Y 0, 40, .inl x_low)), (qx 7, .inl (Y 0, 40, .inl x_high))] → va_S A s.heap H locs → ∀ (ls : Array Slot), lv_has ls 8 [(0, .ref (qx 0)), (1, .int p1), (2, .int p2), (3, .int p3), (4, .int p4), (5, .float x5), (6, .int x6), (7, .int x7)] → W p l e (headSpec wsX9_cutOf (rmk (2 + (d + 1)) (44 + 27 * (d + 1)))).room s m [.ref (qx 0), .int p1, .int p2, .int p3, .int p4].toArray below meth c H locs 0 0 (MQ below (va_Qf (fun (r : UInt32) (_ : Unit) => r = rv) (Pst G (tys Y) [(qx 0, oX9 qx x_points x_lines x_tide x_isKept x_isMuch x_sum x_once x_twice x_isTermMuch x_nodes x_newMany x_isTooGreat x_come x_foundSet), (qx 4, .inl (Y 0, 40, .inl x_kind)), (qx 5, .inl (Y 0, 40, .inl x_figure)), (qx 6, .inl (Y 0, 40, .inl x_low)), (qx 7, .inl (Y 0, 40, .inl x_high))] s.heap.size [(qx 0, oX9 qx x_points x_lines x_tide x_isKept x_isMuch x_sum x_once x_twice x_isTermMuch x_nodes x_newMany x_isTooGreat x_come x_foundSet), (qx 4, .inl (Y 0, 40, .inl x_kind)), (qx 5, .inl (Y 0, 40, .inl x_figure)), (qx 6, .inl (Y 0, 40, .inl x_low)), (qx 7, .inl (Y 0, 40, .inl x_high))]) A) [.ref (qx 0), .int p1, .int p2, .int p3, .int p4].toArray s 0 0 A) (F0 m 23 ls []) := by
    intro n23
    induction n23 with
    | zero =>
      intro x5 x6 x7 hf H locs hP hD hS ls hl
      exact no_none hf
    | succ n23 ih23 =>
      intro x5 x6 x7 hf H locs hP hD hS ls hl
      have hf : f_X9_cutOf_s23 (f_X9_cutOf d) x_points x_lines x_tide x_kind x_figure x_low x_high p1 p2 p3 p4 (f_X9_cutOf_b23 (f_X9_cutOf d) x_points x_lines x_tide x_kind x_figure x_low x_high p1 p2 p3 p4  n23) x5 x6 x7 = some (rv) := hf
      unfold f_X9_cutOf_s23 at hf
      refine lv_iload hx hb dX9_cutOf_23 (lv_at hl 7 rfl) ?_
      refine lv_aload_n hx hb dX9_cutOf_25 rfl (lv_at hl 0 rfl) ?_
      refine va_get (D := G) (ci := 7) (v := .int x_points) (C := RX9) (T := TX9) (N := 37) hx hb hts inX9w hown hK hP 0 rfl rfl 0 (by decide) wd1 (fun _ h9 => h9) rfl dX9_cutOf_26 ?_
      refine lv_icmp_ge (tgt := 85) hx hb dX9_cutOf_29 (by decide) (fun c1 => ?_) (fun c1 => ?_)
      · have hf := it hf c1
        refine lv_iload hx hb dX9_cutOf_85 (lv_at hl 4 rfl) ?_
        refine lv_if_ne (tgt := 94) hx hb dX9_cutOf_87 (by decide) (fun c2 => ?_) (fun c2 => ?_)
        · have hf := ie hf c2
          refine lv_fconst1 hx hb dX9_cutOf_94 ?_
          refine lv_fload hx hb dX9_cutOf_95 (lv_at hl 5 rfl) ?_
          obtain ⟨g3, hf⟩ := gp hf
          refine lv_fdiv hx hb dX9_cutOf_97 g3 ?_
          have e0 := rt1 hf
          exact W.fret (v := (FP.fdiv FP.fconst1 x5)) hx hb hr (fun t ht hW => ⟨⟨(FP.fdiv FP.fconst1 x5), (), rfl, e0, by rw [ht]; exact hP, va_K.moved hW.alike hK, by rw [hAe]; exact hD⟩, hS.F ht⟩) hS.2.2 dX9_cutOf_98
        · have hf := it hf c2
          refine lv_fconst1 hx hb dX9_cutOf_90 ?_
          refine lv_goto (tgt := 98) hx hb dX9_cutOf_91 (by decide) ?_
          have e0 := rt1 hf
          exact W.fret (v := FP.fconst1) hx hb hr (fun t ht hW => ⟨⟨FP.fconst1, (), rfl, e0, by rw [ht]; exact hP, va_K.moved hW.alike hK, by rw [hAe]; exact hD⟩, hS.F ht⟩) hS.2.2 dX9_cutOf_98
      · have hf := ie hf c1
        refine lv_iload hx hb dX9_cutOf_32 (lv_at hl 6 rfl) ?_
        refine lv_i2l hx hb dX9_cutOf_34 rfl ?_
        refine lv_iload hx hb dX9_cutOf_35 (lv_at hl 7 rfl) ?_
        obtain ⟨r4, hc, hf⟩ := bd1 hf
        refine cl_i (ws' := [(qx 0, oX9 qx x_points x_lines x_tide x_isKept x_isMuch x_sum x_once x_twice x_isTermMuch x_nodes x_newMany x_isTooGreat x_come x_foundSet), (qx 4, .inl (Y 0, 40, .inl x_kind)), (qx 5, .inl (Y 0, 40, .inl x_figure)), (qx 6, .inl (Y 0, 40, .inl x_low)), (qx 7, .inl (Y 0, 40, .inl x_high))]) (wr := [(qx 0, oX9 qx x_points x_lines x_tide x_isKept x_isMuch x_sum x_once x_twice x_isTermMuch x_nodes x_newMany x_isTooGreat x_come x_foundSet), (qx 4, .inl (Y 0, 40, .inl x_kind)), (qx 5, .inl (Y 0, 40, .inl x_figure)), (qx 6, .inl (Y 0, 40, .inl x_low)), (qx 7, .inl (Y 0, 40, .inl x_high))]) (rnS (As := [.long x6.toInt64, .int x7]) (rest := []) ⟨hx, hb, hml, hown, hts⟩ (c_X9_has l G Y H.size x6.toInt64 x7 r4 hc) (va_cwS 2 hts gX9_cutOf_X9_has rfl rfl rfl (by decide +kernel) ⟨(by first | exact Nat.le_of_ble_eq_true rfl | (show _ ≤ _ + _; simp only [List.map, List.sum_cons, List.sum_nil]; omega) | (simp [headSpec, rmk]; omega)), (by first | exact Nat.le_of_ble_eq_true rfl | (show _ ≤ _ + _; simp only [List.map, List.sum_cons, List.sum_nil]; omega) | (simp [headSpec, rmk]; omega))⟩) trivial okT hK hP hD [] rfl rfl rfl hl.1 rfl (Nat.le_of_ble_eq_true rfl) dX9_cutOf_37) hP hD hS hA [] [0, 1, 2, 3, 4] [0, 1, 2, 3, 4] rfl rfl rfl (by decide) rfl rfl (fun H locs hP hD hS => ?_)
        refine lv_if_eq (tgt := 79) hx hb dX9_cutOf_40 (by decide) (fun c5 => ?_) (fun c5 => ?_)
        · have hf := it hf c5
          obtain ⟨v6, e_v6⟩ : ∃ z : Int32, z = (x7 + 1) := ⟨_, rfl⟩
          have hf := nm_at hf e_v6
          refine lv_iinc (v := v6) (lv' := [(7, .int v6), (0, .ref (qx 0)), (1, .int p1), (2, .int p2), (3, .int p3), (4, .int p4), (5, .float x5), (6, .int x6)]) hx hb dX9_cutOf_79 hl (k := 7) rfl (by rw [e_v6]; rfl) (by decide) rfl (fun ls hl => ?_)
          refine lv_goto (tgt := 23) hx hb dX9_cutOf_82 (by decide) ?_
          exact ih23 x5 x6 v6 hf _ _ hP hD hS ls (lv_sub hl [1, 2, 3, 4, 5, 6, 7, 0] rfl)
        · have hf := ie hf c5
          refine lv_fload hx hb dX9_cutOf_43 (lv_at hl 5 rfl) ?_
          refine lv_iload_n hx hb dX9_cutOf_45 rfl (lv_at hl 3 rfl) ?_
          refine lv_aload_n hx hb dX9_cutOf_46 rfl (lv_at hl 0 rfl) ?_
          refine lv_aload_n hx hb dX9_cutOf_47 rfl (lv_at hl 0 rfl) ?_
          refine lv_iload_n hx hb dX9_cutOf_48 rfl (lv_at hl 1 rfl) ?_
          refine lv_iload hx hb dX9_cutOf_49 (lv_at hl 7 rfl) ?_
          obtain ⟨r7, hc, hf⟩ := bd1 hf
          refine cl_i (ws' := [(qx 0, oX9 qx x_points x_lines x_tide x_isKept x_isMuch x_sum x_once x_twice x_isTermMuch x_nodes x_newMany x_isTooGreat x_come x_foundSet), (qx 4, .inl (Y 0, 40, .inl x_kind)), (qx 5, .inl (Y 0, 40, .inl x_figure)), (qx 6, .inl (Y 0, 40, .inl x_low)), (qx 7, .inl (Y 0, 40, .inl x_high))]) (wr := [(qx 4, .inl (Y 0, 40, .inl x_kind)), (qx 5, .inl (Y 0, 40, .inl x_figure))]) (rnV (As := [.int p1, .int x7]) (rest := [.ref (qx 0), .int p3, .float x5]) ⟨hx, hb, hml, hown, hts⟩ (c_X9_lineOf l G Y H.size qx x_points x_lines x_tide x_low x_high x_isKept x_isMuch x_sum x_once x_twice x_isTermMuch x_nodes x_newMany x_isTooGreat x_come x_foundSet p1 x7 r7 hc) (cwV 2 hts gX9_cutOf_X9_lineOf rfl rfl rfl (by decide +kernel) ⟨(by first | exact Nat.le_of_ble_eq_true rfl | (show _ ≤ _ + _; simp only [List.map, List.sum_cons, List.sum_nil]; omega) | (simp [headSpec, rmk]; omega)), (by first | exact Nat.le_of_ble_eq_true rfl | (show _ ≤ _ + _; simp only [List.map, List.sum_cons, List.sum_nil]; omega) | (simp [headSpec, rmk]; omega))⟩) trivial okT hK hP hD [0, 3, 4] rfl rfl (ci := 7) (q0 := 0) rfl rfl rfl rfl hl.1 rfl (Nat.le_of_ble_eq_true rfl) dX9_cutOf_51) hP hD hS hA [0, 3, 4] [1, 2] [2, 0, 1, 3, 4] rfl rfl rfl (by decide) rfl rfl (fun H locs hP hD hS => ?_)
          obtain ⟨r8, hc, hf⟩ := bd1 hf
          refine cl_i (ws' := [(qx 0, oX9 qx x_points x_lines x_tide x_isKept x_isMuch x_sum x_once x_twice x_isTermMuch x_nodes x_newMany x_isTooGreat x_come x_foundSet), (qx 4, .inl (Y 0, 40, .inl x_kind)), (qx 5, .inl (Y 0, 40, .inl x_figure)), (qx 6, .inl (Y 0, 40, .inl x_low)), (qx 7, .inl (Y 0, 40, .inl x_high))]) (wr := [(qx 6, .inl (Y 0, 40, .inl x_low)), (qx 7, .inl (Y 0, 40, .inl x_high))]) (rnV (As := [.int r7]) (rest := [.int p3, .float x5]) ⟨hx, hb, hml, hown, hts⟩ (c_X9_weight l G Y H.size qx x_points x_lines x_tide x_kind x_figure x_isKept x_isMuch x_sum x_once x_twice x_isTermMuch x_nodes x_newMany x_isTooGreat x_come x_foundSet r7 r8 hc) (cwV 1 hts gX9_cutOf_X9_weight rfl rfl rfl (by decide +kernel) ⟨(by first | exact Nat.le_of_ble_eq_true rfl | (show _ ≤ _ + _; simp only [List.map, List.sum_cons, List.sum_nil]; omega) | (simp [headSpec, rmk]; omega)), (by first | exact Nat.le_of_ble_eq_true rfl | (show _ ≤ _ + _; simp only [List.map, List.sum_cons, List.sum_nil]; omega) | (simp [headSpec, rmk]; omega))⟩) trivial okT hK hP hD [0, 1, 2] rfl rfl (ci := 7) (q0 := 0) rfl rfl rfl rfl hl.1 rfl (Nat.le_of_ble_eq_true rfl) dX9_cutOf_54) hP hD hS hA [0, 1, 2] [3, 4] [2, 3, 4, 0, 1] rfl rfl rfl (by decide) rfl rfl (fun H locs hP hD hS => ?_)
          refine lv_imul hx hb dX9_cutOf_57 ?_
          refine lv_i2f hx hb dX9_cutOf_58 ?_
          refine lv_aload_n hx hb dX9_cutOf_59 rfl (lv_at hl 0 rfl) ?_
          refine lv_iload hx hb dX9_cutOf_60 (lv_at hl 7 rfl) ?_
          refine lv_iload_n hx hb dX9_cutOf_62 rfl (lv_at hl 2 rfl) ?_
          refine lv_iconst (v := 1) hx hb dX9_cutOf_63 (by decide) ?_
          refine lv_iload_n hx hb dX9_cutOf_64 rfl (lv_at hl 1 rfl) ?_
          refine lv_ishl hx hb dX9_cutOf_65 ?_
          refine lv_ior hx hb dX9_cutOf_66 ?_
          refine lv_iload_n hx hb dX9_cutOf_67 rfl (lv_at hl 3 rfl) ?_
          refine lv_iload hx hb dX9_cutOf_68 (lv_at hl 4 rfl) ?_
          refine lv_iconst (v := 1) hx hb dX9_cutOf_70 (by decide) ?_
          refine lv_isub hx hb dX9_cutOf_71 ?_
          obtain ⟨r9, hc, hf⟩ := bd1 hf
          refine cl_f (ws' := [(qx 0, oX9 qx x_points x_lines x_tide x_isKept x_isMuch x_sum x_once x_twice x_isTermMuch x_nodes x_newMany x_isTooGreat x_come x_foundSet), (qx 4, .inl (Y 0, 40, .inl x_kind)), (qx 5, .inl (Y 0, 40, .inl x_figure)), (qx 6, .inl (Y 0, 40, .inl x_low)), (qx 7, .inl (Y 0, 40, .inl x_high))]) (wr := []) (rnV (As := [.int x7, .int (p2 ||| ((1 : Int32) <<< (p1 &&& 31))), .int p3, .int (p4 - (1 : Int32))]) (rest := [.float (FP.i2f (p3 * r8)), .float x5]) ⟨hx, hb, hml, hown, hts⟩ (ihd H.size qx x_points x_lines x_tide x_kind x_figure x_low x_high x_isKept x_isMuch x_sum x_once x_twice x_isTermMuch x_nodes x_newMany x_isTooGreat x_come x_foundSet x7 (p2 ||| ((1 : Int32) <<< (p1 &&& 31))) p3 (p4 - (1 : Int32)) r9 hc) (cwV 4 hts gX9_cutOf_X9_cutOf rfl rfl rfl (by decide +kernel) ⟨by show _ + _ + 1 ≤ _ + (_ + 1); omega, by show 8 + (_ + 11) + (_ + _ * _) ≤ _ + _ * (_ + 1); omega⟩) trivial okT hK hP hD [0, 1, 2, 3, 4] rfl rfl (ci := 7) (q0 := 0) rfl rfl rfl rfl hl.1 rfl (Nat.le_of_ble_eq_true rfl) dX9_cutOf_72) hP hD hS hA [0, 1, 2, 3, 4] [] [0, 1, 2, 3, 4] rfl rfl rfl (by decide) rfl rfl (fun H locs hP hD hS => ?_)
          obtain ⟨g10, hf⟩ := gp hf
          refine lv_fmul hx hb dX9_cutOf_75 g10 ?_
          obtain ⟨g11, hf⟩ := gp hf
          refine lv_fadd hx hb dX9_cutOf_76 g11 ?_
          refine lv_topf (fun v12 e_v12 => ?_)
          have hf := nm_at hf e_v12
          refine lv_fstore (lv' := [(5, .float v12), (0, .ref (qx 0)), (1, .int p1), (2, .int p2), (3, .int p3), (4, .int p4), (6, .int x6), (7, .int x7)]) hx hb dX9_cutOf_77 hl (by decide) rfl (fun ls hl => ?_)
          obtain ⟨v13, e_v13⟩ : ∃ z : Int32, z = (x7 + 1) := ⟨_, rfl⟩
          have hf := nm_at hf e_v13
          refine lv_iinc (v := v13) (lv' := [(7, .int v13), (5, .float v12), (0, .ref (qx 0)), (1, .int p1), (2, .int p2), (3, .int p3), (4, .int p4), (6, .int x6)]) hx hb dX9_cutOf_79 hl (k := 7) rfl (by rw [e_v13]; rfl) (by decide) rfl (fun ls hl => ?_)
          refine lv_goto (tgt := 23) hx hb dX9_cutOf_82 (by decide) ?_
          exact ih23 v12 x6 v13 hf _ _ hP hD hS ls (lv_sub hl [2, 3, 4, 5, 6, 1, 7, 0] rfl)
  have E0 : ∀ (H : Heap) (locs : List Loc), va_P G vwCl [(qx 0, oX9 qx x_points x_lines x_tide x_isKept x_isMuch x_sum x_once x_twice x_isTermMuch x_nodes x_newMany x_isTooGreat x_come x_foundSet), (qx 4, .inl (Y 0, 40, .inl x_kind)), (qx 5, .inl (Y 0, 40, .inl x_figure)), (qx 6, .inl (Y 0, 40, .inl x_low)), (qx 7, .inl (Y 0, 40, .inl x_high))] H → va_D A [(qx 0, oX9 qx x_points x_lines x_tide x_isKept x_isMuch x_sum x_once x_twice x_isTermMuch x_nodes x_newMany x_isTooGreat x_come x_foundSet), (qx 4, .inl (Y 0, 40, .inl x_kind)), (qx 5, .inl (Y 0, 40, .inl x_figure)), (qx 6, .inl (Y 0, 40, .inl x_low)), (qx 7, .inl (Y 0, 40, .inl x_high))] → va_S A s.heap H locs → ∀ (ls : Array Slot), lv_has ls 8 [(0, .ref (qx 0)), (1, .int p1), (2, .int p2), (3, .int p3), (4, .int p4)] → W p l e (headSpec wsX9_cutOf (rmk (2 + (d + 1)) (44 + 27 * (d + 1)))).room s m [.ref (qx 0), .int p1, .int p2, .int p3, .int p4].toArray below meth c H locs 0 0 (MQ below (va_Qf (fun (r : UInt32) (_ : Unit) => r = rv) (Pst G (tys Y) [(qx 0, oX9 qx x_points x_lines x_tide x_isKept x_isMuch x_sum x_once x_twice x_isTermMuch x_nodes x_newMany x_isTooGreat x_come x_foundSet), (qx 4, .inl (Y 0, 40, .inl x_kind)), (qx 5, .inl (Y 0, 40, .inl x_figure)), (qx 6, .inl (Y 0, 40, .inl x_low)), (qx 7, .inl (Y 0, 40, .inl x_high))] s.heap.size [(qx 0, oX9 qx x_points x_lines x_tide x_isKept x_isMuch x_sum x_once x_twice x_isTermMuch x_nodes x_newMany x_isTooGreat x_come x_foundSet), (qx 4, .inl (Y 0, 40, .inl x_kind)), (qx 5, .inl (Y 0, 40, .inl x_figure)), (qx 6, .inl (Y 0, 40, .inl x_low)), (qx 7, .inl (Y 0, 40, .inl x_high))]) A) [.ref (qx 0), .int p1, .int p2, .int p3, .int p4].toArray s 0 0 A) (F0 m 0 ls []) := by
    intro H locs hP hD hS ls hl
    unfold f_X9_cutOf_st at hf
    refine lv_fconst1 hx hb dX9_cutOf_0 ?_
    refine lv_fstore (lv' := [(5, .float FP.fconst1), (0, .ref (qx 0)), (1, .int p1), (2, .int p2), (3, .int p3), (4, .int p4)]) hx hb dX9_cutOf_1 hl (by decide) rfl (fun ls hl => ?_)
    refine lv_iload hx hb dX9_cutOf_3 (lv_at hl 5 rfl) ?_
    refine lv_if_ne (tgt := 12) hx hb dX9_cutOf_5 (by decide) (fun c14 => ?_) (fun c14 => ?_)
    · have hf := ie hf c14
      refine lv_aload_n hx hb dX9_cutOf_12 rfl (lv_at hl 1 rfl) ?_
      refine lv_iload_n hx hb dX9_cutOf_13 rfl (lv_at hl 2 rfl) ?_
      refine lv_iload_n hx hb dX9_cutOf_14 rfl (lv_at hl 3 rfl) ?_
      obtain ⟨r15, hc, hf⟩ := bd1 hf
      refine cl_i (ws' := [(qx 0, oX9 qx x_points x_lines x_tide x_isKept x_isMuch x_sum x_once x_twice x_isTermMuch x_nodes x_newMany x_isTooGreat x_come x_foundSet), (qx 4, .inl (Y 0, 40, .inl x_kind)), (qx 5, .inl (Y 0, 40, .inl x_figure)), (qx 6, .inl (Y 0, 40, .inl x_low)), (qx 7, .inl (Y 0, 40, .inl x_high))]) (wr := [(qx 4, .inl (Y 0, 40, .inl x_kind)), (qx 5, .inl (Y 0, 40, .inl x_figure))]) (rnV (As := [.int p1, .int p2]) (rest := []) ⟨hx, hb, hml, hown, hts⟩ (c_X9_nearOf l G Y H.size qx x_points x_lines x_tide x_low x_high x_isKept x_isMuch x_sum x_once x_twice x_isTermMuch x_nodes x_newMany x_isTooGreat x_come x_foundSet p1 p2 r15 hc) (cwV 2 hts gX9_cutOf_X9_nearOf rfl rfl rfl (by decide +kernel) ⟨(by first | exact Nat.le_of_ble_eq_true rfl | (show _ ≤ _ + _; simp only [List.map, List.sum_cons, List.sum_nil]; omega) | (simp [headSpec, rmk]; omega)), (by first | exact Nat.le_of_ble_eq_true rfl | (show _ ≤ _ + _; simp only [List.map, List.sum_cons, List.sum_nil]; omega) | (simp [headSpec, rmk]; omega))⟩) trivial okT hK hP hD [0, 3, 4] rfl rfl (ci := 7) (q0 := 0) rfl rfl rfl rfl hl.1 rfl (Nat.le_of_ble_eq_true rfl) dX9_cutOf_15) hP hD hS hA [0, 3, 4] [1, 2] [2, 0, 1, 3, 4] rfl rfl rfl (by decide) rfl rfl (fun H locs hP hD hS => ?_)
      refine lv_istore (lv' := [(6, .int r15), (5, .float FP.fconst1), (0, .ref (qx 0)), (1, .int p1), (2, .int p2), (3, .int p3), (4, .int p4)]) hx hb dX9_cutOf_18 hl (by decide) rfl (fun ls hl => ?_)
      refine lv_iconst (v := 0) hx hb dX9_cutOf_20 (by decide) ?_
      refine lv_istore (lv' := [(7, .int (0 : Int32)), (6, .int r15), (5, .float FP.fconst1), (0, .ref (qx 0)), (1, .int p1), (2, .int p2), (3, .int p3), (4, .int p4)]) hx hb dX9_cutOf_21 hl (by decide) rfl (fun ls hl => ?_)
      exact B23 70 FP.fconst1 r15 (0 : Int32) hf _ _ hP hD hS ls (lv_sub hl [3, 4, 5, 6, 7, 2, 1, 0] rfl)
    · have hf := it hf c14
      refine lv_iconst (v := 0) hx hb dX9_cutOf_8 (by decide) ?_
      refine lv_goto (tgt := 18) hx hb dX9_cutOf_9 (by decide) ?_
      refine lv_istore (lv' := [(6, .int (0 : Int32)), (5, .float FP.fconst1), (0, .ref (qx 0)), (1, .int p1), (2, .int p2), (3, .int p3), (4, .int p4)]) hx hb dX9_cutOf_18 hl (by decide) rfl (fun ls hl => ?_)
      refine lv_iconst (v := 0) hx hb dX9_cutOf_20 (by decide) ?_
      refine lv_istore (lv' := [(7, .int (0 : Int32)), (6, .int (0 : Int32)), (5, .float FP.fconst1), (0, .ref (qx 0)), (1, .int p1), (2, .int p2), (3, .int p3), (4, .int p4)]) hx hb dX9_cutOf_21 hl (by decide) rfl (fun ls hl => ?_)
      exact B23 70 FP.fconst1 (0 : Int32) (0 : Int32) hf _ _ hP hD hS ls (lv_sub hl [3, 4, 5, 6, 7, 2, 1, 0] rfl)
  exact E0 s.heap [] hP hD hS ls hl
-- X9_cutOff
set_option maxRecDepth 100000 in
set_option maxHeartbeats 4000000 in
theorem c_X9_cutOff (l : Launch) (G : va_G) (Y : Nat → ClassId) (sz : Nat) (qx : Nat → Nat) (x_points : Int32) (x_lines : Int32) (x_tide : Int32) (x_kind : Nat → Int32) (x_figure : Nat → Int32) (x_low : Nat → Int32) (x_high : Nat → Int32) (x_isKept : Int32) (x_isMuch : Int32) (x_sum : Int64) (x_once : Int64) (x_twice : Int64) (x_isTermMuch : Int32) (x_nodes : Int32) (x_newMany : Int32) (x_isTooGreat : Int32) (x_come : Int32) (x_foundSet : Int64) (p1 : Int32) (p2 : Int32) (p3 : Int32) (p4 : Int32) (rv : Int32) (hf : f_X9_cutOff x_points x_lines x_tide x_kind x_figure x_low x_high p1 p2 p3 p4 = some (rv)) : Met l yX9_cutOff wsX9_cutOff (rmk 19 503) (va_Pc [.ref (qx 0), .int p1, .int p2, .int p3, .int p4] (Pre G (tys Y) [(qx 0, oX9 qx x_points x_lines x_tide x_isKept x_isMuch x_sum x_once x_twice x_isTermMuch x_nodes x_newMany x_isTooGreat x_come x_foundSet), (qx 4, .inl (Y 0, 40, .inl x_kind)), (qx 5, .inl (Y 0, 40, .inl x_figure)), (qx 6, .inl (Y 0, 40, .inl x_low)), (qx 7, .inl (Y 0, 40, .inl x_high))] sz xT)) (va_Qi (fun (r : Int32) (_ : Unit) => r = rv) (Pst G (tys Y) [(qx 0, oX9 qx x_points x_lines x_tide x_isKept x_isMuch x_sum x_once x_twice x_isTermMuch x_nodes x_newMany x_isTooGreat x_come x_foundSet), (qx 4, .inl (Y 0, 40, .inl x_kind)), (qx 5, .inl (Y 0, 40, .inl x_figure)), (qx 6, .inl (Y 0, 40, .inl x_low)), (qx 7, .inl (Y 0, 40, .inl x_high))] sz [(qx 0, oX9 qx x_points x_lines x_tide x_isKept x_isMuch x_sum x_once x_twice x_isTermMuch x_nodes x_newMany x_isTooGreat x_come x_foundSet), (qx 4, .inl (Y 0, 40, .inl x_kind)), (qx 5, .inl (Y 0, 40, .inl x_figure)), (qx 6, .inl (Y 0, 40, .inl x_low)), (qx 7, .inl (Y 0, 40, .inl x_high))]) (va_A [(qx 0, oX9 qx x_points x_lines x_tide x_isKept x_isMuch x_sum x_once x_twice x_isTermMuch x_nodes x_newMany x_isTooGreat x_come x_foundSet), (qx 4, .inl (Y 0, 40, .inl x_kind)), (qx 5, .inl (Y 0, 40, .inl x_figure)), (qx 6, .inl (Y 0, 40, .inl x_low)), (qx 7, .inl (Y 0, 40, .inl x_high))] sz)) 0 0 (va_A [(qx 0, oX9 qx x_points x_lines x_tide x_isKept x_isMuch x_sum x_once x_twice x_isTermMuch x_nodes x_newMany x_isTooGreat x_come x_foundSet), (qx 4, .inl (Y 0, 40, .inl x_kind)), (qx 5, .inl (Y 0, 40, .inl x_figure)), (qx 6, .inl (Y 0, 40, .inl x_low)), (qx 7, .inl (Y 0, 40, .inl x_high))] sz) := by
  refine Met.ofW (cc := cX9_cutOff) (maxL := 5) (ret := (some .int)) (by decide) rfl ?_
  intro p e s m args below meth c s₁ B hml hv
  obtain ⟨rfl, hsz, hP, hK, hD0, hX⟩ := hv
  have hx := B.exec
  have hb := B.bytes
  have hr := B.returns
  have hts := atoms_spec (ws := wsX9_cutOff) B.pre
  have hown : s.vm.findClass RX9 = some m.cls := findClass_of_methodNamed B.named
  have hlocks := B.notSynchronized
  subst hsz
  have hD := hD0.self (sz := s.heap.size)
  generalize hAe : va_A [(qx 0, oX9 qx x_points x_lines x_tide x_isKept x_isMuch x_sum x_once x_twice x_isTermMuch x_nodes x_newMany x_isTooGreat x_come x_foundSet), (qx 4, .inl (Y 0, 40, .inl x_kind)), (qx 5, .inl (Y 0, 40, .inl x_figure)), (qx 6, .inl (Y 0, 40, .inl x_low)), (qx 7, .inl (Y 0, 40, .inl x_high))] s.heap.size = A at hD ⊢
  have hA : ∀ q : Nat, s.heap.size ≤ q → A q := fun q h => by rw [← hAe]; exact Or.inr h
  have hS : va_S A s.heap s.heap [] := va_S.rf
  have hP : va_P G vwCl [(qx 0, oX9 qx x_points x_lines x_tide x_isKept x_isMuch x_sum x_once x_twice x_isTermMuch x_nodes x_newMany x_isTooGreat x_come x_foundSet), (qx 4, .inl (Y 0, 40, .inl x_kind)), (qx 5, .inl (Y 0, 40, .inl x_figure)), (qx 6, .inl (Y 0, 40, .inl x_low)), (qx 7, .inl (Y 0, 40, .inl x_high))] s.heap := hP
  have wd1 : (Cond.constantLong RX9 120 (5)).before [.ref (qx 0), .int p1, .int p2, .int p3, .int p4].toArray s = true := hts _ (List.mem_of_getElem? (i := 1) rfl)
  have hl := lv_entry ([.ref (qx 0), .int p1, .int p2, .int p3, .int p4]) (n := 5) (Nat.le_of_ble_eq_true rfl)
  rw [lg_entry_eq]
  generalize (lg_sl ([.ref (qx 0), .int p1, .int p2, .int p3, .int p4]) ++ List.replicate (5 - (lg_sl ([.ref (qx 0), .int p1, .int p2, .int p3, .int p4])).length) Slot.unset).toArray = ls at hl ⊢
  have hl : lv_has ls 5 [(0, .ref (qx 0)), (1, .int p1), (2, .int p2), (3, .int p3), (4, .int p4)] := hl
  have E0 : ∀ (H : Heap) (locs : List Loc), va_P G vwCl [(qx 0, oX9 qx x_points x_lines x_tide x_isKept x_isMuch x_sum x_once x_twice x_isTermMuch x_nodes x_newMany x_isTooGreat x_come x_foundSet), (qx 4, .inl (Y 0, 40, .inl x_kind)), (qx 5, .inl (Y 0, 40, .inl x_figure)), (qx 6, .inl (Y 0, 40, .inl x_low)), (qx 7, .inl (Y 0, 40, .inl x_high))] H → va_D A [(qx 0, oX9 qx x_points x_lines x_tide x_isKept x_isMuch x_sum x_once x_twice x_isTermMuch x_nodes x_newMany x_isTooGreat x_come x_foundSet), (qx 4, .inl (Y 0, 40, .inl x_kind)), (qx 5, .inl (Y 0, 40, .inl x_figure)), (qx 6, .inl (Y 0, 40, .inl x_low)), (qx 7, .inl (Y 0, 40, .inl x_high))] → va_S A s.heap H locs → ∀ (ls : Array Slot), lv_has ls 5 [(0, .ref (qx 0)), (1, .int p1), (2, .int p2), (3, .int p3), (4, .int p4)] → W p l e (headSpec wsX9_cutOff (rmk 19 503)).room s m [.ref (qx 0), .int p1, .int p2, .int p3, .int p4].toArray below meth c H locs 0 0 (MQ below (va_Qi (fun (r : Int32) (_ : Unit) => r = rv) (Pst G (tys Y) [(qx 0, oX9 qx x_points x_lines x_tide x_isKept x_isMuch x_sum x_once x_twice x_isTermMuch x_nodes x_newMany x_isTooGreat x_come x_foundSet), (qx 4, .inl (Y 0, 40, .inl x_kind)), (qx 5, .inl (Y 0, 40, .inl x_figure)), (qx 6, .inl (Y 0, 40, .inl x_low)), (qx 7, .inl (Y 0, 40, .inl x_high))] s.heap.size [(qx 0, oX9 qx x_points x_lines x_tide x_isKept x_isMuch x_sum x_once x_twice x_isTermMuch x_nodes x_newMany x_isTooGreat x_come x_foundSet), (qx 4, .inl (Y 0, 40, .inl x_kind)), (qx 5, .inl (Y 0, 40, .inl x_figure)), (qx 6, .inl (Y 0, 40, .inl x_low)), (qx 7, .inl (Y 0, 40, .inl x_high))]) A) [.ref (qx 0), .int p1, .int p2, .int p3, .int p4].toArray s 0 0 A) (F0 m 0 ls []) := by
    intro H locs hP hD hS ls hl
    unfold f_X9_cutOff at hf
    refine lv_aload_n hx hb dX9_cutOff_0 rfl (lv_at hl 0 rfl) ?_
    refine lv_iload_n hx hb dX9_cutOff_1 rfl (lv_at hl 1 rfl) ?_
    obtain ⟨r1, hc, hf⟩ := bd1 hf
    refine cl_i (ws' := [(qx 0, oX9 qx x_points x_lines x_tide x_isKept x_isMuch x_sum x_once x_twice x_isTermMuch x_nodes x_newMany x_isTooGreat x_come x_foundSet), (qx 4, .inl (Y 0, 40, .inl x_kind)), (qx 5, .inl (Y 0, 40, .inl x_figure)), (qx 6, .inl (Y 0, 40, .inl x_low)), (qx 7, .inl (Y 0, 40, .inl x_high))]) (wr := [(qx 4, .inl (Y 0, 40, .inl x_kind)), (qx 5, .inl (Y 0, 40, .inl x_figure)), (qx 6, .inl (Y 0, 40, .inl x_low)), (qx 7, .inl (Y 0, 40, .inl x_high))]) (rnV (As := [.int p1]) (rest := []) ⟨hx, hb, hml, hown, hts⟩ (c_X9_isPoint l G Y H.size qx x_points x_lines x_tide x_isKept x_isMuch x_sum x_once x_twice x_isTermMuch x_nodes x_newMany x_isTooGreat x_come x_foundSet p1 r1 hc) (cwV 1 hts gX9_cutOff_X9_isPoint rfl rfl rfl (by decide +kernel) ⟨(Nat.le_of_ble_eq_true rfl), (Nat.le_of_ble_eq_true rfl)⟩) trivial okT hK hP hD [0] rfl rfl (ci := 7) (q0 := 0) rfl rfl rfl rfl hl.1 rfl (Nat.le_of_ble_eq_true rfl) dX9_cutOff_2) hP hD hS hA [0] [1, 2, 3, 4] [4, 0, 1, 2, 3] rfl rfl rfl (by decide) rfl rfl (fun H locs hP hD hS => ?_)
    refine lv_if_eq (tgt := 44) hx hb dX9_cutOff_5 (by decide) (fun c2 => ?_) (fun c2 => ?_)
    · have hf := it hf c2
      refine lv_bipush (v := -2) hx hb dX9_cutOff_44 (by decide) ?_
      have e0 := rt1 hf
      exact W.iret (v := (-2 : Int32)) hx hb hr (fun t ht hW => ⟨⟨(-2 : Int32), (), rfl, e0, by rw [ht]; exact hP, va_K.moved hW.alike hK, by rw [hAe]; exact hD⟩, hS.F ht⟩) hS.2.2 dX9_cutOff_46
    · have hf := ie hf c2
      refine lv_iload_n hx hb dX9_cutOff_8 rfl (lv_at hl 2 rfl) ?_
      obtain ⟨r3, hc, hf⟩ := bd1 hf
      refine cl_i (ws' := [(qx 0, oX9 qx x_points x_lines x_tide x_isKept x_isMuch x_sum x_once x_twice x_isTermMuch x_nodes x_newMany x_isTooGreat x_come x_foundSet), (qx 4, .inl (Y 0, 40, .inl x_kind)), (qx 5, .inl (Y 0, 40, .inl x_figure)), (qx 6, .inl (Y 0, 40, .inl x_low)), (qx 7, .inl (Y 0, 40, .inl x_high))]) (wr := [(qx 0, oX9 qx x_points x_lines x_tide x_isKept x_isMuch x_sum x_once x_twice x_isTermMuch x_nodes x_newMany x_isTooGreat x_come x_foundSet), (qx 4, .inl (Y 0, 40, .inl x_kind)), (qx 5, .inl (Y 0, 40, .inl x_figure)), (qx 6, .inl (Y 0, 40, .inl x_low)), (qx 7, .inl (Y 0, 40, .inl x_high))]) (rnS (As := [.int p2]) (rest := []) ⟨hx, hb, hml, hown, hts⟩ (c_X9_isOut l G Y H.size p2 r3 hc) (va_cwS 1 hts gX9_cutOff_X9_isOut rfl rfl rfl (by decide +kernel) ⟨(Nat.le_of_ble_eq_true rfl), (Nat.le_of_ble_eq_true rfl)⟩) trivial okT hK hP hD [] rfl rfl rfl hl.1 rfl (Nat.le_of_ble_eq_true rfl) dX9_cutOff_9) hP hD hS hA [] [0, 1, 2, 3, 4] [0, 1, 2, 3, 4] rfl rfl rfl (by decide) rfl rfl (fun H locs hP hD hS => ?_)
      refine lv_if_eq (tgt := 44) hx hb dX9_cutOff_12 (by decide) (fun c4 => ?_) (fun c4 => ?_)
      · have hf := it hf c4
        refine lv_bipush (v := -2) hx hb dX9_cutOff_44 (by decide) ?_
        have e0 := rt1 hf
        exact W.iret (v := (-2 : Int32)) hx hb hr (fun t ht hW => ⟨⟨(-2 : Int32), (), rfl, e0, by rw [ht]; exact hP, va_K.moved hW.alike hK, by rw [hAe]; exact hD⟩, hS.F ht⟩) hS.2.2 dX9_cutOff_46
      · have hf := ie hf c4
        refine lv_iload_n hx hb dX9_cutOff_15 rfl (lv_at hl 2 rfl) ?_
        refine lv_i2l hx hb dX9_cutOff_16 rfl ?_
        refine lv_iload_n hx hb dX9_cutOff_17 rfl (lv_at hl 1 rfl) ?_
        obtain ⟨r5, hc, hf⟩ := bd1 hf
        refine cl_i (ws' := [(qx 0, oX9 qx x_points x_lines x_tide x_isKept x_isMuch x_sum x_once x_twice x_isTermMuch x_nodes x_newMany x_isTooGreat x_come x_foundSet), (qx 4, .inl (Y 0, 40, .inl x_kind)), (qx 5, .inl (Y 0, 40, .inl x_figure)), (qx 6, .inl (Y 0, 40, .inl x_low)), (qx 7, .inl (Y 0, 40, .inl x_high))]) (wr := [(qx 0, oX9 qx x_points x_lines x_tide x_isKept x_isMuch x_sum x_once x_twice x_isTermMuch x_nodes x_newMany x_isTooGreat x_come x_foundSet), (qx 4, .inl (Y 0, 40, .inl x_kind)), (qx 5, .inl (Y 0, 40, .inl x_figure)), (qx 6, .inl (Y 0, 40, .inl x_low)), (qx 7, .inl (Y 0, 40, .inl x_high))]) (rnS (As := [.long p2.toInt64, .int p1]) (rest := []) ⟨hx, hb, hml, hown, hts⟩ (c_X9_has l G Y H.size p2.toInt64 p1 r5 hc) (va_cwS 2 hts gX9_cutOff_X9_has rfl rfl rfl (by decide +kernel) ⟨(Nat.le_of_ble_eq_true rfl), (Nat.le_of_ble_eq_true rfl)⟩) trivial okT hK hP hD [] rfl rfl rfl hl.1 rfl (Nat.le_of_ble_eq_true rfl) dX9_cutOff_18) hP hD hS hA [] [0, 1, 2, 3, 4] [0, 1, 2, 3, 4] rfl rfl rfl (by decide) rfl rfl (fun H locs hP hD hS => ?_)
        refine lv_if_ne (tgt := 44) hx hb dX9_cutOff_21 (by decide) (fun c6 => ?_) (fun c6 => ?_)
        · have hf := ie hf c6
          refine lv_bipush (v := -2) hx hb dX9_cutOff_44 (by decide) ?_
          have e0 := rt1 hf
          exact W.iret (v := (-2 : Int32)) hx hb hr (fun t ht hW => ⟨⟨(-2 : Int32), (), rfl, e0, by rw [ht]; exact hP, va_K.moved hW.alike hK, by rw [hAe]; exact hD⟩, hS.F ht⟩) hS.2.2 dX9_cutOff_46
        · have hf := it hf c6
          refine lv_iload_n hx hb dX9_cutOff_24 rfl (lv_at hl 3 rfl) ?_
          obtain ⟨r7, hc, hf⟩ := bd1 hf
          refine cl_i (ws' := [(qx 0, oX9 qx x_points x_lines x_tide x_isKept x_isMuch x_sum x_once x_twice x_isTermMuch x_nodes x_newMany x_isTooGreat x_come x_foundSet), (qx 4, .inl (Y 0, 40, .inl x_kind)), (qx 5, .inl (Y 0, 40, .inl x_figure)), (qx 6, .inl (Y 0, 40, .inl x_low)), (qx 7, .inl (Y 0, 40, .inl x_high))]) (wr := [(qx 0, oX9 qx x_points x_lines x_tide x_isKept x_isMuch x_sum x_once x_twice x_isTermMuch x_nodes x_newMany x_isTooGreat x_come x_foundSet), (qx 4, .inl (Y 0, 40, .inl x_kind)), (qx 5, .inl (Y 0, 40, .inl x_figure)), (qx 6, .inl (Y 0, 40, .inl x_low)), (qx 7, .inl (Y 0, 40, .inl x_high))]) (rnS (As := [.int p3]) (rest := []) ⟨hx, hb, hml, hown, hts⟩ (c_X9_isRate l G Y H.size p3 r7 hc) (va_cwS 1 hts gX9_cutOff_X9_isRate rfl rfl rfl (by decide +kernel) ⟨(Nat.le_of_ble_eq_true rfl), (Nat.le_of_ble_eq_true rfl)⟩) trivial okT hK hP hD [] rfl rfl rfl hl.1 rfl (Nat.le_of_ble_eq_true rfl) dX9_cutOff_25) hP hD hS hA [] [0, 1, 2, 3, 4] [0, 1, 2, 3, 4] rfl rfl rfl (by decide) rfl rfl (fun H locs hP hD hS => ?_)
          refine lv_if_eq (tgt := 44) hx hb dX9_cutOff_28 (by decide) (fun c8 => ?_) (fun c8 => ?_)
          · have hf := it hf c8
            refine lv_bipush (v := -2) hx hb dX9_cutOff_44 (by decide) ?_
            have e0 := rt1 hf
            exact W.iret (v := (-2 : Int32)) hx hb hr (fun t ht hW => ⟨⟨(-2 : Int32), (), rfl, e0, by rw [ht]; exact hP, va_K.moved hW.alike hK, by rw [hAe]; exact hD⟩, hS.F ht⟩) hS.2.2 dX9_cutOff_46
          · have hf := ie hf c8
            refine lv_iload hx hb dX9_cutOff_31 (lv_at hl 4 rfl) ?_
            refine lv_i2l hx hb dX9_cutOff_33 rfl ?_
            refine lv_lconst (v := 0) hx hb dX9_cutOff_34 (by decide) ?_
            refine lv_ldc2 hx hb hown wd1 dX9_cutOff_35 ?_
            obtain ⟨r9, hc, hf⟩ := bd1 hf
            refine cl_i (ws' := [(qx 0, oX9 qx x_points x_lines x_tide x_isKept x_isMuch x_sum x_once x_twice x_isTermMuch x_nodes x_newMany x_isTooGreat x_come x_foundSet), (qx 4, .inl (Y 0, 40, .inl x_kind)), (qx 5, .inl (Y 0, 40, .inl x_figure)), (qx 6, .inl (Y 0, 40, .inl x_low)), (qx 7, .inl (Y 0, 40, .inl x_high))]) (wr := [(qx 0, oX9 qx x_points x_lines x_tide x_isKept x_isMuch x_sum x_once x_twice x_isTermMuch x_nodes x_newMany x_isTooGreat x_come x_foundSet), (qx 4, .inl (Y 0, 40, .inl x_kind)), (qx 5, .inl (Y 0, 40, .inl x_figure)), (qx 6, .inl (Y 0, 40, .inl x_low)), (qx 7, .inl (Y 0, 40, .inl x_high))]) (rnS (As := [.long p4.toInt64, .long (0 : Int64), .long (5 : Int64)]) (rest := []) ⟨hx, hb, hml, hown, hts⟩ (c_X9_in l G Y H.size p4.toInt64 (0 : Int64) (5 : Int64) r9 hc) (va_cwS 3 hts gX9_cutOff_X9_in rfl rfl rfl (by decide +kernel) ⟨(Nat.le_of_ble_eq_true rfl), (Nat.le_of_ble_eq_true rfl)⟩) trivial okT hK hP hD [] rfl rfl rfl hl.1 rfl (Nat.le_of_ble_eq_true rfl) dX9_cutOff_38) hP hD hS hA [] [0, 1, 2, 3, 4] [0, 1, 2, 3, 4] rfl rfl rfl (by decide) rfl rfl (fun H locs hP hD hS => ?_)
            refine lv_if_ne (tgt := 47) hx hb dX9_cutOff_41 (by decide) (fun c10 => ?_) (fun c10 => ?_)
            · have hf := ie hf c10
              refine lv_aload_n hx hb dX9_cutOff_47 rfl (lv_at hl 0 rfl) ?_
              refine lv_iload_n hx hb dX9_cutOff_48 rfl (lv_at hl 1 rfl) ?_
              refine lv_iload_n hx hb dX9_cutOff_49 rfl (lv_at hl 2 rfl) ?_
              refine lv_iload_n hx hb dX9_cutOff_50 rfl (lv_at hl 3 rfl) ?_
              refine lv_iload hx hb dX9_cutOff_51 (lv_at hl 4 rfl) ?_
              obtain ⟨r11, hc, hf⟩ := bd1 hf
              refine cl_f (ws' := [(qx 0, oX9 qx x_points x_lines x_tide x_isKept x_isMuch x_sum x_once x_twice x_isTermMuch x_nodes x_newMany x_isTooGreat x_come x_foundSet), (qx 4, .inl (Y 0, 40, .inl x_kind)), (qx 5, .inl (Y 0, 40, .inl x_figure)), (qx 6, .inl (Y 0, 40, .inl x_low)), (qx 7, .inl (Y 0, 40, .inl x_high))]) (wr := []) (rnV (As := [.int p1, .int p2, .int p3, .int p4]) (rest := []) ⟨hx, hb, hml, hown, hts⟩ (c_X9_cutOf l G Y 16 H.size qx x_points x_lines x_tide x_kind x_figure x_low x_high x_isKept x_isMuch x_sum x_once x_twice x_isTermMuch x_nodes x_newMany x_isTooGreat x_come x_foundSet p1 p2 p3 p4 r11 hc) (cwV 4 hts gX9_cutOff_X9_cutOf rfl rfl rfl (by decide +kernel) ⟨(Nat.le_of_ble_eq_true rfl), (Nat.le_of_ble_eq_true rfl)⟩) trivial okT hK hP hD [0, 1, 2, 3, 4] rfl rfl (ci := 7) (q0 := 0) rfl rfl rfl rfl hl.1 rfl (Nat.le_of_ble_eq_true rfl) dX9_cutOff_53) hP hD hS hA [0, 1, 2, 3, 4] [] [0, 1, 2, 3, 4] rfl rfl rfl (by decide) rfl rfl (fun H locs hP hD hS => ?_)
              obtain ⟨r12, hc, hf⟩ := bd1 hf
              refine cl_i (ws' := [(qx 0, oX9 qx x_points x_lines x_tide x_isKept x_isMuch x_sum x_once x_twice x_isTermMuch x_nodes x_newMany x_isTooGreat x_come x_foundSet), (qx 4, .inl (Y 0, 40, .inl x_kind)), (qx 5, .inl (Y 0, 40, .inl x_figure)), (qx 6, .inl (Y 0, 40, .inl x_low)), (qx 7, .inl (Y 0, 40, .inl x_high))]) (wr := [(qx 0, oX9 qx x_points x_lines x_tide x_isKept x_isMuch x_sum x_once x_twice x_isTermMuch x_nodes x_newMany x_isTooGreat x_come x_foundSet), (qx 4, .inl (Y 0, 40, .inl x_kind)), (qx 5, .inl (Y 0, 40, .inl x_figure)), (qx 6, .inl (Y 0, 40, .inl x_low)), (qx 7, .inl (Y 0, 40, .inl x_high))]) (rnS (As := [.float r11]) (rest := []) ⟨hx, hb, hml, hown, hts⟩ (c_Jxf58ca_floatToIntBits_5c35a l G Y H.size r11 r12 hc) (va_cwS 1 hts gX9_cutOff_Jxf58ca_floatToIntBits_5c35a rfl rfl rfl (by decide +kernel) ⟨(Nat.le_of_ble_eq_true rfl), (Nat.le_of_ble_eq_true rfl)⟩) trivial okT hK hP hD [] rfl rfl rfl hl.1 rfl (Nat.le_of_ble_eq_true rfl) dX9_cutOff_56) hP hD hS hA [] [0, 1, 2, 3, 4] [0, 1, 2, 3, 4] rfl rfl rfl (by decide) rfl rfl (fun H locs hP hD hS => ?_)
              have e0 := rt1 hf
              exact W.iret (v := r12) hx hb hr (fun t ht hW => ⟨⟨r12, (), rfl, e0, by rw [ht]; exact hP, va_K.moved hW.alike hK, by rw [hAe]; exact hD⟩, hS.F ht⟩) hS.2.2 dX9_cutOff_59
            · have hf := it hf c10
              refine lv_bipush (v := -2) hx hb dX9_cutOff_44 (by decide) ?_
              have e0 := rt1 hf
              exact W.iret (v := (-2 : Int32)) hx hb hr (fun t ht hW => ⟨⟨(-2 : Int32), (), rfl, e0, by rw [ht]; exact hP, va_K.moved hW.alike hK, by rw [hAe]; exact hD⟩, hS.F ht⟩) hS.2.2 dX9_cutOff_46
  exact E0 s.heap [] hP hD hS ls hl
-- X9_product
set_option maxRecDepth 100000 in
set_option maxHeartbeats 4000000 in
theorem c_X9_product (l : Launch) (G : va_G) (Y : Nat → ClassId) (sz : Nat) (qx : Nat → Nat) (x_points : Int32) (x_lines : Int32) (x_tide : Int32) (x_isKept : Int32) (x_isMuch : Int32) (x_sum : Int64) (x_once : Int64) (x_twice : Int64) (x_isTermMuch : Int32) (x_nodes : Int32) (x_newMany : Int32) (x_isTooGreat : Int32) (x_come : Int32) (x_foundSet : Int64) (p1 : Int64) (p2 : Int64) (rv : Int64) (o_x_isTooGreat : Int32) (hf : f_X9_product x_isTooGreat p1 p2 = some (rv, o_x_isTooGreat)) : Met l yX9_product wsX9_product (rmk 0 0) (va_Pc [.ref (qx 0), .long p1, .long p2] (Pre G (tys Y) [(qx 0, oX9 qx x_points x_lines x_tide x_isKept x_isMuch x_sum x_once x_twice x_isTermMuch x_nodes x_newMany x_isTooGreat x_come x_foundSet)] sz xT)) (va_Ql (fun (r : Int64) (_ : Unit) => r = rv) (Pst G (tys Y) [(qx 0, oX9 qx x_points x_lines x_tide x_isKept x_isMuch x_sum x_once x_twice x_isTermMuch x_nodes x_newMany x_isTooGreat x_come x_foundSet)] sz [(qx 0, oX9 qx x_points x_lines x_tide x_isKept x_isMuch x_sum x_once x_twice x_isTermMuch x_nodes x_newMany o_x_isTooGreat x_come x_foundSet)]) (va_A [(qx 0, oX9 qx x_points x_lines x_tide x_isKept x_isMuch x_sum x_once x_twice x_isTermMuch x_nodes x_newMany x_isTooGreat x_come x_foundSet)] sz)) 0 0 (va_A [(qx 0, oX9 qx x_points x_lines x_tide x_isKept x_isMuch x_sum x_once x_twice x_isTermMuch x_nodes x_newMany x_isTooGreat x_come x_foundSet)] sz) := by
  refine Met.ofW (cc := cX9_product) (maxL := 7) (ret := (some .long)) (by decide) rfl ?_
  intro p e s m args below meth c s₁ B hml hv
  obtain ⟨rfl, hsz, hP, hK, hD0, hX⟩ := hv
  have hx := B.exec
  have hb := B.bytes
  have hr := B.returns
  have hts := atoms_spec (ws := wsX9_product) B.pre
  have hown : s.vm.findClass RX9 = some m.cls := findClass_of_methodNamed B.named
  have hlocks := B.notSynchronized
  subst hsz
  have hD := hD0.self (sz := s.heap.size)
  generalize hAe : va_A [(qx 0, oX9 qx x_points x_lines x_tide x_isKept x_isMuch x_sum x_once x_twice x_isTermMuch x_nodes x_newMany x_isTooGreat x_come x_foundSet)] s.heap.size = A at hD ⊢
  have hA : ∀ q : Nat, s.heap.size ≤ q → A q := fun q h => by rw [← hAe]; exact Or.inr h
  have hS : va_S A s.heap s.heap [] := va_S.rf
  have hP : va_P G vwCl [(qx 0, oX9 qx x_points x_lines x_tide x_isKept x_isMuch x_sum x_once x_twice x_isTermMuch x_nodes x_newMany x_isTooGreat x_come x_foundSet)] s.heap := hP
  have wd1 : (Cond.fieldLink RX9 263 "PairedLinesModel" "isTooGreat" "Z").before [.ref (qx 0), .long p1, .long p2].toArray s = true := hts _ (List.mem_of_getElem? (i := 1) rfl)
  have wd2 : (Cond.constantLong RX9 84 (-1)).before [.ref (qx 0), .long p1, .long p2].toArray s = true := hts _ (List.mem_of_getElem? (i := 2) rfl)
  have wd3 : (Cond.constantLong RX9 266 (-9223372036854775808)).before [.ref (qx 0), .long p1, .long p2].toArray s = true := hts _ (List.mem_of_getElem? (i := 3) rfl)
  have inX9w : ∀ w ∈ u_ws RX9 TX9 37, w ∈ wsX9_product := fun w hw => List.mem_cons_of_mem _ (List.mem_append_right _ (hw))
  have hl := lv_entry ([.ref (qx 0), .long p1, .long p2]) (n := 7) (Nat.le_of_ble_eq_true rfl)
  rw [lg_entry_eq]
  generalize (lg_sl ([.ref (qx 0), .long p1, .long p2]) ++ List.replicate (7 - (lg_sl ([.ref (qx 0), .long p1, .long p2])).length) Slot.unset).toArray = ls at hl ⊢
  have hl : lv_has ls 7 [(0, .ref (qx 0)), (1, .long p1), (3, .long p2)] := hl
  have E0 : ∀ (H : Heap) (locs : List Loc), va_P G vwCl [(qx 0, oX9 qx x_points x_lines x_tide x_isKept x_isMuch x_sum x_once x_twice x_isTermMuch x_nodes x_newMany x_isTooGreat x_come x_foundSet)] H → va_D A [(qx 0, oX9 qx x_points x_lines x_tide x_isKept x_isMuch x_sum x_once x_twice x_isTermMuch x_nodes x_newMany x_isTooGreat x_come x_foundSet)] → va_S A s.heap H locs → ∀ (ls : Array Slot), lv_has ls 7 [(0, .ref (qx 0)), (1, .long p1), (3, .long p2)] → W p l e (headSpec wsX9_product (rmk 0 0)).room s m [.ref (qx 0), .long p1, .long p2].toArray below meth c H locs 0 0 (MQ below (va_Ql (fun (r : Int64) (_ : Unit) => r = rv) (Pst G (tys Y) [(qx 0, oX9 qx x_points x_lines x_tide x_isKept x_isMuch x_sum x_once x_twice x_isTermMuch x_nodes x_newMany x_isTooGreat x_come x_foundSet)] s.heap.size [(qx 0, oX9 qx x_points x_lines x_tide x_isKept x_isMuch x_sum x_once x_twice x_isTermMuch x_nodes x_newMany o_x_isTooGreat x_come x_foundSet)]) A) [.ref (qx 0), .long p1, .long p2].toArray s 0 0 A) (F0 m 0 ls []) := by
    intro H locs hP hD hS ls hl
    unfold f_X9_product at hf
    refine lv_lload_n hx hb dX9_product_0 rfl (lv_at hl 1 rfl) ?_
    refine lv_lload_n hx hb dX9_product_1 rfl (lv_at hl 2 rfl) ?_
    refine lv_lmul hx hb dX9_product_2 ?_
    refine lv_topl (fun v1 e_v1 => ?_)
    have hf := nm_at hf e_v1
    refine lv_lstore (lv' := [(5, .long v1), (0, .ref (qx 0)), (1, .long p1), (3, .long p2)]) hx hb dX9_product_3 hl (by decide) rfl (fun ls hl => ?_)
    refine lv_aload_n hx hb dX9_product_5 rfl (lv_at hl 1 rfl) ?_
    refine lv_dup hx hb dX9_product_6 rfl ?_
    refine va_get (D := G) (ci := 7) (v := .int x_isTooGreat) (C := RX9) (T := TX9) (N := 37) hx hb hts inX9w hown hK hP 0 rfl rfl 26 (by decide) wd1 (fun _ h9 => h9) rfl dX9_product_7 ?_
    refine lv_lload_n hx hb dX9_product_10 rfl (lv_at hl 2 rfl) ?_
    refine lv_lconst (v := 0) hx hb dX9_product_11 (by decide) ?_
    refine W.lcmp hx hb dX9_product_12 ?_
    refine lv_if_eq (tgt := 45) hx hb dX9_product_13 (by decide) (fun c2 => ?_) (fun c2 => ?_)
    · have hf := it hf c2
      refine lv_iconst (v := 0) hx hb dX9_product_45 (by decide) ?_
      refine lv_ior hx hb dX9_product_46 ?_
      refine lv_topi (fun v3 e_v3 => ?_)
      have hf := nm_at hf e_v3
      obtain ⟨g4, hf⟩ := gp hf
      refine va_put (D := G) (ci := 7) (v := .int v3) (ty := .boolean) (C := RX9) (T := TX9) (N := 37) hx hb hts inX9w tyX9 tyX9_ok nmX9 hown hK hP hD hS 0 rfl rfl 26 (by decide) wd1 (fun _ h9 => h9) rfl (by decide +kernel) (nb_n g4) (nb_f g4) (Nat.le_of_ble_eq_true rfl) dX9_product_47 (fun H locs hP hD hS => ?_)
      have hP : va_P G vwCl [(qx 0, oX9 qx x_points x_lines x_tide x_isKept x_isMuch x_sum x_once x_twice x_isTermMuch x_nodes x_newMany v3 x_come x_foundSet)] H := hP
      have hD : va_D A [(qx 0, oX9 qx x_points x_lines x_tide x_isKept x_isMuch x_sum x_once x_twice x_isTermMuch x_nodes x_newMany v3 x_come x_foundSet)] := hD
      refine lv_lload hx hb dX9_product_50 (lv_at hl 0 rfl) ?_
      obtain ⟨e0, e1⟩ := rt2 hf
      have hP : va_P G vwCl [(qx 0, oX9 qx x_points x_lines x_tide x_isKept x_isMuch x_sum x_once x_twice x_isTermMuch x_nodes x_newMany o_x_isTooGreat x_come x_foundSet)] H := by rw [← e1]; exact hP
      have hD : va_D A [(qx 0, oX9 qx x_points x_lines x_tide x_isKept x_isMuch x_sum x_once x_twice x_isTermMuch x_nodes x_newMany o_x_isTooGreat x_come x_foundSet)] := by rw [← e1]; exact hD
      exact W.lret (v := v1) hx hb hr (fun t ht hW => ⟨⟨v1, (), rfl, e0, by rw [ht]; exact hP, va_K.moved hW.alike hK, by rw [hAe]; exact hD⟩, hS.F ht⟩) hS.2.2 dX9_product_52
    · have hf := ie hf c2
      refine lv_lload hx hb dX9_product_16 (lv_at hl 0 rfl) ?_
      refine lv_lload_n hx hb dX9_product_18 rfl (lv_at hl 2 rfl) ?_
      obtain ⟨g5, hf⟩ := gd hf
      refine lv_ldiv hx hb dX9_product_19 g5 ?_
      refine lv_lload_n hx hb dX9_product_20 rfl (lv_at hl 3 rfl) ?_
      refine W.lcmp hx hb dX9_product_21 ?_
      refine lv_if_ne (tgt := 41) hx hb dX9_product_22 (by decide) (fun c6 => ?_) (fun c6 => ?_)
      · have hf := ie hf c6
        refine lv_iconst (v := 1) hx hb dX9_product_41 (by decide) ?_
        refine lv_goto (tgt := 46) hx hb dX9_product_42 (by decide) ?_
        refine lv_ior hx hb dX9_product_46 ?_
        refine lv_topi (fun v7 e_v7 => ?_)
        have hf := nm_at hf e_v7
        obtain ⟨g8, hf⟩ := gp hf
        refine va_put (D := G) (ci := 7) (v := .int v7) (ty := .boolean) (C := RX9) (T := TX9) (N := 37) hx hb hts inX9w tyX9 tyX9_ok nmX9 hown hK hP hD hS 0 rfl rfl 26 (by decide) wd1 (fun _ h9 => h9) rfl (by decide +kernel) (nb_n g8) (nb_f g8) (Nat.le_of_ble_eq_true rfl) dX9_product_47 (fun H locs hP hD hS => ?_)
        have hP : va_P G vwCl [(qx 0, oX9 qx x_points x_lines x_tide x_isKept x_isMuch x_sum x_once x_twice x_isTermMuch x_nodes x_newMany v7 x_come x_foundSet)] H := hP
        have hD : va_D A [(qx 0, oX9 qx x_points x_lines x_tide x_isKept x_isMuch x_sum x_once x_twice x_isTermMuch x_nodes x_newMany v7 x_come x_foundSet)] := hD
        refine lv_lload hx hb dX9_product_50 (lv_at hl 0 rfl) ?_
        obtain ⟨e0, e1⟩ := rt2 hf
        have hP : va_P G vwCl [(qx 0, oX9 qx x_points x_lines x_tide x_isKept x_isMuch x_sum x_once x_twice x_isTermMuch x_nodes x_newMany o_x_isTooGreat x_come x_foundSet)] H := by rw [← e1]; exact hP
        have hD : va_D A [(qx 0, oX9 qx x_points x_lines x_tide x_isKept x_isMuch x_sum x_once x_twice x_isTermMuch x_nodes x_newMany o_x_isTooGreat x_come x_foundSet)] := by rw [← e1]; exact hD
        exact W.lret (v := v1) hx hb hr (fun t ht hW => ⟨⟨v1, (), rfl, e0, by rw [ht]; exact hP, va_K.moved hW.alike hK, by rw [hAe]; exact hD⟩, hS.F ht⟩) hS.2.2 dX9_product_52
      · have hf := it hf c6
        refine lv_lload_n hx hb dX9_product_25 rfl (lv_at hl 2 rfl) ?_
        refine lv_ldc2 hx hb hown wd2 dX9_product_26 ?_
        refine W.lcmp hx hb dX9_product_29 ?_
        refine lv_if_ne (tgt := 45) hx hb dX9_product_30 (by decide) (fun c9 => ?_) (fun c9 => ?_)
        · have hf := ie hf c9
          refine lv_iconst (v := 0) hx hb dX9_product_45 (by decide) ?_
          refine lv_ior hx hb dX9_product_46 ?_
          refine lv_topi (fun v10 e_v10 => ?_)
          have hf := nm_at hf e_v10
          obtain ⟨g11, hf⟩ := gp hf
          refine va_put (D := G) (ci := 7) (v := .int v10) (ty := .boolean) (C := RX9) (T := TX9) (N := 37) hx hb hts inX9w tyX9 tyX9_ok nmX9 hown hK hP hD hS 0 rfl rfl 26 (by decide) wd1 (fun _ h9 => h9) rfl (by decide +kernel) (nb_n g11) (nb_f g11) (Nat.le_of_ble_eq_true rfl) dX9_product_47 (fun H locs hP hD hS => ?_)
          have hP : va_P G vwCl [(qx 0, oX9 qx x_points x_lines x_tide x_isKept x_isMuch x_sum x_once x_twice x_isTermMuch x_nodes x_newMany v10 x_come x_foundSet)] H := hP
          have hD : va_D A [(qx 0, oX9 qx x_points x_lines x_tide x_isKept x_isMuch x_sum x_once x_twice x_isTermMuch x_nodes x_newMany v10 x_come x_foundSet)] := hD
          refine lv_lload hx hb dX9_product_50 (lv_at hl 0 rfl) ?_
          obtain ⟨e0, e1⟩ := rt2 hf
          have hP : va_P G vwCl [(qx 0, oX9 qx x_points x_lines x_tide x_isKept x_isMuch x_sum x_once x_twice x_isTermMuch x_nodes x_newMany o_x_isTooGreat x_come x_foundSet)] H := by rw [← e1]; exact hP
          have hD : va_D A [(qx 0, oX9 qx x_points x_lines x_tide x_isKept x_isMuch x_sum x_once x_twice x_isTermMuch x_nodes x_newMany o_x_isTooGreat x_come x_foundSet)] := by rw [← e1]; exact hD
          exact W.lret (v := v1) hx hb hr (fun t ht hW => ⟨⟨v1, (), rfl, e0, by rw [ht]; exact hP, va_K.moved hW.alike hK, by rw [hAe]; exact hD⟩, hS.F ht⟩) hS.2.2 dX9_product_52
        · have hf := it hf c9
          refine lv_lload_n hx hb dX9_product_33 rfl (lv_at hl 3 rfl) ?_
          refine lv_ldc2 hx hb hown wd3 dX9_product_34 ?_
          refine W.lcmp hx hb dX9_product_37 ?_
          refine lv_if_ne (tgt := 45) hx hb dX9_product_38 (by decide) (fun c12 => ?_) (fun c12 => ?_)
          · have hf := ie hf c12
            refine lv_iconst (v := 0) hx hb dX9_product_45 (by decide) ?_
            refine lv_ior hx hb dX9_product_46 ?_
            refine lv_topi (fun v13 e_v13 => ?_)
            have hf := nm_at hf e_v13
            obtain ⟨g14, hf⟩ := gp hf
            refine va_put (D := G) (ci := 7) (v := .int v13) (ty := .boolean) (C := RX9) (T := TX9) (N := 37) hx hb hts inX9w tyX9 tyX9_ok nmX9 hown hK hP hD hS 0 rfl rfl 26 (by decide) wd1 (fun _ h9 => h9) rfl (by decide +kernel) (nb_n g14) (nb_f g14) (Nat.le_of_ble_eq_true rfl) dX9_product_47 (fun H locs hP hD hS => ?_)
            have hP : va_P G vwCl [(qx 0, oX9 qx x_points x_lines x_tide x_isKept x_isMuch x_sum x_once x_twice x_isTermMuch x_nodes x_newMany v13 x_come x_foundSet)] H := hP
            have hD : va_D A [(qx 0, oX9 qx x_points x_lines x_tide x_isKept x_isMuch x_sum x_once x_twice x_isTermMuch x_nodes x_newMany v13 x_come x_foundSet)] := hD
            refine lv_lload hx hb dX9_product_50 (lv_at hl 0 rfl) ?_
            obtain ⟨e0, e1⟩ := rt2 hf
            have hP : va_P G vwCl [(qx 0, oX9 qx x_points x_lines x_tide x_isKept x_isMuch x_sum x_once x_twice x_isTermMuch x_nodes x_newMany o_x_isTooGreat x_come x_foundSet)] H := by rw [← e1]; exact hP
            have hD : va_D A [(qx 0, oX9 qx x_points x_lines x_tide x_isKept x_isMuch x_sum x_once x_twice x_isTermMuch x_nodes x_newMany o_x_isTooGreat x_come x_foundSet)] := by rw [← e1]; exact hD
            exact W.lret (v := v1) hx hb hr (fun t ht hW => ⟨⟨v1, (), rfl, e0, by rw [ht]; exact hP, va_K.moved hW.alike hK, by rw [hAe]; exact hD⟩, hS.F ht⟩) hS.2.2 dX9_product_52
          · have hf := it hf c12
            refine lv_iconst (v := 1) hx hb dX9_product_41 (by decide) ?_
            refine lv_goto (tgt := 46) hx hb dX9_product_42 (by decide) ?_
            refine lv_ior hx hb dX9_product_46 ?_
            refine lv_topi (fun v15 e_v15 => ?_)
            have hf := nm_at hf e_v15
            obtain ⟨g16, hf⟩ := gp hf
            refine va_put (D := G) (ci := 7) (v := .int v15) (ty := .boolean) (C := RX9) (T := TX9) (N := 37) hx hb hts inX9w tyX9 tyX9_ok nmX9 hown hK hP hD hS 0 rfl rfl 26 (by decide) wd1 (fun _ h9 => h9) rfl (by decide +kernel) (nb_n g16) (nb_f g16) (Nat.le_of_ble_eq_true rfl) dX9_product_47 (fun H locs hP hD hS => ?_)
            have hP : va_P G vwCl [(qx 0, oX9 qx x_points x_lines x_tide x_isKept x_isMuch x_sum x_once x_twice x_isTermMuch x_nodes x_newMany v15 x_come x_foundSet)] H := hP
            have hD : va_D A [(qx 0, oX9 qx x_points x_lines x_tide x_isKept x_isMuch x_sum x_once x_twice x_isTermMuch x_nodes x_newMany v15 x_come x_foundSet)] := hD
            refine lv_lload hx hb dX9_product_50 (lv_at hl 0 rfl) ?_
            obtain ⟨e0, e1⟩ := rt2 hf
            have hP : va_P G vwCl [(qx 0, oX9 qx x_points x_lines x_tide x_isKept x_isMuch x_sum x_once x_twice x_isTermMuch x_nodes x_newMany o_x_isTooGreat x_come x_foundSet)] H := by rw [← e1]; exact hP
            have hD : va_D A [(qx 0, oX9 qx x_points x_lines x_tide x_isKept x_isMuch x_sum x_once x_twice x_isTermMuch x_nodes x_newMany o_x_isTooGreat x_come x_foundSet)] := by rw [← e1]; exact hD
            exact W.lret (v := v1) hx hb hr (fun t ht hW => ⟨⟨v1, (), rfl, e0, by rw [ht]; exact hP, va_K.moved hW.alike hK, by rw [hAe]; exact hD⟩, hS.F ht⟩) hS.2.2 dX9_product_52
  exact E0 s.heap [] hP hD hS ls hl
-- X9_total
set_option maxRecDepth 100000 in
set_option maxHeartbeats 4000000 in
theorem c_X9_total (l : Launch) (G : va_G) (Y : Nat → ClassId) (sz : Nat) (qx : Nat → Nat) (x_points : Int32) (x_lines : Int32) (x_tide : Int32) (x_isKept : Int32) (x_isMuch : Int32) (x_sum : Int64) (x_once : Int64) (x_twice : Int64) (x_isTermMuch : Int32) (x_nodes : Int32) (x_newMany : Int32) (x_isTooGreat : Int32) (x_come : Int32) (x_foundSet : Int64) (p1 : Int64) (p2 : Int64) (rv : Int64) (o_x_isTooGreat : Int32) (hf : f_X9_total x_isTooGreat p1 p2 = some (rv, o_x_isTooGreat)) : Met l yX9_total wsX9_total (rmk 0 0) (va_Pc [.ref (qx 0), .long p1, .long p2] (Pre G (tys Y) [(qx 0, oX9 qx x_points x_lines x_tide x_isKept x_isMuch x_sum x_once x_twice x_isTermMuch x_nodes x_newMany x_isTooGreat x_come x_foundSet)] sz xT)) (va_Ql (fun (r : Int64) (_ : Unit) => r = rv) (Pst G (tys Y) [(qx 0, oX9 qx x_points x_lines x_tide x_isKept x_isMuch x_sum x_once x_twice x_isTermMuch x_nodes x_newMany x_isTooGreat x_come x_foundSet)] sz [(qx 0, oX9 qx x_points x_lines x_tide x_isKept x_isMuch x_sum x_once x_twice x_isTermMuch x_nodes x_newMany o_x_isTooGreat x_come x_foundSet)]) (va_A [(qx 0, oX9 qx x_points x_lines x_tide x_isKept x_isMuch x_sum x_once x_twice x_isTermMuch x_nodes x_newMany x_isTooGreat x_come x_foundSet)] sz)) 0 0 (va_A [(qx 0, oX9 qx x_points x_lines x_tide x_isKept x_isMuch x_sum x_once x_twice x_isTermMuch x_nodes x_newMany x_isTooGreat x_come x_foundSet)] sz) := by
  refine Met.ofW (cc := cX9_total) (maxL := 7) (ret := (some .long)) (by decide) rfl ?_
  intro p e s m args below meth c s₁ B hml hv
  obtain ⟨rfl, hsz, hP, hK, hD0, hX⟩ := hv
  have hx := B.exec
  have hb := B.bytes
  have hr := B.returns
  have hts := atoms_spec (ws := wsX9_total) B.pre
  have hown : s.vm.findClass RX9 = some m.cls := findClass_of_methodNamed B.named
  have hlocks := B.notSynchronized
  subst hsz
  have hD := hD0.self (sz := s.heap.size)
  generalize hAe : va_A [(qx 0, oX9 qx x_points x_lines x_tide x_isKept x_isMuch x_sum x_once x_twice x_isTermMuch x_nodes x_newMany x_isTooGreat x_come x_foundSet)] s.heap.size = A at hD ⊢
  have hA : ∀ q : Nat, s.heap.size ≤ q → A q := fun q h => by rw [← hAe]; exact Or.inr h
  have hS : va_S A s.heap s.heap [] := va_S.rf
  have hP : va_P G vwCl [(qx 0, oX9 qx x_points x_lines x_tide x_isKept x_isMuch x_sum x_once x_twice x_isTermMuch x_nodes x_newMany x_isTooGreat x_come x_foundSet)] s.heap := hP
  have wd1 : (Cond.fieldLink RX9 263 "PairedLinesModel" "isTooGreat" "Z").before [.ref (qx 0), .long p1, .long p2].toArray s = true := hts _ (List.mem_of_getElem? (i := 1) rfl)
  have inX9w : ∀ w ∈ u_ws RX9 TX9 37, w ∈ wsX9_total := fun w hw => List.mem_cons_of_mem _ (List.mem_append_right _ (hw))
  have hl := lv_entry ([.ref (qx 0), .long p1, .long p2]) (n := 7) (Nat.le_of_ble_eq_true rfl)
  rw [lg_entry_eq]
  generalize (lg_sl ([.ref (qx 0), .long p1, .long p2]) ++ List.replicate (7 - (lg_sl ([.ref (qx 0), .long p1, .long p2])).length) Slot.unset).toArray = ls at hl ⊢
  have hl : lv_has ls 7 [(0, .ref (qx 0)), (1, .long p1), (3, .long p2)] := hl
  have E0 : ∀ (H : Heap) (locs : List Loc), va_P G vwCl [(qx 0, oX9 qx x_points x_lines x_tide x_isKept x_isMuch x_sum x_once x_twice x_isTermMuch x_nodes x_newMany x_isTooGreat x_come x_foundSet)] H → va_D A [(qx 0, oX9 qx x_points x_lines x_tide x_isKept x_isMuch x_sum x_once x_twice x_isTermMuch x_nodes x_newMany x_isTooGreat x_come x_foundSet)] → va_S A s.heap H locs → ∀ (ls : Array Slot), lv_has ls 7 [(0, .ref (qx 0)), (1, .long p1), (3, .long p2)] → W p l e (headSpec wsX9_total (rmk 0 0)).room s m [.ref (qx 0), .long p1, .long p2].toArray below meth c H locs 0 0 (MQ below (va_Ql (fun (r : Int64) (_ : Unit) => r = rv) (Pst G (tys Y) [(qx 0, oX9 qx x_points x_lines x_tide x_isKept x_isMuch x_sum x_once x_twice x_isTermMuch x_nodes x_newMany x_isTooGreat x_come x_foundSet)] s.heap.size [(qx 0, oX9 qx x_points x_lines x_tide x_isKept x_isMuch x_sum x_once x_twice x_isTermMuch x_nodes x_newMany o_x_isTooGreat x_come x_foundSet)]) A) [.ref (qx 0), .long p1, .long p2].toArray s 0 0 A) (F0 m 0 ls []) := by
    intro H locs hP hD hS ls hl
    unfold f_X9_total at hf
    refine lv_lload_n hx hb dX9_total_0 rfl (lv_at hl 1 rfl) ?_
    refine lv_lload_n hx hb dX9_total_1 rfl (lv_at hl 2 rfl) ?_
    refine lv_ladd hx hb dX9_total_2 ?_
    refine lv_topl (fun v1 e_v1 => ?_)
    have hf := nm_at hf e_v1
    refine lv_lstore (lv' := [(5, .long v1), (0, .ref (qx 0)), (1, .long p1), (3, .long p2)]) hx hb dX9_total_3 hl (by decide) rfl (fun ls hl => ?_)
    refine lv_aload_n hx hb dX9_total_5 rfl (lv_at hl 1 rfl) ?_
    refine lv_dup hx hb dX9_total_6 rfl ?_
    refine va_get (D := G) (ci := 7) (v := .int x_isTooGreat) (C := RX9) (T := TX9) (N := 37) hx hb hts inX9w hown hK hP 0 rfl rfl 26 (by decide) wd1 (fun _ h9 => h9) rfl dX9_total_7 ?_
    refine lv_lload_n hx hb dX9_total_10 rfl (lv_at hl 2 rfl) ?_
    refine lv_lload hx hb dX9_total_11 (lv_at hl 0 rfl) ?_
    refine lv_lxor hx hb dX9_total_13 ?_
    refine lv_lconst (v := 0) hx hb dX9_total_14 (by decide) ?_
    refine W.lcmp hx hb dX9_total_15 ?_
    refine lv_if_ge (tgt := 32) hx hb dX9_total_16 (by decide) (fun c2 => ?_) (fun c2 => ?_)
    · have hf := it hf c2
      refine lv_iconst (v := 0) hx hb dX9_total_32 (by decide) ?_
      refine lv_ior hx hb dX9_total_33 ?_
      refine lv_topi (fun v3 e_v3 => ?_)
      have hf := nm_at hf e_v3
      obtain ⟨g4, hf⟩ := gp hf
      refine va_put (D := G) (ci := 7) (v := .int v3) (ty := .boolean) (C := RX9) (T := TX9) (N := 37) hx hb hts inX9w tyX9 tyX9_ok nmX9 hown hK hP hD hS 0 rfl rfl 26 (by decide) wd1 (fun _ h9 => h9) rfl (by decide +kernel) (nb_n g4) (nb_f g4) (Nat.le_of_ble_eq_true rfl) dX9_total_34 (fun H locs hP hD hS => ?_)
      have hP : va_P G vwCl [(qx 0, oX9 qx x_points x_lines x_tide x_isKept x_isMuch x_sum x_once x_twice x_isTermMuch x_nodes x_newMany v3 x_come x_foundSet)] H := hP
      have hD : va_D A [(qx 0, oX9 qx x_points x_lines x_tide x_isKept x_isMuch x_sum x_once x_twice x_isTermMuch x_nodes x_newMany v3 x_come x_foundSet)] := hD
      refine lv_lload hx hb dX9_total_37 (lv_at hl 0 rfl) ?_
      obtain ⟨e0, e1⟩ := rt2 hf
      have hP : va_P G vwCl [(qx 0, oX9 qx x_points x_lines x_tide x_isKept x_isMuch x_sum x_once x_twice x_isTermMuch x_nodes x_newMany o_x_isTooGreat x_come x_foundSet)] H := by rw [← e1]; exact hP
      have hD : va_D A [(qx 0, oX9 qx x_points x_lines x_tide x_isKept x_isMuch x_sum x_once x_twice x_isTermMuch x_nodes x_newMany o_x_isTooGreat x_come x_foundSet)] := by rw [← e1]; exact hD
      exact W.lret (v := v1) hx hb hr (fun t ht hW => ⟨⟨v1, (), rfl, e0, by rw [ht]; exact hP, va_K.moved hW.alike hK, by rw [hAe]; exact hD⟩, hS.F ht⟩) hS.2.2 dX9_total_39
    · have hf := ie hf c2
      refine lv_lload_n hx hb dX9_total_19 rfl (lv_at hl 3 rfl) ?_
      refine lv_lload hx hb dX9_total_20 (lv_at hl 0 rfl) ?_
      refine lv_lxor hx hb dX9_total_22 ?_
      refine lv_lconst (v := 0) hx hb dX9_total_23 (by decide) ?_
      refine W.lcmp hx hb dX9_total_24 ?_
      refine lv_if_ge (tgt := 32) hx hb dX9_total_25 (by decide) (fun c5 => ?_) (fun c5 => ?_)
      · have hf := it hf c5
        refine lv_iconst (v := 0) hx hb dX9_total_32 (by decide) ?_
        refine lv_ior hx hb dX9_total_33 ?_
        refine lv_topi (fun v6 e_v6 => ?_)
        have hf := nm_at hf e_v6
        obtain ⟨g7, hf⟩ := gp hf
        refine va_put (D := G) (ci := 7) (v := .int v6) (ty := .boolean) (C := RX9) (T := TX9) (N := 37) hx hb hts inX9w tyX9 tyX9_ok nmX9 hown hK hP hD hS 0 rfl rfl 26 (by decide) wd1 (fun _ h9 => h9) rfl (by decide +kernel) (nb_n g7) (nb_f g7) (Nat.le_of_ble_eq_true rfl) dX9_total_34 (fun H locs hP hD hS => ?_)
        have hP : va_P G vwCl [(qx 0, oX9 qx x_points x_lines x_tide x_isKept x_isMuch x_sum x_once x_twice x_isTermMuch x_nodes x_newMany v6 x_come x_foundSet)] H := hP
        have hD : va_D A [(qx 0, oX9 qx x_points x_lines x_tide x_isKept x_isMuch x_sum x_once x_twice x_isTermMuch x_nodes x_newMany v6 x_come x_foundSet)] := hD
        refine lv_lload hx hb dX9_total_37 (lv_at hl 0 rfl) ?_
        obtain ⟨e0, e1⟩ := rt2 hf
        have hP : va_P G vwCl [(qx 0, oX9 qx x_points x_lines x_tide x_isKept x_isMuch x_sum x_once x_twice x_isTermMuch x_nodes x_newMany o_x_isTooGreat x_come x_foundSet)] H := by rw [← e1]; exact hP
        have hD : va_D A [(qx 0, oX9 qx x_points x_lines x_tide x_isKept x_isMuch x_sum x_once x_twice x_isTermMuch x_nodes x_newMany o_x_isTooGreat x_come x_foundSet)] := by rw [← e1]; exact hD
        exact W.lret (v := v1) hx hb hr (fun t ht hW => ⟨⟨v1, (), rfl, e0, by rw [ht]; exact hP, va_K.moved hW.alike hK, by rw [hAe]; exact hD⟩, hS.F ht⟩) hS.2.2 dX9_total_39
      · have hf := ie hf c5
        refine lv_iconst (v := 1) hx hb dX9_total_28 (by decide) ?_
        refine lv_goto (tgt := 33) hx hb dX9_total_29 (by decide) ?_
        refine lv_ior hx hb dX9_total_33 ?_
        refine lv_topi (fun v8 e_v8 => ?_)
        have hf := nm_at hf e_v8
        obtain ⟨g9, hf⟩ := gp hf
        refine va_put (D := G) (ci := 7) (v := .int v8) (ty := .boolean) (C := RX9) (T := TX9) (N := 37) hx hb hts inX9w tyX9 tyX9_ok nmX9 hown hK hP hD hS 0 rfl rfl 26 (by decide) wd1 (fun _ h9 => h9) rfl (by decide +kernel) (nb_n g9) (nb_f g9) (Nat.le_of_ble_eq_true rfl) dX9_total_34 (fun H locs hP hD hS => ?_)
        have hP : va_P G vwCl [(qx 0, oX9 qx x_points x_lines x_tide x_isKept x_isMuch x_sum x_once x_twice x_isTermMuch x_nodes x_newMany v8 x_come x_foundSet)] H := hP
        have hD : va_D A [(qx 0, oX9 qx x_points x_lines x_tide x_isKept x_isMuch x_sum x_once x_twice x_isTermMuch x_nodes x_newMany v8 x_come x_foundSet)] := hD
        refine lv_lload hx hb dX9_total_37 (lv_at hl 0 rfl) ?_
        obtain ⟨e0, e1⟩ := rt2 hf
        have hP : va_P G vwCl [(qx 0, oX9 qx x_points x_lines x_tide x_isKept x_isMuch x_sum x_once x_twice x_isTermMuch x_nodes x_newMany o_x_isTooGreat x_come x_foundSet)] H := by rw [← e1]; exact hP
        have hD : va_D A [(qx 0, oX9 qx x_points x_lines x_tide x_isKept x_isMuch x_sum x_once x_twice x_isTermMuch x_nodes x_newMany o_x_isTooGreat x_come x_foundSet)] := by rw [← e1]; exact hD
        exact W.lret (v := v1) hx hb hr (fun t ht hW => ⟨⟨v1, (), rfl, e0, by rw [ht]; exact hP, va_K.moved hW.alike hK, by rw [hAe]; exact hD⟩, hS.F ht⟩) hS.2.2 dX9_total_39
  exact E0 s.heap [] hP hD hS ls hl
-- X9_signAt
set_option maxRecDepth 100000 in
set_option maxHeartbeats 4000000 in
theorem c_X9_signAt (l : Launch) (G : va_G) (Y : Nat → ClassId) (sz : Nat) (qx : Nat → Nat) (x_points : Int32) (x_lines : Int32) (x_tide : Int32) (x_isKept : Int32) (x_count : Nat → Int64) (x_isMuch : Int32) (x_sum : Int64) (x_once : Int64) (x_twice : Int64) (x_isTermMuch : Int32) (x_nodes : Int32) (x_newMany : Int32) (x_isTooGreat : Int32) (x_come : Int32) (x_foundSet : Int64) (p1 : Int32) (p2 : Int32) (p3 : Int32) (rv : Int32) (o_x_isTooGreat : Int32) (hf : f_X9_signAt x_count x_isTooGreat p1 p2 p3 = some (rv, o_x_isTooGreat)) : Met l yX9_signAt wsX9_signAt (rmk 1 26) (va_Pc [.ref (qx 0), .int p1, .int p2, .int p3] (Pre G (tys Y) [(qx 0, oX9 qx x_points x_lines x_tide x_isKept x_isMuch x_sum x_once x_twice x_isTermMuch x_nodes x_newMany x_isTooGreat x_come x_foundSet), (qx 11, .inl (Y 1, 7, .inr (.inl x_count)))] sz xT)) (va_Qi (fun (r : Int32) (_ : Unit) => r = rv) (Pst G (tys Y) [(qx 0, oX9 qx x_points x_lines x_tide x_isKept x_isMuch x_sum x_once x_twice x_isTermMuch x_nodes x_newMany x_isTooGreat x_come x_foundSet), (qx 11, .inl (Y 1, 7, .inr (.inl x_count)))] sz [(qx 0, oX9 qx x_points x_lines x_tide x_isKept x_isMuch x_sum x_once x_twice x_isTermMuch x_nodes x_newMany o_x_isTooGreat x_come x_foundSet), (qx 11, .inl (Y 1, 7, .inr (.inl x_count)))]) (va_A [(qx 0, oX9 qx x_points x_lines x_tide x_isKept x_isMuch x_sum x_once x_twice x_isTermMuch x_nodes x_newMany x_isTooGreat x_come x_foundSet), (qx 11, .inl (Y 1, 7, .inr (.inl x_count)))] sz)) 0 0 (va_A [(qx 0, oX9 qx x_points x_lines x_tide x_isKept x_isMuch x_sum x_once x_twice x_isTermMuch x_nodes x_newMany x_isTooGreat x_come x_foundSet), (qx 11, .inl (Y 1, 7, .inr (.inl x_count)))] sz) := by
  refine Met.ofW (cc := cX9_signAt) (maxL := 9) (ret := (some .int)) (by decide) rfl ?_
  intro p e s m args below meth c s₁ B hml hv
  obtain ⟨rfl, hsz, hP, hK, hD0, hX⟩ := hv
  have hx := B.exec
  have hb := B.bytes
  have hr := B.returns
  have hts := atoms_spec (ws := wsX9_signAt) B.pre
  have hown : s.vm.findClass RX9 = some m.cls := findClass_of_methodNamed B.named
  have hlocks := B.notSynchronized
  subst hsz
  have hD := hD0.self (sz := s.heap.size)
  generalize hAe : va_A [(qx 0, oX9 qx x_points x_lines x_tide x_isKept x_isMuch x_sum x_once x_twice x_isTermMuch x_nodes x_newMany x_isTooGreat x_come x_foundSet), (qx 11, .inl (Y 1, 7, .inr (.inl x_count)))] s.heap.size = A at hD ⊢
  have hA : ∀ q : Nat, s.heap.size ≤ q → A q := fun q h => by rw [← hAe]; exact Or.inr h
  have hS : va_S A s.heap s.heap [] := va_S.rf
  have hP : va_P G vwCl [(qx 0, oX9 qx x_points x_lines x_tide x_isKept x_isMuch x_sum x_once x_twice x_isTermMuch x_nodes x_newMany x_isTooGreat x_come x_foundSet), (qx 11, .inl (Y 1, 7, .inr (.inl x_count)))] s.heap := hP
  have wd1 : (Cond.fieldLink RX9 263 "PairedLinesModel" "isTooGreat" "Z").before [.ref (qx 0), .int p1, .int p2, .int p3].toArray s = true := hts _ (List.mem_of_getElem? (i := 1) rfl)
  have inX9w : ∀ w ∈ u_ws RX9 TX9 37, w ∈ wsX9_signAt := fun w hw => List.mem_cons_of_mem _ (List.mem_append_right _ (hw))
  have hl := lv_entry ([.ref (qx 0), .int p1, .int p2, .int p3]) (n := 9) (Nat.le_of_ble_eq_true rfl)
  rw [lg_entry_eq]
  generalize (lg_sl ([.ref (qx 0), .int p1, .int p2, .int p3]) ++ List.replicate (9 - (lg_sl ([.ref (qx 0), .int p1, .int p2, .int p3])).length) Slot.unset).toArray = ls at hl ⊢
  have hl : lv_has ls 9 [(0, .ref (qx 0)), (1, .int p1), (2, .int p2), (3, .int p3)] := hl
  have B19 : ∀ (n19 : Nat), ∀ (b_x_isTooGreat : Int32) (x4 : Int64) (x6 : Int64) (x8 : Int32), f_X9_signAt_b19 x_count p1 p2 p3 n19 b_x_isTooGreat x4 x6 x8 = some (rv, o_x_isTooGreat) → ∀ (H : Heap) (locs : List Loc), va_P G vwCl [(qx 0, oX9 qx x_points x_lines x_tide x_isKept x_isMuch x_sum x_once x_twice x_isTermMuch x_nodes x_newMany b_x_isTooGreat x_come x_foundSet), (qx 11, .inl (Y 1, 7, .inr (.inl x_count)))] H → va_D A [(qx 0, oX9 qx x_points x_lines x_tide x_isKept x_isMuch x_sum x_once x_twice x_isTermMuch x_nodes x_newMany b_x_isTooGreat x_come x_foundSet), (qx 11, .inl (Y 1, 7, .inr (.inl x_count)))] → va_S A s.heap H locs → ∀ (ls : Array Slot), lv_has ls 9 [(0, .ref (qx 0)), (1, .int p1), (2, .int p2), (3, .int p3), (4, .long x4), (6, .long x6), (8, .int x8)] → W p l e (headSpec wsX9_signAt (rmk 1 26)).room s m [.ref (qx 0), .int p1, .int p2, .int p3].toArray below meth c H locs 0 0 (MQ below (va_Qi (fun (r : Int32) (_ : Unit) => r = rv) (Pst G (tys Y) [(qx 0, oX9 qx x_points x_lines x_tide x_isKept x_isMuch x_sum x_once x_twice x_isTermMuch x_nodes x_newMany x_isTooGreat x_come x_foundSet), (qx 11, .inl (Y 1, 7, .inr (.inl x_count)))] s.heap.size [(qx 0, oX9 qx x_points x_lines x_tide x_isKept x_isMuch x_sum x_once x_twice x_isTermMuch x_nodes x_newMany o_x_isTooGreat x_come x_foundSet), (qx 11, .inl (Y 1, 7, .inr (.inl x_count)))]) A) [.ref (qx 0), .int p1, .int p2, .int p3].toArray s 0 0 A) (F0 m 19 ls []) := by
    intro n19
    induction n19 with
    | zero =>
      intro b_x_isTooGreat x4 x6 x8 hf H locs hP hD hS ls hl
      exact no_none hf
    | succ n19 ih19 =>
      intro b_x_isTooGreat x4 x6 x8 hf H locs hP hD hS ls hl
      have hf : f_X9_signAt_s19 x_count p1 p2 p3 (f_X9_signAt_b19 x_count p1 p2 p3  n19) b_x_isTooGreat x4 x6 x8 = some (rv, o_x_isTooGreat) := hf
      unfold f_X9_signAt_s19 at hf
      refine lv_iload hx hb dX9_signAt_19 (lv_at hl 6 rfl) ?_
      refine lv_iload_n hx hb dX9_signAt_21 rfl (lv_at hl 1 rfl) ?_
      refine lv_icmp_gt (tgt := 70) hx hb dX9_signAt_22 (by decide) (fun c1 => ?_) (fun c1 => ?_)
      · have hf := it hf c1
        refine lv_aload_n hx hb dX9_signAt_70 rfl (lv_at hl 0 rfl) ?_
        refine va_get (D := G) (ci := 7) (v := .int b_x_isTooGreat) (C := RX9) (T := TX9) (N := 37) hx hb hts inX9w hown hK hP 0 rfl rfl 26 (by decide) wd1 (fun _ h9 => h9) rfl dX9_signAt_71 ?_
        refine lv_if_eq (tgt := 82) hx hb dX9_signAt_74 (by decide) (fun c2 => ?_) (fun c2 => ?_)
        · have hf := it hf c2
          refine lv_lload hx hb dX9_signAt_82 (lv_at hl 4 rfl) ?_
          refine lv_lconst (v := 0) hx hb dX9_signAt_84 (by decide) ?_
          refine W.lcmp hx hb dX9_signAt_85 ?_
          refine lv_if_ge (tgt := 93) hx hb dX9_signAt_86 (by decide) (fun c3 => ?_) (fun c3 => ?_)
          · have hf := it hf c3
            refine lv_lload hx hb dX9_signAt_93 (lv_at hl 4 rfl) ?_
            refine lv_lconst (v := 0) hx hb dX9_signAt_95 (by decide) ?_
            refine W.lcmp hx hb dX9_signAt_96 ?_
            refine lv_if_le (tgt := 104) hx hb dX9_signAt_97 (by decide) (fun c4 => ?_) (fun c4 => ?_)
            · have hf := it hf c4
              refine lv_iconst (v := 0) hx hb dX9_signAt_104 (by decide) ?_
              obtain ⟨e0, e1⟩ := rt2 hf
              have hP : va_P G vwCl [(qx 0, oX9 qx x_points x_lines x_tide x_isKept x_isMuch x_sum x_once x_twice x_isTermMuch x_nodes x_newMany o_x_isTooGreat x_come x_foundSet), (qx 11, .inl (Y 1, 7, .inr (.inl x_count)))] H := by rw [← e1]; exact hP
              have hD : va_D A [(qx 0, oX9 qx x_points x_lines x_tide x_isKept x_isMuch x_sum x_once x_twice x_isTermMuch x_nodes x_newMany o_x_isTooGreat x_come x_foundSet), (qx 11, .inl (Y 1, 7, .inr (.inl x_count)))] := by rw [← e1]; exact hD
              exact W.iret (v := (0 : Int32)) hx hb hr (fun t ht hW => ⟨⟨(0 : Int32), (), rfl, e0, by rw [ht]; exact hP, va_K.moved hW.alike hK, by rw [hAe]; exact hD⟩, hS.F ht⟩) hS.2.2 dX9_signAt_105
            · have hf := ie hf c4
              refine lv_iconst (v := 1) hx hb dX9_signAt_100 (by decide) ?_
              refine lv_goto (tgt := 105) hx hb dX9_signAt_101 (by decide) ?_
              obtain ⟨e0, e1⟩ := rt2 hf
              have hP : va_P G vwCl [(qx 0, oX9 qx x_points x_lines x_tide x_isKept x_isMuch x_sum x_once x_twice x_isTermMuch x_nodes x_newMany o_x_isTooGreat x_come x_foundSet), (qx 11, .inl (Y 1, 7, .inr (.inl x_count)))] H := by rw [← e1]; exact hP
              have hD : va_D A [(qx 0, oX9 qx x_points x_lines x_tide x_isKept x_isMuch x_sum x_once x_twice x_isTermMuch x_nodes x_newMany o_x_isTooGreat x_come x_foundSet), (qx 11, .inl (Y 1, 7, .inr (.inl x_count)))] := by rw [← e1]; exact hD
              exact W.iret (v := (1 : Int32)) hx hb hr (fun t ht hW => ⟨⟨(1 : Int32), (), rfl, e0, by rw [ht]; exact hP, va_K.moved hW.alike hK, by rw [hAe]; exact hD⟩, hS.F ht⟩) hS.2.2 dX9_signAt_105
          · have hf := ie hf c3
            refine lv_iconst (v := -1) hx hb dX9_signAt_89 (by decide) ?_
            refine lv_goto (tgt := 105) hx hb dX9_signAt_90 (by decide) ?_
            obtain ⟨e0, e1⟩ := rt2 hf
            have hP : va_P G vwCl [(qx 0, oX9 qx x_points x_lines x_tide x_isKept x_isMuch x_sum x_once x_twice x_isTermMuch x_nodes x_newMany o_x_isTooGreat x_come x_foundSet), (qx 11, .inl (Y 1, 7, .inr (.inl x_count)))] H := by rw [← e1]; exact hP
            have hD : va_D A [(qx 0, oX9 qx x_points x_lines x_tide x_isKept x_isMuch x_sum x_once x_twice x_isTermMuch x_nodes x_newMany o_x_isTooGreat x_come x_foundSet), (qx 11, .inl (Y 1, 7, .inr (.inl x_count)))] := by rw [← e1]; exact hD
            exact W.iret (v := (-1 : Int32)) hx hb hr (fun t ht hW => ⟨⟨(-1 : Int32), (), rfl, e0, by rw [ht]; exact hP, va_K.moved hW.alike hK, by rw [hAe]; exact hD⟩, hS.F ht⟩) hS.2.2 dX9_signAt_105
        · have hf := ie hf c2
          refine lv_bipush (v := -5) hx hb dX9_signAt_77 (by decide) ?_
          refine lv_goto (tgt := 105) hx hb dX9_signAt_79 (by decide) ?_
          obtain ⟨e0, e1⟩ := rt2 hf
          have hP : va_P G vwCl [(qx 0, oX9 qx x_points x_lines x_tide x_isKept x_isMuch x_sum x_once x_twice x_isTermMuch x_nodes x_newMany o_x_isTooGreat x_come x_foundSet), (qx 11, .inl (Y 1, 7, .inr (.inl x_count)))] H := by rw [← e1]; exact hP
          have hD : va_D A [(qx 0, oX9 qx x_points x_lines x_tide x_isKept x_isMuch x_sum x_once x_twice x_isTermMuch x_nodes x_newMany o_x_isTooGreat x_come x_foundSet), (qx 11, .inl (Y 1, 7, .inr (.inl x_count)))] := by rw [← e1]; exact hD
          exact W.iret (v := (-5 : Int32)) hx hb hr (fun t ht hW => ⟨⟨(-5 : Int32), (), rfl, e0, by rw [ht]; exact hP, va_K.moved hW.alike hK, by rw [hAe]; exact hD⟩, hS.F ht⟩) hS.2.2 dX9_signAt_105
      · have hf := ie hf c1
        refine lv_aload_n hx hb dX9_signAt_25 rfl (lv_at hl 0 rfl) ?_
        refine lv_lload hx hb dX9_signAt_26 (lv_at hl 5 rfl) ?_
        refine lv_iload_n hx hb dX9_signAt_28 rfl (lv_at hl 3 rfl) ?_
        refine lv_i2l hx hb dX9_signAt_29 rfl ?_
        obtain ⟨r5, w6, hc, hf⟩ := bd2 hf
        refine cl_l (ws' := [(qx 0, oX9 qx x_points x_lines x_tide x_isKept x_isMuch x_sum x_once x_twice x_isTermMuch x_nodes x_newMany w6 x_come x_foundSet), (qx 11, .inl (Y 1, 7, .inr (.inl x_count)))]) (wr := [(qx 11, .inl (Y 1, 7, .inr (.inl x_count)))]) (rnV (As := [.long x6, .long p3.toInt64]) (rest := []) ⟨hx, hb, hml, hown, hts⟩ (c_X9_product l G Y H.size qx x_points x_lines x_tide x_isKept x_isMuch x_sum x_once x_twice x_isTermMuch x_nodes x_newMany b_x_isTooGreat x_come x_foundSet x6 p3.toInt64 r5 w6 hc) (cwV 2 hts gX9_signAt_X9_product rfl rfl rfl (by decide +kernel) ⟨(Nat.le_of_ble_eq_true rfl), (Nat.le_of_ble_eq_true rfl)⟩) trivial okT hK hP hD [0] rfl rfl (ci := 7) (q0 := 0) rfl rfl rfl rfl hl.1 rfl (Nat.le_of_ble_eq_true rfl) dX9_signAt_30) hP hD hS hA [0] [1] [1, 0] rfl rfl rfl (by decide) rfl rfl (fun H locs hP hD hS => ?_)
        refine lv_lstore (lv' := [(6, .long r5), (0, .ref (qx 0)), (1, .int p1), (2, .int p2), (3, .int p3), (4, .long x4), (8, .int x8)]) hx hb dX9_signAt_33 hl (by decide) rfl (fun ls hl => ?_)
        refine lv_aload_n hx hb dX9_signAt_35 rfl (lv_at hl 1 rfl) ?_
        refine lv_aload_n hx hb dX9_signAt_36 rfl (lv_at hl 1 rfl) ?_
        refine lv_lload hx hb dX9_signAt_37 (lv_at hl 5 rfl) ?_
        refine lv_iload_n hx hb dX9_signAt_39 rfl (lv_at hl 3 rfl) ?_
        refine lv_i2l hx hb dX9_signAt_40 rfl ?_
        obtain ⟨r7, w8, hc, hf⟩ := bd2 hf
        refine cl_l (ws' := [(qx 0, oX9 qx x_points x_lines x_tide x_isKept x_isMuch x_sum x_once x_twice x_isTermMuch x_nodes x_newMany w8 x_come x_foundSet), (qx 11, .inl (Y 1, 7, .inr (.inl x_count)))]) (wr := [(qx 11, .inl (Y 1, 7, .inr (.inl x_count)))]) (rnV (As := [.long x4, .long p2.toInt64]) (rest := [.ref (qx 0)]) ⟨hx, hb, hml, hown, hts⟩ (c_X9_product l G Y H.size qx x_points x_lines x_tide x_isKept x_isMuch x_sum x_once x_twice x_isTermMuch x_nodes x_newMany w6 x_come x_foundSet x4 p2.toInt64 r7 w8 hc) (cwV 2 hts gX9_signAt_X9_product rfl rfl rfl (by decide +kernel) ⟨(Nat.le_of_ble_eq_true rfl), (Nat.le_of_ble_eq_true rfl)⟩) trivial okT hK hP hD [0] rfl rfl (ci := 7) (q0 := 0) rfl rfl rfl rfl hl.1 rfl (Nat.le_of_ble_eq_true rfl) dX9_signAt_41) hP hD hS hA [0] [1] [1, 0] rfl rfl rfl (by decide) rfl rfl (fun H locs hP hD hS => ?_)
        refine lv_aload_n hx hb dX9_signAt_44 rfl (lv_at hl 1 rfl) ?_
        refine lv_aload_n hx hb dX9_signAt_45 rfl (lv_at hl 1 rfl) ?_
        refine lv_iload_n hx hb dX9_signAt_46 rfl (lv_at hl 2 rfl) ?_
        refine lv_iload_n hx hb dX9_signAt_47 rfl (lv_at hl 2 rfl) ?_
        refine lv_iload hx hb dX9_signAt_48 (lv_at hl 6 rfl) ?_
        refine lv_isub hx hb dX9_signAt_50 ?_
        obtain ⟨r9, hc, hf⟩ := bd1 hf
        refine cl_l (ws' := [(qx 0, oX9 qx x_points x_lines x_tide x_isKept x_isMuch x_sum x_once x_twice x_isTermMuch x_nodes x_newMany w8 x_come x_foundSet), (qx 11, .inl (Y 1, 7, .inr (.inl x_count)))]) (wr := []) (rnV (As := [.int p1, .int (p1 - x8)]) (rest := [.ref (qx 0), .long r7, .ref (qx 0)]) ⟨hx, hb, hml, hown, hts⟩ (c_X9_at l G Y H.size qx x_points x_lines x_tide x_isKept x_count x_isMuch x_sum x_once x_twice x_isTermMuch x_nodes x_newMany w8 x_come x_foundSet p1 (p1 - x8) r9 hc) (cwV 2 hts gX9_signAt_X9_at rfl rfl rfl (by decide +kernel) ⟨(Nat.le_of_ble_eq_true rfl), (Nat.le_of_ble_eq_true rfl)⟩) trivial okT hK hP hD [0, 1] rfl rfl (ci := 7) (q0 := 0) rfl rfl rfl rfl hl.1 rfl (Nat.le_of_ble_eq_true rfl) dX9_signAt_51) hP hD hS hA [0, 1] [] [0, 1] rfl rfl rfl (by decide) rfl rfl (fun H locs hP hD hS => ?_)
        refine lv_lload hx hb dX9_signAt_54 (lv_at hl 0 rfl) ?_
        obtain ⟨r10, w11, hc, hf⟩ := bd2 hf
        refine cl_l (ws' := [(qx 0, oX9 qx x_points x_lines x_tide x_isKept x_isMuch x_sum x_once x_twice x_isTermMuch x_nodes x_newMany w11 x_come x_foundSet), (qx 11, .inl (Y 1, 7, .inr (.inl x_count)))]) (wr := [(qx 11, .inl (Y 1, 7, .inr (.inl x_count)))]) (rnV (As := [.long r9, .long r5]) (rest := [.long r7, .ref (qx 0)]) ⟨hx, hb, hml, hown, hts⟩ (c_X9_product l G Y H.size qx x_points x_lines x_tide x_isKept x_isMuch x_sum x_once x_twice x_isTermMuch x_nodes x_newMany w8 x_come x_foundSet r9 r5 r10 w11 hc) (cwV 2 hts gX9_signAt_X9_product rfl rfl rfl (by decide +kernel) ⟨(Nat.le_of_ble_eq_true rfl), (Nat.le_of_ble_eq_true rfl)⟩) trivial okT hK hP hD [0] rfl rfl (ci := 7) (q0 := 0) rfl rfl rfl rfl hl.1 rfl (Nat.le_of_ble_eq_true rfl) dX9_signAt_56) hP hD hS hA [0] [1] [1, 0] rfl rfl rfl (by decide) rfl rfl (fun H locs hP hD hS => ?_)
        obtain ⟨r12, w13, hc, hf⟩ := bd2 hf
        refine cl_l (ws' := [(qx 0, oX9 qx x_points x_lines x_tide x_isKept x_isMuch x_sum x_once x_twice x_isTermMuch x_nodes x_newMany w13 x_come x_foundSet), (qx 11, .inl (Y 1, 7, .inr (.inl x_count)))]) (wr := [(qx 11, .inl (Y 1, 7, .inr (.inl x_count)))]) (rnV (As := [.long r7, .long r10]) (rest := []) ⟨hx, hb, hml, hown, hts⟩ (c_X9_total l G Y H.size qx x_points x_lines x_tide x_isKept x_isMuch x_sum x_once x_twice x_isTermMuch x_nodes x_newMany w11 x_come x_foundSet r7 r10 r12 w13 hc) (cwV 2 hts gX9_signAt_X9_total rfl rfl rfl (by decide +kernel) ⟨(Nat.le_of_ble_eq_true rfl), (Nat.le_of_ble_eq_true rfl)⟩) trivial okT hK hP hD [0] rfl rfl (ci := 7) (q0 := 0) rfl rfl rfl rfl hl.1 rfl (Nat.le_of_ble_eq_true rfl) dX9_signAt_59) hP hD hS hA [0] [1] [1, 0] rfl rfl rfl (by decide) rfl rfl (fun H locs hP hD hS => ?_)
        refine lv_lstore (lv' := [(4, .long r12), (6, .long r5), (0, .ref (qx 0)), (1, .int p1), (2, .int p2), (3, .int p3), (8, .int x8)]) hx hb dX9_signAt_62 hl (by decide) rfl (fun ls hl => ?_)
        obtain ⟨v14, e_v14⟩ : ∃ z : Int32, z = (x8 + 1) := ⟨_, rfl⟩
        have hf := nm_at hf e_v14
        refine lv_iinc (v := v14) (lv' := [(8, .int v14), (4, .long r12), (6, .long r5), (0, .ref (qx 0)), (1, .int p1), (2, .int p2), (3, .int p3)]) hx hb dX9_signAt_64 hl (k := 6) rfl (by rw [e_v14]; rfl) (by decide) rfl (fun ls hl => ?_)
        refine lv_goto (tgt := 19) hx hb dX9_signAt_67 (by decide) ?_
        exact ih19 w13 r12 r5 v14 hf _ _ hP hD hS ls (lv_sub hl [3, 4, 5, 6, 1, 2, 0] rfl)
  have E0 : ∀ (H : Heap) (locs : List Loc), va_P G vwCl [(qx 0, oX9 qx x_points x_lines x_tide x_isKept x_isMuch x_sum x_once x_twice x_isTermMuch x_nodes x_newMany x_isTooGreat x_come x_foundSet), (qx 11, .inl (Y 1, 7, .inr (.inl x_count)))] H → va_D A [(qx 0, oX9 qx x_points x_lines x_tide x_isKept x_isMuch x_sum x_once x_twice x_isTermMuch x_nodes x_newMany x_isTooGreat x_come x_foundSet), (qx 11, .inl (Y 1, 7, .inr (.inl x_count)))] → va_S A s.heap H locs → ∀ (ls : Array Slot), lv_has ls 9 [(0, .ref (qx 0)), (1, .int p1), (2, .int p2), (3, .int p3)] → W p l e (headSpec wsX9_signAt (rmk 1 26)).room s m [.ref (qx 0), .int p1, .int p2, .int p3].toArray below meth c H locs 0 0 (MQ below (va_Qi (fun (r : Int32) (_ : Unit) => r = rv) (Pst G (tys Y) [(qx 0, oX9 qx x_points x_lines x_tide x_isKept x_isMuch x_sum x_once x_twice x_isTermMuch x_nodes x_newMany x_isTooGreat x_come x_foundSet), (qx 11, .inl (Y 1, 7, .inr (.inl x_count)))] s.heap.size [(qx 0, oX9 qx x_points x_lines x_tide x_isKept x_isMuch x_sum x_once x_twice x_isTermMuch x_nodes x_newMany o_x_isTooGreat x_come x_foundSet), (qx 11, .inl (Y 1, 7, .inr (.inl x_count)))]) A) [.ref (qx 0), .int p1, .int p2, .int p3].toArray s 0 0 A) (F0 m 0 ls []) := by
    intro H locs hP hD hS ls hl
    unfold f_X9_signAt at hf
    refine lv_aload_n hx hb dX9_signAt_0 rfl (lv_at hl 0 rfl) ?_
    refine lv_iconst (v := 0) hx hb dX9_signAt_1 (by decide) ?_
    refine va_put (D := G) (ci := 7) (v := .int (0 : Int32)) (ty := .boolean) (C := RX9) (T := TX9) (N := 37) hx hb hts inX9w tyX9 tyX9_ok nmX9 hown hK hP hD hS 0 rfl rfl 26 (by decide) wd1 (fun _ h9 => h9) rfl (by decide +kernel) rfl rfl (Nat.le_of_ble_eq_true rfl) dX9_signAt_2 (fun H locs hP hD hS => ?_)
    have hP : va_P G vwCl [(qx 0, oX9 qx x_points x_lines x_tide x_isKept x_isMuch x_sum x_once x_twice x_isTermMuch x_nodes x_newMany (0 : Int32) x_come x_foundSet), (qx 11, .inl (Y 1, 7, .inr (.inl x_count)))] H := hP
    have hD : va_D A [(qx 0, oX9 qx x_points x_lines x_tide x_isKept x_isMuch x_sum x_once x_twice x_isTermMuch x_nodes x_newMany (0 : Int32) x_come x_foundSet), (qx 11, .inl (Y 1, 7, .inr (.inl x_count)))] := hD
    refine lv_aload_n hx hb dX9_signAt_5 rfl (lv_at hl 0 rfl) ?_
    refine lv_iload_n hx hb dX9_signAt_6 rfl (lv_at hl 1 rfl) ?_
    refine lv_iload_n hx hb dX9_signAt_7 rfl (lv_at hl 1 rfl) ?_
    obtain ⟨r15, hc, hf⟩ := bd1 hf
    refine cl_l (ws' := [(qx 0, oX9 qx x_points x_lines x_tide x_isKept x_isMuch x_sum x_once x_twice x_isTermMuch x_nodes x_newMany (0 : Int32) x_come x_foundSet), (qx 11, .inl (Y 1, 7, .inr (.inl x_count)))]) (wr := []) (rnV (As := [.int p1, .int p1]) (rest := []) ⟨hx, hb, hml, hown, hts⟩ (c_X9_at l G Y H.size qx x_points x_lines x_tide x_isKept x_count x_isMuch x_sum x_once x_twice x_isTermMuch x_nodes x_newMany (0 : Int32) x_come x_foundSet p1 p1 r15 hc) (cwV 2 hts gX9_signAt_X9_at rfl rfl rfl (by decide +kernel) ⟨(Nat.le_of_ble_eq_true rfl), (Nat.le_of_ble_eq_true rfl)⟩) trivial okT hK hP hD [0, 1] rfl rfl (ci := 7) (q0 := 0) rfl rfl rfl rfl hl.1 rfl (Nat.le_of_ble_eq_true rfl) dX9_signAt_8) hP hD hS hA [0, 1] [] [0, 1] rfl rfl rfl (by decide) rfl rfl (fun H locs hP hD hS => ?_)
    refine lv_lstore (lv' := [(4, .long r15), (0, .ref (qx 0)), (1, .int p1), (2, .int p2), (3, .int p3)]) hx hb dX9_signAt_11 hl (by decide) rfl (fun ls hl => ?_)
    refine lv_lconst (v := 1) hx hb dX9_signAt_13 (by decide) ?_
    refine lv_lstore (lv' := [(6, .long (1 : Int64)), (4, .long r15), (0, .ref (qx 0)), (1, .int p1), (2, .int p2), (3, .int p3)]) hx hb dX9_signAt_14 hl (by decide) rfl (fun ls hl => ?_)
    refine lv_iconst (v := 1) hx hb dX9_signAt_16 (by decide) ?_
    refine lv_istore (lv' := [(8, .int (1 : Int32)), (6, .long (1 : Int64)), (4, .long r15), (0, .ref (qx 0)), (1, .int p1), (2, .int p2), (3, .int p3)]) hx hb dX9_signAt_17 hl (by decide) rfl (fun ls hl => ?_)
    exact B19 70 (0 : Int32) r15 (1 : Int64) (1 : Int32) hf _ _ hP hD hS ls (lv_sub hl [3, 4, 5, 6, 2, 1, 0] rfl)
  exact E0 s.heap [] hP hD hS ls hl
-- X9_sign
set_option maxRecDepth 100000 in
set_option maxHeartbeats 4000000 in
theorem c_X9_sign (l : Launch) (G : va_G) (Y : Nat → ClassId) (sz : Nat) (qx : Nat → Nat) (x_points : Int32) (x_lines : Int32) (x_tide : Int32) (x_kind : Nat → Int32) (x_figure : Nat → Int32) (x_low : Nat → Int32) (x_high : Nat → Int32) (x_isKept : Int32) (x_table : Nat → Int64) (x_count : Nat → Int64) (x_heavy : Nat → Int32) (x_isMuch : Int32) (x_sum : Int64) (x_once : Int64) (x_twice : Int64) (x_isTermMuch : Int32) (x_nodes : Int32) (x_newMany : Int32) (x_isTooGreat : Int32) (x_come : Int32) (x_foundSet : Int64) (p1 : Int32) (p2 : Int32) (p3 : Int32) (rv : Int32) (o_x_table : Nat → Int64) (o_x_count : Nat → Int64) (o_x_heavy : Nat → Int32) (o_x_isMuch : Int32) (o_x_isTooGreat : Int32) (hf : f_X9_sign x_points x_lines x_tide x_kind x_figure x_low x_high x_table x_count x_heavy x_isMuch x_isTooGreat p1 p2 p3 = some (rv, o_x_table, o_x_count, o_x_heavy, o_x_isMuch, o_x_isTooGreat)) : Met l yX9_sign wsX9_sign (rmk 4 94) (va_Pc [.ref (qx 0), .int p1, .int p2, .int p3] (Pre G (tys Y) [(qx 0, oX9 qx x_points x_lines x_tide x_isKept x_isMuch x_sum x_once x_twice x_isTermMuch x_nodes x_newMany x_isTooGreat x_come x_foundSet), (qx 4, .inl (Y 0, 40, .inl x_kind)), (qx 5, .inl (Y 0, 40, .inl x_figure)), (qx 6, .inl (Y 0, 40, .inl x_low)), (qx 7, .inl (Y 0, 40, .inl x_high)), (qx 10, .inl (Y 1, 28672, .inr (.inl x_table))), (qx 11, .inl (Y 1, 7, .inr (.inl x_count))), (qx 12, .inl (Y 0, 144, .inl x_heavy))] sz xT)) (va_Qi (fun (r : Int32) (_ : Unit) => r = rv) (Pst G (tys Y) [(qx 0, oX9 qx x_points x_lines x_tide x_isKept x_isMuch x_sum x_once x_twice x_isTermMuch x_nodes x_newMany x_isTooGreat x_come x_foundSet), (qx 4, .inl (Y 0, 40, .inl x_kind)), (qx 5, .inl (Y 0, 40, .inl x_figure)), (qx 6, .inl (Y 0, 40, .inl x_low)), (qx 7, .inl (Y 0, 40, .inl x_high)), (qx 10, .inl (Y 1, 28672, .inr (.inl x_table))), (qx 11, .inl (Y 1, 7, .inr (.inl x_count))), (qx 12, .inl (Y 0, 144, .inl x_heavy))] sz [(qx 0, oX9 qx x_points x_lines x_tide x_isKept o_x_isMuch x_sum x_once x_twice x_isTermMuch x_nodes x_newMany o_x_isTooGreat x_come x_foundSet), (qx 4, .inl (Y 0, 40, .inl x_kind)), (qx 5, .inl (Y 0, 40, .inl x_figure)), (qx 6, .inl (Y 0, 40, .inl x_low)), (qx 7, .inl (Y 0, 40, .inl x_high)), (qx 10, .inl (Y 1, 28672, .inr (.inl o_x_table))), (qx 11, .inl (Y 1, 7, .inr (.inl o_x_count))), (qx 12, .inl (Y 0, 144, .inl o_x_heavy))]) (va_A [(qx 0, oX9 qx x_points x_lines x_tide x_isKept x_isMuch x_sum x_once x_twice x_isTermMuch x_nodes x_newMany x_isTooGreat x_come x_foundSet), (qx 4, .inl (Y 0, 40, .inl x_kind)), (qx 5, .inl (Y 0, 40, .inl x_figure)), (qx 6, .inl (Y 0, 40, .inl x_low)), (qx 7, .inl (Y 0, 40, .inl x_high)), (qx 10, .inl (Y 1, 28672, .inr (.inl x_table))), (qx 11, .inl (Y 1, 7, .inr (.inl x_count))), (qx 12, .inl (Y 0, 144, .inl x_heavy))] sz)) 0 0 (va_A [(qx 0, oX9 qx x_points x_lines x_tide x_isKept x_isMuch x_sum x_once x_twice x_isTermMuch x_nodes x_newMany x_isTooGreat x_come x_foundSet), (qx 4, .inl (Y 0, 40, .inl x_kind)), (qx 5, .inl (Y 0, 40, .inl x_figure)), (qx 6, .inl (Y 0, 40, .inl x_low)), (qx 7, .inl (Y 0, 40, .inl x_high)), (qx 10, .inl (Y 1, 28672, .inr (.inl x_table))), (qx 11, .inl (Y 1, 7, .inr (.inl x_count))), (qx 12, .inl (Y 0, 144, .inl x_heavy))] sz) := by
  refine Met.ofW (cc := cX9_sign) (maxL := 4) (ret := (some .int)) (by decide) rfl ?_
  intro p e s m args below meth c s₁ B hml hv
  obtain ⟨rfl, hsz, hP, hK, hD0, hX⟩ := hv
  have hx := B.exec
  have hb := B.bytes
  have hr := B.returns
  have hts := atoms_spec (ws := wsX9_sign) B.pre
  have hown : s.vm.findClass RX9 = some m.cls := findClass_of_methodNamed B.named
  have hlocks := B.notSynchronized
  subst hsz
  have hD := hD0.self (sz := s.heap.size)
  generalize hAe : va_A [(qx 0, oX9 qx x_points x_lines x_tide x_isKept x_isMuch x_sum x_once x_twice x_isTermMuch x_nodes x_newMany x_isTooGreat x_come x_foundSet), (qx 4, .inl (Y 0, 40, .inl x_kind)), (qx 5, .inl (Y 0, 40, .inl x_figure)), (qx 6, .inl (Y 0, 40, .inl x_low)), (qx 7, .inl (Y 0, 40, .inl x_high)), (qx 10, .inl (Y 1, 28672, .inr (.inl x_table))), (qx 11, .inl (Y 1, 7, .inr (.inl x_count))), (qx 12, .inl (Y 0, 144, .inl x_heavy))] s.heap.size = A at hD ⊢
  have hA : ∀ q : Nat, s.heap.size ≤ q → A q := fun q h => by rw [← hAe]; exact Or.inr h
  have hS : va_S A s.heap s.heap [] := va_S.rf
  have hP : va_P G vwCl [(qx 0, oX9 qx x_points x_lines x_tide x_isKept x_isMuch x_sum x_once x_twice x_isTermMuch x_nodes x_newMany x_isTooGreat x_come x_foundSet), (qx 4, .inl (Y 0, 40, .inl x_kind)), (qx 5, .inl (Y 0, 40, .inl x_figure)), (qx 6, .inl (Y 0, 40, .inl x_low)), (qx 7, .inl (Y 0, 40, .inl x_high)), (qx 10, .inl (Y 1, 28672, .inr (.inl x_table))), (qx 11, .inl (Y 1, 7, .inr (.inl x_count))), (qx 12, .inl (Y 0, 144, .inl x_heavy))] s.heap := hP
  have wd1 : (Cond.constantLong RX9 274 (-60)).before [.ref (qx 0), .int p1, .int p2, .int p3].toArray s = true := hts _ (List.mem_of_getElem? (i := 1) rfl)
  have wd2 : (Cond.constantLong RX9 276 (60)).before [.ref (qx 0), .int p1, .int p2, .int p3].toArray s = true := hts _ (List.mem_of_getElem? (i := 2) rfl)
  have wd3 : (Cond.constantLong RX9 172 (6)).before [.ref (qx 0), .int p1, .int p2, .int p3].toArray s = true := hts _ (List.mem_of_getElem? (i := 3) rfl)
  have wd4 : (Cond.fieldLink RX9 148 "PairedLinesModel" "isMuch" "Z").before [.ref (qx 0), .int p1, .int p2, .int p3].toArray s = true := hts _ (List.mem_of_getElem? (i := 4) rfl)
  have inX9w : ∀ w ∈ u_ws RX9 TX9 37, w ∈ wsX9_sign := fun w hw => List.mem_cons_of_mem _ (List.mem_append_right _ (hw))
  have hl := lv_entry ([.ref (qx 0), .int p1, .int p2, .int p3]) (n := 4) (Nat.le_of_ble_eq_true rfl)
  rw [lg_entry_eq]
  generalize (lg_sl ([.ref (qx 0), .int p1, .int p2, .int p3]) ++ List.replicate (4 - (lg_sl ([.ref (qx 0), .int p1, .int p2, .int p3])).length) Slot.unset).toArray = ls at hl ⊢
  have hl : lv_has ls 4 [(0, .ref (qx 0)), (1, .int p1), (2, .int p2), (3, .int p3)] := hl
  have E0 : ∀ (H : Heap) (locs : List Loc), va_P G vwCl [(qx 0, oX9 qx x_points x_lines x_tide x_isKept x_isMuch x_sum x_once x_twice x_isTermMuch x_nodes x_newMany x_isTooGreat x_come x_foundSet), (qx 4, .inl (Y 0, 40, .inl x_kind)), (qx 5, .inl (Y 0, 40, .inl x_figure)), (qx 6, .inl (Y 0, 40, .inl x_low)), (qx 7, .inl (Y 0, 40, .inl x_high)), (qx 10, .inl (Y 1, 28672, .inr (.inl x_table))), (qx 11, .inl (Y 1, 7, .inr (.inl x_count))), (qx 12, .inl (Y 0, 144, .inl x_heavy))] H → va_D A [(qx 0, oX9 qx x_points x_lines x_tide x_isKept x_isMuch x_sum x_once x_twice x_isTermMuch x_nodes x_newMany x_isTooGreat x_come x_foundSet), (qx 4, .inl (Y 0, 40, .inl x_kind)), (qx 5, .inl (Y 0, 40, .inl x_figure)), (qx 6, .inl (Y 0, 40, .inl x_low)), (qx 7, .inl (Y 0, 40, .inl x_high)), (qx 10, .inl (Y 1, 28672, .inr (.inl x_table))), (qx 11, .inl (Y 1, 7, .inr (.inl x_count))), (qx 12, .inl (Y 0, 144, .inl x_heavy))] → va_S A s.heap H locs → ∀ (ls : Array Slot), lv_has ls 4 [(0, .ref (qx 0)), (1, .int p1), (2, .int p2), (3, .int p3)] → W p l e (headSpec wsX9_sign (rmk 4 94)).room s m [.ref (qx 0), .int p1, .int p2, .int p3].toArray below meth c H locs 0 0 (MQ below (va_Qi (fun (r : Int32) (_ : Unit) => r = rv) (Pst G (tys Y) [(qx 0, oX9 qx x_points x_lines x_tide x_isKept x_isMuch x_sum x_once x_twice x_isTermMuch x_nodes x_newMany x_isTooGreat x_come x_foundSet), (qx 4, .inl (Y 0, 40, .inl x_kind)), (qx 5, .inl (Y 0, 40, .inl x_figure)), (qx 6, .inl (Y 0, 40, .inl x_low)), (qx 7, .inl (Y 0, 40, .inl x_high)), (qx 10, .inl (Y 1, 28672, .inr (.inl x_table))), (qx 11, .inl (Y 1, 7, .inr (.inl x_count))), (qx 12, .inl (Y 0, 144, .inl x_heavy))] s.heap.size [(qx 0, oX9 qx x_points x_lines x_tide x_isKept o_x_isMuch x_sum x_once x_twice x_isTermMuch x_nodes x_newMany o_x_isTooGreat x_come x_foundSet), (qx 4, .inl (Y 0, 40, .inl x_kind)), (qx 5, .inl (Y 0, 40, .inl x_figure)), (qx 6, .inl (Y 0, 40, .inl x_low)), (qx 7, .inl (Y 0, 40, .inl x_high)), (qx 10, .inl (Y 1, 28672, .inr (.inl o_x_table))), (qx 11, .inl (Y 1, 7, .inr (.inl o_x_count))), (qx 12, .inl (Y 0, 144, .inl o_x_heavy))]) A) [.ref (qx 0), .int p1, .int p2, .int p3].toArray s 0 0 A) (F0 m 0 ls []) := by
    intro H locs hP hD hS ls hl
    unfold f_X9_sign at hf
    refine lv_iload_n hx hb dX9_sign_0 rfl (lv_at hl 1 rfl) ?_
    obtain ⟨r1, hc, hf⟩ := bd1 hf
    refine cl_i (ws' := [(qx 0, oX9 qx x_points x_lines x_tide x_isKept x_isMuch x_sum x_once x_twice x_isTermMuch x_nodes x_newMany x_isTooGreat x_come x_foundSet), (qx 4, .inl (Y 0, 40, .inl x_kind)), (qx 5, .inl (Y 0, 40, .inl x_figure)), (qx 6, .inl (Y 0, 40, .inl x_low)), (qx 7, .inl (Y 0, 40, .inl x_high)), (qx 10, .inl (Y 1, 28672, .inr (.inl x_table))), (qx 11, .inl (Y 1, 7, .inr (.inl x_count))), (qx 12, .inl (Y 0, 144, .inl x_heavy))]) (wr := [(qx 0, oX9 qx x_points x_lines x_tide x_isKept x_isMuch x_sum x_once x_twice x_isTermMuch x_nodes x_newMany x_isTooGreat x_come x_foundSet), (qx 4, .inl (Y 0, 40, .inl x_kind)), (qx 5, .inl (Y 0, 40, .inl x_figure)), (qx 6, .inl (Y 0, 40, .inl x_low)), (qx 7, .inl (Y 0, 40, .inl x_high)), (qx 10, .inl (Y 1, 28672, .inr (.inl x_table))), (qx 11, .inl (Y 1, 7, .inr (.inl x_count))), (qx 12, .inl (Y 0, 144, .inl x_heavy))]) (rnS (As := [.int p1]) (rest := []) ⟨hx, hb, hml, hown, hts⟩ (c_X9_isOut l G Y H.size p1 r1 hc) (va_cwS 1 hts gX9_sign_X9_isOut rfl rfl rfl (by decide +kernel) ⟨(Nat.le_of_ble_eq_true rfl), (Nat.le_of_ble_eq_true rfl)⟩) trivial okT hK hP hD [] rfl rfl rfl hl.1 rfl (Nat.le_of_ble_eq_true rfl) dX9_sign_1) hP hD hS hA [] [0, 1, 2, 3, 4, 5, 6, 7] [0, 1, 2, 3, 4, 5, 6, 7] rfl rfl rfl (by decide) rfl rfl (fun H locs hP hD hS => ?_)
    refine lv_if_eq (tgt := 33) hx hb dX9_sign_4 (by decide) (fun c2 => ?_) (fun c2 => ?_)
    · have hf := it hf c2
      refine lv_bipush (v := -2) hx hb dX9_sign_33 (by decide) ?_
      obtain ⟨e0, e1, e2, e3, e4, e5⟩ := rt6 hf
      have hP : va_P G vwCl [(qx 0, oX9 qx x_points x_lines x_tide x_isKept o_x_isMuch x_sum x_once x_twice x_isTermMuch x_nodes x_newMany o_x_isTooGreat x_come x_foundSet), (qx 4, .inl (Y 0, 40, .inl x_kind)), (qx 5, .inl (Y 0, 40, .inl x_figure)), (qx 6, .inl (Y 0, 40, .inl x_low)), (qx 7, .inl (Y 0, 40, .inl x_high)), (qx 10, .inl (Y 1, 28672, .inr (.inl o_x_table))), (qx 11, .inl (Y 1, 7, .inr (.inl o_x_count))), (qx 12, .inl (Y 0, 144, .inl o_x_heavy))] H := by rw [← e1, ← e2, ← e3, ← e4, ← e5]; exact hP
      have hD : va_D A [(qx 0, oX9 qx x_points x_lines x_tide x_isKept o_x_isMuch x_sum x_once x_twice x_isTermMuch x_nodes x_newMany o_x_isTooGreat x_come x_foundSet), (qx 4, .inl (Y 0, 40, .inl x_kind)), (qx 5, .inl (Y 0, 40, .inl x_figure)), (qx 6, .inl (Y 0, 40, .inl x_low)), (qx 7, .inl (Y 0, 40, .inl x_high)), (qx 10, .inl (Y 1, 28672, .inr (.inl o_x_table))), (qx 11, .inl (Y 1, 7, .inr (.inl o_x_count))), (qx 12, .inl (Y 0, 144, .inl o_x_heavy))] := by rw [← e1, ← e2, ← e3, ← e4, ← e5]; exact hD
      exact W.iret (v := (-2 : Int32)) hx hb hr (fun t ht hW => ⟨⟨(-2 : Int32), (), rfl, e0, by rw [ht]; exact hP, va_K.moved hW.alike hK, by rw [hAe]; exact hD⟩, hS.F ht⟩) hS.2.2 dX9_sign_35
    · have hf := ie hf c2
      refine lv_iload_n hx hb dX9_sign_7 rfl (lv_at hl 2 rfl) ?_
      refine lv_i2l hx hb dX9_sign_8 rfl ?_
      refine lv_ldc2 hx hb hown wd1 dX9_sign_9 ?_
      refine lv_ldc2 hx hb hown wd2 dX9_sign_12 ?_
      obtain ⟨r3, hc, hf⟩ := bd1 hf
      refine cl_i (ws' := [(qx 0, oX9 qx x_points x_lines x_tide x_isKept x_isMuch x_sum x_once x_twice x_isTermMuch x_nodes x_newMany x_isTooGreat x_come x_foundSet), (qx 4, .inl (Y 0, 40, .inl x_kind)), (qx 5, .inl (Y 0, 40, .inl x_figure)), (qx 6, .inl (Y 0, 40, .inl x_low)), (qx 7, .inl (Y 0, 40, .inl x_high)), (qx 10, .inl (Y 1, 28672, .inr (.inl x_table))), (qx 11, .inl (Y 1, 7, .inr (.inl x_count))), (qx 12, .inl (Y 0, 144, .inl x_heavy))]) (wr := [(qx 0, oX9 qx x_points x_lines x_tide x_isKept x_isMuch x_sum x_once x_twice x_isTermMuch x_nodes x_newMany x_isTooGreat x_come x_foundSet), (qx 4, .inl (Y 0, 40, .inl x_kind)), (qx 5, .inl (Y 0, 40, .inl x_figure)), (qx 6, .inl (Y 0, 40, .inl x_low)), (qx 7, .inl (Y 0, 40, .inl x_high)), (qx 10, .inl (Y 1, 28672, .inr (.inl x_table))), (qx 11, .inl (Y 1, 7, .inr (.inl x_count))), (qx 12, .inl (Y 0, 144, .inl x_heavy))]) (rnS (As := [.long p2.toInt64, .long (-60 : Int64), .long (60 : Int64)]) (rest := []) ⟨hx, hb, hml, hown, hts⟩ (c_X9_in l G Y H.size p2.toInt64 (-60 : Int64) (60 : Int64) r3 hc) (va_cwS 3 hts gX9_sign_X9_in rfl rfl rfl (by decide +kernel) ⟨(Nat.le_of_ble_eq_true rfl), (Nat.le_of_ble_eq_true rfl)⟩) trivial okT hK hP hD [] rfl rfl rfl hl.1 rfl (Nat.le_of_ble_eq_true rfl) dX9_sign_15) hP hD hS hA [] [0, 1, 2, 3, 4, 5, 6, 7] [0, 1, 2, 3, 4, 5, 6, 7] rfl rfl rfl (by decide) rfl rfl (fun H locs hP hD hS => ?_)
      refine lv_if_eq (tgt := 33) hx hb dX9_sign_18 (by decide) (fun c4 => ?_) (fun c4 => ?_)
      · have hf := it hf c4
        refine lv_bipush (v := -2) hx hb dX9_sign_33 (by decide) ?_
        obtain ⟨e0, e1, e2, e3, e4, e5⟩ := rt6 hf
        have hP : va_P G vwCl [(qx 0, oX9 qx x_points x_lines x_tide x_isKept o_x_isMuch x_sum x_once x_twice x_isTermMuch x_nodes x_newMany o_x_isTooGreat x_come x_foundSet), (qx 4, .inl (Y 0, 40, .inl x_kind)), (qx 5, .inl (Y 0, 40, .inl x_figure)), (qx 6, .inl (Y 0, 40, .inl x_low)), (qx 7, .inl (Y 0, 40, .inl x_high)), (qx 10, .inl (Y 1, 28672, .inr (.inl o_x_table))), (qx 11, .inl (Y 1, 7, .inr (.inl o_x_count))), (qx 12, .inl (Y 0, 144, .inl o_x_heavy))] H := by rw [← e1, ← e2, ← e3, ← e4, ← e5]; exact hP
        have hD : va_D A [(qx 0, oX9 qx x_points x_lines x_tide x_isKept o_x_isMuch x_sum x_once x_twice x_isTermMuch x_nodes x_newMany o_x_isTooGreat x_come x_foundSet), (qx 4, .inl (Y 0, 40, .inl x_kind)), (qx 5, .inl (Y 0, 40, .inl x_figure)), (qx 6, .inl (Y 0, 40, .inl x_low)), (qx 7, .inl (Y 0, 40, .inl x_high)), (qx 10, .inl (Y 1, 28672, .inr (.inl o_x_table))), (qx 11, .inl (Y 1, 7, .inr (.inl o_x_count))), (qx 12, .inl (Y 0, 144, .inl o_x_heavy))] := by rw [← e1, ← e2, ← e3, ← e4, ← e5]; exact hD
        exact W.iret (v := (-2 : Int32)) hx hb hr (fun t ht hW => ⟨⟨(-2 : Int32), (), rfl, e0, by rw [ht]; exact hP, va_K.moved hW.alike hK, by rw [hAe]; exact hD⟩, hS.F ht⟩) hS.2.2 dX9_sign_35
      · have hf := ie hf c4
        refine lv_iload_n hx hb dX9_sign_21 rfl (lv_at hl 3 rfl) ?_
        refine lv_i2l hx hb dX9_sign_22 rfl ?_
        refine lv_lconst (v := 1) hx hb dX9_sign_23 (by decide) ?_
        refine lv_ldc2 hx hb hown wd3 dX9_sign_24 ?_
        obtain ⟨r5, hc, hf⟩ := bd1 hf
        refine cl_i (ws' := [(qx 0, oX9 qx x_points x_lines x_tide x_isKept x_isMuch x_sum x_once x_twice x_isTermMuch x_nodes x_newMany x_isTooGreat x_come x_foundSet), (qx 4, .inl (Y 0, 40, .inl x_kind)), (qx 5, .inl (Y 0, 40, .inl x_figure)), (qx 6, .inl (Y 0, 40, .inl x_low)), (qx 7, .inl (Y 0, 40, .inl x_high)), (qx 10, .inl (Y 1, 28672, .inr (.inl x_table))), (qx 11, .inl (Y 1, 7, .inr (.inl x_count))), (qx 12, .inl (Y 0, 144, .inl x_heavy))]) (wr := [(qx 0, oX9 qx x_points x_lines x_tide x_isKept x_isMuch x_sum x_once x_twice x_isTermMuch x_nodes x_newMany x_isTooGreat x_come x_foundSet), (qx 4, .inl (Y 0, 40, .inl x_kind)), (qx 5, .inl (Y 0, 40, .inl x_figure)), (qx 6, .inl (Y 0, 40, .inl x_low)), (qx 7, .inl (Y 0, 40, .inl x_high)), (qx 10, .inl (Y 1, 28672, .inr (.inl x_table))), (qx 11, .inl (Y 1, 7, .inr (.inl x_count))), (qx 12, .inl (Y 0, 144, .inl x_heavy))]) (rnS (As := [.long p3.toInt64, .long (1 : Int64), .long (6 : Int64)]) (rest := []) ⟨hx, hb, hml, hown, hts⟩ (c_X9_in l G Y H.size p3.toInt64 (1 : Int64) (6 : Int64) r5 hc) (va_cwS 3 hts gX9_sign_X9_in rfl rfl rfl (by decide +kernel) ⟨(Nat.le_of_ble_eq_true rfl), (Nat.le_of_ble_eq_true rfl)⟩) trivial okT hK hP hD [] rfl rfl rfl hl.1 rfl (Nat.le_of_ble_eq_true rfl) dX9_sign_27) hP hD hS hA [] [0, 1, 2, 3, 4, 5, 6, 7] [0, 1, 2, 3, 4, 5, 6, 7] rfl rfl rfl (by decide) rfl rfl (fun H locs hP hD hS => ?_)
        refine lv_if_ne (tgt := 36) hx hb dX9_sign_30 (by decide) (fun c6 => ?_) (fun c6 => ?_)
        · have hf := ie hf c6
          refine lv_aload_n hx hb dX9_sign_36 rfl (lv_at hl 0 rfl) ?_
          refine lv_iload_n hx hb dX9_sign_37 rfl (lv_at hl 1 rfl) ?_
          obtain ⟨w7, w8, w9, w10, hc, hf⟩ := bd4 hf
          refine cl_v (ws' := [(qx 0, oX9 qx x_points x_lines x_tide x_isKept w10 x_sum x_once x_twice x_isTermMuch x_nodes x_newMany x_isTooGreat x_come x_foundSet), (qx 4, .inl (Y 0, 40, .inl x_kind)), (qx 5, .inl (Y 0, 40, .inl x_figure)), (qx 6, .inl (Y 0, 40, .inl x_low)), (qx 7, .inl (Y 0, 40, .inl x_high)), (qx 10, .inl (Y 1, 28672, .inr (.inl w7))), (qx 11, .inl (Y 1, 7, .inr (.inl w8))), (qx 12, .inl (Y 0, 144, .inl w9))]) (wr := []) (rnV (As := [.int p1]) (rest := []) ⟨hx, hb, hml, hown, hts⟩ (c_X9_findsCounts l G Y H.size qx x_points x_lines x_tide x_kind x_figure x_low x_high x_isKept x_table x_count x_heavy x_isMuch x_sum x_once x_twice x_isTermMuch x_nodes x_newMany x_isTooGreat x_come x_foundSet p1 w7 w8 w9 w10 hc) (cwV 1 hts gX9_sign_X9_findsCounts rfl rfl rfl (by decide +kernel) ⟨(Nat.le_of_ble_eq_true rfl), (Nat.le_of_ble_eq_true rfl)⟩) trivial okT hK hP hD [0, 1, 2, 3, 4, 5, 6, 7] rfl rfl (ci := 7) (q0 := 0) rfl rfl rfl rfl hl.1 rfl (Nat.le_of_ble_eq_true rfl) dX9_sign_38) hP hD hS hA [0, 1, 2, 3, 4, 5, 6, 7] [] [0, 1, 2, 3, 4, 5, 6, 7] rfl rfl rfl (by decide) rfl rfl (fun H locs hP hD hS => ?_)
          refine lv_aload_n hx hb dX9_sign_41 rfl (lv_at hl 0 rfl) ?_
          refine va_get (D := G) (ci := 7) (v := .int w10) (C := RX9) (T := TX9) (N := 37) hx hb hts inX9w hown hK hP 0 rfl rfl 12 (by decide) wd4 (fun _ h9 => h9) rfl dX9_sign_42 ?_
          refine lv_if_eq (tgt := 53) hx hb dX9_sign_45 (by decide) (fun c11 => ?_) (fun c11 => ?_)
          · have hf := it hf c11
            refine lv_aload_n hx hb dX9_sign_53 rfl (lv_at hl 0 rfl) ?_
            refine lv_aload_n hx hb dX9_sign_54 rfl (lv_at hl 0 rfl) ?_
            refine lv_iload_n hx hb dX9_sign_55 rfl (lv_at hl 1 rfl) ?_
            obtain ⟨r12, hc, hf⟩ := bd1 hf
            refine cl_i (ws' := [(qx 0, oX9 qx x_points x_lines x_tide x_isKept w10 x_sum x_once x_twice x_isTermMuch x_nodes x_newMany x_isTooGreat x_come x_foundSet), (qx 4, .inl (Y 0, 40, .inl x_kind)), (qx 5, .inl (Y 0, 40, .inl x_figure)), (qx 6, .inl (Y 0, 40, .inl x_low)), (qx 7, .inl (Y 0, 40, .inl x_high)), (qx 10, .inl (Y 1, 28672, .inr (.inl w7))), (qx 11, .inl (Y 1, 7, .inr (.inl w8))), (qx 12, .inl (Y 0, 144, .inl w9))]) (wr := [(qx 4, .inl (Y 0, 40, .inl x_kind)), (qx 5, .inl (Y 0, 40, .inl x_figure)), (qx 6, .inl (Y 0, 40, .inl x_low)), (qx 7, .inl (Y 0, 40, .inl x_high)), (qx 10, .inl (Y 1, 28672, .inr (.inl w7))), (qx 11, .inl (Y 1, 7, .inr (.inl w8))), (qx 12, .inl (Y 0, 144, .inl w9))]) (rnV (As := [.int p1]) (rest := [.ref (qx 0)]) ⟨hx, hb, hml, hown, hts⟩ (c_X9_free l G Y H.size qx x_points x_lines x_tide x_isKept w10 x_sum x_once x_twice x_isTermMuch x_nodes x_newMany x_isTooGreat x_come x_foundSet p1 r12 hc) (cwV 1 hts gX9_sign_X9_free rfl rfl rfl (by decide +kernel) ⟨(Nat.le_of_ble_eq_true rfl), (Nat.le_of_ble_eq_true rfl)⟩) trivial okT hK hP hD [0] rfl rfl (ci := 7) (q0 := 0) rfl rfl rfl rfl hl.1 rfl (Nat.le_of_ble_eq_true rfl) dX9_sign_56) hP hD hS hA [0] [1, 2, 3, 4, 5, 6, 7] [7, 0, 1, 2, 3, 4, 5, 6] rfl rfl rfl (by decide) rfl rfl (fun H locs hP hD hS => ?_)
            obtain ⟨r13, hc, hf⟩ := bd1 hf
            refine cl_i (ws' := [(qx 0, oX9 qx x_points x_lines x_tide x_isKept w10 x_sum x_once x_twice x_isTermMuch x_nodes x_newMany x_isTooGreat x_come x_foundSet), (qx 4, .inl (Y 0, 40, .inl x_kind)), (qx 5, .inl (Y 0, 40, .inl x_figure)), (qx 6, .inl (Y 0, 40, .inl x_low)), (qx 7, .inl (Y 0, 40, .inl x_high)), (qx 10, .inl (Y 1, 28672, .inr (.inl w7))), (qx 11, .inl (Y 1, 7, .inr (.inl w8))), (qx 12, .inl (Y 0, 144, .inl w9))]) (wr := [(qx 0, oX9 qx x_points x_lines x_tide x_isKept w10 x_sum x_once x_twice x_isTermMuch x_nodes x_newMany x_isTooGreat x_come x_foundSet), (qx 4, .inl (Y 0, 40, .inl x_kind)), (qx 5, .inl (Y 0, 40, .inl x_figure)), (qx 6, .inl (Y 0, 40, .inl x_low)), (qx 7, .inl (Y 0, 40, .inl x_high)), (qx 10, .inl (Y 1, 28672, .inr (.inl w7))), (qx 11, .inl (Y 1, 7, .inr (.inl w8))), (qx 12, .inl (Y 0, 144, .inl w9))]) (rnS (As := [.int r12]) (rest := [.ref (qx 0)]) ⟨hx, hb, hml, hown, hts⟩ (c_X9_many l G Y H.size r12 r13 hc) (va_cwS 1 hts gX9_sign_X9_many rfl rfl rfl (by decide +kernel) ⟨(Nat.le_of_ble_eq_true rfl), (Nat.le_of_ble_eq_true rfl)⟩) trivial okT hK hP hD [] rfl rfl rfl hl.1 rfl (Nat.le_of_ble_eq_true rfl) dX9_sign_59) hP hD hS hA [] [0, 1, 2, 3, 4, 5, 6, 7] [0, 1, 2, 3, 4, 5, 6, 7] rfl rfl rfl (by decide) rfl rfl (fun H locs hP hD hS => ?_)
            refine lv_iload_n hx hb dX9_sign_62 rfl (lv_at hl 2 rfl) ?_
            refine lv_iload_n hx hb dX9_sign_63 rfl (lv_at hl 3 rfl) ?_
            obtain ⟨r14, w15, hc, hf⟩ := bd2 hf
            refine cl_i (ws' := [(qx 0, oX9 qx x_points x_lines x_tide x_isKept w10 x_sum x_once x_twice x_isTermMuch x_nodes x_newMany w15 x_come x_foundSet), (qx 4, .inl (Y 0, 40, .inl x_kind)), (qx 5, .inl (Y 0, 40, .inl x_figure)), (qx 6, .inl (Y 0, 40, .inl x_low)), (qx 7, .inl (Y 0, 40, .inl x_high)), (qx 10, .inl (Y 1, 28672, .inr (.inl w7))), (qx 11, .inl (Y 1, 7, .inr (.inl w8))), (qx 12, .inl (Y 0, 144, .inl w9))]) (wr := [(qx 4, .inl (Y 0, 40, .inl x_kind)), (qx 5, .inl (Y 0, 40, .inl x_figure)), (qx 6, .inl (Y 0, 40, .inl x_low)), (qx 7, .inl (Y 0, 40, .inl x_high)), (qx 10, .inl (Y 1, 28672, .inr (.inl w7))), (qx 12, .inl (Y 0, 144, .inl w9))]) (rnV (As := [.int r13, .int p2, .int p3]) (rest := []) ⟨hx, hb, hml, hown, hts⟩ (c_X9_signAt l G Y H.size qx x_points x_lines x_tide x_isKept w8 w10 x_sum x_once x_twice x_isTermMuch x_nodes x_newMany x_isTooGreat x_come x_foundSet r13 p2 p3 r14 w15 hc) (cwV 3 hts gX9_sign_X9_signAt rfl rfl rfl (by decide +kernel) ⟨(Nat.le_of_ble_eq_true rfl), (Nat.le_of_ble_eq_true rfl)⟩) trivial okT hK hP hD [0, 6] rfl rfl (ci := 7) (q0 := 0) rfl rfl rfl rfl hl.1 rfl (Nat.le_of_ble_eq_true rfl) dX9_sign_64) hP hD hS hA [0, 6] [1, 2, 3, 4, 5, 7] [6, 0, 1, 2, 3, 4, 7, 5] rfl rfl rfl (by decide) rfl rfl (fun H locs hP hD hS => ?_)
            obtain ⟨e0, e1, e2, e3, e4, e5⟩ := rt6 hf
            have hP : va_P G vwCl [(qx 0, oX9 qx x_points x_lines x_tide x_isKept o_x_isMuch x_sum x_once x_twice x_isTermMuch x_nodes x_newMany o_x_isTooGreat x_come x_foundSet), (qx 4, .inl (Y 0, 40, .inl x_kind)), (qx 5, .inl (Y 0, 40, .inl x_figure)), (qx 6, .inl (Y 0, 40, .inl x_low)), (qx 7, .inl (Y 0, 40, .inl x_high)), (qx 10, .inl (Y 1, 28672, .inr (.inl o_x_table))), (qx 11, .inl (Y 1, 7, .inr (.inl o_x_count))), (qx 12, .inl (Y 0, 144, .inl o_x_heavy))] H := by rw [← e1, ← e2, ← e3, ← e4, ← e5]; exact hP
            have hD : va_D A [(qx 0, oX9 qx x_points x_lines x_tide x_isKept o_x_isMuch x_sum x_once x_twice x_isTermMuch x_nodes x_newMany o_x_isTooGreat x_come x_foundSet), (qx 4, .inl (Y 0, 40, .inl x_kind)), (qx 5, .inl (Y 0, 40, .inl x_figure)), (qx 6, .inl (Y 0, 40, .inl x_low)), (qx 7, .inl (Y 0, 40, .inl x_high)), (qx 10, .inl (Y 1, 28672, .inr (.inl o_x_table))), (qx 11, .inl (Y 1, 7, .inr (.inl o_x_count))), (qx 12, .inl (Y 0, 144, .inl o_x_heavy))] := by rw [← e1, ← e2, ← e3, ← e4, ← e5]; exact hD
            exact W.iret (v := r14) hx hb hr (fun t ht hW => ⟨⟨r14, (), rfl, e0, by rw [ht]; exact hP, va_K.moved hW.alike hK, by rw [hAe]; exact hD⟩, hS.F ht⟩) hS.2.2 dX9_sign_67
          · have hf := ie hf c11
            refine lv_bipush (v := -5) hx hb dX9_sign_48 (by decide) ?_
            refine lv_goto (tgt := 67) hx hb dX9_sign_50 (by decide) ?_
            obtain ⟨e0, e1, e2, e3, e4, e5⟩ := rt6 hf
            have hP : va_P G vwCl [(qx 0, oX9 qx x_points x_lines x_tide x_isKept o_x_isMuch x_sum x_once x_twice x_isTermMuch x_nodes x_newMany o_x_isTooGreat x_come x_foundSet), (qx 4, .inl (Y 0, 40, .inl x_kind)), (qx 5, .inl (Y 0, 40, .inl x_figure)), (qx 6, .inl (Y 0, 40, .inl x_low)), (qx 7, .inl (Y 0, 40, .inl x_high)), (qx 10, .inl (Y 1, 28672, .inr (.inl o_x_table))), (qx 11, .inl (Y 1, 7, .inr (.inl o_x_count))), (qx 12, .inl (Y 0, 144, .inl o_x_heavy))] H := by rw [← e1, ← e2, ← e3, ← e4, ← e5]; exact hP
            have hD : va_D A [(qx 0, oX9 qx x_points x_lines x_tide x_isKept o_x_isMuch x_sum x_once x_twice x_isTermMuch x_nodes x_newMany o_x_isTooGreat x_come x_foundSet), (qx 4, .inl (Y 0, 40, .inl x_kind)), (qx 5, .inl (Y 0, 40, .inl x_figure)), (qx 6, .inl (Y 0, 40, .inl x_low)), (qx 7, .inl (Y 0, 40, .inl x_high)), (qx 10, .inl (Y 1, 28672, .inr (.inl o_x_table))), (qx 11, .inl (Y 1, 7, .inr (.inl o_x_count))), (qx 12, .inl (Y 0, 144, .inl o_x_heavy))] := by rw [← e1, ← e2, ← e3, ← e4, ← e5]; exact hD
            exact W.iret (v := (-5 : Int32)) hx hb hr (fun t ht hW => ⟨⟨(-5 : Int32), (), rfl, e0, by rw [ht]; exact hP, va_K.moved hW.alike hK, by rw [hAe]; exact hD⟩, hS.F ht⟩) hS.2.2 dX9_sign_67
        · have hf := it hf c6
          refine lv_bipush (v := -2) hx hb dX9_sign_33 (by decide) ?_
          obtain ⟨e0, e1, e2, e3, e4, e5⟩ := rt6 hf
          have hP : va_P G vwCl [(qx 0, oX9 qx x_points x_lines x_tide x_isKept o_x_isMuch x_sum x_once x_twice x_isTermMuch x_nodes x_newMany o_x_isTooGreat x_come x_foundSet), (qx 4, .inl (Y 0, 40, .inl x_kind)), (qx 5, .inl (Y 0, 40, .inl x_figure)), (qx 6, .inl (Y 0, 40, .inl x_low)), (qx 7, .inl (Y 0, 40, .inl x_high)), (qx 10, .inl (Y 1, 28672, .inr (.inl o_x_table))), (qx 11, .inl (Y 1, 7, .inr (.inl o_x_count))), (qx 12, .inl (Y 0, 144, .inl o_x_heavy))] H := by rw [← e1, ← e2, ← e3, ← e4, ← e5]; exact hP
          have hD : va_D A [(qx 0, oX9 qx x_points x_lines x_tide x_isKept o_x_isMuch x_sum x_once x_twice x_isTermMuch x_nodes x_newMany o_x_isTooGreat x_come x_foundSet), (qx 4, .inl (Y 0, 40, .inl x_kind)), (qx 5, .inl (Y 0, 40, .inl x_figure)), (qx 6, .inl (Y 0, 40, .inl x_low)), (qx 7, .inl (Y 0, 40, .inl x_high)), (qx 10, .inl (Y 1, 28672, .inr (.inl o_x_table))), (qx 11, .inl (Y 1, 7, .inr (.inl o_x_count))), (qx 12, .inl (Y 0, 144, .inl o_x_heavy))] := by rw [← e1, ← e2, ← e3, ← e4, ← e5]; exact hD
          exact W.iret (v := (-2 : Int32)) hx hb hr (fun t ht hW => ⟨⟨(-2 : Int32), (), rfl, e0, by rw [ht]; exact hP, va_K.moved hW.alike hK, by rw [hAe]; exact hD⟩, hS.F ht⟩) hS.2.2 dX9_sign_35
  exact E0 s.heap [] hP hD hS ls hl
-- X9_changes
set_option maxRecDepth 100000 in
set_option maxHeartbeats 4000000 in
theorem c_X9_changes (l : Launch) (G : va_G) (Y : Nat → ClassId) (sz : Nat) (qx : Nat → Nat) (x_points : Int32) (x_lines : Int32) (x_tide : Int32) (x_kind : Nat → Int32) (x_figure : Nat → Int32) (x_low : Nat → Int32) (x_high : Nat → Int32) (x_isKept : Int32) (x_table : Nat → Int64) (x_count : Nat → Int64) (x_heavy : Nat → Int32) (x_isMuch : Int32) (x_sum : Int64) (x_once : Int64) (x_twice : Int64) (x_isTermMuch : Int32) (x_nodes : Int32) (x_newMany : Int32) (x_isTooGreat : Int32) (x_come : Int32) (x_foundSet : Int64) (p1 : Int32) (p2 : Int32) (p3 : Int32) (p4 : Int32) (rv : Int32) (o_x_table : Nat → Int64) (o_x_count : Nat → Int64) (o_x_heavy : Nat → Int32) (o_x_isMuch : Int32) (o_x_isTooGreat : Int32) (hf : f_X9_changes x_points x_lines x_tide x_kind x_figure x_low x_high x_table x_count x_heavy x_isMuch x_isTooGreat p1 p2 p3 p4 = some (rv, o_x_table, o_x_count, o_x_heavy, o_x_isMuch, o_x_isTooGreat)) : Met l yX9_changes wsX9_changes (rmk 4 94) (va_Pc [.ref (qx 0), .int p1, .int p2, .int p3, .int p4] (Pre G (tys Y) [(qx 0, oX9 qx x_points x_lines x_tide x_isKept x_isMuch x_sum x_once x_twice x_isTermMuch x_nodes x_newMany x_isTooGreat x_come x_foundSet), (qx 4, .inl (Y 0, 40, .inl x_kind)), (qx 5, .inl (Y 0, 40, .inl x_figure)), (qx 6, .inl (Y 0, 40, .inl x_low)), (qx 7, .inl (Y 0, 40, .inl x_high)), (qx 10, .inl (Y 1, 28672, .inr (.inl x_table))), (qx 11, .inl (Y 1, 7, .inr (.inl x_count))), (qx 12, .inl (Y 0, 144, .inl x_heavy))] sz xT)) (va_Qi (fun (r : Int32) (_ : Unit) => r = rv) (Pst G (tys Y) [(qx 0, oX9 qx x_points x_lines x_tide x_isKept x_isMuch x_sum x_once x_twice x_isTermMuch x_nodes x_newMany x_isTooGreat x_come x_foundSet), (qx 4, .inl (Y 0, 40, .inl x_kind)), (qx 5, .inl (Y 0, 40, .inl x_figure)), (qx 6, .inl (Y 0, 40, .inl x_low)), (qx 7, .inl (Y 0, 40, .inl x_high)), (qx 10, .inl (Y 1, 28672, .inr (.inl x_table))), (qx 11, .inl (Y 1, 7, .inr (.inl x_count))), (qx 12, .inl (Y 0, 144, .inl x_heavy))] sz [(qx 0, oX9 qx x_points x_lines x_tide x_isKept o_x_isMuch x_sum x_once x_twice x_isTermMuch x_nodes x_newMany o_x_isTooGreat x_come x_foundSet), (qx 4, .inl (Y 0, 40, .inl x_kind)), (qx 5, .inl (Y 0, 40, .inl x_figure)), (qx 6, .inl (Y 0, 40, .inl x_low)), (qx 7, .inl (Y 0, 40, .inl x_high)), (qx 10, .inl (Y 1, 28672, .inr (.inl o_x_table))), (qx 11, .inl (Y 1, 7, .inr (.inl o_x_count))), (qx 12, .inl (Y 0, 144, .inl o_x_heavy))]) (va_A [(qx 0, oX9 qx x_points x_lines x_tide x_isKept x_isMuch x_sum x_once x_twice x_isTermMuch x_nodes x_newMany x_isTooGreat x_come x_foundSet), (qx 4, .inl (Y 0, 40, .inl x_kind)), (qx 5, .inl (Y 0, 40, .inl x_figure)), (qx 6, .inl (Y 0, 40, .inl x_low)), (qx 7, .inl (Y 0, 40, .inl x_high)), (qx 10, .inl (Y 1, 28672, .inr (.inl x_table))), (qx 11, .inl (Y 1, 7, .inr (.inl x_count))), (qx 12, .inl (Y 0, 144, .inl x_heavy))] sz)) 0 0 (va_A [(qx 0, oX9 qx x_points x_lines x_tide x_isKept x_isMuch x_sum x_once x_twice x_isTermMuch x_nodes x_newMany x_isTooGreat x_come x_foundSet), (qx 4, .inl (Y 0, 40, .inl x_kind)), (qx 5, .inl (Y 0, 40, .inl x_figure)), (qx 6, .inl (Y 0, 40, .inl x_low)), (qx 7, .inl (Y 0, 40, .inl x_high)), (qx 10, .inl (Y 1, 28672, .inr (.inl x_table))), (qx 11, .inl (Y 1, 7, .inr (.inl x_count))), (qx 12, .inl (Y 0, 144, .inl x_heavy))] sz) := by
  refine Met.ofW (cc := cX9_changes) (maxL := 10) (ret := (some .int)) (by decide) rfl ?_
  intro p e s m args below meth c s₁ B hml hv
  obtain ⟨rfl, hsz, hP, hK, hD0, hX⟩ := hv
  have hx := B.exec
  have hb := B.bytes
  have hr := B.returns
  have hts := atoms_spec (ws := wsX9_changes) B.pre
  have hown : s.vm.findClass RX9 = some m.cls := findClass_of_methodNamed B.named
  have hlocks := B.notSynchronized
  subst hsz
  have hD := hD0.self (sz := s.heap.size)
  generalize hAe : va_A [(qx 0, oX9 qx x_points x_lines x_tide x_isKept x_isMuch x_sum x_once x_twice x_isTermMuch x_nodes x_newMany x_isTooGreat x_come x_foundSet), (qx 4, .inl (Y 0, 40, .inl x_kind)), (qx 5, .inl (Y 0, 40, .inl x_figure)), (qx 6, .inl (Y 0, 40, .inl x_low)), (qx 7, .inl (Y 0, 40, .inl x_high)), (qx 10, .inl (Y 1, 28672, .inr (.inl x_table))), (qx 11, .inl (Y 1, 7, .inr (.inl x_count))), (qx 12, .inl (Y 0, 144, .inl x_heavy))] s.heap.size = A at hD ⊢
  have hA : ∀ q : Nat, s.heap.size ≤ q → A q := fun q h => by rw [← hAe]; exact Or.inr h
  have hS : va_S A s.heap s.heap [] := va_S.rf
  have hP : va_P G vwCl [(qx 0, oX9 qx x_points x_lines x_tide x_isKept x_isMuch x_sum x_once x_twice x_isTermMuch x_nodes x_newMany x_isTooGreat x_come x_foundSet), (qx 4, .inl (Y 0, 40, .inl x_kind)), (qx 5, .inl (Y 0, 40, .inl x_figure)), (qx 6, .inl (Y 0, 40, .inl x_low)), (qx 7, .inl (Y 0, 40, .inl x_high)), (qx 10, .inl (Y 1, 28672, .inr (.inl x_table))), (qx 11, .inl (Y 1, 7, .inr (.inl x_count))), (qx 12, .inl (Y 0, 144, .inl x_heavy))] s.heap := hP
  have wd1 : (Cond.constantLong RX9 172 (6)).before [.ref (qx 0), .int p1, .int p2, .int p3, .int p4].toArray s = true := hts _ (List.mem_of_getElem? (i := 1) rfl)
  have wd2 : (Cond.constantLong RX9 274 (-60)).before [.ref (qx 0), .int p1, .int p2, .int p3, .int p4].toArray s = true := hts _ (List.mem_of_getElem? (i := 2) rfl)
  have wd3 : (Cond.constantLong RX9 276 (60)).before [.ref (qx 0), .int p1, .int p2, .int p3, .int p4].toArray s = true := hts _ (List.mem_of_getElem? (i := 3) rfl)
  have wd4 : (Cond.fieldLink RX9 148 "PairedLinesModel" "isMuch" "Z").before [.ref (qx 0), .int p1, .int p2, .int p3, .int p4].toArray s = true := hts _ (List.mem_of_getElem? (i := 4) rfl)
  have inX9w : ∀ w ∈ u_ws RX9 TX9 37, w ∈ wsX9_changes := fun w hw => List.mem_cons_of_mem _ (List.mem_append_right _ (hw))
  have hl := lv_entry ([.ref (qx 0), .int p1, .int p2, .int p3, .int p4]) (n := 10) (Nat.le_of_ble_eq_true rfl)
  rw [lg_entry_eq]
  generalize (lg_sl ([.ref (qx 0), .int p1, .int p2, .int p3, .int p4]) ++ List.replicate (10 - (lg_sl ([.ref (qx 0), .int p1, .int p2, .int p3, .int p4])).length) Slot.unset).toArray = ls at hl ⊢
  have hl : lv_has ls 10 [(0, .ref (qx 0)), (1, .int p1), (2, .int p2), (3, .int p3), (4, .int p4)] := hl
  have B77 : ∀ (n77 : Nat), ∀ (b_x_table : Nat → Int64) (b_x_count : Nat → Int64) (b_x_heavy : Nat → Int32) (b_x_isMuch : Int32) (b_x_isTooGreat : Int32) (x5 : Int32) (x6 : Int32) (x7 : Int32) (x8 : Int32), f_X9_changes_b77 x_points x_lines x_tide x_kind x_figure x_low x_high p1 p2 p3 p4 n77 b_x_table b_x_count b_x_heavy b_x_isMuch b_x_isTooGreat x5 x6 x7 x8 = some (rv, o_x_table, o_x_count, o_x_heavy, o_x_isMuch, o_x_isTooGreat) → ∀ (H : Heap) (locs : List Loc), va_P G vwCl [(qx 0, oX9 qx x_points x_lines x_tide x_isKept b_x_isMuch x_sum x_once x_twice x_isTermMuch x_nodes x_newMany b_x_isTooGreat x_come x_foundSet), (qx 4, .inl (Y 0, 40, .inl x_kind)), (qx 5, .inl (Y 0, 40, .inl x_figure)), (qx 6, .inl (Y 0, 40, .inl x_low)), (qx 7, .inl (Y 0, 40, .inl x_high)), (qx 10, .inl (Y 1, 28672, .inr (.inl b_x_table))), (qx 11, .inl (Y 1, 7, .inr (.inl b_x_count))), (qx 12, .inl (Y 0, 144, .inl b_x_heavy))] H → va_D A [(qx 0, oX9 qx x_points x_lines x_tide x_isKept b_x_isMuch x_sum x_once x_twice x_isTermMuch x_nodes x_newMany b_x_isTooGreat x_come x_foundSet), (qx 4, .inl (Y 0, 40, .inl x_kind)), (qx 5, .inl (Y 0, 40, .inl x_figure)), (qx 6, .inl (Y 0, 40, .inl x_low)), (qx 7, .inl (Y 0, 40, .inl x_high)), (qx 10, .inl (Y 1, 28672, .inr (.inl b_x_table))), (qx 11, .inl (Y 1, 7, .inr (.inl b_x_count))), (qx 12, .inl (Y 0, 144, .inl b_x_heavy))] → va_S A s.heap H locs → ∀ (ls : Array Slot), lv_has ls 10 [(0, .ref (qx 0)), (1, .int p1), (2, .int p2), (4, .int p4), (5, .int x5), (6, .int x6), (7, .int x7), (8, .int x8)] → W p l e (headSpec wsX9_changes (rmk 4 94)).room s m [.ref (qx 0), .int p1, .int p2, .int p3, .int p4].toArray below meth c H locs 0 0 (MQ below (va_Qi (fun (r : Int32) (_ : Unit) => r = rv) (Pst G (tys Y) [(qx 0, oX9 qx x_points x_lines x_tide x_isKept x_isMuch x_sum x_once x_twice x_isTermMuch x_nodes x_newMany x_isTooGreat x_come x_foundSet), (qx 4, .inl (Y 0, 40, .inl x_kind)), (qx 5, .inl (Y 0, 40, .inl x_figure)), (qx 6, .inl (Y 0, 40, .inl x_low)), (qx 7, .inl (Y 0, 40, .inl x_high)), (qx 10, .inl (Y 1, 28672, .inr (.inl x_table))), (qx 11, .inl (Y 1, 7, .inr (.inl x_count))), (qx 12, .inl (Y 0, 144, .inl x_heavy))] s.heap.size [(qx 0, oX9 qx x_points x_lines x_tide x_isKept o_x_isMuch x_sum x_once x_twice x_isTermMuch x_nodes x_newMany o_x_isTooGreat x_come x_foundSet), (qx 4, .inl (Y 0, 40, .inl x_kind)), (qx 5, .inl (Y 0, 40, .inl x_figure)), (qx 6, .inl (Y 0, 40, .inl x_low)), (qx 7, .inl (Y 0, 40, .inl x_high)), (qx 10, .inl (Y 1, 28672, .inr (.inl o_x_table))), (qx 11, .inl (Y 1, 7, .inr (.inl o_x_count))), (qx 12, .inl (Y 0, 144, .inl o_x_heavy))]) A) [.ref (qx 0), .int p1, .int p2, .int p3, .int p4].toArray s 0 0 A) (F0 m 77 ls []) := by
    intro n77
    induction n77 with
    | zero =>
      intro b_x_table b_x_count b_x_heavy b_x_isMuch b_x_isTooGreat x5 x6 x7 x8 hf H locs hP hD hS ls hl
      exact no_none hf
    | succ n77 ih77 =>
      have B140 : ∀ (b_x_table : Nat → Int64) (b_x_count : Nat → Int64) (b_x_heavy : Nat → Int32) (b_x_isMuch : Int32) (b_x_isTooGreat : Int32) (x6 : Int32) (x7 : Int32) (x8 : Int32) (x9 : Int32) (y0 : Int32) (y1 : Int32), f_X9_changes_b140 x_points x_lines x_tide x_kind x_figure x_low x_high p1 p2 p3 p4 (f_X9_changes_b77 x_points x_lines x_tide x_kind x_figure x_low x_high p1 p2 p3 p4 n77) b_x_table b_x_count b_x_heavy b_x_isMuch b_x_isTooGreat x6 x7 x8 x9 y0 y1 = some (rv, o_x_table, o_x_count, o_x_heavy, o_x_isMuch, o_x_isTooGreat) → ∀ (H : Heap) (locs : List Loc), va_P G vwCl [(qx 0, oX9 qx x_points x_lines x_tide x_isKept b_x_isMuch x_sum x_once x_twice x_isTermMuch x_nodes x_newMany b_x_isTooGreat x_come x_foundSet), (qx 4, .inl (Y 0, 40, .inl x_kind)), (qx 5, .inl (Y 0, 40, .inl x_figure)), (qx 6, .inl (Y 0, 40, .inl x_low)), (qx 7, .inl (Y 0, 40, .inl x_high)), (qx 10, .inl (Y 1, 28672, .inr (.inl b_x_table))), (qx 11, .inl (Y 1, 7, .inr (.inl b_x_count))), (qx 12, .inl (Y 0, 144, .inl b_x_heavy))] H → va_D A [(qx 0, oX9 qx x_points x_lines x_tide x_isKept b_x_isMuch x_sum x_once x_twice x_isTermMuch x_nodes x_newMany b_x_isTooGreat x_come x_foundSet), (qx 4, .inl (Y 0, 40, .inl x_kind)), (qx 5, .inl (Y 0, 40, .inl x_figure)), (qx 6, .inl (Y 0, 40, .inl x_low)), (qx 7, .inl (Y 0, 40, .inl x_high)), (qx 10, .inl (Y 1, 28672, .inr (.inl b_x_table))), (qx 11, .inl (Y 1, 7, .inr (.inl b_x_count))), (qx 12, .inl (Y 0, 144, .inl b_x_heavy))] → va_S A s.heap H locs → ∀ (ls : Array Slot), lv_has ls 10 [(0, .ref (qx 0)), (1, .int p1), (2, .int p2), (4, .int p4), (6, .int x6), (7, .int x7), (8, .int x8), (9, .int x9)] → W p l e (headSpec wsX9_changes (rmk 4 94)).room s m [.ref (qx 0), .int p1, .int p2, .int p3, .int p4].toArray below meth c H locs 0 0 (MQ below (va_Qi (fun (r : Int32) (_ : Unit) => r = rv) (Pst G (tys Y) [(qx 0, oX9 qx x_points x_lines x_tide x_isKept x_isMuch x_sum x_once x_twice x_isTermMuch x_nodes x_newMany x_isTooGreat x_come x_foundSet), (qx 4, .inl (Y 0, 40, .inl x_kind)), (qx 5, .inl (Y 0, 40, .inl x_figure)), (qx 6, .inl (Y 0, 40, .inl x_low)), (qx 7, .inl (Y 0, 40, .inl x_high)), (qx 10, .inl (Y 1, 28672, .inr (.inl x_table))), (qx 11, .inl (Y 1, 7, .inr (.inl x_count))), (qx 12, .inl (Y 0, 144, .inl x_heavy))] s.heap.size [(qx 0, oX9 qx x_points x_lines x_tide x_isKept o_x_isMuch x_sum x_once x_twice x_isTermMuch x_nodes x_newMany o_x_isTooGreat x_come x_foundSet), (qx 4, .inl (Y 0, 40, .inl x_kind)), (qx 5, .inl (Y 0, 40, .inl x_figure)), (qx 6, .inl (Y 0, 40, .inl x_low)), (qx 7, .inl (Y 0, 40, .inl x_high)), (qx 10, .inl (Y 1, 28672, .inr (.inl o_x_table))), (qx 11, .inl (Y 1, 7, .inr (.inl o_x_count))), (qx 12, .inl (Y 0, 144, .inl o_x_heavy))]) A) [.ref (qx 0), .int p1, .int p2, .int p3, .int p4].toArray s 0 0 A) (F0 m 140 ls [.int y0, .int y1]) := by
        intro b_x_table b_x_count b_x_heavy b_x_isMuch b_x_isTooGreat x6 x7 x8 x9 y0 y1 hf H locs hP hD hS ls hl
        unfold f_X9_changes_b140 at hf
        refine lv_iadd hx hb dX9_changes_140 ?_
        refine lv_topi (fun v1 e_v1 => ?_)
        have hf := nm_at hf e_v1
        refine lv_istore (lv' := [(5, .int v1), (0, .ref (qx 0)), (1, .int p1), (2, .int p2), (4, .int p4), (6, .int x6), (7, .int x7), (8, .int x8), (9, .int x9)]) hx hb dX9_changes_141 hl (by decide) rfl (fun ls hl => ?_)
        refine lv_iload hx hb dX9_changes_143 (lv_at hl 8 rfl) ?_
        refine lv_if_ne (tgt := 153) hx hb dX9_changes_145 (by decide) (fun c2 => ?_) (fun c2 => ?_)
        · have hf := ie hf c2
          refine lv_iload hx hb dX9_changes_153 (lv_at hl 8 rfl) ?_
          refine lv_istore (lv' := [(6, .int x9), (5, .int v1), (0, .ref (qx 0)), (1, .int p1), (2, .int p2), (4, .int p4), (7, .int x7), (8, .int x8), (9, .int x9)]) hx hb dX9_changes_155 hl (by decide) rfl (fun ls hl => ?_)
          obtain ⟨v3, e_v3⟩ : ∃ z : Int32, z = (x8 + 1) := ⟨_, rfl⟩
          have hf := nm_at hf e_v3
          refine lv_iinc (v := v3) (lv' := [(8, .int v3), (6, .int x9), (5, .int v1), (0, .ref (qx 0)), (1, .int p1), (2, .int p2), (4, .int p4), (7, .int x7), (9, .int x9)]) hx hb dX9_changes_157 hl (k := 7) rfl (by rw [e_v3]; rfl) (by decide) rfl (fun ls hl => ?_)
          refine lv_goto (tgt := 77) hx hb dX9_changes_160 (by decide) ?_
          exact ih77 b_x_table b_x_count b_x_heavy b_x_isMuch b_x_isTooGreat v1 x9 x7 v3 hf _ _ hP hD hS ls (lv_sub hl [3, 4, 5, 6, 2, 1, 7, 0] rfl)
        · have hf := it hf c2
          refine lv_iload hx hb dX9_changes_148 (lv_at hl 5 rfl) ?_
          refine lv_goto (tgt := 155) hx hb dX9_changes_150 (by decide) ?_
          refine lv_istore (lv' := [(6, .int x6), (5, .int v1), (0, .ref (qx 0)), (1, .int p1), (2, .int p2), (4, .int p4), (7, .int x7), (8, .int x8), (9, .int x9)]) hx hb dX9_changes_155 hl (by decide) rfl (fun ls hl => ?_)
          obtain ⟨v4, e_v4⟩ : ∃ z : Int32, z = (x8 + 1) := ⟨_, rfl⟩
          have hf := nm_at hf e_v4
          refine lv_iinc (v := v4) (lv' := [(8, .int v4), (6, .int x6), (5, .int v1), (0, .ref (qx 0)), (1, .int p1), (2, .int p2), (4, .int p4), (7, .int x7), (9, .int x9)]) hx hb dX9_changes_157 hl (k := 7) rfl (by rw [e_v4]; rfl) (by decide) rfl (fun ls hl => ?_)
          refine lv_goto (tgt := 77) hx hb dX9_changes_160 (by decide) ?_
          exact ih77 b_x_table b_x_count b_x_heavy b_x_isMuch b_x_isTooGreat v1 x6 x7 v4 hf _ _ hP hD hS ls (lv_sub hl [3, 4, 5, 6, 2, 1, 7, 0] rfl)
      have B139 : ∀ (b_x_table : Nat → Int64) (b_x_count : Nat → Int64) (b_x_heavy : Nat → Int32) (b_x_isMuch : Int32) (b_x_isTooGreat : Int32) (x6 : Int32) (x7 : Int32) (x8 : Int32) (x9 : Int32) (y0 : Int32), f_X9_changes_b139 x_points x_lines x_tide x_kind x_figure x_low x_high p1 p2 p3 p4 (f_X9_changes_b77 x_points x_lines x_tide x_kind x_figure x_low x_high p1 p2 p3 p4 n77) b_x_table b_x_count b_x_heavy b_x_isMuch b_x_isTooGreat x6 x7 x8 x9 y0 = some (rv, o_x_table, o_x_count, o_x_heavy, o_x_isMuch, o_x_isTooGreat) → ∀ (H : Heap) (locs : List Loc), va_P G vwCl [(qx 0, oX9 qx x_points x_lines x_tide x_isKept b_x_isMuch x_sum x_once x_twice x_isTermMuch x_nodes x_newMany b_x_isTooGreat x_come x_foundSet), (qx 4, .inl (Y 0, 40, .inl x_kind)), (qx 5, .inl (Y 0, 40, .inl x_figure)), (qx 6, .inl (Y 0, 40, .inl x_low)), (qx 7, .inl (Y 0, 40, .inl x_high)), (qx 10, .inl (Y 1, 28672, .inr (.inl b_x_table))), (qx 11, .inl (Y 1, 7, .inr (.inl b_x_count))), (qx 12, .inl (Y 0, 144, .inl b_x_heavy))] H → va_D A [(qx 0, oX9 qx x_points x_lines x_tide x_isKept b_x_isMuch x_sum x_once x_twice x_isTermMuch x_nodes x_newMany b_x_isTooGreat x_come x_foundSet), (qx 4, .inl (Y 0, 40, .inl x_kind)), (qx 5, .inl (Y 0, 40, .inl x_figure)), (qx 6, .inl (Y 0, 40, .inl x_low)), (qx 7, .inl (Y 0, 40, .inl x_high)), (qx 10, .inl (Y 1, 28672, .inr (.inl b_x_table))), (qx 11, .inl (Y 1, 7, .inr (.inl b_x_count))), (qx 12, .inl (Y 0, 144, .inl b_x_heavy))] → va_S A s.heap H locs → ∀ (ls : Array Slot), lv_has ls 10 [(0, .ref (qx 0)), (1, .int p1), (2, .int p2), (4, .int p4), (6, .int x6), (7, .int x7), (8, .int x8), (9, .int x9)] → W p l e (headSpec wsX9_changes (rmk 4 94)).room s m [.ref (qx 0), .int p1, .int p2, .int p3, .int p4].toArray below meth c H locs 0 0 (MQ below (va_Qi (fun (r : Int32) (_ : Unit) => r = rv) (Pst G (tys Y) [(qx 0, oX9 qx x_points x_lines x_tide x_isKept x_isMuch x_sum x_once x_twice x_isTermMuch x_nodes x_newMany x_isTooGreat x_come x_foundSet), (qx 4, .inl (Y 0, 40, .inl x_kind)), (qx 5, .inl (Y 0, 40, .inl x_figure)), (qx 6, .inl (Y 0, 40, .inl x_low)), (qx 7, .inl (Y 0, 40, .inl x_high)), (qx 10, .inl (Y 1, 28672, .inr (.inl x_table))), (qx 11, .inl (Y 1, 7, .inr (.inl x_count))), (qx 12, .inl (Y 0, 144, .inl x_heavy))] s.heap.size [(qx 0, oX9 qx x_points x_lines x_tide x_isKept o_x_isMuch x_sum x_once x_twice x_isTermMuch x_nodes x_newMany o_x_isTooGreat x_come x_foundSet), (qx 4, .inl (Y 0, 40, .inl x_kind)), (qx 5, .inl (Y 0, 40, .inl x_figure)), (qx 6, .inl (Y 0, 40, .inl x_low)), (qx 7, .inl (Y 0, 40, .inl x_high)), (qx 10, .inl (Y 1, 28672, .inr (.inl o_x_table))), (qx 11, .inl (Y 1, 7, .inr (.inl o_x_count))), (qx 12, .inl (Y 0, 144, .inl o_x_heavy))]) A) [.ref (qx 0), .int p1, .int p2, .int p3, .int p4].toArray s 0 0 A) (F0 m 139 ls [.int y0]) := by
        intro b_x_table b_x_count b_x_heavy b_x_isMuch b_x_isTooGreat x6 x7 x8 x9 y0 hf H locs hP hD hS ls hl
        unfold f_X9_changes_b139 at hf
        refine lv_iconst (v := 0) hx hb dX9_changes_139 (by decide) ?_
        exact B140 b_x_table b_x_count b_x_heavy b_x_isMuch b_x_isTooGreat x6 x7 x8 x9 (0 : Int32) y0 hf _ _ hP hD hS ls (lv_sub hl [0, 1, 2, 3, 4, 5, 6, 7] rfl)
      have B118 : ∀ (b_x_table : Nat → Int64) (b_x_count : Nat → Int64) (b_x_heavy : Nat → Int32) (b_x_isMuch : Int32) (b_x_isTooGreat : Int32) (x5 : Int32) (x6 : Int32) (x8 : Int32) (x9 : Int32) (y0 : Int32), f_X9_changes_b118 x_points x_lines x_tide x_kind x_figure x_low x_high p1 p2 p3 p4 (f_X9_changes_b77 x_points x_lines x_tide x_kind x_figure x_low x_high p1 p2 p3 p4 n77) b_x_table b_x_count b_x_heavy b_x_isMuch b_x_isTooGreat x5 x6 x8 x9 y0 = some (rv, o_x_table, o_x_count, o_x_heavy, o_x_isMuch, o_x_isTooGreat) → ∀ (H : Heap) (locs : List Loc), va_P G vwCl [(qx 0, oX9 qx x_points x_lines x_tide x_isKept b_x_isMuch x_sum x_once x_twice x_isTermMuch x_nodes x_newMany b_x_isTooGreat x_come x_foundSet), (qx 4, .inl (Y 0, 40, .inl x_kind)), (qx 5, .inl (Y 0, 40, .inl x_figure)), (qx 6, .inl (Y 0, 40, .inl x_low)), (qx 7, .inl (Y 0, 40, .inl x_high)), (qx 10, .inl (Y 1, 28672, .inr (.inl b_x_table))), (qx 11, .inl (Y 1, 7, .inr (.inl b_x_count))), (qx 12, .inl (Y 0, 144, .inl b_x_heavy))] H → va_D A [(qx 0, oX9 qx x_points x_lines x_tide x_isKept b_x_isMuch x_sum x_once x_twice x_isTermMuch x_nodes x_newMany b_x_isTooGreat x_come x_foundSet), (qx 4, .inl (Y 0, 40, .inl x_kind)), (qx 5, .inl (Y 0, 40, .inl x_figure)), (qx 6, .inl (Y 0, 40, .inl x_low)), (qx 7, .inl (Y 0, 40, .inl x_high)), (qx 10, .inl (Y 1, 28672, .inr (.inl b_x_table))), (qx 11, .inl (Y 1, 7, .inr (.inl b_x_count))), (qx 12, .inl (Y 0, 144, .inl b_x_heavy))] → va_S A s.heap H locs → ∀ (ls : Array Slot), lv_has ls 10 [(0, .ref (qx 0)), (1, .int p1), (2, .int p2), (4, .int p4), (5, .int x5), (6, .int x6), (8, .int x8), (9, .int x9)] → W p l e (headSpec wsX9_changes (rmk 4 94)).room s m [.ref (qx 0), .int p1, .int p2, .int p3, .int p4].toArray below meth c H locs 0 0 (MQ below (va_Qi (fun (r : Int32) (_ : Unit) => r = rv) (Pst G (tys Y) [(qx 0, oX9 qx x_points x_lines x_tide x_isKept x_isMuch x_sum x_once x_twice x_isTermMuch x_nodes x_newMany x_isTooGreat x_come x_foundSet), (qx 4, .inl (Y 0, 40, .inl x_kind)), (qx 5, .inl (Y 0, 40, .inl x_figure)), (qx 6, .inl (Y 0, 40, .inl x_low)), (qx 7, .inl (Y 0, 40, .inl x_high)), (qx 10, .inl (Y 1, 28672, .inr (.inl x_table))), (qx 11, .inl (Y 1, 7, .inr (.inl x_count))), (qx 12, .inl (Y 0, 144, .inl x_heavy))] s.heap.size [(qx 0, oX9 qx x_points x_lines x_tide x_isKept o_x_isMuch x_sum x_once x_twice x_isTermMuch x_nodes x_newMany o_x_isTooGreat x_come x_foundSet), (qx 4, .inl (Y 0, 40, .inl x_kind)), (qx 5, .inl (Y 0, 40, .inl x_figure)), (qx 6, .inl (Y 0, 40, .inl x_low)), (qx 7, .inl (Y 0, 40, .inl x_high)), (qx 10, .inl (Y 1, 28672, .inr (.inl o_x_table))), (qx 11, .inl (Y 1, 7, .inr (.inl o_x_count))), (qx 12, .inl (Y 0, 144, .inl o_x_heavy))]) A) [.ref (qx 0), .int p1, .int p2, .int p3, .int p4].toArray s 0 0 A) (F0 m 118 ls [.int y0]) := by
        intro b_x_table b_x_count b_x_heavy b_x_isMuch b_x_isTooGreat x5 x6 x8 x9 y0 hf H locs hP hD hS ls hl
        unfold f_X9_changes_b118 at hf
        refine lv_istore (lv' := [(7, .int y0), (0, .ref (qx 0)), (1, .int p1), (2, .int p2), (4, .int p4), (5, .int x5), (6, .int x6), (8, .int x8), (9, .int x9)]) hx hb dX9_changes_118 hl (by decide) rfl (fun ls hl => ?_)
        refine lv_iload hx hb dX9_changes_120 (lv_at hl 5 rfl) ?_
        refine lv_iload hx hb dX9_changes_122 (lv_at hl 8 rfl) ?_
        refine lv_iload hx hb dX9_changes_124 (lv_at hl 6 rfl) ?_
        refine lv_imul hx hb dX9_changes_126 ?_
        refine lv_if_ge (tgt := 139) hx hb dX9_changes_127 (by decide) (fun c5 => ?_) (fun c5 => ?_)
        · have hf := it hf c5
          exact B139 b_x_table b_x_count b_x_heavy b_x_isMuch b_x_isTooGreat x6 y0 x8 x9 x5 hf _ _ hP hD hS ls (lv_sub hl [1, 2, 3, 4, 6, 0, 7, 8] rfl)
        · have hf := ie hf c5
          refine lv_iload hx hb dX9_changes_130 (lv_at hl 0 rfl) ?_
          refine lv_if_ne (tgt := 139) hx hb dX9_changes_132 (by decide) (fun c6 => ?_) (fun c6 => ?_)
          · have hf := ie hf c6
            exact B139 b_x_table b_x_count b_x_heavy b_x_isMuch b_x_isTooGreat x6 y0 x8 x9 x5 hf _ _ hP hD hS ls (lv_sub hl [1, 2, 3, 4, 6, 0, 7, 8] rfl)
          · have hf := it hf c6
            refine lv_iconst (v := 1) hx hb dX9_changes_135 (by decide) ?_
            refine lv_goto (tgt := 140) hx hb dX9_changes_136 (by decide) ?_
            exact B140 b_x_table b_x_count b_x_heavy b_x_isMuch b_x_isTooGreat x6 y0 x8 x9 (1 : Int32) x5 hf _ _ hP hD hS ls (lv_sub hl [1, 2, 3, 4, 6, 0, 7, 8] rfl)
      intro b_x_table b_x_count b_x_heavy b_x_isMuch b_x_isTooGreat x5 x6 x7 x8 hf H locs hP hD hS ls hl
      have hf : f_X9_changes_s77 x_points x_lines x_tide x_kind x_figure x_low x_high p1 p2 p3 p4 (f_X9_changes_b77 x_points x_lines x_tide x_kind x_figure x_low x_high p1 p2 p3 p4  n77) b_x_table b_x_count b_x_heavy b_x_isMuch b_x_isTooGreat x5 x6 x7 x8 = some (rv, o_x_table, o_x_count, o_x_heavy, o_x_isMuch, o_x_isTooGreat) := hf
      unfold f_X9_changes_s77 at hf
      refine lv_iload hx hb dX9_changes_77 (lv_at hl 7 rfl) ?_
      refine lv_iload hx hb dX9_changes_79 (lv_at hl 3 rfl) ?_
      refine lv_icmp_gt (tgt := 163) hx hb dX9_changes_81 (by decide) (fun c7 => ?_) (fun c7 => ?_)
      · have hf := it hf c7
        refine lv_iload hx hb dX9_changes_163 (lv_at hl 6 rfl) ?_
        refine lv_if_eq (tgt := 173) hx hb dX9_changes_165 (by decide) (fun c8 => ?_) (fun c8 => ?_)
        · have hf := it hf c8
          refine lv_iload hx hb dX9_changes_173 (lv_at hl 4 rfl) ?_
          obtain ⟨e0, e1, e2, e3, e4, e5⟩ := rt6 hf
          have hP : va_P G vwCl [(qx 0, oX9 qx x_points x_lines x_tide x_isKept o_x_isMuch x_sum x_once x_twice x_isTermMuch x_nodes x_newMany o_x_isTooGreat x_come x_foundSet), (qx 4, .inl (Y 0, 40, .inl x_kind)), (qx 5, .inl (Y 0, 40, .inl x_figure)), (qx 6, .inl (Y 0, 40, .inl x_low)), (qx 7, .inl (Y 0, 40, .inl x_high)), (qx 10, .inl (Y 1, 28672, .inr (.inl o_x_table))), (qx 11, .inl (Y 1, 7, .inr (.inl o_x_count))), (qx 12, .inl (Y 0, 144, .inl o_x_heavy))] H := by rw [← e1, ← e2, ← e3, ← e4, ← e5]; exact hP
          have hD : va_D A [(qx 0, oX9 qx x_points x_lines x_tide x_isKept o_x_isMuch x_sum x_once x_twice x_isTermMuch x_nodes x_newMany o_x_isTooGreat x_come x_foundSet), (qx 4, .inl (Y 0, 40, .inl x_kind)), (qx 5, .inl (Y 0, 40, .inl x_figure)), (qx 6, .inl (Y 0, 40, .inl x_low)), (qx 7, .inl (Y 0, 40, .inl x_high)), (qx 10, .inl (Y 1, 28672, .inr (.inl o_x_table))), (qx 11, .inl (Y 1, 7, .inr (.inl o_x_count))), (qx 12, .inl (Y 0, 144, .inl o_x_heavy))] := by rw [← e1, ← e2, ← e3, ← e4, ← e5]; exact hD
          exact W.iret (v := x5) hx hb hr (fun t ht hW => ⟨⟨x5, (), rfl, e0, by rw [ht]; exact hP, va_K.moved hW.alike hK, by rw [hAe]; exact hD⟩, hS.F ht⟩) hS.2.2 dX9_changes_175
        · have hf := ie hf c8
          refine lv_bipush (v := -5) hx hb dX9_changes_168 (by decide) ?_
          refine lv_goto (tgt := 175) hx hb dX9_changes_170 (by decide) ?_
          obtain ⟨e0, e1, e2, e3, e4, e5⟩ := rt6 hf
          have hP : va_P G vwCl [(qx 0, oX9 qx x_points x_lines x_tide x_isKept o_x_isMuch x_sum x_once x_twice x_isTermMuch x_nodes x_newMany o_x_isTooGreat x_come x_foundSet), (qx 4, .inl (Y 0, 40, .inl x_kind)), (qx 5, .inl (Y 0, 40, .inl x_figure)), (qx 6, .inl (Y 0, 40, .inl x_low)), (qx 7, .inl (Y 0, 40, .inl x_high)), (qx 10, .inl (Y 1, 28672, .inr (.inl o_x_table))), (qx 11, .inl (Y 1, 7, .inr (.inl o_x_count))), (qx 12, .inl (Y 0, 144, .inl o_x_heavy))] H := by rw [← e1, ← e2, ← e3, ← e4, ← e5]; exact hP
          have hD : va_D A [(qx 0, oX9 qx x_points x_lines x_tide x_isKept o_x_isMuch x_sum x_once x_twice x_isTermMuch x_nodes x_newMany o_x_isTooGreat x_come x_foundSet), (qx 4, .inl (Y 0, 40, .inl x_kind)), (qx 5, .inl (Y 0, 40, .inl x_figure)), (qx 6, .inl (Y 0, 40, .inl x_low)), (qx 7, .inl (Y 0, 40, .inl x_high)), (qx 10, .inl (Y 1, 28672, .inr (.inl o_x_table))), (qx 11, .inl (Y 1, 7, .inr (.inl o_x_count))), (qx 12, .inl (Y 0, 144, .inl o_x_heavy))] := by rw [← e1, ← e2, ← e3, ← e4, ← e5]; exact hD
          exact W.iret (v := (-5 : Int32)) hx hb hr (fun t ht hW => ⟨⟨(-5 : Int32), (), rfl, e0, by rw [ht]; exact hP, va_K.moved hW.alike hK, by rw [hAe]; exact hD⟩, hS.F ht⟩) hS.2.2 dX9_changes_175
      · have hf := ie hf c7
        refine lv_iload hx hb dX9_changes_84 (lv_at hl 6 rfl) ?_
        refine lv_if_ne (tgt := 163) hx hb dX9_changes_86 (by decide) (fun c9 => ?_) (fun c9 => ?_)
        · have hf := ie hf c9
          refine lv_iload hx hb dX9_changes_163 (lv_at hl 6 rfl) ?_
          refine lv_if_eq (tgt := 173) hx hb dX9_changes_165 (by decide) (fun c10 => ?_) (fun c10 => ?_)
          · have hf := it hf c10
            refine lv_iload hx hb dX9_changes_173 (lv_at hl 4 rfl) ?_
            obtain ⟨e0, e1, e2, e3, e4, e5⟩ := rt6 hf
            have hP : va_P G vwCl [(qx 0, oX9 qx x_points x_lines x_tide x_isKept o_x_isMuch x_sum x_once x_twice x_isTermMuch x_nodes x_newMany o_x_isTooGreat x_come x_foundSet), (qx 4, .inl (Y 0, 40, .inl x_kind)), (qx 5, .inl (Y 0, 40, .inl x_figure)), (qx 6, .inl (Y 0, 40, .inl x_low)), (qx 7, .inl (Y 0, 40, .inl x_high)), (qx 10, .inl (Y 1, 28672, .inr (.inl o_x_table))), (qx 11, .inl (Y 1, 7, .inr (.inl o_x_count))), (qx 12, .inl (Y 0, 144, .inl o_x_heavy))] H := by rw [← e1, ← e2, ← e3, ← e4, ← e5]; exact hP
            have hD : va_D A [(qx 0, oX9 qx x_points x_lines x_tide x_isKept o_x_isMuch x_sum x_once x_twice x_isTermMuch x_nodes x_newMany o_x_isTooGreat x_come x_foundSet), (qx 4, .inl (Y 0, 40, .inl x_kind)), (qx 5, .inl (Y 0, 40, .inl x_figure)), (qx 6, .inl (Y 0, 40, .inl x_low)), (qx 7, .inl (Y 0, 40, .inl x_high)), (qx 10, .inl (Y 1, 28672, .inr (.inl o_x_table))), (qx 11, .inl (Y 1, 7, .inr (.inl o_x_count))), (qx 12, .inl (Y 0, 144, .inl o_x_heavy))] := by rw [← e1, ← e2, ← e3, ← e4, ← e5]; exact hD
            exact W.iret (v := x5) hx hb hr (fun t ht hW => ⟨⟨x5, (), rfl, e0, by rw [ht]; exact hP, va_K.moved hW.alike hK, by rw [hAe]; exact hD⟩, hS.F ht⟩) hS.2.2 dX9_changes_175
          · have hf := ie hf c10
            refine lv_bipush (v := -5) hx hb dX9_changes_168 (by decide) ?_
            refine lv_goto (tgt := 175) hx hb dX9_changes_170 (by decide) ?_
            obtain ⟨e0, e1, e2, e3, e4, e5⟩ := rt6 hf
            have hP : va_P G vwCl [(qx 0, oX9 qx x_points x_lines x_tide x_isKept o_x_isMuch x_sum x_once x_twice x_isTermMuch x_nodes x_newMany o_x_isTooGreat x_come x_foundSet), (qx 4, .inl (Y 0, 40, .inl x_kind)), (qx 5, .inl (Y 0, 40, .inl x_figure)), (qx 6, .inl (Y 0, 40, .inl x_low)), (qx 7, .inl (Y 0, 40, .inl x_high)), (qx 10, .inl (Y 1, 28672, .inr (.inl o_x_table))), (qx 11, .inl (Y 1, 7, .inr (.inl o_x_count))), (qx 12, .inl (Y 0, 144, .inl o_x_heavy))] H := by rw [← e1, ← e2, ← e3, ← e4, ← e5]; exact hP
            have hD : va_D A [(qx 0, oX9 qx x_points x_lines x_tide x_isKept o_x_isMuch x_sum x_once x_twice x_isTermMuch x_nodes x_newMany o_x_isTooGreat x_come x_foundSet), (qx 4, .inl (Y 0, 40, .inl x_kind)), (qx 5, .inl (Y 0, 40, .inl x_figure)), (qx 6, .inl (Y 0, 40, .inl x_low)), (qx 7, .inl (Y 0, 40, .inl x_high)), (qx 10, .inl (Y 1, 28672, .inr (.inl o_x_table))), (qx 11, .inl (Y 1, 7, .inr (.inl o_x_count))), (qx 12, .inl (Y 0, 144, .inl o_x_heavy))] := by rw [← e1, ← e2, ← e3, ← e4, ← e5]; exact hD
            exact W.iret (v := (-5 : Int32)) hx hb hr (fun t ht hW => ⟨⟨(-5 : Int32), (), rfl, e0, by rw [ht]; exact hP, va_K.moved hW.alike hK, by rw [hAe]; exact hD⟩, hS.F ht⟩) hS.2.2 dX9_changes_175
        · have hf := it hf c9
          refine lv_aload_n hx hb dX9_changes_89 rfl (lv_at hl 0 rfl) ?_
          refine lv_aload_n hx hb dX9_changes_90 rfl (lv_at hl 0 rfl) ?_
          refine lv_iload_n hx hb dX9_changes_91 rfl (lv_at hl 1 rfl) ?_
          obtain ⟨r11, hc, hf⟩ := bd1 hf
          refine cl_i (ws' := [(qx 0, oX9 qx x_points x_lines x_tide x_isKept b_x_isMuch x_sum x_once x_twice x_isTermMuch x_nodes x_newMany b_x_isTooGreat x_come x_foundSet), (qx 4, .inl (Y 0, 40, .inl x_kind)), (qx 5, .inl (Y 0, 40, .inl x_figure)), (qx 6, .inl (Y 0, 40, .inl x_low)), (qx 7, .inl (Y 0, 40, .inl x_high)), (qx 10, .inl (Y 1, 28672, .inr (.inl b_x_table))), (qx 11, .inl (Y 1, 7, .inr (.inl b_x_count))), (qx 12, .inl (Y 0, 144, .inl b_x_heavy))]) (wr := [(qx 4, .inl (Y 0, 40, .inl x_kind)), (qx 5, .inl (Y 0, 40, .inl x_figure)), (qx 6, .inl (Y 0, 40, .inl x_low)), (qx 7, .inl (Y 0, 40, .inl x_high)), (qx 10, .inl (Y 1, 28672, .inr (.inl b_x_table))), (qx 11, .inl (Y 1, 7, .inr (.inl b_x_count))), (qx 12, .inl (Y 0, 144, .inl b_x_heavy))]) (rnV (As := [.int p1]) (rest := [.ref (qx 0)]) ⟨hx, hb, hml, hown, hts⟩ (c_X9_free l G Y H.size qx x_points x_lines x_tide x_isKept b_x_isMuch x_sum x_once x_twice x_isTermMuch x_nodes x_newMany b_x_isTooGreat x_come x_foundSet p1 r11 hc) (cwV 1 hts gX9_changes_X9_free rfl rfl rfl (by decide +kernel) ⟨(Nat.le_of_ble_eq_true rfl), (Nat.le_of_ble_eq_true rfl)⟩) trivial okT hK hP hD [0] rfl rfl (ci := 7) (q0 := 0) rfl rfl rfl rfl hl.1 rfl (Nat.le_of_ble_eq_true rfl) dX9_changes_92) hP hD hS hA [0] [1, 2, 3, 4, 5, 6, 7] [7, 0, 1, 2, 3, 4, 5, 6] rfl rfl rfl (by decide) rfl rfl (fun H locs hP hD hS => ?_)
          obtain ⟨r12, hc, hf⟩ := bd1 hf
          refine cl_i (ws' := [(qx 0, oX9 qx x_points x_lines x_tide x_isKept b_x_isMuch x_sum x_once x_twice x_isTermMuch x_nodes x_newMany b_x_isTooGreat x_come x_foundSet), (qx 4, .inl (Y 0, 40, .inl x_kind)), (qx 5, .inl (Y 0, 40, .inl x_figure)), (qx 6, .inl (Y 0, 40, .inl x_low)), (qx 7, .inl (Y 0, 40, .inl x_high)), (qx 10, .inl (Y 1, 28672, .inr (.inl b_x_table))), (qx 11, .inl (Y 1, 7, .inr (.inl b_x_count))), (qx 12, .inl (Y 0, 144, .inl b_x_heavy))]) (wr := [(qx 0, oX9 qx x_points x_lines x_tide x_isKept b_x_isMuch x_sum x_once x_twice x_isTermMuch x_nodes x_newMany b_x_isTooGreat x_come x_foundSet), (qx 4, .inl (Y 0, 40, .inl x_kind)), (qx 5, .inl (Y 0, 40, .inl x_figure)), (qx 6, .inl (Y 0, 40, .inl x_low)), (qx 7, .inl (Y 0, 40, .inl x_high)), (qx 10, .inl (Y 1, 28672, .inr (.inl b_x_table))), (qx 11, .inl (Y 1, 7, .inr (.inl b_x_count))), (qx 12, .inl (Y 0, 144, .inl b_x_heavy))]) (rnS (As := [.int r11]) (rest := [.ref (qx 0)]) ⟨hx, hb, hml, hown, hts⟩ (c_X9_many l G Y H.size r11 r12 hc) (va_cwS 1 hts gX9_changes_X9_many rfl rfl rfl (by decide +kernel) ⟨(Nat.le_of_ble_eq_true rfl), (Nat.le_of_ble_eq_true rfl)⟩) trivial okT hK hP hD [] rfl rfl rfl hl.1 rfl (Nat.le_of_ble_eq_true rfl) dX9_changes_95) hP hD hS hA [] [0, 1, 2, 3, 4, 5, 6, 7] [0, 1, 2, 3, 4, 5, 6, 7] rfl rfl rfl (by decide) rfl rfl (fun H locs hP hD hS => ?_)
          refine lv_iload hx hb dX9_changes_98 (lv_at hl 7 rfl) ?_
          refine lv_iload_n hx hb dX9_changes_100 rfl (lv_at hl 2 rfl) ?_
          obtain ⟨r13, w14, hc, hf⟩ := bd2 hf
          refine cl_i (ws' := [(qx 0, oX9 qx x_points x_lines x_tide x_isKept b_x_isMuch x_sum x_once x_twice x_isTermMuch x_nodes x_newMany w14 x_come x_foundSet), (qx 4, .inl (Y 0, 40, .inl x_kind)), (qx 5, .inl (Y 0, 40, .inl x_figure)), (qx 6, .inl (Y 0, 40, .inl x_low)), (qx 7, .inl (Y 0, 40, .inl x_high)), (qx 10, .inl (Y 1, 28672, .inr (.inl b_x_table))), (qx 11, .inl (Y 1, 7, .inr (.inl b_x_count))), (qx 12, .inl (Y 0, 144, .inl b_x_heavy))]) (wr := [(qx 4, .inl (Y 0, 40, .inl x_kind)), (qx 5, .inl (Y 0, 40, .inl x_figure)), (qx 6, .inl (Y 0, 40, .inl x_low)), (qx 7, .inl (Y 0, 40, .inl x_high)), (qx 10, .inl (Y 1, 28672, .inr (.inl b_x_table))), (qx 12, .inl (Y 0, 144, .inl b_x_heavy))]) (rnV (As := [.int r12, .int x8, .int p2]) (rest := []) ⟨hx, hb, hml, hown, hts⟩ (c_X9_signAt l G Y H.size qx x_points x_lines x_tide x_isKept b_x_count b_x_isMuch x_sum x_once x_twice x_isTermMuch x_nodes x_newMany b_x_isTooGreat x_come x_foundSet r12 x8 p2 r13 w14 hc) (cwV 3 hts gX9_changes_X9_signAt rfl rfl rfl (by decide +kernel) ⟨(Nat.le_of_ble_eq_true rfl), (Nat.le_of_ble_eq_true rfl)⟩) trivial okT hK hP hD [0, 6] rfl rfl (ci := 7) (q0 := 0) rfl rfl rfl rfl hl.1 rfl (Nat.le_of_ble_eq_true rfl) dX9_changes_101) hP hD hS hA [0, 6] [1, 2, 3, 4, 5, 7] [6, 0, 1, 2, 3, 4, 7, 5] rfl rfl rfl (by decide) rfl rfl (fun H locs hP hD hS => ?_)
          refine lv_istore (lv' := [(9, .int r13), (0, .ref (qx 0)), (1, .int p1), (2, .int p2), (4, .int p4), (5, .int x5), (6, .int x6), (7, .int x7), (8, .int x8)]) hx hb dX9_changes_104 hl (by decide) rfl (fun ls hl => ?_)
          refine lv_iload hx hb dX9_changes_106 (lv_at hl 0 rfl) ?_
          refine lv_bipush (v := -5) hx hb dX9_changes_108 (by decide) ?_
          refine lv_icmp_ne (tgt := 117) hx hb dX9_changes_110 (by decide) (fun c15 => ?_) (fun c15 => ?_)
          · have hf := ie hf c15
            refine lv_iconst (v := 0) hx hb dX9_changes_117 (by decide) ?_
            exact B118 b_x_table b_x_count b_x_heavy b_x_isMuch w14 x5 x6 x8 r13 (0 : Int32) hf _ _ hP hD hS ls (lv_sub hl [1, 2, 3, 4, 5, 6, 8, 0] rfl)
          · have hf := it hf c15
            refine lv_iconst (v := 1) hx hb dX9_changes_113 (by decide) ?_
            refine lv_goto (tgt := 118) hx hb dX9_changes_114 (by decide) ?_
            exact B118 b_x_table b_x_count b_x_heavy b_x_isMuch w14 x5 x6 x8 r13 (1 : Int32) hf _ _ hP hD hS ls (lv_sub hl [1, 2, 3, 4, 5, 6, 8, 0] rfl)
  have E0 : ∀ (H : Heap) (locs : List Loc), va_P G vwCl [(qx 0, oX9 qx x_points x_lines x_tide x_isKept x_isMuch x_sum x_once x_twice x_isTermMuch x_nodes x_newMany x_isTooGreat x_come x_foundSet), (qx 4, .inl (Y 0, 40, .inl x_kind)), (qx 5, .inl (Y 0, 40, .inl x_figure)), (qx 6, .inl (Y 0, 40, .inl x_low)), (qx 7, .inl (Y 0, 40, .inl x_high)), (qx 10, .inl (Y 1, 28672, .inr (.inl x_table))), (qx 11, .inl (Y 1, 7, .inr (.inl x_count))), (qx 12, .inl (Y 0, 144, .inl x_heavy))] H → va_D A [(qx 0, oX9 qx x_points x_lines x_tide x_isKept x_isMuch x_sum x_once x_twice x_isTermMuch x_nodes x_newMany x_isTooGreat x_come x_foundSet), (qx 4, .inl (Y 0, 40, .inl x_kind)), (qx 5, .inl (Y 0, 40, .inl x_figure)), (qx 6, .inl (Y 0, 40, .inl x_low)), (qx 7, .inl (Y 0, 40, .inl x_high)), (qx 10, .inl (Y 1, 28672, .inr (.inl x_table))), (qx 11, .inl (Y 1, 7, .inr (.inl x_count))), (qx 12, .inl (Y 0, 144, .inl x_heavy))] → va_S A s.heap H locs → ∀ (ls : Array Slot), lv_has ls 10 [(0, .ref (qx 0)), (1, .int p1), (2, .int p2), (3, .int p3), (4, .int p4)] → W p l e (headSpec wsX9_changes (rmk 4 94)).room s m [.ref (qx 0), .int p1, .int p2, .int p3, .int p4].toArray below meth c H locs 0 0 (MQ below (va_Qi (fun (r : Int32) (_ : Unit) => r = rv) (Pst G (tys Y) [(qx 0, oX9 qx x_points x_lines x_tide x_isKept x_isMuch x_sum x_once x_twice x_isTermMuch x_nodes x_newMany x_isTooGreat x_come x_foundSet), (qx 4, .inl (Y 0, 40, .inl x_kind)), (qx 5, .inl (Y 0, 40, .inl x_figure)), (qx 6, .inl (Y 0, 40, .inl x_low)), (qx 7, .inl (Y 0, 40, .inl x_high)), (qx 10, .inl (Y 1, 28672, .inr (.inl x_table))), (qx 11, .inl (Y 1, 7, .inr (.inl x_count))), (qx 12, .inl (Y 0, 144, .inl x_heavy))] s.heap.size [(qx 0, oX9 qx x_points x_lines x_tide x_isKept o_x_isMuch x_sum x_once x_twice x_isTermMuch x_nodes x_newMany o_x_isTooGreat x_come x_foundSet), (qx 4, .inl (Y 0, 40, .inl x_kind)), (qx 5, .inl (Y 0, 40, .inl x_figure)), (qx 6, .inl (Y 0, 40, .inl x_low)), (qx 7, .inl (Y 0, 40, .inl x_high)), (qx 10, .inl (Y 1, 28672, .inr (.inl o_x_table))), (qx 11, .inl (Y 1, 7, .inr (.inl o_x_count))), (qx 12, .inl (Y 0, 144, .inl o_x_heavy))]) A) [.ref (qx 0), .int p1, .int p2, .int p3, .int p4].toArray s 0 0 A) (F0 m 0 ls []) := by
    intro H locs hP hD hS ls hl
    unfold f_X9_changes at hf
    refine lv_iload_n hx hb dX9_changes_0 rfl (lv_at hl 1 rfl) ?_
    obtain ⟨r16, hc, hf⟩ := bd1 hf
    refine cl_i (ws' := [(qx 0, oX9 qx x_points x_lines x_tide x_isKept x_isMuch x_sum x_once x_twice x_isTermMuch x_nodes x_newMany x_isTooGreat x_come x_foundSet), (qx 4, .inl (Y 0, 40, .inl x_kind)), (qx 5, .inl (Y 0, 40, .inl x_figure)), (qx 6, .inl (Y 0, 40, .inl x_low)), (qx 7, .inl (Y 0, 40, .inl x_high)), (qx 10, .inl (Y 1, 28672, .inr (.inl x_table))), (qx 11, .inl (Y 1, 7, .inr (.inl x_count))), (qx 12, .inl (Y 0, 144, .inl x_heavy))]) (wr := [(qx 0, oX9 qx x_points x_lines x_tide x_isKept x_isMuch x_sum x_once x_twice x_isTermMuch x_nodes x_newMany x_isTooGreat x_come x_foundSet), (qx 4, .inl (Y 0, 40, .inl x_kind)), (qx 5, .inl (Y 0, 40, .inl x_figure)), (qx 6, .inl (Y 0, 40, .inl x_low)), (qx 7, .inl (Y 0, 40, .inl x_high)), (qx 10, .inl (Y 1, 28672, .inr (.inl x_table))), (qx 11, .inl (Y 1, 7, .inr (.inl x_count))), (qx 12, .inl (Y 0, 144, .inl x_heavy))]) (rnS (As := [.int p1]) (rest := []) ⟨hx, hb, hml, hown, hts⟩ (c_X9_isOut l G Y H.size p1 r16 hc) (va_cwS 1 hts gX9_changes_X9_isOut rfl rfl rfl (by decide +kernel) ⟨(Nat.le_of_ble_eq_true rfl), (Nat.le_of_ble_eq_true rfl)⟩) trivial okT hK hP hD [] rfl rfl rfl hl.1 rfl (Nat.le_of_ble_eq_true rfl) dX9_changes_1) hP hD hS hA [] [0, 1, 2, 3, 4, 5, 6, 7] [0, 1, 2, 3, 4, 5, 6, 7] rfl rfl rfl (by decide) rfl rfl (fun H locs hP hD hS => ?_)
    refine lv_if_eq (tgt := 54) hx hb dX9_changes_4 (by decide) (fun c17 => ?_) (fun c17 => ?_)
    · have hf := it hf c17
      refine lv_bipush (v := -2) hx hb dX9_changes_54 (by decide) ?_
      obtain ⟨e0, e1, e2, e3, e4, e5⟩ := rt6 hf
      have hP : va_P G vwCl [(qx 0, oX9 qx x_points x_lines x_tide x_isKept o_x_isMuch x_sum x_once x_twice x_isTermMuch x_nodes x_newMany o_x_isTooGreat x_come x_foundSet), (qx 4, .inl (Y 0, 40, .inl x_kind)), (qx 5, .inl (Y 0, 40, .inl x_figure)), (qx 6, .inl (Y 0, 40, .inl x_low)), (qx 7, .inl (Y 0, 40, .inl x_high)), (qx 10, .inl (Y 1, 28672, .inr (.inl o_x_table))), (qx 11, .inl (Y 1, 7, .inr (.inl o_x_count))), (qx 12, .inl (Y 0, 144, .inl o_x_heavy))] H := by rw [← e1, ← e2, ← e3, ← e4, ← e5]; exact hP
      have hD : va_D A [(qx 0, oX9 qx x_points x_lines x_tide x_isKept o_x_isMuch x_sum x_once x_twice x_isTermMuch x_nodes x_newMany o_x_isTooGreat x_come x_foundSet), (qx 4, .inl (Y 0, 40, .inl x_kind)), (qx 5, .inl (Y 0, 40, .inl x_figure)), (qx 6, .inl (Y 0, 40, .inl x_low)), (qx 7, .inl (Y 0, 40, .inl x_high)), (qx 10, .inl (Y 1, 28672, .inr (.inl o_x_table))), (qx 11, .inl (Y 1, 7, .inr (.inl o_x_count))), (qx 12, .inl (Y 0, 144, .inl o_x_heavy))] := by rw [← e1, ← e2, ← e3, ← e4, ← e5]; exact hD
      exact W.iret (v := (-2 : Int32)) hx hb hr (fun t ht hW => ⟨⟨(-2 : Int32), (), rfl, e0, by rw [ht]; exact hP, va_K.moved hW.alike hK, by rw [hAe]; exact hD⟩, hS.F ht⟩) hS.2.2 dX9_changes_56
    · have hf := ie hf c17
      refine lv_iload_n hx hb dX9_changes_7 rfl (lv_at hl 2 rfl) ?_
      refine lv_i2l hx hb dX9_changes_8 rfl ?_
      refine lv_lconst (v := 1) hx hb dX9_changes_9 (by decide) ?_
      refine lv_ldc2 hx hb hown wd1 dX9_changes_10 ?_
      obtain ⟨r18, hc, hf⟩ := bd1 hf
      refine cl_i (ws' := [(qx 0, oX9 qx x_points x_lines x_tide x_isKept x_isMuch x_sum x_once x_twice x_isTermMuch x_nodes x_newMany x_isTooGreat x_come x_foundSet), (qx 4, .inl (Y 0, 40, .inl x_kind)), (qx 5, .inl (Y 0, 40, .inl x_figure)), (qx 6, .inl (Y 0, 40, .inl x_low)), (qx 7, .inl (Y 0, 40, .inl x_high)), (qx 10, .inl (Y 1, 28672, .inr (.inl x_table))), (qx 11, .inl (Y 1, 7, .inr (.inl x_count))), (qx 12, .inl (Y 0, 144, .inl x_heavy))]) (wr := [(qx 0, oX9 qx x_points x_lines x_tide x_isKept x_isMuch x_sum x_once x_twice x_isTermMuch x_nodes x_newMany x_isTooGreat x_come x_foundSet), (qx 4, .inl (Y 0, 40, .inl x_kind)), (qx 5, .inl (Y 0, 40, .inl x_figure)), (qx 6, .inl (Y 0, 40, .inl x_low)), (qx 7, .inl (Y 0, 40, .inl x_high)), (qx 10, .inl (Y 1, 28672, .inr (.inl x_table))), (qx 11, .inl (Y 1, 7, .inr (.inl x_count))), (qx 12, .inl (Y 0, 144, .inl x_heavy))]) (rnS (As := [.long p2.toInt64, .long (1 : Int64), .long (6 : Int64)]) (rest := []) ⟨hx, hb, hml, hown, hts⟩ (c_X9_in l G Y H.size p2.toInt64 (1 : Int64) (6 : Int64) r18 hc) (va_cwS 3 hts gX9_changes_X9_in rfl rfl rfl (by decide +kernel) ⟨(Nat.le_of_ble_eq_true rfl), (Nat.le_of_ble_eq_true rfl)⟩) trivial okT hK hP hD [] rfl rfl rfl hl.1 rfl (Nat.le_of_ble_eq_true rfl) dX9_changes_13) hP hD hS hA [] [0, 1, 2, 3, 4, 5, 6, 7] [0, 1, 2, 3, 4, 5, 6, 7] rfl rfl rfl (by decide) rfl rfl (fun H locs hP hD hS => ?_)
      refine lv_if_eq (tgt := 54) hx hb dX9_changes_16 (by decide) (fun c19 => ?_) (fun c19 => ?_)
      · have hf := it hf c19
        refine lv_bipush (v := -2) hx hb dX9_changes_54 (by decide) ?_
        obtain ⟨e0, e1, e2, e3, e4, e5⟩ := rt6 hf
        have hP : va_P G vwCl [(qx 0, oX9 qx x_points x_lines x_tide x_isKept o_x_isMuch x_sum x_once x_twice x_isTermMuch x_nodes x_newMany o_x_isTooGreat x_come x_foundSet), (qx 4, .inl (Y 0, 40, .inl x_kind)), (qx 5, .inl (Y 0, 40, .inl x_figure)), (qx 6, .inl (Y 0, 40, .inl x_low)), (qx 7, .inl (Y 0, 40, .inl x_high)), (qx 10, .inl (Y 1, 28672, .inr (.inl o_x_table))), (qx 11, .inl (Y 1, 7, .inr (.inl o_x_count))), (qx 12, .inl (Y 0, 144, .inl o_x_heavy))] H := by rw [← e1, ← e2, ← e3, ← e4, ← e5]; exact hP
        have hD : va_D A [(qx 0, oX9 qx x_points x_lines x_tide x_isKept o_x_isMuch x_sum x_once x_twice x_isTermMuch x_nodes x_newMany o_x_isTooGreat x_come x_foundSet), (qx 4, .inl (Y 0, 40, .inl x_kind)), (qx 5, .inl (Y 0, 40, .inl x_figure)), (qx 6, .inl (Y 0, 40, .inl x_low)), (qx 7, .inl (Y 0, 40, .inl x_high)), (qx 10, .inl (Y 1, 28672, .inr (.inl o_x_table))), (qx 11, .inl (Y 1, 7, .inr (.inl o_x_count))), (qx 12, .inl (Y 0, 144, .inl o_x_heavy))] := by rw [← e1, ← e2, ← e3, ← e4, ← e5]; exact hD
        exact W.iret (v := (-2 : Int32)) hx hb hr (fun t ht hW => ⟨⟨(-2 : Int32), (), rfl, e0, by rw [ht]; exact hP, va_K.moved hW.alike hK, by rw [hAe]; exact hD⟩, hS.F ht⟩) hS.2.2 dX9_changes_56
      · have hf := ie hf c19
        refine lv_iload_n hx hb dX9_changes_19 rfl (lv_at hl 3 rfl) ?_
        refine lv_iload hx hb dX9_changes_20 (lv_at hl 4 rfl) ?_
        refine lv_icmp_gt (tgt := 54) hx hb dX9_changes_22 (by decide) (fun c20 => ?_) (fun c20 => ?_)
        · have hf := it hf c20
          refine lv_bipush (v := -2) hx hb dX9_changes_54 (by decide) ?_
          obtain ⟨e0, e1, e2, e3, e4, e5⟩ := rt6 hf
          have hP : va_P G vwCl [(qx 0, oX9 qx x_points x_lines x_tide x_isKept o_x_isMuch x_sum x_once x_twice x_isTermMuch x_nodes x_newMany o_x_isTooGreat x_come x_foundSet), (qx 4, .inl (Y 0, 40, .inl x_kind)), (qx 5, .inl (Y 0, 40, .inl x_figure)), (qx 6, .inl (Y 0, 40, .inl x_low)), (qx 7, .inl (Y 0, 40, .inl x_high)), (qx 10, .inl (Y 1, 28672, .inr (.inl o_x_table))), (qx 11, .inl (Y 1, 7, .inr (.inl o_x_count))), (qx 12, .inl (Y 0, 144, .inl o_x_heavy))] H := by rw [← e1, ← e2, ← e3, ← e4, ← e5]; exact hP
          have hD : va_D A [(qx 0, oX9 qx x_points x_lines x_tide x_isKept o_x_isMuch x_sum x_once x_twice x_isTermMuch x_nodes x_newMany o_x_isTooGreat x_come x_foundSet), (qx 4, .inl (Y 0, 40, .inl x_kind)), (qx 5, .inl (Y 0, 40, .inl x_figure)), (qx 6, .inl (Y 0, 40, .inl x_low)), (qx 7, .inl (Y 0, 40, .inl x_high)), (qx 10, .inl (Y 1, 28672, .inr (.inl o_x_table))), (qx 11, .inl (Y 1, 7, .inr (.inl o_x_count))), (qx 12, .inl (Y 0, 144, .inl o_x_heavy))] := by rw [← e1, ← e2, ← e3, ← e4, ← e5]; exact hD
          exact W.iret (v := (-2 : Int32)) hx hb hr (fun t ht hW => ⟨⟨(-2 : Int32), (), rfl, e0, by rw [ht]; exact hP, va_K.moved hW.alike hK, by rw [hAe]; exact hD⟩, hS.F ht⟩) hS.2.2 dX9_changes_56
        · have hf := ie hf c20
          refine lv_iload_n hx hb dX9_changes_25 rfl (lv_at hl 3 rfl) ?_
          refine lv_i2l hx hb dX9_changes_26 rfl ?_
          refine lv_ldc2 hx hb hown wd2 dX9_changes_27 ?_
          refine lv_ldc2 hx hb hown wd3 dX9_changes_30 ?_
          obtain ⟨r21, hc, hf⟩ := bd1 hf
          refine cl_i (ws' := [(qx 0, oX9 qx x_points x_lines x_tide x_isKept x_isMuch x_sum x_once x_twice x_isTermMuch x_nodes x_newMany x_isTooGreat x_come x_foundSet), (qx 4, .inl (Y 0, 40, .inl x_kind)), (qx 5, .inl (Y 0, 40, .inl x_figure)), (qx 6, .inl (Y 0, 40, .inl x_low)), (qx 7, .inl (Y 0, 40, .inl x_high)), (qx 10, .inl (Y 1, 28672, .inr (.inl x_table))), (qx 11, .inl (Y 1, 7, .inr (.inl x_count))), (qx 12, .inl (Y 0, 144, .inl x_heavy))]) (wr := [(qx 0, oX9 qx x_points x_lines x_tide x_isKept x_isMuch x_sum x_once x_twice x_isTermMuch x_nodes x_newMany x_isTooGreat x_come x_foundSet), (qx 4, .inl (Y 0, 40, .inl x_kind)), (qx 5, .inl (Y 0, 40, .inl x_figure)), (qx 6, .inl (Y 0, 40, .inl x_low)), (qx 7, .inl (Y 0, 40, .inl x_high)), (qx 10, .inl (Y 1, 28672, .inr (.inl x_table))), (qx 11, .inl (Y 1, 7, .inr (.inl x_count))), (qx 12, .inl (Y 0, 144, .inl x_heavy))]) (rnS (As := [.long p3.toInt64, .long (-60 : Int64), .long (60 : Int64)]) (rest := []) ⟨hx, hb, hml, hown, hts⟩ (c_X9_in l G Y H.size p3.toInt64 (-60 : Int64) (60 : Int64) r21 hc) (va_cwS 3 hts gX9_changes_X9_in rfl rfl rfl (by decide +kernel) ⟨(Nat.le_of_ble_eq_true rfl), (Nat.le_of_ble_eq_true rfl)⟩) trivial okT hK hP hD [] rfl rfl rfl hl.1 rfl (Nat.le_of_ble_eq_true rfl) dX9_changes_33) hP hD hS hA [] [0, 1, 2, 3, 4, 5, 6, 7] [0, 1, 2, 3, 4, 5, 6, 7] rfl rfl rfl (by decide) rfl rfl (fun H locs hP hD hS => ?_)
          refine lv_if_eq (tgt := 54) hx hb dX9_changes_36 (by decide) (fun c22 => ?_) (fun c22 => ?_)
          · have hf := it hf c22
            refine lv_bipush (v := -2) hx hb dX9_changes_54 (by decide) ?_
            obtain ⟨e0, e1, e2, e3, e4, e5⟩ := rt6 hf
            have hP : va_P G vwCl [(qx 0, oX9 qx x_points x_lines x_tide x_isKept o_x_isMuch x_sum x_once x_twice x_isTermMuch x_nodes x_newMany o_x_isTooGreat x_come x_foundSet), (qx 4, .inl (Y 0, 40, .inl x_kind)), (qx 5, .inl (Y 0, 40, .inl x_figure)), (qx 6, .inl (Y 0, 40, .inl x_low)), (qx 7, .inl (Y 0, 40, .inl x_high)), (qx 10, .inl (Y 1, 28672, .inr (.inl o_x_table))), (qx 11, .inl (Y 1, 7, .inr (.inl o_x_count))), (qx 12, .inl (Y 0, 144, .inl o_x_heavy))] H := by rw [← e1, ← e2, ← e3, ← e4, ← e5]; exact hP
            have hD : va_D A [(qx 0, oX9 qx x_points x_lines x_tide x_isKept o_x_isMuch x_sum x_once x_twice x_isTermMuch x_nodes x_newMany o_x_isTooGreat x_come x_foundSet), (qx 4, .inl (Y 0, 40, .inl x_kind)), (qx 5, .inl (Y 0, 40, .inl x_figure)), (qx 6, .inl (Y 0, 40, .inl x_low)), (qx 7, .inl (Y 0, 40, .inl x_high)), (qx 10, .inl (Y 1, 28672, .inr (.inl o_x_table))), (qx 11, .inl (Y 1, 7, .inr (.inl o_x_count))), (qx 12, .inl (Y 0, 144, .inl o_x_heavy))] := by rw [← e1, ← e2, ← e3, ← e4, ← e5]; exact hD
            exact W.iret (v := (-2 : Int32)) hx hb hr (fun t ht hW => ⟨⟨(-2 : Int32), (), rfl, e0, by rw [ht]; exact hP, va_K.moved hW.alike hK, by rw [hAe]; exact hD⟩, hS.F ht⟩) hS.2.2 dX9_changes_56
          · have hf := ie hf c22
            refine lv_iload hx hb dX9_changes_39 (lv_at hl 4 rfl) ?_
            refine lv_i2l hx hb dX9_changes_41 rfl ?_
            refine lv_ldc2 hx hb hown wd2 dX9_changes_42 ?_
            refine lv_ldc2 hx hb hown wd3 dX9_changes_45 ?_
            obtain ⟨r23, hc, hf⟩ := bd1 hf
            refine cl_i (ws' := [(qx 0, oX9 qx x_points x_lines x_tide x_isKept x_isMuch x_sum x_once x_twice x_isTermMuch x_nodes x_newMany x_isTooGreat x_come x_foundSet), (qx 4, .inl (Y 0, 40, .inl x_kind)), (qx 5, .inl (Y 0, 40, .inl x_figure)), (qx 6, .inl (Y 0, 40, .inl x_low)), (qx 7, .inl (Y 0, 40, .inl x_high)), (qx 10, .inl (Y 1, 28672, .inr (.inl x_table))), (qx 11, .inl (Y 1, 7, .inr (.inl x_count))), (qx 12, .inl (Y 0, 144, .inl x_heavy))]) (wr := [(qx 0, oX9 qx x_points x_lines x_tide x_isKept x_isMuch x_sum x_once x_twice x_isTermMuch x_nodes x_newMany x_isTooGreat x_come x_foundSet), (qx 4, .inl (Y 0, 40, .inl x_kind)), (qx 5, .inl (Y 0, 40, .inl x_figure)), (qx 6, .inl (Y 0, 40, .inl x_low)), (qx 7, .inl (Y 0, 40, .inl x_high)), (qx 10, .inl (Y 1, 28672, .inr (.inl x_table))), (qx 11, .inl (Y 1, 7, .inr (.inl x_count))), (qx 12, .inl (Y 0, 144, .inl x_heavy))]) (rnS (As := [.long p4.toInt64, .long (-60 : Int64), .long (60 : Int64)]) (rest := []) ⟨hx, hb, hml, hown, hts⟩ (c_X9_in l G Y H.size p4.toInt64 (-60 : Int64) (60 : Int64) r23 hc) (va_cwS 3 hts gX9_changes_X9_in rfl rfl rfl (by decide +kernel) ⟨(Nat.le_of_ble_eq_true rfl), (Nat.le_of_ble_eq_true rfl)⟩) trivial okT hK hP hD [] rfl rfl rfl hl.1 rfl (Nat.le_of_ble_eq_true rfl) dX9_changes_48) hP hD hS hA [] [0, 1, 2, 3, 4, 5, 6, 7] [0, 1, 2, 3, 4, 5, 6, 7] rfl rfl rfl (by decide) rfl rfl (fun H locs hP hD hS => ?_)
            refine lv_if_ne (tgt := 57) hx hb dX9_changes_51 (by decide) (fun c24 => ?_) (fun c24 => ?_)
            · have hf := ie hf c24
              refine lv_aload_n hx hb dX9_changes_57 rfl (lv_at hl 0 rfl) ?_
              refine lv_iload_n hx hb dX9_changes_58 rfl (lv_at hl 1 rfl) ?_
              obtain ⟨w25, w26, w27, w28, hc, hf⟩ := bd4 hf
              refine cl_v (ws' := [(qx 0, oX9 qx x_points x_lines x_tide x_isKept w28 x_sum x_once x_twice x_isTermMuch x_nodes x_newMany x_isTooGreat x_come x_foundSet), (qx 4, .inl (Y 0, 40, .inl x_kind)), (qx 5, .inl (Y 0, 40, .inl x_figure)), (qx 6, .inl (Y 0, 40, .inl x_low)), (qx 7, .inl (Y 0, 40, .inl x_high)), (qx 10, .inl (Y 1, 28672, .inr (.inl w25))), (qx 11, .inl (Y 1, 7, .inr (.inl w26))), (qx 12, .inl (Y 0, 144, .inl w27))]) (wr := []) (rnV (As := [.int p1]) (rest := []) ⟨hx, hb, hml, hown, hts⟩ (c_X9_findsCounts l G Y H.size qx x_points x_lines x_tide x_kind x_figure x_low x_high x_isKept x_table x_count x_heavy x_isMuch x_sum x_once x_twice x_isTermMuch x_nodes x_newMany x_isTooGreat x_come x_foundSet p1 w25 w26 w27 w28 hc) (cwV 1 hts gX9_changes_X9_findsCounts rfl rfl rfl (by decide +kernel) ⟨(Nat.le_of_ble_eq_true rfl), (Nat.le_of_ble_eq_true rfl)⟩) trivial okT hK hP hD [0, 1, 2, 3, 4, 5, 6, 7] rfl rfl (ci := 7) (q0 := 0) rfl rfl rfl rfl hl.1 rfl (Nat.le_of_ble_eq_true rfl) dX9_changes_59) hP hD hS hA [0, 1, 2, 3, 4, 5, 6, 7] [] [0, 1, 2, 3, 4, 5, 6, 7] rfl rfl rfl (by decide) rfl rfl (fun H locs hP hD hS => ?_)
              refine lv_iconst (v := 0) hx hb dX9_changes_62 (by decide) ?_
              refine lv_istore (lv' := [(5, .int (0 : Int32)), (0, .ref (qx 0)), (1, .int p1), (2, .int p2), (3, .int p3), (4, .int p4)]) hx hb dX9_changes_63 hl (by decide) rfl (fun ls hl => ?_)
              refine lv_iconst (v := 0) hx hb dX9_changes_65 (by decide) ?_
              refine lv_istore (lv' := [(6, .int (0 : Int32)), (5, .int (0 : Int32)), (0, .ref (qx 0)), (1, .int p1), (2, .int p2), (3, .int p3), (4, .int p4)]) hx hb dX9_changes_66 hl (by decide) rfl (fun ls hl => ?_)
              refine lv_aload_n hx hb dX9_changes_68 rfl (lv_at hl 2 rfl) ?_
              refine va_get (D := G) (ci := 7) (v := .int w28) (C := RX9) (T := TX9) (N := 37) hx hb hts inX9w hown hK hP 0 rfl rfl 12 (by decide) wd4 (fun _ h9 => h9) rfl dX9_changes_69 ?_
              refine lv_istore (lv' := [(7, .int w28), (6, .int (0 : Int32)), (5, .int (0 : Int32)), (0, .ref (qx 0)), (1, .int p1), (2, .int p2), (3, .int p3), (4, .int p4)]) hx hb dX9_changes_72 hl (by decide) rfl (fun ls hl => ?_)
              refine lv_iload_n hx hb dX9_changes_74 rfl (lv_at hl 6 rfl) ?_
              refine lv_istore (lv' := [(8, .int p3), (7, .int w28), (6, .int (0 : Int32)), (5, .int (0 : Int32)), (0, .ref (qx 0)), (1, .int p1), (2, .int p2), (3, .int p3), (4, .int p4)]) hx hb dX9_changes_75 hl (by decide) rfl (fun ls hl => ?_)
              exact B77 130 w25 w26 w27 w28 x_isTooGreat (0 : Int32) (0 : Int32) w28 p3 hf _ _ hP hD hS ls (lv_sub hl [4, 5, 6, 8, 3, 2, 1, 0] rfl)
            · have hf := it hf c24
              refine lv_bipush (v := -2) hx hb dX9_changes_54 (by decide) ?_
              obtain ⟨e0, e1, e2, e3, e4, e5⟩ := rt6 hf
              have hP : va_P G vwCl [(qx 0, oX9 qx x_points x_lines x_tide x_isKept o_x_isMuch x_sum x_once x_twice x_isTermMuch x_nodes x_newMany o_x_isTooGreat x_come x_foundSet), (qx 4, .inl (Y 0, 40, .inl x_kind)), (qx 5, .inl (Y 0, 40, .inl x_figure)), (qx 6, .inl (Y 0, 40, .inl x_low)), (qx 7, .inl (Y 0, 40, .inl x_high)), (qx 10, .inl (Y 1, 28672, .inr (.inl o_x_table))), (qx 11, .inl (Y 1, 7, .inr (.inl o_x_count))), (qx 12, .inl (Y 0, 144, .inl o_x_heavy))] H := by rw [← e1, ← e2, ← e3, ← e4, ← e5]; exact hP
              have hD : va_D A [(qx 0, oX9 qx x_points x_lines x_tide x_isKept o_x_isMuch x_sum x_once x_twice x_isTermMuch x_nodes x_newMany o_x_isTooGreat x_come x_foundSet), (qx 4, .inl (Y 0, 40, .inl x_kind)), (qx 5, .inl (Y 0, 40, .inl x_figure)), (qx 6, .inl (Y 0, 40, .inl x_low)), (qx 7, .inl (Y 0, 40, .inl x_high)), (qx 10, .inl (Y 1, 28672, .inr (.inl o_x_table))), (qx 11, .inl (Y 1, 7, .inr (.inl o_x_count))), (qx 12, .inl (Y 0, 144, .inl o_x_heavy))] := by rw [← e1, ← e2, ← e3, ← e4, ← e5]; exact hD
              exact W.iret (v := (-2 : Int32)) hx hb hr (fun t ht hW => ⟨⟨(-2 : Int32), (), rfl, e0, by rw [ht]; exact hP, va_K.moved hW.alike hK, by rw [hAe]; exact hD⟩, hS.F ht⟩) hS.2.2 dX9_changes_56
  exact E0 s.heap [] hP hD hS ls hl
-- X9_areLines
set_option maxRecDepth 100000 in
set_option maxHeartbeats 4000000 in
theorem c_X9_areLines (l : Launch) (G : va_G) (Y : Nat → ClassId) (sz : Nat) (qx : Nat → Nat) (x_points : Int32) (x_lines : Int32) (x_tide : Int32) (x_isKept : Int32) (x_isMuch : Int32) (x_sum : Int64) (x_once : Int64) (x_twice : Int64) (x_isTermMuch : Int32) (x_nodes : Int32) (x_newMany : Int32) (x_isTooGreat : Int32) (x_come : Int32) (x_foundSet : Int64) (p1 : Int64) (rv : Int32) (hf : f_X9_areLines x_lines p1 = some (rv)) : Met l yX9_areLines wsX9_areLines (rmk 0 0) (va_Pc [.ref (qx 0), .long p1] (Pre G (tys Y) [(qx 0, oX9 qx x_points x_lines x_tide x_isKept x_isMuch x_sum x_once x_twice x_isTermMuch x_nodes x_newMany x_isTooGreat x_come x_foundSet)] sz xT)) (va_Qi (fun (r : Int32) (_ : Unit) => r = rv) (Pst G (tys Y) [(qx 0, oX9 qx x_points x_lines x_tide x_isKept x_isMuch x_sum x_once x_twice x_isTermMuch x_nodes x_newMany x_isTooGreat x_come x_foundSet)] sz [(qx 0, oX9 qx x_points x_lines x_tide x_isKept x_isMuch x_sum x_once x_twice x_isTermMuch x_nodes x_newMany x_isTooGreat x_come x_foundSet)]) (va_A [(qx 0, oX9 qx x_points x_lines x_tide x_isKept x_isMuch x_sum x_once x_twice x_isTermMuch x_nodes x_newMany x_isTooGreat x_come x_foundSet)] sz)) 0 0 (va_A [(qx 0, oX9 qx x_points x_lines x_tide x_isKept x_isMuch x_sum x_once x_twice x_isTermMuch x_nodes x_newMany x_isTooGreat x_come x_foundSet)] sz) := by
  refine Met.ofW (cc := cX9_areLines) (maxL := 3) (ret := (some .boolean)) (by decide) rfl ?_
  intro p e s m args below meth c s₁ B hml hv
  obtain ⟨rfl, hsz, hP, hK, hD0, hX⟩ := hv
  have hx := B.exec
  have hb := B.bytes
  have hr := B.returns
  have hts := atoms_spec (ws := wsX9_areLines) B.pre
  have hown : s.vm.findClass RX9 = some m.cls := findClass_of_methodNamed B.named
  have hlocks := B.notSynchronized
  subst hsz
  have hD := hD0.self (sz := s.heap.size)
  generalize hAe : va_A [(qx 0, oX9 qx x_points x_lines x_tide x_isKept x_isMuch x_sum x_once x_twice x_isTermMuch x_nodes x_newMany x_isTooGreat x_come x_foundSet)] s.heap.size = A at hD ⊢
  have hA : ∀ q : Nat, s.heap.size ≤ q → A q := fun q h => by rw [← hAe]; exact Or.inr h
  have hS : va_S A s.heap s.heap [] := va_S.rf
  have hP : va_P G vwCl [(qx 0, oX9 qx x_points x_lines x_tide x_isKept x_isMuch x_sum x_once x_twice x_isTermMuch x_nodes x_newMany x_isTooGreat x_come x_foundSet)] s.heap := hP
  have wd1 : (Cond.fieldLink RX9 100 "PairedLinesModel" "lines" "I").before [.ref (qx 0), .long p1].toArray s = true := hts _ (List.mem_of_getElem? (i := 1) rfl)
  have inX9w : ∀ w ∈ u_ws RX9 TX9 37, w ∈ wsX9_areLines := fun w hw => List.mem_cons_of_mem _ (List.mem_append_right _ (hw))
  have hl := lv_entry ([.ref (qx 0), .long p1]) (n := 3) (Nat.le_of_ble_eq_true rfl)
  rw [lg_entry_eq]
  generalize (lg_sl ([.ref (qx 0), .long p1]) ++ List.replicate (3 - (lg_sl ([.ref (qx 0), .long p1])).length) Slot.unset).toArray = ls at hl ⊢
  have hl : lv_has ls 3 [(0, .ref (qx 0)), (1, .long p1)] := hl
  have E0 : ∀ (H : Heap) (locs : List Loc), va_P G vwCl [(qx 0, oX9 qx x_points x_lines x_tide x_isKept x_isMuch x_sum x_once x_twice x_isTermMuch x_nodes x_newMany x_isTooGreat x_come x_foundSet)] H → va_D A [(qx 0, oX9 qx x_points x_lines x_tide x_isKept x_isMuch x_sum x_once x_twice x_isTermMuch x_nodes x_newMany x_isTooGreat x_come x_foundSet)] → va_S A s.heap H locs → ∀ (ls : Array Slot), lv_has ls 3 [(0, .ref (qx 0)), (1, .long p1)] → W p l e (headSpec wsX9_areLines (rmk 0 0)).room s m [.ref (qx 0), .long p1].toArray below meth c H locs 0 0 (MQ below (va_Qi (fun (r : Int32) (_ : Unit) => r = rv) (Pst G (tys Y) [(qx 0, oX9 qx x_points x_lines x_tide x_isKept x_isMuch x_sum x_once x_twice x_isTermMuch x_nodes x_newMany x_isTooGreat x_come x_foundSet)] s.heap.size [(qx 0, oX9 qx x_points x_lines x_tide x_isKept x_isMuch x_sum x_once x_twice x_isTermMuch x_nodes x_newMany x_isTooGreat x_come x_foundSet)]) A) [.ref (qx 0), .long p1].toArray s 0 0 A) (F0 m 0 ls []) := by
    intro H locs hP hD hS ls hl
    unfold f_X9_areLines at hf
    refine lv_lload_n hx hb dX9_areLines_0 rfl (lv_at hl 1 rfl) ?_
    refine lv_aload_n hx hb dX9_areLines_1 rfl (lv_at hl 0 rfl) ?_
    refine va_get (D := G) (ci := 7) (v := .int x_lines) (C := RX9) (T := TX9) (N := 37) hx hb hts inX9w hown hK hP 0 rfl rfl 1 (by decide) wd1 (fun _ h9 => h9) rfl dX9_areLines_2 ?_
    refine lv_lushr hx hb dX9_areLines_5 rfl ?_
    refine lv_lconst (v := 0) hx hb dX9_areLines_6 (by decide) ?_
    refine W.lcmp hx hb dX9_areLines_7 ?_
    refine lv_if_ne (tgt := 15) hx hb dX9_areLines_8 (by decide) (fun c1 => ?_) (fun c1 => ?_)
    · have hf := ie hf c1
      refine lv_iconst (v := 0) hx hb dX9_areLines_15 (by decide) ?_
      have e0 := rt1 hf
      exact W.zret (v := (0 : Int32)) hx hb hr rfl (fun t ht hW => ⟨⟨(0 : Int32), (), rfl, e0, by rw [ht]; exact hP, va_K.moved hW.alike hK, by rw [hAe]; exact hD⟩, hS.F ht⟩) hS.2.2 dX9_areLines_16
    · have hf := it hf c1
      refine lv_iconst (v := 1) hx hb dX9_areLines_11 (by decide) ?_
      refine lv_goto (tgt := 16) hx hb dX9_areLines_12 (by decide) ?_
      have e0 := rt1 hf
      exact W.zret (v := (1 : Int32)) hx hb hr rfl (fun t ht hW => ⟨⟨(1 : Int32), (), rfl, e0, by rw [ht]; exact hP, va_K.moved hW.alike hK, by rw [hAe]; exact hD⟩, hS.F ht⟩) hS.2.2 dX9_areLines_16
  exact E0 s.heap [] hP hD hS ls hl
-- X9_arePaired
set_option maxRecDepth 100000 in
set_option maxHeartbeats 4000000 in
theorem c_X9_arePaired (l : Launch) (G : va_G) (Y : Nat → ClassId) (sz : Nat) (qx : Nat → Nat) (x_points : Int32) (x_lines : Int32) (x_tide : Int32) (x_low : Nat → Int32) (x_high : Nat → Int32) (x_isKept : Int32) (x_isMuch : Int32) (x_sum : Int64) (x_once : Int64) (x_twice : Int64) (x_isTermMuch : Int32) (x_nodes : Int32) (x_newMany : Int32) (x_isTooGreat : Int32) (x_come : Int32) (x_foundSet : Int64) (p1 : Int64) (rv : Int32) (hf : f_X9_arePaired x_lines x_low x_high p1 = some (rv)) : Met l yX9_arePaired wsX9_arePaired (rmk 1 22) (va_Pc [.ref (qx 0), .long p1] (Pre G (tys Y) [(qx 0, oX9 qx x_points x_lines x_tide x_isKept x_isMuch x_sum x_once x_twice x_isTermMuch x_nodes x_newMany x_isTooGreat x_come x_foundSet), (qx 6, .inl (Y 0, 40, .inl x_low)), (qx 7, .inl (Y 0, 40, .inl x_high))] sz xT)) (va_Qi (fun (r : Int32) (_ : Unit) => r = rv) (Pst G (tys Y) [(qx 0, oX9 qx x_points x_lines x_tide x_isKept x_isMuch x_sum x_once x_twice x_isTermMuch x_nodes x_newMany x_isTooGreat x_come x_foundSet), (qx 6, .inl (Y 0, 40, .inl x_low)), (qx 7, .inl (Y 0, 40, .inl x_high))] sz [(qx 0, oX9 qx x_points x_lines x_tide x_isKept x_isMuch x_sum x_once x_twice x_isTermMuch x_nodes x_newMany x_isTooGreat x_come x_foundSet), (qx 6, .inl (Y 0, 40, .inl x_low)), (qx 7, .inl (Y 0, 40, .inl x_high))]) (va_A [(qx 0, oX9 qx x_points x_lines x_tide x_isKept x_isMuch x_sum x_once x_twice x_isTermMuch x_nodes x_newMany x_isTooGreat x_come x_foundSet), (qx 6, .inl (Y 0, 40, .inl x_low)), (qx 7, .inl (Y 0, 40, .inl x_high))] sz)) 0 0 (va_A [(qx 0, oX9 qx x_points x_lines x_tide x_isKept x_isMuch x_sum x_once x_twice x_isTermMuch x_nodes x_newMany x_isTooGreat x_come x_foundSet), (qx 6, .inl (Y 0, 40, .inl x_low)), (qx 7, .inl (Y 0, 40, .inl x_high))] sz) := by
  refine Met.ofW (cc := cX9_arePaired) (maxL := 6) (ret := (some .boolean)) (by decide) rfl ?_
  intro p e s m args below meth c s₁ B hml hv
  obtain ⟨rfl, hsz, hP, hK, hD0, hX⟩ := hv
  have hx := B.exec
  have hb := B.bytes
  have hr := B.returns
  have hts := atoms_spec (ws := wsX9_arePaired) B.pre
  have hown : s.vm.findClass RX9 = some m.cls := findClass_of_methodNamed B.named
  have hlocks := B.notSynchronized
  subst hsz
  have hD := hD0.self (sz := s.heap.size)
  generalize hAe : va_A [(qx 0, oX9 qx x_points x_lines x_tide x_isKept x_isMuch x_sum x_once x_twice x_isTermMuch x_nodes x_newMany x_isTooGreat x_come x_foundSet), (qx 6, .inl (Y 0, 40, .inl x_low)), (qx 7, .inl (Y 0, 40, .inl x_high))] s.heap.size = A at hD ⊢
  have hA : ∀ q : Nat, s.heap.size ≤ q → A q := fun q h => by rw [← hAe]; exact Or.inr h
  have hS : va_S A s.heap s.heap [] := va_S.rf
  have hP : va_P G vwCl [(qx 0, oX9 qx x_points x_lines x_tide x_isKept x_isMuch x_sum x_once x_twice x_isTermMuch x_nodes x_newMany x_isTooGreat x_come x_foundSet), (qx 6, .inl (Y 0, 40, .inl x_low)), (qx 7, .inl (Y 0, 40, .inl x_high))] s.heap := hP
  have wd1 : (Cond.fieldLink RX9 100 "PairedLinesModel" "lines" "I").before [.ref (qx 0), .long p1].toArray s = true := hts _ (List.mem_of_getElem? (i := 1) rfl)
  have wd2 : (Cond.fieldLink RX9 16 "PairedLinesModel" "low" "[I").before [.ref (qx 0), .long p1].toArray s = true := hts _ (List.mem_of_getElem? (i := 2) rfl)
  have wd3 : (Cond.fieldLink RX9 19 "PairedLinesModel" "high" "[I").before [.ref (qx 0), .long p1].toArray s = true := hts _ (List.mem_of_getElem? (i := 3) rfl)
  have inX9w : ∀ w ∈ u_ws RX9 TX9 37, w ∈ wsX9_arePaired := fun w hw => List.mem_cons_of_mem _ (List.mem_append_right _ (hw))
  have hl := lv_entry ([.ref (qx 0), .long p1]) (n := 6) (Nat.le_of_ble_eq_true rfl)
  rw [lg_entry_eq]
  generalize (lg_sl ([.ref (qx 0), .long p1]) ++ List.replicate (6 - (lg_sl ([.ref (qx 0), .long p1])).length) Slot.unset).toArray = ls at hl ⊢
  have hl : lv_has ls 6 [(0, .ref (qx 0)), (1, .long p1)] := hl
  have B5 : ∀ (n5 : Nat), ∀ (x3 : Int32) (x4 : Int32), f_X9_arePaired_b5 x_lines x_low x_high p1 n5 x3 x4 = some (rv) → ∀ (H : Heap) (locs : List Loc), va_P G vwCl [(qx 0, oX9 qx x_points x_lines x_tide x_isKept x_isMuch x_sum x_once x_twice x_isTermMuch x_nodes x_newMany x_isTooGreat x_come x_foundSet), (qx 6, .inl (Y 0, 40, .inl x_low)), (qx 7, .inl (Y 0, 40, .inl x_high))] H → va_D A [(qx 0, oX9 qx x_points x_lines x_tide x_isKept x_isMuch x_sum x_once x_twice x_isTermMuch x_nodes x_newMany x_isTooGreat x_come x_foundSet), (qx 6, .inl (Y 0, 40, .inl x_low)), (qx 7, .inl (Y 0, 40, .inl x_high))] → va_S A s.heap H locs → ∀ (ls : Array Slot), lv_has ls 6 [(0, .ref (qx 0)), (1, .long p1), (3, .int x3), (4, .int x4)] → W p l e (headSpec wsX9_arePaired (rmk 1 22)).room s m [.ref (qx 0), .long p1].toArray below meth c H locs 0 0 (MQ below (va_Qi (fun (r : Int32) (_ : Unit) => r = rv) (Pst G (tys Y) [(qx 0, oX9 qx x_points x_lines x_tide x_isKept x_isMuch x_sum x_once x_twice x_isTermMuch x_nodes x_newMany x_isTooGreat x_come x_foundSet), (qx 6, .inl (Y 0, 40, .inl x_low)), (qx 7, .inl (Y 0, 40, .inl x_high))] s.heap.size [(qx 0, oX9 qx x_points x_lines x_tide x_isKept x_isMuch x_sum x_once x_twice x_isTermMuch x_nodes x_newMany x_isTooGreat x_come x_foundSet), (qx 6, .inl (Y 0, 40, .inl x_low)), (qx 7, .inl (Y 0, 40, .inl x_high))]) A) [.ref (qx 0), .long p1].toArray s 0 0 A) (F0 m 5 ls []) := by
    intro n5
    induction n5 with
    | zero =>
      intro x3 x4 hf H locs hP hD hS ls hl
      exact no_none hf
    | succ n5 ih5 =>
      have B53 : ∀ (x3 : Int32) (x4 : Int32) (x5 : Int32), f_X9_arePaired_b53 x_lines x_low x_high p1 (f_X9_arePaired_b5 x_lines x_low x_high p1 n5) x3 x4 x5 = some (rv) → ∀ (H : Heap) (locs : List Loc), va_P G vwCl [(qx 0, oX9 qx x_points x_lines x_tide x_isKept x_isMuch x_sum x_once x_twice x_isTermMuch x_nodes x_newMany x_isTooGreat x_come x_foundSet), (qx 6, .inl (Y 0, 40, .inl x_low)), (qx 7, .inl (Y 0, 40, .inl x_high))] H → va_D A [(qx 0, oX9 qx x_points x_lines x_tide x_isKept x_isMuch x_sum x_once x_twice x_isTermMuch x_nodes x_newMany x_isTooGreat x_come x_foundSet), (qx 6, .inl (Y 0, 40, .inl x_low)), (qx 7, .inl (Y 0, 40, .inl x_high))] → va_S A s.heap H locs → ∀ (ls : Array Slot), lv_has ls 6 [(0, .ref (qx 0)), (1, .long p1), (3, .int x3), (4, .int x4), (5, .int x5)] → W p l e (headSpec wsX9_arePaired (rmk 1 22)).room s m [.ref (qx 0), .long p1].toArray below meth c H locs 0 0 (MQ below (va_Qi (fun (r : Int32) (_ : Unit) => r = rv) (Pst G (tys Y) [(qx 0, oX9 qx x_points x_lines x_tide x_isKept x_isMuch x_sum x_once x_twice x_isTermMuch x_nodes x_newMany x_isTooGreat x_come x_foundSet), (qx 6, .inl (Y 0, 40, .inl x_low)), (qx 7, .inl (Y 0, 40, .inl x_high))] s.heap.size [(qx 0, oX9 qx x_points x_lines x_tide x_isKept x_isMuch x_sum x_once x_twice x_isTermMuch x_nodes x_newMany x_isTooGreat x_come x_foundSet), (qx 6, .inl (Y 0, 40, .inl x_low)), (qx 7, .inl (Y 0, 40, .inl x_high))]) A) [.ref (qx 0), .long p1].toArray s 0 0 A) (F0 m 53 ls []) := by
        intro x3 x4 x5 hf H locs hP hD hS ls hl
        unfold f_X9_arePaired_b53 at hf
        refine lv_iload_n hx hb dX9_arePaired_53 rfl (lv_at hl 2 rfl) ?_
        refine lv_lload_n hx hb dX9_arePaired_54 rfl (lv_at hl 1 rfl) ?_
        refine lv_iload hx hb dX9_arePaired_55 (lv_at hl 3 rfl) ?_
        obtain ⟨r1, hc, hf⟩ := bd1 hf
        refine cl_i (ws' := [(qx 0, oX9 qx x_points x_lines x_tide x_isKept x_isMuch x_sum x_once x_twice x_isTermMuch x_nodes x_newMany x_isTooGreat x_come x_foundSet), (qx 6, .inl (Y 0, 40, .inl x_low)), (qx 7, .inl (Y 0, 40, .inl x_high))]) (wr := [(qx 0, oX9 qx x_points x_lines x_tide x_isKept x_isMuch x_sum x_once x_twice x_isTermMuch x_nodes x_newMany x_isTooGreat x_come x_foundSet), (qx 6, .inl (Y 0, 40, .inl x_low)), (qx 7, .inl (Y 0, 40, .inl x_high))]) (rnS (As := [.long p1, .int x4]) (rest := [.int x3]) ⟨hx, hb, hml, hown, hts⟩ (c_X9_has l G Y H.size p1 x4 r1 hc) (va_cwS 2 hts gX9_arePaired_X9_has rfl rfl rfl (by decide +kernel) ⟨(Nat.le_of_ble_eq_true rfl), (Nat.le_of_ble_eq_true rfl)⟩) trivial okT hK hP hD [] rfl rfl rfl hl.1 rfl (Nat.le_of_ble_eq_true rfl) dX9_arePaired_57) hP hD hS hA [] [0, 1, 2] [0, 1, 2] rfl rfl rfl (by decide) rfl rfl (fun H locs hP hD hS => ?_)
        refine lv_if_eq (tgt := 68) hx hb dX9_arePaired_60 (by decide) (fun c2 => ?_) (fun c2 => ?_)
        · have hf := it hf c2
          refine lv_iconst (v := 0) hx hb dX9_arePaired_68 (by decide) ?_
          refine lv_ior hx hb dX9_arePaired_69 ?_
          refine lv_topi (fun v3 e_v3 => ?_)
          have hf := nm_at hf e_v3
          refine lv_istore_n (lv' := [(3, .int v3), (0, .ref (qx 0)), (1, .long p1), (4, .int x4), (5, .int x5)]) hx hb dX9_arePaired_70 rfl hl (by decide) rfl (fun ls hl => ?_)
          obtain ⟨v4, e_v4⟩ : ∃ z : Int32, z = (x4 + 1) := ⟨_, rfl⟩
          have hf := nm_at hf e_v4
          refine lv_iinc (v := v4) (lv' := [(4, .int v4), (3, .int v3), (0, .ref (qx 0)), (1, .long p1), (5, .int x5)]) hx hb dX9_arePaired_71 hl (k := 3) rfl (by rw [e_v4]; rfl) (by decide) rfl (fun ls hl => ?_)
          refine lv_goto (tgt := 5) hx hb dX9_arePaired_74 (by decide) ?_
          exact ih5 v3 v4 hf _ _ hP hD hS ls (lv_sub hl [2, 3, 1, 0] rfl)
        · have hf := ie hf c2
          refine lv_iload hx hb dX9_arePaired_63 (lv_at hl 4 rfl) ?_
          refine lv_goto (tgt := 69) hx hb dX9_arePaired_65 (by decide) ?_
          refine lv_ior hx hb dX9_arePaired_69 ?_
          refine lv_topi (fun v5 e_v5 => ?_)
          have hf := nm_at hf e_v5
          refine lv_istore_n (lv' := [(3, .int v5), (0, .ref (qx 0)), (1, .long p1), (4, .int x4), (5, .int x5)]) hx hb dX9_arePaired_70 rfl hl (by decide) rfl (fun ls hl => ?_)
          obtain ⟨v6, e_v6⟩ : ∃ z : Int32, z = (x4 + 1) := ⟨_, rfl⟩
          have hf := nm_at hf e_v6
          refine lv_iinc (v := v6) (lv' := [(4, .int v6), (3, .int v5), (0, .ref (qx 0)), (1, .long p1), (5, .int x5)]) hx hb dX9_arePaired_71 hl (k := 3) rfl (by rw [e_v6]; rfl) (by decide) rfl (fun ls hl => ?_)
          refine lv_goto (tgt := 5) hx hb dX9_arePaired_74 (by decide) ?_
          exact ih5 v5 v6 hf _ _ hP hD hS ls (lv_sub hl [2, 3, 1, 0] rfl)
      intro x3 x4 hf H locs hP hD hS ls hl
      have hf : f_X9_arePaired_s5 x_lines x_low x_high p1 (f_X9_arePaired_b5 x_lines x_low x_high p1  n5) x3 x4 = some (rv) := hf
      unfold f_X9_arePaired_s5 at hf
      refine lv_iload hx hb dX9_arePaired_5 (lv_at hl 3 rfl) ?_
      refine lv_aload_n hx hb dX9_arePaired_7 rfl (lv_at hl 0 rfl) ?_
      refine va_get (D := G) (ci := 7) (v := .int x_lines) (C := RX9) (T := TX9) (N := 37) hx hb hts inX9w hown hK hP 0 rfl rfl 1 (by decide) wd1 (fun _ h9 => h9) rfl dX9_arePaired_8 ?_
      refine lv_icmp_ge (tgt := 77) hx hb dX9_arePaired_11 (by decide) (fun c7 => ?_) (fun c7 => ?_)
      · have hf := it hf c7
        refine lv_iconst (v := 1) hx hb dX9_arePaired_77 (by decide) ?_
        have e0 := rt1 hf
        exact W.zret (v := (1 : Int32)) hx hb hr rfl (fun t ht hW => ⟨⟨(1 : Int32), (), rfl, e0, by rw [ht]; exact hP, va_K.moved hW.alike hK, by rw [hAe]; exact hD⟩, hS.F ht⟩) hS.2.2 dX9_arePaired_78
      · have hf := ie hf c7
        refine lv_iconst (v := 1) hx hb dX9_arePaired_14 (by decide) ?_
        refine lv_aload_n hx hb dX9_arePaired_15 rfl (lv_at hl 0 rfl) ?_
        refine va_get (D := G) (ci := 7) (v := .ref (qx 6)) (C := RX9) (T := TX9) (N := 37) hx hb hts inX9w hown hK hP 0 rfl rfl 5 (by decide) wd2 (fun _ h9 => h9) rfl dX9_arePaired_16 ?_
        refine lv_iload hx hb dX9_arePaired_19 (lv_at hl 3 rfl) ?_
        obtain ⟨g8, hf⟩ := gd hf
        refine va_iald hx hb hK hP 1 0 rfl rfl g8 dX9_arePaired_21 ?_
        refine lv_ishl hx hb dX9_arePaired_22 ?_
        refine lv_iconst (v := 1) hx hb dX9_arePaired_23 (by decide) ?_
        refine lv_aload_n hx hb dX9_arePaired_24 rfl (lv_at hl 0 rfl) ?_
        refine va_get (D := G) (ci := 7) (v := .ref (qx 7)) (C := RX9) (T := TX9) (N := 37) hx hb hts inX9w hown hK hP 0 rfl rfl 6 (by decide) wd3 (fun _ h9 => h9) rfl dX9_arePaired_25 ?_
        refine lv_iload hx hb dX9_arePaired_28 (lv_at hl 3 rfl) ?_
        obtain ⟨g9, hf⟩ := gd hf
        refine va_iald hx hb hK hP 2 0 rfl rfl g9 dX9_arePaired_30 ?_
        refine lv_ishl hx hb dX9_arePaired_31 ?_
        refine lv_ior hx hb dX9_arePaired_32 ?_
        refine lv_topi (fun v10 e_v10 => ?_)
        have hf := nm_at hf e_v10
        refine lv_istore (lv' := [(5, .int v10), (0, .ref (qx 0)), (1, .long p1), (3, .int x3), (4, .int x4)]) hx hb dX9_arePaired_33 hl (by decide) rfl (fun ls hl => ?_)
        refine lv_lload_n hx hb dX9_arePaired_35 rfl (lv_at hl 2 rfl) ?_
        refine lv_iload hx hb dX9_arePaired_36 (lv_at hl 4 rfl) ?_
        obtain ⟨r11, hc, hf⟩ := bd1 hf
        refine cl_i (ws' := [(qx 0, oX9 qx x_points x_lines x_tide x_isKept x_isMuch x_sum x_once x_twice x_isTermMuch x_nodes x_newMany x_isTooGreat x_come x_foundSet), (qx 6, .inl (Y 0, 40, .inl x_low)), (qx 7, .inl (Y 0, 40, .inl x_high))]) (wr := [(qx 0, oX9 qx x_points x_lines x_tide x_isKept x_isMuch x_sum x_once x_twice x_isTermMuch x_nodes x_newMany x_isTooGreat x_come x_foundSet), (qx 6, .inl (Y 0, 40, .inl x_low)), (qx 7, .inl (Y 0, 40, .inl x_high))]) (rnS (As := [.long p1, .int x4]) (rest := []) ⟨hx, hb, hml, hown, hts⟩ (c_X9_has l G Y H.size p1 x4 r11 hc) (va_cwS 2 hts gX9_arePaired_X9_has rfl rfl rfl (by decide +kernel) ⟨(Nat.le_of_ble_eq_true rfl), (Nat.le_of_ble_eq_true rfl)⟩) trivial okT hK hP hD [] rfl rfl rfl hl.1 rfl (Nat.le_of_ble_eq_true rfl) dX9_arePaired_38) hP hD hS hA [] [0, 1, 2] [0, 1, 2] rfl rfl rfl (by decide) rfl rfl (fun H locs hP hD hS => ?_)
        refine lv_if_eq (tgt := 53) hx hb dX9_arePaired_41 (by decide) (fun c12 => ?_) (fun c12 => ?_)
        · have hf := it hf c12
          exact B53 x3 x4 v10 hf _ _ hP hD hS ls (lv_sub hl [1, 2, 3, 4, 0] rfl)
        · have hf := ie hf c12
          refine lv_iload_n hx hb dX9_arePaired_44 rfl (lv_at hl 3 rfl) ?_
          refine lv_iload hx hb dX9_arePaired_45 (lv_at hl 0 rfl) ?_
          refine lv_iand hx hb dX9_arePaired_47 ?_
          refine lv_if_eq (tgt := 53) hx hb dX9_arePaired_48 (by decide) (fun c13 => ?_) (fun c13 => ?_)
          · have hf := it hf c13
            exact B53 x3 x4 v10 hf _ _ hP hD hS ls (lv_sub hl [1, 2, 3, 4, 0] rfl)
          · have hf := ie hf c13
            refine lv_iconst (v := 0) hx hb dX9_arePaired_51 (by decide) ?_
            have e0 := rt1 hf
            exact W.zret (v := (0 : Int32)) hx hb hr rfl (fun t ht hW => ⟨⟨(0 : Int32), (), rfl, e0, by rw [ht]; exact hP, va_K.moved hW.alike hK, by rw [hAe]; exact hD⟩, hS.F ht⟩) hS.2.2 dX9_arePaired_52
  have E0 : ∀ (H : Heap) (locs : List Loc), va_P G vwCl [(qx 0, oX9 qx x_points x_lines x_tide x_isKept x_isMuch x_sum x_once x_twice x_isTermMuch x_nodes x_newMany x_isTooGreat x_come x_foundSet), (qx 6, .inl (Y 0, 40, .inl x_low)), (qx 7, .inl (Y 0, 40, .inl x_high))] H → va_D A [(qx 0, oX9 qx x_points x_lines x_tide x_isKept x_isMuch x_sum x_once x_twice x_isTermMuch x_nodes x_newMany x_isTooGreat x_come x_foundSet), (qx 6, .inl (Y 0, 40, .inl x_low)), (qx 7, .inl (Y 0, 40, .inl x_high))] → va_S A s.heap H locs → ∀ (ls : Array Slot), lv_has ls 6 [(0, .ref (qx 0)), (1, .long p1)] → W p l e (headSpec wsX9_arePaired (rmk 1 22)).room s m [.ref (qx 0), .long p1].toArray below meth c H locs 0 0 (MQ below (va_Qi (fun (r : Int32) (_ : Unit) => r = rv) (Pst G (tys Y) [(qx 0, oX9 qx x_points x_lines x_tide x_isKept x_isMuch x_sum x_once x_twice x_isTermMuch x_nodes x_newMany x_isTooGreat x_come x_foundSet), (qx 6, .inl (Y 0, 40, .inl x_low)), (qx 7, .inl (Y 0, 40, .inl x_high))] s.heap.size [(qx 0, oX9 qx x_points x_lines x_tide x_isKept x_isMuch x_sum x_once x_twice x_isTermMuch x_nodes x_newMany x_isTooGreat x_come x_foundSet), (qx 6, .inl (Y 0, 40, .inl x_low)), (qx 7, .inl (Y 0, 40, .inl x_high))]) A) [.ref (qx 0), .long p1].toArray s 0 0 A) (F0 m 0 ls []) := by
    intro H locs hP hD hS ls hl
    unfold f_X9_arePaired at hf
    refine lv_iconst (v := 0) hx hb dX9_arePaired_0 (by decide) ?_
    refine lv_istore_n (lv' := [(3, .int (0 : Int32)), (0, .ref (qx 0)), (1, .long p1)]) hx hb dX9_arePaired_1 rfl hl (by decide) rfl (fun ls hl => ?_)
    refine lv_iconst (v := 0) hx hb dX9_arePaired_2 (by decide) ?_
    refine lv_istore (lv' := [(4, .int (0 : Int32)), (3, .int (0 : Int32)), (0, .ref (qx 0)), (1, .long p1)]) hx hb dX9_arePaired_3 hl (by decide) rfl (fun ls hl => ?_)
    exact B5 70 (0 : Int32) (0 : Int32) hf _ _ hP hD hS ls (lv_sub hl [2, 3, 1, 0] rfl)
  exact E0 s.heap [] hP hD hS ls hl
-- X9_isPairing
set_option maxRecDepth 100000 in
set_option maxHeartbeats 4000000 in
theorem c_X9_isPairing (l : Launch) (G : va_G) (Y : Nat → ClassId) (sz : Nat) (qx : Nat → Nat) (x_points : Int32) (x_lines : Int32) (x_tide : Int32) (x_low : Nat → Int32) (x_high : Nat → Int32) (x_isKept : Int32) (x_isMuch : Int32) (x_sum : Int64) (x_once : Int64) (x_twice : Int64) (x_isTermMuch : Int32) (x_nodes : Int32) (x_newMany : Int32) (x_isTooGreat : Int32) (x_come : Int32) (x_foundSet : Int64) (p1 : Int64) (rv : Int32) (hf : f_X9_isPairing x_lines x_low x_high p1 = some (rv)) : Met l yX9_isPairing wsX9_isPairing (rmk 2 47) (va_Pc [.ref (qx 0), .long p1] (Pre G (tys Y) [(qx 0, oX9 qx x_points x_lines x_tide x_isKept x_isMuch x_sum x_once x_twice x_isTermMuch x_nodes x_newMany x_isTooGreat x_come x_foundSet), (qx 6, .inl (Y 0, 40, .inl x_low)), (qx 7, .inl (Y 0, 40, .inl x_high))] sz xT)) (va_Qi (fun (r : Int32) (_ : Unit) => r = rv) (Pst G (tys Y) [(qx 0, oX9 qx x_points x_lines x_tide x_isKept x_isMuch x_sum x_once x_twice x_isTermMuch x_nodes x_newMany x_isTooGreat x_come x_foundSet), (qx 6, .inl (Y 0, 40, .inl x_low)), (qx 7, .inl (Y 0, 40, .inl x_high))] sz [(qx 0, oX9 qx x_points x_lines x_tide x_isKept x_isMuch x_sum x_once x_twice x_isTermMuch x_nodes x_newMany x_isTooGreat x_come x_foundSet), (qx 6, .inl (Y 0, 40, .inl x_low)), (qx 7, .inl (Y 0, 40, .inl x_high))]) (va_A [(qx 0, oX9 qx x_points x_lines x_tide x_isKept x_isMuch x_sum x_once x_twice x_isTermMuch x_nodes x_newMany x_isTooGreat x_come x_foundSet), (qx 6, .inl (Y 0, 40, .inl x_low)), (qx 7, .inl (Y 0, 40, .inl x_high))] sz)) 0 0 (va_A [(qx 0, oX9 qx x_points x_lines x_tide x_isKept x_isMuch x_sum x_once x_twice x_isTermMuch x_nodes x_newMany x_isTooGreat x_come x_foundSet), (qx 6, .inl (Y 0, 40, .inl x_low)), (qx 7, .inl (Y 0, 40, .inl x_high))] sz) := by
  refine Met.ofW (cc := cX9_isPairing) (maxL := 3) (ret := (some .int)) (by decide) rfl ?_
  intro p e s m args below meth c s₁ B hml hv
  obtain ⟨rfl, hsz, hP, hK, hD0, hX⟩ := hv
  have hx := B.exec
  have hb := B.bytes
  have hr := B.returns
  have hts := atoms_spec (ws := wsX9_isPairing) B.pre
  have hown : s.vm.findClass RX9 = some m.cls := findClass_of_methodNamed B.named
  have hlocks := B.notSynchronized
  subst hsz
  have hD := hD0.self (sz := s.heap.size)
  generalize hAe : va_A [(qx 0, oX9 qx x_points x_lines x_tide x_isKept x_isMuch x_sum x_once x_twice x_isTermMuch x_nodes x_newMany x_isTooGreat x_come x_foundSet), (qx 6, .inl (Y 0, 40, .inl x_low)), (qx 7, .inl (Y 0, 40, .inl x_high))] s.heap.size = A at hD ⊢
  have hA : ∀ q : Nat, s.heap.size ≤ q → A q := fun q h => by rw [← hAe]; exact Or.inr h
  have hS : va_S A s.heap s.heap [] := va_S.rf
  have hP : va_P G vwCl [(qx 0, oX9 qx x_points x_lines x_tide x_isKept x_isMuch x_sum x_once x_twice x_isTermMuch x_nodes x_newMany x_isTooGreat x_come x_foundSet), (qx 6, .inl (Y 0, 40, .inl x_low)), (qx 7, .inl (Y 0, 40, .inl x_high))] s.heap := hP
  have hl := lv_entry ([.ref (qx 0), .long p1]) (n := 3) (Nat.le_of_ble_eq_true rfl)
  rw [lg_entry_eq]
  generalize (lg_sl ([.ref (qx 0), .long p1]) ++ List.replicate (3 - (lg_sl ([.ref (qx 0), .long p1])).length) Slot.unset).toArray = ls at hl ⊢
  have hl : lv_has ls 3 [(0, .ref (qx 0)), (1, .long p1)] := hl
  have E0 : ∀ (H : Heap) (locs : List Loc), va_P G vwCl [(qx 0, oX9 qx x_points x_lines x_tide x_isKept x_isMuch x_sum x_once x_twice x_isTermMuch x_nodes x_newMany x_isTooGreat x_come x_foundSet), (qx 6, .inl (Y 0, 40, .inl x_low)), (qx 7, .inl (Y 0, 40, .inl x_high))] H → va_D A [(qx 0, oX9 qx x_points x_lines x_tide x_isKept x_isMuch x_sum x_once x_twice x_isTermMuch x_nodes x_newMany x_isTooGreat x_come x_foundSet), (qx 6, .inl (Y 0, 40, .inl x_low)), (qx 7, .inl (Y 0, 40, .inl x_high))] → va_S A s.heap H locs → ∀ (ls : Array Slot), lv_has ls 3 [(0, .ref (qx 0)), (1, .long p1)] → W p l e (headSpec wsX9_isPairing (rmk 2 47)).room s m [.ref (qx 0), .long p1].toArray below meth c H locs 0 0 (MQ below (va_Qi (fun (r : Int32) (_ : Unit) => r = rv) (Pst G (tys Y) [(qx 0, oX9 qx x_points x_lines x_tide x_isKept x_isMuch x_sum x_once x_twice x_isTermMuch x_nodes x_newMany x_isTooGreat x_come x_foundSet), (qx 6, .inl (Y 0, 40, .inl x_low)), (qx 7, .inl (Y 0, 40, .inl x_high))] s.heap.size [(qx 0, oX9 qx x_points x_lines x_tide x_isKept x_isMuch x_sum x_once x_twice x_isTermMuch x_nodes x_newMany x_isTooGreat x_come x_foundSet), (qx 6, .inl (Y 0, 40, .inl x_low)), (qx 7, .inl (Y 0, 40, .inl x_high))]) A) [.ref (qx 0), .long p1].toArray s 0 0 A) (F0 m 0 ls []) := by
    intro H locs hP hD hS ls hl
    unfold f_X9_isPairing at hf
    refine lv_aload_n hx hb dX9_isPairing_0 rfl (lv_at hl 0 rfl) ?_
    refine lv_lload_n hx hb dX9_isPairing_1 rfl (lv_at hl 1 rfl) ?_
    obtain ⟨r1, hc, hf⟩ := bd1 hf
    refine cl_i (ws' := [(qx 0, oX9 qx x_points x_lines x_tide x_isKept x_isMuch x_sum x_once x_twice x_isTermMuch x_nodes x_newMany x_isTooGreat x_come x_foundSet), (qx 6, .inl (Y 0, 40, .inl x_low)), (qx 7, .inl (Y 0, 40, .inl x_high))]) (wr := [(qx 6, .inl (Y 0, 40, .inl x_low)), (qx 7, .inl (Y 0, 40, .inl x_high))]) (rnV (As := [.long p1]) (rest := []) ⟨hx, hb, hml, hown, hts⟩ (c_X9_areLines l G Y H.size qx x_points x_lines x_tide x_isKept x_isMuch x_sum x_once x_twice x_isTermMuch x_nodes x_newMany x_isTooGreat x_come x_foundSet p1 r1 hc) (cwV 1 hts gX9_isPairing_X9_areLines rfl rfl rfl (by decide +kernel) ⟨(Nat.le_of_ble_eq_true rfl), (Nat.le_of_ble_eq_true rfl)⟩) trivial okT hK hP hD [0] rfl rfl (ci := 7) (q0 := 0) rfl rfl rfl rfl hl.1 rfl (Nat.le_of_ble_eq_true rfl) dX9_isPairing_2) hP hD hS hA [0] [1, 2] [2, 0, 1] rfl rfl rfl (by decide) rfl rfl (fun H locs hP hD hS => ?_)
    refine lv_if_ne (tgt := 13) hx hb dX9_isPairing_5 (by decide) (fun c2 => ?_) (fun c2 => ?_)
    · have hf := ie hf c2
      refine lv_aload_n hx hb dX9_isPairing_13 rfl (lv_at hl 0 rfl) ?_
      refine lv_lload_n hx hb dX9_isPairing_14 rfl (lv_at hl 1 rfl) ?_
      obtain ⟨r3, hc, hf⟩ := bd1 hf
      refine cl_i (ws' := [(qx 0, oX9 qx x_points x_lines x_tide x_isKept x_isMuch x_sum x_once x_twice x_isTermMuch x_nodes x_newMany x_isTooGreat x_come x_foundSet), (qx 6, .inl (Y 0, 40, .inl x_low)), (qx 7, .inl (Y 0, 40, .inl x_high))]) (wr := []) (rnV (As := [.long p1]) (rest := []) ⟨hx, hb, hml, hown, hts⟩ (c_X9_arePaired l G Y H.size qx x_points x_lines x_tide x_low x_high x_isKept x_isMuch x_sum x_once x_twice x_isTermMuch x_nodes x_newMany x_isTooGreat x_come x_foundSet p1 r3 hc) (cwV 1 hts gX9_isPairing_X9_arePaired rfl rfl rfl (by decide +kernel) ⟨(Nat.le_of_ble_eq_true rfl), (Nat.le_of_ble_eq_true rfl)⟩) trivial okT hK hP hD [0, 1, 2] rfl rfl (ci := 7) (q0 := 0) rfl rfl rfl rfl hl.1 rfl (Nat.le_of_ble_eq_true rfl) dX9_isPairing_15) hP hD hS hA [0, 1, 2] [] [0, 1, 2] rfl rfl rfl (by decide) rfl rfl (fun H locs hP hD hS => ?_)
      refine lv_if_eq (tgt := 25) hx hb dX9_isPairing_18 (by decide) (fun c4 => ?_) (fun c4 => ?_)
      · have hf := it hf c4
        refine lv_iconst (v := 0) hx hb dX9_isPairing_25 (by decide) ?_
        have e0 := rt1 hf
        exact W.iret (v := (0 : Int32)) hx hb hr (fun t ht hW => ⟨⟨(0 : Int32), (), rfl, e0, by rw [ht]; exact hP, va_K.moved hW.alike hK, by rw [hAe]; exact hD⟩, hS.F ht⟩) hS.2.2 dX9_isPairing_26
      · have hf := ie hf c4
        refine lv_iconst (v := 1) hx hb dX9_isPairing_21 (by decide) ?_
        refine lv_goto (tgt := 26) hx hb dX9_isPairing_22 (by decide) ?_
        have e0 := rt1 hf
        exact W.iret (v := (1 : Int32)) hx hb hr (fun t ht hW => ⟨⟨(1 : Int32), (), rfl, e0, by rw [ht]; exact hP, va_K.moved hW.alike hK, by rw [hAe]; exact hD⟩, hS.F ht⟩) hS.2.2 dX9_isPairing_26
    · have hf := it hf c2
      refine lv_bipush (v := -2) hx hb dX9_isPairing_8 (by decide) ?_
      refine lv_goto (tgt := 26) hx hb dX9_isPairing_10 (by decide) ?_
      have e0 := rt1 hf
      exact W.iret (v := (-2 : Int32)) hx hb hr (fun t ht hW => ⟨⟨(-2 : Int32), (), rfl, e0, by rw [ht]; exact hP, va_K.moved hW.alike hK, by rw [hAe]; exact hD⟩, hS.F ht⟩) hS.2.2 dX9_isPairing_26
  exact E0 s.heap [] hP hD hS ls hl
-- X9_worth
set_option maxRecDepth 100000 in
set_option maxHeartbeats 4000000 in
theorem c_X9_worth (l : Launch) (G : va_G) (Y : Nat → ClassId) (sz : Nat) (qx : Nat → Nat) (x_points : Int32) (x_lines : Int32) (x_tide : Int32) (x_kind : Nat → Int32) (x_figure : Nat → Int32) (x_low : Nat → Int32) (x_high : Nat → Int32) (x_isKept : Int32) (x_isMuch : Int32) (x_sum : Int64) (x_once : Int64) (x_twice : Int64) (x_isTermMuch : Int32) (x_nodes : Int32) (x_newMany : Int32) (x_isTooGreat : Int32) (x_come : Int32) (x_foundSet : Int64) (p1 : Int64) (rv : Int64) (hf : f_X9_worth x_lines x_tide x_kind x_figure x_low x_high p1 = some (rv)) : Met l yX9_worth wsX9_worth (rmk 2 47) (va_Pc [.ref (qx 0), .long p1] (Pre G (tys Y) [(qx 0, oX9 qx x_points x_lines x_tide x_isKept x_isMuch x_sum x_once x_twice x_isTermMuch x_nodes x_newMany x_isTooGreat x_come x_foundSet), (qx 4, .inl (Y 0, 40, .inl x_kind)), (qx 5, .inl (Y 0, 40, .inl x_figure)), (qx 6, .inl (Y 0, 40, .inl x_low)), (qx 7, .inl (Y 0, 40, .inl x_high))] sz xT)) (va_Ql (fun (r : Int64) (_ : Unit) => r = rv) (Pst G (tys Y) [(qx 0, oX9 qx x_points x_lines x_tide x_isKept x_isMuch x_sum x_once x_twice x_isTermMuch x_nodes x_newMany x_isTooGreat x_come x_foundSet), (qx 4, .inl (Y 0, 40, .inl x_kind)), (qx 5, .inl (Y 0, 40, .inl x_figure)), (qx 6, .inl (Y 0, 40, .inl x_low)), (qx 7, .inl (Y 0, 40, .inl x_high))] sz [(qx 0, oX9 qx x_points x_lines x_tide x_isKept x_isMuch x_sum x_once x_twice x_isTermMuch x_nodes x_newMany x_isTooGreat x_come x_foundSet), (qx 4, .inl (Y 0, 40, .inl x_kind)), (qx 5, .inl (Y 0, 40, .inl x_figure)), (qx 6, .inl (Y 0, 40, .inl x_low)), (qx 7, .inl (Y 0, 40, .inl x_high))]) (va_A [(qx 0, oX9 qx x_points x_lines x_tide x_isKept x_isMuch x_sum x_once x_twice x_isTermMuch x_nodes x_newMany x_isTooGreat x_come x_foundSet), (qx 4, .inl (Y 0, 40, .inl x_kind)), (qx 5, .inl (Y 0, 40, .inl x_figure)), (qx 6, .inl (Y 0, 40, .inl x_low)), (qx 7, .inl (Y 0, 40, .inl x_high))] sz)) 0 0 (va_A [(qx 0, oX9 qx x_points x_lines x_tide x_isKept x_isMuch x_sum x_once x_twice x_isTermMuch x_nodes x_newMany x_isTooGreat x_come x_foundSet), (qx 4, .inl (Y 0, 40, .inl x_kind)), (qx 5, .inl (Y 0, 40, .inl x_figure)), (qx 6, .inl (Y 0, 40, .inl x_low)), (qx 7, .inl (Y 0, 40, .inl x_high))] sz) := by
  refine Met.ofW (cc := cX9_worth) (maxL := 7) (ret := (some .long)) (by decide) rfl ?_
  intro p e s m args below meth c s₁ B hml hv
  obtain ⟨rfl, hsz, hP, hK, hD0, hX⟩ := hv
  have hx := B.exec
  have hb := B.bytes
  have hr := B.returns
  have hts := atoms_spec (ws := wsX9_worth) B.pre
  have hown : s.vm.findClass RX9 = some m.cls := findClass_of_methodNamed B.named
  have hlocks := B.notSynchronized
  subst hsz
  have hD := hD0.self (sz := s.heap.size)
  generalize hAe : va_A [(qx 0, oX9 qx x_points x_lines x_tide x_isKept x_isMuch x_sum x_once x_twice x_isTermMuch x_nodes x_newMany x_isTooGreat x_come x_foundSet), (qx 4, .inl (Y 0, 40, .inl x_kind)), (qx 5, .inl (Y 0, 40, .inl x_figure)), (qx 6, .inl (Y 0, 40, .inl x_low)), (qx 7, .inl (Y 0, 40, .inl x_high))] s.heap.size = A at hD ⊢
  have hA : ∀ q : Nat, s.heap.size ≤ q → A q := fun q h => by rw [← hAe]; exact Or.inr h
  have hS : va_S A s.heap s.heap [] := va_S.rf
  have hP : va_P G vwCl [(qx 0, oX9 qx x_points x_lines x_tide x_isKept x_isMuch x_sum x_once x_twice x_isTermMuch x_nodes x_newMany x_isTooGreat x_come x_foundSet), (qx 4, .inl (Y 0, 40, .inl x_kind)), (qx 5, .inl (Y 0, 40, .inl x_figure)), (qx 6, .inl (Y 0, 40, .inl x_low)), (qx 7, .inl (Y 0, 40, .inl x_high))] s.heap := hP
  have wd1 : (Cond.fieldLink RX9 100 "PairedLinesModel" "lines" "I").before [.ref (qx 0), .long p1].toArray s = true := hts _ (List.mem_of_getElem? (i := 1) rfl)
  have inX9w : ∀ w ∈ u_ws RX9 TX9 37, w ∈ wsX9_worth := fun w hw => List.mem_cons_of_mem _ (List.mem_append_right _ (hw))
  have hl := lv_entry ([.ref (qx 0), .long p1]) (n := 7) (Nat.le_of_ble_eq_true rfl)
  rw [lg_entry_eq]
  generalize (lg_sl ([.ref (qx 0), .long p1]) ++ List.replicate (7 - (lg_sl ([.ref (qx 0), .long p1])).length) Slot.unset).toArray = ls at hl ⊢
  have hl : lv_has ls 7 [(0, .ref (qx 0)), (1, .long p1)] := hl
  have B36 : ∀ (n36 : Nat), ∀ (x3 : Int64) (x5 : Int32) (x6 : Int32), f_X9_worth_b36 x_lines x_tide x_kind x_figure x_low x_high p1 n36 x3 x5 x6 = some (rv) → ∀ (H : Heap) (locs : List Loc), va_P G vwCl [(qx 0, oX9 qx x_points x_lines x_tide x_isKept x_isMuch x_sum x_once x_twice x_isTermMuch x_nodes x_newMany x_isTooGreat x_come x_foundSet), (qx 4, .inl (Y 0, 40, .inl x_kind)), (qx 5, .inl (Y 0, 40, .inl x_figure)), (qx 6, .inl (Y 0, 40, .inl x_low)), (qx 7, .inl (Y 0, 40, .inl x_high))] H → va_D A [(qx 0, oX9 qx x_points x_lines x_tide x_isKept x_isMuch x_sum x_once x_twice x_isTermMuch x_nodes x_newMany x_isTooGreat x_come x_foundSet), (qx 4, .inl (Y 0, 40, .inl x_kind)), (qx 5, .inl (Y 0, 40, .inl x_figure)), (qx 6, .inl (Y 0, 40, .inl x_low)), (qx 7, .inl (Y 0, 40, .inl x_high))] → va_S A s.heap H locs → ∀ (ls : Array Slot), lv_has ls 7 [(0, .ref (qx 0)), (1, .long p1), (3, .long x3), (5, .int x5), (6, .int x6)] → W p l e (headSpec wsX9_worth (rmk 2 47)).room s m [.ref (qx 0), .long p1].toArray below meth c H locs 0 0 (MQ below (va_Ql (fun (r : Int64) (_ : Unit) => r = rv) (Pst G (tys Y) [(qx 0, oX9 qx x_points x_lines x_tide x_isKept x_isMuch x_sum x_once x_twice x_isTermMuch x_nodes x_newMany x_isTooGreat x_come x_foundSet), (qx 4, .inl (Y 0, 40, .inl x_kind)), (qx 5, .inl (Y 0, 40, .inl x_figure)), (qx 6, .inl (Y 0, 40, .inl x_low)), (qx 7, .inl (Y 0, 40, .inl x_high))] s.heap.size [(qx 0, oX9 qx x_points x_lines x_tide x_isKept x_isMuch x_sum x_once x_twice x_isTermMuch x_nodes x_newMany x_isTooGreat x_come x_foundSet), (qx 4, .inl (Y 0, 40, .inl x_kind)), (qx 5, .inl (Y 0, 40, .inl x_figure)), (qx 6, .inl (Y 0, 40, .inl x_low)), (qx 7, .inl (Y 0, 40, .inl x_high))]) A) [.ref (qx 0), .long p1].toArray s 0 0 A) (F0 m 36 ls []) := by
    intro n36
    induction n36 with
    | zero =>
      intro x3 x5 x6 hf H locs hP hD hS ls hl
      exact no_none hf
    | succ n36 ih36 =>
      have B69 : ∀ (x5 : Int32) (x6 : Int32) (y0 : Int64), f_X9_worth_b69 x_lines x_tide x_kind x_figure x_low x_high p1 (f_X9_worth_b36 x_lines x_tide x_kind x_figure x_low x_high p1 n36) x5 x6 y0 = some (rv) → ∀ (H : Heap) (locs : List Loc), va_P G vwCl [(qx 0, oX9 qx x_points x_lines x_tide x_isKept x_isMuch x_sum x_once x_twice x_isTermMuch x_nodes x_newMany x_isTooGreat x_come x_foundSet), (qx 4, .inl (Y 0, 40, .inl x_kind)), (qx 5, .inl (Y 0, 40, .inl x_figure)), (qx 6, .inl (Y 0, 40, .inl x_low)), (qx 7, .inl (Y 0, 40, .inl x_high))] H → va_D A [(qx 0, oX9 qx x_points x_lines x_tide x_isKept x_isMuch x_sum x_once x_twice x_isTermMuch x_nodes x_newMany x_isTooGreat x_come x_foundSet), (qx 4, .inl (Y 0, 40, .inl x_kind)), (qx 5, .inl (Y 0, 40, .inl x_figure)), (qx 6, .inl (Y 0, 40, .inl x_low)), (qx 7, .inl (Y 0, 40, .inl x_high))] → va_S A s.heap H locs → ∀ (ls : Array Slot), lv_has ls 7 [(0, .ref (qx 0)), (1, .long p1), (5, .int x5), (6, .int x6)] → W p l e (headSpec wsX9_worth (rmk 2 47)).room s m [.ref (qx 0), .long p1].toArray below meth c H locs 0 0 (MQ below (va_Ql (fun (r : Int64) (_ : Unit) => r = rv) (Pst G (tys Y) [(qx 0, oX9 qx x_points x_lines x_tide x_isKept x_isMuch x_sum x_once x_twice x_isTermMuch x_nodes x_newMany x_isTooGreat x_come x_foundSet), (qx 4, .inl (Y 0, 40, .inl x_kind)), (qx 5, .inl (Y 0, 40, .inl x_figure)), (qx 6, .inl (Y 0, 40, .inl x_low)), (qx 7, .inl (Y 0, 40, .inl x_high))] s.heap.size [(qx 0, oX9 qx x_points x_lines x_tide x_isKept x_isMuch x_sum x_once x_twice x_isTermMuch x_nodes x_newMany x_isTooGreat x_come x_foundSet), (qx 4, .inl (Y 0, 40, .inl x_kind)), (qx 5, .inl (Y 0, 40, .inl x_figure)), (qx 6, .inl (Y 0, 40, .inl x_low)), (qx 7, .inl (Y 0, 40, .inl x_high))]) A) [.ref (qx 0), .long p1].toArray s 0 0 A) (F0 m 69 ls [.long y0]) := by
        intro x5 x6 y0 hf H locs hP hD hS ls hl
        unfold f_X9_worth_b69 at hf
        refine lv_lstore_n (lv' := [(3, .long y0), (0, .ref (qx 0)), (1, .long p1), (5, .int x5), (6, .int x6)]) hx hb dX9_worth_69 rfl hl (by decide) rfl (fun ls hl => ?_)
        refine lv_iload hx hb dX9_worth_70 (lv_at hl 3 rfl) ?_
        refine lv_lload_n hx hb dX9_worth_72 rfl (lv_at hl 2 rfl) ?_
        refine lv_iload hx hb dX9_worth_73 (lv_at hl 4 rfl) ?_
        obtain ⟨r1, hc, hf⟩ := bd1 hf
        refine cl_i (ws' := [(qx 0, oX9 qx x_points x_lines x_tide x_isKept x_isMuch x_sum x_once x_twice x_isTermMuch x_nodes x_newMany x_isTooGreat x_come x_foundSet), (qx 4, .inl (Y 0, 40, .inl x_kind)), (qx 5, .inl (Y 0, 40, .inl x_figure)), (qx 6, .inl (Y 0, 40, .inl x_low)), (qx 7, .inl (Y 0, 40, .inl x_high))]) (wr := [(qx 0, oX9 qx x_points x_lines x_tide x_isKept x_isMuch x_sum x_once x_twice x_isTermMuch x_nodes x_newMany x_isTooGreat x_come x_foundSet), (qx 4, .inl (Y 0, 40, .inl x_kind)), (qx 5, .inl (Y 0, 40, .inl x_figure)), (qx 6, .inl (Y 0, 40, .inl x_low)), (qx 7, .inl (Y 0, 40, .inl x_high))]) (rnS (As := [.long p1, .int x6]) (rest := [.int x5]) ⟨hx, hb, hml, hown, hts⟩ (c_X9_has l G Y H.size p1 x6 r1 hc) (va_cwS 2 hts gX9_worth_X9_has rfl rfl rfl (by decide +kernel) ⟨(Nat.le_of_ble_eq_true rfl), (Nat.le_of_ble_eq_true rfl)⟩) trivial okT hK hP hD [] rfl rfl rfl hl.1 rfl (Nat.le_of_ble_eq_true rfl) dX9_worth_75) hP hD hS hA [] [0, 1, 2, 3, 4] [0, 1, 2, 3, 4] rfl rfl rfl (by decide) rfl rfl (fun H locs hP hD hS => ?_)
        refine lv_if_eq (tgt := 94) hx hb dX9_worth_78 (by decide) (fun c2 => ?_) (fun c2 => ?_)
        · have hf := it hf c2
          refine lv_iconst (v := 0) hx hb dX9_worth_94 (by decide) ?_
          refine lv_ior hx hb dX9_worth_95 ?_
          refine lv_topi (fun v3 e_v3 => ?_)
          have hf := nm_at hf e_v3
          refine lv_istore (lv' := [(5, .int v3), (3, .long y0), (0, .ref (qx 0)), (1, .long p1), (6, .int x6)]) hx hb dX9_worth_96 hl (by decide) rfl (fun ls hl => ?_)
          obtain ⟨v4, e_v4⟩ : ∃ z : Int32, z = (x6 + 1) := ⟨_, rfl⟩
          have hf := nm_at hf e_v4
          refine lv_iinc (v := v4) (lv' := [(6, .int v4), (5, .int v3), (3, .long y0), (0, .ref (qx 0)), (1, .long p1)]) hx hb dX9_worth_98 hl (k := 4) rfl (by rw [e_v4]; rfl) (by decide) rfl (fun ls hl => ?_)
          refine lv_goto (tgt := 36) hx hb dX9_worth_101 (by decide) ?_
          exact ih36 y0 v3 v4 hf _ _ hP hD hS ls (lv_sub hl [3, 4, 2, 1, 0] rfl)
        · have hf := ie hf c2
          refine lv_aload_n hx hb dX9_worth_81 rfl (lv_at hl 1 rfl) ?_
          refine lv_iload hx hb dX9_worth_82 (lv_at hl 4 rfl) ?_
          obtain ⟨r5, hc, hf⟩ := bd1 hf
          refine cl_i (ws' := [(qx 0, oX9 qx x_points x_lines x_tide x_isKept x_isMuch x_sum x_once x_twice x_isTermMuch x_nodes x_newMany x_isTooGreat x_come x_foundSet), (qx 4, .inl (Y 0, 40, .inl x_kind)), (qx 5, .inl (Y 0, 40, .inl x_figure)), (qx 6, .inl (Y 0, 40, .inl x_low)), (qx 7, .inl (Y 0, 40, .inl x_high))]) (wr := [(qx 6, .inl (Y 0, 40, .inl x_low)), (qx 7, .inl (Y 0, 40, .inl x_high))]) (rnV (As := [.int x6]) (rest := [.int x5]) ⟨hx, hb, hml, hown, hts⟩ (c_X9_weight l G Y H.size qx x_points x_lines x_tide x_kind x_figure x_isKept x_isMuch x_sum x_once x_twice x_isTermMuch x_nodes x_newMany x_isTooGreat x_come x_foundSet x6 r5 hc) (cwV 1 hts gX9_worth_X9_weight rfl rfl rfl (by decide +kernel) ⟨(Nat.le_of_ble_eq_true rfl), (Nat.le_of_ble_eq_true rfl)⟩) trivial okT hK hP hD [0, 1, 2] rfl rfl (ci := 7) (q0 := 0) rfl rfl rfl rfl hl.1 rfl (Nat.le_of_ble_eq_true rfl) dX9_worth_84) hP hD hS hA [0, 1, 2] [3, 4] [2, 3, 4, 0, 1] rfl rfl rfl (by decide) rfl rfl (fun H locs hP hD hS => ?_)
          refine lv_if_ne (tgt := 94) hx hb dX9_worth_87 (by decide) (fun c6 => ?_) (fun c6 => ?_)
          · have hf := ie hf c6
            refine lv_iconst (v := 0) hx hb dX9_worth_94 (by decide) ?_
            refine lv_ior hx hb dX9_worth_95 ?_
            refine lv_topi (fun v7 e_v7 => ?_)
            have hf := nm_at hf e_v7
            refine lv_istore (lv' := [(5, .int v7), (3, .long y0), (0, .ref (qx 0)), (1, .long p1), (6, .int x6)]) hx hb dX9_worth_96 hl (by decide) rfl (fun ls hl => ?_)
            obtain ⟨v8, e_v8⟩ : ∃ z : Int32, z = (x6 + 1) := ⟨_, rfl⟩
            have hf := nm_at hf e_v8
            refine lv_iinc (v := v8) (lv' := [(6, .int v8), (5, .int v7), (3, .long y0), (0, .ref (qx 0)), (1, .long p1)]) hx hb dX9_worth_98 hl (k := 4) rfl (by rw [e_v8]; rfl) (by decide) rfl (fun ls hl => ?_)
            refine lv_goto (tgt := 36) hx hb dX9_worth_101 (by decide) ?_
            exact ih36 y0 v7 v8 hf _ _ hP hD hS ls (lv_sub hl [3, 4, 2, 1, 0] rfl)
          · have hf := it hf c6
            refine lv_iconst (v := 1) hx hb dX9_worth_90 (by decide) ?_
            refine lv_goto (tgt := 95) hx hb dX9_worth_91 (by decide) ?_
            refine lv_ior hx hb dX9_worth_95 ?_
            refine lv_topi (fun v9 e_v9 => ?_)
            have hf := nm_at hf e_v9
            refine lv_istore (lv' := [(5, .int v9), (3, .long y0), (0, .ref (qx 0)), (1, .long p1), (6, .int x6)]) hx hb dX9_worth_96 hl (by decide) rfl (fun ls hl => ?_)
            obtain ⟨v10, e_v10⟩ : ∃ z : Int32, z = (x6 + 1) := ⟨_, rfl⟩
            have hf := nm_at hf e_v10
            refine lv_iinc (v := v10) (lv' := [(6, .int v10), (5, .int v9), (3, .long y0), (0, .ref (qx 0)), (1, .long p1)]) hx hb dX9_worth_98 hl (k := 4) rfl (by rw [e_v10]; rfl) (by decide) rfl (fun ls hl => ?_)
            refine lv_goto (tgt := 36) hx hb dX9_worth_101 (by decide) ?_
            exact ih36 y0 v9 v10 hf _ _ hP hD hS ls (lv_sub hl [3, 4, 2, 1, 0] rfl)
      intro x3 x5 x6 hf H locs hP hD hS ls hl
      have hf : f_X9_worth_s36 x_lines x_tide x_kind x_figure x_low x_high p1 (f_X9_worth_b36 x_lines x_tide x_kind x_figure x_low x_high p1  n36) x3 x5 x6 = some (rv) := hf
      unfold f_X9_worth_s36 at hf
      refine lv_iload hx hb dX9_worth_36 (lv_at hl 4 rfl) ?_
      refine lv_aload_n hx hb dX9_worth_38 rfl (lv_at hl 0 rfl) ?_
      refine va_get (D := G) (ci := 7) (v := .int x_lines) (C := RX9) (T := TX9) (N := 37) hx hb hts inX9w hown hK hP 0 rfl rfl 1 (by decide) wd1 (fun _ h9 => h9) rfl dX9_worth_39 ?_
      refine lv_icmp_ge (tgt := 104) hx hb dX9_worth_42 (by decide) (fun c11 => ?_) (fun c11 => ?_)
      · have hf := it hf c11
        refine lv_iload hx hb dX9_worth_104 (lv_at hl 3 rfl) ?_
        refine lv_if_eq (tgt := 113) hx hb dX9_worth_106 (by decide) (fun c12 => ?_) (fun c12 => ?_)
        · have hf := it hf c12
          refine lv_lload_n hx hb dX9_worth_113 rfl (lv_at hl 2 rfl) ?_
          refine lv_lconst (v := 0) hx hb dX9_worth_114 (by decide) ?_
          refine W.lcmp hx hb dX9_worth_115 ?_
          refine lv_if_ge (tgt := 127) hx hb dX9_worth_116 (by decide) (fun c13 => ?_) (fun c13 => ?_)
          · have hf := it hf c13
            refine lv_lload_n hx hb dX9_worth_127 rfl (lv_at hl 2 rfl) ?_
            have e0 := rt1 hf
            exact W.lret (v := x3) hx hb hr (fun t ht hW => ⟨⟨x3, (), rfl, e0, by rw [ht]; exact hP, va_K.moved hW.alike hK, by rw [hAe]; exact hD⟩, hS.F ht⟩) hS.2.2 dX9_worth_128
          · have hf := ie hf c13
            refine lv_bipush (v := -5) hx hb dX9_worth_119 (by decide) ?_
            obtain ⟨r14, hc, hf⟩ := bd1 hf
            refine cl_l (ws' := [(qx 0, oX9 qx x_points x_lines x_tide x_isKept x_isMuch x_sum x_once x_twice x_isTermMuch x_nodes x_newMany x_isTooGreat x_come x_foundSet), (qx 4, .inl (Y 0, 40, .inl x_kind)), (qx 5, .inl (Y 0, 40, .inl x_figure)), (qx 6, .inl (Y 0, 40, .inl x_low)), (qx 7, .inl (Y 0, 40, .inl x_high))]) (wr := [(qx 0, oX9 qx x_points x_lines x_tide x_isKept x_isMuch x_sum x_once x_twice x_isTermMuch x_nodes x_newMany x_isTooGreat x_come x_foundSet), (qx 4, .inl (Y 0, 40, .inl x_kind)), (qx 5, .inl (Y 0, 40, .inl x_figure)), (qx 6, .inl (Y 0, 40, .inl x_low)), (qx 7, .inl (Y 0, 40, .inl x_high))]) (rnS (As := [.int (-5 : Int32)]) (rest := []) ⟨hx, hb, hml, hown, hts⟩ (c_X9_told l G Y H.size (-5 : Int32) r14 hc) (va_cwS 1 hts gX9_worth_X9_told rfl rfl rfl (by decide +kernel) ⟨(Nat.le_of_ble_eq_true rfl), (Nat.le_of_ble_eq_true rfl)⟩) trivial okT hK hP hD [] rfl rfl rfl hl.1 rfl (Nat.le_of_ble_eq_true rfl) dX9_worth_121) hP hD hS hA [] [0, 1, 2, 3, 4] [0, 1, 2, 3, 4] rfl rfl rfl (by decide) rfl rfl (fun H locs hP hD hS => ?_)
            refine lv_goto (tgt := 128) hx hb dX9_worth_124 (by decide) ?_
            have e0 := rt1 hf
            exact W.lret (v := r14) hx hb hr (fun t ht hW => ⟨⟨r14, (), rfl, e0, by rw [ht]; exact hP, va_K.moved hW.alike hK, by rw [hAe]; exact hD⟩, hS.F ht⟩) hS.2.2 dX9_worth_128
        · have hf := ie hf c12
          refine lv_lconst (v := 0) hx hb dX9_worth_109 (by decide) ?_
          refine lv_goto (tgt := 128) hx hb dX9_worth_110 (by decide) ?_
          have e0 := rt1 hf
          exact W.lret (v := (0 : Int64)) hx hb hr (fun t ht hW => ⟨⟨(0 : Int64), (), rfl, e0, by rw [ht]; exact hP, va_K.moved hW.alike hK, by rw [hAe]; exact hD⟩, hS.F ht⟩) hS.2.2 dX9_worth_128
      · have hf := ie hf c11
        refine lv_lload_n hx hb dX9_worth_45 rfl (lv_at hl 1 rfl) ?_
        refine lv_iload hx hb dX9_worth_46 (lv_at hl 4 rfl) ?_
        obtain ⟨r15, hc, hf⟩ := bd1 hf
        refine cl_i (ws' := [(qx 0, oX9 qx x_points x_lines x_tide x_isKept x_isMuch x_sum x_once x_twice x_isTermMuch x_nodes x_newMany x_isTooGreat x_come x_foundSet), (qx 4, .inl (Y 0, 40, .inl x_kind)), (qx 5, .inl (Y 0, 40, .inl x_figure)), (qx 6, .inl (Y 0, 40, .inl x_low)), (qx 7, .inl (Y 0, 40, .inl x_high))]) (wr := [(qx 0, oX9 qx x_points x_lines x_tide x_isKept x_isMuch x_sum x_once x_twice x_isTermMuch x_nodes x_newMany x_isTooGreat x_come x_foundSet), (qx 4, .inl (Y 0, 40, .inl x_kind)), (qx 5, .inl (Y 0, 40, .inl x_figure)), (qx 6, .inl (Y 0, 40, .inl x_low)), (qx 7, .inl (Y 0, 40, .inl x_high))]) (rnS (As := [.long p1, .int x6]) (rest := []) ⟨hx, hb, hml, hown, hts⟩ (c_X9_has l G Y H.size p1 x6 r15 hc) (va_cwS 2 hts gX9_worth_X9_has rfl rfl rfl (by decide +kernel) ⟨(Nat.le_of_ble_eq_true rfl), (Nat.le_of_ble_eq_true rfl)⟩) trivial okT hK hP hD [] rfl rfl rfl hl.1 rfl (Nat.le_of_ble_eq_true rfl) dX9_worth_48) hP hD hS hA [] [0, 1, 2, 3, 4] [0, 1, 2, 3, 4] rfl rfl rfl (by decide) rfl rfl (fun H locs hP hD hS => ?_)
        refine lv_if_eq (tgt := 68) hx hb dX9_worth_51 (by decide) (fun c16 => ?_) (fun c16 => ?_)
        · have hf := it hf c16
          refine lv_lload_n hx hb dX9_worth_68 rfl (lv_at hl 2 rfl) ?_
          exact B69 x5 x6 x3 hf _ _ hP hD hS ls (lv_sub hl [0, 1, 3, 4] rfl)
        · have hf := ie hf c16
          refine lv_lload_n hx hb dX9_worth_54 rfl (lv_at hl 2 rfl) ?_
          refine lv_aload_n hx hb dX9_worth_55 rfl (lv_at hl 0 rfl) ?_
          refine lv_iload hx hb dX9_worth_56 (lv_at hl 4 rfl) ?_
          obtain ⟨r17, hc, hf⟩ := bd1 hf
          refine cl_i (ws' := [(qx 0, oX9 qx x_points x_lines x_tide x_isKept x_isMuch x_sum x_once x_twice x_isTermMuch x_nodes x_newMany x_isTooGreat x_come x_foundSet), (qx 4, .inl (Y 0, 40, .inl x_kind)), (qx 5, .inl (Y 0, 40, .inl x_figure)), (qx 6, .inl (Y 0, 40, .inl x_low)), (qx 7, .inl (Y 0, 40, .inl x_high))]) (wr := [(qx 6, .inl (Y 0, 40, .inl x_low)), (qx 7, .inl (Y 0, 40, .inl x_high))]) (rnV (As := [.int x6]) (rest := [.long x3]) ⟨hx, hb, hml, hown, hts⟩ (c_X9_weight l G Y H.size qx x_points x_lines x_tide x_kind x_figure x_isKept x_isMuch x_sum x_once x_twice x_isTermMuch x_nodes x_newMany x_isTooGreat x_come x_foundSet x6 r17 hc) (cwV 1 hts gX9_worth_X9_weight rfl rfl rfl (by decide +kernel) ⟨(Nat.le_of_ble_eq_true rfl), (Nat.le_of_ble_eq_true rfl)⟩) trivial okT hK hP hD [0, 1, 2] rfl rfl (ci := 7) (q0 := 0) rfl rfl rfl rfl hl.1 rfl (Nat.le_of_ble_eq_true rfl) dX9_worth_58) hP hD hS hA [0, 1, 2] [3, 4] [2, 3, 4, 0, 1] rfl rfl rfl (by decide) rfl rfl (fun H locs hP hD hS => ?_)
          refine lv_i2l hx hb dX9_worth_61 rfl ?_
          obtain ⟨r18, hc, hf⟩ := bd1 hf
          refine cl_l (ws' := [(qx 0, oX9 qx x_points x_lines x_tide x_isKept x_isMuch x_sum x_once x_twice x_isTermMuch x_nodes x_newMany x_isTooGreat x_come x_foundSet), (qx 4, .inl (Y 0, 40, .inl x_kind)), (qx 5, .inl (Y 0, 40, .inl x_figure)), (qx 6, .inl (Y 0, 40, .inl x_low)), (qx 7, .inl (Y 0, 40, .inl x_high))]) (wr := [(qx 0, oX9 qx x_points x_lines x_tide x_isKept x_isMuch x_sum x_once x_twice x_isTermMuch x_nodes x_newMany x_isTooGreat x_come x_foundSet), (qx 4, .inl (Y 0, 40, .inl x_kind)), (qx 5, .inl (Y 0, 40, .inl x_figure)), (qx 6, .inl (Y 0, 40, .inl x_low)), (qx 7, .inl (Y 0, 40, .inl x_high))]) (rnS (As := [.long x3, .long r17.toInt64]) (rest := []) ⟨hx, hb, hml, hown, hts⟩ (c_X9_times l G Y H.size x3 r17.toInt64 r18 hc) (va_cwS 2 hts gX9_worth_X9_times rfl rfl rfl (by decide +kernel) ⟨(Nat.le_of_ble_eq_true rfl), (Nat.le_of_ble_eq_true rfl)⟩) trivial okT hK hP hD [] rfl rfl rfl hl.1 rfl (Nat.le_of_ble_eq_true rfl) dX9_worth_62) hP hD hS hA [] [0, 1, 2, 3, 4] [0, 1, 2, 3, 4] rfl rfl rfl (by decide) rfl rfl (fun H locs hP hD hS => ?_)
          refine lv_goto (tgt := 69) hx hb dX9_worth_65 (by decide) ?_
          exact B69 x5 x6 r18 hf _ _ hP hD hS ls (lv_sub hl [0, 1, 3, 4] rfl)
  have E0 : ∀ (H : Heap) (locs : List Loc), va_P G vwCl [(qx 0, oX9 qx x_points x_lines x_tide x_isKept x_isMuch x_sum x_once x_twice x_isTermMuch x_nodes x_newMany x_isTooGreat x_come x_foundSet), (qx 4, .inl (Y 0, 40, .inl x_kind)), (qx 5, .inl (Y 0, 40, .inl x_figure)), (qx 6, .inl (Y 0, 40, .inl x_low)), (qx 7, .inl (Y 0, 40, .inl x_high))] H → va_D A [(qx 0, oX9 qx x_points x_lines x_tide x_isKept x_isMuch x_sum x_once x_twice x_isTermMuch x_nodes x_newMany x_isTooGreat x_come x_foundSet), (qx 4, .inl (Y 0, 40, .inl x_kind)), (qx 5, .inl (Y 0, 40, .inl x_figure)), (qx 6, .inl (Y 0, 40, .inl x_low)), (qx 7, .inl (Y 0, 40, .inl x_high))] → va_S A s.heap H locs → ∀ (ls : Array Slot), lv_has ls 7 [(0, .ref (qx 0)), (1, .long p1)] → W p l e (headSpec wsX9_worth (rmk 2 47)).room s m [.ref (qx 0), .long p1].toArray below meth c H locs 0 0 (MQ below (va_Ql (fun (r : Int64) (_ : Unit) => r = rv) (Pst G (tys Y) [(qx 0, oX9 qx x_points x_lines x_tide x_isKept x_isMuch x_sum x_once x_twice x_isTermMuch x_nodes x_newMany x_isTooGreat x_come x_foundSet), (qx 4, .inl (Y 0, 40, .inl x_kind)), (qx 5, .inl (Y 0, 40, .inl x_figure)), (qx 6, .inl (Y 0, 40, .inl x_low)), (qx 7, .inl (Y 0, 40, .inl x_high))] s.heap.size [(qx 0, oX9 qx x_points x_lines x_tide x_isKept x_isMuch x_sum x_once x_twice x_isTermMuch x_nodes x_newMany x_isTooGreat x_come x_foundSet), (qx 4, .inl (Y 0, 40, .inl x_kind)), (qx 5, .inl (Y 0, 40, .inl x_figure)), (qx 6, .inl (Y 0, 40, .inl x_low)), (qx 7, .inl (Y 0, 40, .inl x_high))]) A) [.ref (qx 0), .long p1].toArray s 0 0 A) (F0 m 0 ls []) := by
    intro H locs hP hD hS ls hl
    unfold f_X9_worth at hf
    refine lv_aload_n hx hb dX9_worth_0 rfl (lv_at hl 0 rfl) ?_
    refine lv_lload_n hx hb dX9_worth_1 rfl (lv_at hl 1 rfl) ?_
    obtain ⟨r19, hc, hf⟩ := bd1 hf
    refine cl_i (ws' := [(qx 0, oX9 qx x_points x_lines x_tide x_isKept x_isMuch x_sum x_once x_twice x_isTermMuch x_nodes x_newMany x_isTooGreat x_come x_foundSet), (qx 4, .inl (Y 0, 40, .inl x_kind)), (qx 5, .inl (Y 0, 40, .inl x_figure)), (qx 6, .inl (Y 0, 40, .inl x_low)), (qx 7, .inl (Y 0, 40, .inl x_high))]) (wr := [(qx 4, .inl (Y 0, 40, .inl x_kind)), (qx 5, .inl (Y 0, 40, .inl x_figure)), (qx 6, .inl (Y 0, 40, .inl x_low)), (qx 7, .inl (Y 0, 40, .inl x_high))]) (rnV (As := [.long p1]) (rest := []) ⟨hx, hb, hml, hown, hts⟩ (c_X9_areLines l G Y H.size qx x_points x_lines x_tide x_isKept x_isMuch x_sum x_once x_twice x_isTermMuch x_nodes x_newMany x_isTooGreat x_come x_foundSet p1 r19 hc) (cwV 1 hts gX9_worth_X9_areLines rfl rfl rfl (by decide +kernel) ⟨(Nat.le_of_ble_eq_true rfl), (Nat.le_of_ble_eq_true rfl)⟩) trivial okT hK hP hD [0] rfl rfl (ci := 7) (q0 := 0) rfl rfl rfl rfl hl.1 rfl (Nat.le_of_ble_eq_true rfl) dX9_worth_2) hP hD hS hA [0] [1, 2, 3, 4] [4, 0, 1, 2, 3] rfl rfl rfl (by decide) rfl rfl (fun H locs hP hD hS => ?_)
    refine lv_if_ne (tgt := 14) hx hb dX9_worth_5 (by decide) (fun c20 => ?_) (fun c20 => ?_)
    · have hf := ie hf c20
      refine lv_aload_n hx hb dX9_worth_14 rfl (lv_at hl 0 rfl) ?_
      refine lv_lload_n hx hb dX9_worth_15 rfl (lv_at hl 1 rfl) ?_
      obtain ⟨r21, hc, hf⟩ := bd1 hf
      refine cl_i (ws' := [(qx 0, oX9 qx x_points x_lines x_tide x_isKept x_isMuch x_sum x_once x_twice x_isTermMuch x_nodes x_newMany x_isTooGreat x_come x_foundSet), (qx 4, .inl (Y 0, 40, .inl x_kind)), (qx 5, .inl (Y 0, 40, .inl x_figure)), (qx 6, .inl (Y 0, 40, .inl x_low)), (qx 7, .inl (Y 0, 40, .inl x_high))]) (wr := [(qx 4, .inl (Y 0, 40, .inl x_kind)), (qx 5, .inl (Y 0, 40, .inl x_figure))]) (rnV (As := [.long p1]) (rest := []) ⟨hx, hb, hml, hown, hts⟩ (c_X9_arePaired l G Y H.size qx x_points x_lines x_tide x_low x_high x_isKept x_isMuch x_sum x_once x_twice x_isTermMuch x_nodes x_newMany x_isTooGreat x_come x_foundSet p1 r21 hc) (cwV 1 hts gX9_worth_X9_arePaired rfl rfl rfl (by decide +kernel) ⟨(Nat.le_of_ble_eq_true rfl), (Nat.le_of_ble_eq_true rfl)⟩) trivial okT hK hP hD [0, 3, 4] rfl rfl (ci := 7) (q0 := 0) rfl rfl rfl rfl hl.1 rfl (Nat.le_of_ble_eq_true rfl) dX9_worth_16) hP hD hS hA [0, 3, 4] [1, 2] [2, 0, 1, 3, 4] rfl rfl rfl (by decide) rfl rfl (fun H locs hP hD hS => ?_)
      refine lv_if_ne (tgt := 28) hx hb dX9_worth_19 (by decide) (fun c22 => ?_) (fun c22 => ?_)
      · have hf := ie hf c22
        refine lv_lconst (v := 1) hx hb dX9_worth_28 (by decide) ?_
        refine lv_lstore_n (lv' := [(3, .long (1 : Int64)), (0, .ref (qx 0)), (1, .long p1)]) hx hb dX9_worth_29 rfl hl (by decide) rfl (fun ls hl => ?_)
        refine lv_iconst (v := 0) hx hb dX9_worth_30 (by decide) ?_
        refine lv_istore (lv' := [(5, .int (0 : Int32)), (3, .long (1 : Int64)), (0, .ref (qx 0)), (1, .long p1)]) hx hb dX9_worth_31 hl (by decide) rfl (fun ls hl => ?_)
        refine lv_iconst (v := 0) hx hb dX9_worth_33 (by decide) ?_
        refine lv_istore (lv' := [(6, .int (0 : Int32)), (5, .int (0 : Int32)), (3, .long (1 : Int64)), (0, .ref (qx 0)), (1, .long p1)]) hx hb dX9_worth_34 hl (by decide) rfl (fun ls hl => ?_)
        exact B36 70 (1 : Int64) (0 : Int32) (0 : Int32) hf _ _ hP hD hS ls (lv_sub hl [3, 4, 2, 1, 0] rfl)
      · have hf := it hf c22
        refine lv_bipush (v := -3) hx hb dX9_worth_22 (by decide) ?_
        obtain ⟨r23, hc, hf⟩ := bd1 hf
        refine cl_l (ws' := [(qx 0, oX9 qx x_points x_lines x_tide x_isKept x_isMuch x_sum x_once x_twice x_isTermMuch x_nodes x_newMany x_isTooGreat x_come x_foundSet), (qx 4, .inl (Y 0, 40, .inl x_kind)), (qx 5, .inl (Y 0, 40, .inl x_figure)), (qx 6, .inl (Y 0, 40, .inl x_low)), (qx 7, .inl (Y 0, 40, .inl x_high))]) (wr := [(qx 0, oX9 qx x_points x_lines x_tide x_isKept x_isMuch x_sum x_once x_twice x_isTermMuch x_nodes x_newMany x_isTooGreat x_come x_foundSet), (qx 4, .inl (Y 0, 40, .inl x_kind)), (qx 5, .inl (Y 0, 40, .inl x_figure)), (qx 6, .inl (Y 0, 40, .inl x_low)), (qx 7, .inl (Y 0, 40, .inl x_high))]) (rnS (As := [.int (-3 : Int32)]) (rest := []) ⟨hx, hb, hml, hown, hts⟩ (c_X9_told l G Y H.size (-3 : Int32) r23 hc) (va_cwS 1 hts gX9_worth_X9_told rfl rfl rfl (by decide +kernel) ⟨(Nat.le_of_ble_eq_true rfl), (Nat.le_of_ble_eq_true rfl)⟩) trivial okT hK hP hD [] rfl rfl rfl hl.1 rfl (Nat.le_of_ble_eq_true rfl) dX9_worth_24) hP hD hS hA [] [0, 1, 2, 3, 4] [0, 1, 2, 3, 4] rfl rfl rfl (by decide) rfl rfl (fun H locs hP hD hS => ?_)
        have e0 := rt1 hf
        exact W.lret (v := r23) hx hb hr (fun t ht hW => ⟨⟨r23, (), rfl, e0, by rw [ht]; exact hP, va_K.moved hW.alike hK, by rw [hAe]; exact hD⟩, hS.F ht⟩) hS.2.2 dX9_worth_27
    · have hf := it hf c20
      refine lv_bipush (v := -2) hx hb dX9_worth_8 (by decide) ?_
      obtain ⟨r24, hc, hf⟩ := bd1 hf
      refine cl_l (ws' := [(qx 0, oX9 qx x_points x_lines x_tide x_isKept x_isMuch x_sum x_once x_twice x_isTermMuch x_nodes x_newMany x_isTooGreat x_come x_foundSet), (qx 4, .inl (Y 0, 40, .inl x_kind)), (qx 5, .inl (Y 0, 40, .inl x_figure)), (qx 6, .inl (Y 0, 40, .inl x_low)), (qx 7, .inl (Y 0, 40, .inl x_high))]) (wr := [(qx 0, oX9 qx x_points x_lines x_tide x_isKept x_isMuch x_sum x_once x_twice x_isTermMuch x_nodes x_newMany x_isTooGreat x_come x_foundSet), (qx 4, .inl (Y 0, 40, .inl x_kind)), (qx 5, .inl (Y 0, 40, .inl x_figure)), (qx 6, .inl (Y 0, 40, .inl x_low)), (qx 7, .inl (Y 0, 40, .inl x_high))]) (rnS (As := [.int (-2 : Int32)]) (rest := []) ⟨hx, hb, hml, hown, hts⟩ (c_X9_told l G Y H.size (-2 : Int32) r24 hc) (va_cwS 1 hts gX9_worth_X9_told rfl rfl rfl (by decide +kernel) ⟨(Nat.le_of_ble_eq_true rfl), (Nat.le_of_ble_eq_true rfl)⟩) trivial okT hK hP hD [] rfl rfl rfl hl.1 rfl (Nat.le_of_ble_eq_true rfl) dX9_worth_10) hP hD hS hA [] [0, 1, 2, 3, 4] [0, 1, 2, 3, 4] rfl rfl rfl (by decide) rfl rfl (fun H locs hP hD hS => ?_)
      have e0 := rt1 hf
      exact W.lret (v := r24) hx hb hr (fun t ht hW => ⟨⟨r24, (), rfl, e0, by rw [ht]; exact hP, va_K.moved hW.alike hK, by rw [hAe]; exact hD⟩, hS.F ht⟩) hS.2.2 dX9_worth_13
  exact E0 s.heap [] hP hD hS ls hl
