-- X9_turns
set_option maxRecDepth 100000 in
set_option maxHeartbeats 4000000 in
theorem c_X9_turns (l : Launch) (G : va_G) (Y : Nat → ClassId) (sz : Nat) (qx : Nat → Nat) (x_points : Int32) (x_lines : Int32) (x_tide : Int32) (x_kind : Nat → Int32) (x_isKept : Int32) (x_isMuch : Int32) (x_sum : Int64) (x_once : Int64) (x_twice : Int64) (x_isTermMuch : Int32) (x_nodes : Int32) (x_newMany : Int32) (x_isTooGreat : Int32) (x_come : Int32) (x_foundSet : Int64) (p1 : Int32) (p2 : Int32) (rv : Int32) (o_x_kind : Nat → Int32) (hf : f_X9_turns x_lines x_kind p1 p2 = some (rv, o_x_kind)) : Met l yX9_turns wsX9_turns (rmk 2 46) (va_Pc [.ref (qx 0), .int p1, .int p2] (Pre G (tys Y) [(qx 0, oX9 qx x_points x_lines x_tide x_isKept x_isMuch x_sum x_once x_twice x_isTermMuch x_nodes x_newMany x_isTooGreat x_come x_foundSet), (qx 4, .inl (Y 0, 40, .inl x_kind))] sz xT)) (va_Qi (fun (r : Int32) (_ : Unit) => r = rv) (Pst G (tys Y) [(qx 0, oX9 qx x_points x_lines x_tide x_isKept x_isMuch x_sum x_once x_twice x_isTermMuch x_nodes x_newMany x_isTooGreat x_come x_foundSet), (qx 4, .inl (Y 0, 40, .inl x_kind))] sz [(qx 0, oX9 qx x_points x_lines x_tide x_isKept x_isMuch x_sum x_once x_twice x_isTermMuch x_nodes x_newMany x_isTooGreat x_come x_foundSet), (qx 4, .inl (Y 0, 40, .inl o_x_kind))]) (va_A [(qx 0, oX9 qx x_points x_lines x_tide x_isKept x_isMuch x_sum x_once x_twice x_isTermMuch x_nodes x_newMany x_isTooGreat x_come x_foundSet), (qx 4, .inl (Y 0, 40, .inl x_kind))] sz)) 0 0 (va_A [(qx 0, oX9 qx x_points x_lines x_tide x_isKept x_isMuch x_sum x_once x_twice x_isTermMuch x_nodes x_newMany x_isTooGreat x_come x_foundSet), (qx 4, .inl (Y 0, 40, .inl x_kind))] sz) := by
  refine Met.ofW (cc := cX9_turns) (maxL := 4) (ret := (some .int)) (by decide) rfl ?_
  intro p e s m args below meth c s₁ B hml hv
  obtain ⟨rfl, hsz, hP, hK, hD0, hX⟩ := hv
  have hx := B.exec
  have hb := B.bytes
  have hr := B.returns
  have hts := atoms_spec (ws := wsX9_turns) B.pre
  have hown : s.vm.findClass RX9 = some m.cls := findClass_of_methodNamed B.named
  have hlocks := B.notSynchronized
  subst hsz
  have hD := hD0.self (sz := s.heap.size)
  generalize hAe : va_A [(qx 0, oX9 qx x_points x_lines x_tide x_isKept x_isMuch x_sum x_once x_twice x_isTermMuch x_nodes x_newMany x_isTooGreat x_come x_foundSet), (qx 4, .inl (Y 0, 40, .inl x_kind))] s.heap.size = A at hD ⊢
  have hA : ∀ q : Nat, s.heap.size ≤ q → A q := fun q h => by rw [← hAe]; exact Or.inr h
  have hS : va_S A s.heap s.heap [] := va_S.rf
  have hP : va_P G vwCl [(qx 0, oX9 qx x_points x_lines x_tide x_isKept x_isMuch x_sum x_once x_twice x_isTermMuch x_nodes x_newMany x_isTooGreat x_come x_foundSet), (qx 4, .inl (Y 0, 40, .inl x_kind))] s.heap := hP
  have wd1 : (Cond.constantLong RX9 120 (5)).before [.ref (qx 0), .int p1, .int p2].toArray s = true := hts _ (List.mem_of_getElem? (i := 1) rfl)
  have wd2 : (Cond.fieldLink RX9 9 "PairedLinesModel" "kind" "[I").before [.ref (qx 0), .int p1, .int p2].toArray s = true := hts _ (List.mem_of_getElem? (i := 2) rfl)
  have inX9w : ∀ w ∈ u_ws RX9 TX9 37, w ∈ wsX9_turns := fun w hw => List.mem_cons_of_mem _ (List.mem_append_right _ (hw))
  have hl := lv_entry ([.ref (qx 0), .int p1, .int p2]) (n := 4) (Nat.le_of_ble_eq_true rfl)
  rw [lg_entry_eq]
  generalize (lg_sl ([.ref (qx 0), .int p1, .int p2]) ++ List.replicate (4 - (lg_sl ([.ref (qx 0), .int p1, .int p2])).length) Slot.unset).toArray = ls at hl ⊢
  have hl : lv_has ls 4 [(0, .ref (qx 0)), (1, .int p1), (2, .int p2)] := hl
  have E0 : ∀ (H : Heap) (locs : List Loc), va_P G vwCl [(qx 0, oX9 qx x_points x_lines x_tide x_isKept x_isMuch x_sum x_once x_twice x_isTermMuch x_nodes x_newMany x_isTooGreat x_come x_foundSet), (qx 4, .inl (Y 0, 40, .inl x_kind))] H → va_D A [(qx 0, oX9 qx x_points x_lines x_tide x_isKept x_isMuch x_sum x_once x_twice x_isTermMuch x_nodes x_newMany x_isTooGreat x_come x_foundSet), (qx 4, .inl (Y 0, 40, .inl x_kind))] → va_S A s.heap H locs → ∀ (ls : Array Slot), lv_has ls 4 [(0, .ref (qx 0)), (1, .int p1), (2, .int p2)] → W p l e (headSpec wsX9_turns (rmk 2 46)).room s m [.ref (qx 0), .int p1, .int p2].toArray below meth c H locs 0 0 (MQ below (va_Qi (fun (r : Int32) (_ : Unit) => r = rv) (Pst G (tys Y) [(qx 0, oX9 qx x_points x_lines x_tide x_isKept x_isMuch x_sum x_once x_twice x_isTermMuch x_nodes x_newMany x_isTooGreat x_come x_foundSet), (qx 4, .inl (Y 0, 40, .inl x_kind))] s.heap.size [(qx 0, oX9 qx x_points x_lines x_tide x_isKept x_isMuch x_sum x_once x_twice x_isTermMuch x_nodes x_newMany x_isTooGreat x_come x_foundSet), (qx 4, .inl (Y 0, 40, .inl o_x_kind))]) A) [.ref (qx 0), .int p1, .int p2].toArray s 0 0 A) (F0 m 0 ls []) := by
    intro H locs hP hD hS ls hl
    unfold f_X9_turns at hf
    refine lv_aload_n hx hb dX9_turns_0 rfl (lv_at hl 0 rfl) ?_
    refine lv_iload_n hx hb dX9_turns_1 rfl (lv_at hl 1 rfl) ?_
    obtain ⟨r1, hc, hf⟩ := bd1 hf
    refine cl_i (ws' := [(qx 0, oX9 qx x_points x_lines x_tide x_isKept x_isMuch x_sum x_once x_twice x_isTermMuch x_nodes x_newMany x_isTooGreat x_come x_foundSet), (qx 4, .inl (Y 0, 40, .inl x_kind))]) (wr := [(qx 4, .inl (Y 0, 40, .inl x_kind))]) (rnV (As := [.int p1]) (rest := []) ⟨hx, hb, hml, hown, hts⟩ (c_X9_isLine l G Y H.size qx x_points x_lines x_tide x_isKept x_isMuch x_sum x_once x_twice x_isTermMuch x_nodes x_newMany x_isTooGreat x_come x_foundSet p1 r1 hc) (cwV 1 hts gX9_turns_X9_isLine rfl rfl rfl (by decide +kernel) ⟨(Nat.le_of_ble_eq_true rfl), (Nat.le_of_ble_eq_true rfl)⟩) trivial okT hK hP hD [0] rfl rfl (ci := 7) (q0 := 0) rfl rfl rfl rfl hl.1 rfl (Nat.le_of_ble_eq_true rfl) dX9_turns_2) hP hD hS hA [0] [1] [1, 0] rfl rfl rfl (by decide) rfl rfl (fun H locs hP hD hS => ?_)
    refine lv_if_eq (tgt := 20) hx hb dX9_turns_5 (by decide) (fun c2 => ?_) (fun c2 => ?_)
    · have hf := it hf c2
      refine lv_bipush (v := -2) hx hb dX9_turns_20 (by decide) ?_
      obtain ⟨e0, e1⟩ := rt2 hf
      have hP : va_P G vwCl [(qx 0, oX9 qx x_points x_lines x_tide x_isKept x_isMuch x_sum x_once x_twice x_isTermMuch x_nodes x_newMany x_isTooGreat x_come x_foundSet), (qx 4, .inl (Y 0, 40, .inl o_x_kind))] H := by rw [← e1]; exact hP
      have hD : va_D A [(qx 0, oX9 qx x_points x_lines x_tide x_isKept x_isMuch x_sum x_once x_twice x_isTermMuch x_nodes x_newMany x_isTooGreat x_come x_foundSet), (qx 4, .inl (Y 0, 40, .inl o_x_kind))] := by rw [← e1]; exact hD
      exact W.iret (v := (-2 : Int32)) hx hb hr (fun t ht hW => ⟨⟨(-2 : Int32), (), rfl, e0, by rw [ht]; exact hP, va_K.moved hW.alike hK, by rw [hAe]; exact hD⟩, hS.F ht⟩) hS.2.2 dX9_turns_22
    · have hf := ie hf c2
      refine lv_iload_n hx hb dX9_turns_8 rfl (lv_at hl 2 rfl) ?_
      refine lv_i2l hx hb dX9_turns_9 rfl ?_
      refine lv_lconst (v := 0) hx hb dX9_turns_10 (by decide) ?_
      refine lv_ldc2 hx hb hown wd1 dX9_turns_11 ?_
      obtain ⟨r3, hc, hf⟩ := bd1 hf
      refine cl_i (ws' := [(qx 0, oX9 qx x_points x_lines x_tide x_isKept x_isMuch x_sum x_once x_twice x_isTermMuch x_nodes x_newMany x_isTooGreat x_come x_foundSet), (qx 4, .inl (Y 0, 40, .inl x_kind))]) (wr := [(qx 0, oX9 qx x_points x_lines x_tide x_isKept x_isMuch x_sum x_once x_twice x_isTermMuch x_nodes x_newMany x_isTooGreat x_come x_foundSet), (qx 4, .inl (Y 0, 40, .inl x_kind))]) (rnS (As := [.long p2.toInt64, .long (0 : Int64), .long (5 : Int64)]) (rest := []) ⟨hx, hb, hml, hown, hts⟩ (c_X9_in l G Y H.size p2.toInt64 (0 : Int64) (5 : Int64) r3 hc) (va_cwS 3 hts gX9_turns_X9_in rfl rfl rfl (by decide +kernel) ⟨(Nat.le_of_ble_eq_true rfl), (Nat.le_of_ble_eq_true rfl)⟩) trivial okT hK hP hD [] rfl rfl rfl hl.1 rfl (Nat.le_of_ble_eq_true rfl) dX9_turns_14) hP hD hS hA [] [0, 1] [0, 1] rfl rfl rfl (by decide) rfl rfl (fun H locs hP hD hS => ?_)
      refine lv_if_ne (tgt := 23) hx hb dX9_turns_17 (by decide) (fun c4 => ?_) (fun c4 => ?_)
      · have hf := ie hf c4
        refine lv_aload_n hx hb dX9_turns_23 rfl (lv_at hl 0 rfl) ?_
        refine va_get (D := G) (ci := 7) (v := .ref (qx 4)) (C := RX9) (T := TX9) (N := 37) hx hb hts inX9w hown hK hP 0 rfl rfl 3 (by decide) wd2 (fun _ h9 => h9) rfl dX9_turns_24 ?_
        refine lv_iload_n hx hb dX9_turns_27 rfl (lv_at hl 1 rfl) ?_
        obtain ⟨g5, hf⟩ := gd hf
        refine va_iald hx hb hK hP 1 0 rfl rfl g5 dX9_turns_28 ?_
        refine lv_topi (fun v6 e_v6 => ?_)
        have hf := nm_at hf e_v6
        refine lv_istore_n (lv' := [(3, .int v6), (0, .ref (qx 0)), (1, .int p1), (2, .int p2)]) hx hb dX9_turns_29 rfl hl (by decide) rfl (fun ls hl => ?_)
        refine lv_aload_n hx hb dX9_turns_30 rfl (lv_at hl 1 rfl) ?_
        refine va_get (D := G) (ci := 7) (v := .ref (qx 4)) (C := RX9) (T := TX9) (N := 37) hx hb hts inX9w hown hK hP 0 rfl rfl 3 (by decide) wd2 (fun _ h9 => h9) rfl dX9_turns_31 ?_
        refine lv_iload_n hx hb dX9_turns_34 rfl (lv_at hl 2 rfl) ?_
        refine lv_iload_n hx hb dX9_turns_35 rfl (lv_at hl 3 rfl) ?_
        obtain ⟨g7, hf⟩ := gd hf
        refine va_iast hx hb hK hP hD hS 1 0 rfl rfl g7 dX9_turns_36 (fun H locs hP hD hS => ?_)
        obtain ⟨v8, e_v8⟩ : ∃ z : Nat → Int32, z = upd x_kind p1.toNatClampNeg p2 := ⟨_, rfl⟩
        have hf := nm_at hf e_v8
        have hP : va_P G vwCl [(qx 0, oX9 qx x_points x_lines x_tide x_isKept x_isMuch x_sum x_once x_twice x_isTermMuch x_nodes x_newMany x_isTooGreat x_come x_foundSet), (qx 4, .inl (Y 0, 40, .inl v8))] H := by rw [e_v8]; exact hP
        have hD : va_D A [(qx 0, oX9 qx x_points x_lines x_tide x_isKept x_isMuch x_sum x_once x_twice x_isTermMuch x_nodes x_newMany x_isTooGreat x_come x_foundSet), (qx 4, .inl (Y 0, 40, .inl v8))] := by rw [e_v8]; exact hD
        refine lv_iload_n hx hb dX9_turns_37 rfl (lv_at hl 0 rfl) ?_
        obtain ⟨e0, e1⟩ := rt2 hf
        have hP : va_P G vwCl [(qx 0, oX9 qx x_points x_lines x_tide x_isKept x_isMuch x_sum x_once x_twice x_isTermMuch x_nodes x_newMany x_isTooGreat x_come x_foundSet), (qx 4, .inl (Y 0, 40, .inl o_x_kind))] H := by rw [← e1]; exact hP
        have hD : va_D A [(qx 0, oX9 qx x_points x_lines x_tide x_isKept x_isMuch x_sum x_once x_twice x_isTermMuch x_nodes x_newMany x_isTooGreat x_come x_foundSet), (qx 4, .inl (Y 0, 40, .inl o_x_kind))] := by rw [← e1]; exact hD
        exact W.iret (v := v6) hx hb hr (fun t ht hW => ⟨⟨v6, (), rfl, e0, by rw [ht]; exact hP, va_K.moved hW.alike hK, by rw [hAe]; exact hD⟩, hS.F ht⟩) hS.2.2 dX9_turns_38
      · have hf := it hf c4
        refine lv_bipush (v := -2) hx hb dX9_turns_20 (by decide) ?_
        obtain ⟨e0, e1⟩ := rt2 hf
        have hP : va_P G vwCl [(qx 0, oX9 qx x_points x_lines x_tide x_isKept x_isMuch x_sum x_once x_twice x_isTermMuch x_nodes x_newMany x_isTooGreat x_come x_foundSet), (qx 4, .inl (Y 0, 40, .inl o_x_kind))] H := by rw [← e1]; exact hP
        have hD : va_D A [(qx 0, oX9 qx x_points x_lines x_tide x_isKept x_isMuch x_sum x_once x_twice x_isTermMuch x_nodes x_newMany x_isTooGreat x_come x_foundSet), (qx 4, .inl (Y 0, 40, .inl o_x_kind))] := by rw [← e1]; exact hD
        exact W.iret (v := (-2 : Int32)) hx hb hr (fun t ht hW => ⟨⟨(-2 : Int32), (), rfl, e0, by rw [ht]; exact hP, va_K.moved hW.alike hK, by rw [hAe]; exact hD⟩, hS.F ht⟩) hS.2.2 dX9_turns_22
  exact E0 s.heap [] hP hD hS ls hl
-- X9_drop
set_option maxRecDepth 100000 in
set_option maxHeartbeats 4000000 in
theorem c_X9_drop (l : Launch) (G : va_G) (Y : Nat → ClassId) (sz : Nat) (qx : Nat → Nat) (x_points : Int32) (x_lines : Int32) (x_tide : Int32) (x_kind : Nat → Int32) (x_figure : Nat → Int32) (x_low : Nat → Int32) (x_high : Nat → Int32) (x_isKept : Int32) (x_isMuch : Int32) (x_sum : Int64) (x_once : Int64) (x_twice : Int64) (x_isTermMuch : Int32) (x_nodes : Int32) (x_newMany : Int32) (x_isTooGreat : Int32) (x_come : Int32) (x_foundSet : Int64) (p1 : Int32) (rv : Int32) (o_x_lines : Int32) (o_x_kind : Nat → Int32) (o_x_figure : Nat → Int32) (o_x_low : Nat → Int32) (o_x_high : Nat → Int32) (hf : f_X9_drop x_lines x_kind x_figure x_low x_high p1 = some (rv, o_x_lines, o_x_kind, o_x_figure, o_x_low, o_x_high)) : Met l yX9_drop wsX9_drop (rmk 2 46) (va_Pc [.ref (qx 0), .int p1] (Pre G (tys Y) [(qx 0, oX9 qx x_points x_lines x_tide x_isKept x_isMuch x_sum x_once x_twice x_isTermMuch x_nodes x_newMany x_isTooGreat x_come x_foundSet), (qx 4, .inl (Y 0, 40, .inl x_kind)), (qx 5, .inl (Y 0, 40, .inl x_figure)), (qx 6, .inl (Y 0, 40, .inl x_low)), (qx 7, .inl (Y 0, 40, .inl x_high))] sz xT)) (va_Qi (fun (r : Int32) (_ : Unit) => r = rv) (Pst G (tys Y) [(qx 0, oX9 qx x_points x_lines x_tide x_isKept x_isMuch x_sum x_once x_twice x_isTermMuch x_nodes x_newMany x_isTooGreat x_come x_foundSet), (qx 4, .inl (Y 0, 40, .inl x_kind)), (qx 5, .inl (Y 0, 40, .inl x_figure)), (qx 6, .inl (Y 0, 40, .inl x_low)), (qx 7, .inl (Y 0, 40, .inl x_high))] sz [(qx 0, oX9 qx x_points o_x_lines x_tide x_isKept x_isMuch x_sum x_once x_twice x_isTermMuch x_nodes x_newMany x_isTooGreat x_come x_foundSet), (qx 4, .inl (Y 0, 40, .inl o_x_kind)), (qx 5, .inl (Y 0, 40, .inl o_x_figure)), (qx 6, .inl (Y 0, 40, .inl o_x_low)), (qx 7, .inl (Y 0, 40, .inl o_x_high))]) (va_A [(qx 0, oX9 qx x_points x_lines x_tide x_isKept x_isMuch x_sum x_once x_twice x_isTermMuch x_nodes x_newMany x_isTooGreat x_come x_foundSet), (qx 4, .inl (Y 0, 40, .inl x_kind)), (qx 5, .inl (Y 0, 40, .inl x_figure)), (qx 6, .inl (Y 0, 40, .inl x_low)), (qx 7, .inl (Y 0, 40, .inl x_high))] sz)) 0 0 (va_A [(qx 0, oX9 qx x_points x_lines x_tide x_isKept x_isMuch x_sum x_once x_twice x_isTermMuch x_nodes x_newMany x_isTooGreat x_come x_foundSet), (qx 4, .inl (Y 0, 40, .inl x_kind)), (qx 5, .inl (Y 0, 40, .inl x_figure)), (qx 6, .inl (Y 0, 40, .inl x_low)), (qx 7, .inl (Y 0, 40, .inl x_high))] sz) := by
  refine Met.ofW (cc := cX9_drop) (maxL := 3) (ret := (some .int)) (by decide) rfl ?_
  intro p e s m args below meth c s₁ B hml hv
  obtain ⟨rfl, hsz, hP, hK, hD0, hX⟩ := hv
  have hx := B.exec
  have hb := B.bytes
  have hr := B.returns
  have hts := atoms_spec (ws := wsX9_drop) B.pre
  have hown : s.vm.findClass RX9 = some m.cls := findClass_of_methodNamed B.named
  have hlocks := B.notSynchronized
  subst hsz
  have hD := hD0.self (sz := s.heap.size)
  generalize hAe : va_A [(qx 0, oX9 qx x_points x_lines x_tide x_isKept x_isMuch x_sum x_once x_twice x_isTermMuch x_nodes x_newMany x_isTooGreat x_come x_foundSet), (qx 4, .inl (Y 0, 40, .inl x_kind)), (qx 5, .inl (Y 0, 40, .inl x_figure)), (qx 6, .inl (Y 0, 40, .inl x_low)), (qx 7, .inl (Y 0, 40, .inl x_high))] s.heap.size = A at hD ⊢
  have hA : ∀ q : Nat, s.heap.size ≤ q → A q := fun q h => by rw [← hAe]; exact Or.inr h
  have hS : va_S A s.heap s.heap [] := va_S.rf
  have hP : va_P G vwCl [(qx 0, oX9 qx x_points x_lines x_tide x_isKept x_isMuch x_sum x_once x_twice x_isTermMuch x_nodes x_newMany x_isTooGreat x_come x_foundSet), (qx 4, .inl (Y 0, 40, .inl x_kind)), (qx 5, .inl (Y 0, 40, .inl x_figure)), (qx 6, .inl (Y 0, 40, .inl x_low)), (qx 7, .inl (Y 0, 40, .inl x_high))] s.heap := hP
  have wd1 : (Cond.fieldLink RX9 100 "PairedLinesModel" "lines" "I").before [.ref (qx 0), .int p1].toArray s = true := hts _ (List.mem_of_getElem? (i := 1) rfl)
  have wd2 : (Cond.fieldLink RX9 9 "PairedLinesModel" "kind" "[I").before [.ref (qx 0), .int p1].toArray s = true := hts _ (List.mem_of_getElem? (i := 2) rfl)
  have wd3 : (Cond.fieldLink RX9 13 "PairedLinesModel" "figure" "[I").before [.ref (qx 0), .int p1].toArray s = true := hts _ (List.mem_of_getElem? (i := 3) rfl)
  have wd4 : (Cond.fieldLink RX9 16 "PairedLinesModel" "low" "[I").before [.ref (qx 0), .int p1].toArray s = true := hts _ (List.mem_of_getElem? (i := 4) rfl)
  have wd5 : (Cond.fieldLink RX9 19 "PairedLinesModel" "high" "[I").before [.ref (qx 0), .int p1].toArray s = true := hts _ (List.mem_of_getElem? (i := 5) rfl)
  have inX9w : ∀ w ∈ u_ws RX9 TX9 37, w ∈ wsX9_drop := fun w hw => List.mem_cons_of_mem _ (List.mem_append_right _ (hw))
  have hl := lv_entry ([.ref (qx 0), .int p1]) (n := 3) (Nat.le_of_ble_eq_true rfl)
  rw [lg_entry_eq]
  generalize (lg_sl ([.ref (qx 0), .int p1]) ++ List.replicate (3 - (lg_sl ([.ref (qx 0), .int p1])).length) Slot.unset).toArray = ls at hl ⊢
  have hl : lv_has ls 3 [(0, .ref (qx 0)), (1, .int p1)] := hl
  have B23 : ∀ (n23 : Nat), ∀ (b_x_lines : Int32) (b_x_kind : Nat → Int32) (b_x_figure : Nat → Int32) (b_x_low : Nat → Int32) (b_x_high : Nat → Int32) (x2 : Int32), f_X9_drop_b23 p1 n23 b_x_lines b_x_kind b_x_figure b_x_low b_x_high x2 = some (rv, o_x_lines, o_x_kind, o_x_figure, o_x_low, o_x_high) → ∀ (H : Heap) (locs : List Loc), va_P G vwCl [(qx 0, oX9 qx x_points b_x_lines x_tide x_isKept x_isMuch x_sum x_once x_twice x_isTermMuch x_nodes x_newMany x_isTooGreat x_come x_foundSet), (qx 4, .inl (Y 0, 40, .inl b_x_kind)), (qx 5, .inl (Y 0, 40, .inl b_x_figure)), (qx 6, .inl (Y 0, 40, .inl b_x_low)), (qx 7, .inl (Y 0, 40, .inl b_x_high))] H → va_D A [(qx 0, oX9 qx x_points b_x_lines x_tide x_isKept x_isMuch x_sum x_once x_twice x_isTermMuch x_nodes x_newMany x_isTooGreat x_come x_foundSet), (qx 4, .inl (Y 0, 40, .inl b_x_kind)), (qx 5, .inl (Y 0, 40, .inl b_x_figure)), (qx 6, .inl (Y 0, 40, .inl b_x_low)), (qx 7, .inl (Y 0, 40, .inl b_x_high))] → va_S A s.heap H locs → ∀ (ls : Array Slot), lv_has ls 3 [(0, .ref (qx 0)), (2, .int x2)] → W p l e (headSpec wsX9_drop (rmk 2 46)).room s m [.ref (qx 0), .int p1].toArray below meth c H locs 0 0 (MQ below (va_Qi (fun (r : Int32) (_ : Unit) => r = rv) (Pst G (tys Y) [(qx 0, oX9 qx x_points x_lines x_tide x_isKept x_isMuch x_sum x_once x_twice x_isTermMuch x_nodes x_newMany x_isTooGreat x_come x_foundSet), (qx 4, .inl (Y 0, 40, .inl x_kind)), (qx 5, .inl (Y 0, 40, .inl x_figure)), (qx 6, .inl (Y 0, 40, .inl x_low)), (qx 7, .inl (Y 0, 40, .inl x_high))] s.heap.size [(qx 0, oX9 qx x_points o_x_lines x_tide x_isKept x_isMuch x_sum x_once x_twice x_isTermMuch x_nodes x_newMany x_isTooGreat x_come x_foundSet), (qx 4, .inl (Y 0, 40, .inl o_x_kind)), (qx 5, .inl (Y 0, 40, .inl o_x_figure)), (qx 6, .inl (Y 0, 40, .inl o_x_low)), (qx 7, .inl (Y 0, 40, .inl o_x_high))]) A) [.ref (qx 0), .int p1].toArray s 0 0 A) (F0 m 23 ls []) := by
    intro n23
    induction n23 with
    | zero =>
      intro b_x_lines b_x_kind b_x_figure b_x_low b_x_high x2 hf H locs hP hD hS ls hl
      exact no_none hf
    | succ n23 ih23 =>
      intro b_x_lines b_x_kind b_x_figure b_x_low b_x_high x2 hf H locs hP hD hS ls hl
      have hf : f_X9_drop_s23 p1 (f_X9_drop_b23 p1  n23) b_x_lines b_x_kind b_x_figure b_x_low b_x_high x2 = some (rv, o_x_lines, o_x_kind, o_x_figure, o_x_low, o_x_high) := hf
      unfold f_X9_drop_s23 at hf
      refine lv_iload_n hx hb dX9_drop_23 rfl (lv_at hl 1 rfl) ?_
      refine lv_aload_n hx hb dX9_drop_24 rfl (lv_at hl 0 rfl) ?_
      refine va_get (D := G) (ci := 7) (v := .int b_x_lines) (C := RX9) (T := TX9) (N := 37) hx hb hts inX9w hown hK hP 0 rfl rfl 1 (by decide) wd1 (fun _ h9 => h9) rfl dX9_drop_25 ?_
      refine lv_icmp_ge (tgt := 93) hx hb dX9_drop_28 (by decide) (fun c1 => ?_) (fun c1 => ?_)
      · have hf := it hf c1
        refine lv_aload_n hx hb dX9_drop_93 rfl (lv_at hl 0 rfl) ?_
        refine va_get (D := G) (ci := 7) (v := .int b_x_lines) (C := RX9) (T := TX9) (N := 37) hx hb hts inX9w hown hK hP 0 rfl rfl 1 (by decide) wd1 (fun _ h9 => h9) rfl dX9_drop_94 ?_
        obtain ⟨e0, e1, e2, e3, e4, e5⟩ := rt6 hf
        have hP : va_P G vwCl [(qx 0, oX9 qx x_points o_x_lines x_tide x_isKept x_isMuch x_sum x_once x_twice x_isTermMuch x_nodes x_newMany x_isTooGreat x_come x_foundSet), (qx 4, .inl (Y 0, 40, .inl o_x_kind)), (qx 5, .inl (Y 0, 40, .inl o_x_figure)), (qx 6, .inl (Y 0, 40, .inl o_x_low)), (qx 7, .inl (Y 0, 40, .inl o_x_high))] H := by rw [← e1, ← e2, ← e3, ← e4, ← e5]; exact hP
        have hD : va_D A [(qx 0, oX9 qx x_points o_x_lines x_tide x_isKept x_isMuch x_sum x_once x_twice x_isTermMuch x_nodes x_newMany x_isTooGreat x_come x_foundSet), (qx 4, .inl (Y 0, 40, .inl o_x_kind)), (qx 5, .inl (Y 0, 40, .inl o_x_figure)), (qx 6, .inl (Y 0, 40, .inl o_x_low)), (qx 7, .inl (Y 0, 40, .inl o_x_high))] := by rw [← e1, ← e2, ← e3, ← e4, ← e5]; exact hD
        exact W.iret (v := b_x_lines) hx hb hr (fun t ht hW => ⟨⟨b_x_lines, (), rfl, e0, by rw [ht]; exact hP, va_K.moved hW.alike hK, by rw [hAe]; exact hD⟩, hS.F ht⟩) hS.2.2 dX9_drop_97
      · have hf := ie hf c1
        refine lv_aload_n hx hb dX9_drop_31 rfl (lv_at hl 0 rfl) ?_
        refine va_get (D := G) (ci := 7) (v := .ref (qx 4)) (C := RX9) (T := TX9) (N := 37) hx hb hts inX9w hown hK hP 0 rfl rfl 3 (by decide) wd2 (fun _ h9 => h9) rfl dX9_drop_32 ?_
        refine lv_iload_n hx hb dX9_drop_35 rfl (lv_at hl 1 rfl) ?_
        refine lv_aload_n hx hb dX9_drop_36 rfl (lv_at hl 0 rfl) ?_
        refine va_get (D := G) (ci := 7) (v := .ref (qx 4)) (C := RX9) (T := TX9) (N := 37) hx hb hts inX9w hown hK hP 0 rfl rfl 3 (by decide) wd2 (fun _ h9 => h9) rfl dX9_drop_37 ?_
        refine lv_iload_n hx hb dX9_drop_40 rfl (lv_at hl 1 rfl) ?_
        refine lv_iconst (v := 1) hx hb dX9_drop_41 (by decide) ?_
        refine lv_iadd hx hb dX9_drop_42 ?_
        obtain ⟨g2, hf⟩ := gd hf
        refine va_iald hx hb hK hP 1 0 rfl rfl g2 dX9_drop_43 ?_
        obtain ⟨g3, hf⟩ := gd hf
        refine va_iast hx hb hK hP hD hS 1 0 rfl rfl g3 dX9_drop_44 (fun H locs hP hD hS => ?_)
        obtain ⟨v4, e_v4⟩ : ∃ z : Nat → Int32, z = upd b_x_kind x2.toNatClampNeg (b_x_kind (x2 + (1 : Int32)).toNatClampNeg) := ⟨_, rfl⟩
        have hf := nm_at hf e_v4
        have hP : va_P G vwCl [(qx 0, oX9 qx x_points b_x_lines x_tide x_isKept x_isMuch x_sum x_once x_twice x_isTermMuch x_nodes x_newMany x_isTooGreat x_come x_foundSet), (qx 4, .inl (Y 0, 40, .inl v4)), (qx 5, .inl (Y 0, 40, .inl b_x_figure)), (qx 6, .inl (Y 0, 40, .inl b_x_low)), (qx 7, .inl (Y 0, 40, .inl b_x_high))] H := by rw [e_v4]; exact hP
        have hD : va_D A [(qx 0, oX9 qx x_points b_x_lines x_tide x_isKept x_isMuch x_sum x_once x_twice x_isTermMuch x_nodes x_newMany x_isTooGreat x_come x_foundSet), (qx 4, .inl (Y 0, 40, .inl v4)), (qx 5, .inl (Y 0, 40, .inl b_x_figure)), (qx 6, .inl (Y 0, 40, .inl b_x_low)), (qx 7, .inl (Y 0, 40, .inl b_x_high))] := by rw [e_v4]; exact hD
        refine lv_aload_n hx hb dX9_drop_45 rfl (lv_at hl 0 rfl) ?_
        refine va_get (D := G) (ci := 7) (v := .ref (qx 5)) (C := RX9) (T := TX9) (N := 37) hx hb hts inX9w hown hK hP 0 rfl rfl 4 (by decide) wd3 (fun _ h9 => h9) rfl dX9_drop_46 ?_
        refine lv_iload_n hx hb dX9_drop_49 rfl (lv_at hl 1 rfl) ?_
        refine lv_aload_n hx hb dX9_drop_50 rfl (lv_at hl 0 rfl) ?_
        refine va_get (D := G) (ci := 7) (v := .ref (qx 5)) (C := RX9) (T := TX9) (N := 37) hx hb hts inX9w hown hK hP 0 rfl rfl 4 (by decide) wd3 (fun _ h9 => h9) rfl dX9_drop_51 ?_
        refine lv_iload_n hx hb dX9_drop_54 rfl (lv_at hl 1 rfl) ?_
        refine lv_iconst (v := 1) hx hb dX9_drop_55 (by decide) ?_
        refine lv_iadd hx hb dX9_drop_56 ?_
        obtain ⟨g5, hf⟩ := gd hf
        refine va_iald hx hb hK hP 2 0 rfl rfl g5 dX9_drop_57 ?_
        obtain ⟨g6, hf⟩ := gd hf
        refine va_iast hx hb hK hP hD hS 2 0 rfl rfl g6 dX9_drop_58 (fun H locs hP hD hS => ?_)
        obtain ⟨v7, e_v7⟩ : ∃ z : Nat → Int32, z = upd b_x_figure x2.toNatClampNeg (b_x_figure (x2 + (1 : Int32)).toNatClampNeg) := ⟨_, rfl⟩
        have hf := nm_at hf e_v7
        have hP : va_P G vwCl [(qx 0, oX9 qx x_points b_x_lines x_tide x_isKept x_isMuch x_sum x_once x_twice x_isTermMuch x_nodes x_newMany x_isTooGreat x_come x_foundSet), (qx 4, .inl (Y 0, 40, .inl v4)), (qx 5, .inl (Y 0, 40, .inl v7)), (qx 6, .inl (Y 0, 40, .inl b_x_low)), (qx 7, .inl (Y 0, 40, .inl b_x_high))] H := by rw [e_v7]; exact hP
        have hD : va_D A [(qx 0, oX9 qx x_points b_x_lines x_tide x_isKept x_isMuch x_sum x_once x_twice x_isTermMuch x_nodes x_newMany x_isTooGreat x_come x_foundSet), (qx 4, .inl (Y 0, 40, .inl v4)), (qx 5, .inl (Y 0, 40, .inl v7)), (qx 6, .inl (Y 0, 40, .inl b_x_low)), (qx 7, .inl (Y 0, 40, .inl b_x_high))] := by rw [e_v7]; exact hD
        refine lv_aload_n hx hb dX9_drop_59 rfl (lv_at hl 0 rfl) ?_
        refine va_get (D := G) (ci := 7) (v := .ref (qx 6)) (C := RX9) (T := TX9) (N := 37) hx hb hts inX9w hown hK hP 0 rfl rfl 5 (by decide) wd4 (fun _ h9 => h9) rfl dX9_drop_60 ?_
        refine lv_iload_n hx hb dX9_drop_63 rfl (lv_at hl 1 rfl) ?_
        refine lv_aload_n hx hb dX9_drop_64 rfl (lv_at hl 0 rfl) ?_
        refine va_get (D := G) (ci := 7) (v := .ref (qx 6)) (C := RX9) (T := TX9) (N := 37) hx hb hts inX9w hown hK hP 0 rfl rfl 5 (by decide) wd4 (fun _ h9 => h9) rfl dX9_drop_65 ?_
        refine lv_iload_n hx hb dX9_drop_68 rfl (lv_at hl 1 rfl) ?_
        refine lv_iconst (v := 1) hx hb dX9_drop_69 (by decide) ?_
        refine lv_iadd hx hb dX9_drop_70 ?_
        obtain ⟨g8, hf⟩ := gd hf
        refine va_iald hx hb hK hP 3 0 rfl rfl g8 dX9_drop_71 ?_
        obtain ⟨g9, hf⟩ := gd hf
        refine va_iast hx hb hK hP hD hS 3 0 rfl rfl g9 dX9_drop_72 (fun H locs hP hD hS => ?_)
        obtain ⟨v10, e_v10⟩ : ∃ z : Nat → Int32, z = upd b_x_low x2.toNatClampNeg (b_x_low (x2 + (1 : Int32)).toNatClampNeg) := ⟨_, rfl⟩
        have hf := nm_at hf e_v10
        have hP : va_P G vwCl [(qx 0, oX9 qx x_points b_x_lines x_tide x_isKept x_isMuch x_sum x_once x_twice x_isTermMuch x_nodes x_newMany x_isTooGreat x_come x_foundSet), (qx 4, .inl (Y 0, 40, .inl v4)), (qx 5, .inl (Y 0, 40, .inl v7)), (qx 6, .inl (Y 0, 40, .inl v10)), (qx 7, .inl (Y 0, 40, .inl b_x_high))] H := by rw [e_v10]; exact hP
        have hD : va_D A [(qx 0, oX9 qx x_points b_x_lines x_tide x_isKept x_isMuch x_sum x_once x_twice x_isTermMuch x_nodes x_newMany x_isTooGreat x_come x_foundSet), (qx 4, .inl (Y 0, 40, .inl v4)), (qx 5, .inl (Y 0, 40, .inl v7)), (qx 6, .inl (Y 0, 40, .inl v10)), (qx 7, .inl (Y 0, 40, .inl b_x_high))] := by rw [e_v10]; exact hD
        refine lv_aload_n hx hb dX9_drop_73 rfl (lv_at hl 0 rfl) ?_
        refine va_get (D := G) (ci := 7) (v := .ref (qx 7)) (C := RX9) (T := TX9) (N := 37) hx hb hts inX9w hown hK hP 0 rfl rfl 6 (by decide) wd5 (fun _ h9 => h9) rfl dX9_drop_74 ?_
        refine lv_iload_n hx hb dX9_drop_77 rfl (lv_at hl 1 rfl) ?_
        refine lv_aload_n hx hb dX9_drop_78 rfl (lv_at hl 0 rfl) ?_
        refine va_get (D := G) (ci := 7) (v := .ref (qx 7)) (C := RX9) (T := TX9) (N := 37) hx hb hts inX9w hown hK hP 0 rfl rfl 6 (by decide) wd5 (fun _ h9 => h9) rfl dX9_drop_79 ?_
        refine lv_iload_n hx hb dX9_drop_82 rfl (lv_at hl 1 rfl) ?_
        refine lv_iconst (v := 1) hx hb dX9_drop_83 (by decide) ?_
        refine lv_iadd hx hb dX9_drop_84 ?_
        obtain ⟨g11, hf⟩ := gd hf
        refine va_iald hx hb hK hP 4 0 rfl rfl g11 dX9_drop_85 ?_
        obtain ⟨g12, hf⟩ := gd hf
        refine va_iast hx hb hK hP hD hS 4 0 rfl rfl g12 dX9_drop_86 (fun H locs hP hD hS => ?_)
        obtain ⟨v13, e_v13⟩ : ∃ z : Nat → Int32, z = upd b_x_high x2.toNatClampNeg (b_x_high (x2 + (1 : Int32)).toNatClampNeg) := ⟨_, rfl⟩
        have hf := nm_at hf e_v13
        have hP : va_P G vwCl [(qx 0, oX9 qx x_points b_x_lines x_tide x_isKept x_isMuch x_sum x_once x_twice x_isTermMuch x_nodes x_newMany x_isTooGreat x_come x_foundSet), (qx 4, .inl (Y 0, 40, .inl v4)), (qx 5, .inl (Y 0, 40, .inl v7)), (qx 6, .inl (Y 0, 40, .inl v10)), (qx 7, .inl (Y 0, 40, .inl v13))] H := by rw [e_v13]; exact hP
        have hD : va_D A [(qx 0, oX9 qx x_points b_x_lines x_tide x_isKept x_isMuch x_sum x_once x_twice x_isTermMuch x_nodes x_newMany x_isTooGreat x_come x_foundSet), (qx 4, .inl (Y 0, 40, .inl v4)), (qx 5, .inl (Y 0, 40, .inl v7)), (qx 6, .inl (Y 0, 40, .inl v10)), (qx 7, .inl (Y 0, 40, .inl v13))] := by rw [e_v13]; exact hD
        obtain ⟨v14, e_v14⟩ : ∃ z : Int32, z = (x2 + 1) := ⟨_, rfl⟩
        have hf := nm_at hf e_v14
        refine lv_iinc (v := v14) (lv' := [(2, .int v14), (0, .ref (qx 0))]) hx hb dX9_drop_87 hl (k := 1) rfl (by rw [e_v14]; rfl) (by decide) rfl (fun ls hl => ?_)
        refine lv_goto (tgt := 23) hx hb dX9_drop_90 (by decide) ?_
        exact ih23 b_x_lines v4 v7 v10 v13 v14 hf _ _ hP hD hS ls (lv_sub hl [1, 0] rfl)
  have E0 : ∀ (H : Heap) (locs : List Loc), va_P G vwCl [(qx 0, oX9 qx x_points x_lines x_tide x_isKept x_isMuch x_sum x_once x_twice x_isTermMuch x_nodes x_newMany x_isTooGreat x_come x_foundSet), (qx 4, .inl (Y 0, 40, .inl x_kind)), (qx 5, .inl (Y 0, 40, .inl x_figure)), (qx 6, .inl (Y 0, 40, .inl x_low)), (qx 7, .inl (Y 0, 40, .inl x_high))] H → va_D A [(qx 0, oX9 qx x_points x_lines x_tide x_isKept x_isMuch x_sum x_once x_twice x_isTermMuch x_nodes x_newMany x_isTooGreat x_come x_foundSet), (qx 4, .inl (Y 0, 40, .inl x_kind)), (qx 5, .inl (Y 0, 40, .inl x_figure)), (qx 6, .inl (Y 0, 40, .inl x_low)), (qx 7, .inl (Y 0, 40, .inl x_high))] → va_S A s.heap H locs → ∀ (ls : Array Slot), lv_has ls 3 [(0, .ref (qx 0)), (1, .int p1)] → W p l e (headSpec wsX9_drop (rmk 2 46)).room s m [.ref (qx 0), .int p1].toArray below meth c H locs 0 0 (MQ below (va_Qi (fun (r : Int32) (_ : Unit) => r = rv) (Pst G (tys Y) [(qx 0, oX9 qx x_points x_lines x_tide x_isKept x_isMuch x_sum x_once x_twice x_isTermMuch x_nodes x_newMany x_isTooGreat x_come x_foundSet), (qx 4, .inl (Y 0, 40, .inl x_kind)), (qx 5, .inl (Y 0, 40, .inl x_figure)), (qx 6, .inl (Y 0, 40, .inl x_low)), (qx 7, .inl (Y 0, 40, .inl x_high))] s.heap.size [(qx 0, oX9 qx x_points o_x_lines x_tide x_isKept x_isMuch x_sum x_once x_twice x_isTermMuch x_nodes x_newMany x_isTooGreat x_come x_foundSet), (qx 4, .inl (Y 0, 40, .inl o_x_kind)), (qx 5, .inl (Y 0, 40, .inl o_x_figure)), (qx 6, .inl (Y 0, 40, .inl o_x_low)), (qx 7, .inl (Y 0, 40, .inl o_x_high))]) A) [.ref (qx 0), .int p1].toArray s 0 0 A) (F0 m 0 ls []) := by
    intro H locs hP hD hS ls hl
    unfold f_X9_drop at hf
    refine lv_aload_n hx hb dX9_drop_0 rfl (lv_at hl 0 rfl) ?_
    refine lv_iload_n hx hb dX9_drop_1 rfl (lv_at hl 1 rfl) ?_
    obtain ⟨r15, hc, hf⟩ := bd1 hf
    refine cl_i (ws' := [(qx 0, oX9 qx x_points x_lines x_tide x_isKept x_isMuch x_sum x_once x_twice x_isTermMuch x_nodes x_newMany x_isTooGreat x_come x_foundSet), (qx 4, .inl (Y 0, 40, .inl x_kind)), (qx 5, .inl (Y 0, 40, .inl x_figure)), (qx 6, .inl (Y 0, 40, .inl x_low)), (qx 7, .inl (Y 0, 40, .inl x_high))]) (wr := [(qx 4, .inl (Y 0, 40, .inl x_kind)), (qx 5, .inl (Y 0, 40, .inl x_figure)), (qx 6, .inl (Y 0, 40, .inl x_low)), (qx 7, .inl (Y 0, 40, .inl x_high))]) (rnV (As := [.int p1]) (rest := []) ⟨hx, hb, hml, hown, hts⟩ (c_X9_isLine l G Y H.size qx x_points x_lines x_tide x_isKept x_isMuch x_sum x_once x_twice x_isTermMuch x_nodes x_newMany x_isTooGreat x_come x_foundSet p1 r15 hc) (cwV 1 hts gX9_drop_X9_isLine rfl rfl rfl (by decide +kernel) ⟨(Nat.le_of_ble_eq_true rfl), (Nat.le_of_ble_eq_true rfl)⟩) trivial okT hK hP hD [0] rfl rfl (ci := 7) (q0 := 0) rfl rfl rfl rfl hl.1 rfl (Nat.le_of_ble_eq_true rfl) dX9_drop_2) hP hD hS hA [0] [1, 2, 3, 4] [4, 0, 1, 2, 3] rfl rfl rfl (by decide) rfl rfl (fun H locs hP hD hS => ?_)
    refine lv_if_ne (tgt := 11) hx hb dX9_drop_5 (by decide) (fun c16 => ?_) (fun c16 => ?_)
    · have hf := ie hf c16
      refine lv_aload_n hx hb dX9_drop_11 rfl (lv_at hl 0 rfl) ?_
      refine lv_dup hx hb dX9_drop_12 rfl ?_
      refine va_get (D := G) (ci := 7) (v := .int x_lines) (C := RX9) (T := TX9) (N := 37) hx hb hts inX9w hown hK hP 0 rfl rfl 1 (by decide) wd1 (fun _ h9 => h9) rfl dX9_drop_13 ?_
      refine lv_iconst (v := 1) hx hb dX9_drop_16 (by decide) ?_
      refine lv_isub hx hb dX9_drop_17 ?_
      refine lv_topi (fun v17 e_v17 => ?_)
      have hf := nm_at hf e_v17
      refine va_put (D := G) (ci := 7) (v := .int v17) (ty := .int) (C := RX9) (T := TX9) (N := 37) hx hb hts inX9w tyX9 tyX9_ok nmX9 hown hK hP hD hS 0 rfl rfl 1 (by decide) wd1 (fun _ h9 => h9) rfl (by decide +kernel) rfl rfl (Nat.le_of_ble_eq_true rfl) dX9_drop_18 (fun H locs hP hD hS => ?_)
      have hP : va_P G vwCl [(qx 0, oX9 qx x_points v17 x_tide x_isKept x_isMuch x_sum x_once x_twice x_isTermMuch x_nodes x_newMany x_isTooGreat x_come x_foundSet), (qx 4, .inl (Y 0, 40, .inl x_kind)), (qx 5, .inl (Y 0, 40, .inl x_figure)), (qx 6, .inl (Y 0, 40, .inl x_low)), (qx 7, .inl (Y 0, 40, .inl x_high))] H := hP
      have hD : va_D A [(qx 0, oX9 qx x_points v17 x_tide x_isKept x_isMuch x_sum x_once x_twice x_isTermMuch x_nodes x_newMany x_isTooGreat x_come x_foundSet), (qx 4, .inl (Y 0, 40, .inl x_kind)), (qx 5, .inl (Y 0, 40, .inl x_figure)), (qx 6, .inl (Y 0, 40, .inl x_low)), (qx 7, .inl (Y 0, 40, .inl x_high))] := hD
      refine lv_iload_n hx hb dX9_drop_21 rfl (lv_at hl 1 rfl) ?_
      refine lv_istore_n (lv' := [(2, .int p1), (0, .ref (qx 0)), (1, .int p1)]) hx hb dX9_drop_22 rfl hl (by decide) rfl (fun ls hl => ?_)
      exact B23 70 v17 x_kind x_figure x_low x_high p1 hf _ _ hP hD hS ls (lv_sub hl [1, 0] rfl)
    · have hf := it hf c16
      refine lv_bipush (v := -2) hx hb dX9_drop_8 (by decide) ?_
      obtain ⟨e0, e1, e2, e3, e4, e5⟩ := rt6 hf
      have hP : va_P G vwCl [(qx 0, oX9 qx x_points o_x_lines x_tide x_isKept x_isMuch x_sum x_once x_twice x_isTermMuch x_nodes x_newMany x_isTooGreat x_come x_foundSet), (qx 4, .inl (Y 0, 40, .inl o_x_kind)), (qx 5, .inl (Y 0, 40, .inl o_x_figure)), (qx 6, .inl (Y 0, 40, .inl o_x_low)), (qx 7, .inl (Y 0, 40, .inl o_x_high))] H := by rw [← e1, ← e2, ← e3, ← e4, ← e5]; exact hP
      have hD : va_D A [(qx 0, oX9 qx x_points o_x_lines x_tide x_isKept x_isMuch x_sum x_once x_twice x_isTermMuch x_nodes x_newMany x_isTooGreat x_come x_foundSet), (qx 4, .inl (Y 0, 40, .inl o_x_kind)), (qx 5, .inl (Y 0, 40, .inl o_x_figure)), (qx 6, .inl (Y 0, 40, .inl o_x_low)), (qx 7, .inl (Y 0, 40, .inl o_x_high))] := by rw [← e1, ← e2, ← e3, ← e4, ← e5]; exact hD
      exact W.iret (v := (-2 : Int32)) hx hb hr (fun t ht hW => ⟨⟨(-2 : Int32), (), rfl, e0, by rw [ht]; exact hP, va_K.moved hW.alike hK, by rw [hAe]; exact hD⟩, hS.F ht⟩) hS.2.2 dX9_drop_10
  exact E0 s.heap [] hP hD hS ls hl
-- X9_tide
set_option maxRecDepth 100000 in
set_option maxHeartbeats 4000000 in
theorem c_X9_tide (l : Launch) (G : va_G) (Y : Nat → ClassId) (sz : Nat) (qx : Nat → Nat) (x_points : Int32) (x_lines : Int32) (x_tide : Int32) (x_isKept : Int32) (x_isMuch : Int32) (x_sum : Int64) (x_once : Int64) (x_twice : Int64) (x_isTermMuch : Int32) (x_nodes : Int32) (x_newMany : Int32) (x_isTooGreat : Int32) (x_come : Int32) (x_foundSet : Int64) (p1 : Int32) (rv : Int32) (o_x_tide : Int32) (hf : f_X9_tide x_tide p1 = some (rv, o_x_tide)) : Met l yX9_tide wsX9_tide (rmk 1 25) (va_Pc [.ref (qx 0), .int p1] (Pre G (tys Y) [(qx 0, oX9 qx x_points x_lines x_tide x_isKept x_isMuch x_sum x_once x_twice x_isTermMuch x_nodes x_newMany x_isTooGreat x_come x_foundSet)] sz xT)) (va_Qi (fun (r : Int32) (_ : Unit) => r = rv) (Pst G (tys Y) [(qx 0, oX9 qx x_points x_lines x_tide x_isKept x_isMuch x_sum x_once x_twice x_isTermMuch x_nodes x_newMany x_isTooGreat x_come x_foundSet)] sz [(qx 0, oX9 qx x_points x_lines o_x_tide x_isKept x_isMuch x_sum x_once x_twice x_isTermMuch x_nodes x_newMany x_isTooGreat x_come x_foundSet)]) (va_A [(qx 0, oX9 qx x_points x_lines x_tide x_isKept x_isMuch x_sum x_once x_twice x_isTermMuch x_nodes x_newMany x_isTooGreat x_come x_foundSet)] sz)) 0 0 (va_A [(qx 0, oX9 qx x_points x_lines x_tide x_isKept x_isMuch x_sum x_once x_twice x_isTermMuch x_nodes x_newMany x_isTooGreat x_come x_foundSet)] sz) := by
  refine Met.ofW (cc := cX9_tide) (maxL := 3) (ret := (some .int)) (by decide) rfl ?_
  intro p e s m args below meth c s₁ B hml hv
  obtain ⟨rfl, hsz, hP, hK, hD0, hX⟩ := hv
  have hx := B.exec
  have hb := B.bytes
  have hr := B.returns
  have hts := atoms_spec (ws := wsX9_tide) B.pre
  have hown : s.vm.findClass RX9 = some m.cls := findClass_of_methodNamed B.named
  have hlocks := B.notSynchronized
  subst hsz
  have hD := hD0.self (sz := s.heap.size)
  generalize hAe : va_A [(qx 0, oX9 qx x_points x_lines x_tide x_isKept x_isMuch x_sum x_once x_twice x_isTermMuch x_nodes x_newMany x_isTooGreat x_come x_foundSet)] s.heap.size = A at hD ⊢
  have hA : ∀ q : Nat, s.heap.size ≤ q → A q := fun q h => by rw [← hAe]; exact Or.inr h
  have hS : va_S A s.heap s.heap [] := va_S.rf
  have hP : va_P G vwCl [(qx 0, oX9 qx x_points x_lines x_tide x_isKept x_isMuch x_sum x_once x_twice x_isTermMuch x_nodes x_newMany x_isTooGreat x_come x_foundSet)] s.heap := hP
  have wd1 : (Cond.constantLong RX9 109 (9)).before [.ref (qx 0), .int p1].toArray s = true := hts _ (List.mem_of_getElem? (i := 1) rfl)
  have wd2 : (Cond.fieldLink RX9 111 "PairedLinesModel" "tide" "I").before [.ref (qx 0), .int p1].toArray s = true := hts _ (List.mem_of_getElem? (i := 2) rfl)
  have inX9w : ∀ w ∈ u_ws RX9 TX9 37, w ∈ wsX9_tide := fun w hw => List.mem_cons_of_mem _ (List.mem_append_right _ (hw))
  have hl := lv_entry ([.ref (qx 0), .int p1]) (n := 3) (Nat.le_of_ble_eq_true rfl)
  rw [lg_entry_eq]
  generalize (lg_sl ([.ref (qx 0), .int p1]) ++ List.replicate (3 - (lg_sl ([.ref (qx 0), .int p1])).length) Slot.unset).toArray = ls at hl ⊢
  have hl : lv_has ls 3 [(0, .ref (qx 0)), (1, .int p1)] := hl
  have E0 : ∀ (H : Heap) (locs : List Loc), va_P G vwCl [(qx 0, oX9 qx x_points x_lines x_tide x_isKept x_isMuch x_sum x_once x_twice x_isTermMuch x_nodes x_newMany x_isTooGreat x_come x_foundSet)] H → va_D A [(qx 0, oX9 qx x_points x_lines x_tide x_isKept x_isMuch x_sum x_once x_twice x_isTermMuch x_nodes x_newMany x_isTooGreat x_come x_foundSet)] → va_S A s.heap H locs → ∀ (ls : Array Slot), lv_has ls 3 [(0, .ref (qx 0)), (1, .int p1)] → W p l e (headSpec wsX9_tide (rmk 1 25)).room s m [.ref (qx 0), .int p1].toArray below meth c H locs 0 0 (MQ below (va_Qi (fun (r : Int32) (_ : Unit) => r = rv) (Pst G (tys Y) [(qx 0, oX9 qx x_points x_lines x_tide x_isKept x_isMuch x_sum x_once x_twice x_isTermMuch x_nodes x_newMany x_isTooGreat x_come x_foundSet)] s.heap.size [(qx 0, oX9 qx x_points x_lines o_x_tide x_isKept x_isMuch x_sum x_once x_twice x_isTermMuch x_nodes x_newMany x_isTooGreat x_come x_foundSet)]) A) [.ref (qx 0), .int p1].toArray s 0 0 A) (F0 m 0 ls []) := by
    intro H locs hP hD hS ls hl
    unfold f_X9_tide at hf
    refine lv_iload_n hx hb dX9_tide_0 rfl (lv_at hl 1 rfl) ?_
    refine lv_i2l hx hb dX9_tide_1 rfl ?_
    refine lv_lconst (v := 0) hx hb dX9_tide_2 (by decide) ?_
    refine lv_ldc2 hx hb hown wd1 dX9_tide_3 ?_
    obtain ⟨r1, hc, hf⟩ := bd1 hf
    refine cl_i (ws' := [(qx 0, oX9 qx x_points x_lines x_tide x_isKept x_isMuch x_sum x_once x_twice x_isTermMuch x_nodes x_newMany x_isTooGreat x_come x_foundSet)]) (wr := [(qx 0, oX9 qx x_points x_lines x_tide x_isKept x_isMuch x_sum x_once x_twice x_isTermMuch x_nodes x_newMany x_isTooGreat x_come x_foundSet)]) (rnS (As := [.long p1.toInt64, .long (0 : Int64), .long (9 : Int64)]) (rest := []) ⟨hx, hb, hml, hown, hts⟩ (c_X9_in l G Y H.size p1.toInt64 (0 : Int64) (9 : Int64) r1 hc) (va_cwS 3 hts gX9_tide_X9_in rfl rfl rfl (by decide +kernel) ⟨(Nat.le_of_ble_eq_true rfl), (Nat.le_of_ble_eq_true rfl)⟩) trivial okT hK hP hD [] rfl rfl rfl hl.1 rfl (Nat.le_of_ble_eq_true rfl) dX9_tide_6) hP hD hS hA [] [0] [0] rfl rfl rfl (by decide) rfl rfl (fun H locs hP hD hS => ?_)
    refine lv_if_ne (tgt := 15) hx hb dX9_tide_9 (by decide) (fun c2 => ?_) (fun c2 => ?_)
    · have hf := ie hf c2
      refine lv_aload_n hx hb dX9_tide_15 rfl (lv_at hl 0 rfl) ?_
      refine va_get (D := G) (ci := 7) (v := .int x_tide) (C := RX9) (T := TX9) (N := 37) hx hb hts inX9w hown hK hP 0 rfl rfl 2 (by decide) wd2 (fun _ h9 => h9) rfl dX9_tide_16 ?_
      refine lv_istore_n (lv' := [(2, .int x_tide), (0, .ref (qx 0)), (1, .int p1)]) hx hb dX9_tide_19 rfl hl (by decide) rfl (fun ls hl => ?_)
      refine lv_aload_n hx hb dX9_tide_20 rfl (lv_at hl 1 rfl) ?_
      refine lv_iload_n hx hb dX9_tide_21 rfl (lv_at hl 2 rfl) ?_
      refine va_put (D := G) (ci := 7) (v := .int p1) (ty := .int) (C := RX9) (T := TX9) (N := 37) hx hb hts inX9w tyX9 tyX9_ok nmX9 hown hK hP hD hS 0 rfl rfl 2 (by decide) wd2 (fun _ h9 => h9) rfl (by decide +kernel) rfl rfl (Nat.le_of_ble_eq_true rfl) dX9_tide_22 (fun H locs hP hD hS => ?_)
      have hP : va_P G vwCl [(qx 0, oX9 qx x_points x_lines p1 x_isKept x_isMuch x_sum x_once x_twice x_isTermMuch x_nodes x_newMany x_isTooGreat x_come x_foundSet)] H := hP
      have hD : va_D A [(qx 0, oX9 qx x_points x_lines p1 x_isKept x_isMuch x_sum x_once x_twice x_isTermMuch x_nodes x_newMany x_isTooGreat x_come x_foundSet)] := hD
      refine lv_iload_n hx hb dX9_tide_25 rfl (lv_at hl 0 rfl) ?_
      obtain ⟨e0, e1⟩ := rt2 hf
      have hP : va_P G vwCl [(qx 0, oX9 qx x_points x_lines o_x_tide x_isKept x_isMuch x_sum x_once x_twice x_isTermMuch x_nodes x_newMany x_isTooGreat x_come x_foundSet)] H := by rw [← e1]; exact hP
      have hD : va_D A [(qx 0, oX9 qx x_points x_lines o_x_tide x_isKept x_isMuch x_sum x_once x_twice x_isTermMuch x_nodes x_newMany x_isTooGreat x_come x_foundSet)] := by rw [← e1]; exact hD
      exact W.iret (v := x_tide) hx hb hr (fun t ht hW => ⟨⟨x_tide, (), rfl, e0, by rw [ht]; exact hP, va_K.moved hW.alike hK, by rw [hAe]; exact hD⟩, hS.F ht⟩) hS.2.2 dX9_tide_26
    · have hf := it hf c2
      refine lv_bipush (v := -2) hx hb dX9_tide_12 (by decide) ?_
      obtain ⟨e0, e1⟩ := rt2 hf
      have hP : va_P G vwCl [(qx 0, oX9 qx x_points x_lines o_x_tide x_isKept x_isMuch x_sum x_once x_twice x_isTermMuch x_nodes x_newMany x_isTooGreat x_come x_foundSet)] H := by rw [← e1]; exact hP
      have hD : va_D A [(qx 0, oX9 qx x_points x_lines o_x_tide x_isKept x_isMuch x_sum x_once x_twice x_isTermMuch x_nodes x_newMany x_isTooGreat x_come x_foundSet)] := by rw [← e1]; exact hD
      exact W.iret (v := (-2 : Int32)) hx hb hr (fun t ht hW => ⟨⟨(-2 : Int32), (), rfl, e0, by rw [ht]; exact hP, va_K.moved hW.alike hK, by rw [hAe]; exact hD⟩, hS.F ht⟩) hS.2.2 dX9_tide_14
  exact E0 s.heap [] hP hD hS ls hl
-- X9_between
set_option maxRecDepth 100000 in
set_option maxHeartbeats 4000000 in
theorem c_X9_between (l : Launch) (G : va_G) (Y : Nat → ClassId) (sz : Nat) (qx : Nat → Nat) (x_points : Int32) (x_lines : Int32) (x_tide : Int32) (x_low : Nat → Int32) (x_high : Nat → Int32) (x_isKept : Int32) (x_isMuch : Int32) (x_sum : Int64) (x_once : Int64) (x_twice : Int64) (x_isTermMuch : Int32) (x_nodes : Int32) (x_newMany : Int32) (x_isTooGreat : Int32) (x_come : Int32) (x_foundSet : Int64) (p1 : Int32) (p2 : Int32) (rv : Int32) (hf : f_X9_between x_points x_lines x_low x_high p1 p2 = some (rv)) : Met l yX9_between wsX9_between (rmk 3 68) (va_Pc [.ref (qx 0), .int p1, .int p2] (Pre G (tys Y) [(qx 0, oX9 qx x_points x_lines x_tide x_isKept x_isMuch x_sum x_once x_twice x_isTermMuch x_nodes x_newMany x_isTooGreat x_come x_foundSet), (qx 6, .inl (Y 0, 40, .inl x_low)), (qx 7, .inl (Y 0, 40, .inl x_high))] sz xT)) (va_Qi (fun (r : Int32) (_ : Unit) => r = rv) (Pst G (tys Y) [(qx 0, oX9 qx x_points x_lines x_tide x_isKept x_isMuch x_sum x_once x_twice x_isTermMuch x_nodes x_newMany x_isTooGreat x_come x_foundSet), (qx 6, .inl (Y 0, 40, .inl x_low)), (qx 7, .inl (Y 0, 40, .inl x_high))] sz [(qx 0, oX9 qx x_points x_lines x_tide x_isKept x_isMuch x_sum x_once x_twice x_isTermMuch x_nodes x_newMany x_isTooGreat x_come x_foundSet), (qx 6, .inl (Y 0, 40, .inl x_low)), (qx 7, .inl (Y 0, 40, .inl x_high))]) (va_A [(qx 0, oX9 qx x_points x_lines x_tide x_isKept x_isMuch x_sum x_once x_twice x_isTermMuch x_nodes x_newMany x_isTooGreat x_come x_foundSet), (qx 6, .inl (Y 0, 40, .inl x_low)), (qx 7, .inl (Y 0, 40, .inl x_high))] sz)) 0 0 (va_A [(qx 0, oX9 qx x_points x_lines x_tide x_isKept x_isMuch x_sum x_once x_twice x_isTermMuch x_nodes x_newMany x_isTooGreat x_come x_foundSet), (qx 6, .inl (Y 0, 40, .inl x_low)), (qx 7, .inl (Y 0, 40, .inl x_high))] sz) := by
  refine Met.ofW (cc := cX9_between) (maxL := 3) (ret := (some .int)) (by decide) rfl ?_
  intro p e s m args below meth c s₁ B hml hv
  obtain ⟨rfl, hsz, hP, hK, hD0, hX⟩ := hv
  have hx := B.exec
  have hb := B.bytes
  have hr := B.returns
  have hts := atoms_spec (ws := wsX9_between) B.pre
  have hown : s.vm.findClass RX9 = some m.cls := findClass_of_methodNamed B.named
  have hlocks := B.notSynchronized
  subst hsz
  have hD := hD0.self (sz := s.heap.size)
  generalize hAe : va_A [(qx 0, oX9 qx x_points x_lines x_tide x_isKept x_isMuch x_sum x_once x_twice x_isTermMuch x_nodes x_newMany x_isTooGreat x_come x_foundSet), (qx 6, .inl (Y 0, 40, .inl x_low)), (qx 7, .inl (Y 0, 40, .inl x_high))] s.heap.size = A at hD ⊢
  have hA : ∀ q : Nat, s.heap.size ≤ q → A q := fun q h => by rw [← hAe]; exact Or.inr h
  have hS : va_S A s.heap s.heap [] := va_S.rf
  have hP : va_P G vwCl [(qx 0, oX9 qx x_points x_lines x_tide x_isKept x_isMuch x_sum x_once x_twice x_isTermMuch x_nodes x_newMany x_isTooGreat x_come x_foundSet), (qx 6, .inl (Y 0, 40, .inl x_low)), (qx 7, .inl (Y 0, 40, .inl x_high))] s.heap := hP
  have hl := lv_entry ([.ref (qx 0), .int p1, .int p2]) (n := 3) (Nat.le_of_ble_eq_true rfl)
  rw [lg_entry_eq]
  generalize (lg_sl ([.ref (qx 0), .int p1, .int p2]) ++ List.replicate (3 - (lg_sl ([.ref (qx 0), .int p1, .int p2])).length) Slot.unset).toArray = ls at hl ⊢
  have hl : lv_has ls 3 [(0, .ref (qx 0)), (1, .int p1), (2, .int p2)] := hl
  have E0 : ∀ (H : Heap) (locs : List Loc), va_P G vwCl [(qx 0, oX9 qx x_points x_lines x_tide x_isKept x_isMuch x_sum x_once x_twice x_isTermMuch x_nodes x_newMany x_isTooGreat x_come x_foundSet), (qx 6, .inl (Y 0, 40, .inl x_low)), (qx 7, .inl (Y 0, 40, .inl x_high))] H → va_D A [(qx 0, oX9 qx x_points x_lines x_tide x_isKept x_isMuch x_sum x_once x_twice x_isTermMuch x_nodes x_newMany x_isTooGreat x_come x_foundSet), (qx 6, .inl (Y 0, 40, .inl x_low)), (qx 7, .inl (Y 0, 40, .inl x_high))] → va_S A s.heap H locs → ∀ (ls : Array Slot), lv_has ls 3 [(0, .ref (qx 0)), (1, .int p1), (2, .int p2)] → W p l e (headSpec wsX9_between (rmk 3 68)).room s m [.ref (qx 0), .int p1, .int p2].toArray below meth c H locs 0 0 (MQ below (va_Qi (fun (r : Int32) (_ : Unit) => r = rv) (Pst G (tys Y) [(qx 0, oX9 qx x_points x_lines x_tide x_isKept x_isMuch x_sum x_once x_twice x_isTermMuch x_nodes x_newMany x_isTooGreat x_come x_foundSet), (qx 6, .inl (Y 0, 40, .inl x_low)), (qx 7, .inl (Y 0, 40, .inl x_high))] s.heap.size [(qx 0, oX9 qx x_points x_lines x_tide x_isKept x_isMuch x_sum x_once x_twice x_isTermMuch x_nodes x_newMany x_isTooGreat x_come x_foundSet), (qx 6, .inl (Y 0, 40, .inl x_low)), (qx 7, .inl (Y 0, 40, .inl x_high))]) A) [.ref (qx 0), .int p1, .int p2].toArray s 0 0 A) (F0 m 0 ls []) := by
    intro H locs hP hD hS ls hl
    unfold f_X9_between at hf
    refine lv_aload_n hx hb dX9_between_0 rfl (lv_at hl 0 rfl) ?_
    refine lv_iload_n hx hb dX9_between_1 rfl (lv_at hl 1 rfl) ?_
    refine lv_iload_n hx hb dX9_between_2 rfl (lv_at hl 2 rfl) ?_
    obtain ⟨r1, hc, hf⟩ := bd1 hf
    refine cl_i (ws' := [(qx 0, oX9 qx x_points x_lines x_tide x_isKept x_isMuch x_sum x_once x_twice x_isTermMuch x_nodes x_newMany x_isTooGreat x_come x_foundSet), (qx 6, .inl (Y 0, 40, .inl x_low)), (qx 7, .inl (Y 0, 40, .inl x_high))]) (wr := [(qx 6, .inl (Y 0, 40, .inl x_low)), (qx 7, .inl (Y 0, 40, .inl x_high))]) (rnV (As := [.int p1, .int p2]) (rest := []) ⟨hx, hb, hml, hown, hts⟩ (c_X9_areTwo l G Y H.size qx x_points x_lines x_tide x_isKept x_isMuch x_sum x_once x_twice x_isTermMuch x_nodes x_newMany x_isTooGreat x_come x_foundSet p1 p2 r1 hc) (cwV 2 hts gX9_between_X9_areTwo rfl rfl rfl (by decide +kernel) ⟨(Nat.le_of_ble_eq_true rfl), (Nat.le_of_ble_eq_true rfl)⟩) trivial okT hK hP hD [0] rfl rfl (ci := 7) (q0 := 0) rfl rfl rfl rfl hl.1 rfl (Nat.le_of_ble_eq_true rfl) dX9_between_3) hP hD hS hA [0] [1, 2] [2, 0, 1] rfl rfl rfl (by decide) rfl rfl (fun H locs hP hD hS => ?_)
    refine lv_if_eq (tgt := 18) hx hb dX9_between_6 (by decide) (fun c2 => ?_) (fun c2 => ?_)
    · have hf := it hf c2
      refine lv_bipush (v := -2) hx hb dX9_between_18 (by decide) ?_
      have e0 := rt1 hf
      exact W.iret (v := (-2 : Int32)) hx hb hr (fun t ht hW => ⟨⟨(-2 : Int32), (), rfl, e0, by rw [ht]; exact hP, va_K.moved hW.alike hK, by rw [hAe]; exact hD⟩, hS.F ht⟩) hS.2.2 dX9_between_20
    · have hf := ie hf c2
      refine lv_aload_n hx hb dX9_between_9 rfl (lv_at hl 0 rfl) ?_
      refine lv_iload_n hx hb dX9_between_10 rfl (lv_at hl 1 rfl) ?_
      refine lv_iload_n hx hb dX9_between_11 rfl (lv_at hl 2 rfl) ?_
      obtain ⟨r3, hc, hf⟩ := bd1 hf
      refine cl_i (ws' := [(qx 0, oX9 qx x_points x_lines x_tide x_isKept x_isMuch x_sum x_once x_twice x_isTermMuch x_nodes x_newMany x_isTooGreat x_come x_foundSet), (qx 6, .inl (Y 0, 40, .inl x_low)), (qx 7, .inl (Y 0, 40, .inl x_high))]) (wr := []) (rnV (As := [.int p1, .int p2]) (rest := []) ⟨hx, hb, hml, hown, hts⟩ (c_X9_lineOf l G Y H.size qx x_points x_lines x_tide x_low x_high x_isKept x_isMuch x_sum x_once x_twice x_isTermMuch x_nodes x_newMany x_isTooGreat x_come x_foundSet p1 p2 r3 hc) (cwV 2 hts gX9_between_X9_lineOf rfl rfl rfl (by decide +kernel) ⟨(Nat.le_of_ble_eq_true rfl), (Nat.le_of_ble_eq_true rfl)⟩) trivial okT hK hP hD [0, 1, 2] rfl rfl (ci := 7) (q0 := 0) rfl rfl rfl rfl hl.1 rfl (Nat.le_of_ble_eq_true rfl) dX9_between_12) hP hD hS hA [0, 1, 2] [] [0, 1, 2] rfl rfl rfl (by decide) rfl rfl (fun H locs hP hD hS => ?_)
      refine lv_goto (tgt := 20) hx hb dX9_between_15 (by decide) ?_
      have e0 := rt1 hf
      exact W.iret (v := r3) hx hb hr (fun t ht hW => ⟨⟨r3, (), rfl, e0, by rw [ht]; exact hP, va_K.moved hW.alike hK, by rw [hAe]; exact hD⟩, hS.F ht⟩) hS.2.2 dX9_between_20
  exact E0 s.heap [] hP hD hS ls hl
-- X9_nearOf
set_option maxRecDepth 100000 in
set_option maxHeartbeats 4000000 in
theorem c_X9_nearOf (l : Launch) (G : va_G) (Y : Nat → ClassId) (sz : Nat) (qx : Nat → Nat) (x_points : Int32) (x_lines : Int32) (x_tide : Int32) (x_low : Nat → Int32) (x_high : Nat → Int32) (x_isKept : Int32) (x_isMuch : Int32) (x_sum : Int64) (x_once : Int64) (x_twice : Int64) (x_isTermMuch : Int32) (x_nodes : Int32) (x_newMany : Int32) (x_isTooGreat : Int32) (x_come : Int32) (x_foundSet : Int64) (p1 : Int32) (p2 : Int32) (rv : Int32) (hf : f_X9_nearOf x_lines x_low x_high p1 p2 = some (rv)) : Met l yX9_nearOf wsX9_nearOf (rmk 0 0) (va_Pc [.ref (qx 0), .int p1, .int p2] (Pre G (tys Y) [(qx 0, oX9 qx x_points x_lines x_tide x_isKept x_isMuch x_sum x_once x_twice x_isTermMuch x_nodes x_newMany x_isTooGreat x_come x_foundSet), (qx 6, .inl (Y 0, 40, .inl x_low)), (qx 7, .inl (Y 0, 40, .inl x_high))] sz xT)) (va_Qi (fun (r : Int32) (_ : Unit) => r = rv) (Pst G (tys Y) [(qx 0, oX9 qx x_points x_lines x_tide x_isKept x_isMuch x_sum x_once x_twice x_isTermMuch x_nodes x_newMany x_isTooGreat x_come x_foundSet), (qx 6, .inl (Y 0, 40, .inl x_low)), (qx 7, .inl (Y 0, 40, .inl x_high))] sz [(qx 0, oX9 qx x_points x_lines x_tide x_isKept x_isMuch x_sum x_once x_twice x_isTermMuch x_nodes x_newMany x_isTooGreat x_come x_foundSet), (qx 6, .inl (Y 0, 40, .inl x_low)), (qx 7, .inl (Y 0, 40, .inl x_high))]) (va_A [(qx 0, oX9 qx x_points x_lines x_tide x_isKept x_isMuch x_sum x_once x_twice x_isTermMuch x_nodes x_newMany x_isTooGreat x_come x_foundSet), (qx 6, .inl (Y 0, 40, .inl x_low)), (qx 7, .inl (Y 0, 40, .inl x_high))] sz)) 0 0 (va_A [(qx 0, oX9 qx x_points x_lines x_tide x_isKept x_isMuch x_sum x_once x_twice x_isTermMuch x_nodes x_newMany x_isTooGreat x_come x_foundSet), (qx 6, .inl (Y 0, 40, .inl x_low)), (qx 7, .inl (Y 0, 40, .inl x_high))] sz) := by
  refine Met.ofW (cc := cX9_nearOf) (maxL := 5) (ret := (some .int)) (by decide) rfl ?_
  intro p e s m args below meth c s₁ B hml hv
  obtain ⟨rfl, hsz, hP, hK, hD0, hX⟩ := hv
  have hx := B.exec
  have hb := B.bytes
  have hr := B.returns
  have hts := atoms_spec (ws := wsX9_nearOf) B.pre
  have hown : s.vm.findClass RX9 = some m.cls := findClass_of_methodNamed B.named
  have hlocks := B.notSynchronized
  subst hsz
  have hD := hD0.self (sz := s.heap.size)
  generalize hAe : va_A [(qx 0, oX9 qx x_points x_lines x_tide x_isKept x_isMuch x_sum x_once x_twice x_isTermMuch x_nodes x_newMany x_isTooGreat x_come x_foundSet), (qx 6, .inl (Y 0, 40, .inl x_low)), (qx 7, .inl (Y 0, 40, .inl x_high))] s.heap.size = A at hD ⊢
  have hA : ∀ q : Nat, s.heap.size ≤ q → A q := fun q h => by rw [← hAe]; exact Or.inr h
  have hS : va_S A s.heap s.heap [] := va_S.rf
  have hP : va_P G vwCl [(qx 0, oX9 qx x_points x_lines x_tide x_isKept x_isMuch x_sum x_once x_twice x_isTermMuch x_nodes x_newMany x_isTooGreat x_come x_foundSet), (qx 6, .inl (Y 0, 40, .inl x_low)), (qx 7, .inl (Y 0, 40, .inl x_high))] s.heap := hP
  have wd1 : (Cond.fieldLink RX9 100 "PairedLinesModel" "lines" "I").before [.ref (qx 0), .int p1, .int p2].toArray s = true := hts _ (List.mem_of_getElem? (i := 1) rfl)
  have wd2 : (Cond.fieldLink RX9 16 "PairedLinesModel" "low" "[I").before [.ref (qx 0), .int p1, .int p2].toArray s = true := hts _ (List.mem_of_getElem? (i := 2) rfl)
  have wd3 : (Cond.fieldLink RX9 19 "PairedLinesModel" "high" "[I").before [.ref (qx 0), .int p1, .int p2].toArray s = true := hts _ (List.mem_of_getElem? (i := 3) rfl)
  have inX9w : ∀ w ∈ u_ws RX9 TX9 37, w ∈ wsX9_nearOf := fun w hw => List.mem_cons_of_mem _ (List.mem_append_right _ (hw))
  have hl := lv_entry ([.ref (qx 0), .int p1, .int p2]) (n := 5) (Nat.le_of_ble_eq_true rfl)
  rw [lg_entry_eq]
  generalize (lg_sl ([.ref (qx 0), .int p1, .int p2]) ++ List.replicate (5 - (lg_sl ([.ref (qx 0), .int p1, .int p2])).length) Slot.unset).toArray = ls at hl ⊢
  have hl : lv_has ls 5 [(0, .ref (qx 0)), (1, .int p1), (2, .int p2)] := hl
  have B5 : ∀ (n5 : Nat), ∀ (x3 : Int32) (x4 : Int32), f_X9_nearOf_b5 x_lines x_low x_high p1 p2 n5 x3 x4 = some (rv) → ∀ (H : Heap) (locs : List Loc), va_P G vwCl [(qx 0, oX9 qx x_points x_lines x_tide x_isKept x_isMuch x_sum x_once x_twice x_isTermMuch x_nodes x_newMany x_isTooGreat x_come x_foundSet), (qx 6, .inl (Y 0, 40, .inl x_low)), (qx 7, .inl (Y 0, 40, .inl x_high))] H → va_D A [(qx 0, oX9 qx x_points x_lines x_tide x_isKept x_isMuch x_sum x_once x_twice x_isTermMuch x_nodes x_newMany x_isTooGreat x_come x_foundSet), (qx 6, .inl (Y 0, 40, .inl x_low)), (qx 7, .inl (Y 0, 40, .inl x_high))] → va_S A s.heap H locs → ∀ (ls : Array Slot), lv_has ls 5 [(0, .ref (qx 0)), (1, .int p1), (2, .int p2), (3, .int x3), (4, .int x4)] → W p l e (headSpec wsX9_nearOf (rmk 0 0)).room s m [.ref (qx 0), .int p1, .int p2].toArray below meth c H locs 0 0 (MQ below (va_Qi (fun (r : Int32) (_ : Unit) => r = rv) (Pst G (tys Y) [(qx 0, oX9 qx x_points x_lines x_tide x_isKept x_isMuch x_sum x_once x_twice x_isTermMuch x_nodes x_newMany x_isTooGreat x_come x_foundSet), (qx 6, .inl (Y 0, 40, .inl x_low)), (qx 7, .inl (Y 0, 40, .inl x_high))] s.heap.size [(qx 0, oX9 qx x_points x_lines x_tide x_isKept x_isMuch x_sum x_once x_twice x_isTermMuch x_nodes x_newMany x_isTooGreat x_come x_foundSet), (qx 6, .inl (Y 0, 40, .inl x_low)), (qx 7, .inl (Y 0, 40, .inl x_high))]) A) [.ref (qx 0), .int p1, .int p2].toArray s 0 0 A) (F0 m 5 ls []) := by
    intro n5
    induction n5 with
    | zero =>
      intro x3 x4 hf H locs hP hD hS ls hl
      exact no_none hf
    | succ n5 ih5 =>
      intro x3 x4 hf H locs hP hD hS ls hl
      have hf : f_X9_nearOf_s5 x_lines x_low x_high p1 p2 (f_X9_nearOf_b5 x_lines x_low x_high p1 p2  n5) x3 x4 = some (rv) := hf
      unfold f_X9_nearOf_s5 at hf
      refine lv_iload hx hb dX9_nearOf_5 (lv_at hl 4 rfl) ?_
      refine lv_aload_n hx hb dX9_nearOf_7 rfl (lv_at hl 0 rfl) ?_
      refine va_get (D := G) (ci := 7) (v := .int x_lines) (C := RX9) (T := TX9) (N := 37) hx hb hts inX9w hown hK hP 0 rfl rfl 1 (by decide) wd1 (fun _ h9 => h9) rfl dX9_nearOf_8 ?_
      refine lv_icmp_ge (tgt := 70) hx hb dX9_nearOf_11 (by decide) (fun c1 => ?_) (fun c1 => ?_)
      · have hf := it hf c1
        refine lv_iload_n hx hb dX9_nearOf_70 rfl (lv_at hl 3 rfl) ?_
        refine lv_iload_n hx hb dX9_nearOf_71 rfl (lv_at hl 2 rfl) ?_
        refine lv_iconst (v := -1) hx hb dX9_nearOf_72 (by decide) ?_
        refine lv_ixor hx hb dX9_nearOf_73 ?_
        refine lv_iand hx hb dX9_nearOf_74 ?_
        have e0 := rt1 hf
        exact W.iret (v := (x3 &&& (p2 ^^^ (-1 : Int32)))) hx hb hr (fun t ht hW => ⟨⟨(x3 &&& (p2 ^^^ (-1 : Int32))), (), rfl, e0, by rw [ht]; exact hP, va_K.moved hW.alike hK, by rw [hAe]; exact hD⟩, hS.F ht⟩) hS.2.2 dX9_nearOf_75
      · have hf := ie hf c1
        refine lv_iload_n hx hb dX9_nearOf_14 rfl (lv_at hl 3 rfl) ?_
        refine lv_aload_n hx hb dX9_nearOf_15 rfl (lv_at hl 0 rfl) ?_
        refine va_get (D := G) (ci := 7) (v := .ref (qx 6)) (C := RX9) (T := TX9) (N := 37) hx hb hts inX9w hown hK hP 0 rfl rfl 5 (by decide) wd2 (fun _ h9 => h9) rfl dX9_nearOf_16 ?_
        refine lv_iload hx hb dX9_nearOf_19 (lv_at hl 4 rfl) ?_
        obtain ⟨g2, hf⟩ := gd hf
        refine va_iald hx hb hK hP 1 0 rfl rfl g2 dX9_nearOf_21 ?_
        refine lv_iload_n hx hb dX9_nearOf_22 rfl (lv_at hl 1 rfl) ?_
        refine lv_icmp_ne (tgt := 38) hx hb dX9_nearOf_23 (by decide) (fun c3 => ?_) (fun c3 => ?_)
        · have hf := ie hf c3
          refine lv_aload_n hx hb dX9_nearOf_38 rfl (lv_at hl 0 rfl) ?_
          refine va_get (D := G) (ci := 7) (v := .ref (qx 7)) (C := RX9) (T := TX9) (N := 37) hx hb hts inX9w hown hK hP 0 rfl rfl 6 (by decide) wd3 (fun _ h9 => h9) rfl dX9_nearOf_39 ?_
          refine lv_iload hx hb dX9_nearOf_42 (lv_at hl 4 rfl) ?_
          obtain ⟨g4, hf⟩ := gd hf
          refine va_iald hx hb hK hP 2 0 rfl rfl g4 dX9_nearOf_44 ?_
          refine lv_iload_n hx hb dX9_nearOf_45 rfl (lv_at hl 1 rfl) ?_
          refine lv_icmp_ne (tgt := 61) hx hb dX9_nearOf_46 (by decide) (fun c5 => ?_) (fun c5 => ?_)
          · have hf := ie hf c5
            refine lv_iconst (v := 0) hx hb dX9_nearOf_61 (by decide) ?_
            refine lv_ior hx hb dX9_nearOf_62 ?_
            refine lv_topi (fun v6 e_v6 => ?_)
            have hf := nm_at hf e_v6
            refine lv_istore_n (lv' := [(3, .int v6), (0, .ref (qx 0)), (1, .int p1), (2, .int p2), (4, .int x4)]) hx hb dX9_nearOf_63 rfl hl (by decide) rfl (fun ls hl => ?_)
            obtain ⟨v7, e_v7⟩ : ∃ z : Int32, z = (x4 + 1) := ⟨_, rfl⟩
            have hf := nm_at hf e_v7
            refine lv_iinc (v := v7) (lv' := [(4, .int v7), (3, .int v6), (0, .ref (qx 0)), (1, .int p1), (2, .int p2)]) hx hb dX9_nearOf_64 hl (k := 4) rfl (by rw [e_v7]; rfl) (by decide) rfl (fun ls hl => ?_)
            refine lv_goto (tgt := 5) hx hb dX9_nearOf_67 (by decide) ?_
            exact ih5 v6 v7 hf _ _ hP hD hS ls (lv_sub hl [2, 3, 4, 1, 0] rfl)
          · have hf := it hf c5
            refine lv_iconst (v := 1) hx hb dX9_nearOf_49 (by decide) ?_
            refine lv_aload_n hx hb dX9_nearOf_50 rfl (lv_at hl 0 rfl) ?_
            refine va_get (D := G) (ci := 7) (v := .ref (qx 6)) (C := RX9) (T := TX9) (N := 37) hx hb hts inX9w hown hK hP 0 rfl rfl 5 (by decide) wd2 (fun _ h9 => h9) rfl dX9_nearOf_51 ?_
            refine lv_iload hx hb dX9_nearOf_54 (lv_at hl 4 rfl) ?_
            obtain ⟨g8, hf⟩ := gd hf
            refine va_iald hx hb hK hP 1 0 rfl rfl g8 dX9_nearOf_56 ?_
            refine lv_ishl hx hb dX9_nearOf_57 ?_
            refine lv_goto (tgt := 62) hx hb dX9_nearOf_58 (by decide) ?_
            refine lv_ior hx hb dX9_nearOf_62 ?_
            refine lv_topi (fun v9 e_v9 => ?_)
            have hf := nm_at hf e_v9
            refine lv_istore_n (lv' := [(3, .int v9), (0, .ref (qx 0)), (1, .int p1), (2, .int p2), (4, .int x4)]) hx hb dX9_nearOf_63 rfl hl (by decide) rfl (fun ls hl => ?_)
            obtain ⟨v10, e_v10⟩ : ∃ z : Int32, z = (x4 + 1) := ⟨_, rfl⟩
            have hf := nm_at hf e_v10
            refine lv_iinc (v := v10) (lv' := [(4, .int v10), (3, .int v9), (0, .ref (qx 0)), (1, .int p1), (2, .int p2)]) hx hb dX9_nearOf_64 hl (k := 4) rfl (by rw [e_v10]; rfl) (by decide) rfl (fun ls hl => ?_)
            refine lv_goto (tgt := 5) hx hb dX9_nearOf_67 (by decide) ?_
            exact ih5 v9 v10 hf _ _ hP hD hS ls (lv_sub hl [2, 3, 4, 1, 0] rfl)
        · have hf := it hf c3
          refine lv_iconst (v := 1) hx hb dX9_nearOf_26 (by decide) ?_
          refine lv_aload_n hx hb dX9_nearOf_27 rfl (lv_at hl 0 rfl) ?_
          refine va_get (D := G) (ci := 7) (v := .ref (qx 7)) (C := RX9) (T := TX9) (N := 37) hx hb hts inX9w hown hK hP 0 rfl rfl 6 (by decide) wd3 (fun _ h9 => h9) rfl dX9_nearOf_28 ?_
          refine lv_iload hx hb dX9_nearOf_31 (lv_at hl 4 rfl) ?_
          obtain ⟨g11, hf⟩ := gd hf
          refine va_iald hx hb hK hP 2 0 rfl rfl g11 dX9_nearOf_33 ?_
          refine lv_ishl hx hb dX9_nearOf_34 ?_
          refine lv_goto (tgt := 62) hx hb dX9_nearOf_35 (by decide) ?_
          refine lv_ior hx hb dX9_nearOf_62 ?_
          refine lv_topi (fun v12 e_v12 => ?_)
          have hf := nm_at hf e_v12
          refine lv_istore_n (lv' := [(3, .int v12), (0, .ref (qx 0)), (1, .int p1), (2, .int p2), (4, .int x4)]) hx hb dX9_nearOf_63 rfl hl (by decide) rfl (fun ls hl => ?_)
          obtain ⟨v13, e_v13⟩ : ∃ z : Int32, z = (x4 + 1) := ⟨_, rfl⟩
          have hf := nm_at hf e_v13
          refine lv_iinc (v := v13) (lv' := [(4, .int v13), (3, .int v12), (0, .ref (qx 0)), (1, .int p1), (2, .int p2)]) hx hb dX9_nearOf_64 hl (k := 4) rfl (by rw [e_v13]; rfl) (by decide) rfl (fun ls hl => ?_)
          refine lv_goto (tgt := 5) hx hb dX9_nearOf_67 (by decide) ?_
          exact ih5 v12 v13 hf _ _ hP hD hS ls (lv_sub hl [2, 3, 4, 1, 0] rfl)
  have E0 : ∀ (H : Heap) (locs : List Loc), va_P G vwCl [(qx 0, oX9 qx x_points x_lines x_tide x_isKept x_isMuch x_sum x_once x_twice x_isTermMuch x_nodes x_newMany x_isTooGreat x_come x_foundSet), (qx 6, .inl (Y 0, 40, .inl x_low)), (qx 7, .inl (Y 0, 40, .inl x_high))] H → va_D A [(qx 0, oX9 qx x_points x_lines x_tide x_isKept x_isMuch x_sum x_once x_twice x_isTermMuch x_nodes x_newMany x_isTooGreat x_come x_foundSet), (qx 6, .inl (Y 0, 40, .inl x_low)), (qx 7, .inl (Y 0, 40, .inl x_high))] → va_S A s.heap H locs → ∀ (ls : Array Slot), lv_has ls 5 [(0, .ref (qx 0)), (1, .int p1), (2, .int p2)] → W p l e (headSpec wsX9_nearOf (rmk 0 0)).room s m [.ref (qx 0), .int p1, .int p2].toArray below meth c H locs 0 0 (MQ below (va_Qi (fun (r : Int32) (_ : Unit) => r = rv) (Pst G (tys Y) [(qx 0, oX9 qx x_points x_lines x_tide x_isKept x_isMuch x_sum x_once x_twice x_isTermMuch x_nodes x_newMany x_isTooGreat x_come x_foundSet), (qx 6, .inl (Y 0, 40, .inl x_low)), (qx 7, .inl (Y 0, 40, .inl x_high))] s.heap.size [(qx 0, oX9 qx x_points x_lines x_tide x_isKept x_isMuch x_sum x_once x_twice x_isTermMuch x_nodes x_newMany x_isTooGreat x_come x_foundSet), (qx 6, .inl (Y 0, 40, .inl x_low)), (qx 7, .inl (Y 0, 40, .inl x_high))]) A) [.ref (qx 0), .int p1, .int p2].toArray s 0 0 A) (F0 m 0 ls []) := by
    intro H locs hP hD hS ls hl
    unfold f_X9_nearOf at hf
    refine lv_iconst (v := 0) hx hb dX9_nearOf_0 (by decide) ?_
    refine lv_istore_n (lv' := [(3, .int (0 : Int32)), (0, .ref (qx 0)), (1, .int p1), (2, .int p2)]) hx hb dX9_nearOf_1 rfl hl (by decide) rfl (fun ls hl => ?_)
    refine lv_iconst (v := 0) hx hb dX9_nearOf_2 (by decide) ?_
    refine lv_istore (lv' := [(4, .int (0 : Int32)), (3, .int (0 : Int32)), (0, .ref (qx 0)), (1, .int p1), (2, .int p2)]) hx hb dX9_nearOf_3 hl (by decide) rfl (fun ls hl => ?_)
    exact B5 70 (0 : Int32) (0 : Int32) hf _ _ hP hD hS ls (lv_sub hl [2, 3, 4, 1, 0] rfl)
  exact E0 s.heap [] hP hD hS ls hl
-- X9_near
set_option maxRecDepth 100000 in
set_option maxHeartbeats 4000000 in
theorem c_X9_near (l : Launch) (G : va_G) (Y : Nat → ClassId) (sz : Nat) (qx : Nat → Nat) (x_points : Int32) (x_lines : Int32) (x_tide : Int32) (x_low : Nat → Int32) (x_high : Nat → Int32) (x_isKept : Int32) (x_isMuch : Int32) (x_sum : Int64) (x_once : Int64) (x_twice : Int64) (x_isTermMuch : Int32) (x_nodes : Int32) (x_newMany : Int32) (x_isTooGreat : Int32) (x_come : Int32) (x_foundSet : Int64) (p1 : Int32) (p2 : Int32) (rv : Int32) (hf : f_X9_near x_points x_lines x_low x_high p1 p2 = some (rv)) : Met l yX9_near wsX9_near (rmk 2 46) (va_Pc [.ref (qx 0), .int p1, .int p2] (Pre G (tys Y) [(qx 0, oX9 qx x_points x_lines x_tide x_isKept x_isMuch x_sum x_once x_twice x_isTermMuch x_nodes x_newMany x_isTooGreat x_come x_foundSet), (qx 6, .inl (Y 0, 40, .inl x_low)), (qx 7, .inl (Y 0, 40, .inl x_high))] sz xT)) (va_Qi (fun (r : Int32) (_ : Unit) => r = rv) (Pst G (tys Y) [(qx 0, oX9 qx x_points x_lines x_tide x_isKept x_isMuch x_sum x_once x_twice x_isTermMuch x_nodes x_newMany x_isTooGreat x_come x_foundSet), (qx 6, .inl (Y 0, 40, .inl x_low)), (qx 7, .inl (Y 0, 40, .inl x_high))] sz [(qx 0, oX9 qx x_points x_lines x_tide x_isKept x_isMuch x_sum x_once x_twice x_isTermMuch x_nodes x_newMany x_isTooGreat x_come x_foundSet), (qx 6, .inl (Y 0, 40, .inl x_low)), (qx 7, .inl (Y 0, 40, .inl x_high))]) (va_A [(qx 0, oX9 qx x_points x_lines x_tide x_isKept x_isMuch x_sum x_once x_twice x_isTermMuch x_nodes x_newMany x_isTooGreat x_come x_foundSet), (qx 6, .inl (Y 0, 40, .inl x_low)), (qx 7, .inl (Y 0, 40, .inl x_high))] sz)) 0 0 (va_A [(qx 0, oX9 qx x_points x_lines x_tide x_isKept x_isMuch x_sum x_once x_twice x_isTermMuch x_nodes x_newMany x_isTooGreat x_come x_foundSet), (qx 6, .inl (Y 0, 40, .inl x_low)), (qx 7, .inl (Y 0, 40, .inl x_high))] sz) := by
  refine Met.ofW (cc := cX9_near) (maxL := 3) (ret := (some .int)) (by decide) rfl ?_
  intro p e s m args below meth c s₁ B hml hv
  obtain ⟨rfl, hsz, hP, hK, hD0, hX⟩ := hv
  have hx := B.exec
  have hb := B.bytes
  have hr := B.returns
  have hts := atoms_spec (ws := wsX9_near) B.pre
  have hown : s.vm.findClass RX9 = some m.cls := findClass_of_methodNamed B.named
  have hlocks := B.notSynchronized
  subst hsz
  have hD := hD0.self (sz := s.heap.size)
  generalize hAe : va_A [(qx 0, oX9 qx x_points x_lines x_tide x_isKept x_isMuch x_sum x_once x_twice x_isTermMuch x_nodes x_newMany x_isTooGreat x_come x_foundSet), (qx 6, .inl (Y 0, 40, .inl x_low)), (qx 7, .inl (Y 0, 40, .inl x_high))] s.heap.size = A at hD ⊢
  have hA : ∀ q : Nat, s.heap.size ≤ q → A q := fun q h => by rw [← hAe]; exact Or.inr h
  have hS : va_S A s.heap s.heap [] := va_S.rf
  have hP : va_P G vwCl [(qx 0, oX9 qx x_points x_lines x_tide x_isKept x_isMuch x_sum x_once x_twice x_isTermMuch x_nodes x_newMany x_isTooGreat x_come x_foundSet), (qx 6, .inl (Y 0, 40, .inl x_low)), (qx 7, .inl (Y 0, 40, .inl x_high))] s.heap := hP
  have hl := lv_entry ([.ref (qx 0), .int p1, .int p2]) (n := 3) (Nat.le_of_ble_eq_true rfl)
  rw [lg_entry_eq]
  generalize (lg_sl ([.ref (qx 0), .int p1, .int p2]) ++ List.replicate (3 - (lg_sl ([.ref (qx 0), .int p1, .int p2])).length) Slot.unset).toArray = ls at hl ⊢
  have hl : lv_has ls 3 [(0, .ref (qx 0)), (1, .int p1), (2, .int p2)] := hl
  have E0 : ∀ (H : Heap) (locs : List Loc), va_P G vwCl [(qx 0, oX9 qx x_points x_lines x_tide x_isKept x_isMuch x_sum x_once x_twice x_isTermMuch x_nodes x_newMany x_isTooGreat x_come x_foundSet), (qx 6, .inl (Y 0, 40, .inl x_low)), (qx 7, .inl (Y 0, 40, .inl x_high))] H → va_D A [(qx 0, oX9 qx x_points x_lines x_tide x_isKept x_isMuch x_sum x_once x_twice x_isTermMuch x_nodes x_newMany x_isTooGreat x_come x_foundSet), (qx 6, .inl (Y 0, 40, .inl x_low)), (qx 7, .inl (Y 0, 40, .inl x_high))] → va_S A s.heap H locs → ∀ (ls : Array Slot), lv_has ls 3 [(0, .ref (qx 0)), (1, .int p1), (2, .int p2)] → W p l e (headSpec wsX9_near (rmk 2 46)).room s m [.ref (qx 0), .int p1, .int p2].toArray below meth c H locs 0 0 (MQ below (va_Qi (fun (r : Int32) (_ : Unit) => r = rv) (Pst G (tys Y) [(qx 0, oX9 qx x_points x_lines x_tide x_isKept x_isMuch x_sum x_once x_twice x_isTermMuch x_nodes x_newMany x_isTooGreat x_come x_foundSet), (qx 6, .inl (Y 0, 40, .inl x_low)), (qx 7, .inl (Y 0, 40, .inl x_high))] s.heap.size [(qx 0, oX9 qx x_points x_lines x_tide x_isKept x_isMuch x_sum x_once x_twice x_isTermMuch x_nodes x_newMany x_isTooGreat x_come x_foundSet), (qx 6, .inl (Y 0, 40, .inl x_low)), (qx 7, .inl (Y 0, 40, .inl x_high))]) A) [.ref (qx 0), .int p1, .int p2].toArray s 0 0 A) (F0 m 0 ls []) := by
    intro H locs hP hD hS ls hl
    unfold f_X9_near at hf
    refine lv_aload_n hx hb dX9_near_0 rfl (lv_at hl 0 rfl) ?_
    refine lv_iload_n hx hb dX9_near_1 rfl (lv_at hl 1 rfl) ?_
    obtain ⟨r1, hc, hf⟩ := bd1 hf
    refine cl_i (ws' := [(qx 0, oX9 qx x_points x_lines x_tide x_isKept x_isMuch x_sum x_once x_twice x_isTermMuch x_nodes x_newMany x_isTooGreat x_come x_foundSet), (qx 6, .inl (Y 0, 40, .inl x_low)), (qx 7, .inl (Y 0, 40, .inl x_high))]) (wr := [(qx 6, .inl (Y 0, 40, .inl x_low)), (qx 7, .inl (Y 0, 40, .inl x_high))]) (rnV (As := [.int p1]) (rest := []) ⟨hx, hb, hml, hown, hts⟩ (c_X9_isPoint l G Y H.size qx x_points x_lines x_tide x_isKept x_isMuch x_sum x_once x_twice x_isTermMuch x_nodes x_newMany x_isTooGreat x_come x_foundSet p1 r1 hc) (cwV 1 hts gX9_near_X9_isPoint rfl rfl rfl (by decide +kernel) ⟨(Nat.le_of_ble_eq_true rfl), (Nat.le_of_ble_eq_true rfl)⟩) trivial okT hK hP hD [0] rfl rfl (ci := 7) (q0 := 0) rfl rfl rfl rfl hl.1 rfl (Nat.le_of_ble_eq_true rfl) dX9_near_2) hP hD hS hA [0] [1, 2] [2, 0, 1] rfl rfl rfl (by decide) rfl rfl (fun H locs hP hD hS => ?_)
    refine lv_if_eq (tgt := 24) hx hb dX9_near_5 (by decide) (fun c2 => ?_) (fun c2 => ?_)
    · have hf := it hf c2
      refine lv_bipush (v := -2) hx hb dX9_near_24 (by decide) ?_
      have e0 := rt1 hf
      exact W.iret (v := (-2 : Int32)) hx hb hr (fun t ht hW => ⟨⟨(-2 : Int32), (), rfl, e0, by rw [ht]; exact hP, va_K.moved hW.alike hK, by rw [hAe]; exact hD⟩, hS.F ht⟩) hS.2.2 dX9_near_26
    · have hf := ie hf c2
      refine lv_iload_n hx hb dX9_near_8 rfl (lv_at hl 2 rfl) ?_
      obtain ⟨r3, hc, hf⟩ := bd1 hf
      refine cl_i (ws' := [(qx 0, oX9 qx x_points x_lines x_tide x_isKept x_isMuch x_sum x_once x_twice x_isTermMuch x_nodes x_newMany x_isTooGreat x_come x_foundSet), (qx 6, .inl (Y 0, 40, .inl x_low)), (qx 7, .inl (Y 0, 40, .inl x_high))]) (wr := [(qx 0, oX9 qx x_points x_lines x_tide x_isKept x_isMuch x_sum x_once x_twice x_isTermMuch x_nodes x_newMany x_isTooGreat x_come x_foundSet), (qx 6, .inl (Y 0, 40, .inl x_low)), (qx 7, .inl (Y 0, 40, .inl x_high))]) (rnS (As := [.int p2]) (rest := []) ⟨hx, hb, hml, hown, hts⟩ (c_X9_isOut l G Y H.size p2 r3 hc) (va_cwS 1 hts gX9_near_X9_isOut rfl rfl rfl (by decide +kernel) ⟨(Nat.le_of_ble_eq_true rfl), (Nat.le_of_ble_eq_true rfl)⟩) trivial okT hK hP hD [] rfl rfl rfl hl.1 rfl (Nat.le_of_ble_eq_true rfl) dX9_near_9) hP hD hS hA [] [0, 1, 2] [0, 1, 2] rfl rfl rfl (by decide) rfl rfl (fun H locs hP hD hS => ?_)
      refine lv_if_eq (tgt := 24) hx hb dX9_near_12 (by decide) (fun c4 => ?_) (fun c4 => ?_)
      · have hf := it hf c4
        refine lv_bipush (v := -2) hx hb dX9_near_24 (by decide) ?_
        have e0 := rt1 hf
        exact W.iret (v := (-2 : Int32)) hx hb hr (fun t ht hW => ⟨⟨(-2 : Int32), (), rfl, e0, by rw [ht]; exact hP, va_K.moved hW.alike hK, by rw [hAe]; exact hD⟩, hS.F ht⟩) hS.2.2 dX9_near_26
      · have hf := ie hf c4
        refine lv_aload_n hx hb dX9_near_15 rfl (lv_at hl 0 rfl) ?_
        refine lv_iload_n hx hb dX9_near_16 rfl (lv_at hl 1 rfl) ?_
        refine lv_iload_n hx hb dX9_near_17 rfl (lv_at hl 2 rfl) ?_
        obtain ⟨r5, hc, hf⟩ := bd1 hf
        refine cl_i (ws' := [(qx 0, oX9 qx x_points x_lines x_tide x_isKept x_isMuch x_sum x_once x_twice x_isTermMuch x_nodes x_newMany x_isTooGreat x_come x_foundSet), (qx 6, .inl (Y 0, 40, .inl x_low)), (qx 7, .inl (Y 0, 40, .inl x_high))]) (wr := []) (rnV (As := [.int p1, .int p2]) (rest := []) ⟨hx, hb, hml, hown, hts⟩ (c_X9_nearOf l G Y H.size qx x_points x_lines x_tide x_low x_high x_isKept x_isMuch x_sum x_once x_twice x_isTermMuch x_nodes x_newMany x_isTooGreat x_come x_foundSet p1 p2 r5 hc) (cwV 2 hts gX9_near_X9_nearOf rfl rfl rfl (by decide +kernel) ⟨(Nat.le_of_ble_eq_true rfl), (Nat.le_of_ble_eq_true rfl)⟩) trivial okT hK hP hD [0, 1, 2] rfl rfl (ci := 7) (q0 := 0) rfl rfl rfl rfl hl.1 rfl (Nat.le_of_ble_eq_true rfl) dX9_near_18) hP hD hS hA [0, 1, 2] [] [0, 1, 2] rfl rfl rfl (by decide) rfl rfl (fun H locs hP hD hS => ?_)
        refine lv_goto (tgt := 26) hx hb dX9_near_21 (by decide) ?_
        have e0 := rt1 hf
        exact W.iret (v := r5) hx hb hr (fun t ht hW => ⟨⟨r5, (), rfl, e0, by rw [ht]; exact hP, va_K.moved hW.alike hK, by rw [hAe]; exact hD⟩, hS.F ht⟩) hS.2.2 dX9_near_26
  exact E0 s.heap [] hP hD hS ls hl
-- X9_free
set_option maxRecDepth 100000 in
set_option maxHeartbeats 4000000 in
theorem c_X9_free (l : Launch) (G : va_G) (Y : Nat → ClassId) (sz : Nat) (qx : Nat → Nat) (x_points : Int32) (x_lines : Int32) (x_tide : Int32) (x_isKept : Int32) (x_isMuch : Int32) (x_sum : Int64) (x_once : Int64) (x_twice : Int64) (x_isTermMuch : Int32) (x_nodes : Int32) (x_newMany : Int32) (x_isTooGreat : Int32) (x_come : Int32) (x_foundSet : Int64) (p1 : Int32) (rv : Int32) (hf : f_X9_free x_points p1 = some (rv)) : Met l yX9_free wsX9_free (rmk 0 0) (va_Pc [.ref (qx 0), .int p1] (Pre G (tys Y) [(qx 0, oX9 qx x_points x_lines x_tide x_isKept x_isMuch x_sum x_once x_twice x_isTermMuch x_nodes x_newMany x_isTooGreat x_come x_foundSet)] sz xT)) (va_Qi (fun (r : Int32) (_ : Unit) => r = rv) (Pst G (tys Y) [(qx 0, oX9 qx x_points x_lines x_tide x_isKept x_isMuch x_sum x_once x_twice x_isTermMuch x_nodes x_newMany x_isTooGreat x_come x_foundSet)] sz [(qx 0, oX9 qx x_points x_lines x_tide x_isKept x_isMuch x_sum x_once x_twice x_isTermMuch x_nodes x_newMany x_isTooGreat x_come x_foundSet)]) (va_A [(qx 0, oX9 qx x_points x_lines x_tide x_isKept x_isMuch x_sum x_once x_twice x_isTermMuch x_nodes x_newMany x_isTooGreat x_come x_foundSet)] sz)) 0 0 (va_A [(qx 0, oX9 qx x_points x_lines x_tide x_isKept x_isMuch x_sum x_once x_twice x_isTermMuch x_nodes x_newMany x_isTooGreat x_come x_foundSet)] sz) := by
  refine Met.ofW (cc := cX9_free) (maxL := 2) (ret := (some .int)) (by decide) rfl ?_
  intro p e s m args below meth c s₁ B hml hv
  obtain ⟨rfl, hsz, hP, hK, hD0, hX⟩ := hv
  have hx := B.exec
  have hb := B.bytes
  have hr := B.returns
  have hts := atoms_spec (ws := wsX9_free) B.pre
  have hown : s.vm.findClass RX9 = some m.cls := findClass_of_methodNamed B.named
  have hlocks := B.notSynchronized
  subst hsz
  have hD := hD0.self (sz := s.heap.size)
  generalize hAe : va_A [(qx 0, oX9 qx x_points x_lines x_tide x_isKept x_isMuch x_sum x_once x_twice x_isTermMuch x_nodes x_newMany x_isTooGreat x_come x_foundSet)] s.heap.size = A at hD ⊢
  have hA : ∀ q : Nat, s.heap.size ≤ q → A q := fun q h => by rw [← hAe]; exact Or.inr h
  have hS : va_S A s.heap s.heap [] := va_S.rf
  have hP : va_P G vwCl [(qx 0, oX9 qx x_points x_lines x_tide x_isKept x_isMuch x_sum x_once x_twice x_isTermMuch x_nodes x_newMany x_isTooGreat x_come x_foundSet)] s.heap := hP
  have wd1 : (Cond.fieldLink RX9 92 "PairedLinesModel" "points" "I").before [.ref (qx 0), .int p1].toArray s = true := hts _ (List.mem_of_getElem? (i := 1) rfl)
  have inX9w : ∀ w ∈ u_ws RX9 TX9 37, w ∈ wsX9_free := fun w hw => List.mem_cons_of_mem _ (List.mem_append_right _ (hw))
  have hl := lv_entry ([.ref (qx 0), .int p1]) (n := 2) (Nat.le_of_ble_eq_true rfl)
  rw [lg_entry_eq]
  generalize (lg_sl ([.ref (qx 0), .int p1]) ++ List.replicate (2 - (lg_sl ([.ref (qx 0), .int p1])).length) Slot.unset).toArray = ls at hl ⊢
  have hl : lv_has ls 2 [(0, .ref (qx 0)), (1, .int p1)] := hl
  have E0 : ∀ (H : Heap) (locs : List Loc), va_P G vwCl [(qx 0, oX9 qx x_points x_lines x_tide x_isKept x_isMuch x_sum x_once x_twice x_isTermMuch x_nodes x_newMany x_isTooGreat x_come x_foundSet)] H → va_D A [(qx 0, oX9 qx x_points x_lines x_tide x_isKept x_isMuch x_sum x_once x_twice x_isTermMuch x_nodes x_newMany x_isTooGreat x_come x_foundSet)] → va_S A s.heap H locs → ∀ (ls : Array Slot), lv_has ls 2 [(0, .ref (qx 0)), (1, .int p1)] → W p l e (headSpec wsX9_free (rmk 0 0)).room s m [.ref (qx 0), .int p1].toArray below meth c H locs 0 0 (MQ below (va_Qi (fun (r : Int32) (_ : Unit) => r = rv) (Pst G (tys Y) [(qx 0, oX9 qx x_points x_lines x_tide x_isKept x_isMuch x_sum x_once x_twice x_isTermMuch x_nodes x_newMany x_isTooGreat x_come x_foundSet)] s.heap.size [(qx 0, oX9 qx x_points x_lines x_tide x_isKept x_isMuch x_sum x_once x_twice x_isTermMuch x_nodes x_newMany x_isTooGreat x_come x_foundSet)]) A) [.ref (qx 0), .int p1].toArray s 0 0 A) (F0 m 0 ls []) := by
    intro H locs hP hD hS ls hl
    unfold f_X9_free at hf
    refine lv_iconst (v := 1) hx hb dX9_free_0 (by decide) ?_
    refine lv_aload_n hx hb dX9_free_1 rfl (lv_at hl 0 rfl) ?_
    refine va_get (D := G) (ci := 7) (v := .int x_points) (C := RX9) (T := TX9) (N := 37) hx hb hts inX9w hown hK hP 0 rfl rfl 0 (by decide) wd1 (fun _ h9 => h9) rfl dX9_free_2 ?_
    refine lv_ishl hx hb dX9_free_5 ?_
    refine lv_iconst (v := 1) hx hb dX9_free_6 (by decide) ?_
    refine lv_isub hx hb dX9_free_7 ?_
    refine lv_iload_n hx hb dX9_free_8 rfl (lv_at hl 1 rfl) ?_
    refine lv_iconst (v := -1) hx hb dX9_free_9 (by decide) ?_
    refine lv_ixor hx hb dX9_free_10 ?_
    refine lv_iand hx hb dX9_free_11 ?_
    have e0 := rt1 hf
    exact W.iret (v := ((((1 : Int32) <<< (x_points &&& 31)) - (1 : Int32)) &&& (p1 ^^^ (-1 : Int32)))) hx hb hr (fun t ht hW => ⟨⟨((((1 : Int32) <<< (x_points &&& 31)) - (1 : Int32)) &&& (p1 ^^^ (-1 : Int32))), (), rfl, e0, by rw [ht]; exact hP, va_K.moved hW.alike hK, by rw [hAe]; exact hD⟩, hS.F ht⟩) hS.2.2 dX9_free_12
  exact E0 s.heap [] hP hD hS ls hl
-- X9_many
set_option maxRecDepth 100000 in
set_option maxHeartbeats 4000000 in
theorem c_X9_many (l : Launch) (G : va_G) (Y : Nat → ClassId) (sz : Nat) (p1 : Int32) (rv : Int32) (hf : f_X9_many p1 = some (rv)) : Met l yX9_many wsX9_many (rmk 0 0) (va_Pc [.int p1] (Pre G (tys Y) [] sz xT)) (va_Qi (fun (r : Int32) (_ : Unit) => r = rv) (Pst G (tys Y) [] sz []) (va_A [] sz)) 0 0 (va_A [] sz) := by
  refine Met.ofW (cc := cX9_many) (maxL := 3) (ret := (some .int)) (by decide) rfl ?_
  intro p e s m args below meth c s₁ B hml hv
  obtain ⟨rfl, hsz, hP, hK, hD0, hX⟩ := hv
  have hx := B.exec
  have hb := B.bytes
  have hr := B.returns
  have hts := atoms_spec (ws := wsX9_many) B.pre
  have hown : s.vm.findClass RX9 = some m.cls := findClass_of_methodNamed B.named
  have hlocks := B.notSynchronized
  subst hsz
  have hD := hD0.self (sz := s.heap.size)
  generalize hAe : va_A [] s.heap.size = A at hD ⊢
  have hA : ∀ q : Nat, s.heap.size ≤ q → A q := fun q h => by rw [← hAe]; exact Or.inr h
  have hS : va_S A s.heap s.heap [] := va_S.rf
  have hP : va_P G vwCl [] s.heap := hP
  have hl := lv_entry ([.int p1]) (n := 3) (Nat.le_of_ble_eq_true rfl)
  rw [lg_entry_eq]
  generalize (lg_sl ([.int p1]) ++ List.replicate (3 - (lg_sl ([.int p1])).length) Slot.unset).toArray = ls at hl ⊢
  have hl : lv_has ls 3 [(0, .int p1)] := hl
  have B4 : ∀ (n4 : Nat), ∀ (x1 : Int32) (x2 : Int32), f_X9_many_b4 p1 n4 x1 x2 = some (rv) → ∀ (H : Heap) (locs : List Loc), va_P G vwCl [] H → va_D A [] → va_S A s.heap H locs → ∀ (ls : Array Slot), lv_has ls 3 [(0, .int p1), (1, .int x1), (2, .int x2)] → W p l e (headSpec wsX9_many (rmk 0 0)).room s m [.int p1].toArray below meth c H locs 0 0 (MQ below (va_Qi (fun (r : Int32) (_ : Unit) => r = rv) (Pst G (tys Y) [] s.heap.size []) A) [.int p1].toArray s 0 0 A) (F0 m 4 ls []) := by
    intro n4
    induction n4 with
    | zero =>
      intro x1 x2 hf H locs hP hD hS ls hl
      exact no_none hf
    | succ n4 ih4 =>
      intro x1 x2 hf H locs hP hD hS ls hl
      have hf : f_X9_many_s4 p1 (f_X9_many_b4 p1  n4) x1 x2 = some (rv) := hf
      unfold f_X9_many_s4 at hf
      refine lv_iload_n hx hb dX9_many_4 rfl (lv_at hl 2 rfl) ?_
      refine lv_bipush (v := 12) hx hb dX9_many_5 (by decide) ?_
      refine lv_icmp_ge (tgt := 24) hx hb dX9_many_7 (by decide) (fun c1 => ?_) (fun c1 => ?_)
      · have hf := it hf c1
        refine lv_iload_n hx hb dX9_many_24 rfl (lv_at hl 1 rfl) ?_
        have e0 := rt1 hf
        exact W.iret (v := x1) hx hb hr (fun t ht hW => ⟨⟨x1, (), rfl, e0, by rw [ht]; exact hP, va_K.moved hW.alike hK, by rw [hAe]; exact hD⟩, hS.F ht⟩) hS.2.2 dX9_many_25
      · have hf := ie hf c1
        refine lv_iload_n hx hb dX9_many_10 rfl (lv_at hl 1 rfl) ?_
        refine lv_iload_n hx hb dX9_many_11 rfl (lv_at hl 0 rfl) ?_
        refine lv_iload_n hx hb dX9_many_12 rfl (lv_at hl 2 rfl) ?_
        refine lv_iushr hx hb dX9_many_13 rfl ?_
        refine lv_iconst (v := 1) hx hb dX9_many_14 (by decide) ?_
        refine lv_iand hx hb dX9_many_15 ?_
        refine lv_iadd hx hb dX9_many_16 ?_
        refine lv_topi (fun v2 e_v2 => ?_)
        have hf := nm_at hf e_v2
        refine lv_istore_n (lv' := [(1, .int v2), (0, .int p1), (2, .int x2)]) hx hb dX9_many_17 rfl hl (by decide) rfl (fun ls hl => ?_)
        obtain ⟨v3, e_v3⟩ : ∃ z : Int32, z = (x2 + 1) := ⟨_, rfl⟩
        have hf := nm_at hf e_v3
        refine lv_iinc (v := v3) (lv' := [(2, .int v3), (1, .int v2), (0, .int p1)]) hx hb dX9_many_18 hl (k := 2) rfl (by rw [e_v3]; rfl) (by decide) rfl (fun ls hl => ?_)
        refine lv_goto (tgt := 4) hx hb dX9_many_21 (by decide) ?_
        exact ih4 v2 v3 hf _ _ hP hD hS ls (lv_sub hl [2, 1, 0] rfl)
  have E0 : ∀ (H : Heap) (locs : List Loc), va_P G vwCl [] H → va_D A [] → va_S A s.heap H locs → ∀ (ls : Array Slot), lv_has ls 3 [(0, .int p1)] → W p l e (headSpec wsX9_many (rmk 0 0)).room s m [.int p1].toArray below meth c H locs 0 0 (MQ below (va_Qi (fun (r : Int32) (_ : Unit) => r = rv) (Pst G (tys Y) [] s.heap.size []) A) [.int p1].toArray s 0 0 A) (F0 m 0 ls []) := by
    intro H locs hP hD hS ls hl
    unfold f_X9_many at hf
    refine lv_iconst (v := 0) hx hb dX9_many_0 (by decide) ?_
    refine lv_istore_n (lv' := [(1, .int (0 : Int32)), (0, .int p1)]) hx hb dX9_many_1 rfl hl (by decide) rfl (fun ls hl => ?_)
    refine lv_iconst (v := 0) hx hb dX9_many_2 (by decide) ?_
    refine lv_istore_n (lv' := [(2, .int (0 : Int32)), (1, .int (0 : Int32)), (0, .int p1)]) hx hb dX9_many_3 rfl hl (by decide) rfl (fun ls hl => ?_)
    exact B4 70 (0 : Int32) (0 : Int32) hf _ _ hP hD hS ls (lv_sub hl [2, 1, 0] rfl)
  exact E0 s.heap [] hP hD hS ls hl
-- X9_countsOf
set_option maxRecDepth 100000 in
set_option maxHeartbeats 4000000 in
theorem c_X9_countsOf (l : Launch) (G : va_G) (Y : Nat → ClassId) (sz : Nat) (qx : Nat → Nat) (x_points : Int32) (x_lines : Int32) (x_tide : Int32) (x_isKept : Int32) (x_table : Nat → Int64) (x_heavy : Nat → Int32) (x_isMuch : Int32) (x_sum : Int64) (x_once : Int64) (x_twice : Int64) (x_isTermMuch : Int32) (x_nodes : Int32) (x_newMany : Int32) (x_isTooGreat : Int32) (x_come : Int32) (x_foundSet : Int64) (p1 : Int32) (o_x_table : Nat → Int64) (hf : f_X9_countsOf x_points x_table x_heavy p1 = some (o_x_table)) : Met l yX9_countsOf wsX9_countsOf (rmk 1 23) (va_Pc [.ref (qx 0), .int p1] (Pre G (tys Y) [(qx 0, oX9 qx x_points x_lines x_tide x_isKept x_isMuch x_sum x_once x_twice x_isTermMuch x_nodes x_newMany x_isTooGreat x_come x_foundSet), (qx 10, .inl (Y 1, 28672, .inr (.inl x_table))), (qx 12, .inl (Y 0, 144, .inl x_heavy))] sz xT)) (va_Qv (fun (_ : Unit) => True) (Pst G (tys Y) [(qx 0, oX9 qx x_points x_lines x_tide x_isKept x_isMuch x_sum x_once x_twice x_isTermMuch x_nodes x_newMany x_isTooGreat x_come x_foundSet), (qx 10, .inl (Y 1, 28672, .inr (.inl x_table))), (qx 12, .inl (Y 0, 144, .inl x_heavy))] sz [(qx 0, oX9 qx x_points x_lines x_tide x_isKept x_isMuch x_sum x_once x_twice x_isTermMuch x_nodes x_newMany x_isTooGreat x_come x_foundSet), (qx 10, .inl (Y 1, 28672, .inr (.inl o_x_table))), (qx 12, .inl (Y 0, 144, .inl x_heavy))]) (va_A [(qx 0, oX9 qx x_points x_lines x_tide x_isKept x_isMuch x_sum x_once x_twice x_isTermMuch x_nodes x_newMany x_isTooGreat x_come x_foundSet), (qx 10, .inl (Y 1, 28672, .inr (.inl x_table))), (qx 12, .inl (Y 0, 144, .inl x_heavy))] sz)) 0 0 (va_A [(qx 0, oX9 qx x_points x_lines x_tide x_isKept x_isMuch x_sum x_once x_twice x_isTermMuch x_nodes x_newMany x_isTooGreat x_come x_foundSet), (qx 10, .inl (Y 1, 28672, .inr (.inl x_table))), (qx 12, .inl (Y 0, 144, .inl x_heavy))] sz) := by
  refine Met.ofW (cc := cX9_countsOf) (maxL := 9) (ret := none) (by decide) rfl ?_
  intro p e s m args below meth c s₁ B hml hv
  obtain ⟨rfl, hsz, hP, hK, hD0, hX⟩ := hv
  have hx := B.exec
  have hb := B.bytes
  have hr := B.returns
  have hts := atoms_spec (ws := wsX9_countsOf) B.pre
  have hown : s.vm.findClass RX9 = some m.cls := findClass_of_methodNamed B.named
  have hlocks := B.notSynchronized
  subst hsz
  have hD := hD0.self (sz := s.heap.size)
  generalize hAe : va_A [(qx 0, oX9 qx x_points x_lines x_tide x_isKept x_isMuch x_sum x_once x_twice x_isTermMuch x_nodes x_newMany x_isTooGreat x_come x_foundSet), (qx 10, .inl (Y 1, 28672, .inr (.inl x_table))), (qx 12, .inl (Y 0, 144, .inl x_heavy))] s.heap.size = A at hD ⊢
  have hA : ∀ q : Nat, s.heap.size ≤ q → A q := fun q h => by rw [← hAe]; exact Or.inr h
  have hS : va_S A s.heap s.heap [] := va_S.rf
  have hP : va_P G vwCl [(qx 0, oX9 qx x_points x_lines x_tide x_isKept x_isMuch x_sum x_once x_twice x_isTermMuch x_nodes x_newMany x_isTooGreat x_come x_foundSet), (qx 10, .inl (Y 1, 28672, .inr (.inl x_table))), (qx 12, .inl (Y 0, 144, .inl x_heavy))] s.heap := hP
  have wd1 : (Cond.fieldLink RX9 25 "PairedLinesModel" "table" "[J").before [.ref (qx 0), .int p1].toArray s = true := hts _ (List.mem_of_getElem? (i := 1) rfl)
  have wd2 : (Cond.fieldLink RX9 92 "PairedLinesModel" "points" "I").before [.ref (qx 0), .int p1].toArray s = true := hts _ (List.mem_of_getElem? (i := 2) rfl)
  have wd3 : (Cond.fieldLink RX9 32 "PairedLinesModel" "heavy" "[I").before [.ref (qx 0), .int p1].toArray s = true := hts _ (List.mem_of_getElem? (i := 3) rfl)
  have inX9w : ∀ w ∈ u_ws RX9 TX9 37, w ∈ wsX9_countsOf := fun w hw => List.mem_cons_of_mem _ (List.mem_append_right _ (hw))
  have hl := lv_entry ([.ref (qx 0), .int p1]) (n := 9) (Nat.le_of_ble_eq_true rfl)
  rw [lg_entry_eq]
  generalize (lg_sl ([.ref (qx 0), .int p1]) ++ List.replicate (9 - (lg_sl ([.ref (qx 0), .int p1])).length) Slot.unset).toArray = ls at hl ⊢
  have hl : lv_has ls 9 [(0, .ref (qx 0)), (1, .int p1)] := hl
  have B70 : ∀ (n70 : Nat), ∀ (b_x_table : Nat → Int64) (x2 : Int32) (x3 : Int32) (x4 : Int32), f_X9_countsOf_b70 x_points x_heavy p1 n70 b_x_table x2 x3 x4 = some (o_x_table) → ∀ (H : Heap) (locs : List Loc), va_P G vwCl [(qx 0, oX9 qx x_points x_lines x_tide x_isKept x_isMuch x_sum x_once x_twice x_isTermMuch x_nodes x_newMany x_isTooGreat x_come x_foundSet), (qx 10, .inl (Y 1, 28672, .inr (.inl b_x_table))), (qx 12, .inl (Y 0, 144, .inl x_heavy))] H → va_D A [(qx 0, oX9 qx x_points x_lines x_tide x_isKept x_isMuch x_sum x_once x_twice x_isTermMuch x_nodes x_newMany x_isTooGreat x_come x_foundSet), (qx 10, .inl (Y 1, 28672, .inr (.inl b_x_table))), (qx 12, .inl (Y 0, 144, .inl x_heavy))] → va_S A s.heap H locs → ∀ (ls : Array Slot), lv_has ls 9 [(0, .ref (qx 0)), (1, .int p1), (2, .int x2), (3, .int x3), (4, .int x4)] → W p l e (headSpec wsX9_countsOf (rmk 1 23)).room s m [.ref (qx 0), .int p1].toArray below meth c H locs 0 0 (MQ below (va_Qv (fun (_ : Unit) => True) (Pst G (tys Y) [(qx 0, oX9 qx x_points x_lines x_tide x_isKept x_isMuch x_sum x_once x_twice x_isTermMuch x_nodes x_newMany x_isTooGreat x_come x_foundSet), (qx 10, .inl (Y 1, 28672, .inr (.inl x_table))), (qx 12, .inl (Y 0, 144, .inl x_heavy))] s.heap.size [(qx 0, oX9 qx x_points x_lines x_tide x_isKept x_isMuch x_sum x_once x_twice x_isTermMuch x_nodes x_newMany x_isTooGreat x_come x_foundSet), (qx 10, .inl (Y 1, 28672, .inr (.inl o_x_table))), (qx 12, .inl (Y 0, 144, .inl x_heavy))]) A) [.ref (qx 0), .int p1].toArray s 0 0 A) (F0 m 70 ls []) := by
    intro n70
    induction n70 with
    | zero =>
      intro b_x_table x2 x3 x4 hf H locs hP hD hS ls hl
      exact no_none hf
    | succ n70 ih70 =>
      have B96 : ∀ (n96 : Nat), ∀ (b_x_table : Nat → Int64) (x2 : Int32) (x3 : Int32) (x4 : Int32) (x5 : Int32) (x6 : Int32), f_X9_countsOf_b96 x_points x_heavy p1 (f_X9_countsOf_b70 x_points x_heavy p1 n70) n96 b_x_table x2 x3 x4 x5 x6 = some (o_x_table) → ∀ (H : Heap) (locs : List Loc), va_P G vwCl [(qx 0, oX9 qx x_points x_lines x_tide x_isKept x_isMuch x_sum x_once x_twice x_isTermMuch x_nodes x_newMany x_isTooGreat x_come x_foundSet), (qx 10, .inl (Y 1, 28672, .inr (.inl b_x_table))), (qx 12, .inl (Y 0, 144, .inl x_heavy))] H → va_D A [(qx 0, oX9 qx x_points x_lines x_tide x_isKept x_isMuch x_sum x_once x_twice x_isTermMuch x_nodes x_newMany x_isTooGreat x_come x_foundSet), (qx 10, .inl (Y 1, 28672, .inr (.inl b_x_table))), (qx 12, .inl (Y 0, 144, .inl x_heavy))] → va_S A s.heap H locs → ∀ (ls : Array Slot), lv_has ls 9 [(0, .ref (qx 0)), (1, .int p1), (2, .int x2), (3, .int x3), (4, .int x4), (5, .int x5), (6, .int x6)] → W p l e (headSpec wsX9_countsOf (rmk 1 23)).room s m [.ref (qx 0), .int p1].toArray below meth c H locs 0 0 (MQ below (va_Qv (fun (_ : Unit) => True) (Pst G (tys Y) [(qx 0, oX9 qx x_points x_lines x_tide x_isKept x_isMuch x_sum x_once x_twice x_isTermMuch x_nodes x_newMany x_isTooGreat x_come x_foundSet), (qx 10, .inl (Y 1, 28672, .inr (.inl x_table))), (qx 12, .inl (Y 0, 144, .inl x_heavy))] s.heap.size [(qx 0, oX9 qx x_points x_lines x_tide x_isKept x_isMuch x_sum x_once x_twice x_isTermMuch x_nodes x_newMany x_isTooGreat x_come x_foundSet), (qx 10, .inl (Y 1, 28672, .inr (.inl o_x_table))), (qx 12, .inl (Y 0, 144, .inl x_heavy))]) A) [.ref (qx 0), .int p1].toArray s 0 0 A) (F0 m 96 ls []) := by
        intro n96
        induction n96 with
        | zero =>
          intro b_x_table x2 x3 x4 x5 x6 hf H locs hP hD hS ls hl
          exact no_none hf
        | succ n96 ih96 =>
          intro b_x_table x2 x3 x4 x5 x6 hf H locs hP hD hS ls hl
          have hf : f_X9_countsOf_s96 x_points x_heavy p1 (f_X9_countsOf_b70 x_points x_heavy p1 n70) (f_X9_countsOf_b96 x_points x_heavy p1 (f_X9_countsOf_b70 x_points x_heavy p1 n70) n96) b_x_table x2 x3 x4 x5 x6 = some (o_x_table) := hf
          unfold f_X9_countsOf_s96 at hf
          refine lv_iload hx hb dX9_countsOf_96 (lv_at hl 6 rfl) ?_
          refine lv_bipush (v := 7) hx hb dX9_countsOf_98 (by decide) ?_
          refine lv_icmp_ge (tgt := 182) hx hb dX9_countsOf_100 (by decide) (fun c1 => ?_) (fun c1 => ?_)
          · have hf := it hf c1
            obtain ⟨v2, e_v2⟩ : ∃ z : Int32, z = (x4 + 1) := ⟨_, rfl⟩
            have hf := nm_at hf e_v2
            refine lv_iinc (v := v2) (lv' := [(4, .int v2), (0, .ref (qx 0)), (1, .int p1), (2, .int x2), (3, .int x3), (5, .int x5), (6, .int x6)]) hx hb dX9_countsOf_182 hl (k := 4) rfl (by rw [e_v2]; rfl) (by decide) rfl (fun ls hl => ?_)
            refine lv_goto (tgt := 70) hx hb dX9_countsOf_185 (by decide) ?_
            exact ih70 b_x_table x2 x3 v2 hf _ _ hP hD hS ls (lv_sub hl [1, 2, 3, 4, 0] rfl)
          · have hf := ie hf c1
            refine lv_iload hx hb dX9_countsOf_103 (lv_at hl 5 rfl) ?_
            refine lv_if_lt (tgt := 182) hx hb dX9_countsOf_105 (by decide) (fun c3 => ?_) (fun c3 => ?_)
            · have hf := it hf c3
              obtain ⟨v4, e_v4⟩ : ∃ z : Int32, z = (x4 + 1) := ⟨_, rfl⟩
              have hf := nm_at hf e_v4
              refine lv_iinc (v := v4) (lv' := [(4, .int v4), (0, .ref (qx 0)), (1, .int p1), (2, .int x2), (3, .int x3), (5, .int x5), (6, .int x6)]) hx hb dX9_countsOf_182 hl (k := 4) rfl (by rw [e_v4]; rfl) (by decide) rfl (fun ls hl => ?_)
              refine lv_goto (tgt := 70) hx hb dX9_countsOf_185 (by decide) ?_
              exact ih70 b_x_table x2 x3 v4 hf _ _ hP hD hS ls (lv_sub hl [1, 2, 3, 4, 0] rfl)
            · have hf := ie hf c3
              refine lv_iload_n hx hb dX9_countsOf_108 rfl (lv_at hl 3 rfl) ?_
              refine lv_i2l hx hb dX9_countsOf_109 rfl ?_
              refine lv_iload hx hb dX9_countsOf_110 (lv_at hl 4 rfl) ?_
              obtain ⟨r5, hc, hf⟩ := bd1 hf
              refine cl_i (ws' := [(qx 0, oX9 qx x_points x_lines x_tide x_isKept x_isMuch x_sum x_once x_twice x_isTermMuch x_nodes x_newMany x_isTooGreat x_come x_foundSet), (qx 10, .inl (Y 1, 28672, .inr (.inl b_x_table))), (qx 12, .inl (Y 0, 144, .inl x_heavy))]) (wr := [(qx 0, oX9 qx x_points x_lines x_tide x_isKept x_isMuch x_sum x_once x_twice x_isTermMuch x_nodes x_newMany x_isTooGreat x_come x_foundSet), (qx 10, .inl (Y 1, 28672, .inr (.inl b_x_table))), (qx 12, .inl (Y 0, 144, .inl x_heavy))]) (rnS (As := [.long x3.toInt64, .int x4]) (rest := []) ⟨hx, hb, hml, hown, hts⟩ (c_X9_has l G Y H.size x3.toInt64 x4 r5 hc) (va_cwS 2 hts gX9_countsOf_X9_has rfl rfl rfl (by decide +kernel) ⟨(Nat.le_of_ble_eq_true rfl), (Nat.le_of_ble_eq_true rfl)⟩) trivial okT hK hP hD [] rfl rfl rfl hl.1 rfl (Nat.le_of_ble_eq_true rfl) dX9_countsOf_112) hP hD hS hA [] [0, 1, 2] [0, 1, 2] rfl rfl rfl (by decide) rfl rfl (fun H locs hP hD hS => ?_)
              refine lv_if_eq (tgt := 182) hx hb dX9_countsOf_115 (by decide) (fun c6 => ?_) (fun c6 => ?_)
              · have hf := it hf c6
                obtain ⟨v7, e_v7⟩ : ∃ z : Int32, z = (x4 + 1) := ⟨_, rfl⟩
                have hf := nm_at hf e_v7
                refine lv_iinc (v := v7) (lv' := [(4, .int v7), (0, .ref (qx 0)), (1, .int p1), (2, .int x2), (3, .int x3), (5, .int x5), (6, .int x6)]) hx hb dX9_countsOf_182 hl (k := 4) rfl (by rw [e_v7]; rfl) (by decide) rfl (fun ls hl => ?_)
                refine lv_goto (tgt := 70) hx hb dX9_countsOf_185 (by decide) ?_
                exact ih70 b_x_table x2 x3 v7 hf _ _ hP hD hS ls (lv_sub hl [1, 2, 3, 4, 0] rfl)
              · have hf := ie hf c6
                refine lv_iload hx hb dX9_countsOf_118 (lv_at hl 5 rfl) ?_
                refine lv_i2l hx hb dX9_countsOf_120 rfl ?_
                refine lv_aload_n hx hb dX9_countsOf_121 rfl (lv_at hl 0 rfl) ?_
                refine va_get (D := G) (ci := 7) (v := .ref (qx 10)) (C := RX9) (T := TX9) (N := 37) hx hb hts inX9w hown hK hP 0 rfl rfl 9 (by decide) wd1 (fun _ h9 => h9) rfl dX9_countsOf_122 ?_
                refine lv_bipush (v := 7) hx hb dX9_countsOf_125 (by decide) ?_
                refine lv_iload_n hx hb dX9_countsOf_127 rfl (lv_at hl 3 rfl) ?_
                refine lv_iconst (v := 1) hx hb dX9_countsOf_128 (by decide) ?_
                refine lv_iload hx hb dX9_countsOf_129 (lv_at hl 4 rfl) ?_
                refine lv_ishl hx hb dX9_countsOf_131 ?_
                refine lv_iconst (v := -1) hx hb dX9_countsOf_132 (by decide) ?_
                refine lv_ixor hx hb dX9_countsOf_133 ?_
                refine lv_iand hx hb dX9_countsOf_134 ?_
                refine lv_imul hx hb dX9_countsOf_135 ?_
                refine lv_iload hx hb dX9_countsOf_136 (lv_at hl 6 rfl) ?_
                refine lv_iadd hx hb dX9_countsOf_138 ?_
                refine lv_iconst (v := 1) hx hb dX9_countsOf_139 (by decide) ?_
                refine lv_isub hx hb dX9_countsOf_140 ?_
                obtain ⟨g8, hf⟩ := gd hf
                refine va_lald hx hb hK hP 1 1 rfl rfl g8 dX9_countsOf_141 ?_
                obtain ⟨r9, hc, hf⟩ := bd1 hf
                refine cl_l (ws' := [(qx 0, oX9 qx x_points x_lines x_tide x_isKept x_isMuch x_sum x_once x_twice x_isTermMuch x_nodes x_newMany x_isTooGreat x_come x_foundSet), (qx 10, .inl (Y 1, 28672, .inr (.inl b_x_table))), (qx 12, .inl (Y 0, 144, .inl x_heavy))]) (wr := [(qx 0, oX9 qx x_points x_lines x_tide x_isKept x_isMuch x_sum x_once x_twice x_isTermMuch x_nodes x_newMany x_isTooGreat x_come x_foundSet), (qx 10, .inl (Y 1, 28672, .inr (.inl b_x_table))), (qx 12, .inl (Y 0, 144, .inl x_heavy))]) (rnS (As := [.long x5.toInt64, .long (b_x_table ((((7 : Int32) * (x3 &&& (((1 : Int32) <<< (x4 &&& 31)) ^^^ (-1 : Int32)))) + x6) - (1 : Int32)).toNatClampNeg)]) (rest := []) ⟨hx, hb, hml, hown, hts⟩ (c_X9_times l G Y H.size x5.toInt64 (b_x_table ((((7 : Int32) * (x3 &&& (((1 : Int32) <<< (x4 &&& 31)) ^^^ (-1 : Int32)))) + x6) - (1 : Int32)).toNatClampNeg) r9 hc) (va_cwS 2 hts gX9_countsOf_X9_times rfl rfl rfl (by decide +kernel) ⟨(Nat.le_of_ble_eq_true rfl), (Nat.le_of_ble_eq_true rfl)⟩) trivial okT hK hP hD [] rfl rfl rfl hl.1 rfl (Nat.le_of_ble_eq_true rfl) dX9_countsOf_142) hP hD hS hA [] [0, 1, 2] [0, 1, 2] rfl rfl rfl (by decide) rfl rfl (fun H locs hP hD hS => ?_)
                refine lv_lstore (lv' := [(7, .long r9), (0, .ref (qx 0)), (1, .int p1), (2, .int x2), (3, .int x3), (4, .int x4), (5, .int x5), (6, .int x6)]) hx hb dX9_countsOf_145 hl (by decide) rfl (fun ls hl => ?_)
                refine lv_aload_n hx hb dX9_countsOf_147 rfl (lv_at hl 1 rfl) ?_
                refine va_get (D := G) (ci := 7) (v := .ref (qx 10)) (C := RX9) (T := TX9) (N := 37) hx hb hts inX9w hown hK hP 0 rfl rfl 9 (by decide) wd1 (fun _ h9 => h9) rfl dX9_countsOf_148 ?_
                refine lv_bipush (v := 7) hx hb dX9_countsOf_151 (by decide) ?_
                refine lv_iload_n hx hb dX9_countsOf_153 rfl (lv_at hl 2 rfl) ?_
                refine lv_imul hx hb dX9_countsOf_154 ?_
                refine lv_iload hx hb dX9_countsOf_155 (lv_at hl 7 rfl) ?_
                refine lv_iadd hx hb dX9_countsOf_157 ?_
                refine lv_aload_n hx hb dX9_countsOf_158 rfl (lv_at hl 1 rfl) ?_
                refine va_get (D := G) (ci := 7) (v := .ref (qx 10)) (C := RX9) (T := TX9) (N := 37) hx hb hts inX9w hown hK hP 0 rfl rfl 9 (by decide) wd1 (fun _ h9 => h9) rfl dX9_countsOf_159 ?_
                refine lv_bipush (v := 7) hx hb dX9_countsOf_162 (by decide) ?_
                refine lv_iload_n hx hb dX9_countsOf_164 rfl (lv_at hl 2 rfl) ?_
                refine lv_imul hx hb dX9_countsOf_165 ?_
                refine lv_iload hx hb dX9_countsOf_166 (lv_at hl 7 rfl) ?_
                refine lv_iadd hx hb dX9_countsOf_168 ?_
                obtain ⟨g10, hf⟩ := gd hf
                refine va_lald hx hb hK hP 1 1 rfl rfl g10 dX9_countsOf_169 ?_
                refine lv_lload hx hb dX9_countsOf_170 (lv_at hl 0 rfl) ?_
                obtain ⟨r11, hc, hf⟩ := bd1 hf
                refine cl_l (ws' := [(qx 0, oX9 qx x_points x_lines x_tide x_isKept x_isMuch x_sum x_once x_twice x_isTermMuch x_nodes x_newMany x_isTooGreat x_come x_foundSet), (qx 10, .inl (Y 1, 28672, .inr (.inl b_x_table))), (qx 12, .inl (Y 0, 144, .inl x_heavy))]) (wr := [(qx 0, oX9 qx x_points x_lines x_tide x_isKept x_isMuch x_sum x_once x_twice x_isTermMuch x_nodes x_newMany x_isTooGreat x_come x_foundSet), (qx 10, .inl (Y 1, 28672, .inr (.inl b_x_table))), (qx 12, .inl (Y 0, 144, .inl x_heavy))]) (rnS (As := [.long (b_x_table (((7 : Int32) * p1) + x6).toNatClampNeg), .long r9]) (rest := [.int (((7 : Int32) * p1) + x6), .ref (qx 10)]) ⟨hx, hb, hml, hown, hts⟩ (c_X9_plus l G Y H.size (b_x_table (((7 : Int32) * p1) + x6).toNatClampNeg) r9 r11 hc) (va_cwS 2 hts gX9_countsOf_X9_plus rfl rfl rfl (by decide +kernel) ⟨(Nat.le_of_ble_eq_true rfl), (Nat.le_of_ble_eq_true rfl)⟩) trivial okT hK hP hD [] rfl rfl rfl hl.1 rfl (Nat.le_of_ble_eq_true rfl) dX9_countsOf_172) hP hD hS hA [] [0, 1, 2] [0, 1, 2] rfl rfl rfl (by decide) rfl rfl (fun H locs hP hD hS => ?_)
                obtain ⟨g12, hf⟩ := gd hf
                refine va_last hx hb hK hP hD hS 1 1 rfl rfl g12 dX9_countsOf_175 (fun H locs hP hD hS => ?_)
                obtain ⟨v13, e_v13⟩ : ∃ z : Nat → Int64, z = vp_updL b_x_table (((7 : Int32) * p1) + x6).toNatClampNeg r11 := ⟨_, rfl⟩
                have hf := nm_at hf e_v13
                have hP : va_P G vwCl [(qx 0, oX9 qx x_points x_lines x_tide x_isKept x_isMuch x_sum x_once x_twice x_isTermMuch x_nodes x_newMany x_isTooGreat x_come x_foundSet), (qx 10, .inl (Y 1, 28672, .inr (.inl v13))), (qx 12, .inl (Y 0, 144, .inl x_heavy))] H := by rw [e_v13]; exact hP
                have hD : va_D A [(qx 0, oX9 qx x_points x_lines x_tide x_isKept x_isMuch x_sum x_once x_twice x_isTermMuch x_nodes x_newMany x_isTooGreat x_come x_foundSet), (qx 10, .inl (Y 1, 28672, .inr (.inl v13))), (qx 12, .inl (Y 0, 144, .inl x_heavy))] := by rw [e_v13]; exact hD
                obtain ⟨v14, e_v14⟩ : ∃ z : Int32, z = (x6 + 1) := ⟨_, rfl⟩
                have hf := nm_at hf e_v14
                refine lv_iinc (v := v14) (lv' := [(6, .int v14), (7, .long r9), (0, .ref (qx 0)), (1, .int p1), (2, .int x2), (3, .int x3), (4, .int x4), (5, .int x5)]) hx hb dX9_countsOf_176 hl (k := 7) rfl (by rw [e_v14]; rfl) (by decide) rfl (fun ls hl => ?_)
                refine lv_goto (tgt := 96) hx hb dX9_countsOf_179 (by decide) ?_
                exact ih96 v13 x2 x3 x4 x5 v14 hf _ _ hP hD hS ls (lv_sub hl [2, 3, 4, 5, 6, 7, 0] rfl)
      intro b_x_table x2 x3 x4 hf H locs hP hD hS ls hl
      have hf : f_X9_countsOf_s70 x_points x_heavy p1 (f_X9_countsOf_b70 x_points x_heavy p1  n70) b_x_table x2 x3 x4 = some (o_x_table) := hf
      unfold f_X9_countsOf_s70 at hf
      refine lv_iload hx hb dX9_countsOf_70 (lv_at hl 4 rfl) ?_
      refine lv_aload_n hx hb dX9_countsOf_72 rfl (lv_at hl 0 rfl) ?_
      refine va_get (D := G) (ci := 7) (v := .int x_points) (C := RX9) (T := TX9) (N := 37) hx hb hts inX9w hown hK hP 0 rfl rfl 0 (by decide) wd2 (fun _ h9 => h9) rfl dX9_countsOf_73 ?_
      refine lv_icmp_ge (tgt := 188) hx hb dX9_countsOf_76 (by decide) (fun c15 => ?_) (fun c15 => ?_)
      · have hf := it hf c15
        have e0 := rt1 hf
        have hP : va_P G vwCl [(qx 0, oX9 qx x_points x_lines x_tide x_isKept x_isMuch x_sum x_once x_twice x_isTermMuch x_nodes x_newMany x_isTooGreat x_come x_foundSet), (qx 10, .inl (Y 1, 28672, .inr (.inl o_x_table))), (qx 12, .inl (Y 0, 144, .inl x_heavy))] H := by rw [← e0]; exact hP
        have hD : va_D A [(qx 0, oX9 qx x_points x_lines x_tide x_isKept x_isMuch x_sum x_once x_twice x_isTermMuch x_nodes x_newMany x_isTooGreat x_come x_foundSet), (qx 10, .inl (Y 1, 28672, .inr (.inl o_x_table))), (qx 12, .inl (Y 0, 144, .inl x_heavy))] := by rw [← e0]; exact hD
        exact W.vret hx hb hr (fun t ht hW => ⟨⟨(), rfl, trivial, by rw [ht]; exact hP, va_K.moved hW.alike hK, by rw [hAe]; exact hD⟩, hS.F ht⟩) hS.2.2 dX9_countsOf_188
      · have hf := ie hf c15
        refine lv_aload_n hx hb dX9_countsOf_79 rfl (lv_at hl 0 rfl) ?_
        refine va_get (D := G) (ci := 7) (v := .ref (qx 12)) (C := RX9) (T := TX9) (N := 37) hx hb hts inX9w hown hK hP 0 rfl rfl 11 (by decide) wd3 (fun _ h9 => h9) rfl dX9_countsOf_80 ?_
        refine lv_bipush (v := 12) hx hb dX9_countsOf_83 (by decide) ?_
        refine lv_iload_n hx hb dX9_countsOf_85 rfl (lv_at hl 2 rfl) ?_
        refine lv_imul hx hb dX9_countsOf_86 ?_
        refine lv_iload hx hb dX9_countsOf_87 (lv_at hl 4 rfl) ?_
        refine lv_iadd hx hb dX9_countsOf_89 ?_
        obtain ⟨g16, hf⟩ := gd hf
        refine va_iald hx hb hK hP 2 0 rfl rfl g16 dX9_countsOf_90 ?_
        refine lv_topi (fun v17 e_v17 => ?_)
        have hf := nm_at hf e_v17
        refine lv_istore (lv' := [(5, .int v17), (0, .ref (qx 0)), (1, .int p1), (2, .int x2), (3, .int x3), (4, .int x4)]) hx hb dX9_countsOf_91 hl (by decide) rfl (fun ls hl => ?_)
        refine lv_iconst (v := 1) hx hb dX9_countsOf_93 (by decide) ?_
        refine lv_istore (lv' := [(6, .int (1 : Int32)), (5, .int v17), (0, .ref (qx 0)), (1, .int p1), (2, .int x2), (3, .int x3), (4, .int x4)]) hx hb dX9_countsOf_94 hl (by decide) rfl (fun ls hl => ?_)
        exact B96 70 b_x_table x2 x3 x4 v17 (1 : Int32) hf _ _ hP hD hS ls (lv_sub hl [2, 3, 4, 5, 6, 1, 0] rfl)
  have B28 : ∀ (n28 : Nat), ∀ (b_x_table : Nat → Int64) (x2 : Int32) (x3 : Int32) (x4 : Int32), f_X9_countsOf_b28 x_points x_heavy p1 n28 b_x_table x2 x3 x4 = some (o_x_table) → ∀ (H : Heap) (locs : List Loc), va_P G vwCl [(qx 0, oX9 qx x_points x_lines x_tide x_isKept x_isMuch x_sum x_once x_twice x_isTermMuch x_nodes x_newMany x_isTooGreat x_come x_foundSet), (qx 10, .inl (Y 1, 28672, .inr (.inl b_x_table))), (qx 12, .inl (Y 0, 144, .inl x_heavy))] H → va_D A [(qx 0, oX9 qx x_points x_lines x_tide x_isKept x_isMuch x_sum x_once x_twice x_isTermMuch x_nodes x_newMany x_isTooGreat x_come x_foundSet), (qx 10, .inl (Y 1, 28672, .inr (.inl b_x_table))), (qx 12, .inl (Y 0, 144, .inl x_heavy))] → va_S A s.heap H locs → ∀ (ls : Array Slot), lv_has ls 9 [(0, .ref (qx 0)), (1, .int p1), (2, .int x2), (3, .int x3), (4, .int x4)] → W p l e (headSpec wsX9_countsOf (rmk 1 23)).room s m [.ref (qx 0), .int p1].toArray below meth c H locs 0 0 (MQ below (va_Qv (fun (_ : Unit) => True) (Pst G (tys Y) [(qx 0, oX9 qx x_points x_lines x_tide x_isKept x_isMuch x_sum x_once x_twice x_isTermMuch x_nodes x_newMany x_isTooGreat x_come x_foundSet), (qx 10, .inl (Y 1, 28672, .inr (.inl x_table))), (qx 12, .inl (Y 0, 144, .inl x_heavy))] s.heap.size [(qx 0, oX9 qx x_points x_lines x_tide x_isKept x_isMuch x_sum x_once x_twice x_isTermMuch x_nodes x_newMany x_isTooGreat x_come x_foundSet), (qx 10, .inl (Y 1, 28672, .inr (.inl o_x_table))), (qx 12, .inl (Y 0, 144, .inl x_heavy))]) A) [.ref (qx 0), .int p1].toArray s 0 0 A) (F0 m 28 ls []) := by
    intro n28
    induction n28 with
    | zero =>
      intro b_x_table x2 x3 x4 hf H locs hP hD hS ls hl
      exact no_none hf
    | succ n28 ih28 =>
      intro b_x_table x2 x3 x4 hf H locs hP hD hS ls hl
      have hf : f_X9_countsOf_s28 x_points x_heavy p1 (f_X9_countsOf_b28 x_points x_heavy p1  n28) b_x_table x2 x3 x4 = some (o_x_table) := hf
      unfold f_X9_countsOf_s28 at hf
      refine lv_iload hx hb dX9_countsOf_28 (lv_at hl 4 rfl) ?_
      refine lv_bipush (v := 7) hx hb dX9_countsOf_30 (by decide) ?_
      refine lv_icmp_ge (tgt := 65) hx hb dX9_countsOf_32 (by decide) (fun c18 => ?_) (fun c18 => ?_)
      · have hf := it hf c18
        refine lv_iload_n hx hb dX9_countsOf_65 rfl (lv_at hl 2 rfl) ?_
        refine lv_iconst (v := 1) hx hb dX9_countsOf_66 (by decide) ?_
        refine lv_iadd hx hb dX9_countsOf_67 ?_
        refine lv_topi (fun v19 e_v19 => ?_)
        have hf := nm_at hf e_v19
        refine lv_istore (lv' := [(4, .int v19), (0, .ref (qx 0)), (1, .int p1), (2, .int x2), (3, .int x3)]) hx hb dX9_countsOf_68 hl (by decide) rfl (fun ls hl => ?_)
        exact B70 70 b_x_table x2 x3 v19 hf _ _ hP hD hS ls (lv_sub hl [1, 2, 3, 4, 0] rfl)
      · have hf := ie hf c18
        refine lv_aload_n hx hb dX9_countsOf_35 rfl (lv_at hl 0 rfl) ?_
        refine va_get (D := G) (ci := 7) (v := .ref (qx 10)) (C := RX9) (T := TX9) (N := 37) hx hb hts inX9w hown hK hP 0 rfl rfl 9 (by decide) wd1 (fun _ h9 => h9) rfl dX9_countsOf_36 ?_
        refine lv_bipush (v := 7) hx hb dX9_countsOf_39 (by decide) ?_
        refine lv_iload_n hx hb dX9_countsOf_41 rfl (lv_at hl 1 rfl) ?_
        refine lv_imul hx hb dX9_countsOf_42 ?_
        refine lv_iload hx hb dX9_countsOf_43 (lv_at hl 4 rfl) ?_
        refine lv_iadd hx hb dX9_countsOf_45 ?_
        refine lv_aload_n hx hb dX9_countsOf_46 rfl (lv_at hl 0 rfl) ?_
        refine va_get (D := G) (ci := 7) (v := .ref (qx 10)) (C := RX9) (T := TX9) (N := 37) hx hb hts inX9w hown hK hP 0 rfl rfl 9 (by decide) wd1 (fun _ h9 => h9) rfl dX9_countsOf_47 ?_
        refine lv_bipush (v := 7) hx hb dX9_countsOf_50 (by decide) ?_
        refine lv_iload_n hx hb dX9_countsOf_52 rfl (lv_at hl 3 rfl) ?_
        refine lv_imul hx hb dX9_countsOf_53 ?_
        refine lv_iload hx hb dX9_countsOf_54 (lv_at hl 4 rfl) ?_
        refine lv_iadd hx hb dX9_countsOf_56 ?_
        obtain ⟨g20, hf⟩ := gd hf
        refine va_lald hx hb hK hP 1 1 rfl rfl g20 dX9_countsOf_57 ?_
        obtain ⟨g21, hf⟩ := gd hf
        refine va_last hx hb hK hP hD hS 1 1 rfl rfl g21 dX9_countsOf_58 (fun H locs hP hD hS => ?_)
        obtain ⟨v22, e_v22⟩ : ∃ z : Nat → Int64, z = vp_updL b_x_table (((7 : Int32) * p1) + x4).toNatClampNeg (b_x_table (((7 : Int32) * x3) + x4).toNatClampNeg) := ⟨_, rfl⟩
        have hf := nm_at hf e_v22
        have hP : va_P G vwCl [(qx 0, oX9 qx x_points x_lines x_tide x_isKept x_isMuch x_sum x_once x_twice x_isTermMuch x_nodes x_newMany x_isTooGreat x_come x_foundSet), (qx 10, .inl (Y 1, 28672, .inr (.inl v22))), (qx 12, .inl (Y 0, 144, .inl x_heavy))] H := by rw [e_v22]; exact hP
        have hD : va_D A [(qx 0, oX9 qx x_points x_lines x_tide x_isKept x_isMuch x_sum x_once x_twice x_isTermMuch x_nodes x_newMany x_isTooGreat x_come x_foundSet), (qx 10, .inl (Y 1, 28672, .inr (.inl v22))), (qx 12, .inl (Y 0, 144, .inl x_heavy))] := by rw [e_v22]; exact hD
        obtain ⟨v23, e_v23⟩ : ∃ z : Int32, z = (x4 + 1) := ⟨_, rfl⟩
        have hf := nm_at hf e_v23
        refine lv_iinc (v := v23) (lv' := [(4, .int v23), (0, .ref (qx 0)), (1, .int p1), (2, .int x2), (3, .int x3)]) hx hb dX9_countsOf_59 hl (k := 4) rfl (by rw [e_v23]; rfl) (by decide) rfl (fun ls hl => ?_)
        refine lv_goto (tgt := 28) hx hb dX9_countsOf_62 (by decide) ?_
        exact ih28 v22 x2 x3 v23 hf _ _ hP hD hS ls (lv_sub hl [1, 2, 3, 4, 0] rfl)
  have B2 : ∀ (n2 : Nat), ∀ (b_x_table : Nat → Int64) (x2 : Int32), f_X9_countsOf_b2 x_points x_heavy p1 n2 b_x_table x2 = some (o_x_table) → ∀ (H : Heap) (locs : List Loc), va_P G vwCl [(qx 0, oX9 qx x_points x_lines x_tide x_isKept x_isMuch x_sum x_once x_twice x_isTermMuch x_nodes x_newMany x_isTooGreat x_come x_foundSet), (qx 10, .inl (Y 1, 28672, .inr (.inl b_x_table))), (qx 12, .inl (Y 0, 144, .inl x_heavy))] H → va_D A [(qx 0, oX9 qx x_points x_lines x_tide x_isKept x_isMuch x_sum x_once x_twice x_isTermMuch x_nodes x_newMany x_isTooGreat x_come x_foundSet), (qx 10, .inl (Y 1, 28672, .inr (.inl b_x_table))), (qx 12, .inl (Y 0, 144, .inl x_heavy))] → va_S A s.heap H locs → ∀ (ls : Array Slot), lv_has ls 9 [(0, .ref (qx 0)), (1, .int p1), (2, .int x2)] → W p l e (headSpec wsX9_countsOf (rmk 1 23)).room s m [.ref (qx 0), .int p1].toArray below meth c H locs 0 0 (MQ below (va_Qv (fun (_ : Unit) => True) (Pst G (tys Y) [(qx 0, oX9 qx x_points x_lines x_tide x_isKept x_isMuch x_sum x_once x_twice x_isTermMuch x_nodes x_newMany x_isTooGreat x_come x_foundSet), (qx 10, .inl (Y 1, 28672, .inr (.inl x_table))), (qx 12, .inl (Y 0, 144, .inl x_heavy))] s.heap.size [(qx 0, oX9 qx x_points x_lines x_tide x_isKept x_isMuch x_sum x_once x_twice x_isTermMuch x_nodes x_newMany x_isTooGreat x_come x_foundSet), (qx 10, .inl (Y 1, 28672, .inr (.inl o_x_table))), (qx 12, .inl (Y 0, 144, .inl x_heavy))]) A) [.ref (qx 0), .int p1].toArray s 0 0 A) (F0 m 2 ls []) := by
    intro n2
    induction n2 with
    | zero =>
      intro b_x_table x2 hf H locs hP hD hS ls hl
      exact no_none hf
    | succ n2 ih2 =>
      intro b_x_table x2 hf H locs hP hD hS ls hl
      have hf : f_X9_countsOf_s2 x_points x_heavy p1 (f_X9_countsOf_b2 x_points x_heavy p1  n2) b_x_table x2 = some (o_x_table) := hf
      unfold f_X9_countsOf_s2 at hf
      refine lv_iload_n hx hb dX9_countsOf_2 rfl (lv_at hl 1 rfl) ?_
      refine lv_i2l hx hb dX9_countsOf_3 rfl ?_
      refine lv_iload_n hx hb dX9_countsOf_4 rfl (lv_at hl 2 rfl) ?_
      obtain ⟨r24, hc, hf⟩ := bd1 hf
      refine cl_i (ws' := [(qx 0, oX9 qx x_points x_lines x_tide x_isKept x_isMuch x_sum x_once x_twice x_isTermMuch x_nodes x_newMany x_isTooGreat x_come x_foundSet), (qx 10, .inl (Y 1, 28672, .inr (.inl b_x_table))), (qx 12, .inl (Y 0, 144, .inl x_heavy))]) (wr := [(qx 0, oX9 qx x_points x_lines x_tide x_isKept x_isMuch x_sum x_once x_twice x_isTermMuch x_nodes x_newMany x_isTooGreat x_come x_foundSet), (qx 10, .inl (Y 1, 28672, .inr (.inl b_x_table))), (qx 12, .inl (Y 0, 144, .inl x_heavy))]) (rnS (As := [.long p1.toInt64, .int x2]) (rest := []) ⟨hx, hb, hml, hown, hts⟩ (c_X9_has l G Y H.size p1.toInt64 x2 r24 hc) (va_cwS 2 hts gX9_countsOf_X9_has rfl rfl rfl (by decide +kernel) ⟨(Nat.le_of_ble_eq_true rfl), (Nat.le_of_ble_eq_true rfl)⟩) trivial okT hK hP hD [] rfl rfl rfl hl.1 rfl (Nat.le_of_ble_eq_true rfl) dX9_countsOf_5) hP hD hS hA [] [0, 1, 2] [0, 1, 2] rfl rfl rfl (by decide) rfl rfl (fun H locs hP hD hS => ?_)
      refine lv_if_ne (tgt := 17) hx hb dX9_countsOf_8 (by decide) (fun c25 => ?_) (fun c25 => ?_)
      · have hf := ie hf c25
        refine lv_iload_n hx hb dX9_countsOf_17 rfl (lv_at hl 1 rfl) ?_
        refine lv_iconst (v := 1) hx hb dX9_countsOf_18 (by decide) ?_
        refine lv_iload_n hx hb dX9_countsOf_19 rfl (lv_at hl 2 rfl) ?_
        refine lv_ishl hx hb dX9_countsOf_20 ?_
        refine lv_iconst (v := -1) hx hb dX9_countsOf_21 (by decide) ?_
        refine lv_ixor hx hb dX9_countsOf_22 ?_
        refine lv_iand hx hb dX9_countsOf_23 ?_
        refine lv_topi (fun v26 e_v26 => ?_)
        have hf := nm_at hf e_v26
        refine lv_istore_n (lv' := [(3, .int v26), (0, .ref (qx 0)), (1, .int p1), (2, .int x2)]) hx hb dX9_countsOf_24 rfl hl (by decide) rfl (fun ls hl => ?_)
        refine lv_iconst (v := 0) hx hb dX9_countsOf_25 (by decide) ?_
        refine lv_istore (lv' := [(4, .int (0 : Int32)), (3, .int v26), (0, .ref (qx 0)), (1, .int p1), (2, .int x2)]) hx hb dX9_countsOf_26 hl (by decide) rfl (fun ls hl => ?_)
        exact B28 70 b_x_table x2 v26 (0 : Int32) hf _ _ hP hD hS ls (lv_sub hl [2, 3, 4, 1, 0] rfl)
      · have hf := it hf c25
        obtain ⟨v27, e_v27⟩ : ∃ z : Int32, z = (x2 + 1) := ⟨_, rfl⟩
        have hf := nm_at hf e_v27
        refine lv_iinc (v := v27) (lv' := [(2, .int v27), (0, .ref (qx 0)), (1, .int p1)]) hx hb dX9_countsOf_11 hl (k := 2) rfl (by rw [e_v27]; rfl) (by decide) rfl (fun ls hl => ?_)
        refine lv_goto (tgt := 2) hx hb dX9_countsOf_14 (by decide) ?_
        exact ih2 b_x_table v27 hf _ _ hP hD hS ls (lv_sub hl [1, 2, 0] rfl)
  have E0 : ∀ (H : Heap) (locs : List Loc), va_P G vwCl [(qx 0, oX9 qx x_points x_lines x_tide x_isKept x_isMuch x_sum x_once x_twice x_isTermMuch x_nodes x_newMany x_isTooGreat x_come x_foundSet), (qx 10, .inl (Y 1, 28672, .inr (.inl x_table))), (qx 12, .inl (Y 0, 144, .inl x_heavy))] H → va_D A [(qx 0, oX9 qx x_points x_lines x_tide x_isKept x_isMuch x_sum x_once x_twice x_isTermMuch x_nodes x_newMany x_isTooGreat x_come x_foundSet), (qx 10, .inl (Y 1, 28672, .inr (.inl x_table))), (qx 12, .inl (Y 0, 144, .inl x_heavy))] → va_S A s.heap H locs → ∀ (ls : Array Slot), lv_has ls 9 [(0, .ref (qx 0)), (1, .int p1)] → W p l e (headSpec wsX9_countsOf (rmk 1 23)).room s m [.ref (qx 0), .int p1].toArray below meth c H locs 0 0 (MQ below (va_Qv (fun (_ : Unit) => True) (Pst G (tys Y) [(qx 0, oX9 qx x_points x_lines x_tide x_isKept x_isMuch x_sum x_once x_twice x_isTermMuch x_nodes x_newMany x_isTooGreat x_come x_foundSet), (qx 10, .inl (Y 1, 28672, .inr (.inl x_table))), (qx 12, .inl (Y 0, 144, .inl x_heavy))] s.heap.size [(qx 0, oX9 qx x_points x_lines x_tide x_isKept x_isMuch x_sum x_once x_twice x_isTermMuch x_nodes x_newMany x_isTooGreat x_come x_foundSet), (qx 10, .inl (Y 1, 28672, .inr (.inl o_x_table))), (qx 12, .inl (Y 0, 144, .inl x_heavy))]) A) [.ref (qx 0), .int p1].toArray s 0 0 A) (F0 m 0 ls []) := by
    intro H locs hP hD hS ls hl
    unfold f_X9_countsOf at hf
    refine lv_iconst (v := 0) hx hb dX9_countsOf_0 (by decide) ?_
    refine lv_istore_n (lv' := [(2, .int (0 : Int32)), (0, .ref (qx 0)), (1, .int p1)]) hx hb dX9_countsOf_1 rfl hl (by decide) rfl (fun ls hl => ?_)
    exact B2 70 x_table (0 : Int32) hf _ _ hP hD hS ls (lv_sub hl [1, 2, 0] rfl)
  exact E0 s.heap [] hP hD hS ls hl
-- X9_countsBy
set_option maxRecDepth 100000 in
set_option maxHeartbeats 4000000 in
theorem c_X9_countsBy (l : Launch) (G : va_G) (Y : Nat → ClassId) (sz : Nat) (qx : Nat → Nat) (x_points : Int32) (x_lines : Int32) (x_tide : Int32) (x_isKept : Int32) (x_table : Nat → Int64) (x_count : Nat → Int64) (x_heavy : Nat → Int32) (x_isMuch : Int32) (x_sum : Int64) (x_once : Int64) (x_twice : Int64) (x_isTermMuch : Int32) (x_nodes : Int32) (x_newMany : Int32) (x_isTooGreat : Int32) (x_come : Int32) (x_foundSet : Int64) (p1 : Int32) (o_x_table : Nat → Int64) (o_x_count : Nat → Int64) (o_x_isMuch : Int32) (hf : f_X9_countsBy x_points x_table x_count x_heavy x_isMuch p1 = some (o_x_table, o_x_count, o_x_isMuch)) : Met l yX9_countsBy wsX9_countsBy (rmk 2 51) (va_Pc [.ref (qx 0), .int p1] (Pre G (tys Y) [(qx 0, oX9 qx x_points x_lines x_tide x_isKept x_isMuch x_sum x_once x_twice x_isTermMuch x_nodes x_newMany x_isTooGreat x_come x_foundSet), (qx 10, .inl (Y 1, 28672, .inr (.inl x_table))), (qx 11, .inl (Y 1, 7, .inr (.inl x_count))), (qx 12, .inl (Y 0, 144, .inl x_heavy))] sz xT)) (va_Qv (fun (_ : Unit) => True) (Pst G (tys Y) [(qx 0, oX9 qx x_points x_lines x_tide x_isKept x_isMuch x_sum x_once x_twice x_isTermMuch x_nodes x_newMany x_isTooGreat x_come x_foundSet), (qx 10, .inl (Y 1, 28672, .inr (.inl x_table))), (qx 11, .inl (Y 1, 7, .inr (.inl x_count))), (qx 12, .inl (Y 0, 144, .inl x_heavy))] sz [(qx 0, oX9 qx x_points x_lines x_tide x_isKept o_x_isMuch x_sum x_once x_twice x_isTermMuch x_nodes x_newMany x_isTooGreat x_come x_foundSet), (qx 10, .inl (Y 1, 28672, .inr (.inl o_x_table))), (qx 11, .inl (Y 1, 7, .inr (.inl o_x_count))), (qx 12, .inl (Y 0, 144, .inl x_heavy))]) (va_A [(qx 0, oX9 qx x_points x_lines x_tide x_isKept x_isMuch x_sum x_once x_twice x_isTermMuch x_nodes x_newMany x_isTooGreat x_come x_foundSet), (qx 10, .inl (Y 1, 28672, .inr (.inl x_table))), (qx 11, .inl (Y 1, 7, .inr (.inl x_count))), (qx 12, .inl (Y 0, 144, .inl x_heavy))] sz)) 0 0 (va_A [(qx 0, oX9 qx x_points x_lines x_tide x_isKept x_isMuch x_sum x_once x_twice x_isTermMuch x_nodes x_newMany x_isTooGreat x_come x_foundSet), (qx 10, .inl (Y 1, 28672, .inr (.inl x_table))), (qx 11, .inl (Y 1, 7, .inr (.inl x_count))), (qx 12, .inl (Y 0, 144, .inl x_heavy))] sz) := by
  refine Met.ofW (cc := cX9_countsBy) (maxL := 3) (ret := none) (by decide) rfl ?_
  intro p e s m args below meth c s₁ B hml hv
  obtain ⟨rfl, hsz, hP, hK, hD0, hX⟩ := hv
  have hx := B.exec
  have hb := B.bytes
  have hr := B.returns
  have hts := atoms_spec (ws := wsX9_countsBy) B.pre
  have hown : s.vm.findClass RX9 = some m.cls := findClass_of_methodNamed B.named
  have hlocks := B.notSynchronized
  subst hsz
  have hD := hD0.self (sz := s.heap.size)
  generalize hAe : va_A [(qx 0, oX9 qx x_points x_lines x_tide x_isKept x_isMuch x_sum x_once x_twice x_isTermMuch x_nodes x_newMany x_isTooGreat x_come x_foundSet), (qx 10, .inl (Y 1, 28672, .inr (.inl x_table))), (qx 11, .inl (Y 1, 7, .inr (.inl x_count))), (qx 12, .inl (Y 0, 144, .inl x_heavy))] s.heap.size = A at hD ⊢
  have hA : ∀ q : Nat, s.heap.size ≤ q → A q := fun q h => by rw [← hAe]; exact Or.inr h
  have hS : va_S A s.heap s.heap [] := va_S.rf
  have hP : va_P G vwCl [(qx 0, oX9 qx x_points x_lines x_tide x_isKept x_isMuch x_sum x_once x_twice x_isTermMuch x_nodes x_newMany x_isTooGreat x_come x_foundSet), (qx 10, .inl (Y 1, 28672, .inr (.inl x_table))), (qx 11, .inl (Y 1, 7, .inr (.inl x_count))), (qx 12, .inl (Y 0, 144, .inl x_heavy))] s.heap := hP
  have wd1 : (Cond.fieldLink RX9 25 "PairedLinesModel" "table" "[J").before [.ref (qx 0), .int p1].toArray s = true := hts _ (List.mem_of_getElem? (i := 1) rfl)
  have wd2 : (Cond.fieldLink RX9 148 "PairedLinesModel" "isMuch" "Z").before [.ref (qx 0), .int p1].toArray s = true := hts _ (List.mem_of_getElem? (i := 2) rfl)
  have wd3 : (Cond.fieldLink RX9 29 "PairedLinesModel" "count" "[J").before [.ref (qx 0), .int p1].toArray s = true := hts _ (List.mem_of_getElem? (i := 3) rfl)
  have inX9w : ∀ w ∈ u_ws RX9 TX9 37, w ∈ wsX9_countsBy := fun w hw => List.mem_cons_of_mem _ (List.mem_append_right _ (hw))
  have hl := lv_entry ([.ref (qx 0), .int p1]) (n := 3) (Nat.le_of_ble_eq_true rfl)
  rw [lg_entry_eq]
  generalize (lg_sl ([.ref (qx 0), .int p1]) ++ List.replicate (3 - (lg_sl ([.ref (qx 0), .int p1])).length) Slot.unset).toArray = ls at hl ⊢
  have hl : lv_has ls 3 [(0, .ref (qx 0)), (1, .int p1)] := hl
  have B62 : ∀ (n62 : Nat), ∀ (b_x_table : Nat → Int64) (b_x_count : Nat → Int64) (b_x_isMuch : Int32) (x2 : Int32), f_X9_countsBy_b62 x_points x_heavy p1 n62 b_x_table b_x_count b_x_isMuch x2 = some (o_x_table, o_x_count, o_x_isMuch) → ∀ (H : Heap) (locs : List Loc), va_P G vwCl [(qx 0, oX9 qx x_points x_lines x_tide x_isKept b_x_isMuch x_sum x_once x_twice x_isTermMuch x_nodes x_newMany x_isTooGreat x_come x_foundSet), (qx 10, .inl (Y 1, 28672, .inr (.inl b_x_table))), (qx 11, .inl (Y 1, 7, .inr (.inl b_x_count))), (qx 12, .inl (Y 0, 144, .inl x_heavy))] H → va_D A [(qx 0, oX9 qx x_points x_lines x_tide x_isKept b_x_isMuch x_sum x_once x_twice x_isTermMuch x_nodes x_newMany x_isTooGreat x_come x_foundSet), (qx 10, .inl (Y 1, 28672, .inr (.inl b_x_table))), (qx 11, .inl (Y 1, 7, .inr (.inl b_x_count))), (qx 12, .inl (Y 0, 144, .inl x_heavy))] → va_S A s.heap H locs → ∀ (ls : Array Slot), lv_has ls 3 [(0, .ref (qx 0)), (1, .int p1), (2, .int x2)] → W p l e (headSpec wsX9_countsBy (rmk 2 51)).room s m [.ref (qx 0), .int p1].toArray below meth c H locs 0 0 (MQ below (va_Qv (fun (_ : Unit) => True) (Pst G (tys Y) [(qx 0, oX9 qx x_points x_lines x_tide x_isKept x_isMuch x_sum x_once x_twice x_isTermMuch x_nodes x_newMany x_isTooGreat x_come x_foundSet), (qx 10, .inl (Y 1, 28672, .inr (.inl x_table))), (qx 11, .inl (Y 1, 7, .inr (.inl x_count))), (qx 12, .inl (Y 0, 144, .inl x_heavy))] s.heap.size [(qx 0, oX9 qx x_points x_lines x_tide x_isKept o_x_isMuch x_sum x_once x_twice x_isTermMuch x_nodes x_newMany x_isTooGreat x_come x_foundSet), (qx 10, .inl (Y 1, 28672, .inr (.inl o_x_table))), (qx 11, .inl (Y 1, 7, .inr (.inl o_x_count))), (qx 12, .inl (Y 0, 144, .inl x_heavy))]) A) [.ref (qx 0), .int p1].toArray s 0 0 A) (F0 m 62 ls []) := by
    intro n62
    induction n62 with
    | zero =>
      intro b_x_table b_x_count b_x_isMuch x2 hf H locs hP hD hS ls hl
      exact no_none hf
    | succ n62 ih62 =>
      intro b_x_table b_x_count b_x_isMuch x2 hf H locs hP hD hS ls hl
      have hf : f_X9_countsBy_s62 x_points x_heavy p1 (f_X9_countsBy_b62 x_points x_heavy p1  n62) b_x_table b_x_count b_x_isMuch x2 = some (o_x_table, o_x_count, o_x_isMuch) := hf
      unfold f_X9_countsBy_s62 at hf
      refine lv_iload_n hx hb dX9_countsBy_62 rfl (lv_at hl 2 rfl) ?_
      refine lv_bipush (v := 7) hx hb dX9_countsBy_63 (by decide) ?_
      refine lv_icmp_ge (tgt := 116) hx hb dX9_countsBy_65 (by decide) (fun c1 => ?_) (fun c1 => ?_)
      · have hf := it hf c1
        obtain ⟨e0, e1, e2⟩ := rt3 hf
        have hP : va_P G vwCl [(qx 0, oX9 qx x_points x_lines x_tide x_isKept o_x_isMuch x_sum x_once x_twice x_isTermMuch x_nodes x_newMany x_isTooGreat x_come x_foundSet), (qx 10, .inl (Y 1, 28672, .inr (.inl o_x_table))), (qx 11, .inl (Y 1, 7, .inr (.inl o_x_count))), (qx 12, .inl (Y 0, 144, .inl x_heavy))] H := by rw [← e0, ← e1, ← e2]; exact hP
        have hD : va_D A [(qx 0, oX9 qx x_points x_lines x_tide x_isKept o_x_isMuch x_sum x_once x_twice x_isTermMuch x_nodes x_newMany x_isTooGreat x_come x_foundSet), (qx 10, .inl (Y 1, 28672, .inr (.inl o_x_table))), (qx 11, .inl (Y 1, 7, .inr (.inl o_x_count))), (qx 12, .inl (Y 0, 144, .inl x_heavy))] := by rw [← e0, ← e1, ← e2]; exact hD
        exact W.vret hx hb hr (fun t ht hW => ⟨⟨(), rfl, trivial, by rw [ht]; exact hP, va_K.moved hW.alike hK, by rw [hAe]; exact hD⟩, hS.F ht⟩) hS.2.2 dX9_countsBy_116
      · have hf := ie hf c1
        refine lv_aload_n hx hb dX9_countsBy_68 rfl (lv_at hl 0 rfl) ?_
        refine va_get (D := G) (ci := 7) (v := .ref (qx 11)) (C := RX9) (T := TX9) (N := 37) hx hb hts inX9w hown hK hP 0 rfl rfl 10 (by decide) wd3 (fun _ h9 => h9) rfl dX9_countsBy_69 ?_
        refine lv_iload_n hx hb dX9_countsBy_72 rfl (lv_at hl 2 rfl) ?_
        refine lv_aload_n hx hb dX9_countsBy_73 rfl (lv_at hl 0 rfl) ?_
        refine va_get (D := G) (ci := 7) (v := .ref (qx 10)) (C := RX9) (T := TX9) (N := 37) hx hb hts inX9w hown hK hP 0 rfl rfl 9 (by decide) wd1 (fun _ h9 => h9) rfl dX9_countsBy_74 ?_
        refine lv_bipush (v := 7) hx hb dX9_countsBy_77 (by decide) ?_
        refine lv_iload_n hx hb dX9_countsBy_79 rfl (lv_at hl 1 rfl) ?_
        refine lv_imul hx hb dX9_countsBy_80 ?_
        refine lv_iload_n hx hb dX9_countsBy_81 rfl (lv_at hl 2 rfl) ?_
        refine lv_iadd hx hb dX9_countsBy_82 ?_
        obtain ⟨g2, hf⟩ := gd hf
        refine va_lald hx hb hK hP 1 1 rfl rfl g2 dX9_countsBy_83 ?_
        obtain ⟨g3, hf⟩ := gd hf
        refine va_last hx hb hK hP hD hS 2 1 rfl rfl g3 dX9_countsBy_84 (fun H locs hP hD hS => ?_)
        obtain ⟨v4, e_v4⟩ : ∃ z : Nat → Int64, z = vp_updL b_x_count x2.toNatClampNeg (b_x_table (((7 : Int32) * p1) + x2).toNatClampNeg) := ⟨_, rfl⟩
        have hf := nm_at hf e_v4
        have hP : va_P G vwCl [(qx 0, oX9 qx x_points x_lines x_tide x_isKept b_x_isMuch x_sum x_once x_twice x_isTermMuch x_nodes x_newMany x_isTooGreat x_come x_foundSet), (qx 10, .inl (Y 1, 28672, .inr (.inl b_x_table))), (qx 11, .inl (Y 1, 7, .inr (.inl v4))), (qx 12, .inl (Y 0, 144, .inl x_heavy))] H := by rw [e_v4]; exact hP
        have hD : va_D A [(qx 0, oX9 qx x_points x_lines x_tide x_isKept b_x_isMuch x_sum x_once x_twice x_isTermMuch x_nodes x_newMany x_isTooGreat x_come x_foundSet), (qx 10, .inl (Y 1, 28672, .inr (.inl b_x_table))), (qx 11, .inl (Y 1, 7, .inr (.inl v4))), (qx 12, .inl (Y 0, 144, .inl x_heavy))] := by rw [e_v4]; exact hD
        refine lv_aload_n hx hb dX9_countsBy_85 rfl (lv_at hl 0 rfl) ?_
        refine lv_dup hx hb dX9_countsBy_86 rfl ?_
        refine va_get (D := G) (ci := 7) (v := .int b_x_isMuch) (C := RX9) (T := TX9) (N := 37) hx hb hts inX9w hown hK hP 0 rfl rfl 12 (by decide) wd2 (fun _ h9 => h9) rfl dX9_countsBy_87 ?_
        refine lv_aload_n hx hb dX9_countsBy_90 rfl (lv_at hl 0 rfl) ?_
        refine va_get (D := G) (ci := 7) (v := .ref (qx 11)) (C := RX9) (T := TX9) (N := 37) hx hb hts inX9w hown hK hP 0 rfl rfl 10 (by decide) wd3 (fun _ h9 => h9) rfl dX9_countsBy_91 ?_
        refine lv_iload_n hx hb dX9_countsBy_94 rfl (lv_at hl 2 rfl) ?_
        obtain ⟨g5, hf⟩ := gd hf
        refine va_lald hx hb hK hP 2 1 rfl rfl g5 dX9_countsBy_95 ?_
        refine lv_lconst (v := 0) hx hb dX9_countsBy_96 (by decide) ?_
        refine W.lcmp hx hb dX9_countsBy_97 ?_
        refine lv_if_ge (tgt := 105) hx hb dX9_countsBy_98 (by decide) (fun c6 => ?_) (fun c6 => ?_)
        · have hf := it hf c6
          refine lv_iconst (v := 0) hx hb dX9_countsBy_105 (by decide) ?_
          refine lv_ior hx hb dX9_countsBy_106 ?_
          refine lv_topi (fun v7 e_v7 => ?_)
          have hf := nm_at hf e_v7
          obtain ⟨g8, hf⟩ := gp hf
          refine va_put (D := G) (ci := 7) (v := .int v7) (ty := .boolean) (C := RX9) (T := TX9) (N := 37) hx hb hts inX9w tyX9 tyX9_ok nmX9 hown hK hP hD hS 0 rfl rfl 12 (by decide) wd2 (fun _ h9 => h9) rfl (by decide +kernel) (nb_n g8) (nb_f g8) (Nat.le_of_ble_eq_true rfl) dX9_countsBy_107 (fun H locs hP hD hS => ?_)
          have hP : va_P G vwCl [(qx 0, oX9 qx x_points x_lines x_tide x_isKept v7 x_sum x_once x_twice x_isTermMuch x_nodes x_newMany x_isTooGreat x_come x_foundSet), (qx 10, .inl (Y 1, 28672, .inr (.inl b_x_table))), (qx 11, .inl (Y 1, 7, .inr (.inl v4))), (qx 12, .inl (Y 0, 144, .inl x_heavy))] H := hP
          have hD : va_D A [(qx 0, oX9 qx x_points x_lines x_tide x_isKept v7 x_sum x_once x_twice x_isTermMuch x_nodes x_newMany x_isTooGreat x_come x_foundSet), (qx 10, .inl (Y 1, 28672, .inr (.inl b_x_table))), (qx 11, .inl (Y 1, 7, .inr (.inl v4))), (qx 12, .inl (Y 0, 144, .inl x_heavy))] := hD
          obtain ⟨v9, e_v9⟩ : ∃ z : Int32, z = (x2 + 1) := ⟨_, rfl⟩
          have hf := nm_at hf e_v9
          refine lv_iinc (v := v9) (lv' := [(2, .int v9), (0, .ref (qx 0)), (1, .int p1)]) hx hb dX9_countsBy_110 hl (k := 2) rfl (by rw [e_v9]; rfl) (by decide) rfl (fun ls hl => ?_)
          refine lv_goto (tgt := 62) hx hb dX9_countsBy_113 (by decide) ?_
          exact ih62 b_x_table v4 v7 v9 hf _ _ hP hD hS ls (lv_sub hl [1, 2, 0] rfl)
        · have hf := ie hf c6
          refine lv_iconst (v := 1) hx hb dX9_countsBy_101 (by decide) ?_
          refine lv_goto (tgt := 106) hx hb dX9_countsBy_102 (by decide) ?_
          refine lv_ior hx hb dX9_countsBy_106 ?_
          refine lv_topi (fun v10 e_v10 => ?_)
          have hf := nm_at hf e_v10
          obtain ⟨g11, hf⟩ := gp hf
          refine va_put (D := G) (ci := 7) (v := .int v10) (ty := .boolean) (C := RX9) (T := TX9) (N := 37) hx hb hts inX9w tyX9 tyX9_ok nmX9 hown hK hP hD hS 0 rfl rfl 12 (by decide) wd2 (fun _ h9 => h9) rfl (by decide +kernel) (nb_n g11) (nb_f g11) (Nat.le_of_ble_eq_true rfl) dX9_countsBy_107 (fun H locs hP hD hS => ?_)
          have hP : va_P G vwCl [(qx 0, oX9 qx x_points x_lines x_tide x_isKept v10 x_sum x_once x_twice x_isTermMuch x_nodes x_newMany x_isTooGreat x_come x_foundSet), (qx 10, .inl (Y 1, 28672, .inr (.inl b_x_table))), (qx 11, .inl (Y 1, 7, .inr (.inl v4))), (qx 12, .inl (Y 0, 144, .inl x_heavy))] H := hP
          have hD : va_D A [(qx 0, oX9 qx x_points x_lines x_tide x_isKept v10 x_sum x_once x_twice x_isTermMuch x_nodes x_newMany x_isTooGreat x_come x_foundSet), (qx 10, .inl (Y 1, 28672, .inr (.inl b_x_table))), (qx 11, .inl (Y 1, 7, .inr (.inl v4))), (qx 12, .inl (Y 0, 144, .inl x_heavy))] := hD
          obtain ⟨v12, e_v12⟩ : ∃ z : Int32, z = (x2 + 1) := ⟨_, rfl⟩
          have hf := nm_at hf e_v12
          refine lv_iinc (v := v12) (lv' := [(2, .int v12), (0, .ref (qx 0)), (1, .int p1)]) hx hb dX9_countsBy_110 hl (k := 2) rfl (by rw [e_v12]; rfl) (by decide) rfl (fun ls hl => ?_)
          refine lv_goto (tgt := 62) hx hb dX9_countsBy_113 (by decide) ?_
          exact ih62 b_x_table v4 v10 v12 hf _ _ hP hD hS ls (lv_sub hl [1, 2, 0] rfl)
  have B31 : ∀ (n31 : Nat), ∀ (b_x_table : Nat → Int64) (b_x_count : Nat → Int64) (b_x_isMuch : Int32) (x2 : Int32), f_X9_countsBy_b31 x_points x_heavy p1 n31 b_x_table b_x_count b_x_isMuch x2 = some (o_x_table, o_x_count, o_x_isMuch) → ∀ (H : Heap) (locs : List Loc), va_P G vwCl [(qx 0, oX9 qx x_points x_lines x_tide x_isKept b_x_isMuch x_sum x_once x_twice x_isTermMuch x_nodes x_newMany x_isTooGreat x_come x_foundSet), (qx 10, .inl (Y 1, 28672, .inr (.inl b_x_table))), (qx 11, .inl (Y 1, 7, .inr (.inl b_x_count))), (qx 12, .inl (Y 0, 144, .inl x_heavy))] H → va_D A [(qx 0, oX9 qx x_points x_lines x_tide x_isKept b_x_isMuch x_sum x_once x_twice x_isTermMuch x_nodes x_newMany x_isTooGreat x_come x_foundSet), (qx 10, .inl (Y 1, 28672, .inr (.inl b_x_table))), (qx 11, .inl (Y 1, 7, .inr (.inl b_x_count))), (qx 12, .inl (Y 0, 144, .inl x_heavy))] → va_S A s.heap H locs → ∀ (ls : Array Slot), lv_has ls 3 [(0, .ref (qx 0)), (1, .int p1), (2, .int x2)] → W p l e (headSpec wsX9_countsBy (rmk 2 51)).room s m [.ref (qx 0), .int p1].toArray below meth c H locs 0 0 (MQ below (va_Qv (fun (_ : Unit) => True) (Pst G (tys Y) [(qx 0, oX9 qx x_points x_lines x_tide x_isKept x_isMuch x_sum x_once x_twice x_isTermMuch x_nodes x_newMany x_isTooGreat x_come x_foundSet), (qx 10, .inl (Y 1, 28672, .inr (.inl x_table))), (qx 11, .inl (Y 1, 7, .inr (.inl x_count))), (qx 12, .inl (Y 0, 144, .inl x_heavy))] s.heap.size [(qx 0, oX9 qx x_points x_lines x_tide x_isKept o_x_isMuch x_sum x_once x_twice x_isTermMuch x_nodes x_newMany x_isTooGreat x_come x_foundSet), (qx 10, .inl (Y 1, 28672, .inr (.inl o_x_table))), (qx 11, .inl (Y 1, 7, .inr (.inl o_x_count))), (qx 12, .inl (Y 0, 144, .inl x_heavy))]) A) [.ref (qx 0), .int p1].toArray s 0 0 A) (F0 m 31 ls []) := by
    intro n31
    induction n31 with
    | zero =>
      intro b_x_table b_x_count b_x_isMuch x2 hf H locs hP hD hS ls hl
      exact no_none hf
    | succ n31 ih31 =>
      intro b_x_table b_x_count b_x_isMuch x2 hf H locs hP hD hS ls hl
      have hf : f_X9_countsBy_s31 x_points x_heavy p1 (f_X9_countsBy_b31 x_points x_heavy p1  n31) b_x_table b_x_count b_x_isMuch x2 = some (o_x_table, o_x_count, o_x_isMuch) := hf
      unfold f_X9_countsBy_s31 at hf
      refine lv_iload_n hx hb dX9_countsBy_31 rfl (lv_at hl 2 rfl) ?_
      refine lv_iload_n hx hb dX9_countsBy_32 rfl (lv_at hl 1 rfl) ?_
      refine lv_icmp_gt (tgt := 55) hx hb dX9_countsBy_33 (by decide) (fun c13 => ?_) (fun c13 => ?_)
      · have hf := it hf c13
        refine lv_aload_n hx hb dX9_countsBy_55 rfl (lv_at hl 0 rfl) ?_
        refine lv_iconst (v := 0) hx hb dX9_countsBy_56 (by decide) ?_
        refine va_put (D := G) (ci := 7) (v := .int (0 : Int32)) (ty := .boolean) (C := RX9) (T := TX9) (N := 37) hx hb hts inX9w tyX9 tyX9_ok nmX9 hown hK hP hD hS 0 rfl rfl 12 (by decide) wd2 (fun _ h9 => h9) rfl (by decide +kernel) rfl rfl (Nat.le_of_ble_eq_true rfl) dX9_countsBy_57 (fun H locs hP hD hS => ?_)
        have hP : va_P G vwCl [(qx 0, oX9 qx x_points x_lines x_tide x_isKept (0 : Int32) x_sum x_once x_twice x_isTermMuch x_nodes x_newMany x_isTooGreat x_come x_foundSet), (qx 10, .inl (Y 1, 28672, .inr (.inl b_x_table))), (qx 11, .inl (Y 1, 7, .inr (.inl b_x_count))), (qx 12, .inl (Y 0, 144, .inl x_heavy))] H := hP
        have hD : va_D A [(qx 0, oX9 qx x_points x_lines x_tide x_isKept (0 : Int32) x_sum x_once x_twice x_isTermMuch x_nodes x_newMany x_isTooGreat x_come x_foundSet), (qx 10, .inl (Y 1, 28672, .inr (.inl b_x_table))), (qx 11, .inl (Y 1, 7, .inr (.inl b_x_count))), (qx 12, .inl (Y 0, 144, .inl x_heavy))] := hD
        refine lv_iconst (v := 0) hx hb dX9_countsBy_60 (by decide) ?_
        refine lv_istore_n (lv' := [(2, .int (0 : Int32)), (0, .ref (qx 0)), (1, .int p1)]) hx hb dX9_countsBy_61 rfl hl (by decide) rfl (fun ls hl => ?_)
        exact B62 4200 b_x_table b_x_count (0 : Int32) (0 : Int32) hf _ _ hP hD hS ls (lv_sub hl [1, 2, 0] rfl)
      · have hf := ie hf c13
        refine lv_iload_n hx hb dX9_countsBy_36 rfl (lv_at hl 2 rfl) ?_
        refine lv_iload_n hx hb dX9_countsBy_37 rfl (lv_at hl 1 rfl) ?_
        refine lv_iconst (v := -1) hx hb dX9_countsBy_38 (by decide) ?_
        refine lv_ixor hx hb dX9_countsBy_39 ?_
        refine lv_iand hx hb dX9_countsBy_40 ?_
        refine lv_if_ne (tgt := 49) hx hb dX9_countsBy_41 (by decide) (fun c14 => ?_) (fun c14 => ?_)
        · have hf := ie hf c14
          obtain ⟨v15, e_v15⟩ : ∃ z : Int32, z = (x2 + 1) := ⟨_, rfl⟩
          have hf := nm_at hf e_v15
          refine lv_iinc (v := v15) (lv' := [(2, .int v15), (0, .ref (qx 0)), (1, .int p1)]) hx hb dX9_countsBy_49 hl (k := 2) rfl (by rw [e_v15]; rfl) (by decide) rfl (fun ls hl => ?_)
          refine lv_goto (tgt := 31) hx hb dX9_countsBy_52 (by decide) ?_
          exact ih31 b_x_table b_x_count b_x_isMuch v15 hf _ _ hP hD hS ls (lv_sub hl [1, 2, 0] rfl)
        · have hf := it hf c14
          refine lv_aload_n hx hb dX9_countsBy_44 rfl (lv_at hl 0 rfl) ?_
          refine lv_iload_n hx hb dX9_countsBy_45 rfl (lv_at hl 2 rfl) ?_
          obtain ⟨w16, hc, hf⟩ := bd1 hf
          refine cl_v (ws' := [(qx 0, oX9 qx x_points x_lines x_tide x_isKept b_x_isMuch x_sum x_once x_twice x_isTermMuch x_nodes x_newMany x_isTooGreat x_come x_foundSet), (qx 10, .inl (Y 1, 28672, .inr (.inl w16))), (qx 11, .inl (Y 1, 7, .inr (.inl b_x_count))), (qx 12, .inl (Y 0, 144, .inl x_heavy))]) (wr := [(qx 11, .inl (Y 1, 7, .inr (.inl b_x_count)))]) (rnV (As := [.int x2]) (rest := []) ⟨hx, hb, hml, hown, hts⟩ (c_X9_countsOf l G Y H.size qx x_points x_lines x_tide x_isKept b_x_table x_heavy b_x_isMuch x_sum x_once x_twice x_isTermMuch x_nodes x_newMany x_isTooGreat x_come x_foundSet x2 w16 hc) (cwV 1 hts gX9_countsBy_X9_countsOf rfl rfl rfl (by decide +kernel) ⟨(Nat.le_of_ble_eq_true rfl), (Nat.le_of_ble_eq_true rfl)⟩) trivial okT hK hP hD [0, 1, 3] rfl rfl (ci := 7) (q0 := 0) rfl rfl rfl rfl hl.1 rfl (Nat.le_of_ble_eq_true rfl) dX9_countsBy_46) hP hD hS hA [0, 1, 3] [2] [1, 2, 0, 3] rfl rfl rfl (by decide) rfl rfl (fun H locs hP hD hS => ?_)
          obtain ⟨v17, e_v17⟩ : ∃ z : Int32, z = (x2 + 1) := ⟨_, rfl⟩
          have hf := nm_at hf e_v17
          refine lv_iinc (v := v17) (lv' := [(2, .int v17), (0, .ref (qx 0)), (1, .int p1)]) hx hb dX9_countsBy_49 hl (k := 2) rfl (by rw [e_v17]; rfl) (by decide) rfl (fun ls hl => ?_)
          refine lv_goto (tgt := 31) hx hb dX9_countsBy_52 (by decide) ?_
          exact ih31 w16 b_x_count b_x_isMuch v17 hf _ _ hP hD hS ls (lv_sub hl [1, 2, 0] rfl)
  have B2 : ∀ (n2 : Nat), ∀ (b_x_table : Nat → Int64) (b_x_count : Nat → Int64) (b_x_isMuch : Int32) (x2 : Int32), f_X9_countsBy_b2 x_points x_heavy p1 n2 b_x_table b_x_count b_x_isMuch x2 = some (o_x_table, o_x_count, o_x_isMuch) → ∀ (H : Heap) (locs : List Loc), va_P G vwCl [(qx 0, oX9 qx x_points x_lines x_tide x_isKept b_x_isMuch x_sum x_once x_twice x_isTermMuch x_nodes x_newMany x_isTooGreat x_come x_foundSet), (qx 10, .inl (Y 1, 28672, .inr (.inl b_x_table))), (qx 11, .inl (Y 1, 7, .inr (.inl b_x_count))), (qx 12, .inl (Y 0, 144, .inl x_heavy))] H → va_D A [(qx 0, oX9 qx x_points x_lines x_tide x_isKept b_x_isMuch x_sum x_once x_twice x_isTermMuch x_nodes x_newMany x_isTooGreat x_come x_foundSet), (qx 10, .inl (Y 1, 28672, .inr (.inl b_x_table))), (qx 11, .inl (Y 1, 7, .inr (.inl b_x_count))), (qx 12, .inl (Y 0, 144, .inl x_heavy))] → va_S A s.heap H locs → ∀ (ls : Array Slot), lv_has ls 3 [(0, .ref (qx 0)), (1, .int p1), (2, .int x2)] → W p l e (headSpec wsX9_countsBy (rmk 2 51)).room s m [.ref (qx 0), .int p1].toArray below meth c H locs 0 0 (MQ below (va_Qv (fun (_ : Unit) => True) (Pst G (tys Y) [(qx 0, oX9 qx x_points x_lines x_tide x_isKept x_isMuch x_sum x_once x_twice x_isTermMuch x_nodes x_newMany x_isTooGreat x_come x_foundSet), (qx 10, .inl (Y 1, 28672, .inr (.inl x_table))), (qx 11, .inl (Y 1, 7, .inr (.inl x_count))), (qx 12, .inl (Y 0, 144, .inl x_heavy))] s.heap.size [(qx 0, oX9 qx x_points x_lines x_tide x_isKept o_x_isMuch x_sum x_once x_twice x_isTermMuch x_nodes x_newMany x_isTooGreat x_come x_foundSet), (qx 10, .inl (Y 1, 28672, .inr (.inl o_x_table))), (qx 11, .inl (Y 1, 7, .inr (.inl o_x_count))), (qx 12, .inl (Y 0, 144, .inl x_heavy))]) A) [.ref (qx 0), .int p1].toArray s 0 0 A) (F0 m 2 ls []) := by
    intro n2
    induction n2 with
    | zero =>
      intro b_x_table b_x_count b_x_isMuch x2 hf H locs hP hD hS ls hl
      exact no_none hf
    | succ n2 ih2 =>
      intro b_x_table b_x_count b_x_isMuch x2 hf H locs hP hD hS ls hl
      have hf : f_X9_countsBy_s2 x_points x_heavy p1 (f_X9_countsBy_b2 x_points x_heavy p1  n2) b_x_table b_x_count b_x_isMuch x2 = some (o_x_table, o_x_count, o_x_isMuch) := hf
      unfold f_X9_countsBy_s2 at hf
      refine lv_iload_n hx hb dX9_countsBy_2 rfl (lv_at hl 2 rfl) ?_
      refine lv_bipush (v := 7) hx hb dX9_countsBy_3 (by decide) ?_
      refine lv_icmp_ge (tgt := 29) hx hb dX9_countsBy_5 (by decide) (fun c18 => ?_) (fun c18 => ?_)
      · have hf := it hf c18
        refine lv_iconst (v := 1) hx hb dX9_countsBy_29 (by decide) ?_
        refine lv_istore_n (lv' := [(2, .int (1 : Int32)), (0, .ref (qx 0)), (1, .int p1)]) hx hb dX9_countsBy_30 rfl hl (by decide) rfl (fun ls hl => ?_)
        exact B31 4200 b_x_table b_x_count b_x_isMuch (1 : Int32) hf _ _ hP hD hS ls (lv_sub hl [1, 2, 0] rfl)
      · have hf := ie hf c18
        refine lv_aload_n hx hb dX9_countsBy_8 rfl (lv_at hl 0 rfl) ?_
        refine va_get (D := G) (ci := 7) (v := .ref (qx 10)) (C := RX9) (T := TX9) (N := 37) hx hb hts inX9w hown hK hP 0 rfl rfl 9 (by decide) wd1 (fun _ h9 => h9) rfl dX9_countsBy_9 ?_
        refine lv_iload_n hx hb dX9_countsBy_12 rfl (lv_at hl 2 rfl) ?_
        refine lv_iload_n hx hb dX9_countsBy_13 rfl (lv_at hl 2 rfl) ?_
        refine lv_if_ne (tgt := 21) hx hb dX9_countsBy_14 (by decide) (fun c19 => ?_) (fun c19 => ?_)
        · have hf := ie hf c19
          refine lv_lconst (v := 0) hx hb dX9_countsBy_21 (by decide) ?_
          obtain ⟨g20, hf⟩ := gd hf
          refine va_last hx hb hK hP hD hS 1 1 rfl rfl g20 dX9_countsBy_22 (fun H locs hP hD hS => ?_)
          obtain ⟨v21, e_v21⟩ : ∃ z : Nat → Int64, z = vp_updL b_x_table x2.toNatClampNeg (0 : Int64) := ⟨_, rfl⟩
          have hf := nm_at hf e_v21
          have hP : va_P G vwCl [(qx 0, oX9 qx x_points x_lines x_tide x_isKept b_x_isMuch x_sum x_once x_twice x_isTermMuch x_nodes x_newMany x_isTooGreat x_come x_foundSet), (qx 10, .inl (Y 1, 28672, .inr (.inl v21))), (qx 11, .inl (Y 1, 7, .inr (.inl b_x_count))), (qx 12, .inl (Y 0, 144, .inl x_heavy))] H := by rw [e_v21]; exact hP
          have hD : va_D A [(qx 0, oX9 qx x_points x_lines x_tide x_isKept b_x_isMuch x_sum x_once x_twice x_isTermMuch x_nodes x_newMany x_isTooGreat x_come x_foundSet), (qx 10, .inl (Y 1, 28672, .inr (.inl v21))), (qx 11, .inl (Y 1, 7, .inr (.inl b_x_count))), (qx 12, .inl (Y 0, 144, .inl x_heavy))] := by rw [e_v21]; exact hD
          obtain ⟨v22, e_v22⟩ : ∃ z : Int32, z = (x2 + 1) := ⟨_, rfl⟩
          have hf := nm_at hf e_v22
          refine lv_iinc (v := v22) (lv' := [(2, .int v22), (0, .ref (qx 0)), (1, .int p1)]) hx hb dX9_countsBy_23 hl (k := 2) rfl (by rw [e_v22]; rfl) (by decide) rfl (fun ls hl => ?_)
          refine lv_goto (tgt := 2) hx hb dX9_countsBy_26 (by decide) ?_
          exact ih2 v21 b_x_count b_x_isMuch v22 hf _ _ hP hD hS ls (lv_sub hl [1, 2, 0] rfl)
        · have hf := it hf c19
          refine lv_lconst (v := 1) hx hb dX9_countsBy_17 (by decide) ?_
          refine lv_goto (tgt := 22) hx hb dX9_countsBy_18 (by decide) ?_
          obtain ⟨g23, hf⟩ := gd hf
          refine va_last hx hb hK hP hD hS 1 1 rfl rfl g23 dX9_countsBy_22 (fun H locs hP hD hS => ?_)
          obtain ⟨v24, e_v24⟩ : ∃ z : Nat → Int64, z = vp_updL b_x_table x2.toNatClampNeg (1 : Int64) := ⟨_, rfl⟩
          have hf := nm_at hf e_v24
          have hP : va_P G vwCl [(qx 0, oX9 qx x_points x_lines x_tide x_isKept b_x_isMuch x_sum x_once x_twice x_isTermMuch x_nodes x_newMany x_isTooGreat x_come x_foundSet), (qx 10, .inl (Y 1, 28672, .inr (.inl v24))), (qx 11, .inl (Y 1, 7, .inr (.inl b_x_count))), (qx 12, .inl (Y 0, 144, .inl x_heavy))] H := by rw [e_v24]; exact hP
          have hD : va_D A [(qx 0, oX9 qx x_points x_lines x_tide x_isKept b_x_isMuch x_sum x_once x_twice x_isTermMuch x_nodes x_newMany x_isTooGreat x_come x_foundSet), (qx 10, .inl (Y 1, 28672, .inr (.inl v24))), (qx 11, .inl (Y 1, 7, .inr (.inl b_x_count))), (qx 12, .inl (Y 0, 144, .inl x_heavy))] := by rw [e_v24]; exact hD
          obtain ⟨v25, e_v25⟩ : ∃ z : Int32, z = (x2 + 1) := ⟨_, rfl⟩
          have hf := nm_at hf e_v25
          refine lv_iinc (v := v25) (lv' := [(2, .int v25), (0, .ref (qx 0)), (1, .int p1)]) hx hb dX9_countsBy_23 hl (k := 2) rfl (by rw [e_v25]; rfl) (by decide) rfl (fun ls hl => ?_)
          refine lv_goto (tgt := 2) hx hb dX9_countsBy_26 (by decide) ?_
          exact ih2 v24 b_x_count b_x_isMuch v25 hf _ _ hP hD hS ls (lv_sub hl [1, 2, 0] rfl)
  have E0 : ∀ (H : Heap) (locs : List Loc), va_P G vwCl [(qx 0, oX9 qx x_points x_lines x_tide x_isKept x_isMuch x_sum x_once x_twice x_isTermMuch x_nodes x_newMany x_isTooGreat x_come x_foundSet), (qx 10, .inl (Y 1, 28672, .inr (.inl x_table))), (qx 11, .inl (Y 1, 7, .inr (.inl x_count))), (qx 12, .inl (Y 0, 144, .inl x_heavy))] H → va_D A [(qx 0, oX9 qx x_points x_lines x_tide x_isKept x_isMuch x_sum x_once x_twice x_isTermMuch x_nodes x_newMany x_isTooGreat x_come x_foundSet), (qx 10, .inl (Y 1, 28672, .inr (.inl x_table))), (qx 11, .inl (Y 1, 7, .inr (.inl x_count))), (qx 12, .inl (Y 0, 144, .inl x_heavy))] → va_S A s.heap H locs → ∀ (ls : Array Slot), lv_has ls 3 [(0, .ref (qx 0)), (1, .int p1)] → W p l e (headSpec wsX9_countsBy (rmk 2 51)).room s m [.ref (qx 0), .int p1].toArray below meth c H locs 0 0 (MQ below (va_Qv (fun (_ : Unit) => True) (Pst G (tys Y) [(qx 0, oX9 qx x_points x_lines x_tide x_isKept x_isMuch x_sum x_once x_twice x_isTermMuch x_nodes x_newMany x_isTooGreat x_come x_foundSet), (qx 10, .inl (Y 1, 28672, .inr (.inl x_table))), (qx 11, .inl (Y 1, 7, .inr (.inl x_count))), (qx 12, .inl (Y 0, 144, .inl x_heavy))] s.heap.size [(qx 0, oX9 qx x_points x_lines x_tide x_isKept o_x_isMuch x_sum x_once x_twice x_isTermMuch x_nodes x_newMany x_isTooGreat x_come x_foundSet), (qx 10, .inl (Y 1, 28672, .inr (.inl o_x_table))), (qx 11, .inl (Y 1, 7, .inr (.inl o_x_count))), (qx 12, .inl (Y 0, 144, .inl x_heavy))]) A) [.ref (qx 0), .int p1].toArray s 0 0 A) (F0 m 0 ls []) := by
    intro H locs hP hD hS ls hl
    unfold f_X9_countsBy at hf
    refine lv_iconst (v := 0) hx hb dX9_countsBy_0 (by decide) ?_
    refine lv_istore_n (lv' := [(2, .int (0 : Int32)), (0, .ref (qx 0)), (1, .int p1)]) hx hb dX9_countsBy_1 rfl hl (by decide) rfl (fun ls hl => ?_)
    exact B2 4200 x_table x_count x_isMuch (0 : Int32) hf _ _ hP hD hS ls (lv_sub hl [1, 2, 0] rfl)
  exact E0 s.heap [] hP hD hS ls hl
-- X9_lays
set_option maxRecDepth 100000 in
set_option maxHeartbeats 4000000 in
theorem c_X9_lays (l : Launch) (G : va_G) (Y : Nat → ClassId) (sz : Nat) (qx : Nat → Nat) (x_points : Int32) (x_lines : Int32) (x_tide : Int32) (x_kind : Nat → Int32) (x_figure : Nat → Int32) (x_low : Nat → Int32) (x_high : Nat → Int32) (x_isKept : Int32) (x_heavy : Nat → Int32) (x_isMuch : Int32) (x_sum : Int64) (x_once : Int64) (x_twice : Int64) (x_isTermMuch : Int32) (x_nodes : Int32) (x_newMany : Int32) (x_isTooGreat : Int32) (x_come : Int32) (x_foundSet : Int64) (p1 : Int32) (o_x_heavy : Nat → Int32) (hf : f_X9_lays x_lines x_tide x_kind x_figure x_low x_high x_heavy p1 = some (o_x_heavy)) : Met l yX9_lays wsX9_lays (rmk 2 44) (va_Pc [.ref (qx 0), .int p1] (Pre G (tys Y) [(qx 0, oX9 qx x_points x_lines x_tide x_isKept x_isMuch x_sum x_once x_twice x_isTermMuch x_nodes x_newMany x_isTooGreat x_come x_foundSet), (qx 4, .inl (Y 0, 40, .inl x_kind)), (qx 5, .inl (Y 0, 40, .inl x_figure)), (qx 6, .inl (Y 0, 40, .inl x_low)), (qx 7, .inl (Y 0, 40, .inl x_high)), (qx 12, .inl (Y 0, 144, .inl x_heavy))] sz xT)) (va_Qv (fun (_ : Unit) => True) (Pst G (tys Y) [(qx 0, oX9 qx x_points x_lines x_tide x_isKept x_isMuch x_sum x_once x_twice x_isTermMuch x_nodes x_newMany x_isTooGreat x_come x_foundSet), (qx 4, .inl (Y 0, 40, .inl x_kind)), (qx 5, .inl (Y 0, 40, .inl x_figure)), (qx 6, .inl (Y 0, 40, .inl x_low)), (qx 7, .inl (Y 0, 40, .inl x_high)), (qx 12, .inl (Y 0, 144, .inl x_heavy))] sz [(qx 0, oX9 qx x_points x_lines x_tide x_isKept x_isMuch x_sum x_once x_twice x_isTermMuch x_nodes x_newMany x_isTooGreat x_come x_foundSet), (qx 4, .inl (Y 0, 40, .inl x_kind)), (qx 5, .inl (Y 0, 40, .inl x_figure)), (qx 6, .inl (Y 0, 40, .inl x_low)), (qx 7, .inl (Y 0, 40, .inl x_high)), (qx 12, .inl (Y 0, 144, .inl o_x_heavy))]) (va_A [(qx 0, oX9 qx x_points x_lines x_tide x_isKept x_isMuch x_sum x_once x_twice x_isTermMuch x_nodes x_newMany x_isTooGreat x_come x_foundSet), (qx 4, .inl (Y 0, 40, .inl x_kind)), (qx 5, .inl (Y 0, 40, .inl x_figure)), (qx 6, .inl (Y 0, 40, .inl x_low)), (qx 7, .inl (Y 0, 40, .inl x_high)), (qx 12, .inl (Y 0, 144, .inl x_heavy))] sz)) 0 0 (va_A [(qx 0, oX9 qx x_points x_lines x_tide x_isKept x_isMuch x_sum x_once x_twice x_isTermMuch x_nodes x_newMany x_isTooGreat x_come x_foundSet), (qx 4, .inl (Y 0, 40, .inl x_kind)), (qx 5, .inl (Y 0, 40, .inl x_figure)), (qx 6, .inl (Y 0, 40, .inl x_low)), (qx 7, .inl (Y 0, 40, .inl x_high)), (qx 12, .inl (Y 0, 144, .inl x_heavy))] sz) := by
  refine Met.ofW (cc := cX9_lays) (maxL := 3) (ret := none) (by decide) rfl ?_
  intro p e s m args below meth c s₁ B hml hv
  obtain ⟨rfl, hsz, hP, hK, hD0, hX⟩ := hv
  have hx := B.exec
  have hb := B.bytes
  have hr := B.returns
  have hts := atoms_spec (ws := wsX9_lays) B.pre
  have hown : s.vm.findClass RX9 = some m.cls := findClass_of_methodNamed B.named
  have hlocks := B.notSynchronized
  subst hsz
  have hD := hD0.self (sz := s.heap.size)
  generalize hAe : va_A [(qx 0, oX9 qx x_points x_lines x_tide x_isKept x_isMuch x_sum x_once x_twice x_isTermMuch x_nodes x_newMany x_isTooGreat x_come x_foundSet), (qx 4, .inl (Y 0, 40, .inl x_kind)), (qx 5, .inl (Y 0, 40, .inl x_figure)), (qx 6, .inl (Y 0, 40, .inl x_low)), (qx 7, .inl (Y 0, 40, .inl x_high)), (qx 12, .inl (Y 0, 144, .inl x_heavy))] s.heap.size = A at hD ⊢
  have hA : ∀ q : Nat, s.heap.size ≤ q → A q := fun q h => by rw [← hAe]; exact Or.inr h
  have hS : va_S A s.heap s.heap [] := va_S.rf
  have hP : va_P G vwCl [(qx 0, oX9 qx x_points x_lines x_tide x_isKept x_isMuch x_sum x_once x_twice x_isTermMuch x_nodes x_newMany x_isTooGreat x_come x_foundSet), (qx 4, .inl (Y 0, 40, .inl x_kind)), (qx 5, .inl (Y 0, 40, .inl x_figure)), (qx 6, .inl (Y 0, 40, .inl x_low)), (qx 7, .inl (Y 0, 40, .inl x_high)), (qx 12, .inl (Y 0, 144, .inl x_heavy))] s.heap := hP
  have wd1 : (Cond.fieldLink RX9 32 "PairedLinesModel" "heavy" "[I").before [.ref (qx 0), .int p1].toArray s = true := hts _ (List.mem_of_getElem? (i := 1) rfl)
  have wd2 : (Cond.fieldLink RX9 100 "PairedLinesModel" "lines" "I").before [.ref (qx 0), .int p1].toArray s = true := hts _ (List.mem_of_getElem? (i := 2) rfl)
  have wd3 : (Cond.fieldLink RX9 16 "PairedLinesModel" "low" "[I").before [.ref (qx 0), .int p1].toArray s = true := hts _ (List.mem_of_getElem? (i := 3) rfl)
  have wd4 : (Cond.fieldLink RX9 19 "PairedLinesModel" "high" "[I").before [.ref (qx 0), .int p1].toArray s = true := hts _ (List.mem_of_getElem? (i := 4) rfl)
  have inX9w : ∀ w ∈ u_ws RX9 TX9 37, w ∈ wsX9_lays := fun w hw => List.mem_cons_of_mem _ (List.mem_append_right _ (hw))
  have hl := lv_entry ([.ref (qx 0), .int p1]) (n := 3) (Nat.le_of_ble_eq_true rfl)
  rw [lg_entry_eq]
  generalize (lg_sl ([.ref (qx 0), .int p1]) ++ List.replicate (3 - (lg_sl ([.ref (qx 0), .int p1])).length) Slot.unset).toArray = ls at hl ⊢
  have hl : lv_has ls 3 [(0, .ref (qx 0)), (1, .int p1)] := hl
  have B32 : ∀ (n32 : Nat), ∀ (b_x_heavy : Nat → Int32) (x2 : Int32), f_X9_lays_b32 x_lines x_tide x_kind x_figure x_low x_high p1 n32 b_x_heavy x2 = some (o_x_heavy) → ∀ (H : Heap) (locs : List Loc), va_P G vwCl [(qx 0, oX9 qx x_points x_lines x_tide x_isKept x_isMuch x_sum x_once x_twice x_isTermMuch x_nodes x_newMany x_isTooGreat x_come x_foundSet), (qx 4, .inl (Y 0, 40, .inl x_kind)), (qx 5, .inl (Y 0, 40, .inl x_figure)), (qx 6, .inl (Y 0, 40, .inl x_low)), (qx 7, .inl (Y 0, 40, .inl x_high)), (qx 12, .inl (Y 0, 144, .inl b_x_heavy))] H → va_D A [(qx 0, oX9 qx x_points x_lines x_tide x_isKept x_isMuch x_sum x_once x_twice x_isTermMuch x_nodes x_newMany x_isTooGreat x_come x_foundSet), (qx 4, .inl (Y 0, 40, .inl x_kind)), (qx 5, .inl (Y 0, 40, .inl x_figure)), (qx 6, .inl (Y 0, 40, .inl x_low)), (qx 7, .inl (Y 0, 40, .inl x_high)), (qx 12, .inl (Y 0, 144, .inl b_x_heavy))] → va_S A s.heap H locs → ∀ (ls : Array Slot), lv_has ls 3 [(0, .ref (qx 0)), (1, .int p1), (2, .int x2)] → W p l e (headSpec wsX9_lays (rmk 2 44)).room s m [.ref (qx 0), .int p1].toArray below meth c H locs 0 0 (MQ below (va_Qv (fun (_ : Unit) => True) (Pst G (tys Y) [(qx 0, oX9 qx x_points x_lines x_tide x_isKept x_isMuch x_sum x_once x_twice x_isTermMuch x_nodes x_newMany x_isTooGreat x_come x_foundSet), (qx 4, .inl (Y 0, 40, .inl x_kind)), (qx 5, .inl (Y 0, 40, .inl x_figure)), (qx 6, .inl (Y 0, 40, .inl x_low)), (qx 7, .inl (Y 0, 40, .inl x_high)), (qx 12, .inl (Y 0, 144, .inl x_heavy))] s.heap.size [(qx 0, oX9 qx x_points x_lines x_tide x_isKept x_isMuch x_sum x_once x_twice x_isTermMuch x_nodes x_newMany x_isTooGreat x_come x_foundSet), (qx 4, .inl (Y 0, 40, .inl x_kind)), (qx 5, .inl (Y 0, 40, .inl x_figure)), (qx 6, .inl (Y 0, 40, .inl x_low)), (qx 7, .inl (Y 0, 40, .inl x_high)), (qx 12, .inl (Y 0, 144, .inl o_x_heavy))]) A) [.ref (qx 0), .int p1].toArray s 0 0 A) (F0 m 32 ls []) := by
    intro n32
    induction n32 with
    | zero =>
      intro b_x_heavy x2 hf H locs hP hD hS ls hl
      exact no_none hf
    | succ n32 ih32 =>
      intro b_x_heavy x2 hf H locs hP hD hS ls hl
      have hf : f_X9_lays_s32 x_lines x_tide x_kind x_figure x_low x_high p1 (f_X9_lays_b32 x_lines x_tide x_kind x_figure x_low x_high p1  n32) b_x_heavy x2 = some (o_x_heavy) := hf
      unfold f_X9_lays_s32 at hf
      refine lv_iload_n hx hb dX9_lays_32 rfl (lv_at hl 2 rfl) ?_
      refine lv_aload_n hx hb dX9_lays_33 rfl (lv_at hl 0 rfl) ?_
      refine va_get (D := G) (ci := 7) (v := .int x_lines) (C := RX9) (T := TX9) (N := 37) hx hb hts inX9w hown hK hP 0 rfl rfl 1 (by decide) wd2 (fun _ h9 => h9) rfl dX9_lays_34 ?_
      refine lv_icmp_ge (tgt := 80) hx hb dX9_lays_37 (by decide) (fun c1 => ?_) (fun c1 => ?_)
      · have hf := it hf c1
        have e0 := rt1 hf
        have hP : va_P G vwCl [(qx 0, oX9 qx x_points x_lines x_tide x_isKept x_isMuch x_sum x_once x_twice x_isTermMuch x_nodes x_newMany x_isTooGreat x_come x_foundSet), (qx 4, .inl (Y 0, 40, .inl x_kind)), (qx 5, .inl (Y 0, 40, .inl x_figure)), (qx 6, .inl (Y 0, 40, .inl x_low)), (qx 7, .inl (Y 0, 40, .inl x_high)), (qx 12, .inl (Y 0, 144, .inl o_x_heavy))] H := by rw [← e0]; exact hP
        have hD : va_D A [(qx 0, oX9 qx x_points x_lines x_tide x_isKept x_isMuch x_sum x_once x_twice x_isTermMuch x_nodes x_newMany x_isTooGreat x_come x_foundSet), (qx 4, .inl (Y 0, 40, .inl x_kind)), (qx 5, .inl (Y 0, 40, .inl x_figure)), (qx 6, .inl (Y 0, 40, .inl x_low)), (qx 7, .inl (Y 0, 40, .inl x_high)), (qx 12, .inl (Y 0, 144, .inl o_x_heavy))] := by rw [← e0]; exact hD
        exact W.vret hx hb hr (fun t ht hW => ⟨⟨(), rfl, trivial, by rw [ht]; exact hP, va_K.moved hW.alike hK, by rw [hAe]; exact hD⟩, hS.F ht⟩) hS.2.2 dX9_lays_80
      · have hf := ie hf c1
        refine lv_aload_n hx hb dX9_lays_40 rfl (lv_at hl 0 rfl) ?_
        refine va_get (D := G) (ci := 7) (v := .ref (qx 12)) (C := RX9) (T := TX9) (N := 37) hx hb hts inX9w hown hK hP 0 rfl rfl 11 (by decide) wd1 (fun _ h9 => h9) rfl dX9_lays_41 ?_
        refine lv_bipush (v := 12) hx hb dX9_lays_44 (by decide) ?_
        refine lv_aload_n hx hb dX9_lays_46 rfl (lv_at hl 0 rfl) ?_
        refine va_get (D := G) (ci := 7) (v := .ref (qx 6)) (C := RX9) (T := TX9) (N := 37) hx hb hts inX9w hown hK hP 0 rfl rfl 5 (by decide) wd3 (fun _ h9 => h9) rfl dX9_lays_47 ?_
        refine lv_iload_n hx hb dX9_lays_50 rfl (lv_at hl 2 rfl) ?_
        obtain ⟨g2, hf⟩ := gd hf
        refine va_iald hx hb hK hP 3 0 rfl rfl g2 dX9_lays_51 ?_
        refine lv_imul hx hb dX9_lays_52 ?_
        refine lv_aload_n hx hb dX9_lays_53 rfl (lv_at hl 0 rfl) ?_
        refine va_get (D := G) (ci := 7) (v := .ref (qx 7)) (C := RX9) (T := TX9) (N := 37) hx hb hts inX9w hown hK hP 0 rfl rfl 6 (by decide) wd4 (fun _ h9 => h9) rfl dX9_lays_54 ?_
        refine lv_iload_n hx hb dX9_lays_57 rfl (lv_at hl 2 rfl) ?_
        obtain ⟨g3, hf⟩ := gd hf
        refine va_iald hx hb hK hP 4 0 rfl rfl g3 dX9_lays_58 ?_
        refine lv_iadd hx hb dX9_lays_59 ?_
        refine lv_iload_n hx hb dX9_lays_60 rfl (lv_at hl 1 rfl) ?_
        refine lv_if_eq (tgt := 68) hx hb dX9_lays_61 (by decide) (fun c4 => ?_) (fun c4 => ?_)
        · have hf := it hf c4
          refine lv_aload_n hx hb dX9_lays_68 rfl (lv_at hl 0 rfl) ?_
          refine lv_iload_n hx hb dX9_lays_69 rfl (lv_at hl 2 rfl) ?_
          obtain ⟨r5, hc, hf⟩ := bd1 hf
          refine cl_i (ws' := [(qx 0, oX9 qx x_points x_lines x_tide x_isKept x_isMuch x_sum x_once x_twice x_isTermMuch x_nodes x_newMany x_isTooGreat x_come x_foundSet), (qx 4, .inl (Y 0, 40, .inl x_kind)), (qx 5, .inl (Y 0, 40, .inl x_figure)), (qx 6, .inl (Y 0, 40, .inl x_low)), (qx 7, .inl (Y 0, 40, .inl x_high)), (qx 12, .inl (Y 0, 144, .inl b_x_heavy))]) (wr := [(qx 6, .inl (Y 0, 40, .inl x_low)), (qx 7, .inl (Y 0, 40, .inl x_high)), (qx 12, .inl (Y 0, 144, .inl b_x_heavy))]) (rnV (As := [.int x2]) (rest := [.int (((12 : Int32) * (x_low x2.toNatClampNeg)) + (x_high x2.toNatClampNeg)), .ref (qx 12)]) ⟨hx, hb, hml, hown, hts⟩ (c_X9_weight l G Y H.size qx x_points x_lines x_tide x_kind x_figure x_isKept x_isMuch x_sum x_once x_twice x_isTermMuch x_nodes x_newMany x_isTooGreat x_come x_foundSet x2 r5 hc) (cwV 1 hts gX9_lays_X9_weight rfl rfl rfl (by decide +kernel) ⟨(Nat.le_of_ble_eq_true rfl), (Nat.le_of_ble_eq_true rfl)⟩) trivial okT hK hP hD [0, 1, 2] rfl rfl (ci := 7) (q0 := 0) rfl rfl rfl rfl hl.1 rfl (Nat.le_of_ble_eq_true rfl) dX9_lays_70) hP hD hS hA [0, 1, 2] [3, 4, 5] [3, 4, 5, 0, 1, 2] rfl rfl rfl (by decide) rfl rfl (fun H locs hP hD hS => ?_)
          obtain ⟨g6, hf⟩ := gd hf
          refine va_iast hx hb hK hP hD hS 5 0 rfl rfl g6 dX9_lays_73 (fun H locs hP hD hS => ?_)
          obtain ⟨v7, e_v7⟩ : ∃ z : Nat → Int32, z = upd b_x_heavy (((12 : Int32) * (x_low x2.toNatClampNeg)) + (x_high x2.toNatClampNeg)).toNatClampNeg r5 := ⟨_, rfl⟩
          have hf := nm_at hf e_v7
          have hP : va_P G vwCl [(qx 0, oX9 qx x_points x_lines x_tide x_isKept x_isMuch x_sum x_once x_twice x_isTermMuch x_nodes x_newMany x_isTooGreat x_come x_foundSet), (qx 4, .inl (Y 0, 40, .inl x_kind)), (qx 5, .inl (Y 0, 40, .inl x_figure)), (qx 6, .inl (Y 0, 40, .inl x_low)), (qx 7, .inl (Y 0, 40, .inl x_high)), (qx 12, .inl (Y 0, 144, .inl v7))] H := by rw [e_v7]; exact hP
          have hD : va_D A [(qx 0, oX9 qx x_points x_lines x_tide x_isKept x_isMuch x_sum x_once x_twice x_isTermMuch x_nodes x_newMany x_isTooGreat x_come x_foundSet), (qx 4, .inl (Y 0, 40, .inl x_kind)), (qx 5, .inl (Y 0, 40, .inl x_figure)), (qx 6, .inl (Y 0, 40, .inl x_low)), (qx 7, .inl (Y 0, 40, .inl x_high)), (qx 12, .inl (Y 0, 144, .inl v7))] := by rw [e_v7]; exact hD
          obtain ⟨v8, e_v8⟩ : ∃ z : Int32, z = (x2 + 1) := ⟨_, rfl⟩
          have hf := nm_at hf e_v8
          refine lv_iinc (v := v8) (lv' := [(2, .int v8), (0, .ref (qx 0)), (1, .int p1)]) hx hb dX9_lays_74 hl (k := 2) rfl (by rw [e_v8]; rfl) (by decide) rfl (fun ls hl => ?_)
          refine lv_goto (tgt := 32) hx hb dX9_lays_77 (by decide) ?_
          exact ih32 v7 v8 hf _ _ hP hD hS ls (lv_sub hl [1, 2, 0] rfl)
        · have hf := ie hf c4
          refine lv_iconst (v := -1) hx hb dX9_lays_64 (by decide) ?_
          refine lv_goto (tgt := 73) hx hb dX9_lays_65 (by decide) ?_
          obtain ⟨g9, hf⟩ := gd hf
          refine va_iast hx hb hK hP hD hS 5 0 rfl rfl g9 dX9_lays_73 (fun H locs hP hD hS => ?_)
          obtain ⟨v10, e_v10⟩ : ∃ z : Nat → Int32, z = upd b_x_heavy (((12 : Int32) * (x_low x2.toNatClampNeg)) + (x_high x2.toNatClampNeg)).toNatClampNeg (-1 : Int32) := ⟨_, rfl⟩
          have hf := nm_at hf e_v10
          have hP : va_P G vwCl [(qx 0, oX9 qx x_points x_lines x_tide x_isKept x_isMuch x_sum x_once x_twice x_isTermMuch x_nodes x_newMany x_isTooGreat x_come x_foundSet), (qx 4, .inl (Y 0, 40, .inl x_kind)), (qx 5, .inl (Y 0, 40, .inl x_figure)), (qx 6, .inl (Y 0, 40, .inl x_low)), (qx 7, .inl (Y 0, 40, .inl x_high)), (qx 12, .inl (Y 0, 144, .inl v10))] H := by rw [e_v10]; exact hP
          have hD : va_D A [(qx 0, oX9 qx x_points x_lines x_tide x_isKept x_isMuch x_sum x_once x_twice x_isTermMuch x_nodes x_newMany x_isTooGreat x_come x_foundSet), (qx 4, .inl (Y 0, 40, .inl x_kind)), (qx 5, .inl (Y 0, 40, .inl x_figure)), (qx 6, .inl (Y 0, 40, .inl x_low)), (qx 7, .inl (Y 0, 40, .inl x_high)), (qx 12, .inl (Y 0, 144, .inl v10))] := by rw [e_v10]; exact hD
          obtain ⟨v11, e_v11⟩ : ∃ z : Int32, z = (x2 + 1) := ⟨_, rfl⟩
          have hf := nm_at hf e_v11
          refine lv_iinc (v := v11) (lv' := [(2, .int v11), (0, .ref (qx 0)), (1, .int p1)]) hx hb dX9_lays_74 hl (k := 2) rfl (by rw [e_v11]; rfl) (by decide) rfl (fun ls hl => ?_)
          refine lv_goto (tgt := 32) hx hb dX9_lays_77 (by decide) ?_
          exact ih32 v10 v11 hf _ _ hP hD hS ls (lv_sub hl [1, 2, 0] rfl)
  have B2 : ∀ (n2 : Nat), ∀ (b_x_heavy : Nat → Int32) (x2 : Int32), f_X9_lays_b2 x_lines x_tide x_kind x_figure x_low x_high p1 n2 b_x_heavy x2 = some (o_x_heavy) → ∀ (H : Heap) (locs : List Loc), va_P G vwCl [(qx 0, oX9 qx x_points x_lines x_tide x_isKept x_isMuch x_sum x_once x_twice x_isTermMuch x_nodes x_newMany x_isTooGreat x_come x_foundSet), (qx 4, .inl (Y 0, 40, .inl x_kind)), (qx 5, .inl (Y 0, 40, .inl x_figure)), (qx 6, .inl (Y 0, 40, .inl x_low)), (qx 7, .inl (Y 0, 40, .inl x_high)), (qx 12, .inl (Y 0, 144, .inl b_x_heavy))] H → va_D A [(qx 0, oX9 qx x_points x_lines x_tide x_isKept x_isMuch x_sum x_once x_twice x_isTermMuch x_nodes x_newMany x_isTooGreat x_come x_foundSet), (qx 4, .inl (Y 0, 40, .inl x_kind)), (qx 5, .inl (Y 0, 40, .inl x_figure)), (qx 6, .inl (Y 0, 40, .inl x_low)), (qx 7, .inl (Y 0, 40, .inl x_high)), (qx 12, .inl (Y 0, 144, .inl b_x_heavy))] → va_S A s.heap H locs → ∀ (ls : Array Slot), lv_has ls 3 [(0, .ref (qx 0)), (1, .int p1), (2, .int x2)] → W p l e (headSpec wsX9_lays (rmk 2 44)).room s m [.ref (qx 0), .int p1].toArray below meth c H locs 0 0 (MQ below (va_Qv (fun (_ : Unit) => True) (Pst G (tys Y) [(qx 0, oX9 qx x_points x_lines x_tide x_isKept x_isMuch x_sum x_once x_twice x_isTermMuch x_nodes x_newMany x_isTooGreat x_come x_foundSet), (qx 4, .inl (Y 0, 40, .inl x_kind)), (qx 5, .inl (Y 0, 40, .inl x_figure)), (qx 6, .inl (Y 0, 40, .inl x_low)), (qx 7, .inl (Y 0, 40, .inl x_high)), (qx 12, .inl (Y 0, 144, .inl x_heavy))] s.heap.size [(qx 0, oX9 qx x_points x_lines x_tide x_isKept x_isMuch x_sum x_once x_twice x_isTermMuch x_nodes x_newMany x_isTooGreat x_come x_foundSet), (qx 4, .inl (Y 0, 40, .inl x_kind)), (qx 5, .inl (Y 0, 40, .inl x_figure)), (qx 6, .inl (Y 0, 40, .inl x_low)), (qx 7, .inl (Y 0, 40, .inl x_high)), (qx 12, .inl (Y 0, 144, .inl o_x_heavy))]) A) [.ref (qx 0), .int p1].toArray s 0 0 A) (F0 m 2 ls []) := by
    intro n2
    induction n2 with
    | zero =>
      intro b_x_heavy x2 hf H locs hP hD hS ls hl
      exact no_none hf
    | succ n2 ih2 =>
      intro b_x_heavy x2 hf H locs hP hD hS ls hl
      have hf : f_X9_lays_s2 x_lines x_tide x_kind x_figure x_low x_high p1 (f_X9_lays_b2 x_lines x_tide x_kind x_figure x_low x_high p1  n2) b_x_heavy x2 = some (o_x_heavy) := hf
      unfold f_X9_lays_s2 at hf
      refine lv_iload_n hx hb dX9_lays_2 rfl (lv_at hl 2 rfl) ?_
      refine lv_sipush (v := 144) hx hb dX9_lays_3 (by decide) ?_
      refine lv_icmp_ge (tgt := 30) hx hb dX9_lays_6 (by decide) (fun c12 => ?_) (fun c12 => ?_)
      · have hf := it hf c12
        refine lv_iconst (v := 0) hx hb dX9_lays_30 (by decide) ?_
        refine lv_istore_n (lv' := [(2, .int (0 : Int32)), (0, .ref (qx 0)), (1, .int p1)]) hx hb dX9_lays_31 rfl hl (by decide) rfl (fun ls hl => ?_)
        exact B32 150 b_x_heavy (0 : Int32) hf _ _ hP hD hS ls (lv_sub hl [1, 2, 0] rfl)
      · have hf := ie hf c12
        refine lv_aload_n hx hb dX9_lays_9 rfl (lv_at hl 0 rfl) ?_
        refine va_get (D := G) (ci := 7) (v := .ref (qx 12)) (C := RX9) (T := TX9) (N := 37) hx hb hts inX9w hown hK hP 0 rfl rfl 11 (by decide) wd1 (fun _ h9 => h9) rfl dX9_lays_10 ?_
        refine lv_iload_n hx hb dX9_lays_13 rfl (lv_at hl 2 rfl) ?_
        refine lv_iload_n hx hb dX9_lays_14 rfl (lv_at hl 1 rfl) ?_
        refine lv_if_eq (tgt := 22) hx hb dX9_lays_15 (by decide) (fun c13 => ?_) (fun c13 => ?_)
        · have hf := it hf c13
          refine lv_iconst (v := -1) hx hb dX9_lays_22 (by decide) ?_
          obtain ⟨g14, hf⟩ := gd hf
          refine va_iast hx hb hK hP hD hS 5 0 rfl rfl g14 dX9_lays_23 (fun H locs hP hD hS => ?_)
          obtain ⟨v15, e_v15⟩ : ∃ z : Nat → Int32, z = upd b_x_heavy x2.toNatClampNeg (-1 : Int32) := ⟨_, rfl⟩
          have hf := nm_at hf e_v15
          have hP : va_P G vwCl [(qx 0, oX9 qx x_points x_lines x_tide x_isKept x_isMuch x_sum x_once x_twice x_isTermMuch x_nodes x_newMany x_isTooGreat x_come x_foundSet), (qx 4, .inl (Y 0, 40, .inl x_kind)), (qx 5, .inl (Y 0, 40, .inl x_figure)), (qx 6, .inl (Y 0, 40, .inl x_low)), (qx 7, .inl (Y 0, 40, .inl x_high)), (qx 12, .inl (Y 0, 144, .inl v15))] H := by rw [e_v15]; exact hP
          have hD : va_D A [(qx 0, oX9 qx x_points x_lines x_tide x_isKept x_isMuch x_sum x_once x_twice x_isTermMuch x_nodes x_newMany x_isTooGreat x_come x_foundSet), (qx 4, .inl (Y 0, 40, .inl x_kind)), (qx 5, .inl (Y 0, 40, .inl x_figure)), (qx 6, .inl (Y 0, 40, .inl x_low)), (qx 7, .inl (Y 0, 40, .inl x_high)), (qx 12, .inl (Y 0, 144, .inl v15))] := by rw [e_v15]; exact hD
          obtain ⟨v16, e_v16⟩ : ∃ z : Int32, z = (x2 + 1) := ⟨_, rfl⟩
          have hf := nm_at hf e_v16
          refine lv_iinc (v := v16) (lv' := [(2, .int v16), (0, .ref (qx 0)), (1, .int p1)]) hx hb dX9_lays_24 hl (k := 2) rfl (by rw [e_v16]; rfl) (by decide) rfl (fun ls hl => ?_)
          refine lv_goto (tgt := 2) hx hb dX9_lays_27 (by decide) ?_
          exact ih2 v15 v16 hf _ _ hP hD hS ls (lv_sub hl [1, 2, 0] rfl)
        · have hf := ie hf c13
          refine lv_iconst (v := 1) hx hb dX9_lays_18 (by decide) ?_
          refine lv_goto (tgt := 23) hx hb dX9_lays_19 (by decide) ?_
          obtain ⟨g17, hf⟩ := gd hf
          refine va_iast hx hb hK hP hD hS 5 0 rfl rfl g17 dX9_lays_23 (fun H locs hP hD hS => ?_)
          obtain ⟨v18, e_v18⟩ : ∃ z : Nat → Int32, z = upd b_x_heavy x2.toNatClampNeg (1 : Int32) := ⟨_, rfl⟩
          have hf := nm_at hf e_v18
          have hP : va_P G vwCl [(qx 0, oX9 qx x_points x_lines x_tide x_isKept x_isMuch x_sum x_once x_twice x_isTermMuch x_nodes x_newMany x_isTooGreat x_come x_foundSet), (qx 4, .inl (Y 0, 40, .inl x_kind)), (qx 5, .inl (Y 0, 40, .inl x_figure)), (qx 6, .inl (Y 0, 40, .inl x_low)), (qx 7, .inl (Y 0, 40, .inl x_high)), (qx 12, .inl (Y 0, 144, .inl v18))] H := by rw [e_v18]; exact hP
          have hD : va_D A [(qx 0, oX9 qx x_points x_lines x_tide x_isKept x_isMuch x_sum x_once x_twice x_isTermMuch x_nodes x_newMany x_isTooGreat x_come x_foundSet), (qx 4, .inl (Y 0, 40, .inl x_kind)), (qx 5, .inl (Y 0, 40, .inl x_figure)), (qx 6, .inl (Y 0, 40, .inl x_low)), (qx 7, .inl (Y 0, 40, .inl x_high)), (qx 12, .inl (Y 0, 144, .inl v18))] := by rw [e_v18]; exact hD
          obtain ⟨v19, e_v19⟩ : ∃ z : Int32, z = (x2 + 1) := ⟨_, rfl⟩
          have hf := nm_at hf e_v19
          refine lv_iinc (v := v19) (lv' := [(2, .int v19), (0, .ref (qx 0)), (1, .int p1)]) hx hb dX9_lays_24 hl (k := 2) rfl (by rw [e_v19]; rfl) (by decide) rfl (fun ls hl => ?_)
          refine lv_goto (tgt := 2) hx hb dX9_lays_27 (by decide) ?_
          exact ih2 v18 v19 hf _ _ hP hD hS ls (lv_sub hl [1, 2, 0] rfl)
  have E0 : ∀ (H : Heap) (locs : List Loc), va_P G vwCl [(qx 0, oX9 qx x_points x_lines x_tide x_isKept x_isMuch x_sum x_once x_twice x_isTermMuch x_nodes x_newMany x_isTooGreat x_come x_foundSet), (qx 4, .inl (Y 0, 40, .inl x_kind)), (qx 5, .inl (Y 0, 40, .inl x_figure)), (qx 6, .inl (Y 0, 40, .inl x_low)), (qx 7, .inl (Y 0, 40, .inl x_high)), (qx 12, .inl (Y 0, 144, .inl x_heavy))] H → va_D A [(qx 0, oX9 qx x_points x_lines x_tide x_isKept x_isMuch x_sum x_once x_twice x_isTermMuch x_nodes x_newMany x_isTooGreat x_come x_foundSet), (qx 4, .inl (Y 0, 40, .inl x_kind)), (qx 5, .inl (Y 0, 40, .inl x_figure)), (qx 6, .inl (Y 0, 40, .inl x_low)), (qx 7, .inl (Y 0, 40, .inl x_high)), (qx 12, .inl (Y 0, 144, .inl x_heavy))] → va_S A s.heap H locs → ∀ (ls : Array Slot), lv_has ls 3 [(0, .ref (qx 0)), (1, .int p1)] → W p l e (headSpec wsX9_lays (rmk 2 44)).room s m [.ref (qx 0), .int p1].toArray below meth c H locs 0 0 (MQ below (va_Qv (fun (_ : Unit) => True) (Pst G (tys Y) [(qx 0, oX9 qx x_points x_lines x_tide x_isKept x_isMuch x_sum x_once x_twice x_isTermMuch x_nodes x_newMany x_isTooGreat x_come x_foundSet), (qx 4, .inl (Y 0, 40, .inl x_kind)), (qx 5, .inl (Y 0, 40, .inl x_figure)), (qx 6, .inl (Y 0, 40, .inl x_low)), (qx 7, .inl (Y 0, 40, .inl x_high)), (qx 12, .inl (Y 0, 144, .inl x_heavy))] s.heap.size [(qx 0, oX9 qx x_points x_lines x_tide x_isKept x_isMuch x_sum x_once x_twice x_isTermMuch x_nodes x_newMany x_isTooGreat x_come x_foundSet), (qx 4, .inl (Y 0, 40, .inl x_kind)), (qx 5, .inl (Y 0, 40, .inl x_figure)), (qx 6, .inl (Y 0, 40, .inl x_low)), (qx 7, .inl (Y 0, 40, .inl x_high)), (qx 12, .inl (Y 0, 144, .inl o_x_heavy))]) A) [.ref (qx 0), .int p1].toArray s 0 0 A) (F0 m 0 ls []) := by
    intro H locs hP hD hS ls hl
    unfold f_X9_lays at hf
    refine lv_iconst (v := 0) hx hb dX9_lays_0 (by decide) ?_
    refine lv_istore_n (lv' := [(2, .int (0 : Int32)), (0, .ref (qx 0)), (1, .int p1)]) hx hb dX9_lays_1 rfl hl (by decide) rfl (fun ls hl => ?_)
    exact B2 150 x_heavy (0 : Int32) hf _ _ hP hD hS ls (lv_sub hl [1, 2, 0] rfl)
  exact E0 s.heap [] hP hD hS ls hl
-- X9_findsCounts
set_option maxRecDepth 100000 in
set_option maxHeartbeats 4000000 in
theorem c_X9_findsCounts (l : Launch) (G : va_G) (Y : Nat → ClassId) (sz : Nat) (qx : Nat → Nat) (x_points : Int32) (x_lines : Int32) (x_tide : Int32) (x_kind : Nat → Int32) (x_figure : Nat → Int32) (x_low : Nat → Int32) (x_high : Nat → Int32) (x_isKept : Int32) (x_table : Nat → Int64) (x_count : Nat → Int64) (x_heavy : Nat → Int32) (x_isMuch : Int32) (x_sum : Int64) (x_once : Int64) (x_twice : Int64) (x_isTermMuch : Int32) (x_nodes : Int32) (x_newMany : Int32) (x_isTooGreat : Int32) (x_come : Int32) (x_foundSet : Int64) (p1 : Int32) (o_x_table : Nat → Int64) (o_x_count : Nat → Int64) (o_x_heavy : Nat → Int32) (o_x_isMuch : Int32) (hf : f_X9_findsCounts x_points x_lines x_tide x_kind x_figure x_low x_high x_table x_count x_heavy x_isMuch p1 = some (o_x_table, o_x_count, o_x_heavy, o_x_isMuch)) : Met l yX9_findsCounts wsX9_findsCounts (rmk 3 73) (va_Pc [.ref (qx 0), .int p1] (Pre G (tys Y) [(qx 0, oX9 qx x_points x_lines x_tide x_isKept x_isMuch x_sum x_once x_twice x_isTermMuch x_nodes x_newMany x_isTooGreat x_come x_foundSet), (qx 4, .inl (Y 0, 40, .inl x_kind)), (qx 5, .inl (Y 0, 40, .inl x_figure)), (qx 6, .inl (Y 0, 40, .inl x_low)), (qx 7, .inl (Y 0, 40, .inl x_high)), (qx 10, .inl (Y 1, 28672, .inr (.inl x_table))), (qx 11, .inl (Y 1, 7, .inr (.inl x_count))), (qx 12, .inl (Y 0, 144, .inl x_heavy))] sz xT)) (va_Qv (fun (_ : Unit) => True) (Pst G (tys Y) [(qx 0, oX9 qx x_points x_lines x_tide x_isKept x_isMuch x_sum x_once x_twice x_isTermMuch x_nodes x_newMany x_isTooGreat x_come x_foundSet), (qx 4, .inl (Y 0, 40, .inl x_kind)), (qx 5, .inl (Y 0, 40, .inl x_figure)), (qx 6, .inl (Y 0, 40, .inl x_low)), (qx 7, .inl (Y 0, 40, .inl x_high)), (qx 10, .inl (Y 1, 28672, .inr (.inl x_table))), (qx 11, .inl (Y 1, 7, .inr (.inl x_count))), (qx 12, .inl (Y 0, 144, .inl x_heavy))] sz [(qx 0, oX9 qx x_points x_lines x_tide x_isKept o_x_isMuch x_sum x_once x_twice x_isTermMuch x_nodes x_newMany x_isTooGreat x_come x_foundSet), (qx 4, .inl (Y 0, 40, .inl x_kind)), (qx 5, .inl (Y 0, 40, .inl x_figure)), (qx 6, .inl (Y 0, 40, .inl x_low)), (qx 7, .inl (Y 0, 40, .inl x_high)), (qx 10, .inl (Y 1, 28672, .inr (.inl o_x_table))), (qx 11, .inl (Y 1, 7, .inr (.inl o_x_count))), (qx 12, .inl (Y 0, 144, .inl o_x_heavy))]) (va_A [(qx 0, oX9 qx x_points x_lines x_tide x_isKept x_isMuch x_sum x_once x_twice x_isTermMuch x_nodes x_newMany x_isTooGreat x_come x_foundSet), (qx 4, .inl (Y 0, 40, .inl x_kind)), (qx 5, .inl (Y 0, 40, .inl x_figure)), (qx 6, .inl (Y 0, 40, .inl x_low)), (qx 7, .inl (Y 0, 40, .inl x_high)), (qx 10, .inl (Y 1, 28672, .inr (.inl x_table))), (qx 11, .inl (Y 1, 7, .inr (.inl x_count))), (qx 12, .inl (Y 0, 144, .inl x_heavy))] sz)) 0 0 (va_A [(qx 0, oX9 qx x_points x_lines x_tide x_isKept x_isMuch x_sum x_once x_twice x_isTermMuch x_nodes x_newMany x_isTooGreat x_come x_foundSet), (qx 4, .inl (Y 0, 40, .inl x_kind)), (qx 5, .inl (Y 0, 40, .inl x_figure)), (qx 6, .inl (Y 0, 40, .inl x_low)), (qx 7, .inl (Y 0, 40, .inl x_high)), (qx 10, .inl (Y 1, 28672, .inr (.inl x_table))), (qx 11, .inl (Y 1, 7, .inr (.inl x_count))), (qx 12, .inl (Y 0, 144, .inl x_heavy))] sz) := by
  refine Met.ofW (cc := cX9_findsCounts) (maxL := 2) (ret := none) (by decide) rfl ?_
  intro p e s m args below meth c s₁ B hml hv
  obtain ⟨rfl, hsz, hP, hK, hD0, hX⟩ := hv
  have hx := B.exec
  have hb := B.bytes
  have hr := B.returns
  have hts := atoms_spec (ws := wsX9_findsCounts) B.pre
  have hown : s.vm.findClass RX9 = some m.cls := findClass_of_methodNamed B.named
  have hlocks := B.notSynchronized
  subst hsz
  have hD := hD0.self (sz := s.heap.size)
  generalize hAe : va_A [(qx 0, oX9 qx x_points x_lines x_tide x_isKept x_isMuch x_sum x_once x_twice x_isTermMuch x_nodes x_newMany x_isTooGreat x_come x_foundSet), (qx 4, .inl (Y 0, 40, .inl x_kind)), (qx 5, .inl (Y 0, 40, .inl x_figure)), (qx 6, .inl (Y 0, 40, .inl x_low)), (qx 7, .inl (Y 0, 40, .inl x_high)), (qx 10, .inl (Y 1, 28672, .inr (.inl x_table))), (qx 11, .inl (Y 1, 7, .inr (.inl x_count))), (qx 12, .inl (Y 0, 144, .inl x_heavy))] s.heap.size = A at hD ⊢
  have hA : ∀ q : Nat, s.heap.size ≤ q → A q := fun q h => by rw [← hAe]; exact Or.inr h
  have hS : va_S A s.heap s.heap [] := va_S.rf
  have hP : va_P G vwCl [(qx 0, oX9 qx x_points x_lines x_tide x_isKept x_isMuch x_sum x_once x_twice x_isTermMuch x_nodes x_newMany x_isTooGreat x_come x_foundSet), (qx 4, .inl (Y 0, 40, .inl x_kind)), (qx 5, .inl (Y 0, 40, .inl x_figure)), (qx 6, .inl (Y 0, 40, .inl x_low)), (qx 7, .inl (Y 0, 40, .inl x_high)), (qx 10, .inl (Y 1, 28672, .inr (.inl x_table))), (qx 11, .inl (Y 1, 7, .inr (.inl x_count))), (qx 12, .inl (Y 0, 144, .inl x_heavy))] s.heap := hP
  have hl := lv_entry ([.ref (qx 0), .int p1]) (n := 2) (Nat.le_of_ble_eq_true rfl)
  rw [lg_entry_eq]
  generalize (lg_sl ([.ref (qx 0), .int p1]) ++ List.replicate (2 - (lg_sl ([.ref (qx 0), .int p1])).length) Slot.unset).toArray = ls at hl ⊢
  have hl : lv_has ls 2 [(0, .ref (qx 0)), (1, .int p1)] := hl
  have E0 : ∀ (H : Heap) (locs : List Loc), va_P G vwCl [(qx 0, oX9 qx x_points x_lines x_tide x_isKept x_isMuch x_sum x_once x_twice x_isTermMuch x_nodes x_newMany x_isTooGreat x_come x_foundSet), (qx 4, .inl (Y 0, 40, .inl x_kind)), (qx 5, .inl (Y 0, 40, .inl x_figure)), (qx 6, .inl (Y 0, 40, .inl x_low)), (qx 7, .inl (Y 0, 40, .inl x_high)), (qx 10, .inl (Y 1, 28672, .inr (.inl x_table))), (qx 11, .inl (Y 1, 7, .inr (.inl x_count))), (qx 12, .inl (Y 0, 144, .inl x_heavy))] H → va_D A [(qx 0, oX9 qx x_points x_lines x_tide x_isKept x_isMuch x_sum x_once x_twice x_isTermMuch x_nodes x_newMany x_isTooGreat x_come x_foundSet), (qx 4, .inl (Y 0, 40, .inl x_kind)), (qx 5, .inl (Y 0, 40, .inl x_figure)), (qx 6, .inl (Y 0, 40, .inl x_low)), (qx 7, .inl (Y 0, 40, .inl x_high)), (qx 10, .inl (Y 1, 28672, .inr (.inl x_table))), (qx 11, .inl (Y 1, 7, .inr (.inl x_count))), (qx 12, .inl (Y 0, 144, .inl x_heavy))] → va_S A s.heap H locs → ∀ (ls : Array Slot), lv_has ls 2 [(0, .ref (qx 0)), (1, .int p1)] → W p l e (headSpec wsX9_findsCounts (rmk 3 73)).room s m [.ref (qx 0), .int p1].toArray below meth c H locs 0 0 (MQ below (va_Qv (fun (_ : Unit) => True) (Pst G (tys Y) [(qx 0, oX9 qx x_points x_lines x_tide x_isKept x_isMuch x_sum x_once x_twice x_isTermMuch x_nodes x_newMany x_isTooGreat x_come x_foundSet), (qx 4, .inl (Y 0, 40, .inl x_kind)), (qx 5, .inl (Y 0, 40, .inl x_figure)), (qx 6, .inl (Y 0, 40, .inl x_low)), (qx 7, .inl (Y 0, 40, .inl x_high)), (qx 10, .inl (Y 1, 28672, .inr (.inl x_table))), (qx 11, .inl (Y 1, 7, .inr (.inl x_count))), (qx 12, .inl (Y 0, 144, .inl x_heavy))] s.heap.size [(qx 0, oX9 qx x_points x_lines x_tide x_isKept o_x_isMuch x_sum x_once x_twice x_isTermMuch x_nodes x_newMany x_isTooGreat x_come x_foundSet), (qx 4, .inl (Y 0, 40, .inl x_kind)), (qx 5, .inl (Y 0, 40, .inl x_figure)), (qx 6, .inl (Y 0, 40, .inl x_low)), (qx 7, .inl (Y 0, 40, .inl x_high)), (qx 10, .inl (Y 1, 28672, .inr (.inl o_x_table))), (qx 11, .inl (Y 1, 7, .inr (.inl o_x_count))), (qx 12, .inl (Y 0, 144, .inl o_x_heavy))]) A) [.ref (qx 0), .int p1].toArray s 0 0 A) (F0 m 0 ls []) := by
    intro H locs hP hD hS ls hl
    unfold f_X9_findsCounts at hf
    refine lv_aload_n hx hb dX9_findsCounts_0 rfl (lv_at hl 0 rfl) ?_
    refine lv_iconst (v := 0) hx hb dX9_findsCounts_1 (by decide) ?_
    obtain ⟨w1, hc, hf⟩ := bd1 hf
    refine cl_v (ws' := [(qx 0, oX9 qx x_points x_lines x_tide x_isKept x_isMuch x_sum x_once x_twice x_isTermMuch x_nodes x_newMany x_isTooGreat x_come x_foundSet), (qx 4, .inl (Y 0, 40, .inl x_kind)), (qx 5, .inl (Y 0, 40, .inl x_figure)), (qx 6, .inl (Y 0, 40, .inl x_low)), (qx 7, .inl (Y 0, 40, .inl x_high)), (qx 10, .inl (Y 1, 28672, .inr (.inl x_table))), (qx 11, .inl (Y 1, 7, .inr (.inl x_count))), (qx 12, .inl (Y 0, 144, .inl w1))]) (wr := [(qx 10, .inl (Y 1, 28672, .inr (.inl x_table))), (qx 11, .inl (Y 1, 7, .inr (.inl x_count)))]) (rnV (As := [.int (0 : Int32)]) (rest := []) ⟨hx, hb, hml, hown, hts⟩ (c_X9_lays l G Y H.size qx x_points x_lines x_tide x_kind x_figure x_low x_high x_isKept x_heavy x_isMuch x_sum x_once x_twice x_isTermMuch x_nodes x_newMany x_isTooGreat x_come x_foundSet (0 : Int32) w1 hc) (cwV 1 hts gX9_findsCounts_X9_lays rfl rfl rfl (by decide +kernel) ⟨(Nat.le_of_ble_eq_true rfl), (Nat.le_of_ble_eq_true rfl)⟩) trivial okT hK hP hD [0, 1, 2, 3, 4, 7] rfl rfl (ci := 7) (q0 := 0) rfl rfl rfl rfl hl.1 rfl (Nat.le_of_ble_eq_true rfl) dX9_findsCounts_2) hP hD hS hA [0, 1, 2, 3, 4, 7] [5, 6] [2, 3, 4, 5, 6, 0, 1, 7] rfl rfl rfl (by decide) rfl rfl (fun H locs hP hD hS => ?_)
    refine lv_aload_n hx hb dX9_findsCounts_5 rfl (lv_at hl 0 rfl) ?_
    refine lv_aload_n hx hb dX9_findsCounts_6 rfl (lv_at hl 0 rfl) ?_
    refine lv_iload_n hx hb dX9_findsCounts_7 rfl (lv_at hl 1 rfl) ?_
    obtain ⟨r2, hc, hf⟩ := bd1 hf
    refine cl_i (ws' := [(qx 0, oX9 qx x_points x_lines x_tide x_isKept x_isMuch x_sum x_once x_twice x_isTermMuch x_nodes x_newMany x_isTooGreat x_come x_foundSet), (qx 4, .inl (Y 0, 40, .inl x_kind)), (qx 5, .inl (Y 0, 40, .inl x_figure)), (qx 6, .inl (Y 0, 40, .inl x_low)), (qx 7, .inl (Y 0, 40, .inl x_high)), (qx 10, .inl (Y 1, 28672, .inr (.inl x_table))), (qx 11, .inl (Y 1, 7, .inr (.inl x_count))), (qx 12, .inl (Y 0, 144, .inl w1))]) (wr := [(qx 4, .inl (Y 0, 40, .inl x_kind)), (qx 5, .inl (Y 0, 40, .inl x_figure)), (qx 6, .inl (Y 0, 40, .inl x_low)), (qx 7, .inl (Y 0, 40, .inl x_high)), (qx 10, .inl (Y 1, 28672, .inr (.inl x_table))), (qx 11, .inl (Y 1, 7, .inr (.inl x_count))), (qx 12, .inl (Y 0, 144, .inl w1))]) (rnV (As := [.int p1]) (rest := [.ref (qx 0)]) ⟨hx, hb, hml, hown, hts⟩ (c_X9_free l G Y H.size qx x_points x_lines x_tide x_isKept x_isMuch x_sum x_once x_twice x_isTermMuch x_nodes x_newMany x_isTooGreat x_come x_foundSet p1 r2 hc) (cwV 1 hts gX9_findsCounts_X9_free rfl rfl rfl (by decide +kernel) ⟨(Nat.le_of_ble_eq_true rfl), (Nat.le_of_ble_eq_true rfl)⟩) trivial okT hK hP hD [0] rfl rfl (ci := 7) (q0 := 0) rfl rfl rfl rfl hl.1 rfl (Nat.le_of_ble_eq_true rfl) dX9_findsCounts_8) hP hD hS hA [0] [1, 2, 3, 4, 5, 6, 7] [7, 0, 1, 2, 3, 4, 5, 6] rfl rfl rfl (by decide) rfl rfl (fun H locs hP hD hS => ?_)
    obtain ⟨w3, w4, w5, hc, hf⟩ := bd3 hf
    refine cl_v (ws' := [(qx 0, oX9 qx x_points x_lines x_tide x_isKept w5 x_sum x_once x_twice x_isTermMuch x_nodes x_newMany x_isTooGreat x_come x_foundSet), (qx 4, .inl (Y 0, 40, .inl x_kind)), (qx 5, .inl (Y 0, 40, .inl x_figure)), (qx 6, .inl (Y 0, 40, .inl x_low)), (qx 7, .inl (Y 0, 40, .inl x_high)), (qx 10, .inl (Y 1, 28672, .inr (.inl w3))), (qx 11, .inl (Y 1, 7, .inr (.inl w4))), (qx 12, .inl (Y 0, 144, .inl w1))]) (wr := [(qx 4, .inl (Y 0, 40, .inl x_kind)), (qx 5, .inl (Y 0, 40, .inl x_figure)), (qx 6, .inl (Y 0, 40, .inl x_low)), (qx 7, .inl (Y 0, 40, .inl x_high))]) (rnV (As := [.int r2]) (rest := []) ⟨hx, hb, hml, hown, hts⟩ (c_X9_countsBy l G Y H.size qx x_points x_lines x_tide x_isKept x_table x_count w1 x_isMuch x_sum x_once x_twice x_isTermMuch x_nodes x_newMany x_isTooGreat x_come x_foundSet r2 w3 w4 w5 hc) (cwV 1 hts gX9_findsCounts_X9_countsBy rfl rfl rfl (by decide +kernel) ⟨(Nat.le_of_ble_eq_true rfl), (Nat.le_of_ble_eq_true rfl)⟩) trivial okT hK hP hD [0, 5, 6, 7] rfl rfl (ci := 7) (q0 := 0) rfl rfl rfl rfl hl.1 rfl (Nat.le_of_ble_eq_true rfl) dX9_findsCounts_11) hP hD hS hA [0, 5, 6, 7] [1, 2, 3, 4] [4, 0, 1, 2, 3, 5, 6, 7] rfl rfl rfl (by decide) rfl rfl (fun H locs hP hD hS => ?_)
    obtain ⟨e0, e1, e2, e3⟩ := rt4 hf
    have hP : va_P G vwCl [(qx 0, oX9 qx x_points x_lines x_tide x_isKept o_x_isMuch x_sum x_once x_twice x_isTermMuch x_nodes x_newMany x_isTooGreat x_come x_foundSet), (qx 4, .inl (Y 0, 40, .inl x_kind)), (qx 5, .inl (Y 0, 40, .inl x_figure)), (qx 6, .inl (Y 0, 40, .inl x_low)), (qx 7, .inl (Y 0, 40, .inl x_high)), (qx 10, .inl (Y 1, 28672, .inr (.inl o_x_table))), (qx 11, .inl (Y 1, 7, .inr (.inl o_x_count))), (qx 12, .inl (Y 0, 144, .inl o_x_heavy))] H := by rw [← e0, ← e1, ← e2, ← e3]; exact hP
    have hD : va_D A [(qx 0, oX9 qx x_points x_lines x_tide x_isKept o_x_isMuch x_sum x_once x_twice x_isTermMuch x_nodes x_newMany x_isTooGreat x_come x_foundSet), (qx 4, .inl (Y 0, 40, .inl x_kind)), (qx 5, .inl (Y 0, 40, .inl x_figure)), (qx 6, .inl (Y 0, 40, .inl x_low)), (qx 7, .inl (Y 0, 40, .inl x_high)), (qx 10, .inl (Y 1, 28672, .inr (.inl o_x_table))), (qx 11, .inl (Y 1, 7, .inr (.inl o_x_count))), (qx 12, .inl (Y 0, 144, .inl o_x_heavy))] := by rw [← e0, ← e1, ← e2, ← e3]; exact hD
    exact W.vret hx hb hr (fun t ht hW => ⟨⟨(), rfl, trivial, by rw [ht]; exact hP, va_K.moved hW.alike hK, by rw [hAe]; exact hD⟩, hS.F ht⟩) hS.2.2 dX9_findsCounts_14
  exact E0 s.heap [] hP hD hS ls hl
-- X9_counts
set_option maxRecDepth 100000 in
set_option maxHeartbeats 4000000 in
theorem c_X9_counts (l : Launch) (G : va_G) (Y : Nat → ClassId) (sz : Nat) (qx : Nat → Nat) (x_points : Int32) (x_lines : Int32) (x_tide : Int32) (x_kind : Nat → Int32) (x_figure : Nat → Int32) (x_low : Nat → Int32) (x_high : Nat → Int32) (x_isKept : Int32) (x_table : Nat → Int64) (x_count : Nat → Int64) (x_heavy : Nat → Int32) (x_isMuch : Int32) (x_sum : Int64) (x_once : Int64) (x_twice : Int64) (x_isTermMuch : Int32) (x_nodes : Int32) (x_newMany : Int32) (x_isTooGreat : Int32) (x_come : Int32) (x_foundSet : Int64) (p1 : Int32) (p2 : Int32) (rv : Int64) (o_x_table : Nat → Int64) (o_x_count : Nat → Int64) (o_x_heavy : Nat → Int32) (o_x_isMuch : Int32) (hf : f_X9_counts x_points x_lines x_tide x_kind x_figure x_low x_high x_table x_count x_heavy x_isMuch p1 p2 = some (rv, o_x_table, o_x_count, o_x_heavy, o_x_isMuch)) : Met l yX9_counts wsX9_counts (rmk 4 94) (va_Pc [.ref (qx 0), .int p1, .int p2] (Pre G (tys Y) [(qx 0, oX9 qx x_points x_lines x_tide x_isKept x_isMuch x_sum x_once x_twice x_isTermMuch x_nodes x_newMany x_isTooGreat x_come x_foundSet), (qx 4, .inl (Y 0, 40, .inl x_kind)), (qx 5, .inl (Y 0, 40, .inl x_figure)), (qx 6, .inl (Y 0, 40, .inl x_low)), (qx 7, .inl (Y 0, 40, .inl x_high)), (qx 10, .inl (Y 1, 28672, .inr (.inl x_table))), (qx 11, .inl (Y 1, 7, .inr (.inl x_count))), (qx 12, .inl (Y 0, 144, .inl x_heavy))] sz xT)) (va_Ql (fun (r : Int64) (_ : Unit) => r = rv) (Pst G (tys Y) [(qx 0, oX9 qx x_points x_lines x_tide x_isKept x_isMuch x_sum x_once x_twice x_isTermMuch x_nodes x_newMany x_isTooGreat x_come x_foundSet), (qx 4, .inl (Y 0, 40, .inl x_kind)), (qx 5, .inl (Y 0, 40, .inl x_figure)), (qx 6, .inl (Y 0, 40, .inl x_low)), (qx 7, .inl (Y 0, 40, .inl x_high)), (qx 10, .inl (Y 1, 28672, .inr (.inl x_table))), (qx 11, .inl (Y 1, 7, .inr (.inl x_count))), (qx 12, .inl (Y 0, 144, .inl x_heavy))] sz [(qx 0, oX9 qx x_points x_lines x_tide x_isKept o_x_isMuch x_sum x_once x_twice x_isTermMuch x_nodes x_newMany x_isTooGreat x_come x_foundSet), (qx 4, .inl (Y 0, 40, .inl x_kind)), (qx 5, .inl (Y 0, 40, .inl x_figure)), (qx 6, .inl (Y 0, 40, .inl x_low)), (qx 7, .inl (Y 0, 40, .inl x_high)), (qx 10, .inl (Y 1, 28672, .inr (.inl o_x_table))), (qx 11, .inl (Y 1, 7, .inr (.inl o_x_count))), (qx 12, .inl (Y 0, 144, .inl o_x_heavy))]) (va_A [(qx 0, oX9 qx x_points x_lines x_tide x_isKept x_isMuch x_sum x_once x_twice x_isTermMuch x_nodes x_newMany x_isTooGreat x_come x_foundSet), (qx 4, .inl (Y 0, 40, .inl x_kind)), (qx 5, .inl (Y 0, 40, .inl x_figure)), (qx 6, .inl (Y 0, 40, .inl x_low)), (qx 7, .inl (Y 0, 40, .inl x_high)), (qx 10, .inl (Y 1, 28672, .inr (.inl x_table))), (qx 11, .inl (Y 1, 7, .inr (.inl x_count))), (qx 12, .inl (Y 0, 144, .inl x_heavy))] sz)) 0 0 (va_A [(qx 0, oX9 qx x_points x_lines x_tide x_isKept x_isMuch x_sum x_once x_twice x_isTermMuch x_nodes x_newMany x_isTooGreat x_come x_foundSet), (qx 4, .inl (Y 0, 40, .inl x_kind)), (qx 5, .inl (Y 0, 40, .inl x_figure)), (qx 6, .inl (Y 0, 40, .inl x_low)), (qx 7, .inl (Y 0, 40, .inl x_high)), (qx 10, .inl (Y 1, 28672, .inr (.inl x_table))), (qx 11, .inl (Y 1, 7, .inr (.inl x_count))), (qx 12, .inl (Y 0, 144, .inl x_heavy))] sz) := by
  refine Met.ofW (cc := cX9_counts) (maxL := 3) (ret := (some .long)) (by decide) rfl ?_
  intro p e s m args below meth c s₁ B hml hv
  obtain ⟨rfl, hsz, hP, hK, hD0, hX⟩ := hv
  have hx := B.exec
  have hb := B.bytes
  have hr := B.returns
  have hts := atoms_spec (ws := wsX9_counts) B.pre
  have hown : s.vm.findClass RX9 = some m.cls := findClass_of_methodNamed B.named
  have hlocks := B.notSynchronized
  subst hsz
  have hD := hD0.self (sz := s.heap.size)
  generalize hAe : va_A [(qx 0, oX9 qx x_points x_lines x_tide x_isKept x_isMuch x_sum x_once x_twice x_isTermMuch x_nodes x_newMany x_isTooGreat x_come x_foundSet), (qx 4, .inl (Y 0, 40, .inl x_kind)), (qx 5, .inl (Y 0, 40, .inl x_figure)), (qx 6, .inl (Y 0, 40, .inl x_low)), (qx 7, .inl (Y 0, 40, .inl x_high)), (qx 10, .inl (Y 1, 28672, .inr (.inl x_table))), (qx 11, .inl (Y 1, 7, .inr (.inl x_count))), (qx 12, .inl (Y 0, 144, .inl x_heavy))] s.heap.size = A at hD ⊢
  have hA : ∀ q : Nat, s.heap.size ≤ q → A q := fun q h => by rw [← hAe]; exact Or.inr h
  have hS : va_S A s.heap s.heap [] := va_S.rf
  have hP : va_P G vwCl [(qx 0, oX9 qx x_points x_lines x_tide x_isKept x_isMuch x_sum x_once x_twice x_isTermMuch x_nodes x_newMany x_isTooGreat x_come x_foundSet), (qx 4, .inl (Y 0, 40, .inl x_kind)), (qx 5, .inl (Y 0, 40, .inl x_figure)), (qx 6, .inl (Y 0, 40, .inl x_low)), (qx 7, .inl (Y 0, 40, .inl x_high)), (qx 10, .inl (Y 1, 28672, .inr (.inl x_table))), (qx 11, .inl (Y 1, 7, .inr (.inl x_count))), (qx 12, .inl (Y 0, 144, .inl x_heavy))] s.heap := hP
  have wd1 : (Cond.constantLong RX9 172 (6)).before [.ref (qx 0), .int p1, .int p2].toArray s = true := hts _ (List.mem_of_getElem? (i := 1) rfl)
  have wd2 : (Cond.fieldLink RX9 148 "PairedLinesModel" "isMuch" "Z").before [.ref (qx 0), .int p1, .int p2].toArray s = true := hts _ (List.mem_of_getElem? (i := 2) rfl)
  have wd3 : (Cond.fieldLink RX9 29 "PairedLinesModel" "count" "[J").before [.ref (qx 0), .int p1, .int p2].toArray s = true := hts _ (List.mem_of_getElem? (i := 3) rfl)
  have inX9w : ∀ w ∈ u_ws RX9 TX9 37, w ∈ wsX9_counts := fun w hw => List.mem_cons_of_mem _ (List.mem_append_right _ (hw))
  have hl := lv_entry ([.ref (qx 0), .int p1, .int p2]) (n := 3) (Nat.le_of_ble_eq_true rfl)
  rw [lg_entry_eq]
  generalize (lg_sl ([.ref (qx 0), .int p1, .int p2]) ++ List.replicate (3 - (lg_sl ([.ref (qx 0), .int p1, .int p2])).length) Slot.unset).toArray = ls at hl ⊢
  have hl : lv_has ls 3 [(0, .ref (qx 0)), (1, .int p1), (2, .int p2)] := hl
  have E0 : ∀ (H : Heap) (locs : List Loc), va_P G vwCl [(qx 0, oX9 qx x_points x_lines x_tide x_isKept x_isMuch x_sum x_once x_twice x_isTermMuch x_nodes x_newMany x_isTooGreat x_come x_foundSet), (qx 4, .inl (Y 0, 40, .inl x_kind)), (qx 5, .inl (Y 0, 40, .inl x_figure)), (qx 6, .inl (Y 0, 40, .inl x_low)), (qx 7, .inl (Y 0, 40, .inl x_high)), (qx 10, .inl (Y 1, 28672, .inr (.inl x_table))), (qx 11, .inl (Y 1, 7, .inr (.inl x_count))), (qx 12, .inl (Y 0, 144, .inl x_heavy))] H → va_D A [(qx 0, oX9 qx x_points x_lines x_tide x_isKept x_isMuch x_sum x_once x_twice x_isTermMuch x_nodes x_newMany x_isTooGreat x_come x_foundSet), (qx 4, .inl (Y 0, 40, .inl x_kind)), (qx 5, .inl (Y 0, 40, .inl x_figure)), (qx 6, .inl (Y 0, 40, .inl x_low)), (qx 7, .inl (Y 0, 40, .inl x_high)), (qx 10, .inl (Y 1, 28672, .inr (.inl x_table))), (qx 11, .inl (Y 1, 7, .inr (.inl x_count))), (qx 12, .inl (Y 0, 144, .inl x_heavy))] → va_S A s.heap H locs → ∀ (ls : Array Slot), lv_has ls 3 [(0, .ref (qx 0)), (1, .int p1), (2, .int p2)] → W p l e (headSpec wsX9_counts (rmk 4 94)).room s m [.ref (qx 0), .int p1, .int p2].toArray below meth c H locs 0 0 (MQ below (va_Ql (fun (r : Int64) (_ : Unit) => r = rv) (Pst G (tys Y) [(qx 0, oX9 qx x_points x_lines x_tide x_isKept x_isMuch x_sum x_once x_twice x_isTermMuch x_nodes x_newMany x_isTooGreat x_come x_foundSet), (qx 4, .inl (Y 0, 40, .inl x_kind)), (qx 5, .inl (Y 0, 40, .inl x_figure)), (qx 6, .inl (Y 0, 40, .inl x_low)), (qx 7, .inl (Y 0, 40, .inl x_high)), (qx 10, .inl (Y 1, 28672, .inr (.inl x_table))), (qx 11, .inl (Y 1, 7, .inr (.inl x_count))), (qx 12, .inl (Y 0, 144, .inl x_heavy))] s.heap.size [(qx 0, oX9 qx x_points x_lines x_tide x_isKept o_x_isMuch x_sum x_once x_twice x_isTermMuch x_nodes x_newMany x_isTooGreat x_come x_foundSet), (qx 4, .inl (Y 0, 40, .inl x_kind)), (qx 5, .inl (Y 0, 40, .inl x_figure)), (qx 6, .inl (Y 0, 40, .inl x_low)), (qx 7, .inl (Y 0, 40, .inl x_high)), (qx 10, .inl (Y 1, 28672, .inr (.inl o_x_table))), (qx 11, .inl (Y 1, 7, .inr (.inl o_x_count))), (qx 12, .inl (Y 0, 144, .inl o_x_heavy))]) A) [.ref (qx 0), .int p1, .int p2].toArray s 0 0 A) (F0 m 0 ls []) := by
    intro H locs hP hD hS ls hl
    unfold f_X9_counts at hf
    refine lv_iload_n hx hb dX9_counts_0 rfl (lv_at hl 1 rfl) ?_
    obtain ⟨r1, hc, hf⟩ := bd1 hf
    refine cl_i (ws' := [(qx 0, oX9 qx x_points x_lines x_tide x_isKept x_isMuch x_sum x_once x_twice x_isTermMuch x_nodes x_newMany x_isTooGreat x_come x_foundSet), (qx 4, .inl (Y 0, 40, .inl x_kind)), (qx 5, .inl (Y 0, 40, .inl x_figure)), (qx 6, .inl (Y 0, 40, .inl x_low)), (qx 7, .inl (Y 0, 40, .inl x_high)), (qx 10, .inl (Y 1, 28672, .inr (.inl x_table))), (qx 11, .inl (Y 1, 7, .inr (.inl x_count))), (qx 12, .inl (Y 0, 144, .inl x_heavy))]) (wr := [(qx 0, oX9 qx x_points x_lines x_tide x_isKept x_isMuch x_sum x_once x_twice x_isTermMuch x_nodes x_newMany x_isTooGreat x_come x_foundSet), (qx 4, .inl (Y 0, 40, .inl x_kind)), (qx 5, .inl (Y 0, 40, .inl x_figure)), (qx 6, .inl (Y 0, 40, .inl x_low)), (qx 7, .inl (Y 0, 40, .inl x_high)), (qx 10, .inl (Y 1, 28672, .inr (.inl x_table))), (qx 11, .inl (Y 1, 7, .inr (.inl x_count))), (qx 12, .inl (Y 0, 144, .inl x_heavy))]) (rnS (As := [.int p1]) (rest := []) ⟨hx, hb, hml, hown, hts⟩ (c_X9_isOut l G Y H.size p1 r1 hc) (va_cwS 1 hts gX9_counts_X9_isOut rfl rfl rfl (by decide +kernel) ⟨(Nat.le_of_ble_eq_true rfl), (Nat.le_of_ble_eq_true rfl)⟩) trivial okT hK hP hD [] rfl rfl rfl hl.1 rfl (Nat.le_of_ble_eq_true rfl) dX9_counts_1) hP hD hS hA [] [0, 1, 2, 3, 4, 5, 6, 7] [0, 1, 2, 3, 4, 5, 6, 7] rfl rfl rfl (by decide) rfl rfl (fun H locs hP hD hS => ?_)
    refine lv_if_eq (tgt := 19) hx hb dX9_counts_4 (by decide) (fun c2 => ?_) (fun c2 => ?_)
    · have hf := it hf c2
      refine lv_bipush (v := -2) hx hb dX9_counts_19 (by decide) ?_
      obtain ⟨r3, hc, hf⟩ := bd1 hf
      refine cl_l (ws' := [(qx 0, oX9 qx x_points x_lines x_tide x_isKept x_isMuch x_sum x_once x_twice x_isTermMuch x_nodes x_newMany x_isTooGreat x_come x_foundSet), (qx 4, .inl (Y 0, 40, .inl x_kind)), (qx 5, .inl (Y 0, 40, .inl x_figure)), (qx 6, .inl (Y 0, 40, .inl x_low)), (qx 7, .inl (Y 0, 40, .inl x_high)), (qx 10, .inl (Y 1, 28672, .inr (.inl x_table))), (qx 11, .inl (Y 1, 7, .inr (.inl x_count))), (qx 12, .inl (Y 0, 144, .inl x_heavy))]) (wr := [(qx 0, oX9 qx x_points x_lines x_tide x_isKept x_isMuch x_sum x_once x_twice x_isTermMuch x_nodes x_newMany x_isTooGreat x_come x_foundSet), (qx 4, .inl (Y 0, 40, .inl x_kind)), (qx 5, .inl (Y 0, 40, .inl x_figure)), (qx 6, .inl (Y 0, 40, .inl x_low)), (qx 7, .inl (Y 0, 40, .inl x_high)), (qx 10, .inl (Y 1, 28672, .inr (.inl x_table))), (qx 11, .inl (Y 1, 7, .inr (.inl x_count))), (qx 12, .inl (Y 0, 144, .inl x_heavy))]) (rnS (As := [.int (-2 : Int32)]) (rest := []) ⟨hx, hb, hml, hown, hts⟩ (c_X9_told l G Y H.size (-2 : Int32) r3 hc) (va_cwS 1 hts gX9_counts_X9_told rfl rfl rfl (by decide +kernel) ⟨(Nat.le_of_ble_eq_true rfl), (Nat.le_of_ble_eq_true rfl)⟩) trivial okT hK hP hD [] rfl rfl rfl hl.1 rfl (Nat.le_of_ble_eq_true rfl) dX9_counts_21) hP hD hS hA [] [0, 1, 2, 3, 4, 5, 6, 7] [0, 1, 2, 3, 4, 5, 6, 7] rfl rfl rfl (by decide) rfl rfl (fun H locs hP hD hS => ?_)
      obtain ⟨e0, e1, e2, e3, e4⟩ := rt5 hf
      have hP : va_P G vwCl [(qx 0, oX9 qx x_points x_lines x_tide x_isKept o_x_isMuch x_sum x_once x_twice x_isTermMuch x_nodes x_newMany x_isTooGreat x_come x_foundSet), (qx 4, .inl (Y 0, 40, .inl x_kind)), (qx 5, .inl (Y 0, 40, .inl x_figure)), (qx 6, .inl (Y 0, 40, .inl x_low)), (qx 7, .inl (Y 0, 40, .inl x_high)), (qx 10, .inl (Y 1, 28672, .inr (.inl o_x_table))), (qx 11, .inl (Y 1, 7, .inr (.inl o_x_count))), (qx 12, .inl (Y 0, 144, .inl o_x_heavy))] H := by rw [← e1, ← e2, ← e3, ← e4]; exact hP
      have hD : va_D A [(qx 0, oX9 qx x_points x_lines x_tide x_isKept o_x_isMuch x_sum x_once x_twice x_isTermMuch x_nodes x_newMany x_isTooGreat x_come x_foundSet), (qx 4, .inl (Y 0, 40, .inl x_kind)), (qx 5, .inl (Y 0, 40, .inl x_figure)), (qx 6, .inl (Y 0, 40, .inl x_low)), (qx 7, .inl (Y 0, 40, .inl x_high)), (qx 10, .inl (Y 1, 28672, .inr (.inl o_x_table))), (qx 11, .inl (Y 1, 7, .inr (.inl o_x_count))), (qx 12, .inl (Y 0, 144, .inl o_x_heavy))] := by rw [← e1, ← e2, ← e3, ← e4]; exact hD
      exact W.lret (v := r3) hx hb hr (fun t ht hW => ⟨⟨r3, (), rfl, e0, by rw [ht]; exact hP, va_K.moved hW.alike hK, by rw [hAe]; exact hD⟩, hS.F ht⟩) hS.2.2 dX9_counts_24
    · have hf := ie hf c2
      refine lv_iload_n hx hb dX9_counts_7 rfl (lv_at hl 2 rfl) ?_
      refine lv_i2l hx hb dX9_counts_8 rfl ?_
      refine lv_lconst (v := 0) hx hb dX9_counts_9 (by decide) ?_
      refine lv_ldc2 hx hb hown wd1 dX9_counts_10 ?_
      obtain ⟨r4, hc, hf⟩ := bd1 hf
      refine cl_i (ws' := [(qx 0, oX9 qx x_points x_lines x_tide x_isKept x_isMuch x_sum x_once x_twice x_isTermMuch x_nodes x_newMany x_isTooGreat x_come x_foundSet), (qx 4, .inl (Y 0, 40, .inl x_kind)), (qx 5, .inl (Y 0, 40, .inl x_figure)), (qx 6, .inl (Y 0, 40, .inl x_low)), (qx 7, .inl (Y 0, 40, .inl x_high)), (qx 10, .inl (Y 1, 28672, .inr (.inl x_table))), (qx 11, .inl (Y 1, 7, .inr (.inl x_count))), (qx 12, .inl (Y 0, 144, .inl x_heavy))]) (wr := [(qx 0, oX9 qx x_points x_lines x_tide x_isKept x_isMuch x_sum x_once x_twice x_isTermMuch x_nodes x_newMany x_isTooGreat x_come x_foundSet), (qx 4, .inl (Y 0, 40, .inl x_kind)), (qx 5, .inl (Y 0, 40, .inl x_figure)), (qx 6, .inl (Y 0, 40, .inl x_low)), (qx 7, .inl (Y 0, 40, .inl x_high)), (qx 10, .inl (Y 1, 28672, .inr (.inl x_table))), (qx 11, .inl (Y 1, 7, .inr (.inl x_count))), (qx 12, .inl (Y 0, 144, .inl x_heavy))]) (rnS (As := [.long p2.toInt64, .long (0 : Int64), .long (6 : Int64)]) (rest := []) ⟨hx, hb, hml, hown, hts⟩ (c_X9_in l G Y H.size p2.toInt64 (0 : Int64) (6 : Int64) r4 hc) (va_cwS 3 hts gX9_counts_X9_in rfl rfl rfl (by decide +kernel) ⟨(Nat.le_of_ble_eq_true rfl), (Nat.le_of_ble_eq_true rfl)⟩) trivial okT hK hP hD [] rfl rfl rfl hl.1 rfl (Nat.le_of_ble_eq_true rfl) dX9_counts_13) hP hD hS hA [] [0, 1, 2, 3, 4, 5, 6, 7] [0, 1, 2, 3, 4, 5, 6, 7] rfl rfl rfl (by decide) rfl rfl (fun H locs hP hD hS => ?_)
      refine lv_if_ne (tgt := 25) hx hb dX9_counts_16 (by decide) (fun c5 => ?_) (fun c5 => ?_)
      · have hf := ie hf c5
        refine lv_aload_n hx hb dX9_counts_25 rfl (lv_at hl 0 rfl) ?_
        refine lv_iload_n hx hb dX9_counts_26 rfl (lv_at hl 1 rfl) ?_
        obtain ⟨w6, w7, w8, w9, hc, hf⟩ := bd4 hf
        refine cl_v (ws' := [(qx 0, oX9 qx x_points x_lines x_tide x_isKept w9 x_sum x_once x_twice x_isTermMuch x_nodes x_newMany x_isTooGreat x_come x_foundSet), (qx 4, .inl (Y 0, 40, .inl x_kind)), (qx 5, .inl (Y 0, 40, .inl x_figure)), (qx 6, .inl (Y 0, 40, .inl x_low)), (qx 7, .inl (Y 0, 40, .inl x_high)), (qx 10, .inl (Y 1, 28672, .inr (.inl w6))), (qx 11, .inl (Y 1, 7, .inr (.inl w7))), (qx 12, .inl (Y 0, 144, .inl w8))]) (wr := []) (rnV (As := [.int p1]) (rest := []) ⟨hx, hb, hml, hown, hts⟩ (c_X9_findsCounts l G Y H.size qx x_points x_lines x_tide x_kind x_figure x_low x_high x_isKept x_table x_count x_heavy x_isMuch x_sum x_once x_twice x_isTermMuch x_nodes x_newMany x_isTooGreat x_come x_foundSet p1 w6 w7 w8 w9 hc) (cwV 1 hts gX9_counts_X9_findsCounts rfl rfl rfl (by decide +kernel) ⟨(Nat.le_of_ble_eq_true rfl), (Nat.le_of_ble_eq_true rfl)⟩) trivial okT hK hP hD [0, 1, 2, 3, 4, 5, 6, 7] rfl rfl (ci := 7) (q0 := 0) rfl rfl rfl rfl hl.1 rfl (Nat.le_of_ble_eq_true rfl) dX9_counts_27) hP hD hS hA [0, 1, 2, 3, 4, 5, 6, 7] [] [0, 1, 2, 3, 4, 5, 6, 7] rfl rfl rfl (by decide) rfl rfl (fun H locs hP hD hS => ?_)
        refine lv_aload_n hx hb dX9_counts_30 rfl (lv_at hl 0 rfl) ?_
        refine va_get (D := G) (ci := 7) (v := .int w9) (C := RX9) (T := TX9) (N := 37) hx hb hts inX9w hown hK hP 0 rfl rfl 12 (by decide) wd2 (fun _ h9 => h9) rfl dX9_counts_31 ?_
        refine lv_if_eq (tgt := 45) hx hb dX9_counts_34 (by decide) (fun c10 => ?_) (fun c10 => ?_)
        · have hf := it hf c10
          refine lv_aload_n hx hb dX9_counts_45 rfl (lv_at hl 0 rfl) ?_
          refine va_get (D := G) (ci := 7) (v := .ref (qx 11)) (C := RX9) (T := TX9) (N := 37) hx hb hts inX9w hown hK hP 0 rfl rfl 10 (by decide) wd3 (fun _ h9 => h9) rfl dX9_counts_46 ?_
          refine lv_iload_n hx hb dX9_counts_49 rfl (lv_at hl 2 rfl) ?_
          obtain ⟨g11, hf⟩ := gd hf
          refine va_lald hx hb hK hP 6 1 rfl rfl g11 dX9_counts_50 ?_
          obtain ⟨e0, e1, e2, e3, e4⟩ := rt5 hf
          have hP : va_P G vwCl [(qx 0, oX9 qx x_points x_lines x_tide x_isKept o_x_isMuch x_sum x_once x_twice x_isTermMuch x_nodes x_newMany x_isTooGreat x_come x_foundSet), (qx 4, .inl (Y 0, 40, .inl x_kind)), (qx 5, .inl (Y 0, 40, .inl x_figure)), (qx 6, .inl (Y 0, 40, .inl x_low)), (qx 7, .inl (Y 0, 40, .inl x_high)), (qx 10, .inl (Y 1, 28672, .inr (.inl o_x_table))), (qx 11, .inl (Y 1, 7, .inr (.inl o_x_count))), (qx 12, .inl (Y 0, 144, .inl o_x_heavy))] H := by rw [← e1, ← e2, ← e3, ← e4]; exact hP
          have hD : va_D A [(qx 0, oX9 qx x_points x_lines x_tide x_isKept o_x_isMuch x_sum x_once x_twice x_isTermMuch x_nodes x_newMany x_isTooGreat x_come x_foundSet), (qx 4, .inl (Y 0, 40, .inl x_kind)), (qx 5, .inl (Y 0, 40, .inl x_figure)), (qx 6, .inl (Y 0, 40, .inl x_low)), (qx 7, .inl (Y 0, 40, .inl x_high)), (qx 10, .inl (Y 1, 28672, .inr (.inl o_x_table))), (qx 11, .inl (Y 1, 7, .inr (.inl o_x_count))), (qx 12, .inl (Y 0, 144, .inl o_x_heavy))] := by rw [← e1, ← e2, ← e3, ← e4]; exact hD
          exact W.lret (v := (w7 p2.toNatClampNeg)) hx hb hr (fun t ht hW => ⟨⟨(w7 p2.toNatClampNeg), (), rfl, e0, by rw [ht]; exact hP, va_K.moved hW.alike hK, by rw [hAe]; exact hD⟩, hS.F ht⟩) hS.2.2 dX9_counts_51
        · have hf := ie hf c10
          refine lv_bipush (v := -5) hx hb dX9_counts_37 (by decide) ?_
          obtain ⟨r12, hc, hf⟩ := bd1 hf
          refine cl_l (ws' := [(qx 0, oX9 qx x_points x_lines x_tide x_isKept w9 x_sum x_once x_twice x_isTermMuch x_nodes x_newMany x_isTooGreat x_come x_foundSet), (qx 4, .inl (Y 0, 40, .inl x_kind)), (qx 5, .inl (Y 0, 40, .inl x_figure)), (qx 6, .inl (Y 0, 40, .inl x_low)), (qx 7, .inl (Y 0, 40, .inl x_high)), (qx 10, .inl (Y 1, 28672, .inr (.inl w6))), (qx 11, .inl (Y 1, 7, .inr (.inl w7))), (qx 12, .inl (Y 0, 144, .inl w8))]) (wr := [(qx 0, oX9 qx x_points x_lines x_tide x_isKept w9 x_sum x_once x_twice x_isTermMuch x_nodes x_newMany x_isTooGreat x_come x_foundSet), (qx 4, .inl (Y 0, 40, .inl x_kind)), (qx 5, .inl (Y 0, 40, .inl x_figure)), (qx 6, .inl (Y 0, 40, .inl x_low)), (qx 7, .inl (Y 0, 40, .inl x_high)), (qx 10, .inl (Y 1, 28672, .inr (.inl w6))), (qx 11, .inl (Y 1, 7, .inr (.inl w7))), (qx 12, .inl (Y 0, 144, .inl w8))]) (rnS (As := [.int (-5 : Int32)]) (rest := []) ⟨hx, hb, hml, hown, hts⟩ (c_X9_told l G Y H.size (-5 : Int32) r12 hc) (va_cwS 1 hts gX9_counts_X9_told rfl rfl rfl (by decide +kernel) ⟨(Nat.le_of_ble_eq_true rfl), (Nat.le_of_ble_eq_true rfl)⟩) trivial okT hK hP hD [] rfl rfl rfl hl.1 rfl (Nat.le_of_ble_eq_true rfl) dX9_counts_39) hP hD hS hA [] [0, 1, 2, 3, 4, 5, 6, 7] [0, 1, 2, 3, 4, 5, 6, 7] rfl rfl rfl (by decide) rfl rfl (fun H locs hP hD hS => ?_)
          refine lv_goto (tgt := 51) hx hb dX9_counts_42 (by decide) ?_
          obtain ⟨e0, e1, e2, e3, e4⟩ := rt5 hf
          have hP : va_P G vwCl [(qx 0, oX9 qx x_points x_lines x_tide x_isKept o_x_isMuch x_sum x_once x_twice x_isTermMuch x_nodes x_newMany x_isTooGreat x_come x_foundSet), (qx 4, .inl (Y 0, 40, .inl x_kind)), (qx 5, .inl (Y 0, 40, .inl x_figure)), (qx 6, .inl (Y 0, 40, .inl x_low)), (qx 7, .inl (Y 0, 40, .inl x_high)), (qx 10, .inl (Y 1, 28672, .inr (.inl o_x_table))), (qx 11, .inl (Y 1, 7, .inr (.inl o_x_count))), (qx 12, .inl (Y 0, 144, .inl o_x_heavy))] H := by rw [← e1, ← e2, ← e3, ← e4]; exact hP
          have hD : va_D A [(qx 0, oX9 qx x_points x_lines x_tide x_isKept o_x_isMuch x_sum x_once x_twice x_isTermMuch x_nodes x_newMany x_isTooGreat x_come x_foundSet), (qx 4, .inl (Y 0, 40, .inl x_kind)), (qx 5, .inl (Y 0, 40, .inl x_figure)), (qx 6, .inl (Y 0, 40, .inl x_low)), (qx 7, .inl (Y 0, 40, .inl x_high)), (qx 10, .inl (Y 1, 28672, .inr (.inl o_x_table))), (qx 11, .inl (Y 1, 7, .inr (.inl o_x_count))), (qx 12, .inl (Y 0, 144, .inl o_x_heavy))] := by rw [← e1, ← e2, ← e3, ← e4]; exact hD
          exact W.lret (v := r12) hx hb hr (fun t ht hW => ⟨⟨r12, (), rfl, e0, by rw [ht]; exact hP, va_K.moved hW.alike hK, by rw [hAe]; exact hD⟩, hS.F ht⟩) hS.2.2 dX9_counts_51
      · have hf := it hf c5
        refine lv_bipush (v := -2) hx hb dX9_counts_19 (by decide) ?_
        obtain ⟨r13, hc, hf⟩ := bd1 hf
        refine cl_l (ws' := [(qx 0, oX9 qx x_points x_lines x_tide x_isKept x_isMuch x_sum x_once x_twice x_isTermMuch x_nodes x_newMany x_isTooGreat x_come x_foundSet), (qx 4, .inl (Y 0, 40, .inl x_kind)), (qx 5, .inl (Y 0, 40, .inl x_figure)), (qx 6, .inl (Y 0, 40, .inl x_low)), (qx 7, .inl (Y 0, 40, .inl x_high)), (qx 10, .inl (Y 1, 28672, .inr (.inl x_table))), (qx 11, .inl (Y 1, 7, .inr (.inl x_count))), (qx 12, .inl (Y 0, 144, .inl x_heavy))]) (wr := [(qx 0, oX9 qx x_points x_lines x_tide x_isKept x_isMuch x_sum x_once x_twice x_isTermMuch x_nodes x_newMany x_isTooGreat x_come x_foundSet), (qx 4, .inl (Y 0, 40, .inl x_kind)), (qx 5, .inl (Y 0, 40, .inl x_figure)), (qx 6, .inl (Y 0, 40, .inl x_low)), (qx 7, .inl (Y 0, 40, .inl x_high)), (qx 10, .inl (Y 1, 28672, .inr (.inl x_table))), (qx 11, .inl (Y 1, 7, .inr (.inl x_count))), (qx 12, .inl (Y 0, 144, .inl x_heavy))]) (rnS (As := [.int (-2 : Int32)]) (rest := []) ⟨hx, hb, hml, hown, hts⟩ (c_X9_told l G Y H.size (-2 : Int32) r13 hc) (va_cwS 1 hts gX9_counts_X9_told rfl rfl rfl (by decide +kernel) ⟨(Nat.le_of_ble_eq_true rfl), (Nat.le_of_ble_eq_true rfl)⟩) trivial okT hK hP hD [] rfl rfl rfl hl.1 rfl (Nat.le_of_ble_eq_true rfl) dX9_counts_21) hP hD hS hA [] [0, 1, 2, 3, 4, 5, 6, 7] [0, 1, 2, 3, 4, 5, 6, 7] rfl rfl rfl (by decide) rfl rfl (fun H locs hP hD hS => ?_)
        obtain ⟨e0, e1, e2, e3, e4⟩ := rt5 hf
        have hP : va_P G vwCl [(qx 0, oX9 qx x_points x_lines x_tide x_isKept o_x_isMuch x_sum x_once x_twice x_isTermMuch x_nodes x_newMany x_isTooGreat x_come x_foundSet), (qx 4, .inl (Y 0, 40, .inl x_kind)), (qx 5, .inl (Y 0, 40, .inl x_figure)), (qx 6, .inl (Y 0, 40, .inl x_low)), (qx 7, .inl (Y 0, 40, .inl x_high)), (qx 10, .inl (Y 1, 28672, .inr (.inl o_x_table))), (qx 11, .inl (Y 1, 7, .inr (.inl o_x_count))), (qx 12, .inl (Y 0, 144, .inl o_x_heavy))] H := by rw [← e1, ← e2, ← e3, ← e4]; exact hP
        have hD : va_D A [(qx 0, oX9 qx x_points x_lines x_tide x_isKept o_x_isMuch x_sum x_once x_twice x_isTermMuch x_nodes x_newMany x_isTooGreat x_come x_foundSet), (qx 4, .inl (Y 0, 40, .inl x_kind)), (qx 5, .inl (Y 0, 40, .inl x_figure)), (qx 6, .inl (Y 0, 40, .inl x_low)), (qx 7, .inl (Y 0, 40, .inl x_high)), (qx 10, .inl (Y 1, 28672, .inr (.inl o_x_table))), (qx 11, .inl (Y 1, 7, .inr (.inl o_x_count))), (qx 12, .inl (Y 0, 144, .inl o_x_heavy))] := by rw [← e1, ← e2, ← e3, ← e4]; exact hD
        exact W.lret (v := r13) hx hb hr (fun t ht hW => ⟨⟨r13, (), rfl, e0, by rw [ht]; exact hP, va_K.moved hW.alike hK, by rw [hAe]; exact hD⟩, hS.F ht⟩) hS.2.2 dX9_counts_24
  exact E0 s.heap [] hP hD hS ls hl
