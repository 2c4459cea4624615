-- X9_cell
set_option maxRecDepth 100000 in
set_option maxHeartbeats 4000000 in
theorem c_X9_cell (l : Launch) (G : va_G) (Y : Nat → ClassId) (sz : Nat) (qx : Nat → Nat) (x_points : Int32) (x_lines : Int32) (x_tide : Int32) (x_isKept : Int32) (x_isMuch : Int32) (x_sum : Int64) (x_once : Int64) (x_twice : Int64) (x_isTermMuch : Int32) (x_nodes : Int32) (x_newMany : Int32) (x_isTooGreat : Int32) (x_come : Int32) (x_foundSet : Int64) (x_sorts : Nat → Int32) (x_sizes : Nat → Int32) (x_wholes : Nat → Int64) (x_floats : Nat → UInt32) (x_doubles : Nat → UInt64) (p1 : Int32) (p2 : Int32) (p3 : Int64) (rv : Int32) (o_x_wholes : Nat → Int64) (o_x_floats : Nat → UInt32) (o_x_doubles : Nat → UInt64) (hf : f_X9_cell x_sorts x_sizes x_wholes x_floats x_doubles p1 p2 p3 = some (rv, o_x_wholes, o_x_floats, o_x_doubles)) : Met l yX9_cell wsX9_cell (rmk 3 67) (va_Pc [.ref (qx 0), .int p1, .int p2, .long p3] (Pre G (tys Y) [(qx 0, oX9 qx x_points x_lines x_tide x_isKept x_isMuch x_sum x_once x_twice x_isTermMuch x_nodes x_newMany x_isTooGreat x_come x_foundSet), (qx 33, .inl (Y 0, 4, .inl x_sorts)), (qx 34, .inl (Y 0, 4, .inl x_sizes)), (qx 35, .inl (Y 1, 240, .inr (.inl x_wholes))), (qx 36, .inl (Y 2, 240, .inr (.inr (.inl x_floats)))), (qx 37, .inl (Y 3, 240, .inr (.inr (.inr (.inl x_doubles)))))] sz xT)) (va_Qi (fun (r : Int32) (_ : Unit) => r = rv) (Pst G (tys Y) [(qx 0, oX9 qx x_points x_lines x_tide x_isKept x_isMuch x_sum x_once x_twice x_isTermMuch x_nodes x_newMany x_isTooGreat x_come x_foundSet), (qx 33, .inl (Y 0, 4, .inl x_sorts)), (qx 34, .inl (Y 0, 4, .inl x_sizes)), (qx 35, .inl (Y 1, 240, .inr (.inl x_wholes))), (qx 36, .inl (Y 2, 240, .inr (.inr (.inl x_floats)))), (qx 37, .inl (Y 3, 240, .inr (.inr (.inr (.inl x_doubles)))))] sz [(qx 0, oX9 qx x_points x_lines x_tide x_isKept x_isMuch x_sum x_once x_twice x_isTermMuch x_nodes x_newMany x_isTooGreat x_come x_foundSet), (qx 33, .inl (Y 0, 4, .inl x_sorts)), (qx 34, .inl (Y 0, 4, .inl x_sizes)), (qx 35, .inl (Y 1, 240, .inr (.inl o_x_wholes))), (qx 36, .inl (Y 2, 240, .inr (.inr (.inl o_x_floats)))), (qx 37, .inl (Y 3, 240, .inr (.inr (.inr (.inl o_x_doubles)))))]) (va_A [(qx 0, oX9 qx x_points x_lines x_tide x_isKept x_isMuch x_sum x_once x_twice x_isTermMuch x_nodes x_newMany x_isTooGreat x_come x_foundSet), (qx 33, .inl (Y 0, 4, .inl x_sorts)), (qx 34, .inl (Y 0, 4, .inl x_sizes)), (qx 35, .inl (Y 1, 240, .inr (.inl x_wholes))), (qx 36, .inl (Y 2, 240, .inr (.inr (.inl x_floats)))), (qx 37, .inl (Y 3, 240, .inr (.inr (.inr (.inl x_doubles)))))] sz)) 0 0 (va_A [(qx 0, oX9 qx x_points x_lines x_tide x_isKept x_isMuch x_sum x_once x_twice x_isTermMuch x_nodes x_newMany x_isTooGreat x_come x_foundSet), (qx 33, .inl (Y 0, 4, .inl x_sorts)), (qx 34, .inl (Y 0, 4, .inl x_sizes)), (qx 35, .inl (Y 1, 240, .inr (.inl x_wholes))), (qx 36, .inl (Y 2, 240, .inr (.inr (.inl x_floats)))), (qx 37, .inl (Y 3, 240, .inr (.inr (.inr (.inl x_doubles)))))] sz) := by
  refine Met.ofW (cc := cX9_cell) (maxL := 6) (ret := (some .int)) (by decide) rfl ?_
  intro p e s m args below meth c s₁ B hml hv
  obtain ⟨rfl, hsz, hP, hK, hD0, hX⟩ := hv
  have hx := B.exec
  have hb := B.bytes
  have hr := B.returns
  have hts := atoms_spec (ws := wsX9_cell) B.pre
  have hown : s.vm.findClass RX9 = some m.cls := findClass_of_methodNamed B.named
  have hlocks := B.notSynchronized
  subst hsz
  have hD := hD0.self (sz := s.heap.size)
  generalize hAe : va_A [(qx 0, oX9 qx x_points x_lines x_tide x_isKept x_isMuch x_sum x_once x_twice x_isTermMuch x_nodes x_newMany x_isTooGreat x_come x_foundSet), (qx 33, .inl (Y 0, 4, .inl x_sorts)), (qx 34, .inl (Y 0, 4, .inl x_sizes)), (qx 35, .inl (Y 1, 240, .inr (.inl x_wholes))), (qx 36, .inl (Y 2, 240, .inr (.inr (.inl x_floats)))), (qx 37, .inl (Y 3, 240, .inr (.inr (.inr (.inl x_doubles)))))] s.heap.size = A at hD ⊢
  have hA : ∀ q : Nat, s.heap.size ≤ q → A q := fun q h => by rw [← hAe]; exact Or.inr h
  have hS : va_S A s.heap s.heap [] := va_S.rf
  have hP : va_P G vwCl [(qx 0, oX9 qx x_points x_lines x_tide x_isKept x_isMuch x_sum x_once x_twice x_isTermMuch x_nodes x_newMany x_isTooGreat x_come x_foundSet), (qx 33, .inl (Y 0, 4, .inl x_sorts)), (qx 34, .inl (Y 0, 4, .inl x_sizes)), (qx 35, .inl (Y 1, 240, .inr (.inl x_wholes))), (qx 36, .inl (Y 2, 240, .inr (.inr (.inl x_floats)))), (qx 37, .inl (Y 3, 240, .inr (.inr (.inr (.inl x_doubles)))))] s.heap := hP
  have wd1 : (Cond.fieldLink RX9 65 "PairedLinesModel" "sorts" "[I").before [.ref (qx 0), .int p1, .int p2, .long p3].toArray s = true := hts _ (List.mem_of_getElem? (i := 1) rfl)
  have inX9w : ∀ w ∈ u_ws RX9 TX9 37, w ∈ wsX9_cell := fun w hw => List.mem_cons_of_mem _ (List.mem_append_right _ (hw))
  have hl := lv_entry ([.ref (qx 0), .int p1, .int p2, .long p3]) (n := 6) (Nat.le_of_ble_eq_true rfl)
  rw [lg_entry_eq]
  generalize (lg_sl ([.ref (qx 0), .int p1, .int p2, .long p3]) ++ List.replicate (6 - (lg_sl ([.ref (qx 0), .int p1, .int p2, .long p3])).length) Slot.unset).toArray = ls at hl ⊢
  have hl : lv_has ls 6 [(0, .ref (qx 0)), (1, .int p1), (2, .int p2), (3, .long p3)] := hl
  have B35 : ∀ (b_x_wholes : Nat → Int64) (b_x_floats : Nat → UInt32) (b_x_doubles : Nat → UInt64), f_X9_cell_b35 x_sorts x_sizes p1 p2 p3 b_x_wholes b_x_floats b_x_doubles = some (rv, o_x_wholes, o_x_floats, o_x_doubles) → ∀ (H : Heap) (locs : List Loc), va_P G vwCl [(qx 0, oX9 qx x_points x_lines x_tide x_isKept x_isMuch x_sum x_once x_twice x_isTermMuch x_nodes x_newMany x_isTooGreat x_come x_foundSet), (qx 33, .inl (Y 0, 4, .inl x_sorts)), (qx 34, .inl (Y 0, 4, .inl x_sizes)), (qx 35, .inl (Y 1, 240, .inr (.inl b_x_wholes))), (qx 36, .inl (Y 2, 240, .inr (.inr (.inl b_x_floats)))), (qx 37, .inl (Y 3, 240, .inr (.inr (.inr (.inl b_x_doubles)))))] H → va_D A [(qx 0, oX9 qx x_points x_lines x_tide x_isKept x_isMuch x_sum x_once x_twice x_isTermMuch x_nodes x_newMany x_isTooGreat x_come x_foundSet), (qx 33, .inl (Y 0, 4, .inl x_sorts)), (qx 34, .inl (Y 0, 4, .inl x_sizes)), (qx 35, .inl (Y 1, 240, .inr (.inl b_x_wholes))), (qx 36, .inl (Y 2, 240, .inr (.inr (.inl b_x_floats)))), (qx 37, .inl (Y 3, 240, .inr (.inr (.inr (.inl b_x_doubles)))))] → va_S A s.heap H locs → ∀ (ls : Array Slot), lv_has ls 6 [(0, .ref (qx 0)), (1, .int p1), (2, .int p2), (3, .long p3)] → W p l e (headSpec wsX9_cell (rmk 3 67)).room s m [.ref (qx 0), .int p1, .int p2, .long p3].toArray below meth c H locs 0 0 (MQ below (va_Qi (fun (r : Int32) (_ : Unit) => r = rv) (Pst G (tys Y) [(qx 0, oX9 qx x_points x_lines x_tide x_isKept x_isMuch x_sum x_once x_twice x_isTermMuch x_nodes x_newMany x_isTooGreat x_come x_foundSet), (qx 33, .inl (Y 0, 4, .inl x_sorts)), (qx 34, .inl (Y 0, 4, .inl x_sizes)), (qx 35, .inl (Y 1, 240, .inr (.inl x_wholes))), (qx 36, .inl (Y 2, 240, .inr (.inr (.inl x_floats)))), (qx 37, .inl (Y 3, 240, .inr (.inr (.inr (.inl x_doubles)))))] s.heap.size [(qx 0, oX9 qx x_points x_lines x_tide x_isKept x_isMuch x_sum x_once x_twice x_isTermMuch x_nodes x_newMany x_isTooGreat x_come x_foundSet), (qx 33, .inl (Y 0, 4, .inl x_sorts)), (qx 34, .inl (Y 0, 4, .inl x_sizes)), (qx 35, .inl (Y 1, 240, .inr (.inl o_x_wholes))), (qx 36, .inl (Y 2, 240, .inr (.inr (.inl o_x_floats)))), (qx 37, .inl (Y 3, 240, .inr (.inr (.inr (.inl o_x_doubles)))))]) A) [.ref (qx 0), .int p1, .int p2, .long p3].toArray s 0 0 A) (F0 m 35 ls []) := by
    intro b_x_wholes b_x_floats b_x_doubles hf H locs hP hD hS ls hl
    unfold f_X9_cell_b35 at hf
    refine lv_aload_n hx hb dX9_cell_35 rfl (lv_at hl 0 rfl) ?_
    refine lv_iload_n hx hb dX9_cell_36 rfl (lv_at hl 1 rfl) ?_
    refine lv_iload_n hx hb dX9_cell_37 rfl (lv_at hl 2 rfl) ?_
    refine lv_lload_n hx hb dX9_cell_38 rfl (lv_at hl 3 rfl) ?_
    obtain ⟨w1, w2, w3, hc, hf⟩ := bd3 hf
    refine cl_v (ws' := [(qx 0, oX9 qx x_points x_lines x_tide x_isKept x_isMuch x_sum x_once x_twice x_isTermMuch x_nodes x_newMany x_isTooGreat x_come x_foundSet), (qx 33, .inl (Y 0, 4, .inl x_sorts)), (qx 34, .inl (Y 0, 4, .inl x_sizes)), (qx 35, .inl (Y 1, 240, .inr (.inl w1))), (qx 36, .inl (Y 2, 240, .inr (.inr (.inl w2)))), (qx 37, .inl (Y 3, 240, .inr (.inr (.inr (.inl w3)))))]) (wr := [(qx 33, .inl (Y 0, 4, .inl x_sorts)), (qx 34, .inl (Y 0, 4, .inl x_sizes))]) (rnV (As := [.int p1, .int p2, .long p3]) (rest := []) ⟨hx, hb, hml, hown, hts⟩ (c_X9_puts l G Y H.size qx x_points x_lines x_tide x_isKept x_isMuch x_sum x_once x_twice x_isTermMuch x_nodes x_newMany x_isTooGreat x_come x_foundSet b_x_wholes b_x_floats b_x_doubles p1 p2 p3 w1 w2 w3 hc) (cwV 3 hts gX9_cell_X9_puts rfl rfl rfl (by decide +kernel) ⟨(Nat.le_of_ble_eq_true rfl), (Nat.le_of_ble_eq_true rfl)⟩) trivial okT hK hP hD [0, 3, 4, 5] rfl rfl (ci := 7) (q0 := 0) rfl rfl rfl rfl hl.1 rfl (Nat.le_of_ble_eq_true rfl) dX9_cell_39) hP hD hS hA [0, 3, 4, 5] [1, 2] [2, 0, 1, 3, 4, 5] rfl rfl rfl (by decide) rfl rfl (fun H locs hP hD hS => ?_)
    refine lv_iconst (v := 1) hx hb dX9_cell_42 (by decide) ?_
    obtain ⟨e0, e1, e2, e3⟩ := rt4 hf
    have hP : va_P G vwCl [(qx 0, oX9 qx x_points x_lines x_tide x_isKept x_isMuch x_sum x_once x_twice x_isTermMuch x_nodes x_newMany x_isTooGreat x_come x_foundSet), (qx 33, .inl (Y 0, 4, .inl x_sorts)), (qx 34, .inl (Y 0, 4, .inl x_sizes)), (qx 35, .inl (Y 1, 240, .inr (.inl o_x_wholes))), (qx 36, .inl (Y 2, 240, .inr (.inr (.inl o_x_floats)))), (qx 37, .inl (Y 3, 240, .inr (.inr (.inr (.inl o_x_doubles)))))] H := by rw [← e1, ← e2, ← e3]; exact hP
    have hD : va_D A [(qx 0, oX9 qx x_points x_lines x_tide x_isKept x_isMuch x_sum x_once x_twice x_isTermMuch x_nodes x_newMany x_isTooGreat x_come x_foundSet), (qx 33, .inl (Y 0, 4, .inl x_sorts)), (qx 34, .inl (Y 0, 4, .inl x_sizes)), (qx 35, .inl (Y 1, 240, .inr (.inl o_x_wholes))), (qx 36, .inl (Y 2, 240, .inr (.inr (.inl o_x_floats)))), (qx 37, .inl (Y 3, 240, .inr (.inr (.inr (.inl o_x_doubles)))))] := by rw [← e1, ← e2, ← e3]; exact hD
    exact W.iret (v := (1 : Int32)) hx hb hr (fun t ht hW => ⟨⟨(1 : Int32), (), rfl, e0, by rw [ht]; exact hP, va_K.moved hW.alike hK, by rw [hAe]; exact hD⟩, hS.F ht⟩) hS.2.2 dX9_cell_43
  have E0 : ∀ (H : Heap) (locs : List Loc), va_P G vwCl [(qx 0, oX9 qx x_points x_lines x_tide x_isKept x_isMuch x_sum x_once x_twice x_isTermMuch x_nodes x_newMany x_isTooGreat x_come x_foundSet), (qx 33, .inl (Y 0, 4, .inl x_sorts)), (qx 34, .inl (Y 0, 4, .inl x_sizes)), (qx 35, .inl (Y 1, 240, .inr (.inl x_wholes))), (qx 36, .inl (Y 2, 240, .inr (.inr (.inl x_floats)))), (qx 37, .inl (Y 3, 240, .inr (.inr (.inr (.inl x_doubles)))))] H → va_D A [(qx 0, oX9 qx x_points x_lines x_tide x_isKept x_isMuch x_sum x_once x_twice x_isTermMuch x_nodes x_newMany x_isTooGreat x_come x_foundSet), (qx 33, .inl (Y 0, 4, .inl x_sorts)), (qx 34, .inl (Y 0, 4, .inl x_sizes)), (qx 35, .inl (Y 1, 240, .inr (.inl x_wholes))), (qx 36, .inl (Y 2, 240, .inr (.inr (.inl x_floats)))), (qx 37, .inl (Y 3, 240, .inr (.inr (.inr (.inl x_doubles)))))] → va_S A s.heap H locs → ∀ (ls : Array Slot), lv_has ls 6 [(0, .ref (qx 0)), (1, .int p1), (2, .int p2), (3, .long p3)] → W p l e (headSpec wsX9_cell (rmk 3 67)).room s m [.ref (qx 0), .int p1, .int p2, .long p3].toArray below meth c H locs 0 0 (MQ below (va_Qi (fun (r : Int32) (_ : Unit) => r = rv) (Pst G (tys Y) [(qx 0, oX9 qx x_points x_lines x_tide x_isKept x_isMuch x_sum x_once x_twice x_isTermMuch x_nodes x_newMany x_isTooGreat x_come x_foundSet), (qx 33, .inl (Y 0, 4, .inl x_sorts)), (qx 34, .inl (Y 0, 4, .inl x_sizes)), (qx 35, .inl (Y 1, 240, .inr (.inl x_wholes))), (qx 36, .inl (Y 2, 240, .inr (.inr (.inl x_floats)))), (qx 37, .inl (Y 3, 240, .inr (.inr (.inr (.inl x_doubles)))))] s.heap.size [(qx 0, oX9 qx x_points x_lines x_tide x_isKept x_isMuch x_sum x_once x_twice x_isTermMuch x_nodes x_newMany x_isTooGreat x_come x_foundSet), (qx 33, .inl (Y 0, 4, .inl x_sorts)), (qx 34, .inl (Y 0, 4, .inl x_sizes)), (qx 35, .inl (Y 1, 240, .inr (.inl o_x_wholes))), (qx 36, .inl (Y 2, 240, .inr (.inr (.inl o_x_floats)))), (qx 37, .inl (Y 3, 240, .inr (.inr (.inr (.inl o_x_doubles)))))]) A) [.ref (qx 0), .int p1, .int p2, .long p3].toArray s 0 0 A) (F0 m 0 ls []) := by
    intro H locs hP hD hS ls hl
    unfold f_X9_cell at hf
    refine lv_aload_n hx hb dX9_cell_0 rfl (lv_at hl 0 rfl) ?_
    refine lv_iload_n hx hb dX9_cell_1 rfl (lv_at hl 1 rfl) ?_
    refine lv_iload_n hx hb dX9_cell_2 rfl (lv_at hl 2 rfl) ?_
    obtain ⟨r4, hc, hf⟩ := bd1 hf
    refine cl_i (ws' := [(qx 0, oX9 qx x_points x_lines x_tide x_isKept x_isMuch x_sum x_once x_twice x_isTermMuch x_nodes x_newMany x_isTooGreat x_come x_foundSet), (qx 33, .inl (Y 0, 4, .inl x_sorts)), (qx 34, .inl (Y 0, 4, .inl x_sizes)), (qx 35, .inl (Y 1, 240, .inr (.inl x_wholes))), (qx 36, .inl (Y 2, 240, .inr (.inr (.inl x_floats)))), (qx 37, .inl (Y 3, 240, .inr (.inr (.inr (.inl x_doubles)))))]) (wr := [(qx 35, .inl (Y 1, 240, .inr (.inl x_wholes))), (qx 36, .inl (Y 2, 240, .inr (.inr (.inl x_floats)))), (qx 37, .inl (Y 3, 240, .inr (.inr (.inr (.inl x_doubles)))))]) (rnV (As := [.int p1, .int p2]) (rest := []) ⟨hx, hb, hml, hown, hts⟩ (c_X9_wrong l G Y H.size qx x_points x_lines x_tide x_isKept x_isMuch x_sum x_once x_twice x_isTermMuch x_nodes x_newMany x_isTooGreat x_come x_foundSet x_sorts x_sizes p1 p2 r4 hc) (cwV 2 hts gX9_cell_X9_wrong rfl rfl rfl (by decide +kernel) ⟨(Nat.le_of_ble_eq_true rfl), (Nat.le_of_ble_eq_true rfl)⟩) trivial okT hK hP hD [0, 1, 2] rfl rfl (ci := 7) (q0 := 0) rfl rfl rfl rfl hl.1 rfl (Nat.le_of_ble_eq_true rfl) dX9_cell_3) hP hD hS hA [0, 1, 2] [3, 4, 5] [3, 4, 5, 0, 1, 2] rfl rfl rfl (by decide) rfl rfl (fun H locs hP hD hS => ?_)
    refine lv_istore (lv' := [(5, .int r4), (0, .ref (qx 0)), (1, .int p1), (2, .int p2), (3, .long p3)]) hx hb dX9_cell_6 hl (by decide) rfl (fun ls hl => ?_)
    refine lv_iload hx hb dX9_cell_8 (lv_at hl 0 rfl) ?_
    refine lv_if_eq (tgt := 16) hx hb dX9_cell_10 (by decide) (fun c5 => ?_) (fun c5 => ?_)
    · have hf := it hf c5
      refine lv_aload_n hx hb dX9_cell_16 rfl (lv_at hl 1 rfl) ?_
      refine va_get (D := G) (ci := 7) (v := .ref (qx 33)) (C := RX9) (T := TX9) (N := 37) hx hb hts inX9w hown hK hP 0 rfl rfl 32 (by decide) wd1 (fun _ h9 => h9) rfl dX9_cell_17 ?_
      refine lv_iload_n hx hb dX9_cell_20 rfl (lv_at hl 2 rfl) ?_
      obtain ⟨g6, hf⟩ := gd hf
      refine va_iald hx hb hK hP 1 0 rfl rfl g6 dX9_cell_21 ?_
      refine lv_if_ne (tgt := 35) hx hb dX9_cell_22 (by decide) (fun c7 => ?_) (fun c7 => ?_)
      · have hf := ie hf c7
        exact B35 x_wholes x_floats x_doubles hf _ _ hP hD hS ls (lv_sub hl [1, 2, 3, 4] rfl)
      · have hf := it hf c7
        refine lv_lload_n hx hb dX9_cell_25 rfl (lv_at hl 4 rfl) ?_
        obtain ⟨r8, hc, hf⟩ := bd1 hf
        refine cl_i (ws' := [(qx 0, oX9 qx x_points x_lines x_tide x_isKept x_isMuch x_sum x_once x_twice x_isTermMuch x_nodes x_newMany x_isTooGreat x_come x_foundSet), (qx 33, .inl (Y 0, 4, .inl x_sorts)), (qx 34, .inl (Y 0, 4, .inl x_sizes)), (qx 35, .inl (Y 1, 240, .inr (.inl x_wholes))), (qx 36, .inl (Y 2, 240, .inr (.inr (.inl x_floats)))), (qx 37, .inl (Y 3, 240, .inr (.inr (.inr (.inl x_doubles)))))]) (wr := [(qx 0, oX9 qx x_points x_lines x_tide x_isKept x_isMuch x_sum x_once x_twice x_isTermMuch x_nodes x_newMany x_isTooGreat x_come x_foundSet), (qx 33, .inl (Y 0, 4, .inl x_sorts)), (qx 34, .inl (Y 0, 4, .inl x_sizes)), (qx 35, .inl (Y 1, 240, .inr (.inl x_wholes))), (qx 36, .inl (Y 2, 240, .inr (.inr (.inl x_floats)))), (qx 37, .inl (Y 3, 240, .inr (.inr (.inr (.inl x_doubles)))))]) (rnS (As := [.long p3]) (rest := []) ⟨hx, hb, hml, hown, hts⟩ (c_X9_isInt l G Y H.size p3 r8 hc) (va_cwS 1 hts gX9_cell_X9_isInt rfl rfl rfl (by decide +kernel) ⟨(Nat.le_of_ble_eq_true rfl), (Nat.le_of_ble_eq_true rfl)⟩) trivial okT hK hP hD [] rfl rfl rfl hl.1 rfl (Nat.le_of_ble_eq_true rfl) dX9_cell_26) hP hD hS hA [] [0, 1, 2, 3, 4, 5] [0, 1, 2, 3, 4, 5] rfl rfl rfl (by decide) rfl rfl (fun H locs hP hD hS => ?_)
        refine lv_if_ne (tgt := 35) hx hb dX9_cell_29 (by decide) (fun c9 => ?_) (fun c9 => ?_)
        · have hf := ie hf c9
          exact B35 x_wholes x_floats x_doubles hf _ _ hP hD hS ls (lv_sub hl [1, 2, 3, 4] rfl)
        · have hf := it hf c9
          refine lv_bipush (v := -5) hx hb dX9_cell_32 (by decide) ?_
          obtain ⟨e0, e1, e2, e3⟩ := rt4 hf
          have hP : va_P G vwCl [(qx 0, oX9 qx x_points x_lines x_tide x_isKept x_isMuch x_sum x_once x_twice x_isTermMuch x_nodes x_newMany x_isTooGreat x_come x_foundSet), (qx 33, .inl (Y 0, 4, .inl x_sorts)), (qx 34, .inl (Y 0, 4, .inl x_sizes)), (qx 35, .inl (Y 1, 240, .inr (.inl o_x_wholes))), (qx 36, .inl (Y 2, 240, .inr (.inr (.inl o_x_floats)))), (qx 37, .inl (Y 3, 240, .inr (.inr (.inr (.inl o_x_doubles)))))] H := by rw [← e1, ← e2, ← e3]; exact hP
          have hD : va_D A [(qx 0, oX9 qx x_points x_lines x_tide x_isKept x_isMuch x_sum x_once x_twice x_isTermMuch x_nodes x_newMany x_isTooGreat x_come x_foundSet), (qx 33, .inl (Y 0, 4, .inl x_sorts)), (qx 34, .inl (Y 0, 4, .inl x_sizes)), (qx 35, .inl (Y 1, 240, .inr (.inl o_x_wholes))), (qx 36, .inl (Y 2, 240, .inr (.inr (.inl o_x_floats)))), (qx 37, .inl (Y 3, 240, .inr (.inr (.inr (.inl o_x_doubles)))))] := by rw [← e1, ← e2, ← e3]; exact hD
          exact W.iret (v := (-5 : Int32)) hx hb hr (fun t ht hW => ⟨⟨(-5 : Int32), (), rfl, e0, by rw [ht]; exact hP, va_K.moved hW.alike hK, by rw [hAe]; exact hD⟩, hS.F ht⟩) hS.2.2 dX9_cell_34
    · have hf := ie hf c5
      refine lv_iload hx hb dX9_cell_13 (lv_at hl 0 rfl) ?_
      obtain ⟨e0, e1, e2, e3⟩ := rt4 hf
      have hP : va_P G vwCl [(qx 0, oX9 qx x_points x_lines x_tide x_isKept x_isMuch x_sum x_once x_twice x_isTermMuch x_nodes x_newMany x_isTooGreat x_come x_foundSet), (qx 33, .inl (Y 0, 4, .inl x_sorts)), (qx 34, .inl (Y 0, 4, .inl x_sizes)), (qx 35, .inl (Y 1, 240, .inr (.inl o_x_wholes))), (qx 36, .inl (Y 2, 240, .inr (.inr (.inl o_x_floats)))), (qx 37, .inl (Y 3, 240, .inr (.inr (.inr (.inl o_x_doubles)))))] H := by rw [← e1, ← e2, ← e3]; exact hP
      have hD : va_D A [(qx 0, oX9 qx x_points x_lines x_tide x_isKept x_isMuch x_sum x_once x_twice x_isTermMuch x_nodes x_newMany x_isTooGreat x_come x_foundSet), (qx 33, .inl (Y 0, 4, .inl x_sorts)), (qx 34, .inl (Y 0, 4, .inl x_sizes)), (qx 35, .inl (Y 1, 240, .inr (.inl o_x_wholes))), (qx 36, .inl (Y 2, 240, .inr (.inr (.inl o_x_floats)))), (qx 37, .inl (Y 3, 240, .inr (.inr (.inr (.inl o_x_doubles)))))] := by rw [← e1, ← e2, ← e3]; exact hD
      exact W.iret (v := r4) hx hb hr (fun t ht hW => ⟨⟨r4, (), rfl, e0, by rw [ht]; exact hP, va_K.moved hW.alike hK, by rw [hAe]; exact hD⟩, hS.F ht⟩) hS.2.2 dX9_cell_15
  exact E0 s.heap [] hP hD hS ls hl
-- X9_readFloat
set_option maxRecDepth 100000 in
set_option maxHeartbeats 4000000 in
theorem c_X9_readFloat (l : Launch) (G : va_G) (Y : Nat → ClassId) (sz : Nat) (qx : Nat → Nat) (x_points : Int32) (x_lines : Int32) (x_tide : Int32) (x_isKept : Int32) (x_isMuch : Int32) (x_sum : Int64) (x_once : Int64) (x_twice : Int64) (x_isTermMuch : Int32) (x_nodes : Int32) (x_newMany : Int32) (x_isTooGreat : Int32) (x_come : Int32) (x_foundSet : Int64) (p1 : UInt32) (p2 : Int32) (rv : Int64) (hf : f_X9_readFloat p1 p2 = some (rv)) : Met l yX9_readFloat wsX9_readFloat (rmk 2 60) (va_Pc [.ref (qx 0), .float p1, .int p2] (Pre G (tys Y) [(qx 0, oX9 qx x_points x_lines x_tide x_isKept x_isMuch x_sum x_once x_twice x_isTermMuch x_nodes x_newMany x_isTooGreat x_come x_foundSet)] sz xT)) (va_Ql (fun (r : Int64) (_ : Unit) => r = rv) (Pst G (tys Y) [(qx 0, oX9 qx x_points x_lines x_tide x_isKept x_isMuch x_sum x_once x_twice x_isTermMuch x_nodes x_newMany x_isTooGreat x_come x_foundSet)] sz [(qx 0, oX9 qx x_points x_lines x_tide x_isKept x_isMuch x_sum x_once x_twice x_isTermMuch x_nodes x_newMany x_isTooGreat x_come x_foundSet)]) (va_A [(qx 0, oX9 qx x_points x_lines x_tide x_isKept x_isMuch x_sum x_once x_twice x_isTermMuch x_nodes x_newMany x_isTooGreat x_come x_foundSet)] sz)) 0 0 (va_A [(qx 0, oX9 qx x_points x_lines x_tide x_isKept x_isMuch x_sum x_once x_twice x_isTermMuch x_nodes x_newMany x_isTooGreat x_come x_foundSet)] sz) := by
  refine Met.ofW (cc := cX9_readFloat) (maxL := 3) (ret := (some .long)) (by decide) rfl ?_
  intro p e s m args below meth c s₁ B hml hv
  obtain ⟨rfl, hsz, hP, hK, hD0, hX⟩ := hv
  have hx := B.exec
  have hb := B.bytes
  have hr := B.returns
  have hts := atoms_spec (ws := wsX9_readFloat) B.pre
  have hown : s.vm.findClass RX9 = some m.cls := findClass_of_methodNamed B.named
  have hlocks := B.notSynchronized
  subst hsz
  have hD := hD0.self (sz := s.heap.size)
  generalize hAe : va_A [(qx 0, oX9 qx x_points x_lines x_tide x_isKept x_isMuch x_sum x_once x_twice x_isTermMuch x_nodes x_newMany x_isTooGreat x_come x_foundSet)] s.heap.size = A at hD ⊢
  have hA : ∀ q : Nat, s.heap.size ≤ q → A q := fun q h => by rw [← hAe]; exact Or.inr h
  have hS : va_S A s.heap s.heap [] := va_S.rf
  have hP : va_P G vwCl [(qx 0, oX9 qx x_points x_lines x_tide x_isKept x_isMuch x_sum x_once x_twice x_isTermMuch x_nodes x_newMany x_isTooGreat x_come x_foundSet)] s.heap := hP
  have hl := lv_entry ([.ref (qx 0), .float p1, .int p2]) (n := 3) (Nat.le_of_ble_eq_true rfl)
  rw [lg_entry_eq]
  generalize (lg_sl ([.ref (qx 0), .float p1, .int p2]) ++ List.replicate (3 - (lg_sl ([.ref (qx 0), .float p1, .int p2])).length) Slot.unset).toArray = ls at hl ⊢
  have hl : lv_has ls 3 [(0, .ref (qx 0)), (1, .float p1), (2, .int p2)] := hl
  have E0 : ∀ (H : Heap) (locs : List Loc), va_P G vwCl [(qx 0, oX9 qx x_points x_lines x_tide x_isKept x_isMuch x_sum x_once x_twice x_isTermMuch x_nodes x_newMany x_isTooGreat x_come x_foundSet)] H → va_D A [(qx 0, oX9 qx x_points x_lines x_tide x_isKept x_isMuch x_sum x_once x_twice x_isTermMuch x_nodes x_newMany x_isTooGreat x_come x_foundSet)] → va_S A s.heap H locs → ∀ (ls : Array Slot), lv_has ls 3 [(0, .ref (qx 0)), (1, .float p1), (2, .int p2)] → W p l e (headSpec wsX9_readFloat (rmk 2 60)).room s m [.ref (qx 0), .float p1, .int p2].toArray below meth c H locs 0 0 (MQ below (va_Ql (fun (r : Int64) (_ : Unit) => r = rv) (Pst G (tys Y) [(qx 0, oX9 qx x_points x_lines x_tide x_isKept x_isMuch x_sum x_once x_twice x_isTermMuch x_nodes x_newMany x_isTooGreat x_come x_foundSet)] s.heap.size [(qx 0, oX9 qx x_points x_lines x_tide x_isKept x_isMuch x_sum x_once x_twice x_isTermMuch x_nodes x_newMany x_isTooGreat x_come x_foundSet)]) A) [.ref (qx 0), .float p1, .int p2].toArray s 0 0 A) (F0 m 0 ls []) := by
    intro H locs hP hD hS ls hl
    unfold f_X9_readFloat at hf
    refine lv_iload_n hx hb dX9_readFloat_0 rfl (lv_at hl 2 rfl) ?_
    by_cases c1 : p2 = 1
    · have hf := it hf c1
      refine lv_tableIn (tgt := 32) hx hb dX9_readFloat_1 (by rw [c1]; decide) (by rw [c1]; decide) (off := 31) (by rw [c1]; rfl) (by decide) ?_
      refine lv_fload_n hx hb dX9_readFloat_32 rfl (lv_at hl 1 rfl) ?_
      refine lv_f2i hx hb dX9_readFloat_33 ?_
      refine lv_i2l hx hb dX9_readFloat_34 rfl ?_
      have e0 := rt1 hf
      exact W.lret (v := (FP.f2i p1).toInt64) hx hb hr (fun t ht hW => ⟨⟨(FP.f2i p1).toInt64, (), rfl, e0, by rw [ht]; exact hP, va_K.moved hW.alike hK, by rw [hAe]; exact hD⟩, hS.F ht⟩) hS.2.2 dX9_readFloat_35
    have hf := ie hf c1
    by_cases c2 : p2 = 2
    · have hf := it hf c2
      refine lv_tableIn (tgt := 36) hx hb dX9_readFloat_1 (by rw [c2]; decide) (by rw [c2]; decide) (off := 35) (by rw [c2]; rfl) (by decide) ?_
      refine lv_fload_n hx hb dX9_readFloat_36 rfl (lv_at hl 1 rfl) ?_
      refine lv_f2l hx hb dX9_readFloat_37 ?_
      have e0 := rt1 hf
      exact W.lret (v := (FP.f2l p1)) hx hb hr (fun t ht hW => ⟨⟨(FP.f2l p1), (), rfl, e0, by rw [ht]; exact hP, va_K.moved hW.alike hK, by rw [hAe]; exact hD⟩, hS.F ht⟩) hS.2.2 dX9_readFloat_38
    have hf := ie hf c2
    by_cases c3 : p2 = 3
    · have hf := it hf c3
      refine lv_tableIn (tgt := 44) hx hb dX9_readFloat_1 (by rw [c3]; decide) (by rw [c3]; decide) (off := 43) (by rw [c3]; rfl) (by decide) ?_
      refine lv_fload_n hx hb dX9_readFloat_44 rfl (lv_at hl 1 rfl) ?_
      obtain ⟨r4, hc, hf⟩ := bd1 hf
      refine cl_i (ws' := [(qx 0, oX9 qx x_points x_lines x_tide x_isKept x_isMuch x_sum x_once x_twice x_isTermMuch x_nodes x_newMany x_isTooGreat x_come x_foundSet)]) (wr := [(qx 0, oX9 qx x_points x_lines x_tide x_isKept x_isMuch x_sum x_once x_twice x_isTermMuch x_nodes x_newMany x_isTooGreat x_come x_foundSet)]) (rnS (As := [.float p1]) (rest := []) ⟨hx, hb, hml, hown, hts⟩ (c_Jxf58ca_floatToIntBits_5c35a l G Y H.size p1 r4 hc) (va_cwS 1 hts gX9_readFloat_Jxf58ca_floatToIntBits_5c35a rfl rfl rfl (by decide +kernel) ⟨(Nat.le_of_ble_eq_true rfl), (Nat.le_of_ble_eq_true rfl)⟩) trivial okT hK hP hD [] rfl rfl rfl hl.1 rfl (Nat.le_of_ble_eq_true rfl) dX9_readFloat_45) hP hD hS hA [] [0] [0] rfl rfl rfl (by decide) rfl rfl (fun H locs hP hD hS => ?_)
      refine lv_i2l hx hb dX9_readFloat_48 rfl ?_
      have e0 := rt1 hf
      exact W.lret (v := r4.toInt64) hx hb hr (fun t ht hW => ⟨⟨r4.toInt64, (), rfl, e0, by rw [ht]; exact hP, va_K.moved hW.alike hK, by rw [hAe]; exact hD⟩, hS.F ht⟩) hS.2.2 dX9_readFloat_49
    have hf := ie hf c3
    by_cases c5 : p2 = 4
    · have hf := it hf c5
      refine lv_tableIn (tgt := 39) hx hb dX9_readFloat_1 (by rw [c5]; decide) (by rw [c5]; decide) (off := 38) (by rw [c5]; rfl) (by decide) ?_
      refine lv_fload_n hx hb dX9_readFloat_39 rfl (lv_at hl 1 rfl) ?_
      refine lv_f2i hx hb dX9_readFloat_40 ?_
      refine lv_i2b hx hb dX9_readFloat_41 rfl ?_
      refine lv_i2l hx hb dX9_readFloat_42 rfl ?_
      have e0 := rt1 hf
      exact W.lret (v := ((FP.f2i p1).toInt8.toInt32).toInt64) hx hb hr (fun t ht hW => ⟨⟨((FP.f2i p1).toInt8.toInt32).toInt64, (), rfl, e0, by rw [ht]; exact hP, va_K.moved hW.alike hK, by rw [hAe]; exact hD⟩, hS.F ht⟩) hS.2.2 dX9_readFloat_43
    have hf := ie hf c5
    have t_c1 : ¬ p2.toInt = 1 := lv_neT c1 (by decide)
    have t_c2 : ¬ p2.toInt = 2 := lv_neT c2 (by decide)
    have t_c3 : ¬ p2.toInt = 3 := lv_neT c3 (by decide)
    have t_c5 : ¬ p2.toInt = 4 := lv_neT c5 (by decide)
    refine lv_tableOut (tgt := 44) hx hb dX9_readFloat_1 (by omega) (by decide) ?_
    refine lv_fload_n hx hb dX9_readFloat_44 rfl (lv_at hl 1 rfl) ?_
    obtain ⟨r6, hc, hf⟩ := bd1 hf
    refine cl_i (ws' := [(qx 0, oX9 qx x_points x_lines x_tide x_isKept x_isMuch x_sum x_once x_twice x_isTermMuch x_nodes x_newMany x_isTooGreat x_come x_foundSet)]) (wr := [(qx 0, oX9 qx x_points x_lines x_tide x_isKept x_isMuch x_sum x_once x_twice x_isTermMuch x_nodes x_newMany x_isTooGreat x_come x_foundSet)]) (rnS (As := [.float p1]) (rest := []) ⟨hx, hb, hml, hown, hts⟩ (c_Jxf58ca_floatToIntBits_5c35a l G Y H.size p1 r6 hc) (va_cwS 1 hts gX9_readFloat_Jxf58ca_floatToIntBits_5c35a rfl rfl rfl (by decide +kernel) ⟨(Nat.le_of_ble_eq_true rfl), (Nat.le_of_ble_eq_true rfl)⟩) trivial okT hK hP hD [] rfl rfl rfl hl.1 rfl (Nat.le_of_ble_eq_true rfl) dX9_readFloat_45) hP hD hS hA [] [0] [0] rfl rfl rfl (by decide) rfl rfl (fun H locs hP hD hS => ?_)
    refine lv_i2l hx hb dX9_readFloat_48 rfl ?_
    have e0 := rt1 hf
    exact W.lret (v := r6.toInt64) hx hb hr (fun t ht hW => ⟨⟨r6.toInt64, (), rfl, e0, by rw [ht]; exact hP, va_K.moved hW.alike hK, by rw [hAe]; exact hD⟩, hS.F ht⟩) hS.2.2 dX9_readFloat_49
  exact E0 s.heap [] hP hD hS ls hl
-- X9_readDouble
set_option maxRecDepth 100000 in
set_option maxHeartbeats 4000000 in
theorem c_X9_readDouble (l : Launch) (G : va_G) (Y : Nat → ClassId) (sz : Nat) (qx : Nat → Nat) (x_points : Int32) (x_lines : Int32) (x_tide : Int32) (x_isKept : Int32) (x_isMuch : Int32) (x_sum : Int64) (x_once : Int64) (x_twice : Int64) (x_isTermMuch : Int32) (x_nodes : Int32) (x_newMany : Int32) (x_isTooGreat : Int32) (x_come : Int32) (x_foundSet : Int64) (p1 : UInt64) (p2 : Int32) (rv : Int64) (hf : f_X9_readDouble p1 p2 = some (rv)) : Met l yX9_readDouble wsX9_readDouble (rmk 2 61) (va_Pc [.ref (qx 0), .double p1, .int p2] (Pre G (tys Y) [(qx 0, oX9 qx x_points x_lines x_tide x_isKept x_isMuch x_sum x_once x_twice x_isTermMuch x_nodes x_newMany x_isTooGreat x_come x_foundSet)] sz xT)) (va_Ql (fun (r : Int64) (_ : Unit) => r = rv) (Pst G (tys Y) [(qx 0, oX9 qx x_points x_lines x_tide x_isKept x_isMuch x_sum x_once x_twice x_isTermMuch x_nodes x_newMany x_isTooGreat x_come x_foundSet)] sz [(qx 0, oX9 qx x_points x_lines x_tide x_isKept x_isMuch x_sum x_once x_twice x_isTermMuch x_nodes x_newMany x_isTooGreat x_come x_foundSet)]) (va_A [(qx 0, oX9 qx x_points x_lines x_tide x_isKept x_isMuch x_sum x_once x_twice x_isTermMuch x_nodes x_newMany x_isTooGreat x_come x_foundSet)] sz)) 0 0 (va_A [(qx 0, oX9 qx x_points x_lines x_tide x_isKept x_isMuch x_sum x_once x_twice x_isTermMuch x_nodes x_newMany x_isTooGreat x_come x_foundSet)] sz) := by
  refine Met.ofW (cc := cX9_readDouble) (maxL := 4) (ret := (some .long)) (by decide) rfl ?_
  intro p e s m args below meth c s₁ B hml hv
  obtain ⟨rfl, hsz, hP, hK, hD0, hX⟩ := hv
  have hx := B.exec
  have hb := B.bytes
  have hr := B.returns
  have hts := atoms_spec (ws := wsX9_readDouble) B.pre
  have hown : s.vm.findClass RX9 = some m.cls := findClass_of_methodNamed B.named
  have hlocks := B.notSynchronized
  subst hsz
  have hD := hD0.self (sz := s.heap.size)
  generalize hAe : va_A [(qx 0, oX9 qx x_points x_lines x_tide x_isKept x_isMuch x_sum x_once x_twice x_isTermMuch x_nodes x_newMany x_isTooGreat x_come x_foundSet)] s.heap.size = A at hD ⊢
  have hA : ∀ q : Nat, s.heap.size ≤ q → A q := fun q h => by rw [← hAe]; exact Or.inr h
  have hS : va_S A s.heap s.heap [] := va_S.rf
  have hP : va_P G vwCl [(qx 0, oX9 qx x_points x_lines x_tide x_isKept x_isMuch x_sum x_once x_twice x_isTermMuch x_nodes x_newMany x_isTooGreat x_come x_foundSet)] s.heap := hP
  have hl := lv_entry ([.ref (qx 0), .double p1, .int p2]) (n := 4) (Nat.le_of_ble_eq_true rfl)
  rw [lg_entry_eq]
  generalize (lg_sl ([.ref (qx 0), .double p1, .int p2]) ++ List.replicate (4 - (lg_sl ([.ref (qx 0), .double p1, .int p2])).length) Slot.unset).toArray = ls at hl ⊢
  have hl : lv_has ls 4 [(0, .ref (qx 0)), (1, .double p1), (3, .int p2)] := hl
  have E0 : ∀ (H : Heap) (locs : List Loc), va_P G vwCl [(qx 0, oX9 qx x_points x_lines x_tide x_isKept x_isMuch x_sum x_once x_twice x_isTermMuch x_nodes x_newMany x_isTooGreat x_come x_foundSet)] H → va_D A [(qx 0, oX9 qx x_points x_lines x_tide x_isKept x_isMuch x_sum x_once x_twice x_isTermMuch x_nodes x_newMany x_isTooGreat x_come x_foundSet)] → va_S A s.heap H locs → ∀ (ls : Array Slot), lv_has ls 4 [(0, .ref (qx 0)), (1, .double p1), (3, .int p2)] → W p l e (headSpec wsX9_readDouble (rmk 2 61)).room s m [.ref (qx 0), .double p1, .int p2].toArray below meth c H locs 0 0 (MQ below (va_Ql (fun (r : Int64) (_ : Unit) => r = rv) (Pst G (tys Y) [(qx 0, oX9 qx x_points x_lines x_tide x_isKept x_isMuch x_sum x_once x_twice x_isTermMuch x_nodes x_newMany x_isTooGreat x_come x_foundSet)] s.heap.size [(qx 0, oX9 qx x_points x_lines x_tide x_isKept x_isMuch x_sum x_once x_twice x_isTermMuch x_nodes x_newMany x_isTooGreat x_come x_foundSet)]) A) [.ref (qx 0), .double p1, .int p2].toArray s 0 0 A) (F0 m 0 ls []) := by
    intro H locs hP hD hS ls hl
    unfold f_X9_readDouble at hf
    refine lv_iload_n hx hb dX9_readDouble_0 rfl (lv_at hl 2 rfl) ?_
    by_cases c1 : p2 = 1
    · have hf := it hf c1
      refine lv_tableIn (tgt := 32) hx hb dX9_readDouble_1 (by rw [c1]; decide) (by rw [c1]; decide) (off := 31) (by rw [c1]; rfl) (by decide) ?_
      refine lv_dload_n hx hb dX9_readDouble_32 rfl (lv_at hl 1 rfl) ?_
      refine lv_d2i hx hb dX9_readDouble_33 ?_
      refine lv_i2l hx hb dX9_readDouble_34 rfl ?_
      have e0 := rt1 hf
      exact W.lret (v := (FP.d2i p1).toInt64) hx hb hr (fun t ht hW => ⟨⟨(FP.d2i p1).toInt64, (), rfl, e0, by rw [ht]; exact hP, va_K.moved hW.alike hK, by rw [hAe]; exact hD⟩, hS.F ht⟩) hS.2.2 dX9_readDouble_35
    have hf := ie hf c1
    by_cases c2 : p2 = 2
    · have hf := it hf c2
      refine lv_tableIn (tgt := 36) hx hb dX9_readDouble_1 (by rw [c2]; decide) (by rw [c2]; decide) (off := 35) (by rw [c2]; rfl) (by decide) ?_
      refine lv_dload_n hx hb dX9_readDouble_36 rfl (lv_at hl 1 rfl) ?_
      refine lv_d2l hx hb dX9_readDouble_37 ?_
      have e0 := rt1 hf
      exact W.lret (v := (FP.d2l p1)) hx hb hr (fun t ht hW => ⟨⟨(FP.d2l p1), (), rfl, e0, by rw [ht]; exact hP, va_K.moved hW.alike hK, by rw [hAe]; exact hD⟩, hS.F ht⟩) hS.2.2 dX9_readDouble_38
    have hf := ie hf c2
    by_cases c3 : p2 = 3
    · have hf := it hf c3
      refine lv_tableIn (tgt := 39) hx hb dX9_readDouble_1 (by rw [c3]; decide) (by rw [c3]; decide) (off := 38) (by rw [c3]; rfl) (by decide) ?_
      refine lv_dload_n hx hb dX9_readDouble_39 rfl (lv_at hl 1 rfl) ?_
      obtain ⟨g4, hf⟩ := gp hf
      refine lv_d2f hx hb dX9_readDouble_40 g4 ?_
      obtain ⟨r5, hc, hf⟩ := bd1 hf
      refine cl_i (ws' := [(qx 0, oX9 qx x_points x_lines x_tide x_isKept x_isMuch x_sum x_once x_twice x_isTermMuch x_nodes x_newMany x_isTooGreat x_come x_foundSet)]) (wr := [(qx 0, oX9 qx x_points x_lines x_tide x_isKept x_isMuch x_sum x_once x_twice x_isTermMuch x_nodes x_newMany x_isTooGreat x_come x_foundSet)]) (rnS (As := [.float (FP.d2f p1)]) (rest := []) ⟨hx, hb, hml, hown, hts⟩ (c_Jxf58ca_floatToIntBits_5c35a l G Y H.size (FP.d2f p1) r5 hc) (va_cwS 1 hts gX9_readDouble_Jxf58ca_floatToIntBits_5c35a rfl rfl rfl (by decide +kernel) ⟨(Nat.le_of_ble_eq_true rfl), (Nat.le_of_ble_eq_true rfl)⟩) trivial okT hK hP hD [] rfl rfl rfl hl.1 rfl (Nat.le_of_ble_eq_true rfl) dX9_readDouble_41) hP hD hS hA [] [0] [0] rfl rfl rfl (by decide) rfl rfl (fun H locs hP hD hS => ?_)
      refine lv_i2l hx hb dX9_readDouble_44 rfl ?_
      have e0 := rt1 hf
      exact W.lret (v := r5.toInt64) hx hb hr (fun t ht hW => ⟨⟨r5.toInt64, (), rfl, e0, by rw [ht]; exact hP, va_K.moved hW.alike hK, by rw [hAe]; exact hD⟩, hS.F ht⟩) hS.2.2 dX9_readDouble_45
    have hf := ie hf c3
    by_cases c6 : p2 = 4
    · have hf := it hf c6
      refine lv_tableIn (tgt := 46) hx hb dX9_readDouble_1 (by rw [c6]; decide) (by rw [c6]; decide) (off := 45) (by rw [c6]; rfl) (by decide) ?_
      refine lv_dload_n hx hb dX9_readDouble_46 rfl (lv_at hl 1 rfl) ?_
      refine lv_d2i hx hb dX9_readDouble_47 ?_
      refine lv_i2b hx hb dX9_readDouble_48 rfl ?_
      refine lv_i2l hx hb dX9_readDouble_49 rfl ?_
      have e0 := rt1 hf
      exact W.lret (v := ((FP.d2i p1).toInt8.toInt32).toInt64) hx hb hr (fun t ht hW => ⟨⟨((FP.d2i p1).toInt8.toInt32).toInt64, (), rfl, e0, by rw [ht]; exact hP, va_K.moved hW.alike hK, by rw [hAe]; exact hD⟩, hS.F ht⟩) hS.2.2 dX9_readDouble_50
    have hf := ie hf c6
    have t_c1 : ¬ p2.toInt = 1 := lv_neT c1 (by decide)
    have t_c2 : ¬ p2.toInt = 2 := lv_neT c2 (by decide)
    have t_c3 : ¬ p2.toInt = 3 := lv_neT c3 (by decide)
    have t_c6 : ¬ p2.toInt = 4 := lv_neT c6 (by decide)
    refine lv_tableOut (tgt := 51) hx hb dX9_readDouble_1 (by omega) (by decide) ?_
    refine lv_dload_n hx hb dX9_readDouble_51 rfl (lv_at hl 1 rfl) ?_
    obtain ⟨r7, hc, hf⟩ := bd1 hf
    refine cl_l (ws' := [(qx 0, oX9 qx x_points x_lines x_tide x_isKept x_isMuch x_sum x_once x_twice x_isTermMuch x_nodes x_newMany x_isTooGreat x_come x_foundSet)]) (wr := [(qx 0, oX9 qx x_points x_lines x_tide x_isKept x_isMuch x_sum x_once x_twice x_isTermMuch x_nodes x_newMany x_isTooGreat x_come x_foundSet)]) (rnS (As := [.double p1]) (rest := []) ⟨hx, hb, hml, hown, hts⟩ (c_Jxe99ae_doubleToLongBits_ccdee l G Y H.size p1 r7 hc) (va_cwS 1 hts gX9_readDouble_Jxe99ae_doubleToLongBits_ccdee rfl rfl rfl (by decide +kernel) ⟨(Nat.le_of_ble_eq_true rfl), (Nat.le_of_ble_eq_true rfl)⟩) trivial okT hK hP hD [] rfl rfl rfl hl.1 rfl (Nat.le_of_ble_eq_true rfl) dX9_readDouble_52) hP hD hS hA [] [0] [0] rfl rfl rfl (by decide) rfl rfl (fun H locs hP hD hS => ?_)
    have e0 := rt1 hf
    exact W.lret (v := r7) hx hb hr (fun t ht hW => ⟨⟨r7, (), rfl, e0, by rw [ht]; exact hP, va_K.moved hW.alike hK, by rw [hAe]; exact hD⟩, hS.F ht⟩) hS.2.2 dX9_readDouble_55
  exact E0 s.heap [] hP hD hS ls hl
-- X9_readWhole
set_option maxRecDepth 100000 in
set_option maxHeartbeats 4000000 in
theorem c_X9_readWhole (l : Launch) (G : va_G) (Y : Nat → ClassId) (sz : Nat) (qx : Nat → Nat) (x_points : Int32) (x_lines : Int32) (x_tide : Int32) (x_isKept : Int32) (x_isMuch : Int32) (x_sum : Int64) (x_once : Int64) (x_twice : Int64) (x_isTermMuch : Int32) (x_nodes : Int32) (x_newMany : Int32) (x_isTooGreat : Int32) (x_come : Int32) (x_foundSet : Int64) (p1 : Int64) (p2 : Int32) (rv : Int64) (hf : f_X9_readWhole p1 p2 = some (rv)) : Met l yX9_readWhole wsX9_readWhole (rmk 2 60) (va_Pc [.ref (qx 0), .long p1, .int p2] (Pre G (tys Y) [(qx 0, oX9 qx x_points x_lines x_tide x_isKept x_isMuch x_sum x_once x_twice x_isTermMuch x_nodes x_newMany x_isTooGreat x_come x_foundSet)] sz xT)) (va_Ql (fun (r : Int64) (_ : Unit) => r = rv) (Pst G (tys Y) [(qx 0, oX9 qx x_points x_lines x_tide x_isKept x_isMuch x_sum x_once x_twice x_isTermMuch x_nodes x_newMany x_isTooGreat x_come x_foundSet)] sz [(qx 0, oX9 qx x_points x_lines x_tide x_isKept x_isMuch x_sum x_once x_twice x_isTermMuch x_nodes x_newMany x_isTooGreat x_come x_foundSet)]) (va_A [(qx 0, oX9 qx x_points x_lines x_tide x_isKept x_isMuch x_sum x_once x_twice x_isTermMuch x_nodes x_newMany x_isTooGreat x_come x_foundSet)] sz)) 0 0 (va_A [(qx 0, oX9 qx x_points x_lines x_tide x_isKept x_isMuch x_sum x_once x_twice x_isTermMuch x_nodes x_newMany x_isTooGreat x_come x_foundSet)] sz) := by
  refine Met.ofW (cc := cX9_readWhole) (maxL := 4) (ret := (some .long)) (by decide) rfl ?_
  intro p e s m args below meth c s₁ B hml hv
  obtain ⟨rfl, hsz, hP, hK, hD0, hX⟩ := hv
  have hx := B.exec
  have hb := B.bytes
  have hr := B.returns
  have hts := atoms_spec (ws := wsX9_readWhole) B.pre
  have hown : s.vm.findClass RX9 = some m.cls := findClass_of_methodNamed B.named
  have hlocks := B.notSynchronized
  subst hsz
  have hD := hD0.self (sz := s.heap.size)
  generalize hAe : va_A [(qx 0, oX9 qx x_points x_lines x_tide x_isKept x_isMuch x_sum x_once x_twice x_isTermMuch x_nodes x_newMany x_isTooGreat x_come x_foundSet)] s.heap.size = A at hD ⊢
  have hA : ∀ q : Nat, s.heap.size ≤ q → A q := fun q h => by rw [← hAe]; exact Or.inr h
  have hS : va_S A s.heap s.heap [] := va_S.rf
  have hP : va_P G vwCl [(qx 0, oX9 qx x_points x_lines x_tide x_isKept x_isMuch x_sum x_once x_twice x_isTermMuch x_nodes x_newMany x_isTooGreat x_come x_foundSet)] s.heap := hP
  have hl := lv_entry ([.ref (qx 0), .long p1, .int p2]) (n := 4) (Nat.le_of_ble_eq_true rfl)
  rw [lg_entry_eq]
  generalize (lg_sl ([.ref (qx 0), .long p1, .int p2]) ++ List.replicate (4 - (lg_sl ([.ref (qx 0), .long p1, .int p2])).length) Slot.unset).toArray = ls at hl ⊢
  have hl : lv_has ls 4 [(0, .ref (qx 0)), (1, .long p1), (3, .int p2)] := hl
  have E0 : ∀ (H : Heap) (locs : List Loc), va_P G vwCl [(qx 0, oX9 qx x_points x_lines x_tide x_isKept x_isMuch x_sum x_once x_twice x_isTermMuch x_nodes x_newMany x_isTooGreat x_come x_foundSet)] H → va_D A [(qx 0, oX9 qx x_points x_lines x_tide x_isKept x_isMuch x_sum x_once x_twice x_isTermMuch x_nodes x_newMany x_isTooGreat x_come x_foundSet)] → va_S A s.heap H locs → ∀ (ls : Array Slot), lv_has ls 4 [(0, .ref (qx 0)), (1, .long p1), (3, .int p2)] → W p l e (headSpec wsX9_readWhole (rmk 2 60)).room s m [.ref (qx 0), .long p1, .int p2].toArray below meth c H locs 0 0 (MQ below (va_Ql (fun (r : Int64) (_ : Unit) => r = rv) (Pst G (tys Y) [(qx 0, oX9 qx x_points x_lines x_tide x_isKept x_isMuch x_sum x_once x_twice x_isTermMuch x_nodes x_newMany x_isTooGreat x_come x_foundSet)] s.heap.size [(qx 0, oX9 qx x_points x_lines x_tide x_isKept x_isMuch x_sum x_once x_twice x_isTermMuch x_nodes x_newMany x_isTooGreat x_come x_foundSet)]) A) [.ref (qx 0), .long p1, .int p2].toArray s 0 0 A) (F0 m 0 ls []) := by
    intro H locs hP hD hS ls hl
    unfold f_X9_readWhole at hf
    refine lv_iload_n hx hb dX9_readWhole_0 rfl (lv_at hl 2 rfl) ?_
    by_cases c1 : p2 = 1
    · have hf := it hf c1
      refine lv_tableIn (tgt := 32) hx hb dX9_readWhole_1 (by rw [c1]; decide) (by rw [c1]; decide) (off := 31) (by rw [c1]; rfl) (by decide) ?_
      refine lv_lload_n hx hb dX9_readWhole_32 rfl (lv_at hl 1 rfl) ?_
      refine lv_l2i hx hb dX9_readWhole_33 rfl ?_
      refine lv_i2l hx hb dX9_readWhole_34 rfl ?_
      have e0 := rt1 hf
      exact W.lret (v := p1.toInt32.toInt64) hx hb hr (fun t ht hW => ⟨⟨p1.toInt32.toInt64, (), rfl, e0, by rw [ht]; exact hP, va_K.moved hW.alike hK, by rw [hAe]; exact hD⟩, hS.F ht⟩) hS.2.2 dX9_readWhole_35
    have hf := ie hf c1
    by_cases c2 : p2 = 2
    · have hf := it hf c2
      refine lv_tableIn (tgt := 48) hx hb dX9_readWhole_1 (by rw [c2]; decide) (by rw [c2]; decide) (off := 47) (by rw [c2]; rfl) (by decide) ?_
      refine lv_lload_n hx hb dX9_readWhole_48 rfl (lv_at hl 1 rfl) ?_
      have e0 := rt1 hf
      exact W.lret (v := p1) hx hb hr (fun t ht hW => ⟨⟨p1, (), rfl, e0, by rw [ht]; exact hP, va_K.moved hW.alike hK, by rw [hAe]; exact hD⟩, hS.F ht⟩) hS.2.2 dX9_readWhole_49
    have hf := ie hf c2
    by_cases c3 : p2 = 3
    · have hf := it hf c3
      refine lv_tableIn (tgt := 36) hx hb dX9_readWhole_1 (by rw [c3]; decide) (by rw [c3]; decide) (off := 35) (by rw [c3]; rfl) (by decide) ?_
      refine lv_lload_n hx hb dX9_readWhole_36 rfl (lv_at hl 1 rfl) ?_
      refine lv_l2f hx hb dX9_readWhole_37 ?_
      obtain ⟨r4, hc, hf⟩ := bd1 hf
      refine cl_i (ws' := [(qx 0, oX9 qx x_points x_lines x_tide x_isKept x_isMuch x_sum x_once x_twice x_isTermMuch x_nodes x_newMany x_isTooGreat x_come x_foundSet)]) (wr := [(qx 0, oX9 qx x_points x_lines x_tide x_isKept x_isMuch x_sum x_once x_twice x_isTermMuch x_nodes x_newMany x_isTooGreat x_come x_foundSet)]) (rnS (As := [.float (FP.l2f p1)]) (rest := []) ⟨hx, hb, hml, hown, hts⟩ (c_Jxf58ca_floatToIntBits_5c35a l G Y H.size (FP.l2f p1) r4 hc) (va_cwS 1 hts gX9_readWhole_Jxf58ca_floatToIntBits_5c35a rfl rfl rfl (by decide +kernel) ⟨(Nat.le_of_ble_eq_true rfl), (Nat.le_of_ble_eq_true rfl)⟩) trivial okT hK hP hD [] rfl rfl rfl hl.1 rfl (Nat.le_of_ble_eq_true rfl) dX9_readWhole_38) hP hD hS hA [] [0] [0] rfl rfl rfl (by decide) rfl rfl (fun H locs hP hD hS => ?_)
      refine lv_i2l hx hb dX9_readWhole_41 rfl ?_
      have e0 := rt1 hf
      exact W.lret (v := r4.toInt64) hx hb hr (fun t ht hW => ⟨⟨r4.toInt64, (), rfl, e0, by rw [ht]; exact hP, va_K.moved hW.alike hK, by rw [hAe]; exact hD⟩, hS.F ht⟩) hS.2.2 dX9_readWhole_42
    have hf := ie hf c3
    by_cases c5 : p2 = 4
    · have hf := it hf c5
      refine lv_tableIn (tgt := 43) hx hb dX9_readWhole_1 (by rw [c5]; decide) (by rw [c5]; decide) (off := 42) (by rw [c5]; rfl) (by decide) ?_
      refine lv_lload_n hx hb dX9_readWhole_43 rfl (lv_at hl 1 rfl) ?_
      refine lv_l2i hx hb dX9_readWhole_44 rfl ?_
      refine lv_i2b hx hb dX9_readWhole_45 rfl ?_
      refine lv_i2l hx hb dX9_readWhole_46 rfl ?_
      have e0 := rt1 hf
      exact W.lret (v := p1.toInt32.toInt8.toInt32.toInt64) hx hb hr (fun t ht hW => ⟨⟨p1.toInt32.toInt8.toInt32.toInt64, (), rfl, e0, by rw [ht]; exact hP, va_K.moved hW.alike hK, by rw [hAe]; exact hD⟩, hS.F ht⟩) hS.2.2 dX9_readWhole_47
    have hf := ie hf c5
    have t_c1 : ¬ p2.toInt = 1 := lv_neT c1 (by decide)
    have t_c2 : ¬ p2.toInt = 2 := lv_neT c2 (by decide)
    have t_c3 : ¬ p2.toInt = 3 := lv_neT c3 (by decide)
    have t_c5 : ¬ p2.toInt = 4 := lv_neT c5 (by decide)
    refine lv_tableOut (tgt := 48) hx hb dX9_readWhole_1 (by omega) (by decide) ?_
    refine lv_lload_n hx hb dX9_readWhole_48 rfl (lv_at hl 1 rfl) ?_
    have e0 := rt1 hf
    exact W.lret (v := p1) hx hb hr (fun t ht hW => ⟨⟨p1, (), rfl, e0, by rw [ht]; exact hP, va_K.moved hW.alike hK, by rw [hAe]; exact hD⟩, hS.F ht⟩) hS.2.2 dX9_readWhole_49
  exact E0 s.heap [] hP hD hS ls hl
-- X9_read
set_option maxRecDepth 100000 in
set_option maxHeartbeats 4000000 in
theorem c_X9_read (l : Launch) (G : va_G) (Y : Nat → ClassId) (sz : Nat) (qx : Nat → Nat) (x_points : Int32) (x_lines : Int32) (x_tide : Int32) (x_isKept : Int32) (x_isMuch : Int32) (x_sum : Int64) (x_once : Int64) (x_twice : Int64) (x_isTermMuch : Int32) (x_nodes : Int32) (x_newMany : Int32) (x_isTooGreat : Int32) (x_come : Int32) (x_foundSet : Int64) (x_sorts : Nat → Int32) (x_sizes : Nat → Int32) (x_wholes : Nat → Int64) (x_floats : Nat → UInt32) (x_doubles : Nat → UInt64) (p1 : Int32) (p2 : Int32) (p3 : Int32) (rv : Int64) (hf : f_X9_read x_sorts x_sizes x_wholes x_floats x_doubles p1 p2 p3 = some (rv)) : Met l yX9_read wsX9_read (rmk 3 84) (va_Pc [.ref (qx 0), .int p1, .int p2, .int p3] (Pre G (tys Y) [(qx 0, oX9 qx x_points x_lines x_tide x_isKept x_isMuch x_sum x_once x_twice x_isTermMuch x_nodes x_newMany x_isTooGreat x_come x_foundSet), (qx 33, .inl (Y 0, 4, .inl x_sorts)), (qx 34, .inl (Y 0, 4, .inl x_sizes)), (qx 35, .inl (Y 1, 240, .inr (.inl x_wholes))), (qx 36, .inl (Y 2, 240, .inr (.inr (.inl x_floats)))), (qx 37, .inl (Y 3, 240, .inr (.inr (.inr (.inl x_doubles)))))] sz xT)) (va_Ql (fun (r : Int64) (_ : Unit) => r = rv) (Pst G (tys Y) [(qx 0, oX9 qx x_points x_lines x_tide x_isKept x_isMuch x_sum x_once x_twice x_isTermMuch x_nodes x_newMany x_isTooGreat x_come x_foundSet), (qx 33, .inl (Y 0, 4, .inl x_sorts)), (qx 34, .inl (Y 0, 4, .inl x_sizes)), (qx 35, .inl (Y 1, 240, .inr (.inl x_wholes))), (qx 36, .inl (Y 2, 240, .inr (.inr (.inl x_floats)))), (qx 37, .inl (Y 3, 240, .inr (.inr (.inr (.inl x_doubles)))))] sz [(qx 0, oX9 qx x_points x_lines x_tide x_isKept x_isMuch x_sum x_once x_twice x_isTermMuch x_nodes x_newMany x_isTooGreat x_come x_foundSet), (qx 33, .inl (Y 0, 4, .inl x_sorts)), (qx 34, .inl (Y 0, 4, .inl x_sizes)), (qx 35, .inl (Y 1, 240, .inr (.inl x_wholes))), (qx 36, .inl (Y 2, 240, .inr (.inr (.inl x_floats)))), (qx 37, .inl (Y 3, 240, .inr (.inr (.inr (.inl x_doubles)))))]) (va_A [(qx 0, oX9 qx x_points x_lines x_tide x_isKept x_isMuch x_sum x_once x_twice x_isTermMuch x_nodes x_newMany x_isTooGreat x_come x_foundSet), (qx 33, .inl (Y 0, 4, .inl x_sorts)), (qx 34, .inl (Y 0, 4, .inl x_sizes)), (qx 35, .inl (Y 1, 240, .inr (.inl x_wholes))), (qx 36, .inl (Y 2, 240, .inr (.inr (.inl x_floats)))), (qx 37, .inl (Y 3, 240, .inr (.inr (.inr (.inl x_doubles)))))] sz)) 0 0 (va_A [(qx 0, oX9 qx x_points x_lines x_tide x_isKept x_isMuch x_sum x_once x_twice x_isTermMuch x_nodes x_newMany x_isTooGreat x_come x_foundSet), (qx 33, .inl (Y 0, 4, .inl x_sorts)), (qx 34, .inl (Y 0, 4, .inl x_sizes)), (qx 35, .inl (Y 1, 240, .inr (.inl x_wholes))), (qx 36, .inl (Y 2, 240, .inr (.inr (.inl x_floats)))), (qx 37, .inl (Y 3, 240, .inr (.inr (.inr (.inl x_doubles)))))] sz) := by
  refine Met.ofW (cc := cX9_read) (maxL := 6) (ret := (some .long)) (by decide) rfl ?_
  intro p e s m args below meth c s₁ B hml hv
  obtain ⟨rfl, hsz, hP, hK, hD0, hX⟩ := hv
  have hx := B.exec
  have hb := B.bytes
  have hr := B.returns
  have hts := atoms_spec (ws := wsX9_read) B.pre
  have hown : s.vm.findClass RX9 = some m.cls := findClass_of_methodNamed B.named
  have hlocks := B.notSynchronized
  subst hsz
  have hD := hD0.self (sz := s.heap.size)
  generalize hAe : va_A [(qx 0, oX9 qx x_points x_lines x_tide x_isKept x_isMuch x_sum x_once x_twice x_isTermMuch x_nodes x_newMany x_isTooGreat x_come x_foundSet), (qx 33, .inl (Y 0, 4, .inl x_sorts)), (qx 34, .inl (Y 0, 4, .inl x_sizes)), (qx 35, .inl (Y 1, 240, .inr (.inl x_wholes))), (qx 36, .inl (Y 2, 240, .inr (.inr (.inl x_floats)))), (qx 37, .inl (Y 3, 240, .inr (.inr (.inr (.inl x_doubles)))))] s.heap.size = A at hD ⊢
  have hA : ∀ q : Nat, s.heap.size ≤ q → A q := fun q h => by rw [← hAe]; exact Or.inr h
  have hS : va_S A s.heap s.heap [] := va_S.rf
  have hP : va_P G vwCl [(qx 0, oX9 qx x_points x_lines x_tide x_isKept x_isMuch x_sum x_once x_twice x_isTermMuch x_nodes x_newMany x_isTooGreat x_come x_foundSet), (qx 33, .inl (Y 0, 4, .inl x_sorts)), (qx 34, .inl (Y 0, 4, .inl x_sizes)), (qx 35, .inl (Y 1, 240, .inr (.inl x_wholes))), (qx 36, .inl (Y 2, 240, .inr (.inr (.inl x_floats)))), (qx 37, .inl (Y 3, 240, .inr (.inr (.inr (.inl x_doubles)))))] s.heap := hP
  have wd1 : (Cond.constantLong RX9 321 (4)).before [.ref (qx 0), .int p1, .int p2, .int p3].toArray s = true := hts _ (List.mem_of_getElem? (i := 1) rfl)
  have wd2 : (Cond.fieldLink RX9 65 "PairedLinesModel" "sorts" "[I").before [.ref (qx 0), .int p1, .int p2, .int p3].toArray s = true := hts _ (List.mem_of_getElem? (i := 2) rfl)
  have wd3 : (Cond.fieldLink RX9 71 "PairedLinesModel" "wholes" "[J").before [.ref (qx 0), .int p1, .int p2, .int p3].toArray s = true := hts _ (List.mem_of_getElem? (i := 3) rfl)
  have wd4 : (Cond.fieldLink RX9 74 "PairedLinesModel" "floats" "[F").before [.ref (qx 0), .int p1, .int p2, .int p3].toArray s = true := hts _ (List.mem_of_getElem? (i := 4) rfl)
  have wd5 : (Cond.fieldLink RX9 78 "PairedLinesModel" "doubles" "[D").before [.ref (qx 0), .int p1, .int p2, .int p3].toArray s = true := hts _ (List.mem_of_getElem? (i := 5) rfl)
  have inX9w : ∀ w ∈ u_ws RX9 TX9 37, w ∈ wsX9_read := fun w hw => List.mem_cons_of_mem _ (List.mem_append_right _ (hw))
  have hl := lv_entry ([.ref (qx 0), .int p1, .int p2, .int p3]) (n := 6) (Nat.le_of_ble_eq_true rfl)
  rw [lg_entry_eq]
  generalize (lg_sl ([.ref (qx 0), .int p1, .int p2, .int p3]) ++ List.replicate (6 - (lg_sl ([.ref (qx 0), .int p1, .int p2, .int p3])).length) Slot.unset).toArray = ls at hl ⊢
  have hl : lv_has ls 6 [(0, .ref (qx 0)), (1, .int p1), (2, .int p2), (3, .int p3)] := hl
  have E0 : ∀ (H : Heap) (locs : List Loc), va_P G vwCl [(qx 0, oX9 qx x_points x_lines x_tide x_isKept x_isMuch x_sum x_once x_twice x_isTermMuch x_nodes x_newMany x_isTooGreat x_come x_foundSet), (qx 33, .inl (Y 0, 4, .inl x_sorts)), (qx 34, .inl (Y 0, 4, .inl x_sizes)), (qx 35, .inl (Y 1, 240, .inr (.inl x_wholes))), (qx 36, .inl (Y 2, 240, .inr (.inr (.inl x_floats)))), (qx 37, .inl (Y 3, 240, .inr (.inr (.inr (.inl x_doubles)))))] H → va_D A [(qx 0, oX9 qx x_points x_lines x_tide x_isKept x_isMuch x_sum x_once x_twice x_isTermMuch x_nodes x_newMany x_isTooGreat x_come x_foundSet), (qx 33, .inl (Y 0, 4, .inl x_sorts)), (qx 34, .inl (Y 0, 4, .inl x_sizes)), (qx 35, .inl (Y 1, 240, .inr (.inl x_wholes))), (qx 36, .inl (Y 2, 240, .inr (.inr (.inl x_floats)))), (qx 37, .inl (Y 3, 240, .inr (.inr (.inr (.inl x_doubles)))))] → va_S A s.heap H locs → ∀ (ls : Array Slot), lv_has ls 6 [(0, .ref (qx 0)), (1, .int p1), (2, .int p2), (3, .int p3)] → W p l e (headSpec wsX9_read (rmk 3 84)).room s m [.ref (qx 0), .int p1, .int p2, .int p3].toArray below meth c H locs 0 0 (MQ below (va_Ql (fun (r : Int64) (_ : Unit) => r = rv) (Pst G (tys Y) [(qx 0, oX9 qx x_points x_lines x_tide x_isKept x_isMuch x_sum x_once x_twice x_isTermMuch x_nodes x_newMany x_isTooGreat x_come x_foundSet), (qx 33, .inl (Y 0, 4, .inl x_sorts)), (qx 34, .inl (Y 0, 4, .inl x_sizes)), (qx 35, .inl (Y 1, 240, .inr (.inl x_wholes))), (qx 36, .inl (Y 2, 240, .inr (.inr (.inl x_floats)))), (qx 37, .inl (Y 3, 240, .inr (.inr (.inr (.inl x_doubles)))))] s.heap.size [(qx 0, oX9 qx x_points x_lines x_tide x_isKept x_isMuch x_sum x_once x_twice x_isTermMuch x_nodes x_newMany x_isTooGreat x_come x_foundSet), (qx 33, .inl (Y 0, 4, .inl x_sorts)), (qx 34, .inl (Y 0, 4, .inl x_sizes)), (qx 35, .inl (Y 1, 240, .inr (.inl x_wholes))), (qx 36, .inl (Y 2, 240, .inr (.inr (.inl x_floats)))), (qx 37, .inl (Y 3, 240, .inr (.inr (.inr (.inl x_doubles)))))]) A) [.ref (qx 0), .int p1, .int p2, .int p3].toArray s 0 0 A) (F0 m 0 ls []) := by
    intro H locs hP hD hS ls hl
    unfold f_X9_read at hf
    refine lv_iload_n hx hb dX9_read_0 rfl (lv_at hl 1 rfl) ?_
    obtain ⟨r1, hc, hf⟩ := bd1 hf
    refine cl_i (ws' := [(qx 0, oX9 qx x_points x_lines x_tide x_isKept x_isMuch x_sum x_once x_twice x_isTermMuch x_nodes x_newMany x_isTooGreat x_come x_foundSet), (qx 33, .inl (Y 0, 4, .inl x_sorts)), (qx 34, .inl (Y 0, 4, .inl x_sizes)), (qx 35, .inl (Y 1, 240, .inr (.inl x_wholes))), (qx 36, .inl (Y 2, 240, .inr (.inr (.inl x_floats)))), (qx 37, .inl (Y 3, 240, .inr (.inr (.inr (.inl x_doubles)))))]) (wr := [(qx 0, oX9 qx x_points x_lines x_tide x_isKept x_isMuch x_sum x_once x_twice x_isTermMuch x_nodes x_newMany x_isTooGreat x_come x_foundSet), (qx 33, .inl (Y 0, 4, .inl x_sorts)), (qx 34, .inl (Y 0, 4, .inl x_sizes)), (qx 35, .inl (Y 1, 240, .inr (.inl x_wholes))), (qx 36, .inl (Y 2, 240, .inr (.inr (.inl x_floats)))), (qx 37, .inl (Y 3, 240, .inr (.inr (.inr (.inl x_doubles)))))]) (rnS (As := [.int p1]) (rest := []) ⟨hx, hb, hml, hown, hts⟩ (c_X9_isSheet l G Y H.size p1 r1 hc) (va_cwS 1 hts gX9_read_X9_isSheet rfl rfl rfl (by decide +kernel) ⟨(Nat.le_of_ble_eq_true rfl), (Nat.le_of_ble_eq_true rfl)⟩) trivial okT hK hP hD [] rfl rfl rfl hl.1 rfl (Nat.le_of_ble_eq_true rfl) dX9_read_1) hP hD hS hA [] [0, 1, 2, 3, 4, 5] [0, 1, 2, 3, 4, 5] rfl rfl rfl (by decide) rfl rfl (fun H locs hP hD hS => ?_)
    refine lv_if_eq (tgt := 19) hx hb dX9_read_4 (by decide) (fun c2 => ?_) (fun c2 => ?_)
    · have hf := it hf c2
      refine lv_bipush (v := -2) hx hb dX9_read_19 (by decide) ?_
      obtain ⟨r3, hc, hf⟩ := bd1 hf
      refine cl_l (ws' := [(qx 0, oX9 qx x_points x_lines x_tide x_isKept x_isMuch x_sum x_once x_twice x_isTermMuch x_nodes x_newMany x_isTooGreat x_come x_foundSet), (qx 33, .inl (Y 0, 4, .inl x_sorts)), (qx 34, .inl (Y 0, 4, .inl x_sizes)), (qx 35, .inl (Y 1, 240, .inr (.inl x_wholes))), (qx 36, .inl (Y 2, 240, .inr (.inr (.inl x_floats)))), (qx 37, .inl (Y 3, 240, .inr (.inr (.inr (.inl x_doubles)))))]) (wr := [(qx 0, oX9 qx x_points x_lines x_tide x_isKept x_isMuch x_sum x_once x_twice x_isTermMuch x_nodes x_newMany x_isTooGreat x_come x_foundSet), (qx 33, .inl (Y 0, 4, .inl x_sorts)), (qx 34, .inl (Y 0, 4, .inl x_sizes)), (qx 35, .inl (Y 1, 240, .inr (.inl x_wholes))), (qx 36, .inl (Y 2, 240, .inr (.inr (.inl x_floats)))), (qx 37, .inl (Y 3, 240, .inr (.inr (.inr (.inl x_doubles)))))]) (rnS (As := [.int (-2 : Int32)]) (rest := []) ⟨hx, hb, hml, hown, hts⟩ (c_X9_told l G Y H.size (-2 : Int32) r3 hc) (va_cwS 1 hts gX9_read_X9_told rfl rfl rfl (by decide +kernel) ⟨(Nat.le_of_ble_eq_true rfl), (Nat.le_of_ble_eq_true rfl)⟩) trivial okT hK hP hD [] rfl rfl rfl hl.1 rfl (Nat.le_of_ble_eq_true rfl) dX9_read_21) hP hD hS hA [] [0, 1, 2, 3, 4, 5] [0, 1, 2, 3, 4, 5] rfl rfl rfl (by decide) rfl rfl (fun H locs hP hD hS => ?_)
      have e0 := rt1 hf
      exact W.lret (v := r3) hx hb hr (fun t ht hW => ⟨⟨r3, (), rfl, e0, by rw [ht]; exact hP, va_K.moved hW.alike hK, by rw [hAe]; exact hD⟩, hS.F ht⟩) hS.2.2 dX9_read_24
    · have hf := ie hf c2
      refine lv_iload_n hx hb dX9_read_7 rfl (lv_at hl 3 rfl) ?_
      refine lv_i2l hx hb dX9_read_8 rfl ?_
      refine lv_lconst (v := 0) hx hb dX9_read_9 (by decide) ?_
      refine lv_ldc2 hx hb hown wd1 dX9_read_10 ?_
      obtain ⟨r4, hc, hf⟩ := bd1 hf
      refine cl_i (ws' := [(qx 0, oX9 qx x_points x_lines x_tide x_isKept x_isMuch x_sum x_once x_twice x_isTermMuch x_nodes x_newMany x_isTooGreat x_come x_foundSet), (qx 33, .inl (Y 0, 4, .inl x_sorts)), (qx 34, .inl (Y 0, 4, .inl x_sizes)), (qx 35, .inl (Y 1, 240, .inr (.inl x_wholes))), (qx 36, .inl (Y 2, 240, .inr (.inr (.inl x_floats)))), (qx 37, .inl (Y 3, 240, .inr (.inr (.inr (.inl x_doubles)))))]) (wr := [(qx 0, oX9 qx x_points x_lines x_tide x_isKept x_isMuch x_sum x_once x_twice x_isTermMuch x_nodes x_newMany x_isTooGreat x_come x_foundSet), (qx 33, .inl (Y 0, 4, .inl x_sorts)), (qx 34, .inl (Y 0, 4, .inl x_sizes)), (qx 35, .inl (Y 1, 240, .inr (.inl x_wholes))), (qx 36, .inl (Y 2, 240, .inr (.inr (.inl x_floats)))), (qx 37, .inl (Y 3, 240, .inr (.inr (.inr (.inl x_doubles)))))]) (rnS (As := [.long p3.toInt64, .long (0 : Int64), .long (4 : Int64)]) (rest := []) ⟨hx, hb, hml, hown, hts⟩ (c_X9_in l G Y H.size p3.toInt64 (0 : Int64) (4 : Int64) r4 hc) (va_cwS 3 hts gX9_read_X9_in rfl rfl rfl (by decide +kernel) ⟨(Nat.le_of_ble_eq_true rfl), (Nat.le_of_ble_eq_true rfl)⟩) trivial okT hK hP hD [] rfl rfl rfl hl.1 rfl (Nat.le_of_ble_eq_true rfl) dX9_read_13) hP hD hS hA [] [0, 1, 2, 3, 4, 5] [0, 1, 2, 3, 4, 5] rfl rfl rfl (by decide) rfl rfl (fun H locs hP hD hS => ?_)
      refine lv_if_ne (tgt := 25) hx hb dX9_read_16 (by decide) (fun c5 => ?_) (fun c5 => ?_)
      · have hf := ie hf c5
        refine lv_aload_n hx hb dX9_read_25 rfl (lv_at hl 0 rfl) ?_
        refine lv_iload_n hx hb dX9_read_26 rfl (lv_at hl 1 rfl) ?_
        refine lv_iload_n hx hb dX9_read_27 rfl (lv_at hl 2 rfl) ?_
        obtain ⟨r6, hc, hf⟩ := bd1 hf
        refine cl_i (ws' := [(qx 0, oX9 qx x_points x_lines x_tide x_isKept x_isMuch x_sum x_once x_twice x_isTermMuch x_nodes x_newMany x_isTooGreat x_come x_foundSet), (qx 33, .inl (Y 0, 4, .inl x_sorts)), (qx 34, .inl (Y 0, 4, .inl x_sizes)), (qx 35, .inl (Y 1, 240, .inr (.inl x_wholes))), (qx 36, .inl (Y 2, 240, .inr (.inr (.inl x_floats)))), (qx 37, .inl (Y 3, 240, .inr (.inr (.inr (.inl x_doubles)))))]) (wr := [(qx 35, .inl (Y 1, 240, .inr (.inl x_wholes))), (qx 36, .inl (Y 2, 240, .inr (.inr (.inl x_floats)))), (qx 37, .inl (Y 3, 240, .inr (.inr (.inr (.inl x_doubles)))))]) (rnV (As := [.int p1, .int p2]) (rest := []) ⟨hx, hb, hml, hown, hts⟩ (c_X9_wrong l G Y H.size qx x_points x_lines x_tide x_isKept x_isMuch x_sum x_once x_twice x_isTermMuch x_nodes x_newMany x_isTooGreat x_come x_foundSet x_sorts x_sizes p1 p2 r6 hc) (cwV 2 hts gX9_read_X9_wrong rfl rfl rfl (by decide +kernel) ⟨(Nat.le_of_ble_eq_true rfl), (Nat.le_of_ble_eq_true rfl)⟩) trivial okT hK hP hD [0, 1, 2] rfl rfl (ci := 7) (q0 := 0) rfl rfl rfl rfl hl.1 rfl (Nat.le_of_ble_eq_true rfl) dX9_read_28) hP hD hS hA [0, 1, 2] [3, 4, 5] [3, 4, 5, 0, 1, 2] rfl rfl rfl (by decide) rfl rfl (fun H locs hP hD hS => ?_)
        refine lv_istore (lv' := [(4, .int r6), (0, .ref (qx 0)), (1, .int p1), (2, .int p2), (3, .int p3)]) hx hb dX9_read_31 hl (by decide) rfl (fun ls hl => ?_)
        refine lv_iload hx hb dX9_read_33 (lv_at hl 0 rfl) ?_
        refine lv_if_eq (tgt := 44) hx hb dX9_read_35 (by decide) (fun c7 => ?_) (fun c7 => ?_)
        · have hf := it hf c7
          refine lv_bipush (v := 60) hx hb dX9_read_44 (by decide) ?_
          refine lv_iload_n hx hb dX9_read_46 rfl (lv_at hl 2 rfl) ?_
          refine lv_imul hx hb dX9_read_47 ?_
          refine lv_iload_n hx hb dX9_read_48 rfl (lv_at hl 3 rfl) ?_
          refine lv_iadd hx hb dX9_read_49 ?_
          refine lv_topi (fun v8 e_v8 => ?_)
          have hf := nm_at hf e_v8
          refine lv_istore (lv' := [(5, .int v8), (4, .int r6), (0, .ref (qx 0)), (1, .int p1), (2, .int p2), (3, .int p3)]) hx hb dX9_read_50 hl (by decide) rfl (fun ls hl => ?_)
          refine lv_aload_n hx hb dX9_read_52 rfl (lv_at hl 2 rfl) ?_
          refine va_get (D := G) (ci := 7) (v := .ref (qx 33)) (C := RX9) (T := TX9) (N := 37) hx hb hts inX9w hown hK hP 0 rfl rfl 32 (by decide) wd2 (fun _ h9 => h9) rfl dX9_read_53 ?_
          refine lv_iload_n hx hb dX9_read_56 rfl (lv_at hl 3 rfl) ?_
          obtain ⟨g9, hf⟩ := gd hf
          refine va_iald hx hb hK hP 1 0 rfl rfl g9 dX9_read_57 ?_
          refine lv_iconst (v := 2) hx hb dX9_read_58 (by decide) ?_
          refine lv_icmp_ge (tgt := 77) hx hb dX9_read_59 (by decide) (fun c10 => ?_) (fun c10 => ?_)
          · have hf := it hf c10
            refine lv_aload_n hx hb dX9_read_77 rfl (lv_at hl 2 rfl) ?_
            refine va_get (D := G) (ci := 7) (v := .ref (qx 33)) (C := RX9) (T := TX9) (N := 37) hx hb hts inX9w hown hK hP 0 rfl rfl 32 (by decide) wd2 (fun _ h9 => h9) rfl dX9_read_78 ?_
            refine lv_iload_n hx hb dX9_read_81 rfl (lv_at hl 3 rfl) ?_
            obtain ⟨g11, hf⟩ := gd hf
            refine va_iald hx hb hK hP 1 0 rfl rfl g11 dX9_read_82 ?_
            refine lv_iconst (v := 2) hx hb dX9_read_83 (by decide) ?_
            refine lv_icmp_ne (tgt := 102) hx hb dX9_read_84 (by decide) (fun c12 => ?_) (fun c12 => ?_)
            · have hf := ie hf c12
              refine lv_aload_n hx hb dX9_read_102 rfl (lv_at hl 2 rfl) ?_
              refine lv_aload_n hx hb dX9_read_103 rfl (lv_at hl 2 rfl) ?_
              refine va_get (D := G) (ci := 7) (v := .ref (qx 37)) (C := RX9) (T := TX9) (N := 37) hx hb hts inX9w hown hK hP 0 rfl rfl 36 (by decide) wd5 (fun _ h9 => h9) rfl dX9_read_104 ?_
              refine lv_iload hx hb dX9_read_107 (lv_at hl 0 rfl) ?_
              obtain ⟨g13, hf⟩ := gd hf
              refine va_dald hx hb hK hP 5 3 rfl rfl g13 dX9_read_109 ?_
              refine lv_iload_n hx hb dX9_read_110 rfl (lv_at hl 5 rfl) ?_
              obtain ⟨r14, hc, hf⟩ := bd1 hf
              refine cl_l (ws' := [(qx 0, oX9 qx x_points x_lines x_tide x_isKept x_isMuch x_sum x_once x_twice x_isTermMuch x_nodes x_newMany x_isTooGreat x_come x_foundSet), (qx 33, .inl (Y 0, 4, .inl x_sorts)), (qx 34, .inl (Y 0, 4, .inl x_sizes)), (qx 35, .inl (Y 1, 240, .inr (.inl x_wholes))), (qx 36, .inl (Y 2, 240, .inr (.inr (.inl x_floats)))), (qx 37, .inl (Y 3, 240, .inr (.inr (.inr (.inl x_doubles)))))]) (wr := [(qx 33, .inl (Y 0, 4, .inl x_sorts)), (qx 34, .inl (Y 0, 4, .inl x_sizes)), (qx 35, .inl (Y 1, 240, .inr (.inl x_wholes))), (qx 36, .inl (Y 2, 240, .inr (.inr (.inl x_floats)))), (qx 37, .inl (Y 3, 240, .inr (.inr (.inr (.inl x_doubles)))))]) (rnV (As := [.double (x_doubles v8.toNatClampNeg), .int p3]) (rest := []) ⟨hx, hb, hml, hown, hts⟩ (c_X9_readDouble l G Y H.size qx x_points x_lines x_tide x_isKept x_isMuch x_sum x_once x_twice x_isTermMuch x_nodes x_newMany x_isTooGreat x_come x_foundSet (x_doubles v8.toNatClampNeg) p3 r14 hc) (cwV 2 hts gX9_read_X9_readDouble rfl rfl rfl (by decide +kernel) ⟨(Nat.le_of_ble_eq_true rfl), (Nat.le_of_ble_eq_true rfl)⟩) trivial okT hK hP hD [0] rfl rfl (ci := 7) (q0 := 0) rfl rfl rfl rfl hl.1 rfl (Nat.le_of_ble_eq_true rfl) dX9_read_111) hP hD hS hA [0] [1, 2, 3, 4, 5] [5, 0, 1, 2, 3, 4] rfl rfl rfl (by decide) rfl rfl (fun H locs hP hD hS => ?_)
              have e0 := rt1 hf
              exact W.lret (v := r14) hx hb hr (fun t ht hW => ⟨⟨r14, (), rfl, e0, by rw [ht]; exact hP, va_K.moved hW.alike hK, by rw [hAe]; exact hD⟩, hS.F ht⟩) hS.2.2 dX9_read_114
            · have hf := it hf c12
              refine lv_aload_n hx hb dX9_read_87 rfl (lv_at hl 2 rfl) ?_
              refine lv_aload_n hx hb dX9_read_88 rfl (lv_at hl 2 rfl) ?_
              refine va_get (D := G) (ci := 7) (v := .ref (qx 36)) (C := RX9) (T := TX9) (N := 37) hx hb hts inX9w hown hK hP 0 rfl rfl 35 (by decide) wd4 (fun _ h9 => h9) rfl dX9_read_89 ?_
              refine lv_iload hx hb dX9_read_92 (lv_at hl 0 rfl) ?_
              obtain ⟨g15, hf⟩ := gd hf
              refine va_fald hx hb hK hP 4 2 rfl rfl g15 dX9_read_94 ?_
              refine lv_iload_n hx hb dX9_read_95 rfl (lv_at hl 5 rfl) ?_
              obtain ⟨r16, hc, hf⟩ := bd1 hf
              refine cl_l (ws' := [(qx 0, oX9 qx x_points x_lines x_tide x_isKept x_isMuch x_sum x_once x_twice x_isTermMuch x_nodes x_newMany x_isTooGreat x_come x_foundSet), (qx 33, .inl (Y 0, 4, .inl x_sorts)), (qx 34, .inl (Y 0, 4, .inl x_sizes)), (qx 35, .inl (Y 1, 240, .inr (.inl x_wholes))), (qx 36, .inl (Y 2, 240, .inr (.inr (.inl x_floats)))), (qx 37, .inl (Y 3, 240, .inr (.inr (.inr (.inl x_doubles)))))]) (wr := [(qx 33, .inl (Y 0, 4, .inl x_sorts)), (qx 34, .inl (Y 0, 4, .inl x_sizes)), (qx 35, .inl (Y 1, 240, .inr (.inl x_wholes))), (qx 36, .inl (Y 2, 240, .inr (.inr (.inl x_floats)))), (qx 37, .inl (Y 3, 240, .inr (.inr (.inr (.inl x_doubles)))))]) (rnV (As := [.float (x_floats v8.toNatClampNeg), .int p3]) (rest := []) ⟨hx, hb, hml, hown, hts⟩ (c_X9_readFloat l G Y H.size qx x_points x_lines x_tide x_isKept x_isMuch x_sum x_once x_twice x_isTermMuch x_nodes x_newMany x_isTooGreat x_come x_foundSet (x_floats v8.toNatClampNeg) p3 r16 hc) (cwV 2 hts gX9_read_X9_readFloat rfl rfl rfl (by decide +kernel) ⟨(Nat.le_of_ble_eq_true rfl), (Nat.le_of_ble_eq_true rfl)⟩) trivial okT hK hP hD [0] rfl rfl (ci := 7) (q0 := 0) rfl rfl rfl rfl hl.1 rfl (Nat.le_of_ble_eq_true rfl) dX9_read_96) hP hD hS hA [0] [1, 2, 3, 4, 5] [5, 0, 1, 2, 3, 4] rfl rfl rfl (by decide) rfl rfl (fun H locs hP hD hS => ?_)
              refine lv_goto (tgt := 114) hx hb dX9_read_99 (by decide) ?_
              have e0 := rt1 hf
              exact W.lret (v := r16) hx hb hr (fun t ht hW => ⟨⟨r16, (), rfl, e0, by rw [ht]; exact hP, va_K.moved hW.alike hK, by rw [hAe]; exact hD⟩, hS.F ht⟩) hS.2.2 dX9_read_114
          · have hf := ie hf c10
            refine lv_aload_n hx hb dX9_read_62 rfl (lv_at hl 2 rfl) ?_
            refine lv_aload_n hx hb dX9_read_63 rfl (lv_at hl 2 rfl) ?_
            refine va_get (D := G) (ci := 7) (v := .ref (qx 35)) (C := RX9) (T := TX9) (N := 37) hx hb hts inX9w hown hK hP 0 rfl rfl 34 (by decide) wd3 (fun _ h9 => h9) rfl dX9_read_64 ?_
            refine lv_iload hx hb dX9_read_67 (lv_at hl 0 rfl) ?_
            obtain ⟨g17, hf⟩ := gd hf
            refine va_lald hx hb hK hP 3 1 rfl rfl g17 dX9_read_69 ?_
            refine lv_iload_n hx hb dX9_read_70 rfl (lv_at hl 5 rfl) ?_
            obtain ⟨r18, hc, hf⟩ := bd1 hf
            refine cl_l (ws' := [(qx 0, oX9 qx x_points x_lines x_tide x_isKept x_isMuch x_sum x_once x_twice x_isTermMuch x_nodes x_newMany x_isTooGreat x_come x_foundSet), (qx 33, .inl (Y 0, 4, .inl x_sorts)), (qx 34, .inl (Y 0, 4, .inl x_sizes)), (qx 35, .inl (Y 1, 240, .inr (.inl x_wholes))), (qx 36, .inl (Y 2, 240, .inr (.inr (.inl x_floats)))), (qx 37, .inl (Y 3, 240, .inr (.inr (.inr (.inl x_doubles)))))]) (wr := [(qx 33, .inl (Y 0, 4, .inl x_sorts)), (qx 34, .inl (Y 0, 4, .inl x_sizes)), (qx 35, .inl (Y 1, 240, .inr (.inl x_wholes))), (qx 36, .inl (Y 2, 240, .inr (.inr (.inl x_floats)))), (qx 37, .inl (Y 3, 240, .inr (.inr (.inr (.inl x_doubles)))))]) (rnV (As := [.long (x_wholes v8.toNatClampNeg), .int p3]) (rest := []) ⟨hx, hb, hml, hown, hts⟩ (c_X9_readWhole l G Y H.size qx x_points x_lines x_tide x_isKept x_isMuch x_sum x_once x_twice x_isTermMuch x_nodes x_newMany x_isTooGreat x_come x_foundSet (x_wholes v8.toNatClampNeg) p3 r18 hc) (cwV 2 hts gX9_read_X9_readWhole rfl rfl rfl (by decide +kernel) ⟨(Nat.le_of_ble_eq_true rfl), (Nat.le_of_ble_eq_true rfl)⟩) trivial okT hK hP hD [0] rfl rfl (ci := 7) (q0 := 0) rfl rfl rfl rfl hl.1 rfl (Nat.le_of_ble_eq_true rfl) dX9_read_71) hP hD hS hA [0] [1, 2, 3, 4, 5] [5, 0, 1, 2, 3, 4] rfl rfl rfl (by decide) rfl rfl (fun H locs hP hD hS => ?_)
            refine lv_goto (tgt := 114) hx hb dX9_read_74 (by decide) ?_
            have e0 := rt1 hf
            exact W.lret (v := r18) hx hb hr (fun t ht hW => ⟨⟨r18, (), rfl, e0, by rw [ht]; exact hP, va_K.moved hW.alike hK, by rw [hAe]; exact hD⟩, hS.F ht⟩) hS.2.2 dX9_read_114
        · have hf := ie hf c7
          refine lv_iload hx hb dX9_read_38 (lv_at hl 0 rfl) ?_
          obtain ⟨r19, hc, hf⟩ := bd1 hf
          refine cl_l (ws' := [(qx 0, oX9 qx x_points x_lines x_tide x_isKept x_isMuch x_sum x_once x_twice x_isTermMuch x_nodes x_newMany x_isTooGreat x_come x_foundSet), (qx 33, .inl (Y 0, 4, .inl x_sorts)), (qx 34, .inl (Y 0, 4, .inl x_sizes)), (qx 35, .inl (Y 1, 240, .inr (.inl x_wholes))), (qx 36, .inl (Y 2, 240, .inr (.inr (.inl x_floats)))), (qx 37, .inl (Y 3, 240, .inr (.inr (.inr (.inl x_doubles)))))]) (wr := [(qx 0, oX9 qx x_points x_lines x_tide x_isKept x_isMuch x_sum x_once x_twice x_isTermMuch x_nodes x_newMany x_isTooGreat x_come x_foundSet), (qx 33, .inl (Y 0, 4, .inl x_sorts)), (qx 34, .inl (Y 0, 4, .inl x_sizes)), (qx 35, .inl (Y 1, 240, .inr (.inl x_wholes))), (qx 36, .inl (Y 2, 240, .inr (.inr (.inl x_floats)))), (qx 37, .inl (Y 3, 240, .inr (.inr (.inr (.inl x_doubles)))))]) (rnS (As := [.int r6]) (rest := []) ⟨hx, hb, hml, hown, hts⟩ (c_X9_told l G Y H.size r6 r19 hc) (va_cwS 1 hts gX9_read_X9_told rfl rfl rfl (by decide +kernel) ⟨(Nat.le_of_ble_eq_true rfl), (Nat.le_of_ble_eq_true rfl)⟩) trivial okT hK hP hD [] rfl rfl rfl hl.1 rfl (Nat.le_of_ble_eq_true rfl) dX9_read_40) hP hD hS hA [] [0, 1, 2, 3, 4, 5] [0, 1, 2, 3, 4, 5] rfl rfl rfl (by decide) rfl rfl (fun H locs hP hD hS => ?_)
          have e0 := rt1 hf
          exact W.lret (v := r19) hx hb hr (fun t ht hW => ⟨⟨r19, (), rfl, e0, by rw [ht]; exact hP, va_K.moved hW.alike hK, by rw [hAe]; exact hD⟩, hS.F ht⟩) hS.2.2 dX9_read_43
      · have hf := it hf c5
        refine lv_bipush (v := -2) hx hb dX9_read_19 (by decide) ?_
        obtain ⟨r20, hc, hf⟩ := bd1 hf
        refine cl_l (ws' := [(qx 0, oX9 qx x_points x_lines x_tide x_isKept x_isMuch x_sum x_once x_twice x_isTermMuch x_nodes x_newMany x_isTooGreat x_come x_foundSet), (qx 33, .inl (Y 0, 4, .inl x_sorts)), (qx 34, .inl (Y 0, 4, .inl x_sizes)), (qx 35, .inl (Y 1, 240, .inr (.inl x_wholes))), (qx 36, .inl (Y 2, 240, .inr (.inr (.inl x_floats)))), (qx 37, .inl (Y 3, 240, .inr (.inr (.inr (.inl x_doubles)))))]) (wr := [(qx 0, oX9 qx x_points x_lines x_tide x_isKept x_isMuch x_sum x_once x_twice x_isTermMuch x_nodes x_newMany x_isTooGreat x_come x_foundSet), (qx 33, .inl (Y 0, 4, .inl x_sorts)), (qx 34, .inl (Y 0, 4, .inl x_sizes)), (qx 35, .inl (Y 1, 240, .inr (.inl x_wholes))), (qx 36, .inl (Y 2, 240, .inr (.inr (.inl x_floats)))), (qx 37, .inl (Y 3, 240, .inr (.inr (.inr (.inl x_doubles)))))]) (rnS (As := [.int (-2 : Int32)]) (rest := []) ⟨hx, hb, hml, hown, hts⟩ (c_X9_told l G Y H.size (-2 : Int32) r20 hc) (va_cwS 1 hts gX9_read_X9_told rfl rfl rfl (by decide +kernel) ⟨(Nat.le_of_ble_eq_true rfl), (Nat.le_of_ble_eq_true rfl)⟩) trivial okT hK hP hD [] rfl rfl rfl hl.1 rfl (Nat.le_of_ble_eq_true rfl) dX9_read_21) hP hD hS hA [] [0, 1, 2, 3, 4, 5] [0, 1, 2, 3, 4, 5] rfl rfl rfl (by decide) rfl rfl (fun H locs hP hD hS => ?_)
        have e0 := rt1 hf
        exact W.lret (v := r20) hx hb hr (fun t ht hW => ⟨⟨r20, (), rfl, e0, by rw [ht]; exact hP, va_K.moved hW.alike hK, by rw [hAe]; exact hD⟩, hS.F ht⟩) hS.2.2 dX9_read_24
  exact E0 s.heap [] hP hD hS ls hl
-- X9_parts
set_option maxRecDepth 100000 in
set_option maxHeartbeats 4000000 in
theorem c_X9_parts (l : Launch) (G : va_G) (Y : Nat → ClassId) (sz : Nat) (qx : Nat → Nat) (x_points : Int32) (x_lines : Int32) (x_tide : Int32) (x_isKept : Int32) (x_isMuch : Int32) (x_sum : Int64) (x_once : Int64) (x_twice : Int64) (x_isTermMuch : Int32) (x_nodes : Int32) (x_newMany : Int32) (x_isTooGreat : Int32) (x_come : Int32) (x_foundSet : Int64) (x_sorts : Nat → Int32) (x_sizes : Nat → Int32) (x_wholes : Nat → Int64) (x_floats : Nat → UInt32) (x_doubles : Nat → UInt64) (p1 : Int32) (p2 : Int32) (p3 : Int32) (rv : Int32) (o_x_wholes : Nat → Int64) (o_x_floats : Nat → UInt32) (o_x_doubles : Nat → UInt64) (hf : f_X9_parts x_sorts x_sizes x_wholes x_floats x_doubles p1 p2 p3 = some (rv, o_x_wholes, o_x_floats, o_x_doubles)) : Met l yX9_parts wsX9_parts (rmk 3 67) (va_Pc [.ref (qx 0), .int p1, .int p2, .int p3] (Pre G (tys Y) [(qx 0, oX9 qx x_points x_lines x_tide x_isKept x_isMuch x_sum x_once x_twice x_isTermMuch x_nodes x_newMany x_isTooGreat x_come x_foundSet), (qx 33, .inl (Y 0, 4, .inl x_sorts)), (qx 34, .inl (Y 0, 4, .inl x_sizes)), (qx 35, .inl (Y 1, 240, .inr (.inl x_wholes))), (qx 36, .inl (Y 2, 240, .inr (.inr (.inl x_floats)))), (qx 37, .inl (Y 3, 240, .inr (.inr (.inr (.inl x_doubles)))))] sz xT)) (va_Qi (fun (r : Int32) (_ : Unit) => r = rv) (Pst G (tys Y) [(qx 0, oX9 qx x_points x_lines x_tide x_isKept x_isMuch x_sum x_once x_twice x_isTermMuch x_nodes x_newMany x_isTooGreat x_come x_foundSet), (qx 33, .inl (Y 0, 4, .inl x_sorts)), (qx 34, .inl (Y 0, 4, .inl x_sizes)), (qx 35, .inl (Y 1, 240, .inr (.inl x_wholes))), (qx 36, .inl (Y 2, 240, .inr (.inr (.inl x_floats)))), (qx 37, .inl (Y 3, 240, .inr (.inr (.inr (.inl x_doubles)))))] sz [(qx 0, oX9 qx x_points x_lines x_tide x_isKept x_isMuch x_sum x_once x_twice x_isTermMuch x_nodes x_newMany x_isTooGreat x_come x_foundSet), (qx 33, .inl (Y 0, 4, .inl x_sorts)), (qx 34, .inl (Y 0, 4, .inl x_sizes)), (qx 35, .inl (Y 1, 240, .inr (.inl o_x_wholes))), (qx 36, .inl (Y 2, 240, .inr (.inr (.inl o_x_floats)))), (qx 37, .inl (Y 3, 240, .inr (.inr (.inr (.inl o_x_doubles)))))]) (va_A [(qx 0, oX9 qx x_points x_lines x_tide x_isKept x_isMuch x_sum x_once x_twice x_isTermMuch x_nodes x_newMany x_isTooGreat x_come x_foundSet), (qx 33, .inl (Y 0, 4, .inl x_sorts)), (qx 34, .inl (Y 0, 4, .inl x_sizes)), (qx 35, .inl (Y 1, 240, .inr (.inl x_wholes))), (qx 36, .inl (Y 2, 240, .inr (.inr (.inl x_floats)))), (qx 37, .inl (Y 3, 240, .inr (.inr (.inr (.inl x_doubles)))))] sz)) 0 0 (va_A [(qx 0, oX9 qx x_points x_lines x_tide x_isKept x_isMuch x_sum x_once x_twice x_isTermMuch x_nodes x_newMany x_isTooGreat x_come x_foundSet), (qx 33, .inl (Y 0, 4, .inl x_sorts)), (qx 34, .inl (Y 0, 4, .inl x_sizes)), (qx 35, .inl (Y 1, 240, .inr (.inl x_wholes))), (qx 36, .inl (Y 2, 240, .inr (.inr (.inl x_floats)))), (qx 37, .inl (Y 3, 240, .inr (.inr (.inr (.inl x_doubles)))))] sz) := by
  refine Met.ofW (cc := cX9_parts) (maxL := 6) (ret := (some .int)) (by decide) rfl ?_
  intro p e s m args below meth c s₁ B hml hv
  obtain ⟨rfl, hsz, hP, hK, hD0, hX⟩ := hv
  have hx := B.exec
  have hb := B.bytes
  have hr := B.returns
  have hts := atoms_spec (ws := wsX9_parts) B.pre
  have hown : s.vm.findClass RX9 = some m.cls := findClass_of_methodNamed B.named
  have hlocks := B.notSynchronized
  subst hsz
  have hD := hD0.self (sz := s.heap.size)
  generalize hAe : va_A [(qx 0, oX9 qx x_points x_lines x_tide x_isKept x_isMuch x_sum x_once x_twice x_isTermMuch x_nodes x_newMany x_isTooGreat x_come x_foundSet), (qx 33, .inl (Y 0, 4, .inl x_sorts)), (qx 34, .inl (Y 0, 4, .inl x_sizes)), (qx 35, .inl (Y 1, 240, .inr (.inl x_wholes))), (qx 36, .inl (Y 2, 240, .inr (.inr (.inl x_floats)))), (qx 37, .inl (Y 3, 240, .inr (.inr (.inr (.inl x_doubles)))))] s.heap.size = A at hD ⊢
  have hA : ∀ q : Nat, s.heap.size ≤ q → A q := fun q h => by rw [← hAe]; exact Or.inr h
  have hS : va_S A s.heap s.heap [] := va_S.rf
  have hP : va_P G vwCl [(qx 0, oX9 qx x_points x_lines x_tide x_isKept x_isMuch x_sum x_once x_twice x_isTermMuch x_nodes x_newMany x_isTooGreat x_come x_foundSet), (qx 33, .inl (Y 0, 4, .inl x_sorts)), (qx 34, .inl (Y 0, 4, .inl x_sizes)), (qx 35, .inl (Y 1, 240, .inr (.inl x_wholes))), (qx 36, .inl (Y 2, 240, .inr (.inr (.inl x_floats)))), (qx 37, .inl (Y 3, 240, .inr (.inr (.inr (.inl x_doubles)))))] s.heap := hP
  have wd1 : (Cond.constantLong RX9 335 (99)).before [.ref (qx 0), .int p1, .int p2, .int p3].toArray s = true := hts _ (List.mem_of_getElem? (i := 1) rfl)
  have wd2 : (Cond.fieldLink RX9 71 "PairedLinesModel" "wholes" "[J").before [.ref (qx 0), .int p1, .int p2, .int p3].toArray s = true := hts _ (List.mem_of_getElem? (i := 2) rfl)
  have wd3 : (Cond.fieldLink RX9 74 "PairedLinesModel" "floats" "[F").before [.ref (qx 0), .int p1, .int p2, .int p3].toArray s = true := hts _ (List.mem_of_getElem? (i := 3) rfl)
  have wd4 : (Cond.fieldLink RX9 78 "PairedLinesModel" "doubles" "[D").before [.ref (qx 0), .int p1, .int p2, .int p3].toArray s = true := hts _ (List.mem_of_getElem? (i := 4) rfl)
  have inX9w : ∀ w ∈ u_ws RX9 TX9 37, w ∈ wsX9_parts := fun w hw => List.mem_cons_of_mem _ (List.mem_append_right _ (hw))
  have hl := lv_entry ([.ref (qx 0), .int p1, .int p2, .int p3]) (n := 6) (Nat.le_of_ble_eq_true rfl)
  rw [lg_entry_eq]
  generalize (lg_sl ([.ref (qx 0), .int p1, .int p2, .int p3]) ++ List.replicate (6 - (lg_sl ([.ref (qx 0), .int p1, .int p2, .int p3])).length) Slot.unset).toArray = ls at hl ⊢
  have hl : lv_has ls 6 [(0, .ref (qx 0)), (1, .int p1), (2, .int p2), (3, .int p3)] := hl
  have E0 : ∀ (H : Heap) (locs : List Loc), va_P G vwCl [(qx 0, oX9 qx x_points x_lines x_tide x_isKept x_isMuch x_sum x_once x_twice x_isTermMuch x_nodes x_newMany x_isTooGreat x_come x_foundSet), (qx 33, .inl (Y 0, 4, .inl x_sorts)), (qx 34, .inl (Y 0, 4, .inl x_sizes)), (qx 35, .inl (Y 1, 240, .inr (.inl x_wholes))), (qx 36, .inl (Y 2, 240, .inr (.inr (.inl x_floats)))), (qx 37, .inl (Y 3, 240, .inr (.inr (.inr (.inl x_doubles)))))] H → va_D A [(qx 0, oX9 qx x_points x_lines x_tide x_isKept x_isMuch x_sum x_once x_twice x_isTermMuch x_nodes x_newMany x_isTooGreat x_come x_foundSet), (qx 33, .inl (Y 0, 4, .inl x_sorts)), (qx 34, .inl (Y 0, 4, .inl x_sizes)), (qx 35, .inl (Y 1, 240, .inr (.inl x_wholes))), (qx 36, .inl (Y 2, 240, .inr (.inr (.inl x_floats)))), (qx 37, .inl (Y 3, 240, .inr (.inr (.inr (.inl x_doubles)))))] → va_S A s.heap H locs → ∀ (ls : Array Slot), lv_has ls 6 [(0, .ref (qx 0)), (1, .int p1), (2, .int p2), (3, .int p3)] → W p l e (headSpec wsX9_parts (rmk 3 67)).room s m [.ref (qx 0), .int p1, .int p2, .int p3].toArray below meth c H locs 0 0 (MQ below (va_Qi (fun (r : Int32) (_ : Unit) => r = rv) (Pst G (tys Y) [(qx 0, oX9 qx x_points x_lines x_tide x_isKept x_isMuch x_sum x_once x_twice x_isTermMuch x_nodes x_newMany x_isTooGreat x_come x_foundSet), (qx 33, .inl (Y 0, 4, .inl x_sorts)), (qx 34, .inl (Y 0, 4, .inl x_sizes)), (qx 35, .inl (Y 1, 240, .inr (.inl x_wholes))), (qx 36, .inl (Y 2, 240, .inr (.inr (.inl x_floats)))), (qx 37, .inl (Y 3, 240, .inr (.inr (.inr (.inl x_doubles)))))] s.heap.size [(qx 0, oX9 qx x_points x_lines x_tide x_isKept x_isMuch x_sum x_once x_twice x_isTermMuch x_nodes x_newMany x_isTooGreat x_come x_foundSet), (qx 33, .inl (Y 0, 4, .inl x_sorts)), (qx 34, .inl (Y 0, 4, .inl x_sizes)), (qx 35, .inl (Y 1, 240, .inr (.inl o_x_wholes))), (qx 36, .inl (Y 2, 240, .inr (.inr (.inl o_x_floats)))), (qx 37, .inl (Y 3, 240, .inr (.inr (.inr (.inl o_x_doubles)))))]) A) [.ref (qx 0), .int p1, .int p2, .int p3].toArray s 0 0 A) (F0 m 0 ls []) := by
    intro H locs hP hD hS ls hl
    unfold f_X9_parts at hf
    refine lv_iload_n hx hb dX9_parts_0 rfl (lv_at hl 1 rfl) ?_
    obtain ⟨r1, hc, hf⟩ := bd1 hf
    refine cl_i (ws' := [(qx 0, oX9 qx x_points x_lines x_tide x_isKept x_isMuch x_sum x_once x_twice x_isTermMuch x_nodes x_newMany x_isTooGreat x_come x_foundSet), (qx 33, .inl (Y 0, 4, .inl x_sorts)), (qx 34, .inl (Y 0, 4, .inl x_sizes)), (qx 35, .inl (Y 1, 240, .inr (.inl x_wholes))), (qx 36, .inl (Y 2, 240, .inr (.inr (.inl x_floats)))), (qx 37, .inl (Y 3, 240, .inr (.inr (.inr (.inl x_doubles)))))]) (wr := [(qx 0, oX9 qx x_points x_lines x_tide x_isKept x_isMuch x_sum x_once x_twice x_isTermMuch x_nodes x_newMany x_isTooGreat x_come x_foundSet), (qx 33, .inl (Y 0, 4, .inl x_sorts)), (qx 34, .inl (Y 0, 4, .inl x_sizes)), (qx 35, .inl (Y 1, 240, .inr (.inl x_wholes))), (qx 36, .inl (Y 2, 240, .inr (.inr (.inl x_floats)))), (qx 37, .inl (Y 3, 240, .inr (.inr (.inr (.inl x_doubles)))))]) (rnS (As := [.int p1]) (rest := []) ⟨hx, hb, hml, hown, hts⟩ (c_X9_isSheet l G Y H.size p1 r1 hc) (va_cwS 1 hts gX9_parts_X9_isSheet rfl rfl rfl (by decide +kernel) ⟨(Nat.le_of_ble_eq_true rfl), (Nat.le_of_ble_eq_true rfl)⟩) trivial okT hK hP hD [] rfl rfl rfl hl.1 rfl (Nat.le_of_ble_eq_true rfl) dX9_parts_1) hP hD hS hA [] [0, 1, 2, 3, 4, 5] [0, 1, 2, 3, 4, 5] rfl rfl rfl (by decide) rfl rfl (fun H locs hP hD hS => ?_)
    refine lv_if_eq (tgt := 19) hx hb dX9_parts_4 (by decide) (fun c2 => ?_) (fun c2 => ?_)
    · have hf := it hf c2
      refine lv_bipush (v := -2) hx hb dX9_parts_19 (by decide) ?_
      obtain ⟨e0, e1, e2, e3⟩ := rt4 hf
      have hP : va_P G vwCl [(qx 0, oX9 qx x_points x_lines x_tide x_isKept x_isMuch x_sum x_once x_twice x_isTermMuch x_nodes x_newMany x_isTooGreat x_come x_foundSet), (qx 33, .inl (Y 0, 4, .inl x_sorts)), (qx 34, .inl (Y 0, 4, .inl x_sizes)), (qx 35, .inl (Y 1, 240, .inr (.inl o_x_wholes))), (qx 36, .inl (Y 2, 240, .inr (.inr (.inl o_x_floats)))), (qx 37, .inl (Y 3, 240, .inr (.inr (.inr (.inl o_x_doubles)))))] H := by rw [← e1, ← e2, ← e3]; exact hP
      have hD : va_D A [(qx 0, oX9 qx x_points x_lines x_tide x_isKept x_isMuch x_sum x_once x_twice x_isTermMuch x_nodes x_newMany x_isTooGreat x_come x_foundSet), (qx 33, .inl (Y 0, 4, .inl x_sorts)), (qx 34, .inl (Y 0, 4, .inl x_sizes)), (qx 35, .inl (Y 1, 240, .inr (.inl o_x_wholes))), (qx 36, .inl (Y 2, 240, .inr (.inr (.inl o_x_floats)))), (qx 37, .inl (Y 3, 240, .inr (.inr (.inr (.inl o_x_doubles)))))] := by rw [← e1, ← e2, ← e3]; exact hD
      exact W.iret (v := (-2 : Int32)) hx hb hr (fun t ht hW => ⟨⟨(-2 : Int32), (), rfl, e0, by rw [ht]; exact hP, va_K.moved hW.alike hK, by rw [hAe]; exact hD⟩, hS.F ht⟩) hS.2.2 dX9_parts_21
    · have hf := ie hf c2
      refine lv_iload_n hx hb dX9_parts_7 rfl (lv_at hl 3 rfl) ?_
      refine lv_i2l hx hb dX9_parts_8 rfl ?_
      refine lv_lconst (v := 1) hx hb dX9_parts_9 (by decide) ?_
      refine lv_ldc2 hx hb hown wd1 dX9_parts_10 ?_
      obtain ⟨r3, hc, hf⟩ := bd1 hf
      refine cl_i (ws' := [(qx 0, oX9 qx x_points x_lines x_tide x_isKept x_isMuch x_sum x_once x_twice x_isTermMuch x_nodes x_newMany x_isTooGreat x_come x_foundSet), (qx 33, .inl (Y 0, 4, .inl x_sorts)), (qx 34, .inl (Y 0, 4, .inl x_sizes)), (qx 35, .inl (Y 1, 240, .inr (.inl x_wholes))), (qx 36, .inl (Y 2, 240, .inr (.inr (.inl x_floats)))), (qx 37, .inl (Y 3, 240, .inr (.inr (.inr (.inl x_doubles)))))]) (wr := [(qx 0, oX9 qx x_points x_lines x_tide x_isKept x_isMuch x_sum x_once x_twice x_isTermMuch x_nodes x_newMany x_isTooGreat x_come x_foundSet), (qx 33, .inl (Y 0, 4, .inl x_sorts)), (qx 34, .inl (Y 0, 4, .inl x_sizes)), (qx 35, .inl (Y 1, 240, .inr (.inl x_wholes))), (qx 36, .inl (Y 2, 240, .inr (.inr (.inl x_floats)))), (qx 37, .inl (Y 3, 240, .inr (.inr (.inr (.inl x_doubles)))))]) (rnS (As := [.long p3.toInt64, .long (1 : Int64), .long (99 : Int64)]) (rest := []) ⟨hx, hb, hml, hown, hts⟩ (c_X9_in l G Y H.size p3.toInt64 (1 : Int64) (99 : Int64) r3 hc) (va_cwS 3 hts gX9_parts_X9_in rfl rfl rfl (by decide +kernel) ⟨(Nat.le_of_ble_eq_true rfl), (Nat.le_of_ble_eq_true rfl)⟩) trivial okT hK hP hD [] rfl rfl rfl hl.1 rfl (Nat.le_of_ble_eq_true rfl) dX9_parts_13) hP hD hS hA [] [0, 1, 2, 3, 4, 5] [0, 1, 2, 3, 4, 5] rfl rfl rfl (by decide) rfl rfl (fun H locs hP hD hS => ?_)
      refine lv_if_ne (tgt := 22) hx hb dX9_parts_16 (by decide) (fun c4 => ?_) (fun c4 => ?_)
      · have hf := ie hf c4
        refine lv_aload_n hx hb dX9_parts_22 rfl (lv_at hl 0 rfl) ?_
        refine lv_iload_n hx hb dX9_parts_23 rfl (lv_at hl 1 rfl) ?_
        refine lv_iload_n hx hb dX9_parts_24 rfl (lv_at hl 2 rfl) ?_
        obtain ⟨r5, hc, hf⟩ := bd1 hf
        refine cl_i (ws' := [(qx 0, oX9 qx x_points x_lines x_tide x_isKept x_isMuch x_sum x_once x_twice x_isTermMuch x_nodes x_newMany x_isTooGreat x_come x_foundSet), (qx 33, .inl (Y 0, 4, .inl x_sorts)), (qx 34, .inl (Y 0, 4, .inl x_sizes)), (qx 35, .inl (Y 1, 240, .inr (.inl x_wholes))), (qx 36, .inl (Y 2, 240, .inr (.inr (.inl x_floats)))), (qx 37, .inl (Y 3, 240, .inr (.inr (.inr (.inl x_doubles)))))]) (wr := [(qx 35, .inl (Y 1, 240, .inr (.inl x_wholes))), (qx 36, .inl (Y 2, 240, .inr (.inr (.inl x_floats)))), (qx 37, .inl (Y 3, 240, .inr (.inr (.inr (.inl x_doubles)))))]) (rnV (As := [.int p1, .int p2]) (rest := []) ⟨hx, hb, hml, hown, hts⟩ (c_X9_wrong l G Y H.size qx x_points x_lines x_tide x_isKept x_isMuch x_sum x_once x_twice x_isTermMuch x_nodes x_newMany x_isTooGreat x_come x_foundSet x_sorts x_sizes p1 p2 r5 hc) (cwV 2 hts gX9_parts_X9_wrong rfl rfl rfl (by decide +kernel) ⟨(Nat.le_of_ble_eq_true rfl), (Nat.le_of_ble_eq_true rfl)⟩) trivial okT hK hP hD [0, 1, 2] rfl rfl (ci := 7) (q0 := 0) rfl rfl rfl rfl hl.1 rfl (Nat.le_of_ble_eq_true rfl) dX9_parts_25) hP hD hS hA [0, 1, 2] [3, 4, 5] [3, 4, 5, 0, 1, 2] rfl rfl rfl (by decide) rfl rfl (fun H locs hP hD hS => ?_)
        refine lv_istore (lv' := [(4, .int r5), (0, .ref (qx 0)), (1, .int p1), (2, .int p2), (3, .int p3)]) hx hb dX9_parts_28 hl (by decide) rfl (fun ls hl => ?_)
        refine lv_iload hx hb dX9_parts_30 (lv_at hl 0 rfl) ?_
        refine lv_if_eq (tgt := 38) hx hb dX9_parts_32 (by decide) (fun c6 => ?_) (fun c6 => ?_)
        · have hf := it hf c6
          refine lv_bipush (v := 60) hx hb dX9_parts_38 (by decide) ?_
          refine lv_iload_n hx hb dX9_parts_40 rfl (lv_at hl 2 rfl) ?_
          refine lv_imul hx hb dX9_parts_41 ?_
          refine lv_iload_n hx hb dX9_parts_42 rfl (lv_at hl 3 rfl) ?_
          refine lv_iadd hx hb dX9_parts_43 ?_
          refine lv_topi (fun v7 e_v7 => ?_)
          have hf := nm_at hf e_v7
          refine lv_istore (lv' := [(5, .int v7), (4, .int r5), (0, .ref (qx 0)), (1, .int p1), (2, .int p2), (3, .int p3)]) hx hb dX9_parts_44 hl (by decide) rfl (fun ls hl => ?_)
          refine lv_aload_n hx hb dX9_parts_46 rfl (lv_at hl 2 rfl) ?_
          refine va_get (D := G) (ci := 7) (v := .ref (qx 35)) (C := RX9) (T := TX9) (N := 37) hx hb hts inX9w hown hK hP 0 rfl rfl 34 (by decide) wd2 (fun _ h9 => h9) rfl dX9_parts_47 ?_
          refine lv_iload hx hb dX9_parts_50 (lv_at hl 0 rfl) ?_
          refine lv_aload_n hx hb dX9_parts_52 rfl (lv_at hl 2 rfl) ?_
          refine va_get (D := G) (ci := 7) (v := .ref (qx 35)) (C := RX9) (T := TX9) (N := 37) hx hb hts inX9w hown hK hP 0 rfl rfl 34 (by decide) wd2 (fun _ h9 => h9) rfl dX9_parts_53 ?_
          refine lv_iload hx hb dX9_parts_56 (lv_at hl 0 rfl) ?_
          obtain ⟨g8, hf⟩ := gd hf
          refine va_lald hx hb hK hP 3 1 rfl rfl g8 dX9_parts_58 ?_
          refine lv_iload_n hx hb dX9_parts_59 rfl (lv_at hl 5 rfl) ?_
          refine lv_i2l hx hb dX9_parts_60 rfl ?_
          obtain ⟨g9, hf⟩ := gd hf
          refine lv_ldiv hx hb dX9_parts_61 g9 ?_
          obtain ⟨g10, hf⟩ := gd hf
          refine va_last hx hb hK hP hD hS 3 1 rfl rfl g10 dX9_parts_62 (fun H locs hP hD hS => ?_)
          obtain ⟨v11, e_v11⟩ : ∃ z : Nat → Int64, z = vp_updL x_wholes v7.toNatClampNeg ((x_wholes v7.toNatClampNeg) / p3.toInt64) := ⟨_, rfl⟩
          have hf := nm_at hf e_v11
          have hP : va_P G vwCl [(qx 0, oX9 qx x_points x_lines x_tide x_isKept x_isMuch x_sum x_once x_twice x_isTermMuch x_nodes x_newMany x_isTooGreat x_come x_foundSet), (qx 33, .inl (Y 0, 4, .inl x_sorts)), (qx 34, .inl (Y 0, 4, .inl x_sizes)), (qx 35, .inl (Y 1, 240, .inr (.inl v11))), (qx 36, .inl (Y 2, 240, .inr (.inr (.inl x_floats)))), (qx 37, .inl (Y 3, 240, .inr (.inr (.inr (.inl x_doubles)))))] H := by rw [e_v11]; exact hP
          have hD : va_D A [(qx 0, oX9 qx x_points x_lines x_tide x_isKept x_isMuch x_sum x_once x_twice x_isTermMuch x_nodes x_newMany x_isTooGreat x_come x_foundSet), (qx 33, .inl (Y 0, 4, .inl x_sorts)), (qx 34, .inl (Y 0, 4, .inl x_sizes)), (qx 35, .inl (Y 1, 240, .inr (.inl v11))), (qx 36, .inl (Y 2, 240, .inr (.inr (.inl x_floats)))), (qx 37, .inl (Y 3, 240, .inr (.inr (.inr (.inl x_doubles)))))] := by rw [e_v11]; exact hD
          refine lv_aload_n hx hb dX9_parts_63 rfl (lv_at hl 2 rfl) ?_
          refine va_get (D := G) (ci := 7) (v := .ref (qx 36)) (C := RX9) (T := TX9) (N := 37) hx hb hts inX9w hown hK hP 0 rfl rfl 35 (by decide) wd3 (fun _ h9 => h9) rfl dX9_parts_64 ?_
          refine lv_iload hx hb dX9_parts_67 (lv_at hl 0 rfl) ?_
          refine lv_aload_n hx hb dX9_parts_69 rfl (lv_at hl 2 rfl) ?_
          refine va_get (D := G) (ci := 7) (v := .ref (qx 36)) (C := RX9) (T := TX9) (N := 37) hx hb hts inX9w hown hK hP 0 rfl rfl 35 (by decide) wd3 (fun _ h9 => h9) rfl dX9_parts_70 ?_
          refine lv_iload hx hb dX9_parts_73 (lv_at hl 0 rfl) ?_
          obtain ⟨g12, hf⟩ := gd hf
          refine va_fald hx hb hK hP 4 2 rfl rfl g12 dX9_parts_75 ?_
          refine lv_iload_n hx hb dX9_parts_76 rfl (lv_at hl 5 rfl) ?_
          refine lv_i2f hx hb dX9_parts_77 ?_
          obtain ⟨g13, hf⟩ := gp hf
          refine lv_fdiv hx hb dX9_parts_78 g13 ?_
          obtain ⟨g14, hf⟩ := gd hf
          refine va_fast hx hb hK hP hD hS 4 2 rfl rfl g14 dX9_parts_79 (fun H locs hP hD hS => ?_)
          obtain ⟨v15, e_v15⟩ : ∃ z : Nat → UInt32, z = vf_upd x_floats v7.toNatClampNeg (FP.fdiv (x_floats v7.toNatClampNeg) (FP.i2f p3)) := ⟨_, rfl⟩
          have hf := nm_at hf e_v15
          have hP : va_P G vwCl [(qx 0, oX9 qx x_points x_lines x_tide x_isKept x_isMuch x_sum x_once x_twice x_isTermMuch x_nodes x_newMany x_isTooGreat x_come x_foundSet), (qx 33, .inl (Y 0, 4, .inl x_sorts)), (qx 34, .inl (Y 0, 4, .inl x_sizes)), (qx 35, .inl (Y 1, 240, .inr (.inl v11))), (qx 36, .inl (Y 2, 240, .inr (.inr (.inl v15)))), (qx 37, .inl (Y 3, 240, .inr (.inr (.inr (.inl x_doubles)))))] H := by rw [e_v15]; exact hP
          have hD : va_D A [(qx 0, oX9 qx x_points x_lines x_tide x_isKept x_isMuch x_sum x_once x_twice x_isTermMuch x_nodes x_newMany x_isTooGreat x_come x_foundSet), (qx 33, .inl (Y 0, 4, .inl x_sorts)), (qx 34, .inl (Y 0, 4, .inl x_sizes)), (qx 35, .inl (Y 1, 240, .inr (.inl v11))), (qx 36, .inl (Y 2, 240, .inr (.inr (.inl v15)))), (qx 37, .inl (Y 3, 240, .inr (.inr (.inr (.inl x_doubles)))))] := by rw [e_v15]; exact hD
          refine lv_aload_n hx hb dX9_parts_80 rfl (lv_at hl 2 rfl) ?_
          refine va_get (D := G) (ci := 7) (v := .ref (qx 37)) (C := RX9) (T := TX9) (N := 37) hx hb hts inX9w hown hK hP 0 rfl rfl 36 (by decide) wd4 (fun _ h9 => h9) rfl dX9_parts_81 ?_
          refine lv_iload hx hb dX9_parts_84 (lv_at hl 0 rfl) ?_
          refine lv_aload_n hx hb dX9_parts_86 rfl (lv_at hl 2 rfl) ?_
          refine va_get (D := G) (ci := 7) (v := .ref (qx 37)) (C := RX9) (T := TX9) (N := 37) hx hb hts inX9w hown hK hP 0 rfl rfl 36 (by decide) wd4 (fun _ h9 => h9) rfl dX9_parts_87 ?_
          refine lv_iload hx hb dX9_parts_90 (lv_at hl 0 rfl) ?_
          obtain ⟨g16, hf⟩ := gd hf
          refine va_dald hx hb hK hP 5 3 rfl rfl g16 dX9_parts_92 ?_
          refine lv_iload_n hx hb dX9_parts_93 rfl (lv_at hl 5 rfl) ?_
          refine lv_i2d hx hb dX9_parts_94 ?_
          obtain ⟨g17, hf⟩ := gp hf
          refine lv_ddiv hx hb dX9_parts_95 g17 ?_
          obtain ⟨g18, hf⟩ := gd hf
          refine va_dast hx hb hK hP hD hS 5 3 rfl rfl g18 dX9_parts_96 (fun H locs hP hD hS => ?_)
          obtain ⟨v19, e_v19⟩ : ∃ z : Nat → UInt64, z = vf_upd x_doubles v7.toNatClampNeg (FP.ddiv (x_doubles v7.toNatClampNeg) (FP.i2d p3)) := ⟨_, rfl⟩
          have hf := nm_at hf e_v19
          have hP : va_P G vwCl [(qx 0, oX9 qx x_points x_lines x_tide x_isKept x_isMuch x_sum x_once x_twice x_isTermMuch x_nodes x_newMany x_isTooGreat x_come x_foundSet), (qx 33, .inl (Y 0, 4, .inl x_sorts)), (qx 34, .inl (Y 0, 4, .inl x_sizes)), (qx 35, .inl (Y 1, 240, .inr (.inl v11))), (qx 36, .inl (Y 2, 240, .inr (.inr (.inl v15)))), (qx 37, .inl (Y 3, 240, .inr (.inr (.inr (.inl v19)))))] H := by rw [e_v19]; exact hP
          have hD : va_D A [(qx 0, oX9 qx x_points x_lines x_tide x_isKept x_isMuch x_sum x_once x_twice x_isTermMuch x_nodes x_newMany x_isTooGreat x_come x_foundSet), (qx 33, .inl (Y 0, 4, .inl x_sorts)), (qx 34, .inl (Y 0, 4, .inl x_sizes)), (qx 35, .inl (Y 1, 240, .inr (.inl v11))), (qx 36, .inl (Y 2, 240, .inr (.inr (.inl v15)))), (qx 37, .inl (Y 3, 240, .inr (.inr (.inr (.inl v19)))))] := by rw [e_v19]; exact hD
          refine lv_iconst (v := 1) hx hb dX9_parts_97 (by decide) ?_
          obtain ⟨e0, e1, e2, e3⟩ := rt4 hf
          have hP : va_P G vwCl [(qx 0, oX9 qx x_points x_lines x_tide x_isKept x_isMuch x_sum x_once x_twice x_isTermMuch x_nodes x_newMany x_isTooGreat x_come x_foundSet), (qx 33, .inl (Y 0, 4, .inl x_sorts)), (qx 34, .inl (Y 0, 4, .inl x_sizes)), (qx 35, .inl (Y 1, 240, .inr (.inl o_x_wholes))), (qx 36, .inl (Y 2, 240, .inr (.inr (.inl o_x_floats)))), (qx 37, .inl (Y 3, 240, .inr (.inr (.inr (.inl o_x_doubles)))))] H := by rw [← e1, ← e2, ← e3]; exact hP
          have hD : va_D A [(qx 0, oX9 qx x_points x_lines x_tide x_isKept x_isMuch x_sum x_once x_twice x_isTermMuch x_nodes x_newMany x_isTooGreat x_come x_foundSet), (qx 33, .inl (Y 0, 4, .inl x_sorts)), (qx 34, .inl (Y 0, 4, .inl x_sizes)), (qx 35, .inl (Y 1, 240, .inr (.inl o_x_wholes))), (qx 36, .inl (Y 2, 240, .inr (.inr (.inl o_x_floats)))), (qx 37, .inl (Y 3, 240, .inr (.inr (.inr (.inl o_x_doubles)))))] := by rw [← e1, ← e2, ← e3]; exact hD
          exact W.iret (v := (1 : Int32)) hx hb hr (fun t ht hW => ⟨⟨(1 : Int32), (), rfl, e0, by rw [ht]; exact hP, va_K.moved hW.alike hK, by rw [hAe]; exact hD⟩, hS.F ht⟩) hS.2.2 dX9_parts_98
        · have hf := ie hf c6
          refine lv_iload hx hb dX9_parts_35 (lv_at hl 0 rfl) ?_
          obtain ⟨e0, e1, e2, e3⟩ := rt4 hf
          have hP : va_P G vwCl [(qx 0, oX9 qx x_points x_lines x_tide x_isKept x_isMuch x_sum x_once x_twice x_isTermMuch x_nodes x_newMany x_isTooGreat x_come x_foundSet), (qx 33, .inl (Y 0, 4, .inl x_sorts)), (qx 34, .inl (Y 0, 4, .inl x_sizes)), (qx 35, .inl (Y 1, 240, .inr (.inl o_x_wholes))), (qx 36, .inl (Y 2, 240, .inr (.inr (.inl o_x_floats)))), (qx 37, .inl (Y 3, 240, .inr (.inr (.inr (.inl o_x_doubles)))))] H := by rw [← e1, ← e2, ← e3]; exact hP
          have hD : va_D A [(qx 0, oX9 qx x_points x_lines x_tide x_isKept x_isMuch x_sum x_once x_twice x_isTermMuch x_nodes x_newMany x_isTooGreat x_come x_foundSet), (qx 33, .inl (Y 0, 4, .inl x_sorts)), (qx 34, .inl (Y 0, 4, .inl x_sizes)), (qx 35, .inl (Y 1, 240, .inr (.inl o_x_wholes))), (qx 36, .inl (Y 2, 240, .inr (.inr (.inl o_x_floats)))), (qx 37, .inl (Y 3, 240, .inr (.inr (.inr (.inl o_x_doubles)))))] := by rw [← e1, ← e2, ← e3]; exact hD
          exact W.iret (v := r5) hx hb hr (fun t ht hW => ⟨⟨r5, (), rfl, e0, by rw [ht]; exact hP, va_K.moved hW.alike hK, by rw [hAe]; exact hD⟩, hS.F ht⟩) hS.2.2 dX9_parts_37
      · have hf := it hf c4
        refine lv_bipush (v := -2) hx hb dX9_parts_19 (by decide) ?_
        obtain ⟨e0, e1, e2, e3⟩ := rt4 hf
        have hP : va_P G vwCl [(qx 0, oX9 qx x_points x_lines x_tide x_isKept x_isMuch x_sum x_once x_twice x_isTermMuch x_nodes x_newMany x_isTooGreat x_come x_foundSet), (qx 33, .inl (Y 0, 4, .inl x_sorts)), (qx 34, .inl (Y 0, 4, .inl x_sizes)), (qx 35, .inl (Y 1, 240, .inr (.inl o_x_wholes))), (qx 36, .inl (Y 2, 240, .inr (.inr (.inl o_x_floats)))), (qx 37, .inl (Y 3, 240, .inr (.inr (.inr (.inl o_x_doubles)))))] H := by rw [← e1, ← e2, ← e3]; exact hP
        have hD : va_D A [(qx 0, oX9 qx x_points x_lines x_tide x_isKept x_isMuch x_sum x_once x_twice x_isTermMuch x_nodes x_newMany x_isTooGreat x_come x_foundSet), (qx 33, .inl (Y 0, 4, .inl x_sorts)), (qx 34, .inl (Y 0, 4, .inl x_sizes)), (qx 35, .inl (Y 1, 240, .inr (.inl o_x_wholes))), (qx 36, .inl (Y 2, 240, .inr (.inr (.inl o_x_floats)))), (qx 37, .inl (Y 3, 240, .inr (.inr (.inr (.inl o_x_doubles)))))] := by rw [← e1, ← e2, ← e3]; exact hD
        exact W.iret (v := (-2 : Int32)) hx hb hr (fun t ht hW => ⟨⟨(-2 : Int32), (), rfl, e0, by rw [ht]; exact hP, va_K.moved hW.alike hK, by rw [hAe]; exact hD⟩, hS.F ht⟩) hS.2.2 dX9_parts_21
  exact E0 s.heap [] hP hD hS ls hl
-- X9_writes
set_option maxRecDepth 100000 in
set_option maxHeartbeats 4000000 in
theorem c_X9_writes (l : Launch) (G : va_G) (Y : Nat → ClassId) (sz : Nat) (qx : Nat → Nat) (x_points : Int32) (x_lines : Int32) (x_tide : Int32) (x_kind : Nat → Int32) (x_figure : Nat → Int32) (x_low : Nat → Int32) (x_high : Nat → Int32) (x_isKept : Int32) (x_table : Nat → Int64) (x_count : Nat → Int64) (x_heavy : Nat → Int32) (x_isMuch : Int32) (x_sum : Int64) (x_once : Int64) (x_twice : Int64) (x_isTermMuch : Int32) (x_nodes : Int32) (x_newMany : Int32) (x_isTooGreat : Int32) (x_come : Int32) (x_foundSet : Int64) (x_sorts : Nat → Int32) (x_sizes : Nat → Int32) (x_wholes : Nat → Int64) (x_floats : Nat → UInt32) (x_doubles : Nat → UInt64) (p1 : Int32) (p2 : Int32) (rv : Int32) (o_x_table : Nat → Int64) (o_x_count : Nat → Int64) (o_x_heavy : Nat → Int32) (o_x_isMuch : Int32) (o_x_wholes : Nat → Int64) (o_x_floats : Nat → UInt32) (o_x_doubles : Nat → UInt64) (hf : f_X9_writes x_points x_lines x_tide x_kind x_figure x_low x_high x_table x_count x_heavy x_isMuch x_sorts x_sizes x_wholes x_floats x_doubles p1 p2 = some (rv, o_x_table, o_x_count, o_x_heavy, o_x_isMuch, o_x_wholes, o_x_floats, o_x_doubles)) : Met l yX9_writes wsX9_writes (rmk 4 94) (va_Pc [.ref (qx 0), .int p1, .int p2] (Pre G (tys Y) [(qx 0, oX9 qx x_points x_lines x_tide x_isKept x_isMuch x_sum x_once x_twice x_isTermMuch x_nodes x_newMany x_isTooGreat x_come x_foundSet), (qx 4, .inl (Y 0, 40, .inl x_kind)), (qx 5, .inl (Y 0, 40, .inl x_figure)), (qx 6, .inl (Y 0, 40, .inl x_low)), (qx 7, .inl (Y 0, 40, .inl x_high)), (qx 10, .inl (Y 1, 28672, .inr (.inl x_table))), (qx 11, .inl (Y 1, 7, .inr (.inl x_count))), (qx 12, .inl (Y 0, 144, .inl x_heavy)), (qx 33, .inl (Y 0, 4, .inl x_sorts)), (qx 34, .inl (Y 0, 4, .inl x_sizes)), (qx 35, .inl (Y 1, 240, .inr (.inl x_wholes))), (qx 36, .inl (Y 2, 240, .inr (.inr (.inl x_floats)))), (qx 37, .inl (Y 3, 240, .inr (.inr (.inr (.inl x_doubles)))))] sz xT)) (va_Qi (fun (r : Int32) (_ : Unit) => r = rv) (Pst G (tys Y) [(qx 0, oX9 qx x_points x_lines x_tide x_isKept x_isMuch x_sum x_once x_twice x_isTermMuch x_nodes x_newMany x_isTooGreat x_come x_foundSet), (qx 4, .inl (Y 0, 40, .inl x_kind)), (qx 5, .inl (Y 0, 40, .inl x_figure)), (qx 6, .inl (Y 0, 40, .inl x_low)), (qx 7, .inl (Y 0, 40, .inl x_high)), (qx 10, .inl (Y 1, 28672, .inr (.inl x_table))), (qx 11, .inl (Y 1, 7, .inr (.inl x_count))), (qx 12, .inl (Y 0, 144, .inl x_heavy)), (qx 33, .inl (Y 0, 4, .inl x_sorts)), (qx 34, .inl (Y 0, 4, .inl x_sizes)), (qx 35, .inl (Y 1, 240, .inr (.inl x_wholes))), (qx 36, .inl (Y 2, 240, .inr (.inr (.inl x_floats)))), (qx 37, .inl (Y 3, 240, .inr (.inr (.inr (.inl x_doubles)))))] sz [(qx 0, oX9 qx x_points x_lines x_tide x_isKept o_x_isMuch x_sum x_once x_twice x_isTermMuch x_nodes x_newMany x_isTooGreat x_come x_foundSet), (qx 4, .inl (Y 0, 40, .inl x_kind)), (qx 5, .inl (Y 0, 40, .inl x_figure)), (qx 6, .inl (Y 0, 40, .inl x_low)), (qx 7, .inl (Y 0, 40, .inl x_high)), (qx 10, .inl (Y 1, 28672, .inr (.inl o_x_table))), (qx 11, .inl (Y 1, 7, .inr (.inl o_x_count))), (qx 12, .inl (Y 0, 144, .inl o_x_heavy)), (qx 33, .inl (Y 0, 4, .inl x_sorts)), (qx 34, .inl (Y 0, 4, .inl x_sizes)), (qx 35, .inl (Y 1, 240, .inr (.inl o_x_wholes))), (qx 36, .inl (Y 2, 240, .inr (.inr (.inl o_x_floats)))), (qx 37, .inl (Y 3, 240, .inr (.inr (.inr (.inl o_x_doubles)))))]) (va_A [(qx 0, oX9 qx x_points x_lines x_tide x_isKept x_isMuch x_sum x_once x_twice x_isTermMuch x_nodes x_newMany x_isTooGreat x_come x_foundSet), (qx 4, .inl (Y 0, 40, .inl x_kind)), (qx 5, .inl (Y 0, 40, .inl x_figure)), (qx 6, .inl (Y 0, 40, .inl x_low)), (qx 7, .inl (Y 0, 40, .inl x_high)), (qx 10, .inl (Y 1, 28672, .inr (.inl x_table))), (qx 11, .inl (Y 1, 7, .inr (.inl x_count))), (qx 12, .inl (Y 0, 144, .inl x_heavy)), (qx 33, .inl (Y 0, 4, .inl x_sorts)), (qx 34, .inl (Y 0, 4, .inl x_sizes)), (qx 35, .inl (Y 1, 240, .inr (.inl x_wholes))), (qx 36, .inl (Y 2, 240, .inr (.inr (.inl x_floats)))), (qx 37, .inl (Y 3, 240, .inr (.inr (.inr (.inl x_doubles)))))] sz)) 0 0 (va_A [(qx 0, oX9 qx x_points x_lines x_tide x_isKept x_isMuch x_sum x_once x_twice x_isTermMuch x_nodes x_newMany x_isTooGreat x_come x_foundSet), (qx 4, .inl (Y 0, 40, .inl x_kind)), (qx 5, .inl (Y 0, 40, .inl x_figure)), (qx 6, .inl (Y 0, 40, .inl x_low)), (qx 7, .inl (Y 0, 40, .inl x_high)), (qx 10, .inl (Y 1, 28672, .inr (.inl x_table))), (qx 11, .inl (Y 1, 7, .inr (.inl x_count))), (qx 12, .inl (Y 0, 144, .inl x_heavy)), (qx 33, .inl (Y 0, 4, .inl x_sorts)), (qx 34, .inl (Y 0, 4, .inl x_sizes)), (qx 35, .inl (Y 1, 240, .inr (.inl x_wholes))), (qx 36, .inl (Y 2, 240, .inr (.inr (.inl x_floats)))), (qx 37, .inl (Y 3, 240, .inr (.inr (.inr (.inl x_doubles)))))] sz) := by
  refine Met.ofW (cc := cX9_writes) (maxL := 6) (ret := (some .int)) (by decide) rfl ?_
  intro p e s m args below meth c s₁ B hml hv
  obtain ⟨rfl, hsz, hP, hK, hD0, hX⟩ := hv
  have hx := B.exec
  have hb := B.bytes
  have hr := B.returns
  have hts := atoms_spec (ws := wsX9_writes) B.pre
  have hown : s.vm.findClass RX9 = some m.cls := findClass_of_methodNamed B.named
  have hlocks := B.notSynchronized
  subst hsz
  have hD := hD0.self (sz := s.heap.size)
  generalize hAe : va_A [(qx 0, oX9 qx x_points x_lines x_tide x_isKept x_isMuch x_sum x_once x_twice x_isTermMuch x_nodes x_newMany x_isTooGreat x_come x_foundSet), (qx 4, .inl (Y 0, 40, .inl x_kind)), (qx 5, .inl (Y 0, 40, .inl x_figure)), (qx 6, .inl (Y 0, 40, .inl x_low)), (qx 7, .inl (Y 0, 40, .inl x_high)), (qx 10, .inl (Y 1, 28672, .inr (.inl x_table))), (qx 11, .inl (Y 1, 7, .inr (.inl x_count))), (qx 12, .inl (Y 0, 144, .inl x_heavy)), (qx 33, .inl (Y 0, 4, .inl x_sorts)), (qx 34, .inl (Y 0, 4, .inl x_sizes)), (qx 35, .inl (Y 1, 240, .inr (.inl x_wholes))), (qx 36, .inl (Y 2, 240, .inr (.inr (.inl x_floats)))), (qx 37, .inl (Y 3, 240, .inr (.inr (.inr (.inl x_doubles)))))] s.heap.size = A at hD ⊢
  have hA : ∀ q : Nat, s.heap.size ≤ q → A q := fun q h => by rw [← hAe]; exact Or.inr h
  have hS : va_S A s.heap s.heap [] := va_S.rf
  have hP : va_P G vwCl [(qx 0, oX9 qx x_points x_lines x_tide x_isKept x_isMuch x_sum x_once x_twice x_isTermMuch x_nodes x_newMany x_isTooGreat x_come x_foundSet), (qx 4, .inl (Y 0, 40, .inl x_kind)), (qx 5, .inl (Y 0, 40, .inl x_figure)), (qx 6, .inl (Y 0, 40, .inl x_low)), (qx 7, .inl (Y 0, 40, .inl x_high)), (qx 10, .inl (Y 1, 28672, .inr (.inl x_table))), (qx 11, .inl (Y 1, 7, .inr (.inl x_count))), (qx 12, .inl (Y 0, 144, .inl x_heavy)), (qx 33, .inl (Y 0, 4, .inl x_sorts)), (qx 34, .inl (Y 0, 4, .inl x_sizes)), (qx 35, .inl (Y 1, 240, .inr (.inl x_wholes))), (qx 36, .inl (Y 2, 240, .inr (.inr (.inl x_floats)))), (qx 37, .inl (Y 3, 240, .inr (.inr (.inr (.inl x_doubles)))))] s.heap := hP
  have wd1 : (Cond.fieldLink RX9 65 "PairedLinesModel" "sorts" "[I").before [.ref (qx 0), .int p1, .int p2].toArray s = true := hts _ (List.mem_of_getElem? (i := 1) rfl)
  have wd2 : (Cond.fieldLink RX9 148 "PairedLinesModel" "isMuch" "Z").before [.ref (qx 0), .int p1, .int p2].toArray s = true := hts _ (List.mem_of_getElem? (i := 2) rfl)
  have inX9w : ∀ w ∈ u_ws RX9 TX9 37, w ∈ wsX9_writes := fun w hw => List.mem_cons_of_mem _ (List.mem_append_right _ (hw))
  have hl := lv_entry ([.ref (qx 0), .int p1, .int p2]) (n := 6) (Nat.le_of_ble_eq_true rfl)
  rw [lg_entry_eq]
  generalize (lg_sl ([.ref (qx 0), .int p1, .int p2]) ++ List.replicate (6 - (lg_sl ([.ref (qx 0), .int p1, .int p2])).length) Slot.unset).toArray = ls at hl ⊢
  have hl : lv_has ls 6 [(0, .ref (qx 0)), (1, .int p1), (2, .int p2)] := hl
  have B56 : ∀ (n56 : Nat), ∀ (b_x_table : Nat → Int64) (b_x_count : Nat → Int64) (b_x_heavy : Nat → Int32) (b_x_isMuch : Int32) (b_x_wholes : Nat → Int64) (b_x_floats : Nat → UInt32) (b_x_doubles : Nat → UInt64) (x3 : Int32) (x4 : Int32), f_X9_writes_b56 x_points x_lines x_tide x_kind x_figure x_low x_high x_sorts x_sizes p1 p2 n56 b_x_table b_x_count b_x_heavy b_x_isMuch b_x_wholes b_x_floats b_x_doubles x3 x4 = some (rv, o_x_table, o_x_count, o_x_heavy, o_x_isMuch, o_x_wholes, o_x_floats, o_x_doubles) → ∀ (H : Heap) (locs : List Loc), va_P G vwCl [(qx 0, oX9 qx x_points x_lines x_tide x_isKept b_x_isMuch x_sum x_once x_twice x_isTermMuch x_nodes x_newMany x_isTooGreat x_come x_foundSet), (qx 4, .inl (Y 0, 40, .inl x_kind)), (qx 5, .inl (Y 0, 40, .inl x_figure)), (qx 6, .inl (Y 0, 40, .inl x_low)), (qx 7, .inl (Y 0, 40, .inl x_high)), (qx 10, .inl (Y 1, 28672, .inr (.inl b_x_table))), (qx 11, .inl (Y 1, 7, .inr (.inl b_x_count))), (qx 12, .inl (Y 0, 144, .inl b_x_heavy)), (qx 33, .inl (Y 0, 4, .inl x_sorts)), (qx 34, .inl (Y 0, 4, .inl x_sizes)), (qx 35, .inl (Y 1, 240, .inr (.inl b_x_wholes))), (qx 36, .inl (Y 2, 240, .inr (.inr (.inl b_x_floats)))), (qx 37, .inl (Y 3, 240, .inr (.inr (.inr (.inl b_x_doubles)))))] H → va_D A [(qx 0, oX9 qx x_points x_lines x_tide x_isKept b_x_isMuch x_sum x_once x_twice x_isTermMuch x_nodes x_newMany x_isTooGreat x_come x_foundSet), (qx 4, .inl (Y 0, 40, .inl x_kind)), (qx 5, .inl (Y 0, 40, .inl x_figure)), (qx 6, .inl (Y 0, 40, .inl x_low)), (qx 7, .inl (Y 0, 40, .inl x_high)), (qx 10, .inl (Y 1, 28672, .inr (.inl b_x_table))), (qx 11, .inl (Y 1, 7, .inr (.inl b_x_count))), (qx 12, .inl (Y 0, 144, .inl b_x_heavy)), (qx 33, .inl (Y 0, 4, .inl x_sorts)), (qx 34, .inl (Y 0, 4, .inl x_sizes)), (qx 35, .inl (Y 1, 240, .inr (.inl b_x_wholes))), (qx 36, .inl (Y 2, 240, .inr (.inr (.inl b_x_floats)))), (qx 37, .inl (Y 3, 240, .inr (.inr (.inr (.inl b_x_doubles)))))] → va_S A s.heap H locs → ∀ (ls : Array Slot), lv_has ls 6 [(0, .ref (qx 0)), (1, .int p1), (3, .int x3), (4, .int x4)] → W p l e (headSpec wsX9_writes (rmk 4 94)).room s m [.ref (qx 0), .int p1, .int p2].toArray below meth c H locs 0 0 (MQ below (va_Qi (fun (r : Int32) (_ : Unit) => r = rv) (Pst G (tys Y) [(qx 0, oX9 qx x_points x_lines x_tide x_isKept x_isMuch x_sum x_once x_twice x_isTermMuch x_nodes x_newMany x_isTooGreat x_come x_foundSet), (qx 4, .inl (Y 0, 40, .inl x_kind)), (qx 5, .inl (Y 0, 40, .inl x_figure)), (qx 6, .inl (Y 0, 40, .inl x_low)), (qx 7, .inl (Y 0, 40, .inl x_high)), (qx 10, .inl (Y 1, 28672, .inr (.inl x_table))), (qx 11, .inl (Y 1, 7, .inr (.inl x_count))), (qx 12, .inl (Y 0, 144, .inl x_heavy)), (qx 33, .inl (Y 0, 4, .inl x_sorts)), (qx 34, .inl (Y 0, 4, .inl x_sizes)), (qx 35, .inl (Y 1, 240, .inr (.inl x_wholes))), (qx 36, .inl (Y 2, 240, .inr (.inr (.inl x_floats)))), (qx 37, .inl (Y 3, 240, .inr (.inr (.inr (.inl x_doubles)))))] s.heap.size [(qx 0, oX9 qx x_points x_lines x_tide x_isKept o_x_isMuch x_sum x_once x_twice x_isTermMuch x_nodes x_newMany x_isTooGreat x_come x_foundSet), (qx 4, .inl (Y 0, 40, .inl x_kind)), (qx 5, .inl (Y 0, 40, .inl x_figure)), (qx 6, .inl (Y 0, 40, .inl x_low)), (qx 7, .inl (Y 0, 40, .inl x_high)), (qx 10, .inl (Y 1, 28672, .inr (.inl o_x_table))), (qx 11, .inl (Y 1, 7, .inr (.inl o_x_count))), (qx 12, .inl (Y 0, 144, .inl o_x_heavy)), (qx 33, .inl (Y 0, 4, .inl x_sorts)), (qx 34, .inl (Y 0, 4, .inl x_sizes)), (qx 35, .inl (Y 1, 240, .inr (.inl o_x_wholes))), (qx 36, .inl (Y 2, 240, .inr (.inr (.inl o_x_floats)))), (qx 37, .inl (Y 3, 240, .inr (.inr (.inr (.inl o_x_doubles)))))]) A) [.ref (qx 0), .int p1, .int p2].toArray s 0 0 A) (F0 m 56 ls []) := by
    intro n56
    induction n56 with
    | zero =>
      intro b_x_table b_x_count b_x_heavy b_x_isMuch b_x_wholes b_x_floats b_x_doubles x3 x4 hf H locs hP hD hS ls hl
      exact no_none hf
    | succ n56 ih56 =>
      intro b_x_table b_x_count b_x_heavy b_x_isMuch b_x_wholes b_x_floats b_x_doubles x3 x4 hf H locs hP hD hS ls hl
      have hf : f_X9_writes_s56 x_points x_lines x_tide x_kind x_figure x_low x_high x_sorts x_sizes p1 p2 (f_X9_writes_b56 x_points x_lines x_tide x_kind x_figure x_low x_high x_sorts x_sizes p1 p2  n56) b_x_table b_x_count b_x_heavy b_x_isMuch b_x_wholes b_x_floats b_x_doubles x3 x4 = some (rv, o_x_table, o_x_count, o_x_heavy, o_x_isMuch, o_x_wholes, o_x_floats, o_x_doubles) := hf
      unfold f_X9_writes_s56 at hf
      refine lv_iload hx hb dX9_writes_56 (lv_at hl 3 rfl) ?_
      refine lv_iload_n hx hb dX9_writes_58 rfl (lv_at hl 2 rfl) ?_
      refine lv_icmp_gt (tgt := 93) hx hb dX9_writes_59 (by decide) (fun c1 => ?_) (fun c1 => ?_)
      · have hf := it hf c1
        refine lv_iload_n hx hb dX9_writes_93 rfl (lv_at hl 2 rfl) ?_
        refine lv_iconst (v := 1) hx hb dX9_writes_94 (by decide) ?_
        refine lv_iadd hx hb dX9_writes_95 ?_
        obtain ⟨e0, e1, e2, e3, e4, e5, e6, e7⟩ := rt8 hf
        have hP : va_P G vwCl [(qx 0, oX9 qx x_points x_lines x_tide x_isKept o_x_isMuch x_sum x_once x_twice x_isTermMuch x_nodes x_newMany x_isTooGreat x_come x_foundSet), (qx 4, .inl (Y 0, 40, .inl x_kind)), (qx 5, .inl (Y 0, 40, .inl x_figure)), (qx 6, .inl (Y 0, 40, .inl x_low)), (qx 7, .inl (Y 0, 40, .inl x_high)), (qx 10, .inl (Y 1, 28672, .inr (.inl o_x_table))), (qx 11, .inl (Y 1, 7, .inr (.inl o_x_count))), (qx 12, .inl (Y 0, 144, .inl o_x_heavy)), (qx 33, .inl (Y 0, 4, .inl x_sorts)), (qx 34, .inl (Y 0, 4, .inl x_sizes)), (qx 35, .inl (Y 1, 240, .inr (.inl o_x_wholes))), (qx 36, .inl (Y 2, 240, .inr (.inr (.inl o_x_floats)))), (qx 37, .inl (Y 3, 240, .inr (.inr (.inr (.inl o_x_doubles)))))] H := by rw [← e1, ← e2, ← e3, ← e4, ← e5, ← e6, ← e7]; exact hP
        have hD : va_D A [(qx 0, oX9 qx x_points x_lines x_tide x_isKept o_x_isMuch x_sum x_once x_twice x_isTermMuch x_nodes x_newMany x_isTooGreat x_come x_foundSet), (qx 4, .inl (Y 0, 40, .inl x_kind)), (qx 5, .inl (Y 0, 40, .inl x_figure)), (qx 6, .inl (Y 0, 40, .inl x_low)), (qx 7, .inl (Y 0, 40, .inl x_high)), (qx 10, .inl (Y 1, 28672, .inr (.inl o_x_table))), (qx 11, .inl (Y 1, 7, .inr (.inl o_x_count))), (qx 12, .inl (Y 0, 144, .inl o_x_heavy)), (qx 33, .inl (Y 0, 4, .inl x_sorts)), (qx 34, .inl (Y 0, 4, .inl x_sizes)), (qx 35, .inl (Y 1, 240, .inr (.inl o_x_wholes))), (qx 36, .inl (Y 2, 240, .inr (.inr (.inl o_x_floats)))), (qx 37, .inl (Y 3, 240, .inr (.inr (.inr (.inl o_x_doubles)))))] := by rw [← e1, ← e2, ← e3, ← e4, ← e5, ← e6, ← e7]; exact hD
        exact W.iret (v := (x3 + (1 : Int32))) hx hb hr (fun t ht hW => ⟨⟨(x3 + (1 : Int32)), (), rfl, e0, by rw [ht]; exact hP, va_K.moved hW.alike hK, by rw [hAe]; exact hD⟩, hS.F ht⟩) hS.2.2 dX9_writes_96
      · have hf := ie hf c1
        refine lv_aload_n hx hb dX9_writes_62 rfl (lv_at hl 0 rfl) ?_
        refine lv_iload_n hx hb dX9_writes_63 rfl (lv_at hl 1 rfl) ?_
        refine lv_iload hx hb dX9_writes_64 (lv_at hl 3 rfl) ?_
        refine lv_aload_n hx hb dX9_writes_66 rfl (lv_at hl 0 rfl) ?_
        refine lv_iload_n hx hb dX9_writes_67 rfl (lv_at hl 2 rfl) ?_
        refine lv_iload hx hb dX9_writes_68 (lv_at hl 3 rfl) ?_
        obtain ⟨r2, hc, hf⟩ := bd1 hf
        refine cl_l (ws' := [(qx 0, oX9 qx x_points x_lines x_tide x_isKept b_x_isMuch x_sum x_once x_twice x_isTermMuch x_nodes x_newMany x_isTooGreat x_come x_foundSet), (qx 4, .inl (Y 0, 40, .inl x_kind)), (qx 5, .inl (Y 0, 40, .inl x_figure)), (qx 6, .inl (Y 0, 40, .inl x_low)), (qx 7, .inl (Y 0, 40, .inl x_high)), (qx 10, .inl (Y 1, 28672, .inr (.inl b_x_table))), (qx 11, .inl (Y 1, 7, .inr (.inl b_x_count))), (qx 12, .inl (Y 0, 144, .inl b_x_heavy)), (qx 33, .inl (Y 0, 4, .inl x_sorts)), (qx 34, .inl (Y 0, 4, .inl x_sizes)), (qx 35, .inl (Y 1, 240, .inr (.inl b_x_wholes))), (qx 36, .inl (Y 2, 240, .inr (.inr (.inl b_x_floats)))), (qx 37, .inl (Y 3, 240, .inr (.inr (.inr (.inl b_x_doubles)))))]) (wr := [(qx 4, .inl (Y 0, 40, .inl x_kind)), (qx 5, .inl (Y 0, 40, .inl x_figure)), (qx 6, .inl (Y 0, 40, .inl x_low)), (qx 7, .inl (Y 0, 40, .inl x_high)), (qx 10, .inl (Y 1, 28672, .inr (.inl b_x_table))), (qx 12, .inl (Y 0, 144, .inl b_x_heavy)), (qx 33, .inl (Y 0, 4, .inl x_sorts)), (qx 34, .inl (Y 0, 4, .inl x_sizes)), (qx 35, .inl (Y 1, 240, .inr (.inl b_x_wholes))), (qx 36, .inl (Y 2, 240, .inr (.inr (.inl b_x_floats)))), (qx 37, .inl (Y 3, 240, .inr (.inr (.inr (.inl b_x_doubles)))))]) (rnV (As := [.int x3, .int x4]) (rest := [.int x4, .int p1, .ref (qx 0)]) ⟨hx, hb, hml, hown, hts⟩ (c_X9_at l G Y H.size qx x_points x_lines x_tide x_isKept b_x_count b_x_isMuch x_sum x_once x_twice x_isTermMuch x_nodes x_newMany x_isTooGreat x_come x_foundSet x3 x4 r2 hc) (cwV 2 hts gX9_writes_X9_at rfl rfl rfl (by decide +kernel) ⟨(Nat.le_of_ble_eq_true rfl), (Nat.le_of_ble_eq_true rfl)⟩) trivial okT hK hP hD [0, 6] rfl rfl (ci := 7) (q0 := 0) rfl rfl rfl rfl hl.1 rfl (Nat.le_of_ble_eq_true rfl) dX9_writes_70) hP hD hS hA [0, 6] [1, 2, 3, 4, 5, 7, 8, 9, 10, 11, 12] [11, 0, 1, 2, 3, 4, 12, 5, 6, 7, 8, 9, 10] rfl rfl rfl (by decide) rfl rfl (fun H locs hP hD hS => ?_)
        obtain ⟨r3, w4, w5, w6, hc, hf⟩ := bd4 hf
        refine cl_i (ws' := [(qx 0, oX9 qx x_points x_lines x_tide x_isKept b_x_isMuch x_sum x_once x_twice x_isTermMuch x_nodes x_newMany x_isTooGreat x_come x_foundSet), (qx 4, .inl (Y 0, 40, .inl x_kind)), (qx 5, .inl (Y 0, 40, .inl x_figure)), (qx 6, .inl (Y 0, 40, .inl x_low)), (qx 7, .inl (Y 0, 40, .inl x_high)), (qx 10, .inl (Y 1, 28672, .inr (.inl b_x_table))), (qx 11, .inl (Y 1, 7, .inr (.inl b_x_count))), (qx 12, .inl (Y 0, 144, .inl b_x_heavy)), (qx 33, .inl (Y 0, 4, .inl x_sorts)), (qx 34, .inl (Y 0, 4, .inl x_sizes)), (qx 35, .inl (Y 1, 240, .inr (.inl w4))), (qx 36, .inl (Y 2, 240, .inr (.inr (.inl w5)))), (qx 37, .inl (Y 3, 240, .inr (.inr (.inr (.inl w6)))))]) (wr := [(qx 4, .inl (Y 0, 40, .inl x_kind)), (qx 5, .inl (Y 0, 40, .inl x_figure)), (qx 6, .inl (Y 0, 40, .inl x_low)), (qx 7, .inl (Y 0, 40, .inl x_high)), (qx 10, .inl (Y 1, 28672, .inr (.inl b_x_table))), (qx 11, .inl (Y 1, 7, .inr (.inl b_x_count))), (qx 12, .inl (Y 0, 144, .inl b_x_heavy))]) (rnV (As := [.int p1, .int x4, .long r2]) (rest := []) ⟨hx, hb, hml, hown, hts⟩ (c_X9_cell l G Y H.size qx x_points x_lines x_tide x_isKept b_x_isMuch x_sum x_once x_twice x_isTermMuch x_nodes x_newMany x_isTooGreat x_come x_foundSet x_sorts x_sizes b_x_wholes b_x_floats b_x_doubles p1 x4 r2 r3 w4 w5 w6 hc) (cwV 3 hts gX9_writes_X9_cell rfl rfl rfl (by decide +kernel) ⟨(Nat.le_of_ble_eq_true rfl), (Nat.le_of_ble_eq_true rfl)⟩) trivial okT hK hP hD [0, 8, 9, 10, 11, 12] rfl rfl (ci := 7) (q0 := 0) rfl rfl rfl rfl hl.1 rfl (Nat.le_of_ble_eq_true rfl) dX9_writes_73) hP hD hS hA [0, 8, 9, 10, 11, 12] [1, 2, 3, 4, 5, 6, 7] [7, 0, 1, 2, 3, 4, 5, 6, 8, 9, 10, 11, 12] rfl rfl rfl (by decide) rfl rfl (fun H locs hP hD hS => ?_)
        refine lv_istore (lv' := [(5, .int r3), (0, .ref (qx 0)), (1, .int p1), (3, .int x3), (4, .int x4)]) hx hb dX9_writes_76 hl (by decide) rfl (fun ls hl => ?_)
        refine lv_iload hx hb dX9_writes_78 (lv_at hl 0 rfl) ?_
        refine lv_iconst (v := 1) hx hb dX9_writes_80 (by decide) ?_
        refine lv_icmp_eq (tgt := 87) hx hb dX9_writes_81 (by decide) (fun c7 => ?_) (fun c7 => ?_)
        · have hf := it hf c7
          obtain ⟨v8, e_v8⟩ : ∃ z : Int32, z = (x4 + 1) := ⟨_, rfl⟩
          have hf := nm_at hf e_v8
          refine lv_iinc (v := v8) (lv' := [(4, .int v8), (5, .int r3), (0, .ref (qx 0)), (1, .int p1), (3, .int x3)]) hx hb dX9_writes_87 hl (k := 4) rfl (by rw [e_v8]; rfl) (by decide) rfl (fun ls hl => ?_)
          refine lv_goto (tgt := 56) hx hb dX9_writes_90 (by decide) ?_
          exact ih56 b_x_table b_x_count b_x_heavy b_x_isMuch w4 w5 w6 x3 v8 hf _ _ hP hD hS ls (lv_sub hl [2, 3, 4, 0] rfl)
        · have hf := ie hf c7
          refine lv_iload hx hb dX9_writes_84 (lv_at hl 0 rfl) ?_
          obtain ⟨e0, e1, e2, e3, e4, e5, e6, e7⟩ := rt8 hf
          have hP : va_P G vwCl [(qx 0, oX9 qx x_points x_lines x_tide x_isKept o_x_isMuch x_sum x_once x_twice x_isTermMuch x_nodes x_newMany x_isTooGreat x_come x_foundSet), (qx 4, .inl (Y 0, 40, .inl x_kind)), (qx 5, .inl (Y 0, 40, .inl x_figure)), (qx 6, .inl (Y 0, 40, .inl x_low)), (qx 7, .inl (Y 0, 40, .inl x_high)), (qx 10, .inl (Y 1, 28672, .inr (.inl o_x_table))), (qx 11, .inl (Y 1, 7, .inr (.inl o_x_count))), (qx 12, .inl (Y 0, 144, .inl o_x_heavy)), (qx 33, .inl (Y 0, 4, .inl x_sorts)), (qx 34, .inl (Y 0, 4, .inl x_sizes)), (qx 35, .inl (Y 1, 240, .inr (.inl o_x_wholes))), (qx 36, .inl (Y 2, 240, .inr (.inr (.inl o_x_floats)))), (qx 37, .inl (Y 3, 240, .inr (.inr (.inr (.inl o_x_doubles)))))] H := by rw [← e1, ← e2, ← e3, ← e4, ← e5, ← e6, ← e7]; exact hP
          have hD : va_D A [(qx 0, oX9 qx x_points x_lines x_tide x_isKept o_x_isMuch x_sum x_once x_twice x_isTermMuch x_nodes x_newMany x_isTooGreat x_come x_foundSet), (qx 4, .inl (Y 0, 40, .inl x_kind)), (qx 5, .inl (Y 0, 40, .inl x_figure)), (qx 6, .inl (Y 0, 40, .inl x_low)), (qx 7, .inl (Y 0, 40, .inl x_high)), (qx 10, .inl (Y 1, 28672, .inr (.inl o_x_table))), (qx 11, .inl (Y 1, 7, .inr (.inl o_x_count))), (qx 12, .inl (Y 0, 144, .inl o_x_heavy)), (qx 33, .inl (Y 0, 4, .inl x_sorts)), (qx 34, .inl (Y 0, 4, .inl x_sizes)), (qx 35, .inl (Y 1, 240, .inr (.inl o_x_wholes))), (qx 36, .inl (Y 2, 240, .inr (.inr (.inl o_x_floats)))), (qx 37, .inl (Y 3, 240, .inr (.inr (.inr (.inl o_x_doubles)))))] := by rw [← e1, ← e2, ← e3, ← e4, ← e5, ← e6, ← e7]; exact hD
          exact W.iret (v := r3) hx hb hr (fun t ht hW => ⟨⟨r3, (), rfl, e0, by rw [ht]; exact hP, va_K.moved hW.alike hK, by rw [hAe]; exact hD⟩, hS.F ht⟩) hS.2.2 dX9_writes_86
  have E0 : ∀ (H : Heap) (locs : List Loc), va_P G vwCl [(qx 0, oX9 qx x_points x_lines x_tide x_isKept x_isMuch x_sum x_once x_twice x_isTermMuch x_nodes x_newMany x_isTooGreat x_come x_foundSet), (qx 4, .inl (Y 0, 40, .inl x_kind)), (qx 5, .inl (Y 0, 40, .inl x_figure)), (qx 6, .inl (Y 0, 40, .inl x_low)), (qx 7, .inl (Y 0, 40, .inl x_high)), (qx 10, .inl (Y 1, 28672, .inr (.inl x_table))), (qx 11, .inl (Y 1, 7, .inr (.inl x_count))), (qx 12, .inl (Y 0, 144, .inl x_heavy)), (qx 33, .inl (Y 0, 4, .inl x_sorts)), (qx 34, .inl (Y 0, 4, .inl x_sizes)), (qx 35, .inl (Y 1, 240, .inr (.inl x_wholes))), (qx 36, .inl (Y 2, 240, .inr (.inr (.inl x_floats)))), (qx 37, .inl (Y 3, 240, .inr (.inr (.inr (.inl x_doubles)))))] H → va_D A [(qx 0, oX9 qx x_points x_lines x_tide x_isKept x_isMuch x_sum x_once x_twice x_isTermMuch x_nodes x_newMany x_isTooGreat x_come x_foundSet), (qx 4, .inl (Y 0, 40, .inl x_kind)), (qx 5, .inl (Y 0, 40, .inl x_figure)), (qx 6, .inl (Y 0, 40, .inl x_low)), (qx 7, .inl (Y 0, 40, .inl x_high)), (qx 10, .inl (Y 1, 28672, .inr (.inl x_table))), (qx 11, .inl (Y 1, 7, .inr (.inl x_count))), (qx 12, .inl (Y 0, 144, .inl x_heavy)), (qx 33, .inl (Y 0, 4, .inl x_sorts)), (qx 34, .inl (Y 0, 4, .inl x_sizes)), (qx 35, .inl (Y 1, 240, .inr (.inl x_wholes))), (qx 36, .inl (Y 2, 240, .inr (.inr (.inl x_floats)))), (qx 37, .inl (Y 3, 240, .inr (.inr (.inr (.inl x_doubles)))))] → va_S A s.heap H locs → ∀ (ls : Array Slot), lv_has ls 6 [(0, .ref (qx 0)), (1, .int p1), (2, .int p2)] → W p l e (headSpec wsX9_writes (rmk 4 94)).room s m [.ref (qx 0), .int p1, .int p2].toArray below meth c H locs 0 0 (MQ below (va_Qi (fun (r : Int32) (_ : Unit) => r = rv) (Pst G (tys Y) [(qx 0, oX9 qx x_points x_lines x_tide x_isKept x_isMuch x_sum x_once x_twice x_isTermMuch x_nodes x_newMany x_isTooGreat x_come x_foundSet), (qx 4, .inl (Y 0, 40, .inl x_kind)), (qx 5, .inl (Y 0, 40, .inl x_figure)), (qx 6, .inl (Y 0, 40, .inl x_low)), (qx 7, .inl (Y 0, 40, .inl x_high)), (qx 10, .inl (Y 1, 28672, .inr (.inl x_table))), (qx 11, .inl (Y 1, 7, .inr (.inl x_count))), (qx 12, .inl (Y 0, 144, .inl x_heavy)), (qx 33, .inl (Y 0, 4, .inl x_sorts)), (qx 34, .inl (Y 0, 4, .inl x_sizes)), (qx 35, .inl (Y 1, 240, .inr (.inl x_wholes))), (qx 36, .inl (Y 2, 240, .inr (.inr (.inl x_floats)))), (qx 37, .inl (Y 3, 240, .inr (.inr (.inr (.inl x_doubles)))))] s.heap.size [(qx 0, oX9 qx x_points x_lines x_tide x_isKept o_x_isMuch x_sum x_once x_twice x_isTermMuch x_nodes x_newMany x_isTooGreat x_come x_foundSet), (qx 4, .inl (Y 0, 40, .inl x_kind)), (qx 5, .inl (Y 0, 40, .inl x_figure)), (qx 6, .inl (Y 0, 40, .inl x_low)), (qx 7, .inl (Y 0, 40, .inl x_high)), (qx 10, .inl (Y 1, 28672, .inr (.inl o_x_table))), (qx 11, .inl (Y 1, 7, .inr (.inl o_x_count))), (qx 12, .inl (Y 0, 144, .inl o_x_heavy)), (qx 33, .inl (Y 0, 4, .inl x_sorts)), (qx 34, .inl (Y 0, 4, .inl x_sizes)), (qx 35, .inl (Y 1, 240, .inr (.inl o_x_wholes))), (qx 36, .inl (Y 2, 240, .inr (.inr (.inl o_x_floats)))), (qx 37, .inl (Y 3, 240, .inr (.inr (.inr (.inl o_x_doubles)))))]) A) [.ref (qx 0), .int p1, .int p2].toArray s 0 0 A) (F0 m 0 ls []) := by
    intro H locs hP hD hS ls hl
    unfold f_X9_writes at hf
    refine lv_iload_n hx hb dX9_writes_0 rfl (lv_at hl 1 rfl) ?_
    obtain ⟨r9, hc, hf⟩ := bd1 hf
    refine cl_i (ws' := [(qx 0, oX9 qx x_points x_lines x_tide x_isKept x_isMuch x_sum x_once x_twice x_isTermMuch x_nodes x_newMany x_isTooGreat x_come x_foundSet), (qx 4, .inl (Y 0, 40, .inl x_kind)), (qx 5, .inl (Y 0, 40, .inl x_figure)), (qx 6, .inl (Y 0, 40, .inl x_low)), (qx 7, .inl (Y 0, 40, .inl x_high)), (qx 10, .inl (Y 1, 28672, .inr (.inl x_table))), (qx 11, .inl (Y 1, 7, .inr (.inl x_count))), (qx 12, .inl (Y 0, 144, .inl x_heavy)), (qx 33, .inl (Y 0, 4, .inl x_sorts)), (qx 34, .inl (Y 0, 4, .inl x_sizes)), (qx 35, .inl (Y 1, 240, .inr (.inl x_wholes))), (qx 36, .inl (Y 2, 240, .inr (.inr (.inl x_floats)))), (qx 37, .inl (Y 3, 240, .inr (.inr (.inr (.inl x_doubles)))))]) (wr := [(qx 0, oX9 qx x_points x_lines x_tide x_isKept x_isMuch x_sum x_once x_twice x_isTermMuch x_nodes x_newMany x_isTooGreat x_come x_foundSet), (qx 4, .inl (Y 0, 40, .inl x_kind)), (qx 5, .inl (Y 0, 40, .inl x_figure)), (qx 6, .inl (Y 0, 40, .inl x_low)), (qx 7, .inl (Y 0, 40, .inl x_high)), (qx 10, .inl (Y 1, 28672, .inr (.inl x_table))), (qx 11, .inl (Y 1, 7, .inr (.inl x_count))), (qx 12, .inl (Y 0, 144, .inl x_heavy)), (qx 33, .inl (Y 0, 4, .inl x_sorts)), (qx 34, .inl (Y 0, 4, .inl x_sizes)), (qx 35, .inl (Y 1, 240, .inr (.inl x_wholes))), (qx 36, .inl (Y 2, 240, .inr (.inr (.inl x_floats)))), (qx 37, .inl (Y 3, 240, .inr (.inr (.inr (.inl x_doubles)))))]) (rnS (As := [.int p1]) (rest := []) ⟨hx, hb, hml, hown, hts⟩ (c_X9_isSheet l G Y H.size p1 r9 hc) (va_cwS 1 hts gX9_writes_X9_isSheet rfl rfl rfl (by decide +kernel) ⟨(Nat.le_of_ble_eq_true rfl), (Nat.le_of_ble_eq_true rfl)⟩) trivial okT hK hP hD [] rfl rfl rfl hl.1 rfl (Nat.le_of_ble_eq_true rfl) dX9_writes_1) hP hD hS hA [] [0, 1, 2, 3, 4, 5, 6, 7, 8, 9, 10, 11, 12] [0, 1, 2, 3, 4, 5, 6, 7, 8, 9, 10, 11, 12] rfl rfl rfl (by decide) rfl rfl (fun H locs hP hD hS => ?_)
    refine lv_if_eq (tgt := 14) hx hb dX9_writes_4 (by decide) (fun c10 => ?_) (fun c10 => ?_)
    · have hf := it hf c10
      refine lv_bipush (v := -2) hx hb dX9_writes_14 (by decide) ?_
      obtain ⟨e0, e1, e2, e3, e4, e5, e6, e7⟩ := rt8 hf
      have hP : va_P G vwCl [(qx 0, oX9 qx x_points x_lines x_tide x_isKept o_x_isMuch x_sum x_once x_twice x_isTermMuch x_nodes x_newMany x_isTooGreat x_come x_foundSet), (qx 4, .inl (Y 0, 40, .inl x_kind)), (qx 5, .inl (Y 0, 40, .inl x_figure)), (qx 6, .inl (Y 0, 40, .inl x_low)), (qx 7, .inl (Y 0, 40, .inl x_high)), (qx 10, .inl (Y 1, 28672, .inr (.inl o_x_table))), (qx 11, .inl (Y 1, 7, .inr (.inl o_x_count))), (qx 12, .inl (Y 0, 144, .inl o_x_heavy)), (qx 33, .inl (Y 0, 4, .inl x_sorts)), (qx 34, .inl (Y 0, 4, .inl x_sizes)), (qx 35, .inl (Y 1, 240, .inr (.inl o_x_wholes))), (qx 36, .inl (Y 2, 240, .inr (.inr (.inl o_x_floats)))), (qx 37, .inl (Y 3, 240, .inr (.inr (.inr (.inl o_x_doubles)))))] H := by rw [← e1, ← e2, ← e3, ← e4, ← e5, ← e6, ← e7]; exact hP
      have hD : va_D A [(qx 0, oX9 qx x_points x_lines x_tide x_isKept o_x_isMuch x_sum x_once x_twice x_isTermMuch x_nodes x_newMany x_isTooGreat x_come x_foundSet), (qx 4, .inl (Y 0, 40, .inl x_kind)), (qx 5, .inl (Y 0, 40, .inl x_figure)), (qx 6, .inl (Y 0, 40, .inl x_low)), (qx 7, .inl (Y 0, 40, .inl x_high)), (qx 10, .inl (Y 1, 28672, .inr (.inl o_x_table))), (qx 11, .inl (Y 1, 7, .inr (.inl o_x_count))), (qx 12, .inl (Y 0, 144, .inl o_x_heavy)), (qx 33, .inl (Y 0, 4, .inl x_sorts)), (qx 34, .inl (Y 0, 4, .inl x_sizes)), (qx 35, .inl (Y 1, 240, .inr (.inl o_x_wholes))), (qx 36, .inl (Y 2, 240, .inr (.inr (.inl o_x_floats)))), (qx 37, .inl (Y 3, 240, .inr (.inr (.inr (.inl o_x_doubles)))))] := by rw [← e1, ← e2, ← e3, ← e4, ← e5, ← e6, ← e7]; exact hD
      exact W.iret (v := (-2 : Int32)) hx hb hr (fun t ht hW => ⟨⟨(-2 : Int32), (), rfl, e0, by rw [ht]; exact hP, va_K.moved hW.alike hK, by rw [hAe]; exact hD⟩, hS.F ht⟩) hS.2.2 dX9_writes_16
    · have hf := ie hf c10
      refine lv_iload_n hx hb dX9_writes_7 rfl (lv_at hl 2 rfl) ?_
      obtain ⟨r11, hc, hf⟩ := bd1 hf
      refine cl_i (ws' := [(qx 0, oX9 qx x_points x_lines x_tide x_isKept x_isMuch x_sum x_once x_twice x_isTermMuch x_nodes x_newMany x_isTooGreat x_come x_foundSet), (qx 4, .inl (Y 0, 40, .inl x_kind)), (qx 5, .inl (Y 0, 40, .inl x_figure)), (qx 6, .inl (Y 0, 40, .inl x_low)), (qx 7, .inl (Y 0, 40, .inl x_high)), (qx 10, .inl (Y 1, 28672, .inr (.inl x_table))), (qx 11, .inl (Y 1, 7, .inr (.inl x_count))), (qx 12, .inl (Y 0, 144, .inl x_heavy)), (qx 33, .inl (Y 0, 4, .inl x_sorts)), (qx 34, .inl (Y 0, 4, .inl x_sizes)), (qx 35, .inl (Y 1, 240, .inr (.inl x_wholes))), (qx 36, .inl (Y 2, 240, .inr (.inr (.inl x_floats)))), (qx 37, .inl (Y 3, 240, .inr (.inr (.inr (.inl x_doubles)))))]) (wr := [(qx 0, oX9 qx x_points x_lines x_tide x_isKept x_isMuch x_sum x_once x_twice x_isTermMuch x_nodes x_newMany x_isTooGreat x_come x_foundSet), (qx 4, .inl (Y 0, 40, .inl x_kind)), (qx 5, .inl (Y 0, 40, .inl x_figure)), (qx 6, .inl (Y 0, 40, .inl x_low)), (qx 7, .inl (Y 0, 40, .inl x_high)), (qx 10, .inl (Y 1, 28672, .inr (.inl x_table))), (qx 11, .inl (Y 1, 7, .inr (.inl x_count))), (qx 12, .inl (Y 0, 144, .inl x_heavy)), (qx 33, .inl (Y 0, 4, .inl x_sorts)), (qx 34, .inl (Y 0, 4, .inl x_sizes)), (qx 35, .inl (Y 1, 240, .inr (.inl x_wholes))), (qx 36, .inl (Y 2, 240, .inr (.inr (.inl x_floats)))), (qx 37, .inl (Y 3, 240, .inr (.inr (.inr (.inl x_doubles)))))]) (rnS (As := [.int p2]) (rest := []) ⟨hx, hb, hml, hown, hts⟩ (c_X9_isOut l G Y H.size p2 r11 hc) (va_cwS 1 hts gX9_writes_X9_isOut rfl rfl rfl (by decide +kernel) ⟨(Nat.le_of_ble_eq_true rfl), (Nat.le_of_ble_eq_true rfl)⟩) trivial okT hK hP hD [] rfl rfl rfl hl.1 rfl (Nat.le_of_ble_eq_true rfl) dX9_writes_8) hP hD hS hA [] [0, 1, 2, 3, 4, 5, 6, 7, 8, 9, 10, 11, 12] [0, 1, 2, 3, 4, 5, 6, 7, 8, 9, 10, 11, 12] rfl rfl rfl (by decide) rfl rfl (fun H locs hP hD hS => ?_)
      refine lv_if_ne (tgt := 17) hx hb dX9_writes_11 (by decide) (fun c12 => ?_) (fun c12 => ?_)
      · have hf := ie hf c12
        refine lv_aload_n hx hb dX9_writes_17 rfl (lv_at hl 0 rfl) ?_
        refine va_get (D := G) (ci := 7) (v := .ref (qx 33)) (C := RX9) (T := TX9) (N := 37) hx hb hts inX9w hown hK hP 0 rfl rfl 32 (by decide) wd1 (fun _ h9 => h9) rfl dX9_writes_18 ?_
        refine lv_iload_n hx hb dX9_writes_21 rfl (lv_at hl 1 rfl) ?_
        obtain ⟨g13, hf⟩ := gd hf
        refine va_iald hx hb hK hP 8 0 rfl rfl g13 dX9_writes_22 ?_
        refine lv_if_ge (tgt := 29) hx hb dX9_writes_23 (by decide) (fun c14 => ?_) (fun c14 => ?_)
        · have hf := it hf c14
          refine lv_aload_n hx hb dX9_writes_29 rfl (lv_at hl 0 rfl) ?_
          refine lv_iload_n hx hb dX9_writes_30 rfl (lv_at hl 2 rfl) ?_
          obtain ⟨w15, w16, w17, w18, hc, hf⟩ := bd4 hf
          refine cl_v (ws' := [(qx 0, oX9 qx x_points x_lines x_tide x_isKept w18 x_sum x_once x_twice x_isTermMuch x_nodes x_newMany x_isTooGreat x_come x_foundSet), (qx 4, .inl (Y 0, 40, .inl x_kind)), (qx 5, .inl (Y 0, 40, .inl x_figure)), (qx 6, .inl (Y 0, 40, .inl x_low)), (qx 7, .inl (Y 0, 40, .inl x_high)), (qx 10, .inl (Y 1, 28672, .inr (.inl w15))), (qx 11, .inl (Y 1, 7, .inr (.inl w16))), (qx 12, .inl (Y 0, 144, .inl w17)), (qx 33, .inl (Y 0, 4, .inl x_sorts)), (qx 34, .inl (Y 0, 4, .inl x_sizes)), (qx 35, .inl (Y 1, 240, .inr (.inl x_wholes))), (qx 36, .inl (Y 2, 240, .inr (.inr (.inl x_floats)))), (qx 37, .inl (Y 3, 240, .inr (.inr (.inr (.inl x_doubles)))))]) (wr := [(qx 33, .inl (Y 0, 4, .inl x_sorts)), (qx 34, .inl (Y 0, 4, .inl x_sizes)), (qx 35, .inl (Y 1, 240, .inr (.inl x_wholes))), (qx 36, .inl (Y 2, 240, .inr (.inr (.inl x_floats)))), (qx 37, .inl (Y 3, 240, .inr (.inr (.inr (.inl x_doubles)))))]) (rnV (As := [.int p2]) (rest := []) ⟨hx, hb, hml, hown, hts⟩ (c_X9_findsCounts l G Y H.size qx x_points x_lines x_tide x_kind x_figure x_low x_high x_isKept x_table x_count x_heavy x_isMuch x_sum x_once x_twice x_isTermMuch x_nodes x_newMany x_isTooGreat x_come x_foundSet p2 w15 w16 w17 w18 hc) (cwV 1 hts gX9_writes_X9_findsCounts rfl rfl rfl (by decide +kernel) ⟨(Nat.le_of_ble_eq_true rfl), (Nat.le_of_ble_eq_true rfl)⟩) trivial okT hK hP hD [0, 1, 2, 3, 4, 5, 6, 7] rfl rfl (ci := 7) (q0 := 0) rfl rfl rfl rfl hl.1 rfl (Nat.le_of_ble_eq_true rfl) dX9_writes_31) hP hD hS hA [0, 1, 2, 3, 4, 5, 6, 7] [8, 9, 10, 11, 12] [5, 6, 7, 8, 9, 10, 11, 12, 0, 1, 2, 3, 4] rfl rfl rfl (by decide) rfl rfl (fun H locs hP hD hS => ?_)
          refine lv_aload_n hx hb dX9_writes_34 rfl (lv_at hl 0 rfl) ?_
          refine va_get (D := G) (ci := 7) (v := .int w18) (C := RX9) (T := TX9) (N := 37) hx hb hts inX9w hown hK hP 0 rfl rfl 12 (by decide) wd2 (fun _ h9 => h9) rfl dX9_writes_35 ?_
          refine lv_if_eq (tgt := 44) hx hb dX9_writes_38 (by decide) (fun c19 => ?_) (fun c19 => ?_)
          · have hf := it hf c19
            refine lv_aload_n hx hb dX9_writes_44 rfl (lv_at hl 0 rfl) ?_
            refine lv_iload_n hx hb dX9_writes_45 rfl (lv_at hl 2 rfl) ?_
            obtain ⟨r20, hc, hf⟩ := bd1 hf
            refine cl_i (ws' := [(qx 0, oX9 qx x_points x_lines x_tide x_isKept w18 x_sum x_once x_twice x_isTermMuch x_nodes x_newMany x_isTooGreat x_come x_foundSet), (qx 4, .inl (Y 0, 40, .inl x_kind)), (qx 5, .inl (Y 0, 40, .inl x_figure)), (qx 6, .inl (Y 0, 40, .inl x_low)), (qx 7, .inl (Y 0, 40, .inl x_high)), (qx 10, .inl (Y 1, 28672, .inr (.inl w15))), (qx 11, .inl (Y 1, 7, .inr (.inl w16))), (qx 12, .inl (Y 0, 144, .inl w17)), (qx 33, .inl (Y 0, 4, .inl x_sorts)), (qx 34, .inl (Y 0, 4, .inl x_sizes)), (qx 35, .inl (Y 1, 240, .inr (.inl x_wholes))), (qx 36, .inl (Y 2, 240, .inr (.inr (.inl x_floats)))), (qx 37, .inl (Y 3, 240, .inr (.inr (.inr (.inl x_doubles)))))]) (wr := [(qx 4, .inl (Y 0, 40, .inl x_kind)), (qx 5, .inl (Y 0, 40, .inl x_figure)), (qx 6, .inl (Y 0, 40, .inl x_low)), (qx 7, .inl (Y 0, 40, .inl x_high)), (qx 10, .inl (Y 1, 28672, .inr (.inl w15))), (qx 11, .inl (Y 1, 7, .inr (.inl w16))), (qx 12, .inl (Y 0, 144, .inl w17)), (qx 33, .inl (Y 0, 4, .inl x_sorts)), (qx 34, .inl (Y 0, 4, .inl x_sizes)), (qx 35, .inl (Y 1, 240, .inr (.inl x_wholes))), (qx 36, .inl (Y 2, 240, .inr (.inr (.inl x_floats)))), (qx 37, .inl (Y 3, 240, .inr (.inr (.inr (.inl x_doubles)))))]) (rnV (As := [.int p2]) (rest := []) ⟨hx, hb, hml, hown, hts⟩ (c_X9_free l G Y H.size qx x_points x_lines x_tide x_isKept w18 x_sum x_once x_twice x_isTermMuch x_nodes x_newMany x_isTooGreat x_come x_foundSet p2 r20 hc) (cwV 1 hts gX9_writes_X9_free rfl rfl rfl (by decide +kernel) ⟨(Nat.le_of_ble_eq_true rfl), (Nat.le_of_ble_eq_true rfl)⟩) trivial okT hK hP hD [0] rfl rfl (ci := 7) (q0 := 0) rfl rfl rfl rfl hl.1 rfl (Nat.le_of_ble_eq_true rfl) dX9_writes_46) hP hD hS hA [0] [1, 2, 3, 4, 5, 6, 7, 8, 9, 10, 11, 12] [12, 0, 1, 2, 3, 4, 5, 6, 7, 8, 9, 10, 11] rfl rfl rfl (by decide) rfl rfl (fun H locs hP hD hS => ?_)
            obtain ⟨r21, hc, hf⟩ := bd1 hf
            refine cl_i (ws' := [(qx 0, oX9 qx x_points x_lines x_tide x_isKept w18 x_sum x_once x_twice x_isTermMuch x_nodes x_newMany x_isTooGreat x_come x_foundSet), (qx 4, .inl (Y 0, 40, .inl x_kind)), (qx 5, .inl (Y 0, 40, .inl x_figure)), (qx 6, .inl (Y 0, 40, .inl x_low)), (qx 7, .inl (Y 0, 40, .inl x_high)), (qx 10, .inl (Y 1, 28672, .inr (.inl w15))), (qx 11, .inl (Y 1, 7, .inr (.inl w16))), (qx 12, .inl (Y 0, 144, .inl w17)), (qx 33, .inl (Y 0, 4, .inl x_sorts)), (qx 34, .inl (Y 0, 4, .inl x_sizes)), (qx 35, .inl (Y 1, 240, .inr (.inl x_wholes))), (qx 36, .inl (Y 2, 240, .inr (.inr (.inl x_floats)))), (qx 37, .inl (Y 3, 240, .inr (.inr (.inr (.inl x_doubles)))))]) (wr := [(qx 0, oX9 qx x_points x_lines x_tide x_isKept w18 x_sum x_once x_twice x_isTermMuch x_nodes x_newMany x_isTooGreat x_come x_foundSet), (qx 4, .inl (Y 0, 40, .inl x_kind)), (qx 5, .inl (Y 0, 40, .inl x_figure)), (qx 6, .inl (Y 0, 40, .inl x_low)), (qx 7, .inl (Y 0, 40, .inl x_high)), (qx 10, .inl (Y 1, 28672, .inr (.inl w15))), (qx 11, .inl (Y 1, 7, .inr (.inl w16))), (qx 12, .inl (Y 0, 144, .inl w17)), (qx 33, .inl (Y 0, 4, .inl x_sorts)), (qx 34, .inl (Y 0, 4, .inl x_sizes)), (qx 35, .inl (Y 1, 240, .inr (.inl x_wholes))), (qx 36, .inl (Y 2, 240, .inr (.inr (.inl x_floats)))), (qx 37, .inl (Y 3, 240, .inr (.inr (.inr (.inl x_doubles)))))]) (rnS (As := [.int r20]) (rest := []) ⟨hx, hb, hml, hown, hts⟩ (c_X9_many l G Y H.size r20 r21 hc) (va_cwS 1 hts gX9_writes_X9_many rfl rfl rfl (by decide +kernel) ⟨(Nat.le_of_ble_eq_true rfl), (Nat.le_of_ble_eq_true rfl)⟩) trivial okT hK hP hD [] rfl rfl rfl hl.1 rfl (Nat.le_of_ble_eq_true rfl) dX9_writes_49) hP hD hS hA [] [0, 1, 2, 3, 4, 5, 6, 7, 8, 9, 10, 11, 12] [0, 1, 2, 3, 4, 5, 6, 7, 8, 9, 10, 11, 12] rfl rfl rfl (by decide) rfl rfl (fun H locs hP hD hS => ?_)
            refine lv_istore_n (lv' := [(3, .int r21), (0, .ref (qx 0)), (1, .int p1), (2, .int p2)]) hx hb dX9_writes_52 rfl hl (by decide) rfl (fun ls hl => ?_)
            refine lv_iconst (v := 0) hx hb dX9_writes_53 (by decide) ?_
            refine lv_istore (lv' := [(4, .int (0 : Int32)), (3, .int r21), (0, .ref (qx 0)), (1, .int p1), (2, .int p2)]) hx hb dX9_writes_54 hl (by decide) rfl (fun ls hl => ?_)
            exact B56 70 w15 w16 w17 w18 x_wholes x_floats x_doubles r21 (0 : Int32) hf _ _ hP hD hS ls (lv_sub hl [2, 3, 1, 0] rfl)
          · have hf := ie hf c19
            refine lv_bipush (v := -5) hx hb dX9_writes_41 (by decide) ?_
            obtain ⟨e0, e1, e2, e3, e4, e5, e6, e7⟩ := rt8 hf
            have hP : va_P G vwCl [(qx 0, oX9 qx x_points x_lines x_tide x_isKept o_x_isMuch x_sum x_once x_twice x_isTermMuch x_nodes x_newMany x_isTooGreat x_come x_foundSet), (qx 4, .inl (Y 0, 40, .inl x_kind)), (qx 5, .inl (Y 0, 40, .inl x_figure)), (qx 6, .inl (Y 0, 40, .inl x_low)), (qx 7, .inl (Y 0, 40, .inl x_high)), (qx 10, .inl (Y 1, 28672, .inr (.inl o_x_table))), (qx 11, .inl (Y 1, 7, .inr (.inl o_x_count))), (qx 12, .inl (Y 0, 144, .inl o_x_heavy)), (qx 33, .inl (Y 0, 4, .inl x_sorts)), (qx 34, .inl (Y 0, 4, .inl x_sizes)), (qx 35, .inl (Y 1, 240, .inr (.inl o_x_wholes))), (qx 36, .inl (Y 2, 240, .inr (.inr (.inl o_x_floats)))), (qx 37, .inl (Y 3, 240, .inr (.inr (.inr (.inl o_x_doubles)))))] H := by rw [← e1, ← e2, ← e3, ← e4, ← e5, ← e6, ← e7]; exact hP
            have hD : va_D A [(qx 0, oX9 qx x_points x_lines x_tide x_isKept o_x_isMuch x_sum x_once x_twice x_isTermMuch x_nodes x_newMany x_isTooGreat x_come x_foundSet), (qx 4, .inl (Y 0, 40, .inl x_kind)), (qx 5, .inl (Y 0, 40, .inl x_figure)), (qx 6, .inl (Y 0, 40, .inl x_low)), (qx 7, .inl (Y 0, 40, .inl x_high)), (qx 10, .inl (Y 1, 28672, .inr (.inl o_x_table))), (qx 11, .inl (Y 1, 7, .inr (.inl o_x_count))), (qx 12, .inl (Y 0, 144, .inl o_x_heavy)), (qx 33, .inl (Y 0, 4, .inl x_sorts)), (qx 34, .inl (Y 0, 4, .inl x_sizes)), (qx 35, .inl (Y 1, 240, .inr (.inl o_x_wholes))), (qx 36, .inl (Y 2, 240, .inr (.inr (.inl o_x_floats)))), (qx 37, .inl (Y 3, 240, .inr (.inr (.inr (.inl o_x_doubles)))))] := by rw [← e1, ← e2, ← e3, ← e4, ← e5, ← e6, ← e7]; exact hD
            exact W.iret (v := (-5 : Int32)) hx hb hr (fun t ht hW => ⟨⟨(-5 : Int32), (), rfl, e0, by rw [ht]; exact hP, va_K.moved hW.alike hK, by rw [hAe]; exact hD⟩, hS.F ht⟩) hS.2.2 dX9_writes_43
        · have hf := ie hf c14
          refine lv_bipush (v := -11) hx hb dX9_writes_26 (by decide) ?_
          obtain ⟨e0, e1, e2, e3, e4, e5, e6, e7⟩ := rt8 hf
          have hP : va_P G vwCl [(qx 0, oX9 qx x_points x_lines x_tide x_isKept o_x_isMuch x_sum x_once x_twice x_isTermMuch x_nodes x_newMany x_isTooGreat x_come x_foundSet), (qx 4, .inl (Y 0, 40, .inl x_kind)), (qx 5, .inl (Y 0, 40, .inl x_figure)), (qx 6, .inl (Y 0, 40, .inl x_low)), (qx 7, .inl (Y 0, 40, .inl x_high)), (qx 10, .inl (Y 1, 28672, .inr (.inl o_x_table))), (qx 11, .inl (Y 1, 7, .inr (.inl o_x_count))), (qx 12, .inl (Y 0, 144, .inl o_x_heavy)), (qx 33, .inl (Y 0, 4, .inl x_sorts)), (qx 34, .inl (Y 0, 4, .inl x_sizes)), (qx 35, .inl (Y 1, 240, .inr (.inl o_x_wholes))), (qx 36, .inl (Y 2, 240, .inr (.inr (.inl o_x_floats)))), (qx 37, .inl (Y 3, 240, .inr (.inr (.inr (.inl o_x_doubles)))))] H := by rw [← e1, ← e2, ← e3, ← e4, ← e5, ← e6, ← e7]; exact hP
          have hD : va_D A [(qx 0, oX9 qx x_points x_lines x_tide x_isKept o_x_isMuch x_sum x_once x_twice x_isTermMuch x_nodes x_newMany x_isTooGreat x_come x_foundSet), (qx 4, .inl (Y 0, 40, .inl x_kind)), (qx 5, .inl (Y 0, 40, .inl x_figure)), (qx 6, .inl (Y 0, 40, .inl x_low)), (qx 7, .inl (Y 0, 40, .inl x_high)), (qx 10, .inl (Y 1, 28672, .inr (.inl o_x_table))), (qx 11, .inl (Y 1, 7, .inr (.inl o_x_count))), (qx 12, .inl (Y 0, 144, .inl o_x_heavy)), (qx 33, .inl (Y 0, 4, .inl x_sorts)), (qx 34, .inl (Y 0, 4, .inl x_sizes)), (qx 35, .inl (Y 1, 240, .inr (.inl o_x_wholes))), (qx 36, .inl (Y 2, 240, .inr (.inr (.inl o_x_floats)))), (qx 37, .inl (Y 3, 240, .inr (.inr (.inr (.inl o_x_doubles)))))] := by rw [← e1, ← e2, ← e3, ← e4, ← e5, ← e6, ← e7]; exact hD
          exact W.iret (v := (-11 : Int32)) hx hb hr (fun t ht hW => ⟨⟨(-11 : Int32), (), rfl, e0, by rw [ht]; exact hP, va_K.moved hW.alike hK, by rw [hAe]; exact hD⟩, hS.F ht⟩) hS.2.2 dX9_writes_28
      · have hf := it hf c12
        refine lv_bipush (v := -2) hx hb dX9_writes_14 (by decide) ?_
        obtain ⟨e0, e1, e2, e3, e4, e5, e6, e7⟩ := rt8 hf
        have hP : va_P G vwCl [(qx 0, oX9 qx x_points x_lines x_tide x_isKept o_x_isMuch x_sum x_once x_twice x_isTermMuch x_nodes x_newMany x_isTooGreat x_come x_foundSet), (qx 4, .inl (Y 0, 40, .inl x_kind)), (qx 5, .inl (Y 0, 40, .inl x_figure)), (qx 6, .inl (Y 0, 40, .inl x_low)), (qx 7, .inl (Y 0, 40, .inl x_high)), (qx 10, .inl (Y 1, 28672, .inr (.inl o_x_table))), (qx 11, .inl (Y 1, 7, .inr (.inl o_x_count))), (qx 12, .inl (Y 0, 144, .inl o_x_heavy)), (qx 33, .inl (Y 0, 4, .inl x_sorts)), (qx 34, .inl (Y 0, 4, .inl x_sizes)), (qx 35, .inl (Y 1, 240, .inr (.inl o_x_wholes))), (qx 36, .inl (Y 2, 240, .inr (.inr (.inl o_x_floats)))), (qx 37, .inl (Y 3, 240, .inr (.inr (.inr (.inl o_x_doubles)))))] H := by rw [← e1, ← e2, ← e3, ← e4, ← e5, ← e6, ← e7]; exact hP
        have hD : va_D A [(qx 0, oX9 qx x_points x_lines x_tide x_isKept o_x_isMuch x_sum x_once x_twice x_isTermMuch x_nodes x_newMany x_isTooGreat x_come x_foundSet), (qx 4, .inl (Y 0, 40, .inl x_kind)), (qx 5, .inl (Y 0, 40, .inl x_figure)), (qx 6, .inl (Y 0, 40, .inl x_low)), (qx 7, .inl (Y 0, 40, .inl x_high)), (qx 10, .inl (Y 1, 28672, .inr (.inl o_x_table))), (qx 11, .inl (Y 1, 7, .inr (.inl o_x_count))), (qx 12, .inl (Y 0, 144, .inl o_x_heavy)), (qx 33, .inl (Y 0, 4, .inl x_sorts)), (qx 34, .inl (Y 0, 4, .inl x_sizes)), (qx 35, .inl (Y 1, 240, .inr (.inl o_x_wholes))), (qx 36, .inl (Y 2, 240, .inr (.inr (.inl o_x_floats)))), (qx 37, .inl (Y 3, 240, .inr (.inr (.inr (.inl o_x_doubles)))))] := by rw [← e1, ← e2, ← e3, ← e4, ← e5, ← e6, ← e7]; exact hD
        exact W.iret (v := (-2 : Int32)) hx hb hr (fun t ht hW => ⟨⟨(-2 : Int32), (), rfl, e0, by rw [ht]; exact hP, va_K.moved hW.alike hK, by rw [hAe]; exact hD⟩, hS.F ht⟩) hS.2.2 dX9_writes_16
  exact E0 s.heap [] hP hD hS ls hl
-- X9_isLike
set_option maxRecDepth 100000 in
set_option maxHeartbeats 4000000 in
theorem c_X9_isLike (l : Launch) (G : va_G) (Y : Nat → ClassId) (sz : Nat) (qx : Nat → Nat) (x_points : Int32) (x_lines : Int32) (x_tide : Int32) (x_isKept : Int32) (x_isMuch : Int32) (x_sum : Int64) (x_once : Int64) (x_twice : Int64) (x_isTermMuch : Int32) (x_nodes : Int32) (x_newMany : Int32) (x_isTooGreat : Int32) (x_come : Int32) (x_foundSet : Int64) (x_sorts : Nat → Int32) (x_wholes : Nat → Int64) (x_floats : Nat → UInt32) (x_doubles : Nat → UInt64) (p1 : Int32) (p2 : Int32) (p3 : Int64) (rv : Int32) (hf : f_X9_isLike x_sorts x_wholes x_floats x_doubles p1 p2 p3 = some (rv)) : Met l yX9_isLike wsX9_isLike (rmk 0 0) (va_Pc [.ref (qx 0), .int p1, .int p2, .long p3] (Pre G (tys Y) [(qx 0, oX9 qx x_points x_lines x_tide x_isKept x_isMuch x_sum x_once x_twice x_isTermMuch x_nodes x_newMany x_isTooGreat x_come x_foundSet), (qx 33, .inl (Y 0, 4, .inl x_sorts)), (qx 35, .inl (Y 1, 240, .inr (.inl x_wholes))), (qx 36, .inl (Y 2, 240, .inr (.inr (.inl x_floats)))), (qx 37, .inl (Y 3, 240, .inr (.inr (.inr (.inl x_doubles)))))] sz xT)) (va_Qi (fun (r : Int32) (_ : Unit) => r = rv) (Pst G (tys Y) [(qx 0, oX9 qx x_points x_lines x_tide x_isKept x_isMuch x_sum x_once x_twice x_isTermMuch x_nodes x_newMany x_isTooGreat x_come x_foundSet), (qx 33, .inl (Y 0, 4, .inl x_sorts)), (qx 35, .inl (Y 1, 240, .inr (.inl x_wholes))), (qx 36, .inl (Y 2, 240, .inr (.inr (.inl x_floats)))), (qx 37, .inl (Y 3, 240, .inr (.inr (.inr (.inl x_doubles)))))] sz [(qx 0, oX9 qx x_points x_lines x_tide x_isKept x_isMuch x_sum x_once x_twice x_isTermMuch x_nodes x_newMany x_isTooGreat x_come x_foundSet), (qx 33, .inl (Y 0, 4, .inl x_sorts)), (qx 35, .inl (Y 1, 240, .inr (.inl x_wholes))), (qx 36, .inl (Y 2, 240, .inr (.inr (.inl x_floats)))), (qx 37, .inl (Y 3, 240, .inr (.inr (.inr (.inl x_doubles)))))]) (va_A [(qx 0, oX9 qx x_points x_lines x_tide x_isKept x_isMuch x_sum x_once x_twice x_isTermMuch x_nodes x_newMany x_isTooGreat x_come x_foundSet), (qx 33, .inl (Y 0, 4, .inl x_sorts)), (qx 35, .inl (Y 1, 240, .inr (.inl x_wholes))), (qx 36, .inl (Y 2, 240, .inr (.inr (.inl x_floats)))), (qx 37, .inl (Y 3, 240, .inr (.inr (.inr (.inl x_doubles)))))] sz)) 0 0 (va_A [(qx 0, oX9 qx x_points x_lines x_tide x_isKept x_isMuch x_sum x_once x_twice x_isTermMuch x_nodes x_newMany x_isTooGreat x_come x_foundSet), (qx 33, .inl (Y 0, 4, .inl x_sorts)), (qx 35, .inl (Y 1, 240, .inr (.inl x_wholes))), (qx 36, .inl (Y 2, 240, .inr (.inr (.inl x_floats)))), (qx 37, .inl (Y 3, 240, .inr (.inr (.inr (.inl x_doubles)))))] sz) := by
  refine Met.ofW (cc := cX9_isLike) (maxL := 6) (ret := (some .boolean)) (by decide) rfl ?_
  intro p e s m args below meth c s₁ B hml hv
  obtain ⟨rfl, hsz, hP, hK, hD0, hX⟩ := hv
  have hx := B.exec
  have hb := B.bytes
  have hr := B.returns
  have hts := atoms_spec (ws := wsX9_isLike) B.pre
  have hown : s.vm.findClass RX9 = some m.cls := findClass_of_methodNamed B.named
  have hlocks := B.notSynchronized
  subst hsz
  have hD := hD0.self (sz := s.heap.size)
  generalize hAe : va_A [(qx 0, oX9 qx x_points x_lines x_tide x_isKept x_isMuch x_sum x_once x_twice x_isTermMuch x_nodes x_newMany x_isTooGreat x_come x_foundSet), (qx 33, .inl (Y 0, 4, .inl x_sorts)), (qx 35, .inl (Y 1, 240, .inr (.inl x_wholes))), (qx 36, .inl (Y 2, 240, .inr (.inr (.inl x_floats)))), (qx 37, .inl (Y 3, 240, .inr (.inr (.inr (.inl x_doubles)))))] s.heap.size = A at hD ⊢
  have hA : ∀ q : Nat, s.heap.size ≤ q → A q := fun q h => by rw [← hAe]; exact Or.inr h
  have hS : va_S A s.heap s.heap [] := va_S.rf
  have hP : va_P G vwCl [(qx 0, oX9 qx x_points x_lines x_tide x_isKept x_isMuch x_sum x_once x_twice x_isTermMuch x_nodes x_newMany x_isTooGreat x_come x_foundSet), (qx 33, .inl (Y 0, 4, .inl x_sorts)), (qx 35, .inl (Y 1, 240, .inr (.inl x_wholes))), (qx 36, .inl (Y 2, 240, .inr (.inr (.inl x_floats)))), (qx 37, .inl (Y 3, 240, .inr (.inr (.inr (.inl x_doubles)))))] s.heap := hP
  have wd1 : (Cond.fieldLink RX9 65 "PairedLinesModel" "sorts" "[I").before [.ref (qx 0), .int p1, .int p2, .long p3].toArray s = true := hts _ (List.mem_of_getElem? (i := 1) rfl)
  have wd2 : (Cond.fieldLink RX9 74 "PairedLinesModel" "floats" "[F").before [.ref (qx 0), .int p1, .int p2, .long p3].toArray s = true := hts _ (List.mem_of_getElem? (i := 2) rfl)
  have wd3 : (Cond.fieldLink RX9 78 "PairedLinesModel" "doubles" "[D").before [.ref (qx 0), .int p1, .int p2, .long p3].toArray s = true := hts _ (List.mem_of_getElem? (i := 3) rfl)
  have wd4 : (Cond.fieldLink RX9 71 "PairedLinesModel" "wholes" "[J").before [.ref (qx 0), .int p1, .int p2, .long p3].toArray s = true := hts _ (List.mem_of_getElem? (i := 4) rfl)
  have inX9w : ∀ w ∈ u_ws RX9 TX9 37, w ∈ wsX9_isLike := fun w hw => List.mem_cons_of_mem _ (List.mem_append_right _ (hw))
  have hl := lv_entry ([.ref (qx 0), .int p1, .int p2, .long p3]) (n := 6) (Nat.le_of_ble_eq_true rfl)
  rw [lg_entry_eq]
  generalize (lg_sl ([.ref (qx 0), .int p1, .int p2, .long p3]) ++ List.replicate (6 - (lg_sl ([.ref (qx 0), .int p1, .int p2, .long p3])).length) Slot.unset).toArray = ls at hl ⊢
  have hl : lv_has ls 6 [(0, .ref (qx 0)), (1, .int p1), (2, .int p2), (3, .long p3)] := hl
  have E0 : ∀ (H : Heap) (locs : List Loc), va_P G vwCl [(qx 0, oX9 qx x_points x_lines x_tide x_isKept x_isMuch x_sum x_once x_twice x_isTermMuch x_nodes x_newMany x_isTooGreat x_come x_foundSet), (qx 33, .inl (Y 0, 4, .inl x_sorts)), (qx 35, .inl (Y 1, 240, .inr (.inl x_wholes))), (qx 36, .inl (Y 2, 240, .inr (.inr (.inl x_floats)))), (qx 37, .inl (Y 3, 240, .inr (.inr (.inr (.inl x_doubles)))))] H → va_D A [(qx 0, oX9 qx x_points x_lines x_tide x_isKept x_isMuch x_sum x_once x_twice x_isTermMuch x_nodes x_newMany x_isTooGreat x_come x_foundSet), (qx 33, .inl (Y 0, 4, .inl x_sorts)), (qx 35, .inl (Y 1, 240, .inr (.inl x_wholes))), (qx 36, .inl (Y 2, 240, .inr (.inr (.inl x_floats)))), (qx 37, .inl (Y 3, 240, .inr (.inr (.inr (.inl x_doubles)))))] → va_S A s.heap H locs → ∀ (ls : Array Slot), lv_has ls 6 [(0, .ref (qx 0)), (1, .int p1), (2, .int p2), (3, .long p3)] → W p l e (headSpec wsX9_isLike (rmk 0 0)).room s m [.ref (qx 0), .int p1, .int p2, .long p3].toArray below meth c H locs 0 0 (MQ below (va_Qi (fun (r : Int32) (_ : Unit) => r = rv) (Pst G (tys Y) [(qx 0, oX9 qx x_points x_lines x_tide x_isKept x_isMuch x_sum x_once x_twice x_isTermMuch x_nodes x_newMany x_isTooGreat x_come x_foundSet), (qx 33, .inl (Y 0, 4, .inl x_sorts)), (qx 35, .inl (Y 1, 240, .inr (.inl x_wholes))), (qx 36, .inl (Y 2, 240, .inr (.inr (.inl x_floats)))), (qx 37, .inl (Y 3, 240, .inr (.inr (.inr (.inl x_doubles)))))] s.heap.size [(qx 0, oX9 qx x_points x_lines x_tide x_isKept x_isMuch x_sum x_once x_twice x_isTermMuch x_nodes x_newMany x_isTooGreat x_come x_foundSet), (qx 33, .inl (Y 0, 4, .inl x_sorts)), (qx 35, .inl (Y 1, 240, .inr (.inl x_wholes))), (qx 36, .inl (Y 2, 240, .inr (.inr (.inl x_floats)))), (qx 37, .inl (Y 3, 240, .inr (.inr (.inr (.inl x_doubles)))))]) A) [.ref (qx 0), .int p1, .int p2, .long p3].toArray s 0 0 A) (F0 m 0 ls []) := by
    intro H locs hP hD hS ls hl
    unfold f_X9_isLike at hf
    refine lv_bipush (v := 60) hx hb dX9_isLike_0 (by decide) ?_
    refine lv_iload_n hx hb dX9_isLike_2 rfl (lv_at hl 1 rfl) ?_
    refine lv_imul hx hb dX9_isLike_3 ?_
    refine lv_iload_n hx hb dX9_isLike_4 rfl (lv_at hl 2 rfl) ?_
    refine lv_iadd hx hb dX9_isLike_5 ?_
    refine lv_topi (fun v1 e_v1 => ?_)
    have hf := nm_at hf e_v1
    refine lv_istore (lv' := [(5, .int v1), (0, .ref (qx 0)), (1, .int p1), (2, .int p2), (3, .long p3)]) hx hb dX9_isLike_6 hl (by decide) rfl (fun ls hl => ?_)
    refine lv_aload_n hx hb dX9_isLike_8 rfl (lv_at hl 1 rfl) ?_
    refine va_get (D := G) (ci := 7) (v := .ref (qx 33)) (C := RX9) (T := TX9) (N := 37) hx hb hts inX9w hown hK hP 0 rfl rfl 32 (by decide) wd1 (fun _ h9 => h9) rfl dX9_isLike_9 ?_
    refine lv_iload_n hx hb dX9_isLike_12 rfl (lv_at hl 2 rfl) ?_
    obtain ⟨g2, hf⟩ := gd hf
    refine va_iald hx hb hK hP 1 0 rfl rfl g2 dX9_isLike_13 ?_
    refine lv_topi (fun v3 e_v3 => ?_)
    have hf := nm_at hf e_v3
    by_cases c4 : v3 = 2
    · have hf := it hf c4
      refine lv_lookup (tgt := 40) hx hb dX9_isLike_14 (by decide) (off := 26) (by rw [c4]; rfl) (by decide) ?_
      refine lv_aload_n hx hb dX9_isLike_40 rfl (lv_at hl 1 rfl) ?_
      refine va_get (D := G) (ci := 7) (v := .ref (qx 36)) (C := RX9) (T := TX9) (N := 37) hx hb hts inX9w hown hK hP 0 rfl rfl 35 (by decide) wd2 (fun _ h9 => h9) rfl dX9_isLike_41 ?_
      refine lv_iload hx hb dX9_isLike_44 (lv_at hl 0 rfl) ?_
      obtain ⟨g5, hf⟩ := gd hf
      refine va_fald hx hb hK hP 3 2 rfl rfl g5 dX9_isLike_46 ?_
      refine lv_lload_n hx hb dX9_isLike_47 rfl (lv_at hl 4 rfl) ?_
      refine lv_l2f hx hb dX9_isLike_48 ?_
      refine lv_fcmp hx hb dX9_isLike_49 ?_
      refine lv_if_ne (tgt := 57) hx hb dX9_isLike_50 (by decide) (fun c6 => ?_) (fun c6 => ?_)
      · have hf := ie hf c6
        refine lv_iconst (v := 0) hx hb dX9_isLike_57 (by decide) ?_
        have e0 := rt1 hf
        exact W.zret (v := (0 : Int32)) hx hb hr rfl (fun t ht hW => ⟨⟨(0 : Int32), (), rfl, e0, by rw [ht]; exact hP, va_K.moved hW.alike hK, by rw [hAe]; exact hD⟩, hS.F ht⟩) hS.2.2 dX9_isLike_58
      · have hf := it hf c6
        refine lv_iconst (v := 1) hx hb dX9_isLike_53 (by decide) ?_
        refine lv_goto (tgt := 58) hx hb dX9_isLike_54 (by decide) ?_
        have e0 := rt1 hf
        exact W.zret (v := (1 : Int32)) hx hb hr rfl (fun t ht hW => ⟨⟨(1 : Int32), (), rfl, e0, by rw [ht]; exact hP, va_K.moved hW.alike hK, by rw [hAe]; exact hD⟩, hS.F ht⟩) hS.2.2 dX9_isLike_58
    have hf := ie hf c4
    by_cases c7 : v3 = 3
    · have hf := it hf c7
      refine lv_lookup (tgt := 59) hx hb dX9_isLike_14 (by decide) (off := 45) (by rw [c7]; rfl) (by decide) ?_
      refine lv_aload_n hx hb dX9_isLike_59 rfl (lv_at hl 1 rfl) ?_
      refine va_get (D := G) (ci := 7) (v := .ref (qx 37)) (C := RX9) (T := TX9) (N := 37) hx hb hts inX9w hown hK hP 0 rfl rfl 36 (by decide) wd3 (fun _ h9 => h9) rfl dX9_isLike_60 ?_
      refine lv_iload hx hb dX9_isLike_63 (lv_at hl 0 rfl) ?_
      obtain ⟨g8, hf⟩ := gd hf
      refine va_dald hx hb hK hP 4 3 rfl rfl g8 dX9_isLike_65 ?_
      refine lv_lload_n hx hb dX9_isLike_66 rfl (lv_at hl 4 rfl) ?_
      refine lv_l2d hx hb dX9_isLike_67 ?_
      refine lv_dcmp hx hb dX9_isLike_68 ?_
      refine lv_if_ne (tgt := 76) hx hb dX9_isLike_69 (by decide) (fun c9 => ?_) (fun c9 => ?_)
      · have hf := ie hf c9
        refine lv_iconst (v := 0) hx hb dX9_isLike_76 (by decide) ?_
        have e0 := rt1 hf
        exact W.zret (v := (0 : Int32)) hx hb hr rfl (fun t ht hW => ⟨⟨(0 : Int32), (), rfl, e0, by rw [ht]; exact hP, va_K.moved hW.alike hK, by rw [hAe]; exact hD⟩, hS.F ht⟩) hS.2.2 dX9_isLike_77
      · have hf := it hf c9
        refine lv_iconst (v := 1) hx hb dX9_isLike_72 (by decide) ?_
        refine lv_goto (tgt := 77) hx hb dX9_isLike_73 (by decide) ?_
        have e0 := rt1 hf
        exact W.zret (v := (1 : Int32)) hx hb hr rfl (fun t ht hW => ⟨⟨(1 : Int32), (), rfl, e0, by rw [ht]; exact hP, va_K.moved hW.alike hK, by rw [hAe]; exact hD⟩, hS.F ht⟩) hS.2.2 dX9_isLike_77
    have hf := ie hf c7
    refine lv_lookup (tgt := 78) hx hb dX9_isLike_14 (by decide) (off := 64) (by show Op.lookupswitch.offset [(2, 26), (3, 45)] 64 v3.toInt = 64; rw [lv_osw c4 (by decide), lv_osw c7 (by decide)]; rfl) (by decide) ?_
    refine lv_aload_n hx hb dX9_isLike_78 rfl (lv_at hl 1 rfl) ?_
    refine va_get (D := G) (ci := 7) (v := .ref (qx 35)) (C := RX9) (T := TX9) (N := 37) hx hb hts inX9w hown hK hP 0 rfl rfl 34 (by decide) wd4 (fun _ h9 => h9) rfl dX9_isLike_79 ?_
    refine lv_iload hx hb dX9_isLike_82 (lv_at hl 0 rfl) ?_
    obtain ⟨g10, hf⟩ := gd hf
    refine va_lald hx hb hK hP 2 1 rfl rfl g10 dX9_isLike_84 ?_
    refine lv_lload_n hx hb dX9_isLike_85 rfl (lv_at hl 4 rfl) ?_
    refine W.lcmp hx hb dX9_isLike_86 ?_
    refine lv_if_ne (tgt := 94) hx hb dX9_isLike_87 (by decide) (fun c11 => ?_) (fun c11 => ?_)
    · have hf := ie hf c11
      refine lv_iconst (v := 0) hx hb dX9_isLike_94 (by decide) ?_
      have e0 := rt1 hf
      exact W.zret (v := (0 : Int32)) hx hb hr rfl (fun t ht hW => ⟨⟨(0 : Int32), (), rfl, e0, by rw [ht]; exact hP, va_K.moved hW.alike hK, by rw [hAe]; exact hD⟩, hS.F ht⟩) hS.2.2 dX9_isLike_95
    · have hf := it hf c11
      refine lv_iconst (v := 1) hx hb dX9_isLike_90 (by decide) ?_
      refine lv_goto (tgt := 95) hx hb dX9_isLike_91 (by decide) ?_
      have e0 := rt1 hf
      exact W.zret (v := (1 : Int32)) hx hb hr rfl (fun t ht hW => ⟨⟨(1 : Int32), (), rfl, e0, by rw [ht]; exact hP, va_K.moved hW.alike hK, by rw [hAe]; exact hD⟩, hS.F ht⟩) hS.2.2 dX9_isLike_95
  exact E0 s.heap [] hP hD hS ls hl
-- X9_same
set_option maxRecDepth 100000 in
set_option maxHeartbeats 4000000 in
theorem c_X9_same (l : Launch) (G : va_G) (Y : Nat → ClassId) (sz : Nat) (qx : Nat → Nat) (x_points : Int32) (x_lines : Int32) (x_tide : Int32) (x_kind : Nat → Int32) (x_figure : Nat → Int32) (x_low : Nat → Int32) (x_high : Nat → Int32) (x_isKept : Int32) (x_table : Nat → Int64) (x_count : Nat → Int64) (x_heavy : Nat → Int32) (x_isMuch : Int32) (x_sum : Int64) (x_once : Int64) (x_twice : Int64) (x_isTermMuch : Int32) (x_nodes : Int32) (x_newMany : Int32) (x_isTooGreat : Int32) (x_come : Int32) (x_foundSet : Int64) (x_sorts : Nat → Int32) (x_sizes : Nat → Int32) (x_wholes : Nat → Int64) (x_floats : Nat → UInt32) (x_doubles : Nat → UInt64) (p1 : Int32) (p2 : Int32) (rv : Int32) (o_x_table : Nat → Int64) (o_x_count : Nat → Int64) (o_x_heavy : Nat → Int32) (o_x_isMuch : Int32) (hf : f_X9_same x_points x_lines x_tide x_kind x_figure x_low x_high x_table x_count x_heavy x_isMuch x_sorts x_sizes x_wholes x_floats x_doubles p1 p2 = some (rv, o_x_table, o_x_count, o_x_heavy, o_x_isMuch)) : Met l yX9_same wsX9_same (rmk 4 94) (va_Pc [.ref (qx 0), .int p1, .int p2] (Pre G (tys Y) [(qx 0, oX9 qx x_points x_lines x_tide x_isKept x_isMuch x_sum x_once x_twice x_isTermMuch x_nodes x_newMany x_isTooGreat x_come x_foundSet), (qx 4, .inl (Y 0, 40, .inl x_kind)), (qx 5, .inl (Y 0, 40, .inl x_figure)), (qx 6, .inl (Y 0, 40, .inl x_low)), (qx 7, .inl (Y 0, 40, .inl x_high)), (qx 10, .inl (Y 1, 28672, .inr (.inl x_table))), (qx 11, .inl (Y 1, 7, .inr (.inl x_count))), (qx 12, .inl (Y 0, 144, .inl x_heavy)), (qx 33, .inl (Y 0, 4, .inl x_sorts)), (qx 34, .inl (Y 0, 4, .inl x_sizes)), (qx 35, .inl (Y 1, 240, .inr (.inl x_wholes))), (qx 36, .inl (Y 2, 240, .inr (.inr (.inl x_floats)))), (qx 37, .inl (Y 3, 240, .inr (.inr (.inr (.inl x_doubles)))))] sz xT)) (va_Qi (fun (r : Int32) (_ : Unit) => r = rv) (Pst G (tys Y) [(qx 0, oX9 qx x_points x_lines x_tide x_isKept x_isMuch x_sum x_once x_twice x_isTermMuch x_nodes x_newMany x_isTooGreat x_come x_foundSet), (qx 4, .inl (Y 0, 40, .inl x_kind)), (qx 5, .inl (Y 0, 40, .inl x_figure)), (qx 6, .inl (Y 0, 40, .inl x_low)), (qx 7, .inl (Y 0, 40, .inl x_high)), (qx 10, .inl (Y 1, 28672, .inr (.inl x_table))), (qx 11, .inl (Y 1, 7, .inr (.inl x_count))), (qx 12, .inl (Y 0, 144, .inl x_heavy)), (qx 33, .inl (Y 0, 4, .inl x_sorts)), (qx 34, .inl (Y 0, 4, .inl x_sizes)), (qx 35, .inl (Y 1, 240, .inr (.inl x_wholes))), (qx 36, .inl (Y 2, 240, .inr (.inr (.inl x_floats)))), (qx 37, .inl (Y 3, 240, .inr (.inr (.inr (.inl x_doubles)))))] sz [(qx 0, oX9 qx x_points x_lines x_tide x_isKept o_x_isMuch x_sum x_once x_twice x_isTermMuch x_nodes x_newMany x_isTooGreat x_come x_foundSet), (qx 4, .inl (Y 0, 40, .inl x_kind)), (qx 5, .inl (Y 0, 40, .inl x_figure)), (qx 6, .inl (Y 0, 40, .inl x_low)), (qx 7, .inl (Y 0, 40, .inl x_high)), (qx 10, .inl (Y 1, 28672, .inr (.inl o_x_table))), (qx 11, .inl (Y 1, 7, .inr (.inl o_x_count))), (qx 12, .inl (Y 0, 144, .inl o_x_heavy)), (qx 33, .inl (Y 0, 4, .inl x_sorts)), (qx 34, .inl (Y 0, 4, .inl x_sizes)), (qx 35, .inl (Y 1, 240, .inr (.inl x_wholes))), (qx 36, .inl (Y 2, 240, .inr (.inr (.inl x_floats)))), (qx 37, .inl (Y 3, 240, .inr (.inr (.inr (.inl x_doubles)))))]) (va_A [(qx 0, oX9 qx x_points x_lines x_tide x_isKept x_isMuch x_sum x_once x_twice x_isTermMuch x_nodes x_newMany x_isTooGreat x_come x_foundSet), (qx 4, .inl (Y 0, 40, .inl x_kind)), (qx 5, .inl (Y 0, 40, .inl x_figure)), (qx 6, .inl (Y 0, 40, .inl x_low)), (qx 7, .inl (Y 0, 40, .inl x_high)), (qx 10, .inl (Y 1, 28672, .inr (.inl x_table))), (qx 11, .inl (Y 1, 7, .inr (.inl x_count))), (qx 12, .inl (Y 0, 144, .inl x_heavy)), (qx 33, .inl (Y 0, 4, .inl x_sorts)), (qx 34, .inl (Y 0, 4, .inl x_sizes)), (qx 35, .inl (Y 1, 240, .inr (.inl x_wholes))), (qx 36, .inl (Y 2, 240, .inr (.inr (.inl x_floats)))), (qx 37, .inl (Y 3, 240, .inr (.inr (.inr (.inl x_doubles)))))] sz)) 0 0 (va_A [(qx 0, oX9 qx x_points x_lines x_tide x_isKept x_isMuch x_sum x_once x_twice x_isTermMuch x_nodes x_newMany x_isTooGreat x_come x_foundSet), (qx 4, .inl (Y 0, 40, .inl x_kind)), (qx 5, .inl (Y 0, 40, .inl x_figure)), (qx 6, .inl (Y 0, 40, .inl x_low)), (qx 7, .inl (Y 0, 40, .inl x_high)), (qx 10, .inl (Y 1, 28672, .inr (.inl x_table))), (qx 11, .inl (Y 1, 7, .inr (.inl x_count))), (qx 12, .inl (Y 0, 144, .inl x_heavy)), (qx 33, .inl (Y 0, 4, .inl x_sorts)), (qx 34, .inl (Y 0, 4, .inl x_sizes)), (qx 35, .inl (Y 1, 240, .inr (.inl x_wholes))), (qx 36, .inl (Y 2, 240, .inr (.inr (.inl x_floats)))), (qx 37, .inl (Y 3, 240, .inr (.inr (.inr (.inl x_doubles)))))] sz) := by
  refine Met.ofW (cc := cX9_same) (maxL := 4) (ret := (some .int)) (by decide) rfl ?_
  intro p e s m args below meth c s₁ B hml hv
  obtain ⟨rfl, hsz, hP, hK, hD0, hX⟩ := hv
  have hx := B.exec
  have hb := B.bytes
  have hr := B.returns
  have hts := atoms_spec (ws := wsX9_same) B.pre
  have hown : s.vm.findClass RX9 = some m.cls := findClass_of_methodNamed B.named
  have hlocks := B.notSynchronized
  subst hsz
  have hD := hD0.self (sz := s.heap.size)
  generalize hAe : va_A [(qx 0, oX9 qx x_points x_lines x_tide x_isKept x_isMuch x_sum x_once x_twice x_isTermMuch x_nodes x_newMany x_isTooGreat x_come x_foundSet), (qx 4, .inl (Y 0, 40, .inl x_kind)), (qx 5, .inl (Y 0, 40, .inl x_figure)), (qx 6, .inl (Y 0, 40, .inl x_low)), (qx 7, .inl (Y 0, 40, .inl x_high)), (qx 10, .inl (Y 1, 28672, .inr (.inl x_table))), (qx 11, .inl (Y 1, 7, .inr (.inl x_count))), (qx 12, .inl (Y 0, 144, .inl x_heavy)), (qx 33, .inl (Y 0, 4, .inl x_sorts)), (qx 34, .inl (Y 0, 4, .inl x_sizes)), (qx 35, .inl (Y 1, 240, .inr (.inl x_wholes))), (qx 36, .inl (Y 2, 240, .inr (.inr (.inl x_floats)))), (qx 37, .inl (Y 3, 240, .inr (.inr (.inr (.inl x_doubles)))))] s.heap.size = A at hD ⊢
  have hA : ∀ q : Nat, s.heap.size ≤ q → A q := fun q h => by rw [← hAe]; exact Or.inr h
  have hS : va_S A s.heap s.heap [] := va_S.rf
  have hP : va_P G vwCl [(qx 0, oX9 qx x_points x_lines x_tide x_isKept x_isMuch x_sum x_once x_twice x_isTermMuch x_nodes x_newMany x_isTooGreat x_come x_foundSet), (qx 4, .inl (Y 0, 40, .inl x_kind)), (qx 5, .inl (Y 0, 40, .inl x_figure)), (qx 6, .inl (Y 0, 40, .inl x_low)), (qx 7, .inl (Y 0, 40, .inl x_high)), (qx 10, .inl (Y 1, 28672, .inr (.inl x_table))), (qx 11, .inl (Y 1, 7, .inr (.inl x_count))), (qx 12, .inl (Y 0, 144, .inl x_heavy)), (qx 33, .inl (Y 0, 4, .inl x_sorts)), (qx 34, .inl (Y 0, 4, .inl x_sizes)), (qx 35, .inl (Y 1, 240, .inr (.inl x_wholes))), (qx 36, .inl (Y 2, 240, .inr (.inr (.inl x_floats)))), (qx 37, .inl (Y 3, 240, .inr (.inr (.inr (.inl x_doubles)))))] s.heap := hP
  have wd1 : (Cond.fieldLink RX9 65 "PairedLinesModel" "sorts" "[I").before [.ref (qx 0), .int p1, .int p2].toArray s = true := hts _ (List.mem_of_getElem? (i := 1) rfl)
  have wd2 : (Cond.fieldLink RX9 148 "PairedLinesModel" "isMuch" "Z").before [.ref (qx 0), .int p1, .int p2].toArray s = true := hts _ (List.mem_of_getElem? (i := 2) rfl)
  have wd3 : (Cond.fieldLink RX9 68 "PairedLinesModel" "sizes" "[I").before [.ref (qx 0), .int p1, .int p2].toArray s = true := hts _ (List.mem_of_getElem? (i := 3) rfl)
  have wd4 : (Cond.fieldLink RX9 29 "PairedLinesModel" "count" "[J").before [.ref (qx 0), .int p1, .int p2].toArray s = true := hts _ (List.mem_of_getElem? (i := 4) rfl)
  have inX9w : ∀ w ∈ u_ws RX9 TX9 37, w ∈ wsX9_same := fun w hw => List.mem_cons_of_mem _ (List.mem_append_right _ (hw))
  have hl := lv_entry ([.ref (qx 0), .int p1, .int p2]) (n := 4) (Nat.le_of_ble_eq_true rfl)
  rw [lg_entry_eq]
  generalize (lg_sl ([.ref (qx 0), .int p1, .int p2]) ++ List.replicate (4 - (lg_sl ([.ref (qx 0), .int p1, .int p2])).length) Slot.unset).toArray = ls at hl ⊢
  have hl : lv_has ls 4 [(0, .ref (qx 0)), (1, .int p1), (2, .int p2)] := hl
  have B46 : ∀ (n46 : Nat), ∀ (b_x_table : Nat → Int64) (b_x_count : Nat → Int64) (b_x_heavy : Nat → Int32) (b_x_isMuch : Int32) (x3 : Int32), f_X9_same_b46 x_points x_lines x_tide x_kind x_figure x_low x_high x_sorts x_sizes x_wholes x_floats x_doubles p1 p2 n46 b_x_table b_x_count b_x_heavy b_x_isMuch x3 = some (rv, o_x_table, o_x_count, o_x_heavy, o_x_isMuch) → ∀ (H : Heap) (locs : List Loc), va_P G vwCl [(qx 0, oX9 qx x_points x_lines x_tide x_isKept b_x_isMuch x_sum x_once x_twice x_isTermMuch x_nodes x_newMany x_isTooGreat x_come x_foundSet), (qx 4, .inl (Y 0, 40, .inl x_kind)), (qx 5, .inl (Y 0, 40, .inl x_figure)), (qx 6, .inl (Y 0, 40, .inl x_low)), (qx 7, .inl (Y 0, 40, .inl x_high)), (qx 10, .inl (Y 1, 28672, .inr (.inl b_x_table))), (qx 11, .inl (Y 1, 7, .inr (.inl b_x_count))), (qx 12, .inl (Y 0, 144, .inl b_x_heavy)), (qx 33, .inl (Y 0, 4, .inl x_sorts)), (qx 34, .inl (Y 0, 4, .inl x_sizes)), (qx 35, .inl (Y 1, 240, .inr (.inl x_wholes))), (qx 36, .inl (Y 2, 240, .inr (.inr (.inl x_floats)))), (qx 37, .inl (Y 3, 240, .inr (.inr (.inr (.inl x_doubles)))))] H → va_D A [(qx 0, oX9 qx x_points x_lines x_tide x_isKept b_x_isMuch x_sum x_once x_twice x_isTermMuch x_nodes x_newMany x_isTooGreat x_come x_foundSet), (qx 4, .inl (Y 0, 40, .inl x_kind)), (qx 5, .inl (Y 0, 40, .inl x_figure)), (qx 6, .inl (Y 0, 40, .inl x_low)), (qx 7, .inl (Y 0, 40, .inl x_high)), (qx 10, .inl (Y 1, 28672, .inr (.inl b_x_table))), (qx 11, .inl (Y 1, 7, .inr (.inl b_x_count))), (qx 12, .inl (Y 0, 144, .inl b_x_heavy)), (qx 33, .inl (Y 0, 4, .inl x_sorts)), (qx 34, .inl (Y 0, 4, .inl x_sizes)), (qx 35, .inl (Y 1, 240, .inr (.inl x_wholes))), (qx 36, .inl (Y 2, 240, .inr (.inr (.inl x_floats)))), (qx 37, .inl (Y 3, 240, .inr (.inr (.inr (.inl x_doubles)))))] → va_S A s.heap H locs → ∀ (ls : Array Slot), lv_has ls 4 [(0, .ref (qx 0)), (1, .int p1), (3, .int x3)] → W p l e (headSpec wsX9_same (rmk 4 94)).room s m [.ref (qx 0), .int p1, .int p2].toArray below meth c H locs 0 0 (MQ below (va_Qi (fun (r : Int32) (_ : Unit) => r = rv) (Pst G (tys Y) [(qx 0, oX9 qx x_points x_lines x_tide x_isKept x_isMuch x_sum x_once x_twice x_isTermMuch x_nodes x_newMany x_isTooGreat x_come x_foundSet), (qx 4, .inl (Y 0, 40, .inl x_kind)), (qx 5, .inl (Y 0, 40, .inl x_figure)), (qx 6, .inl (Y 0, 40, .inl x_low)), (qx 7, .inl (Y 0, 40, .inl x_high)), (qx 10, .inl (Y 1, 28672, .inr (.inl x_table))), (qx 11, .inl (Y 1, 7, .inr (.inl x_count))), (qx 12, .inl (Y 0, 144, .inl x_heavy)), (qx 33, .inl (Y 0, 4, .inl x_sorts)), (qx 34, .inl (Y 0, 4, .inl x_sizes)), (qx 35, .inl (Y 1, 240, .inr (.inl x_wholes))), (qx 36, .inl (Y 2, 240, .inr (.inr (.inl x_floats)))), (qx 37, .inl (Y 3, 240, .inr (.inr (.inr (.inl x_doubles)))))] s.heap.size [(qx 0, oX9 qx x_points x_lines x_tide x_isKept o_x_isMuch x_sum x_once x_twice x_isTermMuch x_nodes x_newMany x_isTooGreat x_come x_foundSet), (qx 4, .inl (Y 0, 40, .inl x_kind)), (qx 5, .inl (Y 0, 40, .inl x_figure)), (qx 6, .inl (Y 0, 40, .inl x_low)), (qx 7, .inl (Y 0, 40, .inl x_high)), (qx 10, .inl (Y 1, 28672, .inr (.inl o_x_table))), (qx 11, .inl (Y 1, 7, .inr (.inl o_x_count))), (qx 12, .inl (Y 0, 144, .inl o_x_heavy)), (qx 33, .inl (Y 0, 4, .inl x_sorts)), (qx 34, .inl (Y 0, 4, .inl x_sizes)), (qx 35, .inl (Y 1, 240, .inr (.inl x_wholes))), (qx 36, .inl (Y 2, 240, .inr (.inr (.inl x_floats)))), (qx 37, .inl (Y 3, 240, .inr (.inr (.inr (.inl x_doubles)))))]) A) [.ref (qx 0), .int p1, .int p2].toArray s 0 0 A) (F0 m 46 ls []) := by
    intro n46
    induction n46 with
    | zero =>
      intro b_x_table b_x_count b_x_heavy b_x_isMuch x3 hf H locs hP hD hS ls hl
      exact no_none hf
    | succ n46 ih46 =>
      intro b_x_table b_x_count b_x_heavy b_x_isMuch x3 hf H locs hP hD hS ls hl
      have hf : f_X9_same_s46 x_points x_lines x_tide x_kind x_figure x_low x_high x_sorts x_sizes x_wholes x_floats x_doubles p1 p2 (f_X9_same_b46 x_points x_lines x_tide x_kind x_figure x_low x_high x_sorts x_sizes x_wholes x_floats x_doubles p1 p2  n46) b_x_table b_x_count b_x_heavy b_x_isMuch x3 = some (rv, o_x_table, o_x_count, o_x_heavy, o_x_isMuch) := hf
      unfold f_X9_same_s46 at hf
      refine lv_iload_n hx hb dX9_same_46 rfl (lv_at hl 2 rfl) ?_
      refine lv_aload_n hx hb dX9_same_47 rfl (lv_at hl 0 rfl) ?_
      refine va_get (D := G) (ci := 7) (v := .ref (qx 34)) (C := RX9) (T := TX9) (N := 37) hx hb hts inX9w hown hK hP 0 rfl rfl 33 (by decide) wd3 (fun _ h9 => h9) rfl dX9_same_48 ?_
      refine lv_iload_n hx hb dX9_same_51 rfl (lv_at hl 1 rfl) ?_
      obtain ⟨g1, hf⟩ := gd hf
      refine va_iald hx hb hK hP 9 0 rfl rfl g1 dX9_same_52 ?_
      refine lv_icmp_ge (tgt := 89) hx hb dX9_same_53 (by decide) (fun c2 => ?_) (fun c2 => ?_)
      · have hf := it hf c2
        refine lv_iconst (v := -1) hx hb dX9_same_89 (by decide) ?_
        obtain ⟨e0, e1, e2, e3, e4⟩ := rt5 hf
        have hP : va_P G vwCl [(qx 0, oX9 qx x_points x_lines x_tide x_isKept o_x_isMuch x_sum x_once x_twice x_isTermMuch x_nodes x_newMany x_isTooGreat x_come x_foundSet), (qx 4, .inl (Y 0, 40, .inl x_kind)), (qx 5, .inl (Y 0, 40, .inl x_figure)), (qx 6, .inl (Y 0, 40, .inl x_low)), (qx 7, .inl (Y 0, 40, .inl x_high)), (qx 10, .inl (Y 1, 28672, .inr (.inl o_x_table))), (qx 11, .inl (Y 1, 7, .inr (.inl o_x_count))), (qx 12, .inl (Y 0, 144, .inl o_x_heavy)), (qx 33, .inl (Y 0, 4, .inl x_sorts)), (qx 34, .inl (Y 0, 4, .inl x_sizes)), (qx 35, .inl (Y 1, 240, .inr (.inl x_wholes))), (qx 36, .inl (Y 2, 240, .inr (.inr (.inl x_floats)))), (qx 37, .inl (Y 3, 240, .inr (.inr (.inr (.inl x_doubles)))))] H := by rw [← e1, ← e2, ← e3, ← e4]; exact hP
        have hD : va_D A [(qx 0, oX9 qx x_points x_lines x_tide x_isKept o_x_isMuch x_sum x_once x_twice x_isTermMuch x_nodes x_newMany x_isTooGreat x_come x_foundSet), (qx 4, .inl (Y 0, 40, .inl x_kind)), (qx 5, .inl (Y 0, 40, .inl x_figure)), (qx 6, .inl (Y 0, 40, .inl x_low)), (qx 7, .inl (Y 0, 40, .inl x_high)), (qx 10, .inl (Y 1, 28672, .inr (.inl o_x_table))), (qx 11, .inl (Y 1, 7, .inr (.inl o_x_count))), (qx 12, .inl (Y 0, 144, .inl o_x_heavy)), (qx 33, .inl (Y 0, 4, .inl x_sorts)), (qx 34, .inl (Y 0, 4, .inl x_sizes)), (qx 35, .inl (Y 1, 240, .inr (.inl x_wholes))), (qx 36, .inl (Y 2, 240, .inr (.inr (.inl x_floats)))), (qx 37, .inl (Y 3, 240, .inr (.inr (.inr (.inl x_doubles)))))] := by rw [← e1, ← e2, ← e3, ← e4]; exact hD
        exact W.iret (v := (-1 : Int32)) hx hb hr (fun t ht hW => ⟨⟨(-1 : Int32), (), rfl, e0, by rw [ht]; exact hP, va_K.moved hW.alike hK, by rw [hAe]; exact hD⟩, hS.F ht⟩) hS.2.2 dX9_same_90
      · have hf := ie hf c2
        refine lv_aload_n hx hb dX9_same_56 rfl (lv_at hl 0 rfl) ?_
        refine lv_iload_n hx hb dX9_same_57 rfl (lv_at hl 1 rfl) ?_
        refine lv_iload_n hx hb dX9_same_58 rfl (lv_at hl 2 rfl) ?_
        refine lv_iload_n hx hb dX9_same_59 rfl (lv_at hl 2 rfl) ?_
        refine lv_bipush (v := 7) hx hb dX9_same_60 (by decide) ?_
        refine lv_icmp_ge (tgt := 74) hx hb dX9_same_62 (by decide) (fun c3 => ?_) (fun c3 => ?_)
        · have hf := it hf c3
          refine lv_lconst (v := 0) hx hb dX9_same_74 (by decide) ?_
          obtain ⟨r4, hc, hf⟩ := bd1 hf
          refine cl_i (ws' := [(qx 0, oX9 qx x_points x_lines x_tide x_isKept b_x_isMuch x_sum x_once x_twice x_isTermMuch x_nodes x_newMany x_isTooGreat x_come x_foundSet), (qx 4, .inl (Y 0, 40, .inl x_kind)), (qx 5, .inl (Y 0, 40, .inl x_figure)), (qx 6, .inl (Y 0, 40, .inl x_low)), (qx 7, .inl (Y 0, 40, .inl x_high)), (qx 10, .inl (Y 1, 28672, .inr (.inl b_x_table))), (qx 11, .inl (Y 1, 7, .inr (.inl b_x_count))), (qx 12, .inl (Y 0, 144, .inl b_x_heavy)), (qx 33, .inl (Y 0, 4, .inl x_sorts)), (qx 34, .inl (Y 0, 4, .inl x_sizes)), (qx 35, .inl (Y 1, 240, .inr (.inl x_wholes))), (qx 36, .inl (Y 2, 240, .inr (.inr (.inl x_floats)))), (qx 37, .inl (Y 3, 240, .inr (.inr (.inr (.inl x_doubles)))))]) (wr := [(qx 4, .inl (Y 0, 40, .inl x_kind)), (qx 5, .inl (Y 0, 40, .inl x_figure)), (qx 6, .inl (Y 0, 40, .inl x_low)), (qx 7, .inl (Y 0, 40, .inl x_high)), (qx 10, .inl (Y 1, 28672, .inr (.inl b_x_table))), (qx 11, .inl (Y 1, 7, .inr (.inl b_x_count))), (qx 12, .inl (Y 0, 144, .inl b_x_heavy)), (qx 34, .inl (Y 0, 4, .inl x_sizes))]) (rnV (As := [.int p1, .int x3, .long (0 : Int64)]) (rest := []) ⟨hx, hb, hml, hown, hts⟩ (c_X9_isLike l G Y H.size qx x_points x_lines x_tide x_isKept b_x_isMuch x_sum x_once x_twice x_isTermMuch x_nodes x_newMany x_isTooGreat x_come x_foundSet x_sorts x_wholes x_floats x_doubles p1 x3 (0 : Int64) r4 hc) (cwV 3 hts gX9_same_X9_isLike rfl rfl rfl (by decide +kernel) ⟨(Nat.le_of_ble_eq_true rfl), (Nat.le_of_ble_eq_true rfl)⟩) trivial okT hK hP hD [0, 8, 10, 11, 12] rfl rfl (ci := 7) (q0 := 0) rfl rfl rfl rfl hl.1 rfl (Nat.le_of_ble_eq_true rfl) dX9_same_75) hP hD hS hA [0, 8, 10, 11, 12] [1, 2, 3, 4, 5, 6, 7, 9] [8, 0, 1, 2, 3, 4, 5, 6, 9, 7, 10, 11, 12] rfl rfl rfl (by decide) rfl rfl (fun H locs hP hD hS => ?_)
          refine lv_if_ne (tgt := 83) hx hb dX9_same_78 (by decide) (fun c5 => ?_) (fun c5 => ?_)
          · have hf := ie hf c5
            obtain ⟨v6, e_v6⟩ : ∃ z : Int32, z = (x3 + 1) := ⟨_, rfl⟩
            have hf := nm_at hf e_v6
            refine lv_iinc (v := v6) (lv' := [(3, .int v6), (0, .ref (qx 0)), (1, .int p1)]) hx hb dX9_same_83 hl (k := 2) rfl (by rw [e_v6]; rfl) (by decide) rfl (fun ls hl => ?_)
            refine lv_goto (tgt := 46) hx hb dX9_same_86 (by decide) ?_
            exact ih46 b_x_table b_x_count b_x_heavy b_x_isMuch v6 hf _ _ hP hD hS ls (lv_sub hl [1, 2, 0] rfl)
          · have hf := it hf c5
            refine lv_iload_n hx hb dX9_same_81 rfl (lv_at hl 2 rfl) ?_
            obtain ⟨e0, e1, e2, e3, e4⟩ := rt5 hf
            have hP : va_P G vwCl [(qx 0, oX9 qx x_points x_lines x_tide x_isKept o_x_isMuch x_sum x_once x_twice x_isTermMuch x_nodes x_newMany x_isTooGreat x_come x_foundSet), (qx 4, .inl (Y 0, 40, .inl x_kind)), (qx 5, .inl (Y 0, 40, .inl x_figure)), (qx 6, .inl (Y 0, 40, .inl x_low)), (qx 7, .inl (Y 0, 40, .inl x_high)), (qx 10, .inl (Y 1, 28672, .inr (.inl o_x_table))), (qx 11, .inl (Y 1, 7, .inr (.inl o_x_count))), (qx 12, .inl (Y 0, 144, .inl o_x_heavy)), (qx 33, .inl (Y 0, 4, .inl x_sorts)), (qx 34, .inl (Y 0, 4, .inl x_sizes)), (qx 35, .inl (Y 1, 240, .inr (.inl x_wholes))), (qx 36, .inl (Y 2, 240, .inr (.inr (.inl x_floats)))), (qx 37, .inl (Y 3, 240, .inr (.inr (.inr (.inl x_doubles)))))] H := by rw [← e1, ← e2, ← e3, ← e4]; exact hP
            have hD : va_D A [(qx 0, oX9 qx x_points x_lines x_tide x_isKept o_x_isMuch x_sum x_once x_twice x_isTermMuch x_nodes x_newMany x_isTooGreat x_come x_foundSet), (qx 4, .inl (Y 0, 40, .inl x_kind)), (qx 5, .inl (Y 0, 40, .inl x_figure)), (qx 6, .inl (Y 0, 40, .inl x_low)), (qx 7, .inl (Y 0, 40, .inl x_high)), (qx 10, .inl (Y 1, 28672, .inr (.inl o_x_table))), (qx 11, .inl (Y 1, 7, .inr (.inl o_x_count))), (qx 12, .inl (Y 0, 144, .inl o_x_heavy)), (qx 33, .inl (Y 0, 4, .inl x_sorts)), (qx 34, .inl (Y 0, 4, .inl x_sizes)), (qx 35, .inl (Y 1, 240, .inr (.inl x_wholes))), (qx 36, .inl (Y 2, 240, .inr (.inr (.inl x_floats)))), (qx 37, .inl (Y 3, 240, .inr (.inr (.inr (.inl x_doubles)))))] := by rw [← e1, ← e2, ← e3, ← e4]; exact hD
            exact W.iret (v := x3) hx hb hr (fun t ht hW => ⟨⟨x3, (), rfl, e0, by rw [ht]; exact hP, va_K.moved hW.alike hK, by rw [hAe]; exact hD⟩, hS.F ht⟩) hS.2.2 dX9_same_82
        · have hf := ie hf c3
          refine lv_aload_n hx hb dX9_same_65 rfl (lv_at hl 0 rfl) ?_
          refine va_get (D := G) (ci := 7) (v := .ref (qx 11)) (C := RX9) (T := TX9) (N := 37) hx hb hts inX9w hown hK hP 0 rfl rfl 10 (by decide) wd4 (fun _ h9 => h9) rfl dX9_same_66 ?_
          refine lv_iload_n hx hb dX9_same_69 rfl (lv_at hl 2 rfl) ?_
          obtain ⟨g7, hf⟩ := gd hf
          refine va_lald hx hb hK hP 6 1 rfl rfl g7 dX9_same_70 ?_
          refine lv_goto (tgt := 75) hx hb dX9_same_71 (by decide) ?_
          obtain ⟨r8, hc, hf⟩ := bd1 hf
          refine cl_i (ws' := [(qx 0, oX9 qx x_points x_lines x_tide x_isKept b_x_isMuch x_sum x_once x_twice x_isTermMuch x_nodes x_newMany x_isTooGreat x_come x_foundSet), (qx 4, .inl (Y 0, 40, .inl x_kind)), (qx 5, .inl (Y 0, 40, .inl x_figure)), (qx 6, .inl (Y 0, 40, .inl x_low)), (qx 7, .inl (Y 0, 40, .inl x_high)), (qx 10, .inl (Y 1, 28672, .inr (.inl b_x_table))), (qx 11, .inl (Y 1, 7, .inr (.inl b_x_count))), (qx 12, .inl (Y 0, 144, .inl b_x_heavy)), (qx 33, .inl (Y 0, 4, .inl x_sorts)), (qx 34, .inl (Y 0, 4, .inl x_sizes)), (qx 35, .inl (Y 1, 240, .inr (.inl x_wholes))), (qx 36, .inl (Y 2, 240, .inr (.inr (.inl x_floats)))), (qx 37, .inl (Y 3, 240, .inr (.inr (.inr (.inl x_doubles)))))]) (wr := [(qx 4, .inl (Y 0, 40, .inl x_kind)), (qx 5, .inl (Y 0, 40, .inl x_figure)), (qx 6, .inl (Y 0, 40, .inl x_low)), (qx 7, .inl (Y 0, 40, .inl x_high)), (qx 10, .inl (Y 1, 28672, .inr (.inl b_x_table))), (qx 11, .inl (Y 1, 7, .inr (.inl b_x_count))), (qx 12, .inl (Y 0, 144, .inl b_x_heavy)), (qx 34, .inl (Y 0, 4, .inl x_sizes))]) (rnV (As := [.int p1, .int x3, .long (b_x_count x3.toNatClampNeg)]) (rest := []) ⟨hx, hb, hml, hown, hts⟩ (c_X9_isLike l G Y H.size qx x_points x_lines x_tide x_isKept b_x_isMuch x_sum x_once x_twice x_isTermMuch x_nodes x_newMany x_isTooGreat x_come x_foundSet x_sorts x_wholes x_floats x_doubles p1 x3 (b_x_count x3.toNatClampNeg) r8 hc) (cwV 3 hts gX9_same_X9_isLike rfl rfl rfl (by decide +kernel) ⟨(Nat.le_of_ble_eq_true rfl), (Nat.le_of_ble_eq_true rfl)⟩) trivial okT hK hP hD [0, 8, 10, 11, 12] rfl rfl (ci := 7) (q0 := 0) rfl rfl rfl rfl hl.1 rfl (Nat.le_of_ble_eq_true rfl) dX9_same_75) hP hD hS hA [0, 8, 10, 11, 12] [1, 2, 3, 4, 5, 6, 7, 9] [8, 0, 1, 2, 3, 4, 5, 6, 9, 7, 10, 11, 12] rfl rfl rfl (by decide) rfl rfl (fun H locs hP hD hS => ?_)
          refine lv_if_ne (tgt := 83) hx hb dX9_same_78 (by decide) (fun c9 => ?_) (fun c9 => ?_)
          · have hf := ie hf c9
            obtain ⟨v10, e_v10⟩ : ∃ z : Int32, z = (x3 + 1) := ⟨_, rfl⟩
            have hf := nm_at hf e_v10
            refine lv_iinc (v := v10) (lv' := [(3, .int v10), (0, .ref (qx 0)), (1, .int p1)]) hx hb dX9_same_83 hl (k := 2) rfl (by rw [e_v10]; rfl) (by decide) rfl (fun ls hl => ?_)
            refine lv_goto (tgt := 46) hx hb dX9_same_86 (by decide) ?_
            exact ih46 b_x_table b_x_count b_x_heavy b_x_isMuch v10 hf _ _ hP hD hS ls (lv_sub hl [1, 2, 0] rfl)
          · have hf := it hf c9
            refine lv_iload_n hx hb dX9_same_81 rfl (lv_at hl 2 rfl) ?_
            obtain ⟨e0, e1, e2, e3, e4⟩ := rt5 hf
            have hP : va_P G vwCl [(qx 0, oX9 qx x_points x_lines x_tide x_isKept o_x_isMuch x_sum x_once x_twice x_isTermMuch x_nodes x_newMany x_isTooGreat x_come x_foundSet), (qx 4, .inl (Y 0, 40, .inl x_kind)), (qx 5, .inl (Y 0, 40, .inl x_figure)), (qx 6, .inl (Y 0, 40, .inl x_low)), (qx 7, .inl (Y 0, 40, .inl x_high)), (qx 10, .inl (Y 1, 28672, .inr (.inl o_x_table))), (qx 11, .inl (Y 1, 7, .inr (.inl o_x_count))), (qx 12, .inl (Y 0, 144, .inl o_x_heavy)), (qx 33, .inl (Y 0, 4, .inl x_sorts)), (qx 34, .inl (Y 0, 4, .inl x_sizes)), (qx 35, .inl (Y 1, 240, .inr (.inl x_wholes))), (qx 36, .inl (Y 2, 240, .inr (.inr (.inl x_floats)))), (qx 37, .inl (Y 3, 240, .inr (.inr (.inr (.inl x_doubles)))))] H := by rw [← e1, ← e2, ← e3, ← e4]; exact hP
            have hD : va_D A [(qx 0, oX9 qx x_points x_lines x_tide x_isKept o_x_isMuch x_sum x_once x_twice x_isTermMuch x_nodes x_newMany x_isTooGreat x_come x_foundSet), (qx 4, .inl (Y 0, 40, .inl x_kind)), (qx 5, .inl (Y 0, 40, .inl x_figure)), (qx 6, .inl (Y 0, 40, .inl x_low)), (qx 7, .inl (Y 0, 40, .inl x_high)), (qx 10, .inl (Y 1, 28672, .inr (.inl o_x_table))), (qx 11, .inl (Y 1, 7, .inr (.inl o_x_count))), (qx 12, .inl (Y 0, 144, .inl o_x_heavy)), (qx 33, .inl (Y 0, 4, .inl x_sorts)), (qx 34, .inl (Y 0, 4, .inl x_sizes)), (qx 35, .inl (Y 1, 240, .inr (.inl x_wholes))), (qx 36, .inl (Y 2, 240, .inr (.inr (.inl x_floats)))), (qx 37, .inl (Y 3, 240, .inr (.inr (.inr (.inl x_doubles)))))] := by rw [← e1, ← e2, ← e3, ← e4]; exact hD
            exact W.iret (v := x3) hx hb hr (fun t ht hW => ⟨⟨x3, (), rfl, e0, by rw [ht]; exact hP, va_K.moved hW.alike hK, by rw [hAe]; exact hD⟩, hS.F ht⟩) hS.2.2 dX9_same_82
  have E0 : ∀ (H : Heap) (locs : List Loc), va_P G vwCl [(qx 0, oX9 qx x_points x_lines x_tide x_isKept x_isMuch x_sum x_once x_twice x_isTermMuch x_nodes x_newMany x_isTooGreat x_come x_foundSet), (qx 4, .inl (Y 0, 40, .inl x_kind)), (qx 5, .inl (Y 0, 40, .inl x_figure)), (qx 6, .inl (Y 0, 40, .inl x_low)), (qx 7, .inl (Y 0, 40, .inl x_high)), (qx 10, .inl (Y 1, 28672, .inr (.inl x_table))), (qx 11, .inl (Y 1, 7, .inr (.inl x_count))), (qx 12, .inl (Y 0, 144, .inl x_heavy)), (qx 33, .inl (Y 0, 4, .inl x_sorts)), (qx 34, .inl (Y 0, 4, .inl x_sizes)), (qx 35, .inl (Y 1, 240, .inr (.inl x_wholes))), (qx 36, .inl (Y 2, 240, .inr (.inr (.inl x_floats)))), (qx 37, .inl (Y 3, 240, .inr (.inr (.inr (.inl x_doubles)))))] H → va_D A [(qx 0, oX9 qx x_points x_lines x_tide x_isKept x_isMuch x_sum x_once x_twice x_isTermMuch x_nodes x_newMany x_isTooGreat x_come x_foundSet), (qx 4, .inl (Y 0, 40, .inl x_kind)), (qx 5, .inl (Y 0, 40, .inl x_figure)), (qx 6, .inl (Y 0, 40, .inl x_low)), (qx 7, .inl (Y 0, 40, .inl x_high)), (qx 10, .inl (Y 1, 28672, .inr (.inl x_table))), (qx 11, .inl (Y 1, 7, .inr (.inl x_count))), (qx 12, .inl (Y 0, 144, .inl x_heavy)), (qx 33, .inl (Y 0, 4, .inl x_sorts)), (qx 34, .inl (Y 0, 4, .inl x_sizes)), (qx 35, .inl (Y 1, 240, .inr (.inl x_wholes))), (qx 36, .inl (Y 2, 240, .inr (.inr (.inl x_floats)))), (qx 37, .inl (Y 3, 240, .inr (.inr (.inr (.inl x_doubles)))))] → va_S A s.heap H locs → ∀ (ls : Array Slot), lv_has ls 4 [(0, .ref (qx 0)), (1, .int p1), (2, .int p2)] → W p l e (headSpec wsX9_same (rmk 4 94)).room s m [.ref (qx 0), .int p1, .int p2].toArray below meth c H locs 0 0 (MQ below (va_Qi (fun (r : Int32) (_ : Unit) => r = rv) (Pst G (tys Y) [(qx 0, oX9 qx x_points x_lines x_tide x_isKept x_isMuch x_sum x_once x_twice x_isTermMuch x_nodes x_newMany x_isTooGreat x_come x_foundSet), (qx 4, .inl (Y 0, 40, .inl x_kind)), (qx 5, .inl (Y 0, 40, .inl x_figure)), (qx 6, .inl (Y 0, 40, .inl x_low)), (qx 7, .inl (Y 0, 40, .inl x_high)), (qx 10, .inl (Y 1, 28672, .inr (.inl x_table))), (qx 11, .inl (Y 1, 7, .inr (.inl x_count))), (qx 12, .inl (Y 0, 144, .inl x_heavy)), (qx 33, .inl (Y 0, 4, .inl x_sorts)), (qx 34, .inl (Y 0, 4, .inl x_sizes)), (qx 35, .inl (Y 1, 240, .inr (.inl x_wholes))), (qx 36, .inl (Y 2, 240, .inr (.inr (.inl x_floats)))), (qx 37, .inl (Y 3, 240, .inr (.inr (.inr (.inl x_doubles)))))] s.heap.size [(qx 0, oX9 qx x_points x_lines x_tide x_isKept o_x_isMuch x_sum x_once x_twice x_isTermMuch x_nodes x_newMany x_isTooGreat x_come x_foundSet), (qx 4, .inl (Y 0, 40, .inl x_kind)), (qx 5, .inl (Y 0, 40, .inl x_figure)), (qx 6, .inl (Y 0, 40, .inl x_low)), (qx 7, .inl (Y 0, 40, .inl x_high)), (qx 10, .inl (Y 1, 28672, .inr (.inl o_x_table))), (qx 11, .inl (Y 1, 7, .inr (.inl o_x_count))), (qx 12, .inl (Y 0, 144, .inl o_x_heavy)), (qx 33, .inl (Y 0, 4, .inl x_sorts)), (qx 34, .inl (Y 0, 4, .inl x_sizes)), (qx 35, .inl (Y 1, 240, .inr (.inl x_wholes))), (qx 36, .inl (Y 2, 240, .inr (.inr (.inl x_floats)))), (qx 37, .inl (Y 3, 240, .inr (.inr (.inr (.inl x_doubles)))))]) A) [.ref (qx 0), .int p1, .int p2].toArray s 0 0 A) (F0 m 0 ls []) := by
    intro H locs hP hD hS ls hl
    unfold f_X9_same at hf
    refine lv_iload_n hx hb dX9_same_0 rfl (lv_at hl 1 rfl) ?_
    obtain ⟨r11, hc, hf⟩ := bd1 hf
    refine cl_i (ws' := [(qx 0, oX9 qx x_points x_lines x_tide x_isKept x_isMuch x_sum x_once x_twice x_isTermMuch x_nodes x_newMany x_isTooGreat x_come x_foundSet), (qx 4, .inl (Y 0, 40, .inl x_kind)), (qx 5, .inl (Y 0, 40, .inl x_figure)), (qx 6, .inl (Y 0, 40, .inl x_low)), (qx 7, .inl (Y 0, 40, .inl x_high)), (qx 10, .inl (Y 1, 28672, .inr (.inl x_table))), (qx 11, .inl (Y 1, 7, .inr (.inl x_count))), (qx 12, .inl (Y 0, 144, .inl x_heavy)), (qx 33, .inl (Y 0, 4, .inl x_sorts)), (qx 34, .inl (Y 0, 4, .inl x_sizes)), (qx 35, .inl (Y 1, 240, .inr (.inl x_wholes))), (qx 36, .inl (Y 2, 240, .inr (.inr (.inl x_floats)))), (qx 37, .inl (Y 3, 240, .inr (.inr (.inr (.inl x_doubles)))))]) (wr := [(qx 0, oX9 qx x_points x_lines x_tide x_isKept x_isMuch x_sum x_once x_twice x_isTermMuch x_nodes x_newMany x_isTooGreat x_come x_foundSet), (qx 4, .inl (Y 0, 40, .inl x_kind)), (qx 5, .inl (Y 0, 40, .inl x_figure)), (qx 6, .inl (Y 0, 40, .inl x_low)), (qx 7, .inl (Y 0, 40, .inl x_high)), (qx 10, .inl (Y 1, 28672, .inr (.inl x_table))), (qx 11, .inl (Y 1, 7, .inr (.inl x_count))), (qx 12, .inl (Y 0, 144, .inl x_heavy)), (qx 33, .inl (Y 0, 4, .inl x_sorts)), (qx 34, .inl (Y 0, 4, .inl x_sizes)), (qx 35, .inl (Y 1, 240, .inr (.inl x_wholes))), (qx 36, .inl (Y 2, 240, .inr (.inr (.inl x_floats)))), (qx 37, .inl (Y 3, 240, .inr (.inr (.inr (.inl x_doubles)))))]) (rnS (As := [.int p1]) (rest := []) ⟨hx, hb, hml, hown, hts⟩ (c_X9_isSheet l G Y H.size p1 r11 hc) (va_cwS 1 hts gX9_same_X9_isSheet rfl rfl rfl (by decide +kernel) ⟨(Nat.le_of_ble_eq_true rfl), (Nat.le_of_ble_eq_true rfl)⟩) trivial okT hK hP hD [] rfl rfl rfl hl.1 rfl (Nat.le_of_ble_eq_true rfl) dX9_same_1) hP hD hS hA [] [0, 1, 2, 3, 4, 5, 6, 7, 8, 9, 10, 11, 12] [0, 1, 2, 3, 4, 5, 6, 7, 8, 9, 10, 11, 12] rfl rfl rfl (by decide) rfl rfl (fun H locs hP hD hS => ?_)
    refine lv_if_eq (tgt := 14) hx hb dX9_same_4 (by decide) (fun c12 => ?_) (fun c12 => ?_)
    · have hf := it hf c12
      refine lv_bipush (v := -2) hx hb dX9_same_14 (by decide) ?_
      obtain ⟨e0, e1, e2, e3, e4⟩ := rt5 hf
      have hP : va_P G vwCl [(qx 0, oX9 qx x_points x_lines x_tide x_isKept o_x_isMuch x_sum x_once x_twice x_isTermMuch x_nodes x_newMany x_isTooGreat x_come x_foundSet), (qx 4, .inl (Y 0, 40, .inl x_kind)), (qx 5, .inl (Y 0, 40, .inl x_figure)), (qx 6, .inl (Y 0, 40, .inl x_low)), (qx 7, .inl (Y 0, 40, .inl x_high)), (qx 10, .inl (Y 1, 28672, .inr (.inl o_x_table))), (qx 11, .inl (Y 1, 7, .inr (.inl o_x_count))), (qx 12, .inl (Y 0, 144, .inl o_x_heavy)), (qx 33, .inl (Y 0, 4, .inl x_sorts)), (qx 34, .inl (Y 0, 4, .inl x_sizes)), (qx 35, .inl (Y 1, 240, .inr (.inl x_wholes))), (qx 36, .inl (Y 2, 240, .inr (.inr (.inl x_floats)))), (qx 37, .inl (Y 3, 240, .inr (.inr (.inr (.inl x_doubles)))))] H := by rw [← e1, ← e2, ← e3, ← e4]; exact hP
      have hD : va_D A [(qx 0, oX9 qx x_points x_lines x_tide x_isKept o_x_isMuch x_sum x_once x_twice x_isTermMuch x_nodes x_newMany x_isTooGreat x_come x_foundSet), (qx 4, .inl (Y 0, 40, .inl x_kind)), (qx 5, .inl (Y 0, 40, .inl x_figure)), (qx 6, .inl (Y 0, 40, .inl x_low)), (qx 7, .inl (Y 0, 40, .inl x_high)), (qx 10, .inl (Y 1, 28672, .inr (.inl o_x_table))), (qx 11, .inl (Y 1, 7, .inr (.inl o_x_count))), (qx 12, .inl (Y 0, 144, .inl o_x_heavy)), (qx 33, .inl (Y 0, 4, .inl x_sorts)), (qx 34, .inl (Y 0, 4, .inl x_sizes)), (qx 35, .inl (Y 1, 240, .inr (.inl x_wholes))), (qx 36, .inl (Y 2, 240, .inr (.inr (.inl x_floats)))), (qx 37, .inl (Y 3, 240, .inr (.inr (.inr (.inl x_doubles)))))] := by rw [← e1, ← e2, ← e3, ← e4]; exact hD
      exact W.iret (v := (-2 : Int32)) hx hb hr (fun t ht hW => ⟨⟨(-2 : Int32), (), rfl, e0, by rw [ht]; exact hP, va_K.moved hW.alike hK, by rw [hAe]; exact hD⟩, hS.F ht⟩) hS.2.2 dX9_same_16
    · have hf := ie hf c12
      refine lv_iload_n hx hb dX9_same_7 rfl (lv_at hl 2 rfl) ?_
      obtain ⟨r13, hc, hf⟩ := bd1 hf
      refine cl_i (ws' := [(qx 0, oX9 qx x_points x_lines x_tide x_isKept x_isMuch x_sum x_once x_twice x_isTermMuch x_nodes x_newMany x_isTooGreat x_come x_foundSet), (qx 4, .inl (Y 0, 40, .inl x_kind)), (qx 5, .inl (Y 0, 40, .inl x_figure)), (qx 6, .inl (Y 0, 40, .inl x_low)), (qx 7, .inl (Y 0, 40, .inl x_high)), (qx 10, .inl (Y 1, 28672, .inr (.inl x_table))), (qx 11, .inl (Y 1, 7, .inr (.inl x_count))), (qx 12, .inl (Y 0, 144, .inl x_heavy)), (qx 33, .inl (Y 0, 4, .inl x_sorts)), (qx 34, .inl (Y 0, 4, .inl x_sizes)), (qx 35, .inl (Y 1, 240, .inr (.inl x_wholes))), (qx 36, .inl (Y 2, 240, .inr (.inr (.inl x_floats)))), (qx 37, .inl (Y 3, 240, .inr (.inr (.inr (.inl x_doubles)))))]) (wr := [(qx 0, oX9 qx x_points x_lines x_tide x_isKept x_isMuch x_sum x_once x_twice x_isTermMuch x_nodes x_newMany x_isTooGreat x_come x_foundSet), (qx 4, .inl (Y 0, 40, .inl x_kind)), (qx 5, .inl (Y 0, 40, .inl x_figure)), (qx 6, .inl (Y 0, 40, .inl x_low)), (qx 7, .inl (Y 0, 40, .inl x_high)), (qx 10, .inl (Y 1, 28672, .inr (.inl x_table))), (qx 11, .inl (Y 1, 7, .inr (.inl x_count))), (qx 12, .inl (Y 0, 144, .inl x_heavy)), (qx 33, .inl (Y 0, 4, .inl x_sorts)), (qx 34, .inl (Y 0, 4, .inl x_sizes)), (qx 35, .inl (Y 1, 240, .inr (.inl x_wholes))), (qx 36, .inl (Y 2, 240, .inr (.inr (.inl x_floats)))), (qx 37, .inl (Y 3, 240, .inr (.inr (.inr (.inl x_doubles)))))]) (rnS (As := [.int p2]) (rest := []) ⟨hx, hb, hml, hown, hts⟩ (c_X9_isOut l G Y H.size p2 r13 hc) (va_cwS 1 hts gX9_same_X9_isOut rfl rfl rfl (by decide +kernel) ⟨(Nat.le_of_ble_eq_true rfl), (Nat.le_of_ble_eq_true rfl)⟩) trivial okT hK hP hD [] rfl rfl rfl hl.1 rfl (Nat.le_of_ble_eq_true rfl) dX9_same_8) hP hD hS hA [] [0, 1, 2, 3, 4, 5, 6, 7, 8, 9, 10, 11, 12] [0, 1, 2, 3, 4, 5, 6, 7, 8, 9, 10, 11, 12] rfl rfl rfl (by decide) rfl rfl (fun H locs hP hD hS => ?_)
      refine lv_if_ne (tgt := 17) hx hb dX9_same_11 (by decide) (fun c14 => ?_) (fun c14 => ?_)
      · have hf := ie hf c14
        refine lv_aload_n hx hb dX9_same_17 rfl (lv_at hl 0 rfl) ?_
        refine va_get (D := G) (ci := 7) (v := .ref (qx 33)) (C := RX9) (T := TX9) (N := 37) hx hb hts inX9w hown hK hP 0 rfl rfl 32 (by decide) wd1 (fun _ h9 => h9) rfl dX9_same_18 ?_
        refine lv_iload_n hx hb dX9_same_21 rfl (lv_at hl 1 rfl) ?_
        obtain ⟨g15, hf⟩ := gd hf
        refine va_iald hx hb hK hP 8 0 rfl rfl g15 dX9_same_22 ?_
        refine lv_if_ge (tgt := 29) hx hb dX9_same_23 (by decide) (fun c16 => ?_) (fun c16 => ?_)
        · have hf := it hf c16
          refine lv_aload_n hx hb dX9_same_29 rfl (lv_at hl 0 rfl) ?_
          refine lv_iload_n hx hb dX9_same_30 rfl (lv_at hl 2 rfl) ?_
          obtain ⟨w17, w18, w19, w20, hc, hf⟩ := bd4 hf
          refine cl_v (ws' := [(qx 0, oX9 qx x_points x_lines x_tide x_isKept w20 x_sum x_once x_twice x_isTermMuch x_nodes x_newMany x_isTooGreat x_come x_foundSet), (qx 4, .inl (Y 0, 40, .inl x_kind)), (qx 5, .inl (Y 0, 40, .inl x_figure)), (qx 6, .inl (Y 0, 40, .inl x_low)), (qx 7, .inl (Y 0, 40, .inl x_high)), (qx 10, .inl (Y 1, 28672, .inr (.inl w17))), (qx 11, .inl (Y 1, 7, .inr (.inl w18))), (qx 12, .inl (Y 0, 144, .inl w19)), (qx 33, .inl (Y 0, 4, .inl x_sorts)), (qx 34, .inl (Y 0, 4, .inl x_sizes)), (qx 35, .inl (Y 1, 240, .inr (.inl x_wholes))), (qx 36, .inl (Y 2, 240, .inr (.inr (.inl x_floats)))), (qx 37, .inl (Y 3, 240, .inr (.inr (.inr (.inl x_doubles)))))]) (wr := [(qx 33, .inl (Y 0, 4, .inl x_sorts)), (qx 34, .inl (Y 0, 4, .inl x_sizes)), (qx 35, .inl (Y 1, 240, .inr (.inl x_wholes))), (qx 36, .inl (Y 2, 240, .inr (.inr (.inl x_floats)))), (qx 37, .inl (Y 3, 240, .inr (.inr (.inr (.inl x_doubles)))))]) (rnV (As := [.int p2]) (rest := []) ⟨hx, hb, hml, hown, hts⟩ (c_X9_findsCounts l G Y H.size qx x_points x_lines x_tide x_kind x_figure x_low x_high x_isKept x_table x_count x_heavy x_isMuch x_sum x_once x_twice x_isTermMuch x_nodes x_newMany x_isTooGreat x_come x_foundSet p2 w17 w18 w19 w20 hc) (cwV 1 hts gX9_same_X9_findsCounts rfl rfl rfl (by decide +kernel) ⟨(Nat.le_of_ble_eq_true rfl), (Nat.le_of_ble_eq_true rfl)⟩) trivial okT hK hP hD [0, 1, 2, 3, 4, 5, 6, 7] rfl rfl (ci := 7) (q0 := 0) rfl rfl rfl rfl hl.1 rfl (Nat.le_of_ble_eq_true rfl) dX9_same_31) hP hD hS hA [0, 1, 2, 3, 4, 5, 6, 7] [8, 9, 10, 11, 12] [5, 6, 7, 8, 9, 10, 11, 12, 0, 1, 2, 3, 4] rfl rfl rfl (by decide) rfl rfl (fun H locs hP hD hS => ?_)
          refine lv_aload_n hx hb dX9_same_34 rfl (lv_at hl 0 rfl) ?_
          refine va_get (D := G) (ci := 7) (v := .int w20) (C := RX9) (T := TX9) (N := 37) hx hb hts inX9w hown hK hP 0 rfl rfl 12 (by decide) wd2 (fun _ h9 => h9) rfl dX9_same_35 ?_
          refine lv_if_eq (tgt := 44) hx hb dX9_same_38 (by decide) (fun c21 => ?_) (fun c21 => ?_)
          · have hf := it hf c21
            refine lv_iconst (v := 0) hx hb dX9_same_44 (by decide) ?_
            refine lv_istore_n (lv' := [(3, .int (0 : Int32)), (0, .ref (qx 0)), (1, .int p1), (2, .int p2)]) hx hb dX9_same_45 rfl hl (by decide) rfl (fun ls hl => ?_)
            exact B46 70 w17 w18 w19 w20 (0 : Int32) hf _ _ hP hD hS ls (lv_sub hl [1, 2, 0] rfl)
          · have hf := ie hf c21
            refine lv_bipush (v := -5) hx hb dX9_same_41 (by decide) ?_
            obtain ⟨e0, e1, e2, e3, e4⟩ := rt5 hf
            have hP : va_P G vwCl [(qx 0, oX9 qx x_points x_lines x_tide x_isKept o_x_isMuch x_sum x_once x_twice x_isTermMuch x_nodes x_newMany x_isTooGreat x_come x_foundSet), (qx 4, .inl (Y 0, 40, .inl x_kind)), (qx 5, .inl (Y 0, 40, .inl x_figure)), (qx 6, .inl (Y 0, 40, .inl x_low)), (qx 7, .inl (Y 0, 40, .inl x_high)), (qx 10, .inl (Y 1, 28672, .inr (.inl o_x_table))), (qx 11, .inl (Y 1, 7, .inr (.inl o_x_count))), (qx 12, .inl (Y 0, 144, .inl o_x_heavy)), (qx 33, .inl (Y 0, 4, .inl x_sorts)), (qx 34, .inl (Y 0, 4, .inl x_sizes)), (qx 35, .inl (Y 1, 240, .inr (.inl x_wholes))), (qx 36, .inl (Y 2, 240, .inr (.inr (.inl x_floats)))), (qx 37, .inl (Y 3, 240, .inr (.inr (.inr (.inl x_doubles)))))] H := by rw [← e1, ← e2, ← e3, ← e4]; exact hP
            have hD : va_D A [(qx 0, oX9 qx x_points x_lines x_tide x_isKept o_x_isMuch x_sum x_once x_twice x_isTermMuch x_nodes x_newMany x_isTooGreat x_come x_foundSet), (qx 4, .inl (Y 0, 40, .inl x_kind)), (qx 5, .inl (Y 0, 40, .inl x_figure)), (qx 6, .inl (Y 0, 40, .inl x_low)), (qx 7, .inl (Y 0, 40, .inl x_high)), (qx 10, .inl (Y 1, 28672, .inr (.inl o_x_table))), (qx 11, .inl (Y 1, 7, .inr (.inl o_x_count))), (qx 12, .inl (Y 0, 144, .inl o_x_heavy)), (qx 33, .inl (Y 0, 4, .inl x_sorts)), (qx 34, .inl (Y 0, 4, .inl x_sizes)), (qx 35, .inl (Y 1, 240, .inr (.inl x_wholes))), (qx 36, .inl (Y 2, 240, .inr (.inr (.inl x_floats)))), (qx 37, .inl (Y 3, 240, .inr (.inr (.inr (.inl x_doubles)))))] := by rw [← e1, ← e2, ← e3, ← e4]; exact hD
            exact W.iret (v := (-5 : Int32)) hx hb hr (fun t ht hW => ⟨⟨(-5 : Int32), (), rfl, e0, by rw [ht]; exact hP, va_K.moved hW.alike hK, by rw [hAe]; exact hD⟩, hS.F ht⟩) hS.2.2 dX9_same_43
        · have hf := ie hf c16
          refine lv_bipush (v := -11) hx hb dX9_same_26 (by decide) ?_
          obtain ⟨e0, e1, e2, e3, e4⟩ := rt5 hf
          have hP : va_P G vwCl [(qx 0, oX9 qx x_points x_lines x_tide x_isKept o_x_isMuch x_sum x_once x_twice x_isTermMuch x_nodes x_newMany x_isTooGreat x_come x_foundSet), (qx 4, .inl (Y 0, 40, .inl x_kind)), (qx 5, .inl (Y 0, 40, .inl x_figure)), (qx 6, .inl (Y 0, 40, .inl x_low)), (qx 7, .inl (Y 0, 40, .inl x_high)), (qx 10, .inl (Y 1, 28672, .inr (.inl o_x_table))), (qx 11, .inl (Y 1, 7, .inr (.inl o_x_count))), (qx 12, .inl (Y 0, 144, .inl o_x_heavy)), (qx 33, .inl (Y 0, 4, .inl x_sorts)), (qx 34, .inl (Y 0, 4, .inl x_sizes)), (qx 35, .inl (Y 1, 240, .inr (.inl x_wholes))), (qx 36, .inl (Y 2, 240, .inr (.inr (.inl x_floats)))), (qx 37, .inl (Y 3, 240, .inr (.inr (.inr (.inl x_doubles)))))] H := by rw [← e1, ← e2, ← e3, ← e4]; exact hP
          have hD : va_D A [(qx 0, oX9 qx x_points x_lines x_tide x_isKept o_x_isMuch x_sum x_once x_twice x_isTermMuch x_nodes x_newMany x_isTooGreat x_come x_foundSet), (qx 4, .inl (Y 0, 40, .inl x_kind)), (qx 5, .inl (Y 0, 40, .inl x_figure)), (qx 6, .inl (Y 0, 40, .inl x_low)), (qx 7, .inl (Y 0, 40, .inl x_high)), (qx 10, .inl (Y 1, 28672, .inr (.inl o_x_table))), (qx 11, .inl (Y 1, 7, .inr (.inl o_x_count))), (qx 12, .inl (Y 0, 144, .inl o_x_heavy)), (qx 33, .inl (Y 0, 4, .inl x_sorts)), (qx 34, .inl (Y 0, 4, .inl x_sizes)), (qx 35, .inl (Y 1, 240, .inr (.inl x_wholes))), (qx 36, .inl (Y 2, 240, .inr (.inr (.inl x_floats)))), (qx 37, .inl (Y 3, 240, .inr (.inr (.inr (.inl x_doubles)))))] := by rw [← e1, ← e2, ← e3, ← e4]; exact hD
          exact W.iret (v := (-11 : Int32)) hx hb hr (fun t ht hW => ⟨⟨(-11 : Int32), (), rfl, e0, by rw [ht]; exact hP, va_K.moved hW.alike hK, by rw [hAe]; exact hD⟩, hS.F ht⟩) hS.2.2 dX9_same_28
      · have hf := it hf c14
        refine lv_bipush (v := -2) hx hb dX9_same_14 (by decide) ?_
        obtain ⟨e0, e1, e2, e3, e4⟩ := rt5 hf
        have hP : va_P G vwCl [(qx 0, oX9 qx x_points x_lines x_tide x_isKept o_x_isMuch x_sum x_once x_twice x_isTermMuch x_nodes x_newMany x_isTooGreat x_come x_foundSet), (qx 4, .inl (Y 0, 40, .inl x_kind)), (qx 5, .inl (Y 0, 40, .inl x_figure)), (qx 6, .inl (Y 0, 40, .inl x_low)), (qx 7, .inl (Y 0, 40, .inl x_high)), (qx 10, .inl (Y 1, 28672, .inr (.inl o_x_table))), (qx 11, .inl (Y 1, 7, .inr (.inl o_x_count))), (qx 12, .inl (Y 0, 144, .inl o_x_heavy)), (qx 33, .inl (Y 0, 4, .inl x_sorts)), (qx 34, .inl (Y 0, 4, .inl x_sizes)), (qx 35, .inl (Y 1, 240, .inr (.inl x_wholes))), (qx 36, .inl (Y 2, 240, .inr (.inr (.inl x_floats)))), (qx 37, .inl (Y 3, 240, .inr (.inr (.inr (.inl x_doubles)))))] H := by rw [← e1, ← e2, ← e3, ← e4]; exact hP
        have hD : va_D A [(qx 0, oX9 qx x_points x_lines x_tide x_isKept o_x_isMuch x_sum x_once x_twice x_isTermMuch x_nodes x_newMany x_isTooGreat x_come x_foundSet), (qx 4, .inl (Y 0, 40, .inl x_kind)), (qx 5, .inl (Y 0, 40, .inl x_figure)), (qx 6, .inl (Y 0, 40, .inl x_low)), (qx 7, .inl (Y 0, 40, .inl x_high)), (qx 10, .inl (Y 1, 28672, .inr (.inl o_x_table))), (qx 11, .inl (Y 1, 7, .inr (.inl o_x_count))), (qx 12, .inl (Y 0, 144, .inl o_x_heavy)), (qx 33, .inl (Y 0, 4, .inl x_sorts)), (qx 34, .inl (Y 0, 4, .inl x_sizes)), (qx 35, .inl (Y 1, 240, .inr (.inl x_wholes))), (qx 36, .inl (Y 2, 240, .inr (.inr (.inl x_floats)))), (qx 37, .inl (Y 3, 240, .inr (.inr (.inr (.inl x_doubles)))))] := by rw [← e1, ← e2, ← e3, ← e4]; exact hD
        exact W.iret (v := (-2 : Int32)) hx hb hr (fun t ht hW => ⟨⟨(-2 : Int32), (), rfl, e0, by rw [ht]; exact hP, va_K.moved hW.alike hK, by rw [hAe]; exact hD⟩, hS.F ht⟩) hS.2.2 dX9_same_16
  exact E0 s.heap [] hP hD hS ls hl
-- X9_copy
set_option maxRecDepth 100000 in
set_option maxHeartbeats 4000000 in
theorem c_X9_copy (l : Launch) (G : va_G) (Y : Nat → ClassId) (sz : Nat) (qx : Nat → Nat) (x_points : Int32) (x_lines : Int32) (x_tide : Int32) (x_isKept : Int32) (x_isMuch : Int32) (x_sum : Int64) (x_once : Int64) (x_twice : Int64) (x_isTermMuch : Int32) (x_nodes : Int32) (x_newMany : Int32) (x_isTooGreat : Int32) (x_come : Int32) (x_foundSet : Int64) (x_sorts : Nat → Int32) (x_sizes : Nat → Int32) (x_wholes : Nat → Int64) (x_floats : Nat → UInt32) (x_doubles : Nat → UInt64) (p1 : Int32) (p2 : Int32) (p3 : Int32) (p4 : Int32) (p5 : Int32) (rv : Int32) (o_x_wholes : Nat → Int64) (o_x_floats : Nat → UInt32) (o_x_doubles : Nat → UInt64) (hf : f_X9_copy x_sorts x_sizes x_wholes x_floats x_doubles p1 p2 p3 p4 p5 = some (rv, o_x_wholes, o_x_floats, o_x_doubles)) : Met l yX9_copy wsX9_copy (rmk 2 45) (va_Pc [.ref (qx 0), .int p1, .int p2, .int p3, .int p4, .int p5] (Pre G (tys Y) [(qx 0, oX9 qx x_points x_lines x_tide x_isKept x_isMuch x_sum x_once x_twice x_isTermMuch x_nodes x_newMany x_isTooGreat x_come x_foundSet), (qx 33, .inl (Y 0, 4, .inl x_sorts)), (qx 34, .inl (Y 0, 4, .inl x_sizes)), (qx 35, .inl (Y 1, 240, .inr (.inl x_wholes))), (qx 36, .inl (Y 2, 240, .inr (.inr (.inl x_floats)))), (qx 37, .inl (Y 3, 240, .inr (.inr (.inr (.inl x_doubles)))))] sz xT)) (va_Qi (fun (r : Int32) (_ : Unit) => r = rv) (Pst G (tys Y) [(qx 0, oX9 qx x_points x_lines x_tide x_isKept x_isMuch x_sum x_once x_twice x_isTermMuch x_nodes x_newMany x_isTooGreat x_come x_foundSet), (qx 33, .inl (Y 0, 4, .inl x_sorts)), (qx 34, .inl (Y 0, 4, .inl x_sizes)), (qx 35, .inl (Y 1, 240, .inr (.inl x_wholes))), (qx 36, .inl (Y 2, 240, .inr (.inr (.inl x_floats)))), (qx 37, .inl (Y 3, 240, .inr (.inr (.inr (.inl x_doubles)))))] sz [(qx 0, oX9 qx x_points x_lines x_tide x_isKept x_isMuch x_sum x_once x_twice x_isTermMuch x_nodes x_newMany x_isTooGreat x_come x_foundSet), (qx 33, .inl (Y 0, 4, .inl x_sorts)), (qx 34, .inl (Y 0, 4, .inl x_sizes)), (qx 35, .inl (Y 1, 240, .inr (.inl o_x_wholes))), (qx 36, .inl (Y 2, 240, .inr (.inr (.inl o_x_floats)))), (qx 37, .inl (Y 3, 240, .inr (.inr (.inr (.inl o_x_doubles)))))]) (va_A [(qx 0, oX9 qx x_points x_lines x_tide x_isKept x_isMuch x_sum x_once x_twice x_isTermMuch x_nodes x_newMany x_isTooGreat x_come x_foundSet), (qx 33, .inl (Y 0, 4, .inl x_sorts)), (qx 34, .inl (Y 0, 4, .inl x_sizes)), (qx 35, .inl (Y 1, 240, .inr (.inl x_wholes))), (qx 36, .inl (Y 2, 240, .inr (.inr (.inl x_floats)))), (qx 37, .inl (Y 3, 240, .inr (.inr (.inr (.inl x_doubles)))))] sz)) 0 0 (va_A [(qx 0, oX9 qx x_points x_lines x_tide x_isKept x_isMuch x_sum x_once x_twice x_isTermMuch x_nodes x_newMany x_isTooGreat x_come x_foundSet), (qx 33, .inl (Y 0, 4, .inl x_sorts)), (qx 34, .inl (Y 0, 4, .inl x_sizes)), (qx 35, .inl (Y 1, 240, .inr (.inl x_wholes))), (qx 36, .inl (Y 2, 240, .inr (.inr (.inl x_floats)))), (qx 37, .inl (Y 3, 240, .inr (.inr (.inr (.inl x_doubles)))))] sz) := by
  refine Met.ofW (cc := cX9_copy) (maxL := 10) (ret := (some .int)) (by decide) rfl ?_
  intro p e s m args below meth c s₁ B hml hv
  obtain ⟨rfl, hsz, hP, hK, hD0, hX⟩ := hv
  have hx := B.exec
  have hb := B.bytes
  have hr := B.returns
  have hts := atoms_spec (ws := wsX9_copy) B.pre
  have hown : s.vm.findClass RX9 = some m.cls := findClass_of_methodNamed B.named
  have hlocks := B.notSynchronized
  subst hsz
  have hD := hD0.self (sz := s.heap.size)
  generalize hAe : va_A [(qx 0, oX9 qx x_points x_lines x_tide x_isKept x_isMuch x_sum x_once x_twice x_isTermMuch x_nodes x_newMany x_isTooGreat x_come x_foundSet), (qx 33, .inl (Y 0, 4, .inl x_sorts)), (qx 34, .inl (Y 0, 4, .inl x_sizes)), (qx 35, .inl (Y 1, 240, .inr (.inl x_wholes))), (qx 36, .inl (Y 2, 240, .inr (.inr (.inl x_floats)))), (qx 37, .inl (Y 3, 240, .inr (.inr (.inr (.inl x_doubles)))))] s.heap.size = A at hD ⊢
  have hA : ∀ q : Nat, s.heap.size ≤ q → A q := fun q h => by rw [← hAe]; exact Or.inr h
  have hS : va_S A s.heap s.heap [] := va_S.rf
  have hP : va_P G vwCl [(qx 0, oX9 qx x_points x_lines x_tide x_isKept x_isMuch x_sum x_once x_twice x_isTermMuch x_nodes x_newMany x_isTooGreat x_come x_foundSet), (qx 33, .inl (Y 0, 4, .inl x_sorts)), (qx 34, .inl (Y 0, 4, .inl x_sizes)), (qx 35, .inl (Y 1, 240, .inr (.inl x_wholes))), (qx 36, .inl (Y 2, 240, .inr (.inr (.inl x_floats)))), (qx 37, .inl (Y 3, 240, .inr (.inr (.inr (.inl x_doubles)))))] s.heap := hP
  have wd1 : (Cond.fieldLink RX9 65 "PairedLinesModel" "sorts" "[I").before [.ref (qx 0), .int p1, .int p2, .int p3, .int p4, .int p5].toArray s = true := hts _ (List.mem_of_getElem? (i := 1) rfl)
  have wd2 : (Cond.fieldLink RX9 68 "PairedLinesModel" "sizes" "[I").before [.ref (qx 0), .int p1, .int p2, .int p3, .int p4, .int p5].toArray s = true := hts _ (List.mem_of_getElem? (i := 2) rfl)
  have wd3 : (Cond.fieldLink RX9 71 "PairedLinesModel" "wholes" "[J").before [.ref (qx 0), .int p1, .int p2, .int p3, .int p4, .int p5].toArray s = true := hts _ (List.mem_of_getElem? (i := 3) rfl)
  have wd4 : (Cond.fieldLink RX9 74 "PairedLinesModel" "floats" "[F").before [.ref (qx 0), .int p1, .int p2, .int p3, .int p4, .int p5].toArray s = true := hts _ (List.mem_of_getElem? (i := 4) rfl)
  have wd5 : (Cond.fieldLink RX9 78 "PairedLinesModel" "doubles" "[D").before [.ref (qx 0), .int p1, .int p2, .int p3, .int p4, .int p5].toArray s = true := hts _ (List.mem_of_getElem? (i := 5) rfl)
  have inX9w : ∀ w ∈ u_ws RX9 TX9 37, w ∈ wsX9_copy := fun w hw => List.mem_cons_of_mem _ (List.mem_append_right _ (hw))
  have hl := lv_entry ([.ref (qx 0), .int p1, .int p2, .int p3, .int p4, .int p5]) (n := 10) (Nat.le_of_ble_eq_true rfl)
  rw [lg_entry_eq]
  generalize (lg_sl ([.ref (qx 0), .int p1, .int p2, .int p3, .int p4, .int p5]) ++ List.replicate (10 - (lg_sl ([.ref (qx 0), .int p1, .int p2, .int p3, .int p4, .int p5])).length) Slot.unset).toArray = ls at hl ⊢
  have hl : lv_has ls 10 [(0, .ref (qx 0)), (1, .int p1), (2, .int p2), (3, .int p3), (4, .int p4), (5, .int p5)] := hl
  have B103 : ∀ (n103 : Nat), ∀ (b_x_wholes : Nat → Int64) (b_x_floats : Nat → UInt32) (b_x_doubles : Nat → UInt64) (x6 : Int32), f_X9_copy_b103 x_sorts x_sizes p1 p2 p3 p4 p5 n103 b_x_wholes b_x_floats b_x_doubles x6 = some (rv, o_x_wholes, o_x_floats, o_x_doubles) → ∀ (H : Heap) (locs : List Loc), va_P G vwCl [(qx 0, oX9 qx x_points x_lines x_tide x_isKept x_isMuch x_sum x_once x_twice x_isTermMuch x_nodes x_newMany x_isTooGreat x_come x_foundSet), (qx 33, .inl (Y 0, 4, .inl x_sorts)), (qx 34, .inl (Y 0, 4, .inl x_sizes)), (qx 35, .inl (Y 1, 240, .inr (.inl b_x_wholes))), (qx 36, .inl (Y 2, 240, .inr (.inr (.inl b_x_floats)))), (qx 37, .inl (Y 3, 240, .inr (.inr (.inr (.inl b_x_doubles)))))] H → va_D A [(qx 0, oX9 qx x_points x_lines x_tide x_isKept x_isMuch x_sum x_once x_twice x_isTermMuch x_nodes x_newMany x_isTooGreat x_come x_foundSet), (qx 33, .inl (Y 0, 4, .inl x_sorts)), (qx 34, .inl (Y 0, 4, .inl x_sizes)), (qx 35, .inl (Y 1, 240, .inr (.inl b_x_wholes))), (qx 36, .inl (Y 2, 240, .inr (.inr (.inl b_x_floats)))), (qx 37, .inl (Y 3, 240, .inr (.inr (.inr (.inl b_x_doubles)))))] → va_S A s.heap H locs → ∀ (ls : Array Slot), lv_has ls 10 [(0, .ref (qx 0)), (1, .int p1), (2, .int p2), (3, .int p3), (4, .int p4), (5, .int p5), (6, .int x6)] → W p l e (headSpec wsX9_copy (rmk 2 45)).room s m [.ref (qx 0), .int p1, .int p2, .int p3, .int p4, .int p5].toArray below meth c H locs 0 0 (MQ below (va_Qi (fun (r : Int32) (_ : Unit) => r = rv) (Pst G (tys Y) [(qx 0, oX9 qx x_points x_lines x_tide x_isKept x_isMuch x_sum x_once x_twice x_isTermMuch x_nodes x_newMany x_isTooGreat x_come x_foundSet), (qx 33, .inl (Y 0, 4, .inl x_sorts)), (qx 34, .inl (Y 0, 4, .inl x_sizes)), (qx 35, .inl (Y 1, 240, .inr (.inl x_wholes))), (qx 36, .inl (Y 2, 240, .inr (.inr (.inl x_floats)))), (qx 37, .inl (Y 3, 240, .inr (.inr (.inr (.inl x_doubles)))))] s.heap.size [(qx 0, oX9 qx x_points x_lines x_tide x_isKept x_isMuch x_sum x_once x_twice x_isTermMuch x_nodes x_newMany x_isTooGreat x_come x_foundSet), (qx 33, .inl (Y 0, 4, .inl x_sorts)), (qx 34, .inl (Y 0, 4, .inl x_sizes)), (qx 35, .inl (Y 1, 240, .inr (.inl o_x_wholes))), (qx 36, .inl (Y 2, 240, .inr (.inr (.inl o_x_floats)))), (qx 37, .inl (Y 3, 240, .inr (.inr (.inr (.inl o_x_doubles)))))]) A) [.ref (qx 0), .int p1, .int p2, .int p3, .int p4, .int p5].toArray s 0 0 A) (F0 m 103 ls []) := by
    intro n103
    induction n103 with
    | zero =>
      intro b_x_wholes b_x_floats b_x_doubles x6 hf H locs hP hD hS ls hl
      exact no_none hf
    | succ n103 ih103 =>
      have B128 : ∀ (b_x_wholes : Nat → Int64) (b_x_floats : Nat → UInt32) (b_x_doubles : Nat → UInt64) (x6 : Int32) (y0 : Int32), f_X9_copy_b128 x_sorts x_sizes p1 p2 p3 p4 p5 (f_X9_copy_b103 x_sorts x_sizes p1 p2 p3 p4 p5 n103) b_x_wholes b_x_floats b_x_doubles x6 y0 = some (rv, o_x_wholes, o_x_floats, o_x_doubles) → ∀ (H : Heap) (locs : List Loc), va_P G vwCl [(qx 0, oX9 qx x_points x_lines x_tide x_isKept x_isMuch x_sum x_once x_twice x_isTermMuch x_nodes x_newMany x_isTooGreat x_come x_foundSet), (qx 33, .inl (Y 0, 4, .inl x_sorts)), (qx 34, .inl (Y 0, 4, .inl x_sizes)), (qx 35, .inl (Y 1, 240, .inr (.inl b_x_wholes))), (qx 36, .inl (Y 2, 240, .inr (.inr (.inl b_x_floats)))), (qx 37, .inl (Y 3, 240, .inr (.inr (.inr (.inl b_x_doubles)))))] H → va_D A [(qx 0, oX9 qx x_points x_lines x_tide x_isKept x_isMuch x_sum x_once x_twice x_isTermMuch x_nodes x_newMany x_isTooGreat x_come x_foundSet), (qx 33, .inl (Y 0, 4, .inl x_sorts)), (qx 34, .inl (Y 0, 4, .inl x_sizes)), (qx 35, .inl (Y 1, 240, .inr (.inl b_x_wholes))), (qx 36, .inl (Y 2, 240, .inr (.inr (.inl b_x_floats)))), (qx 37, .inl (Y 3, 240, .inr (.inr (.inr (.inl b_x_doubles)))))] → va_S A s.heap H locs → ∀ (ls : Array Slot), lv_has ls 10 [(0, .ref (qx 0)), (1, .int p1), (2, .int p2), (3, .int p3), (4, .int p4), (5, .int p5), (6, .int x6)] → W p l e (headSpec wsX9_copy (rmk 2 45)).room s m [.ref (qx 0), .int p1, .int p2, .int p3, .int p4, .int p5].toArray below meth c H locs 0 0 (MQ below (va_Qi (fun (r : Int32) (_ : Unit) => r = rv) (Pst G (tys Y) [(qx 0, oX9 qx x_points x_lines x_tide x_isKept x_isMuch x_sum x_once x_twice x_isTermMuch x_nodes x_newMany x_isTooGreat x_come x_foundSet), (qx 33, .inl (Y 0, 4, .inl x_sorts)), (qx 34, .inl (Y 0, 4, .inl x_sizes)), (qx 35, .inl (Y 1, 240, .inr (.inl x_wholes))), (qx 36, .inl (Y 2, 240, .inr (.inr (.inl x_floats)))), (qx 37, .inl (Y 3, 240, .inr (.inr (.inr (.inl x_doubles)))))] s.heap.size [(qx 0, oX9 qx x_points x_lines x_tide x_isKept x_isMuch x_sum x_once x_twice x_isTermMuch x_nodes x_newMany x_isTooGreat x_come x_foundSet), (qx 33, .inl (Y 0, 4, .inl x_sorts)), (qx 34, .inl (Y 0, 4, .inl x_sizes)), (qx 35, .inl (Y 1, 240, .inr (.inl o_x_wholes))), (qx 36, .inl (Y 2, 240, .inr (.inr (.inl o_x_floats)))), (qx 37, .inl (Y 3, 240, .inr (.inr (.inr (.inl o_x_doubles)))))]) A) [.ref (qx 0), .int p1, .int p2, .int p3, .int p4, .int p5].toArray s 0 0 A) (F0 m 128 ls [.int y0]) := by
        intro b_x_wholes b_x_floats b_x_doubles x6 y0 hf H locs hP hD hS ls hl
        unfold f_X9_copy_b128 at hf
        refine lv_istore (lv' := [(7, .int y0), (0, .ref (qx 0)), (1, .int p1), (2, .int p2), (3, .int p3), (4, .int p4), (5, .int p5), (6, .int x6)]) hx hb dX9_copy_128 hl (by decide) rfl (fun ls hl => ?_)
        refine lv_bipush (v := 60) hx hb dX9_copy_130 (by decide) ?_
        refine lv_iload_n hx hb dX9_copy_132 rfl (lv_at hl 2 rfl) ?_
        refine lv_imul hx hb dX9_copy_133 ?_
        refine lv_iload_n hx hb dX9_copy_134 rfl (lv_at hl 3 rfl) ?_
        refine lv_iadd hx hb dX9_copy_135 ?_
        refine lv_iload hx hb dX9_copy_136 (lv_at hl 0 rfl) ?_
        refine lv_iadd hx hb dX9_copy_138 ?_
        refine lv_topi (fun v1 e_v1 => ?_)
        have hf := nm_at hf e_v1
        refine lv_istore (lv' := [(8, .int v1), (7, .int y0), (0, .ref (qx 0)), (1, .int p1), (2, .int p2), (3, .int p3), (4, .int p4), (5, .int p5), (6, .int x6)]) hx hb dX9_copy_139 hl (by decide) rfl (fun ls hl => ?_)
        refine lv_bipush (v := 60) hx hb dX9_copy_141 (by decide) ?_
        refine lv_iload_n hx hb dX9_copy_143 rfl (lv_at hl 5 rfl) ?_
        refine lv_imul hx hb dX9_copy_144 ?_
        refine lv_iload hx hb dX9_copy_145 (lv_at hl 6 rfl) ?_
        refine lv_iadd hx hb dX9_copy_147 ?_
        refine lv_iload hx hb dX9_copy_148 (lv_at hl 1 rfl) ?_
        refine lv_iadd hx hb dX9_copy_150 ?_
        refine lv_topi (fun v2 e_v2 => ?_)
        have hf := nm_at hf e_v2
        refine lv_istore (lv' := [(9, .int v2), (8, .int v1), (7, .int y0), (0, .ref (qx 0)), (1, .int p1), (2, .int p2), (3, .int p3), (4, .int p4), (5, .int p5), (6, .int x6)]) hx hb dX9_copy_151 hl (by decide) rfl (fun ls hl => ?_)
        refine lv_aload_n hx hb dX9_copy_153 rfl (lv_at hl 3 rfl) ?_
        refine va_get (D := G) (ci := 7) (v := .ref (qx 35)) (C := RX9) (T := TX9) (N := 37) hx hb hts inX9w hown hK hP 0 rfl rfl 34 (by decide) wd3 (fun _ h9 => h9) rfl dX9_copy_154 ?_
        refine lv_iload hx hb dX9_copy_157 (lv_at hl 0 rfl) ?_
        refine lv_aload_n hx hb dX9_copy_159 rfl (lv_at hl 3 rfl) ?_
        refine va_get (D := G) (ci := 7) (v := .ref (qx 35)) (C := RX9) (T := TX9) (N := 37) hx hb hts inX9w hown hK hP 0 rfl rfl 34 (by decide) wd3 (fun _ h9 => h9) rfl dX9_copy_160 ?_
        refine lv_iload hx hb dX9_copy_163 (lv_at hl 1 rfl) ?_
        obtain ⟨g3, hf⟩ := gd hf
        refine va_lald hx hb hK hP 3 1 rfl rfl g3 dX9_copy_165 ?_
        obtain ⟨g4, hf⟩ := gd hf
        refine va_last hx hb hK hP hD hS 3 1 rfl rfl g4 dX9_copy_166 (fun H locs hP hD hS => ?_)
        obtain ⟨v5, e_v5⟩ : ∃ z : Nat → Int64, z = vp_updL b_x_wholes v2.toNatClampNeg (b_x_wholes v1.toNatClampNeg) := ⟨_, rfl⟩
        have hf := nm_at hf e_v5
        have hP : va_P G vwCl [(qx 0, oX9 qx x_points x_lines x_tide x_isKept x_isMuch x_sum x_once x_twice x_isTermMuch x_nodes x_newMany x_isTooGreat x_come x_foundSet), (qx 33, .inl (Y 0, 4, .inl x_sorts)), (qx 34, .inl (Y 0, 4, .inl x_sizes)), (qx 35, .inl (Y 1, 240, .inr (.inl v5))), (qx 36, .inl (Y 2, 240, .inr (.inr (.inl b_x_floats)))), (qx 37, .inl (Y 3, 240, .inr (.inr (.inr (.inl b_x_doubles)))))] H := by rw [e_v5]; exact hP
        have hD : va_D A [(qx 0, oX9 qx x_points x_lines x_tide x_isKept x_isMuch x_sum x_once x_twice x_isTermMuch x_nodes x_newMany x_isTooGreat x_come x_foundSet), (qx 33, .inl (Y 0, 4, .inl x_sorts)), (qx 34, .inl (Y 0, 4, .inl x_sizes)), (qx 35, .inl (Y 1, 240, .inr (.inl v5))), (qx 36, .inl (Y 2, 240, .inr (.inr (.inl b_x_floats)))), (qx 37, .inl (Y 3, 240, .inr (.inr (.inr (.inl b_x_doubles)))))] := by rw [e_v5]; exact hD
        refine lv_aload_n hx hb dX9_copy_167 rfl (lv_at hl 3 rfl) ?_
        refine va_get (D := G) (ci := 7) (v := .ref (qx 36)) (C := RX9) (T := TX9) (N := 37) hx hb hts inX9w hown hK hP 0 rfl rfl 35 (by decide) wd4 (fun _ h9 => h9) rfl dX9_copy_168 ?_
        refine lv_iload hx hb dX9_copy_171 (lv_at hl 0 rfl) ?_
        refine lv_aload_n hx hb dX9_copy_173 rfl (lv_at hl 3 rfl) ?_
        refine va_get (D := G) (ci := 7) (v := .ref (qx 36)) (C := RX9) (T := TX9) (N := 37) hx hb hts inX9w hown hK hP 0 rfl rfl 35 (by decide) wd4 (fun _ h9 => h9) rfl dX9_copy_174 ?_
        refine lv_iload hx hb dX9_copy_177 (lv_at hl 1 rfl) ?_
        obtain ⟨g6, hf⟩ := gd hf
        refine va_fald hx hb hK hP 4 2 rfl rfl g6 dX9_copy_179 ?_
        obtain ⟨g7, hf⟩ := gd hf
        refine va_fast hx hb hK hP hD hS 4 2 rfl rfl g7 dX9_copy_180 (fun H locs hP hD hS => ?_)
        obtain ⟨v8, e_v8⟩ : ∃ z : Nat → UInt32, z = vf_upd b_x_floats v2.toNatClampNeg (b_x_floats v1.toNatClampNeg) := ⟨_, rfl⟩
        have hf := nm_at hf e_v8
        have hP : va_P G vwCl [(qx 0, oX9 qx x_points x_lines x_tide x_isKept x_isMuch x_sum x_once x_twice x_isTermMuch x_nodes x_newMany x_isTooGreat x_come x_foundSet), (qx 33, .inl (Y 0, 4, .inl x_sorts)), (qx 34, .inl (Y 0, 4, .inl x_sizes)), (qx 35, .inl (Y 1, 240, .inr (.inl v5))), (qx 36, .inl (Y 2, 240, .inr (.inr (.inl v8)))), (qx 37, .inl (Y 3, 240, .inr (.inr (.inr (.inl b_x_doubles)))))] H := by rw [e_v8]; exact hP
        have hD : va_D A [(qx 0, oX9 qx x_points x_lines x_tide x_isKept x_isMuch x_sum x_once x_twice x_isTermMuch x_nodes x_newMany x_isTooGreat x_come x_foundSet), (qx 33, .inl (Y 0, 4, .inl x_sorts)), (qx 34, .inl (Y 0, 4, .inl x_sizes)), (qx 35, .inl (Y 1, 240, .inr (.inl v5))), (qx 36, .inl (Y 2, 240, .inr (.inr (.inl v8)))), (qx 37, .inl (Y 3, 240, .inr (.inr (.inr (.inl b_x_doubles)))))] := by rw [e_v8]; exact hD
        refine lv_aload_n hx hb dX9_copy_181 rfl (lv_at hl 3 rfl) ?_
        refine va_get (D := G) (ci := 7) (v := .ref (qx 37)) (C := RX9) (T := TX9) (N := 37) hx hb hts inX9w hown hK hP 0 rfl rfl 36 (by decide) wd5 (fun _ h9 => h9) rfl dX9_copy_182 ?_
        refine lv_iload hx hb dX9_copy_185 (lv_at hl 0 rfl) ?_
        refine lv_aload_n hx hb dX9_copy_187 rfl (lv_at hl 3 rfl) ?_
        refine va_get (D := G) (ci := 7) (v := .ref (qx 37)) (C := RX9) (T := TX9) (N := 37) hx hb hts inX9w hown hK hP 0 rfl rfl 36 (by decide) wd5 (fun _ h9 => h9) rfl dX9_copy_188 ?_
        refine lv_iload hx hb dX9_copy_191 (lv_at hl 1 rfl) ?_
        obtain ⟨g9, hf⟩ := gd hf
        refine va_dald hx hb hK hP 5 3 rfl rfl g9 dX9_copy_193 ?_
        obtain ⟨g10, hf⟩ := gd hf
        refine va_dast hx hb hK hP hD hS 5 3 rfl rfl g10 dX9_copy_194 (fun H locs hP hD hS => ?_)
        obtain ⟨v11, e_v11⟩ : ∃ z : Nat → UInt64, z = vf_upd b_x_doubles v2.toNatClampNeg (b_x_doubles v1.toNatClampNeg) := ⟨_, rfl⟩
        have hf := nm_at hf e_v11
        have hP : va_P G vwCl [(qx 0, oX9 qx x_points x_lines x_tide x_isKept x_isMuch x_sum x_once x_twice x_isTermMuch x_nodes x_newMany x_isTooGreat x_come x_foundSet), (qx 33, .inl (Y 0, 4, .inl x_sorts)), (qx 34, .inl (Y 0, 4, .inl x_sizes)), (qx 35, .inl (Y 1, 240, .inr (.inl v5))), (qx 36, .inl (Y 2, 240, .inr (.inr (.inl v8)))), (qx 37, .inl (Y 3, 240, .inr (.inr (.inr (.inl v11)))))] H := by rw [e_v11]; exact hP
        have hD : va_D A [(qx 0, oX9 qx x_points x_lines x_tide x_isKept x_isMuch x_sum x_once x_twice x_isTermMuch x_nodes x_newMany x_isTooGreat x_come x_foundSet), (qx 33, .inl (Y 0, 4, .inl x_sorts)), (qx 34, .inl (Y 0, 4, .inl x_sizes)), (qx 35, .inl (Y 1, 240, .inr (.inl v5))), (qx 36, .inl (Y 2, 240, .inr (.inr (.inl v8)))), (qx 37, .inl (Y 3, 240, .inr (.inr (.inr (.inl v11)))))] := by rw [e_v11]; exact hD
        obtain ⟨v12, e_v12⟩ : ∃ z : Int32, z = (x6 + 1) := ⟨_, rfl⟩
        have hf := nm_at hf e_v12
        refine lv_iinc (v := v12) (lv' := [(6, .int v12), (9, .int v2), (8, .int v1), (7, .int y0), (0, .ref (qx 0)), (1, .int p1), (2, .int p2), (3, .int p3), (4, .int p4), (5, .int p5)]) hx hb dX9_copy_195 hl (k := 9) rfl (by rw [e_v12]; rfl) (by decide) rfl (fun ls hl => ?_)
        refine lv_goto (tgt := 103) hx hb dX9_copy_198 (by decide) ?_
        exact ih103 v5 v8 v11 v12 hf _ _ hP hD hS ls (lv_sub hl [4, 5, 6, 7, 8, 9, 0] rfl)
      intro b_x_wholes b_x_floats b_x_doubles x6 hf H locs hP hD hS ls hl
      have hf : f_X9_copy_s103 x_sorts x_sizes p1 p2 p3 p4 p5 (f_X9_copy_b103 x_sorts x_sizes p1 p2 p3 p4 p5  n103) b_x_wholes b_x_floats b_x_doubles x6 = some (rv, o_x_wholes, o_x_floats, o_x_doubles) := hf
      unfold f_X9_copy_s103 at hf
      refine lv_iload hx hb dX9_copy_103 (lv_at hl 6 rfl) ?_
      refine lv_iload hx hb dX9_copy_105 (lv_at hl 5 rfl) ?_
      refine lv_icmp_ge (tgt := 201) hx hb dX9_copy_107 (by decide) (fun c13 => ?_) (fun c13 => ?_)
      · have hf := it hf c13
        refine lv_iload hx hb dX9_copy_201 (lv_at hl 5 rfl) ?_
        obtain ⟨e0, e1, e2, e3⟩ := rt4 hf
        have hP : va_P G vwCl [(qx 0, oX9 qx x_points x_lines x_tide x_isKept x_isMuch x_sum x_once x_twice x_isTermMuch x_nodes x_newMany x_isTooGreat x_come x_foundSet), (qx 33, .inl (Y 0, 4, .inl x_sorts)), (qx 34, .inl (Y 0, 4, .inl x_sizes)), (qx 35, .inl (Y 1, 240, .inr (.inl o_x_wholes))), (qx 36, .inl (Y 2, 240, .inr (.inr (.inl o_x_floats)))), (qx 37, .inl (Y 3, 240, .inr (.inr (.inr (.inl o_x_doubles)))))] H := by rw [← e1, ← e2, ← e3]; exact hP
        have hD : va_D A [(qx 0, oX9 qx x_points x_lines x_tide x_isKept x_isMuch x_sum x_once x_twice x_isTermMuch x_nodes x_newMany x_isTooGreat x_come x_foundSet), (qx 33, .inl (Y 0, 4, .inl x_sorts)), (qx 34, .inl (Y 0, 4, .inl x_sizes)), (qx 35, .inl (Y 1, 240, .inr (.inl o_x_wholes))), (qx 36, .inl (Y 2, 240, .inr (.inr (.inl o_x_floats)))), (qx 37, .inl (Y 3, 240, .inr (.inr (.inr (.inl o_x_doubles)))))] := by rw [← e1, ← e2, ← e3]; exact hD
        exact W.iret (v := p5) hx hb hr (fun t ht hW => ⟨⟨p5, (), rfl, e0, by rw [ht]; exact hP, va_K.moved hW.alike hK, by rw [hAe]; exact hD⟩, hS.F ht⟩) hS.2.2 dX9_copy_203
      · have hf := ie hf c13
        refine lv_iload_n hx hb dX9_copy_110 rfl (lv_at hl 2 rfl) ?_
        refine lv_iload hx hb dX9_copy_111 (lv_at hl 4 rfl) ?_
        refine lv_icmp_le (tgt := 121) hx hb dX9_copy_113 (by decide) (fun c14 => ?_) (fun c14 => ?_)
        · have hf := it hf c14
          refine lv_iload hx hb dX9_copy_121 (lv_at hl 5 rfl) ?_
          refine lv_iconst (v := 1) hx hb dX9_copy_123 (by decide) ?_
          refine lv_isub hx hb dX9_copy_124 ?_
          refine lv_iload hx hb dX9_copy_125 (lv_at hl 6 rfl) ?_
          refine lv_isub hx hb dX9_copy_127 ?_
          exact B128 b_x_wholes b_x_floats b_x_doubles x6 ((p5 - (1 : Int32)) - x6) hf _ _ hP hD hS ls (lv_sub hl [0, 1, 2, 3, 4, 5, 6] rfl)
        · have hf := ie hf c14
          refine lv_iload hx hb dX9_copy_116 (lv_at hl 6 rfl) ?_
          refine lv_goto (tgt := 128) hx hb dX9_copy_118 (by decide) ?_
          exact B128 b_x_wholes b_x_floats b_x_doubles x6 x6 hf _ _ hP hD hS ls (lv_sub hl [0, 1, 2, 3, 4, 5, 6] rfl)
  have E0 : ∀ (H : Heap) (locs : List Loc), va_P G vwCl [(qx 0, oX9 qx x_points x_lines x_tide x_isKept x_isMuch x_sum x_once x_twice x_isTermMuch x_nodes x_newMany x_isTooGreat x_come x_foundSet), (qx 33, .inl (Y 0, 4, .inl x_sorts)), (qx 34, .inl (Y 0, 4, .inl x_sizes)), (qx 35, .inl (Y 1, 240, .inr (.inl x_wholes))), (qx 36, .inl (Y 2, 240, .inr (.inr (.inl x_floats)))), (qx 37, .inl (Y 3, 240, .inr (.inr (.inr (.inl x_doubles)))))] H → va_D A [(qx 0, oX9 qx x_points x_lines x_tide x_isKept x_isMuch x_sum x_once x_twice x_isTermMuch x_nodes x_newMany x_isTooGreat x_come x_foundSet), (qx 33, .inl (Y 0, 4, .inl x_sorts)), (qx 34, .inl (Y 0, 4, .inl x_sizes)), (qx 35, .inl (Y 1, 240, .inr (.inl x_wholes))), (qx 36, .inl (Y 2, 240, .inr (.inr (.inl x_floats)))), (qx 37, .inl (Y 3, 240, .inr (.inr (.inr (.inl x_doubles)))))] → va_S A s.heap H locs → ∀ (ls : Array Slot), lv_has ls 10 [(0, .ref (qx 0)), (1, .int p1), (2, .int p2), (3, .int p3), (4, .int p4), (5, .int p5)] → W p l e (headSpec wsX9_copy (rmk 2 45)).room s m [.ref (qx 0), .int p1, .int p2, .int p3, .int p4, .int p5].toArray below meth c H locs 0 0 (MQ below (va_Qi (fun (r : Int32) (_ : Unit) => r = rv) (Pst G (tys Y) [(qx 0, oX9 qx x_points x_lines x_tide x_isKept x_isMuch x_sum x_once x_twice x_isTermMuch x_nodes x_newMany x_isTooGreat x_come x_foundSet), (qx 33, .inl (Y 0, 4, .inl x_sorts)), (qx 34, .inl (Y 0, 4, .inl x_sizes)), (qx 35, .inl (Y 1, 240, .inr (.inl x_wholes))), (qx 36, .inl (Y 2, 240, .inr (.inr (.inl x_floats)))), (qx 37, .inl (Y 3, 240, .inr (.inr (.inr (.inl x_doubles)))))] s.heap.size [(qx 0, oX9 qx x_points x_lines x_tide x_isKept x_isMuch x_sum x_once x_twice x_isTermMuch x_nodes x_newMany x_isTooGreat x_come x_foundSet), (qx 33, .inl (Y 0, 4, .inl x_sorts)), (qx 34, .inl (Y 0, 4, .inl x_sizes)), (qx 35, .inl (Y 1, 240, .inr (.inl o_x_wholes))), (qx 36, .inl (Y 2, 240, .inr (.inr (.inl o_x_floats)))), (qx 37, .inl (Y 3, 240, .inr (.inr (.inr (.inl o_x_doubles)))))]) A) [.ref (qx 0), .int p1, .int p2, .int p3, .int p4, .int p5].toArray s 0 0 A) (F0 m 0 ls []) := by
    intro H locs hP hD hS ls hl
    unfold f_X9_copy at hf
    refine lv_iload_n hx hb dX9_copy_0 rfl (lv_at hl 1 rfl) ?_
    obtain ⟨r15, hc, hf⟩ := bd1 hf
    refine cl_i (ws' := [(qx 0, oX9 qx x_points x_lines x_tide x_isKept x_isMuch x_sum x_once x_twice x_isTermMuch x_nodes x_newMany x_isTooGreat x_come x_foundSet), (qx 33, .inl (Y 0, 4, .inl x_sorts)), (qx 34, .inl (Y 0, 4, .inl x_sizes)), (qx 35, .inl (Y 1, 240, .inr (.inl x_wholes))), (qx 36, .inl (Y 2, 240, .inr (.inr (.inl x_floats)))), (qx 37, .inl (Y 3, 240, .inr (.inr (.inr (.inl x_doubles)))))]) (wr := [(qx 0, oX9 qx x_points x_lines x_tide x_isKept x_isMuch x_sum x_once x_twice x_isTermMuch x_nodes x_newMany x_isTooGreat x_come x_foundSet), (qx 33, .inl (Y 0, 4, .inl x_sorts)), (qx 34, .inl (Y 0, 4, .inl x_sizes)), (qx 35, .inl (Y 1, 240, .inr (.inl x_wholes))), (qx 36, .inl (Y 2, 240, .inr (.inr (.inl x_floats)))), (qx 37, .inl (Y 3, 240, .inr (.inr (.inr (.inl x_doubles)))))]) (rnS (As := [.int p1]) (rest := []) ⟨hx, hb, hml, hown, hts⟩ (c_X9_isSheet l G Y H.size p1 r15 hc) (va_cwS 1 hts gX9_copy_X9_isSheet rfl rfl rfl (by decide +kernel) ⟨(Nat.le_of_ble_eq_true rfl), (Nat.le_of_ble_eq_true rfl)⟩) trivial okT hK hP hD [] rfl rfl rfl hl.1 rfl (Nat.le_of_ble_eq_true rfl) dX9_copy_1) hP hD hS hA [] [0, 1, 2, 3, 4, 5] [0, 1, 2, 3, 4, 5] rfl rfl rfl (by decide) rfl rfl (fun H locs hP hD hS => ?_)
    refine lv_if_eq (tgt := 14) hx hb dX9_copy_4 (by decide) (fun c16 => ?_) (fun c16 => ?_)
    · have hf := it hf c16
      refine lv_bipush (v := -2) hx hb dX9_copy_14 (by decide) ?_
      obtain ⟨e0, e1, e2, e3⟩ := rt4 hf
      have hP : va_P G vwCl [(qx 0, oX9 qx x_points x_lines x_tide x_isKept x_isMuch x_sum x_once x_twice x_isTermMuch x_nodes x_newMany x_isTooGreat x_come x_foundSet), (qx 33, .inl (Y 0, 4, .inl x_sorts)), (qx 34, .inl (Y 0, 4, .inl x_sizes)), (qx 35, .inl (Y 1, 240, .inr (.inl o_x_wholes))), (qx 36, .inl (Y 2, 240, .inr (.inr (.inl o_x_floats)))), (qx 37, .inl (Y 3, 240, .inr (.inr (.inr (.inl o_x_doubles)))))] H := by rw [← e1, ← e2, ← e3]; exact hP
      have hD : va_D A [(qx 0, oX9 qx x_points x_lines x_tide x_isKept x_isMuch x_sum x_once x_twice x_isTermMuch x_nodes x_newMany x_isTooGreat x_come x_foundSet), (qx 33, .inl (Y 0, 4, .inl x_sorts)), (qx 34, .inl (Y 0, 4, .inl x_sizes)), (qx 35, .inl (Y 1, 240, .inr (.inl o_x_wholes))), (qx 36, .inl (Y 2, 240, .inr (.inr (.inl o_x_floats)))), (qx 37, .inl (Y 3, 240, .inr (.inr (.inr (.inl o_x_doubles)))))] := by rw [← e1, ← e2, ← e3]; exact hD
      exact W.iret (v := (-2 : Int32)) hx hb hr (fun t ht hW => ⟨⟨(-2 : Int32), (), rfl, e0, by rw [ht]; exact hP, va_K.moved hW.alike hK, by rw [hAe]; exact hD⟩, hS.F ht⟩) hS.2.2 dX9_copy_16
    · have hf := ie hf c16
      refine lv_iload_n hx hb dX9_copy_7 rfl (lv_at hl 3 rfl) ?_
      obtain ⟨r17, hc, hf⟩ := bd1 hf
      refine cl_i (ws' := [(qx 0, oX9 qx x_points x_lines x_tide x_isKept x_isMuch x_sum x_once x_twice x_isTermMuch x_nodes x_newMany x_isTooGreat x_come x_foundSet), (qx 33, .inl (Y 0, 4, .inl x_sorts)), (qx 34, .inl (Y 0, 4, .inl x_sizes)), (qx 35, .inl (Y 1, 240, .inr (.inl x_wholes))), (qx 36, .inl (Y 2, 240, .inr (.inr (.inl x_floats)))), (qx 37, .inl (Y 3, 240, .inr (.inr (.inr (.inl x_doubles)))))]) (wr := [(qx 0, oX9 qx x_points x_lines x_tide x_isKept x_isMuch x_sum x_once x_twice x_isTermMuch x_nodes x_newMany x_isTooGreat x_come x_foundSet), (qx 33, .inl (Y 0, 4, .inl x_sorts)), (qx 34, .inl (Y 0, 4, .inl x_sizes)), (qx 35, .inl (Y 1, 240, .inr (.inl x_wholes))), (qx 36, .inl (Y 2, 240, .inr (.inr (.inl x_floats)))), (qx 37, .inl (Y 3, 240, .inr (.inr (.inr (.inl x_doubles)))))]) (rnS (As := [.int p3]) (rest := []) ⟨hx, hb, hml, hown, hts⟩ (c_X9_isSheet l G Y H.size p3 r17 hc) (va_cwS 1 hts gX9_copy_X9_isSheet rfl rfl rfl (by decide +kernel) ⟨(Nat.le_of_ble_eq_true rfl), (Nat.le_of_ble_eq_true rfl)⟩) trivial okT hK hP hD [] rfl rfl rfl hl.1 rfl (Nat.le_of_ble_eq_true rfl) dX9_copy_8) hP hD hS hA [] [0, 1, 2, 3, 4, 5] [0, 1, 2, 3, 4, 5] rfl rfl rfl (by decide) rfl rfl (fun H locs hP hD hS => ?_)
      refine lv_if_ne (tgt := 17) hx hb dX9_copy_11 (by decide) (fun c18 => ?_) (fun c18 => ?_)
      · have hf := ie hf c18
        refine lv_aload_n hx hb dX9_copy_17 rfl (lv_at hl 0 rfl) ?_
        refine va_get (D := G) (ci := 7) (v := .ref (qx 33)) (C := RX9) (T := TX9) (N := 37) hx hb hts inX9w hown hK hP 0 rfl rfl 32 (by decide) wd1 (fun _ h9 => h9) rfl dX9_copy_18 ?_
        refine lv_iload_n hx hb dX9_copy_21 rfl (lv_at hl 1 rfl) ?_
        obtain ⟨g19, hf⟩ := gd hf
        refine va_iald hx hb hK hP 1 0 rfl rfl g19 dX9_copy_22 ?_
        refine lv_if_lt (tgt := 35) hx hb dX9_copy_23 (by decide) (fun c20 => ?_) (fun c20 => ?_)
        · have hf := it hf c20
          refine lv_bipush (v := -11) hx hb dX9_copy_35 (by decide) ?_
          obtain ⟨e0, e1, e2, e3⟩ := rt4 hf
          have hP : va_P G vwCl [(qx 0, oX9 qx x_points x_lines x_tide x_isKept x_isMuch x_sum x_once x_twice x_isTermMuch x_nodes x_newMany x_isTooGreat x_come x_foundSet), (qx 33, .inl (Y 0, 4, .inl x_sorts)), (qx 34, .inl (Y 0, 4, .inl x_sizes)), (qx 35, .inl (Y 1, 240, .inr (.inl o_x_wholes))), (qx 36, .inl (Y 2, 240, .inr (.inr (.inl o_x_floats)))), (qx 37, .inl (Y 3, 240, .inr (.inr (.inr (.inl o_x_doubles)))))] H := by rw [← e1, ← e2, ← e3]; exact hP
          have hD : va_D A [(qx 0, oX9 qx x_points x_lines x_tide x_isKept x_isMuch x_sum x_once x_twice x_isTermMuch x_nodes x_newMany x_isTooGreat x_come x_foundSet), (qx 33, .inl (Y 0, 4, .inl x_sorts)), (qx 34, .inl (Y 0, 4, .inl x_sizes)), (qx 35, .inl (Y 1, 240, .inr (.inl o_x_wholes))), (qx 36, .inl (Y 2, 240, .inr (.inr (.inl o_x_floats)))), (qx 37, .inl (Y 3, 240, .inr (.inr (.inr (.inl o_x_doubles)))))] := by rw [← e1, ← e2, ← e3]; exact hD
          exact W.iret (v := (-11 : Int32)) hx hb hr (fun t ht hW => ⟨⟨(-11 : Int32), (), rfl, e0, by rw [ht]; exact hP, va_K.moved hW.alike hK, by rw [hAe]; exact hD⟩, hS.F ht⟩) hS.2.2 dX9_copy_37
        · have hf := ie hf c20
          refine lv_aload_n hx hb dX9_copy_26 rfl (lv_at hl 0 rfl) ?_
          refine va_get (D := G) (ci := 7) (v := .ref (qx 33)) (C := RX9) (T := TX9) (N := 37) hx hb hts inX9w hown hK hP 0 rfl rfl 32 (by decide) wd1 (fun _ h9 => h9) rfl dX9_copy_27 ?_
          refine lv_iload_n hx hb dX9_copy_30 rfl (lv_at hl 3 rfl) ?_
          obtain ⟨g21, hf⟩ := gd hf
          refine va_iald hx hb hK hP 1 0 rfl rfl g21 dX9_copy_31 ?_
          refine lv_if_ge (tgt := 38) hx hb dX9_copy_32 (by decide) (fun c22 => ?_) (fun c22 => ?_)
          · have hf := it hf c22
            refine lv_aload_n hx hb dX9_copy_38 rfl (lv_at hl 0 rfl) ?_
            refine va_get (D := G) (ci := 7) (v := .ref (qx 33)) (C := RX9) (T := TX9) (N := 37) hx hb hts inX9w hown hK hP 0 rfl rfl 32 (by decide) wd1 (fun _ h9 => h9) rfl dX9_copy_39 ?_
            refine lv_iload_n hx hb dX9_copy_42 rfl (lv_at hl 1 rfl) ?_
            obtain ⟨g23, hf⟩ := gd hf
            refine va_iald hx hb hK hP 1 0 rfl rfl g23 dX9_copy_43 ?_
            refine lv_aload_n hx hb dX9_copy_44 rfl (lv_at hl 0 rfl) ?_
            refine va_get (D := G) (ci := 7) (v := .ref (qx 33)) (C := RX9) (T := TX9) (N := 37) hx hb hts inX9w hown hK hP 0 rfl rfl 32 (by decide) wd1 (fun _ h9 => h9) rfl dX9_copy_45 ?_
            refine lv_iload_n hx hb dX9_copy_48 rfl (lv_at hl 3 rfl) ?_
            obtain ⟨g24, hf⟩ := gd hf
            refine va_iald hx hb hK hP 1 0 rfl rfl g24 dX9_copy_49 ?_
            refine lv_icmp_eq (tgt := 56) hx hb dX9_copy_50 (by decide) (fun c25 => ?_) (fun c25 => ?_)
            · have hf := it hf c25
              refine lv_iload hx hb dX9_copy_56 (lv_at hl 5 rfl) ?_
              refine lv_if_lt (tgt := 97) hx hb dX9_copy_58 (by decide) (fun c26 => ?_) (fun c26 => ?_)
              · have hf := it hf c26
                refine lv_bipush (v := -12) hx hb dX9_copy_97 (by decide) ?_
                obtain ⟨e0, e1, e2, e3⟩ := rt4 hf
                have hP : va_P G vwCl [(qx 0, oX9 qx x_points x_lines x_tide x_isKept x_isMuch x_sum x_once x_twice x_isTermMuch x_nodes x_newMany x_isTooGreat x_come x_foundSet), (qx 33, .inl (Y 0, 4, .inl x_sorts)), (qx 34, .inl (Y 0, 4, .inl x_sizes)), (qx 35, .inl (Y 1, 240, .inr (.inl o_x_wholes))), (qx 36, .inl (Y 2, 240, .inr (.inr (.inl o_x_floats)))), (qx 37, .inl (Y 3, 240, .inr (.inr (.inr (.inl o_x_doubles)))))] H := by rw [← e1, ← e2, ← e3]; exact hP
                have hD : va_D A [(qx 0, oX9 qx x_points x_lines x_tide x_isKept x_isMuch x_sum x_once x_twice x_isTermMuch x_nodes x_newMany x_isTooGreat x_come x_foundSet), (qx 33, .inl (Y 0, 4, .inl x_sorts)), (qx 34, .inl (Y 0, 4, .inl x_sizes)), (qx 35, .inl (Y 1, 240, .inr (.inl o_x_wholes))), (qx 36, .inl (Y 2, 240, .inr (.inr (.inl o_x_floats)))), (qx 37, .inl (Y 3, 240, .inr (.inr (.inr (.inl o_x_doubles)))))] := by rw [← e1, ← e2, ← e3]; exact hD
                exact W.iret (v := (-12 : Int32)) hx hb hr (fun t ht hW => ⟨⟨(-12 : Int32), (), rfl, e0, by rw [ht]; exact hP, va_K.moved hW.alike hK, by rw [hAe]; exact hD⟩, hS.F ht⟩) hS.2.2 dX9_copy_99
              · have hf := ie hf c26
                refine lv_iload_n hx hb dX9_copy_61 rfl (lv_at hl 2 rfl) ?_
                refine lv_if_lt (tgt := 97) hx hb dX9_copy_62 (by decide) (fun c27 => ?_) (fun c27 => ?_)
                · have hf := it hf c27
                  refine lv_bipush (v := -12) hx hb dX9_copy_97 (by decide) ?_
                  obtain ⟨e0, e1, e2, e3⟩ := rt4 hf
                  have hP : va_P G vwCl [(qx 0, oX9 qx x_points x_lines x_tide x_isKept x_isMuch x_sum x_once x_twice x_isTermMuch x_nodes x_newMany x_isTooGreat x_come x_foundSet), (qx 33, .inl (Y 0, 4, .inl x_sorts)), (qx 34, .inl (Y 0, 4, .inl x_sizes)), (qx 35, .inl (Y 1, 240, .inr (.inl o_x_wholes))), (qx 36, .inl (Y 2, 240, .inr (.inr (.inl o_x_floats)))), (qx 37, .inl (Y 3, 240, .inr (.inr (.inr (.inl o_x_doubles)))))] H := by rw [← e1, ← e2, ← e3]; exact hP
                  have hD : va_D A [(qx 0, oX9 qx x_points x_lines x_tide x_isKept x_isMuch x_sum x_once x_twice x_isTermMuch x_nodes x_newMany x_isTooGreat x_come x_foundSet), (qx 33, .inl (Y 0, 4, .inl x_sorts)), (qx 34, .inl (Y 0, 4, .inl x_sizes)), (qx 35, .inl (Y 1, 240, .inr (.inl o_x_wholes))), (qx 36, .inl (Y 2, 240, .inr (.inr (.inl o_x_floats)))), (qx 37, .inl (Y 3, 240, .inr (.inr (.inr (.inl o_x_doubles)))))] := by rw [← e1, ← e2, ← e3]; exact hD
                  exact W.iret (v := (-12 : Int32)) hx hb hr (fun t ht hW => ⟨⟨(-12 : Int32), (), rfl, e0, by rw [ht]; exact hP, va_K.moved hW.alike hK, by rw [hAe]; exact hD⟩, hS.F ht⟩) hS.2.2 dX9_copy_99
                · have hf := ie hf c27
                  refine lv_iload hx hb dX9_copy_65 (lv_at hl 4 rfl) ?_
                  refine lv_if_lt (tgt := 97) hx hb dX9_copy_67 (by decide) (fun c28 => ?_) (fun c28 => ?_)
                  · have hf := it hf c28
                    refine lv_bipush (v := -12) hx hb dX9_copy_97 (by decide) ?_
                    obtain ⟨e0, e1, e2, e3⟩ := rt4 hf
                    have hP : va_P G vwCl [(qx 0, oX9 qx x_points x_lines x_tide x_isKept x_isMuch x_sum x_once x_twice x_isTermMuch x_nodes x_newMany x_isTooGreat x_come x_foundSet), (qx 33, .inl (Y 0, 4, .inl x_sorts)), (qx 34, .inl (Y 0, 4, .inl x_sizes)), (qx 35, .inl (Y 1, 240, .inr (.inl o_x_wholes))), (qx 36, .inl (Y 2, 240, .inr (.inr (.inl o_x_floats)))), (qx 37, .inl (Y 3, 240, .inr (.inr (.inr (.inl o_x_doubles)))))] H := by rw [← e1, ← e2, ← e3]; exact hP
                    have hD : va_D A [(qx 0, oX9 qx x_points x_lines x_tide x_isKept x_isMuch x_sum x_once x_twice x_isTermMuch x_nodes x_newMany x_isTooGreat x_come x_foundSet), (qx 33, .inl (Y 0, 4, .inl x_sorts)), (qx 34, .inl (Y 0, 4, .inl x_sizes)), (qx 35, .inl (Y 1, 240, .inr (.inl o_x_wholes))), (qx 36, .inl (Y 2, 240, .inr (.inr (.inl o_x_floats)))), (qx 37, .inl (Y 3, 240, .inr (.inr (.inr (.inl o_x_doubles)))))] := by rw [← e1, ← e2, ← e3]; exact hD
                    exact W.iret (v := (-12 : Int32)) hx hb hr (fun t ht hW => ⟨⟨(-12 : Int32), (), rfl, e0, by rw [ht]; exact hP, va_K.moved hW.alike hK, by rw [hAe]; exact hD⟩, hS.F ht⟩) hS.2.2 dX9_copy_99
                  · have hf := ie hf c28
                    refine lv_iload hx hb dX9_copy_70 (lv_at hl 5 rfl) ?_
                    refine lv_aload_n hx hb dX9_copy_72 rfl (lv_at hl 0 rfl) ?_
                    refine va_get (D := G) (ci := 7) (v := .ref (qx 34)) (C := RX9) (T := TX9) (N := 37) hx hb hts inX9w hown hK hP 0 rfl rfl 33 (by decide) wd2 (fun _ h9 => h9) rfl dX9_copy_73 ?_
                    refine lv_iload_n hx hb dX9_copy_76 rfl (lv_at hl 1 rfl) ?_
                    obtain ⟨g29, hf⟩ := gd hf
                    refine va_iald hx hb hK hP 2 0 rfl rfl g29 dX9_copy_77 ?_
                    refine lv_iload_n hx hb dX9_copy_78 rfl (lv_at hl 2 rfl) ?_
                    refine lv_isub hx hb dX9_copy_79 ?_
                    refine lv_icmp_gt (tgt := 97) hx hb dX9_copy_80 (by decide) (fun c30 => ?_) (fun c30 => ?_)
                    · have hf := it hf c30
                      refine lv_bipush (v := -12) hx hb dX9_copy_97 (by decide) ?_
                      obtain ⟨e0, e1, e2, e3⟩ := rt4 hf
                      have hP : va_P G vwCl [(qx 0, oX9 qx x_points x_lines x_tide x_isKept x_isMuch x_sum x_once x_twice x_isTermMuch x_nodes x_newMany x_isTooGreat x_come x_foundSet), (qx 33, .inl (Y 0, 4, .inl x_sorts)), (qx 34, .inl (Y 0, 4, .inl x_sizes)), (qx 35, .inl (Y 1, 240, .inr (.inl o_x_wholes))), (qx 36, .inl (Y 2, 240, .inr (.inr (.inl o_x_floats)))), (qx 37, .inl (Y 3, 240, .inr (.inr (.inr (.inl o_x_doubles)))))] H := by rw [← e1, ← e2, ← e3]; exact hP
                      have hD : va_D A [(qx 0, oX9 qx x_points x_lines x_tide x_isKept x_isMuch x_sum x_once x_twice x_isTermMuch x_nodes x_newMany x_isTooGreat x_come x_foundSet), (qx 33, .inl (Y 0, 4, .inl x_sorts)), (qx 34, .inl (Y 0, 4, .inl x_sizes)), (qx 35, .inl (Y 1, 240, .inr (.inl o_x_wholes))), (qx 36, .inl (Y 2, 240, .inr (.inr (.inl o_x_floats)))), (qx 37, .inl (Y 3, 240, .inr (.inr (.inr (.inl o_x_doubles)))))] := by rw [← e1, ← e2, ← e3]; exact hD
                      exact W.iret (v := (-12 : Int32)) hx hb hr (fun t ht hW => ⟨⟨(-12 : Int32), (), rfl, e0, by rw [ht]; exact hP, va_K.moved hW.alike hK, by rw [hAe]; exact hD⟩, hS.F ht⟩) hS.2.2 dX9_copy_99
                    · have hf := ie hf c30
                      refine lv_iload hx hb dX9_copy_83 (lv_at hl 5 rfl) ?_
                      refine lv_aload_n hx hb dX9_copy_85 rfl (lv_at hl 0 rfl) ?_
                      refine va_get (D := G) (ci := 7) (v := .ref (qx 34)) (C := RX9) (T := TX9) (N := 37) hx hb hts inX9w hown hK hP 0 rfl rfl 33 (by decide) wd2 (fun _ h9 => h9) rfl dX9_copy_86 ?_
                      refine lv_iload_n hx hb dX9_copy_89 rfl (lv_at hl 3 rfl) ?_
                      obtain ⟨g31, hf⟩ := gd hf
                      refine va_iald hx hb hK hP 2 0 rfl rfl g31 dX9_copy_90 ?_
                      refine lv_iload hx hb dX9_copy_91 (lv_at hl 4 rfl) ?_
                      refine lv_isub hx hb dX9_copy_93 ?_
                      refine lv_icmp_le (tgt := 100) hx hb dX9_copy_94 (by decide) (fun c32 => ?_) (fun c32 => ?_)
                      · have hf := it hf c32
                        refine lv_iconst (v := 0) hx hb dX9_copy_100 (by decide) ?_
                        refine lv_istore (lv' := [(6, .int (0 : Int32)), (0, .ref (qx 0)), (1, .int p1), (2, .int p2), (3, .int p3), (4, .int p4), (5, .int p5)]) hx hb dX9_copy_101 hl (by decide) rfl (fun ls hl => ?_)
                        exact B103 70 x_wholes x_floats x_doubles (0 : Int32) hf _ _ hP hD hS ls (lv_sub hl [1, 2, 3, 4, 5, 6, 0] rfl)
                      · have hf := ie hf c32
                        refine lv_bipush (v := -12) hx hb dX9_copy_97 (by decide) ?_
                        obtain ⟨e0, e1, e2, e3⟩ := rt4 hf
                        have hP : va_P G vwCl [(qx 0, oX9 qx x_points x_lines x_tide x_isKept x_isMuch x_sum x_once x_twice x_isTermMuch x_nodes x_newMany x_isTooGreat x_come x_foundSet), (qx 33, .inl (Y 0, 4, .inl x_sorts)), (qx 34, .inl (Y 0, 4, .inl x_sizes)), (qx 35, .inl (Y 1, 240, .inr (.inl o_x_wholes))), (qx 36, .inl (Y 2, 240, .inr (.inr (.inl o_x_floats)))), (qx 37, .inl (Y 3, 240, .inr (.inr (.inr (.inl o_x_doubles)))))] H := by rw [← e1, ← e2, ← e3]; exact hP
                        have hD : va_D A [(qx 0, oX9 qx x_points x_lines x_tide x_isKept x_isMuch x_sum x_once x_twice x_isTermMuch x_nodes x_newMany x_isTooGreat x_come x_foundSet), (qx 33, .inl (Y 0, 4, .inl x_sorts)), (qx 34, .inl (Y 0, 4, .inl x_sizes)), (qx 35, .inl (Y 1, 240, .inr (.inl o_x_wholes))), (qx 36, .inl (Y 2, 240, .inr (.inr (.inl o_x_floats)))), (qx 37, .inl (Y 3, 240, .inr (.inr (.inr (.inl o_x_doubles)))))] := by rw [← e1, ← e2, ← e3]; exact hD
                        exact W.iret (v := (-12 : Int32)) hx hb hr (fun t ht hW => ⟨⟨(-12 : Int32), (), rfl, e0, by rw [ht]; exact hP, va_K.moved hW.alike hK, by rw [hAe]; exact hD⟩, hS.F ht⟩) hS.2.2 dX9_copy_99
            · have hf := ie hf c25
              refine lv_bipush (v := -13) hx hb dX9_copy_53 (by decide) ?_
              obtain ⟨e0, e1, e2, e3⟩ := rt4 hf
              have hP : va_P G vwCl [(qx 0, oX9 qx x_points x_lines x_tide x_isKept x_isMuch x_sum x_once x_twice x_isTermMuch x_nodes x_newMany x_isTooGreat x_come x_foundSet), (qx 33, .inl (Y 0, 4, .inl x_sorts)), (qx 34, .inl (Y 0, 4, .inl x_sizes)), (qx 35, .inl (Y 1, 240, .inr (.inl o_x_wholes))), (qx 36, .inl (Y 2, 240, .inr (.inr (.inl o_x_floats)))), (qx 37, .inl (Y 3, 240, .inr (.inr (.inr (.inl o_x_doubles)))))] H := by rw [← e1, ← e2, ← e3]; exact hP
              have hD : va_D A [(qx 0, oX9 qx x_points x_lines x_tide x_isKept x_isMuch x_sum x_once x_twice x_isTermMuch x_nodes x_newMany x_isTooGreat x_come x_foundSet), (qx 33, .inl (Y 0, 4, .inl x_sorts)), (qx 34, .inl (Y 0, 4, .inl x_sizes)), (qx 35, .inl (Y 1, 240, .inr (.inl o_x_wholes))), (qx 36, .inl (Y 2, 240, .inr (.inr (.inl o_x_floats)))), (qx 37, .inl (Y 3, 240, .inr (.inr (.inr (.inl o_x_doubles)))))] := by rw [← e1, ← e2, ← e3]; exact hD
              exact W.iret (v := (-13 : Int32)) hx hb hr (fun t ht hW => ⟨⟨(-13 : Int32), (), rfl, e0, by rw [ht]; exact hP, va_K.moved hW.alike hK, by rw [hAe]; exact hD⟩, hS.F ht⟩) hS.2.2 dX9_copy_55
          · have hf := ie hf c22
            refine lv_bipush (v := -11) hx hb dX9_copy_35 (by decide) ?_
            obtain ⟨e0, e1, e2, e3⟩ := rt4 hf
            have hP : va_P G vwCl [(qx 0, oX9 qx x_points x_lines x_tide x_isKept x_isMuch x_sum x_once x_twice x_isTermMuch x_nodes x_newMany x_isTooGreat x_come x_foundSet), (qx 33, .inl (Y 0, 4, .inl x_sorts)), (qx 34, .inl (Y 0, 4, .inl x_sizes)), (qx 35, .inl (Y 1, 240, .inr (.inl o_x_wholes))), (qx 36, .inl (Y 2, 240, .inr (.inr (.inl o_x_floats)))), (qx 37, .inl (Y 3, 240, .inr (.inr (.inr (.inl o_x_doubles)))))] H := by rw [← e1, ← e2, ← e3]; exact hP
            have hD : va_D A [(qx 0, oX9 qx x_points x_lines x_tide x_isKept x_isMuch x_sum x_once x_twice x_isTermMuch x_nodes x_newMany x_isTooGreat x_come x_foundSet), (qx 33, .inl (Y 0, 4, .inl x_sorts)), (qx 34, .inl (Y 0, 4, .inl x_sizes)), (qx 35, .inl (Y 1, 240, .inr (.inl o_x_wholes))), (qx 36, .inl (Y 2, 240, .inr (.inr (.inl o_x_floats)))), (qx 37, .inl (Y 3, 240, .inr (.inr (.inr (.inl o_x_doubles)))))] := by rw [← e1, ← e2, ← e3]; exact hD
            exact W.iret (v := (-11 : Int32)) hx hb hr (fun t ht hW => ⟨⟨(-11 : Int32), (), rfl, e0, by rw [ht]; exact hP, va_K.moved hW.alike hK, by rw [hAe]; exact hD⟩, hS.F ht⟩) hS.2.2 dX9_copy_37
      · have hf := it hf c18
        refine lv_bipush (v := -2) hx hb dX9_copy_14 (by decide) ?_
        obtain ⟨e0, e1, e2, e3⟩ := rt4 hf
        have hP : va_P G vwCl [(qx 0, oX9 qx x_points x_lines x_tide x_isKept x_isMuch x_sum x_once x_twice x_isTermMuch x_nodes x_newMany x_isTooGreat x_come x_foundSet), (qx 33, .inl (Y 0, 4, .inl x_sorts)), (qx 34, .inl (Y 0, 4, .inl x_sizes)), (qx 35, .inl (Y 1, 240, .inr (.inl o_x_wholes))), (qx 36, .inl (Y 2, 240, .inr (.inr (.inl o_x_floats)))), (qx 37, .inl (Y 3, 240, .inr (.inr (.inr (.inl o_x_doubles)))))] H := by rw [← e1, ← e2, ← e3]; exact hP
        have hD : va_D A [(qx 0, oX9 qx x_points x_lines x_tide x_isKept x_isMuch x_sum x_once x_twice x_isTermMuch x_nodes x_newMany x_isTooGreat x_come x_foundSet), (qx 33, .inl (Y 0, 4, .inl x_sorts)), (qx 34, .inl (Y 0, 4, .inl x_sizes)), (qx 35, .inl (Y 1, 240, .inr (.inl o_x_wholes))), (qx 36, .inl (Y 2, 240, .inr (.inr (.inl o_x_floats)))), (qx 37, .inl (Y 3, 240, .inr (.inr (.inr (.inl o_x_doubles)))))] := by rw [← e1, ← e2, ← e3]; exact hD
        exact W.iret (v := (-2 : Int32)) hx hb hr (fun t ht hW => ⟨⟨(-2 : Int32), (), rfl, e0, by rw [ht]; exact hP, va_K.moved hW.alike hK, by rw [hAe]; exact hD⟩, hS.F ht⟩) hS.2.2 dX9_copy_16
  exact E0 s.heap [] hP hD hS ls hl
