-- X9_other
set_option maxRecDepth 100000 in
set_option maxHeartbeats 4000000 in
theorem c_X9_other (l : Launch) (G : va_G) (Y : Nat → ClassId) (sz : Nat) (qx : Nat → Nat) (x_points : Int32) (x_lines : Int32) (x_tide : Int32) (x_kind : Nat → Int32) (x_figure : Nat → Int32) (x_low : Nat → Int32) (x_high : Nat → Int32) (x_isKept : Int32) (x_table : Nat → Int64) (x_count : Nat → Int64) (x_heavy : Nat → Int32) (x_isMuch : Int32) (x_sum : Int64) (x_once : Int64) (x_twice : Int64) (x_isTermMuch : Int32) (x_nodes : Int32) (x_newMany : Int32) (x_isTooGreat : Int32) (x_come : Int32) (x_foundSet : Int64) (p1 : Int32) (rv : Int64) (o_x_table : Nat → Int64) (o_x_count : Nat → Int64) (o_x_heavy : Nat → Int32) (o_x_isMuch : Int32) (hf : f_X9_other x_points x_lines x_tide x_kind x_figure x_low x_high x_table x_count x_heavy x_isMuch p1 = some (rv, o_x_table, o_x_count, o_x_heavy, o_x_isMuch)) : Met l yX9_other wsX9_other (rmk 3 73) (va_Pc [.ref (qx 0), .int p1] (Pre G (tys Y) [(qx 0, oX9 qx x_points x_lines x_tide x_isKept x_isMuch x_sum x_once x_twice x_isTermMuch x_nodes x_newMany x_isTooGreat x_come x_foundSet), (qx 4, .inl (Y 0, 40, .inl x_kind)), (qx 5, .inl (Y 0, 40, .inl x_figure)), (qx 6, .inl (Y 0, 40, .inl x_low)), (qx 7, .inl (Y 0, 40, .inl x_high)), (qx 10, .inl (Y 1, 28672, .inr (.inl x_table))), (qx 11, .inl (Y 1, 7, .inr (.inl x_count))), (qx 12, .inl (Y 0, 144, .inl x_heavy))] sz xT)) (va_Ql (fun (r : Int64) (_ : Unit) => r = rv) (Pst G (tys Y) [(qx 0, oX9 qx x_points x_lines x_tide x_isKept x_isMuch x_sum x_once x_twice x_isTermMuch x_nodes x_newMany x_isTooGreat x_come x_foundSet), (qx 4, .inl (Y 0, 40, .inl x_kind)), (qx 5, .inl (Y 0, 40, .inl x_figure)), (qx 6, .inl (Y 0, 40, .inl x_low)), (qx 7, .inl (Y 0, 40, .inl x_high)), (qx 10, .inl (Y 1, 28672, .inr (.inl x_table))), (qx 11, .inl (Y 1, 7, .inr (.inl x_count))), (qx 12, .inl (Y 0, 144, .inl x_heavy))] sz [(qx 0, oX9 qx x_points x_lines x_tide x_isKept o_x_isMuch x_sum x_once x_twice x_isTermMuch x_nodes x_newMany x_isTooGreat x_come x_foundSet), (qx 4, .inl (Y 0, 40, .inl x_kind)), (qx 5, .inl (Y 0, 40, .inl x_figure)), (qx 6, .inl (Y 0, 40, .inl x_low)), (qx 7, .inl (Y 0, 40, .inl x_high)), (qx 10, .inl (Y 1, 28672, .inr (.inl o_x_table))), (qx 11, .inl (Y 1, 7, .inr (.inl o_x_count))), (qx 12, .inl (Y 0, 144, .inl o_x_heavy))]) (va_A [(qx 0, oX9 qx x_points x_lines x_tide x_isKept x_isMuch x_sum x_once x_twice x_isTermMuch x_nodes x_newMany x_isTooGreat x_come x_foundSet), (qx 4, .inl (Y 0, 40, .inl x_kind)), (qx 5, .inl (Y 0, 40, .inl x_figure)), (qx 6, .inl (Y 0, 40, .inl x_low)), (qx 7, .inl (Y 0, 40, .inl x_high)), (qx 10, .inl (Y 1, 28672, .inr (.inl x_table))), (qx 11, .inl (Y 1, 7, .inr (.inl x_count))), (qx 12, .inl (Y 0, 144, .inl x_heavy))] sz)) 0 0 (va_A [(qx 0, oX9 qx x_points x_lines x_tide x_isKept x_isMuch x_sum x_once x_twice x_isTermMuch x_nodes x_newMany x_isTooGreat x_come x_foundSet), (qx 4, .inl (Y 0, 40, .inl x_kind)), (qx 5, .inl (Y 0, 40, .inl x_figure)), (qx 6, .inl (Y 0, 40, .inl x_low)), (qx 7, .inl (Y 0, 40, .inl x_high)), (qx 10, .inl (Y 1, 28672, .inr (.inl x_table))), (qx 11, .inl (Y 1, 7, .inr (.inl x_count))), (qx 12, .inl (Y 0, 144, .inl x_heavy))] sz) := by
  refine Met.ofW (cc := cX9_other) (maxL := 2) (ret := (some .long)) (by decide) rfl ?_
  intro p e s m args below meth c s₁ B hml hv
  obtain ⟨rfl, hsz, hP, hK, hD0, hX⟩ := hv
  have hx := B.exec
  have hb := B.bytes
  have hr := B.returns
  have hts := atoms_spec (ws := wsX9_other) B.pre
  have hown : s.vm.findClass RX9 = some m.cls := findClass_of_methodNamed B.named
  have hlocks := B.notSynchronized
  subst hsz
  have hD := hD0.self (sz := s.heap.size)
  generalize hAe : va_A [(qx 0, oX9 qx x_points x_lines x_tide x_isKept x_isMuch x_sum x_once x_twice x_isTermMuch x_nodes x_newMany x_isTooGreat x_come x_foundSet), (qx 4, .inl (Y 0, 40, .inl x_kind)), (qx 5, .inl (Y 0, 40, .inl x_figure)), (qx 6, .inl (Y 0, 40, .inl x_low)), (qx 7, .inl (Y 0, 40, .inl x_high)), (qx 10, .inl (Y 1, 28672, .inr (.inl x_table))), (qx 11, .inl (Y 1, 7, .inr (.inl x_count))), (qx 12, .inl (Y 0, 144, .inl x_heavy))] s.heap.size = A at hD ⊢
  have hA : ∀ q : Nat, s.heap.size ≤ q → A q := fun q h => by rw [← hAe]; exact Or.inr h
  have hS : va_S A s.heap s.heap [] := va_S.rf
  have hP : va_P G vwCl [(qx 0, oX9 qx x_points x_lines x_tide x_isKept x_isMuch x_sum x_once x_twice x_isTermMuch x_nodes x_newMany x_isTooGreat x_come x_foundSet), (qx 4, .inl (Y 0, 40, .inl x_kind)), (qx 5, .inl (Y 0, 40, .inl x_figure)), (qx 6, .inl (Y 0, 40, .inl x_low)), (qx 7, .inl (Y 0, 40, .inl x_high)), (qx 10, .inl (Y 1, 28672, .inr (.inl x_table))), (qx 11, .inl (Y 1, 7, .inr (.inl x_count))), (qx 12, .inl (Y 0, 144, .inl x_heavy))] s.heap := hP
  have wd1 : (Cond.constantLong RX9 172 (6)).before [.ref (qx 0), .int p1].toArray s = true := hts _ (List.mem_of_getElem? (i := 1) rfl)
  have wd2 : (Cond.fieldLink RX9 29 "PairedLinesModel" "count" "[J").before [.ref (qx 0), .int p1].toArray s = true := hts _ (List.mem_of_getElem? (i := 2) rfl)
  have inX9w : ∀ w ∈ u_ws RX9 TX9 37, w ∈ wsX9_other := fun w hw => List.mem_cons_of_mem _ (List.mem_append_right _ (hw))
  have hl := lv_entry ([.ref (qx 0), .int p1]) (n := 2) (Nat.le_of_ble_eq_true rfl)
  rw [lg_entry_eq]
  generalize (lg_sl ([.ref (qx 0), .int p1]) ++ List.replicate (2 - (lg_sl ([.ref (qx 0), .int p1])).length) Slot.unset).toArray = ls at hl ⊢
  have hl : lv_has ls 2 [(0, .ref (qx 0)), (1, .int p1)] := hl
  have E0 : ∀ (H : Heap) (locs : List Loc), va_P G vwCl [(qx 0, oX9 qx x_points x_lines x_tide x_isKept x_isMuch x_sum x_once x_twice x_isTermMuch x_nodes x_newMany x_isTooGreat x_come x_foundSet), (qx 4, .inl (Y 0, 40, .inl x_kind)), (qx 5, .inl (Y 0, 40, .inl x_figure)), (qx 6, .inl (Y 0, 40, .inl x_low)), (qx 7, .inl (Y 0, 40, .inl x_high)), (qx 10, .inl (Y 1, 28672, .inr (.inl x_table))), (qx 11, .inl (Y 1, 7, .inr (.inl x_count))), (qx 12, .inl (Y 0, 144, .inl x_heavy))] H → va_D A [(qx 0, oX9 qx x_points x_lines x_tide x_isKept x_isMuch x_sum x_once x_twice x_isTermMuch x_nodes x_newMany x_isTooGreat x_come x_foundSet), (qx 4, .inl (Y 0, 40, .inl x_kind)), (qx 5, .inl (Y 0, 40, .inl x_figure)), (qx 6, .inl (Y 0, 40, .inl x_low)), (qx 7, .inl (Y 0, 40, .inl x_high)), (qx 10, .inl (Y 1, 28672, .inr (.inl x_table))), (qx 11, .inl (Y 1, 7, .inr (.inl x_count))), (qx 12, .inl (Y 0, 144, .inl x_heavy))] → va_S A s.heap H locs → ∀ (ls : Array Slot), lv_has ls 2 [(0, .ref (qx 0)), (1, .int p1)] → W p l e (headSpec wsX9_other (rmk 3 73)).room s m [.ref (qx 0), .int p1].toArray below meth c H locs 0 0 (MQ below (va_Ql (fun (r : Int64) (_ : Unit) => r = rv) (Pst G (tys Y) [(qx 0, oX9 qx x_points x_lines x_tide x_isKept x_isMuch x_sum x_once x_twice x_isTermMuch x_nodes x_newMany x_isTooGreat x_come x_foundSet), (qx 4, .inl (Y 0, 40, .inl x_kind)), (qx 5, .inl (Y 0, 40, .inl x_figure)), (qx 6, .inl (Y 0, 40, .inl x_low)), (qx 7, .inl (Y 0, 40, .inl x_high)), (qx 10, .inl (Y 1, 28672, .inr (.inl x_table))), (qx 11, .inl (Y 1, 7, .inr (.inl x_count))), (qx 12, .inl (Y 0, 144, .inl x_heavy))] s.heap.size [(qx 0, oX9 qx x_points x_lines x_tide x_isKept o_x_isMuch x_sum x_once x_twice x_isTermMuch x_nodes x_newMany x_isTooGreat x_come x_foundSet), (qx 4, .inl (Y 0, 40, .inl x_kind)), (qx 5, .inl (Y 0, 40, .inl x_figure)), (qx 6, .inl (Y 0, 40, .inl x_low)), (qx 7, .inl (Y 0, 40, .inl x_high)), (qx 10, .inl (Y 1, 28672, .inr (.inl o_x_table))), (qx 11, .inl (Y 1, 7, .inr (.inl o_x_count))), (qx 12, .inl (Y 0, 144, .inl o_x_heavy))]) A) [.ref (qx 0), .int p1].toArray s 0 0 A) (F0 m 0 ls []) := by
    intro H locs hP hD hS ls hl
    unfold f_X9_other at hf
    refine lv_iload_n hx hb dX9_other_0 rfl (lv_at hl 1 rfl) ?_
    refine lv_i2l hx hb dX9_other_1 rfl ?_
    refine lv_lconst (v := 0) hx hb dX9_other_2 (by decide) ?_
    refine lv_ldc2 hx hb hown wd1 dX9_other_3 ?_
    obtain ⟨r1, hc, hf⟩ := bd1 hf
    refine cl_i (ws' := [(qx 0, oX9 qx x_points x_lines x_tide x_isKept x_isMuch x_sum x_once x_twice x_isTermMuch x_nodes x_newMany x_isTooGreat x_come x_foundSet), (qx 4, .inl (Y 0, 40, .inl x_kind)), (qx 5, .inl (Y 0, 40, .inl x_figure)), (qx 6, .inl (Y 0, 40, .inl x_low)), (qx 7, .inl (Y 0, 40, .inl x_high)), (qx 10, .inl (Y 1, 28672, .inr (.inl x_table))), (qx 11, .inl (Y 1, 7, .inr (.inl x_count))), (qx 12, .inl (Y 0, 144, .inl x_heavy))]) (wr := [(qx 0, oX9 qx x_points x_lines x_tide x_isKept x_isMuch x_sum x_once x_twice x_isTermMuch x_nodes x_newMany x_isTooGreat x_come x_foundSet), (qx 4, .inl (Y 0, 40, .inl x_kind)), (qx 5, .inl (Y 0, 40, .inl x_figure)), (qx 6, .inl (Y 0, 40, .inl x_low)), (qx 7, .inl (Y 0, 40, .inl x_high)), (qx 10, .inl (Y 1, 28672, .inr (.inl x_table))), (qx 11, .inl (Y 1, 7, .inr (.inl x_count))), (qx 12, .inl (Y 0, 144, .inl x_heavy))]) (rnS (As := [.long p1.toInt64, .long (0 : Int64), .long (6 : Int64)]) (rest := []) ⟨hx, hb, hml, hown, hts⟩ (c_X9_in l G Y H.size p1.toInt64 (0 : Int64) (6 : Int64) r1 hc) (va_cwS 3 hts gX9_other_X9_in rfl rfl rfl (by decide +kernel) ⟨(Nat.le_of_ble_eq_true rfl), (Nat.le_of_ble_eq_true rfl)⟩) trivial okT hK hP hD [] rfl rfl rfl hl.1 rfl (Nat.le_of_ble_eq_true rfl) dX9_other_6) hP hD hS hA [] [0, 1, 2, 3, 4, 5, 6, 7] [0, 1, 2, 3, 4, 5, 6, 7] rfl rfl rfl (by decide) rfl rfl (fun H locs hP hD hS => ?_)
    refine lv_if_ne (tgt := 18) hx hb dX9_other_9 (by decide) (fun c2 => ?_) (fun c2 => ?_)
    · have hf := ie hf c2
      refine lv_aload_n hx hb dX9_other_18 rfl (lv_at hl 0 rfl) ?_
      refine lv_iconst (v := 1) hx hb dX9_other_19 (by decide) ?_
      obtain ⟨w3, hc, hf⟩ := bd1 hf
      refine cl_v (ws' := [(qx 0, oX9 qx x_points x_lines x_tide x_isKept x_isMuch x_sum x_once x_twice x_isTermMuch x_nodes x_newMany x_isTooGreat x_come x_foundSet), (qx 4, .inl (Y 0, 40, .inl x_kind)), (qx 5, .inl (Y 0, 40, .inl x_figure)), (qx 6, .inl (Y 0, 40, .inl x_low)), (qx 7, .inl (Y 0, 40, .inl x_high)), (qx 10, .inl (Y 1, 28672, .inr (.inl x_table))), (qx 11, .inl (Y 1, 7, .inr (.inl x_count))), (qx 12, .inl (Y 0, 144, .inl w3))]) (wr := [(qx 10, .inl (Y 1, 28672, .inr (.inl x_table))), (qx 11, .inl (Y 1, 7, .inr (.inl x_count)))]) (rnV (As := [.int (1 : Int32)]) (rest := []) ⟨hx, hb, hml, hown, hts⟩ (c_X9_lays l G Y H.size qx x_points x_lines x_tide x_kind x_figure x_low x_high x_isKept x_heavy x_isMuch x_sum x_once x_twice x_isTermMuch x_nodes x_newMany x_isTooGreat x_come x_foundSet (1 : Int32) w3 hc) (cwV 1 hts gX9_other_X9_lays rfl rfl rfl (by decide +kernel) ⟨(Nat.le_of_ble_eq_true rfl), (Nat.le_of_ble_eq_true rfl)⟩) trivial okT hK hP hD [0, 1, 2, 3, 4, 7] rfl rfl (ci := 7) (q0 := 0) rfl rfl rfl rfl hl.1 rfl (Nat.le_of_ble_eq_true rfl) dX9_other_20) hP hD hS hA [0, 1, 2, 3, 4, 7] [5, 6] [2, 3, 4, 5, 6, 0, 1, 7] rfl rfl rfl (by decide) rfl rfl (fun H locs hP hD hS => ?_)
      refine lv_aload_n hx hb dX9_other_23 rfl (lv_at hl 0 rfl) ?_
      refine lv_aload_n hx hb dX9_other_24 rfl (lv_at hl 0 rfl) ?_
      refine lv_iconst (v := 0) hx hb dX9_other_25 (by decide) ?_
      obtain ⟨r4, hc, hf⟩ := bd1 hf
      refine cl_i (ws' := [(qx 0, oX9 qx x_points x_lines x_tide x_isKept x_isMuch x_sum x_once x_twice x_isTermMuch x_nodes x_newMany x_isTooGreat x_come x_foundSet), (qx 4, .inl (Y 0, 40, .inl x_kind)), (qx 5, .inl (Y 0, 40, .inl x_figure)), (qx 6, .inl (Y 0, 40, .inl x_low)), (qx 7, .inl (Y 0, 40, .inl x_high)), (qx 10, .inl (Y 1, 28672, .inr (.inl x_table))), (qx 11, .inl (Y 1, 7, .inr (.inl x_count))), (qx 12, .inl (Y 0, 144, .inl w3))]) (wr := [(qx 4, .inl (Y 0, 40, .inl x_kind)), (qx 5, .inl (Y 0, 40, .inl x_figure)), (qx 6, .inl (Y 0, 40, .inl x_low)), (qx 7, .inl (Y 0, 40, .inl x_high)), (qx 10, .inl (Y 1, 28672, .inr (.inl x_table))), (qx 11, .inl (Y 1, 7, .inr (.inl x_count))), (qx 12, .inl (Y 0, 144, .inl w3))]) (rnV (As := [.int (0 : Int32)]) (rest := [.ref (qx 0)]) ⟨hx, hb, hml, hown, hts⟩ (c_X9_free l G Y H.size qx x_points x_lines x_tide x_isKept x_isMuch x_sum x_once x_twice x_isTermMuch x_nodes x_newMany x_isTooGreat x_come x_foundSet (0 : Int32) r4 hc) (cwV 1 hts gX9_other_X9_free rfl rfl rfl (by decide +kernel) ⟨(Nat.le_of_ble_eq_true rfl), (Nat.le_of_ble_eq_true rfl)⟩) trivial okT hK hP hD [0] rfl rfl (ci := 7) (q0 := 0) rfl rfl rfl rfl hl.1 rfl (Nat.le_of_ble_eq_true rfl) dX9_other_26) hP hD hS hA [0] [1, 2, 3, 4, 5, 6, 7] [7, 0, 1, 2, 3, 4, 5, 6] rfl rfl rfl (by decide) rfl rfl (fun H locs hP hD hS => ?_)
      obtain ⟨w5, w6, w7, hc, hf⟩ := bd3 hf
      refine cl_v (ws' := [(qx 0, oX9 qx x_points x_lines x_tide x_isKept w7 x_sum x_once x_twice x_isTermMuch x_nodes x_newMany x_isTooGreat x_come x_foundSet), (qx 4, .inl (Y 0, 40, .inl x_kind)), (qx 5, .inl (Y 0, 40, .inl x_figure)), (qx 6, .inl (Y 0, 40, .inl x_low)), (qx 7, .inl (Y 0, 40, .inl x_high)), (qx 10, .inl (Y 1, 28672, .inr (.inl w5))), (qx 11, .inl (Y 1, 7, .inr (.inl w6))), (qx 12, .inl (Y 0, 144, .inl w3))]) (wr := [(qx 4, .inl (Y 0, 40, .inl x_kind)), (qx 5, .inl (Y 0, 40, .inl x_figure)), (qx 6, .inl (Y 0, 40, .inl x_low)), (qx 7, .inl (Y 0, 40, .inl x_high))]) (rnV (As := [.int r4]) (rest := []) ⟨hx, hb, hml, hown, hts⟩ (c_X9_countsBy l G Y H.size qx x_points x_lines x_tide x_isKept x_table x_count w3 x_isMuch x_sum x_once x_twice x_isTermMuch x_nodes x_newMany x_isTooGreat x_come x_foundSet r4 w5 w6 w7 hc) (cwV 1 hts gX9_other_X9_countsBy rfl rfl rfl (by decide +kernel) ⟨(Nat.le_of_ble_eq_true rfl), (Nat.le_of_ble_eq_true rfl)⟩) trivial okT hK hP hD [0, 5, 6, 7] rfl rfl (ci := 7) (q0 := 0) rfl rfl rfl rfl hl.1 rfl (Nat.le_of_ble_eq_true rfl) dX9_other_29) hP hD hS hA [0, 5, 6, 7] [1, 2, 3, 4] [4, 0, 1, 2, 3, 5, 6, 7] rfl rfl rfl (by decide) rfl rfl (fun H locs hP hD hS => ?_)
      refine lv_aload_n hx hb dX9_other_32 rfl (lv_at hl 0 rfl) ?_
      refine va_get (D := G) (ci := 7) (v := .ref (qx 11)) (C := RX9) (T := TX9) (N := 37) hx hb hts inX9w hown hK hP 0 rfl rfl 10 (by decide) wd2 (fun _ h9 => h9) rfl dX9_other_33 ?_
      refine lv_iload_n hx hb dX9_other_36 rfl (lv_at hl 1 rfl) ?_
      obtain ⟨g8, hf⟩ := gd hf
      refine va_lald hx hb hK hP 6 1 rfl rfl g8 dX9_other_37 ?_
      obtain ⟨e0, e1, e2, e3, e4⟩ := rt5 hf
      have hP : va_P G vwCl [(qx 0, oX9 qx x_points x_lines x_tide x_isKept o_x_isMuch x_sum x_once x_twice x_isTermMuch x_nodes x_newMany x_isTooGreat x_come x_foundSet), (qx 4, .inl (Y 0, 40, .inl x_kind)), (qx 5, .inl (Y 0, 40, .inl x_figure)), (qx 6, .inl (Y 0, 40, .inl x_low)), (qx 7, .inl (Y 0, 40, .inl x_high)), (qx 10, .inl (Y 1, 28672, .inr (.inl o_x_table))), (qx 11, .inl (Y 1, 7, .inr (.inl o_x_count))), (qx 12, .inl (Y 0, 144, .inl o_x_heavy))] H := by rw [← e1, ← e2, ← e3, ← e4]; exact hP
      have hD : va_D A [(qx 0, oX9 qx x_points x_lines x_tide x_isKept o_x_isMuch x_sum x_once x_twice x_isTermMuch x_nodes x_newMany x_isTooGreat x_come x_foundSet), (qx 4, .inl (Y 0, 40, .inl x_kind)), (qx 5, .inl (Y 0, 40, .inl x_figure)), (qx 6, .inl (Y 0, 40, .inl x_low)), (qx 7, .inl (Y 0, 40, .inl x_high)), (qx 10, .inl (Y 1, 28672, .inr (.inl o_x_table))), (qx 11, .inl (Y 1, 7, .inr (.inl o_x_count))), (qx 12, .inl (Y 0, 144, .inl o_x_heavy))] := by rw [← e1, ← e2, ← e3, ← e4]; exact hD
      exact W.lret (v := (w6 p1.toNatClampNeg)) hx hb hr (fun t ht hW => ⟨⟨(w6 p1.toNatClampNeg), (), rfl, e0, by rw [ht]; exact hP, va_K.moved hW.alike hK, by rw [hAe]; exact hD⟩, hS.F ht⟩) hS.2.2 dX9_other_38
    · have hf := it hf c2
      refine lv_bipush (v := -2) hx hb dX9_other_12 (by decide) ?_
      obtain ⟨r9, hc, hf⟩ := bd1 hf
      refine cl_l (ws' := [(qx 0, oX9 qx x_points x_lines x_tide x_isKept x_isMuch x_sum x_once x_twice x_isTermMuch x_nodes x_newMany x_isTooGreat x_come x_foundSet), (qx 4, .inl (Y 0, 40, .inl x_kind)), (qx 5, .inl (Y 0, 40, .inl x_figure)), (qx 6, .inl (Y 0, 40, .inl x_low)), (qx 7, .inl (Y 0, 40, .inl x_high)), (qx 10, .inl (Y 1, 28672, .inr (.inl x_table))), (qx 11, .inl (Y 1, 7, .inr (.inl x_count))), (qx 12, .inl (Y 0, 144, .inl x_heavy))]) (wr := [(qx 0, oX9 qx x_points x_lines x_tide x_isKept x_isMuch x_sum x_once x_twice x_isTermMuch x_nodes x_newMany x_isTooGreat x_come x_foundSet), (qx 4, .inl (Y 0, 40, .inl x_kind)), (qx 5, .inl (Y 0, 40, .inl x_figure)), (qx 6, .inl (Y 0, 40, .inl x_low)), (qx 7, .inl (Y 0, 40, .inl x_high)), (qx 10, .inl (Y 1, 28672, .inr (.inl x_table))), (qx 11, .inl (Y 1, 7, .inr (.inl x_count))), (qx 12, .inl (Y 0, 144, .inl x_heavy))]) (rnS (As := [.int (-2 : Int32)]) (rest := []) ⟨hx, hb, hml, hown, hts⟩ (c_X9_told l G Y H.size (-2 : Int32) r9 hc) (va_cwS 1 hts gX9_other_X9_told rfl rfl rfl (by decide +kernel) ⟨(Nat.le_of_ble_eq_true rfl), (Nat.le_of_ble_eq_true rfl)⟩) trivial okT hK hP hD [] rfl rfl rfl hl.1 rfl (Nat.le_of_ble_eq_true rfl) dX9_other_14) hP hD hS hA [] [0, 1, 2, 3, 4, 5, 6, 7] [0, 1, 2, 3, 4, 5, 6, 7] rfl rfl rfl (by decide) rfl rfl (fun H locs hP hD hS => ?_)
      obtain ⟨e0, e1, e2, e3, e4⟩ := rt5 hf
      have hP : va_P G vwCl [(qx 0, oX9 qx x_points x_lines x_tide x_isKept o_x_isMuch x_sum x_once x_twice x_isTermMuch x_nodes x_newMany x_isTooGreat x_come x_foundSet), (qx 4, .inl (Y 0, 40, .inl x_kind)), (qx 5, .inl (Y 0, 40, .inl x_figure)), (qx 6, .inl (Y 0, 40, .inl x_low)), (qx 7, .inl (Y 0, 40, .inl x_high)), (qx 10, .inl (Y 1, 28672, .inr (.inl o_x_table))), (qx 11, .inl (Y 1, 7, .inr (.inl o_x_count))), (qx 12, .inl (Y 0, 144, .inl o_x_heavy))] H := by rw [← e1, ← e2, ← e3, ← e4]; exact hP
      have hD : va_D A [(qx 0, oX9 qx x_points x_lines x_tide x_isKept o_x_isMuch x_sum x_once x_twice x_isTermMuch x_nodes x_newMany x_isTooGreat x_come x_foundSet), (qx 4, .inl (Y 0, 40, .inl x_kind)), (qx 5, .inl (Y 0, 40, .inl x_figure)), (qx 6, .inl (Y 0, 40, .inl x_low)), (qx 7, .inl (Y 0, 40, .inl x_high)), (qx 10, .inl (Y 1, 28672, .inr (.inl o_x_table))), (qx 11, .inl (Y 1, 7, .inr (.inl o_x_count))), (qx 12, .inl (Y 0, 144, .inl o_x_heavy))] := by rw [← e1, ← e2, ← e3, ← e4]; exact hD
      exact W.lret (v := r9) hx hb hr (fun t ht hW => ⟨⟨r9, (), rfl, e0, by rw [ht]; exact hP, va_K.moved hW.alike hK, by rw [hAe]; exact hD⟩, hS.F ht⟩) hS.2.2 dX9_other_17
  exact E0 s.heap [] hP hD hS ls hl
-- X9_alone
set_option maxRecDepth 100000 in
set_option maxHeartbeats 4000000 in
theorem c_X9_alone (l : Launch) (G : va_G) (Y : Nat → ClassId) (sz : Nat) (qx : Nat → Nat) (x_points : Int32) (x_lines : Int32) (x_tide : Int32) (x_kind : Nat → Int32) (x_figure : Nat → Int32) (x_low : Nat → Int32) (x_high : Nat → Int32) (x_isKept : Int32) (x_table : Nat → Int64) (x_count : Nat → Int64) (x_heavy : Nat → Int32) (x_isMuch : Int32) (x_term : Nat → Int64) (x_sum : Int64) (x_once : Int64) (x_twice : Int64) (x_isTermMuch : Int32) (x_nodes : Int32) (x_newMany : Int32) (x_isTooGreat : Int32) (x_come : Int32) (x_foundSet : Int64) (p1 : Int32) (p2 : Int32) (p3 : Int32) (p4 : Int32) (rv : Int64) (o_x_table : Nat → Int64) (o_x_count : Nat → Int64) (o_x_heavy : Nat → Int32) (o_x_isMuch : Int32) (o_x_term : Nat → Int64) (o_x_sum : Int64) (o_x_once : Int64) (o_x_twice : Int64) (o_x_isTermMuch : Int32) (hf : f_X9_alone x_points x_lines x_tide x_kind x_figure x_low x_high x_table x_count x_heavy x_isMuch x_term x_sum x_once x_twice x_isTermMuch p1 p2 p3 p4 = some (rv, o_x_table, o_x_count, o_x_heavy, o_x_isMuch, o_x_term, o_x_sum, o_x_once, o_x_twice, o_x_isTermMuch)) : Met l yX9_alone wsX9_alone (rmk 5 119) (va_Pc [.ref (qx 0), .int p1, .int p2, .int p3, .int p4] (Pre G (tys Y) [(qx 0, oX9 qx x_points x_lines x_tide x_isKept x_isMuch x_sum x_once x_twice x_isTermMuch x_nodes x_newMany x_isTooGreat x_come x_foundSet), (qx 4, .inl (Y 0, 40, .inl x_kind)), (qx 5, .inl (Y 0, 40, .inl x_figure)), (qx 6, .inl (Y 0, 40, .inl x_low)), (qx 7, .inl (Y 0, 40, .inl x_high)), (qx 10, .inl (Y 1, 28672, .inr (.inl x_table))), (qx 11, .inl (Y 1, 7, .inr (.inl x_count))), (qx 12, .inl (Y 0, 144, .inl x_heavy)), (qx 14, .inl (Y 1, 7, .inr (.inl x_term)))] sz xT)) (va_Ql (fun (r : Int64) (_ : Unit) => r = rv) (Pst G (tys Y) [(qx 0, oX9 qx x_points x_lines x_tide x_isKept x_isMuch x_sum x_once x_twice x_isTermMuch x_nodes x_newMany x_isTooGreat x_come x_foundSet), (qx 4, .inl (Y 0, 40, .inl x_kind)), (qx 5, .inl (Y 0, 40, .inl x_figure)), (qx 6, .inl (Y 0, 40, .inl x_low)), (qx 7, .inl (Y 0, 40, .inl x_high)), (qx 10, .inl (Y 1, 28672, .inr (.inl x_table))), (qx 11, .inl (Y 1, 7, .inr (.inl x_count))), (qx 12, .inl (Y 0, 144, .inl x_heavy)), (qx 14, .inl (Y 1, 7, .inr (.inl x_term)))] sz [(qx 0, oX9 qx x_points x_lines x_tide x_isKept o_x_isMuch o_x_sum o_x_once o_x_twice o_x_isTermMuch x_nodes x_newMany x_isTooGreat x_come x_foundSet), (qx 4, .inl (Y 0, 40, .inl x_kind)), (qx 5, .inl (Y 0, 40, .inl x_figure)), (qx 6, .inl (Y 0, 40, .inl x_low)), (qx 7, .inl (Y 0, 40, .inl x_high)), (qx 10, .inl (Y 1, 28672, .inr (.inl o_x_table))), (qx 11, .inl (Y 1, 7, .inr (.inl o_x_count))), (qx 12, .inl (Y 0, 144, .inl o_x_heavy)), (qx 14, .inl (Y 1, 7, .inr (.inl o_x_term)))]) (va_A [(qx 0, oX9 qx x_points x_lines x_tide x_isKept x_isMuch x_sum x_once x_twice x_isTermMuch x_nodes x_newMany x_isTooGreat x_come x_foundSet), (qx 4, .inl (Y 0, 40, .inl x_kind)), (qx 5, .inl (Y 0, 40, .inl x_figure)), (qx 6, .inl (Y 0, 40, .inl x_low)), (qx 7, .inl (Y 0, 40, .inl x_high)), (qx 10, .inl (Y 1, 28672, .inr (.inl x_table))), (qx 11, .inl (Y 1, 7, .inr (.inl x_count))), (qx 12, .inl (Y 0, 144, .inl x_heavy)), (qx 14, .inl (Y 1, 7, .inr (.inl x_term)))] sz)) 0 0 (va_A [(qx 0, oX9 qx x_points x_lines x_tide x_isKept x_isMuch x_sum x_once x_twice x_isTermMuch x_nodes x_newMany x_isTooGreat x_come x_foundSet), (qx 4, .inl (Y 0, 40, .inl x_kind)), (qx 5, .inl (Y 0, 40, .inl x_figure)), (qx 6, .inl (Y 0, 40, .inl x_low)), (qx 7, .inl (Y 0, 40, .inl x_high)), (qx 10, .inl (Y 1, 28672, .inr (.inl x_table))), (qx 11, .inl (Y 1, 7, .inr (.inl x_count))), (qx 12, .inl (Y 0, 144, .inl x_heavy)), (qx 14, .inl (Y 1, 7, .inr (.inl x_term)))] sz) := by
  refine Met.ofW (cc := cX9_alone) (maxL := 7) (ret := (some .long)) (by decide) rfl ?_
  intro p e s m args below meth c s₁ B hml hv
  obtain ⟨rfl, hsz, hP, hK, hD0, hX⟩ := hv
  have hx := B.exec
  have hb := B.bytes
  have hr := B.returns
  have hts := atoms_spec (ws := wsX9_alone) B.pre
  have hown : s.vm.findClass RX9 = some m.cls := findClass_of_methodNamed B.named
  have hlocks := B.notSynchronized
  subst hsz
  have hD := hD0.self (sz := s.heap.size)
  generalize hAe : va_A [(qx 0, oX9 qx x_points x_lines x_tide x_isKept x_isMuch x_sum x_once x_twice x_isTermMuch x_nodes x_newMany x_isTooGreat x_come x_foundSet), (qx 4, .inl (Y 0, 40, .inl x_kind)), (qx 5, .inl (Y 0, 40, .inl x_figure)), (qx 6, .inl (Y 0, 40, .inl x_low)), (qx 7, .inl (Y 0, 40, .inl x_high)), (qx 10, .inl (Y 1, 28672, .inr (.inl x_table))), (qx 11, .inl (Y 1, 7, .inr (.inl x_count))), (qx 12, .inl (Y 0, 144, .inl x_heavy)), (qx 14, .inl (Y 1, 7, .inr (.inl x_term)))] s.heap.size = A at hD ⊢
  have hA : ∀ q : Nat, s.heap.size ≤ q → A q := fun q h => by rw [← hAe]; exact Or.inr h
  have hS : va_S A s.heap s.heap [] := va_S.rf
  have hP : va_P G vwCl [(qx 0, oX9 qx x_points x_lines x_tide x_isKept x_isMuch x_sum x_once x_twice x_isTermMuch x_nodes x_newMany x_isTooGreat x_come x_foundSet), (qx 4, .inl (Y 0, 40, .inl x_kind)), (qx 5, .inl (Y 0, 40, .inl x_figure)), (qx 6, .inl (Y 0, 40, .inl x_low)), (qx 7, .inl (Y 0, 40, .inl x_high)), (qx 10, .inl (Y 1, 28672, .inr (.inl x_table))), (qx 11, .inl (Y 1, 7, .inr (.inl x_count))), (qx 12, .inl (Y 0, 144, .inl x_heavy)), (qx 14, .inl (Y 1, 7, .inr (.inl x_term)))] s.heap := hP
  have wd1 : (Cond.fieldLink RX9 198 "PairedLinesModel" "isTermMuch" "Z").before [.ref (qx 0), .int p1, .int p2, .int p3, .int p4].toArray s = true := hts _ (List.mem_of_getElem? (i := 1) rfl)
  have wd2 : (Cond.constantLong RX9 84 (-1)).before [.ref (qx 0), .int p1, .int p2, .int p3, .int p4].toArray s = true := hts _ (List.mem_of_getElem? (i := 2) rfl)
  have wd3 : (Cond.fieldLink RX9 188 "PairedLinesModel" "sum" "J").before [.ref (qx 0), .int p1, .int p2, .int p3, .int p4].toArray s = true := hts _ (List.mem_of_getElem? (i := 3) rfl)
  have inX9w : ∀ w ∈ u_ws RX9 TX9 37, w ∈ wsX9_alone := fun w hw => List.mem_cons_of_mem _ (List.mem_append_right _ (hw))
  have hl := lv_entry ([.ref (qx 0), .int p1, .int p2, .int p3, .int p4]) (n := 7) (Nat.le_of_ble_eq_true rfl)
  rw [lg_entry_eq]
  generalize (lg_sl ([.ref (qx 0), .int p1, .int p2, .int p3, .int p4]) ++ List.replicate (7 - (lg_sl ([.ref (qx 0), .int p1, .int p2, .int p3, .int p4])).length) Slot.unset).toArray = ls at hl ⊢
  have hl : lv_has ls 7 [(0, .ref (qx 0)), (1, .int p1), (2, .int p2), (3, .int p3), (4, .int p4)] := hl
  have B72 : ∀ (b_x_table : Nat → Int64) (b_x_count : Nat → Int64) (b_x_heavy : Nat → Int32) (b_x_isMuch : Int32) (b_x_term : Nat → Int64) (b_x_sum : Int64) (b_x_once : Int64) (b_x_twice : Int64) (b_x_isTermMuch : Int32) (y0 : Int64), f_X9_alone_b72 x_points x_lines x_tide x_kind x_figure x_low x_high p1 p2 p3 p4 b_x_table b_x_count b_x_heavy b_x_isMuch b_x_term b_x_sum b_x_once b_x_twice b_x_isTermMuch y0 = some (rv, o_x_table, o_x_count, o_x_heavy, o_x_isMuch, o_x_term, o_x_sum, o_x_once, o_x_twice, o_x_isTermMuch) → ∀ (H : Heap) (locs : List Loc), va_P G vwCl [(qx 0, oX9 qx x_points x_lines x_tide x_isKept b_x_isMuch b_x_sum b_x_once b_x_twice b_x_isTermMuch x_nodes x_newMany x_isTooGreat x_come x_foundSet), (qx 4, .inl (Y 0, 40, .inl x_kind)), (qx 5, .inl (Y 0, 40, .inl x_figure)), (qx 6, .inl (Y 0, 40, .inl x_low)), (qx 7, .inl (Y 0, 40, .inl x_high)), (qx 10, .inl (Y 1, 28672, .inr (.inl b_x_table))), (qx 11, .inl (Y 1, 7, .inr (.inl b_x_count))), (qx 12, .inl (Y 0, 144, .inl b_x_heavy)), (qx 14, .inl (Y 1, 7, .inr (.inl b_x_term)))] H → va_D A [(qx 0, oX9 qx x_points x_lines x_tide x_isKept b_x_isMuch b_x_sum b_x_once b_x_twice b_x_isTermMuch x_nodes x_newMany x_isTooGreat x_come x_foundSet), (qx 4, .inl (Y 0, 40, .inl x_kind)), (qx 5, .inl (Y 0, 40, .inl x_figure)), (qx 6, .inl (Y 0, 40, .inl x_low)), (qx 7, .inl (Y 0, 40, .inl x_high)), (qx 10, .inl (Y 1, 28672, .inr (.inl b_x_table))), (qx 11, .inl (Y 1, 7, .inr (.inl b_x_count))), (qx 12, .inl (Y 0, 144, .inl b_x_heavy)), (qx 14, .inl (Y 1, 7, .inr (.inl b_x_term)))] → va_S A s.heap H locs → ∀ (ls : Array Slot), lv_has ls 7 [(0, .ref (qx 0)), (2, .int p2), (3, .int p3), (4, .int p4)] → W p l e (headSpec wsX9_alone (rmk 5 119)).room s m [.ref (qx 0), .int p1, .int p2, .int p3, .int p4].toArray below meth c H locs 0 0 (MQ below (va_Ql (fun (r : Int64) (_ : Unit) => r = rv) (Pst G (tys Y) [(qx 0, oX9 qx x_points x_lines x_tide x_isKept x_isMuch x_sum x_once x_twice x_isTermMuch x_nodes x_newMany x_isTooGreat x_come x_foundSet), (qx 4, .inl (Y 0, 40, .inl x_kind)), (qx 5, .inl (Y 0, 40, .inl x_figure)), (qx 6, .inl (Y 0, 40, .inl x_low)), (qx 7, .inl (Y 0, 40, .inl x_high)), (qx 10, .inl (Y 1, 28672, .inr (.inl x_table))), (qx 11, .inl (Y 1, 7, .inr (.inl x_count))), (qx 12, .inl (Y 0, 144, .inl x_heavy)), (qx 14, .inl (Y 1, 7, .inr (.inl x_term)))] s.heap.size [(qx 0, oX9 qx x_points x_lines x_tide x_isKept o_x_isMuch o_x_sum o_x_once o_x_twice o_x_isTermMuch x_nodes x_newMany x_isTooGreat x_come x_foundSet), (qx 4, .inl (Y 0, 40, .inl x_kind)), (qx 5, .inl (Y 0, 40, .inl x_figure)), (qx 6, .inl (Y 0, 40, .inl x_low)), (qx 7, .inl (Y 0, 40, .inl x_high)), (qx 10, .inl (Y 1, 28672, .inr (.inl o_x_table))), (qx 11, .inl (Y 1, 7, .inr (.inl o_x_count))), (qx 12, .inl (Y 0, 144, .inl o_x_heavy)), (qx 14, .inl (Y 1, 7, .inr (.inl o_x_term)))]) A) [.ref (qx 0), .int p1, .int p2, .int p3, .int p4].toArray s 0 0 A) (F0 m 72 ls [.long y0]) := by
    intro b_x_table b_x_count b_x_heavy b_x_isMuch b_x_term b_x_sum b_x_once b_x_twice b_x_isTermMuch y0 hf H locs hP hD hS ls hl
    unfold f_X9_alone_b72 at hf
    refine lv_lstore (lv' := [(5, .long y0), (0, .ref (qx 0)), (2, .int p2), (3, .int p3), (4, .int p4)]) hx hb dX9_alone_72 hl (by decide) rfl (fun ls hl => ?_)
    refine lv_aload_n hx hb dX9_alone_74 rfl (lv_at hl 1 rfl) ?_
    refine lv_iload_n hx hb dX9_alone_75 rfl (lv_at hl 2 rfl) ?_
    refine lv_iload_n hx hb dX9_alone_76 rfl (lv_at hl 3 rfl) ?_
    obtain ⟨w1, w2, w3, w4, w5, w6, w7, w8, w9, hc, hf⟩ := bd9 hf
    refine cl_v (ws' := [(qx 0, oX9 qx x_points x_lines x_tide x_isKept w4 w6 w7 w8 w9 x_nodes x_newMany x_isTooGreat x_come x_foundSet), (qx 4, .inl (Y 0, 40, .inl x_kind)), (qx 5, .inl (Y 0, 40, .inl x_figure)), (qx 6, .inl (Y 0, 40, .inl x_low)), (qx 7, .inl (Y 0, 40, .inl x_high)), (qx 10, .inl (Y 1, 28672, .inr (.inl w1))), (qx 11, .inl (Y 1, 7, .inr (.inl w2))), (qx 12, .inl (Y 0, 144, .inl w3)), (qx 14, .inl (Y 1, 7, .inr (.inl w5)))]) (wr := []) (rnV (As := [.int p2, .int p3]) (rest := []) ⟨hx, hb, hml, hown, hts⟩ (c_X9_findsTerms l G Y H.size qx x_points x_lines x_tide x_kind x_figure x_low x_high x_isKept b_x_table b_x_count b_x_heavy b_x_isMuch b_x_term b_x_sum b_x_once b_x_twice b_x_isTermMuch x_nodes x_newMany x_isTooGreat x_come x_foundSet p2 p3 w1 w2 w3 w4 w5 w6 w7 w8 w9 hc) (cwV 2 hts gX9_alone_X9_findsTerms rfl rfl rfl (by decide +kernel) ⟨(Nat.le_of_ble_eq_true rfl), (Nat.le_of_ble_eq_true rfl)⟩) trivial okT hK hP hD [0, 1, 2, 3, 4, 5, 6, 7, 8] rfl rfl (ci := 7) (q0 := 0) rfl rfl rfl rfl hl.1 rfl (Nat.le_of_ble_eq_true rfl) dX9_alone_77) hP hD hS hA [0, 1, 2, 3, 4, 5, 6, 7, 8] [] [0, 1, 2, 3, 4, 5, 6, 7, 8] rfl rfl rfl (by decide) rfl rfl (fun H locs hP hD hS => ?_)
    refine lv_aload_n hx hb dX9_alone_80 rfl (lv_at hl 1 rfl) ?_
    refine va_get (D := G) (ci := 7) (v := .int w9) (C := RX9) (T := TX9) (N := 37) hx hb hts inX9w hown hK hP 0 rfl rfl 17 (by decide) wd1 (fun _ h9 => h9) rfl dX9_alone_81 ?_
    refine lv_if_ne (tgt := 103) hx hb dX9_alone_84 (by decide) (fun c10 => ?_) (fun c10 => ?_)
    · have hf := ie hf c10
      refine lv_bipush (v := -5) hx hb dX9_alone_103 (by decide) ?_
      obtain ⟨r11, hc, hf⟩ := bd1 hf
      refine cl_l (ws' := [(qx 0, oX9 qx x_points x_lines x_tide x_isKept w4 w6 w7 w8 w9 x_nodes x_newMany x_isTooGreat x_come x_foundSet), (qx 4, .inl (Y 0, 40, .inl x_kind)), (qx 5, .inl (Y 0, 40, .inl x_figure)), (qx 6, .inl (Y 0, 40, .inl x_low)), (qx 7, .inl (Y 0, 40, .inl x_high)), (qx 10, .inl (Y 1, 28672, .inr (.inl w1))), (qx 11, .inl (Y 1, 7, .inr (.inl w2))), (qx 12, .inl (Y 0, 144, .inl w3)), (qx 14, .inl (Y 1, 7, .inr (.inl w5)))]) (wr := [(qx 0, oX9 qx x_points x_lines x_tide x_isKept w4 w6 w7 w8 w9 x_nodes x_newMany x_isTooGreat x_come x_foundSet), (qx 4, .inl (Y 0, 40, .inl x_kind)), (qx 5, .inl (Y 0, 40, .inl x_figure)), (qx 6, .inl (Y 0, 40, .inl x_low)), (qx 7, .inl (Y 0, 40, .inl x_high)), (qx 10, .inl (Y 1, 28672, .inr (.inl w1))), (qx 11, .inl (Y 1, 7, .inr (.inl w2))), (qx 12, .inl (Y 0, 144, .inl w3)), (qx 14, .inl (Y 1, 7, .inr (.inl w5)))]) (rnS (As := [.int (-5 : Int32)]) (rest := []) ⟨hx, hb, hml, hown, hts⟩ (c_X9_told l G Y H.size (-5 : Int32) r11 hc) (va_cwS 1 hts gX9_alone_X9_told rfl rfl rfl (by decide +kernel) ⟨(Nat.le_of_ble_eq_true rfl), (Nat.le_of_ble_eq_true rfl)⟩) trivial okT hK hP hD [] rfl rfl rfl hl.1 rfl (Nat.le_of_ble_eq_true rfl) dX9_alone_105) hP hD hS hA [] [0, 1, 2, 3, 4, 5, 6, 7, 8] [0, 1, 2, 3, 4, 5, 6, 7, 8] rfl rfl rfl (by decide) rfl rfl (fun H locs hP hD hS => ?_)
      refine lv_goto (tgt := 122) hx hb dX9_alone_108 (by decide) ?_
      obtain ⟨e0, e1, e2, e3, e4, e5, e6, e7, e8, e9⟩ := rt10 hf
      have hP : va_P G vwCl [(qx 0, oX9 qx x_points x_lines x_tide x_isKept o_x_isMuch o_x_sum o_x_once o_x_twice o_x_isTermMuch x_nodes x_newMany x_isTooGreat x_come x_foundSet), (qx 4, .inl (Y 0, 40, .inl x_kind)), (qx 5, .inl (Y 0, 40, .inl x_figure)), (qx 6, .inl (Y 0, 40, .inl x_low)), (qx 7, .inl (Y 0, 40, .inl x_high)), (qx 10, .inl (Y 1, 28672, .inr (.inl o_x_table))), (qx 11, .inl (Y 1, 7, .inr (.inl o_x_count))), (qx 12, .inl (Y 0, 144, .inl o_x_heavy)), (qx 14, .inl (Y 1, 7, .inr (.inl o_x_term)))] H := by rw [← e1, ← e2, ← e3, ← e4, ← e5, ← e6, ← e7, ← e8, ← e9]; exact hP
      have hD : va_D A [(qx 0, oX9 qx x_points x_lines x_tide x_isKept o_x_isMuch o_x_sum o_x_once o_x_twice o_x_isTermMuch x_nodes x_newMany x_isTooGreat x_come x_foundSet), (qx 4, .inl (Y 0, 40, .inl x_kind)), (qx 5, .inl (Y 0, 40, .inl x_figure)), (qx 6, .inl (Y 0, 40, .inl x_low)), (qx 7, .inl (Y 0, 40, .inl x_high)), (qx 10, .inl (Y 1, 28672, .inr (.inl o_x_table))), (qx 11, .inl (Y 1, 7, .inr (.inl o_x_count))), (qx 12, .inl (Y 0, 144, .inl o_x_heavy)), (qx 14, .inl (Y 1, 7, .inr (.inl o_x_term)))] := by rw [← e1, ← e2, ← e3, ← e4, ← e5, ← e6, ← e7, ← e8, ← e9]; exact hD
      exact W.lret (v := r11) hx hb hr (fun t ht hW => ⟨⟨r11, (), rfl, e0, by rw [ht]; exact hP, va_K.moved hW.alike hK, by rw [hAe]; exact hD⟩, hS.F ht⟩) hS.2.2 dX9_alone_122
    · have hf := it hf c10
      refine lv_aload_n hx hb dX9_alone_87 rfl (lv_at hl 1 rfl) ?_
      refine va_get (D := G) (ci := 7) (v := .long w6) (C := RX9) (T := TX9) (N := 37) hx hb hts inX9w hown hK hP 0 rfl rfl 14 (by decide) wd3 (fun _ h9 => h9) rfl dX9_alone_88 ?_
      refine lv_lconst (v := 0) hx hb dX9_alone_91 (by decide) ?_
      refine W.lcmp hx hb dX9_alone_92 ?_
      refine lv_if_lt (tgt := 103) hx hb dX9_alone_93 (by decide) (fun c12 => ?_) (fun c12 => ?_)
      · have hf := it hf c12
        refine lv_bipush (v := -5) hx hb dX9_alone_103 (by decide) ?_
        obtain ⟨r13, hc, hf⟩ := bd1 hf
        refine cl_l (ws' := [(qx 0, oX9 qx x_points x_lines x_tide x_isKept w4 w6 w7 w8 w9 x_nodes x_newMany x_isTooGreat x_come x_foundSet), (qx 4, .inl (Y 0, 40, .inl x_kind)), (qx 5, .inl (Y 0, 40, .inl x_figure)), (qx 6, .inl (Y 0, 40, .inl x_low)), (qx 7, .inl (Y 0, 40, .inl x_high)), (qx 10, .inl (Y 1, 28672, .inr (.inl w1))), (qx 11, .inl (Y 1, 7, .inr (.inl w2))), (qx 12, .inl (Y 0, 144, .inl w3)), (qx 14, .inl (Y 1, 7, .inr (.inl w5)))]) (wr := [(qx 0, oX9 qx x_points x_lines x_tide x_isKept w4 w6 w7 w8 w9 x_nodes x_newMany x_isTooGreat x_come x_foundSet), (qx 4, .inl (Y 0, 40, .inl x_kind)), (qx 5, .inl (Y 0, 40, .inl x_figure)), (qx 6, .inl (Y 0, 40, .inl x_low)), (qx 7, .inl (Y 0, 40, .inl x_high)), (qx 10, .inl (Y 1, 28672, .inr (.inl w1))), (qx 11, .inl (Y 1, 7, .inr (.inl w2))), (qx 12, .inl (Y 0, 144, .inl w3)), (qx 14, .inl (Y 1, 7, .inr (.inl w5)))]) (rnS (As := [.int (-5 : Int32)]) (rest := []) ⟨hx, hb, hml, hown, hts⟩ (c_X9_told l G Y H.size (-5 : Int32) r13 hc) (va_cwS 1 hts gX9_alone_X9_told rfl rfl rfl (by decide +kernel) ⟨(Nat.le_of_ble_eq_true rfl), (Nat.le_of_ble_eq_true rfl)⟩) trivial okT hK hP hD [] rfl rfl rfl hl.1 rfl (Nat.le_of_ble_eq_true rfl) dX9_alone_105) hP hD hS hA [] [0, 1, 2, 3, 4, 5, 6, 7, 8] [0, 1, 2, 3, 4, 5, 6, 7, 8] rfl rfl rfl (by decide) rfl rfl (fun H locs hP hD hS => ?_)
        refine lv_goto (tgt := 122) hx hb dX9_alone_108 (by decide) ?_
        obtain ⟨e0, e1, e2, e3, e4, e5, e6, e7, e8, e9⟩ := rt10 hf
        have hP : va_P G vwCl [(qx 0, oX9 qx x_points x_lines x_tide x_isKept o_x_isMuch o_x_sum o_x_once o_x_twice o_x_isTermMuch x_nodes x_newMany x_isTooGreat x_come x_foundSet), (qx 4, .inl (Y 0, 40, .inl x_kind)), (qx 5, .inl (Y 0, 40, .inl x_figure)), (qx 6, .inl (Y 0, 40, .inl x_low)), (qx 7, .inl (Y 0, 40, .inl x_high)), (qx 10, .inl (Y 1, 28672, .inr (.inl o_x_table))), (qx 11, .inl (Y 1, 7, .inr (.inl o_x_count))), (qx 12, .inl (Y 0, 144, .inl o_x_heavy)), (qx 14, .inl (Y 1, 7, .inr (.inl o_x_term)))] H := by rw [← e1, ← e2, ← e3, ← e4, ← e5, ← e6, ← e7, ← e8, ← e9]; exact hP
        have hD : va_D A [(qx 0, oX9 qx x_points x_lines x_tide x_isKept o_x_isMuch o_x_sum o_x_once o_x_twice o_x_isTermMuch x_nodes x_newMany x_isTooGreat x_come x_foundSet), (qx 4, .inl (Y 0, 40, .inl x_kind)), (qx 5, .inl (Y 0, 40, .inl x_figure)), (qx 6, .inl (Y 0, 40, .inl x_low)), (qx 7, .inl (Y 0, 40, .inl x_high)), (qx 10, .inl (Y 1, 28672, .inr (.inl o_x_table))), (qx 11, .inl (Y 1, 7, .inr (.inl o_x_count))), (qx 12, .inl (Y 0, 144, .inl o_x_heavy)), (qx 14, .inl (Y 1, 7, .inr (.inl o_x_term)))] := by rw [← e1, ← e2, ← e3, ← e4, ← e5, ← e6, ← e7, ← e8, ← e9]; exact hD
        exact W.lret (v := r13) hx hb hr (fun t ht hW => ⟨⟨r13, (), rfl, e0, by rw [ht]; exact hP, va_K.moved hW.alike hK, by rw [hAe]; exact hD⟩, hS.F ht⟩) hS.2.2 dX9_alone_122
      · have hf := ie hf c12
        refine lv_lload hx hb dX9_alone_96 (lv_at hl 0 rfl) ?_
        refine lv_lconst (v := 0) hx hb dX9_alone_98 (by decide) ?_
        refine W.lcmp hx hb dX9_alone_99 ?_
        refine lv_if_ge (tgt := 111) hx hb dX9_alone_100 (by decide) (fun c14 => ?_) (fun c14 => ?_)
        · have hf := it hf c14
          refine lv_lload hx hb dX9_alone_111 (lv_at hl 0 rfl) ?_
          refine lv_aload_n hx hb dX9_alone_113 rfl (lv_at hl 1 rfl) ?_
          refine va_get (D := G) (ci := 7) (v := .long w6) (C := RX9) (T := TX9) (N := 37) hx hb hts inX9w hown hK hP 0 rfl rfl 14 (by decide) wd3 (fun _ h9 => h9) rfl dX9_alone_114 ?_
          refine lv_iload hx hb dX9_alone_117 (lv_at hl 4 rfl) ?_
          obtain ⟨r15, hc, hf⟩ := bd1 hf
          refine cl_l (ws' := [(qx 0, oX9 qx x_points x_lines x_tide x_isKept w4 w6 w7 w8 w9 x_nodes x_newMany x_isTooGreat x_come x_foundSet), (qx 4, .inl (Y 0, 40, .inl x_kind)), (qx 5, .inl (Y 0, 40, .inl x_figure)), (qx 6, .inl (Y 0, 40, .inl x_low)), (qx 7, .inl (Y 0, 40, .inl x_high)), (qx 10, .inl (Y 1, 28672, .inr (.inl w1))), (qx 11, .inl (Y 1, 7, .inr (.inl w2))), (qx 12, .inl (Y 0, 144, .inl w3)), (qx 14, .inl (Y 1, 7, .inr (.inl w5)))]) (wr := [(qx 0, oX9 qx x_points x_lines x_tide x_isKept w4 w6 w7 w8 w9 x_nodes x_newMany x_isTooGreat x_come x_foundSet), (qx 4, .inl (Y 0, 40, .inl x_kind)), (qx 5, .inl (Y 0, 40, .inl x_figure)), (qx 6, .inl (Y 0, 40, .inl x_low)), (qx 7, .inl (Y 0, 40, .inl x_high)), (qx 10, .inl (Y 1, 28672, .inr (.inl w1))), (qx 11, .inl (Y 1, 7, .inr (.inl w2))), (qx 12, .inl (Y 0, 144, .inl w3)), (qx 14, .inl (Y 1, 7, .inr (.inl w5)))]) (rnS (As := [.long y0, .long w6, .int p4]) (rest := []) ⟨hx, hb, hml, hown, hts⟩ (c_X9_lowest l G Y H.size y0 w6 p4 r15 hc) (va_cwS 3 hts gX9_alone_X9_lowest rfl rfl rfl (by decide +kernel) ⟨(Nat.le_of_ble_eq_true rfl), (Nat.le_of_ble_eq_true rfl)⟩) trivial okT hK hP hD [] rfl rfl rfl hl.1 rfl (Nat.le_of_ble_eq_true rfl) dX9_alone_119) hP hD hS hA [] [0, 1, 2, 3, 4, 5, 6, 7, 8] [0, 1, 2, 3, 4, 5, 6, 7, 8] rfl rfl rfl (by decide) rfl rfl (fun H locs hP hD hS => ?_)
          obtain ⟨e0, e1, e2, e3, e4, e5, e6, e7, e8, e9⟩ := rt10 hf
          have hP : va_P G vwCl [(qx 0, oX9 qx x_points x_lines x_tide x_isKept o_x_isMuch o_x_sum o_x_once o_x_twice o_x_isTermMuch x_nodes x_newMany x_isTooGreat x_come x_foundSet), (qx 4, .inl (Y 0, 40, .inl x_kind)), (qx 5, .inl (Y 0, 40, .inl x_figure)), (qx 6, .inl (Y 0, 40, .inl x_low)), (qx 7, .inl (Y 0, 40, .inl x_high)), (qx 10, .inl (Y 1, 28672, .inr (.inl o_x_table))), (qx 11, .inl (Y 1, 7, .inr (.inl o_x_count))), (qx 12, .inl (Y 0, 144, .inl o_x_heavy)), (qx 14, .inl (Y 1, 7, .inr (.inl o_x_term)))] H := by rw [← e1, ← e2, ← e3, ← e4, ← e5, ← e6, ← e7, ← e8, ← e9]; exact hP
          have hD : va_D A [(qx 0, oX9 qx x_points x_lines x_tide x_isKept o_x_isMuch o_x_sum o_x_once o_x_twice o_x_isTermMuch x_nodes x_newMany x_isTooGreat x_come x_foundSet), (qx 4, .inl (Y 0, 40, .inl x_kind)), (qx 5, .inl (Y 0, 40, .inl x_figure)), (qx 6, .inl (Y 0, 40, .inl x_low)), (qx 7, .inl (Y 0, 40, .inl x_high)), (qx 10, .inl (Y 1, 28672, .inr (.inl o_x_table))), (qx 11, .inl (Y 1, 7, .inr (.inl o_x_count))), (qx 12, .inl (Y 0, 144, .inl o_x_heavy)), (qx 14, .inl (Y 1, 7, .inr (.inl o_x_term)))] := by rw [← e1, ← e2, ← e3, ← e4, ← e5, ← e6, ← e7, ← e8, ← e9]; exact hD
          exact W.lret (v := r15) hx hb hr (fun t ht hW => ⟨⟨r15, (), rfl, e0, by rw [ht]; exact hP, va_K.moved hW.alike hK, by rw [hAe]; exact hD⟩, hS.F ht⟩) hS.2.2 dX9_alone_122
        · have hf := ie hf c14
          refine lv_bipush (v := -5) hx hb dX9_alone_103 (by decide) ?_
          obtain ⟨r16, hc, hf⟩ := bd1 hf
          refine cl_l (ws' := [(qx 0, oX9 qx x_points x_lines x_tide x_isKept w4 w6 w7 w8 w9 x_nodes x_newMany x_isTooGreat x_come x_foundSet), (qx 4, .inl (Y 0, 40, .inl x_kind)), (qx 5, .inl (Y 0, 40, .inl x_figure)), (qx 6, .inl (Y 0, 40, .inl x_low)), (qx 7, .inl (Y 0, 40, .inl x_high)), (qx 10, .inl (Y 1, 28672, .inr (.inl w1))), (qx 11, .inl (Y 1, 7, .inr (.inl w2))), (qx 12, .inl (Y 0, 144, .inl w3)), (qx 14, .inl (Y 1, 7, .inr (.inl w5)))]) (wr := [(qx 0, oX9 qx x_points x_lines x_tide x_isKept w4 w6 w7 w8 w9 x_nodes x_newMany x_isTooGreat x_come x_foundSet), (qx 4, .inl (Y 0, 40, .inl x_kind)), (qx 5, .inl (Y 0, 40, .inl x_figure)), (qx 6, .inl (Y 0, 40, .inl x_low)), (qx 7, .inl (Y 0, 40, .inl x_high)), (qx 10, .inl (Y 1, 28672, .inr (.inl w1))), (qx 11, .inl (Y 1, 7, .inr (.inl w2))), (qx 12, .inl (Y 0, 144, .inl w3)), (qx 14, .inl (Y 1, 7, .inr (.inl w5)))]) (rnS (As := [.int (-5 : Int32)]) (rest := []) ⟨hx, hb, hml, hown, hts⟩ (c_X9_told l G Y H.size (-5 : Int32) r16 hc) (va_cwS 1 hts gX9_alone_X9_told rfl rfl rfl (by decide +kernel) ⟨(Nat.le_of_ble_eq_true rfl), (Nat.le_of_ble_eq_true rfl)⟩) trivial okT hK hP hD [] rfl rfl rfl hl.1 rfl (Nat.le_of_ble_eq_true rfl) dX9_alone_105) hP hD hS hA [] [0, 1, 2, 3, 4, 5, 6, 7, 8] [0, 1, 2, 3, 4, 5, 6, 7, 8] rfl rfl rfl (by decide) rfl rfl (fun H locs hP hD hS => ?_)
          refine lv_goto (tgt := 122) hx hb dX9_alone_108 (by decide) ?_
          obtain ⟨e0, e1, e2, e3, e4, e5, e6, e7, e8, e9⟩ := rt10 hf
          have hP : va_P G vwCl [(qx 0, oX9 qx x_points x_lines x_tide x_isKept o_x_isMuch o_x_sum o_x_once o_x_twice o_x_isTermMuch x_nodes x_newMany x_isTooGreat x_come x_foundSet), (qx 4, .inl (Y 0, 40, .inl x_kind)), (qx 5, .inl (Y 0, 40, .inl x_figure)), (qx 6, .inl (Y 0, 40, .inl x_low)), (qx 7, .inl (Y 0, 40, .inl x_high)), (qx 10, .inl (Y 1, 28672, .inr (.inl o_x_table))), (qx 11, .inl (Y 1, 7, .inr (.inl o_x_count))), (qx 12, .inl (Y 0, 144, .inl o_x_heavy)), (qx 14, .inl (Y 1, 7, .inr (.inl o_x_term)))] H := by rw [← e1, ← e2, ← e3, ← e4, ← e5, ← e6, ← e7, ← e8, ← e9]; exact hP
          have hD : va_D A [(qx 0, oX9 qx x_points x_lines x_tide x_isKept o_x_isMuch o_x_sum o_x_once o_x_twice o_x_isTermMuch x_nodes x_newMany x_isTooGreat x_come x_foundSet), (qx 4, .inl (Y 0, 40, .inl x_kind)), (qx 5, .inl (Y 0, 40, .inl x_figure)), (qx 6, .inl (Y 0, 40, .inl x_low)), (qx 7, .inl (Y 0, 40, .inl x_high)), (qx 10, .inl (Y 1, 28672, .inr (.inl o_x_table))), (qx 11, .inl (Y 1, 7, .inr (.inl o_x_count))), (qx 12, .inl (Y 0, 144, .inl o_x_heavy)), (qx 14, .inl (Y 1, 7, .inr (.inl o_x_term)))] := by rw [← e1, ← e2, ← e3, ← e4, ← e5, ← e6, ← e7, ← e8, ← e9]; exact hD
          exact W.lret (v := r16) hx hb hr (fun t ht hW => ⟨⟨r16, (), rfl, e0, by rw [ht]; exact hP, va_K.moved hW.alike hK, by rw [hAe]; exact hD⟩, hS.F ht⟩) hS.2.2 dX9_alone_122
  have E0 : ∀ (H : Heap) (locs : List Loc), va_P G vwCl [(qx 0, oX9 qx x_points x_lines x_tide x_isKept x_isMuch x_sum x_once x_twice x_isTermMuch x_nodes x_newMany x_isTooGreat x_come x_foundSet), (qx 4, .inl (Y 0, 40, .inl x_kind)), (qx 5, .inl (Y 0, 40, .inl x_figure)), (qx 6, .inl (Y 0, 40, .inl x_low)), (qx 7, .inl (Y 0, 40, .inl x_high)), (qx 10, .inl (Y 1, 28672, .inr (.inl x_table))), (qx 11, .inl (Y 1, 7, .inr (.inl x_count))), (qx 12, .inl (Y 0, 144, .inl x_heavy)), (qx 14, .inl (Y 1, 7, .inr (.inl x_term)))] H → va_D A [(qx 0, oX9 qx x_points x_lines x_tide x_isKept x_isMuch x_sum x_once x_twice x_isTermMuch x_nodes x_newMany x_isTooGreat x_come x_foundSet), (qx 4, .inl (Y 0, 40, .inl x_kind)), (qx 5, .inl (Y 0, 40, .inl x_figure)), (qx 6, .inl (Y 0, 40, .inl x_low)), (qx 7, .inl (Y 0, 40, .inl x_high)), (qx 10, .inl (Y 1, 28672, .inr (.inl x_table))), (qx 11, .inl (Y 1, 7, .inr (.inl x_count))), (qx 12, .inl (Y 0, 144, .inl x_heavy)), (qx 14, .inl (Y 1, 7, .inr (.inl x_term)))] → va_S A s.heap H locs → ∀ (ls : Array Slot), lv_has ls 7 [(0, .ref (qx 0)), (1, .int p1), (2, .int p2), (3, .int p3), (4, .int p4)] → W p l e (headSpec wsX9_alone (rmk 5 119)).room s m [.ref (qx 0), .int p1, .int p2, .int p3, .int p4].toArray below meth c H locs 0 0 (MQ below (va_Ql (fun (r : Int64) (_ : Unit) => r = rv) (Pst G (tys Y) [(qx 0, oX9 qx x_points x_lines x_tide x_isKept x_isMuch x_sum x_once x_twice x_isTermMuch x_nodes x_newMany x_isTooGreat x_come x_foundSet), (qx 4, .inl (Y 0, 40, .inl x_kind)), (qx 5, .inl (Y 0, 40, .inl x_figure)), (qx 6, .inl (Y 0, 40, .inl x_low)), (qx 7, .inl (Y 0, 40, .inl x_high)), (qx 10, .inl (Y 1, 28672, .inr (.inl x_table))), (qx 11, .inl (Y 1, 7, .inr (.inl x_count))), (qx 12, .inl (Y 0, 144, .inl x_heavy)), (qx 14, .inl (Y 1, 7, .inr (.inl x_term)))] s.heap.size [(qx 0, oX9 qx x_points x_lines x_tide x_isKept o_x_isMuch o_x_sum o_x_once o_x_twice o_x_isTermMuch x_nodes x_newMany x_isTooGreat x_come x_foundSet), (qx 4, .inl (Y 0, 40, .inl x_kind)), (qx 5, .inl (Y 0, 40, .inl x_figure)), (qx 6, .inl (Y 0, 40, .inl x_low)), (qx 7, .inl (Y 0, 40, .inl x_high)), (qx 10, .inl (Y 1, 28672, .inr (.inl o_x_table))), (qx 11, .inl (Y 1, 7, .inr (.inl o_x_count))), (qx 12, .inl (Y 0, 144, .inl o_x_heavy)), (qx 14, .inl (Y 1, 7, .inr (.inl o_x_term)))]) A) [.ref (qx 0), .int p1, .int p2, .int p3, .int p4].toArray s 0 0 A) (F0 m 0 ls []) := by
    intro H locs hP hD hS ls hl
    unfold f_X9_alone at hf
    refine lv_aload_n hx hb dX9_alone_0 rfl (lv_at hl 0 rfl) ?_
    refine lv_iload_n hx hb dX9_alone_1 rfl (lv_at hl 1 rfl) ?_
    obtain ⟨r17, hc, hf⟩ := bd1 hf
    refine cl_i (ws' := [(qx 0, oX9 qx x_points x_lines x_tide x_isKept x_isMuch x_sum x_once x_twice x_isTermMuch x_nodes x_newMany x_isTooGreat x_come x_foundSet), (qx 4, .inl (Y 0, 40, .inl x_kind)), (qx 5, .inl (Y 0, 40, .inl x_figure)), (qx 6, .inl (Y 0, 40, .inl x_low)), (qx 7, .inl (Y 0, 40, .inl x_high)), (qx 10, .inl (Y 1, 28672, .inr (.inl x_table))), (qx 11, .inl (Y 1, 7, .inr (.inl x_count))), (qx 12, .inl (Y 0, 144, .inl x_heavy)), (qx 14, .inl (Y 1, 7, .inr (.inl x_term)))]) (wr := [(qx 4, .inl (Y 0, 40, .inl x_kind)), (qx 5, .inl (Y 0, 40, .inl x_figure)), (qx 6, .inl (Y 0, 40, .inl x_low)), (qx 7, .inl (Y 0, 40, .inl x_high)), (qx 10, .inl (Y 1, 28672, .inr (.inl x_table))), (qx 11, .inl (Y 1, 7, .inr (.inl x_count))), (qx 12, .inl (Y 0, 144, .inl x_heavy)), (qx 14, .inl (Y 1, 7, .inr (.inl x_term)))]) (rnV (As := [.int p1]) (rest := []) ⟨hx, hb, hml, hown, hts⟩ (c_X9_isPoint l G Y H.size qx x_points x_lines x_tide x_isKept x_isMuch x_sum x_once x_twice x_isTermMuch x_nodes x_newMany x_isTooGreat x_come x_foundSet p1 r17 hc) (cwV 1 hts gX9_alone_X9_isPoint rfl rfl rfl (by decide +kernel) ⟨(Nat.le_of_ble_eq_true rfl), (Nat.le_of_ble_eq_true rfl)⟩) trivial okT hK hP hD [0] rfl rfl (ci := 7) (q0 := 0) rfl rfl rfl rfl hl.1 rfl (Nat.le_of_ble_eq_true rfl) dX9_alone_2) hP hD hS hA [0] [1, 2, 3, 4, 5, 6, 7, 8] [8, 0, 1, 2, 3, 4, 5, 6, 7] rfl rfl rfl (by decide) rfl rfl (fun H locs hP hD hS => ?_)
    refine lv_if_eq (tgt := 39) hx hb dX9_alone_5 (by decide) (fun c18 => ?_) (fun c18 => ?_)
    · have hf := it hf c18
      refine lv_bipush (v := -2) hx hb dX9_alone_39 (by decide) ?_
      obtain ⟨r19, hc, hf⟩ := bd1 hf
      refine cl_l (ws' := [(qx 0, oX9 qx x_points x_lines x_tide x_isKept x_isMuch x_sum x_once x_twice x_isTermMuch x_nodes x_newMany x_isTooGreat x_come x_foundSet), (qx 4, .inl (Y 0, 40, .inl x_kind)), (qx 5, .inl (Y 0, 40, .inl x_figure)), (qx 6, .inl (Y 0, 40, .inl x_low)), (qx 7, .inl (Y 0, 40, .inl x_high)), (qx 10, .inl (Y 1, 28672, .inr (.inl x_table))), (qx 11, .inl (Y 1, 7, .inr (.inl x_count))), (qx 12, .inl (Y 0, 144, .inl x_heavy)), (qx 14, .inl (Y 1, 7, .inr (.inl x_term)))]) (wr := [(qx 0, oX9 qx x_points x_lines x_tide x_isKept x_isMuch x_sum x_once x_twice x_isTermMuch x_nodes x_newMany x_isTooGreat x_come x_foundSet), (qx 4, .inl (Y 0, 40, .inl x_kind)), (qx 5, .inl (Y 0, 40, .inl x_figure)), (qx 6, .inl (Y 0, 40, .inl x_low)), (qx 7, .inl (Y 0, 40, .inl x_high)), (qx 10, .inl (Y 1, 28672, .inr (.inl x_table))), (qx 11, .inl (Y 1, 7, .inr (.inl x_count))), (qx 12, .inl (Y 0, 144, .inl x_heavy)), (qx 14, .inl (Y 1, 7, .inr (.inl x_term)))]) (rnS (As := [.int (-2 : Int32)]) (rest := []) ⟨hx, hb, hml, hown, hts⟩ (c_X9_told l G Y H.size (-2 : Int32) r19 hc) (va_cwS 1 hts gX9_alone_X9_told rfl rfl rfl (by decide +kernel) ⟨(Nat.le_of_ble_eq_true rfl), (Nat.le_of_ble_eq_true rfl)⟩) trivial okT hK hP hD [] rfl rfl rfl hl.1 rfl (Nat.le_of_ble_eq_true rfl) dX9_alone_41) hP hD hS hA [] [0, 1, 2, 3, 4, 5, 6, 7, 8] [0, 1, 2, 3, 4, 5, 6, 7, 8] rfl rfl rfl (by decide) rfl rfl (fun H locs hP hD hS => ?_)
      obtain ⟨e0, e1, e2, e3, e4, e5, e6, e7, e8, e9⟩ := rt10 hf
      have hP : va_P G vwCl [(qx 0, oX9 qx x_points x_lines x_tide x_isKept o_x_isMuch o_x_sum o_x_once o_x_twice o_x_isTermMuch x_nodes x_newMany x_isTooGreat x_come x_foundSet), (qx 4, .inl (Y 0, 40, .inl x_kind)), (qx 5, .inl (Y 0, 40, .inl x_figure)), (qx 6, .inl (Y 0, 40, .inl x_low)), (qx 7, .inl (Y 0, 40, .inl x_high)), (qx 10, .inl (Y 1, 28672, .inr (.inl o_x_table))), (qx 11, .inl (Y 1, 7, .inr (.inl o_x_count))), (qx 12, .inl (Y 0, 144, .inl o_x_heavy)), (qx 14, .inl (Y 1, 7, .inr (.inl o_x_term)))] H := by rw [← e1, ← e2, ← e3, ← e4, ← e5, ← e6, ← e7, ← e8, ← e9]; exact hP
      have hD : va_D A [(qx 0, oX9 qx x_points x_lines x_tide x_isKept o_x_isMuch o_x_sum o_x_once o_x_twice o_x_isTermMuch x_nodes x_newMany x_isTooGreat x_come x_foundSet), (qx 4, .inl (Y 0, 40, .inl x_kind)), (qx 5, .inl (Y 0, 40, .inl x_figure)), (qx 6, .inl (Y 0, 40, .inl x_low)), (qx 7, .inl (Y 0, 40, .inl x_high)), (qx 10, .inl (Y 1, 28672, .inr (.inl o_x_table))), (qx 11, .inl (Y 1, 7, .inr (.inl o_x_count))), (qx 12, .inl (Y 0, 144, .inl o_x_heavy)), (qx 14, .inl (Y 1, 7, .inr (.inl o_x_term)))] := by rw [← e1, ← e2, ← e3, ← e4, ← e5, ← e6, ← e7, ← e8, ← e9]; exact hD
      exact W.lret (v := r19) hx hb hr (fun t ht hW => ⟨⟨r19, (), rfl, e0, by rw [ht]; exact hP, va_K.moved hW.alike hK, by rw [hAe]; exact hD⟩, hS.F ht⟩) hS.2.2 dX9_alone_44
    · have hf := ie hf c18
      refine lv_iload_n hx hb dX9_alone_8 rfl (lv_at hl 2 rfl) ?_
      obtain ⟨r20, hc, hf⟩ := bd1 hf
      refine cl_i (ws' := [(qx 0, oX9 qx x_points x_lines x_tide x_isKept x_isMuch x_sum x_once x_twice x_isTermMuch x_nodes x_newMany x_isTooGreat x_come x_foundSet), (qx 4, .inl (Y 0, 40, .inl x_kind)), (qx 5, .inl (Y 0, 40, .inl x_figure)), (qx 6, .inl (Y 0, 40, .inl x_low)), (qx 7, .inl (Y 0, 40, .inl x_high)), (qx 10, .inl (Y 1, 28672, .inr (.inl x_table))), (qx 11, .inl (Y 1, 7, .inr (.inl x_count))), (qx 12, .inl (Y 0, 144, .inl x_heavy)), (qx 14, .inl (Y 1, 7, .inr (.inl x_term)))]) (wr := [(qx 0, oX9 qx x_points x_lines x_tide x_isKept x_isMuch x_sum x_once x_twice x_isTermMuch x_nodes x_newMany x_isTooGreat x_come x_foundSet), (qx 4, .inl (Y 0, 40, .inl x_kind)), (qx 5, .inl (Y 0, 40, .inl x_figure)), (qx 6, .inl (Y 0, 40, .inl x_low)), (qx 7, .inl (Y 0, 40, .inl x_high)), (qx 10, .inl (Y 1, 28672, .inr (.inl x_table))), (qx 11, .inl (Y 1, 7, .inr (.inl x_count))), (qx 12, .inl (Y 0, 144, .inl x_heavy)), (qx 14, .inl (Y 1, 7, .inr (.inl x_term)))]) (rnS (As := [.int p2]) (rest := []) ⟨hx, hb, hml, hown, hts⟩ (c_X9_isOut l G Y H.size p2 r20 hc) (va_cwS 1 hts gX9_alone_X9_isOut rfl rfl rfl (by decide +kernel) ⟨(Nat.le_of_ble_eq_true rfl), (Nat.le_of_ble_eq_true rfl)⟩) trivial okT hK hP hD [] rfl rfl rfl hl.1 rfl (Nat.le_of_ble_eq_true rfl) dX9_alone_9) hP hD hS hA [] [0, 1, 2, 3, 4, 5, 6, 7, 8] [0, 1, 2, 3, 4, 5, 6, 7, 8] rfl rfl rfl (by decide) rfl rfl (fun H locs hP hD hS => ?_)
      refine lv_if_eq (tgt := 39) hx hb dX9_alone_12 (by decide) (fun c21 => ?_) (fun c21 => ?_)
      · have hf := it hf c21
        refine lv_bipush (v := -2) hx hb dX9_alone_39 (by decide) ?_
        obtain ⟨r22, hc, hf⟩ := bd1 hf
        refine cl_l (ws' := [(qx 0, oX9 qx x_points x_lines x_tide x_isKept x_isMuch x_sum x_once x_twice x_isTermMuch x_nodes x_newMany x_isTooGreat x_come x_foundSet), (qx 4, .inl (Y 0, 40, .inl x_kind)), (qx 5, .inl (Y 0, 40, .inl x_figure)), (qx 6, .inl (Y 0, 40, .inl x_low)), (qx 7, .inl (Y 0, 40, .inl x_high)), (qx 10, .inl (Y 1, 28672, .inr (.inl x_table))), (qx 11, .inl (Y 1, 7, .inr (.inl x_count))), (qx 12, .inl (Y 0, 144, .inl x_heavy)), (qx 14, .inl (Y 1, 7, .inr (.inl x_term)))]) (wr := [(qx 0, oX9 qx x_points x_lines x_tide x_isKept x_isMuch x_sum x_once x_twice x_isTermMuch x_nodes x_newMany x_isTooGreat x_come x_foundSet), (qx 4, .inl (Y 0, 40, .inl x_kind)), (qx 5, .inl (Y 0, 40, .inl x_figure)), (qx 6, .inl (Y 0, 40, .inl x_low)), (qx 7, .inl (Y 0, 40, .inl x_high)), (qx 10, .inl (Y 1, 28672, .inr (.inl x_table))), (qx 11, .inl (Y 1, 7, .inr (.inl x_count))), (qx 12, .inl (Y 0, 144, .inl x_heavy)), (qx 14, .inl (Y 1, 7, .inr (.inl x_term)))]) (rnS (As := [.int (-2 : Int32)]) (rest := []) ⟨hx, hb, hml, hown, hts⟩ (c_X9_told l G Y H.size (-2 : Int32) r22 hc) (va_cwS 1 hts gX9_alone_X9_told rfl rfl rfl (by decide +kernel) ⟨(Nat.le_of_ble_eq_true rfl), (Nat.le_of_ble_eq_true rfl)⟩) trivial okT hK hP hD [] rfl rfl rfl hl.1 rfl (Nat.le_of_ble_eq_true rfl) dX9_alone_41) hP hD hS hA [] [0, 1, 2, 3, 4, 5, 6, 7, 8] [0, 1, 2, 3, 4, 5, 6, 7, 8] rfl rfl rfl (by decide) rfl rfl (fun H locs hP hD hS => ?_)
        obtain ⟨e0, e1, e2, e3, e4, e5, e6, e7, e8, e9⟩ := rt10 hf
        have hP : va_P G vwCl [(qx 0, oX9 qx x_points x_lines x_tide x_isKept o_x_isMuch o_x_sum o_x_once o_x_twice o_x_isTermMuch x_nodes x_newMany x_isTooGreat x_come x_foundSet), (qx 4, .inl (Y 0, 40, .inl x_kind)), (qx 5, .inl (Y 0, 40, .inl x_figure)), (qx 6, .inl (Y 0, 40, .inl x_low)), (qx 7, .inl (Y 0, 40, .inl x_high)), (qx 10, .inl (Y 1, 28672, .inr (.inl o_x_table))), (qx 11, .inl (Y 1, 7, .inr (.inl o_x_count))), (qx 12, .inl (Y 0, 144, .inl o_x_heavy)), (qx 14, .inl (Y 1, 7, .inr (.inl o_x_term)))] H := by rw [← e1, ← e2, ← e3, ← e4, ← e5, ← e6, ← e7, ← e8, ← e9]; exact hP
        have hD : va_D A [(qx 0, oX9 qx x_points x_lines x_tide x_isKept o_x_isMuch o_x_sum o_x_once o_x_twice o_x_isTermMuch x_nodes x_newMany x_isTooGreat x_come x_foundSet), (qx 4, .inl (Y 0, 40, .inl x_kind)), (qx 5, .inl (Y 0, 40, .inl x_figure)), (qx 6, .inl (Y 0, 40, .inl x_low)), (qx 7, .inl (Y 0, 40, .inl x_high)), (qx 10, .inl (Y 1, 28672, .inr (.inl o_x_table))), (qx 11, .inl (Y 1, 7, .inr (.inl o_x_count))), (qx 12, .inl (Y 0, 144, .inl o_x_heavy)), (qx 14, .inl (Y 1, 7, .inr (.inl o_x_term)))] := by rw [← e1, ← e2, ← e3, ← e4, ← e5, ← e6, ← e7, ← e8, ← e9]; exact hD
        exact W.lret (v := r22) hx hb hr (fun t ht hW => ⟨⟨r22, (), rfl, e0, by rw [ht]; exact hP, va_K.moved hW.alike hK, by rw [hAe]; exact hD⟩, hS.F ht⟩) hS.2.2 dX9_alone_44
      · have hf := ie hf c21
        refine lv_iload_n hx hb dX9_alone_15 rfl (lv_at hl 2 rfl) ?_
        refine lv_i2l hx hb dX9_alone_16 rfl ?_
        refine lv_iload_n hx hb dX9_alone_17 rfl (lv_at hl 1 rfl) ?_
        obtain ⟨r23, hc, hf⟩ := bd1 hf
        refine cl_i (ws' := [(qx 0, oX9 qx x_points x_lines x_tide x_isKept x_isMuch x_sum x_once x_twice x_isTermMuch x_nodes x_newMany x_isTooGreat x_come x_foundSet), (qx 4, .inl (Y 0, 40, .inl x_kind)), (qx 5, .inl (Y 0, 40, .inl x_figure)), (qx 6, .inl (Y 0, 40, .inl x_low)), (qx 7, .inl (Y 0, 40, .inl x_high)), (qx 10, .inl (Y 1, 28672, .inr (.inl x_table))), (qx 11, .inl (Y 1, 7, .inr (.inl x_count))), (qx 12, .inl (Y 0, 144, .inl x_heavy)), (qx 14, .inl (Y 1, 7, .inr (.inl x_term)))]) (wr := [(qx 0, oX9 qx x_points x_lines x_tide x_isKept x_isMuch x_sum x_once x_twice x_isTermMuch x_nodes x_newMany x_isTooGreat x_come x_foundSet), (qx 4, .inl (Y 0, 40, .inl x_kind)), (qx 5, .inl (Y 0, 40, .inl x_figure)), (qx 6, .inl (Y 0, 40, .inl x_low)), (qx 7, .inl (Y 0, 40, .inl x_high)), (qx 10, .inl (Y 1, 28672, .inr (.inl x_table))), (qx 11, .inl (Y 1, 7, .inr (.inl x_count))), (qx 12, .inl (Y 0, 144, .inl x_heavy)), (qx 14, .inl (Y 1, 7, .inr (.inl x_term)))]) (rnS (As := [.long p2.toInt64, .int p1]) (rest := []) ⟨hx, hb, hml, hown, hts⟩ (c_X9_has l G Y H.size p2.toInt64 p1 r23 hc) (va_cwS 2 hts gX9_alone_X9_has rfl rfl rfl (by decide +kernel) ⟨(Nat.le_of_ble_eq_true rfl), (Nat.le_of_ble_eq_true rfl)⟩) trivial okT hK hP hD [] rfl rfl rfl hl.1 rfl (Nat.le_of_ble_eq_true rfl) dX9_alone_18) hP hD hS hA [] [0, 1, 2, 3, 4, 5, 6, 7, 8] [0, 1, 2, 3, 4, 5, 6, 7, 8] rfl rfl rfl (by decide) rfl rfl (fun H locs hP hD hS => ?_)
        refine lv_if_ne (tgt := 39) hx hb dX9_alone_21 (by decide) (fun c24 => ?_) (fun c24 => ?_)
        · have hf := ie hf c24
          refine lv_bipush (v := -2) hx hb dX9_alone_39 (by decide) ?_
          obtain ⟨r25, hc, hf⟩ := bd1 hf
          refine cl_l (ws' := [(qx 0, oX9 qx x_points x_lines x_tide x_isKept x_isMuch x_sum x_once x_twice x_isTermMuch x_nodes x_newMany x_isTooGreat x_come x_foundSet), (qx 4, .inl (Y 0, 40, .inl x_kind)), (qx 5, .inl (Y 0, 40, .inl x_figure)), (qx 6, .inl (Y 0, 40, .inl x_low)), (qx 7, .inl (Y 0, 40, .inl x_high)), (qx 10, .inl (Y 1, 28672, .inr (.inl x_table))), (qx 11, .inl (Y 1, 7, .inr (.inl x_count))), (qx 12, .inl (Y 0, 144, .inl x_heavy)), (qx 14, .inl (Y 1, 7, .inr (.inl x_term)))]) (wr := [(qx 0, oX9 qx x_points x_lines x_tide x_isKept x_isMuch x_sum x_once x_twice x_isTermMuch x_nodes x_newMany x_isTooGreat x_come x_foundSet), (qx 4, .inl (Y 0, 40, .inl x_kind)), (qx 5, .inl (Y 0, 40, .inl x_figure)), (qx 6, .inl (Y 0, 40, .inl x_low)), (qx 7, .inl (Y 0, 40, .inl x_high)), (qx 10, .inl (Y 1, 28672, .inr (.inl x_table))), (qx 11, .inl (Y 1, 7, .inr (.inl x_count))), (qx 12, .inl (Y 0, 144, .inl x_heavy)), (qx 14, .inl (Y 1, 7, .inr (.inl x_term)))]) (rnS (As := [.int (-2 : Int32)]) (rest := []) ⟨hx, hb, hml, hown, hts⟩ (c_X9_told l G Y H.size (-2 : Int32) r25 hc) (va_cwS 1 hts gX9_alone_X9_told rfl rfl rfl (by decide +kernel) ⟨(Nat.le_of_ble_eq_true rfl), (Nat.le_of_ble_eq_true rfl)⟩) trivial okT hK hP hD [] rfl rfl rfl hl.1 rfl (Nat.le_of_ble_eq_true rfl) dX9_alone_41) hP hD hS hA [] [0, 1, 2, 3, 4, 5, 6, 7, 8] [0, 1, 2, 3, 4, 5, 6, 7, 8] rfl rfl rfl (by decide) rfl rfl (fun H locs hP hD hS => ?_)
          obtain ⟨e0, e1, e2, e3, e4, e5, e6, e7, e8, e9⟩ := rt10 hf
          have hP : va_P G vwCl [(qx 0, oX9 qx x_points x_lines x_tide x_isKept o_x_isMuch o_x_sum o_x_once o_x_twice o_x_isTermMuch x_nodes x_newMany x_isTooGreat x_come x_foundSet), (qx 4, .inl (Y 0, 40, .inl x_kind)), (qx 5, .inl (Y 0, 40, .inl x_figure)), (qx 6, .inl (Y 0, 40, .inl x_low)), (qx 7, .inl (Y 0, 40, .inl x_high)), (qx 10, .inl (Y 1, 28672, .inr (.inl o_x_table))), (qx 11, .inl (Y 1, 7, .inr (.inl o_x_count))), (qx 12, .inl (Y 0, 144, .inl o_x_heavy)), (qx 14, .inl (Y 1, 7, .inr (.inl o_x_term)))] H := by rw [← e1, ← e2, ← e3, ← e4, ← e5, ← e6, ← e7, ← e8, ← e9]; exact hP
          have hD : va_D A [(qx 0, oX9 qx x_points x_lines x_tide x_isKept o_x_isMuch o_x_sum o_x_once o_x_twice o_x_isTermMuch x_nodes x_newMany x_isTooGreat x_come x_foundSet), (qx 4, .inl (Y 0, 40, .inl x_kind)), (qx 5, .inl (Y 0, 40, .inl x_figure)), (qx 6, .inl (Y 0, 40, .inl x_low)), (qx 7, .inl (Y 0, 40, .inl x_high)), (qx 10, .inl (Y 1, 28672, .inr (.inl o_x_table))), (qx 11, .inl (Y 1, 7, .inr (.inl o_x_count))), (qx 12, .inl (Y 0, 144, .inl o_x_heavy)), (qx 14, .inl (Y 1, 7, .inr (.inl o_x_term)))] := by rw [← e1, ← e2, ← e3, ← e4, ← e5, ← e6, ← e7, ← e8, ← e9]; exact hD
          exact W.lret (v := r25) hx hb hr (fun t ht hW => ⟨⟨r25, (), rfl, e0, by rw [ht]; exact hP, va_K.moved hW.alike hK, by rw [hAe]; exact hD⟩, hS.F ht⟩) hS.2.2 dX9_alone_44
        · have hf := it hf c24
          refine lv_iload_n hx hb dX9_alone_24 rfl (lv_at hl 3 rfl) ?_
          obtain ⟨r26, hc, hf⟩ := bd1 hf
          refine cl_i (ws' := [(qx 0, oX9 qx x_points x_lines x_tide x_isKept x_isMuch x_sum x_once x_twice x_isTermMuch x_nodes x_newMany x_isTooGreat x_come x_foundSet), (qx 4, .inl (Y 0, 40, .inl x_kind)), (qx 5, .inl (Y 0, 40, .inl x_figure)), (qx 6, .inl (Y 0, 40, .inl x_low)), (qx 7, .inl (Y 0, 40, .inl x_high)), (qx 10, .inl (Y 1, 28672, .inr (.inl x_table))), (qx 11, .inl (Y 1, 7, .inr (.inl x_count))), (qx 12, .inl (Y 0, 144, .inl x_heavy)), (qx 14, .inl (Y 1, 7, .inr (.inl x_term)))]) (wr := [(qx 0, oX9 qx x_points x_lines x_tide x_isKept x_isMuch x_sum x_once x_twice x_isTermMuch x_nodes x_newMany x_isTooGreat x_come x_foundSet), (qx 4, .inl (Y 0, 40, .inl x_kind)), (qx 5, .inl (Y 0, 40, .inl x_figure)), (qx 6, .inl (Y 0, 40, .inl x_low)), (qx 7, .inl (Y 0, 40, .inl x_high)), (qx 10, .inl (Y 1, 28672, .inr (.inl x_table))), (qx 11, .inl (Y 1, 7, .inr (.inl x_count))), (qx 12, .inl (Y 0, 144, .inl x_heavy)), (qx 14, .inl (Y 1, 7, .inr (.inl x_term)))]) (rnS (As := [.int p3]) (rest := []) ⟨hx, hb, hml, hown, hts⟩ (c_X9_isRate l G Y H.size p3 r26 hc) (va_cwS 1 hts gX9_alone_X9_isRate rfl rfl rfl (by decide +kernel) ⟨(Nat.le_of_ble_eq_true rfl), (Nat.le_of_ble_eq_true rfl)⟩) trivial okT hK hP hD [] rfl rfl rfl hl.1 rfl (Nat.le_of_ble_eq_true rfl) dX9_alone_25) hP hD hS hA [] [0, 1, 2, 3, 4, 5, 6, 7, 8] [0, 1, 2, 3, 4, 5, 6, 7, 8] rfl rfl rfl (by decide) rfl rfl (fun H locs hP hD hS => ?_)
          refine lv_if_eq (tgt := 39) hx hb dX9_alone_28 (by decide) (fun c27 => ?_) (fun c27 => ?_)
          · have hf := it hf c27
            refine lv_bipush (v := -2) hx hb dX9_alone_39 (by decide) ?_
            obtain ⟨r28, hc, hf⟩ := bd1 hf
            refine cl_l (ws' := [(qx 0, oX9 qx x_points x_lines x_tide x_isKept x_isMuch x_sum x_once x_twice x_isTermMuch x_nodes x_newMany x_isTooGreat x_come x_foundSet), (qx 4, .inl (Y 0, 40, .inl x_kind)), (qx 5, .inl (Y 0, 40, .inl x_figure)), (qx 6, .inl (Y 0, 40, .inl x_low)), (qx 7, .inl (Y 0, 40, .inl x_high)), (qx 10, .inl (Y 1, 28672, .inr (.inl x_table))), (qx 11, .inl (Y 1, 7, .inr (.inl x_count))), (qx 12, .inl (Y 0, 144, .inl x_heavy)), (qx 14, .inl (Y 1, 7, .inr (.inl x_term)))]) (wr := [(qx 0, oX9 qx x_points x_lines x_tide x_isKept x_isMuch x_sum x_once x_twice x_isTermMuch x_nodes x_newMany x_isTooGreat x_come x_foundSet), (qx 4, .inl (Y 0, 40, .inl x_kind)), (qx 5, .inl (Y 0, 40, .inl x_figure)), (qx 6, .inl (Y 0, 40, .inl x_low)), (qx 7, .inl (Y 0, 40, .inl x_high)), (qx 10, .inl (Y 1, 28672, .inr (.inl x_table))), (qx 11, .inl (Y 1, 7, .inr (.inl x_count))), (qx 12, .inl (Y 0, 144, .inl x_heavy)), (qx 14, .inl (Y 1, 7, .inr (.inl x_term)))]) (rnS (As := [.int (-2 : Int32)]) (rest := []) ⟨hx, hb, hml, hown, hts⟩ (c_X9_told l G Y H.size (-2 : Int32) r28 hc) (va_cwS 1 hts gX9_alone_X9_told rfl rfl rfl (by decide +kernel) ⟨(Nat.le_of_ble_eq_true rfl), (Nat.le_of_ble_eq_true rfl)⟩) trivial okT hK hP hD [] rfl rfl rfl hl.1 rfl (Nat.le_of_ble_eq_true rfl) dX9_alone_41) hP hD hS hA [] [0, 1, 2, 3, 4, 5, 6, 7, 8] [0, 1, 2, 3, 4, 5, 6, 7, 8] rfl rfl rfl (by decide) rfl rfl (fun H locs hP hD hS => ?_)
            obtain ⟨e0, e1, e2, e3, e4, e5, e6, e7, e8, e9⟩ := rt10 hf
            have hP : va_P G vwCl [(qx 0, oX9 qx x_points x_lines x_tide x_isKept o_x_isMuch o_x_sum o_x_once o_x_twice o_x_isTermMuch x_nodes x_newMany x_isTooGreat x_come x_foundSet), (qx 4, .inl (Y 0, 40, .inl x_kind)), (qx 5, .inl (Y 0, 40, .inl x_figure)), (qx 6, .inl (Y 0, 40, .inl x_low)), (qx 7, .inl (Y 0, 40, .inl x_high)), (qx 10, .inl (Y 1, 28672, .inr (.inl o_x_table))), (qx 11, .inl (Y 1, 7, .inr (.inl o_x_count))), (qx 12, .inl (Y 0, 144, .inl o_x_heavy)), (qx 14, .inl (Y 1, 7, .inr (.inl o_x_term)))] H := by rw [← e1, ← e2, ← e3, ← e4, ← e5, ← e6, ← e7, ← e8, ← e9]; exact hP
            have hD : va_D A [(qx 0, oX9 qx x_points x_lines x_tide x_isKept o_x_isMuch o_x_sum o_x_once o_x_twice o_x_isTermMuch x_nodes x_newMany x_isTooGreat x_come x_foundSet), (qx 4, .inl (Y 0, 40, .inl x_kind)), (qx 5, .inl (Y 0, 40, .inl x_figure)), (qx 6, .inl (Y 0, 40, .inl x_low)), (qx 7, .inl (Y 0, 40, .inl x_high)), (qx 10, .inl (Y 1, 28672, .inr (.inl o_x_table))), (qx 11, .inl (Y 1, 7, .inr (.inl o_x_count))), (qx 12, .inl (Y 0, 144, .inl o_x_heavy)), (qx 14, .inl (Y 1, 7, .inr (.inl o_x_term)))] := by rw [← e1, ← e2, ← e3, ← e4, ← e5, ← e6, ← e7, ← e8, ← e9]; exact hD
            exact W.lret (v := r28) hx hb hr (fun t ht hW => ⟨⟨r28, (), rfl, e0, by rw [ht]; exact hP, va_K.moved hW.alike hK, by rw [hAe]; exact hD⟩, hS.F ht⟩) hS.2.2 dX9_alone_44
          · have hf := ie hf c27
            refine lv_iload hx hb dX9_alone_31 (lv_at hl 4 rfl) ?_
            obtain ⟨r29, hc, hf⟩ := bd1 hf
            refine cl_i (ws' := [(qx 0, oX9 qx x_points x_lines x_tide x_isKept x_isMuch x_sum x_once x_twice x_isTermMuch x_nodes x_newMany x_isTooGreat x_come x_foundSet), (qx 4, .inl (Y 0, 40, .inl x_kind)), (qx 5, .inl (Y 0, 40, .inl x_figure)), (qx 6, .inl (Y 0, 40, .inl x_low)), (qx 7, .inl (Y 0, 40, .inl x_high)), (qx 10, .inl (Y 1, 28672, .inr (.inl x_table))), (qx 11, .inl (Y 1, 7, .inr (.inl x_count))), (qx 12, .inl (Y 0, 144, .inl x_heavy)), (qx 14, .inl (Y 1, 7, .inr (.inl x_term)))]) (wr := [(qx 0, oX9 qx x_points x_lines x_tide x_isKept x_isMuch x_sum x_once x_twice x_isTermMuch x_nodes x_newMany x_isTooGreat x_come x_foundSet), (qx 4, .inl (Y 0, 40, .inl x_kind)), (qx 5, .inl (Y 0, 40, .inl x_figure)), (qx 6, .inl (Y 0, 40, .inl x_low)), (qx 7, .inl (Y 0, 40, .inl x_high)), (qx 10, .inl (Y 1, 28672, .inr (.inl x_table))), (qx 11, .inl (Y 1, 7, .inr (.inl x_count))), (qx 12, .inl (Y 0, 144, .inl x_heavy)), (qx 14, .inl (Y 1, 7, .inr (.inl x_term)))]) (rnS (As := [.int p4]) (rest := []) ⟨hx, hb, hml, hown, hts⟩ (c_X9_isPart l G Y H.size p4 r29 hc) (va_cwS 1 hts gX9_alone_X9_isPart rfl rfl rfl (by decide +kernel) ⟨(Nat.le_of_ble_eq_true rfl), (Nat.le_of_ble_eq_true rfl)⟩) trivial okT hK hP hD [] rfl rfl rfl hl.1 rfl (Nat.le_of_ble_eq_true rfl) dX9_alone_33) hP hD hS hA [] [0, 1, 2, 3, 4, 5, 6, 7, 8] [0, 1, 2, 3, 4, 5, 6, 7, 8] rfl rfl rfl (by decide) rfl rfl (fun H locs hP hD hS => ?_)
            refine lv_if_ne (tgt := 45) hx hb dX9_alone_36 (by decide) (fun c30 => ?_) (fun c30 => ?_)
            · have hf := ie hf c30
              refine lv_aload_n hx hb dX9_alone_45 rfl (lv_at hl 0 rfl) ?_
              refine lv_iload_n hx hb dX9_alone_46 rfl (lv_at hl 2 rfl) ?_
              refine lv_iconst (v := 1) hx hb dX9_alone_47 (by decide) ?_
              refine lv_iload_n hx hb dX9_alone_48 rfl (lv_at hl 1 rfl) ?_
              refine lv_ishl hx hb dX9_alone_49 ?_
              refine lv_ior hx hb dX9_alone_50 ?_
              refine lv_iload_n hx hb dX9_alone_51 rfl (lv_at hl 3 rfl) ?_
              obtain ⟨w31, w32, w33, w34, w35, w36, w37, w38, w39, hc, hf⟩ := bd9 hf
              refine cl_v (ws' := [(qx 0, oX9 qx x_points x_lines x_tide x_isKept w34 w36 w37 w38 w39 x_nodes x_newMany x_isTooGreat x_come x_foundSet), (qx 4, .inl (Y 0, 40, .inl x_kind)), (qx 5, .inl (Y 0, 40, .inl x_figure)), (qx 6, .inl (Y 0, 40, .inl x_low)), (qx 7, .inl (Y 0, 40, .inl x_high)), (qx 10, .inl (Y 1, 28672, .inr (.inl w31))), (qx 11, .inl (Y 1, 7, .inr (.inl w32))), (qx 12, .inl (Y 0, 144, .inl w33)), (qx 14, .inl (Y 1, 7, .inr (.inl w35)))]) (wr := []) (rnV (As := [.int (p2 ||| ((1 : Int32) <<< (p1 &&& 31))), .int p3]) (rest := []) ⟨hx, hb, hml, hown, hts⟩ (c_X9_findsTerms l G Y H.size qx x_points x_lines x_tide x_kind x_figure x_low x_high x_isKept x_table x_count x_heavy x_isMuch x_term x_sum x_once x_twice x_isTermMuch x_nodes x_newMany x_isTooGreat x_come x_foundSet (p2 ||| ((1 : Int32) <<< (p1 &&& 31))) p3 w31 w32 w33 w34 w35 w36 w37 w38 w39 hc) (cwV 2 hts gX9_alone_X9_findsTerms rfl rfl rfl (by decide +kernel) ⟨(Nat.le_of_ble_eq_true rfl), (Nat.le_of_ble_eq_true rfl)⟩) trivial okT hK hP hD [0, 1, 2, 3, 4, 5, 6, 7, 8] rfl rfl (ci := 7) (q0 := 0) rfl rfl rfl rfl hl.1 rfl (Nat.le_of_ble_eq_true rfl) dX9_alone_52) hP hD hS hA [0, 1, 2, 3, 4, 5, 6, 7, 8] [] [0, 1, 2, 3, 4, 5, 6, 7, 8] rfl rfl rfl (by decide) rfl rfl (fun H locs hP hD hS => ?_)
              refine lv_aload_n hx hb dX9_alone_55 rfl (lv_at hl 0 rfl) ?_
              refine va_get (D := G) (ci := 7) (v := .int w39) (C := RX9) (T := TX9) (N := 37) hx hb hts inX9w hown hK hP 0 rfl rfl 17 (by decide) wd1 (fun _ h9 => h9) rfl dX9_alone_56 ?_
              refine lv_if_eq (tgt := 68) hx hb dX9_alone_59 (by decide) (fun c40 => ?_) (fun c40 => ?_)
              · have hf := it hf c40
                refine lv_aload_n hx hb dX9_alone_68 rfl (lv_at hl 0 rfl) ?_
                refine va_get (D := G) (ci := 7) (v := .long w36) (C := RX9) (T := TX9) (N := 37) hx hb hts inX9w hown hK hP 0 rfl rfl 14 (by decide) wd3 (fun _ h9 => h9) rfl dX9_alone_69 ?_
                exact B72 w31 w32 w33 w34 w35 w36 w37 w38 w39 w36 hf _ _ hP hD hS ls (lv_sub hl [0, 2, 3, 4] rfl)
              · have hf := ie hf c40
                refine lv_ldc2 hx hb hown wd2 dX9_alone_62 ?_
                refine lv_goto (tgt := 72) hx hb dX9_alone_65 (by decide) ?_
                exact B72 w31 w32 w33 w34 w35 w36 w37 w38 w39 (-1 : Int64) hf _ _ hP hD hS ls (lv_sub hl [0, 2, 3, 4] rfl)
            · have hf := it hf c30
              refine lv_bipush (v := -2) hx hb dX9_alone_39 (by decide) ?_
              obtain ⟨r41, hc, hf⟩ := bd1 hf
              refine cl_l (ws' := [(qx 0, oX9 qx x_points x_lines x_tide x_isKept x_isMuch x_sum x_once x_twice x_isTermMuch x_nodes x_newMany x_isTooGreat x_come x_foundSet), (qx 4, .inl (Y 0, 40, .inl x_kind)), (qx 5, .inl (Y 0, 40, .inl x_figure)), (qx 6, .inl (Y 0, 40, .inl x_low)), (qx 7, .inl (Y 0, 40, .inl x_high)), (qx 10, .inl (Y 1, 28672, .inr (.inl x_table))), (qx 11, .inl (Y 1, 7, .inr (.inl x_count))), (qx 12, .inl (Y 0, 144, .inl x_heavy)), (qx 14, .inl (Y 1, 7, .inr (.inl x_term)))]) (wr := [(qx 0, oX9 qx x_points x_lines x_tide x_isKept x_isMuch x_sum x_once x_twice x_isTermMuch x_nodes x_newMany x_isTooGreat x_come x_foundSet), (qx 4, .inl (Y 0, 40, .inl x_kind)), (qx 5, .inl (Y 0, 40, .inl x_figure)), (qx 6, .inl (Y 0, 40, .inl x_low)), (qx 7, .inl (Y 0, 40, .inl x_high)), (qx 10, .inl (Y 1, 28672, .inr (.inl x_table))), (qx 11, .inl (Y 1, 7, .inr (.inl x_count))), (qx 12, .inl (Y 0, 144, .inl x_heavy)), (qx 14, .inl (Y 1, 7, .inr (.inl x_term)))]) (rnS (As := [.int (-2 : Int32)]) (rest := []) ⟨hx, hb, hml, hown, hts⟩ (c_X9_told l G Y H.size (-2 : Int32) r41 hc) (va_cwS 1 hts gX9_alone_X9_told rfl rfl rfl (by decide +kernel) ⟨(Nat.le_of_ble_eq_true rfl), (Nat.le_of_ble_eq_true rfl)⟩) trivial okT hK hP hD [] rfl rfl rfl hl.1 rfl (Nat.le_of_ble_eq_true rfl) dX9_alone_41) hP hD hS hA [] [0, 1, 2, 3, 4, 5, 6, 7, 8] [0, 1, 2, 3, 4, 5, 6, 7, 8] rfl rfl rfl (by decide) rfl rfl (fun H locs hP hD hS => ?_)
              obtain ⟨e0, e1, e2, e3, e4, e5, e6, e7, e8, e9⟩ := rt10 hf
              have hP : va_P G vwCl [(qx 0, oX9 qx x_points x_lines x_tide x_isKept o_x_isMuch o_x_sum o_x_once o_x_twice o_x_isTermMuch x_nodes x_newMany x_isTooGreat x_come x_foundSet), (qx 4, .inl (Y 0, 40, .inl x_kind)), (qx 5, .inl (Y 0, 40, .inl x_figure)), (qx 6, .inl (Y 0, 40, .inl x_low)), (qx 7, .inl (Y 0, 40, .inl x_high)), (qx 10, .inl (Y 1, 28672, .inr (.inl o_x_table))), (qx 11, .inl (Y 1, 7, .inr (.inl o_x_count))), (qx 12, .inl (Y 0, 144, .inl o_x_heavy)), (qx 14, .inl (Y 1, 7, .inr (.inl o_x_term)))] H := by rw [← e1, ← e2, ← e3, ← e4, ← e5, ← e6, ← e7, ← e8, ← e9]; exact hP
              have hD : va_D A [(qx 0, oX9 qx x_points x_lines x_tide x_isKept o_x_isMuch o_x_sum o_x_once o_x_twice o_x_isTermMuch x_nodes x_newMany x_isTooGreat x_come x_foundSet), (qx 4, .inl (Y 0, 40, .inl x_kind)), (qx 5, .inl (Y 0, 40, .inl x_figure)), (qx 6, .inl (Y 0, 40, .inl x_low)), (qx 7, .inl (Y 0, 40, .inl x_high)), (qx 10, .inl (Y 1, 28672, .inr (.inl o_x_table))), (qx 11, .inl (Y 1, 7, .inr (.inl o_x_count))), (qx 12, .inl (Y 0, 144, .inl o_x_heavy)), (qx 14, .inl (Y 1, 7, .inr (.inl o_x_term)))] := by rw [← e1, ← e2, ← e3, ← e4, ← e5, ← e6, ← e7, ← e8, ← e9]; exact hD
              exact W.lret (v := r41) hx hb hr (fun t ht hW => ⟨⟨r41, (), rfl, e0, by rw [ht]; exact hP, va_K.moved hW.alike hK, by rw [hAe]; exact hD⟩, hS.F ht⟩) hS.2.2 dX9_alone_44
  exact E0 s.heap [] hP hD hS ls hl
-- X9_grows
set_option maxRecDepth 100000 in
set_option maxHeartbeats 4000000 in
theorem c_X9_grows (l : Launch) (G : va_G) (Y : Nat → ClassId) : ∀ (d : Nat) (sz : Nat) (qx : Nat → Nat) (x_points : Int32) (x_lines : Int32) (x_tide : Int32) (x_low : Nat → Int32) (x_high : Nat → Int32) (x_isKept : Int32) (x_isMuch : Int32) (x_sum : Int64) (x_once : Int64) (x_twice : Int64) (x_isTermMuch : Int32) (x_newPoint : Nat → Int32) (x_newOver : Nat → Int32) (x_nodes : Int32) (x_newMany : Int32) (x_isTooGreat : Int32) (x_come : Int32) (x_foundSet : Int64) (p1 : Int32) (p2 : Int32) (p3 : Int32) (rv : Int32) (o_x_newPoint : Nat → Int32) (o_x_newOver : Nat → Int32) (o_x_newMany : Int32) (hf : f_X9_grows d x_points x_lines x_low x_high x_newPoint x_newOver x_newMany p1 p2 p3 = some (rv, o_x_newPoint, o_x_newOver, o_x_newMany)), Met l yX9_grows wsX9_grows (rmk (1 + d) (24 + 26 * d)) (va_Pc [.ref (qx 0), .int p1, .int p2, .int p3] (Pre G (tys Y) [(qx 0, oX9 qx x_points x_lines x_tide x_isKept x_isMuch x_sum x_once x_twice x_isTermMuch x_nodes x_newMany x_isTooGreat x_come x_foundSet), (qx 6, .inl (Y 0, 40, .inl x_low)), (qx 7, .inl (Y 0, 40, .inl x_high)), (qx 21, .inl (Y 0, 300, .inl x_newPoint)), (qx 22, .inl (Y 0, 300, .inl x_newOver))] sz xT)) (va_Qi (fun (r : Int32) (_ : Unit) => r = rv) (Pst G (tys Y) [(qx 0, oX9 qx x_points x_lines x_tide x_isKept x_isMuch x_sum x_once x_twice x_isTermMuch x_nodes x_newMany x_isTooGreat x_come x_foundSet), (qx 6, .inl (Y 0, 40, .inl x_low)), (qx 7, .inl (Y 0, 40, .inl x_high)), (qx 21, .inl (Y 0, 300, .inl x_newPoint)), (qx 22, .inl (Y 0, 300, .inl x_newOver))] sz [(qx 0, oX9 qx x_points x_lines x_tide x_isKept x_isMuch x_sum x_once x_twice x_isTermMuch x_nodes o_x_newMany x_isTooGreat x_come x_foundSet), (qx 6, .inl (Y 0, 40, .inl x_low)), (qx 7, .inl (Y 0, 40, .inl x_high)), (qx 21, .inl (Y 0, 300, .inl o_x_newPoint)), (qx 22, .inl (Y 0, 300, .inl o_x_newOver))]) (va_A [(qx 0, oX9 qx x_points x_lines x_tide x_isKept x_isMuch x_sum x_once x_twice x_isTermMuch x_nodes x_newMany x_isTooGreat x_come x_foundSet), (qx 6, .inl (Y 0, 40, .inl x_low)), (qx 7, .inl (Y 0, 40, .inl x_high)), (qx 21, .inl (Y 0, 300, .inl x_newPoint)), (qx 22, .inl (Y 0, 300, .inl x_newOver))] sz)) 0 0 (va_A [(qx 0, oX9 qx x_points x_lines x_tide x_isKept x_isMuch x_sum x_once x_twice x_isTermMuch x_nodes x_newMany x_isTooGreat x_come x_foundSet), (qx 6, .inl (Y 0, 40, .inl x_low)), (qx 7, .inl (Y 0, 40, .inl x_high)), (qx 21, .inl (Y 0, 300, .inl x_newPoint)), (qx 22, .inl (Y 0, 300, .inl x_newOver))] sz) := by
  intro d
  induction d with
  | zero =>
    intro sz qx x_points x_lines x_tide x_low x_high x_isKept x_isMuch x_sum x_once x_twice x_isTermMuch x_newPoint x_newOver x_nodes x_newMany x_isTooGreat x_come x_foundSet p1 p2 p3 rv o_x_newPoint o_x_newOver o_x_newMany hf
    exact no_none hf
  | succ d ihd =>
  intro sz qx x_points x_lines x_tide x_low x_high x_isKept x_isMuch x_sum x_once x_twice x_isTermMuch x_newPoint x_newOver x_nodes x_newMany x_isTooGreat x_come x_foundSet p1 p2 p3 rv o_x_newPoint o_x_newOver o_x_newMany hf
  have hf : f_X9_grows_st (f_X9_grows d) x_points x_lines x_low x_high x_newPoint x_newOver x_newMany p1 p2 p3 = some (rv, o_x_newPoint, o_x_newOver, o_x_newMany) := hf
  refine Met.ofW (cc := cX9_grows) (maxL := 7) (ret := (some .boolean)) (by decide) rfl ?_
  intro p e s m args below meth c s₁ B hml hv
  obtain ⟨rfl, hsz, hP, hK, hD0, hX⟩ := hv
  have hx := B.exec
  have hb := B.bytes
  have hr := B.returns
  have hts := atoms_spec (ws := wsX9_grows) B.pre
  have hown : s.vm.findClass RX9 = some m.cls := findClass_of_methodNamed B.named
  have hlocks := B.notSynchronized
  subst hsz
  have hD := hD0.self (sz := s.heap.size)
  generalize hAe : va_A [(qx 0, oX9 qx x_points x_lines x_tide x_isKept x_isMuch x_sum x_once x_twice x_isTermMuch x_nodes x_newMany x_isTooGreat x_come x_foundSet), (qx 6, .inl (Y 0, 40, .inl x_low)), (qx 7, .inl (Y 0, 40, .inl x_high)), (qx 21, .inl (Y 0, 300, .inl x_newPoint)), (qx 22, .inl (Y 0, 300, .inl x_newOver))] s.heap.size = A at hD ⊢
  have hA : ∀ q : Nat, s.heap.size ≤ q → A q := fun q h => by rw [← hAe]; exact Or.inr h
  have hS : va_S A s.heap s.heap [] := va_S.rf
  have hP : va_P G vwCl [(qx 0, oX9 qx x_points x_lines x_tide x_isKept x_isMuch x_sum x_once x_twice x_isTermMuch x_nodes x_newMany x_isTooGreat x_come x_foundSet), (qx 6, .inl (Y 0, 40, .inl x_low)), (qx 7, .inl (Y 0, 40, .inl x_high)), (qx 21, .inl (Y 0, 300, .inl x_newPoint)), (qx 22, .inl (Y 0, 300, .inl x_newOver))] s.heap := hP
  have wd1 : (Cond.fieldLink RX9 239 "PairedLinesModel" "newMany" "I").before [.ref (qx 0), .int p1, .int p2, .int p3].toArray s = true := hts _ (List.mem_of_getElem? (i := 1) rfl)
  have wd2 : (Cond.fieldLink RX9 44 "PairedLinesModel" "newPoint" "[I").before [.ref (qx 0), .int p1, .int p2, .int p3].toArray s = true := hts _ (List.mem_of_getElem? (i := 2) rfl)
  have wd3 : (Cond.fieldLink RX9 47 "PairedLinesModel" "newOver" "[I").before [.ref (qx 0), .int p1, .int p2, .int p3].toArray s = true := hts _ (List.mem_of_getElem? (i := 3) rfl)
  have wd4 : (Cond.fieldLink RX9 92 "PairedLinesModel" "points" "I").before [.ref (qx 0), .int p1, .int p2, .int p3].toArray s = true := hts _ (List.mem_of_getElem? (i := 4) rfl)
  have inX9w : ∀ w ∈ u_ws RX9 TX9 37, w ∈ wsX9_grows := fun w hw => List.mem_cons_of_mem _ (List.mem_append_right _ (hw))
  have hl := lv_entry ([.ref (qx 0), .int p1, .int p2, .int p3]) (n := 7) (Nat.le_of_ble_eq_true rfl)
  rw [lg_entry_eq]
  generalize (lg_sl ([.ref (qx 0), .int p1, .int p2, .int p3]) ++ List.replicate (7 - (lg_sl ([.ref (qx 0), .int p1, .int p2, .int p3])).length) Slot.unset).toArray = ls at hl ⊢
  have hl : lv_has ls 7 [(0, .ref (qx 0)), (1, .int p1), (2, .int p2), (3, .int p3)] := hl
  have B59 : ∀ (n59 : Nat), ∀ (b_x_newPoint : Nat → Int32) (b_x_newOver : Nat → Int32) (b_x_newMany : Int32) (x4 : Int32) (x5 : Int32) (x6 : Int32), f_X9_grows_b59 (f_X9_grows d) x_points x_lines x_low x_high p1 p2 p3 n59 b_x_newPoint b_x_newOver b_x_newMany x4 x5 x6 = some (rv, o_x_newPoint, o_x_newOver, o_x_newMany) → ∀ (H : Heap) (locs : List Loc), va_P G vwCl [(qx 0, oX9 qx x_points x_lines x_tide x_isKept x_isMuch x_sum x_once x_twice x_isTermMuch x_nodes b_x_newMany x_isTooGreat x_come x_foundSet), (qx 6, .inl (Y 0, 40, .inl x_low)), (qx 7, .inl (Y 0, 40, .inl x_high)), (qx 21, .inl (Y 0, 300, .inl b_x_newPoint)), (qx 22, .inl (Y 0, 300, .inl b_x_newOver))] H → va_D A [(qx 0, oX9 qx x_points x_lines x_tide x_isKept x_isMuch x_sum x_once x_twice x_isTermMuch x_nodes b_x_newMany x_isTooGreat x_come x_foundSet), (qx 6, .inl (Y 0, 40, .inl x_low)), (qx 7, .inl (Y 0, 40, .inl x_high)), (qx 21, .inl (Y 0, 300, .inl b_x_newPoint)), (qx 22, .inl (Y 0, 300, .inl b_x_newOver))] → va_S A s.heap H locs → ∀ (ls : Array Slot), lv_has ls 7 [(0, .ref (qx 0)), (1, .int p1), (3, .int p3), (4, .int x4), (5, .int x5), (6, .int x6)] → W p l e (headSpec wsX9_grows (rmk (1 + (d + 1)) (24 + 26 * (d + 1)))).room s m [.ref (qx 0), .int p1, .int p2, .int p3].toArray below meth c H locs 0 0 (MQ below (va_Qi (fun (r : Int32) (_ : Unit) => r = rv) (Pst G (tys Y) [(qx 0, oX9 qx x_points x_lines x_tide x_isKept x_isMuch x_sum x_once x_twice x_isTermMuch x_nodes x_newMany x_isTooGreat x_come x_foundSet), (qx 6, .inl (Y 0, 40, .inl x_low)), (qx 7, .inl (Y 0, 40, .inl x_high)), (qx 21, .inl (Y 0, 300, .inl x_newPoint)), (qx 22, .inl (Y 0, 300, .inl x_newOver))] s.heap.size [(qx 0, oX9 qx x_points x_lines x_tide x_isKept x_isMuch x_sum x_once x_twice x_isTermMuch x_nodes o_x_newMany x_isTooGreat x_come x_foundSet), (qx 6, .inl (Y 0, 40, .inl x_low)), (qx 7, .inl (Y 0, 40, .inl x_high)), (qx 21, .inl (Y 0, 300, .inl o_x_newPoint)), (qx 22, .inl (Y 0, 300, .inl o_x_newOver))]) A) [.ref (qx 0), .int p1, .int p2, .int p3].toArray s 0 0 A) (F0 m 59 ls []) := by
    intro n59
    induction n59 with
    | zero =>
      intro b_x_newPoint b_x_newOver b_x_newMany x4 x5 x6 hf H locs hP hD hS ls hl
      exact no_none hf
    | succ n59 ih59 =>
      intro b_x_newPoint b_x_newOver b_x_newMany x4 x5 x6 hf H locs hP hD hS ls hl
      have hf : f_X9_grows_s59 (f_X9_grows d) x_points x_lines x_low x_high p1 p2 p3 (f_X9_grows_b59 (f_X9_grows d) x_points x_lines x_low x_high p1 p2 p3  n59) b_x_newPoint b_x_newOver b_x_newMany x4 x5 x6 = some (rv, o_x_newPoint, o_x_newOver, o_x_newMany) := hf
      unfold f_X9_grows_s59 at hf
      refine lv_iload hx hb dX9_grows_59 (lv_at hl 5 rfl) ?_
      refine lv_aload_n hx hb dX9_grows_61 rfl (lv_at hl 0 rfl) ?_
      refine va_get (D := G) (ci := 7) (v := .int x_points) (C := RX9) (T := TX9) (N := 37) hx hb hts inX9w hown hK hP 0 rfl rfl 0 (by decide) wd4 (fun _ h9 => h9) rfl dX9_grows_62 ?_
      refine lv_icmp_ge (tgt := 103) hx hb dX9_grows_65 (by decide) (fun c1 => ?_) (fun c1 => ?_)
      · have hf := it hf c1
        refine lv_iconst (v := 1) hx hb dX9_grows_103 (by decide) ?_
        obtain ⟨e0, e1, e2, e3⟩ := rt4 hf
        have hP : va_P G vwCl [(qx 0, oX9 qx x_points x_lines x_tide x_isKept x_isMuch x_sum x_once x_twice x_isTermMuch x_nodes o_x_newMany x_isTooGreat x_come x_foundSet), (qx 6, .inl (Y 0, 40, .inl x_low)), (qx 7, .inl (Y 0, 40, .inl x_high)), (qx 21, .inl (Y 0, 300, .inl o_x_newPoint)), (qx 22, .inl (Y 0, 300, .inl o_x_newOver))] H := by rw [← e1, ← e2, ← e3]; exact hP
        have hD : va_D A [(qx 0, oX9 qx x_points x_lines x_tide x_isKept x_isMuch x_sum x_once x_twice x_isTermMuch x_nodes o_x_newMany x_isTooGreat x_come x_foundSet), (qx 6, .inl (Y 0, 40, .inl x_low)), (qx 7, .inl (Y 0, 40, .inl x_high)), (qx 21, .inl (Y 0, 300, .inl o_x_newPoint)), (qx 22, .inl (Y 0, 300, .inl o_x_newOver))] := by rw [← e1, ← e2, ← e3]; exact hD
        exact W.zret (v := (1 : Int32)) hx hb hr rfl (fun t ht hW => ⟨⟨(1 : Int32), (), rfl, e0, by rw [ht]; exact hP, va_K.moved hW.alike hK, by rw [hAe]; exact hD⟩, hS.F ht⟩) hS.2.2 dX9_grows_104
      · have hf := ie hf c1
        refine lv_iload hx hb dX9_grows_68 (lv_at hl 4 rfl) ?_
        refine lv_i2l hx hb dX9_grows_70 rfl ?_
        refine lv_iload hx hb dX9_grows_71 (lv_at hl 5 rfl) ?_
        obtain ⟨r2, hc, hf⟩ := bd1 hf
        refine cl_i (ws' := [(qx 0, oX9 qx x_points x_lines x_tide x_isKept x_isMuch x_sum x_once x_twice x_isTermMuch x_nodes b_x_newMany x_isTooGreat x_come x_foundSet), (qx 6, .inl (Y 0, 40, .inl x_low)), (qx 7, .inl (Y 0, 40, .inl x_high)), (qx 21, .inl (Y 0, 300, .inl b_x_newPoint)), (qx 22, .inl (Y 0, 300, .inl b_x_newOver))]) (wr := [(qx 0, oX9 qx x_points x_lines x_tide x_isKept x_isMuch x_sum x_once x_twice x_isTermMuch x_nodes b_x_newMany x_isTooGreat x_come x_foundSet), (qx 6, .inl (Y 0, 40, .inl x_low)), (qx 7, .inl (Y 0, 40, .inl x_high)), (qx 21, .inl (Y 0, 300, .inl b_x_newPoint)), (qx 22, .inl (Y 0, 300, .inl b_x_newOver))]) (rnS (As := [.long x5.toInt64, .int x6]) (rest := []) ⟨hx, hb, hml, hown, hts⟩ (c_X9_has l G Y H.size x5.toInt64 x6 r2 hc) (va_cwS 2 hts gX9_grows_X9_has rfl rfl rfl (by decide +kernel) ⟨(by first | exact Nat.le_of_ble_eq_true rfl | (show _ ≤ _ + _; simp only [List.map, List.sum_cons, List.sum_nil]; omega) | (simp [headSpec, rmk]; omega)), (by first | exact Nat.le_of_ble_eq_true rfl | (show _ ≤ _ + _; simp only [List.map, List.sum_cons, List.sum_nil]; omega) | (simp [headSpec, rmk]; omega))⟩) trivial okT hK hP hD [] rfl rfl rfl hl.1 rfl (Nat.le_of_ble_eq_true rfl) dX9_grows_73) hP hD hS hA [] [0, 1, 2, 3, 4] [0, 1, 2, 3, 4] rfl rfl rfl (by decide) rfl rfl (fun H locs hP hD hS => ?_)
        refine lv_if_eq (tgt := 97) hx hb dX9_grows_76 (by decide) (fun c3 => ?_) (fun c3 => ?_)
        · have hf := it hf c3
          obtain ⟨v4, e_v4⟩ : ∃ z : Int32, z = (x6 + 1) := ⟨_, rfl⟩
          have hf := nm_at hf e_v4
          refine lv_iinc (v := v4) (lv' := [(6, .int v4), (0, .ref (qx 0)), (1, .int p1), (3, .int p3), (4, .int x4), (5, .int x5)]) hx hb dX9_grows_97 hl (k := 5) rfl (by rw [e_v4]; rfl) (by decide) rfl (fun ls hl => ?_)
          refine lv_goto (tgt := 59) hx hb dX9_grows_100 (by decide) ?_
          exact ih59 b_x_newPoint b_x_newOver b_x_newMany x4 x5 v4 hf _ _ hP hD hS ls (lv_sub hl [1, 2, 3, 4, 5, 0] rfl)
        · have hf := ie hf c3
          refine lv_aload_n hx hb dX9_grows_79 rfl (lv_at hl 0 rfl) ?_
          refine lv_iload hx hb dX9_grows_80 (lv_at hl 5 rfl) ?_
          refine lv_iload hx hb dX9_grows_82 (lv_at hl 3 rfl) ?_
          refine lv_iload_n hx hb dX9_grows_84 rfl (lv_at hl 2 rfl) ?_
          refine lv_iconst (v := 1) hx hb dX9_grows_85 (by decide) ?_
          refine lv_iload_n hx hb dX9_grows_86 rfl (lv_at hl 1 rfl) ?_
          refine lv_ishl hx hb dX9_grows_87 ?_
          refine lv_ior hx hb dX9_grows_88 ?_
          obtain ⟨r5, w6, w7, w8, hc, hf⟩ := bd4 hf
          refine cl_i (ws' := [(qx 0, oX9 qx x_points x_lines x_tide x_isKept x_isMuch x_sum x_once x_twice x_isTermMuch x_nodes w8 x_isTooGreat x_come x_foundSet), (qx 6, .inl (Y 0, 40, .inl x_low)), (qx 7, .inl (Y 0, 40, .inl x_high)), (qx 21, .inl (Y 0, 300, .inl w6)), (qx 22, .inl (Y 0, 300, .inl w7))]) (wr := []) (rnV (As := [.int x6, .int x4, .int (p3 ||| ((1 : Int32) <<< (p1 &&& 31)))]) (rest := []) ⟨hx, hb, hml, hown, hts⟩ (ihd H.size qx x_points x_lines x_tide x_low x_high x_isKept x_isMuch x_sum x_once x_twice x_isTermMuch b_x_newPoint b_x_newOver x_nodes b_x_newMany x_isTooGreat x_come x_foundSet x6 x4 (p3 ||| ((1 : Int32) <<< (p1 &&& 31))) r5 w6 w7 w8 hc) (cwV 3 hts gX9_grows_X9_grows rfl rfl rfl (by decide +kernel) ⟨by show _ + _ + 1 ≤ _ + (_ + 1); omega, by show 8 + (_ + 11) + (_ + _ * _) ≤ _ + _ * (_ + 1); omega⟩) trivial okT hK hP hD [0, 1, 2, 3, 4] rfl rfl (ci := 7) (q0 := 0) rfl rfl rfl rfl hl.1 rfl (Nat.le_of_ble_eq_true rfl) dX9_grows_89) hP hD hS hA [0, 1, 2, 3, 4] [] [0, 1, 2, 3, 4] rfl rfl rfl (by decide) rfl rfl (fun H locs hP hD hS => ?_)
          refine lv_if_ne (tgt := 97) hx hb dX9_grows_92 (by decide) (fun c9 => ?_) (fun c9 => ?_)
          · have hf := ie hf c9
            obtain ⟨v10, e_v10⟩ : ∃ z : Int32, z = (x6 + 1) := ⟨_, rfl⟩
            have hf := nm_at hf e_v10
            refine lv_iinc (v := v10) (lv' := [(6, .int v10), (0, .ref (qx 0)), (1, .int p1), (3, .int p3), (4, .int x4), (5, .int x5)]) hx hb dX9_grows_97 hl (k := 5) rfl (by rw [e_v10]; rfl) (by decide) rfl (fun ls hl => ?_)
            refine lv_goto (tgt := 59) hx hb dX9_grows_100 (by decide) ?_
            exact ih59 w6 w7 w8 x4 x5 v10 hf _ _ hP hD hS ls (lv_sub hl [1, 2, 3, 4, 5, 0] rfl)
          · have hf := it hf c9
            refine lv_iconst (v := 0) hx hb dX9_grows_95 (by decide) ?_
            obtain ⟨e0, e1, e2, e3⟩ := rt4 hf
            have hP : va_P G vwCl [(qx 0, oX9 qx x_points x_lines x_tide x_isKept x_isMuch x_sum x_once x_twice x_isTermMuch x_nodes o_x_newMany x_isTooGreat x_come x_foundSet), (qx 6, .inl (Y 0, 40, .inl x_low)), (qx 7, .inl (Y 0, 40, .inl x_high)), (qx 21, .inl (Y 0, 300, .inl o_x_newPoint)), (qx 22, .inl (Y 0, 300, .inl o_x_newOver))] H := by rw [← e1, ← e2, ← e3]; exact hP
            have hD : va_D A [(qx 0, oX9 qx x_points x_lines x_tide x_isKept x_isMuch x_sum x_once x_twice x_isTermMuch x_nodes o_x_newMany x_isTooGreat x_come x_foundSet), (qx 6, .inl (Y 0, 40, .inl x_low)), (qx 7, .inl (Y 0, 40, .inl x_high)), (qx 21, .inl (Y 0, 300, .inl o_x_newPoint)), (qx 22, .inl (Y 0, 300, .inl o_x_newOver))] := by rw [← e1, ← e2, ← e3]; exact hD
            exact W.zret (v := (0 : Int32)) hx hb hr rfl (fun t ht hW => ⟨⟨(0 : Int32), (), rfl, e0, by rw [ht]; exact hP, va_K.moved hW.alike hK, by rw [hAe]; exact hD⟩, hS.F ht⟩) hS.2.2 dX9_grows_96
  have E0 : ∀ (H : Heap) (locs : List Loc), va_P G vwCl [(qx 0, oX9 qx x_points x_lines x_tide x_isKept x_isMuch x_sum x_once x_twice x_isTermMuch x_nodes x_newMany x_isTooGreat x_come x_foundSet), (qx 6, .inl (Y 0, 40, .inl x_low)), (qx 7, .inl (Y 0, 40, .inl x_high)), (qx 21, .inl (Y 0, 300, .inl x_newPoint)), (qx 22, .inl (Y 0, 300, .inl x_newOver))] H → va_D A [(qx 0, oX9 qx x_points x_lines x_tide x_isKept x_isMuch x_sum x_once x_twice x_isTermMuch x_nodes x_newMany x_isTooGreat x_come x_foundSet), (qx 6, .inl (Y 0, 40, .inl x_low)), (qx 7, .inl (Y 0, 40, .inl x_high)), (qx 21, .inl (Y 0, 300, .inl x_newPoint)), (qx 22, .inl (Y 0, 300, .inl x_newOver))] → va_S A s.heap H locs → ∀ (ls : Array Slot), lv_has ls 7 [(0, .ref (qx 0)), (1, .int p1), (2, .int p2), (3, .int p3)] → W p l e (headSpec wsX9_grows (rmk (1 + (d + 1)) (24 + 26 * (d + 1)))).room s m [.ref (qx 0), .int p1, .int p2, .int p3].toArray below meth c H locs 0 0 (MQ below (va_Qi (fun (r : Int32) (_ : Unit) => r = rv) (Pst G (tys Y) [(qx 0, oX9 qx x_points x_lines x_tide x_isKept x_isMuch x_sum x_once x_twice x_isTermMuch x_nodes x_newMany x_isTooGreat x_come x_foundSet), (qx 6, .inl (Y 0, 40, .inl x_low)), (qx 7, .inl (Y 0, 40, .inl x_high)), (qx 21, .inl (Y 0, 300, .inl x_newPoint)), (qx 22, .inl (Y 0, 300, .inl x_newOver))] s.heap.size [(qx 0, oX9 qx x_points x_lines x_tide x_isKept x_isMuch x_sum x_once x_twice x_isTermMuch x_nodes o_x_newMany x_isTooGreat x_come x_foundSet), (qx 6, .inl (Y 0, 40, .inl x_low)), (qx 7, .inl (Y 0, 40, .inl x_high)), (qx 21, .inl (Y 0, 300, .inl o_x_newPoint)), (qx 22, .inl (Y 0, 300, .inl o_x_newOver))]) A) [.ref (qx 0), .int p1, .int p2, .int p3].toArray s 0 0 A) (F0 m 0 ls []) := by
    intro H locs hP hD hS ls hl
    unfold f_X9_grows_st at hf
    refine lv_aload_n hx hb dX9_grows_0 rfl (lv_at hl 0 rfl) ?_
    refine va_get (D := G) (ci := 7) (v := .int x_newMany) (C := RX9) (T := TX9) (N := 37) hx hb hts inX9w hown hK hP 0 rfl rfl 23 (by decide) wd1 (fun _ h9 => h9) rfl dX9_grows_1 ?_
    refine lv_sipush (v := 300) hx hb dX9_grows_4 (by decide) ?_
    refine lv_icmp_ne (tgt := 12) hx hb dX9_grows_7 (by decide) (fun c11 => ?_) (fun c11 => ?_)
    · have hf := ie hf c11
      refine lv_aload_n hx hb dX9_grows_12 rfl (lv_at hl 0 rfl) ?_
      refine va_get (D := G) (ci := 7) (v := .int x_newMany) (C := RX9) (T := TX9) (N := 37) hx hb hts inX9w hown hK hP 0 rfl rfl 23 (by decide) wd1 (fun _ h9 => h9) rfl dX9_grows_13 ?_
      refine lv_istore (lv' := [(4, .int x_newMany), (0, .ref (qx 0)), (1, .int p1), (2, .int p2), (3, .int p3)]) hx hb dX9_grows_16 hl (by decide) rfl (fun ls hl => ?_)
      refine lv_aload_n hx hb dX9_grows_18 rfl (lv_at hl 1 rfl) ?_
      refine va_get (D := G) (ci := 7) (v := .ref (qx 21)) (C := RX9) (T := TX9) (N := 37) hx hb hts inX9w hown hK hP 0 rfl rfl 20 (by decide) wd2 (fun _ h9 => h9) rfl dX9_grows_19 ?_
      refine lv_iload hx hb dX9_grows_22 (lv_at hl 0 rfl) ?_
      refine lv_iload_n hx hb dX9_grows_24 rfl (lv_at hl 2 rfl) ?_
      obtain ⟨g12, hf⟩ := gd hf
      refine va_iast hx hb hK hP hD hS 3 0 rfl rfl g12 dX9_grows_25 (fun H locs hP hD hS => ?_)
      obtain ⟨v13, e_v13⟩ : ∃ z : Nat → Int32, z = upd x_newPoint x_newMany.toNatClampNeg p1 := ⟨_, rfl⟩
      have hf := nm_at hf e_v13
      have hP : va_P G vwCl [(qx 0, oX9 qx x_points x_lines x_tide x_isKept x_isMuch x_sum x_once x_twice x_isTermMuch x_nodes x_newMany x_isTooGreat x_come x_foundSet), (qx 6, .inl (Y 0, 40, .inl x_low)), (qx 7, .inl (Y 0, 40, .inl x_high)), (qx 21, .inl (Y 0, 300, .inl v13)), (qx 22, .inl (Y 0, 300, .inl x_newOver))] H := by rw [e_v13]; exact hP
      have hD : va_D A [(qx 0, oX9 qx x_points x_lines x_tide x_isKept x_isMuch x_sum x_once x_twice x_isTermMuch x_nodes x_newMany x_isTooGreat x_come x_foundSet), (qx 6, .inl (Y 0, 40, .inl x_low)), (qx 7, .inl (Y 0, 40, .inl x_high)), (qx 21, .inl (Y 0, 300, .inl v13)), (qx 22, .inl (Y 0, 300, .inl x_newOver))] := by rw [e_v13]; exact hD
      refine lv_aload_n hx hb dX9_grows_26 rfl (lv_at hl 1 rfl) ?_
      refine va_get (D := G) (ci := 7) (v := .ref (qx 22)) (C := RX9) (T := TX9) (N := 37) hx hb hts inX9w hown hK hP 0 rfl rfl 21 (by decide) wd3 (fun _ h9 => h9) rfl dX9_grows_27 ?_
      refine lv_iload hx hb dX9_grows_30 (lv_at hl 0 rfl) ?_
      refine lv_iload_n hx hb dX9_grows_32 rfl (lv_at hl 3 rfl) ?_
      obtain ⟨g14, hf⟩ := gd hf
      refine va_iast hx hb hK hP hD hS 4 0 rfl rfl g14 dX9_grows_33 (fun H locs hP hD hS => ?_)
      obtain ⟨v15, e_v15⟩ : ∃ z : Nat → Int32, z = upd x_newOver x_newMany.toNatClampNeg p2 := ⟨_, rfl⟩
      have hf := nm_at hf e_v15
      have hP : va_P G vwCl [(qx 0, oX9 qx x_points x_lines x_tide x_isKept x_isMuch x_sum x_once x_twice x_isTermMuch x_nodes x_newMany x_isTooGreat x_come x_foundSet), (qx 6, .inl (Y 0, 40, .inl x_low)), (qx 7, .inl (Y 0, 40, .inl x_high)), (qx 21, .inl (Y 0, 300, .inl v13)), (qx 22, .inl (Y 0, 300, .inl v15))] H := by rw [e_v15]; exact hP
      have hD : va_D A [(qx 0, oX9 qx x_points x_lines x_tide x_isKept x_isMuch x_sum x_once x_twice x_isTermMuch x_nodes x_newMany x_isTooGreat x_come x_foundSet), (qx 6, .inl (Y 0, 40, .inl x_low)), (qx 7, .inl (Y 0, 40, .inl x_high)), (qx 21, .inl (Y 0, 300, .inl v13)), (qx 22, .inl (Y 0, 300, .inl v15))] := by rw [e_v15]; exact hD
      refine lv_aload_n hx hb dX9_grows_34 rfl (lv_at hl 1 rfl) ?_
      refine lv_dup hx hb dX9_grows_35 rfl ?_
      refine va_get (D := G) (ci := 7) (v := .int x_newMany) (C := RX9) (T := TX9) (N := 37) hx hb hts inX9w hown hK hP 0 rfl rfl 23 (by decide) wd1 (fun _ h9 => h9) rfl dX9_grows_36 ?_
      refine lv_iconst (v := 1) hx hb dX9_grows_39 (by decide) ?_
      refine lv_iadd hx hb dX9_grows_40 ?_
      refine lv_topi (fun v16 e_v16 => ?_)
      have hf := nm_at hf e_v16
      refine va_put (D := G) (ci := 7) (v := .int v16) (ty := .int) (C := RX9) (T := TX9) (N := 37) hx hb hts inX9w tyX9 tyX9_ok nmX9 hown hK hP hD hS 0 rfl rfl 23 (by decide) wd1 (fun _ h9 => h9) rfl (by decide +kernel) rfl rfl (Nat.le_of_ble_eq_true rfl) dX9_grows_41 (fun H locs hP hD hS => ?_)
      have hP : va_P G vwCl [(qx 0, oX9 qx x_points x_lines x_tide x_isKept x_isMuch x_sum x_once x_twice x_isTermMuch x_nodes v16 x_isTooGreat x_come x_foundSet), (qx 6, .inl (Y 0, 40, .inl x_low)), (qx 7, .inl (Y 0, 40, .inl x_high)), (qx 21, .inl (Y 0, 300, .inl v13)), (qx 22, .inl (Y 0, 300, .inl v15))] H := hP
      have hD : va_D A [(qx 0, oX9 qx x_points x_lines x_tide x_isKept x_isMuch x_sum x_once x_twice x_isTermMuch x_nodes v16 x_isTooGreat x_come x_foundSet), (qx 6, .inl (Y 0, 40, .inl x_low)), (qx 7, .inl (Y 0, 40, .inl x_high)), (qx 21, .inl (Y 0, 300, .inl v13)), (qx 22, .inl (Y 0, 300, .inl v15))] := hD
      refine lv_aload_n hx hb dX9_grows_44 rfl (lv_at hl 1 rfl) ?_
      refine lv_iload_n hx hb dX9_grows_45 rfl (lv_at hl 2 rfl) ?_
      refine lv_iload_n hx hb dX9_grows_46 rfl (lv_at hl 4 rfl) ?_
      refine lv_iconst (v := 1) hx hb dX9_grows_47 (by decide) ?_
      refine lv_iload_n hx hb dX9_grows_48 rfl (lv_at hl 2 rfl) ?_
      refine lv_ishl hx hb dX9_grows_49 ?_
      refine lv_ior hx hb dX9_grows_50 ?_
      obtain ⟨r17, hc, hf⟩ := bd1 hf
      refine cl_i (ws' := [(qx 0, oX9 qx x_points x_lines x_tide x_isKept x_isMuch x_sum x_once x_twice x_isTermMuch x_nodes v16 x_isTooGreat x_come x_foundSet), (qx 6, .inl (Y 0, 40, .inl x_low)), (qx 7, .inl (Y 0, 40, .inl x_high)), (qx 21, .inl (Y 0, 300, .inl v13)), (qx 22, .inl (Y 0, 300, .inl v15))]) (wr := [(qx 21, .inl (Y 0, 300, .inl v13)), (qx 22, .inl (Y 0, 300, .inl v15))]) (rnV (As := [.int p1, .int (p3 ||| ((1 : Int32) <<< (p1 &&& 31)))]) (rest := []) ⟨hx, hb, hml, hown, hts⟩ (c_X9_nearOf l G Y H.size qx x_points x_lines x_tide x_low x_high x_isKept x_isMuch x_sum x_once x_twice x_isTermMuch x_nodes v16 x_isTooGreat x_come x_foundSet p1 (p3 ||| ((1 : Int32) <<< (p1 &&& 31))) r17 hc) (cwV 2 hts gX9_grows_X9_nearOf rfl rfl rfl (by decide +kernel) ⟨(by first | exact Nat.le_of_ble_eq_true rfl | (show _ ≤ _ + _; simp only [List.map, List.sum_cons, List.sum_nil]; omega) | (simp [headSpec, rmk]; omega)), (by first | exact Nat.le_of_ble_eq_true rfl | (show _ ≤ _ + _; simp only [List.map, List.sum_cons, List.sum_nil]; omega) | (simp [headSpec, rmk]; omega))⟩) trivial okT hK hP hD [0, 1, 2] rfl rfl (ci := 7) (q0 := 0) rfl rfl rfl rfl hl.1 rfl (Nat.le_of_ble_eq_true rfl) dX9_grows_51) hP hD hS hA [0, 1, 2] [3, 4] [2, 3, 4, 0, 1] rfl rfl rfl (by decide) rfl rfl (fun H locs hP hD hS => ?_)
      refine lv_istore (lv' := [(5, .int r17), (4, .int x_newMany), (0, .ref (qx 0)), (1, .int p1), (2, .int p2), (3, .int p3)]) hx hb dX9_grows_54 hl (by decide) rfl (fun ls hl => ?_)
      refine lv_iconst (v := 0) hx hb dX9_grows_56 (by decide) ?_
      refine lv_istore (lv' := [(6, .int (0 : Int32)), (5, .int r17), (4, .int x_newMany), (0, .ref (qx 0)), (1, .int p1), (2, .int p2), (3, .int p3)]) hx hb dX9_grows_57 hl (by decide) rfl (fun ls hl => ?_)
      exact B59 70 v13 v15 v16 x_newMany r17 (0 : Int32) hf _ _ hP hD hS ls (lv_sub hl [3, 4, 6, 2, 1, 0] rfl)
    · have hf := it hf c11
      refine lv_iconst (v := 0) hx hb dX9_grows_10 (by decide) ?_
      obtain ⟨e0, e1, e2, e3⟩ := rt4 hf
      have hP : va_P G vwCl [(qx 0, oX9 qx x_points x_lines x_tide x_isKept x_isMuch x_sum x_once x_twice x_isTermMuch x_nodes o_x_newMany x_isTooGreat x_come x_foundSet), (qx 6, .inl (Y 0, 40, .inl x_low)), (qx 7, .inl (Y 0, 40, .inl x_high)), (qx 21, .inl (Y 0, 300, .inl o_x_newPoint)), (qx 22, .inl (Y 0, 300, .inl o_x_newOver))] H := by rw [← e1, ← e2, ← e3]; exact hP
      have hD : va_D A [(qx 0, oX9 qx x_points x_lines x_tide x_isKept x_isMuch x_sum x_once x_twice x_isTermMuch x_nodes o_x_newMany x_isTooGreat x_come x_foundSet), (qx 6, .inl (Y 0, 40, .inl x_low)), (qx 7, .inl (Y 0, 40, .inl x_high)), (qx 21, .inl (Y 0, 300, .inl o_x_newPoint)), (qx 22, .inl (Y 0, 300, .inl o_x_newOver))] := by rw [← e1, ← e2, ← e3]; exact hD
      exact W.zret (v := (0 : Int32)) hx hb hr rfl (fun t ht hW => ⟨⟨(0 : Int32), (), rfl, e0, by rw [ht]; exact hP, va_K.moved hW.alike hK, by rw [hAe]; exact hD⟩, hS.F ht⟩) hS.2.2 dX9_grows_11
  exact E0 s.heap [] hP hD hS ls hl
-- X9_tree
set_option maxRecDepth 100000 in
set_option maxHeartbeats 4000000 in
theorem c_X9_tree (l : Launch) (G : va_G) (Y : Nat → ClassId) (sz : Nat) (qx : Nat → Nat) (x_points : Int32) (x_lines : Int32) (x_tide : Int32) (x_low : Nat → Int32) (x_high : Nat → Int32) (x_isKept : Int32) (x_isMuch : Int32) (x_sum : Int64) (x_once : Int64) (x_twice : Int64) (x_isTermMuch : Int32) (x_nodePoint : Nat → Int32) (x_nodeOver : Nat → Int32) (x_newPoint : Nat → Int32) (x_newOver : Nat → Int32) (x_nodes : Int32) (x_newMany : Int32) (x_isTooGreat : Int32) (x_come : Int32) (x_foundSet : Int64) (p1 : Int32) (p2 : Int32) (rv : Int32) (o_x_nodePoint : Nat → Int32) (o_x_nodeOver : Nat → Int32) (o_x_newPoint : Nat → Int32) (o_x_newOver : Nat → Int32) (o_x_nodes : Int32) (o_x_newMany : Int32) (hf : f_X9_tree x_points x_lines x_low x_high x_nodePoint x_nodeOver x_newPoint x_newOver x_nodes x_newMany p1 p2 = some (rv, o_x_nodePoint, o_x_nodeOver, o_x_newPoint, o_x_newOver, o_x_nodes, o_x_newMany)) : Met l yX9_tree wsX9_tree (rmk 18 466) (va_Pc [.ref (qx 0), .int p1, .int p2] (Pre G (tys Y) [(qx 0, oX9 qx x_points x_lines x_tide x_isKept x_isMuch x_sum x_once x_twice x_isTermMuch x_nodes x_newMany x_isTooGreat x_come x_foundSet), (qx 6, .inl (Y 0, 40, .inl x_low)), (qx 7, .inl (Y 0, 40, .inl x_high)), (qx 19, .inl (Y 0, 300, .inl x_nodePoint)), (qx 20, .inl (Y 0, 300, .inl x_nodeOver)), (qx 21, .inl (Y 0, 300, .inl x_newPoint)), (qx 22, .inl (Y 0, 300, .inl x_newOver))] sz xT)) (va_Qi (fun (r : Int32) (_ : Unit) => r = rv) (Pst G (tys Y) [(qx 0, oX9 qx x_points x_lines x_tide x_isKept x_isMuch x_sum x_once x_twice x_isTermMuch x_nodes x_newMany x_isTooGreat x_come x_foundSet), (qx 6, .inl (Y 0, 40, .inl x_low)), (qx 7, .inl (Y 0, 40, .inl x_high)), (qx 19, .inl (Y 0, 300, .inl x_nodePoint)), (qx 20, .inl (Y 0, 300, .inl x_nodeOver)), (qx 21, .inl (Y 0, 300, .inl x_newPoint)), (qx 22, .inl (Y 0, 300, .inl x_newOver))] sz [(qx 0, oX9 qx x_points x_lines x_tide x_isKept x_isMuch x_sum x_once x_twice x_isTermMuch o_x_nodes o_x_newMany x_isTooGreat x_come x_foundSet), (qx 6, .inl (Y 0, 40, .inl x_low)), (qx 7, .inl (Y 0, 40, .inl x_high)), (qx 19, .inl (Y 0, 300, .inl o_x_nodePoint)), (qx 20, .inl (Y 0, 300, .inl o_x_nodeOver)), (qx 21, .inl (Y 0, 300, .inl o_x_newPoint)), (qx 22, .inl (Y 0, 300, .inl o_x_newOver))]) (va_A [(qx 0, oX9 qx x_points x_lines x_tide x_isKept x_isMuch x_sum x_once x_twice x_isTermMuch x_nodes x_newMany x_isTooGreat x_come x_foundSet), (qx 6, .inl (Y 0, 40, .inl x_low)), (qx 7, .inl (Y 0, 40, .inl x_high)), (qx 19, .inl (Y 0, 300, .inl x_nodePoint)), (qx 20, .inl (Y 0, 300, .inl x_nodeOver)), (qx 21, .inl (Y 0, 300, .inl x_newPoint)), (qx 22, .inl (Y 0, 300, .inl x_newOver))] sz)) 0 0 (va_A [(qx 0, oX9 qx x_points x_lines x_tide x_isKept x_isMuch x_sum x_once x_twice x_isTermMuch x_nodes x_newMany x_isTooGreat x_come x_foundSet), (qx 6, .inl (Y 0, 40, .inl x_low)), (qx 7, .inl (Y 0, 40, .inl x_high)), (qx 19, .inl (Y 0, 300, .inl x_nodePoint)), (qx 20, .inl (Y 0, 300, .inl x_nodeOver)), (qx 21, .inl (Y 0, 300, .inl x_newPoint)), (qx 22, .inl (Y 0, 300, .inl x_newOver))] sz) := by
  refine Met.ofW (cc := cX9_tree) (maxL := 4) (ret := (some .int)) (by decide) rfl ?_
  intro p e s m args below meth c s₁ B hml hv
  obtain ⟨rfl, hsz, hP, hK, hD0, hX⟩ := hv
  have hx := B.exec
  have hb := B.bytes
  have hr := B.returns
  have hts := atoms_spec (ws := wsX9_tree) B.pre
  have hown : s.vm.findClass RX9 = some m.cls := findClass_of_methodNamed B.named
  have hlocks := B.notSynchronized
  subst hsz
  have hD := hD0.self (sz := s.heap.size)
  generalize hAe : va_A [(qx 0, oX9 qx x_points x_lines x_tide x_isKept x_isMuch x_sum x_once x_twice x_isTermMuch x_nodes x_newMany x_isTooGreat x_come x_foundSet), (qx 6, .inl (Y 0, 40, .inl x_low)), (qx 7, .inl (Y 0, 40, .inl x_high)), (qx 19, .inl (Y 0, 300, .inl x_nodePoint)), (qx 20, .inl (Y 0, 300, .inl x_nodeOver)), (qx 21, .inl (Y 0, 300, .inl x_newPoint)), (qx 22, .inl (Y 0, 300, .inl x_newOver))] s.heap.size = A at hD ⊢
  have hA : ∀ q : Nat, s.heap.size ≤ q → A q := fun q h => by rw [← hAe]; exact Or.inr h
  have hS : va_S A s.heap s.heap [] := va_S.rf
  have hP : va_P G vwCl [(qx 0, oX9 qx x_points x_lines x_tide x_isKept x_isMuch x_sum x_once x_twice x_isTermMuch x_nodes x_newMany x_isTooGreat x_come x_foundSet), (qx 6, .inl (Y 0, 40, .inl x_low)), (qx 7, .inl (Y 0, 40, .inl x_high)), (qx 19, .inl (Y 0, 300, .inl x_nodePoint)), (qx 20, .inl (Y 0, 300, .inl x_nodeOver)), (qx 21, .inl (Y 0, 300, .inl x_newPoint)), (qx 22, .inl (Y 0, 300, .inl x_newOver))] s.heap := hP
  have wd1 : (Cond.fieldLink RX9 239 "PairedLinesModel" "newMany" "I").before [.ref (qx 0), .int p1, .int p2].toArray s = true := hts _ (List.mem_of_getElem? (i := 1) rfl)
  have wd2 : (Cond.fieldLink RX9 246 "PairedLinesModel" "nodes" "I").before [.ref (qx 0), .int p1, .int p2].toArray s = true := hts _ (List.mem_of_getElem? (i := 2) rfl)
  have wd3 : (Cond.fieldLink RX9 38 "PairedLinesModel" "nodePoint" "[I").before [.ref (qx 0), .int p1, .int p2].toArray s = true := hts _ (List.mem_of_getElem? (i := 3) rfl)
  have wd4 : (Cond.fieldLink RX9 44 "PairedLinesModel" "newPoint" "[I").before [.ref (qx 0), .int p1, .int p2].toArray s = true := hts _ (List.mem_of_getElem? (i := 4) rfl)
  have wd5 : (Cond.fieldLink RX9 41 "PairedLinesModel" "nodeOver" "[I").before [.ref (qx 0), .int p1, .int p2].toArray s = true := hts _ (List.mem_of_getElem? (i := 5) rfl)
  have wd6 : (Cond.fieldLink RX9 47 "PairedLinesModel" "newOver" "[I").before [.ref (qx 0), .int p1, .int p2].toArray s = true := hts _ (List.mem_of_getElem? (i := 6) rfl)
  have inX9w : ∀ w ∈ u_ws RX9 TX9 37, w ∈ wsX9_tree := fun w hw => List.mem_cons_of_mem _ (List.mem_append_right _ (hw))
  have hl := lv_entry ([.ref (qx 0), .int p1, .int p2]) (n := 4) (Nat.le_of_ble_eq_true rfl)
  rw [lg_entry_eq]
  generalize (lg_sl ([.ref (qx 0), .int p1, .int p2]) ++ List.replicate (4 - (lg_sl ([.ref (qx 0), .int p1, .int p2])).length) Slot.unset).toArray = ls at hl ⊢
  have hl : lv_has ls 4 [(0, .ref (qx 0)), (1, .int p1), (2, .int p2)] := hl
  have B55 : ∀ (n55 : Nat), ∀ (b_x_nodePoint : Nat → Int32) (b_x_nodeOver : Nat → Int32) (b_x_newPoint : Nat → Int32) (b_x_newOver : Nat → Int32) (b_x_nodes : Int32) (b_x_newMany : Int32) (x3 : Int32), f_X9_tree_b55 x_points x_lines x_low x_high p1 p2 n55 b_x_nodePoint b_x_nodeOver b_x_newPoint b_x_newOver b_x_nodes b_x_newMany x3 = some (rv, o_x_nodePoint, o_x_nodeOver, o_x_newPoint, o_x_newOver, o_x_nodes, o_x_newMany) → ∀ (H : Heap) (locs : List Loc), va_P G vwCl [(qx 0, oX9 qx x_points x_lines x_tide x_isKept x_isMuch x_sum x_once x_twice x_isTermMuch b_x_nodes b_x_newMany x_isTooGreat x_come x_foundSet), (qx 6, .inl (Y 0, 40, .inl x_low)), (qx 7, .inl (Y 0, 40, .inl x_high)), (qx 19, .inl (Y 0, 300, .inl b_x_nodePoint)), (qx 20, .inl (Y 0, 300, .inl b_x_nodeOver)), (qx 21, .inl (Y 0, 300, .inl b_x_newPoint)), (qx 22, .inl (Y 0, 300, .inl b_x_newOver))] H → va_D A [(qx 0, oX9 qx x_points x_lines x_tide x_isKept x_isMuch x_sum x_once x_twice x_isTermMuch b_x_nodes b_x_newMany x_isTooGreat x_come x_foundSet), (qx 6, .inl (Y 0, 40, .inl x_low)), (qx 7, .inl (Y 0, 40, .inl x_high)), (qx 19, .inl (Y 0, 300, .inl b_x_nodePoint)), (qx 20, .inl (Y 0, 300, .inl b_x_nodeOver)), (qx 21, .inl (Y 0, 300, .inl b_x_newPoint)), (qx 22, .inl (Y 0, 300, .inl b_x_newOver))] → va_S A s.heap H locs → ∀ (ls : Array Slot), lv_has ls 4 [(0, .ref (qx 0)), (3, .int x3)] → W p l e (headSpec wsX9_tree (rmk 18 466)).room s m [.ref (qx 0), .int p1, .int p2].toArray below meth c H locs 0 0 (MQ below (va_Qi (fun (r : Int32) (_ : Unit) => r = rv) (Pst G (tys Y) [(qx 0, oX9 qx x_points x_lines x_tide x_isKept x_isMuch x_sum x_once x_twice x_isTermMuch x_nodes x_newMany x_isTooGreat x_come x_foundSet), (qx 6, .inl (Y 0, 40, .inl x_low)), (qx 7, .inl (Y 0, 40, .inl x_high)), (qx 19, .inl (Y 0, 300, .inl x_nodePoint)), (qx 20, .inl (Y 0, 300, .inl x_nodeOver)), (qx 21, .inl (Y 0, 300, .inl x_newPoint)), (qx 22, .inl (Y 0, 300, .inl x_newOver))] s.heap.size [(qx 0, oX9 qx x_points x_lines x_tide x_isKept x_isMuch x_sum x_once x_twice x_isTermMuch o_x_nodes o_x_newMany x_isTooGreat x_come x_foundSet), (qx 6, .inl (Y 0, 40, .inl x_low)), (qx 7, .inl (Y 0, 40, .inl x_high)), (qx 19, .inl (Y 0, 300, .inl o_x_nodePoint)), (qx 20, .inl (Y 0, 300, .inl o_x_nodeOver)), (qx 21, .inl (Y 0, 300, .inl o_x_newPoint)), (qx 22, .inl (Y 0, 300, .inl o_x_newOver))]) A) [.ref (qx 0), .int p1, .int p2].toArray s 0 0 A) (F0 m 55 ls []) := by
    intro n55
    induction n55 with
    | zero =>
      intro b_x_nodePoint b_x_nodeOver b_x_newPoint b_x_newOver b_x_nodes b_x_newMany x3 hf H locs hP hD hS ls hl
      exact no_none hf
    | succ n55 ih55 =>
      intro b_x_nodePoint b_x_nodeOver b_x_newPoint b_x_newOver b_x_nodes b_x_newMany x3 hf H locs hP hD hS ls hl
      have hf : f_X9_tree_s55 x_points x_lines x_low x_high p1 p2 (f_X9_tree_b55 x_points x_lines x_low x_high p1 p2  n55) b_x_nodePoint b_x_nodeOver b_x_newPoint b_x_newOver b_x_nodes b_x_newMany x3 = some (rv, o_x_nodePoint, o_x_nodeOver, o_x_newPoint, o_x_newOver, o_x_nodes, o_x_newMany) := hf
      unfold f_X9_tree_s55 at hf
      refine lv_iload_n hx hb dX9_tree_55 rfl (lv_at hl 1 rfl) ?_
      refine lv_aload_n hx hb dX9_tree_56 rfl (lv_at hl 0 rfl) ?_
      refine va_get (D := G) (ci := 7) (v := .int b_x_nodes) (C := RX9) (T := TX9) (N := 37) hx hb hts inX9w hown hK hP 0 rfl rfl 22 (by decide) wd2 (fun _ h9 => h9) rfl dX9_tree_57 ?_
      refine lv_icmp_ge (tgt := 93) hx hb dX9_tree_60 (by decide) (fun c1 => ?_) (fun c1 => ?_)
      · have hf := it hf c1
        refine lv_aload_n hx hb dX9_tree_93 rfl (lv_at hl 0 rfl) ?_
        refine va_get (D := G) (ci := 7) (v := .int b_x_nodes) (C := RX9) (T := TX9) (N := 37) hx hb hts inX9w hown hK hP 0 rfl rfl 22 (by decide) wd2 (fun _ h9 => h9) rfl dX9_tree_94 ?_
        obtain ⟨e0, e1, e2, e3, e4, e5, e6⟩ := rt7 hf
        have hP : va_P G vwCl [(qx 0, oX9 qx x_points x_lines x_tide x_isKept x_isMuch x_sum x_once x_twice x_isTermMuch o_x_nodes o_x_newMany x_isTooGreat x_come x_foundSet), (qx 6, .inl (Y 0, 40, .inl x_low)), (qx 7, .inl (Y 0, 40, .inl x_high)), (qx 19, .inl (Y 0, 300, .inl o_x_nodePoint)), (qx 20, .inl (Y 0, 300, .inl o_x_nodeOver)), (qx 21, .inl (Y 0, 300, .inl o_x_newPoint)), (qx 22, .inl (Y 0, 300, .inl o_x_newOver))] H := by rw [← e1, ← e2, ← e3, ← e4, ← e5, ← e6]; exact hP
        have hD : va_D A [(qx 0, oX9 qx x_points x_lines x_tide x_isKept x_isMuch x_sum x_once x_twice x_isTermMuch o_x_nodes o_x_newMany x_isTooGreat x_come x_foundSet), (qx 6, .inl (Y 0, 40, .inl x_low)), (qx 7, .inl (Y 0, 40, .inl x_high)), (qx 19, .inl (Y 0, 300, .inl o_x_nodePoint)), (qx 20, .inl (Y 0, 300, .inl o_x_nodeOver)), (qx 21, .inl (Y 0, 300, .inl o_x_newPoint)), (qx 22, .inl (Y 0, 300, .inl o_x_newOver))] := by rw [← e1, ← e2, ← e3, ← e4, ← e5, ← e6]; exact hD
        exact W.iret (v := b_x_nodes) hx hb hr (fun t ht hW => ⟨⟨b_x_nodes, (), rfl, e0, by rw [ht]; exact hP, va_K.moved hW.alike hK, by rw [hAe]; exact hD⟩, hS.F ht⟩) hS.2.2 dX9_tree_97
      · have hf := ie hf c1
        refine lv_aload_n hx hb dX9_tree_63 rfl (lv_at hl 0 rfl) ?_
        refine va_get (D := G) (ci := 7) (v := .ref (qx 19)) (C := RX9) (T := TX9) (N := 37) hx hb hts inX9w hown hK hP 0 rfl rfl 18 (by decide) wd3 (fun _ h9 => h9) rfl dX9_tree_64 ?_
        refine lv_iload_n hx hb dX9_tree_67 rfl (lv_at hl 1 rfl) ?_
        refine lv_aload_n hx hb dX9_tree_68 rfl (lv_at hl 0 rfl) ?_
        refine va_get (D := G) (ci := 7) (v := .ref (qx 21)) (C := RX9) (T := TX9) (N := 37) hx hb hts inX9w hown hK hP 0 rfl rfl 20 (by decide) wd4 (fun _ h9 => h9) rfl dX9_tree_69 ?_
        refine lv_iload_n hx hb dX9_tree_72 rfl (lv_at hl 1 rfl) ?_
        obtain ⟨g2, hf⟩ := gd hf
        refine va_iald hx hb hK hP 5 0 rfl rfl g2 dX9_tree_73 ?_
        obtain ⟨g3, hf⟩ := gd hf
        refine va_iast hx hb hK hP hD hS 3 0 rfl rfl g3 dX9_tree_74 (fun H locs hP hD hS => ?_)
        obtain ⟨v4, e_v4⟩ : ∃ z : Nat → Int32, z = upd b_x_nodePoint x3.toNatClampNeg (b_x_newPoint x3.toNatClampNeg) := ⟨_, rfl⟩
        have hf := nm_at hf e_v4
        have hP : va_P G vwCl [(qx 0, oX9 qx x_points x_lines x_tide x_isKept x_isMuch x_sum x_once x_twice x_isTermMuch b_x_nodes b_x_newMany x_isTooGreat x_come x_foundSet), (qx 6, .inl (Y 0, 40, .inl x_low)), (qx 7, .inl (Y 0, 40, .inl x_high)), (qx 19, .inl (Y 0, 300, .inl v4)), (qx 20, .inl (Y 0, 300, .inl b_x_nodeOver)), (qx 21, .inl (Y 0, 300, .inl b_x_newPoint)), (qx 22, .inl (Y 0, 300, .inl b_x_newOver))] H := by rw [e_v4]; exact hP
        have hD : va_D A [(qx 0, oX9 qx x_points x_lines x_tide x_isKept x_isMuch x_sum x_once x_twice x_isTermMuch b_x_nodes b_x_newMany x_isTooGreat x_come x_foundSet), (qx 6, .inl (Y 0, 40, .inl x_low)), (qx 7, .inl (Y 0, 40, .inl x_high)), (qx 19, .inl (Y 0, 300, .inl v4)), (qx 20, .inl (Y 0, 300, .inl b_x_nodeOver)), (qx 21, .inl (Y 0, 300, .inl b_x_newPoint)), (qx 22, .inl (Y 0, 300, .inl b_x_newOver))] := by rw [e_v4]; exact hD
        refine lv_aload_n hx hb dX9_tree_75 rfl (lv_at hl 0 rfl) ?_
        refine va_get (D := G) (ci := 7) (v := .ref (qx 20)) (C := RX9) (T := TX9) (N := 37) hx hb hts inX9w hown hK hP 0 rfl rfl 19 (by decide) wd5 (fun _ h9 => h9) rfl dX9_tree_76 ?_
        refine lv_iload_n hx hb dX9_tree_79 rfl (lv_at hl 1 rfl) ?_
        refine lv_aload_n hx hb dX9_tree_80 rfl (lv_at hl 0 rfl) ?_
        refine va_get (D := G) (ci := 7) (v := .ref (qx 22)) (C := RX9) (T := TX9) (N := 37) hx hb hts inX9w hown hK hP 0 rfl rfl 21 (by decide) wd6 (fun _ h9 => h9) rfl dX9_tree_81 ?_
        refine lv_iload_n hx hb dX9_tree_84 rfl (lv_at hl 1 rfl) ?_
        obtain ⟨g5, hf⟩ := gd hf
        refine va_iald hx hb hK hP 6 0 rfl rfl g5 dX9_tree_85 ?_
        obtain ⟨g6, hf⟩ := gd hf
        refine va_iast hx hb hK hP hD hS 4 0 rfl rfl g6 dX9_tree_86 (fun H locs hP hD hS => ?_)
        obtain ⟨v7, e_v7⟩ : ∃ z : Nat → Int32, z = upd b_x_nodeOver x3.toNatClampNeg (b_x_newOver x3.toNatClampNeg) := ⟨_, rfl⟩
        have hf := nm_at hf e_v7
        have hP : va_P G vwCl [(qx 0, oX9 qx x_points x_lines x_tide x_isKept x_isMuch x_sum x_once x_twice x_isTermMuch b_x_nodes b_x_newMany x_isTooGreat x_come x_foundSet), (qx 6, .inl (Y 0, 40, .inl x_low)), (qx 7, .inl (Y 0, 40, .inl x_high)), (qx 19, .inl (Y 0, 300, .inl v4)), (qx 20, .inl (Y 0, 300, .inl v7)), (qx 21, .inl (Y 0, 300, .inl b_x_newPoint)), (qx 22, .inl (Y 0, 300, .inl b_x_newOver))] H := by rw [e_v7]; exact hP
        have hD : va_D A [(qx 0, oX9 qx x_points x_lines x_tide x_isKept x_isMuch x_sum x_once x_twice x_isTermMuch b_x_nodes b_x_newMany x_isTooGreat x_come x_foundSet), (qx 6, .inl (Y 0, 40, .inl x_low)), (qx 7, .inl (Y 0, 40, .inl x_high)), (qx 19, .inl (Y 0, 300, .inl v4)), (qx 20, .inl (Y 0, 300, .inl v7)), (qx 21, .inl (Y 0, 300, .inl b_x_newPoint)), (qx 22, .inl (Y 0, 300, .inl b_x_newOver))] := by rw [e_v7]; exact hD
        obtain ⟨v8, e_v8⟩ : ∃ z : Int32, z = (x3 + 1) := ⟨_, rfl⟩
        have hf := nm_at hf e_v8
        refine lv_iinc (v := v8) (lv' := [(3, .int v8), (0, .ref (qx 0))]) hx hb dX9_tree_87 hl (k := 1) rfl (by rw [e_v8]; rfl) (by decide) rfl (fun ls hl => ?_)
        refine lv_goto (tgt := 55) hx hb dX9_tree_90 (by decide) ?_
        exact ih55 v4 v7 b_x_newPoint b_x_newOver b_x_nodes b_x_newMany v8 hf _ _ hP hD hS ls (lv_sub hl [1, 0] rfl)
  have E0 : ∀ (H : Heap) (locs : List Loc), va_P G vwCl [(qx 0, oX9 qx x_points x_lines x_tide x_isKept x_isMuch x_sum x_once x_twice x_isTermMuch x_nodes x_newMany x_isTooGreat x_come x_foundSet), (qx 6, .inl (Y 0, 40, .inl x_low)), (qx 7, .inl (Y 0, 40, .inl x_high)), (qx 19, .inl (Y 0, 300, .inl x_nodePoint)), (qx 20, .inl (Y 0, 300, .inl x_nodeOver)), (qx 21, .inl (Y 0, 300, .inl x_newPoint)), (qx 22, .inl (Y 0, 300, .inl x_newOver))] H → va_D A [(qx 0, oX9 qx x_points x_lines x_tide x_isKept x_isMuch x_sum x_once x_twice x_isTermMuch x_nodes x_newMany x_isTooGreat x_come x_foundSet), (qx 6, .inl (Y 0, 40, .inl x_low)), (qx 7, .inl (Y 0, 40, .inl x_high)), (qx 19, .inl (Y 0, 300, .inl x_nodePoint)), (qx 20, .inl (Y 0, 300, .inl x_nodeOver)), (qx 21, .inl (Y 0, 300, .inl x_newPoint)), (qx 22, .inl (Y 0, 300, .inl x_newOver))] → va_S A s.heap H locs → ∀ (ls : Array Slot), lv_has ls 4 [(0, .ref (qx 0)), (1, .int p1), (2, .int p2)] → W p l e (headSpec wsX9_tree (rmk 18 466)).room s m [.ref (qx 0), .int p1, .int p2].toArray below meth c H locs 0 0 (MQ below (va_Qi (fun (r : Int32) (_ : Unit) => r = rv) (Pst G (tys Y) [(qx 0, oX9 qx x_points x_lines x_tide x_isKept x_isMuch x_sum x_once x_twice x_isTermMuch x_nodes x_newMany x_isTooGreat x_come x_foundSet), (qx 6, .inl (Y 0, 40, .inl x_low)), (qx 7, .inl (Y 0, 40, .inl x_high)), (qx 19, .inl (Y 0, 300, .inl x_nodePoint)), (qx 20, .inl (Y 0, 300, .inl x_nodeOver)), (qx 21, .inl (Y 0, 300, .inl x_newPoint)), (qx 22, .inl (Y 0, 300, .inl x_newOver))] s.heap.size [(qx 0, oX9 qx x_points x_lines x_tide x_isKept x_isMuch x_sum x_once x_twice x_isTermMuch o_x_nodes o_x_newMany x_isTooGreat x_come x_foundSet), (qx 6, .inl (Y 0, 40, .inl x_low)), (qx 7, .inl (Y 0, 40, .inl x_high)), (qx 19, .inl (Y 0, 300, .inl o_x_nodePoint)), (qx 20, .inl (Y 0, 300, .inl o_x_nodeOver)), (qx 21, .inl (Y 0, 300, .inl o_x_newPoint)), (qx 22, .inl (Y 0, 300, .inl o_x_newOver))]) A) [.ref (qx 0), .int p1, .int p2].toArray s 0 0 A) (F0 m 0 ls []) := by
    intro H locs hP hD hS ls hl
    unfold f_X9_tree at hf
    refine lv_aload_n hx hb dX9_tree_0 rfl (lv_at hl 0 rfl) ?_
    refine lv_iload_n hx hb dX9_tree_1 rfl (lv_at hl 1 rfl) ?_
    obtain ⟨r9, hc, hf⟩ := bd1 hf
    refine cl_i (ws' := [(qx 0, oX9 qx x_points x_lines x_tide x_isKept x_isMuch x_sum x_once x_twice x_isTermMuch x_nodes x_newMany x_isTooGreat x_come x_foundSet), (qx 6, .inl (Y 0, 40, .inl x_low)), (qx 7, .inl (Y 0, 40, .inl x_high)), (qx 19, .inl (Y 0, 300, .inl x_nodePoint)), (qx 20, .inl (Y 0, 300, .inl x_nodeOver)), (qx 21, .inl (Y 0, 300, .inl x_newPoint)), (qx 22, .inl (Y 0, 300, .inl x_newOver))]) (wr := [(qx 6, .inl (Y 0, 40, .inl x_low)), (qx 7, .inl (Y 0, 40, .inl x_high)), (qx 19, .inl (Y 0, 300, .inl x_nodePoint)), (qx 20, .inl (Y 0, 300, .inl x_nodeOver)), (qx 21, .inl (Y 0, 300, .inl x_newPoint)), (qx 22, .inl (Y 0, 300, .inl x_newOver))]) (rnV (As := [.int p1]) (rest := []) ⟨hx, hb, hml, hown, hts⟩ (c_X9_isPoint l G Y H.size qx x_points x_lines x_tide x_isKept x_isMuch x_sum x_once x_twice x_isTermMuch x_nodes x_newMany x_isTooGreat x_come x_foundSet p1 r9 hc) (cwV 1 hts gX9_tree_X9_isPoint rfl rfl rfl (by decide +kernel) ⟨(Nat.le_of_ble_eq_true rfl), (Nat.le_of_ble_eq_true rfl)⟩) trivial okT hK hP hD [0] rfl rfl (ci := 7) (q0 := 0) rfl rfl rfl rfl hl.1 rfl (Nat.le_of_ble_eq_true rfl) dX9_tree_2) hP hD hS hA [0] [1, 2, 3, 4, 5, 6] [6, 0, 1, 2, 3, 4, 5] rfl rfl rfl (by decide) rfl rfl (fun H locs hP hD hS => ?_)
    refine lv_if_eq (tgt := 24) hx hb dX9_tree_5 (by decide) (fun c10 => ?_) (fun c10 => ?_)
    · have hf := it hf c10
      refine lv_bipush (v := -2) hx hb dX9_tree_24 (by decide) ?_
      obtain ⟨e0, e1, e2, e3, e4, e5, e6⟩ := rt7 hf
      have hP : va_P G vwCl [(qx 0, oX9 qx x_points x_lines x_tide x_isKept x_isMuch x_sum x_once x_twice x_isTermMuch o_x_nodes o_x_newMany x_isTooGreat x_come x_foundSet), (qx 6, .inl (Y 0, 40, .inl x_low)), (qx 7, .inl (Y 0, 40, .inl x_high)), (qx 19, .inl (Y 0, 300, .inl o_x_nodePoint)), (qx 20, .inl (Y 0, 300, .inl o_x_nodeOver)), (qx 21, .inl (Y 0, 300, .inl o_x_newPoint)), (qx 22, .inl (Y 0, 300, .inl o_x_newOver))] H := by rw [← e1, ← e2, ← e3, ← e4, ← e5, ← e6]; exact hP
      have hD : va_D A [(qx 0, oX9 qx x_points x_lines x_tide x_isKept x_isMuch x_sum x_once x_twice x_isTermMuch o_x_nodes o_x_newMany x_isTooGreat x_come x_foundSet), (qx 6, .inl (Y 0, 40, .inl x_low)), (qx 7, .inl (Y 0, 40, .inl x_high)), (qx 19, .inl (Y 0, 300, .inl o_x_nodePoint)), (qx 20, .inl (Y 0, 300, .inl o_x_nodeOver)), (qx 21, .inl (Y 0, 300, .inl o_x_newPoint)), (qx 22, .inl (Y 0, 300, .inl o_x_newOver))] := by rw [← e1, ← e2, ← e3, ← e4, ← e5, ← e6]; exact hD
      exact W.iret (v := (-2 : Int32)) hx hb hr (fun t ht hW => ⟨⟨(-2 : Int32), (), rfl, e0, by rw [ht]; exact hP, va_K.moved hW.alike hK, by rw [hAe]; exact hD⟩, hS.F ht⟩) hS.2.2 dX9_tree_26
    · have hf := ie hf c10
      refine lv_iload_n hx hb dX9_tree_8 rfl (lv_at hl 2 rfl) ?_
      obtain ⟨r11, hc, hf⟩ := bd1 hf
      refine cl_i (ws' := [(qx 0, oX9 qx x_points x_lines x_tide x_isKept x_isMuch x_sum x_once x_twice x_isTermMuch x_nodes x_newMany x_isTooGreat x_come x_foundSet), (qx 6, .inl (Y 0, 40, .inl x_low)), (qx 7, .inl (Y 0, 40, .inl x_high)), (qx 19, .inl (Y 0, 300, .inl x_nodePoint)), (qx 20, .inl (Y 0, 300, .inl x_nodeOver)), (qx 21, .inl (Y 0, 300, .inl x_newPoint)), (qx 22, .inl (Y 0, 300, .inl x_newOver))]) (wr := [(qx 0, oX9 qx x_points x_lines x_tide x_isKept x_isMuch x_sum x_once x_twice x_isTermMuch x_nodes x_newMany x_isTooGreat x_come x_foundSet), (qx 6, .inl (Y 0, 40, .inl x_low)), (qx 7, .inl (Y 0, 40, .inl x_high)), (qx 19, .inl (Y 0, 300, .inl x_nodePoint)), (qx 20, .inl (Y 0, 300, .inl x_nodeOver)), (qx 21, .inl (Y 0, 300, .inl x_newPoint)), (qx 22, .inl (Y 0, 300, .inl x_newOver))]) (rnS (As := [.int p2]) (rest := []) ⟨hx, hb, hml, hown, hts⟩ (c_X9_isOut l G Y H.size p2 r11 hc) (va_cwS 1 hts gX9_tree_X9_isOut rfl rfl rfl (by decide +kernel) ⟨(Nat.le_of_ble_eq_true rfl), (Nat.le_of_ble_eq_true rfl)⟩) trivial okT hK hP hD [] rfl rfl rfl hl.1 rfl (Nat.le_of_ble_eq_true rfl) dX9_tree_9) hP hD hS hA [] [0, 1, 2, 3, 4, 5, 6] [0, 1, 2, 3, 4, 5, 6] rfl rfl rfl (by decide) rfl rfl (fun H locs hP hD hS => ?_)
      refine lv_if_eq (tgt := 24) hx hb dX9_tree_12 (by decide) (fun c12 => ?_) (fun c12 => ?_)
      · have hf := it hf c12
        refine lv_bipush (v := -2) hx hb dX9_tree_24 (by decide) ?_
        obtain ⟨e0, e1, e2, e3, e4, e5, e6⟩ := rt7 hf
        have hP : va_P G vwCl [(qx 0, oX9 qx x_points x_lines x_tide x_isKept x_isMuch x_sum x_once x_twice x_isTermMuch o_x_nodes o_x_newMany x_isTooGreat x_come x_foundSet), (qx 6, .inl (Y 0, 40, .inl x_low)), (qx 7, .inl (Y 0, 40, .inl x_high)), (qx 19, .inl (Y 0, 300, .inl o_x_nodePoint)), (qx 20, .inl (Y 0, 300, .inl o_x_nodeOver)), (qx 21, .inl (Y 0, 300, .inl o_x_newPoint)), (qx 22, .inl (Y 0, 300, .inl o_x_newOver))] H := by rw [← e1, ← e2, ← e3, ← e4, ← e5, ← e6]; exact hP
        have hD : va_D A [(qx 0, oX9 qx x_points x_lines x_tide x_isKept x_isMuch x_sum x_once x_twice x_isTermMuch o_x_nodes o_x_newMany x_isTooGreat x_come x_foundSet), (qx 6, .inl (Y 0, 40, .inl x_low)), (qx 7, .inl (Y 0, 40, .inl x_high)), (qx 19, .inl (Y 0, 300, .inl o_x_nodePoint)), (qx 20, .inl (Y 0, 300, .inl o_x_nodeOver)), (qx 21, .inl (Y 0, 300, .inl o_x_newPoint)), (qx 22, .inl (Y 0, 300, .inl o_x_newOver))] := by rw [← e1, ← e2, ← e3, ← e4, ← e5, ← e6]; exact hD
        exact W.iret (v := (-2 : Int32)) hx hb hr (fun t ht hW => ⟨⟨(-2 : Int32), (), rfl, e0, by rw [ht]; exact hP, va_K.moved hW.alike hK, by rw [hAe]; exact hD⟩, hS.F ht⟩) hS.2.2 dX9_tree_26
      · have hf := ie hf c12
        refine lv_iload_n hx hb dX9_tree_15 rfl (lv_at hl 2 rfl) ?_
        refine lv_i2l hx hb dX9_tree_16 rfl ?_
        refine lv_iload_n hx hb dX9_tree_17 rfl (lv_at hl 1 rfl) ?_
        obtain ⟨r13, hc, hf⟩ := bd1 hf
        refine cl_i (ws' := [(qx 0, oX9 qx x_points x_lines x_tide x_isKept x_isMuch x_sum x_once x_twice x_isTermMuch x_nodes x_newMany x_isTooGreat x_come x_foundSet), (qx 6, .inl (Y 0, 40, .inl x_low)), (qx 7, .inl (Y 0, 40, .inl x_high)), (qx 19, .inl (Y 0, 300, .inl x_nodePoint)), (qx 20, .inl (Y 0, 300, .inl x_nodeOver)), (qx 21, .inl (Y 0, 300, .inl x_newPoint)), (qx 22, .inl (Y 0, 300, .inl x_newOver))]) (wr := [(qx 0, oX9 qx x_points x_lines x_tide x_isKept x_isMuch x_sum x_once x_twice x_isTermMuch x_nodes x_newMany x_isTooGreat x_come x_foundSet), (qx 6, .inl (Y 0, 40, .inl x_low)), (qx 7, .inl (Y 0, 40, .inl x_high)), (qx 19, .inl (Y 0, 300, .inl x_nodePoint)), (qx 20, .inl (Y 0, 300, .inl x_nodeOver)), (qx 21, .inl (Y 0, 300, .inl x_newPoint)), (qx 22, .inl (Y 0, 300, .inl x_newOver))]) (rnS (As := [.long p2.toInt64, .int p1]) (rest := []) ⟨hx, hb, hml, hown, hts⟩ (c_X9_has l G Y H.size p2.toInt64 p1 r13 hc) (va_cwS 2 hts gX9_tree_X9_has rfl rfl rfl (by decide +kernel) ⟨(Nat.le_of_ble_eq_true rfl), (Nat.le_of_ble_eq_true rfl)⟩) trivial okT hK hP hD [] rfl rfl rfl hl.1 rfl (Nat.le_of_ble_eq_true rfl) dX9_tree_18) hP hD hS hA [] [0, 1, 2, 3, 4, 5, 6] [0, 1, 2, 3, 4, 5, 6] rfl rfl rfl (by decide) rfl rfl (fun H locs hP hD hS => ?_)
        refine lv_if_eq (tgt := 27) hx hb dX9_tree_21 (by decide) (fun c14 => ?_) (fun c14 => ?_)
        · have hf := it hf c14
          refine lv_aload_n hx hb dX9_tree_27 rfl (lv_at hl 0 rfl) ?_
          refine lv_iconst (v := 0) hx hb dX9_tree_28 (by decide) ?_
          refine va_put (D := G) (ci := 7) (v := .int (0 : Int32)) (ty := .int) (C := RX9) (T := TX9) (N := 37) hx hb hts inX9w tyX9 tyX9_ok nmX9 hown hK hP hD hS 0 rfl rfl 23 (by decide) wd1 (fun _ h9 => h9) rfl (by decide +kernel) rfl rfl (Nat.le_of_ble_eq_true rfl) dX9_tree_29 (fun H locs hP hD hS => ?_)
          have hP : va_P G vwCl [(qx 0, oX9 qx x_points x_lines x_tide x_isKept x_isMuch x_sum x_once x_twice x_isTermMuch x_nodes (0 : Int32) x_isTooGreat x_come x_foundSet), (qx 6, .inl (Y 0, 40, .inl x_low)), (qx 7, .inl (Y 0, 40, .inl x_high)), (qx 19, .inl (Y 0, 300, .inl x_nodePoint)), (qx 20, .inl (Y 0, 300, .inl x_nodeOver)), (qx 21, .inl (Y 0, 300, .inl x_newPoint)), (qx 22, .inl (Y 0, 300, .inl x_newOver))] H := hP
          have hD : va_D A [(qx 0, oX9 qx x_points x_lines x_tide x_isKept x_isMuch x_sum x_once x_twice x_isTermMuch x_nodes (0 : Int32) x_isTooGreat x_come x_foundSet), (qx 6, .inl (Y 0, 40, .inl x_low)), (qx 7, .inl (Y 0, 40, .inl x_high)), (qx 19, .inl (Y 0, 300, .inl x_nodePoint)), (qx 20, .inl (Y 0, 300, .inl x_nodeOver)), (qx 21, .inl (Y 0, 300, .inl x_newPoint)), (qx 22, .inl (Y 0, 300, .inl x_newOver))] := hD
          refine lv_aload_n hx hb dX9_tree_32 rfl (lv_at hl 0 rfl) ?_
          refine lv_iload_n hx hb dX9_tree_33 rfl (lv_at hl 1 rfl) ?_
          refine lv_iconst (v := -1) hx hb dX9_tree_34 (by decide) ?_
          refine lv_iload_n hx hb dX9_tree_35 rfl (lv_at hl 2 rfl) ?_
          obtain ⟨r15, w16, w17, w18, hc, hf⟩ := bd4 hf
          refine cl_i (ws' := [(qx 0, oX9 qx x_points x_lines x_tide x_isKept x_isMuch x_sum x_once x_twice x_isTermMuch x_nodes w18 x_isTooGreat x_come x_foundSet), (qx 6, .inl (Y 0, 40, .inl x_low)), (qx 7, .inl (Y 0, 40, .inl x_high)), (qx 19, .inl (Y 0, 300, .inl x_nodePoint)), (qx 20, .inl (Y 0, 300, .inl x_nodeOver)), (qx 21, .inl (Y 0, 300, .inl w16)), (qx 22, .inl (Y 0, 300, .inl w17))]) (wr := [(qx 19, .inl (Y 0, 300, .inl x_nodePoint)), (qx 20, .inl (Y 0, 300, .inl x_nodeOver))]) (rnV (As := [.int p1, .int (-1 : Int32), .int p2]) (rest := []) ⟨hx, hb, hml, hown, hts⟩ (c_X9_grows l G Y 16 H.size qx x_points x_lines x_tide x_low x_high x_isKept x_isMuch x_sum x_once x_twice x_isTermMuch x_newPoint x_newOver x_nodes (0 : Int32) x_isTooGreat x_come x_foundSet p1 (-1 : Int32) p2 r15 w16 w17 w18 hc) (cwV 3 hts gX9_tree_X9_grows rfl rfl rfl (by decide +kernel) ⟨(Nat.le_of_ble_eq_true rfl), (Nat.le_of_ble_eq_true rfl)⟩) trivial okT hK hP hD [0, 1, 2, 5, 6] rfl rfl (ci := 7) (q0 := 0) rfl rfl rfl rfl hl.1 rfl (Nat.le_of_ble_eq_true rfl) dX9_tree_36) hP hD hS hA [0, 1, 2, 5, 6] [3, 4] [2, 3, 4, 0, 1, 5, 6] rfl rfl rfl (by decide) rfl rfl (fun H locs hP hD hS => ?_)
          refine lv_if_ne (tgt := 45) hx hb dX9_tree_39 (by decide) (fun c19 => ?_) (fun c19 => ?_)
          · have hf := ie hf c19
            refine lv_aload_n hx hb dX9_tree_45 rfl (lv_at hl 0 rfl) ?_
            refine lv_aload_n hx hb dX9_tree_46 rfl (lv_at hl 0 rfl) ?_
            refine va_get (D := G) (ci := 7) (v := .int w18) (C := RX9) (T := TX9) (N := 37) hx hb hts inX9w hown hK hP 0 rfl rfl 23 (by decide) wd1 (fun _ h9 => h9) rfl dX9_tree_47 ?_
            refine va_put (D := G) (ci := 7) (v := .int w18) (ty := .int) (C := RX9) (T := TX9) (N := 37) hx hb hts inX9w tyX9 tyX9_ok nmX9 hown hK hP hD hS 0 rfl rfl 22 (by decide) wd2 (fun _ h9 => h9) rfl (by decide +kernel) rfl rfl (Nat.le_of_ble_eq_true rfl) dX9_tree_50 (fun H locs hP hD hS => ?_)
            have hP : va_P G vwCl [(qx 0, oX9 qx x_points x_lines x_tide x_isKept x_isMuch x_sum x_once x_twice x_isTermMuch w18 w18 x_isTooGreat x_come x_foundSet), (qx 6, .inl (Y 0, 40, .inl x_low)), (qx 7, .inl (Y 0, 40, .inl x_high)), (qx 19, .inl (Y 0, 300, .inl x_nodePoint)), (qx 20, .inl (Y 0, 300, .inl x_nodeOver)), (qx 21, .inl (Y 0, 300, .inl w16)), (qx 22, .inl (Y 0, 300, .inl w17))] H := hP
            have hD : va_D A [(qx 0, oX9 qx x_points x_lines x_tide x_isKept x_isMuch x_sum x_once x_twice x_isTermMuch w18 w18 x_isTooGreat x_come x_foundSet), (qx 6, .inl (Y 0, 40, .inl x_low)), (qx 7, .inl (Y 0, 40, .inl x_high)), (qx 19, .inl (Y 0, 300, .inl x_nodePoint)), (qx 20, .inl (Y 0, 300, .inl x_nodeOver)), (qx 21, .inl (Y 0, 300, .inl w16)), (qx 22, .inl (Y 0, 300, .inl w17))] := hD
            refine lv_iconst (v := 0) hx hb dX9_tree_53 (by decide) ?_
            refine lv_istore_n (lv' := [(3, .int (0 : Int32)), (0, .ref (qx 0)), (1, .int p1), (2, .int p2)]) hx hb dX9_tree_54 rfl hl (by decide) rfl (fun ls hl => ?_)
            exact B55 310 x_nodePoint x_nodeOver w16 w17 w18 w18 (0 : Int32) hf _ _ hP hD hS ls (lv_sub hl [1, 0] rfl)
          · have hf := it hf c19
            refine lv_bipush (v := -5) hx hb dX9_tree_42 (by decide) ?_
            obtain ⟨e0, e1, e2, e3, e4, e5, e6⟩ := rt7 hf
            have hP : va_P G vwCl [(qx 0, oX9 qx x_points x_lines x_tide x_isKept x_isMuch x_sum x_once x_twice x_isTermMuch o_x_nodes o_x_newMany x_isTooGreat x_come x_foundSet), (qx 6, .inl (Y 0, 40, .inl x_low)), (qx 7, .inl (Y 0, 40, .inl x_high)), (qx 19, .inl (Y 0, 300, .inl o_x_nodePoint)), (qx 20, .inl (Y 0, 300, .inl o_x_nodeOver)), (qx 21, .inl (Y 0, 300, .inl o_x_newPoint)), (qx 22, .inl (Y 0, 300, .inl o_x_newOver))] H := by rw [← e1, ← e2, ← e3, ← e4, ← e5, ← e6]; exact hP
            have hD : va_D A [(qx 0, oX9 qx x_points x_lines x_tide x_isKept x_isMuch x_sum x_once x_twice x_isTermMuch o_x_nodes o_x_newMany x_isTooGreat x_come x_foundSet), (qx 6, .inl (Y 0, 40, .inl x_low)), (qx 7, .inl (Y 0, 40, .inl x_high)), (qx 19, .inl (Y 0, 300, .inl o_x_nodePoint)), (qx 20, .inl (Y 0, 300, .inl o_x_nodeOver)), (qx 21, .inl (Y 0, 300, .inl o_x_newPoint)), (qx 22, .inl (Y 0, 300, .inl o_x_newOver))] := by rw [← e1, ← e2, ← e3, ← e4, ← e5, ← e6]; exact hD
            exact W.iret (v := (-5 : Int32)) hx hb hr (fun t ht hW => ⟨⟨(-5 : Int32), (), rfl, e0, by rw [ht]; exact hP, va_K.moved hW.alike hK, by rw [hAe]; exact hD⟩, hS.F ht⟩) hS.2.2 dX9_tree_44
        · have hf := ie hf c14
          refine lv_bipush (v := -2) hx hb dX9_tree_24 (by decide) ?_
          obtain ⟨e0, e1, e2, e3, e4, e5, e6⟩ := rt7 hf
          have hP : va_P G vwCl [(qx 0, oX9 qx x_points x_lines x_tide x_isKept x_isMuch x_sum x_once x_twice x_isTermMuch o_x_nodes o_x_newMany x_isTooGreat x_come x_foundSet), (qx 6, .inl (Y 0, 40, .inl x_low)), (qx 7, .inl (Y 0, 40, .inl x_high)), (qx 19, .inl (Y 0, 300, .inl o_x_nodePoint)), (qx 20, .inl (Y 0, 300, .inl o_x_nodeOver)), (qx 21, .inl (Y 0, 300, .inl o_x_newPoint)), (qx 22, .inl (Y 0, 300, .inl o_x_newOver))] H := by rw [← e1, ← e2, ← e3, ← e4, ← e5, ← e6]; exact hP
          have hD : va_D A [(qx 0, oX9 qx x_points x_lines x_tide x_isKept x_isMuch x_sum x_once x_twice x_isTermMuch o_x_nodes o_x_newMany x_isTooGreat x_come x_foundSet), (qx 6, .inl (Y 0, 40, .inl x_low)), (qx 7, .inl (Y 0, 40, .inl x_high)), (qx 19, .inl (Y 0, 300, .inl o_x_nodePoint)), (qx 20, .inl (Y 0, 300, .inl o_x_nodeOver)), (qx 21, .inl (Y 0, 300, .inl o_x_newPoint)), (qx 22, .inl (Y 0, 300, .inl o_x_newOver))] := by rw [← e1, ← e2, ← e3, ← e4, ← e5, ← e6]; exact hD
          exact W.iret (v := (-2 : Int32)) hx hb hr (fun t ht hW => ⟨⟨(-2 : Int32), (), rfl, e0, by rw [ht]; exact hP, va_K.moved hW.alike hK, by rw [hAe]; exact hD⟩, hS.F ht⟩) hS.2.2 dX9_tree_26
  exact E0 s.heap [] hP hD hS ls hl
-- X9_node
set_option maxRecDepth 100000 in
set_option maxHeartbeats 4000000 in
theorem c_X9_node (l : Launch) (G : va_G) (Y : Nat → ClassId) (sz : Nat) (qx : Nat → Nat) (x_points : Int32) (x_lines : Int32) (x_tide : Int32) (x_isKept : Int32) (x_isMuch : Int32) (x_sum : Int64) (x_once : Int64) (x_twice : Int64) (x_isTermMuch : Int32) (x_nodePoint : Nat → Int32) (x_nodeOver : Nat → Int32) (x_nodes : Int32) (x_newMany : Int32) (x_isTooGreat : Int32) (x_come : Int32) (x_foundSet : Int64) (p1 : Int32) (p2 : Int32) (rv : Int32) (hf : f_X9_node x_nodePoint x_nodeOver x_nodes p1 p2 = some (rv)) : Met l yX9_node wsX9_node (rmk 1 25) (va_Pc [.ref (qx 0), .int p1, .int p2] (Pre G (tys Y) [(qx 0, oX9 qx x_points x_lines x_tide x_isKept x_isMuch x_sum x_once x_twice x_isTermMuch x_nodes x_newMany x_isTooGreat x_come x_foundSet), (qx 19, .inl (Y 0, 300, .inl x_nodePoint)), (qx 20, .inl (Y 0, 300, .inl x_nodeOver))] sz xT)) (va_Qi (fun (r : Int32) (_ : Unit) => r = rv) (Pst G (tys Y) [(qx 0, oX9 qx x_points x_lines x_tide x_isKept x_isMuch x_sum x_once x_twice x_isTermMuch x_nodes x_newMany x_isTooGreat x_come x_foundSet), (qx 19, .inl (Y 0, 300, .inl x_nodePoint)), (qx 20, .inl (Y 0, 300, .inl x_nodeOver))] sz [(qx 0, oX9 qx x_points x_lines x_tide x_isKept x_isMuch x_sum x_once x_twice x_isTermMuch x_nodes x_newMany x_isTooGreat x_come x_foundSet), (qx 19, .inl (Y 0, 300, .inl x_nodePoint)), (qx 20, .inl (Y 0, 300, .inl x_nodeOver))]) (va_A [(qx 0, oX9 qx x_points x_lines x_tide x_isKept x_isMuch x_sum x_once x_twice x_isTermMuch x_nodes x_newMany x_isTooGreat x_come x_foundSet), (qx 19, .inl (Y 0, 300, .inl x_nodePoint)), (qx 20, .inl (Y 0, 300, .inl x_nodeOver))] sz)) 0 0 (va_A [(qx 0, oX9 qx x_points x_lines x_tide x_isKept x_isMuch x_sum x_once x_twice x_isTermMuch x_nodes x_newMany x_isTooGreat x_come x_foundSet), (qx 19, .inl (Y 0, 300, .inl x_nodePoint)), (qx 20, .inl (Y 0, 300, .inl x_nodeOver))] sz) := by
  refine Met.ofW (cc := cX9_node) (maxL := 5) (ret := (some .int)) (by decide) rfl ?_
  intro p e s m args below meth c s₁ B hml hv
  obtain ⟨rfl, hsz, hP, hK, hD0, hX⟩ := hv
  have hx := B.exec
  have hb := B.bytes
  have hr := B.returns
  have hts := atoms_spec (ws := wsX9_node) B.pre
  have hown : s.vm.findClass RX9 = some m.cls := findClass_of_methodNamed B.named
  have hlocks := B.notSynchronized
  subst hsz
  have hD := hD0.self (sz := s.heap.size)
  generalize hAe : va_A [(qx 0, oX9 qx x_points x_lines x_tide x_isKept x_isMuch x_sum x_once x_twice x_isTermMuch x_nodes x_newMany x_isTooGreat x_come x_foundSet), (qx 19, .inl (Y 0, 300, .inl x_nodePoint)), (qx 20, .inl (Y 0, 300, .inl x_nodeOver))] s.heap.size = A at hD ⊢
  have hA : ∀ q : Nat, s.heap.size ≤ q → A q := fun q h => by rw [← hAe]; exact Or.inr h
  have hS : va_S A s.heap s.heap [] := va_S.rf
  have hP : va_P G vwCl [(qx 0, oX9 qx x_points x_lines x_tide x_isKept x_isMuch x_sum x_once x_twice x_isTermMuch x_nodes x_newMany x_isTooGreat x_come x_foundSet), (qx 19, .inl (Y 0, 300, .inl x_nodePoint)), (qx 20, .inl (Y 0, 300, .inl x_nodeOver))] s.heap := hP
  have wd1 : (Cond.fieldLink RX9 246 "PairedLinesModel" "nodes" "I").before [.ref (qx 0), .int p1, .int p2].toArray s = true := hts _ (List.mem_of_getElem? (i := 1) rfl)
  have wd2 : (Cond.fieldLink RX9 38 "PairedLinesModel" "nodePoint" "[I").before [.ref (qx 0), .int p1, .int p2].toArray s = true := hts _ (List.mem_of_getElem? (i := 2) rfl)
  have wd3 : (Cond.fieldLink RX9 41 "PairedLinesModel" "nodeOver" "[I").before [.ref (qx 0), .int p1, .int p2].toArray s = true := hts _ (List.mem_of_getElem? (i := 3) rfl)
  have inX9w : ∀ w ∈ u_ws RX9 TX9 37, w ∈ wsX9_node := fun w hw => List.mem_cons_of_mem _ (List.mem_append_right _ (hw))
  have hl := lv_entry ([.ref (qx 0), .int p1, .int p2]) (n := 5) (Nat.le_of_ble_eq_true rfl)
  rw [lg_entry_eq]
  generalize (lg_sl ([.ref (qx 0), .int p1, .int p2]) ++ List.replicate (5 - (lg_sl ([.ref (qx 0), .int p1, .int p2])).length) Slot.unset).toArray = ls at hl ⊢
  have hl : lv_has ls 5 [(0, .ref (qx 0)), (1, .int p1), (2, .int p2)] := hl
  have B110 : ∀ (n110 : Nat), ∀ (x3 : Int32) (x4 : Int32), f_X9_node_b110 x_nodePoint x_nodeOver x_nodes p1 p2 n110 x3 x4 = some (rv) → ∀ (H : Heap) (locs : List Loc), va_P G vwCl [(qx 0, oX9 qx x_points x_lines x_tide x_isKept x_isMuch x_sum x_once x_twice x_isTermMuch x_nodes x_newMany x_isTooGreat x_come x_foundSet), (qx 19, .inl (Y 0, 300, .inl x_nodePoint)), (qx 20, .inl (Y 0, 300, .inl x_nodeOver))] H → va_D A [(qx 0, oX9 qx x_points x_lines x_tide x_isKept x_isMuch x_sum x_once x_twice x_isTermMuch x_nodes x_newMany x_isTooGreat x_come x_foundSet), (qx 19, .inl (Y 0, 300, .inl x_nodePoint)), (qx 20, .inl (Y 0, 300, .inl x_nodeOver))] → va_S A s.heap H locs → ∀ (ls : Array Slot), lv_has ls 5 [(0, .ref (qx 0)), (3, .int x3), (4, .int x4)] → W p l e (headSpec wsX9_node (rmk 1 25)).room s m [.ref (qx 0), .int p1, .int p2].toArray below meth c H locs 0 0 (MQ below (va_Qi (fun (r : Int32) (_ : Unit) => r = rv) (Pst G (tys Y) [(qx 0, oX9 qx x_points x_lines x_tide x_isKept x_isMuch x_sum x_once x_twice x_isTermMuch x_nodes x_newMany x_isTooGreat x_come x_foundSet), (qx 19, .inl (Y 0, 300, .inl x_nodePoint)), (qx 20, .inl (Y 0, 300, .inl x_nodeOver))] s.heap.size [(qx 0, oX9 qx x_points x_lines x_tide x_isKept x_isMuch x_sum x_once x_twice x_isTermMuch x_nodes x_newMany x_isTooGreat x_come x_foundSet), (qx 19, .inl (Y 0, 300, .inl x_nodePoint)), (qx 20, .inl (Y 0, 300, .inl x_nodeOver))]) A) [.ref (qx 0), .int p1, .int p2].toArray s 0 0 A) (F0 m 110 ls []) := by
    intro n110
    induction n110 with
    | zero =>
      intro x3 x4 hf H locs hP hD hS ls hl
      exact no_none hf
    | succ n110 ih110 =>
      intro x3 x4 hf H locs hP hD hS ls hl
      have hf : f_X9_node_s110 x_nodePoint x_nodeOver x_nodes p1 p2 (f_X9_node_b110 x_nodePoint x_nodeOver x_nodes p1 p2  n110) x3 x4 = some (rv) := hf
      unfold f_X9_node_s110 at hf
      refine lv_aload_n hx hb dX9_node_110 rfl (lv_at hl 0 rfl) ?_
      refine va_get (D := G) (ci := 7) (v := .ref (qx 20)) (C := RX9) (T := TX9) (N := 37) hx hb hts inX9w hown hK hP 0 rfl rfl 19 (by decide) wd3 (fun _ h9 => h9) rfl dX9_node_111 ?_
      refine lv_iload hx hb dX9_node_114 (lv_at hl 2 rfl) ?_
      obtain ⟨g1, hf⟩ := gd hf
      refine va_iald hx hb hK hP 2 0 rfl rfl g1 dX9_node_116 ?_
      refine lv_iconst (v := -1) hx hb dX9_node_117 (by decide) ?_
      refine lv_icmp_eq (tgt := 136) hx hb dX9_node_118 (by decide) (fun c2 => ?_) (fun c2 => ?_)
      · have hf := it hf c2
        refine lv_iload_n hx hb dX9_node_136 rfl (lv_at hl 1 rfl) ?_
        have e0 := rt1 hf
        exact W.iret (v := x3) hx hb hr (fun t ht hW => ⟨⟨x3, (), rfl, e0, by rw [ht]; exact hP, va_K.moved hW.alike hK, by rw [hAe]; exact hD⟩, hS.F ht⟩) hS.2.2 dX9_node_137
      · have hf := ie hf c2
        obtain ⟨v3, e_v3⟩ : ∃ z : Int32, z = (x3 + 1) := ⟨_, rfl⟩
        have hf := nm_at hf e_v3
        refine lv_iinc (v := v3) (lv' := [(3, .int v3), (0, .ref (qx 0)), (4, .int x4)]) hx hb dX9_node_121 hl (k := 1) rfl (by rw [e_v3]; rfl) (by decide) rfl (fun ls hl => ?_)
        refine lv_aload_n hx hb dX9_node_124 rfl (lv_at hl 1 rfl) ?_
        refine va_get (D := G) (ci := 7) (v := .ref (qx 20)) (C := RX9) (T := TX9) (N := 37) hx hb hts inX9w hown hK hP 0 rfl rfl 19 (by decide) wd3 (fun _ h9 => h9) rfl dX9_node_125 ?_
        refine lv_iload hx hb dX9_node_128 (lv_at hl 2 rfl) ?_
        obtain ⟨g4, hf⟩ := gd hf
        refine va_iald hx hb hK hP 2 0 rfl rfl g4 dX9_node_130 ?_
        refine lv_topi (fun v5 e_v5 => ?_)
        have hf := nm_at hf e_v5
        refine lv_istore (lv' := [(4, .int v5), (3, .int v3), (0, .ref (qx 0))]) hx hb dX9_node_131 hl (by decide) rfl (fun ls hl => ?_)
        refine lv_goto (tgt := 110) hx hb dX9_node_133 (by decide) ?_
        exact ih110 v3 v5 hf _ _ hP hD hS ls (lv_sub hl [2, 1, 0] rfl)
  have B71 : ∀ (n71 : Nat), ∀ (x3 : Int32) (x4 : Int32), f_X9_node_b71 x_nodePoint x_nodeOver x_nodes p1 p2 n71 x3 x4 = some (rv) → ∀ (H : Heap) (locs : List Loc), va_P G vwCl [(qx 0, oX9 qx x_points x_lines x_tide x_isKept x_isMuch x_sum x_once x_twice x_isTermMuch x_nodes x_newMany x_isTooGreat x_come x_foundSet), (qx 19, .inl (Y 0, 300, .inl x_nodePoint)), (qx 20, .inl (Y 0, 300, .inl x_nodeOver))] H → va_D A [(qx 0, oX9 qx x_points x_lines x_tide x_isKept x_isMuch x_sum x_once x_twice x_isTermMuch x_nodes x_newMany x_isTooGreat x_come x_foundSet), (qx 19, .inl (Y 0, 300, .inl x_nodePoint)), (qx 20, .inl (Y 0, 300, .inl x_nodeOver))] → va_S A s.heap H locs → ∀ (ls : Array Slot), lv_has ls 5 [(0, .ref (qx 0)), (1, .int p1), (3, .int x3), (4, .int x4)] → W p l e (headSpec wsX9_node (rmk 1 25)).room s m [.ref (qx 0), .int p1, .int p2].toArray below meth c H locs 0 0 (MQ below (va_Qi (fun (r : Int32) (_ : Unit) => r = rv) (Pst G (tys Y) [(qx 0, oX9 qx x_points x_lines x_tide x_isKept x_isMuch x_sum x_once x_twice x_isTermMuch x_nodes x_newMany x_isTooGreat x_come x_foundSet), (qx 19, .inl (Y 0, 300, .inl x_nodePoint)), (qx 20, .inl (Y 0, 300, .inl x_nodeOver))] s.heap.size [(qx 0, oX9 qx x_points x_lines x_tide x_isKept x_isMuch x_sum x_once x_twice x_isTermMuch x_nodes x_newMany x_isTooGreat x_come x_foundSet), (qx 19, .inl (Y 0, 300, .inl x_nodePoint)), (qx 20, .inl (Y 0, 300, .inl x_nodeOver))]) A) [.ref (qx 0), .int p1, .int p2].toArray s 0 0 A) (F0 m 71 ls []) := by
    intro n71
    induction n71 with
    | zero =>
      intro x3 x4 hf H locs hP hD hS ls hl
      exact no_none hf
    | succ n71 ih71 =>
      intro x3 x4 hf H locs hP hD hS ls hl
      have hf : f_X9_node_s71 x_nodePoint x_nodeOver x_nodes p1 p2 (f_X9_node_b71 x_nodePoint x_nodeOver x_nodes p1 p2  n71) x3 x4 = some (rv) := hf
      unfold f_X9_node_s71 at hf
      refine lv_iload hx hb dX9_node_71 (lv_at hl 3 rfl) ?_
      refine lv_aload_n hx hb dX9_node_73 rfl (lv_at hl 0 rfl) ?_
      refine va_get (D := G) (ci := 7) (v := .int x_nodes) (C := RX9) (T := TX9) (N := 37) hx hb hts inX9w hown hK hP 0 rfl rfl 22 (by decide) wd1 (fun _ h9 => h9) rfl dX9_node_74 ?_
      refine lv_icmp_ge (tgt := 105) hx hb dX9_node_77 (by decide) (fun c6 => ?_) (fun c6 => ?_)
      · have hf := it hf c6
        refine lv_iload_n hx hb dX9_node_105 rfl (lv_at hl 2 rfl) ?_
        have e0 := rt1 hf
        exact W.iret (v := x3) hx hb hr (fun t ht hW => ⟨⟨x3, (), rfl, e0, by rw [ht]; exact hP, va_K.moved hW.alike hK, by rw [hAe]; exact hD⟩, hS.F ht⟩) hS.2.2 dX9_node_106
      · have hf := ie hf c6
        refine lv_iload_n hx hb dX9_node_80 rfl (lv_at hl 2 rfl) ?_
        refine lv_aload_n hx hb dX9_node_81 rfl (lv_at hl 0 rfl) ?_
        refine va_get (D := G) (ci := 7) (v := .ref (qx 20)) (C := RX9) (T := TX9) (N := 37) hx hb hts inX9w hown hK hP 0 rfl rfl 19 (by decide) wd3 (fun _ h9 => h9) rfl dX9_node_82 ?_
        refine lv_iload hx hb dX9_node_85 (lv_at hl 3 rfl) ?_
        obtain ⟨g7, hf⟩ := gd hf
        refine va_iald hx hb hK hP 2 0 rfl rfl g7 dX9_node_87 ?_
        refine lv_iload_n hx hb dX9_node_88 rfl (lv_at hl 1 rfl) ?_
        refine lv_icmp_ne (tgt := 96) hx hb dX9_node_89 (by decide) (fun c8 => ?_) (fun c8 => ?_)
        · have hf := ie hf c8
          refine lv_iconst (v := 0) hx hb dX9_node_96 (by decide) ?_
          refine lv_iadd hx hb dX9_node_97 ?_
          refine lv_topi (fun v9 e_v9 => ?_)
          have hf := nm_at hf e_v9
          refine lv_istore_n (lv' := [(3, .int v9), (0, .ref (qx 0)), (1, .int p1), (4, .int x4)]) hx hb dX9_node_98 rfl hl (by decide) rfl (fun ls hl => ?_)
          obtain ⟨v10, e_v10⟩ : ∃ z : Int32, z = (x4 + 1) := ⟨_, rfl⟩
          have hf := nm_at hf e_v10
          refine lv_iinc (v := v10) (lv' := [(4, .int v10), (3, .int v9), (0, .ref (qx 0)), (1, .int p1)]) hx hb dX9_node_99 hl (k := 3) rfl (by rw [e_v10]; rfl) (by decide) rfl (fun ls hl => ?_)
          refine lv_goto (tgt := 71) hx hb dX9_node_102 (by decide) ?_
          exact ih71 v9 v10 hf _ _ hP hD hS ls (lv_sub hl [2, 3, 1, 0] rfl)
        · have hf := it hf c8
          refine lv_iconst (v := 1) hx hb dX9_node_92 (by decide) ?_
          refine lv_goto (tgt := 97) hx hb dX9_node_93 (by decide) ?_
          refine lv_iadd hx hb dX9_node_97 ?_
          refine lv_topi (fun v11 e_v11 => ?_)
          have hf := nm_at hf e_v11
          refine lv_istore_n (lv' := [(3, .int v11), (0, .ref (qx 0)), (1, .int p1), (4, .int x4)]) hx hb dX9_node_98 rfl hl (by decide) rfl (fun ls hl => ?_)
          obtain ⟨v12, e_v12⟩ : ∃ z : Int32, z = (x4 + 1) := ⟨_, rfl⟩
          have hf := nm_at hf e_v12
          refine lv_iinc (v := v12) (lv' := [(4, .int v12), (3, .int v11), (0, .ref (qx 0)), (1, .int p1)]) hx hb dX9_node_99 hl (k := 3) rfl (by rw [e_v12]; rfl) (by decide) rfl (fun ls hl => ?_)
          refine lv_goto (tgt := 71) hx hb dX9_node_102 (by decide) ?_
          exact ih71 v11 v12 hf _ _ hP hD hS ls (lv_sub hl [2, 3, 1, 0] rfl)
  have E0 : ∀ (H : Heap) (locs : List Loc), va_P G vwCl [(qx 0, oX9 qx x_points x_lines x_tide x_isKept x_isMuch x_sum x_once x_twice x_isTermMuch x_nodes x_newMany x_isTooGreat x_come x_foundSet), (qx 19, .inl (Y 0, 300, .inl x_nodePoint)), (qx 20, .inl (Y 0, 300, .inl x_nodeOver))] H → va_D A [(qx 0, oX9 qx x_points x_lines x_tide x_isKept x_isMuch x_sum x_once x_twice x_isTermMuch x_nodes x_newMany x_isTooGreat x_come x_foundSet), (qx 19, .inl (Y 0, 300, .inl x_nodePoint)), (qx 20, .inl (Y 0, 300, .inl x_nodeOver))] → va_S A s.heap H locs → ∀ (ls : Array Slot), lv_has ls 5 [(0, .ref (qx 0)), (1, .int p1), (2, .int p2)] → W p l e (headSpec wsX9_node (rmk 1 25)).room s m [.ref (qx 0), .int p1, .int p2].toArray below meth c H locs 0 0 (MQ below (va_Qi (fun (r : Int32) (_ : Unit) => r = rv) (Pst G (tys Y) [(qx 0, oX9 qx x_points x_lines x_tide x_isKept x_isMuch x_sum x_once x_twice x_isTermMuch x_nodes x_newMany x_isTooGreat x_come x_foundSet), (qx 19, .inl (Y 0, 300, .inl x_nodePoint)), (qx 20, .inl (Y 0, 300, .inl x_nodeOver))] s.heap.size [(qx 0, oX9 qx x_points x_lines x_tide x_isKept x_isMuch x_sum x_once x_twice x_isTermMuch x_nodes x_newMany x_isTooGreat x_come x_foundSet), (qx 19, .inl (Y 0, 300, .inl x_nodePoint)), (qx 20, .inl (Y 0, 300, .inl x_nodeOver))]) A) [.ref (qx 0), .int p1, .int p2].toArray s 0 0 A) (F0 m 0 ls []) := by
    intro H locs hP hD hS ls hl
    unfold f_X9_node at hf
    refine lv_iload_n hx hb dX9_node_0 rfl (lv_at hl 1 rfl) ?_
    refine lv_i2l hx hb dX9_node_1 rfl ?_
    refine lv_lconst (v := 0) hx hb dX9_node_2 (by decide) ?_
    refine lv_aload_n hx hb dX9_node_3 rfl (lv_at hl 0 rfl) ?_
    refine va_get (D := G) (ci := 7) (v := .int x_nodes) (C := RX9) (T := TX9) (N := 37) hx hb hts inX9w hown hK hP 0 rfl rfl 22 (by decide) wd1 (fun _ h9 => h9) rfl dX9_node_4 ?_
    refine lv_iconst (v := 1) hx hb dX9_node_7 (by decide) ?_
    refine lv_isub hx hb dX9_node_8 ?_
    refine lv_i2l hx hb dX9_node_9 rfl ?_
    obtain ⟨r13, hc, hf⟩ := bd1 hf
    refine cl_i (ws' := [(qx 0, oX9 qx x_points x_lines x_tide x_isKept x_isMuch x_sum x_once x_twice x_isTermMuch x_nodes x_newMany x_isTooGreat x_come x_foundSet), (qx 19, .inl (Y 0, 300, .inl x_nodePoint)), (qx 20, .inl (Y 0, 300, .inl x_nodeOver))]) (wr := [(qx 0, oX9 qx x_points x_lines x_tide x_isKept x_isMuch x_sum x_once x_twice x_isTermMuch x_nodes x_newMany x_isTooGreat x_come x_foundSet), (qx 19, .inl (Y 0, 300, .inl x_nodePoint)), (qx 20, .inl (Y 0, 300, .inl x_nodeOver))]) (rnS (As := [.long p1.toInt64, .long (0 : Int64), .long ((x_nodes - (1 : Int32)).toInt64)]) (rest := []) ⟨hx, hb, hml, hown, hts⟩ (c_X9_in l G Y H.size p1.toInt64 (0 : Int64) ((x_nodes - (1 : Int32)).toInt64) r13 hc) (va_cwS 3 hts gX9_node_X9_in rfl rfl rfl (by decide +kernel) ⟨(Nat.le_of_ble_eq_true rfl), (Nat.le_of_ble_eq_true rfl)⟩) trivial okT hK hP hD [] rfl rfl rfl hl.1 rfl (Nat.le_of_ble_eq_true rfl) dX9_node_10) hP hD hS hA [] [0, 1, 2] [0, 1, 2] rfl rfl rfl (by decide) rfl rfl (fun H locs hP hD hS => ?_)
    refine lv_if_ne (tgt := 19) hx hb dX9_node_13 (by decide) (fun c14 => ?_) (fun c14 => ?_)
    · have hf := ie hf c14
      refine lv_iconst (v := 0) hx hb dX9_node_19 (by decide) ?_
      refine lv_istore_n (lv' := [(3, .int (0 : Int32)), (0, .ref (qx 0)), (1, .int p1), (2, .int p2)]) hx hb dX9_node_20 rfl hl (by decide) rfl (fun ls hl => ?_)
      refine lv_iload_n hx hb dX9_node_21 rfl (lv_at hl 3 rfl) ?_
      by_cases c15 : p2 = 0
      · have hf := it hf c15
        refine lv_tableIn (tgt := 52) hx hb dX9_node_22 (by rw [c15]; decide) (by rw [c15]; decide) (off := 30) (by rw [c15]; rfl) (by decide) ?_
        refine lv_aload_n hx hb dX9_node_52 rfl (lv_at hl 1 rfl) ?_
        refine va_get (D := G) (ci := 7) (v := .ref (qx 19)) (C := RX9) (T := TX9) (N := 37) hx hb hts inX9w hown hK hP 0 rfl rfl 18 (by decide) wd2 (fun _ h9 => h9) rfl dX9_node_53 ?_
        refine lv_iload_n hx hb dX9_node_56 rfl (lv_at hl 2 rfl) ?_
        obtain ⟨g16, hf⟩ := gd hf
        refine va_iald hx hb hK hP 1 0 rfl rfl g16 dX9_node_57 ?_
        have e0 := rt1 hf
        exact W.iret (v := (x_nodePoint p1.toNatClampNeg)) hx hb hr (fun t ht hW => ⟨⟨(x_nodePoint p1.toNatClampNeg), (), rfl, e0, by rw [ht]; exact hP, va_K.moved hW.alike hK, by rw [hAe]; exact hD⟩, hS.F ht⟩) hS.2.2 dX9_node_58
      have hf := ie hf c15
      by_cases c17 : p2 = 1
      · have hf := it hf c17
        refine lv_tableIn (tgt := 59) hx hb dX9_node_22 (by rw [c17]; decide) (by rw [c17]; decide) (off := 37) (by rw [c17]; rfl) (by decide) ?_
        refine lv_aload_n hx hb dX9_node_59 rfl (lv_at hl 1 rfl) ?_
        refine va_get (D := G) (ci := 7) (v := .ref (qx 20)) (C := RX9) (T := TX9) (N := 37) hx hb hts inX9w hown hK hP 0 rfl rfl 19 (by decide) wd3 (fun _ h9 => h9) rfl dX9_node_60 ?_
        refine lv_iload_n hx hb dX9_node_63 rfl (lv_at hl 2 rfl) ?_
        obtain ⟨g18, hf⟩ := gd hf
        refine va_iald hx hb hK hP 2 0 rfl rfl g18 dX9_node_64 ?_
        have e0 := rt1 hf
        exact W.iret (v := (x_nodeOver p1.toNatClampNeg)) hx hb hr (fun t ht hW => ⟨⟨(x_nodeOver p1.toNatClampNeg), (), rfl, e0, by rw [ht]; exact hP, va_K.moved hW.alike hK, by rw [hAe]; exact hD⟩, hS.F ht⟩) hS.2.2 dX9_node_65
      have hf := ie hf c17
      by_cases c19 : p2 = 2
      · have hf := it hf c19
        refine lv_tableIn (tgt := 66) hx hb dX9_node_22 (by rw [c19]; decide) (by rw [c19]; decide) (off := 44) (by rw [c19]; rfl) (by decide) ?_
        refine lv_iload_n hx hb dX9_node_66 rfl (lv_at hl 2 rfl) ?_
        refine lv_iconst (v := 1) hx hb dX9_node_67 (by decide) ?_
        refine lv_iadd hx hb dX9_node_68 ?_
        refine lv_topi (fun v20 e_v20 => ?_)
        have hf := nm_at hf e_v20
        refine lv_istore (lv' := [(4, .int v20), (3, .int (0 : Int32)), (0, .ref (qx 0)), (1, .int p1), (2, .int p2)]) hx hb dX9_node_69 hl (by decide) rfl (fun ls hl => ?_)
        exact B71 310 (0 : Int32) v20 hf _ _ hP hD hS ls (lv_sub hl [2, 3, 1, 0] rfl)
      have hf := ie hf c19
      by_cases c21 : p2 = 3
      · have hf := it hf c21
        refine lv_tableIn (tgt := 107) hx hb dX9_node_22 (by rw [c21]; decide) (by rw [c21]; decide) (off := 85) (by rw [c21]; rfl) (by decide) ?_
        refine lv_iload_n hx hb dX9_node_107 rfl (lv_at hl 2 rfl) ?_
        refine lv_istore (lv' := [(4, .int p1), (3, .int (0 : Int32)), (0, .ref (qx 0)), (1, .int p1), (2, .int p2)]) hx hb dX9_node_108 hl (by decide) rfl (fun ls hl => ?_)
        exact B110 310 (0 : Int32) p1 hf _ _ hP hD hS ls (lv_sub hl [2, 1, 0] rfl)
      have hf := ie hf c21
      have t_c15 : ¬ p2.toInt = 0 := lv_neT c15 (by decide)
      have t_c17 : ¬ p2.toInt = 1 := lv_neT c17 (by decide)
      have t_c19 : ¬ p2.toInt = 2 := lv_neT c19 (by decide)
      have t_c21 : ¬ p2.toInt = 3 := lv_neT c21 (by decide)
      refine lv_tableOut (tgt := 138) hx hb dX9_node_22 (by omega) (by decide) ?_
      refine lv_bipush (v := -2) hx hb dX9_node_138 (by decide) ?_
      have e0 := rt1 hf
      exact W.iret (v := (-2 : Int32)) hx hb hr (fun t ht hW => ⟨⟨(-2 : Int32), (), rfl, e0, by rw [ht]; exact hP, va_K.moved hW.alike hK, by rw [hAe]; exact hD⟩, hS.F ht⟩) hS.2.2 dX9_node_140
    · have hf := it hf c14
      refine lv_bipush (v := -12) hx hb dX9_node_16 (by decide) ?_
      have e0 := rt1 hf
      exact W.iret (v := (-12 : Int32)) hx hb hr (fun t ht hW => ⟨⟨(-12 : Int32), (), rfl, e0, by rw [ht]; exact hP, va_K.moved hW.alike hK, by rw [hAe]; exact hD⟩, hS.F ht⟩) hS.2.2 dX9_node_18
  exact E0 s.heap [] hP hD hS ls hl
-- X9_adds
set_option maxRecDepth 100000 in
set_option maxHeartbeats 4000000 in
theorem c_X9_adds (l : Launch) (G : va_G) (Y : Nat → ClassId) (sz : Nat) (qx : Nat → Nat) (x_points : Int32) (x_lines : Int32) (x_tide : Int32) (x_isKept : Int32) (x_isMuch : Int32) (x_sum : Int64) (x_once : Int64) (x_twice : Int64) (x_isTermMuch : Int32) (x_nodes : Int32) (x_newMany : Int32) (x_above : Nat → Int64) (x_below : Nat → Int64) (x_isTooGreat : Int32) (x_come : Int32) (x_foundSet : Int64) (p1 : Int32) (p2 : Int32) (p3 : Int64) (o_x_above : Nat → Int64) (o_x_below : Nat → Int64) (hf : f_X9_adds x_above x_below p1 p2 p3 = some (o_x_above, o_x_below)) : Met l yX9_adds wsX9_adds (rmk 1 29) (va_Pc [.ref (qx 0), .int p1, .int p2, .long p3] (Pre G (tys Y) [(qx 0, oX9 qx x_points x_lines x_tide x_isKept x_isMuch x_sum x_once x_twice x_isTermMuch x_nodes x_newMany x_isTooGreat x_come x_foundSet), (qx 25, .inl (Y 1, 300, .inr (.inl x_above))), (qx 26, .inl (Y 1, 300, .inr (.inl x_below)))] sz xT)) (va_Qv (fun (_ : Unit) => True) (Pst G (tys Y) [(qx 0, oX9 qx x_points x_lines x_tide x_isKept x_isMuch x_sum x_once x_twice x_isTermMuch x_nodes x_newMany x_isTooGreat x_come x_foundSet), (qx 25, .inl (Y 1, 300, .inr (.inl x_above))), (qx 26, .inl (Y 1, 300, .inr (.inl x_below)))] sz [(qx 0, oX9 qx x_points x_lines x_tide x_isKept x_isMuch x_sum x_once x_twice x_isTermMuch x_nodes x_newMany x_isTooGreat x_come x_foundSet), (qx 25, .inl (Y 1, 300, .inr (.inl o_x_above))), (qx 26, .inl (Y 1, 300, .inr (.inl o_x_below)))]) (va_A [(qx 0, oX9 qx x_points x_lines x_tide x_isKept x_isMuch x_sum x_once x_twice x_isTermMuch x_nodes x_newMany x_isTooGreat x_come x_foundSet), (qx 25, .inl (Y 1, 300, .inr (.inl x_above))), (qx 26, .inl (Y 1, 300, .inr (.inl x_below)))] sz)) 0 0 (va_A [(qx 0, oX9 qx x_points x_lines x_tide x_isKept x_isMuch x_sum x_once x_twice x_isTermMuch x_nodes x_newMany x_isTooGreat x_come x_foundSet), (qx 25, .inl (Y 1, 300, .inr (.inl x_above))), (qx 26, .inl (Y 1, 300, .inr (.inl x_below)))] sz) := by
  refine Met.ofW (cc := cX9_adds) (maxL := 15) (ret := none) (by decide) rfl ?_
  intro p e s m args below meth c s₁ B hml hv
  obtain ⟨rfl, hsz, hP, hK, hD0, hX⟩ := hv
  have hx := B.exec
  have hb := B.bytes
  have hr := B.returns
  have hts := atoms_spec (ws := wsX9_adds) B.pre
  have hown : s.vm.findClass RX9 = some m.cls := findClass_of_methodNamed B.named
  have hlocks := B.notSynchronized
  subst hsz
  have hD := hD0.self (sz := s.heap.size)
  generalize hAe : va_A [(qx 0, oX9 qx x_points x_lines x_tide x_isKept x_isMuch x_sum x_once x_twice x_isTermMuch x_nodes x_newMany x_isTooGreat x_come x_foundSet), (qx 25, .inl (Y 1, 300, .inr (.inl x_above))), (qx 26, .inl (Y 1, 300, .inr (.inl x_below)))] s.heap.size = A at hD ⊢
  have hA : ∀ q : Nat, s.heap.size ≤ q → A q := fun q h => by rw [← hAe]; exact Or.inr h
  have hS : va_S A s.heap s.heap [] := va_S.rf
  have hP : va_P G vwCl [(qx 0, oX9 qx x_points x_lines x_tide x_isKept x_isMuch x_sum x_once x_twice x_isTermMuch x_nodes x_newMany x_isTooGreat x_come x_foundSet), (qx 25, .inl (Y 1, 300, .inr (.inl x_above))), (qx 26, .inl (Y 1, 300, .inr (.inl x_below)))] s.heap := hP
  have wd1 : (Cond.fieldLink RX9 50 "PairedLinesModel" "above" "[J").before [.ref (qx 0), .int p1, .int p2, .long p3].toArray s = true := hts _ (List.mem_of_getElem? (i := 1) rfl)
  have wd2 : (Cond.fieldLink RX9 53 "PairedLinesModel" "below" "[J").before [.ref (qx 0), .int p1, .int p2, .long p3].toArray s = true := hts _ (List.mem_of_getElem? (i := 2) rfl)
  have wd3 : (Cond.constantLong RX9 84 (-1)).before [.ref (qx 0), .int p1, .int p2, .long p3].toArray s = true := hts _ (List.mem_of_getElem? (i := 3) rfl)
  have inX9w : ∀ w ∈ u_ws RX9 TX9 37, w ∈ wsX9_adds := fun w hw => List.mem_cons_of_mem _ (List.mem_append_right _ (hw))
  have hl := lv_entry ([.ref (qx 0), .int p1, .int p2, .long p3]) (n := 15) (Nat.le_of_ble_eq_true rfl)
  rw [lg_entry_eq]
  generalize (lg_sl ([.ref (qx 0), .int p1, .int p2, .long p3]) ++ List.replicate (15 - (lg_sl ([.ref (qx 0), .int p1, .int p2, .long p3])).length) Slot.unset).toArray = ls at hl ⊢
  have hl : lv_has ls 15 [(0, .ref (qx 0)), (1, .int p1), (2, .int p2), (3, .long p3)] := hl
  have E0 : ∀ (H : Heap) (locs : List Loc), va_P G vwCl [(qx 0, oX9 qx x_points x_lines x_tide x_isKept x_isMuch x_sum x_once x_twice x_isTermMuch x_nodes x_newMany x_isTooGreat x_come x_foundSet), (qx 25, .inl (Y 1, 300, .inr (.inl x_above))), (qx 26, .inl (Y 1, 300, .inr (.inl x_below)))] H → va_D A [(qx 0, oX9 qx x_points x_lines x_tide x_isKept x_isMuch x_sum x_once x_twice x_isTermMuch x_nodes x_newMany x_isTooGreat x_come x_foundSet), (qx 25, .inl (Y 1, 300, .inr (.inl x_above))), (qx 26, .inl (Y 1, 300, .inr (.inl x_below)))] → va_S A s.heap H locs → ∀ (ls : Array Slot), lv_has ls 15 [(0, .ref (qx 0)), (1, .int p1), (2, .int p2), (3, .long p3)] → W p l e (headSpec wsX9_adds (rmk 1 29)).room s m [.ref (qx 0), .int p1, .int p2, .long p3].toArray below meth c H locs 0 0 (MQ below (va_Qv (fun (_ : Unit) => True) (Pst G (tys Y) [(qx 0, oX9 qx x_points x_lines x_tide x_isKept x_isMuch x_sum x_once x_twice x_isTermMuch x_nodes x_newMany x_isTooGreat x_come x_foundSet), (qx 25, .inl (Y 1, 300, .inr (.inl x_above))), (qx 26, .inl (Y 1, 300, .inr (.inl x_below)))] s.heap.size [(qx 0, oX9 qx x_points x_lines x_tide x_isKept x_isMuch x_sum x_once x_twice x_isTermMuch x_nodes x_newMany x_isTooGreat x_come x_foundSet), (qx 25, .inl (Y 1, 300, .inr (.inl o_x_above))), (qx 26, .inl (Y 1, 300, .inr (.inl o_x_below)))]) A) [.ref (qx 0), .int p1, .int p2, .long p3].toArray s 0 0 A) (F0 m 0 ls []) := by
    intro H locs hP hD hS ls hl
    unfold f_X9_adds at hf
    refine lv_aload_n hx hb dX9_adds_0 rfl (lv_at hl 0 rfl) ?_
    refine va_get (D := G) (ci := 7) (v := .ref (qx 25)) (C := RX9) (T := TX9) (N := 37) hx hb hts inX9w hown hK hP 0 rfl rfl 24 (by decide) wd1 (fun _ h9 => h9) rfl dX9_adds_1 ?_
    refine lv_iload_n hx hb dX9_adds_4 rfl (lv_at hl 1 rfl) ?_
    obtain ⟨g1, hf⟩ := gd hf
    refine va_lald hx hb hK hP 1 1 rfl rfl g1 dX9_adds_5 ?_
    refine lv_aload_n hx hb dX9_adds_6 rfl (lv_at hl 0 rfl) ?_
    refine va_get (D := G) (ci := 7) (v := .ref (qx 25)) (C := RX9) (T := TX9) (N := 37) hx hb hts inX9w hown hK hP 0 rfl rfl 24 (by decide) wd1 (fun _ h9 => h9) rfl dX9_adds_7 ?_
    refine lv_iload_n hx hb dX9_adds_10 rfl (lv_at hl 2 rfl) ?_
    obtain ⟨g2, hf⟩ := gd hf
    refine va_lald hx hb hK hP 1 1 rfl rfl g2 dX9_adds_11 ?_
    obtain ⟨r3, hc, hf⟩ := bd1 hf
    refine cl_l (ws' := [(qx 0, oX9 qx x_points x_lines x_tide x_isKept x_isMuch x_sum x_once x_twice x_isTermMuch x_nodes x_newMany x_isTooGreat x_come x_foundSet), (qx 25, .inl (Y 1, 300, .inr (.inl x_above))), (qx 26, .inl (Y 1, 300, .inr (.inl x_below)))]) (wr := [(qx 0, oX9 qx x_points x_lines x_tide x_isKept x_isMuch x_sum x_once x_twice x_isTermMuch x_nodes x_newMany x_isTooGreat x_come x_foundSet), (qx 25, .inl (Y 1, 300, .inr (.inl x_above))), (qx 26, .inl (Y 1, 300, .inr (.inl x_below)))]) (rnS (As := [.long (x_above p1.toNatClampNeg), .long (x_above p2.toNatClampNeg)]) (rest := []) ⟨hx, hb, hml, hown, hts⟩ (c_X9_times l G Y H.size (x_above p1.toNatClampNeg) (x_above p2.toNatClampNeg) r3 hc) (va_cwS 2 hts gX9_adds_X9_times rfl rfl rfl (by decide +kernel) ⟨(Nat.le_of_ble_eq_true rfl), (Nat.le_of_ble_eq_true rfl)⟩) trivial okT hK hP hD [] rfl rfl rfl hl.1 rfl (Nat.le_of_ble_eq_true rfl) dX9_adds_12) hP hD hS hA [] [0, 1, 2] [0, 1, 2] rfl rfl rfl (by decide) rfl rfl (fun H locs hP hD hS => ?_)
    refine lv_lstore (lv' := [(5, .long r3), (0, .ref (qx 0)), (1, .int p1), (2, .int p2), (3, .long p3)]) hx hb dX9_adds_15 hl (by decide) rfl (fun ls hl => ?_)
    refine lv_lload_n hx hb dX9_adds_17 rfl (lv_at hl 4 rfl) ?_
    refine lv_aload_n hx hb dX9_adds_18 rfl (lv_at hl 1 rfl) ?_
    refine va_get (D := G) (ci := 7) (v := .ref (qx 26)) (C := RX9) (T := TX9) (N := 37) hx hb hts inX9w hown hK hP 0 rfl rfl 25 (by decide) wd2 (fun _ h9 => h9) rfl dX9_adds_19 ?_
    refine lv_iload_n hx hb dX9_adds_22 rfl (lv_at hl 3 rfl) ?_
    obtain ⟨g4, hf⟩ := gd hf
    refine va_lald hx hb hK hP 2 1 rfl rfl g4 dX9_adds_23 ?_
    obtain ⟨r5, hc, hf⟩ := bd1 hf
    refine cl_l (ws' := [(qx 0, oX9 qx x_points x_lines x_tide x_isKept x_isMuch x_sum x_once x_twice x_isTermMuch x_nodes x_newMany x_isTooGreat x_come x_foundSet), (qx 25, .inl (Y 1, 300, .inr (.inl x_above))), (qx 26, .inl (Y 1, 300, .inr (.inl x_below)))]) (wr := [(qx 0, oX9 qx x_points x_lines x_tide x_isKept x_isMuch x_sum x_once x_twice x_isTermMuch x_nodes x_newMany x_isTooGreat x_come x_foundSet), (qx 25, .inl (Y 1, 300, .inr (.inl x_above))), (qx 26, .inl (Y 1, 300, .inr (.inl x_below)))]) (rnS (As := [.long p3, .long (x_below p2.toNatClampNeg)]) (rest := []) ⟨hx, hb, hml, hown, hts⟩ (c_X9_times l G Y H.size p3 (x_below p2.toNatClampNeg) r5 hc) (va_cwS 2 hts gX9_adds_X9_times rfl rfl rfl (by decide +kernel) ⟨(Nat.le_of_ble_eq_true rfl), (Nat.le_of_ble_eq_true rfl)⟩) trivial okT hK hP hD [] rfl rfl rfl hl.1 rfl (Nat.le_of_ble_eq_true rfl) dX9_adds_24) hP hD hS hA [] [0, 1, 2] [0, 1, 2] rfl rfl rfl (by decide) rfl rfl (fun H locs hP hD hS => ?_)
    refine lv_aload_n hx hb dX9_adds_27 rfl (lv_at hl 1 rfl) ?_
    refine va_get (D := G) (ci := 7) (v := .ref (qx 26)) (C := RX9) (T := TX9) (N := 37) hx hb hts inX9w hown hK hP 0 rfl rfl 25 (by decide) wd2 (fun _ h9 => h9) rfl dX9_adds_28 ?_
    refine lv_iload_n hx hb dX9_adds_31 rfl (lv_at hl 2 rfl) ?_
    obtain ⟨g6, hf⟩ := gd hf
    refine va_lald hx hb hK hP 2 1 rfl rfl g6 dX9_adds_32 ?_
    obtain ⟨r7, hc, hf⟩ := bd1 hf
    refine cl_l (ws' := [(qx 0, oX9 qx x_points x_lines x_tide x_isKept x_isMuch x_sum x_once x_twice x_isTermMuch x_nodes x_newMany x_isTooGreat x_come x_foundSet), (qx 25, .inl (Y 1, 300, .inr (.inl x_above))), (qx 26, .inl (Y 1, 300, .inr (.inl x_below)))]) (wr := [(qx 0, oX9 qx x_points x_lines x_tide x_isKept x_isMuch x_sum x_once x_twice x_isTermMuch x_nodes x_newMany x_isTooGreat x_come x_foundSet), (qx 25, .inl (Y 1, 300, .inr (.inl x_above))), (qx 26, .inl (Y 1, 300, .inr (.inl x_below)))]) (rnS (As := [.long r5, .long (x_below p1.toNatClampNeg)]) (rest := []) ⟨hx, hb, hml, hown, hts⟩ (c_X9_times l G Y H.size r5 (x_below p1.toNatClampNeg) r7 hc) (va_cwS 2 hts gX9_adds_X9_times rfl rfl rfl (by decide +kernel) ⟨(Nat.le_of_ble_eq_true rfl), (Nat.le_of_ble_eq_true rfl)⟩) trivial okT hK hP hD [] rfl rfl rfl hl.1 rfl (Nat.le_of_ble_eq_true rfl) dX9_adds_33) hP hD hS hA [] [0, 1, 2] [0, 1, 2] rfl rfl rfl (by decide) rfl rfl (fun H locs hP hD hS => ?_)
    refine lv_lstore (lv' := [(7, .long r7), (5, .long r3), (0, .ref (qx 0)), (1, .int p1), (2, .int p2), (3, .long p3)]) hx hb dX9_adds_36 hl (by decide) rfl (fun ls hl => ?_)
    refine lv_aload_n hx hb dX9_adds_38 rfl (lv_at hl 2 rfl) ?_
    refine va_get (D := G) (ci := 7) (v := .ref (qx 26)) (C := RX9) (T := TX9) (N := 37) hx hb hts inX9w hown hK hP 0 rfl rfl 25 (by decide) wd2 (fun _ h9 => h9) rfl dX9_adds_39 ?_
    refine lv_iload_n hx hb dX9_adds_42 rfl (lv_at hl 3 rfl) ?_
    obtain ⟨g8, hf⟩ := gd hf
    refine va_lald hx hb hK hP 2 1 rfl rfl g8 dX9_adds_43 ?_
    refine lv_aload_n hx hb dX9_adds_44 rfl (lv_at hl 2 rfl) ?_
    refine va_get (D := G) (ci := 7) (v := .ref (qx 25)) (C := RX9) (T := TX9) (N := 37) hx hb hts inX9w hown hK hP 0 rfl rfl 24 (by decide) wd1 (fun _ h9 => h9) rfl dX9_adds_45 ?_
    refine lv_iload_n hx hb dX9_adds_48 rfl (lv_at hl 4 rfl) ?_
    obtain ⟨g9, hf⟩ := gd hf
    refine va_lald hx hb hK hP 1 1 rfl rfl g9 dX9_adds_49 ?_
    obtain ⟨r10, hc, hf⟩ := bd1 hf
    refine cl_l (ws' := [(qx 0, oX9 qx x_points x_lines x_tide x_isKept x_isMuch x_sum x_once x_twice x_isTermMuch x_nodes x_newMany x_isTooGreat x_come x_foundSet), (qx 25, .inl (Y 1, 300, .inr (.inl x_above))), (qx 26, .inl (Y 1, 300, .inr (.inl x_below)))]) (wr := [(qx 0, oX9 qx x_points x_lines x_tide x_isKept x_isMuch x_sum x_once x_twice x_isTermMuch x_nodes x_newMany x_isTooGreat x_come x_foundSet), (qx 25, .inl (Y 1, 300, .inr (.inl x_above))), (qx 26, .inl (Y 1, 300, .inr (.inl x_below)))]) (rnS (As := [.long (x_below p1.toNatClampNeg), .long (x_above p2.toNatClampNeg)]) (rest := []) ⟨hx, hb, hml, hown, hts⟩ (c_X9_times l G Y H.size (x_below p1.toNatClampNeg) (x_above p2.toNatClampNeg) r10 hc) (va_cwS 2 hts gX9_adds_X9_times rfl rfl rfl (by decide +kernel) ⟨(Nat.le_of_ble_eq_true rfl), (Nat.le_of_ble_eq_true rfl)⟩) trivial okT hK hP hD [] rfl rfl rfl hl.1 rfl (Nat.le_of_ble_eq_true rfl) dX9_adds_50) hP hD hS hA [] [0, 1, 2] [0, 1, 2] rfl rfl rfl (by decide) rfl rfl (fun H locs hP hD hS => ?_)
    refine lv_lstore (lv' := [(9, .long r10), (7, .long r7), (5, .long r3), (0, .ref (qx 0)), (1, .int p1), (2, .int p2), (3, .long p3)]) hx hb dX9_adds_53 hl (by decide) rfl (fun ls hl => ?_)
    refine lv_lload hx hb dX9_adds_55 (lv_at hl 2 rfl) ?_
    refine lv_lload hx hb dX9_adds_57 (lv_at hl 1 rfl) ?_
    obtain ⟨r11, hc, hf⟩ := bd1 hf
    refine cl_l (ws' := [(qx 0, oX9 qx x_points x_lines x_tide x_isKept x_isMuch x_sum x_once x_twice x_isTermMuch x_nodes x_newMany x_isTooGreat x_come x_foundSet), (qx 25, .inl (Y 1, 300, .inr (.inl x_above))), (qx 26, .inl (Y 1, 300, .inr (.inl x_below)))]) (wr := [(qx 0, oX9 qx x_points x_lines x_tide x_isKept x_isMuch x_sum x_once x_twice x_isTermMuch x_nodes x_newMany x_isTooGreat x_come x_foundSet), (qx 25, .inl (Y 1, 300, .inr (.inl x_above))), (qx 26, .inl (Y 1, 300, .inr (.inl x_below)))]) (rnS (As := [.long r3, .long r7]) (rest := []) ⟨hx, hb, hml, hown, hts⟩ (c_X9_plus l G Y H.size r3 r7 r11 hc) (va_cwS 2 hts gX9_adds_X9_plus rfl rfl rfl (by decide +kernel) ⟨(Nat.le_of_ble_eq_true rfl), (Nat.le_of_ble_eq_true rfl)⟩) trivial okT hK hP hD [] rfl rfl rfl hl.1 rfl (Nat.le_of_ble_eq_true rfl) dX9_adds_59) hP hD hS hA [] [0, 1, 2] [0, 1, 2] rfl rfl rfl (by decide) rfl rfl (fun H locs hP hD hS => ?_)
    refine lv_lstore (lv' := [(11, .long r11), (9, .long r10), (7, .long r7), (5, .long r3), (0, .ref (qx 0)), (1, .int p1), (2, .int p2), (3, .long p3)]) hx hb dX9_adds_62 hl (by decide) rfl (fun ls hl => ?_)
    refine lv_aload_n hx hb dX9_adds_64 rfl (lv_at hl 4 rfl) ?_
    refine va_get (D := G) (ci := 7) (v := .ref (qx 25)) (C := RX9) (T := TX9) (N := 37) hx hb hts inX9w hown hK hP 0 rfl rfl 24 (by decide) wd1 (fun _ h9 => h9) rfl dX9_adds_65 ?_
    refine lv_iload_n hx hb dX9_adds_68 rfl (lv_at hl 5 rfl) ?_
    obtain ⟨g12, hf⟩ := gd hf
    refine va_lald hx hb hK hP 1 1 rfl rfl g12 dX9_adds_69 ?_
    refine lv_lconst (v := 0) hx hb dX9_adds_70 (by decide) ?_
    refine W.lcmp hx hb dX9_adds_71 ?_
    refine lv_if_lt (tgt := 114) hx hb dX9_adds_72 (by decide) (fun c13 => ?_) (fun c13 => ?_)
    · have hf := it hf c13
      refine lv_aload_n hx hb dX9_adds_114 rfl (lv_at hl 4 rfl) ?_
      refine va_get (D := G) (ci := 7) (v := .ref (qx 25)) (C := RX9) (T := TX9) (N := 37) hx hb hts inX9w hown hK hP 0 rfl rfl 24 (by decide) wd1 (fun _ h9 => h9) rfl dX9_adds_115 ?_
      refine lv_iload_n hx hb dX9_adds_118 rfl (lv_at hl 5 rfl) ?_
      refine lv_ldc2 hx hb hown wd3 dX9_adds_119 ?_
      obtain ⟨g14, hf⟩ := gd hf
      refine va_last hx hb hK hP hD hS 1 1 rfl rfl g14 dX9_adds_122 (fun H locs hP hD hS => ?_)
      obtain ⟨v15, e_v15⟩ : ∃ z : Nat → Int64, z = vp_updL x_above p1.toNatClampNeg (-1 : Int64) := ⟨_, rfl⟩
      have hf := nm_at hf e_v15
      have hP : va_P G vwCl [(qx 0, oX9 qx x_points x_lines x_tide x_isKept x_isMuch x_sum x_once x_twice x_isTermMuch x_nodes x_newMany x_isTooGreat x_come x_foundSet), (qx 25, .inl (Y 1, 300, .inr (.inl v15))), (qx 26, .inl (Y 1, 300, .inr (.inl x_below)))] H := by rw [e_v15]; exact hP
      have hD : va_D A [(qx 0, oX9 qx x_points x_lines x_tide x_isKept x_isMuch x_sum x_once x_twice x_isTermMuch x_nodes x_newMany x_isTooGreat x_come x_foundSet), (qx 25, .inl (Y 1, 300, .inr (.inl v15))), (qx 26, .inl (Y 1, 300, .inr (.inl x_below)))] := by rw [e_v15]; exact hD
      obtain ⟨e0, e1⟩ := rt2 hf
      have hP : va_P G vwCl [(qx 0, oX9 qx x_points x_lines x_tide x_isKept x_isMuch x_sum x_once x_twice x_isTermMuch x_nodes x_newMany x_isTooGreat x_come x_foundSet), (qx 25, .inl (Y 1, 300, .inr (.inl o_x_above))), (qx 26, .inl (Y 1, 300, .inr (.inl o_x_below)))] H := by rw [← e0, ← e1]; exact hP
      have hD : va_D A [(qx 0, oX9 qx x_points x_lines x_tide x_isKept x_isMuch x_sum x_once x_twice x_isTermMuch x_nodes x_newMany x_isTooGreat x_come x_foundSet), (qx 25, .inl (Y 1, 300, .inr (.inl o_x_above))), (qx 26, .inl (Y 1, 300, .inr (.inl o_x_below)))] := by rw [← e0, ← e1]; exact hD
      exact W.vret hx hb hr (fun t ht hW => ⟨⟨(), rfl, trivial, by rw [ht]; exact hP, va_K.moved hW.alike hK, by rw [hAe]; exact hD⟩, hS.F ht⟩) hS.2.2 dX9_adds_123
    · have hf := ie hf c13
      refine lv_aload_n hx hb dX9_adds_75 rfl (lv_at hl 4 rfl) ?_
      refine va_get (D := G) (ci := 7) (v := .ref (qx 25)) (C := RX9) (T := TX9) (N := 37) hx hb hts inX9w hown hK hP 0 rfl rfl 24 (by decide) wd1 (fun _ h9 => h9) rfl dX9_adds_76 ?_
      refine lv_iload_n hx hb dX9_adds_79 rfl (lv_at hl 6 rfl) ?_
      obtain ⟨g16, hf⟩ := gd hf
      refine va_lald hx hb hK hP 1 1 rfl rfl g16 dX9_adds_80 ?_
      refine lv_lconst (v := 0) hx hb dX9_adds_81 (by decide) ?_
      refine W.lcmp hx hb dX9_adds_82 ?_
      refine lv_if_lt (tgt := 114) hx hb dX9_adds_83 (by decide) (fun c17 => ?_) (fun c17 => ?_)
      · have hf := it hf c17
        refine lv_aload_n hx hb dX9_adds_114 rfl (lv_at hl 4 rfl) ?_
        refine va_get (D := G) (ci := 7) (v := .ref (qx 25)) (C := RX9) (T := TX9) (N := 37) hx hb hts inX9w hown hK hP 0 rfl rfl 24 (by decide) wd1 (fun _ h9 => h9) rfl dX9_adds_115 ?_
        refine lv_iload_n hx hb dX9_adds_118 rfl (lv_at hl 5 rfl) ?_
        refine lv_ldc2 hx hb hown wd3 dX9_adds_119 ?_
        obtain ⟨g18, hf⟩ := gd hf
        refine va_last hx hb hK hP hD hS 1 1 rfl rfl g18 dX9_adds_122 (fun H locs hP hD hS => ?_)
        obtain ⟨v19, e_v19⟩ : ∃ z : Nat → Int64, z = vp_updL x_above p1.toNatClampNeg (-1 : Int64) := ⟨_, rfl⟩
        have hf := nm_at hf e_v19
        have hP : va_P G vwCl [(qx 0, oX9 qx x_points x_lines x_tide x_isKept x_isMuch x_sum x_once x_twice x_isTermMuch x_nodes x_newMany x_isTooGreat x_come x_foundSet), (qx 25, .inl (Y 1, 300, .inr (.inl v19))), (qx 26, .inl (Y 1, 300, .inr (.inl x_below)))] H := by rw [e_v19]; exact hP
        have hD : va_D A [(qx 0, oX9 qx x_points x_lines x_tide x_isKept x_isMuch x_sum x_once x_twice x_isTermMuch x_nodes x_newMany x_isTooGreat x_come x_foundSet), (qx 25, .inl (Y 1, 300, .inr (.inl v19))), (qx 26, .inl (Y 1, 300, .inr (.inl x_below)))] := by rw [e_v19]; exact hD
        obtain ⟨e0, e1⟩ := rt2 hf
        have hP : va_P G vwCl [(qx 0, oX9 qx x_points x_lines x_tide x_isKept x_isMuch x_sum x_once x_twice x_isTermMuch x_nodes x_newMany x_isTooGreat x_come x_foundSet), (qx 25, .inl (Y 1, 300, .inr (.inl o_x_above))), (qx 26, .inl (Y 1, 300, .inr (.inl o_x_below)))] H := by rw [← e0, ← e1]; exact hP
        have hD : va_D A [(qx 0, oX9 qx x_points x_lines x_tide x_isKept x_isMuch x_sum x_once x_twice x_isTermMuch x_nodes x_newMany x_isTooGreat x_come x_foundSet), (qx 25, .inl (Y 1, 300, .inr (.inl o_x_above))), (qx 26, .inl (Y 1, 300, .inr (.inl o_x_below)))] := by rw [← e0, ← e1]; exact hD
        exact W.vret hx hb hr (fun t ht hW => ⟨⟨(), rfl, trivial, by rw [ht]; exact hP, va_K.moved hW.alike hK, by rw [hAe]; exact hD⟩, hS.F ht⟩) hS.2.2 dX9_adds_123
      · have hf := ie hf c17
        refine lv_lload hx hb dX9_adds_86 (lv_at hl 3 rfl) ?_
        refine lv_lconst (v := 0) hx hb dX9_adds_88 (by decide) ?_
        refine W.lcmp hx hb dX9_adds_89 ?_
        refine lv_if_lt (tgt := 114) hx hb dX9_adds_90 (by decide) (fun c20 => ?_) (fun c20 => ?_)
        · have hf := it hf c20
          refine lv_aload_n hx hb dX9_adds_114 rfl (lv_at hl 4 rfl) ?_
          refine va_get (D := G) (ci := 7) (v := .ref (qx 25)) (C := RX9) (T := TX9) (N := 37) hx hb hts inX9w hown hK hP 0 rfl rfl 24 (by decide) wd1 (fun _ h9 => h9) rfl dX9_adds_115 ?_
          refine lv_iload_n hx hb dX9_adds_118 rfl (lv_at hl 5 rfl) ?_
          refine lv_ldc2 hx hb hown wd3 dX9_adds_119 ?_
          obtain ⟨g21, hf⟩ := gd hf
          refine va_last hx hb hK hP hD hS 1 1 rfl rfl g21 dX9_adds_122 (fun H locs hP hD hS => ?_)
          obtain ⟨v22, e_v22⟩ : ∃ z : Nat → Int64, z = vp_updL x_above p1.toNatClampNeg (-1 : Int64) := ⟨_, rfl⟩
          have hf := nm_at hf e_v22
          have hP : va_P G vwCl [(qx 0, oX9 qx x_points x_lines x_tide x_isKept x_isMuch x_sum x_once x_twice x_isTermMuch x_nodes x_newMany x_isTooGreat x_come x_foundSet), (qx 25, .inl (Y 1, 300, .inr (.inl v22))), (qx 26, .inl (Y 1, 300, .inr (.inl x_below)))] H := by rw [e_v22]; exact hP
          have hD : va_D A [(qx 0, oX9 qx x_points x_lines x_tide x_isKept x_isMuch x_sum x_once x_twice x_isTermMuch x_nodes x_newMany x_isTooGreat x_come x_foundSet), (qx 25, .inl (Y 1, 300, .inr (.inl v22))), (qx 26, .inl (Y 1, 300, .inr (.inl x_below)))] := by rw [e_v22]; exact hD
          obtain ⟨e0, e1⟩ := rt2 hf
          have hP : va_P G vwCl [(qx 0, oX9 qx x_points x_lines x_tide x_isKept x_isMuch x_sum x_once x_twice x_isTermMuch x_nodes x_newMany x_isTooGreat x_come x_foundSet), (qx 25, .inl (Y 1, 300, .inr (.inl o_x_above))), (qx 26, .inl (Y 1, 300, .inr (.inl o_x_below)))] H := by rw [← e0, ← e1]; exact hP
          have hD : va_D A [(qx 0, oX9 qx x_points x_lines x_tide x_isKept x_isMuch x_sum x_once x_twice x_isTermMuch x_nodes x_newMany x_isTooGreat x_come x_foundSet), (qx 25, .inl (Y 1, 300, .inr (.inl o_x_above))), (qx 26, .inl (Y 1, 300, .inr (.inl o_x_below)))] := by rw [← e0, ← e1]; exact hD
          exact W.vret hx hb hr (fun t ht hW => ⟨⟨(), rfl, trivial, by rw [ht]; exact hP, va_K.moved hW.alike hK, by rw [hAe]; exact hD⟩, hS.F ht⟩) hS.2.2 dX9_adds_123
        · have hf := ie hf c20
          refine lv_lload hx hb dX9_adds_93 (lv_at hl 2 rfl) ?_
          refine lv_lconst (v := 0) hx hb dX9_adds_95 (by decide) ?_
          refine W.lcmp hx hb dX9_adds_96 ?_
          refine lv_if_lt (tgt := 114) hx hb dX9_adds_97 (by decide) (fun c23 => ?_) (fun c23 => ?_)
          · have hf := it hf c23
            refine lv_aload_n hx hb dX9_adds_114 rfl (lv_at hl 4 rfl) ?_
            refine va_get (D := G) (ci := 7) (v := .ref (qx 25)) (C := RX9) (T := TX9) (N := 37) hx hb hts inX9w hown hK hP 0 rfl rfl 24 (by decide) wd1 (fun _ h9 => h9) rfl dX9_adds_115 ?_
            refine lv_iload_n hx hb dX9_adds_118 rfl (lv_at hl 5 rfl) ?_
            refine lv_ldc2 hx hb hown wd3 dX9_adds_119 ?_
            obtain ⟨g24, hf⟩ := gd hf
            refine va_last hx hb hK hP hD hS 1 1 rfl rfl g24 dX9_adds_122 (fun H locs hP hD hS => ?_)
            obtain ⟨v25, e_v25⟩ : ∃ z : Nat → Int64, z = vp_updL x_above p1.toNatClampNeg (-1 : Int64) := ⟨_, rfl⟩
            have hf := nm_at hf e_v25
            have hP : va_P G vwCl [(qx 0, oX9 qx x_points x_lines x_tide x_isKept x_isMuch x_sum x_once x_twice x_isTermMuch x_nodes x_newMany x_isTooGreat x_come x_foundSet), (qx 25, .inl (Y 1, 300, .inr (.inl v25))), (qx 26, .inl (Y 1, 300, .inr (.inl x_below)))] H := by rw [e_v25]; exact hP
            have hD : va_D A [(qx 0, oX9 qx x_points x_lines x_tide x_isKept x_isMuch x_sum x_once x_twice x_isTermMuch x_nodes x_newMany x_isTooGreat x_come x_foundSet), (qx 25, .inl (Y 1, 300, .inr (.inl v25))), (qx 26, .inl (Y 1, 300, .inr (.inl x_below)))] := by rw [e_v25]; exact hD
            obtain ⟨e0, e1⟩ := rt2 hf
            have hP : va_P G vwCl [(qx 0, oX9 qx x_points x_lines x_tide x_isKept x_isMuch x_sum x_once x_twice x_isTermMuch x_nodes x_newMany x_isTooGreat x_come x_foundSet), (qx 25, .inl (Y 1, 300, .inr (.inl o_x_above))), (qx 26, .inl (Y 1, 300, .inr (.inl o_x_below)))] H := by rw [← e0, ← e1]; exact hP
            have hD : va_D A [(qx 0, oX9 qx x_points x_lines x_tide x_isKept x_isMuch x_sum x_once x_twice x_isTermMuch x_nodes x_newMany x_isTooGreat x_come x_foundSet), (qx 25, .inl (Y 1, 300, .inr (.inl o_x_above))), (qx 26, .inl (Y 1, 300, .inr (.inl o_x_below)))] := by rw [← e0, ← e1]; exact hD
            exact W.vret hx hb hr (fun t ht hW => ⟨⟨(), rfl, trivial, by rw [ht]; exact hP, va_K.moved hW.alike hK, by rw [hAe]; exact hD⟩, hS.F ht⟩) hS.2.2 dX9_adds_123
          · have hf := ie hf c23
            refine lv_lload hx hb dX9_adds_100 (lv_at hl 1 rfl) ?_
            refine lv_lconst (v := 0) hx hb dX9_adds_102 (by decide) ?_
            refine W.lcmp hx hb dX9_adds_103 ?_
            refine lv_if_lt (tgt := 114) hx hb dX9_adds_104 (by decide) (fun c26 => ?_) (fun c26 => ?_)
            · have hf := it hf c26
              refine lv_aload_n hx hb dX9_adds_114 rfl (lv_at hl 4 rfl) ?_
              refine va_get (D := G) (ci := 7) (v := .ref (qx 25)) (C := RX9) (T := TX9) (N := 37) hx hb hts inX9w hown hK hP 0 rfl rfl 24 (by decide) wd1 (fun _ h9 => h9) rfl dX9_adds_115 ?_
              refine lv_iload_n hx hb dX9_adds_118 rfl (lv_at hl 5 rfl) ?_
              refine lv_ldc2 hx hb hown wd3 dX9_adds_119 ?_
              obtain ⟨g27, hf⟩ := gd hf
              refine va_last hx hb hK hP hD hS 1 1 rfl rfl g27 dX9_adds_122 (fun H locs hP hD hS => ?_)
              obtain ⟨v28, e_v28⟩ : ∃ z : Nat → Int64, z = vp_updL x_above p1.toNatClampNeg (-1 : Int64) := ⟨_, rfl⟩
              have hf := nm_at hf e_v28
              have hP : va_P G vwCl [(qx 0, oX9 qx x_points x_lines x_tide x_isKept x_isMuch x_sum x_once x_twice x_isTermMuch x_nodes x_newMany x_isTooGreat x_come x_foundSet), (qx 25, .inl (Y 1, 300, .inr (.inl v28))), (qx 26, .inl (Y 1, 300, .inr (.inl x_below)))] H := by rw [e_v28]; exact hP
              have hD : va_D A [(qx 0, oX9 qx x_points x_lines x_tide x_isKept x_isMuch x_sum x_once x_twice x_isTermMuch x_nodes x_newMany x_isTooGreat x_come x_foundSet), (qx 25, .inl (Y 1, 300, .inr (.inl v28))), (qx 26, .inl (Y 1, 300, .inr (.inl x_below)))] := by rw [e_v28]; exact hD
              obtain ⟨e0, e1⟩ := rt2 hf
              have hP : va_P G vwCl [(qx 0, oX9 qx x_points x_lines x_tide x_isKept x_isMuch x_sum x_once x_twice x_isTermMuch x_nodes x_newMany x_isTooGreat x_come x_foundSet), (qx 25, .inl (Y 1, 300, .inr (.inl o_x_above))), (qx 26, .inl (Y 1, 300, .inr (.inl o_x_below)))] H := by rw [← e0, ← e1]; exact hP
              have hD : va_D A [(qx 0, oX9 qx x_points x_lines x_tide x_isKept x_isMuch x_sum x_once x_twice x_isTermMuch x_nodes x_newMany x_isTooGreat x_come x_foundSet), (qx 25, .inl (Y 1, 300, .inr (.inl o_x_above))), (qx 26, .inl (Y 1, 300, .inr (.inl o_x_below)))] := by rw [← e0, ← e1]; exact hD
              exact W.vret hx hb hr (fun t ht hW => ⟨⟨(), rfl, trivial, by rw [ht]; exact hP, va_K.moved hW.alike hK, by rw [hAe]; exact hD⟩, hS.F ht⟩) hS.2.2 dX9_adds_123
            · have hf := ie hf c26
              refine lv_lload hx hb dX9_adds_107 (lv_at hl 0 rfl) ?_
              refine lv_lconst (v := 0) hx hb dX9_adds_109 (by decide) ?_
              refine W.lcmp hx hb dX9_adds_110 ?_
              refine lv_if_ge (tgt := 124) hx hb dX9_adds_111 (by decide) (fun c29 => ?_) (fun c29 => ?_)
              · have hf := it hf c29
                refine lv_lload hx hb dX9_adds_124 (lv_at hl 0 rfl) ?_
                refine lv_lload hx hb dX9_adds_126 (lv_at hl 1 rfl) ?_
                obtain ⟨r30, hc, hf⟩ := bd1 hf
                refine cl_l (ws' := [(qx 0, oX9 qx x_points x_lines x_tide x_isKept x_isMuch x_sum x_once x_twice x_isTermMuch x_nodes x_newMany x_isTooGreat x_come x_foundSet), (qx 25, .inl (Y 1, 300, .inr (.inl x_above))), (qx 26, .inl (Y 1, 300, .inr (.inl x_below)))]) (wr := [(qx 0, oX9 qx x_points x_lines x_tide x_isKept x_isMuch x_sum x_once x_twice x_isTermMuch x_nodes x_newMany x_isTooGreat x_come x_foundSet), (qx 25, .inl (Y 1, 300, .inr (.inl x_above))), (qx 26, .inl (Y 1, 300, .inr (.inl x_below)))]) (rnS (As := [.long r11, .long r10]) (rest := []) ⟨hx, hb, hml, hown, hts⟩ (c_X9_divisor l G Y H.size r11 r10 r30 hc) (va_cwS 2 hts gX9_adds_X9_divisor rfl rfl rfl (by decide +kernel) ⟨(Nat.le_of_ble_eq_true rfl), (Nat.le_of_ble_eq_true rfl)⟩) trivial okT hK hP hD [] rfl rfl rfl hl.1 rfl (Nat.le_of_ble_eq_true rfl) dX9_adds_128) hP hD hS hA [] [0, 1, 2] [0, 1, 2] rfl rfl rfl (by decide) rfl rfl (fun H locs hP hD hS => ?_)
                refine lv_lstore (lv' := [(13, .long r30), (11, .long r11), (9, .long r10), (7, .long r7), (5, .long r3), (0, .ref (qx 0)), (1, .int p1), (2, .int p2), (3, .long p3)]) hx hb dX9_adds_131 hl (by decide) rfl (fun ls hl => ?_)
                refine lv_aload_n hx hb dX9_adds_133 rfl (lv_at hl 5 rfl) ?_
                refine va_get (D := G) (ci := 7) (v := .ref (qx 25)) (C := RX9) (T := TX9) (N := 37) hx hb hts inX9w hown hK hP 0 rfl rfl 24 (by decide) wd1 (fun _ h9 => h9) rfl dX9_adds_134 ?_
                refine lv_iload_n hx hb dX9_adds_137 rfl (lv_at hl 6 rfl) ?_
                refine lv_lload hx hb dX9_adds_138 (lv_at hl 1 rfl) ?_
                refine lv_lload hx hb dX9_adds_140 (lv_at hl 0 rfl) ?_
                obtain ⟨g31, hf⟩ := gd hf
                refine lv_ldiv hx hb dX9_adds_142 g31 ?_
                obtain ⟨g32, hf⟩ := gd hf
                refine va_last hx hb hK hP hD hS 1 1 rfl rfl g32 dX9_adds_143 (fun H locs hP hD hS => ?_)
                obtain ⟨v33, e_v33⟩ : ∃ z : Nat → Int64, z = vp_updL x_above p1.toNatClampNeg (r11 / r30) := ⟨_, rfl⟩
                have hf := nm_at hf e_v33
                have hP : va_P G vwCl [(qx 0, oX9 qx x_points x_lines x_tide x_isKept x_isMuch x_sum x_once x_twice x_isTermMuch x_nodes x_newMany x_isTooGreat x_come x_foundSet), (qx 25, .inl (Y 1, 300, .inr (.inl v33))), (qx 26, .inl (Y 1, 300, .inr (.inl x_below)))] H := by rw [e_v33]; exact hP
                have hD : va_D A [(qx 0, oX9 qx x_points x_lines x_tide x_isKept x_isMuch x_sum x_once x_twice x_isTermMuch x_nodes x_newMany x_isTooGreat x_come x_foundSet), (qx 25, .inl (Y 1, 300, .inr (.inl v33))), (qx 26, .inl (Y 1, 300, .inr (.inl x_below)))] := by rw [e_v33]; exact hD
                refine lv_aload_n hx hb dX9_adds_144 rfl (lv_at hl 5 rfl) ?_
                refine va_get (D := G) (ci := 7) (v := .ref (qx 26)) (C := RX9) (T := TX9) (N := 37) hx hb hts inX9w hown hK hP 0 rfl rfl 25 (by decide) wd2 (fun _ h9 => h9) rfl dX9_adds_145 ?_
                refine lv_iload_n hx hb dX9_adds_148 rfl (lv_at hl 6 rfl) ?_
                refine lv_lload hx hb dX9_adds_149 (lv_at hl 2 rfl) ?_
                refine lv_lload hx hb dX9_adds_151 (lv_at hl 0 rfl) ?_
                obtain ⟨g34, hf⟩ := gd hf
                refine lv_ldiv hx hb dX9_adds_153 g34 ?_
                obtain ⟨g35, hf⟩ := gd hf
                refine va_last hx hb hK hP hD hS 2 1 rfl rfl g35 dX9_adds_154 (fun H locs hP hD hS => ?_)
                obtain ⟨v36, e_v36⟩ : ∃ z : Nat → Int64, z = vp_updL x_below p1.toNatClampNeg (r10 / r30) := ⟨_, rfl⟩
                have hf := nm_at hf e_v36
                have hP : va_P G vwCl [(qx 0, oX9 qx x_points x_lines x_tide x_isKept x_isMuch x_sum x_once x_twice x_isTermMuch x_nodes x_newMany x_isTooGreat x_come x_foundSet), (qx 25, .inl (Y 1, 300, .inr (.inl v33))), (qx 26, .inl (Y 1, 300, .inr (.inl v36)))] H := by rw [e_v36]; exact hP
                have hD : va_D A [(qx 0, oX9 qx x_points x_lines x_tide x_isKept x_isMuch x_sum x_once x_twice x_isTermMuch x_nodes x_newMany x_isTooGreat x_come x_foundSet), (qx 25, .inl (Y 1, 300, .inr (.inl v33))), (qx 26, .inl (Y 1, 300, .inr (.inl v36)))] := by rw [e_v36]; exact hD
                obtain ⟨e0, e1⟩ := rt2 hf
                have hP : va_P G vwCl [(qx 0, oX9 qx x_points x_lines x_tide x_isKept x_isMuch x_sum x_once x_twice x_isTermMuch x_nodes x_newMany x_isTooGreat x_come x_foundSet), (qx 25, .inl (Y 1, 300, .inr (.inl o_x_above))), (qx 26, .inl (Y 1, 300, .inr (.inl o_x_below)))] H := by rw [← e0, ← e1]; exact hP
                have hD : va_D A [(qx 0, oX9 qx x_points x_lines x_tide x_isKept x_isMuch x_sum x_once x_twice x_isTermMuch x_nodes x_newMany x_isTooGreat x_come x_foundSet), (qx 25, .inl (Y 1, 300, .inr (.inl o_x_above))), (qx 26, .inl (Y 1, 300, .inr (.inl o_x_below)))] := by rw [← e0, ← e1]; exact hD
                exact W.vret hx hb hr (fun t ht hW => ⟨⟨(), rfl, trivial, by rw [ht]; exact hP, va_K.moved hW.alike hK, by rw [hAe]; exact hD⟩, hS.F ht⟩) hS.2.2 dX9_adds_155
              · have hf := ie hf c29
                refine lv_aload_n hx hb dX9_adds_114 rfl (lv_at hl 4 rfl) ?_
                refine va_get (D := G) (ci := 7) (v := .ref (qx 25)) (C := RX9) (T := TX9) (N := 37) hx hb hts inX9w hown hK hP 0 rfl rfl 24 (by decide) wd1 (fun _ h9 => h9) rfl dX9_adds_115 ?_
                refine lv_iload_n hx hb dX9_adds_118 rfl (lv_at hl 5 rfl) ?_
                refine lv_ldc2 hx hb hown wd3 dX9_adds_119 ?_
                obtain ⟨g37, hf⟩ := gd hf
                refine va_last hx hb hK hP hD hS 1 1 rfl rfl g37 dX9_adds_122 (fun H locs hP hD hS => ?_)
                obtain ⟨v38, e_v38⟩ : ∃ z : Nat → Int64, z = vp_updL x_above p1.toNatClampNeg (-1 : Int64) := ⟨_, rfl⟩
                have hf := nm_at hf e_v38
                have hP : va_P G vwCl [(qx 0, oX9 qx x_points x_lines x_tide x_isKept x_isMuch x_sum x_once x_twice x_isTermMuch x_nodes x_newMany x_isTooGreat x_come x_foundSet), (qx 25, .inl (Y 1, 300, .inr (.inl v38))), (qx 26, .inl (Y 1, 300, .inr (.inl x_below)))] H := by rw [e_v38]; exact hP
                have hD : va_D A [(qx 0, oX9 qx x_points x_lines x_tide x_isKept x_isMuch x_sum x_once x_twice x_isTermMuch x_nodes x_newMany x_isTooGreat x_come x_foundSet), (qx 25, .inl (Y 1, 300, .inr (.inl v38))), (qx 26, .inl (Y 1, 300, .inr (.inl x_below)))] := by rw [e_v38]; exact hD
                obtain ⟨e0, e1⟩ := rt2 hf
                have hP : va_P G vwCl [(qx 0, oX9 qx x_points x_lines x_tide x_isKept x_isMuch x_sum x_once x_twice x_isTermMuch x_nodes x_newMany x_isTooGreat x_come x_foundSet), (qx 25, .inl (Y 1, 300, .inr (.inl o_x_above))), (qx 26, .inl (Y 1, 300, .inr (.inl o_x_below)))] H := by rw [← e0, ← e1]; exact hP
                have hD : va_D A [(qx 0, oX9 qx x_points x_lines x_tide x_isKept x_isMuch x_sum x_once x_twice x_isTermMuch x_nodes x_newMany x_isTooGreat x_come x_foundSet), (qx 25, .inl (Y 1, 300, .inr (.inl o_x_above))), (qx 26, .inl (Y 1, 300, .inr (.inl o_x_below)))] := by rw [← e0, ← e1]; exact hD
                exact W.vret hx hb hr (fun t ht hW => ⟨⟨(), rfl, trivial, by rw [ht]; exact hP, va_K.moved hW.alike hK, by rw [hAe]; exact hD⟩, hS.F ht⟩) hS.2.2 dX9_adds_123
  exact E0 s.heap [] hP hD hS ls hl
-- X9_findsShare
set_option maxRecDepth 100000 in
set_option maxHeartbeats 4000000 in
theorem c_X9_findsShare (l : Launch) (G : va_G) (Y : Nat → ClassId) : ∀ (d : Nat) (sz : Nat) (qx : Nat → Nat) (x_points : Int32) (x_lines : Int32) (x_tide : Int32) (x_kind : Nat → Int32) (x_figure : Nat → Int32) (x_low : Nat → Int32) (x_high : Nat → Int32) (x_isKept : Int32) (x_isMuch : Int32) (x_sum : Int64) (x_once : Int64) (x_twice : Int64) (x_isTermMuch : Int32) (x_nodePoint : Nat → Int32) (x_nodeOver : Nat → Int32) (x_nodes : Int32) (x_newMany : Int32) (x_above : Nat → Int64) (x_below : Nat → Int64) (x_isTooGreat : Int32) (x_come : Int32) (x_foundSet : Int64) (p1 : Int32) (p2 : Int32) (o_x_above : Nat → Int64) (o_x_below : Nat → Int64) (hf : f_X9_findsShare d x_lines x_tide x_kind x_figure x_low x_high x_nodePoint x_nodeOver x_nodes x_above x_below p1 p2 = some (o_x_above, o_x_below)), Met l yX9_findsShare wsX9_findsShare (rmk (2 + d) (63 + 23 * d)) (va_Pc [.ref (qx 0), .int p1, .int p2] (Pre G (tys Y) [(qx 0, oX9 qx x_points x_lines x_tide x_isKept x_isMuch x_sum x_once x_twice x_isTermMuch x_nodes x_newMany x_isTooGreat x_come x_foundSet), (qx 4, .inl (Y 0, 40, .inl x_kind)), (qx 5, .inl (Y 0, 40, .inl x_figure)), (qx 6, .inl (Y 0, 40, .inl x_low)), (qx 7, .inl (Y 0, 40, .inl x_high)), (qx 19, .inl (Y 0, 300, .inl x_nodePoint)), (qx 20, .inl (Y 0, 300, .inl x_nodeOver)), (qx 25, .inl (Y 1, 300, .inr (.inl x_above))), (qx 26, .inl (Y 1, 300, .inr (.inl x_below)))] sz xT)) (va_Qv (fun (_ : Unit) => True) (Pst G (tys Y) [(qx 0, oX9 qx x_points x_lines x_tide x_isKept x_isMuch x_sum x_once x_twice x_isTermMuch x_nodes x_newMany x_isTooGreat x_come x_foundSet), (qx 4, .inl (Y 0, 40, .inl x_kind)), (qx 5, .inl (Y 0, 40, .inl x_figure)), (qx 6, .inl (Y 0, 40, .inl x_low)), (qx 7, .inl (Y 0, 40, .inl x_high)), (qx 19, .inl (Y 0, 300, .inl x_nodePoint)), (qx 20, .inl (Y 0, 300, .inl x_nodeOver)), (qx 25, .inl (Y 1, 300, .inr (.inl x_above))), (qx 26, .inl (Y 1, 300, .inr (.inl x_below)))] sz [(qx 0, oX9 qx x_points x_lines x_tide x_isKept x_isMuch x_sum x_once x_twice x_isTermMuch x_nodes x_newMany x_isTooGreat x_come x_foundSet), (qx 4, .inl (Y 0, 40, .inl x_kind)), (qx 5, .inl (Y 0, 40, .inl x_figure)), (qx 6, .inl (Y 0, 40, .inl x_low)), (qx 7, .inl (Y 0, 40, .inl x_high)), (qx 19, .inl (Y 0, 300, .inl x_nodePoint)), (qx 20, .inl (Y 0, 300, .inl x_nodeOver)), (qx 25, .inl (Y 1, 300, .inr (.inl o_x_above))), (qx 26, .inl (Y 1, 300, .inr (.inl o_x_below)))]) (va_A [(qx 0, oX9 qx x_points x_lines x_tide x_isKept x_isMuch x_sum x_once x_twice x_isTermMuch x_nodes x_newMany x_isTooGreat x_come x_foundSet), (qx 4, .inl (Y 0, 40, .inl x_kind)), (qx 5, .inl (Y 0, 40, .inl x_figure)), (qx 6, .inl (Y 0, 40, .inl x_low)), (qx 7, .inl (Y 0, 40, .inl x_high)), (qx 19, .inl (Y 0, 300, .inl x_nodePoint)), (qx 20, .inl (Y 0, 300, .inl x_nodeOver)), (qx 25, .inl (Y 1, 300, .inr (.inl x_above))), (qx 26, .inl (Y 1, 300, .inr (.inl x_below)))] sz)) 0 0 (va_A [(qx 0, oX9 qx x_points x_lines x_tide x_isKept x_isMuch x_sum x_once x_twice x_isTermMuch x_nodes x_newMany x_isTooGreat x_come x_foundSet), (qx 4, .inl (Y 0, 40, .inl x_kind)), (qx 5, .inl (Y 0, 40, .inl x_figure)), (qx 6, .inl (Y 0, 40, .inl x_low)), (qx 7, .inl (Y 0, 40, .inl x_high)), (qx 19, .inl (Y 0, 300, .inl x_nodePoint)), (qx 20, .inl (Y 0, 300, .inl x_nodeOver)), (qx 25, .inl (Y 1, 300, .inr (.inl x_above))), (qx 26, .inl (Y 1, 300, .inr (.inl x_below)))] sz) := by
  intro d
  induction d with
  | zero =>
    intro sz qx x_points x_lines x_tide x_kind x_figure x_low x_high x_isKept x_isMuch x_sum x_once x_twice x_isTermMuch x_nodePoint x_nodeOver x_nodes x_newMany x_above x_below x_isTooGreat x_come x_foundSet p1 p2 o_x_above o_x_below hf
    exact no_none hf
  | succ d ihd =>
  intro sz qx x_points x_lines x_tide x_kind x_figure x_low x_high x_isKept x_isMuch x_sum x_once x_twice x_isTermMuch x_nodePoint x_nodeOver x_nodes x_newMany x_above x_below x_isTooGreat x_come x_foundSet p1 p2 o_x_above o_x_below hf
  have hf : f_X9_findsShare_st (f_X9_findsShare d) x_lines x_tide x_kind x_figure x_low x_high x_nodePoint x_nodeOver x_nodes x_above x_below p1 p2 = some (o_x_above, o_x_below) := hf
  refine Met.ofW (cc := cX9_findsShare) (maxL := 4) (ret := none) (by decide) rfl ?_
  intro p e s m args below meth c s₁ B hml hv
  obtain ⟨rfl, hsz, hP, hK, hD0, hX⟩ := hv
  have hx := B.exec
  have hb := B.bytes
  have hr := B.returns
  have hts := atoms_spec (ws := wsX9_findsShare) B.pre
  have hown : s.vm.findClass RX9 = some m.cls := findClass_of_methodNamed B.named
  have hlocks := B.notSynchronized
  subst hsz
  have hD := hD0.self (sz := s.heap.size)
  generalize hAe : va_A [(qx 0, oX9 qx x_points x_lines x_tide x_isKept x_isMuch x_sum x_once x_twice x_isTermMuch x_nodes x_newMany x_isTooGreat x_come x_foundSet), (qx 4, .inl (Y 0, 40, .inl x_kind)), (qx 5, .inl (Y 0, 40, .inl x_figure)), (qx 6, .inl (Y 0, 40, .inl x_low)), (qx 7, .inl (Y 0, 40, .inl x_high)), (qx 19, .inl (Y 0, 300, .inl x_nodePoint)), (qx 20, .inl (Y 0, 300, .inl x_nodeOver)), (qx 25, .inl (Y 1, 300, .inr (.inl x_above))), (qx 26, .inl (Y 1, 300, .inr (.inl x_below)))] s.heap.size = A at hD ⊢
  have hA : ∀ q : Nat, s.heap.size ≤ q → A q := fun q h => by rw [← hAe]; exact Or.inr h
  have hS : va_S A s.heap s.heap [] := va_S.rf
  have hP : va_P G vwCl [(qx 0, oX9 qx x_points x_lines x_tide x_isKept x_isMuch x_sum x_once x_twice x_isTermMuch x_nodes x_newMany x_isTooGreat x_come x_foundSet), (qx 4, .inl (Y 0, 40, .inl x_kind)), (qx 5, .inl (Y 0, 40, .inl x_figure)), (qx 6, .inl (Y 0, 40, .inl x_low)), (qx 7, .inl (Y 0, 40, .inl x_high)), (qx 19, .inl (Y 0, 300, .inl x_nodePoint)), (qx 20, .inl (Y 0, 300, .inl x_nodeOver)), (qx 25, .inl (Y 1, 300, .inr (.inl x_above))), (qx 26, .inl (Y 1, 300, .inr (.inl x_below)))] s.heap := hP
  have wd1 : (Cond.fieldLink RX9 50 "PairedLinesModel" "above" "[J").before [.ref (qx 0), .int p1, .int p2].toArray s = true := hts _ (List.mem_of_getElem? (i := 1) rfl)
  have wd2 : (Cond.fieldLink RX9 53 "PairedLinesModel" "below" "[J").before [.ref (qx 0), .int p1, .int p2].toArray s = true := hts _ (List.mem_of_getElem? (i := 2) rfl)
  have wd3 : (Cond.fieldLink RX9 246 "PairedLinesModel" "nodes" "I").before [.ref (qx 0), .int p1, .int p2].toArray s = true := hts _ (List.mem_of_getElem? (i := 3) rfl)
  have wd4 : (Cond.fieldLink RX9 41 "PairedLinesModel" "nodeOver" "[I").before [.ref (qx 0), .int p1, .int p2].toArray s = true := hts _ (List.mem_of_getElem? (i := 4) rfl)
  have wd5 : (Cond.fieldLink RX9 38 "PairedLinesModel" "nodePoint" "[I").before [.ref (qx 0), .int p1, .int p2].toArray s = true := hts _ (List.mem_of_getElem? (i := 5) rfl)
  have inX9w : ∀ w ∈ u_ws RX9 TX9 37, w ∈ wsX9_findsShare := fun w hw => List.mem_cons_of_mem _ (List.mem_append_right _ (hw))
  have hl := lv_entry ([.ref (qx 0), .int p1, .int p2]) (n := 4) (Nat.le_of_ble_eq_true rfl)
  rw [lg_entry_eq]
  generalize (lg_sl ([.ref (qx 0), .int p1, .int p2]) ++ List.replicate (4 - (lg_sl ([.ref (qx 0), .int p1, .int p2])).length) Slot.unset).toArray = ls at hl ⊢
  have hl : lv_has ls 4 [(0, .ref (qx 0)), (1, .int p1), (2, .int p2)] := hl
  have B18 : ∀ (n18 : Nat), ∀ (b_x_above : Nat → Int64) (b_x_below : Nat → Int64) (x3 : Int32), f_X9_findsShare_b18 (f_X9_findsShare d) x_lines x_tide x_kind x_figure x_low x_high x_nodePoint x_nodeOver x_nodes p1 p2 n18 b_x_above b_x_below x3 = some (o_x_above, o_x_below) → ∀ (H : Heap) (locs : List Loc), va_P G vwCl [(qx 0, oX9 qx x_points x_lines x_tide x_isKept x_isMuch x_sum x_once x_twice x_isTermMuch x_nodes x_newMany x_isTooGreat x_come x_foundSet), (qx 4, .inl (Y 0, 40, .inl x_kind)), (qx 5, .inl (Y 0, 40, .inl x_figure)), (qx 6, .inl (Y 0, 40, .inl x_low)), (qx 7, .inl (Y 0, 40, .inl x_high)), (qx 19, .inl (Y 0, 300, .inl x_nodePoint)), (qx 20, .inl (Y 0, 300, .inl x_nodeOver)), (qx 25, .inl (Y 1, 300, .inr (.inl b_x_above))), (qx 26, .inl (Y 1, 300, .inr (.inl b_x_below)))] H → va_D A [(qx 0, oX9 qx x_points x_lines x_tide x_isKept x_isMuch x_sum x_once x_twice x_isTermMuch x_nodes x_newMany x_isTooGreat x_come x_foundSet), (qx 4, .inl (Y 0, 40, .inl x_kind)), (qx 5, .inl (Y 0, 40, .inl x_figure)), (qx 6, .inl (Y 0, 40, .inl x_low)), (qx 7, .inl (Y 0, 40, .inl x_high)), (qx 19, .inl (Y 0, 300, .inl x_nodePoint)), (qx 20, .inl (Y 0, 300, .inl x_nodeOver)), (qx 25, .inl (Y 1, 300, .inr (.inl b_x_above))), (qx 26, .inl (Y 1, 300, .inr (.inl b_x_below)))] → va_S A s.heap H locs → ∀ (ls : Array Slot), lv_has ls 4 [(0, .ref (qx 0)), (1, .int p1), (2, .int p2), (3, .int x3)] → W p l e (headSpec wsX9_findsShare (rmk (2 + (d + 1)) (63 + 23 * (d + 1)))).room s m [.ref (qx 0), .int p1, .int p2].toArray below meth c H locs 0 0 (MQ below (va_Qv (fun (_ : Unit) => True) (Pst G (tys Y) [(qx 0, oX9 qx x_points x_lines x_tide x_isKept x_isMuch x_sum x_once x_twice x_isTermMuch x_nodes x_newMany x_isTooGreat x_come x_foundSet), (qx 4, .inl (Y 0, 40, .inl x_kind)), (qx 5, .inl (Y 0, 40, .inl x_figure)), (qx 6, .inl (Y 0, 40, .inl x_low)), (qx 7, .inl (Y 0, 40, .inl x_high)), (qx 19, .inl (Y 0, 300, .inl x_nodePoint)), (qx 20, .inl (Y 0, 300, .inl x_nodeOver)), (qx 25, .inl (Y 1, 300, .inr (.inl x_above))), (qx 26, .inl (Y 1, 300, .inr (.inl x_below)))] s.heap.size [(qx 0, oX9 qx x_points x_lines x_tide x_isKept x_isMuch x_sum x_once x_twice x_isTermMuch x_nodes x_newMany x_isTooGreat x_come x_foundSet), (qx 4, .inl (Y 0, 40, .inl x_kind)), (qx 5, .inl (Y 0, 40, .inl x_figure)), (qx 6, .inl (Y 0, 40, .inl x_low)), (qx 7, .inl (Y 0, 40, .inl x_high)), (qx 19, .inl (Y 0, 300, .inl x_nodePoint)), (qx 20, .inl (Y 0, 300, .inl x_nodeOver)), (qx 25, .inl (Y 1, 300, .inr (.inl o_x_above))), (qx 26, .inl (Y 1, 300, .inr (.inl o_x_below)))]) A) [.ref (qx 0), .int p1, .int p2].toArray s 0 0 A) (F0 m 18 ls []) := by
    intro n18
    induction n18 with
    | zero =>
      intro b_x_above b_x_below x3 hf H locs hP hD hS ls hl
      exact no_none hf
    | succ n18 ih18 =>
      intro b_x_above b_x_below x3 hf H locs hP hD hS ls hl
      have hf : f_X9_findsShare_s18 (f_X9_findsShare d) x_lines x_tide x_kind x_figure x_low x_high x_nodePoint x_nodeOver x_nodes p1 p2 (f_X9_findsShare_b18 (f_X9_findsShare d) x_lines x_tide x_kind x_figure x_low x_high x_nodePoint x_nodeOver x_nodes p1 p2  n18) b_x_above b_x_below x3 = some (o_x_above, o_x_below) := hf
      unfold f_X9_findsShare_s18 at hf
      refine lv_iload_n hx hb dX9_findsShare_18 rfl (lv_at hl 3 rfl) ?_
      refine lv_aload_n hx hb dX9_findsShare_19 rfl (lv_at hl 0 rfl) ?_
      refine va_get (D := G) (ci := 7) (v := .int x_nodes) (C := RX9) (T := TX9) (N := 37) hx hb hts inX9w hown hK hP 0 rfl rfl 22 (by decide) wd3 (fun _ h9 => h9) rfl dX9_findsShare_20 ?_
      refine lv_icmp_ge (tgt := 78) hx hb dX9_findsShare_23 (by decide) (fun c1 => ?_) (fun c1 => ?_)
      · have hf := it hf c1
        obtain ⟨e0, e1⟩ := rt2 hf
        have hP : va_P G vwCl [(qx 0, oX9 qx x_points x_lines x_tide x_isKept x_isMuch x_sum x_once x_twice x_isTermMuch x_nodes x_newMany x_isTooGreat x_come x_foundSet), (qx 4, .inl (Y 0, 40, .inl x_kind)), (qx 5, .inl (Y 0, 40, .inl x_figure)), (qx 6, .inl (Y 0, 40, .inl x_low)), (qx 7, .inl (Y 0, 40, .inl x_high)), (qx 19, .inl (Y 0, 300, .inl x_nodePoint)), (qx 20, .inl (Y 0, 300, .inl x_nodeOver)), (qx 25, .inl (Y 1, 300, .inr (.inl o_x_above))), (qx 26, .inl (Y 1, 300, .inr (.inl o_x_below)))] H := by rw [← e0, ← e1]; exact hP
        have hD : va_D A [(qx 0, oX9 qx x_points x_lines x_tide x_isKept x_isMuch x_sum x_once x_twice x_isTermMuch x_nodes x_newMany x_isTooGreat x_come x_foundSet), (qx 4, .inl (Y 0, 40, .inl x_kind)), (qx 5, .inl (Y 0, 40, .inl x_figure)), (qx 6, .inl (Y 0, 40, .inl x_low)), (qx 7, .inl (Y 0, 40, .inl x_high)), (qx 19, .inl (Y 0, 300, .inl x_nodePoint)), (qx 20, .inl (Y 0, 300, .inl x_nodeOver)), (qx 25, .inl (Y 1, 300, .inr (.inl o_x_above))), (qx 26, .inl (Y 1, 300, .inr (.inl o_x_below)))] := by rw [← e0, ← e1]; exact hD
        exact W.vret hx hb hr (fun t ht hW => ⟨⟨(), rfl, trivial, by rw [ht]; exact hP, va_K.moved hW.alike hK, by rw [hAe]; exact hD⟩, hS.F ht⟩) hS.2.2 dX9_findsShare_78
      · have hf := ie hf c1
        refine lv_aload_n hx hb dX9_findsShare_26 rfl (lv_at hl 0 rfl) ?_
        refine va_get (D := G) (ci := 7) (v := .ref (qx 20)) (C := RX9) (T := TX9) (N := 37) hx hb hts inX9w hown hK hP 0 rfl rfl 19 (by decide) wd4 (fun _ h9 => h9) rfl dX9_findsShare_27 ?_
        refine lv_iload_n hx hb dX9_findsShare_30 rfl (lv_at hl 3 rfl) ?_
        obtain ⟨g2, hf⟩ := gd hf
        refine va_iald hx hb hK hP 6 0 rfl rfl g2 dX9_findsShare_31 ?_
        refine lv_iload_n hx hb dX9_findsShare_32 rfl (lv_at hl 1 rfl) ?_
        refine lv_icmp_ne (tgt := 72) hx hb dX9_findsShare_33 (by decide) (fun c3 => ?_) (fun c3 => ?_)
        · have hf := ie hf c3
          obtain ⟨v4, e_v4⟩ : ∃ z : Int32, z = (x3 + 1) := ⟨_, rfl⟩
          have hf := nm_at hf e_v4
          refine lv_iinc (v := v4) (lv' := [(3, .int v4), (0, .ref (qx 0)), (1, .int p1), (2, .int p2)]) hx hb dX9_findsShare_72 hl (k := 3) rfl (by rw [e_v4]; rfl) (by decide) rfl (fun ls hl => ?_)
          refine lv_goto (tgt := 18) hx hb dX9_findsShare_75 (by decide) ?_
          exact ih18 b_x_above b_x_below v4 hf _ _ hP hD hS ls (lv_sub hl [1, 2, 3, 0] rfl)
        · have hf := it hf c3
          refine lv_aload_n hx hb dX9_findsShare_36 rfl (lv_at hl 0 rfl) ?_
          refine lv_iload_n hx hb dX9_findsShare_37 rfl (lv_at hl 3 rfl) ?_
          refine lv_iload_n hx hb dX9_findsShare_38 rfl (lv_at hl 2 rfl) ?_
          obtain ⟨w5, w6, hc, hf⟩ := bd2 hf
          refine cl_v (ws' := [(qx 0, oX9 qx x_points x_lines x_tide x_isKept x_isMuch x_sum x_once x_twice x_isTermMuch x_nodes x_newMany x_isTooGreat x_come x_foundSet), (qx 4, .inl (Y 0, 40, .inl x_kind)), (qx 5, .inl (Y 0, 40, .inl x_figure)), (qx 6, .inl (Y 0, 40, .inl x_low)), (qx 7, .inl (Y 0, 40, .inl x_high)), (qx 19, .inl (Y 0, 300, .inl x_nodePoint)), (qx 20, .inl (Y 0, 300, .inl x_nodeOver)), (qx 25, .inl (Y 1, 300, .inr (.inl w5))), (qx 26, .inl (Y 1, 300, .inr (.inl w6)))]) (wr := []) (rnV (As := [.int x3, .int p2]) (rest := []) ⟨hx, hb, hml, hown, hts⟩ (ihd H.size qx x_points x_lines x_tide x_kind x_figure x_low x_high x_isKept x_isMuch x_sum x_once x_twice x_isTermMuch x_nodePoint x_nodeOver x_nodes x_newMany b_x_above b_x_below x_isTooGreat x_come x_foundSet x3 p2 w5 w6 hc) (cwV 2 hts gX9_findsShare_X9_findsShare rfl rfl rfl (by decide +kernel) ⟨by show _ + _ + 1 ≤ _ + (_ + 1); omega, by show 8 + (_ + 11) + (_ + _ * _) ≤ _ + _ * (_ + 1); omega⟩) trivial okT hK hP hD [0, 1, 2, 3, 4, 5, 6, 7, 8] rfl rfl (ci := 7) (q0 := 0) rfl rfl rfl rfl hl.1 rfl (Nat.le_of_ble_eq_true rfl) dX9_findsShare_39) hP hD hS hA [0, 1, 2, 3, 4, 5, 6, 7, 8] [] [0, 1, 2, 3, 4, 5, 6, 7, 8] rfl rfl rfl (by decide) rfl rfl (fun H locs hP hD hS => ?_)
          refine lv_aload_n hx hb dX9_findsShare_42 rfl (lv_at hl 0 rfl) ?_
          refine lv_iload_n hx hb dX9_findsShare_43 rfl (lv_at hl 1 rfl) ?_
          refine lv_iload_n hx hb dX9_findsShare_44 rfl (lv_at hl 3 rfl) ?_
          refine lv_iload_n hx hb dX9_findsShare_45 rfl (lv_at hl 2 rfl) ?_
          refine lv_i2l hx hb dX9_findsShare_46 rfl ?_
          refine lv_aload_n hx hb dX9_findsShare_47 rfl (lv_at hl 0 rfl) ?_
          refine lv_aload_n hx hb dX9_findsShare_48 rfl (lv_at hl 0 rfl) ?_
          refine lv_aload_n hx hb dX9_findsShare_49 rfl (lv_at hl 0 rfl) ?_
          refine va_get (D := G) (ci := 7) (v := .ref (qx 19)) (C := RX9) (T := TX9) (N := 37) hx hb hts inX9w hown hK hP 0 rfl rfl 18 (by decide) wd5 (fun _ h9 => h9) rfl dX9_findsShare_50 ?_
          refine lv_iload_n hx hb dX9_findsShare_53 rfl (lv_at hl 1 rfl) ?_
          obtain ⟨g7, hf⟩ := gd hf
          refine va_iald hx hb hK hP 5 0 rfl rfl g7 dX9_findsShare_54 ?_
          refine lv_aload_n hx hb dX9_findsShare_55 rfl (lv_at hl 0 rfl) ?_
          refine va_get (D := G) (ci := 7) (v := .ref (qx 19)) (C := RX9) (T := TX9) (N := 37) hx hb hts inX9w hown hK hP 0 rfl rfl 18 (by decide) wd5 (fun _ h9 => h9) rfl dX9_findsShare_56 ?_
          refine lv_iload_n hx hb dX9_findsShare_59 rfl (lv_at hl 3 rfl) ?_
          obtain ⟨g8, hf⟩ := gd hf
          refine va_iald hx hb hK hP 5 0 rfl rfl g8 dX9_findsShare_60 ?_
          obtain ⟨r9, hc, hf⟩ := bd1 hf
          refine cl_i (ws' := [(qx 0, oX9 qx x_points x_lines x_tide x_isKept x_isMuch x_sum x_once x_twice x_isTermMuch x_nodes x_newMany x_isTooGreat x_come x_foundSet), (qx 4, .inl (Y 0, 40, .inl x_kind)), (qx 5, .inl (Y 0, 40, .inl x_figure)), (qx 6, .inl (Y 0, 40, .inl x_low)), (qx 7, .inl (Y 0, 40, .inl x_high)), (qx 19, .inl (Y 0, 300, .inl x_nodePoint)), (qx 20, .inl (Y 0, 300, .inl x_nodeOver)), (qx 25, .inl (Y 1, 300, .inr (.inl w5))), (qx 26, .inl (Y 1, 300, .inr (.inl w6)))]) (wr := [(qx 4, .inl (Y 0, 40, .inl x_kind)), (qx 5, .inl (Y 0, 40, .inl x_figure)), (qx 19, .inl (Y 0, 300, .inl x_nodePoint)), (qx 20, .inl (Y 0, 300, .inl x_nodeOver)), (qx 25, .inl (Y 1, 300, .inr (.inl w5))), (qx 26, .inl (Y 1, 300, .inr (.inl w6)))]) (rnV (As := [.int (x_nodePoint p1.toNatClampNeg), .int (x_nodePoint x3.toNatClampNeg)]) (rest := [.ref (qx 0), .long p2.toInt64, .int x3, .int p1, .ref (qx 0)]) ⟨hx, hb, hml, hown, hts⟩ (c_X9_lineOf l G Y H.size qx x_points x_lines x_tide x_low x_high x_isKept x_isMuch x_sum x_once x_twice x_isTermMuch x_nodes x_newMany x_isTooGreat x_come x_foundSet (x_nodePoint p1.toNatClampNeg) (x_nodePoint x3.toNatClampNeg) r9 hc) (cwV 2 hts gX9_findsShare_X9_lineOf rfl rfl rfl (by decide +kernel) ⟨(by first | exact Nat.le_of_ble_eq_true rfl | (show _ ≤ _ + _; simp only [List.map, List.sum_cons, List.sum_nil]; omega) | (simp [headSpec, rmk]; omega)), (by first | exact Nat.le_of_ble_eq_true rfl | (show _ ≤ _ + _; simp only [List.map, List.sum_cons, List.sum_nil]; omega) | (simp [headSpec, rmk]; omega))⟩) trivial okT hK hP hD [0, 3, 4] rfl rfl (ci := 7) (q0 := 0) rfl rfl rfl rfl hl.1 rfl (Nat.le_of_ble_eq_true rfl) dX9_findsShare_61) hP hD hS hA [0, 3, 4] [1, 2, 5, 6, 7, 8] [6, 0, 1, 7, 8, 2, 3, 4, 5] rfl rfl rfl (by decide) rfl rfl (fun H locs hP hD hS => ?_)
          obtain ⟨r10, hc, hf⟩ := bd1 hf
          refine cl_i (ws' := [(qx 0, oX9 qx x_points x_lines x_tide x_isKept x_isMuch x_sum x_once x_twice x_isTermMuch x_nodes x_newMany x_isTooGreat x_come x_foundSet), (qx 4, .inl (Y 0, 40, .inl x_kind)), (qx 5, .inl (Y 0, 40, .inl x_figure)), (qx 6, .inl (Y 0, 40, .inl x_low)), (qx 7, .inl (Y 0, 40, .inl x_high)), (qx 19, .inl (Y 0, 300, .inl x_nodePoint)), (qx 20, .inl (Y 0, 300, .inl x_nodeOver)), (qx 25, .inl (Y 1, 300, .inr (.inl w5))), (qx 26, .inl (Y 1, 300, .inr (.inl w6)))]) (wr := [(qx 6, .inl (Y 0, 40, .inl x_low)), (qx 7, .inl (Y 0, 40, .inl x_high)), (qx 19, .inl (Y 0, 300, .inl x_nodePoint)), (qx 20, .inl (Y 0, 300, .inl x_nodeOver)), (qx 25, .inl (Y 1, 300, .inr (.inl w5))), (qx 26, .inl (Y 1, 300, .inr (.inl w6)))]) (rnV (As := [.int r9]) (rest := [.long p2.toInt64, .int x3, .int p1, .ref (qx 0)]) ⟨hx, hb, hml, hown, hts⟩ (c_X9_weight l G Y H.size qx x_points x_lines x_tide x_kind x_figure x_isKept x_isMuch x_sum x_once x_twice x_isTermMuch x_nodes x_newMany x_isTooGreat x_come x_foundSet r9 r10 hc) (cwV 1 hts gX9_findsShare_X9_weight rfl rfl rfl (by decide +kernel) ⟨(by first | exact Nat.le_of_ble_eq_true rfl | (show _ ≤ _ + _; simp only [List.map, List.sum_cons, List.sum_nil]; omega) | (simp [headSpec, rmk]; omega)), (by first | exact Nat.le_of_ble_eq_true rfl | (show _ ≤ _ + _; simp only [List.map, List.sum_cons, List.sum_nil]; omega) | (simp [headSpec, rmk]; omega))⟩) trivial okT hK hP hD [0, 1, 2] rfl rfl (ci := 7) (q0 := 0) rfl rfl rfl rfl hl.1 rfl (Nat.le_of_ble_eq_true rfl) dX9_findsShare_64) hP hD hS hA [0, 1, 2] [3, 4, 5, 6, 7, 8] [6, 7, 8, 0, 1, 2, 3, 4, 5] rfl rfl rfl (by decide) rfl rfl (fun H locs hP hD hS => ?_)
          refine lv_i2l hx hb dX9_findsShare_67 rfl ?_
          refine lv_lmul hx hb dX9_findsShare_68 ?_
          obtain ⟨w11, w12, hc, hf⟩ := bd2 hf
          refine cl_v (ws' := [(qx 0, oX9 qx x_points x_lines x_tide x_isKept x_isMuch x_sum x_once x_twice x_isTermMuch x_nodes x_newMany x_isTooGreat x_come x_foundSet), (qx 4, .inl (Y 0, 40, .inl x_kind)), (qx 5, .inl (Y 0, 40, .inl x_figure)), (qx 6, .inl (Y 0, 40, .inl x_low)), (qx 7, .inl (Y 0, 40, .inl x_high)), (qx 19, .inl (Y 0, 300, .inl x_nodePoint)), (qx 20, .inl (Y 0, 300, .inl x_nodeOver)), (qx 25, .inl (Y 1, 300, .inr (.inl w11))), (qx 26, .inl (Y 1, 300, .inr (.inl w12)))]) (wr := [(qx 4, .inl (Y 0, 40, .inl x_kind)), (qx 5, .inl (Y 0, 40, .inl x_figure)), (qx 6, .inl (Y 0, 40, .inl x_low)), (qx 7, .inl (Y 0, 40, .inl x_high)), (qx 19, .inl (Y 0, 300, .inl x_nodePoint)), (qx 20, .inl (Y 0, 300, .inl x_nodeOver))]) (rnV (As := [.int p1, .int x3, .long (p2.toInt64 * r10.toInt64)]) (rest := []) ⟨hx, hb, hml, hown, hts⟩ (c_X9_adds l G Y H.size qx x_points x_lines x_tide x_isKept x_isMuch x_sum x_once x_twice x_isTermMuch x_nodes x_newMany w5 w6 x_isTooGreat x_come x_foundSet p1 x3 (p2.toInt64 * r10.toInt64) w11 w12 hc) (cwV 3 hts gX9_findsShare_X9_adds rfl rfl rfl (by decide +kernel) ⟨(by first | exact Nat.le_of_ble_eq_true rfl | (show _ ≤ _ + _; simp only [List.map, List.sum_cons, List.sum_nil]; omega) | (simp [headSpec, rmk]; omega)), (by first | exact Nat.le_of_ble_eq_true rfl | (show _ ≤ _ + _; simp only [List.map, List.sum_cons, List.sum_nil]; omega) | (simp [headSpec, rmk]; omega))⟩) trivial okT hK hP hD [0, 7, 8] rfl rfl (ci := 7) (q0 := 0) rfl rfl rfl rfl hl.1 rfl (Nat.le_of_ble_eq_true rfl) dX9_findsShare_69) hP hD hS hA [0, 7, 8] [1, 2, 3, 4, 5, 6] [6, 0, 1, 2, 3, 4, 5, 7, 8] rfl rfl rfl (by decide) rfl rfl (fun H locs hP hD hS => ?_)
          obtain ⟨v13, e_v13⟩ : ∃ z : Int32, z = (x3 + 1) := ⟨_, rfl⟩
          have hf := nm_at hf e_v13
          refine lv_iinc (v := v13) (lv' := [(3, .int v13), (0, .ref (qx 0)), (1, .int p1), (2, .int p2)]) hx hb dX9_findsShare_72 hl (k := 3) rfl (by rw [e_v13]; rfl) (by decide) rfl (fun ls hl => ?_)
          refine lv_goto (tgt := 18) hx hb dX9_findsShare_75 (by decide) ?_
          exact ih18 w11 w12 v13 hf _ _ hP hD hS ls (lv_sub hl [1, 2, 3, 0] rfl)
  have E0 : ∀ (H : Heap) (locs : List Loc), va_P G vwCl [(qx 0, oX9 qx x_points x_lines x_tide x_isKept x_isMuch x_sum x_once x_twice x_isTermMuch x_nodes x_newMany x_isTooGreat x_come x_foundSet), (qx 4, .inl (Y 0, 40, .inl x_kind)), (qx 5, .inl (Y 0, 40, .inl x_figure)), (qx 6, .inl (Y 0, 40, .inl x_low)), (qx 7, .inl (Y 0, 40, .inl x_high)), (qx 19, .inl (Y 0, 300, .inl x_nodePoint)), (qx 20, .inl (Y 0, 300, .inl x_nodeOver)), (qx 25, .inl (Y 1, 300, .inr (.inl x_above))), (qx 26, .inl (Y 1, 300, .inr (.inl x_below)))] H → va_D A [(qx 0, oX9 qx x_points x_lines x_tide x_isKept x_isMuch x_sum x_once x_twice x_isTermMuch x_nodes x_newMany x_isTooGreat x_come x_foundSet), (qx 4, .inl (Y 0, 40, .inl x_kind)), (qx 5, .inl (Y 0, 40, .inl x_figure)), (qx 6, .inl (Y 0, 40, .inl x_low)), (qx 7, .inl (Y 0, 40, .inl x_high)), (qx 19, .inl (Y 0, 300, .inl x_nodePoint)), (qx 20, .inl (Y 0, 300, .inl x_nodeOver)), (qx 25, .inl (Y 1, 300, .inr (.inl x_above))), (qx 26, .inl (Y 1, 300, .inr (.inl x_below)))] → va_S A s.heap H locs → ∀ (ls : Array Slot), lv_has ls 4 [(0, .ref (qx 0)), (1, .int p1), (2, .int p2)] → W p l e (headSpec wsX9_findsShare (rmk (2 + (d + 1)) (63 + 23 * (d + 1)))).room s m [.ref (qx 0), .int p1, .int p2].toArray below meth c H locs 0 0 (MQ below (va_Qv (fun (_ : Unit) => True) (Pst G (tys Y) [(qx 0, oX9 qx x_points x_lines x_tide x_isKept x_isMuch x_sum x_once x_twice x_isTermMuch x_nodes x_newMany x_isTooGreat x_come x_foundSet), (qx 4, .inl (Y 0, 40, .inl x_kind)), (qx 5, .inl (Y 0, 40, .inl x_figure)), (qx 6, .inl (Y 0, 40, .inl x_low)), (qx 7, .inl (Y 0, 40, .inl x_high)), (qx 19, .inl (Y 0, 300, .inl x_nodePoint)), (qx 20, .inl (Y 0, 300, .inl x_nodeOver)), (qx 25, .inl (Y 1, 300, .inr (.inl x_above))), (qx 26, .inl (Y 1, 300, .inr (.inl x_below)))] s.heap.size [(qx 0, oX9 qx x_points x_lines x_tide x_isKept x_isMuch x_sum x_once x_twice x_isTermMuch x_nodes x_newMany x_isTooGreat x_come x_foundSet), (qx 4, .inl (Y 0, 40, .inl x_kind)), (qx 5, .inl (Y 0, 40, .inl x_figure)), (qx 6, .inl (Y 0, 40, .inl x_low)), (qx 7, .inl (Y 0, 40, .inl x_high)), (qx 19, .inl (Y 0, 300, .inl x_nodePoint)), (qx 20, .inl (Y 0, 300, .inl x_nodeOver)), (qx 25, .inl (Y 1, 300, .inr (.inl o_x_above))), (qx 26, .inl (Y 1, 300, .inr (.inl o_x_below)))]) A) [.ref (qx 0), .int p1, .int p2].toArray s 0 0 A) (F0 m 0 ls []) := by
    intro H locs hP hD hS ls hl
    unfold f_X9_findsShare_st at hf
    refine lv_aload_n hx hb dX9_findsShare_0 rfl (lv_at hl 0 rfl) ?_
    refine va_get (D := G) (ci := 7) (v := .ref (qx 25)) (C := RX9) (T := TX9) (N := 37) hx hb hts inX9w hown hK hP 0 rfl rfl 24 (by decide) wd1 (fun _ h9 => h9) rfl dX9_findsShare_1 ?_
    refine lv_iload_n hx hb dX9_findsShare_4 rfl (lv_at hl 1 rfl) ?_
    refine lv_lconst (v := 1) hx hb dX9_findsShare_5 (by decide) ?_
    obtain ⟨g14, hf⟩ := gd hf
    refine va_last hx hb hK hP hD hS 7 1 rfl rfl g14 dX9_findsShare_6 (fun H locs hP hD hS => ?_)
    obtain ⟨v15, e_v15⟩ : ∃ z : Nat → Int64, z = vp_updL x_above p1.toNatClampNeg (1 : Int64) := ⟨_, rfl⟩
    have hf := nm_at hf e_v15
    have hP : va_P G vwCl [(qx 0, oX9 qx x_points x_lines x_tide x_isKept x_isMuch x_sum x_once x_twice x_isTermMuch x_nodes x_newMany x_isTooGreat x_come x_foundSet), (qx 4, .inl (Y 0, 40, .inl x_kind)), (qx 5, .inl (Y 0, 40, .inl x_figure)), (qx 6, .inl (Y 0, 40, .inl x_low)), (qx 7, .inl (Y 0, 40, .inl x_high)), (qx 19, .inl (Y 0, 300, .inl x_nodePoint)), (qx 20, .inl (Y 0, 300, .inl x_nodeOver)), (qx 25, .inl (Y 1, 300, .inr (.inl v15))), (qx 26, .inl (Y 1, 300, .inr (.inl x_below)))] H := by rw [e_v15]; exact hP
    have hD : va_D A [(qx 0, oX9 qx x_points x_lines x_tide x_isKept x_isMuch x_sum x_once x_twice x_isTermMuch x_nodes x_newMany x_isTooGreat x_come x_foundSet), (qx 4, .inl (Y 0, 40, .inl x_kind)), (qx 5, .inl (Y 0, 40, .inl x_figure)), (qx 6, .inl (Y 0, 40, .inl x_low)), (qx 7, .inl (Y 0, 40, .inl x_high)), (qx 19, .inl (Y 0, 300, .inl x_nodePoint)), (qx 20, .inl (Y 0, 300, .inl x_nodeOver)), (qx 25, .inl (Y 1, 300, .inr (.inl v15))), (qx 26, .inl (Y 1, 300, .inr (.inl x_below)))] := by rw [e_v15]; exact hD
    refine lv_aload_n hx hb dX9_findsShare_7 rfl (lv_at hl 0 rfl) ?_
    refine va_get (D := G) (ci := 7) (v := .ref (qx 26)) (C := RX9) (T := TX9) (N := 37) hx hb hts inX9w hown hK hP 0 rfl rfl 25 (by decide) wd2 (fun _ h9 => h9) rfl dX9_findsShare_8 ?_
    refine lv_iload_n hx hb dX9_findsShare_11 rfl (lv_at hl 1 rfl) ?_
    refine lv_lconst (v := 1) hx hb dX9_findsShare_12 (by decide) ?_
    obtain ⟨g16, hf⟩ := gd hf
    refine va_last hx hb hK hP hD hS 8 1 rfl rfl g16 dX9_findsShare_13 (fun H locs hP hD hS => ?_)
    obtain ⟨v17, e_v17⟩ : ∃ z : Nat → Int64, z = vp_updL x_below p1.toNatClampNeg (1 : Int64) := ⟨_, rfl⟩
    have hf := nm_at hf e_v17
    have hP : va_P G vwCl [(qx 0, oX9 qx x_points x_lines x_tide x_isKept x_isMuch x_sum x_once x_twice x_isTermMuch x_nodes x_newMany x_isTooGreat x_come x_foundSet), (qx 4, .inl (Y 0, 40, .inl x_kind)), (qx 5, .inl (Y 0, 40, .inl x_figure)), (qx 6, .inl (Y 0, 40, .inl x_low)), (qx 7, .inl (Y 0, 40, .inl x_high)), (qx 19, .inl (Y 0, 300, .inl x_nodePoint)), (qx 20, .inl (Y 0, 300, .inl x_nodeOver)), (qx 25, .inl (Y 1, 300, .inr (.inl v15))), (qx 26, .inl (Y 1, 300, .inr (.inl v17)))] H := by rw [e_v17]; exact hP
    have hD : va_D A [(qx 0, oX9 qx x_points x_lines x_tide x_isKept x_isMuch x_sum x_once x_twice x_isTermMuch x_nodes x_newMany x_isTooGreat x_come x_foundSet), (qx 4, .inl (Y 0, 40, .inl x_kind)), (qx 5, .inl (Y 0, 40, .inl x_figure)), (qx 6, .inl (Y 0, 40, .inl x_low)), (qx 7, .inl (Y 0, 40, .inl x_high)), (qx 19, .inl (Y 0, 300, .inl x_nodePoint)), (qx 20, .inl (Y 0, 300, .inl x_nodeOver)), (qx 25, .inl (Y 1, 300, .inr (.inl v15))), (qx 26, .inl (Y 1, 300, .inr (.inl v17)))] := by rw [e_v17]; exact hD
    refine lv_iload_n hx hb dX9_findsShare_14 rfl (lv_at hl 1 rfl) ?_
    refine lv_iconst (v := 1) hx hb dX9_findsShare_15 (by decide) ?_
    refine lv_iadd hx hb dX9_findsShare_16 ?_
    refine lv_topi (fun v18 e_v18 => ?_)
    have hf := nm_at hf e_v18
    refine lv_istore_n (lv' := [(3, .int v18), (0, .ref (qx 0)), (1, .int p1), (2, .int p2)]) hx hb dX9_findsShare_17 rfl hl (by decide) rfl (fun ls hl => ?_)
    exact B18 310 v15 v17 v18 hf _ _ hP hD hS ls (lv_sub hl [1, 2, 3, 0] rfl)
  exact E0 s.heap [] hP hD hS ls hl
-- X9_isWhole
set_option maxRecDepth 100000 in
set_option maxHeartbeats 4000000 in
theorem c_X9_isWhole (l : Launch) (G : va_G) (Y : Nat → ClassId) (sz : Nat) (qx : Nat → Nat) (x_points : Int32) (x_lines : Int32) (x_tide : Int32) (x_low : Nat → Int32) (x_high : Nat → Int32) (x_isKept : Int32) (x_isMuch : Int32) (x_sum : Int64) (x_once : Int64) (x_twice : Int64) (x_isTermMuch : Int32) (x_nodePoint : Nat → Int32) (x_nodeOver : Nat → Int32) (x_nodes : Int32) (x_newMany : Int32) (x_isTooGreat : Int32) (x_come : Int32) (x_foundSet : Int64) (rv : Int32) (hf : f_X9_isWhole x_lines x_low x_high x_nodePoint x_nodeOver x_nodes = some (rv)) : Met l yX9_isWhole wsX9_isWhole (rmk 1 23) (va_Pc [.ref (qx 0)] (Pre G (tys Y) [(qx 0, oX9 qx x_points x_lines x_tide x_isKept x_isMuch x_sum x_once x_twice x_isTermMuch x_nodes x_newMany x_isTooGreat x_come x_foundSet), (qx 6, .inl (Y 0, 40, .inl x_low)), (qx 7, .inl (Y 0, 40, .inl x_high)), (qx 19, .inl (Y 0, 300, .inl x_nodePoint)), (qx 20, .inl (Y 0, 300, .inl x_nodeOver))] sz xT)) (va_Qi (fun (r : Int32) (_ : Unit) => r = rv) (Pst G (tys Y) [(qx 0, oX9 qx x_points x_lines x_tide x_isKept x_isMuch x_sum x_once x_twice x_isTermMuch x_nodes x_newMany x_isTooGreat x_come x_foundSet), (qx 6, .inl (Y 0, 40, .inl x_low)), (qx 7, .inl (Y 0, 40, .inl x_high)), (qx 19, .inl (Y 0, 300, .inl x_nodePoint)), (qx 20, .inl (Y 0, 300, .inl x_nodeOver))] sz [(qx 0, oX9 qx x_points x_lines x_tide x_isKept x_isMuch x_sum x_once x_twice x_isTermMuch x_nodes x_newMany x_isTooGreat x_come x_foundSet), (qx 6, .inl (Y 0, 40, .inl x_low)), (qx 7, .inl (Y 0, 40, .inl x_high)), (qx 19, .inl (Y 0, 300, .inl x_nodePoint)), (qx 20, .inl (Y 0, 300, .inl x_nodeOver))]) (va_A [(qx 0, oX9 qx x_points x_lines x_tide x_isKept x_isMuch x_sum x_once x_twice x_isTermMuch x_nodes x_newMany x_isTooGreat x_come x_foundSet), (qx 6, .inl (Y 0, 40, .inl x_low)), (qx 7, .inl (Y 0, 40, .inl x_high)), (qx 19, .inl (Y 0, 300, .inl x_nodePoint)), (qx 20, .inl (Y 0, 300, .inl x_nodeOver))] sz)) 0 0 (va_A [(qx 0, oX9 qx x_points x_lines x_tide x_isKept x_isMuch x_sum x_once x_twice x_isTermMuch x_nodes x_newMany x_isTooGreat x_come x_foundSet), (qx 6, .inl (Y 0, 40, .inl x_low)), (qx 7, .inl (Y 0, 40, .inl x_high)), (qx 19, .inl (Y 0, 300, .inl x_nodePoint)), (qx 20, .inl (Y 0, 300, .inl x_nodeOver))] sz) := by
  refine Met.ofW (cc := cX9_isWhole) (maxL := 2) (ret := (some .boolean)) (by decide) rfl ?_
  intro p e s m args below meth c s₁ B hml hv
  obtain ⟨rfl, hsz, hP, hK, hD0, hX⟩ := hv
  have hx := B.exec
  have hb := B.bytes
  have hr := B.returns
  have hts := atoms_spec (ws := wsX9_isWhole) B.pre
  have hown : s.vm.findClass RX9 = some m.cls := findClass_of_methodNamed B.named
  have hlocks := B.notSynchronized
  subst hsz
  have hD := hD0.self (sz := s.heap.size)
  generalize hAe : va_A [(qx 0, oX9 qx x_points x_lines x_tide x_isKept x_isMuch x_sum x_once x_twice x_isTermMuch x_nodes x_newMany x_isTooGreat x_come x_foundSet), (qx 6, .inl (Y 0, 40, .inl x_low)), (qx 7, .inl (Y 0, 40, .inl x_high)), (qx 19, .inl (Y 0, 300, .inl x_nodePoint)), (qx 20, .inl (Y 0, 300, .inl x_nodeOver))] s.heap.size = A at hD ⊢
  have hA : ∀ q : Nat, s.heap.size ≤ q → A q := fun q h => by rw [← hAe]; exact Or.inr h
  have hS : va_S A s.heap s.heap [] := va_S.rf
  have hP : va_P G vwCl [(qx 0, oX9 qx x_points x_lines x_tide x_isKept x_isMuch x_sum x_once x_twice x_isTermMuch x_nodes x_newMany x_isTooGreat x_come x_foundSet), (qx 6, .inl (Y 0, 40, .inl x_low)), (qx 7, .inl (Y 0, 40, .inl x_high)), (qx 19, .inl (Y 0, 300, .inl x_nodePoint)), (qx 20, .inl (Y 0, 300, .inl x_nodeOver))] s.heap := hP
  have wd1 : (Cond.fieldLink RX9 246 "PairedLinesModel" "nodes" "I").before [.ref (qx 0)].toArray s = true := hts _ (List.mem_of_getElem? (i := 1) rfl)
  have wd2 : (Cond.fieldLink RX9 38 "PairedLinesModel" "nodePoint" "[I").before [.ref (qx 0)].toArray s = true := hts _ (List.mem_of_getElem? (i := 2) rfl)
  have wd3 : (Cond.fieldLink RX9 41 "PairedLinesModel" "nodeOver" "[I").before [.ref (qx 0)].toArray s = true := hts _ (List.mem_of_getElem? (i := 3) rfl)
  have inX9w : ∀ w ∈ u_ws RX9 TX9 37, w ∈ wsX9_isWhole := fun w hw => List.mem_cons_of_mem _ (List.mem_append_right _ (hw))
  have hl := lv_entry ([.ref (qx 0)]) (n := 2) (Nat.le_of_ble_eq_true rfl)
  rw [lg_entry_eq]
  generalize (lg_sl ([.ref (qx 0)]) ++ List.replicate (2 - (lg_sl ([.ref (qx 0)])).length) Slot.unset).toArray = ls at hl ⊢
  have hl : lv_has ls 2 [(0, .ref (qx 0))] := hl
  have B2 : ∀ (n2 : Nat), ∀ (x1 : Int32), f_X9_isWhole_b2 x_lines x_low x_high x_nodePoint x_nodeOver x_nodes n2 x1 = some (rv) → ∀ (H : Heap) (locs : List Loc), va_P G vwCl [(qx 0, oX9 qx x_points x_lines x_tide x_isKept x_isMuch x_sum x_once x_twice x_isTermMuch x_nodes x_newMany x_isTooGreat x_come x_foundSet), (qx 6, .inl (Y 0, 40, .inl x_low)), (qx 7, .inl (Y 0, 40, .inl x_high)), (qx 19, .inl (Y 0, 300, .inl x_nodePoint)), (qx 20, .inl (Y 0, 300, .inl x_nodeOver))] H → va_D A [(qx 0, oX9 qx x_points x_lines x_tide x_isKept x_isMuch x_sum x_once x_twice x_isTermMuch x_nodes x_newMany x_isTooGreat x_come x_foundSet), (qx 6, .inl (Y 0, 40, .inl x_low)), (qx 7, .inl (Y 0, 40, .inl x_high)), (qx 19, .inl (Y 0, 300, .inl x_nodePoint)), (qx 20, .inl (Y 0, 300, .inl x_nodeOver))] → va_S A s.heap H locs → ∀ (ls : Array Slot), lv_has ls 2 [(0, .ref (qx 0)), (1, .int x1)] → W p l e (headSpec wsX9_isWhole (rmk 1 23)).room s m [.ref (qx 0)].toArray below meth c H locs 0 0 (MQ below (va_Qi (fun (r : Int32) (_ : Unit) => r = rv) (Pst G (tys Y) [(qx 0, oX9 qx x_points x_lines x_tide x_isKept x_isMuch x_sum x_once x_twice x_isTermMuch x_nodes x_newMany x_isTooGreat x_come x_foundSet), (qx 6, .inl (Y 0, 40, .inl x_low)), (qx 7, .inl (Y 0, 40, .inl x_high)), (qx 19, .inl (Y 0, 300, .inl x_nodePoint)), (qx 20, .inl (Y 0, 300, .inl x_nodeOver))] s.heap.size [(qx 0, oX9 qx x_points x_lines x_tide x_isKept x_isMuch x_sum x_once x_twice x_isTermMuch x_nodes x_newMany x_isTooGreat x_come x_foundSet), (qx 6, .inl (Y 0, 40, .inl x_low)), (qx 7, .inl (Y 0, 40, .inl x_high)), (qx 19, .inl (Y 0, 300, .inl x_nodePoint)), (qx 20, .inl (Y 0, 300, .inl x_nodeOver))]) A) [.ref (qx 0)].toArray s 0 0 A) (F0 m 2 ls []) := by
    intro n2
    induction n2 with
    | zero =>
      intro x1 hf H locs hP hD hS ls hl
      exact no_none hf
    | succ n2 ih2 =>
      intro x1 hf H locs hP hD hS ls hl
      have hf : f_X9_isWhole_s2 x_lines x_low x_high x_nodePoint x_nodeOver x_nodes (f_X9_isWhole_b2 x_lines x_low x_high x_nodePoint x_nodeOver x_nodes  n2) x1 = some (rv) := hf
      unfold f_X9_isWhole_s2 at hf
      refine lv_iload_n hx hb dX9_isWhole_2 rfl (lv_at hl 1 rfl) ?_
      refine lv_aload_n hx hb dX9_isWhole_3 rfl (lv_at hl 0 rfl) ?_
      refine va_get (D := G) (ci := 7) (v := .int x_nodes) (C := RX9) (T := TX9) (N := 37) hx hb hts inX9w hown hK hP 0 rfl rfl 22 (by decide) wd1 (fun _ h9 => h9) rfl dX9_isWhole_4 ?_
      refine lv_icmp_ge (tgt := 43) hx hb dX9_isWhole_7 (by decide) (fun c1 => ?_) (fun c1 => ?_)
      · have hf := it hf c1
        refine lv_iconst (v := 1) hx hb dX9_isWhole_43 (by decide) ?_
        have e0 := rt1 hf
        exact W.zret (v := (1 : Int32)) hx hb hr rfl (fun t ht hW => ⟨⟨(1 : Int32), (), rfl, e0, by rw [ht]; exact hP, va_K.moved hW.alike hK, by rw [hAe]; exact hD⟩, hS.F ht⟩) hS.2.2 dX9_isWhole_44
      · have hf := ie hf c1
        refine lv_aload_n hx hb dX9_isWhole_10 rfl (lv_at hl 0 rfl) ?_
        refine lv_aload_n hx hb dX9_isWhole_11 rfl (lv_at hl 0 rfl) ?_
        refine va_get (D := G) (ci := 7) (v := .ref (qx 19)) (C := RX9) (T := TX9) (N := 37) hx hb hts inX9w hown hK hP 0 rfl rfl 18 (by decide) wd2 (fun _ h9 => h9) rfl dX9_isWhole_12 ?_
        refine lv_iload_n hx hb dX9_isWhole_15 rfl (lv_at hl 1 rfl) ?_
        obtain ⟨g2, hf⟩ := gd hf
        refine va_iald hx hb hK hP 3 0 rfl rfl g2 dX9_isWhole_16 ?_
        refine lv_aload_n hx hb dX9_isWhole_17 rfl (lv_at hl 0 rfl) ?_
        refine va_get (D := G) (ci := 7) (v := .ref (qx 19)) (C := RX9) (T := TX9) (N := 37) hx hb hts inX9w hown hK hP 0 rfl rfl 18 (by decide) wd2 (fun _ h9 => h9) rfl dX9_isWhole_18 ?_
        refine lv_aload_n hx hb dX9_isWhole_21 rfl (lv_at hl 0 rfl) ?_
        refine va_get (D := G) (ci := 7) (v := .ref (qx 20)) (C := RX9) (T := TX9) (N := 37) hx hb hts inX9w hown hK hP 0 rfl rfl 19 (by decide) wd3 (fun _ h9 => h9) rfl dX9_isWhole_22 ?_
        refine lv_iload_n hx hb dX9_isWhole_25 rfl (lv_at hl 1 rfl) ?_
        obtain ⟨g3, hf⟩ := gd hf
        refine va_iald hx hb hK hP 4 0 rfl rfl g3 dX9_isWhole_26 ?_
        obtain ⟨g4, hf⟩ := gd hf
        refine va_iald hx hb hK hP 3 0 rfl rfl g4 dX9_isWhole_27 ?_
        obtain ⟨r5, hc, hf⟩ := bd1 hf
        refine cl_i (ws' := [(qx 0, oX9 qx x_points x_lines x_tide x_isKept x_isMuch x_sum x_once x_twice x_isTermMuch x_nodes x_newMany x_isTooGreat x_come x_foundSet), (qx 6, .inl (Y 0, 40, .inl x_low)), (qx 7, .inl (Y 0, 40, .inl x_high)), (qx 19, .inl (Y 0, 300, .inl x_nodePoint)), (qx 20, .inl (Y 0, 300, .inl x_nodeOver))]) (wr := [(qx 19, .inl (Y 0, 300, .inl x_nodePoint)), (qx 20, .inl (Y 0, 300, .inl x_nodeOver))]) (rnV (As := [.int (x_nodePoint x1.toNatClampNeg), .int (x_nodePoint (x_nodeOver x1.toNatClampNeg).toNatClampNeg)]) (rest := []) ⟨hx, hb, hml, hown, hts⟩ (c_X9_lineOf l G Y H.size qx x_points x_lines x_tide x_low x_high x_isKept x_isMuch x_sum x_once x_twice x_isTermMuch x_nodes x_newMany x_isTooGreat x_come x_foundSet (x_nodePoint x1.toNatClampNeg) (x_nodePoint (x_nodeOver x1.toNatClampNeg).toNatClampNeg) r5 hc) (cwV 2 hts gX9_isWhole_X9_lineOf rfl rfl rfl (by decide +kernel) ⟨(Nat.le_of_ble_eq_true rfl), (Nat.le_of_ble_eq_true rfl)⟩) trivial okT hK hP hD [0, 1, 2] rfl rfl (ci := 7) (q0 := 0) rfl rfl rfl rfl hl.1 rfl (Nat.le_of_ble_eq_true rfl) dX9_isWhole_28) hP hD hS hA [0, 1, 2] [3, 4] [2, 3, 4, 0, 1] rfl rfl rfl (by decide) rfl rfl (fun H locs hP hD hS => ?_)
        refine lv_iconst (v := -1) hx hb dX9_isWhole_31 (by decide) ?_
        refine lv_icmp_ne (tgt := 37) hx hb dX9_isWhole_32 (by decide) (fun c6 => ?_) (fun c6 => ?_)
        · have hf := ie hf c6
          obtain ⟨v7, e_v7⟩ : ∃ z : Int32, z = (x1 + 1) := ⟨_, rfl⟩
          have hf := nm_at hf e_v7
          refine lv_iinc (v := v7) (lv' := [(1, .int v7), (0, .ref (qx 0))]) hx hb dX9_isWhole_37 hl (k := 1) rfl (by rw [e_v7]; rfl) (by decide) rfl (fun ls hl => ?_)
          refine lv_goto (tgt := 2) hx hb dX9_isWhole_40 (by decide) ?_
          exact ih2 v7 hf _ _ hP hD hS ls (lv_sub hl [1, 0] rfl)
        · have hf := it hf c6
          refine lv_iconst (v := 0) hx hb dX9_isWhole_35 (by decide) ?_
          have e0 := rt1 hf
          exact W.zret (v := (0 : Int32)) hx hb hr rfl (fun t ht hW => ⟨⟨(0 : Int32), (), rfl, e0, by rw [ht]; exact hP, va_K.moved hW.alike hK, by rw [hAe]; exact hD⟩, hS.F ht⟩) hS.2.2 dX9_isWhole_36
  have E0 : ∀ (H : Heap) (locs : List Loc), va_P G vwCl [(qx 0, oX9 qx x_points x_lines x_tide x_isKept x_isMuch x_sum x_once x_twice x_isTermMuch x_nodes x_newMany x_isTooGreat x_come x_foundSet), (qx 6, .inl (Y 0, 40, .inl x_low)), (qx 7, .inl (Y 0, 40, .inl x_high)), (qx 19, .inl (Y 0, 300, .inl x_nodePoint)), (qx 20, .inl (Y 0, 300, .inl x_nodeOver))] H → va_D A [(qx 0, oX9 qx x_points x_lines x_tide x_isKept x_isMuch x_sum x_once x_twice x_isTermMuch x_nodes x_newMany x_isTooGreat x_come x_foundSet), (qx 6, .inl (Y 0, 40, .inl x_low)), (qx 7, .inl (Y 0, 40, .inl x_high)), (qx 19, .inl (Y 0, 300, .inl x_nodePoint)), (qx 20, .inl (Y 0, 300, .inl x_nodeOver))] → va_S A s.heap H locs → ∀ (ls : Array Slot), lv_has ls 2 [(0, .ref (qx 0))] → W p l e (headSpec wsX9_isWhole (rmk 1 23)).room s m [.ref (qx 0)].toArray below meth c H locs 0 0 (MQ below (va_Qi (fun (r : Int32) (_ : Unit) => r = rv) (Pst G (tys Y) [(qx 0, oX9 qx x_points x_lines x_tide x_isKept x_isMuch x_sum x_once x_twice x_isTermMuch x_nodes x_newMany x_isTooGreat x_come x_foundSet), (qx 6, .inl (Y 0, 40, .inl x_low)), (qx 7, .inl (Y 0, 40, .inl x_high)), (qx 19, .inl (Y 0, 300, .inl x_nodePoint)), (qx 20, .inl (Y 0, 300, .inl x_nodeOver))] s.heap.size [(qx 0, oX9 qx x_points x_lines x_tide x_isKept x_isMuch x_sum x_once x_twice x_isTermMuch x_nodes x_newMany x_isTooGreat x_come x_foundSet), (qx 6, .inl (Y 0, 40, .inl x_low)), (qx 7, .inl (Y 0, 40, .inl x_high)), (qx 19, .inl (Y 0, 300, .inl x_nodePoint)), (qx 20, .inl (Y 0, 300, .inl x_nodeOver))]) A) [.ref (qx 0)].toArray s 0 0 A) (F0 m 0 ls []) := by
    intro H locs hP hD hS ls hl
    unfold f_X9_isWhole at hf
    refine lv_iconst (v := 1) hx hb dX9_isWhole_0 (by decide) ?_
    refine lv_istore_n (lv' := [(1, .int (1 : Int32)), (0, .ref (qx 0))]) hx hb dX9_isWhole_1 rfl hl (by decide) rfl (fun ls hl => ?_)
    exact B2 310 (1 : Int32) hf _ _ hP hD hS ls (lv_sub hl [1, 0] rfl)
  exact E0 s.heap [] hP hD hS ls hl
-- X9_share
set_option maxRecDepth 100000 in
set_option maxHeartbeats 4000000 in
theorem c_X9_share (l : Launch) (G : va_G) (Y : Nat → ClassId) (sz : Nat) (qx : Nat → Nat) (x_points : Int32) (x_lines : Int32) (x_tide : Int32) (x_kind : Nat → Int32) (x_figure : Nat → Int32) (x_low : Nat → Int32) (x_high : Nat → Int32) (x_isKept : Int32) (x_isMuch : Int32) (x_sum : Int64) (x_once : Int64) (x_twice : Int64) (x_isTermMuch : Int32) (x_nodePoint : Nat → Int32) (x_nodeOver : Nat → Int32) (x_nodes : Int32) (x_newMany : Int32) (x_above : Nat → Int64) (x_below : Nat → Int64) (x_isTooGreat : Int32) (x_come : Int32) (x_foundSet : Int64) (p1 : Int32) (p2 : Int32) (p3 : Int32) (rv : Int64) (o_x_above : Nat → Int64) (o_x_below : Nat → Int64) (hf : f_X9_share x_lines x_tide x_kind x_figure x_low x_high x_nodePoint x_nodeOver x_nodes x_above x_below p1 p2 p3 = some (rv, o_x_above, o_x_below)) : Met l yX9_share wsX9_share (rmk 19 454) (va_Pc [.ref (qx 0), .int p1, .int p2, .int p3] (Pre G (tys Y) [(qx 0, oX9 qx x_points x_lines x_tide x_isKept x_isMuch x_sum x_once x_twice x_isTermMuch x_nodes x_newMany x_isTooGreat x_come x_foundSet), (qx 4, .inl (Y 0, 40, .inl x_kind)), (qx 5, .inl (Y 0, 40, .inl x_figure)), (qx 6, .inl (Y 0, 40, .inl x_low)), (qx 7, .inl (Y 0, 40, .inl x_high)), (qx 19, .inl (Y 0, 300, .inl x_nodePoint)), (qx 20, .inl (Y 0, 300, .inl x_nodeOver)), (qx 25, .inl (Y 1, 300, .inr (.inl x_above))), (qx 26, .inl (Y 1, 300, .inr (.inl x_below)))] sz xT)) (va_Ql (fun (r : Int64) (_ : Unit) => r = rv) (Pst G (tys Y) [(qx 0, oX9 qx x_points x_lines x_tide x_isKept x_isMuch x_sum x_once x_twice x_isTermMuch x_nodes x_newMany x_isTooGreat x_come x_foundSet), (qx 4, .inl (Y 0, 40, .inl x_kind)), (qx 5, .inl (Y 0, 40, .inl x_figure)), (qx 6, .inl (Y 0, 40, .inl x_low)), (qx 7, .inl (Y 0, 40, .inl x_high)), (qx 19, .inl (Y 0, 300, .inl x_nodePoint)), (qx 20, .inl (Y 0, 300, .inl x_nodeOver)), (qx 25, .inl (Y 1, 300, .inr (.inl x_above))), (qx 26, .inl (Y 1, 300, .inr (.inl x_below)))] sz [(qx 0, oX9 qx x_points x_lines x_tide x_isKept x_isMuch x_sum x_once x_twice x_isTermMuch x_nodes x_newMany x_isTooGreat x_come x_foundSet), (qx 4, .inl (Y 0, 40, .inl x_kind)), (qx 5, .inl (Y 0, 40, .inl x_figure)), (qx 6, .inl (Y 0, 40, .inl x_low)), (qx 7, .inl (Y 0, 40, .inl x_high)), (qx 19, .inl (Y 0, 300, .inl x_nodePoint)), (qx 20, .inl (Y 0, 300, .inl x_nodeOver)), (qx 25, .inl (Y 1, 300, .inr (.inl o_x_above))), (qx 26, .inl (Y 1, 300, .inr (.inl o_x_below)))]) (va_A [(qx 0, oX9 qx x_points x_lines x_tide x_isKept x_isMuch x_sum x_once x_twice x_isTermMuch x_nodes x_newMany x_isTooGreat x_come x_foundSet), (qx 4, .inl (Y 0, 40, .inl x_kind)), (qx 5, .inl (Y 0, 40, .inl x_figure)), (qx 6, .inl (Y 0, 40, .inl x_low)), (qx 7, .inl (Y 0, 40, .inl x_high)), (qx 19, .inl (Y 0, 300, .inl x_nodePoint)), (qx 20, .inl (Y 0, 300, .inl x_nodeOver)), (qx 25, .inl (Y 1, 300, .inr (.inl x_above))), (qx 26, .inl (Y 1, 300, .inr (.inl x_below)))] sz)) 0 0 (va_A [(qx 0, oX9 qx x_points x_lines x_tide x_isKept x_isMuch x_sum x_once x_twice x_isTermMuch x_nodes x_newMany x_isTooGreat x_come x_foundSet), (qx 4, .inl (Y 0, 40, .inl x_kind)), (qx 5, .inl (Y 0, 40, .inl x_figure)), (qx 6, .inl (Y 0, 40, .inl x_low)), (qx 7, .inl (Y 0, 40, .inl x_high)), (qx 19, .inl (Y 0, 300, .inl x_nodePoint)), (qx 20, .inl (Y 0, 300, .inl x_nodeOver)), (qx 25, .inl (Y 1, 300, .inr (.inl x_above))), (qx 26, .inl (Y 1, 300, .inr (.inl x_below)))] sz) := by
  refine Met.ofW (cc := cX9_share) (maxL := 4) (ret := (some .long)) (by decide) rfl ?_
  intro p e s m args below meth c s₁ B hml hv
  obtain ⟨rfl, hsz, hP, hK, hD0, hX⟩ := hv
  have hx := B.exec
  have hb := B.bytes
  have hr := B.returns
  have hts := atoms_spec (ws := wsX9_share) B.pre
  have hown : s.vm.findClass RX9 = some m.cls := findClass_of_methodNamed B.named
  have hlocks := B.notSynchronized
  subst hsz
  have hD := hD0.self (sz := s.heap.size)
  generalize hAe : va_A [(qx 0, oX9 qx x_points x_lines x_tide x_isKept x_isMuch x_sum x_once x_twice x_isTermMuch x_nodes x_newMany x_isTooGreat x_come x_foundSet), (qx 4, .inl (Y 0, 40, .inl x_kind)), (qx 5, .inl (Y 0, 40, .inl x_figure)), (qx 6, .inl (Y 0, 40, .inl x_low)), (qx 7, .inl (Y 0, 40, .inl x_high)), (qx 19, .inl (Y 0, 300, .inl x_nodePoint)), (qx 20, .inl (Y 0, 300, .inl x_nodeOver)), (qx 25, .inl (Y 1, 300, .inr (.inl x_above))), (qx 26, .inl (Y 1, 300, .inr (.inl x_below)))] s.heap.size = A at hD ⊢
  have hA : ∀ q : Nat, s.heap.size ≤ q → A q := fun q h => by rw [← hAe]; exact Or.inr h
  have hS : va_S A s.heap s.heap [] := va_S.rf
  have hP : va_P G vwCl [(qx 0, oX9 qx x_points x_lines x_tide x_isKept x_isMuch x_sum x_once x_twice x_isTermMuch x_nodes x_newMany x_isTooGreat x_come x_foundSet), (qx 4, .inl (Y 0, 40, .inl x_kind)), (qx 5, .inl (Y 0, 40, .inl x_figure)), (qx 6, .inl (Y 0, 40, .inl x_low)), (qx 7, .inl (Y 0, 40, .inl x_high)), (qx 19, .inl (Y 0, 300, .inl x_nodePoint)), (qx 20, .inl (Y 0, 300, .inl x_nodeOver)), (qx 25, .inl (Y 1, 300, .inr (.inl x_above))), (qx 26, .inl (Y 1, 300, .inr (.inl x_below)))] s.heap := hP
  have wd1 : (Cond.fieldLink RX9 246 "PairedLinesModel" "nodes" "I").before [.ref (qx 0), .int p1, .int p2, .int p3].toArray s = true := hts _ (List.mem_of_getElem? (i := 1) rfl)
  have wd2 : (Cond.fieldLink RX9 50 "PairedLinesModel" "above" "[J").before [.ref (qx 0), .int p1, .int p2, .int p3].toArray s = true := hts _ (List.mem_of_getElem? (i := 2) rfl)
  have wd3 : (Cond.fieldLink RX9 53 "PairedLinesModel" "below" "[J").before [.ref (qx 0), .int p1, .int p2, .int p3].toArray s = true := hts _ (List.mem_of_getElem? (i := 3) rfl)
  have inX9w : ∀ w ∈ u_ws RX9 TX9 37, w ∈ wsX9_share := fun w hw => List.mem_cons_of_mem _ (List.mem_append_right _ (hw))
  have hl := lv_entry ([.ref (qx 0), .int p1, .int p2, .int p3]) (n := 4) (Nat.le_of_ble_eq_true rfl)
  rw [lg_entry_eq]
  generalize (lg_sl ([.ref (qx 0), .int p1, .int p2, .int p3]) ++ List.replicate (4 - (lg_sl ([.ref (qx 0), .int p1, .int p2, .int p3])).length) Slot.unset).toArray = ls at hl ⊢
  have hl : lv_has ls 4 [(0, .ref (qx 0)), (1, .int p1), (2, .int p2), (3, .int p3)] := hl
  have E0 : ∀ (H : Heap) (locs : List Loc), va_P G vwCl [(qx 0, oX9 qx x_points x_lines x_tide x_isKept x_isMuch x_sum x_once x_twice x_isTermMuch x_nodes x_newMany x_isTooGreat x_come x_foundSet), (qx 4, .inl (Y 0, 40, .inl x_kind)), (qx 5, .inl (Y 0, 40, .inl x_figure)), (qx 6, .inl (Y 0, 40, .inl x_low)), (qx 7, .inl (Y 0, 40, .inl x_high)), (qx 19, .inl (Y 0, 300, .inl x_nodePoint)), (qx 20, .inl (Y 0, 300, .inl x_nodeOver)), (qx 25, .inl (Y 1, 300, .inr (.inl x_above))), (qx 26, .inl (Y 1, 300, .inr (.inl x_below)))] H → va_D A [(qx 0, oX9 qx x_points x_lines x_tide x_isKept x_isMuch x_sum x_once x_twice x_isTermMuch x_nodes x_newMany x_isTooGreat x_come x_foundSet), (qx 4, .inl (Y 0, 40, .inl x_kind)), (qx 5, .inl (Y 0, 40, .inl x_figure)), (qx 6, .inl (Y 0, 40, .inl x_low)), (qx 7, .inl (Y 0, 40, .inl x_high)), (qx 19, .inl (Y 0, 300, .inl x_nodePoint)), (qx 20, .inl (Y 0, 300, .inl x_nodeOver)), (qx 25, .inl (Y 1, 300, .inr (.inl x_above))), (qx 26, .inl (Y 1, 300, .inr (.inl x_below)))] → va_S A s.heap H locs → ∀ (ls : Array Slot), lv_has ls 4 [(0, .ref (qx 0)), (1, .int p1), (2, .int p2), (3, .int p3)] → W p l e (headSpec wsX9_share (rmk 19 454)).room s m [.ref (qx 0), .int p1, .int p2, .int p3].toArray below meth c H locs 0 0 (MQ below (va_Ql (fun (r : Int64) (_ : Unit) => r = rv) (Pst G (tys Y) [(qx 0, oX9 qx x_points x_lines x_tide x_isKept x_isMuch x_sum x_once x_twice x_isTermMuch x_nodes x_newMany x_isTooGreat x_come x_foundSet), (qx 4, .inl (Y 0, 40, .inl x_kind)), (qx 5, .inl (Y 0, 40, .inl x_figure)), (qx 6, .inl (Y 0, 40, .inl x_low)), (qx 7, .inl (Y 0, 40, .inl x_high)), (qx 19, .inl (Y 0, 300, .inl x_nodePoint)), (qx 20, .inl (Y 0, 300, .inl x_nodeOver)), (qx 25, .inl (Y 1, 300, .inr (.inl x_above))), (qx 26, .inl (Y 1, 300, .inr (.inl x_below)))] s.heap.size [(qx 0, oX9 qx x_points x_lines x_tide x_isKept x_isMuch x_sum x_once x_twice x_isTermMuch x_nodes x_newMany x_isTooGreat x_come x_foundSet), (qx 4, .inl (Y 0, 40, .inl x_kind)), (qx 5, .inl (Y 0, 40, .inl x_figure)), (qx 6, .inl (Y 0, 40, .inl x_low)), (qx 7, .inl (Y 0, 40, .inl x_high)), (qx 19, .inl (Y 0, 300, .inl x_nodePoint)), (qx 20, .inl (Y 0, 300, .inl x_nodeOver)), (qx 25, .inl (Y 1, 300, .inr (.inl o_x_above))), (qx 26, .inl (Y 1, 300, .inr (.inl o_x_below)))]) A) [.ref (qx 0), .int p1, .int p2, .int p3].toArray s 0 0 A) (F0 m 0 ls []) := by
    intro H locs hP hD hS ls hl
    unfold f_X9_share at hf
    refine lv_iload_n hx hb dX9_share_0 rfl (lv_at hl 1 rfl) ?_
    refine lv_i2l hx hb dX9_share_1 rfl ?_
    refine lv_lconst (v := 0) hx hb dX9_share_2 (by decide) ?_
    refine lv_aload_n hx hb dX9_share_3 rfl (lv_at hl 0 rfl) ?_
    refine va_get (D := G) (ci := 7) (v := .int x_nodes) (C := RX9) (T := TX9) (N := 37) hx hb hts inX9w hown hK hP 0 rfl rfl 22 (by decide) wd1 (fun _ h9 => h9) rfl dX9_share_4 ?_
    refine lv_iconst (v := 1) hx hb dX9_share_7 (by decide) ?_
    refine lv_isub hx hb dX9_share_8 ?_
    refine lv_i2l hx hb dX9_share_9 rfl ?_
    obtain ⟨r1, hc, hf⟩ := bd1 hf
    refine cl_i (ws' := [(qx 0, oX9 qx x_points x_lines x_tide x_isKept x_isMuch x_sum x_once x_twice x_isTermMuch x_nodes x_newMany x_isTooGreat x_come x_foundSet), (qx 4, .inl (Y 0, 40, .inl x_kind)), (qx 5, .inl (Y 0, 40, .inl x_figure)), (qx 6, .inl (Y 0, 40, .inl x_low)), (qx 7, .inl (Y 0, 40, .inl x_high)), (qx 19, .inl (Y 0, 300, .inl x_nodePoint)), (qx 20, .inl (Y 0, 300, .inl x_nodeOver)), (qx 25, .inl (Y 1, 300, .inr (.inl x_above))), (qx 26, .inl (Y 1, 300, .inr (.inl x_below)))]) (wr := [(qx 0, oX9 qx x_points x_lines x_tide x_isKept x_isMuch x_sum x_once x_twice x_isTermMuch x_nodes x_newMany x_isTooGreat x_come x_foundSet), (qx 4, .inl (Y 0, 40, .inl x_kind)), (qx 5, .inl (Y 0, 40, .inl x_figure)), (qx 6, .inl (Y 0, 40, .inl x_low)), (qx 7, .inl (Y 0, 40, .inl x_high)), (qx 19, .inl (Y 0, 300, .inl x_nodePoint)), (qx 20, .inl (Y 0, 300, .inl x_nodeOver)), (qx 25, .inl (Y 1, 300, .inr (.inl x_above))), (qx 26, .inl (Y 1, 300, .inr (.inl x_below)))]) (rnS (As := [.long p1.toInt64, .long (0 : Int64), .long ((x_nodes - (1 : Int32)).toInt64)]) (rest := []) ⟨hx, hb, hml, hown, hts⟩ (c_X9_in l G Y H.size p1.toInt64 (0 : Int64) ((x_nodes - (1 : Int32)).toInt64) r1 hc) (va_cwS 3 hts gX9_share_X9_in rfl rfl rfl (by decide +kernel) ⟨(Nat.le_of_ble_eq_true rfl), (Nat.le_of_ble_eq_true rfl)⟩) trivial okT hK hP hD [] rfl rfl rfl hl.1 rfl (Nat.le_of_ble_eq_true rfl) dX9_share_10) hP hD hS hA [] [0, 1, 2, 3, 4, 5, 6, 7, 8] [0, 1, 2, 3, 4, 5, 6, 7, 8] rfl rfl rfl (by decide) rfl rfl (fun H locs hP hD hS => ?_)
    refine lv_if_ne (tgt := 22) hx hb dX9_share_13 (by decide) (fun c2 => ?_) (fun c2 => ?_)
    · have hf := ie hf c2
      refine lv_iload_n hx hb dX9_share_22 rfl (lv_at hl 2 rfl) ?_
      obtain ⟨r3, hc, hf⟩ := bd1 hf
      refine cl_i (ws' := [(qx 0, oX9 qx x_points x_lines x_tide x_isKept x_isMuch x_sum x_once x_twice x_isTermMuch x_nodes x_newMany x_isTooGreat x_come x_foundSet), (qx 4, .inl (Y 0, 40, .inl x_kind)), (qx 5, .inl (Y 0, 40, .inl x_figure)), (qx 6, .inl (Y 0, 40, .inl x_low)), (qx 7, .inl (Y 0, 40, .inl x_high)), (qx 19, .inl (Y 0, 300, .inl x_nodePoint)), (qx 20, .inl (Y 0, 300, .inl x_nodeOver)), (qx 25, .inl (Y 1, 300, .inr (.inl x_above))), (qx 26, .inl (Y 1, 300, .inr (.inl x_below)))]) (wr := [(qx 0, oX9 qx x_points x_lines x_tide x_isKept x_isMuch x_sum x_once x_twice x_isTermMuch x_nodes x_newMany x_isTooGreat x_come x_foundSet), (qx 4, .inl (Y 0, 40, .inl x_kind)), (qx 5, .inl (Y 0, 40, .inl x_figure)), (qx 6, .inl (Y 0, 40, .inl x_low)), (qx 7, .inl (Y 0, 40, .inl x_high)), (qx 19, .inl (Y 0, 300, .inl x_nodePoint)), (qx 20, .inl (Y 0, 300, .inl x_nodeOver)), (qx 25, .inl (Y 1, 300, .inr (.inl x_above))), (qx 26, .inl (Y 1, 300, .inr (.inl x_below)))]) (rnS (As := [.int p2]) (rest := []) ⟨hx, hb, hml, hown, hts⟩ (c_X9_isRate l G Y H.size p2 r3 hc) (va_cwS 1 hts gX9_share_X9_isRate rfl rfl rfl (by decide +kernel) ⟨(Nat.le_of_ble_eq_true rfl), (Nat.le_of_ble_eq_true rfl)⟩) trivial okT hK hP hD [] rfl rfl rfl hl.1 rfl (Nat.le_of_ble_eq_true rfl) dX9_share_23) hP hD hS hA [] [0, 1, 2, 3, 4, 5, 6, 7, 8] [0, 1, 2, 3, 4, 5, 6, 7, 8] rfl rfl rfl (by decide) rfl rfl (fun H locs hP hD hS => ?_)
      refine lv_if_eq (tgt := 36) hx hb dX9_share_26 (by decide) (fun c4 => ?_) (fun c4 => ?_)
      · have hf := it hf c4
        refine lv_bipush (v := -2) hx hb dX9_share_36 (by decide) ?_
        obtain ⟨r5, hc, hf⟩ := bd1 hf
        refine cl_l (ws' := [(qx 0, oX9 qx x_points x_lines x_tide x_isKept x_isMuch x_sum x_once x_twice x_isTermMuch x_nodes x_newMany x_isTooGreat x_come x_foundSet), (qx 4, .inl (Y 0, 40, .inl x_kind)), (qx 5, .inl (Y 0, 40, .inl x_figure)), (qx 6, .inl (Y 0, 40, .inl x_low)), (qx 7, .inl (Y 0, 40, .inl x_high)), (qx 19, .inl (Y 0, 300, .inl x_nodePoint)), (qx 20, .inl (Y 0, 300, .inl x_nodeOver)), (qx 25, .inl (Y 1, 300, .inr (.inl x_above))), (qx 26, .inl (Y 1, 300, .inr (.inl x_below)))]) (wr := [(qx 0, oX9 qx x_points x_lines x_tide x_isKept x_isMuch x_sum x_once x_twice x_isTermMuch x_nodes x_newMany x_isTooGreat x_come x_foundSet), (qx 4, .inl (Y 0, 40, .inl x_kind)), (qx 5, .inl (Y 0, 40, .inl x_figure)), (qx 6, .inl (Y 0, 40, .inl x_low)), (qx 7, .inl (Y 0, 40, .inl x_high)), (qx 19, .inl (Y 0, 300, .inl x_nodePoint)), (qx 20, .inl (Y 0, 300, .inl x_nodeOver)), (qx 25, .inl (Y 1, 300, .inr (.inl x_above))), (qx 26, .inl (Y 1, 300, .inr (.inl x_below)))]) (rnS (As := [.int (-2 : Int32)]) (rest := []) ⟨hx, hb, hml, hown, hts⟩ (c_X9_told l G Y H.size (-2 : Int32) r5 hc) (va_cwS 1 hts gX9_share_X9_told rfl rfl rfl (by decide +kernel) ⟨(Nat.le_of_ble_eq_true rfl), (Nat.le_of_ble_eq_true rfl)⟩) trivial okT hK hP hD [] rfl rfl rfl hl.1 rfl (Nat.le_of_ble_eq_true rfl) dX9_share_38) hP hD hS hA [] [0, 1, 2, 3, 4, 5, 6, 7, 8] [0, 1, 2, 3, 4, 5, 6, 7, 8] rfl rfl rfl (by decide) rfl rfl (fun H locs hP hD hS => ?_)
        obtain ⟨e0, e1, e2⟩ := rt3 hf
        have hP : va_P G vwCl [(qx 0, oX9 qx x_points x_lines x_tide x_isKept x_isMuch x_sum x_once x_twice x_isTermMuch x_nodes x_newMany x_isTooGreat x_come x_foundSet), (qx 4, .inl (Y 0, 40, .inl x_kind)), (qx 5, .inl (Y 0, 40, .inl x_figure)), (qx 6, .inl (Y 0, 40, .inl x_low)), (qx 7, .inl (Y 0, 40, .inl x_high)), (qx 19, .inl (Y 0, 300, .inl x_nodePoint)), (qx 20, .inl (Y 0, 300, .inl x_nodeOver)), (qx 25, .inl (Y 1, 300, .inr (.inl o_x_above))), (qx 26, .inl (Y 1, 300, .inr (.inl o_x_below)))] H := by rw [← e1, ← e2]; exact hP
        have hD : va_D A [(qx 0, oX9 qx x_points x_lines x_tide x_isKept x_isMuch x_sum x_once x_twice x_isTermMuch x_nodes x_newMany x_isTooGreat x_come x_foundSet), (qx 4, .inl (Y 0, 40, .inl x_kind)), (qx 5, .inl (Y 0, 40, .inl x_figure)), (qx 6, .inl (Y 0, 40, .inl x_low)), (qx 7, .inl (Y 0, 40, .inl x_high)), (qx 19, .inl (Y 0, 300, .inl x_nodePoint)), (qx 20, .inl (Y 0, 300, .inl x_nodeOver)), (qx 25, .inl (Y 1, 300, .inr (.inl o_x_above))), (qx 26, .inl (Y 1, 300, .inr (.inl o_x_below)))] := by rw [← e1, ← e2]; exact hD
        exact W.lret (v := r5) hx hb hr (fun t ht hW => ⟨⟨r5, (), rfl, e0, by rw [ht]; exact hP, va_K.moved hW.alike hK, by rw [hAe]; exact hD⟩, hS.F ht⟩) hS.2.2 dX9_share_41
      · have hf := ie hf c4
        refine lv_iload_n hx hb dX9_share_29 rfl (lv_at hl 3 rfl) ?_
        obtain ⟨r6, hc, hf⟩ := bd1 hf
        refine cl_i (ws' := [(qx 0, oX9 qx x_points x_lines x_tide x_isKept x_isMuch x_sum x_once x_twice x_isTermMuch x_nodes x_newMany x_isTooGreat x_come x_foundSet), (qx 4, .inl (Y 0, 40, .inl x_kind)), (qx 5, .inl (Y 0, 40, .inl x_figure)), (qx 6, .inl (Y 0, 40, .inl x_low)), (qx 7, .inl (Y 0, 40, .inl x_high)), (qx 19, .inl (Y 0, 300, .inl x_nodePoint)), (qx 20, .inl (Y 0, 300, .inl x_nodeOver)), (qx 25, .inl (Y 1, 300, .inr (.inl x_above))), (qx 26, .inl (Y 1, 300, .inr (.inl x_below)))]) (wr := [(qx 0, oX9 qx x_points x_lines x_tide x_isKept x_isMuch x_sum x_once x_twice x_isTermMuch x_nodes x_newMany x_isTooGreat x_come x_foundSet), (qx 4, .inl (Y 0, 40, .inl x_kind)), (qx 5, .inl (Y 0, 40, .inl x_figure)), (qx 6, .inl (Y 0, 40, .inl x_low)), (qx 7, .inl (Y 0, 40, .inl x_high)), (qx 19, .inl (Y 0, 300, .inl x_nodePoint)), (qx 20, .inl (Y 0, 300, .inl x_nodeOver)), (qx 25, .inl (Y 1, 300, .inr (.inl x_above))), (qx 26, .inl (Y 1, 300, .inr (.inl x_below)))]) (rnS (As := [.int p3]) (rest := []) ⟨hx, hb, hml, hown, hts⟩ (c_X9_isPart l G Y H.size p3 r6 hc) (va_cwS 1 hts gX9_share_X9_isPart rfl rfl rfl (by decide +kernel) ⟨(Nat.le_of_ble_eq_true rfl), (Nat.le_of_ble_eq_true rfl)⟩) trivial okT hK hP hD [] rfl rfl rfl hl.1 rfl (Nat.le_of_ble_eq_true rfl) dX9_share_30) hP hD hS hA [] [0, 1, 2, 3, 4, 5, 6, 7, 8] [0, 1, 2, 3, 4, 5, 6, 7, 8] rfl rfl rfl (by decide) rfl rfl (fun H locs hP hD hS => ?_)
        refine lv_if_ne (tgt := 42) hx hb dX9_share_33 (by decide) (fun c7 => ?_) (fun c7 => ?_)
        · have hf := ie hf c7
          refine lv_aload_n hx hb dX9_share_42 rfl (lv_at hl 0 rfl) ?_
          obtain ⟨r8, hc, hf⟩ := bd1 hf
          refine cl_i (ws' := [(qx 0, oX9 qx x_points x_lines x_tide x_isKept x_isMuch x_sum x_once x_twice x_isTermMuch x_nodes x_newMany x_isTooGreat x_come x_foundSet), (qx 4, .inl (Y 0, 40, .inl x_kind)), (qx 5, .inl (Y 0, 40, .inl x_figure)), (qx 6, .inl (Y 0, 40, .inl x_low)), (qx 7, .inl (Y 0, 40, .inl x_high)), (qx 19, .inl (Y 0, 300, .inl x_nodePoint)), (qx 20, .inl (Y 0, 300, .inl x_nodeOver)), (qx 25, .inl (Y 1, 300, .inr (.inl x_above))), (qx 26, .inl (Y 1, 300, .inr (.inl x_below)))]) (wr := [(qx 4, .inl (Y 0, 40, .inl x_kind)), (qx 5, .inl (Y 0, 40, .inl x_figure)), (qx 25, .inl (Y 1, 300, .inr (.inl x_above))), (qx 26, .inl (Y 1, 300, .inr (.inl x_below)))]) (rnV (As := []) (rest := []) ⟨hx, hb, hml, hown, hts⟩ (c_X9_isWhole l G Y H.size qx x_points x_lines x_tide x_low x_high x_isKept x_isMuch x_sum x_once x_twice x_isTermMuch x_nodePoint x_nodeOver x_nodes x_newMany x_isTooGreat x_come x_foundSet r8 hc) (cwV 0 hts gX9_share_X9_isWhole rfl rfl rfl (by decide +kernel) ⟨(Nat.le_of_ble_eq_true rfl), (Nat.le_of_ble_eq_true rfl)⟩) trivial okT hK hP hD [0, 3, 4, 5, 6] rfl rfl (ci := 7) (q0 := 0) rfl rfl rfl rfl hl.1 rfl (Nat.le_of_ble_eq_true rfl) dX9_share_43) hP hD hS hA [0, 3, 4, 5, 6] [1, 2, 7, 8] [4, 0, 1, 5, 6, 7, 8, 2, 3] rfl rfl rfl (by decide) rfl rfl (fun H locs hP hD hS => ?_)
          refine lv_if_ne (tgt := 55) hx hb dX9_share_46 (by decide) (fun c9 => ?_) (fun c9 => ?_)
          · have hf := ie hf c9
            refine lv_aload_n hx hb dX9_share_55 rfl (lv_at hl 0 rfl) ?_
            refine lv_iload_n hx hb dX9_share_56 rfl (lv_at hl 1 rfl) ?_
            refine lv_iload_n hx hb dX9_share_57 rfl (lv_at hl 2 rfl) ?_
            obtain ⟨w10, w11, hc, hf⟩ := bd2 hf
            refine cl_v (ws' := [(qx 0, oX9 qx x_points x_lines x_tide x_isKept x_isMuch x_sum x_once x_twice x_isTermMuch x_nodes x_newMany x_isTooGreat x_come x_foundSet), (qx 4, .inl (Y 0, 40, .inl x_kind)), (qx 5, .inl (Y 0, 40, .inl x_figure)), (qx 6, .inl (Y 0, 40, .inl x_low)), (qx 7, .inl (Y 0, 40, .inl x_high)), (qx 19, .inl (Y 0, 300, .inl x_nodePoint)), (qx 20, .inl (Y 0, 300, .inl x_nodeOver)), (qx 25, .inl (Y 1, 300, .inr (.inl w10))), (qx 26, .inl (Y 1, 300, .inr (.inl w11)))]) (wr := []) (rnV (As := [.int p1, .int p2]) (rest := []) ⟨hx, hb, hml, hown, hts⟩ (c_X9_findsShare l G Y 16 H.size qx x_points x_lines x_tide x_kind x_figure x_low x_high x_isKept x_isMuch x_sum x_once x_twice x_isTermMuch x_nodePoint x_nodeOver x_nodes x_newMany x_above x_below x_isTooGreat x_come x_foundSet p1 p2 w10 w11 hc) (cwV 2 hts gX9_share_X9_findsShare rfl rfl rfl (by decide +kernel) ⟨(Nat.le_of_ble_eq_true rfl), (Nat.le_of_ble_eq_true rfl)⟩) trivial okT hK hP hD [0, 1, 2, 3, 4, 5, 6, 7, 8] rfl rfl (ci := 7) (q0 := 0) rfl rfl rfl rfl hl.1 rfl (Nat.le_of_ble_eq_true rfl) dX9_share_58) hP hD hS hA [0, 1, 2, 3, 4, 5, 6, 7, 8] [] [0, 1, 2, 3, 4, 5, 6, 7, 8] rfl rfl rfl (by decide) rfl rfl (fun H locs hP hD hS => ?_)
            refine lv_aload_n hx hb dX9_share_61 rfl (lv_at hl 0 rfl) ?_
            refine va_get (D := G) (ci := 7) (v := .ref (qx 25)) (C := RX9) (T := TX9) (N := 37) hx hb hts inX9w hown hK hP 0 rfl rfl 24 (by decide) wd2 (fun _ h9 => h9) rfl dX9_share_62 ?_
            refine lv_iload_n hx hb dX9_share_65 rfl (lv_at hl 1 rfl) ?_
            obtain ⟨g12, hf⟩ := gd hf
            refine va_lald hx hb hK hP 7 1 rfl rfl g12 dX9_share_66 ?_
            refine lv_lconst (v := 0) hx hb dX9_share_67 (by decide) ?_
            refine W.lcmp hx hb dX9_share_68 ?_
            refine lv_if_ge (tgt := 80) hx hb dX9_share_69 (by decide) (fun c13 => ?_) (fun c13 => ?_)
            · have hf := it hf c13
              refine lv_iload_n hx hb dX9_share_80 rfl (lv_at hl 3 rfl) ?_
              refine lv_if_ne (tgt := 93) hx hb dX9_share_81 (by decide) (fun c14 => ?_) (fun c14 => ?_)
              · have hf := ie hf c14
                refine lv_aload_n hx hb dX9_share_93 rfl (lv_at hl 0 rfl) ?_
                refine va_get (D := G) (ci := 7) (v := .ref (qx 25)) (C := RX9) (T := TX9) (N := 37) hx hb hts inX9w hown hK hP 0 rfl rfl 24 (by decide) wd2 (fun _ h9 => h9) rfl dX9_share_94 ?_
                refine lv_iload_n hx hb dX9_share_97 rfl (lv_at hl 1 rfl) ?_
                obtain ⟨g15, hf⟩ := gd hf
                refine va_lald hx hb hK hP 7 1 rfl rfl g15 dX9_share_98 ?_
                obtain ⟨e0, e1, e2⟩ := rt3 hf
                have hP : va_P G vwCl [(qx 0, oX9 qx x_points x_lines x_tide x_isKept x_isMuch x_sum x_once x_twice x_isTermMuch x_nodes x_newMany x_isTooGreat x_come x_foundSet), (qx 4, .inl (Y 0, 40, .inl x_kind)), (qx 5, .inl (Y 0, 40, .inl x_figure)), (qx 6, .inl (Y 0, 40, .inl x_low)), (qx 7, .inl (Y 0, 40, .inl x_high)), (qx 19, .inl (Y 0, 300, .inl x_nodePoint)), (qx 20, .inl (Y 0, 300, .inl x_nodeOver)), (qx 25, .inl (Y 1, 300, .inr (.inl o_x_above))), (qx 26, .inl (Y 1, 300, .inr (.inl o_x_below)))] H := by rw [← e1, ← e2]; exact hP
                have hD : va_D A [(qx 0, oX9 qx x_points x_lines x_tide x_isKept x_isMuch x_sum x_once x_twice x_isTermMuch x_nodes x_newMany x_isTooGreat x_come x_foundSet), (qx 4, .inl (Y 0, 40, .inl x_kind)), (qx 5, .inl (Y 0, 40, .inl x_figure)), (qx 6, .inl (Y 0, 40, .inl x_low)), (qx 7, .inl (Y 0, 40, .inl x_high)), (qx 19, .inl (Y 0, 300, .inl x_nodePoint)), (qx 20, .inl (Y 0, 300, .inl x_nodeOver)), (qx 25, .inl (Y 1, 300, .inr (.inl o_x_above))), (qx 26, .inl (Y 1, 300, .inr (.inl o_x_below)))] := by rw [← e1, ← e2]; exact hD
                exact W.lret (v := (w10 p1.toNatClampNeg)) hx hb hr (fun t ht hW => ⟨⟨(w10 p1.toNatClampNeg), (), rfl, e0, by rw [ht]; exact hP, va_K.moved hW.alike hK, by rw [hAe]; exact hD⟩, hS.F ht⟩) hS.2.2 dX9_share_99
              · have hf := it hf c14
                refine lv_aload_n hx hb dX9_share_84 rfl (lv_at hl 0 rfl) ?_
                refine va_get (D := G) (ci := 7) (v := .ref (qx 26)) (C := RX9) (T := TX9) (N := 37) hx hb hts inX9w hown hK hP 0 rfl rfl 25 (by decide) wd3 (fun _ h9 => h9) rfl dX9_share_85 ?_
                refine lv_iload_n hx hb dX9_share_88 rfl (lv_at hl 1 rfl) ?_
                obtain ⟨g16, hf⟩ := gd hf
                refine va_lald hx hb hK hP 8 1 rfl rfl g16 dX9_share_89 ?_
                refine lv_goto (tgt := 99) hx hb dX9_share_90 (by decide) ?_
                obtain ⟨e0, e1, e2⟩ := rt3 hf
                have hP : va_P G vwCl [(qx 0, oX9 qx x_points x_lines x_tide x_isKept x_isMuch x_sum x_once x_twice x_isTermMuch x_nodes x_newMany x_isTooGreat x_come x_foundSet), (qx 4, .inl (Y 0, 40, .inl x_kind)), (qx 5, .inl (Y 0, 40, .inl x_figure)), (qx 6, .inl (Y 0, 40, .inl x_low)), (qx 7, .inl (Y 0, 40, .inl x_high)), (qx 19, .inl (Y 0, 300, .inl x_nodePoint)), (qx 20, .inl (Y 0, 300, .inl x_nodeOver)), (qx 25, .inl (Y 1, 300, .inr (.inl o_x_above))), (qx 26, .inl (Y 1, 300, .inr (.inl o_x_below)))] H := by rw [← e1, ← e2]; exact hP
                have hD : va_D A [(qx 0, oX9 qx x_points x_lines x_tide x_isKept x_isMuch x_sum x_once x_twice x_isTermMuch x_nodes x_newMany x_isTooGreat x_come x_foundSet), (qx 4, .inl (Y 0, 40, .inl x_kind)), (qx 5, .inl (Y 0, 40, .inl x_figure)), (qx 6, .inl (Y 0, 40, .inl x_low)), (qx 7, .inl (Y 0, 40, .inl x_high)), (qx 19, .inl (Y 0, 300, .inl x_nodePoint)), (qx 20, .inl (Y 0, 300, .inl x_nodeOver)), (qx 25, .inl (Y 1, 300, .inr (.inl o_x_above))), (qx 26, .inl (Y 1, 300, .inr (.inl o_x_below)))] := by rw [← e1, ← e2]; exact hD
                exact W.lret (v := (w11 p1.toNatClampNeg)) hx hb hr (fun t ht hW => ⟨⟨(w11 p1.toNatClampNeg), (), rfl, e0, by rw [ht]; exact hP, va_K.moved hW.alike hK, by rw [hAe]; exact hD⟩, hS.F ht⟩) hS.2.2 dX9_share_99
            · have hf := ie hf c13
              refine lv_bipush (v := -5) hx hb dX9_share_72 (by decide) ?_
              obtain ⟨r17, hc, hf⟩ := bd1 hf
              refine cl_l (ws' := [(qx 0, oX9 qx x_points x_lines x_tide x_isKept x_isMuch x_sum x_once x_twice x_isTermMuch x_nodes x_newMany x_isTooGreat x_come x_foundSet), (qx 4, .inl (Y 0, 40, .inl x_kind)), (qx 5, .inl (Y 0, 40, .inl x_figure)), (qx 6, .inl (Y 0, 40, .inl x_low)), (qx 7, .inl (Y 0, 40, .inl x_high)), (qx 19, .inl (Y 0, 300, .inl x_nodePoint)), (qx 20, .inl (Y 0, 300, .inl x_nodeOver)), (qx 25, .inl (Y 1, 300, .inr (.inl w10))), (qx 26, .inl (Y 1, 300, .inr (.inl w11)))]) (wr := [(qx 0, oX9 qx x_points x_lines x_tide x_isKept x_isMuch x_sum x_once x_twice x_isTermMuch x_nodes x_newMany x_isTooGreat x_come x_foundSet), (qx 4, .inl (Y 0, 40, .inl x_kind)), (qx 5, .inl (Y 0, 40, .inl x_figure)), (qx 6, .inl (Y 0, 40, .inl x_low)), (qx 7, .inl (Y 0, 40, .inl x_high)), (qx 19, .inl (Y 0, 300, .inl x_nodePoint)), (qx 20, .inl (Y 0, 300, .inl x_nodeOver)), (qx 25, .inl (Y 1, 300, .inr (.inl w10))), (qx 26, .inl (Y 1, 300, .inr (.inl w11)))]) (rnS (As := [.int (-5 : Int32)]) (rest := []) ⟨hx, hb, hml, hown, hts⟩ (c_X9_told l G Y H.size (-5 : Int32) r17 hc) (va_cwS 1 hts gX9_share_X9_told rfl rfl rfl (by decide +kernel) ⟨(Nat.le_of_ble_eq_true rfl), (Nat.le_of_ble_eq_true rfl)⟩) trivial okT hK hP hD [] rfl rfl rfl hl.1 rfl (Nat.le_of_ble_eq_true rfl) dX9_share_74) hP hD hS hA [] [0, 1, 2, 3, 4, 5, 6, 7, 8] [0, 1, 2, 3, 4, 5, 6, 7, 8] rfl rfl rfl (by decide) rfl rfl (fun H locs hP hD hS => ?_)
              refine lv_goto (tgt := 99) hx hb dX9_share_77 (by decide) ?_
              obtain ⟨e0, e1, e2⟩ := rt3 hf
              have hP : va_P G vwCl [(qx 0, oX9 qx x_points x_lines x_tide x_isKept x_isMuch x_sum x_once x_twice x_isTermMuch x_nodes x_newMany x_isTooGreat x_come x_foundSet), (qx 4, .inl (Y 0, 40, .inl x_kind)), (qx 5, .inl (Y 0, 40, .inl x_figure)), (qx 6, .inl (Y 0, 40, .inl x_low)), (qx 7, .inl (Y 0, 40, .inl x_high)), (qx 19, .inl (Y 0, 300, .inl x_nodePoint)), (qx 20, .inl (Y 0, 300, .inl x_nodeOver)), (qx 25, .inl (Y 1, 300, .inr (.inl o_x_above))), (qx 26, .inl (Y 1, 300, .inr (.inl o_x_below)))] H := by rw [← e1, ← e2]; exact hP
              have hD : va_D A [(qx 0, oX9 qx x_points x_lines x_tide x_isKept x_isMuch x_sum x_once x_twice x_isTermMuch x_nodes x_newMany x_isTooGreat x_come x_foundSet), (qx 4, .inl (Y 0, 40, .inl x_kind)), (qx 5, .inl (Y 0, 40, .inl x_figure)), (qx 6, .inl (Y 0, 40, .inl x_low)), (qx 7, .inl (Y 0, 40, .inl x_high)), (qx 19, .inl (Y 0, 300, .inl x_nodePoint)), (qx 20, .inl (Y 0, 300, .inl x_nodeOver)), (qx 25, .inl (Y 1, 300, .inr (.inl o_x_above))), (qx 26, .inl (Y 1, 300, .inr (.inl o_x_below)))] := by rw [← e1, ← e2]; exact hD
              exact W.lret (v := r17) hx hb hr (fun t ht hW => ⟨⟨r17, (), rfl, e0, by rw [ht]; exact hP, va_K.moved hW.alike hK, by rw [hAe]; exact hD⟩, hS.F ht⟩) hS.2.2 dX9_share_99
          · have hf := it hf c9
            refine lv_bipush (v := -3) hx hb dX9_share_49 (by decide) ?_
            obtain ⟨r18, hc, hf⟩ := bd1 hf
            refine cl_l (ws' := [(qx 0, oX9 qx x_points x_lines x_tide x_isKept x_isMuch x_sum x_once x_twice x_isTermMuch x_nodes x_newMany x_isTooGreat x_come x_foundSet), (qx 4, .inl (Y 0, 40, .inl x_kind)), (qx 5, .inl (Y 0, 40, .inl x_figure)), (qx 6, .inl (Y 0, 40, .inl x_low)), (qx 7, .inl (Y 0, 40, .inl x_high)), (qx 19, .inl (Y 0, 300, .inl x_nodePoint)), (qx 20, .inl (Y 0, 300, .inl x_nodeOver)), (qx 25, .inl (Y 1, 300, .inr (.inl x_above))), (qx 26, .inl (Y 1, 300, .inr (.inl x_below)))]) (wr := [(qx 0, oX9 qx x_points x_lines x_tide x_isKept x_isMuch x_sum x_once x_twice x_isTermMuch x_nodes x_newMany x_isTooGreat x_come x_foundSet), (qx 4, .inl (Y 0, 40, .inl x_kind)), (qx 5, .inl (Y 0, 40, .inl x_figure)), (qx 6, .inl (Y 0, 40, .inl x_low)), (qx 7, .inl (Y 0, 40, .inl x_high)), (qx 19, .inl (Y 0, 300, .inl x_nodePoint)), (qx 20, .inl (Y 0, 300, .inl x_nodeOver)), (qx 25, .inl (Y 1, 300, .inr (.inl x_above))), (qx 26, .inl (Y 1, 300, .inr (.inl x_below)))]) (rnS (As := [.int (-3 : Int32)]) (rest := []) ⟨hx, hb, hml, hown, hts⟩ (c_X9_told l G Y H.size (-3 : Int32) r18 hc) (va_cwS 1 hts gX9_share_X9_told rfl rfl rfl (by decide +kernel) ⟨(Nat.le_of_ble_eq_true rfl), (Nat.le_of_ble_eq_true rfl)⟩) trivial okT hK hP hD [] rfl rfl rfl hl.1 rfl (Nat.le_of_ble_eq_true rfl) dX9_share_51) hP hD hS hA [] [0, 1, 2, 3, 4, 5, 6, 7, 8] [0, 1, 2, 3, 4, 5, 6, 7, 8] rfl rfl rfl (by decide) rfl rfl (fun H locs hP hD hS => ?_)
            obtain ⟨e0, e1, e2⟩ := rt3 hf
            have hP : va_P G vwCl [(qx 0, oX9 qx x_points x_lines x_tide x_isKept x_isMuch x_sum x_once x_twice x_isTermMuch x_nodes x_newMany x_isTooGreat x_come x_foundSet), (qx 4, .inl (Y 0, 40, .inl x_kind)), (qx 5, .inl (Y 0, 40, .inl x_figure)), (qx 6, .inl (Y 0, 40, .inl x_low)), (qx 7, .inl (Y 0, 40, .inl x_high)), (qx 19, .inl (Y 0, 300, .inl x_nodePoint)), (qx 20, .inl (Y 0, 300, .inl x_nodeOver)), (qx 25, .inl (Y 1, 300, .inr (.inl o_x_above))), (qx 26, .inl (Y 1, 300, .inr (.inl o_x_below)))] H := by rw [← e1, ← e2]; exact hP
            have hD : va_D A [(qx 0, oX9 qx x_points x_lines x_tide x_isKept x_isMuch x_sum x_once x_twice x_isTermMuch x_nodes x_newMany x_isTooGreat x_come x_foundSet), (qx 4, .inl (Y 0, 40, .inl x_kind)), (qx 5, .inl (Y 0, 40, .inl x_figure)), (qx 6, .inl (Y 0, 40, .inl x_low)), (qx 7, .inl (Y 0, 40, .inl x_high)), (qx 19, .inl (Y 0, 300, .inl x_nodePoint)), (qx 20, .inl (Y 0, 300, .inl x_nodeOver)), (qx 25, .inl (Y 1, 300, .inr (.inl o_x_above))), (qx 26, .inl (Y 1, 300, .inr (.inl o_x_below)))] := by rw [← e1, ← e2]; exact hD
            exact W.lret (v := r18) hx hb hr (fun t ht hW => ⟨⟨r18, (), rfl, e0, by rw [ht]; exact hP, va_K.moved hW.alike hK, by rw [hAe]; exact hD⟩, hS.F ht⟩) hS.2.2 dX9_share_54
        · have hf := it hf c7
          refine lv_bipush (v := -2) hx hb dX9_share_36 (by decide) ?_
          obtain ⟨r19, hc, hf⟩ := bd1 hf
          refine cl_l (ws' := [(qx 0, oX9 qx x_points x_lines x_tide x_isKept x_isMuch x_sum x_once x_twice x_isTermMuch x_nodes x_newMany x_isTooGreat x_come x_foundSet), (qx 4, .inl (Y 0, 40, .inl x_kind)), (qx 5, .inl (Y 0, 40, .inl x_figure)), (qx 6, .inl (Y 0, 40, .inl x_low)), (qx 7, .inl (Y 0, 40, .inl x_high)), (qx 19, .inl (Y 0, 300, .inl x_nodePoint)), (qx 20, .inl (Y 0, 300, .inl x_nodeOver)), (qx 25, .inl (Y 1, 300, .inr (.inl x_above))), (qx 26, .inl (Y 1, 300, .inr (.inl x_below)))]) (wr := [(qx 0, oX9 qx x_points x_lines x_tide x_isKept x_isMuch x_sum x_once x_twice x_isTermMuch x_nodes x_newMany x_isTooGreat x_come x_foundSet), (qx 4, .inl (Y 0, 40, .inl x_kind)), (qx 5, .inl (Y 0, 40, .inl x_figure)), (qx 6, .inl (Y 0, 40, .inl x_low)), (qx 7, .inl (Y 0, 40, .inl x_high)), (qx 19, .inl (Y 0, 300, .inl x_nodePoint)), (qx 20, .inl (Y 0, 300, .inl x_nodeOver)), (qx 25, .inl (Y 1, 300, .inr (.inl x_above))), (qx 26, .inl (Y 1, 300, .inr (.inl x_below)))]) (rnS (As := [.int (-2 : Int32)]) (rest := []) ⟨hx, hb, hml, hown, hts⟩ (c_X9_told l G Y H.size (-2 : Int32) r19 hc) (va_cwS 1 hts gX9_share_X9_told rfl rfl rfl (by decide +kernel) ⟨(Nat.le_of_ble_eq_true rfl), (Nat.le_of_ble_eq_true rfl)⟩) trivial okT hK hP hD [] rfl rfl rfl hl.1 rfl (Nat.le_of_ble_eq_true rfl) dX9_share_38) hP hD hS hA [] [0, 1, 2, 3, 4, 5, 6, 7, 8] [0, 1, 2, 3, 4, 5, 6, 7, 8] rfl rfl rfl (by decide) rfl rfl (fun H locs hP hD hS => ?_)
          obtain ⟨e0, e1, e2⟩ := rt3 hf
          have hP : va_P G vwCl [(qx 0, oX9 qx x_points x_lines x_tide x_isKept x_isMuch x_sum x_once x_twice x_isTermMuch x_nodes x_newMany x_isTooGreat x_come x_foundSet), (qx 4, .inl (Y 0, 40, .inl x_kind)), (qx 5, .inl (Y 0, 40, .inl x_figure)), (qx 6, .inl (Y 0, 40, .inl x_low)), (qx 7, .inl (Y 0, 40, .inl x_high)), (qx 19, .inl (Y 0, 300, .inl x_nodePoint)), (qx 20, .inl (Y 0, 300, .inl x_nodeOver)), (qx 25, .inl (Y 1, 300, .inr (.inl o_x_above))), (qx 26, .inl (Y 1, 300, .inr (.inl o_x_below)))] H := by rw [← e1, ← e2]; exact hP
          have hD : va_D A [(qx 0, oX9 qx x_points x_lines x_tide x_isKept x_isMuch x_sum x_once x_twice x_isTermMuch x_nodes x_newMany x_isTooGreat x_come x_foundSet), (qx 4, .inl (Y 0, 40, .inl x_kind)), (qx 5, .inl (Y 0, 40, .inl x_figure)), (qx 6, .inl (Y 0, 40, .inl x_low)), (qx 7, .inl (Y 0, 40, .inl x_high)), (qx 19, .inl (Y 0, 300, .inl x_nodePoint)), (qx 20, .inl (Y 0, 300, .inl x_nodeOver)), (qx 25, .inl (Y 1, 300, .inr (.inl o_x_above))), (qx 26, .inl (Y 1, 300, .inr (.inl o_x_below)))] := by rw [← e1, ← e2]; exact hD
          exact W.lret (v := r19) hx hb hr (fun t ht hW => ⟨⟨r19, (), rfl, e0, by rw [ht]; exact hP, va_K.moved hW.alike hK, by rw [hAe]; exact hD⟩, hS.F ht⟩) hS.2.2 dX9_share_41
    · have hf := it hf c2
      refine lv_bipush (v := -12) hx hb dX9_share_16 (by decide) ?_
      obtain ⟨r20, hc, hf⟩ := bd1 hf
      refine cl_l (ws' := [(qx 0, oX9 qx x_points x_lines x_tide x_isKept x_isMuch x_sum x_once x_twice x_isTermMuch x_nodes x_newMany x_isTooGreat x_come x_foundSet), (qx 4, .inl (Y 0, 40, .inl x_kind)), (qx 5, .inl (Y 0, 40, .inl x_figure)), (qx 6, .inl (Y 0, 40, .inl x_low)), (qx 7, .inl (Y 0, 40, .inl x_high)), (qx 19, .inl (Y 0, 300, .inl x_nodePoint)), (qx 20, .inl (Y 0, 300, .inl x_nodeOver)), (qx 25, .inl (Y 1, 300, .inr (.inl x_above))), (qx 26, .inl (Y 1, 300, .inr (.inl x_below)))]) (wr := [(qx 0, oX9 qx x_points x_lines x_tide x_isKept x_isMuch x_sum x_once x_twice x_isTermMuch x_nodes x_newMany x_isTooGreat x_come x_foundSet), (qx 4, .inl (Y 0, 40, .inl x_kind)), (qx 5, .inl (Y 0, 40, .inl x_figure)), (qx 6, .inl (Y 0, 40, .inl x_low)), (qx 7, .inl (Y 0, 40, .inl x_high)), (qx 19, .inl (Y 0, 300, .inl x_nodePoint)), (qx 20, .inl (Y 0, 300, .inl x_nodeOver)), (qx 25, .inl (Y 1, 300, .inr (.inl x_above))), (qx 26, .inl (Y 1, 300, .inr (.inl x_below)))]) (rnS (As := [.int (-12 : Int32)]) (rest := []) ⟨hx, hb, hml, hown, hts⟩ (c_X9_told l G Y H.size (-12 : Int32) r20 hc) (va_cwS 1 hts gX9_share_X9_told rfl rfl rfl (by decide +kernel) ⟨(Nat.le_of_ble_eq_true rfl), (Nat.le_of_ble_eq_true rfl)⟩) trivial okT hK hP hD [] rfl rfl rfl hl.1 rfl (Nat.le_of_ble_eq_true rfl) dX9_share_18) hP hD hS hA [] [0, 1, 2, 3, 4, 5, 6, 7, 8] [0, 1, 2, 3, 4, 5, 6, 7, 8] rfl rfl rfl (by decide) rfl rfl (fun H locs hP hD hS => ?_)
      obtain ⟨e0, e1, e2⟩ := rt3 hf
      have hP : va_P G vwCl [(qx 0, oX9 qx x_points x_lines x_tide x_isKept x_isMuch x_sum x_once x_twice x_isTermMuch x_nodes x_newMany x_isTooGreat x_come x_foundSet), (qx 4, .inl (Y 0, 40, .inl x_kind)), (qx 5, .inl (Y 0, 40, .inl x_figure)), (qx 6, .inl (Y 0, 40, .inl x_low)), (qx 7, .inl (Y 0, 40, .inl x_high)), (qx 19, .inl (Y 0, 300, .inl x_nodePoint)), (qx 20, .inl (Y 0, 300, .inl x_nodeOver)), (qx 25, .inl (Y 1, 300, .inr (.inl o_x_above))), (qx 26, .inl (Y 1, 300, .inr (.inl o_x_below)))] H := by rw [← e1, ← e2]; exact hP
      have hD : va_D A [(qx 0, oX9 qx x_points x_lines x_tide x_isKept x_isMuch x_sum x_once x_twice x_isTermMuch x_nodes x_newMany x_isTooGreat x_come x_foundSet), (qx 4, .inl (Y 0, 40, .inl x_kind)), (qx 5, .inl (Y 0, 40, .inl x_figure)), (qx 6, .inl (Y 0, 40, .inl x_low)), (qx 7, .inl (Y 0, 40, .inl x_high)), (qx 19, .inl (Y 0, 300, .inl x_nodePoint)), (qx 20, .inl (Y 0, 300, .inl x_nodeOver)), (qx 25, .inl (Y 1, 300, .inr (.inl o_x_above))), (qx 26, .inl (Y 1, 300, .inr (.inl o_x_below)))] := by rw [← e1, ← e2]; exact hD
      exact W.lret (v := r20) hx hb hr (fun t ht hW => ⟨⟨r20, (), rfl, e0, by rw [ht]; exact hP, va_K.moved hW.alike hK, by rw [hAe]; exact hD⟩, hS.F ht⟩) hS.2.2 dX9_share_21
  exact E0 s.heap [] hP hD hS ls hl
