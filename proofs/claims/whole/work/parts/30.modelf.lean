-- X9_lists
set_option maxRecDepth 100000 in
set_option maxHeartbeats 4000000 in
theorem c_X9_lists (l : Launch) (G : va_G) (Y : Nat → ClassId) : ∀ (d : Nat) (sz : Nat) (qx : Nat → Nat) (x_points : Int32) (x_lines : Int32) (x_tide : Int32) (x_low : Nat → Int32) (x_high : Nat → Int32) (x_isKept : Int32) (x_isMuch : Int32) (x_sum : Int64) (x_once : Int64) (x_twice : Int64) (x_isTermMuch : Int32) (x_nodes : Int32) (x_newMany : Int32) (x_isTooGreat : Int32) (x_come : Int32) (x_foundSet : Int64) (p1 : Int32) (p2 : Int32) (p3 : Int32) (p4 : Int64) (p5 : Int32) (o_x_come : Int32) (o_x_foundSet : Int64) (hf : f_X9_lists d x_low x_high x_come x_foundSet p1 p2 p3 p4 p5 = some (o_x_come, o_x_foundSet)), Met l yX9_lists wsX9_lists (rmk (0 + d) (0 + 28 * d)) (va_Pc [.ref (qx 0), .int p1, .int p2, .int p3, .long p4, .int p5] (Pre G (tys Y) [(qx 0, oX9 qx x_points x_lines x_tide x_isKept x_isMuch x_sum x_once x_twice x_isTermMuch x_nodes x_newMany x_isTooGreat x_come x_foundSet), (qx 6, .inl (Y 0, 40, .inl x_low)), (qx 7, .inl (Y 0, 40, .inl x_high))] sz xT)) (va_Qv (fun (_ : Unit) => True) (Pst G (tys Y) [(qx 0, oX9 qx x_points x_lines x_tide x_isKept x_isMuch x_sum x_once x_twice x_isTermMuch x_nodes x_newMany x_isTooGreat x_come x_foundSet), (qx 6, .inl (Y 0, 40, .inl x_low)), (qx 7, .inl (Y 0, 40, .inl x_high))] sz [(qx 0, oX9 qx x_points x_lines x_tide x_isKept x_isMuch x_sum x_once x_twice x_isTermMuch x_nodes x_newMany x_isTooGreat o_x_come o_x_foundSet), (qx 6, .inl (Y 0, 40, .inl x_low)), (qx 7, .inl (Y 0, 40, .inl x_high))]) (va_A [(qx 0, oX9 qx x_points x_lines x_tide x_isKept x_isMuch x_sum x_once x_twice x_isTermMuch x_nodes x_newMany x_isTooGreat x_come x_foundSet), (qx 6, .inl (Y 0, 40, .inl x_low)), (qx 7, .inl (Y 0, 40, .inl x_high))] sz)) 0 0 (va_A [(qx 0, oX9 qx x_points x_lines x_tide x_isKept x_isMuch x_sum x_once x_twice x_isTermMuch x_nodes x_newMany x_isTooGreat x_come x_foundSet), (qx 6, .inl (Y 0, 40, .inl x_low)), (qx 7, .inl (Y 0, 40, .inl x_high))] sz) := by
  intro d
  induction d with
  | zero =>
    intro sz qx x_points x_lines x_tide x_low x_high x_isKept x_isMuch x_sum x_once x_twice x_isTermMuch x_nodes x_newMany x_isTooGreat x_come x_foundSet p1 p2 p3 p4 p5 o_x_come o_x_foundSet hf
    exact no_none hf
  | succ d ihd =>
  intro sz qx x_points x_lines x_tide x_low x_high x_isKept x_isMuch x_sum x_once x_twice x_isTermMuch x_nodes x_newMany x_isTooGreat x_come x_foundSet p1 p2 p3 p4 p5 o_x_come o_x_foundSet hf
  have hf : f_X9_lists_st (f_X9_lists d) x_low x_high x_come x_foundSet p1 p2 p3 p4 p5 = some (o_x_come, o_x_foundSet) := hf
  refine Met.ofW (cc := cX9_lists) (maxL := 9) (ret := none) (by decide) rfl ?_
  intro p e s m args below meth c s₁ B hml hv
  obtain ⟨rfl, hsz, hP, hK, hD0, hX⟩ := hv
  have hx := B.exec
  have hb := B.bytes
  have hr := B.returns
  have hts := atoms_spec (ws := wsX9_lists) B.pre
  have hown : s.vm.findClass RX9 = some m.cls := findClass_of_methodNamed B.named
  have hlocks := B.notSynchronized
  subst hsz
  have hD := hD0.self (sz := s.heap.size)
  generalize hAe : va_A [(qx 0, oX9 qx x_points x_lines x_tide x_isKept x_isMuch x_sum x_once x_twice x_isTermMuch x_nodes x_newMany x_isTooGreat x_come x_foundSet), (qx 6, .inl (Y 0, 40, .inl x_low)), (qx 7, .inl (Y 0, 40, .inl x_high))] s.heap.size = A at hD ⊢
  have hA : ∀ q : Nat, s.heap.size ≤ q → A q := fun q h => by rw [← hAe]; exact Or.inr h
  have hS : va_S A s.heap s.heap [] := va_S.rf
  have hP : va_P G vwCl [(qx 0, oX9 qx x_points x_lines x_tide x_isKept x_isMuch x_sum x_once x_twice x_isTermMuch x_nodes x_newMany x_isTooGreat x_come x_foundSet), (qx 6, .inl (Y 0, 40, .inl x_low)), (qx 7, .inl (Y 0, 40, .inl x_high))] s.heap := hP
  have wd1 : (Cond.fieldLink RX9 289 "PairedLinesModel" "come" "I").before [.ref (qx 0), .int p1, .int p2, .int p3, .long p4, .int p5].toArray s = true := hts _ (List.mem_of_getElem? (i := 1) rfl)
  have wd2 : (Cond.fieldLink RX9 292 "PairedLinesModel" "foundSet" "J").before [.ref (qx 0), .int p1, .int p2, .int p3, .long p4, .int p5].toArray s = true := hts _ (List.mem_of_getElem? (i := 2) rfl)
  have wd3 : (Cond.fieldLink RX9 16 "PairedLinesModel" "low" "[I").before [.ref (qx 0), .int p1, .int p2, .int p3, .long p4, .int p5].toArray s = true := hts _ (List.mem_of_getElem? (i := 3) rfl)
  have wd4 : (Cond.fieldLink RX9 19 "PairedLinesModel" "high" "[I").before [.ref (qx 0), .int p1, .int p2, .int p3, .long p4, .int p5].toArray s = true := hts _ (List.mem_of_getElem? (i := 4) rfl)
  have inX9w : ∀ w ∈ u_ws RX9 TX9 37, w ∈ wsX9_lists := fun w hw => List.mem_cons_of_mem _ (List.mem_append_right _ (hw))
  have hl := lv_entry ([.ref (qx 0), .int p1, .int p2, .int p3, .long p4, .int p5]) (n := 9) (Nat.le_of_ble_eq_true rfl)
  rw [lg_entry_eq]
  generalize (lg_sl ([.ref (qx 0), .int p1, .int p2, .int p3, .long p4, .int p5]) ++ List.replicate (9 - (lg_sl ([.ref (qx 0), .int p1, .int p2, .int p3, .long p4, .int p5])).length) Slot.unset).toArray = ls at hl ⊢
  have hl : lv_has ls 9 [(0, .ref (qx 0)), (1, .int p1), (2, .int p2), (3, .int p3), (4, .long p4), (6, .int p5)] := hl
  have B42 : ∀ (n42 : Nat), ∀ (b_x_come : Int32) (b_x_foundSet : Int64) (x7 : Int32), f_X9_lists_b42 (f_X9_lists d) x_low x_high p1 p2 p3 p4 p5 n42 b_x_come b_x_foundSet x7 = some (o_x_come, o_x_foundSet) → ∀ (H : Heap) (locs : List Loc), va_P G vwCl [(qx 0, oX9 qx x_points x_lines x_tide x_isKept x_isMuch x_sum x_once x_twice x_isTermMuch x_nodes x_newMany x_isTooGreat b_x_come b_x_foundSet), (qx 6, .inl (Y 0, 40, .inl x_low)), (qx 7, .inl (Y 0, 40, .inl x_high))] H → va_D A [(qx 0, oX9 qx x_points x_lines x_tide x_isKept x_isMuch x_sum x_once x_twice x_isTermMuch x_nodes x_newMany x_isTooGreat b_x_come b_x_foundSet), (qx 6, .inl (Y 0, 40, .inl x_low)), (qx 7, .inl (Y 0, 40, .inl x_high))] → va_S A s.heap H locs → ∀ (ls : Array Slot), lv_has ls 9 [(0, .ref (qx 0)), (1, .int p1), (2, .int p2), (3, .int p3), (4, .long p4), (6, .int p5), (7, .int x7)] → W p l e (headSpec wsX9_lists (rmk (0 + (d + 1)) (0 + 28 * (d + 1)))).room s m [.ref (qx 0), .int p1, .int p2, .int p3, .long p4, .int p5].toArray below meth c H locs 0 0 (MQ below (va_Qv (fun (_ : Unit) => True) (Pst G (tys Y) [(qx 0, oX9 qx x_points x_lines x_tide x_isKept x_isMuch x_sum x_once x_twice x_isTermMuch x_nodes x_newMany x_isTooGreat x_come x_foundSet), (qx 6, .inl (Y 0, 40, .inl x_low)), (qx 7, .inl (Y 0, 40, .inl x_high))] s.heap.size [(qx 0, oX9 qx x_points x_lines x_tide x_isKept x_isMuch x_sum x_once x_twice x_isTermMuch x_nodes x_newMany x_isTooGreat o_x_come o_x_foundSet), (qx 6, .inl (Y 0, 40, .inl x_low)), (qx 7, .inl (Y 0, 40, .inl x_high))]) A) [.ref (qx 0), .int p1, .int p2, .int p3, .long p4, .int p5].toArray s 0 0 A) (F0 m 42 ls []) := by
    intro n42
    induction n42 with
    | zero =>
      intro b_x_come b_x_foundSet x7 hf H locs hP hD hS ls hl
      exact no_none hf
    | succ n42 ih42 =>
      intro b_x_come b_x_foundSet x7 hf H locs hP hD hS ls hl
      have hf : f_X9_lists_s42 (f_X9_lists d) x_low x_high p1 p2 p3 p4 p5 (f_X9_lists_b42 (f_X9_lists d) x_low x_high p1 p2 p3 p4 p5  n42) b_x_come b_x_foundSet x7 = some (o_x_come, o_x_foundSet) := hf
      unfold f_X9_lists_s42 at hf
      refine lv_iload hx hb dX9_lists_42 (lv_at hl 6 rfl) ?_
      refine lv_iload_n hx hb dX9_lists_44 rfl (lv_at hl 2 rfl) ?_
      refine lv_icmp_ge (tgt := 104) hx hb dX9_lists_45 (by decide) (fun c1 => ?_) (fun c1 => ?_)
      · have hf := it hf c1
        obtain ⟨e0, e1⟩ := rt2 hf
        have hP : va_P G vwCl [(qx 0, oX9 qx x_points x_lines x_tide x_isKept x_isMuch x_sum x_once x_twice x_isTermMuch x_nodes x_newMany x_isTooGreat o_x_come o_x_foundSet), (qx 6, .inl (Y 0, 40, .inl x_low)), (qx 7, .inl (Y 0, 40, .inl x_high))] H := by rw [← e0, ← e1]; exact hP
        have hD : va_D A [(qx 0, oX9 qx x_points x_lines x_tide x_isKept x_isMuch x_sum x_once x_twice x_isTermMuch x_nodes x_newMany x_isTooGreat o_x_come o_x_foundSet), (qx 6, .inl (Y 0, 40, .inl x_low)), (qx 7, .inl (Y 0, 40, .inl x_high))] := by rw [← e0, ← e1]; exact hD
        exact W.vret hx hb hr (fun t ht hW => ⟨⟨(), rfl, trivial, by rw [ht]; exact hP, va_K.moved hW.alike hK, by rw [hAe]; exact hD⟩, hS.F ht⟩) hS.2.2 dX9_lists_104
      · have hf := ie hf c1
        refine lv_iconst (v := 1) hx hb dX9_lists_48 (by decide) ?_
        refine lv_aload_n hx hb dX9_lists_49 rfl (lv_at hl 0 rfl) ?_
        refine va_get (D := G) (ci := 7) (v := .ref (qx 6)) (C := RX9) (T := TX9) (N := 37) hx hb hts inX9w hown hK hP 0 rfl rfl 5 (by decide) wd3 (fun _ h9 => h9) rfl dX9_lists_50 ?_
        refine lv_iload hx hb dX9_lists_53 (lv_at hl 6 rfl) ?_
        obtain ⟨g2, hf⟩ := gd hf
        refine va_iald hx hb hK hP 1 0 rfl rfl g2 dX9_lists_55 ?_
        refine lv_ishl hx hb dX9_lists_56 ?_
        refine lv_iconst (v := 1) hx hb dX9_lists_57 (by decide) ?_
        refine lv_aload_n hx hb dX9_lists_58 rfl (lv_at hl 0 rfl) ?_
        refine va_get (D := G) (ci := 7) (v := .ref (qx 7)) (C := RX9) (T := TX9) (N := 37) hx hb hts inX9w hown hK hP 0 rfl rfl 6 (by decide) wd4 (fun _ h9 => h9) rfl dX9_lists_59 ?_
        refine lv_iload hx hb dX9_lists_62 (lv_at hl 6 rfl) ?_
        obtain ⟨g3, hf⟩ := gd hf
        refine va_iald hx hb hK hP 2 0 rfl rfl g3 dX9_lists_64 ?_
        refine lv_ishl hx hb dX9_lists_65 ?_
        refine lv_ior hx hb dX9_lists_66 ?_
        refine lv_topi (fun v4 e_v4 => ?_)
        have hf := nm_at hf e_v4
        refine lv_istore (lv' := [(8, .int v4), (0, .ref (qx 0)), (1, .int p1), (2, .int p2), (3, .int p3), (4, .long p4), (6, .int p5), (7, .int x7)]) hx hb dX9_lists_67 hl (by decide) rfl (fun ls hl => ?_)
        refine lv_iload_n hx hb dX9_lists_69 rfl (lv_at hl 4 rfl) ?_
        refine lv_iload hx hb dX9_lists_70 (lv_at hl 0 rfl) ?_
        refine lv_iand hx hb dX9_lists_72 ?_
        refine lv_if_ne (tgt := 98) hx hb dX9_lists_73 (by decide) (fun c5 => ?_) (fun c5 => ?_)
        · have hf := ie hf c5
          obtain ⟨v6, e_v6⟩ : ∃ z : Int32, z = (x7 + 1) := ⟨_, rfl⟩
          have hf := nm_at hf e_v6
          refine lv_iinc (v := v6) (lv' := [(7, .int v6), (8, .int v4), (0, .ref (qx 0)), (1, .int p1), (2, .int p2), (3, .int p3), (4, .long p4), (6, .int p5)]) hx hb dX9_lists_98 hl (k := 7) rfl (by rw [e_v6]; rfl) (by decide) rfl (fun ls hl => ?_)
          refine lv_goto (tgt := 42) hx hb dX9_lists_101 (by decide) ?_
          exact ih42 b_x_come b_x_foundSet v6 hf _ _ hP hD hS ls (lv_sub hl [2, 3, 4, 5, 6, 7, 0] rfl)
        · have hf := it hf c5
          refine lv_aload_n hx hb dX9_lists_76 rfl (lv_at hl 1 rfl) ?_
          refine lv_iload_n hx hb dX9_lists_77 rfl (lv_at hl 2 rfl) ?_
          refine lv_iconst (v := 1) hx hb dX9_lists_78 (by decide) ?_
          refine lv_isub hx hb dX9_lists_79 ?_
          refine lv_iload hx hb dX9_lists_80 (lv_at hl 7 rfl) ?_
          refine lv_iload_n hx hb dX9_lists_82 rfl (lv_at hl 4 rfl) ?_
          refine lv_iload hx hb dX9_lists_83 (lv_at hl 0 rfl) ?_
          refine lv_ior hx hb dX9_lists_85 ?_
          refine lv_lload hx hb dX9_lists_86 (lv_at hl 5 rfl) ?_
          refine lv_lconst (v := 1) hx hb dX9_lists_88 (by decide) ?_
          refine lv_iload hx hb dX9_lists_89 (lv_at hl 7 rfl) ?_
          refine lv_lshl hx hb dX9_lists_91 rfl ?_
          refine lv_lor hx hb dX9_lists_92 ?_
          refine lv_iload hx hb dX9_lists_93 (lv_at hl 6 rfl) ?_
          obtain ⟨w7, w8, hc, hf⟩ := bd2 hf
          refine cl_v (ws' := [(qx 0, oX9 qx x_points x_lines x_tide x_isKept x_isMuch x_sum x_once x_twice x_isTermMuch x_nodes x_newMany x_isTooGreat w7 w8), (qx 6, .inl (Y 0, 40, .inl x_low)), (qx 7, .inl (Y 0, 40, .inl x_high))]) (wr := []) (rnV (As := [.int (p1 - (1 : Int32)), .int x7, .int (p3 ||| v4), .long (p4 ||| ((1 : Int64) <<< (x7.toInt64 &&& 63))), .int p5]) (rest := []) ⟨hx, hb, hml, hown, hts⟩ (ihd H.size qx x_points x_lines x_tide x_low x_high x_isKept x_isMuch x_sum x_once x_twice x_isTermMuch x_nodes x_newMany x_isTooGreat b_x_come b_x_foundSet (p1 - (1 : Int32)) x7 (p3 ||| v4) (p4 ||| ((1 : Int64) <<< (x7.toInt64 &&& 63))) p5 w7 w8 hc) (cwV 5 hts gX9_lists_X9_lists rfl rfl rfl (by decide +kernel) ⟨by show _ + _ + 1 ≤ _ + (_ + 1); omega, by show 8 + (_ + 11) + (_ + _ * _) ≤ _ + _ * (_ + 1); omega⟩) trivial okT hK hP hD [0, 1, 2] rfl rfl (ci := 7) (q0 := 0) rfl rfl rfl rfl hl.1 rfl (Nat.le_of_ble_eq_true rfl) dX9_lists_95) hP hD hS hA [0, 1, 2] [] [0, 1, 2] rfl rfl rfl (by decide) rfl rfl (fun H locs hP hD hS => ?_)
          obtain ⟨v9, e_v9⟩ : ∃ z : Int32, z = (x7 + 1) := ⟨_, rfl⟩
          have hf := nm_at hf e_v9
          refine lv_iinc (v := v9) (lv' := [(7, .int v9), (8, .int v4), (0, .ref (qx 0)), (1, .int p1), (2, .int p2), (3, .int p3), (4, .long p4), (6, .int p5)]) hx hb dX9_lists_98 hl (k := 7) rfl (by rw [e_v9]; rfl) (by decide) rfl (fun ls hl => ?_)
          refine lv_goto (tgt := 42) hx hb dX9_lists_101 (by decide) ?_
          exact ih42 w7 w8 v9 hf _ _ hP hD hS ls (lv_sub hl [2, 3, 4, 5, 6, 7, 0] rfl)
  have B23 : ∀ (b_x_come : Int32) (b_x_foundSet : Int64) (y0 : Int64), f_X9_lists_b23 (f_X9_lists d) x_low x_high p1 p2 p3 p4 p5 b_x_come b_x_foundSet y0 = some (o_x_come, o_x_foundSet) → ∀ (H : Heap) (locs : List Loc), va_P G vwCl [(qx 0, oX9 qx x_points x_lines x_tide x_isKept x_isMuch x_sum x_once x_twice x_isTermMuch x_nodes x_newMany x_isTooGreat b_x_come b_x_foundSet), (qx 6, .inl (Y 0, 40, .inl x_low)), (qx 7, .inl (Y 0, 40, .inl x_high))] H → va_D A [(qx 0, oX9 qx x_points x_lines x_tide x_isKept x_isMuch x_sum x_once x_twice x_isTermMuch x_nodes x_newMany x_isTooGreat b_x_come b_x_foundSet), (qx 6, .inl (Y 0, 40, .inl x_low)), (qx 7, .inl (Y 0, 40, .inl x_high))] → va_S A s.heap H locs → ∀ (ls : Array Slot), lv_has ls 9 [(0, .ref (qx 0))] → W p l e (headSpec wsX9_lists (rmk (0 + (d + 1)) (0 + 28 * (d + 1)))).room s m [.ref (qx 0), .int p1, .int p2, .int p3, .long p4, .int p5].toArray below meth c H locs 0 0 (MQ below (va_Qv (fun (_ : Unit) => True) (Pst G (tys Y) [(qx 0, oX9 qx x_points x_lines x_tide x_isKept x_isMuch x_sum x_once x_twice x_isTermMuch x_nodes x_newMany x_isTooGreat x_come x_foundSet), (qx 6, .inl (Y 0, 40, .inl x_low)), (qx 7, .inl (Y 0, 40, .inl x_high))] s.heap.size [(qx 0, oX9 qx x_points x_lines x_tide x_isKept x_isMuch x_sum x_once x_twice x_isTermMuch x_nodes x_newMany x_isTooGreat o_x_come o_x_foundSet), (qx 6, .inl (Y 0, 40, .inl x_low)), (qx 7, .inl (Y 0, 40, .inl x_high))]) A) [.ref (qx 0), .int p1, .int p2, .int p3, .long p4, .int p5].toArray s 0 0 A) (F0 m 23 ls [.long y0, .ref (qx 0)]) := by
    intro b_x_come b_x_foundSet y0 hf H locs hP hD hS ls hl
    unfold f_X9_lists_b23 at hf
    refine va_put (D := G) (ci := 7) (v := .long y0) (ty := .long) (C := RX9) (T := TX9) (N := 37) hx hb hts inX9w tyX9 tyX9_ok nmX9 hown hK hP hD hS 0 rfl rfl 28 (by decide) wd2 (fun _ h9 => h9) rfl (by decide +kernel) rfl rfl (Nat.le_of_ble_eq_true rfl) dX9_lists_23 (fun H locs hP hD hS => ?_)
    have hP : va_P G vwCl [(qx 0, oX9 qx x_points x_lines x_tide x_isKept x_isMuch x_sum x_once x_twice x_isTermMuch x_nodes x_newMany x_isTooGreat b_x_come y0), (qx 6, .inl (Y 0, 40, .inl x_low)), (qx 7, .inl (Y 0, 40, .inl x_high))] H := hP
    have hD : va_D A [(qx 0, oX9 qx x_points x_lines x_tide x_isKept x_isMuch x_sum x_once x_twice x_isTermMuch x_nodes x_newMany x_isTooGreat b_x_come y0), (qx 6, .inl (Y 0, 40, .inl x_low)), (qx 7, .inl (Y 0, 40, .inl x_high))] := hD
    refine lv_aload_n hx hb dX9_lists_26 rfl (lv_at hl 0 rfl) ?_
    refine lv_dup hx hb dX9_lists_27 rfl ?_
    refine va_get (D := G) (ci := 7) (v := .int b_x_come) (C := RX9) (T := TX9) (N := 37) hx hb hts inX9w hown hK hP 0 rfl rfl 27 (by decide) wd1 (fun _ h9 => h9) rfl dX9_lists_28 ?_
    refine lv_iconst (v := 1) hx hb dX9_lists_31 (by decide) ?_
    refine lv_iadd hx hb dX9_lists_32 ?_
    refine lv_topi (fun v10 e_v10 => ?_)
    have hf := nm_at hf e_v10
    refine va_put (D := G) (ci := 7) (v := .int v10) (ty := .int) (C := RX9) (T := TX9) (N := 37) hx hb hts inX9w tyX9 tyX9_ok nmX9 hown hK hP hD hS 0 rfl rfl 27 (by decide) wd1 (fun _ h9 => h9) rfl (by decide +kernel) rfl rfl (Nat.le_of_ble_eq_true rfl) dX9_lists_33 (fun H locs hP hD hS => ?_)
    have hP : va_P G vwCl [(qx 0, oX9 qx x_points x_lines x_tide x_isKept x_isMuch x_sum x_once x_twice x_isTermMuch x_nodes x_newMany x_isTooGreat v10 y0), (qx 6, .inl (Y 0, 40, .inl x_low)), (qx 7, .inl (Y 0, 40, .inl x_high))] H := hP
    have hD : va_D A [(qx 0, oX9 qx x_points x_lines x_tide x_isKept x_isMuch x_sum x_once x_twice x_isTermMuch x_nodes x_newMany x_isTooGreat v10 y0), (qx 6, .inl (Y 0, 40, .inl x_low)), (qx 7, .inl (Y 0, 40, .inl x_high))] := hD
    obtain ⟨e0, e1⟩ := rt2 hf
    have hP : va_P G vwCl [(qx 0, oX9 qx x_points x_lines x_tide x_isKept x_isMuch x_sum x_once x_twice x_isTermMuch x_nodes x_newMany x_isTooGreat o_x_come o_x_foundSet), (qx 6, .inl (Y 0, 40, .inl x_low)), (qx 7, .inl (Y 0, 40, .inl x_high))] H := by rw [← e0, ← e1]; exact hP
    have hD : va_D A [(qx 0, oX9 qx x_points x_lines x_tide x_isKept x_isMuch x_sum x_once x_twice x_isTermMuch x_nodes x_newMany x_isTooGreat o_x_come o_x_foundSet), (qx 6, .inl (Y 0, 40, .inl x_low)), (qx 7, .inl (Y 0, 40, .inl x_high))] := by rw [← e0, ← e1]; exact hD
    exact W.vret hx hb hr (fun t ht hW => ⟨⟨(), rfl, trivial, by rw [ht]; exact hP, va_K.moved hW.alike hK, by rw [hAe]; exact hD⟩, hS.F ht⟩) hS.2.2 dX9_lists_36
  have E0 : ∀ (H : Heap) (locs : List Loc), va_P G vwCl [(qx 0, oX9 qx x_points x_lines x_tide x_isKept x_isMuch x_sum x_once x_twice x_isTermMuch x_nodes x_newMany x_isTooGreat x_come x_foundSet), (qx 6, .inl (Y 0, 40, .inl x_low)), (qx 7, .inl (Y 0, 40, .inl x_high))] H → va_D A [(qx 0, oX9 qx x_points x_lines x_tide x_isKept x_isMuch x_sum x_once x_twice x_isTermMuch x_nodes x_newMany x_isTooGreat x_come x_foundSet), (qx 6, .inl (Y 0, 40, .inl x_low)), (qx 7, .inl (Y 0, 40, .inl x_high))] → va_S A s.heap H locs → ∀ (ls : Array Slot), lv_has ls 9 [(0, .ref (qx 0)), (1, .int p1), (2, .int p2), (3, .int p3), (4, .long p4), (6, .int p5)] → W p l e (headSpec wsX9_lists (rmk (0 + (d + 1)) (0 + 28 * (d + 1)))).room s m [.ref (qx 0), .int p1, .int p2, .int p3, .long p4, .int p5].toArray below meth c H locs 0 0 (MQ below (va_Qv (fun (_ : Unit) => True) (Pst G (tys Y) [(qx 0, oX9 qx x_points x_lines x_tide x_isKept x_isMuch x_sum x_once x_twice x_isTermMuch x_nodes x_newMany x_isTooGreat x_come x_foundSet), (qx 6, .inl (Y 0, 40, .inl x_low)), (qx 7, .inl (Y 0, 40, .inl x_high))] s.heap.size [(qx 0, oX9 qx x_points x_lines x_tide x_isKept x_isMuch x_sum x_once x_twice x_isTermMuch x_nodes x_newMany x_isTooGreat o_x_come o_x_foundSet), (qx 6, .inl (Y 0, 40, .inl x_low)), (qx 7, .inl (Y 0, 40, .inl x_high))]) A) [.ref (qx 0), .int p1, .int p2, .int p3, .long p4, .int p5].toArray s 0 0 A) (F0 m 0 ls []) := by
    intro H locs hP hD hS ls hl
    unfold f_X9_lists_st at hf
    refine lv_iload_n hx hb dX9_lists_0 rfl (lv_at hl 1 rfl) ?_
    refine lv_if_ne (tgt := 37) hx hb dX9_lists_1 (by decide) (fun c11 => ?_) (fun c11 => ?_)
    · have hf := ie hf c11
      refine lv_iload_n hx hb dX9_lists_37 rfl (lv_at hl 1 rfl) ?_
      refine lv_iconst (v := 1) hx hb dX9_lists_38 (by decide) ?_
      refine lv_isub hx hb dX9_lists_39 ?_
      refine lv_topi (fun v12 e_v12 => ?_)
      have hf := nm_at hf e_v12
      refine lv_istore (lv' := [(7, .int v12), (0, .ref (qx 0)), (1, .int p1), (2, .int p2), (3, .int p3), (4, .long p4), (6, .int p5)]) hx hb dX9_lists_40 hl (by decide) rfl (fun ls hl => ?_)
      exact B42 70 x_come x_foundSet v12 hf _ _ hP hD hS ls (lv_sub hl [1, 2, 3, 4, 5, 6, 0] rfl)
    · have hf := it hf c11
      refine lv_aload_n hx hb dX9_lists_4 rfl (lv_at hl 0 rfl) ?_
      refine lv_aload_n hx hb dX9_lists_5 rfl (lv_at hl 0 rfl) ?_
      refine va_get (D := G) (ci := 7) (v := .int x_come) (C := RX9) (T := TX9) (N := 37) hx hb hts inX9w hown hK hP 0 rfl rfl 27 (by decide) wd1 (fun _ h9 => h9) rfl dX9_lists_6 ?_
      refine lv_iload hx hb dX9_lists_9 (lv_at hl 5 rfl) ?_
      refine lv_icmp_ne (tgt := 19) hx hb dX9_lists_11 (by decide) (fun c13 => ?_) (fun c13 => ?_)
      · have hf := ie hf c13
        refine lv_aload_n hx hb dX9_lists_19 rfl (lv_at hl 0 rfl) ?_
        refine va_get (D := G) (ci := 7) (v := .long x_foundSet) (C := RX9) (T := TX9) (N := 37) hx hb hts inX9w hown hK hP 0 rfl rfl 28 (by decide) wd2 (fun _ h9 => h9) rfl dX9_lists_20 ?_
        exact B23 x_come x_foundSet x_foundSet hf _ _ hP hD hS ls (lv_sub hl [0] rfl)
      · have hf := it hf c13
        refine lv_lload hx hb dX9_lists_14 (lv_at hl 4 rfl) ?_
        refine lv_goto (tgt := 23) hx hb dX9_lists_16 (by decide) ?_
        exact B23 x_come x_foundSet p4 hf _ _ hP hD hS ls (lv_sub hl [0] rfl)
  exact E0 s.heap [] hP hD hS ls hl
-- X9_listed
set_option maxRecDepth 100000 in
set_option maxHeartbeats 4000000 in
theorem c_X9_listed (l : Launch) (G : va_G) (Y : Nat → ClassId) (sz : Nat) (qx : Nat → Nat) (x_points : Int32) (x_lines : Int32) (x_tide : Int32) (x_low : Nat → Int32) (x_high : Nat → Int32) (x_isKept : Int32) (x_isMuch : Int32) (x_sum : Int64) (x_once : Int64) (x_twice : Int64) (x_isTermMuch : Int32) (x_nodes : Int32) (x_newMany : Int32) (x_isTooGreat : Int32) (x_come : Int32) (x_foundSet : Int64) (p1 : Int32) (p2 : Int32) (rv : Int64) (o_x_come : Int32) (o_x_foundSet : Int64) (hf : f_X9_listed x_lines x_low x_high x_come x_foundSet p1 p2 = some (rv, o_x_come, o_x_foundSet)) : Met l yX9_listed wsX9_listed (rmk 17 476) (va_Pc [.ref (qx 0), .int p1, .int p2] (Pre G (tys Y) [(qx 0, oX9 qx x_points x_lines x_tide x_isKept x_isMuch x_sum x_once x_twice x_isTermMuch x_nodes x_newMany x_isTooGreat x_come x_foundSet), (qx 6, .inl (Y 0, 40, .inl x_low)), (qx 7, .inl (Y 0, 40, .inl x_high))] sz xT)) (va_Ql (fun (r : Int64) (_ : Unit) => r = rv) (Pst G (tys Y) [(qx 0, oX9 qx x_points x_lines x_tide x_isKept x_isMuch x_sum x_once x_twice x_isTermMuch x_nodes x_newMany x_isTooGreat x_come x_foundSet), (qx 6, .inl (Y 0, 40, .inl x_low)), (qx 7, .inl (Y 0, 40, .inl x_high))] sz [(qx 0, oX9 qx x_points x_lines x_tide x_isKept x_isMuch x_sum x_once x_twice x_isTermMuch x_nodes x_newMany x_isTooGreat o_x_come o_x_foundSet), (qx 6, .inl (Y 0, 40, .inl x_low)), (qx 7, .inl (Y 0, 40, .inl x_high))]) (va_A [(qx 0, oX9 qx x_points x_lines x_tide x_isKept x_isMuch x_sum x_once x_twice x_isTermMuch x_nodes x_newMany x_isTooGreat x_come x_foundSet), (qx 6, .inl (Y 0, 40, .inl x_low)), (qx 7, .inl (Y 0, 40, .inl x_high))] sz)) 0 0 (va_A [(qx 0, oX9 qx x_points x_lines x_tide x_isKept x_isMuch x_sum x_once x_twice x_isTermMuch x_nodes x_newMany x_isTooGreat x_come x_foundSet), (qx 6, .inl (Y 0, 40, .inl x_low)), (qx 7, .inl (Y 0, 40, .inl x_high))] sz) := by
  refine Met.ofW (cc := cX9_listed) (maxL := 3) (ret := (some .long)) (by decide) rfl ?_
  intro p e s m args below meth c s₁ B hml hv
  obtain ⟨rfl, hsz, hP, hK, hD0, hX⟩ := hv
  have hx := B.exec
  have hb := B.bytes
  have hr := B.returns
  have hts := atoms_spec (ws := wsX9_listed) B.pre
  have hown : s.vm.findClass RX9 = some m.cls := findClass_of_methodNamed B.named
  have hlocks := B.notSynchronized
  subst hsz
  have hD := hD0.self (sz := s.heap.size)
  generalize hAe : va_A [(qx 0, oX9 qx x_points x_lines x_tide x_isKept x_isMuch x_sum x_once x_twice x_isTermMuch x_nodes x_newMany x_isTooGreat x_come x_foundSet), (qx 6, .inl (Y 0, 40, .inl x_low)), (qx 7, .inl (Y 0, 40, .inl x_high))] s.heap.size = A at hD ⊢
  have hA : ∀ q : Nat, s.heap.size ≤ q → A q := fun q h => by rw [← hAe]; exact Or.inr h
  have hS : va_S A s.heap s.heap [] := va_S.rf
  have hP : va_P G vwCl [(qx 0, oX9 qx x_points x_lines x_tide x_isKept x_isMuch x_sum x_once x_twice x_isTermMuch x_nodes x_newMany x_isTooGreat x_come x_foundSet), (qx 6, .inl (Y 0, 40, .inl x_low)), (qx 7, .inl (Y 0, 40, .inl x_high))] s.heap := hP
  have wd1 : (Cond.constantLong RX9 172 (6)).before [.ref (qx 0), .int p1, .int p2].toArray s = true := hts _ (List.mem_of_getElem? (i := 1) rfl)
  have wd2 : (Cond.fieldLink RX9 289 "PairedLinesModel" "come" "I").before [.ref (qx 0), .int p1, .int p2].toArray s = true := hts _ (List.mem_of_getElem? (i := 2) rfl)
  have wd3 : (Cond.constantLong RX9 84 (-1)).before [.ref (qx 0), .int p1, .int p2].toArray s = true := hts _ (List.mem_of_getElem? (i := 3) rfl)
  have wd4 : (Cond.fieldLink RX9 292 "PairedLinesModel" "foundSet" "J").before [.ref (qx 0), .int p1, .int p2].toArray s = true := hts _ (List.mem_of_getElem? (i := 4) rfl)
  have wd5 : (Cond.fieldLink RX9 100 "PairedLinesModel" "lines" "I").before [.ref (qx 0), .int p1, .int p2].toArray s = true := hts _ (List.mem_of_getElem? (i := 5) rfl)
  have inX9w : ∀ w ∈ u_ws RX9 TX9 37, w ∈ wsX9_listed := fun w hw => List.mem_cons_of_mem _ (List.mem_append_right _ (hw))
  have hl := lv_entry ([.ref (qx 0), .int p1, .int p2]) (n := 3) (Nat.le_of_ble_eq_true rfl)
  rw [lg_entry_eq]
  generalize (lg_sl ([.ref (qx 0), .int p1, .int p2]) ++ List.replicate (3 - (lg_sl ([.ref (qx 0), .int p1, .int p2])).length) Slot.unset).toArray = ls at hl ⊢
  have hl : lv_has ls 3 [(0, .ref (qx 0)), (1, .int p1), (2, .int p2)] := hl
  have E0 : ∀ (H : Heap) (locs : List Loc), va_P G vwCl [(qx 0, oX9 qx x_points x_lines x_tide x_isKept x_isMuch x_sum x_once x_twice x_isTermMuch x_nodes x_newMany x_isTooGreat x_come x_foundSet), (qx 6, .inl (Y 0, 40, .inl x_low)), (qx 7, .inl (Y 0, 40, .inl x_high))] H → va_D A [(qx 0, oX9 qx x_points x_lines x_tide x_isKept x_isMuch x_sum x_once x_twice x_isTermMuch x_nodes x_newMany x_isTooGreat x_come x_foundSet), (qx 6, .inl (Y 0, 40, .inl x_low)), (qx 7, .inl (Y 0, 40, .inl x_high))] → va_S A s.heap H locs → ∀ (ls : Array Slot), lv_has ls 3 [(0, .ref (qx 0)), (1, .int p1), (2, .int p2)] → W p l e (headSpec wsX9_listed (rmk 17 476)).room s m [.ref (qx 0), .int p1, .int p2].toArray below meth c H locs 0 0 (MQ below (va_Ql (fun (r : Int64) (_ : Unit) => r = rv) (Pst G (tys Y) [(qx 0, oX9 qx x_points x_lines x_tide x_isKept x_isMuch x_sum x_once x_twice x_isTermMuch x_nodes x_newMany x_isTooGreat x_come x_foundSet), (qx 6, .inl (Y 0, 40, .inl x_low)), (qx 7, .inl (Y 0, 40, .inl x_high))] s.heap.size [(qx 0, oX9 qx x_points x_lines x_tide x_isKept x_isMuch x_sum x_once x_twice x_isTermMuch x_nodes x_newMany x_isTooGreat o_x_come o_x_foundSet), (qx 6, .inl (Y 0, 40, .inl x_low)), (qx 7, .inl (Y 0, 40, .inl x_high))]) A) [.ref (qx 0), .int p1, .int p2].toArray s 0 0 A) (F0 m 0 ls []) := by
    intro H locs hP hD hS ls hl
    unfold f_X9_listed at hf
    refine lv_iload_n hx hb dX9_listed_0 rfl (lv_at hl 1 rfl) ?_
    refine lv_i2l hx hb dX9_listed_1 rfl ?_
    refine lv_lconst (v := 0) hx hb dX9_listed_2 (by decide) ?_
    refine lv_ldc2 hx hb hown wd1 dX9_listed_3 ?_
    obtain ⟨r1, hc, hf⟩ := bd1 hf
    refine cl_i (ws' := [(qx 0, oX9 qx x_points x_lines x_tide x_isKept x_isMuch x_sum x_once x_twice x_isTermMuch x_nodes x_newMany x_isTooGreat x_come x_foundSet), (qx 6, .inl (Y 0, 40, .inl x_low)), (qx 7, .inl (Y 0, 40, .inl x_high))]) (wr := [(qx 0, oX9 qx x_points x_lines x_tide x_isKept x_isMuch x_sum x_once x_twice x_isTermMuch x_nodes x_newMany x_isTooGreat x_come x_foundSet), (qx 6, .inl (Y 0, 40, .inl x_low)), (qx 7, .inl (Y 0, 40, .inl x_high))]) (rnS (As := [.long p1.toInt64, .long (0 : Int64), .long (6 : Int64)]) (rest := []) ⟨hx, hb, hml, hown, hts⟩ (c_X9_in l G Y H.size p1.toInt64 (0 : Int64) (6 : Int64) r1 hc) (va_cwS 3 hts gX9_listed_X9_in rfl rfl rfl (by decide +kernel) ⟨(Nat.le_of_ble_eq_true rfl), (Nat.le_of_ble_eq_true rfl)⟩) trivial okT hK hP hD [] rfl rfl rfl hl.1 rfl (Nat.le_of_ble_eq_true rfl) dX9_listed_6) hP hD hS hA [] [0, 1, 2] [0, 1, 2] rfl rfl rfl (by decide) rfl rfl (fun H locs hP hD hS => ?_)
    refine lv_if_ne (tgt := 18) hx hb dX9_listed_9 (by decide) (fun c2 => ?_) (fun c2 => ?_)
    · have hf := ie hf c2
      refine lv_aload_n hx hb dX9_listed_18 rfl (lv_at hl 0 rfl) ?_
      refine lv_iconst (v := 0) hx hb dX9_listed_19 (by decide) ?_
      refine va_put (D := G) (ci := 7) (v := .int (0 : Int32)) (ty := .int) (C := RX9) (T := TX9) (N := 37) hx hb hts inX9w tyX9 tyX9_ok nmX9 hown hK hP hD hS 0 rfl rfl 27 (by decide) wd2 (fun _ h9 => h9) rfl (by decide +kernel) rfl rfl (Nat.le_of_ble_eq_true rfl) dX9_listed_20 (fun H locs hP hD hS => ?_)
      have hP : va_P G vwCl [(qx 0, oX9 qx x_points x_lines x_tide x_isKept x_isMuch x_sum x_once x_twice x_isTermMuch x_nodes x_newMany x_isTooGreat (0 : Int32) x_foundSet), (qx 6, .inl (Y 0, 40, .inl x_low)), (qx 7, .inl (Y 0, 40, .inl x_high))] H := hP
      have hD : va_D A [(qx 0, oX9 qx x_points x_lines x_tide x_isKept x_isMuch x_sum x_once x_twice x_isTermMuch x_nodes x_newMany x_isTooGreat (0 : Int32) x_foundSet), (qx 6, .inl (Y 0, 40, .inl x_low)), (qx 7, .inl (Y 0, 40, .inl x_high))] := hD
      refine lv_aload_n hx hb dX9_listed_23 rfl (lv_at hl 0 rfl) ?_
      refine lv_ldc2 hx hb hown wd3 dX9_listed_24 ?_
      refine va_put (D := G) (ci := 7) (v := .long (-1 : Int64)) (ty := .long) (C := RX9) (T := TX9) (N := 37) hx hb hts inX9w tyX9 tyX9_ok nmX9 hown hK hP hD hS 0 rfl rfl 28 (by decide) wd4 (fun _ h9 => h9) rfl (by decide +kernel) rfl rfl (Nat.le_of_ble_eq_true rfl) dX9_listed_27 (fun H locs hP hD hS => ?_)
      have hP : va_P G vwCl [(qx 0, oX9 qx x_points x_lines x_tide x_isKept x_isMuch x_sum x_once x_twice x_isTermMuch x_nodes x_newMany x_isTooGreat (0 : Int32) (-1 : Int64)), (qx 6, .inl (Y 0, 40, .inl x_low)), (qx 7, .inl (Y 0, 40, .inl x_high))] H := hP
      have hD : va_D A [(qx 0, oX9 qx x_points x_lines x_tide x_isKept x_isMuch x_sum x_once x_twice x_isTermMuch x_nodes x_newMany x_isTooGreat (0 : Int32) (-1 : Int64)), (qx 6, .inl (Y 0, 40, .inl x_low)), (qx 7, .inl (Y 0, 40, .inl x_high))] := hD
      refine lv_aload_n hx hb dX9_listed_30 rfl (lv_at hl 0 rfl) ?_
      refine lv_iload_n hx hb dX9_listed_31 rfl (lv_at hl 1 rfl) ?_
      refine lv_aload_n hx hb dX9_listed_32 rfl (lv_at hl 0 rfl) ?_
      refine va_get (D := G) (ci := 7) (v := .int x_lines) (C := RX9) (T := TX9) (N := 37) hx hb hts inX9w hown hK hP 0 rfl rfl 1 (by decide) wd5 (fun _ h9 => h9) rfl dX9_listed_33 ?_
      refine lv_iconst (v := 0) hx hb dX9_listed_36 (by decide) ?_
      refine lv_lconst (v := 0) hx hb dX9_listed_37 (by decide) ?_
      refine lv_iload_n hx hb dX9_listed_38 rfl (lv_at hl 2 rfl) ?_
      obtain ⟨w3, w4, hc, hf⟩ := bd2 hf
      refine cl_v (ws' := [(qx 0, oX9 qx x_points x_lines x_tide x_isKept x_isMuch x_sum x_once x_twice x_isTermMuch x_nodes x_newMany x_isTooGreat w3 w4), (qx 6, .inl (Y 0, 40, .inl x_low)), (qx 7, .inl (Y 0, 40, .inl x_high))]) (wr := []) (rnV (As := [.int p1, .int x_lines, .int (0 : Int32), .long (0 : Int64), .int p2]) (rest := []) ⟨hx, hb, hml, hown, hts⟩ (c_X9_lists l G Y 16 H.size qx x_points x_lines x_tide x_low x_high x_isKept x_isMuch x_sum x_once x_twice x_isTermMuch x_nodes x_newMany x_isTooGreat (0 : Int32) (-1 : Int64) p1 x_lines (0 : Int32) (0 : Int64) p2 w3 w4 hc) (cwV 5 hts gX9_listed_X9_lists rfl rfl rfl (by decide +kernel) ⟨(Nat.le_of_ble_eq_true rfl), (Nat.le_of_ble_eq_true rfl)⟩) trivial okT hK hP hD [0, 1, 2] rfl rfl (ci := 7) (q0 := 0) rfl rfl rfl rfl hl.1 rfl (Nat.le_of_ble_eq_true rfl) dX9_listed_39) hP hD hS hA [0, 1, 2] [] [0, 1, 2] rfl rfl rfl (by decide) rfl rfl (fun H locs hP hD hS => ?_)
      refine lv_iload_n hx hb dX9_listed_42 rfl (lv_at hl 2 rfl) ?_
      refine lv_iconst (v := -1) hx hb dX9_listed_43 (by decide) ?_
      refine lv_icmp_ne (tgt := 55) hx hb dX9_listed_44 (by decide) (fun c5 => ?_) (fun c5 => ?_)
      · have hf := ie hf c5
        refine lv_aload_n hx hb dX9_listed_55 rfl (lv_at hl 0 rfl) ?_
        refine va_get (D := G) (ci := 7) (v := .long w4) (C := RX9) (T := TX9) (N := 37) hx hb hts inX9w hown hK hP 0 rfl rfl 28 (by decide) wd4 (fun _ h9 => h9) rfl dX9_listed_56 ?_
        refine lv_lconst (v := 0) hx hb dX9_listed_59 (by decide) ?_
        refine W.lcmp hx hb dX9_listed_60 ?_
        refine lv_if_ge (tgt := 72) hx hb dX9_listed_61 (by decide) (fun c6 => ?_) (fun c6 => ?_)
        · have hf := it hf c6
          refine lv_aload_n hx hb dX9_listed_72 rfl (lv_at hl 0 rfl) ?_
          refine va_get (D := G) (ci := 7) (v := .long w4) (C := RX9) (T := TX9) (N := 37) hx hb hts inX9w hown hK hP 0 rfl rfl 28 (by decide) wd4 (fun _ h9 => h9) rfl dX9_listed_73 ?_
          obtain ⟨e0, e1, e2⟩ := rt3 hf
          have hP : va_P G vwCl [(qx 0, oX9 qx x_points x_lines x_tide x_isKept x_isMuch x_sum x_once x_twice x_isTermMuch x_nodes x_newMany x_isTooGreat o_x_come o_x_foundSet), (qx 6, .inl (Y 0, 40, .inl x_low)), (qx 7, .inl (Y 0, 40, .inl x_high))] H := by rw [← e1, ← e2]; exact hP
          have hD : va_D A [(qx 0, oX9 qx x_points x_lines x_tide x_isKept x_isMuch x_sum x_once x_twice x_isTermMuch x_nodes x_newMany x_isTooGreat o_x_come o_x_foundSet), (qx 6, .inl (Y 0, 40, .inl x_low)), (qx 7, .inl (Y 0, 40, .inl x_high))] := by rw [← e1, ← e2]; exact hD
          exact W.lret (v := w4) hx hb hr (fun t ht hW => ⟨⟨w4, (), rfl, e0, by rw [ht]; exact hP, va_K.moved hW.alike hK, by rw [hAe]; exact hD⟩, hS.F ht⟩) hS.2.2 dX9_listed_76
        · have hf := ie hf c6
          refine lv_bipush (v := -12) hx hb dX9_listed_64 (by decide) ?_
          obtain ⟨r7, hc, hf⟩ := bd1 hf
          refine cl_l (ws' := [(qx 0, oX9 qx x_points x_lines x_tide x_isKept x_isMuch x_sum x_once x_twice x_isTermMuch x_nodes x_newMany x_isTooGreat w3 w4), (qx 6, .inl (Y 0, 40, .inl x_low)), (qx 7, .inl (Y 0, 40, .inl x_high))]) (wr := [(qx 0, oX9 qx x_points x_lines x_tide x_isKept x_isMuch x_sum x_once x_twice x_isTermMuch x_nodes x_newMany x_isTooGreat w3 w4), (qx 6, .inl (Y 0, 40, .inl x_low)), (qx 7, .inl (Y 0, 40, .inl x_high))]) (rnS (As := [.int (-12 : Int32)]) (rest := []) ⟨hx, hb, hml, hown, hts⟩ (c_X9_told l G Y H.size (-12 : Int32) r7 hc) (va_cwS 1 hts gX9_listed_X9_told rfl rfl rfl (by decide +kernel) ⟨(Nat.le_of_ble_eq_true rfl), (Nat.le_of_ble_eq_true rfl)⟩) trivial okT hK hP hD [] rfl rfl rfl hl.1 rfl (Nat.le_of_ble_eq_true rfl) dX9_listed_66) hP hD hS hA [] [0, 1, 2] [0, 1, 2] rfl rfl rfl (by decide) rfl rfl (fun H locs hP hD hS => ?_)
          refine lv_goto (tgt := 76) hx hb dX9_listed_69 (by decide) ?_
          obtain ⟨e0, e1, e2⟩ := rt3 hf
          have hP : va_P G vwCl [(qx 0, oX9 qx x_points x_lines x_tide x_isKept x_isMuch x_sum x_once x_twice x_isTermMuch x_nodes x_newMany x_isTooGreat o_x_come o_x_foundSet), (qx 6, .inl (Y 0, 40, .inl x_low)), (qx 7, .inl (Y 0, 40, .inl x_high))] H := by rw [← e1, ← e2]; exact hP
          have hD : va_D A [(qx 0, oX9 qx x_points x_lines x_tide x_isKept x_isMuch x_sum x_once x_twice x_isTermMuch x_nodes x_newMany x_isTooGreat o_x_come o_x_foundSet), (qx 6, .inl (Y 0, 40, .inl x_low)), (qx 7, .inl (Y 0, 40, .inl x_high))] := by rw [← e1, ← e2]; exact hD
          exact W.lret (v := r7) hx hb hr (fun t ht hW => ⟨⟨r7, (), rfl, e0, by rw [ht]; exact hP, va_K.moved hW.alike hK, by rw [hAe]; exact hD⟩, hS.F ht⟩) hS.2.2 dX9_listed_76
      · have hf := it hf c5
        refine lv_aload_n hx hb dX9_listed_47 rfl (lv_at hl 0 rfl) ?_
        refine va_get (D := G) (ci := 7) (v := .int w3) (C := RX9) (T := TX9) (N := 37) hx hb hts inX9w hown hK hP 0 rfl rfl 27 (by decide) wd2 (fun _ h9 => h9) rfl dX9_listed_48 ?_
        refine lv_i2l hx hb dX9_listed_51 rfl ?_
        refine lv_goto (tgt := 76) hx hb dX9_listed_52 (by decide) ?_
        obtain ⟨e0, e1, e2⟩ := rt3 hf
        have hP : va_P G vwCl [(qx 0, oX9 qx x_points x_lines x_tide x_isKept x_isMuch x_sum x_once x_twice x_isTermMuch x_nodes x_newMany x_isTooGreat o_x_come o_x_foundSet), (qx 6, .inl (Y 0, 40, .inl x_low)), (qx 7, .inl (Y 0, 40, .inl x_high))] H := by rw [← e1, ← e2]; exact hP
        have hD : va_D A [(qx 0, oX9 qx x_points x_lines x_tide x_isKept x_isMuch x_sum x_once x_twice x_isTermMuch x_nodes x_newMany x_isTooGreat o_x_come o_x_foundSet), (qx 6, .inl (Y 0, 40, .inl x_low)), (qx 7, .inl (Y 0, 40, .inl x_high))] := by rw [← e1, ← e2]; exact hD
        exact W.lret (v := w3.toInt64) hx hb hr (fun t ht hW => ⟨⟨w3.toInt64, (), rfl, e0, by rw [ht]; exact hP, va_K.moved hW.alike hK, by rw [hAe]; exact hD⟩, hS.F ht⟩) hS.2.2 dX9_listed_76
    · have hf := it hf c2
      refine lv_bipush (v := -2) hx hb dX9_listed_12 (by decide) ?_
      obtain ⟨r8, hc, hf⟩ := bd1 hf
      refine cl_l (ws' := [(qx 0, oX9 qx x_points x_lines x_tide x_isKept x_isMuch x_sum x_once x_twice x_isTermMuch x_nodes x_newMany x_isTooGreat x_come x_foundSet), (qx 6, .inl (Y 0, 40, .inl x_low)), (qx 7, .inl (Y 0, 40, .inl x_high))]) (wr := [(qx 0, oX9 qx x_points x_lines x_tide x_isKept x_isMuch x_sum x_once x_twice x_isTermMuch x_nodes x_newMany x_isTooGreat x_come x_foundSet), (qx 6, .inl (Y 0, 40, .inl x_low)), (qx 7, .inl (Y 0, 40, .inl x_high))]) (rnS (As := [.int (-2 : Int32)]) (rest := []) ⟨hx, hb, hml, hown, hts⟩ (c_X9_told l G Y H.size (-2 : Int32) r8 hc) (va_cwS 1 hts gX9_listed_X9_told rfl rfl rfl (by decide +kernel) ⟨(Nat.le_of_ble_eq_true rfl), (Nat.le_of_ble_eq_true rfl)⟩) trivial okT hK hP hD [] rfl rfl rfl hl.1 rfl (Nat.le_of_ble_eq_true rfl) dX9_listed_14) hP hD hS hA [] [0, 1, 2] [0, 1, 2] rfl rfl rfl (by decide) rfl rfl (fun H locs hP hD hS => ?_)
      obtain ⟨e0, e1, e2⟩ := rt3 hf
      have hP : va_P G vwCl [(qx 0, oX9 qx x_points x_lines x_tide x_isKept x_isMuch x_sum x_once x_twice x_isTermMuch x_nodes x_newMany x_isTooGreat o_x_come o_x_foundSet), (qx 6, .inl (Y 0, 40, .inl x_low)), (qx 7, .inl (Y 0, 40, .inl x_high))] H := by rw [← e1, ← e2]; exact hP
      have hD : va_D A [(qx 0, oX9 qx x_points x_lines x_tide x_isKept x_isMuch x_sum x_once x_twice x_isTermMuch x_nodes x_newMany x_isTooGreat o_x_come o_x_foundSet), (qx 6, .inl (Y 0, 40, .inl x_low)), (qx 7, .inl (Y 0, 40, .inl x_high))] := by rw [← e1, ← e2]; exact hD
      exact W.lret (v := r8) hx hb hr (fun t ht hW => ⟨⟨r8, (), rfl, e0, by rw [ht]; exact hP, va_K.moved hW.alike hK, by rw [hAe]; exact hD⟩, hS.F ht⟩) hS.2.2 dX9_listed_17
  exact E0 s.heap [] hP hD hS ls hl
-- X9_lot
set_option maxRecDepth 100000 in
set_option maxHeartbeats 4000000 in
theorem c_X9_lot (l : Launch) (G : va_G) (Y : Nat → ClassId) (sz : Nat) (qx : Nat → Nat) (x_points : Int32) (x_lines : Int32) (x_tide : Int32) (x_low : Nat → Int32) (x_high : Nat → Int32) (x_isKept : Int32) (x_isMuch : Int32) (x_sum : Int64) (x_once : Int64) (x_twice : Int64) (x_isTermMuch : Int32) (x_nodes : Int32) (x_newMany : Int32) (x_isTooGreat : Int32) (x_come : Int32) (x_foundSet : Int64) (p1 : Int32) (p2 : Int32) (rv : Int64) (hf : f_X9_lot x_lines x_low x_high p1 p2 = some (rv)) : Met l yX9_lot wsX9_lot (rmk 1 25) (va_Pc [.ref (qx 0), .int p1, .int p2] (Pre G (tys Y) [(qx 0, oX9 qx x_points x_lines x_tide x_isKept x_isMuch x_sum x_once x_twice x_isTermMuch x_nodes x_newMany x_isTooGreat x_come x_foundSet), (qx 6, .inl (Y 0, 40, .inl x_low)), (qx 7, .inl (Y 0, 40, .inl x_high))] sz xT)) (va_Ql (fun (r : Int64) (_ : Unit) => r = rv) (Pst G (tys Y) [(qx 0, oX9 qx x_points x_lines x_tide x_isKept x_isMuch x_sum x_once x_twice x_isTermMuch x_nodes x_newMany x_isTooGreat x_come x_foundSet), (qx 6, .inl (Y 0, 40, .inl x_low)), (qx 7, .inl (Y 0, 40, .inl x_high))] sz [(qx 0, oX9 qx x_points x_lines x_tide x_isKept x_isMuch x_sum x_once x_twice x_isTermMuch x_nodes x_newMany x_isTooGreat x_come x_foundSet), (qx 6, .inl (Y 0, 40, .inl x_low)), (qx 7, .inl (Y 0, 40, .inl x_high))]) (va_A [(qx 0, oX9 qx x_points x_lines x_tide x_isKept x_isMuch x_sum x_once x_twice x_isTermMuch x_nodes x_newMany x_isTooGreat x_come x_foundSet), (qx 6, .inl (Y 0, 40, .inl x_low)), (qx 7, .inl (Y 0, 40, .inl x_high))] sz)) 0 0 (va_A [(qx 0, oX9 qx x_points x_lines x_tide x_isKept x_isMuch x_sum x_once x_twice x_isTermMuch x_nodes x_newMany x_isTooGreat x_come x_foundSet), (qx 6, .inl (Y 0, 40, .inl x_low)), (qx 7, .inl (Y 0, 40, .inl x_high))] sz) := by
  refine Met.ofW (cc := cX9_lot) (maxL := 10) (ret := (some .long)) (by decide) rfl ?_
  intro p e s m args below meth c s₁ B hml hv
  obtain ⟨rfl, hsz, hP, hK, hD0, hX⟩ := hv
  have hx := B.exec
  have hb := B.bytes
  have hr := B.returns
  have hts := atoms_spec (ws := wsX9_lot) B.pre
  have hown : s.vm.findClass RX9 = some m.cls := findClass_of_methodNamed B.named
  have hlocks := B.notSynchronized
  subst hsz
  have hD := hD0.self (sz := s.heap.size)
  generalize hAe : va_A [(qx 0, oX9 qx x_points x_lines x_tide x_isKept x_isMuch x_sum x_once x_twice x_isTermMuch x_nodes x_newMany x_isTooGreat x_come x_foundSet), (qx 6, .inl (Y 0, 40, .inl x_low)), (qx 7, .inl (Y 0, 40, .inl x_high))] s.heap.size = A at hD ⊢
  have hA : ∀ q : Nat, s.heap.size ≤ q → A q := fun q h => by rw [← hAe]; exact Or.inr h
  have hS : va_S A s.heap s.heap [] := va_S.rf
  have hP : va_P G vwCl [(qx 0, oX9 qx x_points x_lines x_tide x_isKept x_isMuch x_sum x_once x_twice x_isTermMuch x_nodes x_newMany x_isTooGreat x_come x_foundSet), (qx 6, .inl (Y 0, 40, .inl x_low)), (qx 7, .inl (Y 0, 40, .inl x_high))] s.heap := hP
  have wd1 : (Cond.constantLong RX9 299 (10)).before [.ref (qx 0), .int p1, .int p2].toArray s = true := hts _ (List.mem_of_getElem? (i := 1) rfl)
  have wd2 : (Cond.fieldLink RX9 100 "PairedLinesModel" "lines" "I").before [.ref (qx 0), .int p1, .int p2].toArray s = true := hts _ (List.mem_of_getElem? (i := 2) rfl)
  have wd3 : (Cond.fieldLink RX9 16 "PairedLinesModel" "low" "[I").before [.ref (qx 0), .int p1, .int p2].toArray s = true := hts _ (List.mem_of_getElem? (i := 3) rfl)
  have wd4 : (Cond.fieldLink RX9 19 "PairedLinesModel" "high" "[I").before [.ref (qx 0), .int p1, .int p2].toArray s = true := hts _ (List.mem_of_getElem? (i := 4) rfl)
  have wd5 : (Cond.constant RX9 301 (1103515245)).before [.ref (qx 0), .int p1, .int p2].toArray s = true := hts _ (List.mem_of_getElem? (i := 5) rfl)
  have inX9w : ∀ w ∈ u_ws RX9 TX9 37, w ∈ wsX9_lot := fun w hw => List.mem_cons_of_mem _ (List.mem_append_right _ (hw))
  have hl := lv_entry ([.ref (qx 0), .int p1, .int p2]) (n := 10) (Nat.le_of_ble_eq_true rfl)
  rw [lg_entry_eq]
  generalize (lg_sl ([.ref (qx 0), .int p1, .int p2]) ++ List.replicate (10 - (lg_sl ([.ref (qx 0), .int p1, .int p2])).length) Slot.unset).toArray = ls at hl ⊢
  have hl : lv_has ls 10 [(0, .ref (qx 0)), (1, .int p1), (2, .int p2)] := hl
  have B29 : ∀ (n29 : Nat), ∀ (x3 : Int32) (x4 : Int32) (x5 : Int64) (x7 : Int32), f_X9_lot_b29 x_lines x_low x_high p1 p2 n29 x3 x4 x5 x7 = some (rv) → ∀ (H : Heap) (locs : List Loc), va_P G vwCl [(qx 0, oX9 qx x_points x_lines x_tide x_isKept x_isMuch x_sum x_once x_twice x_isTermMuch x_nodes x_newMany x_isTooGreat x_come x_foundSet), (qx 6, .inl (Y 0, 40, .inl x_low)), (qx 7, .inl (Y 0, 40, .inl x_high))] H → va_D A [(qx 0, oX9 qx x_points x_lines x_tide x_isKept x_isMuch x_sum x_once x_twice x_isTermMuch x_nodes x_newMany x_isTooGreat x_come x_foundSet), (qx 6, .inl (Y 0, 40, .inl x_low)), (qx 7, .inl (Y 0, 40, .inl x_high))] → va_S A s.heap H locs → ∀ (ls : Array Slot), lv_has ls 10 [(0, .ref (qx 0)), (2, .int p2), (3, .int x3), (4, .int x4), (5, .long x5), (7, .int x7)] → W p l e (headSpec wsX9_lot (rmk 1 25)).room s m [.ref (qx 0), .int p1, .int p2].toArray below meth c H locs 0 0 (MQ below (va_Ql (fun (r : Int64) (_ : Unit) => r = rv) (Pst G (tys Y) [(qx 0, oX9 qx x_points x_lines x_tide x_isKept x_isMuch x_sum x_once x_twice x_isTermMuch x_nodes x_newMany x_isTooGreat x_come x_foundSet), (qx 6, .inl (Y 0, 40, .inl x_low)), (qx 7, .inl (Y 0, 40, .inl x_high))] s.heap.size [(qx 0, oX9 qx x_points x_lines x_tide x_isKept x_isMuch x_sum x_once x_twice x_isTermMuch x_nodes x_newMany x_isTooGreat x_come x_foundSet), (qx 6, .inl (Y 0, 40, .inl x_low)), (qx 7, .inl (Y 0, 40, .inl x_high))]) A) [.ref (qx 0), .int p1, .int p2].toArray s 0 0 A) (F0 m 29 ls []) := by
    intro n29
    induction n29 with
    | zero =>
      intro x3 x4 x5 x7 hf H locs hP hD hS ls hl
      exact no_none hf
    | succ n29 ih29 =>
      have B110 : ∀ (x3 : Int32) (x4 : Int32) (x7 : Int32) (x8 : Int32) (x9 : Int32) (y0 : Int64) (y1 : Int64), f_X9_lot_b110 x_lines x_low x_high p1 p2 (f_X9_lot_b29 x_lines x_low x_high p1 p2 n29) x3 x4 x7 x8 x9 y0 y1 = some (rv) → ∀ (H : Heap) (locs : List Loc), va_P G vwCl [(qx 0, oX9 qx x_points x_lines x_tide x_isKept x_isMuch x_sum x_once x_twice x_isTermMuch x_nodes x_newMany x_isTooGreat x_come x_foundSet), (qx 6, .inl (Y 0, 40, .inl x_low)), (qx 7, .inl (Y 0, 40, .inl x_high))] H → va_D A [(qx 0, oX9 qx x_points x_lines x_tide x_isKept x_isMuch x_sum x_once x_twice x_isTermMuch x_nodes x_newMany x_isTooGreat x_come x_foundSet), (qx 6, .inl (Y 0, 40, .inl x_low)), (qx 7, .inl (Y 0, 40, .inl x_high))] → va_S A s.heap H locs → ∀ (ls : Array Slot), lv_has ls 10 [(0, .ref (qx 0)), (2, .int p2), (3, .int x3), (4, .int x4), (7, .int x7), (8, .int x8), (9, .int x9)] → W p l e (headSpec wsX9_lot (rmk 1 25)).room s m [.ref (qx 0), .int p1, .int p2].toArray below meth c H locs 0 0 (MQ below (va_Ql (fun (r : Int64) (_ : Unit) => r = rv) (Pst G (tys Y) [(qx 0, oX9 qx x_points x_lines x_tide x_isKept x_isMuch x_sum x_once x_twice x_isTermMuch x_nodes x_newMany x_isTooGreat x_come x_foundSet), (qx 6, .inl (Y 0, 40, .inl x_low)), (qx 7, .inl (Y 0, 40, .inl x_high))] s.heap.size [(qx 0, oX9 qx x_points x_lines x_tide x_isKept x_isMuch x_sum x_once x_twice x_isTermMuch x_nodes x_newMany x_isTooGreat x_come x_foundSet), (qx 6, .inl (Y 0, 40, .inl x_low)), (qx 7, .inl (Y 0, 40, .inl x_high))]) A) [.ref (qx 0), .int p1, .int p2].toArray s 0 0 A) (F0 m 110 ls [.long y0, .long y1]) := by
        intro x3 x4 x7 x8 x9 y0 y1 hf H locs hP hD hS ls hl
        unfold f_X9_lot_b110 at hf
        refine lv_lor hx hb dX9_lot_110 ?_
        refine lv_topl (fun v1 e_v1 => ?_)
        have hf := nm_at hf e_v1
        refine lv_lstore (lv' := [(5, .long v1), (0, .ref (qx 0)), (2, .int p2), (3, .int x3), (4, .int x4), (7, .int x7), (8, .int x8), (9, .int x9)]) hx hb dX9_lot_111 hl (by decide) rfl (fun ls hl => ?_)
        refine lv_iload hx hb dX9_lot_113 (lv_at hl 4 rfl) ?_
        refine lv_iload hx hb dX9_lot_115 (lv_at hl 7 rfl) ?_
        refine lv_if_eq (tgt := 125) hx hb dX9_lot_117 (by decide) (fun c2 => ?_) (fun c2 => ?_)
        · have hf := it hf c2
          refine lv_iconst (v := 0) hx hb dX9_lot_125 (by decide) ?_
          refine lv_ior hx hb dX9_lot_126 ?_
          refine lv_topi (fun v3 e_v3 => ?_)
          have hf := nm_at hf e_v3
          refine lv_istore (lv' := [(4, .int v3), (5, .long v1), (0, .ref (qx 0)), (2, .int p2), (3, .int x3), (7, .int x7), (8, .int x8), (9, .int x9)]) hx hb dX9_lot_127 hl (by decide) rfl (fun ls hl => ?_)
          obtain ⟨v4, e_v4⟩ : ∃ z : Int32, z = (x7 + 1) := ⟨_, rfl⟩
          have hf := nm_at hf e_v4
          refine lv_iinc (v := v4) (lv' := [(7, .int v4), (4, .int v3), (5, .long v1), (0, .ref (qx 0)), (2, .int p2), (3, .int x3), (8, .int x8), (9, .int x9)]) hx hb dX9_lot_129 hl (k := 5) rfl (by rw [e_v4]; rfl) (by decide) rfl (fun ls hl => ?_)
          refine lv_goto (tgt := 29) hx hb dX9_lot_132 (by decide) ?_
          exact ih29 x3 v3 v1 v4 hf _ _ hP hD hS ls (lv_sub hl [3, 4, 5, 1, 2, 0] rfl)
        · have hf := ie hf c2
          refine lv_iload hx hb dX9_lot_120 (lv_at hl 6 rfl) ?_
          refine lv_goto (tgt := 126) hx hb dX9_lot_122 (by decide) ?_
          refine lv_ior hx hb dX9_lot_126 ?_
          refine lv_topi (fun v5 e_v5 => ?_)
          have hf := nm_at hf e_v5
          refine lv_istore (lv' := [(4, .int v5), (5, .long v1), (0, .ref (qx 0)), (2, .int p2), (3, .int x3), (7, .int x7), (8, .int x8), (9, .int x9)]) hx hb dX9_lot_127 hl (by decide) rfl (fun ls hl => ?_)
          obtain ⟨v6, e_v6⟩ : ∃ z : Int32, z = (x7 + 1) := ⟨_, rfl⟩
          have hf := nm_at hf e_v6
          refine lv_iinc (v := v6) (lv' := [(7, .int v6), (4, .int v5), (5, .long v1), (0, .ref (qx 0)), (2, .int p2), (3, .int x3), (8, .int x8), (9, .int x9)]) hx hb dX9_lot_129 hl (k := 5) rfl (by rw [e_v6]; rfl) (by decide) rfl (fun ls hl => ?_)
          refine lv_goto (tgt := 29) hx hb dX9_lot_132 (by decide) ?_
          exact ih29 x3 v5 v1 v6 hf _ _ hP hD hS ls (lv_sub hl [3, 4, 5, 1, 2, 0] rfl)
      have B93 : ∀ (x3 : Int32) (x4 : Int32) (x5 : Int64) (x7 : Int32) (x8 : Int32) (y0 : Int32), f_X9_lot_b93 x_lines x_low x_high p1 p2 (f_X9_lot_b29 x_lines x_low x_high p1 p2 n29) x3 x4 x5 x7 x8 y0 = some (rv) → ∀ (H : Heap) (locs : List Loc), va_P G vwCl [(qx 0, oX9 qx x_points x_lines x_tide x_isKept x_isMuch x_sum x_once x_twice x_isTermMuch x_nodes x_newMany x_isTooGreat x_come x_foundSet), (qx 6, .inl (Y 0, 40, .inl x_low)), (qx 7, .inl (Y 0, 40, .inl x_high))] H → va_D A [(qx 0, oX9 qx x_points x_lines x_tide x_isKept x_isMuch x_sum x_once x_twice x_isTermMuch x_nodes x_newMany x_isTooGreat x_come x_foundSet), (qx 6, .inl (Y 0, 40, .inl x_low)), (qx 7, .inl (Y 0, 40, .inl x_high))] → va_S A s.heap H locs → ∀ (ls : Array Slot), lv_has ls 10 [(0, .ref (qx 0)), (2, .int p2), (3, .int x3), (4, .int x4), (5, .long x5), (7, .int x7), (8, .int x8)] → W p l e (headSpec wsX9_lot (rmk 1 25)).room s m [.ref (qx 0), .int p1, .int p2].toArray below meth c H locs 0 0 (MQ below (va_Ql (fun (r : Int64) (_ : Unit) => r = rv) (Pst G (tys Y) [(qx 0, oX9 qx x_points x_lines x_tide x_isKept x_isMuch x_sum x_once x_twice x_isTermMuch x_nodes x_newMany x_isTooGreat x_come x_foundSet), (qx 6, .inl (Y 0, 40, .inl x_low)), (qx 7, .inl (Y 0, 40, .inl x_high))] s.heap.size [(qx 0, oX9 qx x_points x_lines x_tide x_isKept x_isMuch x_sum x_once x_twice x_isTermMuch x_nodes x_newMany x_isTooGreat x_come x_foundSet), (qx 6, .inl (Y 0, 40, .inl x_low)), (qx 7, .inl (Y 0, 40, .inl x_high))]) A) [.ref (qx 0), .int p1, .int p2].toArray s 0 0 A) (F0 m 93 ls [.int y0]) := by
        intro x3 x4 x5 x7 x8 y0 hf H locs hP hD hS ls hl
        unfold f_X9_lot_b93 at hf
        refine lv_istore (lv' := [(9, .int y0), (0, .ref (qx 0)), (2, .int p2), (3, .int x3), (4, .int x4), (5, .long x5), (7, .int x7), (8, .int x8)]) hx hb dX9_lot_93 hl (by decide) rfl (fun ls hl => ?_)
        refine lv_lload hx hb dX9_lot_95 (lv_at hl 5 rfl) ?_
        refine lv_iload hx hb dX9_lot_97 (lv_at hl 0 rfl) ?_
        refine lv_if_eq (tgt := 109) hx hb dX9_lot_99 (by decide) (fun c7 => ?_) (fun c7 => ?_)
        · have hf := it hf c7
          refine lv_lconst (v := 0) hx hb dX9_lot_109 (by decide) ?_
          exact B110 x3 x4 x7 x8 y0 (0 : Int64) x5 hf _ _ hP hD hS ls (lv_sub hl [1, 2, 3, 4, 6, 7, 0] rfl)
        · have hf := ie hf c7
          refine lv_lconst (v := 1) hx hb dX9_lot_102 (by decide) ?_
          refine lv_iload hx hb dX9_lot_103 (lv_at hl 6 rfl) ?_
          refine lv_lshl hx hb dX9_lot_105 rfl ?_
          refine lv_goto (tgt := 110) hx hb dX9_lot_106 (by decide) ?_
          exact B110 x3 x4 x7 x8 y0 ((1 : Int64) <<< (x7.toInt64 &&& 63)) x5 hf _ _ hP hD hS ls (lv_sub hl [1, 2, 3, 4, 6, 7, 0] rfl)
      intro x3 x4 x5 x7 hf H locs hP hD hS ls hl
      have hf : f_X9_lot_s29 x_lines x_low x_high p1 p2 (f_X9_lot_b29 x_lines x_low x_high p1 p2  n29) x3 x4 x5 x7 = some (rv) := hf
      unfold f_X9_lot_s29 at hf
      refine lv_iload hx hb dX9_lot_29 (lv_at hl 5 rfl) ?_
      refine lv_aload_n hx hb dX9_lot_31 rfl (lv_at hl 0 rfl) ?_
      refine va_get (D := G) (ci := 7) (v := .int x_lines) (C := RX9) (T := TX9) (N := 37) hx hb hts inX9w hown hK hP 0 rfl rfl 1 (by decide) wd2 (fun _ h9 => h9) rfl dX9_lot_32 ?_
      refine lv_icmp_ge (tgt := 135) hx hb dX9_lot_35 (by decide) (fun c8 => ?_) (fun c8 => ?_)
      · have hf := it hf c8
        refine lv_lload hx hb dX9_lot_135 (lv_at hl 4 rfl) ?_
        have e0 := rt1 hf
        exact W.lret (v := x5) hx hb hr (fun t ht hW => ⟨⟨x5, (), rfl, e0, by rw [ht]; exact hP, va_K.moved hW.alike hK, by rw [hAe]; exact hD⟩, hS.F ht⟩) hS.2.2 dX9_lot_137
      · have hf := ie hf c8
        refine lv_iconst (v := 1) hx hb dX9_lot_38 (by decide) ?_
        refine lv_aload_n hx hb dX9_lot_39 rfl (lv_at hl 0 rfl) ?_
        refine va_get (D := G) (ci := 7) (v := .ref (qx 6)) (C := RX9) (T := TX9) (N := 37) hx hb hts inX9w hown hK hP 0 rfl rfl 5 (by decide) wd3 (fun _ h9 => h9) rfl dX9_lot_40 ?_
        refine lv_iload hx hb dX9_lot_43 (lv_at hl 5 rfl) ?_
        obtain ⟨g9, hf⟩ := gd hf
        refine va_iald hx hb hK hP 1 0 rfl rfl g9 dX9_lot_45 ?_
        refine lv_ishl hx hb dX9_lot_46 ?_
        refine lv_iconst (v := 1) hx hb dX9_lot_47 (by decide) ?_
        refine lv_aload_n hx hb dX9_lot_48 rfl (lv_at hl 0 rfl) ?_
        refine va_get (D := G) (ci := 7) (v := .ref (qx 7)) (C := RX9) (T := TX9) (N := 37) hx hb hts inX9w hown hK hP 0 rfl rfl 6 (by decide) wd4 (fun _ h9 => h9) rfl dX9_lot_49 ?_
        refine lv_iload hx hb dX9_lot_52 (lv_at hl 5 rfl) ?_
        obtain ⟨g10, hf⟩ := gd hf
        refine va_iald hx hb hK hP 2 0 rfl rfl g10 dX9_lot_54 ?_
        refine lv_ishl hx hb dX9_lot_55 ?_
        refine lv_ior hx hb dX9_lot_56 ?_
        refine lv_topi (fun v11 e_v11 => ?_)
        have hf := nm_at hf e_v11
        refine lv_istore (lv' := [(8, .int v11), (0, .ref (qx 0)), (2, .int p2), (3, .int x3), (4, .int x4), (5, .long x5), (7, .int x7)]) hx hb dX9_lot_57 hl (by decide) rfl (fun ls hl => ?_)
        refine lv_iload hx hb dX9_lot_59 (lv_at hl 4 rfl) ?_
        refine lv_iload hx hb dX9_lot_61 (lv_at hl 0 rfl) ?_
        refine lv_iand hx hb dX9_lot_63 ?_
        refine lv_if_ne (tgt := 129) hx hb dX9_lot_64 (by decide) (fun c12 => ?_) (fun c12 => ?_)
        · have hf := ie hf c12
          obtain ⟨v13, e_v13⟩ : ∃ z : Int32, z = (x7 + 1) := ⟨_, rfl⟩
          have hf := nm_at hf e_v13
          refine lv_iinc (v := v13) (lv' := [(7, .int v13), (8, .int v11), (0, .ref (qx 0)), (2, .int p2), (3, .int x3), (4, .int x4), (5, .long x5)]) hx hb dX9_lot_129 hl (k := 6) rfl (by rw [e_v13]; rfl) (by decide) rfl (fun ls hl => ?_)
          refine lv_goto (tgt := 29) hx hb dX9_lot_132 (by decide) ?_
          exact ih29 x3 x4 x5 v13 hf _ _ hP hD hS ls (lv_sub hl [2, 3, 4, 5, 6, 0] rfl)
        · have hf := it hf c12
          refine lv_iload_n hx hb dX9_lot_67 rfl (lv_at hl 3 rfl) ?_
          refine lv_ldcw hx hb hown wd5 dX9_lot_68 ?_
          refine lv_imul hx hb dX9_lot_71 ?_
          refine lv_sipush (v := 12345) hx hb dX9_lot_72 (by decide) ?_
          refine lv_iadd hx hb dX9_lot_75 ?_
          refine lv_topi (fun v14 e_v14 => ?_)
          have hf := nm_at hf e_v14
          refine lv_istore_n (lv' := [(3, .int v14), (8, .int v11), (0, .ref (qx 0)), (2, .int p2), (4, .int x4), (5, .long x5), (7, .int x7)]) hx hb dX9_lot_76 rfl hl (by decide) rfl (fun ls hl => ?_)
          refine lv_iload_n hx hb dX9_lot_77 rfl (lv_at hl 0 rfl) ?_
          refine lv_bipush (v := 8) hx hb dX9_lot_78 (by decide) ?_
          refine lv_iushr hx hb dX9_lot_80 rfl ?_
          refine lv_bipush (v := 10) hx hb dX9_lot_81 (by decide) ?_
          obtain ⟨g15, hf⟩ := gd hf
          refine lv_irem hx hb dX9_lot_83 g15 ?_
          refine lv_iload_n hx hb dX9_lot_84 rfl (lv_at hl 3 rfl) ?_
          refine lv_icmp_ge (tgt := 92) hx hb dX9_lot_85 (by decide) (fun c16 => ?_) (fun c16 => ?_)
          · have hf := it hf c16
            refine lv_iconst (v := 0) hx hb dX9_lot_92 (by decide) ?_
            exact B93 v14 x4 x5 x7 v11 (0 : Int32) hf _ _ hP hD hS ls (lv_sub hl [2, 3, 0, 4, 5, 6, 1] rfl)
          · have hf := ie hf c16
            refine lv_iconst (v := 1) hx hb dX9_lot_88 (by decide) ?_
            refine lv_goto (tgt := 93) hx hb dX9_lot_89 (by decide) ?_
            exact B93 v14 x4 x5 x7 v11 (1 : Int32) hf _ _ hP hD hS ls (lv_sub hl [2, 3, 0, 4, 5, 6, 1] rfl)
  have E0 : ∀ (H : Heap) (locs : List Loc), va_P G vwCl [(qx 0, oX9 qx x_points x_lines x_tide x_isKept x_isMuch x_sum x_once x_twice x_isTermMuch x_nodes x_newMany x_isTooGreat x_come x_foundSet), (qx 6, .inl (Y 0, 40, .inl x_low)), (qx 7, .inl (Y 0, 40, .inl x_high))] H → va_D A [(qx 0, oX9 qx x_points x_lines x_tide x_isKept x_isMuch x_sum x_once x_twice x_isTermMuch x_nodes x_newMany x_isTooGreat x_come x_foundSet), (qx 6, .inl (Y 0, 40, .inl x_low)), (qx 7, .inl (Y 0, 40, .inl x_high))] → va_S A s.heap H locs → ∀ (ls : Array Slot), lv_has ls 10 [(0, .ref (qx 0)), (1, .int p1), (2, .int p2)] → W p l e (headSpec wsX9_lot (rmk 1 25)).room s m [.ref (qx 0), .int p1, .int p2].toArray below meth c H locs 0 0 (MQ below (va_Ql (fun (r : Int64) (_ : Unit) => r = rv) (Pst G (tys Y) [(qx 0, oX9 qx x_points x_lines x_tide x_isKept x_isMuch x_sum x_once x_twice x_isTermMuch x_nodes x_newMany x_isTooGreat x_come x_foundSet), (qx 6, .inl (Y 0, 40, .inl x_low)), (qx 7, .inl (Y 0, 40, .inl x_high))] s.heap.size [(qx 0, oX9 qx x_points x_lines x_tide x_isKept x_isMuch x_sum x_once x_twice x_isTermMuch x_nodes x_newMany x_isTooGreat x_come x_foundSet), (qx 6, .inl (Y 0, 40, .inl x_low)), (qx 7, .inl (Y 0, 40, .inl x_high))]) A) [.ref (qx 0), .int p1, .int p2].toArray s 0 0 A) (F0 m 0 ls []) := by
    intro H locs hP hD hS ls hl
    unfold f_X9_lot at hf
    refine lv_iload_n hx hb dX9_lot_0 rfl (lv_at hl 2 rfl) ?_
    refine lv_i2l hx hb dX9_lot_1 rfl ?_
    refine lv_lconst (v := 0) hx hb dX9_lot_2 (by decide) ?_
    refine lv_ldc2 hx hb hown wd1 dX9_lot_3 ?_
    obtain ⟨r17, hc, hf⟩ := bd1 hf
    refine cl_i (ws' := [(qx 0, oX9 qx x_points x_lines x_tide x_isKept x_isMuch x_sum x_once x_twice x_isTermMuch x_nodes x_newMany x_isTooGreat x_come x_foundSet), (qx 6, .inl (Y 0, 40, .inl x_low)), (qx 7, .inl (Y 0, 40, .inl x_high))]) (wr := [(qx 0, oX9 qx x_points x_lines x_tide x_isKept x_isMuch x_sum x_once x_twice x_isTermMuch x_nodes x_newMany x_isTooGreat x_come x_foundSet), (qx 6, .inl (Y 0, 40, .inl x_low)), (qx 7, .inl (Y 0, 40, .inl x_high))]) (rnS (As := [.long p2.toInt64, .long (0 : Int64), .long (10 : Int64)]) (rest := []) ⟨hx, hb, hml, hown, hts⟩ (c_X9_in l G Y H.size p2.toInt64 (0 : Int64) (10 : Int64) r17 hc) (va_cwS 3 hts gX9_lot_X9_in rfl rfl rfl (by decide +kernel) ⟨(Nat.le_of_ble_eq_true rfl), (Nat.le_of_ble_eq_true rfl)⟩) trivial okT hK hP hD [] rfl rfl rfl hl.1 rfl (Nat.le_of_ble_eq_true rfl) dX9_lot_6) hP hD hS hA [] [0, 1, 2] [0, 1, 2] rfl rfl rfl (by decide) rfl rfl (fun H locs hP hD hS => ?_)
    refine lv_if_ne (tgt := 18) hx hb dX9_lot_9 (by decide) (fun c18 => ?_) (fun c18 => ?_)
    · have hf := ie hf c18
      refine lv_iload_n hx hb dX9_lot_18 rfl (lv_at hl 1 rfl) ?_
      refine lv_istore_n (lv' := [(3, .int p1), (0, .ref (qx 0)), (1, .int p1), (2, .int p2)]) hx hb dX9_lot_19 rfl hl (by decide) rfl (fun ls hl => ?_)
      refine lv_iconst (v := 0) hx hb dX9_lot_20 (by decide) ?_
      refine lv_istore (lv' := [(4, .int (0 : Int32)), (3, .int p1), (0, .ref (qx 0)), (1, .int p1), (2, .int p2)]) hx hb dX9_lot_21 hl (by decide) rfl (fun ls hl => ?_)
      refine lv_lconst (v := 0) hx hb dX9_lot_23 (by decide) ?_
      refine lv_lstore (lv' := [(5, .long (0 : Int64)), (4, .int (0 : Int32)), (3, .int p1), (0, .ref (qx 0)), (1, .int p1), (2, .int p2)]) hx hb dX9_lot_24 hl (by decide) rfl (fun ls hl => ?_)
      refine lv_iconst (v := 0) hx hb dX9_lot_26 (by decide) ?_
      refine lv_istore (lv' := [(7, .int (0 : Int32)), (5, .long (0 : Int64)), (4, .int (0 : Int32)), (3, .int p1), (0, .ref (qx 0)), (1, .int p1), (2, .int p2)]) hx hb dX9_lot_27 hl (by decide) rfl (fun ls hl => ?_)
      exact B29 70 p1 (0 : Int32) (0 : Int64) (0 : Int32) hf _ _ hP hD hS ls (lv_sub hl [4, 6, 3, 2, 1, 0] rfl)
    · have hf := it hf c18
      refine lv_bipush (v := -2) hx hb dX9_lot_12 (by decide) ?_
      obtain ⟨r19, hc, hf⟩ := bd1 hf
      refine cl_l (ws' := [(qx 0, oX9 qx x_points x_lines x_tide x_isKept x_isMuch x_sum x_once x_twice x_isTermMuch x_nodes x_newMany x_isTooGreat x_come x_foundSet), (qx 6, .inl (Y 0, 40, .inl x_low)), (qx 7, .inl (Y 0, 40, .inl x_high))]) (wr := [(qx 0, oX9 qx x_points x_lines x_tide x_isKept x_isMuch x_sum x_once x_twice x_isTermMuch x_nodes x_newMany x_isTooGreat x_come x_foundSet), (qx 6, .inl (Y 0, 40, .inl x_low)), (qx 7, .inl (Y 0, 40, .inl x_high))]) (rnS (As := [.int (-2 : Int32)]) (rest := []) ⟨hx, hb, hml, hown, hts⟩ (c_X9_told l G Y H.size (-2 : Int32) r19 hc) (va_cwS 1 hts gX9_lot_X9_told rfl rfl rfl (by decide +kernel) ⟨(Nat.le_of_ble_eq_true rfl), (Nat.le_of_ble_eq_true rfl)⟩) trivial okT hK hP hD [] rfl rfl rfl hl.1 rfl (Nat.le_of_ble_eq_true rfl) dX9_lot_14) hP hD hS hA [] [0, 1, 2] [0, 1, 2] rfl rfl rfl (by decide) rfl rfl (fun H locs hP hD hS => ?_)
      have e0 := rt1 hf
      exact W.lret (v := r19) hx hb hr (fun t ht hW => ⟨⟨r19, (), rfl, e0, by rw [ht]; exact hP, va_K.moved hW.alike hK, by rw [hAe]; exact hD⟩, hS.F ht⟩) hS.2.2 dX9_lot_17
  exact E0 s.heap [] hP hD hS ls hl
-- X9_isUnder
set_option maxRecDepth 100000 in
set_option maxHeartbeats 4000000 in
theorem c_X9_isUnder (l : Launch) (G : va_G) (Y : Nat → ClassId) (sz : Nat) (p1 : Int32) (p2 : Int32) (rv : Int32) (hf : f_X9_isUnder p1 p2 = some (rv)) : Met l yX9_isUnder wsX9_isUnder (rmk 0 0) (va_Pc [.int p1, .int p2] (Pre G (tys Y) [] sz xT)) (va_Qi (fun (r : Int32) (_ : Unit) => r = rv) (Pst G (tys Y) [] sz []) (va_A [] sz)) 0 0 (va_A [] sz) := by
  refine Met.ofW (cc := cX9_isUnder) (maxL := 2) (ret := (some .boolean)) (by decide) rfl ?_
  intro p e s m args below meth c s₁ B hml hv
  obtain ⟨rfl, hsz, hP, hK, hD0, hX⟩ := hv
  have hx := B.exec
  have hb := B.bytes
  have hr := B.returns
  have hts := atoms_spec (ws := wsX9_isUnder) B.pre
  have hown : s.vm.findClass RX9 = some m.cls := findClass_of_methodNamed B.named
  have hlocks := B.notSynchronized
  subst hsz
  have hD := hD0.self (sz := s.heap.size)
  generalize hAe : va_A [] s.heap.size = A at hD ⊢
  have hA : ∀ q : Nat, s.heap.size ≤ q → A q := fun q h => by rw [← hAe]; exact Or.inr h
  have hS : va_S A s.heap s.heap [] := va_S.rf
  have hP : va_P G vwCl [] s.heap := hP
  have hl := lv_entry ([.int p1, .int p2]) (n := 2) (Nat.le_of_ble_eq_true rfl)
  rw [lg_entry_eq]
  generalize (lg_sl ([.int p1, .int p2]) ++ List.replicate (2 - (lg_sl ([.int p1, .int p2])).length) Slot.unset).toArray = ls at hl ⊢
  have hl : lv_has ls 2 [(0, .int p1), (1, .int p2)] := hl
  have B19 : f_X9_isUnder_b19 p1 p2 = some (rv) → ∀ (H : Heap) (locs : List Loc), va_P G vwCl [] H → va_D A [] → va_S A s.heap H locs → ∀ (ls : Array Slot), lv_has ls 2 [(0, .int p1), (1, .int p2)] → W p l e (headSpec wsX9_isUnder (rmk 0 0)).room s m [.int p1, .int p2].toArray below meth c H locs 0 0 (MQ below (va_Qi (fun (r : Int32) (_ : Unit) => r = rv) (Pst G (tys Y) [] s.heap.size []) A) [.int p1, .int p2].toArray s 0 0 A) (F0 m 19 ls []) := by
    intro hf H locs hP hD hS ls hl
    unfold f_X9_isUnder_b19 at hf
    refine lv_iload_n hx hb dX9_isUnder_19 rfl (lv_at hl 1 rfl) ?_
    refine lv_iconst (v := 2) hx hb dX9_isUnder_20 (by decide) ?_
    refine lv_icmp_ne (tgt := 33) hx hb dX9_isUnder_21 (by decide) (fun c1 => ?_) (fun c1 => ?_)
    · have hf := ie hf c1
      refine lv_iconst (v := 0) hx hb dX9_isUnder_33 (by decide) ?_
      have e0 := rt1 hf
      exact W.zret (v := (0 : Int32)) hx hb hr rfl (fun t ht hW => ⟨⟨(0 : Int32), (), rfl, e0, by rw [ht]; exact hP, va_K.moved hW.alike hK, by rw [hAe]; exact hD⟩, hS.F ht⟩) hS.2.2 dX9_isUnder_34
    · have hf := it hf c1
      refine lv_iload_n hx hb dX9_isUnder_24 rfl (lv_at hl 0 rfl) ?_
      refine lv_iconst (v := 4) hx hb dX9_isUnder_25 (by decide) ?_
      refine lv_icmp_ne (tgt := 33) hx hb dX9_isUnder_26 (by decide) (fun c2 => ?_) (fun c2 => ?_)
      · have hf := ie hf c2
        refine lv_iconst (v := 0) hx hb dX9_isUnder_33 (by decide) ?_
        have e0 := rt1 hf
        exact W.zret (v := (0 : Int32)) hx hb hr rfl (fun t ht hW => ⟨⟨(0 : Int32), (), rfl, e0, by rw [ht]; exact hP, va_K.moved hW.alike hK, by rw [hAe]; exact hD⟩, hS.F ht⟩) hS.2.2 dX9_isUnder_34
      · have hf := it hf c2
        refine lv_iconst (v := 1) hx hb dX9_isUnder_29 (by decide) ?_
        refine lv_goto (tgt := 34) hx hb dX9_isUnder_30 (by decide) ?_
        have e0 := rt1 hf
        exact W.zret (v := (1 : Int32)) hx hb hr rfl (fun t ht hW => ⟨⟨(1 : Int32), (), rfl, e0, by rw [ht]; exact hP, va_K.moved hW.alike hK, by rw [hAe]; exact hD⟩, hS.F ht⟩) hS.2.2 dX9_isUnder_34
  have E0 : ∀ (H : Heap) (locs : List Loc), va_P G vwCl [] H → va_D A [] → va_S A s.heap H locs → ∀ (ls : Array Slot), lv_has ls 2 [(0, .int p1), (1, .int p2)] → W p l e (headSpec wsX9_isUnder (rmk 0 0)).room s m [.int p1, .int p2].toArray below meth c H locs 0 0 (MQ below (va_Qi (fun (r : Int32) (_ : Unit) => r = rv) (Pst G (tys Y) [] s.heap.size []) A) [.int p1, .int p2].toArray s 0 0 A) (F0 m 0 ls []) := by
    intro H locs hP hD hS ls hl
    unfold f_X9_isUnder at hf
    refine lv_iload_n hx hb dX9_isUnder_0 rfl (lv_at hl 1 rfl) ?_
    refine lv_if_eq (tgt := 29) hx hb dX9_isUnder_1 (by decide) (fun c3 => ?_) (fun c3 => ?_)
    · have hf := it hf c3
      refine lv_iconst (v := 1) hx hb dX9_isUnder_29 (by decide) ?_
      refine lv_goto (tgt := 34) hx hb dX9_isUnder_30 (by decide) ?_
      have e0 := rt1 hf
      exact W.zret (v := (1 : Int32)) hx hb hr rfl (fun t ht hW => ⟨⟨(1 : Int32), (), rfl, e0, by rw [ht]; exact hP, va_K.moved hW.alike hK, by rw [hAe]; exact hD⟩, hS.F ht⟩) hS.2.2 dX9_isUnder_34
    · have hf := ie hf c3
      refine lv_iload_n hx hb dX9_isUnder_4 rfl (lv_at hl 0 rfl) ?_
      refine lv_iload_n hx hb dX9_isUnder_5 rfl (lv_at hl 1 rfl) ?_
      refine lv_icmp_eq (tgt := 29) hx hb dX9_isUnder_6 (by decide) (fun c4 => ?_) (fun c4 => ?_)
      · have hf := it hf c4
        refine lv_iconst (v := 1) hx hb dX9_isUnder_29 (by decide) ?_
        refine lv_goto (tgt := 34) hx hb dX9_isUnder_30 (by decide) ?_
        have e0 := rt1 hf
        exact W.zret (v := (1 : Int32)) hx hb hr rfl (fun t ht hW => ⟨⟨(1 : Int32), (), rfl, e0, by rw [ht]; exact hP, va_K.moved hW.alike hK, by rw [hAe]; exact hD⟩, hS.F ht⟩) hS.2.2 dX9_isUnder_34
      · have hf := ie hf c4
        refine lv_iload_n hx hb dX9_isUnder_9 rfl (lv_at hl 1 rfl) ?_
        refine lv_iconst (v := 1) hx hb dX9_isUnder_10 (by decide) ?_
        refine lv_icmp_ne (tgt := 19) hx hb dX9_isUnder_11 (by decide) (fun c5 => ?_) (fun c5 => ?_)
        · have hf := ie hf c5
          exact B19 hf _ _ hP hD hS ls (lv_sub hl [0, 1] rfl)
        · have hf := it hf c5
          refine lv_iload_n hx hb dX9_isUnder_14 rfl (lv_at hl 0 rfl) ?_
          refine lv_iconst (v := 3) hx hb dX9_isUnder_15 (by decide) ?_
          refine lv_icmp_eq (tgt := 29) hx hb dX9_isUnder_16 (by decide) (fun c6 => ?_) (fun c6 => ?_)
          · have hf := it hf c6
            refine lv_iconst (v := 1) hx hb dX9_isUnder_29 (by decide) ?_
            refine lv_goto (tgt := 34) hx hb dX9_isUnder_30 (by decide) ?_
            have e0 := rt1 hf
            exact W.zret (v := (1 : Int32)) hx hb hr rfl (fun t ht hW => ⟨⟨(1 : Int32), (), rfl, e0, by rw [ht]; exact hP, va_K.moved hW.alike hK, by rw [hAe]; exact hD⟩, hS.F ht⟩) hS.2.2 dX9_isUnder_34
          · have hf := ie hf c6
            exact B19 hf _ _ hP hD hS ls (lv_sub hl [0, 1] rfl)
  exact E0 s.heap [] hP hD hS ls hl
-- X9_rack
set_option maxRecDepth 100000 in
set_option maxHeartbeats 4000000 in
theorem c_X9_rack (l : Launch) (G : va_G) (Y : Nat → ClassId) (sz : Nat) (qx : Nat → Nat) (x_points : Int32) (x_lines : Int32) (x_tide : Int32) (x_isKept : Int32) (x_isMuch : Int32) (x_sum : Int64) (x_once : Int64) (x_twice : Int64) (x_isTermMuch : Int32) (x_nodes : Int32) (x_newMany : Int32) (x_isTooGreat : Int32) (x_come : Int32) (x_foundSet : Int64) (x_rackKind : Nat → Int32) (x_rackSize : Nat → Int32) (x_rackHeld : Nat → Int32) (p1 : Int32) (p2 : Int32) (p3 : Int32) (rv : Int32) (o_x_rackKind : Nat → Int32) (o_x_rackSize : Nat → Int32) (o_x_rackHeld : Nat → Int32) (hf : f_X9_rack x_rackKind x_rackSize x_rackHeld p1 p2 p3 = some (rv, o_x_rackKind, o_x_rackSize, o_x_rackHeld)) : Met l yX9_rack wsX9_rack (rmk 1 25) (va_Pc [.ref (qx 0), .int p1, .int p2, .int p3] (Pre G (tys Y) [(qx 0, oX9 qx x_points x_lines x_tide x_isKept x_isMuch x_sum x_once x_twice x_isTermMuch x_nodes x_newMany x_isTooGreat x_come x_foundSet), (qx 30, .inl (Y 0, 3, .inl x_rackKind)), (qx 31, .inl (Y 0, 3, .inl x_rackSize)), (qx 32, .inl (Y 0, 60, .inl x_rackHeld))] sz xT)) (va_Qi (fun (r : Int32) (_ : Unit) => r = rv) (Pst G (tys Y) [(qx 0, oX9 qx x_points x_lines x_tide x_isKept x_isMuch x_sum x_once x_twice x_isTermMuch x_nodes x_newMany x_isTooGreat x_come x_foundSet), (qx 30, .inl (Y 0, 3, .inl x_rackKind)), (qx 31, .inl (Y 0, 3, .inl x_rackSize)), (qx 32, .inl (Y 0, 60, .inl x_rackHeld))] sz [(qx 0, oX9 qx x_points x_lines x_tide x_isKept x_isMuch x_sum x_once x_twice x_isTermMuch x_nodes x_newMany x_isTooGreat x_come x_foundSet), (qx 30, .inl (Y 0, 3, .inl o_x_rackKind)), (qx 31, .inl (Y 0, 3, .inl o_x_rackSize)), (qx 32, .inl (Y 0, 60, .inl o_x_rackHeld))]) (va_A [(qx 0, oX9 qx x_points x_lines x_tide x_isKept x_isMuch x_sum x_once x_twice x_isTermMuch x_nodes x_newMany x_isTooGreat x_come x_foundSet), (qx 30, .inl (Y 0, 3, .inl x_rackKind)), (qx 31, .inl (Y 0, 3, .inl x_rackSize)), (qx 32, .inl (Y 0, 60, .inl x_rackHeld))] sz)) 0 0 (va_A [(qx 0, oX9 qx x_points x_lines x_tide x_isKept x_isMuch x_sum x_once x_twice x_isTermMuch x_nodes x_newMany x_isTooGreat x_come x_foundSet), (qx 30, .inl (Y 0, 3, .inl x_rackKind)), (qx 31, .inl (Y 0, 3, .inl x_rackSize)), (qx 32, .inl (Y 0, 60, .inl x_rackHeld))] sz) := by
  refine Met.ofW (cc := cX9_rack) (maxL := 5) (ret := (some .int)) (by decide) rfl ?_
  intro p e s m args below meth c s₁ B hml hv
  obtain ⟨rfl, hsz, hP, hK, hD0, hX⟩ := hv
  have hx := B.exec
  have hb := B.bytes
  have hr := B.returns
  have hts := atoms_spec (ws := wsX9_rack) B.pre
  have hown : s.vm.findClass RX9 = some m.cls := findClass_of_methodNamed B.named
  have hlocks := B.notSynchronized
  subst hsz
  have hD := hD0.self (sz := s.heap.size)
  generalize hAe : va_A [(qx 0, oX9 qx x_points x_lines x_tide x_isKept x_isMuch x_sum x_once x_twice x_isTermMuch x_nodes x_newMany x_isTooGreat x_come x_foundSet), (qx 30, .inl (Y 0, 3, .inl x_rackKind)), (qx 31, .inl (Y 0, 3, .inl x_rackSize)), (qx 32, .inl (Y 0, 60, .inl x_rackHeld))] s.heap.size = A at hD ⊢
  have hA : ∀ q : Nat, s.heap.size ≤ q → A q := fun q h => by rw [← hAe]; exact Or.inr h
  have hS : va_S A s.heap s.heap [] := va_S.rf
  have hP : va_P G vwCl [(qx 0, oX9 qx x_points x_lines x_tide x_isKept x_isMuch x_sum x_once x_twice x_isTermMuch x_nodes x_newMany x_isTooGreat x_come x_foundSet), (qx 30, .inl (Y 0, 3, .inl x_rackKind)), (qx 31, .inl (Y 0, 3, .inl x_rackSize)), (qx 32, .inl (Y 0, 60, .inl x_rackHeld))] s.heap := hP
  have wd1 : (Cond.constantLong RX9 302 (2)).before [.ref (qx 0), .int p1, .int p2, .int p3].toArray s = true := hts _ (List.mem_of_getElem? (i := 1) rfl)
  have wd2 : (Cond.constantLong RX9 84 (-1)).before [.ref (qx 0), .int p1, .int p2, .int p3].toArray s = true := hts _ (List.mem_of_getElem? (i := 2) rfl)
  have wd3 : (Cond.constantLong RX9 120 (5)).before [.ref (qx 0), .int p1, .int p2, .int p3].toArray s = true := hts _ (List.mem_of_getElem? (i := 3) rfl)
  have wd4 : (Cond.fieldLink RX9 56 "PairedLinesModel" "rackKind" "[I").before [.ref (qx 0), .int p1, .int p2, .int p3].toArray s = true := hts _ (List.mem_of_getElem? (i := 4) rfl)
  have wd5 : (Cond.fieldLink RX9 59 "PairedLinesModel" "rackSize" "[I").before [.ref (qx 0), .int p1, .int p2, .int p3].toArray s = true := hts _ (List.mem_of_getElem? (i := 5) rfl)
  have wd6 : (Cond.fieldLink RX9 62 "PairedLinesModel" "rackHeld" "[I").before [.ref (qx 0), .int p1, .int p2, .int p3].toArray s = true := hts _ (List.mem_of_getElem? (i := 6) rfl)
  have inX9w : ∀ w ∈ u_ws RX9 TX9 37, w ∈ wsX9_rack := fun w hw => List.mem_cons_of_mem _ (List.mem_append_right _ (hw))
  have hl := lv_entry ([.ref (qx 0), .int p1, .int p2, .int p3]) (n := 5) (Nat.le_of_ble_eq_true rfl)
  rw [lg_entry_eq]
  generalize (lg_sl ([.ref (qx 0), .int p1, .int p2, .int p3]) ++ List.replicate (5 - (lg_sl ([.ref (qx 0), .int p1, .int p2, .int p3])).length) Slot.unset).toArray = ls at hl ⊢
  have hl : lv_has ls 5 [(0, .ref (qx 0)), (1, .int p1), (2, .int p2), (3, .int p3)] := hl
  have B75 : ∀ (n75 : Nat), ∀ (b_x_rackKind : Nat → Int32) (b_x_rackSize : Nat → Int32) (b_x_rackHeld : Nat → Int32) (x4 : Int32), f_X9_rack_b75 p1 p2 p3 n75 b_x_rackKind b_x_rackSize b_x_rackHeld x4 = some (rv, o_x_rackKind, o_x_rackSize, o_x_rackHeld) → ∀ (H : Heap) (locs : List Loc), va_P G vwCl [(qx 0, oX9 qx x_points x_lines x_tide x_isKept x_isMuch x_sum x_once x_twice x_isTermMuch x_nodes x_newMany x_isTooGreat x_come x_foundSet), (qx 30, .inl (Y 0, 3, .inl b_x_rackKind)), (qx 31, .inl (Y 0, 3, .inl b_x_rackSize)), (qx 32, .inl (Y 0, 60, .inl b_x_rackHeld))] H → va_D A [(qx 0, oX9 qx x_points x_lines x_tide x_isKept x_isMuch x_sum x_once x_twice x_isTermMuch x_nodes x_newMany x_isTooGreat x_come x_foundSet), (qx 30, .inl (Y 0, 3, .inl b_x_rackKind)), (qx 31, .inl (Y 0, 3, .inl b_x_rackSize)), (qx 32, .inl (Y 0, 60, .inl b_x_rackHeld))] → va_S A s.heap H locs → ∀ (ls : Array Slot), lv_has ls 5 [(0, .ref (qx 0)), (1, .int p1), (4, .int x4)] → W p l e (headSpec wsX9_rack (rmk 1 25)).room s m [.ref (qx 0), .int p1, .int p2, .int p3].toArray below meth c H locs 0 0 (MQ below (va_Qi (fun (r : Int32) (_ : Unit) => r = rv) (Pst G (tys Y) [(qx 0, oX9 qx x_points x_lines x_tide x_isKept x_isMuch x_sum x_once x_twice x_isTermMuch x_nodes x_newMany x_isTooGreat x_come x_foundSet), (qx 30, .inl (Y 0, 3, .inl x_rackKind)), (qx 31, .inl (Y 0, 3, .inl x_rackSize)), (qx 32, .inl (Y 0, 60, .inl x_rackHeld))] s.heap.size [(qx 0, oX9 qx x_points x_lines x_tide x_isKept x_isMuch x_sum x_once x_twice x_isTermMuch x_nodes x_newMany x_isTooGreat x_come x_foundSet), (qx 30, .inl (Y 0, 3, .inl o_x_rackKind)), (qx 31, .inl (Y 0, 3, .inl o_x_rackSize)), (qx 32, .inl (Y 0, 60, .inl o_x_rackHeld))]) A) [.ref (qx 0), .int p1, .int p2, .int p3].toArray s 0 0 A) (F0 m 75 ls []) := by
    intro n75
    induction n75 with
    | zero =>
      intro b_x_rackKind b_x_rackSize b_x_rackHeld x4 hf H locs hP hD hS ls hl
      exact no_none hf
    | succ n75 ih75 =>
      intro b_x_rackKind b_x_rackSize b_x_rackHeld x4 hf H locs hP hD hS ls hl
      have hf : f_X9_rack_s75 p1 p2 p3 (f_X9_rack_b75 p1 p2 p3  n75) b_x_rackKind b_x_rackSize b_x_rackHeld x4 = some (rv, o_x_rackKind, o_x_rackSize, o_x_rackHeld) := hf
      unfold f_X9_rack_s75 at hf
      refine lv_iload hx hb dX9_rack_75 (lv_at hl 2 rfl) ?_
      refine lv_bipush (v := 20) hx hb dX9_rack_77 (by decide) ?_
      refine lv_icmp_ge (tgt := 101) hx hb dX9_rack_79 (by decide) (fun c1 => ?_) (fun c1 => ?_)
      · have hf := it hf c1
        refine lv_iconst (v := 1) hx hb dX9_rack_101 (by decide) ?_
        obtain ⟨e0, e1, e2, e3⟩ := rt4 hf
        have hP : va_P G vwCl [(qx 0, oX9 qx x_points x_lines x_tide x_isKept x_isMuch x_sum x_once x_twice x_isTermMuch x_nodes x_newMany x_isTooGreat x_come x_foundSet), (qx 30, .inl (Y 0, 3, .inl o_x_rackKind)), (qx 31, .inl (Y 0, 3, .inl o_x_rackSize)), (qx 32, .inl (Y 0, 60, .inl o_x_rackHeld))] H := by rw [← e1, ← e2, ← e3]; exact hP
        have hD : va_D A [(qx 0, oX9 qx x_points x_lines x_tide x_isKept x_isMuch x_sum x_once x_twice x_isTermMuch x_nodes x_newMany x_isTooGreat x_come x_foundSet), (qx 30, .inl (Y 0, 3, .inl o_x_rackKind)), (qx 31, .inl (Y 0, 3, .inl o_x_rackSize)), (qx 32, .inl (Y 0, 60, .inl o_x_rackHeld))] := by rw [← e1, ← e2, ← e3]; exact hD
        exact W.iret (v := (1 : Int32)) hx hb hr (fun t ht hW => ⟨⟨(1 : Int32), (), rfl, e0, by rw [ht]; exact hP, va_K.moved hW.alike hK, by rw [hAe]; exact hD⟩, hS.F ht⟩) hS.2.2 dX9_rack_102
      · have hf := ie hf c1
        refine lv_aload_n hx hb dX9_rack_82 rfl (lv_at hl 0 rfl) ?_
        refine va_get (D := G) (ci := 7) (v := .ref (qx 32)) (C := RX9) (T := TX9) (N := 37) hx hb hts inX9w hown hK hP 0 rfl rfl 31 (by decide) wd6 (fun _ h9 => h9) rfl dX9_rack_83 ?_
        refine lv_bipush (v := 20) hx hb dX9_rack_86 (by decide) ?_
        refine lv_iload_n hx hb dX9_rack_88 rfl (lv_at hl 1 rfl) ?_
        refine lv_imul hx hb dX9_rack_89 ?_
        refine lv_iload hx hb dX9_rack_90 (lv_at hl 2 rfl) ?_
        refine lv_iadd hx hb dX9_rack_92 ?_
        refine lv_iconst (v := -1) hx hb dX9_rack_93 (by decide) ?_
        obtain ⟨g2, hf⟩ := gd hf
        refine va_iast hx hb hK hP hD hS 3 0 rfl rfl g2 dX9_rack_94 (fun H locs hP hD hS => ?_)
        obtain ⟨v3, e_v3⟩ : ∃ z : Nat → Int32, z = upd b_x_rackHeld (((20 : Int32) * p1) + x4).toNatClampNeg (-1 : Int32) := ⟨_, rfl⟩
        have hf := nm_at hf e_v3
        have hP : va_P G vwCl [(qx 0, oX9 qx x_points x_lines x_tide x_isKept x_isMuch x_sum x_once x_twice x_isTermMuch x_nodes x_newMany x_isTooGreat x_come x_foundSet), (qx 30, .inl (Y 0, 3, .inl b_x_rackKind)), (qx 31, .inl (Y 0, 3, .inl b_x_rackSize)), (qx 32, .inl (Y 0, 60, .inl v3))] H := by rw [e_v3]; exact hP
        have hD : va_D A [(qx 0, oX9 qx x_points x_lines x_tide x_isKept x_isMuch x_sum x_once x_twice x_isTermMuch x_nodes x_newMany x_isTooGreat x_come x_foundSet), (qx 30, .inl (Y 0, 3, .inl b_x_rackKind)), (qx 31, .inl (Y 0, 3, .inl b_x_rackSize)), (qx 32, .inl (Y 0, 60, .inl v3))] := by rw [e_v3]; exact hD
        obtain ⟨v4, e_v4⟩ : ∃ z : Int32, z = (x4 + 1) := ⟨_, rfl⟩
        have hf := nm_at hf e_v4
        refine lv_iinc (v := v4) (lv' := [(4, .int v4), (0, .ref (qx 0)), (1, .int p1)]) hx hb dX9_rack_95 hl (k := 2) rfl (by rw [e_v4]; rfl) (by decide) rfl (fun ls hl => ?_)
        refine lv_goto (tgt := 75) hx hb dX9_rack_98 (by decide) ?_
        exact ih75 b_x_rackKind b_x_rackSize v3 v4 hf _ _ hP hD hS ls (lv_sub hl [1, 2, 0] rfl)
  have B50 : ∀ (b_x_rackKind : Nat → Int32) (b_x_rackSize : Nat → Int32) (b_x_rackHeld : Nat → Int32), f_X9_rack_b50 p1 p2 p3 b_x_rackKind b_x_rackSize b_x_rackHeld = some (rv, o_x_rackKind, o_x_rackSize, o_x_rackHeld) → ∀ (H : Heap) (locs : List Loc), va_P G vwCl [(qx 0, oX9 qx x_points x_lines x_tide x_isKept x_isMuch x_sum x_once x_twice x_isTermMuch x_nodes x_newMany x_isTooGreat x_come x_foundSet), (qx 30, .inl (Y 0, 3, .inl b_x_rackKind)), (qx 31, .inl (Y 0, 3, .inl b_x_rackSize)), (qx 32, .inl (Y 0, 60, .inl b_x_rackHeld))] H → va_D A [(qx 0, oX9 qx x_points x_lines x_tide x_isKept x_isMuch x_sum x_once x_twice x_isTermMuch x_nodes x_newMany x_isTooGreat x_come x_foundSet), (qx 30, .inl (Y 0, 3, .inl b_x_rackKind)), (qx 31, .inl (Y 0, 3, .inl b_x_rackSize)), (qx 32, .inl (Y 0, 60, .inl b_x_rackHeld))] → va_S A s.heap H locs → ∀ (ls : Array Slot), lv_has ls 5 [(0, .ref (qx 0)), (1, .int p1), (2, .int p2), (3, .int p3)] → W p l e (headSpec wsX9_rack (rmk 1 25)).room s m [.ref (qx 0), .int p1, .int p2, .int p3].toArray below meth c H locs 0 0 (MQ below (va_Qi (fun (r : Int32) (_ : Unit) => r = rv) (Pst G (tys Y) [(qx 0, oX9 qx x_points x_lines x_tide x_isKept x_isMuch x_sum x_once x_twice x_isTermMuch x_nodes x_newMany x_isTooGreat x_come x_foundSet), (qx 30, .inl (Y 0, 3, .inl x_rackKind)), (qx 31, .inl (Y 0, 3, .inl x_rackSize)), (qx 32, .inl (Y 0, 60, .inl x_rackHeld))] s.heap.size [(qx 0, oX9 qx x_points x_lines x_tide x_isKept x_isMuch x_sum x_once x_twice x_isTermMuch x_nodes x_newMany x_isTooGreat x_come x_foundSet), (qx 30, .inl (Y 0, 3, .inl o_x_rackKind)), (qx 31, .inl (Y 0, 3, .inl o_x_rackSize)), (qx 32, .inl (Y 0, 60, .inl o_x_rackHeld))]) A) [.ref (qx 0), .int p1, .int p2, .int p3].toArray s 0 0 A) (F0 m 50 ls []) := by
    intro b_x_rackKind b_x_rackSize b_x_rackHeld hf H locs hP hD hS ls hl
    unfold f_X9_rack_b50 at hf
    refine lv_aload_n hx hb dX9_rack_50 rfl (lv_at hl 0 rfl) ?_
    refine va_get (D := G) (ci := 7) (v := .ref (qx 30)) (C := RX9) (T := TX9) (N := 37) hx hb hts inX9w hown hK hP 0 rfl rfl 29 (by decide) wd4 (fun _ h9 => h9) rfl dX9_rack_51 ?_
    refine lv_iload_n hx hb dX9_rack_54 rfl (lv_at hl 1 rfl) ?_
    refine lv_iload_n hx hb dX9_rack_55 rfl (lv_at hl 2 rfl) ?_
    obtain ⟨g5, hf⟩ := gd hf
    refine va_iast hx hb hK hP hD hS 1 0 rfl rfl g5 dX9_rack_56 (fun H locs hP hD hS => ?_)
    obtain ⟨v6, e_v6⟩ : ∃ z : Nat → Int32, z = upd b_x_rackKind p1.toNatClampNeg p2 := ⟨_, rfl⟩
    have hf := nm_at hf e_v6
    have hP : va_P G vwCl [(qx 0, oX9 qx x_points x_lines x_tide x_isKept x_isMuch x_sum x_once x_twice x_isTermMuch x_nodes x_newMany x_isTooGreat x_come x_foundSet), (qx 30, .inl (Y 0, 3, .inl v6)), (qx 31, .inl (Y 0, 3, .inl b_x_rackSize)), (qx 32, .inl (Y 0, 60, .inl b_x_rackHeld))] H := by rw [e_v6]; exact hP
    have hD : va_D A [(qx 0, oX9 qx x_points x_lines x_tide x_isKept x_isMuch x_sum x_once x_twice x_isTermMuch x_nodes x_newMany x_isTooGreat x_come x_foundSet), (qx 30, .inl (Y 0, 3, .inl v6)), (qx 31, .inl (Y 0, 3, .inl b_x_rackSize)), (qx 32, .inl (Y 0, 60, .inl b_x_rackHeld))] := by rw [e_v6]; exact hD
    refine lv_aload_n hx hb dX9_rack_57 rfl (lv_at hl 0 rfl) ?_
    refine va_get (D := G) (ci := 7) (v := .ref (qx 31)) (C := RX9) (T := TX9) (N := 37) hx hb hts inX9w hown hK hP 0 rfl rfl 30 (by decide) wd5 (fun _ h9 => h9) rfl dX9_rack_58 ?_
    refine lv_iload_n hx hb dX9_rack_61 rfl (lv_at hl 1 rfl) ?_
    refine lv_iload_n hx hb dX9_rack_62 rfl (lv_at hl 2 rfl) ?_
    refine lv_if_ge (tgt := 70) hx hb dX9_rack_63 (by decide) (fun c7 => ?_) (fun c7 => ?_)
    · have hf := it hf c7
      refine lv_iload_n hx hb dX9_rack_70 rfl (lv_at hl 3 rfl) ?_
      obtain ⟨g8, hf⟩ := gd hf
      refine va_iast hx hb hK hP hD hS 2 0 rfl rfl g8 dX9_rack_71 (fun H locs hP hD hS => ?_)
      obtain ⟨v9, e_v9⟩ : ∃ z : Nat → Int32, z = upd b_x_rackSize p1.toNatClampNeg p3 := ⟨_, rfl⟩
      have hf := nm_at hf e_v9
      have hP : va_P G vwCl [(qx 0, oX9 qx x_points x_lines x_tide x_isKept x_isMuch x_sum x_once x_twice x_isTermMuch x_nodes x_newMany x_isTooGreat x_come x_foundSet), (qx 30, .inl (Y 0, 3, .inl v6)), (qx 31, .inl (Y 0, 3, .inl v9)), (qx 32, .inl (Y 0, 60, .inl b_x_rackHeld))] H := by rw [e_v9]; exact hP
      have hD : va_D A [(qx 0, oX9 qx x_points x_lines x_tide x_isKept x_isMuch x_sum x_once x_twice x_isTermMuch x_nodes x_newMany x_isTooGreat x_come x_foundSet), (qx 30, .inl (Y 0, 3, .inl v6)), (qx 31, .inl (Y 0, 3, .inl v9)), (qx 32, .inl (Y 0, 60, .inl b_x_rackHeld))] := by rw [e_v9]; exact hD
      refine lv_iconst (v := 0) hx hb dX9_rack_72 (by decide) ?_
      refine lv_istore (lv' := [(4, .int (0 : Int32)), (0, .ref (qx 0)), (1, .int p1), (2, .int p2), (3, .int p3)]) hx hb dX9_rack_73 hl (by decide) rfl (fun ls hl => ?_)
      exact B75 70 v6 v9 b_x_rackHeld (0 : Int32) hf _ _ hP hD hS ls (lv_sub hl [1, 2, 0] rfl)
    · have hf := ie hf c7
      refine lv_iconst (v := 0) hx hb dX9_rack_66 (by decide) ?_
      refine lv_goto (tgt := 71) hx hb dX9_rack_67 (by decide) ?_
      obtain ⟨g10, hf⟩ := gd hf
      refine va_iast hx hb hK hP hD hS 2 0 rfl rfl g10 dX9_rack_71 (fun H locs hP hD hS => ?_)
      obtain ⟨v11, e_v11⟩ : ∃ z : Nat → Int32, z = upd b_x_rackSize p1.toNatClampNeg (0 : Int32) := ⟨_, rfl⟩
      have hf := nm_at hf e_v11
      have hP : va_P G vwCl [(qx 0, oX9 qx x_points x_lines x_tide x_isKept x_isMuch x_sum x_once x_twice x_isTermMuch x_nodes x_newMany x_isTooGreat x_come x_foundSet), (qx 30, .inl (Y 0, 3, .inl v6)), (qx 31, .inl (Y 0, 3, .inl v11)), (qx 32, .inl (Y 0, 60, .inl b_x_rackHeld))] H := by rw [e_v11]; exact hP
      have hD : va_D A [(qx 0, oX9 qx x_points x_lines x_tide x_isKept x_isMuch x_sum x_once x_twice x_isTermMuch x_nodes x_newMany x_isTooGreat x_come x_foundSet), (qx 30, .inl (Y 0, 3, .inl v6)), (qx 31, .inl (Y 0, 3, .inl v11)), (qx 32, .inl (Y 0, 60, .inl b_x_rackHeld))] := by rw [e_v11]; exact hD
      refine lv_iconst (v := 0) hx hb dX9_rack_72 (by decide) ?_
      refine lv_istore (lv' := [(4, .int (0 : Int32)), (0, .ref (qx 0)), (1, .int p1), (2, .int p2), (3, .int p3)]) hx hb dX9_rack_73 hl (by decide) rfl (fun ls hl => ?_)
      exact B75 70 v6 v11 b_x_rackHeld (0 : Int32) hf _ _ hP hD hS ls (lv_sub hl [1, 2, 0] rfl)
  have B39 : ∀ (b_x_rackKind : Nat → Int32) (b_x_rackSize : Nat → Int32) (b_x_rackHeld : Nat → Int32), f_X9_rack_b39 p1 p2 p3 b_x_rackKind b_x_rackSize b_x_rackHeld = some (rv, o_x_rackKind, o_x_rackSize, o_x_rackHeld) → ∀ (H : Heap) (locs : List Loc), va_P G vwCl [(qx 0, oX9 qx x_points x_lines x_tide x_isKept x_isMuch x_sum x_once x_twice x_isTermMuch x_nodes x_newMany x_isTooGreat x_come x_foundSet), (qx 30, .inl (Y 0, 3, .inl b_x_rackKind)), (qx 31, .inl (Y 0, 3, .inl b_x_rackSize)), (qx 32, .inl (Y 0, 60, .inl b_x_rackHeld))] H → va_D A [(qx 0, oX9 qx x_points x_lines x_tide x_isKept x_isMuch x_sum x_once x_twice x_isTermMuch x_nodes x_newMany x_isTooGreat x_come x_foundSet), (qx 30, .inl (Y 0, 3, .inl b_x_rackKind)), (qx 31, .inl (Y 0, 3, .inl b_x_rackSize)), (qx 32, .inl (Y 0, 60, .inl b_x_rackHeld))] → va_S A s.heap H locs → ∀ (ls : Array Slot), lv_has ls 5 [(0, .ref (qx 0)), (1, .int p1), (2, .int p2), (3, .int p3)] → W p l e (headSpec wsX9_rack (rmk 1 25)).room s m [.ref (qx 0), .int p1, .int p2, .int p3].toArray below meth c H locs 0 0 (MQ below (va_Qi (fun (r : Int32) (_ : Unit) => r = rv) (Pst G (tys Y) [(qx 0, oX9 qx x_points x_lines x_tide x_isKept x_isMuch x_sum x_once x_twice x_isTermMuch x_nodes x_newMany x_isTooGreat x_come x_foundSet), (qx 30, .inl (Y 0, 3, .inl x_rackKind)), (qx 31, .inl (Y 0, 3, .inl x_rackSize)), (qx 32, .inl (Y 0, 60, .inl x_rackHeld))] s.heap.size [(qx 0, oX9 qx x_points x_lines x_tide x_isKept x_isMuch x_sum x_once x_twice x_isTermMuch x_nodes x_newMany x_isTooGreat x_come x_foundSet), (qx 30, .inl (Y 0, 3, .inl o_x_rackKind)), (qx 31, .inl (Y 0, 3, .inl o_x_rackSize)), (qx 32, .inl (Y 0, 60, .inl o_x_rackHeld))]) A) [.ref (qx 0), .int p1, .int p2, .int p3].toArray s 0 0 A) (F0 m 39 ls []) := by
    intro b_x_rackKind b_x_rackSize b_x_rackHeld hf H locs hP hD hS ls hl
    unfold f_X9_rack_b39 at hf
    refine lv_iload_n hx hb dX9_rack_39 rfl (lv_at hl 2 rfl) ?_
    refine lv_if_lt (tgt := 50) hx hb dX9_rack_40 (by decide) (fun c12 => ?_) (fun c12 => ?_)
    · have hf := it hf c12
      exact B50 b_x_rackKind b_x_rackSize b_x_rackHeld hf _ _ hP hD hS ls (lv_sub hl [0, 1, 2, 3] rfl)
    · have hf := ie hf c12
      refine lv_iload_n hx hb dX9_rack_43 rfl (lv_at hl 3 rfl) ?_
      refine lv_if_ge (tgt := 50) hx hb dX9_rack_44 (by decide) (fun c13 => ?_) (fun c13 => ?_)
      · have hf := it hf c13
        exact B50 b_x_rackKind b_x_rackSize b_x_rackHeld hf _ _ hP hD hS ls (lv_sub hl [0, 1, 2, 3] rfl)
      · have hf := ie hf c13
        refine lv_bipush (v := -14) hx hb dX9_rack_47 (by decide) ?_
        obtain ⟨e0, e1, e2, e3⟩ := rt4 hf
        have hP : va_P G vwCl [(qx 0, oX9 qx x_points x_lines x_tide x_isKept x_isMuch x_sum x_once x_twice x_isTermMuch x_nodes x_newMany x_isTooGreat x_come x_foundSet), (qx 30, .inl (Y 0, 3, .inl o_x_rackKind)), (qx 31, .inl (Y 0, 3, .inl o_x_rackSize)), (qx 32, .inl (Y 0, 60, .inl o_x_rackHeld))] H := by rw [← e1, ← e2, ← e3]; exact hP
        have hD : va_D A [(qx 0, oX9 qx x_points x_lines x_tide x_isKept x_isMuch x_sum x_once x_twice x_isTermMuch x_nodes x_newMany x_isTooGreat x_come x_foundSet), (qx 30, .inl (Y 0, 3, .inl o_x_rackKind)), (qx 31, .inl (Y 0, 3, .inl o_x_rackSize)), (qx 32, .inl (Y 0, 60, .inl o_x_rackHeld))] := by rw [← e1, ← e2, ← e3]; exact hD
        exact W.iret (v := (-14 : Int32)) hx hb hr (fun t ht hW => ⟨⟨(-14 : Int32), (), rfl, e0, by rw [ht]; exact hP, va_K.moved hW.alike hK, by rw [hAe]; exact hD⟩, hS.F ht⟩) hS.2.2 dX9_rack_49
  have E0 : ∀ (H : Heap) (locs : List Loc), va_P G vwCl [(qx 0, oX9 qx x_points x_lines x_tide x_isKept x_isMuch x_sum x_once x_twice x_isTermMuch x_nodes x_newMany x_isTooGreat x_come x_foundSet), (qx 30, .inl (Y 0, 3, .inl x_rackKind)), (qx 31, .inl (Y 0, 3, .inl x_rackSize)), (qx 32, .inl (Y 0, 60, .inl x_rackHeld))] H → va_D A [(qx 0, oX9 qx x_points x_lines x_tide x_isKept x_isMuch x_sum x_once x_twice x_isTermMuch x_nodes x_newMany x_isTooGreat x_come x_foundSet), (qx 30, .inl (Y 0, 3, .inl x_rackKind)), (qx 31, .inl (Y 0, 3, .inl x_rackSize)), (qx 32, .inl (Y 0, 60, .inl x_rackHeld))] → va_S A s.heap H locs → ∀ (ls : Array Slot), lv_has ls 5 [(0, .ref (qx 0)), (1, .int p1), (2, .int p2), (3, .int p3)] → W p l e (headSpec wsX9_rack (rmk 1 25)).room s m [.ref (qx 0), .int p1, .int p2, .int p3].toArray below meth c H locs 0 0 (MQ below (va_Qi (fun (r : Int32) (_ : Unit) => r = rv) (Pst G (tys Y) [(qx 0, oX9 qx x_points x_lines x_tide x_isKept x_isMuch x_sum x_once x_twice x_isTermMuch x_nodes x_newMany x_isTooGreat x_come x_foundSet), (qx 30, .inl (Y 0, 3, .inl x_rackKind)), (qx 31, .inl (Y 0, 3, .inl x_rackSize)), (qx 32, .inl (Y 0, 60, .inl x_rackHeld))] s.heap.size [(qx 0, oX9 qx x_points x_lines x_tide x_isKept x_isMuch x_sum x_once x_twice x_isTermMuch x_nodes x_newMany x_isTooGreat x_come x_foundSet), (qx 30, .inl (Y 0, 3, .inl o_x_rackKind)), (qx 31, .inl (Y 0, 3, .inl o_x_rackSize)), (qx 32, .inl (Y 0, 60, .inl o_x_rackHeld))]) A) [.ref (qx 0), .int p1, .int p2, .int p3].toArray s 0 0 A) (F0 m 0 ls []) := by
    intro H locs hP hD hS ls hl
    unfold f_X9_rack at hf
    refine lv_iload_n hx hb dX9_rack_0 rfl (lv_at hl 1 rfl) ?_
    refine lv_i2l hx hb dX9_rack_1 rfl ?_
    refine lv_lconst (v := 0) hx hb dX9_rack_2 (by decide) ?_
    refine lv_ldc2 hx hb hown wd1 dX9_rack_3 ?_
    obtain ⟨r14, hc, hf⟩ := bd1 hf
    refine cl_i (ws' := [(qx 0, oX9 qx x_points x_lines x_tide x_isKept x_isMuch x_sum x_once x_twice x_isTermMuch x_nodes x_newMany x_isTooGreat x_come x_foundSet), (qx 30, .inl (Y 0, 3, .inl x_rackKind)), (qx 31, .inl (Y 0, 3, .inl x_rackSize)), (qx 32, .inl (Y 0, 60, .inl x_rackHeld))]) (wr := [(qx 0, oX9 qx x_points x_lines x_tide x_isKept x_isMuch x_sum x_once x_twice x_isTermMuch x_nodes x_newMany x_isTooGreat x_come x_foundSet), (qx 30, .inl (Y 0, 3, .inl x_rackKind)), (qx 31, .inl (Y 0, 3, .inl x_rackSize)), (qx 32, .inl (Y 0, 60, .inl x_rackHeld))]) (rnS (As := [.long p1.toInt64, .long (0 : Int64), .long (2 : Int64)]) (rest := []) ⟨hx, hb, hml, hown, hts⟩ (c_X9_in l G Y H.size p1.toInt64 (0 : Int64) (2 : Int64) r14 hc) (va_cwS 3 hts gX9_rack_X9_in rfl rfl rfl (by decide +kernel) ⟨(Nat.le_of_ble_eq_true rfl), (Nat.le_of_ble_eq_true rfl)⟩) trivial okT hK hP hD [] rfl rfl rfl hl.1 rfl (Nat.le_of_ble_eq_true rfl) dX9_rack_6) hP hD hS hA [] [0, 1, 2, 3] [0, 1, 2, 3] rfl rfl rfl (by decide) rfl rfl (fun H locs hP hD hS => ?_)
    refine lv_if_eq (tgt := 36) hx hb dX9_rack_9 (by decide) (fun c15 => ?_) (fun c15 => ?_)
    · have hf := it hf c15
      refine lv_bipush (v := -2) hx hb dX9_rack_36 (by decide) ?_
      obtain ⟨e0, e1, e2, e3⟩ := rt4 hf
      have hP : va_P G vwCl [(qx 0, oX9 qx x_points x_lines x_tide x_isKept x_isMuch x_sum x_once x_twice x_isTermMuch x_nodes x_newMany x_isTooGreat x_come x_foundSet), (qx 30, .inl (Y 0, 3, .inl o_x_rackKind)), (qx 31, .inl (Y 0, 3, .inl o_x_rackSize)), (qx 32, .inl (Y 0, 60, .inl o_x_rackHeld))] H := by rw [← e1, ← e2, ← e3]; exact hP
      have hD : va_D A [(qx 0, oX9 qx x_points x_lines x_tide x_isKept x_isMuch x_sum x_once x_twice x_isTermMuch x_nodes x_newMany x_isTooGreat x_come x_foundSet), (qx 30, .inl (Y 0, 3, .inl o_x_rackKind)), (qx 31, .inl (Y 0, 3, .inl o_x_rackSize)), (qx 32, .inl (Y 0, 60, .inl o_x_rackHeld))] := by rw [← e1, ← e2, ← e3]; exact hD
      exact W.iret (v := (-2 : Int32)) hx hb hr (fun t ht hW => ⟨⟨(-2 : Int32), (), rfl, e0, by rw [ht]; exact hP, va_K.moved hW.alike hK, by rw [hAe]; exact hD⟩, hS.F ht⟩) hS.2.2 dX9_rack_38
    · have hf := ie hf c15
      refine lv_iload_n hx hb dX9_rack_12 rfl (lv_at hl 2 rfl) ?_
      refine lv_i2l hx hb dX9_rack_13 rfl ?_
      refine lv_ldc2 hx hb hown wd2 dX9_rack_14 ?_
      refine lv_ldc2 hx hb hown wd3 dX9_rack_17 ?_
      obtain ⟨r16, hc, hf⟩ := bd1 hf
      refine cl_i (ws' := [(qx 0, oX9 qx x_points x_lines x_tide x_isKept x_isMuch x_sum x_once x_twice x_isTermMuch x_nodes x_newMany x_isTooGreat x_come x_foundSet), (qx 30, .inl (Y 0, 3, .inl x_rackKind)), (qx 31, .inl (Y 0, 3, .inl x_rackSize)), (qx 32, .inl (Y 0, 60, .inl x_rackHeld))]) (wr := [(qx 0, oX9 qx x_points x_lines x_tide x_isKept x_isMuch x_sum x_once x_twice x_isTermMuch x_nodes x_newMany x_isTooGreat x_come x_foundSet), (qx 30, .inl (Y 0, 3, .inl x_rackKind)), (qx 31, .inl (Y 0, 3, .inl x_rackSize)), (qx 32, .inl (Y 0, 60, .inl x_rackHeld))]) (rnS (As := [.long p2.toInt64, .long (-1 : Int64), .long (5 : Int64)]) (rest := []) ⟨hx, hb, hml, hown, hts⟩ (c_X9_in l G Y H.size p2.toInt64 (-1 : Int64) (5 : Int64) r16 hc) (va_cwS 3 hts gX9_rack_X9_in rfl rfl rfl (by decide +kernel) ⟨(Nat.le_of_ble_eq_true rfl), (Nat.le_of_ble_eq_true rfl)⟩) trivial okT hK hP hD [] rfl rfl rfl hl.1 rfl (Nat.le_of_ble_eq_true rfl) dX9_rack_20) hP hD hS hA [] [0, 1, 2, 3] [0, 1, 2, 3] rfl rfl rfl (by decide) rfl rfl (fun H locs hP hD hS => ?_)
      refine lv_if_eq (tgt := 36) hx hb dX9_rack_23 (by decide) (fun c17 => ?_) (fun c17 => ?_)
      · have hf := it hf c17
        refine lv_bipush (v := -2) hx hb dX9_rack_36 (by decide) ?_
        obtain ⟨e0, e1, e2, e3⟩ := rt4 hf
        have hP : va_P G vwCl [(qx 0, oX9 qx x_points x_lines x_tide x_isKept x_isMuch x_sum x_once x_twice x_isTermMuch x_nodes x_newMany x_isTooGreat x_come x_foundSet), (qx 30, .inl (Y 0, 3, .inl o_x_rackKind)), (qx 31, .inl (Y 0, 3, .inl o_x_rackSize)), (qx 32, .inl (Y 0, 60, .inl o_x_rackHeld))] H := by rw [← e1, ← e2, ← e3]; exact hP
        have hD : va_D A [(qx 0, oX9 qx x_points x_lines x_tide x_isKept x_isMuch x_sum x_once x_twice x_isTermMuch x_nodes x_newMany x_isTooGreat x_come x_foundSet), (qx 30, .inl (Y 0, 3, .inl o_x_rackKind)), (qx 31, .inl (Y 0, 3, .inl o_x_rackSize)), (qx 32, .inl (Y 0, 60, .inl o_x_rackHeld))] := by rw [← e1, ← e2, ← e3]; exact hD
        exact W.iret (v := (-2 : Int32)) hx hb hr (fun t ht hW => ⟨⟨(-2 : Int32), (), rfl, e0, by rw [ht]; exact hP, va_K.moved hW.alike hK, by rw [hAe]; exact hD⟩, hS.F ht⟩) hS.2.2 dX9_rack_38
      · have hf := ie hf c17
        refine lv_iload_n hx hb dX9_rack_26 rfl (lv_at hl 2 rfl) ?_
        refine lv_if_lt (tgt := 39) hx hb dX9_rack_27 (by decide) (fun c18 => ?_) (fun c18 => ?_)
        · have hf := it hf c18
          exact B39 x_rackKind x_rackSize x_rackHeld hf _ _ hP hD hS ls (lv_sub hl [0, 1, 2, 3] rfl)
        · have hf := ie hf c18
          refine lv_iload_n hx hb dX9_rack_30 rfl (lv_at hl 3 rfl) ?_
          refine lv_bipush (v := 20) hx hb dX9_rack_31 (by decide) ?_
          refine lv_icmp_le (tgt := 39) hx hb dX9_rack_33 (by decide) (fun c19 => ?_) (fun c19 => ?_)
          · have hf := it hf c19
            exact B39 x_rackKind x_rackSize x_rackHeld hf _ _ hP hD hS ls (lv_sub hl [0, 1, 2, 3] rfl)
          · have hf := ie hf c19
            refine lv_bipush (v := -2) hx hb dX9_rack_36 (by decide) ?_
            obtain ⟨e0, e1, e2, e3⟩ := rt4 hf
            have hP : va_P G vwCl [(qx 0, oX9 qx x_points x_lines x_tide x_isKept x_isMuch x_sum x_once x_twice x_isTermMuch x_nodes x_newMany x_isTooGreat x_come x_foundSet), (qx 30, .inl (Y 0, 3, .inl o_x_rackKind)), (qx 31, .inl (Y 0, 3, .inl o_x_rackSize)), (qx 32, .inl (Y 0, 60, .inl o_x_rackHeld))] H := by rw [← e1, ← e2, ← e3]; exact hP
            have hD : va_D A [(qx 0, oX9 qx x_points x_lines x_tide x_isKept x_isMuch x_sum x_once x_twice x_isTermMuch x_nodes x_newMany x_isTooGreat x_come x_foundSet), (qx 30, .inl (Y 0, 3, .inl o_x_rackKind)), (qx 31, .inl (Y 0, 3, .inl o_x_rackSize)), (qx 32, .inl (Y 0, 60, .inl o_x_rackHeld))] := by rw [← e1, ← e2, ← e3]; exact hD
            exact W.iret (v := (-2 : Int32)) hx hb hr (fun t ht hW => ⟨⟨(-2 : Int32), (), rfl, e0, by rw [ht]; exact hP, va_K.moved hW.alike hK, by rw [hAe]; exact hD⟩, hS.F ht⟩) hS.2.2 dX9_rack_38
  exact E0 s.heap [] hP hD hS ls hl
-- X9_lay
set_option maxRecDepth 100000 in
set_option maxHeartbeats 4000000 in
theorem c_X9_lay (l : Launch) (G : va_G) (Y : Nat → ClassId) (sz : Nat) (qx : Nat → Nat) (x_points : Int32) (x_lines : Int32) (x_tide : Int32) (x_kind : Nat → Int32) (x_figure : Nat → Int32) (x_isKept : Int32) (x_isMuch : Int32) (x_sum : Int64) (x_once : Int64) (x_twice : Int64) (x_isTermMuch : Int32) (x_nodes : Int32) (x_newMany : Int32) (x_isTooGreat : Int32) (x_come : Int32) (x_foundSet : Int64) (x_rackKind : Nat → Int32) (x_rackSize : Nat → Int32) (x_rackHeld : Nat → Int32) (p1 : Int32) (p2 : Int32) (p3 : Int32) (rv : Int32) (o_x_rackHeld : Nat → Int32) (hf : f_X9_lay x_lines x_kind x_figure x_rackKind x_rackSize x_rackHeld p1 p2 p3 = some (rv, o_x_rackHeld)) : Met l yX9_lay wsX9_lay (rmk 2 46) (va_Pc [.ref (qx 0), .int p1, .int p2, .int p3] (Pre G (tys Y) [(qx 0, oX9 qx x_points x_lines x_tide x_isKept x_isMuch x_sum x_once x_twice x_isTermMuch x_nodes x_newMany x_isTooGreat x_come x_foundSet), (qx 4, .inl (Y 0, 40, .inl x_kind)), (qx 5, .inl (Y 0, 40, .inl x_figure)), (qx 30, .inl (Y 0, 3, .inl x_rackKind)), (qx 31, .inl (Y 0, 3, .inl x_rackSize)), (qx 32, .inl (Y 0, 60, .inl x_rackHeld))] sz xT)) (va_Qi (fun (r : Int32) (_ : Unit) => r = rv) (Pst G (tys Y) [(qx 0, oX9 qx x_points x_lines x_tide x_isKept x_isMuch x_sum x_once x_twice x_isTermMuch x_nodes x_newMany x_isTooGreat x_come x_foundSet), (qx 4, .inl (Y 0, 40, .inl x_kind)), (qx 5, .inl (Y 0, 40, .inl x_figure)), (qx 30, .inl (Y 0, 3, .inl x_rackKind)), (qx 31, .inl (Y 0, 3, .inl x_rackSize)), (qx 32, .inl (Y 0, 60, .inl x_rackHeld))] sz [(qx 0, oX9 qx x_points x_lines x_tide x_isKept x_isMuch x_sum x_once x_twice x_isTermMuch x_nodes x_newMany x_isTooGreat x_come x_foundSet), (qx 4, .inl (Y 0, 40, .inl x_kind)), (qx 5, .inl (Y 0, 40, .inl x_figure)), (qx 30, .inl (Y 0, 3, .inl x_rackKind)), (qx 31, .inl (Y 0, 3, .inl x_rackSize)), (qx 32, .inl (Y 0, 60, .inl o_x_rackHeld))]) (va_A [(qx 0, oX9 qx x_points x_lines x_tide x_isKept x_isMuch x_sum x_once x_twice x_isTermMuch x_nodes x_newMany x_isTooGreat x_come x_foundSet), (qx 4, .inl (Y 0, 40, .inl x_kind)), (qx 5, .inl (Y 0, 40, .inl x_figure)), (qx 30, .inl (Y 0, 3, .inl x_rackKind)), (qx 31, .inl (Y 0, 3, .inl x_rackSize)), (qx 32, .inl (Y 0, 60, .inl x_rackHeld))] sz)) 0 0 (va_A [(qx 0, oX9 qx x_points x_lines x_tide x_isKept x_isMuch x_sum x_once x_twice x_isTermMuch x_nodes x_newMany x_isTooGreat x_come x_foundSet), (qx 4, .inl (Y 0, 40, .inl x_kind)), (qx 5, .inl (Y 0, 40, .inl x_figure)), (qx 30, .inl (Y 0, 3, .inl x_rackKind)), (qx 31, .inl (Y 0, 3, .inl x_rackSize)), (qx 32, .inl (Y 0, 60, .inl x_rackHeld))] sz) := by
  refine Met.ofW (cc := cX9_lay) (maxL := 4) (ret := (some .int)) (by decide) rfl ?_
  intro p e s m args below meth c s₁ B hml hv
  obtain ⟨rfl, hsz, hP, hK, hD0, hX⟩ := hv
  have hx := B.exec
  have hb := B.bytes
  have hr := B.returns
  have hts := atoms_spec (ws := wsX9_lay) B.pre
  have hown : s.vm.findClass RX9 = some m.cls := findClass_of_methodNamed B.named
  have hlocks := B.notSynchronized
  subst hsz
  have hD := hD0.self (sz := s.heap.size)
  generalize hAe : va_A [(qx 0, oX9 qx x_points x_lines x_tide x_isKept x_isMuch x_sum x_once x_twice x_isTermMuch x_nodes x_newMany x_isTooGreat x_come x_foundSet), (qx 4, .inl (Y 0, 40, .inl x_kind)), (qx 5, .inl (Y 0, 40, .inl x_figure)), (qx 30, .inl (Y 0, 3, .inl x_rackKind)), (qx 31, .inl (Y 0, 3, .inl x_rackSize)), (qx 32, .inl (Y 0, 60, .inl x_rackHeld))] s.heap.size = A at hD ⊢
  have hA : ∀ q : Nat, s.heap.size ≤ q → A q := fun q h => by rw [← hAe]; exact Or.inr h
  have hS : va_S A s.heap s.heap [] := va_S.rf
  have hP : va_P G vwCl [(qx 0, oX9 qx x_points x_lines x_tide x_isKept x_isMuch x_sum x_once x_twice x_isTermMuch x_nodes x_newMany x_isTooGreat x_come x_foundSet), (qx 4, .inl (Y 0, 40, .inl x_kind)), (qx 5, .inl (Y 0, 40, .inl x_figure)), (qx 30, .inl (Y 0, 3, .inl x_rackKind)), (qx 31, .inl (Y 0, 3, .inl x_rackSize)), (qx 32, .inl (Y 0, 60, .inl x_rackHeld))] s.heap := hP
  have wd1 : (Cond.constantLong RX9 302 (2)).before [.ref (qx 0), .int p1, .int p2, .int p3].toArray s = true := hts _ (List.mem_of_getElem? (i := 1) rfl)
  have wd2 : (Cond.fieldLink RX9 56 "PairedLinesModel" "rackKind" "[I").before [.ref (qx 0), .int p1, .int p2, .int p3].toArray s = true := hts _ (List.mem_of_getElem? (i := 2) rfl)
  have wd3 : (Cond.fieldLink RX9 59 "PairedLinesModel" "rackSize" "[I").before [.ref (qx 0), .int p1, .int p2, .int p3].toArray s = true := hts _ (List.mem_of_getElem? (i := 3) rfl)
  have wd4 : (Cond.fieldLink RX9 9 "PairedLinesModel" "kind" "[I").before [.ref (qx 0), .int p1, .int p2, .int p3].toArray s = true := hts _ (List.mem_of_getElem? (i := 4) rfl)
  have wd5 : (Cond.fieldLink RX9 62 "PairedLinesModel" "rackHeld" "[I").before [.ref (qx 0), .int p1, .int p2, .int p3].toArray s = true := hts _ (List.mem_of_getElem? (i := 5) rfl)
  have wd6 : (Cond.fieldLink RX9 13 "PairedLinesModel" "figure" "[I").before [.ref (qx 0), .int p1, .int p2, .int p3].toArray s = true := hts _ (List.mem_of_getElem? (i := 6) rfl)
  have inX9w : ∀ w ∈ u_ws RX9 TX9 37, w ∈ wsX9_lay := fun w hw => List.mem_cons_of_mem _ (List.mem_append_right _ (hw))
  have hl := lv_entry ([.ref (qx 0), .int p1, .int p2, .int p3]) (n := 4) (Nat.le_of_ble_eq_true rfl)
  rw [lg_entry_eq]
  generalize (lg_sl ([.ref (qx 0), .int p1, .int p2, .int p3]) ++ List.replicate (4 - (lg_sl ([.ref (qx 0), .int p1, .int p2, .int p3])).length) Slot.unset).toArray = ls at hl ⊢
  have hl : lv_has ls 4 [(0, .ref (qx 0)), (1, .int p1), (2, .int p2), (3, .int p3)] := hl
  have E0 : ∀ (H : Heap) (locs : List Loc), va_P G vwCl [(qx 0, oX9 qx x_points x_lines x_tide x_isKept x_isMuch x_sum x_once x_twice x_isTermMuch x_nodes x_newMany x_isTooGreat x_come x_foundSet), (qx 4, .inl (Y 0, 40, .inl x_kind)), (qx 5, .inl (Y 0, 40, .inl x_figure)), (qx 30, .inl (Y 0, 3, .inl x_rackKind)), (qx 31, .inl (Y 0, 3, .inl x_rackSize)), (qx 32, .inl (Y 0, 60, .inl x_rackHeld))] H → va_D A [(qx 0, oX9 qx x_points x_lines x_tide x_isKept x_isMuch x_sum x_once x_twice x_isTermMuch x_nodes x_newMany x_isTooGreat x_come x_foundSet), (qx 4, .inl (Y 0, 40, .inl x_kind)), (qx 5, .inl (Y 0, 40, .inl x_figure)), (qx 30, .inl (Y 0, 3, .inl x_rackKind)), (qx 31, .inl (Y 0, 3, .inl x_rackSize)), (qx 32, .inl (Y 0, 60, .inl x_rackHeld))] → va_S A s.heap H locs → ∀ (ls : Array Slot), lv_has ls 4 [(0, .ref (qx 0)), (1, .int p1), (2, .int p2), (3, .int p3)] → W p l e (headSpec wsX9_lay (rmk 2 46)).room s m [.ref (qx 0), .int p1, .int p2, .int p3].toArray below meth c H locs 0 0 (MQ below (va_Qi (fun (r : Int32) (_ : Unit) => r = rv) (Pst G (tys Y) [(qx 0, oX9 qx x_points x_lines x_tide x_isKept x_isMuch x_sum x_once x_twice x_isTermMuch x_nodes x_newMany x_isTooGreat x_come x_foundSet), (qx 4, .inl (Y 0, 40, .inl x_kind)), (qx 5, .inl (Y 0, 40, .inl x_figure)), (qx 30, .inl (Y 0, 3, .inl x_rackKind)), (qx 31, .inl (Y 0, 3, .inl x_rackSize)), (qx 32, .inl (Y 0, 60, .inl x_rackHeld))] s.heap.size [(qx 0, oX9 qx x_points x_lines x_tide x_isKept x_isMuch x_sum x_once x_twice x_isTermMuch x_nodes x_newMany x_isTooGreat x_come x_foundSet), (qx 4, .inl (Y 0, 40, .inl x_kind)), (qx 5, .inl (Y 0, 40, .inl x_figure)), (qx 30, .inl (Y 0, 3, .inl x_rackKind)), (qx 31, .inl (Y 0, 3, .inl x_rackSize)), (qx 32, .inl (Y 0, 60, .inl o_x_rackHeld))]) A) [.ref (qx 0), .int p1, .int p2, .int p3].toArray s 0 0 A) (F0 m 0 ls []) := by
    intro H locs hP hD hS ls hl
    unfold f_X9_lay at hf
    refine lv_iload_n hx hb dX9_lay_0 rfl (lv_at hl 1 rfl) ?_
    refine lv_i2l hx hb dX9_lay_1 rfl ?_
    refine lv_lconst (v := 0) hx hb dX9_lay_2 (by decide) ?_
    refine lv_ldc2 hx hb hown wd1 dX9_lay_3 ?_
    obtain ⟨r1, hc, hf⟩ := bd1 hf
    refine cl_i (ws' := [(qx 0, oX9 qx x_points x_lines x_tide x_isKept x_isMuch x_sum x_once x_twice x_isTermMuch x_nodes x_newMany x_isTooGreat x_come x_foundSet), (qx 4, .inl (Y 0, 40, .inl x_kind)), (qx 5, .inl (Y 0, 40, .inl x_figure)), (qx 30, .inl (Y 0, 3, .inl x_rackKind)), (qx 31, .inl (Y 0, 3, .inl x_rackSize)), (qx 32, .inl (Y 0, 60, .inl x_rackHeld))]) (wr := [(qx 0, oX9 qx x_points x_lines x_tide x_isKept x_isMuch x_sum x_once x_twice x_isTermMuch x_nodes x_newMany x_isTooGreat x_come x_foundSet), (qx 4, .inl (Y 0, 40, .inl x_kind)), (qx 5, .inl (Y 0, 40, .inl x_figure)), (qx 30, .inl (Y 0, 3, .inl x_rackKind)), (qx 31, .inl (Y 0, 3, .inl x_rackSize)), (qx 32, .inl (Y 0, 60, .inl x_rackHeld))]) (rnS (As := [.long p1.toInt64, .long (0 : Int64), .long (2 : Int64)]) (rest := []) ⟨hx, hb, hml, hown, hts⟩ (c_X9_in l G Y H.size p1.toInt64 (0 : Int64) (2 : Int64) r1 hc) (va_cwS 3 hts gX9_lay_X9_in rfl rfl rfl (by decide +kernel) ⟨(Nat.le_of_ble_eq_true rfl), (Nat.le_of_ble_eq_true rfl)⟩) trivial okT hK hP hD [] rfl rfl rfl hl.1 rfl (Nat.le_of_ble_eq_true rfl) dX9_lay_6) hP hD hS hA [] [0, 1, 2, 3, 4, 5] [0, 1, 2, 3, 4, 5] rfl rfl rfl (by decide) rfl rfl (fun H locs hP hD hS => ?_)
    refine lv_if_eq (tgt := 20) hx hb dX9_lay_9 (by decide) (fun c2 => ?_) (fun c2 => ?_)
    · have hf := it hf c2
      refine lv_bipush (v := -2) hx hb dX9_lay_20 (by decide) ?_
      obtain ⟨e0, e1⟩ := rt2 hf
      have hP : va_P G vwCl [(qx 0, oX9 qx x_points x_lines x_tide x_isKept x_isMuch x_sum x_once x_twice x_isTermMuch x_nodes x_newMany x_isTooGreat x_come x_foundSet), (qx 4, .inl (Y 0, 40, .inl x_kind)), (qx 5, .inl (Y 0, 40, .inl x_figure)), (qx 30, .inl (Y 0, 3, .inl x_rackKind)), (qx 31, .inl (Y 0, 3, .inl x_rackSize)), (qx 32, .inl (Y 0, 60, .inl o_x_rackHeld))] H := by rw [← e1]; exact hP
      have hD : va_D A [(qx 0, oX9 qx x_points x_lines x_tide x_isKept x_isMuch x_sum x_once x_twice x_isTermMuch x_nodes x_newMany x_isTooGreat x_come x_foundSet), (qx 4, .inl (Y 0, 40, .inl x_kind)), (qx 5, .inl (Y 0, 40, .inl x_figure)), (qx 30, .inl (Y 0, 3, .inl x_rackKind)), (qx 31, .inl (Y 0, 3, .inl x_rackSize)), (qx 32, .inl (Y 0, 60, .inl o_x_rackHeld))] := by rw [← e1]; exact hD
      exact W.iret (v := (-2 : Int32)) hx hb hr (fun t ht hW => ⟨⟨(-2 : Int32), (), rfl, e0, by rw [ht]; exact hP, va_K.moved hW.alike hK, by rw [hAe]; exact hD⟩, hS.F ht⟩) hS.2.2 dX9_lay_22
    · have hf := ie hf c2
      refine lv_aload_n hx hb dX9_lay_12 rfl (lv_at hl 0 rfl) ?_
      refine lv_iload_n hx hb dX9_lay_13 rfl (lv_at hl 3 rfl) ?_
      obtain ⟨r3, hc, hf⟩ := bd1 hf
      refine cl_i (ws' := [(qx 0, oX9 qx x_points x_lines x_tide x_isKept x_isMuch x_sum x_once x_twice x_isTermMuch x_nodes x_newMany x_isTooGreat x_come x_foundSet), (qx 4, .inl (Y 0, 40, .inl x_kind)), (qx 5, .inl (Y 0, 40, .inl x_figure)), (qx 30, .inl (Y 0, 3, .inl x_rackKind)), (qx 31, .inl (Y 0, 3, .inl x_rackSize)), (qx 32, .inl (Y 0, 60, .inl x_rackHeld))]) (wr := [(qx 4, .inl (Y 0, 40, .inl x_kind)), (qx 5, .inl (Y 0, 40, .inl x_figure)), (qx 30, .inl (Y 0, 3, .inl x_rackKind)), (qx 31, .inl (Y 0, 3, .inl x_rackSize)), (qx 32, .inl (Y 0, 60, .inl x_rackHeld))]) (rnV (As := [.int p3]) (rest := []) ⟨hx, hb, hml, hown, hts⟩ (c_X9_isLine l G Y H.size qx x_points x_lines x_tide x_isKept x_isMuch x_sum x_once x_twice x_isTermMuch x_nodes x_newMany x_isTooGreat x_come x_foundSet p3 r3 hc) (cwV 1 hts gX9_lay_X9_isLine rfl rfl rfl (by decide +kernel) ⟨(Nat.le_of_ble_eq_true rfl), (Nat.le_of_ble_eq_true rfl)⟩) trivial okT hK hP hD [0] rfl rfl (ci := 7) (q0 := 0) rfl rfl rfl rfl hl.1 rfl (Nat.le_of_ble_eq_true rfl) dX9_lay_14) hP hD hS hA [0] [1, 2, 3, 4, 5] [5, 0, 1, 2, 3, 4] rfl rfl rfl (by decide) rfl rfl (fun H locs hP hD hS => ?_)
      refine lv_if_ne (tgt := 23) hx hb dX9_lay_17 (by decide) (fun c4 => ?_) (fun c4 => ?_)
      · have hf := ie hf c4
        refine lv_aload_n hx hb dX9_lay_23 rfl (lv_at hl 0 rfl) ?_
        refine va_get (D := G) (ci := 7) (v := .ref (qx 30)) (C := RX9) (T := TX9) (N := 37) hx hb hts inX9w hown hK hP 0 rfl rfl 29 (by decide) wd2 (fun _ h9 => h9) rfl dX9_lay_24 ?_
        refine lv_iload_n hx hb dX9_lay_27 rfl (lv_at hl 1 rfl) ?_
        obtain ⟨g5, hf⟩ := gd hf
        refine va_iald hx hb hK hP 3 0 rfl rfl g5 dX9_lay_28 ?_
        refine lv_if_ge (tgt := 35) hx hb dX9_lay_29 (by decide) (fun c6 => ?_) (fun c6 => ?_)
        · have hf := it hf c6
          refine lv_iload_n hx hb dX9_lay_35 rfl (lv_at hl 2 rfl) ?_
          refine lv_i2l hx hb dX9_lay_36 rfl ?_
          refine lv_lconst (v := 0) hx hb dX9_lay_37 (by decide) ?_
          refine lv_aload_n hx hb dX9_lay_38 rfl (lv_at hl 0 rfl) ?_
          refine va_get (D := G) (ci := 7) (v := .ref (qx 31)) (C := RX9) (T := TX9) (N := 37) hx hb hts inX9w hown hK hP 0 rfl rfl 30 (by decide) wd3 (fun _ h9 => h9) rfl dX9_lay_39 ?_
          refine lv_iload_n hx hb dX9_lay_42 rfl (lv_at hl 1 rfl) ?_
          obtain ⟨g7, hf⟩ := gd hf
          refine va_iald hx hb hK hP 4 0 rfl rfl g7 dX9_lay_43 ?_
          refine lv_iconst (v := 1) hx hb dX9_lay_44 (by decide) ?_
          refine lv_isub hx hb dX9_lay_45 ?_
          refine lv_i2l hx hb dX9_lay_46 rfl ?_
          obtain ⟨r8, hc, hf⟩ := bd1 hf
          refine cl_i (ws' := [(qx 0, oX9 qx x_points x_lines x_tide x_isKept x_isMuch x_sum x_once x_twice x_isTermMuch x_nodes x_newMany x_isTooGreat x_come x_foundSet), (qx 4, .inl (Y 0, 40, .inl x_kind)), (qx 5, .inl (Y 0, 40, .inl x_figure)), (qx 30, .inl (Y 0, 3, .inl x_rackKind)), (qx 31, .inl (Y 0, 3, .inl x_rackSize)), (qx 32, .inl (Y 0, 60, .inl x_rackHeld))]) (wr := [(qx 0, oX9 qx x_points x_lines x_tide x_isKept x_isMuch x_sum x_once x_twice x_isTermMuch x_nodes x_newMany x_isTooGreat x_come x_foundSet), (qx 4, .inl (Y 0, 40, .inl x_kind)), (qx 5, .inl (Y 0, 40, .inl x_figure)), (qx 30, .inl (Y 0, 3, .inl x_rackKind)), (qx 31, .inl (Y 0, 3, .inl x_rackSize)), (qx 32, .inl (Y 0, 60, .inl x_rackHeld))]) (rnS (As := [.long p2.toInt64, .long (0 : Int64), .long (((x_rackSize p1.toNatClampNeg) - (1 : Int32)).toInt64)]) (rest := []) ⟨hx, hb, hml, hown, hts⟩ (c_X9_in l G Y H.size p2.toInt64 (0 : Int64) (((x_rackSize p1.toNatClampNeg) - (1 : Int32)).toInt64) r8 hc) (va_cwS 3 hts gX9_lay_X9_in rfl rfl rfl (by decide +kernel) ⟨(Nat.le_of_ble_eq_true rfl), (Nat.le_of_ble_eq_true rfl)⟩) trivial okT hK hP hD [] rfl rfl rfl hl.1 rfl (Nat.le_of_ble_eq_true rfl) dX9_lay_47) hP hD hS hA [] [0, 1, 2, 3, 4, 5] [0, 1, 2, 3, 4, 5] rfl rfl rfl (by decide) rfl rfl (fun H locs hP hD hS => ?_)
          refine lv_if_ne (tgt := 56) hx hb dX9_lay_50 (by decide) (fun c9 => ?_) (fun c9 => ?_)
          · have hf := ie hf c9
            refine lv_aload_n hx hb dX9_lay_56 rfl (lv_at hl 0 rfl) ?_
            refine va_get (D := G) (ci := 7) (v := .ref (qx 4)) (C := RX9) (T := TX9) (N := 37) hx hb hts inX9w hown hK hP 0 rfl rfl 3 (by decide) wd4 (fun _ h9 => h9) rfl dX9_lay_57 ?_
            refine lv_iload_n hx hb dX9_lay_60 rfl (lv_at hl 3 rfl) ?_
            obtain ⟨g10, hf⟩ := gd hf
            refine va_iald hx hb hK hP 1 0 rfl rfl g10 dX9_lay_61 ?_
            refine lv_aload_n hx hb dX9_lay_62 rfl (lv_at hl 0 rfl) ?_
            refine va_get (D := G) (ci := 7) (v := .ref (qx 30)) (C := RX9) (T := TX9) (N := 37) hx hb hts inX9w hown hK hP 0 rfl rfl 29 (by decide) wd2 (fun _ h9 => h9) rfl dX9_lay_63 ?_
            refine lv_iload_n hx hb dX9_lay_66 rfl (lv_at hl 1 rfl) ?_
            obtain ⟨g11, hf⟩ := gd hf
            refine va_iald hx hb hK hP 3 0 rfl rfl g11 dX9_lay_67 ?_
            obtain ⟨r12, hc, hf⟩ := bd1 hf
            refine cl_i (ws' := [(qx 0, oX9 qx x_points x_lines x_tide x_isKept x_isMuch x_sum x_once x_twice x_isTermMuch x_nodes x_newMany x_isTooGreat x_come x_foundSet), (qx 4, .inl (Y 0, 40, .inl x_kind)), (qx 5, .inl (Y 0, 40, .inl x_figure)), (qx 30, .inl (Y 0, 3, .inl x_rackKind)), (qx 31, .inl (Y 0, 3, .inl x_rackSize)), (qx 32, .inl (Y 0, 60, .inl x_rackHeld))]) (wr := [(qx 0, oX9 qx x_points x_lines x_tide x_isKept x_isMuch x_sum x_once x_twice x_isTermMuch x_nodes x_newMany x_isTooGreat x_come x_foundSet), (qx 4, .inl (Y 0, 40, .inl x_kind)), (qx 5, .inl (Y 0, 40, .inl x_figure)), (qx 30, .inl (Y 0, 3, .inl x_rackKind)), (qx 31, .inl (Y 0, 3, .inl x_rackSize)), (qx 32, .inl (Y 0, 60, .inl x_rackHeld))]) (rnS (As := [.int (x_kind p3.toNatClampNeg), .int (x_rackKind p1.toNatClampNeg)]) (rest := []) ⟨hx, hb, hml, hown, hts⟩ (c_X9_isUnder l G Y H.size (x_kind p3.toNatClampNeg) (x_rackKind p1.toNatClampNeg) r12 hc) (va_cwS 2 hts gX9_lay_X9_isUnder rfl rfl rfl (by decide +kernel) ⟨(Nat.le_of_ble_eq_true rfl), (Nat.le_of_ble_eq_true rfl)⟩) trivial okT hK hP hD [] rfl rfl rfl hl.1 rfl (Nat.le_of_ble_eq_true rfl) dX9_lay_68) hP hD hS hA [] [0, 1, 2, 3, 4, 5] [0, 1, 2, 3, 4, 5] rfl rfl rfl (by decide) rfl rfl (fun H locs hP hD hS => ?_)
            refine lv_if_ne (tgt := 77) hx hb dX9_lay_71 (by decide) (fun c13 => ?_) (fun c13 => ?_)
            · have hf := ie hf c13
              refine lv_aload_n hx hb dX9_lay_77 rfl (lv_at hl 0 rfl) ?_
              refine va_get (D := G) (ci := 7) (v := .ref (qx 32)) (C := RX9) (T := TX9) (N := 37) hx hb hts inX9w hown hK hP 0 rfl rfl 31 (by decide) wd5 (fun _ h9 => h9) rfl dX9_lay_78 ?_
              refine lv_bipush (v := 20) hx hb dX9_lay_81 (by decide) ?_
              refine lv_iload_n hx hb dX9_lay_83 rfl (lv_at hl 1 rfl) ?_
              refine lv_imul hx hb dX9_lay_84 ?_
              refine lv_iload_n hx hb dX9_lay_85 rfl (lv_at hl 2 rfl) ?_
              refine lv_iadd hx hb dX9_lay_86 ?_
              refine lv_bipush (v := 10) hx hb dX9_lay_87 (by decide) ?_
              refine lv_aload_n hx hb dX9_lay_89 rfl (lv_at hl 0 rfl) ?_
              refine va_get (D := G) (ci := 7) (v := .ref (qx 5)) (C := RX9) (T := TX9) (N := 37) hx hb hts inX9w hown hK hP 0 rfl rfl 4 (by decide) wd6 (fun _ h9 => h9) rfl dX9_lay_90 ?_
              refine lv_iload_n hx hb dX9_lay_93 rfl (lv_at hl 3 rfl) ?_
              obtain ⟨g14, hf⟩ := gd hf
              refine va_iald hx hb hK hP 2 0 rfl rfl g14 dX9_lay_94 ?_
              refine lv_imul hx hb dX9_lay_95 ?_
              refine lv_aload_n hx hb dX9_lay_96 rfl (lv_at hl 0 rfl) ?_
              refine va_get (D := G) (ci := 7) (v := .ref (qx 4)) (C := RX9) (T := TX9) (N := 37) hx hb hts inX9w hown hK hP 0 rfl rfl 3 (by decide) wd4 (fun _ h9 => h9) rfl dX9_lay_97 ?_
              refine lv_iload_n hx hb dX9_lay_100 rfl (lv_at hl 3 rfl) ?_
              obtain ⟨g15, hf⟩ := gd hf
              refine va_iald hx hb hK hP 1 0 rfl rfl g15 dX9_lay_101 ?_
              refine lv_iadd hx hb dX9_lay_102 ?_
              obtain ⟨g16, hf⟩ := gd hf
              refine va_iast hx hb hK hP hD hS 5 0 rfl rfl g16 dX9_lay_103 (fun H locs hP hD hS => ?_)
              obtain ⟨v17, e_v17⟩ : ∃ z : Nat → Int32, z = upd x_rackHeld (((20 : Int32) * p1) + p2).toNatClampNeg (((10 : Int32) * (x_figure p3.toNatClampNeg)) + (x_kind p3.toNatClampNeg)) := ⟨_, rfl⟩
              have hf := nm_at hf e_v17
              have hP : va_P G vwCl [(qx 0, oX9 qx x_points x_lines x_tide x_isKept x_isMuch x_sum x_once x_twice x_isTermMuch x_nodes x_newMany x_isTooGreat x_come x_foundSet), (qx 4, .inl (Y 0, 40, .inl x_kind)), (qx 5, .inl (Y 0, 40, .inl x_figure)), (qx 30, .inl (Y 0, 3, .inl x_rackKind)), (qx 31, .inl (Y 0, 3, .inl x_rackSize)), (qx 32, .inl (Y 0, 60, .inl v17))] H := by rw [e_v17]; exact hP
              have hD : va_D A [(qx 0, oX9 qx x_points x_lines x_tide x_isKept x_isMuch x_sum x_once x_twice x_isTermMuch x_nodes x_newMany x_isTooGreat x_come x_foundSet), (qx 4, .inl (Y 0, 40, .inl x_kind)), (qx 5, .inl (Y 0, 40, .inl x_figure)), (qx 30, .inl (Y 0, 3, .inl x_rackKind)), (qx 31, .inl (Y 0, 3, .inl x_rackSize)), (qx 32, .inl (Y 0, 60, .inl v17))] := by rw [e_v17]; exact hD
              refine lv_aload_n hx hb dX9_lay_104 rfl (lv_at hl 0 rfl) ?_
              refine va_get (D := G) (ci := 7) (v := .ref (qx 4)) (C := RX9) (T := TX9) (N := 37) hx hb hts inX9w hown hK hP 0 rfl rfl 3 (by decide) wd4 (fun _ h9 => h9) rfl dX9_lay_105 ?_
              refine lv_iload_n hx hb dX9_lay_108 rfl (lv_at hl 3 rfl) ?_
              obtain ⟨g18, hf⟩ := gd hf
              refine va_iald hx hb hK hP 1 0 rfl rfl g18 dX9_lay_109 ?_
              obtain ⟨e0, e1⟩ := rt2 hf
              have hP : va_P G vwCl [(qx 0, oX9 qx x_points x_lines x_tide x_isKept x_isMuch x_sum x_once x_twice x_isTermMuch x_nodes x_newMany x_isTooGreat x_come x_foundSet), (qx 4, .inl (Y 0, 40, .inl x_kind)), (qx 5, .inl (Y 0, 40, .inl x_figure)), (qx 30, .inl (Y 0, 3, .inl x_rackKind)), (qx 31, .inl (Y 0, 3, .inl x_rackSize)), (qx 32, .inl (Y 0, 60, .inl o_x_rackHeld))] H := by rw [← e1]; exact hP
              have hD : va_D A [(qx 0, oX9 qx x_points x_lines x_tide x_isKept x_isMuch x_sum x_once x_twice x_isTermMuch x_nodes x_newMany x_isTooGreat x_come x_foundSet), (qx 4, .inl (Y 0, 40, .inl x_kind)), (qx 5, .inl (Y 0, 40, .inl x_figure)), (qx 30, .inl (Y 0, 3, .inl x_rackKind)), (qx 31, .inl (Y 0, 3, .inl x_rackSize)), (qx 32, .inl (Y 0, 60, .inl o_x_rackHeld))] := by rw [← e1]; exact hD
              exact W.iret (v := (x_kind p3.toNatClampNeg)) hx hb hr (fun t ht hW => ⟨⟨(x_kind p3.toNatClampNeg), (), rfl, e0, by rw [ht]; exact hP, va_K.moved hW.alike hK, by rw [hAe]; exact hD⟩, hS.F ht⟩) hS.2.2 dX9_lay_110
            · have hf := it hf c13
              refine lv_bipush (v := -13) hx hb dX9_lay_74 (by decide) ?_
              obtain ⟨e0, e1⟩ := rt2 hf
              have hP : va_P G vwCl [(qx 0, oX9 qx x_points x_lines x_tide x_isKept x_isMuch x_sum x_once x_twice x_isTermMuch x_nodes x_newMany x_isTooGreat x_come x_foundSet), (qx 4, .inl (Y 0, 40, .inl x_kind)), (qx 5, .inl (Y 0, 40, .inl x_figure)), (qx 30, .inl (Y 0, 3, .inl x_rackKind)), (qx 31, .inl (Y 0, 3, .inl x_rackSize)), (qx 32, .inl (Y 0, 60, .inl o_x_rackHeld))] H := by rw [← e1]; exact hP
              have hD : va_D A [(qx 0, oX9 qx x_points x_lines x_tide x_isKept x_isMuch x_sum x_once x_twice x_isTermMuch x_nodes x_newMany x_isTooGreat x_come x_foundSet), (qx 4, .inl (Y 0, 40, .inl x_kind)), (qx 5, .inl (Y 0, 40, .inl x_figure)), (qx 30, .inl (Y 0, 3, .inl x_rackKind)), (qx 31, .inl (Y 0, 3, .inl x_rackSize)), (qx 32, .inl (Y 0, 60, .inl o_x_rackHeld))] := by rw [← e1]; exact hD
              exact W.iret (v := (-13 : Int32)) hx hb hr (fun t ht hW => ⟨⟨(-13 : Int32), (), rfl, e0, by rw [ht]; exact hP, va_K.moved hW.alike hK, by rw [hAe]; exact hD⟩, hS.F ht⟩) hS.2.2 dX9_lay_76
          · have hf := it hf c9
            refine lv_bipush (v := -12) hx hb dX9_lay_53 (by decide) ?_
            obtain ⟨e0, e1⟩ := rt2 hf
            have hP : va_P G vwCl [(qx 0, oX9 qx x_points x_lines x_tide x_isKept x_isMuch x_sum x_once x_twice x_isTermMuch x_nodes x_newMany x_isTooGreat x_come x_foundSet), (qx 4, .inl (Y 0, 40, .inl x_kind)), (qx 5, .inl (Y 0, 40, .inl x_figure)), (qx 30, .inl (Y 0, 3, .inl x_rackKind)), (qx 31, .inl (Y 0, 3, .inl x_rackSize)), (qx 32, .inl (Y 0, 60, .inl o_x_rackHeld))] H := by rw [← e1]; exact hP
            have hD : va_D A [(qx 0, oX9 qx x_points x_lines x_tide x_isKept x_isMuch x_sum x_once x_twice x_isTermMuch x_nodes x_newMany x_isTooGreat x_come x_foundSet), (qx 4, .inl (Y 0, 40, .inl x_kind)), (qx 5, .inl (Y 0, 40, .inl x_figure)), (qx 30, .inl (Y 0, 3, .inl x_rackKind)), (qx 31, .inl (Y 0, 3, .inl x_rackSize)), (qx 32, .inl (Y 0, 60, .inl o_x_rackHeld))] := by rw [← e1]; exact hD
            exact W.iret (v := (-12 : Int32)) hx hb hr (fun t ht hW => ⟨⟨(-12 : Int32), (), rfl, e0, by rw [ht]; exact hP, va_K.moved hW.alike hK, by rw [hAe]; exact hD⟩, hS.F ht⟩) hS.2.2 dX9_lay_55
        · have hf := ie hf c6
          refine lv_bipush (v := -11) hx hb dX9_lay_32 (by decide) ?_
          obtain ⟨e0, e1⟩ := rt2 hf
          have hP : va_P G vwCl [(qx 0, oX9 qx x_points x_lines x_tide x_isKept x_isMuch x_sum x_once x_twice x_isTermMuch x_nodes x_newMany x_isTooGreat x_come x_foundSet), (qx 4, .inl (Y 0, 40, .inl x_kind)), (qx 5, .inl (Y 0, 40, .inl x_figure)), (qx 30, .inl (Y 0, 3, .inl x_rackKind)), (qx 31, .inl (Y 0, 3, .inl x_rackSize)), (qx 32, .inl (Y 0, 60, .inl o_x_rackHeld))] H := by rw [← e1]; exact hP
          have hD : va_D A [(qx 0, oX9 qx x_points x_lines x_tide x_isKept x_isMuch x_sum x_once x_twice x_isTermMuch x_nodes x_newMany x_isTooGreat x_come x_foundSet), (qx 4, .inl (Y 0, 40, .inl x_kind)), (qx 5, .inl (Y 0, 40, .inl x_figure)), (qx 30, .inl (Y 0, 3, .inl x_rackKind)), (qx 31, .inl (Y 0, 3, .inl x_rackSize)), (qx 32, .inl (Y 0, 60, .inl o_x_rackHeld))] := by rw [← e1]; exact hD
          exact W.iret (v := (-11 : Int32)) hx hb hr (fun t ht hW => ⟨⟨(-11 : Int32), (), rfl, e0, by rw [ht]; exact hP, va_K.moved hW.alike hK, by rw [hAe]; exact hD⟩, hS.F ht⟩) hS.2.2 dX9_lay_34
      · have hf := it hf c4
        refine lv_bipush (v := -2) hx hb dX9_lay_20 (by decide) ?_
        obtain ⟨e0, e1⟩ := rt2 hf
        have hP : va_P G vwCl [(qx 0, oX9 qx x_points x_lines x_tide x_isKept x_isMuch x_sum x_once x_twice x_isTermMuch x_nodes x_newMany x_isTooGreat x_come x_foundSet), (qx 4, .inl (Y 0, 40, .inl x_kind)), (qx 5, .inl (Y 0, 40, .inl x_figure)), (qx 30, .inl (Y 0, 3, .inl x_rackKind)), (qx 31, .inl (Y 0, 3, .inl x_rackSize)), (qx 32, .inl (Y 0, 60, .inl o_x_rackHeld))] H := by rw [← e1]; exact hP
        have hD : va_D A [(qx 0, oX9 qx x_points x_lines x_tide x_isKept x_isMuch x_sum x_once x_twice x_isTermMuch x_nodes x_newMany x_isTooGreat x_come x_foundSet), (qx 4, .inl (Y 0, 40, .inl x_kind)), (qx 5, .inl (Y 0, 40, .inl x_figure)), (qx 30, .inl (Y 0, 3, .inl x_rackKind)), (qx 31, .inl (Y 0, 3, .inl x_rackSize)), (qx 32, .inl (Y 0, 60, .inl o_x_rackHeld))] := by rw [← e1]; exact hD
        exact W.iret (v := (-2 : Int32)) hx hb hr (fun t ht hW => ⟨⟨(-2 : Int32), (), rfl, e0, by rw [ht]; exact hP, va_K.moved hW.alike hK, by rw [hAe]; exact hD⟩, hS.F ht⟩) hS.2.2 dX9_lay_22
  exact E0 s.heap [] hP hD hS ls hl
-- X9_of
set_option maxRecDepth 100000 in
set_option maxHeartbeats 4000000 in
theorem c_X9_of (l : Launch) (G : va_G) (Y : Nat → ClassId) (sz : Nat) (qx : Nat → Nat) (x_points : Int32) (x_lines : Int32) (x_tide : Int32) (x_isKept : Int32) (x_isMuch : Int32) (x_sum : Int64) (x_once : Int64) (x_twice : Int64) (x_isTermMuch : Int32) (x_nodes : Int32) (x_newMany : Int32) (x_isTooGreat : Int32) (x_come : Int32) (x_foundSet : Int64) (x_rackKind : Nat → Int32) (x_rackSize : Nat → Int32) (x_rackHeld : Nat → Int32) (p1 : Int32) (p2 : Int32) (rv : Int32) (hf : f_X9_of x_tide x_rackKind x_rackSize x_rackHeld p1 p2 = some (rv)) : Met l yX9_of wsX9_of (rmk 1 25) (va_Pc [.ref (qx 0), .int p1, .int p2] (Pre G (tys Y) [(qx 0, oX9 qx x_points x_lines x_tide x_isKept x_isMuch x_sum x_once x_twice x_isTermMuch x_nodes x_newMany x_isTooGreat x_come x_foundSet), (qx 30, .inl (Y 0, 3, .inl x_rackKind)), (qx 31, .inl (Y 0, 3, .inl x_rackSize)), (qx 32, .inl (Y 0, 60, .inl x_rackHeld))] sz xT)) (va_Qi (fun (r : Int32) (_ : Unit) => r = rv) (Pst G (tys Y) [(qx 0, oX9 qx x_points x_lines x_tide x_isKept x_isMuch x_sum x_once x_twice x_isTermMuch x_nodes x_newMany x_isTooGreat x_come x_foundSet), (qx 30, .inl (Y 0, 3, .inl x_rackKind)), (qx 31, .inl (Y 0, 3, .inl x_rackSize)), (qx 32, .inl (Y 0, 60, .inl x_rackHeld))] sz [(qx 0, oX9 qx x_points x_lines x_tide x_isKept x_isMuch x_sum x_once x_twice x_isTermMuch x_nodes x_newMany x_isTooGreat x_come x_foundSet), (qx 30, .inl (Y 0, 3, .inl x_rackKind)), (qx 31, .inl (Y 0, 3, .inl x_rackSize)), (qx 32, .inl (Y 0, 60, .inl x_rackHeld))]) (va_A [(qx 0, oX9 qx x_points x_lines x_tide x_isKept x_isMuch x_sum x_once x_twice x_isTermMuch x_nodes x_newMany x_isTooGreat x_come x_foundSet), (qx 30, .inl (Y 0, 3, .inl x_rackKind)), (qx 31, .inl (Y 0, 3, .inl x_rackSize)), (qx 32, .inl (Y 0, 60, .inl x_rackHeld))] sz)) 0 0 (va_A [(qx 0, oX9 qx x_points x_lines x_tide x_isKept x_isMuch x_sum x_once x_twice x_isTermMuch x_nodes x_newMany x_isTooGreat x_come x_foundSet), (qx 30, .inl (Y 0, 3, .inl x_rackKind)), (qx 31, .inl (Y 0, 3, .inl x_rackSize)), (qx 32, .inl (Y 0, 60, .inl x_rackHeld))] sz) := by
  refine Met.ofW (cc := cX9_of) (maxL := 4) (ret := (some .int)) (by decide) rfl ?_
  intro p e s m args below meth c s₁ B hml hv
  obtain ⟨rfl, hsz, hP, hK, hD0, hX⟩ := hv
  have hx := B.exec
  have hb := B.bytes
  have hr := B.returns
  have hts := atoms_spec (ws := wsX9_of) B.pre
  have hown : s.vm.findClass RX9 = some m.cls := findClass_of_methodNamed B.named
  have hlocks := B.notSynchronized
  subst hsz
  have hD := hD0.self (sz := s.heap.size)
  generalize hAe : va_A [(qx 0, oX9 qx x_points x_lines x_tide x_isKept x_isMuch x_sum x_once x_twice x_isTermMuch x_nodes x_newMany x_isTooGreat x_come x_foundSet), (qx 30, .inl (Y 0, 3, .inl x_rackKind)), (qx 31, .inl (Y 0, 3, .inl x_rackSize)), (qx 32, .inl (Y 0, 60, .inl x_rackHeld))] s.heap.size = A at hD ⊢
  have hA : ∀ q : Nat, s.heap.size ≤ q → A q := fun q h => by rw [← hAe]; exact Or.inr h
  have hS : va_S A s.heap s.heap [] := va_S.rf
  have hP : va_P G vwCl [(qx 0, oX9 qx x_points x_lines x_tide x_isKept x_isMuch x_sum x_once x_twice x_isTermMuch x_nodes x_newMany x_isTooGreat x_come x_foundSet), (qx 30, .inl (Y 0, 3, .inl x_rackKind)), (qx 31, .inl (Y 0, 3, .inl x_rackSize)), (qx 32, .inl (Y 0, 60, .inl x_rackHeld))] s.heap := hP
  have wd1 : (Cond.constantLong RX9 302 (2)).before [.ref (qx 0), .int p1, .int p2].toArray s = true := hts _ (List.mem_of_getElem? (i := 1) rfl)
  have wd2 : (Cond.fieldLink RX9 56 "PairedLinesModel" "rackKind" "[I").before [.ref (qx 0), .int p1, .int p2].toArray s = true := hts _ (List.mem_of_getElem? (i := 2) rfl)
  have wd3 : (Cond.fieldLink RX9 59 "PairedLinesModel" "rackSize" "[I").before [.ref (qx 0), .int p1, .int p2].toArray s = true := hts _ (List.mem_of_getElem? (i := 3) rfl)
  have wd4 : (Cond.fieldLink RX9 62 "PairedLinesModel" "rackHeld" "[I").before [.ref (qx 0), .int p1, .int p2].toArray s = true := hts _ (List.mem_of_getElem? (i := 4) rfl)
  have inX9w : ∀ w ∈ u_ws RX9 TX9 37, w ∈ wsX9_of := fun w hw => List.mem_cons_of_mem _ (List.mem_append_right _ (hw))
  have hl := lv_entry ([.ref (qx 0), .int p1, .int p2]) (n := 4) (Nat.le_of_ble_eq_true rfl)
  rw [lg_entry_eq]
  generalize (lg_sl ([.ref (qx 0), .int p1, .int p2]) ++ List.replicate (4 - (lg_sl ([.ref (qx 0), .int p1, .int p2])).length) Slot.unset).toArray = ls at hl ⊢
  have hl : lv_has ls 4 [(0, .ref (qx 0)), (1, .int p1), (2, .int p2)] := hl
  have E0 : ∀ (H : Heap) (locs : List Loc), va_P G vwCl [(qx 0, oX9 qx x_points x_lines x_tide x_isKept x_isMuch x_sum x_once x_twice x_isTermMuch x_nodes x_newMany x_isTooGreat x_come x_foundSet), (qx 30, .inl (Y 0, 3, .inl x_rackKind)), (qx 31, .inl (Y 0, 3, .inl x_rackSize)), (qx 32, .inl (Y 0, 60, .inl x_rackHeld))] H → va_D A [(qx 0, oX9 qx x_points x_lines x_tide x_isKept x_isMuch x_sum x_once x_twice x_isTermMuch x_nodes x_newMany x_isTooGreat x_come x_foundSet), (qx 30, .inl (Y 0, 3, .inl x_rackKind)), (qx 31, .inl (Y 0, 3, .inl x_rackSize)), (qx 32, .inl (Y 0, 60, .inl x_rackHeld))] → va_S A s.heap H locs → ∀ (ls : Array Slot), lv_has ls 4 [(0, .ref (qx 0)), (1, .int p1), (2, .int p2)] → W p l e (headSpec wsX9_of (rmk 1 25)).room s m [.ref (qx 0), .int p1, .int p2].toArray below meth c H locs 0 0 (MQ below (va_Qi (fun (r : Int32) (_ : Unit) => r = rv) (Pst G (tys Y) [(qx 0, oX9 qx x_points x_lines x_tide x_isKept x_isMuch x_sum x_once x_twice x_isTermMuch x_nodes x_newMany x_isTooGreat x_come x_foundSet), (qx 30, .inl (Y 0, 3, .inl x_rackKind)), (qx 31, .inl (Y 0, 3, .inl x_rackSize)), (qx 32, .inl (Y 0, 60, .inl x_rackHeld))] s.heap.size [(qx 0, oX9 qx x_points x_lines x_tide x_isKept x_isMuch x_sum x_once x_twice x_isTermMuch x_nodes x_newMany x_isTooGreat x_come x_foundSet), (qx 30, .inl (Y 0, 3, .inl x_rackKind)), (qx 31, .inl (Y 0, 3, .inl x_rackSize)), (qx 32, .inl (Y 0, 60, .inl x_rackHeld))]) A) [.ref (qx 0), .int p1, .int p2].toArray s 0 0 A) (F0 m 0 ls []) := by
    intro H locs hP hD hS ls hl
    unfold f_X9_of at hf
    refine lv_iload_n hx hb dX9_of_0 rfl (lv_at hl 1 rfl) ?_
    refine lv_i2l hx hb dX9_of_1 rfl ?_
    refine lv_lconst (v := 0) hx hb dX9_of_2 (by decide) ?_
    refine lv_ldc2 hx hb hown wd1 dX9_of_3 ?_
    obtain ⟨r1, hc, hf⟩ := bd1 hf
    refine cl_i (ws' := [(qx 0, oX9 qx x_points x_lines x_tide x_isKept x_isMuch x_sum x_once x_twice x_isTermMuch x_nodes x_newMany x_isTooGreat x_come x_foundSet), (qx 30, .inl (Y 0, 3, .inl x_rackKind)), (qx 31, .inl (Y 0, 3, .inl x_rackSize)), (qx 32, .inl (Y 0, 60, .inl x_rackHeld))]) (wr := [(qx 0, oX9 qx x_points x_lines x_tide x_isKept x_isMuch x_sum x_once x_twice x_isTermMuch x_nodes x_newMany x_isTooGreat x_come x_foundSet), (qx 30, .inl (Y 0, 3, .inl x_rackKind)), (qx 31, .inl (Y 0, 3, .inl x_rackSize)), (qx 32, .inl (Y 0, 60, .inl x_rackHeld))]) (rnS (As := [.long p1.toInt64, .long (0 : Int64), .long (2 : Int64)]) (rest := []) ⟨hx, hb, hml, hown, hts⟩ (c_X9_in l G Y H.size p1.toInt64 (0 : Int64) (2 : Int64) r1 hc) (va_cwS 3 hts gX9_of_X9_in rfl rfl rfl (by decide +kernel) ⟨(Nat.le_of_ble_eq_true rfl), (Nat.le_of_ble_eq_true rfl)⟩) trivial okT hK hP hD [] rfl rfl rfl hl.1 rfl (Nat.le_of_ble_eq_true rfl) dX9_of_6) hP hD hS hA [] [0, 1, 2, 3] [0, 1, 2, 3] rfl rfl rfl (by decide) rfl rfl (fun H locs hP hD hS => ?_)
    refine lv_if_ne (tgt := 15) hx hb dX9_of_9 (by decide) (fun c2 => ?_) (fun c2 => ?_)
    · have hf := ie hf c2
      refine lv_aload_n hx hb dX9_of_15 rfl (lv_at hl 0 rfl) ?_
      refine va_get (D := G) (ci := 7) (v := .ref (qx 30)) (C := RX9) (T := TX9) (N := 37) hx hb hts inX9w hown hK hP 0 rfl rfl 29 (by decide) wd2 (fun _ h9 => h9) rfl dX9_of_16 ?_
      refine lv_iload_n hx hb dX9_of_19 rfl (lv_at hl 1 rfl) ?_
      obtain ⟨g3, hf⟩ := gd hf
      refine va_iald hx hb hK hP 1 0 rfl rfl g3 dX9_of_20 ?_
      refine lv_if_ge (tgt := 27) hx hb dX9_of_21 (by decide) (fun c4 => ?_) (fun c4 => ?_)
      · have hf := it hf c4
        refine lv_iload_n hx hb dX9_of_27 rfl (lv_at hl 2 rfl) ?_
        refine lv_i2l hx hb dX9_of_28 rfl ?_
        refine lv_lconst (v := 0) hx hb dX9_of_29 (by decide) ?_
        refine lv_aload_n hx hb dX9_of_30 rfl (lv_at hl 0 rfl) ?_
        refine va_get (D := G) (ci := 7) (v := .ref (qx 31)) (C := RX9) (T := TX9) (N := 37) hx hb hts inX9w hown hK hP 0 rfl rfl 30 (by decide) wd3 (fun _ h9 => h9) rfl dX9_of_31 ?_
        refine lv_iload_n hx hb dX9_of_34 rfl (lv_at hl 1 rfl) ?_
        obtain ⟨g5, hf⟩ := gd hf
        refine va_iald hx hb hK hP 2 0 rfl rfl g5 dX9_of_35 ?_
        refine lv_iconst (v := 1) hx hb dX9_of_36 (by decide) ?_
        refine lv_isub hx hb dX9_of_37 ?_
        refine lv_i2l hx hb dX9_of_38 rfl ?_
        obtain ⟨r6, hc, hf⟩ := bd1 hf
        refine cl_i (ws' := [(qx 0, oX9 qx x_points x_lines x_tide x_isKept x_isMuch x_sum x_once x_twice x_isTermMuch x_nodes x_newMany x_isTooGreat x_come x_foundSet), (qx 30, .inl (Y 0, 3, .inl x_rackKind)), (qx 31, .inl (Y 0, 3, .inl x_rackSize)), (qx 32, .inl (Y 0, 60, .inl x_rackHeld))]) (wr := [(qx 0, oX9 qx x_points x_lines x_tide x_isKept x_isMuch x_sum x_once x_twice x_isTermMuch x_nodes x_newMany x_isTooGreat x_come x_foundSet), (qx 30, .inl (Y 0, 3, .inl x_rackKind)), (qx 31, .inl (Y 0, 3, .inl x_rackSize)), (qx 32, .inl (Y 0, 60, .inl x_rackHeld))]) (rnS (As := [.long p2.toInt64, .long (0 : Int64), .long (((x_rackSize p1.toNatClampNeg) - (1 : Int32)).toInt64)]) (rest := []) ⟨hx, hb, hml, hown, hts⟩ (c_X9_in l G Y H.size p2.toInt64 (0 : Int64) (((x_rackSize p1.toNatClampNeg) - (1 : Int32)).toInt64) r6 hc) (va_cwS 3 hts gX9_of_X9_in rfl rfl rfl (by decide +kernel) ⟨(Nat.le_of_ble_eq_true rfl), (Nat.le_of_ble_eq_true rfl)⟩) trivial okT hK hP hD [] rfl rfl rfl hl.1 rfl (Nat.le_of_ble_eq_true rfl) dX9_of_39) hP hD hS hA [] [0, 1, 2, 3] [0, 1, 2, 3] rfl rfl rfl (by decide) rfl rfl (fun H locs hP hD hS => ?_)
        refine lv_if_ne (tgt := 48) hx hb dX9_of_42 (by decide) (fun c7 => ?_) (fun c7 => ?_)
        · have hf := ie hf c7
          refine lv_aload_n hx hb dX9_of_48 rfl (lv_at hl 0 rfl) ?_
          refine va_get (D := G) (ci := 7) (v := .ref (qx 32)) (C := RX9) (T := TX9) (N := 37) hx hb hts inX9w hown hK hP 0 rfl rfl 31 (by decide) wd4 (fun _ h9 => h9) rfl dX9_of_49 ?_
          refine lv_bipush (v := 20) hx hb dX9_of_52 (by decide) ?_
          refine lv_iload_n hx hb dX9_of_54 rfl (lv_at hl 1 rfl) ?_
          refine lv_imul hx hb dX9_of_55 ?_
          refine lv_iload_n hx hb dX9_of_56 rfl (lv_at hl 2 rfl) ?_
          refine lv_iadd hx hb dX9_of_57 ?_
          obtain ⟨g8, hf⟩ := gd hf
          refine va_iald hx hb hK hP 3 0 rfl rfl g8 dX9_of_58 ?_
          refine lv_topi (fun v9 e_v9 => ?_)
          have hf := nm_at hf e_v9
          refine lv_istore_n (lv' := [(3, .int v9), (0, .ref (qx 0)), (1, .int p1), (2, .int p2)]) hx hb dX9_of_59 rfl hl (by decide) rfl (fun ls hl => ?_)
          refine lv_iload_n hx hb dX9_of_60 rfl (lv_at hl 0 rfl) ?_
          refine lv_if_ge (tgt := 69) hx hb dX9_of_61 (by decide) (fun c10 => ?_) (fun c10 => ?_)
          · have hf := it hf c10
            refine lv_aload_n hx hb dX9_of_69 rfl (lv_at hl 1 rfl) ?_
            refine lv_iload_n hx hb dX9_of_70 rfl (lv_at hl 0 rfl) ?_
            refine lv_bipush (v := 10) hx hb dX9_of_71 (by decide) ?_
            obtain ⟨g11, hf⟩ := gd hf
            refine lv_irem hx hb dX9_of_73 g11 ?_
            refine lv_iload_n hx hb dX9_of_74 rfl (lv_at hl 0 rfl) ?_
            refine lv_bipush (v := 10) hx hb dX9_of_75 (by decide) ?_
            obtain ⟨g12, hf⟩ := gd hf
            refine lv_idiv hx hb dX9_of_77 g12 ?_
            obtain ⟨r13, hc, hf⟩ := bd1 hf
            refine cl_i (ws' := [(qx 0, oX9 qx x_points x_lines x_tide x_isKept x_isMuch x_sum x_once x_twice x_isTermMuch x_nodes x_newMany x_isTooGreat x_come x_foundSet), (qx 30, .inl (Y 0, 3, .inl x_rackKind)), (qx 31, .inl (Y 0, 3, .inl x_rackSize)), (qx 32, .inl (Y 0, 60, .inl x_rackHeld))]) (wr := [(qx 30, .inl (Y 0, 3, .inl x_rackKind)), (qx 31, .inl (Y 0, 3, .inl x_rackSize)), (qx 32, .inl (Y 0, 60, .inl x_rackHeld))]) (rnV (As := [.int (v9 - v9 / (10 : Int32) * (10 : Int32)), .int (v9 / (10 : Int32))]) (rest := []) ⟨hx, hb, hml, hown, hts⟩ (c_X9_weighs l G Y H.size qx x_points x_lines x_tide x_isKept x_isMuch x_sum x_once x_twice x_isTermMuch x_nodes x_newMany x_isTooGreat x_come x_foundSet (v9 - v9 / (10 : Int32) * (10 : Int32)) (v9 / (10 : Int32)) r13 hc) (cwV 2 hts gX9_of_X9_weighs rfl rfl rfl (by decide +kernel) ⟨(Nat.le_of_ble_eq_true rfl), (Nat.le_of_ble_eq_true rfl)⟩) trivial okT hK hP hD [0] rfl rfl (ci := 7) (q0 := 0) rfl rfl rfl rfl hl.1 rfl (Nat.le_of_ble_eq_true rfl) dX9_of_78) hP hD hS hA [0] [1, 2, 3] [3, 0, 1, 2] rfl rfl rfl (by decide) rfl rfl (fun H locs hP hD hS => ?_)
            have e0 := rt1 hf
            exact W.iret (v := r13) hx hb hr (fun t ht hW => ⟨⟨r13, (), rfl, e0, by rw [ht]; exact hP, va_K.moved hW.alike hK, by rw [hAe]; exact hD⟩, hS.F ht⟩) hS.2.2 dX9_of_81
          · have hf := ie hf c10
            refine lv_bipush (v := -3) hx hb dX9_of_64 (by decide) ?_
            refine lv_goto (tgt := 81) hx hb dX9_of_66 (by decide) ?_
            have e0 := rt1 hf
            exact W.iret (v := (-3 : Int32)) hx hb hr (fun t ht hW => ⟨⟨(-3 : Int32), (), rfl, e0, by rw [ht]; exact hP, va_K.moved hW.alike hK, by rw [hAe]; exact hD⟩, hS.F ht⟩) hS.2.2 dX9_of_81
        · have hf := it hf c7
          refine lv_bipush (v := -12) hx hb dX9_of_45 (by decide) ?_
          have e0 := rt1 hf
          exact W.iret (v := (-12 : Int32)) hx hb hr (fun t ht hW => ⟨⟨(-12 : Int32), (), rfl, e0, by rw [ht]; exact hP, va_K.moved hW.alike hK, by rw [hAe]; exact hD⟩, hS.F ht⟩) hS.2.2 dX9_of_47
      · have hf := ie hf c4
        refine lv_bipush (v := -11) hx hb dX9_of_24 (by decide) ?_
        have e0 := rt1 hf
        exact W.iret (v := (-11 : Int32)) hx hb hr (fun t ht hW => ⟨⟨(-11 : Int32), (), rfl, e0, by rw [ht]; exact hP, va_K.moved hW.alike hK, by rw [hAe]; exact hD⟩, hS.F ht⟩) hS.2.2 dX9_of_26
    · have hf := it hf c2
      refine lv_bipush (v := -2) hx hb dX9_of_12 (by decide) ?_
      have e0 := rt1 hf
      exact W.iret (v := (-2 : Int32)) hx hb hr (fun t ht hW => ⟨⟨(-2 : Int32), (), rfl, e0, by rw [ht]; exact hP, va_K.moved hW.alike hK, by rw [hAe]; exact hD⟩, hS.F ht⟩) hS.2.2 dX9_of_14
  exact E0 s.heap [] hP hD hS ls hl
-- X9_isSheet
set_option maxRecDepth 100000 in
set_option maxHeartbeats 4000000 in
theorem c_X9_isSheet (l : Launch) (G : va_G) (Y : Nat → ClassId) (sz : Nat) (p1 : Int32) (rv : Int32) (hf : f_X9_isSheet p1 = some (rv)) : Met l yX9_isSheet wsX9_isSheet (rmk 1 25) (va_Pc [.int p1] (Pre G (tys Y) [] sz xT)) (va_Qi (fun (r : Int32) (_ : Unit) => r = rv) (Pst G (tys Y) [] sz []) (va_A [] sz)) 0 0 (va_A [] sz) := by
  refine Met.ofW (cc := cX9_isSheet) (maxL := 1) (ret := (some .boolean)) (by decide) rfl ?_
  intro p e s m args below meth c s₁ B hml hv
  obtain ⟨rfl, hsz, hP, hK, hD0, hX⟩ := hv
  have hx := B.exec
  have hb := B.bytes
  have hr := B.returns
  have hts := atoms_spec (ws := wsX9_isSheet) B.pre
  have hown : s.vm.findClass RX9 = some m.cls := findClass_of_methodNamed B.named
  have hlocks := B.notSynchronized
  subst hsz
  have hD := hD0.self (sz := s.heap.size)
  generalize hAe : va_A [] s.heap.size = A at hD ⊢
  have hA : ∀ q : Nat, s.heap.size ≤ q → A q := fun q h => by rw [← hAe]; exact Or.inr h
  have hS : va_S A s.heap s.heap [] := va_S.rf
  have hP : va_P G vwCl [] s.heap := hP
  have wd1 : (Cond.constantLong RX9 307 (3)).before [.int p1].toArray s = true := hts _ (List.mem_of_getElem? (i := 1) rfl)
  have hl := lv_entry ([.int p1]) (n := 1) (Nat.le_of_ble_eq_true rfl)
  rw [lg_entry_eq]
  generalize (lg_sl ([.int p1]) ++ List.replicate (1 - (lg_sl ([.int p1])).length) Slot.unset).toArray = ls at hl ⊢
  have hl : lv_has ls 1 [(0, .int p1)] := hl
  have E0 : ∀ (H : Heap) (locs : List Loc), va_P G vwCl [] H → va_D A [] → va_S A s.heap H locs → ∀ (ls : Array Slot), lv_has ls 1 [(0, .int p1)] → W p l e (headSpec wsX9_isSheet (rmk 1 25)).room s m [.int p1].toArray below meth c H locs 0 0 (MQ below (va_Qi (fun (r : Int32) (_ : Unit) => r = rv) (Pst G (tys Y) [] s.heap.size []) A) [.int p1].toArray s 0 0 A) (F0 m 0 ls []) := by
    intro H locs hP hD hS ls hl
    unfold f_X9_isSheet at hf
    refine lv_iload_n hx hb dX9_isSheet_0 rfl (lv_at hl 0 rfl) ?_
    refine lv_i2l hx hb dX9_isSheet_1 rfl ?_
    refine lv_lconst (v := 0) hx hb dX9_isSheet_2 (by decide) ?_
    refine lv_ldc2 hx hb hown wd1 dX9_isSheet_3 ?_
    obtain ⟨r1, hc, hf⟩ := bd1 hf
    refine cl_i (ws' := []) (wr := []) (rnS (As := [.long p1.toInt64, .long (0 : Int64), .long (3 : Int64)]) (rest := []) ⟨hx, hb, hml, hown, hts⟩ (c_X9_in l G Y H.size p1.toInt64 (0 : Int64) (3 : Int64) r1 hc) (va_cwS 3 hts gX9_isSheet_X9_in rfl rfl rfl (by decide +kernel) ⟨(Nat.le_of_ble_eq_true rfl), (Nat.le_of_ble_eq_true rfl)⟩) trivial okT hK hP hD [] rfl rfl rfl hl.1 rfl (Nat.le_of_ble_eq_true rfl) dX9_isSheet_6) hP hD hS hA [] [] [] rfl rfl rfl (by decide) rfl rfl (fun H locs hP hD hS => ?_)
    obtain ⟨g2, hf⟩ := gp hf
    have e0 := rt1 hf
    exact W.zret (v := r1) hx hb hr (nb_n g2) (fun t ht hW => ⟨⟨r1, (), rfl, e0, by rw [ht]; exact hP, va_K.moved hW.alike hK, by rw [hAe]; exact hD⟩, hS.F ht⟩) hS.2.2 dX9_isSheet_9
  exact E0 s.heap [] hP hD hS ls hl
-- X9_isInt
set_option maxRecDepth 100000 in
set_option maxHeartbeats 4000000 in
theorem c_X9_isInt (l : Launch) (G : va_G) (Y : Nat → ClassId) (sz : Nat) (p1 : Int64) (rv : Int32) (hf : f_X9_isInt p1 = some (rv)) : Met l yX9_isInt wsX9_isInt (rmk 0 0) (va_Pc [.long p1] (Pre G (tys Y) [] sz xT)) (va_Qi (fun (r : Int32) (_ : Unit) => r = rv) (Pst G (tys Y) [] sz []) (va_A [] sz)) 0 0 (va_A [] sz) := by
  refine Met.ofW (cc := cX9_isInt) (maxL := 2) (ret := (some .boolean)) (by decide) rfl ?_
  intro p e s m args below meth c s₁ B hml hv
  obtain ⟨rfl, hsz, hP, hK, hD0, hX⟩ := hv
  have hx := B.exec
  have hb := B.bytes
  have hr := B.returns
  have hts := atoms_spec (ws := wsX9_isInt) B.pre
  have hown : s.vm.findClass RX9 = some m.cls := findClass_of_methodNamed B.named
  have hlocks := B.notSynchronized
  subst hsz
  have hD := hD0.self (sz := s.heap.size)
  generalize hAe : va_A [] s.heap.size = A at hD ⊢
  have hA : ∀ q : Nat, s.heap.size ≤ q → A q := fun q h => by rw [← hAe]; exact Or.inr h
  have hS : va_S A s.heap s.heap [] := va_S.rf
  have hP : va_P G vwCl [] s.heap := hP
  have hl := lv_entry ([.long p1]) (n := 2) (Nat.le_of_ble_eq_true rfl)
  rw [lg_entry_eq]
  generalize (lg_sl ([.long p1]) ++ List.replicate (2 - (lg_sl ([.long p1])).length) Slot.unset).toArray = ls at hl ⊢
  have hl : lv_has ls 2 [(0, .long p1)] := hl
  have E0 : ∀ (H : Heap) (locs : List Loc), va_P G vwCl [] H → va_D A [] → va_S A s.heap H locs → ∀ (ls : Array Slot), lv_has ls 2 [(0, .long p1)] → W p l e (headSpec wsX9_isInt (rmk 0 0)).room s m [.long p1].toArray below meth c H locs 0 0 (MQ below (va_Qi (fun (r : Int32) (_ : Unit) => r = rv) (Pst G (tys Y) [] s.heap.size []) A) [.long p1].toArray s 0 0 A) (F0 m 0 ls []) := by
    intro H locs hP hD hS ls hl
    unfold f_X9_isInt at hf
    refine lv_lload_n hx hb dX9_isInt_0 rfl (lv_at hl 0 rfl) ?_
    refine lv_lload_n hx hb dX9_isInt_1 rfl (lv_at hl 0 rfl) ?_
    refine lv_l2i hx hb dX9_isInt_2 rfl ?_
    refine lv_i2l hx hb dX9_isInt_3 rfl ?_
    refine W.lcmp hx hb dX9_isInt_4 ?_
    refine lv_if_ne (tgt := 12) hx hb dX9_isInt_5 (by decide) (fun c1 => ?_) (fun c1 => ?_)
    · have hf := ie hf c1
      refine lv_iconst (v := 0) hx hb dX9_isInt_12 (by decide) ?_
      have e0 := rt1 hf
      exact W.zret (v := (0 : Int32)) hx hb hr rfl (fun t ht hW => ⟨⟨(0 : Int32), (), rfl, e0, by rw [ht]; exact hP, va_K.moved hW.alike hK, by rw [hAe]; exact hD⟩, hS.F ht⟩) hS.2.2 dX9_isInt_13
    · have hf := it hf c1
      refine lv_iconst (v := 1) hx hb dX9_isInt_8 (by decide) ?_
      refine lv_goto (tgt := 13) hx hb dX9_isInt_9 (by decide) ?_
      have e0 := rt1 hf
      exact W.zret (v := (1 : Int32)) hx hb hr rfl (fun t ht hW => ⟨⟨(1 : Int32), (), rfl, e0, by rw [ht]; exact hP, va_K.moved hW.alike hK, by rw [hAe]; exact hD⟩, hS.F ht⟩) hS.2.2 dX9_isInt_13
  exact E0 s.heap [] hP hD hS ls hl
-- X9_puts
set_option maxRecDepth 100000 in
set_option maxHeartbeats 4000000 in
theorem c_X9_puts (l : Launch) (G : va_G) (Y : Nat → ClassId) (sz : Nat) (qx : Nat → Nat) (x_points : Int32) (x_lines : Int32) (x_tide : Int32) (x_isKept : Int32) (x_isMuch : Int32) (x_sum : Int64) (x_once : Int64) (x_twice : Int64) (x_isTermMuch : Int32) (x_nodes : Int32) (x_newMany : Int32) (x_isTooGreat : Int32) (x_come : Int32) (x_foundSet : Int64) (x_wholes : Nat → Int64) (x_floats : Nat → UInt32) (x_doubles : Nat → UInt64) (p1 : Int32) (p2 : Int32) (p3 : Int64) (o_x_wholes : Nat → Int64) (o_x_floats : Nat → UInt32) (o_x_doubles : Nat → UInt64) (hf : f_X9_puts x_wholes x_floats x_doubles p1 p2 p3 = some (o_x_wholes, o_x_floats, o_x_doubles)) : Met l yX9_puts wsX9_puts (rmk 0 0) (va_Pc [.ref (qx 0), .int p1, .int p2, .long p3] (Pre G (tys Y) [(qx 0, oX9 qx x_points x_lines x_tide x_isKept x_isMuch x_sum x_once x_twice x_isTermMuch x_nodes x_newMany x_isTooGreat x_come x_foundSet), (qx 35, .inl (Y 1, 240, .inr (.inl x_wholes))), (qx 36, .inl (Y 2, 240, .inr (.inr (.inl x_floats)))), (qx 37, .inl (Y 3, 240, .inr (.inr (.inr (.inl x_doubles)))))] sz xT)) (va_Qv (fun (_ : Unit) => True) (Pst G (tys Y) [(qx 0, oX9 qx x_points x_lines x_tide x_isKept x_isMuch x_sum x_once x_twice x_isTermMuch x_nodes x_newMany x_isTooGreat x_come x_foundSet), (qx 35, .inl (Y 1, 240, .inr (.inl x_wholes))), (qx 36, .inl (Y 2, 240, .inr (.inr (.inl x_floats)))), (qx 37, .inl (Y 3, 240, .inr (.inr (.inr (.inl x_doubles)))))] sz [(qx 0, oX9 qx x_points x_lines x_tide x_isKept x_isMuch x_sum x_once x_twice x_isTermMuch x_nodes x_newMany x_isTooGreat x_come x_foundSet), (qx 35, .inl (Y 1, 240, .inr (.inl o_x_wholes))), (qx 36, .inl (Y 2, 240, .inr (.inr (.inl o_x_floats)))), (qx 37, .inl (Y 3, 240, .inr (.inr (.inr (.inl o_x_doubles)))))]) (va_A [(qx 0, oX9 qx x_points x_lines x_tide x_isKept x_isMuch x_sum x_once x_twice x_isTermMuch x_nodes x_newMany x_isTooGreat x_come x_foundSet), (qx 35, .inl (Y 1, 240, .inr (.inl x_wholes))), (qx 36, .inl (Y 2, 240, .inr (.inr (.inl x_floats)))), (qx 37, .inl (Y 3, 240, .inr (.inr (.inr (.inl x_doubles)))))] sz)) 0 0 (va_A [(qx 0, oX9 qx x_points x_lines x_tide x_isKept x_isMuch x_sum x_once x_twice x_isTermMuch x_nodes x_newMany x_isTooGreat x_come x_foundSet), (qx 35, .inl (Y 1, 240, .inr (.inl x_wholes))), (qx 36, .inl (Y 2, 240, .inr (.inr (.inl x_floats)))), (qx 37, .inl (Y 3, 240, .inr (.inr (.inr (.inl x_doubles)))))] sz) := by
  refine Met.ofW (cc := cX9_puts) (maxL := 5) (ret := none) (by decide) rfl ?_
  intro p e s m args below meth c s₁ B hml hv
  obtain ⟨rfl, hsz, hP, hK, hD0, hX⟩ := hv
  have hx := B.exec
  have hb := B.bytes
  have hr := B.returns
  have hts := atoms_spec (ws := wsX9_puts) B.pre
  have hown : s.vm.findClass RX9 = some m.cls := findClass_of_methodNamed B.named
  have hlocks := B.notSynchronized
  subst hsz
  have hD := hD0.self (sz := s.heap.size)
  generalize hAe : va_A [(qx 0, oX9 qx x_points x_lines x_tide x_isKept x_isMuch x_sum x_once x_twice x_isTermMuch x_nodes x_newMany x_isTooGreat x_come x_foundSet), (qx 35, .inl (Y 1, 240, .inr (.inl x_wholes))), (qx 36, .inl (Y 2, 240, .inr (.inr (.inl x_floats)))), (qx 37, .inl (Y 3, 240, .inr (.inr (.inr (.inl x_doubles)))))] s.heap.size = A at hD ⊢
  have hA : ∀ q : Nat, s.heap.size ≤ q → A q := fun q h => by rw [← hAe]; exact Or.inr h
  have hS : va_S A s.heap s.heap [] := va_S.rf
  have hP : va_P G vwCl [(qx 0, oX9 qx x_points x_lines x_tide x_isKept x_isMuch x_sum x_once x_twice x_isTermMuch x_nodes x_newMany x_isTooGreat x_come x_foundSet), (qx 35, .inl (Y 1, 240, .inr (.inl x_wholes))), (qx 36, .inl (Y 2, 240, .inr (.inr (.inl x_floats)))), (qx 37, .inl (Y 3, 240, .inr (.inr (.inr (.inl x_doubles)))))] s.heap := hP
  have wd1 : (Cond.fieldLink RX9 71 "PairedLinesModel" "wholes" "[J").before [.ref (qx 0), .int p1, .int p2, .long p3].toArray s = true := hts _ (List.mem_of_getElem? (i := 1) rfl)
  have wd2 : (Cond.fieldLink RX9 74 "PairedLinesModel" "floats" "[F").before [.ref (qx 0), .int p1, .int p2, .long p3].toArray s = true := hts _ (List.mem_of_getElem? (i := 2) rfl)
  have wd3 : (Cond.fieldLink RX9 78 "PairedLinesModel" "doubles" "[D").before [.ref (qx 0), .int p1, .int p2, .long p3].toArray s = true := hts _ (List.mem_of_getElem? (i := 3) rfl)
  have inX9w : ∀ w ∈ u_ws RX9 TX9 37, w ∈ wsX9_puts := fun w hw => List.mem_cons_of_mem _ (List.mem_append_right _ (hw))
  have hl := lv_entry ([.ref (qx 0), .int p1, .int p2, .long p3]) (n := 5) (Nat.le_of_ble_eq_true rfl)
  rw [lg_entry_eq]
  generalize (lg_sl ([.ref (qx 0), .int p1, .int p2, .long p3]) ++ List.replicate (5 - (lg_sl ([.ref (qx 0), .int p1, .int p2, .long p3])).length) Slot.unset).toArray = ls at hl ⊢
  have hl : lv_has ls 5 [(0, .ref (qx 0)), (1, .int p1), (2, .int p2), (3, .long p3)] := hl
  have E0 : ∀ (H : Heap) (locs : List Loc), va_P G vwCl [(qx 0, oX9 qx x_points x_lines x_tide x_isKept x_isMuch x_sum x_once x_twice x_isTermMuch x_nodes x_newMany x_isTooGreat x_come x_foundSet), (qx 35, .inl (Y 1, 240, .inr (.inl x_wholes))), (qx 36, .inl (Y 2, 240, .inr (.inr (.inl x_floats)))), (qx 37, .inl (Y 3, 240, .inr (.inr (.inr (.inl x_doubles)))))] H → va_D A [(qx 0, oX9 qx x_points x_lines x_tide x_isKept x_isMuch x_sum x_once x_twice x_isTermMuch x_nodes x_newMany x_isTooGreat x_come x_foundSet), (qx 35, .inl (Y 1, 240, .inr (.inl x_wholes))), (qx 36, .inl (Y 2, 240, .inr (.inr (.inl x_floats)))), (qx 37, .inl (Y 3, 240, .inr (.inr (.inr (.inl x_doubles)))))] → va_S A s.heap H locs → ∀ (ls : Array Slot), lv_has ls 5 [(0, .ref (qx 0)), (1, .int p1), (2, .int p2), (3, .long p3)] → W p l e (headSpec wsX9_puts (rmk 0 0)).room s m [.ref (qx 0), .int p1, .int p2, .long p3].toArray below meth c H locs 0 0 (MQ below (va_Qv (fun (_ : Unit) => True) (Pst G (tys Y) [(qx 0, oX9 qx x_points x_lines x_tide x_isKept x_isMuch x_sum x_once x_twice x_isTermMuch x_nodes x_newMany x_isTooGreat x_come x_foundSet), (qx 35, .inl (Y 1, 240, .inr (.inl x_wholes))), (qx 36, .inl (Y 2, 240, .inr (.inr (.inl x_floats)))), (qx 37, .inl (Y 3, 240, .inr (.inr (.inr (.inl x_doubles)))))] s.heap.size [(qx 0, oX9 qx x_points x_lines x_tide x_isKept x_isMuch x_sum x_once x_twice x_isTermMuch x_nodes x_newMany x_isTooGreat x_come x_foundSet), (qx 35, .inl (Y 1, 240, .inr (.inl o_x_wholes))), (qx 36, .inl (Y 2, 240, .inr (.inr (.inl o_x_floats)))), (qx 37, .inl (Y 3, 240, .inr (.inr (.inr (.inl o_x_doubles)))))]) A) [.ref (qx 0), .int p1, .int p2, .long p3].toArray s 0 0 A) (F0 m 0 ls []) := by
    intro H locs hP hD hS ls hl
    unfold f_X9_puts at hf
    refine lv_aload_n hx hb dX9_puts_0 rfl (lv_at hl 0 rfl) ?_
    refine va_get (D := G) (ci := 7) (v := .ref (qx 35)) (C := RX9) (T := TX9) (N := 37) hx hb hts inX9w hown hK hP 0 rfl rfl 34 (by decide) wd1 (fun _ h9 => h9) rfl dX9_puts_1 ?_
    refine lv_bipush (v := 60) hx hb dX9_puts_4 (by decide) ?_
    refine lv_iload_n hx hb dX9_puts_6 rfl (lv_at hl 1 rfl) ?_
    refine lv_imul hx hb dX9_puts_7 ?_
    refine lv_iload_n hx hb dX9_puts_8 rfl (lv_at hl 2 rfl) ?_
    refine lv_iadd hx hb dX9_puts_9 ?_
    refine lv_lload_n hx hb dX9_puts_10 rfl (lv_at hl 3 rfl) ?_
    obtain ⟨g1, hf⟩ := gd hf
    refine va_last hx hb hK hP hD hS 1 1 rfl rfl g1 dX9_puts_11 (fun H locs hP hD hS => ?_)
    obtain ⟨v2, e_v2⟩ : ∃ z : Nat → Int64, z = vp_updL x_wholes (((60 : Int32) * p1) + p2).toNatClampNeg p3 := ⟨_, rfl⟩
    have hf := nm_at hf e_v2
    have hP : va_P G vwCl [(qx 0, oX9 qx x_points x_lines x_tide x_isKept x_isMuch x_sum x_once x_twice x_isTermMuch x_nodes x_newMany x_isTooGreat x_come x_foundSet), (qx 35, .inl (Y 1, 240, .inr (.inl v2))), (qx 36, .inl (Y 2, 240, .inr (.inr (.inl x_floats)))), (qx 37, .inl (Y 3, 240, .inr (.inr (.inr (.inl x_doubles)))))] H := by rw [e_v2]; exact hP
    have hD : va_D A [(qx 0, oX9 qx x_points x_lines x_tide x_isKept x_isMuch x_sum x_once x_twice x_isTermMuch x_nodes x_newMany x_isTooGreat x_come x_foundSet), (qx 35, .inl (Y 1, 240, .inr (.inl v2))), (qx 36, .inl (Y 2, 240, .inr (.inr (.inl x_floats)))), (qx 37, .inl (Y 3, 240, .inr (.inr (.inr (.inl x_doubles)))))] := by rw [e_v2]; exact hD
    refine lv_aload_n hx hb dX9_puts_12 rfl (lv_at hl 0 rfl) ?_
    refine va_get (D := G) (ci := 7) (v := .ref (qx 36)) (C := RX9) (T := TX9) (N := 37) hx hb hts inX9w hown hK hP 0 rfl rfl 35 (by decide) wd2 (fun _ h9 => h9) rfl dX9_puts_13 ?_
    refine lv_bipush (v := 60) hx hb dX9_puts_16 (by decide) ?_
    refine lv_iload_n hx hb dX9_puts_18 rfl (lv_at hl 1 rfl) ?_
    refine lv_imul hx hb dX9_puts_19 ?_
    refine lv_iload_n hx hb dX9_puts_20 rfl (lv_at hl 2 rfl) ?_
    refine lv_iadd hx hb dX9_puts_21 ?_
    refine lv_lload_n hx hb dX9_puts_22 rfl (lv_at hl 3 rfl) ?_
    refine lv_l2f hx hb dX9_puts_23 ?_
    obtain ⟨g3, hf⟩ := gd hf
    refine va_fast hx hb hK hP hD hS 2 2 rfl rfl g3 dX9_puts_24 (fun H locs hP hD hS => ?_)
    obtain ⟨v4, e_v4⟩ : ∃ z : Nat → UInt32, z = vf_upd x_floats (((60 : Int32) * p1) + p2).toNatClampNeg (FP.l2f p3) := ⟨_, rfl⟩
    have hf := nm_at hf e_v4
    have hP : va_P G vwCl [(qx 0, oX9 qx x_points x_lines x_tide x_isKept x_isMuch x_sum x_once x_twice x_isTermMuch x_nodes x_newMany x_isTooGreat x_come x_foundSet), (qx 35, .inl (Y 1, 240, .inr (.inl v2))), (qx 36, .inl (Y 2, 240, .inr (.inr (.inl v4)))), (qx 37, .inl (Y 3, 240, .inr (.inr (.inr (.inl x_doubles)))))] H := by rw [e_v4]; exact hP
    have hD : va_D A [(qx 0, oX9 qx x_points x_lines x_tide x_isKept x_isMuch x_sum x_once x_twice x_isTermMuch x_nodes x_newMany x_isTooGreat x_come x_foundSet), (qx 35, .inl (Y 1, 240, .inr (.inl v2))), (qx 36, .inl (Y 2, 240, .inr (.inr (.inl v4)))), (qx 37, .inl (Y 3, 240, .inr (.inr (.inr (.inl x_doubles)))))] := by rw [e_v4]; exact hD
    refine lv_aload_n hx hb dX9_puts_25 rfl (lv_at hl 0 rfl) ?_
    refine va_get (D := G) (ci := 7) (v := .ref (qx 37)) (C := RX9) (T := TX9) (N := 37) hx hb hts inX9w hown hK hP 0 rfl rfl 36 (by decide) wd3 (fun _ h9 => h9) rfl dX9_puts_26 ?_
    refine lv_bipush (v := 60) hx hb dX9_puts_29 (by decide) ?_
    refine lv_iload_n hx hb dX9_puts_31 rfl (lv_at hl 1 rfl) ?_
    refine lv_imul hx hb dX9_puts_32 ?_
    refine lv_iload_n hx hb dX9_puts_33 rfl (lv_at hl 2 rfl) ?_
    refine lv_iadd hx hb dX9_puts_34 ?_
    refine lv_lload_n hx hb dX9_puts_35 rfl (lv_at hl 3 rfl) ?_
    refine lv_l2d hx hb dX9_puts_36 ?_
    obtain ⟨g5, hf⟩ := gd hf
    refine va_dast hx hb hK hP hD hS 3 3 rfl rfl g5 dX9_puts_37 (fun H locs hP hD hS => ?_)
    obtain ⟨v6, e_v6⟩ : ∃ z : Nat → UInt64, z = vf_upd x_doubles (((60 : Int32) * p1) + p2).toNatClampNeg (FP.l2d p3) := ⟨_, rfl⟩
    have hf := nm_at hf e_v6
    have hP : va_P G vwCl [(qx 0, oX9 qx x_points x_lines x_tide x_isKept x_isMuch x_sum x_once x_twice x_isTermMuch x_nodes x_newMany x_isTooGreat x_come x_foundSet), (qx 35, .inl (Y 1, 240, .inr (.inl v2))), (qx 36, .inl (Y 2, 240, .inr (.inr (.inl v4)))), (qx 37, .inl (Y 3, 240, .inr (.inr (.inr (.inl v6)))))] H := by rw [e_v6]; exact hP
    have hD : va_D A [(qx 0, oX9 qx x_points x_lines x_tide x_isKept x_isMuch x_sum x_once x_twice x_isTermMuch x_nodes x_newMany x_isTooGreat x_come x_foundSet), (qx 35, .inl (Y 1, 240, .inr (.inl v2))), (qx 36, .inl (Y 2, 240, .inr (.inr (.inl v4)))), (qx 37, .inl (Y 3, 240, .inr (.inr (.inr (.inl v6)))))] := by rw [e_v6]; exact hD
    obtain ⟨e0, e1, e2⟩ := rt3 hf
    have hP : va_P G vwCl [(qx 0, oX9 qx x_points x_lines x_tide x_isKept x_isMuch x_sum x_once x_twice x_isTermMuch x_nodes x_newMany x_isTooGreat x_come x_foundSet), (qx 35, .inl (Y 1, 240, .inr (.inl o_x_wholes))), (qx 36, .inl (Y 2, 240, .inr (.inr (.inl o_x_floats)))), (qx 37, .inl (Y 3, 240, .inr (.inr (.inr (.inl o_x_doubles)))))] H := by rw [← e0, ← e1, ← e2]; exact hP
    have hD : va_D A [(qx 0, oX9 qx x_points x_lines x_tide x_isKept x_isMuch x_sum x_once x_twice x_isTermMuch x_nodes x_newMany x_isTooGreat x_come x_foundSet), (qx 35, .inl (Y 1, 240, .inr (.inl o_x_wholes))), (qx 36, .inl (Y 2, 240, .inr (.inr (.inl o_x_floats)))), (qx 37, .inl (Y 3, 240, .inr (.inr (.inr (.inl o_x_doubles)))))] := by rw [← e0, ← e1, ← e2]; exact hD
    exact W.vret hx hb hr (fun t ht hW => ⟨⟨(), rfl, trivial, by rw [ht]; exact hP, va_K.moved hW.alike hK, by rw [hAe]; exact hD⟩, hS.F ht⟩) hS.2.2 dX9_puts_38
  exact E0 s.heap [] hP hD hS ls hl
-- X9_sheet
set_option maxRecDepth 100000 in
set_option maxHeartbeats 4000000 in
theorem c_X9_sheet (l : Launch) (G : va_G) (Y : Nat → ClassId) (sz : Nat) (qx : Nat → Nat) (x_points : Int32) (x_lines : Int32) (x_tide : Int32) (x_isKept : Int32) (x_isMuch : Int32) (x_sum : Int64) (x_once : Int64) (x_twice : Int64) (x_isTermMuch : Int32) (x_nodes : Int32) (x_newMany : Int32) (x_isTooGreat : Int32) (x_come : Int32) (x_foundSet : Int64) (x_sorts : Nat → Int32) (x_sizes : Nat → Int32) (x_wholes : Nat → Int64) (x_floats : Nat → UInt32) (x_doubles : Nat → UInt64) (p1 : Int32) (p2 : Int32) (p3 : Int32) (rv : Int32) (o_x_sorts : Nat → Int32) (o_x_sizes : Nat → Int32) (o_x_wholes : Nat → Int64) (o_x_floats : Nat → UInt32) (o_x_doubles : Nat → UInt64) (hf : f_X9_sheet x_sorts x_sizes x_wholes x_floats x_doubles p1 p2 p3 = some (rv, o_x_sorts, o_x_sizes, o_x_wholes, o_x_floats, o_x_doubles)) : Met l yX9_sheet wsX9_sheet (rmk 2 45) (va_Pc [.ref (qx 0), .int p1, .int p2, .int p3] (Pre G (tys Y) [(qx 0, oX9 qx x_points x_lines x_tide x_isKept x_isMuch x_sum x_once x_twice x_isTermMuch x_nodes x_newMany x_isTooGreat x_come x_foundSet), (qx 33, .inl (Y 0, 4, .inl x_sorts)), (qx 34, .inl (Y 0, 4, .inl x_sizes)), (qx 35, .inl (Y 1, 240, .inr (.inl x_wholes))), (qx 36, .inl (Y 2, 240, .inr (.inr (.inl x_floats)))), (qx 37, .inl (Y 3, 240, .inr (.inr (.inr (.inl x_doubles)))))] sz xT)) (va_Qi (fun (r : Int32) (_ : Unit) => r = rv) (Pst G (tys Y) [(qx 0, oX9 qx x_points x_lines x_tide x_isKept x_isMuch x_sum x_once x_twice x_isTermMuch x_nodes x_newMany x_isTooGreat x_come x_foundSet), (qx 33, .inl (Y 0, 4, .inl x_sorts)), (qx 34, .inl (Y 0, 4, .inl x_sizes)), (qx 35, .inl (Y 1, 240, .inr (.inl x_wholes))), (qx 36, .inl (Y 2, 240, .inr (.inr (.inl x_floats)))), (qx 37, .inl (Y 3, 240, .inr (.inr (.inr (.inl x_doubles)))))] sz [(qx 0, oX9 qx x_points x_lines x_tide x_isKept x_isMuch x_sum x_once x_twice x_isTermMuch x_nodes x_newMany x_isTooGreat x_come x_foundSet), (qx 33, .inl (Y 0, 4, .inl o_x_sorts)), (qx 34, .inl (Y 0, 4, .inl o_x_sizes)), (qx 35, .inl (Y 1, 240, .inr (.inl o_x_wholes))), (qx 36, .inl (Y 2, 240, .inr (.inr (.inl o_x_floats)))), (qx 37, .inl (Y 3, 240, .inr (.inr (.inr (.inl o_x_doubles)))))]) (va_A [(qx 0, oX9 qx x_points x_lines x_tide x_isKept x_isMuch x_sum x_once x_twice x_isTermMuch x_nodes x_newMany x_isTooGreat x_come x_foundSet), (qx 33, .inl (Y 0, 4, .inl x_sorts)), (qx 34, .inl (Y 0, 4, .inl x_sizes)), (qx 35, .inl (Y 1, 240, .inr (.inl x_wholes))), (qx 36, .inl (Y 2, 240, .inr (.inr (.inl x_floats)))), (qx 37, .inl (Y 3, 240, .inr (.inr (.inr (.inl x_doubles)))))] sz)) 0 0 (va_A [(qx 0, oX9 qx x_points x_lines x_tide x_isKept x_isMuch x_sum x_once x_twice x_isTermMuch x_nodes x_newMany x_isTooGreat x_come x_foundSet), (qx 33, .inl (Y 0, 4, .inl x_sorts)), (qx 34, .inl (Y 0, 4, .inl x_sizes)), (qx 35, .inl (Y 1, 240, .inr (.inl x_wholes))), (qx 36, .inl (Y 2, 240, .inr (.inr (.inl x_floats)))), (qx 37, .inl (Y 3, 240, .inr (.inr (.inr (.inl x_doubles)))))] sz) := by
  refine Met.ofW (cc := cX9_sheet) (maxL := 5) (ret := (some .int)) (by decide) rfl ?_
  intro p e s m args below meth c s₁ B hml hv
  obtain ⟨rfl, hsz, hP, hK, hD0, hX⟩ := hv
  have hx := B.exec
  have hb := B.bytes
  have hr := B.returns
  have hts := atoms_spec (ws := wsX9_sheet) B.pre
  have hown : s.vm.findClass RX9 = some m.cls := findClass_of_methodNamed B.named
  have hlocks := B.notSynchronized
  subst hsz
  have hD := hD0.self (sz := s.heap.size)
  generalize hAe : va_A [(qx 0, oX9 qx x_points x_lines x_tide x_isKept x_isMuch x_sum x_once x_twice x_isTermMuch x_nodes x_newMany x_isTooGreat x_come x_foundSet), (qx 33, .inl (Y 0, 4, .inl x_sorts)), (qx 34, .inl (Y 0, 4, .inl x_sizes)), (qx 35, .inl (Y 1, 240, .inr (.inl x_wholes))), (qx 36, .inl (Y 2, 240, .inr (.inr (.inl x_floats)))), (qx 37, .inl (Y 3, 240, .inr (.inr (.inr (.inl x_doubles)))))] s.heap.size = A at hD ⊢
  have hA : ∀ q : Nat, s.heap.size ≤ q → A q := fun q h => by rw [← hAe]; exact Or.inr h
  have hS : va_S A s.heap s.heap [] := va_S.rf
  have hP : va_P G vwCl [(qx 0, oX9 qx x_points x_lines x_tide x_isKept x_isMuch x_sum x_once x_twice x_isTermMuch x_nodes x_newMany x_isTooGreat x_come x_foundSet), (qx 33, .inl (Y 0, 4, .inl x_sorts)), (qx 34, .inl (Y 0, 4, .inl x_sizes)), (qx 35, .inl (Y 1, 240, .inr (.inl x_wholes))), (qx 36, .inl (Y 2, 240, .inr (.inr (.inl x_floats)))), (qx 37, .inl (Y 3, 240, .inr (.inr (.inr (.inl x_doubles)))))] s.heap := hP
  have wd1 : (Cond.constantLong RX9 84 (-1)).before [.ref (qx 0), .int p1, .int p2, .int p3].toArray s = true := hts _ (List.mem_of_getElem? (i := 1) rfl)
  have wd2 : (Cond.constantLong RX9 307 (3)).before [.ref (qx 0), .int p1, .int p2, .int p3].toArray s = true := hts _ (List.mem_of_getElem? (i := 2) rfl)
  have wd3 : (Cond.fieldLink RX9 65 "PairedLinesModel" "sorts" "[I").before [.ref (qx 0), .int p1, .int p2, .int p3].toArray s = true := hts _ (List.mem_of_getElem? (i := 3) rfl)
  have wd4 : (Cond.fieldLink RX9 68 "PairedLinesModel" "sizes" "[I").before [.ref (qx 0), .int p1, .int p2, .int p3].toArray s = true := hts _ (List.mem_of_getElem? (i := 4) rfl)
  have inX9w : ∀ w ∈ u_ws RX9 TX9 37, w ∈ wsX9_sheet := fun w hw => List.mem_cons_of_mem _ (List.mem_append_right _ (hw))
  have hl := lv_entry ([.ref (qx 0), .int p1, .int p2, .int p3]) (n := 5) (Nat.le_of_ble_eq_true rfl)
  rw [lg_entry_eq]
  generalize (lg_sl ([.ref (qx 0), .int p1, .int p2, .int p3]) ++ List.replicate (5 - (lg_sl ([.ref (qx 0), .int p1, .int p2, .int p3])).length) Slot.unset).toArray = ls at hl ⊢
  have hl : lv_has ls 5 [(0, .ref (qx 0)), (1, .int p1), (2, .int p2), (3, .int p3)] := hl
  have B70 : ∀ (n70 : Nat), ∀ (b_x_sorts : Nat → Int32) (b_x_sizes : Nat → Int32) (b_x_wholes : Nat → Int64) (b_x_floats : Nat → UInt32) (b_x_doubles : Nat → UInt64) (x4 : Int32), f_X9_sheet_b70 p1 p2 p3 n70 b_x_sorts b_x_sizes b_x_wholes b_x_floats b_x_doubles x4 = some (rv, o_x_sorts, o_x_sizes, o_x_wholes, o_x_floats, o_x_doubles) → ∀ (H : Heap) (locs : List Loc), va_P G vwCl [(qx 0, oX9 qx x_points x_lines x_tide x_isKept x_isMuch x_sum x_once x_twice x_isTermMuch x_nodes x_newMany x_isTooGreat x_come x_foundSet), (qx 33, .inl (Y 0, 4, .inl b_x_sorts)), (qx 34, .inl (Y 0, 4, .inl b_x_sizes)), (qx 35, .inl (Y 1, 240, .inr (.inl b_x_wholes))), (qx 36, .inl (Y 2, 240, .inr (.inr (.inl b_x_floats)))), (qx 37, .inl (Y 3, 240, .inr (.inr (.inr (.inl b_x_doubles)))))] H → va_D A [(qx 0, oX9 qx x_points x_lines x_tide x_isKept x_isMuch x_sum x_once x_twice x_isTermMuch x_nodes x_newMany x_isTooGreat x_come x_foundSet), (qx 33, .inl (Y 0, 4, .inl b_x_sorts)), (qx 34, .inl (Y 0, 4, .inl b_x_sizes)), (qx 35, .inl (Y 1, 240, .inr (.inl b_x_wholes))), (qx 36, .inl (Y 2, 240, .inr (.inr (.inl b_x_floats)))), (qx 37, .inl (Y 3, 240, .inr (.inr (.inr (.inl b_x_doubles)))))] → va_S A s.heap H locs → ∀ (ls : Array Slot), lv_has ls 5 [(0, .ref (qx 0)), (1, .int p1), (4, .int x4)] → W p l e (headSpec wsX9_sheet (rmk 2 45)).room s m [.ref (qx 0), .int p1, .int p2, .int p3].toArray below meth c H locs 0 0 (MQ below (va_Qi (fun (r : Int32) (_ : Unit) => r = rv) (Pst G (tys Y) [(qx 0, oX9 qx x_points x_lines x_tide x_isKept x_isMuch x_sum x_once x_twice x_isTermMuch x_nodes x_newMany x_isTooGreat x_come x_foundSet), (qx 33, .inl (Y 0, 4, .inl x_sorts)), (qx 34, .inl (Y 0, 4, .inl x_sizes)), (qx 35, .inl (Y 1, 240, .inr (.inl x_wholes))), (qx 36, .inl (Y 2, 240, .inr (.inr (.inl x_floats)))), (qx 37, .inl (Y 3, 240, .inr (.inr (.inr (.inl x_doubles)))))] s.heap.size [(qx 0, oX9 qx x_points x_lines x_tide x_isKept x_isMuch x_sum x_once x_twice x_isTermMuch x_nodes x_newMany x_isTooGreat x_come x_foundSet), (qx 33, .inl (Y 0, 4, .inl o_x_sorts)), (qx 34, .inl (Y 0, 4, .inl o_x_sizes)), (qx 35, .inl (Y 1, 240, .inr (.inl o_x_wholes))), (qx 36, .inl (Y 2, 240, .inr (.inr (.inl o_x_floats)))), (qx 37, .inl (Y 3, 240, .inr (.inr (.inr (.inl o_x_doubles)))))]) A) [.ref (qx 0), .int p1, .int p2, .int p3].toArray s 0 0 A) (F0 m 70 ls []) := by
    intro n70
    induction n70 with
    | zero =>
      intro b_x_sorts b_x_sizes b_x_wholes b_x_floats b_x_doubles x4 hf H locs hP hD hS ls hl
      exact no_none hf
    | succ n70 ih70 =>
      intro b_x_sorts b_x_sizes b_x_wholes b_x_floats b_x_doubles x4 hf H locs hP hD hS ls hl
      have hf : f_X9_sheet_s70 p1 p2 p3 (f_X9_sheet_b70 p1 p2 p3  n70) b_x_sorts b_x_sizes b_x_wholes b_x_floats b_x_doubles x4 = some (rv, o_x_sorts, o_x_sizes, o_x_wholes, o_x_floats, o_x_doubles) := hf
      unfold f_X9_sheet_s70 at hf
      refine lv_iload hx hb dX9_sheet_70 (lv_at hl 2 rfl) ?_
      refine lv_bipush (v := 60) hx hb dX9_sheet_72 (by decide) ?_
      refine lv_icmp_ge (tgt := 91) hx hb dX9_sheet_74 (by decide) (fun c1 => ?_) (fun c1 => ?_)
      · have hf := it hf c1
        refine lv_iconst (v := 1) hx hb dX9_sheet_91 (by decide) ?_
        obtain ⟨e0, e1, e2, e3, e4, e5⟩ := rt6 hf
        have hP : va_P G vwCl [(qx 0, oX9 qx x_points x_lines x_tide x_isKept x_isMuch x_sum x_once x_twice x_isTermMuch x_nodes x_newMany x_isTooGreat x_come x_foundSet), (qx 33, .inl (Y 0, 4, .inl o_x_sorts)), (qx 34, .inl (Y 0, 4, .inl o_x_sizes)), (qx 35, .inl (Y 1, 240, .inr (.inl o_x_wholes))), (qx 36, .inl (Y 2, 240, .inr (.inr (.inl o_x_floats)))), (qx 37, .inl (Y 3, 240, .inr (.inr (.inr (.inl o_x_doubles)))))] H := by rw [← e1, ← e2, ← e3, ← e4, ← e5]; exact hP
        have hD : va_D A [(qx 0, oX9 qx x_points x_lines x_tide x_isKept x_isMuch x_sum x_once x_twice x_isTermMuch x_nodes x_newMany x_isTooGreat x_come x_foundSet), (qx 33, .inl (Y 0, 4, .inl o_x_sorts)), (qx 34, .inl (Y 0, 4, .inl o_x_sizes)), (qx 35, .inl (Y 1, 240, .inr (.inl o_x_wholes))), (qx 36, .inl (Y 2, 240, .inr (.inr (.inl o_x_floats)))), (qx 37, .inl (Y 3, 240, .inr (.inr (.inr (.inl o_x_doubles)))))] := by rw [← e1, ← e2, ← e3, ← e4, ← e5]; exact hD
        exact W.iret (v := (1 : Int32)) hx hb hr (fun t ht hW => ⟨⟨(1 : Int32), (), rfl, e0, by rw [ht]; exact hP, va_K.moved hW.alike hK, by rw [hAe]; exact hD⟩, hS.F ht⟩) hS.2.2 dX9_sheet_92
      · have hf := ie hf c1
        refine lv_aload_n hx hb dX9_sheet_77 rfl (lv_at hl 0 rfl) ?_
        refine lv_iload_n hx hb dX9_sheet_78 rfl (lv_at hl 1 rfl) ?_
        refine lv_iload hx hb dX9_sheet_79 (lv_at hl 2 rfl) ?_
        refine lv_lconst (v := 0) hx hb dX9_sheet_81 (by decide) ?_
        obtain ⟨w2, w3, w4, hc, hf⟩ := bd3 hf
        refine cl_v (ws' := [(qx 0, oX9 qx x_points x_lines x_tide x_isKept x_isMuch x_sum x_once x_twice x_isTermMuch x_nodes x_newMany x_isTooGreat x_come x_foundSet), (qx 33, .inl (Y 0, 4, .inl b_x_sorts)), (qx 34, .inl (Y 0, 4, .inl b_x_sizes)), (qx 35, .inl (Y 1, 240, .inr (.inl w2))), (qx 36, .inl (Y 2, 240, .inr (.inr (.inl w3)))), (qx 37, .inl (Y 3, 240, .inr (.inr (.inr (.inl w4)))))]) (wr := [(qx 33, .inl (Y 0, 4, .inl b_x_sorts)), (qx 34, .inl (Y 0, 4, .inl b_x_sizes))]) (rnV (As := [.int p1, .int x4, .long (0 : Int64)]) (rest := []) ⟨hx, hb, hml, hown, hts⟩ (c_X9_puts l G Y H.size qx x_points x_lines x_tide x_isKept x_isMuch x_sum x_once x_twice x_isTermMuch x_nodes x_newMany x_isTooGreat x_come x_foundSet b_x_wholes b_x_floats b_x_doubles p1 x4 (0 : Int64) w2 w3 w4 hc) (cwV 3 hts gX9_sheet_X9_puts rfl rfl rfl (by decide +kernel) ⟨(Nat.le_of_ble_eq_true rfl), (Nat.le_of_ble_eq_true rfl)⟩) trivial okT hK hP hD [0, 3, 4, 5] rfl rfl (ci := 7) (q0 := 0) rfl rfl rfl rfl hl.1 rfl (Nat.le_of_ble_eq_true rfl) dX9_sheet_82) hP hD hS hA [0, 3, 4, 5] [1, 2] [2, 0, 1, 3, 4, 5] rfl rfl rfl (by decide) rfl rfl (fun H locs hP hD hS => ?_)
        obtain ⟨v5, e_v5⟩ : ∃ z : Int32, z = (x4 + 1) := ⟨_, rfl⟩
        have hf := nm_at hf e_v5
        refine lv_iinc (v := v5) (lv' := [(4, .int v5), (0, .ref (qx 0)), (1, .int p1)]) hx hb dX9_sheet_85 hl (k := 2) rfl (by rw [e_v5]; rfl) (by decide) rfl (fun ls hl => ?_)
        refine lv_goto (tgt := 70) hx hb dX9_sheet_88 (by decide) ?_
        exact ih70 b_x_sorts b_x_sizes w2 w3 w4 v5 hf _ _ hP hD hS ls (lv_sub hl [1, 2, 0] rfl)
  have B45 : ∀ (b_x_sorts : Nat → Int32) (b_x_sizes : Nat → Int32) (b_x_wholes : Nat → Int64) (b_x_floats : Nat → UInt32) (b_x_doubles : Nat → UInt64), f_X9_sheet_b45 p1 p2 p3 b_x_sorts b_x_sizes b_x_wholes b_x_floats b_x_doubles = some (rv, o_x_sorts, o_x_sizes, o_x_wholes, o_x_floats, o_x_doubles) → ∀ (H : Heap) (locs : List Loc), va_P G vwCl [(qx 0, oX9 qx x_points x_lines x_tide x_isKept x_isMuch x_sum x_once x_twice x_isTermMuch x_nodes x_newMany x_isTooGreat x_come x_foundSet), (qx 33, .inl (Y 0, 4, .inl b_x_sorts)), (qx 34, .inl (Y 0, 4, .inl b_x_sizes)), (qx 35, .inl (Y 1, 240, .inr (.inl b_x_wholes))), (qx 36, .inl (Y 2, 240, .inr (.inr (.inl b_x_floats)))), (qx 37, .inl (Y 3, 240, .inr (.inr (.inr (.inl b_x_doubles)))))] H → va_D A [(qx 0, oX9 qx x_points x_lines x_tide x_isKept x_isMuch x_sum x_once x_twice x_isTermMuch x_nodes x_newMany x_isTooGreat x_come x_foundSet), (qx 33, .inl (Y 0, 4, .inl b_x_sorts)), (qx 34, .inl (Y 0, 4, .inl b_x_sizes)), (qx 35, .inl (Y 1, 240, .inr (.inl b_x_wholes))), (qx 36, .inl (Y 2, 240, .inr (.inr (.inl b_x_floats)))), (qx 37, .inl (Y 3, 240, .inr (.inr (.inr (.inl b_x_doubles)))))] → va_S A s.heap H locs → ∀ (ls : Array Slot), lv_has ls 5 [(0, .ref (qx 0)), (1, .int p1), (2, .int p2), (3, .int p3)] → W p l e (headSpec wsX9_sheet (rmk 2 45)).room s m [.ref (qx 0), .int p1, .int p2, .int p3].toArray below meth c H locs 0 0 (MQ below (va_Qi (fun (r : Int32) (_ : Unit) => r = rv) (Pst G (tys Y) [(qx 0, oX9 qx x_points x_lines x_tide x_isKept x_isMuch x_sum x_once x_twice x_isTermMuch x_nodes x_newMany x_isTooGreat x_come x_foundSet), (qx 33, .inl (Y 0, 4, .inl x_sorts)), (qx 34, .inl (Y 0, 4, .inl x_sizes)), (qx 35, .inl (Y 1, 240, .inr (.inl x_wholes))), (qx 36, .inl (Y 2, 240, .inr (.inr (.inl x_floats)))), (qx 37, .inl (Y 3, 240, .inr (.inr (.inr (.inl x_doubles)))))] s.heap.size [(qx 0, oX9 qx x_points x_lines x_tide x_isKept x_isMuch x_sum x_once x_twice x_isTermMuch x_nodes x_newMany x_isTooGreat x_come x_foundSet), (qx 33, .inl (Y 0, 4, .inl o_x_sorts)), (qx 34, .inl (Y 0, 4, .inl o_x_sizes)), (qx 35, .inl (Y 1, 240, .inr (.inl o_x_wholes))), (qx 36, .inl (Y 2, 240, .inr (.inr (.inl o_x_floats)))), (qx 37, .inl (Y 3, 240, .inr (.inr (.inr (.inl o_x_doubles)))))]) A) [.ref (qx 0), .int p1, .int p2, .int p3].toArray s 0 0 A) (F0 m 45 ls []) := by
    intro b_x_sorts b_x_sizes b_x_wholes b_x_floats b_x_doubles hf H locs hP hD hS ls hl
    unfold f_X9_sheet_b45 at hf
    refine lv_aload_n hx hb dX9_sheet_45 rfl (lv_at hl 0 rfl) ?_
    refine va_get (D := G) (ci := 7) (v := .ref (qx 33)) (C := RX9) (T := TX9) (N := 37) hx hb hts inX9w hown hK hP 0 rfl rfl 32 (by decide) wd3 (fun _ h9 => h9) rfl dX9_sheet_46 ?_
    refine lv_iload_n hx hb dX9_sheet_49 rfl (lv_at hl 1 rfl) ?_
    refine lv_iload_n hx hb dX9_sheet_50 rfl (lv_at hl 2 rfl) ?_
    obtain ⟨g6, hf⟩ := gd hf
    refine va_iast hx hb hK hP hD hS 1 0 rfl rfl g6 dX9_sheet_51 (fun H locs hP hD hS => ?_)
    obtain ⟨v7, e_v7⟩ : ∃ z : Nat → Int32, z = upd b_x_sorts p1.toNatClampNeg p2 := ⟨_, rfl⟩
    have hf := nm_at hf e_v7
    have hP : va_P G vwCl [(qx 0, oX9 qx x_points x_lines x_tide x_isKept x_isMuch x_sum x_once x_twice x_isTermMuch x_nodes x_newMany x_isTooGreat x_come x_foundSet), (qx 33, .inl (Y 0, 4, .inl v7)), (qx 34, .inl (Y 0, 4, .inl b_x_sizes)), (qx 35, .inl (Y 1, 240, .inr (.inl b_x_wholes))), (qx 36, .inl (Y 2, 240, .inr (.inr (.inl b_x_floats)))), (qx 37, .inl (Y 3, 240, .inr (.inr (.inr (.inl b_x_doubles)))))] H := by rw [e_v7]; exact hP
    have hD : va_D A [(qx 0, oX9 qx x_points x_lines x_tide x_isKept x_isMuch x_sum x_once x_twice x_isTermMuch x_nodes x_newMany x_isTooGreat x_come x_foundSet), (qx 33, .inl (Y 0, 4, .inl v7)), (qx 34, .inl (Y 0, 4, .inl b_x_sizes)), (qx 35, .inl (Y 1, 240, .inr (.inl b_x_wholes))), (qx 36, .inl (Y 2, 240, .inr (.inr (.inl b_x_floats)))), (qx 37, .inl (Y 3, 240, .inr (.inr (.inr (.inl b_x_doubles)))))] := by rw [e_v7]; exact hD
    refine lv_aload_n hx hb dX9_sheet_52 rfl (lv_at hl 0 rfl) ?_
    refine va_get (D := G) (ci := 7) (v := .ref (qx 34)) (C := RX9) (T := TX9) (N := 37) hx hb hts inX9w hown hK hP 0 rfl rfl 33 (by decide) wd4 (fun _ h9 => h9) rfl dX9_sheet_53 ?_
    refine lv_iload_n hx hb dX9_sheet_56 rfl (lv_at hl 1 rfl) ?_
    refine lv_iload_n hx hb dX9_sheet_57 rfl (lv_at hl 2 rfl) ?_
    refine lv_if_ge (tgt := 65) hx hb dX9_sheet_58 (by decide) (fun c8 => ?_) (fun c8 => ?_)
    · have hf := it hf c8
      refine lv_iload_n hx hb dX9_sheet_65 rfl (lv_at hl 3 rfl) ?_
      obtain ⟨g9, hf⟩ := gd hf
      refine va_iast hx hb hK hP hD hS 2 0 rfl rfl g9 dX9_sheet_66 (fun H locs hP hD hS => ?_)
      obtain ⟨v10, e_v10⟩ : ∃ z : Nat → Int32, z = upd b_x_sizes p1.toNatClampNeg p3 := ⟨_, rfl⟩
      have hf := nm_at hf e_v10
      have hP : va_P G vwCl [(qx 0, oX9 qx x_points x_lines x_tide x_isKept x_isMuch x_sum x_once x_twice x_isTermMuch x_nodes x_newMany x_isTooGreat x_come x_foundSet), (qx 33, .inl (Y 0, 4, .inl v7)), (qx 34, .inl (Y 0, 4, .inl v10)), (qx 35, .inl (Y 1, 240, .inr (.inl b_x_wholes))), (qx 36, .inl (Y 2, 240, .inr (.inr (.inl b_x_floats)))), (qx 37, .inl (Y 3, 240, .inr (.inr (.inr (.inl b_x_doubles)))))] H := by rw [e_v10]; exact hP
      have hD : va_D A [(qx 0, oX9 qx x_points x_lines x_tide x_isKept x_isMuch x_sum x_once x_twice x_isTermMuch x_nodes x_newMany x_isTooGreat x_come x_foundSet), (qx 33, .inl (Y 0, 4, .inl v7)), (qx 34, .inl (Y 0, 4, .inl v10)), (qx 35, .inl (Y 1, 240, .inr (.inl b_x_wholes))), (qx 36, .inl (Y 2, 240, .inr (.inr (.inl b_x_floats)))), (qx 37, .inl (Y 3, 240, .inr (.inr (.inr (.inl b_x_doubles)))))] := by rw [e_v10]; exact hD
      refine lv_iconst (v := 0) hx hb dX9_sheet_67 (by decide) ?_
      refine lv_istore (lv' := [(4, .int (0 : Int32)), (0, .ref (qx 0)), (1, .int p1), (2, .int p2), (3, .int p3)]) hx hb dX9_sheet_68 hl (by decide) rfl (fun ls hl => ?_)
      exact B70 70 v7 v10 b_x_wholes b_x_floats b_x_doubles (0 : Int32) hf _ _ hP hD hS ls (lv_sub hl [1, 2, 0] rfl)
    · have hf := ie hf c8
      refine lv_iconst (v := 0) hx hb dX9_sheet_61 (by decide) ?_
      refine lv_goto (tgt := 66) hx hb dX9_sheet_62 (by decide) ?_
      obtain ⟨g11, hf⟩ := gd hf
      refine va_iast hx hb hK hP hD hS 2 0 rfl rfl g11 dX9_sheet_66 (fun H locs hP hD hS => ?_)
      obtain ⟨v12, e_v12⟩ : ∃ z : Nat → Int32, z = upd b_x_sizes p1.toNatClampNeg (0 : Int32) := ⟨_, rfl⟩
      have hf := nm_at hf e_v12
      have hP : va_P G vwCl [(qx 0, oX9 qx x_points x_lines x_tide x_isKept x_isMuch x_sum x_once x_twice x_isTermMuch x_nodes x_newMany x_isTooGreat x_come x_foundSet), (qx 33, .inl (Y 0, 4, .inl v7)), (qx 34, .inl (Y 0, 4, .inl v12)), (qx 35, .inl (Y 1, 240, .inr (.inl b_x_wholes))), (qx 36, .inl (Y 2, 240, .inr (.inr (.inl b_x_floats)))), (qx 37, .inl (Y 3, 240, .inr (.inr (.inr (.inl b_x_doubles)))))] H := by rw [e_v12]; exact hP
      have hD : va_D A [(qx 0, oX9 qx x_points x_lines x_tide x_isKept x_isMuch x_sum x_once x_twice x_isTermMuch x_nodes x_newMany x_isTooGreat x_come x_foundSet), (qx 33, .inl (Y 0, 4, .inl v7)), (qx 34, .inl (Y 0, 4, .inl v12)), (qx 35, .inl (Y 1, 240, .inr (.inl b_x_wholes))), (qx 36, .inl (Y 2, 240, .inr (.inr (.inl b_x_floats)))), (qx 37, .inl (Y 3, 240, .inr (.inr (.inr (.inl b_x_doubles)))))] := by rw [e_v12]; exact hD
      refine lv_iconst (v := 0) hx hb dX9_sheet_67 (by decide) ?_
      refine lv_istore (lv' := [(4, .int (0 : Int32)), (0, .ref (qx 0)), (1, .int p1), (2, .int p2), (3, .int p3)]) hx hb dX9_sheet_68 hl (by decide) rfl (fun ls hl => ?_)
      exact B70 70 v7 v12 b_x_wholes b_x_floats b_x_doubles (0 : Int32) hf _ _ hP hD hS ls (lv_sub hl [1, 2, 0] rfl)
  have B34 : ∀ (b_x_sorts : Nat → Int32) (b_x_sizes : Nat → Int32) (b_x_wholes : Nat → Int64) (b_x_floats : Nat → UInt32) (b_x_doubles : Nat → UInt64), f_X9_sheet_b34 p1 p2 p3 b_x_sorts b_x_sizes b_x_wholes b_x_floats b_x_doubles = some (rv, o_x_sorts, o_x_sizes, o_x_wholes, o_x_floats, o_x_doubles) → ∀ (H : Heap) (locs : List Loc), va_P G vwCl [(qx 0, oX9 qx x_points x_lines x_tide x_isKept x_isMuch x_sum x_once x_twice x_isTermMuch x_nodes x_newMany x_isTooGreat x_come x_foundSet), (qx 33, .inl (Y 0, 4, .inl b_x_sorts)), (qx 34, .inl (Y 0, 4, .inl b_x_sizes)), (qx 35, .inl (Y 1, 240, .inr (.inl b_x_wholes))), (qx 36, .inl (Y 2, 240, .inr (.inr (.inl b_x_floats)))), (qx 37, .inl (Y 3, 240, .inr (.inr (.inr (.inl b_x_doubles)))))] H → va_D A [(qx 0, oX9 qx x_points x_lines x_tide x_isKept x_isMuch x_sum x_once x_twice x_isTermMuch x_nodes x_newMany x_isTooGreat x_come x_foundSet), (qx 33, .inl (Y 0, 4, .inl b_x_sorts)), (qx 34, .inl (Y 0, 4, .inl b_x_sizes)), (qx 35, .inl (Y 1, 240, .inr (.inl b_x_wholes))), (qx 36, .inl (Y 2, 240, .inr (.inr (.inl b_x_floats)))), (qx 37, .inl (Y 3, 240, .inr (.inr (.inr (.inl b_x_doubles)))))] → va_S A s.heap H locs → ∀ (ls : Array Slot), lv_has ls 5 [(0, .ref (qx 0)), (1, .int p1), (2, .int p2), (3, .int p3)] → W p l e (headSpec wsX9_sheet (rmk 2 45)).room s m [.ref (qx 0), .int p1, .int p2, .int p3].toArray below meth c H locs 0 0 (MQ below (va_Qi (fun (r : Int32) (_ : Unit) => r = rv) (Pst G (tys Y) [(qx 0, oX9 qx x_points x_lines x_tide x_isKept x_isMuch x_sum x_once x_twice x_isTermMuch x_nodes x_newMany x_isTooGreat x_come x_foundSet), (qx 33, .inl (Y 0, 4, .inl x_sorts)), (qx 34, .inl (Y 0, 4, .inl x_sizes)), (qx 35, .inl (Y 1, 240, .inr (.inl x_wholes))), (qx 36, .inl (Y 2, 240, .inr (.inr (.inl x_floats)))), (qx 37, .inl (Y 3, 240, .inr (.inr (.inr (.inl x_doubles)))))] s.heap.size [(qx 0, oX9 qx x_points x_lines x_tide x_isKept x_isMuch x_sum x_once x_twice x_isTermMuch x_nodes x_newMany x_isTooGreat x_come x_foundSet), (qx 33, .inl (Y 0, 4, .inl o_x_sorts)), (qx 34, .inl (Y 0, 4, .inl o_x_sizes)), (qx 35, .inl (Y 1, 240, .inr (.inl o_x_wholes))), (qx 36, .inl (Y 2, 240, .inr (.inr (.inl o_x_floats)))), (qx 37, .inl (Y 3, 240, .inr (.inr (.inr (.inl o_x_doubles)))))]) A) [.ref (qx 0), .int p1, .int p2, .int p3].toArray s 0 0 A) (F0 m 34 ls []) := by
    intro b_x_sorts b_x_sizes b_x_wholes b_x_floats b_x_doubles hf H locs hP hD hS ls hl
    unfold f_X9_sheet_b34 at hf
    refine lv_iload_n hx hb dX9_sheet_34 rfl (lv_at hl 2 rfl) ?_
    refine lv_if_lt (tgt := 45) hx hb dX9_sheet_35 (by decide) (fun c13 => ?_) (fun c13 => ?_)
    · have hf := it hf c13
      exact B45 b_x_sorts b_x_sizes b_x_wholes b_x_floats b_x_doubles hf _ _ hP hD hS ls (lv_sub hl [0, 1, 2, 3] rfl)
    · have hf := ie hf c13
      refine lv_iload_n hx hb dX9_sheet_38 rfl (lv_at hl 3 rfl) ?_
      refine lv_if_ge (tgt := 45) hx hb dX9_sheet_39 (by decide) (fun c14 => ?_) (fun c14 => ?_)
      · have hf := it hf c14
        exact B45 b_x_sorts b_x_sizes b_x_wholes b_x_floats b_x_doubles hf _ _ hP hD hS ls (lv_sub hl [0, 1, 2, 3] rfl)
      · have hf := ie hf c14
        refine lv_bipush (v := -14) hx hb dX9_sheet_42 (by decide) ?_
        obtain ⟨e0, e1, e2, e3, e4, e5⟩ := rt6 hf
        have hP : va_P G vwCl [(qx 0, oX9 qx x_points x_lines x_tide x_isKept x_isMuch x_sum x_once x_twice x_isTermMuch x_nodes x_newMany x_isTooGreat x_come x_foundSet), (qx 33, .inl (Y 0, 4, .inl o_x_sorts)), (qx 34, .inl (Y 0, 4, .inl o_x_sizes)), (qx 35, .inl (Y 1, 240, .inr (.inl o_x_wholes))), (qx 36, .inl (Y 2, 240, .inr (.inr (.inl o_x_floats)))), (qx 37, .inl (Y 3, 240, .inr (.inr (.inr (.inl o_x_doubles)))))] H := by rw [← e1, ← e2, ← e3, ← e4, ← e5]; exact hP
        have hD : va_D A [(qx 0, oX9 qx x_points x_lines x_tide x_isKept x_isMuch x_sum x_once x_twice x_isTermMuch x_nodes x_newMany x_isTooGreat x_come x_foundSet), (qx 33, .inl (Y 0, 4, .inl o_x_sorts)), (qx 34, .inl (Y 0, 4, .inl o_x_sizes)), (qx 35, .inl (Y 1, 240, .inr (.inl o_x_wholes))), (qx 36, .inl (Y 2, 240, .inr (.inr (.inl o_x_floats)))), (qx 37, .inl (Y 3, 240, .inr (.inr (.inr (.inl o_x_doubles)))))] := by rw [← e1, ← e2, ← e3, ← e4, ← e5]; exact hD
        exact W.iret (v := (-14 : Int32)) hx hb hr (fun t ht hW => ⟨⟨(-14 : Int32), (), rfl, e0, by rw [ht]; exact hP, va_K.moved hW.alike hK, by rw [hAe]; exact hD⟩, hS.F ht⟩) hS.2.2 dX9_sheet_44
  have E0 : ∀ (H : Heap) (locs : List Loc), va_P G vwCl [(qx 0, oX9 qx x_points x_lines x_tide x_isKept x_isMuch x_sum x_once x_twice x_isTermMuch x_nodes x_newMany x_isTooGreat x_come x_foundSet), (qx 33, .inl (Y 0, 4, .inl x_sorts)), (qx 34, .inl (Y 0, 4, .inl x_sizes)), (qx 35, .inl (Y 1, 240, .inr (.inl x_wholes))), (qx 36, .inl (Y 2, 240, .inr (.inr (.inl x_floats)))), (qx 37, .inl (Y 3, 240, .inr (.inr (.inr (.inl x_doubles)))))] H → va_D A [(qx 0, oX9 qx x_points x_lines x_tide x_isKept x_isMuch x_sum x_once x_twice x_isTermMuch x_nodes x_newMany x_isTooGreat x_come x_foundSet), (qx 33, .inl (Y 0, 4, .inl x_sorts)), (qx 34, .inl (Y 0, 4, .inl x_sizes)), (qx 35, .inl (Y 1, 240, .inr (.inl x_wholes))), (qx 36, .inl (Y 2, 240, .inr (.inr (.inl x_floats)))), (qx 37, .inl (Y 3, 240, .inr (.inr (.inr (.inl x_doubles)))))] → va_S A s.heap H locs → ∀ (ls : Array Slot), lv_has ls 5 [(0, .ref (qx 0)), (1, .int p1), (2, .int p2), (3, .int p3)] → W p l e (headSpec wsX9_sheet (rmk 2 45)).room s m [.ref (qx 0), .int p1, .int p2, .int p3].toArray below meth c H locs 0 0 (MQ below (va_Qi (fun (r : Int32) (_ : Unit) => r = rv) (Pst G (tys Y) [(qx 0, oX9 qx x_points x_lines x_tide x_isKept x_isMuch x_sum x_once x_twice x_isTermMuch x_nodes x_newMany x_isTooGreat x_come x_foundSet), (qx 33, .inl (Y 0, 4, .inl x_sorts)), (qx 34, .inl (Y 0, 4, .inl x_sizes)), (qx 35, .inl (Y 1, 240, .inr (.inl x_wholes))), (qx 36, .inl (Y 2, 240, .inr (.inr (.inl x_floats)))), (qx 37, .inl (Y 3, 240, .inr (.inr (.inr (.inl x_doubles)))))] s.heap.size [(qx 0, oX9 qx x_points x_lines x_tide x_isKept x_isMuch x_sum x_once x_twice x_isTermMuch x_nodes x_newMany x_isTooGreat x_come x_foundSet), (qx 33, .inl (Y 0, 4, .inl o_x_sorts)), (qx 34, .inl (Y 0, 4, .inl o_x_sizes)), (qx 35, .inl (Y 1, 240, .inr (.inl o_x_wholes))), (qx 36, .inl (Y 2, 240, .inr (.inr (.inl o_x_floats)))), (qx 37, .inl (Y 3, 240, .inr (.inr (.inr (.inl o_x_doubles)))))]) A) [.ref (qx 0), .int p1, .int p2, .int p3].toArray s 0 0 A) (F0 m 0 ls []) := by
    intro H locs hP hD hS ls hl
    unfold f_X9_sheet at hf
    refine lv_iload_n hx hb dX9_sheet_0 rfl (lv_at hl 1 rfl) ?_
    obtain ⟨r15, hc, hf⟩ := bd1 hf
    refine cl_i (ws' := [(qx 0, oX9 qx x_points x_lines x_tide x_isKept x_isMuch x_sum x_once x_twice x_isTermMuch x_nodes x_newMany x_isTooGreat x_come x_foundSet), (qx 33, .inl (Y 0, 4, .inl x_sorts)), (qx 34, .inl (Y 0, 4, .inl x_sizes)), (qx 35, .inl (Y 1, 240, .inr (.inl x_wholes))), (qx 36, .inl (Y 2, 240, .inr (.inr (.inl x_floats)))), (qx 37, .inl (Y 3, 240, .inr (.inr (.inr (.inl x_doubles)))))]) (wr := [(qx 0, oX9 qx x_points x_lines x_tide x_isKept x_isMuch x_sum x_once x_twice x_isTermMuch x_nodes x_newMany x_isTooGreat x_come x_foundSet), (qx 33, .inl (Y 0, 4, .inl x_sorts)), (qx 34, .inl (Y 0, 4, .inl x_sizes)), (qx 35, .inl (Y 1, 240, .inr (.inl x_wholes))), (qx 36, .inl (Y 2, 240, .inr (.inr (.inl x_floats)))), (qx 37, .inl (Y 3, 240, .inr (.inr (.inr (.inl x_doubles)))))]) (rnS (As := [.int p1]) (rest := []) ⟨hx, hb, hml, hown, hts⟩ (c_X9_isSheet l G Y H.size p1 r15 hc) (va_cwS 1 hts gX9_sheet_X9_isSheet rfl rfl rfl (by decide +kernel) ⟨(Nat.le_of_ble_eq_true rfl), (Nat.le_of_ble_eq_true rfl)⟩) trivial okT hK hP hD [] rfl rfl rfl hl.1 rfl (Nat.le_of_ble_eq_true rfl) dX9_sheet_1) hP hD hS hA [] [0, 1, 2, 3, 4, 5] [0, 1, 2, 3, 4, 5] rfl rfl rfl (by decide) rfl rfl (fun H locs hP hD hS => ?_)
    refine lv_if_eq (tgt := 31) hx hb dX9_sheet_4 (by decide) (fun c16 => ?_) (fun c16 => ?_)
    · have hf := it hf c16
      refine lv_bipush (v := -2) hx hb dX9_sheet_31 (by decide) ?_
      obtain ⟨e0, e1, e2, e3, e4, e5⟩ := rt6 hf
      have hP : va_P G vwCl [(qx 0, oX9 qx x_points x_lines x_tide x_isKept x_isMuch x_sum x_once x_twice x_isTermMuch x_nodes x_newMany x_isTooGreat x_come x_foundSet), (qx 33, .inl (Y 0, 4, .inl o_x_sorts)), (qx 34, .inl (Y 0, 4, .inl o_x_sizes)), (qx 35, .inl (Y 1, 240, .inr (.inl o_x_wholes))), (qx 36, .inl (Y 2, 240, .inr (.inr (.inl o_x_floats)))), (qx 37, .inl (Y 3, 240, .inr (.inr (.inr (.inl o_x_doubles)))))] H := by rw [← e1, ← e2, ← e3, ← e4, ← e5]; exact hP
      have hD : va_D A [(qx 0, oX9 qx x_points x_lines x_tide x_isKept x_isMuch x_sum x_once x_twice x_isTermMuch x_nodes x_newMany x_isTooGreat x_come x_foundSet), (qx 33, .inl (Y 0, 4, .inl o_x_sorts)), (qx 34, .inl (Y 0, 4, .inl o_x_sizes)), (qx 35, .inl (Y 1, 240, .inr (.inl o_x_wholes))), (qx 36, .inl (Y 2, 240, .inr (.inr (.inl o_x_floats)))), (qx 37, .inl (Y 3, 240, .inr (.inr (.inr (.inl o_x_doubles)))))] := by rw [← e1, ← e2, ← e3, ← e4, ← e5]; exact hD
      exact W.iret (v := (-2 : Int32)) hx hb hr (fun t ht hW => ⟨⟨(-2 : Int32), (), rfl, e0, by rw [ht]; exact hP, va_K.moved hW.alike hK, by rw [hAe]; exact hD⟩, hS.F ht⟩) hS.2.2 dX9_sheet_33
    · have hf := ie hf c16
      refine lv_iload_n hx hb dX9_sheet_7 rfl (lv_at hl 2 rfl) ?_
      refine lv_i2l hx hb dX9_sheet_8 rfl ?_
      refine lv_ldc2 hx hb hown wd1 dX9_sheet_9 ?_
      refine lv_ldc2 hx hb hown wd2 dX9_sheet_12 ?_
      obtain ⟨r17, hc, hf⟩ := bd1 hf
      refine cl_i (ws' := [(qx 0, oX9 qx x_points x_lines x_tide x_isKept x_isMuch x_sum x_once x_twice x_isTermMuch x_nodes x_newMany x_isTooGreat x_come x_foundSet), (qx 33, .inl (Y 0, 4, .inl x_sorts)), (qx 34, .inl (Y 0, 4, .inl x_sizes)), (qx 35, .inl (Y 1, 240, .inr (.inl x_wholes))), (qx 36, .inl (Y 2, 240, .inr (.inr (.inl x_floats)))), (qx 37, .inl (Y 3, 240, .inr (.inr (.inr (.inl x_doubles)))))]) (wr := [(qx 0, oX9 qx x_points x_lines x_tide x_isKept x_isMuch x_sum x_once x_twice x_isTermMuch x_nodes x_newMany x_isTooGreat x_come x_foundSet), (qx 33, .inl (Y 0, 4, .inl x_sorts)), (qx 34, .inl (Y 0, 4, .inl x_sizes)), (qx 35, .inl (Y 1, 240, .inr (.inl x_wholes))), (qx 36, .inl (Y 2, 240, .inr (.inr (.inl x_floats)))), (qx 37, .inl (Y 3, 240, .inr (.inr (.inr (.inl x_doubles)))))]) (rnS (As := [.long p2.toInt64, .long (-1 : Int64), .long (3 : Int64)]) (rest := []) ⟨hx, hb, hml, hown, hts⟩ (c_X9_in l G Y H.size p2.toInt64 (-1 : Int64) (3 : Int64) r17 hc) (va_cwS 3 hts gX9_sheet_X9_in rfl rfl rfl (by decide +kernel) ⟨(Nat.le_of_ble_eq_true rfl), (Nat.le_of_ble_eq_true rfl)⟩) trivial okT hK hP hD [] rfl rfl rfl hl.1 rfl (Nat.le_of_ble_eq_true rfl) dX9_sheet_15) hP hD hS hA [] [0, 1, 2, 3, 4, 5] [0, 1, 2, 3, 4, 5] rfl rfl rfl (by decide) rfl rfl (fun H locs hP hD hS => ?_)
      refine lv_if_eq (tgt := 31) hx hb dX9_sheet_18 (by decide) (fun c18 => ?_) (fun c18 => ?_)
      · have hf := it hf c18
        refine lv_bipush (v := -2) hx hb dX9_sheet_31 (by decide) ?_
        obtain ⟨e0, e1, e2, e3, e4, e5⟩ := rt6 hf
        have hP : va_P G vwCl [(qx 0, oX9 qx x_points x_lines x_tide x_isKept x_isMuch x_sum x_once x_twice x_isTermMuch x_nodes x_newMany x_isTooGreat x_come x_foundSet), (qx 33, .inl (Y 0, 4, .inl o_x_sorts)), (qx 34, .inl (Y 0, 4, .inl o_x_sizes)), (qx 35, .inl (Y 1, 240, .inr (.inl o_x_wholes))), (qx 36, .inl (Y 2, 240, .inr (.inr (.inl o_x_floats)))), (qx 37, .inl (Y 3, 240, .inr (.inr (.inr (.inl o_x_doubles)))))] H := by rw [← e1, ← e2, ← e3, ← e4, ← e5]; exact hP
        have hD : va_D A [(qx 0, oX9 qx x_points x_lines x_tide x_isKept x_isMuch x_sum x_once x_twice x_isTermMuch x_nodes x_newMany x_isTooGreat x_come x_foundSet), (qx 33, .inl (Y 0, 4, .inl o_x_sorts)), (qx 34, .inl (Y 0, 4, .inl o_x_sizes)), (qx 35, .inl (Y 1, 240, .inr (.inl o_x_wholes))), (qx 36, .inl (Y 2, 240, .inr (.inr (.inl o_x_floats)))), (qx 37, .inl (Y 3, 240, .inr (.inr (.inr (.inl o_x_doubles)))))] := by rw [← e1, ← e2, ← e3, ← e4, ← e5]; exact hD
        exact W.iret (v := (-2 : Int32)) hx hb hr (fun t ht hW => ⟨⟨(-2 : Int32), (), rfl, e0, by rw [ht]; exact hP, va_K.moved hW.alike hK, by rw [hAe]; exact hD⟩, hS.F ht⟩) hS.2.2 dX9_sheet_33
      · have hf := ie hf c18
        refine lv_iload_n hx hb dX9_sheet_21 rfl (lv_at hl 2 rfl) ?_
        refine lv_if_lt (tgt := 34) hx hb dX9_sheet_22 (by decide) (fun c19 => ?_) (fun c19 => ?_)
        · have hf := it hf c19
          exact B34 x_sorts x_sizes x_wholes x_floats x_doubles hf _ _ hP hD hS ls (lv_sub hl [0, 1, 2, 3] rfl)
        · have hf := ie hf c19
          refine lv_iload_n hx hb dX9_sheet_25 rfl (lv_at hl 3 rfl) ?_
          refine lv_bipush (v := 60) hx hb dX9_sheet_26 (by decide) ?_
          refine lv_icmp_le (tgt := 34) hx hb dX9_sheet_28 (by decide) (fun c20 => ?_) (fun c20 => ?_)
          · have hf := it hf c20
            exact B34 x_sorts x_sizes x_wholes x_floats x_doubles hf _ _ hP hD hS ls (lv_sub hl [0, 1, 2, 3] rfl)
          · have hf := ie hf c20
            refine lv_bipush (v := -2) hx hb dX9_sheet_31 (by decide) ?_
            obtain ⟨e0, e1, e2, e3, e4, e5⟩ := rt6 hf
            have hP : va_P G vwCl [(qx 0, oX9 qx x_points x_lines x_tide x_isKept x_isMuch x_sum x_once x_twice x_isTermMuch x_nodes x_newMany x_isTooGreat x_come x_foundSet), (qx 33, .inl (Y 0, 4, .inl o_x_sorts)), (qx 34, .inl (Y 0, 4, .inl o_x_sizes)), (qx 35, .inl (Y 1, 240, .inr (.inl o_x_wholes))), (qx 36, .inl (Y 2, 240, .inr (.inr (.inl o_x_floats)))), (qx 37, .inl (Y 3, 240, .inr (.inr (.inr (.inl o_x_doubles)))))] H := by rw [← e1, ← e2, ← e3, ← e4, ← e5]; exact hP
            have hD : va_D A [(qx 0, oX9 qx x_points x_lines x_tide x_isKept x_isMuch x_sum x_once x_twice x_isTermMuch x_nodes x_newMany x_isTooGreat x_come x_foundSet), (qx 33, .inl (Y 0, 4, .inl o_x_sorts)), (qx 34, .inl (Y 0, 4, .inl o_x_sizes)), (qx 35, .inl (Y 1, 240, .inr (.inl o_x_wholes))), (qx 36, .inl (Y 2, 240, .inr (.inr (.inl o_x_floats)))), (qx 37, .inl (Y 3, 240, .inr (.inr (.inr (.inl o_x_doubles)))))] := by rw [← e1, ← e2, ← e3, ← e4, ← e5]; exact hD
            exact W.iret (v := (-2 : Int32)) hx hb hr (fun t ht hW => ⟨⟨(-2 : Int32), (), rfl, e0, by rw [ht]; exact hP, va_K.moved hW.alike hK, by rw [hAe]; exact hD⟩, hS.F ht⟩) hS.2.2 dX9_sheet_33
  exact E0 s.heap [] hP hD hS ls hl
-- X9_wrong
set_option maxRecDepth 100000 in
set_option maxHeartbeats 4000000 in
theorem c_X9_wrong (l : Launch) (G : va_G) (Y : Nat → ClassId) (sz : Nat) (qx : Nat → Nat) (x_points : Int32) (x_lines : Int32) (x_tide : Int32) (x_isKept : Int32) (x_isMuch : Int32) (x_sum : Int64) (x_once : Int64) (x_twice : Int64) (x_isTermMuch : Int32) (x_nodes : Int32) (x_newMany : Int32) (x_isTooGreat : Int32) (x_come : Int32) (x_foundSet : Int64) (x_sorts : Nat → Int32) (x_sizes : Nat → Int32) (p1 : Int32) (p2 : Int32) (rv : Int32) (hf : f_X9_wrong x_sorts x_sizes p1 p2 = some (rv)) : Met l yX9_wrong wsX9_wrong (rmk 2 45) (va_Pc [.ref (qx 0), .int p1, .int p2] (Pre G (tys Y) [(qx 0, oX9 qx x_points x_lines x_tide x_isKept x_isMuch x_sum x_once x_twice x_isTermMuch x_nodes x_newMany x_isTooGreat x_come x_foundSet), (qx 33, .inl (Y 0, 4, .inl x_sorts)), (qx 34, .inl (Y 0, 4, .inl x_sizes))] sz xT)) (va_Qi (fun (r : Int32) (_ : Unit) => r = rv) (Pst G (tys Y) [(qx 0, oX9 qx x_points x_lines x_tide x_isKept x_isMuch x_sum x_once x_twice x_isTermMuch x_nodes x_newMany x_isTooGreat x_come x_foundSet), (qx 33, .inl (Y 0, 4, .inl x_sorts)), (qx 34, .inl (Y 0, 4, .inl x_sizes))] sz [(qx 0, oX9 qx x_points x_lines x_tide x_isKept x_isMuch x_sum x_once x_twice x_isTermMuch x_nodes x_newMany x_isTooGreat x_come x_foundSet), (qx 33, .inl (Y 0, 4, .inl x_sorts)), (qx 34, .inl (Y 0, 4, .inl x_sizes))]) (va_A [(qx 0, oX9 qx x_points x_lines x_tide x_isKept x_isMuch x_sum x_once x_twice x_isTermMuch x_nodes x_newMany x_isTooGreat x_come x_foundSet), (qx 33, .inl (Y 0, 4, .inl x_sorts)), (qx 34, .inl (Y 0, 4, .inl x_sizes))] sz)) 0 0 (va_A [(qx 0, oX9 qx x_points x_lines x_tide x_isKept x_isMuch x_sum x_once x_twice x_isTermMuch x_nodes x_newMany x_isTooGreat x_come x_foundSet), (qx 33, .inl (Y 0, 4, .inl x_sorts)), (qx 34, .inl (Y 0, 4, .inl x_sizes))] sz) := by
  refine Met.ofW (cc := cX9_wrong) (maxL := 3) (ret := (some .int)) (by decide) rfl ?_
  intro p e s m args below meth c s₁ B hml hv
  obtain ⟨rfl, hsz, hP, hK, hD0, hX⟩ := hv
  have hx := B.exec
  have hb := B.bytes
  have hr := B.returns
  have hts := atoms_spec (ws := wsX9_wrong) B.pre
  have hown : s.vm.findClass RX9 = some m.cls := findClass_of_methodNamed B.named
  have hlocks := B.notSynchronized
  subst hsz
  have hD := hD0.self (sz := s.heap.size)
  generalize hAe : va_A [(qx 0, oX9 qx x_points x_lines x_tide x_isKept x_isMuch x_sum x_once x_twice x_isTermMuch x_nodes x_newMany x_isTooGreat x_come x_foundSet), (qx 33, .inl (Y 0, 4, .inl x_sorts)), (qx 34, .inl (Y 0, 4, .inl x_sizes))] s.heap.size = A at hD ⊢
  have hA : ∀ q : Nat, s.heap.size ≤ q → A q := fun q h => by rw [← hAe]; exact Or.inr h
  have hS : va_S A s.heap s.heap [] := va_S.rf
  have hP : va_P G vwCl [(qx 0, oX9 qx x_points x_lines x_tide x_isKept x_isMuch x_sum x_once x_twice x_isTermMuch x_nodes x_newMany x_isTooGreat x_come x_foundSet), (qx 33, .inl (Y 0, 4, .inl x_sorts)), (qx 34, .inl (Y 0, 4, .inl x_sizes))] s.heap := hP
  have wd1 : (Cond.fieldLink RX9 65 "PairedLinesModel" "sorts" "[I").before [.ref (qx 0), .int p1, .int p2].toArray s = true := hts _ (List.mem_of_getElem? (i := 1) rfl)
  have wd2 : (Cond.fieldLink RX9 68 "PairedLinesModel" "sizes" "[I").before [.ref (qx 0), .int p1, .int p2].toArray s = true := hts _ (List.mem_of_getElem? (i := 2) rfl)
  have inX9w : ∀ w ∈ u_ws RX9 TX9 37, w ∈ wsX9_wrong := fun w hw => List.mem_cons_of_mem _ (List.mem_append_right _ (hw))
  have hl := lv_entry ([.ref (qx 0), .int p1, .int p2]) (n := 3) (Nat.le_of_ble_eq_true rfl)
  rw [lg_entry_eq]
  generalize (lg_sl ([.ref (qx 0), .int p1, .int p2]) ++ List.replicate (3 - (lg_sl ([.ref (qx 0), .int p1, .int p2])).length) Slot.unset).toArray = ls at hl ⊢
  have hl : lv_has ls 3 [(0, .ref (qx 0)), (1, .int p1), (2, .int p2)] := hl
  have E0 : ∀ (H : Heap) (locs : List Loc), va_P G vwCl [(qx 0, oX9 qx x_points x_lines x_tide x_isKept x_isMuch x_sum x_once x_twice x_isTermMuch x_nodes x_newMany x_isTooGreat x_come x_foundSet), (qx 33, .inl (Y 0, 4, .inl x_sorts)), (qx 34, .inl (Y 0, 4, .inl x_sizes))] H → va_D A [(qx 0, oX9 qx x_points x_lines x_tide x_isKept x_isMuch x_sum x_once x_twice x_isTermMuch x_nodes x_newMany x_isTooGreat x_come x_foundSet), (qx 33, .inl (Y 0, 4, .inl x_sorts)), (qx 34, .inl (Y 0, 4, .inl x_sizes))] → va_S A s.heap H locs → ∀ (ls : Array Slot), lv_has ls 3 [(0, .ref (qx 0)), (1, .int p1), (2, .int p2)] → W p l e (headSpec wsX9_wrong (rmk 2 45)).room s m [.ref (qx 0), .int p1, .int p2].toArray below meth c H locs 0 0 (MQ below (va_Qi (fun (r : Int32) (_ : Unit) => r = rv) (Pst G (tys Y) [(qx 0, oX9 qx x_points x_lines x_tide x_isKept x_isMuch x_sum x_once x_twice x_isTermMuch x_nodes x_newMany x_isTooGreat x_come x_foundSet), (qx 33, .inl (Y 0, 4, .inl x_sorts)), (qx 34, .inl (Y 0, 4, .inl x_sizes))] s.heap.size [(qx 0, oX9 qx x_points x_lines x_tide x_isKept x_isMuch x_sum x_once x_twice x_isTermMuch x_nodes x_newMany x_isTooGreat x_come x_foundSet), (qx 33, .inl (Y 0, 4, .inl x_sorts)), (qx 34, .inl (Y 0, 4, .inl x_sizes))]) A) [.ref (qx 0), .int p1, .int p2].toArray s 0 0 A) (F0 m 0 ls []) := by
    intro H locs hP hD hS ls hl
    unfold f_X9_wrong at hf
    refine lv_iload_n hx hb dX9_wrong_0 rfl (lv_at hl 1 rfl) ?_
    obtain ⟨r1, hc, hf⟩ := bd1 hf
    refine cl_i (ws' := [(qx 0, oX9 qx x_points x_lines x_tide x_isKept x_isMuch x_sum x_once x_twice x_isTermMuch x_nodes x_newMany x_isTooGreat x_come x_foundSet), (qx 33, .inl (Y 0, 4, .inl x_sorts)), (qx 34, .inl (Y 0, 4, .inl x_sizes))]) (wr := [(qx 0, oX9 qx x_points x_lines x_tide x_isKept x_isMuch x_sum x_once x_twice x_isTermMuch x_nodes x_newMany x_isTooGreat x_come x_foundSet), (qx 33, .inl (Y 0, 4, .inl x_sorts)), (qx 34, .inl (Y 0, 4, .inl x_sizes))]) (rnS (As := [.int p1]) (rest := []) ⟨hx, hb, hml, hown, hts⟩ (c_X9_isSheet l G Y H.size p1 r1 hc) (va_cwS 1 hts gX9_wrong_X9_isSheet rfl rfl rfl (by decide +kernel) ⟨(Nat.le_of_ble_eq_true rfl), (Nat.le_of_ble_eq_true rfl)⟩) trivial okT hK hP hD [] rfl rfl rfl hl.1 rfl (Nat.le_of_ble_eq_true rfl) dX9_wrong_1) hP hD hS hA [] [0, 1, 2] [0, 1, 2] rfl rfl rfl (by decide) rfl rfl (fun H locs hP hD hS => ?_)
    refine lv_if_ne (tgt := 12) hx hb dX9_wrong_4 (by decide) (fun c2 => ?_) (fun c2 => ?_)
    · have hf := ie hf c2
      refine lv_aload_n hx hb dX9_wrong_12 rfl (lv_at hl 0 rfl) ?_
      refine va_get (D := G) (ci := 7) (v := .ref (qx 33)) (C := RX9) (T := TX9) (N := 37) hx hb hts inX9w hown hK hP 0 rfl rfl 32 (by decide) wd1 (fun _ h9 => h9) rfl dX9_wrong_13 ?_
      refine lv_iload_n hx hb dX9_wrong_16 rfl (lv_at hl 1 rfl) ?_
      obtain ⟨g3, hf⟩ := gd hf
      refine va_iald hx hb hK hP 1 0 rfl rfl g3 dX9_wrong_17 ?_
      refine lv_if_ge (tgt := 26) hx hb dX9_wrong_18 (by decide) (fun c4 => ?_) (fun c4 => ?_)
      · have hf := it hf c4
        refine lv_iload_n hx hb dX9_wrong_26 rfl (lv_at hl 2 rfl) ?_
        refine lv_i2l hx hb dX9_wrong_27 rfl ?_
        refine lv_lconst (v := 0) hx hb dX9_wrong_28 (by decide) ?_
        refine lv_aload_n hx hb dX9_wrong_29 rfl (lv_at hl 0 rfl) ?_
        refine va_get (D := G) (ci := 7) (v := .ref (qx 34)) (C := RX9) (T := TX9) (N := 37) hx hb hts inX9w hown hK hP 0 rfl rfl 33 (by decide) wd2 (fun _ h9 => h9) rfl dX9_wrong_30 ?_
        refine lv_iload_n hx hb dX9_wrong_33 rfl (lv_at hl 1 rfl) ?_
        obtain ⟨g5, hf⟩ := gd hf
        refine va_iald hx hb hK hP 2 0 rfl rfl g5 dX9_wrong_34 ?_
        refine lv_iconst (v := 1) hx hb dX9_wrong_35 (by decide) ?_
        refine lv_isub hx hb dX9_wrong_36 ?_
        refine lv_i2l hx hb dX9_wrong_37 rfl ?_
        obtain ⟨r6, hc, hf⟩ := bd1 hf
        refine cl_i (ws' := [(qx 0, oX9 qx x_points x_lines x_tide x_isKept x_isMuch x_sum x_once x_twice x_isTermMuch x_nodes x_newMany x_isTooGreat x_come x_foundSet), (qx 33, .inl (Y 0, 4, .inl x_sorts)), (qx 34, .inl (Y 0, 4, .inl x_sizes))]) (wr := [(qx 0, oX9 qx x_points x_lines x_tide x_isKept x_isMuch x_sum x_once x_twice x_isTermMuch x_nodes x_newMany x_isTooGreat x_come x_foundSet), (qx 33, .inl (Y 0, 4, .inl x_sorts)), (qx 34, .inl (Y 0, 4, .inl x_sizes))]) (rnS (As := [.long p2.toInt64, .long (0 : Int64), .long (((x_sizes p1.toNatClampNeg) - (1 : Int32)).toInt64)]) (rest := []) ⟨hx, hb, hml, hown, hts⟩ (c_X9_in l G Y H.size p2.toInt64 (0 : Int64) (((x_sizes p1.toNatClampNeg) - (1 : Int32)).toInt64) r6 hc) (va_cwS 3 hts gX9_wrong_X9_in rfl rfl rfl (by decide +kernel) ⟨(Nat.le_of_ble_eq_true rfl), (Nat.le_of_ble_eq_true rfl)⟩) trivial okT hK hP hD [] rfl rfl rfl hl.1 rfl (Nat.le_of_ble_eq_true rfl) dX9_wrong_38) hP hD hS hA [] [0, 1, 2] [0, 1, 2] rfl rfl rfl (by decide) rfl rfl (fun H locs hP hD hS => ?_)
        refine lv_if_eq (tgt := 48) hx hb dX9_wrong_41 (by decide) (fun c7 => ?_) (fun c7 => ?_)
        · have hf := it hf c7
          refine lv_bipush (v := -12) hx hb dX9_wrong_48 (by decide) ?_
          have e0 := rt1 hf
          exact W.iret (v := (-12 : Int32)) hx hb hr (fun t ht hW => ⟨⟨(-12 : Int32), (), rfl, e0, by rw [ht]; exact hP, va_K.moved hW.alike hK, by rw [hAe]; exact hD⟩, hS.F ht⟩) hS.2.2 dX9_wrong_50
        · have hf := ie hf c7
          refine lv_iconst (v := 0) hx hb dX9_wrong_44 (by decide) ?_
          refine lv_goto (tgt := 50) hx hb dX9_wrong_45 (by decide) ?_
          have e0 := rt1 hf
          exact W.iret (v := (0 : Int32)) hx hb hr (fun t ht hW => ⟨⟨(0 : Int32), (), rfl, e0, by rw [ht]; exact hP, va_K.moved hW.alike hK, by rw [hAe]; exact hD⟩, hS.F ht⟩) hS.2.2 dX9_wrong_50
      · have hf := ie hf c4
        refine lv_bipush (v := -11) hx hb dX9_wrong_21 (by decide) ?_
        refine lv_goto (tgt := 50) hx hb dX9_wrong_23 (by decide) ?_
        have e0 := rt1 hf
        exact W.iret (v := (-11 : Int32)) hx hb hr (fun t ht hW => ⟨⟨(-11 : Int32), (), rfl, e0, by rw [ht]; exact hP, va_K.moved hW.alike hK, by rw [hAe]; exact hD⟩, hS.F ht⟩) hS.2.2 dX9_wrong_50
    · have hf := it hf c2
      refine lv_bipush (v := -2) hx hb dX9_wrong_7 (by decide) ?_
      refine lv_goto (tgt := 50) hx hb dX9_wrong_9 (by decide) ?_
      have e0 := rt1 hf
      exact W.iret (v := (-2 : Int32)) hx hb hr (fun t ht hW => ⟨⟨(-2 : Int32), (), rfl, e0, by rw [ht]; exact hP, va_K.moved hW.alike hK, by rw [hAe]; exact hD⟩, hS.F ht⟩) hS.2.2 dX9_wrong_50
  exact E0 s.heap [] hP hD hS ls hl
