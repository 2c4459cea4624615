-- X1_freeBelow
set_option maxRecDepth 100000 in
set_option maxHeartbeats 4000000 in
theorem c_X1_freeBelow (l : Launch) (G : va_G) (Y : Nat → ClassId) (sz : Nat) (qn : Nat → Nat) (n_lows : Nat → Int32) (n_highs : Nat → Int32) (n_linesAt : Nat → Int64) (n_pointCount : Int32) (n_lineCount : Int32) (n_tideNow : Int32) (n_age : Int32) (p1 : Int64) (p2 : Int64) (rv : Int64) (hf : f_X1_freeBelow n_lows n_highs n_linesAt n_lineCount p1 p2 = some (rv)) : Met l yX1_freeBelow wsX1_freeBelow (rmk 1 21) (va_Pc [.ref (qn 0), .long p1, .long p2] (Pre G (tys Y) [(qn 0, oX1 qn n_pointCount n_lineCount n_tideNow n_age), (qn 3, .inl (Y 0, 40, .inl n_lows)), (qn 4, .inl (Y 0, 40, .inl n_highs)), (qn 7, .inl (Y 1, 12, .inr (.inl n_linesAt)))] sz xT)) (va_Ql (fun (r : Int64) (_ : Unit) => r = rv) (Pst G (tys Y) [(qn 0, oX1 qn n_pointCount n_lineCount n_tideNow n_age), (qn 3, .inl (Y 0, 40, .inl n_lows)), (qn 4, .inl (Y 0, 40, .inl n_highs)), (qn 7, .inl (Y 1, 12, .inr (.inl n_linesAt)))] sz [(qn 0, oX1 qn n_pointCount n_lineCount n_tideNow n_age), (qn 3, .inl (Y 0, 40, .inl n_lows)), (qn 4, .inl (Y 0, 40, .inl n_highs)), (qn 7, .inl (Y 1, 12, .inr (.inl n_linesAt)))]) (va_A [(qn 0, oX1 qn n_pointCount n_lineCount n_tideNow n_age), (qn 3, .inl (Y 0, 40, .inl n_lows)), (qn 4, .inl (Y 0, 40, .inl n_highs)), (qn 7, .inl (Y 1, 12, .inr (.inl n_linesAt)))] sz)) 0 0 (va_A [(qn 0, oX1 qn n_pointCount n_lineCount n_tideNow n_age), (qn 3, .inl (Y 0, 40, .inl n_lows)), (qn 4, .inl (Y 0, 40, .inl n_highs)), (qn 7, .inl (Y 1, 12, .inr (.inl n_linesAt)))] sz) := by
  refine Met.ofW (cc := cX1_freeBelow) (maxL := 6) (ret := (some .long)) (by decide) rfl ?_
  intro p e s m args below meth c s₁ B hml hv
  obtain ⟨rfl, hsz, hP, hK, hD0, hX⟩ := hv
  have hx := B.exec
  have hb := B.bytes
  have hr := B.returns
  have hts := atoms_spec (ws := wsX1_freeBelow) B.pre
  have hown : s.vm.findClass RX1 = some m.cls := findClass_of_methodNamed B.named
  have hlocks := B.notSynchronized
  subst hsz
  have hD := hD0.self (sz := s.heap.size)
  generalize hAe : va_A [(qn 0, oX1 qn n_pointCount n_lineCount n_tideNow n_age), (qn 3, .inl (Y 0, 40, .inl n_lows)), (qn 4, .inl (Y 0, 40, .inl n_highs)), (qn 7, .inl (Y 1, 12, .inr (.inl n_linesAt)))] s.heap.size = A at hD ⊢
  have hA : ∀ q : Nat, s.heap.size ≤ q → A q := fun q h => by rw [← hAe]; exact Or.inr h
  have hS : va_S A s.heap s.heap [] := va_S.rf
  have hP : va_P G vwCl [(qn 0, oX1 qn n_pointCount n_lineCount n_tideNow n_age), (qn 3, .inl (Y 0, 40, .inl n_lows)), (qn 4, .inl (Y 0, 40, .inl n_highs)), (qn 7, .inl (Y 1, 12, .inr (.inl n_linesAt)))] s.heap := hP
  have wd1 : (Cond.constantLong RX1 93 (-1)).before [.ref (qn 0), .long p1, .long p2].toArray s = true := hts _ (List.mem_of_getElem? (i := 1) rfl)
  have hl := lv_entry ([.ref (qn 0), .long p1, .long p2]) (n := 6) (Nat.le_of_ble_eq_true rfl)
  rw [lg_entry_eq]
  generalize (lg_sl ([.ref (qn 0), .long p1, .long p2]) ++ List.replicate (6 - (lg_sl ([.ref (qn 0), .long p1, .long p2])).length) Slot.unset).toArray = ls at hl ⊢
  have hl : lv_has ls 6 [(0, .ref (qn 0)), (1, .long p1), (3, .long p2)] := hl
  have E0 : ∀ (H : Heap) (locs : List Loc), va_P G vwCl [(qn 0, oX1 qn n_pointCount n_lineCount n_tideNow n_age), (qn 3, .inl (Y 0, 40, .inl n_lows)), (qn 4, .inl (Y 0, 40, .inl n_highs)), (qn 7, .inl (Y 1, 12, .inr (.inl n_linesAt)))] H → va_D A [(qn 0, oX1 qn n_pointCount n_lineCount n_tideNow n_age), (qn 3, .inl (Y 0, 40, .inl n_lows)), (qn 4, .inl (Y 0, 40, .inl n_highs)), (qn 7, .inl (Y 1, 12, .inr (.inl n_linesAt)))] → va_S A s.heap H locs → ∀ (ls : Array Slot), lv_has ls 6 [(0, .ref (qn 0)), (1, .long p1), (3, .long p2)] → W p l e (headSpec wsX1_freeBelow (rmk 1 21)).room s m [.ref (qn 0), .long p1, .long p2].toArray below meth c H locs 0 0 (MQ below (va_Ql (fun (r : Int64) (_ : Unit) => r = rv) (Pst G (tys Y) [(qn 0, oX1 qn n_pointCount n_lineCount n_tideNow n_age), (qn 3, .inl (Y 0, 40, .inl n_lows)), (qn 4, .inl (Y 0, 40, .inl n_highs)), (qn 7, .inl (Y 1, 12, .inr (.inl n_linesAt)))] s.heap.size [(qn 0, oX1 qn n_pointCount n_lineCount n_tideNow n_age), (qn 3, .inl (Y 0, 40, .inl n_lows)), (qn 4, .inl (Y 0, 40, .inl n_highs)), (qn 7, .inl (Y 1, 12, .inr (.inl n_linesAt)))]) A) [.ref (qn 0), .long p1, .long p2].toArray s 0 0 A) (F0 m 0 ls []) := by
    intro H locs hP hD hS ls hl
    unfold f_X1_freeBelow at hf
    refine lv_lload_n hx hb dX1_freeBelow_0 rfl (lv_at hl 2 rfl) ?_
    refine lv_lconst (v := 1) hx hb dX1_freeBelow_1 (by decide) ?_
    refine lv_lsub hx hb dX1_freeBelow_2 ?_
    obtain ⟨r1, hc, hf⟩ := bd1 hf
    refine cl_i (ws' := [(qn 0, oX1 qn n_pointCount n_lineCount n_tideNow n_age), (qn 3, .inl (Y 0, 40, .inl n_lows)), (qn 4, .inl (Y 0, 40, .inl n_highs)), (qn 7, .inl (Y 1, 12, .inr (.inl n_linesAt)))]) (wr := [(qn 0, oX1 qn n_pointCount n_lineCount n_tideNow n_age), (qn 3, .inl (Y 0, 40, .inl n_lows)), (qn 4, .inl (Y 0, 40, .inl n_highs)), (qn 7, .inl (Y 1, 12, .inr (.inl n_linesAt)))]) (rnS (As := [.long (p2 - (1 : Int64))]) (rest := []) ⟨hx, hb, hml, hown, hts⟩ (c_J13_bitCount_95d88 l G Y H.size (p2 - (1 : Int64)) r1 hc) (va_cwS 1 hts gX1_freeBelow_J13_bitCount_95d88 rfl rfl rfl (by decide +kernel) ⟨(Nat.le_of_ble_eq_true rfl), (Nat.le_of_ble_eq_true rfl)⟩) trivial okT hK hP hD [] rfl rfl rfl hl.1 rfl (Nat.le_of_ble_eq_true rfl) dX1_freeBelow_3) hP hD hS hA [] [0, 1, 2, 3] [0, 1, 2, 3] rfl rfl rfl (by decide) rfl rfl (fun H locs hP hD hS => ?_)
    refine lv_istore (lv' := [(5, .int r1), (0, .ref (qn 0)), (1, .long p1), (3, .long p2)]) hx hb dX1_freeBelow_6 hl (by decide) rfl (fun ls hl => ?_)
    refine lv_aload_n hx hb dX1_freeBelow_8 rfl (lv_at hl 1 rfl) ?_
    refine lv_iload hx hb dX1_freeBelow_9 (lv_at hl 0 rfl) ?_
    obtain ⟨r2, hc, hf⟩ := bd1 hf
    refine cl_i (ws' := [(qn 0, oX1 qn n_pointCount n_lineCount n_tideNow n_age), (qn 3, .inl (Y 0, 40, .inl n_lows)), (qn 4, .inl (Y 0, 40, .inl n_highs)), (qn 7, .inl (Y 1, 12, .inr (.inl n_linesAt)))]) (wr := [(qn 3, .inl (Y 0, 40, .inl n_lows)), (qn 4, .inl (Y 0, 40, .inl n_highs)), (qn 7, .inl (Y 1, 12, .inr (.inl n_linesAt)))]) (rnV (As := [.int r1]) (rest := []) ⟨hx, hb, hml, hown, hts⟩ (c_X1_hasLine l G Y H.size qn n_pointCount n_lineCount n_tideNow n_age r1 r2 hc) (cwV 1 hts gX1_freeBelow_X1_hasLine rfl rfl rfl (by decide +kernel) ⟨(Nat.le_of_ble_eq_true rfl), (Nat.le_of_ble_eq_true rfl)⟩) trivial okT hK hP hD [0] rfl rfl (ci := 0) (q0 := 0) rfl rfl rfl rfl hl.1 rfl (Nat.le_of_ble_eq_true rfl) dX1_freeBelow_11) hP hD hS hA [0] [1, 2, 3] [3, 0, 1, 2] rfl rfl rfl (by decide) rfl rfl (fun H locs hP hD hS => ?_)
    refine lv_if_eq (tgt := 36) hx hb dX1_freeBelow_14 (by decide) (fun c3 => ?_) (fun c3 => ?_)
    · have hf := it hf c3
      refine lv_lconst (v := 0) hx hb dX1_freeBelow_36 (by decide) ?_
      have e0 := rt1 hf
      exact W.lret (v := (0 : Int64)) hx hb hr (fun t ht hW => ⟨⟨(0 : Int64), (), rfl, e0, by rw [ht]; exact hP, va_K.moved hW.alike hK, by rw [hAe]; exact hD⟩, hS.F ht⟩) hS.2.2 dX1_freeBelow_37
    · have hf := ie hf c3
      refine lv_lload_n hx hb dX1_freeBelow_17 rfl (lv_at hl 2 rfl) ?_
      refine lv_lload_n hx hb dX1_freeBelow_18 rfl (lv_at hl 3 rfl) ?_
      refine lv_lconst (v := 1) hx hb dX1_freeBelow_19 (by decide) ?_
      refine lv_lsub hx hb dX1_freeBelow_20 ?_
      refine lv_land hx hb dX1_freeBelow_21 ?_
      refine lv_aload_n hx hb dX1_freeBelow_22 rfl (lv_at hl 1 rfl) ?_
      refine lv_iload hx hb dX1_freeBelow_23 (lv_at hl 0 rfl) ?_
      obtain ⟨r4, hc, hf⟩ := bd1 hf
      refine cl_l (ws' := [(qn 0, oX1 qn n_pointCount n_lineCount n_tideNow n_age), (qn 3, .inl (Y 0, 40, .inl n_lows)), (qn 4, .inl (Y 0, 40, .inl n_highs)), (qn 7, .inl (Y 1, 12, .inr (.inl n_linesAt)))]) (wr := []) (rnV (As := [.int r1]) (rest := [.long (p1 &&& (p2 - (1 : Int64)))]) ⟨hx, hb, hml, hown, hts⟩ (c_X1_meeting l G Y H.size qn n_lows n_highs n_linesAt n_pointCount n_lineCount n_tideNow n_age r1 r4 hc) (cwV 1 hts gX1_freeBelow_X1_meeting rfl rfl rfl (by decide +kernel) ⟨(Nat.le_of_ble_eq_true rfl), (Nat.le_of_ble_eq_true rfl)⟩) trivial okT hK hP hD [0, 1, 2, 3] rfl rfl (ci := 0) (q0 := 0) rfl rfl rfl rfl hl.1 rfl (Nat.le_of_ble_eq_true rfl) dX1_freeBelow_25) hP hD hS hA [0, 1, 2, 3] [] [0, 1, 2, 3] rfl rfl rfl (by decide) rfl rfl (fun H locs hP hD hS => ?_)
      refine lv_ldc2 hx hb hown wd1 dX1_freeBelow_28 ?_
      refine lv_lxor hx hb dX1_freeBelow_31 ?_
      refine lv_land hx hb dX1_freeBelow_32 ?_
      refine lv_goto (tgt := 37) hx hb dX1_freeBelow_33 (by decide) ?_
      have e0 := rt1 hf
      exact W.lret (v := ((p1 &&& (p2 - (1 : Int64))) &&& (r4 ^^^ (-1 : Int64)))) hx hb hr (fun t ht hW => ⟨⟨((p1 &&& (p2 - (1 : Int64))) &&& (r4 ^^^ (-1 : Int64))), (), rfl, e0, by rw [ht]; exact hP, va_K.moved hW.alike hK, by rw [hAe]; exact hD⟩, hS.F ht⟩) hS.2.2 dX1_freeBelow_37
  exact E0 s.heap [] hP hD hS ls hl
-- X1_pairingsIn
set_option maxRecDepth 100000 in
set_option maxHeartbeats 4000000 in
theorem c_X1_pairingsIn (l : Launch) (G : va_G) (Y : Nat → ClassId) : ∀ (d : Nat) (sz : Nat) (qn : Nat → Nat) (n_lows : Nat → Int32) (n_highs : Nat → Int32) (n_linesAt : Nat → Int64) (n_pointCount : Int32) (n_lineCount : Int32) (n_tideNow : Int32) (n_age : Int32) (p1 : Int64) (p2 : Int32) (rv : Int64) (hf : f_X1_pairingsIn d n_lows n_highs n_linesAt n_lineCount p1 p2 = some (rv)), Met l yX1_pairingsIn wsX1_pairingsIn (rmk (2 + d) (46 + 31 * d)) (va_Pc [.ref (qn 0), .long p1, .int p2] (Pre G (tys Y) [(qn 0, oX1 qn n_pointCount n_lineCount n_tideNow n_age), (qn 3, .inl (Y 0, 40, .inl n_lows)), (qn 4, .inl (Y 0, 40, .inl n_highs)), (qn 7, .inl (Y 1, 12, .inr (.inl n_linesAt)))] sz xT)) (va_Ql (fun (r : Int64) (_ : Unit) => r = rv) (Pst G (tys Y) [(qn 0, oX1 qn n_pointCount n_lineCount n_tideNow n_age), (qn 3, .inl (Y 0, 40, .inl n_lows)), (qn 4, .inl (Y 0, 40, .inl n_highs)), (qn 7, .inl (Y 1, 12, .inr (.inl n_linesAt)))] sz [(qn 0, oX1 qn n_pointCount n_lineCount n_tideNow n_age), (qn 3, .inl (Y 0, 40, .inl n_lows)), (qn 4, .inl (Y 0, 40, .inl n_highs)), (qn 7, .inl (Y 1, 12, .inr (.inl n_linesAt)))]) (va_A [(qn 0, oX1 qn n_pointCount n_lineCount n_tideNow n_age), (qn 3, .inl (Y 0, 40, .inl n_lows)), (qn 4, .inl (Y 0, 40, .inl n_highs)), (qn 7, .inl (Y 1, 12, .inr (.inl n_linesAt)))] sz)) 0 0 (va_A [(qn 0, oX1 qn n_pointCount n_lineCount n_tideNow n_age), (qn 3, .inl (Y 0, 40, .inl n_lows)), (qn 4, .inl (Y 0, 40, .inl n_highs)), (qn 7, .inl (Y 1, 12, .inr (.inl n_linesAt)))] sz) := by
  intro d
  induction d with
  | zero =>
    intro sz qn n_lows n_highs n_linesAt n_pointCount n_lineCount n_tideNow n_age p1 p2 rv hf
    exact no_none hf
  | succ d ihd =>
  intro sz qn n_lows n_highs n_linesAt n_pointCount n_lineCount n_tideNow n_age p1 p2 rv hf
  have hf : f_X1_pairingsIn_st (f_X1_pairingsIn d) n_lows n_highs n_linesAt n_lineCount p1 p2 = some (rv) := hf
  refine Met.ofW (cc := cX1_pairingsIn) (maxL := 12) (ret := (some .long)) (by decide) rfl ?_
  intro p e s m args below meth c s₁ B hml hv
  obtain ⟨rfl, hsz, hP, hK, hD0, hX⟩ := hv
  have hx := B.exec
  have hb := B.bytes
  have hr := B.returns
  have hts := atoms_spec (ws := wsX1_pairingsIn) B.pre
  have hown : s.vm.findClass RX1 = some m.cls := findClass_of_methodNamed B.named
  have hlocks := B.notSynchronized
  subst hsz
  have hD := hD0.self (sz := s.heap.size)
  generalize hAe : va_A [(qn 0, oX1 qn n_pointCount n_lineCount n_tideNow n_age), (qn 3, .inl (Y 0, 40, .inl n_lows)), (qn 4, .inl (Y 0, 40, .inl n_highs)), (qn 7, .inl (Y 1, 12, .inr (.inl n_linesAt)))] s.heap.size = A at hD ⊢
  have hA : ∀ q : Nat, s.heap.size ≤ q → A q := fun q h => by rw [← hAe]; exact Or.inr h
  have hS : va_S A s.heap s.heap [] := va_S.rf
  have hP : va_P G vwCl [(qn 0, oX1 qn n_pointCount n_lineCount n_tideNow n_age), (qn 3, .inl (Y 0, 40, .inl n_lows)), (qn 4, .inl (Y 0, 40, .inl n_highs)), (qn 7, .inl (Y 1, 12, .inr (.inl n_linesAt)))] s.heap := hP
  have hl := lv_entry ([.ref (qn 0), .long p1, .int p2]) (n := 12) (Nat.le_of_ble_eq_true rfl)
  rw [lg_entry_eq]
  generalize (lg_sl ([.ref (qn 0), .long p1, .int p2]) ++ List.replicate (12 - (lg_sl ([.ref (qn 0), .long p1, .int p2])).length) Slot.unset).toArray = ls at hl ⊢
  have hl : lv_has ls 12 [(0, .ref (qn 0)), (1, .long p1), (3, .int p2)] := hl
  have B44 : ∀ (n44 : Nat), ∀ (x4 : Int32) (x5 : Int64) (x7 : Int64) (x9 : Int32), f_X1_pairingsIn_b44 (f_X1_pairingsIn d) n_lows n_highs n_linesAt n_lineCount p1 p2 n44 x4 x5 x7 x9 = some (rv) → ∀ (H : Heap) (locs : List Loc), va_P G vwCl [(qn 0, oX1 qn n_pointCount n_lineCount n_tideNow n_age), (qn 3, .inl (Y 0, 40, .inl n_lows)), (qn 4, .inl (Y 0, 40, .inl n_highs)), (qn 7, .inl (Y 1, 12, .inr (.inl n_linesAt)))] H → va_D A [(qn 0, oX1 qn n_pointCount n_lineCount n_tideNow n_age), (qn 3, .inl (Y 0, 40, .inl n_lows)), (qn 4, .inl (Y 0, 40, .inl n_highs)), (qn 7, .inl (Y 1, 12, .inr (.inl n_linesAt)))] → va_S A s.heap H locs → ∀ (ls : Array Slot), lv_has ls 12 [(0, .ref (qn 0)), (1, .long p1), (3, .int p2), (4, .int x4), (5, .long x5), (7, .long x7), (9, .int x9)] → W p l e (headSpec wsX1_pairingsIn (rmk (2 + (d + 1)) (46 + 31 * (d + 1)))).room s m [.ref (qn 0), .long p1, .int p2].toArray below meth c H locs 0 0 (MQ below (va_Ql (fun (r : Int64) (_ : Unit) => r = rv) (Pst G (tys Y) [(qn 0, oX1 qn n_pointCount n_lineCount n_tideNow n_age), (qn 3, .inl (Y 0, 40, .inl n_lows)), (qn 4, .inl (Y 0, 40, .inl n_highs)), (qn 7, .inl (Y 1, 12, .inr (.inl n_linesAt)))] s.heap.size [(qn 0, oX1 qn n_pointCount n_lineCount n_tideNow n_age), (qn 3, .inl (Y 0, 40, .inl n_lows)), (qn 4, .inl (Y 0, 40, .inl n_highs)), (qn 7, .inl (Y 1, 12, .inr (.inl n_linesAt)))]) A) [.ref (qn 0), .long p1, .int p2].toArray s 0 0 A) (F0 m 44 ls []) := by
    intro n44
    induction n44 with
    | zero =>
      intro x4 x5 x7 x9 hf H locs hP hD hS ls hl
      exact no_none hf
    | succ n44 ih44 =>
      intro x4 x5 x7 x9 hf H locs hP hD hS ls hl
      have hf : f_X1_pairingsIn_s44 (f_X1_pairingsIn d) n_lows n_highs n_linesAt n_lineCount p1 p2 (f_X1_pairingsIn_b44 (f_X1_pairingsIn d) n_lows n_highs n_linesAt n_lineCount p1 p2  n44) x4 x5 x7 x9 = some (rv) := hf
      unfold f_X1_pairingsIn_s44 at hf
      refine lv_iload hx hb dX1_pairingsIn_44 (lv_at hl 6 rfl) ?_
      refine lv_iload hx hb dX1_pairingsIn_46 (lv_at hl 3 rfl) ?_
      refine lv_icmp_ge (tgt := 91) hx hb dX1_pairingsIn_48 (by decide) (fun c1 => ?_) (fun c1 => ?_)
      · have hf := it hf c1
        refine lv_lload hx hb dX1_pairingsIn_91 (lv_at hl 4 rfl) ?_
        have e0 := rt1 hf
        exact W.lret (v := x5) hx hb hr (fun t ht hW => ⟨⟨x5, (), rfl, e0, by rw [ht]; exact hP, va_K.moved hW.alike hK, by rw [hAe]; exact hD⟩, hS.F ht⟩) hS.2.2 dX1_pairingsIn_93
      · have hf := ie hf c1
        refine lv_lload hx hb dX1_pairingsIn_51 (lv_at hl 5 rfl) ?_
        refine lv_lload hx hb dX1_pairingsIn_53 (lv_at hl 5 rfl) ?_
        refine lv_lneg hx hb dX1_pairingsIn_55 ?_
        refine lv_land hx hb dX1_pairingsIn_56 ?_
        refine lv_topl (fun v2 e_v2 => ?_)
        have hf := nm_at hf e_v2
        refine lv_lstore (lv' := [(10, .long v2), (0, .ref (qn 0)), (1, .long p1), (3, .int p2), (4, .int x4), (5, .long x5), (7, .long x7), (9, .int x9)]) hx hb dX1_pairingsIn_57 hl (by decide) rfl (fun ls hl => ?_)
        refine lv_lload hx hb dX1_pairingsIn_59 (lv_at hl 6 rfl) ?_
        refine lv_lload hx hb dX1_pairingsIn_61 (lv_at hl 0 rfl) ?_
        refine lv_lxor hx hb dX1_pairingsIn_63 ?_
        refine lv_topl (fun v3 e_v3 => ?_)
        have hf := nm_at hf e_v3
        refine lv_lstore (lv' := [(7, .long v3), (10, .long v2), (0, .ref (qn 0)), (1, .long p1), (3, .int p2), (4, .int x4), (5, .long x5), (9, .int x9)]) hx hb dX1_pairingsIn_64 hl (by decide) rfl (fun ls hl => ?_)
        refine lv_lload hx hb dX1_pairingsIn_66 (lv_at hl 6 rfl) ?_
        refine lv_aload_n hx hb dX1_pairingsIn_68 rfl (lv_at hl 2 rfl) ?_
        refine lv_aload_n hx hb dX1_pairingsIn_69 rfl (lv_at hl 2 rfl) ?_
        refine lv_lload_n hx hb dX1_pairingsIn_70 rfl (lv_at hl 3 rfl) ?_
        refine lv_lload hx hb dX1_pairingsIn_71 (lv_at hl 1 rfl) ?_
        obtain ⟨r4, hc, hf⟩ := bd1 hf
        refine cl_l (ws' := [(qn 0, oX1 qn n_pointCount n_lineCount n_tideNow n_age), (qn 3, .inl (Y 0, 40, .inl n_lows)), (qn 4, .inl (Y 0, 40, .inl n_highs)), (qn 7, .inl (Y 1, 12, .inr (.inl n_linesAt)))]) (wr := []) (rnV (As := [.long p1, .long v2]) (rest := [.ref (qn 0), .long x5]) ⟨hx, hb, hml, hown, hts⟩ (c_X1_freeBelow l G Y H.size qn n_lows n_highs n_linesAt n_pointCount n_lineCount n_tideNow n_age p1 v2 r4 hc) (cwV 2 hts gX1_pairingsIn_X1_freeBelow rfl rfl rfl (by decide +kernel) ⟨(by first | exact Nat.le_of_ble_eq_true rfl | (show _ ≤ _ + _; simp only [List.map, List.sum_cons, List.sum_nil]; omega) | (simp [headSpec, rmk]; omega)), (by first | exact Nat.le_of_ble_eq_true rfl | (show _ ≤ _ + _; simp only [List.map, List.sum_cons, List.sum_nil]; omega) | (simp [headSpec, rmk]; omega))⟩) trivial okT hK hP hD [0, 1, 2, 3] rfl rfl (ci := 0) (q0 := 0) rfl rfl rfl rfl hl.1 rfl (Nat.le_of_ble_eq_true rfl) dX1_pairingsIn_73) hP hD hS hA [0, 1, 2, 3] [] [0, 1, 2, 3] rfl rfl rfl (by decide) rfl rfl (fun H locs hP hD hS => ?_)
        refine lv_iload_n hx hb dX1_pairingsIn_76 rfl (lv_at hl 4 rfl) ?_
        refine lv_iconst (v := 1) hx hb dX1_pairingsIn_77 (by decide) ?_
        refine lv_isub hx hb dX1_pairingsIn_78 ?_
        obtain ⟨r5, hc, hf⟩ := bd1 hf
        refine cl_l (ws' := [(qn 0, oX1 qn n_pointCount n_lineCount n_tideNow n_age), (qn 3, .inl (Y 0, 40, .inl n_lows)), (qn 4, .inl (Y 0, 40, .inl n_highs)), (qn 7, .inl (Y 1, 12, .inr (.inl n_linesAt)))]) (wr := []) (rnV (As := [.long r4, .int (p2 - (1 : Int32))]) (rest := [.long x5]) ⟨hx, hb, hml, hown, hts⟩ (ihd H.size qn n_lows n_highs n_linesAt n_pointCount n_lineCount n_tideNow n_age r4 (p2 - (1 : Int32)) r5 hc) (cwV 2 hts gX1_pairingsIn_X1_pairingsIn rfl rfl rfl (by decide +kernel) ⟨by show _ + _ + 1 ≤ _ + (_ + 1); omega, by show 8 + (_ + 11) + (_ + _ * _) ≤ _ + _ * (_ + 1); omega⟩) trivial okT hK hP hD [0, 1, 2, 3] rfl rfl (ci := 0) (q0 := 0) rfl rfl rfl rfl hl.1 rfl (Nat.le_of_ble_eq_true rfl) dX1_pairingsIn_79) hP hD hS hA [0, 1, 2, 3] [] [0, 1, 2, 3] rfl rfl rfl (by decide) rfl rfl (fun H locs hP hD hS => ?_)
        refine lv_ladd hx hb dX1_pairingsIn_82 ?_
        refine lv_topl (fun v6 e_v6 => ?_)
        have hf := nm_at hf e_v6
        refine lv_lstore (lv' := [(5, .long v6), (7, .long v3), (10, .long v2), (0, .ref (qn 0)), (1, .long p1), (3, .int p2), (4, .int x4), (9, .int x9)]) hx hb dX1_pairingsIn_83 hl (by decide) rfl (fun ls hl => ?_)
        obtain ⟨v7, e_v7⟩ : ∃ z : Int32, z = (x9 + 1) := ⟨_, rfl⟩
        have hf := nm_at hf e_v7
        refine lv_iinc (v := v7) (lv' := [(9, .int v7), (5, .long v6), (7, .long v3), (10, .long v2), (0, .ref (qn 0)), (1, .long p1), (3, .int p2), (4, .int x4)]) hx hb dX1_pairingsIn_85 hl (k := 7) rfl (by rw [e_v7]; rfl) (by decide) rfl (fun ls hl => ?_)
        refine lv_goto (tgt := 44) hx hb dX1_pairingsIn_88 (by decide) ?_
        exact ih44 x4 v6 v3 v7 hf _ _ hP hD hS ls (lv_sub hl [4, 5, 6, 7, 1, 2, 0] rfl)
  have E0 : ∀ (H : Heap) (locs : List Loc), va_P G vwCl [(qn 0, oX1 qn n_pointCount n_lineCount n_tideNow n_age), (qn 3, .inl (Y 0, 40, .inl n_lows)), (qn 4, .inl (Y 0, 40, .inl n_highs)), (qn 7, .inl (Y 1, 12, .inr (.inl n_linesAt)))] H → va_D A [(qn 0, oX1 qn n_pointCount n_lineCount n_tideNow n_age), (qn 3, .inl (Y 0, 40, .inl n_lows)), (qn 4, .inl (Y 0, 40, .inl n_highs)), (qn 7, .inl (Y 1, 12, .inr (.inl n_linesAt)))] → va_S A s.heap H locs → ∀ (ls : Array Slot), lv_has ls 12 [(0, .ref (qn 0)), (1, .long p1), (3, .int p2)] → W p l e (headSpec wsX1_pairingsIn (rmk (2 + (d + 1)) (46 + 31 * (d + 1)))).room s m [.ref (qn 0), .long p1, .int p2].toArray below meth c H locs 0 0 (MQ below (va_Ql (fun (r : Int64) (_ : Unit) => r = rv) (Pst G (tys Y) [(qn 0, oX1 qn n_pointCount n_lineCount n_tideNow n_age), (qn 3, .inl (Y 0, 40, .inl n_lows)), (qn 4, .inl (Y 0, 40, .inl n_highs)), (qn 7, .inl (Y 1, 12, .inr (.inl n_linesAt)))] s.heap.size [(qn 0, oX1 qn n_pointCount n_lineCount n_tideNow n_age), (qn 3, .inl (Y 0, 40, .inl n_lows)), (qn 4, .inl (Y 0, 40, .inl n_highs)), (qn 7, .inl (Y 1, 12, .inr (.inl n_linesAt)))]) A) [.ref (qn 0), .long p1, .int p2].toArray s 0 0 A) (F0 m 0 ls []) := by
    intro H locs hP hD hS ls hl
    unfold f_X1_pairingsIn_st at hf
    refine lv_lload_n hx hb dX1_pairingsIn_0 rfl (lv_at hl 1 rfl) ?_
    obtain ⟨r8, hc, hf⟩ := bd1 hf
    refine cl_i (ws' := [(qn 0, oX1 qn n_pointCount n_lineCount n_tideNow n_age), (qn 3, .inl (Y 0, 40, .inl n_lows)), (qn 4, .inl (Y 0, 40, .inl n_highs)), (qn 7, .inl (Y 1, 12, .inr (.inl n_linesAt)))]) (wr := [(qn 0, oX1 qn n_pointCount n_lineCount n_tideNow n_age), (qn 3, .inl (Y 0, 40, .inl n_lows)), (qn 4, .inl (Y 0, 40, .inl n_highs)), (qn 7, .inl (Y 1, 12, .inr (.inl n_linesAt)))]) (rnS (As := [.long p1]) (rest := []) ⟨hx, hb, hml, hown, hts⟩ (c_J13_bitCount_95d88 l G Y H.size p1 r8 hc) (va_cwS 1 hts gX1_pairingsIn_J13_bitCount_95d88 rfl rfl rfl (by decide +kernel) ⟨(by first | exact Nat.le_of_ble_eq_true rfl | (show _ ≤ _ + _; simp only [List.map, List.sum_cons, List.sum_nil]; omega) | (simp [headSpec, rmk]; omega)), (by first | exact Nat.le_of_ble_eq_true rfl | (show _ ≤ _ + _; simp only [List.map, List.sum_cons, List.sum_nil]; omega) | (simp [headSpec, rmk]; omega))⟩) trivial okT hK hP hD [] rfl rfl rfl hl.1 rfl (Nat.le_of_ble_eq_true rfl) dX1_pairingsIn_1) hP hD hS hA [] [0, 1, 2, 3] [0, 1, 2, 3] rfl rfl rfl (by decide) rfl rfl (fun H locs hP hD hS => ?_)
    refine lv_istore (lv' := [(4, .int r8), (0, .ref (qn 0)), (1, .long p1), (3, .int p2)]) hx hb dX1_pairingsIn_4 hl (by decide) rfl (fun ls hl => ?_)
    refine lv_iload_n hx hb dX1_pairingsIn_6 rfl (lv_at hl 3 rfl) ?_
    refine lv_if_le (tgt := 16) hx hb dX1_pairingsIn_7 (by decide) (fun c9 => ?_) (fun c9 => ?_)
    · have hf := it hf c9
      refine lv_iload_n hx hb dX1_pairingsIn_16 rfl (lv_at hl 3 rfl) ?_
      refine lv_if_ne (tgt := 24) hx hb dX1_pairingsIn_17 (by decide) (fun c10 => ?_) (fun c10 => ?_)
      · have hf := ie hf c10
        refine lv_lconst (v := 0) hx hb dX1_pairingsIn_24 (by decide) ?_
        have e0 := rt1 hf
        exact W.lret (v := (0 : Int64)) hx hb hr (fun t ht hW => ⟨⟨(0 : Int64), (), rfl, e0, by rw [ht]; exact hP, va_K.moved hW.alike hK, by rw [hAe]; exact hD⟩, hS.F ht⟩) hS.2.2 dX1_pairingsIn_25
      · have hf := it hf c10
        refine lv_lconst (v := 1) hx hb dX1_pairingsIn_20 (by decide) ?_
        refine lv_goto (tgt := 25) hx hb dX1_pairingsIn_21 (by decide) ?_
        have e0 := rt1 hf
        exact W.lret (v := (1 : Int64)) hx hb hr (fun t ht hW => ⟨⟨(1 : Int64), (), rfl, e0, by rw [ht]; exact hP, va_K.moved hW.alike hK, by rw [hAe]; exact hD⟩, hS.F ht⟩) hS.2.2 dX1_pairingsIn_25
    · have hf := ie hf c9
      refine lv_iload hx hb dX1_pairingsIn_10 (lv_at hl 0 rfl) ?_
      refine lv_iload_n hx hb dX1_pairingsIn_12 rfl (lv_at hl 3 rfl) ?_
      refine lv_icmp_ge (tgt := 26) hx hb dX1_pairingsIn_13 (by decide) (fun c11 => ?_) (fun c11 => ?_)
      · have hf := it hf c11
        refine lv_iload_n hx hb dX1_pairingsIn_26 rfl (lv_at hl 3 rfl) ?_
        refine lv_iconst (v := 1) hx hb dX1_pairingsIn_27 (by decide) ?_
        refine lv_icmp_ne (tgt := 35) hx hb dX1_pairingsIn_28 (by decide) (fun c12 => ?_) (fun c12 => ?_)
        · have hf := ie hf c12
          refine lv_lconst (v := 0) hx hb dX1_pairingsIn_35 (by decide) ?_
          refine lv_lstore (lv' := [(5, .long (0 : Int64)), (4, .int r8), (0, .ref (qn 0)), (1, .long p1), (3, .int p2)]) hx hb dX1_pairingsIn_36 hl (by decide) rfl (fun ls hl => ?_)
          refine lv_lload_n hx hb dX1_pairingsIn_38 rfl (lv_at hl 3 rfl) ?_
          refine lv_lstore (lv' := [(7, .long p1), (5, .long (0 : Int64)), (4, .int r8), (0, .ref (qn 0)), (1, .long p1), (3, .int p2)]) hx hb dX1_pairingsIn_39 hl (by decide) rfl (fun ls hl => ?_)
          refine lv_iconst (v := 0) hx hb dX1_pairingsIn_41 (by decide) ?_
          refine lv_istore (lv' := [(9, .int (0 : Int32)), (7, .long p1), (5, .long (0 : Int64)), (4, .int r8), (0, .ref (qn 0)), (1, .long p1), (3, .int p2)]) hx hb dX1_pairingsIn_42 hl (by decide) rfl (fun ls hl => ?_)
          exact B44 70 r8 (0 : Int64) p1 (0 : Int32) hf _ _ hP hD hS ls (lv_sub hl [4, 5, 6, 3, 2, 1, 0] rfl)
        · have hf := it hf c12
          refine lv_iload hx hb dX1_pairingsIn_31 (lv_at hl 0 rfl) ?_
          refine lv_i2l hx hb dX1_pairingsIn_33 rfl ?_
          have e0 := rt1 hf
          exact W.lret (v := r8.toInt64) hx hb hr (fun t ht hW => ⟨⟨r8.toInt64, (), rfl, e0, by rw [ht]; exact hP, va_K.moved hW.alike hK, by rw [hAe]; exact hD⟩, hS.F ht⟩) hS.2.2 dX1_pairingsIn_34
      · have hf := ie hf c11
        refine lv_iload_n hx hb dX1_pairingsIn_16 rfl (lv_at hl 3 rfl) ?_
        refine lv_if_ne (tgt := 24) hx hb dX1_pairingsIn_17 (by decide) (fun c13 => ?_) (fun c13 => ?_)
        · have hf := ie hf c13
          refine lv_lconst (v := 0) hx hb dX1_pairingsIn_24 (by decide) ?_
          have e0 := rt1 hf
          exact W.lret (v := (0 : Int64)) hx hb hr (fun t ht hW => ⟨⟨(0 : Int64), (), rfl, e0, by rw [ht]; exact hP, va_K.moved hW.alike hK, by rw [hAe]; exact hD⟩, hS.F ht⟩) hS.2.2 dX1_pairingsIn_25
        · have hf := it hf c13
          refine lv_lconst (v := 1) hx hb dX1_pairingsIn_20 (by decide) ?_
          refine lv_goto (tgt := 25) hx hb dX1_pairingsIn_21 (by decide) ?_
          have e0 := rt1 hf
          exact W.lret (v := (1 : Int64)) hx hb hr (fun t ht hW => ⟨⟨(1 : Int64), (), rfl, e0, by rw [ht]; exact hP, va_K.moved hW.alike hK, by rw [hAe]; exact hD⟩, hS.F ht⟩) hS.2.2 dX1_pairingsIn_25
  exact E0 s.heap [] hP hD hS ls hl
-- X1_pairingsOf
set_option maxRecDepth 100000 in
set_option maxHeartbeats 4000000 in
theorem c_X1_pairingsOf (l : Launch) (G : va_G) (Y : Nat → ClassId) (sz : Nat) (qn : Nat → Nat) (n_lows : Nat → Int32) (n_highs : Nat → Int32) (n_linesAt : Nat → Int64) (n_pointCount : Int32) (n_lineCount : Int32) (n_tideNow : Int32) (n_age : Int32) (p1 : Int32) (rv : Int64) (hf : f_X1_pairingsOf n_lows n_highs n_linesAt n_lineCount p1 = some (rv)) : Met l yX1_pairingsOf wsX1_pairingsOf (rmk 19 573) (va_Pc [.ref (qn 0), .int p1] (Pre G (tys Y) [(qn 0, oX1 qn n_pointCount n_lineCount n_tideNow n_age), (qn 3, .inl (Y 0, 40, .inl n_lows)), (qn 4, .inl (Y 0, 40, .inl n_highs)), (qn 7, .inl (Y 1, 12, .inr (.inl n_linesAt)))] sz xT)) (va_Ql (fun (r : Int64) (_ : Unit) => r = rv) (Pst G (tys Y) [(qn 0, oX1 qn n_pointCount n_lineCount n_tideNow n_age), (qn 3, .inl (Y 0, 40, .inl n_lows)), (qn 4, .inl (Y 0, 40, .inl n_highs)), (qn 7, .inl (Y 1, 12, .inr (.inl n_linesAt)))] sz [(qn 0, oX1 qn n_pointCount n_lineCount n_tideNow n_age), (qn 3, .inl (Y 0, 40, .inl n_lows)), (qn 4, .inl (Y 0, 40, .inl n_highs)), (qn 7, .inl (Y 1, 12, .inr (.inl n_linesAt)))]) (va_A [(qn 0, oX1 qn n_pointCount n_lineCount n_tideNow n_age), (qn 3, .inl (Y 0, 40, .inl n_lows)), (qn 4, .inl (Y 0, 40, .inl n_highs)), (qn 7, .inl (Y 1, 12, .inr (.inl n_linesAt)))] sz)) 0 0 (va_A [(qn 0, oX1 qn n_pointCount n_lineCount n_tideNow n_age), (qn 3, .inl (Y 0, 40, .inl n_lows)), (qn 4, .inl (Y 0, 40, .inl n_highs)), (qn 7, .inl (Y 1, 12, .inr (.inl n_linesAt)))] sz) := by
  refine Met.ofW (cc := cX1_pairingsOf) (maxL := 2) (ret := (some .long)) (by decide) rfl ?_
  intro p e s m args below meth c s₁ B hml hv
  obtain ⟨rfl, hsz, hP, hK, hD0, hX⟩ := hv
  have hx := B.exec
  have hb := B.bytes
  have hr := B.returns
  have hts := atoms_spec (ws := wsX1_pairingsOf) B.pre
  have hown : s.vm.findClass RX1 = some m.cls := findClass_of_methodNamed B.named
  have hlocks := B.notSynchronized
  subst hsz
  have hD := hD0.self (sz := s.heap.size)
  generalize hAe : va_A [(qn 0, oX1 qn n_pointCount n_lineCount n_tideNow n_age), (qn 3, .inl (Y 0, 40, .inl n_lows)), (qn 4, .inl (Y 0, 40, .inl n_highs)), (qn 7, .inl (Y 1, 12, .inr (.inl n_linesAt)))] s.heap.size = A at hD ⊢
  have hA : ∀ q : Nat, s.heap.size ≤ q → A q := fun q h => by rw [← hAe]; exact Or.inr h
  have hS : va_S A s.heap s.heap [] := va_S.rf
  have hP : va_P G vwCl [(qn 0, oX1 qn n_pointCount n_lineCount n_tideNow n_age), (qn 3, .inl (Y 0, 40, .inl n_lows)), (qn 4, .inl (Y 0, 40, .inl n_highs)), (qn 7, .inl (Y 1, 12, .inr (.inl n_linesAt)))] s.heap := hP
  have hl := lv_entry ([.ref (qn 0), .int p1]) (n := 2) (Nat.le_of_ble_eq_true rfl)
  rw [lg_entry_eq]
  generalize (lg_sl ([.ref (qn 0), .int p1]) ++ List.replicate (2 - (lg_sl ([.ref (qn 0), .int p1])).length) Slot.unset).toArray = ls at hl ⊢
  have hl : lv_has ls 2 [(0, .ref (qn 0)), (1, .int p1)] := hl
  have E0 : ∀ (H : Heap) (locs : List Loc), va_P G vwCl [(qn 0, oX1 qn n_pointCount n_lineCount n_tideNow n_age), (qn 3, .inl (Y 0, 40, .inl n_lows)), (qn 4, .inl (Y 0, 40, .inl n_highs)), (qn 7, .inl (Y 1, 12, .inr (.inl n_linesAt)))] H → va_D A [(qn 0, oX1 qn n_pointCount n_lineCount n_tideNow n_age), (qn 3, .inl (Y 0, 40, .inl n_lows)), (qn 4, .inl (Y 0, 40, .inl n_highs)), (qn 7, .inl (Y 1, 12, .inr (.inl n_linesAt)))] → va_S A s.heap H locs → ∀ (ls : Array Slot), lv_has ls 2 [(0, .ref (qn 0)), (1, .int p1)] → W p l e (headSpec wsX1_pairingsOf (rmk 19 573)).room s m [.ref (qn 0), .int p1].toArray below meth c H locs 0 0 (MQ below (va_Ql (fun (r : Int64) (_ : Unit) => r = rv) (Pst G (tys Y) [(qn 0, oX1 qn n_pointCount n_lineCount n_tideNow n_age), (qn 3, .inl (Y 0, 40, .inl n_lows)), (qn 4, .inl (Y 0, 40, .inl n_highs)), (qn 7, .inl (Y 1, 12, .inr (.inl n_linesAt)))] s.heap.size [(qn 0, oX1 qn n_pointCount n_lineCount n_tideNow n_age), (qn 3, .inl (Y 0, 40, .inl n_lows)), (qn 4, .inl (Y 0, 40, .inl n_highs)), (qn 7, .inl (Y 1, 12, .inr (.inl n_linesAt)))]) A) [.ref (qn 0), .int p1].toArray s 0 0 A) (F0 m 0 ls []) := by
    intro H locs hP hD hS ls hl
    unfold f_X1_pairingsOf at hf
    refine lv_aload_n hx hb dX1_pairingsOf_0 rfl (lv_at hl 0 rfl) ?_
    refine lv_aload_n hx hb dX1_pairingsOf_1 rfl (lv_at hl 0 rfl) ?_
    obtain ⟨r1, hc, hf⟩ := bd1 hf
    refine cl_l (ws' := [(qn 0, oX1 qn n_pointCount n_lineCount n_tideNow n_age), (qn 3, .inl (Y 0, 40, .inl n_lows)), (qn 4, .inl (Y 0, 40, .inl n_highs)), (qn 7, .inl (Y 1, 12, .inr (.inl n_linesAt)))]) (wr := [(qn 3, .inl (Y 0, 40, .inl n_lows)), (qn 4, .inl (Y 0, 40, .inl n_highs)), (qn 7, .inl (Y 1, 12, .inr (.inl n_linesAt)))]) (rnV (As := []) (rest := [.ref (qn 0)]) ⟨hx, hb, hml, hown, hts⟩ (c_X1_allLines l G Y H.size qn n_pointCount n_lineCount n_tideNow n_age r1 hc) (cwV 0 hts gX1_pairingsOf_X1_allLines rfl rfl rfl (by decide +kernel) ⟨(Nat.le_of_ble_eq_true rfl), (Nat.le_of_ble_eq_true rfl)⟩) trivial okT hK hP hD [0] rfl rfl (ci := 0) (q0 := 0) rfl rfl rfl rfl hl.1 rfl (Nat.le_of_ble_eq_true rfl) dX1_pairingsOf_2) hP hD hS hA [0] [1, 2, 3] [3, 0, 1, 2] rfl rfl rfl (by decide) rfl rfl (fun H locs hP hD hS => ?_)
    refine lv_iload_n hx hb dX1_pairingsOf_5 rfl (lv_at hl 1 rfl) ?_
    obtain ⟨r2, hc, hf⟩ := bd1 hf
    refine cl_l (ws' := [(qn 0, oX1 qn n_pointCount n_lineCount n_tideNow n_age), (qn 3, .inl (Y 0, 40, .inl n_lows)), (qn 4, .inl (Y 0, 40, .inl n_highs)), (qn 7, .inl (Y 1, 12, .inr (.inl n_linesAt)))]) (wr := []) (rnV (As := [.long r1, .int p1]) (rest := []) ⟨hx, hb, hml, hown, hts⟩ (c_X1_pairingsIn l G Y 16 H.size qn n_lows n_highs n_linesAt n_pointCount n_lineCount n_tideNow n_age r1 p1 r2 hc) (cwV 2 hts gX1_pairingsOf_X1_pairingsIn rfl rfl rfl (by decide +kernel) ⟨(Nat.le_of_ble_eq_true rfl), (Nat.le_of_ble_eq_true rfl)⟩) trivial okT hK hP hD [0, 1, 2, 3] rfl rfl (ci := 0) (q0 := 0) rfl rfl rfl rfl hl.1 rfl (Nat.le_of_ble_eq_true rfl) dX1_pairingsOf_6) hP hD hS hA [0, 1, 2, 3] [] [0, 1, 2, 3] rfl rfl rfl (by decide) rfl rfl (fun H locs hP hD hS => ?_)
    have e0 := rt1 hf
    exact W.lret (v := r2) hx hb hr (fun t ht hW => ⟨⟨r2, (), rfl, e0, by rw [ht]; exact hP, va_K.moved hW.alike hK, by rw [hAe]; exact hD⟩, hS.F ht⟩) hS.2.2 dX1_pairingsOf_9
  exact E0 s.heap [] hP hD hS ls hl
-- X1_pairingAt
set_option maxRecDepth 100000 in
set_option maxHeartbeats 4000000 in
theorem c_X1_pairingAt (l : Launch) (G : va_G) (Y : Nat → ClassId) (sz : Nat) (qn : Nat → Nat) (n_lows : Nat → Int32) (n_highs : Nat → Int32) (n_linesAt : Nat → Int64) (n_pointCount : Int32) (n_lineCount : Int32) (n_tideNow : Int32) (n_age : Int32) (p1 : Int32) (p2 : Int32) (rv : Int64) (hf : f_X1_pairingAt n_lows n_highs n_linesAt n_lineCount p1 p2 = some (rv)) : Met l yX1_pairingAt wsX1_pairingAt (rmk 19 573) (va_Pc [.ref (qn 0), .int p1, .int p2] (Pre G (tys Y) [(qn 0, oX1 qn n_pointCount n_lineCount n_tideNow n_age), (qn 3, .inl (Y 0, 40, .inl n_lows)), (qn 4, .inl (Y 0, 40, .inl n_highs)), (qn 7, .inl (Y 1, 12, .inr (.inl n_linesAt)))] sz xT)) (va_Ql (fun (r : Int64) (_ : Unit) => r = rv) (Pst G (tys Y) [(qn 0, oX1 qn n_pointCount n_lineCount n_tideNow n_age), (qn 3, .inl (Y 0, 40, .inl n_lows)), (qn 4, .inl (Y 0, 40, .inl n_highs)), (qn 7, .inl (Y 1, 12, .inr (.inl n_linesAt)))] sz [(qn 0, oX1 qn n_pointCount n_lineCount n_tideNow n_age), (qn 3, .inl (Y 0, 40, .inl n_lows)), (qn 4, .inl (Y 0, 40, .inl n_highs)), (qn 7, .inl (Y 1, 12, .inr (.inl n_linesAt)))]) (va_A [(qn 0, oX1 qn n_pointCount n_lineCount n_tideNow n_age), (qn 3, .inl (Y 0, 40, .inl n_lows)), (qn 4, .inl (Y 0, 40, .inl n_highs)), (qn 7, .inl (Y 1, 12, .inr (.inl n_linesAt)))] sz)) 0 0 (va_A [(qn 0, oX1 qn n_pointCount n_lineCount n_tideNow n_age), (qn 3, .inl (Y 0, 40, .inl n_lows)), (qn 4, .inl (Y 0, 40, .inl n_highs)), (qn 7, .inl (Y 1, 12, .inr (.inl n_linesAt)))] sz) := by
  refine Met.ofW (cc := cX1_pairingAt) (maxL := 19) (ret := (some .long)) (by decide) rfl ?_
  intro p e s m args below meth c s₁ B hml hv
  obtain ⟨rfl, hsz, hP, hK, hD0, hX⟩ := hv
  have hx := B.exec
  have hb := B.bytes
  have hr := B.returns
  have hts := atoms_spec (ws := wsX1_pairingAt) B.pre
  have hown : s.vm.findClass RX1 = some m.cls := findClass_of_methodNamed B.named
  have hlocks := B.notSynchronized
  subst hsz
  have hD := hD0.self (sz := s.heap.size)
  generalize hAe : va_A [(qn 0, oX1 qn n_pointCount n_lineCount n_tideNow n_age), (qn 3, .inl (Y 0, 40, .inl n_lows)), (qn 4, .inl (Y 0, 40, .inl n_highs)), (qn 7, .inl (Y 1, 12, .inr (.inl n_linesAt)))] s.heap.size = A at hD ⊢
  have hA : ∀ q : Nat, s.heap.size ≤ q → A q := fun q h => by rw [← hAe]; exact Or.inr h
  have hS : va_S A s.heap s.heap [] := va_S.rf
  have hP : va_P G vwCl [(qn 0, oX1 qn n_pointCount n_lineCount n_tideNow n_age), (qn 3, .inl (Y 0, 40, .inl n_lows)), (qn 4, .inl (Y 0, 40, .inl n_highs)), (qn 7, .inl (Y 1, 12, .inr (.inl n_linesAt)))] s.heap := hP
  have wd1 : (Cond.constantLong RX1 93 (-1)).before [.ref (qn 0), .int p1, .int p2].toArray s = true := hts _ (List.mem_of_getElem? (i := 1) rfl)
  have hl := lv_entry ([.ref (qn 0), .int p1, .int p2]) (n := 19) (Nat.le_of_ble_eq_true rfl)
  rw [lg_entry_eq]
  generalize (lg_sl ([.ref (qn 0), .int p1, .int p2]) ++ List.replicate (19 - (lg_sl ([.ref (qn 0), .int p1, .int p2])).length) Slot.unset).toArray = ls at hl ⊢
  have hl : lv_has ls 19 [(0, .ref (qn 0)), (1, .int p1), (2, .int p2)] := hl
  have B15 : ∀ (n15 : Nat), ∀ (x3 : Int64) (x5 : Int64) (x7 : Int64) (x9 : Int32), f_X1_pairingAt_b15 n_lows n_highs n_linesAt n_lineCount p1 p2 n15 x3 x5 x7 x9 = some (rv) → ∀ (H : Heap) (locs : List Loc), va_P G vwCl [(qn 0, oX1 qn n_pointCount n_lineCount n_tideNow n_age), (qn 3, .inl (Y 0, 40, .inl n_lows)), (qn 4, .inl (Y 0, 40, .inl n_highs)), (qn 7, .inl (Y 1, 12, .inr (.inl n_linesAt)))] H → va_D A [(qn 0, oX1 qn n_pointCount n_lineCount n_tideNow n_age), (qn 3, .inl (Y 0, 40, .inl n_lows)), (qn 4, .inl (Y 0, 40, .inl n_highs)), (qn 7, .inl (Y 1, 12, .inr (.inl n_linesAt)))] → va_S A s.heap H locs → ∀ (ls : Array Slot), lv_has ls 19 [(0, .ref (qn 0)), (3, .long x3), (5, .long x5), (7, .long x7), (9, .int x9)] → W p l e (headSpec wsX1_pairingAt (rmk 19 573)).room s m [.ref (qn 0), .int p1, .int p2].toArray below meth c H locs 0 0 (MQ below (va_Ql (fun (r : Int64) (_ : Unit) => r = rv) (Pst G (tys Y) [(qn 0, oX1 qn n_pointCount n_lineCount n_tideNow n_age), (qn 3, .inl (Y 0, 40, .inl n_lows)), (qn 4, .inl (Y 0, 40, .inl n_highs)), (qn 7, .inl (Y 1, 12, .inr (.inl n_linesAt)))] s.heap.size [(qn 0, oX1 qn n_pointCount n_lineCount n_tideNow n_age), (qn 3, .inl (Y 0, 40, .inl n_lows)), (qn 4, .inl (Y 0, 40, .inl n_highs)), (qn 7, .inl (Y 1, 12, .inr (.inl n_linesAt)))]) A) [.ref (qn 0), .int p1, .int p2].toArray s 0 0 A) (F0 m 15 ls []) := by
    intro n15
    induction n15 with
    | zero =>
      intro x3 x5 x7 x9 hf H locs hP hD hS ls hl
      exact no_none hf
    | succ n15 ih15 =>
      have B107 : ∀ (x3 : Int64) (x5 : Int64) (x7 : Int64) (x9 : Int32) (x10 : Int64), f_X1_pairingAt_b107 n_lows n_highs n_linesAt n_lineCount p1 p2 (f_X1_pairingAt_b15 n_lows n_highs n_linesAt n_lineCount p1 p2 n15) x3 x5 x7 x9 x10 = some (rv) → ∀ (H : Heap) (locs : List Loc), va_P G vwCl [(qn 0, oX1 qn n_pointCount n_lineCount n_tideNow n_age), (qn 3, .inl (Y 0, 40, .inl n_lows)), (qn 4, .inl (Y 0, 40, .inl n_highs)), (qn 7, .inl (Y 1, 12, .inr (.inl n_linesAt)))] H → va_D A [(qn 0, oX1 qn n_pointCount n_lineCount n_tideNow n_age), (qn 3, .inl (Y 0, 40, .inl n_lows)), (qn 4, .inl (Y 0, 40, .inl n_highs)), (qn 7, .inl (Y 1, 12, .inr (.inl n_linesAt)))] → va_S A s.heap H locs → ∀ (ls : Array Slot), lv_has ls 19 [(0, .ref (qn 0)), (3, .long x3), (5, .long x5), (7, .long x7), (9, .int x9), (10, .long x10)] → W p l e (headSpec wsX1_pairingAt (rmk 19 573)).room s m [.ref (qn 0), .int p1, .int p2].toArray below meth c H locs 0 0 (MQ below (va_Ql (fun (r : Int64) (_ : Unit) => r = rv) (Pst G (tys Y) [(qn 0, oX1 qn n_pointCount n_lineCount n_tideNow n_age), (qn 3, .inl (Y 0, 40, .inl n_lows)), (qn 4, .inl (Y 0, 40, .inl n_highs)), (qn 7, .inl (Y 1, 12, .inr (.inl n_linesAt)))] s.heap.size [(qn 0, oX1 qn n_pointCount n_lineCount n_tideNow n_age), (qn 3, .inl (Y 0, 40, .inl n_lows)), (qn 4, .inl (Y 0, 40, .inl n_highs)), (qn 7, .inl (Y 1, 12, .inr (.inl n_linesAt)))]) A) [.ref (qn 0), .int p1, .int p2].toArray s 0 0 A) (F0 m 107 ls []) := by
        intro x3 x5 x7 x9 x10 hf H locs hP hD hS ls hl
        unfold f_X1_pairingAt_b107 at hf
        refine lv_lload hx hb dX1_pairingAt_107 (lv_at hl 5 rfl) ?_
        refine lv_lconst (v := 0) hx hb dX1_pairingAt_109 (by decide) ?_
        refine W.lcmp hx hb dX1_pairingAt_110 ?_
        refine lv_if_ne (tgt := 118) hx hb dX1_pairingAt_111 (by decide) (fun c1 => ?_) (fun c1 => ?_)
        · have hf := ie hf c1
          refine lv_lload_n hx hb dX1_pairingAt_118 rfl (lv_at hl 1 rfl) ?_
          refine lv_lload hx hb dX1_pairingAt_119 (lv_at hl 5 rfl) ?_
          refine lv_lor hx hb dX1_pairingAt_121 ?_
          refine lv_topl (fun v2 e_v2 => ?_)
          have hf := nm_at hf e_v2
          refine lv_lstore_n (lv' := [(3, .long v2), (0, .ref (qn 0)), (5, .long x5), (7, .long x7), (9, .int x9), (10, .long x10)]) hx hb dX1_pairingAt_122 rfl hl (by decide) rfl (fun ls hl => ?_)
          refine lv_aload_n hx hb dX1_pairingAt_123 rfl (lv_at hl 1 rfl) ?_
          refine lv_lload hx hb dX1_pairingAt_124 (lv_at hl 2 rfl) ?_
          refine lv_lload hx hb dX1_pairingAt_126 (lv_at hl 5 rfl) ?_
          obtain ⟨r3, hc, hf⟩ := bd1 hf
          refine cl_l (ws' := [(qn 0, oX1 qn n_pointCount n_lineCount n_tideNow n_age), (qn 3, .inl (Y 0, 40, .inl n_lows)), (qn 4, .inl (Y 0, 40, .inl n_highs)), (qn 7, .inl (Y 1, 12, .inr (.inl n_linesAt)))]) (wr := []) (rnV (As := [.long x5, .long x10]) (rest := []) ⟨hx, hb, hml, hown, hts⟩ (c_X1_freeBelow l G Y H.size qn n_lows n_highs n_linesAt n_pointCount n_lineCount n_tideNow n_age x5 x10 r3 hc) (cwV 2 hts gX1_pairingAt_X1_freeBelow rfl rfl rfl (by decide +kernel) ⟨(Nat.le_of_ble_eq_true rfl), (Nat.le_of_ble_eq_true rfl)⟩) trivial okT hK hP hD [0, 1, 2, 3] rfl rfl (ci := 0) (q0 := 0) rfl rfl rfl rfl hl.1 rfl (Nat.le_of_ble_eq_true rfl) dX1_pairingAt_128) hP hD hS hA [0, 1, 2, 3] [] [0, 1, 2, 3] rfl rfl rfl (by decide) rfl rfl (fun H locs hP hD hS => ?_)
          refine lv_lstore (lv' := [(5, .long r3), (3, .long v2), (0, .ref (qn 0)), (7, .long x7), (9, .int x9), (10, .long x10)]) hx hb dX1_pairingAt_131 hl (by decide) rfl (fun ls hl => ?_)
          obtain ⟨v4, e_v4⟩ : ∃ z : Int32, z = (x9 + (-1)) := ⟨_, rfl⟩
          have hf := nm_at hf e_v4
          refine lv_iinc (v := v4) (lv' := [(9, .int v4), (5, .long r3), (3, .long v2), (0, .ref (qn 0)), (7, .long x7), (10, .long x10)]) hx hb dX1_pairingAt_133 hl (k := 4) rfl (by rw [e_v4]; rfl) (by decide) rfl (fun ls hl => ?_)
          refine lv_goto (tgt := 15) hx hb dX1_pairingAt_136 (by decide) ?_
          exact ih15 v2 r3 x7 v4 hf _ _ hP hD hS ls (lv_sub hl [3, 2, 1, 4, 0] rfl)
        · have hf := it hf c1
          refine lv_ldc2 hx hb hown wd1 dX1_pairingAt_114 ?_
          have e0 := rt1 hf
          exact W.lret (v := (-1 : Int64)) hx hb hr (fun t ht hW => ⟨⟨(-1 : Int64), (), rfl, e0, by rw [ht]; exact hP, va_K.moved hW.alike hK, by rw [hAe]; exact hD⟩, hS.F ht⟩) hS.2.2 dX1_pairingAt_117
      have B34 : ∀ (n34 : Nat), ∀ (x3 : Int64) (x5 : Int64) (x7 : Int64) (x9 : Int32) (x10 : Int64) (x12 : Int64) (x14 : Int32), f_X1_pairingAt_b34 n_lows n_highs n_linesAt n_lineCount p1 p2 (f_X1_pairingAt_b15 n_lows n_highs n_linesAt n_lineCount p1 p2 n15) n34 x3 x5 x7 x9 x10 x12 x14 = some (rv) → ∀ (H : Heap) (locs : List Loc), va_P G vwCl [(qn 0, oX1 qn n_pointCount n_lineCount n_tideNow n_age), (qn 3, .inl (Y 0, 40, .inl n_lows)), (qn 4, .inl (Y 0, 40, .inl n_highs)), (qn 7, .inl (Y 1, 12, .inr (.inl n_linesAt)))] H → va_D A [(qn 0, oX1 qn n_pointCount n_lineCount n_tideNow n_age), (qn 3, .inl (Y 0, 40, .inl n_lows)), (qn 4, .inl (Y 0, 40, .inl n_highs)), (qn 7, .inl (Y 1, 12, .inr (.inl n_linesAt)))] → va_S A s.heap H locs → ∀ (ls : Array Slot), lv_has ls 19 [(0, .ref (qn 0)), (3, .long x3), (5, .long x5), (7, .long x7), (9, .int x9), (10, .long x10), (12, .long x12), (14, .int x14)] → W p l e (headSpec wsX1_pairingAt (rmk 19 573)).room s m [.ref (qn 0), .int p1, .int p2].toArray below meth c H locs 0 0 (MQ below (va_Ql (fun (r : Int64) (_ : Unit) => r = rv) (Pst G (tys Y) [(qn 0, oX1 qn n_pointCount n_lineCount n_tideNow n_age), (qn 3, .inl (Y 0, 40, .inl n_lows)), (qn 4, .inl (Y 0, 40, .inl n_highs)), (qn 7, .inl (Y 1, 12, .inr (.inl n_linesAt)))] s.heap.size [(qn 0, oX1 qn n_pointCount n_lineCount n_tideNow n_age), (qn 3, .inl (Y 0, 40, .inl n_lows)), (qn 4, .inl (Y 0, 40, .inl n_highs)), (qn 7, .inl (Y 1, 12, .inr (.inl n_linesAt)))]) A) [.ref (qn 0), .int p1, .int p2].toArray s 0 0 A) (F0 m 34 ls []) := by
        intro n34
        induction n34 with
        | zero =>
          intro x3 x5 x7 x9 x10 x12 x14 hf H locs hP hD hS ls hl
          exact no_none hf
        | succ n34 ih34 =>
          intro x3 x5 x7 x9 x10 x12 x14 hf H locs hP hD hS ls hl
          have hf : f_X1_pairingAt_s34 n_lows n_highs n_linesAt n_lineCount p1 p2 (f_X1_pairingAt_b15 n_lows n_highs n_linesAt n_lineCount p1 p2 n15) (f_X1_pairingAt_b34 n_lows n_highs n_linesAt n_lineCount p1 p2 (f_X1_pairingAt_b15 n_lows n_highs n_linesAt n_lineCount p1 p2 n15) n34) x3 x5 x7 x9 x10 x12 x14 = some (rv) := hf
          unfold f_X1_pairingAt_s34 at hf
          refine lv_iload hx hb dX1_pairingAt_34 (lv_at hl 7 rfl) ?_
          refine lv_if_le (tgt := 107) hx hb dX1_pairingAt_36 (by decide) (fun c5 => ?_) (fun c5 => ?_)
          · have hf := it hf c5
            exact B107 x3 x5 x7 x9 x10 hf _ _ hP hD hS ls (lv_sub hl [0, 1, 2, 3, 4, 5] rfl)
          · have hf := ie hf c5
            refine lv_lload hx hb dX1_pairingAt_39 (lv_at hl 5 rfl) ?_
            refine lv_lconst (v := 0) hx hb dX1_pairingAt_41 (by decide) ?_
            refine W.lcmp hx hb dX1_pairingAt_42 ?_
            refine lv_if_ne (tgt := 107) hx hb dX1_pairingAt_43 (by decide) (fun c6 => ?_) (fun c6 => ?_)
            · have hf := ie hf c6
              exact B107 x3 x5 x7 x9 x10 hf _ _ hP hD hS ls (lv_sub hl [0, 1, 2, 3, 4, 5] rfl)
            · have hf := it hf c6
              refine lv_lload hx hb dX1_pairingAt_46 (lv_at hl 6 rfl) ?_
              refine lv_lload hx hb dX1_pairingAt_48 (lv_at hl 6 rfl) ?_
              refine lv_lneg hx hb dX1_pairingAt_50 ?_
              refine lv_land hx hb dX1_pairingAt_51 ?_
              refine lv_topl (fun v7 e_v7 => ?_)
              have hf := nm_at hf e_v7
              refine lv_lstore (lv' := [(15, .long v7), (0, .ref (qn 0)), (3, .long x3), (5, .long x5), (7, .long x7), (9, .int x9), (10, .long x10), (12, .long x12), (14, .int x14)]) hx hb dX1_pairingAt_52 hl (by decide) rfl (fun ls hl => ?_)
              refine lv_lload hx hb dX1_pairingAt_54 (lv_at hl 7 rfl) ?_
              refine lv_lload hx hb dX1_pairingAt_56 (lv_at hl 0 rfl) ?_
              refine lv_lxor hx hb dX1_pairingAt_58 ?_
              refine lv_topl (fun v8 e_v8 => ?_)
              have hf := nm_at hf e_v8
              refine lv_lstore (lv' := [(12, .long v8), (15, .long v7), (0, .ref (qn 0)), (3, .long x3), (5, .long x5), (7, .long x7), (9, .int x9), (10, .long x10), (14, .int x14)]) hx hb dX1_pairingAt_59 hl (by decide) rfl (fun ls hl => ?_)
              refine lv_aload_n hx hb dX1_pairingAt_61 rfl (lv_at hl 2 rfl) ?_
              refine lv_aload_n hx hb dX1_pairingAt_62 rfl (lv_at hl 2 rfl) ?_
              refine lv_lload hx hb dX1_pairingAt_63 (lv_at hl 4 rfl) ?_
              refine lv_lload hx hb dX1_pairingAt_65 (lv_at hl 1 rfl) ?_
              obtain ⟨r9, hc, hf⟩ := bd1 hf
              refine cl_l (ws' := [(qn 0, oX1 qn n_pointCount n_lineCount n_tideNow n_age), (qn 3, .inl (Y 0, 40, .inl n_lows)), (qn 4, .inl (Y 0, 40, .inl n_highs)), (qn 7, .inl (Y 1, 12, .inr (.inl n_linesAt)))]) (wr := []) (rnV (As := [.long x5, .long v7]) (rest := [.ref (qn 0)]) ⟨hx, hb, hml, hown, hts⟩ (c_X1_freeBelow l G Y H.size qn n_lows n_highs n_linesAt n_pointCount n_lineCount n_tideNow n_age x5 v7 r9 hc) (cwV 2 hts gX1_pairingAt_X1_freeBelow rfl rfl rfl (by decide +kernel) ⟨(Nat.le_of_ble_eq_true rfl), (Nat.le_of_ble_eq_true rfl)⟩) trivial okT hK hP hD [0, 1, 2, 3] rfl rfl (ci := 0) (q0 := 0) rfl rfl rfl rfl hl.1 rfl (Nat.le_of_ble_eq_true rfl) dX1_pairingAt_67) hP hD hS hA [0, 1, 2, 3] [] [0, 1, 2, 3] rfl rfl rfl (by decide) rfl rfl (fun H locs hP hD hS => ?_)
              refine lv_iload hx hb dX1_pairingAt_70 (lv_at hl 6 rfl) ?_
              refine lv_iconst (v := 1) hx hb dX1_pairingAt_72 (by decide) ?_
              refine lv_isub hx hb dX1_pairingAt_73 ?_
              obtain ⟨r10, hc, hf⟩ := bd1 hf
              refine cl_l (ws' := [(qn 0, oX1 qn n_pointCount n_lineCount n_tideNow n_age), (qn 3, .inl (Y 0, 40, .inl n_lows)), (qn 4, .inl (Y 0, 40, .inl n_highs)), (qn 7, .inl (Y 1, 12, .inr (.inl n_linesAt)))]) (wr := []) (rnV (As := [.long r9, .int (x9 - (1 : Int32))]) (rest := []) ⟨hx, hb, hml, hown, hts⟩ (c_X1_pairingsIn l G Y 16 H.size qn n_lows n_highs n_linesAt n_pointCount n_lineCount n_tideNow n_age r9 (x9 - (1 : Int32)) r10 hc) (cwV 2 hts gX1_pairingAt_X1_pairingsIn rfl rfl rfl (by decide +kernel) ⟨(Nat.le_of_ble_eq_true rfl), (Nat.le_of_ble_eq_true rfl)⟩) trivial okT hK hP hD [0, 1, 2, 3] rfl rfl (ci := 0) (q0 := 0) rfl rfl rfl rfl hl.1 rfl (Nat.le_of_ble_eq_true rfl) dX1_pairingAt_74) hP hD hS hA [0, 1, 2, 3] [] [0, 1, 2, 3] rfl rfl rfl (by decide) rfl rfl (fun H locs hP hD hS => ?_)
              refine lv_lstore (lv' := [(17, .long r10), (12, .long v8), (15, .long v7), (0, .ref (qn 0)), (3, .long x3), (5, .long x5), (7, .long x7), (9, .int x9), (10, .long x10), (14, .int x14)]) hx hb dX1_pairingAt_77 hl (by decide) rfl (fun ls hl => ?_)
              refine lv_lload hx hb dX1_pairingAt_79 (lv_at hl 6 rfl) ?_
              refine lv_lload hx hb dX1_pairingAt_81 (lv_at hl 0 rfl) ?_
              refine W.lcmp hx hb dX1_pairingAt_83 ?_
              refine lv_if_ge (tgt := 94) hx hb dX1_pairingAt_84 (by decide) (fun c11 => ?_) (fun c11 => ?_)
              · have hf := it hf c11
                refine lv_lload hx hb dX1_pairingAt_94 (lv_at hl 6 rfl) ?_
                refine lv_lload hx hb dX1_pairingAt_96 (lv_at hl 0 rfl) ?_
                refine lv_lsub hx hb dX1_pairingAt_98 ?_
                refine lv_topl (fun v12 e_v12 => ?_)
                have hf := nm_at hf e_v12
                refine lv_lstore (lv' := [(7, .long v12), (17, .long r10), (12, .long v8), (15, .long v7), (0, .ref (qn 0)), (3, .long x3), (5, .long x5), (9, .int x9), (10, .long x10), (14, .int x14)]) hx hb dX1_pairingAt_99 hl (by decide) rfl (fun ls hl => ?_)
                obtain ⟨v13, e_v13⟩ : ∃ z : Int32, z = (x14 + (-1)) := ⟨_, rfl⟩
                have hf := nm_at hf e_v13
                refine lv_iinc (v := v13) (lv' := [(14, .int v13), (7, .long v12), (17, .long r10), (12, .long v8), (15, .long v7), (0, .ref (qn 0)), (3, .long x3), (5, .long x5), (9, .int x9), (10, .long x10)]) hx hb dX1_pairingAt_101 hl (k := 9) rfl (by rw [e_v13]; rfl) (by decide) rfl (fun ls hl => ?_)
                refine lv_goto (tgt := 34) hx hb dX1_pairingAt_104 (by decide) ?_
                exact ih34 x3 x5 v12 x9 x10 v8 v13 hf _ _ hP hD hS ls (lv_sub hl [5, 6, 7, 1, 8, 9, 3, 0] rfl)
              · have hf := ie hf c11
                refine lv_lload hx hb dX1_pairingAt_87 (lv_at hl 2 rfl) ?_
                refine lv_lstore (lv' := [(10, .long v7), (17, .long r10), (12, .long v8), (15, .long v7), (0, .ref (qn 0)), (3, .long x3), (5, .long x5), (7, .long x7), (9, .int x9), (14, .int x14)]) hx hb dX1_pairingAt_89 hl (by decide) rfl (fun ls hl => ?_)
                refine lv_goto (tgt := 101) hx hb dX1_pairingAt_91 (by decide) ?_
                obtain ⟨v14, e_v14⟩ : ∃ z : Int32, z = (x14 + (-1)) := ⟨_, rfl⟩
                have hf := nm_at hf e_v14
                refine lv_iinc (v := v14) (lv' := [(14, .int v14), (10, .long v7), (17, .long r10), (12, .long v8), (15, .long v7), (0, .ref (qn 0)), (3, .long x3), (5, .long x5), (7, .long x7), (9, .int x9)]) hx hb dX1_pairingAt_101 hl (k := 9) rfl (by rw [e_v14]; rfl) (by decide) rfl (fun ls hl => ?_)
                refine lv_goto (tgt := 34) hx hb dX1_pairingAt_104 (by decide) ?_
                exact ih34 x3 x5 x7 x9 v7 v8 v14 hf _ _ hP hD hS ls (lv_sub hl [5, 6, 7, 8, 9, 1, 3, 0] rfl)
      intro x3 x5 x7 x9 hf H locs hP hD hS ls hl
      have hf : f_X1_pairingAt_s15 n_lows n_highs n_linesAt n_lineCount p1 p2 (f_X1_pairingAt_b15 n_lows n_highs n_linesAt n_lineCount p1 p2  n15) x3 x5 x7 x9 = some (rv) := hf
      unfold f_X1_pairingAt_s15 at hf
      refine lv_iload hx hb dX1_pairingAt_15 (lv_at hl 4 rfl) ?_
      refine lv_if_le (tgt := 139) hx hb dX1_pairingAt_17 (by decide) (fun c15 => ?_) (fun c15 => ?_)
      · have hf := it hf c15
        refine lv_lload hx hb dX1_pairingAt_139 (lv_at hl 3 rfl) ?_
        refine lv_lconst (v := 0) hx hb dX1_pairingAt_141 (by decide) ?_
        refine W.lcmp hx hb dX1_pairingAt_142 ?_
        refine lv_if_ne (tgt := 150) hx hb dX1_pairingAt_143 (by decide) (fun c16 => ?_) (fun c16 => ?_)
        · have hf := ie hf c16
          refine lv_ldc2 hx hb hown wd1 dX1_pairingAt_150 ?_
          have e0 := rt1 hf
          exact W.lret (v := (-1 : Int64)) hx hb hr (fun t ht hW => ⟨⟨(-1 : Int64), (), rfl, e0, by rw [ht]; exact hP, va_K.moved hW.alike hK, by rw [hAe]; exact hD⟩, hS.F ht⟩) hS.2.2 dX1_pairingAt_153
        · have hf := it hf c16
          refine lv_lload_n hx hb dX1_pairingAt_146 rfl (lv_at hl 1 rfl) ?_
          refine lv_goto (tgt := 153) hx hb dX1_pairingAt_147 (by decide) ?_
          have e0 := rt1 hf
          exact W.lret (v := x3) hx hb hr (fun t ht hW => ⟨⟨x3, (), rfl, e0, by rw [ht]; exact hP, va_K.moved hW.alike hK, by rw [hAe]; exact hD⟩, hS.F ht⟩) hS.2.2 dX1_pairingAt_153
      · have hf := ie hf c15
        refine lv_lconst (v := 0) hx hb dX1_pairingAt_20 (by decide) ?_
        refine lv_lstore (lv' := [(10, .long (0 : Int64)), (0, .ref (qn 0)), (3, .long x3), (5, .long x5), (7, .long x7), (9, .int x9)]) hx hb dX1_pairingAt_21 hl (by decide) rfl (fun ls hl => ?_)
        refine lv_lload hx hb dX1_pairingAt_23 (lv_at hl 3 rfl) ?_
        refine lv_lstore (lv' := [(12, .long x5), (10, .long (0 : Int64)), (0, .ref (qn 0)), (3, .long x3), (5, .long x5), (7, .long x7), (9, .int x9)]) hx hb dX1_pairingAt_25 hl (by decide) rfl (fun ls hl => ?_)
        refine lv_lload hx hb dX1_pairingAt_27 (lv_at hl 4 rfl) ?_
        obtain ⟨r17, hc, hf⟩ := bd1 hf
        refine cl_i (ws' := [(qn 0, oX1 qn n_pointCount n_lineCount n_tideNow n_age), (qn 3, .inl (Y 0, 40, .inl n_lows)), (qn 4, .inl (Y 0, 40, .inl n_highs)), (qn 7, .inl (Y 1, 12, .inr (.inl n_linesAt)))]) (wr := [(qn 0, oX1 qn n_pointCount n_lineCount n_tideNow n_age), (qn 3, .inl (Y 0, 40, .inl n_lows)), (qn 4, .inl (Y 0, 40, .inl n_highs)), (qn 7, .inl (Y 1, 12, .inr (.inl n_linesAt)))]) (rnS (As := [.long x5]) (rest := []) ⟨hx, hb, hml, hown, hts⟩ (c_J13_bitCount_95d88 l G Y H.size x5 r17 hc) (va_cwS 1 hts gX1_pairingAt_J13_bitCount_95d88 rfl rfl rfl (by decide +kernel) ⟨(Nat.le_of_ble_eq_true rfl), (Nat.le_of_ble_eq_true rfl)⟩) trivial okT hK hP hD [] rfl rfl rfl hl.1 rfl (Nat.le_of_ble_eq_true rfl) dX1_pairingAt_29) hP hD hS hA [] [0, 1, 2, 3] [0, 1, 2, 3] rfl rfl rfl (by decide) rfl rfl (fun H locs hP hD hS => ?_)
        refine lv_istore (lv' := [(14, .int r17), (12, .long x5), (10, .long (0 : Int64)), (0, .ref (qn 0)), (3, .long x3), (5, .long x5), (7, .long x7), (9, .int x9)]) hx hb dX1_pairingAt_32 hl (by decide) rfl (fun ls hl => ?_)
        exact B34 70 x3 x5 x7 x9 (0 : Int64) x5 r17 hf _ _ hP hD hS ls (lv_sub hl [3, 4, 5, 6, 7, 2, 1, 0] rfl)
  have E0 : ∀ (H : Heap) (locs : List Loc), va_P G vwCl [(qn 0, oX1 qn n_pointCount n_lineCount n_tideNow n_age), (qn 3, .inl (Y 0, 40, .inl n_lows)), (qn 4, .inl (Y 0, 40, .inl n_highs)), (qn 7, .inl (Y 1, 12, .inr (.inl n_linesAt)))] H → va_D A [(qn 0, oX1 qn n_pointCount n_lineCount n_tideNow n_age), (qn 3, .inl (Y 0, 40, .inl n_lows)), (qn 4, .inl (Y 0, 40, .inl n_highs)), (qn 7, .inl (Y 1, 12, .inr (.inl n_linesAt)))] → va_S A s.heap H locs → ∀ (ls : Array Slot), lv_has ls 19 [(0, .ref (qn 0)), (1, .int p1), (2, .int p2)] → W p l e (headSpec wsX1_pairingAt (rmk 19 573)).room s m [.ref (qn 0), .int p1, .int p2].toArray below meth c H locs 0 0 (MQ below (va_Ql (fun (r : Int64) (_ : Unit) => r = rv) (Pst G (tys Y) [(qn 0, oX1 qn n_pointCount n_lineCount n_tideNow n_age), (qn 3, .inl (Y 0, 40, .inl n_lows)), (qn 4, .inl (Y 0, 40, .inl n_highs)), (qn 7, .inl (Y 1, 12, .inr (.inl n_linesAt)))] s.heap.size [(qn 0, oX1 qn n_pointCount n_lineCount n_tideNow n_age), (qn 3, .inl (Y 0, 40, .inl n_lows)), (qn 4, .inl (Y 0, 40, .inl n_highs)), (qn 7, .inl (Y 1, 12, .inr (.inl n_linesAt)))]) A) [.ref (qn 0), .int p1, .int p2].toArray s 0 0 A) (F0 m 0 ls []) := by
    intro H locs hP hD hS ls hl
    unfold f_X1_pairingAt at hf
    refine lv_lconst (v := 0) hx hb dX1_pairingAt_0 (by decide) ?_
    refine lv_lstore_n (lv' := [(3, .long (0 : Int64)), (0, .ref (qn 0)), (1, .int p1), (2, .int p2)]) hx hb dX1_pairingAt_1 rfl hl (by decide) rfl (fun ls hl => ?_)
    refine lv_aload_n hx hb dX1_pairingAt_2 rfl (lv_at hl 1 rfl) ?_
    obtain ⟨r18, hc, hf⟩ := bd1 hf
    refine cl_l (ws' := [(qn 0, oX1 qn n_pointCount n_lineCount n_tideNow n_age), (qn 3, .inl (Y 0, 40, .inl n_lows)), (qn 4, .inl (Y 0, 40, .inl n_highs)), (qn 7, .inl (Y 1, 12, .inr (.inl n_linesAt)))]) (wr := [(qn 3, .inl (Y 0, 40, .inl n_lows)), (qn 4, .inl (Y 0, 40, .inl n_highs)), (qn 7, .inl (Y 1, 12, .inr (.inl n_linesAt)))]) (rnV (As := []) (rest := []) ⟨hx, hb, hml, hown, hts⟩ (c_X1_allLines l G Y H.size qn n_pointCount n_lineCount n_tideNow n_age r18 hc) (cwV 0 hts gX1_pairingAt_X1_allLines rfl rfl rfl (by decide +kernel) ⟨(Nat.le_of_ble_eq_true rfl), (Nat.le_of_ble_eq_true rfl)⟩) trivial okT hK hP hD [0] rfl rfl (ci := 0) (q0 := 0) rfl rfl rfl rfl hl.1 rfl (Nat.le_of_ble_eq_true rfl) dX1_pairingAt_3) hP hD hS hA [0] [1, 2, 3] [3, 0, 1, 2] rfl rfl rfl (by decide) rfl rfl (fun H locs hP hD hS => ?_)
    refine lv_lstore (lv' := [(5, .long r18), (3, .long (0 : Int64)), (0, .ref (qn 0)), (1, .int p1), (2, .int p2)]) hx hb dX1_pairingAt_6 hl (by decide) rfl (fun ls hl => ?_)
    refine lv_iload_n hx hb dX1_pairingAt_8 rfl (lv_at hl 4 rfl) ?_
    refine lv_i2l hx hb dX1_pairingAt_9 rfl ?_
    refine lv_topl (fun v19 e_v19 => ?_)
    have hf := nm_at hf e_v19
    refine lv_lstore (lv' := [(7, .long v19), (5, .long r18), (3, .long (0 : Int64)), (0, .ref (qn 0)), (1, .int p1), (2, .int p2)]) hx hb dX1_pairingAt_10 hl (by decide) rfl (fun ls hl => ?_)
    refine lv_iload_n hx hb dX1_pairingAt_12 rfl (lv_at hl 4 rfl) ?_
    refine lv_istore (lv' := [(9, .int p1), (7, .long v19), (5, .long r18), (3, .long (0 : Int64)), (0, .ref (qn 0)), (1, .int p1), (2, .int p2)]) hx hb dX1_pairingAt_13 hl (by decide) rfl (fun ls hl => ?_)
    exact B15 70 (0 : Int64) r18 v19 p1 hf _ _ hP hD hS ls (lv_sub hl [4, 3, 2, 1, 0] rfl)
  exact E0 s.heap [] hP hD hS ls hl
-- X1_drawn
set_option maxRecDepth 100000 in
set_option maxHeartbeats 4000000 in
theorem c_X1_drawn (l : Launch) (G : va_G) (Y : Nat → ClassId) (sz : Nat) (qn : Nat → Nat) (n_lows : Nat → Int32) (n_highs : Nat → Int32) (n_linesAt : Nat → Int64) (n_pointCount : Int32) (n_lineCount : Int32) (n_tideNow : Int32) (n_age : Int32) (p1 : Int32) (p2 : Int32) (rv : Int64) (hf : f_X1_drawn n_lows n_highs n_linesAt n_lineCount p1 p2 = some (rv)) : Met l yX1_drawn wsX1_drawn (rmk 1 21) (va_Pc [.ref (qn 0), .int p1, .int p2] (Pre G (tys Y) [(qn 0, oX1 qn n_pointCount n_lineCount n_tideNow n_age), (qn 3, .inl (Y 0, 40, .inl n_lows)), (qn 4, .inl (Y 0, 40, .inl n_highs)), (qn 7, .inl (Y 1, 12, .inr (.inl n_linesAt)))] sz xT)) (va_Ql (fun (r : Int64) (_ : Unit) => r = rv) (Pst G (tys Y) [(qn 0, oX1 qn n_pointCount n_lineCount n_tideNow n_age), (qn 3, .inl (Y 0, 40, .inl n_lows)), (qn 4, .inl (Y 0, 40, .inl n_highs)), (qn 7, .inl (Y 1, 12, .inr (.inl n_linesAt)))] sz [(qn 0, oX1 qn n_pointCount n_lineCount n_tideNow n_age), (qn 3, .inl (Y 0, 40, .inl n_lows)), (qn 4, .inl (Y 0, 40, .inl n_highs)), (qn 7, .inl (Y 1, 12, .inr (.inl n_linesAt)))]) (va_A [(qn 0, oX1 qn n_pointCount n_lineCount n_tideNow n_age), (qn 3, .inl (Y 0, 40, .inl n_lows)), (qn 4, .inl (Y 0, 40, .inl n_highs)), (qn 7, .inl (Y 1, 12, .inr (.inl n_linesAt)))] sz)) 0 0 (va_A [(qn 0, oX1 qn n_pointCount n_lineCount n_tideNow n_age), (qn 3, .inl (Y 0, 40, .inl n_lows)), (qn 4, .inl (Y 0, 40, .inl n_highs)), (qn 7, .inl (Y 1, 12, .inr (.inl n_linesAt)))] sz) := by
  refine Met.ofW (cc := cX1_drawn) (maxL := 7) (ret := (some .long)) (by decide) rfl ?_
  intro p e s m args below meth c s₁ B hml hv
  obtain ⟨rfl, hsz, hP, hK, hD0, hX⟩ := hv
  have hx := B.exec
  have hb := B.bytes
  have hr := B.returns
  have hts := atoms_spec (ws := wsX1_drawn) B.pre
  have hown : s.vm.findClass RX1 = some m.cls := findClass_of_methodNamed B.named
  have hlocks := B.notSynchronized
  subst hsz
  have hD := hD0.self (sz := s.heap.size)
  generalize hAe : va_A [(qn 0, oX1 qn n_pointCount n_lineCount n_tideNow n_age), (qn 3, .inl (Y 0, 40, .inl n_lows)), (qn 4, .inl (Y 0, 40, .inl n_highs)), (qn 7, .inl (Y 1, 12, .inr (.inl n_linesAt)))] s.heap.size = A at hD ⊢
  have hA : ∀ q : Nat, s.heap.size ≤ q → A q := fun q h => by rw [← hAe]; exact Or.inr h
  have hS : va_S A s.heap s.heap [] := va_S.rf
  have hP : va_P G vwCl [(qn 0, oX1 qn n_pointCount n_lineCount n_tideNow n_age), (qn 3, .inl (Y 0, 40, .inl n_lows)), (qn 4, .inl (Y 0, 40, .inl n_highs)), (qn 7, .inl (Y 1, 12, .inr (.inl n_linesAt)))] s.heap := hP
  have wd1 : (Cond.fieldLink RX1 38 "PairedLines$Net" "lineCount" "I").before [.ref (qn 0), .int p1, .int p2].toArray s = true := hts _ (List.mem_of_getElem? (i := 1) rfl)
  have wd2 : (Cond.constant RX1 129 (1103515245)).before [.ref (qn 0), .int p1, .int p2].toArray s = true := hts _ (List.mem_of_getElem? (i := 2) rfl)
  have inX1w : ∀ w ∈ u_ws RX1 TX1 11, w ∈ wsX1_drawn := fun w hw => List.mem_cons_of_mem _ (List.mem_append_right _ (hw))
  have hl := lv_entry ([.ref (qn 0), .int p1, .int p2]) (n := 7) (Nat.le_of_ble_eq_true rfl)
  rw [lg_entry_eq]
  generalize (lg_sl ([.ref (qn 0), .int p1, .int p2]) ++ List.replicate (7 - (lg_sl ([.ref (qn 0), .int p1, .int p2])).length) Slot.unset).toArray = ls at hl ⊢
  have hl : lv_has ls 7 [(0, .ref (qn 0)), (1, .int p1), (2, .int p2)] := hl
  have B8 : ∀ (n8 : Nat), ∀ (x3 : Int32) (x4 : Int64) (x6 : Int32), f_X1_drawn_b8 n_lows n_highs n_linesAt n_lineCount p1 p2 n8 x3 x4 x6 = some (rv) → ∀ (H : Heap) (locs : List Loc), va_P G vwCl [(qn 0, oX1 qn n_pointCount n_lineCount n_tideNow n_age), (qn 3, .inl (Y 0, 40, .inl n_lows)), (qn 4, .inl (Y 0, 40, .inl n_highs)), (qn 7, .inl (Y 1, 12, .inr (.inl n_linesAt)))] H → va_D A [(qn 0, oX1 qn n_pointCount n_lineCount n_tideNow n_age), (qn 3, .inl (Y 0, 40, .inl n_lows)), (qn 4, .inl (Y 0, 40, .inl n_highs)), (qn 7, .inl (Y 1, 12, .inr (.inl n_linesAt)))] → va_S A s.heap H locs → ∀ (ls : Array Slot), lv_has ls 7 [(0, .ref (qn 0)), (2, .int p2), (3, .int x3), (4, .long x4), (6, .int x6)] → W p l e (headSpec wsX1_drawn (rmk 1 21)).room s m [.ref (qn 0), .int p1, .int p2].toArray below meth c H locs 0 0 (MQ below (va_Ql (fun (r : Int64) (_ : Unit) => r = rv) (Pst G (tys Y) [(qn 0, oX1 qn n_pointCount n_lineCount n_tideNow n_age), (qn 3, .inl (Y 0, 40, .inl n_lows)), (qn 4, .inl (Y 0, 40, .inl n_highs)), (qn 7, .inl (Y 1, 12, .inr (.inl n_linesAt)))] s.heap.size [(qn 0, oX1 qn n_pointCount n_lineCount n_tideNow n_age), (qn 3, .inl (Y 0, 40, .inl n_lows)), (qn 4, .inl (Y 0, 40, .inl n_highs)), (qn 7, .inl (Y 1, 12, .inr (.inl n_linesAt)))]) A) [.ref (qn 0), .int p1, .int p2].toArray s 0 0 A) (F0 m 8 ls []) := by
    intro n8
    induction n8 with
    | zero =>
      intro x3 x4 x6 hf H locs hP hD hS ls hl
      exact no_none hf
    | succ n8 ih8 =>
      intro x3 x4 x6 hf H locs hP hD hS ls hl
      have hf : f_X1_drawn_s8 n_lows n_highs n_linesAt n_lineCount p1 p2 (f_X1_drawn_b8 n_lows n_highs n_linesAt n_lineCount p1 p2  n8) x3 x4 x6 = some (rv) := hf
      unfold f_X1_drawn_s8 at hf
      refine lv_iload hx hb dX1_drawn_8 (lv_at hl 4 rfl) ?_
      refine lv_aload_n hx hb dX1_drawn_10 rfl (lv_at hl 0 rfl) ?_
      refine va_get (D := G) (ci := 0) (v := .int n_lineCount) (C := RX1) (T := TX1) (N := 11) hx hb hts inX1w hown hK hP 0 rfl rfl 8 (by decide) wd1 (fun _ h9 => h9) rfl dX1_drawn_11 ?_
      refine lv_icmp_ge (tgt := 66) hx hb dX1_drawn_14 (by decide) (fun c1 => ?_) (fun c1 => ?_)
      · have hf := it hf c1
        refine lv_lload hx hb dX1_drawn_66 (lv_at hl 3 rfl) ?_
        have e0 := rt1 hf
        exact W.lret (v := x4) hx hb hr (fun t ht hW => ⟨⟨x4, (), rfl, e0, by rw [ht]; exact hP, va_K.moved hW.alike hK, by rw [hAe]; exact hD⟩, hS.F ht⟩) hS.2.2 dX1_drawn_68
      · have hf := ie hf c1
        refine lv_aload_n hx hb dX1_drawn_17 rfl (lv_at hl 0 rfl) ?_
        refine lv_iload hx hb dX1_drawn_18 (lv_at hl 4 rfl) ?_
        obtain ⟨r2, hc, hf⟩ := bd1 hf
        refine cl_l (ws' := [(qn 0, oX1 qn n_pointCount n_lineCount n_tideNow n_age), (qn 3, .inl (Y 0, 40, .inl n_lows)), (qn 4, .inl (Y 0, 40, .inl n_highs)), (qn 7, .inl (Y 1, 12, .inr (.inl n_linesAt)))]) (wr := []) (rnV (As := [.int x6]) (rest := []) ⟨hx, hb, hml, hown, hts⟩ (c_X1_meeting l G Y H.size qn n_lows n_highs n_linesAt n_pointCount n_lineCount n_tideNow n_age x6 r2 hc) (cwV 1 hts gX1_drawn_X1_meeting rfl rfl rfl (by decide +kernel) ⟨(Nat.le_of_ble_eq_true rfl), (Nat.le_of_ble_eq_true rfl)⟩) trivial okT hK hP hD [0, 1, 2, 3] rfl rfl (ci := 0) (q0 := 0) rfl rfl rfl rfl hl.1 rfl (Nat.le_of_ble_eq_true rfl) dX1_drawn_20) hP hD hS hA [0, 1, 2, 3] [] [0, 1, 2, 3] rfl rfl rfl (by decide) rfl rfl (fun H locs hP hD hS => ?_)
        refine lv_lload hx hb dX1_drawn_23 (lv_at hl 3 rfl) ?_
        refine lv_land hx hb dX1_drawn_25 ?_
        refine lv_lconst (v := 0) hx hb dX1_drawn_26 (by decide) ?_
        refine W.lcmp hx hb dX1_drawn_27 ?_
        refine lv_if_ne (tgt := 60) hx hb dX1_drawn_28 (by decide) (fun c3 => ?_) (fun c3 => ?_)
        · have hf := ie hf c3
          obtain ⟨v4, e_v4⟩ : ∃ z : Int32, z = (x6 + 1) := ⟨_, rfl⟩
          have hf := nm_at hf e_v4
          refine lv_iinc (v := v4) (lv' := [(6, .int v4), (0, .ref (qn 0)), (2, .int p2), (3, .int x3), (4, .long x4)]) hx hb dX1_drawn_60 hl (k := 4) rfl (by rw [e_v4]; rfl) (by decide) rfl (fun ls hl => ?_)
          refine lv_goto (tgt := 8) hx hb dX1_drawn_63 (by decide) ?_
          exact ih8 x3 x4 v4 hf _ _ hP hD hS ls (lv_sub hl [1, 2, 3, 4, 0] rfl)
        · have hf := it hf c3
          refine lv_iload_n hx hb dX1_drawn_31 rfl (lv_at hl 2 rfl) ?_
          refine lv_ldc hx hb hown wd2 dX1_drawn_32 ?_
          refine lv_imul hx hb dX1_drawn_34 ?_
          refine lv_sipush (v := 12345) hx hb dX1_drawn_35 (by decide) ?_
          refine lv_iadd hx hb dX1_drawn_38 ?_
          refine lv_topi (fun v5 e_v5 => ?_)
          have hf := nm_at hf e_v5
          refine lv_istore_n (lv' := [(3, .int v5), (0, .ref (qn 0)), (2, .int p2), (4, .long x4), (6, .int x6)]) hx hb dX1_drawn_39 rfl hl (by decide) rfl (fun ls hl => ?_)
          refine lv_iload_n hx hb dX1_drawn_40 rfl (lv_at hl 0 rfl) ?_
          refine lv_bipush (v := 8) hx hb dX1_drawn_41 (by decide) ?_
          refine lv_iushr hx hb dX1_drawn_43 rfl ?_
          refine lv_bipush (v := 10) hx hb dX1_drawn_44 (by decide) ?_
          obtain ⟨g6, hf⟩ := gd hf
          refine lv_irem hx hb dX1_drawn_46 g6 ?_
          refine lv_iload_n hx hb dX1_drawn_47 rfl (lv_at hl 2 rfl) ?_
          refine lv_icmp_ge (tgt := 60) hx hb dX1_drawn_48 (by decide) (fun c7 => ?_) (fun c7 => ?_)
          · have hf := it hf c7
            obtain ⟨v8, e_v8⟩ : ∃ z : Int32, z = (x6 + 1) := ⟨_, rfl⟩
            have hf := nm_at hf e_v8
            refine lv_iinc (v := v8) (lv' := [(6, .int v8), (3, .int v5), (0, .ref (qn 0)), (2, .int p2), (4, .long x4)]) hx hb dX1_drawn_60 hl (k := 4) rfl (by rw [e_v8]; rfl) (by decide) rfl (fun ls hl => ?_)
            refine lv_goto (tgt := 8) hx hb dX1_drawn_63 (by decide) ?_
            exact ih8 v5 x4 v8 hf _ _ hP hD hS ls (lv_sub hl [2, 3, 1, 4, 0] rfl)
          · have hf := ie hf c7
            refine lv_lload hx hb dX1_drawn_51 (lv_at hl 3 rfl) ?_
            refine lv_lconst (v := 1) hx hb dX1_drawn_53 (by decide) ?_
            refine lv_iload hx hb dX1_drawn_54 (lv_at hl 4 rfl) ?_
            refine lv_lshl hx hb dX1_drawn_56 rfl ?_
            refine lv_lor hx hb dX1_drawn_57 ?_
            refine lv_topl (fun v9 e_v9 => ?_)
            have hf := nm_at hf e_v9
            refine lv_lstore (lv' := [(4, .long v9), (3, .int v5), (0, .ref (qn 0)), (2, .int p2), (6, .int x6)]) hx hb dX1_drawn_58 hl (by decide) rfl (fun ls hl => ?_)
            obtain ⟨v10, e_v10⟩ : ∃ z : Int32, z = (x6 + 1) := ⟨_, rfl⟩
            have hf := nm_at hf e_v10
            refine lv_iinc (v := v10) (lv' := [(6, .int v10), (4, .long v9), (3, .int v5), (0, .ref (qn 0)), (2, .int p2)]) hx hb dX1_drawn_60 hl (k := 4) rfl (by rw [e_v10]; rfl) (by decide) rfl (fun ls hl => ?_)
            refine lv_goto (tgt := 8) hx hb dX1_drawn_63 (by decide) ?_
            exact ih8 v5 v9 v10 hf _ _ hP hD hS ls (lv_sub hl [3, 4, 2, 1, 0] rfl)
  have E0 : ∀ (H : Heap) (locs : List Loc), va_P G vwCl [(qn 0, oX1 qn n_pointCount n_lineCount n_tideNow n_age), (qn 3, .inl (Y 0, 40, .inl n_lows)), (qn 4, .inl (Y 0, 40, .inl n_highs)), (qn 7, .inl (Y 1, 12, .inr (.inl n_linesAt)))] H → va_D A [(qn 0, oX1 qn n_pointCount n_lineCount n_tideNow n_age), (qn 3, .inl (Y 0, 40, .inl n_lows)), (qn 4, .inl (Y 0, 40, .inl n_highs)), (qn 7, .inl (Y 1, 12, .inr (.inl n_linesAt)))] → va_S A s.heap H locs → ∀ (ls : Array Slot), lv_has ls 7 [(0, .ref (qn 0)), (1, .int p1), (2, .int p2)] → W p l e (headSpec wsX1_drawn (rmk 1 21)).room s m [.ref (qn 0), .int p1, .int p2].toArray below meth c H locs 0 0 (MQ below (va_Ql (fun (r : Int64) (_ : Unit) => r = rv) (Pst G (tys Y) [(qn 0, oX1 qn n_pointCount n_lineCount n_tideNow n_age), (qn 3, .inl (Y 0, 40, .inl n_lows)), (qn 4, .inl (Y 0, 40, .inl n_highs)), (qn 7, .inl (Y 1, 12, .inr (.inl n_linesAt)))] s.heap.size [(qn 0, oX1 qn n_pointCount n_lineCount n_tideNow n_age), (qn 3, .inl (Y 0, 40, .inl n_lows)), (qn 4, .inl (Y 0, 40, .inl n_highs)), (qn 7, .inl (Y 1, 12, .inr (.inl n_linesAt)))]) A) [.ref (qn 0), .int p1, .int p2].toArray s 0 0 A) (F0 m 0 ls []) := by
    intro H locs hP hD hS ls hl
    unfold f_X1_drawn at hf
    refine lv_iload_n hx hb dX1_drawn_0 rfl (lv_at hl 1 rfl) ?_
    refine lv_istore_n (lv' := [(3, .int p1), (0, .ref (qn 0)), (1, .int p1), (2, .int p2)]) hx hb dX1_drawn_1 rfl hl (by decide) rfl (fun ls hl => ?_)
    refine lv_lconst (v := 0) hx hb dX1_drawn_2 (by decide) ?_
    refine lv_lstore (lv' := [(4, .long (0 : Int64)), (3, .int p1), (0, .ref (qn 0)), (1, .int p1), (2, .int p2)]) hx hb dX1_drawn_3 hl (by decide) rfl (fun ls hl => ?_)
    refine lv_iconst (v := 0) hx hb dX1_drawn_5 (by decide) ?_
    refine lv_istore (lv' := [(6, .int (0 : Int32)), (4, .long (0 : Int64)), (3, .int p1), (0, .ref (qn 0)), (1, .int p1), (2, .int p2)]) hx hb dX1_drawn_6 hl (by decide) rfl (fun ls hl => ?_)
    exact B8 70 p1 (0 : Int64) (0 : Int32) hf _ _ hP hD hS ls (lv_sub hl [3, 5, 2, 1, 0] rfl)
  exact E0 s.heap [] hP hD hS ls hl
-- X1_cutAt
set_option maxRecDepth 100000 in
set_option maxHeartbeats 4000000 in
theorem c_X1_cutAt (l : Launch) (G : va_G) (Y : Nat → ClassId) : ∀ (d : Nat) (sz : Nat) (qn : Nat → Nat) (n_kinds : Nat → Int32) (n_figures : Nat → Int32) (n_joins : Nat → Int32) (n_nears : Nat → Int32) (n_pointCount : Int32) (n_lineCount : Int32) (n_tideNow : Int32) (n_age : Int32) (p1 : Int32) (p2 : Int32) (p3 : Int32) (p4 : Int32) (rv : UInt32) (hf : f_X1_cutAt d n_kinds n_figures n_joins n_nears n_pointCount n_tideNow p1 p2 p3 p4 = some (rv)), Met l yX1_cutAt wsX1_cutAt (rmk (4 + d) (87 + 28 * d)) (va_Pc [.ref (qn 0), .int p1, .int p2, .int p3, .int p4] (Pre G (tys Y) [(qn 0, oX1 qn n_pointCount n_lineCount n_tideNow n_age), (qn 1, .inl (Y 0, 40, .inl n_kinds)), (qn 2, .inl (Y 0, 40, .inl n_figures)), (qn 5, .inl (Y 0, 144, .inl n_joins)), (qn 6, .inl (Y 0, 12, .inl n_nears))] sz xN)) (va_Qf (fun (r : UInt32) (_ : Unit) => r = rv) (Pst G (tys Y) [(qn 0, oX1 qn n_pointCount n_lineCount n_tideNow n_age), (qn 1, .inl (Y 0, 40, .inl n_kinds)), (qn 2, .inl (Y 0, 40, .inl n_figures)), (qn 5, .inl (Y 0, 144, .inl n_joins)), (qn 6, .inl (Y 0, 12, .inl n_nears))] sz [(qn 0, oX1 qn n_pointCount n_lineCount n_tideNow n_age), (qn 1, .inl (Y 0, 40, .inl n_kinds)), (qn 2, .inl (Y 0, 40, .inl n_figures)), (qn 5, .inl (Y 0, 144, .inl n_joins)), (qn 6, .inl (Y 0, 12, .inl n_nears))]) (va_A [(qn 0, oX1 qn n_pointCount n_lineCount n_tideNow n_age), (qn 1, .inl (Y 0, 40, .inl n_kinds)), (qn 2, .inl (Y 0, 40, .inl n_figures)), (qn 5, .inl (Y 0, 144, .inl n_joins)), (qn 6, .inl (Y 0, 12, .inl n_nears))] sz)) 0 0 (va_A [(qn 0, oX1 qn n_pointCount n_lineCount n_tideNow n_age), (qn 1, .inl (Y 0, 40, .inl n_kinds)), (qn 2, .inl (Y 0, 40, .inl n_figures)), (qn 5, .inl (Y 0, 144, .inl n_joins)), (qn 6, .inl (Y 0, 12, .inl n_nears))] sz) := by
  intro d
  induction d with
  | zero =>
    intro sz qn n_kinds n_figures n_joins n_nears n_pointCount n_lineCount n_tideNow n_age p1 p2 p3 p4 rv hf
    exact no_none hf
  | succ d ihd =>
  intro sz qn n_kinds n_figures n_joins n_nears n_pointCount n_lineCount n_tideNow n_age p1 p2 p3 p4 rv hf
  have hf : f_X1_cutAt_st (f_X1_cutAt d) n_kinds n_figures n_joins n_nears n_pointCount n_tideNow p1 p2 p3 p4 = some (rv) := hf
  refine Met.ofW (cc := cX1_cutAt) (maxL := 9) (ret := (some .float)) (by decide) rfl ?_
  intro p e s m args below meth c s₁ B hml hv
  obtain ⟨rfl, hsz, hP, hK, hD0, hX⟩ := hv
  have hx := B.exec
  have hb := B.bytes
  have hr := B.returns
  have hts := atoms_spec (ws := wsX1_cutAt) B.pre
  have hown : s.vm.findClass RX1 = some m.cls := findClass_of_methodNamed B.named
  have hlocks := B.notSynchronized
  subst hsz
  have hD := hD0.self (sz := s.heap.size)
  generalize hAe : va_A [(qn 0, oX1 qn n_pointCount n_lineCount n_tideNow n_age), (qn 1, .inl (Y 0, 40, .inl n_kinds)), (qn 2, .inl (Y 0, 40, .inl n_figures)), (qn 5, .inl (Y 0, 144, .inl n_joins)), (qn 6, .inl (Y 0, 12, .inl n_nears))] s.heap.size = A at hD ⊢
  have hA : ∀ q : Nat, s.heap.size ≤ q → A q := fun q h => by rw [← hAe]; exact Or.inr h
  have hS : va_S A s.heap s.heap [] := va_S.rf
  have hP : va_P G vwCl [(qn 0, oX1 qn n_pointCount n_lineCount n_tideNow n_age), (qn 1, .inl (Y 0, 40, .inl n_kinds)), (qn 2, .inl (Y 0, 40, .inl n_figures)), (qn 5, .inl (Y 0, 144, .inl n_joins)), (qn 6, .inl (Y 0, 12, .inl n_nears))] s.heap := hP
  have wd1 : (Cond.fieldLink RX1 27 "PairedLines$Net" "nears" "[I").before [.ref (qn 0), .int p1, .int p2, .int p3, .int p4].toArray s = true := hts _ (List.mem_of_getElem? (i := 1) rfl)
  have wd2 : (Cond.fieldLink RX1 34 "PairedLines$Net" "pointCount" "I").before [.ref (qn 0), .int p1, .int p2, .int p3, .int p4].toArray s = true := hts _ (List.mem_of_getElem? (i := 2) rfl)
  have inX1w : ∀ w ∈ u_ws RX1 TX1 11, w ∈ wsX1_cutAt := fun w hw => List.mem_cons_of_mem _ (List.mem_append_right _ (hw))
  have hl := lv_entry ([.ref (qn 0), .int p1, .int p2, .int p3, .int p4]) (n := 9) (Nat.le_of_ble_eq_true rfl)
  rw [lg_entry_eq]
  generalize (lg_sl ([.ref (qn 0), .int p1, .int p2, .int p3, .int p4]) ++ List.replicate (9 - (lg_sl ([.ref (qn 0), .int p1, .int p2, .int p3, .int p4])).length) Slot.unset).toArray = ls at hl ⊢
  have hl : lv_has ls 9 [(0, .ref (qn 0)), (1, .int p1), (2, .int p2), (3, .int p3), (4, .int p4)] := hl
  have B33 : ∀ (n33 : Nat), ∀ (x5 : Int32) (x6 : Int32) (x7 : UInt32) (x8 : Int32), f_X1_cutAt_b33 (f_X1_cutAt d) n_kinds n_figures n_joins n_nears n_pointCount n_tideNow p1 p2 p3 p4 n33 x5 x6 x7 x8 = some (rv) → ∀ (H : Heap) (locs : List Loc), va_P G vwCl [(qn 0, oX1 qn n_pointCount n_lineCount n_tideNow n_age), (qn 1, .inl (Y 0, 40, .inl n_kinds)), (qn 2, .inl (Y 0, 40, .inl n_figures)), (qn 5, .inl (Y 0, 144, .inl n_joins)), (qn 6, .inl (Y 0, 12, .inl n_nears))] H → va_D A [(qn 0, oX1 qn n_pointCount n_lineCount n_tideNow n_age), (qn 1, .inl (Y 0, 40, .inl n_kinds)), (qn 2, .inl (Y 0, 40, .inl n_figures)), (qn 5, .inl (Y 0, 144, .inl n_joins)), (qn 6, .inl (Y 0, 12, .inl n_nears))] → va_S A s.heap H locs → ∀ (ls : Array Slot), lv_has ls 9 [(0, .ref (qn 0)), (1, .int p1), (3, .int p3), (4, .int p4), (5, .int x5), (6, .int x6), (7, .float x7), (8, .int x8)] → W p l e (headSpec wsX1_cutAt (rmk (4 + (d + 1)) (87 + 28 * (d + 1)))).room s m [.ref (qn 0), .int p1, .int p2, .int p3, .int p4].toArray below meth c H locs 0 0 (MQ below (va_Qf (fun (r : UInt32) (_ : Unit) => r = rv) (Pst G (tys Y) [(qn 0, oX1 qn n_pointCount n_lineCount n_tideNow n_age), (qn 1, .inl (Y 0, 40, .inl n_kinds)), (qn 2, .inl (Y 0, 40, .inl n_figures)), (qn 5, .inl (Y 0, 144, .inl n_joins)), (qn 6, .inl (Y 0, 12, .inl n_nears))] s.heap.size [(qn 0, oX1 qn n_pointCount n_lineCount n_tideNow n_age), (qn 1, .inl (Y 0, 40, .inl n_kinds)), (qn 2, .inl (Y 0, 40, .inl n_figures)), (qn 5, .inl (Y 0, 144, .inl n_joins)), (qn 6, .inl (Y 0, 12, .inl n_nears))]) A) [.ref (qn 0), .int p1, .int p2, .int p3, .int p4].toArray s 0 0 A) (F0 m 33 ls []) := by
    intro n33
    induction n33 with
    | zero =>
      intro x5 x6 x7 x8 hf H locs hP hD hS ls hl
      exact no_none hf
    | succ n33 ih33 =>
      intro x5 x6 x7 x8 hf H locs hP hD hS ls hl
      have hf : f_X1_cutAt_s33 (f_X1_cutAt d) n_kinds n_figures n_joins n_nears n_pointCount n_tideNow p1 p2 p3 p4 (f_X1_cutAt_b33 (f_X1_cutAt d) n_kinds n_figures n_joins n_nears n_pointCount n_tideNow p1 p2 p3 p4  n33) x5 x6 x7 x8 = some (rv) := hf
      unfold f_X1_cutAt_s33 at hf
      refine lv_iload hx hb dX1_cutAt_33 (lv_at hl 7 rfl) ?_
      refine lv_aload_n hx hb dX1_cutAt_35 rfl (lv_at hl 0 rfl) ?_
      refine va_get (D := G) (ci := 0) (v := .int n_pointCount) (C := RX1) (T := TX1) (N := 11) hx hb hts inX1w hown hK hP 0 rfl rfl 7 (by decide) wd2 (fun _ h9 => h9) rfl dX1_cutAt_36 ?_
      refine lv_icmp_ge (tgt := 87) hx hb dX1_cutAt_39 (by decide) (fun c1 => ?_) (fun c1 => ?_)
      · have hf := it hf c1
        refine lv_fconst1 hx hb dX1_cutAt_87 ?_
        refine lv_fload hx hb dX1_cutAt_88 (lv_at hl 6 rfl) ?_
        obtain ⟨g2, hf⟩ := gp hf
        refine lv_fdiv hx hb dX1_cutAt_90 g2 ?_
        have e0 := rt1 hf
        exact W.fret (v := (FP.fdiv FP.fconst1 x7)) hx hb hr (fun t ht hW => ⟨⟨(FP.fdiv FP.fconst1 x7), (), rfl, e0, by rw [ht]; exact hP, va_K.moved hW.alike hK, by rw [hAe]; exact hD⟩, hS.F ht⟩) hS.2.2 dX1_cutAt_91
      · have hf := ie hf c1
        refine lv_iload hx hb dX1_cutAt_42 (lv_at hl 5 rfl) ?_
        refine lv_iload hx hb dX1_cutAt_44 (lv_at hl 7 rfl) ?_
        refine lv_ishr hx hb dX1_cutAt_46 ?_
        refine lv_iconst (v := 1) hx hb dX1_cutAt_47 (by decide) ?_
        refine lv_iand hx hb dX1_cutAt_48 ?_
        refine lv_if_eq (tgt := 81) hx hb dX1_cutAt_49 (by decide) (fun c3 => ?_) (fun c3 => ?_)
        · have hf := it hf c3
          obtain ⟨v4, e_v4⟩ : ∃ z : Int32, z = (x8 + 1) := ⟨_, rfl⟩
          have hf := nm_at hf e_v4
          refine lv_iinc (v := v4) (lv' := [(8, .int v4), (0, .ref (qn 0)), (1, .int p1), (3, .int p3), (4, .int p4), (5, .int x5), (6, .int x6), (7, .float x7)]) hx hb dX1_cutAt_81 hl (k := 7) rfl (by rw [e_v4]; rfl) (by decide) rfl (fun ls hl => ?_)
          refine lv_goto (tgt := 33) hx hb dX1_cutAt_84 (by decide) ?_
          exact ih33 x5 x6 x7 v4 hf _ _ hP hD hS ls (lv_sub hl [1, 2, 3, 4, 5, 6, 7, 0] rfl)
        · have hf := ie hf c3
          refine lv_fload hx hb dX1_cutAt_52 (lv_at hl 6 rfl) ?_
          refine lv_iload_n hx hb dX1_cutAt_54 rfl (lv_at hl 2 rfl) ?_
          refine lv_aload_n hx hb dX1_cutAt_55 rfl (lv_at hl 0 rfl) ?_
          refine lv_iload_n hx hb dX1_cutAt_56 rfl (lv_at hl 1 rfl) ?_
          refine lv_iload hx hb dX1_cutAt_57 (lv_at hl 7 rfl) ?_
          obtain ⟨r5, hc, hf⟩ := bd1 hf
          refine cl_i (ws' := [(qn 0, oX1 qn n_pointCount n_lineCount n_tideNow n_age), (qn 1, .inl (Y 0, 40, .inl n_kinds)), (qn 2, .inl (Y 0, 40, .inl n_figures)), (qn 5, .inl (Y 0, 144, .inl n_joins)), (qn 6, .inl (Y 0, 12, .inl n_nears))]) (wr := [(qn 6, .inl (Y 0, 12, .inl n_nears))]) (rnV (As := [.int p1, .int x8]) (rest := [.int p3, .float x7]) ⟨hx, hb, hml, hown, hts⟩ (c_X1_weightBetween l G Y H.size qn n_kinds n_figures n_joins n_pointCount n_lineCount n_tideNow n_age p1 x8 r5 hc) (cwV 2 hts gX1_cutAt_X1_weightBetween rfl rfl rfl (by decide +kernel) ⟨(by first | exact Nat.le_of_ble_eq_true rfl | (show _ ≤ _ + _; simp only [List.map, List.sum_cons, List.sum_nil]; omega) | (simp [headSpec, rmk]; omega)), (by first | exact Nat.le_of_ble_eq_true rfl | (show _ ≤ _ + _; simp only [List.map, List.sum_cons, List.sum_nil]; omega) | (simp [headSpec, rmk]; omega))⟩) hX okN hK hP hD [0, 1, 2, 3] rfl rfl (ci := 0) (q0 := 0) rfl rfl rfl rfl hl.1 rfl (Nat.le_of_ble_eq_true rfl) dX1_cutAt_59) hP hD hS hA [0, 1, 2, 3] [4] [1, 2, 3, 4, 0] rfl rfl rfl (by decide) rfl rfl (fun H locs hP hD hS => ?_)
          refine lv_imul hx hb dX1_cutAt_62 ?_
          refine lv_i2f hx hb dX1_cutAt_63 ?_
          refine lv_aload_n hx hb dX1_cutAt_64 rfl (lv_at hl 0 rfl) ?_
          refine lv_iload hx hb dX1_cutAt_65 (lv_at hl 7 rfl) ?_
          refine lv_iload hx hb dX1_cutAt_67 (lv_at hl 4 rfl) ?_
          refine lv_iload_n hx hb dX1_cutAt_69 rfl (lv_at hl 2 rfl) ?_
          refine lv_iload hx hb dX1_cutAt_70 (lv_at hl 3 rfl) ?_
          refine lv_iconst (v := 1) hx hb dX1_cutAt_72 (by decide) ?_
          refine lv_isub hx hb dX1_cutAt_73 ?_
          obtain ⟨r6, hc, hf⟩ := bd1 hf
          refine cl_f (ws' := [(qn 0, oX1 qn n_pointCount n_lineCount n_tideNow n_age), (qn 1, .inl (Y 0, 40, .inl n_kinds)), (qn 2, .inl (Y 0, 40, .inl n_figures)), (qn 5, .inl (Y 0, 144, .inl n_joins)), (qn 6, .inl (Y 0, 12, .inl n_nears))]) (wr := []) (rnV (As := [.int x8, .int x5, .int p3, .int (p4 - (1 : Int32))]) (rest := [.float (FP.i2f (p3 * r5)), .float x7]) ⟨hx, hb, hml, hown, hts⟩ (ihd H.size qn n_kinds n_figures n_joins n_nears n_pointCount n_lineCount n_tideNow n_age x8 x5 p3 (p4 - (1 : Int32)) r6 hc) (cwV 4 hts gX1_cutAt_X1_cutAt rfl rfl rfl (by decide +kernel) ⟨by show _ + _ + 1 ≤ _ + (_ + 1); omega, by show 8 + (_ + 11) + (_ + _ * _) ≤ _ + _ * (_ + 1); omega⟩) hX okN hK hP hD [0, 1, 2, 3, 4] rfl rfl (ci := 0) (q0 := 0) rfl rfl rfl rfl hl.1 rfl (Nat.le_of_ble_eq_true rfl) dX1_cutAt_74) hP hD hS hA [0, 1, 2, 3, 4] [] [0, 1, 2, 3, 4] rfl rfl rfl (by decide) rfl rfl (fun H locs hP hD hS => ?_)
          obtain ⟨g7, hf⟩ := gp hf
          refine lv_fmul hx hb dX1_cutAt_77 g7 ?_
          obtain ⟨g8, hf⟩ := gp hf
          refine lv_fadd hx hb dX1_cutAt_78 g8 ?_
          refine lv_topf (fun v9 e_v9 => ?_)
          have hf := nm_at hf e_v9
          refine lv_fstore (lv' := [(7, .float v9), (0, .ref (qn 0)), (1, .int p1), (3, .int p3), (4, .int p4), (5, .int x5), (6, .int x6), (8, .int x8)]) hx hb dX1_cutAt_79 hl (by decide) rfl (fun ls hl => ?_)
          obtain ⟨v10, e_v10⟩ : ∃ z : Int32, z = (x8 + 1) := ⟨_, rfl⟩
          have hf := nm_at hf e_v10
          refine lv_iinc (v := v10) (lv' := [(8, .int v10), (7, .float v9), (0, .ref (qn 0)), (1, .int p1), (3, .int p3), (4, .int p4), (5, .int x5), (6, .int x6)]) hx hb dX1_cutAt_81 hl (k := 7) rfl (by rw [e_v10]; rfl) (by decide) rfl (fun ls hl => ?_)
          refine lv_goto (tgt := 33) hx hb dX1_cutAt_84 (by decide) ?_
          exact ih33 x5 x6 v9 v10 hf _ _ hP hD hS ls (lv_sub hl [2, 3, 4, 5, 6, 7, 1, 0] rfl)
  have E0 : ∀ (H : Heap) (locs : List Loc), va_P G vwCl [(qn 0, oX1 qn n_pointCount n_lineCount n_tideNow n_age), (qn 1, .inl (Y 0, 40, .inl n_kinds)), (qn 2, .inl (Y 0, 40, .inl n_figures)), (qn 5, .inl (Y 0, 144, .inl n_joins)), (qn 6, .inl (Y 0, 12, .inl n_nears))] H → va_D A [(qn 0, oX1 qn n_pointCount n_lineCount n_tideNow n_age), (qn 1, .inl (Y 0, 40, .inl n_kinds)), (qn 2, .inl (Y 0, 40, .inl n_figures)), (qn 5, .inl (Y 0, 144, .inl n_joins)), (qn 6, .inl (Y 0, 12, .inl n_nears))] → va_S A s.heap H locs → ∀ (ls : Array Slot), lv_has ls 9 [(0, .ref (qn 0)), (1, .int p1), (2, .int p2), (3, .int p3), (4, .int p4)] → W p l e (headSpec wsX1_cutAt (rmk (4 + (d + 1)) (87 + 28 * (d + 1)))).room s m [.ref (qn 0), .int p1, .int p2, .int p3, .int p4].toArray below meth c H locs 0 0 (MQ below (va_Qf (fun (r : UInt32) (_ : Unit) => r = rv) (Pst G (tys Y) [(qn 0, oX1 qn n_pointCount n_lineCount n_tideNow n_age), (qn 1, .inl (Y 0, 40, .inl n_kinds)), (qn 2, .inl (Y 0, 40, .inl n_figures)), (qn 5, .inl (Y 0, 144, .inl n_joins)), (qn 6, .inl (Y 0, 12, .inl n_nears))] s.heap.size [(qn 0, oX1 qn n_pointCount n_lineCount n_tideNow n_age), (qn 1, .inl (Y 0, 40, .inl n_kinds)), (qn 2, .inl (Y 0, 40, .inl n_figures)), (qn 5, .inl (Y 0, 144, .inl n_joins)), (qn 6, .inl (Y 0, 12, .inl n_nears))]) A) [.ref (qn 0), .int p1, .int p2, .int p3, .int p4].toArray s 0 0 A) (F0 m 0 ls []) := by
    intro H locs hP hD hS ls hl
    unfold f_X1_cutAt_st at hf
    refine lv_iload hx hb dX1_cutAt_0 (lv_at hl 4 rfl) ?_
    refine lv_if_gt (tgt := 7) hx hb dX1_cutAt_2 (by decide) (fun c11 => ?_) (fun c11 => ?_)
    · have hf := it hf c11
      refine lv_iload_n hx hb dX1_cutAt_7 rfl (lv_at hl 2 rfl) ?_
      refine lv_iconst (v := 1) hx hb dX1_cutAt_8 (by decide) ?_
      refine lv_iload_n hx hb dX1_cutAt_9 rfl (lv_at hl 1 rfl) ?_
      refine lv_ishl hx hb dX1_cutAt_10 ?_
      refine lv_ior hx hb dX1_cutAt_11 ?_
      refine lv_topi (fun v12 e_v12 => ?_)
      have hf := nm_at hf e_v12
      refine lv_istore (lv' := [(5, .int v12), (0, .ref (qn 0)), (1, .int p1), (2, .int p2), (3, .int p3), (4, .int p4)]) hx hb dX1_cutAt_12 hl (by decide) rfl (fun ls hl => ?_)
      refine lv_aload_n hx hb dX1_cutAt_14 rfl (lv_at hl 1 rfl) ?_
      refine va_get (D := G) (ci := 0) (v := .ref (qn 6)) (C := RX1) (T := TX1) (N := 11) hx hb hts inX1w hown hK hP 0 rfl rfl 5 (by decide) wd1 (fun _ h9 => h9) rfl dX1_cutAt_15 ?_
      refine lv_iload_n hx hb dX1_cutAt_18 rfl (lv_at hl 2 rfl) ?_
      obtain ⟨g13, hf⟩ := gd hf
      refine va_iald hx hb hK hP 4 0 rfl rfl g13 dX1_cutAt_19 ?_
      refine lv_iload hx hb dX1_cutAt_20 (lv_at hl 0 rfl) ?_
      refine lv_iconst (v := -1) hx hb dX1_cutAt_22 (by decide) ?_
      refine lv_ixor hx hb dX1_cutAt_23 ?_
      refine lv_iand hx hb dX1_cutAt_24 ?_
      refine lv_topi (fun v14 e_v14 => ?_)
      have hf := nm_at hf e_v14
      refine lv_istore (lv' := [(6, .int v14), (5, .int v12), (0, .ref (qn 0)), (1, .int p1), (2, .int p2), (3, .int p3), (4, .int p4)]) hx hb dX1_cutAt_25 hl (by decide) rfl (fun ls hl => ?_)
      refine lv_fconst1 hx hb dX1_cutAt_27 ?_
      refine lv_fstore (lv' := [(7, .float FP.fconst1), (6, .int v14), (5, .int v12), (0, .ref (qn 0)), (1, .int p1), (2, .int p2), (3, .int p3), (4, .int p4)]) hx hb dX1_cutAt_28 hl (by decide) rfl (fun ls hl => ?_)
      refine lv_iconst (v := 0) hx hb dX1_cutAt_30 (by decide) ?_
      refine lv_istore (lv' := [(8, .int (0 : Int32)), (7, .float FP.fconst1), (6, .int v14), (5, .int v12), (0, .ref (qn 0)), (1, .int p1), (2, .int p2), (3, .int p3), (4, .int p4)]) hx hb dX1_cutAt_31 hl (by decide) rfl (fun ls hl => ?_)
      exact B33 70 v12 v14 FP.fconst1 (0 : Int32) hf _ _ hP hD hS ls (lv_sub hl [4, 5, 7, 8, 3, 2, 1, 0] rfl)
    · have hf := ie hf c11
      refine lv_fconst1 hx hb dX1_cutAt_5 ?_
      have e0 := rt1 hf
      exact W.fret (v := FP.fconst1) hx hb hr (fun t ht hW => ⟨⟨FP.fconst1, (), rfl, e0, by rw [ht]; exact hP, va_K.moved hW.alike hK, by rw [hAe]; exact hD⟩, hS.F ht⟩) hS.2.2 dX1_cutAt_6
  exact E0 s.heap [] hP hD hS ls hl
-- X1_cutAsBits
set_option maxRecDepth 100000 in
set_option maxHeartbeats 4000000 in
theorem c_X1_cutAsBits (l : Launch) (G : va_G) (Y : Nat → ClassId) (sz : Nat) (qn : Nat → Nat) (n_kinds : Nat → Int32) (n_figures : Nat → Int32) (n_joins : Nat → Int32) (n_nears : Nat → Int32) (n_pointCount : Int32) (n_lineCount : Int32) (n_tideNow : Int32) (n_age : Int32) (p1 : Int32) (p2 : Int32) (p3 : Int32) (p4 : Int32) (rv : Int32) (hf : f_X1_cutAsBits n_kinds n_figures n_joins n_nears n_pointCount n_tideNow p1 p2 p3 p4 = some (rv)) : Met l yX1_cutAsBits wsX1_cutAsBits (rmk 21 563) (va_Pc [.ref (qn 0), .int p1, .int p2, .int p3, .int p4] (Pre G (tys Y) [(qn 0, oX1 qn n_pointCount n_lineCount n_tideNow n_age), (qn 1, .inl (Y 0, 40, .inl n_kinds)), (qn 2, .inl (Y 0, 40, .inl n_figures)), (qn 5, .inl (Y 0, 144, .inl n_joins)), (qn 6, .inl (Y 0, 12, .inl n_nears))] sz xN)) (va_Qi (fun (r : Int32) (_ : Unit) => r = rv) (Pst G (tys Y) [(qn 0, oX1 qn n_pointCount n_lineCount n_tideNow n_age), (qn 1, .inl (Y 0, 40, .inl n_kinds)), (qn 2, .inl (Y 0, 40, .inl n_figures)), (qn 5, .inl (Y 0, 144, .inl n_joins)), (qn 6, .inl (Y 0, 12, .inl n_nears))] sz [(qn 0, oX1 qn n_pointCount n_lineCount n_tideNow n_age), (qn 1, .inl (Y 0, 40, .inl n_kinds)), (qn 2, .inl (Y 0, 40, .inl n_figures)), (qn 5, .inl (Y 0, 144, .inl n_joins)), (qn 6, .inl (Y 0, 12, .inl n_nears))]) (va_A [(qn 0, oX1 qn n_pointCount n_lineCount n_tideNow n_age), (qn 1, .inl (Y 0, 40, .inl n_kinds)), (qn 2, .inl (Y 0, 40, .inl n_figures)), (qn 5, .inl (Y 0, 144, .inl n_joins)), (qn 6, .inl (Y 0, 12, .inl n_nears))] sz)) 0 0 (va_A [(qn 0, oX1 qn n_pointCount n_lineCount n_tideNow n_age), (qn 1, .inl (Y 0, 40, .inl n_kinds)), (qn 2, .inl (Y 0, 40, .inl n_figures)), (qn 5, .inl (Y 0, 144, .inl n_joins)), (qn 6, .inl (Y 0, 12, .inl n_nears))] sz) := by
  refine Met.ofW (cc := cX1_cutAsBits) (maxL := 5) (ret := (some .int)) (by decide) rfl ?_
  intro p e s m args below meth c s₁ B hml hv
  obtain ⟨rfl, hsz, hP, hK, hD0, hX⟩ := hv
  have hx := B.exec
  have hb := B.bytes
  have hr := B.returns
  have hts := atoms_spec (ws := wsX1_cutAsBits) B.pre
  have hown : s.vm.findClass RX1 = some m.cls := findClass_of_methodNamed B.named
  have hlocks := B.notSynchronized
  subst hsz
  have hD := hD0.self (sz := s.heap.size)
  generalize hAe : va_A [(qn 0, oX1 qn n_pointCount n_lineCount n_tideNow n_age), (qn 1, .inl (Y 0, 40, .inl n_kinds)), (qn 2, .inl (Y 0, 40, .inl n_figures)), (qn 5, .inl (Y 0, 144, .inl n_joins)), (qn 6, .inl (Y 0, 12, .inl n_nears))] s.heap.size = A at hD ⊢
  have hA : ∀ q : Nat, s.heap.size ≤ q → A q := fun q h => by rw [← hAe]; exact Or.inr h
  have hS : va_S A s.heap s.heap [] := va_S.rf
  have hP : va_P G vwCl [(qn 0, oX1 qn n_pointCount n_lineCount n_tideNow n_age), (qn 1, .inl (Y 0, 40, .inl n_kinds)), (qn 2, .inl (Y 0, 40, .inl n_figures)), (qn 5, .inl (Y 0, 144, .inl n_joins)), (qn 6, .inl (Y 0, 12, .inl n_nears))] s.heap := hP
  have hl := lv_entry ([.ref (qn 0), .int p1, .int p2, .int p3, .int p4]) (n := 5) (Nat.le_of_ble_eq_true rfl)
  rw [lg_entry_eq]
  generalize (lg_sl ([.ref (qn 0), .int p1, .int p2, .int p3, .int p4]) ++ List.replicate (5 - (lg_sl ([.ref (qn 0), .int p1, .int p2, .int p3, .int p4])).length) Slot.unset).toArray = ls at hl ⊢
  have hl : lv_has ls 5 [(0, .ref (qn 0)), (1, .int p1), (2, .int p2), (3, .int p3), (4, .int p4)] := hl
  have E0 : ∀ (H : Heap) (locs : List Loc), va_P G vwCl [(qn 0, oX1 qn n_pointCount n_lineCount n_tideNow n_age), (qn 1, .inl (Y 0, 40, .inl n_kinds)), (qn 2, .inl (Y 0, 40, .inl n_figures)), (qn 5, .inl (Y 0, 144, .inl n_joins)), (qn 6, .inl (Y 0, 12, .inl n_nears))] H → va_D A [(qn 0, oX1 qn n_pointCount n_lineCount n_tideNow n_age), (qn 1, .inl (Y 0, 40, .inl n_kinds)), (qn 2, .inl (Y 0, 40, .inl n_figures)), (qn 5, .inl (Y 0, 144, .inl n_joins)), (qn 6, .inl (Y 0, 12, .inl n_nears))] → va_S A s.heap H locs → ∀ (ls : Array Slot), lv_has ls 5 [(0, .ref (qn 0)), (1, .int p1), (2, .int p2), (3, .int p3), (4, .int p4)] → W p l e (headSpec wsX1_cutAsBits (rmk 21 563)).room s m [.ref (qn 0), .int p1, .int p2, .int p3, .int p4].toArray below meth c H locs 0 0 (MQ below (va_Qi (fun (r : Int32) (_ : Unit) => r = rv) (Pst G (tys Y) [(qn 0, oX1 qn n_pointCount n_lineCount n_tideNow n_age), (qn 1, .inl (Y 0, 40, .inl n_kinds)), (qn 2, .inl (Y 0, 40, .inl n_figures)), (qn 5, .inl (Y 0, 144, .inl n_joins)), (qn 6, .inl (Y 0, 12, .inl n_nears))] s.heap.size [(qn 0, oX1 qn n_pointCount n_lineCount n_tideNow n_age), (qn 1, .inl (Y 0, 40, .inl n_kinds)), (qn 2, .inl (Y 0, 40, .inl n_figures)), (qn 5, .inl (Y 0, 144, .inl n_joins)), (qn 6, .inl (Y 0, 12, .inl n_nears))]) A) [.ref (qn 0), .int p1, .int p2, .int p3, .int p4].toArray s 0 0 A) (F0 m 0 ls []) := by
    intro H locs hP hD hS ls hl
    unfold f_X1_cutAsBits at hf
    refine lv_aload_n hx hb dX1_cutAsBits_0 rfl (lv_at hl 0 rfl) ?_
    refine lv_iload_n hx hb dX1_cutAsBits_1 rfl (lv_at hl 1 rfl) ?_
    refine lv_iload_n hx hb dX1_cutAsBits_2 rfl (lv_at hl 2 rfl) ?_
    refine lv_iload_n hx hb dX1_cutAsBits_3 rfl (lv_at hl 3 rfl) ?_
    refine lv_iload hx hb dX1_cutAsBits_4 (lv_at hl 4 rfl) ?_
    obtain ⟨r1, hc, hf⟩ := bd1 hf
    refine cl_f (ws' := [(qn 0, oX1 qn n_pointCount n_lineCount n_tideNow n_age), (qn 1, .inl (Y 0, 40, .inl n_kinds)), (qn 2, .inl (Y 0, 40, .inl n_figures)), (qn 5, .inl (Y 0, 144, .inl n_joins)), (qn 6, .inl (Y 0, 12, .inl n_nears))]) (wr := []) (rnV (As := [.int p1, .int p2, .int p3, .int p4]) (rest := []) ⟨hx, hb, hml, hown, hts⟩ (c_X1_cutAt l G Y 16 H.size qn n_kinds n_figures n_joins n_nears n_pointCount n_lineCount n_tideNow n_age p1 p2 p3 p4 r1 hc) (cwV 4 hts gX1_cutAsBits_X1_cutAt rfl rfl rfl (by decide +kernel) ⟨(Nat.le_of_ble_eq_true rfl), (Nat.le_of_ble_eq_true rfl)⟩) hX okN hK hP hD [0, 1, 2, 3, 4] rfl rfl (ci := 0) (q0 := 0) rfl rfl rfl rfl hl.1 rfl (Nat.le_of_ble_eq_true rfl) dX1_cutAsBits_6) hP hD hS hA [0, 1, 2, 3, 4] [] [0, 1, 2, 3, 4] rfl rfl rfl (by decide) rfl rfl (fun H locs hP hD hS => ?_)
    refine lv_iconst (v := 0) hx hb dX1_cutAsBits_9 (by decide) ?_
    obtain ⟨r2, hc, hf⟩ := bd1 hf
    refine cl_i (ws' := [(qn 0, oX1 qn n_pointCount n_lineCount n_tideNow n_age), (qn 1, .inl (Y 0, 40, .inl n_kinds)), (qn 2, .inl (Y 0, 40, .inl n_figures)), (qn 5, .inl (Y 0, 144, .inl n_joins)), (qn 6, .inl (Y 0, 12, .inl n_nears))]) (wr := [(qn 0, oX1 qn n_pointCount n_lineCount n_tideNow n_age), (qn 1, .inl (Y 0, 40, .inl n_kinds)), (qn 2, .inl (Y 0, 40, .inl n_figures)), (qn 5, .inl (Y 0, 144, .inl n_joins)), (qn 6, .inl (Y 0, 12, .inl n_nears))]) (rnS (As := [.float r1, .int (0 : Int32)]) (rest := []) ⟨hx, hb, hml, hown, hts⟩ (c_X0_ofFloat l G Y H.size r1 (0 : Int32) r2 hc) (va_cwS 2 hts gX1_cutAsBits_X0_ofFloat rfl rfl rfl (by decide +kernel) ⟨(Nat.le_of_ble_eq_true rfl), (Nat.le_of_ble_eq_true rfl)⟩) trivial okT hK hP hD [] rfl rfl rfl hl.1 rfl (Nat.le_of_ble_eq_true rfl) dX1_cutAsBits_10) hP hD hS hA [] [0, 1, 2, 3, 4] [0, 1, 2, 3, 4] rfl rfl rfl (by decide) rfl rfl (fun H locs hP hD hS => ?_)
    have e0 := rt1 hf
    exact W.iret (v := r2) hx hb hr (fun t ht hW => ⟨⟨r2, (), rfl, e0, by rw [ht]; exact hP, va_K.moved hW.alike hK, by rw [hAe]; exact hD⟩, hS.F ht⟩) hS.2.2 dX1_cutAsBits_13
  exact E0 s.heap [] hP hD hS ls hl
