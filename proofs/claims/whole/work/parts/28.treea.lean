-- X6_hasNode
set_option maxRecDepth 100000 in
set_option maxHeartbeats 4000000 in
theorem c_X6_hasNode (l : Launch) (G : va_G) (Y : Nat → ClassId) (sz : Nat) (qg : Nat → Nat) (g_size : Int32) (p1 : Int32) (rv : Int32) (hf : f_X6_hasNode g_size p1 = some (rv)) : Met l yX6_hasNode wsX6_hasNode (rmk 0 0) (va_Pc [.ref (qg 0), .int p1] (Pre G (tys Y) [(qg 0, oX6 qg g_size)] sz xT)) (va_Qi (fun (r : Int32) (_ : Unit) => r = rv) (Pst G (tys Y) [(qg 0, oX6 qg g_size)] sz [(qg 0, oX6 qg g_size)]) (va_A [(qg 0, oX6 qg g_size)] sz)) 0 0 (va_A [(qg 0, oX6 qg g_size)] sz) := by
  refine Met.ofW (cc := cX6_hasNode) (maxL := 2) (ret := (some .boolean)) (by decide) rfl ?_
  intro p e s m args below meth c s₁ B hml hv
  obtain ⟨rfl, hsz, hP, hK, hD0, hX⟩ := hv
  have hx := B.exec
  have hb := B.bytes
  have hr := B.returns
  have hts := atoms_spec (ws := wsX6_hasNode) B.pre
  have hown : s.vm.findClass RX6 = some m.cls := findClass_of_methodNamed B.named
  have hlocks := B.notSynchronized
  subst hsz
  have hD := hD0.self (sz := s.heap.size)
  generalize hAe : va_A [(qg 0, oX6 qg g_size)] s.heap.size = A at hD ⊢
  have hA : ∀ q : Nat, s.heap.size ≤ q → A q := fun q h => by rw [← hAe]; exact Or.inr h
  have hS : va_S A s.heap s.heap [] := va_S.rf
  have hP : va_P G vwCl [(qg 0, oX6 qg g_size)] s.heap := hP
  have wd1 : (Cond.fieldLink RX6 34 "PairedLines$Tree" "size" "I").before [.ref (qg 0), .int p1].toArray s = true := hts _ (List.mem_of_getElem? (i := 1) rfl)
  have inX6w : ∀ w ∈ u_ws RX6 TX6 8, w ∈ wsX6_hasNode := fun w hw => List.mem_cons_of_mem _ (List.mem_append_right _ (hw))
  have hl := lv_entry ([.ref (qg 0), .int p1]) (n := 2) (Nat.le_of_ble_eq_true rfl)
  rw [lg_entry_eq]
  generalize (lg_sl ([.ref (qg 0), .int p1]) ++ List.replicate (2 - (lg_sl ([.ref (qg 0), .int p1])).length) Slot.unset).toArray = ls at hl ⊢
  have hl : lv_has ls 2 [(0, .ref (qg 0)), (1, .int p1)] := hl
  have E0 : ∀ (H : Heap) (locs : List Loc), va_P G vwCl [(qg 0, oX6 qg g_size)] H → va_D A [(qg 0, oX6 qg g_size)] → va_S A s.heap H locs → ∀ (ls : Array Slot), lv_has ls 2 [(0, .ref (qg 0)), (1, .int p1)] → W p l e (headSpec wsX6_hasNode (rmk 0 0)).room s m [.ref (qg 0), .int p1].toArray below meth c H locs 0 0 (MQ below (va_Qi (fun (r : Int32) (_ : Unit) => r = rv) (Pst G (tys Y) [(qg 0, oX6 qg g_size)] s.heap.size [(qg 0, oX6 qg g_size)]) A) [.ref (qg 0), .int p1].toArray s 0 0 A) (F0 m 0 ls []) := by
    intro H locs hP hD hS ls hl
    unfold f_X6_hasNode at hf
    refine lv_iload_n hx hb dX6_hasNode_0 rfl (lv_at hl 1 rfl) ?_
    refine lv_if_lt (tgt := 16) hx hb dX6_hasNode_1 (by decide) (fun c1 => ?_) (fun c1 => ?_)
    · have hf := it hf c1
      refine lv_iconst (v := 0) hx hb dX6_hasNode_16 (by decide) ?_
      have e0 := rt1 hf
      exact W.zret (v := (0 : Int32)) hx hb hr rfl (fun t ht hW => ⟨⟨(0 : Int32), (), rfl, e0, by rw [ht]; exact hP, va_K.moved hW.alike hK, by rw [hAe]; exact hD⟩, hS.F ht⟩) hS.2.2 dX6_hasNode_17
    · have hf := ie hf c1
      refine lv_iload_n hx hb dX6_hasNode_4 rfl (lv_at hl 1 rfl) ?_
      refine lv_aload_n hx hb dX6_hasNode_5 rfl (lv_at hl 0 rfl) ?_
      refine va_get (D := G) (ci := 5) (v := .int g_size) (C := RX6) (T := TX6) (N := 8) hx hb hts inX6w hown hK hP 0 rfl rfl 7 (by decide) wd1 (fun _ h9 => h9) rfl dX6_hasNode_6 ?_
      refine lv_icmp_ge (tgt := 16) hx hb dX6_hasNode_9 (by decide) (fun c2 => ?_) (fun c2 => ?_)
      · have hf := it hf c2
        refine lv_iconst (v := 0) hx hb dX6_hasNode_16 (by decide) ?_
        have e0 := rt1 hf
        exact W.zret (v := (0 : Int32)) hx hb hr rfl (fun t ht hW => ⟨⟨(0 : Int32), (), rfl, e0, by rw [ht]; exact hP, va_K.moved hW.alike hK, by rw [hAe]; exact hD⟩, hS.F ht⟩) hS.2.2 dX6_hasNode_17
      · have hf := ie hf c2
        refine lv_iconst (v := 1) hx hb dX6_hasNode_12 (by decide) ?_
        refine lv_goto (tgt := 17) hx hb dX6_hasNode_13 (by decide) ?_
        have e0 := rt1 hf
        exact W.zret (v := (1 : Int32)) hx hb hr rfl (fun t ht hW => ⟨⟨(1 : Int32), (), rfl, e0, by rw [ht]; exact hP, va_K.moved hW.alike hK, by rw [hAe]; exact hD⟩, hS.F ht⟩) hS.2.2 dX6_hasNode_17
  exact E0 s.heap [] hP hD hS ls hl
-- X6_growFrom
set_option maxRecDepth 100000 in
set_option maxHeartbeats 4000000 in
theorem c_X6_growFrom (l : Launch) (G : va_G) (Y : Nat → ClassId) : ∀ (d : Nat) (sz : Nat) (qn : Nat → Nat) (qg : Nat → Nat) (n_nears : Nat → Int32) (n_pointCount : Int32) (n_lineCount : Int32) (n_tideNow : Int32) (n_age : Int32) (g_spots : Nat → Int32) (g_parents : Nat → Int32) (g_branches : Nat → Int32) (g_depths : Nat → Int32) (g_ends : Nat → Int32) (g_size : Int32) (p2 : Int32) (p3 : Int32) (p4 : Int32) (p5 : Int32) (rv : Int32) (o_g_spots : Nat → Int32) (o_g_parents : Nat → Int32) (o_g_branches : Nat → Int32) (o_g_depths : Nat → Int32) (o_g_ends : Nat → Int32) (o_g_size : Int32) (hf : f_X6_growFrom d n_nears g_spots g_parents g_branches g_depths g_ends g_size p2 p3 p4 p5 = some (rv, o_g_spots, o_g_parents, o_g_branches, o_g_depths, o_g_ends, o_g_size)), Met l yX6_growFrom wsX6_growFrom (rmk (0 + d) (0 + 29 * d)) (va_Pc [.ref (qg 0), .ref (qn 0), .int p2, .int p3, .int p4, .int p5] (Pre G (tys Y) [(qn 0, oX1 qn n_pointCount n_lineCount n_tideNow n_age), (qn 6, .inl (Y 0, 12, .inl n_nears)), (qg 0, oX6 qg g_size), (qg 1, .inl (Y 0, 300, .inl g_spots)), (qg 2, .inl (Y 0, 300, .inl g_parents)), (qg 3, .inl (Y 0, 300, .inl g_branches)), (qg 4, .inl (Y 0, 300, .inl g_depths)), (qg 5, .inl (Y 0, 300, .inl g_ends))] sz xT)) (va_Qi (fun (r : Int32) (_ : Unit) => r = rv) (Pst G (tys Y) [(qn 0, oX1 qn n_pointCount n_lineCount n_tideNow n_age), (qn 6, .inl (Y 0, 12, .inl n_nears)), (qg 0, oX6 qg g_size), (qg 1, .inl (Y 0, 300, .inl g_spots)), (qg 2, .inl (Y 0, 300, .inl g_parents)), (qg 3, .inl (Y 0, 300, .inl g_branches)), (qg 4, .inl (Y 0, 300, .inl g_depths)), (qg 5, .inl (Y 0, 300, .inl g_ends))] sz [(qn 0, oX1 qn n_pointCount n_lineCount n_tideNow n_age), (qn 6, .inl (Y 0, 12, .inl n_nears)), (qg 0, oX6 qg o_g_size), (qg 1, .inl (Y 0, 300, .inl o_g_spots)), (qg 2, .inl (Y 0, 300, .inl o_g_parents)), (qg 3, .inl (Y 0, 300, .inl o_g_branches)), (qg 4, .inl (Y 0, 300, .inl o_g_depths)), (qg 5, .inl (Y 0, 300, .inl o_g_ends))]) (va_A [(qn 0, oX1 qn n_pointCount n_lineCount n_tideNow n_age), (qn 6, .inl (Y 0, 12, .inl n_nears)), (qg 0, oX6 qg g_size), (qg 1, .inl (Y 0, 300, .inl g_spots)), (qg 2, .inl (Y 0, 300, .inl g_parents)), (qg 3, .inl (Y 0, 300, .inl g_branches)), (qg 4, .inl (Y 0, 300, .inl g_depths)), (qg 5, .inl (Y 0, 300, .inl g_ends))] sz)) 0 0 (va_A [(qn 0, oX1 qn n_pointCount n_lineCount n_tideNow n_age), (qn 6, .inl (Y 0, 12, .inl n_nears)), (qg 0, oX6 qg g_size), (qg 1, .inl (Y 0, 300, .inl g_spots)), (qg 2, .inl (Y 0, 300, .inl g_parents)), (qg 3, .inl (Y 0, 300, .inl g_branches)), (qg 4, .inl (Y 0, 300, .inl g_depths)), (qg 5, .inl (Y 0, 300, .inl g_ends))] sz) := by
  intro d
  induction d with
  | zero =>
    intro sz qn qg n_nears n_pointCount n_lineCount n_tideNow n_age g_spots g_parents g_branches g_depths g_ends g_size p2 p3 p4 p5 rv o_g_spots o_g_parents o_g_branches o_g_depths o_g_ends o_g_size hf
    exact no_none hf
  | succ d ihd =>
  intro sz qn qg n_nears n_pointCount n_lineCount n_tideNow n_age g_spots g_parents g_branches g_depths g_ends g_size p2 p3 p4 p5 rv o_g_spots o_g_parents o_g_branches o_g_depths o_g_ends o_g_size hf
  have hf : f_X6_growFrom_st (f_X6_growFrom d) n_nears g_spots g_parents g_branches g_depths g_ends g_size p2 p3 p4 p5 = some (rv, o_g_spots, o_g_parents, o_g_branches, o_g_depths, o_g_ends, o_g_size) := hf
  refine Met.ofW (cc := cX6_growFrom) (maxL := 10) (ret := (some .boolean)) (by decide) rfl ?_
  intro p e s m args below meth c s₁ B hml hv
  obtain ⟨rfl, hsz, hP, hK, hD0, hX⟩ := hv
  have hx := B.exec
  have hb := B.bytes
  have hr := B.returns
  have hts := atoms_spec (ws := wsX6_growFrom) B.pre
  have hown : s.vm.findClass RX6 = some m.cls := findClass_of_methodNamed B.named
  have hlocks := B.notSynchronized
  subst hsz
  have hD := hD0.self (sz := s.heap.size)
  generalize hAe : va_A [(qn 0, oX1 qn n_pointCount n_lineCount n_tideNow n_age), (qn 6, .inl (Y 0, 12, .inl n_nears)), (qg 0, oX6 qg g_size), (qg 1, .inl (Y 0, 300, .inl g_spots)), (qg 2, .inl (Y 0, 300, .inl g_parents)), (qg 3, .inl (Y 0, 300, .inl g_branches)), (qg 4, .inl (Y 0, 300, .inl g_depths)), (qg 5, .inl (Y 0, 300, .inl g_ends))] s.heap.size = A at hD ⊢
  have hA : ∀ q : Nat, s.heap.size ≤ q → A q := fun q h => by rw [← hAe]; exact Or.inr h
  have hS : va_S A s.heap s.heap [] := va_S.rf
  have hP : va_P G vwCl [(qn 0, oX1 qn n_pointCount n_lineCount n_tideNow n_age), (qn 6, .inl (Y 0, 12, .inl n_nears)), (qg 0, oX6 qg g_size), (qg 1, .inl (Y 0, 300, .inl g_spots)), (qg 2, .inl (Y 0, 300, .inl g_parents)), (qg 3, .inl (Y 0, 300, .inl g_branches)), (qg 4, .inl (Y 0, 300, .inl g_depths)), (qg 5, .inl (Y 0, 300, .inl g_ends))] s.heap := hP
  have wd1 : (Cond.fieldLink RX6 34 "PairedLines$Tree" "size" "I").before [.ref (qg 0), .ref (qn 0), .int p2, .int p3, .int p4, .int p5].toArray s = true := hts _ (List.mem_of_getElem? (i := 1) rfl)
  have wd2 : (Cond.fieldLink RX6 9 "PairedLines$Tree" "spots" "[I").before [.ref (qg 0), .ref (qn 0), .int p2, .int p3, .int p4, .int p5].toArray s = true := hts _ (List.mem_of_getElem? (i := 2) rfl)
  have wd3 : (Cond.fieldLink RX6 15 "PairedLines$Tree" "parents" "[I").before [.ref (qg 0), .ref (qn 0), .int p2, .int p3, .int p4, .int p5].toArray s = true := hts _ (List.mem_of_getElem? (i := 3) rfl)
  have wd4 : (Cond.fieldLink RX6 18 "PairedLines$Tree" "branches" "[I").before [.ref (qg 0), .ref (qn 0), .int p2, .int p3, .int p4, .int p5].toArray s = true := hts _ (List.mem_of_getElem? (i := 4) rfl)
  have wd5 : (Cond.fieldLink RX6 21 "PairedLines$Tree" "depths" "[I").before [.ref (qg 0), .ref (qn 0), .int p2, .int p3, .int p4, .int p5].toArray s = true := hts _ (List.mem_of_getElem? (i := 5) rfl)
  have wd6 : (Cond.fieldLink RX6 42 "PairedLines$Net" "nears" "[I").before [.ref (qg 0), .ref (qn 0), .int p2, .int p3, .int p4, .int p5].toArray s = true := hts _ (List.mem_of_getElem? (i := 6) rfl)
  have wd7 : (Cond.fieldLink RX6 24 "PairedLines$Tree" "ends" "[I").before [.ref (qg 0), .ref (qn 0), .int p2, .int p3, .int p4, .int p5].toArray s = true := hts _ (List.mem_of_getElem? (i := 7) rfl)
  have inX1w : ∀ w ∈ u_ws RX1 TX1 11, w ∈ wsX6_growFrom := fun w hw => List.mem_cons_of_mem _ (List.mem_append_right _ (hw))
  have inX6w : ∀ w ∈ u_ws RX6 TX6 8, w ∈ wsX6_growFrom := fun w hw => List.mem_cons_of_mem _ (List.mem_append_left _ (List.mem_append_right _ (hw)))
  have hl := lv_entry ([.ref (qg 0), .ref (qn 0), .int p2, .int p3, .int p4, .int p5]) (n := 10) (Nat.le_of_ble_eq_true rfl)
  rw [lg_entry_eq]
  generalize (lg_sl ([.ref (qg 0), .ref (qn 0), .int p2, .int p3, .int p4, .int p5]) ++ List.replicate (10 - (lg_sl ([.ref (qg 0), .ref (qn 0), .int p2, .int p3, .int p4, .int p5])).length) Slot.unset).toArray = ls at hl ⊢
  have hl : lv_has ls 10 [(0, .ref (qg 0)), (1, .ref (qn 0)), (2, .int p2), (3, .int p3), (4, .int p4), (5, .int p5)] := hl
  have B92 : ∀ (n92 : Nat), ∀ (b_g_spots : Nat → Int32) (b_g_parents : Nat → Int32) (b_g_branches : Nat → Int32) (b_g_depths : Nat → Int32) (b_g_ends : Nat → Int32) (b_g_size : Int32) (x6 : Int32) (x7 : Int32) (x8 : Int32) (x9 : Int32), f_X6_growFrom_b92 (f_X6_growFrom d) n_nears p2 p3 p4 p5 n92 b_g_spots b_g_parents b_g_branches b_g_depths b_g_ends b_g_size x6 x7 x8 x9 = some (rv, o_g_spots, o_g_parents, o_g_branches, o_g_depths, o_g_ends, o_g_size) → ∀ (H : Heap) (locs : List Loc), va_P G vwCl [(qn 0, oX1 qn n_pointCount n_lineCount n_tideNow n_age), (qn 6, .inl (Y 0, 12, .inl n_nears)), (qg 0, oX6 qg b_g_size), (qg 1, .inl (Y 0, 300, .inl b_g_spots)), (qg 2, .inl (Y 0, 300, .inl b_g_parents)), (qg 3, .inl (Y 0, 300, .inl b_g_branches)), (qg 4, .inl (Y 0, 300, .inl b_g_depths)), (qg 5, .inl (Y 0, 300, .inl b_g_ends))] H → va_D A [(qn 0, oX1 qn n_pointCount n_lineCount n_tideNow n_age), (qn 6, .inl (Y 0, 12, .inl n_nears)), (qg 0, oX6 qg b_g_size), (qg 1, .inl (Y 0, 300, .inl b_g_spots)), (qg 2, .inl (Y 0, 300, .inl b_g_parents)), (qg 3, .inl (Y 0, 300, .inl b_g_branches)), (qg 4, .inl (Y 0, 300, .inl b_g_depths)), (qg 5, .inl (Y 0, 300, .inl b_g_ends))] → va_S A s.heap H locs → ∀ (ls : Array Slot), lv_has ls 10 [(0, .ref (qg 0)), (1, .ref (qn 0)), (5, .int p5), (6, .int x6), (7, .int x7), (8, .int x8), (9, .int x9)] → W p l e (headSpec wsX6_growFrom (rmk (0 + (d + 1)) (0 + 29 * (d + 1)))).room s m [.ref (qg 0), .ref (qn 0), .int p2, .int p3, .int p4, .int p5].toArray below meth c H locs 0 0 (MQ below (va_Qi (fun (r : Int32) (_ : Unit) => r = rv) (Pst G (tys Y) [(qn 0, oX1 qn n_pointCount n_lineCount n_tideNow n_age), (qn 6, .inl (Y 0, 12, .inl n_nears)), (qg 0, oX6 qg g_size), (qg 1, .inl (Y 0, 300, .inl g_spots)), (qg 2, .inl (Y 0, 300, .inl g_parents)), (qg 3, .inl (Y 0, 300, .inl g_branches)), (qg 4, .inl (Y 0, 300, .inl g_depths)), (qg 5, .inl (Y 0, 300, .inl g_ends))] s.heap.size [(qn 0, oX1 qn n_pointCount n_lineCount n_tideNow n_age), (qn 6, .inl (Y 0, 12, .inl n_nears)), (qg 0, oX6 qg o_g_size), (qg 1, .inl (Y 0, 300, .inl o_g_spots)), (qg 2, .inl (Y 0, 300, .inl o_g_parents)), (qg 3, .inl (Y 0, 300, .inl o_g_branches)), (qg 4, .inl (Y 0, 300, .inl o_g_depths)), (qg 5, .inl (Y 0, 300, .inl o_g_ends))]) A) [.ref (qg 0), .ref (qn 0), .int p2, .int p3, .int p4, .int p5].toArray s 0 0 A) (F0 m 92 ls []) := by
    intro n92
    induction n92 with
    | zero =>
      intro b_g_spots b_g_parents b_g_branches b_g_depths b_g_ends b_g_size x6 x7 x8 x9 hf H locs hP hD hS ls hl
      exact no_none hf
    | succ n92 ih92 =>
      intro b_g_spots b_g_parents b_g_branches b_g_depths b_g_ends b_g_size x6 x7 x8 x9 hf H locs hP hD hS ls hl
      have hf : f_X6_growFrom_s92 (f_X6_growFrom d) n_nears p2 p3 p4 p5 (f_X6_growFrom_b92 (f_X6_growFrom d) n_nears p2 p3 p4 p5  n92) b_g_spots b_g_parents b_g_branches b_g_depths b_g_ends b_g_size x6 x7 x8 x9 = some (rv, o_g_spots, o_g_parents, o_g_branches, o_g_depths, o_g_ends, o_g_size) := hf
      unfold f_X6_growFrom_s92 at hf
      refine lv_iload hx hb dX6_growFrom_92 (lv_at hl 6 rfl) ?_
      refine lv_bipush (v := 12) hx hb dX6_growFrom_94 (by decide) ?_
      refine lv_icmp_ge (tgt := 146) hx hb dX6_growFrom_96 (by decide) (fun c1 => ?_) (fun c1 => ?_)
      · have hf := it hf c1
        refine lv_aload_n hx hb dX6_growFrom_146 rfl (lv_at hl 0 rfl) ?_
        refine va_get (D := G) (ci := 5) (v := .ref (qg 5)) (C := RX6) (T := TX6) (N := 8) hx hb hts inX6w hown hK hP 2 rfl rfl 4 (by decide) wd7 (fun _ h9 => h9) rfl dX6_growFrom_147 ?_
        refine lv_iload hx hb dX6_growFrom_150 (lv_at hl 3 rfl) ?_
        refine lv_aload_n hx hb dX6_growFrom_152 rfl (lv_at hl 0 rfl) ?_
        refine va_get (D := G) (ci := 5) (v := .int b_g_size) (C := RX6) (T := TX6) (N := 8) hx hb hts inX6w hown hK hP 2 rfl rfl 7 (by decide) wd1 (fun _ h9 => h9) rfl dX6_growFrom_153 ?_
        obtain ⟨g2, hf⟩ := gd hf
        refine va_iast hx hb hK hP hD hS 7 0 rfl rfl g2 dX6_growFrom_156 (fun H locs hP hD hS => ?_)
        obtain ⟨v3, e_v3⟩ : ∃ z : Nat → Int32, z = upd b_g_ends x6.toNatClampNeg b_g_size := ⟨_, rfl⟩
        have hf := nm_at hf e_v3
        have hP : va_P G vwCl [(qn 0, oX1 qn n_pointCount n_lineCount n_tideNow n_age), (qn 6, .inl (Y 0, 12, .inl n_nears)), (qg 0, oX6 qg b_g_size), (qg 1, .inl (Y 0, 300, .inl b_g_spots)), (qg 2, .inl (Y 0, 300, .inl b_g_parents)), (qg 3, .inl (Y 0, 300, .inl b_g_branches)), (qg 4, .inl (Y 0, 300, .inl b_g_depths)), (qg 5, .inl (Y 0, 300, .inl v3))] H := by rw [e_v3]; exact hP
        have hD : va_D A [(qn 0, oX1 qn n_pointCount n_lineCount n_tideNow n_age), (qn 6, .inl (Y 0, 12, .inl n_nears)), (qg 0, oX6 qg b_g_size), (qg 1, .inl (Y 0, 300, .inl b_g_spots)), (qg 2, .inl (Y 0, 300, .inl b_g_parents)), (qg 3, .inl (Y 0, 300, .inl b_g_branches)), (qg 4, .inl (Y 0, 300, .inl b_g_depths)), (qg 5, .inl (Y 0, 300, .inl v3))] := by rw [e_v3]; exact hD
        refine lv_iconst (v := 1) hx hb dX6_growFrom_157 (by decide) ?_
        obtain ⟨e0, e1, e2, e3, e4, e5, e6⟩ := rt7 hf
        have hP : va_P G vwCl [(qn 0, oX1 qn n_pointCount n_lineCount n_tideNow n_age), (qn 6, .inl (Y 0, 12, .inl n_nears)), (qg 0, oX6 qg o_g_size), (qg 1, .inl (Y 0, 300, .inl o_g_spots)), (qg 2, .inl (Y 0, 300, .inl o_g_parents)), (qg 3, .inl (Y 0, 300, .inl o_g_branches)), (qg 4, .inl (Y 0, 300, .inl o_g_depths)), (qg 5, .inl (Y 0, 300, .inl o_g_ends))] H := by rw [← e1, ← e2, ← e3, ← e4, ← e5, ← e6]; exact hP
        have hD : va_D A [(qn 0, oX1 qn n_pointCount n_lineCount n_tideNow n_age), (qn 6, .inl (Y 0, 12, .inl n_nears)), (qg 0, oX6 qg o_g_size), (qg 1, .inl (Y 0, 300, .inl o_g_spots)), (qg 2, .inl (Y 0, 300, .inl o_g_parents)), (qg 3, .inl (Y 0, 300, .inl o_g_branches)), (qg 4, .inl (Y 0, 300, .inl o_g_depths)), (qg 5, .inl (Y 0, 300, .inl o_g_ends))] := by rw [← e1, ← e2, ← e3, ← e4, ← e5, ← e6]; exact hD
        exact W.zret (v := (1 : Int32)) hx hb hr rfl (fun t ht hW => ⟨⟨(1 : Int32), (), rfl, e0, by rw [ht]; exact hP, va_K.moved hW.alike hK, by rw [hAe]; exact hD⟩, hS.F ht⟩) hS.2.2 dX6_growFrom_158
      · have hf := ie hf c1
        refine lv_iload hx hb dX6_growFrom_99 (lv_at hl 5 rfl) ?_
        refine lv_iload hx hb dX6_growFrom_101 (lv_at hl 6 rfl) ?_
        refine lv_ishr hx hb dX6_growFrom_103 ?_
        refine lv_iconst (v := 1) hx hb dX6_growFrom_104 (by decide) ?_
        refine lv_iand hx hb dX6_growFrom_105 ?_
        refine lv_if_eq (tgt := 140) hx hb dX6_growFrom_106 (by decide) (fun c4 => ?_) (fun c4 => ?_)
        · have hf := it hf c4
          obtain ⟨v5, e_v5⟩ : ∃ z : Int32, z = (x9 + 1) := ⟨_, rfl⟩
          have hf := nm_at hf e_v5
          refine lv_iinc (v := v5) (lv' := [(9, .int v5), (0, .ref (qg 0)), (1, .ref (qn 0)), (5, .int p5), (6, .int x6), (7, .int x7), (8, .int x8)]) hx hb dX6_growFrom_140 hl (k := 6) rfl (by rw [e_v5]; rfl) (by decide) rfl (fun ls hl => ?_)
          refine lv_goto (tgt := 92) hx hb dX6_growFrom_143 (by decide) ?_
          exact ih92 b_g_spots b_g_parents b_g_branches b_g_depths b_g_ends b_g_size x6 x7 x8 v5 hf _ _ hP hD hS ls (lv_sub hl [1, 2, 3, 4, 5, 6, 0] rfl)
        · have hf := ie hf c4
          refine lv_aload_n hx hb dX6_growFrom_109 rfl (lv_at hl 0 rfl) ?_
          refine va_get (D := G) (ci := 5) (v := .ref (qg 3)) (C := RX6) (T := TX6) (N := 8) hx hb hts inX6w hown hK hP 2 rfl rfl 2 (by decide) wd4 (fun _ h9 => h9) rfl dX6_growFrom_110 ?_
          refine lv_iload hx hb dX6_growFrom_113 (lv_at hl 3 rfl) ?_
          refine lv_dup2_11 hx hb dX6_growFrom_115 rfl rfl ?_
          obtain ⟨g6, hf⟩ := gd hf
          refine va_iald hx hb hK hP 5 0 rfl rfl g6 dX6_growFrom_116 ?_
          refine lv_iconst (v := 1) hx hb dX6_growFrom_117 (by decide) ?_
          refine lv_iadd hx hb dX6_growFrom_118 ?_
          obtain ⟨g7, hf⟩ := gd hf
          refine va_iast hx hb hK hP hD hS 5 0 rfl rfl g7 dX6_growFrom_119 (fun H locs hP hD hS => ?_)
          obtain ⟨v8, e_v8⟩ : ∃ z : Nat → Int32, z = upd b_g_branches x6.toNatClampNeg ((b_g_branches x6.toNatClampNeg) + (1 : Int32)) := ⟨_, rfl⟩
          have hf := nm_at hf e_v8
          have hP : va_P G vwCl [(qn 0, oX1 qn n_pointCount n_lineCount n_tideNow n_age), (qn 6, .inl (Y 0, 12, .inl n_nears)), (qg 0, oX6 qg b_g_size), (qg 1, .inl (Y 0, 300, .inl b_g_spots)), (qg 2, .inl (Y 0, 300, .inl b_g_parents)), (qg 3, .inl (Y 0, 300, .inl v8)), (qg 4, .inl (Y 0, 300, .inl b_g_depths)), (qg 5, .inl (Y 0, 300, .inl b_g_ends))] H := by rw [e_v8]; exact hP
          have hD : va_D A [(qn 0, oX1 qn n_pointCount n_lineCount n_tideNow n_age), (qn 6, .inl (Y 0, 12, .inl n_nears)), (qg 0, oX6 qg b_g_size), (qg 1, .inl (Y 0, 300, .inl b_g_spots)), (qg 2, .inl (Y 0, 300, .inl b_g_parents)), (qg 3, .inl (Y 0, 300, .inl v8)), (qg 4, .inl (Y 0, 300, .inl b_g_depths)), (qg 5, .inl (Y 0, 300, .inl b_g_ends))] := by rw [e_v8]; exact hD
          refine lv_aload_n hx hb dX6_growFrom_120 rfl (lv_at hl 0 rfl) ?_
          refine lv_aload_n hx hb dX6_growFrom_121 rfl (lv_at hl 1 rfl) ?_
          refine lv_iload hx hb dX6_growFrom_122 (lv_at hl 6 rfl) ?_
          refine lv_iload hx hb dX6_growFrom_124 (lv_at hl 3 rfl) ?_
          refine lv_iload hx hb dX6_growFrom_126 (lv_at hl 4 rfl) ?_
          refine lv_iload hx hb dX6_growFrom_128 (lv_at hl 2 rfl) ?_
          refine lv_iconst (v := 1) hx hb dX6_growFrom_130 (by decide) ?_
          refine lv_iadd hx hb dX6_growFrom_131 ?_
          obtain ⟨r9, w10, w11, w12, w13, w14, w15, hc, hf⟩ := bd7 hf
          refine cl_i (ws' := [(qn 0, oX1 qn n_pointCount n_lineCount n_tideNow n_age), (qn 6, .inl (Y 0, 12, .inl n_nears)), (qg 0, oX6 qg w15), (qg 1, .inl (Y 0, 300, .inl w10)), (qg 2, .inl (Y 0, 300, .inl w11)), (qg 3, .inl (Y 0, 300, .inl w12)), (qg 4, .inl (Y 0, 300, .inl w13)), (qg 5, .inl (Y 0, 300, .inl w14))]) (wr := []) (rnV (As := [.ref (qn 0), .int x9, .int x6, .int x7, .int (p5 + (1 : Int32))]) (rest := []) ⟨hx, hb, hml, hown, hts⟩ (ihd H.size qn qg n_nears n_pointCount n_lineCount n_tideNow n_age b_g_spots b_g_parents v8 b_g_depths b_g_ends b_g_size x9 x6 x7 (p5 + (1 : Int32)) r9 w10 w11 w12 w13 w14 w15 hc) (cwV 5 hts gX6_growFrom_X6_growFrom rfl rfl rfl (by decide +kernel) ⟨by show _ + _ + 1 ≤ _ + (_ + 1); omega, by show 8 + (_ + 11) + (_ + _ * _) ≤ _ + _ * (_ + 1); omega⟩) trivial okT hK hP hD [0, 1, 2, 3, 4, 5, 6, 7] rfl rfl (ci := 5) (q0 := 2) rfl rfl rfl rfl hl.1 rfl (Nat.le_of_ble_eq_true rfl) dX6_growFrom_132) hP hD hS hA [0, 1, 2, 3, 4, 5, 6, 7] [] [0, 1, 2, 3, 4, 5, 6, 7] rfl rfl rfl (by decide) rfl rfl (fun H locs hP hD hS => ?_)
          refine lv_if_ne (tgt := 140) hx hb dX6_growFrom_135 (by decide) (fun c16 => ?_) (fun c16 => ?_)
          · have hf := ie hf c16
            obtain ⟨v17, e_v17⟩ : ∃ z : Int32, z = (x9 + 1) := ⟨_, rfl⟩
            have hf := nm_at hf e_v17
            refine lv_iinc (v := v17) (lv' := [(9, .int v17), (0, .ref (qg 0)), (1, .ref (qn 0)), (5, .int p5), (6, .int x6), (7, .int x7), (8, .int x8)]) hx hb dX6_growFrom_140 hl (k := 6) rfl (by rw [e_v17]; rfl) (by decide) rfl (fun ls hl => ?_)
            refine lv_goto (tgt := 92) hx hb dX6_growFrom_143 (by decide) ?_
            exact ih92 w10 w11 w12 w13 w14 w15 x6 x7 x8 v17 hf _ _ hP hD hS ls (lv_sub hl [1, 2, 3, 4, 5, 6, 0] rfl)
          · have hf := it hf c16
            refine lv_iconst (v := 0) hx hb dX6_growFrom_138 (by decide) ?_
            obtain ⟨e0, e1, e2, e3, e4, e5, e6⟩ := rt7 hf
            have hP : va_P G vwCl [(qn 0, oX1 qn n_pointCount n_lineCount n_tideNow n_age), (qn 6, .inl (Y 0, 12, .inl n_nears)), (qg 0, oX6 qg o_g_size), (qg 1, .inl (Y 0, 300, .inl o_g_spots)), (qg 2, .inl (Y 0, 300, .inl o_g_parents)), (qg 3, .inl (Y 0, 300, .inl o_g_branches)), (qg 4, .inl (Y 0, 300, .inl o_g_depths)), (qg 5, .inl (Y 0, 300, .inl o_g_ends))] H := by rw [← e1, ← e2, ← e3, ← e4, ← e5, ← e6]; exact hP
            have hD : va_D A [(qn 0, oX1 qn n_pointCount n_lineCount n_tideNow n_age), (qn 6, .inl (Y 0, 12, .inl n_nears)), (qg 0, oX6 qg o_g_size), (qg 1, .inl (Y 0, 300, .inl o_g_spots)), (qg 2, .inl (Y 0, 300, .inl o_g_parents)), (qg 3, .inl (Y 0, 300, .inl o_g_branches)), (qg 4, .inl (Y 0, 300, .inl o_g_depths)), (qg 5, .inl (Y 0, 300, .inl o_g_ends))] := by rw [← e1, ← e2, ← e3, ← e4, ← e5, ← e6]; exact hD
            exact W.zret (v := (0 : Int32)) hx hb hr rfl (fun t ht hW => ⟨⟨(0 : Int32), (), rfl, e0, by rw [ht]; exact hP, va_K.moved hW.alike hK, by rw [hAe]; exact hD⟩, hS.F ht⟩) hS.2.2 dX6_growFrom_139
  have E0 : ∀ (H : Heap) (locs : List Loc), va_P G vwCl [(qn 0, oX1 qn n_pointCount n_lineCount n_tideNow n_age), (qn 6, .inl (Y 0, 12, .inl n_nears)), (qg 0, oX6 qg g_size), (qg 1, .inl (Y 0, 300, .inl g_spots)), (qg 2, .inl (Y 0, 300, .inl g_parents)), (qg 3, .inl (Y 0, 300, .inl g_branches)), (qg 4, .inl (Y 0, 300, .inl g_depths)), (qg 5, .inl (Y 0, 300, .inl g_ends))] H → va_D A [(qn 0, oX1 qn n_pointCount n_lineCount n_tideNow n_age), (qn 6, .inl (Y 0, 12, .inl n_nears)), (qg 0, oX6 qg g_size), (qg 1, .inl (Y 0, 300, .inl g_spots)), (qg 2, .inl (Y 0, 300, .inl g_parents)), (qg 3, .inl (Y 0, 300, .inl g_branches)), (qg 4, .inl (Y 0, 300, .inl g_depths)), (qg 5, .inl (Y 0, 300, .inl g_ends))] → va_S A s.heap H locs → ∀ (ls : Array Slot), lv_has ls 10 [(0, .ref (qg 0)), (1, .ref (qn 0)), (2, .int p2), (3, .int p3), (4, .int p4), (5, .int p5)] → W p l e (headSpec wsX6_growFrom (rmk (0 + (d + 1)) (0 + 29 * (d + 1)))).room s m [.ref (qg 0), .ref (qn 0), .int p2, .int p3, .int p4, .int p5].toArray below meth c H locs 0 0 (MQ below (va_Qi (fun (r : Int32) (_ : Unit) => r = rv) (Pst G (tys Y) [(qn 0, oX1 qn n_pointCount n_lineCount n_tideNow n_age), (qn 6, .inl (Y 0, 12, .inl n_nears)), (qg 0, oX6 qg g_size), (qg 1, .inl (Y 0, 300, .inl g_spots)), (qg 2, .inl (Y 0, 300, .inl g_parents)), (qg 3, .inl (Y 0, 300, .inl g_branches)), (qg 4, .inl (Y 0, 300, .inl g_depths)), (qg 5, .inl (Y 0, 300, .inl g_ends))] s.heap.size [(qn 0, oX1 qn n_pointCount n_lineCount n_tideNow n_age), (qn 6, .inl (Y 0, 12, .inl n_nears)), (qg 0, oX6 qg o_g_size), (qg 1, .inl (Y 0, 300, .inl o_g_spots)), (qg 2, .inl (Y 0, 300, .inl o_g_parents)), (qg 3, .inl (Y 0, 300, .inl o_g_branches)), (qg 4, .inl (Y 0, 300, .inl o_g_depths)), (qg 5, .inl (Y 0, 300, .inl o_g_ends))]) A) [.ref (qg 0), .ref (qn 0), .int p2, .int p3, .int p4, .int p5].toArray s 0 0 A) (F0 m 0 ls []) := by
    intro H locs hP hD hS ls hl
    unfold f_X6_growFrom_st at hf
    refine lv_aload_n hx hb dX6_growFrom_0 rfl (lv_at hl 0 rfl) ?_
    refine va_get (D := G) (ci := 5) (v := .int g_size) (C := RX6) (T := TX6) (N := 8) hx hb hts inX6w hown hK hP 2 rfl rfl 7 (by decide) wd1 (fun _ h9 => h9) rfl dX6_growFrom_1 ?_
    refine lv_sipush (v := 300) hx hb dX6_growFrom_4 (by decide) ?_
    refine lv_icmp_ge (tgt := 17) hx hb dX6_growFrom_7 (by decide) (fun c18 => ?_) (fun c18 => ?_)
    · have hf := it hf c18
      refine lv_iconst (v := 0) hx hb dX6_growFrom_17 (by decide) ?_
      obtain ⟨e0, e1, e2, e3, e4, e5, e6⟩ := rt7 hf
      have hP : va_P G vwCl [(qn 0, oX1 qn n_pointCount n_lineCount n_tideNow n_age), (qn 6, .inl (Y 0, 12, .inl n_nears)), (qg 0, oX6 qg o_g_size), (qg 1, .inl (Y 0, 300, .inl o_g_spots)), (qg 2, .inl (Y 0, 300, .inl o_g_parents)), (qg 3, .inl (Y 0, 300, .inl o_g_branches)), (qg 4, .inl (Y 0, 300, .inl o_g_depths)), (qg 5, .inl (Y 0, 300, .inl o_g_ends))] H := by rw [← e1, ← e2, ← e3, ← e4, ← e5, ← e6]; exact hP
      have hD : va_D A [(qn 0, oX1 qn n_pointCount n_lineCount n_tideNow n_age), (qn 6, .inl (Y 0, 12, .inl n_nears)), (qg 0, oX6 qg o_g_size), (qg 1, .inl (Y 0, 300, .inl o_g_spots)), (qg 2, .inl (Y 0, 300, .inl o_g_parents)), (qg 3, .inl (Y 0, 300, .inl o_g_branches)), (qg 4, .inl (Y 0, 300, .inl o_g_depths)), (qg 5, .inl (Y 0, 300, .inl o_g_ends))] := by rw [← e1, ← e2, ← e3, ← e4, ← e5, ← e6]; exact hD
      exact W.zret (v := (0 : Int32)) hx hb hr rfl (fun t ht hW => ⟨⟨(0 : Int32), (), rfl, e0, by rw [ht]; exact hP, va_K.moved hW.alike hK, by rw [hAe]; exact hD⟩, hS.F ht⟩) hS.2.2 dX6_growFrom_18
    · have hf := ie hf c18
      refine lv_iload hx hb dX6_growFrom_10 (lv_at hl 5 rfl) ?_
      refine lv_bipush (v := 12) hx hb dX6_growFrom_12 (by decide) ?_
      refine lv_icmp_lt (tgt := 19) hx hb dX6_growFrom_14 (by decide) (fun c19 => ?_) (fun c19 => ?_)
      · have hf := it hf c19
        refine lv_aload_n hx hb dX6_growFrom_19 rfl (lv_at hl 0 rfl) ?_
        refine va_get (D := G) (ci := 5) (v := .int g_size) (C := RX6) (T := TX6) (N := 8) hx hb hts inX6w hown hK hP 2 rfl rfl 7 (by decide) wd1 (fun _ h9 => h9) rfl dX6_growFrom_20 ?_
        refine lv_istore (lv' := [(6, .int g_size), (0, .ref (qg 0)), (1, .ref (qn 0)), (2, .int p2), (3, .int p3), (4, .int p4), (5, .int p5)]) hx hb dX6_growFrom_23 hl (by decide) rfl (fun ls hl => ?_)
        refine lv_aload_n hx hb dX6_growFrom_25 rfl (lv_at hl 1 rfl) ?_
        refine lv_dup hx hb dX6_growFrom_26 rfl ?_
        refine va_get (D := G) (ci := 5) (v := .int g_size) (C := RX6) (T := TX6) (N := 8) hx hb hts inX6w hown hK hP 2 rfl rfl 7 (by decide) wd1 (fun _ h9 => h9) rfl dX6_growFrom_27 ?_
        refine lv_iconst (v := 1) hx hb dX6_growFrom_30 (by decide) ?_
        refine lv_iadd hx hb dX6_growFrom_31 ?_
        refine lv_topi (fun v20 e_v20 => ?_)
        have hf := nm_at hf e_v20
        refine va_put (D := G) (ci := 5) (v := .int v20) (ty := .int) (C := RX6) (T := TX6) (N := 8) hx hb hts inX6w tyX6 tyX6_ok nmX6 hown hK hP hD hS 2 rfl rfl 7 (by decide) wd1 (fun _ h9 => h9) rfl (by decide +kernel) rfl rfl (Nat.le_of_ble_eq_true rfl) dX6_growFrom_32 (fun H locs hP hD hS => ?_)
        have hP : va_P G vwCl [(qn 0, oX1 qn n_pointCount n_lineCount n_tideNow n_age), (qn 6, .inl (Y 0, 12, .inl n_nears)), (qg 0, oX6 qg v20), (qg 1, .inl (Y 0, 300, .inl g_spots)), (qg 2, .inl (Y 0, 300, .inl g_parents)), (qg 3, .inl (Y 0, 300, .inl g_branches)), (qg 4, .inl (Y 0, 300, .inl g_depths)), (qg 5, .inl (Y 0, 300, .inl g_ends))] H := hP
        have hD : va_D A [(qn 0, oX1 qn n_pointCount n_lineCount n_tideNow n_age), (qn 6, .inl (Y 0, 12, .inl n_nears)), (qg 0, oX6 qg v20), (qg 1, .inl (Y 0, 300, .inl g_spots)), (qg 2, .inl (Y 0, 300, .inl g_parents)), (qg 3, .inl (Y 0, 300, .inl g_branches)), (qg 4, .inl (Y 0, 300, .inl g_depths)), (qg 5, .inl (Y 0, 300, .inl g_ends))] := hD
        refine lv_aload_n hx hb dX6_growFrom_35 rfl (lv_at hl 1 rfl) ?_
        refine va_get (D := G) (ci := 5) (v := .ref (qg 1)) (C := RX6) (T := TX6) (N := 8) hx hb hts inX6w hown hK hP 2 rfl rfl 0 (by decide) wd2 (fun _ h9 => h9) rfl dX6_growFrom_36 ?_
        refine lv_iload hx hb dX6_growFrom_39 (lv_at hl 0 rfl) ?_
        refine lv_iload_n hx hb dX6_growFrom_41 rfl (lv_at hl 3 rfl) ?_
        obtain ⟨g21, hf⟩ := gd hf
        refine va_iast hx hb hK hP hD hS 3 0 rfl rfl g21 dX6_growFrom_42 (fun H locs hP hD hS => ?_)
        obtain ⟨v22, e_v22⟩ : ∃ z : Nat → Int32, z = upd g_spots g_size.toNatClampNeg p2 := ⟨_, rfl⟩
        have hf := nm_at hf e_v22
        have hP : va_P G vwCl [(qn 0, oX1 qn n_pointCount n_lineCount n_tideNow n_age), (qn 6, .inl (Y 0, 12, .inl n_nears)), (qg 0, oX6 qg v20), (qg 1, .inl (Y 0, 300, .inl v22)), (qg 2, .inl (Y 0, 300, .inl g_parents)), (qg 3, .inl (Y 0, 300, .inl g_branches)), (qg 4, .inl (Y 0, 300, .inl g_depths)), (qg 5, .inl (Y 0, 300, .inl g_ends))] H := by rw [e_v22]; exact hP
        have hD : va_D A [(qn 0, oX1 qn n_pointCount n_lineCount n_tideNow n_age), (qn 6, .inl (Y 0, 12, .inl n_nears)), (qg 0, oX6 qg v20), (qg 1, .inl (Y 0, 300, .inl v22)), (qg 2, .inl (Y 0, 300, .inl g_parents)), (qg 3, .inl (Y 0, 300, .inl g_branches)), (qg 4, .inl (Y 0, 300, .inl g_depths)), (qg 5, .inl (Y 0, 300, .inl g_ends))] := by rw [e_v22]; exact hD
        refine lv_aload_n hx hb dX6_growFrom_43 rfl (lv_at hl 1 rfl) ?_
        refine va_get (D := G) (ci := 5) (v := .ref (qg 2)) (C := RX6) (T := TX6) (N := 8) hx hb hts inX6w hown hK hP 2 rfl rfl 1 (by decide) wd3 (fun _ h9 => h9) rfl dX6_growFrom_44 ?_
        refine lv_iload hx hb dX6_growFrom_47 (lv_at hl 0 rfl) ?_
        refine lv_iload_n hx hb dX6_growFrom_49 rfl (lv_at hl 4 rfl) ?_
        obtain ⟨g23, hf⟩ := gd hf
        refine va_iast hx hb hK hP hD hS 4 0 rfl rfl g23 dX6_growFrom_50 (fun H locs hP hD hS => ?_)
        obtain ⟨v24, e_v24⟩ : ∃ z : Nat → Int32, z = upd g_parents g_size.toNatClampNeg p3 := ⟨_, rfl⟩
        have hf := nm_at hf e_v24
        have hP : va_P G vwCl [(qn 0, oX1 qn n_pointCount n_lineCount n_tideNow n_age), (qn 6, .inl (Y 0, 12, .inl n_nears)), (qg 0, oX6 qg v20), (qg 1, .inl (Y 0, 300, .inl v22)), (qg 2, .inl (Y 0, 300, .inl v24)), (qg 3, .inl (Y 0, 300, .inl g_branches)), (qg 4, .inl (Y 0, 300, .inl g_depths)), (qg 5, .inl (Y 0, 300, .inl g_ends))] H := by rw [e_v24]; exact hP
        have hD : va_D A [(qn 0, oX1 qn n_pointCount n_lineCount n_tideNow n_age), (qn 6, .inl (Y 0, 12, .inl n_nears)), (qg 0, oX6 qg v20), (qg 1, .inl (Y 0, 300, .inl v22)), (qg 2, .inl (Y 0, 300, .inl v24)), (qg 3, .inl (Y 0, 300, .inl g_branches)), (qg 4, .inl (Y 0, 300, .inl g_depths)), (qg 5, .inl (Y 0, 300, .inl g_ends))] := by rw [e_v24]; exact hD
        refine lv_aload_n hx hb dX6_growFrom_51 rfl (lv_at hl 1 rfl) ?_
        refine va_get (D := G) (ci := 5) (v := .ref (qg 3)) (C := RX6) (T := TX6) (N := 8) hx hb hts inX6w hown hK hP 2 rfl rfl 2 (by decide) wd4 (fun _ h9 => h9) rfl dX6_growFrom_52 ?_
        refine lv_iload hx hb dX6_growFrom_55 (lv_at hl 0 rfl) ?_
        refine lv_iconst (v := 0) hx hb dX6_growFrom_57 (by decide) ?_
        obtain ⟨g25, hf⟩ := gd hf
        refine va_iast hx hb hK hP hD hS 5 0 rfl rfl g25 dX6_growFrom_58 (fun H locs hP hD hS => ?_)
        obtain ⟨v26, e_v26⟩ : ∃ z : Nat → Int32, z = upd g_branches g_size.toNatClampNeg (0 : Int32) := ⟨_, rfl⟩
        have hf := nm_at hf e_v26
        have hP : va_P G vwCl [(qn 0, oX1 qn n_pointCount n_lineCount n_tideNow n_age), (qn 6, .inl (Y 0, 12, .inl n_nears)), (qg 0, oX6 qg v20), (qg 1, .inl (Y 0, 300, .inl v22)), (qg 2, .inl (Y 0, 300, .inl v24)), (qg 3, .inl (Y 0, 300, .inl v26)), (qg 4, .inl (Y 0, 300, .inl g_depths)), (qg 5, .inl (Y 0, 300, .inl g_ends))] H := by rw [e_v26]; exact hP
        have hD : va_D A [(qn 0, oX1 qn n_pointCount n_lineCount n_tideNow n_age), (qn 6, .inl (Y 0, 12, .inl n_nears)), (qg 0, oX6 qg v20), (qg 1, .inl (Y 0, 300, .inl v22)), (qg 2, .inl (Y 0, 300, .inl v24)), (qg 3, .inl (Y 0, 300, .inl v26)), (qg 4, .inl (Y 0, 300, .inl g_depths)), (qg 5, .inl (Y 0, 300, .inl g_ends))] := by rw [e_v26]; exact hD
        refine lv_aload_n hx hb dX6_growFrom_59 rfl (lv_at hl 1 rfl) ?_
        refine va_get (D := G) (ci := 5) (v := .ref (qg 4)) (C := RX6) (T := TX6) (N := 8) hx hb hts inX6w hown hK hP 2 rfl rfl 3 (by decide) wd5 (fun _ h9 => h9) rfl dX6_growFrom_60 ?_
        refine lv_iload hx hb dX6_growFrom_63 (lv_at hl 0 rfl) ?_
        refine lv_iload hx hb dX6_growFrom_65 (lv_at hl 6 rfl) ?_
        obtain ⟨g27, hf⟩ := gd hf
        refine va_iast hx hb hK hP hD hS 6 0 rfl rfl g27 dX6_growFrom_67 (fun H locs hP hD hS => ?_)
        obtain ⟨v28, e_v28⟩ : ∃ z : Nat → Int32, z = upd g_depths g_size.toNatClampNeg p5 := ⟨_, rfl⟩
        have hf := nm_at hf e_v28
        have hP : va_P G vwCl [(qn 0, oX1 qn n_pointCount n_lineCount n_tideNow n_age), (qn 6, .inl (Y 0, 12, .inl n_nears)), (qg 0, oX6 qg v20), (qg 1, .inl (Y 0, 300, .inl v22)), (qg 2, .inl (Y 0, 300, .inl v24)), (qg 3, .inl (Y 0, 300, .inl v26)), (qg 4, .inl (Y 0, 300, .inl v28)), (qg 5, .inl (Y 0, 300, .inl g_ends))] H := by rw [e_v28]; exact hP
        have hD : va_D A [(qn 0, oX1 qn n_pointCount n_lineCount n_tideNow n_age), (qn 6, .inl (Y 0, 12, .inl n_nears)), (qg 0, oX6 qg v20), (qg 1, .inl (Y 0, 300, .inl v22)), (qg 2, .inl (Y 0, 300, .inl v24)), (qg 3, .inl (Y 0, 300, .inl v26)), (qg 4, .inl (Y 0, 300, .inl v28)), (qg 5, .inl (Y 0, 300, .inl g_ends))] := by rw [e_v28]; exact hD
        refine lv_iload hx hb dX6_growFrom_68 (lv_at hl 5 rfl) ?_
        refine lv_iconst (v := 1) hx hb dX6_growFrom_70 (by decide) ?_
        refine lv_iload_n hx hb dX6_growFrom_71 rfl (lv_at hl 3 rfl) ?_
        refine lv_ishl hx hb dX6_growFrom_72 ?_
        refine lv_ior hx hb dX6_growFrom_73 ?_
        refine lv_topi (fun v29 e_v29 => ?_)
        have hf := nm_at hf e_v29
        refine lv_istore (lv' := [(7, .int v29), (6, .int g_size), (0, .ref (qg 0)), (1, .ref (qn 0)), (2, .int p2), (3, .int p3), (4, .int p4), (5, .int p5)]) hx hb dX6_growFrom_74 hl (by decide) rfl (fun ls hl => ?_)
        refine lv_aload_n hx hb dX6_growFrom_76 rfl (lv_at hl 3 rfl) ?_
        refine va_get (D := G) (ci := 0) (v := .ref (qn 6)) (C := RX1) (T := TX1) (N := 11) hx hb hts inX1w hown hK hP 0 rfl rfl 5 (by decide) wd6 (fun _ h9 => h9) rfl dX6_growFrom_77 ?_
        refine lv_iload_n hx hb dX6_growFrom_80 rfl (lv_at hl 4 rfl) ?_
        obtain ⟨g30, hf⟩ := gd hf
        refine va_iald hx hb hK hP 1 0 rfl rfl g30 dX6_growFrom_81 ?_
        refine lv_iload hx hb dX6_growFrom_82 (lv_at hl 0 rfl) ?_
        refine lv_iconst (v := -1) hx hb dX6_growFrom_84 (by decide) ?_
        refine lv_ixor hx hb dX6_growFrom_85 ?_
        refine lv_iand hx hb dX6_growFrom_86 ?_
        refine lv_topi (fun v31 e_v31 => ?_)
        have hf := nm_at hf e_v31
        refine lv_istore (lv' := [(8, .int v31), (7, .int v29), (6, .int g_size), (0, .ref (qg 0)), (1, .ref (qn 0)), (2, .int p2), (3, .int p3), (4, .int p4), (5, .int p5)]) hx hb dX6_growFrom_87 hl (by decide) rfl (fun ls hl => ?_)
        refine lv_iconst (v := 0) hx hb dX6_growFrom_89 (by decide) ?_
        refine lv_istore (lv' := [(9, .int (0 : Int32)), (8, .int v31), (7, .int v29), (6, .int g_size), (0, .ref (qg 0)), (1, .ref (qn 0)), (2, .int p2), (3, .int p3), (4, .int p4), (5, .int p5)]) hx hb dX6_growFrom_90 hl (by decide) rfl (fun ls hl => ?_)
        exact B92 70 v22 v24 v26 v28 g_ends v20 g_size v29 v31 (0 : Int32) hf _ _ hP hD hS ls (lv_sub hl [4, 5, 9, 3, 2, 1, 0] rfl)
      · have hf := ie hf c19
        refine lv_iconst (v := 0) hx hb dX6_growFrom_17 (by decide) ?_
        obtain ⟨e0, e1, e2, e3, e4, e5, e6⟩ := rt7 hf
        have hP : va_P G vwCl [(qn 0, oX1 qn n_pointCount n_lineCount n_tideNow n_age), (qn 6, .inl (Y 0, 12, .inl n_nears)), (qg 0, oX6 qg o_g_size), (qg 1, .inl (Y 0, 300, .inl o_g_spots)), (qg 2, .inl (Y 0, 300, .inl o_g_parents)), (qg 3, .inl (Y 0, 300, .inl o_g_branches)), (qg 4, .inl (Y 0, 300, .inl o_g_depths)), (qg 5, .inl (Y 0, 300, .inl o_g_ends))] H := by rw [← e1, ← e2, ← e3, ← e4, ← e5, ← e6]; exact hP
        have hD : va_D A [(qn 0, oX1 qn n_pointCount n_lineCount n_tideNow n_age), (qn 6, .inl (Y 0, 12, .inl n_nears)), (qg 0, oX6 qg o_g_size), (qg 1, .inl (Y 0, 300, .inl o_g_spots)), (qg 2, .inl (Y 0, 300, .inl o_g_parents)), (qg 3, .inl (Y 0, 300, .inl o_g_branches)), (qg 4, .inl (Y 0, 300, .inl o_g_depths)), (qg 5, .inl (Y 0, 300, .inl o_g_ends))] := by rw [← e1, ← e2, ← e3, ← e4, ← e5, ← e6]; exact hD
        exact W.zret (v := (0 : Int32)) hx hb hr rfl (fun t ht hW => ⟨⟨(0 : Int32), (), rfl, e0, by rw [ht]; exact hP, va_K.moved hW.alike hK, by rw [hAe]; exact hD⟩, hS.F ht⟩) hS.2.2 dX6_growFrom_18
  exact E0 s.heap [] hP hD hS ls hl
-- X6_grow
set_option maxRecDepth 100000 in
set_option maxHeartbeats 4000000 in
theorem c_X6_grow (l : Launch) (G : va_G) (Y : Nat → ClassId) (sz : Nat) (qn : Nat → Nat) (qg : Nat → Nat) (n_nears : Nat → Int32) (n_pointCount : Int32) (n_lineCount : Int32) (n_tideNow : Int32) (n_age : Int32) (g_spots : Nat → Int32) (g_parents : Nat → Int32) (g_branches : Nat → Int32) (g_depths : Nat → Int32) (g_ends : Nat → Int32) (g_size : Int32) (p2 : Int32) (p3 : Int32) (rv : Int32) (o_g_spots : Nat → Int32) (o_g_parents : Nat → Int32) (o_g_branches : Nat → Int32) (o_g_depths : Nat → Int32) (o_g_ends : Nat → Int32) (o_g_size : Int32) (hf : f_X6_grow n_nears g_spots g_parents g_branches g_depths g_ends g_size p2 p3 = some (rv, o_g_spots, o_g_parents, o_g_branches, o_g_depths, o_g_ends, o_g_size)) : Met l yX6_grow wsX6_grow (rmk 17 493) (va_Pc [.ref (qg 0), .ref (qn 0), .int p2, .int p3] (Pre G (tys Y) [(qn 0, oX1 qn n_pointCount n_lineCount n_tideNow n_age), (qn 6, .inl (Y 0, 12, .inl n_nears)), (qg 0, oX6 qg g_size), (qg 1, .inl (Y 0, 300, .inl g_spots)), (qg 2, .inl (Y 0, 300, .inl g_parents)), (qg 3, .inl (Y 0, 300, .inl g_branches)), (qg 4, .inl (Y 0, 300, .inl g_depths)), (qg 5, .inl (Y 0, 300, .inl g_ends))] sz xT)) (va_Qi (fun (r : Int32) (_ : Unit) => r = rv) (Pst G (tys Y) [(qn 0, oX1 qn n_pointCount n_lineCount n_tideNow n_age), (qn 6, .inl (Y 0, 12, .inl n_nears)), (qg 0, oX6 qg g_size), (qg 1, .inl (Y 0, 300, .inl g_spots)), (qg 2, .inl (Y 0, 300, .inl g_parents)), (qg 3, .inl (Y 0, 300, .inl g_branches)), (qg 4, .inl (Y 0, 300, .inl g_depths)), (qg 5, .inl (Y 0, 300, .inl g_ends))] sz [(qn 0, oX1 qn n_pointCount n_lineCount n_tideNow n_age), (qn 6, .inl (Y 0, 12, .inl n_nears)), (qg 0, oX6 qg o_g_size), (qg 1, .inl (Y 0, 300, .inl o_g_spots)), (qg 2, .inl (Y 0, 300, .inl o_g_parents)), (qg 3, .inl (Y 0, 300, .inl o_g_branches)), (qg 4, .inl (Y 0, 300, .inl o_g_depths)), (qg 5, .inl (Y 0, 300, .inl o_g_ends))]) (va_A [(qn 0, oX1 qn n_pointCount n_lineCount n_tideNow n_age), (qn 6, .inl (Y 0, 12, .inl n_nears)), (qg 0, oX6 qg g_size), (qg 1, .inl (Y 0, 300, .inl g_spots)), (qg 2, .inl (Y 0, 300, .inl g_parents)), (qg 3, .inl (Y 0, 300, .inl g_branches)), (qg 4, .inl (Y 0, 300, .inl g_depths)), (qg 5, .inl (Y 0, 300, .inl g_ends))] sz)) 0 0 (va_A [(qn 0, oX1 qn n_pointCount n_lineCount n_tideNow n_age), (qn 6, .inl (Y 0, 12, .inl n_nears)), (qg 0, oX6 qg g_size), (qg 1, .inl (Y 0, 300, .inl g_spots)), (qg 2, .inl (Y 0, 300, .inl g_parents)), (qg 3, .inl (Y 0, 300, .inl g_branches)), (qg 4, .inl (Y 0, 300, .inl g_depths)), (qg 5, .inl (Y 0, 300, .inl g_ends))] sz) := by
  refine Met.ofW (cc := cX6_grow) (maxL := 4) (ret := (some .boolean)) (by decide) rfl ?_
  intro p e s m args below meth c s₁ B hml hv
  obtain ⟨rfl, hsz, hP, hK, hD0, hX⟩ := hv
  have hx := B.exec
  have hb := B.bytes
  have hr := B.returns
  have hts := atoms_spec (ws := wsX6_grow) B.pre
  have hown : s.vm.findClass RX6 = some m.cls := findClass_of_methodNamed B.named
  have hlocks := B.notSynchronized
  subst hsz
  have hD := hD0.self (sz := s.heap.size)
  generalize hAe : va_A [(qn 0, oX1 qn n_pointCount n_lineCount n_tideNow n_age), (qn 6, .inl (Y 0, 12, .inl n_nears)), (qg 0, oX6 qg g_size), (qg 1, .inl (Y 0, 300, .inl g_spots)), (qg 2, .inl (Y 0, 300, .inl g_parents)), (qg 3, .inl (Y 0, 300, .inl g_branches)), (qg 4, .inl (Y 0, 300, .inl g_depths)), (qg 5, .inl (Y 0, 300, .inl g_ends))] s.heap.size = A at hD ⊢
  have hA : ∀ q : Nat, s.heap.size ≤ q → A q := fun q h => by rw [← hAe]; exact Or.inr h
  have hS : va_S A s.heap s.heap [] := va_S.rf
  have hP : va_P G vwCl [(qn 0, oX1 qn n_pointCount n_lineCount n_tideNow n_age), (qn 6, .inl (Y 0, 12, .inl n_nears)), (qg 0, oX6 qg g_size), (qg 1, .inl (Y 0, 300, .inl g_spots)), (qg 2, .inl (Y 0, 300, .inl g_parents)), (qg 3, .inl (Y 0, 300, .inl g_branches)), (qg 4, .inl (Y 0, 300, .inl g_depths)), (qg 5, .inl (Y 0, 300, .inl g_ends))] s.heap := hP
  have wd1 : (Cond.fieldLink RX6 34 "PairedLines$Tree" "size" "I").before [.ref (qg 0), .ref (qn 0), .int p2, .int p3].toArray s = true := hts _ (List.mem_of_getElem? (i := 1) rfl)
  have inX6w : ∀ w ∈ u_ws RX6 TX6 8, w ∈ wsX6_grow := fun w hw => List.mem_cons_of_mem _ (List.mem_append_left _ (List.mem_append_right _ (hw)))
  have hl := lv_entry ([.ref (qg 0), .ref (qn 0), .int p2, .int p3]) (n := 4) (Nat.le_of_ble_eq_true rfl)
  rw [lg_entry_eq]
  generalize (lg_sl ([.ref (qg 0), .ref (qn 0), .int p2, .int p3]) ++ List.replicate (4 - (lg_sl ([.ref (qg 0), .ref (qn 0), .int p2, .int p3])).length) Slot.unset).toArray = ls at hl ⊢
  have hl : lv_has ls 4 [(0, .ref (qg 0)), (1, .ref (qn 0)), (2, .int p2), (3, .int p3)] := hl
  have E0 : ∀ (H : Heap) (locs : List Loc), va_P G vwCl [(qn 0, oX1 qn n_pointCount n_lineCount n_tideNow n_age), (qn 6, .inl (Y 0, 12, .inl n_nears)), (qg 0, oX6 qg g_size), (qg 1, .inl (Y 0, 300, .inl g_spots)), (qg 2, .inl (Y 0, 300, .inl g_parents)), (qg 3, .inl (Y 0, 300, .inl g_branches)), (qg 4, .inl (Y 0, 300, .inl g_depths)), (qg 5, .inl (Y 0, 300, .inl g_ends))] H → va_D A [(qn 0, oX1 qn n_pointCount n_lineCount n_tideNow n_age), (qn 6, .inl (Y 0, 12, .inl n_nears)), (qg 0, oX6 qg g_size), (qg 1, .inl (Y 0, 300, .inl g_spots)), (qg 2, .inl (Y 0, 300, .inl g_parents)), (qg 3, .inl (Y 0, 300, .inl g_branches)), (qg 4, .inl (Y 0, 300, .inl g_depths)), (qg 5, .inl (Y 0, 300, .inl g_ends))] → va_S A s.heap H locs → ∀ (ls : Array Slot), lv_has ls 4 [(0, .ref (qg 0)), (1, .ref (qn 0)), (2, .int p2), (3, .int p3)] → W p l e (headSpec wsX6_grow (rmk 17 493)).room s m [.ref (qg 0), .ref (qn 0), .int p2, .int p3].toArray below meth c H locs 0 0 (MQ below (va_Qi (fun (r : Int32) (_ : Unit) => r = rv) (Pst G (tys Y) [(qn 0, oX1 qn n_pointCount n_lineCount n_tideNow n_age), (qn 6, .inl (Y 0, 12, .inl n_nears)), (qg 0, oX6 qg g_size), (qg 1, .inl (Y 0, 300, .inl g_spots)), (qg 2, .inl (Y 0, 300, .inl g_parents)), (qg 3, .inl (Y 0, 300, .inl g_branches)), (qg 4, .inl (Y 0, 300, .inl g_depths)), (qg 5, .inl (Y 0, 300, .inl g_ends))] s.heap.size [(qn 0, oX1 qn n_pointCount n_lineCount n_tideNow n_age), (qn 6, .inl (Y 0, 12, .inl n_nears)), (qg 0, oX6 qg o_g_size), (qg 1, .inl (Y 0, 300, .inl o_g_spots)), (qg 2, .inl (Y 0, 300, .inl o_g_parents)), (qg 3, .inl (Y 0, 300, .inl o_g_branches)), (qg 4, .inl (Y 0, 300, .inl o_g_depths)), (qg 5, .inl (Y 0, 300, .inl o_g_ends))]) A) [.ref (qg 0), .ref (qn 0), .int p2, .int p3].toArray s 0 0 A) (F0 m 0 ls []) := by
    intro H locs hP hD hS ls hl
    unfold f_X6_grow at hf
    refine lv_aload_n hx hb dX6_grow_0 rfl (lv_at hl 0 rfl) ?_
    refine lv_iconst (v := 0) hx hb dX6_grow_1 (by decide) ?_
    refine va_put (D := G) (ci := 5) (v := .int (0 : Int32)) (ty := .int) (C := RX6) (T := TX6) (N := 8) hx hb hts inX6w tyX6 tyX6_ok nmX6 hown hK hP hD hS 2 rfl rfl 7 (by decide) wd1 (fun _ h9 => h9) rfl (by decide +kernel) rfl rfl (Nat.le_of_ble_eq_true rfl) dX6_grow_2 (fun H locs hP hD hS => ?_)
    have hP : va_P G vwCl [(qn 0, oX1 qn n_pointCount n_lineCount n_tideNow n_age), (qn 6, .inl (Y 0, 12, .inl n_nears)), (qg 0, oX6 qg (0 : Int32)), (qg 1, .inl (Y 0, 300, .inl g_spots)), (qg 2, .inl (Y 0, 300, .inl g_parents)), (qg 3, .inl (Y 0, 300, .inl g_branches)), (qg 4, .inl (Y 0, 300, .inl g_depths)), (qg 5, .inl (Y 0, 300, .inl g_ends))] H := hP
    have hD : va_D A [(qn 0, oX1 qn n_pointCount n_lineCount n_tideNow n_age), (qn 6, .inl (Y 0, 12, .inl n_nears)), (qg 0, oX6 qg (0 : Int32)), (qg 1, .inl (Y 0, 300, .inl g_spots)), (qg 2, .inl (Y 0, 300, .inl g_parents)), (qg 3, .inl (Y 0, 300, .inl g_branches)), (qg 4, .inl (Y 0, 300, .inl g_depths)), (qg 5, .inl (Y 0, 300, .inl g_ends))] := hD
    refine lv_aload_n hx hb dX6_grow_5 rfl (lv_at hl 0 rfl) ?_
    refine lv_aload_n hx hb dX6_grow_6 rfl (lv_at hl 1 rfl) ?_
    refine lv_iload_n hx hb dX6_grow_7 rfl (lv_at hl 2 rfl) ?_
    refine lv_iconst (v := -1) hx hb dX6_grow_8 (by decide) ?_
    refine lv_iload_n hx hb dX6_grow_9 rfl (lv_at hl 3 rfl) ?_
    refine lv_iconst (v := 0) hx hb dX6_grow_10 (by decide) ?_
    obtain ⟨r1, w2, w3, w4, w5, w6, w7, hc, hf⟩ := bd7 hf
    refine cl_i (ws' := [(qn 0, oX1 qn n_pointCount n_lineCount n_tideNow n_age), (qn 6, .inl (Y 0, 12, .inl n_nears)), (qg 0, oX6 qg w7), (qg 1, .inl (Y 0, 300, .inl w2)), (qg 2, .inl (Y 0, 300, .inl w3)), (qg 3, .inl (Y 0, 300, .inl w4)), (qg 4, .inl (Y 0, 300, .inl w5)), (qg 5, .inl (Y 0, 300, .inl w6))]) (wr := []) (rnV (As := [.ref (qn 0), .int p2, .int (-1 : Int32), .int p3, .int (0 : Int32)]) (rest := []) ⟨hx, hb, hml, hown, hts⟩ (c_X6_growFrom l G Y 16 H.size qn qg n_nears n_pointCount n_lineCount n_tideNow n_age g_spots g_parents g_branches g_depths g_ends (0 : Int32) p2 (-1 : Int32) p3 (0 : Int32) r1 w2 w3 w4 w5 w6 w7 hc) (cwV 5 hts gX6_grow_X6_growFrom rfl rfl rfl (by decide +kernel) ⟨(Nat.le_of_ble_eq_true rfl), (Nat.le_of_ble_eq_true rfl)⟩) trivial okT hK hP hD [0, 1, 2, 3, 4, 5, 6, 7] rfl rfl (ci := 5) (q0 := 2) rfl rfl rfl rfl hl.1 rfl (Nat.le_of_ble_eq_true rfl) dX6_grow_11) hP hD hS hA [0, 1, 2, 3, 4, 5, 6, 7] [] [0, 1, 2, 3, 4, 5, 6, 7] rfl rfl rfl (by decide) rfl rfl (fun H locs hP hD hS => ?_)
    obtain ⟨g8, hf⟩ := gp hf
    obtain ⟨e0, e1, e2, e3, e4, e5, e6⟩ := rt7 hf
    have hP : va_P G vwCl [(qn 0, oX1 qn n_pointCount n_lineCount n_tideNow n_age), (qn 6, .inl (Y 0, 12, .inl n_nears)), (qg 0, oX6 qg o_g_size), (qg 1, .inl (Y 0, 300, .inl o_g_spots)), (qg 2, .inl (Y 0, 300, .inl o_g_parents)), (qg 3, .inl (Y 0, 300, .inl o_g_branches)), (qg 4, .inl (Y 0, 300, .inl o_g_depths)), (qg 5, .inl (Y 0, 300, .inl o_g_ends))] H := by rw [← e1, ← e2, ← e3, ← e4, ← e5, ← e6]; exact hP
    have hD : va_D A [(qn 0, oX1 qn n_pointCount n_lineCount n_tideNow n_age), (qn 6, .inl (Y 0, 12, .inl n_nears)), (qg 0, oX6 qg o_g_size), (qg 1, .inl (Y 0, 300, .inl o_g_spots)), (qg 2, .inl (Y 0, 300, .inl o_g_parents)), (qg 3, .inl (Y 0, 300, .inl o_g_branches)), (qg 4, .inl (Y 0, 300, .inl o_g_depths)), (qg 5, .inl (Y 0, 300, .inl o_g_ends))] := by rw [← e1, ← e2, ← e3, ← e4, ← e5, ← e6]; exact hD
    exact W.zret (v := r1) hx hb hr (nb_n g8) (fun t ht hW => ⟨⟨r1, (), rfl, e0, by rw [ht]; exact hP, va_K.moved hW.alike hK, by rw [hAe]; exact hD⟩, hS.F ht⟩) hS.2.2 dX6_grow_14
  exact E0 s.heap [] hP hD hS ls hl
-- X6_standsIn
set_option maxRecDepth 100000 in
set_option maxHeartbeats 4000000 in
theorem c_X6_standsIn (l : Launch) (G : va_G) (Y : Nat → ClassId) (sz : Nat) (qn : Nat → Nat) (qg : Nat → Nat) (n_joins : Nat → Int32) (n_pointCount : Int32) (n_lineCount : Int32) (n_tideNow : Int32) (n_age : Int32) (g_spots : Nat → Int32) (g_parents : Nat → Int32) (g_size : Int32) (rv : Int32) (hf : f_X6_standsIn n_joins g_spots g_parents g_size = some (rv)) : Met l yX6_standsIn wsX6_standsIn (rmk 1 22) (va_Pc [.ref (qg 0), .ref (qn 0)] (Pre G (tys Y) [(qn 0, oX1 qn n_pointCount n_lineCount n_tideNow n_age), (qn 5, .inl (Y 0, 144, .inl n_joins)), (qg 0, oX6 qg g_size), (qg 1, .inl (Y 0, 300, .inl g_spots)), (qg 2, .inl (Y 0, 300, .inl g_parents))] sz xT)) (va_Qi (fun (r : Int32) (_ : Unit) => r = rv) (Pst G (tys Y) [(qn 0, oX1 qn n_pointCount n_lineCount n_tideNow n_age), (qn 5, .inl (Y 0, 144, .inl n_joins)), (qg 0, oX6 qg g_size), (qg 1, .inl (Y 0, 300, .inl g_spots)), (qg 2, .inl (Y 0, 300, .inl g_parents))] sz [(qn 0, oX1 qn n_pointCount n_lineCount n_tideNow n_age), (qn 5, .inl (Y 0, 144, .inl n_joins)), (qg 0, oX6 qg g_size), (qg 1, .inl (Y 0, 300, .inl g_spots)), (qg 2, .inl (Y 0, 300, .inl g_parents))]) (va_A [(qn 0, oX1 qn n_pointCount n_lineCount n_tideNow n_age), (qn 5, .inl (Y 0, 144, .inl n_joins)), (qg 0, oX6 qg g_size), (qg 1, .inl (Y 0, 300, .inl g_spots)), (qg 2, .inl (Y 0, 300, .inl g_parents))] sz)) 0 0 (va_A [(qn 0, oX1 qn n_pointCount n_lineCount n_tideNow n_age), (qn 5, .inl (Y 0, 144, .inl n_joins)), (qg 0, oX6 qg g_size), (qg 1, .inl (Y 0, 300, .inl g_spots)), (qg 2, .inl (Y 0, 300, .inl g_parents))] sz) := by
  refine Met.ofW (cc := cX6_standsIn) (maxL := 3) (ret := (some .boolean)) (by decide) rfl ?_
  intro p e s m args below meth c s₁ B hml hv
  obtain ⟨rfl, hsz, hP, hK, hD0, hX⟩ := hv
  have hx := B.exec
  have hb := B.bytes
  have hr := B.returns
  have hts := atoms_spec (ws := wsX6_standsIn) B.pre
  have hown : s.vm.findClass RX6 = some m.cls := findClass_of_methodNamed B.named
  have hlocks := B.notSynchronized
  subst hsz
  have hD := hD0.self (sz := s.heap.size)
  generalize hAe : va_A [(qn 0, oX1 qn n_pointCount n_lineCount n_tideNow n_age), (qn 5, .inl (Y 0, 144, .inl n_joins)), (qg 0, oX6 qg g_size), (qg 1, .inl (Y 0, 300, .inl g_spots)), (qg 2, .inl (Y 0, 300, .inl g_parents))] s.heap.size = A at hD ⊢
  have hA : ∀ q : Nat, s.heap.size ≤ q → A q := fun q h => by rw [← hAe]; exact Or.inr h
  have hS : va_S A s.heap s.heap [] := va_S.rf
  have hP : va_P G vwCl [(qn 0, oX1 qn n_pointCount n_lineCount n_tideNow n_age), (qn 5, .inl (Y 0, 144, .inl n_joins)), (qg 0, oX6 qg g_size), (qg 1, .inl (Y 0, 300, .inl g_spots)), (qg 2, .inl (Y 0, 300, .inl g_parents))] s.heap := hP
  have wd1 : (Cond.fieldLink RX6 34 "PairedLines$Tree" "size" "I").before [.ref (qg 0), .ref (qn 0)].toArray s = true := hts _ (List.mem_of_getElem? (i := 1) rfl)
  have wd2 : (Cond.fieldLink RX6 9 "PairedLines$Tree" "spots" "[I").before [.ref (qg 0), .ref (qn 0)].toArray s = true := hts _ (List.mem_of_getElem? (i := 2) rfl)
  have wd3 : (Cond.fieldLink RX6 15 "PairedLines$Tree" "parents" "[I").before [.ref (qg 0), .ref (qn 0)].toArray s = true := hts _ (List.mem_of_getElem? (i := 3) rfl)
  have inX6w : ∀ w ∈ u_ws RX6 TX6 8, w ∈ wsX6_standsIn := fun w hw => List.mem_cons_of_mem _ (List.mem_append_left _ (List.mem_append_right _ (hw)))
  have hl := lv_entry ([.ref (qg 0), .ref (qn 0)]) (n := 3) (Nat.le_of_ble_eq_true rfl)
  rw [lg_entry_eq]
  generalize (lg_sl ([.ref (qg 0), .ref (qn 0)]) ++ List.replicate (3 - (lg_sl ([.ref (qg 0), .ref (qn 0)])).length) Slot.unset).toArray = ls at hl ⊢
  have hl : lv_has ls 3 [(0, .ref (qg 0)), (1, .ref (qn 0))] := hl
  have B2 : ∀ (n2 : Nat), ∀ (x2 : Int32), f_X6_standsIn_b2 n_joins g_spots g_parents g_size n2 x2 = some (rv) → ∀ (H : Heap) (locs : List Loc), va_P G vwCl [(qn 0, oX1 qn n_pointCount n_lineCount n_tideNow n_age), (qn 5, .inl (Y 0, 144, .inl n_joins)), (qg 0, oX6 qg g_size), (qg 1, .inl (Y 0, 300, .inl g_spots)), (qg 2, .inl (Y 0, 300, .inl g_parents))] H → va_D A [(qn 0, oX1 qn n_pointCount n_lineCount n_tideNow n_age), (qn 5, .inl (Y 0, 144, .inl n_joins)), (qg 0, oX6 qg g_size), (qg 1, .inl (Y 0, 300, .inl g_spots)), (qg 2, .inl (Y 0, 300, .inl g_parents))] → va_S A s.heap H locs → ∀ (ls : Array Slot), lv_has ls 3 [(0, .ref (qg 0)), (1, .ref (qn 0)), (2, .int x2)] → W p l e (headSpec wsX6_standsIn (rmk 1 22)).room s m [.ref (qg 0), .ref (qn 0)].toArray below meth c H locs 0 0 (MQ below (va_Qi (fun (r : Int32) (_ : Unit) => r = rv) (Pst G (tys Y) [(qn 0, oX1 qn n_pointCount n_lineCount n_tideNow n_age), (qn 5, .inl (Y 0, 144, .inl n_joins)), (qg 0, oX6 qg g_size), (qg 1, .inl (Y 0, 300, .inl g_spots)), (qg 2, .inl (Y 0, 300, .inl g_parents))] s.heap.size [(qn 0, oX1 qn n_pointCount n_lineCount n_tideNow n_age), (qn 5, .inl (Y 0, 144, .inl n_joins)), (qg 0, oX6 qg g_size), (qg 1, .inl (Y 0, 300, .inl g_spots)), (qg 2, .inl (Y 0, 300, .inl g_parents))]) A) [.ref (qg 0), .ref (qn 0)].toArray s 0 0 A) (F0 m 2 ls []) := by
    intro n2
    induction n2 with
    | zero =>
      intro x2 hf H locs hP hD hS ls hl
      exact no_none hf
    | succ n2 ih2 =>
      intro x2 hf H locs hP hD hS ls hl
      have hf : f_X6_standsIn_s2 n_joins g_spots g_parents g_size (f_X6_standsIn_b2 n_joins g_spots g_parents g_size  n2) x2 = some (rv) := hf
      unfold f_X6_standsIn_s2 at hf
      refine lv_iload_n hx hb dX6_standsIn_2 rfl (lv_at hl 2 rfl) ?_
      refine lv_aload_n hx hb dX6_standsIn_3 rfl (lv_at hl 0 rfl) ?_
      refine va_get (D := G) (ci := 5) (v := .int g_size) (C := RX6) (T := TX6) (N := 8) hx hb hts inX6w hown hK hP 2 rfl rfl 7 (by decide) wd1 (fun _ h9 => h9) rfl dX6_standsIn_4 ?_
      refine lv_icmp_ge (tgt := 43) hx hb dX6_standsIn_7 (by decide) (fun c1 => ?_) (fun c1 => ?_)
      · have hf := it hf c1
        refine lv_iconst (v := 1) hx hb dX6_standsIn_43 (by decide) ?_
        have e0 := rt1 hf
        exact W.zret (v := (1 : Int32)) hx hb hr rfl (fun t ht hW => ⟨⟨(1 : Int32), (), rfl, e0, by rw [ht]; exact hP, va_K.moved hW.alike hK, by rw [hAe]; exact hD⟩, hS.F ht⟩) hS.2.2 dX6_standsIn_44
      · have hf := ie hf c1
        refine lv_aload_n hx hb dX6_standsIn_10 rfl (lv_at hl 1 rfl) ?_
        refine lv_aload_n hx hb dX6_standsIn_11 rfl (lv_at hl 0 rfl) ?_
        refine va_get (D := G) (ci := 5) (v := .ref (qg 1)) (C := RX6) (T := TX6) (N := 8) hx hb hts inX6w hown hK hP 2 rfl rfl 0 (by decide) wd2 (fun _ h9 => h9) rfl dX6_standsIn_12 ?_
        refine lv_iload_n hx hb dX6_standsIn_15 rfl (lv_at hl 2 rfl) ?_
        obtain ⟨g2, hf⟩ := gd hf
        refine va_iald hx hb hK hP 3 0 rfl rfl g2 dX6_standsIn_16 ?_
        refine lv_aload_n hx hb dX6_standsIn_17 rfl (lv_at hl 0 rfl) ?_
        refine va_get (D := G) (ci := 5) (v := .ref (qg 1)) (C := RX6) (T := TX6) (N := 8) hx hb hts inX6w hown hK hP 2 rfl rfl 0 (by decide) wd2 (fun _ h9 => h9) rfl dX6_standsIn_18 ?_
        refine lv_aload_n hx hb dX6_standsIn_21 rfl (lv_at hl 0 rfl) ?_
        refine va_get (D := G) (ci := 5) (v := .ref (qg 2)) (C := RX6) (T := TX6) (N := 8) hx hb hts inX6w hown hK hP 2 rfl rfl 1 (by decide) wd3 (fun _ h9 => h9) rfl dX6_standsIn_22 ?_
        refine lv_iload_n hx hb dX6_standsIn_25 rfl (lv_at hl 2 rfl) ?_
        obtain ⟨g3, hf⟩ := gd hf
        refine va_iald hx hb hK hP 4 0 rfl rfl g3 dX6_standsIn_26 ?_
        obtain ⟨g4, hf⟩ := gd hf
        refine va_iald hx hb hK hP 3 0 rfl rfl g4 dX6_standsIn_27 ?_
        obtain ⟨r5, hc, hf⟩ := bd1 hf
        refine cl_i (ws' := [(qn 0, oX1 qn n_pointCount n_lineCount n_tideNow n_age), (qn 5, .inl (Y 0, 144, .inl n_joins)), (qg 0, oX6 qg g_size), (qg 1, .inl (Y 0, 300, .inl g_spots)), (qg 2, .inl (Y 0, 300, .inl g_parents))]) (wr := [(qg 0, oX6 qg g_size), (qg 1, .inl (Y 0, 300, .inl g_spots)), (qg 2, .inl (Y 0, 300, .inl g_parents))]) (rnV (As := [.int (g_spots x2.toNatClampNeg), .int (g_spots (g_parents x2.toNatClampNeg).toNatClampNeg)]) (rest := []) ⟨hx, hb, hml, hown, hts⟩ (c_X1_joining l G Y H.size qn n_joins n_pointCount n_lineCount n_tideNow n_age (g_spots x2.toNatClampNeg) (g_spots (g_parents x2.toNatClampNeg).toNatClampNeg) r5 hc) (cwV 2 hts gX6_standsIn_X1_joining rfl rfl rfl (by decide +kernel) ⟨(Nat.le_of_ble_eq_true rfl), (Nat.le_of_ble_eq_true rfl)⟩) trivial okT hK hP hD [0, 1] rfl rfl (ci := 0) (q0 := 0) rfl rfl rfl rfl hl.1 rfl (Nat.le_of_ble_eq_true rfl) dX6_standsIn_28) hP hD hS hA [0, 1] [2, 3, 4] [3, 4, 0, 1, 2] rfl rfl rfl (by decide) rfl rfl (fun H locs hP hD hS => ?_)
        refine lv_iconst (v := -1) hx hb dX6_standsIn_31 (by decide) ?_
        refine lv_icmp_ne (tgt := 37) hx hb dX6_standsIn_32 (by decide) (fun c6 => ?_) (fun c6 => ?_)
        · have hf := ie hf c6
          obtain ⟨v7, e_v7⟩ : ∃ z : Int32, z = (x2 + 1) := ⟨_, rfl⟩
          have hf := nm_at hf e_v7
          refine lv_iinc (v := v7) (lv' := [(2, .int v7), (0, .ref (qg 0)), (1, .ref (qn 0))]) hx hb dX6_standsIn_37 hl (k := 2) rfl (by rw [e_v7]; rfl) (by decide) rfl (fun ls hl => ?_)
          refine lv_goto (tgt := 2) hx hb dX6_standsIn_40 (by decide) ?_
          exact ih2 v7 hf _ _ hP hD hS ls (lv_sub hl [1, 2, 0] rfl)
        · have hf := it hf c6
          refine lv_iconst (v := 0) hx hb dX6_standsIn_35 (by decide) ?_
          have e0 := rt1 hf
          exact W.zret (v := (0 : Int32)) hx hb hr rfl (fun t ht hW => ⟨⟨(0 : Int32), (), rfl, e0, by rw [ht]; exact hP, va_K.moved hW.alike hK, by rw [hAe]; exact hD⟩, hS.F ht⟩) hS.2.2 dX6_standsIn_36
  have E0 : ∀ (H : Heap) (locs : List Loc), va_P G vwCl [(qn 0, oX1 qn n_pointCount n_lineCount n_tideNow n_age), (qn 5, .inl (Y 0, 144, .inl n_joins)), (qg 0, oX6 qg g_size), (qg 1, .inl (Y 0, 300, .inl g_spots)), (qg 2, .inl (Y 0, 300, .inl g_parents))] H → va_D A [(qn 0, oX1 qn n_pointCount n_lineCount n_tideNow n_age), (qn 5, .inl (Y 0, 144, .inl n_joins)), (qg 0, oX6 qg g_size), (qg 1, .inl (Y 0, 300, .inl g_spots)), (qg 2, .inl (Y 0, 300, .inl g_parents))] → va_S A s.heap H locs → ∀ (ls : Array Slot), lv_has ls 3 [(0, .ref (qg 0)), (1, .ref (qn 0))] → W p l e (headSpec wsX6_standsIn (rmk 1 22)).room s m [.ref (qg 0), .ref (qn 0)].toArray below meth c H locs 0 0 (MQ below (va_Qi (fun (r : Int32) (_ : Unit) => r = rv) (Pst G (tys Y) [(qn 0, oX1 qn n_pointCount n_lineCount n_tideNow n_age), (qn 5, .inl (Y 0, 144, .inl n_joins)), (qg 0, oX6 qg g_size), (qg 1, .inl (Y 0, 300, .inl g_spots)), (qg 2, .inl (Y 0, 300, .inl g_parents))] s.heap.size [(qn 0, oX1 qn n_pointCount n_lineCount n_tideNow n_age), (qn 5, .inl (Y 0, 144, .inl n_joins)), (qg 0, oX6 qg g_size), (qg 1, .inl (Y 0, 300, .inl g_spots)), (qg 2, .inl (Y 0, 300, .inl g_parents))]) A) [.ref (qg 0), .ref (qn 0)].toArray s 0 0 A) (F0 m 0 ls []) := by
    intro H locs hP hD hS ls hl
    unfold f_X6_standsIn at hf
    refine lv_iconst (v := 1) hx hb dX6_standsIn_0 (by decide) ?_
    refine lv_istore_n (lv' := [(2, .int (1 : Int32)), (0, .ref (qg 0)), (1, .ref (qn 0))]) hx hb dX6_standsIn_1 rfl hl (by decide) rfl (fun ls hl => ?_)
    exact B2 310 (1 : Int32) hf _ _ hP hD hS ls (lv_sub hl [1, 2, 0] rfl)
  exact E0 s.heap [] hP hD hS ls hl
-- X6_weigh
set_option maxRecDepth 100000 in
set_option maxHeartbeats 4000000 in
theorem c_X6_weigh (l : Launch) (G : va_G) (Y : Nat → ClassId) (sz : Nat) (qn : Nat → Nat) (qg : Nat → Nat) (n_kinds : Nat → Int32) (n_figures : Nat → Int32) (n_joins : Nat → Int32) (n_pointCount : Int32) (n_lineCount : Int32) (n_tideNow : Int32) (n_age : Int32) (g_spots : Nat → Int32) (g_branches : Nat → Int32) (g_ends : Nat → Int32) (g_above : Nat → Int64) (g_below : Nat → Int64) (g_size : Int32) (p1 : Int32) (p3 : Int32) (o_g_above : Nat → Int64) (o_g_below : Nat → Int64) (hf : f_X6_weigh n_kinds n_figures n_joins n_tideNow g_spots g_branches g_ends g_above g_below g_size p1 p3 = some (o_g_above, o_g_below)) : Met l yX6_weigh wsX6_weigh (rmk 4 87) (va_Pc [.ref (qg 0), .int p1, .ref (qn 0), .int p3] (Pre G (tys Y) [(qn 0, oX1 qn n_pointCount n_lineCount n_tideNow n_age), (qn 1, .inl (Y 0, 40, .inl n_kinds)), (qn 2, .inl (Y 0, 40, .inl n_figures)), (qn 5, .inl (Y 0, 144, .inl n_joins)), (qg 0, oX6 qg g_size), (qg 1, .inl (Y 0, 300, .inl g_spots)), (qg 3, .inl (Y 0, 300, .inl g_branches)), (qg 5, .inl (Y 0, 300, .inl g_ends)), (qg 6, .inl (Y 1, 300, .inr (.inl g_above))), (qg 7, .inl (Y 1, 300, .inr (.inl g_below)))] sz xN)) (va_Qv (fun (_ : Unit) => True) (Pst G (tys Y) [(qn 0, oX1 qn n_pointCount n_lineCount n_tideNow n_age), (qn 1, .inl (Y 0, 40, .inl n_kinds)), (qn 2, .inl (Y 0, 40, .inl n_figures)), (qn 5, .inl (Y 0, 144, .inl n_joins)), (qg 0, oX6 qg g_size), (qg 1, .inl (Y 0, 300, .inl g_spots)), (qg 3, .inl (Y 0, 300, .inl g_branches)), (qg 5, .inl (Y 0, 300, .inl g_ends)), (qg 6, .inl (Y 1, 300, .inr (.inl g_above))), (qg 7, .inl (Y 1, 300, .inr (.inl g_below)))] sz [(qn 0, oX1 qn n_pointCount n_lineCount n_tideNow n_age), (qn 1, .inl (Y 0, 40, .inl n_kinds)), (qn 2, .inl (Y 0, 40, .inl n_figures)), (qn 5, .inl (Y 0, 144, .inl n_joins)), (qg 0, oX6 qg g_size), (qg 1, .inl (Y 0, 300, .inl g_spots)), (qg 3, .inl (Y 0, 300, .inl g_branches)), (qg 5, .inl (Y 0, 300, .inl g_ends)), (qg 6, .inl (Y 1, 300, .inr (.inl o_g_above))), (qg 7, .inl (Y 1, 300, .inr (.inl o_g_below)))]) (va_A [(qn 0, oX1 qn n_pointCount n_lineCount n_tideNow n_age), (qn 1, .inl (Y 0, 40, .inl n_kinds)), (qn 2, .inl (Y 0, 40, .inl n_figures)), (qn 5, .inl (Y 0, 144, .inl n_joins)), (qg 0, oX6 qg g_size), (qg 1, .inl (Y 0, 300, .inl g_spots)), (qg 3, .inl (Y 0, 300, .inl g_branches)), (qg 5, .inl (Y 0, 300, .inl g_ends)), (qg 6, .inl (Y 1, 300, .inr (.inl g_above))), (qg 7, .inl (Y 1, 300, .inr (.inl g_below)))] sz)) 0 0 (va_A [(qn 0, oX1 qn n_pointCount n_lineCount n_tideNow n_age), (qn 1, .inl (Y 0, 40, .inl n_kinds)), (qn 2, .inl (Y 0, 40, .inl n_figures)), (qn 5, .inl (Y 0, 144, .inl n_joins)), (qg 0, oX6 qg g_size), (qg 1, .inl (Y 0, 300, .inl g_spots)), (qg 3, .inl (Y 0, 300, .inl g_branches)), (qg 5, .inl (Y 0, 300, .inl g_ends)), (qg 6, .inl (Y 1, 300, .inr (.inl g_above))), (qg 7, .inl (Y 1, 300, .inr (.inl g_below)))] sz) := by
  refine Met.ofW (cc := cX6_weigh) (maxL := 23) (ret := none) (by decide) rfl ?_
  intro p e s m args below meth c s₁ B hml hv
  obtain ⟨rfl, hsz, hP, hK, hD0, hX⟩ := hv
  have hx := B.exec
  have hb := B.bytes
  have hr := B.returns
  have hts := atoms_spec (ws := wsX6_weigh) B.pre
  have hown : s.vm.findClass RX6 = some m.cls := findClass_of_methodNamed B.named
  have hlocks := B.notSynchronized
  subst hsz
  have hD := hD0.self (sz := s.heap.size)
  generalize hAe : va_A [(qn 0, oX1 qn n_pointCount n_lineCount n_tideNow n_age), (qn 1, .inl (Y 0, 40, .inl n_kinds)), (qn 2, .inl (Y 0, 40, .inl n_figures)), (qn 5, .inl (Y 0, 144, .inl n_joins)), (qg 0, oX6 qg g_size), (qg 1, .inl (Y 0, 300, .inl g_spots)), (qg 3, .inl (Y 0, 300, .inl g_branches)), (qg 5, .inl (Y 0, 300, .inl g_ends)), (qg 6, .inl (Y 1, 300, .inr (.inl g_above))), (qg 7, .inl (Y 1, 300, .inr (.inl g_below)))] s.heap.size = A at hD ⊢
  have hA : ∀ q : Nat, s.heap.size ≤ q → A q := fun q h => by rw [← hAe]; exact Or.inr h
  have hS : va_S A s.heap s.heap [] := va_S.rf
  have hP : va_P G vwCl [(qn 0, oX1 qn n_pointCount n_lineCount n_tideNow n_age), (qn 1, .inl (Y 0, 40, .inl n_kinds)), (qn 2, .inl (Y 0, 40, .inl n_figures)), (qn 5, .inl (Y 0, 144, .inl n_joins)), (qg 0, oX6 qg g_size), (qg 1, .inl (Y 0, 300, .inl g_spots)), (qg 3, .inl (Y 0, 300, .inl g_branches)), (qg 5, .inl (Y 0, 300, .inl g_ends)), (qg 6, .inl (Y 1, 300, .inr (.inl g_above))), (qg 7, .inl (Y 1, 300, .inr (.inl g_below)))] s.heap := hP
  have wd1 : (Cond.fieldLink RX6 18 "PairedLines$Tree" "branches" "[I").before [.ref (qg 0), .int p1, .ref (qn 0), .int p3].toArray s = true := hts _ (List.mem_of_getElem? (i := 1) rfl)
  have wd2 : (Cond.fieldLink RX6 34 "PairedLines$Tree" "size" "I").before [.ref (qg 0), .int p1, .ref (qn 0), .int p3].toArray s = true := hts _ (List.mem_of_getElem? (i := 2) rfl)
  have wd3 : (Cond.fieldLink RX6 9 "PairedLines$Tree" "spots" "[I").before [.ref (qg 0), .int p1, .ref (qn 0), .int p3].toArray s = true := hts _ (List.mem_of_getElem? (i := 3) rfl)
  have wd4 : (Cond.fieldLink RX6 31 "PairedLines$Tree" "below" "[J").before [.ref (qg 0), .int p1, .ref (qn 0), .int p3].toArray s = true := hts _ (List.mem_of_getElem? (i := 4) rfl)
  have wd5 : (Cond.fieldLink RX6 27 "PairedLines$Tree" "above" "[J").before [.ref (qg 0), .int p1, .ref (qn 0), .int p3].toArray s = true := hts _ (List.mem_of_getElem? (i := 5) rfl)
  have wd6 : (Cond.constantLong RX6 70 (-1)).before [.ref (qg 0), .int p1, .ref (qn 0), .int p3].toArray s = true := hts _ (List.mem_of_getElem? (i := 6) rfl)
  have wd7 : (Cond.fieldLink RX6 24 "PairedLines$Tree" "ends" "[I").before [.ref (qg 0), .int p1, .ref (qn 0), .int p3].toArray s = true := hts _ (List.mem_of_getElem? (i := 7) rfl)
  have inX6w : ∀ w ∈ u_ws RX6 TX6 8, w ∈ wsX6_weigh := fun w hw => List.mem_cons_of_mem _ (List.mem_append_left _ (List.mem_append_right _ (hw)))
  have hl := lv_entry ([.ref (qg 0), .int p1, .ref (qn 0), .int p3]) (n := 23) (Nat.le_of_ble_eq_true rfl)
  rw [lg_entry_eq]
  generalize (lg_sl ([.ref (qg 0), .int p1, .ref (qn 0), .int p3]) ++ List.replicate (23 - (lg_sl ([.ref (qg 0), .int p1, .ref (qn 0), .int p3])).length) Slot.unset).toArray = ls at hl ⊢
  have hl : lv_has ls 23 [(0, .ref (qg 0)), (1, .int p1), (2, .ref (qn 0)), (3, .int p3)] := hl
  have B204 : ∀ (b_g_above : Nat → Int64) (b_g_below : Nat → Int64) (x4 : Int64) (x6 : Int64), f_X6_weigh_b204 n_kinds n_figures n_joins n_tideNow g_spots g_branches g_ends g_size p1 p3 b_g_above b_g_below x4 x6 = some (o_g_above, o_g_below) → ∀ (H : Heap) (locs : List Loc), va_P G vwCl [(qn 0, oX1 qn n_pointCount n_lineCount n_tideNow n_age), (qn 1, .inl (Y 0, 40, .inl n_kinds)), (qn 2, .inl (Y 0, 40, .inl n_figures)), (qn 5, .inl (Y 0, 144, .inl n_joins)), (qg 0, oX6 qg g_size), (qg 1, .inl (Y 0, 300, .inl g_spots)), (qg 3, .inl (Y 0, 300, .inl g_branches)), (qg 5, .inl (Y 0, 300, .inl g_ends)), (qg 6, .inl (Y 1, 300, .inr (.inl b_g_above))), (qg 7, .inl (Y 1, 300, .inr (.inl b_g_below)))] H → va_D A [(qn 0, oX1 qn n_pointCount n_lineCount n_tideNow n_age), (qn 1, .inl (Y 0, 40, .inl n_kinds)), (qn 2, .inl (Y 0, 40, .inl n_figures)), (qn 5, .inl (Y 0, 144, .inl n_joins)), (qg 0, oX6 qg g_size), (qg 1, .inl (Y 0, 300, .inl g_spots)), (qg 3, .inl (Y 0, 300, .inl g_branches)), (qg 5, .inl (Y 0, 300, .inl g_ends)), (qg 6, .inl (Y 1, 300, .inr (.inl b_g_above))), (qg 7, .inl (Y 1, 300, .inr (.inl b_g_below)))] → va_S A s.heap H locs → ∀ (ls : Array Slot), lv_has ls 23 [(0, .ref (qg 0)), (1, .int p1), (4, .long x4), (6, .long x6)] → W p l e (headSpec wsX6_weigh (rmk 4 87)).room s m [.ref (qg 0), .int p1, .ref (qn 0), .int p3].toArray below meth c H locs 0 0 (MQ below (va_Qv (fun (_ : Unit) => True) (Pst G (tys Y) [(qn 0, oX1 qn n_pointCount n_lineCount n_tideNow n_age), (qn 1, .inl (Y 0, 40, .inl n_kinds)), (qn 2, .inl (Y 0, 40, .inl n_figures)), (qn 5, .inl (Y 0, 144, .inl n_joins)), (qg 0, oX6 qg g_size), (qg 1, .inl (Y 0, 300, .inl g_spots)), (qg 3, .inl (Y 0, 300, .inl g_branches)), (qg 5, .inl (Y 0, 300, .inl g_ends)), (qg 6, .inl (Y 1, 300, .inr (.inl g_above))), (qg 7, .inl (Y 1, 300, .inr (.inl g_below)))] s.heap.size [(qn 0, oX1 qn n_pointCount n_lineCount n_tideNow n_age), (qn 1, .inl (Y 0, 40, .inl n_kinds)), (qn 2, .inl (Y 0, 40, .inl n_figures)), (qn 5, .inl (Y 0, 144, .inl n_joins)), (qg 0, oX6 qg g_size), (qg 1, .inl (Y 0, 300, .inl g_spots)), (qg 3, .inl (Y 0, 300, .inl g_branches)), (qg 5, .inl (Y 0, 300, .inl g_ends)), (qg 6, .inl (Y 1, 300, .inr (.inl o_g_above))), (qg 7, .inl (Y 1, 300, .inr (.inl o_g_below)))]) A) [.ref (qg 0), .int p1, .ref (qn 0), .int p3].toArray s 0 0 A) (F0 m 204 ls []) := by
    intro b_g_above b_g_below x4 x6 hf H locs hP hD hS ls hl
    unfold f_X6_weigh_b204 at hf
    refine lv_aload_n hx hb dX6_weigh_204 rfl (lv_at hl 0 rfl) ?_
    refine va_get (D := G) (ci := 5) (v := .ref (qg 6)) (C := RX6) (T := TX6) (N := 8) hx hb hts inX6w hown hK hP 4 rfl rfl 5 (by decide) wd5 (fun _ h9 => h9) rfl dX6_weigh_205 ?_
    refine lv_iload_n hx hb dX6_weigh_208 rfl (lv_at hl 1 rfl) ?_
    refine lv_lload hx hb dX6_weigh_209 (lv_at hl 2 rfl) ?_
    obtain ⟨g1, hf⟩ := gd hf
    refine va_last hx hb hK hP hD hS 8 1 rfl rfl g1 dX6_weigh_211 (fun H locs hP hD hS => ?_)
    obtain ⟨v2, e_v2⟩ : ∃ z : Nat → Int64, z = vp_updL b_g_above p1.toNatClampNeg x4 := ⟨_, rfl⟩
    have hf := nm_at hf e_v2
    have hP : va_P G vwCl [(qn 0, oX1 qn n_pointCount n_lineCount n_tideNow n_age), (qn 1, .inl (Y 0, 40, .inl n_kinds)), (qn 2, .inl (Y 0, 40, .inl n_figures)), (qn 5, .inl (Y 0, 144, .inl n_joins)), (qg 0, oX6 qg g_size), (qg 1, .inl (Y 0, 300, .inl g_spots)), (qg 3, .inl (Y 0, 300, .inl g_branches)), (qg 5, .inl (Y 0, 300, .inl g_ends)), (qg 6, .inl (Y 1, 300, .inr (.inl v2))), (qg 7, .inl (Y 1, 300, .inr (.inl b_g_below)))] H := by rw [e_v2]; exact hP
    have hD : va_D A [(qn 0, oX1 qn n_pointCount n_lineCount n_tideNow n_age), (qn 1, .inl (Y 0, 40, .inl n_kinds)), (qn 2, .inl (Y 0, 40, .inl n_figures)), (qn 5, .inl (Y 0, 144, .inl n_joins)), (qg 0, oX6 qg g_size), (qg 1, .inl (Y 0, 300, .inl g_spots)), (qg 3, .inl (Y 0, 300, .inl g_branches)), (qg 5, .inl (Y 0, 300, .inl g_ends)), (qg 6, .inl (Y 1, 300, .inr (.inl v2))), (qg 7, .inl (Y 1, 300, .inr (.inl b_g_below)))] := by rw [e_v2]; exact hD
    refine lv_aload_n hx hb dX6_weigh_212 rfl (lv_at hl 0 rfl) ?_
    refine va_get (D := G) (ci := 5) (v := .ref (qg 7)) (C := RX6) (T := TX6) (N := 8) hx hb hts inX6w hown hK hP 4 rfl rfl 6 (by decide) wd4 (fun _ h9 => h9) rfl dX6_weigh_213 ?_
    refine lv_iload_n hx hb dX6_weigh_216 rfl (lv_at hl 1 rfl) ?_
    refine lv_lload hx hb dX6_weigh_217 (lv_at hl 3 rfl) ?_
    obtain ⟨g3, hf⟩ := gd hf
    refine va_last hx hb hK hP hD hS 9 1 rfl rfl g3 dX6_weigh_219 (fun H locs hP hD hS => ?_)
    obtain ⟨v4, e_v4⟩ : ∃ z : Nat → Int64, z = vp_updL b_g_below p1.toNatClampNeg x6 := ⟨_, rfl⟩
    have hf := nm_at hf e_v4
    have hP : va_P G vwCl [(qn 0, oX1 qn n_pointCount n_lineCount n_tideNow n_age), (qn 1, .inl (Y 0, 40, .inl n_kinds)), (qn 2, .inl (Y 0, 40, .inl n_figures)), (qn 5, .inl (Y 0, 144, .inl n_joins)), (qg 0, oX6 qg g_size), (qg 1, .inl (Y 0, 300, .inl g_spots)), (qg 3, .inl (Y 0, 300, .inl g_branches)), (qg 5, .inl (Y 0, 300, .inl g_ends)), (qg 6, .inl (Y 1, 300, .inr (.inl v2))), (qg 7, .inl (Y 1, 300, .inr (.inl v4)))] H := by rw [e_v4]; exact hP
    have hD : va_D A [(qn 0, oX1 qn n_pointCount n_lineCount n_tideNow n_age), (qn 1, .inl (Y 0, 40, .inl n_kinds)), (qn 2, .inl (Y 0, 40, .inl n_figures)), (qn 5, .inl (Y 0, 144, .inl n_joins)), (qg 0, oX6 qg g_size), (qg 1, .inl (Y 0, 300, .inl g_spots)), (qg 3, .inl (Y 0, 300, .inl g_branches)), (qg 5, .inl (Y 0, 300, .inl g_ends)), (qg 6, .inl (Y 1, 300, .inr (.inl v2))), (qg 7, .inl (Y 1, 300, .inr (.inl v4)))] := by rw [e_v4]; exact hD
    obtain ⟨e0, e1⟩ := rt2 hf
    have hP : va_P G vwCl [(qn 0, oX1 qn n_pointCount n_lineCount n_tideNow n_age), (qn 1, .inl (Y 0, 40, .inl n_kinds)), (qn 2, .inl (Y 0, 40, .inl n_figures)), (qn 5, .inl (Y 0, 144, .inl n_joins)), (qg 0, oX6 qg g_size), (qg 1, .inl (Y 0, 300, .inl g_spots)), (qg 3, .inl (Y 0, 300, .inl g_branches)), (qg 5, .inl (Y 0, 300, .inl g_ends)), (qg 6, .inl (Y 1, 300, .inr (.inl o_g_above))), (qg 7, .inl (Y 1, 300, .inr (.inl o_g_below)))] H := by rw [← e0, ← e1]; exact hP
    have hD : va_D A [(qn 0, oX1 qn n_pointCount n_lineCount n_tideNow n_age), (qn 1, .inl (Y 0, 40, .inl n_kinds)), (qn 2, .inl (Y 0, 40, .inl n_figures)), (qn 5, .inl (Y 0, 144, .inl n_joins)), (qg 0, oX6 qg g_size), (qg 1, .inl (Y 0, 300, .inl g_spots)), (qg 3, .inl (Y 0, 300, .inl g_branches)), (qg 5, .inl (Y 0, 300, .inl g_ends)), (qg 6, .inl (Y 1, 300, .inr (.inl o_g_above))), (qg 7, .inl (Y 1, 300, .inr (.inl o_g_below)))] := by rw [← e0, ← e1]; exact hD
    exact W.vret hx hb hr (fun t ht hW => ⟨⟨(), rfl, trivial, by rw [ht]; exact hP, va_K.moved hW.alike hK, by rw [hAe]; exact hD⟩, hS.F ht⟩) hS.2.2 dX6_weigh_220
  have B14 : ∀ (n14 : Nat), ∀ (b_g_above : Nat → Int64) (b_g_below : Nat → Int64) (x4 : Int64) (x6 : Int64) (x8 : Int32) (x9 : Int32), f_X6_weigh_b14 n_kinds n_figures n_joins n_tideNow g_spots g_branches g_ends g_size p1 p3 n14 b_g_above b_g_below x4 x6 x8 x9 = some (o_g_above, o_g_below) → ∀ (H : Heap) (locs : List Loc), va_P G vwCl [(qn 0, oX1 qn n_pointCount n_lineCount n_tideNow n_age), (qn 1, .inl (Y 0, 40, .inl n_kinds)), (qn 2, .inl (Y 0, 40, .inl n_figures)), (qn 5, .inl (Y 0, 144, .inl n_joins)), (qg 0, oX6 qg g_size), (qg 1, .inl (Y 0, 300, .inl g_spots)), (qg 3, .inl (Y 0, 300, .inl g_branches)), (qg 5, .inl (Y 0, 300, .inl g_ends)), (qg 6, .inl (Y 1, 300, .inr (.inl b_g_above))), (qg 7, .inl (Y 1, 300, .inr (.inl b_g_below)))] H → va_D A [(qn 0, oX1 qn n_pointCount n_lineCount n_tideNow n_age), (qn 1, .inl (Y 0, 40, .inl n_kinds)), (qn 2, .inl (Y 0, 40, .inl n_figures)), (qn 5, .inl (Y 0, 144, .inl n_joins)), (qg 0, oX6 qg g_size), (qg 1, .inl (Y 0, 300, .inl g_spots)), (qg 3, .inl (Y 0, 300, .inl g_branches)), (qg 5, .inl (Y 0, 300, .inl g_ends)), (qg 6, .inl (Y 1, 300, .inr (.inl b_g_above))), (qg 7, .inl (Y 1, 300, .inr (.inl b_g_below)))] → va_S A s.heap H locs → ∀ (ls : Array Slot), lv_has ls 23 [(0, .ref (qg 0)), (1, .int p1), (2, .ref (qn 0)), (3, .int p3), (4, .long x4), (6, .long x6), (8, .int x8), (9, .int x9)] → W p l e (headSpec wsX6_weigh (rmk 4 87)).room s m [.ref (qg 0), .int p1, .ref (qn 0), .int p3].toArray below meth c H locs 0 0 (MQ below (va_Qv (fun (_ : Unit) => True) (Pst G (tys Y) [(qn 0, oX1 qn n_pointCount n_lineCount n_tideNow n_age), (qn 1, .inl (Y 0, 40, .inl n_kinds)), (qn 2, .inl (Y 0, 40, .inl n_figures)), (qn 5, .inl (Y 0, 144, .inl n_joins)), (qg 0, oX6 qg g_size), (qg 1, .inl (Y 0, 300, .inl g_spots)), (qg 3, .inl (Y 0, 300, .inl g_branches)), (qg 5, .inl (Y 0, 300, .inl g_ends)), (qg 6, .inl (Y 1, 300, .inr (.inl g_above))), (qg 7, .inl (Y 1, 300, .inr (.inl g_below)))] s.heap.size [(qn 0, oX1 qn n_pointCount n_lineCount n_tideNow n_age), (qn 1, .inl (Y 0, 40, .inl n_kinds)), (qn 2, .inl (Y 0, 40, .inl n_figures)), (qn 5, .inl (Y 0, 144, .inl n_joins)), (qg 0, oX6 qg g_size), (qg 1, .inl (Y 0, 300, .inl g_spots)), (qg 3, .inl (Y 0, 300, .inl g_branches)), (qg 5, .inl (Y 0, 300, .inl g_ends)), (qg 6, .inl (Y 1, 300, .inr (.inl o_g_above))), (qg 7, .inl (Y 1, 300, .inr (.inl o_g_below)))]) A) [.ref (qg 0), .int p1, .ref (qn 0), .int p3].toArray s 0 0 A) (F0 m 14 ls []) := by
    intro n14
    induction n14 with
    | zero =>
      intro b_g_above b_g_below x4 x6 x8 x9 hf H locs hP hD hS ls hl
      exact no_none hf
    | succ n14 ih14 =>
      have B187 : ∀ (b_g_above : Nat → Int64) (b_g_below : Nat → Int64) (x4 : Int64) (x8 : Int32) (x9 : Int32) (y0 : Int64), f_X6_weigh_b187 n_kinds n_figures n_joins n_tideNow g_spots g_branches g_ends g_size p1 p3 (f_X6_weigh_b14 n_kinds n_figures n_joins n_tideNow g_spots g_branches g_ends g_size p1 p3 n14) b_g_above b_g_below x4 x8 x9 y0 = some (o_g_above, o_g_below) → ∀ (H : Heap) (locs : List Loc), va_P G vwCl [(qn 0, oX1 qn n_pointCount n_lineCount n_tideNow n_age), (qn 1, .inl (Y 0, 40, .inl n_kinds)), (qn 2, .inl (Y 0, 40, .inl n_figures)), (qn 5, .inl (Y 0, 144, .inl n_joins)), (qg 0, oX6 qg g_size), (qg 1, .inl (Y 0, 300, .inl g_spots)), (qg 3, .inl (Y 0, 300, .inl g_branches)), (qg 5, .inl (Y 0, 300, .inl g_ends)), (qg 6, .inl (Y 1, 300, .inr (.inl b_g_above))), (qg 7, .inl (Y 1, 300, .inr (.inl b_g_below)))] H → va_D A [(qn 0, oX1 qn n_pointCount n_lineCount n_tideNow n_age), (qn 1, .inl (Y 0, 40, .inl n_kinds)), (qn 2, .inl (Y 0, 40, .inl n_figures)), (qn 5, .inl (Y 0, 144, .inl n_joins)), (qg 0, oX6 qg g_size), (qg 1, .inl (Y 0, 300, .inl g_spots)), (qg 3, .inl (Y 0, 300, .inl g_branches)), (qg 5, .inl (Y 0, 300, .inl g_ends)), (qg 6, .inl (Y 1, 300, .inr (.inl b_g_above))), (qg 7, .inl (Y 1, 300, .inr (.inl b_g_below)))] → va_S A s.heap H locs → ∀ (ls : Array Slot), lv_has ls 23 [(0, .ref (qg 0)), (1, .int p1), (2, .ref (qn 0)), (3, .int p3), (4, .long x4), (8, .int x8), (9, .int x9)] → W p l e (headSpec wsX6_weigh (rmk 4 87)).room s m [.ref (qg 0), .int p1, .ref (qn 0), .int p3].toArray below meth c H locs 0 0 (MQ below (va_Qv (fun (_ : Unit) => True) (Pst G (tys Y) [(qn 0, oX1 qn n_pointCount n_lineCount n_tideNow n_age), (qn 1, .inl (Y 0, 40, .inl n_kinds)), (qn 2, .inl (Y 0, 40, .inl n_figures)), (qn 5, .inl (Y 0, 144, .inl n_joins)), (qg 0, oX6 qg g_size), (qg 1, .inl (Y 0, 300, .inl g_spots)), (qg 3, .inl (Y 0, 300, .inl g_branches)), (qg 5, .inl (Y 0, 300, .inl g_ends)), (qg 6, .inl (Y 1, 300, .inr (.inl g_above))), (qg 7, .inl (Y 1, 300, .inr (.inl g_below)))] s.heap.size [(qn 0, oX1 qn n_pointCount n_lineCount n_tideNow n_age), (qn 1, .inl (Y 0, 40, .inl n_kinds)), (qn 2, .inl (Y 0, 40, .inl n_figures)), (qn 5, .inl (Y 0, 144, .inl n_joins)), (qg 0, oX6 qg g_size), (qg 1, .inl (Y 0, 300, .inl g_spots)), (qg 3, .inl (Y 0, 300, .inl g_branches)), (qg 5, .inl (Y 0, 300, .inl g_ends)), (qg 6, .inl (Y 1, 300, .inr (.inl o_g_above))), (qg 7, .inl (Y 1, 300, .inr (.inl o_g_below)))]) A) [.ref (qg 0), .int p1, .ref (qn 0), .int p3].toArray s 0 0 A) (F0 m 187 ls [.long y0]) := by
        intro b_g_above b_g_below x4 x8 x9 y0 hf H locs hP hD hS ls hl
        unfold f_X6_weigh_b187 at hf
        refine lv_lstore (lv' := [(6, .long y0), (0, .ref (qg 0)), (1, .int p1), (2, .ref (qn 0)), (3, .int p3), (4, .long x4), (8, .int x8), (9, .int x9)]) hx hb dX6_weigh_187 hl (by decide) rfl (fun ls hl => ?_)
        refine lv_aload_n hx hb dX6_weigh_189 rfl (lv_at hl 1 rfl) ?_
        refine va_get (D := G) (ci := 5) (v := .ref (qg 5)) (C := RX6) (T := TX6) (N := 8) hx hb hts inX6w hown hK hP 4 rfl rfl 4 (by decide) wd7 (fun _ h9 => h9) rfl dX6_weigh_190 ?_
        refine lv_iload hx hb dX6_weigh_193 (lv_at hl 6 rfl) ?_
        obtain ⟨g5, hf⟩ := gd hf
        refine va_iald hx hb hK hP 7 0 rfl rfl g5 dX6_weigh_195 ?_
        refine lv_topi (fun v6 e_v6 => ?_)
        have hf := nm_at hf e_v6
        refine lv_istore (lv' := [(8, .int v6), (6, .long y0), (0, .ref (qg 0)), (1, .int p1), (2, .ref (qn 0)), (3, .int p3), (4, .long x4), (9, .int x9)]) hx hb dX6_weigh_196 hl (by decide) rfl (fun ls hl => ?_)
        obtain ⟨v7, e_v7⟩ : ∃ z : Int32, z = (x9 + 1) := ⟨_, rfl⟩
        have hf := nm_at hf e_v7
        refine lv_iinc (v := v7) (lv' := [(9, .int v7), (8, .int v6), (6, .long y0), (0, .ref (qg 0)), (1, .int p1), (2, .ref (qn 0)), (3, .int p3), (4, .long x4)]) hx hb dX6_weigh_198 hl (k := 7) rfl (by rw [e_v7]; rfl) (by decide) rfl (fun ls hl => ?_)
        refine lv_goto (tgt := 14) hx hb dX6_weigh_201 (by decide) ?_
        exact ih14 b_g_above b_g_below x4 y0 v6 v7 hf _ _ hP hD hS ls (lv_sub hl [3, 4, 5, 6, 7, 2, 1, 0] rfl)
      have B169 : ∀ (b_g_above : Nat → Int64) (b_g_below : Nat → Int64) (x8 : Int32) (x9 : Int32) (x18 : Int64) (x20 : Int32) (x21 : Int64) (y0 : Int64), f_X6_weigh_b169 n_kinds n_figures n_joins n_tideNow g_spots g_branches g_ends g_size p1 p3 (f_X6_weigh_b14 n_kinds n_figures n_joins n_tideNow g_spots g_branches g_ends g_size p1 p3 n14) b_g_above b_g_below x8 x9 x18 x20 x21 y0 = some (o_g_above, o_g_below) → ∀ (H : Heap) (locs : List Loc), va_P G vwCl [(qn 0, oX1 qn n_pointCount n_lineCount n_tideNow n_age), (qn 1, .inl (Y 0, 40, .inl n_kinds)), (qn 2, .inl (Y 0, 40, .inl n_figures)), (qn 5, .inl (Y 0, 144, .inl n_joins)), (qg 0, oX6 qg g_size), (qg 1, .inl (Y 0, 300, .inl g_spots)), (qg 3, .inl (Y 0, 300, .inl g_branches)), (qg 5, .inl (Y 0, 300, .inl g_ends)), (qg 6, .inl (Y 1, 300, .inr (.inl b_g_above))), (qg 7, .inl (Y 1, 300, .inr (.inl b_g_below)))] H → va_D A [(qn 0, oX1 qn n_pointCount n_lineCount n_tideNow n_age), (qn 1, .inl (Y 0, 40, .inl n_kinds)), (qn 2, .inl (Y 0, 40, .inl n_figures)), (qn 5, .inl (Y 0, 144, .inl n_joins)), (qg 0, oX6 qg g_size), (qg 1, .inl (Y 0, 300, .inl g_spots)), (qg 3, .inl (Y 0, 300, .inl g_branches)), (qg 5, .inl (Y 0, 300, .inl g_ends)), (qg 6, .inl (Y 1, 300, .inr (.inl b_g_above))), (qg 7, .inl (Y 1, 300, .inr (.inl b_g_below)))] → va_S A s.heap H locs → ∀ (ls : Array Slot), lv_has ls 23 [(0, .ref (qg 0)), (1, .int p1), (2, .ref (qn 0)), (3, .int p3), (8, .int x8), (9, .int x9), (18, .long x18), (20, .int x20), (21, .long x21)] → W p l e (headSpec wsX6_weigh (rmk 4 87)).room s m [.ref (qg 0), .int p1, .ref (qn 0), .int p3].toArray below meth c H locs 0 0 (MQ below (va_Qv (fun (_ : Unit) => True) (Pst G (tys Y) [(qn 0, oX1 qn n_pointCount n_lineCount n_tideNow n_age), (qn 1, .inl (Y 0, 40, .inl n_kinds)), (qn 2, .inl (Y 0, 40, .inl n_figures)), (qn 5, .inl (Y 0, 144, .inl n_joins)), (qg 0, oX6 qg g_size), (qg 1, .inl (Y 0, 300, .inl g_spots)), (qg 3, .inl (Y 0, 300, .inl g_branches)), (qg 5, .inl (Y 0, 300, .inl g_ends)), (qg 6, .inl (Y 1, 300, .inr (.inl g_above))), (qg 7, .inl (Y 1, 300, .inr (.inl g_below)))] s.heap.size [(qn 0, oX1 qn n_pointCount n_lineCount n_tideNow n_age), (qn 1, .inl (Y 0, 40, .inl n_kinds)), (qn 2, .inl (Y 0, 40, .inl n_figures)), (qn 5, .inl (Y 0, 144, .inl n_joins)), (qg 0, oX6 qg g_size), (qg 1, .inl (Y 0, 300, .inl g_spots)), (qg 3, .inl (Y 0, 300, .inl g_branches)), (qg 5, .inl (Y 0, 300, .inl g_ends)), (qg 6, .inl (Y 1, 300, .inr (.inl o_g_above))), (qg 7, .inl (Y 1, 300, .inr (.inl o_g_below)))]) A) [.ref (qg 0), .int p1, .ref (qn 0), .int p3].toArray s 0 0 A) (F0 m 169 ls [.long y0]) := by
        intro b_g_above b_g_below x8 x9 x18 x20 x21 y0 hf H locs hP hD hS ls hl
        unfold f_X6_weigh_b169 at hf
        refine lv_lstore (lv' := [(4, .long y0), (0, .ref (qg 0)), (1, .int p1), (2, .ref (qn 0)), (3, .int p3), (8, .int x8), (9, .int x9), (18, .long x18), (20, .int x20), (21, .long x21)]) hx hb dX6_weigh_169 hl (by decide) rfl (fun ls hl => ?_)
        refine lv_iload hx hb dX6_weigh_171 (lv_at hl 8 rfl) ?_
        refine lv_if_eq (tgt := 182) hx hb dX6_weigh_173 (by decide) (fun c8 => ?_) (fun c8 => ?_)
        · have hf := it hf c8
          refine lv_lload hx hb dX6_weigh_182 (lv_at hl 7 rfl) ?_
          refine lv_lload hx hb dX6_weigh_184 (lv_at hl 9 rfl) ?_
          obtain ⟨g9, hf⟩ := gd hf
          refine lv_ldiv hx hb dX6_weigh_186 g9 ?_
          exact B187 b_g_above b_g_below y0 x8 x9 (x18 / x21) hf _ _ hP hD hS ls (lv_sub hl [1, 2, 3, 4, 0, 5, 6] rfl)
        · have hf := ie hf c8
          refine lv_ldc2 hx hb hown wd6 dX6_weigh_176 ?_
          refine lv_goto (tgt := 187) hx hb dX6_weigh_179 (by decide) ?_
          exact B187 b_g_above b_g_below y0 x8 x9 (-1 : Int64) hf _ _ hP hD hS ls (lv_sub hl [1, 2, 3, 4, 0, 5, 6] rfl)
      have B151 : ∀ (b_g_above : Nat → Int64) (b_g_below : Nat → Int64) (x8 : Int32) (x9 : Int32) (x16 : Int64) (x18 : Int64) (x20 : Int32) (y0 : Int64), f_X6_weigh_b151 n_kinds n_figures n_joins n_tideNow g_spots g_branches g_ends g_size p1 p3 (f_X6_weigh_b14 n_kinds n_figures n_joins n_tideNow g_spots g_branches g_ends g_size p1 p3 n14) b_g_above b_g_below x8 x9 x16 x18 x20 y0 = some (o_g_above, o_g_below) → ∀ (H : Heap) (locs : List Loc), va_P G vwCl [(qn 0, oX1 qn n_pointCount n_lineCount n_tideNow n_age), (qn 1, .inl (Y 0, 40, .inl n_kinds)), (qn 2, .inl (Y 0, 40, .inl n_figures)), (qn 5, .inl (Y 0, 144, .inl n_joins)), (qg 0, oX6 qg g_size), (qg 1, .inl (Y 0, 300, .inl g_spots)), (qg 3, .inl (Y 0, 300, .inl g_branches)), (qg 5, .inl (Y 0, 300, .inl g_ends)), (qg 6, .inl (Y 1, 300, .inr (.inl b_g_above))), (qg 7, .inl (Y 1, 300, .inr (.inl b_g_below)))] H → va_D A [(qn 0, oX1 qn n_pointCount n_lineCount n_tideNow n_age), (qn 1, .inl (Y 0, 40, .inl n_kinds)), (qn 2, .inl (Y 0, 40, .inl n_figures)), (qn 5, .inl (Y 0, 144, .inl n_joins)), (qg 0, oX6 qg g_size), (qg 1, .inl (Y 0, 300, .inl g_spots)), (qg 3, .inl (Y 0, 300, .inl g_branches)), (qg 5, .inl (Y 0, 300, .inl g_ends)), (qg 6, .inl (Y 1, 300, .inr (.inl b_g_above))), (qg 7, .inl (Y 1, 300, .inr (.inl b_g_below)))] → va_S A s.heap H locs → ∀ (ls : Array Slot), lv_has ls 23 [(0, .ref (qg 0)), (1, .int p1), (2, .ref (qn 0)), (3, .int p3), (8, .int x8), (9, .int x9), (16, .long x16), (18, .long x18), (20, .int x20)] → W p l e (headSpec wsX6_weigh (rmk 4 87)).room s m [.ref (qg 0), .int p1, .ref (qn 0), .int p3].toArray below meth c H locs 0 0 (MQ below (va_Qv (fun (_ : Unit) => True) (Pst G (tys Y) [(qn 0, oX1 qn n_pointCount n_lineCount n_tideNow n_age), (qn 1, .inl (Y 0, 40, .inl n_kinds)), (qn 2, .inl (Y 0, 40, .inl n_figures)), (qn 5, .inl (Y 0, 144, .inl n_joins)), (qg 0, oX6 qg g_size), (qg 1, .inl (Y 0, 300, .inl g_spots)), (qg 3, .inl (Y 0, 300, .inl g_branches)), (qg 5, .inl (Y 0, 300, .inl g_ends)), (qg 6, .inl (Y 1, 300, .inr (.inl g_above))), (qg 7, .inl (Y 1, 300, .inr (.inl g_below)))] s.heap.size [(qn 0, oX1 qn n_pointCount n_lineCount n_tideNow n_age), (qn 1, .inl (Y 0, 40, .inl n_kinds)), (qn 2, .inl (Y 0, 40, .inl n_figures)), (qn 5, .inl (Y 0, 144, .inl n_joins)), (qg 0, oX6 qg g_size), (qg 1, .inl (Y 0, 300, .inl g_spots)), (qg 3, .inl (Y 0, 300, .inl g_branches)), (qg 5, .inl (Y 0, 300, .inl g_ends)), (qg 6, .inl (Y 1, 300, .inr (.inl o_g_above))), (qg 7, .inl (Y 1, 300, .inr (.inl o_g_below)))]) A) [.ref (qg 0), .int p1, .ref (qn 0), .int p3].toArray s 0 0 A) (F0 m 151 ls [.long y0]) := by
        intro b_g_above b_g_below x8 x9 x16 x18 x20 y0 hf H locs hP hD hS ls hl
        unfold f_X6_weigh_b151 at hf
        refine lv_lstore (lv' := [(21, .long y0), (0, .ref (qg 0)), (1, .int p1), (2, .ref (qn 0)), (3, .int p3), (8, .int x8), (9, .int x9), (16, .long x16), (18, .long x18), (20, .int x20)]) hx hb dX6_weigh_151 hl (by decide) rfl (fun ls hl => ?_)
        refine lv_iload hx hb dX6_weigh_153 (lv_at hl 9 rfl) ?_
        refine lv_if_eq (tgt := 164) hx hb dX6_weigh_155 (by decide) (fun c10 => ?_) (fun c10 => ?_)
        · have hf := it hf c10
          refine lv_lload hx hb dX6_weigh_164 (lv_at hl 7 rfl) ?_
          refine lv_lload hx hb dX6_weigh_166 (lv_at hl 0 rfl) ?_
          obtain ⟨g11, hf⟩ := gd hf
          refine lv_ldiv hx hb dX6_weigh_168 g11 ?_
          exact B169 b_g_above b_g_below x8 x9 x18 x20 y0 (x16 / y0) hf _ _ hP hD hS ls (lv_sub hl [1, 2, 3, 4, 5, 6, 8, 9, 0] rfl)
        · have hf := ie hf c10
          refine lv_ldc2 hx hb hown wd6 dX6_weigh_158 ?_
          refine lv_goto (tgt := 169) hx hb dX6_weigh_161 (by decide) ?_
          exact B169 b_g_above b_g_below x8 x9 x18 x20 y0 (-1 : Int64) hf _ _ hP hD hS ls (lv_sub hl [1, 2, 3, 4, 5, 6, 8, 9, 0] rfl)
      have B133 : ∀ (b_g_above : Nat → Int64) (b_g_below : Nat → Int64) (x8 : Int32) (x9 : Int32) (x16 : Int64) (x18 : Int64) (y0 : Int32), f_X6_weigh_b133 n_kinds n_figures n_joins n_tideNow g_spots g_branches g_ends g_size p1 p3 (f_X6_weigh_b14 n_kinds n_figures n_joins n_tideNow g_spots g_branches g_ends g_size p1 p3 n14) b_g_above b_g_below x8 x9 x16 x18 y0 = some (o_g_above, o_g_below) → ∀ (H : Heap) (locs : List Loc), va_P G vwCl [(qn 0, oX1 qn n_pointCount n_lineCount n_tideNow n_age), (qn 1, .inl (Y 0, 40, .inl n_kinds)), (qn 2, .inl (Y 0, 40, .inl n_figures)), (qn 5, .inl (Y 0, 144, .inl n_joins)), (qg 0, oX6 qg g_size), (qg 1, .inl (Y 0, 300, .inl g_spots)), (qg 3, .inl (Y 0, 300, .inl g_branches)), (qg 5, .inl (Y 0, 300, .inl g_ends)), (qg 6, .inl (Y 1, 300, .inr (.inl b_g_above))), (qg 7, .inl (Y 1, 300, .inr (.inl b_g_below)))] H → va_D A [(qn 0, oX1 qn n_pointCount n_lineCount n_tideNow n_age), (qn 1, .inl (Y 0, 40, .inl n_kinds)), (qn 2, .inl (Y 0, 40, .inl n_figures)), (qn 5, .inl (Y 0, 144, .inl n_joins)), (qg 0, oX6 qg g_size), (qg 1, .inl (Y 0, 300, .inl g_spots)), (qg 3, .inl (Y 0, 300, .inl g_branches)), (qg 5, .inl (Y 0, 300, .inl g_ends)), (qg 6, .inl (Y 1, 300, .inr (.inl b_g_above))), (qg 7, .inl (Y 1, 300, .inr (.inl b_g_below)))] → va_S A s.heap H locs → ∀ (ls : Array Slot), lv_has ls 23 [(0, .ref (qg 0)), (1, .int p1), (2, .ref (qn 0)), (3, .int p3), (8, .int x8), (9, .int x9), (16, .long x16), (18, .long x18)] → W p l e (headSpec wsX6_weigh (rmk 4 87)).room s m [.ref (qg 0), .int p1, .ref (qn 0), .int p3].toArray below meth c H locs 0 0 (MQ below (va_Qv (fun (_ : Unit) => True) (Pst G (tys Y) [(qn 0, oX1 qn n_pointCount n_lineCount n_tideNow n_age), (qn 1, .inl (Y 0, 40, .inl n_kinds)), (qn 2, .inl (Y 0, 40, .inl n_figures)), (qn 5, .inl (Y 0, 144, .inl n_joins)), (qg 0, oX6 qg g_size), (qg 1, .inl (Y 0, 300, .inl g_spots)), (qg 3, .inl (Y 0, 300, .inl g_branches)), (qg 5, .inl (Y 0, 300, .inl g_ends)), (qg 6, .inl (Y 1, 300, .inr (.inl g_above))), (qg 7, .inl (Y 1, 300, .inr (.inl g_below)))] s.heap.size [(qn 0, oX1 qn n_pointCount n_lineCount n_tideNow n_age), (qn 1, .inl (Y 0, 40, .inl n_kinds)), (qn 2, .inl (Y 0, 40, .inl n_figures)), (qn 5, .inl (Y 0, 144, .inl n_joins)), (qg 0, oX6 qg g_size), (qg 1, .inl (Y 0, 300, .inl g_spots)), (qg 3, .inl (Y 0, 300, .inl g_branches)), (qg 5, .inl (Y 0, 300, .inl g_ends)), (qg 6, .inl (Y 1, 300, .inr (.inl o_g_above))), (qg 7, .inl (Y 1, 300, .inr (.inl o_g_below)))]) A) [.ref (qg 0), .int p1, .ref (qn 0), .int p3].toArray s 0 0 A) (F0 m 133 ls [.int y0]) := by
        intro b_g_above b_g_below x8 x9 x16 x18 y0 hf H locs hP hD hS ls hl
        unfold f_X6_weigh_b133 at hf
        refine lv_istore (lv' := [(20, .int y0), (0, .ref (qg 0)), (1, .int p1), (2, .ref (qn 0)), (3, .int p3), (8, .int x8), (9, .int x9), (16, .long x16), (18, .long x18)]) hx hb dX6_weigh_133 hl (by decide) rfl (fun ls hl => ?_)
        refine lv_iload hx hb dX6_weigh_135 (lv_at hl 0 rfl) ?_
        refine lv_if_eq (tgt := 144) hx hb dX6_weigh_137 (by decide) (fun c12 => ?_) (fun c12 => ?_)
        · have hf := it hf c12
          refine lv_lload hx hb dX6_weigh_144 (lv_at hl 7 rfl) ?_
          refine lv_lload hx hb dX6_weigh_146 (lv_at hl 8 rfl) ?_
          obtain ⟨r13, hc, hf⟩ := bd1 hf
          refine cl_l (ws' := [(qn 0, oX1 qn n_pointCount n_lineCount n_tideNow n_age), (qn 1, .inl (Y 0, 40, .inl n_kinds)), (qn 2, .inl (Y 0, 40, .inl n_figures)), (qn 5, .inl (Y 0, 144, .inl n_joins)), (qg 0, oX6 qg g_size), (qg 1, .inl (Y 0, 300, .inl g_spots)), (qg 3, .inl (Y 0, 300, .inl g_branches)), (qg 5, .inl (Y 0, 300, .inl g_ends)), (qg 6, .inl (Y 1, 300, .inr (.inl b_g_above))), (qg 7, .inl (Y 1, 300, .inr (.inl b_g_below)))]) (wr := [(qn 0, oX1 qn n_pointCount n_lineCount n_tideNow n_age), (qn 1, .inl (Y 0, 40, .inl n_kinds)), (qn 2, .inl (Y 0, 40, .inl n_figures)), (qn 5, .inl (Y 0, 144, .inl n_joins)), (qg 0, oX6 qg g_size), (qg 1, .inl (Y 0, 300, .inl g_spots)), (qg 3, .inl (Y 0, 300, .inl g_branches)), (qg 5, .inl (Y 0, 300, .inl g_ends)), (qg 6, .inl (Y 1, 300, .inr (.inl b_g_above))), (qg 7, .inl (Y 1, 300, .inr (.inl b_g_below)))]) (rnS (As := [.long x16, .long x18]) (rest := []) ⟨hx, hb, hml, hown, hts⟩ (c_X7_commonOf l G Y H.size x16 x18 r13 hc) (va_cwS 2 hts gX6_weigh_X7_commonOf rfl rfl rfl (by decide +kernel) ⟨(Nat.le_of_ble_eq_true rfl), (Nat.le_of_ble_eq_true rfl)⟩) trivial okT hK hP hD [] rfl rfl rfl hl.1 rfl (Nat.le_of_ble_eq_true rfl) dX6_weigh_148) hP hD hS hA [] [0, 1, 2, 3, 4, 5, 6, 7, 8, 9] [0, 1, 2, 3, 4, 5, 6, 7, 8, 9] rfl rfl rfl (by decide) rfl rfl (fun H locs hP hD hS => ?_)
          exact B151 b_g_above b_g_below x8 x9 x16 x18 y0 r13 hf _ _ hP hD hS ls (lv_sub hl [1, 2, 3, 4, 5, 6, 7, 8, 0] rfl)
        · have hf := ie hf c12
          refine lv_lconst (v := 1) hx hb dX6_weigh_140 (by decide) ?_
          refine lv_goto (tgt := 151) hx hb dX6_weigh_141 (by decide) ?_
          exact B151 b_g_above b_g_below x8 x9 x16 x18 y0 (1 : Int64) hf _ _ hP hD hS ls (lv_sub hl [1, 2, 3, 4, 5, 6, 7, 8, 0] rfl)
      have B128 : ∀ (b_g_above : Nat → Int64) (b_g_below : Nat → Int64) (x8 : Int32) (x9 : Int32) (x16 : Int64) (x18 : Int64), f_X6_weigh_b128 n_kinds n_figures n_joins n_tideNow g_spots g_branches g_ends g_size p1 p3 (f_X6_weigh_b14 n_kinds n_figures n_joins n_tideNow g_spots g_branches g_ends g_size p1 p3 n14) b_g_above b_g_below x8 x9 x16 x18 = some (o_g_above, o_g_below) → ∀ (H : Heap) (locs : List Loc), va_P G vwCl [(qn 0, oX1 qn n_pointCount n_lineCount n_tideNow n_age), (qn 1, .inl (Y 0, 40, .inl n_kinds)), (qn 2, .inl (Y 0, 40, .inl n_figures)), (qn 5, .inl (Y 0, 144, .inl n_joins)), (qg 0, oX6 qg g_size), (qg 1, .inl (Y 0, 300, .inl g_spots)), (qg 3, .inl (Y 0, 300, .inl g_branches)), (qg 5, .inl (Y 0, 300, .inl g_ends)), (qg 6, .inl (Y 1, 300, .inr (.inl b_g_above))), (qg 7, .inl (Y 1, 300, .inr (.inl b_g_below)))] H → va_D A [(qn 0, oX1 qn n_pointCount n_lineCount n_tideNow n_age), (qn 1, .inl (Y 0, 40, .inl n_kinds)), (qn 2, .inl (Y 0, 40, .inl n_figures)), (qn 5, .inl (Y 0, 144, .inl n_joins)), (qg 0, oX6 qg g_size), (qg 1, .inl (Y 0, 300, .inl g_spots)), (qg 3, .inl (Y 0, 300, .inl g_branches)), (qg 5, .inl (Y 0, 300, .inl g_ends)), (qg 6, .inl (Y 1, 300, .inr (.inl b_g_above))), (qg 7, .inl (Y 1, 300, .inr (.inl b_g_below)))] → va_S A s.heap H locs → ∀ (ls : Array Slot), lv_has ls 23 [(0, .ref (qg 0)), (1, .int p1), (2, .ref (qn 0)), (3, .int p3), (8, .int x8), (9, .int x9), (16, .long x16), (18, .long x18)] → W p l e (headSpec wsX6_weigh (rmk 4 87)).room s m [.ref (qg 0), .int p1, .ref (qn 0), .int p3].toArray below meth c H locs 0 0 (MQ below (va_Qv (fun (_ : Unit) => True) (Pst G (tys Y) [(qn 0, oX1 qn n_pointCount n_lineCount n_tideNow n_age), (qn 1, .inl (Y 0, 40, .inl n_kinds)), (qn 2, .inl (Y 0, 40, .inl n_figures)), (qn 5, .inl (Y 0, 144, .inl n_joins)), (qg 0, oX6 qg g_size), (qg 1, .inl (Y 0, 300, .inl g_spots)), (qg 3, .inl (Y 0, 300, .inl g_branches)), (qg 5, .inl (Y 0, 300, .inl g_ends)), (qg 6, .inl (Y 1, 300, .inr (.inl g_above))), (qg 7, .inl (Y 1, 300, .inr (.inl g_below)))] s.heap.size [(qn 0, oX1 qn n_pointCount n_lineCount n_tideNow n_age), (qn 1, .inl (Y 0, 40, .inl n_kinds)), (qn 2, .inl (Y 0, 40, .inl n_figures)), (qn 5, .inl (Y 0, 144, .inl n_joins)), (qg 0, oX6 qg g_size), (qg 1, .inl (Y 0, 300, .inl g_spots)), (qg 3, .inl (Y 0, 300, .inl g_branches)), (qg 5, .inl (Y 0, 300, .inl g_ends)), (qg 6, .inl (Y 1, 300, .inr (.inl o_g_above))), (qg 7, .inl (Y 1, 300, .inr (.inl o_g_below)))]) A) [.ref (qg 0), .int p1, .ref (qn 0), .int p3].toArray s 0 0 A) (F0 m 128 ls []) := by
        intro b_g_above b_g_below x8 x9 x16 x18 hf H locs hP hD hS ls hl
        unfold f_X6_weigh_b128 at hf
        refine lv_iconst (v := 1) hx hb dX6_weigh_128 (by decide) ?_
        refine lv_goto (tgt := 133) hx hb dX6_weigh_129 (by decide) ?_
        exact B133 b_g_above b_g_below x8 x9 x16 x18 (1 : Int32) hf _ _ hP hD hS ls (lv_sub hl [0, 1, 2, 3, 4, 5, 6, 7] rfl)
      intro b_g_above b_g_below x4 x6 x8 x9 hf H locs hP hD hS ls hl
      have hf : f_X6_weigh_s14 n_kinds n_figures n_joins n_tideNow g_spots g_branches g_ends g_size p1 p3 (f_X6_weigh_b14 n_kinds n_figures n_joins n_tideNow g_spots g_branches g_ends g_size p1 p3  n14) b_g_above b_g_below x4 x6 x8 x9 = some (o_g_above, o_g_below) := hf
      unfold f_X6_weigh_s14 at hf
      refine lv_iload hx hb dX6_weigh_14 (lv_at hl 7 rfl) ?_
      refine lv_aload_n hx hb dX6_weigh_16 rfl (lv_at hl 0 rfl) ?_
      refine va_get (D := G) (ci := 5) (v := .ref (qg 3)) (C := RX6) (T := TX6) (N := 8) hx hb hts inX6w hown hK hP 4 rfl rfl 2 (by decide) wd1 (fun _ h9 => h9) rfl dX6_weigh_17 ?_
      refine lv_iload_n hx hb dX6_weigh_20 rfl (lv_at hl 1 rfl) ?_
      obtain ⟨g14, hf⟩ := gd hf
      refine va_iald hx hb hK hP 6 0 rfl rfl g14 dX6_weigh_21 ?_
      refine lv_icmp_ge (tgt := 204) hx hb dX6_weigh_22 (by decide) (fun c15 => ?_) (fun c15 => ?_)
      · have hf := it hf c15
        exact B204 b_g_above b_g_below x4 x6 hf _ _ hP hD hS ls (lv_sub hl [0, 1, 4, 5] rfl)
      · have hf := ie hf c15
        refine lv_iload hx hb dX6_weigh_25 (lv_at hl 6 rfl) ?_
        refine lv_aload_n hx hb dX6_weigh_27 rfl (lv_at hl 0 rfl) ?_
        refine va_get (D := G) (ci := 5) (v := .int g_size) (C := RX6) (T := TX6) (N := 8) hx hb hts inX6w hown hK hP 4 rfl rfl 7 (by decide) wd2 (fun _ h9 => h9) rfl dX6_weigh_28 ?_
        refine lv_icmp_ge (tgt := 204) hx hb dX6_weigh_31 (by decide) (fun c16 => ?_) (fun c16 => ?_)
        · have hf := it hf c16
          exact B204 b_g_above b_g_below x4 x6 hf _ _ hP hD hS ls (lv_sub hl [0, 1, 4, 5] rfl)
        · have hf := ie hf c16
          refine lv_lload hx hb dX6_weigh_34 (lv_at hl 4 rfl) ?_
          refine lv_lconst (v := 0) hx hb dX6_weigh_36 (by decide) ?_
          refine W.lcmp hx hb dX6_weigh_37 ?_
          refine lv_if_le (tgt := 204) hx hb dX6_weigh_38 (by decide) (fun c17 => ?_) (fun c17 => ?_)
          · have hf := it hf c17
            exact B204 b_g_above b_g_below x4 x6 hf _ _ hP hD hS ls (lv_sub hl [0, 1, 4, 5] rfl)
          · have hf := ie hf c17
            refine lv_iload_n hx hb dX6_weigh_41 rfl (lv_at hl 3 rfl) ?_
            refine lv_aload_n hx hb dX6_weigh_42 rfl (lv_at hl 2 rfl) ?_
            refine lv_aload_n hx hb dX6_weigh_43 rfl (lv_at hl 0 rfl) ?_
            refine va_get (D := G) (ci := 5) (v := .ref (qg 1)) (C := RX6) (T := TX6) (N := 8) hx hb hts inX6w hown hK hP 4 rfl rfl 0 (by decide) wd3 (fun _ h9 => h9) rfl dX6_weigh_44 ?_
            refine lv_iload_n hx hb dX6_weigh_47 rfl (lv_at hl 1 rfl) ?_
            obtain ⟨g18, hf⟩ := gd hf
            refine va_iald hx hb hK hP 5 0 rfl rfl g18 dX6_weigh_48 ?_
            refine lv_aload_n hx hb dX6_weigh_49 rfl (lv_at hl 0 rfl) ?_
            refine va_get (D := G) (ci := 5) (v := .ref (qg 1)) (C := RX6) (T := TX6) (N := 8) hx hb hts inX6w hown hK hP 4 rfl rfl 0 (by decide) wd3 (fun _ h9 => h9) rfl dX6_weigh_50 ?_
            refine lv_iload hx hb dX6_weigh_53 (lv_at hl 6 rfl) ?_
            obtain ⟨g19, hf⟩ := gd hf
            refine va_iald hx hb hK hP 5 0 rfl rfl g19 dX6_weigh_55 ?_
            obtain ⟨r20, hc, hf⟩ := bd1 hf
            refine cl_i (ws' := [(qn 0, oX1 qn n_pointCount n_lineCount n_tideNow n_age), (qn 1, .inl (Y 0, 40, .inl n_kinds)), (qn 2, .inl (Y 0, 40, .inl n_figures)), (qn 5, .inl (Y 0, 144, .inl n_joins)), (qg 0, oX6 qg g_size), (qg 1, .inl (Y 0, 300, .inl g_spots)), (qg 3, .inl (Y 0, 300, .inl g_branches)), (qg 5, .inl (Y 0, 300, .inl g_ends)), (qg 6, .inl (Y 1, 300, .inr (.inl b_g_above))), (qg 7, .inl (Y 1, 300, .inr (.inl b_g_below)))]) (wr := [(qg 0, oX6 qg g_size), (qg 1, .inl (Y 0, 300, .inl g_spots)), (qg 3, .inl (Y 0, 300, .inl g_branches)), (qg 5, .inl (Y 0, 300, .inl g_ends)), (qg 6, .inl (Y 1, 300, .inr (.inl b_g_above))), (qg 7, .inl (Y 1, 300, .inr (.inl b_g_below)))]) (rnV (As := [.int (g_spots p1.toNatClampNeg), .int (g_spots x8.toNatClampNeg)]) (rest := [.int p3]) ⟨hx, hb, hml, hown, hts⟩ (c_X1_weightBetween l G Y H.size qn n_kinds n_figures n_joins n_pointCount n_lineCount n_tideNow n_age (g_spots p1.toNatClampNeg) (g_spots x8.toNatClampNeg) r20 hc) (cwV 2 hts gX6_weigh_X1_weightBetween rfl rfl rfl (by decide +kernel) ⟨(Nat.le_of_ble_eq_true rfl), (Nat.le_of_ble_eq_true rfl)⟩) hX okN hK hP hD [0, 1, 2, 3] rfl rfl (ci := 0) (q0 := 0) rfl rfl rfl rfl hl.1 rfl (Nat.le_of_ble_eq_true rfl) dX6_weigh_56) hP hD hS hA [0, 1, 2, 3] [4, 5, 6, 7, 8, 9] [6, 7, 8, 9, 0, 1, 2, 3, 4, 5] rfl rfl rfl (by decide) rfl rfl (fun H locs hP hD hS => ?_)
            refine lv_imul hx hb dX6_weigh_59 ?_
            refine lv_i2l hx hb dX6_weigh_60 rfl ?_
            refine lv_topl (fun v21 e_v21 => ?_)
            have hf := nm_at hf e_v21
            refine lv_lstore (lv' := [(10, .long v21), (0, .ref (qg 0)), (1, .int p1), (2, .ref (qn 0)), (3, .int p3), (4, .long x4), (6, .long x6), (8, .int x8), (9, .int x9)]) hx hb dX6_weigh_61 hl (by decide) rfl (fun ls hl => ?_)
            refine lv_aload_n hx hb dX6_weigh_63 rfl (lv_at hl 1 rfl) ?_
            refine va_get (D := G) (ci := 5) (v := .ref (qg 7)) (C := RX6) (T := TX6) (N := 8) hx hb hts inX6w hown hK hP 4 rfl rfl 6 (by decide) wd4 (fun _ h9 => h9) rfl dX6_weigh_64 ?_
            refine lv_iload hx hb dX6_weigh_67 (lv_at hl 7 rfl) ?_
            obtain ⟨g22, hf⟩ := gd hf
            refine va_lald hx hb hK hP 9 1 rfl rfl g22 dX6_weigh_69 ?_
            refine lv_topl (fun v23 e_v23 => ?_)
            have hf := nm_at hf e_v23
            refine lv_lstore (lv' := [(12, .long v23), (10, .long v21), (0, .ref (qg 0)), (1, .int p1), (2, .ref (qn 0)), (3, .int p3), (4, .long x4), (6, .long x6), (8, .int x8), (9, .int x9)]) hx hb dX6_weigh_70 hl (by decide) rfl (fun ls hl => ?_)
            refine lv_aload_n hx hb dX6_weigh_72 rfl (lv_at hl 2 rfl) ?_
            refine va_get (D := G) (ci := 5) (v := .ref (qg 6)) (C := RX6) (T := TX6) (N := 8) hx hb hts inX6w hown hK hP 4 rfl rfl 5 (by decide) wd5 (fun _ h9 => h9) rfl dX6_weigh_73 ?_
            refine lv_iload hx hb dX6_weigh_76 (lv_at hl 8 rfl) ?_
            obtain ⟨g24, hf⟩ := gd hf
            refine va_lald hx hb hK hP 8 1 rfl rfl g24 dX6_weigh_78 ?_
            refine lv_topl (fun v25 e_v25 => ?_)
            have hf := nm_at hf e_v25
            refine lv_lstore (lv' := [(14, .long v25), (12, .long v23), (10, .long v21), (0, .ref (qg 0)), (1, .int p1), (2, .ref (qn 0)), (3, .int p3), (4, .long x4), (6, .long x6), (8, .int x8), (9, .int x9)]) hx hb dX6_weigh_79 hl (by decide) rfl (fun ls hl => ?_)
            refine lv_lload hx hb dX6_weigh_81 (lv_at hl 7 rfl) ?_
            refine lv_lload hx hb dX6_weigh_83 (lv_at hl 0 rfl) ?_
            obtain ⟨r26, hc, hf⟩ := bd1 hf
            refine cl_l (ws' := [(qn 0, oX1 qn n_pointCount n_lineCount n_tideNow n_age), (qn 1, .inl (Y 0, 40, .inl n_kinds)), (qn 2, .inl (Y 0, 40, .inl n_figures)), (qn 5, .inl (Y 0, 144, .inl n_joins)), (qg 0, oX6 qg g_size), (qg 1, .inl (Y 0, 300, .inl g_spots)), (qg 3, .inl (Y 0, 300, .inl g_branches)), (qg 5, .inl (Y 0, 300, .inl g_ends)), (qg 6, .inl (Y 1, 300, .inr (.inl b_g_above))), (qg 7, .inl (Y 1, 300, .inr (.inl b_g_below)))]) (wr := [(qn 0, oX1 qn n_pointCount n_lineCount n_tideNow n_age), (qn 1, .inl (Y 0, 40, .inl n_kinds)), (qn 2, .inl (Y 0, 40, .inl n_figures)), (qn 5, .inl (Y 0, 144, .inl n_joins)), (qg 0, oX6 qg g_size), (qg 1, .inl (Y 0, 300, .inl g_spots)), (qg 3, .inl (Y 0, 300, .inl g_branches)), (qg 5, .inl (Y 0, 300, .inl g_ends)), (qg 6, .inl (Y 1, 300, .inr (.inl b_g_above))), (qg 7, .inl (Y 1, 300, .inr (.inl b_g_below)))]) (rnS (As := [.long x4, .long v25]) (rest := []) ⟨hx, hb, hml, hown, hts⟩ (c_X7_times l G Y H.size x4 v25 r26 hc) (va_cwS 2 hts gX6_weigh_X7_times rfl rfl rfl (by decide +kernel) ⟨(Nat.le_of_ble_eq_true rfl), (Nat.le_of_ble_eq_true rfl)⟩) trivial okT hK hP hD [] rfl rfl rfl hl.1 rfl (Nat.le_of_ble_eq_true rfl) dX6_weigh_85) hP hD hS hA [] [0, 1, 2, 3, 4, 5, 6, 7, 8, 9] [0, 1, 2, 3, 4, 5, 6, 7, 8, 9] rfl rfl rfl (by decide) rfl rfl (fun H locs hP hD hS => ?_)
            refine lv_lload hx hb dX6_weigh_88 (lv_at hl 2 rfl) ?_
            refine lv_lload hx hb dX6_weigh_90 (lv_at hl 1 rfl) ?_
            obtain ⟨r27, hc, hf⟩ := bd1 hf
            refine cl_l (ws' := [(qn 0, oX1 qn n_pointCount n_lineCount n_tideNow n_age), (qn 1, .inl (Y 0, 40, .inl n_kinds)), (qn 2, .inl (Y 0, 40, .inl n_figures)), (qn 5, .inl (Y 0, 144, .inl n_joins)), (qg 0, oX6 qg g_size), (qg 1, .inl (Y 0, 300, .inl g_spots)), (qg 3, .inl (Y 0, 300, .inl g_branches)), (qg 5, .inl (Y 0, 300, .inl g_ends)), (qg 6, .inl (Y 1, 300, .inr (.inl b_g_above))), (qg 7, .inl (Y 1, 300, .inr (.inl b_g_below)))]) (wr := [(qn 0, oX1 qn n_pointCount n_lineCount n_tideNow n_age), (qn 1, .inl (Y 0, 40, .inl n_kinds)), (qn 2, .inl (Y 0, 40, .inl n_figures)), (qn 5, .inl (Y 0, 144, .inl n_joins)), (qg 0, oX6 qg g_size), (qg 1, .inl (Y 0, 300, .inl g_spots)), (qg 3, .inl (Y 0, 300, .inl g_branches)), (qg 5, .inl (Y 0, 300, .inl g_ends)), (qg 6, .inl (Y 1, 300, .inr (.inl b_g_above))), (qg 7, .inl (Y 1, 300, .inr (.inl b_g_below)))]) (rnS (As := [.long v21, .long v23]) (rest := [.long r26]) ⟨hx, hb, hml, hown, hts⟩ (c_X7_times l G Y H.size v21 v23 r27 hc) (va_cwS 2 hts gX6_weigh_X7_times rfl rfl rfl (by decide +kernel) ⟨(Nat.le_of_ble_eq_true rfl), (Nat.le_of_ble_eq_true rfl)⟩) trivial okT hK hP hD [] rfl rfl rfl hl.1 rfl (Nat.le_of_ble_eq_true rfl) dX6_weigh_92) hP hD hS hA [] [0, 1, 2, 3, 4, 5, 6, 7, 8, 9] [0, 1, 2, 3, 4, 5, 6, 7, 8, 9] rfl rfl rfl (by decide) rfl rfl (fun H locs hP hD hS => ?_)
            refine lv_lload hx hb dX6_weigh_95 (lv_at hl 8 rfl) ?_
            obtain ⟨r28, hc, hf⟩ := bd1 hf
            refine cl_l (ws' := [(qn 0, oX1 qn n_pointCount n_lineCount n_tideNow n_age), (qn 1, .inl (Y 0, 40, .inl n_kinds)), (qn 2, .inl (Y 0, 40, .inl n_figures)), (qn 5, .inl (Y 0, 144, .inl n_joins)), (qg 0, oX6 qg g_size), (qg 1, .inl (Y 0, 300, .inl g_spots)), (qg 3, .inl (Y 0, 300, .inl g_branches)), (qg 5, .inl (Y 0, 300, .inl g_ends)), (qg 6, .inl (Y 1, 300, .inr (.inl b_g_above))), (qg 7, .inl (Y 1, 300, .inr (.inl b_g_below)))]) (wr := [(qn 0, oX1 qn n_pointCount n_lineCount n_tideNow n_age), (qn 1, .inl (Y 0, 40, .inl n_kinds)), (qn 2, .inl (Y 0, 40, .inl n_figures)), (qn 5, .inl (Y 0, 144, .inl n_joins)), (qg 0, oX6 qg g_size), (qg 1, .inl (Y 0, 300, .inl g_spots)), (qg 3, .inl (Y 0, 300, .inl g_branches)), (qg 5, .inl (Y 0, 300, .inl g_ends)), (qg 6, .inl (Y 1, 300, .inr (.inl b_g_above))), (qg 7, .inl (Y 1, 300, .inr (.inl b_g_below)))]) (rnS (As := [.long r27, .long x6]) (rest := [.long r26]) ⟨hx, hb, hml, hown, hts⟩ (c_X7_times l G Y H.size r27 x6 r28 hc) (va_cwS 2 hts gX6_weigh_X7_times rfl rfl rfl (by decide +kernel) ⟨(Nat.le_of_ble_eq_true rfl), (Nat.le_of_ble_eq_true rfl)⟩) trivial okT hK hP hD [] rfl rfl rfl hl.1 rfl (Nat.le_of_ble_eq_true rfl) dX6_weigh_97) hP hD hS hA [] [0, 1, 2, 3, 4, 5, 6, 7, 8, 9] [0, 1, 2, 3, 4, 5, 6, 7, 8, 9] rfl rfl rfl (by decide) rfl rfl (fun H locs hP hD hS => ?_)
            obtain ⟨r29, hc, hf⟩ := bd1 hf
            refine cl_l (ws' := [(qn 0, oX1 qn n_pointCount n_lineCount n_tideNow n_age), (qn 1, .inl (Y 0, 40, .inl n_kinds)), (qn 2, .inl (Y 0, 40, .inl n_figures)), (qn 5, .inl (Y 0, 144, .inl n_joins)), (qg 0, oX6 qg g_size), (qg 1, .inl (Y 0, 300, .inl g_spots)), (qg 3, .inl (Y 0, 300, .inl g_branches)), (qg 5, .inl (Y 0, 300, .inl g_ends)), (qg 6, .inl (Y 1, 300, .inr (.inl b_g_above))), (qg 7, .inl (Y 1, 300, .inr (.inl b_g_below)))]) (wr := [(qn 0, oX1 qn n_pointCount n_lineCount n_tideNow n_age), (qn 1, .inl (Y 0, 40, .inl n_kinds)), (qn 2, .inl (Y 0, 40, .inl n_figures)), (qn 5, .inl (Y 0, 144, .inl n_joins)), (qg 0, oX6 qg g_size), (qg 1, .inl (Y 0, 300, .inl g_spots)), (qg 3, .inl (Y 0, 300, .inl g_branches)), (qg 5, .inl (Y 0, 300, .inl g_ends)), (qg 6, .inl (Y 1, 300, .inr (.inl b_g_above))), (qg 7, .inl (Y 1, 300, .inr (.inl b_g_below)))]) (rnS (As := [.long r26, .long r28]) (rest := []) ⟨hx, hb, hml, hown, hts⟩ (c_X7_plus l G Y H.size r26 r28 r29 hc) (va_cwS 2 hts gX6_weigh_X7_plus rfl rfl rfl (by decide +kernel) ⟨(Nat.le_of_ble_eq_true rfl), (Nat.le_of_ble_eq_true rfl)⟩) trivial okT hK hP hD [] rfl rfl rfl hl.1 rfl (Nat.le_of_ble_eq_true rfl) dX6_weigh_100) hP hD hS hA [] [0, 1, 2, 3, 4, 5, 6, 7, 8, 9] [0, 1, 2, 3, 4, 5, 6, 7, 8, 9] rfl rfl rfl (by decide) rfl rfl (fun H locs hP hD hS => ?_)
            refine lv_lstore (lv' := [(16, .long r29), (14, .long v25), (12, .long v23), (10, .long v21), (0, .ref (qg 0)), (1, .int p1), (2, .ref (qn 0)), (3, .int p3), (4, .long x4), (6, .long x6), (8, .int x8), (9, .int x9)]) hx hb dX6_weigh_103 hl (by decide) rfl (fun ls hl => ?_)
            refine lv_lload hx hb dX6_weigh_105 (lv_at hl 9 rfl) ?_
            refine lv_lload hx hb dX6_weigh_107 (lv_at hl 1 rfl) ?_
            obtain ⟨r30, hc, hf⟩ := bd1 hf
            refine cl_l (ws' := [(qn 0, oX1 qn n_pointCount n_lineCount n_tideNow n_age), (qn 1, .inl (Y 0, 40, .inl n_kinds)), (qn 2, .inl (Y 0, 40, .inl n_figures)), (qn 5, .inl (Y 0, 144, .inl n_joins)), (qg 0, oX6 qg g_size), (qg 1, .inl (Y 0, 300, .inl g_spots)), (qg 3, .inl (Y 0, 300, .inl g_branches)), (qg 5, .inl (Y 0, 300, .inl g_ends)), (qg 6, .inl (Y 1, 300, .inr (.inl b_g_above))), (qg 7, .inl (Y 1, 300, .inr (.inl b_g_below)))]) (wr := [(qn 0, oX1 qn n_pointCount n_lineCount n_tideNow n_age), (qn 1, .inl (Y 0, 40, .inl n_kinds)), (qn 2, .inl (Y 0, 40, .inl n_figures)), (qn 5, .inl (Y 0, 144, .inl n_joins)), (qg 0, oX6 qg g_size), (qg 1, .inl (Y 0, 300, .inl g_spots)), (qg 3, .inl (Y 0, 300, .inl g_branches)), (qg 5, .inl (Y 0, 300, .inl g_ends)), (qg 6, .inl (Y 1, 300, .inr (.inl b_g_above))), (qg 7, .inl (Y 1, 300, .inr (.inl b_g_below)))]) (rnS (As := [.long x6, .long v25]) (rest := []) ⟨hx, hb, hml, hown, hts⟩ (c_X7_times l G Y H.size x6 v25 r30 hc) (va_cwS 2 hts gX6_weigh_X7_times rfl rfl rfl (by decide +kernel) ⟨(Nat.le_of_ble_eq_true rfl), (Nat.le_of_ble_eq_true rfl)⟩) trivial okT hK hP hD [] rfl rfl rfl hl.1 rfl (Nat.le_of_ble_eq_true rfl) dX6_weigh_109) hP hD hS hA [] [0, 1, 2, 3, 4, 5, 6, 7, 8, 9] [0, 1, 2, 3, 4, 5, 6, 7, 8, 9] rfl rfl rfl (by decide) rfl rfl (fun H locs hP hD hS => ?_)
            refine lv_lstore (lv' := [(18, .long r30), (16, .long r29), (14, .long v25), (12, .long v23), (10, .long v21), (0, .ref (qg 0)), (1, .int p1), (2, .ref (qn 0)), (3, .int p3), (4, .long x4), (6, .long x6), (8, .int x8), (9, .int x9)]) hx hb dX6_weigh_112 hl (by decide) rfl (fun ls hl => ?_)
            refine lv_lload hx hb dX6_weigh_114 (lv_at hl 1 rfl) ?_
            refine lv_lconst (v := 0) hx hb dX6_weigh_116 (by decide) ?_
            refine W.lcmp hx hb dX6_weigh_117 ?_
            refine lv_if_le (tgt := 128) hx hb dX6_weigh_118 (by decide) (fun c31 => ?_) (fun c31 => ?_)
            · have hf := it hf c31
              exact B128 b_g_above b_g_below x8 x9 r29 r30 hf _ _ hP hD hS ls (lv_sub hl [5, 6, 7, 8, 11, 12, 1, 0] rfl)
            · have hf := ie hf c31
              refine lv_lload hx hb dX6_weigh_121 (lv_at hl 0 rfl) ?_
              refine lv_lconst (v := 0) hx hb dX6_weigh_123 (by decide) ?_
              refine W.lcmp hx hb dX6_weigh_124 ?_
              refine lv_if_gt (tgt := 132) hx hb dX6_weigh_125 (by decide) (fun c32 => ?_) (fun c32 => ?_)
              · have hf := it hf c32
                refine lv_iconst (v := 0) hx hb dX6_weigh_132 (by decide) ?_
                exact B133 b_g_above b_g_below x8 x9 r29 r30 (0 : Int32) hf _ _ hP hD hS ls (lv_sub hl [5, 6, 7, 8, 11, 12, 1, 0] rfl)
              · have hf := ie hf c32
                exact B128 b_g_above b_g_below x8 x9 r29 r30 hf _ _ hP hD hS ls (lv_sub hl [5, 6, 7, 8, 11, 12, 1, 0] rfl)
  have E0 : ∀ (H : Heap) (locs : List Loc), va_P G vwCl [(qn 0, oX1 qn n_pointCount n_lineCount n_tideNow n_age), (qn 1, .inl (Y 0, 40, .inl n_kinds)), (qn 2, .inl (Y 0, 40, .inl n_figures)), (qn 5, .inl (Y 0, 144, .inl n_joins)), (qg 0, oX6 qg g_size), (qg 1, .inl (Y 0, 300, .inl g_spots)), (qg 3, .inl (Y 0, 300, .inl g_branches)), (qg 5, .inl (Y 0, 300, .inl g_ends)), (qg 6, .inl (Y 1, 300, .inr (.inl g_above))), (qg 7, .inl (Y 1, 300, .inr (.inl g_below)))] H → va_D A [(qn 0, oX1 qn n_pointCount n_lineCount n_tideNow n_age), (qn 1, .inl (Y 0, 40, .inl n_kinds)), (qn 2, .inl (Y 0, 40, .inl n_figures)), (qn 5, .inl (Y 0, 144, .inl n_joins)), (qg 0, oX6 qg g_size), (qg 1, .inl (Y 0, 300, .inl g_spots)), (qg 3, .inl (Y 0, 300, .inl g_branches)), (qg 5, .inl (Y 0, 300, .inl g_ends)), (qg 6, .inl (Y 1, 300, .inr (.inl g_above))), (qg 7, .inl (Y 1, 300, .inr (.inl g_below)))] → va_S A s.heap H locs → ∀ (ls : Array Slot), lv_has ls 23 [(0, .ref (qg 0)), (1, .int p1), (2, .ref (qn 0)), (3, .int p3)] → W p l e (headSpec wsX6_weigh (rmk 4 87)).room s m [.ref (qg 0), .int p1, .ref (qn 0), .int p3].toArray below meth c H locs 0 0 (MQ below (va_Qv (fun (_ : Unit) => True) (Pst G (tys Y) [(qn 0, oX1 qn n_pointCount n_lineCount n_tideNow n_age), (qn 1, .inl (Y 0, 40, .inl n_kinds)), (qn 2, .inl (Y 0, 40, .inl n_figures)), (qn 5, .inl (Y 0, 144, .inl n_joins)), (qg 0, oX6 qg g_size), (qg 1, .inl (Y 0, 300, .inl g_spots)), (qg 3, .inl (Y 0, 300, .inl g_branches)), (qg 5, .inl (Y 0, 300, .inl g_ends)), (qg 6, .inl (Y 1, 300, .inr (.inl g_above))), (qg 7, .inl (Y 1, 300, .inr (.inl g_below)))] s.heap.size [(qn 0, oX1 qn n_pointCount n_lineCount n_tideNow n_age), (qn 1, .inl (Y 0, 40, .inl n_kinds)), (qn 2, .inl (Y 0, 40, .inl n_figures)), (qn 5, .inl (Y 0, 144, .inl n_joins)), (qg 0, oX6 qg g_size), (qg 1, .inl (Y 0, 300, .inl g_spots)), (qg 3, .inl (Y 0, 300, .inl g_branches)), (qg 5, .inl (Y 0, 300, .inl g_ends)), (qg 6, .inl (Y 1, 300, .inr (.inl o_g_above))), (qg 7, .inl (Y 1, 300, .inr (.inl o_g_below)))]) A) [.ref (qg 0), .int p1, .ref (qn 0), .int p3].toArray s 0 0 A) (F0 m 0 ls []) := by
    intro H locs hP hD hS ls hl
    unfold f_X6_weigh at hf
    refine lv_lconst (v := 1) hx hb dX6_weigh_0 (by decide) ?_
    refine lv_lstore (lv' := [(4, .long (1 : Int64)), (0, .ref (qg 0)), (1, .int p1), (2, .ref (qn 0)), (3, .int p3)]) hx hb dX6_weigh_1 hl (by decide) rfl (fun ls hl => ?_)
    refine lv_lconst (v := 1) hx hb dX6_weigh_3 (by decide) ?_
    refine lv_lstore (lv' := [(6, .long (1 : Int64)), (4, .long (1 : Int64)), (0, .ref (qg 0)), (1, .int p1), (2, .ref (qn 0)), (3, .int p3)]) hx hb dX6_weigh_4 hl (by decide) rfl (fun ls hl => ?_)
    refine lv_iload_n hx hb dX6_weigh_6 rfl (lv_at hl 3 rfl) ?_
    refine lv_iconst (v := 1) hx hb dX6_weigh_7 (by decide) ?_
    refine lv_iadd hx hb dX6_weigh_8 ?_
    refine lv_topi (fun v33 e_v33 => ?_)
    have hf := nm_at hf e_v33
    refine lv_istore (lv' := [(8, .int v33), (6, .long (1 : Int64)), (4, .long (1 : Int64)), (0, .ref (qg 0)), (1, .int p1), (2, .ref (qn 0)), (3, .int p3)]) hx hb dX6_weigh_9 hl (by decide) rfl (fun ls hl => ?_)
    refine lv_iconst (v := 0) hx hb dX6_weigh_11 (by decide) ?_
    refine lv_istore (lv' := [(9, .int (0 : Int32)), (8, .int v33), (6, .long (1 : Int64)), (4, .long (1 : Int64)), (0, .ref (qg 0)), (1, .int p1), (2, .ref (qn 0)), (3, .int p3)]) hx hb dX6_weigh_12 hl (by decide) rfl (fun ls hl => ?_)
    exact B14 70 g_above g_below (1 : Int64) (1 : Int64) v33 (0 : Int32) hf _ _ hP hD hS ls (lv_sub hl [4, 5, 6, 7, 3, 2, 1, 0] rfl)
  exact E0 s.heap [] hP hD hS ls hl
-- X6_weighFrom
set_option maxRecDepth 100000 in
set_option maxHeartbeats 4000000 in
theorem c_X6_weighFrom (l : Launch) (G : va_G) (Y : Nat → ClassId) (sz : Nat) (qn : Nat → Nat) (qg : Nat → Nat) (n_kinds : Nat → Int32) (n_figures : Nat → Int32) (n_joins : Nat → Int32) (n_pointCount : Int32) (n_lineCount : Int32) (n_tideNow : Int32) (n_age : Int32) (g_spots : Nat → Int32) (g_branches : Nat → Int32) (g_ends : Nat → Int32) (g_above : Nat → Int64) (g_below : Nat → Int64) (g_size : Int32) (p1 : Int32) (p3 : Int32) (o_g_above : Nat → Int64) (o_g_below : Nat → Int64) (hf : f_X6_weighFrom n_kinds n_figures n_joins n_tideNow g_spots g_branches g_ends g_above g_below g_size p1 p3 = some (o_g_above, o_g_below)) : Met l yX6_weighFrom wsX6_weighFrom (rmk 5 129) (va_Pc [.ref (qg 0), .int p1, .ref (qn 0), .int p3] (Pre G (tys Y) [(qn 0, oX1 qn n_pointCount n_lineCount n_tideNow n_age), (qn 1, .inl (Y 0, 40, .inl n_kinds)), (qn 2, .inl (Y 0, 40, .inl n_figures)), (qn 5, .inl (Y 0, 144, .inl n_joins)), (qg 0, oX6 qg g_size), (qg 1, .inl (Y 0, 300, .inl g_spots)), (qg 3, .inl (Y 0, 300, .inl g_branches)), (qg 5, .inl (Y 0, 300, .inl g_ends)), (qg 6, .inl (Y 1, 300, .inr (.inl g_above))), (qg 7, .inl (Y 1, 300, .inr (.inl g_below)))] sz xN)) (va_Qv (fun (_ : Unit) => True) (Pst G (tys Y) [(qn 0, oX1 qn n_pointCount n_lineCount n_tideNow n_age), (qn 1, .inl (Y 0, 40, .inl n_kinds)), (qn 2, .inl (Y 0, 40, .inl n_figures)), (qn 5, .inl (Y 0, 144, .inl n_joins)), (qg 0, oX6 qg g_size), (qg 1, .inl (Y 0, 300, .inl g_spots)), (qg 3, .inl (Y 0, 300, .inl g_branches)), (qg 5, .inl (Y 0, 300, .inl g_ends)), (qg 6, .inl (Y 1, 300, .inr (.inl g_above))), (qg 7, .inl (Y 1, 300, .inr (.inl g_below)))] sz [(qn 0, oX1 qn n_pointCount n_lineCount n_tideNow n_age), (qn 1, .inl (Y 0, 40, .inl n_kinds)), (qn 2, .inl (Y 0, 40, .inl n_figures)), (qn 5, .inl (Y 0, 144, .inl n_joins)), (qg 0, oX6 qg g_size), (qg 1, .inl (Y 0, 300, .inl g_spots)), (qg 3, .inl (Y 0, 300, .inl g_branches)), (qg 5, .inl (Y 0, 300, .inl g_ends)), (qg 6, .inl (Y 1, 300, .inr (.inl o_g_above))), (qg 7, .inl (Y 1, 300, .inr (.inl o_g_below)))]) (va_A [(qn 0, oX1 qn n_pointCount n_lineCount n_tideNow n_age), (qn 1, .inl (Y 0, 40, .inl n_kinds)), (qn 2, .inl (Y 0, 40, .inl n_figures)), (qn 5, .inl (Y 0, 144, .inl n_joins)), (qg 0, oX6 qg g_size), (qg 1, .inl (Y 0, 300, .inl g_spots)), (qg 3, .inl (Y 0, 300, .inl g_branches)), (qg 5, .inl (Y 0, 300, .inl g_ends)), (qg 6, .inl (Y 1, 300, .inr (.inl g_above))), (qg 7, .inl (Y 1, 300, .inr (.inl g_below)))] sz)) 0 0 (va_A [(qn 0, oX1 qn n_pointCount n_lineCount n_tideNow n_age), (qn 1, .inl (Y 0, 40, .inl n_kinds)), (qn 2, .inl (Y 0, 40, .inl n_figures)), (qn 5, .inl (Y 0, 144, .inl n_joins)), (qg 0, oX6 qg g_size), (qg 1, .inl (Y 0, 300, .inl g_spots)), (qg 3, .inl (Y 0, 300, .inl g_branches)), (qg 5, .inl (Y 0, 300, .inl g_ends)), (qg 6, .inl (Y 1, 300, .inr (.inl g_above))), (qg 7, .inl (Y 1, 300, .inr (.inl g_below)))] sz) := by
  refine Met.ofW (cc := cX6_weighFrom) (maxL := 5) (ret := none) (by decide) rfl ?_
  intro p e s m args below meth c s₁ B hml hv
  obtain ⟨rfl, hsz, hP, hK, hD0, hX⟩ := hv
  have hx := B.exec
  have hb := B.bytes
  have hr := B.returns
  have hts := atoms_spec (ws := wsX6_weighFrom) B.pre
  have hown : s.vm.findClass RX6 = some m.cls := findClass_of_methodNamed B.named
  have hlocks := B.notSynchronized
  subst hsz
  have hD := hD0.self (sz := s.heap.size)
  generalize hAe : va_A [(qn 0, oX1 qn n_pointCount n_lineCount n_tideNow n_age), (qn 1, .inl (Y 0, 40, .inl n_kinds)), (qn 2, .inl (Y 0, 40, .inl n_figures)), (qn 5, .inl (Y 0, 144, .inl n_joins)), (qg 0, oX6 qg g_size), (qg 1, .inl (Y 0, 300, .inl g_spots)), (qg 3, .inl (Y 0, 300, .inl g_branches)), (qg 5, .inl (Y 0, 300, .inl g_ends)), (qg 6, .inl (Y 1, 300, .inr (.inl g_above))), (qg 7, .inl (Y 1, 300, .inr (.inl g_below)))] s.heap.size = A at hD ⊢
  have hA : ∀ q : Nat, s.heap.size ≤ q → A q := fun q h => by rw [← hAe]; exact Or.inr h
  have hS : va_S A s.heap s.heap [] := va_S.rf
  have hP : va_P G vwCl [(qn 0, oX1 qn n_pointCount n_lineCount n_tideNow n_age), (qn 1, .inl (Y 0, 40, .inl n_kinds)), (qn 2, .inl (Y 0, 40, .inl n_figures)), (qn 5, .inl (Y 0, 144, .inl n_joins)), (qg 0, oX6 qg g_size), (qg 1, .inl (Y 0, 300, .inl g_spots)), (qg 3, .inl (Y 0, 300, .inl g_branches)), (qg 5, .inl (Y 0, 300, .inl g_ends)), (qg 6, .inl (Y 1, 300, .inr (.inl g_above))), (qg 7, .inl (Y 1, 300, .inr (.inl g_below)))] s.heap := hP
  have wd1 : (Cond.fieldLink RX6 24 "PairedLines$Tree" "ends" "[I").before [.ref (qg 0), .int p1, .ref (qn 0), .int p3].toArray s = true := hts _ (List.mem_of_getElem? (i := 1) rfl)
  have inX6w : ∀ w ∈ u_ws RX6 TX6 8, w ∈ wsX6_weighFrom := fun w hw => List.mem_cons_of_mem _ (List.mem_append_left _ (List.mem_append_right _ (hw)))
  have hl := lv_entry ([.ref (qg 0), .int p1, .ref (qn 0), .int p3]) (n := 5) (Nat.le_of_ble_eq_true rfl)
  rw [lg_entry_eq]
  generalize (lg_sl ([.ref (qg 0), .int p1, .ref (qn 0), .int p3]) ++ List.replicate (5 - (lg_sl ([.ref (qg 0), .int p1, .ref (qn 0), .int p3])).length) Slot.unset).toArray = ls at hl ⊢
  have hl : lv_has ls 5 [(0, .ref (qg 0)), (1, .int p1), (2, .ref (qn 0)), (3, .int p3)] := hl
  have B10 : ∀ (n10 : Nat), ∀ (b_g_above : Nat → Int64) (b_g_below : Nat → Int64) (x4 : Int32), f_X6_weighFrom_b10 n_kinds n_figures n_joins n_tideNow g_spots g_branches g_ends g_size p1 p3 n10 b_g_above b_g_below x4 = some (o_g_above, o_g_below) → ∀ (H : Heap) (locs : List Loc), va_P G vwCl [(qn 0, oX1 qn n_pointCount n_lineCount n_tideNow n_age), (qn 1, .inl (Y 0, 40, .inl n_kinds)), (qn 2, .inl (Y 0, 40, .inl n_figures)), (qn 5, .inl (Y 0, 144, .inl n_joins)), (qg 0, oX6 qg g_size), (qg 1, .inl (Y 0, 300, .inl g_spots)), (qg 3, .inl (Y 0, 300, .inl g_branches)), (qg 5, .inl (Y 0, 300, .inl g_ends)), (qg 6, .inl (Y 1, 300, .inr (.inl b_g_above))), (qg 7, .inl (Y 1, 300, .inr (.inl b_g_below)))] H → va_D A [(qn 0, oX1 qn n_pointCount n_lineCount n_tideNow n_age), (qn 1, .inl (Y 0, 40, .inl n_kinds)), (qn 2, .inl (Y 0, 40, .inl n_figures)), (qn 5, .inl (Y 0, 144, .inl n_joins)), (qg 0, oX6 qg g_size), (qg 1, .inl (Y 0, 300, .inl g_spots)), (qg 3, .inl (Y 0, 300, .inl g_branches)), (qg 5, .inl (Y 0, 300, .inl g_ends)), (qg 6, .inl (Y 1, 300, .inr (.inl b_g_above))), (qg 7, .inl (Y 1, 300, .inr (.inl b_g_below)))] → va_S A s.heap H locs → ∀ (ls : Array Slot), lv_has ls 5 [(0, .ref (qg 0)), (1, .int p1), (2, .ref (qn 0)), (3, .int p3), (4, .int x4)] → W p l e (headSpec wsX6_weighFrom (rmk 5 129)).room s m [.ref (qg 0), .int p1, .ref (qn 0), .int p3].toArray below meth c H locs 0 0 (MQ below (va_Qv (fun (_ : Unit) => True) (Pst G (tys Y) [(qn 0, oX1 qn n_pointCount n_lineCount n_tideNow n_age), (qn 1, .inl (Y 0, 40, .inl n_kinds)), (qn 2, .inl (Y 0, 40, .inl n_figures)), (qn 5, .inl (Y 0, 144, .inl n_joins)), (qg 0, oX6 qg g_size), (qg 1, .inl (Y 0, 300, .inl g_spots)), (qg 3, .inl (Y 0, 300, .inl g_branches)), (qg 5, .inl (Y 0, 300, .inl g_ends)), (qg 6, .inl (Y 1, 300, .inr (.inl g_above))), (qg 7, .inl (Y 1, 300, .inr (.inl g_below)))] s.heap.size [(qn 0, oX1 qn n_pointCount n_lineCount n_tideNow n_age), (qn 1, .inl (Y 0, 40, .inl n_kinds)), (qn 2, .inl (Y 0, 40, .inl n_figures)), (qn 5, .inl (Y 0, 144, .inl n_joins)), (qg 0, oX6 qg g_size), (qg 1, .inl (Y 0, 300, .inl g_spots)), (qg 3, .inl (Y 0, 300, .inl g_branches)), (qg 5, .inl (Y 0, 300, .inl g_ends)), (qg 6, .inl (Y 1, 300, .inr (.inl o_g_above))), (qg 7, .inl (Y 1, 300, .inr (.inl o_g_below)))]) A) [.ref (qg 0), .int p1, .ref (qn 0), .int p3].toArray s 0 0 A) (F0 m 10 ls []) := by
    intro n10
    induction n10 with
    | zero =>
      intro b_g_above b_g_below x4 hf H locs hP hD hS ls hl
      exact no_none hf
    | succ n10 ih10 =>
      intro b_g_above b_g_below x4 hf H locs hP hD hS ls hl
      have hf : f_X6_weighFrom_s10 n_kinds n_figures n_joins n_tideNow g_spots g_branches g_ends g_size p1 p3 (f_X6_weighFrom_b10 n_kinds n_figures n_joins n_tideNow g_spots g_branches g_ends g_size p1 p3  n10) b_g_above b_g_below x4 = some (o_g_above, o_g_below) := hf
      unfold f_X6_weighFrom_s10 at hf
      refine lv_iload hx hb dX6_weighFrom_10 (lv_at hl 4 rfl) ?_
      refine lv_iload_n hx hb dX6_weighFrom_12 rfl (lv_at hl 1 rfl) ?_
      refine lv_icmp_lt (tgt := 30) hx hb dX6_weighFrom_13 (by decide) (fun c1 => ?_) (fun c1 => ?_)
      · have hf := it hf c1
        obtain ⟨e0, e1⟩ := rt2 hf
        have hP : va_P G vwCl [(qn 0, oX1 qn n_pointCount n_lineCount n_tideNow n_age), (qn 1, .inl (Y 0, 40, .inl n_kinds)), (qn 2, .inl (Y 0, 40, .inl n_figures)), (qn 5, .inl (Y 0, 144, .inl n_joins)), (qg 0, oX6 qg g_size), (qg 1, .inl (Y 0, 300, .inl g_spots)), (qg 3, .inl (Y 0, 300, .inl g_branches)), (qg 5, .inl (Y 0, 300, .inl g_ends)), (qg 6, .inl (Y 1, 300, .inr (.inl o_g_above))), (qg 7, .inl (Y 1, 300, .inr (.inl o_g_below)))] H := by rw [← e0, ← e1]; exact hP
        have hD : va_D A [(qn 0, oX1 qn n_pointCount n_lineCount n_tideNow n_age), (qn 1, .inl (Y 0, 40, .inl n_kinds)), (qn 2, .inl (Y 0, 40, .inl n_figures)), (qn 5, .inl (Y 0, 144, .inl n_joins)), (qg 0, oX6 qg g_size), (qg 1, .inl (Y 0, 300, .inl g_spots)), (qg 3, .inl (Y 0, 300, .inl g_branches)), (qg 5, .inl (Y 0, 300, .inl g_ends)), (qg 6, .inl (Y 1, 300, .inr (.inl o_g_above))), (qg 7, .inl (Y 1, 300, .inr (.inl o_g_below)))] := by rw [← e0, ← e1]; exact hD
        exact W.vret hx hb hr (fun t ht hW => ⟨⟨(), rfl, trivial, by rw [ht]; exact hP, va_K.moved hW.alike hK, by rw [hAe]; exact hD⟩, hS.F ht⟩) hS.2.2 dX6_weighFrom_30
      · have hf := ie hf c1
        refine lv_aload_n hx hb dX6_weighFrom_16 rfl (lv_at hl 0 rfl) ?_
        refine lv_iload hx hb dX6_weighFrom_17 (lv_at hl 4 rfl) ?_
        refine lv_aload_n hx hb dX6_weighFrom_19 rfl (lv_at hl 2 rfl) ?_
        refine lv_iload_n hx hb dX6_weighFrom_20 rfl (lv_at hl 3 rfl) ?_
        obtain ⟨w2, w3, hc, hf⟩ := bd2 hf
        refine cl_v (ws' := [(qn 0, oX1 qn n_pointCount n_lineCount n_tideNow n_age), (qn 1, .inl (Y 0, 40, .inl n_kinds)), (qn 2, .inl (Y 0, 40, .inl n_figures)), (qn 5, .inl (Y 0, 144, .inl n_joins)), (qg 0, oX6 qg g_size), (qg 1, .inl (Y 0, 300, .inl g_spots)), (qg 3, .inl (Y 0, 300, .inl g_branches)), (qg 5, .inl (Y 0, 300, .inl g_ends)), (qg 6, .inl (Y 1, 300, .inr (.inl w2))), (qg 7, .inl (Y 1, 300, .inr (.inl w3)))]) (wr := []) (rnV (As := [.int x4, .ref (qn 0), .int p3]) (rest := []) ⟨hx, hb, hml, hown, hts⟩ (c_X6_weigh l G Y H.size qn qg n_kinds n_figures n_joins n_pointCount n_lineCount n_tideNow n_age g_spots g_branches g_ends b_g_above b_g_below g_size x4 p3 w2 w3 hc) (cwV 3 hts gX6_weighFrom_X6_weigh rfl rfl rfl (by decide +kernel) ⟨(Nat.le_of_ble_eq_true rfl), (Nat.le_of_ble_eq_true rfl)⟩) hX okN hK hP hD [0, 1, 2, 3, 4, 5, 6, 7, 8, 9] rfl rfl (ci := 5) (q0 := 4) rfl rfl rfl rfl hl.1 rfl (Nat.le_of_ble_eq_true rfl) dX6_weighFrom_21) hP hD hS hA [0, 1, 2, 3, 4, 5, 6, 7, 8, 9] [] [0, 1, 2, 3, 4, 5, 6, 7, 8, 9] rfl rfl rfl (by decide) rfl rfl (fun H locs hP hD hS => ?_)
        obtain ⟨v4, e_v4⟩ : ∃ z : Int32, z = (x4 + (-1)) := ⟨_, rfl⟩
        have hf := nm_at hf e_v4
        refine lv_iinc (v := v4) (lv' := [(4, .int v4), (0, .ref (qg 0)), (1, .int p1), (2, .ref (qn 0)), (3, .int p3)]) hx hb dX6_weighFrom_24 hl (k := 4) rfl (by rw [e_v4]; rfl) (by decide) rfl (fun ls hl => ?_)
        refine lv_goto (tgt := 10) hx hb dX6_weighFrom_27 (by decide) ?_
        exact ih10 w2 w3 v4 hf _ _ hP hD hS ls (lv_sub hl [1, 2, 3, 4, 0] rfl)
  have E0 : ∀ (H : Heap) (locs : List Loc), va_P G vwCl [(qn 0, oX1 qn n_pointCount n_lineCount n_tideNow n_age), (qn 1, .inl (Y 0, 40, .inl n_kinds)), (qn 2, .inl (Y 0, 40, .inl n_figures)), (qn 5, .inl (Y 0, 144, .inl n_joins)), (qg 0, oX6 qg g_size), (qg 1, .inl (Y 0, 300, .inl g_spots)), (qg 3, .inl (Y 0, 300, .inl g_branches)), (qg 5, .inl (Y 0, 300, .inl g_ends)), (qg 6, .inl (Y 1, 300, .inr (.inl g_above))), (qg 7, .inl (Y 1, 300, .inr (.inl g_below)))] H → va_D A [(qn 0, oX1 qn n_pointCount n_lineCount n_tideNow n_age), (qn 1, .inl (Y 0, 40, .inl n_kinds)), (qn 2, .inl (Y 0, 40, .inl n_figures)), (qn 5, .inl (Y 0, 144, .inl n_joins)), (qg 0, oX6 qg g_size), (qg 1, .inl (Y 0, 300, .inl g_spots)), (qg 3, .inl (Y 0, 300, .inl g_branches)), (qg 5, .inl (Y 0, 300, .inl g_ends)), (qg 6, .inl (Y 1, 300, .inr (.inl g_above))), (qg 7, .inl (Y 1, 300, .inr (.inl g_below)))] → va_S A s.heap H locs → ∀ (ls : Array Slot), lv_has ls 5 [(0, .ref (qg 0)), (1, .int p1), (2, .ref (qn 0)), (3, .int p3)] → W p l e (headSpec wsX6_weighFrom (rmk 5 129)).room s m [.ref (qg 0), .int p1, .ref (qn 0), .int p3].toArray below meth c H locs 0 0 (MQ below (va_Qv (fun (_ : Unit) => True) (Pst G (tys Y) [(qn 0, oX1 qn n_pointCount n_lineCount n_tideNow n_age), (qn 1, .inl (Y 0, 40, .inl n_kinds)), (qn 2, .inl (Y 0, 40, .inl n_figures)), (qn 5, .inl (Y 0, 144, .inl n_joins)), (qg 0, oX6 qg g_size), (qg 1, .inl (Y 0, 300, .inl g_spots)), (qg 3, .inl (Y 0, 300, .inl g_branches)), (qg 5, .inl (Y 0, 300, .inl g_ends)), (qg 6, .inl (Y 1, 300, .inr (.inl g_above))), (qg 7, .inl (Y 1, 300, .inr (.inl g_below)))] s.heap.size [(qn 0, oX1 qn n_pointCount n_lineCount n_tideNow n_age), (qn 1, .inl (Y 0, 40, .inl n_kinds)), (qn 2, .inl (Y 0, 40, .inl n_figures)), (qn 5, .inl (Y 0, 144, .inl n_joins)), (qg 0, oX6 qg g_size), (qg 1, .inl (Y 0, 300, .inl g_spots)), (qg 3, .inl (Y 0, 300, .inl g_branches)), (qg 5, .inl (Y 0, 300, .inl g_ends)), (qg 6, .inl (Y 1, 300, .inr (.inl o_g_above))), (qg 7, .inl (Y 1, 300, .inr (.inl o_g_below)))]) A) [.ref (qg 0), .int p1, .ref (qn 0), .int p3].toArray s 0 0 A) (F0 m 0 ls []) := by
    intro H locs hP hD hS ls hl
    unfold f_X6_weighFrom at hf
    refine lv_aload_n hx hb dX6_weighFrom_0 rfl (lv_at hl 0 rfl) ?_
    refine va_get (D := G) (ci := 5) (v := .ref (qg 5)) (C := RX6) (T := TX6) (N := 8) hx hb hts inX6w hown hK hP 4 rfl rfl 4 (by decide) wd1 (fun _ h9 => h9) rfl dX6_weighFrom_1 ?_
    refine lv_iload_n hx hb dX6_weighFrom_4 rfl (lv_at hl 1 rfl) ?_
    obtain ⟨g5, hf⟩ := gd hf
    refine va_iald hx hb hK hP 7 0 rfl rfl g5 dX6_weighFrom_5 ?_
    refine lv_iconst (v := 1) hx hb dX6_weighFrom_6 (by decide) ?_
    refine lv_isub hx hb dX6_weighFrom_7 ?_
    refine lv_topi (fun v6 e_v6 => ?_)
    have hf := nm_at hf e_v6
    refine lv_istore (lv' := [(4, .int v6), (0, .ref (qg 0)), (1, .int p1), (2, .ref (qn 0)), (3, .int p3)]) hx hb dX6_weighFrom_8 hl (by decide) rfl (fun ls hl => ?_)
    exact B10 310 g_above g_below v6 hf _ _ hP hD hS ls (lv_sub hl [1, 2, 3, 4, 0] rfl)
  exact E0 s.heap [] hP hD hS ls hl
