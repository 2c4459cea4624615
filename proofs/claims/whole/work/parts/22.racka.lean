-- X2_begin
set_option maxRecDepth 100000 in
set_option maxHeartbeats 4000000 in
theorem c_X2_begin (l : Launch) (G : va_G) (Y : Nat → ClassId) (sz : Nat) (qr : Nat → Nat) (r_kinds : Nat → Int32) (r_kind : Int32) (r_size : Int32) (p1 : Int32) (p2 : Int32) (o_r_kinds : Nat → Int32) (o_r_kind : Int32) (o_r_size : Int32) (hf : f_X2_begin r_kinds r_kind r_size p1 p2 = some (o_r_kinds, o_r_kind, o_r_size)) : Met l yX2_begin wsX2_begin (rmk 1 23) (va_Pc [.ref (qr 0), .int p1, .int p2] (Pre G (tys Y) [(qr 0, oX2 qr r_kind r_size), (qr 1, .inl (Y 0, 20, .inl r_kinds))] sz xT)) (va_Qv (fun (_ : Unit) => True) (Pst G (tys Y) [(qr 0, oX2 qr r_kind r_size), (qr 1, .inl (Y 0, 20, .inl r_kinds))] sz [(qr 0, oX2 qr o_r_kind o_r_size), (qr 1, .inl (Y 0, 20, .inl o_r_kinds))]) (va_A [(qr 0, oX2 qr r_kind r_size), (qr 1, .inl (Y 0, 20, .inl r_kinds))] sz)) 0 0 (va_A [(qr 0, oX2 qr r_kind r_size), (qr 1, .inl (Y 0, 20, .inl r_kinds))] sz) := by
  refine Met.ofW (cc := cX2_begin) (maxL := 3) (ret := none) (by decide) rfl ?_
  intro p e s m args below meth c s₁ B hml hv
  obtain ⟨rfl, hsz, hP, hK, hD0, hX⟩ := hv
  have hx := B.exec
  have hb := B.bytes
  have hr := B.returns
  have hts := atoms_spec (ws := wsX2_begin) B.pre
  have hown : s.vm.findClass RX2 = some m.cls := findClass_of_methodNamed B.named
  have hlocks := B.notSynchronized
  subst hsz
  have hD := hD0.self (sz := s.heap.size)
  generalize hAe : va_A [(qr 0, oX2 qr r_kind r_size), (qr 1, .inl (Y 0, 20, .inl r_kinds))] s.heap.size = A at hD ⊢
  have hA : ∀ q : Nat, s.heap.size ≤ q → A q := fun q h => by rw [← hAe]; exact Or.inr h
  have hS : va_S A s.heap s.heap [] := va_S.rf
  have hP : va_P G vwCl [(qr 0, oX2 qr r_kind r_size), (qr 1, .inl (Y 0, 20, .inl r_kinds))] s.heap := hP
  have wd1 : (Cond.fieldLink RX2 18 "PairedLines$Rack" "kind" "I").before [.ref (qr 0), .int p1, .int p2].toArray s = true := hts _ (List.mem_of_getElem? (i := 1) rfl)
  have wd2 : (Cond.fieldLink RX2 22 "PairedLines$Rack" "size" "I").before [.ref (qr 0), .int p1, .int p2].toArray s = true := hts _ (List.mem_of_getElem? (i := 2) rfl)
  have wd3 : (Cond.fieldLink RX2 9 "PairedLines$Rack" "kinds" "[I").before [.ref (qr 0), .int p1, .int p2].toArray s = true := hts _ (List.mem_of_getElem? (i := 3) rfl)
  have inX2w : ∀ w ∈ u_ws RX2 TX2 4, w ∈ wsX2_begin := fun w hw => List.mem_cons_of_mem _ (List.mem_append_right _ (hw))
  have hl := lv_entry ([.ref (qr 0), .int p1, .int p2]) (n := 3) (Nat.le_of_ble_eq_true rfl)
  rw [lg_entry_eq]
  generalize (lg_sl ([.ref (qr 0), .int p1, .int p2]) ++ List.replicate (3 - (lg_sl ([.ref (qr 0), .int p1, .int p2])).length) Slot.unset).toArray = ls at hl ⊢
  have hl : lv_has ls 3 [(0, .ref (qr 0)), (1, .int p1), (2, .int p2)] := hl
  have E0 : ∀ (H : Heap) (locs : List Loc), va_P G vwCl [(qr 0, oX2 qr r_kind r_size), (qr 1, .inl (Y 0, 20, .inl r_kinds))] H → va_D A [(qr 0, oX2 qr r_kind r_size), (qr 1, .inl (Y 0, 20, .inl r_kinds))] → va_S A s.heap H locs → ∀ (ls : Array Slot), lv_has ls 3 [(0, .ref (qr 0)), (1, .int p1), (2, .int p2)] → W p l e (headSpec wsX2_begin (rmk 1 23)).room s m [.ref (qr 0), .int p1, .int p2].toArray below meth c H locs 0 0 (MQ below (va_Qv (fun (_ : Unit) => True) (Pst G (tys Y) [(qr 0, oX2 qr r_kind r_size), (qr 1, .inl (Y 0, 20, .inl r_kinds))] s.heap.size [(qr 0, oX2 qr o_r_kind o_r_size), (qr 1, .inl (Y 0, 20, .inl o_r_kinds))]) A) [.ref (qr 0), .int p1, .int p2].toArray s 0 0 A) (F0 m 0 ls []) := by
    intro H locs hP hD hS ls hl
    unfold f_X2_begin at hf
    refine lv_aload_n hx hb dX2_begin_0 rfl (lv_at hl 0 rfl) ?_
    refine lv_iload_n hx hb dX2_begin_1 rfl (lv_at hl 1 rfl) ?_
    refine va_put (D := G) (ci := 1) (v := .int p1) (ty := .int) (C := RX2) (T := TX2) (N := 4) hx hb hts inX2w tyX2 tyX2_ok nmX2 hown hK hP hD hS 0 rfl rfl 2 (by decide) wd1 (fun _ h9 => h9) rfl (by decide +kernel) rfl rfl (Nat.le_of_ble_eq_true rfl) dX2_begin_2 (fun H locs hP hD hS => ?_)
    have hP : va_P G vwCl [(qr 0, oX2 qr p1 r_size), (qr 1, .inl (Y 0, 20, .inl r_kinds))] H := hP
    have hD : va_D A [(qr 0, oX2 qr p1 r_size), (qr 1, .inl (Y 0, 20, .inl r_kinds))] := hD
    refine lv_aload_n hx hb dX2_begin_5 rfl (lv_at hl 0 rfl) ?_
    refine lv_iload_n hx hb dX2_begin_6 rfl (lv_at hl 1 rfl) ?_
    refine lv_iconst (v := -1) hx hb dX2_begin_7 (by decide) ?_
    refine lv_icmp_ne (tgt := 15) hx hb dX2_begin_8 (by decide) (fun c1 => ?_) (fun c1 => ?_)
    · have hf := ie hf c1
      refine lv_iload_n hx hb dX2_begin_15 rfl (lv_at hl 2 rfl) ?_
      refine va_put (D := G) (ci := 1) (v := .int p2) (ty := .int) (C := RX2) (T := TX2) (N := 4) hx hb hts inX2w tyX2 tyX2_ok nmX2 hown hK hP hD hS 0 rfl rfl 3 (by decide) wd2 (fun _ h9 => h9) rfl (by decide +kernel) rfl rfl (Nat.le_of_ble_eq_true rfl) dX2_begin_16 (fun H locs hP hD hS => ?_)
      have hP : va_P G vwCl [(qr 0, oX2 qr p1 p2), (qr 1, .inl (Y 0, 20, .inl r_kinds))] H := hP
      have hD : va_D A [(qr 0, oX2 qr p1 p2), (qr 1, .inl (Y 0, 20, .inl r_kinds))] := hD
      refine lv_aload_n hx hb dX2_begin_19 rfl (lv_at hl 0 rfl) ?_
      refine va_get (D := G) (ci := 1) (v := .ref (qr 1)) (C := RX2) (T := TX2) (N := 4) hx hb hts inX2w hown hK hP 0 rfl rfl 0 (by decide) wd3 (fun _ h9 => h9) rfl dX2_begin_20 ?_
      refine lv_iconst (v := -1) hx hb dX2_begin_23 (by decide) ?_
      obtain ⟨w2, hc, hf⟩ := bd1 hf
      refine cl_v (ws' := [(qr 0, oX2 qr p1 p2), (qr 1, .inl (Y 0, 20, .inl w2))]) (wr := [(qr 0, oX2 qr p1 p2)]) (rnS (As := [.ref (qr 1), .int (-1 : Int32)]) (rest := []) ⟨hx, hb, hml, hown, hts⟩ (c_J7_fill_53178 l G Y H.size (fun _ => qr 1) r_kinds 20 (-1 : Int32) w2 hc) (va_cwS 2 hts gX2_begin_J7_fill_53178 rfl rfl rfl (by decide +kernel) ⟨(Nat.le_of_ble_eq_true rfl), (Nat.le_of_ble_eq_true rfl)⟩) trivial okT hK hP hD [1] rfl rfl rfl hl.1 rfl (Nat.le_of_ble_eq_true rfl) dX2_begin_24) hP hD hS hA [1] [0] [0, 1] rfl rfl rfl (by decide) rfl rfl (fun H locs hP hD hS => ?_)
      obtain ⟨e0, e1, e2⟩ := rt3 hf
      have hP : va_P G vwCl [(qr 0, oX2 qr o_r_kind o_r_size), (qr 1, .inl (Y 0, 20, .inl o_r_kinds))] H := by rw [← e0, ← e1, ← e2]; exact hP
      have hD : va_D A [(qr 0, oX2 qr o_r_kind o_r_size), (qr 1, .inl (Y 0, 20, .inl o_r_kinds))] := by rw [← e0, ← e1, ← e2]; exact hD
      exact W.vret hx hb hr (fun t ht hW => ⟨⟨(), rfl, trivial, by rw [ht]; exact hP, va_K.moved hW.alike hK, by rw [hAe]; exact hD⟩, hS.F ht⟩) hS.2.2 dX2_begin_27
    · have hf := it hf c1
      refine lv_iconst (v := 0) hx hb dX2_begin_11 (by decide) ?_
      refine lv_goto (tgt := 16) hx hb dX2_begin_12 (by decide) ?_
      refine va_put (D := G) (ci := 1) (v := .int (0 : Int32)) (ty := .int) (C := RX2) (T := TX2) (N := 4) hx hb hts inX2w tyX2 tyX2_ok nmX2 hown hK hP hD hS 0 rfl rfl 3 (by decide) wd2 (fun _ h9 => h9) rfl (by decide +kernel) rfl rfl (Nat.le_of_ble_eq_true rfl) dX2_begin_16 (fun H locs hP hD hS => ?_)
      have hP : va_P G vwCl [(qr 0, oX2 qr p1 (0 : Int32)), (qr 1, .inl (Y 0, 20, .inl r_kinds))] H := hP
      have hD : va_D A [(qr 0, oX2 qr p1 (0 : Int32)), (qr 1, .inl (Y 0, 20, .inl r_kinds))] := hD
      refine lv_aload_n hx hb dX2_begin_19 rfl (lv_at hl 0 rfl) ?_
      refine va_get (D := G) (ci := 1) (v := .ref (qr 1)) (C := RX2) (T := TX2) (N := 4) hx hb hts inX2w hown hK hP 0 rfl rfl 0 (by decide) wd3 (fun _ h9 => h9) rfl dX2_begin_20 ?_
      refine lv_iconst (v := -1) hx hb dX2_begin_23 (by decide) ?_
      obtain ⟨w3, hc, hf⟩ := bd1 hf
      refine cl_v (ws' := [(qr 0, oX2 qr p1 (0 : Int32)), (qr 1, .inl (Y 0, 20, .inl w3))]) (wr := [(qr 0, oX2 qr p1 (0 : Int32))]) (rnS (As := [.ref (qr 1), .int (-1 : Int32)]) (rest := []) ⟨hx, hb, hml, hown, hts⟩ (c_J7_fill_53178 l G Y H.size (fun _ => qr 1) r_kinds 20 (-1 : Int32) w3 hc) (va_cwS 2 hts gX2_begin_J7_fill_53178 rfl rfl rfl (by decide +kernel) ⟨(Nat.le_of_ble_eq_true rfl), (Nat.le_of_ble_eq_true rfl)⟩) trivial okT hK hP hD [1] rfl rfl rfl hl.1 rfl (Nat.le_of_ble_eq_true rfl) dX2_begin_24) hP hD hS hA [1] [0] [0, 1] rfl rfl rfl (by decide) rfl rfl (fun H locs hP hD hS => ?_)
      obtain ⟨e0, e1, e2⟩ := rt3 hf
      have hP : va_P G vwCl [(qr 0, oX2 qr o_r_kind o_r_size), (qr 1, .inl (Y 0, 20, .inl o_r_kinds))] H := by rw [← e0, ← e1, ← e2]; exact hP
      have hD : va_D A [(qr 0, oX2 qr o_r_kind o_r_size), (qr 1, .inl (Y 0, 20, .inl o_r_kinds))] := by rw [← e0, ← e1, ← e2]; exact hD
      exact W.vret hx hb hr (fun t ht hW => ⟨⟨(), rfl, trivial, by rw [ht]; exact hP, va_K.moved hW.alike hK, by rw [hAe]; exact hD⟩, hS.F ht⟩) hS.2.2 dX2_begin_27
  exact E0 s.heap [] hP hD hS ls hl
-- X2_faultAt
set_option maxRecDepth 100000 in
set_option maxHeartbeats 4000000 in
theorem c_X2_faultAt (l : Launch) (G : va_G) (Y : Nat → ClassId) (sz : Nat) (qr : Nat → Nat) (r_kind : Int32) (r_size : Int32) (p1 : Int32) (rv : Int32) (hf : f_X2_faultAt r_kind r_size p1 = some (rv)) : Met l yX2_faultAt wsX2_faultAt (rmk 0 0) (va_Pc [.ref (qr 0), .int p1] (Pre G (tys Y) [(qr 0, oX2 qr r_kind r_size)] sz xT)) (va_Qi (fun (r : Int32) (_ : Unit) => r = rv) (Pst G (tys Y) [(qr 0, oX2 qr r_kind r_size)] sz [(qr 0, oX2 qr r_kind r_size)]) (va_A [(qr 0, oX2 qr r_kind r_size)] sz)) 0 0 (va_A [(qr 0, oX2 qr r_kind r_size)] sz) := by
  refine Met.ofW (cc := cX2_faultAt) (maxL := 2) (ret := (some .int)) (by decide) rfl ?_
  intro p e s m args below meth c s₁ B hml hv
  obtain ⟨rfl, hsz, hP, hK, hD0, hX⟩ := hv
  have hx := B.exec
  have hb := B.bytes
  have hr := B.returns
  have hts := atoms_spec (ws := wsX2_faultAt) B.pre
  have hown : s.vm.findClass RX2 = some m.cls := findClass_of_methodNamed B.named
  have hlocks := B.notSynchronized
  subst hsz
  have hD := hD0.self (sz := s.heap.size)
  generalize hAe : va_A [(qr 0, oX2 qr r_kind r_size)] s.heap.size = A at hD ⊢
  have hA : ∀ q : Nat, s.heap.size ≤ q → A q := fun q h => by rw [← hAe]; exact Or.inr h
  have hS : va_S A s.heap s.heap [] := va_S.rf
  have hP : va_P G vwCl [(qr 0, oX2 qr r_kind r_size)] s.heap := hP
  have wd1 : (Cond.fieldLink RX2 18 "PairedLines$Rack" "kind" "I").before [.ref (qr 0), .int p1].toArray s = true := hts _ (List.mem_of_getElem? (i := 1) rfl)
  have wd2 : (Cond.fieldLink RX2 22 "PairedLines$Rack" "size" "I").before [.ref (qr 0), .int p1].toArray s = true := hts _ (List.mem_of_getElem? (i := 2) rfl)
  have inX2w : ∀ w ∈ u_ws RX2 TX2 4, w ∈ wsX2_faultAt := fun w hw => List.mem_cons_of_mem _ (List.mem_append_right _ (hw))
  have hl := lv_entry ([.ref (qr 0), .int p1]) (n := 2) (Nat.le_of_ble_eq_true rfl)
  rw [lg_entry_eq]
  generalize (lg_sl ([.ref (qr 0), .int p1]) ++ List.replicate (2 - (lg_sl ([.ref (qr 0), .int p1])).length) Slot.unset).toArray = ls at hl ⊢
  have hl : lv_has ls 2 [(0, .ref (qr 0)), (1, .int p1)] := hl
  have E0 : ∀ (H : Heap) (locs : List Loc), va_P G vwCl [(qr 0, oX2 qr r_kind r_size)] H → va_D A [(qr 0, oX2 qr r_kind r_size)] → va_S A s.heap H locs → ∀ (ls : Array Slot), lv_has ls 2 [(0, .ref (qr 0)), (1, .int p1)] → W p l e (headSpec wsX2_faultAt (rmk 0 0)).room s m [.ref (qr 0), .int p1].toArray below meth c H locs 0 0 (MQ below (va_Qi (fun (r : Int32) (_ : Unit) => r = rv) (Pst G (tys Y) [(qr 0, oX2 qr r_kind r_size)] s.heap.size [(qr 0, oX2 qr r_kind r_size)]) A) [.ref (qr 0), .int p1].toArray s 0 0 A) (F0 m 0 ls []) := by
    intro H locs hP hD hS ls hl
    unfold f_X2_faultAt at hf
    refine lv_aload_n hx hb dX2_faultAt_0 rfl (lv_at hl 0 rfl) ?_
    refine va_get (D := G) (ci := 1) (v := .int r_kind) (C := RX2) (T := TX2) (N := 4) hx hb hts inX2w hown hK hP 0 rfl rfl 2 (by decide) wd1 (fun _ h9 => h9) rfl dX2_faultAt_1 ?_
    refine lv_iconst (v := -1) hx hb dX2_faultAt_4 (by decide) ?_
    refine lv_icmp_ne (tgt := 11) hx hb dX2_faultAt_5 (by decide) (fun c1 => ?_) (fun c1 => ?_)
    · have hf := ie hf c1
      refine lv_iload_n hx hb dX2_faultAt_11 rfl (lv_at hl 1 rfl) ?_
      refine lv_if_lt (tgt := 27) hx hb dX2_faultAt_12 (by decide) (fun c2 => ?_) (fun c2 => ?_)
      · have hf := it hf c2
        refine lv_bipush (v := -12) hx hb dX2_faultAt_27 (by decide) ?_
        have e0 := rt1 hf
        exact W.iret (v := (-12 : Int32)) hx hb hr (fun t ht hW => ⟨⟨(-12 : Int32), (), rfl, e0, by rw [ht]; exact hP, va_K.moved hW.alike hK, by rw [hAe]; exact hD⟩, hS.F ht⟩) hS.2.2 dX2_faultAt_29
      · have hf := ie hf c2
        refine lv_iload_n hx hb dX2_faultAt_15 rfl (lv_at hl 1 rfl) ?_
        refine lv_aload_n hx hb dX2_faultAt_16 rfl (lv_at hl 0 rfl) ?_
        refine va_get (D := G) (ci := 1) (v := .int r_size) (C := RX2) (T := TX2) (N := 4) hx hb hts inX2w hown hK hP 0 rfl rfl 3 (by decide) wd2 (fun _ h9 => h9) rfl dX2_faultAt_17 ?_
        refine lv_icmp_ge (tgt := 27) hx hb dX2_faultAt_20 (by decide) (fun c3 => ?_) (fun c3 => ?_)
        · have hf := it hf c3
          refine lv_bipush (v := -12) hx hb dX2_faultAt_27 (by decide) ?_
          have e0 := rt1 hf
          exact W.iret (v := (-12 : Int32)) hx hb hr (fun t ht hW => ⟨⟨(-12 : Int32), (), rfl, e0, by rw [ht]; exact hP, va_K.moved hW.alike hK, by rw [hAe]; exact hD⟩, hS.F ht⟩) hS.2.2 dX2_faultAt_29
        · have hf := ie hf c3
          refine lv_iconst (v := 0) hx hb dX2_faultAt_23 (by decide) ?_
          refine lv_goto (tgt := 29) hx hb dX2_faultAt_24 (by decide) ?_
          have e0 := rt1 hf
          exact W.iret (v := (0 : Int32)) hx hb hr (fun t ht hW => ⟨⟨(0 : Int32), (), rfl, e0, by rw [ht]; exact hP, va_K.moved hW.alike hK, by rw [hAe]; exact hD⟩, hS.F ht⟩) hS.2.2 dX2_faultAt_29
    · have hf := it hf c1
      refine lv_bipush (v := -11) hx hb dX2_faultAt_8 (by decide) ?_
      have e0 := rt1 hf
      exact W.iret (v := (-11 : Int32)) hx hb hr (fun t ht hW => ⟨⟨(-11 : Int32), (), rfl, e0, by rw [ht]; exact hP, va_K.moved hW.alike hK, by rw [hAe]; exact hD⟩, hS.F ht⟩) hS.2.2 dX2_faultAt_10
  exact E0 s.heap [] hP hD hS ls hl
-- X2_isEmptyAt
set_option maxRecDepth 100000 in
set_option maxHeartbeats 4000000 in
theorem c_X2_isEmptyAt (l : Launch) (G : va_G) (Y : Nat → ClassId) (sz : Nat) (qr : Nat → Nat) (r_kinds : Nat → Int32) (r_kind : Int32) (r_size : Int32) (p1 : Int32) (rv : Int32) (hf : f_X2_isEmptyAt r_kinds p1 = some (rv)) : Met l yX2_isEmptyAt wsX2_isEmptyAt (rmk 0 0) (va_Pc [.ref (qr 0), .int p1] (Pre G (tys Y) [(qr 0, oX2 qr r_kind r_size), (qr 1, .inl (Y 0, 20, .inl r_kinds))] sz xT)) (va_Qi (fun (r : Int32) (_ : Unit) => r = rv) (Pst G (tys Y) [(qr 0, oX2 qr r_kind r_size), (qr 1, .inl (Y 0, 20, .inl r_kinds))] sz [(qr 0, oX2 qr r_kind r_size), (qr 1, .inl (Y 0, 20, .inl r_kinds))]) (va_A [(qr 0, oX2 qr r_kind r_size), (qr 1, .inl (Y 0, 20, .inl r_kinds))] sz)) 0 0 (va_A [(qr 0, oX2 qr r_kind r_size), (qr 1, .inl (Y 0, 20, .inl r_kinds))] sz) := by
  refine Met.ofW (cc := cX2_isEmptyAt) (maxL := 2) (ret := (some .boolean)) (by decide) rfl ?_
  intro p e s m args below meth c s₁ B hml hv
  obtain ⟨rfl, hsz, hP, hK, hD0, hX⟩ := hv
  have hx := B.exec
  have hb := B.bytes
  have hr := B.returns
  have hts := atoms_spec (ws := wsX2_isEmptyAt) B.pre
  have hown : s.vm.findClass RX2 = some m.cls := findClass_of_methodNamed B.named
  have hlocks := B.notSynchronized
  subst hsz
  have hD := hD0.self (sz := s.heap.size)
  generalize hAe : va_A [(qr 0, oX2 qr r_kind r_size), (qr 1, .inl (Y 0, 20, .inl r_kinds))] s.heap.size = A at hD ⊢
  have hA : ∀ q : Nat, s.heap.size ≤ q → A q := fun q h => by rw [← hAe]; exact Or.inr h
  have hS : va_S A s.heap s.heap [] := va_S.rf
  have hP : va_P G vwCl [(qr 0, oX2 qr r_kind r_size), (qr 1, .inl (Y 0, 20, .inl r_kinds))] s.heap := hP
  have wd1 : (Cond.fieldLink RX2 9 "PairedLines$Rack" "kinds" "[I").before [.ref (qr 0), .int p1].toArray s = true := hts _ (List.mem_of_getElem? (i := 1) rfl)
  have inX2w : ∀ w ∈ u_ws RX2 TX2 4, w ∈ wsX2_isEmptyAt := fun w hw => List.mem_cons_of_mem _ (List.mem_append_right _ (hw))
  have hl := lv_entry ([.ref (qr 0), .int p1]) (n := 2) (Nat.le_of_ble_eq_true rfl)
  rw [lg_entry_eq]
  generalize (lg_sl ([.ref (qr 0), .int p1]) ++ List.replicate (2 - (lg_sl ([.ref (qr 0), .int p1])).length) Slot.unset).toArray = ls at hl ⊢
  have hl : lv_has ls 2 [(0, .ref (qr 0)), (1, .int p1)] := hl
  have E0 : ∀ (H : Heap) (locs : List Loc), va_P G vwCl [(qr 0, oX2 qr r_kind r_size), (qr 1, .inl (Y 0, 20, .inl r_kinds))] H → va_D A [(qr 0, oX2 qr r_kind r_size), (qr 1, .inl (Y 0, 20, .inl r_kinds))] → va_S A s.heap H locs → ∀ (ls : Array Slot), lv_has ls 2 [(0, .ref (qr 0)), (1, .int p1)] → W p l e (headSpec wsX2_isEmptyAt (rmk 0 0)).room s m [.ref (qr 0), .int p1].toArray below meth c H locs 0 0 (MQ below (va_Qi (fun (r : Int32) (_ : Unit) => r = rv) (Pst G (tys Y) [(qr 0, oX2 qr r_kind r_size), (qr 1, .inl (Y 0, 20, .inl r_kinds))] s.heap.size [(qr 0, oX2 qr r_kind r_size), (qr 1, .inl (Y 0, 20, .inl r_kinds))]) A) [.ref (qr 0), .int p1].toArray s 0 0 A) (F0 m 0 ls []) := by
    intro H locs hP hD hS ls hl
    unfold f_X2_isEmptyAt at hf
    refine lv_aload_n hx hb dX2_isEmptyAt_0 rfl (lv_at hl 0 rfl) ?_
    refine va_get (D := G) (ci := 1) (v := .ref (qr 1)) (C := RX2) (T := TX2) (N := 4) hx hb hts inX2w hown hK hP 0 rfl rfl 0 (by decide) wd1 (fun _ h9 => h9) rfl dX2_isEmptyAt_1 ?_
    refine lv_iload_n hx hb dX2_isEmptyAt_4 rfl (lv_at hl 1 rfl) ?_
    obtain ⟨g1, hf⟩ := gd hf
    refine va_iald hx hb hK hP 1 0 rfl rfl g1 dX2_isEmptyAt_5 ?_
    refine lv_iconst (v := -1) hx hb dX2_isEmptyAt_6 (by decide) ?_
    refine lv_icmp_ne (tgt := 14) hx hb dX2_isEmptyAt_7 (by decide) (fun c2 => ?_) (fun c2 => ?_)
    · have hf := ie hf c2
      refine lv_iconst (v := 0) hx hb dX2_isEmptyAt_14 (by decide) ?_
      have e0 := rt1 hf
      exact W.zret (v := (0 : Int32)) hx hb hr rfl (fun t ht hW => ⟨⟨(0 : Int32), (), rfl, e0, by rw [ht]; exact hP, va_K.moved hW.alike hK, by rw [hAe]; exact hD⟩, hS.F ht⟩) hS.2.2 dX2_isEmptyAt_15
    · have hf := it hf c2
      refine lv_iconst (v := 1) hx hb dX2_isEmptyAt_10 (by decide) ?_
      refine lv_goto (tgt := 15) hx hb dX2_isEmptyAt_11 (by decide) ?_
      have e0 := rt1 hf
      exact W.zret (v := (1 : Int32)) hx hb hr rfl (fun t ht hW => ⟨⟨(1 : Int32), (), rfl, e0, by rw [ht]; exact hP, va_K.moved hW.alike hK, by rw [hAe]; exact hD⟩, hS.F ht⟩) hS.2.2 dX2_isEmptyAt_15
  exact E0 s.heap [] hP hD hS ls hl
-- X2_put
set_option maxRecDepth 100000 in
set_option maxHeartbeats 4000000 in
theorem c_X2_put (l : Launch) (G : va_G) (Y : Nat → ClassId) (sz : Nat) (qr : Nat → Nat) (r_kinds : Nat → Int32) (r_figures : Nat → Int32) (r_kind : Int32) (r_size : Int32) (p1 : Int32) (p2 : Int32) (p3 : Int32) (o_r_kinds : Nat → Int32) (o_r_figures : Nat → Int32) (hf : f_X2_put r_kinds r_figures p1 p2 p3 = some (o_r_kinds, o_r_figures)) : Met l yX2_put wsX2_put (rmk 0 0) (va_Pc [.ref (qr 0), .int p1, .int p2, .int p3] (Pre G (tys Y) [(qr 0, oX2 qr r_kind r_size), (qr 1, .inl (Y 0, 20, .inl r_kinds)), (qr 2, .inl (Y 0, 20, .inl r_figures))] sz xT)) (va_Qv (fun (_ : Unit) => True) (Pst G (tys Y) [(qr 0, oX2 qr r_kind r_size), (qr 1, .inl (Y 0, 20, .inl r_kinds)), (qr 2, .inl (Y 0, 20, .inl r_figures))] sz [(qr 0, oX2 qr r_kind r_size), (qr 1, .inl (Y 0, 20, .inl o_r_kinds)), (qr 2, .inl (Y 0, 20, .inl o_r_figures))]) (va_A [(qr 0, oX2 qr r_kind r_size), (qr 1, .inl (Y 0, 20, .inl r_kinds)), (qr 2, .inl (Y 0, 20, .inl r_figures))] sz)) 0 0 (va_A [(qr 0, oX2 qr r_kind r_size), (qr 1, .inl (Y 0, 20, .inl r_kinds)), (qr 2, .inl (Y 0, 20, .inl r_figures))] sz) := by
  refine Met.ofW (cc := cX2_put) (maxL := 4) (ret := none) (by decide) rfl ?_
  intro p e s m args below meth c s₁ B hml hv
  obtain ⟨rfl, hsz, hP, hK, hD0, hX⟩ := hv
  have hx := B.exec
  have hb := B.bytes
  have hr := B.returns
  have hts := atoms_spec (ws := wsX2_put) B.pre
  have hown : s.vm.findClass RX2 = some m.cls := findClass_of_methodNamed B.named
  have hlocks := B.notSynchronized
  subst hsz
  have hD := hD0.self (sz := s.heap.size)
  generalize hAe : va_A [(qr 0, oX2 qr r_kind r_size), (qr 1, .inl (Y 0, 20, .inl r_kinds)), (qr 2, .inl (Y 0, 20, .inl r_figures))] s.heap.size = A at hD ⊢
  have hA : ∀ q : Nat, s.heap.size ≤ q → A q := fun q h => by rw [← hAe]; exact Or.inr h
  have hS : va_S A s.heap s.heap [] := va_S.rf
  have hP : va_P G vwCl [(qr 0, oX2 qr r_kind r_size), (qr 1, .inl (Y 0, 20, .inl r_kinds)), (qr 2, .inl (Y 0, 20, .inl r_figures))] s.heap := hP
  have wd1 : (Cond.fieldLink RX2 9 "PairedLines$Rack" "kinds" "[I").before [.ref (qr 0), .int p1, .int p2, .int p3].toArray s = true := hts _ (List.mem_of_getElem? (i := 1) rfl)
  have wd2 : (Cond.fieldLink RX2 15 "PairedLines$Rack" "figures" "[I").before [.ref (qr 0), .int p1, .int p2, .int p3].toArray s = true := hts _ (List.mem_of_getElem? (i := 2) rfl)
  have inX2w : ∀ w ∈ u_ws RX2 TX2 4, w ∈ wsX2_put := fun w hw => List.mem_cons_of_mem _ (List.mem_append_right _ (hw))
  have hl := lv_entry ([.ref (qr 0), .int p1, .int p2, .int p3]) (n := 4) (Nat.le_of_ble_eq_true rfl)
  rw [lg_entry_eq]
  generalize (lg_sl ([.ref (qr 0), .int p1, .int p2, .int p3]) ++ List.replicate (4 - (lg_sl ([.ref (qr 0), .int p1, .int p2, .int p3])).length) Slot.unset).toArray = ls at hl ⊢
  have hl : lv_has ls 4 [(0, .ref (qr 0)), (1, .int p1), (2, .int p2), (3, .int p3)] := hl
  have E0 : ∀ (H : Heap) (locs : List Loc), va_P G vwCl [(qr 0, oX2 qr r_kind r_size), (qr 1, .inl (Y 0, 20, .inl r_kinds)), (qr 2, .inl (Y 0, 20, .inl r_figures))] H → va_D A [(qr 0, oX2 qr r_kind r_size), (qr 1, .inl (Y 0, 20, .inl r_kinds)), (qr 2, .inl (Y 0, 20, .inl r_figures))] → va_S A s.heap H locs → ∀ (ls : Array Slot), lv_has ls 4 [(0, .ref (qr 0)), (1, .int p1), (2, .int p2), (3, .int p3)] → W p l e (headSpec wsX2_put (rmk 0 0)).room s m [.ref (qr 0), .int p1, .int p2, .int p3].toArray below meth c H locs 0 0 (MQ below (va_Qv (fun (_ : Unit) => True) (Pst G (tys Y) [(qr 0, oX2 qr r_kind r_size), (qr 1, .inl (Y 0, 20, .inl r_kinds)), (qr 2, .inl (Y 0, 20, .inl r_figures))] s.heap.size [(qr 0, oX2 qr r_kind r_size), (qr 1, .inl (Y 0, 20, .inl o_r_kinds)), (qr 2, .inl (Y 0, 20, .inl o_r_figures))]) A) [.ref (qr 0), .int p1, .int p2, .int p3].toArray s 0 0 A) (F0 m 0 ls []) := by
    intro H locs hP hD hS ls hl
    unfold f_X2_put at hf
    refine lv_aload_n hx hb dX2_put_0 rfl (lv_at hl 0 rfl) ?_
    refine va_get (D := G) (ci := 1) (v := .ref (qr 1)) (C := RX2) (T := TX2) (N := 4) hx hb hts inX2w hown hK hP 0 rfl rfl 0 (by decide) wd1 (fun _ h9 => h9) rfl dX2_put_1 ?_
    refine lv_iload_n hx hb dX2_put_4 rfl (lv_at hl 1 rfl) ?_
    refine lv_iload_n hx hb dX2_put_5 rfl (lv_at hl 2 rfl) ?_
    obtain ⟨g1, hf⟩ := gd hf
    refine va_iast hx hb hK hP hD hS 1 0 rfl rfl g1 dX2_put_6 (fun H locs hP hD hS => ?_)
    obtain ⟨v2, e_v2⟩ : ∃ z : Nat → Int32, z = upd r_kinds p1.toNatClampNeg p2 := ⟨_, rfl⟩
    have hf := nm_at hf e_v2
    have hP : va_P G vwCl [(qr 0, oX2 qr r_kind r_size), (qr 1, .inl (Y 0, 20, .inl v2)), (qr 2, .inl (Y 0, 20, .inl r_figures))] H := by rw [e_v2]; exact hP
    have hD : va_D A [(qr 0, oX2 qr r_kind r_size), (qr 1, .inl (Y 0, 20, .inl v2)), (qr 2, .inl (Y 0, 20, .inl r_figures))] := by rw [e_v2]; exact hD
    refine lv_aload_n hx hb dX2_put_7 rfl (lv_at hl 0 rfl) ?_
    refine va_get (D := G) (ci := 1) (v := .ref (qr 2)) (C := RX2) (T := TX2) (N := 4) hx hb hts inX2w hown hK hP 0 rfl rfl 1 (by decide) wd2 (fun _ h9 => h9) rfl dX2_put_8 ?_
    refine lv_iload_n hx hb dX2_put_11 rfl (lv_at hl 1 rfl) ?_
    refine lv_iload_n hx hb dX2_put_12 rfl (lv_at hl 3 rfl) ?_
    obtain ⟨g3, hf⟩ := gd hf
    refine va_iast hx hb hK hP hD hS 2 0 rfl rfl g3 dX2_put_13 (fun H locs hP hD hS => ?_)
    obtain ⟨v4, e_v4⟩ : ∃ z : Nat → Int32, z = upd r_figures p1.toNatClampNeg p3 := ⟨_, rfl⟩
    have hf := nm_at hf e_v4
    have hP : va_P G vwCl [(qr 0, oX2 qr r_kind r_size), (qr 1, .inl (Y 0, 20, .inl v2)), (qr 2, .inl (Y 0, 20, .inl v4))] H := by rw [e_v4]; exact hP
    have hD : va_D A [(qr 0, oX2 qr r_kind r_size), (qr 1, .inl (Y 0, 20, .inl v2)), (qr 2, .inl (Y 0, 20, .inl v4))] := by rw [e_v4]; exact hD
    obtain ⟨e0, e1⟩ := rt2 hf
    have hP : va_P G vwCl [(qr 0, oX2 qr r_kind r_size), (qr 1, .inl (Y 0, 20, .inl o_r_kinds)), (qr 2, .inl (Y 0, 20, .inl o_r_figures))] H := by rw [← e0, ← e1]; exact hP
    have hD : va_D A [(qr 0, oX2 qr r_kind r_size), (qr 1, .inl (Y 0, 20, .inl o_r_kinds)), (qr 2, .inl (Y 0, 20, .inl o_r_figures))] := by rw [← e0, ← e1]; exact hD
    exact W.vret hx hb hr (fun t ht hW => ⟨⟨(), rfl, trivial, by rw [ht]; exact hP, va_K.moved hW.alike hK, by rw [hAe]; exact hD⟩, hS.F ht⟩) hS.2.2 dX2_put_14
  exact E0 s.heap [] hP hD hS ls hl
