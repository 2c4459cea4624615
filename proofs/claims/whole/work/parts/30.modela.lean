-- X9_in
set_option maxRecDepth 100000 in
set_option maxHeartbeats 4000000 in
theorem c_X9_in (l : Launch) (G : va_G) (Y : Nat → ClassId) (sz : Nat) (p1 : Int64) (p2 : Int64) (p3 : Int64) (rv : Int32) (hf : f_X9_in p1 p2 p3 = some (rv)) : Met l yX9_in wsX9_in (rmk 0 0) (va_Pc [.long p1, .long p2, .long p3] (Pre G (tys Y) [] sz xT)) (va_Qi (fun (r : Int32) (_ : Unit) => r = rv) (Pst G (tys Y) [] sz []) (va_A [] sz)) 0 0 (va_A [] sz) := by
  refine Met.ofW (cc := cX9_in) (maxL := 6) (ret := (some .boolean)) (by decide) rfl ?_
  intro p e s m args below meth c s₁ B hml hv
  obtain ⟨rfl, hsz, hP, hK, hD0, hX⟩ := hv
  have hx := B.exec
  have hb := B.bytes
  have hr := B.returns
  have hts := atoms_spec (ws := wsX9_in) B.pre
  have hown : s.vm.findClass RX9 = some m.cls := findClass_of_methodNamed B.named
  have hlocks := B.notSynchronized
  subst hsz
  have hD := hD0.self (sz := s.heap.size)
  generalize hAe : va_A [] s.heap.size = A at hD ⊢
  have hA : ∀ q : Nat, s.heap.size ≤ q → A q := fun q h => by rw [← hAe]; exact Or.inr h
  have hS : va_S A s.heap s.heap [] := va_S.rf
  have hP : va_P G vwCl [] s.heap := hP
  have hl := lv_entry ([.long p1, .long p2, .long p3]) (n := 6) (Nat.le_of_ble_eq_true rfl)
  rw [lg_entry_eq]
  generalize (lg_sl ([.long p1, .long p2, .long p3]) ++ List.replicate (6 - (lg_sl ([.long p1, .long p2, .long p3])).length) Slot.unset).toArray = ls at hl ⊢
  have hl : lv_has ls 6 [(0, .long p1), (2, .long p2), (4, .long p3)] := hl
  have E0 : ∀ (H : Heap) (locs : List Loc), va_P G vwCl [] H → va_D A [] → va_S A s.heap H locs → ∀ (ls : Array Slot), lv_has ls 6 [(0, .long p1), (2, .long p2), (4, .long p3)] → W p l e (headSpec wsX9_in (rmk 0 0)).room s m [.long p1, .long p2, .long p3].toArray below meth c H locs 0 0 (MQ below (va_Qi (fun (r : Int32) (_ : Unit) => r = rv) (Pst G (tys Y) [] s.heap.size []) A) [.long p1, .long p2, .long p3].toArray s 0 0 A) (F0 m 0 ls []) := by
    intro H locs hP hD hS ls hl
    unfold f_X9_in at hf
    refine lv_lload_n hx hb dX9_in_0 rfl (lv_at hl 0 rfl) ?_
    refine lv_lload_n hx hb dX9_in_1 rfl (lv_at hl 1 rfl) ?_
    refine W.lcmp hx hb dX9_in_2 ?_
    refine lv_if_lt (tgt := 17) hx hb dX9_in_3 (by decide) (fun c1 => ?_) (fun c1 => ?_)
    · have hf := it hf c1
      refine lv_iconst (v := 0) hx hb dX9_in_17 (by decide) ?_
      have e0 := rt1 hf
      exact W.zret (v := (0 : Int32)) hx hb hr rfl (fun t ht hW => ⟨⟨(0 : Int32), (), rfl, e0, by rw [ht]; exact hP, va_K.moved hW.alike hK, by rw [hAe]; exact hD⟩, hS.F ht⟩) hS.2.2 dX9_in_18
    · have hf := ie hf c1
      refine lv_lload_n hx hb dX9_in_6 rfl (lv_at hl 0 rfl) ?_
      refine lv_lload hx hb dX9_in_7 (lv_at hl 2 rfl) ?_
      refine W.lcmp hx hb dX9_in_9 ?_
      refine lv_if_gt (tgt := 17) hx hb dX9_in_10 (by decide) (fun c2 => ?_) (fun c2 => ?_)
      · have hf := it hf c2
        refine lv_iconst (v := 0) hx hb dX9_in_17 (by decide) ?_
        have e0 := rt1 hf
        exact W.zret (v := (0 : Int32)) hx hb hr rfl (fun t ht hW => ⟨⟨(0 : Int32), (), rfl, e0, by rw [ht]; exact hP, va_K.moved hW.alike hK, by rw [hAe]; exact hD⟩, hS.F ht⟩) hS.2.2 dX9_in_18
      · have hf := ie hf c2
        refine lv_iconst (v := 1) hx hb dX9_in_13 (by decide) ?_
        refine lv_goto (tgt := 18) hx hb dX9_in_14 (by decide) ?_
        have e0 := rt1 hf
        exact W.zret (v := (1 : Int32)) hx hb hr rfl (fun t ht hW => ⟨⟨(1 : Int32), (), rfl, e0, by rw [ht]; exact hP, va_K.moved hW.alike hK, by rw [hAe]; exact hD⟩, hS.F ht⟩) hS.2.2 dX9_in_18
  exact E0 s.heap [] hP hD hS ls hl
-- X9_has
set_option maxRecDepth 100000 in
set_option maxHeartbeats 4000000 in
theorem c_X9_has (l : Launch) (G : va_G) (Y : Nat → ClassId) (sz : Nat) (p1 : Int64) (p2 : Int32) (rv : Int32) (hf : f_X9_has p1 p2 = some (rv)) : Met l yX9_has wsX9_has (rmk 0 0) (va_Pc [.long p1, .int p2] (Pre G (tys Y) [] sz xT)) (va_Qi (fun (r : Int32) (_ : Unit) => r = rv) (Pst G (tys Y) [] sz []) (va_A [] sz)) 0 0 (va_A [] sz) := by
  refine Met.ofW (cc := cX9_has) (maxL := 3) (ret := (some .boolean)) (by decide) rfl ?_
  intro p e s m args below meth c s₁ B hml hv
  obtain ⟨rfl, hsz, hP, hK, hD0, hX⟩ := hv
  have hx := B.exec
  have hb := B.bytes
  have hr := B.returns
  have hts := atoms_spec (ws := wsX9_has) B.pre
  have hown : s.vm.findClass RX9 = some m.cls := findClass_of_methodNamed B.named
  have hlocks := B.notSynchronized
  subst hsz
  have hD := hD0.self (sz := s.heap.size)
  generalize hAe : va_A [] s.heap.size = A at hD ⊢
  have hA : ∀ q : Nat, s.heap.size ≤ q → A q := fun q h => by rw [← hAe]; exact Or.inr h
  have hS : va_S A s.heap s.heap [] := va_S.rf
  have hP : va_P G vwCl [] s.heap := hP
  have hl := lv_entry ([.long p1, .int p2]) (n := 3) (Nat.le_of_ble_eq_true rfl)
  rw [lg_entry_eq]
  generalize (lg_sl ([.long p1, .int p2]) ++ List.replicate (3 - (lg_sl ([.long p1, .int p2])).length) Slot.unset).toArray = ls at hl ⊢
  have hl : lv_has ls 3 [(0, .long p1), (2, .int p2)] := hl
  have E0 : ∀ (H : Heap) (locs : List Loc), va_P G vwCl [] H → va_D A [] → va_S A s.heap H locs → ∀ (ls : Array Slot), lv_has ls 3 [(0, .long p1), (2, .int p2)] → W p l e (headSpec wsX9_has (rmk 0 0)).room s m [.long p1, .int p2].toArray below meth c H locs 0 0 (MQ below (va_Qi (fun (r : Int32) (_ : Unit) => r = rv) (Pst G (tys Y) [] s.heap.size []) A) [.long p1, .int p2].toArray s 0 0 A) (F0 m 0 ls []) := by
    intro H locs hP hD hS ls hl
    unfold f_X9_has at hf
    refine lv_lload_n hx hb dX9_has_0 rfl (lv_at hl 0 rfl) ?_
    refine lv_iload_n hx hb dX9_has_1 rfl (lv_at hl 1 rfl) ?_
    refine lv_lushr hx hb dX9_has_2 rfl ?_
    refine lv_lconst (v := 1) hx hb dX9_has_3 (by decide) ?_
    refine lv_land hx hb dX9_has_4 ?_
    refine lv_lconst (v := 1) hx hb dX9_has_5 (by decide) ?_
    refine W.lcmp hx hb dX9_has_6 ?_
    refine lv_if_ne (tgt := 14) hx hb dX9_has_7 (by decide) (fun c1 => ?_) (fun c1 => ?_)
    · have hf := ie hf c1
      refine lv_iconst (v := 0) hx hb dX9_has_14 (by decide) ?_
      have e0 := rt1 hf
      exact W.zret (v := (0 : Int32)) hx hb hr rfl (fun t ht hW => ⟨⟨(0 : Int32), (), rfl, e0, by rw [ht]; exact hP, va_K.moved hW.alike hK, by rw [hAe]; exact hD⟩, hS.F ht⟩) hS.2.2 dX9_has_15
    · have hf := it hf c1
      refine lv_iconst (v := 1) hx hb dX9_has_10 (by decide) ?_
      refine lv_goto (tgt := 15) hx hb dX9_has_11 (by decide) ?_
      have e0 := rt1 hf
      exact W.zret (v := (1 : Int32)) hx hb hr rfl (fun t ht hW => ⟨⟨(1 : Int32), (), rfl, e0, by rw [ht]; exact hP, va_K.moved hW.alike hK, by rw [hAe]; exact hD⟩, hS.F ht⟩) hS.2.2 dX9_has_15
  exact E0 s.heap [] hP hD hS ls hl
-- X9_told
set_option maxRecDepth 100000 in
set_option maxHeartbeats 4000000 in
theorem c_X9_told (l : Launch) (G : va_G) (Y : Nat → ClassId) (sz : Nat) (p1 : Int32) (rv : Int64) (hf : f_X9_told p1 = some (rv)) : Met l yX9_told wsX9_told (rmk 0 0) (va_Pc [.int p1] (Pre G (tys Y) [] sz xT)) (va_Ql (fun (r : Int64) (_ : Unit) => r = rv) (Pst G (tys Y) [] sz []) (va_A [] sz)) 0 0 (va_A [] sz) := by
  refine Met.ofW (cc := cX9_told) (maxL := 1) (ret := (some .long)) (by decide) rfl ?_
  intro p e s m args below meth c s₁ B hml hv
  obtain ⟨rfl, hsz, hP, hK, hD0, hX⟩ := hv
  have hx := B.exec
  have hb := B.bytes
  have hr := B.returns
  have hts := atoms_spec (ws := wsX9_told) B.pre
  have hown : s.vm.findClass RX9 = some m.cls := findClass_of_methodNamed B.named
  have hlocks := B.notSynchronized
  subst hsz
  have hD := hD0.self (sz := s.heap.size)
  generalize hAe : va_A [] s.heap.size = A at hD ⊢
  have hA : ∀ q : Nat, s.heap.size ≤ q → A q := fun q h => by rw [← hAe]; exact Or.inr h
  have hS : va_S A s.heap s.heap [] := va_S.rf
  have hP : va_P G vwCl [] s.heap := hP
  have wd1 : (Cond.constantLong RX9 82 (-4611686018427387904)).before [.int p1].toArray s = true := hts _ (List.mem_of_getElem? (i := 1) rfl)
  have hl := lv_entry ([.int p1]) (n := 1) (Nat.le_of_ble_eq_true rfl)
  rw [lg_entry_eq]
  generalize (lg_sl ([.int p1]) ++ List.replicate (1 - (lg_sl ([.int p1])).length) Slot.unset).toArray = ls at hl ⊢
  have hl : lv_has ls 1 [(0, .int p1)] := hl
  have E0 : ∀ (H : Heap) (locs : List Loc), va_P G vwCl [] H → va_D A [] → va_S A s.heap H locs → ∀ (ls : Array Slot), lv_has ls 1 [(0, .int p1)] → W p l e (headSpec wsX9_told (rmk 0 0)).room s m [.int p1].toArray below meth c H locs 0 0 (MQ below (va_Ql (fun (r : Int64) (_ : Unit) => r = rv) (Pst G (tys Y) [] s.heap.size []) A) [.int p1].toArray s 0 0 A) (F0 m 0 ls []) := by
    intro H locs hP hD hS ls hl
    unfold f_X9_told at hf
    refine lv_ldc2 hx hb hown wd1 dX9_told_0 ?_
    refine lv_iload_n hx hb dX9_told_3 rfl (lv_at hl 0 rfl) ?_
    refine lv_i2l hx hb dX9_told_4 rfl ?_
    refine lv_ladd hx hb dX9_told_5 ?_
    have e0 := rt1 hf
    exact W.lret (v := ((-4611686018427387904 : Int64) + p1.toInt64)) hx hb hr (fun t ht hW => ⟨⟨((-4611686018427387904 : Int64) + p1.toInt64), (), rfl, e0, by rw [ht]; exact hP, va_K.moved hW.alike hK, by rw [hAe]; exact hD⟩, hS.F ht⟩) hS.2.2 dX9_told_6
  exact E0 s.heap [] hP hD hS ls hl
-- X9_plus
set_option maxRecDepth 100000 in
set_option maxHeartbeats 4000000 in
theorem c_X9_plus (l : Launch) (G : va_G) (Y : Nat → ClassId) (sz : Nat) (p1 : Int64) (p2 : Int64) (rv : Int64) (hf : f_X9_plus p1 p2 = some (rv)) : Met l yX9_plus wsX9_plus (rmk 0 0) (va_Pc [.long p1, .long p2] (Pre G (tys Y) [] sz xT)) (va_Ql (fun (r : Int64) (_ : Unit) => r = rv) (Pst G (tys Y) [] sz []) (va_A [] sz)) 0 0 (va_A [] sz) := by
  refine Met.ofW (cc := cX9_plus) (maxL := 4) (ret := (some .long)) (by decide) rfl ?_
  intro p e s m args below meth c s₁ B hml hv
  obtain ⟨rfl, hsz, hP, hK, hD0, hX⟩ := hv
  have hx := B.exec
  have hb := B.bytes
  have hr := B.returns
  have hts := atoms_spec (ws := wsX9_plus) B.pre
  have hown : s.vm.findClass RX9 = some m.cls := findClass_of_methodNamed B.named
  have hlocks := B.notSynchronized
  subst hsz
  have hD := hD0.self (sz := s.heap.size)
  generalize hAe : va_A [] s.heap.size = A at hD ⊢
  have hA : ∀ q : Nat, s.heap.size ≤ q → A q := fun q h => by rw [← hAe]; exact Or.inr h
  have hS : va_S A s.heap s.heap [] := va_S.rf
  have hP : va_P G vwCl [] s.heap := hP
  have wd1 : (Cond.constantLong RX9 84 (-1)).before [.long p1, .long p2].toArray s = true := hts _ (List.mem_of_getElem? (i := 1) rfl)
  have hl := lv_entry ([.long p1, .long p2]) (n := 4) (Nat.le_of_ble_eq_true rfl)
  rw [lg_entry_eq]
  generalize (lg_sl ([.long p1, .long p2]) ++ List.replicate (4 - (lg_sl ([.long p1, .long p2])).length) Slot.unset).toArray = ls at hl ⊢
  have hl : lv_has ls 4 [(0, .long p1), (2, .long p2)] := hl
  have E0 : ∀ (H : Heap) (locs : List Loc), va_P G vwCl [] H → va_D A [] → va_S A s.heap H locs → ∀ (ls : Array Slot), lv_has ls 4 [(0, .long p1), (2, .long p2)] → W p l e (headSpec wsX9_plus (rmk 0 0)).room s m [.long p1, .long p2].toArray below meth c H locs 0 0 (MQ below (va_Ql (fun (r : Int64) (_ : Unit) => r = rv) (Pst G (tys Y) [] s.heap.size []) A) [.long p1, .long p2].toArray s 0 0 A) (F0 m 0 ls []) := by
    intro H locs hP hD hS ls hl
    unfold f_X9_plus at hf
    refine lv_lload_n hx hb dX9_plus_0 rfl (lv_at hl 0 rfl) ?_
    refine lv_lconst (v := 0) hx hb dX9_plus_1 (by decide) ?_
    refine W.lcmp hx hb dX9_plus_2 ?_
    refine lv_if_lt (tgt := 20) hx hb dX9_plus_3 (by decide) (fun c1 => ?_) (fun c1 => ?_)
    · have hf := it hf c1
      refine lv_ldc2 hx hb hown wd1 dX9_plus_20 ?_
      refine lv_goto (tgt := 29) hx hb dX9_plus_23 (by decide) ?_
      have e0 := rt1 hf
      exact W.lret (v := (-1 : Int64)) hx hb hr (fun t ht hW => ⟨⟨(-1 : Int64), (), rfl, e0, by rw [ht]; exact hP, va_K.moved hW.alike hK, by rw [hAe]; exact hD⟩, hS.F ht⟩) hS.2.2 dX9_plus_29
    · have hf := ie hf c1
      refine lv_lload_n hx hb dX9_plus_6 rfl (lv_at hl 1 rfl) ?_
      refine lv_lconst (v := 0) hx hb dX9_plus_7 (by decide) ?_
      refine W.lcmp hx hb dX9_plus_8 ?_
      refine lv_if_lt (tgt := 20) hx hb dX9_plus_9 (by decide) (fun c2 => ?_) (fun c2 => ?_)
      · have hf := it hf c2
        refine lv_ldc2 hx hb hown wd1 dX9_plus_20 ?_
        refine lv_goto (tgt := 29) hx hb dX9_plus_23 (by decide) ?_
        have e0 := rt1 hf
        exact W.lret (v := (-1 : Int64)) hx hb hr (fun t ht hW => ⟨⟨(-1 : Int64), (), rfl, e0, by rw [ht]; exact hP, va_K.moved hW.alike hK, by rw [hAe]; exact hD⟩, hS.F ht⟩) hS.2.2 dX9_plus_29
      · have hf := ie hf c2
        refine lv_lload_n hx hb dX9_plus_12 rfl (lv_at hl 0 rfl) ?_
        refine lv_lload_n hx hb dX9_plus_13 rfl (lv_at hl 1 rfl) ?_
        refine lv_ladd hx hb dX9_plus_14 ?_
        refine lv_lconst (v := 0) hx hb dX9_plus_15 (by decide) ?_
        refine W.lcmp hx hb dX9_plus_16 ?_
        refine lv_if_ge (tgt := 26) hx hb dX9_plus_17 (by decide) (fun c3 => ?_) (fun c3 => ?_)
        · have hf := it hf c3
          refine lv_lload_n hx hb dX9_plus_26 rfl (lv_at hl 0 rfl) ?_
          refine lv_lload_n hx hb dX9_plus_27 rfl (lv_at hl 1 rfl) ?_
          refine lv_ladd hx hb dX9_plus_28 ?_
          have e0 := rt1 hf
          exact W.lret (v := (p1 + p2)) hx hb hr (fun t ht hW => ⟨⟨(p1 + p2), (), rfl, e0, by rw [ht]; exact hP, va_K.moved hW.alike hK, by rw [hAe]; exact hD⟩, hS.F ht⟩) hS.2.2 dX9_plus_29
        · have hf := ie hf c3
          refine lv_ldc2 hx hb hown wd1 dX9_plus_20 ?_
          refine lv_goto (tgt := 29) hx hb dX9_plus_23 (by decide) ?_
          have e0 := rt1 hf
          exact W.lret (v := (-1 : Int64)) hx hb hr (fun t ht hW => ⟨⟨(-1 : Int64), (), rfl, e0, by rw [ht]; exact hP, va_K.moved hW.alike hK, by rw [hAe]; exact hD⟩, hS.F ht⟩) hS.2.2 dX9_plus_29
  exact E0 s.heap [] hP hD hS ls hl
-- X9_times
set_option maxRecDepth 100000 in
set_option maxHeartbeats 4000000 in
theorem c_X9_times (l : Launch) (G : va_G) (Y : Nat → ClassId) (sz : Nat) (p1 : Int64) (p2 : Int64) (rv : Int64) (hf : f_X9_times p1 p2 = some (rv)) : Met l yX9_times wsX9_times (rmk 0 0) (va_Pc [.long p1, .long p2] (Pre G (tys Y) [] sz xT)) (va_Ql (fun (r : Int64) (_ : Unit) => r = rv) (Pst G (tys Y) [] sz []) (va_A [] sz)) 0 0 (va_A [] sz) := by
  refine Met.ofW (cc := cX9_times) (maxL := 4) (ret := (some .long)) (by decide) rfl ?_
  intro p e s m args below meth c s₁ B hml hv
  obtain ⟨rfl, hsz, hP, hK, hD0, hX⟩ := hv
  have hx := B.exec
  have hb := B.bytes
  have hr := B.returns
  have hts := atoms_spec (ws := wsX9_times) B.pre
  have hown : s.vm.findClass RX9 = some m.cls := findClass_of_methodNamed B.named
  have hlocks := B.notSynchronized
  subst hsz
  have hD := hD0.self (sz := s.heap.size)
  generalize hAe : va_A [] s.heap.size = A at hD ⊢
  have hA : ∀ q : Nat, s.heap.size ≤ q → A q := fun q h => by rw [← hAe]; exact Or.inr h
  have hS : va_S A s.heap s.heap [] := va_S.rf
  have hP : va_P G vwCl [] s.heap := hP
  have wd1 : (Cond.constantLong RX9 86 (9223372036854775807)).before [.long p1, .long p2].toArray s = true := hts _ (List.mem_of_getElem? (i := 1) rfl)
  have wd2 : (Cond.constantLong RX9 84 (-1)).before [.long p1, .long p2].toArray s = true := hts _ (List.mem_of_getElem? (i := 2) rfl)
  have hl := lv_entry ([.long p1, .long p2]) (n := 4) (Nat.le_of_ble_eq_true rfl)
  rw [lg_entry_eq]
  generalize (lg_sl ([.long p1, .long p2]) ++ List.replicate (4 - (lg_sl ([.long p1, .long p2])).length) Slot.unset).toArray = ls at hl ⊢
  have hl : lv_has ls 4 [(0, .long p1), (2, .long p2)] := hl
  have E0 : ∀ (H : Heap) (locs : List Loc), va_P G vwCl [] H → va_D A [] → va_S A s.heap H locs → ∀ (ls : Array Slot), lv_has ls 4 [(0, .long p1), (2, .long p2)] → W p l e (headSpec wsX9_times (rmk 0 0)).room s m [.long p1, .long p2].toArray below meth c H locs 0 0 (MQ below (va_Ql (fun (r : Int64) (_ : Unit) => r = rv) (Pst G (tys Y) [] s.heap.size []) A) [.long p1, .long p2].toArray s 0 0 A) (F0 m 0 ls []) := by
    intro H locs hP hD hS ls hl
    unfold f_X9_times at hf
    refine lv_lload_n hx hb dX9_times_0 rfl (lv_at hl 0 rfl) ?_
    refine lv_lconst (v := 0) hx hb dX9_times_1 (by decide) ?_
    refine W.lcmp hx hb dX9_times_2 ?_
    refine lv_if_eq (tgt := 12) hx hb dX9_times_3 (by decide) (fun c1 => ?_) (fun c1 => ?_)
    · have hf := it hf c1
      refine lv_lconst (v := 0) hx hb dX9_times_12 (by decide) ?_
      have e0 := rt1 hf
      exact W.lret (v := (0 : Int64)) hx hb hr (fun t ht hW => ⟨⟨(0 : Int64), (), rfl, e0, by rw [ht]; exact hP, va_K.moved hW.alike hK, by rw [hAe]; exact hD⟩, hS.F ht⟩) hS.2.2 dX9_times_13
    · have hf := ie hf c1
      refine lv_lload_n hx hb dX9_times_6 rfl (lv_at hl 1 rfl) ?_
      refine lv_lconst (v := 0) hx hb dX9_times_7 (by decide) ?_
      refine W.lcmp hx hb dX9_times_8 ?_
      refine lv_if_ne (tgt := 14) hx hb dX9_times_9 (by decide) (fun c2 => ?_) (fun c2 => ?_)
      · have hf := ie hf c2
        refine lv_lload_n hx hb dX9_times_14 rfl (lv_at hl 0 rfl) ?_
        refine lv_lconst (v := 0) hx hb dX9_times_15 (by decide) ?_
        refine W.lcmp hx hb dX9_times_16 ?_
        refine lv_if_lt (tgt := 36) hx hb dX9_times_17 (by decide) (fun c3 => ?_) (fun c3 => ?_)
        · have hf := it hf c3
          refine lv_ldc2 hx hb hown wd2 dX9_times_36 ?_
          refine lv_goto (tgt := 45) hx hb dX9_times_39 (by decide) ?_
          have e0 := rt1 hf
          exact W.lret (v := (-1 : Int64)) hx hb hr (fun t ht hW => ⟨⟨(-1 : Int64), (), rfl, e0, by rw [ht]; exact hP, va_K.moved hW.alike hK, by rw [hAe]; exact hD⟩, hS.F ht⟩) hS.2.2 dX9_times_45
        · have hf := ie hf c3
          refine lv_lload_n hx hb dX9_times_20 rfl (lv_at hl 1 rfl) ?_
          refine lv_lconst (v := 0) hx hb dX9_times_21 (by decide) ?_
          refine W.lcmp hx hb dX9_times_22 ?_
          refine lv_if_lt (tgt := 36) hx hb dX9_times_23 (by decide) (fun c4 => ?_) (fun c4 => ?_)
          · have hf := it hf c4
            refine lv_ldc2 hx hb hown wd2 dX9_times_36 ?_
            refine lv_goto (tgt := 45) hx hb dX9_times_39 (by decide) ?_
            have e0 := rt1 hf
            exact W.lret (v := (-1 : Int64)) hx hb hr (fun t ht hW => ⟨⟨(-1 : Int64), (), rfl, e0, by rw [ht]; exact hP, va_K.moved hW.alike hK, by rw [hAe]; exact hD⟩, hS.F ht⟩) hS.2.2 dX9_times_45
          · have hf := ie hf c4
            refine lv_lload_n hx hb dX9_times_26 rfl (lv_at hl 0 rfl) ?_
            refine lv_ldc2 hx hb hown wd1 dX9_times_27 ?_
            refine lv_lload_n hx hb dX9_times_30 rfl (lv_at hl 1 rfl) ?_
            obtain ⟨g5, hf⟩ := gd hf
            refine lv_ldiv hx hb dX9_times_31 g5 ?_
            refine W.lcmp hx hb dX9_times_32 ?_
            refine lv_if_le (tgt := 42) hx hb dX9_times_33 (by decide) (fun c6 => ?_) (fun c6 => ?_)
            · have hf := it hf c6
              refine lv_lload_n hx hb dX9_times_42 rfl (lv_at hl 0 rfl) ?_
              refine lv_lload_n hx hb dX9_times_43 rfl (lv_at hl 1 rfl) ?_
              refine lv_lmul hx hb dX9_times_44 ?_
              have e0 := rt1 hf
              exact W.lret (v := (p1 * p2)) hx hb hr (fun t ht hW => ⟨⟨(p1 * p2), (), rfl, e0, by rw [ht]; exact hP, va_K.moved hW.alike hK, by rw [hAe]; exact hD⟩, hS.F ht⟩) hS.2.2 dX9_times_45
            · have hf := ie hf c6
              refine lv_ldc2 hx hb hown wd2 dX9_times_36 ?_
              refine lv_goto (tgt := 45) hx hb dX9_times_39 (by decide) ?_
              have e0 := rt1 hf
              exact W.lret (v := (-1 : Int64)) hx hb hr (fun t ht hW => ⟨⟨(-1 : Int64), (), rfl, e0, by rw [ht]; exact hP, va_K.moved hW.alike hK, by rw [hAe]; exact hD⟩, hS.F ht⟩) hS.2.2 dX9_times_45
      · have hf := it hf c2
        refine lv_lconst (v := 0) hx hb dX9_times_12 (by decide) ?_
        have e0 := rt1 hf
        exact W.lret (v := (0 : Int64)) hx hb hr (fun t ht hW => ⟨⟨(0 : Int64), (), rfl, e0, by rw [ht]; exact hP, va_K.moved hW.alike hK, by rw [hAe]; exact hD⟩, hS.F ht⟩) hS.2.2 dX9_times_13
  exact E0 s.heap [] hP hD hS ls hl
-- X9_divisor
set_option maxRecDepth 100000 in
set_option maxHeartbeats 4000000 in
theorem c_X9_divisor (l : Launch) (G : va_G) (Y : Nat → ClassId) (sz : Nat) (p1 : Int64) (p2 : Int64) (rv : Int64) (hf : f_X9_divisor p1 p2 = some (rv)) : Met l yX9_divisor wsX9_divisor (rmk 0 0) (va_Pc [.long p1, .long p2] (Pre G (tys Y) [] sz xT)) (va_Ql (fun (r : Int64) (_ : Unit) => r = rv) (Pst G (tys Y) [] sz []) (va_A [] sz)) 0 0 (va_A [] sz) := by
  refine Met.ofW (cc := cX9_divisor) (maxL := 10) (ret := (some .long)) (by decide) rfl ?_
  intro p e s m args below meth c s₁ B hml hv
  obtain ⟨rfl, hsz, hP, hK, hD0, hX⟩ := hv
  have hx := B.exec
  have hb := B.bytes
  have hr := B.returns
  have hts := atoms_spec (ws := wsX9_divisor) B.pre
  have hown : s.vm.findClass RX9 = some m.cls := findClass_of_methodNamed B.named
  have hlocks := B.notSynchronized
  subst hsz
  have hD := hD0.self (sz := s.heap.size)
  generalize hAe : va_A [] s.heap.size = A at hD ⊢
  have hA : ∀ q : Nat, s.heap.size ≤ q → A q := fun q h => by rw [← hAe]; exact Or.inr h
  have hS : va_S A s.heap s.heap [] := va_S.rf
  have hP : va_P G vwCl [] s.heap := hP
  have hl := lv_entry ([.long p1, .long p2]) (n := 10) (Nat.le_of_ble_eq_true rfl)
  rw [lg_entry_eq]
  generalize (lg_sl ([.long p1, .long p2]) ++ List.replicate (10 - (lg_sl ([.long p1, .long p2])).length) Slot.unset).toArray = ls at hl ⊢
  have hl : lv_has ls 10 [(0, .long p1), (2, .long p2)] := hl
  have B6 : ∀ (n6 : Nat), ∀ (x4 : Int64) (x6 : Int64), f_X9_divisor_b6 p1 p2 n6 x4 x6 = some (rv) → ∀ (H : Heap) (locs : List Loc), va_P G vwCl [] H → va_D A [] → va_S A s.heap H locs → ∀ (ls : Array Slot), lv_has ls 10 [(4, .long x4), (6, .long x6)] → W p l e (headSpec wsX9_divisor (rmk 0 0)).room s m [.long p1, .long p2].toArray below meth c H locs 0 0 (MQ below (va_Ql (fun (r : Int64) (_ : Unit) => r = rv) (Pst G (tys Y) [] s.heap.size []) A) [.long p1, .long p2].toArray s 0 0 A) (F0 m 6 ls []) := by
    intro n6
    induction n6 with
    | zero =>
      intro x4 x6 hf H locs hP hD hS ls hl
      exact no_none hf
    | succ n6 ih6 =>
      intro x4 x6 hf H locs hP hD hS ls hl
      have hf : f_X9_divisor_s6 p1 p2 (f_X9_divisor_b6 p1 p2  n6) x4 x6 = some (rv) := hf
      unfold f_X9_divisor_s6 at hf
      refine lv_lload hx hb dX9_divisor_6 (lv_at hl 1 rfl) ?_
      refine lv_lconst (v := 0) hx hb dX9_divisor_8 (by decide) ?_
      refine W.lcmp hx hb dX9_divisor_9 ?_
      refine lv_if_eq (tgt := 31) hx hb dX9_divisor_10 (by decide) (fun c1 => ?_) (fun c1 => ?_)
      · have hf := it hf c1
        refine lv_lload hx hb dX9_divisor_31 (lv_at hl 0 rfl) ?_
        have e0 := rt1 hf
        exact W.lret (v := x4) hx hb hr (fun t ht hW => ⟨⟨x4, (), rfl, e0, by rw [ht]; exact hP, va_K.moved hW.alike hK, by rw [hAe]; exact hD⟩, hS.F ht⟩) hS.2.2 dX9_divisor_33
      · have hf := ie hf c1
        refine lv_lload hx hb dX9_divisor_13 (lv_at hl 0 rfl) ?_
        refine lv_lload hx hb dX9_divisor_15 (lv_at hl 1 rfl) ?_
        obtain ⟨g2, hf⟩ := gd hf
        refine lv_lrem hx hb dX9_divisor_17 g2 ?_
        refine lv_topl (fun v3 e_v3 => ?_)
        have hf := nm_at hf e_v3
        refine lv_lstore (lv' := [(8, .long v3), (4, .long x4), (6, .long x6)]) hx hb dX9_divisor_18 hl (by decide) rfl (fun ls hl => ?_)
        refine lv_lload hx hb dX9_divisor_20 (lv_at hl 2 rfl) ?_
        refine lv_lstore (lv' := [(4, .long x6), (8, .long v3), (6, .long x6)]) hx hb dX9_divisor_22 hl (by decide) rfl (fun ls hl => ?_)
        refine lv_lload hx hb dX9_divisor_24 (lv_at hl 1 rfl) ?_
        refine lv_lstore (lv' := [(6, .long v3), (4, .long x6), (8, .long v3)]) hx hb dX9_divisor_26 hl (by decide) rfl (fun ls hl => ?_)
        refine lv_goto (tgt := 6) hx hb dX9_divisor_28 (by decide) ?_
        exact ih6 x6 v3 hf _ _ hP hD hS ls (lv_sub hl [1, 0] rfl)
  have E0 : ∀ (H : Heap) (locs : List Loc), va_P G vwCl [] H → va_D A [] → va_S A s.heap H locs → ∀ (ls : Array Slot), lv_has ls 10 [(0, .long p1), (2, .long p2)] → W p l e (headSpec wsX9_divisor (rmk 0 0)).room s m [.long p1, .long p2].toArray below meth c H locs 0 0 (MQ below (va_Ql (fun (r : Int64) (_ : Unit) => r = rv) (Pst G (tys Y) [] s.heap.size []) A) [.long p1, .long p2].toArray s 0 0 A) (F0 m 0 ls []) := by
    intro H locs hP hD hS ls hl
    unfold f_X9_divisor at hf
    refine lv_lload_n hx hb dX9_divisor_0 rfl (lv_at hl 0 rfl) ?_
    refine lv_lstore (lv' := [(4, .long p1), (0, .long p1), (2, .long p2)]) hx hb dX9_divisor_1 hl (by decide) rfl (fun ls hl => ?_)
    refine lv_lload_n hx hb dX9_divisor_3 rfl (lv_at hl 2 rfl) ?_
    refine lv_lstore (lv' := [(6, .long p2), (4, .long p1), (0, .long p1), (2, .long p2)]) hx hb dX9_divisor_4 hl (by decide) rfl (fun ls hl => ?_)
    exact B6 210 p1 p2 hf _ _ hP hD hS ls (lv_sub hl [1, 0] rfl)
  exact E0 s.heap [] hP hD hS ls hl
-- X9_lowest
set_option maxRecDepth 100000 in
set_option maxHeartbeats 4000000 in
theorem c_X9_lowest (l : Launch) (G : va_G) (Y : Nat → ClassId) (sz : Nat) (p1 : Int64) (p2 : Int64) (p3 : Int32) (rv : Int64) (hf : f_X9_lowest p1 p2 p3 = some (rv)) : Met l yX9_lowest wsX9_lowest (rmk 1 29) (va_Pc [.long p1, .long p2, .int p3] (Pre G (tys Y) [] sz xT)) (va_Ql (fun (r : Int64) (_ : Unit) => r = rv) (Pst G (tys Y) [] sz []) (va_A [] sz)) 0 0 (va_A [] sz) := by
  refine Met.ofW (cc := cX9_lowest) (maxL := 7) (ret := (some .long)) (by decide) rfl ?_
  intro p e s m args below meth c s₁ B hml hv
  obtain ⟨rfl, hsz, hP, hK, hD0, hX⟩ := hv
  have hx := B.exec
  have hb := B.bytes
  have hr := B.returns
  have hts := atoms_spec (ws := wsX9_lowest) B.pre
  have hown : s.vm.findClass RX9 = some m.cls := findClass_of_methodNamed B.named
  have hlocks := B.notSynchronized
  subst hsz
  have hD := hD0.self (sz := s.heap.size)
  generalize hAe : va_A [] s.heap.size = A at hD ⊢
  have hA : ∀ q : Nat, s.heap.size ≤ q → A q := fun q h => by rw [← hAe]; exact Or.inr h
  have hS : va_S A s.heap s.heap [] := va_S.rf
  have hP : va_P G vwCl [] s.heap := hP
  have hl := lv_entry ([.long p1, .long p2, .int p3]) (n := 7) (Nat.le_of_ble_eq_true rfl)
  rw [lg_entry_eq]
  generalize (lg_sl ([.long p1, .long p2, .int p3]) ++ List.replicate (7 - (lg_sl ([.long p1, .long p2, .int p3])).length) Slot.unset).toArray = ls at hl ⊢
  have hl : lv_has ls 7 [(0, .long p1), (2, .long p2), (4, .int p3)] := hl
  have E0 : ∀ (H : Heap) (locs : List Loc), va_P G vwCl [] H → va_D A [] → va_S A s.heap H locs → ∀ (ls : Array Slot), lv_has ls 7 [(0, .long p1), (2, .long p2), (4, .int p3)] → W p l e (headSpec wsX9_lowest (rmk 1 29)).room s m [.long p1, .long p2, .int p3].toArray below meth c H locs 0 0 (MQ below (va_Ql (fun (r : Int64) (_ : Unit) => r = rv) (Pst G (tys Y) [] s.heap.size []) A) [.long p1, .long p2, .int p3].toArray s 0 0 A) (F0 m 0 ls []) := by
    intro H locs hP hD hS ls hl
    unfold f_X9_lowest at hf
    refine lv_lload_n hx hb dX9_lowest_0 rfl (lv_at hl 0 rfl) ?_
    refine lv_lload_n hx hb dX9_lowest_1 rfl (lv_at hl 1 rfl) ?_
    obtain ⟨r1, hc, hf⟩ := bd1 hf
    refine cl_l (ws' := []) (wr := []) (rnS (As := [.long p1, .long p2]) (rest := []) ⟨hx, hb, hml, hown, hts⟩ (c_X9_divisor l G Y H.size p1 p2 r1 hc) (va_cwS 2 hts gX9_lowest_X9_divisor rfl rfl rfl (by decide +kernel) ⟨(Nat.le_of_ble_eq_true rfl), (Nat.le_of_ble_eq_true rfl)⟩) trivial okT hK hP hD [] rfl rfl rfl hl.1 rfl (Nat.le_of_ble_eq_true rfl) dX9_lowest_2) hP hD hS hA [] [] [] rfl rfl rfl (by decide) rfl rfl (fun H locs hP hD hS => ?_)
    refine lv_lstore (lv' := [(5, .long r1), (0, .long p1), (2, .long p2), (4, .int p3)]) hx hb dX9_lowest_5 hl (by decide) rfl (fun ls hl => ?_)
    refine lv_iload hx hb dX9_lowest_7 (lv_at hl 3 rfl) ?_
    refine lv_if_ne (tgt := 16) hx hb dX9_lowest_9 (by decide) (fun c2 => ?_) (fun c2 => ?_)
    · have hf := ie hf c2
      refine lv_lload_n hx hb dX9_lowest_16 rfl (lv_at hl 2 rfl) ?_
      refine lv_lload hx hb dX9_lowest_17 (lv_at hl 0 rfl) ?_
      obtain ⟨g3, hf⟩ := gd hf
      refine lv_ldiv hx hb dX9_lowest_19 g3 ?_
      have e0 := rt1 hf
      exact W.lret (v := (p2 / r1)) hx hb hr (fun t ht hW => ⟨⟨(p2 / r1), (), rfl, e0, by rw [ht]; exact hP, va_K.moved hW.alike hK, by rw [hAe]; exact hD⟩, hS.F ht⟩) hS.2.2 dX9_lowest_20
    · have hf := it hf c2
      refine lv_lload_n hx hb dX9_lowest_12 rfl (lv_at hl 1 rfl) ?_
      refine lv_goto (tgt := 17) hx hb dX9_lowest_13 (by decide) ?_
      refine lv_lload hx hb dX9_lowest_17 (lv_at hl 0 rfl) ?_
      obtain ⟨g4, hf⟩ := gd hf
      refine lv_ldiv hx hb dX9_lowest_19 g4 ?_
      have e0 := rt1 hf
      exact W.lret (v := (p1 / r1)) hx hb hr (fun t ht hW => ⟨⟨(p1 / r1), (), rfl, e0, by rw [ht]; exact hP, va_K.moved hW.alike hK, by rw [hAe]; exact hD⟩, hS.F ht⟩) hS.2.2 dX9_lowest_20
  exact E0 s.heap [] hP hD hS ls hl
-- X9_isPoint
set_option maxRecDepth 100000 in
set_option maxHeartbeats 4000000 in
theorem c_X9_isPoint (l : Launch) (G : va_G) (Y : Nat → ClassId) (sz : Nat) (qx : Nat → Nat) (x_points : Int32) (x_lines : Int32) (x_tide : Int32) (x_isKept : Int32) (x_isMuch : Int32) (x_sum : Int64) (x_once : Int64) (x_twice : Int64) (x_isTermMuch : Int32) (x_nodes : Int32) (x_newMany : Int32) (x_isTooGreat : Int32) (x_come : Int32) (x_foundSet : Int64) (p1 : Int32) (rv : Int32) (hf : f_X9_isPoint x_points p1 = some (rv)) : Met l yX9_isPoint wsX9_isPoint (rmk 1 25) (va_Pc [.ref (qx 0), .int p1] (Pre G (tys Y) [(qx 0, oX9 qx x_points x_lines x_tide x_isKept x_isMuch x_sum x_once x_twice x_isTermMuch x_nodes x_newMany x_isTooGreat x_come x_foundSet)] sz xT)) (va_Qi (fun (r : Int32) (_ : Unit) => r = rv) (Pst G (tys Y) [(qx 0, oX9 qx x_points x_lines x_tide x_isKept x_isMuch x_sum x_once x_twice x_isTermMuch x_nodes x_newMany x_isTooGreat x_come x_foundSet)] sz [(qx 0, oX9 qx x_points x_lines x_tide x_isKept x_isMuch x_sum x_once x_twice x_isTermMuch x_nodes x_newMany x_isTooGreat x_come x_foundSet)]) (va_A [(qx 0, oX9 qx x_points x_lines x_tide x_isKept x_isMuch x_sum x_once x_twice x_isTermMuch x_nodes x_newMany x_isTooGreat x_come x_foundSet)] sz)) 0 0 (va_A [(qx 0, oX9 qx x_points x_lines x_tide x_isKept x_isMuch x_sum x_once x_twice x_isTermMuch x_nodes x_newMany x_isTooGreat x_come x_foundSet)] sz) := by
  refine Met.ofW (cc := cX9_isPoint) (maxL := 2) (ret := (some .boolean)) (by decide) rfl ?_
  intro p e s m args below meth c s₁ B hml hv
  obtain ⟨rfl, hsz, hP, hK, hD0, hX⟩ := hv
  have hx := B.exec
  have hb := B.bytes
  have hr := B.returns
  have hts := atoms_spec (ws := wsX9_isPoint) B.pre
  have hown : s.vm.findClass RX9 = some m.cls := findClass_of_methodNamed B.named
  have hlocks := B.notSynchronized
  subst hsz
  have hD := hD0.self (sz := s.heap.size)
  generalize hAe : va_A [(qx 0, oX9 qx x_points x_lines x_tide x_isKept x_isMuch x_sum x_once x_twice x_isTermMuch x_nodes x_newMany x_isTooGreat x_come x_foundSet)] s.heap.size = A at hD ⊢
  have hA : ∀ q : Nat, s.heap.size ≤ q → A q := fun q h => by rw [← hAe]; exact Or.inr h
  have hS : va_S A s.heap s.heap [] := va_S.rf
  have hP : va_P G vwCl [(qx 0, oX9 qx x_points x_lines x_tide x_isKept x_isMuch x_sum x_once x_twice x_isTermMuch x_nodes x_newMany x_isTooGreat x_come x_foundSet)] s.heap := hP
  have wd1 : (Cond.fieldLink RX9 92 "PairedLinesModel" "points" "I").before [.ref (qx 0), .int p1].toArray s = true := hts _ (List.mem_of_getElem? (i := 1) rfl)
  have inX9w : ∀ w ∈ u_ws RX9 TX9 37, w ∈ wsX9_isPoint := fun w hw => List.mem_cons_of_mem _ (List.mem_append_right _ (hw))
  have hl := lv_entry ([.ref (qx 0), .int p1]) (n := 2) (Nat.le_of_ble_eq_true rfl)
  rw [lg_entry_eq]
  generalize (lg_sl ([.ref (qx 0), .int p1]) ++ List.replicate (2 - (lg_sl ([.ref (qx 0), .int p1])).length) Slot.unset).toArray = ls at hl ⊢
  have hl : lv_has ls 2 [(0, .ref (qx 0)), (1, .int p1)] := hl
  have E0 : ∀ (H : Heap) (locs : List Loc), va_P G vwCl [(qx 0, oX9 qx x_points x_lines x_tide x_isKept x_isMuch x_sum x_once x_twice x_isTermMuch x_nodes x_newMany x_isTooGreat x_come x_foundSet)] H → va_D A [(qx 0, oX9 qx x_points x_lines x_tide x_isKept x_isMuch x_sum x_once x_twice x_isTermMuch x_nodes x_newMany x_isTooGreat x_come x_foundSet)] → va_S A s.heap H locs → ∀ (ls : Array Slot), lv_has ls 2 [(0, .ref (qx 0)), (1, .int p1)] → W p l e (headSpec wsX9_isPoint (rmk 1 25)).room s m [.ref (qx 0), .int p1].toArray below meth c H locs 0 0 (MQ below (va_Qi (fun (r : Int32) (_ : Unit) => r = rv) (Pst G (tys Y) [(qx 0, oX9 qx x_points x_lines x_tide x_isKept x_isMuch x_sum x_once x_twice x_isTermMuch x_nodes x_newMany x_isTooGreat x_come x_foundSet)] s.heap.size [(qx 0, oX9 qx x_points x_lines x_tide x_isKept x_isMuch x_sum x_once x_twice x_isTermMuch x_nodes x_newMany x_isTooGreat x_come x_foundSet)]) A) [.ref (qx 0), .int p1].toArray s 0 0 A) (F0 m 0 ls []) := by
    intro H locs hP hD hS ls hl
    unfold f_X9_isPoint at hf
    refine lv_iload_n hx hb dX9_isPoint_0 rfl (lv_at hl 1 rfl) ?_
    refine lv_i2l hx hb dX9_isPoint_1 rfl ?_
    refine lv_lconst (v := 0) hx hb dX9_isPoint_2 (by decide) ?_
    refine lv_aload_n hx hb dX9_isPoint_3 rfl (lv_at hl 0 rfl) ?_
    refine va_get (D := G) (ci := 7) (v := .int x_points) (C := RX9) (T := TX9) (N := 37) hx hb hts inX9w hown hK hP 0 rfl rfl 0 (by decide) wd1 (fun _ h9 => h9) rfl dX9_isPoint_4 ?_
    refine lv_iconst (v := 1) hx hb dX9_isPoint_7 (by decide) ?_
    refine lv_isub hx hb dX9_isPoint_8 ?_
    refine lv_i2l hx hb dX9_isPoint_9 rfl ?_
    obtain ⟨r1, hc, hf⟩ := bd1 hf
    refine cl_i (ws' := [(qx 0, oX9 qx x_points x_lines x_tide x_isKept x_isMuch x_sum x_once x_twice x_isTermMuch x_nodes x_newMany x_isTooGreat x_come x_foundSet)]) (wr := [(qx 0, oX9 qx x_points x_lines x_tide x_isKept x_isMuch x_sum x_once x_twice x_isTermMuch x_nodes x_newMany x_isTooGreat x_come x_foundSet)]) (rnS (As := [.long p1.toInt64, .long (0 : Int64), .long ((x_points - (1 : Int32)).toInt64)]) (rest := []) ⟨hx, hb, hml, hown, hts⟩ (c_X9_in l G Y H.size p1.toInt64 (0 : Int64) ((x_points - (1 : Int32)).toInt64) r1 hc) (va_cwS 3 hts gX9_isPoint_X9_in rfl rfl rfl (by decide +kernel) ⟨(Nat.le_of_ble_eq_true rfl), (Nat.le_of_ble_eq_true rfl)⟩) trivial okT hK hP hD [] rfl rfl rfl hl.1 rfl (Nat.le_of_ble_eq_true rfl) dX9_isPoint_10) hP hD hS hA [] [0] [0] rfl rfl rfl (by decide) rfl rfl (fun H locs hP hD hS => ?_)
    obtain ⟨g2, hf⟩ := gp hf
    have e0 := rt1 hf
    exact W.zret (v := r1) hx hb hr (nb_n g2) (fun t ht hW => ⟨⟨r1, (), rfl, e0, by rw [ht]; exact hP, va_K.moved hW.alike hK, by rw [hAe]; exact hD⟩, hS.F ht⟩) hS.2.2 dX9_isPoint_13
  exact E0 s.heap [] hP hD hS ls hl
-- X9_isLine
set_option maxRecDepth 100000 in
set_option maxHeartbeats 4000000 in
theorem c_X9_isLine (l : Launch) (G : va_G) (Y : Nat → ClassId) (sz : Nat) (qx : Nat → Nat) (x_points : Int32) (x_lines : Int32) (x_tide : Int32) (x_isKept : Int32) (x_isMuch : Int32) (x_sum : Int64) (x_once : Int64) (x_twice : Int64) (x_isTermMuch : Int32) (x_nodes : Int32) (x_newMany : Int32) (x_isTooGreat : Int32) (x_come : Int32) (x_foundSet : Int64) (p1 : Int32) (rv : Int32) (hf : f_X9_isLine x_lines p1 = some (rv)) : Met l yX9_isLine wsX9_isLine (rmk 1 25) (va_Pc [.ref (qx 0), .int p1] (Pre G (tys Y) [(qx 0, oX9 qx x_points x_lines x_tide x_isKept x_isMuch x_sum x_once x_twice x_isTermMuch x_nodes x_newMany x_isTooGreat x_come x_foundSet)] sz xT)) (va_Qi (fun (r : Int32) (_ : Unit) => r = rv) (Pst G (tys Y) [(qx 0, oX9 qx x_points x_lines x_tide x_isKept x_isMuch x_sum x_once x_twice x_isTermMuch x_nodes x_newMany x_isTooGreat x_come x_foundSet)] sz [(qx 0, oX9 qx x_points x_lines x_tide x_isKept x_isMuch x_sum x_once x_twice x_isTermMuch x_nodes x_newMany x_isTooGreat x_come x_foundSet)]) (va_A [(qx 0, oX9 qx x_points x_lines x_tide x_isKept x_isMuch x_sum x_once x_twice x_isTermMuch x_nodes x_newMany x_isTooGreat x_come x_foundSet)] sz)) 0 0 (va_A [(qx 0, oX9 qx x_points x_lines x_tide x_isKept x_isMuch x_sum x_once x_twice x_isTermMuch x_nodes x_newMany x_isTooGreat x_come x_foundSet)] sz) := by
  refine Met.ofW (cc := cX9_isLine) (maxL := 2) (ret := (some .boolean)) (by decide) rfl ?_
  intro p e s m args below meth c s₁ B hml hv
  obtain ⟨rfl, hsz, hP, hK, hD0, hX⟩ := hv
  have hx := B.exec
  have hb := B.bytes
  have hr := B.returns
  have hts := atoms_spec (ws := wsX9_isLine) B.pre
  have hown : s.vm.findClass RX9 = some m.cls := findClass_of_methodNamed B.named
  have hlocks := B.notSynchronized
  subst hsz
  have hD := hD0.self (sz := s.heap.size)
  generalize hAe : va_A [(qx 0, oX9 qx x_points x_lines x_tide x_isKept x_isMuch x_sum x_once x_twice x_isTermMuch x_nodes x_newMany x_isTooGreat x_come x_foundSet)] s.heap.size = A at hD ⊢
  have hA : ∀ q : Nat, s.heap.size ≤ q → A q := fun q h => by rw [← hAe]; exact Or.inr h
  have hS : va_S A s.heap s.heap [] := va_S.rf
  have hP : va_P G vwCl [(qx 0, oX9 qx x_points x_lines x_tide x_isKept x_isMuch x_sum x_once x_twice x_isTermMuch x_nodes x_newMany x_isTooGreat x_come x_foundSet)] s.heap := hP
  have wd1 : (Cond.fieldLink RX9 100 "PairedLinesModel" "lines" "I").before [.ref (qx 0), .int p1].toArray s = true := hts _ (List.mem_of_getElem? (i := 1) rfl)
  have inX9w : ∀ w ∈ u_ws RX9 TX9 37, w ∈ wsX9_isLine := fun w hw => List.mem_cons_of_mem _ (List.mem_append_right _ (hw))
  have hl := lv_entry ([.ref (qx 0), .int p1]) (n := 2) (Nat.le_of_ble_eq_true rfl)
  rw [lg_entry_eq]
  generalize (lg_sl ([.ref (qx 0), .int p1]) ++ List.replicate (2 - (lg_sl ([.ref (qx 0), .int p1])).length) Slot.unset).toArray = ls at hl ⊢
  have hl : lv_has ls 2 [(0, .ref (qx 0)), (1, .int p1)] := hl
  have E0 : ∀ (H : Heap) (locs : List Loc), va_P G vwCl [(qx 0, oX9 qx x_points x_lines x_tide x_isKept x_isMuch x_sum x_once x_twice x_isTermMuch x_nodes x_newMany x_isTooGreat x_come x_foundSet)] H → va_D A [(qx 0, oX9 qx x_points x_lines x_tide x_isKept x_isMuch x_sum x_once x_twice x_isTermMuch x_nodes x_newMany x_isTooGreat x_come x_foundSet)] → va_S A s.heap H locs → ∀ (ls : Array Slot), lv_has ls 2 [(0, .ref (qx 0)), (1, .int p1)] → W p l e (headSpec wsX9_isLine (rmk 1 25)).room s m [.ref (qx 0), .int p1].toArray below meth c H locs 0 0 (MQ below (va_Qi (fun (r : Int32) (_ : Unit) => r = rv) (Pst G (tys Y) [(qx 0, oX9 qx x_points x_lines x_tide x_isKept x_isMuch x_sum x_once x_twice x_isTermMuch x_nodes x_newMany x_isTooGreat x_come x_foundSet)] s.heap.size [(qx 0, oX9 qx x_points x_lines x_tide x_isKept x_isMuch x_sum x_once x_twice x_isTermMuch x_nodes x_newMany x_isTooGreat x_come x_foundSet)]) A) [.ref (qx 0), .int p1].toArray s 0 0 A) (F0 m 0 ls []) := by
    intro H locs hP hD hS ls hl
    unfold f_X9_isLine at hf
    refine lv_iload_n hx hb dX9_isLine_0 rfl (lv_at hl 1 rfl) ?_
    refine lv_i2l hx hb dX9_isLine_1 rfl ?_
    refine lv_lconst (v := 0) hx hb dX9_isLine_2 (by decide) ?_
    refine lv_aload_n hx hb dX9_isLine_3 rfl (lv_at hl 0 rfl) ?_
    refine va_get (D := G) (ci := 7) (v := .int x_lines) (C := RX9) (T := TX9) (N := 37) hx hb hts inX9w hown hK hP 0 rfl rfl 1 (by decide) wd1 (fun _ h9 => h9) rfl dX9_isLine_4 ?_
    refine lv_iconst (v := 1) hx hb dX9_isLine_7 (by decide) ?_
    refine lv_isub hx hb dX9_isLine_8 ?_
    refine lv_i2l hx hb dX9_isLine_9 rfl ?_
    obtain ⟨r1, hc, hf⟩ := bd1 hf
    refine cl_i (ws' := [(qx 0, oX9 qx x_points x_lines x_tide x_isKept x_isMuch x_sum x_once x_twice x_isTermMuch x_nodes x_newMany x_isTooGreat x_come x_foundSet)]) (wr := [(qx 0, oX9 qx x_points x_lines x_tide x_isKept x_isMuch x_sum x_once x_twice x_isTermMuch x_nodes x_newMany x_isTooGreat x_come x_foundSet)]) (rnS (As := [.long p1.toInt64, .long (0 : Int64), .long ((x_lines - (1 : Int32)).toInt64)]) (rest := []) ⟨hx, hb, hml, hown, hts⟩ (c_X9_in l G Y H.size p1.toInt64 (0 : Int64) ((x_lines - (1 : Int32)).toInt64) r1 hc) (va_cwS 3 hts gX9_isLine_X9_in rfl rfl rfl (by decide +kernel) ⟨(Nat.le_of_ble_eq_true rfl), (Nat.le_of_ble_eq_true rfl)⟩) trivial okT hK hP hD [] rfl rfl rfl hl.1 rfl (Nat.le_of_ble_eq_true rfl) dX9_isLine_10) hP hD hS hA [] [0] [0] rfl rfl rfl (by decide) rfl rfl (fun H locs hP hD hS => ?_)
    obtain ⟨g2, hf⟩ := gp hf
    have e0 := rt1 hf
    exact W.zret (v := r1) hx hb hr (nb_n g2) (fun t ht hW => ⟨⟨r1, (), rfl, e0, by rw [ht]; exact hP, va_K.moved hW.alike hK, by rw [hAe]; exact hD⟩, hS.F ht⟩) hS.2.2 dX9_isLine_13
  exact E0 s.heap [] hP hD hS ls hl
-- X9_areTwo
set_option maxRecDepth 100000 in
set_option maxHeartbeats 4000000 in
theorem c_X9_areTwo (l : Launch) (G : va_G) (Y : Nat → ClassId) (sz : Nat) (qx : Nat → Nat) (x_points : Int32) (x_lines : Int32) (x_tide : Int32) (x_isKept : Int32) (x_isMuch : Int32) (x_sum : Int64) (x_once : Int64) (x_twice : Int64) (x_isTermMuch : Int32) (x_nodes : Int32) (x_newMany : Int32) (x_isTooGreat : Int32) (x_come : Int32) (x_foundSet : Int64) (p1 : Int32) (p2 : Int32) (rv : Int32) (hf : f_X9_areTwo x_points p1 p2 = some (rv)) : Met l yX9_areTwo wsX9_areTwo (rmk 2 46) (va_Pc [.ref (qx 0), .int p1, .int p2] (Pre G (tys Y) [(qx 0, oX9 qx x_points x_lines x_tide x_isKept x_isMuch x_sum x_once x_twice x_isTermMuch x_nodes x_newMany x_isTooGreat x_come x_foundSet)] sz xT)) (va_Qi (fun (r : Int32) (_ : Unit) => r = rv) (Pst G (tys Y) [(qx 0, oX9 qx x_points x_lines x_tide x_isKept x_isMuch x_sum x_once x_twice x_isTermMuch x_nodes x_newMany x_isTooGreat x_come x_foundSet)] sz [(qx 0, oX9 qx x_points x_lines x_tide x_isKept x_isMuch x_sum x_once x_twice x_isTermMuch x_nodes x_newMany x_isTooGreat x_come x_foundSet)]) (va_A [(qx 0, oX9 qx x_points x_lines x_tide x_isKept x_isMuch x_sum x_once x_twice x_isTermMuch x_nodes x_newMany x_isTooGreat x_come x_foundSet)] sz)) 0 0 (va_A [(qx 0, oX9 qx x_points x_lines x_tide x_isKept x_isMuch x_sum x_once x_twice x_isTermMuch x_nodes x_newMany x_isTooGreat x_come x_foundSet)] sz) := by
  refine Met.ofW (cc := cX9_areTwo) (maxL := 3) (ret := (some .boolean)) (by decide) rfl ?_
  intro p e s m args below meth c s₁ B hml hv
  obtain ⟨rfl, hsz, hP, hK, hD0, hX⟩ := hv
  have hx := B.exec
  have hb := B.bytes
  have hr := B.returns
  have hts := atoms_spec (ws := wsX9_areTwo) B.pre
  have hown : s.vm.findClass RX9 = some m.cls := findClass_of_methodNamed B.named
  have hlocks := B.notSynchronized
  subst hsz
  have hD := hD0.self (sz := s.heap.size)
  generalize hAe : va_A [(qx 0, oX9 qx x_points x_lines x_tide x_isKept x_isMuch x_sum x_once x_twice x_isTermMuch x_nodes x_newMany x_isTooGreat x_come x_foundSet)] s.heap.size = A at hD ⊢
  have hA : ∀ q : Nat, s.heap.size ≤ q → A q := fun q h => by rw [← hAe]; exact Or.inr h
  have hS : va_S A s.heap s.heap [] := va_S.rf
  have hP : va_P G vwCl [(qx 0, oX9 qx x_points x_lines x_tide x_isKept x_isMuch x_sum x_once x_twice x_isTermMuch x_nodes x_newMany x_isTooGreat x_come x_foundSet)] s.heap := hP
  have hl := lv_entry ([.ref (qx 0), .int p1, .int p2]) (n := 3) (Nat.le_of_ble_eq_true rfl)
  rw [lg_entry_eq]
  generalize (lg_sl ([.ref (qx 0), .int p1, .int p2]) ++ List.replicate (3 - (lg_sl ([.ref (qx 0), .int p1, .int p2])).length) Slot.unset).toArray = ls at hl ⊢
  have hl : lv_has ls 3 [(0, .ref (qx 0)), (1, .int p1), (2, .int p2)] := hl
  have E0 : ∀ (H : Heap) (locs : List Loc), va_P G vwCl [(qx 0, oX9 qx x_points x_lines x_tide x_isKept x_isMuch x_sum x_once x_twice x_isTermMuch x_nodes x_newMany x_isTooGreat x_come x_foundSet)] H → va_D A [(qx 0, oX9 qx x_points x_lines x_tide x_isKept x_isMuch x_sum x_once x_twice x_isTermMuch x_nodes x_newMany x_isTooGreat x_come x_foundSet)] → va_S A s.heap H locs → ∀ (ls : Array Slot), lv_has ls 3 [(0, .ref (qx 0)), (1, .int p1), (2, .int p2)] → W p l e (headSpec wsX9_areTwo (rmk 2 46)).room s m [.ref (qx 0), .int p1, .int p2].toArray below meth c H locs 0 0 (MQ below (va_Qi (fun (r : Int32) (_ : Unit) => r = rv) (Pst G (tys Y) [(qx 0, oX9 qx x_points x_lines x_tide x_isKept x_isMuch x_sum x_once x_twice x_isTermMuch x_nodes x_newMany x_isTooGreat x_come x_foundSet)] s.heap.size [(qx 0, oX9 qx x_points x_lines x_tide x_isKept x_isMuch x_sum x_once x_twice x_isTermMuch x_nodes x_newMany x_isTooGreat x_come x_foundSet)]) A) [.ref (qx 0), .int p1, .int p2].toArray s 0 0 A) (F0 m 0 ls []) := by
    intro H locs hP hD hS ls hl
    unfold f_X9_areTwo at hf
    refine lv_aload_n hx hb dX9_areTwo_0 rfl (lv_at hl 0 rfl) ?_
    refine lv_iload_n hx hb dX9_areTwo_1 rfl (lv_at hl 1 rfl) ?_
    obtain ⟨r1, hc, hf⟩ := bd1 hf
    refine cl_i (ws' := [(qx 0, oX9 qx x_points x_lines x_tide x_isKept x_isMuch x_sum x_once x_twice x_isTermMuch x_nodes x_newMany x_isTooGreat x_come x_foundSet)]) (wr := []) (rnV (As := [.int p1]) (rest := []) ⟨hx, hb, hml, hown, hts⟩ (c_X9_isPoint l G Y H.size qx x_points x_lines x_tide x_isKept x_isMuch x_sum x_once x_twice x_isTermMuch x_nodes x_newMany x_isTooGreat x_come x_foundSet p1 r1 hc) (cwV 1 hts gX9_areTwo_X9_isPoint rfl rfl rfl (by decide +kernel) ⟨(Nat.le_of_ble_eq_true rfl), (Nat.le_of_ble_eq_true rfl)⟩) trivial okT hK hP hD [0] rfl rfl (ci := 7) (q0 := 0) rfl rfl rfl rfl hl.1 rfl (Nat.le_of_ble_eq_true rfl) dX9_areTwo_2) hP hD hS hA [0] [] [0] rfl rfl rfl (by decide) rfl rfl (fun H locs hP hD hS => ?_)
    refine lv_if_eq (tgt := 25) hx hb dX9_areTwo_5 (by decide) (fun c2 => ?_) (fun c2 => ?_)
    · have hf := it hf c2
      refine lv_iconst (v := 0) hx hb dX9_areTwo_25 (by decide) ?_
      have e0 := rt1 hf
      exact W.zret (v := (0 : Int32)) hx hb hr rfl (fun t ht hW => ⟨⟨(0 : Int32), (), rfl, e0, by rw [ht]; exact hP, va_K.moved hW.alike hK, by rw [hAe]; exact hD⟩, hS.F ht⟩) hS.2.2 dX9_areTwo_26
    · have hf := ie hf c2
      refine lv_aload_n hx hb dX9_areTwo_8 rfl (lv_at hl 0 rfl) ?_
      refine lv_iload_n hx hb dX9_areTwo_9 rfl (lv_at hl 2 rfl) ?_
      obtain ⟨r3, hc, hf⟩ := bd1 hf
      refine cl_i (ws' := [(qx 0, oX9 qx x_points x_lines x_tide x_isKept x_isMuch x_sum x_once x_twice x_isTermMuch x_nodes x_newMany x_isTooGreat x_come x_foundSet)]) (wr := []) (rnV (As := [.int p2]) (rest := []) ⟨hx, hb, hml, hown, hts⟩ (c_X9_isPoint l G Y H.size qx x_points x_lines x_tide x_isKept x_isMuch x_sum x_once x_twice x_isTermMuch x_nodes x_newMany x_isTooGreat x_come x_foundSet p2 r3 hc) (cwV 1 hts gX9_areTwo_X9_isPoint rfl rfl rfl (by decide +kernel) ⟨(Nat.le_of_ble_eq_true rfl), (Nat.le_of_ble_eq_true rfl)⟩) trivial okT hK hP hD [0] rfl rfl (ci := 7) (q0 := 0) rfl rfl rfl rfl hl.1 rfl (Nat.le_of_ble_eq_true rfl) dX9_areTwo_10) hP hD hS hA [0] [] [0] rfl rfl rfl (by decide) rfl rfl (fun H locs hP hD hS => ?_)
      refine lv_if_eq (tgt := 25) hx hb dX9_areTwo_13 (by decide) (fun c4 => ?_) (fun c4 => ?_)
      · have hf := it hf c4
        refine lv_iconst (v := 0) hx hb dX9_areTwo_25 (by decide) ?_
        have e0 := rt1 hf
        exact W.zret (v := (0 : Int32)) hx hb hr rfl (fun t ht hW => ⟨⟨(0 : Int32), (), rfl, e0, by rw [ht]; exact hP, va_K.moved hW.alike hK, by rw [hAe]; exact hD⟩, hS.F ht⟩) hS.2.2 dX9_areTwo_26
      · have hf := ie hf c4
        refine lv_iload_n hx hb dX9_areTwo_16 rfl (lv_at hl 1 rfl) ?_
        refine lv_iload_n hx hb dX9_areTwo_17 rfl (lv_at hl 2 rfl) ?_
        refine lv_icmp_eq (tgt := 25) hx hb dX9_areTwo_18 (by decide) (fun c5 => ?_) (fun c5 => ?_)
        · have hf := it hf c5
          refine lv_iconst (v := 0) hx hb dX9_areTwo_25 (by decide) ?_
          have e0 := rt1 hf
          exact W.zret (v := (0 : Int32)) hx hb hr rfl (fun t ht hW => ⟨⟨(0 : Int32), (), rfl, e0, by rw [ht]; exact hP, va_K.moved hW.alike hK, by rw [hAe]; exact hD⟩, hS.F ht⟩) hS.2.2 dX9_areTwo_26
        · have hf := ie hf c5
          refine lv_iconst (v := 1) hx hb dX9_areTwo_21 (by decide) ?_
          refine lv_goto (tgt := 26) hx hb dX9_areTwo_22 (by decide) ?_
          have e0 := rt1 hf
          exact W.zret (v := (1 : Int32)) hx hb hr rfl (fun t ht hW => ⟨⟨(1 : Int32), (), rfl, e0, by rw [ht]; exact hP, va_K.moved hW.alike hK, by rw [hAe]; exact hD⟩, hS.F ht⟩) hS.2.2 dX9_areTwo_26
  exact E0 s.heap [] hP hD hS ls hl
-- X9_isOut
set_option maxRecDepth 100000 in
set_option maxHeartbeats 4000000 in
theorem c_X9_isOut (l : Launch) (G : va_G) (Y : Nat → ClassId) (sz : Nat) (p1 : Int32) (rv : Int32) (hf : f_X9_isOut p1 = some (rv)) : Met l yX9_isOut wsX9_isOut (rmk 1 25) (va_Pc [.int p1] (Pre G (tys Y) [] sz xT)) (va_Qi (fun (r : Int32) (_ : Unit) => r = rv) (Pst G (tys Y) [] sz []) (va_A [] sz)) 0 0 (va_A [] sz) := by
  refine Met.ofW (cc := cX9_isOut) (maxL := 1) (ret := (some .boolean)) (by decide) rfl ?_
  intro p e s m args below meth c s₁ B hml hv
  obtain ⟨rfl, hsz, hP, hK, hD0, hX⟩ := hv
  have hx := B.exec
  have hb := B.bytes
  have hr := B.returns
  have hts := atoms_spec (ws := wsX9_isOut) B.pre
  have hown : s.vm.findClass RX9 = some m.cls := findClass_of_methodNamed B.named
  have hlocks := B.notSynchronized
  subst hsz
  have hD := hD0.self (sz := s.heap.size)
  generalize hAe : va_A [] s.heap.size = A at hD ⊢
  have hA : ∀ q : Nat, s.heap.size ≤ q → A q := fun q h => by rw [← hAe]; exact Or.inr h
  have hS : va_S A s.heap s.heap [] := va_S.rf
  have hP : va_P G vwCl [] s.heap := hP
  have wd1 : (Cond.constantLong RX9 107 (4095)).before [.int p1].toArray s = true := hts _ (List.mem_of_getElem? (i := 1) rfl)
  have hl := lv_entry ([.int p1]) (n := 1) (Nat.le_of_ble_eq_true rfl)
  rw [lg_entry_eq]
  generalize (lg_sl ([.int p1]) ++ List.replicate (1 - (lg_sl ([.int p1])).length) Slot.unset).toArray = ls at hl ⊢
  have hl : lv_has ls 1 [(0, .int p1)] := hl
  have E0 : ∀ (H : Heap) (locs : List Loc), va_P G vwCl [] H → va_D A [] → va_S A s.heap H locs → ∀ (ls : Array Slot), lv_has ls 1 [(0, .int p1)] → W p l e (headSpec wsX9_isOut (rmk 1 25)).room s m [.int p1].toArray below meth c H locs 0 0 (MQ below (va_Qi (fun (r : Int32) (_ : Unit) => r = rv) (Pst G (tys Y) [] s.heap.size []) A) [.int p1].toArray s 0 0 A) (F0 m 0 ls []) := by
    intro H locs hP hD hS ls hl
    unfold f_X9_isOut at hf
    refine lv_iload_n hx hb dX9_isOut_0 rfl (lv_at hl 0 rfl) ?_
    refine lv_i2l hx hb dX9_isOut_1 rfl ?_
    refine lv_lconst (v := 0) hx hb dX9_isOut_2 (by decide) ?_
    refine lv_ldc2 hx hb hown wd1 dX9_isOut_3 ?_
    obtain ⟨r1, hc, hf⟩ := bd1 hf
    refine cl_i (ws' := []) (wr := []) (rnS (As := [.long p1.toInt64, .long (0 : Int64), .long (4095 : Int64)]) (rest := []) ⟨hx, hb, hml, hown, hts⟩ (c_X9_in l G Y H.size p1.toInt64 (0 : Int64) (4095 : Int64) r1 hc) (va_cwS 3 hts gX9_isOut_X9_in rfl rfl rfl (by decide +kernel) ⟨(Nat.le_of_ble_eq_true rfl), (Nat.le_of_ble_eq_true rfl)⟩) trivial okT hK hP hD [] rfl rfl rfl hl.1 rfl (Nat.le_of_ble_eq_true rfl) dX9_isOut_6) hP hD hS hA [] [] [] rfl rfl rfl (by decide) rfl rfl (fun H locs hP hD hS => ?_)
    obtain ⟨g2, hf⟩ := gp hf
    have e0 := rt1 hf
    exact W.zret (v := r1) hx hb hr (nb_n g2) (fun t ht hW => ⟨⟨r1, (), rfl, e0, by rw [ht]; exact hP, va_K.moved hW.alike hK, by rw [hAe]; exact hD⟩, hS.F ht⟩) hS.2.2 dX9_isOut_9
  exact E0 s.heap [] hP hD hS ls hl
-- X9_isRate
set_option maxRecDepth 100000 in
set_option maxHeartbeats 4000000 in
theorem c_X9_isRate (l : Launch) (G : va_G) (Y : Nat → ClassId) (sz : Nat) (p1 : Int32) (rv : Int32) (hf : f_X9_isRate p1 = some (rv)) : Met l yX9_isRate wsX9_isRate (rmk 1 25) (va_Pc [.int p1] (Pre G (tys Y) [] sz xT)) (va_Qi (fun (r : Int32) (_ : Unit) => r = rv) (Pst G (tys Y) [] sz []) (va_A [] sz)) 0 0 (va_A [] sz) := by
  refine Met.ofW (cc := cX9_isRate) (maxL := 1) (ret := (some .boolean)) (by decide) rfl ?_
  intro p e s m args below meth c s₁ B hml hv
  obtain ⟨rfl, hsz, hP, hK, hD0, hX⟩ := hv
  have hx := B.exec
  have hb := B.bytes
  have hr := B.returns
  have hts := atoms_spec (ws := wsX9_isRate) B.pre
  have hown : s.vm.findClass RX9 = some m.cls := findClass_of_methodNamed B.named
  have hlocks := B.notSynchronized
  subst hsz
  have hD := hD0.self (sz := s.heap.size)
  generalize hAe : va_A [] s.heap.size = A at hD ⊢
  have hA : ∀ q : Nat, s.heap.size ≤ q → A q := fun q h => by rw [← hAe]; exact Or.inr h
  have hS : va_S A s.heap s.heap [] := va_S.rf
  have hP : va_P G vwCl [] s.heap := hP
  have wd1 : (Cond.constantLong RX9 109 (9)).before [.int p1].toArray s = true := hts _ (List.mem_of_getElem? (i := 1) rfl)
  have hl := lv_entry ([.int p1]) (n := 1) (Nat.le_of_ble_eq_true rfl)
  rw [lg_entry_eq]
  generalize (lg_sl ([.int p1]) ++ List.replicate (1 - (lg_sl ([.int p1])).length) Slot.unset).toArray = ls at hl ⊢
  have hl : lv_has ls 1 [(0, .int p1)] := hl
  have E0 : ∀ (H : Heap) (locs : List Loc), va_P G vwCl [] H → va_D A [] → va_S A s.heap H locs → ∀ (ls : Array Slot), lv_has ls 1 [(0, .int p1)] → W p l e (headSpec wsX9_isRate (rmk 1 25)).room s m [.int p1].toArray below meth c H locs 0 0 (MQ below (va_Qi (fun (r : Int32) (_ : Unit) => r = rv) (Pst G (tys Y) [] s.heap.size []) A) [.int p1].toArray s 0 0 A) (F0 m 0 ls []) := by
    intro H locs hP hD hS ls hl
    unfold f_X9_isRate at hf
    refine lv_iload_n hx hb dX9_isRate_0 rfl (lv_at hl 0 rfl) ?_
    refine lv_i2l hx hb dX9_isRate_1 rfl ?_
    refine lv_lconst (v := 0) hx hb dX9_isRate_2 (by decide) ?_
    refine lv_ldc2 hx hb hown wd1 dX9_isRate_3 ?_
    obtain ⟨r1, hc, hf⟩ := bd1 hf
    refine cl_i (ws' := []) (wr := []) (rnS (As := [.long p1.toInt64, .long (0 : Int64), .long (9 : Int64)]) (rest := []) ⟨hx, hb, hml, hown, hts⟩ (c_X9_in l G Y H.size p1.toInt64 (0 : Int64) (9 : Int64) r1 hc) (va_cwS 3 hts gX9_isRate_X9_in rfl rfl rfl (by decide +kernel) ⟨(Nat.le_of_ble_eq_true rfl), (Nat.le_of_ble_eq_true rfl)⟩) trivial okT hK hP hD [] rfl rfl rfl hl.1 rfl (Nat.le_of_ble_eq_true rfl) dX9_isRate_6) hP hD hS hA [] [] [] rfl rfl rfl (by decide) rfl rfl (fun H locs hP hD hS => ?_)
    obtain ⟨g2, hf⟩ := gp hf
    have e0 := rt1 hf
    exact W.zret (v := r1) hx hb hr (nb_n g2) (fun t ht hW => ⟨⟨r1, (), rfl, e0, by rw [ht]; exact hP, va_K.moved hW.alike hK, by rw [hAe]; exact hD⟩, hS.F ht⟩) hS.2.2 dX9_isRate_9
  exact E0 s.heap [] hP hD hS ls hl
-- X9_isPart
set_option maxRecDepth 100000 in
set_option maxHeartbeats 4000000 in
theorem c_X9_isPart (l : Launch) (G : va_G) (Y : Nat → ClassId) (sz : Nat) (p1 : Int32) (rv : Int32) (hf : f_X9_isPart p1 = some (rv)) : Met l yX9_isPart wsX9_isPart (rmk 0 0) (va_Pc [.int p1] (Pre G (tys Y) [] sz xT)) (va_Qi (fun (r : Int32) (_ : Unit) => r = rv) (Pst G (tys Y) [] sz []) (va_A [] sz)) 0 0 (va_A [] sz) := by
  refine Met.ofW (cc := cX9_isPart) (maxL := 1) (ret := (some .boolean)) (by decide) rfl ?_
  intro p e s m args below meth c s₁ B hml hv
  obtain ⟨rfl, hsz, hP, hK, hD0, hX⟩ := hv
  have hx := B.exec
  have hb := B.bytes
  have hr := B.returns
  have hts := atoms_spec (ws := wsX9_isPart) B.pre
  have hown : s.vm.findClass RX9 = some m.cls := findClass_of_methodNamed B.named
  have hlocks := B.notSynchronized
  subst hsz
  have hD := hD0.self (sz := s.heap.size)
  generalize hAe : va_A [] s.heap.size = A at hD ⊢
  have hA : ∀ q : Nat, s.heap.size ≤ q → A q := fun q h => by rw [← hAe]; exact Or.inr h
  have hS : va_S A s.heap s.heap [] := va_S.rf
  have hP : va_P G vwCl [] s.heap := hP
  have hl := lv_entry ([.int p1]) (n := 1) (Nat.le_of_ble_eq_true rfl)
  rw [lg_entry_eq]
  generalize (lg_sl ([.int p1]) ++ List.replicate (1 - (lg_sl ([.int p1])).length) Slot.unset).toArray = ls at hl ⊢
  have hl : lv_has ls 1 [(0, .int p1)] := hl
  have E0 : ∀ (H : Heap) (locs : List Loc), va_P G vwCl [] H → va_D A [] → va_S A s.heap H locs → ∀ (ls : Array Slot), lv_has ls 1 [(0, .int p1)] → W p l e (headSpec wsX9_isPart (rmk 0 0)).room s m [.int p1].toArray below meth c H locs 0 0 (MQ below (va_Qi (fun (r : Int32) (_ : Unit) => r = rv) (Pst G (tys Y) [] s.heap.size []) A) [.int p1].toArray s 0 0 A) (F0 m 0 ls []) := by
    intro H locs hP hD hS ls hl
    unfold f_X9_isPart at hf
    refine lv_iload_n hx hb dX9_isPart_0 rfl (lv_at hl 0 rfl) ?_
    refine lv_if_eq (tgt := 9) hx hb dX9_isPart_1 (by decide) (fun c1 => ?_) (fun c1 => ?_)
    · have hf := it hf c1
      refine lv_iconst (v := 1) hx hb dX9_isPart_9 (by decide) ?_
      refine lv_goto (tgt := 14) hx hb dX9_isPart_10 (by decide) ?_
      have e0 := rt1 hf
      exact W.zret (v := (1 : Int32)) hx hb hr rfl (fun t ht hW => ⟨⟨(1 : Int32), (), rfl, e0, by rw [ht]; exact hP, va_K.moved hW.alike hK, by rw [hAe]; exact hD⟩, hS.F ht⟩) hS.2.2 dX9_isPart_14
    · have hf := ie hf c1
      refine lv_iload_n hx hb dX9_isPart_4 rfl (lv_at hl 0 rfl) ?_
      refine lv_iconst (v := 1) hx hb dX9_isPart_5 (by decide) ?_
      refine lv_icmp_ne (tgt := 13) hx hb dX9_isPart_6 (by decide) (fun c2 => ?_) (fun c2 => ?_)
      · have hf := ie hf c2
        refine lv_iconst (v := 0) hx hb dX9_isPart_13 (by decide) ?_
        have e0 := rt1 hf
        exact W.zret (v := (0 : Int32)) hx hb hr rfl (fun t ht hW => ⟨⟨(0 : Int32), (), rfl, e0, by rw [ht]; exact hP, va_K.moved hW.alike hK, by rw [hAe]; exact hD⟩, hS.F ht⟩) hS.2.2 dX9_isPart_14
      · have hf := it hf c2
        refine lv_iconst (v := 1) hx hb dX9_isPart_9 (by decide) ?_
        refine lv_goto (tgt := 14) hx hb dX9_isPart_10 (by decide) ?_
        have e0 := rt1 hf
        exact W.zret (v := (1 : Int32)) hx hb hr rfl (fun t ht hW => ⟨⟨(1 : Int32), (), rfl, e0, by rw [ht]; exact hP, va_K.moved hW.alike hK, by rw [hAe]; exact hD⟩, hS.F ht⟩) hS.2.2 dX9_isPart_14
  exact E0 s.heap [] hP hD hS ls hl
-- X9_lineOf
set_option maxRecDepth 100000 in
set_option maxHeartbeats 4000000 in
theorem c_X9_lineOf (l : Launch) (G : va_G) (Y : Nat → ClassId) (sz : Nat) (qx : Nat → Nat) (x_points : Int32) (x_lines : Int32) (x_tide : Int32) (x_low : Nat → Int32) (x_high : Nat → Int32) (x_isKept : Int32) (x_isMuch : Int32) (x_sum : Int64) (x_once : Int64) (x_twice : Int64) (x_isTermMuch : Int32) (x_nodes : Int32) (x_newMany : Int32) (x_isTooGreat : Int32) (x_come : Int32) (x_foundSet : Int64) (p1 : Int32) (p2 : Int32) (rv : Int32) (hf : f_X9_lineOf x_lines x_low x_high p1 p2 = some (rv)) : Met l yX9_lineOf wsX9_lineOf (rmk 0 0) (va_Pc [.ref (qx 0), .int p1, .int p2] (Pre G (tys Y) [(qx 0, oX9 qx x_points x_lines x_tide x_isKept x_isMuch x_sum x_once x_twice x_isTermMuch x_nodes x_newMany x_isTooGreat x_come x_foundSet), (qx 6, .inl (Y 0, 40, .inl x_low)), (qx 7, .inl (Y 0, 40, .inl x_high))] sz xT)) (va_Qi (fun (r : Int32) (_ : Unit) => r = rv) (Pst G (tys Y) [(qx 0, oX9 qx x_points x_lines x_tide x_isKept x_isMuch x_sum x_once x_twice x_isTermMuch x_nodes x_newMany x_isTooGreat x_come x_foundSet), (qx 6, .inl (Y 0, 40, .inl x_low)), (qx 7, .inl (Y 0, 40, .inl x_high))] sz [(qx 0, oX9 qx x_points x_lines x_tide x_isKept x_isMuch x_sum x_once x_twice x_isTermMuch x_nodes x_newMany x_isTooGreat x_come x_foundSet), (qx 6, .inl (Y 0, 40, .inl x_low)), (qx 7, .inl (Y 0, 40, .inl x_high))]) (va_A [(qx 0, oX9 qx x_points x_lines x_tide x_isKept x_isMuch x_sum x_once x_twice x_isTermMuch x_nodes x_newMany x_isTooGreat x_come x_foundSet), (qx 6, .inl (Y 0, 40, .inl x_low)), (qx 7, .inl (Y 0, 40, .inl x_high))] sz)) 0 0 (va_A [(qx 0, oX9 qx x_points x_lines x_tide x_isKept x_isMuch x_sum x_once x_twice x_isTermMuch x_nodes x_newMany x_isTooGreat x_come x_foundSet), (qx 6, .inl (Y 0, 40, .inl x_low)), (qx 7, .inl (Y 0, 40, .inl x_high))] sz) := by
  refine Met.ofW (cc := cX9_lineOf) (maxL := 4) (ret := (some .int)) (by decide) rfl ?_
  intro p e s m args below meth c s₁ B hml hv
  obtain ⟨rfl, hsz, hP, hK, hD0, hX⟩ := hv
  have hx := B.exec
  have hb := B.bytes
  have hr := B.returns
  have hts := atoms_spec (ws := wsX9_lineOf) B.pre
  have hown : s.vm.findClass RX9 = some m.cls := findClass_of_methodNamed B.named
  have hlocks := B.notSynchronized
  subst hsz
  have hD := hD0.self (sz := s.heap.size)
  generalize hAe : va_A [(qx 0, oX9 qx x_points x_lines x_tide x_isKept x_isMuch x_sum x_once x_twice x_isTermMuch x_nodes x_newMany x_isTooGreat x_come x_foundSet), (qx 6, .inl (Y 0, 40, .inl x_low)), (qx 7, .inl (Y 0, 40, .inl x_high))] s.heap.size = A at hD ⊢
  have hA : ∀ q : Nat, s.heap.size ≤ q → A q := fun q h => by rw [← hAe]; exact Or.inr h
  have hS : va_S A s.heap s.heap [] := va_S.rf
  have hP : va_P G vwCl [(qx 0, oX9 qx x_points x_lines x_tide x_isKept x_isMuch x_sum x_once x_twice x_isTermMuch x_nodes x_newMany x_isTooGreat x_come x_foundSet), (qx 6, .inl (Y 0, 40, .inl x_low)), (qx 7, .inl (Y 0, 40, .inl x_high))] s.heap := hP
  have wd1 : (Cond.fieldLink RX9 100 "PairedLinesModel" "lines" "I").before [.ref (qx 0), .int p1, .int p2].toArray s = true := hts _ (List.mem_of_getElem? (i := 1) rfl)
  have wd2 : (Cond.fieldLink RX9 16 "PairedLinesModel" "low" "[I").before [.ref (qx 0), .int p1, .int p2].toArray s = true := hts _ (List.mem_of_getElem? (i := 2) rfl)
  have wd3 : (Cond.fieldLink RX9 19 "PairedLinesModel" "high" "[I").before [.ref (qx 0), .int p1, .int p2].toArray s = true := hts _ (List.mem_of_getElem? (i := 3) rfl)
  have inX9w : ∀ w ∈ u_ws RX9 TX9 37, w ∈ wsX9_lineOf := fun w hw => List.mem_cons_of_mem _ (List.mem_append_right _ (hw))
  have hl := lv_entry ([.ref (qx 0), .int p1, .int p2]) (n := 4) (Nat.le_of_ble_eq_true rfl)
  rw [lg_entry_eq]
  generalize (lg_sl ([.ref (qx 0), .int p1, .int p2]) ++ List.replicate (4 - (lg_sl ([.ref (qx 0), .int p1, .int p2])).length) Slot.unset).toArray = ls at hl ⊢
  have hl : lv_has ls 4 [(0, .ref (qx 0)), (1, .int p1), (2, .int p2)] := hl
  have B2 : ∀ (n2 : Nat), ∀ (x3 : Int32), f_X9_lineOf_b2 x_lines x_low x_high p1 p2 n2 x3 = some (rv) → ∀ (H : Heap) (locs : List Loc), va_P G vwCl [(qx 0, oX9 qx x_points x_lines x_tide x_isKept x_isMuch x_sum x_once x_twice x_isTermMuch x_nodes x_newMany x_isTooGreat x_come x_foundSet), (qx 6, .inl (Y 0, 40, .inl x_low)), (qx 7, .inl (Y 0, 40, .inl x_high))] H → va_D A [(qx 0, oX9 qx x_points x_lines x_tide x_isKept x_isMuch x_sum x_once x_twice x_isTermMuch x_nodes x_newMany x_isTooGreat x_come x_foundSet), (qx 6, .inl (Y 0, 40, .inl x_low)), (qx 7, .inl (Y 0, 40, .inl x_high))] → va_S A s.heap H locs → ∀ (ls : Array Slot), lv_has ls 4 [(0, .ref (qx 0)), (1, .int p1), (2, .int p2), (3, .int x3)] → W p l e (headSpec wsX9_lineOf (rmk 0 0)).room s m [.ref (qx 0), .int p1, .int p2].toArray below meth c H locs 0 0 (MQ below (va_Qi (fun (r : Int32) (_ : Unit) => r = rv) (Pst G (tys Y) [(qx 0, oX9 qx x_points x_lines x_tide x_isKept x_isMuch x_sum x_once x_twice x_isTermMuch x_nodes x_newMany x_isTooGreat x_come x_foundSet), (qx 6, .inl (Y 0, 40, .inl x_low)), (qx 7, .inl (Y 0, 40, .inl x_high))] s.heap.size [(qx 0, oX9 qx x_points x_lines x_tide x_isKept x_isMuch x_sum x_once x_twice x_isTermMuch x_nodes x_newMany x_isTooGreat x_come x_foundSet), (qx 6, .inl (Y 0, 40, .inl x_low)), (qx 7, .inl (Y 0, 40, .inl x_high))]) A) [.ref (qx 0), .int p1, .int p2].toArray s 0 0 A) (F0 m 2 ls []) := by
    intro n2
    induction n2 with
    | zero =>
      intro x3 hf H locs hP hD hS ls hl
      exact no_none hf
    | succ n2 ih2 =>
      have B30 : ∀ (x3 : Int32), f_X9_lineOf_b30 x_lines x_low x_high p1 p2 (f_X9_lineOf_b2 x_lines x_low x_high p1 p2 n2) x3 = some (rv) → ∀ (H : Heap) (locs : List Loc), va_P G vwCl [(qx 0, oX9 qx x_points x_lines x_tide x_isKept x_isMuch x_sum x_once x_twice x_isTermMuch x_nodes x_newMany x_isTooGreat x_come x_foundSet), (qx 6, .inl (Y 0, 40, .inl x_low)), (qx 7, .inl (Y 0, 40, .inl x_high))] H → va_D A [(qx 0, oX9 qx x_points x_lines x_tide x_isKept x_isMuch x_sum x_once x_twice x_isTermMuch x_nodes x_newMany x_isTooGreat x_come x_foundSet), (qx 6, .inl (Y 0, 40, .inl x_low)), (qx 7, .inl (Y 0, 40, .inl x_high))] → va_S A s.heap H locs → ∀ (ls : Array Slot), lv_has ls 4 [(0, .ref (qx 0)), (1, .int p1), (2, .int p2), (3, .int x3)] → W p l e (headSpec wsX9_lineOf (rmk 0 0)).room s m [.ref (qx 0), .int p1, .int p2].toArray below meth c H locs 0 0 (MQ below (va_Qi (fun (r : Int32) (_ : Unit) => r = rv) (Pst G (tys Y) [(qx 0, oX9 qx x_points x_lines x_tide x_isKept x_isMuch x_sum x_once x_twice x_isTermMuch x_nodes x_newMany x_isTooGreat x_come x_foundSet), (qx 6, .inl (Y 0, 40, .inl x_low)), (qx 7, .inl (Y 0, 40, .inl x_high))] s.heap.size [(qx 0, oX9 qx x_points x_lines x_tide x_isKept x_isMuch x_sum x_once x_twice x_isTermMuch x_nodes x_newMany x_isTooGreat x_come x_foundSet), (qx 6, .inl (Y 0, 40, .inl x_low)), (qx 7, .inl (Y 0, 40, .inl x_high))]) A) [.ref (qx 0), .int p1, .int p2].toArray s 0 0 A) (F0 m 30 ls []) := by
        intro x3 hf H locs hP hD hS ls hl
        unfold f_X9_lineOf_b30 at hf
        refine lv_aload_n hx hb dX9_lineOf_30 rfl (lv_at hl 0 rfl) ?_
        refine va_get (D := G) (ci := 7) (v := .ref (qx 6)) (C := RX9) (T := TX9) (N := 37) hx hb hts inX9w hown hK hP 0 rfl rfl 5 (by decide) wd2 (fun _ h9 => h9) rfl dX9_lineOf_31 ?_
        refine lv_iload_n hx hb dX9_lineOf_34 rfl (lv_at hl 3 rfl) ?_
        obtain ⟨g1, hf⟩ := gd hf
        refine va_iald hx hb hK hP 1 0 rfl rfl g1 dX9_lineOf_35 ?_
        refine lv_iload_n hx hb dX9_lineOf_36 rfl (lv_at hl 2 rfl) ?_
        refine lv_icmp_ne (tgt := 52) hx hb dX9_lineOf_37 (by decide) (fun c2 => ?_) (fun c2 => ?_)
        · have hf := ie hf c2
          obtain ⟨v3, e_v3⟩ : ∃ z : Int32, z = (x3 + 1) := ⟨_, rfl⟩
          have hf := nm_at hf e_v3
          refine lv_iinc (v := v3) (lv' := [(3, .int v3), (0, .ref (qx 0)), (1, .int p1), (2, .int p2)]) hx hb dX9_lineOf_52 hl (k := 3) rfl (by rw [e_v3]; rfl) (by decide) rfl (fun ls hl => ?_)
          refine lv_goto (tgt := 2) hx hb dX9_lineOf_55 (by decide) ?_
          exact ih2 v3 hf _ _ hP hD hS ls (lv_sub hl [1, 2, 3, 0] rfl)
        · have hf := it hf c2
          refine lv_aload_n hx hb dX9_lineOf_40 rfl (lv_at hl 0 rfl) ?_
          refine va_get (D := G) (ci := 7) (v := .ref (qx 7)) (C := RX9) (T := TX9) (N := 37) hx hb hts inX9w hown hK hP 0 rfl rfl 6 (by decide) wd3 (fun _ h9 => h9) rfl dX9_lineOf_41 ?_
          refine lv_iload_n hx hb dX9_lineOf_44 rfl (lv_at hl 3 rfl) ?_
          obtain ⟨g4, hf⟩ := gd hf
          refine va_iald hx hb hK hP 2 0 rfl rfl g4 dX9_lineOf_45 ?_
          refine lv_iload_n hx hb dX9_lineOf_46 rfl (lv_at hl 1 rfl) ?_
          refine lv_icmp_ne (tgt := 52) hx hb dX9_lineOf_47 (by decide) (fun c5 => ?_) (fun c5 => ?_)
          · have hf := ie hf c5
            obtain ⟨v6, e_v6⟩ : ∃ z : Int32, z = (x3 + 1) := ⟨_, rfl⟩
            have hf := nm_at hf e_v6
            refine lv_iinc (v := v6) (lv' := [(3, .int v6), (0, .ref (qx 0)), (1, .int p1), (2, .int p2)]) hx hb dX9_lineOf_52 hl (k := 3) rfl (by rw [e_v6]; rfl) (by decide) rfl (fun ls hl => ?_)
            refine lv_goto (tgt := 2) hx hb dX9_lineOf_55 (by decide) ?_
            exact ih2 v6 hf _ _ hP hD hS ls (lv_sub hl [1, 2, 3, 0] rfl)
          · have hf := it hf c5
            refine lv_iload_n hx hb dX9_lineOf_50 rfl (lv_at hl 3 rfl) ?_
            have e0 := rt1 hf
            exact W.iret (v := x3) hx hb hr (fun t ht hW => ⟨⟨x3, (), rfl, e0, by rw [ht]; exact hP, va_K.moved hW.alike hK, by rw [hAe]; exact hD⟩, hS.F ht⟩) hS.2.2 dX9_lineOf_51
      intro x3 hf H locs hP hD hS ls hl
      have hf : f_X9_lineOf_s2 x_lines x_low x_high p1 p2 (f_X9_lineOf_b2 x_lines x_low x_high p1 p2  n2) x3 = some (rv) := hf
      unfold f_X9_lineOf_s2 at hf
      refine lv_iload_n hx hb dX9_lineOf_2 rfl (lv_at hl 3 rfl) ?_
      refine lv_aload_n hx hb dX9_lineOf_3 rfl (lv_at hl 0 rfl) ?_
      refine va_get (D := G) (ci := 7) (v := .int x_lines) (C := RX9) (T := TX9) (N := 37) hx hb hts inX9w hown hK hP 0 rfl rfl 1 (by decide) wd1 (fun _ h9 => h9) rfl dX9_lineOf_4 ?_
      refine lv_icmp_ge (tgt := 58) hx hb dX9_lineOf_7 (by decide) (fun c7 => ?_) (fun c7 => ?_)
      · have hf := it hf c7
        refine lv_iconst (v := -1) hx hb dX9_lineOf_58 (by decide) ?_
        have e0 := rt1 hf
        exact W.iret (v := (-1 : Int32)) hx hb hr (fun t ht hW => ⟨⟨(-1 : Int32), (), rfl, e0, by rw [ht]; exact hP, va_K.moved hW.alike hK, by rw [hAe]; exact hD⟩, hS.F ht⟩) hS.2.2 dX9_lineOf_59
      · have hf := ie hf c7
        refine lv_aload_n hx hb dX9_lineOf_10 rfl (lv_at hl 0 rfl) ?_
        refine va_get (D := G) (ci := 7) (v := .ref (qx 6)) (C := RX9) (T := TX9) (N := 37) hx hb hts inX9w hown hK hP 0 rfl rfl 5 (by decide) wd2 (fun _ h9 => h9) rfl dX9_lineOf_11 ?_
        refine lv_iload_n hx hb dX9_lineOf_14 rfl (lv_at hl 3 rfl) ?_
        obtain ⟨g8, hf⟩ := gd hf
        refine va_iald hx hb hK hP 1 0 rfl rfl g8 dX9_lineOf_15 ?_
        refine lv_iload_n hx hb dX9_lineOf_16 rfl (lv_at hl 1 rfl) ?_
        refine lv_icmp_ne (tgt := 30) hx hb dX9_lineOf_17 (by decide) (fun c9 => ?_) (fun c9 => ?_)
        · have hf := ie hf c9
          exact B30 x3 hf _ _ hP hD hS ls (lv_sub hl [0, 1, 2, 3] rfl)
        · have hf := it hf c9
          refine lv_aload_n hx hb dX9_lineOf_20 rfl (lv_at hl 0 rfl) ?_
          refine va_get (D := G) (ci := 7) (v := .ref (qx 7)) (C := RX9) (T := TX9) (N := 37) hx hb hts inX9w hown hK hP 0 rfl rfl 6 (by decide) wd3 (fun _ h9 => h9) rfl dX9_lineOf_21 ?_
          refine lv_iload_n hx hb dX9_lineOf_24 rfl (lv_at hl 3 rfl) ?_
          obtain ⟨g10, hf⟩ := gd hf
          refine va_iald hx hb hK hP 2 0 rfl rfl g10 dX9_lineOf_25 ?_
          refine lv_iload_n hx hb dX9_lineOf_26 rfl (lv_at hl 2 rfl) ?_
          refine lv_icmp_eq (tgt := 50) hx hb dX9_lineOf_27 (by decide) (fun c11 => ?_) (fun c11 => ?_)
          · have hf := it hf c11
            refine lv_iload_n hx hb dX9_lineOf_50 rfl (lv_at hl 3 rfl) ?_
            have e0 := rt1 hf
            exact W.iret (v := x3) hx hb hr (fun t ht hW => ⟨⟨x3, (), rfl, e0, by rw [ht]; exact hP, va_K.moved hW.alike hK, by rw [hAe]; exact hD⟩, hS.F ht⟩) hS.2.2 dX9_lineOf_51
          · have hf := ie hf c11
            exact B30 x3 hf _ _ hP hD hS ls (lv_sub hl [0, 1, 2, 3] rfl)
  have E0 : ∀ (H : Heap) (locs : List Loc), va_P G vwCl [(qx 0, oX9 qx x_points x_lines x_tide x_isKept x_isMuch x_sum x_once x_twice x_isTermMuch x_nodes x_newMany x_isTooGreat x_come x_foundSet), (qx 6, .inl (Y 0, 40, .inl x_low)), (qx 7, .inl (Y 0, 40, .inl x_high))] H → va_D A [(qx 0, oX9 qx x_points x_lines x_tide x_isKept x_isMuch x_sum x_once x_twice x_isTermMuch x_nodes x_newMany x_isTooGreat x_come x_foundSet), (qx 6, .inl (Y 0, 40, .inl x_low)), (qx 7, .inl (Y 0, 40, .inl x_high))] → va_S A s.heap H locs → ∀ (ls : Array Slot), lv_has ls 4 [(0, .ref (qx 0)), (1, .int p1), (2, .int p2)] → W p l e (headSpec wsX9_lineOf (rmk 0 0)).room s m [.ref (qx 0), .int p1, .int p2].toArray below meth c H locs 0 0 (MQ below (va_Qi (fun (r : Int32) (_ : Unit) => r = rv) (Pst G (tys Y) [(qx 0, oX9 qx x_points x_lines x_tide x_isKept x_isMuch x_sum x_once x_twice x_isTermMuch x_nodes x_newMany x_isTooGreat x_come x_foundSet), (qx 6, .inl (Y 0, 40, .inl x_low)), (qx 7, .inl (Y 0, 40, .inl x_high))] s.heap.size [(qx 0, oX9 qx x_points x_lines x_tide x_isKept x_isMuch x_sum x_once x_twice x_isTermMuch x_nodes x_newMany x_isTooGreat x_come x_foundSet), (qx 6, .inl (Y 0, 40, .inl x_low)), (qx 7, .inl (Y 0, 40, .inl x_high))]) A) [.ref (qx 0), .int p1, .int p2].toArray s 0 0 A) (F0 m 0 ls []) := by
    intro H locs hP hD hS ls hl
    unfold f_X9_lineOf at hf
    refine lv_iconst (v := 0) hx hb dX9_lineOf_0 (by decide) ?_
    refine lv_istore_n (lv' := [(3, .int (0 : Int32)), (0, .ref (qx 0)), (1, .int p1), (2, .int p2)]) hx hb dX9_lineOf_1 rfl hl (by decide) rfl (fun ls hl => ?_)
    exact B2 70 (0 : Int32) hf _ _ hP hD hS ls (lv_sub hl [1, 2, 3, 0] rfl)
  exact E0 s.heap [] hP hD hS ls hl
-- X9_weighs
set_option maxRecDepth 100000 in
set_option maxHeartbeats 4000000 in
theorem c_X9_weighs (l : Launch) (G : va_G) (Y : Nat → ClassId) (sz : Nat) (qx : Nat → Nat) (x_points : Int32) (x_lines : Int32) (x_tide : Int32) (x_isKept : Int32) (x_isMuch : Int32) (x_sum : Int64) (x_once : Int64) (x_twice : Int64) (x_isTermMuch : Int32) (x_nodes : Int32) (x_newMany : Int32) (x_isTooGreat : Int32) (x_come : Int32) (x_foundSet : Int64) (p1 : Int32) (p2 : Int32) (rv : Int32) (hf : f_X9_weighs x_tide p1 p2 = some (rv)) : Met l yX9_weighs wsX9_weighs (rmk 0 0) (va_Pc [.ref (qx 0), .int p1, .int p2] (Pre G (tys Y) [(qx 0, oX9 qx x_points x_lines x_tide x_isKept x_isMuch x_sum x_once x_twice x_isTermMuch x_nodes x_newMany x_isTooGreat x_come x_foundSet)] sz xT)) (va_Qi (fun (r : Int32) (_ : Unit) => r = rv) (Pst G (tys Y) [(qx 0, oX9 qx x_points x_lines x_tide x_isKept x_isMuch x_sum x_once x_twice x_isTermMuch x_nodes x_newMany x_isTooGreat x_come x_foundSet)] sz [(qx 0, oX9 qx x_points x_lines x_tide x_isKept x_isMuch x_sum x_once x_twice x_isTermMuch x_nodes x_newMany x_isTooGreat x_come x_foundSet)]) (va_A [(qx 0, oX9 qx x_points x_lines x_tide x_isKept x_isMuch x_sum x_once x_twice x_isTermMuch x_nodes x_newMany x_isTooGreat x_come x_foundSet)] sz)) 0 0 (va_A [(qx 0, oX9 qx x_points x_lines x_tide x_isKept x_isMuch x_sum x_once x_twice x_isTermMuch x_nodes x_newMany x_isTooGreat x_come x_foundSet)] sz) := by
  refine Met.ofW (cc := cX9_weighs) (maxL := 4) (ret := (some .int)) (by decide) rfl ?_
  intro p e s m args below meth c s₁ B hml hv
  obtain ⟨rfl, hsz, hP, hK, hD0, hX⟩ := hv
  have hx := B.exec
  have hb := B.bytes
  have hr := B.returns
  have hts := atoms_spec (ws := wsX9_weighs) B.pre
  have hown : s.vm.findClass RX9 = some m.cls := findClass_of_methodNamed B.named
  have hlocks := B.notSynchronized
  subst hsz
  have hD := hD0.self (sz := s.heap.size)
  generalize hAe : va_A [(qx 0, oX9 qx x_points x_lines x_tide x_isKept x_isMuch x_sum x_once x_twice x_isTermMuch x_nodes x_newMany x_isTooGreat x_come x_foundSet)] s.heap.size = A at hD ⊢
  have hA : ∀ q : Nat, s.heap.size ≤ q → A q := fun q h => by rw [← hAe]; exact Or.inr h
  have hS : va_S A s.heap s.heap [] := va_S.rf
  have hP : va_P G vwCl [(qx 0, oX9 qx x_points x_lines x_tide x_isKept x_isMuch x_sum x_once x_twice x_isTermMuch x_nodes x_newMany x_isTooGreat x_come x_foundSet)] s.heap := hP
  have wd1 : (Cond.fieldLink RX9 111 "PairedLinesModel" "tide" "I").before [.ref (qx 0), .int p1, .int p2].toArray s = true := hts _ (List.mem_of_getElem? (i := 1) rfl)
  have inX9w : ∀ w ∈ u_ws RX9 TX9 37, w ∈ wsX9_weighs := fun w hw => List.mem_cons_of_mem _ (List.mem_append_right _ (hw))
  have hl := lv_entry ([.ref (qx 0), .int p1, .int p2]) (n := 4) (Nat.le_of_ble_eq_true rfl)
  rw [lg_entry_eq]
  generalize (lg_sl ([.ref (qx 0), .int p1, .int p2]) ++ List.replicate (4 - (lg_sl ([.ref (qx 0), .int p1, .int p2])).length) Slot.unset).toArray = ls at hl ⊢
  have hl : lv_has ls 4 [(0, .ref (qx 0)), (1, .int p1), (2, .int p2)] := hl
  have B18 : ∀ (y0 : Int32), f_X9_weighs_b18 x_tide p1 p2 y0 = some (rv) → ∀ (H : Heap) (locs : List Loc), va_P G vwCl [(qx 0, oX9 qx x_points x_lines x_tide x_isKept x_isMuch x_sum x_once x_twice x_isTermMuch x_nodes x_newMany x_isTooGreat x_come x_foundSet)] H → va_D A [(qx 0, oX9 qx x_points x_lines x_tide x_isKept x_isMuch x_sum x_once x_twice x_isTermMuch x_nodes x_newMany x_isTooGreat x_come x_foundSet)] → va_S A s.heap H locs → ∀ (ls : Array Slot), lv_has ls 4 [(0, .ref (qx 0)), (1, .int p1), (2, .int p2)] → W p l e (headSpec wsX9_weighs (rmk 0 0)).room s m [.ref (qx 0), .int p1, .int p2].toArray below meth c H locs 0 0 (MQ below (va_Qi (fun (r : Int32) (_ : Unit) => r = rv) (Pst G (tys Y) [(qx 0, oX9 qx x_points x_lines x_tide x_isKept x_isMuch x_sum x_once x_twice x_isTermMuch x_nodes x_newMany x_isTooGreat x_come x_foundSet)] s.heap.size [(qx 0, oX9 qx x_points x_lines x_tide x_isKept x_isMuch x_sum x_once x_twice x_isTermMuch x_nodes x_newMany x_isTooGreat x_come x_foundSet)]) A) [.ref (qx 0), .int p1, .int p2].toArray s 0 0 A) (F0 m 18 ls [.int y0]) := by
    intro y0 hf H locs hP hD hS ls hl
    unfold f_X9_weighs_b18 at hf
    refine lv_istore_n (lv' := [(3, .int y0), (0, .ref (qx 0)), (1, .int p1), (2, .int p2)]) hx hb dX9_weighs_18 rfl hl (by decide) rfl (fun ls hl => ?_)
    refine lv_iload_n hx hb dX9_weighs_19 rfl (lv_at hl 2 rfl) ?_
    by_cases c1 : p1 = 1
    · have hf := it hf c1
      refine lv_tableIn (tgt := 56) hx hb dX9_weighs_20 (by rw [c1]; decide) (by rw [c1]; decide) (off := 36) (by rw [c1]; rfl) (by decide) ?_
      refine lv_iconst (v := 2) hx hb dX9_weighs_56 (by decide) ?_
      refine lv_iload_n hx hb dX9_weighs_57 rfl (lv_at hl 3 rfl) ?_
      refine lv_imul hx hb dX9_weighs_58 ?_
      have e0 := rt1 hf
      exact W.iret (v := ((2 : Int32) * p2)) hx hb hr (fun t ht hW => ⟨⟨((2 : Int32) * p2), (), rfl, e0, by rw [ht]; exact hP, va_K.moved hW.alike hK, by rw [hAe]; exact hD⟩, hS.F ht⟩) hS.2.2 dX9_weighs_59
    have hf := ie hf c1
    by_cases c2 : p1 = 2
    · have hf := it hf c2
      refine lv_tableIn (tgt := 60) hx hb dX9_weighs_20 (by rw [c2]; decide) (by rw [c2]; decide) (off := 40) (by rw [c2]; rfl) (by decide) ?_
      refine lv_iload_n hx hb dX9_weighs_60 rfl (lv_at hl 0 rfl) ?_
      have e0 := rt1 hf
      exact W.iret (v := y0) hx hb hr (fun t ht hW => ⟨⟨y0, (), rfl, e0, by rw [ht]; exact hP, va_K.moved hW.alike hK, by rw [hAe]; exact hD⟩, hS.F ht⟩) hS.2.2 dX9_weighs_61
    have hf := ie hf c2
    by_cases c3 : p1 = 3
    · have hf := it hf c3
      refine lv_tableIn (tgt := 62) hx hb dX9_weighs_20 (by rw [c3]; decide) (by rw [c3]; decide) (off := 42) (by rw [c3]; rfl) (by decide) ?_
      refine lv_iconst (v := 2) hx hb dX9_weighs_62 (by decide) ?_
      refine lv_iload_n hx hb dX9_weighs_63 rfl (lv_at hl 3 rfl) ?_
      refine lv_imul hx hb dX9_weighs_64 ?_
      refine lv_aload_n hx hb dX9_weighs_65 rfl (lv_at hl 1 rfl) ?_
      refine va_get (D := G) (ci := 7) (v := .int x_tide) (C := RX9) (T := TX9) (N := 37) hx hb hts inX9w hown hK hP 0 rfl rfl 2 (by decide) wd1 (fun _ h9 => h9) rfl dX9_weighs_66 ?_
      refine lv_iadd hx hb dX9_weighs_69 ?_
      have e0 := rt1 hf
      exact W.iret (v := (((2 : Int32) * p2) + x_tide)) hx hb hr (fun t ht hW => ⟨⟨(((2 : Int32) * p2) + x_tide), (), rfl, e0, by rw [ht]; exact hP, va_K.moved hW.alike hK, by rw [hAe]; exact hD⟩, hS.F ht⟩) hS.2.2 dX9_weighs_70
    have hf := ie hf c3
    by_cases c4 : p1 = 4
    · have hf := it hf c4
      refine lv_tableIn (tgt := 71) hx hb dX9_weighs_20 (by rw [c4]; decide) (by rw [c4]; decide) (off := 51) (by rw [c4]; rfl) (by decide) ?_
      refine lv_iload_n hx hb dX9_weighs_71 rfl (lv_at hl 0 rfl) ?_
      refine lv_iconst (v := 2) hx hb dX9_weighs_72 (by decide) ?_
      obtain ⟨g5, hf⟩ := gd hf
      refine lv_idiv hx hb dX9_weighs_73 g5 ?_
      have e0 := rt1 hf
      exact W.iret (v := (y0 / (2 : Int32))) hx hb hr (fun t ht hW => ⟨⟨(y0 / (2 : Int32)), (), rfl, e0, by rw [ht]; exact hP, va_K.moved hW.alike hK, by rw [hAe]; exact hD⟩, hS.F ht⟩) hS.2.2 dX9_weighs_74
    have hf := ie hf c4
    by_cases c6 : p1 = 5
    · have hf := it hf c6
      refine lv_tableIn (tgt := 75) hx hb dX9_weighs_20 (by rw [c6]; decide) (by rw [c6]; decide) (off := 55) (by rw [c6]; rfl) (by decide) ?_
      refine lv_aload_n hx hb dX9_weighs_75 rfl (lv_at hl 1 rfl) ?_
      refine va_get (D := G) (ci := 7) (v := .int x_tide) (C := RX9) (T := TX9) (N := 37) hx hb hts inX9w hown hK hP 0 rfl rfl 2 (by decide) wd1 (fun _ h9 => h9) rfl dX9_weighs_76 ?_
      refine lv_iconst (v := 2) hx hb dX9_weighs_79 (by decide) ?_
      obtain ⟨g7, hf⟩ := gd hf
      refine lv_irem hx hb dX9_weighs_80 g7 ?_
      refine lv_if_ne (tgt := 88) hx hb dX9_weighs_81 (by decide) (fun c8 => ?_) (fun c8 => ?_)
      · have hf := ie hf c8
        refine lv_iconst (v := 1) hx hb dX9_weighs_88 (by decide) ?_
        have e0 := rt1 hf
        exact W.iret (v := (1 : Int32)) hx hb hr (fun t ht hW => ⟨⟨(1 : Int32), (), rfl, e0, by rw [ht]; exact hP, va_K.moved hW.alike hK, by rw [hAe]; exact hD⟩, hS.F ht⟩) hS.2.2 dX9_weighs_89
      · have hf := it hf c8
        refine lv_iload_n hx hb dX9_weighs_84 rfl (lv_at hl 3 rfl) ?_
        refine lv_goto (tgt := 89) hx hb dX9_weighs_85 (by decide) ?_
        have e0 := rt1 hf
        exact W.iret (v := p2) hx hb hr (fun t ht hW => ⟨⟨p2, (), rfl, e0, by rw [ht]; exact hP, va_K.moved hW.alike hK, by rw [hAe]; exact hD⟩, hS.F ht⟩) hS.2.2 dX9_weighs_89
    have hf := ie hf c6
    have t_c1 : ¬ p1.toInt = 1 := lv_neT c1 (by decide)
    have t_c2 : ¬ p1.toInt = 2 := lv_neT c2 (by decide)
    have t_c3 : ¬ p1.toInt = 3 := lv_neT c3 (by decide)
    have t_c4 : ¬ p1.toInt = 4 := lv_neT c4 (by decide)
    have t_c6 : ¬ p1.toInt = 5 := lv_neT c6 (by decide)
    refine lv_tableOut (tgt := 90) hx hb dX9_weighs_20 (by omega) (by decide) ?_
    refine lv_iload_n hx hb dX9_weighs_90 rfl (lv_at hl 3 rfl) ?_
    have e0 := rt1 hf
    exact W.iret (v := p2) hx hb hr (fun t ht hW => ⟨⟨p2, (), rfl, e0, by rw [ht]; exact hP, va_K.moved hW.alike hK, by rw [hAe]; exact hD⟩, hS.F ht⟩) hS.2.2 dX9_weighs_91
  have E0 : ∀ (H : Heap) (locs : List Loc), va_P G vwCl [(qx 0, oX9 qx x_points x_lines x_tide x_isKept x_isMuch x_sum x_once x_twice x_isTermMuch x_nodes x_newMany x_isTooGreat x_come x_foundSet)] H → va_D A [(qx 0, oX9 qx x_points x_lines x_tide x_isKept x_isMuch x_sum x_once x_twice x_isTermMuch x_nodes x_newMany x_isTooGreat x_come x_foundSet)] → va_S A s.heap H locs → ∀ (ls : Array Slot), lv_has ls 4 [(0, .ref (qx 0)), (1, .int p1), (2, .int p2)] → W p l e (headSpec wsX9_weighs (rmk 0 0)).room s m [.ref (qx 0), .int p1, .int p2].toArray below meth c H locs 0 0 (MQ below (va_Qi (fun (r : Int32) (_ : Unit) => r = rv) (Pst G (tys Y) [(qx 0, oX9 qx x_points x_lines x_tide x_isKept x_isMuch x_sum x_once x_twice x_isTermMuch x_nodes x_newMany x_isTooGreat x_come x_foundSet)] s.heap.size [(qx 0, oX9 qx x_points x_lines x_tide x_isKept x_isMuch x_sum x_once x_twice x_isTermMuch x_nodes x_newMany x_isTooGreat x_come x_foundSet)]) A) [.ref (qx 0), .int p1, .int p2].toArray s 0 0 A) (F0 m 0 ls []) := by
    intro H locs hP hD hS ls hl
    unfold f_X9_weighs at hf
    refine lv_iload_n hx hb dX9_weighs_0 rfl (lv_at hl 2 rfl) ?_
    refine lv_aload_n hx hb dX9_weighs_1 rfl (lv_at hl 0 rfl) ?_
    refine va_get (D := G) (ci := 7) (v := .int x_tide) (C := RX9) (T := TX9) (N := 37) hx hb hts inX9w hown hK hP 0 rfl rfl 2 (by decide) wd1 (fun _ h9 => h9) rfl dX9_weighs_2 ?_
    refine lv_icmp_le (tgt := 17) hx hb dX9_weighs_5 (by decide) (fun c9 => ?_) (fun c9 => ?_)
    · have hf := it hf c9
      refine lv_iconst (v := 0) hx hb dX9_weighs_17 (by decide) ?_
      exact B18 (0 : Int32) hf _ _ hP hD hS ls (lv_sub hl [0, 1, 2] rfl)
    · have hf := ie hf c9
      refine lv_iload_n hx hb dX9_weighs_8 rfl (lv_at hl 2 rfl) ?_
      refine lv_aload_n hx hb dX9_weighs_9 rfl (lv_at hl 0 rfl) ?_
      refine va_get (D := G) (ci := 7) (v := .int x_tide) (C := RX9) (T := TX9) (N := 37) hx hb hts inX9w hown hK hP 0 rfl rfl 2 (by decide) wd1 (fun _ h9 => h9) rfl dX9_weighs_10 ?_
      refine lv_isub hx hb dX9_weighs_13 ?_
      refine lv_goto (tgt := 18) hx hb dX9_weighs_14 (by decide) ?_
      exact B18 (p2 - x_tide) hf _ _ hP hD hS ls (lv_sub hl [0, 1, 2] rfl)
  exact E0 s.heap [] hP hD hS ls hl
-- X9_weight
set_option maxRecDepth 100000 in
set_option maxHeartbeats 4000000 in
theorem c_X9_weight (l : Launch) (G : va_G) (Y : Nat → ClassId) (sz : Nat) (qx : Nat → Nat) (x_points : Int32) (x_lines : Int32) (x_tide : Int32) (x_kind : Nat → Int32) (x_figure : Nat → Int32) (x_isKept : Int32) (x_isMuch : Int32) (x_sum : Int64) (x_once : Int64) (x_twice : Int64) (x_isTermMuch : Int32) (x_nodes : Int32) (x_newMany : Int32) (x_isTooGreat : Int32) (x_come : Int32) (x_foundSet : Int64) (p1 : Int32) (rv : Int32) (hf : f_X9_weight x_tide x_kind x_figure p1 = some (rv)) : Met l yX9_weight wsX9_weight (rmk 1 23) (va_Pc [.ref (qx 0), .int p1] (Pre G (tys Y) [(qx 0, oX9 qx x_points x_lines x_tide x_isKept x_isMuch x_sum x_once x_twice x_isTermMuch x_nodes x_newMany x_isTooGreat x_come x_foundSet), (qx 4, .inl (Y 0, 40, .inl x_kind)), (qx 5, .inl (Y 0, 40, .inl x_figure))] sz xT)) (va_Qi (fun (r : Int32) (_ : Unit) => r = rv) (Pst G (tys Y) [(qx 0, oX9 qx x_points x_lines x_tide x_isKept x_isMuch x_sum x_once x_twice x_isTermMuch x_nodes x_newMany x_isTooGreat x_come x_foundSet), (qx 4, .inl (Y 0, 40, .inl x_kind)), (qx 5, .inl (Y 0, 40, .inl x_figure))] sz [(qx 0, oX9 qx x_points x_lines x_tide x_isKept x_isMuch x_sum x_once x_twice x_isTermMuch x_nodes x_newMany x_isTooGreat x_come x_foundSet), (qx 4, .inl (Y 0, 40, .inl x_kind)), (qx 5, .inl (Y 0, 40, .inl x_figure))]) (va_A [(qx 0, oX9 qx x_points x_lines x_tide x_isKept x_isMuch x_sum x_once x_twice x_isTermMuch x_nodes x_newMany x_isTooGreat x_come x_foundSet), (qx 4, .inl (Y 0, 40, .inl x_kind)), (qx 5, .inl (Y 0, 40, .inl x_figure))] sz)) 0 0 (va_A [(qx 0, oX9 qx x_points x_lines x_tide x_isKept x_isMuch x_sum x_once x_twice x_isTermMuch x_nodes x_newMany x_isTooGreat x_come x_foundSet), (qx 4, .inl (Y 0, 40, .inl x_kind)), (qx 5, .inl (Y 0, 40, .inl x_figure))] sz) := by
  refine Met.ofW (cc := cX9_weight) (maxL := 2) (ret := (some .int)) (by decide) rfl ?_
  intro p e s m args below meth c s₁ B hml hv
  obtain ⟨rfl, hsz, hP, hK, hD0, hX⟩ := hv
  have hx := B.exec
  have hb := B.bytes
  have hr := B.returns
  have hts := atoms_spec (ws := wsX9_weight) B.pre
  have hown : s.vm.findClass RX9 = some m.cls := findClass_of_methodNamed B.named
  have hlocks := B.notSynchronized
  subst hsz
  have hD := hD0.self (sz := s.heap.size)
  generalize hAe : va_A [(qx 0, oX9 qx x_points x_lines x_tide x_isKept x_isMuch x_sum x_once x_twice x_isTermMuch x_nodes x_newMany x_isTooGreat x_come x_foundSet), (qx 4, .inl (Y 0, 40, .inl x_kind)), (qx 5, .inl (Y 0, 40, .inl x_figure))] s.heap.size = A at hD ⊢
  have hA : ∀ q : Nat, s.heap.size ≤ q → A q := fun q h => by rw [← hAe]; exact Or.inr h
  have hS : va_S A s.heap s.heap [] := va_S.rf
  have hP : va_P G vwCl [(qx 0, oX9 qx x_points x_lines x_tide x_isKept x_isMuch x_sum x_once x_twice x_isTermMuch x_nodes x_newMany x_isTooGreat x_come x_foundSet), (qx 4, .inl (Y 0, 40, .inl x_kind)), (qx 5, .inl (Y 0, 40, .inl x_figure))] s.heap := hP
  have wd1 : (Cond.fieldLink RX9 9 "PairedLinesModel" "kind" "[I").before [.ref (qx 0), .int p1].toArray s = true := hts _ (List.mem_of_getElem? (i := 1) rfl)
  have wd2 : (Cond.fieldLink RX9 13 "PairedLinesModel" "figure" "[I").before [.ref (qx 0), .int p1].toArray s = true := hts _ (List.mem_of_getElem? (i := 2) rfl)
  have inX9w : ∀ w ∈ u_ws RX9 TX9 37, w ∈ wsX9_weight := fun w hw => List.mem_cons_of_mem _ (List.mem_append_right _ (hw))
  have hl := lv_entry ([.ref (qx 0), .int p1]) (n := 2) (Nat.le_of_ble_eq_true rfl)
  rw [lg_entry_eq]
  generalize (lg_sl ([.ref (qx 0), .int p1]) ++ List.replicate (2 - (lg_sl ([.ref (qx 0), .int p1])).length) Slot.unset).toArray = ls at hl ⊢
  have hl : lv_has ls 2 [(0, .ref (qx 0)), (1, .int p1)] := hl
  have E0 : ∀ (H : Heap) (locs : List Loc), va_P G vwCl [(qx 0, oX9 qx x_points x_lines x_tide x_isKept x_isMuch x_sum x_once x_twice x_isTermMuch x_nodes x_newMany x_isTooGreat x_come x_foundSet), (qx 4, .inl (Y 0, 40, .inl x_kind)), (qx 5, .inl (Y 0, 40, .inl x_figure))] H → va_D A [(qx 0, oX9 qx x_points x_lines x_tide x_isKept x_isMuch x_sum x_once x_twice x_isTermMuch x_nodes x_newMany x_isTooGreat x_come x_foundSet), (qx 4, .inl (Y 0, 40, .inl x_kind)), (qx 5, .inl (Y 0, 40, .inl x_figure))] → va_S A s.heap H locs → ∀ (ls : Array Slot), lv_has ls 2 [(0, .ref (qx 0)), (1, .int p1)] → W p l e (headSpec wsX9_weight (rmk 1 23)).room s m [.ref (qx 0), .int p1].toArray below meth c H locs 0 0 (MQ below (va_Qi (fun (r : Int32) (_ : Unit) => r = rv) (Pst G (tys Y) [(qx 0, oX9 qx x_points x_lines x_tide x_isKept x_isMuch x_sum x_once x_twice x_isTermMuch x_nodes x_newMany x_isTooGreat x_come x_foundSet), (qx 4, .inl (Y 0, 40, .inl x_kind)), (qx 5, .inl (Y 0, 40, .inl x_figure))] s.heap.size [(qx 0, oX9 qx x_points x_lines x_tide x_isKept x_isMuch x_sum x_once x_twice x_isTermMuch x_nodes x_newMany x_isTooGreat x_come x_foundSet), (qx 4, .inl (Y 0, 40, .inl x_kind)), (qx 5, .inl (Y 0, 40, .inl x_figure))]) A) [.ref (qx 0), .int p1].toArray s 0 0 A) (F0 m 0 ls []) := by
    intro H locs hP hD hS ls hl
    unfold f_X9_weight at hf
    refine lv_aload_n hx hb dX9_weight_0 rfl (lv_at hl 0 rfl) ?_
    refine lv_aload_n hx hb dX9_weight_1 rfl (lv_at hl 0 rfl) ?_
    refine va_get (D := G) (ci := 7) (v := .ref (qx 4)) (C := RX9) (T := TX9) (N := 37) hx hb hts inX9w hown hK hP 0 rfl rfl 3 (by decide) wd1 (fun _ h9 => h9) rfl dX9_weight_2 ?_
    refine lv_iload_n hx hb dX9_weight_5 rfl (lv_at hl 1 rfl) ?_
    obtain ⟨g1, hf⟩ := gd hf
    refine va_iald hx hb hK hP 1 0 rfl rfl g1 dX9_weight_6 ?_
    refine lv_aload_n hx hb dX9_weight_7 rfl (lv_at hl 0 rfl) ?_
    refine va_get (D := G) (ci := 7) (v := .ref (qx 5)) (C := RX9) (T := TX9) (N := 37) hx hb hts inX9w hown hK hP 0 rfl rfl 4 (by decide) wd2 (fun _ h9 => h9) rfl dX9_weight_8 ?_
    refine lv_iload_n hx hb dX9_weight_11 rfl (lv_at hl 1 rfl) ?_
    obtain ⟨g2, hf⟩ := gd hf
    refine va_iald hx hb hK hP 2 0 rfl rfl g2 dX9_weight_12 ?_
    obtain ⟨r3, hc, hf⟩ := bd1 hf
    refine cl_i (ws' := [(qx 0, oX9 qx x_points x_lines x_tide x_isKept x_isMuch x_sum x_once x_twice x_isTermMuch x_nodes x_newMany x_isTooGreat x_come x_foundSet), (qx 4, .inl (Y 0, 40, .inl x_kind)), (qx 5, .inl (Y 0, 40, .inl x_figure))]) (wr := [(qx 4, .inl (Y 0, 40, .inl x_kind)), (qx 5, .inl (Y 0, 40, .inl x_figure))]) (rnV (As := [.int (x_kind p1.toNatClampNeg), .int (x_figure p1.toNatClampNeg)]) (rest := []) ⟨hx, hb, hml, hown, hts⟩ (c_X9_weighs l G Y H.size qx x_points x_lines x_tide x_isKept x_isMuch x_sum x_once x_twice x_isTermMuch x_nodes x_newMany x_isTooGreat x_come x_foundSet (x_kind p1.toNatClampNeg) (x_figure p1.toNatClampNeg) r3 hc) (cwV 2 hts gX9_weight_X9_weighs rfl rfl rfl (by decide +kernel) ⟨(Nat.le_of_ble_eq_true rfl), (Nat.le_of_ble_eq_true rfl)⟩) trivial okT hK hP hD [0] rfl rfl (ci := 7) (q0 := 0) rfl rfl rfl rfl hl.1 rfl (Nat.le_of_ble_eq_true rfl) dX9_weight_13) hP hD hS hA [0] [1, 2] [2, 0, 1] rfl rfl rfl (by decide) rfl rfl (fun H locs hP hD hS => ?_)
    have e0 := rt1 hf
    exact W.iret (v := r3) hx hb hr (fun t ht hW => ⟨⟨r3, (), rfl, e0, by rw [ht]; exact hP, va_K.moved hW.alike hK, by rw [hAe]; exact hD⟩, hS.F ht⟩) hS.2.2 dX9_weight_16
  exact E0 s.heap [] hP hD hS ls hl
-- X9_points
set_option maxRecDepth 100000 in
set_option maxHeartbeats 4000000 in
theorem c_X9_points (l : Launch) (G : va_G) (Y : Nat → ClassId) (sz : Nat) (qx : Nat → Nat) (x_points : Int32) (x_lines : Int32) (x_tide : Int32) (x_isKept : Int32) (x_isMuch : Int32) (x_sum : Int64) (x_once : Int64) (x_twice : Int64) (x_isTermMuch : Int32) (x_nodes : Int32) (x_newMany : Int32) (x_isTooGreat : Int32) (x_come : Int32) (x_foundSet : Int64) (p1 : Int32) (rv : Int32) (o_x_points : Int32) (o_x_lines : Int32) (hf : f_X9_points x_points x_lines p1 = some (rv, o_x_points, o_x_lines)) : Met l yX9_points wsX9_points (rmk 1 25) (va_Pc [.ref (qx 0), .int p1] (Pre G (tys Y) [(qx 0, oX9 qx x_points x_lines x_tide x_isKept x_isMuch x_sum x_once x_twice x_isTermMuch x_nodes x_newMany x_isTooGreat x_come x_foundSet)] sz xT)) (va_Qi (fun (r : Int32) (_ : Unit) => r = rv) (Pst G (tys Y) [(qx 0, oX9 qx x_points x_lines x_tide x_isKept x_isMuch x_sum x_once x_twice x_isTermMuch x_nodes x_newMany x_isTooGreat x_come x_foundSet)] sz [(qx 0, oX9 qx o_x_points o_x_lines x_tide x_isKept x_isMuch x_sum x_once x_twice x_isTermMuch x_nodes x_newMany x_isTooGreat x_come x_foundSet)]) (va_A [(qx 0, oX9 qx x_points x_lines x_tide x_isKept x_isMuch x_sum x_once x_twice x_isTermMuch x_nodes x_newMany x_isTooGreat x_come x_foundSet)] sz)) 0 0 (va_A [(qx 0, oX9 qx x_points x_lines x_tide x_isKept x_isMuch x_sum x_once x_twice x_isTermMuch x_nodes x_newMany x_isTooGreat x_come x_foundSet)] sz) := by
  refine Met.ofW (cc := cX9_points) (maxL := 3) (ret := (some .int)) (by decide) rfl ?_
  intro p e s m args below meth c s₁ B hml hv
  obtain ⟨rfl, hsz, hP, hK, hD0, hX⟩ := hv
  have hx := B.exec
  have hb := B.bytes
  have hr := B.returns
  have hts := atoms_spec (ws := wsX9_points) B.pre
  have hown : s.vm.findClass RX9 = some m.cls := findClass_of_methodNamed B.named
  have hlocks := B.notSynchronized
  subst hsz
  have hD := hD0.self (sz := s.heap.size)
  generalize hAe : va_A [(qx 0, oX9 qx x_points x_lines x_tide x_isKept x_isMuch x_sum x_once x_twice x_isTermMuch x_nodes x_newMany x_isTooGreat x_come x_foundSet)] s.heap.size = A at hD ⊢
  have hA : ∀ q : Nat, s.heap.size ≤ q → A q := fun q h => by rw [← hAe]; exact Or.inr h
  have hS : va_S A s.heap s.heap [] := va_S.rf
  have hP : va_P G vwCl [(qx 0, oX9 qx x_points x_lines x_tide x_isKept x_isMuch x_sum x_once x_twice x_isTermMuch x_nodes x_newMany x_isTooGreat x_come x_foundSet)] s.heap := hP
  have wd1 : (Cond.constantLong RX9 118 (12)).before [.ref (qx 0), .int p1].toArray s = true := hts _ (List.mem_of_getElem? (i := 1) rfl)
  have wd2 : (Cond.fieldLink RX9 92 "PairedLinesModel" "points" "I").before [.ref (qx 0), .int p1].toArray s = true := hts _ (List.mem_of_getElem? (i := 2) rfl)
  have wd3 : (Cond.fieldLink RX9 100 "PairedLinesModel" "lines" "I").before [.ref (qx 0), .int p1].toArray s = true := hts _ (List.mem_of_getElem? (i := 3) rfl)
  have inX9w : ∀ w ∈ u_ws RX9 TX9 37, w ∈ wsX9_points := fun w hw => List.mem_cons_of_mem _ (List.mem_append_right _ (hw))
  have hl := lv_entry ([.ref (qx 0), .int p1]) (n := 3) (Nat.le_of_ble_eq_true rfl)
  rw [lg_entry_eq]
  generalize (lg_sl ([.ref (qx 0), .int p1]) ++ List.replicate (3 - (lg_sl ([.ref (qx 0), .int p1])).length) Slot.unset).toArray = ls at hl ⊢
  have hl : lv_has ls 3 [(0, .ref (qx 0)), (1, .int p1)] := hl
  have E0 : ∀ (H : Heap) (locs : List Loc), va_P G vwCl [(qx 0, oX9 qx x_points x_lines x_tide x_isKept x_isMuch x_sum x_once x_twice x_isTermMuch x_nodes x_newMany x_isTooGreat x_come x_foundSet)] H → va_D A [(qx 0, oX9 qx x_points x_lines x_tide x_isKept x_isMuch x_sum x_once x_twice x_isTermMuch x_nodes x_newMany x_isTooGreat x_come x_foundSet)] → va_S A s.heap H locs → ∀ (ls : Array Slot), lv_has ls 3 [(0, .ref (qx 0)), (1, .int p1)] → W p l e (headSpec wsX9_points (rmk 1 25)).room s m [.ref (qx 0), .int p1].toArray below meth c H locs 0 0 (MQ below (va_Qi (fun (r : Int32) (_ : Unit) => r = rv) (Pst G (tys Y) [(qx 0, oX9 qx x_points x_lines x_tide x_isKept x_isMuch x_sum x_once x_twice x_isTermMuch x_nodes x_newMany x_isTooGreat x_come x_foundSet)] s.heap.size [(qx 0, oX9 qx o_x_points o_x_lines x_tide x_isKept x_isMuch x_sum x_once x_twice x_isTermMuch x_nodes x_newMany x_isTooGreat x_come x_foundSet)]) A) [.ref (qx 0), .int p1].toArray s 0 0 A) (F0 m 0 ls []) := by
    intro H locs hP hD hS ls hl
    unfold f_X9_points at hf
    refine lv_iload_n hx hb dX9_points_0 rfl (lv_at hl 1 rfl) ?_
    refine lv_i2l hx hb dX9_points_1 rfl ?_
    refine lv_lconst (v := 0) hx hb dX9_points_2 (by decide) ?_
    refine lv_ldc2 hx hb hown wd1 dX9_points_3 ?_
    obtain ⟨r1, hc, hf⟩ := bd1 hf
    refine cl_i (ws' := [(qx 0, oX9 qx x_points x_lines x_tide x_isKept x_isMuch x_sum x_once x_twice x_isTermMuch x_nodes x_newMany x_isTooGreat x_come x_foundSet)]) (wr := [(qx 0, oX9 qx x_points x_lines x_tide x_isKept x_isMuch x_sum x_once x_twice x_isTermMuch x_nodes x_newMany x_isTooGreat x_come x_foundSet)]) (rnS (As := [.long p1.toInt64, .long (0 : Int64), .long (12 : Int64)]) (rest := []) ⟨hx, hb, hml, hown, hts⟩ (c_X9_in l G Y H.size p1.toInt64 (0 : Int64) (12 : Int64) r1 hc) (va_cwS 3 hts gX9_points_X9_in rfl rfl rfl (by decide +kernel) ⟨(Nat.le_of_ble_eq_true rfl), (Nat.le_of_ble_eq_true rfl)⟩) trivial okT hK hP hD [] rfl rfl rfl hl.1 rfl (Nat.le_of_ble_eq_true rfl) dX9_points_6) hP hD hS hA [] [0] [0] rfl rfl rfl (by decide) rfl rfl (fun H locs hP hD hS => ?_)
    refine lv_if_ne (tgt := 15) hx hb dX9_points_9 (by decide) (fun c2 => ?_) (fun c2 => ?_)
    · have hf := ie hf c2
      refine lv_aload_n hx hb dX9_points_15 rfl (lv_at hl 0 rfl) ?_
      refine va_get (D := G) (ci := 7) (v := .int x_points) (C := RX9) (T := TX9) (N := 37) hx hb hts inX9w hown hK hP 0 rfl rfl 0 (by decide) wd2 (fun _ h9 => h9) rfl dX9_points_16 ?_
      refine lv_istore_n (lv' := [(2, .int x_points), (0, .ref (qx 0)), (1, .int p1)]) hx hb dX9_points_19 rfl hl (by decide) rfl (fun ls hl => ?_)
      refine lv_aload_n hx hb dX9_points_20 rfl (lv_at hl 1 rfl) ?_
      refine lv_iload_n hx hb dX9_points_21 rfl (lv_at hl 2 rfl) ?_
      refine va_put (D := G) (ci := 7) (v := .int p1) (ty := .int) (C := RX9) (T := TX9) (N := 37) hx hb hts inX9w tyX9 tyX9_ok nmX9 hown hK hP hD hS 0 rfl rfl 0 (by decide) wd2 (fun _ h9 => h9) rfl (by decide +kernel) rfl rfl (Nat.le_of_ble_eq_true rfl) dX9_points_22 (fun H locs hP hD hS => ?_)
      have hP : va_P G vwCl [(qx 0, oX9 qx p1 x_lines x_tide x_isKept x_isMuch x_sum x_once x_twice x_isTermMuch x_nodes x_newMany x_isTooGreat x_come x_foundSet)] H := hP
      have hD : va_D A [(qx 0, oX9 qx p1 x_lines x_tide x_isKept x_isMuch x_sum x_once x_twice x_isTermMuch x_nodes x_newMany x_isTooGreat x_come x_foundSet)] := hD
      refine lv_aload_n hx hb dX9_points_25 rfl (lv_at hl 1 rfl) ?_
      refine lv_iconst (v := 0) hx hb dX9_points_26 (by decide) ?_
      refine va_put (D := G) (ci := 7) (v := .int (0 : Int32)) (ty := .int) (C := RX9) (T := TX9) (N := 37) hx hb hts inX9w tyX9 tyX9_ok nmX9 hown hK hP hD hS 0 rfl rfl 1 (by decide) wd3 (fun _ h9 => h9) rfl (by decide +kernel) rfl rfl (Nat.le_of_ble_eq_true rfl) dX9_points_27 (fun H locs hP hD hS => ?_)
      have hP : va_P G vwCl [(qx 0, oX9 qx p1 (0 : Int32) x_tide x_isKept x_isMuch x_sum x_once x_twice x_isTermMuch x_nodes x_newMany x_isTooGreat x_come x_foundSet)] H := hP
      have hD : va_D A [(qx 0, oX9 qx p1 (0 : Int32) x_tide x_isKept x_isMuch x_sum x_once x_twice x_isTermMuch x_nodes x_newMany x_isTooGreat x_come x_foundSet)] := hD
      refine lv_iload_n hx hb dX9_points_30 rfl (lv_at hl 0 rfl) ?_
      obtain ⟨e0, e1, e2⟩ := rt3 hf
      have hP : va_P G vwCl [(qx 0, oX9 qx o_x_points o_x_lines x_tide x_isKept x_isMuch x_sum x_once x_twice x_isTermMuch x_nodes x_newMany x_isTooGreat x_come x_foundSet)] H := by rw [← e1, ← e2]; exact hP
      have hD : va_D A [(qx 0, oX9 qx o_x_points o_x_lines x_tide x_isKept x_isMuch x_sum x_once x_twice x_isTermMuch x_nodes x_newMany x_isTooGreat x_come x_foundSet)] := by rw [← e1, ← e2]; exact hD
      exact W.iret (v := x_points) hx hb hr (fun t ht hW => ⟨⟨x_points, (), rfl, e0, by rw [ht]; exact hP, va_K.moved hW.alike hK, by rw [hAe]; exact hD⟩, hS.F ht⟩) hS.2.2 dX9_points_31
    · have hf := it hf c2
      refine lv_bipush (v := -2) hx hb dX9_points_12 (by decide) ?_
      obtain ⟨e0, e1, e2⟩ := rt3 hf
      have hP : va_P G vwCl [(qx 0, oX9 qx o_x_points o_x_lines x_tide x_isKept x_isMuch x_sum x_once x_twice x_isTermMuch x_nodes x_newMany x_isTooGreat x_come x_foundSet)] H := by rw [← e1, ← e2]; exact hP
      have hD : va_D A [(qx 0, oX9 qx o_x_points o_x_lines x_tide x_isKept x_isMuch x_sum x_once x_twice x_isTermMuch x_nodes x_newMany x_isTooGreat x_come x_foundSet)] := by rw [← e1, ← e2]; exact hD
      exact W.iret (v := (-2 : Int32)) hx hb hr (fun t ht hW => ⟨⟨(-2 : Int32), (), rfl, e0, by rw [ht]; exact hP, va_K.moved hW.alike hK, by rw [hAe]; exact hD⟩, hS.F ht⟩) hS.2.2 dX9_points_14
  exact E0 s.heap [] hP hD hS ls hl
-- X9_line
set_option maxRecDepth 100000 in
set_option maxHeartbeats 4000000 in
theorem c_X9_line (l : Launch) (G : va_G) (Y : Nat → ClassId) (sz : Nat) (qx : Nat → Nat) (x_points : Int32) (x_lines : Int32) (x_tide : Int32) (x_kind : Nat → Int32) (x_figure : Nat → Int32) (x_low : Nat → Int32) (x_high : Nat → Int32) (x_isKept : Int32) (x_isMuch : Int32) (x_sum : Int64) (x_once : Int64) (x_twice : Int64) (x_isTermMuch : Int32) (x_nodes : Int32) (x_newMany : Int32) (x_isTooGreat : Int32) (x_come : Int32) (x_foundSet : Int64) (p1 : Int32) (p2 : Int32) (p3 : Int32) (p4 : Int32) (rv : Int32) (o_x_lines : Int32) (o_x_kind : Nat → Int32) (o_x_figure : Nat → Int32) (o_x_low : Nat → Int32) (o_x_high : Nat → Int32) (hf : f_X9_line x_points x_lines x_kind x_figure x_low x_high p1 p2 p3 p4 = some (rv, o_x_lines, o_x_kind, o_x_figure, o_x_low, o_x_high)) : Met l yX9_line wsX9_line (rmk 3 68) (va_Pc [.ref (qx 0), .int p1, .int p2, .int p3, .int p4] (Pre G (tys Y) [(qx 0, oX9 qx x_points x_lines x_tide x_isKept x_isMuch x_sum x_once x_twice x_isTermMuch x_nodes x_newMany x_isTooGreat x_come x_foundSet), (qx 4, .inl (Y 0, 40, .inl x_kind)), (qx 5, .inl (Y 0, 40, .inl x_figure)), (qx 6, .inl (Y 0, 40, .inl x_low)), (qx 7, .inl (Y 0, 40, .inl x_high))] sz xT)) (va_Qi (fun (r : Int32) (_ : Unit) => r = rv) (Pst G (tys Y) [(qx 0, oX9 qx x_points x_lines x_tide x_isKept x_isMuch x_sum x_once x_twice x_isTermMuch x_nodes x_newMany x_isTooGreat x_come x_foundSet), (qx 4, .inl (Y 0, 40, .inl x_kind)), (qx 5, .inl (Y 0, 40, .inl x_figure)), (qx 6, .inl (Y 0, 40, .inl x_low)), (qx 7, .inl (Y 0, 40, .inl x_high))] sz [(qx 0, oX9 qx x_points o_x_lines x_tide x_isKept x_isMuch x_sum x_once x_twice x_isTermMuch x_nodes x_newMany x_isTooGreat x_come x_foundSet), (qx 4, .inl (Y 0, 40, .inl o_x_kind)), (qx 5, .inl (Y 0, 40, .inl o_x_figure)), (qx 6, .inl (Y 0, 40, .inl o_x_low)), (qx 7, .inl (Y 0, 40, .inl o_x_high))]) (va_A [(qx 0, oX9 qx x_points x_lines x_tide x_isKept x_isMuch x_sum x_once x_twice x_isTermMuch x_nodes x_newMany x_isTooGreat x_come x_foundSet), (qx 4, .inl (Y 0, 40, .inl x_kind)), (qx 5, .inl (Y 0, 40, .inl x_figure)), (qx 6, .inl (Y 0, 40, .inl x_low)), (qx 7, .inl (Y 0, 40, .inl x_high))] sz)) 0 0 (va_A [(qx 0, oX9 qx x_points x_lines x_tide x_isKept x_isMuch x_sum x_once x_twice x_isTermMuch x_nodes x_newMany x_isTooGreat x_come x_foundSet), (qx 4, .inl (Y 0, 40, .inl x_kind)), (qx 5, .inl (Y 0, 40, .inl x_figure)), (qx 6, .inl (Y 0, 40, .inl x_low)), (qx 7, .inl (Y 0, 40, .inl x_high))] sz) := by
  refine Met.ofW (cc := cX9_line) (maxL := 5) (ret := (some .int)) (by decide) rfl ?_
  intro p e s m args below meth c s₁ B hml hv
  obtain ⟨rfl, hsz, hP, hK, hD0, hX⟩ := hv
  have hx := B.exec
  have hb := B.bytes
  have hr := B.returns
  have hts := atoms_spec (ws := wsX9_line) B.pre
  have hown : s.vm.findClass RX9 = some m.cls := findClass_of_methodNamed B.named
  have hlocks := B.notSynchronized
  subst hsz
  have hD := hD0.self (sz := s.heap.size)
  generalize hAe : va_A [(qx 0, oX9 qx x_points x_lines x_tide x_isKept x_isMuch x_sum x_once x_twice x_isTermMuch x_nodes x_newMany x_isTooGreat x_come x_foundSet), (qx 4, .inl (Y 0, 40, .inl x_kind)), (qx 5, .inl (Y 0, 40, .inl x_figure)), (qx 6, .inl (Y 0, 40, .inl x_low)), (qx 7, .inl (Y 0, 40, .inl x_high))] s.heap.size = A at hD ⊢
  have hA : ∀ q : Nat, s.heap.size ≤ q → A q := fun q h => by rw [← hAe]; exact Or.inr h
  have hS : va_S A s.heap s.heap [] := va_S.rf
  have hP : va_P G vwCl [(qx 0, oX9 qx x_points x_lines x_tide x_isKept x_isMuch x_sum x_once x_twice x_isTermMuch x_nodes x_newMany x_isTooGreat x_come x_foundSet), (qx 4, .inl (Y 0, 40, .inl x_kind)), (qx 5, .inl (Y 0, 40, .inl x_figure)), (qx 6, .inl (Y 0, 40, .inl x_low)), (qx 7, .inl (Y 0, 40, .inl x_high))] s.heap := hP
  have wd1 : (Cond.constantLong RX9 120 (5)).before [.ref (qx 0), .int p1, .int p2, .int p3, .int p4].toArray s = true := hts _ (List.mem_of_getElem? (i := 1) rfl)
  have wd2 : (Cond.constantLong RX9 122 (9999)).before [.ref (qx 0), .int p1, .int p2, .int p3, .int p4].toArray s = true := hts _ (List.mem_of_getElem? (i := 2) rfl)
  have wd3 : (Cond.fieldLink RX9 100 "PairedLinesModel" "lines" "I").before [.ref (qx 0), .int p1, .int p2, .int p3, .int p4].toArray s = true := hts _ (List.mem_of_getElem? (i := 3) rfl)
  have wd4 : (Cond.fieldLink RX9 9 "PairedLinesModel" "kind" "[I").before [.ref (qx 0), .int p1, .int p2, .int p3, .int p4].toArray s = true := hts _ (List.mem_of_getElem? (i := 4) rfl)
  have wd5 : (Cond.fieldLink RX9 13 "PairedLinesModel" "figure" "[I").before [.ref (qx 0), .int p1, .int p2, .int p3, .int p4].toArray s = true := hts _ (List.mem_of_getElem? (i := 5) rfl)
  have wd6 : (Cond.fieldLink RX9 16 "PairedLinesModel" "low" "[I").before [.ref (qx 0), .int p1, .int p2, .int p3, .int p4].toArray s = true := hts _ (List.mem_of_getElem? (i := 6) rfl)
  have wd7 : (Cond.fieldLink RX9 19 "PairedLinesModel" "high" "[I").before [.ref (qx 0), .int p1, .int p2, .int p3, .int p4].toArray s = true := hts _ (List.mem_of_getElem? (i := 7) rfl)
  have inX9w : ∀ w ∈ u_ws RX9 TX9 37, w ∈ wsX9_line := fun w hw => List.mem_cons_of_mem _ (List.mem_append_right _ (hw))
  have hl := lv_entry ([.ref (qx 0), .int p1, .int p2, .int p3, .int p4]) (n := 5) (Nat.le_of_ble_eq_true rfl)
  rw [lg_entry_eq]
  generalize (lg_sl ([.ref (qx 0), .int p1, .int p2, .int p3, .int p4]) ++ List.replicate (5 - (lg_sl ([.ref (qx 0), .int p1, .int p2, .int p3, .int p4])).length) Slot.unset).toArray = ls at hl ⊢
  have hl : lv_has ls 5 [(0, .ref (qx 0)), (1, .int p1), (2, .int p2), (3, .int p3), (4, .int p4)] := hl
  have B124 : ∀ (b_x_lines : Int32) (b_x_kind : Nat → Int32) (b_x_figure : Nat → Int32) (b_x_low : Nat → Int32) (b_x_high : Nat → Int32) (y0 : Int32) (y1 : Int32), f_X9_line_b124 x_points p1 p2 p3 p4 b_x_lines b_x_kind b_x_figure b_x_low b_x_high y0 y1 = some (rv, o_x_lines, o_x_kind, o_x_figure, o_x_low, o_x_high) → ∀ (H : Heap) (locs : List Loc), va_P G vwCl [(qx 0, oX9 qx x_points b_x_lines x_tide x_isKept x_isMuch x_sum x_once x_twice x_isTermMuch x_nodes x_newMany x_isTooGreat x_come x_foundSet), (qx 4, .inl (Y 0, 40, .inl b_x_kind)), (qx 5, .inl (Y 0, 40, .inl b_x_figure)), (qx 6, .inl (Y 0, 40, .inl b_x_low)), (qx 7, .inl (Y 0, 40, .inl b_x_high))] H → va_D A [(qx 0, oX9 qx x_points b_x_lines x_tide x_isKept x_isMuch x_sum x_once x_twice x_isTermMuch x_nodes x_newMany x_isTooGreat x_come x_foundSet), (qx 4, .inl (Y 0, 40, .inl b_x_kind)), (qx 5, .inl (Y 0, 40, .inl b_x_figure)), (qx 6, .inl (Y 0, 40, .inl b_x_low)), (qx 7, .inl (Y 0, 40, .inl b_x_high))] → va_S A s.heap H locs → ∀ (ls : Array Slot), lv_has ls 5 [(0, .ref (qx 0))] → W p l e (headSpec wsX9_line (rmk 3 68)).room s m [.ref (qx 0), .int p1, .int p2, .int p3, .int p4].toArray below meth c H locs 0 0 (MQ below (va_Qi (fun (r : Int32) (_ : Unit) => r = rv) (Pst G (tys Y) [(qx 0, oX9 qx x_points x_lines x_tide x_isKept x_isMuch x_sum x_once x_twice x_isTermMuch x_nodes x_newMany x_isTooGreat x_come x_foundSet), (qx 4, .inl (Y 0, 40, .inl x_kind)), (qx 5, .inl (Y 0, 40, .inl x_figure)), (qx 6, .inl (Y 0, 40, .inl x_low)), (qx 7, .inl (Y 0, 40, .inl x_high))] s.heap.size [(qx 0, oX9 qx x_points o_x_lines x_tide x_isKept x_isMuch x_sum x_once x_twice x_isTermMuch x_nodes x_newMany x_isTooGreat x_come x_foundSet), (qx 4, .inl (Y 0, 40, .inl o_x_kind)), (qx 5, .inl (Y 0, 40, .inl o_x_figure)), (qx 6, .inl (Y 0, 40, .inl o_x_low)), (qx 7, .inl (Y 0, 40, .inl o_x_high))]) A) [.ref (qx 0), .int p1, .int p2, .int p3, .int p4].toArray s 0 0 A) (F0 m 124 ls [.int y0, .int y1, .ref (qx 7)]) := by
    intro b_x_lines b_x_kind b_x_figure b_x_low b_x_high y0 y1 hf H locs hP hD hS ls hl
    unfold f_X9_line_b124 at hf
    obtain ⟨g1, hf⟩ := gd hf
    refine va_iast hx hb hK hP hD hS 4 0 rfl rfl g1 dX9_line_124 (fun H locs hP hD hS => ?_)
    obtain ⟨v2, e_v2⟩ : ∃ z : Nat → Int32, z = upd b_x_high y1.toNatClampNeg y0 := ⟨_, rfl⟩
    have hf := nm_at hf e_v2
    have hP : va_P G vwCl [(qx 0, oX9 qx x_points b_x_lines x_tide x_isKept x_isMuch x_sum x_once x_twice x_isTermMuch x_nodes x_newMany x_isTooGreat x_come x_foundSet), (qx 4, .inl (Y 0, 40, .inl b_x_kind)), (qx 5, .inl (Y 0, 40, .inl b_x_figure)), (qx 6, .inl (Y 0, 40, .inl b_x_low)), (qx 7, .inl (Y 0, 40, .inl v2))] H := by rw [e_v2]; exact hP
    have hD : va_D A [(qx 0, oX9 qx x_points b_x_lines x_tide x_isKept x_isMuch x_sum x_once x_twice x_isTermMuch x_nodes x_newMany x_isTooGreat x_come x_foundSet), (qx 4, .inl (Y 0, 40, .inl b_x_kind)), (qx 5, .inl (Y 0, 40, .inl b_x_figure)), (qx 6, .inl (Y 0, 40, .inl b_x_low)), (qx 7, .inl (Y 0, 40, .inl v2))] := by rw [e_v2]; exact hD
    refine lv_aload_n hx hb dX9_line_125 rfl (lv_at hl 0 rfl) ?_
    refine lv_dup hx hb dX9_line_126 rfl ?_
    refine va_get (D := G) (ci := 7) (v := .int b_x_lines) (C := RX9) (T := TX9) (N := 37) hx hb hts inX9w hown hK hP 0 rfl rfl 1 (by decide) wd3 (fun _ h9 => h9) rfl dX9_line_127 ?_
    refine lv_iconst (v := 1) hx hb dX9_line_130 (by decide) ?_
    refine lv_iadd hx hb dX9_line_131 ?_
    refine lv_topi (fun v3 e_v3 => ?_)
    have hf := nm_at hf e_v3
    refine va_put (D := G) (ci := 7) (v := .int v3) (ty := .int) (C := RX9) (T := TX9) (N := 37) hx hb hts inX9w tyX9 tyX9_ok nmX9 hown hK hP hD hS 0 rfl rfl 1 (by decide) wd3 (fun _ h9 => h9) rfl (by decide +kernel) rfl rfl (Nat.le_of_ble_eq_true rfl) dX9_line_132 (fun H locs hP hD hS => ?_)
    have hP : va_P G vwCl [(qx 0, oX9 qx x_points v3 x_tide x_isKept x_isMuch x_sum x_once x_twice x_isTermMuch x_nodes x_newMany x_isTooGreat x_come x_foundSet), (qx 4, .inl (Y 0, 40, .inl b_x_kind)), (qx 5, .inl (Y 0, 40, .inl b_x_figure)), (qx 6, .inl (Y 0, 40, .inl b_x_low)), (qx 7, .inl (Y 0, 40, .inl v2))] H := hP
    have hD : va_D A [(qx 0, oX9 qx x_points v3 x_tide x_isKept x_isMuch x_sum x_once x_twice x_isTermMuch x_nodes x_newMany x_isTooGreat x_come x_foundSet), (qx 4, .inl (Y 0, 40, .inl b_x_kind)), (qx 5, .inl (Y 0, 40, .inl b_x_figure)), (qx 6, .inl (Y 0, 40, .inl b_x_low)), (qx 7, .inl (Y 0, 40, .inl v2))] := hD
    refine lv_aload_n hx hb dX9_line_135 rfl (lv_at hl 0 rfl) ?_
    refine va_get (D := G) (ci := 7) (v := .int v3) (C := RX9) (T := TX9) (N := 37) hx hb hts inX9w hown hK hP 0 rfl rfl 1 (by decide) wd3 (fun _ h9 => h9) rfl dX9_line_136 ?_
    refine lv_iconst (v := 1) hx hb dX9_line_139 (by decide) ?_
    refine lv_isub hx hb dX9_line_140 ?_
    obtain ⟨e0, e1, e2, e3, e4, e5⟩ := rt6 hf
    have hP : va_P G vwCl [(qx 0, oX9 qx x_points o_x_lines x_tide x_isKept x_isMuch x_sum x_once x_twice x_isTermMuch x_nodes x_newMany x_isTooGreat x_come x_foundSet), (qx 4, .inl (Y 0, 40, .inl o_x_kind)), (qx 5, .inl (Y 0, 40, .inl o_x_figure)), (qx 6, .inl (Y 0, 40, .inl o_x_low)), (qx 7, .inl (Y 0, 40, .inl o_x_high))] H := by rw [← e1, ← e2, ← e3, ← e4, ← e5]; exact hP
    have hD : va_D A [(qx 0, oX9 qx x_points o_x_lines x_tide x_isKept x_isMuch x_sum x_once x_twice x_isTermMuch x_nodes x_newMany x_isTooGreat x_come x_foundSet), (qx 4, .inl (Y 0, 40, .inl o_x_kind)), (qx 5, .inl (Y 0, 40, .inl o_x_figure)), (qx 6, .inl (Y 0, 40, .inl o_x_low)), (qx 7, .inl (Y 0, 40, .inl o_x_high))] := by rw [← e1, ← e2, ← e3, ← e4, ← e5]; exact hD
    exact W.iret (v := (v3 - (1 : Int32))) hx hb hr (fun t ht hW => ⟨⟨(v3 - (1 : Int32)), (), rfl, e0, by rw [ht]; exact hP, va_K.moved hW.alike hK, by rw [hAe]; exact hD⟩, hS.F ht⟩) hS.2.2 dX9_line_141
  have B103 : ∀ (b_x_lines : Int32) (b_x_kind : Nat → Int32) (b_x_figure : Nat → Int32) (b_x_low : Nat → Int32) (b_x_high : Nat → Int32) (y0 : Int32) (y1 : Int32), f_X9_line_b103 x_points p1 p2 p3 p4 b_x_lines b_x_kind b_x_figure b_x_low b_x_high y0 y1 = some (rv, o_x_lines, o_x_kind, o_x_figure, o_x_low, o_x_high) → ∀ (H : Heap) (locs : List Loc), va_P G vwCl [(qx 0, oX9 qx x_points b_x_lines x_tide x_isKept x_isMuch x_sum x_once x_twice x_isTermMuch x_nodes x_newMany x_isTooGreat x_come x_foundSet), (qx 4, .inl (Y 0, 40, .inl b_x_kind)), (qx 5, .inl (Y 0, 40, .inl b_x_figure)), (qx 6, .inl (Y 0, 40, .inl b_x_low)), (qx 7, .inl (Y 0, 40, .inl b_x_high))] H → va_D A [(qx 0, oX9 qx x_points b_x_lines x_tide x_isKept x_isMuch x_sum x_once x_twice x_isTermMuch x_nodes x_newMany x_isTooGreat x_come x_foundSet), (qx 4, .inl (Y 0, 40, .inl b_x_kind)), (qx 5, .inl (Y 0, 40, .inl b_x_figure)), (qx 6, .inl (Y 0, 40, .inl b_x_low)), (qx 7, .inl (Y 0, 40, .inl b_x_high))] → va_S A s.heap H locs → ∀ (ls : Array Slot), lv_has ls 5 [(0, .ref (qx 0)), (3, .int p3), (4, .int p4)] → W p l e (headSpec wsX9_line (rmk 3 68)).room s m [.ref (qx 0), .int p1, .int p2, .int p3, .int p4].toArray below meth c H locs 0 0 (MQ below (va_Qi (fun (r : Int32) (_ : Unit) => r = rv) (Pst G (tys Y) [(qx 0, oX9 qx x_points x_lines x_tide x_isKept x_isMuch x_sum x_once x_twice x_isTermMuch x_nodes x_newMany x_isTooGreat x_come x_foundSet), (qx 4, .inl (Y 0, 40, .inl x_kind)), (qx 5, .inl (Y 0, 40, .inl x_figure)), (qx 6, .inl (Y 0, 40, .inl x_low)), (qx 7, .inl (Y 0, 40, .inl x_high))] s.heap.size [(qx 0, oX9 qx x_points o_x_lines x_tide x_isKept x_isMuch x_sum x_once x_twice x_isTermMuch x_nodes x_newMany x_isTooGreat x_come x_foundSet), (qx 4, .inl (Y 0, 40, .inl o_x_kind)), (qx 5, .inl (Y 0, 40, .inl o_x_figure)), (qx 6, .inl (Y 0, 40, .inl o_x_low)), (qx 7, .inl (Y 0, 40, .inl o_x_high))]) A) [.ref (qx 0), .int p1, .int p2, .int p3, .int p4].toArray s 0 0 A) (F0 m 103 ls [.int y0, .int y1, .ref (qx 6)]) := by
    intro b_x_lines b_x_kind b_x_figure b_x_low b_x_high y0 y1 hf H locs hP hD hS ls hl
    unfold f_X9_line_b103 at hf
    obtain ⟨g4, hf⟩ := gd hf
    refine va_iast hx hb hK hP hD hS 3 0 rfl rfl g4 dX9_line_103 (fun H locs hP hD hS => ?_)
    obtain ⟨v5, e_v5⟩ : ∃ z : Nat → Int32, z = upd b_x_low y1.toNatClampNeg y0 := ⟨_, rfl⟩
    have hf := nm_at hf e_v5
    have hP : va_P G vwCl [(qx 0, oX9 qx x_points b_x_lines x_tide x_isKept x_isMuch x_sum x_once x_twice x_isTermMuch x_nodes x_newMany x_isTooGreat x_come x_foundSet), (qx 4, .inl (Y 0, 40, .inl b_x_kind)), (qx 5, .inl (Y 0, 40, .inl b_x_figure)), (qx 6, .inl (Y 0, 40, .inl v5)), (qx 7, .inl (Y 0, 40, .inl b_x_high))] H := by rw [e_v5]; exact hP
    have hD : va_D A [(qx 0, oX9 qx x_points b_x_lines x_tide x_isKept x_isMuch x_sum x_once x_twice x_isTermMuch x_nodes x_newMany x_isTooGreat x_come x_foundSet), (qx 4, .inl (Y 0, 40, .inl b_x_kind)), (qx 5, .inl (Y 0, 40, .inl b_x_figure)), (qx 6, .inl (Y 0, 40, .inl v5)), (qx 7, .inl (Y 0, 40, .inl b_x_high))] := by rw [e_v5]; exact hD
    refine lv_aload_n hx hb dX9_line_104 rfl (lv_at hl 0 rfl) ?_
    refine va_get (D := G) (ci := 7) (v := .ref (qx 7)) (C := RX9) (T := TX9) (N := 37) hx hb hts inX9w hown hK hP 0 rfl rfl 6 (by decide) wd7 (fun _ h9 => h9) rfl dX9_line_105 ?_
    refine lv_aload_n hx hb dX9_line_108 rfl (lv_at hl 0 rfl) ?_
    refine va_get (D := G) (ci := 7) (v := .int b_x_lines) (C := RX9) (T := TX9) (N := 37) hx hb hts inX9w hown hK hP 0 rfl rfl 1 (by decide) wd3 (fun _ h9 => h9) rfl dX9_line_109 ?_
    refine lv_iload_n hx hb dX9_line_112 rfl (lv_at hl 1 rfl) ?_
    refine lv_iload hx hb dX9_line_113 (lv_at hl 2 rfl) ?_
    refine lv_icmp_ge (tgt := 123) hx hb dX9_line_115 (by decide) (fun c6 => ?_) (fun c6 => ?_)
    · have hf := it hf c6
      refine lv_iload_n hx hb dX9_line_123 rfl (lv_at hl 1 rfl) ?_
      exact B124 b_x_lines b_x_kind b_x_figure v5 b_x_high p3 b_x_lines hf _ _ hP hD hS ls (lv_sub hl [0] rfl)
    · have hf := ie hf c6
      refine lv_iload hx hb dX9_line_118 (lv_at hl 2 rfl) ?_
      refine lv_goto (tgt := 124) hx hb dX9_line_120 (by decide) ?_
      exact B124 b_x_lines b_x_kind b_x_figure v5 b_x_high p4 b_x_lines hf _ _ hP hD hS ls (lv_sub hl [0] rfl)
  have E0 : ∀ (H : Heap) (locs : List Loc), va_P G vwCl [(qx 0, oX9 qx x_points x_lines x_tide x_isKept x_isMuch x_sum x_once x_twice x_isTermMuch x_nodes x_newMany x_isTooGreat x_come x_foundSet), (qx 4, .inl (Y 0, 40, .inl x_kind)), (qx 5, .inl (Y 0, 40, .inl x_figure)), (qx 6, .inl (Y 0, 40, .inl x_low)), (qx 7, .inl (Y 0, 40, .inl x_high))] H → va_D A [(qx 0, oX9 qx x_points x_lines x_tide x_isKept x_isMuch x_sum x_once x_twice x_isTermMuch x_nodes x_newMany x_isTooGreat x_come x_foundSet), (qx 4, .inl (Y 0, 40, .inl x_kind)), (qx 5, .inl (Y 0, 40, .inl x_figure)), (qx 6, .inl (Y 0, 40, .inl x_low)), (qx 7, .inl (Y 0, 40, .inl x_high))] → va_S A s.heap H locs → ∀ (ls : Array Slot), lv_has ls 5 [(0, .ref (qx 0)), (1, .int p1), (2, .int p2), (3, .int p3), (4, .int p4)] → W p l e (headSpec wsX9_line (rmk 3 68)).room s m [.ref (qx 0), .int p1, .int p2, .int p3, .int p4].toArray below meth c H locs 0 0 (MQ below (va_Qi (fun (r : Int32) (_ : Unit) => r = rv) (Pst G (tys Y) [(qx 0, oX9 qx x_points x_lines x_tide x_isKept x_isMuch x_sum x_once x_twice x_isTermMuch x_nodes x_newMany x_isTooGreat x_come x_foundSet), (qx 4, .inl (Y 0, 40, .inl x_kind)), (qx 5, .inl (Y 0, 40, .inl x_figure)), (qx 6, .inl (Y 0, 40, .inl x_low)), (qx 7, .inl (Y 0, 40, .inl x_high))] s.heap.size [(qx 0, oX9 qx x_points o_x_lines x_tide x_isKept x_isMuch x_sum x_once x_twice x_isTermMuch x_nodes x_newMany x_isTooGreat x_come x_foundSet), (qx 4, .inl (Y 0, 40, .inl o_x_kind)), (qx 5, .inl (Y 0, 40, .inl o_x_figure)), (qx 6, .inl (Y 0, 40, .inl o_x_low)), (qx 7, .inl (Y 0, 40, .inl o_x_high))]) A) [.ref (qx 0), .int p1, .int p2, .int p3, .int p4].toArray s 0 0 A) (F0 m 0 ls []) := by
    intro H locs hP hD hS ls hl
    unfold f_X9_line at hf
    refine lv_iload_n hx hb dX9_line_0 rfl (lv_at hl 1 rfl) ?_
    refine lv_i2l hx hb dX9_line_1 rfl ?_
    refine lv_lconst (v := 0) hx hb dX9_line_2 (by decide) ?_
    refine lv_ldc2 hx hb hown wd1 dX9_line_3 ?_
    obtain ⟨r7, hc, hf⟩ := bd1 hf
    refine cl_i (ws' := [(qx 0, oX9 qx x_points x_lines x_tide x_isKept x_isMuch x_sum x_once x_twice x_isTermMuch x_nodes x_newMany x_isTooGreat x_come x_foundSet), (qx 4, .inl (Y 0, 40, .inl x_kind)), (qx 5, .inl (Y 0, 40, .inl x_figure)), (qx 6, .inl (Y 0, 40, .inl x_low)), (qx 7, .inl (Y 0, 40, .inl x_high))]) (wr := [(qx 0, oX9 qx x_points x_lines x_tide x_isKept x_isMuch x_sum x_once x_twice x_isTermMuch x_nodes x_newMany x_isTooGreat x_come x_foundSet), (qx 4, .inl (Y 0, 40, .inl x_kind)), (qx 5, .inl (Y 0, 40, .inl x_figure)), (qx 6, .inl (Y 0, 40, .inl x_low)), (qx 7, .inl (Y 0, 40, .inl x_high))]) (rnS (As := [.long p1.toInt64, .long (0 : Int64), .long (5 : Int64)]) (rest := []) ⟨hx, hb, hml, hown, hts⟩ (c_X9_in l G Y H.size p1.toInt64 (0 : Int64) (5 : Int64) r7 hc) (va_cwS 3 hts gX9_line_X9_in rfl rfl rfl (by decide +kernel) ⟨(Nat.le_of_ble_eq_true rfl), (Nat.le_of_ble_eq_true rfl)⟩) trivial okT hK hP hD [] rfl rfl rfl hl.1 rfl (Nat.le_of_ble_eq_true rfl) dX9_line_6) hP hD hS hA [] [0, 1, 2, 3, 4] [0, 1, 2, 3, 4] rfl rfl rfl (by decide) rfl rfl (fun H locs hP hD hS => ?_)
    refine lv_if_eq (tgt := 34) hx hb dX9_line_9 (by decide) (fun c8 => ?_) (fun c8 => ?_)
    · have hf := it hf c8
      refine lv_bipush (v := -2) hx hb dX9_line_34 (by decide) ?_
      obtain ⟨e0, e1, e2, e3, e4, e5⟩ := rt6 hf
      have hP : va_P G vwCl [(qx 0, oX9 qx x_points o_x_lines x_tide x_isKept x_isMuch x_sum x_once x_twice x_isTermMuch x_nodes x_newMany x_isTooGreat x_come x_foundSet), (qx 4, .inl (Y 0, 40, .inl o_x_kind)), (qx 5, .inl (Y 0, 40, .inl o_x_figure)), (qx 6, .inl (Y 0, 40, .inl o_x_low)), (qx 7, .inl (Y 0, 40, .inl o_x_high))] H := by rw [← e1, ← e2, ← e3, ← e4, ← e5]; exact hP
      have hD : va_D A [(qx 0, oX9 qx x_points o_x_lines x_tide x_isKept x_isMuch x_sum x_once x_twice x_isTermMuch x_nodes x_newMany x_isTooGreat x_come x_foundSet), (qx 4, .inl (Y 0, 40, .inl o_x_kind)), (qx 5, .inl (Y 0, 40, .inl o_x_figure)), (qx 6, .inl (Y 0, 40, .inl o_x_low)), (qx 7, .inl (Y 0, 40, .inl o_x_high))] := by rw [← e1, ← e2, ← e3, ← e4, ← e5]; exact hD
      exact W.iret (v := (-2 : Int32)) hx hb hr (fun t ht hW => ⟨⟨(-2 : Int32), (), rfl, e0, by rw [ht]; exact hP, va_K.moved hW.alike hK, by rw [hAe]; exact hD⟩, hS.F ht⟩) hS.2.2 dX9_line_36
    · have hf := ie hf c8
      refine lv_iload_n hx hb dX9_line_12 rfl (lv_at hl 2 rfl) ?_
      refine lv_i2l hx hb dX9_line_13 rfl ?_
      refine lv_lconst (v := 0) hx hb dX9_line_14 (by decide) ?_
      refine lv_ldc2 hx hb hown wd2 dX9_line_15 ?_
      obtain ⟨r9, hc, hf⟩ := bd1 hf
      refine cl_i (ws' := [(qx 0, oX9 qx x_points x_lines x_tide x_isKept x_isMuch x_sum x_once x_twice x_isTermMuch x_nodes x_newMany x_isTooGreat x_come x_foundSet), (qx 4, .inl (Y 0, 40, .inl x_kind)), (qx 5, .inl (Y 0, 40, .inl x_figure)), (qx 6, .inl (Y 0, 40, .inl x_low)), (qx 7, .inl (Y 0, 40, .inl x_high))]) (wr := [(qx 0, oX9 qx x_points x_lines x_tide x_isKept x_isMuch x_sum x_once x_twice x_isTermMuch x_nodes x_newMany x_isTooGreat x_come x_foundSet), (qx 4, .inl (Y 0, 40, .inl x_kind)), (qx 5, .inl (Y 0, 40, .inl x_figure)), (qx 6, .inl (Y 0, 40, .inl x_low)), (qx 7, .inl (Y 0, 40, .inl x_high))]) (rnS (As := [.long p2.toInt64, .long (0 : Int64), .long (9999 : Int64)]) (rest := []) ⟨hx, hb, hml, hown, hts⟩ (c_X9_in l G Y H.size p2.toInt64 (0 : Int64) (9999 : Int64) r9 hc) (va_cwS 3 hts gX9_line_X9_in rfl rfl rfl (by decide +kernel) ⟨(Nat.le_of_ble_eq_true rfl), (Nat.le_of_ble_eq_true rfl)⟩) trivial okT hK hP hD [] rfl rfl rfl hl.1 rfl (Nat.le_of_ble_eq_true rfl) dX9_line_18) hP hD hS hA [] [0, 1, 2, 3, 4] [0, 1, 2, 3, 4] rfl rfl rfl (by decide) rfl rfl (fun H locs hP hD hS => ?_)
      refine lv_if_eq (tgt := 34) hx hb dX9_line_21 (by decide) (fun c10 => ?_) (fun c10 => ?_)
      · have hf := it hf c10
        refine lv_bipush (v := -2) hx hb dX9_line_34 (by decide) ?_
        obtain ⟨e0, e1, e2, e3, e4, e5⟩ := rt6 hf
        have hP : va_P G vwCl [(qx 0, oX9 qx x_points o_x_lines x_tide x_isKept x_isMuch x_sum x_once x_twice x_isTermMuch x_nodes x_newMany x_isTooGreat x_come x_foundSet), (qx 4, .inl (Y 0, 40, .inl o_x_kind)), (qx 5, .inl (Y 0, 40, .inl o_x_figure)), (qx 6, .inl (Y 0, 40, .inl o_x_low)), (qx 7, .inl (Y 0, 40, .inl o_x_high))] H := by rw [← e1, ← e2, ← e3, ← e4, ← e5]; exact hP
        have hD : va_D A [(qx 0, oX9 qx x_points o_x_lines x_tide x_isKept x_isMuch x_sum x_once x_twice x_isTermMuch x_nodes x_newMany x_isTooGreat x_come x_foundSet), (qx 4, .inl (Y 0, 40, .inl o_x_kind)), (qx 5, .inl (Y 0, 40, .inl o_x_figure)), (qx 6, .inl (Y 0, 40, .inl o_x_low)), (qx 7, .inl (Y 0, 40, .inl o_x_high))] := by rw [← e1, ← e2, ← e3, ← e4, ← e5]; exact hD
        exact W.iret (v := (-2 : Int32)) hx hb hr (fun t ht hW => ⟨⟨(-2 : Int32), (), rfl, e0, by rw [ht]; exact hP, va_K.moved hW.alike hK, by rw [hAe]; exact hD⟩, hS.F ht⟩) hS.2.2 dX9_line_36
      · have hf := ie hf c10
        refine lv_aload_n hx hb dX9_line_24 rfl (lv_at hl 0 rfl) ?_
        refine lv_iload_n hx hb dX9_line_25 rfl (lv_at hl 3 rfl) ?_
        refine lv_iload hx hb dX9_line_26 (lv_at hl 4 rfl) ?_
        obtain ⟨r11, hc, hf⟩ := bd1 hf
        refine cl_i (ws' := [(qx 0, oX9 qx x_points x_lines x_tide x_isKept x_isMuch x_sum x_once x_twice x_isTermMuch x_nodes x_newMany x_isTooGreat x_come x_foundSet), (qx 4, .inl (Y 0, 40, .inl x_kind)), (qx 5, .inl (Y 0, 40, .inl x_figure)), (qx 6, .inl (Y 0, 40, .inl x_low)), (qx 7, .inl (Y 0, 40, .inl x_high))]) (wr := [(qx 4, .inl (Y 0, 40, .inl x_kind)), (qx 5, .inl (Y 0, 40, .inl x_figure)), (qx 6, .inl (Y 0, 40, .inl x_low)), (qx 7, .inl (Y 0, 40, .inl x_high))]) (rnV (As := [.int p3, .int p4]) (rest := []) ⟨hx, hb, hml, hown, hts⟩ (c_X9_areTwo l G Y H.size qx x_points x_lines x_tide x_isKept x_isMuch x_sum x_once x_twice x_isTermMuch x_nodes x_newMany x_isTooGreat x_come x_foundSet p3 p4 r11 hc) (cwV 2 hts gX9_line_X9_areTwo rfl rfl rfl (by decide +kernel) ⟨(Nat.le_of_ble_eq_true rfl), (Nat.le_of_ble_eq_true rfl)⟩) trivial okT hK hP hD [0] rfl rfl (ci := 7) (q0 := 0) rfl rfl rfl rfl hl.1 rfl (Nat.le_of_ble_eq_true rfl) dX9_line_28) hP hD hS hA [0] [1, 2, 3, 4] [4, 0, 1, 2, 3] rfl rfl rfl (by decide) rfl rfl (fun H locs hP hD hS => ?_)
        refine lv_if_ne (tgt := 37) hx hb dX9_line_31 (by decide) (fun c12 => ?_) (fun c12 => ?_)
        · have hf := ie hf c12
          refine lv_aload_n hx hb dX9_line_37 rfl (lv_at hl 0 rfl) ?_
          refine lv_iload_n hx hb dX9_line_38 rfl (lv_at hl 3 rfl) ?_
          refine lv_iload hx hb dX9_line_39 (lv_at hl 4 rfl) ?_
          obtain ⟨r13, hc, hf⟩ := bd1 hf
          refine cl_i (ws' := [(qx 0, oX9 qx x_points x_lines x_tide x_isKept x_isMuch x_sum x_once x_twice x_isTermMuch x_nodes x_newMany x_isTooGreat x_come x_foundSet), (qx 4, .inl (Y 0, 40, .inl x_kind)), (qx 5, .inl (Y 0, 40, .inl x_figure)), (qx 6, .inl (Y 0, 40, .inl x_low)), (qx 7, .inl (Y 0, 40, .inl x_high))]) (wr := [(qx 4, .inl (Y 0, 40, .inl x_kind)), (qx 5, .inl (Y 0, 40, .inl x_figure))]) (rnV (As := [.int p3, .int p4]) (rest := []) ⟨hx, hb, hml, hown, hts⟩ (c_X9_lineOf l G Y H.size qx x_points x_lines x_tide x_low x_high x_isKept x_isMuch x_sum x_once x_twice x_isTermMuch x_nodes x_newMany x_isTooGreat x_come x_foundSet p3 p4 r13 hc) (cwV 2 hts gX9_line_X9_lineOf rfl rfl rfl (by decide +kernel) ⟨(Nat.le_of_ble_eq_true rfl), (Nat.le_of_ble_eq_true rfl)⟩) trivial okT hK hP hD [0, 3, 4] rfl rfl (ci := 7) (q0 := 0) rfl rfl rfl rfl hl.1 rfl (Nat.le_of_ble_eq_true rfl) dX9_line_41) hP hD hS hA [0, 3, 4] [1, 2] [2, 0, 1, 3, 4] rfl rfl rfl (by decide) rfl rfl (fun H locs hP hD hS => ?_)
          refine lv_iconst (v := -1) hx hb dX9_line_44 (by decide) ?_
          refine lv_icmp_eq (tgt := 51) hx hb dX9_line_45 (by decide) (fun c14 => ?_) (fun c14 => ?_)
          · have hf := it hf c14
            refine lv_aload_n hx hb dX9_line_51 rfl (lv_at hl 0 rfl) ?_
            refine va_get (D := G) (ci := 7) (v := .int x_lines) (C := RX9) (T := TX9) (N := 37) hx hb hts inX9w hown hK hP 0 rfl rfl 1 (by decide) wd3 (fun _ h9 => h9) rfl dX9_line_52 ?_
            refine lv_bipush (v := 40) hx hb dX9_line_55 (by decide) ?_
            refine lv_icmp_ne (tgt := 63) hx hb dX9_line_57 (by decide) (fun c15 => ?_) (fun c15 => ?_)
            · have hf := ie hf c15
              refine lv_aload_n hx hb dX9_line_63 rfl (lv_at hl 0 rfl) ?_
              refine va_get (D := G) (ci := 7) (v := .ref (qx 4)) (C := RX9) (T := TX9) (N := 37) hx hb hts inX9w hown hK hP 0 rfl rfl 3 (by decide) wd4 (fun _ h9 => h9) rfl dX9_line_64 ?_
              refine lv_aload_n hx hb dX9_line_67 rfl (lv_at hl 0 rfl) ?_
              refine va_get (D := G) (ci := 7) (v := .int x_lines) (C := RX9) (T := TX9) (N := 37) hx hb hts inX9w hown hK hP 0 rfl rfl 1 (by decide) wd3 (fun _ h9 => h9) rfl dX9_line_68 ?_
              refine lv_iload_n hx hb dX9_line_71 rfl (lv_at hl 1 rfl) ?_
              obtain ⟨g16, hf⟩ := gd hf
              refine va_iast hx hb hK hP hD hS 1 0 rfl rfl g16 dX9_line_72 (fun H locs hP hD hS => ?_)
              obtain ⟨v17, e_v17⟩ : ∃ z : Nat → Int32, z = upd x_kind x_lines.toNatClampNeg p1 := ⟨_, rfl⟩
              have hf := nm_at hf e_v17
              have hP : va_P G vwCl [(qx 0, oX9 qx x_points x_lines x_tide x_isKept x_isMuch x_sum x_once x_twice x_isTermMuch x_nodes x_newMany x_isTooGreat x_come x_foundSet), (qx 4, .inl (Y 0, 40, .inl v17)), (qx 5, .inl (Y 0, 40, .inl x_figure)), (qx 6, .inl (Y 0, 40, .inl x_low)), (qx 7, .inl (Y 0, 40, .inl x_high))] H := by rw [e_v17]; exact hP
              have hD : va_D A [(qx 0, oX9 qx x_points x_lines x_tide x_isKept x_isMuch x_sum x_once x_twice x_isTermMuch x_nodes x_newMany x_isTooGreat x_come x_foundSet), (qx 4, .inl (Y 0, 40, .inl v17)), (qx 5, .inl (Y 0, 40, .inl x_figure)), (qx 6, .inl (Y 0, 40, .inl x_low)), (qx 7, .inl (Y 0, 40, .inl x_high))] := by rw [e_v17]; exact hD
              refine lv_aload_n hx hb dX9_line_73 rfl (lv_at hl 0 rfl) ?_
              refine va_get (D := G) (ci := 7) (v := .ref (qx 5)) (C := RX9) (T := TX9) (N := 37) hx hb hts inX9w hown hK hP 0 rfl rfl 4 (by decide) wd5 (fun _ h9 => h9) rfl dX9_line_74 ?_
              refine lv_aload_n hx hb dX9_line_77 rfl (lv_at hl 0 rfl) ?_
              refine va_get (D := G) (ci := 7) (v := .int x_lines) (C := RX9) (T := TX9) (N := 37) hx hb hts inX9w hown hK hP 0 rfl rfl 1 (by decide) wd3 (fun _ h9 => h9) rfl dX9_line_78 ?_
              refine lv_iload_n hx hb dX9_line_81 rfl (lv_at hl 2 rfl) ?_
              obtain ⟨g18, hf⟩ := gd hf
              refine va_iast hx hb hK hP hD hS 2 0 rfl rfl g18 dX9_line_82 (fun H locs hP hD hS => ?_)
              obtain ⟨v19, e_v19⟩ : ∃ z : Nat → Int32, z = upd x_figure x_lines.toNatClampNeg p2 := ⟨_, rfl⟩
              have hf := nm_at hf e_v19
              have hP : va_P G vwCl [(qx 0, oX9 qx x_points x_lines x_tide x_isKept x_isMuch x_sum x_once x_twice x_isTermMuch x_nodes x_newMany x_isTooGreat x_come x_foundSet), (qx 4, .inl (Y 0, 40, .inl v17)), (qx 5, .inl (Y 0, 40, .inl v19)), (qx 6, .inl (Y 0, 40, .inl x_low)), (qx 7, .inl (Y 0, 40, .inl x_high))] H := by rw [e_v19]; exact hP
              have hD : va_D A [(qx 0, oX9 qx x_points x_lines x_tide x_isKept x_isMuch x_sum x_once x_twice x_isTermMuch x_nodes x_newMany x_isTooGreat x_come x_foundSet), (qx 4, .inl (Y 0, 40, .inl v17)), (qx 5, .inl (Y 0, 40, .inl v19)), (qx 6, .inl (Y 0, 40, .inl x_low)), (qx 7, .inl (Y 0, 40, .inl x_high))] := by rw [e_v19]; exact hD
              refine lv_aload_n hx hb dX9_line_83 rfl (lv_at hl 0 rfl) ?_
              refine va_get (D := G) (ci := 7) (v := .ref (qx 6)) (C := RX9) (T := TX9) (N := 37) hx hb hts inX9w hown hK hP 0 rfl rfl 5 (by decide) wd6 (fun _ h9 => h9) rfl dX9_line_84 ?_
              refine lv_aload_n hx hb dX9_line_87 rfl (lv_at hl 0 rfl) ?_
              refine va_get (D := G) (ci := 7) (v := .int x_lines) (C := RX9) (T := TX9) (N := 37) hx hb hts inX9w hown hK hP 0 rfl rfl 1 (by decide) wd3 (fun _ h9 => h9) rfl dX9_line_88 ?_
              refine lv_iload_n hx hb dX9_line_91 rfl (lv_at hl 3 rfl) ?_
              refine lv_iload hx hb dX9_line_92 (lv_at hl 4 rfl) ?_
              refine lv_icmp_ge (tgt := 101) hx hb dX9_line_94 (by decide) (fun c20 => ?_) (fun c20 => ?_)
              · have hf := it hf c20
                refine lv_iload hx hb dX9_line_101 (lv_at hl 4 rfl) ?_
                exact B103 x_lines v17 v19 x_low x_high p4 x_lines hf _ _ hP hD hS ls (lv_sub hl [0, 3, 4] rfl)
              · have hf := ie hf c20
                refine lv_iload_n hx hb dX9_line_97 rfl (lv_at hl 3 rfl) ?_
                refine lv_goto (tgt := 103) hx hb dX9_line_98 (by decide) ?_
                exact B103 x_lines v17 v19 x_low x_high p3 x_lines hf _ _ hP hD hS ls (lv_sub hl [0, 3, 4] rfl)
            · have hf := it hf c15
              refine lv_bipush (v := -4) hx hb dX9_line_60 (by decide) ?_
              obtain ⟨e0, e1, e2, e3, e4, e5⟩ := rt6 hf
              have hP : va_P G vwCl [(qx 0, oX9 qx x_points o_x_lines x_tide x_isKept x_isMuch x_sum x_once x_twice x_isTermMuch x_nodes x_newMany x_isTooGreat x_come x_foundSet), (qx 4, .inl (Y 0, 40, .inl o_x_kind)), (qx 5, .inl (Y 0, 40, .inl o_x_figure)), (qx 6, .inl (Y 0, 40, .inl o_x_low)), (qx 7, .inl (Y 0, 40, .inl o_x_high))] H := by rw [← e1, ← e2, ← e3, ← e4, ← e5]; exact hP
              have hD : va_D A [(qx 0, oX9 qx x_points o_x_lines x_tide x_isKept x_isMuch x_sum x_once x_twice x_isTermMuch x_nodes x_newMany x_isTooGreat x_come x_foundSet), (qx 4, .inl (Y 0, 40, .inl o_x_kind)), (qx 5, .inl (Y 0, 40, .inl o_x_figure)), (qx 6, .inl (Y 0, 40, .inl o_x_low)), (qx 7, .inl (Y 0, 40, .inl o_x_high))] := by rw [← e1, ← e2, ← e3, ← e4, ← e5]; exact hD
              exact W.iret (v := (-4 : Int32)) hx hb hr (fun t ht hW => ⟨⟨(-4 : Int32), (), rfl, e0, by rw [ht]; exact hP, va_K.moved hW.alike hK, by rw [hAe]; exact hD⟩, hS.F ht⟩) hS.2.2 dX9_line_62
          · have hf := ie hf c14
            refine lv_bipush (v := -3) hx hb dX9_line_48 (by decide) ?_
            obtain ⟨e0, e1, e2, e3, e4, e5⟩ := rt6 hf
            have hP : va_P G vwCl [(qx 0, oX9 qx x_points o_x_lines x_tide x_isKept x_isMuch x_sum x_once x_twice x_isTermMuch x_nodes x_newMany x_isTooGreat x_come x_foundSet), (qx 4, .inl (Y 0, 40, .inl o_x_kind)), (qx 5, .inl (Y 0, 40, .inl o_x_figure)), (qx 6, .inl (Y 0, 40, .inl o_x_low)), (qx 7, .inl (Y 0, 40, .inl o_x_high))] H := by rw [← e1, ← e2, ← e3, ← e4, ← e5]; exact hP
            have hD : va_D A [(qx 0, oX9 qx x_points o_x_lines x_tide x_isKept x_isMuch x_sum x_once x_twice x_isTermMuch x_nodes x_newMany x_isTooGreat x_come x_foundSet), (qx 4, .inl (Y 0, 40, .inl o_x_kind)), (qx 5, .inl (Y 0, 40, .inl o_x_figure)), (qx 6, .inl (Y 0, 40, .inl o_x_low)), (qx 7, .inl (Y 0, 40, .inl o_x_high))] := by rw [← e1, ← e2, ← e3, ← e4, ← e5]; exact hD
            exact W.iret (v := (-3 : Int32)) hx hb hr (fun t ht hW => ⟨⟨(-3 : Int32), (), rfl, e0, by rw [ht]; exact hP, va_K.moved hW.alike hK, by rw [hAe]; exact hD⟩, hS.F ht⟩) hS.2.2 dX9_line_50
        · have hf := it hf c12
          refine lv_bipush (v := -2) hx hb dX9_line_34 (by decide) ?_
          obtain ⟨e0, e1, e2, e3, e4, e5⟩ := rt6 hf
          have hP : va_P G vwCl [(qx 0, oX9 qx x_points o_x_lines x_tide x_isKept x_isMuch x_sum x_once x_twice x_isTermMuch x_nodes x_newMany x_isTooGreat x_come x_foundSet), (qx 4, .inl (Y 0, 40, .inl o_x_kind)), (qx 5, .inl (Y 0, 40, .inl o_x_figure)), (qx 6, .inl (Y 0, 40, .inl o_x_low)), (qx 7, .inl (Y 0, 40, .inl o_x_high))] H := by rw [← e1, ← e2, ← e3, ← e4, ← e5]; exact hP
          have hD : va_D A [(qx 0, oX9 qx x_points o_x_lines x_tide x_isKept x_isMuch x_sum x_once x_twice x_isTermMuch x_nodes x_newMany x_isTooGreat x_come x_foundSet), (qx 4, .inl (Y 0, 40, .inl o_x_kind)), (qx 5, .inl (Y 0, 40, .inl o_x_figure)), (qx 6, .inl (Y 0, 40, .inl o_x_low)), (qx 7, .inl (Y 0, 40, .inl o_x_high))] := by rw [← e1, ← e2, ← e3, ← e4, ← e5]; exact hD
          exact W.iret (v := (-2 : Int32)) hx hb hr (fun t ht hW => ⟨⟨(-2 : Int32), (), rfl, e0, by rw [ht]; exact hP, va_K.moved hW.alike hK, by rw [hAe]; exact hD⟩, hS.F ht⟩) hS.2.2 dX9_line_36
  exact E0 s.heap [] hP hD hS ls hl
-- X9_told_
set_option maxRecDepth 100000 in
set_option maxHeartbeats 4000000 in
theorem c_X9_told_ (l : Launch) (G : va_G) (Y : Nat → ClassId) (sz : Nat) (qx : Nat → Nat) (x_points : Int32) (x_lines : Int32) (x_tide : Int32) (x_kind : Nat → Int32) (x_figure : Nat → Int32) (x_low : Nat → Int32) (x_high : Nat → Int32) (x_isKept : Int32) (x_isMuch : Int32) (x_sum : Int64) (x_once : Int64) (x_twice : Int64) (x_isTermMuch : Int32) (x_nodes : Int32) (x_newMany : Int32) (x_isTooGreat : Int32) (x_come : Int32) (x_foundSet : Int64) (p1 : Int32) (p2 : Int32) (rv : Int32) (hf : f_X9_told_ x_lines x_tide x_kind x_figure x_low x_high p1 p2 = some (rv)) : Met l yX9_told_ wsX9_told_ (rmk 2 46) (va_Pc [.ref (qx 0), .int p1, .int p2] (Pre G (tys Y) [(qx 0, oX9 qx x_points x_lines x_tide x_isKept x_isMuch x_sum x_once x_twice x_isTermMuch x_nodes x_newMany x_isTooGreat x_come x_foundSet), (qx 4, .inl (Y 0, 40, .inl x_kind)), (qx 5, .inl (Y 0, 40, .inl x_figure)), (qx 6, .inl (Y 0, 40, .inl x_low)), (qx 7, .inl (Y 0, 40, .inl x_high))] sz xT)) (va_Qi (fun (r : Int32) (_ : Unit) => r = rv) (Pst G (tys Y) [(qx 0, oX9 qx x_points x_lines x_tide x_isKept x_isMuch x_sum x_once x_twice x_isTermMuch x_nodes x_newMany x_isTooGreat x_come x_foundSet), (qx 4, .inl (Y 0, 40, .inl x_kind)), (qx 5, .inl (Y 0, 40, .inl x_figure)), (qx 6, .inl (Y 0, 40, .inl x_low)), (qx 7, .inl (Y 0, 40, .inl x_high))] sz [(qx 0, oX9 qx x_points x_lines x_tide x_isKept x_isMuch x_sum x_once x_twice x_isTermMuch x_nodes x_newMany x_isTooGreat x_come x_foundSet), (qx 4, .inl (Y 0, 40, .inl x_kind)), (qx 5, .inl (Y 0, 40, .inl x_figure)), (qx 6, .inl (Y 0, 40, .inl x_low)), (qx 7, .inl (Y 0, 40, .inl x_high))]) (va_A [(qx 0, oX9 qx x_points x_lines x_tide x_isKept x_isMuch x_sum x_once x_twice x_isTermMuch x_nodes x_newMany x_isTooGreat x_come x_foundSet), (qx 4, .inl (Y 0, 40, .inl x_kind)), (qx 5, .inl (Y 0, 40, .inl x_figure)), (qx 6, .inl (Y 0, 40, .inl x_low)), (qx 7, .inl (Y 0, 40, .inl x_high))] sz)) 0 0 (va_A [(qx 0, oX9 qx x_points x_lines x_tide x_isKept x_isMuch x_sum x_once x_twice x_isTermMuch x_nodes x_newMany x_isTooGreat x_come x_foundSet), (qx 4, .inl (Y 0, 40, .inl x_kind)), (qx 5, .inl (Y 0, 40, .inl x_figure)), (qx 6, .inl (Y 0, 40, .inl x_low)), (qx 7, .inl (Y 0, 40, .inl x_high))] sz) := by
  refine Met.ofW (cc := cX9_told_) (maxL := 3) (ret := (some .int)) (by decide) rfl ?_
  intro p e s m args below meth c s₁ B hml hv
  obtain ⟨rfl, hsz, hP, hK, hD0, hX⟩ := hv
  have hx := B.exec
  have hb := B.bytes
  have hr := B.returns
  have hts := atoms_spec (ws := wsX9_told_) B.pre
  have hown : s.vm.findClass RX9 = some m.cls := findClass_of_methodNamed B.named
  have hlocks := B.notSynchronized
  subst hsz
  have hD := hD0.self (sz := s.heap.size)
  generalize hAe : va_A [(qx 0, oX9 qx x_points x_lines x_tide x_isKept x_isMuch x_sum x_once x_twice x_isTermMuch x_nodes x_newMany x_isTooGreat x_come x_foundSet), (qx 4, .inl (Y 0, 40, .inl x_kind)), (qx 5, .inl (Y 0, 40, .inl x_figure)), (qx 6, .inl (Y 0, 40, .inl x_low)), (qx 7, .inl (Y 0, 40, .inl x_high))] s.heap.size = A at hD ⊢
  have hA : ∀ q : Nat, s.heap.size ≤ q → A q := fun q h => by rw [← hAe]; exact Or.inr h
  have hS : va_S A s.heap s.heap [] := va_S.rf
  have hP : va_P G vwCl [(qx 0, oX9 qx x_points x_lines x_tide x_isKept x_isMuch x_sum x_once x_twice x_isTermMuch x_nodes x_newMany x_isTooGreat x_come x_foundSet), (qx 4, .inl (Y 0, 40, .inl x_kind)), (qx 5, .inl (Y 0, 40, .inl x_figure)), (qx 6, .inl (Y 0, 40, .inl x_low)), (qx 7, .inl (Y 0, 40, .inl x_high))] s.heap := hP
  have wd1 : (Cond.fieldLink RX9 9 "PairedLinesModel" "kind" "[I").before [.ref (qx 0), .int p1, .int p2].toArray s = true := hts _ (List.mem_of_getElem? (i := 1) rfl)
  have wd2 : (Cond.fieldLink RX9 13 "PairedLinesModel" "figure" "[I").before [.ref (qx 0), .int p1, .int p2].toArray s = true := hts _ (List.mem_of_getElem? (i := 2) rfl)
  have wd3 : (Cond.fieldLink RX9 16 "PairedLinesModel" "low" "[I").before [.ref (qx 0), .int p1, .int p2].toArray s = true := hts _ (List.mem_of_getElem? (i := 3) rfl)
  have wd4 : (Cond.fieldLink RX9 19 "PairedLinesModel" "high" "[I").before [.ref (qx 0), .int p1, .int p2].toArray s = true := hts _ (List.mem_of_getElem? (i := 4) rfl)
  have inX9w : ∀ w ∈ u_ws RX9 TX9 37, w ∈ wsX9_told_ := fun w hw => List.mem_cons_of_mem _ (List.mem_append_right _ (hw))
  have hl := lv_entry ([.ref (qx 0), .int p1, .int p2]) (n := 3) (Nat.le_of_ble_eq_true rfl)
  rw [lg_entry_eq]
  generalize (lg_sl ([.ref (qx 0), .int p1, .int p2]) ++ List.replicate (3 - (lg_sl ([.ref (qx 0), .int p1, .int p2])).length) Slot.unset).toArray = ls at hl ⊢
  have hl : lv_has ls 3 [(0, .ref (qx 0)), (1, .int p1), (2, .int p2)] := hl
  have E0 : ∀ (H : Heap) (locs : List Loc), va_P G vwCl [(qx 0, oX9 qx x_points x_lines x_tide x_isKept x_isMuch x_sum x_once x_twice x_isTermMuch x_nodes x_newMany x_isTooGreat x_come x_foundSet), (qx 4, .inl (Y 0, 40, .inl x_kind)), (qx 5, .inl (Y 0, 40, .inl x_figure)), (qx 6, .inl (Y 0, 40, .inl x_low)), (qx 7, .inl (Y 0, 40, .inl x_high))] H → va_D A [(qx 0, oX9 qx x_points x_lines x_tide x_isKept x_isMuch x_sum x_once x_twice x_isTermMuch x_nodes x_newMany x_isTooGreat x_come x_foundSet), (qx 4, .inl (Y 0, 40, .inl x_kind)), (qx 5, .inl (Y 0, 40, .inl x_figure)), (qx 6, .inl (Y 0, 40, .inl x_low)), (qx 7, .inl (Y 0, 40, .inl x_high))] → va_S A s.heap H locs → ∀ (ls : Array Slot), lv_has ls 3 [(0, .ref (qx 0)), (1, .int p1), (2, .int p2)] → W p l e (headSpec wsX9_told_ (rmk 2 46)).room s m [.ref (qx 0), .int p1, .int p2].toArray below meth c H locs 0 0 (MQ below (va_Qi (fun (r : Int32) (_ : Unit) => r = rv) (Pst G (tys Y) [(qx 0, oX9 qx x_points x_lines x_tide x_isKept x_isMuch x_sum x_once x_twice x_isTermMuch x_nodes x_newMany x_isTooGreat x_come x_foundSet), (qx 4, .inl (Y 0, 40, .inl x_kind)), (qx 5, .inl (Y 0, 40, .inl x_figure)), (qx 6, .inl (Y 0, 40, .inl x_low)), (qx 7, .inl (Y 0, 40, .inl x_high))] s.heap.size [(qx 0, oX9 qx x_points x_lines x_tide x_isKept x_isMuch x_sum x_once x_twice x_isTermMuch x_nodes x_newMany x_isTooGreat x_come x_foundSet), (qx 4, .inl (Y 0, 40, .inl x_kind)), (qx 5, .inl (Y 0, 40, .inl x_figure)), (qx 6, .inl (Y 0, 40, .inl x_low)), (qx 7, .inl (Y 0, 40, .inl x_high))]) A) [.ref (qx 0), .int p1, .int p2].toArray s 0 0 A) (F0 m 0 ls []) := by
    intro H locs hP hD hS ls hl
    unfold f_X9_told_ at hf
    refine lv_aload_n hx hb dX9_told__0 rfl (lv_at hl 0 rfl) ?_
    refine lv_iload_n hx hb dX9_told__1 rfl (lv_at hl 1 rfl) ?_
    obtain ⟨r1, hc, hf⟩ := bd1 hf
    refine cl_i (ws' := [(qx 0, oX9 qx x_points x_lines x_tide x_isKept x_isMuch x_sum x_once x_twice x_isTermMuch x_nodes x_newMany x_isTooGreat x_come x_foundSet), (qx 4, .inl (Y 0, 40, .inl x_kind)), (qx 5, .inl (Y 0, 40, .inl x_figure)), (qx 6, .inl (Y 0, 40, .inl x_low)), (qx 7, .inl (Y 0, 40, .inl x_high))]) (wr := [(qx 4, .inl (Y 0, 40, .inl x_kind)), (qx 5, .inl (Y 0, 40, .inl x_figure)), (qx 6, .inl (Y 0, 40, .inl x_low)), (qx 7, .inl (Y 0, 40, .inl x_high))]) (rnV (As := [.int p1]) (rest := []) ⟨hx, hb, hml, hown, hts⟩ (c_X9_isLine l G Y H.size qx x_points x_lines x_tide x_isKept x_isMuch x_sum x_once x_twice x_isTermMuch x_nodes x_newMany x_isTooGreat x_come x_foundSet p1 r1 hc) (cwV 1 hts gX9_told__X9_isLine rfl rfl rfl (by decide +kernel) ⟨(Nat.le_of_ble_eq_true rfl), (Nat.le_of_ble_eq_true rfl)⟩) trivial okT hK hP hD [0] rfl rfl (ci := 7) (q0 := 0) rfl rfl rfl rfl hl.1 rfl (Nat.le_of_ble_eq_true rfl) dX9_told__2) hP hD hS hA [0] [1, 2, 3, 4] [4, 0, 1, 2, 3] rfl rfl rfl (by decide) rfl rfl (fun H locs hP hD hS => ?_)
    refine lv_if_ne (tgt := 11) hx hb dX9_told__5 (by decide) (fun c2 => ?_) (fun c2 => ?_)
    · have hf := ie hf c2
      refine lv_iload_n hx hb dX9_told__11 rfl (lv_at hl 2 rfl) ?_
      by_cases c3 : p2 = 0
      · have hf := it hf c3
        refine lv_tableIn (tgt := 48) hx hb dX9_told__12 (by rw [c3]; decide) (by rw [c3]; decide) (off := 36) (by rw [c3]; rfl) (by decide) ?_
        refine lv_aload_n hx hb dX9_told__48 rfl (lv_at hl 0 rfl) ?_
        refine va_get (D := G) (ci := 7) (v := .ref (qx 4)) (C := RX9) (T := TX9) (N := 37) hx hb hts inX9w hown hK hP 0 rfl rfl 3 (by decide) wd1 (fun _ h9 => h9) rfl dX9_told__49 ?_
        refine lv_iload_n hx hb dX9_told__52 rfl (lv_at hl 1 rfl) ?_
        obtain ⟨g4, hf⟩ := gd hf
        refine va_iald hx hb hK hP 1 0 rfl rfl g4 dX9_told__53 ?_
        have e0 := rt1 hf
        exact W.iret (v := (x_kind p1.toNatClampNeg)) hx hb hr (fun t ht hW => ⟨⟨(x_kind p1.toNatClampNeg), (), rfl, e0, by rw [ht]; exact hP, va_K.moved hW.alike hK, by rw [hAe]; exact hD⟩, hS.F ht⟩) hS.2.2 dX9_told__54
      have hf := ie hf c3
      by_cases c5 : p2 = 1
      · have hf := it hf c5
        refine lv_tableIn (tgt := 55) hx hb dX9_told__12 (by rw [c5]; decide) (by rw [c5]; decide) (off := 43) (by rw [c5]; rfl) (by decide) ?_
        refine lv_aload_n hx hb dX9_told__55 rfl (lv_at hl 0 rfl) ?_
        refine va_get (D := G) (ci := 7) (v := .ref (qx 5)) (C := RX9) (T := TX9) (N := 37) hx hb hts inX9w hown hK hP 0 rfl rfl 4 (by decide) wd2 (fun _ h9 => h9) rfl dX9_told__56 ?_
        refine lv_iload_n hx hb dX9_told__59 rfl (lv_at hl 1 rfl) ?_
        obtain ⟨g6, hf⟩ := gd hf
        refine va_iald hx hb hK hP 2 0 rfl rfl g6 dX9_told__60 ?_
        have e0 := rt1 hf
        exact W.iret (v := (x_figure p1.toNatClampNeg)) hx hb hr (fun t ht hW => ⟨⟨(x_figure p1.toNatClampNeg), (), rfl, e0, by rw [ht]; exact hP, va_K.moved hW.alike hK, by rw [hAe]; exact hD⟩, hS.F ht⟩) hS.2.2 dX9_told__61
      have hf := ie hf c5
      by_cases c7 : p2 = 2
      · have hf := it hf c7
        refine lv_tableIn (tgt := 62) hx hb dX9_told__12 (by rw [c7]; decide) (by rw [c7]; decide) (off := 50) (by rw [c7]; rfl) (by decide) ?_
        refine lv_aload_n hx hb dX9_told__62 rfl (lv_at hl 0 rfl) ?_
        refine lv_iload_n hx hb dX9_told__63 rfl (lv_at hl 1 rfl) ?_
        obtain ⟨r8, hc, hf⟩ := bd1 hf
        refine cl_i (ws' := [(qx 0, oX9 qx x_points x_lines x_tide x_isKept x_isMuch x_sum x_once x_twice x_isTermMuch x_nodes x_newMany x_isTooGreat x_come x_foundSet), (qx 4, .inl (Y 0, 40, .inl x_kind)), (qx 5, .inl (Y 0, 40, .inl x_figure)), (qx 6, .inl (Y 0, 40, .inl x_low)), (qx 7, .inl (Y 0, 40, .inl x_high))]) (wr := [(qx 6, .inl (Y 0, 40, .inl x_low)), (qx 7, .inl (Y 0, 40, .inl x_high))]) (rnV (As := [.int p1]) (rest := []) ⟨hx, hb, hml, hown, hts⟩ (c_X9_weight l G Y H.size qx x_points x_lines x_tide x_kind x_figure x_isKept x_isMuch x_sum x_once x_twice x_isTermMuch x_nodes x_newMany x_isTooGreat x_come x_foundSet p1 r8 hc) (cwV 1 hts gX9_told__X9_weight rfl rfl rfl (by decide +kernel) ⟨(Nat.le_of_ble_eq_true rfl), (Nat.le_of_ble_eq_true rfl)⟩) trivial okT hK hP hD [0, 1, 2] rfl rfl (ci := 7) (q0 := 0) rfl rfl rfl rfl hl.1 rfl (Nat.le_of_ble_eq_true rfl) dX9_told__64) hP hD hS hA [0, 1, 2] [3, 4] [2, 3, 4, 0, 1] rfl rfl rfl (by decide) rfl rfl (fun H locs hP hD hS => ?_)
        have e0 := rt1 hf
        exact W.iret (v := r8) hx hb hr (fun t ht hW => ⟨⟨r8, (), rfl, e0, by rw [ht]; exact hP, va_K.moved hW.alike hK, by rw [hAe]; exact hD⟩, hS.F ht⟩) hS.2.2 dX9_told__67
      have hf := ie hf c7
      by_cases c9 : p2 = 3
      · have hf := it hf c9
        refine lv_tableIn (tgt := 68) hx hb dX9_told__12 (by rw [c9]; decide) (by rw [c9]; decide) (off := 56) (by rw [c9]; rfl) (by decide) ?_
        refine lv_aload_n hx hb dX9_told__68 rfl (lv_at hl 0 rfl) ?_
        refine va_get (D := G) (ci := 7) (v := .ref (qx 6)) (C := RX9) (T := TX9) (N := 37) hx hb hts inX9w hown hK hP 0 rfl rfl 5 (by decide) wd3 (fun _ h9 => h9) rfl dX9_told__69 ?_
        refine lv_iload_n hx hb dX9_told__72 rfl (lv_at hl 1 rfl) ?_
        obtain ⟨g10, hf⟩ := gd hf
        refine va_iald hx hb hK hP 3 0 rfl rfl g10 dX9_told__73 ?_
        have e0 := rt1 hf
        exact W.iret (v := (x_low p1.toNatClampNeg)) hx hb hr (fun t ht hW => ⟨⟨(x_low p1.toNatClampNeg), (), rfl, e0, by rw [ht]; exact hP, va_K.moved hW.alike hK, by rw [hAe]; exact hD⟩, hS.F ht⟩) hS.2.2 dX9_told__74
      have hf := ie hf c9
      by_cases c11 : p2 = 4
      · have hf := it hf c11
        refine lv_tableIn (tgt := 75) hx hb dX9_told__12 (by rw [c11]; decide) (by rw [c11]; decide) (off := 63) (by rw [c11]; rfl) (by decide) ?_
        refine lv_aload_n hx hb dX9_told__75 rfl (lv_at hl 0 rfl) ?_
        refine va_get (D := G) (ci := 7) (v := .ref (qx 7)) (C := RX9) (T := TX9) (N := 37) hx hb hts inX9w hown hK hP 0 rfl rfl 6 (by decide) wd4 (fun _ h9 => h9) rfl dX9_told__76 ?_
        refine lv_iload_n hx hb dX9_told__79 rfl (lv_at hl 1 rfl) ?_
        obtain ⟨g12, hf⟩ := gd hf
        refine va_iald hx hb hK hP 4 0 rfl rfl g12 dX9_told__80 ?_
        have e0 := rt1 hf
        exact W.iret (v := (x_high p1.toNatClampNeg)) hx hb hr (fun t ht hW => ⟨⟨(x_high p1.toNatClampNeg), (), rfl, e0, by rw [ht]; exact hP, va_K.moved hW.alike hK, by rw [hAe]; exact hD⟩, hS.F ht⟩) hS.2.2 dX9_told__81
      have hf := ie hf c11
      have t_c3 : ¬ p2.toInt = 0 := lv_neT c3 (by decide)
      have t_c5 : ¬ p2.toInt = 1 := lv_neT c5 (by decide)
      have t_c7 : ¬ p2.toInt = 2 := lv_neT c7 (by decide)
      have t_c9 : ¬ p2.toInt = 3 := lv_neT c9 (by decide)
      have t_c11 : ¬ p2.toInt = 4 := lv_neT c11 (by decide)
      refine lv_tableOut (tgt := 82) hx hb dX9_told__12 (by omega) (by decide) ?_
      refine lv_bipush (v := -2) hx hb dX9_told__82 (by decide) ?_
      have e0 := rt1 hf
      exact W.iret (v := (-2 : Int32)) hx hb hr (fun t ht hW => ⟨⟨(-2 : Int32), (), rfl, e0, by rw [ht]; exact hP, va_K.moved hW.alike hK, by rw [hAe]; exact hD⟩, hS.F ht⟩) hS.2.2 dX9_told__84
    · have hf := it hf c2
      refine lv_bipush (v := -2) hx hb dX9_told__8 (by decide) ?_
      have e0 := rt1 hf
      exact W.iret (v := (-2 : Int32)) hx hb hr (fun t ht hW => ⟨⟨(-2 : Int32), (), rfl, e0, by rw [ht]; exact hP, va_K.moved hW.alike hK, by rw [hAe]; exact hD⟩, hS.F ht⟩) hS.2.2 dX9_told__10
  exact E0 s.heap [] hP hD hS ls hl
-- X9_set
set_option maxRecDepth 100000 in
set_option maxHeartbeats 4000000 in
theorem c_X9_set (l : Launch) (G : va_G) (Y : Nat → ClassId) (sz : Nat) (qx : Nat → Nat) (x_points : Int32) (x_lines : Int32) (x_tide : Int32) (x_figure : Nat → Int32) (x_isKept : Int32) (x_isMuch : Int32) (x_sum : Int64) (x_once : Int64) (x_twice : Int64) (x_isTermMuch : Int32) (x_nodes : Int32) (x_newMany : Int32) (x_isTooGreat : Int32) (x_come : Int32) (x_foundSet : Int64) (p1 : Int32) (p2 : Int32) (rv : Int32) (o_x_figure : Nat → Int32) (hf : f_X9_set x_lines x_figure p1 p2 = some (rv, o_x_figure)) : Met l yX9_set wsX9_set (rmk 2 46) (va_Pc [.ref (qx 0), .int p1, .int p2] (Pre G (tys Y) [(qx 0, oX9 qx x_points x_lines x_tide x_isKept x_isMuch x_sum x_once x_twice x_isTermMuch x_nodes x_newMany x_isTooGreat x_come x_foundSet), (qx 5, .inl (Y 0, 40, .inl x_figure))] sz xT)) (va_Qi (fun (r : Int32) (_ : Unit) => r = rv) (Pst G (tys Y) [(qx 0, oX9 qx x_points x_lines x_tide x_isKept x_isMuch x_sum x_once x_twice x_isTermMuch x_nodes x_newMany x_isTooGreat x_come x_foundSet), (qx 5, .inl (Y 0, 40, .inl x_figure))] sz [(qx 0, oX9 qx x_points x_lines x_tide x_isKept x_isMuch x_sum x_once x_twice x_isTermMuch x_nodes x_newMany x_isTooGreat x_come x_foundSet), (qx 5, .inl (Y 0, 40, .inl o_x_figure))]) (va_A [(qx 0, oX9 qx x_points x_lines x_tide x_isKept x_isMuch x_sum x_once x_twice x_isTermMuch x_nodes x_newMany x_isTooGreat x_come x_foundSet), (qx 5, .inl (Y 0, 40, .inl x_figure))] sz)) 0 0 (va_A [(qx 0, oX9 qx x_points x_lines x_tide x_isKept x_isMuch x_sum x_once x_twice x_isTermMuch x_nodes x_newMany x_isTooGreat x_come x_foundSet), (qx 5, .inl (Y 0, 40, .inl x_figure))] sz) := by
  refine Met.ofW (cc := cX9_set) (maxL := 4) (ret := (some .int)) (by decide) rfl ?_
  intro p e s m args below meth c s₁ B hml hv
  obtain ⟨rfl, hsz, hP, hK, hD0, hX⟩ := hv
  have hx := B.exec
  have hb := B.bytes
  have hr := B.returns
  have hts := atoms_spec (ws := wsX9_set) B.pre
  have hown : s.vm.findClass RX9 = some m.cls := findClass_of_methodNamed B.named
  have hlocks := B.notSynchronized
  subst hsz
  have hD := hD0.self (sz := s.heap.size)
  generalize hAe : va_A [(qx 0, oX9 qx x_points x_lines x_tide x_isKept x_isMuch x_sum x_once x_twice x_isTermMuch x_nodes x_newMany x_isTooGreat x_come x_foundSet), (qx 5, .inl (Y 0, 40, .inl x_figure))] s.heap.size = A at hD ⊢
  have hA : ∀ q : Nat, s.heap.size ≤ q → A q := fun q h => by rw [← hAe]; exact Or.inr h
  have hS : va_S A s.heap s.heap [] := va_S.rf
  have hP : va_P G vwCl [(qx 0, oX9 qx x_points x_lines x_tide x_isKept x_isMuch x_sum x_once x_twice x_isTermMuch x_nodes x_newMany x_isTooGreat x_come x_foundSet), (qx 5, .inl (Y 0, 40, .inl x_figure))] s.heap := hP
  have wd1 : (Cond.constantLong RX9 122 (9999)).before [.ref (qx 0), .int p1, .int p2].toArray s = true := hts _ (List.mem_of_getElem? (i := 1) rfl)
  have wd2 : (Cond.fieldLink RX9 13 "PairedLinesModel" "figure" "[I").before [.ref (qx 0), .int p1, .int p2].toArray s = true := hts _ (List.mem_of_getElem? (i := 2) rfl)
  have inX9w : ∀ w ∈ u_ws RX9 TX9 37, w ∈ wsX9_set := fun w hw => List.mem_cons_of_mem _ (List.mem_append_right _ (hw))
  have hl := lv_entry ([.ref (qx 0), .int p1, .int p2]) (n := 4) (Nat.le_of_ble_eq_true rfl)
  rw [lg_entry_eq]
  generalize (lg_sl ([.ref (qx 0), .int p1, .int p2]) ++ List.replicate (4 - (lg_sl ([.ref (qx 0), .int p1, .int p2])).length) Slot.unset).toArray = ls at hl ⊢
  have hl : lv_has ls 4 [(0, .ref (qx 0)), (1, .int p1), (2, .int p2)] := hl
  have E0 : ∀ (H : Heap) (locs : List Loc), va_P G vwCl [(qx 0, oX9 qx x_points x_lines x_tide x_isKept x_isMuch x_sum x_once x_twice x_isTermMuch x_nodes x_newMany x_isTooGreat x_come x_foundSet), (qx 5, .inl (Y 0, 40, .inl x_figure))] H → va_D A [(qx 0, oX9 qx x_points x_lines x_tide x_isKept x_isMuch x_sum x_once x_twice x_isTermMuch x_nodes x_newMany x_isTooGreat x_come x_foundSet), (qx 5, .inl (Y 0, 40, .inl x_figure))] → va_S A s.heap H locs → ∀ (ls : Array Slot), lv_has ls 4 [(0, .ref (qx 0)), (1, .int p1), (2, .int p2)] → W p l e (headSpec wsX9_set (rmk 2 46)).room s m [.ref (qx 0), .int p1, .int p2].toArray below meth c H locs 0 0 (MQ below (va_Qi (fun (r : Int32) (_ : Unit) => r = rv) (Pst G (tys Y) [(qx 0, oX9 qx x_points x_lines x_tide x_isKept x_isMuch x_sum x_once x_twice x_isTermMuch x_nodes x_newMany x_isTooGreat x_come x_foundSet), (qx 5, .inl (Y 0, 40, .inl x_figure))] s.heap.size [(qx 0, oX9 qx x_points x_lines x_tide x_isKept x_isMuch x_sum x_once x_twice x_isTermMuch x_nodes x_newMany x_isTooGreat x_come x_foundSet), (qx 5, .inl (Y 0, 40, .inl o_x_figure))]) A) [.ref (qx 0), .int p1, .int p2].toArray s 0 0 A) (F0 m 0 ls []) := by
    intro H locs hP hD hS ls hl
    unfold f_X9_set at hf
    refine lv_aload_n hx hb dX9_set_0 rfl (lv_at hl 0 rfl) ?_
    refine lv_iload_n hx hb dX9_set_1 rfl (lv_at hl 1 rfl) ?_
    obtain ⟨r1, hc, hf⟩ := bd1 hf
    refine cl_i (ws' := [(qx 0, oX9 qx x_points x_lines x_tide x_isKept x_isMuch x_sum x_once x_twice x_isTermMuch x_nodes x_newMany x_isTooGreat x_come x_foundSet), (qx 5, .inl (Y 0, 40, .inl x_figure))]) (wr := [(qx 5, .inl (Y 0, 40, .inl x_figure))]) (rnV (As := [.int p1]) (rest := []) ⟨hx, hb, hml, hown, hts⟩ (c_X9_isLine l G Y H.size qx x_points x_lines x_tide x_isKept x_isMuch x_sum x_once x_twice x_isTermMuch x_nodes x_newMany x_isTooGreat x_come x_foundSet p1 r1 hc) (cwV 1 hts gX9_set_X9_isLine rfl rfl rfl (by decide +kernel) ⟨(Nat.le_of_ble_eq_true rfl), (Nat.le_of_ble_eq_true rfl)⟩) trivial okT hK hP hD [0] rfl rfl (ci := 7) (q0 := 0) rfl rfl rfl rfl hl.1 rfl (Nat.le_of_ble_eq_true rfl) dX9_set_2) hP hD hS hA [0] [1] [1, 0] rfl rfl rfl (by decide) rfl rfl (fun H locs hP hD hS => ?_)
    refine lv_if_eq (tgt := 20) hx hb dX9_set_5 (by decide) (fun c2 => ?_) (fun c2 => ?_)
    · have hf := it hf c2
      refine lv_bipush (v := -2) hx hb dX9_set_20 (by decide) ?_
      obtain ⟨e0, e1⟩ := rt2 hf
      have hP : va_P G vwCl [(qx 0, oX9 qx x_points x_lines x_tide x_isKept x_isMuch x_sum x_once x_twice x_isTermMuch x_nodes x_newMany x_isTooGreat x_come x_foundSet), (qx 5, .inl (Y 0, 40, .inl o_x_figure))] H := by rw [← e1]; exact hP
      have hD : va_D A [(qx 0, oX9 qx x_points x_lines x_tide x_isKept x_isMuch x_sum x_once x_twice x_isTermMuch x_nodes x_newMany x_isTooGreat x_come x_foundSet), (qx 5, .inl (Y 0, 40, .inl o_x_figure))] := by rw [← e1]; exact hD
      exact W.iret (v := (-2 : Int32)) hx hb hr (fun t ht hW => ⟨⟨(-2 : Int32), (), rfl, e0, by rw [ht]; exact hP, va_K.moved hW.alike hK, by rw [hAe]; exact hD⟩, hS.F ht⟩) hS.2.2 dX9_set_22
    · have hf := ie hf c2
      refine lv_iload_n hx hb dX9_set_8 rfl (lv_at hl 2 rfl) ?_
      refine lv_i2l hx hb dX9_set_9 rfl ?_
      refine lv_lconst (v := 0) hx hb dX9_set_10 (by decide) ?_
      refine lv_ldc2 hx hb hown wd1 dX9_set_11 ?_
      obtain ⟨r3, hc, hf⟩ := bd1 hf
      refine cl_i (ws' := [(qx 0, oX9 qx x_points x_lines x_tide x_isKept x_isMuch x_sum x_once x_twice x_isTermMuch x_nodes x_newMany x_isTooGreat x_come x_foundSet), (qx 5, .inl (Y 0, 40, .inl x_figure))]) (wr := [(qx 0, oX9 qx x_points x_lines x_tide x_isKept x_isMuch x_sum x_once x_twice x_isTermMuch x_nodes x_newMany x_isTooGreat x_come x_foundSet), (qx 5, .inl (Y 0, 40, .inl x_figure))]) (rnS (As := [.long p2.toInt64, .long (0 : Int64), .long (9999 : Int64)]) (rest := []) ⟨hx, hb, hml, hown, hts⟩ (c_X9_in l G Y H.size p2.toInt64 (0 : Int64) (9999 : Int64) r3 hc) (va_cwS 3 hts gX9_set_X9_in rfl rfl rfl (by decide +kernel) ⟨(Nat.le_of_ble_eq_true rfl), (Nat.le_of_ble_eq_true rfl)⟩) trivial okT hK hP hD [] rfl rfl rfl hl.1 rfl (Nat.le_of_ble_eq_true rfl) dX9_set_14) hP hD hS hA [] [0, 1] [0, 1] rfl rfl rfl (by decide) rfl rfl (fun H locs hP hD hS => ?_)
      refine lv_if_ne (tgt := 23) hx hb dX9_set_17 (by decide) (fun c4 => ?_) (fun c4 => ?_)
      · have hf := ie hf c4
        refine lv_aload_n hx hb dX9_set_23 rfl (lv_at hl 0 rfl) ?_
        refine va_get (D := G) (ci := 7) (v := .ref (qx 5)) (C := RX9) (T := TX9) (N := 37) hx hb hts inX9w hown hK hP 0 rfl rfl 4 (by decide) wd2 (fun _ h9 => h9) rfl dX9_set_24 ?_
        refine lv_iload_n hx hb dX9_set_27 rfl (lv_at hl 1 rfl) ?_
        obtain ⟨g5, hf⟩ := gd hf
        refine va_iald hx hb hK hP 1 0 rfl rfl g5 dX9_set_28 ?_
        refine lv_topi (fun v6 e_v6 => ?_)
        have hf := nm_at hf e_v6
        refine lv_istore_n (lv' := [(3, .int v6), (0, .ref (qx 0)), (1, .int p1), (2, .int p2)]) hx hb dX9_set_29 rfl hl (by decide) rfl (fun ls hl => ?_)
        refine lv_aload_n hx hb dX9_set_30 rfl (lv_at hl 1 rfl) ?_
        refine va_get (D := G) (ci := 7) (v := .ref (qx 5)) (C := RX9) (T := TX9) (N := 37) hx hb hts inX9w hown hK hP 0 rfl rfl 4 (by decide) wd2 (fun _ h9 => h9) rfl dX9_set_31 ?_
        refine lv_iload_n hx hb dX9_set_34 rfl (lv_at hl 2 rfl) ?_
        refine lv_iload_n hx hb dX9_set_35 rfl (lv_at hl 3 rfl) ?_
        obtain ⟨g7, hf⟩ := gd hf
        refine va_iast hx hb hK hP hD hS 1 0 rfl rfl g7 dX9_set_36 (fun H locs hP hD hS => ?_)
        obtain ⟨v8, e_v8⟩ : ∃ z : Nat → Int32, z = upd x_figure p1.toNatClampNeg p2 := ⟨_, rfl⟩
        have hf := nm_at hf e_v8
        have hP : va_P G vwCl [(qx 0, oX9 qx x_points x_lines x_tide x_isKept x_isMuch x_sum x_once x_twice x_isTermMuch x_nodes x_newMany x_isTooGreat x_come x_foundSet), (qx 5, .inl (Y 0, 40, .inl v8))] H := by rw [e_v8]; exact hP
        have hD : va_D A [(qx 0, oX9 qx x_points x_lines x_tide x_isKept x_isMuch x_sum x_once x_twice x_isTermMuch x_nodes x_newMany x_isTooGreat x_come x_foundSet), (qx 5, .inl (Y 0, 40, .inl v8))] := by rw [e_v8]; exact hD
        refine lv_iload_n hx hb dX9_set_37 rfl (lv_at hl 0 rfl) ?_
        obtain ⟨e0, e1⟩ := rt2 hf
        have hP : va_P G vwCl [(qx 0, oX9 qx x_points x_lines x_tide x_isKept x_isMuch x_sum x_once x_twice x_isTermMuch x_nodes x_newMany x_isTooGreat x_come x_foundSet), (qx 5, .inl (Y 0, 40, .inl o_x_figure))] H := by rw [← e1]; exact hP
        have hD : va_D A [(qx 0, oX9 qx x_points x_lines x_tide x_isKept x_isMuch x_sum x_once x_twice x_isTermMuch x_nodes x_newMany x_isTooGreat x_come x_foundSet), (qx 5, .inl (Y 0, 40, .inl o_x_figure))] := by rw [← e1]; exact hD
        exact W.iret (v := v6) hx hb hr (fun t ht hW => ⟨⟨v6, (), rfl, e0, by rw [ht]; exact hP, va_K.moved hW.alike hK, by rw [hAe]; exact hD⟩, hS.F ht⟩) hS.2.2 dX9_set_38
      · have hf := it hf c4
        refine lv_bipush (v := -2) hx hb dX9_set_20 (by decide) ?_
        obtain ⟨e0, e1⟩ := rt2 hf
        have hP : va_P G vwCl [(qx 0, oX9 qx x_points x_lines x_tide x_isKept x_isMuch x_sum x_once x_twice x_isTermMuch x_nodes x_newMany x_isTooGreat x_come x_foundSet), (qx 5, .inl (Y 0, 40, .inl o_x_figure))] H := by rw [← e1]; exact hP
        have hD : va_D A [(qx 0, oX9 qx x_points x_lines x_tide x_isKept x_isMuch x_sum x_once x_twice x_isTermMuch x_nodes x_newMany x_isTooGreat x_come x_foundSet), (qx 5, .inl (Y 0, 40, .inl o_x_figure))] := by rw [← e1]; exact hD
        exact W.iret (v := (-2 : Int32)) hx hb hr (fun t ht hW => ⟨⟨(-2 : Int32), (), rfl, e0, by rw [ht]; exact hP, va_K.moved hW.alike hK, by rw [hAe]; exact hD⟩, hS.F ht⟩) hS.2.2 dX9_set_22
  exact E0 s.heap [] hP hD hS ls hl
