-- X8_isBeyond
set_option maxRecDepth 100000 in
set_option maxHeartbeats 4000000 in
theorem c_X8_isBeyond (l : Launch) (G : va_G) (Y : Nat → ClassId) (sz : Nat) (p1 : Int32) (p2 : Int32) (p3 : Int32) (rv : Int32) (hf : f_X8_isBeyond p1 p2 p3 = some (rv)) : Met l yX8_isBeyond wsX8_isBeyond (rmk 0 0) (va_Pc [.int p1, .int p2, .int p3] (Pre G (tys Y) [] sz xT)) (va_Qi (fun (r : Int32) (_ : Unit) => r = rv) (Pst G (tys Y) [] sz []) (va_A [] sz)) 0 0 (va_A [] sz) := by
  refine Met.ofW (cc := cX8_isBeyond) (maxL := 3) (ret := (some .boolean)) (by decide) rfl ?_
  intro p e s m args below meth c s₁ B hml hv
  obtain ⟨rfl, hsz, hP, hK, hD0, hX⟩ := hv
  have hx := B.exec
  have hb := B.bytes
  have hr := B.returns
  have hts := atoms_spec (ws := wsX8_isBeyond) B.pre
  have hown : s.vm.findClass RX8 = some m.cls := findClass_of_methodNamed B.named
  have hlocks := B.notSynchronized
  subst hsz
  have hD := hD0.self (sz := s.heap.size)
  generalize hAe : va_A [] s.heap.size = A at hD ⊢
  have hA : ∀ q : Nat, s.heap.size ≤ q → A q := fun q h => by rw [← hAe]; exact Or.inr h
  have hS : va_S A s.heap s.heap [] := va_S.rf
  have hP : va_P G vwCl [] s.heap := hP
  have hl := lv_entry ([.int p1, .int p2, .int p3]) (n := 3) (Nat.le_of_ble_eq_true rfl)
  rw [lg_entry_eq]
  generalize (lg_sl ([.int p1, .int p2, .int p3]) ++ List.replicate (3 - (lg_sl ([.int p1, .int p2, .int p3])).length) Slot.unset).toArray = ls at hl ⊢
  have hl : lv_has ls 3 [(0, .int p1), (1, .int p2), (2, .int p3)] := hl
  have E0 : ∀ (H : Heap) (locs : List Loc), va_P G vwCl [] H → va_D A [] → va_S A s.heap H locs → ∀ (ls : Array Slot), lv_has ls 3 [(0, .int p1), (1, .int p2), (2, .int p3)] → W p l e (headSpec wsX8_isBeyond (rmk 0 0)).room s m [.int p1, .int p2, .int p3].toArray below meth c H locs 0 0 (MQ below (va_Qi (fun (r : Int32) (_ : Unit) => r = rv) (Pst G (tys Y) [] s.heap.size []) A) [.int p1, .int p2, .int p3].toArray s 0 0 A) (F0 m 0 ls []) := by
    intro H locs hP hD hS ls hl
    unfold f_X8_isBeyond at hf
    refine lv_iload_n hx hb dX8_isBeyond_0 rfl (lv_at hl 0 rfl) ?_
    refine lv_iload_n hx hb dX8_isBeyond_1 rfl (lv_at hl 1 rfl) ?_
    refine lv_icmp_lt (tgt := 10) hx hb dX8_isBeyond_2 (by decide) (fun c1 => ?_) (fun c1 => ?_)
    · have hf := it hf c1
      refine lv_iconst (v := 1) hx hb dX8_isBeyond_10 (by decide) ?_
      refine lv_goto (tgt := 15) hx hb dX8_isBeyond_11 (by decide) ?_
      have e0 := rt1 hf
      exact W.zret (v := (1 : Int32)) hx hb hr rfl (fun t ht hW => ⟨⟨(1 : Int32), (), rfl, e0, by rw [ht]; exact hP, va_K.moved hW.alike hK, by rw [hAe]; exact hD⟩, hS.F ht⟩) hS.2.2 dX8_isBeyond_15
    · have hf := ie hf c1
      refine lv_iload_n hx hb dX8_isBeyond_5 rfl (lv_at hl 0 rfl) ?_
      refine lv_iload_n hx hb dX8_isBeyond_6 rfl (lv_at hl 2 rfl) ?_
      refine lv_icmp_le (tgt := 14) hx hb dX8_isBeyond_7 (by decide) (fun c2 => ?_) (fun c2 => ?_)
      · have hf := it hf c2
        refine lv_iconst (v := 0) hx hb dX8_isBeyond_14 (by decide) ?_
        have e0 := rt1 hf
        exact W.zret (v := (0 : Int32)) hx hb hr rfl (fun t ht hW => ⟨⟨(0 : Int32), (), rfl, e0, by rw [ht]; exact hP, va_K.moved hW.alike hK, by rw [hAe]; exact hD⟩, hS.F ht⟩) hS.2.2 dX8_isBeyond_15
      · have hf := ie hf c2
        refine lv_iconst (v := 1) hx hb dX8_isBeyond_10 (by decide) ?_
        refine lv_goto (tgt := 15) hx hb dX8_isBeyond_11 (by decide) ?_
        have e0 := rt1 hf
        exact W.zret (v := (1 : Int32)) hx hb hr rfl (fun t ht hW => ⟨⟨(1 : Int32), (), rfl, e0, by rw [ht]; exact hP, va_K.moved hW.alike hK, by rw [hAe]; exact hD⟩, hS.F ht⟩) hS.2.2 dX8_isBeyond_15
  exact E0 s.heap [] hP hD hS ls hl
-- X8_weightBy
set_option maxRecDepth 100000 in
set_option maxHeartbeats 4000000 in
theorem c_X8_weightBy (l : Launch) (G : va_G) (Y : Nat → ClassId) (sz : Nat) (p1 : Int32) (p2 : Int32) (p3 : Int32) (rv : Int32) (hf : f_X8_weightBy p1 p2 p3 = some (rv)) : Met l yX8_weightBy wsX8_weightBy (rmk 1 21) (va_Pc [.int p1, .int p2, .int p3] (Pre G (tys Y) [] sz xT)) (va_Qi (fun (r : Int32) (_ : Unit) => r = rv) (Pst G (tys Y) [] sz []) (va_A [] sz)) 0 0 (va_A [] sz) := by
  refine Met.ofW (cc := cX8_weightBy) (maxL := 3) (ret := (some .int)) (by decide) rfl ?_
  intro p e s m args below meth c s₁ B hml hv
  obtain ⟨rfl, hsz, hP, hK, hD0, hX⟩ := hv
  have hx := B.exec
  have hb := B.bytes
  have hr := B.returns
  have hts := atoms_spec (ws := wsX8_weightBy) B.pre
  have hown : s.vm.findClass RX8 = some m.cls := findClass_of_methodNamed B.named
  have hlocks := B.notSynchronized
  subst hsz
  have hD := hD0.self (sz := s.heap.size)
  generalize hAe : va_A [] s.heap.size = A at hD ⊢
  have hA : ∀ q : Nat, s.heap.size ≤ q → A q := fun q h => by rw [← hAe]; exact Or.inr h
  have hS : va_S A s.heap s.heap [] := va_S.rf
  have hP : va_P G vwCl [] s.heap := hP
  have wd1 : (Cond.methodLink RX8 353 Lib.Math.max.name).before [.int p1, .int p2, .int p3].toArray s = true := hts _ (List.mem_of_getElem? (i := 1) rfl)
  have wd2 : (Cond.static Lib.Math.max.name).before [.int p1, .int p2, .int p3].toArray s = true := hts _ (List.mem_of_getElem? (i := 2) rfl)
  have wd3 : (Cond.initialized "java/lang/Math").before [.int p1, .int p2, .int p3].toArray s = true := hts _ (List.mem_of_getElem? (i := 3) rfl)
  have wd4 : (Cond.code Lib.Math.max.name Lib.Math.max.code 2 (some .int)).before [.int p1, .int p2, .int p3].toArray s = true := hts _ (List.mem_of_getElem? (i := 4) rfl)
  have hl := lv_entry ([.int p1, .int p2, .int p3]) (n := 3) (Nat.le_of_ble_eq_true rfl)
  rw [lg_entry_eq]
  generalize (lg_sl ([.int p1, .int p2, .int p3]) ++ List.replicate (3 - (lg_sl ([.int p1, .int p2, .int p3])).length) Slot.unset).toArray = ls at hl ⊢
  have hl : lv_has ls 3 [(0, .int p1), (1, .int p2), (2, .int p3)] := hl
  have E0 : ∀ (H : Heap) (locs : List Loc), va_P G vwCl [] H → va_D A [] → va_S A s.heap H locs → ∀ (ls : Array Slot), lv_has ls 3 [(0, .int p1), (1, .int p2), (2, .int p3)] → W p l e (headSpec wsX8_weightBy (rmk 1 21)).room s m [.int p1, .int p2, .int p3].toArray below meth c H locs 0 0 (MQ below (va_Qi (fun (r : Int32) (_ : Unit) => r = rv) (Pst G (tys Y) [] s.heap.size []) A) [.int p1, .int p2, .int p3].toArray s 0 0 A) (F0 m 0 ls []) := by
    intro H locs hP hD hS ls hl
    unfold f_X8_weightBy at hf
    refine lv_iload_n hx hb dX8_weightBy_0 rfl (lv_at hl 0 rfl) ?_
    by_cases c1 : p1 = 1
    · have hf := it hf c1
      refine lv_tableIn (tgt := 36) hx hb dX8_weightBy_1 (by rw [c1]; decide) (by rw [c1]; decide) (off := 35) (by rw [c1]; rfl) (by decide) ?_
      refine lv_iconst (v := 2) hx hb dX8_weightBy_36 (by decide) ?_
      refine lv_iload_n hx hb dX8_weightBy_37 rfl (lv_at hl 1 rfl) ?_
      refine lv_imul hx hb dX8_weightBy_38 ?_
      have e0 := rt1 hf
      exact W.iret (v := ((2 : Int32) * p2)) hx hb hr (fun t ht hW => ⟨⟨((2 : Int32) * p2), (), rfl, e0, by rw [ht]; exact hP, va_K.moved hW.alike hK, by rw [hAe]; exact hD⟩, hS.F ht⟩) hS.2.2 dX8_weightBy_39
    have hf := ie hf c1
    by_cases c2 : p1 = 2
    · have hf := it hf c2
      refine lv_tableIn (tgt := 40) hx hb dX8_weightBy_1 (by rw [c2]; decide) (by rw [c2]; decide) (off := 39) (by rw [c2]; rfl) (by decide) ?_
      refine lv_iconst (v := 0) hx hb dX8_weightBy_40 (by decide) ?_
      refine lv_iload_n hx hb dX8_weightBy_41 rfl (lv_at hl 1 rfl) ?_
      refine lv_iload_n hx hb dX8_weightBy_42 rfl (lv_at hl 2 rfl) ?_
      refine lv_isub hx hb dX8_weightBy_43 ?_
      refine va_mmax hx hb (hml.trans hl.1.symm) hown wd1 wd2 wd3 wd4 (Nat.le_of_ble_eq_true rfl) (Nat.le_of_ble_eq_true rfl) (Nat.zero_le _) (Nat.zero_le _) dX8_weightBy_44 ?_
      have e0 := rt1 hf
      exact W.iret (v := (if (0 : Int32) < (p2 - p3) then (p2 - p3) else (0 : Int32))) hx hb hr (fun t ht hW => ⟨⟨(if (0 : Int32) < (p2 - p3) then (p2 - p3) else (0 : Int32)), (), rfl, e0, by rw [ht]; exact hP, va_K.moved hW.alike hK, by rw [hAe]; exact hD⟩, hS.F ht⟩) hS.2.2 dX8_weightBy_47
    have hf := ie hf c2
    by_cases c3 : p1 = 3
    · have hf := it hf c3
      refine lv_tableIn (tgt := 48) hx hb dX8_weightBy_1 (by rw [c3]; decide) (by rw [c3]; decide) (off := 47) (by rw [c3]; rfl) (by decide) ?_
      refine lv_iconst (v := 2) hx hb dX8_weightBy_48 (by decide) ?_
      refine lv_iload_n hx hb dX8_weightBy_49 rfl (lv_at hl 1 rfl) ?_
      refine lv_imul hx hb dX8_weightBy_50 ?_
      refine lv_iload_n hx hb dX8_weightBy_51 rfl (lv_at hl 2 rfl) ?_
      refine lv_iadd hx hb dX8_weightBy_52 ?_
      have e0 := rt1 hf
      exact W.iret (v := (((2 : Int32) * p2) + p3)) hx hb hr (fun t ht hW => ⟨⟨(((2 : Int32) * p2) + p3), (), rfl, e0, by rw [ht]; exact hP, va_K.moved hW.alike hK, by rw [hAe]; exact hD⟩, hS.F ht⟩) hS.2.2 dX8_weightBy_53
    have hf := ie hf c3
    by_cases c4 : p1 = 4
    · have hf := it hf c4
      refine lv_tableIn (tgt := 54) hx hb dX8_weightBy_1 (by rw [c4]; decide) (by rw [c4]; decide) (off := 53) (by rw [c4]; rfl) (by decide) ?_
      refine lv_iconst (v := 0) hx hb dX8_weightBy_54 (by decide) ?_
      refine lv_iload_n hx hb dX8_weightBy_55 rfl (lv_at hl 1 rfl) ?_
      refine lv_iload_n hx hb dX8_weightBy_56 rfl (lv_at hl 2 rfl) ?_
      refine lv_isub hx hb dX8_weightBy_57 ?_
      refine va_mmax hx hb (hml.trans hl.1.symm) hown wd1 wd2 wd3 wd4 (Nat.le_of_ble_eq_true rfl) (Nat.le_of_ble_eq_true rfl) (Nat.zero_le _) (Nat.zero_le _) dX8_weightBy_58 ?_
      refine lv_iconst (v := 2) hx hb dX8_weightBy_61 (by decide) ?_
      obtain ⟨g5, hf⟩ := gd hf
      refine lv_idiv hx hb dX8_weightBy_62 g5 ?_
      have e0 := rt1 hf
      exact W.iret (v := ((if (0 : Int32) < (p2 - p3) then (p2 - p3) else (0 : Int32)) / (2 : Int32))) hx hb hr (fun t ht hW => ⟨⟨((if (0 : Int32) < (p2 - p3) then (p2 - p3) else (0 : Int32)) / (2 : Int32)), (), rfl, e0, by rw [ht]; exact hP, va_K.moved hW.alike hK, by rw [hAe]; exact hD⟩, hS.F ht⟩) hS.2.2 dX8_weightBy_63
    have hf := ie hf c4
    by_cases c6 : p1 = 5
    · have hf := it hf c6
      refine lv_tableIn (tgt := 64) hx hb dX8_weightBy_1 (by rw [c6]; decide) (by rw [c6]; decide) (off := 63) (by rw [c6]; rfl) (by decide) ?_
      refine lv_iload_n hx hb dX8_weightBy_64 rfl (lv_at hl 2 rfl) ?_
      refine lv_iconst (v := 2) hx hb dX8_weightBy_65 (by decide) ?_
      obtain ⟨g7, hf⟩ := gd hf
      refine lv_irem hx hb dX8_weightBy_66 g7 ?_
      refine lv_if_ne (tgt := 74) hx hb dX8_weightBy_67 (by decide) (fun c8 => ?_) (fun c8 => ?_)
      · have hf := ie hf c8
        refine lv_iconst (v := 1) hx hb dX8_weightBy_74 (by decide) ?_
        have e0 := rt1 hf
        exact W.iret (v := (1 : Int32)) hx hb hr (fun t ht hW => ⟨⟨(1 : Int32), (), rfl, e0, by rw [ht]; exact hP, va_K.moved hW.alike hK, by rw [hAe]; exact hD⟩, hS.F ht⟩) hS.2.2 dX8_weightBy_75
      · have hf := it hf c8
        refine lv_iload_n hx hb dX8_weightBy_70 rfl (lv_at hl 1 rfl) ?_
        refine lv_goto (tgt := 75) hx hb dX8_weightBy_71 (by decide) ?_
        have e0 := rt1 hf
        exact W.iret (v := p2) hx hb hr (fun t ht hW => ⟨⟨p2, (), rfl, e0, by rw [ht]; exact hP, va_K.moved hW.alike hK, by rw [hAe]; exact hD⟩, hS.F ht⟩) hS.2.2 dX8_weightBy_75
    have hf := ie hf c6
    have t_c1 : ¬ p1.toInt = 1 := lv_neT c1 (by decide)
    have t_c2 : ¬ p1.toInt = 2 := lv_neT c2 (by decide)
    have t_c3 : ¬ p1.toInt = 3 := lv_neT c3 (by decide)
    have t_c4 : ¬ p1.toInt = 4 := lv_neT c4 (by decide)
    have t_c6 : ¬ p1.toInt = 5 := lv_neT c6 (by decide)
    refine lv_tableOut (tgt := 76) hx hb dX8_weightBy_1 (by omega) (by decide) ?_
    refine lv_iload_n hx hb dX8_weightBy_76 rfl (lv_at hl 1 rfl) ?_
    have e0 := rt1 hf
    exact W.iret (v := p2) hx hb hr (fun t ht hW => ⟨⟨p2, (), rfl, e0, by rw [ht]; exact hP, va_K.moved hW.alike hK, by rw [hAe]; exact hD⟩, hS.F ht⟩) hS.2.2 dX8_weightBy_77
  exact E0 s.heap [] hP hD hS ls hl
