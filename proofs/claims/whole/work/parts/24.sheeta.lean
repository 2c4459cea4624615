-- X3_begin
set_option maxRecDepth 100000 in
set_option maxHeartbeats 4000000 in
theorem c_X3_begin (l : Launch) (G : va_G) (Y : Nat → ClassId) (sz : Nat) (qs : Nat → Nat) (s_ints : Nat → Int32) (s_longs : Nat → Int64) (s_floats : Nat → UInt32) (s_doubles : Nat → UInt64) (s_signs : Nat → Int32) (s_sort : Int32) (s_size : Int32) (p1 : Int32) (p2 : Int32) (o_s_ints : Nat → Int32) (o_s_longs : Nat → Int64) (o_s_floats : Nat → UInt32) (o_s_doubles : Nat → UInt64) (o_s_signs : Nat → Int32) (o_s_sort : Int32) (o_s_size : Int32) (hf : f_X3_begin s_ints s_longs s_floats s_doubles s_signs s_sort s_size p1 p2 = some (o_s_ints, o_s_longs, o_s_floats, o_s_doubles, o_s_signs, o_s_sort, o_s_size)) : Met l yX3_begin wsX3_begin (rmk 0 0) (va_Pc [.ref (qs 0), .int p1, .int p2] (Pre G (tys Y) [(qs 0, oX3 qs s_sort s_size), (qs 1, .inl (Y 0, 60, .inl s_ints)), (qs 2, .inl (Y 1, 60, .inr (.inl s_longs))), (qs 3, .inl (Y 2, 60, .inr (.inr (.inl s_floats)))), (qs 4, .inl (Y 3, 60, .inr (.inr (.inr (.inl s_doubles))))), (qs 5, .inl (Y 0, 60, .inl s_signs))] sz xT)) (va_Qv (fun (_ : Unit) => True) (Pst G (tys Y) [(qs 0, oX3 qs s_sort s_size), (qs 1, .inl (Y 0, 60, .inl s_ints)), (qs 2, .inl (Y 1, 60, .inr (.inl s_longs))), (qs 3, .inl (Y 2, 60, .inr (.inr (.inl s_floats)))), (qs 4, .inl (Y 3, 60, .inr (.inr (.inr (.inl s_doubles))))), (qs 5, .inl (Y 0, 60, .inl s_signs))] sz [(qs 0, oX3 qs o_s_sort o_s_size), (qs 1, .inl (Y 0, 60, .inl o_s_ints)), (qs 2, .inl (Y 1, 60, .inr (.inl o_s_longs))), (qs 3, .inl (Y 2, 60, .inr (.inr (.inl o_s_floats)))), (qs 4, .inl (Y 3, 60, .inr (.inr (.inr (.inl o_s_doubles))))), (qs 5, .inl (Y 0, 60, .inl o_s_signs))]) (va_A [(qs 0, oX3 qs s_sort s_size), (qs 1, .inl (Y 0, 60, .inl s_ints)), (qs 2, .inl (Y 1, 60, .inr (.inl s_longs))), (qs 3, .inl (Y 2, 60, .inr (.inr (.inl s_floats)))), (qs 4, .inl (Y 3, 60, .inr (.inr (.inr (.inl s_doubles))))), (qs 5, .inl (Y 0, 60, .inl s_signs))] sz)) 0 0 (va_A [(qs 0, oX3 qs s_sort s_size), (qs 1, .inl (Y 0, 60, .inl s_ints)), (qs 2, .inl (Y 1, 60, .inr (.inl s_longs))), (qs 3, .inl (Y 2, 60, .inr (.inr (.inl s_floats)))), (qs 4, .inl (Y 3, 60, .inr (.inr (.inr (.inl s_doubles))))), (qs 5, .inl (Y 0, 60, .inl s_signs))] sz) := by
  refine Met.ofW (cc := cX3_begin) (maxL := 4) (ret := none) (by decide) rfl ?_
  intro p e s m args below meth c s₁ B hml hv
  obtain ⟨rfl, hsz, hP, hK, hD0, hX⟩ := hv
  have hx := B.exec
  have hb := B.bytes
  have hr := B.returns
  have hts := atoms_spec (ws := wsX3_begin) B.pre
  have hown : s.vm.findClass RX3 = some m.cls := findClass_of_methodNamed B.named
  have hlocks := B.notSynchronized
  subst hsz
  have hD := hD0.self (sz := s.heap.size)
  generalize hAe : va_A [(qs 0, oX3 qs s_sort s_size), (qs 1, .inl (Y 0, 60, .inl s_ints)), (qs 2, .inl (Y 1, 60, .inr (.inl s_longs))), (qs 3, .inl (Y 2, 60, .inr (.inr (.inl s_floats)))), (qs 4, .inl (Y 3, 60, .inr (.inr (.inr (.inl s_doubles))))), (qs 5, .inl (Y 0, 60, .inl s_signs))] s.heap.size = A at hD ⊢
  have hA : ∀ q : Nat, s.heap.size ≤ q → A q := fun q h => by rw [← hAe]; exact Or.inr h
  have hS : va_S A s.heap s.heap [] := va_S.rf
  have hP : va_P G vwCl [(qs 0, oX3 qs s_sort s_size), (qs 1, .inl (Y 0, 60, .inl s_ints)), (qs 2, .inl (Y 1, 60, .inr (.inl s_longs))), (qs 3, .inl (Y 2, 60, .inr (.inr (.inl s_floats)))), (qs 4, .inl (Y 3, 60, .inr (.inr (.inr (.inl s_doubles))))), (qs 5, .inl (Y 0, 60, .inl s_signs))] s.heap := hP
  have wd1 : (Cond.fieldLink RX3 30 "PairedLines$Sheet" "sort" "I").before [.ref (qs 0), .int p1, .int p2].toArray s = true := hts _ (List.mem_of_getElem? (i := 1) rfl)
  have wd2 : (Cond.fieldLink RX3 34 "PairedLines$Sheet" "size" "I").before [.ref (qs 0), .int p1, .int p2].toArray s = true := hts _ (List.mem_of_getElem? (i := 2) rfl)
  have wd3 : (Cond.fieldLink RX3 9 "PairedLines$Sheet" "ints" "[I").before [.ref (qs 0), .int p1, .int p2].toArray s = true := hts _ (List.mem_of_getElem? (i := 3) rfl)
  have wd4 : (Cond.fieldLink RX3 15 "PairedLines$Sheet" "longs" "[J").before [.ref (qs 0), .int p1, .int p2].toArray s = true := hts _ (List.mem_of_getElem? (i := 4) rfl)
  have wd5 : (Cond.fieldLink RX3 19 "PairedLines$Sheet" "floats" "[F").before [.ref (qs 0), .int p1, .int p2].toArray s = true := hts _ (List.mem_of_getElem? (i := 5) rfl)
  have wd6 : (Cond.fieldLink RX3 23 "PairedLines$Sheet" "doubles" "[D").before [.ref (qs 0), .int p1, .int p2].toArray s = true := hts _ (List.mem_of_getElem? (i := 6) rfl)
  have wd7 : (Cond.fieldLink RX3 27 "PairedLines$Sheet" "signs" "[I").before [.ref (qs 0), .int p1, .int p2].toArray s = true := hts _ (List.mem_of_getElem? (i := 7) rfl)
  have inX3w : ∀ w ∈ u_ws RX3 TX3 7, w ∈ wsX3_begin := fun w hw => List.mem_cons_of_mem _ (List.mem_append_right _ (hw))
  have hl := lv_entry ([.ref (qs 0), .int p1, .int p2]) (n := 4) (Nat.le_of_ble_eq_true rfl)
  rw [lg_entry_eq]
  generalize (lg_sl ([.ref (qs 0), .int p1, .int p2]) ++ List.replicate (4 - (lg_sl ([.ref (qs 0), .int p1, .int p2])).length) Slot.unset).toArray = ls at hl ⊢
  have hl : lv_has ls 4 [(0, .ref (qs 0)), (1, .int p1), (2, .int p2)] := hl
  have B21 : ∀ (n21 : Nat), ∀ (b_s_ints : Nat → Int32) (b_s_longs : Nat → Int64) (b_s_floats : Nat → UInt32) (b_s_doubles : Nat → UInt64) (b_s_signs : Nat → Int32) (b_s_sort : Int32) (b_s_size : Int32) (x3 : Int32), f_X3_begin_b21 p1 p2 n21 b_s_ints b_s_longs b_s_floats b_s_doubles b_s_signs b_s_sort b_s_size x3 = some (o_s_ints, o_s_longs, o_s_floats, o_s_doubles, o_s_signs, o_s_sort, o_s_size) → ∀ (H : Heap) (locs : List Loc), va_P G vwCl [(qs 0, oX3 qs b_s_sort b_s_size), (qs 1, .inl (Y 0, 60, .inl b_s_ints)), (qs 2, .inl (Y 1, 60, .inr (.inl b_s_longs))), (qs 3, .inl (Y 2, 60, .inr (.inr (.inl b_s_floats)))), (qs 4, .inl (Y 3, 60, .inr (.inr (.inr (.inl b_s_doubles))))), (qs 5, .inl (Y 0, 60, .inl b_s_signs))] H → va_D A [(qs 0, oX3 qs b_s_sort b_s_size), (qs 1, .inl (Y 0, 60, .inl b_s_ints)), (qs 2, .inl (Y 1, 60, .inr (.inl b_s_longs))), (qs 3, .inl (Y 2, 60, .inr (.inr (.inl b_s_floats)))), (qs 4, .inl (Y 3, 60, .inr (.inr (.inr (.inl b_s_doubles))))), (qs 5, .inl (Y 0, 60, .inl b_s_signs))] → va_S A s.heap H locs → ∀ (ls : Array Slot), lv_has ls 4 [(0, .ref (qs 0)), (3, .int x3)] → W p l e (headSpec wsX3_begin (rmk 0 0)).room s m [.ref (qs 0), .int p1, .int p2].toArray below meth c H locs 0 0 (MQ below (va_Qv (fun (_ : Unit) => True) (Pst G (tys Y) [(qs 0, oX3 qs s_sort s_size), (qs 1, .inl (Y 0, 60, .inl s_ints)), (qs 2, .inl (Y 1, 60, .inr (.inl s_longs))), (qs 3, .inl (Y 2, 60, .inr (.inr (.inl s_floats)))), (qs 4, .inl (Y 3, 60, .inr (.inr (.inr (.inl s_doubles))))), (qs 5, .inl (Y 0, 60, .inl s_signs))] s.heap.size [(qs 0, oX3 qs o_s_sort o_s_size), (qs 1, .inl (Y 0, 60, .inl o_s_ints)), (qs 2, .inl (Y 1, 60, .inr (.inl o_s_longs))), (qs 3, .inl (Y 2, 60, .inr (.inr (.inl o_s_floats)))), (qs 4, .inl (Y 3, 60, .inr (.inr (.inr (.inl o_s_doubles))))), (qs 5, .inl (Y 0, 60, .inl o_s_signs))]) A) [.ref (qs 0), .int p1, .int p2].toArray s 0 0 A) (F0 m 21 ls []) := by
    intro n21
    induction n21 with
    | zero =>
      intro b_s_ints b_s_longs b_s_floats b_s_doubles b_s_signs b_s_sort b_s_size x3 hf H locs hP hD hS ls hl
      exact no_none hf
    | succ n21 ih21 =>
      intro b_s_ints b_s_longs b_s_floats b_s_doubles b_s_signs b_s_sort b_s_size x3 hf H locs hP hD hS ls hl
      have hf : f_X3_begin_s21 p1 p2 (f_X3_begin_b21 p1 p2  n21) b_s_ints b_s_longs b_s_floats b_s_doubles b_s_signs b_s_sort b_s_size x3 = some (o_s_ints, o_s_longs, o_s_floats, o_s_doubles, o_s_signs, o_s_sort, o_s_size) := hf
      unfold f_X3_begin_s21 at hf
      refine lv_iload_n hx hb dX3_begin_21 rfl (lv_at hl 1 rfl) ?_
      refine lv_bipush (v := 60) hx hb dX3_begin_22 (by decide) ?_
      refine lv_icmp_ge (tgt := 68) hx hb dX3_begin_24 (by decide) (fun c1 => ?_) (fun c1 => ?_)
      · have hf := it hf c1
        obtain ⟨e0, e1, e2, e3, e4, e5, e6⟩ := rt7 hf
        have hP : va_P G vwCl [(qs 0, oX3 qs o_s_sort o_s_size), (qs 1, .inl (Y 0, 60, .inl o_s_ints)), (qs 2, .inl (Y 1, 60, .inr (.inl o_s_longs))), (qs 3, .inl (Y 2, 60, .inr (.inr (.inl o_s_floats)))), (qs 4, .inl (Y 3, 60, .inr (.inr (.inr (.inl o_s_doubles))))), (qs 5, .inl (Y 0, 60, .inl o_s_signs))] H := by rw [← e0, ← e1, ← e2, ← e3, ← e4, ← e5, ← e6]; exact hP
        have hD : va_D A [(qs 0, oX3 qs o_s_sort o_s_size), (qs 1, .inl (Y 0, 60, .inl o_s_ints)), (qs 2, .inl (Y 1, 60, .inr (.inl o_s_longs))), (qs 3, .inl (Y 2, 60, .inr (.inr (.inl o_s_floats)))), (qs 4, .inl (Y 3, 60, .inr (.inr (.inr (.inl o_s_doubles))))), (qs 5, .inl (Y 0, 60, .inl o_s_signs))] := by rw [← e0, ← e1, ← e2, ← e3, ← e4, ← e5, ← e6]; exact hD
        exact W.vret hx hb hr (fun t ht hW => ⟨⟨(), rfl, trivial, by rw [ht]; exact hP, va_K.moved hW.alike hK, by rw [hAe]; exact hD⟩, hS.F ht⟩) hS.2.2 dX3_begin_68
      · have hf := ie hf c1
        refine lv_aload_n hx hb dX3_begin_27 rfl (lv_at hl 0 rfl) ?_
        refine va_get (D := G) (ci := 2) (v := .ref (qs 1)) (C := RX3) (T := TX3) (N := 7) hx hb hts inX3w hown hK hP 0 rfl rfl 0 (by decide) wd3 (fun _ h9 => h9) rfl dX3_begin_28 ?_
        refine lv_iload_n hx hb dX3_begin_31 rfl (lv_at hl 1 rfl) ?_
        refine lv_iconst (v := 0) hx hb dX3_begin_32 (by decide) ?_
        obtain ⟨g2, hf⟩ := gd hf
        refine va_iast hx hb hK hP hD hS 1 0 rfl rfl g2 dX3_begin_33 (fun H locs hP hD hS => ?_)
        obtain ⟨v3, e_v3⟩ : ∃ z : Nat → Int32, z = upd b_s_ints x3.toNatClampNeg (0 : Int32) := ⟨_, rfl⟩
        have hf := nm_at hf e_v3
        have hP : va_P G vwCl [(qs 0, oX3 qs b_s_sort b_s_size), (qs 1, .inl (Y 0, 60, .inl v3)), (qs 2, .inl (Y 1, 60, .inr (.inl b_s_longs))), (qs 3, .inl (Y 2, 60, .inr (.inr (.inl b_s_floats)))), (qs 4, .inl (Y 3, 60, .inr (.inr (.inr (.inl b_s_doubles))))), (qs 5, .inl (Y 0, 60, .inl b_s_signs))] H := by rw [e_v3]; exact hP
        have hD : va_D A [(qs 0, oX3 qs b_s_sort b_s_size), (qs 1, .inl (Y 0, 60, .inl v3)), (qs 2, .inl (Y 1, 60, .inr (.inl b_s_longs))), (qs 3, .inl (Y 2, 60, .inr (.inr (.inl b_s_floats)))), (qs 4, .inl (Y 3, 60, .inr (.inr (.inr (.inl b_s_doubles))))), (qs 5, .inl (Y 0, 60, .inl b_s_signs))] := by rw [e_v3]; exact hD
        refine lv_aload_n hx hb dX3_begin_34 rfl (lv_at hl 0 rfl) ?_
        refine va_get (D := G) (ci := 2) (v := .ref (qs 2)) (C := RX3) (T := TX3) (N := 7) hx hb hts inX3w hown hK hP 0 rfl rfl 1 (by decide) wd4 (fun _ h9 => h9) rfl dX3_begin_35 ?_
        refine lv_iload_n hx hb dX3_begin_38 rfl (lv_at hl 1 rfl) ?_
        refine lv_lconst (v := 0) hx hb dX3_begin_39 (by decide) ?_
        obtain ⟨g4, hf⟩ := gd hf
        refine va_last hx hb hK hP hD hS 2 1 rfl rfl g4 dX3_begin_40 (fun H locs hP hD hS => ?_)
        obtain ⟨v5, e_v5⟩ : ∃ z : Nat → Int64, z = vp_updL b_s_longs x3.toNatClampNeg (0 : Int64) := ⟨_, rfl⟩
        have hf := nm_at hf e_v5
        have hP : va_P G vwCl [(qs 0, oX3 qs b_s_sort b_s_size), (qs 1, .inl (Y 0, 60, .inl v3)), (qs 2, .inl (Y 1, 60, .inr (.inl v5))), (qs 3, .inl (Y 2, 60, .inr (.inr (.inl b_s_floats)))), (qs 4, .inl (Y 3, 60, .inr (.inr (.inr (.inl b_s_doubles))))), (qs 5, .inl (Y 0, 60, .inl b_s_signs))] H := by rw [e_v5]; exact hP
        have hD : va_D A [(qs 0, oX3 qs b_s_sort b_s_size), (qs 1, .inl (Y 0, 60, .inl v3)), (qs 2, .inl (Y 1, 60, .inr (.inl v5))), (qs 3, .inl (Y 2, 60, .inr (.inr (.inl b_s_floats)))), (qs 4, .inl (Y 3, 60, .inr (.inr (.inr (.inl b_s_doubles))))), (qs 5, .inl (Y 0, 60, .inl b_s_signs))] := by rw [e_v5]; exact hD
        refine lv_aload_n hx hb dX3_begin_41 rfl (lv_at hl 0 rfl) ?_
        refine va_get (D := G) (ci := 2) (v := .ref (qs 3)) (C := RX3) (T := TX3) (N := 7) hx hb hts inX3w hown hK hP 0 rfl rfl 2 (by decide) wd5 (fun _ h9 => h9) rfl dX3_begin_42 ?_
        refine lv_iload_n hx hb dX3_begin_45 rfl (lv_at hl 1 rfl) ?_
        refine lv_fconst0 hx hb dX3_begin_46 ?_
        obtain ⟨g6, hf⟩ := gd hf
        refine va_fast hx hb hK hP hD hS 3 2 rfl rfl g6 dX3_begin_47 (fun H locs hP hD hS => ?_)
        obtain ⟨v7, e_v7⟩ : ∃ z : Nat → UInt32, z = vf_upd b_s_floats x3.toNatClampNeg FP.fconst0 := ⟨_, rfl⟩
        have hf := nm_at hf e_v7
        have hP : va_P G vwCl [(qs 0, oX3 qs b_s_sort b_s_size), (qs 1, .inl (Y 0, 60, .inl v3)), (qs 2, .inl (Y 1, 60, .inr (.inl v5))), (qs 3, .inl (Y 2, 60, .inr (.inr (.inl v7)))), (qs 4, .inl (Y 3, 60, .inr (.inr (.inr (.inl b_s_doubles))))), (qs 5, .inl (Y 0, 60, .inl b_s_signs))] H := by rw [e_v7]; exact hP
        have hD : va_D A [(qs 0, oX3 qs b_s_sort b_s_size), (qs 1, .inl (Y 0, 60, .inl v3)), (qs 2, .inl (Y 1, 60, .inr (.inl v5))), (qs 3, .inl (Y 2, 60, .inr (.inr (.inl v7)))), (qs 4, .inl (Y 3, 60, .inr (.inr (.inr (.inl b_s_doubles))))), (qs 5, .inl (Y 0, 60, .inl b_s_signs))] := by rw [e_v7]; exact hD
        refine lv_aload_n hx hb dX3_begin_48 rfl (lv_at hl 0 rfl) ?_
        refine va_get (D := G) (ci := 2) (v := .ref (qs 4)) (C := RX3) (T := TX3) (N := 7) hx hb hts inX3w hown hK hP 0 rfl rfl 3 (by decide) wd6 (fun _ h9 => h9) rfl dX3_begin_49 ?_
        refine lv_iload_n hx hb dX3_begin_52 rfl (lv_at hl 1 rfl) ?_
        refine lv_dconst0 hx hb dX3_begin_53 ?_
        obtain ⟨g8, hf⟩ := gd hf
        refine va_dast hx hb hK hP hD hS 4 3 rfl rfl g8 dX3_begin_54 (fun H locs hP hD hS => ?_)
        obtain ⟨v9, e_v9⟩ : ∃ z : Nat → UInt64, z = vf_upd b_s_doubles x3.toNatClampNeg FP.dconst0 := ⟨_, rfl⟩
        have hf := nm_at hf e_v9
        have hP : va_P G vwCl [(qs 0, oX3 qs b_s_sort b_s_size), (qs 1, .inl (Y 0, 60, .inl v3)), (qs 2, .inl (Y 1, 60, .inr (.inl v5))), (qs 3, .inl (Y 2, 60, .inr (.inr (.inl v7)))), (qs 4, .inl (Y 3, 60, .inr (.inr (.inr (.inl v9))))), (qs 5, .inl (Y 0, 60, .inl b_s_signs))] H := by rw [e_v9]; exact hP
        have hD : va_D A [(qs 0, oX3 qs b_s_sort b_s_size), (qs 1, .inl (Y 0, 60, .inl v3)), (qs 2, .inl (Y 1, 60, .inr (.inl v5))), (qs 3, .inl (Y 2, 60, .inr (.inr (.inl v7)))), (qs 4, .inl (Y 3, 60, .inr (.inr (.inr (.inl v9))))), (qs 5, .inl (Y 0, 60, .inl b_s_signs))] := by rw [e_v9]; exact hD
        refine lv_aload_n hx hb dX3_begin_55 rfl (lv_at hl 0 rfl) ?_
        refine va_get (D := G) (ci := 2) (v := .ref (qs 5)) (C := RX3) (T := TX3) (N := 7) hx hb hts inX3w hown hK hP 0 rfl rfl 4 (by decide) wd7 (fun _ h9 => h9) rfl dX3_begin_56 ?_
        refine lv_iload_n hx hb dX3_begin_59 rfl (lv_at hl 1 rfl) ?_
        refine lv_iconst (v := 0) hx hb dX3_begin_60 (by decide) ?_
        obtain ⟨g10, hf⟩ := gd hf
        refine va_iast hx hb hK hP hD hS 5 0 rfl rfl g10 dX3_begin_61 (fun H locs hP hD hS => ?_)
        obtain ⟨v11, e_v11⟩ : ∃ z : Nat → Int32, z = upd b_s_signs x3.toNatClampNeg (0 : Int32) := ⟨_, rfl⟩
        have hf := nm_at hf e_v11
        have hP : va_P G vwCl [(qs 0, oX3 qs b_s_sort b_s_size), (qs 1, .inl (Y 0, 60, .inl v3)), (qs 2, .inl (Y 1, 60, .inr (.inl v5))), (qs 3, .inl (Y 2, 60, .inr (.inr (.inl v7)))), (qs 4, .inl (Y 3, 60, .inr (.inr (.inr (.inl v9))))), (qs 5, .inl (Y 0, 60, .inl v11))] H := by rw [e_v11]; exact hP
        have hD : va_D A [(qs 0, oX3 qs b_s_sort b_s_size), (qs 1, .inl (Y 0, 60, .inl v3)), (qs 2, .inl (Y 1, 60, .inr (.inl v5))), (qs 3, .inl (Y 2, 60, .inr (.inr (.inl v7)))), (qs 4, .inl (Y 3, 60, .inr (.inr (.inr (.inl v9))))), (qs 5, .inl (Y 0, 60, .inl v11))] := by rw [e_v11]; exact hD
        obtain ⟨v12, e_v12⟩ : ∃ z : Int32, z = (x3 + 1) := ⟨_, rfl⟩
        have hf := nm_at hf e_v12
        refine lv_iinc (v := v12) (lv' := [(3, .int v12), (0, .ref (qs 0))]) hx hb dX3_begin_62 hl (k := 1) rfl (by rw [e_v12]; rfl) (by decide) rfl (fun ls hl => ?_)
        refine lv_goto (tgt := 21) hx hb dX3_begin_65 (by decide) ?_
        exact ih21 v3 v5 v7 v9 v11 b_s_sort b_s_size v12 hf _ _ hP hD hS ls (lv_sub hl [1, 0] rfl)
  have E0 : ∀ (H : Heap) (locs : List Loc), va_P G vwCl [(qs 0, oX3 qs s_sort s_size), (qs 1, .inl (Y 0, 60, .inl s_ints)), (qs 2, .inl (Y 1, 60, .inr (.inl s_longs))), (qs 3, .inl (Y 2, 60, .inr (.inr (.inl s_floats)))), (qs 4, .inl (Y 3, 60, .inr (.inr (.inr (.inl s_doubles))))), (qs 5, .inl (Y 0, 60, .inl s_signs))] H → va_D A [(qs 0, oX3 qs s_sort s_size), (qs 1, .inl (Y 0, 60, .inl s_ints)), (qs 2, .inl (Y 1, 60, .inr (.inl s_longs))), (qs 3, .inl (Y 2, 60, .inr (.inr (.inl s_floats)))), (qs 4, .inl (Y 3, 60, .inr (.inr (.inr (.inl s_doubles))))), (qs 5, .inl (Y 0, 60, .inl s_signs))] → va_S A s.heap H locs → ∀ (ls : Array Slot), lv_has ls 4 [(0, .ref (qs 0)), (1, .int p1), (2, .int p2)] → W p l e (headSpec wsX3_begin (rmk 0 0)).room s m [.ref (qs 0), .int p1, .int p2].toArray below meth c H locs 0 0 (MQ below (va_Qv (fun (_ : Unit) => True) (Pst G (tys Y) [(qs 0, oX3 qs s_sort s_size), (qs 1, .inl (Y 0, 60, .inl s_ints)), (qs 2, .inl (Y 1, 60, .inr (.inl s_longs))), (qs 3, .inl (Y 2, 60, .inr (.inr (.inl s_floats)))), (qs 4, .inl (Y 3, 60, .inr (.inr (.inr (.inl s_doubles))))), (qs 5, .inl (Y 0, 60, .inl s_signs))] s.heap.size [(qs 0, oX3 qs o_s_sort o_s_size), (qs 1, .inl (Y 0, 60, .inl o_s_ints)), (qs 2, .inl (Y 1, 60, .inr (.inl o_s_longs))), (qs 3, .inl (Y 2, 60, .inr (.inr (.inl o_s_floats)))), (qs 4, .inl (Y 3, 60, .inr (.inr (.inr (.inl o_s_doubles))))), (qs 5, .inl (Y 0, 60, .inl o_s_signs))]) A) [.ref (qs 0), .int p1, .int p2].toArray s 0 0 A) (F0 m 0 ls []) := by
    intro H locs hP hD hS ls hl
    unfold f_X3_begin at hf
    refine lv_aload_n hx hb dX3_begin_0 rfl (lv_at hl 0 rfl) ?_
    refine lv_iload_n hx hb dX3_begin_1 rfl (lv_at hl 1 rfl) ?_
    refine va_put (D := G) (ci := 2) (v := .int p1) (ty := .int) (C := RX3) (T := TX3) (N := 7) hx hb hts inX3w tyX3 tyX3_ok nmX3 hown hK hP hD hS 0 rfl rfl 5 (by decide) wd1 (fun _ h9 => h9) rfl (by decide +kernel) rfl rfl (Nat.le_of_ble_eq_true rfl) dX3_begin_2 (fun H locs hP hD hS => ?_)
    have hP : va_P G vwCl [(qs 0, oX3 qs p1 s_size), (qs 1, .inl (Y 0, 60, .inl s_ints)), (qs 2, .inl (Y 1, 60, .inr (.inl s_longs))), (qs 3, .inl (Y 2, 60, .inr (.inr (.inl s_floats)))), (qs 4, .inl (Y 3, 60, .inr (.inr (.inr (.inl s_doubles))))), (qs 5, .inl (Y 0, 60, .inl s_signs))] H := hP
    have hD : va_D A [(qs 0, oX3 qs p1 s_size), (qs 1, .inl (Y 0, 60, .inl s_ints)), (qs 2, .inl (Y 1, 60, .inr (.inl s_longs))), (qs 3, .inl (Y 2, 60, .inr (.inr (.inl s_floats)))), (qs 4, .inl (Y 3, 60, .inr (.inr (.inr (.inl s_doubles))))), (qs 5, .inl (Y 0, 60, .inl s_signs))] := hD
    refine lv_aload_n hx hb dX3_begin_5 rfl (lv_at hl 0 rfl) ?_
    refine lv_iload_n hx hb dX3_begin_6 rfl (lv_at hl 1 rfl) ?_
    refine lv_iconst (v := -1) hx hb dX3_begin_7 (by decide) ?_
    refine lv_icmp_ne (tgt := 15) hx hb dX3_begin_8 (by decide) (fun c13 => ?_) (fun c13 => ?_)
    · have hf := ie hf c13
      refine lv_iload_n hx hb dX3_begin_15 rfl (lv_at hl 2 rfl) ?_
      refine va_put (D := G) (ci := 2) (v := .int p2) (ty := .int) (C := RX3) (T := TX3) (N := 7) hx hb hts inX3w tyX3 tyX3_ok nmX3 hown hK hP hD hS 0 rfl rfl 6 (by decide) wd2 (fun _ h9 => h9) rfl (by decide +kernel) rfl rfl (Nat.le_of_ble_eq_true rfl) dX3_begin_16 (fun H locs hP hD hS => ?_)
      have hP : va_P G vwCl [(qs 0, oX3 qs p1 p2), (qs 1, .inl (Y 0, 60, .inl s_ints)), (qs 2, .inl (Y 1, 60, .inr (.inl s_longs))), (qs 3, .inl (Y 2, 60, .inr (.inr (.inl s_floats)))), (qs 4, .inl (Y 3, 60, .inr (.inr (.inr (.inl s_doubles))))), (qs 5, .inl (Y 0, 60, .inl s_signs))] H := hP
      have hD : va_D A [(qs 0, oX3 qs p1 p2), (qs 1, .inl (Y 0, 60, .inl s_ints)), (qs 2, .inl (Y 1, 60, .inr (.inl s_longs))), (qs 3, .inl (Y 2, 60, .inr (.inr (.inl s_floats)))), (qs 4, .inl (Y 3, 60, .inr (.inr (.inr (.inl s_doubles))))), (qs 5, .inl (Y 0, 60, .inl s_signs))] := hD
      refine lv_iconst (v := 0) hx hb dX3_begin_19 (by decide) ?_
      refine lv_istore_n (lv' := [(3, .int (0 : Int32)), (0, .ref (qs 0)), (1, .int p1), (2, .int p2)]) hx hb dX3_begin_20 rfl hl (by decide) rfl (fun ls hl => ?_)
      exact B21 70 s_ints s_longs s_floats s_doubles s_signs p1 p2 (0 : Int32) hf _ _ hP hD hS ls (lv_sub hl [1, 0] rfl)
    · have hf := it hf c13
      refine lv_iconst (v := 0) hx hb dX3_begin_11 (by decide) ?_
      refine lv_goto (tgt := 16) hx hb dX3_begin_12 (by decide) ?_
      refine va_put (D := G) (ci := 2) (v := .int (0 : Int32)) (ty := .int) (C := RX3) (T := TX3) (N := 7) hx hb hts inX3w tyX3 tyX3_ok nmX3 hown hK hP hD hS 0 rfl rfl 6 (by decide) wd2 (fun _ h9 => h9) rfl (by decide +kernel) rfl rfl (Nat.le_of_ble_eq_true rfl) dX3_begin_16 (fun H locs hP hD hS => ?_)
      have hP : va_P G vwCl [(qs 0, oX3 qs p1 (0 : Int32)), (qs 1, .inl (Y 0, 60, .inl s_ints)), (qs 2, .inl (Y 1, 60, .inr (.inl s_longs))), (qs 3, .inl (Y 2, 60, .inr (.inr (.inl s_floats)))), (qs 4, .inl (Y 3, 60, .inr (.inr (.inr (.inl s_doubles))))), (qs 5, .inl (Y 0, 60, .inl s_signs))] H := hP
      have hD : va_D A [(qs 0, oX3 qs p1 (0 : Int32)), (qs 1, .inl (Y 0, 60, .inl s_ints)), (qs 2, .inl (Y 1, 60, .inr (.inl s_longs))), (qs 3, .inl (Y 2, 60, .inr (.inr (.inl s_floats)))), (qs 4, .inl (Y 3, 60, .inr (.inr (.inr (.inl s_doubles))))), (qs 5, .inl (Y 0, 60, .inl s_signs))] := hD
      refine lv_iconst (v := 0) hx hb dX3_begin_19 (by decide) ?_
      refine lv_istore_n (lv' := [(3, .int (0 : Int32)), (0, .ref (qs 0)), (1, .int p1), (2, .int p2)]) hx hb dX3_begin_20 rfl hl (by decide) rfl (fun ls hl => ?_)
      exact B21 70 s_ints s_longs s_floats s_doubles s_signs p1 (0 : Int32) (0 : Int32) hf _ _ hP hD hS ls (lv_sub hl [1, 0] rfl)
  exact E0 s.heap [] hP hD hS ls hl
-- X3_isMissing
set_option maxRecDepth 100000 in
set_option maxHeartbeats 4000000 in
theorem c_X3_isMissing (l : Launch) (G : va_G) (Y : Nat → ClassId) (sz : Nat) (qs : Nat → Nat) (s_sort : Int32) (s_size : Int32) (rv : Int32) (hf : f_X3_isMissing s_sort = some (rv)) : Met l yX3_isMissing wsX3_isMissing (rmk 0 0) (va_Pc [.ref (qs 0)] (Pre G (tys Y) [(qs 0, oX3 qs s_sort s_size)] sz xT)) (va_Qi (fun (r : Int32) (_ : Unit) => r = rv) (Pst G (tys Y) [(qs 0, oX3 qs s_sort s_size)] sz [(qs 0, oX3 qs s_sort s_size)]) (va_A [(qs 0, oX3 qs s_sort s_size)] sz)) 0 0 (va_A [(qs 0, oX3 qs s_sort s_size)] sz) := by
  refine Met.ofW (cc := cX3_isMissing) (maxL := 1) (ret := (some .boolean)) (by decide) rfl ?_
  intro p e s m args below meth c s₁ B hml hv
  obtain ⟨rfl, hsz, hP, hK, hD0, hX⟩ := hv
  have hx := B.exec
  have hb := B.bytes
  have hr := B.returns
  have hts := atoms_spec (ws := wsX3_isMissing) B.pre
  have hown : s.vm.findClass RX3 = some m.cls := findClass_of_methodNamed B.named
  have hlocks := B.notSynchronized
  subst hsz
  have hD := hD0.self (sz := s.heap.size)
  generalize hAe : va_A [(qs 0, oX3 qs s_sort s_size)] s.heap.size = A at hD ⊢
  have hA : ∀ q : Nat, s.heap.size ≤ q → A q := fun q h => by rw [← hAe]; exact Or.inr h
  have hS : va_S A s.heap s.heap [] := va_S.rf
  have hP : va_P G vwCl [(qs 0, oX3 qs s_sort s_size)] s.heap := hP
  have wd1 : (Cond.fieldLink RX3 30 "PairedLines$Sheet" "sort" "I").before [.ref (qs 0)].toArray s = true := hts _ (List.mem_of_getElem? (i := 1) rfl)
  have inX3w : ∀ w ∈ u_ws RX3 TX3 7, w ∈ wsX3_isMissing := fun w hw => List.mem_cons_of_mem _ (List.mem_append_right _ (hw))
  have hl := lv_entry ([.ref (qs 0)]) (n := 1) (Nat.le_of_ble_eq_true rfl)
  rw [lg_entry_eq]
  generalize (lg_sl ([.ref (qs 0)]) ++ List.replicate (1 - (lg_sl ([.ref (qs 0)])).length) Slot.unset).toArray = ls at hl ⊢
  have hl : lv_has ls 1 [(0, .ref (qs 0))] := hl
  have E0 : ∀ (H : Heap) (locs : List Loc), va_P G vwCl [(qs 0, oX3 qs s_sort s_size)] H → va_D A [(qs 0, oX3 qs s_sort s_size)] → va_S A s.heap H locs → ∀ (ls : Array Slot), lv_has ls 1 [(0, .ref (qs 0))] → W p l e (headSpec wsX3_isMissing (rmk 0 0)).room s m [.ref (qs 0)].toArray below meth c H locs 0 0 (MQ below (va_Qi (fun (r : Int32) (_ : Unit) => r = rv) (Pst G (tys Y) [(qs 0, oX3 qs s_sort s_size)] s.heap.size [(qs 0, oX3 qs s_sort s_size)]) A) [.ref (qs 0)].toArray s 0 0 A) (F0 m 0 ls []) := by
    intro H locs hP hD hS ls hl
    unfold f_X3_isMissing at hf
    refine lv_aload_n hx hb dX3_isMissing_0 rfl (lv_at hl 0 rfl) ?_
    refine va_get (D := G) (ci := 2) (v := .int s_sort) (C := RX3) (T := TX3) (N := 7) hx hb hts inX3w hown hK hP 0 rfl rfl 5 (by decide) wd1 (fun _ h9 => h9) rfl dX3_isMissing_1 ?_
    refine lv_iconst (v := -1) hx hb dX3_isMissing_4 (by decide) ?_
    refine lv_icmp_ne (tgt := 12) hx hb dX3_isMissing_5 (by decide) (fun c1 => ?_) (fun c1 => ?_)
    · have hf := ie hf c1
      refine lv_iconst (v := 0) hx hb dX3_isMissing_12 (by decide) ?_
      have e0 := rt1 hf
      exact W.zret (v := (0 : Int32)) hx hb hr rfl (fun t ht hW => ⟨⟨(0 : Int32), (), rfl, e0, by rw [ht]; exact hP, va_K.moved hW.alike hK, by rw [hAe]; exact hD⟩, hS.F ht⟩) hS.2.2 dX3_isMissing_13
    · have hf := it hf c1
      refine lv_iconst (v := 1) hx hb dX3_isMissing_8 (by decide) ?_
      refine lv_goto (tgt := 13) hx hb dX3_isMissing_9 (by decide) ?_
      have e0 := rt1 hf
      exact W.zret (v := (1 : Int32)) hx hb hr rfl (fun t ht hW => ⟨⟨(1 : Int32), (), rfl, e0, by rw [ht]; exact hP, va_K.moved hW.alike hK, by rw [hAe]; exact hD⟩, hS.F ht⟩) hS.2.2 dX3_isMissing_13
  exact E0 s.heap [] hP hD hS ls hl
-- X3_hasPlace
set_option maxRecDepth 100000 in
set_option maxHeartbeats 4000000 in
theorem c_X3_hasPlace (l : Launch) (G : va_G) (Y : Nat → ClassId) (sz : Nat) (qs : Nat → Nat) (s_sort : Int32) (s_size : Int32) (p1 : Int32) (rv : Int32) (hf : f_X3_hasPlace s_size p1 = some (rv)) : Met l yX3_hasPlace wsX3_hasPlace (rmk 0 0) (va_Pc [.ref (qs 0), .int p1] (Pre G (tys Y) [(qs 0, oX3 qs s_sort s_size)] sz xT)) (va_Qi (fun (r : Int32) (_ : Unit) => r = rv) (Pst G (tys Y) [(qs 0, oX3 qs s_sort s_size)] sz [(qs 0, oX3 qs s_sort s_size)]) (va_A [(qs 0, oX3 qs s_sort s_size)] sz)) 0 0 (va_A [(qs 0, oX3 qs s_sort s_size)] sz) := by
  refine Met.ofW (cc := cX3_hasPlace) (maxL := 2) (ret := (some .boolean)) (by decide) rfl ?_
  intro p e s m args below meth c s₁ B hml hv
  obtain ⟨rfl, hsz, hP, hK, hD0, hX⟩ := hv
  have hx := B.exec
  have hb := B.bytes
  have hr := B.returns
  have hts := atoms_spec (ws := wsX3_hasPlace) B.pre
  have hown : s.vm.findClass RX3 = some m.cls := findClass_of_methodNamed B.named
  have hlocks := B.notSynchronized
  subst hsz
  have hD := hD0.self (sz := s.heap.size)
  generalize hAe : va_A [(qs 0, oX3 qs s_sort s_size)] s.heap.size = A at hD ⊢
  have hA : ∀ q : Nat, s.heap.size ≤ q → A q := fun q h => by rw [← hAe]; exact Or.inr h
  have hS : va_S A s.heap s.heap [] := va_S.rf
  have hP : va_P G vwCl [(qs 0, oX3 qs s_sort s_size)] s.heap := hP
  have wd1 : (Cond.fieldLink RX3 34 "PairedLines$Sheet" "size" "I").before [.ref (qs 0), .int p1].toArray s = true := hts _ (List.mem_of_getElem? (i := 1) rfl)
  have inX3w : ∀ w ∈ u_ws RX3 TX3 7, w ∈ wsX3_hasPlace := fun w hw => List.mem_cons_of_mem _ (List.mem_append_right _ (hw))
  have hl := lv_entry ([.ref (qs 0), .int p1]) (n := 2) (Nat.le_of_ble_eq_true rfl)
  rw [lg_entry_eq]
  generalize (lg_sl ([.ref (qs 0), .int p1]) ++ List.replicate (2 - (lg_sl ([.ref (qs 0), .int p1])).length) Slot.unset).toArray = ls at hl ⊢
  have hl : lv_has ls 2 [(0, .ref (qs 0)), (1, .int p1)] := hl
  have E0 : ∀ (H : Heap) (locs : List Loc), va_P G vwCl [(qs 0, oX3 qs s_sort s_size)] H → va_D A [(qs 0, oX3 qs s_sort s_size)] → va_S A s.heap H locs → ∀ (ls : Array Slot), lv_has ls 2 [(0, .ref (qs 0)), (1, .int p1)] → W p l e (headSpec wsX3_hasPlace (rmk 0 0)).room s m [.ref (qs 0), .int p1].toArray below meth c H locs 0 0 (MQ below (va_Qi (fun (r : Int32) (_ : Unit) => r = rv) (Pst G (tys Y) [(qs 0, oX3 qs s_sort s_size)] s.heap.size [(qs 0, oX3 qs s_sort s_size)]) A) [.ref (qs 0), .int p1].toArray s 0 0 A) (F0 m 0 ls []) := by
    intro H locs hP hD hS ls hl
    unfold f_X3_hasPlace at hf
    refine lv_iload_n hx hb dX3_hasPlace_0 rfl (lv_at hl 1 rfl) ?_
    refine lv_if_lt (tgt := 16) hx hb dX3_hasPlace_1 (by decide) (fun c1 => ?_) (fun c1 => ?_)
    · have hf := it hf c1
      refine lv_iconst (v := 0) hx hb dX3_hasPlace_16 (by decide) ?_
      have e0 := rt1 hf
      exact W.zret (v := (0 : Int32)) hx hb hr rfl (fun t ht hW => ⟨⟨(0 : Int32), (), rfl, e0, by rw [ht]; exact hP, va_K.moved hW.alike hK, by rw [hAe]; exact hD⟩, hS.F ht⟩) hS.2.2 dX3_hasPlace_17
    · have hf := ie hf c1
      refine lv_iload_n hx hb dX3_hasPlace_4 rfl (lv_at hl 1 rfl) ?_
      refine lv_aload_n hx hb dX3_hasPlace_5 rfl (lv_at hl 0 rfl) ?_
      refine va_get (D := G) (ci := 2) (v := .int s_size) (C := RX3) (T := TX3) (N := 7) hx hb hts inX3w hown hK hP 0 rfl rfl 6 (by decide) wd1 (fun _ h9 => h9) rfl dX3_hasPlace_6 ?_
      refine lv_icmp_ge (tgt := 16) hx hb dX3_hasPlace_9 (by decide) (fun c2 => ?_) (fun c2 => ?_)
      · have hf := it hf c2
        refine lv_iconst (v := 0) hx hb dX3_hasPlace_16 (by decide) ?_
        have e0 := rt1 hf
        exact W.zret (v := (0 : Int32)) hx hb hr rfl (fun t ht hW => ⟨⟨(0 : Int32), (), rfl, e0, by rw [ht]; exact hP, va_K.moved hW.alike hK, by rw [hAe]; exact hD⟩, hS.F ht⟩) hS.2.2 dX3_hasPlace_17
      · have hf := ie hf c2
        refine lv_iconst (v := 1) hx hb dX3_hasPlace_12 (by decide) ?_
        refine lv_goto (tgt := 17) hx hb dX3_hasPlace_13 (by decide) ?_
        have e0 := rt1 hf
        exact W.zret (v := (1 : Int32)) hx hb hr rfl (fun t ht hW => ⟨⟨(1 : Int32), (), rfl, e0, by rw [ht]; exact hP, va_K.moved hW.alike hK, by rw [hAe]; exact hD⟩, hS.F ht⟩) hS.2.2 dX3_hasPlace_17
  exact E0 s.heap [] hP hD hS ls hl
-- X3_hasRun
set_option maxRecDepth 100000 in
set_option maxHeartbeats 4000000 in
theorem c_X3_hasRun (l : Launch) (G : va_G) (Y : Nat → ClassId) (sz : Nat) (qs : Nat → Nat) (s_sort : Int32) (s_size : Int32) (p1 : Int32) (p2 : Int32) (rv : Int32) (hf : f_X3_hasRun s_size p1 p2 = some (rv)) : Met l yX3_hasRun wsX3_hasRun (rmk 0 0) (va_Pc [.ref (qs 0), .int p1, .int p2] (Pre G (tys Y) [(qs 0, oX3 qs s_sort s_size)] sz xT)) (va_Qi (fun (r : Int32) (_ : Unit) => r = rv) (Pst G (tys Y) [(qs 0, oX3 qs s_sort s_size)] sz [(qs 0, oX3 qs s_sort s_size)]) (va_A [(qs 0, oX3 qs s_sort s_size)] sz)) 0 0 (va_A [(qs 0, oX3 qs s_sort s_size)] sz) := by
  refine Met.ofW (cc := cX3_hasRun) (maxL := 3) (ret := (some .boolean)) (by decide) rfl ?_
  intro p e s m args below meth c s₁ B hml hv
  obtain ⟨rfl, hsz, hP, hK, hD0, hX⟩ := hv
  have hx := B.exec
  have hb := B.bytes
  have hr := B.returns
  have hts := atoms_spec (ws := wsX3_hasRun) B.pre
  have hown : s.vm.findClass RX3 = some m.cls := findClass_of_methodNamed B.named
  have hlocks := B.notSynchronized
  subst hsz
  have hD := hD0.self (sz := s.heap.size)
  generalize hAe : va_A [(qs 0, oX3 qs s_sort s_size)] s.heap.size = A at hD ⊢
  have hA : ∀ q : Nat, s.heap.size ≤ q → A q := fun q h => by rw [← hAe]; exact Or.inr h
  have hS : va_S A s.heap s.heap [] := va_S.rf
  have hP : va_P G vwCl [(qs 0, oX3 qs s_sort s_size)] s.heap := hP
  have wd1 : (Cond.fieldLink RX3 34 "PairedLines$Sheet" "size" "I").before [.ref (qs 0), .int p1, .int p2].toArray s = true := hts _ (List.mem_of_getElem? (i := 1) rfl)
  have inX3w : ∀ w ∈ u_ws RX3 TX3 7, w ∈ wsX3_hasRun := fun w hw => List.mem_cons_of_mem _ (List.mem_append_right _ (hw))
  have hl := lv_entry ([.ref (qs 0), .int p1, .int p2]) (n := 3) (Nat.le_of_ble_eq_true rfl)
  rw [lg_entry_eq]
  generalize (lg_sl ([.ref (qs 0), .int p1, .int p2]) ++ List.replicate (3 - (lg_sl ([.ref (qs 0), .int p1, .int p2])).length) Slot.unset).toArray = ls at hl ⊢
  have hl : lv_has ls 3 [(0, .ref (qs 0)), (1, .int p1), (2, .int p2)] := hl
  have E0 : ∀ (H : Heap) (locs : List Loc), va_P G vwCl [(qs 0, oX3 qs s_sort s_size)] H → va_D A [(qs 0, oX3 qs s_sort s_size)] → va_S A s.heap H locs → ∀ (ls : Array Slot), lv_has ls 3 [(0, .ref (qs 0)), (1, .int p1), (2, .int p2)] → W p l e (headSpec wsX3_hasRun (rmk 0 0)).room s m [.ref (qs 0), .int p1, .int p2].toArray below meth c H locs 0 0 (MQ below (va_Qi (fun (r : Int32) (_ : Unit) => r = rv) (Pst G (tys Y) [(qs 0, oX3 qs s_sort s_size)] s.heap.size [(qs 0, oX3 qs s_sort s_size)]) A) [.ref (qs 0), .int p1, .int p2].toArray s 0 0 A) (F0 m 0 ls []) := by
    intro H locs hP hD hS ls hl
    unfold f_X3_hasRun at hf
    refine lv_iload_n hx hb dX3_hasRun_0 rfl (lv_at hl 1 rfl) ?_
    refine lv_if_lt (tgt := 30) hx hb dX3_hasRun_1 (by decide) (fun c1 => ?_) (fun c1 => ?_)
    · have hf := it hf c1
      refine lv_iconst (v := 0) hx hb dX3_hasRun_30 (by decide) ?_
      have e0 := rt1 hf
      exact W.zret (v := (0 : Int32)) hx hb hr rfl (fun t ht hW => ⟨⟨(0 : Int32), (), rfl, e0, by rw [ht]; exact hP, va_K.moved hW.alike hK, by rw [hAe]; exact hD⟩, hS.F ht⟩) hS.2.2 dX3_hasRun_31
    · have hf := ie hf c1
      refine lv_iload_n hx hb dX3_hasRun_4 rfl (lv_at hl 2 rfl) ?_
      refine lv_if_lt (tgt := 30) hx hb dX3_hasRun_5 (by decide) (fun c2 => ?_) (fun c2 => ?_)
      · have hf := it hf c2
        refine lv_iconst (v := 0) hx hb dX3_hasRun_30 (by decide) ?_
        have e0 := rt1 hf
        exact W.zret (v := (0 : Int32)) hx hb hr rfl (fun t ht hW => ⟨⟨(0 : Int32), (), rfl, e0, by rw [ht]; exact hP, va_K.moved hW.alike hK, by rw [hAe]; exact hD⟩, hS.F ht⟩) hS.2.2 dX3_hasRun_31
      · have hf := ie hf c2
        refine lv_iload_n hx hb dX3_hasRun_8 rfl (lv_at hl 1 rfl) ?_
        refine lv_aload_n hx hb dX3_hasRun_9 rfl (lv_at hl 0 rfl) ?_
        refine va_get (D := G) (ci := 2) (v := .int s_size) (C := RX3) (T := TX3) (N := 7) hx hb hts inX3w hown hK hP 0 rfl rfl 6 (by decide) wd1 (fun _ h9 => h9) rfl dX3_hasRun_10 ?_
        refine lv_icmp_gt (tgt := 30) hx hb dX3_hasRun_13 (by decide) (fun c3 => ?_) (fun c3 => ?_)
        · have hf := it hf c3
          refine lv_iconst (v := 0) hx hb dX3_hasRun_30 (by decide) ?_
          have e0 := rt1 hf
          exact W.zret (v := (0 : Int32)) hx hb hr rfl (fun t ht hW => ⟨⟨(0 : Int32), (), rfl, e0, by rw [ht]; exact hP, va_K.moved hW.alike hK, by rw [hAe]; exact hD⟩, hS.F ht⟩) hS.2.2 dX3_hasRun_31
        · have hf := ie hf c3
          refine lv_iload_n hx hb dX3_hasRun_16 rfl (lv_at hl 2 rfl) ?_
          refine lv_aload_n hx hb dX3_hasRun_17 rfl (lv_at hl 0 rfl) ?_
          refine va_get (D := G) (ci := 2) (v := .int s_size) (C := RX3) (T := TX3) (N := 7) hx hb hts inX3w hown hK hP 0 rfl rfl 6 (by decide) wd1 (fun _ h9 => h9) rfl dX3_hasRun_18 ?_
          refine lv_iload_n hx hb dX3_hasRun_21 rfl (lv_at hl 1 rfl) ?_
          refine lv_isub hx hb dX3_hasRun_22 ?_
          refine lv_icmp_gt (tgt := 30) hx hb dX3_hasRun_23 (by decide) (fun c4 => ?_) (fun c4 => ?_)
          · have hf := it hf c4
            refine lv_iconst (v := 0) hx hb dX3_hasRun_30 (by decide) ?_
            have e0 := rt1 hf
            exact W.zret (v := (0 : Int32)) hx hb hr rfl (fun t ht hW => ⟨⟨(0 : Int32), (), rfl, e0, by rw [ht]; exact hP, va_K.moved hW.alike hK, by rw [hAe]; exact hD⟩, hS.F ht⟩) hS.2.2 dX3_hasRun_31
          · have hf := ie hf c4
            refine lv_iconst (v := 1) hx hb dX3_hasRun_26 (by decide) ?_
            refine lv_goto (tgt := 31) hx hb dX3_hasRun_27 (by decide) ?_
            have e0 := rt1 hf
            exact W.zret (v := (1 : Int32)) hx hb hr rfl (fun t ht hW => ⟨⟨(1 : Int32), (), rfl, e0, by rw [ht]; exact hP, va_K.moved hW.alike hK, by rw [hAe]; exact hD⟩, hS.F ht⟩) hS.2.2 dX3_hasRun_31
  exact E0 s.heap [] hP hD hS ls hl
-- X3_faultAt
set_option maxRecDepth 100000 in
set_option maxHeartbeats 4000000 in
theorem c_X3_faultAt (l : Launch) (G : va_G) (Y : Nat → ClassId) (sz : Nat) (qs : Nat → Nat) (s_sort : Int32) (s_size : Int32) (p1 : Int32) (rv : Int32) (hf : f_X3_faultAt s_sort s_size p1 = some (rv)) : Met l yX3_faultAt wsX3_faultAt (rmk 1 21) (va_Pc [.ref (qs 0), .int p1] (Pre G (tys Y) [(qs 0, oX3 qs s_sort s_size)] sz xT)) (va_Qi (fun (r : Int32) (_ : Unit) => r = rv) (Pst G (tys Y) [(qs 0, oX3 qs s_sort s_size)] sz [(qs 0, oX3 qs s_sort s_size)]) (va_A [(qs 0, oX3 qs s_sort s_size)] sz)) 0 0 (va_A [(qs 0, oX3 qs s_sort s_size)] sz) := by
  refine Met.ofW (cc := cX3_faultAt) (maxL := 2) (ret := (some .int)) (by decide) rfl ?_
  intro p e s m args below meth c s₁ B hml hv
  obtain ⟨rfl, hsz, hP, hK, hD0, hX⟩ := hv
  have hx := B.exec
  have hb := B.bytes
  have hr := B.returns
  have hts := atoms_spec (ws := wsX3_faultAt) B.pre
  have hown : s.vm.findClass RX3 = some m.cls := findClass_of_methodNamed B.named
  have hlocks := B.notSynchronized
  subst hsz
  have hD := hD0.self (sz := s.heap.size)
  generalize hAe : va_A [(qs 0, oX3 qs s_sort s_size)] s.heap.size = A at hD ⊢
  have hA : ∀ q : Nat, s.heap.size ≤ q → A q := fun q h => by rw [← hAe]; exact Or.inr h
  have hS : va_S A s.heap s.heap [] := va_S.rf
  have hP : va_P G vwCl [(qs 0, oX3 qs s_sort s_size)] s.heap := hP
  have hl := lv_entry ([.ref (qs 0), .int p1]) (n := 2) (Nat.le_of_ble_eq_true rfl)
  rw [lg_entry_eq]
  generalize (lg_sl ([.ref (qs 0), .int p1]) ++ List.replicate (2 - (lg_sl ([.ref (qs 0), .int p1])).length) Slot.unset).toArray = ls at hl ⊢
  have hl : lv_has ls 2 [(0, .ref (qs 0)), (1, .int p1)] := hl
  have E0 : ∀ (H : Heap) (locs : List Loc), va_P G vwCl [(qs 0, oX3 qs s_sort s_size)] H → va_D A [(qs 0, oX3 qs s_sort s_size)] → va_S A s.heap H locs → ∀ (ls : Array Slot), lv_has ls 2 [(0, .ref (qs 0)), (1, .int p1)] → W p l e (headSpec wsX3_faultAt (rmk 1 21)).room s m [.ref (qs 0), .int p1].toArray below meth c H locs 0 0 (MQ below (va_Qi (fun (r : Int32) (_ : Unit) => r = rv) (Pst G (tys Y) [(qs 0, oX3 qs s_sort s_size)] s.heap.size [(qs 0, oX3 qs s_sort s_size)]) A) [.ref (qs 0), .int p1].toArray s 0 0 A) (F0 m 0 ls []) := by
    intro H locs hP hD hS ls hl
    unfold f_X3_faultAt at hf
    refine lv_aload_n hx hb dX3_faultAt_0 rfl (lv_at hl 0 rfl) ?_
    obtain ⟨r1, hc, hf⟩ := bd1 hf
    refine cl_i (ws' := [(qs 0, oX3 qs s_sort s_size)]) (wr := []) (rnV (As := []) (rest := []) ⟨hx, hb, hml, hown, hts⟩ (c_X3_isMissing l G Y H.size qs s_sort s_size r1 hc) (cwV 0 hts gX3_faultAt_X3_isMissing rfl rfl rfl (by decide +kernel) ⟨(Nat.le_of_ble_eq_true rfl), (Nat.le_of_ble_eq_true rfl)⟩) trivial okT hK hP hD [0] rfl rfl (ci := 2) (q0 := 0) rfl rfl rfl rfl hl.1 rfl (Nat.le_of_ble_eq_true rfl) dX3_faultAt_1) hP hD hS hA [0] [] [0] rfl rfl rfl (by decide) rfl rfl (fun H locs hP hD hS => ?_)
    refine lv_if_eq (tgt := 10) hx hb dX3_faultAt_4 (by decide) (fun c2 => ?_) (fun c2 => ?_)
    · have hf := it hf c2
      refine lv_aload_n hx hb dX3_faultAt_10 rfl (lv_at hl 0 rfl) ?_
      refine lv_iload_n hx hb dX3_faultAt_11 rfl (lv_at hl 1 rfl) ?_
      obtain ⟨r3, hc, hf⟩ := bd1 hf
      refine cl_i (ws' := [(qs 0, oX3 qs s_sort s_size)]) (wr := []) (rnV (As := [.int p1]) (rest := []) ⟨hx, hb, hml, hown, hts⟩ (c_X3_hasPlace l G Y H.size qs s_sort s_size p1 r3 hc) (cwV 1 hts gX3_faultAt_X3_hasPlace rfl rfl rfl (by decide +kernel) ⟨(Nat.le_of_ble_eq_true rfl), (Nat.le_of_ble_eq_true rfl)⟩) trivial okT hK hP hD [0] rfl rfl (ci := 2) (q0 := 0) rfl rfl rfl rfl hl.1 rfl (Nat.le_of_ble_eq_true rfl) dX3_faultAt_12) hP hD hS hA [0] [] [0] rfl rfl rfl (by decide) rfl rfl (fun H locs hP hD hS => ?_)
      refine lv_if_eq (tgt := 22) hx hb dX3_faultAt_15 (by decide) (fun c4 => ?_) (fun c4 => ?_)
      · have hf := it hf c4
        refine lv_bipush (v := -12) hx hb dX3_faultAt_22 (by decide) ?_
        have e0 := rt1 hf
        exact W.iret (v := (-12 : Int32)) hx hb hr (fun t ht hW => ⟨⟨(-12 : Int32), (), rfl, e0, by rw [ht]; exact hP, va_K.moved hW.alike hK, by rw [hAe]; exact hD⟩, hS.F ht⟩) hS.2.2 dX3_faultAt_24
      · have hf := ie hf c4
        refine lv_iconst (v := 0) hx hb dX3_faultAt_18 (by decide) ?_
        refine lv_goto (tgt := 24) hx hb dX3_faultAt_19 (by decide) ?_
        have e0 := rt1 hf
        exact W.iret (v := (0 : Int32)) hx hb hr (fun t ht hW => ⟨⟨(0 : Int32), (), rfl, e0, by rw [ht]; exact hP, va_K.moved hW.alike hK, by rw [hAe]; exact hD⟩, hS.F ht⟩) hS.2.2 dX3_faultAt_24
    · have hf := ie hf c2
      refine lv_bipush (v := -11) hx hb dX3_faultAt_7 (by decide) ?_
      have e0 := rt1 hf
      exact W.iret (v := (-11 : Int32)) hx hb hr (fun t ht hW => ⟨⟨(-11 : Int32), (), rfl, e0, by rw [ht]; exact hP, va_K.moved hW.alike hK, by rw [hAe]; exact hD⟩, hS.F ht⟩) hS.2.2 dX3_faultAt_9
  exact E0 s.heap [] hP hD hS ls hl
-- X3_put
set_option maxRecDepth 100000 in
set_option maxHeartbeats 4000000 in
theorem c_X3_put (l : Launch) (G : va_G) (Y : Nat → ClassId) (sz : Nat) (qs : Nat → Nat) (s_ints : Nat → Int32) (s_longs : Nat → Int64) (s_floats : Nat → UInt32) (s_doubles : Nat → UInt64) (s_signs : Nat → Int32) (s_sort : Int32) (s_size : Int32) (p1 : Int32) (p2 : Int64) (rv : Int32) (o_s_ints : Nat → Int32) (o_s_longs : Nat → Int64) (o_s_floats : Nat → UInt32) (o_s_doubles : Nat → UInt64) (o_s_signs : Nat → Int32) (hf : f_X3_put s_ints s_longs s_floats s_doubles s_signs s_sort p1 p2 = some (rv, o_s_ints, o_s_longs, o_s_floats, o_s_doubles, o_s_signs)) : Met l yX3_put wsX3_put (rmk 1 23) (va_Pc [.ref (qs 0), .int p1, .long p2] (Pre G (tys Y) [(qs 0, oX3 qs s_sort s_size), (qs 1, .inl (Y 0, 60, .inl s_ints)), (qs 2, .inl (Y 1, 60, .inr (.inl s_longs))), (qs 3, .inl (Y 2, 60, .inr (.inr (.inl s_floats)))), (qs 4, .inl (Y 3, 60, .inr (.inr (.inr (.inl s_doubles))))), (qs 5, .inl (Y 0, 60, .inl s_signs))] sz xT)) (va_Qi (fun (r : Int32) (_ : Unit) => r = rv) (Pst G (tys Y) [(qs 0, oX3 qs s_sort s_size), (qs 1, .inl (Y 0, 60, .inl s_ints)), (qs 2, .inl (Y 1, 60, .inr (.inl s_longs))), (qs 3, .inl (Y 2, 60, .inr (.inr (.inl s_floats)))), (qs 4, .inl (Y 3, 60, .inr (.inr (.inr (.inl s_doubles))))), (qs 5, .inl (Y 0, 60, .inl s_signs))] sz [(qs 0, oX3 qs s_sort s_size), (qs 1, .inl (Y 0, 60, .inl o_s_ints)), (qs 2, .inl (Y 1, 60, .inr (.inl o_s_longs))), (qs 3, .inl (Y 2, 60, .inr (.inr (.inl o_s_floats)))), (qs 4, .inl (Y 3, 60, .inr (.inr (.inr (.inl o_s_doubles))))), (qs 5, .inl (Y 0, 60, .inl o_s_signs))]) (va_A [(qs 0, oX3 qs s_sort s_size), (qs 1, .inl (Y 0, 60, .inl s_ints)), (qs 2, .inl (Y 1, 60, .inr (.inl s_longs))), (qs 3, .inl (Y 2, 60, .inr (.inr (.inl s_floats)))), (qs 4, .inl (Y 3, 60, .inr (.inr (.inr (.inl s_doubles))))), (qs 5, .inl (Y 0, 60, .inl s_signs))] sz)) 0 0 (va_A [(qs 0, oX3 qs s_sort s_size), (qs 1, .inl (Y 0, 60, .inl s_ints)), (qs 2, .inl (Y 1, 60, .inr (.inl s_longs))), (qs 3, .inl (Y 2, 60, .inr (.inr (.inl s_floats)))), (qs 4, .inl (Y 3, 60, .inr (.inr (.inr (.inl s_doubles))))), (qs 5, .inl (Y 0, 60, .inl s_signs))] sz) := by
  refine Met.ofW (cc := cX3_put) (maxL := 4) (ret := (some .boolean)) (by decide) rfl ?_
  intro p e s m args below meth c s₁ B hml hv
  obtain ⟨rfl, hsz, hP, hK, hD0, hX⟩ := hv
  have hx := B.exec
  have hb := B.bytes
  have hr := B.returns
  have hts := atoms_spec (ws := wsX3_put) B.pre
  have hown : s.vm.findClass RX3 = some m.cls := findClass_of_methodNamed B.named
  have hlocks := B.notSynchronized
  subst hsz
  have hD := hD0.self (sz := s.heap.size)
  generalize hAe : va_A [(qs 0, oX3 qs s_sort s_size), (qs 1, .inl (Y 0, 60, .inl s_ints)), (qs 2, .inl (Y 1, 60, .inr (.inl s_longs))), (qs 3, .inl (Y 2, 60, .inr (.inr (.inl s_floats)))), (qs 4, .inl (Y 3, 60, .inr (.inr (.inr (.inl s_doubles))))), (qs 5, .inl (Y 0, 60, .inl s_signs))] s.heap.size = A at hD ⊢
  have hA : ∀ q : Nat, s.heap.size ≤ q → A q := fun q h => by rw [← hAe]; exact Or.inr h
  have hS : va_S A s.heap s.heap [] := va_S.rf
  have hP : va_P G vwCl [(qs 0, oX3 qs s_sort s_size), (qs 1, .inl (Y 0, 60, .inl s_ints)), (qs 2, .inl (Y 1, 60, .inr (.inl s_longs))), (qs 3, .inl (Y 2, 60, .inr (.inr (.inl s_floats)))), (qs 4, .inl (Y 3, 60, .inr (.inr (.inr (.inl s_doubles))))), (qs 5, .inl (Y 0, 60, .inl s_signs))] s.heap := hP
  have wd1 : (Cond.fieldLink RX3 30 "PairedLines$Sheet" "sort" "I").before [.ref (qs 0), .int p1, .long p2].toArray s = true := hts _ (List.mem_of_getElem? (i := 1) rfl)
  have wd2 : (Cond.fieldLink RX3 27 "PairedLines$Sheet" "signs" "[I").before [.ref (qs 0), .int p1, .long p2].toArray s = true := hts _ (List.mem_of_getElem? (i := 2) rfl)
  have wd3 : (Cond.fieldLink RX3 9 "PairedLines$Sheet" "ints" "[I").before [.ref (qs 0), .int p1, .long p2].toArray s = true := hts _ (List.mem_of_getElem? (i := 3) rfl)
  have wd4 : (Cond.fieldLink RX3 15 "PairedLines$Sheet" "longs" "[J").before [.ref (qs 0), .int p1, .long p2].toArray s = true := hts _ (List.mem_of_getElem? (i := 4) rfl)
  have wd5 : (Cond.fieldLink RX3 19 "PairedLines$Sheet" "floats" "[F").before [.ref (qs 0), .int p1, .long p2].toArray s = true := hts _ (List.mem_of_getElem? (i := 5) rfl)
  have wd6 : (Cond.fieldLink RX3 23 "PairedLines$Sheet" "doubles" "[D").before [.ref (qs 0), .int p1, .long p2].toArray s = true := hts _ (List.mem_of_getElem? (i := 6) rfl)
  have inX3w : ∀ w ∈ u_ws RX3 TX3 7, w ∈ wsX3_put := fun w hw => List.mem_cons_of_mem _ (List.mem_append_right _ (hw))
  have hl := lv_entry ([.ref (qs 0), .int p1, .long p2]) (n := 4) (Nat.le_of_ble_eq_true rfl)
  rw [lg_entry_eq]
  generalize (lg_sl ([.ref (qs 0), .int p1, .long p2]) ++ List.replicate (4 - (lg_sl ([.ref (qs 0), .int p1, .long p2])).length) Slot.unset).toArray = ls at hl ⊢
  have hl : lv_has ls 4 [(0, .ref (qs 0)), (1, .int p1), (2, .long p2)] := hl
  have B17 : ∀ (b_s_ints : Nat → Int32) (b_s_longs : Nat → Int64) (b_s_floats : Nat → UInt32) (b_s_doubles : Nat → UInt64) (b_s_signs : Nat → Int32), f_X3_put_b17 s_sort p1 p2 b_s_ints b_s_longs b_s_floats b_s_doubles b_s_signs = some (rv, o_s_ints, o_s_longs, o_s_floats, o_s_doubles, o_s_signs) → ∀ (H : Heap) (locs : List Loc), va_P G vwCl [(qs 0, oX3 qs s_sort s_size), (qs 1, .inl (Y 0, 60, .inl b_s_ints)), (qs 2, .inl (Y 1, 60, .inr (.inl b_s_longs))), (qs 3, .inl (Y 2, 60, .inr (.inr (.inl b_s_floats)))), (qs 4, .inl (Y 3, 60, .inr (.inr (.inr (.inl b_s_doubles))))), (qs 5, .inl (Y 0, 60, .inl b_s_signs))] H → va_D A [(qs 0, oX3 qs s_sort s_size), (qs 1, .inl (Y 0, 60, .inl b_s_ints)), (qs 2, .inl (Y 1, 60, .inr (.inl b_s_longs))), (qs 3, .inl (Y 2, 60, .inr (.inr (.inl b_s_floats)))), (qs 4, .inl (Y 3, 60, .inr (.inr (.inr (.inl b_s_doubles))))), (qs 5, .inl (Y 0, 60, .inl b_s_signs))] → va_S A s.heap H locs → ∀ (ls : Array Slot), lv_has ls 4 [(0, .ref (qs 0)), (1, .int p1), (2, .long p2)] → W p l e (headSpec wsX3_put (rmk 1 23)).room s m [.ref (qs 0), .int p1, .long p2].toArray below meth c H locs 0 0 (MQ below (va_Qi (fun (r : Int32) (_ : Unit) => r = rv) (Pst G (tys Y) [(qs 0, oX3 qs s_sort s_size), (qs 1, .inl (Y 0, 60, .inl s_ints)), (qs 2, .inl (Y 1, 60, .inr (.inl s_longs))), (qs 3, .inl (Y 2, 60, .inr (.inr (.inl s_floats)))), (qs 4, .inl (Y 3, 60, .inr (.inr (.inr (.inl s_doubles))))), (qs 5, .inl (Y 0, 60, .inl s_signs))] s.heap.size [(qs 0, oX3 qs s_sort s_size), (qs 1, .inl (Y 0, 60, .inl o_s_ints)), (qs 2, .inl (Y 1, 60, .inr (.inl o_s_longs))), (qs 3, .inl (Y 2, 60, .inr (.inr (.inl o_s_floats)))), (qs 4, .inl (Y 3, 60, .inr (.inr (.inr (.inl o_s_doubles))))), (qs 5, .inl (Y 0, 60, .inl o_s_signs))]) A) [.ref (qs 0), .int p1, .long p2].toArray s 0 0 A) (F0 m 17 ls []) := by
    intro b_s_ints b_s_longs b_s_floats b_s_doubles b_s_signs hf H locs hP hD hS ls hl
    unfold f_X3_put_b17 at hf
    refine lv_aload_n hx hb dX3_put_17 rfl (lv_at hl 0 rfl) ?_
    refine va_get (D := G) (ci := 2) (v := .ref (qs 5)) (C := RX3) (T := TX3) (N := 7) hx hb hts inX3w hown hK hP 0 rfl rfl 4 (by decide) wd2 (fun _ h9 => h9) rfl dX3_put_18 ?_
    refine lv_iload_n hx hb dX3_put_21 rfl (lv_at hl 1 rfl) ?_
    refine lv_lload_n hx hb dX3_put_22 rfl (lv_at hl 2 rfl) ?_
    refine lv_lconst (v := 0) hx hb dX3_put_23 (by decide) ?_
    obtain ⟨r1, hc, hf⟩ := bd1 hf
    refine cl_i (ws' := [(qs 0, oX3 qs s_sort s_size), (qs 1, .inl (Y 0, 60, .inl b_s_ints)), (qs 2, .inl (Y 1, 60, .inr (.inl b_s_longs))), (qs 3, .inl (Y 2, 60, .inr (.inr (.inl b_s_floats)))), (qs 4, .inl (Y 3, 60, .inr (.inr (.inr (.inl b_s_doubles))))), (qs 5, .inl (Y 0, 60, .inl b_s_signs))]) (wr := [(qs 0, oX3 qs s_sort s_size), (qs 1, .inl (Y 0, 60, .inl b_s_ints)), (qs 2, .inl (Y 1, 60, .inr (.inl b_s_longs))), (qs 3, .inl (Y 2, 60, .inr (.inr (.inl b_s_floats)))), (qs 4, .inl (Y 3, 60, .inr (.inr (.inr (.inl b_s_doubles))))), (qs 5, .inl (Y 0, 60, .inl b_s_signs))]) (rnS (As := [.long p2, .long (0 : Int64)]) (rest := [.int p1, .ref (qs 5)]) ⟨hx, hb, hml, hown, hts⟩ (c_J13_compare_74951 l G Y H.size p2 (0 : Int64) r1 hc) (va_cwS 2 hts gX3_put_J13_compare_74951 rfl rfl rfl (by decide +kernel) ⟨(Nat.le_of_ble_eq_true rfl), (Nat.le_of_ble_eq_true rfl)⟩) trivial okT hK hP hD [] rfl rfl rfl hl.1 rfl (Nat.le_of_ble_eq_true rfl) dX3_put_24) hP hD hS hA [] [0, 1, 2, 3, 4, 5] [0, 1, 2, 3, 4, 5] rfl rfl rfl (by decide) rfl rfl (fun H locs hP hD hS => ?_)
    obtain ⟨g2, hf⟩ := gd hf
    refine va_iast hx hb hK hP hD hS 5 0 rfl rfl g2 dX3_put_27 (fun H locs hP hD hS => ?_)
    obtain ⟨v3, e_v3⟩ : ∃ z : Nat → Int32, z = upd b_s_signs p1.toNatClampNeg r1 := ⟨_, rfl⟩
    have hf := nm_at hf e_v3
    have hP : va_P G vwCl [(qs 0, oX3 qs s_sort s_size), (qs 1, .inl (Y 0, 60, .inl b_s_ints)), (qs 2, .inl (Y 1, 60, .inr (.inl b_s_longs))), (qs 3, .inl (Y 2, 60, .inr (.inr (.inl b_s_floats)))), (qs 4, .inl (Y 3, 60, .inr (.inr (.inr (.inl b_s_doubles))))), (qs 5, .inl (Y 0, 60, .inl v3))] H := by rw [e_v3]; exact hP
    have hD : va_D A [(qs 0, oX3 qs s_sort s_size), (qs 1, .inl (Y 0, 60, .inl b_s_ints)), (qs 2, .inl (Y 1, 60, .inr (.inl b_s_longs))), (qs 3, .inl (Y 2, 60, .inr (.inr (.inl b_s_floats)))), (qs 4, .inl (Y 3, 60, .inr (.inr (.inr (.inl b_s_doubles))))), (qs 5, .inl (Y 0, 60, .inl v3))] := by rw [e_v3]; exact hD
    refine lv_aload_n hx hb dX3_put_28 rfl (lv_at hl 0 rfl) ?_
    refine va_get (D := G) (ci := 2) (v := .int s_sort) (C := RX3) (T := TX3) (N := 7) hx hb hts inX3w hown hK hP 0 rfl rfl 5 (by decide) wd1 (fun _ h9 => h9) rfl dX3_put_29 ?_
    refine lv_if_ne (tgt := 46) hx hb dX3_put_32 (by decide) (fun c4 => ?_) (fun c4 => ?_)
    · have hf := ie hf c4
      refine lv_aload_n hx hb dX3_put_46 rfl (lv_at hl 0 rfl) ?_
      refine va_get (D := G) (ci := 2) (v := .int s_sort) (C := RX3) (T := TX3) (N := 7) hx hb hts inX3w hown hK hP 0 rfl rfl 5 (by decide) wd1 (fun _ h9 => h9) rfl dX3_put_47 ?_
      refine lv_iconst (v := 1) hx hb dX3_put_50 (by decide) ?_
      refine lv_icmp_ne (tgt := 64) hx hb dX3_put_51 (by decide) (fun c5 => ?_) (fun c5 => ?_)
      · have hf := ie hf c5
        refine lv_aload_n hx hb dX3_put_64 rfl (lv_at hl 0 rfl) ?_
        refine va_get (D := G) (ci := 2) (v := .int s_sort) (C := RX3) (T := TX3) (N := 7) hx hb hts inX3w hown hK hP 0 rfl rfl 5 (by decide) wd1 (fun _ h9 => h9) rfl dX3_put_65 ?_
        refine lv_iconst (v := 2) hx hb dX3_put_68 (by decide) ?_
        refine lv_icmp_ne (tgt := 83) hx hb dX3_put_69 (by decide) (fun c6 => ?_) (fun c6 => ?_)
        · have hf := ie hf c6
          refine lv_aload_n hx hb dX3_put_83 rfl (lv_at hl 0 rfl) ?_
          refine va_get (D := G) (ci := 2) (v := .ref (qs 4)) (C := RX3) (T := TX3) (N := 7) hx hb hts inX3w hown hK hP 0 rfl rfl 3 (by decide) wd6 (fun _ h9 => h9) rfl dX3_put_84 ?_
          refine lv_iload_n hx hb dX3_put_87 rfl (lv_at hl 1 rfl) ?_
          refine lv_lload_n hx hb dX3_put_88 rfl (lv_at hl 2 rfl) ?_
          refine lv_l2d hx hb dX3_put_89 ?_
          obtain ⟨g7, hf⟩ := gd hf
          refine va_dast hx hb hK hP hD hS 4 3 rfl rfl g7 dX3_put_90 (fun H locs hP hD hS => ?_)
          obtain ⟨v8, e_v8⟩ : ∃ z : Nat → UInt64, z = vf_upd b_s_doubles p1.toNatClampNeg (FP.l2d p2) := ⟨_, rfl⟩
          have hf := nm_at hf e_v8
          have hP : va_P G vwCl [(qs 0, oX3 qs s_sort s_size), (qs 1, .inl (Y 0, 60, .inl b_s_ints)), (qs 2, .inl (Y 1, 60, .inr (.inl b_s_longs))), (qs 3, .inl (Y 2, 60, .inr (.inr (.inl b_s_floats)))), (qs 4, .inl (Y 3, 60, .inr (.inr (.inr (.inl v8))))), (qs 5, .inl (Y 0, 60, .inl v3))] H := by rw [e_v8]; exact hP
          have hD : va_D A [(qs 0, oX3 qs s_sort s_size), (qs 1, .inl (Y 0, 60, .inl b_s_ints)), (qs 2, .inl (Y 1, 60, .inr (.inl b_s_longs))), (qs 3, .inl (Y 2, 60, .inr (.inr (.inl b_s_floats)))), (qs 4, .inl (Y 3, 60, .inr (.inr (.inr (.inl v8))))), (qs 5, .inl (Y 0, 60, .inl v3))] := by rw [e_v8]; exact hD
          refine lv_iconst (v := 1) hx hb dX3_put_91 (by decide) ?_
          obtain ⟨e0, e1, e2, e3, e4, e5⟩ := rt6 hf
          have hP : va_P G vwCl [(qs 0, oX3 qs s_sort s_size), (qs 1, .inl (Y 0, 60, .inl o_s_ints)), (qs 2, .inl (Y 1, 60, .inr (.inl o_s_longs))), (qs 3, .inl (Y 2, 60, .inr (.inr (.inl o_s_floats)))), (qs 4, .inl (Y 3, 60, .inr (.inr (.inr (.inl o_s_doubles))))), (qs 5, .inl (Y 0, 60, .inl o_s_signs))] H := by rw [← e1, ← e2, ← e3, ← e4, ← e5]; exact hP
          have hD : va_D A [(qs 0, oX3 qs s_sort s_size), (qs 1, .inl (Y 0, 60, .inl o_s_ints)), (qs 2, .inl (Y 1, 60, .inr (.inl o_s_longs))), (qs 3, .inl (Y 2, 60, .inr (.inr (.inl o_s_floats)))), (qs 4, .inl (Y 3, 60, .inr (.inr (.inr (.inl o_s_doubles))))), (qs 5, .inl (Y 0, 60, .inl o_s_signs))] := by rw [← e1, ← e2, ← e3, ← e4, ← e5]; exact hD
          exact W.zret (v := (1 : Int32)) hx hb hr rfl (fun t ht hW => ⟨⟨(1 : Int32), (), rfl, e0, by rw [ht]; exact hP, va_K.moved hW.alike hK, by rw [hAe]; exact hD⟩, hS.F ht⟩) hS.2.2 dX3_put_92
        · have hf := it hf c6
          refine lv_aload_n hx hb dX3_put_72 rfl (lv_at hl 0 rfl) ?_
          refine va_get (D := G) (ci := 2) (v := .ref (qs 3)) (C := RX3) (T := TX3) (N := 7) hx hb hts inX3w hown hK hP 0 rfl rfl 2 (by decide) wd5 (fun _ h9 => h9) rfl dX3_put_73 ?_
          refine lv_iload_n hx hb dX3_put_76 rfl (lv_at hl 1 rfl) ?_
          refine lv_lload_n hx hb dX3_put_77 rfl (lv_at hl 2 rfl) ?_
          refine lv_l2f hx hb dX3_put_78 ?_
          obtain ⟨g9, hf⟩ := gd hf
          refine va_fast hx hb hK hP hD hS 3 2 rfl rfl g9 dX3_put_79 (fun H locs hP hD hS => ?_)
          obtain ⟨v10, e_v10⟩ : ∃ z : Nat → UInt32, z = vf_upd b_s_floats p1.toNatClampNeg (FP.l2f p2) := ⟨_, rfl⟩
          have hf := nm_at hf e_v10
          have hP : va_P G vwCl [(qs 0, oX3 qs s_sort s_size), (qs 1, .inl (Y 0, 60, .inl b_s_ints)), (qs 2, .inl (Y 1, 60, .inr (.inl b_s_longs))), (qs 3, .inl (Y 2, 60, .inr (.inr (.inl v10)))), (qs 4, .inl (Y 3, 60, .inr (.inr (.inr (.inl b_s_doubles))))), (qs 5, .inl (Y 0, 60, .inl v3))] H := by rw [e_v10]; exact hP
          have hD : va_D A [(qs 0, oX3 qs s_sort s_size), (qs 1, .inl (Y 0, 60, .inl b_s_ints)), (qs 2, .inl (Y 1, 60, .inr (.inl b_s_longs))), (qs 3, .inl (Y 2, 60, .inr (.inr (.inl v10)))), (qs 4, .inl (Y 3, 60, .inr (.inr (.inr (.inl b_s_doubles))))), (qs 5, .inl (Y 0, 60, .inl v3))] := by rw [e_v10]; exact hD
          refine lv_goto (tgt := 91) hx hb dX3_put_80 (by decide) ?_
          refine lv_iconst (v := 1) hx hb dX3_put_91 (by decide) ?_
          obtain ⟨e0, e1, e2, e3, e4, e5⟩ := rt6 hf
          have hP : va_P G vwCl [(qs 0, oX3 qs s_sort s_size), (qs 1, .inl (Y 0, 60, .inl o_s_ints)), (qs 2, .inl (Y 1, 60, .inr (.inl o_s_longs))), (qs 3, .inl (Y 2, 60, .inr (.inr (.inl o_s_floats)))), (qs 4, .inl (Y 3, 60, .inr (.inr (.inr (.inl o_s_doubles))))), (qs 5, .inl (Y 0, 60, .inl o_s_signs))] H := by rw [← e1, ← e2, ← e3, ← e4, ← e5]; exact hP
          have hD : va_D A [(qs 0, oX3 qs s_sort s_size), (qs 1, .inl (Y 0, 60, .inl o_s_ints)), (qs 2, .inl (Y 1, 60, .inr (.inl o_s_longs))), (qs 3, .inl (Y 2, 60, .inr (.inr (.inl o_s_floats)))), (qs 4, .inl (Y 3, 60, .inr (.inr (.inr (.inl o_s_doubles))))), (qs 5, .inl (Y 0, 60, .inl o_s_signs))] := by rw [← e1, ← e2, ← e3, ← e4, ← e5]; exact hD
          exact W.zret (v := (1 : Int32)) hx hb hr rfl (fun t ht hW => ⟨⟨(1 : Int32), (), rfl, e0, by rw [ht]; exact hP, va_K.moved hW.alike hK, by rw [hAe]; exact hD⟩, hS.F ht⟩) hS.2.2 dX3_put_92
      · have hf := it hf c5
        refine lv_aload_n hx hb dX3_put_54 rfl (lv_at hl 0 rfl) ?_
        refine va_get (D := G) (ci := 2) (v := .ref (qs 2)) (C := RX3) (T := TX3) (N := 7) hx hb hts inX3w hown hK hP 0 rfl rfl 1 (by decide) wd4 (fun _ h9 => h9) rfl dX3_put_55 ?_
        refine lv_iload_n hx hb dX3_put_58 rfl (lv_at hl 1 rfl) ?_
        refine lv_lload_n hx hb dX3_put_59 rfl (lv_at hl 2 rfl) ?_
        obtain ⟨g11, hf⟩ := gd hf
        refine va_last hx hb hK hP hD hS 2 1 rfl rfl g11 dX3_put_60 (fun H locs hP hD hS => ?_)
        obtain ⟨v12, e_v12⟩ : ∃ z : Nat → Int64, z = vp_updL b_s_longs p1.toNatClampNeg p2 := ⟨_, rfl⟩
        have hf := nm_at hf e_v12
        have hP : va_P G vwCl [(qs 0, oX3 qs s_sort s_size), (qs 1, .inl (Y 0, 60, .inl b_s_ints)), (qs 2, .inl (Y 1, 60, .inr (.inl v12))), (qs 3, .inl (Y 2, 60, .inr (.inr (.inl b_s_floats)))), (qs 4, .inl (Y 3, 60, .inr (.inr (.inr (.inl b_s_doubles))))), (qs 5, .inl (Y 0, 60, .inl v3))] H := by rw [e_v12]; exact hP
        have hD : va_D A [(qs 0, oX3 qs s_sort s_size), (qs 1, .inl (Y 0, 60, .inl b_s_ints)), (qs 2, .inl (Y 1, 60, .inr (.inl v12))), (qs 3, .inl (Y 2, 60, .inr (.inr (.inl b_s_floats)))), (qs 4, .inl (Y 3, 60, .inr (.inr (.inr (.inl b_s_doubles))))), (qs 5, .inl (Y 0, 60, .inl v3))] := by rw [e_v12]; exact hD
        refine lv_goto (tgt := 91) hx hb dX3_put_61 (by decide) ?_
        refine lv_iconst (v := 1) hx hb dX3_put_91 (by decide) ?_
        obtain ⟨e0, e1, e2, e3, e4, e5⟩ := rt6 hf
        have hP : va_P G vwCl [(qs 0, oX3 qs s_sort s_size), (qs 1, .inl (Y 0, 60, .inl o_s_ints)), (qs 2, .inl (Y 1, 60, .inr (.inl o_s_longs))), (qs 3, .inl (Y 2, 60, .inr (.inr (.inl o_s_floats)))), (qs 4, .inl (Y 3, 60, .inr (.inr (.inr (.inl o_s_doubles))))), (qs 5, .inl (Y 0, 60, .inl o_s_signs))] H := by rw [← e1, ← e2, ← e3, ← e4, ← e5]; exact hP
        have hD : va_D A [(qs 0, oX3 qs s_sort s_size), (qs 1, .inl (Y 0, 60, .inl o_s_ints)), (qs 2, .inl (Y 1, 60, .inr (.inl o_s_longs))), (qs 3, .inl (Y 2, 60, .inr (.inr (.inl o_s_floats)))), (qs 4, .inl (Y 3, 60, .inr (.inr (.inr (.inl o_s_doubles))))), (qs 5, .inl (Y 0, 60, .inl o_s_signs))] := by rw [← e1, ← e2, ← e3, ← e4, ← e5]; exact hD
        exact W.zret (v := (1 : Int32)) hx hb hr rfl (fun t ht hW => ⟨⟨(1 : Int32), (), rfl, e0, by rw [ht]; exact hP, va_K.moved hW.alike hK, by rw [hAe]; exact hD⟩, hS.F ht⟩) hS.2.2 dX3_put_92
    · have hf := it hf c4
      refine lv_aload_n hx hb dX3_put_35 rfl (lv_at hl 0 rfl) ?_
      refine va_get (D := G) (ci := 2) (v := .ref (qs 1)) (C := RX3) (T := TX3) (N := 7) hx hb hts inX3w hown hK hP 0 rfl rfl 0 (by decide) wd3 (fun _ h9 => h9) rfl dX3_put_36 ?_
      refine lv_iload_n hx hb dX3_put_39 rfl (lv_at hl 1 rfl) ?_
      refine lv_lload_n hx hb dX3_put_40 rfl (lv_at hl 2 rfl) ?_
      refine lv_l2i hx hb dX3_put_41 rfl ?_
      obtain ⟨g13, hf⟩ := gd hf
      refine va_iast hx hb hK hP hD hS 1 0 rfl rfl g13 dX3_put_42 (fun H locs hP hD hS => ?_)
      obtain ⟨v14, e_v14⟩ : ∃ z : Nat → Int32, z = upd b_s_ints p1.toNatClampNeg p2.toInt32 := ⟨_, rfl⟩
      have hf := nm_at hf e_v14
      have hP : va_P G vwCl [(qs 0, oX3 qs s_sort s_size), (qs 1, .inl (Y 0, 60, .inl v14)), (qs 2, .inl (Y 1, 60, .inr (.inl b_s_longs))), (qs 3, .inl (Y 2, 60, .inr (.inr (.inl b_s_floats)))), (qs 4, .inl (Y 3, 60, .inr (.inr (.inr (.inl b_s_doubles))))), (qs 5, .inl (Y 0, 60, .inl v3))] H := by rw [e_v14]; exact hP
      have hD : va_D A [(qs 0, oX3 qs s_sort s_size), (qs 1, .inl (Y 0, 60, .inl v14)), (qs 2, .inl (Y 1, 60, .inr (.inl b_s_longs))), (qs 3, .inl (Y 2, 60, .inr (.inr (.inl b_s_floats)))), (qs 4, .inl (Y 3, 60, .inr (.inr (.inr (.inl b_s_doubles))))), (qs 5, .inl (Y 0, 60, .inl v3))] := by rw [e_v14]; exact hD
      refine lv_goto (tgt := 91) hx hb dX3_put_43 (by decide) ?_
      refine lv_iconst (v := 1) hx hb dX3_put_91 (by decide) ?_
      obtain ⟨e0, e1, e2, e3, e4, e5⟩ := rt6 hf
      have hP : va_P G vwCl [(qs 0, oX3 qs s_sort s_size), (qs 1, .inl (Y 0, 60, .inl o_s_ints)), (qs 2, .inl (Y 1, 60, .inr (.inl o_s_longs))), (qs 3, .inl (Y 2, 60, .inr (.inr (.inl o_s_floats)))), (qs 4, .inl (Y 3, 60, .inr (.inr (.inr (.inl o_s_doubles))))), (qs 5, .inl (Y 0, 60, .inl o_s_signs))] H := by rw [← e1, ← e2, ← e3, ← e4, ← e5]; exact hP
      have hD : va_D A [(qs 0, oX3 qs s_sort s_size), (qs 1, .inl (Y 0, 60, .inl o_s_ints)), (qs 2, .inl (Y 1, 60, .inr (.inl o_s_longs))), (qs 3, .inl (Y 2, 60, .inr (.inr (.inl o_s_floats)))), (qs 4, .inl (Y 3, 60, .inr (.inr (.inr (.inl o_s_doubles))))), (qs 5, .inl (Y 0, 60, .inl o_s_signs))] := by rw [← e1, ← e2, ← e3, ← e4, ← e5]; exact hD
      exact W.zret (v := (1 : Int32)) hx hb hr rfl (fun t ht hW => ⟨⟨(1 : Int32), (), rfl, e0, by rw [ht]; exact hP, va_K.moved hW.alike hK, by rw [hAe]; exact hD⟩, hS.F ht⟩) hS.2.2 dX3_put_92
  have E0 : ∀ (H : Heap) (locs : List Loc), va_P G vwCl [(qs 0, oX3 qs s_sort s_size), (qs 1, .inl (Y 0, 60, .inl s_ints)), (qs 2, .inl (Y 1, 60, .inr (.inl s_longs))), (qs 3, .inl (Y 2, 60, .inr (.inr (.inl s_floats)))), (qs 4, .inl (Y 3, 60, .inr (.inr (.inr (.inl s_doubles))))), (qs 5, .inl (Y 0, 60, .inl s_signs))] H → va_D A [(qs 0, oX3 qs s_sort s_size), (qs 1, .inl (Y 0, 60, .inl s_ints)), (qs 2, .inl (Y 1, 60, .inr (.inl s_longs))), (qs 3, .inl (Y 2, 60, .inr (.inr (.inl s_floats)))), (qs 4, .inl (Y 3, 60, .inr (.inr (.inr (.inl s_doubles))))), (qs 5, .inl (Y 0, 60, .inl s_signs))] → va_S A s.heap H locs → ∀ (ls : Array Slot), lv_has ls 4 [(0, .ref (qs 0)), (1, .int p1), (2, .long p2)] → W p l e (headSpec wsX3_put (rmk 1 23)).room s m [.ref (qs 0), .int p1, .long p2].toArray below meth c H locs 0 0 (MQ below (va_Qi (fun (r : Int32) (_ : Unit) => r = rv) (Pst G (tys Y) [(qs 0, oX3 qs s_sort s_size), (qs 1, .inl (Y 0, 60, .inl s_ints)), (qs 2, .inl (Y 1, 60, .inr (.inl s_longs))), (qs 3, .inl (Y 2, 60, .inr (.inr (.inl s_floats)))), (qs 4, .inl (Y 3, 60, .inr (.inr (.inr (.inl s_doubles))))), (qs 5, .inl (Y 0, 60, .inl s_signs))] s.heap.size [(qs 0, oX3 qs s_sort s_size), (qs 1, .inl (Y 0, 60, .inl o_s_ints)), (qs 2, .inl (Y 1, 60, .inr (.inl o_s_longs))), (qs 3, .inl (Y 2, 60, .inr (.inr (.inl o_s_floats)))), (qs 4, .inl (Y 3, 60, .inr (.inr (.inr (.inl o_s_doubles))))), (qs 5, .inl (Y 0, 60, .inl o_s_signs))]) A) [.ref (qs 0), .int p1, .long p2].toArray s 0 0 A) (F0 m 0 ls []) := by
    intro H locs hP hD hS ls hl
    unfold f_X3_put at hf
    refine lv_aload_n hx hb dX3_put_0 rfl (lv_at hl 0 rfl) ?_
    refine va_get (D := G) (ci := 2) (v := .int s_sort) (C := RX3) (T := TX3) (N := 7) hx hb hts inX3w hown hK hP 0 rfl rfl 5 (by decide) wd1 (fun _ h9 => h9) rfl dX3_put_1 ?_
    refine lv_if_ne (tgt := 17) hx hb dX3_put_4 (by decide) (fun c15 => ?_) (fun c15 => ?_)
    · have hf := ie hf c15
      exact B17 s_ints s_longs s_floats s_doubles s_signs hf _ _ hP hD hS ls (lv_sub hl [0, 1, 2] rfl)
    · have hf := it hf c15
      refine lv_lload_n hx hb dX3_put_7 rfl (lv_at hl 2 rfl) ?_
      refine lv_lload_n hx hb dX3_put_8 rfl (lv_at hl 2 rfl) ?_
      refine lv_l2i hx hb dX3_put_9 rfl ?_
      refine lv_i2l hx hb dX3_put_10 rfl ?_
      refine W.lcmp hx hb dX3_put_11 ?_
      refine lv_if_eq (tgt := 17) hx hb dX3_put_12 (by decide) (fun c16 => ?_) (fun c16 => ?_)
      · have hf := it hf c16
        exact B17 s_ints s_longs s_floats s_doubles s_signs hf _ _ hP hD hS ls (lv_sub hl [0, 1, 2] rfl)
      · have hf := ie hf c16
        refine lv_iconst (v := 0) hx hb dX3_put_15 (by decide) ?_
        obtain ⟨e0, e1, e2, e3, e4, e5⟩ := rt6 hf
        have hP : va_P G vwCl [(qs 0, oX3 qs s_sort s_size), (qs 1, .inl (Y 0, 60, .inl o_s_ints)), (qs 2, .inl (Y 1, 60, .inr (.inl o_s_longs))), (qs 3, .inl (Y 2, 60, .inr (.inr (.inl o_s_floats)))), (qs 4, .inl (Y 3, 60, .inr (.inr (.inr (.inl o_s_doubles))))), (qs 5, .inl (Y 0, 60, .inl o_s_signs))] H := by rw [← e1, ← e2, ← e3, ← e4, ← e5]; exact hP
        have hD : va_D A [(qs 0, oX3 qs s_sort s_size), (qs 1, .inl (Y 0, 60, .inl o_s_ints)), (qs 2, .inl (Y 1, 60, .inr (.inl o_s_longs))), (qs 3, .inl (Y 2, 60, .inr (.inr (.inl o_s_floats)))), (qs 4, .inl (Y 3, 60, .inr (.inr (.inr (.inl o_s_doubles))))), (qs 5, .inl (Y 0, 60, .inl o_s_signs))] := by rw [← e1, ← e2, ← e3, ← e4, ← e5]; exact hD
        exact W.zret (v := (0 : Int32)) hx hb hr rfl (fun t ht hW => ⟨⟨(0 : Int32), (), rfl, e0, by rw [ht]; exact hP, va_K.moved hW.alike hK, by rw [hAe]; exact hD⟩, hS.F ht⟩) hS.2.2 dX3_put_16
  exact E0 s.heap [] hP hD hS ls hl
-- X3_holds
set_option maxRecDepth 100000 in
set_option maxHeartbeats 4000000 in
theorem c_X3_holds (l : Launch) (G : va_G) (Y : Nat → ClassId) (sz : Nat) (qs : Nat → Nat) (s_ints : Nat → Int32) (s_longs : Nat → Int64) (s_floats : Nat → UInt32) (s_doubles : Nat → UInt64) (s_sort : Int32) (s_size : Int32) (p1 : Int32) (p2 : Int64) (rv : Int32) (hf : f_X3_holds s_ints s_longs s_floats s_doubles s_sort p1 p2 = some (rv)) : Met l yX3_holds wsX3_holds (rmk 0 0) (va_Pc [.ref (qs 0), .int p1, .long p2] (Pre G (tys Y) [(qs 0, oX3 qs s_sort s_size), (qs 1, .inl (Y 0, 60, .inl s_ints)), (qs 2, .inl (Y 1, 60, .inr (.inl s_longs))), (qs 3, .inl (Y 2, 60, .inr (.inr (.inl s_floats)))), (qs 4, .inl (Y 3, 60, .inr (.inr (.inr (.inl s_doubles)))))] sz xT)) (va_Qi (fun (r : Int32) (_ : Unit) => r = rv) (Pst G (tys Y) [(qs 0, oX3 qs s_sort s_size), (qs 1, .inl (Y 0, 60, .inl s_ints)), (qs 2, .inl (Y 1, 60, .inr (.inl s_longs))), (qs 3, .inl (Y 2, 60, .inr (.inr (.inl s_floats)))), (qs 4, .inl (Y 3, 60, .inr (.inr (.inr (.inl s_doubles)))))] sz [(qs 0, oX3 qs s_sort s_size), (qs 1, .inl (Y 0, 60, .inl s_ints)), (qs 2, .inl (Y 1, 60, .inr (.inl s_longs))), (qs 3, .inl (Y 2, 60, .inr (.inr (.inl s_floats)))), (qs 4, .inl (Y 3, 60, .inr (.inr (.inr (.inl s_doubles)))))]) (va_A [(qs 0, oX3 qs s_sort s_size), (qs 1, .inl (Y 0, 60, .inl s_ints)), (qs 2, .inl (Y 1, 60, .inr (.inl s_longs))), (qs 3, .inl (Y 2, 60, .inr (.inr (.inl s_floats)))), (qs 4, .inl (Y 3, 60, .inr (.inr (.inr (.inl s_doubles)))))] sz)) 0 0 (va_A [(qs 0, oX3 qs s_sort s_size), (qs 1, .inl (Y 0, 60, .inl s_ints)), (qs 2, .inl (Y 1, 60, .inr (.inl s_longs))), (qs 3, .inl (Y 2, 60, .inr (.inr (.inl s_floats)))), (qs 4, .inl (Y 3, 60, .inr (.inr (.inr (.inl s_doubles)))))] sz) := by
  refine Met.ofW (cc := cX3_holds) (maxL := 4) (ret := (some .boolean)) (by decide) rfl ?_
  intro p e s m args below meth c s₁ B hml hv
  obtain ⟨rfl, hsz, hP, hK, hD0, hX⟩ := hv
  have hx := B.exec
  have hb := B.bytes
  have hr := B.returns
  have hts := atoms_spec (ws := wsX3_holds) B.pre
  have hown : s.vm.findClass RX3 = some m.cls := findClass_of_methodNamed B.named
  have hlocks := B.notSynchronized
  subst hsz
  have hD := hD0.self (sz := s.heap.size)
  generalize hAe : va_A [(qs 0, oX3 qs s_sort s_size), (qs 1, .inl (Y 0, 60, .inl s_ints)), (qs 2, .inl (Y 1, 60, .inr (.inl s_longs))), (qs 3, .inl (Y 2, 60, .inr (.inr (.inl s_floats)))), (qs 4, .inl (Y 3, 60, .inr (.inr (.inr (.inl s_doubles)))))] s.heap.size = A at hD ⊢
  have hA : ∀ q : Nat, s.heap.size ≤ q → A q := fun q h => by rw [← hAe]; exact Or.inr h
  have hS : va_S A s.heap s.heap [] := va_S.rf
  have hP : va_P G vwCl [(qs 0, oX3 qs s_sort s_size), (qs 1, .inl (Y 0, 60, .inl s_ints)), (qs 2, .inl (Y 1, 60, .inr (.inl s_longs))), (qs 3, .inl (Y 2, 60, .inr (.inr (.inl s_floats)))), (qs 4, .inl (Y 3, 60, .inr (.inr (.inr (.inl s_doubles)))))] s.heap := hP
  have wd1 : (Cond.fieldLink RX3 30 "PairedLines$Sheet" "sort" "I").before [.ref (qs 0), .int p1, .long p2].toArray s = true := hts _ (List.mem_of_getElem? (i := 1) rfl)
  have wd2 : (Cond.fieldLink RX3 9 "PairedLines$Sheet" "ints" "[I").before [.ref (qs 0), .int p1, .long p2].toArray s = true := hts _ (List.mem_of_getElem? (i := 2) rfl)
  have wd3 : (Cond.fieldLink RX3 15 "PairedLines$Sheet" "longs" "[J").before [.ref (qs 0), .int p1, .long p2].toArray s = true := hts _ (List.mem_of_getElem? (i := 3) rfl)
  have wd4 : (Cond.fieldLink RX3 19 "PairedLines$Sheet" "floats" "[F").before [.ref (qs 0), .int p1, .long p2].toArray s = true := hts _ (List.mem_of_getElem? (i := 4) rfl)
  have wd5 : (Cond.fieldLink RX3 23 "PairedLines$Sheet" "doubles" "[D").before [.ref (qs 0), .int p1, .long p2].toArray s = true := hts _ (List.mem_of_getElem? (i := 5) rfl)
  have inX3w : ∀ w ∈ u_ws RX3 TX3 7, w ∈ wsX3_holds := fun w hw => List.mem_cons_of_mem _ (List.mem_append_right _ (hw))
  have hl := lv_entry ([.ref (qs 0), .int p1, .long p2]) (n := 4) (Nat.le_of_ble_eq_true rfl)
  rw [lg_entry_eq]
  generalize (lg_sl ([.ref (qs 0), .int p1, .long p2]) ++ List.replicate (4 - (lg_sl ([.ref (qs 0), .int p1, .long p2])).length) Slot.unset).toArray = ls at hl ⊢
  have hl : lv_has ls 4 [(0, .ref (qs 0)), (1, .int p1), (2, .long p2)] := hl
  have E0 : ∀ (H : Heap) (locs : List Loc), va_P G vwCl [(qs 0, oX3 qs s_sort s_size), (qs 1, .inl (Y 0, 60, .inl s_ints)), (qs 2, .inl (Y 1, 60, .inr (.inl s_longs))), (qs 3, .inl (Y 2, 60, .inr (.inr (.inl s_floats)))), (qs 4, .inl (Y 3, 60, .inr (.inr (.inr (.inl s_doubles)))))] H → va_D A [(qs 0, oX3 qs s_sort s_size), (qs 1, .inl (Y 0, 60, .inl s_ints)), (qs 2, .inl (Y 1, 60, .inr (.inl s_longs))), (qs 3, .inl (Y 2, 60, .inr (.inr (.inl s_floats)))), (qs 4, .inl (Y 3, 60, .inr (.inr (.inr (.inl s_doubles)))))] → va_S A s.heap H locs → ∀ (ls : Array Slot), lv_has ls 4 [(0, .ref (qs 0)), (1, .int p1), (2, .long p2)] → W p l e (headSpec wsX3_holds (rmk 0 0)).room s m [.ref (qs 0), .int p1, .long p2].toArray below meth c H locs 0 0 (MQ below (va_Qi (fun (r : Int32) (_ : Unit) => r = rv) (Pst G (tys Y) [(qs 0, oX3 qs s_sort s_size), (qs 1, .inl (Y 0, 60, .inl s_ints)), (qs 2, .inl (Y 1, 60, .inr (.inl s_longs))), (qs 3, .inl (Y 2, 60, .inr (.inr (.inl s_floats)))), (qs 4, .inl (Y 3, 60, .inr (.inr (.inr (.inl s_doubles)))))] s.heap.size [(qs 0, oX3 qs s_sort s_size), (qs 1, .inl (Y 0, 60, .inl s_ints)), (qs 2, .inl (Y 1, 60, .inr (.inl s_longs))), (qs 3, .inl (Y 2, 60, .inr (.inr (.inl s_floats)))), (qs 4, .inl (Y 3, 60, .inr (.inr (.inr (.inl s_doubles)))))]) A) [.ref (qs 0), .int p1, .long p2].toArray s 0 0 A) (F0 m 0 ls []) := by
    intro H locs hP hD hS ls hl
    unfold f_X3_holds at hf
    refine lv_aload_n hx hb dX3_holds_0 rfl (lv_at hl 0 rfl) ?_
    refine va_get (D := G) (ci := 2) (v := .int s_sort) (C := RX3) (T := TX3) (N := 7) hx hb hts inX3w hown hK hP 0 rfl rfl 5 (by decide) wd1 (fun _ h9 => h9) rfl dX3_holds_1 ?_
    by_cases c1 : s_sort = 0
    · have hf := it hf c1
      refine lv_tableIn (tgt := 32) hx hb dX3_holds_4 (by rw [c1]; decide) (by rw [c1]; decide) (off := 28) (by rw [c1]; rfl) (by decide) ?_
      refine lv_aload_n hx hb dX3_holds_32 rfl (lv_at hl 0 rfl) ?_
      refine va_get (D := G) (ci := 2) (v := .ref (qs 1)) (C := RX3) (T := TX3) (N := 7) hx hb hts inX3w hown hK hP 0 rfl rfl 0 (by decide) wd2 (fun _ h9 => h9) rfl dX3_holds_33 ?_
      refine lv_iload_n hx hb dX3_holds_36 rfl (lv_at hl 1 rfl) ?_
      obtain ⟨g2, hf⟩ := gd hf
      refine va_iald hx hb hK hP 1 0 rfl rfl g2 dX3_holds_37 ?_
      refine lv_i2l hx hb dX3_holds_38 rfl ?_
      refine lv_lload_n hx hb dX3_holds_39 rfl (lv_at hl 2 rfl) ?_
      refine W.lcmp hx hb dX3_holds_40 ?_
      refine lv_if_ne (tgt := 48) hx hb dX3_holds_41 (by decide) (fun c3 => ?_) (fun c3 => ?_)
      · have hf := ie hf c3
        refine lv_iconst (v := 0) hx hb dX3_holds_48 (by decide) ?_
        have e0 := rt1 hf
        exact W.zret (v := (0 : Int32)) hx hb hr rfl (fun t ht hW => ⟨⟨(0 : Int32), (), rfl, e0, by rw [ht]; exact hP, va_K.moved hW.alike hK, by rw [hAe]; exact hD⟩, hS.F ht⟩) hS.2.2 dX3_holds_49
      · have hf := it hf c3
        refine lv_iconst (v := 1) hx hb dX3_holds_44 (by decide) ?_
        refine lv_goto (tgt := 49) hx hb dX3_holds_45 (by decide) ?_
        have e0 := rt1 hf
        exact W.zret (v := (1 : Int32)) hx hb hr rfl (fun t ht hW => ⟨⟨(1 : Int32), (), rfl, e0, by rw [ht]; exact hP, va_K.moved hW.alike hK, by rw [hAe]; exact hD⟩, hS.F ht⟩) hS.2.2 dX3_holds_49
    have hf := ie hf c1
    by_cases c4 : s_sort = 1
    · have hf := it hf c4
      refine lv_tableIn (tgt := 50) hx hb dX3_holds_4 (by rw [c4]; decide) (by rw [c4]; decide) (off := 46) (by rw [c4]; rfl) (by decide) ?_
      refine lv_aload_n hx hb dX3_holds_50 rfl (lv_at hl 0 rfl) ?_
      refine va_get (D := G) (ci := 2) (v := .ref (qs 2)) (C := RX3) (T := TX3) (N := 7) hx hb hts inX3w hown hK hP 0 rfl rfl 1 (by decide) wd3 (fun _ h9 => h9) rfl dX3_holds_51 ?_
      refine lv_iload_n hx hb dX3_holds_54 rfl (lv_at hl 1 rfl) ?_
      obtain ⟨g5, hf⟩ := gd hf
      refine va_lald hx hb hK hP 2 1 rfl rfl g5 dX3_holds_55 ?_
      refine lv_lload_n hx hb dX3_holds_56 rfl (lv_at hl 2 rfl) ?_
      refine W.lcmp hx hb dX3_holds_57 ?_
      refine lv_if_ne (tgt := 65) hx hb dX3_holds_58 (by decide) (fun c6 => ?_) (fun c6 => ?_)
      · have hf := ie hf c6
        refine lv_iconst (v := 0) hx hb dX3_holds_65 (by decide) ?_
        have e0 := rt1 hf
        exact W.zret (v := (0 : Int32)) hx hb hr rfl (fun t ht hW => ⟨⟨(0 : Int32), (), rfl, e0, by rw [ht]; exact hP, va_K.moved hW.alike hK, by rw [hAe]; exact hD⟩, hS.F ht⟩) hS.2.2 dX3_holds_66
      · have hf := it hf c6
        refine lv_iconst (v := 1) hx hb dX3_holds_61 (by decide) ?_
        refine lv_goto (tgt := 66) hx hb dX3_holds_62 (by decide) ?_
        have e0 := rt1 hf
        exact W.zret (v := (1 : Int32)) hx hb hr rfl (fun t ht hW => ⟨⟨(1 : Int32), (), rfl, e0, by rw [ht]; exact hP, va_K.moved hW.alike hK, by rw [hAe]; exact hD⟩, hS.F ht⟩) hS.2.2 dX3_holds_66
    have hf := ie hf c4
    by_cases c7 : s_sort = 2
    · have hf := it hf c7
      refine lv_tableIn (tgt := 67) hx hb dX3_holds_4 (by rw [c7]; decide) (by rw [c7]; decide) (off := 63) (by rw [c7]; rfl) (by decide) ?_
      refine lv_aload_n hx hb dX3_holds_67 rfl (lv_at hl 0 rfl) ?_
      refine va_get (D := G) (ci := 2) (v := .ref (qs 3)) (C := RX3) (T := TX3) (N := 7) hx hb hts inX3w hown hK hP 0 rfl rfl 2 (by decide) wd4 (fun _ h9 => h9) rfl dX3_holds_68 ?_
      refine lv_iload_n hx hb dX3_holds_71 rfl (lv_at hl 1 rfl) ?_
      obtain ⟨g8, hf⟩ := gd hf
      refine va_fald hx hb hK hP 3 2 rfl rfl g8 dX3_holds_72 ?_
      refine lv_lload_n hx hb dX3_holds_73 rfl (lv_at hl 2 rfl) ?_
      refine lv_l2f hx hb dX3_holds_74 ?_
      refine lv_fcmp hx hb dX3_holds_75 ?_
      refine lv_if_ne (tgt := 83) hx hb dX3_holds_76 (by decide) (fun c9 => ?_) (fun c9 => ?_)
      · have hf := ie hf c9
        refine lv_iconst (v := 0) hx hb dX3_holds_83 (by decide) ?_
        have e0 := rt1 hf
        exact W.zret (v := (0 : Int32)) hx hb hr rfl (fun t ht hW => ⟨⟨(0 : Int32), (), rfl, e0, by rw [ht]; exact hP, va_K.moved hW.alike hK, by rw [hAe]; exact hD⟩, hS.F ht⟩) hS.2.2 dX3_holds_84
      · have hf := it hf c9
        refine lv_iconst (v := 1) hx hb dX3_holds_79 (by decide) ?_
        refine lv_goto (tgt := 84) hx hb dX3_holds_80 (by decide) ?_
        have e0 := rt1 hf
        exact W.zret (v := (1 : Int32)) hx hb hr rfl (fun t ht hW => ⟨⟨(1 : Int32), (), rfl, e0, by rw [ht]; exact hP, va_K.moved hW.alike hK, by rw [hAe]; exact hD⟩, hS.F ht⟩) hS.2.2 dX3_holds_84
    have hf := ie hf c7
    have t_c1 : ¬ s_sort.toInt = 0 := lv_neT c1 (by decide)
    have t_c4 : ¬ s_sort.toInt = 1 := lv_neT c4 (by decide)
    have t_c7 : ¬ s_sort.toInt = 2 := lv_neT c7 (by decide)
    refine lv_tableOut (tgt := 85) hx hb dX3_holds_4 (by omega) (by decide) ?_
    refine lv_aload_n hx hb dX3_holds_85 rfl (lv_at hl 0 rfl) ?_
    refine va_get (D := G) (ci := 2) (v := .ref (qs 4)) (C := RX3) (T := TX3) (N := 7) hx hb hts inX3w hown hK hP 0 rfl rfl 3 (by decide) wd5 (fun _ h9 => h9) rfl dX3_holds_86 ?_
    refine lv_iload_n hx hb dX3_holds_89 rfl (lv_at hl 1 rfl) ?_
    obtain ⟨g10, hf⟩ := gd hf
    refine va_dald hx hb hK hP 4 3 rfl rfl g10 dX3_holds_90 ?_
    refine lv_lload_n hx hb dX3_holds_91 rfl (lv_at hl 2 rfl) ?_
    refine lv_l2d hx hb dX3_holds_92 ?_
    refine lv_dcmp hx hb dX3_holds_93 ?_
    refine lv_if_ne (tgt := 101) hx hb dX3_holds_94 (by decide) (fun c11 => ?_) (fun c11 => ?_)
    · have hf := ie hf c11
      refine lv_iconst (v := 0) hx hb dX3_holds_101 (by decide) ?_
      have e0 := rt1 hf
      exact W.zret (v := (0 : Int32)) hx hb hr rfl (fun t ht hW => ⟨⟨(0 : Int32), (), rfl, e0, by rw [ht]; exact hP, va_K.moved hW.alike hK, by rw [hAe]; exact hD⟩, hS.F ht⟩) hS.2.2 dX3_holds_102
    · have hf := it hf c11
      refine lv_iconst (v := 1) hx hb dX3_holds_97 (by decide) ?_
      refine lv_goto (tgt := 102) hx hb dX3_holds_98 (by decide) ?_
      have e0 := rt1 hf
      exact W.zret (v := (1 : Int32)) hx hb hr rfl (fun t ht hW => ⟨⟨(1 : Int32), (), rfl, e0, by rw [ht]; exact hP, va_K.moved hW.alike hK, by rw [hAe]; exact hD⟩, hS.F ht⟩) hS.2.2 dX3_holds_102
  exact E0 s.heap [] hP hD hS ls hl
-- X3_isNegative
set_option maxRecDepth 100000 in
set_option maxHeartbeats 4000000 in
theorem c_X3_isNegative (l : Launch) (G : va_G) (Y : Nat → ClassId) (sz : Nat) (qs : Nat → Nat) (s_ints : Nat → Int32) (s_longs : Nat → Int64) (s_signs : Nat → Int32) (s_sort : Int32) (s_size : Int32) (p1 : Int32) (rv : Int32) (hf : f_X3_isNegative s_ints s_longs s_signs s_sort p1 = some (rv)) : Met l yX3_isNegative wsX3_isNegative (rmk 0 0) (va_Pc [.ref (qs 0), .int p1] (Pre G (tys Y) [(qs 0, oX3 qs s_sort s_size), (qs 1, .inl (Y 0, 60, .inl s_ints)), (qs 2, .inl (Y 1, 60, .inr (.inl s_longs))), (qs 5, .inl (Y 0, 60, .inl s_signs))] sz xT)) (va_Qi (fun (r : Int32) (_ : Unit) => r = rv) (Pst G (tys Y) [(qs 0, oX3 qs s_sort s_size), (qs 1, .inl (Y 0, 60, .inl s_ints)), (qs 2, .inl (Y 1, 60, .inr (.inl s_longs))), (qs 5, .inl (Y 0, 60, .inl s_signs))] sz [(qs 0, oX3 qs s_sort s_size), (qs 1, .inl (Y 0, 60, .inl s_ints)), (qs 2, .inl (Y 1, 60, .inr (.inl s_longs))), (qs 5, .inl (Y 0, 60, .inl s_signs))]) (va_A [(qs 0, oX3 qs s_sort s_size), (qs 1, .inl (Y 0, 60, .inl s_ints)), (qs 2, .inl (Y 1, 60, .inr (.inl s_longs))), (qs 5, .inl (Y 0, 60, .inl s_signs))] sz)) 0 0 (va_A [(qs 0, oX3 qs s_sort s_size), (qs 1, .inl (Y 0, 60, .inl s_ints)), (qs 2, .inl (Y 1, 60, .inr (.inl s_longs))), (qs 5, .inl (Y 0, 60, .inl s_signs))] sz) := by
  refine Met.ofW (cc := cX3_isNegative) (maxL := 2) (ret := (some .boolean)) (by decide) rfl ?_
  intro p e s m args below meth c s₁ B hml hv
  obtain ⟨rfl, hsz, hP, hK, hD0, hX⟩ := hv
  have hx := B.exec
  have hb := B.bytes
  have hr := B.returns
  have hts := atoms_spec (ws := wsX3_isNegative) B.pre
  have hown : s.vm.findClass RX3 = some m.cls := findClass_of_methodNamed B.named
  have hlocks := B.notSynchronized
  subst hsz
  have hD := hD0.self (sz := s.heap.size)
  generalize hAe : va_A [(qs 0, oX3 qs s_sort s_size), (qs 1, .inl (Y 0, 60, .inl s_ints)), (qs 2, .inl (Y 1, 60, .inr (.inl s_longs))), (qs 5, .inl (Y 0, 60, .inl s_signs))] s.heap.size = A at hD ⊢
  have hA : ∀ q : Nat, s.heap.size ≤ q → A q := fun q h => by rw [← hAe]; exact Or.inr h
  have hS : va_S A s.heap s.heap [] := va_S.rf
  have hP : va_P G vwCl [(qs 0, oX3 qs s_sort s_size), (qs 1, .inl (Y 0, 60, .inl s_ints)), (qs 2, .inl (Y 1, 60, .inr (.inl s_longs))), (qs 5, .inl (Y 0, 60, .inl s_signs))] s.heap := hP
  have wd1 : (Cond.fieldLink RX3 30 "PairedLines$Sheet" "sort" "I").before [.ref (qs 0), .int p1].toArray s = true := hts _ (List.mem_of_getElem? (i := 1) rfl)
  have wd2 : (Cond.fieldLink RX3 9 "PairedLines$Sheet" "ints" "[I").before [.ref (qs 0), .int p1].toArray s = true := hts _ (List.mem_of_getElem? (i := 2) rfl)
  have wd3 : (Cond.fieldLink RX3 15 "PairedLines$Sheet" "longs" "[J").before [.ref (qs 0), .int p1].toArray s = true := hts _ (List.mem_of_getElem? (i := 3) rfl)
  have wd4 : (Cond.fieldLink RX3 27 "PairedLines$Sheet" "signs" "[I").before [.ref (qs 0), .int p1].toArray s = true := hts _ (List.mem_of_getElem? (i := 4) rfl)
  have inX3w : ∀ w ∈ u_ws RX3 TX3 7, w ∈ wsX3_isNegative := fun w hw => List.mem_cons_of_mem _ (List.mem_append_right _ (hw))
  have hl := lv_entry ([.ref (qs 0), .int p1]) (n := 2) (Nat.le_of_ble_eq_true rfl)
  rw [lg_entry_eq]
  generalize (lg_sl ([.ref (qs 0), .int p1]) ++ List.replicate (2 - (lg_sl ([.ref (qs 0), .int p1])).length) Slot.unset).toArray = ls at hl ⊢
  have hl : lv_has ls 2 [(0, .ref (qs 0)), (1, .int p1)] := hl
  have E0 : ∀ (H : Heap) (locs : List Loc), va_P G vwCl [(qs 0, oX3 qs s_sort s_size), (qs 1, .inl (Y 0, 60, .inl s_ints)), (qs 2, .inl (Y 1, 60, .inr (.inl s_longs))), (qs 5, .inl (Y 0, 60, .inl s_signs))] H → va_D A [(qs 0, oX3 qs s_sort s_size), (qs 1, .inl (Y 0, 60, .inl s_ints)), (qs 2, .inl (Y 1, 60, .inr (.inl s_longs))), (qs 5, .inl (Y 0, 60, .inl s_signs))] → va_S A s.heap H locs → ∀ (ls : Array Slot), lv_has ls 2 [(0, .ref (qs 0)), (1, .int p1)] → W p l e (headSpec wsX3_isNegative (rmk 0 0)).room s m [.ref (qs 0), .int p1].toArray below meth c H locs 0 0 (MQ below (va_Qi (fun (r : Int32) (_ : Unit) => r = rv) (Pst G (tys Y) [(qs 0, oX3 qs s_sort s_size), (qs 1, .inl (Y 0, 60, .inl s_ints)), (qs 2, .inl (Y 1, 60, .inr (.inl s_longs))), (qs 5, .inl (Y 0, 60, .inl s_signs))] s.heap.size [(qs 0, oX3 qs s_sort s_size), (qs 1, .inl (Y 0, 60, .inl s_ints)), (qs 2, .inl (Y 1, 60, .inr (.inl s_longs))), (qs 5, .inl (Y 0, 60, .inl s_signs))]) A) [.ref (qs 0), .int p1].toArray s 0 0 A) (F0 m 0 ls []) := by
    intro H locs hP hD hS ls hl
    unfold f_X3_isNegative at hf
    refine lv_aload_n hx hb dX3_isNegative_0 rfl (lv_at hl 0 rfl) ?_
    refine va_get (D := G) (ci := 2) (v := .int s_sort) (C := RX3) (T := TX3) (N := 7) hx hb hts inX3w hown hK hP 0 rfl rfl 5 (by decide) wd1 (fun _ h9 => h9) rfl dX3_isNegative_1 ?_
    by_cases c1 : s_sort = 0
    · have hf := it hf c1
      refine lv_lookup (tgt := 32) hx hb dX3_isNegative_4 (by decide) (off := 28) (by rw [c1]; rfl) (by decide) ?_
      refine lv_aload_n hx hb dX3_isNegative_32 rfl (lv_at hl 0 rfl) ?_
      refine va_get (D := G) (ci := 2) (v := .ref (qs 1)) (C := RX3) (T := TX3) (N := 7) hx hb hts inX3w hown hK hP 0 rfl rfl 0 (by decide) wd2 (fun _ h9 => h9) rfl dX3_isNegative_33 ?_
      refine lv_iload_n hx hb dX3_isNegative_36 rfl (lv_at hl 1 rfl) ?_
      obtain ⟨g2, hf⟩ := gd hf
      refine va_iald hx hb hK hP 1 0 rfl rfl g2 dX3_isNegative_37 ?_
      refine lv_if_ge (tgt := 45) hx hb dX3_isNegative_38 (by decide) (fun c3 => ?_) (fun c3 => ?_)
      · have hf := it hf c3
        refine lv_iconst (v := 0) hx hb dX3_isNegative_45 (by decide) ?_
        have e0 := rt1 hf
        exact W.zret (v := (0 : Int32)) hx hb hr rfl (fun t ht hW => ⟨⟨(0 : Int32), (), rfl, e0, by rw [ht]; exact hP, va_K.moved hW.alike hK, by rw [hAe]; exact hD⟩, hS.F ht⟩) hS.2.2 dX3_isNegative_46
      · have hf := ie hf c3
        refine lv_iconst (v := 1) hx hb dX3_isNegative_41 (by decide) ?_
        refine lv_goto (tgt := 46) hx hb dX3_isNegative_42 (by decide) ?_
        have e0 := rt1 hf
        exact W.zret (v := (1 : Int32)) hx hb hr rfl (fun t ht hW => ⟨⟨(1 : Int32), (), rfl, e0, by rw [ht]; exact hP, va_K.moved hW.alike hK, by rw [hAe]; exact hD⟩, hS.F ht⟩) hS.2.2 dX3_isNegative_46
    have hf := ie hf c1
    by_cases c4 : s_sort = 1
    · have hf := it hf c4
      refine lv_lookup (tgt := 47) hx hb dX3_isNegative_4 (by decide) (off := 43) (by rw [c4]; rfl) (by decide) ?_
      refine lv_aload_n hx hb dX3_isNegative_47 rfl (lv_at hl 0 rfl) ?_
      refine va_get (D := G) (ci := 2) (v := .ref (qs 2)) (C := RX3) (T := TX3) (N := 7) hx hb hts inX3w hown hK hP 0 rfl rfl 1 (by decide) wd3 (fun _ h9 => h9) rfl dX3_isNegative_48 ?_
      refine lv_iload_n hx hb dX3_isNegative_51 rfl (lv_at hl 1 rfl) ?_
      obtain ⟨g5, hf⟩ := gd hf
      refine va_lald hx hb hK hP 2 1 rfl rfl g5 dX3_isNegative_52 ?_
      refine lv_lconst (v := 0) hx hb dX3_isNegative_53 (by decide) ?_
      refine W.lcmp hx hb dX3_isNegative_54 ?_
      refine lv_if_ge (tgt := 62) hx hb dX3_isNegative_55 (by decide) (fun c6 => ?_) (fun c6 => ?_)
      · have hf := it hf c6
        refine lv_iconst (v := 0) hx hb dX3_isNegative_62 (by decide) ?_
        have e0 := rt1 hf
        exact W.zret (v := (0 : Int32)) hx hb hr rfl (fun t ht hW => ⟨⟨(0 : Int32), (), rfl, e0, by rw [ht]; exact hP, va_K.moved hW.alike hK, by rw [hAe]; exact hD⟩, hS.F ht⟩) hS.2.2 dX3_isNegative_63
      · have hf := ie hf c6
        refine lv_iconst (v := 1) hx hb dX3_isNegative_58 (by decide) ?_
        refine lv_goto (tgt := 63) hx hb dX3_isNegative_59 (by decide) ?_
        have e0 := rt1 hf
        exact W.zret (v := (1 : Int32)) hx hb hr rfl (fun t ht hW => ⟨⟨(1 : Int32), (), rfl, e0, by rw [ht]; exact hP, va_K.moved hW.alike hK, by rw [hAe]; exact hD⟩, hS.F ht⟩) hS.2.2 dX3_isNegative_63
    have hf := ie hf c4
    refine lv_lookup (tgt := 64) hx hb dX3_isNegative_4 (by decide) (off := 60) (by show Op.lookupswitch.offset [(0, 28), (1, 43)] 60 s_sort.toInt = 60; rw [lv_osw c1 (by decide), lv_osw c4 (by decide)]; rfl) (by decide) ?_
    refine lv_aload_n hx hb dX3_isNegative_64 rfl (lv_at hl 0 rfl) ?_
    refine va_get (D := G) (ci := 2) (v := .ref (qs 5)) (C := RX3) (T := TX3) (N := 7) hx hb hts inX3w hown hK hP 0 rfl rfl 4 (by decide) wd4 (fun _ h9 => h9) rfl dX3_isNegative_65 ?_
    refine lv_iload_n hx hb dX3_isNegative_68 rfl (lv_at hl 1 rfl) ?_
    obtain ⟨g7, hf⟩ := gd hf
    refine va_iald hx hb hK hP 3 0 rfl rfl g7 dX3_isNegative_69 ?_
    refine lv_if_ge (tgt := 77) hx hb dX3_isNegative_70 (by decide) (fun c8 => ?_) (fun c8 => ?_)
    · have hf := it hf c8
      refine lv_iconst (v := 0) hx hb dX3_isNegative_77 (by decide) ?_
      have e0 := rt1 hf
      exact W.zret (v := (0 : Int32)) hx hb hr rfl (fun t ht hW => ⟨⟨(0 : Int32), (), rfl, e0, by rw [ht]; exact hP, va_K.moved hW.alike hK, by rw [hAe]; exact hD⟩, hS.F ht⟩) hS.2.2 dX3_isNegative_78
    · have hf := ie hf c8
      refine lv_iconst (v := 1) hx hb dX3_isNegative_73 (by decide) ?_
      refine lv_goto (tgt := 78) hx hb dX3_isNegative_74 (by decide) ?_
      have e0 := rt1 hf
      exact W.zret (v := (1 : Int32)) hx hb hr rfl (fun t ht hW => ⟨⟨(1 : Int32), (), rfl, e0, by rw [ht]; exact hP, va_K.moved hW.alike hK, by rw [hAe]; exact hD⟩, hS.F ht⟩) hS.2.2 dX3_isNegative_78
  exact E0 s.heap [] hP hD hS ls hl
-- X3_asItIs
set_option maxRecDepth 100000 in
set_option maxHeartbeats 4000000 in
theorem c_X3_asItIs (l : Launch) (G : va_G) (Y : Nat → ClassId) (sz : Nat) (qs : Nat → Nat) (s_ints : Nat → Int32) (s_longs : Nat → Int64) (s_floats : Nat → UInt32) (s_doubles : Nat → UInt64) (s_signs : Nat → Int32) (s_sort : Int32) (s_size : Int32) (p1 : Int32) (rv : Int64) (hf : f_X3_asItIs s_ints s_longs s_floats s_doubles s_signs s_sort p1 = some (rv)) : Met l yX3_asItIs wsX3_asItIs (rmk 2 54) (va_Pc [.ref (qs 0), .int p1] (Pre G (tys Y) [(qs 0, oX3 qs s_sort s_size), (qs 1, .inl (Y 0, 60, .inl s_ints)), (qs 2, .inl (Y 1, 60, .inr (.inl s_longs))), (qs 3, .inl (Y 2, 60, .inr (.inr (.inl s_floats)))), (qs 4, .inl (Y 3, 60, .inr (.inr (.inr (.inl s_doubles))))), (qs 5, .inl (Y 0, 60, .inl s_signs))] sz xT)) (va_Ql (fun (r : Int64) (_ : Unit) => r = rv) (Pst G (tys Y) [(qs 0, oX3 qs s_sort s_size), (qs 1, .inl (Y 0, 60, .inl s_ints)), (qs 2, .inl (Y 1, 60, .inr (.inl s_longs))), (qs 3, .inl (Y 2, 60, .inr (.inr (.inl s_floats)))), (qs 4, .inl (Y 3, 60, .inr (.inr (.inr (.inl s_doubles))))), (qs 5, .inl (Y 0, 60, .inl s_signs))] sz [(qs 0, oX3 qs s_sort s_size), (qs 1, .inl (Y 0, 60, .inl s_ints)), (qs 2, .inl (Y 1, 60, .inr (.inl s_longs))), (qs 3, .inl (Y 2, 60, .inr (.inr (.inl s_floats)))), (qs 4, .inl (Y 3, 60, .inr (.inr (.inr (.inl s_doubles))))), (qs 5, .inl (Y 0, 60, .inl s_signs))]) (va_A [(qs 0, oX3 qs s_sort s_size), (qs 1, .inl (Y 0, 60, .inl s_ints)), (qs 2, .inl (Y 1, 60, .inr (.inl s_longs))), (qs 3, .inl (Y 2, 60, .inr (.inr (.inl s_floats)))), (qs 4, .inl (Y 3, 60, .inr (.inr (.inr (.inl s_doubles))))), (qs 5, .inl (Y 0, 60, .inl s_signs))] sz)) 0 0 (va_A [(qs 0, oX3 qs s_sort s_size), (qs 1, .inl (Y 0, 60, .inl s_ints)), (qs 2, .inl (Y 1, 60, .inr (.inl s_longs))), (qs 3, .inl (Y 2, 60, .inr (.inr (.inl s_floats)))), (qs 4, .inl (Y 3, 60, .inr (.inr (.inr (.inl s_doubles))))), (qs 5, .inl (Y 0, 60, .inl s_signs))] sz) := by
  refine Met.ofW (cc := cX3_asItIs) (maxL := 2) (ret := (some .long)) (by decide) rfl ?_
  intro p e s m args below meth c s₁ B hml hv
  obtain ⟨rfl, hsz, hP, hK, hD0, hX⟩ := hv
  have hx := B.exec
  have hb := B.bytes
  have hr := B.returns
  have hts := atoms_spec (ws := wsX3_asItIs) B.pre
  have hown : s.vm.findClass RX3 = some m.cls := findClass_of_methodNamed B.named
  have hlocks := B.notSynchronized
  subst hsz
  have hD := hD0.self (sz := s.heap.size)
  generalize hAe : va_A [(qs 0, oX3 qs s_sort s_size), (qs 1, .inl (Y 0, 60, .inl s_ints)), (qs 2, .inl (Y 1, 60, .inr (.inl s_longs))), (qs 3, .inl (Y 2, 60, .inr (.inr (.inl s_floats)))), (qs 4, .inl (Y 3, 60, .inr (.inr (.inr (.inl s_doubles))))), (qs 5, .inl (Y 0, 60, .inl s_signs))] s.heap.size = A at hD ⊢
  have hA : ∀ q : Nat, s.heap.size ≤ q → A q := fun q h => by rw [← hAe]; exact Or.inr h
  have hS : va_S A s.heap s.heap [] := va_S.rf
  have hP : va_P G vwCl [(qs 0, oX3 qs s_sort s_size), (qs 1, .inl (Y 0, 60, .inl s_ints)), (qs 2, .inl (Y 1, 60, .inr (.inl s_longs))), (qs 3, .inl (Y 2, 60, .inr (.inr (.inl s_floats)))), (qs 4, .inl (Y 3, 60, .inr (.inr (.inr (.inl s_doubles))))), (qs 5, .inl (Y 0, 60, .inl s_signs))] s.heap := hP
  have wd1 : (Cond.fieldLink RX3 30 "PairedLines$Sheet" "sort" "I").before [.ref (qs 0), .int p1].toArray s = true := hts _ (List.mem_of_getElem? (i := 1) rfl)
  have wd2 : (Cond.fieldLink RX3 9 "PairedLines$Sheet" "ints" "[I").before [.ref (qs 0), .int p1].toArray s = true := hts _ (List.mem_of_getElem? (i := 2) rfl)
  have wd3 : (Cond.fieldLink RX3 15 "PairedLines$Sheet" "longs" "[J").before [.ref (qs 0), .int p1].toArray s = true := hts _ (List.mem_of_getElem? (i := 3) rfl)
  have wd4 : (Cond.fieldLink RX3 19 "PairedLines$Sheet" "floats" "[F").before [.ref (qs 0), .int p1].toArray s = true := hts _ (List.mem_of_getElem? (i := 4) rfl)
  have wd5 : (Cond.fieldLink RX3 23 "PairedLines$Sheet" "doubles" "[D").before [.ref (qs 0), .int p1].toArray s = true := hts _ (List.mem_of_getElem? (i := 5) rfl)
  have inX3w : ∀ w ∈ u_ws RX3 TX3 7, w ∈ wsX3_asItIs := fun w hw => List.mem_cons_of_mem _ (List.mem_append_right _ (hw))
  have hl := lv_entry ([.ref (qs 0), .int p1]) (n := 2) (Nat.le_of_ble_eq_true rfl)
  rw [lg_entry_eq]
  generalize (lg_sl ([.ref (qs 0), .int p1]) ++ List.replicate (2 - (lg_sl ([.ref (qs 0), .int p1])).length) Slot.unset).toArray = ls at hl ⊢
  have hl : lv_has ls 2 [(0, .ref (qs 0)), (1, .int p1)] := hl
  have E0 : ∀ (H : Heap) (locs : List Loc), va_P G vwCl [(qs 0, oX3 qs s_sort s_size), (qs 1, .inl (Y 0, 60, .inl s_ints)), (qs 2, .inl (Y 1, 60, .inr (.inl s_longs))), (qs 3, .inl (Y 2, 60, .inr (.inr (.inl s_floats)))), (qs 4, .inl (Y 3, 60, .inr (.inr (.inr (.inl s_doubles))))), (qs 5, .inl (Y 0, 60, .inl s_signs))] H → va_D A [(qs 0, oX3 qs s_sort s_size), (qs 1, .inl (Y 0, 60, .inl s_ints)), (qs 2, .inl (Y 1, 60, .inr (.inl s_longs))), (qs 3, .inl (Y 2, 60, .inr (.inr (.inl s_floats)))), (qs 4, .inl (Y 3, 60, .inr (.inr (.inr (.inl s_doubles))))), (qs 5, .inl (Y 0, 60, .inl s_signs))] → va_S A s.heap H locs → ∀ (ls : Array Slot), lv_has ls 2 [(0, .ref (qs 0)), (1, .int p1)] → W p l e (headSpec wsX3_asItIs (rmk 2 54)).room s m [.ref (qs 0), .int p1].toArray below meth c H locs 0 0 (MQ below (va_Ql (fun (r : Int64) (_ : Unit) => r = rv) (Pst G (tys Y) [(qs 0, oX3 qs s_sort s_size), (qs 1, .inl (Y 0, 60, .inl s_ints)), (qs 2, .inl (Y 1, 60, .inr (.inl s_longs))), (qs 3, .inl (Y 2, 60, .inr (.inr (.inl s_floats)))), (qs 4, .inl (Y 3, 60, .inr (.inr (.inr (.inl s_doubles))))), (qs 5, .inl (Y 0, 60, .inl s_signs))] s.heap.size [(qs 0, oX3 qs s_sort s_size), (qs 1, .inl (Y 0, 60, .inl s_ints)), (qs 2, .inl (Y 1, 60, .inr (.inl s_longs))), (qs 3, .inl (Y 2, 60, .inr (.inr (.inl s_floats)))), (qs 4, .inl (Y 3, 60, .inr (.inr (.inr (.inl s_doubles))))), (qs 5, .inl (Y 0, 60, .inl s_signs))]) A) [.ref (qs 0), .int p1].toArray s 0 0 A) (F0 m 0 ls []) := by
    intro H locs hP hD hS ls hl
    unfold f_X3_asItIs at hf
    refine lv_aload_n hx hb dX3_asItIs_0 rfl (lv_at hl 0 rfl) ?_
    refine va_get (D := G) (ci := 2) (v := .int s_sort) (C := RX3) (T := TX3) (N := 7) hx hb hts inX3w hown hK hP 0 rfl rfl 5 (by decide) wd1 (fun _ h9 => h9) rfl dX3_asItIs_1 ?_
    by_cases c1 : s_sort = 0
    · have hf := it hf c1
      refine lv_tableIn (tgt := 32) hx hb dX3_asItIs_4 (by rw [c1]; decide) (by rw [c1]; decide) (off := 28) (by rw [c1]; rfl) (by decide) ?_
      refine lv_aload_n hx hb dX3_asItIs_32 rfl (lv_at hl 0 rfl) ?_
      refine va_get (D := G) (ci := 2) (v := .ref (qs 1)) (C := RX3) (T := TX3) (N := 7) hx hb hts inX3w hown hK hP 0 rfl rfl 0 (by decide) wd2 (fun _ h9 => h9) rfl dX3_asItIs_33 ?_
      refine lv_iload_n hx hb dX3_asItIs_36 rfl (lv_at hl 1 rfl) ?_
      obtain ⟨g2, hf⟩ := gd hf
      refine va_iald hx hb hK hP 1 0 rfl rfl g2 dX3_asItIs_37 ?_
      refine lv_i2l hx hb dX3_asItIs_38 rfl ?_
      have e0 := rt1 hf
      exact W.lret (v := (s_ints p1.toNatClampNeg).toInt64) hx hb hr (fun t ht hW => ⟨⟨(s_ints p1.toNatClampNeg).toInt64, (), rfl, e0, by rw [ht]; exact hP, va_K.moved hW.alike hK, by rw [hAe]; exact hD⟩, hS.F ht⟩) hS.2.2 dX3_asItIs_39
    have hf := ie hf c1
    by_cases c3 : s_sort = 1
    · have hf := it hf c3
      refine lv_tableIn (tgt := 40) hx hb dX3_asItIs_4 (by rw [c3]; decide) (by rw [c3]; decide) (off := 36) (by rw [c3]; rfl) (by decide) ?_
      refine lv_aload_n hx hb dX3_asItIs_40 rfl (lv_at hl 0 rfl) ?_
      refine va_get (D := G) (ci := 2) (v := .ref (qs 2)) (C := RX3) (T := TX3) (N := 7) hx hb hts inX3w hown hK hP 0 rfl rfl 1 (by decide) wd3 (fun _ h9 => h9) rfl dX3_asItIs_41 ?_
      refine lv_iload_n hx hb dX3_asItIs_44 rfl (lv_at hl 1 rfl) ?_
      obtain ⟨g4, hf⟩ := gd hf
      refine va_lald hx hb hK hP 2 1 rfl rfl g4 dX3_asItIs_45 ?_
      have e0 := rt1 hf
      exact W.lret (v := (s_longs p1.toNatClampNeg)) hx hb hr (fun t ht hW => ⟨⟨(s_longs p1.toNatClampNeg), (), rfl, e0, by rw [ht]; exact hP, va_K.moved hW.alike hK, by rw [hAe]; exact hD⟩, hS.F ht⟩) hS.2.2 dX3_asItIs_46
    have hf := ie hf c3
    by_cases c5 : s_sort = 2
    · have hf := it hf c5
      refine lv_tableIn (tgt := 47) hx hb dX3_asItIs_4 (by rw [c5]; decide) (by rw [c5]; decide) (off := 43) (by rw [c5]; rfl) (by decide) ?_
      refine lv_aload_n hx hb dX3_asItIs_47 rfl (lv_at hl 0 rfl) ?_
      refine va_get (D := G) (ci := 2) (v := .ref (qs 3)) (C := RX3) (T := TX3) (N := 7) hx hb hts inX3w hown hK hP 0 rfl rfl 2 (by decide) wd4 (fun _ h9 => h9) rfl dX3_asItIs_48 ?_
      refine lv_iload_n hx hb dX3_asItIs_51 rfl (lv_at hl 1 rfl) ?_
      obtain ⟨g6, hf⟩ := gd hf
      refine va_fald hx hb hK hP 3 2 rfl rfl g6 dX3_asItIs_52 ?_
      refine lv_aload_n hx hb dX3_asItIs_53 rfl (lv_at hl 0 rfl) ?_
      refine lv_iload_n hx hb dX3_asItIs_54 rfl (lv_at hl 1 rfl) ?_
      obtain ⟨r7, hc, hf⟩ := bd1 hf
      refine cl_i (ws' := [(qs 0, oX3 qs s_sort s_size), (qs 1, .inl (Y 0, 60, .inl s_ints)), (qs 2, .inl (Y 1, 60, .inr (.inl s_longs))), (qs 3, .inl (Y 2, 60, .inr (.inr (.inl s_floats)))), (qs 4, .inl (Y 3, 60, .inr (.inr (.inr (.inl s_doubles))))), (qs 5, .inl (Y 0, 60, .inl s_signs))]) (wr := [(qs 3, .inl (Y 2, 60, .inr (.inr (.inl s_floats)))), (qs 4, .inl (Y 3, 60, .inr (.inr (.inr (.inl s_doubles)))))]) (rnV (As := [.int p1]) (rest := [.float (s_floats p1.toNatClampNeg)]) ⟨hx, hb, hml, hown, hts⟩ (c_X3_isNegative l G Y H.size qs s_ints s_longs s_signs s_sort s_size p1 r7 hc) (cwV 1 hts gX3_asItIs_X3_isNegative rfl rfl rfl (by decide +kernel) ⟨(Nat.le_of_ble_eq_true rfl), (Nat.le_of_ble_eq_true rfl)⟩) trivial okT hK hP hD [0, 1, 2, 5] rfl rfl (ci := 2) (q0 := 0) rfl rfl rfl rfl hl.1 rfl (Nat.le_of_ble_eq_true rfl) dX3_asItIs_55) hP hD hS hA [0, 1, 2, 5] [3, 4] [2, 3, 4, 0, 1, 5] rfl rfl rfl (by decide) rfl rfl (fun H locs hP hD hS => ?_)
      obtain ⟨r8, hc, hf⟩ := bd1 hf
      refine cl_i (ws' := [(qs 0, oX3 qs s_sort s_size), (qs 1, .inl (Y 0, 60, .inl s_ints)), (qs 2, .inl (Y 1, 60, .inr (.inl s_longs))), (qs 3, .inl (Y 2, 60, .inr (.inr (.inl s_floats)))), (qs 4, .inl (Y 3, 60, .inr (.inr (.inr (.inl s_doubles))))), (qs 5, .inl (Y 0, 60, .inl s_signs))]) (wr := [(qs 0, oX3 qs s_sort s_size), (qs 1, .inl (Y 0, 60, .inl s_ints)), (qs 2, .inl (Y 1, 60, .inr (.inl s_longs))), (qs 3, .inl (Y 2, 60, .inr (.inr (.inl s_floats)))), (qs 4, .inl (Y 3, 60, .inr (.inr (.inr (.inl s_doubles))))), (qs 5, .inl (Y 0, 60, .inl s_signs))]) (rnS (As := [.float (s_floats p1.toNatClampNeg), .int r7]) (rest := []) ⟨hx, hb, hml, hown, hts⟩ (c_X0_ofFloat l G Y H.size (s_floats p1.toNatClampNeg) r7 r8 hc) (va_cwS 2 hts gX3_asItIs_X0_ofFloat rfl rfl rfl (by decide +kernel) ⟨(Nat.le_of_ble_eq_true rfl), (Nat.le_of_ble_eq_true rfl)⟩) trivial okT hK hP hD [] rfl rfl rfl hl.1 rfl (Nat.le_of_ble_eq_true rfl) dX3_asItIs_58) hP hD hS hA [] [0, 1, 2, 3, 4, 5] [0, 1, 2, 3, 4, 5] rfl rfl rfl (by decide) rfl rfl (fun H locs hP hD hS => ?_)
      refine lv_i2l hx hb dX3_asItIs_61 rfl ?_
      have e0 := rt1 hf
      exact W.lret (v := r8.toInt64) hx hb hr (fun t ht hW => ⟨⟨r8.toInt64, (), rfl, e0, by rw [ht]; exact hP, va_K.moved hW.alike hK, by rw [hAe]; exact hD⟩, hS.F ht⟩) hS.2.2 dX3_asItIs_62
    have hf := ie hf c5
    have t_c1 : ¬ s_sort.toInt = 0 := lv_neT c1 (by decide)
    have t_c3 : ¬ s_sort.toInt = 1 := lv_neT c3 (by decide)
    have t_c5 : ¬ s_sort.toInt = 2 := lv_neT c5 (by decide)
    refine lv_tableOut (tgt := 63) hx hb dX3_asItIs_4 (by omega) (by decide) ?_
    refine lv_aload_n hx hb dX3_asItIs_63 rfl (lv_at hl 0 rfl) ?_
    refine va_get (D := G) (ci := 2) (v := .ref (qs 4)) (C := RX3) (T := TX3) (N := 7) hx hb hts inX3w hown hK hP 0 rfl rfl 3 (by decide) wd5 (fun _ h9 => h9) rfl dX3_asItIs_64 ?_
    refine lv_iload_n hx hb dX3_asItIs_67 rfl (lv_at hl 1 rfl) ?_
    obtain ⟨g9, hf⟩ := gd hf
    refine va_dald hx hb hK hP 4 3 rfl rfl g9 dX3_asItIs_68 ?_
    refine lv_aload_n hx hb dX3_asItIs_69 rfl (lv_at hl 0 rfl) ?_
    refine lv_iload_n hx hb dX3_asItIs_70 rfl (lv_at hl 1 rfl) ?_
    obtain ⟨r10, hc, hf⟩ := bd1 hf
    refine cl_i (ws' := [(qs 0, oX3 qs s_sort s_size), (qs 1, .inl (Y 0, 60, .inl s_ints)), (qs 2, .inl (Y 1, 60, .inr (.inl s_longs))), (qs 3, .inl (Y 2, 60, .inr (.inr (.inl s_floats)))), (qs 4, .inl (Y 3, 60, .inr (.inr (.inr (.inl s_doubles))))), (qs 5, .inl (Y 0, 60, .inl s_signs))]) (wr := [(qs 3, .inl (Y 2, 60, .inr (.inr (.inl s_floats)))), (qs 4, .inl (Y 3, 60, .inr (.inr (.inr (.inl s_doubles)))))]) (rnV (As := [.int p1]) (rest := [.double (s_doubles p1.toNatClampNeg)]) ⟨hx, hb, hml, hown, hts⟩ (c_X3_isNegative l G Y H.size qs s_ints s_longs s_signs s_sort s_size p1 r10 hc) (cwV 1 hts gX3_asItIs_X3_isNegative rfl rfl rfl (by decide +kernel) ⟨(Nat.le_of_ble_eq_true rfl), (Nat.le_of_ble_eq_true rfl)⟩) trivial okT hK hP hD [0, 1, 2, 5] rfl rfl (ci := 2) (q0 := 0) rfl rfl rfl rfl hl.1 rfl (Nat.le_of_ble_eq_true rfl) dX3_asItIs_71) hP hD hS hA [0, 1, 2, 5] [3, 4] [2, 3, 4, 0, 1, 5] rfl rfl rfl (by decide) rfl rfl (fun H locs hP hD hS => ?_)
    obtain ⟨r11, hc, hf⟩ := bd1 hf
    refine cl_l (ws' := [(qs 0, oX3 qs s_sort s_size), (qs 1, .inl (Y 0, 60, .inl s_ints)), (qs 2, .inl (Y 1, 60, .inr (.inl s_longs))), (qs 3, .inl (Y 2, 60, .inr (.inr (.inl s_floats)))), (qs 4, .inl (Y 3, 60, .inr (.inr (.inr (.inl s_doubles))))), (qs 5, .inl (Y 0, 60, .inl s_signs))]) (wr := [(qs 0, oX3 qs s_sort s_size), (qs 1, .inl (Y 0, 60, .inl s_ints)), (qs 2, .inl (Y 1, 60, .inr (.inl s_longs))), (qs 3, .inl (Y 2, 60, .inr (.inr (.inl s_floats)))), (qs 4, .inl (Y 3, 60, .inr (.inr (.inr (.inl s_doubles))))), (qs 5, .inl (Y 0, 60, .inl s_signs))]) (rnS (As := [.double (s_doubles p1.toNatClampNeg), .int r10]) (rest := []) ⟨hx, hb, hml, hown, hts⟩ (c_X0_ofDouble l G Y H.size (s_doubles p1.toNatClampNeg) r10 r11 hc) (va_cwS 2 hts gX3_asItIs_X0_ofDouble rfl rfl rfl (by decide +kernel) ⟨(Nat.le_of_ble_eq_true rfl), (Nat.le_of_ble_eq_true rfl)⟩) trivial okT hK hP hD [] rfl rfl rfl hl.1 rfl (Nat.le_of_ble_eq_true rfl) dX3_asItIs_74) hP hD hS hA [] [0, 1, 2, 3, 4, 5] [0, 1, 2, 3, 4, 5] rfl rfl rfl (by decide) rfl rfl (fun H locs hP hD hS => ?_)
    have e0 := rt1 hf
    exact W.lret (v := r11) hx hb hr (fun t ht hW => ⟨⟨r11, (), rfl, e0, by rw [ht]; exact hP, va_K.moved hW.alike hK, by rw [hAe]; exact hD⟩, hS.F ht⟩) hS.2.2 dX3_asItIs_77
  exact E0 s.heap [] hP hD hS ls hl
-- X3_asInt
set_option maxRecDepth 100000 in
set_option maxHeartbeats 4000000 in
theorem c_X3_asInt (l : Launch) (G : va_G) (Y : Nat → ClassId) (sz : Nat) (qs : Nat → Nat) (s_ints : Nat → Int32) (s_longs : Nat → Int64) (s_floats : Nat → UInt32) (s_doubles : Nat → UInt64) (s_sort : Int32) (s_size : Int32) (p1 : Int32) (rv : Int32) (hf : f_X3_asInt s_ints s_longs s_floats s_doubles s_sort p1 = some (rv)) : Met l yX3_asInt wsX3_asInt (rmk 0 0) (va_Pc [.ref (qs 0), .int p1] (Pre G (tys Y) [(qs 0, oX3 qs s_sort s_size), (qs 1, .inl (Y 0, 60, .inl s_ints)), (qs 2, .inl (Y 1, 60, .inr (.inl s_longs))), (qs 3, .inl (Y 2, 60, .inr (.inr (.inl s_floats)))), (qs 4, .inl (Y 3, 60, .inr (.inr (.inr (.inl s_doubles)))))] sz xT)) (va_Qi (fun (r : Int32) (_ : Unit) => r = rv) (Pst G (tys Y) [(qs 0, oX3 qs s_sort s_size), (qs 1, .inl (Y 0, 60, .inl s_ints)), (qs 2, .inl (Y 1, 60, .inr (.inl s_longs))), (qs 3, .inl (Y 2, 60, .inr (.inr (.inl s_floats)))), (qs 4, .inl (Y 3, 60, .inr (.inr (.inr (.inl s_doubles)))))] sz [(qs 0, oX3 qs s_sort s_size), (qs 1, .inl (Y 0, 60, .inl s_ints)), (qs 2, .inl (Y 1, 60, .inr (.inl s_longs))), (qs 3, .inl (Y 2, 60, .inr (.inr (.inl s_floats)))), (qs 4, .inl (Y 3, 60, .inr (.inr (.inr (.inl s_doubles)))))]) (va_A [(qs 0, oX3 qs s_sort s_size), (qs 1, .inl (Y 0, 60, .inl s_ints)), (qs 2, .inl (Y 1, 60, .inr (.inl s_longs))), (qs 3, .inl (Y 2, 60, .inr (.inr (.inl s_floats)))), (qs 4, .inl (Y 3, 60, .inr (.inr (.inr (.inl s_doubles)))))] sz)) 0 0 (va_A [(qs 0, oX3 qs s_sort s_size), (qs 1, .inl (Y 0, 60, .inl s_ints)), (qs 2, .inl (Y 1, 60, .inr (.inl s_longs))), (qs 3, .inl (Y 2, 60, .inr (.inr (.inl s_floats)))), (qs 4, .inl (Y 3, 60, .inr (.inr (.inr (.inl s_doubles)))))] sz) := by
  refine Met.ofW (cc := cX3_asInt) (maxL := 2) (ret := (some .int)) (by decide) rfl ?_
  intro p e s m args below meth c s₁ B hml hv
  obtain ⟨rfl, hsz, hP, hK, hD0, hX⟩ := hv
  have hx := B.exec
  have hb := B.bytes
  have hr := B.returns
  have hts := atoms_spec (ws := wsX3_asInt) B.pre
  have hown : s.vm.findClass RX3 = some m.cls := findClass_of_methodNamed B.named
  have hlocks := B.notSynchronized
  subst hsz
  have hD := hD0.self (sz := s.heap.size)
  generalize hAe : va_A [(qs 0, oX3 qs s_sort s_size), (qs 1, .inl (Y 0, 60, .inl s_ints)), (qs 2, .inl (Y 1, 60, .inr (.inl s_longs))), (qs 3, .inl (Y 2, 60, .inr (.inr (.inl s_floats)))), (qs 4, .inl (Y 3, 60, .inr (.inr (.inr (.inl s_doubles)))))] s.heap.size = A at hD ⊢
  have hA : ∀ q : Nat, s.heap.size ≤ q → A q := fun q h => by rw [← hAe]; exact Or.inr h
  have hS : va_S A s.heap s.heap [] := va_S.rf
  have hP : va_P G vwCl [(qs 0, oX3 qs s_sort s_size), (qs 1, .inl (Y 0, 60, .inl s_ints)), (qs 2, .inl (Y 1, 60, .inr (.inl s_longs))), (qs 3, .inl (Y 2, 60, .inr (.inr (.inl s_floats)))), (qs 4, .inl (Y 3, 60, .inr (.inr (.inr (.inl s_doubles)))))] s.heap := hP
  have wd1 : (Cond.fieldLink RX3 30 "PairedLines$Sheet" "sort" "I").before [.ref (qs 0), .int p1].toArray s = true := hts _ (List.mem_of_getElem? (i := 1) rfl)
  have wd2 : (Cond.fieldLink RX3 9 "PairedLines$Sheet" "ints" "[I").before [.ref (qs 0), .int p1].toArray s = true := hts _ (List.mem_of_getElem? (i := 2) rfl)
  have wd3 : (Cond.fieldLink RX3 15 "PairedLines$Sheet" "longs" "[J").before [.ref (qs 0), .int p1].toArray s = true := hts _ (List.mem_of_getElem? (i := 3) rfl)
  have wd4 : (Cond.fieldLink RX3 19 "PairedLines$Sheet" "floats" "[F").before [.ref (qs 0), .int p1].toArray s = true := hts _ (List.mem_of_getElem? (i := 4) rfl)
  have wd5 : (Cond.fieldLink RX3 23 "PairedLines$Sheet" "doubles" "[D").before [.ref (qs 0), .int p1].toArray s = true := hts _ (List.mem_of_getElem? (i := 5) rfl)
  have inX3w : ∀ w ∈ u_ws RX3 TX3 7, w ∈ wsX3_asInt := fun w hw => List.mem_cons_of_mem _ (List.mem_append_right _ (hw))
  have hl := lv_entry ([.ref (qs 0), .int p1]) (n := 2) (Nat.le_of_ble_eq_true rfl)
  rw [lg_entry_eq]
  generalize (lg_sl ([.ref (qs 0), .int p1]) ++ List.replicate (2 - (lg_sl ([.ref (qs 0), .int p1])).length) Slot.unset).toArray = ls at hl ⊢
  have hl : lv_has ls 2 [(0, .ref (qs 0)), (1, .int p1)] := hl
  have E0 : ∀ (H : Heap) (locs : List Loc), va_P G vwCl [(qs 0, oX3 qs s_sort s_size), (qs 1, .inl (Y 0, 60, .inl s_ints)), (qs 2, .inl (Y 1, 60, .inr (.inl s_longs))), (qs 3, .inl (Y 2, 60, .inr (.inr (.inl s_floats)))), (qs 4, .inl (Y 3, 60, .inr (.inr (.inr (.inl s_doubles)))))] H → va_D A [(qs 0, oX3 qs s_sort s_size), (qs 1, .inl (Y 0, 60, .inl s_ints)), (qs 2, .inl (Y 1, 60, .inr (.inl s_longs))), (qs 3, .inl (Y 2, 60, .inr (.inr (.inl s_floats)))), (qs 4, .inl (Y 3, 60, .inr (.inr (.inr (.inl s_doubles)))))] → va_S A s.heap H locs → ∀ (ls : Array Slot), lv_has ls 2 [(0, .ref (qs 0)), (1, .int p1)] → W p l e (headSpec wsX3_asInt (rmk 0 0)).room s m [.ref (qs 0), .int p1].toArray below meth c H locs 0 0 (MQ below (va_Qi (fun (r : Int32) (_ : Unit) => r = rv) (Pst G (tys Y) [(qs 0, oX3 qs s_sort s_size), (qs 1, .inl (Y 0, 60, .inl s_ints)), (qs 2, .inl (Y 1, 60, .inr (.inl s_longs))), (qs 3, .inl (Y 2, 60, .inr (.inr (.inl s_floats)))), (qs 4, .inl (Y 3, 60, .inr (.inr (.inr (.inl s_doubles)))))] s.heap.size [(qs 0, oX3 qs s_sort s_size), (qs 1, .inl (Y 0, 60, .inl s_ints)), (qs 2, .inl (Y 1, 60, .inr (.inl s_longs))), (qs 3, .inl (Y 2, 60, .inr (.inr (.inl s_floats)))), (qs 4, .inl (Y 3, 60, .inr (.inr (.inr (.inl s_doubles)))))]) A) [.ref (qs 0), .int p1].toArray s 0 0 A) (F0 m 0 ls []) := by
    intro H locs hP hD hS ls hl
    unfold f_X3_asInt at hf
    refine lv_aload_n hx hb dX3_asInt_0 rfl (lv_at hl 0 rfl) ?_
    refine va_get (D := G) (ci := 2) (v := .int s_sort) (C := RX3) (T := TX3) (N := 7) hx hb hts inX3w hown hK hP 0 rfl rfl 5 (by decide) wd1 (fun _ h9 => h9) rfl dX3_asInt_1 ?_
    by_cases c1 : s_sort = 0
    · have hf := it hf c1
      refine lv_tableIn (tgt := 32) hx hb dX3_asInt_4 (by rw [c1]; decide) (by rw [c1]; decide) (off := 28) (by rw [c1]; rfl) (by decide) ?_
      refine lv_aload_n hx hb dX3_asInt_32 rfl (lv_at hl 0 rfl) ?_
      refine va_get (D := G) (ci := 2) (v := .ref (qs 1)) (C := RX3) (T := TX3) (N := 7) hx hb hts inX3w hown hK hP 0 rfl rfl 0 (by decide) wd2 (fun _ h9 => h9) rfl dX3_asInt_33 ?_
      refine lv_iload_n hx hb dX3_asInt_36 rfl (lv_at hl 1 rfl) ?_
      obtain ⟨g2, hf⟩ := gd hf
      refine va_iald hx hb hK hP 1 0 rfl rfl g2 dX3_asInt_37 ?_
      have e0 := rt1 hf
      exact W.iret (v := (s_ints p1.toNatClampNeg)) hx hb hr (fun t ht hW => ⟨⟨(s_ints p1.toNatClampNeg), (), rfl, e0, by rw [ht]; exact hP, va_K.moved hW.alike hK, by rw [hAe]; exact hD⟩, hS.F ht⟩) hS.2.2 dX3_asInt_38
    have hf := ie hf c1
    by_cases c3 : s_sort = 1
    · have hf := it hf c3
      refine lv_tableIn (tgt := 39) hx hb dX3_asInt_4 (by rw [c3]; decide) (by rw [c3]; decide) (off := 35) (by rw [c3]; rfl) (by decide) ?_
      refine lv_aload_n hx hb dX3_asInt_39 rfl (lv_at hl 0 rfl) ?_
      refine va_get (D := G) (ci := 2) (v := .ref (qs 2)) (C := RX3) (T := TX3) (N := 7) hx hb hts inX3w hown hK hP 0 rfl rfl 1 (by decide) wd3 (fun _ h9 => h9) rfl dX3_asInt_40 ?_
      refine lv_iload_n hx hb dX3_asInt_43 rfl (lv_at hl 1 rfl) ?_
      obtain ⟨g4, hf⟩ := gd hf
      refine va_lald hx hb hK hP 2 1 rfl rfl g4 dX3_asInt_44 ?_
      refine lv_l2i hx hb dX3_asInt_45 rfl ?_
      have e0 := rt1 hf
      exact W.iret (v := (s_longs p1.toNatClampNeg).toInt32) hx hb hr (fun t ht hW => ⟨⟨(s_longs p1.toNatClampNeg).toInt32, (), rfl, e0, by rw [ht]; exact hP, va_K.moved hW.alike hK, by rw [hAe]; exact hD⟩, hS.F ht⟩) hS.2.2 dX3_asInt_46
    have hf := ie hf c3
    by_cases c5 : s_sort = 2
    · have hf := it hf c5
      refine lv_tableIn (tgt := 47) hx hb dX3_asInt_4 (by rw [c5]; decide) (by rw [c5]; decide) (off := 43) (by rw [c5]; rfl) (by decide) ?_
      refine lv_aload_n hx hb dX3_asInt_47 rfl (lv_at hl 0 rfl) ?_
      refine va_get (D := G) (ci := 2) (v := .ref (qs 3)) (C := RX3) (T := TX3) (N := 7) hx hb hts inX3w hown hK hP 0 rfl rfl 2 (by decide) wd4 (fun _ h9 => h9) rfl dX3_asInt_48 ?_
      refine lv_iload_n hx hb dX3_asInt_51 rfl (lv_at hl 1 rfl) ?_
      obtain ⟨g6, hf⟩ := gd hf
      refine va_fald hx hb hK hP 3 2 rfl rfl g6 dX3_asInt_52 ?_
      refine lv_f2i hx hb dX3_asInt_53 ?_
      have e0 := rt1 hf
      exact W.iret (v := (FP.f2i (s_floats p1.toNatClampNeg))) hx hb hr (fun t ht hW => ⟨⟨(FP.f2i (s_floats p1.toNatClampNeg)), (), rfl, e0, by rw [ht]; exact hP, va_K.moved hW.alike hK, by rw [hAe]; exact hD⟩, hS.F ht⟩) hS.2.2 dX3_asInt_54
    have hf := ie hf c5
    have t_c1 : ¬ s_sort.toInt = 0 := lv_neT c1 (by decide)
    have t_c3 : ¬ s_sort.toInt = 1 := lv_neT c3 (by decide)
    have t_c5 : ¬ s_sort.toInt = 2 := lv_neT c5 (by decide)
    refine lv_tableOut (tgt := 55) hx hb dX3_asInt_4 (by omega) (by decide) ?_
    refine lv_aload_n hx hb dX3_asInt_55 rfl (lv_at hl 0 rfl) ?_
    refine va_get (D := G) (ci := 2) (v := .ref (qs 4)) (C := RX3) (T := TX3) (N := 7) hx hb hts inX3w hown hK hP 0 rfl rfl 3 (by decide) wd5 (fun _ h9 => h9) rfl dX3_asInt_56 ?_
    refine lv_iload_n hx hb dX3_asInt_59 rfl (lv_at hl 1 rfl) ?_
    obtain ⟨g7, hf⟩ := gd hf
    refine va_dald hx hb hK hP 4 3 rfl rfl g7 dX3_asInt_60 ?_
    refine lv_d2i hx hb dX3_asInt_61 ?_
    have e0 := rt1 hf
    exact W.iret (v := (FP.d2i (s_doubles p1.toNatClampNeg))) hx hb hr (fun t ht hW => ⟨⟨(FP.d2i (s_doubles p1.toNatClampNeg)), (), rfl, e0, by rw [ht]; exact hP, va_K.moved hW.alike hK, by rw [hAe]; exact hD⟩, hS.F ht⟩) hS.2.2 dX3_asInt_62
  exact E0 s.heap [] hP hD hS ls hl
-- X3_asLong
set_option maxRecDepth 100000 in
set_option maxHeartbeats 4000000 in
theorem c_X3_asLong (l : Launch) (G : va_G) (Y : Nat → ClassId) (sz : Nat) (qs : Nat → Nat) (s_ints : Nat → Int32) (s_longs : Nat → Int64) (s_floats : Nat → UInt32) (s_doubles : Nat → UInt64) (s_sort : Int32) (s_size : Int32) (p1 : Int32) (rv : Int64) (hf : f_X3_asLong s_ints s_longs s_floats s_doubles s_sort p1 = some (rv)) : Met l yX3_asLong wsX3_asLong (rmk 0 0) (va_Pc [.ref (qs 0), .int p1] (Pre G (tys Y) [(qs 0, oX3 qs s_sort s_size), (qs 1, .inl (Y 0, 60, .inl s_ints)), (qs 2, .inl (Y 1, 60, .inr (.inl s_longs))), (qs 3, .inl (Y 2, 60, .inr (.inr (.inl s_floats)))), (qs 4, .inl (Y 3, 60, .inr (.inr (.inr (.inl s_doubles)))))] sz xT)) (va_Ql (fun (r : Int64) (_ : Unit) => r = rv) (Pst G (tys Y) [(qs 0, oX3 qs s_sort s_size), (qs 1, .inl (Y 0, 60, .inl s_ints)), (qs 2, .inl (Y 1, 60, .inr (.inl s_longs))), (qs 3, .inl (Y 2, 60, .inr (.inr (.inl s_floats)))), (qs 4, .inl (Y 3, 60, .inr (.inr (.inr (.inl s_doubles)))))] sz [(qs 0, oX3 qs s_sort s_size), (qs 1, .inl (Y 0, 60, .inl s_ints)), (qs 2, .inl (Y 1, 60, .inr (.inl s_longs))), (qs 3, .inl (Y 2, 60, .inr (.inr (.inl s_floats)))), (qs 4, .inl (Y 3, 60, .inr (.inr (.inr (.inl s_doubles)))))]) (va_A [(qs 0, oX3 qs s_sort s_size), (qs 1, .inl (Y 0, 60, .inl s_ints)), (qs 2, .inl (Y 1, 60, .inr (.inl s_longs))), (qs 3, .inl (Y 2, 60, .inr (.inr (.inl s_floats)))), (qs 4, .inl (Y 3, 60, .inr (.inr (.inr (.inl s_doubles)))))] sz)) 0 0 (va_A [(qs 0, oX3 qs s_sort s_size), (qs 1, .inl (Y 0, 60, .inl s_ints)), (qs 2, .inl (Y 1, 60, .inr (.inl s_longs))), (qs 3, .inl (Y 2, 60, .inr (.inr (.inl s_floats)))), (qs 4, .inl (Y 3, 60, .inr (.inr (.inr (.inl s_doubles)))))] sz) := by
  refine Met.ofW (cc := cX3_asLong) (maxL := 2) (ret := (some .long)) (by decide) rfl ?_
  intro p e s m args below meth c s₁ B hml hv
  obtain ⟨rfl, hsz, hP, hK, hD0, hX⟩ := hv
  have hx := B.exec
  have hb := B.bytes
  have hr := B.returns
  have hts := atoms_spec (ws := wsX3_asLong) B.pre
  have hown : s.vm.findClass RX3 = some m.cls := findClass_of_methodNamed B.named
  have hlocks := B.notSynchronized
  subst hsz
  have hD := hD0.self (sz := s.heap.size)
  generalize hAe : va_A [(qs 0, oX3 qs s_sort s_size), (qs 1, .inl (Y 0, 60, .inl s_ints)), (qs 2, .inl (Y 1, 60, .inr (.inl s_longs))), (qs 3, .inl (Y 2, 60, .inr (.inr (.inl s_floats)))), (qs 4, .inl (Y 3, 60, .inr (.inr (.inr (.inl s_doubles)))))] s.heap.size = A at hD ⊢
  have hA : ∀ q : Nat, s.heap.size ≤ q → A q := fun q h => by rw [← hAe]; exact Or.inr h
  have hS : va_S A s.heap s.heap [] := va_S.rf
  have hP : va_P G vwCl [(qs 0, oX3 qs s_sort s_size), (qs 1, .inl (Y 0, 60, .inl s_ints)), (qs 2, .inl (Y 1, 60, .inr (.inl s_longs))), (qs 3, .inl (Y 2, 60, .inr (.inr (.inl s_floats)))), (qs 4, .inl (Y 3, 60, .inr (.inr (.inr (.inl s_doubles)))))] s.heap := hP
  have wd1 : (Cond.fieldLink RX3 30 "PairedLines$Sheet" "sort" "I").before [.ref (qs 0), .int p1].toArray s = true := hts _ (List.mem_of_getElem? (i := 1) rfl)
  have wd2 : (Cond.fieldLink RX3 9 "PairedLines$Sheet" "ints" "[I").before [.ref (qs 0), .int p1].toArray s = true := hts _ (List.mem_of_getElem? (i := 2) rfl)
  have wd3 : (Cond.fieldLink RX3 15 "PairedLines$Sheet" "longs" "[J").before [.ref (qs 0), .int p1].toArray s = true := hts _ (List.mem_of_getElem? (i := 3) rfl)
  have wd4 : (Cond.fieldLink RX3 19 "PairedLines$Sheet" "floats" "[F").before [.ref (qs 0), .int p1].toArray s = true := hts _ (List.mem_of_getElem? (i := 4) rfl)
  have wd5 : (Cond.fieldLink RX3 23 "PairedLines$Sheet" "doubles" "[D").before [.ref (qs 0), .int p1].toArray s = true := hts _ (List.mem_of_getElem? (i := 5) rfl)
  have inX3w : ∀ w ∈ u_ws RX3 TX3 7, w ∈ wsX3_asLong := fun w hw => List.mem_cons_of_mem _ (List.mem_append_right _ (hw))
  have hl := lv_entry ([.ref (qs 0), .int p1]) (n := 2) (Nat.le_of_ble_eq_true rfl)
  rw [lg_entry_eq]
  generalize (lg_sl ([.ref (qs 0), .int p1]) ++ List.replicate (2 - (lg_sl ([.ref (qs 0), .int p1])).length) Slot.unset).toArray = ls at hl ⊢
  have hl : lv_has ls 2 [(0, .ref (qs 0)), (1, .int p1)] := hl
  have E0 : ∀ (H : Heap) (locs : List Loc), va_P G vwCl [(qs 0, oX3 qs s_sort s_size), (qs 1, .inl (Y 0, 60, .inl s_ints)), (qs 2, .inl (Y 1, 60, .inr (.inl s_longs))), (qs 3, .inl (Y 2, 60, .inr (.inr (.inl s_floats)))), (qs 4, .inl (Y 3, 60, .inr (.inr (.inr (.inl s_doubles)))))] H → va_D A [(qs 0, oX3 qs s_sort s_size), (qs 1, .inl (Y 0, 60, .inl s_ints)), (qs 2, .inl (Y 1, 60, .inr (.inl s_longs))), (qs 3, .inl (Y 2, 60, .inr (.inr (.inl s_floats)))), (qs 4, .inl (Y 3, 60, .inr (.inr (.inr (.inl s_doubles)))))] → va_S A s.heap H locs → ∀ (ls : Array Slot), lv_has ls 2 [(0, .ref (qs 0)), (1, .int p1)] → W p l e (headSpec wsX3_asLong (rmk 0 0)).room s m [.ref (qs 0), .int p1].toArray below meth c H locs 0 0 (MQ below (va_Ql (fun (r : Int64) (_ : Unit) => r = rv) (Pst G (tys Y) [(qs 0, oX3 qs s_sort s_size), (qs 1, .inl (Y 0, 60, .inl s_ints)), (qs 2, .inl (Y 1, 60, .inr (.inl s_longs))), (qs 3, .inl (Y 2, 60, .inr (.inr (.inl s_floats)))), (qs 4, .inl (Y 3, 60, .inr (.inr (.inr (.inl s_doubles)))))] s.heap.size [(qs 0, oX3 qs s_sort s_size), (qs 1, .inl (Y 0, 60, .inl s_ints)), (qs 2, .inl (Y 1, 60, .inr (.inl s_longs))), (qs 3, .inl (Y 2, 60, .inr (.inr (.inl s_floats)))), (qs 4, .inl (Y 3, 60, .inr (.inr (.inr (.inl s_doubles)))))]) A) [.ref (qs 0), .int p1].toArray s 0 0 A) (F0 m 0 ls []) := by
    intro H locs hP hD hS ls hl
    unfold f_X3_asLong at hf
    refine lv_aload_n hx hb dX3_asLong_0 rfl (lv_at hl 0 rfl) ?_
    refine va_get (D := G) (ci := 2) (v := .int s_sort) (C := RX3) (T := TX3) (N := 7) hx hb hts inX3w hown hK hP 0 rfl rfl 5 (by decide) wd1 (fun _ h9 => h9) rfl dX3_asLong_1 ?_
    by_cases c1 : s_sort = 0
    · have hf := it hf c1
      refine lv_tableIn (tgt := 32) hx hb dX3_asLong_4 (by rw [c1]; decide) (by rw [c1]; decide) (off := 28) (by rw [c1]; rfl) (by decide) ?_
      refine lv_aload_n hx hb dX3_asLong_32 rfl (lv_at hl 0 rfl) ?_
      refine va_get (D := G) (ci := 2) (v := .ref (qs 1)) (C := RX3) (T := TX3) (N := 7) hx hb hts inX3w hown hK hP 0 rfl rfl 0 (by decide) wd2 (fun _ h9 => h9) rfl dX3_asLong_33 ?_
      refine lv_iload_n hx hb dX3_asLong_36 rfl (lv_at hl 1 rfl) ?_
      obtain ⟨g2, hf⟩ := gd hf
      refine va_iald hx hb hK hP 1 0 rfl rfl g2 dX3_asLong_37 ?_
      refine lv_i2l hx hb dX3_asLong_38 rfl ?_
      have e0 := rt1 hf
      exact W.lret (v := (s_ints p1.toNatClampNeg).toInt64) hx hb hr (fun t ht hW => ⟨⟨(s_ints p1.toNatClampNeg).toInt64, (), rfl, e0, by rw [ht]; exact hP, va_K.moved hW.alike hK, by rw [hAe]; exact hD⟩, hS.F ht⟩) hS.2.2 dX3_asLong_39
    have hf := ie hf c1
    by_cases c3 : s_sort = 1
    · have hf := it hf c3
      refine lv_tableIn (tgt := 40) hx hb dX3_asLong_4 (by rw [c3]; decide) (by rw [c3]; decide) (off := 36) (by rw [c3]; rfl) (by decide) ?_
      refine lv_aload_n hx hb dX3_asLong_40 rfl (lv_at hl 0 rfl) ?_
      refine va_get (D := G) (ci := 2) (v := .ref (qs 2)) (C := RX3) (T := TX3) (N := 7) hx hb hts inX3w hown hK hP 0 rfl rfl 1 (by decide) wd3 (fun _ h9 => h9) rfl dX3_asLong_41 ?_
      refine lv_iload_n hx hb dX3_asLong_44 rfl (lv_at hl 1 rfl) ?_
      obtain ⟨g4, hf⟩ := gd hf
      refine va_lald hx hb hK hP 2 1 rfl rfl g4 dX3_asLong_45 ?_
      have e0 := rt1 hf
      exact W.lret (v := (s_longs p1.toNatClampNeg)) hx hb hr (fun t ht hW => ⟨⟨(s_longs p1.toNatClampNeg), (), rfl, e0, by rw [ht]; exact hP, va_K.moved hW.alike hK, by rw [hAe]; exact hD⟩, hS.F ht⟩) hS.2.2 dX3_asLong_46
    have hf := ie hf c3
    by_cases c5 : s_sort = 2
    · have hf := it hf c5
      refine lv_tableIn (tgt := 47) hx hb dX3_asLong_4 (by rw [c5]; decide) (by rw [c5]; decide) (off := 43) (by rw [c5]; rfl) (by decide) ?_
      refine lv_aload_n hx hb dX3_asLong_47 rfl (lv_at hl 0 rfl) ?_
      refine va_get (D := G) (ci := 2) (v := .ref (qs 3)) (C := RX3) (T := TX3) (N := 7) hx hb hts inX3w hown hK hP 0 rfl rfl 2 (by decide) wd4 (fun _ h9 => h9) rfl dX3_asLong_48 ?_
      refine lv_iload_n hx hb dX3_asLong_51 rfl (lv_at hl 1 rfl) ?_
      obtain ⟨g6, hf⟩ := gd hf
      refine va_fald hx hb hK hP 3 2 rfl rfl g6 dX3_asLong_52 ?_
      refine lv_f2l hx hb dX3_asLong_53 ?_
      have e0 := rt1 hf
      exact W.lret (v := (FP.f2l (s_floats p1.toNatClampNeg))) hx hb hr (fun t ht hW => ⟨⟨(FP.f2l (s_floats p1.toNatClampNeg)), (), rfl, e0, by rw [ht]; exact hP, va_K.moved hW.alike hK, by rw [hAe]; exact hD⟩, hS.F ht⟩) hS.2.2 dX3_asLong_54
    have hf := ie hf c5
    have t_c1 : ¬ s_sort.toInt = 0 := lv_neT c1 (by decide)
    have t_c3 : ¬ s_sort.toInt = 1 := lv_neT c3 (by decide)
    have t_c5 : ¬ s_sort.toInt = 2 := lv_neT c5 (by decide)
    refine lv_tableOut (tgt := 55) hx hb dX3_asLong_4 (by omega) (by decide) ?_
    refine lv_aload_n hx hb dX3_asLong_55 rfl (lv_at hl 0 rfl) ?_
    refine va_get (D := G) (ci := 2) (v := .ref (qs 4)) (C := RX3) (T := TX3) (N := 7) hx hb hts inX3w hown hK hP 0 rfl rfl 3 (by decide) wd5 (fun _ h9 => h9) rfl dX3_asLong_56 ?_
    refine lv_iload_n hx hb dX3_asLong_59 rfl (lv_at hl 1 rfl) ?_
    obtain ⟨g7, hf⟩ := gd hf
    refine va_dald hx hb hK hP 4 3 rfl rfl g7 dX3_asLong_60 ?_
    refine lv_d2l hx hb dX3_asLong_61 ?_
    have e0 := rt1 hf
    exact W.lret (v := (FP.d2l (s_doubles p1.toNatClampNeg))) hx hb hr (fun t ht hW => ⟨⟨(FP.d2l (s_doubles p1.toNatClampNeg)), (), rfl, e0, by rw [ht]; exact hP, va_K.moved hW.alike hK, by rw [hAe]; exact hD⟩, hS.F ht⟩) hS.2.2 dX3_asLong_62
  exact E0 s.heap [] hP hD hS ls hl
-- X3_asFloat
set_option maxRecDepth 100000 in
set_option maxHeartbeats 4000000 in
theorem c_X3_asFloat (l : Launch) (G : va_G) (Y : Nat → ClassId) (sz : Nat) (qs : Nat → Nat) (s_ints : Nat → Int32) (s_longs : Nat → Int64) (s_floats : Nat → UInt32) (s_doubles : Nat → UInt64) (s_sort : Int32) (s_size : Int32) (p1 : Int32) (rv : UInt32) (hf : f_X3_asFloat s_ints s_longs s_floats s_doubles s_sort p1 = some (rv)) : Met l yX3_asFloat wsX3_asFloat (rmk 0 0) (va_Pc [.ref (qs 0), .int p1] (Pre G (tys Y) [(qs 0, oX3 qs s_sort s_size), (qs 1, .inl (Y 0, 60, .inl s_ints)), (qs 2, .inl (Y 1, 60, .inr (.inl s_longs))), (qs 3, .inl (Y 2, 60, .inr (.inr (.inl s_floats)))), (qs 4, .inl (Y 3, 60, .inr (.inr (.inr (.inl s_doubles)))))] sz xT)) (va_Qf (fun (r : UInt32) (_ : Unit) => r = rv) (Pst G (tys Y) [(qs 0, oX3 qs s_sort s_size), (qs 1, .inl (Y 0, 60, .inl s_ints)), (qs 2, .inl (Y 1, 60, .inr (.inl s_longs))), (qs 3, .inl (Y 2, 60, .inr (.inr (.inl s_floats)))), (qs 4, .inl (Y 3, 60, .inr (.inr (.inr (.inl s_doubles)))))] sz [(qs 0, oX3 qs s_sort s_size), (qs 1, .inl (Y 0, 60, .inl s_ints)), (qs 2, .inl (Y 1, 60, .inr (.inl s_longs))), (qs 3, .inl (Y 2, 60, .inr (.inr (.inl s_floats)))), (qs 4, .inl (Y 3, 60, .inr (.inr (.inr (.inl s_doubles)))))]) (va_A [(qs 0, oX3 qs s_sort s_size), (qs 1, .inl (Y 0, 60, .inl s_ints)), (qs 2, .inl (Y 1, 60, .inr (.inl s_longs))), (qs 3, .inl (Y 2, 60, .inr (.inr (.inl s_floats)))), (qs 4, .inl (Y 3, 60, .inr (.inr (.inr (.inl s_doubles)))))] sz)) 0 0 (va_A [(qs 0, oX3 qs s_sort s_size), (qs 1, .inl (Y 0, 60, .inl s_ints)), (qs 2, .inl (Y 1, 60, .inr (.inl s_longs))), (qs 3, .inl (Y 2, 60, .inr (.inr (.inl s_floats)))), (qs 4, .inl (Y 3, 60, .inr (.inr (.inr (.inl s_doubles)))))] sz) := by
  refine Met.ofW (cc := cX3_asFloat) (maxL := 2) (ret := (some .float)) (by decide) rfl ?_
  intro p e s m args below meth c s₁ B hml hv
  obtain ⟨rfl, hsz, hP, hK, hD0, hX⟩ := hv
  have hx := B.exec
  have hb := B.bytes
  have hr := B.returns
  have hts := atoms_spec (ws := wsX3_asFloat) B.pre
  have hown : s.vm.findClass RX3 = some m.cls := findClass_of_methodNamed B.named
  have hlocks := B.notSynchronized
  subst hsz
  have hD := hD0.self (sz := s.heap.size)
  generalize hAe : va_A [(qs 0, oX3 qs s_sort s_size), (qs 1, .inl (Y 0, 60, .inl s_ints)), (qs 2, .inl (Y 1, 60, .inr (.inl s_longs))), (qs 3, .inl (Y 2, 60, .inr (.inr (.inl s_floats)))), (qs 4, .inl (Y 3, 60, .inr (.inr (.inr (.inl s_doubles)))))] s.heap.size = A at hD ⊢
  have hA : ∀ q : Nat, s.heap.size ≤ q → A q := fun q h => by rw [← hAe]; exact Or.inr h
  have hS : va_S A s.heap s.heap [] := va_S.rf
  have hP : va_P G vwCl [(qs 0, oX3 qs s_sort s_size), (qs 1, .inl (Y 0, 60, .inl s_ints)), (qs 2, .inl (Y 1, 60, .inr (.inl s_longs))), (qs 3, .inl (Y 2, 60, .inr (.inr (.inl s_floats)))), (qs 4, .inl (Y 3, 60, .inr (.inr (.inr (.inl s_doubles)))))] s.heap := hP
  have wd1 : (Cond.fieldLink RX3 30 "PairedLines$Sheet" "sort" "I").before [.ref (qs 0), .int p1].toArray s = true := hts _ (List.mem_of_getElem? (i := 1) rfl)
  have wd2 : (Cond.fieldLink RX3 9 "PairedLines$Sheet" "ints" "[I").before [.ref (qs 0), .int p1].toArray s = true := hts _ (List.mem_of_getElem? (i := 2) rfl)
  have wd3 : (Cond.fieldLink RX3 15 "PairedLines$Sheet" "longs" "[J").before [.ref (qs 0), .int p1].toArray s = true := hts _ (List.mem_of_getElem? (i := 3) rfl)
  have wd4 : (Cond.fieldLink RX3 19 "PairedLines$Sheet" "floats" "[F").before [.ref (qs 0), .int p1].toArray s = true := hts _ (List.mem_of_getElem? (i := 4) rfl)
  have wd5 : (Cond.fieldLink RX3 23 "PairedLines$Sheet" "doubles" "[D").before [.ref (qs 0), .int p1].toArray s = true := hts _ (List.mem_of_getElem? (i := 5) rfl)
  have inX3w : ∀ w ∈ u_ws RX3 TX3 7, w ∈ wsX3_asFloat := fun w hw => List.mem_cons_of_mem _ (List.mem_append_right _ (hw))
  have hl := lv_entry ([.ref (qs 0), .int p1]) (n := 2) (Nat.le_of_ble_eq_true rfl)
  rw [lg_entry_eq]
  generalize (lg_sl ([.ref (qs 0), .int p1]) ++ List.replicate (2 - (lg_sl ([.ref (qs 0), .int p1])).length) Slot.unset).toArray = ls at hl ⊢
  have hl : lv_has ls 2 [(0, .ref (qs 0)), (1, .int p1)] := hl
  have E0 : ∀ (H : Heap) (locs : List Loc), va_P G vwCl [(qs 0, oX3 qs s_sort s_size), (qs 1, .inl (Y 0, 60, .inl s_ints)), (qs 2, .inl (Y 1, 60, .inr (.inl s_longs))), (qs 3, .inl (Y 2, 60, .inr (.inr (.inl s_floats)))), (qs 4, .inl (Y 3, 60, .inr (.inr (.inr (.inl s_doubles)))))] H → va_D A [(qs 0, oX3 qs s_sort s_size), (qs 1, .inl (Y 0, 60, .inl s_ints)), (qs 2, .inl (Y 1, 60, .inr (.inl s_longs))), (qs 3, .inl (Y 2, 60, .inr (.inr (.inl s_floats)))), (qs 4, .inl (Y 3, 60, .inr (.inr (.inr (.inl s_doubles)))))] → va_S A s.heap H locs → ∀ (ls : Array Slot), lv_has ls 2 [(0, .ref (qs 0)), (1, .int p1)] → W p l e (headSpec wsX3_asFloat (rmk 0 0)).room s m [.ref (qs 0), .int p1].toArray below meth c H locs 0 0 (MQ below (va_Qf (fun (r : UInt32) (_ : Unit) => r = rv) (Pst G (tys Y) [(qs 0, oX3 qs s_sort s_size), (qs 1, .inl (Y 0, 60, .inl s_ints)), (qs 2, .inl (Y 1, 60, .inr (.inl s_longs))), (qs 3, .inl (Y 2, 60, .inr (.inr (.inl s_floats)))), (qs 4, .inl (Y 3, 60, .inr (.inr (.inr (.inl s_doubles)))))] s.heap.size [(qs 0, oX3 qs s_sort s_size), (qs 1, .inl (Y 0, 60, .inl s_ints)), (qs 2, .inl (Y 1, 60, .inr (.inl s_longs))), (qs 3, .inl (Y 2, 60, .inr (.inr (.inl s_floats)))), (qs 4, .inl (Y 3, 60, .inr (.inr (.inr (.inl s_doubles)))))]) A) [.ref (qs 0), .int p1].toArray s 0 0 A) (F0 m 0 ls []) := by
    intro H locs hP hD hS ls hl
    unfold f_X3_asFloat at hf
    refine lv_aload_n hx hb dX3_asFloat_0 rfl (lv_at hl 0 rfl) ?_
    refine va_get (D := G) (ci := 2) (v := .int s_sort) (C := RX3) (T := TX3) (N := 7) hx hb hts inX3w hown hK hP 0 rfl rfl 5 (by decide) wd1 (fun _ h9 => h9) rfl dX3_asFloat_1 ?_
    by_cases c1 : s_sort = 0
    · have hf := it hf c1
      refine lv_tableIn (tgt := 32) hx hb dX3_asFloat_4 (by rw [c1]; decide) (by rw [c1]; decide) (off := 28) (by rw [c1]; rfl) (by decide) ?_
      refine lv_aload_n hx hb dX3_asFloat_32 rfl (lv_at hl 0 rfl) ?_
      refine va_get (D := G) (ci := 2) (v := .ref (qs 1)) (C := RX3) (T := TX3) (N := 7) hx hb hts inX3w hown hK hP 0 rfl rfl 0 (by decide) wd2 (fun _ h9 => h9) rfl dX3_asFloat_33 ?_
      refine lv_iload_n hx hb dX3_asFloat_36 rfl (lv_at hl 1 rfl) ?_
      obtain ⟨g2, hf⟩ := gd hf
      refine va_iald hx hb hK hP 1 0 rfl rfl g2 dX3_asFloat_37 ?_
      refine lv_i2f hx hb dX3_asFloat_38 ?_
      have e0 := rt1 hf
      exact W.fret (v := (FP.i2f (s_ints p1.toNatClampNeg))) hx hb hr (fun t ht hW => ⟨⟨(FP.i2f (s_ints p1.toNatClampNeg)), (), rfl, e0, by rw [ht]; exact hP, va_K.moved hW.alike hK, by rw [hAe]; exact hD⟩, hS.F ht⟩) hS.2.2 dX3_asFloat_39
    have hf := ie hf c1
    by_cases c3 : s_sort = 1
    · have hf := it hf c3
      refine lv_tableIn (tgt := 40) hx hb dX3_asFloat_4 (by rw [c3]; decide) (by rw [c3]; decide) (off := 36) (by rw [c3]; rfl) (by decide) ?_
      refine lv_aload_n hx hb dX3_asFloat_40 rfl (lv_at hl 0 rfl) ?_
      refine va_get (D := G) (ci := 2) (v := .ref (qs 2)) (C := RX3) (T := TX3) (N := 7) hx hb hts inX3w hown hK hP 0 rfl rfl 1 (by decide) wd3 (fun _ h9 => h9) rfl dX3_asFloat_41 ?_
      refine lv_iload_n hx hb dX3_asFloat_44 rfl (lv_at hl 1 rfl) ?_
      obtain ⟨g4, hf⟩ := gd hf
      refine va_lald hx hb hK hP 2 1 rfl rfl g4 dX3_asFloat_45 ?_
      refine lv_l2f hx hb dX3_asFloat_46 ?_
      have e0 := rt1 hf
      exact W.fret (v := (FP.l2f (s_longs p1.toNatClampNeg))) hx hb hr (fun t ht hW => ⟨⟨(FP.l2f (s_longs p1.toNatClampNeg)), (), rfl, e0, by rw [ht]; exact hP, va_K.moved hW.alike hK, by rw [hAe]; exact hD⟩, hS.F ht⟩) hS.2.2 dX3_asFloat_47
    have hf := ie hf c3
    by_cases c5 : s_sort = 2
    · have hf := it hf c5
      refine lv_tableIn (tgt := 48) hx hb dX3_asFloat_4 (by rw [c5]; decide) (by rw [c5]; decide) (off := 44) (by rw [c5]; rfl) (by decide) ?_
      refine lv_aload_n hx hb dX3_asFloat_48 rfl (lv_at hl 0 rfl) ?_
      refine va_get (D := G) (ci := 2) (v := .ref (qs 3)) (C := RX3) (T := TX3) (N := 7) hx hb hts inX3w hown hK hP 0 rfl rfl 2 (by decide) wd4 (fun _ h9 => h9) rfl dX3_asFloat_49 ?_
      refine lv_iload_n hx hb dX3_asFloat_52 rfl (lv_at hl 1 rfl) ?_
      obtain ⟨g6, hf⟩ := gd hf
      refine va_fald hx hb hK hP 3 2 rfl rfl g6 dX3_asFloat_53 ?_
      have e0 := rt1 hf
      exact W.fret (v := (s_floats p1.toNatClampNeg)) hx hb hr (fun t ht hW => ⟨⟨(s_floats p1.toNatClampNeg), (), rfl, e0, by rw [ht]; exact hP, va_K.moved hW.alike hK, by rw [hAe]; exact hD⟩, hS.F ht⟩) hS.2.2 dX3_asFloat_54
    have hf := ie hf c5
    have t_c1 : ¬ s_sort.toInt = 0 := lv_neT c1 (by decide)
    have t_c3 : ¬ s_sort.toInt = 1 := lv_neT c3 (by decide)
    have t_c5 : ¬ s_sort.toInt = 2 := lv_neT c5 (by decide)
    refine lv_tableOut (tgt := 55) hx hb dX3_asFloat_4 (by omega) (by decide) ?_
    refine lv_aload_n hx hb dX3_asFloat_55 rfl (lv_at hl 0 rfl) ?_
    refine va_get (D := G) (ci := 2) (v := .ref (qs 4)) (C := RX3) (T := TX3) (N := 7) hx hb hts inX3w hown hK hP 0 rfl rfl 3 (by decide) wd5 (fun _ h9 => h9) rfl dX3_asFloat_56 ?_
    refine lv_iload_n hx hb dX3_asFloat_59 rfl (lv_at hl 1 rfl) ?_
    obtain ⟨g7, hf⟩ := gd hf
    refine va_dald hx hb hK hP 4 3 rfl rfl g7 dX3_asFloat_60 ?_
    obtain ⟨g8, hf⟩ := gp hf
    refine lv_d2f hx hb dX3_asFloat_61 g8 ?_
    have e0 := rt1 hf
    exact W.fret (v := (FP.d2f (s_doubles p1.toNatClampNeg))) hx hb hr (fun t ht hW => ⟨⟨(FP.d2f (s_doubles p1.toNatClampNeg)), (), rfl, e0, by rw [ht]; exact hP, va_K.moved hW.alike hK, by rw [hAe]; exact hD⟩, hS.F ht⟩) hS.2.2 dX3_asFloat_62
  exact E0 s.heap [] hP hD hS ls hl
-- X3_readAs
set_option maxRecDepth 100000 in
set_option maxHeartbeats 4000000 in
theorem c_X3_readAs (l : Launch) (G : va_G) (Y : Nat → ClassId) (sz : Nat) (qs : Nat → Nat) (s_ints : Nat → Int32) (s_longs : Nat → Int64) (s_floats : Nat → UInt32) (s_doubles : Nat → UInt64) (s_signs : Nat → Int32) (s_sort : Int32) (s_size : Int32) (p1 : Int32) (p2 : Int32) (rv : Int64) (hf : f_X3_readAs s_ints s_longs s_floats s_doubles s_signs s_sort p1 p2 = some (rv)) : Met l yX3_readAs wsX3_readAs (rmk 3 75) (va_Pc [.ref (qs 0), .int p1, .int p2] (Pre G (tys Y) [(qs 0, oX3 qs s_sort s_size), (qs 1, .inl (Y 0, 60, .inl s_ints)), (qs 2, .inl (Y 1, 60, .inr (.inl s_longs))), (qs 3, .inl (Y 2, 60, .inr (.inr (.inl s_floats)))), (qs 4, .inl (Y 3, 60, .inr (.inr (.inr (.inl s_doubles))))), (qs 5, .inl (Y 0, 60, .inl s_signs))] sz xT)) (va_Ql (fun (r : Int64) (_ : Unit) => r = rv) (Pst G (tys Y) [(qs 0, oX3 qs s_sort s_size), (qs 1, .inl (Y 0, 60, .inl s_ints)), (qs 2, .inl (Y 1, 60, .inr (.inl s_longs))), (qs 3, .inl (Y 2, 60, .inr (.inr (.inl s_floats)))), (qs 4, .inl (Y 3, 60, .inr (.inr (.inr (.inl s_doubles))))), (qs 5, .inl (Y 0, 60, .inl s_signs))] sz [(qs 0, oX3 qs s_sort s_size), (qs 1, .inl (Y 0, 60, .inl s_ints)), (qs 2, .inl (Y 1, 60, .inr (.inl s_longs))), (qs 3, .inl (Y 2, 60, .inr (.inr (.inl s_floats)))), (qs 4, .inl (Y 3, 60, .inr (.inr (.inr (.inl s_doubles))))), (qs 5, .inl (Y 0, 60, .inl s_signs))]) (va_A [(qs 0, oX3 qs s_sort s_size), (qs 1, .inl (Y 0, 60, .inl s_ints)), (qs 2, .inl (Y 1, 60, .inr (.inl s_longs))), (qs 3, .inl (Y 2, 60, .inr (.inr (.inl s_floats)))), (qs 4, .inl (Y 3, 60, .inr (.inr (.inr (.inl s_doubles))))), (qs 5, .inl (Y 0, 60, .inl s_signs))] sz)) 0 0 (va_A [(qs 0, oX3 qs s_sort s_size), (qs 1, .inl (Y 0, 60, .inl s_ints)), (qs 2, .inl (Y 1, 60, .inr (.inl s_longs))), (qs 3, .inl (Y 2, 60, .inr (.inr (.inl s_floats)))), (qs 4, .inl (Y 3, 60, .inr (.inr (.inr (.inl s_doubles))))), (qs 5, .inl (Y 0, 60, .inl s_signs))] sz) := by
  refine Met.ofW (cc := cX3_readAs) (maxL := 3) (ret := (some .long)) (by decide) rfl ?_
  intro p e s m args below meth c s₁ B hml hv
  obtain ⟨rfl, hsz, hP, hK, hD0, hX⟩ := hv
  have hx := B.exec
  have hb := B.bytes
  have hr := B.returns
  have hts := atoms_spec (ws := wsX3_readAs) B.pre
  have hown : s.vm.findClass RX3 = some m.cls := findClass_of_methodNamed B.named
  have hlocks := B.notSynchronized
  subst hsz
  have hD := hD0.self (sz := s.heap.size)
  generalize hAe : va_A [(qs 0, oX3 qs s_sort s_size), (qs 1, .inl (Y 0, 60, .inl s_ints)), (qs 2, .inl (Y 1, 60, .inr (.inl s_longs))), (qs 3, .inl (Y 2, 60, .inr (.inr (.inl s_floats)))), (qs 4, .inl (Y 3, 60, .inr (.inr (.inr (.inl s_doubles))))), (qs 5, .inl (Y 0, 60, .inl s_signs))] s.heap.size = A at hD ⊢
  have hA : ∀ q : Nat, s.heap.size ≤ q → A q := fun q h => by rw [← hAe]; exact Or.inr h
  have hS : va_S A s.heap s.heap [] := va_S.rf
  have hP : va_P G vwCl [(qs 0, oX3 qs s_sort s_size), (qs 1, .inl (Y 0, 60, .inl s_ints)), (qs 2, .inl (Y 1, 60, .inr (.inl s_longs))), (qs 3, .inl (Y 2, 60, .inr (.inr (.inl s_floats)))), (qs 4, .inl (Y 3, 60, .inr (.inr (.inr (.inl s_doubles))))), (qs 5, .inl (Y 0, 60, .inl s_signs))] s.heap := hP
  have hl := lv_entry ([.ref (qs 0), .int p1, .int p2]) (n := 3) (Nat.le_of_ble_eq_true rfl)
  rw [lg_entry_eq]
  generalize (lg_sl ([.ref (qs 0), .int p1, .int p2]) ++ List.replicate (3 - (lg_sl ([.ref (qs 0), .int p1, .int p2])).length) Slot.unset).toArray = ls at hl ⊢
  have hl : lv_has ls 3 [(0, .ref (qs 0)), (1, .int p1), (2, .int p2)] := hl
  have E0 : ∀ (H : Heap) (locs : List Loc), va_P G vwCl [(qs 0, oX3 qs s_sort s_size), (qs 1, .inl (Y 0, 60, .inl s_ints)), (qs 2, .inl (Y 1, 60, .inr (.inl s_longs))), (qs 3, .inl (Y 2, 60, .inr (.inr (.inl s_floats)))), (qs 4, .inl (Y 3, 60, .inr (.inr (.inr (.inl s_doubles))))), (qs 5, .inl (Y 0, 60, .inl s_signs))] H → va_D A [(qs 0, oX3 qs s_sort s_size), (qs 1, .inl (Y 0, 60, .inl s_ints)), (qs 2, .inl (Y 1, 60, .inr (.inl s_longs))), (qs 3, .inl (Y 2, 60, .inr (.inr (.inl s_floats)))), (qs 4, .inl (Y 3, 60, .inr (.inr (.inr (.inl s_doubles))))), (qs 5, .inl (Y 0, 60, .inl s_signs))] → va_S A s.heap H locs → ∀ (ls : Array Slot), lv_has ls 3 [(0, .ref (qs 0)), (1, .int p1), (2, .int p2)] → W p l e (headSpec wsX3_readAs (rmk 3 75)).room s m [.ref (qs 0), .int p1, .int p2].toArray below meth c H locs 0 0 (MQ below (va_Ql (fun (r : Int64) (_ : Unit) => r = rv) (Pst G (tys Y) [(qs 0, oX3 qs s_sort s_size), (qs 1, .inl (Y 0, 60, .inl s_ints)), (qs 2, .inl (Y 1, 60, .inr (.inl s_longs))), (qs 3, .inl (Y 2, 60, .inr (.inr (.inl s_floats)))), (qs 4, .inl (Y 3, 60, .inr (.inr (.inr (.inl s_doubles))))), (qs 5, .inl (Y 0, 60, .inl s_signs))] s.heap.size [(qs 0, oX3 qs s_sort s_size), (qs 1, .inl (Y 0, 60, .inl s_ints)), (qs 2, .inl (Y 1, 60, .inr (.inl s_longs))), (qs 3, .inl (Y 2, 60, .inr (.inr (.inl s_floats)))), (qs 4, .inl (Y 3, 60, .inr (.inr (.inr (.inl s_doubles))))), (qs 5, .inl (Y 0, 60, .inl s_signs))]) A) [.ref (qs 0), .int p1, .int p2].toArray s 0 0 A) (F0 m 0 ls []) := by
    intro H locs hP hD hS ls hl
    unfold f_X3_readAs at hf
    refine lv_iload_n hx hb dX3_readAs_0 rfl (lv_at hl 2 rfl) ?_
    by_cases c1 : p2 = 0
    · have hf := it hf c1
      refine lv_tableIn (tgt := 32) hx hb dX3_readAs_1 (by rw [c1]; decide) (by rw [c1]; decide) (off := 31) (by rw [c1]; rfl) (by decide) ?_
      refine lv_aload_n hx hb dX3_readAs_32 rfl (lv_at hl 0 rfl) ?_
      refine lv_iload_n hx hb dX3_readAs_33 rfl (lv_at hl 1 rfl) ?_
      obtain ⟨r2, hc, hf⟩ := bd1 hf
      refine cl_l (ws' := [(qs 0, oX3 qs s_sort s_size), (qs 1, .inl (Y 0, 60, .inl s_ints)), (qs 2, .inl (Y 1, 60, .inr (.inl s_longs))), (qs 3, .inl (Y 2, 60, .inr (.inr (.inl s_floats)))), (qs 4, .inl (Y 3, 60, .inr (.inr (.inr (.inl s_doubles))))), (qs 5, .inl (Y 0, 60, .inl s_signs))]) (wr := []) (rnV (As := [.int p1]) (rest := []) ⟨hx, hb, hml, hown, hts⟩ (c_X3_asItIs l G Y H.size qs s_ints s_longs s_floats s_doubles s_signs s_sort s_size p1 r2 hc) (cwV 1 hts gX3_readAs_X3_asItIs rfl rfl rfl (by decide +kernel) ⟨(Nat.le_of_ble_eq_true rfl), (Nat.le_of_ble_eq_true rfl)⟩) trivial okT hK hP hD [0, 1, 2, 3, 4, 5] rfl rfl (ci := 2) (q0 := 0) rfl rfl rfl rfl hl.1 rfl (Nat.le_of_ble_eq_true rfl) dX3_readAs_34) hP hD hS hA [0, 1, 2, 3, 4, 5] [] [0, 1, 2, 3, 4, 5] rfl rfl rfl (by decide) rfl rfl (fun H locs hP hD hS => ?_)
      have e0 := rt1 hf
      exact W.lret (v := r2) hx hb hr (fun t ht hW => ⟨⟨r2, (), rfl, e0, by rw [ht]; exact hP, va_K.moved hW.alike hK, by rw [hAe]; exact hD⟩, hS.F ht⟩) hS.2.2 dX3_readAs_37
    have hf := ie hf c1
    by_cases c3 : p2 = 1
    · have hf := it hf c3
      refine lv_tableIn (tgt := 38) hx hb dX3_readAs_1 (by rw [c3]; decide) (by rw [c3]; decide) (off := 37) (by rw [c3]; rfl) (by decide) ?_
      refine lv_aload_n hx hb dX3_readAs_38 rfl (lv_at hl 0 rfl) ?_
      refine lv_iload_n hx hb dX3_readAs_39 rfl (lv_at hl 1 rfl) ?_
      obtain ⟨r4, hc, hf⟩ := bd1 hf
      refine cl_i (ws' := [(qs 0, oX3 qs s_sort s_size), (qs 1, .inl (Y 0, 60, .inl s_ints)), (qs 2, .inl (Y 1, 60, .inr (.inl s_longs))), (qs 3, .inl (Y 2, 60, .inr (.inr (.inl s_floats)))), (qs 4, .inl (Y 3, 60, .inr (.inr (.inr (.inl s_doubles))))), (qs 5, .inl (Y 0, 60, .inl s_signs))]) (wr := [(qs 5, .inl (Y 0, 60, .inl s_signs))]) (rnV (As := [.int p1]) (rest := []) ⟨hx, hb, hml, hown, hts⟩ (c_X3_asInt l G Y H.size qs s_ints s_longs s_floats s_doubles s_sort s_size p1 r4 hc) (cwV 1 hts gX3_readAs_X3_asInt rfl rfl rfl (by decide +kernel) ⟨(Nat.le_of_ble_eq_true rfl), (Nat.le_of_ble_eq_true rfl)⟩) trivial okT hK hP hD [0, 1, 2, 3, 4] rfl rfl (ci := 2) (q0 := 0) rfl rfl rfl rfl hl.1 rfl (Nat.le_of_ble_eq_true rfl) dX3_readAs_40) hP hD hS hA [0, 1, 2, 3, 4] [5] [1, 2, 3, 4, 5, 0] rfl rfl rfl (by decide) rfl rfl (fun H locs hP hD hS => ?_)
      refine lv_i2l hx hb dX3_readAs_43 rfl ?_
      have e0 := rt1 hf
      exact W.lret (v := r4.toInt64) hx hb hr (fun t ht hW => ⟨⟨r4.toInt64, (), rfl, e0, by rw [ht]; exact hP, va_K.moved hW.alike hK, by rw [hAe]; exact hD⟩, hS.F ht⟩) hS.2.2 dX3_readAs_44
    have hf := ie hf c3
    by_cases c5 : p2 = 2
    · have hf := it hf c5
      refine lv_tableIn (tgt := 45) hx hb dX3_readAs_1 (by rw [c5]; decide) (by rw [c5]; decide) (off := 44) (by rw [c5]; rfl) (by decide) ?_
      refine lv_aload_n hx hb dX3_readAs_45 rfl (lv_at hl 0 rfl) ?_
      refine lv_iload_n hx hb dX3_readAs_46 rfl (lv_at hl 1 rfl) ?_
      obtain ⟨r6, hc, hf⟩ := bd1 hf
      refine cl_l (ws' := [(qs 0, oX3 qs s_sort s_size), (qs 1, .inl (Y 0, 60, .inl s_ints)), (qs 2, .inl (Y 1, 60, .inr (.inl s_longs))), (qs 3, .inl (Y 2, 60, .inr (.inr (.inl s_floats)))), (qs 4, .inl (Y 3, 60, .inr (.inr (.inr (.inl s_doubles))))), (qs 5, .inl (Y 0, 60, .inl s_signs))]) (wr := [(qs 5, .inl (Y 0, 60, .inl s_signs))]) (rnV (As := [.int p1]) (rest := []) ⟨hx, hb, hml, hown, hts⟩ (c_X3_asLong l G Y H.size qs s_ints s_longs s_floats s_doubles s_sort s_size p1 r6 hc) (cwV 1 hts gX3_readAs_X3_asLong rfl rfl rfl (by decide +kernel) ⟨(Nat.le_of_ble_eq_true rfl), (Nat.le_of_ble_eq_true rfl)⟩) trivial okT hK hP hD [0, 1, 2, 3, 4] rfl rfl (ci := 2) (q0 := 0) rfl rfl rfl rfl hl.1 rfl (Nat.le_of_ble_eq_true rfl) dX3_readAs_47) hP hD hS hA [0, 1, 2, 3, 4] [5] [1, 2, 3, 4, 5, 0] rfl rfl rfl (by decide) rfl rfl (fun H locs hP hD hS => ?_)
      have e0 := rt1 hf
      exact W.lret (v := r6) hx hb hr (fun t ht hW => ⟨⟨r6, (), rfl, e0, by rw [ht]; exact hP, va_K.moved hW.alike hK, by rw [hAe]; exact hD⟩, hS.F ht⟩) hS.2.2 dX3_readAs_50
    have hf := ie hf c5
    by_cases c7 : p2 = 3
    · have hf := it hf c7
      refine lv_tableIn (tgt := 51) hx hb dX3_readAs_1 (by rw [c7]; decide) (by rw [c7]; decide) (off := 50) (by rw [c7]; rfl) (by decide) ?_
      refine lv_aload_n hx hb dX3_readAs_51 rfl (lv_at hl 0 rfl) ?_
      refine lv_iload_n hx hb dX3_readAs_52 rfl (lv_at hl 1 rfl) ?_
      obtain ⟨r8, hc, hf⟩ := bd1 hf
      refine cl_f (ws' := [(qs 0, oX3 qs s_sort s_size), (qs 1, .inl (Y 0, 60, .inl s_ints)), (qs 2, .inl (Y 1, 60, .inr (.inl s_longs))), (qs 3, .inl (Y 2, 60, .inr (.inr (.inl s_floats)))), (qs 4, .inl (Y 3, 60, .inr (.inr (.inr (.inl s_doubles))))), (qs 5, .inl (Y 0, 60, .inl s_signs))]) (wr := [(qs 5, .inl (Y 0, 60, .inl s_signs))]) (rnV (As := [.int p1]) (rest := []) ⟨hx, hb, hml, hown, hts⟩ (c_X3_asFloat l G Y H.size qs s_ints s_longs s_floats s_doubles s_sort s_size p1 r8 hc) (cwV 1 hts gX3_readAs_X3_asFloat rfl rfl rfl (by decide +kernel) ⟨(Nat.le_of_ble_eq_true rfl), (Nat.le_of_ble_eq_true rfl)⟩) trivial okT hK hP hD [0, 1, 2, 3, 4] rfl rfl (ci := 2) (q0 := 0) rfl rfl rfl rfl hl.1 rfl (Nat.le_of_ble_eq_true rfl) dX3_readAs_53) hP hD hS hA [0, 1, 2, 3, 4] [5] [1, 2, 3, 4, 5, 0] rfl rfl rfl (by decide) rfl rfl (fun H locs hP hD hS => ?_)
      refine lv_aload_n hx hb dX3_readAs_56 rfl (lv_at hl 0 rfl) ?_
      refine lv_iload_n hx hb dX3_readAs_57 rfl (lv_at hl 1 rfl) ?_
      obtain ⟨r9, hc, hf⟩ := bd1 hf
      refine cl_i (ws' := [(qs 0, oX3 qs s_sort s_size), (qs 1, .inl (Y 0, 60, .inl s_ints)), (qs 2, .inl (Y 1, 60, .inr (.inl s_longs))), (qs 3, .inl (Y 2, 60, .inr (.inr (.inl s_floats)))), (qs 4, .inl (Y 3, 60, .inr (.inr (.inr (.inl s_doubles))))), (qs 5, .inl (Y 0, 60, .inl s_signs))]) (wr := [(qs 3, .inl (Y 2, 60, .inr (.inr (.inl s_floats)))), (qs 4, .inl (Y 3, 60, .inr (.inr (.inr (.inl s_doubles)))))]) (rnV (As := [.int p1]) (rest := [.float r8]) ⟨hx, hb, hml, hown, hts⟩ (c_X3_isNegative l G Y H.size qs s_ints s_longs s_signs s_sort s_size p1 r9 hc) (cwV 1 hts gX3_readAs_X3_isNegative rfl rfl rfl (by decide +kernel) ⟨(Nat.le_of_ble_eq_true rfl), (Nat.le_of_ble_eq_true rfl)⟩) trivial okT hK hP hD [0, 1, 2, 5] rfl rfl (ci := 2) (q0 := 0) rfl rfl rfl rfl hl.1 rfl (Nat.le_of_ble_eq_true rfl) dX3_readAs_58) hP hD hS hA [0, 1, 2, 5] [3, 4] [2, 3, 4, 0, 1, 5] rfl rfl rfl (by decide) rfl rfl (fun H locs hP hD hS => ?_)
      obtain ⟨r10, hc, hf⟩ := bd1 hf
      refine cl_i (ws' := [(qs 0, oX3 qs s_sort s_size), (qs 1, .inl (Y 0, 60, .inl s_ints)), (qs 2, .inl (Y 1, 60, .inr (.inl s_longs))), (qs 3, .inl (Y 2, 60, .inr (.inr (.inl s_floats)))), (qs 4, .inl (Y 3, 60, .inr (.inr (.inr (.inl s_doubles))))), (qs 5, .inl (Y 0, 60, .inl s_signs))]) (wr := [(qs 0, oX3 qs s_sort s_size), (qs 1, .inl (Y 0, 60, .inl s_ints)), (qs 2, .inl (Y 1, 60, .inr (.inl s_longs))), (qs 3, .inl (Y 2, 60, .inr (.inr (.inl s_floats)))), (qs 4, .inl (Y 3, 60, .inr (.inr (.inr (.inl s_doubles))))), (qs 5, .inl (Y 0, 60, .inl s_signs))]) (rnS (As := [.float r8, .int r9]) (rest := []) ⟨hx, hb, hml, hown, hts⟩ (c_X0_ofFloat l G Y H.size r8 r9 r10 hc) (va_cwS 2 hts gX3_readAs_X0_ofFloat rfl rfl rfl (by decide +kernel) ⟨(Nat.le_of_ble_eq_true rfl), (Nat.le_of_ble_eq_true rfl)⟩) trivial okT hK hP hD [] rfl rfl rfl hl.1 rfl (Nat.le_of_ble_eq_true rfl) dX3_readAs_61) hP hD hS hA [] [0, 1, 2, 3, 4, 5] [0, 1, 2, 3, 4, 5] rfl rfl rfl (by decide) rfl rfl (fun H locs hP hD hS => ?_)
      refine lv_i2l hx hb dX3_readAs_64 rfl ?_
      have e0 := rt1 hf
      exact W.lret (v := r10.toInt64) hx hb hr (fun t ht hW => ⟨⟨r10.toInt64, (), rfl, e0, by rw [ht]; exact hP, va_K.moved hW.alike hK, by rw [hAe]; exact hD⟩, hS.F ht⟩) hS.2.2 dX3_readAs_65
    have hf := ie hf c7
    have t_c1 : ¬ p2.toInt = 0 := lv_neT c1 (by decide)
    have t_c3 : ¬ p2.toInt = 1 := lv_neT c3 (by decide)
    have t_c5 : ¬ p2.toInt = 2 := lv_neT c5 (by decide)
    have t_c7 : ¬ p2.toInt = 3 := lv_neT c7 (by decide)
    refine lv_tableOut (tgt := 66) hx hb dX3_readAs_1 (by omega) (by decide) ?_
    refine lv_aload_n hx hb dX3_readAs_66 rfl (lv_at hl 0 rfl) ?_
    refine lv_iload_n hx hb dX3_readAs_67 rfl (lv_at hl 1 rfl) ?_
    obtain ⟨r11, hc, hf⟩ := bd1 hf
    refine cl_i (ws' := [(qs 0, oX3 qs s_sort s_size), (qs 1, .inl (Y 0, 60, .inl s_ints)), (qs 2, .inl (Y 1, 60, .inr (.inl s_longs))), (qs 3, .inl (Y 2, 60, .inr (.inr (.inl s_floats)))), (qs 4, .inl (Y 3, 60, .inr (.inr (.inr (.inl s_doubles))))), (qs 5, .inl (Y 0, 60, .inl s_signs))]) (wr := [(qs 5, .inl (Y 0, 60, .inl s_signs))]) (rnV (As := [.int p1]) (rest := []) ⟨hx, hb, hml, hown, hts⟩ (c_X3_asInt l G Y H.size qs s_ints s_longs s_floats s_doubles s_sort s_size p1 r11 hc) (cwV 1 hts gX3_readAs_X3_asInt rfl rfl rfl (by decide +kernel) ⟨(Nat.le_of_ble_eq_true rfl), (Nat.le_of_ble_eq_true rfl)⟩) trivial okT hK hP hD [0, 1, 2, 3, 4] rfl rfl (ci := 2) (q0 := 0) rfl rfl rfl rfl hl.1 rfl (Nat.le_of_ble_eq_true rfl) dX3_readAs_68) hP hD hS hA [0, 1, 2, 3, 4] [5] [1, 2, 3, 4, 5, 0] rfl rfl rfl (by decide) rfl rfl (fun H locs hP hD hS => ?_)
    refine lv_i2b hx hb dX3_readAs_71 rfl ?_
    refine lv_i2l hx hb dX3_readAs_72 rfl ?_
    have e0 := rt1 hf
    exact W.lret (v := r11.toInt8.toInt32.toInt64) hx hb hr (fun t ht hW => ⟨⟨r11.toInt8.toInt32.toInt64, (), rfl, e0, by rw [ht]; exact hP, va_K.moved hW.alike hK, by rw [hAe]; exact hD⟩, hS.F ht⟩) hS.2.2 dX3_readAs_73
  exact E0 s.heap [] hP hD hS ls hl
-- X3_divide
set_option maxRecDepth 100000 in
set_option maxHeartbeats 4000000 in
theorem c_X3_divide (l : Launch) (G : va_G) (Y : Nat → ClassId) (sz : Nat) (qs : Nat → Nat) (s_ints : Nat → Int32) (s_longs : Nat → Int64) (s_floats : Nat → UInt32) (s_doubles : Nat → UInt64) (s_sort : Int32) (s_size : Int32) (p1 : Int32) (p2 : Int32) (o_s_ints : Nat → Int32) (o_s_longs : Nat → Int64) (o_s_floats : Nat → UInt32) (o_s_doubles : Nat → UInt64) (hf : f_X3_divide s_ints s_longs s_floats s_doubles s_sort p1 p2 = some (o_s_ints, o_s_longs, o_s_floats, o_s_doubles)) : Met l yX3_divide wsX3_divide (rmk 0 0) (va_Pc [.ref (qs 0), .int p1, .int p2] (Pre G (tys Y) [(qs 0, oX3 qs s_sort s_size), (qs 1, .inl (Y 0, 60, .inl s_ints)), (qs 2, .inl (Y 1, 60, .inr (.inl s_longs))), (qs 3, .inl (Y 2, 60, .inr (.inr (.inl s_floats)))), (qs 4, .inl (Y 3, 60, .inr (.inr (.inr (.inl s_doubles)))))] sz xT)) (va_Qv (fun (_ : Unit) => True) (Pst G (tys Y) [(qs 0, oX3 qs s_sort s_size), (qs 1, .inl (Y 0, 60, .inl s_ints)), (qs 2, .inl (Y 1, 60, .inr (.inl s_longs))), (qs 3, .inl (Y 2, 60, .inr (.inr (.inl s_floats)))), (qs 4, .inl (Y 3, 60, .inr (.inr (.inr (.inl s_doubles)))))] sz [(qs 0, oX3 qs s_sort s_size), (qs 1, .inl (Y 0, 60, .inl o_s_ints)), (qs 2, .inl (Y 1, 60, .inr (.inl o_s_longs))), (qs 3, .inl (Y 2, 60, .inr (.inr (.inl o_s_floats)))), (qs 4, .inl (Y 3, 60, .inr (.inr (.inr (.inl o_s_doubles)))))]) (va_A [(qs 0, oX3 qs s_sort s_size), (qs 1, .inl (Y 0, 60, .inl s_ints)), (qs 2, .inl (Y 1, 60, .inr (.inl s_longs))), (qs 3, .inl (Y 2, 60, .inr (.inr (.inl s_floats)))), (qs 4, .inl (Y 3, 60, .inr (.inr (.inr (.inl s_doubles)))))] sz)) 0 0 (va_A [(qs 0, oX3 qs s_sort s_size), (qs 1, .inl (Y 0, 60, .inl s_ints)), (qs 2, .inl (Y 1, 60, .inr (.inl s_longs))), (qs 3, .inl (Y 2, 60, .inr (.inr (.inl s_floats)))), (qs 4, .inl (Y 3, 60, .inr (.inr (.inr (.inl s_doubles)))))] sz) := by
  refine Met.ofW (cc := cX3_divide) (maxL := 3) (ret := none) (by decide) rfl ?_
  intro p e s m args below meth c s₁ B hml hv
  obtain ⟨rfl, hsz, hP, hK, hD0, hX⟩ := hv
  have hx := B.exec
  have hb := B.bytes
  have hr := B.returns
  have hts := atoms_spec (ws := wsX3_divide) B.pre
  have hown : s.vm.findClass RX3 = some m.cls := findClass_of_methodNamed B.named
  have hlocks := B.notSynchronized
  subst hsz
  have hD := hD0.self (sz := s.heap.size)
  generalize hAe : va_A [(qs 0, oX3 qs s_sort s_size), (qs 1, .inl (Y 0, 60, .inl s_ints)), (qs 2, .inl (Y 1, 60, .inr (.inl s_longs))), (qs 3, .inl (Y 2, 60, .inr (.inr (.inl s_floats)))), (qs 4, .inl (Y 3, 60, .inr (.inr (.inr (.inl s_doubles)))))] s.heap.size = A at hD ⊢
  have hA : ∀ q : Nat, s.heap.size ≤ q → A q := fun q h => by rw [← hAe]; exact Or.inr h
  have hS : va_S A s.heap s.heap [] := va_S.rf
  have hP : va_P G vwCl [(qs 0, oX3 qs s_sort s_size), (qs 1, .inl (Y 0, 60, .inl s_ints)), (qs 2, .inl (Y 1, 60, .inr (.inl s_longs))), (qs 3, .inl (Y 2, 60, .inr (.inr (.inl s_floats)))), (qs 4, .inl (Y 3, 60, .inr (.inr (.inr (.inl s_doubles)))))] s.heap := hP
  have wd1 : (Cond.fieldLink RX3 30 "PairedLines$Sheet" "sort" "I").before [.ref (qs 0), .int p1, .int p2].toArray s = true := hts _ (List.mem_of_getElem? (i := 1) rfl)
  have wd2 : (Cond.fieldLink RX3 9 "PairedLines$Sheet" "ints" "[I").before [.ref (qs 0), .int p1, .int p2].toArray s = true := hts _ (List.mem_of_getElem? (i := 2) rfl)
  have wd3 : (Cond.fieldLink RX3 15 "PairedLines$Sheet" "longs" "[J").before [.ref (qs 0), .int p1, .int p2].toArray s = true := hts _ (List.mem_of_getElem? (i := 3) rfl)
  have wd4 : (Cond.fieldLink RX3 19 "PairedLines$Sheet" "floats" "[F").before [.ref (qs 0), .int p1, .int p2].toArray s = true := hts _ (List.mem_of_getElem? (i := 4) rfl)
  have wd5 : (Cond.fieldLink RX3 23 "PairedLines$Sheet" "doubles" "[D").before [.ref (qs 0), .int p1, .int p2].toArray s = true := hts _ (List.mem_of_getElem? (i := 5) rfl)
  have inX3w : ∀ w ∈ u_ws RX3 TX3 7, w ∈ wsX3_divide := fun w hw => List.mem_cons_of_mem _ (List.mem_append_right _ (hw))
  have hl := lv_entry ([.ref (qs 0), .int p1, .int p2]) (n := 3) (Nat.le_of_ble_eq_true rfl)
  rw [lg_entry_eq]
  generalize (lg_sl ([.ref (qs 0), .int p1, .int p2]) ++ List.replicate (3 - (lg_sl ([.ref (qs 0), .int p1, .int p2])).length) Slot.unset).toArray = ls at hl ⊢
  have hl : lv_has ls 3 [(0, .ref (qs 0)), (1, .int p1), (2, .int p2)] := hl
  have E0 : ∀ (H : Heap) (locs : List Loc), va_P G vwCl [(qs 0, oX3 qs s_sort s_size), (qs 1, .inl (Y 0, 60, .inl s_ints)), (qs 2, .inl (Y 1, 60, .inr (.inl s_longs))), (qs 3, .inl (Y 2, 60, .inr (.inr (.inl s_floats)))), (qs 4, .inl (Y 3, 60, .inr (.inr (.inr (.inl s_doubles)))))] H → va_D A [(qs 0, oX3 qs s_sort s_size), (qs 1, .inl (Y 0, 60, .inl s_ints)), (qs 2, .inl (Y 1, 60, .inr (.inl s_longs))), (qs 3, .inl (Y 2, 60, .inr (.inr (.inl s_floats)))), (qs 4, .inl (Y 3, 60, .inr (.inr (.inr (.inl s_doubles)))))] → va_S A s.heap H locs → ∀ (ls : Array Slot), lv_has ls 3 [(0, .ref (qs 0)), (1, .int p1), (2, .int p2)] → W p l e (headSpec wsX3_divide (rmk 0 0)).room s m [.ref (qs 0), .int p1, .int p2].toArray below meth c H locs 0 0 (MQ below (va_Qv (fun (_ : Unit) => True) (Pst G (tys Y) [(qs 0, oX3 qs s_sort s_size), (qs 1, .inl (Y 0, 60, .inl s_ints)), (qs 2, .inl (Y 1, 60, .inr (.inl s_longs))), (qs 3, .inl (Y 2, 60, .inr (.inr (.inl s_floats)))), (qs 4, .inl (Y 3, 60, .inr (.inr (.inr (.inl s_doubles)))))] s.heap.size [(qs 0, oX3 qs s_sort s_size), (qs 1, .inl (Y 0, 60, .inl o_s_ints)), (qs 2, .inl (Y 1, 60, .inr (.inl o_s_longs))), (qs 3, .inl (Y 2, 60, .inr (.inr (.inl o_s_floats)))), (qs 4, .inl (Y 3, 60, .inr (.inr (.inr (.inl o_s_doubles)))))]) A) [.ref (qs 0), .int p1, .int p2].toArray s 0 0 A) (F0 m 0 ls []) := by
    intro H locs hP hD hS ls hl
    unfold f_X3_divide at hf
    refine lv_iload_n hx hb dX3_divide_0 rfl (lv_at hl 2 rfl) ?_
    refine lv_if_ne (tgt := 5) hx hb dX3_divide_1 (by decide) (fun c1 => ?_) (fun c1 => ?_)
    · have hf := ie hf c1
      refine lv_aload_n hx hb dX3_divide_5 rfl (lv_at hl 0 rfl) ?_
      refine va_get (D := G) (ci := 2) (v := .int s_sort) (C := RX3) (T := TX3) (N := 7) hx hb hts inX3w hown hK hP 0 rfl rfl 5 (by decide) wd1 (fun _ h9 => h9) rfl dX3_divide_6 ?_
      refine lv_if_ne (tgt := 29) hx hb dX3_divide_9 (by decide) (fun c2 => ?_) (fun c2 => ?_)
      · have hf := ie hf c2
        refine lv_aload_n hx hb dX3_divide_29 rfl (lv_at hl 0 rfl) ?_
        refine va_get (D := G) (ci := 2) (v := .int s_sort) (C := RX3) (T := TX3) (N := 7) hx hb hts inX3w hown hK hP 0 rfl rfl 5 (by decide) wd1 (fun _ h9 => h9) rfl dX3_divide_30 ?_
        refine lv_iconst (v := 1) hx hb dX3_divide_33 (by decide) ?_
        refine lv_icmp_ne (tgt := 55) hx hb dX3_divide_34 (by decide) (fun c3 => ?_) (fun c3 => ?_)
        · have hf := ie hf c3
          refine lv_aload_n hx hb dX3_divide_55 rfl (lv_at hl 0 rfl) ?_
          refine va_get (D := G) (ci := 2) (v := .int s_sort) (C := RX3) (T := TX3) (N := 7) hx hb hts inX3w hown hK hP 0 rfl rfl 5 (by decide) wd1 (fun _ h9 => h9) rfl dX3_divide_56 ?_
          refine lv_iconst (v := 2) hx hb dX3_divide_59 (by decide) ?_
          refine lv_icmp_ne (tgt := 81) hx hb dX3_divide_60 (by decide) (fun c4 => ?_) (fun c4 => ?_)
          · have hf := ie hf c4
            refine lv_aload_n hx hb dX3_divide_81 rfl (lv_at hl 0 rfl) ?_
            refine va_get (D := G) (ci := 2) (v := .ref (qs 4)) (C := RX3) (T := TX3) (N := 7) hx hb hts inX3w hown hK hP 0 rfl rfl 3 (by decide) wd5 (fun _ h9 => h9) rfl dX3_divide_82 ?_
            refine lv_iload_n hx hb dX3_divide_85 rfl (lv_at hl 1 rfl) ?_
            refine lv_aload_n hx hb dX3_divide_86 rfl (lv_at hl 0 rfl) ?_
            refine va_get (D := G) (ci := 2) (v := .ref (qs 4)) (C := RX3) (T := TX3) (N := 7) hx hb hts inX3w hown hK hP 0 rfl rfl 3 (by decide) wd5 (fun _ h9 => h9) rfl dX3_divide_87 ?_
            refine lv_iload_n hx hb dX3_divide_90 rfl (lv_at hl 1 rfl) ?_
            obtain ⟨g5, hf⟩ := gd hf
            refine va_dald hx hb hK hP 4 3 rfl rfl g5 dX3_divide_91 ?_
            refine lv_iload_n hx hb dX3_divide_92 rfl (lv_at hl 2 rfl) ?_
            refine lv_i2d hx hb dX3_divide_93 ?_
            obtain ⟨g6, hf⟩ := gp hf
            refine lv_ddiv hx hb dX3_divide_94 g6 ?_
            obtain ⟨g7, hf⟩ := gd hf
            refine va_dast hx hb hK hP hD hS 4 3 rfl rfl g7 dX3_divide_95 (fun H locs hP hD hS => ?_)
            obtain ⟨v8, e_v8⟩ : ∃ z : Nat → UInt64, z = vf_upd s_doubles p1.toNatClampNeg (FP.ddiv (s_doubles p1.toNatClampNeg) (FP.i2d p2)) := ⟨_, rfl⟩
            have hf := nm_at hf e_v8
            have hP : va_P G vwCl [(qs 0, oX3 qs s_sort s_size), (qs 1, .inl (Y 0, 60, .inl s_ints)), (qs 2, .inl (Y 1, 60, .inr (.inl s_longs))), (qs 3, .inl (Y 2, 60, .inr (.inr (.inl s_floats)))), (qs 4, .inl (Y 3, 60, .inr (.inr (.inr (.inl v8)))))] H := by rw [e_v8]; exact hP
            have hD : va_D A [(qs 0, oX3 qs s_sort s_size), (qs 1, .inl (Y 0, 60, .inl s_ints)), (qs 2, .inl (Y 1, 60, .inr (.inl s_longs))), (qs 3, .inl (Y 2, 60, .inr (.inr (.inl s_floats)))), (qs 4, .inl (Y 3, 60, .inr (.inr (.inr (.inl v8)))))] := by rw [e_v8]; exact hD
            obtain ⟨e0, e1, e2, e3⟩ := rt4 hf
            have hP : va_P G vwCl [(qs 0, oX3 qs s_sort s_size), (qs 1, .inl (Y 0, 60, .inl o_s_ints)), (qs 2, .inl (Y 1, 60, .inr (.inl o_s_longs))), (qs 3, .inl (Y 2, 60, .inr (.inr (.inl o_s_floats)))), (qs 4, .inl (Y 3, 60, .inr (.inr (.inr (.inl o_s_doubles)))))] H := by rw [← e0, ← e1, ← e2, ← e3]; exact hP
            have hD : va_D A [(qs 0, oX3 qs s_sort s_size), (qs 1, .inl (Y 0, 60, .inl o_s_ints)), (qs 2, .inl (Y 1, 60, .inr (.inl o_s_longs))), (qs 3, .inl (Y 2, 60, .inr (.inr (.inl o_s_floats)))), (qs 4, .inl (Y 3, 60, .inr (.inr (.inr (.inl o_s_doubles)))))] := by rw [← e0, ← e1, ← e2, ← e3]; exact hD
            exact W.vret hx hb hr (fun t ht hW => ⟨⟨(), rfl, trivial, by rw [ht]; exact hP, va_K.moved hW.alike hK, by rw [hAe]; exact hD⟩, hS.F ht⟩) hS.2.2 dX3_divide_96
          · have hf := it hf c4
            refine lv_aload_n hx hb dX3_divide_63 rfl (lv_at hl 0 rfl) ?_
            refine va_get (D := G) (ci := 2) (v := .ref (qs 3)) (C := RX3) (T := TX3) (N := 7) hx hb hts inX3w hown hK hP 0 rfl rfl 2 (by decide) wd4 (fun _ h9 => h9) rfl dX3_divide_64 ?_
            refine lv_iload_n hx hb dX3_divide_67 rfl (lv_at hl 1 rfl) ?_
            refine lv_aload_n hx hb dX3_divide_68 rfl (lv_at hl 0 rfl) ?_
            refine va_get (D := G) (ci := 2) (v := .ref (qs 3)) (C := RX3) (T := TX3) (N := 7) hx hb hts inX3w hown hK hP 0 rfl rfl 2 (by decide) wd4 (fun _ h9 => h9) rfl dX3_divide_69 ?_
            refine lv_iload_n hx hb dX3_divide_72 rfl (lv_at hl 1 rfl) ?_
            obtain ⟨g9, hf⟩ := gd hf
            refine va_fald hx hb hK hP 3 2 rfl rfl g9 dX3_divide_73 ?_
            refine lv_iload_n hx hb dX3_divide_74 rfl (lv_at hl 2 rfl) ?_
            refine lv_i2f hx hb dX3_divide_75 ?_
            obtain ⟨g10, hf⟩ := gp hf
            refine lv_fdiv hx hb dX3_divide_76 g10 ?_
            obtain ⟨g11, hf⟩ := gd hf
            refine va_fast hx hb hK hP hD hS 3 2 rfl rfl g11 dX3_divide_77 (fun H locs hP hD hS => ?_)
            obtain ⟨v12, e_v12⟩ : ∃ z : Nat → UInt32, z = vf_upd s_floats p1.toNatClampNeg (FP.fdiv (s_floats p1.toNatClampNeg) (FP.i2f p2)) := ⟨_, rfl⟩
            have hf := nm_at hf e_v12
            have hP : va_P G vwCl [(qs 0, oX3 qs s_sort s_size), (qs 1, .inl (Y 0, 60, .inl s_ints)), (qs 2, .inl (Y 1, 60, .inr (.inl s_longs))), (qs 3, .inl (Y 2, 60, .inr (.inr (.inl v12)))), (qs 4, .inl (Y 3, 60, .inr (.inr (.inr (.inl s_doubles)))))] H := by rw [e_v12]; exact hP
            have hD : va_D A [(qs 0, oX3 qs s_sort s_size), (qs 1, .inl (Y 0, 60, .inl s_ints)), (qs 2, .inl (Y 1, 60, .inr (.inl s_longs))), (qs 3, .inl (Y 2, 60, .inr (.inr (.inl v12)))), (qs 4, .inl (Y 3, 60, .inr (.inr (.inr (.inl s_doubles)))))] := by rw [e_v12]; exact hD
            refine lv_goto (tgt := 96) hx hb dX3_divide_78 (by decide) ?_
            obtain ⟨e0, e1, e2, e3⟩ := rt4 hf
            have hP : va_P G vwCl [(qs 0, oX3 qs s_sort s_size), (qs 1, .inl (Y 0, 60, .inl o_s_ints)), (qs 2, .inl (Y 1, 60, .inr (.inl o_s_longs))), (qs 3, .inl (Y 2, 60, .inr (.inr (.inl o_s_floats)))), (qs 4, .inl (Y 3, 60, .inr (.inr (.inr (.inl o_s_doubles)))))] H := by rw [← e0, ← e1, ← e2, ← e3]; exact hP
            have hD : va_D A [(qs 0, oX3 qs s_sort s_size), (qs 1, .inl (Y 0, 60, .inl o_s_ints)), (qs 2, .inl (Y 1, 60, .inr (.inl o_s_longs))), (qs 3, .inl (Y 2, 60, .inr (.inr (.inl o_s_floats)))), (qs 4, .inl (Y 3, 60, .inr (.inr (.inr (.inl o_s_doubles)))))] := by rw [← e0, ← e1, ← e2, ← e3]; exact hD
            exact W.vret hx hb hr (fun t ht hW => ⟨⟨(), rfl, trivial, by rw [ht]; exact hP, va_K.moved hW.alike hK, by rw [hAe]; exact hD⟩, hS.F ht⟩) hS.2.2 dX3_divide_96
        · have hf := it hf c3
          refine lv_aload_n hx hb dX3_divide_37 rfl (lv_at hl 0 rfl) ?_
          refine va_get (D := G) (ci := 2) (v := .ref (qs 2)) (C := RX3) (T := TX3) (N := 7) hx hb hts inX3w hown hK hP 0 rfl rfl 1 (by decide) wd3 (fun _ h9 => h9) rfl dX3_divide_38 ?_
          refine lv_iload_n hx hb dX3_divide_41 rfl (lv_at hl 1 rfl) ?_
          refine lv_aload_n hx hb dX3_divide_42 rfl (lv_at hl 0 rfl) ?_
          refine va_get (D := G) (ci := 2) (v := .ref (qs 2)) (C := RX3) (T := TX3) (N := 7) hx hb hts inX3w hown hK hP 0 rfl rfl 1 (by decide) wd3 (fun _ h9 => h9) rfl dX3_divide_43 ?_
          refine lv_iload_n hx hb dX3_divide_46 rfl (lv_at hl 1 rfl) ?_
          obtain ⟨g13, hf⟩ := gd hf
          refine va_lald hx hb hK hP 2 1 rfl rfl g13 dX3_divide_47 ?_
          refine lv_iload_n hx hb dX3_divide_48 rfl (lv_at hl 2 rfl) ?_
          refine lv_i2l hx hb dX3_divide_49 rfl ?_
          obtain ⟨g14, hf⟩ := gd hf
          refine lv_ldiv hx hb dX3_divide_50 g14 ?_
          obtain ⟨g15, hf⟩ := gd hf
          refine va_last hx hb hK hP hD hS 2 1 rfl rfl g15 dX3_divide_51 (fun H locs hP hD hS => ?_)
          obtain ⟨v16, e_v16⟩ : ∃ z : Nat → Int64, z = vp_updL s_longs p1.toNatClampNeg ((s_longs p1.toNatClampNeg) / p2.toInt64) := ⟨_, rfl⟩
          have hf := nm_at hf e_v16
          have hP : va_P G vwCl [(qs 0, oX3 qs s_sort s_size), (qs 1, .inl (Y 0, 60, .inl s_ints)), (qs 2, .inl (Y 1, 60, .inr (.inl v16))), (qs 3, .inl (Y 2, 60, .inr (.inr (.inl s_floats)))), (qs 4, .inl (Y 3, 60, .inr (.inr (.inr (.inl s_doubles)))))] H := by rw [e_v16]; exact hP
          have hD : va_D A [(qs 0, oX3 qs s_sort s_size), (qs 1, .inl (Y 0, 60, .inl s_ints)), (qs 2, .inl (Y 1, 60, .inr (.inl v16))), (qs 3, .inl (Y 2, 60, .inr (.inr (.inl s_floats)))), (qs 4, .inl (Y 3, 60, .inr (.inr (.inr (.inl s_doubles)))))] := by rw [e_v16]; exact hD
          refine lv_goto (tgt := 96) hx hb dX3_divide_52 (by decide) ?_
          obtain ⟨e0, e1, e2, e3⟩ := rt4 hf
          have hP : va_P G vwCl [(qs 0, oX3 qs s_sort s_size), (qs 1, .inl (Y 0, 60, .inl o_s_ints)), (qs 2, .inl (Y 1, 60, .inr (.inl o_s_longs))), (qs 3, .inl (Y 2, 60, .inr (.inr (.inl o_s_floats)))), (qs 4, .inl (Y 3, 60, .inr (.inr (.inr (.inl o_s_doubles)))))] H := by rw [← e0, ← e1, ← e2, ← e3]; exact hP
          have hD : va_D A [(qs 0, oX3 qs s_sort s_size), (qs 1, .inl (Y 0, 60, .inl o_s_ints)), (qs 2, .inl (Y 1, 60, .inr (.inl o_s_longs))), (qs 3, .inl (Y 2, 60, .inr (.inr (.inl o_s_floats)))), (qs 4, .inl (Y 3, 60, .inr (.inr (.inr (.inl o_s_doubles)))))] := by rw [← e0, ← e1, ← e2, ← e3]; exact hD
          exact W.vret hx hb hr (fun t ht hW => ⟨⟨(), rfl, trivial, by rw [ht]; exact hP, va_K.moved hW.alike hK, by rw [hAe]; exact hD⟩, hS.F ht⟩) hS.2.2 dX3_divide_96
      · have hf := it hf c2
        refine lv_aload_n hx hb dX3_divide_12 rfl (lv_at hl 0 rfl) ?_
        refine va_get (D := G) (ci := 2) (v := .ref (qs 1)) (C := RX3) (T := TX3) (N := 7) hx hb hts inX3w hown hK hP 0 rfl rfl 0 (by decide) wd2 (fun _ h9 => h9) rfl dX3_divide_13 ?_
        refine lv_iload_n hx hb dX3_divide_16 rfl (lv_at hl 1 rfl) ?_
        refine lv_aload_n hx hb dX3_divide_17 rfl (lv_at hl 0 rfl) ?_
        refine va_get (D := G) (ci := 2) (v := .ref (qs 1)) (C := RX3) (T := TX3) (N := 7) hx hb hts inX3w hown hK hP 0 rfl rfl 0 (by decide) wd2 (fun _ h9 => h9) rfl dX3_divide_18 ?_
        refine lv_iload_n hx hb dX3_divide_21 rfl (lv_at hl 1 rfl) ?_
        obtain ⟨g17, hf⟩ := gd hf
        refine va_iald hx hb hK hP 1 0 rfl rfl g17 dX3_divide_22 ?_
        refine lv_iload_n hx hb dX3_divide_23 rfl (lv_at hl 2 rfl) ?_
        obtain ⟨g18, hf⟩ := gd hf
        refine lv_idiv hx hb dX3_divide_24 g18 ?_
        obtain ⟨g19, hf⟩ := gd hf
        refine va_iast hx hb hK hP hD hS 1 0 rfl rfl g19 dX3_divide_25 (fun H locs hP hD hS => ?_)
        obtain ⟨v20, e_v20⟩ : ∃ z : Nat → Int32, z = upd s_ints p1.toNatClampNeg ((s_ints p1.toNatClampNeg) / p2) := ⟨_, rfl⟩
        have hf := nm_at hf e_v20
        have hP : va_P G vwCl [(qs 0, oX3 qs s_sort s_size), (qs 1, .inl (Y 0, 60, .inl v20)), (qs 2, .inl (Y 1, 60, .inr (.inl s_longs))), (qs 3, .inl (Y 2, 60, .inr (.inr (.inl s_floats)))), (qs 4, .inl (Y 3, 60, .inr (.inr (.inr (.inl s_doubles)))))] H := by rw [e_v20]; exact hP
        have hD : va_D A [(qs 0, oX3 qs s_sort s_size), (qs 1, .inl (Y 0, 60, .inl v20)), (qs 2, .inl (Y 1, 60, .inr (.inl s_longs))), (qs 3, .inl (Y 2, 60, .inr (.inr (.inl s_floats)))), (qs 4, .inl (Y 3, 60, .inr (.inr (.inr (.inl s_doubles)))))] := by rw [e_v20]; exact hD
        refine lv_goto (tgt := 96) hx hb dX3_divide_26 (by decide) ?_
        obtain ⟨e0, e1, e2, e3⟩ := rt4 hf
        have hP : va_P G vwCl [(qs 0, oX3 qs s_sort s_size), (qs 1, .inl (Y 0, 60, .inl o_s_ints)), (qs 2, .inl (Y 1, 60, .inr (.inl o_s_longs))), (qs 3, .inl (Y 2, 60, .inr (.inr (.inl o_s_floats)))), (qs 4, .inl (Y 3, 60, .inr (.inr (.inr (.inl o_s_doubles)))))] H := by rw [← e0, ← e1, ← e2, ← e3]; exact hP
        have hD : va_D A [(qs 0, oX3 qs s_sort s_size), (qs 1, .inl (Y 0, 60, .inl o_s_ints)), (qs 2, .inl (Y 1, 60, .inr (.inl o_s_longs))), (qs 3, .inl (Y 2, 60, .inr (.inr (.inl o_s_floats)))), (qs 4, .inl (Y 3, 60, .inr (.inr (.inr (.inl o_s_doubles)))))] := by rw [← e0, ← e1, ← e2, ← e3]; exact hD
        exact W.vret hx hb hr (fun t ht hW => ⟨⟨(), rfl, trivial, by rw [ht]; exact hP, va_K.moved hW.alike hK, by rw [hAe]; exact hD⟩, hS.F ht⟩) hS.2.2 dX3_divide_96
    · have hf := it hf c1
      obtain ⟨e0, e1, e2, e3⟩ := rt4 hf
      have hP : va_P G vwCl [(qs 0, oX3 qs s_sort s_size), (qs 1, .inl (Y 0, 60, .inl o_s_ints)), (qs 2, .inl (Y 1, 60, .inr (.inl o_s_longs))), (qs 3, .inl (Y 2, 60, .inr (.inr (.inl o_s_floats)))), (qs 4, .inl (Y 3, 60, .inr (.inr (.inr (.inl o_s_doubles)))))] H := by rw [← e0, ← e1, ← e2, ← e3]; exact hP
      have hD : va_D A [(qs 0, oX3 qs s_sort s_size), (qs 1, .inl (Y 0, 60, .inl o_s_ints)), (qs 2, .inl (Y 1, 60, .inr (.inl o_s_longs))), (qs 3, .inl (Y 2, 60, .inr (.inr (.inl o_s_floats)))), (qs 4, .inl (Y 3, 60, .inr (.inr (.inr (.inl o_s_doubles)))))] := by rw [← e0, ← e1, ← e2, ← e3]; exact hD
      exact W.vret hx hb hr (fun t ht hW => ⟨⟨(), rfl, trivial, by rw [ht]; exact hP, va_K.moved hW.alike hK, by rw [hAe]; exact hD⟩, hS.F ht⟩) hS.2.2 dX3_divide_4
  exact E0 s.heap [] hP hD hS ls hl
