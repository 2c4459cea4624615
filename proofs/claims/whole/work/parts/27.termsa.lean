-- X5_load
set_option maxRecDepth 100000 in
set_option maxHeartbeats 4000000 in
theorem c_X5_load (l : Launch) (G : va_G) (Y : Nat → ClassId) (sz : Nat) (qt : Nat → Nat) (qm : Nat → Nat) (t_worths : Nat → Int64) (t_stamp : Int32) (t_age : Int32) (t_isTurned : Int32) (m_each : Nat → Int64) (m_total : Int64) (m_once : Int64) (m_twice : Int64) (p2 : Int32) (p3 : Int32) (o_m_each : Nat → Int64) (o_m_total : Int64) (o_m_once : Int64) (o_m_twice : Int64) (hf : f_X5_load t_worths m_each m_total m_once m_twice p2 p3 = some (o_m_each, o_m_total, o_m_once, o_m_twice)) : Met l yX5_load wsX5_load (rmk 1 23) (va_Pc [.ref (qm 0), .ref (qt 0), .int p2, .int p3] (Pre G (tys Y) [(qt 0, oX4 qt t_stamp t_age t_isTurned), (qt 1, .inl (Y 1, 3605, .inr (.inl t_worths))), (qm 0, oX5 qm m_total m_once m_twice), (qm 1, .inl (Y 1, 7, .inr (.inl m_each)))] sz xT)) (va_Qv (fun (_ : Unit) => True) (Pst G (tys Y) [(qt 0, oX4 qt t_stamp t_age t_isTurned), (qt 1, .inl (Y 1, 3605, .inr (.inl t_worths))), (qm 0, oX5 qm m_total m_once m_twice), (qm 1, .inl (Y 1, 7, .inr (.inl m_each)))] sz [(qt 0, oX4 qt t_stamp t_age t_isTurned), (qt 1, .inl (Y 1, 3605, .inr (.inl t_worths))), (qm 0, oX5 qm o_m_total o_m_once o_m_twice), (qm 1, .inl (Y 1, 7, .inr (.inl o_m_each)))]) (va_A [(qt 0, oX4 qt t_stamp t_age t_isTurned), (qt 1, .inl (Y 1, 3605, .inr (.inl t_worths))), (qm 0, oX5 qm m_total m_once m_twice), (qm 1, .inl (Y 1, 7, .inr (.inl m_each)))] sz)) 0 0 (va_A [(qt 0, oX4 qt t_stamp t_age t_isTurned), (qt 1, .inl (Y 1, 3605, .inr (.inl t_worths))), (qm 0, oX5 qm m_total m_once m_twice), (qm 1, .inl (Y 1, 7, .inr (.inl m_each)))] sz) := by
  refine Met.ofW (cc := cX5_load) (maxL := 8) (ret := none) (by decide) rfl ?_
  intro p e s m args below meth c s₁ B hml hv
  obtain ⟨rfl, hsz, hP, hK, hD0, hX⟩ := hv
  have hx := B.exec
  have hb := B.bytes
  have hr := B.returns
  have hts := atoms_spec (ws := wsX5_load) B.pre
  have hown : s.vm.findClass RX5 = some m.cls := findClass_of_methodNamed B.named
  have hlocks := B.notSynchronized
  subst hsz
  have hD := hD0.self (sz := s.heap.size)
  generalize hAe : va_A [(qt 0, oX4 qt t_stamp t_age t_isTurned), (qt 1, .inl (Y 1, 3605, .inr (.inl t_worths))), (qm 0, oX5 qm m_total m_once m_twice), (qm 1, .inl (Y 1, 7, .inr (.inl m_each)))] s.heap.size = A at hD ⊢
  have hA : ∀ q : Nat, s.heap.size ≤ q → A q := fun q h => by rw [← hAe]; exact Or.inr h
  have hS : va_S A s.heap s.heap [] := va_S.rf
  have hP : va_P G vwCl [(qt 0, oX4 qt t_stamp t_age t_isTurned), (qt 1, .inl (Y 1, 3605, .inr (.inl t_worths))), (qm 0, oX5 qm m_total m_once m_twice), (qm 1, .inl (Y 1, 7, .inr (.inl m_each)))] s.heap := hP
  have wd1 : (Cond.constantLong RX5 31 (-1)).before [.ref (qm 0), .ref (qt 0), .int p2, .int p3].toArray s = true := hts _ (List.mem_of_getElem? (i := 1) rfl)
  have wd2 : (Cond.fieldLink RX5 15 "PairedLines$Terms" "total" "J").before [.ref (qm 0), .ref (qt 0), .int p2, .int p3].toArray s = true := hts _ (List.mem_of_getElem? (i := 2) rfl)
  have wd3 : (Cond.fieldLink RX5 19 "PairedLines$Terms" "once" "J").before [.ref (qm 0), .ref (qt 0), .int p2, .int p3].toArray s = true := hts _ (List.mem_of_getElem? (i := 3) rfl)
  have wd4 : (Cond.fieldLink RX5 22 "PairedLines$Terms" "twice" "J").before [.ref (qm 0), .ref (qt 0), .int p2, .int p3].toArray s = true := hts _ (List.mem_of_getElem? (i := 4) rfl)
  have wd5 : (Cond.fieldLink RX5 9 "PairedLines$Terms" "each" "[J").before [.ref (qm 0), .ref (qt 0), .int p2, .int p3].toArray s = true := hts _ (List.mem_of_getElem? (i := 5) rfl)
  have wd6 : (Cond.fieldLink RX5 33 "PairedLines$Table" "worths" "[J").before [.ref (qm 0), .ref (qt 0), .int p2, .int p3].toArray s = true := hts _ (List.mem_of_getElem? (i := 6) rfl)
  have inX4w : ∀ w ∈ u_ws RX4 TX4 9, w ∈ wsX5_load := fun w hw => List.mem_cons_of_mem _ (List.mem_append_right _ (hw))
  have inX5w : ∀ w ∈ u_ws RX5 TX5 4, w ∈ wsX5_load := fun w hw => List.mem_cons_of_mem _ (List.mem_append_left _ (List.mem_append_right _ (hw)))
  have hl := lv_entry ([.ref (qm 0), .ref (qt 0), .int p2, .int p3]) (n := 8) (Nat.le_of_ble_eq_true rfl)
  rw [lg_entry_eq]
  generalize (lg_sl ([.ref (qm 0), .ref (qt 0), .int p2, .int p3]) ++ List.replicate (8 - (lg_sl ([.ref (qm 0), .ref (qt 0), .int p2, .int p3])).length) Slot.unset).toArray = ls at hl ⊢
  have hl : lv_has ls 8 [(0, .ref (qm 0)), (1, .ref (qt 0)), (2, .int p2), (3, .int p3)] := hl
  have B45 : ∀ (n45 : Nat), ∀ (b_m_each : Nat → Int64) (b_m_total : Int64) (b_m_once : Int64) (b_m_twice : Int64) (x4 : Int32) (x5 : Int64) (x7 : Int32), f_X5_load_b45 t_worths p2 p3 n45 b_m_each b_m_total b_m_once b_m_twice x4 x5 x7 = some (o_m_each, o_m_total, o_m_once, o_m_twice) → ∀ (H : Heap) (locs : List Loc), va_P G vwCl [(qt 0, oX4 qt t_stamp t_age t_isTurned), (qt 1, .inl (Y 1, 3605, .inr (.inl t_worths))), (qm 0, oX5 qm b_m_total b_m_once b_m_twice), (qm 1, .inl (Y 1, 7, .inr (.inl b_m_each)))] H → va_D A [(qt 0, oX4 qt t_stamp t_age t_isTurned), (qt 1, .inl (Y 1, 3605, .inr (.inl t_worths))), (qm 0, oX5 qm b_m_total b_m_once b_m_twice), (qm 1, .inl (Y 1, 7, .inr (.inl b_m_each)))] → va_S A s.heap H locs → ∀ (ls : Array Slot), lv_has ls 8 [(0, .ref (qm 0)), (1, .ref (qt 0)), (2, .int p2), (3, .int p3), (4, .int x4), (5, .long x5), (7, .int x7)] → W p l e (headSpec wsX5_load (rmk 1 23)).room s m [.ref (qm 0), .ref (qt 0), .int p2, .int p3].toArray below meth c H locs 0 0 (MQ below (va_Qv (fun (_ : Unit) => True) (Pst G (tys Y) [(qt 0, oX4 qt t_stamp t_age t_isTurned), (qt 1, .inl (Y 1, 3605, .inr (.inl t_worths))), (qm 0, oX5 qm m_total m_once m_twice), (qm 1, .inl (Y 1, 7, .inr (.inl m_each)))] s.heap.size [(qt 0, oX4 qt t_stamp t_age t_isTurned), (qt 1, .inl (Y 1, 3605, .inr (.inl t_worths))), (qm 0, oX5 qm o_m_total o_m_once o_m_twice), (qm 1, .inl (Y 1, 7, .inr (.inl o_m_each)))]) A) [.ref (qm 0), .ref (qt 0), .int p2, .int p3].toArray s 0 0 A) (F0 m 45 ls []) := by
    intro n45
    induction n45 with
    | zero =>
      intro b_m_each b_m_total b_m_once b_m_twice x4 x5 x7 hf H locs hP hD hS ls hl
      exact no_none hf
    | succ n45 ih45 =>
      have B83 : ∀ (b_m_each : Nat → Int64) (b_m_total : Int64) (b_m_once : Int64) (b_m_twice : Int64) (x4 : Int32) (x5 : Int64) (x7 : Int32) (y0 : Int64) (y1 : Int32), f_X5_load_b83 t_worths p2 p3 (f_X5_load_b45 t_worths p2 p3 n45) b_m_each b_m_total b_m_once b_m_twice x4 x5 x7 y0 y1 = some (o_m_each, o_m_total, o_m_once, o_m_twice) → ∀ (H : Heap) (locs : List Loc), va_P G vwCl [(qt 0, oX4 qt t_stamp t_age t_isTurned), (qt 1, .inl (Y 1, 3605, .inr (.inl t_worths))), (qm 0, oX5 qm b_m_total b_m_once b_m_twice), (qm 1, .inl (Y 1, 7, .inr (.inl b_m_each)))] H → va_D A [(qt 0, oX4 qt t_stamp t_age t_isTurned), (qt 1, .inl (Y 1, 3605, .inr (.inl t_worths))), (qm 0, oX5 qm b_m_total b_m_once b_m_twice), (qm 1, .inl (Y 1, 7, .inr (.inl b_m_each)))] → va_S A s.heap H locs → ∀ (ls : Array Slot), lv_has ls 8 [(0, .ref (qm 0)), (1, .ref (qt 0)), (2, .int p2), (3, .int p3), (4, .int x4), (5, .long x5), (7, .int x7)] → W p l e (headSpec wsX5_load (rmk 1 23)).room s m [.ref (qm 0), .ref (qt 0), .int p2, .int p3].toArray below meth c H locs 0 0 (MQ below (va_Qv (fun (_ : Unit) => True) (Pst G (tys Y) [(qt 0, oX4 qt t_stamp t_age t_isTurned), (qt 1, .inl (Y 1, 3605, .inr (.inl t_worths))), (qm 0, oX5 qm m_total m_once m_twice), (qm 1, .inl (Y 1, 7, .inr (.inl m_each)))] s.heap.size [(qt 0, oX4 qt t_stamp t_age t_isTurned), (qt 1, .inl (Y 1, 3605, .inr (.inl t_worths))), (qm 0, oX5 qm o_m_total o_m_once o_m_twice), (qm 1, .inl (Y 1, 7, .inr (.inl o_m_each)))]) A) [.ref (qm 0), .ref (qt 0), .int p2, .int p3].toArray s 0 0 A) (F0 m 83 ls [.long y0, .int y1, .ref (qm 1)]) := by
        intro b_m_each b_m_total b_m_once b_m_twice x4 x5 x7 y0 y1 hf H locs hP hD hS ls hl
        unfold f_X5_load_b83 at hf
        obtain ⟨g1, hf⟩ := gd hf
        refine va_last hx hb hK hP hD hS 3 1 rfl rfl g1 dX5_load_83 (fun H locs hP hD hS => ?_)
        obtain ⟨v2, e_v2⟩ : ∃ z : Nat → Int64, z = vp_updL b_m_each y1.toNatClampNeg y0 := ⟨_, rfl⟩
        have hf := nm_at hf e_v2
        have hP : va_P G vwCl [(qt 0, oX4 qt t_stamp t_age t_isTurned), (qt 1, .inl (Y 1, 3605, .inr (.inl t_worths))), (qm 0, oX5 qm b_m_total b_m_once b_m_twice), (qm 1, .inl (Y 1, 7, .inr (.inl v2)))] H := by rw [e_v2]; exact hP
        have hD : va_D A [(qt 0, oX4 qt t_stamp t_age t_isTurned), (qt 1, .inl (Y 1, 3605, .inr (.inl t_worths))), (qm 0, oX5 qm b_m_total b_m_once b_m_twice), (qm 1, .inl (Y 1, 7, .inr (.inl v2)))] := by rw [e_v2]; exact hD
        refine lv_aload_n hx hb dX5_load_84 rfl (lv_at hl 0 rfl) ?_
        refine lv_aload_n hx hb dX5_load_85 rfl (lv_at hl 0 rfl) ?_
        refine va_get (D := G) (ci := 4) (v := .long b_m_total) (C := RX5) (T := TX5) (N := 4) hx hb hts inX5w hown hK hP 2 rfl rfl 1 (by decide) wd2 (fun _ h9 => h9) rfl dX5_load_86 ?_
        refine lv_aload_n hx hb dX5_load_89 rfl (lv_at hl 0 rfl) ?_
        refine va_get (D := G) (ci := 4) (v := .ref (qm 1)) (C := RX5) (T := TX5) (N := 4) hx hb hts inX5w hown hK hP 2 rfl rfl 0 (by decide) wd5 (fun _ h9 => h9) rfl dX5_load_90 ?_
        refine lv_iload hx hb dX5_load_93 (lv_at hl 6 rfl) ?_
        obtain ⟨g3, hf⟩ := gd hf
        refine va_lald hx hb hK hP 3 1 rfl rfl g3 dX5_load_95 ?_
        obtain ⟨r4, hc, hf⟩ := bd1 hf
        refine cl_l (ws' := [(qt 0, oX4 qt t_stamp t_age t_isTurned), (qt 1, .inl (Y 1, 3605, .inr (.inl t_worths))), (qm 0, oX5 qm b_m_total b_m_once b_m_twice), (qm 1, .inl (Y 1, 7, .inr (.inl v2)))]) (wr := [(qt 0, oX4 qt t_stamp t_age t_isTurned), (qt 1, .inl (Y 1, 3605, .inr (.inl t_worths))), (qm 0, oX5 qm b_m_total b_m_once b_m_twice), (qm 1, .inl (Y 1, 7, .inr (.inl v2)))]) (rnS (As := [.long b_m_total, .long (v2 x7.toNatClampNeg)]) (rest := [.ref (qm 0)]) ⟨hx, hb, hml, hown, hts⟩ (c_X7_plus l G Y H.size b_m_total (v2 x7.toNatClampNeg) r4 hc) (va_cwS 2 hts gX5_load_X7_plus rfl rfl rfl (by decide +kernel) ⟨(Nat.le_of_ble_eq_true rfl), (Nat.le_of_ble_eq_true rfl)⟩) trivial okT hK hP hD [] rfl rfl rfl hl.1 rfl (Nat.le_of_ble_eq_true rfl) dX5_load_96) hP hD hS hA [] [0, 1, 2, 3] [0, 1, 2, 3] rfl rfl rfl (by decide) rfl rfl (fun H locs hP hD hS => ?_)
        refine va_put (D := G) (ci := 4) (v := .long r4) (ty := .long) (C := RX5) (T := TX5) (N := 4) hx hb hts inX5w tyX5 tyX5_ok nmX5 hown hK hP hD hS 2 rfl rfl 1 (by decide) wd2 (fun _ h9 => h9) rfl (by decide +kernel) rfl rfl (Nat.le_of_ble_eq_true rfl) dX5_load_99 (fun H locs hP hD hS => ?_)
        have hP : va_P G vwCl [(qt 0, oX4 qt t_stamp t_age t_isTurned), (qt 1, .inl (Y 1, 3605, .inr (.inl t_worths))), (qm 0, oX5 qm r4 b_m_once b_m_twice), (qm 1, .inl (Y 1, 7, .inr (.inl v2)))] H := hP
        have hD : va_D A [(qt 0, oX4 qt t_stamp t_age t_isTurned), (qt 1, .inl (Y 1, 3605, .inr (.inl t_worths))), (qm 0, oX5 qm r4 b_m_once b_m_twice), (qm 1, .inl (Y 1, 7, .inr (.inl v2)))] := hD
        refine lv_aload_n hx hb dX5_load_102 rfl (lv_at hl 0 rfl) ?_
        refine lv_aload_n hx hb dX5_load_103 rfl (lv_at hl 0 rfl) ?_
        refine va_get (D := G) (ci := 4) (v := .long b_m_once) (C := RX5) (T := TX5) (N := 4) hx hb hts inX5w hown hK hP 2 rfl rfl 2 (by decide) wd3 (fun _ h9 => h9) rfl dX5_load_104 ?_
        refine lv_iload hx hb dX5_load_107 (lv_at hl 6 rfl) ?_
        refine lv_i2l hx hb dX5_load_109 rfl ?_
        refine lv_aload_n hx hb dX5_load_110 rfl (lv_at hl 0 rfl) ?_
        refine va_get (D := G) (ci := 4) (v := .ref (qm 1)) (C := RX5) (T := TX5) (N := 4) hx hb hts inX5w hown hK hP 2 rfl rfl 0 (by decide) wd5 (fun _ h9 => h9) rfl dX5_load_111 ?_
        refine lv_iload hx hb dX5_load_114 (lv_at hl 6 rfl) ?_
        obtain ⟨g5, hf⟩ := gd hf
        refine va_lald hx hb hK hP 3 1 rfl rfl g5 dX5_load_116 ?_
        obtain ⟨r6, hc, hf⟩ := bd1 hf
        refine cl_l (ws' := [(qt 0, oX4 qt t_stamp t_age t_isTurned), (qt 1, .inl (Y 1, 3605, .inr (.inl t_worths))), (qm 0, oX5 qm r4 b_m_once b_m_twice), (qm 1, .inl (Y 1, 7, .inr (.inl v2)))]) (wr := [(qt 0, oX4 qt t_stamp t_age t_isTurned), (qt 1, .inl (Y 1, 3605, .inr (.inl t_worths))), (qm 0, oX5 qm r4 b_m_once b_m_twice), (qm 1, .inl (Y 1, 7, .inr (.inl v2)))]) (rnS (As := [.long x7.toInt64, .long (v2 x7.toNatClampNeg)]) (rest := [.long b_m_once, .ref (qm 0)]) ⟨hx, hb, hml, hown, hts⟩ (c_X7_times l G Y H.size x7.toInt64 (v2 x7.toNatClampNeg) r6 hc) (va_cwS 2 hts gX5_load_X7_times rfl rfl rfl (by decide +kernel) ⟨(Nat.le_of_ble_eq_true rfl), (Nat.le_of_ble_eq_true rfl)⟩) trivial okT hK hP hD [] rfl rfl rfl hl.1 rfl (Nat.le_of_ble_eq_true rfl) dX5_load_117) hP hD hS hA [] [0, 1, 2, 3] [0, 1, 2, 3] rfl rfl rfl (by decide) rfl rfl (fun H locs hP hD hS => ?_)
        obtain ⟨r7, hc, hf⟩ := bd1 hf
        refine cl_l (ws' := [(qt 0, oX4 qt t_stamp t_age t_isTurned), (qt 1, .inl (Y 1, 3605, .inr (.inl t_worths))), (qm 0, oX5 qm r4 b_m_once b_m_twice), (qm 1, .inl (Y 1, 7, .inr (.inl v2)))]) (wr := [(qt 0, oX4 qt t_stamp t_age t_isTurned), (qt 1, .inl (Y 1, 3605, .inr (.inl t_worths))), (qm 0, oX5 qm r4 b_m_once b_m_twice), (qm 1, .inl (Y 1, 7, .inr (.inl v2)))]) (rnS (As := [.long b_m_once, .long r6]) (rest := [.ref (qm 0)]) ⟨hx, hb, hml, hown, hts⟩ (c_X7_plus l G Y H.size b_m_once r6 r7 hc) (va_cwS 2 hts gX5_load_X7_plus rfl rfl rfl (by decide +kernel) ⟨(Nat.le_of_ble_eq_true rfl), (Nat.le_of_ble_eq_true rfl)⟩) trivial okT hK hP hD [] rfl rfl rfl hl.1 rfl (Nat.le_of_ble_eq_true rfl) dX5_load_120) hP hD hS hA [] [0, 1, 2, 3] [0, 1, 2, 3] rfl rfl rfl (by decide) rfl rfl (fun H locs hP hD hS => ?_)
        refine va_put (D := G) (ci := 4) (v := .long r7) (ty := .long) (C := RX5) (T := TX5) (N := 4) hx hb hts inX5w tyX5 tyX5_ok nmX5 hown hK hP hD hS 2 rfl rfl 2 (by decide) wd3 (fun _ h9 => h9) rfl (by decide +kernel) rfl rfl (Nat.le_of_ble_eq_true rfl) dX5_load_123 (fun H locs hP hD hS => ?_)
        have hP : va_P G vwCl [(qt 0, oX4 qt t_stamp t_age t_isTurned), (qt 1, .inl (Y 1, 3605, .inr (.inl t_worths))), (qm 0, oX5 qm r4 r7 b_m_twice), (qm 1, .inl (Y 1, 7, .inr (.inl v2)))] H := hP
        have hD : va_D A [(qt 0, oX4 qt t_stamp t_age t_isTurned), (qt 1, .inl (Y 1, 3605, .inr (.inl t_worths))), (qm 0, oX5 qm r4 r7 b_m_twice), (qm 1, .inl (Y 1, 7, .inr (.inl v2)))] := hD
        refine lv_aload_n hx hb dX5_load_126 rfl (lv_at hl 0 rfl) ?_
        refine lv_aload_n hx hb dX5_load_127 rfl (lv_at hl 0 rfl) ?_
        refine va_get (D := G) (ci := 4) (v := .long b_m_twice) (C := RX5) (T := TX5) (N := 4) hx hb hts inX5w hown hK hP 2 rfl rfl 3 (by decide) wd4 (fun _ h9 => h9) rfl dX5_load_128 ?_
        refine lv_iload hx hb dX5_load_131 (lv_at hl 6 rfl) ?_
        refine lv_iload hx hb dX5_load_133 (lv_at hl 6 rfl) ?_
        refine lv_imul hx hb dX5_load_135 ?_
        refine lv_i2l hx hb dX5_load_136 rfl ?_
        refine lv_aload_n hx hb dX5_load_137 rfl (lv_at hl 0 rfl) ?_
        refine va_get (D := G) (ci := 4) (v := .ref (qm 1)) (C := RX5) (T := TX5) (N := 4) hx hb hts inX5w hown hK hP 2 rfl rfl 0 (by decide) wd5 (fun _ h9 => h9) rfl dX5_load_138 ?_
        refine lv_iload hx hb dX5_load_141 (lv_at hl 6 rfl) ?_
        obtain ⟨g8, hf⟩ := gd hf
        refine va_lald hx hb hK hP 3 1 rfl rfl g8 dX5_load_143 ?_
        obtain ⟨r9, hc, hf⟩ := bd1 hf
        refine cl_l (ws' := [(qt 0, oX4 qt t_stamp t_age t_isTurned), (qt 1, .inl (Y 1, 3605, .inr (.inl t_worths))), (qm 0, oX5 qm r4 r7 b_m_twice), (qm 1, .inl (Y 1, 7, .inr (.inl v2)))]) (wr := [(qt 0, oX4 qt t_stamp t_age t_isTurned), (qt 1, .inl (Y 1, 3605, .inr (.inl t_worths))), (qm 0, oX5 qm r4 r7 b_m_twice), (qm 1, .inl (Y 1, 7, .inr (.inl v2)))]) (rnS (As := [.long ((x7 * x7).toInt64), .long (v2 x7.toNatClampNeg)]) (rest := [.long b_m_twice, .ref (qm 0)]) ⟨hx, hb, hml, hown, hts⟩ (c_X7_times l G Y H.size ((x7 * x7).toInt64) (v2 x7.toNatClampNeg) r9 hc) (va_cwS 2 hts gX5_load_X7_times rfl rfl rfl (by decide +kernel) ⟨(Nat.le_of_ble_eq_true rfl), (Nat.le_of_ble_eq_true rfl)⟩) trivial okT hK hP hD [] rfl rfl rfl hl.1 rfl (Nat.le_of_ble_eq_true rfl) dX5_load_144) hP hD hS hA [] [0, 1, 2, 3] [0, 1, 2, 3] rfl rfl rfl (by decide) rfl rfl (fun H locs hP hD hS => ?_)
        obtain ⟨r10, hc, hf⟩ := bd1 hf
        refine cl_l (ws' := [(qt 0, oX4 qt t_stamp t_age t_isTurned), (qt 1, .inl (Y 1, 3605, .inr (.inl t_worths))), (qm 0, oX5 qm r4 r7 b_m_twice), (qm 1, .inl (Y 1, 7, .inr (.inl v2)))]) (wr := [(qt 0, oX4 qt t_stamp t_age t_isTurned), (qt 1, .inl (Y 1, 3605, .inr (.inl t_worths))), (qm 0, oX5 qm r4 r7 b_m_twice), (qm 1, .inl (Y 1, 7, .inr (.inl v2)))]) (rnS (As := [.long b_m_twice, .long r9]) (rest := [.ref (qm 0)]) ⟨hx, hb, hml, hown, hts⟩ (c_X7_plus l G Y H.size b_m_twice r9 r10 hc) (va_cwS 2 hts gX5_load_X7_plus rfl rfl rfl (by decide +kernel) ⟨(Nat.le_of_ble_eq_true rfl), (Nat.le_of_ble_eq_true rfl)⟩) trivial okT hK hP hD [] rfl rfl rfl hl.1 rfl (Nat.le_of_ble_eq_true rfl) dX5_load_147) hP hD hS hA [] [0, 1, 2, 3] [0, 1, 2, 3] rfl rfl rfl (by decide) rfl rfl (fun H locs hP hD hS => ?_)
        refine va_put (D := G) (ci := 4) (v := .long r10) (ty := .long) (C := RX5) (T := TX5) (N := 4) hx hb hts inX5w tyX5 tyX5_ok nmX5 hown hK hP hD hS 2 rfl rfl 3 (by decide) wd4 (fun _ h9 => h9) rfl (by decide +kernel) rfl rfl (Nat.le_of_ble_eq_true rfl) dX5_load_150 (fun H locs hP hD hS => ?_)
        have hP : va_P G vwCl [(qt 0, oX4 qt t_stamp t_age t_isTurned), (qt 1, .inl (Y 1, 3605, .inr (.inl t_worths))), (qm 0, oX5 qm r4 r7 r10), (qm 1, .inl (Y 1, 7, .inr (.inl v2)))] H := hP
        have hD : va_D A [(qt 0, oX4 qt t_stamp t_age t_isTurned), (qt 1, .inl (Y 1, 3605, .inr (.inl t_worths))), (qm 0, oX5 qm r4 r7 r10), (qm 1, .inl (Y 1, 7, .inr (.inl v2)))] := hD
        refine lv_lload hx hb dX5_load_153 (lv_at hl 5 rfl) ?_
        refine lv_iload_n hx hb dX5_load_155 rfl (lv_at hl 3 rfl) ?_
        refine lv_i2l hx hb dX5_load_156 rfl ?_
        refine lv_lmul hx hb dX5_load_157 ?_
        refine lv_topl (fun v11 e_v11 => ?_)
        have hf := nm_at hf e_v11
        refine lv_lstore (lv' := [(5, .long v11), (0, .ref (qm 0)), (1, .ref (qt 0)), (2, .int p2), (3, .int p3), (4, .int x4), (7, .int x7)]) hx hb dX5_load_158 hl (by decide) rfl (fun ls hl => ?_)
        obtain ⟨v12, e_v12⟩ : ∃ z : Int32, z = (x7 + 1) := ⟨_, rfl⟩
        have hf := nm_at hf e_v12
        refine lv_iinc (v := v12) (lv' := [(7, .int v12), (5, .long v11), (0, .ref (qm 0)), (1, .ref (qt 0)), (2, .int p2), (3, .int p3), (4, .int x4)]) hx hb dX5_load_160 hl (k := 6) rfl (by rw [e_v12]; rfl) (by decide) rfl (fun ls hl => ?_)
        refine lv_goto (tgt := 45) hx hb dX5_load_163 (by decide) ?_
        exact ih45 v2 r4 r7 r10 x4 v11 v12 hf _ _ hP hD hS ls (lv_sub hl [2, 3, 4, 5, 6, 1, 0] rfl)
      intro b_m_each b_m_total b_m_once b_m_twice x4 x5 x7 hf H locs hP hD hS ls hl
      have hf : f_X5_load_s45 t_worths p2 p3 (f_X5_load_b45 t_worths p2 p3  n45) b_m_each b_m_total b_m_once b_m_twice x4 x5 x7 = some (o_m_each, o_m_total, o_m_once, o_m_twice) := hf
      unfold f_X5_load_s45 at hf
      refine lv_iload hx hb dX5_load_45 (lv_at hl 6 rfl) ?_
      refine lv_bipush (v := 7) hx hb dX5_load_47 (by decide) ?_
      refine lv_icmp_ge (tgt := 166) hx hb dX5_load_49 (by decide) (fun c13 => ?_) (fun c13 => ?_)
      · have hf := it hf c13
        obtain ⟨e0, e1, e2, e3⟩ := rt4 hf
        have hP : va_P G vwCl [(qt 0, oX4 qt t_stamp t_age t_isTurned), (qt 1, .inl (Y 1, 3605, .inr (.inl t_worths))), (qm 0, oX5 qm o_m_total o_m_once o_m_twice), (qm 1, .inl (Y 1, 7, .inr (.inl o_m_each)))] H := by rw [← e0, ← e1, ← e2, ← e3]; exact hP
        have hD : va_D A [(qt 0, oX4 qt t_stamp t_age t_isTurned), (qt 1, .inl (Y 1, 3605, .inr (.inl t_worths))), (qm 0, oX5 qm o_m_total o_m_once o_m_twice), (qm 1, .inl (Y 1, 7, .inr (.inl o_m_each)))] := by rw [← e0, ← e1, ← e2, ← e3]; exact hD
        exact W.vret hx hb hr (fun t ht hW => ⟨⟨(), rfl, trivial, by rw [ht]; exact hP, va_K.moved hW.alike hK, by rw [hAe]; exact hD⟩, hS.F ht⟩) hS.2.2 dX5_load_166
      · have hf := ie hf c13
        refine lv_aload_n hx hb dX5_load_52 rfl (lv_at hl 0 rfl) ?_
        refine va_get (D := G) (ci := 4) (v := .ref (qm 1)) (C := RX5) (T := TX5) (N := 4) hx hb hts inX5w hown hK hP 2 rfl rfl 0 (by decide) wd5 (fun _ h9 => h9) rfl dX5_load_53 ?_
        refine lv_iload hx hb dX5_load_56 (lv_at hl 6 rfl) ?_
        refine lv_iload hx hb dX5_load_58 (lv_at hl 4 rfl) ?_
        refine lv_if_eq (tgt := 69) hx hb dX5_load_60 (by decide) (fun c14 => ?_) (fun c14 => ?_)
        · have hf := it hf c14
          refine lv_aload_n hx hb dX5_load_69 rfl (lv_at hl 1 rfl) ?_
          refine va_get (D := G) (ci := 3) (v := .ref (qt 1)) (C := RX4) (T := TX4) (N := 9) hx hb hts inX4w hown hK hP 0 rfl rfl 0 (by decide) wd6 (fun _ h9 => h9) rfl dX5_load_70 ?_
          refine lv_iload_n hx hb dX5_load_73 rfl (lv_at hl 2 rfl) ?_
          refine lv_iload hx hb dX5_load_74 (lv_at hl 6 rfl) ?_
          refine lv_iadd hx hb dX5_load_76 ?_
          obtain ⟨g15, hf⟩ := gd hf
          refine va_lald hx hb hK hP 1 1 rfl rfl g15 dX5_load_77 ?_
          refine lv_lload hx hb dX5_load_78 (lv_at hl 5 rfl) ?_
          obtain ⟨r16, hc, hf⟩ := bd1 hf
          refine cl_l (ws' := [(qt 0, oX4 qt t_stamp t_age t_isTurned), (qt 1, .inl (Y 1, 3605, .inr (.inl t_worths))), (qm 0, oX5 qm b_m_total b_m_once b_m_twice), (qm 1, .inl (Y 1, 7, .inr (.inl b_m_each)))]) (wr := [(qt 0, oX4 qt t_stamp t_age t_isTurned), (qt 1, .inl (Y 1, 3605, .inr (.inl t_worths))), (qm 0, oX5 qm b_m_total b_m_once b_m_twice), (qm 1, .inl (Y 1, 7, .inr (.inl b_m_each)))]) (rnS (As := [.long (t_worths (p2 + x7).toNatClampNeg), .long x5]) (rest := [.int x7, .ref (qm 1)]) ⟨hx, hb, hml, hown, hts⟩ (c_X7_times l G Y H.size (t_worths (p2 + x7).toNatClampNeg) x5 r16 hc) (va_cwS 2 hts gX5_load_X7_times rfl rfl rfl (by decide +kernel) ⟨(Nat.le_of_ble_eq_true rfl), (Nat.le_of_ble_eq_true rfl)⟩) trivial okT hK hP hD [] rfl rfl rfl hl.1 rfl (Nat.le_of_ble_eq_true rfl) dX5_load_80) hP hD hS hA [] [0, 1, 2, 3] [0, 1, 2, 3] rfl rfl rfl (by decide) rfl rfl (fun H locs hP hD hS => ?_)
          exact B83 b_m_each b_m_total b_m_once b_m_twice x4 x5 x7 r16 x7 hf _ _ hP hD hS ls (lv_sub hl [0, 1, 2, 3, 4, 5, 6] rfl)
        · have hf := ie hf c14
          refine lv_ldc2 hx hb hown wd1 dX5_load_63 ?_
          refine lv_goto (tgt := 83) hx hb dX5_load_66 (by decide) ?_
          exact B83 b_m_each b_m_total b_m_once b_m_twice x4 x5 x7 (-1 : Int64) x7 hf _ _ hP hD hS ls (lv_sub hl [0, 1, 2, 3, 4, 5, 6] rfl)
  have B20 : ∀ (b_m_each : Nat → Int64) (b_m_total : Int64) (b_m_once : Int64) (b_m_twice : Int64) (x4 : Int32) (y0 : Int64), f_X5_load_b20 t_worths p2 p3 b_m_each b_m_total b_m_once b_m_twice x4 y0 = some (o_m_each, o_m_total, o_m_once, o_m_twice) → ∀ (H : Heap) (locs : List Loc), va_P G vwCl [(qt 0, oX4 qt t_stamp t_age t_isTurned), (qt 1, .inl (Y 1, 3605, .inr (.inl t_worths))), (qm 0, oX5 qm b_m_total b_m_once b_m_twice), (qm 1, .inl (Y 1, 7, .inr (.inl b_m_each)))] H → va_D A [(qt 0, oX4 qt t_stamp t_age t_isTurned), (qt 1, .inl (Y 1, 3605, .inr (.inl t_worths))), (qm 0, oX5 qm b_m_total b_m_once b_m_twice), (qm 1, .inl (Y 1, 7, .inr (.inl b_m_each)))] → va_S A s.heap H locs → ∀ (ls : Array Slot), lv_has ls 8 [(0, .ref (qm 0)), (1, .ref (qt 0)), (2, .int p2), (3, .int p3), (4, .int x4)] → W p l e (headSpec wsX5_load (rmk 1 23)).room s m [.ref (qm 0), .ref (qt 0), .int p2, .int p3].toArray below meth c H locs 0 0 (MQ below (va_Qv (fun (_ : Unit) => True) (Pst G (tys Y) [(qt 0, oX4 qt t_stamp t_age t_isTurned), (qt 1, .inl (Y 1, 3605, .inr (.inl t_worths))), (qm 0, oX5 qm m_total m_once m_twice), (qm 1, .inl (Y 1, 7, .inr (.inl m_each)))] s.heap.size [(qt 0, oX4 qt t_stamp t_age t_isTurned), (qt 1, .inl (Y 1, 3605, .inr (.inl t_worths))), (qm 0, oX5 qm o_m_total o_m_once o_m_twice), (qm 1, .inl (Y 1, 7, .inr (.inl o_m_each)))]) A) [.ref (qm 0), .ref (qt 0), .int p2, .int p3].toArray s 0 0 A) (F0 m 20 ls [.long y0, .ref (qm 0)]) := by
    intro b_m_each b_m_total b_m_once b_m_twice x4 y0 hf H locs hP hD hS ls hl
    unfold f_X5_load_b20 at hf
    refine va_put (D := G) (ci := 4) (v := .long y0) (ty := .long) (C := RX5) (T := TX5) (N := 4) hx hb hts inX5w tyX5 tyX5_ok nmX5 hown hK hP hD hS 2 rfl rfl 1 (by decide) wd2 (fun _ h9 => h9) rfl (by decide +kernel) rfl rfl (Nat.le_of_ble_eq_true rfl) dX5_load_20 (fun H locs hP hD hS => ?_)
    have hP : va_P G vwCl [(qt 0, oX4 qt t_stamp t_age t_isTurned), (qt 1, .inl (Y 1, 3605, .inr (.inl t_worths))), (qm 0, oX5 qm y0 b_m_once b_m_twice), (qm 1, .inl (Y 1, 7, .inr (.inl b_m_each)))] H := hP
    have hD : va_D A [(qt 0, oX4 qt t_stamp t_age t_isTurned), (qt 1, .inl (Y 1, 3605, .inr (.inl t_worths))), (qm 0, oX5 qm y0 b_m_once b_m_twice), (qm 1, .inl (Y 1, 7, .inr (.inl b_m_each)))] := hD
    refine lv_aload_n hx hb dX5_load_23 rfl (lv_at hl 0 rfl) ?_
    refine lv_aload_n hx hb dX5_load_24 rfl (lv_at hl 0 rfl) ?_
    refine va_get (D := G) (ci := 4) (v := .long y0) (C := RX5) (T := TX5) (N := 4) hx hb hts inX5w hown hK hP 2 rfl rfl 1 (by decide) wd2 (fun _ h9 => h9) rfl dX5_load_25 ?_
    refine va_put (D := G) (ci := 4) (v := .long y0) (ty := .long) (C := RX5) (T := TX5) (N := 4) hx hb hts inX5w tyX5 tyX5_ok nmX5 hown hK hP hD hS 2 rfl rfl 2 (by decide) wd3 (fun _ h9 => h9) rfl (by decide +kernel) rfl rfl (Nat.le_of_ble_eq_true rfl) dX5_load_28 (fun H locs hP hD hS => ?_)
    have hP : va_P G vwCl [(qt 0, oX4 qt t_stamp t_age t_isTurned), (qt 1, .inl (Y 1, 3605, .inr (.inl t_worths))), (qm 0, oX5 qm y0 y0 b_m_twice), (qm 1, .inl (Y 1, 7, .inr (.inl b_m_each)))] H := hP
    have hD : va_D A [(qt 0, oX4 qt t_stamp t_age t_isTurned), (qt 1, .inl (Y 1, 3605, .inr (.inl t_worths))), (qm 0, oX5 qm y0 y0 b_m_twice), (qm 1, .inl (Y 1, 7, .inr (.inl b_m_each)))] := hD
    refine lv_aload_n hx hb dX5_load_31 rfl (lv_at hl 0 rfl) ?_
    refine lv_aload_n hx hb dX5_load_32 rfl (lv_at hl 0 rfl) ?_
    refine va_get (D := G) (ci := 4) (v := .long y0) (C := RX5) (T := TX5) (N := 4) hx hb hts inX5w hown hK hP 2 rfl rfl 1 (by decide) wd2 (fun _ h9 => h9) rfl dX5_load_33 ?_
    refine va_put (D := G) (ci := 4) (v := .long y0) (ty := .long) (C := RX5) (T := TX5) (N := 4) hx hb hts inX5w tyX5 tyX5_ok nmX5 hown hK hP hD hS 2 rfl rfl 3 (by decide) wd4 (fun _ h9 => h9) rfl (by decide +kernel) rfl rfl (Nat.le_of_ble_eq_true rfl) dX5_load_36 (fun H locs hP hD hS => ?_)
    have hP : va_P G vwCl [(qt 0, oX4 qt t_stamp t_age t_isTurned), (qt 1, .inl (Y 1, 3605, .inr (.inl t_worths))), (qm 0, oX5 qm y0 y0 y0), (qm 1, .inl (Y 1, 7, .inr (.inl b_m_each)))] H := hP
    have hD : va_D A [(qt 0, oX4 qt t_stamp t_age t_isTurned), (qt 1, .inl (Y 1, 3605, .inr (.inl t_worths))), (qm 0, oX5 qm y0 y0 y0), (qm 1, .inl (Y 1, 7, .inr (.inl b_m_each)))] := hD
    refine lv_lconst (v := 1) hx hb dX5_load_39 (by decide) ?_
    refine lv_lstore (lv' := [(5, .long (1 : Int64)), (0, .ref (qm 0)), (1, .ref (qt 0)), (2, .int p2), (3, .int p3), (4, .int x4)]) hx hb dX5_load_40 hl (by decide) rfl (fun ls hl => ?_)
    refine lv_iconst (v := 0) hx hb dX5_load_42 (by decide) ?_
    refine lv_istore (lv' := [(7, .int (0 : Int32)), (5, .long (1 : Int64)), (0, .ref (qm 0)), (1, .ref (qt 0)), (2, .int p2), (3, .int p3), (4, .int x4)]) hx hb dX5_load_43 hl (by decide) rfl (fun ls hl => ?_)
    exact B45 70 b_m_each y0 y0 y0 x4 (1 : Int64) (0 : Int32) hf _ _ hP hD hS ls (lv_sub hl [2, 3, 4, 5, 6, 1, 0] rfl)
  have E0 : ∀ (H : Heap) (locs : List Loc), va_P G vwCl [(qt 0, oX4 qt t_stamp t_age t_isTurned), (qt 1, .inl (Y 1, 3605, .inr (.inl t_worths))), (qm 0, oX5 qm m_total m_once m_twice), (qm 1, .inl (Y 1, 7, .inr (.inl m_each)))] H → va_D A [(qt 0, oX4 qt t_stamp t_age t_isTurned), (qt 1, .inl (Y 1, 3605, .inr (.inl t_worths))), (qm 0, oX5 qm m_total m_once m_twice), (qm 1, .inl (Y 1, 7, .inr (.inl m_each)))] → va_S A s.heap H locs → ∀ (ls : Array Slot), lv_has ls 8 [(0, .ref (qm 0)), (1, .ref (qt 0)), (2, .int p2), (3, .int p3)] → W p l e (headSpec wsX5_load (rmk 1 23)).room s m [.ref (qm 0), .ref (qt 0), .int p2, .int p3].toArray below meth c H locs 0 0 (MQ below (va_Qv (fun (_ : Unit) => True) (Pst G (tys Y) [(qt 0, oX4 qt t_stamp t_age t_isTurned), (qt 1, .inl (Y 1, 3605, .inr (.inl t_worths))), (qm 0, oX5 qm m_total m_once m_twice), (qm 1, .inl (Y 1, 7, .inr (.inl m_each)))] s.heap.size [(qt 0, oX4 qt t_stamp t_age t_isTurned), (qt 1, .inl (Y 1, 3605, .inr (.inl t_worths))), (qm 0, oX5 qm o_m_total o_m_once o_m_twice), (qm 1, .inl (Y 1, 7, .inr (.inl o_m_each)))]) A) [.ref (qm 0), .ref (qt 0), .int p2, .int p3].toArray s 0 0 A) (F0 m 0 ls []) := by
    intro H locs hP hD hS ls hl
    unfold f_X5_load at hf
    refine lv_aload_n hx hb dX5_load_0 rfl (lv_at hl 1 rfl) ?_
    refine lv_iload_n hx hb dX5_load_1 rfl (lv_at hl 2 rfl) ?_
    obtain ⟨r17, hc, hf⟩ := bd1 hf
    refine cl_i (ws' := [(qt 0, oX4 qt t_stamp t_age t_isTurned), (qt 1, .inl (Y 1, 3605, .inr (.inl t_worths))), (qm 0, oX5 qm m_total m_once m_twice), (qm 1, .inl (Y 1, 7, .inr (.inl m_each)))]) (wr := [(qm 0, oX5 qm m_total m_once m_twice), (qm 1, .inl (Y 1, 7, .inr (.inl m_each)))]) (rnV (As := [.int p2]) (rest := []) ⟨hx, hb, hml, hown, hts⟩ (c_X4_isMuch l G Y H.size qt t_worths t_stamp t_age t_isTurned p2 r17 hc) (cwV 1 hts gX5_load_X4_isMuch rfl rfl rfl (by decide +kernel) ⟨(Nat.le_of_ble_eq_true rfl), (Nat.le_of_ble_eq_true rfl)⟩) trivial okT hK hP hD [0, 1] rfl rfl (ci := 3) (q0 := 0) rfl rfl rfl rfl hl.1 rfl (Nat.le_of_ble_eq_true rfl) dX5_load_2) hP hD hS hA [0, 1] [2, 3] [2, 3, 0, 1] rfl rfl rfl (by decide) rfl rfl (fun H locs hP hD hS => ?_)
    refine lv_istore (lv' := [(4, .int r17), (0, .ref (qm 0)), (1, .ref (qt 0)), (2, .int p2), (3, .int p3)]) hx hb dX5_load_5 hl (by decide) rfl (fun ls hl => ?_)
    refine lv_aload_n hx hb dX5_load_7 rfl (lv_at hl 1 rfl) ?_
    refine lv_iload hx hb dX5_load_8 (lv_at hl 0 rfl) ?_
    refine lv_if_eq (tgt := 19) hx hb dX5_load_10 (by decide) (fun c18 => ?_) (fun c18 => ?_)
    · have hf := it hf c18
      refine lv_lconst (v := 0) hx hb dX5_load_19 (by decide) ?_
      exact B20 m_each m_total m_once m_twice r17 (0 : Int64) hf _ _ hP hD hS ls (lv_sub hl [1, 2, 3, 4, 0] rfl)
    · have hf := ie hf c18
      refine lv_ldc2 hx hb hown wd1 dX5_load_13 ?_
      refine lv_goto (tgt := 20) hx hb dX5_load_16 (by decide) ?_
      exact B20 m_each m_total m_once m_twice r17 (-1 : Int64) hf _ _ hP hD hS ls (lv_sub hl [1, 2, 3, 4, 0] rfl)
  exact E0 s.heap [] hP hD hS ls hl
-- X5_greatest
set_option maxRecDepth 100000 in
set_option maxHeartbeats 4000000 in
theorem c_X5_greatest (l : Launch) (G : va_G) (Y : Nat → ClassId) (sz : Nat) (qm : Nat → Nat) (m_each : Nat → Int64) (m_total : Int64) (m_once : Int64) (m_twice : Int64) (rv : Int32) (hf : f_X5_greatest m_each = some (rv)) : Met l yX5_greatest wsX5_greatest (rmk 0 0) (va_Pc [.ref (qm 0)] (Pre G (tys Y) [(qm 0, oX5 qm m_total m_once m_twice), (qm 1, .inl (Y 1, 7, .inr (.inl m_each)))] sz xT)) (va_Qi (fun (r : Int32) (_ : Unit) => r = rv) (Pst G (tys Y) [(qm 0, oX5 qm m_total m_once m_twice), (qm 1, .inl (Y 1, 7, .inr (.inl m_each)))] sz [(qm 0, oX5 qm m_total m_once m_twice), (qm 1, .inl (Y 1, 7, .inr (.inl m_each)))]) (va_A [(qm 0, oX5 qm m_total m_once m_twice), (qm 1, .inl (Y 1, 7, .inr (.inl m_each)))] sz)) 0 0 (va_A [(qm 0, oX5 qm m_total m_once m_twice), (qm 1, .inl (Y 1, 7, .inr (.inl m_each)))] sz) := by
  refine Met.ofW (cc := cX5_greatest) (maxL := 3) (ret := (some .int)) (by decide) rfl ?_
  intro p e s m args below meth c s₁ B hml hv
  obtain ⟨rfl, hsz, hP, hK, hD0, hX⟩ := hv
  have hx := B.exec
  have hb := B.bytes
  have hr := B.returns
  have hts := atoms_spec (ws := wsX5_greatest) B.pre
  have hown : s.vm.findClass RX5 = some m.cls := findClass_of_methodNamed B.named
  have hlocks := B.notSynchronized
  subst hsz
  have hD := hD0.self (sz := s.heap.size)
  generalize hAe : va_A [(qm 0, oX5 qm m_total m_once m_twice), (qm 1, .inl (Y 1, 7, .inr (.inl m_each)))] s.heap.size = A at hD ⊢
  have hA : ∀ q : Nat, s.heap.size ≤ q → A q := fun q h => by rw [← hAe]; exact Or.inr h
  have hS : va_S A s.heap s.heap [] := va_S.rf
  have hP : va_P G vwCl [(qm 0, oX5 qm m_total m_once m_twice), (qm 1, .inl (Y 1, 7, .inr (.inl m_each)))] s.heap := hP
  have wd1 : (Cond.fieldLink RX5 9 "PairedLines$Terms" "each" "[J").before [.ref (qm 0)].toArray s = true := hts _ (List.mem_of_getElem? (i := 1) rfl)
  have inX5w : ∀ w ∈ u_ws RX5 TX5 4, w ∈ wsX5_greatest := fun w hw => List.mem_cons_of_mem _ (List.mem_append_right _ (hw))
  have hl := lv_entry ([.ref (qm 0)]) (n := 3) (Nat.le_of_ble_eq_true rfl)
  rw [lg_entry_eq]
  generalize (lg_sl ([.ref (qm 0)]) ++ List.replicate (3 - (lg_sl ([.ref (qm 0)])).length) Slot.unset).toArray = ls at hl ⊢
  have hl : lv_has ls 3 [(0, .ref (qm 0))] := hl
  have B4 : ∀ (n4 : Nat), ∀ (x1 : Int32) (x2 : Int32), f_X5_greatest_b4 m_each n4 x1 x2 = some (rv) → ∀ (H : Heap) (locs : List Loc), va_P G vwCl [(qm 0, oX5 qm m_total m_once m_twice), (qm 1, .inl (Y 1, 7, .inr (.inl m_each)))] H → va_D A [(qm 0, oX5 qm m_total m_once m_twice), (qm 1, .inl (Y 1, 7, .inr (.inl m_each)))] → va_S A s.heap H locs → ∀ (ls : Array Slot), lv_has ls 3 [(0, .ref (qm 0)), (1, .int x1), (2, .int x2)] → W p l e (headSpec wsX5_greatest (rmk 0 0)).room s m [.ref (qm 0)].toArray below meth c H locs 0 0 (MQ below (va_Qi (fun (r : Int32) (_ : Unit) => r = rv) (Pst G (tys Y) [(qm 0, oX5 qm m_total m_once m_twice), (qm 1, .inl (Y 1, 7, .inr (.inl m_each)))] s.heap.size [(qm 0, oX5 qm m_total m_once m_twice), (qm 1, .inl (Y 1, 7, .inr (.inl m_each)))]) A) [.ref (qm 0)].toArray s 0 0 A) (F0 m 4 ls []) := by
    intro n4
    induction n4 with
    | zero =>
      intro x1 x2 hf H locs hP hD hS ls hl
      exact no_none hf
    | succ n4 ih4 =>
      intro x1 x2 hf H locs hP hD hS ls hl
      have hf : f_X5_greatest_s4 m_each (f_X5_greatest_b4 m_each  n4) x1 x2 = some (rv) := hf
      unfold f_X5_greatest_s4 at hf
      refine lv_iload_n hx hb dX5_greatest_4 rfl (lv_at hl 2 rfl) ?_
      refine lv_bipush (v := 7) hx hb dX5_greatest_5 (by decide) ?_
      refine lv_icmp_ge (tgt := 52) hx hb dX5_greatest_7 (by decide) (fun c1 => ?_) (fun c1 => ?_)
      · have hf := it hf c1
        refine lv_iload_n hx hb dX5_greatest_52 rfl (lv_at hl 1 rfl) ?_
        have e0 := rt1 hf
        exact W.iret (v := x1) hx hb hr (fun t ht hW => ⟨⟨x1, (), rfl, e0, by rw [ht]; exact hP, va_K.moved hW.alike hK, by rw [hAe]; exact hD⟩, hS.F ht⟩) hS.2.2 dX5_greatest_53
      · have hf := ie hf c1
        refine lv_aload_n hx hb dX5_greatest_10 rfl (lv_at hl 0 rfl) ?_
        refine va_get (D := G) (ci := 4) (v := .ref (qm 1)) (C := RX5) (T := TX5) (N := 4) hx hb hts inX5w hown hK hP 0 rfl rfl 0 (by decide) wd1 (fun _ h9 => h9) rfl dX5_greatest_11 ?_
        refine lv_iload_n hx hb dX5_greatest_14 rfl (lv_at hl 2 rfl) ?_
        obtain ⟨g2, hf⟩ := gd hf
        refine va_lald hx hb hK hP 1 1 rfl rfl g2 dX5_greatest_15 ?_
        refine lv_lconst (v := 0) hx hb dX5_greatest_16 (by decide) ?_
        refine W.lcmp hx hb dX5_greatest_17 ?_
        refine lv_if_ge (tgt := 24) hx hb dX5_greatest_18 (by decide) (fun c3 => ?_) (fun c3 => ?_)
        · have hf := it hf c3
          refine lv_aload_n hx hb dX5_greatest_24 rfl (lv_at hl 0 rfl) ?_
          refine va_get (D := G) (ci := 4) (v := .ref (qm 1)) (C := RX5) (T := TX5) (N := 4) hx hb hts inX5w hown hK hP 0 rfl rfl 0 (by decide) wd1 (fun _ h9 => h9) rfl dX5_greatest_25 ?_
          refine lv_iload_n hx hb dX5_greatest_28 rfl (lv_at hl 2 rfl) ?_
          obtain ⟨g4, hf⟩ := gd hf
          refine va_lald hx hb hK hP 1 1 rfl rfl g4 dX5_greatest_29 ?_
          refine lv_aload_n hx hb dX5_greatest_30 rfl (lv_at hl 0 rfl) ?_
          refine va_get (D := G) (ci := 4) (v := .ref (qm 1)) (C := RX5) (T := TX5) (N := 4) hx hb hts inX5w hown hK hP 0 rfl rfl 0 (by decide) wd1 (fun _ h9 => h9) rfl dX5_greatest_31 ?_
          refine lv_iload_n hx hb dX5_greatest_34 rfl (lv_at hl 1 rfl) ?_
          obtain ⟨g5, hf⟩ := gd hf
          refine va_lald hx hb hK hP 1 1 rfl rfl g5 dX5_greatest_35 ?_
          refine W.lcmp hx hb dX5_greatest_36 ?_
          refine lv_if_le (tgt := 44) hx hb dX5_greatest_37 (by decide) (fun c6 => ?_) (fun c6 => ?_)
          · have hf := it hf c6
            refine lv_iload_n hx hb dX5_greatest_44 rfl (lv_at hl 1 rfl) ?_
            refine lv_istore_n (lv' := [(1, .int x1), (0, .ref (qm 0)), (2, .int x2)]) hx hb dX5_greatest_45 rfl hl (by decide) rfl (fun ls hl => ?_)
            obtain ⟨v7, e_v7⟩ : ∃ z : Int32, z = (x2 + 1) := ⟨_, rfl⟩
            have hf := nm_at hf e_v7
            refine lv_iinc (v := v7) (lv' := [(2, .int v7), (1, .int x1), (0, .ref (qm 0))]) hx hb dX5_greatest_46 hl (k := 2) rfl (by rw [e_v7]; rfl) (by decide) rfl (fun ls hl => ?_)
            refine lv_goto (tgt := 4) hx hb dX5_greatest_49 (by decide) ?_
            exact ih4 x1 v7 hf _ _ hP hD hS ls (lv_sub hl [2, 1, 0] rfl)
          · have hf := ie hf c6
            refine lv_iload_n hx hb dX5_greatest_40 rfl (lv_at hl 2 rfl) ?_
            refine lv_goto (tgt := 45) hx hb dX5_greatest_41 (by decide) ?_
            refine lv_istore_n (lv' := [(1, .int x2), (0, .ref (qm 0)), (2, .int x2)]) hx hb dX5_greatest_45 rfl hl (by decide) rfl (fun ls hl => ?_)
            obtain ⟨v8, e_v8⟩ : ∃ z : Int32, z = (x2 + 1) := ⟨_, rfl⟩
            have hf := nm_at hf e_v8
            refine lv_iinc (v := v8) (lv' := [(2, .int v8), (1, .int x2), (0, .ref (qm 0))]) hx hb dX5_greatest_46 hl (k := 2) rfl (by rw [e_v8]; rfl) (by decide) rfl (fun ls hl => ?_)
            refine lv_goto (tgt := 4) hx hb dX5_greatest_49 (by decide) ?_
            exact ih4 x2 v8 hf _ _ hP hD hS ls (lv_sub hl [2, 1, 0] rfl)
        · have hf := ie hf c3
          refine lv_bipush (v := -5) hx hb dX5_greatest_21 (by decide) ?_
          have e0 := rt1 hf
          exact W.iret (v := (-5 : Int32)) hx hb hr (fun t ht hW => ⟨⟨(-5 : Int32), (), rfl, e0, by rw [ht]; exact hP, va_K.moved hW.alike hK, by rw [hAe]; exact hD⟩, hS.F ht⟩) hS.2.2 dX5_greatest_23
  have E0 : ∀ (H : Heap) (locs : List Loc), va_P G vwCl [(qm 0, oX5 qm m_total m_once m_twice), (qm 1, .inl (Y 1, 7, .inr (.inl m_each)))] H → va_D A [(qm 0, oX5 qm m_total m_once m_twice), (qm 1, .inl (Y 1, 7, .inr (.inl m_each)))] → va_S A s.heap H locs → ∀ (ls : Array Slot), lv_has ls 3 [(0, .ref (qm 0))] → W p l e (headSpec wsX5_greatest (rmk 0 0)).room s m [.ref (qm 0)].toArray below meth c H locs 0 0 (MQ below (va_Qi (fun (r : Int32) (_ : Unit) => r = rv) (Pst G (tys Y) [(qm 0, oX5 qm m_total m_once m_twice), (qm 1, .inl (Y 1, 7, .inr (.inl m_each)))] s.heap.size [(qm 0, oX5 qm m_total m_once m_twice), (qm 1, .inl (Y 1, 7, .inr (.inl m_each)))]) A) [.ref (qm 0)].toArray s 0 0 A) (F0 m 0 ls []) := by
    intro H locs hP hD hS ls hl
    unfold f_X5_greatest at hf
    refine lv_iconst (v := 0) hx hb dX5_greatest_0 (by decide) ?_
    refine lv_istore_n (lv' := [(1, .int (0 : Int32)), (0, .ref (qm 0))]) hx hb dX5_greatest_1 rfl hl (by decide) rfl (fun ls hl => ?_)
    refine lv_iconst (v := 0) hx hb dX5_greatest_2 (by decide) ?_
    refine lv_istore_n (lv' := [(2, .int (0 : Int32)), (1, .int (0 : Int32)), (0, .ref (qm 0))]) hx hb dX5_greatest_3 rfl hl (by decide) rfl (fun ls hl => ?_)
    exact B4 70 (0 : Int32) (0 : Int32) hf _ _ hP hD hS ls (lv_sub hl [2, 1, 0] rfl)
  exact E0 s.heap [] hP hD hS ls hl
