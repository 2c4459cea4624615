-- J7_fill_53178
set_option maxRecDepth 100000 in
set_option maxHeartbeats 4000000 in
theorem c_J7_fill_53178 (l : Launch) (G : va_G) (Y : Nat → ClassId) (sz : Nat) (qa : Nat → Nat) (a_c : Nat → Int32) (a_n : Nat) (p2 : Int32) (o_a_c : Nat → Int32) (hf : f_J7_fill_53178 a_c a_n p2 = some (o_a_c)) : Met l yJ7_fill_53178 wsJ7_fill_53178 (rmk 0 0) (va_Pc [.ref (qa 0), .int p2] (Pre G (tys Y) [(qa 0, .inl (Y 0, a_n, .inl a_c))] sz xT)) (va_Qv (fun (_ : Unit) => True) (Pst G (tys Y) [(qa 0, .inl (Y 0, a_n, .inl a_c))] sz [(qa 0, .inl (Y 0, a_n, .inl o_a_c))]) (va_A [(qa 0, .inl (Y 0, a_n, .inl a_c))] sz)) 0 0 (va_A [(qa 0, .inl (Y 0, a_n, .inl a_c))] sz) := by
  refine Met.ofW (cc := cJ7_fill_53178) (maxL := 4) (ret := none) (by decide) rfl ?_
  intro p e s m args below meth c s₁ B hml hv
  obtain ⟨rfl, hsz, hP, hK, hD0, hX⟩ := hv
  have hx := B.exec
  have hb := B.bytes
  have hr := B.returns
  have hts := atoms_spec (ws := wsJ7_fill_53178) B.pre
  have hown : s.vm.findClass RJ7 = some m.cls := findClass_of_methodNamed B.named
  have hlocks := B.notSynchronized
  subst hsz
  have hD := hD0.self (sz := s.heap.size)
  generalize hAe : va_A [(qa 0, .inl (Y 0, a_n, .inl a_c))] s.heap.size = A at hD ⊢
  have hA : ∀ q : Nat, s.heap.size ≤ q → A q := fun q h => by rw [← hAe]; exact Or.inr h
  have hS : va_S A s.heap s.heap [] := va_S.rf
  have hP : va_P G vwCl [(qa 0, .inl (Y 0, a_n, .inl a_c))] s.heap := hP
  have hl := lv_entry ([.ref (qa 0), .int p2]) (n := 4) (Nat.le_of_ble_eq_true rfl)
  rw [lg_entry_eq]
  generalize (lg_sl ([.ref (qa 0), .int p2]) ++ List.replicate (4 - (lg_sl ([.ref (qa 0), .int p2])).length) Slot.unset).toArray = ls at hl ⊢
  have hl : lv_has ls 4 [(0, .ref (qa 0)), (1, .int p2)] := hl
  have B5 : ∀ (n5 : Nat), ∀ (b_a_c : Nat → Int32) (x2 : Int32) (x3 : Int32), f_J7_fill_53178_b5 a_n p2 n5 b_a_c x2 x3 = some (o_a_c) → ∀ (H : Heap) (locs : List Loc), va_P G vwCl [(qa 0, .inl (Y 0, a_n, .inl b_a_c))] H → va_D A [(qa 0, .inl (Y 0, a_n, .inl b_a_c))] → va_S A s.heap H locs → ∀ (ls : Array Slot), lv_has ls 4 [(0, .ref (qa 0)), (1, .int p2), (2, .int x2), (3, .int x3)] → W p l e (headSpec wsJ7_fill_53178 (rmk 0 0)).room s m [.ref (qa 0), .int p2].toArray below meth c H locs 0 0 (MQ below (va_Qv (fun (_ : Unit) => True) (Pst G (tys Y) [(qa 0, .inl (Y 0, a_n, .inl a_c))] s.heap.size [(qa 0, .inl (Y 0, a_n, .inl o_a_c))]) A) [.ref (qa 0), .int p2].toArray s 0 0 A) (F0 m 5 ls []) := by
    intro n5
    induction n5 with
    | zero =>
      intro b_a_c x2 x3 hf H locs hP hD hS ls hl
      exact no_none hf
    | succ n5 ih5 =>
      intro b_a_c x2 x3 hf H locs hP hD hS ls hl
      have hf : f_J7_fill_53178_s5 a_n p2 (f_J7_fill_53178_b5 a_n p2  n5) b_a_c x2 x3 = some (o_a_c) := hf
      unfold f_J7_fill_53178_s5 at hf
      refine lv_iload_n hx hb dJ7_fill_53178_5 rfl (lv_at hl 2 rfl) ?_
      refine lv_iload_n hx hb dJ7_fill_53178_6 rfl (lv_at hl 3 rfl) ?_
      refine lv_icmp_ge (tgt := 20) hx hb dJ7_fill_53178_7 (by decide) (fun c1 => ?_) (fun c1 => ?_)
      · have hf := it hf c1
        have e0 := rt1 hf
        have hP : va_P G vwCl [(qa 0, .inl (Y 0, a_n, .inl o_a_c))] H := by rw [← e0]; exact hP
        have hD : va_D A [(qa 0, .inl (Y 0, a_n, .inl o_a_c))] := by rw [← e0]; exact hD
        exact W.vret hx hb hr (fun t ht hW => ⟨⟨(), rfl, trivial, by rw [ht]; exact hP, va_K.moved hW.alike hK, by rw [hAe]; exact hD⟩, hS.F ht⟩) hS.2.2 dJ7_fill_53178_20
      · have hf := ie hf c1
        refine lv_aload_n hx hb dJ7_fill_53178_10 rfl (lv_at hl 0 rfl) ?_
        refine lv_iload_n hx hb dJ7_fill_53178_11 rfl (lv_at hl 2 rfl) ?_
        refine lv_iload_n hx hb dJ7_fill_53178_12 rfl (lv_at hl 1 rfl) ?_
        obtain ⟨g2, hf⟩ := gd hf
        refine va_iast hx hb hK hP hD hS 0 0 rfl rfl g2 dJ7_fill_53178_13 (fun H locs hP hD hS => ?_)
        obtain ⟨v3, e_v3⟩ : ∃ z : Nat → Int32, z = upd b_a_c x2.toNatClampNeg p2 := ⟨_, rfl⟩
        have hf := nm_at hf e_v3
        have hP : va_P G vwCl [(qa 0, .inl (Y 0, a_n, .inl v3))] H := by rw [e_v3]; exact hP
        have hD : va_D A [(qa 0, .inl (Y 0, a_n, .inl v3))] := by rw [e_v3]; exact hD
        obtain ⟨v4, e_v4⟩ : ∃ z : Int32, z = (x2 + 1) := ⟨_, rfl⟩
        have hf := nm_at hf e_v4
        refine lv_iinc (v := v4) (lv' := [(2, .int v4), (0, .ref (qa 0)), (1, .int p2), (3, .int x3)]) hx hb dJ7_fill_53178_14 hl (k := 2) rfl (by rw [e_v4]; rfl) (by decide) rfl (fun ls hl => ?_)
        refine lv_goto (tgt := 5) hx hb dJ7_fill_53178_17 (by decide) ?_
        exact ih5 v3 v4 x3 hf _ _ hP hD hS ls (lv_sub hl [1, 2, 0, 3] rfl)
  have E0 : ∀ (H : Heap) (locs : List Loc), va_P G vwCl [(qa 0, .inl (Y 0, a_n, .inl a_c))] H → va_D A [(qa 0, .inl (Y 0, a_n, .inl a_c))] → va_S A s.heap H locs → ∀ (ls : Array Slot), lv_has ls 4 [(0, .ref (qa 0)), (1, .int p2)] → W p l e (headSpec wsJ7_fill_53178 (rmk 0 0)).room s m [.ref (qa 0), .int p2].toArray below meth c H locs 0 0 (MQ below (va_Qv (fun (_ : Unit) => True) (Pst G (tys Y) [(qa 0, .inl (Y 0, a_n, .inl a_c))] s.heap.size [(qa 0, .inl (Y 0, a_n, .inl o_a_c))]) A) [.ref (qa 0), .int p2].toArray s 0 0 A) (F0 m 0 ls []) := by
    intro H locs hP hD hS ls hl
    unfold f_J7_fill_53178 at hf
    refine lv_iconst (v := 0) hx hb dJ7_fill_53178_0 (by decide) ?_
    refine lv_istore_n (lv' := [(2, .int (0 : Int32)), (0, .ref (qa 0)), (1, .int p2)]) hx hb dJ7_fill_53178_1 rfl hl (by decide) rfl (fun ls hl => ?_)
    refine lv_aload_n hx hb dJ7_fill_53178_2 rfl (lv_at hl 1 rfl) ?_
    refine va_alen (v := (Int32.ofNat a_n)) hx hb hK hP 0 0 rfl rfl rfl dJ7_fill_53178_3 ?_
    refine lv_topi (fun v5 e_v5 => ?_)
    have hf := nm_at hf e_v5
    refine lv_istore_n (lv' := [(3, .int v5), (2, .int (0 : Int32)), (0, .ref (qa 0)), (1, .int p2)]) hx hb dJ7_fill_53178_4 rfl hl (by decide) rfl (fun ls hl => ?_)
    exact B5 150 a_c (0 : Int32) v5 hf _ _ hP hD hS ls (lv_sub hl [2, 3, 1, 0] rfl)
  exact E0 s.heap [] hP hD hS ls hl
-- J7_fill_d0a16
set_option maxRecDepth 100000 in
set_option maxHeartbeats 4000000 in
theorem c_J7_fill_d0a16 (l : Launch) (G : va_G) (Y : Nat → ClassId) (sz : Nat) (qa : Nat → Nat) (a_c : Nat → Int64) (a_n : Nat) (p2 : Int64) (o_a_c : Nat → Int64) (hf : f_J7_fill_d0a16 a_c a_n p2 = some (o_a_c)) : Met l yJ7_fill_d0a16 wsJ7_fill_d0a16 (rmk 0 0) (va_Pc [.ref (qa 0), .long p2] (Pre G (tys Y) [(qa 0, .inl (Y 1, a_n, .inr (.inl a_c)))] sz xT)) (va_Qv (fun (_ : Unit) => True) (Pst G (tys Y) [(qa 0, .inl (Y 1, a_n, .inr (.inl a_c)))] sz [(qa 0, .inl (Y 1, a_n, .inr (.inl o_a_c)))]) (va_A [(qa 0, .inl (Y 1, a_n, .inr (.inl a_c)))] sz)) 0 0 (va_A [(qa 0, .inl (Y 1, a_n, .inr (.inl a_c)))] sz) := by
  refine Met.ofW (cc := cJ7_fill_d0a16) (maxL := 5) (ret := none) (by decide) rfl ?_
  intro p e s m args below meth c s₁ B hml hv
  obtain ⟨rfl, hsz, hP, hK, hD0, hX⟩ := hv
  have hx := B.exec
  have hb := B.bytes
  have hr := B.returns
  have hts := atoms_spec (ws := wsJ7_fill_d0a16) B.pre
  have hown : s.vm.findClass RJ7 = some m.cls := findClass_of_methodNamed B.named
  have hlocks := B.notSynchronized
  subst hsz
  have hD := hD0.self (sz := s.heap.size)
  generalize hAe : va_A [(qa 0, .inl (Y 1, a_n, .inr (.inl a_c)))] s.heap.size = A at hD ⊢
  have hA : ∀ q : Nat, s.heap.size ≤ q → A q := fun q h => by rw [← hAe]; exact Or.inr h
  have hS : va_S A s.heap s.heap [] := va_S.rf
  have hP : va_P G vwCl [(qa 0, .inl (Y 1, a_n, .inr (.inl a_c)))] s.heap := hP
  have hl := lv_entry ([.ref (qa 0), .long p2]) (n := 5) (Nat.le_of_ble_eq_true rfl)
  rw [lg_entry_eq]
  generalize (lg_sl ([.ref (qa 0), .long p2]) ++ List.replicate (5 - (lg_sl ([.ref (qa 0), .long p2])).length) Slot.unset).toArray = ls at hl ⊢
  have hl : lv_has ls 5 [(0, .ref (qa 0)), (1, .long p2)] := hl
  have B6 : ∀ (n6 : Nat), ∀ (b_a_c : Nat → Int64) (x3 : Int32) (x4 : Int32), f_J7_fill_d0a16_b6 a_n p2 n6 b_a_c x3 x4 = some (o_a_c) → ∀ (H : Heap) (locs : List Loc), va_P G vwCl [(qa 0, .inl (Y 1, a_n, .inr (.inl b_a_c)))] H → va_D A [(qa 0, .inl (Y 1, a_n, .inr (.inl b_a_c)))] → va_S A s.heap H locs → ∀ (ls : Array Slot), lv_has ls 5 [(0, .ref (qa 0)), (1, .long p2), (3, .int x3), (4, .int x4)] → W p l e (headSpec wsJ7_fill_d0a16 (rmk 0 0)).room s m [.ref (qa 0), .long p2].toArray below meth c H locs 0 0 (MQ below (va_Qv (fun (_ : Unit) => True) (Pst G (tys Y) [(qa 0, .inl (Y 1, a_n, .inr (.inl a_c)))] s.heap.size [(qa 0, .inl (Y 1, a_n, .inr (.inl o_a_c)))]) A) [.ref (qa 0), .long p2].toArray s 0 0 A) (F0 m 6 ls []) := by
    intro n6
    induction n6 with
    | zero =>
      intro b_a_c x3 x4 hf H locs hP hD hS ls hl
      exact no_none hf
    | succ n6 ih6 =>
      intro b_a_c x3 x4 hf H locs hP hD hS ls hl
      have hf : f_J7_fill_d0a16_s6 a_n p2 (f_J7_fill_d0a16_b6 a_n p2  n6) b_a_c x3 x4 = some (o_a_c) := hf
      unfold f_J7_fill_d0a16_s6 at hf
      refine lv_iload_n hx hb dJ7_fill_d0a16_6 rfl (lv_at hl 2 rfl) ?_
      refine lv_iload hx hb dJ7_fill_d0a16_7 (lv_at hl 3 rfl) ?_
      refine lv_icmp_ge (tgt := 22) hx hb dJ7_fill_d0a16_9 (by decide) (fun c1 => ?_) (fun c1 => ?_)
      · have hf := it hf c1
        have e0 := rt1 hf
        have hP : va_P G vwCl [(qa 0, .inl (Y 1, a_n, .inr (.inl o_a_c)))] H := by rw [← e0]; exact hP
        have hD : va_D A [(qa 0, .inl (Y 1, a_n, .inr (.inl o_a_c)))] := by rw [← e0]; exact hD
        exact W.vret hx hb hr (fun t ht hW => ⟨⟨(), rfl, trivial, by rw [ht]; exact hP, va_K.moved hW.alike hK, by rw [hAe]; exact hD⟩, hS.F ht⟩) hS.2.2 dJ7_fill_d0a16_22
      · have hf := ie hf c1
        refine lv_aload_n hx hb dJ7_fill_d0a16_12 rfl (lv_at hl 0 rfl) ?_
        refine lv_iload_n hx hb dJ7_fill_d0a16_13 rfl (lv_at hl 2 rfl) ?_
        refine lv_lload_n hx hb dJ7_fill_d0a16_14 rfl (lv_at hl 1 rfl) ?_
        obtain ⟨g2, hf⟩ := gd hf
        refine va_last hx hb hK hP hD hS 0 1 rfl rfl g2 dJ7_fill_d0a16_15 (fun H locs hP hD hS => ?_)
        obtain ⟨v3, e_v3⟩ : ∃ z : Nat → Int64, z = vp_updL b_a_c x3.toNatClampNeg p2 := ⟨_, rfl⟩
        have hf := nm_at hf e_v3
        have hP : va_P G vwCl [(qa 0, .inl (Y 1, a_n, .inr (.inl v3)))] H := by rw [e_v3]; exact hP
        have hD : va_D A [(qa 0, .inl (Y 1, a_n, .inr (.inl v3)))] := by rw [e_v3]; exact hD
        obtain ⟨v4, e_v4⟩ : ∃ z : Int32, z = (x3 + 1) := ⟨_, rfl⟩
        have hf := nm_at hf e_v4
        refine lv_iinc (v := v4) (lv' := [(3, .int v4), (0, .ref (qa 0)), (1, .long p2), (4, .int x4)]) hx hb dJ7_fill_d0a16_16 hl (k := 2) rfl (by rw [e_v4]; rfl) (by decide) rfl (fun ls hl => ?_)
        refine lv_goto (tgt := 6) hx hb dJ7_fill_d0a16_19 (by decide) ?_
        exact ih6 v3 v4 x4 hf _ _ hP hD hS ls (lv_sub hl [1, 2, 0, 3] rfl)
  have E0 : ∀ (H : Heap) (locs : List Loc), va_P G vwCl [(qa 0, .inl (Y 1, a_n, .inr (.inl a_c)))] H → va_D A [(qa 0, .inl (Y 1, a_n, .inr (.inl a_c)))] → va_S A s.heap H locs → ∀ (ls : Array Slot), lv_has ls 5 [(0, .ref (qa 0)), (1, .long p2)] → W p l e (headSpec wsJ7_fill_d0a16 (rmk 0 0)).room s m [.ref (qa 0), .long p2].toArray below meth c H locs 0 0 (MQ below (va_Qv (fun (_ : Unit) => True) (Pst G (tys Y) [(qa 0, .inl (Y 1, a_n, .inr (.inl a_c)))] s.heap.size [(qa 0, .inl (Y 1, a_n, .inr (.inl o_a_c)))]) A) [.ref (qa 0), .long p2].toArray s 0 0 A) (F0 m 0 ls []) := by
    intro H locs hP hD hS ls hl
    unfold f_J7_fill_d0a16 at hf
    refine lv_iconst (v := 0) hx hb dJ7_fill_d0a16_0 (by decide) ?_
    refine lv_istore_n (lv' := [(3, .int (0 : Int32)), (0, .ref (qa 0)), (1, .long p2)]) hx hb dJ7_fill_d0a16_1 rfl hl (by decide) rfl (fun ls hl => ?_)
    refine lv_aload_n hx hb dJ7_fill_d0a16_2 rfl (lv_at hl 1 rfl) ?_
    refine va_alen (v := (Int32.ofNat a_n)) hx hb hK hP 0 1 rfl rfl rfl dJ7_fill_d0a16_3 ?_
    refine lv_topi (fun v5 e_v5 => ?_)
    have hf := nm_at hf e_v5
    refine lv_istore (lv' := [(4, .int v5), (3, .int (0 : Int32)), (0, .ref (qa 0)), (1, .long p2)]) hx hb dJ7_fill_d0a16_4 hl (by decide) rfl (fun ls hl => ?_)
    exact B6 150 a_c (0 : Int32) v5 hf _ _ hP hD hS ls (lv_sub hl [2, 3, 1, 0] rfl)
  exact E0 s.heap [] hP hD hS ls hl
-- X7_times
set_option maxRecDepth 100000 in
set_option maxHeartbeats 4000000 in
theorem c_X7_times (l : Launch) (G : va_G) (Y : Nat → ClassId) (sz : Nat) (p1 : Int64) (p2 : Int64) (rv : Int64) (hf : f_X7_times p1 p2 = some (rv)) : Met l yX7_times wsX7_times (rmk 0 0) (va_Pc [.long p1, .long p2] (Pre G (tys Y) [] sz xT)) (va_Ql (fun (r : Int64) (_ : Unit) => r = rv) (Pst G (tys Y) [] sz []) (va_A [] sz)) 0 0 (va_A [] sz) := by
  refine Met.ofW (cc := cX7_times) (maxL := 4) (ret := (some .long)) (by decide) rfl ?_
  intro p e s m args below meth c s₁ B hml hv
  obtain ⟨rfl, hsz, hP, hK, hD0, hX⟩ := hv
  have hx := B.exec
  have hb := B.bytes
  have hr := B.returns
  have hts := atoms_spec (ws := wsX7_times) B.pre
  have hown : s.vm.findClass RX7 = some m.cls := findClass_of_methodNamed B.named
  have hlocks := B.notSynchronized
  subst hsz
  have hD := hD0.self (sz := s.heap.size)
  generalize hAe : va_A [] s.heap.size = A at hD ⊢
  have hA : ∀ q : Nat, s.heap.size ≤ q → A q := fun q h => by rw [← hAe]; exact Or.inr h
  have hS : va_S A s.heap s.heap [] := va_S.rf
  have hP : va_P G vwCl [] s.heap := hP
  have wd1 : (Cond.constantLong RX7 11 (-1)).before [.long p1, .long p2].toArray s = true := hts _ (List.mem_of_getElem? (i := 1) rfl)
  have wd2 : (Cond.constantLong RX7 9 (9223372036854775807)).before [.long p1, .long p2].toArray s = true := hts _ (List.mem_of_getElem? (i := 2) rfl)
  have hl := lv_entry ([.long p1, .long p2]) (n := 4) (Nat.le_of_ble_eq_true rfl)
  rw [lg_entry_eq]
  generalize (lg_sl ([.long p1, .long p2]) ++ List.replicate (4 - (lg_sl ([.long p1, .long p2])).length) Slot.unset).toArray = ls at hl ⊢
  have hl : lv_has ls 4 [(0, .long p1), (2, .long p2)] := hl
  have E0 : ∀ (H : Heap) (locs : List Loc), va_P G vwCl [] H → va_D A [] → va_S A s.heap H locs → ∀ (ls : Array Slot), lv_has ls 4 [(0, .long p1), (2, .long p2)] → W p l e (headSpec wsX7_times (rmk 0 0)).room s m [.long p1, .long p2].toArray below meth c H locs 0 0 (MQ below (va_Ql (fun (r : Int64) (_ : Unit) => r = rv) (Pst G (tys Y) [] s.heap.size []) A) [.long p1, .long p2].toArray s 0 0 A) (F0 m 0 ls []) := by
    intro H locs hP hD hS ls hl
    unfold f_X7_times at hf
    refine lv_lload_n hx hb dX7_times_0 rfl (lv_at hl 0 rfl) ?_
    refine lv_lconst (v := 0) hx hb dX7_times_1 (by decide) ?_
    refine W.lcmp hx hb dX7_times_2 ?_
    refine lv_if_lt (tgt := 12) hx hb dX7_times_3 (by decide) (fun c1 => ?_) (fun c1 => ?_)
    · have hf := it hf c1
      refine lv_ldc2 hx hb hown wd1 dX7_times_12 ?_
      have e0 := rt1 hf
      exact W.lret (v := (-1 : Int64)) hx hb hr (fun t ht hW => ⟨⟨(-1 : Int64), (), rfl, e0, by rw [ht]; exact hP, va_K.moved hW.alike hK, by rw [hAe]; exact hD⟩, hS.F ht⟩) hS.2.2 dX7_times_15
    · have hf := ie hf c1
      refine lv_lload_n hx hb dX7_times_6 rfl (lv_at hl 1 rfl) ?_
      refine lv_lconst (v := 0) hx hb dX7_times_7 (by decide) ?_
      refine W.lcmp hx hb dX7_times_8 ?_
      refine lv_if_ge (tgt := 16) hx hb dX7_times_9 (by decide) (fun c2 => ?_) (fun c2 => ?_)
      · have hf := it hf c2
        refine lv_lload_n hx hb dX7_times_16 rfl (lv_at hl 1 rfl) ?_
        refine lv_lconst (v := 0) hx hb dX7_times_17 (by decide) ?_
        refine W.lcmp hx hb dX7_times_18 ?_
        refine lv_if_eq (tgt := 38) hx hb dX7_times_19 (by decide) (fun c3 => ?_) (fun c3 => ?_)
        · have hf := it hf c3
          refine lv_lload_n hx hb dX7_times_38 rfl (lv_at hl 0 rfl) ?_
          refine lv_lload_n hx hb dX7_times_39 rfl (lv_at hl 1 rfl) ?_
          refine lv_lmul hx hb dX7_times_40 ?_
          have e0 := rt1 hf
          exact W.lret (v := (p1 * p2)) hx hb hr (fun t ht hW => ⟨⟨(p1 * p2), (), rfl, e0, by rw [ht]; exact hP, va_K.moved hW.alike hK, by rw [hAe]; exact hD⟩, hS.F ht⟩) hS.2.2 dX7_times_41
        · have hf := ie hf c3
          refine lv_lload_n hx hb dX7_times_22 rfl (lv_at hl 0 rfl) ?_
          refine lv_ldc2 hx hb hown wd2 dX7_times_23 ?_
          refine lv_lload_n hx hb dX7_times_26 rfl (lv_at hl 1 rfl) ?_
          obtain ⟨g4, hf⟩ := gd hf
          refine lv_ldiv hx hb dX7_times_27 g4 ?_
          refine W.lcmp hx hb dX7_times_28 ?_
          refine lv_if_le (tgt := 38) hx hb dX7_times_29 (by decide) (fun c5 => ?_) (fun c5 => ?_)
          · have hf := it hf c5
            refine lv_lload_n hx hb dX7_times_38 rfl (lv_at hl 0 rfl) ?_
            refine lv_lload_n hx hb dX7_times_39 rfl (lv_at hl 1 rfl) ?_
            refine lv_lmul hx hb dX7_times_40 ?_
            have e0 := rt1 hf
            exact W.lret (v := (p1 * p2)) hx hb hr (fun t ht hW => ⟨⟨(p1 * p2), (), rfl, e0, by rw [ht]; exact hP, va_K.moved hW.alike hK, by rw [hAe]; exact hD⟩, hS.F ht⟩) hS.2.2 dX7_times_41
          · have hf := ie hf c5
            refine lv_ldc2 hx hb hown wd1 dX7_times_32 ?_
            refine lv_goto (tgt := 41) hx hb dX7_times_35 (by decide) ?_
            have e0 := rt1 hf
            exact W.lret (v := (-1 : Int64)) hx hb hr (fun t ht hW => ⟨⟨(-1 : Int64), (), rfl, e0, by rw [ht]; exact hP, va_K.moved hW.alike hK, by rw [hAe]; exact hD⟩, hS.F ht⟩) hS.2.2 dX7_times_41
      · have hf := ie hf c2
        refine lv_ldc2 hx hb hown wd1 dX7_times_12 ?_
        have e0 := rt1 hf
        exact W.lret (v := (-1 : Int64)) hx hb hr (fun t ht hW => ⟨⟨(-1 : Int64), (), rfl, e0, by rw [ht]; exact hP, va_K.moved hW.alike hK, by rw [hAe]; exact hD⟩, hS.F ht⟩) hS.2.2 dX7_times_15
  exact E0 s.heap [] hP hD hS ls hl
-- J13_bitCount_95d88
set_option maxRecDepth 100000 in
set_option maxHeartbeats 4000000 in
theorem c_J13_bitCount_95d88 (l : Launch) (G : va_G) (Y : Nat → ClassId) (sz : Nat) (p1 : Int64) (rv : Int32) (hf : f_J13_bitCount_95d88 p1 = some (rv)) : Met l yJ13_bitCount_95d88 wsJ13_bitCount_95d88 (rmk 0 0) (va_Pc [.long p1] (Pre G (tys Y) [] sz xT)) (va_Qi (fun (r : Int32) (_ : Unit) => r = rv) (Pst G (tys Y) [] sz []) (va_A [] sz)) 0 0 (va_A [] sz) := by
  refine Met.ofW (cc := cJ13_bitCount_95d88) (maxL := 2) (ret := (some .int)) (by decide) rfl ?_
  intro p e s m args below meth c s₁ B hml hv
  obtain ⟨rfl, hsz, hP, hK, hD0, hX⟩ := hv
  have hx := B.exec
  have hb := B.bytes
  have hr := B.returns
  have hts := atoms_spec (ws := wsJ13_bitCount_95d88) B.pre
  have hown : s.vm.findClass RJ13 = some m.cls := findClass_of_methodNamed B.named
  have hlocks := B.notSynchronized
  subst hsz
  have hD := hD0.self (sz := s.heap.size)
  generalize hAe : va_A [] s.heap.size = A at hD ⊢
  have hA : ∀ q : Nat, s.heap.size ≤ q → A q := fun q h => by rw [← hAe]; exact Or.inr h
  have hS : va_S A s.heap s.heap [] := va_S.rf
  have hP : va_P G vwCl [] s.heap := hP
  have wd1 : (Cond.constantLong RJ13 314 (6148914691236517205)).before [.long p1].toArray s = true := hts _ (List.mem_of_getElem? (i := 1) rfl)
  have wd2 : (Cond.constantLong RJ13 316 (3689348814741910323)).before [.long p1].toArray s = true := hts _ (List.mem_of_getElem? (i := 2) rfl)
  have wd3 : (Cond.constantLong RJ13 318 (1085102592571150095)).before [.long p1].toArray s = true := hts _ (List.mem_of_getElem? (i := 3) rfl)
  have hl := lv_entry ([.long p1]) (n := 2) (Nat.le_of_ble_eq_true rfl)
  rw [lg_entry_eq]
  generalize (lg_sl ([.long p1]) ++ List.replicate (2 - (lg_sl ([.long p1])).length) Slot.unset).toArray = ls at hl ⊢
  have hl : lv_has ls 2 [(0, .long p1)] := hl
  have E0 : ∀ (H : Heap) (locs : List Loc), va_P G vwCl [] H → va_D A [] → va_S A s.heap H locs → ∀ (ls : Array Slot), lv_has ls 2 [(0, .long p1)] → W p l e (headSpec wsJ13_bitCount_95d88 (rmk 0 0)).room s m [.long p1].toArray below meth c H locs 0 0 (MQ below (va_Qi (fun (r : Int32) (_ : Unit) => r = rv) (Pst G (tys Y) [] s.heap.size []) A) [.long p1].toArray s 0 0 A) (F0 m 0 ls []) := by
    intro H locs hP hD hS ls hl
    unfold f_J13_bitCount_95d88 at hf
    refine lv_lload_n hx hb dJ13_bitCount_95d88_0 rfl (lv_at hl 0 rfl) ?_
    refine lv_lload_n hx hb dJ13_bitCount_95d88_1 rfl (lv_at hl 0 rfl) ?_
    refine lv_iconst (v := 1) hx hb dJ13_bitCount_95d88_2 (by decide) ?_
    refine lv_lushr hx hb dJ13_bitCount_95d88_3 rfl ?_
    refine lv_ldc2 hx hb hown wd1 dJ13_bitCount_95d88_4 ?_
    refine lv_land hx hb dJ13_bitCount_95d88_7 ?_
    refine lv_lsub hx hb dJ13_bitCount_95d88_8 ?_
    refine lv_topl (fun v1 e_v1 => ?_)
    have hf := nm_at hf e_v1
    refine lv_lstore_n (lv' := [(0, .long v1)]) hx hb dJ13_bitCount_95d88_9 rfl hl (by decide) rfl (fun ls hl => ?_)
    refine lv_lload_n hx hb dJ13_bitCount_95d88_10 rfl (lv_at hl 0 rfl) ?_
    refine lv_ldc2 hx hb hown wd2 dJ13_bitCount_95d88_11 ?_
    refine lv_land hx hb dJ13_bitCount_95d88_14 ?_
    refine lv_lload_n hx hb dJ13_bitCount_95d88_15 rfl (lv_at hl 0 rfl) ?_
    refine lv_iconst (v := 2) hx hb dJ13_bitCount_95d88_16 (by decide) ?_
    refine lv_lushr hx hb dJ13_bitCount_95d88_17 rfl ?_
    refine lv_ldc2 hx hb hown wd2 dJ13_bitCount_95d88_18 ?_
    refine lv_land hx hb dJ13_bitCount_95d88_21 ?_
    refine lv_ladd hx hb dJ13_bitCount_95d88_22 ?_
    refine lv_topl (fun v2 e_v2 => ?_)
    have hf := nm_at hf e_v2
    refine lv_lstore_n (lv' := [(0, .long v2)]) hx hb dJ13_bitCount_95d88_23 rfl hl (by decide) rfl (fun ls hl => ?_)
    refine lv_lload_n hx hb dJ13_bitCount_95d88_24 rfl (lv_at hl 0 rfl) ?_
    refine lv_lload_n hx hb dJ13_bitCount_95d88_25 rfl (lv_at hl 0 rfl) ?_
    refine lv_iconst (v := 4) hx hb dJ13_bitCount_95d88_26 (by decide) ?_
    refine lv_lushr hx hb dJ13_bitCount_95d88_27 rfl ?_
    refine lv_ladd hx hb dJ13_bitCount_95d88_28 ?_
    refine lv_ldc2 hx hb hown wd3 dJ13_bitCount_95d88_29 ?_
    refine lv_land hx hb dJ13_bitCount_95d88_32 ?_
    refine lv_topl (fun v3 e_v3 => ?_)
    have hf := nm_at hf e_v3
    refine lv_lstore_n (lv' := [(0, .long v3)]) hx hb dJ13_bitCount_95d88_33 rfl hl (by decide) rfl (fun ls hl => ?_)
    refine lv_lload_n hx hb dJ13_bitCount_95d88_34 rfl (lv_at hl 0 rfl) ?_
    refine lv_lload_n hx hb dJ13_bitCount_95d88_35 rfl (lv_at hl 0 rfl) ?_
    refine lv_bipush (v := 8) hx hb dJ13_bitCount_95d88_36 (by decide) ?_
    refine lv_lushr hx hb dJ13_bitCount_95d88_38 rfl ?_
    refine lv_ladd hx hb dJ13_bitCount_95d88_39 ?_
    refine lv_topl (fun v4 e_v4 => ?_)
    have hf := nm_at hf e_v4
    refine lv_lstore_n (lv' := [(0, .long v4)]) hx hb dJ13_bitCount_95d88_40 rfl hl (by decide) rfl (fun ls hl => ?_)
    refine lv_lload_n hx hb dJ13_bitCount_95d88_41 rfl (lv_at hl 0 rfl) ?_
    refine lv_lload_n hx hb dJ13_bitCount_95d88_42 rfl (lv_at hl 0 rfl) ?_
    refine lv_bipush (v := 16) hx hb dJ13_bitCount_95d88_43 (by decide) ?_
    refine lv_lushr hx hb dJ13_bitCount_95d88_45 rfl ?_
    refine lv_ladd hx hb dJ13_bitCount_95d88_46 ?_
    refine lv_topl (fun v5 e_v5 => ?_)
    have hf := nm_at hf e_v5
    refine lv_lstore_n (lv' := [(0, .long v5)]) hx hb dJ13_bitCount_95d88_47 rfl hl (by decide) rfl (fun ls hl => ?_)
    refine lv_lload_n hx hb dJ13_bitCount_95d88_48 rfl (lv_at hl 0 rfl) ?_
    refine lv_lload_n hx hb dJ13_bitCount_95d88_49 rfl (lv_at hl 0 rfl) ?_
    refine lv_bipush (v := 32) hx hb dJ13_bitCount_95d88_50 (by decide) ?_
    refine lv_lushr hx hb dJ13_bitCount_95d88_52 rfl ?_
    refine lv_ladd hx hb dJ13_bitCount_95d88_53 ?_
    refine lv_topl (fun v6 e_v6 => ?_)
    have hf := nm_at hf e_v6
    refine lv_lstore_n (lv' := [(0, .long v6)]) hx hb dJ13_bitCount_95d88_54 rfl hl (by decide) rfl (fun ls hl => ?_)
    refine lv_lload_n hx hb dJ13_bitCount_95d88_55 rfl (lv_at hl 0 rfl) ?_
    refine lv_l2i hx hb dJ13_bitCount_95d88_56 rfl ?_
    refine lv_bipush (v := 127) hx hb dJ13_bitCount_95d88_57 (by decide) ?_
    refine lv_iand hx hb dJ13_bitCount_95d88_59 ?_
    have e0 := rt1 hf
    exact W.iret (v := (v6.toInt32 &&& (127 : Int32))) hx hb hr (fun t ht hW => ⟨⟨(v6.toInt32 &&& (127 : Int32)), (), rfl, e0, by rw [ht]; exact hP, va_K.moved hW.alike hK, by rw [hAe]; exact hD⟩, hS.F ht⟩) hS.2.2 dJ13_bitCount_95d88_60
  exact E0 s.heap [] hP hD hS ls hl
-- J13_compare_74951
set_option maxRecDepth 100000 in
set_option maxHeartbeats 4000000 in
theorem c_J13_compare_74951 (l : Launch) (G : va_G) (Y : Nat → ClassId) (sz : Nat) (p1 : Int64) (p2 : Int64) (rv : Int32) (hf : f_J13_compare_74951 p1 p2 = some (rv)) : Met l yJ13_compare_74951 wsJ13_compare_74951 (rmk 0 0) (va_Pc [.long p1, .long p2] (Pre G (tys Y) [] sz xT)) (va_Qi (fun (r : Int32) (_ : Unit) => r = rv) (Pst G (tys Y) [] sz []) (va_A [] sz)) 0 0 (va_A [] sz) := by
  refine Met.ofW (cc := cJ13_compare_74951) (maxL := 4) (ret := (some .int)) (by decide) rfl ?_
  intro p e s m args below meth c s₁ B hml hv
  obtain ⟨rfl, hsz, hP, hK, hD0, hX⟩ := hv
  have hx := B.exec
  have hb := B.bytes
  have hr := B.returns
  have hts := atoms_spec (ws := wsJ13_compare_74951) B.pre
  have hown : s.vm.findClass RJ13 = some m.cls := findClass_of_methodNamed B.named
  have hlocks := B.notSynchronized
  subst hsz
  have hD := hD0.self (sz := s.heap.size)
  generalize hAe : va_A [] s.heap.size = A at hD ⊢
  have hA : ∀ q : Nat, s.heap.size ≤ q → A q := fun q h => by rw [← hAe]; exact Or.inr h
  have hS : va_S A s.heap s.heap [] := va_S.rf
  have hP : va_P G vwCl [] s.heap := hP
  have hl := lv_entry ([.long p1, .long p2]) (n := 4) (Nat.le_of_ble_eq_true rfl)
  rw [lg_entry_eq]
  generalize (lg_sl ([.long p1, .long p2]) ++ List.replicate (4 - (lg_sl ([.long p1, .long p2])).length) Slot.unset).toArray = ls at hl ⊢
  have hl : lv_has ls 4 [(0, .long p1), (2, .long p2)] := hl
  have E0 : ∀ (H : Heap) (locs : List Loc), va_P G vwCl [] H → va_D A [] → va_S A s.heap H locs → ∀ (ls : Array Slot), lv_has ls 4 [(0, .long p1), (2, .long p2)] → W p l e (headSpec wsJ13_compare_74951 (rmk 0 0)).room s m [.long p1, .long p2].toArray below meth c H locs 0 0 (MQ below (va_Qi (fun (r : Int32) (_ : Unit) => r = rv) (Pst G (tys Y) [] s.heap.size []) A) [.long p1, .long p2].toArray s 0 0 A) (F0 m 0 ls []) := by
    intro H locs hP hD hS ls hl
    unfold f_J13_compare_74951 at hf
    refine lv_lload_n hx hb dJ13_compare_74951_0 rfl (lv_at hl 0 rfl) ?_
    refine lv_lload_n hx hb dJ13_compare_74951_1 rfl (lv_at hl 1 rfl) ?_
    refine W.lcmp hx hb dJ13_compare_74951_2 ?_
    refine lv_if_ge (tgt := 10) hx hb dJ13_compare_74951_3 (by decide) (fun c1 => ?_) (fun c1 => ?_)
    · have hf := it hf c1
      refine lv_lload_n hx hb dJ13_compare_74951_10 rfl (lv_at hl 0 rfl) ?_
      refine lv_lload_n hx hb dJ13_compare_74951_11 rfl (lv_at hl 1 rfl) ?_
      refine W.lcmp hx hb dJ13_compare_74951_12 ?_
      refine lv_if_ne (tgt := 20) hx hb dJ13_compare_74951_13 (by decide) (fun c2 => ?_) (fun c2 => ?_)
      · have hf := ie hf c2
        refine lv_iconst (v := 1) hx hb dJ13_compare_74951_20 (by decide) ?_
        have e0 := rt1 hf
        exact W.iret (v := (1 : Int32)) hx hb hr (fun t ht hW => ⟨⟨(1 : Int32), (), rfl, e0, by rw [ht]; exact hP, va_K.moved hW.alike hK, by rw [hAe]; exact hD⟩, hS.F ht⟩) hS.2.2 dJ13_compare_74951_21
      · have hf := it hf c2
        refine lv_iconst (v := 0) hx hb dJ13_compare_74951_16 (by decide) ?_
        refine lv_goto (tgt := 21) hx hb dJ13_compare_74951_17 (by decide) ?_
        have e0 := rt1 hf
        exact W.iret (v := (0 : Int32)) hx hb hr (fun t ht hW => ⟨⟨(0 : Int32), (), rfl, e0, by rw [ht]; exact hP, va_K.moved hW.alike hK, by rw [hAe]; exact hD⟩, hS.F ht⟩) hS.2.2 dJ13_compare_74951_21
    · have hf := ie hf c1
      refine lv_iconst (v := -1) hx hb dJ13_compare_74951_6 (by decide) ?_
      refine lv_goto (tgt := 21) hx hb dJ13_compare_74951_7 (by decide) ?_
      have e0 := rt1 hf
      exact W.iret (v := (-1 : Int32)) hx hb hr (fun t ht hW => ⟨⟨(-1 : Int32), (), rfl, e0, by rw [ht]; exact hP, va_K.moved hW.alike hK, by rw [hAe]; exact hD⟩, hS.F ht⟩) hS.2.2 dJ13_compare_74951_21
  exact E0 s.heap [] hP hD hS ls hl
-- J6_bitCount_0f7a4
set_option maxRecDepth 100000 in
set_option maxHeartbeats 4000000 in
theorem c_J6_bitCount_0f7a4 (l : Launch) (G : va_G) (Y : Nat → ClassId) (sz : Nat) (p1 : Int32) (rv : Int32) (hf : f_J6_bitCount_0f7a4 p1 = some (rv)) : Met l yJ6_bitCount_0f7a4 wsJ6_bitCount_0f7a4 (rmk 0 0) (va_Pc [.int p1] (Pre G (tys Y) [] sz xT)) (va_Qi (fun (r : Int32) (_ : Unit) => r = rv) (Pst G (tys Y) [] sz []) (va_A [] sz)) 0 0 (va_A [] sz) := by
  refine Met.ofW (cc := cJ6_bitCount_0f7a4) (maxL := 1) (ret := (some .int)) (by decide) rfl ?_
  intro p e s m args below meth c s₁ B hml hv
  obtain ⟨rfl, hsz, hP, hK, hD0, hX⟩ := hv
  have hx := B.exec
  have hb := B.bytes
  have hr := B.returns
  have hts := atoms_spec (ws := wsJ6_bitCount_0f7a4) B.pre
  have hown : s.vm.findClass RJ6 = some m.cls := findClass_of_methodNamed B.named
  have hlocks := B.notSynchronized
  subst hsz
  have hD := hD0.self (sz := s.heap.size)
  generalize hAe : va_A [] s.heap.size = A at hD ⊢
  have hA : ∀ q : Nat, s.heap.size ≤ q → A q := fun q h => by rw [← hAe]; exact Or.inr h
  have hS : va_S A s.heap s.heap [] := va_S.rf
  have hP : va_P G vwCl [] s.heap := hP
  have wd1 : (Cond.constant RJ6 265 (1431655765)).before [.int p1].toArray s = true := hts _ (List.mem_of_getElem? (i := 1) rfl)
  have wd2 : (Cond.constant RJ6 266 (858993459)).before [.int p1].toArray s = true := hts _ (List.mem_of_getElem? (i := 2) rfl)
  have wd3 : (Cond.constant RJ6 267 (252645135)).before [.int p1].toArray s = true := hts _ (List.mem_of_getElem? (i := 3) rfl)
  have hl := lv_entry ([.int p1]) (n := 1) (Nat.le_of_ble_eq_true rfl)
  rw [lg_entry_eq]
  generalize (lg_sl ([.int p1]) ++ List.replicate (1 - (lg_sl ([.int p1])).length) Slot.unset).toArray = ls at hl ⊢
  have hl : lv_has ls 1 [(0, .int p1)] := hl
  have E0 : ∀ (H : Heap) (locs : List Loc), va_P G vwCl [] H → va_D A [] → va_S A s.heap H locs → ∀ (ls : Array Slot), lv_has ls 1 [(0, .int p1)] → W p l e (headSpec wsJ6_bitCount_0f7a4 (rmk 0 0)).room s m [.int p1].toArray below meth c H locs 0 0 (MQ below (va_Qi (fun (r : Int32) (_ : Unit) => r = rv) (Pst G (tys Y) [] s.heap.size []) A) [.int p1].toArray s 0 0 A) (F0 m 0 ls []) := by
    intro H locs hP hD hS ls hl
    unfold f_J6_bitCount_0f7a4 at hf
    refine lv_iload_n hx hb dJ6_bitCount_0f7a4_0 rfl (lv_at hl 0 rfl) ?_
    refine lv_iload_n hx hb dJ6_bitCount_0f7a4_1 rfl (lv_at hl 0 rfl) ?_
    refine lv_iconst (v := 1) hx hb dJ6_bitCount_0f7a4_2 (by decide) ?_
    refine lv_iushr hx hb dJ6_bitCount_0f7a4_3 rfl ?_
    refine lv_ldcw hx hb hown wd1 dJ6_bitCount_0f7a4_4 ?_
    refine lv_iand hx hb dJ6_bitCount_0f7a4_7 ?_
    refine lv_isub hx hb dJ6_bitCount_0f7a4_8 ?_
    refine lv_topi (fun v1 e_v1 => ?_)
    have hf := nm_at hf e_v1
    refine lv_istore_n (lv' := [(0, .int v1)]) hx hb dJ6_bitCount_0f7a4_9 rfl hl (by decide) rfl (fun ls hl => ?_)
    refine lv_iload_n hx hb dJ6_bitCount_0f7a4_10 rfl (lv_at hl 0 rfl) ?_
    refine lv_ldcw hx hb hown wd2 dJ6_bitCount_0f7a4_11 ?_
    refine lv_iand hx hb dJ6_bitCount_0f7a4_14 ?_
    refine lv_iload_n hx hb dJ6_bitCount_0f7a4_15 rfl (lv_at hl 0 rfl) ?_
    refine lv_iconst (v := 2) hx hb dJ6_bitCount_0f7a4_16 (by decide) ?_
    refine lv_iushr hx hb dJ6_bitCount_0f7a4_17 rfl ?_
    refine lv_ldcw hx hb hown wd2 dJ6_bitCount_0f7a4_18 ?_
    refine lv_iand hx hb dJ6_bitCount_0f7a4_21 ?_
    refine lv_iadd hx hb dJ6_bitCount_0f7a4_22 ?_
    refine lv_topi (fun v2 e_v2 => ?_)
    have hf := nm_at hf e_v2
    refine lv_istore_n (lv' := [(0, .int v2)]) hx hb dJ6_bitCount_0f7a4_23 rfl hl (by decide) rfl (fun ls hl => ?_)
    refine lv_iload_n hx hb dJ6_bitCount_0f7a4_24 rfl (lv_at hl 0 rfl) ?_
    refine lv_iload_n hx hb dJ6_bitCount_0f7a4_25 rfl (lv_at hl 0 rfl) ?_
    refine lv_iconst (v := 4) hx hb dJ6_bitCount_0f7a4_26 (by decide) ?_
    refine lv_iushr hx hb dJ6_bitCount_0f7a4_27 rfl ?_
    refine lv_iadd hx hb dJ6_bitCount_0f7a4_28 ?_
    refine lv_ldcw hx hb hown wd3 dJ6_bitCount_0f7a4_29 ?_
    refine lv_iand hx hb dJ6_bitCount_0f7a4_32 ?_
    refine lv_topi (fun v3 e_v3 => ?_)
    have hf := nm_at hf e_v3
    refine lv_istore_n (lv' := [(0, .int v3)]) hx hb dJ6_bitCount_0f7a4_33 rfl hl (by decide) rfl (fun ls hl => ?_)
    refine lv_iload_n hx hb dJ6_bitCount_0f7a4_34 rfl (lv_at hl 0 rfl) ?_
    refine lv_iload_n hx hb dJ6_bitCount_0f7a4_35 rfl (lv_at hl 0 rfl) ?_
    refine lv_bipush (v := 8) hx hb dJ6_bitCount_0f7a4_36 (by decide) ?_
    refine lv_iushr hx hb dJ6_bitCount_0f7a4_38 rfl ?_
    refine lv_iadd hx hb dJ6_bitCount_0f7a4_39 ?_
    refine lv_topi (fun v4 e_v4 => ?_)
    have hf := nm_at hf e_v4
    refine lv_istore_n (lv' := [(0, .int v4)]) hx hb dJ6_bitCount_0f7a4_40 rfl hl (by decide) rfl (fun ls hl => ?_)
    refine lv_iload_n hx hb dJ6_bitCount_0f7a4_41 rfl (lv_at hl 0 rfl) ?_
    refine lv_iload_n hx hb dJ6_bitCount_0f7a4_42 rfl (lv_at hl 0 rfl) ?_
    refine lv_bipush (v := 16) hx hb dJ6_bitCount_0f7a4_43 (by decide) ?_
    refine lv_iushr hx hb dJ6_bitCount_0f7a4_45 rfl ?_
    refine lv_iadd hx hb dJ6_bitCount_0f7a4_46 ?_
    refine lv_topi (fun v5 e_v5 => ?_)
    have hf := nm_at hf e_v5
    refine lv_istore_n (lv' := [(0, .int v5)]) hx hb dJ6_bitCount_0f7a4_47 rfl hl (by decide) rfl (fun ls hl => ?_)
    refine lv_iload_n hx hb dJ6_bitCount_0f7a4_48 rfl (lv_at hl 0 rfl) ?_
    refine lv_bipush (v := 63) hx hb dJ6_bitCount_0f7a4_49 (by decide) ?_
    refine lv_iand hx hb dJ6_bitCount_0f7a4_51 ?_
    have e0 := rt1 hf
    exact W.iret (v := (v5 &&& (63 : Int32))) hx hb hr (fun t ht hW => ⟨⟨(v5 &&& (63 : Int32)), (), rfl, e0, by rw [ht]; exact hP, va_K.moved hW.alike hK, by rw [hAe]; exact hD⟩, hS.F ht⟩) hS.2.2 dJ6_bitCount_0f7a4_52
  exact E0 s.heap [] hP hD hS ls hl
-- X7_plus
set_option maxRecDepth 100000 in
set_option maxHeartbeats 4000000 in
theorem c_X7_plus (l : Launch) (G : va_G) (Y : Nat → ClassId) (sz : Nat) (p1 : Int64) (p2 : Int64) (rv : Int64) (hf : f_X7_plus p1 p2 = some (rv)) : Met l yX7_plus wsX7_plus (rmk 0 0) (va_Pc [.long p1, .long p2] (Pre G (tys Y) [] sz xT)) (va_Ql (fun (r : Int64) (_ : Unit) => r = rv) (Pst G (tys Y) [] sz []) (va_A [] sz)) 0 0 (va_A [] sz) := by
  refine Met.ofW (cc := cX7_plus) (maxL := 4) (ret := (some .long)) (by decide) rfl ?_
  intro p e s m args below meth c s₁ B hml hv
  obtain ⟨rfl, hsz, hP, hK, hD0, hX⟩ := hv
  have hx := B.exec
  have hb := B.bytes
  have hr := B.returns
  have hts := atoms_spec (ws := wsX7_plus) B.pre
  have hown : s.vm.findClass RX7 = some m.cls := findClass_of_methodNamed B.named
  have hlocks := B.notSynchronized
  subst hsz
  have hD := hD0.self (sz := s.heap.size)
  generalize hAe : va_A [] s.heap.size = A at hD ⊢
  have hA : ∀ q : Nat, s.heap.size ≤ q → A q := fun q h => by rw [← hAe]; exact Or.inr h
  have hS : va_S A s.heap s.heap [] := va_S.rf
  have hP : va_P G vwCl [] s.heap := hP
  have wd1 : (Cond.constantLong RX7 9 (9223372036854775807)).before [.long p1, .long p2].toArray s = true := hts _ (List.mem_of_getElem? (i := 1) rfl)
  have wd2 : (Cond.constantLong RX7 11 (-1)).before [.long p1, .long p2].toArray s = true := hts _ (List.mem_of_getElem? (i := 2) rfl)
  have hl := lv_entry ([.long p1, .long p2]) (n := 4) (Nat.le_of_ble_eq_true rfl)
  rw [lg_entry_eq]
  generalize (lg_sl ([.long p1, .long p2]) ++ List.replicate (4 - (lg_sl ([.long p1, .long p2])).length) Slot.unset).toArray = ls at hl ⊢
  have hl : lv_has ls 4 [(0, .long p1), (2, .long p2)] := hl
  have E0 : ∀ (H : Heap) (locs : List Loc), va_P G vwCl [] H → va_D A [] → va_S A s.heap H locs → ∀ (ls : Array Slot), lv_has ls 4 [(0, .long p1), (2, .long p2)] → W p l e (headSpec wsX7_plus (rmk 0 0)).room s m [.long p1, .long p2].toArray below meth c H locs 0 0 (MQ below (va_Ql (fun (r : Int64) (_ : Unit) => r = rv) (Pst G (tys Y) [] s.heap.size []) A) [.long p1, .long p2].toArray s 0 0 A) (F0 m 0 ls []) := by
    intro H locs hP hD hS ls hl
    unfold f_X7_plus at hf
    refine lv_lload_n hx hb dX7_plus_0 rfl (lv_at hl 0 rfl) ?_
    refine lv_lconst (v := 0) hx hb dX7_plus_1 (by decide) ?_
    refine W.lcmp hx hb dX7_plus_2 ?_
    refine lv_if_lt (tgt := 22) hx hb dX7_plus_3 (by decide) (fun c1 => ?_) (fun c1 => ?_)
    · have hf := it hf c1
      refine lv_ldc2 hx hb hown wd2 dX7_plus_22 ?_
      refine lv_goto (tgt := 31) hx hb dX7_plus_25 (by decide) ?_
      have e0 := rt1 hf
      exact W.lret (v := (-1 : Int64)) hx hb hr (fun t ht hW => ⟨⟨(-1 : Int64), (), rfl, e0, by rw [ht]; exact hP, va_K.moved hW.alike hK, by rw [hAe]; exact hD⟩, hS.F ht⟩) hS.2.2 dX7_plus_31
    · have hf := ie hf c1
      refine lv_lload_n hx hb dX7_plus_6 rfl (lv_at hl 1 rfl) ?_
      refine lv_lconst (v := 0) hx hb dX7_plus_7 (by decide) ?_
      refine W.lcmp hx hb dX7_plus_8 ?_
      refine lv_if_lt (tgt := 22) hx hb dX7_plus_9 (by decide) (fun c2 => ?_) (fun c2 => ?_)
      · have hf := it hf c2
        refine lv_ldc2 hx hb hown wd2 dX7_plus_22 ?_
        refine lv_goto (tgt := 31) hx hb dX7_plus_25 (by decide) ?_
        have e0 := rt1 hf
        exact W.lret (v := (-1 : Int64)) hx hb hr (fun t ht hW => ⟨⟨(-1 : Int64), (), rfl, e0, by rw [ht]; exact hP, va_K.moved hW.alike hK, by rw [hAe]; exact hD⟩, hS.F ht⟩) hS.2.2 dX7_plus_31
      · have hf := ie hf c2
        refine lv_lload_n hx hb dX7_plus_12 rfl (lv_at hl 0 rfl) ?_
        refine lv_ldc2 hx hb hown wd1 dX7_plus_13 ?_
        refine lv_lload_n hx hb dX7_plus_16 rfl (lv_at hl 1 rfl) ?_
        refine lv_lsub hx hb dX7_plus_17 ?_
        refine W.lcmp hx hb dX7_plus_18 ?_
        refine lv_if_le (tgt := 28) hx hb dX7_plus_19 (by decide) (fun c3 => ?_) (fun c3 => ?_)
        · have hf := it hf c3
          refine lv_lload_n hx hb dX7_plus_28 rfl (lv_at hl 0 rfl) ?_
          refine lv_lload_n hx hb dX7_plus_29 rfl (lv_at hl 1 rfl) ?_
          refine lv_ladd hx hb dX7_plus_30 ?_
          have e0 := rt1 hf
          exact W.lret (v := (p1 + p2)) hx hb hr (fun t ht hW => ⟨⟨(p1 + p2), (), rfl, e0, by rw [ht]; exact hP, va_K.moved hW.alike hK, by rw [hAe]; exact hD⟩, hS.F ht⟩) hS.2.2 dX7_plus_31
        · have hf := ie hf c3
          refine lv_ldc2 hx hb hown wd2 dX7_plus_22 ?_
          refine lv_goto (tgt := 31) hx hb dX7_plus_25 (by decide) ?_
          have e0 := rt1 hf
          exact W.lret (v := (-1 : Int64)) hx hb hr (fun t ht hW => ⟨⟨(-1 : Int64), (), rfl, e0, by rw [ht]; exact hP, va_K.moved hW.alike hK, by rw [hAe]; exact hD⟩, hS.F ht⟩) hS.2.2 dX7_plus_31
  exact E0 s.heap [] hP hD hS ls hl
-- X7_canMultiply
set_option maxRecDepth 100000 in
set_option maxHeartbeats 4000000 in
theorem c_X7_canMultiply (l : Launch) (G : va_G) (Y : Nat → ClassId) (sz : Nat) (p1 : Int64) (p2 : Int64) (rv : Int32) (hf : f_X7_canMultiply p1 p2 = some (rv)) : Met l yX7_canMultiply wsX7_canMultiply (rmk 0 0) (va_Pc [.long p1, .long p2] (Pre G (tys Y) [] sz xT)) (va_Qi (fun (r : Int32) (_ : Unit) => r = rv) (Pst G (tys Y) [] sz []) (va_A [] sz)) 0 0 (va_A [] sz) := by
  refine Met.ofW (cc := cX7_canMultiply) (maxL := 4) (ret := (some .boolean)) (by decide) rfl ?_
  intro p e s m args below meth c s₁ B hml hv
  obtain ⟨rfl, hsz, hP, hK, hD0, hX⟩ := hv
  have hx := B.exec
  have hb := B.bytes
  have hr := B.returns
  have hts := atoms_spec (ws := wsX7_canMultiply) B.pre
  have hown : s.vm.findClass RX7 = some m.cls := findClass_of_methodNamed B.named
  have hlocks := B.notSynchronized
  subst hsz
  have hD := hD0.self (sz := s.heap.size)
  generalize hAe : va_A [] s.heap.size = A at hD ⊢
  have hA : ∀ q : Nat, s.heap.size ≤ q → A q := fun q h => by rw [← hAe]; exact Or.inr h
  have hS : va_S A s.heap s.heap [] := va_S.rf
  have hP : va_P G vwCl [] s.heap := hP
  have wd1 : (Cond.constantLong RX7 11 (-1)).before [.long p1, .long p2].toArray s = true := hts _ (List.mem_of_getElem? (i := 1) rfl)
  have wd2 : (Cond.constantLong RX7 13 (-9223372036854775808)).before [.long p1, .long p2].toArray s = true := hts _ (List.mem_of_getElem? (i := 2) rfl)
  have hl := lv_entry ([.long p1, .long p2]) (n := 4) (Nat.le_of_ble_eq_true rfl)
  rw [lg_entry_eq]
  generalize (lg_sl ([.long p1, .long p2]) ++ List.replicate (4 - (lg_sl ([.long p1, .long p2])).length) Slot.unset).toArray = ls at hl ⊢
  have hl : lv_has ls 4 [(0, .long p1), (2, .long p2)] := hl
  have E0 : ∀ (H : Heap) (locs : List Loc), va_P G vwCl [] H → va_D A [] → va_S A s.heap H locs → ∀ (ls : Array Slot), lv_has ls 4 [(0, .long p1), (2, .long p2)] → W p l e (headSpec wsX7_canMultiply (rmk 0 0)).room s m [.long p1, .long p2].toArray below meth c H locs 0 0 (MQ below (va_Qi (fun (r : Int32) (_ : Unit) => r = rv) (Pst G (tys Y) [] s.heap.size []) A) [.long p1, .long p2].toArray s 0 0 A) (F0 m 0 ls []) := by
    intro H locs hP hD hS ls hl
    unfold f_X7_canMultiply at hf
    refine lv_lload_n hx hb dX7_canMultiply_0 rfl (lv_at hl 1 rfl) ?_
    refine lv_lconst (v := 0) hx hb dX7_canMultiply_1 (by decide) ?_
    refine W.lcmp hx hb dX7_canMultiply_2 ?_
    refine lv_if_ne (tgt := 8) hx hb dX7_canMultiply_3 (by decide) (fun c1 => ?_) (fun c1 => ?_)
    · have hf := ie hf c1
      refine lv_lload_n hx hb dX7_canMultiply_8 rfl (lv_at hl 1 rfl) ?_
      refine lv_ldc2 hx hb hown wd1 dX7_canMultiply_9 ?_
      refine W.lcmp hx hb dX7_canMultiply_12 ?_
      refine lv_if_ne (tgt := 30) hx hb dX7_canMultiply_13 (by decide) (fun c2 => ?_) (fun c2 => ?_)
      · have hf := ie hf c2
        refine lv_lload_n hx hb dX7_canMultiply_30 rfl (lv_at hl 0 rfl) ?_
        refine lv_lload_n hx hb dX7_canMultiply_31 rfl (lv_at hl 1 rfl) ?_
        refine lv_lmul hx hb dX7_canMultiply_32 ?_
        refine lv_lload_n hx hb dX7_canMultiply_33 rfl (lv_at hl 1 rfl) ?_
        obtain ⟨g3, hf⟩ := gd hf
        refine lv_ldiv hx hb dX7_canMultiply_34 g3 ?_
        refine lv_lload_n hx hb dX7_canMultiply_35 rfl (lv_at hl 0 rfl) ?_
        refine W.lcmp hx hb dX7_canMultiply_36 ?_
        refine lv_if_ne (tgt := 44) hx hb dX7_canMultiply_37 (by decide) (fun c4 => ?_) (fun c4 => ?_)
        · have hf := ie hf c4
          refine lv_iconst (v := 0) hx hb dX7_canMultiply_44 (by decide) ?_
          have e0 := rt1 hf
          exact W.zret (v := (0 : Int32)) hx hb hr rfl (fun t ht hW => ⟨⟨(0 : Int32), (), rfl, e0, by rw [ht]; exact hP, va_K.moved hW.alike hK, by rw [hAe]; exact hD⟩, hS.F ht⟩) hS.2.2 dX7_canMultiply_45
        · have hf := it hf c4
          refine lv_iconst (v := 1) hx hb dX7_canMultiply_40 (by decide) ?_
          refine lv_goto (tgt := 45) hx hb dX7_canMultiply_41 (by decide) ?_
          have e0 := rt1 hf
          exact W.zret (v := (1 : Int32)) hx hb hr rfl (fun t ht hW => ⟨⟨(1 : Int32), (), rfl, e0, by rw [ht]; exact hP, va_K.moved hW.alike hK, by rw [hAe]; exact hD⟩, hS.F ht⟩) hS.2.2 dX7_canMultiply_45
      · have hf := it hf c2
        refine lv_lload_n hx hb dX7_canMultiply_16 rfl (lv_at hl 0 rfl) ?_
        refine lv_ldc2 hx hb hown wd2 dX7_canMultiply_17 ?_
        refine W.lcmp hx hb dX7_canMultiply_20 ?_
        refine lv_if_eq (tgt := 28) hx hb dX7_canMultiply_21 (by decide) (fun c5 => ?_) (fun c5 => ?_)
        · have hf := it hf c5
          refine lv_iconst (v := 0) hx hb dX7_canMultiply_28 (by decide) ?_
          have e0 := rt1 hf
          exact W.zret (v := (0 : Int32)) hx hb hr rfl (fun t ht hW => ⟨⟨(0 : Int32), (), rfl, e0, by rw [ht]; exact hP, va_K.moved hW.alike hK, by rw [hAe]; exact hD⟩, hS.F ht⟩) hS.2.2 dX7_canMultiply_29
        · have hf := ie hf c5
          refine lv_iconst (v := 1) hx hb dX7_canMultiply_24 (by decide) ?_
          refine lv_goto (tgt := 29) hx hb dX7_canMultiply_25 (by decide) ?_
          have e0 := rt1 hf
          exact W.zret (v := (1 : Int32)) hx hb hr rfl (fun t ht hW => ⟨⟨(1 : Int32), (), rfl, e0, by rw [ht]; exact hP, va_K.moved hW.alike hK, by rw [hAe]; exact hD⟩, hS.F ht⟩) hS.2.2 dX7_canMultiply_29
    · have hf := it hf c1
      refine lv_iconst (v := 1) hx hb dX7_canMultiply_6 (by decide) ?_
      have e0 := rt1 hf
      exact W.zret (v := (1 : Int32)) hx hb hr rfl (fun t ht hW => ⟨⟨(1 : Int32), (), rfl, e0, by rw [ht]; exact hP, va_K.moved hW.alike hK, by rw [hAe]; exact hD⟩, hS.F ht⟩) hS.2.2 dX7_canMultiply_7
  exact E0 s.heap [] hP hD hS ls hl
-- X7_canAdd
set_option maxRecDepth 100000 in
set_option maxHeartbeats 4000000 in
theorem c_X7_canAdd (l : Launch) (G : va_G) (Y : Nat → ClassId) (sz : Nat) (p1 : Int64) (p2 : Int64) (rv : Int32) (hf : f_X7_canAdd p1 p2 = some (rv)) : Met l yX7_canAdd wsX7_canAdd (rmk 0 0) (va_Pc [.long p1, .long p2] (Pre G (tys Y) [] sz xT)) (va_Qi (fun (r : Int32) (_ : Unit) => r = rv) (Pst G (tys Y) [] sz []) (va_A [] sz)) 0 0 (va_A [] sz) := by
  refine Met.ofW (cc := cX7_canAdd) (maxL := 6) (ret := (some .boolean)) (by decide) rfl ?_
  intro p e s m args below meth c s₁ B hml hv
  obtain ⟨rfl, hsz, hP, hK, hD0, hX⟩ := hv
  have hx := B.exec
  have hb := B.bytes
  have hr := B.returns
  have hts := atoms_spec (ws := wsX7_canAdd) B.pre
  have hown : s.vm.findClass RX7 = some m.cls := findClass_of_methodNamed B.named
  have hlocks := B.notSynchronized
  subst hsz
  have hD := hD0.self (sz := s.heap.size)
  generalize hAe : va_A [] s.heap.size = A at hD ⊢
  have hA : ∀ q : Nat, s.heap.size ≤ q → A q := fun q h => by rw [← hAe]; exact Or.inr h
  have hS : va_S A s.heap s.heap [] := va_S.rf
  have hP : va_P G vwCl [] s.heap := hP
  have hl := lv_entry ([.long p1, .long p2]) (n := 6) (Nat.le_of_ble_eq_true rfl)
  rw [lg_entry_eq]
  generalize (lg_sl ([.long p1, .long p2]) ++ List.replicate (6 - (lg_sl ([.long p1, .long p2])).length) Slot.unset).toArray = ls at hl ⊢
  have hl : lv_has ls 6 [(0, .long p1), (2, .long p2)] := hl
  have E0 : ∀ (H : Heap) (locs : List Loc), va_P G vwCl [] H → va_D A [] → va_S A s.heap H locs → ∀ (ls : Array Slot), lv_has ls 6 [(0, .long p1), (2, .long p2)] → W p l e (headSpec wsX7_canAdd (rmk 0 0)).room s m [.long p1, .long p2].toArray below meth c H locs 0 0 (MQ below (va_Qi (fun (r : Int32) (_ : Unit) => r = rv) (Pst G (tys Y) [] s.heap.size []) A) [.long p1, .long p2].toArray s 0 0 A) (F0 m 0 ls []) := by
    intro H locs hP hD hS ls hl
    unfold f_X7_canAdd at hf
    refine lv_lload_n hx hb dX7_canAdd_0 rfl (lv_at hl 0 rfl) ?_
    refine lv_lload_n hx hb dX7_canAdd_1 rfl (lv_at hl 1 rfl) ?_
    refine lv_ladd hx hb dX7_canAdd_2 ?_
    refine lv_topl (fun v1 e_v1 => ?_)
    have hf := nm_at hf e_v1
    refine lv_lstore (lv' := [(4, .long v1), (0, .long p1), (2, .long p2)]) hx hb dX7_canAdd_3 hl (by decide) rfl (fun ls hl => ?_)
    refine lv_lload_n hx hb dX7_canAdd_5 rfl (lv_at hl 1 rfl) ?_
    refine lv_lload hx hb dX7_canAdd_6 (lv_at hl 0 rfl) ?_
    refine lv_lxor hx hb dX7_canAdd_8 ?_
    refine lv_lload_n hx hb dX7_canAdd_9 rfl (lv_at hl 2 rfl) ?_
    refine lv_lload hx hb dX7_canAdd_10 (lv_at hl 0 rfl) ?_
    refine lv_lxor hx hb dX7_canAdd_12 ?_
    refine lv_land hx hb dX7_canAdd_13 ?_
    refine lv_lconst (v := 0) hx hb dX7_canAdd_14 (by decide) ?_
    refine W.lcmp hx hb dX7_canAdd_15 ?_
    refine lv_if_lt (tgt := 23) hx hb dX7_canAdd_16 (by decide) (fun c2 => ?_) (fun c2 => ?_)
    · have hf := it hf c2
      refine lv_iconst (v := 0) hx hb dX7_canAdd_23 (by decide) ?_
      have e0 := rt1 hf
      exact W.zret (v := (0 : Int32)) hx hb hr rfl (fun t ht hW => ⟨⟨(0 : Int32), (), rfl, e0, by rw [ht]; exact hP, va_K.moved hW.alike hK, by rw [hAe]; exact hD⟩, hS.F ht⟩) hS.2.2 dX7_canAdd_24
    · have hf := ie hf c2
      refine lv_iconst (v := 1) hx hb dX7_canAdd_19 (by decide) ?_
      refine lv_goto (tgt := 24) hx hb dX7_canAdd_20 (by decide) ?_
      have e0 := rt1 hf
      exact W.zret (v := (1 : Int32)) hx hb hr rfl (fun t ht hW => ⟨⟨(1 : Int32), (), rfl, e0, by rw [ht]; exact hP, va_K.moved hW.alike hK, by rw [hAe]; exact hD⟩, hS.F ht⟩) hS.2.2 dX7_canAdd_24
  exact E0 s.heap [] hP hD hS ls hl
-- X7_commonOf
set_option maxRecDepth 100000 in
set_option maxHeartbeats 4000000 in
theorem c_X7_commonOf (l : Launch) (G : va_G) (Y : Nat → ClassId) (sz : Nat) (p1 : Int64) (p2 : Int64) (rv : Int64) (hf : f_X7_commonOf p1 p2 = some (rv)) : Met l yX7_commonOf wsX7_commonOf (rmk 0 0) (va_Pc [.long p1, .long p2] (Pre G (tys Y) [] sz xT)) (va_Ql (fun (r : Int64) (_ : Unit) => r = rv) (Pst G (tys Y) [] sz []) (va_A [] sz)) 0 0 (va_A [] sz) := by
  refine Met.ofW (cc := cX7_commonOf) (maxL := 11) (ret := (some .long)) (by decide) rfl ?_
  intro p e s m args below meth c s₁ B hml hv
  obtain ⟨rfl, hsz, hP, hK, hD0, hX⟩ := hv
  have hx := B.exec
  have hb := B.bytes
  have hr := B.returns
  have hts := atoms_spec (ws := wsX7_commonOf) B.pre
  have hown : s.vm.findClass RX7 = some m.cls := findClass_of_methodNamed B.named
  have hlocks := B.notSynchronized
  subst hsz
  have hD := hD0.self (sz := s.heap.size)
  generalize hAe : va_A [] s.heap.size = A at hD ⊢
  have hA : ∀ q : Nat, s.heap.size ≤ q → A q := fun q h => by rw [← hAe]; exact Or.inr h
  have hS : va_S A s.heap s.heap [] := va_S.rf
  have hP : va_P G vwCl [] s.heap := hP
  have hl := lv_entry ([.long p1, .long p2]) (n := 11) (Nat.le_of_ble_eq_true rfl)
  rw [lg_entry_eq]
  generalize (lg_sl ([.long p1, .long p2]) ++ List.replicate (11 - (lg_sl ([.long p1, .long p2])).length) Slot.unset).toArray = ls at hl ⊢
  have hl : lv_has ls 11 [(0, .long p1), (2, .long p2)] := hl
  have B45 : ∀ (x4 : Int64), f_X7_commonOf_b45 p1 p2 x4 = some (rv) → ∀ (H : Heap) (locs : List Loc), va_P G vwCl [] H → va_D A [] → va_S A s.heap H locs → ∀ (ls : Array Slot), lv_has ls 11 [(4, .long x4)] → W p l e (headSpec wsX7_commonOf (rmk 0 0)).room s m [.long p1, .long p2].toArray below meth c H locs 0 0 (MQ below (va_Ql (fun (r : Int64) (_ : Unit) => r = rv) (Pst G (tys Y) [] s.heap.size []) A) [.long p1, .long p2].toArray s 0 0 A) (F0 m 45 ls []) := by
    intro x4 hf H locs hP hD hS ls hl
    unfold f_X7_commonOf_b45 at hf
    refine lv_lload hx hb dX7_commonOf_45 (lv_at hl 0 rfl) ?_
    refine lv_lconst (v := 0) hx hb dX7_commonOf_47 (by decide) ?_
    refine W.lcmp hx hb dX7_commonOf_48 ?_
    refine lv_if_le (tgt := 57) hx hb dX7_commonOf_49 (by decide) (fun c1 => ?_) (fun c1 => ?_)
    · have hf := it hf c1
      refine lv_lconst (v := 1) hx hb dX7_commonOf_57 (by decide) ?_
      have e0 := rt1 hf
      exact W.lret (v := (1 : Int64)) hx hb hr (fun t ht hW => ⟨⟨(1 : Int64), (), rfl, e0, by rw [ht]; exact hP, va_K.moved hW.alike hK, by rw [hAe]; exact hD⟩, hS.F ht⟩) hS.2.2 dX7_commonOf_58
    · have hf := ie hf c1
      refine lv_lload hx hb dX7_commonOf_52 (lv_at hl 0 rfl) ?_
      refine lv_goto (tgt := 58) hx hb dX7_commonOf_54 (by decide) ?_
      have e0 := rt1 hf
      exact W.lret (v := x4) hx hb hr (fun t ht hW => ⟨⟨x4, (), rfl, e0, by rw [ht]; exact hP, va_K.moved hW.alike hK, by rw [hAe]; exact hD⟩, hS.F ht⟩) hS.2.2 dX7_commonOf_58
  have B9 : ∀ (n9 : Nat), ∀ (x4 : Int64) (x6 : Int64) (x8 : Int32), f_X7_commonOf_b9 p1 p2 n9 x4 x6 x8 = some (rv) → ∀ (H : Heap) (locs : List Loc), va_P G vwCl [] H → va_D A [] → va_S A s.heap H locs → ∀ (ls : Array Slot), lv_has ls 11 [(4, .long x4), (6, .long x6), (8, .int x8)] → W p l e (headSpec wsX7_commonOf (rmk 0 0)).room s m [.long p1, .long p2].toArray below meth c H locs 0 0 (MQ below (va_Ql (fun (r : Int64) (_ : Unit) => r = rv) (Pst G (tys Y) [] s.heap.size []) A) [.long p1, .long p2].toArray s 0 0 A) (F0 m 9 ls []) := by
    intro n9
    induction n9 with
    | zero =>
      intro x4 x6 x8 hf H locs hP hD hS ls hl
      exact no_none hf
    | succ n9 ih9 =>
      intro x4 x6 x8 hf H locs hP hD hS ls hl
      have hf : f_X7_commonOf_s9 p1 p2 (f_X7_commonOf_b9 p1 p2  n9) x4 x6 x8 = some (rv) := hf
      unfold f_X7_commonOf_s9 at hf
      refine lv_iload hx hb dX7_commonOf_9 (lv_at hl 2 rfl) ?_
      refine lv_sipush (v := 200) hx hb dX7_commonOf_11 (by decide) ?_
      refine lv_icmp_ge (tgt := 45) hx hb dX7_commonOf_14 (by decide) (fun c2 => ?_) (fun c2 => ?_)
      · have hf := it hf c2
        exact B45 x4 hf _ _ hP hD hS ls (lv_sub hl [0] rfl)
      · have hf := ie hf c2
        refine lv_lload hx hb dX7_commonOf_17 (lv_at hl 1 rfl) ?_
        refine lv_lconst (v := 0) hx hb dX7_commonOf_19 (by decide) ?_
        refine W.lcmp hx hb dX7_commonOf_20 ?_
        refine lv_if_eq (tgt := 45) hx hb dX7_commonOf_21 (by decide) (fun c3 => ?_) (fun c3 => ?_)
        · have hf := it hf c3
          exact B45 x4 hf _ _ hP hD hS ls (lv_sub hl [0] rfl)
        · have hf := ie hf c3
          refine lv_lload hx hb dX7_commonOf_24 (lv_at hl 0 rfl) ?_
          refine lv_lload hx hb dX7_commonOf_26 (lv_at hl 1 rfl) ?_
          obtain ⟨g4, hf⟩ := gd hf
          refine lv_lrem hx hb dX7_commonOf_28 g4 ?_
          refine lv_topl (fun v5 e_v5 => ?_)
          have hf := nm_at hf e_v5
          refine lv_lstore (lv' := [(9, .long v5), (4, .long x4), (6, .long x6), (8, .int x8)]) hx hb dX7_commonOf_29 hl (by decide) rfl (fun ls hl => ?_)
          refine lv_lload hx hb dX7_commonOf_31 (lv_at hl 2 rfl) ?_
          refine lv_lstore (lv' := [(4, .long x6), (9, .long v5), (6, .long x6), (8, .int x8)]) hx hb dX7_commonOf_33 hl (by decide) rfl (fun ls hl => ?_)
          refine lv_lload hx hb dX7_commonOf_35 (lv_at hl 1 rfl) ?_
          refine lv_lstore (lv' := [(6, .long v5), (4, .long x6), (9, .long v5), (8, .int x8)]) hx hb dX7_commonOf_37 hl (by decide) rfl (fun ls hl => ?_)
          obtain ⟨v6, e_v6⟩ : ∃ z : Int32, z = (x8 + 1) := ⟨_, rfl⟩
          have hf := nm_at hf e_v6
          refine lv_iinc (v := v6) (lv' := [(8, .int v6), (6, .long v5), (4, .long x6), (9, .long v5)]) hx hb dX7_commonOf_39 hl (k := 3) rfl (by rw [e_v6]; rfl) (by decide) rfl (fun ls hl => ?_)
          refine lv_goto (tgt := 9) hx hb dX7_commonOf_42 (by decide) ?_
          exact ih9 x6 v5 v6 hf _ _ hP hD hS ls (lv_sub hl [2, 1, 0] rfl)
  have E0 : ∀ (H : Heap) (locs : List Loc), va_P G vwCl [] H → va_D A [] → va_S A s.heap H locs → ∀ (ls : Array Slot), lv_has ls 11 [(0, .long p1), (2, .long p2)] → W p l e (headSpec wsX7_commonOf (rmk 0 0)).room s m [.long p1, .long p2].toArray below meth c H locs 0 0 (MQ below (va_Ql (fun (r : Int64) (_ : Unit) => r = rv) (Pst G (tys Y) [] s.heap.size []) A) [.long p1, .long p2].toArray s 0 0 A) (F0 m 0 ls []) := by
    intro H locs hP hD hS ls hl
    unfold f_X7_commonOf at hf
    refine lv_lload_n hx hb dX7_commonOf_0 rfl (lv_at hl 0 rfl) ?_
    refine lv_lstore (lv' := [(4, .long p1), (0, .long p1), (2, .long p2)]) hx hb dX7_commonOf_1 hl (by decide) rfl (fun ls hl => ?_)
    refine lv_lload_n hx hb dX7_commonOf_3 rfl (lv_at hl 2 rfl) ?_
    refine lv_lstore (lv' := [(6, .long p2), (4, .long p1), (0, .long p1), (2, .long p2)]) hx hb dX7_commonOf_4 hl (by decide) rfl (fun ls hl => ?_)
    refine lv_iconst (v := 0) hx hb dX7_commonOf_6 (by decide) ?_
    refine lv_istore (lv' := [(8, .int (0 : Int32)), (6, .long p2), (4, .long p1), (0, .long p1), (2, .long p2)]) hx hb dX7_commonOf_7 hl (by decide) rfl (fun ls hl => ?_)
    exact B9 210 p1 p2 (0 : Int32) hf _ _ hP hD hS ls (lv_sub hl [2, 1, 0] rfl)
  exact E0 s.heap [] hP hD hS ls hl
