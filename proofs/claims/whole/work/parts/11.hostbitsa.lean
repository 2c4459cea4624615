-- X0_packed
set_option maxRecDepth 100000 in
set_option maxHeartbeats 4000000 in
theorem c_X0_packed (l : Launch) (G : va_G) (Y : Nat → ClassId) (sz : Nat) (p1 : UInt64) (p2 : Int32) (p3 : Int32) (rv : Int64) (hf : f_X0_packed p1 p2 p3 = some (rv)) : Met l yX0_packed wsX0_packed (rmk 0 0) (va_Pc [.double p1, .int p2, .int p3] (Pre G (tys Y) [] sz xT)) (va_Ql (fun (r : Int64) (_ : Unit) => r = rv) (Pst G (tys Y) [] sz []) (va_A [] sz)) 0 0 (va_A [] sz) := by
  refine Met.ofW (cc := cX0_packed) (maxL := 11) (ret := (some .long)) (by decide) rfl ?_
  intro p e s m args below meth c s₁ B hml hv
  obtain ⟨rfl, hsz, hP, hK, hD0, hX⟩ := hv
  have hx := B.exec
  have hb := B.bytes
  have hr := B.returns
  have hts := atoms_spec (ws := wsX0_packed) B.pre
  have hown : s.vm.findClass RX0 = some m.cls := findClass_of_methodNamed B.named
  have hlocks := B.notSynchronized
  subst hsz
  have hD := hD0.self (sz := s.heap.size)
  generalize hAe : va_A [] s.heap.size = A at hD ⊢
  have hA : ∀ q : Nat, s.heap.size ≤ q → A q := fun q h => by rw [← hAe]; exact Or.inr h
  have hS : va_S A s.heap s.heap [] := va_S.rf
  have hP : va_P G vwCl [] s.heap := hP
  have wd1 : (Cond.constantDouble RX0 18 (4895412794951729152)).before [.double p1, .int p2, .int p3].toArray s = true := hts _ (List.mem_of_getElem? (i := 1) rfl)
  have wd2 : (Cond.constantDouble RX0 20 (4611686018427387904)).before [.double p1, .int p2, .int p3].toArray s = true := hts _ (List.mem_of_getElem? (i := 2) rfl)
  have wd3 : (Cond.constantDouble RX0 22 (4841369599423283200)).before [.double p1, .int p2, .int p3].toArray s = true := hts _ (List.mem_of_getElem? (i := 3) rfl)
  have hl := lv_entry ([.double p1, .int p2, .int p3]) (n := 11) (Nat.le_of_ble_eq_true rfl)
  rw [lg_entry_eq]
  generalize (lg_sl ([.double p1, .int p2, .int p3]) ++ List.replicate (11 - (lg_sl ([.double p1, .int p2, .int p3])).length) Slot.unset).toArray = ls at hl ⊢
  have hl : lv_has ls 11 [(0, .double p1), (2, .int p2), (3, .int p3)] := hl
  have B122 : ∀ (x4 : UInt64) (x6 : Int32), f_X0_packed_b122 p1 p2 p3 x4 x6 = some (rv) → ∀ (H : Heap) (locs : List Loc), va_P G vwCl [] H → va_D A [] → va_S A s.heap H locs → ∀ (ls : Array Slot), lv_has ls 11 [(2, .int p2), (3, .int p3), (4, .double x4), (6, .int x6)] → W p l e (headSpec wsX0_packed (rmk 0 0)).room s m [.double p1, .int p2, .int p3].toArray below meth c H locs 0 0 (MQ below (va_Ql (fun (r : Int64) (_ : Unit) => r = rv) (Pst G (tys Y) [] s.heap.size []) A) [.double p1, .int p2, .int p3].toArray s 0 0 A) (F0 m 122 ls []) := by
    intro x4 x6 hf H locs hP hD hS ls hl
    unfold f_X0_packed_b122 at hf
    refine lv_dload hx hb dX0_packed_122 (lv_at hl 2 rfl) ?_
    refine lv_ldc2d hx hb hown wd3 dX0_packed_124 ?_
    obtain ⟨g1, hf⟩ := gp hf
    refine lv_dmul hx hb dX0_packed_127 g1 ?_
    refine lv_d2l hx hb dX0_packed_128 ?_
    refine lv_bipush (v := 52) hx hb dX0_packed_129 (by decide) ?_
    refine lv_iload_n hx hb dX0_packed_131 rfl (lv_at hl 0 rfl) ?_
    refine lv_isub hx hb dX0_packed_132 ?_
    refine lv_lshr hx hb dX0_packed_133 rfl ?_
    refine lv_topl (fun v2 e_v2 => ?_)
    have hf := nm_at hf e_v2
    refine lv_lstore (lv' := [(7, .long v2), (2, .int p2), (3, .int p3), (4, .double x4), (6, .int x6)]) hx hb dX0_packed_134 hl (by decide) rfl (fun ls hl => ?_)
    refine lv_iload hx hb dX0_packed_136 (lv_at hl 4 rfl) ?_
    refine lv_iload_n hx hb dX0_packed_138 rfl (lv_at hl 2 rfl) ?_
    refine lv_icmp_ge (tgt := 150) hx hb dX0_packed_139 (by decide) (fun c3 => ?_) (fun c3 => ?_)
    · have hf := it hf c3
      refine lv_lconst (v := 1) hx hb dX0_packed_150 (by decide) ?_
      refine lv_iload_n hx hb dX0_packed_151 rfl (lv_at hl 1 rfl) ?_
      refine lv_lshl hx hb dX0_packed_152 rfl ?_
      refine lv_topl (fun v4 e_v4 => ?_)
      have hf := nm_at hf e_v4
      refine lv_lstore (lv' := [(9, .long v4), (7, .long v2), (2, .int p2), (3, .int p3), (4, .double x4), (6, .int x6)]) hx hb dX0_packed_153 hl (by decide) rfl (fun ls hl => ?_)
      refine lv_iload hx hb dX0_packed_155 (lv_at hl 5 rfl) ?_
      refine lv_iload_n hx hb dX0_packed_157 rfl (lv_at hl 3 rfl) ?_
      refine lv_isub hx hb dX0_packed_158 ?_
      refine lv_iconst (v := 1) hx hb dX0_packed_159 (by decide) ?_
      refine lv_iadd hx hb dX0_packed_160 ?_
      refine lv_i2l hx hb dX0_packed_161 rfl ?_
      refine lv_lload hx hb dX0_packed_162 (lv_at hl 0 rfl) ?_
      refine lv_lmul hx hb dX0_packed_164 ?_
      refine lv_lload hx hb dX0_packed_165 (lv_at hl 1 rfl) ?_
      refine lv_lload hx hb dX0_packed_167 (lv_at hl 0 rfl) ?_
      refine lv_lconst (v := 1) hx hb dX0_packed_169 (by decide) ?_
      refine lv_lsub hx hb dX0_packed_170 ?_
      refine lv_land hx hb dX0_packed_171 ?_
      refine lv_lor hx hb dX0_packed_172 ?_
      have e0 := rt1 hf
      exact W.lret (v := ((((x6 - p3) + (1 : Int32)).toInt64 * v4) ||| (v2 &&& (v4 - (1 : Int64))))) hx hb hr (fun t ht hW => ⟨⟨((((x6 - p3) + (1 : Int32)).toInt64 * v4) ||| (v2 &&& (v4 - (1 : Int64)))), (), rfl, e0, by rw [ht]; exact hP, va_K.moved hW.alike hK, by rw [hAe]; exact hD⟩, hS.F ht⟩) hS.2.2 dX0_packed_173
    · have hf := ie hf c3
      refine lv_lload hx hb dX0_packed_142 (lv_at hl 0 rfl) ?_
      refine lv_iload_n hx hb dX0_packed_144 rfl (lv_at hl 2 rfl) ?_
      refine lv_iload hx hb dX0_packed_145 (lv_at hl 4 rfl) ?_
      refine lv_isub hx hb dX0_packed_147 ?_
      refine lv_lshr hx hb dX0_packed_148 rfl ?_
      have e0 := rt1 hf
      exact W.lret (v := (v2 >>> ((p3 - x6).toInt64 &&& 63))) hx hb hr (fun t ht hW => ⟨⟨(v2 >>> ((p3 - x6).toInt64 &&& 63)), (), rfl, e0, by rw [ht]; exact hP, va_K.moved hW.alike hK, by rw [hAe]; exact hD⟩, hS.F ht⟩) hS.2.2 dX0_packed_149
  have B91 : ∀ (n91 : Nat), ∀ (x4 : UInt64) (x6 : Int32) (x7 : Int32), f_X0_packed_b91 p1 p2 p3 n91 x4 x6 x7 = some (rv) → ∀ (H : Heap) (locs : List Loc), va_P G vwCl [] H → va_D A [] → va_S A s.heap H locs → ∀ (ls : Array Slot), lv_has ls 11 [(2, .int p2), (3, .int p3), (4, .double x4), (6, .int x6), (7, .int x7)] → W p l e (headSpec wsX0_packed (rmk 0 0)).room s m [.double p1, .int p2, .int p3].toArray below meth c H locs 0 0 (MQ below (va_Ql (fun (r : Int64) (_ : Unit) => r = rv) (Pst G (tys Y) [] s.heap.size []) A) [.double p1, .int p2, .int p3].toArray s 0 0 A) (F0 m 91 ls []) := by
    intro n91
    induction n91 with
    | zero =>
      intro x4 x6 x7 hf H locs hP hD hS ls hl
      exact no_none hf
    | succ n91 ih91 =>
      intro x4 x6 x7 hf H locs hP hD hS ls hl
      have hf : f_X0_packed_s91 p1 p2 p3 (f_X0_packed_b91 p1 p2 p3  n91) x4 x6 x7 = some (rv) := hf
      unfold f_X0_packed_s91 at hf
      refine lv_iload hx hb dX0_packed_91 (lv_at hl 4 rfl) ?_
      refine lv_bipush (v := 64) hx hb dX0_packed_93 (by decide) ?_
      refine lv_icmp_ge (tgt := 122) hx hb dX0_packed_95 (by decide) (fun c5 => ?_) (fun c5 => ?_)
      · have hf := it hf c5
        exact B122 x4 x6 hf _ _ hP hD hS ls (lv_sub hl [0, 1, 2, 3] rfl)
      · have hf := ie hf c5
        refine lv_dload hx hb dX0_packed_98 (lv_at hl 2 rfl) ?_
        refine lv_dconst1 hx hb dX0_packed_100 ?_
        refine lv_dcmp hx hb dX0_packed_101 ?_
        refine lv_if_ge (tgt := 122) hx hb dX0_packed_102 (by decide) (fun c6 => ?_) (fun c6 => ?_)
        · have hf := it hf c6
          exact B122 x4 x6 hf _ _ hP hD hS ls (lv_sub hl [0, 1, 2, 3] rfl)
        · have hf := ie hf c6
          refine lv_dload hx hb dX0_packed_105 (lv_at hl 2 rfl) ?_
          refine lv_ldc2d hx hb hown wd2 dX0_packed_107 ?_
          obtain ⟨g7, hf⟩ := gp hf
          refine lv_dmul hx hb dX0_packed_110 g7 ?_
          refine lv_topd (fun v8 e_v8 => ?_)
          have hf := nm_at hf e_v8
          refine lv_dstore (lv' := [(4, .double v8), (2, .int p2), (3, .int p3), (6, .int x6), (7, .int x7)]) hx hb dX0_packed_111 hl (by decide) rfl (fun ls hl => ?_)
          obtain ⟨v9, e_v9⟩ : ∃ z : Int32, z = (x6 + (-1)) := ⟨_, rfl⟩
          have hf := nm_at hf e_v9
          refine lv_iinc (v := v9) (lv' := [(6, .int v9), (4, .double v8), (2, .int p2), (3, .int p3), (7, .int x7)]) hx hb dX0_packed_113 hl (k := 3) rfl (by rw [e_v9]; rfl) (by decide) rfl (fun ls hl => ?_)
          obtain ⟨v10, e_v10⟩ : ∃ z : Int32, z = (x7 + 1) := ⟨_, rfl⟩
          have hf := nm_at hf e_v10
          refine lv_iinc (v := v10) (lv' := [(7, .int v10), (6, .int v9), (4, .double v8), (2, .int p2), (3, .int p3)]) hx hb dX0_packed_116 hl (k := 4) rfl (by rw [e_v10]; rfl) (by decide) rfl (fun ls hl => ?_)
          refine lv_goto (tgt := 91) hx hb dX0_packed_119 (by decide) ?_
          exact ih91 v8 v9 v10 hf _ _ hP hD hS ls (lv_sub hl [3, 4, 2, 1, 0] rfl)
  have B55 : ∀ (n55 : Nat), ∀ (x4 : UInt64) (x6 : Int32) (x7 : Int32), f_X0_packed_b55 p1 p2 p3 n55 x4 x6 x7 = some (rv) → ∀ (H : Heap) (locs : List Loc), va_P G vwCl [] H → va_D A [] → va_S A s.heap H locs → ∀ (ls : Array Slot), lv_has ls 11 [(2, .int p2), (3, .int p3), (4, .double x4), (6, .int x6), (7, .int x7)] → W p l e (headSpec wsX0_packed (rmk 0 0)).room s m [.double p1, .int p2, .int p3].toArray below meth c H locs 0 0 (MQ below (va_Ql (fun (r : Int64) (_ : Unit) => r = rv) (Pst G (tys Y) [] s.heap.size []) A) [.double p1, .int p2, .int p3].toArray s 0 0 A) (F0 m 55 ls []) := by
    intro n55
    induction n55 with
    | zero =>
      intro x4 x6 x7 hf H locs hP hD hS ls hl
      exact no_none hf
    | succ n55 ih55 =>
      intro x4 x6 x7 hf H locs hP hD hS ls hl
      have hf : f_X0_packed_s55 p1 p2 p3 (f_X0_packed_b55 p1 p2 p3  n55) x4 x6 x7 = some (rv) := hf
      unfold f_X0_packed_s55 at hf
      refine lv_iload hx hb dX0_packed_55 (lv_at hl 4 rfl) ?_
      refine lv_bipush (v := 64) hx hb dX0_packed_57 (by decide) ?_
      refine lv_icmp_ge (tgt := 88) hx hb dX0_packed_59 (by decide) (fun c11 => ?_) (fun c11 => ?_)
      · have hf := it hf c11
        refine lv_iconst (v := 0) hx hb dX0_packed_88 (by decide) ?_
        refine lv_istore (lv' := [(7, .int (0 : Int32)), (2, .int p2), (3, .int p3), (4, .double x4), (6, .int x6)]) hx hb dX0_packed_89 hl (by decide) rfl (fun ls hl => ?_)
        exact B91 70 x4 x6 (0 : Int32) hf _ _ hP hD hS ls (lv_sub hl [1, 2, 3, 4, 0] rfl)
      · have hf := ie hf c11
        refine lv_dload hx hb dX0_packed_62 (lv_at hl 2 rfl) ?_
        refine lv_ldc2d hx hb hown wd2 dX0_packed_64 ?_
        refine lv_dcmp hx hb dX0_packed_67 ?_
        refine lv_if_lt (tgt := 88) hx hb dX0_packed_68 (by decide) (fun c12 => ?_) (fun c12 => ?_)
        · have hf := it hf c12
          refine lv_iconst (v := 0) hx hb dX0_packed_88 (by decide) ?_
          refine lv_istore (lv' := [(7, .int (0 : Int32)), (2, .int p2), (3, .int p3), (4, .double x4), (6, .int x6)]) hx hb dX0_packed_89 hl (by decide) rfl (fun ls hl => ?_)
          exact B91 70 x4 x6 (0 : Int32) hf _ _ hP hD hS ls (lv_sub hl [1, 2, 3, 4, 0] rfl)
        · have hf := ie hf c12
          refine lv_dload hx hb dX0_packed_71 (lv_at hl 2 rfl) ?_
          refine lv_ldc2d hx hb hown wd2 dX0_packed_73 ?_
          obtain ⟨g13, hf⟩ := gp hf
          refine lv_ddiv hx hb dX0_packed_76 g13 ?_
          refine lv_topd (fun v14 e_v14 => ?_)
          have hf := nm_at hf e_v14
          refine lv_dstore (lv' := [(4, .double v14), (2, .int p2), (3, .int p3), (6, .int x6), (7, .int x7)]) hx hb dX0_packed_77 hl (by decide) rfl (fun ls hl => ?_)
          obtain ⟨v15, e_v15⟩ : ∃ z : Int32, z = (x6 + 1) := ⟨_, rfl⟩
          have hf := nm_at hf e_v15
          refine lv_iinc (v := v15) (lv' := [(6, .int v15), (4, .double v14), (2, .int p2), (3, .int p3), (7, .int x7)]) hx hb dX0_packed_79 hl (k := 3) rfl (by rw [e_v15]; rfl) (by decide) rfl (fun ls hl => ?_)
          obtain ⟨v16, e_v16⟩ : ∃ z : Int32, z = (x7 + 1) := ⟨_, rfl⟩
          have hf := nm_at hf e_v16
          refine lv_iinc (v := v16) (lv' := [(7, .int v16), (6, .int v15), (4, .double v14), (2, .int p2), (3, .int p3)]) hx hb dX0_packed_82 hl (k := 4) rfl (by rw [e_v16]; rfl) (by decide) rfl (fun ls hl => ?_)
          refine lv_goto (tgt := 55) hx hb dX0_packed_85 (by decide) ?_
          exact ih55 v14 v15 v16 hf _ _ hP hD hS ls (lv_sub hl [3, 4, 2, 1, 0] rfl)
  have B17 : ∀ (n17 : Nat), ∀ (x4 : UInt64) (x6 : Int32) (x7 : Int32), f_X0_packed_b17 p1 p2 p3 n17 x4 x6 x7 = some (rv) → ∀ (H : Heap) (locs : List Loc), va_P G vwCl [] H → va_D A [] → va_S A s.heap H locs → ∀ (ls : Array Slot), lv_has ls 11 [(2, .int p2), (3, .int p3), (4, .double x4), (6, .int x6), (7, .int x7)] → W p l e (headSpec wsX0_packed (rmk 0 0)).room s m [.double p1, .int p2, .int p3].toArray below meth c H locs 0 0 (MQ below (va_Ql (fun (r : Int64) (_ : Unit) => r = rv) (Pst G (tys Y) [] s.heap.size []) A) [.double p1, .int p2, .int p3].toArray s 0 0 A) (F0 m 17 ls []) := by
    intro n17
    induction n17 with
    | zero =>
      intro x4 x6 x7 hf H locs hP hD hS ls hl
      exact no_none hf
    | succ n17 ih17 =>
      intro x4 x6 x7 hf H locs hP hD hS ls hl
      have hf : f_X0_packed_s17 p1 p2 p3 (f_X0_packed_b17 p1 p2 p3  n17) x4 x6 x7 = some (rv) := hf
      unfold f_X0_packed_s17 at hf
      refine lv_iload hx hb dX0_packed_17 (lv_at hl 4 rfl) ?_
      refine lv_bipush (v := 20) hx hb dX0_packed_19 (by decide) ?_
      refine lv_icmp_ge (tgt := 52) hx hb dX0_packed_21 (by decide) (fun c17 => ?_) (fun c17 => ?_)
      · have hf := it hf c17
        refine lv_iconst (v := 0) hx hb dX0_packed_52 (by decide) ?_
        refine lv_istore (lv' := [(7, .int (0 : Int32)), (2, .int p2), (3, .int p3), (4, .double x4), (6, .int x6)]) hx hb dX0_packed_53 hl (by decide) rfl (fun ls hl => ?_)
        exact B55 70 x4 x6 (0 : Int32) hf _ _ hP hD hS ls (lv_sub hl [1, 2, 3, 4, 0] rfl)
      · have hf := ie hf c17
        refine lv_dload hx hb dX0_packed_24 (lv_at hl 2 rfl) ?_
        refine lv_ldc2d hx hb hown wd1 dX0_packed_26 ?_
        obtain ⟨g18, hf⟩ := gp hf
        refine lv_dmul hx hb dX0_packed_29 g18 ?_
        refine lv_dconst1 hx hb dX0_packed_30 ?_
        refine lv_dcmp hx hb dX0_packed_31 ?_
        refine lv_if_ge (tgt := 52) hx hb dX0_packed_32 (by decide) (fun c19 => ?_) (fun c19 => ?_)
        · have hf := it hf c19
          refine lv_iconst (v := 0) hx hb dX0_packed_52 (by decide) ?_
          refine lv_istore (lv' := [(7, .int (0 : Int32)), (2, .int p2), (3, .int p3), (4, .double x4), (6, .int x6)]) hx hb dX0_packed_53 hl (by decide) rfl (fun ls hl => ?_)
          exact B55 70 x4 x6 (0 : Int32) hf _ _ hP hD hS ls (lv_sub hl [1, 2, 3, 4, 0] rfl)
        · have hf := ie hf c19
          refine lv_dload hx hb dX0_packed_35 (lv_at hl 2 rfl) ?_
          refine lv_ldc2d hx hb hown wd1 dX0_packed_37 ?_
          obtain ⟨g20, hf⟩ := gp hf
          refine lv_dmul hx hb dX0_packed_40 g20 ?_
          refine lv_topd (fun v21 e_v21 => ?_)
          have hf := nm_at hf e_v21
          refine lv_dstore (lv' := [(4, .double v21), (2, .int p2), (3, .int p3), (6, .int x6), (7, .int x7)]) hx hb dX0_packed_41 hl (by decide) rfl (fun ls hl => ?_)
          obtain ⟨v22, e_v22⟩ : ∃ z : Int32, z = (x6 + (-64)) := ⟨_, rfl⟩
          have hf := nm_at hf e_v22
          refine lv_iinc (v := v22) (lv' := [(6, .int v22), (4, .double v21), (2, .int p2), (3, .int p3), (7, .int x7)]) hx hb dX0_packed_43 hl (k := 3) rfl (by rw [e_v22]; rfl) (by decide) rfl (fun ls hl => ?_)
          obtain ⟨v23, e_v23⟩ : ∃ z : Int32, z = (x7 + 1) := ⟨_, rfl⟩
          have hf := nm_at hf e_v23
          refine lv_iinc (v := v23) (lv' := [(7, .int v23), (6, .int v22), (4, .double v21), (2, .int p2), (3, .int p3)]) hx hb dX0_packed_46 hl (k := 4) rfl (by rw [e_v23]; rfl) (by decide) rfl (fun ls hl => ?_)
          refine lv_goto (tgt := 17) hx hb dX0_packed_49 (by decide) ?_
          exact ih17 v21 v22 v23 hf _ _ hP hD hS ls (lv_sub hl [3, 4, 2, 1, 0] rfl)
  have E0 : ∀ (H : Heap) (locs : List Loc), va_P G vwCl [] H → va_D A [] → va_S A s.heap H locs → ∀ (ls : Array Slot), lv_has ls 11 [(0, .double p1), (2, .int p2), (3, .int p3)] → W p l e (headSpec wsX0_packed (rmk 0 0)).room s m [.double p1, .int p2, .int p3].toArray below meth c H locs 0 0 (MQ below (va_Ql (fun (r : Int64) (_ : Unit) => r = rv) (Pst G (tys Y) [] s.heap.size []) A) [.double p1, .int p2, .int p3].toArray s 0 0 A) (F0 m 0 ls []) := by
    intro H locs hP hD hS ls hl
    unfold f_X0_packed at hf
    refine lv_dload_n hx hb dX0_packed_0 rfl (lv_at hl 0 rfl) ?_
    refine lv_dconst0 hx hb dX0_packed_1 ?_
    refine lv_dcmp hx hb dX0_packed_2 ?_
    refine lv_if_ne (tgt := 8) hx hb dX0_packed_3 (by decide) (fun c24 => ?_) (fun c24 => ?_)
    · have hf := ie hf c24
      refine lv_dload_n hx hb dX0_packed_8 rfl (lv_at hl 0 rfl) ?_
      refine lv_dstore (lv' := [(4, .double p1), (0, .double p1), (2, .int p2), (3, .int p3)]) hx hb dX0_packed_9 hl (by decide) rfl (fun ls hl => ?_)
      refine lv_iconst (v := 0) hx hb dX0_packed_11 (by decide) ?_
      refine lv_istore (lv' := [(6, .int (0 : Int32)), (4, .double p1), (0, .double p1), (2, .int p2), (3, .int p3)]) hx hb dX0_packed_12 hl (by decide) rfl (fun ls hl => ?_)
      refine lv_iconst (v := 0) hx hb dX0_packed_14 (by decide) ?_
      refine lv_istore (lv' := [(7, .int (0 : Int32)), (6, .int (0 : Int32)), (4, .double p1), (0, .double p1), (2, .int p2), (3, .int p3)]) hx hb dX0_packed_15 hl (by decide) rfl (fun ls hl => ?_)
      exact B17 70 p1 (0 : Int32) (0 : Int32) hf _ _ hP hD hS ls (lv_sub hl [4, 5, 2, 1, 0] rfl)
    · have hf := it hf c24
      refine lv_lconst (v := 0) hx hb dX0_packed_6 (by decide) ?_
      have e0 := rt1 hf
      exact W.lret (v := (0 : Int64)) hx hb hr (fun t ht hW => ⟨⟨(0 : Int64), (), rfl, e0, by rw [ht]; exact hP, va_K.moved hW.alike hK, by rw [hAe]; exact hD⟩, hS.F ht⟩) hS.2.2 dX0_packed_7
  exact E0 s.heap [] hP hD hS ls hl
-- X0_ofFloat
set_option maxRecDepth 100000 in
set_option maxHeartbeats 4000000 in
theorem c_X0_ofFloat (l : Launch) (G : va_G) (Y : Nat → ClassId) (sz : Nat) (p1 : UInt32) (p2 : Int32) (rv : Int32) (hf : f_X0_ofFloat p1 p2 = some (rv)) : Met l yX0_ofFloat wsX0_ofFloat (rmk 1 30) (va_Pc [.float p1, .int p2] (Pre G (tys Y) [] sz xT)) (va_Qi (fun (r : Int32) (_ : Unit) => r = rv) (Pst G (tys Y) [] sz []) (va_A [] sz)) 0 0 (va_A [] sz) := by
  refine Met.ofW (cc := cX0_ofFloat) (maxL := 3) (ret := (some .int)) (by decide) rfl ?_
  intro p e s m args below meth c s₁ B hml hv
  obtain ⟨rfl, hsz, hP, hK, hD0, hX⟩ := hv
  have hx := B.exec
  have hb := B.bytes
  have hr := B.returns
  have hts := atoms_spec (ws := wsX0_ofFloat) B.pre
  have hown : s.vm.findClass RX0 = some m.cls := findClass_of_methodNamed B.named
  have hlocks := B.notSynchronized
  subst hsz
  have hD := hD0.self (sz := s.heap.size)
  generalize hAe : va_A [] s.heap.size = A at hD ⊢
  have hA : ∀ q : Nat, s.heap.size ≤ q → A q := fun q h => by rw [← hAe]; exact Or.inr h
  have hS : va_S A s.heap s.heap [] := va_S.rf
  have hP : va_P G vwCl [] s.heap := hP
  have wd1 : (Cond.constant RX0 15 (-2147483648)).before [.float p1, .int p2].toArray s = true := hts _ (List.mem_of_getElem? (i := 1) rfl)
  have hl := lv_entry ([.float p1, .int p2]) (n := 3) (Nat.le_of_ble_eq_true rfl)
  rw [lg_entry_eq]
  generalize (lg_sl ([.float p1, .int p2]) ++ List.replicate (3 - (lg_sl ([.float p1, .int p2])).length) Slot.unset).toArray = ls at hl ⊢
  have hl : lv_has ls 3 [(0, .float p1), (1, .int p2)] := hl
  have B14 : ∀ (y0 : UInt64), f_X0_ofFloat_b14 p1 p2 y0 = some (rv) → ∀ (H : Heap) (locs : List Loc), va_P G vwCl [] H → va_D A [] → va_S A s.heap H locs → ∀ (ls : Array Slot), lv_has ls 3 [(1, .int p2)] → W p l e (headSpec wsX0_ofFloat (rmk 1 30)).room s m [.float p1, .int p2].toArray below meth c H locs 0 0 (MQ below (va_Qi (fun (r : Int32) (_ : Unit) => r = rv) (Pst G (tys Y) [] s.heap.size []) A) [.float p1, .int p2].toArray s 0 0 A) (F0 m 14 ls [.double y0]) := by
    intro y0 hf H locs hP hD hS ls hl
    unfold f_X0_ofFloat_b14 at hf
    refine lv_bipush (v := 23) hx hb dX0_ofFloat_14 (by decide) ?_
    refine lv_bipush (v := -126) hx hb dX0_ofFloat_16 (by decide) ?_
    obtain ⟨r1, hc, hf⟩ := bd1 hf
    refine cl_l (ws' := []) (wr := []) (rnS (As := [.double y0, .int (23 : Int32), .int (-126 : Int32)]) (rest := []) ⟨hx, hb, hml, hown, hts⟩ (c_X0_packed l G Y H.size y0 (23 : Int32) (-126 : Int32) r1 hc) (va_cwS 3 hts gX0_ofFloat_X0_packed rfl rfl rfl (by decide +kernel) ⟨(Nat.le_of_ble_eq_true rfl), (Nat.le_of_ble_eq_true rfl)⟩) trivial okT hK hP hD [] rfl rfl rfl hl.1 rfl (Nat.le_of_ble_eq_true rfl) dX0_ofFloat_18) hP hD hS hA [] [] [] rfl rfl rfl (by decide) rfl rfl (fun H locs hP hD hS => ?_)
    refine lv_l2i hx hb dX0_ofFloat_21 rfl ?_
    refine lv_topi (fun v2 e_v2 => ?_)
    have hf := nm_at hf e_v2
    refine lv_istore_n (lv' := [(2, .int v2), (1, .int p2)]) hx hb dX0_ofFloat_22 rfl hl (by decide) rfl (fun ls hl => ?_)
    refine lv_iload_n hx hb dX0_ofFloat_23 rfl (lv_at hl 1 rfl) ?_
    refine lv_if_eq (tgt := 34) hx hb dX0_ofFloat_24 (by decide) (fun c3 => ?_) (fun c3 => ?_)
    · have hf := it hf c3
      refine lv_iload_n hx hb dX0_ofFloat_34 rfl (lv_at hl 0 rfl) ?_
      have e0 := rt1 hf
      exact W.iret (v := v2) hx hb hr (fun t ht hW => ⟨⟨v2, (), rfl, e0, by rw [ht]; exact hP, va_K.moved hW.alike hK, by rw [hAe]; exact hD⟩, hS.F ht⟩) hS.2.2 dX0_ofFloat_35
    · have hf := ie hf c3
      refine lv_iload_n hx hb dX0_ofFloat_27 rfl (lv_at hl 0 rfl) ?_
      refine lv_ldc hx hb hown wd1 dX0_ofFloat_28 ?_
      refine lv_ior hx hb dX0_ofFloat_30 ?_
      refine lv_goto (tgt := 35) hx hb dX0_ofFloat_31 (by decide) ?_
      have e0 := rt1 hf
      exact W.iret (v := (v2 ||| (-2147483648 : Int32))) hx hb hr (fun t ht hW => ⟨⟨(v2 ||| (-2147483648 : Int32)), (), rfl, e0, by rw [ht]; exact hP, va_K.moved hW.alike hK, by rw [hAe]; exact hD⟩, hS.F ht⟩) hS.2.2 dX0_ofFloat_35
  have E0 : ∀ (H : Heap) (locs : List Loc), va_P G vwCl [] H → va_D A [] → va_S A s.heap H locs → ∀ (ls : Array Slot), lv_has ls 3 [(0, .float p1), (1, .int p2)] → W p l e (headSpec wsX0_ofFloat (rmk 1 30)).room s m [.float p1, .int p2].toArray below meth c H locs 0 0 (MQ below (va_Qi (fun (r : Int32) (_ : Unit) => r = rv) (Pst G (tys Y) [] s.heap.size []) A) [.float p1, .int p2].toArray s 0 0 A) (F0 m 0 ls []) := by
    intro H locs hP hD hS ls hl
    unfold f_X0_ofFloat at hf
    refine lv_fload_n hx hb dX0_ofFloat_0 rfl (lv_at hl 0 rfl) ?_
    refine lv_fconst0 hx hb dX0_ofFloat_1 ?_
    refine lv_fcmp hx hb dX0_ofFloat_2 ?_
    refine lv_if_ge (tgt := 12) hx hb dX0_ofFloat_3 (by decide) (fun c4 => ?_) (fun c4 => ?_)
    · have hf := it hf c4
      refine lv_fload_n hx hb dX0_ofFloat_12 rfl (lv_at hl 0 rfl) ?_
      obtain ⟨g5, hf⟩ := gp hf
      refine lv_f2d hx hb dX0_ofFloat_13 g5 ?_
      exact B14 (FP.f2d p1) hf _ _ hP hD hS ls (lv_sub hl [1] rfl)
    · have hf := ie hf c4
      refine lv_fload_n hx hb dX0_ofFloat_6 rfl (lv_at hl 0 rfl) ?_
      refine lv_fneg hx hb dX0_ofFloat_7 ?_
      obtain ⟨g6, hf⟩ := gp hf
      refine lv_f2d hx hb dX0_ofFloat_8 g6 ?_
      refine lv_goto (tgt := 14) hx hb dX0_ofFloat_9 (by decide) ?_
      exact B14 (FP.f2d (FP.fneg p1)) hf _ _ hP hD hS ls (lv_sub hl [1] rfl)
  exact E0 s.heap [] hP hD hS ls hl
-- X0_ofDouble
set_option maxRecDepth 100000 in
set_option maxHeartbeats 4000000 in
theorem c_X0_ofDouble (l : Launch) (G : va_G) (Y : Nat → ClassId) (sz : Nat) (p1 : UInt64) (p2 : Int32) (rv : Int64) (hf : f_X0_ofDouble p1 p2 = some (rv)) : Met l yX0_ofDouble wsX0_ofDouble (rmk 1 30) (va_Pc [.double p1, .int p2] (Pre G (tys Y) [] sz xT)) (va_Ql (fun (r : Int64) (_ : Unit) => r = rv) (Pst G (tys Y) [] sz []) (va_A [] sz)) 0 0 (va_A [] sz) := by
  refine Met.ofW (cc := cX0_ofDouble) (maxL := 5) (ret := (some .long)) (by decide) rfl ?_
  intro p e s m args below meth c s₁ B hml hv
  obtain ⟨rfl, hsz, hP, hK, hD0, hX⟩ := hv
  have hx := B.exec
  have hb := B.bytes
  have hr := B.returns
  have hts := atoms_spec (ws := wsX0_ofDouble) B.pre
  have hown : s.vm.findClass RX0 = some m.cls := findClass_of_methodNamed B.named
  have hlocks := B.notSynchronized
  subst hsz
  have hD := hD0.self (sz := s.heap.size)
  generalize hAe : va_A [] s.heap.size = A at hD ⊢
  have hA : ∀ q : Nat, s.heap.size ≤ q → A q := fun q h => by rw [← hAe]; exact Or.inr h
  have hS : va_S A s.heap s.heap [] := va_S.rf
  have hP : va_P G vwCl [] s.heap := hP
  have wd1 : (Cond.constantLong RX0 16 (-9223372036854775808)).before [.double p1, .int p2].toArray s = true := hts _ (List.mem_of_getElem? (i := 1) rfl)
  have hl := lv_entry ([.double p1, .int p2]) (n := 5) (Nat.le_of_ble_eq_true rfl)
  rw [lg_entry_eq]
  generalize (lg_sl ([.double p1, .int p2]) ++ List.replicate (5 - (lg_sl ([.double p1, .int p2])).length) Slot.unset).toArray = ls at hl ⊢
  have hl : lv_has ls 5 [(0, .double p1), (2, .int p2)] := hl
  have B12 : ∀ (y0 : UInt64), f_X0_ofDouble_b12 p1 p2 y0 = some (rv) → ∀ (H : Heap) (locs : List Loc), va_P G vwCl [] H → va_D A [] → va_S A s.heap H locs → ∀ (ls : Array Slot), lv_has ls 5 [(2, .int p2)] → W p l e (headSpec wsX0_ofDouble (rmk 1 30)).room s m [.double p1, .int p2].toArray below meth c H locs 0 0 (MQ below (va_Ql (fun (r : Int64) (_ : Unit) => r = rv) (Pst G (tys Y) [] s.heap.size []) A) [.double p1, .int p2].toArray s 0 0 A) (F0 m 12 ls [.double y0]) := by
    intro y0 hf H locs hP hD hS ls hl
    unfold f_X0_ofDouble_b12 at hf
    refine lv_bipush (v := 52) hx hb dX0_ofDouble_12 (by decide) ?_
    refine lv_sipush (v := -1022) hx hb dX0_ofDouble_14 (by decide) ?_
    obtain ⟨r1, hc, hf⟩ := bd1 hf
    refine cl_l (ws' := []) (wr := []) (rnS (As := [.double y0, .int (52 : Int32), .int (-1022 : Int32)]) (rest := []) ⟨hx, hb, hml, hown, hts⟩ (c_X0_packed l G Y H.size y0 (52 : Int32) (-1022 : Int32) r1 hc) (va_cwS 3 hts gX0_ofDouble_X0_packed rfl rfl rfl (by decide +kernel) ⟨(Nat.le_of_ble_eq_true rfl), (Nat.le_of_ble_eq_true rfl)⟩) trivial okT hK hP hD [] rfl rfl rfl hl.1 rfl (Nat.le_of_ble_eq_true rfl) dX0_ofDouble_17) hP hD hS hA [] [] [] rfl rfl rfl (by decide) rfl rfl (fun H locs hP hD hS => ?_)
    refine lv_lstore_n (lv' := [(3, .long r1), (2, .int p2)]) hx hb dX0_ofDouble_20 rfl hl (by decide) rfl (fun ls hl => ?_)
    refine lv_iload_n hx hb dX0_ofDouble_21 rfl (lv_at hl 1 rfl) ?_
    refine lv_if_eq (tgt := 33) hx hb dX0_ofDouble_22 (by decide) (fun c2 => ?_) (fun c2 => ?_)
    · have hf := it hf c2
      refine lv_lload_n hx hb dX0_ofDouble_33 rfl (lv_at hl 0 rfl) ?_
      have e0 := rt1 hf
      exact W.lret (v := r1) hx hb hr (fun t ht hW => ⟨⟨r1, (), rfl, e0, by rw [ht]; exact hP, va_K.moved hW.alike hK, by rw [hAe]; exact hD⟩, hS.F ht⟩) hS.2.2 dX0_ofDouble_34
    · have hf := ie hf c2
      refine lv_lload_n hx hb dX0_ofDouble_25 rfl (lv_at hl 0 rfl) ?_
      refine lv_ldc2 hx hb hown wd1 dX0_ofDouble_26 ?_
      refine lv_lor hx hb dX0_ofDouble_29 ?_
      refine lv_goto (tgt := 34) hx hb dX0_ofDouble_30 (by decide) ?_
      have e0 := rt1 hf
      exact W.lret (v := (r1 ||| (-9223372036854775808 : Int64))) hx hb hr (fun t ht hW => ⟨⟨(r1 ||| (-9223372036854775808 : Int64)), (), rfl, e0, by rw [ht]; exact hP, va_K.moved hW.alike hK, by rw [hAe]; exact hD⟩, hS.F ht⟩) hS.2.2 dX0_ofDouble_34
  have E0 : ∀ (H : Heap) (locs : List Loc), va_P G vwCl [] H → va_D A [] → va_S A s.heap H locs → ∀ (ls : Array Slot), lv_has ls 5 [(0, .double p1), (2, .int p2)] → W p l e (headSpec wsX0_ofDouble (rmk 1 30)).room s m [.double p1, .int p2].toArray below meth c H locs 0 0 (MQ below (va_Ql (fun (r : Int64) (_ : Unit) => r = rv) (Pst G (tys Y) [] s.heap.size []) A) [.double p1, .int p2].toArray s 0 0 A) (F0 m 0 ls []) := by
    intro H locs hP hD hS ls hl
    unfold f_X0_ofDouble at hf
    refine lv_dload_n hx hb dX0_ofDouble_0 rfl (lv_at hl 0 rfl) ?_
    refine lv_dconst0 hx hb dX0_ofDouble_1 ?_
    refine lv_dcmp hx hb dX0_ofDouble_2 ?_
    refine lv_if_ge (tgt := 11) hx hb dX0_ofDouble_3 (by decide) (fun c3 => ?_) (fun c3 => ?_)
    · have hf := it hf c3
      refine lv_dload_n hx hb dX0_ofDouble_11 rfl (lv_at hl 0 rfl) ?_
      exact B12 p1 hf _ _ hP hD hS ls (lv_sub hl [1] rfl)
    · have hf := ie hf c3
      refine lv_dload_n hx hb dX0_ofDouble_6 rfl (lv_at hl 0 rfl) ?_
      refine lv_dneg hx hb dX0_ofDouble_7 ?_
      refine lv_goto (tgt := 12) hx hb dX0_ofDouble_8 (by decide) ?_
      exact B12 (FP.dneg p1) hf _ _ hP hD hS ls (lv_sub hl [1] rfl)
  exact E0 s.heap [] hP hD hS ls hl
-- X0_restOf
set_option maxRecDepth 100000 in
set_option maxHeartbeats 4000000 in
theorem c_X0_restOf (l : Launch) (G : va_G) (Y : Nat → ClassId) (sz : Nat) (p1 : UInt64) (p2 : UInt64) (rv : UInt64) (hf : f_X0_restOf p1 p2 = some (rv)) : Met l yX0_restOf wsX0_restOf (rmk 0 0) (va_Pc [.double p1, .double p2] (Pre G (tys Y) [] sz xT)) (va_Qd (fun (r : UInt64) (_ : Unit) => r = rv) (Pst G (tys Y) [] sz []) (va_A [] sz)) 0 0 (va_A [] sz) := by
  refine Met.ofW (cc := cX0_restOf) (maxL := 9) (ret := (some .double)) (by decide) rfl ?_
  intro p e s m args below meth c s₁ B hml hv
  obtain ⟨rfl, hsz, hP, hK, hD0, hX⟩ := hv
  have hx := B.exec
  have hb := B.bytes
  have hr := B.returns
  have hts := atoms_spec (ws := wsX0_restOf) B.pre
  have hown : s.vm.findClass RX0 = some m.cls := findClass_of_methodNamed B.named
  have hlocks := B.notSynchronized
  subst hsz
  have hD := hD0.self (sz := s.heap.size)
  generalize hAe : va_A [] s.heap.size = A at hD ⊢
  have hA : ∀ q : Nat, s.heap.size ≤ q → A q := fun q h => by rw [← hAe]; exact Or.inr h
  have hS : va_S A s.heap s.heap [] := va_S.rf
  have hP : va_P G vwCl [] s.heap := hP
  have wd1 : (Cond.constantDouble RX0 24 (4629700416936869888)).before [.double p1, .double p2].toArray s = true := hts _ (List.mem_of_getElem? (i := 1) rfl)
  have wd2 : (Cond.constantDouble RX0 20 (4611686018427387904)).before [.double p1, .double p2].toArray s = true := hts _ (List.mem_of_getElem? (i := 2) rfl)
  have hl := lv_entry ([.double p1, .double p2]) (n := 9) (Nat.le_of_ble_eq_true rfl)
  rw [lg_entry_eq]
  generalize (lg_sl ([.double p1, .double p2]) ++ List.replicate (9 - (lg_sl ([.double p1, .double p2])).length) Slot.unset).toArray = ls at hl ⊢
  have hl : lv_has ls 9 [(0, .double p1), (2, .double p2)] := hl
  have B13 : ∀ (n13 : Nat), ∀ (x4 : UInt64) (x6 : UInt64) (x8 : Int32), f_X0_restOf_b13 p1 p2 n13 x4 x6 x8 = some (rv) → ∀ (H : Heap) (locs : List Loc), va_P G vwCl [] H → va_D A [] → va_S A s.heap H locs → ∀ (ls : Array Slot), lv_has ls 9 [(4, .double x4), (6, .double x6), (8, .int x8)] → W p l e (headSpec wsX0_restOf (rmk 0 0)).room s m [.double p1, .double p2].toArray below meth c H locs 0 0 (MQ below (va_Qd (fun (r : UInt64) (_ : Unit) => r = rv) (Pst G (tys Y) [] s.heap.size []) A) [.double p1, .double p2].toArray s 0 0 A) (F0 m 13 ls []) := by
    intro n13
    induction n13 with
    | zero =>
      intro x4 x6 x8 hf H locs hP hD hS ls hl
      exact no_none hf
    | succ n13 ih13 =>
      have B38 : ∀ (x6 : UInt64) (x8 : Int32) (y0 : UInt64), f_X0_restOf_b38 p1 p2 (f_X0_restOf_b13 p1 p2 n13) x6 x8 y0 = some (rv) → ∀ (H : Heap) (locs : List Loc), va_P G vwCl [] H → va_D A [] → va_S A s.heap H locs → ∀ (ls : Array Slot), lv_has ls 9 [(6, .double x6), (8, .int x8)] → W p l e (headSpec wsX0_restOf (rmk 0 0)).room s m [.double p1, .double p2].toArray below meth c H locs 0 0 (MQ below (va_Qd (fun (r : UInt64) (_ : Unit) => r = rv) (Pst G (tys Y) [] s.heap.size []) A) [.double p1, .double p2].toArray s 0 0 A) (F0 m 38 ls [.double y0]) := by
        intro x6 x8 y0 hf H locs hP hD hS ls hl
        unfold f_X0_restOf_b38 at hf
        refine lv_dstore (lv' := [(4, .double y0), (6, .double x6), (8, .int x8)]) hx hb dX0_restOf_38 hl (by decide) rfl (fun ls hl => ?_)
        refine lv_dload hx hb dX0_restOf_40 (lv_at hl 1 rfl) ?_
        refine lv_ldc2d hx hb hown wd2 dX0_restOf_42 ?_
        obtain ⟨g1, hf⟩ := gp hf
        refine lv_ddiv hx hb dX0_restOf_45 g1 ?_
        refine lv_topd (fun v2 e_v2 => ?_)
        have hf := nm_at hf e_v2
        refine lv_dstore (lv' := [(6, .double v2), (4, .double y0), (8, .int x8)]) hx hb dX0_restOf_46 hl (by decide) rfl (fun ls hl => ?_)
        obtain ⟨v3, e_v3⟩ : ∃ z : Int32, z = (x8 + 1) := ⟨_, rfl⟩
        have hf := nm_at hf e_v3
        refine lv_iinc (v := v3) (lv' := [(8, .int v3), (6, .double v2), (4, .double y0)]) hx hb dX0_restOf_48 hl (k := 2) rfl (by rw [e_v3]; rfl) (by decide) rfl (fun ls hl => ?_)
        refine lv_goto (tgt := 13) hx hb dX0_restOf_51 (by decide) ?_
        exact ih13 y0 v2 v3 hf _ _ hP hD hS ls (lv_sub hl [2, 1, 0] rfl)
      intro x4 x6 x8 hf H locs hP hD hS ls hl
      have hf : f_X0_restOf_s13 p1 p2 (f_X0_restOf_b13 p1 p2  n13) x4 x6 x8 = some (rv) := hf
      unfold f_X0_restOf_s13 at hf
      refine lv_iload hx hb dX0_restOf_13 (lv_at hl 2 rfl) ?_
      refine lv_bipush (v := 6) hx hb dX0_restOf_15 (by decide) ?_
      refine lv_icmp_ge (tgt := 54) hx hb dX0_restOf_17 (by decide) (fun c4 => ?_) (fun c4 => ?_)
      · have hf := it hf c4
        refine lv_dload hx hb dX0_restOf_54 (lv_at hl 0 rfl) ?_
        have e0 := rt1 hf
        exact W.dret (v := x4) hx hb hr (fun t ht hW => ⟨⟨x4, (), rfl, e0, by rw [ht]; exact hP, va_K.moved hW.alike hK, by rw [hAe]; exact hD⟩, hS.F ht⟩) hS.2.2 dX0_restOf_56
      · have hf := ie hf c4
        refine lv_dload hx hb dX0_restOf_20 (lv_at hl 0 rfl) ?_
        refine lv_dload hx hb dX0_restOf_22 (lv_at hl 1 rfl) ?_
        refine lv_dcmp hx hb dX0_restOf_24 ?_
        refine lv_if_lt (tgt := 36) hx hb dX0_restOf_25 (by decide) (fun c5 => ?_) (fun c5 => ?_)
        · have hf := it hf c5
          refine lv_dload hx hb dX0_restOf_36 (lv_at hl 0 rfl) ?_
          exact B38 x6 x8 x4 hf _ _ hP hD hS ls (lv_sub hl [1, 2] rfl)
        · have hf := ie hf c5
          refine lv_dload hx hb dX0_restOf_28 (lv_at hl 0 rfl) ?_
          refine lv_dload hx hb dX0_restOf_30 (lv_at hl 1 rfl) ?_
          obtain ⟨g6, hf⟩ := gp hf
          refine lv_dsub hx hb dX0_restOf_32 g6 ?_
          refine lv_goto (tgt := 38) hx hb dX0_restOf_33 (by decide) ?_
          exact B38 x6 x8 (FP.dsub x4 x6) hf _ _ hP hD hS ls (lv_sub hl [1, 2] rfl)
  have E0 : ∀ (H : Heap) (locs : List Loc), va_P G vwCl [] H → va_D A [] → va_S A s.heap H locs → ∀ (ls : Array Slot), lv_has ls 9 [(0, .double p1), (2, .double p2)] → W p l e (headSpec wsX0_restOf (rmk 0 0)).room s m [.double p1, .double p2].toArray below meth c H locs 0 0 (MQ below (va_Qd (fun (r : UInt64) (_ : Unit) => r = rv) (Pst G (tys Y) [] s.heap.size []) A) [.double p1, .double p2].toArray s 0 0 A) (F0 m 0 ls []) := by
    intro H locs hP hD hS ls hl
    unfold f_X0_restOf at hf
    refine lv_dload_n hx hb dX0_restOf_0 rfl (lv_at hl 0 rfl) ?_
    refine lv_dstore (lv' := [(4, .double p1), (0, .double p1), (2, .double p2)]) hx hb dX0_restOf_1 hl (by decide) rfl (fun ls hl => ?_)
    refine lv_dload_n hx hb dX0_restOf_3 rfl (lv_at hl 2 rfl) ?_
    refine lv_ldc2d hx hb hown wd1 dX0_restOf_4 ?_
    obtain ⟨g7, hf⟩ := gp hf
    refine lv_dmul hx hb dX0_restOf_7 g7 ?_
    refine lv_topd (fun v8 e_v8 => ?_)
    have hf := nm_at hf e_v8
    refine lv_dstore (lv' := [(6, .double v8), (4, .double p1), (0, .double p1), (2, .double p2)]) hx hb dX0_restOf_8 hl (by decide) rfl (fun ls hl => ?_)
    refine lv_iconst (v := 0) hx hb dX0_restOf_10 (by decide) ?_
    refine lv_istore (lv' := [(8, .int (0 : Int32)), (6, .double v8), (4, .double p1), (0, .double p1), (2, .double p2)]) hx hb dX0_restOf_11 hl (by decide) rfl (fun ls hl => ?_)
    exact B13 70 p1 v8 (0 : Int32) hf _ _ hP hD hS ls (lv_sub hl [2, 1, 0] rfl)
  exact E0 s.heap [] hP hD hS ls hl
-- Jxf58ca_isNaN_12338
set_option maxRecDepth 100000 in
set_option maxHeartbeats 4000000 in
theorem c_Jxf58ca_isNaN_12338 (l : Launch) (G : va_G) (Y : Nat → ClassId) (sz : Nat) (p1 : UInt32) (rv : Int32) (hf : f_Jxf58ca_isNaN_12338 p1 = some (rv)) : Met l yJxf58ca_isNaN_12338 wsJxf58ca_isNaN_12338 (rmk 0 0) (va_Pc [.float p1] (Pre G (tys Y) [] sz xT)) (va_Qi (fun (r : Int32) (_ : Unit) => r = rv) (Pst G (tys Y) [] sz []) (va_A [] sz)) 0 0 (va_A [] sz) := by
  refine va_MetF (cc := cJxf58ca_isNaN_12338) (maxL := 1) (ret := (some .boolean)) (by decide +kernel) rfl ?_
  intro p e s m args below meth c s₁ B hml hv
  obtain ⟨rfl, hsz, hP, hK, hD0, hX⟩ := hv
  have hx := B.exec
  have hb := B.bytes
  have hr := B.returns
  have hts := atoms_spec (ws := wsJxf58ca_isNaN_12338) B.pre
  have hown : s.vm.findClass RJxf58ca = some m.cls := findClass_of_methodNamed B.named
  have hlocks := B.notSynchronized
  subst hsz
  have hD := hD0.self (sz := s.heap.size)
  generalize hAe : va_A [] s.heap.size = A at hD ⊢
  have hA : ∀ q : Nat, s.heap.size ≤ q → A q := fun q h => by rw [← hAe]; exact Or.inr h
  have hS : va_S A s.heap s.heap [] := va_S.rf
  have hP : va_P G vwCl [] s.heap := hP
  have hl := lv_entry ([.float p1]) (n := 1) (Nat.le_of_ble_eq_true rfl)
  rw [lg_entry_eq]
  generalize (lg_sl ([.float p1]) ++ List.replicate (1 - (lg_sl ([.float p1])).length) Slot.unset).toArray = ls at hl ⊢
  have hl : lv_has ls 1 [(0, .float p1)] := hl
  have E0 : ∀ (H : Heap) (locs : List Loc), va_P G vwCl [] H → va_D A [] → va_S A s.heap H locs → ∀ (ls : Array Slot), lv_has ls 1 [(0, .float p1)] → W p l e (headSpec wsJxf58ca_isNaN_12338 (rmk 0 0)).room s m [.float p1].toArray below meth c H locs 0 0 (MQ below (va_Qi (fun (r : Int32) (_ : Unit) => r = rv) (Pst G (tys Y) [] s.heap.size []) A) [.float p1].toArray s 0 0 A) (F0 m 0 ls []) := by
    intro H locs hP hD hS ls hl
    unfold f_Jxf58ca_isNaN_12338 at hf
    refine lv_fload_n hx hb dJxf58ca_isNaN_12338_0 rfl (lv_at hl 0 rfl) ?_
    refine lv_fload_n hx hb dJxf58ca_isNaN_12338_1 rfl (lv_at hl 0 rfl) ?_
    refine lv_fcmp hx hb dJxf58ca_isNaN_12338_2 ?_
    refine lv_if_eq (tgt := 10) hx hb dJxf58ca_isNaN_12338_3 (by decide) (fun c1 => ?_) (fun c1 => ?_)
    · have hf := it hf c1
      refine lv_iconst (v := 0) hx hb dJxf58ca_isNaN_12338_10 (by decide) ?_
      have e0 := rt1 hf
      exact W.zret (v := (0 : Int32)) hx hb hr rfl (fun t ht hW => ⟨⟨(0 : Int32), (), rfl, e0, by rw [ht]; exact hP, va_K.moved hW.alike hK, by rw [hAe]; exact hD⟩, hS.F ht⟩) hS.2.2 dJxf58ca_isNaN_12338_11
    · have hf := ie hf c1
      refine lv_iconst (v := 1) hx hb dJxf58ca_isNaN_12338_6 (by decide) ?_
      refine lv_goto (tgt := 11) hx hb dJxf58ca_isNaN_12338_7 (by decide) ?_
      have e0 := rt1 hf
      exact W.zret (v := (1 : Int32)) hx hb hr rfl (fun t ht hW => ⟨⟨(1 : Int32), (), rfl, e0, by rw [ht]; exact hP, va_K.moved hW.alike hK, by rw [hAe]; exact hD⟩, hS.F ht⟩) hS.2.2 dJxf58ca_isNaN_12338_11
  exact E0 s.heap [] hP hD hS ls hl
-- Jxf58ca_floatToIntBits_5c35a
set_option maxRecDepth 100000 in
set_option maxHeartbeats 4000000 in
theorem c_Jxf58ca_floatToIntBits_5c35a (l : Launch) (G : va_G) (Y : Nat → ClassId) (sz : Nat) (p1 : UInt32) (rv : Int32) (hf : f_Jxf58ca_floatToIntBits_5c35a p1 = some (rv)) : Met l yJxf58ca_floatToIntBits_5c35a wsJxf58ca_floatToIntBits_5c35a (rmk 1 40) (va_Pc [.float p1] (Pre G (tys Y) [] sz xT)) (va_Qi (fun (r : Int32) (_ : Unit) => r = rv) (Pst G (tys Y) [] sz []) (va_A [] sz)) 0 0 (va_A [] sz) := by
  refine va_MetF (cc := cJxf58ca_floatToIntBits_5c35a) (maxL := 1) (ret := (some .int)) (by decide +kernel) rfl ?_
  intro p e s m args below meth c s₁ B hml hv
  obtain ⟨rfl, hsz, hP, hK, hD0, hX⟩ := hv
  have hx := B.exec
  have hb := B.bytes
  have hr := B.returns
  have hts := atoms_spec (ws := wsJxf58ca_floatToIntBits_5c35a) B.pre
  have hown : s.vm.findClass RJxf58ca = some m.cls := findClass_of_methodNamed B.named
  have hlocks := B.notSynchronized
  subst hsz
  have hD := hD0.self (sz := s.heap.size)
  generalize hAe : va_A [] s.heap.size = A at hD ⊢
  have hA : ∀ q : Nat, s.heap.size ≤ q → A q := fun q h => by rw [← hAe]; exact Or.inr h
  have hS : va_S A s.heap s.heap [] := va_S.rf
  have hP : va_P G vwCl [] s.heap := hP
  have wd1 : (Cond.methodLink RJxf58ca 74 ⟨"java/lang/Float", "floatToRawIntBits", "(F)I"⟩).before [.float p1].toArray s = true := hts _ (List.mem_of_getElem? (i := 1) rfl)
  have wd2 : (Cond.native ⟨"java/lang/Float", "floatToRawIntBits", "(F)I"⟩).before [.float p1].toArray s = true := hts _ (List.mem_of_getElem? (i := 2) rfl)
  have wd3 : (Cond.static ⟨"java/lang/Float", "floatToRawIntBits", "(F)I"⟩).before [.float p1].toArray s = true := hts _ (List.mem_of_getElem? (i := 3) rfl)
  have wd4 : (Cond.initialized "java/lang/Float").before [.float p1].toArray s = true := hts _ (List.mem_of_getElem? (i := 4) rfl)
  have wd5 : (Cond.constant RJxf58ca 77 (2143289344)).before [.float p1].toArray s = true := hts _ (List.mem_of_getElem? (i := 5) rfl)
  have hl := lv_entry ([.float p1]) (n := 1) (Nat.le_of_ble_eq_true rfl)
  rw [lg_entry_eq]
  generalize (lg_sl ([.float p1]) ++ List.replicate (1 - (lg_sl ([.float p1])).length) Slot.unset).toArray = ls at hl ⊢
  have hl : lv_has ls 1 [(0, .float p1)] := hl
  have E0 : ∀ (H : Heap) (locs : List Loc), va_P G vwCl [] H → va_D A [] → va_S A s.heap H locs → ∀ (ls : Array Slot), lv_has ls 1 [(0, .float p1)] → W p l e (headSpec wsJxf58ca_floatToIntBits_5c35a (rmk 1 40)).room s m [.float p1].toArray below meth c H locs 0 0 (MQ below (va_Qi (fun (r : Int32) (_ : Unit) => r = rv) (Pst G (tys Y) [] s.heap.size []) A) [.float p1].toArray s 0 0 A) (F0 m 0 ls []) := by
    intro H locs hP hD hS ls hl
    unfold f_Jxf58ca_floatToIntBits_5c35a at hf
    refine lv_fload_n hx hb dJxf58ca_floatToIntBits_5c35a_0 rfl (lv_at hl 0 rfl) ?_
    obtain ⟨r1, hc, hf⟩ := bd1 hf
    refine cl_i (ws' := []) (wr := []) (rnS (As := [.float p1]) (rest := []) ⟨hx, hb, hml, hown, hts⟩ (c_Jxf58ca_isNaN_12338 l G Y H.size p1 r1 hc) (va_cwS 1 hts gJxf58ca_floatToIntBits_5c35a_Jxf58ca_isNaN_12338 rfl rfl rfl (by decide +kernel) ⟨(Nat.le_of_ble_eq_true rfl), (Nat.le_of_ble_eq_true rfl)⟩) trivial okT hK hP hD [] rfl rfl rfl hl.1 rfl (Nat.le_of_ble_eq_true rfl) dJxf58ca_floatToIntBits_5c35a_1) hP hD hS hA [] [] [] rfl rfl rfl (by decide) rfl rfl (fun H locs hP hD hS => ?_)
    refine lv_if_ne (tgt := 12) hx hb dJxf58ca_floatToIntBits_5c35a_4 (by decide) (fun c2 => ?_) (fun c2 => ?_)
    · have hf := ie hf c2
      refine lv_ldc hx hb hown wd5 dJxf58ca_floatToIntBits_5c35a_12 ?_
      have e0 := rt1 hf
      exact W.iret (v := (2143289344 : Int32)) hx hb hr (fun t ht hW => ⟨⟨(2143289344 : Int32), (), rfl, e0, by rw [ht]; exact hP, va_K.moved hW.alike hK, by rw [hAe]; exact hD⟩, hS.F ht⟩) hS.2.2 dJxf58ca_floatToIntBits_5c35a_14
    · have hf := it hf c2
      refine lv_fload_n hx hb dJxf58ca_floatToIntBits_5c35a_7 rfl (lv_at hl 0 rfl) ?_
      refine vn_f2i hx hb (hml.trans hl.1.symm) hown wd1 wd2 wd3 wd4 (Nat.le_of_ble_eq_true rfl) (Nat.le_of_ble_eq_true rfl) dJxf58ca_floatToIntBits_5c35a_8 ?_
      have e0 := rt1 hf
      exact W.iret (v := p1.toInt32) hx hb hr (fun t ht hW => ⟨⟨p1.toInt32, (), rfl, e0, by rw [ht]; exact hP, va_K.moved hW.alike hK, by rw [hAe]; exact hD⟩, hS.F ht⟩) hS.2.2 dJxf58ca_floatToIntBits_5c35a_11
  exact E0 s.heap [] hP hD hS ls hl
-- Jxe99ae_isNaN_b9ae7
set_option maxRecDepth 100000 in
set_option maxHeartbeats 4000000 in
theorem c_Jxe99ae_isNaN_b9ae7 (l : Launch) (G : va_G) (Y : Nat → ClassId) (sz : Nat) (p1 : UInt64) (rv : Int32) (hf : f_Jxe99ae_isNaN_b9ae7 p1 = some (rv)) : Met l yJxe99ae_isNaN_b9ae7 wsJxe99ae_isNaN_b9ae7 (rmk 0 0) (va_Pc [.double p1] (Pre G (tys Y) [] sz xT)) (va_Qi (fun (r : Int32) (_ : Unit) => r = rv) (Pst G (tys Y) [] sz []) (va_A [] sz)) 0 0 (va_A [] sz) := by
  refine va_MetF (cc := cJxe99ae_isNaN_b9ae7) (maxL := 2) (ret := (some .boolean)) (by decide +kernel) rfl ?_
  intro p e s m args below meth c s₁ B hml hv
  obtain ⟨rfl, hsz, hP, hK, hD0, hX⟩ := hv
  have hx := B.exec
  have hb := B.bytes
  have hr := B.returns
  have hts := atoms_spec (ws := wsJxe99ae_isNaN_b9ae7) B.pre
  have hown : s.vm.findClass RJxe99ae = some m.cls := findClass_of_methodNamed B.named
  have hlocks := B.notSynchronized
  subst hsz
  have hD := hD0.self (sz := s.heap.size)
  generalize hAe : va_A [] s.heap.size = A at hD ⊢
  have hA : ∀ q : Nat, s.heap.size ≤ q → A q := fun q h => by rw [← hAe]; exact Or.inr h
  have hS : va_S A s.heap s.heap [] := va_S.rf
  have hP : va_P G vwCl [] s.heap := hP
  have hl := lv_entry ([.double p1]) (n := 2) (Nat.le_of_ble_eq_true rfl)
  rw [lg_entry_eq]
  generalize (lg_sl ([.double p1]) ++ List.replicate (2 - (lg_sl ([.double p1])).length) Slot.unset).toArray = ls at hl ⊢
  have hl : lv_has ls 2 [(0, .double p1)] := hl
  have E0 : ∀ (H : Heap) (locs : List Loc), va_P G vwCl [] H → va_D A [] → va_S A s.heap H locs → ∀ (ls : Array Slot), lv_has ls 2 [(0, .double p1)] → W p l e (headSpec wsJxe99ae_isNaN_b9ae7 (rmk 0 0)).room s m [.double p1].toArray below meth c H locs 0 0 (MQ below (va_Qi (fun (r : Int32) (_ : Unit) => r = rv) (Pst G (tys Y) [] s.heap.size []) A) [.double p1].toArray s 0 0 A) (F0 m 0 ls []) := by
    intro H locs hP hD hS ls hl
    unfold f_Jxe99ae_isNaN_b9ae7 at hf
    refine lv_dload_n hx hb dJxe99ae_isNaN_b9ae7_0 rfl (lv_at hl 0 rfl) ?_
    refine lv_dload_n hx hb dJxe99ae_isNaN_b9ae7_1 rfl (lv_at hl 0 rfl) ?_
    refine lv_dcmp hx hb dJxe99ae_isNaN_b9ae7_2 ?_
    refine lv_if_eq (tgt := 10) hx hb dJxe99ae_isNaN_b9ae7_3 (by decide) (fun c1 => ?_) (fun c1 => ?_)
    · have hf := it hf c1
      refine lv_iconst (v := 0) hx hb dJxe99ae_isNaN_b9ae7_10 (by decide) ?_
      have e0 := rt1 hf
      exact W.zret (v := (0 : Int32)) hx hb hr rfl (fun t ht hW => ⟨⟨(0 : Int32), (), rfl, e0, by rw [ht]; exact hP, va_K.moved hW.alike hK, by rw [hAe]; exact hD⟩, hS.F ht⟩) hS.2.2 dJxe99ae_isNaN_b9ae7_11
    · have hf := ie hf c1
      refine lv_iconst (v := 1) hx hb dJxe99ae_isNaN_b9ae7_6 (by decide) ?_
      refine lv_goto (tgt := 11) hx hb dJxe99ae_isNaN_b9ae7_7 (by decide) ?_
      have e0 := rt1 hf
      exact W.zret (v := (1 : Int32)) hx hb hr rfl (fun t ht hW => ⟨⟨(1 : Int32), (), rfl, e0, by rw [ht]; exact hP, va_K.moved hW.alike hK, by rw [hAe]; exact hD⟩, hS.F ht⟩) hS.2.2 dJxe99ae_isNaN_b9ae7_11
  exact E0 s.heap [] hP hD hS ls hl
-- Jxe99ae_doubleToLongBits_ccdee
set_option maxRecDepth 100000 in
set_option maxHeartbeats 4000000 in
theorem c_Jxe99ae_doubleToLongBits_ccdee (l : Launch) (G : va_G) (Y : Nat → ClassId) (sz : Nat) (p1 : UInt64) (rv : Int64) (hf : f_Jxe99ae_doubleToLongBits_ccdee p1 = some (rv)) : Met l yJxe99ae_doubleToLongBits_ccdee wsJxe99ae_doubleToLongBits_ccdee (rmk 1 40) (va_Pc [.double p1] (Pre G (tys Y) [] sz xT)) (va_Ql (fun (r : Int64) (_ : Unit) => r = rv) (Pst G (tys Y) [] sz []) (va_A [] sz)) 0 0 (va_A [] sz) := by
  refine va_MetF (cc := cJxe99ae_doubleToLongBits_ccdee) (maxL := 2) (ret := (some .long)) (by decide +kernel) rfl ?_
  intro p e s m args below meth c s₁ B hml hv
  obtain ⟨rfl, hsz, hP, hK, hD0, hX⟩ := hv
  have hx := B.exec
  have hb := B.bytes
  have hr := B.returns
  have hts := atoms_spec (ws := wsJxe99ae_doubleToLongBits_ccdee) B.pre
  have hown : s.vm.findClass RJxe99ae = some m.cls := findClass_of_methodNamed B.named
  have hlocks := B.notSynchronized
  subst hsz
  have hD := hD0.self (sz := s.heap.size)
  generalize hAe : va_A [] s.heap.size = A at hD ⊢
  have hA : ∀ q : Nat, s.heap.size ≤ q → A q := fun q h => by rw [← hAe]; exact Or.inr h
  have hS : va_S A s.heap s.heap [] := va_S.rf
  have hP : va_P G vwCl [] s.heap := hP
  have wd1 : (Cond.methodLink RJxe99ae 134 ⟨"java/lang/Double", "doubleToRawLongBits", "(D)J"⟩).before [.double p1].toArray s = true := hts _ (List.mem_of_getElem? (i := 1) rfl)
  have wd2 : (Cond.native ⟨"java/lang/Double", "doubleToRawLongBits", "(D)J"⟩).before [.double p1].toArray s = true := hts _ (List.mem_of_getElem? (i := 2) rfl)
  have wd3 : (Cond.static ⟨"java/lang/Double", "doubleToRawLongBits", "(D)J"⟩).before [.double p1].toArray s = true := hts _ (List.mem_of_getElem? (i := 3) rfl)
  have wd4 : (Cond.initialized "java/lang/Double").before [.double p1].toArray s = true := hts _ (List.mem_of_getElem? (i := 4) rfl)
  have wd5 : (Cond.constantLong RJxe99ae 137 (9221120237041090560)).before [.double p1].toArray s = true := hts _ (List.mem_of_getElem? (i := 5) rfl)
  have hl := lv_entry ([.double p1]) (n := 2) (Nat.le_of_ble_eq_true rfl)
  rw [lg_entry_eq]
  generalize (lg_sl ([.double p1]) ++ List.replicate (2 - (lg_sl ([.double p1])).length) Slot.unset).toArray = ls at hl ⊢
  have hl : lv_has ls 2 [(0, .double p1)] := hl
  have E0 : ∀ (H : Heap) (locs : List Loc), va_P G vwCl [] H → va_D A [] → va_S A s.heap H locs → ∀ (ls : Array Slot), lv_has ls 2 [(0, .double p1)] → W p l e (headSpec wsJxe99ae_doubleToLongBits_ccdee (rmk 1 40)).room s m [.double p1].toArray below meth c H locs 0 0 (MQ below (va_Ql (fun (r : Int64) (_ : Unit) => r = rv) (Pst G (tys Y) [] s.heap.size []) A) [.double p1].toArray s 0 0 A) (F0 m 0 ls []) := by
    intro H locs hP hD hS ls hl
    unfold f_Jxe99ae_doubleToLongBits_ccdee at hf
    refine lv_dload_n hx hb dJxe99ae_doubleToLongBits_ccdee_0 rfl (lv_at hl 0 rfl) ?_
    obtain ⟨r1, hc, hf⟩ := bd1 hf
    refine cl_i (ws' := []) (wr := []) (rnS (As := [.double p1]) (rest := []) ⟨hx, hb, hml, hown, hts⟩ (c_Jxe99ae_isNaN_b9ae7 l G Y H.size p1 r1 hc) (va_cwS 1 hts gJxe99ae_doubleToLongBits_ccdee_Jxe99ae_isNaN_b9ae7 rfl rfl rfl (by decide +kernel) ⟨(Nat.le_of_ble_eq_true rfl), (Nat.le_of_ble_eq_true rfl)⟩) trivial okT hK hP hD [] rfl rfl rfl hl.1 rfl (Nat.le_of_ble_eq_true rfl) dJxe99ae_doubleToLongBits_ccdee_1) hP hD hS hA [] [] [] rfl rfl rfl (by decide) rfl rfl (fun H locs hP hD hS => ?_)
    refine lv_if_ne (tgt := 12) hx hb dJxe99ae_doubleToLongBits_ccdee_4 (by decide) (fun c2 => ?_) (fun c2 => ?_)
    · have hf := ie hf c2
      refine lv_ldc2 hx hb hown wd5 dJxe99ae_doubleToLongBits_ccdee_12 ?_
      have e0 := rt1 hf
      exact W.lret (v := (9221120237041090560 : Int64)) hx hb hr (fun t ht hW => ⟨⟨(9221120237041090560 : Int64), (), rfl, e0, by rw [ht]; exact hP, va_K.moved hW.alike hK, by rw [hAe]; exact hD⟩, hS.F ht⟩) hS.2.2 dJxe99ae_doubleToLongBits_ccdee_15
    · have hf := it hf c2
      refine lv_dload_n hx hb dJxe99ae_doubleToLongBits_ccdee_7 rfl (lv_at hl 0 rfl) ?_
      refine vn_d2l hx hb (hml.trans hl.1.symm) hown wd1 wd2 wd3 wd4 (Nat.le_of_ble_eq_true rfl) (Nat.le_of_ble_eq_true rfl) dJxe99ae_doubleToLongBits_ccdee_8 ?_
      have e0 := rt1 hf
      exact W.lret (v := p1.toInt64) hx hb hr (fun t ht hW => ⟨⟨p1.toInt64, (), rfl, e0, by rw [ht]; exact hP, va_K.moved hW.alike hK, by rw [hAe]; exact hD⟩, hS.F ht⟩) hS.2.2 dJxe99ae_doubleToLongBits_ccdee_11
  exact E0 s.heap [] hP hD hS ls hl
