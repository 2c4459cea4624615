def xZ (zt : Nat) (A : Nat → Prop) (U : State) : Prop := va_Z "PairedLines" "ABOVE" "[I" (.ref zt) A U U.heap ∧ va_T .int zt 6 (fun k => .int (abv k)) A U U.heap
theorem rnZ {p : Program} {l : Launch} {e : Env} {R : Room} {s : State} {m : MethodId} {args : Array Value} {below : List Frame} {meth : Method} {c : Code} {H : Heap} {locs : List Loc} {A0 : Nat → Prop} {G : va_G} {T : List (ClassId × FieldType)} {y : MethodName} {bytes cc : ByteArray} {maxL nL n index zt : Nat} {ret : Option FieldType} {wy : List Cond} {rm : Room} {Qc : Array Value → State → Outcome → State → Prop} {Ts : List Cond} {own : String} {As rest : List Value} {pc : Nat} {ls : Array Slot} {st0 : List Value}
    (S : CallFix p m c cc nL s args Ts own) (hM : Met l y wy rm (va_Pc As (Pre G T [] H.size (xZ zt (va_A [] H.size)))) Qc 0 0 (va_A [] H.size)) (cw : CallB R s args own index y bytes maxL ret wy rm 0 0 n ∧ (Cond.static y).before args s = true) (hX : xZ zt A0 s) (hS : va_S A0 s.heap H locs) (hA : ∀ q, s.heap.size ≤ q → A0 q) (hK : va_K G vwCl T s)
    (hn : As.length = n) (hsize : ls.size = nL) (hstack : st0 = As.reverse ++ rest) (hW : (rest.map fun v => v.category).sum ≤ 8) (hdg : decode cc pc = .ok (.invokestatic index, 3)) :
    va_Run p l e R s m args below meth c H locs 0 0 0 0 (F0 m pc ls st0) rest (Qc As.toArray) (va_A [] H.size) := by
  have hB : FrameBlind (va_Pc As (Pre G T [] H.size (xZ zt (va_A [] H.size)))) := by
    intro a U g mk q
    obtain ⟨q0, q1, qP, qK, qD, qX⟩ := q
    exact ⟨q0, q1, qP, va_K.moved (u := U) (U := U.calling g mk a) (Vm.Alike.refl U.vm) qK, qD, va_Z.moved (u := U) (U := U.calling g mk a) (Vm.Alike.refl U.vm) qX.1, va_T.moved (u := U) (U := U.calling g mk a) (Vm.Alike.refl U.vm) qX.2⟩
  have hsub : ∀ q, va_A [] H.size q → A0 q := by
    intro q h
    rcases h with ⟨k, e, h⟩ | h
    · simp at h
    · exact hA q (Nat.le_trans hS.1 h)
  refine va_runS (g := F0 m pc ls st0) S hM cw ⟨hB, fun U hU hW => ⟨rfl, by rw [hU], fun k q h => by simp at h, va_K.moved hW.alike hK, ⟨fun i j p q h => by simp at h, fun k q h => by simp at h⟩, ?_, ?_⟩⟩ rfl hn hsize hstack (lv_room hW) hdg ⟨Nat.zero_le _, Nat.zero_le _⟩
  · rw [hU]
    exact va_Z.moved hW.alike ((hX.1.kept hS.2.1).narrow hsub)
  · rw [hU]
    exact va_T.moved hW.alike ((hX.2.kept hS.2.1).narrow hsub)
-- X8_isUnder
set_option maxRecDepth 100000 in
set_option maxHeartbeats 4000000 in
theorem c_X8_isUnder (l : Launch) (G : va_G) (Y : Nat → ClassId) (sz : Nat) (zt : Nat) (p1 : Int32) (p2 : Int32) (rv : Int32) (hf : f_X8_isUnder p1 p2 = some (rv)) : Met l yX8_isUnder wsX8_isUnder (rmk 0 0) (va_Pc [.int p1, .int p2] (Pre G (tys Y) [] sz (xZ zt (va_A [] sz)))) (va_Qi (fun (r : Int32) (_ : Unit) => r = rv) (Pst G (tys Y) [] sz []) (va_A [] sz)) 0 0 (va_A [] sz) := by
  refine Met.ofW (cc := cX8_isUnder) (maxL := 4) (ret := (some .boolean)) (by decide) rfl ?_
  intro p e s m args below meth c s₁ B hml hv
  obtain ⟨rfl, hsz, hP, hK, hD0, hX⟩ := hv
  have hx := B.exec
  have hb := B.bytes
  have hr := B.returns
  have hts := atoms_spec (ws := wsX8_isUnder) B.pre
  have hown : s.vm.findClass RX8 = some m.cls := findClass_of_methodNamed B.named
  have hlocks := B.notSynchronized
  subst hsz
  have hD := hD0.self (sz := s.heap.size)
  generalize hAe : va_A [] s.heap.size = A at hD hX ⊢
  have hA : ∀ q : Nat, s.heap.size ≤ q → A q := fun q h => by rw [← hAe]; exact Or.inr h
  have hS : va_S A s.heap s.heap [] := va_S.rf
  have hP : va_P G vwCl [] s.heap := hP
  have wd1 : (Cond.fieldLink RX8 350 "PairedLines" "ABOVE" "[I").before [.int p1, .int p2].toArray s = true := hts _ (List.mem_of_getElem? (i := 1) rfl)
  have hl := lv_entry ([.int p1, .int p2]) (n := 4) (Nat.le_of_ble_eq_true rfl)
  rw [lg_entry_eq]
  generalize (lg_sl ([.int p1, .int p2]) ++ List.replicate (4 - (lg_sl ([.int p1, .int p2])).length) Slot.unset).toArray = ls at hl ⊢
  have hl : lv_has ls 4 [(0, .int p1), (1, .int p2)] := hl
  have B4 : ∀ (n4 : Nat), ∀ (x2 : Int32) (x3 : Int32), f_X8_isUnder_b4 p1 p2 n4 x2 x3 = some (rv) → ∀ (H : Heap) (locs : List Loc), va_P G vwCl [] H → va_D A [] → va_S A s.heap H locs → ∀ (ls : Array Slot), lv_has ls 4 [(1, .int p2), (2, .int x2), (3, .int x3)] → W p l e (headSpec wsX8_isUnder (rmk 0 0)).room s m [.int p1, .int p2].toArray below meth c H locs 0 0 (MQ below (va_Qi (fun (r : Int32) (_ : Unit) => r = rv) (Pst G (tys Y) [] s.heap.size []) A) [.int p1, .int p2].toArray s 0 0 A) (F0 m 4 ls []) := by
    intro n4
    induction n4 with
    | zero =>
      intro x2 x3 hf H locs hP hD hS ls hl
      exact no_none hf
    | succ n4 ih4 =>
      intro x2 x3 hf H locs hP hD hS ls hl
      have hf : f_X8_isUnder_s4 p1 p2 (f_X8_isUnder_b4 p1 p2  n4) x2 x3 = some (rv) := hf
      unfold f_X8_isUnder_s4 at hf
      refine lv_iload_n hx hb dX8_isUnder_4 rfl (lv_at hl 2 rfl) ?_
      refine lv_bipush (v := 6) hx hb dX8_isUnder_5 (by decide) ?_
      refine lv_icmp_ge (tgt := 39) hx hb dX8_isUnder_7 (by decide) (fun c1 => ?_) (fun c1 => ?_)
      · have hf := it hf c1
        refine lv_iconst (v := 0) hx hb dX8_isUnder_39 (by decide) ?_
        have e0 := rt1 hf
        exact W.zret (v := (0 : Int32)) hx hb hr rfl (fun t ht hW => ⟨⟨(0 : Int32), (), rfl, e0, by rw [ht]; exact hP, va_K.moved hW.alike hK, by rw [hAe]; exact hD⟩, hS.F ht⟩) hS.2.2 dX8_isUnder_40
      · have hf := ie hf c1
        refine lv_iload_n hx hb dX8_isUnder_10 rfl (lv_at hl 1 rfl) ?_
        refine lv_if_lt (tgt := 39) hx hb dX8_isUnder_11 (by decide) (fun c2 => ?_) (fun c2 => ?_)
        · have hf := it hf c2
          refine lv_iconst (v := 0) hx hb dX8_isUnder_39 (by decide) ?_
          have e0 := rt1 hf
          exact W.zret (v := (0 : Int32)) hx hb hr rfl (fun t ht hW => ⟨⟨(0 : Int32), (), rfl, e0, by rw [ht]; exact hP, va_K.moved hW.alike hK, by rw [hAe]; exact hD⟩, hS.F ht⟩) hS.2.2 dX8_isUnder_40
        · have hf := ie hf c2
          refine lv_iload_n hx hb dX8_isUnder_14 rfl (lv_at hl 1 rfl) ?_
          refine lv_bipush (v := 6) hx hb dX8_isUnder_15 (by decide) ?_
          refine lv_icmp_ge (tgt := 39) hx hb dX8_isUnder_17 (by decide) (fun c3 => ?_) (fun c3 => ?_)
          · have hf := it hf c3
            refine lv_iconst (v := 0) hx hb dX8_isUnder_39 (by decide) ?_
            have e0 := rt1 hf
            exact W.zret (v := (0 : Int32)) hx hb hr rfl (fun t ht hW => ⟨⟨(0 : Int32), (), rfl, e0, by rw [ht]; exact hP, va_K.moved hW.alike hK, by rw [hAe]; exact hD⟩, hS.F ht⟩) hS.2.2 dX8_isUnder_40
          · have hf := ie hf c3
            refine lv_iload_n hx hb dX8_isUnder_20 rfl (lv_at hl 1 rfl) ?_
            refine lv_iload_n hx hb dX8_isUnder_21 rfl (lv_at hl 0 rfl) ?_
            refine lv_icmp_ne (tgt := 27) hx hb dX8_isUnder_22 (by decide) (fun c4 => ?_) (fun c4 => ?_)
            · have hf := ie hf c4
              refine va_gets (v := .ref zt) hx hb hX.1 hS hown wd1 (fun _ h9 => h9) dX8_isUnder_27 ?_
              refine lv_iload_n hx hb dX8_isUnder_30 rfl (lv_at hl 1 rfl) ?_
              obtain ⟨g5, hf⟩ := gd hf
              refine va_ti hx hb hX.2 hS g5 rfl dX8_isUnder_31 ?_
              refine lv_topi (fun v6 e_v6 => ?_)
              have hf := nm_at hf e_v6
              refine lv_istore_n (lv' := [(2, .int v6), (1, .int p2), (3, .int x3)]) hx hb dX8_isUnder_32 rfl hl (by decide) rfl (fun ls hl => ?_)
              obtain ⟨v7, e_v7⟩ : ∃ z : Int32, z = (x3 + 1) := ⟨_, rfl⟩
              have hf := nm_at hf e_v7
              refine lv_iinc (v := v7) (lv' := [(3, .int v7), (2, .int v6), (1, .int p2)]) hx hb dX8_isUnder_33 hl (k := 2) rfl (by rw [e_v7]; rfl) (by decide) rfl (fun ls hl => ?_)
              refine lv_goto (tgt := 4) hx hb dX8_isUnder_36 (by decide) ?_
              exact ih4 v6 v7 hf _ _ hP hD hS ls (lv_sub hl [2, 1, 0] rfl)
            · have hf := it hf c4
              refine lv_iconst (v := 1) hx hb dX8_isUnder_25 (by decide) ?_
              have e0 := rt1 hf
              exact W.zret (v := (1 : Int32)) hx hb hr rfl (fun t ht hW => ⟨⟨(1 : Int32), (), rfl, e0, by rw [ht]; exact hP, va_K.moved hW.alike hK, by rw [hAe]; exact hD⟩, hS.F ht⟩) hS.2.2 dX8_isUnder_26
  have E0 : ∀ (H : Heap) (locs : List Loc), va_P G vwCl [] H → va_D A [] → va_S A s.heap H locs → ∀ (ls : Array Slot), lv_has ls 4 [(0, .int p1), (1, .int p2)] → W p l e (headSpec wsX8_isUnder (rmk 0 0)).room s m [.int p1, .int p2].toArray below meth c H locs 0 0 (MQ below (va_Qi (fun (r : Int32) (_ : Unit) => r = rv) (Pst G (tys Y) [] s.heap.size []) A) [.int p1, .int p2].toArray s 0 0 A) (F0 m 0 ls []) := by
    intro H locs hP hD hS ls hl
    unfold f_X8_isUnder at hf
    refine lv_iload_n hx hb dX8_isUnder_0 rfl (lv_at hl 0 rfl) ?_
    refine lv_istore_n (lv' := [(2, .int p1), (0, .int p1), (1, .int p2)]) hx hb dX8_isUnder_1 rfl hl (by decide) rfl (fun ls hl => ?_)
    refine lv_iconst (v := 0) hx hb dX8_isUnder_2 (by decide) ?_
    refine lv_istore_n (lv' := [(3, .int (0 : Int32)), (2, .int p1), (0, .int p1), (1, .int p2)]) hx hb dX8_isUnder_3 rfl hl (by decide) rfl (fun ls hl => ?_)
    exact B4 70 p1 (0 : Int32) hf _ _ hP hD hS ls (lv_sub hl [3, 1, 0] rfl)
  exact E0 s.heap [] hP hD hS ls hl
