/-! the law, from its entry -/
theorem okI : okX xI := fun _ _ hW h => ⟨va_Nw.warmM hW h.1, va_Nw.warmM hW h.2.1, va_Nw.warmM hW h.2.2.1, va_Nw.warmM hW h.2.2.2.1, va_Nw.warmM hW h.2.2.2.2.1, va_Nw.warmM hW h.2.2.2.2.2.1, va_AO.moved hW.alike h.2.2.2.2.2.2.1, va_AO.moved hW.alike h.2.2.2.2.2.2.2⟩
theorem arr_ex {args : Array Value} {s : State} {ty : FieldType} (h : (Cond.arrayClass ty).before args s = true) : ∃ c, ArrOfT s c ty ∧ s.vm.findClass ("[" ++ ty.toString) = some c := by
  obtain ⟨c, k, comp, h1, h2, h3⟩ := Cond.arrayClass_spec h
  exact ⟨c, fun n z => ⟨fun k h => (by cases h), k, h2, comp, h3⟩, h1⟩
theorem arro_ex {args : Array Value} {s : State} {C : String} (h : (Cond.arrayOver (.object C)).before args s = true) : ∃ c, ArrOfT s c (.object C) ∧ va_RA s c (.object C) := by
  obtain ⟨comp, c, k, h1, h2, h3, h4, h5⟩ := Cond.arrayOver_spec h
  exact ⟨c, fun n z => ⟨fun k h => (by cases h), k, h3, comp, h4⟩, k, comp, h3, h4, h1, h5⟩
theorem tys_ex {args : Array Value} {s : State} (hts : ∀ w ∈ lw_tbl, w.before args s = true) : ∃ Y : Nat → ClassId, ∀ (k : Nat) (q : ClassId × FieldType), (tys Y)[k]? = some q → ArrOfT s q.1 q.2 ∧ va_RA s q.1 q.2 := by
  obtain ⟨c0, a0, b0⟩ := arr_ex (ty := .int) (hts _ (List.mem_of_getElem? (i := 131) rfl))
  obtain ⟨c1, a1, b1⟩ := arr_ex (ty := .long) (hts _ (List.mem_of_getElem? (i := 132) rfl))
  obtain ⟨c2, a2, b2⟩ := arr_ex (ty := .float) (hts _ (List.mem_of_getElem? (i := 285) rfl))
  obtain ⟨c3, a3, b3⟩ := arr_ex (ty := .double) (hts _ (List.mem_of_getElem? (i := 286) rfl))
  obtain ⟨c4, a4, b4⟩ := arro_ex (C := "PairedLines$Rack") (hts _ (List.mem_of_getElem? (i := 231) rfl))
  obtain ⟨c5, a5, b5⟩ := arro_ex (C := "PairedLines$Sheet") (hts _ (List.mem_of_getElem? (i := 233) rfl))
  refine ⟨fun k => if k = 0 then c0 else if k = 1 then c1 else if k = 2 then c2 else if k = 3 then c3 else if k = 4 then c4 else c5, ?_⟩
  intro k q hq
  match k, hq with
  | 0, hq => cases hq; exact ⟨a0, b0⟩
  | 1, hq => cases hq; exact ⟨a1, b1⟩
  | 2, hq => cases hq; exact ⟨a2, b2⟩
  | 3, hq => cases hq; exact ⟨a3, b3⟩
  | 4, hq => cases hq; exact ⟨a4, b4⟩
  | 5, hq => cases hq; exact ⟨a5, b5⟩
  | k + 6, hq => cases hq
set_option maxRecDepth 100000 in
theorem cls_ex {args : Array Value} {s : State} (hts : ∀ w ∈ lw_tbl, w.before args s = true) : ∃ (dC : Nat → ClassId) (dI : Nat → Nat → Nat), ∀ (k : Nat) (q : vw_C), vwCl[k]? = some q → u_Kn s q.1 q.2.1 q.2.2 (dC k) (dI k) := by
  obtain ⟨c0, i0, h0⟩ := u_known (C := RX1) (T := TX1) (N := 11) (n := 11) hts (fun w hw => (inT1 w hw).1) (hts _ (List.mem_of_getElem? (i := 80) rfl))
  obtain ⟨c1, i1, h1⟩ := u_known (C := RX2) (T := TX2) (N := 4) (n := 4) hts (fun w hw => (inT2 w hw).1) (hts _ (List.mem_of_getElem? (i := 234) rfl))
  obtain ⟨c2, i2, h2⟩ := u_known (C := RX3) (T := TX3) (N := 7) (n := 7) hts (fun w hw => (inT3 w hw).1) (hts _ (List.mem_of_getElem? (i := 255) rfl))
  obtain ⟨c3, i3, h3⟩ := u_known (C := RX4) (T := TX4) (N := 9) (n := 9) hts (fun w hw => (inT4 w hw).1) (hts _ (List.mem_of_getElem? (i := 134) rfl))
  obtain ⟨c4, i4, h4⟩ := u_known (C := RX5) (T := TX5) (N := 4) (n := 4) hts (fun w hw => (inT5 w hw).1) (hts _ (List.mem_of_getElem? (i := 171) rfl))
  obtain ⟨c5, i5, h5⟩ := u_known (C := RX6) (T := TX6) (N := 8) (n := 8) hts (fun w hw => (inT6 w hw).1) (hts _ (List.mem_of_getElem? (i := 193) rfl))
  obtain ⟨c6, i6, h6⟩ := u_known (C := RX8) (T := TX8) (N := 9) (n := 9) hts (fun w hw => (inT8 w hw).1) (hts _ (List.mem_of_getElem? (i := 72) rfl))
  obtain ⟨c7, i7, h7⟩ := u_known (C := RX9) (T := TX9) (N := 37) (n := 37) hts (fun w hw => (inT9 w hw).1) (hts _ (List.mem_of_getElem? (i := 888) rfl))
  refine ⟨fun k => if k = 0 then c0 else if k = 1 then c1 else if k = 2 then c2 else if k = 3 then c3 else if k = 4 then c4 else if k = 5 then c5 else if k = 6 then c6 else c7, fun k => if k = 0 then i0 else if k = 1 then i1 else if k = 2 then i2 else if k = 3 then i3 else if k = 4 then i4 else if k = 5 then i5 else if k = 6 then i6 else i7, ?_⟩
  intro k q hq
  match k, hq with
  | 0, hq => cases hq; exact h0
  | 1, hq => cases hq; exact h1
  | 2, hq => cases hq; exact h2
  | 3, hq => cases hq; exact h3
  | 4, hq => cases hq; exact h4
  | 5, hq => cases hq; exact h5
  | 6, hq => cases hq; exact h6
  | 7, hq => cases hq; exact h7
  | k + 8, hq => cases hq
set_option maxRecDepth 100000 in
theorem above_ex {b : Nat} {s : State} (hts : ∀ w ∈ lw_tbl, w.before #[Value.ref b] s = true) (hgv : (Jvm.Cond.and given_1 narrow_1).before #[Value.ref b] s = true) : ∃ zt, va_Z "PairedLines" "ABOVE" "[I" (.ref zt) (fun q : Nat => s.heap.size ≤ q) s s.heap ∧ va_T .int zt 6 (fun k => .int (abv k)) (fun q : Nat => s.heap.size ≤ q) s s.heap := by
  have hs := flat_of_before _ hgv
  have harr : (Cond.arrayOf (Jvm.Term.static "PairedLines" "ABOVE" "[I") .int).before #[Value.ref b] s = true := hs _ (by decide +kernel)
  have hlen : (Cond.eq (.length (Jvm.Term.static "PairedLines" "ABOVE" "[I")) (.int 6)).before #[Value.ref b] s = true := hs _ (by decide +kernel)
  have e0 : (Cond.eq (.elem (Jvm.Term.static "PairedLines" "ABOVE" "[I") (.int 0)) (.int (-1))).before #[Value.ref b] s = true := hs _ (by decide +kernel)
  have e1 : (Cond.eq (.elem (Jvm.Term.static "PairedLines" "ABOVE" "[I") (.int 1)) (.int (0))).before #[Value.ref b] s = true := hs _ (by decide +kernel)
  have e2 : (Cond.eq (.elem (Jvm.Term.static "PairedLines" "ABOVE" "[I") (.int 2)) (.int (0))).before #[Value.ref b] s = true := hs _ (by decide +kernel)
  have e3 : (Cond.eq (.elem (Jvm.Term.static "PairedLines" "ABOVE" "[I") (.int 3)) (.int (1))).before #[Value.ref b] s = true := hs _ (by decide +kernel)
  have e4 : (Cond.eq (.elem (Jvm.Term.static "PairedLines" "ABOVE" "[I") (.int 4)) (.int (2))).before #[Value.ref b] s = true := hs _ (by decide +kernel)
  have e5 : (Cond.eq (.elem (Jvm.Term.static "PairedLines" "ABOVE" "[I") (.int 5)) (.int (0))).before #[Value.ref b] s = true := hs _ (by decide +kernel)
  have hA : ∀ a : Nat, a < s.heap.size → ¬ (fun q : Nat => s.heap.size ≤ q) a := fun a h => Nat.not_le.mpr h
  obtain ⟨zt, h1, h2⟩ := va_Tof (tm := (Jvm.Term.static "PairedLines" "ABOVE" "[I")) (ty := .int) (N := 6) (f := fun k => .int (abv k)) (A := fun q : Nat => s.heap.size ≤ q) (by decide) harr (va_eqt hlen) (fun j hj => by
    rcases (show j = 0 ∨ j = 1 ∨ j = 2 ∨ j = 3 ∨ j = 4 ∨ j = 5 by omega) with rfl | rfl | rfl | rfl | rfl | rfl
    · exact va_eqt e0
    · exact va_eqt e1
    · exact va_eqt e2
    · exact va_eqt e3
    · exact va_eqt e4
    · exact va_eqt e5) hA
  exact ⟨zt, va_Zof (hts _ (List.mem_of_getElem? (i := 750) rfl)) (hts _ (List.mem_of_getElem? (i := 53) rfl)) h1 hA, h2⟩
theorem va_P.refs {D : va_G} {cl : List vw_C} {ws : va_W} {H : Heap} (h : va_P D cl ws H) {i a : Nat} {cA : ClassId} {n : Nat} {f g : Nat → Option Nat} (hi : ws[i]? = some (a, .inl (cA, n, .inr (.inr (.inr (.inr f)))))) (hfg : ∀ j, j < n → f j = g j) : va_P D cl (ws.set i (a, .inl (cA, n, .inr (.inr (.inr (.inr g)))))) H := by
  intro k q hq
  by_cases e : i = k
  · subst e
    have hlt : i < ws.length := (List.getElem?_eq_some_iff.mp hi).1
    rw [List.getElem?_set_self hlt] at hq
    obtain rfl := Option.some.inj hq
    have h1 : H[a]? = some (vp_cell cA (n, .inr (.inr (.inr (.inr f))))) := h i _ hi
    show H[a]? = some (vp_cell cA (n, .inr (.inr (.inr (.inr g)))))
    rw [h1, refs_congr hfg]
  · rw [List.getElem?_set_ne e] at hq
    exact h k q hq
theorem rack0 {k sz : Int32} (e : k = -1) (ez : sz = 0) : RackI (fun _ => 0) (fun _ => 0) (-1) 0 k sz (fun _ => 0) := ⟨e, ez, Or.inl rfl, ⟨0, by omega, rfl⟩, fun j _ => Or.inr ⟨0, 0, by omega, by omega, rfl, rfl, rfl⟩⟩
theorem sheet0 {k sz : Int32} (e : k = -1) (ez : sz = 0) : SheetI (fun _ => 0) (fun _ => 0) (fun _ => 0) (fun _ => 0) (fun _ => 0) (-1) 0 k sz (fun _ => 0) (fun _ => 0) (fun _ => 0) := by
  refine ⟨e, ez, Or.inl rfl, ⟨0, by omega, rfl⟩, fun j _ => ⟨fun h => absurd h (by decide), fun h => absurd h (by decide), fun h => absurd h (by decide), fun h => absurd h (by decide), ?_, ?_⟩⟩
  · show (0 : Nat) % 2 ^ 31 ≤ 190 * 2 ^ 23
    rw [Nat.zero_mod]
    exact Nat.zero_le _
  · show (0 : Nat) % 2 ^ 63 ≤ 1086 * 2 ^ 52
    rw [Nat.zero_mod]
    exact Nat.zero_le _
theorem net0 : NetI (fun _ => 0) (fun _ => 0) (fun _ => 0) (fun _ => 0) (fun _ => 0) (fun _ => 0) (fun _ => 0) 0 0 0 :=
  ⟨by omega, by omega, by omega, fun i _ => ⟨0, by omega, rfl⟩, fun i _ => ⟨0, by omega, rfl⟩, fun i h => absurd h (by omega), fun a b i j h => absurd h (by omega), fun a b _ _ => rfl, fun a _ => rfl, fun a _ => rfl⟩
theorem inv0 : INV 0 0 (fun _ => 0) (fun _ => 0) (fun _ => 0) (fun _ => 0) (fun _ => 0) (fun _ => 0) (fun _ => 0) 0 0 0 0 (fun _ => 0) (fun _ => 0) (fun _ => 0) (fun _ => 0) 0 0 0 (fun _ => 0) (fun _ => 0) (fun _ => 0) (fun _ => 0) (fun _ => 0) (fun _ => 0) 0 (-1) 0 (fun _ => 0) (fun _ => 0) (fun _ => 0) (fun _ => 0) (fun _ => 0) 0 (fun _ => 0) (fun _ => 0) (-1) 0 (fun _ => 0) (fun _ => 0) (-1) 0 (fun _ => 0) (fun _ => 0) (-1) 0 (fun _ => 0) (fun _ => 0) (fun _ => 0) (fun _ => 0) (fun _ => 0) (-1) 0 (fun _ => 0) (fun _ => 0) (fun _ => 0) (fun _ => 0) (fun _ => 0) (-1) 0 (fun _ => 0) (fun _ => 0) (fun _ => 0) (fun _ => 0) (fun _ => 0) (-1) 0 (fun _ => 0) (fun _ => 0) (fun _ => 0) (fun _ => 0) (fun _ => 0) (-1) 0 (fun _ => 0) (fun _ => 0) (fun _ => 0) 0 (upd (upd (upd (fun _ => 0) (0 : Int32).toNatClampNeg (-1)) (1 : Int32).toNatClampNeg (-1)) (2 : Int32).toNatClampNeg (-1)) (fun _ => 0) (fun _ => 0) (upd (upd (upd (upd (fun _ => 0) (0 : Int32).toNatClampNeg (-1)) (1 : Int32).toNatClampNeg (-1)) (2 : Int32).toNatClampNeg (-1)) (3 : Int32).toNatClampNeg (-1)) (fun _ => 0) (fun _ => 0) (fun _ => 0) (fun _ => 0) :=
  ⟨net0, Or.inl rfl, ⟨0, 0, rfl, Nat.le_refl _, Nat.le_refl _, 0, rfl, Nat.le_refl _, fun t _ => ⟨0, Nat.le_refl _, rfl⟩, fun k _ _ => rfl, rfl, Or.inl rfl, fun h => absurd h (by decide)⟩, ⟨0, by omega, rfl, rfl, fun j h => absurd h (by omega), Or.inl rfl⟩, rack0 (by decide) rfl, rack0 (by decide) rfl, rack0 (by decide) rfl, sheet0 (by decide) rfl, sheet0 (by decide) rfl, sheet0 (by decide) rfl, sheet0 (by decide) rfl⟩
