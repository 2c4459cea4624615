/-- the cells of a new PairedLines, by the addresses Q: 0 itself and its rows of RACKS and SHEETS, 1 net, 2 kept, 3 table, 4 terms, 5 grown, 6 spare, 7 .. 9 RACKS, 10 .. 13 SHEETS -/
abbrev nX8 (Y : Nat → ClassId) (Q : Nat → Nat → Nat) : va_W := ((Q 0 0, oX8 (Q 0) (Q 1 0) (Q 2 0) 0 (Q 3 0) (Q 4 0) (Q 5 0) (Q 6 0)) :: (nX1 Y (Q 1) ++ (nX1 Y (Q 2) ++ (nX4 Y (Q 3) ++ (nX5 Y (Q 4) ++ (nX6 Y (Q 5) ++ (nX6 Y (Q 6) ++ ([(Q 0 8, .inl (Y 4, 3, .inr (.inr (.inr (.inr (fun k => some (Q (7 + k) 0)))))))] ++ ([(Q 0 9, .inl (Y 5, 4, .inr (.inr (.inr (.inr (fun k => some (Q (10 + k) 0)))))))] ++ (nX2 Y (Q 7) ++ (nX2 Y (Q 8) ++ (nX2 Y (Q 9) ++ (nX3 Y (Q 10) ++ (nX3 Y (Q 11) ++ (nX3 Y (Q 12) ++ (nX3 Y (Q 13) ++ []))))))))))))))))
def xI (U : State) : Prop := va_Nw (.methodLinkNest RX8 11 yX1_init RX8) U ∧ va_Nw (.methodLinkNest RX8 25 yX4_init RX8) U ∧ va_Nw (.methodLinkNest RX8 32 yX5_init RX8) U ∧ va_Nw (.methodLinkNest RX8 39 yX6_init RX8) U ∧ va_Nw (.methodLinkNest RX8 59 yX2_init RX8) U ∧ va_Nw (.methodLinkNest RX8 60 yX3_init RX8) U ∧ va_AO RX2 U ∧ va_AO RX3 U
/-- a row of references is told by what stands in its places -/
theorem refs_congr {cA : ClassId} {n : Nat} {f g : Nat → Option Nat} (h : ∀ j, j < n → f j = g j) : vp_cell cA (n, .inr (.inr (.inr (.inr f)))) = vp_cell cA (n, .inr (.inr (.inr (.inr g)))) := by
  rw [vp_cell_q, vp_cell_q]
  unfold arrV
  have e : (Array.ofFn (n := n) fun j => va_rf (f j.val)) = Array.ofFn (n := n) fun j => va_rf (g j.val) := by
    congr 1
    funext j
    rw [h j.val j.isLt]
  rw [e]
/-- addresses that are apart: what lies there doesn't matter -/
theorem va_D_addr {A : Nat → Prop} {ws ws' : va_W} (h : ws.map (fun q => q.1) = ws'.map (fun q => q.1)) (hD : va_D A ws) : va_D A ws' := by
  have key : ∀ (k : Nat) (q : Nat × va_E), ws'[k]? = some q → ∃ r, ws[k]? = some r ∧ r.1 = q.1 := by
    intro k q hq
    have h1 : (ws'.map (fun q => q.1))[k]? = some q.1 := by rw [List.getElem?_map, hq]; rfl
    rw [← h, List.getElem?_map] at h1
    cases hr : ws[k]? with
    | none => rw [hr] at h1; cases h1
    | some r => rw [hr] at h1; exact ⟨r, rfl, Option.some.inj h1⟩
  refine ⟨fun i j p q hp hq e => ?_, fun k q hq => ?_⟩
  · obtain ⟨p', h1, e1⟩ := key i p hp
    obtain ⟨q', h2, e2⟩ := key j q hq
    exact hD.1 i j p' q' h1 h2 (by rw [e1, e2, e])
  · obtain ⟨r, h1, e1⟩ := key k q hq
    rw [← e1]
    exact hD.2 k r h1
section
variable {p : Program} {l : Launch} {e : Env} {R : Room} {s : State} {m : MethodId} {args : Array Value} {below : List Frame} {meth : Method} {c : Code} {H H0 : Heap} {locs : List Loc} {Q : State → Prop} {A0 : Nat → Prop} {G : va_G} {T : List (ClassId × FieldType)} {ws wc wr : va_W} {y : MethodName} {bytes cc : ByteArray} {maxL nL index cells slots mc ms : Nat} {wy : List Cond} {rm : Room} {Qc : Array Value → State → Outcome → State → Prop} {Ts : List Cond} {own host : String} {b : Addr} {rest : List Value} {pc : Nat} {ls : Array Slot} {st0 : List Value} {av : Array Value} {N1 : (Nat → Nat) → va_W}
theorem rnI (S : CallFix p m c cc nL s args Ts own) (hM : Met l y wy rm (va_Pc [.ref b] (Pre G T wc H.size xT)) Qc mc ms (va_A wc H.size)) (cw : va_CN R s args own index y host bytes maxL none wy rm mc ms 0 ∧ y.name = "<init>" ∧ (Cond.instanceMethod y).before args s = true) (hK : va_K G vwCl T s) (hP : va_P G vwCl ws H) (hD : va_D A0 ws) (isC : List Nat) (hC : isC.map (fun i => ws[i]?) = wc.map some) (hnC : va_nd isC = true)
    (hsize : ls.size = nL) (hstack : st0 = .ref b :: rest) (hW : (rest.map fun v => v.category).sum ≤ 8) (hdg : decode cc pc = .ok (.invokespecial index, 3)) (hf : cells + mc ≤ R.cells ∧ slots + ms ≤ R.slots) :
    va_Run p l e R s m args below meth c H locs cells slots mc ms (F0 m pc ls st0) rest (Qc #[Value.ref b]) (va_A wc H.size) := by
  have hPc := hP.sub isC (map_some_fm _ hC)
  have hDc := hD.sub isC hnC hC
  exact va_runIN (As := []) (g := F0 m pc ls st0) S hM cw ⟨Pre_blind okT _, fun U hU hW => ⟨rfl, by rw [hU], by rw [hU]; exact hPc, va_K.moved hW.alike hK, hDc.weaken (fun _ _ _ _ => trivial), trivial⟩⟩ rfl rfl hsize hstack (lv_room hW) hdg hf
theorem cl_new (hr : va_Run p l e R s m args below meth c H locs cells slots mc ms (F0 m pc ls st0) rest (va_Qv (fun (q : Nat → Nat) => q 0 = b) (fun q t => va_P G vwCl (N1 q) t.heap ∧ va_K G vwCl T t ∧ va_D (va_A wc H.size) (N1 q)) (va_A wc H.size) av) (va_A wc H.size)) (hP : va_P G vwCl ws H) (hD : va_D A0 ws) (hS : va_S A0 H0 H locs) (hA : ∀ q, H0.size ≤ q → A0 q) (isC isR : List Nat) (hC : isC.map (fun i => ws[i]?) = wc.map some) (hR : isR.map (fun i => ws[i]?) = wr.map some) (hn : va_nd isR = true) (hdis : ∀ i ∈ isR, i ∉ isC)
    (kk : ∀ (q : Nat → Nat) (H1 : Heap) (locs1 : List Loc), q 0 = b → va_P G vwCl (wr ++ N1 q) H1 → va_D A0 (wr ++ N1 q) → va_S A0 H0 H1 locs1 → W p l e R s m args below meth c H1 locs1 (cells + mc) (slots + ms) Q (F0 m (pc + 3) ls rest)) : W p l e R s m args below meth c H locs cells slots Q (F0 m pc ls st0) := by
  have hFc := va_free hD hS hA isC hC
  refine va_callv hr hS (fun q _ h => hFc q h) hFc (fun u t H1 locs1 ht hvm hw hB hz hk hS1 => ?_)
  obtain ⟨hP1, hK1, hD1⟩ := hB
  rw [ht] at hP1
  obtain ⟨hP2, hD2⟩ := va_join hP hD isC isR hC hR hn hdis hk hFc hP1 hD1
  exact kk u H1 locs1 hw hP2 hD2 hS1
end
set_option maxRecDepth 100000 in
set_option maxHeartbeats 8000000 in
theorem c_X8_init (l : Launch) (G : va_G) (Y : Nat → ClassId) (sz h0 : Nat) : Met l yX8_init wsX8_init ({ frames := 2, cells := 76, slots := 11587, locals := 200 }) (va_Pc [.ref h0] (Pre G (tys Y) [(h0, .inr (6, [.null, .null, .int 0, .null, .null, .null, .null, .null, .null]))] sz xI)) (va_Qv (fun (Q : Nat → Nat → Nat) => Q 0 0 = h0) (fun Q t => va_P G vwCl (nX8 Y Q) t.heap ∧ va_K G vwCl (tys Y) t ∧ va_D (va_A [(h0, .inr (6, [.null, .null, .int 0, .null, .null, .null, .null, .null, .null]))] sz) (nX8 Y Q)) (va_A [(h0, .inr (6, [.null, .null, .int 0, .null, .null, .null, .null, .null, .null]))] sz)) 76 11587 (va_A [(h0, .inr (6, [.null, .null, .int 0, .null, .null, .null, .null, .null, .null]))] sz) := by
  refine Met.ofW (cc := cX8_init) (maxL := 2) (ret := none) (by decide) rfl ?_
  intro p e s m args below meth c s₁ B hml hv
  obtain ⟨rfl, hsz, hP, hK, hD0, hX⟩ := hv
  have hx := B.exec
  have hb := B.bytes
  have hr := B.returns
  have hts := atoms_spec (ws := wsX8_init) B.pre
  have hown : s.vm.findClass RX8 = some m.cls := findClass_of_methodNamed B.named
  have hlocks := B.notSynchronized
  have hin : meth.name = "<init>" := (name_of_methodNamed B.named B.method).1
  subst hsz
  have hD := hD0.self (sz := s.heap.size)
  generalize hAe : va_A [(h0, .inr (6, [.null, .null, .int 0, .null, .null, .null, .null, .null, .null]))] s.heap.size = A at hD ⊢
  have hA : ∀ q : Nat, s.heap.size ≤ q → A q := fun q h => by rw [← hAe]; exact Or.inr h
  have hS : va_S A s.heap s.heap [] := va_S.rf
  have hP : va_P G vwCl [(h0, .inr (6, [.null, .null, .int 0, .null, .null, .null, .null, .null, .null]))] s.heap := hP
  have wd1 : (Cond.methodLink RX8 3 objectInit).before [Value.ref h0].toArray s = true := hts _ (List.mem_of_getElem? (i := 1) rfl)
  have wd2 : (Cond.instanceMethod objectInit).before [Value.ref h0].toArray s = true := hts _ (List.mem_of_getElem? (i := 2) rfl)
  have wd3 : (Cond.code objectInit ⟨#[0xb1]⟩ 1 none).before [Value.ref h0].toArray s = true := hts _ (List.mem_of_getElem? (i := 3) rfl)
  have wd4 : (Cond.classLink RX8 9 RX1).before [Value.ref h0].toArray s = true := hts _ (List.mem_of_getElem? (i := 4) rfl)
  have wd5 : (Cond.instantiable RX1 11).before [Value.ref h0].toArray s = true := hts _ (List.mem_of_getElem? (i := 5) rfl)
  have wd6 : (Cond.initialized RX1).before [Value.ref h0].toArray s = true := hts _ (List.mem_of_getElem? (i := 6) rfl)
  have wd7 : (Cond.fieldLink RX8 12 "PairedLines" "net" "LPairedLines$Net;").before [Value.ref h0].toArray s = true := hts _ (List.mem_of_getElem? (i := 7) rfl)
  have wd8 : (Cond.fieldLink RX8 16 "PairedLines" "kept" "LPairedLines$Net;").before [Value.ref h0].toArray s = true := hts _ (List.mem_of_getElem? (i := 8) rfl)
  have wd9 : (Cond.fieldLink RX8 19 "PairedLines" "isKept" "Z").before [Value.ref h0].toArray s = true := hts _ (List.mem_of_getElem? (i := 9) rfl)
  have wd10 : (Cond.classLink RX8 23 RX4).before [Value.ref h0].toArray s = true := hts _ (List.mem_of_getElem? (i := 10) rfl)
  have wd11 : (Cond.instantiable RX4 9).before [Value.ref h0].toArray s = true := hts _ (List.mem_of_getElem? (i := 11) rfl)
  have wd12 : (Cond.initialized RX4).before [Value.ref h0].toArray s = true := hts _ (List.mem_of_getElem? (i := 12) rfl)
  have wd13 : (Cond.fieldLink RX8 26 "PairedLines" "table" "LPairedLines$Table;").before [Value.ref h0].toArray s = true := hts _ (List.mem_of_getElem? (i := 13) rfl)
  have wd14 : (Cond.classLink RX8 30 RX5).before [Value.ref h0].toArray s = true := hts _ (List.mem_of_getElem? (i := 14) rfl)
  have wd15 : (Cond.instantiable RX5 4).before [Value.ref h0].toArray s = true := hts _ (List.mem_of_getElem? (i := 15) rfl)
  have wd16 : (Cond.initialized RX5).before [Value.ref h0].toArray s = true := hts _ (List.mem_of_getElem? (i := 16) rfl)
  have wd17 : (Cond.fieldLink RX8 33 "PairedLines" "terms" "LPairedLines$Terms;").before [Value.ref h0].toArray s = true := hts _ (List.mem_of_getElem? (i := 17) rfl)
  have wd18 : (Cond.classLink RX8 37 RX6).before [Value.ref h0].toArray s = true := hts _ (List.mem_of_getElem? (i := 18) rfl)
  have wd19 : (Cond.instantiable RX6 8).before [Value.ref h0].toArray s = true := hts _ (List.mem_of_getElem? (i := 19) rfl)
  have wd20 : (Cond.initialized RX6).before [Value.ref h0].toArray s = true := hts _ (List.mem_of_getElem? (i := 20) rfl)
  have wd21 : (Cond.fieldLink RX8 40 "PairedLines" "grown" "LPairedLines$Tree;").before [Value.ref h0].toArray s = true := hts _ (List.mem_of_getElem? (i := 21) rfl)
  have wd22 : (Cond.fieldLink RX8 44 "PairedLines" "spare" "LPairedLines$Tree;").before [Value.ref h0].toArray s = true := hts _ (List.mem_of_getElem? (i := 22) rfl)
  have wd23 : (Cond.classLink RX8 47 RX2).before [Value.ref h0].toArray s = true := hts _ (List.mem_of_getElem? (i := 23) rfl)
  have wd24 : (Cond.fieldLink RX8 49 "PairedLines" "racks" "[LPairedLines$Rack;").before [Value.ref h0].toArray s = true := hts _ (List.mem_of_getElem? (i := 24) rfl)
  have wd25 : (Cond.classLink RX8 53 RX3).before [Value.ref h0].toArray s = true := hts _ (List.mem_of_getElem? (i := 25) rfl)
  have wd26 : (Cond.fieldLink RX8 55 "PairedLines" "sheets" "[LPairedLines$Sheet;").before [Value.ref h0].toArray s = true := hts _ (List.mem_of_getElem? (i := 26) rfl)
  have wd27 : (Cond.instantiable RX2 4).before [Value.ref h0].toArray s = true := hts _ (List.mem_of_getElem? (i := 27) rfl)
  have wd28 : (Cond.initialized RX2).before [Value.ref h0].toArray s = true := hts _ (List.mem_of_getElem? (i := 28) rfl)
  have wd29 : (Cond.instantiable RX3 7).before [Value.ref h0].toArray s = true := hts _ (List.mem_of_getElem? (i := 29) rfl)
  have wd30 : (Cond.initialized RX3).before [Value.ref h0].toArray s = true := hts _ (List.mem_of_getElem? (i := 30) rfl)
  have wd31 : (Cond.instanceMethod yX1_init).before [Value.ref h0].toArray s = true := hts _ (List.mem_of_getElem? (i := 31) rfl)
  have wd47 : (Cond.instanceMethod yX4_init).before [Value.ref h0].toArray s = true := hts _ (List.mem_of_getElem? (i := 47) rfl)
  have wd59 : (Cond.instanceMethod yX5_init).before [Value.ref h0].toArray s = true := hts _ (List.mem_of_getElem? (i := 59) rfl)
  have wd66 : (Cond.instanceMethod yX6_init).before [Value.ref h0].toArray s = true := hts _ (List.mem_of_getElem? (i := 66) rfl)
  have wd77 : (Cond.instanceMethod yX2_init).before [Value.ref h0].toArray s = true := hts _ (List.mem_of_getElem? (i := 77) rfl)
  have wd84 : (Cond.instanceMethod yX3_init).before [Value.ref h0].toArray s = true := hts _ (List.mem_of_getElem? (i := 84) rfl)
  have inX1w : ∀ w ∈ u_ws RX1 TX1 11, w ∈ wsX8_init := fun w hw => List.mem_cons_of_mem _ (List.mem_append_left _ (List.mem_append_left _ (List.mem_append_left _ (List.mem_append_left _ (List.mem_append_left _ (List.mem_append_left _ (List.mem_append_right _ (hw))))))))
  have inX2w : ∀ w ∈ u_ws RX2 TX2 4, w ∈ wsX8_init := fun w hw => List.mem_cons_of_mem _ (List.mem_append_left _ (List.mem_append_right _ (hw)))
  have inX3w : ∀ w ∈ u_ws RX3 TX3 7, w ∈ wsX8_init := fun w hw => List.mem_cons_of_mem _ (List.mem_append_right _ (hw))
  have inX4w : ∀ w ∈ u_ws RX4 TX4 9, w ∈ wsX8_init := fun w hw => List.mem_cons_of_mem _ (List.mem_append_left _ (List.mem_append_left _ (List.mem_append_left _ (List.mem_append_left _ (List.mem_append_right _ (hw))))))
  have inX5w : ∀ w ∈ u_ws RX5 TX5 4, w ∈ wsX8_init := fun w hw => List.mem_cons_of_mem _ (List.mem_append_left _ (List.mem_append_left _ (List.mem_append_left _ (List.mem_append_right _ (hw)))))
  have inX6w : ∀ w ∈ u_ws RX6 TX6 8, w ∈ wsX8_init := fun w hw => List.mem_cons_of_mem _ (List.mem_append_left _ (List.mem_append_left _ (List.mem_append_right _ (hw))))
  have inX8w : ∀ w ∈ u_ws RX8 TX8 9, w ∈ wsX8_init := fun w hw => List.mem_cons_of_mem _ (List.mem_append_left _ (List.mem_append_left _ (List.mem_append_left _ (List.mem_append_left _ (List.mem_append_left _ (List.mem_append_right _ (hw)))))))
  have hl := lv_entry ([.ref h0]) (n := 2) (Nat.le_of_ble_eq_true rfl)
  rw [lg_entry_eq]
  generalize (lg_sl ([.ref h0]) ++ List.replicate (2 - (lg_sl ([.ref h0])).length) Slot.unset).toArray = ls at hl ⊢
  have hl : lv_has ls 2 [(0, .ref h0)] := hl
  obtain ⟨H, hH⟩ : ∃ H : Heap, H = s.heap := ⟨_, rfl⟩
  refine lv_aload_n hx hb dX8_init_0 rfl (lv_at hl 0 rfl) ?_
  refine W.objInit hx hb hown wd1 wd2 wd3 rfl (by rw [hml]; exact hl.1) rfl dX8_init_1 (Nat.le_of_ble_eq_true rfl) (Nat.le_of_ble_eq_true rfl) ?_
  refine W.eq (g2 := F0 m 4 ls []) rfl ?_
  refine lv_aload_n hx hb dX8_init_4 rfl (lv_at hl 0 rfl) ?_
  refine va_new (ci := 0) (fs := [.null, .null, .null, .null, .null, .null, .null, .int 0, .int 0, .int 0, .int 0]) (C := RX1) (T := TX1) (N := 11) hx hb hts inX1w tyX1 tyX1_ok hown wd4 wd5 wd6 hK hP hD hS hA rfl (fun j hj => by rcases (show j = 0 ∨ j = 1 ∨ j = 2 ∨ j = 3 ∨ j = 4 ∨ j = 5 ∨ j = 6 ∨ j = 7 ∨ j = 8 ∨ j = 9 ∨ j = 10 by omega) with rfl | rfl | rfl | rfl | rfl | rfl | rfl | rfl | rfl | rfl | rfl <;> rfl) (Nat.le_of_ble_eq_true rfl) (Nat.le_of_ble_eq_true rfl) dX8_init_5 (fun b5 H hP hD hS => ?_)
  refine W.widen (k := 1) (n := 11) (Nat.le_of_ble_eq_true rfl) (Nat.le_of_ble_eq_true rfl) ?_
  have hP : va_P G vwCl ((h0, .inr (6, [.null, .null, .int 0, .null, .null, .null, .null, .null, .null])) :: ([(b5, .inr (0, [.null, .null, .null, .null, .null, .null, .null, .int 0, .int 0, .int 0, .int 0]))] ++ [])) H := hP
  have hD : va_D A ((h0, .inr (6, [.null, .null, .int 0, .null, .null, .null, .null, .null, .null])) :: ([(b5, .inr (0, [.null, .null, .null, .null, .null, .null, .null, .int 0, .int 0, .int 0, .int 0]))] ++ [])) := hD
  refine lv_dup hx hb dX8_init_8 rfl ?_
  refine cl_new (wr := ((h0, .inr (6, [.null, .null, .int 0, .null, .null, .null, .null, .null, .null])) :: [])) (N1 := fun q => nX1 Y q) (rnI (rest := [.ref b5, .ref h0]) ⟨hx, hb, hml, hown, hts⟩ (c_X1_init l G Y H.size b5) ⟨va_cnB 0 hts gX8_init_X1_init_n11 rfl rfl rfl hX.1 wd6 (by decide +kernel) ⟨(Nat.le_of_ble_eq_true rfl), (Nat.le_of_ble_eq_true rfl)⟩, rfl, wd31⟩ hK hP hD [1] rfl rfl hl.1 rfl (Nat.le_of_ble_eq_true rfl) dX8_init_9 ⟨(Nat.le_of_ble_eq_true rfl), (Nat.le_of_ble_eq_true rfl)⟩) hP hD hS hA [1] [0] rfl rfl rfl (by decide) (fun qn H locs eqn hP hD hS => ?_)
  rw [← eqn]
  refine W.widen (k := 8) (n := 339) (Nat.le_of_ble_eq_true rfl) (Nat.le_of_ble_eq_true rfl) ?_
  have hP : va_P G vwCl ((h0, .inr (6, [.null, .null, .int 0, .null, .null, .null, .null, .null, .null])) :: (nX1 Y qn ++ [])) H := hP
  have hD : va_D A ((h0, .inr (6, [.null, .null, .int 0, .null, .null, .null, .null, .null, .null])) :: (nX1 Y qn ++ [])) := hD
  refine va_putF (D := G) (ci := 6) (v := .ref (qn 0)) (ty := .object "PairedLines$Net") (C := RX8) (T := TX8) (N := 9) hx hb hts inX8w tyX8 tyX8_ok nmX8 hown hK hP hD hS 0 rfl rfl 0 (by decide) wd7 (fun _ h9 => h9) rfl hin rfl (by decide +kernel) rfl rfl (Nat.le_of_ble_eq_true rfl) dX8_init_12 (fun H locs hP hD hS => ?_)
  have hP : va_P G vwCl ((h0, .inr (6, [.ref (qn 0), .null, .int 0, .null, .null, .null, .null, .null, .null])) :: (nX1 Y qn ++ [])) H := hP
  have hD : va_D A ((h0, .inr (6, [.ref (qn 0), .null, .int 0, .null, .null, .null, .null, .null, .null])) :: (nX1 Y qn ++ [])) := hD
  refine lv_aload_n hx hb dX8_init_15 rfl (lv_at hl 0 rfl) ?_
  refine va_new (ci := 0) (fs := [.null, .null, .null, .null, .null, .null, .null, .int 0, .int 0, .int 0, .int 0]) (C := RX1) (T := TX1) (N := 11) hx hb hts inX1w tyX1 tyX1_ok hown wd4 wd5 wd6 hK hP hD hS hA rfl (fun j hj => by rcases (show j = 0 ∨ j = 1 ∨ j = 2 ∨ j = 3 ∨ j = 4 ∨ j = 5 ∨ j = 6 ∨ j = 7 ∨ j = 8 ∨ j = 9 ∨ j = 10 by omega) with rfl | rfl | rfl | rfl | rfl | rfl | rfl | rfl | rfl | rfl | rfl <;> rfl) (Nat.le_of_ble_eq_true rfl) (Nat.le_of_ble_eq_true rfl) dX8_init_16 (fun b16 H hP hD hS => ?_)
  refine W.widen (k := 9) (n := 350) (Nat.le_of_ble_eq_true rfl) (Nat.le_of_ble_eq_true rfl) ?_
  have hP : va_P G vwCl ((h0, .inr (6, [.ref (qn 0), .null, .int 0, .null, .null, .null, .null, .null, .null])) :: (nX1 Y qn ++ ([(b16, .inr (0, [.null, .null, .null, .null, .null, .null, .null, .int 0, .int 0, .int 0, .int 0]))] ++ []))) H := hP
  have hD : va_D A ((h0, .inr (6, [.ref (qn 0), .null, .int 0, .null, .null, .null, .null, .null, .null])) :: (nX1 Y qn ++ ([(b16, .inr (0, [.null, .null, .null, .null, .null, .null, .null, .int 0, .int 0, .int 0, .int 0]))] ++ []))) := hD
  refine lv_dup hx hb dX8_init_19 rfl ?_
  refine cl_new (wr := ((h0, .inr (6, [.ref (qn 0), .null, .int 0, .null, .null, .null, .null, .null, .null])) :: (nX1 Y qn ++ []))) (N1 := fun q => nX1 Y q) (rnI (rest := [.ref b16, .ref h0]) ⟨hx, hb, hml, hown, hts⟩ (c_X1_init l G Y H.size b16) ⟨va_cnB 0 hts gX8_init_X1_init_n11 rfl rfl rfl hX.1 wd6 (by decide +kernel) ⟨(Nat.le_of_ble_eq_true rfl), (Nat.le_of_ble_eq_true rfl)⟩, rfl, wd31⟩ hK hP hD [9] rfl rfl hl.1 rfl (Nat.le_of_ble_eq_true rfl) dX8_init_20 ⟨(Nat.le_of_ble_eq_true rfl), (Nat.le_of_ble_eq_true rfl)⟩) hP hD hS hA [9] [0, 1, 2, 3, 4, 5, 6, 7, 8] rfl rfl rfl (by decide) (fun qk H locs eqk hP hD hS => ?_)
  rw [← eqk]
  refine W.widen (k := 16) (n := 678) (Nat.le_of_ble_eq_true rfl) (Nat.le_of_ble_eq_true rfl) ?_
  have hP : va_P G vwCl ((h0, .inr (6, [.ref (qn 0), .null, .int 0, .null, .null, .null, .null, .null, .null])) :: (nX1 Y qn ++ (nX1 Y qk ++ []))) H := hP
  have hD : va_D A ((h0, .inr (6, [.ref (qn 0), .null, .int 0, .null, .null, .null, .null, .null, .null])) :: (nX1 Y qn ++ (nX1 Y qk ++ []))) := hD
  refine va_putF (D := G) (ci := 6) (v := .ref (qk 0)) (ty := .object "PairedLines$Net") (C := RX8) (T := TX8) (N := 9) hx hb hts inX8w tyX8 tyX8_ok nmX8 hown hK hP hD hS 0 rfl rfl 1 (by decide) wd8 (fun _ h9 => h9) rfl hin rfl (by decide +kernel) rfl rfl (Nat.le_of_ble_eq_true rfl) dX8_init_23 (fun H locs hP hD hS => ?_)
  have hP : va_P G vwCl ((h0, .inr (6, [.ref (qn 0), .ref (qk 0), .int 0, .null, .null, .null, .null, .null, .null])) :: (nX1 Y qn ++ (nX1 Y qk ++ []))) H := hP
  have hD : va_D A ((h0, .inr (6, [.ref (qn 0), .ref (qk 0), .int 0, .null, .null, .null, .null, .null, .null])) :: (nX1 Y qn ++ (nX1 Y qk ++ []))) := hD
  refine lv_aload_n hx hb dX8_init_26 rfl (lv_at hl 0 rfl) ?_
  refine lv_iconst (v := 0) hx hb dX8_init_27 (by decide) ?_
  refine va_put (D := G) (ci := 6) (v := .int 0) (ty := .boolean) (C := RX8) (T := TX8) (N := 9) hx hb hts inX8w tyX8 tyX8_ok nmX8 hown hK hP hD hS 0 rfl rfl 2 (by decide) wd9 (fun _ h9 => h9) rfl (by decide +kernel) rfl rfl (Nat.le_of_ble_eq_true rfl) dX8_init_28 (fun H locs hP hD hS => ?_)
  have hP : va_P G vwCl ((h0, .inr (6, [.ref (qn 0), .ref (qk 0), .int 0, .null, .null, .null, .null, .null, .null])) :: (nX1 Y qn ++ (nX1 Y qk ++ []))) H := hP
  have hD : va_D A ((h0, .inr (6, [.ref (qn 0), .ref (qk 0), .int 0, .null, .null, .null, .null, .null, .null])) :: (nX1 Y qn ++ (nX1 Y qk ++ []))) := hD
  refine lv_aload_n hx hb dX8_init_31 rfl (lv_at hl 0 rfl) ?_
  refine va_new (ci := 3) (fs := [.null, .null, .null, .null, .null, .null, .int 0, .int 0, .int 0]) (C := RX4) (T := TX4) (N := 9) hx hb hts inX4w tyX4 tyX4_ok hown wd10 wd11 wd12 hK hP hD hS hA rfl (fun j hj => by rcases (show j = 0 ∨ j = 1 ∨ j = 2 ∨ j = 3 ∨ j = 4 ∨ j = 5 ∨ j = 6 ∨ j = 7 ∨ j = 8 by omega) with rfl | rfl | rfl | rfl | rfl | rfl | rfl | rfl | rfl <;> rfl) (Nat.le_of_ble_eq_true rfl) (Nat.le_of_ble_eq_true rfl) dX8_init_32 (fun b32 H hP hD hS => ?_)
  refine W.widen (k := 17) (n := 687) (Nat.le_of_ble_eq_true rfl) (Nat.le_of_ble_eq_true rfl) ?_
  have hP : va_P G vwCl ((h0, .inr (6, [.ref (qn 0), .ref (qk 0), .int 0, .null, .null, .null, .null, .null, .null])) :: (nX1 Y qn ++ (nX1 Y qk ++ ([(b32, .inr (3, [.null, .null, .null, .null, .null, .null, .int 0, .int 0, .int 0]))] ++ [])))) H := hP
  have hD : va_D A ((h0, .inr (6, [.ref (qn 0), .ref (qk 0), .int 0, .null, .null, .null, .null, .null, .null])) :: (nX1 Y qn ++ (nX1 Y qk ++ ([(b32, .inr (3, [.null, .null, .null, .null, .null, .null, .int 0, .int 0, .int 0]))] ++ [])))) := hD
  refine lv_dup hx hb dX8_init_35 rfl ?_
  refine cl_new (wr := ((h0, .inr (6, [.ref (qn 0), .ref (qk 0), .int 0, .null, .null, .null, .null, .null, .null])) :: (nX1 Y qn ++ (nX1 Y qk ++ [])))) (N1 := fun q => nX4 Y q) (rnI (rest := [.ref b32, .ref h0]) ⟨hx, hb, hml, hown, hts⟩ (c_X4_init l G Y H.size b32) ⟨va_cnB 0 hts gX8_init_X4_init_n25 rfl rfl rfl hX.2.1 wd12 (by decide +kernel) ⟨(Nat.le_of_ble_eq_true rfl), (Nat.le_of_ble_eq_true rfl)⟩, rfl, wd47⟩ hK hP hD [17] rfl rfl hl.1 rfl (Nat.le_of_ble_eq_true rfl) dX8_init_36 ⟨(Nat.le_of_ble_eq_true rfl), (Nat.le_of_ble_eq_true rfl)⟩) hP hD hS hA [17] [0, 1, 2, 3, 4, 5, 6, 7, 8, 9, 10, 11, 12, 13, 14, 15, 16] rfl rfl rfl (by decide) (fun qt H locs eqt hP hD hS => ?_)
  rw [← eqt]
  refine W.widen (k := 23) (n := 5993) (Nat.le_of_ble_eq_true rfl) (Nat.le_of_ble_eq_true rfl) ?_
  have hP : va_P G vwCl ((h0, .inr (6, [.ref (qn 0), .ref (qk 0), .int 0, .null, .null, .null, .null, .null, .null])) :: (nX1 Y qn ++ (nX1 Y qk ++ (nX4 Y qt ++ [])))) H := hP
  have hD : va_D A ((h0, .inr (6, [.ref (qn 0), .ref (qk 0), .int 0, .null, .null, .null, .null, .null, .null])) :: (nX1 Y qn ++ (nX1 Y qk ++ (nX4 Y qt ++ [])))) := hD
  refine va_putF (D := G) (ci := 6) (v := .ref (qt 0)) (ty := .object "PairedLines$Table") (C := RX8) (T := TX8) (N := 9) hx hb hts inX8w tyX8 tyX8_ok nmX8 hown hK hP hD hS 0 rfl rfl 3 (by decide) wd13 (fun _ h9 => h9) rfl hin rfl (by decide +kernel) rfl rfl (Nat.le_of_ble_eq_true rfl) dX8_init_39 (fun H locs hP hD hS => ?_)
  have hP : va_P G vwCl ((h0, .inr (6, [.ref (qn 0), .ref (qk 0), .int 0, .ref (qt 0), .null, .null, .null, .null, .null])) :: (nX1 Y qn ++ (nX1 Y qk ++ (nX4 Y qt ++ [])))) H := hP
  have hD : va_D A ((h0, .inr (6, [.ref (qn 0), .ref (qk 0), .int 0, .ref (qt 0), .null, .null, .null, .null, .null])) :: (nX1 Y qn ++ (nX1 Y qk ++ (nX4 Y qt ++ [])))) := hD
  refine lv_aload_n hx hb dX8_init_42 rfl (lv_at hl 0 rfl) ?_
  refine va_new (ci := 4) (fs := [.null, .long 0, .long 0, .long 0]) (C := RX5) (T := TX5) (N := 4) hx hb hts inX5w tyX5 tyX5_ok hown wd14 wd15 wd16 hK hP hD hS hA rfl (fun j hj => by rcases (show j = 0 ∨ j = 1 ∨ j = 2 ∨ j = 3 by omega) with rfl | rfl | rfl | rfl <;> rfl) (Nat.le_of_ble_eq_true rfl) (Nat.le_of_ble_eq_true rfl) dX8_init_43 (fun b43 H hP hD hS => ?_)
  refine W.widen (k := 24) (n := 5997) (Nat.le_of_ble_eq_true rfl) (Nat.le_of_ble_eq_true rfl) ?_
  have hP : va_P G vwCl ((h0, .inr (6, [.ref (qn 0), .ref (qk 0), .int 0, .ref (qt 0), .null, .null, .null, .null, .null])) :: (nX1 Y qn ++ (nX1 Y qk ++ (nX4 Y qt ++ ([(b43, .inr (4, [.null, .long 0, .long 0, .long 0]))] ++ []))))) H := hP
  have hD : va_D A ((h0, .inr (6, [.ref (qn 0), .ref (qk 0), .int 0, .ref (qt 0), .null, .null, .null, .null, .null])) :: (nX1 Y qn ++ (nX1 Y qk ++ (nX4 Y qt ++ ([(b43, .inr (4, [.null, .long 0, .long 0, .long 0]))] ++ []))))) := hD
  refine lv_dup hx hb dX8_init_46 rfl ?_
  refine cl_new (wr := ((h0, .inr (6, [.ref (qn 0), .ref (qk 0), .int 0, .ref (qt 0), .null, .null, .null, .null, .null])) :: (nX1 Y qn ++ (nX1 Y qk ++ (nX4 Y qt ++ []))))) (N1 := fun q => nX5 Y q) (rnI (rest := [.ref b43, .ref h0]) ⟨hx, hb, hml, hown, hts⟩ (c_X5_init l G Y H.size b43) ⟨va_cnB 0 hts gX8_init_X5_init_n32 rfl rfl rfl hX.2.2.1 wd16 (by decide +kernel) ⟨(Nat.le_of_ble_eq_true rfl), (Nat.le_of_ble_eq_true rfl)⟩, rfl, wd59⟩ hK hP hD [24] rfl rfl hl.1 rfl (Nat.le_of_ble_eq_true rfl) dX8_init_47 ⟨(Nat.le_of_ble_eq_true rfl), (Nat.le_of_ble_eq_true rfl)⟩) hP hD hS hA [24] [0, 1, 2, 3, 4, 5, 6, 7, 8, 9, 10, 11, 12, 13, 14, 15, 16, 17, 18, 19, 20, 21, 22, 23] rfl rfl rfl (by decide) (fun qm H locs eqm hP hD hS => ?_)
  rw [← eqm]
  refine W.widen (k := 25) (n := 6004) (Nat.le_of_ble_eq_true rfl) (Nat.le_of_ble_eq_true rfl) ?_
  have hP : va_P G vwCl ((h0, .inr (6, [.ref (qn 0), .ref (qk 0), .int 0, .ref (qt 0), .null, .null, .null, .null, .null])) :: (nX1 Y qn ++ (nX1 Y qk ++ (nX4 Y qt ++ (nX5 Y qm ++ []))))) H := hP
  have hD : va_D A ((h0, .inr (6, [.ref (qn 0), .ref (qk 0), .int 0, .ref (qt 0), .null, .null, .null, .null, .null])) :: (nX1 Y qn ++ (nX1 Y qk ++ (nX4 Y qt ++ (nX5 Y qm ++ []))))) := hD
  refine va_putF (D := G) (ci := 6) (v := .ref (qm 0)) (ty := .object "PairedLines$Terms") (C := RX8) (T := TX8) (N := 9) hx hb hts inX8w tyX8 tyX8_ok nmX8 hown hK hP hD hS 0 rfl rfl 4 (by decide) wd17 (fun _ h9 => h9) rfl hin rfl (by decide +kernel) rfl rfl (Nat.le_of_ble_eq_true rfl) dX8_init_50 (fun H locs hP hD hS => ?_)
  have hP : va_P G vwCl ((h0, .inr (6, [.ref (qn 0), .ref (qk 0), .int 0, .ref (qt 0), .ref (qm 0), .null, .null, .null, .null])) :: (nX1 Y qn ++ (nX1 Y qk ++ (nX4 Y qt ++ (nX5 Y qm ++ []))))) H := hP
  have hD : va_D A ((h0, .inr (6, [.ref (qn 0), .ref (qk 0), .int 0, .ref (qt 0), .ref (qm 0), .null, .null, .null, .null])) :: (nX1 Y qn ++ (nX1 Y qk ++ (nX4 Y qt ++ (nX5 Y qm ++ []))))) := hD
  refine lv_aload_n hx hb dX8_init_53 rfl (lv_at hl 0 rfl) ?_
  refine va_new (ci := 5) (fs := [.null, .null, .null, .null, .null, .null, .null, .int 0]) (C := RX6) (T := TX6) (N := 8) hx hb hts inX6w tyX6 tyX6_ok hown wd18 wd19 wd20 hK hP hD hS hA rfl (fun j hj => by rcases (show j = 0 ∨ j = 1 ∨ j = 2 ∨ j = 3 ∨ j = 4 ∨ j = 5 ∨ j = 6 ∨ j = 7 by omega) with rfl | rfl | rfl | rfl | rfl | rfl | rfl | rfl <;> rfl) (Nat.le_of_ble_eq_true rfl) (Nat.le_of_ble_eq_true rfl) dX8_init_54 (fun b54 H hP hD hS => ?_)
  refine W.widen (k := 26) (n := 6012) (Nat.le_of_ble_eq_true rfl) (Nat.le_of_ble_eq_true rfl) ?_
  have hP : va_P G vwCl ((h0, .inr (6, [.ref (qn 0), .ref (qk 0), .int 0, .ref (qt 0), .ref (qm 0), .null, .null, .null, .null])) :: (nX1 Y qn ++ (nX1 Y qk ++ (nX4 Y qt ++ (nX5 Y qm ++ ([(b54, .inr (5, [.null, .null, .null, .null, .null, .null, .null, .int 0]))] ++ [])))))) H := hP
  have hD : va_D A ((h0, .inr (6, [.ref (qn 0), .ref (qk 0), .int 0, .ref (qt 0), .ref (qm 0), .null, .null, .null, .null])) :: (nX1 Y qn ++ (nX1 Y qk ++ (nX4 Y qt ++ (nX5 Y qm ++ ([(b54, .inr (5, [.null, .null, .null, .null, .null, .null, .null, .int 0]))] ++ [])))))) := hD
  refine lv_dup hx hb dX8_init_57 rfl ?_
  refine cl_new (wr := ((h0, .inr (6, [.ref (qn 0), .ref (qk 0), .int 0, .ref (qt 0), .ref (qm 0), .null, .null, .null, .null])) :: (nX1 Y qn ++ (nX1 Y qk ++ (nX4 Y qt ++ (nX5 Y qm ++ [])))))) (N1 := fun q => nX6 Y q) (rnI (rest := [.ref b54, .ref h0]) ⟨hx, hb, hml, hown, hts⟩ (c_X6_init l G Y H.size b54) ⟨va_cnB 0 hts gX8_init_X6_init_n39 rfl rfl rfl hX.2.2.2.1 wd20 (by decide +kernel) ⟨(Nat.le_of_ble_eq_true rfl), (Nat.le_of_ble_eq_true rfl)⟩, rfl, wd66⟩ hK hP hD [26] rfl rfl hl.1 rfl (Nat.le_of_ble_eq_true rfl) dX8_init_58 ⟨(Nat.le_of_ble_eq_true rfl), (Nat.le_of_ble_eq_true rfl)⟩) hP hD hS hA [26] [0, 1, 2, 3, 4, 5, 6, 7, 8, 9, 10, 11, 12, 13, 14, 15, 16, 17, 18, 19, 20, 21, 22, 23, 24, 25] rfl rfl rfl (by decide) (fun qg H locs eqg hP hD hS => ?_)
  rw [← eqg]
  refine W.widen (k := 33) (n := 8112) (Nat.le_of_ble_eq_true rfl) (Nat.le_of_ble_eq_true rfl) ?_
  have hP : va_P G vwCl ((h0, .inr (6, [.ref (qn 0), .ref (qk 0), .int 0, .ref (qt 0), .ref (qm 0), .null, .null, .null, .null])) :: (nX1 Y qn ++ (nX1 Y qk ++ (nX4 Y qt ++ (nX5 Y qm ++ (nX6 Y qg ++ [])))))) H := hP
  have hD : va_D A ((h0, .inr (6, [.ref (qn 0), .ref (qk 0), .int 0, .ref (qt 0), .ref (qm 0), .null, .null, .null, .null])) :: (nX1 Y qn ++ (nX1 Y qk ++ (nX4 Y qt ++ (nX5 Y qm ++ (nX6 Y qg ++ [])))))) := hD
  refine va_put (D := G) (ci := 6) (v := .ref (qg 0)) (ty := .object "PairedLines$Tree") (C := RX8) (T := TX8) (N := 9) hx hb hts inX8w tyX8 tyX8_ok nmX8 hown hK hP hD hS 0 rfl rfl 5 (by decide) wd21 (fun _ h9 => h9) rfl (by decide +kernel) rfl rfl (Nat.le_of_ble_eq_true rfl) dX8_init_61 (fun H locs hP hD hS => ?_)
  have hP : va_P G vwCl ((h0, .inr (6, [.ref (qn 0), .ref (qk 0), .int 0, .ref (qt 0), .ref (qm 0), .ref (qg 0), .null, .null, .null])) :: (nX1 Y qn ++ (nX1 Y qk ++ (nX4 Y qt ++ (nX5 Y qm ++ (nX6 Y qg ++ [])))))) H := hP
  have hD : va_D A ((h0, .inr (6, [.ref (qn 0), .ref (qk 0), .int 0, .ref (qt 0), .ref (qm 0), .ref (qg 0), .null, .null, .null])) :: (nX1 Y qn ++ (nX1 Y qk ++ (nX4 Y qt ++ (nX5 Y qm ++ (nX6 Y qg ++ [])))))) := hD
  refine lv_aload_n hx hb dX8_init_64 rfl (lv_at hl 0 rfl) ?_
  refine va_new (ci := 5) (fs := [.null, .null, .null, .null, .null, .null, .null, .int 0]) (C := RX6) (T := TX6) (N := 8) hx hb hts inX6w tyX6 tyX6_ok hown wd18 wd19 wd20 hK hP hD hS hA rfl (fun j hj => by rcases (show j = 0 ∨ j = 1 ∨ j = 2 ∨ j = 3 ∨ j = 4 ∨ j = 5 ∨ j = 6 ∨ j = 7 by omega) with rfl | rfl | rfl | rfl | rfl | rfl | rfl | rfl <;> rfl) (Nat.le_of_ble_eq_true rfl) (Nat.le_of_ble_eq_true rfl) dX8_init_65 (fun b65 H hP hD hS => ?_)
  refine W.widen (k := 34) (n := 8120) (Nat.le_of_ble_eq_true rfl) (Nat.le_of_ble_eq_true rfl) ?_
  have hP : va_P G vwCl ((h0, .inr (6, [.ref (qn 0), .ref (qk 0), .int 0, .ref (qt 0), .ref (qm 0), .ref (qg 0), .null, .null, .null])) :: (nX1 Y qn ++ (nX1 Y qk ++ (nX4 Y qt ++ (nX5 Y qm ++ (nX6 Y qg ++ ([(b65, .inr (5, [.null, .null, .null, .null, .null, .null, .null, .int 0]))] ++ []))))))) H := hP
  have hD : va_D A ((h0, .inr (6, [.ref (qn 0), .ref (qk 0), .int 0, .ref (qt 0), .ref (qm 0), .ref (qg 0), .null, .null, .null])) :: (nX1 Y qn ++ (nX1 Y qk ++ (nX4 Y qt ++ (nX5 Y qm ++ (nX6 Y qg ++ ([(b65, .inr (5, [.null, .null, .null, .null, .null, .null, .null, .int 0]))] ++ []))))))) := hD
  refine lv_dup hx hb dX8_init_68 rfl ?_
  refine cl_new (wr := ((h0, .inr (6, [.ref (qn 0), .ref (qk 0), .int 0, .ref (qt 0), .ref (qm 0), .ref (qg 0), .null, .null, .null])) :: (nX1 Y qn ++ (nX1 Y qk ++ (nX4 Y qt ++ (nX5 Y qm ++ (nX6 Y qg ++ []))))))) (N1 := fun q => nX6 Y q) (rnI (rest := [.ref b65, .ref h0]) ⟨hx, hb, hml, hown, hts⟩ (c_X6_init l G Y H.size b65) ⟨va_cnB 0 hts gX8_init_X6_init_n39 rfl rfl rfl hX.2.2.2.1 wd20 (by decide +kernel) ⟨(Nat.le_of_ble_eq_true rfl), (Nat.le_of_ble_eq_true rfl)⟩, rfl, wd66⟩ hK hP hD [34] rfl rfl hl.1 rfl (Nat.le_of_ble_eq_true rfl) dX8_init_69 ⟨(Nat.le_of_ble_eq_true rfl), (Nat.le_of_ble_eq_true rfl)⟩) hP hD hS hA [34] [0, 1, 2, 3, 4, 5, 6, 7, 8, 9, 10, 11, 12, 13, 14, 15, 16, 17, 18, 19, 20, 21, 22, 23, 24, 25, 26, 27, 28, 29, 30, 31, 32, 33] rfl rfl rfl (by decide) (fun qp H locs eqp hP hD hS => ?_)
  rw [← eqp]
  refine W.widen (k := 41) (n := 10220) (Nat.le_of_ble_eq_true rfl) (Nat.le_of_ble_eq_true rfl) ?_
  have hP : va_P G vwCl ((h0, .inr (6, [.ref (qn 0), .ref (qk 0), .int 0, .ref (qt 0), .ref (qm 0), .ref (qg 0), .null, .null, .null])) :: (nX1 Y qn ++ (nX1 Y qk ++ (nX4 Y qt ++ (nX5 Y qm ++ (nX6 Y qg ++ (nX6 Y qp ++ []))))))) H := hP
  have hD : va_D A ((h0, .inr (6, [.ref (qn 0), .ref (qk 0), .int 0, .ref (qt 0), .ref (qm 0), .ref (qg 0), .null, .null, .null])) :: (nX1 Y qn ++ (nX1 Y qk ++ (nX4 Y qt ++ (nX5 Y qm ++ (nX6 Y qg ++ (nX6 Y qp ++ []))))))) := hD
  refine va_put (D := G) (ci := 6) (v := .ref (qp 0)) (ty := .object "PairedLines$Tree") (C := RX8) (T := TX8) (N := 9) hx hb hts inX8w tyX8 tyX8_ok nmX8 hown hK hP hD hS 0 rfl rfl 6 (by decide) wd22 (fun _ h9 => h9) rfl (by decide +kernel) rfl rfl (Nat.le_of_ble_eq_true rfl) dX8_init_72 (fun H locs hP hD hS => ?_)
  have hP : va_P G vwCl ((h0, .inr (6, [.ref (qn 0), .ref (qk 0), .int 0, .ref (qt 0), .ref (qm 0), .ref (qg 0), .ref (qp 0), .null, .null])) :: (nX1 Y qn ++ (nX1 Y qk ++ (nX4 Y qt ++ (nX5 Y qm ++ (nX6 Y qg ++ (nX6 Y qp ++ []))))))) H := hP
  have hD : va_D A ((h0, .inr (6, [.ref (qn 0), .ref (qk 0), .int 0, .ref (qt 0), .ref (qm 0), .ref (qg 0), .ref (qp 0), .null, .null])) :: (nX1 Y qn ++ (nX1 Y qk ++ (nX4 Y qt ++ (nX5 Y qm ++ (nX6 Y qg ++ (nX6 Y qp ++ []))))))) := hD
  refine lv_aload_n hx hb dX8_init_75 rfl (lv_at hl 0 rfl) ?_
  refine lv_iconst (v := 3) hx hb dX8_init_76 (by decide) ?_
  refine va_newq (N' := 3) hx hb hown wd23 hX.2.2.2.2.2.2.1 hK hP hD hS hA (by decide) (by decide) (Nat.le_of_ble_eq_true rfl) (Nat.le_of_ble_eq_true rfl) (Nat.le_of_ble_eq_true rfl) dX8_init_77 (fun ra cra H hK1 hP hD hS => ?_)
  have hra : cra = Y 4 := by
    obtain ⟨_, _, _, _, _, z1⟩ := (hK1.2 6 (cra, .object RX2) rfl).2
    obtain ⟨_, _, _, _, _, z2⟩ := (hK1.2 4 (Y 4, .object RX2) rfl).2
    exact Option.some.inj (z1.symm.trans z2)
  subst hra
  refine W.widen (k := 42) (n := 10223) (Nat.le_of_ble_eq_true rfl) (Nat.le_of_ble_eq_true rfl) ?_
  have hP : va_P G vwCl ((h0, .inr (6, [.ref (qn 0), .ref (qk 0), .int 0, .ref (qt 0), .ref (qm 0), .ref (qg 0), .ref (qp 0), .null, .null])) :: (nX1 Y qn ++ (nX1 Y qk ++ (nX4 Y qt ++ (nX5 Y qm ++ (nX6 Y qg ++ (nX6 Y qp ++ ([(ra, .inl (Y 4, 3, .inr (.inr (.inr (.inr (fun _ => none))))))] ++ [])))))))) H := hP
  have hD : va_D A ((h0, .inr (6, [.ref (qn 0), .ref (qk 0), .int 0, .ref (qt 0), .ref (qm 0), .ref (qg 0), .ref (qp 0), .null, .null])) :: (nX1 Y qn ++ (nX1 Y qk ++ (nX4 Y qt ++ (nX5 Y qm ++ (nX6 Y qg ++ (nX6 Y qp ++ ([(ra, .inl (Y 4, 3, .inr (.inr (.inr (.inr (fun _ => none))))))] ++ [])))))))) := hD
  refine va_putF (D := G) (ci := 6) (v := .ref ra) (ty := .array (.object "PairedLines$Rack")) (C := RX8) (T := TX8) (N := 9) hx hb hts inX8w tyX8 tyX8_ok nmX8 hown hK hP hD hS 0 rfl rfl 7 (by decide) wd24 (fun _ h9 => h9) rfl hin rfl (by decide +kernel) rfl rfl (Nat.le_of_ble_eq_true rfl) dX8_init_80 (fun H locs hP hD hS => ?_)
  have hP : va_P G vwCl ((h0, .inr (6, [.ref (qn 0), .ref (qk 0), .int 0, .ref (qt 0), .ref (qm 0), .ref (qg 0), .ref (qp 0), .ref ra, .null])) :: (nX1 Y qn ++ (nX1 Y qk ++ (nX4 Y qt ++ (nX5 Y qm ++ (nX6 Y qg ++ (nX6 Y qp ++ ([(ra, .inl (Y 4, 3, .inr (.inr (.inr (.inr (fun _ => none))))))] ++ [])))))))) H := hP
  have hD : va_D A ((h0, .inr (6, [.ref (qn 0), .ref (qk 0), .int 0, .ref (qt 0), .ref (qm 0), .ref (qg 0), .ref (qp 0), .ref ra, .null])) :: (nX1 Y qn ++ (nX1 Y qk ++ (nX4 Y qt ++ (nX5 Y qm ++ (nX6 Y qg ++ (nX6 Y qp ++ ([(ra, .inl (Y 4, 3, .inr (.inr (.inr (.inr (fun _ => none))))))] ++ [])))))))) := hD
  refine lv_aload_n hx hb dX8_init_83 rfl (lv_at hl 0 rfl) ?_
  refine lv_iconst (v := 4) hx hb dX8_init_84 (by decide) ?_
  refine va_newq (N' := 4) hx hb hown wd25 hX.2.2.2.2.2.2.2 hK hP hD hS hA (by decide) (by decide) (Nat.le_of_ble_eq_true rfl) (Nat.le_of_ble_eq_true rfl) (Nat.le_of_ble_eq_true rfl) dX8_init_85 (fun sa csa H hK1 hP hD hS => ?_)
  have hsa : csa = Y 5 := by
    obtain ⟨_, _, _, _, _, z1⟩ := (hK1.2 6 (csa, .object RX3) rfl).2
    obtain ⟨_, _, _, _, _, z2⟩ := (hK1.2 5 (Y 5, .object RX3) rfl).2
    exact Option.some.inj (z1.symm.trans z2)
  subst hsa
  refine W.widen (k := 43) (n := 10227) (Nat.le_of_ble_eq_true rfl) (Nat.le_of_ble_eq_true rfl) ?_
  have hP : va_P G vwCl ((h0, .inr (6, [.ref (qn 0), .ref (qk 0), .int 0, .ref (qt 0), .ref (qm 0), .ref (qg 0), .ref (qp 0), .ref ra, .null])) :: (nX1 Y qn ++ (nX1 Y qk ++ (nX4 Y qt ++ (nX5 Y qm ++ (nX6 Y qg ++ (nX6 Y qp ++ ([(ra, .inl (Y 4, 3, .inr (.inr (.inr (.inr (fun _ => none))))))] ++ ([(sa, .inl (Y 5, 4, .inr (.inr (.inr (.inr (fun _ => none))))))] ++ []))))))))) H := hP
  have hD : va_D A ((h0, .inr (6, [.ref (qn 0), .ref (qk 0), .int 0, .ref (qt 0), .ref (qm 0), .ref (qg 0), .ref (qp 0), .ref ra, .null])) :: (nX1 Y qn ++ (nX1 Y qk ++ (nX4 Y qt ++ (nX5 Y qm ++ (nX6 Y qg ++ (nX6 Y qp ++ ([(ra, .inl (Y 4, 3, .inr (.inr (.inr (.inr (fun _ => none))))))] ++ ([(sa, .inl (Y 5, 4, .inr (.inr (.inr (.inr (fun _ => none))))))] ++ []))))))))) := hD
  refine va_putF (D := G) (ci := 6) (v := .ref sa) (ty := .array (.object "PairedLines$Sheet")) (C := RX8) (T := TX8) (N := 9) hx hb hts inX8w tyX8 tyX8_ok nmX8 hown hK hP hD hS 0 rfl rfl 8 (by decide) wd26 (fun _ h9 => h9) rfl hin rfl (by decide +kernel) rfl rfl (Nat.le_of_ble_eq_true rfl) dX8_init_88 (fun H locs hP hD hS => ?_)
  have hP : va_P G vwCl ((h0, .inr (6, [.ref (qn 0), .ref (qk 0), .int 0, .ref (qt 0), .ref (qm 0), .ref (qg 0), .ref (qp 0), .ref ra, .ref sa])) :: (nX1 Y qn ++ (nX1 Y qk ++ (nX4 Y qt ++ (nX5 Y qm ++ (nX6 Y qg ++ (nX6 Y qp ++ ([(ra, .inl (Y 4, 3, .inr (.inr (.inr (.inr (fun _ => none))))))] ++ ([(sa, .inl (Y 5, 4, .inr (.inr (.inr (.inr (fun _ => none))))))] ++ []))))))))) H := hP
  have hD : va_D A ((h0, .inr (6, [.ref (qn 0), .ref (qk 0), .int 0, .ref (qt 0), .ref (qm 0), .ref (qg 0), .ref (qp 0), .ref ra, .ref sa])) :: (nX1 Y qn ++ (nX1 Y qk ++ (nX4 Y qt ++ (nX5 Y qm ++ (nX6 Y qg ++ (nX6 Y qp ++ ([(ra, .inl (Y 4, 3, .inr (.inr (.inr (.inr (fun _ => none))))))] ++ ([(sa, .inl (Y 5, 4, .inr (.inr (.inr (.inr (fun _ => none))))))] ++ []))))))))) := hD
  refine lv_iconst (v := 0) hx hb dX8_init_91 (by decide) ?_
  refine lv_istore_n (lv' := [(1, .int 0), (0, .ref h0)]) hx hb dX8_init_92 rfl hl (by decide) rfl (fun ls hl => ?_)
  refine lv_iload_n hx hb dX8_init_93 rfl (lv_at hl 0 rfl) ?_
  refine lv_iconst (v := 3) hx hb dX8_init_94 (by decide) ?_
  refine lv_icmp_ge (tgt := 117) hx hb dX8_init_95 (by decide) (fun z => absurd z (by decide)) (fun _ => ?_)
  refine lv_aload_n hx hb dX8_init_98 rfl (lv_at hl 1 rfl) ?_
  refine va_get (D := G) (ci := 6) (v := .ref ra) (C := RX8) (T := TX8) (N := 9) hx hb hts inX8w hown hK hP 0 rfl rfl 7 (by decide) wd24 (fun _ h9 => h9) rfl dX8_init_99 ?_
  refine lv_iload_n hx hb dX8_init_102 rfl (lv_at hl 0 rfl) ?_
  refine va_new (ci := 1) (fs := [.null, .null, .int 0, .int 0]) (C := RX2) (T := TX2) (N := 4) hx hb hts inX2w tyX2 tyX2_ok hown wd23 wd27 wd28 hK hP hD hS hA rfl (fun j hj => by rcases (show j = 0 ∨ j = 1 ∨ j = 2 ∨ j = 3 by omega) with rfl | rfl | rfl | rfl <;> rfl) (Nat.le_of_ble_eq_true rfl) (Nat.le_of_ble_eq_true rfl) dX8_init_103 (fun b103 H hP hD hS => ?_)
  refine W.widen (k := 44) (n := 10231) (Nat.le_of_ble_eq_true rfl) (Nat.le_of_ble_eq_true rfl) ?_
  have hP : va_P G vwCl ((h0, .inr (6, [.ref (qn 0), .ref (qk 0), .int 0, .ref (qt 0), .ref (qm 0), .ref (qg 0), .ref (qp 0), .ref ra, .ref sa])) :: (nX1 Y qn ++ (nX1 Y qk ++ (nX4 Y qt ++ (nX5 Y qm ++ (nX6 Y qg ++ (nX6 Y qp ++ ([(ra, .inl (Y 4, 3, .inr (.inr (.inr (.inr (fun _ => none))))))] ++ ([(sa, .inl (Y 5, 4, .inr (.inr (.inr (.inr (fun _ => none))))))] ++ ([(b103, .inr (1, [.null, .null, .int 0, .int 0]))] ++ [])))))))))) H := hP
  have hD : va_D A ((h0, .inr (6, [.ref (qn 0), .ref (qk 0), .int 0, .ref (qt 0), .ref (qm 0), .ref (qg 0), .ref (qp 0), .ref ra, .ref sa])) :: (nX1 Y qn ++ (nX1 Y qk ++ (nX4 Y qt ++ (nX5 Y qm ++ (nX6 Y qg ++ (nX6 Y qp ++ ([(ra, .inl (Y 4, 3, .inr (.inr (.inr (.inr (fun _ => none))))))] ++ ([(sa, .inl (Y 5, 4, .inr (.inr (.inr (.inr (fun _ => none))))))] ++ ([(b103, .inr (1, [.null, .null, .int 0, .int 0]))] ++ [])))))))))) := hD
  refine lv_dup hx hb dX8_init_106 rfl ?_
  refine cl_new (wr := ((h0, .inr (6, [.ref (qn 0), .ref (qk 0), .int 0, .ref (qt 0), .ref (qm 0), .ref (qg 0), .ref (qp 0), .ref ra, .ref sa])) :: (nX1 Y qn ++ (nX1 Y qk ++ (nX4 Y qt ++ (nX5 Y qm ++ (nX6 Y qg ++ (nX6 Y qp ++ ([(ra, .inl (Y 4, 3, .inr (.inr (.inr (.inr (fun _ => none))))))] ++ ([(sa, .inl (Y 5, 4, .inr (.inr (.inr (.inr (fun _ => none))))))] ++ [])))))))))) (N1 := fun q => nX2 Y q) (rnI (rest := [.ref b103, .int 0, .ref ra]) ⟨hx, hb, hml, hown, hts⟩ (c_X2_init l G Y H.size b103) ⟨va_cnB 0 hts gX8_init_X2_init_n59 rfl rfl rfl hX.2.2.2.2.1 wd28 (by decide +kernel) ⟨(Nat.le_of_ble_eq_true rfl), (Nat.le_of_ble_eq_true rfl)⟩, rfl, wd77⟩ hK hP hD [44] rfl rfl hl.1 rfl (Nat.le_of_ble_eq_true rfl) dX8_init_107 ⟨(Nat.le_of_ble_eq_true rfl), (Nat.le_of_ble_eq_true rfl)⟩) hP hD hS hA [44] [0, 1, 2, 3, 4, 5, 6, 7, 8, 9, 10, 11, 12, 13, 14, 15, 16, 17, 18, 19, 20, 21, 22, 23, 24, 25, 26, 27, 28, 29, 30, 31, 32, 33, 34, 35, 36, 37, 38, 39, 40, 41, 42, 43] rfl rfl rfl (by decide) (fun r0 H locs er0 hP hD hS => ?_)
  rw [← er0]
  refine W.widen (k := 46) (n := 10271) (Nat.le_of_ble_eq_true rfl) (Nat.le_of_ble_eq_true rfl) ?_
  have hP : va_P G vwCl ((h0, .inr (6, [.ref (qn 0), .ref (qk 0), .int 0, .ref (qt 0), .ref (qm 0), .ref (qg 0), .ref (qp 0), .ref ra, .ref sa])) :: (nX1 Y qn ++ (nX1 Y qk ++ (nX4 Y qt ++ (nX5 Y qm ++ (nX6 Y qg ++ (nX6 Y qp ++ ([(ra, .inl (Y 4, 3, .inr (.inr (.inr (.inr (fun _ => none))))))] ++ ([(sa, .inl (Y 5, 4, .inr (.inr (.inr (.inr (fun _ => none))))))] ++ (nX2 Y r0 ++ [])))))))))) H := hP
  have hD : va_D A ((h0, .inr (6, [.ref (qn 0), .ref (qk 0), .int 0, .ref (qt 0), .ref (qm 0), .ref (qg 0), .ref (qp 0), .ref ra, .ref sa])) :: (nX1 Y qn ++ (nX1 Y qk ++ (nX4 Y qt ++ (nX5 Y qm ++ (nX6 Y qg ++ (nX6 Y qp ++ ([(ra, .inl (Y 4, 3, .inr (.inr (.inr (.inr (fun _ => none))))))] ++ ([(sa, .inl (Y 5, 4, .inr (.inr (.inr (.inr (fun _ => none))))))] ++ (nX2 Y r0 ++ [])))))))))) := hD
  refine va_astq (r := (RX2, TX2, 4)) hx hb hK hP hD hS 42 4 44 1 rfl rfl rfl rfl (show ¬ ((0 : Int32) < 0 ∨ 3 ≤ (0 : Int32).toNatClampNeg) by decide) dX8_init_110 (fun H locs hP hD hS => ?_)
  have hP : va_P G vwCl ((h0, .inr (6, [.ref (qn 0), .ref (qk 0), .int 0, .ref (qt 0), .ref (qm 0), .ref (qg 0), .ref (qp 0), .ref ra, .ref sa])) :: (nX1 Y qn ++ (nX1 Y qk ++ (nX4 Y qt ++ (nX5 Y qm ++ (nX6 Y qg ++ (nX6 Y qp ++ ([(ra, .inl (Y 4, 3, .inr (.inr (.inr (.inr (va_up (fun _ => none) (0 : Int32).toNatClampNeg (some (r0 0))))))))] ++ ([(sa, .inl (Y 5, 4, .inr (.inr (.inr (.inr (fun _ => none))))))] ++ (nX2 Y r0 ++ [])))))))))) H := hP
  have hD : va_D A ((h0, .inr (6, [.ref (qn 0), .ref (qk 0), .int 0, .ref (qt 0), .ref (qm 0), .ref (qg 0), .ref (qp 0), .ref ra, .ref sa])) :: (nX1 Y qn ++ (nX1 Y qk ++ (nX4 Y qt ++ (nX5 Y qm ++ (nX6 Y qg ++ (nX6 Y qp ++ ([(ra, .inl (Y 4, 3, .inr (.inr (.inr (.inr (va_up (fun _ => none) (0 : Int32).toNatClampNeg (some (r0 0))))))))] ++ ([(sa, .inl (Y 5, 4, .inr (.inr (.inr (.inr (fun _ => none))))))] ++ (nX2 Y r0 ++ [])))))))))) := hD
  refine lv_iinc (v := 1) (lv' := [(1, .int 1), (0, .ref h0)]) hx hb dX8_init_111 hl (k := 0) rfl (by decide) (by decide) rfl (fun ls hl => ?_)
  refine lv_goto (tgt := 93) hx hb dX8_init_114 (by decide) ?_
  refine lv_iload_n hx hb dX8_init_93 rfl (lv_at hl 0 rfl) ?_
  refine lv_iconst (v := 3) hx hb dX8_init_94 (by decide) ?_
  refine lv_icmp_ge (tgt := 117) hx hb dX8_init_95 (by decide) (fun z => absurd z (by decide)) (fun _ => ?_)
  refine lv_aload_n hx hb dX8_init_98 rfl (lv_at hl 1 rfl) ?_
  refine va_get (D := G) (ci := 6) (v := .ref ra) (C := RX8) (T := TX8) (N := 9) hx hb hts inX8w hown hK hP 0 rfl rfl 7 (by decide) wd24 (fun _ h9 => h9) rfl dX8_init_99 ?_
  refine lv_iload_n hx hb dX8_init_102 rfl (lv_at hl 0 rfl) ?_
  refine va_new (ci := 1) (fs := [.null, .null, .int 0, .int 0]) (C := RX2) (T := TX2) (N := 4) hx hb hts inX2w tyX2 tyX2_ok hown wd23 wd27 wd28 hK hP hD hS hA rfl (fun j hj => by rcases (show j = 0 ∨ j = 1 ∨ j = 2 ∨ j = 3 by omega) with rfl | rfl | rfl | rfl <;> rfl) (Nat.le_of_ble_eq_true rfl) (Nat.le_of_ble_eq_true rfl) dX8_init_103 (fun b103 H hP hD hS => ?_)
  refine W.widen (k := 47) (n := 10275) (Nat.le_of_ble_eq_true rfl) (Nat.le_of_ble_eq_true rfl) ?_
  have hP : va_P G vwCl ((h0, .inr (6, [.ref (qn 0), .ref (qk 0), .int 0, .ref (qt 0), .ref (qm 0), .ref (qg 0), .ref (qp 0), .ref ra, .ref sa])) :: (nX1 Y qn ++ (nX1 Y qk ++ (nX4 Y qt ++ (nX5 Y qm ++ (nX6 Y qg ++ (nX6 Y qp ++ ([(ra, .inl (Y 4, 3, .inr (.inr (.inr (.inr (va_up (fun _ => none) (0 : Int32).toNatClampNeg (some (r0 0))))))))] ++ ([(sa, .inl (Y 5, 4, .inr (.inr (.inr (.inr (fun _ => none))))))] ++ (nX2 Y r0 ++ ([(b103, .inr (1, [.null, .null, .int 0, .int 0]))] ++ []))))))))))) H := hP
  have hD : va_D A ((h0, .inr (6, [.ref (qn 0), .ref (qk 0), .int 0, .ref (qt 0), .ref (qm 0), .ref (qg 0), .ref (qp 0), .ref ra, .ref sa])) :: (nX1 Y qn ++ (nX1 Y qk ++ (nX4 Y qt ++ (nX5 Y qm ++ (nX6 Y qg ++ (nX6 Y qp ++ ([(ra, .inl (Y 4, 3, .inr (.inr (.inr (.inr (va_up (fun _ => none) (0 : Int32).toNatClampNeg (some (r0 0))))))))] ++ ([(sa, .inl (Y 5, 4, .inr (.inr (.inr (.inr (fun _ => none))))))] ++ (nX2 Y r0 ++ ([(b103, .inr (1, [.null, .null, .int 0, .int 0]))] ++ []))))))))))) := hD
  refine lv_dup hx hb dX8_init_106 rfl ?_
  refine cl_new (wr := ((h0, .inr (6, [.ref (qn 0), .ref (qk 0), .int 0, .ref (qt 0), .ref (qm 0), .ref (qg 0), .ref (qp 0), .ref ra, .ref sa])) :: (nX1 Y qn ++ (nX1 Y qk ++ (nX4 Y qt ++ (nX5 Y qm ++ (nX6 Y qg ++ (nX6 Y qp ++ ([(ra, .inl (Y 4, 3, .inr (.inr (.inr (.inr (va_up (fun _ => none) (0 : Int32).toNatClampNeg (some (r0 0))))))))] ++ ([(sa, .inl (Y 5, 4, .inr (.inr (.inr (.inr (fun _ => none))))))] ++ (nX2 Y r0 ++ []))))))))))) (N1 := fun q => nX2 Y q) (rnI (rest := [.ref b103, .int 1, .ref ra]) ⟨hx, hb, hml, hown, hts⟩ (c_X2_init l G Y H.size b103) ⟨va_cnB 0 hts gX8_init_X2_init_n59 rfl rfl rfl hX.2.2.2.2.1 wd28 (by decide +kernel) ⟨(Nat.le_of_ble_eq_true rfl), (Nat.le_of_ble_eq_true rfl)⟩, rfl, wd77⟩ hK hP hD [47] rfl rfl hl.1 rfl (Nat.le_of_ble_eq_true rfl) dX8_init_107 ⟨(Nat.le_of_ble_eq_true rfl), (Nat.le_of_ble_eq_true rfl)⟩) hP hD hS hA [47] [0, 1, 2, 3, 4, 5, 6, 7, 8, 9, 10, 11, 12, 13, 14, 15, 16, 17, 18, 19, 20, 21, 22, 23, 24, 25, 26, 27, 28, 29, 30, 31, 32, 33, 34, 35, 36, 37, 38, 39, 40, 41, 42, 43, 44, 45, 46] rfl rfl rfl (by decide) (fun r1 H locs er1 hP hD hS => ?_)
  rw [← er1]
  refine W.widen (k := 49) (n := 10315) (Nat.le_of_ble_eq_true rfl) (Nat.le_of_ble_eq_true rfl) ?_
  have hP : va_P G vwCl ((h0, .inr (6, [.ref (qn 0), .ref (qk 0), .int 0, .ref (qt 0), .ref (qm 0), .ref (qg 0), .ref (qp 0), .ref ra, .ref sa])) :: (nX1 Y qn ++ (nX1 Y qk ++ (nX4 Y qt ++ (nX5 Y qm ++ (nX6 Y qg ++ (nX6 Y qp ++ ([(ra, .inl (Y 4, 3, .inr (.inr (.inr (.inr (va_up (fun _ => none) (0 : Int32).toNatClampNeg (some (r0 0))))))))] ++ ([(sa, .inl (Y 5, 4, .inr (.inr (.inr (.inr (fun _ => none))))))] ++ (nX2 Y r0 ++ (nX2 Y r1 ++ []))))))))))) H := hP
  have hD : va_D A ((h0, .inr (6, [.ref (qn 0), .ref (qk 0), .int 0, .ref (qt 0), .ref (qm 0), .ref (qg 0), .ref (qp 0), .ref ra, .ref sa])) :: (nX1 Y qn ++ (nX1 Y qk ++ (nX4 Y qt ++ (nX5 Y qm ++ (nX6 Y qg ++ (nX6 Y qp ++ ([(ra, .inl (Y 4, 3, .inr (.inr (.inr (.inr (va_up (fun _ => none) (0 : Int32).toNatClampNeg (some (r0 0))))))))] ++ ([(sa, .inl (Y 5, 4, .inr (.inr (.inr (.inr (fun _ => none))))))] ++ (nX2 Y r0 ++ (nX2 Y r1 ++ []))))))))))) := hD
  refine va_astq (r := (RX2, TX2, 4)) hx hb hK hP hD hS 42 4 47 1 rfl rfl rfl rfl (show ¬ ((1 : Int32) < 0 ∨ 3 ≤ (1 : Int32).toNatClampNeg) by decide) dX8_init_110 (fun H locs hP hD hS => ?_)
  have hP : va_P G vwCl ((h0, .inr (6, [.ref (qn 0), .ref (qk 0), .int 0, .ref (qt 0), .ref (qm 0), .ref (qg 0), .ref (qp 0), .ref ra, .ref sa])) :: (nX1 Y qn ++ (nX1 Y qk ++ (nX4 Y qt ++ (nX5 Y qm ++ (nX6 Y qg ++ (nX6 Y qp ++ ([(ra, .inl (Y 4, 3, .inr (.inr (.inr (.inr (va_up (va_up (fun _ => none) (0 : Int32).toNatClampNeg (some (r0 0))) (1 : Int32).toNatClampNeg (some (r1 0))))))))] ++ ([(sa, .inl (Y 5, 4, .inr (.inr (.inr (.inr (fun _ => none))))))] ++ (nX2 Y r0 ++ (nX2 Y r1 ++ []))))))))))) H := hP
  have hD : va_D A ((h0, .inr (6, [.ref (qn 0), .ref (qk 0), .int 0, .ref (qt 0), .ref (qm 0), .ref (qg 0), .ref (qp 0), .ref ra, .ref sa])) :: (nX1 Y qn ++ (nX1 Y qk ++ (nX4 Y qt ++ (nX5 Y qm ++ (nX6 Y qg ++ (nX6 Y qp ++ ([(ra, .inl (Y 4, 3, .inr (.inr (.inr (.inr (va_up (va_up (fun _ => none) (0 : Int32).toNatClampNeg (some (r0 0))) (1 : Int32).toNatClampNeg (some (r1 0))))))))] ++ ([(sa, .inl (Y 5, 4, .inr (.inr (.inr (.inr (fun _ => none))))))] ++ (nX2 Y r0 ++ (nX2 Y r1 ++ []))))))))))) := hD
  refine lv_iinc (v := 2) (lv' := [(1, .int 2), (0, .ref h0)]) hx hb dX8_init_111 hl (k := 0) rfl (by decide) (by decide) rfl (fun ls hl => ?_)
  refine lv_goto (tgt := 93) hx hb dX8_init_114 (by decide) ?_
  refine lv_iload_n hx hb dX8_init_93 rfl (lv_at hl 0 rfl) ?_
  refine lv_iconst (v := 3) hx hb dX8_init_94 (by decide) ?_
  refine lv_icmp_ge (tgt := 117) hx hb dX8_init_95 (by decide) (fun z => absurd z (by decide)) (fun _ => ?_)
  refine lv_aload_n hx hb dX8_init_98 rfl (lv_at hl 1 rfl) ?_
  refine va_get (D := G) (ci := 6) (v := .ref ra) (C := RX8) (T := TX8) (N := 9) hx hb hts inX8w hown hK hP 0 rfl rfl 7 (by decide) wd24 (fun _ h9 => h9) rfl dX8_init_99 ?_
  refine lv_iload_n hx hb dX8_init_102 rfl (lv_at hl 0 rfl) ?_
  refine va_new (ci := 1) (fs := [.null, .null, .int 0, .int 0]) (C := RX2) (T := TX2) (N := 4) hx hb hts inX2w tyX2 tyX2_ok hown wd23 wd27 wd28 hK hP hD hS hA rfl (fun j hj => by rcases (show j = 0 ∨ j = 1 ∨ j = 2 ∨ j = 3 by omega) with rfl | rfl | rfl | rfl <;> rfl) (Nat.le_of_ble_eq_true rfl) (Nat.le_of_ble_eq_true rfl) dX8_init_103 (fun b103 H hP hD hS => ?_)
  refine W.widen (k := 50) (n := 10319) (Nat.le_of_ble_eq_true rfl) (Nat.le_of_ble_eq_true rfl) ?_
  have hP : va_P G vwCl ((h0, .inr (6, [.ref (qn 0), .ref (qk 0), .int 0, .ref (qt 0), .ref (qm 0), .ref (qg 0), .ref (qp 0), .ref ra, .ref sa])) :: (nX1 Y qn ++ (nX1 Y qk ++ (nX4 Y qt ++ (nX5 Y qm ++ (nX6 Y qg ++ (nX6 Y qp ++ ([(ra, .inl (Y 4, 3, .inr (.inr (.inr (.inr (va_up (va_up (fun _ => none) (0 : Int32).toNatClampNeg (some (r0 0))) (1 : Int32).toNatClampNeg (some (r1 0))))))))] ++ ([(sa, .inl (Y 5, 4, .inr (.inr (.inr (.inr (fun _ => none))))))] ++ (nX2 Y r0 ++ (nX2 Y r1 ++ ([(b103, .inr (1, [.null, .null, .int 0, .int 0]))] ++ [])))))))))))) H := hP
  have hD : va_D A ((h0, .inr (6, [.ref (qn 0), .ref (qk 0), .int 0, .ref (qt 0), .ref (qm 0), .ref (qg 0), .ref (qp 0), .ref ra, .ref sa])) :: (nX1 Y qn ++ (nX1 Y qk ++ (nX4 Y qt ++ (nX5 Y qm ++ (nX6 Y qg ++ (nX6 Y qp ++ ([(ra, .inl (Y 4, 3, .inr (.inr (.inr (.inr (va_up (va_up (fun _ => none) (0 : Int32).toNatClampNeg (some (r0 0))) (1 : Int32).toNatClampNeg (some (r1 0))))))))] ++ ([(sa, .inl (Y 5, 4, .inr (.inr (.inr (.inr (fun _ => none))))))] ++ (nX2 Y r0 ++ (nX2 Y r1 ++ ([(b103, .inr (1, [.null, .null, .int 0, .int 0]))] ++ [])))))))))))) := hD
  refine lv_dup hx hb dX8_init_106 rfl ?_
  refine cl_new (wr := ((h0, .inr (6, [.ref (qn 0), .ref (qk 0), .int 0, .ref (qt 0), .ref (qm 0), .ref (qg 0), .ref (qp 0), .ref ra, .ref sa])) :: (nX1 Y qn ++ (nX1 Y qk ++ (nX4 Y qt ++ (nX5 Y qm ++ (nX6 Y qg ++ (nX6 Y qp ++ ([(ra, .inl (Y 4, 3, .inr (.inr (.inr (.inr (va_up (va_up (fun _ => none) (0 : Int32).toNatClampNeg (some (r0 0))) (1 : Int32).toNatClampNeg (some (r1 0))))))))] ++ ([(sa, .inl (Y 5, 4, .inr (.inr (.inr (.inr (fun _ => none))))))] ++ (nX2 Y r0 ++ (nX2 Y r1 ++ [])))))))))))) (N1 := fun q => nX2 Y q) (rnI (rest := [.ref b103, .int 2, .ref ra]) ⟨hx, hb, hml, hown, hts⟩ (c_X2_init l G Y H.size b103) ⟨va_cnB 0 hts gX8_init_X2_init_n59 rfl rfl rfl hX.2.2.2.2.1 wd28 (by decide +kernel) ⟨(Nat.le_of_ble_eq_true rfl), (Nat.le_of_ble_eq_true rfl)⟩, rfl, wd77⟩ hK hP hD [50] rfl rfl hl.1 rfl (Nat.le_of_ble_eq_true rfl) dX8_init_107 ⟨(Nat.le_of_ble_eq_true rfl), (Nat.le_of_ble_eq_true rfl)⟩) hP hD hS hA [50] [0, 1, 2, 3, 4, 5, 6, 7, 8, 9, 10, 11, 12, 13, 14, 15, 16, 17, 18, 19, 20, 21, 22, 23, 24, 25, 26, 27, 28, 29, 30, 31, 32, 33, 34, 35, 36, 37, 38, 39, 40, 41, 42, 43, 44, 45, 46, 47, 48, 49] rfl rfl rfl (by decide) (fun r2 H locs er2 hP hD hS => ?_)
  rw [← er2]
  refine W.widen (k := 52) (n := 10359) (Nat.le_of_ble_eq_true rfl) (Nat.le_of_ble_eq_true rfl) ?_
  have hP : va_P G vwCl ((h0, .inr (6, [.ref (qn 0), .ref (qk 0), .int 0, .ref (qt 0), .ref (qm 0), .ref (qg 0), .ref (qp 0), .ref ra, .ref sa])) :: (nX1 Y qn ++ (nX1 Y qk ++ (nX4 Y qt ++ (nX5 Y qm ++ (nX6 Y qg ++ (nX6 Y qp ++ ([(ra, .inl (Y 4, 3, .inr (.inr (.inr (.inr (va_up (va_up (fun _ => none) (0 : Int32).toNatClampNeg (some (r0 0))) (1 : Int32).toNatClampNeg (some (r1 0))))))))] ++ ([(sa, .inl (Y 5, 4, .inr (.inr (.inr (.inr (fun _ => none))))))] ++ (nX2 Y r0 ++ (nX2 Y r1 ++ (nX2 Y r2 ++ [])))))))))))) H := hP
  have hD : va_D A ((h0, .inr (6, [.ref (qn 0), .ref (qk 0), .int 0, .ref (qt 0), .ref (qm 0), .ref (qg 0), .ref (qp 0), .ref ra, .ref sa])) :: (nX1 Y qn ++ (nX1 Y qk ++ (nX4 Y qt ++ (nX5 Y qm ++ (nX6 Y qg ++ (nX6 Y qp ++ ([(ra, .inl (Y 4, 3, .inr (.inr (.inr (.inr (va_up (va_up (fun _ => none) (0 : Int32).toNatClampNeg (some (r0 0))) (1 : Int32).toNatClampNeg (some (r1 0))))))))] ++ ([(sa, .inl (Y 5, 4, .inr (.inr (.inr (.inr (fun _ => none))))))] ++ (nX2 Y r0 ++ (nX2 Y r1 ++ (nX2 Y r2 ++ [])))))))))))) := hD
  refine va_astq (r := (RX2, TX2, 4)) hx hb hK hP hD hS 42 4 50 1 rfl rfl rfl rfl (show ¬ ((2 : Int32) < 0 ∨ 3 ≤ (2 : Int32).toNatClampNeg) by decide) dX8_init_110 (fun H locs hP hD hS => ?_)
  have hP : va_P G vwCl ((h0, .inr (6, [.ref (qn 0), .ref (qk 0), .int 0, .ref (qt 0), .ref (qm 0), .ref (qg 0), .ref (qp 0), .ref ra, .ref sa])) :: (nX1 Y qn ++ (nX1 Y qk ++ (nX4 Y qt ++ (nX5 Y qm ++ (nX6 Y qg ++ (nX6 Y qp ++ ([(ra, .inl (Y 4, 3, .inr (.inr (.inr (.inr (va_up (va_up (va_up (fun _ => none) (0 : Int32).toNatClampNeg (some (r0 0))) (1 : Int32).toNatClampNeg (some (r1 0))) (2 : Int32).toNatClampNeg (some (r2 0))))))))] ++ ([(sa, .inl (Y 5, 4, .inr (.inr (.inr (.inr (fun _ => none))))))] ++ (nX2 Y r0 ++ (nX2 Y r1 ++ (nX2 Y r2 ++ [])))))))))))) H := hP
  have hD : va_D A ((h0, .inr (6, [.ref (qn 0), .ref (qk 0), .int 0, .ref (qt 0), .ref (qm 0), .ref (qg 0), .ref (qp 0), .ref ra, .ref sa])) :: (nX1 Y qn ++ (nX1 Y qk ++ (nX4 Y qt ++ (nX5 Y qm ++ (nX6 Y qg ++ (nX6 Y qp ++ ([(ra, .inl (Y 4, 3, .inr (.inr (.inr (.inr (va_up (va_up (va_up (fun _ => none) (0 : Int32).toNatClampNeg (some (r0 0))) (1 : Int32).toNatClampNeg (some (r1 0))) (2 : Int32).toNatClampNeg (some (r2 0))))))))] ++ ([(sa, .inl (Y 5, 4, .inr (.inr (.inr (.inr (fun _ => none))))))] ++ (nX2 Y r0 ++ (nX2 Y r1 ++ (nX2 Y r2 ++ [])))))))))))) := hD
  refine lv_iinc (v := 3) (lv' := [(1, .int 3), (0, .ref h0)]) hx hb dX8_init_111 hl (k := 0) rfl (by decide) (by decide) rfl (fun ls hl => ?_)
  refine lv_goto (tgt := 93) hx hb dX8_init_114 (by decide) ?_
  refine lv_iload_n hx hb dX8_init_93 rfl (lv_at hl 0 rfl) ?_
  refine lv_iconst (v := 3) hx hb dX8_init_94 (by decide) ?_
  refine lv_icmp_ge (tgt := 117) hx hb dX8_init_95 (by decide) (fun _ => ?_) (fun z => absurd (by decide) z)
  refine lv_iconst (v := 0) hx hb dX8_init_117 (by decide) ?_
  refine lv_istore_n (lv' := [(1, .int 0), (0, .ref h0)]) hx hb dX8_init_118 rfl hl (by decide) rfl (fun ls hl => ?_)
  refine lv_iload_n hx hb dX8_init_119 rfl (lv_at hl 0 rfl) ?_
  refine lv_iconst (v := 4) hx hb dX8_init_120 (by decide) ?_
  refine lv_icmp_ge (tgt := 143) hx hb dX8_init_121 (by decide) (fun z => absurd z (by decide)) (fun _ => ?_)
  refine lv_aload_n hx hb dX8_init_124 rfl (lv_at hl 1 rfl) ?_
  refine va_get (D := G) (ci := 6) (v := .ref sa) (C := RX8) (T := TX8) (N := 9) hx hb hts inX8w hown hK hP 0 rfl rfl 8 (by decide) wd26 (fun _ h9 => h9) rfl dX8_init_125 ?_
  refine lv_iload_n hx hb dX8_init_128 rfl (lv_at hl 0 rfl) ?_
  refine va_new (ci := 2) (fs := [.null, .null, .null, .null, .null, .int 0, .int 0]) (C := RX3) (T := TX3) (N := 7) hx hb hts inX3w tyX3 tyX3_ok hown wd25 wd29 wd30 hK hP hD hS hA rfl (fun j hj => by rcases (show j = 0 ∨ j = 1 ∨ j = 2 ∨ j = 3 ∨ j = 4 ∨ j = 5 ∨ j = 6 by omega) with rfl | rfl | rfl | rfl | rfl | rfl | rfl <;> rfl) (Nat.le_of_ble_eq_true rfl) (Nat.le_of_ble_eq_true rfl) dX8_init_129 (fun b129 H hP hD hS => ?_)
  refine W.widen (k := 53) (n := 10366) (Nat.le_of_ble_eq_true rfl) (Nat.le_of_ble_eq_true rfl) ?_
  have hP : va_P G vwCl ((h0, .inr (6, [.ref (qn 0), .ref (qk 0), .int 0, .ref (qt 0), .ref (qm 0), .ref (qg 0), .ref (qp 0), .ref ra, .ref sa])) :: (nX1 Y qn ++ (nX1 Y qk ++ (nX4 Y qt ++ (nX5 Y qm ++ (nX6 Y qg ++ (nX6 Y qp ++ ([(ra, .inl (Y 4, 3, .inr (.inr (.inr (.inr (va_up (va_up (va_up (fun _ => none) (0 : Int32).toNatClampNeg (some (r0 0))) (1 : Int32).toNatClampNeg (some (r1 0))) (2 : Int32).toNatClampNeg (some (r2 0))))))))] ++ ([(sa, .inl (Y 5, 4, .inr (.inr (.inr (.inr (fun _ => none))))))] ++ (nX2 Y r0 ++ (nX2 Y r1 ++ (nX2 Y r2 ++ ([(b129, .inr (2, [.null, .null, .null, .null, .null, .int 0, .int 0]))] ++ []))))))))))))) H := hP
  have hD : va_D A ((h0, .inr (6, [.ref (qn 0), .ref (qk 0), .int 0, .ref (qt 0), .ref (qm 0), .ref (qg 0), .ref (qp 0), .ref ra, .ref sa])) :: (nX1 Y qn ++ (nX1 Y qk ++ (nX4 Y qt ++ (nX5 Y qm ++ (nX6 Y qg ++ (nX6 Y qp ++ ([(ra, .inl (Y 4, 3, .inr (.inr (.inr (.inr (va_up (va_up (va_up (fun _ => none) (0 : Int32).toNatClampNeg (some (r0 0))) (1 : Int32).toNatClampNeg (some (r1 0))) (2 : Int32).toNatClampNeg (some (r2 0))))))))] ++ ([(sa, .inl (Y 5, 4, .inr (.inr (.inr (.inr (fun _ => none))))))] ++ (nX2 Y r0 ++ (nX2 Y r1 ++ (nX2 Y r2 ++ ([(b129, .inr (2, [.null, .null, .null, .null, .null, .int 0, .int 0]))] ++ []))))))))))))) := hD
  refine lv_dup hx hb dX8_init_132 rfl ?_
  refine cl_new (wr := ((h0, .inr (6, [.ref (qn 0), .ref (qk 0), .int 0, .ref (qt 0), .ref (qm 0), .ref (qg 0), .ref (qp 0), .ref ra, .ref sa])) :: (nX1 Y qn ++ (nX1 Y qk ++ (nX4 Y qt ++ (nX5 Y qm ++ (nX6 Y qg ++ (nX6 Y qp ++ ([(ra, .inl (Y 4, 3, .inr (.inr (.inr (.inr (va_up (va_up (va_up (fun _ => none) (0 : Int32).toNatClampNeg (some (r0 0))) (1 : Int32).toNatClampNeg (some (r1 0))) (2 : Int32).toNatClampNeg (some (r2 0))))))))] ++ ([(sa, .inl (Y 5, 4, .inr (.inr (.inr (.inr (fun _ => none))))))] ++ (nX2 Y r0 ++ (nX2 Y r1 ++ (nX2 Y r2 ++ []))))))))))))) (N1 := fun q => nX3 Y q) (rnI (rest := [.ref b129, .int 0, .ref sa]) ⟨hx, hb, hml, hown, hts⟩ (c_X3_init l G Y H.size b129) ⟨va_cnB 0 hts gX8_init_X3_init_n60 rfl rfl rfl hX.2.2.2.2.2.1 wd30 (by decide +kernel) ⟨(Nat.le_of_ble_eq_true rfl), (Nat.le_of_ble_eq_true rfl)⟩, rfl, wd84⟩ hK hP hD [53] rfl rfl hl.1 rfl (Nat.le_of_ble_eq_true rfl) dX8_init_133 ⟨(Nat.le_of_ble_eq_true rfl), (Nat.le_of_ble_eq_true rfl)⟩) hP hD hS hA [53] [0, 1, 2, 3, 4, 5, 6, 7, 8, 9, 10, 11, 12, 13, 14, 15, 16, 17, 18, 19, 20, 21, 22, 23, 24, 25, 26, 27, 28, 29, 30, 31, 32, 33, 34, 35, 36, 37, 38, 39, 40, 41, 42, 43, 44, 45, 46, 47, 48, 49, 50, 51, 52] rfl rfl rfl (by decide) (fun s0 H locs es0 hP hD hS => ?_)
  rw [← es0]
  refine W.widen (k := 58) (n := 10666) (Nat.le_of_ble_eq_true rfl) (Nat.le_of_ble_eq_true rfl) ?_
  have hP : va_P G vwCl ((h0, .inr (6, [.ref (qn 0), .ref (qk 0), .int 0, .ref (qt 0), .ref (qm 0), .ref (qg 0), .ref (qp 0), .ref ra, .ref sa])) :: (nX1 Y qn ++ (nX1 Y qk ++ (nX4 Y qt ++ (nX5 Y qm ++ (nX6 Y qg ++ (nX6 Y qp ++ ([(ra, .inl (Y 4, 3, .inr (.inr (.inr (.inr (va_up (va_up (va_up (fun _ => none) (0 : Int32).toNatClampNeg (some (r0 0))) (1 : Int32).toNatClampNeg (some (r1 0))) (2 : Int32).toNatClampNeg (some (r2 0))))))))] ++ ([(sa, .inl (Y 5, 4, .inr (.inr (.inr (.inr (fun _ => none))))))] ++ (nX2 Y r0 ++ (nX2 Y r1 ++ (nX2 Y r2 ++ (nX3 Y s0 ++ []))))))))))))) H := hP
  have hD : va_D A ((h0, .inr (6, [.ref (qn 0), .ref (qk 0), .int 0, .ref (qt 0), .ref (qm 0), .ref (qg 0), .ref (qp 0), .ref ra, .ref sa])) :: (nX1 Y qn ++ (nX1 Y qk ++ (nX4 Y qt ++ (nX5 Y qm ++ (nX6 Y qg ++ (nX6 Y qp ++ ([(ra, .inl (Y 4, 3, .inr (.inr (.inr (.inr (va_up (va_up (va_up (fun _ => none) (0 : Int32).toNatClampNeg (some (r0 0))) (1 : Int32).toNatClampNeg (some (r1 0))) (2 : Int32).toNatClampNeg (some (r2 0))))))))] ++ ([(sa, .inl (Y 5, 4, .inr (.inr (.inr (.inr (fun _ => none))))))] ++ (nX2 Y r0 ++ (nX2 Y r1 ++ (nX2 Y r2 ++ (nX3 Y s0 ++ []))))))))))))) := hD
  refine va_astq (r := (RX3, TX3, 7)) hx hb hK hP hD hS 43 5 53 2 rfl rfl rfl rfl (show ¬ ((0 : Int32) < 0 ∨ 4 ≤ (0 : Int32).toNatClampNeg) by decide) dX8_init_136 (fun H locs hP hD hS => ?_)
  have hP : va_P G vwCl ((h0, .inr (6, [.ref (qn 0), .ref (qk 0), .int 0, .ref (qt 0), .ref (qm 0), .ref (qg 0), .ref (qp 0), .ref ra, .ref sa])) :: (nX1 Y qn ++ (nX1 Y qk ++ (nX4 Y qt ++ (nX5 Y qm ++ (nX6 Y qg ++ (nX6 Y qp ++ ([(ra, .inl (Y 4, 3, .inr (.inr (.inr (.inr (va_up (va_up (va_up (fun _ => none) (0 : Int32).toNatClampNeg (some (r0 0))) (1 : Int32).toNatClampNeg (some (r1 0))) (2 : Int32).toNatClampNeg (some (r2 0))))))))] ++ ([(sa, .inl (Y 5, 4, .inr (.inr (.inr (.inr (va_up (fun _ => none) (0 : Int32).toNatClampNeg (some (s0 0))))))))] ++ (nX2 Y r0 ++ (nX2 Y r1 ++ (nX2 Y r2 ++ (nX3 Y s0 ++ []))))))))))))) H := hP
  have hD : va_D A ((h0, .inr (6, [.ref (qn 0), .ref (qk 0), .int 0, .ref (qt 0), .ref (qm 0), .ref (qg 0), .ref (qp 0), .ref ra, .ref sa])) :: (nX1 Y qn ++ (nX1 Y qk ++ (nX4 Y qt ++ (nX5 Y qm ++ (nX6 Y qg ++ (nX6 Y qp ++ ([(ra, .inl (Y 4, 3, .inr (.inr (.inr (.inr (va_up (va_up (va_up (fun _ => none) (0 : Int32).toNatClampNeg (some (r0 0))) (1 : Int32).toNatClampNeg (some (r1 0))) (2 : Int32).toNatClampNeg (some (r2 0))))))))] ++ ([(sa, .inl (Y 5, 4, .inr (.inr (.inr (.inr (va_up (fun _ => none) (0 : Int32).toNatClampNeg (some (s0 0))))))))] ++ (nX2 Y r0 ++ (nX2 Y r1 ++ (nX2 Y r2 ++ (nX3 Y s0 ++ []))))))))))))) := hD
  refine lv_iinc (v := 1) (lv' := [(1, .int 1), (0, .ref h0)]) hx hb dX8_init_137 hl (k := 0) rfl (by decide) (by decide) rfl (fun ls hl => ?_)
  refine lv_goto (tgt := 119) hx hb dX8_init_140 (by decide) ?_
  refine lv_iload_n hx hb dX8_init_119 rfl (lv_at hl 0 rfl) ?_
  refine lv_iconst (v := 4) hx hb dX8_init_120 (by decide) ?_
  refine lv_icmp_ge (tgt := 143) hx hb dX8_init_121 (by decide) (fun z => absurd z (by decide)) (fun _ => ?_)
  refine lv_aload_n hx hb dX8_init_124 rfl (lv_at hl 1 rfl) ?_
  refine va_get (D := G) (ci := 6) (v := .ref sa) (C := RX8) (T := TX8) (N := 9) hx hb hts inX8w hown hK hP 0 rfl rfl 8 (by decide) wd26 (fun _ h9 => h9) rfl dX8_init_125 ?_
  refine lv_iload_n hx hb dX8_init_128 rfl (lv_at hl 0 rfl) ?_
  refine va_new (ci := 2) (fs := [.null, .null, .null, .null, .null, .int 0, .int 0]) (C := RX3) (T := TX3) (N := 7) hx hb hts inX3w tyX3 tyX3_ok hown wd25 wd29 wd30 hK hP hD hS hA rfl (fun j hj => by rcases (show j = 0 ∨ j = 1 ∨ j = 2 ∨ j = 3 ∨ j = 4 ∨ j = 5 ∨ j = 6 by omega) with rfl | rfl | rfl | rfl | rfl | rfl | rfl <;> rfl) (Nat.le_of_ble_eq_true rfl) (Nat.le_of_ble_eq_true rfl) dX8_init_129 (fun b129 H hP hD hS => ?_)
  refine W.widen (k := 59) (n := 10673) (Nat.le_of_ble_eq_true rfl) (Nat.le_of_ble_eq_true rfl) ?_
  have hP : va_P G vwCl ((h0, .inr (6, [.ref (qn 0), .ref (qk 0), .int 0, .ref (qt 0), .ref (qm 0), .ref (qg 0), .ref (qp 0), .ref ra, .ref sa])) :: (nX1 Y qn ++ (nX1 Y qk ++ (nX4 Y qt ++ (nX5 Y qm ++ (nX6 Y qg ++ (nX6 Y qp ++ ([(ra, .inl (Y 4, 3, .inr (.inr (.inr (.inr (va_up (va_up (va_up (fun _ => none) (0 : Int32).toNatClampNeg (some (r0 0))) (1 : Int32).toNatClampNeg (some (r1 0))) (2 : Int32).toNatClampNeg (some (r2 0))))))))] ++ ([(sa, .inl (Y 5, 4, .inr (.inr (.inr (.inr (va_up (fun _ => none) (0 : Int32).toNatClampNeg (some (s0 0))))))))] ++ (nX2 Y r0 ++ (nX2 Y r1 ++ (nX2 Y r2 ++ (nX3 Y s0 ++ ([(b129, .inr (2, [.null, .null, .null, .null, .null, .int 0, .int 0]))] ++ [])))))))))))))) H := hP
  have hD : va_D A ((h0, .inr (6, [.ref (qn 0), .ref (qk 0), .int 0, .ref (qt 0), .ref (qm 0), .ref (qg 0), .ref (qp 0), .ref ra, .ref sa])) :: (nX1 Y qn ++ (nX1 Y qk ++ (nX4 Y qt ++ (nX5 Y qm ++ (nX6 Y qg ++ (nX6 Y qp ++ ([(ra, .inl (Y 4, 3, .inr (.inr (.inr (.inr (va_up (va_up (va_up (fun _ => none) (0 : Int32).toNatClampNeg (some (r0 0))) (1 : Int32).toNatClampNeg (some (r1 0))) (2 : Int32).toNatClampNeg (some (r2 0))))))))] ++ ([(sa, .inl (Y 5, 4, .inr (.inr (.inr (.inr (va_up (fun _ => none) (0 : Int32).toNatClampNeg (some (s0 0))))))))] ++ (nX2 Y r0 ++ (nX2 Y r1 ++ (nX2 Y r2 ++ (nX3 Y s0 ++ ([(b129, .inr (2, [.null, .null, .null, .null, .null, .int 0, .int 0]))] ++ [])))))))))))))) := hD
  refine lv_dup hx hb dX8_init_132 rfl ?_
  refine cl_new (wr := ((h0, .inr (6, [.ref (qn 0), .ref (qk 0), .int 0, .ref (qt 0), .ref (qm 0), .ref (qg 0), .ref (qp 0), .ref ra, .ref sa])) :: (nX1 Y qn ++ (nX1 Y qk ++ (nX4 Y qt ++ (nX5 Y qm ++ (nX6 Y qg ++ (nX6 Y qp ++ ([(ra, .inl (Y 4, 3, .inr (.inr (.inr (.inr (va_up (va_up (va_up (fun _ => none) (0 : Int32).toNatClampNeg (some (r0 0))) (1 : Int32).toNatClampNeg (some (r1 0))) (2 : Int32).toNatClampNeg (some (r2 0))))))))] ++ ([(sa, .inl (Y 5, 4, .inr (.inr (.inr (.inr (va_up (fun _ => none) (0 : Int32).toNatClampNeg (some (s0 0))))))))] ++ (nX2 Y r0 ++ (nX2 Y r1 ++ (nX2 Y r2 ++ (nX3 Y s0 ++ [])))))))))))))) (N1 := fun q => nX3 Y q) (rnI (rest := [.ref b129, .int 1, .ref sa]) ⟨hx, hb, hml, hown, hts⟩ (c_X3_init l G Y H.size b129) ⟨va_cnB 0 hts gX8_init_X3_init_n60 rfl rfl rfl hX.2.2.2.2.2.1 wd30 (by decide +kernel) ⟨(Nat.le_of_ble_eq_true rfl), (Nat.le_of_ble_eq_true rfl)⟩, rfl, wd84⟩ hK hP hD [59] rfl rfl hl.1 rfl (Nat.le_of_ble_eq_true rfl) dX8_init_133 ⟨(Nat.le_of_ble_eq_true rfl), (Nat.le_of_ble_eq_true rfl)⟩) hP hD hS hA [59] [0, 1, 2, 3, 4, 5, 6, 7, 8, 9, 10, 11, 12, 13, 14, 15, 16, 17, 18, 19, 20, 21, 22, 23, 24, 25, 26, 27, 28, 29, 30, 31, 32, 33, 34, 35, 36, 37, 38, 39, 40, 41, 42, 43, 44, 45, 46, 47, 48, 49, 50, 51, 52, 53, 54, 55, 56, 57, 58] rfl rfl rfl (by decide) (fun s1 H locs es1 hP hD hS => ?_)
  rw [← es1]
  refine W.widen (k := 64) (n := 10973) (Nat.le_of_ble_eq_true rfl) (Nat.le_of_ble_eq_true rfl) ?_
  have hP : va_P G vwCl ((h0, .inr (6, [.ref (qn 0), .ref (qk 0), .int 0, .ref (qt 0), .ref (qm 0), .ref (qg 0), .ref (qp 0), .ref ra, .ref sa])) :: (nX1 Y qn ++ (nX1 Y qk ++ (nX4 Y qt ++ (nX5 Y qm ++ (nX6 Y qg ++ (nX6 Y qp ++ ([(ra, .inl (Y 4, 3, .inr (.inr (.inr (.inr (va_up (va_up (va_up (fun _ => none) (0 : Int32).toNatClampNeg (some (r0 0))) (1 : Int32).toNatClampNeg (some (r1 0))) (2 : Int32).toNatClampNeg (some (r2 0))))))))] ++ ([(sa, .inl (Y 5, 4, .inr (.inr (.inr (.inr (va_up (fun _ => none) (0 : Int32).toNatClampNeg (some (s0 0))))))))] ++ (nX2 Y r0 ++ (nX2 Y r1 ++ (nX2 Y r2 ++ (nX3 Y s0 ++ (nX3 Y s1 ++ [])))))))))))))) H := hP
  have hD : va_D A ((h0, .inr (6, [.ref (qn 0), .ref (qk 0), .int 0, .ref (qt 0), .ref (qm 0), .ref (qg 0), .ref (qp 0), .ref ra, .ref sa])) :: (nX1 Y qn ++ (nX1 Y qk ++ (nX4 Y qt ++ (nX5 Y qm ++ (nX6 Y qg ++ (nX6 Y qp ++ ([(ra, .inl (Y 4, 3, .inr (.inr (.inr (.inr (va_up (va_up (va_up (fun _ => none) (0 : Int32).toNatClampNeg (some (r0 0))) (1 : Int32).toNatClampNeg (some (r1 0))) (2 : Int32).toNatClampNeg (some (r2 0))))))))] ++ ([(sa, .inl (Y 5, 4, .inr (.inr (.inr (.inr (va_up (fun _ => none) (0 : Int32).toNatClampNeg (some (s0 0))))))))] ++ (nX2 Y r0 ++ (nX2 Y r1 ++ (nX2 Y r2 ++ (nX3 Y s0 ++ (nX3 Y s1 ++ [])))))))))))))) := hD
  refine va_astq (r := (RX3, TX3, 7)) hx hb hK hP hD hS 43 5 59 2 rfl rfl rfl rfl (show ¬ ((1 : Int32) < 0 ∨ 4 ≤ (1 : Int32).toNatClampNeg) by decide) dX8_init_136 (fun H locs hP hD hS => ?_)
  have hP : va_P G vwCl ((h0, .inr (6, [.ref (qn 0), .ref (qk 0), .int 0, .ref (qt 0), .ref (qm 0), .ref (qg 0), .ref (qp 0), .ref ra, .ref sa])) :: (nX1 Y qn ++ (nX1 Y qk ++ (nX4 Y qt ++ (nX5 Y qm ++ (nX6 Y qg ++ (nX6 Y qp ++ ([(ra, .inl (Y 4, 3, .inr (.inr (.inr (.inr (va_up (va_up (va_up (fun _ => none) (0 : Int32).toNatClampNeg (some (r0 0))) (1 : Int32).toNatClampNeg (some (r1 0))) (2 : Int32).toNatClampNeg (some (r2 0))))))))] ++ ([(sa, .inl (Y 5, 4, .inr (.inr (.inr (.inr (va_up (va_up (fun _ => none) (0 : Int32).toNatClampNeg (some (s0 0))) (1 : Int32).toNatClampNeg (some (s1 0))))))))] ++ (nX2 Y r0 ++ (nX2 Y r1 ++ (nX2 Y r2 ++ (nX3 Y s0 ++ (nX3 Y s1 ++ [])))))))))))))) H := hP
  have hD : va_D A ((h0, .inr (6, [.ref (qn 0), .ref (qk 0), .int 0, .ref (qt 0), .ref (qm 0), .ref (qg 0), .ref (qp 0), .ref ra, .ref sa])) :: (nX1 Y qn ++ (nX1 Y qk ++ (nX4 Y qt ++ (nX5 Y qm ++ (nX6 Y qg ++ (nX6 Y qp ++ ([(ra, .inl (Y 4, 3, .inr (.inr (.inr (.inr (va_up (va_up (va_up (fun _ => none) (0 : Int32).toNatClampNeg (some (r0 0))) (1 : Int32).toNatClampNeg (some (r1 0))) (2 : Int32).toNatClampNeg (some (r2 0))))))))] ++ ([(sa, .inl (Y 5, 4, .inr (.inr (.inr (.inr (va_up (va_up (fun _ => none) (0 : Int32).toNatClampNeg (some (s0 0))) (1 : Int32).toNatClampNeg (some (s1 0))))))))] ++ (nX2 Y r0 ++ (nX2 Y r1 ++ (nX2 Y r2 ++ (nX3 Y s0 ++ (nX3 Y s1 ++ [])))))))))))))) := hD
  refine lv_iinc (v := 2) (lv' := [(1, .int 2), (0, .ref h0)]) hx hb dX8_init_137 hl (k := 0) rfl (by decide) (by decide) rfl (fun ls hl => ?_)
  refine lv_goto (tgt := 119) hx hb dX8_init_140 (by decide) ?_
  refine lv_iload_n hx hb dX8_init_119 rfl (lv_at hl 0 rfl) ?_
  refine lv_iconst (v := 4) hx hb dX8_init_120 (by decide) ?_
  refine lv_icmp_ge (tgt := 143) hx hb dX8_init_121 (by decide) (fun z => absurd z (by decide)) (fun _ => ?_)
  refine lv_aload_n hx hb dX8_init_124 rfl (lv_at hl 1 rfl) ?_
  refine va_get (D := G) (ci := 6) (v := .ref sa) (C := RX8) (T := TX8) (N := 9) hx hb hts inX8w hown hK hP 0 rfl rfl 8 (by decide) wd26 (fun _ h9 => h9) rfl dX8_init_125 ?_
  refine lv_iload_n hx hb dX8_init_128 rfl (lv_at hl 0 rfl) ?_
  refine va_new (ci := 2) (fs := [.null, .null, .null, .null, .null, .int 0, .int 0]) (C := RX3) (T := TX3) (N := 7) hx hb hts inX3w tyX3 tyX3_ok hown wd25 wd29 wd30 hK hP hD hS hA rfl (fun j hj => by rcases (show j = 0 ∨ j = 1 ∨ j = 2 ∨ j = 3 ∨ j = 4 ∨ j = 5 ∨ j = 6 by omega) with rfl | rfl | rfl | rfl | rfl | rfl | rfl <;> rfl) (Nat.le_of_ble_eq_true rfl) (Nat.le_of_ble_eq_true rfl) dX8_init_129 (fun b129 H hP hD hS => ?_)
  refine W.widen (k := 65) (n := 10980) (Nat.le_of_ble_eq_true rfl) (Nat.le_of_ble_eq_true rfl) ?_
  have hP : va_P G vwCl ((h0, .inr (6, [.ref (qn 0), .ref (qk 0), .int 0, .ref (qt 0), .ref (qm 0), .ref (qg 0), .ref (qp 0), .ref ra, .ref sa])) :: (nX1 Y qn ++ (nX1 Y qk ++ (nX4 Y qt ++ (nX5 Y qm ++ (nX6 Y qg ++ (nX6 Y qp ++ ([(ra, .inl (Y 4, 3, .inr (.inr (.inr (.inr (va_up (va_up (va_up (fun _ => none) (0 : Int32).toNatClampNeg (some (r0 0))) (1 : Int32).toNatClampNeg (some (r1 0))) (2 : Int32).toNatClampNeg (some (r2 0))))))))] ++ ([(sa, .inl (Y 5, 4, .inr (.inr (.inr (.inr (va_up (va_up (fun _ => none) (0 : Int32).toNatClampNeg (some (s0 0))) (1 : Int32).toNatClampNeg (some (s1 0))))))))] ++ (nX2 Y r0 ++ (nX2 Y r1 ++ (nX2 Y r2 ++ (nX3 Y s0 ++ (nX3 Y s1 ++ ([(b129, .inr (2, [.null, .null, .null, .null, .null, .int 0, .int 0]))] ++ []))))))))))))))) H := hP
  have hD : va_D A ((h0, .inr (6, [.ref (qn 0), .ref (qk 0), .int 0, .ref (qt 0), .ref (qm 0), .ref (qg 0), .ref (qp 0), .ref ra, .ref sa])) :: (nX1 Y qn ++ (nX1 Y qk ++ (nX4 Y qt ++ (nX5 Y qm ++ (nX6 Y qg ++ (nX6 Y qp ++ ([(ra, .inl (Y 4, 3, .inr (.inr (.inr (.inr (va_up (va_up (va_up (fun _ => none) (0 : Int32).toNatClampNeg (some (r0 0))) (1 : Int32).toNatClampNeg (some (r1 0))) (2 : Int32).toNatClampNeg (some (r2 0))))))))] ++ ([(sa, .inl (Y 5, 4, .inr (.inr (.inr (.inr (va_up (va_up (fun _ => none) (0 : Int32).toNatClampNeg (some (s0 0))) (1 : Int32).toNatClampNeg (some (s1 0))))))))] ++ (nX2 Y r0 ++ (nX2 Y r1 ++ (nX2 Y r2 ++ (nX3 Y s0 ++ (nX3 Y s1 ++ ([(b129, .inr (2, [.null, .null, .null, .null, .null, .int 0, .int 0]))] ++ []))))))))))))))) := hD
  refine lv_dup hx hb dX8_init_132 rfl ?_
  refine cl_new (wr := ((h0, .inr (6, [.ref (qn 0), .ref (qk 0), .int 0, .ref (qt 0), .ref (qm 0), .ref (qg 0), .ref (qp 0), .ref ra, .ref sa])) :: (nX1 Y qn ++ (nX1 Y qk ++ (nX4 Y qt ++ (nX5 Y qm ++ (nX6 Y qg ++ (nX6 Y qp ++ ([(ra, .inl (Y 4, 3, .inr (.inr (.inr (.inr (va_up (va_up (va_up (fun _ => none) (0 : Int32).toNatClampNeg (some (r0 0))) (1 : Int32).toNatClampNeg (some (r1 0))) (2 : Int32).toNatClampNeg (some (r2 0))))))))] ++ ([(sa, .inl (Y 5, 4, .inr (.inr (.inr (.inr (va_up (va_up (fun _ => none) (0 : Int32).toNatClampNeg (some (s0 0))) (1 : Int32).toNatClampNeg (some (s1 0))))))))] ++ (nX2 Y r0 ++ (nX2 Y r1 ++ (nX2 Y r2 ++ (nX3 Y s0 ++ (nX3 Y s1 ++ []))))))))))))))) (N1 := fun q => nX3 Y q) (rnI (rest := [.ref b129, .int 2, .ref sa]) ⟨hx, hb, hml, hown, hts⟩ (c_X3_init l G Y H.size b129) ⟨va_cnB 0 hts gX8_init_X3_init_n60 rfl rfl rfl hX.2.2.2.2.2.1 wd30 (by decide +kernel) ⟨(Nat.le_of_ble_eq_true rfl), (Nat.le_of_ble_eq_true rfl)⟩, rfl, wd84⟩ hK hP hD [65] rfl rfl hl.1 rfl (Nat.le_of_ble_eq_true rfl) dX8_init_133 ⟨(Nat.le_of_ble_eq_true rfl), (Nat.le_of_ble_eq_true rfl)⟩) hP hD hS hA [65] [0, 1, 2, 3, 4, 5, 6, 7, 8, 9, 10, 11, 12, 13, 14, 15, 16, 17, 18, 19, 20, 21, 22, 23, 24, 25, 26, 27, 28, 29, 30, 31, 32, 33, 34, 35, 36, 37, 38, 39, 40, 41, 42, 43, 44, 45, 46, 47, 48, 49, 50, 51, 52, 53, 54, 55, 56, 57, 58, 59, 60, 61, 62, 63, 64] rfl rfl rfl (by decide) (fun s2 H locs es2 hP hD hS => ?_)
  rw [← es2]
  refine W.widen (k := 70) (n := 11280) (Nat.le_of_ble_eq_true rfl) (Nat.le_of_ble_eq_true rfl) ?_
  have hP : va_P G vwCl ((h0, .inr (6, [.ref (qn 0), .ref (qk 0), .int 0, .ref (qt 0), .ref (qm 0), .ref (qg 0), .ref (qp 0), .ref ra, .ref sa])) :: (nX1 Y qn ++ (nX1 Y qk ++ (nX4 Y qt ++ (nX5 Y qm ++ (nX6 Y qg ++ (nX6 Y qp ++ ([(ra, .inl (Y 4, 3, .inr (.inr (.inr (.inr (va_up (va_up (va_up (fun _ => none) (0 : Int32).toNatClampNeg (some (r0 0))) (1 : Int32).toNatClampNeg (some (r1 0))) (2 : Int32).toNatClampNeg (some (r2 0))))))))] ++ ([(sa, .inl (Y 5, 4, .inr (.inr (.inr (.inr (va_up (va_up (fun _ => none) (0 : Int32).toNatClampNeg (some (s0 0))) (1 : Int32).toNatClampNeg (some (s1 0))))))))] ++ (nX2 Y r0 ++ (nX2 Y r1 ++ (nX2 Y r2 ++ (nX3 Y s0 ++ (nX3 Y s1 ++ (nX3 Y s2 ++ []))))))))))))))) H := hP
  have hD : va_D A ((h0, .inr (6, [.ref (qn 0), .ref (qk 0), .int 0, .ref (qt 0), .ref (qm 0), .ref (qg 0), .ref (qp 0), .ref ra, .ref sa])) :: (nX1 Y qn ++ (nX1 Y qk ++ (nX4 Y qt ++ (nX5 Y qm ++ (nX6 Y qg ++ (nX6 Y qp ++ ([(ra, .inl (Y 4, 3, .inr (.inr (.inr (.inr (va_up (va_up (va_up (fun _ => none) (0 : Int32).toNatClampNeg (some (r0 0))) (1 : Int32).toNatClampNeg (some (r1 0))) (2 : Int32).toNatClampNeg (some (r2 0))))))))] ++ ([(sa, .inl (Y 5, 4, .inr (.inr (.inr (.inr (va_up (va_up (fun _ => none) (0 : Int32).toNatClampNeg (some (s0 0))) (1 : Int32).toNatClampNeg (some (s1 0))))))))] ++ (nX2 Y r0 ++ (nX2 Y r1 ++ (nX2 Y r2 ++ (nX3 Y s0 ++ (nX3 Y s1 ++ (nX3 Y s2 ++ []))))))))))))))) := hD
  refine va_astq (r := (RX3, TX3, 7)) hx hb hK hP hD hS 43 5 65 2 rfl rfl rfl rfl (show ¬ ((2 : Int32) < 0 ∨ 4 ≤ (2 : Int32).toNatClampNeg) by decide) dX8_init_136 (fun H locs hP hD hS => ?_)
  have hP : va_P G vwCl ((h0, .inr (6, [.ref (qn 0), .ref (qk 0), .int 0, .ref (qt 0), .ref (qm 0), .ref (qg 0), .ref (qp 0), .ref ra, .ref sa])) :: (nX1 Y qn ++ (nX1 Y qk ++ (nX4 Y qt ++ (nX5 Y qm ++ (nX6 Y qg ++ (nX6 Y qp ++ ([(ra, .inl (Y 4, 3, .inr (.inr (.inr (.inr (va_up (va_up (va_up (fun _ => none) (0 : Int32).toNatClampNeg (some (r0 0))) (1 : Int32).toNatClampNeg (some (r1 0))) (2 : Int32).toNatClampNeg (some (r2 0))))))))] ++ ([(sa, .inl (Y 5, 4, .inr (.inr (.inr (.inr (va_up (va_up (va_up (fun _ => none) (0 : Int32).toNatClampNeg (some (s0 0))) (1 : Int32).toNatClampNeg (some (s1 0))) (2 : Int32).toNatClampNeg (some (s2 0))))))))] ++ (nX2 Y r0 ++ (nX2 Y r1 ++ (nX2 Y r2 ++ (nX3 Y s0 ++ (nX3 Y s1 ++ (nX3 Y s2 ++ []))))))))))))))) H := hP
  have hD : va_D A ((h0, .inr (6, [.ref (qn 0), .ref (qk 0), .int 0, .ref (qt 0), .ref (qm 0), .ref (qg 0), .ref (qp 0), .ref ra, .ref sa])) :: (nX1 Y qn ++ (nX1 Y qk ++ (nX4 Y qt ++ (nX5 Y qm ++ (nX6 Y qg ++ (nX6 Y qp ++ ([(ra, .inl (Y 4, 3, .inr (.inr (.inr (.inr (va_up (va_up (va_up (fun _ => none) (0 : Int32).toNatClampNeg (some (r0 0))) (1 : Int32).toNatClampNeg (some (r1 0))) (2 : Int32).toNatClampNeg (some (r2 0))))))))] ++ ([(sa, .inl (Y 5, 4, .inr (.inr (.inr (.inr (va_up (va_up (va_up (fun _ => none) (0 : Int32).toNatClampNeg (some (s0 0))) (1 : Int32).toNatClampNeg (some (s1 0))) (2 : Int32).toNatClampNeg (some (s2 0))))))))] ++ (nX2 Y r0 ++ (nX2 Y r1 ++ (nX2 Y r2 ++ (nX3 Y s0 ++ (nX3 Y s1 ++ (nX3 Y s2 ++ []))))))))))))))) := hD
  refine lv_iinc (v := 3) (lv' := [(1, .int 3), (0, .ref h0)]) hx hb dX8_init_137 hl (k := 0) rfl (by decide) (by decide) rfl (fun ls hl => ?_)
  refine lv_goto (tgt := 119) hx hb dX8_init_140 (by decide) ?_
  refine lv_iload_n hx hb dX8_init_119 rfl (lv_at hl 0 rfl) ?_
  refine lv_iconst (v := 4) hx hb dX8_init_120 (by decide) ?_
  refine lv_icmp_ge (tgt := 143) hx hb dX8_init_121 (by decide) (fun z => absurd z (by decide)) (fun _ => ?_)
  refine lv_aload_n hx hb dX8_init_124 rfl (lv_at hl 1 rfl) ?_
  refine va_get (D := G) (ci := 6) (v := .ref sa) (C := RX8) (T := TX8) (N := 9) hx hb hts inX8w hown hK hP 0 rfl rfl 8 (by decide) wd26 (fun _ h9 => h9) rfl dX8_init_125 ?_
  refine lv_iload_n hx hb dX8_init_128 rfl (lv_at hl 0 rfl) ?_
  refine va_new (ci := 2) (fs := [.null, .null, .null, .null, .null, .int 0, .int 0]) (C := RX3) (T := TX3) (N := 7) hx hb hts inX3w tyX3 tyX3_ok hown wd25 wd29 wd30 hK hP hD hS hA rfl (fun j hj => by rcases (show j = 0 ∨ j = 1 ∨ j = 2 ∨ j = 3 ∨ j = 4 ∨ j = 5 ∨ j = 6 by omega) with rfl | rfl | rfl | rfl | rfl | rfl | rfl <;> rfl) (Nat.le_of_ble_eq_true rfl) (Nat.le_of_ble_eq_true rfl) dX8_init_129 (fun b129 H hP hD hS => ?_)
  refine W.widen (k := 71) (n := 11287) (Nat.le_of_ble_eq_true rfl) (Nat.le_of_ble_eq_true rfl) ?_
  have hP : va_P G vwCl ((h0, .inr (6, [.ref (qn 0), .ref (qk 0), .int 0, .ref (qt 0), .ref (qm 0), .ref (qg 0), .ref (qp 0), .ref ra, .ref sa])) :: (nX1 Y qn ++ (nX1 Y qk ++ (nX4 Y qt ++ (nX5 Y qm ++ (nX6 Y qg ++ (nX6 Y qp ++ ([(ra, .inl (Y 4, 3, .inr (.inr (.inr (.inr (va_up (va_up (va_up (fun _ => none) (0 : Int32).toNatClampNeg (some (r0 0))) (1 : Int32).toNatClampNeg (some (r1 0))) (2 : Int32).toNatClampNeg (some (r2 0))))))))] ++ ([(sa, .inl (Y 5, 4, .inr (.inr (.inr (.inr (va_up (va_up (va_up (fun _ => none) (0 : Int32).toNatClampNeg (some (s0 0))) (1 : Int32).toNatClampNeg (some (s1 0))) (2 : Int32).toNatClampNeg (some (s2 0))))))))] ++ (nX2 Y r0 ++ (nX2 Y r1 ++ (nX2 Y r2 ++ (nX3 Y s0 ++ (nX3 Y s1 ++ (nX3 Y s2 ++ ([(b129, .inr (2, [.null, .null, .null, .null, .null, .int 0, .int 0]))] ++ [])))))))))))))))) H := hP
  have hD : va_D A ((h0, .inr (6, [.ref (qn 0), .ref (qk 0), .int 0, .ref (qt 0), .ref (qm 0), .ref (qg 0), .ref (qp 0), .ref ra, .ref sa])) :: (nX1 Y qn ++ (nX1 Y qk ++ (nX4 Y qt ++ (nX5 Y qm ++ (nX6 Y qg ++ (nX6 Y qp ++ ([(ra, .inl (Y 4, 3, .inr (.inr (.inr (.inr (va_up (va_up (va_up (fun _ => none) (0 : Int32).toNatClampNeg (some (r0 0))) (1 : Int32).toNatClampNeg (some (r1 0))) (2 : Int32).toNatClampNeg (some (r2 0))))))))] ++ ([(sa, .inl (Y 5, 4, .inr (.inr (.inr (.inr (va_up (va_up (va_up (fun _ => none) (0 : Int32).toNatClampNeg (some (s0 0))) (1 : Int32).toNatClampNeg (some (s1 0))) (2 : Int32).toNatClampNeg (some (s2 0))))))))] ++ (nX2 Y r0 ++ (nX2 Y r1 ++ (nX2 Y r2 ++ (nX3 Y s0 ++ (nX3 Y s1 ++ (nX3 Y s2 ++ ([(b129, .inr (2, [.null, .null, .null, .null, .null, .int 0, .int 0]))] ++ [])))))))))))))))) := hD
  refine lv_dup hx hb dX8_init_132 rfl ?_
  refine cl_new (wr := ((h0, .inr (6, [.ref (qn 0), .ref (qk 0), .int 0, .ref (qt 0), .ref (qm 0), .ref (qg 0), .ref (qp 0), .ref ra, .ref sa])) :: (nX1 Y qn ++ (nX1 Y qk ++ (nX4 Y qt ++ (nX5 Y qm ++ (nX6 Y qg ++ (nX6 Y qp ++ ([(ra, .inl (Y 4, 3, .inr (.inr (.inr (.inr (va_up (va_up (va_up (fun _ => none) (0 : Int32).toNatClampNeg (some (r0 0))) (1 : Int32).toNatClampNeg (some (r1 0))) (2 : Int32).toNatClampNeg (some (r2 0))))))))] ++ ([(sa, .inl (Y 5, 4, .inr (.inr (.inr (.inr (va_up (va_up (va_up (fun _ => none) (0 : Int32).toNatClampNeg (some (s0 0))) (1 : Int32).toNatClampNeg (some (s1 0))) (2 : Int32).toNatClampNeg (some (s2 0))))))))] ++ (nX2 Y r0 ++ (nX2 Y r1 ++ (nX2 Y r2 ++ (nX3 Y s0 ++ (nX3 Y s1 ++ (nX3 Y s2 ++ [])))))))))))))))) (N1 := fun q => nX3 Y q) (rnI (rest := [.ref b129, .int 3, .ref sa]) ⟨hx, hb, hml, hown, hts⟩ (c_X3_init l G Y H.size b129) ⟨va_cnB 0 hts gX8_init_X3_init_n60 rfl rfl rfl hX.2.2.2.2.2.1 wd30 (by decide +kernel) ⟨(Nat.le_of_ble_eq_true rfl), (Nat.le_of_ble_eq_true rfl)⟩, rfl, wd84⟩ hK hP hD [71] rfl rfl hl.1 rfl (Nat.le_of_ble_eq_true rfl) dX8_init_133 ⟨(Nat.le_of_ble_eq_true rfl), (Nat.le_of_ble_eq_true rfl)⟩) hP hD hS hA [71] [0, 1, 2, 3, 4, 5, 6, 7, 8, 9, 10, 11, 12, 13, 14, 15, 16, 17, 18, 19, 20, 21, 22, 23, 24, 25, 26, 27, 28, 29, 30, 31, 32, 33, 34, 35, 36, 37, 38, 39, 40, 41, 42, 43, 44, 45, 46, 47, 48, 49, 50, 51, 52, 53, 54, 55, 56, 57, 58, 59, 60, 61, 62, 63, 64, 65, 66, 67, 68, 69, 70] rfl rfl rfl (by decide) (fun s3 H locs es3 hP hD hS => ?_)
  rw [← es3]
  refine W.widen (k := 76) (n := 11587) (Nat.le_of_ble_eq_true rfl) (Nat.le_of_ble_eq_true rfl) ?_
  have hP : va_P G vwCl ((h0, .inr (6, [.ref (qn 0), .ref (qk 0), .int 0, .ref (qt 0), .ref (qm 0), .ref (qg 0), .ref (qp 0), .ref ra, .ref sa])) :: (nX1 Y qn ++ (nX1 Y qk ++ (nX4 Y qt ++ (nX5 Y qm ++ (nX6 Y qg ++ (nX6 Y qp ++ ([(ra, .inl (Y 4, 3, .inr (.inr (.inr (.inr (va_up (va_up (va_up (fun _ => none) (0 : Int32).toNatClampNeg (some (r0 0))) (1 : Int32).toNatClampNeg (some (r1 0))) (2 : Int32).toNatClampNeg (some (r2 0))))))))] ++ ([(sa, .inl (Y 5, 4, .inr (.inr (.inr (.inr (va_up (va_up (va_up (fun _ => none) (0 : Int32).toNatClampNeg (some (s0 0))) (1 : Int32).toNatClampNeg (some (s1 0))) (2 : Int32).toNatClampNeg (some (s2 0))))))))] ++ (nX2 Y r0 ++ (nX2 Y r1 ++ (nX2 Y r2 ++ (nX3 Y s0 ++ (nX3 Y s1 ++ (nX3 Y s2 ++ (nX3 Y s3 ++ [])))))))))))))))) H := hP
  have hD : va_D A ((h0, .inr (6, [.ref (qn 0), .ref (qk 0), .int 0, .ref (qt 0), .ref (qm 0), .ref (qg 0), .ref (qp 0), .ref ra, .ref sa])) :: (nX1 Y qn ++ (nX1 Y qk ++ (nX4 Y qt ++ (nX5 Y qm ++ (nX6 Y qg ++ (nX6 Y qp ++ ([(ra, .inl (Y 4, 3, .inr (.inr (.inr (.inr (va_up (va_up (va_up (fun _ => none) (0 : Int32).toNatClampNeg (some (r0 0))) (1 : Int32).toNatClampNeg (some (r1 0))) (2 : Int32).toNatClampNeg (some (r2 0))))))))] ++ ([(sa, .inl (Y 5, 4, .inr (.inr (.inr (.inr (va_up (va_up (va_up (fun _ => none) (0 : Int32).toNatClampNeg (some (s0 0))) (1 : Int32).toNatClampNeg (some (s1 0))) (2 : Int32).toNatClampNeg (some (s2 0))))))))] ++ (nX2 Y r0 ++ (nX2 Y r1 ++ (nX2 Y r2 ++ (nX3 Y s0 ++ (nX3 Y s1 ++ (nX3 Y s2 ++ (nX3 Y s3 ++ [])))))))))))))))) := hD
  refine va_astq (r := (RX3, TX3, 7)) hx hb hK hP hD hS 43 5 71 2 rfl rfl rfl rfl (show ¬ ((3 : Int32) < 0 ∨ 4 ≤ (3 : Int32).toNatClampNeg) by decide) dX8_init_136 (fun H locs hP hD hS => ?_)
  have hP : va_P G vwCl ((h0, .inr (6, [.ref (qn 0), .ref (qk 0), .int 0, .ref (qt 0), .ref (qm 0), .ref (qg 0), .ref (qp 0), .ref ra, .ref sa])) :: (nX1 Y qn ++ (nX1 Y qk ++ (nX4 Y qt ++ (nX5 Y qm ++ (nX6 Y qg ++ (nX6 Y qp ++ ([(ra, .inl (Y 4, 3, .inr (.inr (.inr (.inr (va_up (va_up (va_up (fun _ => none) (0 : Int32).toNatClampNeg (some (r0 0))) (1 : Int32).toNatClampNeg (some (r1 0))) (2 : Int32).toNatClampNeg (some (r2 0))))))))] ++ ([(sa, .inl (Y 5, 4, .inr (.inr (.inr (.inr (va_up (va_up (va_up (va_up (fun _ => none) (0 : Int32).toNatClampNeg (some (s0 0))) (1 : Int32).toNatClampNeg (some (s1 0))) (2 : Int32).toNatClampNeg (some (s2 0))) (3 : Int32).toNatClampNeg (some (s3 0))))))))] ++ (nX2 Y r0 ++ (nX2 Y r1 ++ (nX2 Y r2 ++ (nX3 Y s0 ++ (nX3 Y s1 ++ (nX3 Y s2 ++ (nX3 Y s3 ++ [])))))))))))))))) H := hP
  have hD : va_D A ((h0, .inr (6, [.ref (qn 0), .ref (qk 0), .int 0, .ref (qt 0), .ref (qm 0), .ref (qg 0), .ref (qp 0), .ref ra, .ref sa])) :: (nX1 Y qn ++ (nX1 Y qk ++ (nX4 Y qt ++ (nX5 Y qm ++ (nX6 Y qg ++ (nX6 Y qp ++ ([(ra, .inl (Y 4, 3, .inr (.inr (.inr (.inr (va_up (va_up (va_up (fun _ => none) (0 : Int32).toNatClampNeg (some (r0 0))) (1 : Int32).toNatClampNeg (some (r1 0))) (2 : Int32).toNatClampNeg (some (r2 0))))))))] ++ ([(sa, .inl (Y 5, 4, .inr (.inr (.inr (.inr (va_up (va_up (va_up (va_up (fun _ => none) (0 : Int32).toNatClampNeg (some (s0 0))) (1 : Int32).toNatClampNeg (some (s1 0))) (2 : Int32).toNatClampNeg (some (s2 0))) (3 : Int32).toNatClampNeg (some (s3 0))))))))] ++ (nX2 Y r0 ++ (nX2 Y r1 ++ (nX2 Y r2 ++ (nX3 Y s0 ++ (nX3 Y s1 ++ (nX3 Y s2 ++ (nX3 Y s3 ++ [])))))))))))))))) := hD
  refine lv_iinc (v := 4) (lv' := [(1, .int 4), (0, .ref h0)]) hx hb dX8_init_137 hl (k := 0) rfl (by decide) (by decide) rfl (fun ls hl => ?_)
  refine lv_goto (tgt := 119) hx hb dX8_init_140 (by decide) ?_
  refine lv_iload_n hx hb dX8_init_119 rfl (lv_at hl 0 rfl) ?_
  refine lv_iconst (v := 4) hx hb dX8_init_120 (by decide) ?_
  refine lv_icmp_ge (tgt := 143) hx hb dX8_init_121 (by decide) (fun _ => ?_) (fun z => absurd (by decide) z)
  have hP9 : va_P G vwCl (nX8 Y (fun k => [(fun i => [h0, 0, 0, 0, 0, 0, 0, 0, ra, sa].getD i 0), qn, qk, qt, qm, qg, qp, r0, r1, r2, s0, s1, s2, s3].getD k qn)) H := by
    intro k q hk
    have hk2 := hP k
    by_cases e1 : k = 42
    · subst e1
      cases hk
      have z := hk2 _ rfl
      show H[ra]? = _
      rw [refs_congr (f := (fun k => some ((fun k => [(fun i => [h0, 0, 0, 0, 0, 0, 0, 0, ra, sa].getD i 0), qn, qk, qt, qm, qg, qp, r0, r1, r2, s0, s1, s2, s3].getD k qn) (7 + k) 0))) (g := (va_up (va_up (va_up (fun _ => none) (0 : Int32).toNatClampNeg (some (r0 0))) (1 : Int32).toNatClampNeg (some (r1 0))) (2 : Int32).toNatClampNeg (some (r2 0)))) (fun j hj => by rcases (show j = 0 ∨ j = 1 ∨ j = 2 by omega) with rfl | rfl | rfl <;> rfl)]
      exact z
    · by_cases e2 : k = 43
      · subst e2
        cases hk
        have z := hk2 _ rfl
        show H[sa]? = _
        rw [refs_congr (f := (fun k => some ((fun k => [(fun i => [h0, 0, 0, 0, 0, 0, 0, 0, ra, sa].getD i 0), qn, qk, qt, qm, qg, qp, r0, r1, r2, s0, s1, s2, s3].getD k qn) (10 + k) 0))) (g := (va_up (va_up (va_up (va_up (fun _ => none) (0 : Int32).toNatClampNeg (some (s0 0))) (1 : Int32).toNatClampNeg (some (s1 0))) (2 : Int32).toNatClampNeg (some (s2 0))) (3 : Int32).toNatClampNeg (some (s3 0)))) (fun j hj => by rcases (show j = 0 ∨ j = 1 ∨ j = 2 ∨ j = 3 by omega) with rfl | rfl | rfl | rfl <;> rfl)]
        exact z
      · have hlt : k < 77 := by
          have := (List.getElem?_eq_some_iff.mp hk).1
          exact this
        refine hk2 q ?_
        rw [← hk]
        match k, e1, e2, hlt with
        | 0, _, _, _ => rfl
        | 1, _, _, _ => rfl
        | 2, _, _, _ => rfl
        | 3, _, _, _ => rfl
        | 4, _, _, _ => rfl
        | 5, _, _, _ => rfl
        | 6, _, _, _ => rfl
        | 7, _, _, _ => rfl
        | 8, _, _, _ => rfl
        | 9, _, _, _ => rfl
        | 10, _, _, _ => rfl
        | 11, _, _, _ => rfl
        | 12, _, _, _ => rfl
        | 13, _, _, _ => rfl
        | 14, _, _, _ => rfl
        | 15, _, _, _ => rfl
        | 16, _, _, _ => rfl
        | 17, _, _, _ => rfl
        | 18, _, _, _ => rfl
        | 19, _, _, _ => rfl
        | 20, _, _, _ => rfl
        | 21, _, _, _ => rfl
        | 22, _, _, _ => rfl
        | 23, _, _, _ => rfl
        | 24, _, _, _ => rfl
        | 25, _, _, _ => rfl
        | 26, _, _, _ => rfl
        | 27, _, _, _ => rfl
        | 28, _, _, _ => rfl
        | 29, _, _, _ => rfl
        | 30, _, _, _ => rfl
        | 31, _, _, _ => rfl
        | 32, _, _, _ => rfl
        | 33, _, _, _ => rfl
        | 34, _, _, _ => rfl
        | 35, _, _, _ => rfl
        | 36, _, _, _ => rfl
        | 37, _, _, _ => rfl
        | 38, _, _, _ => rfl
        | 39, _, _, _ => rfl
        | 40, _, _, _ => rfl
        | 41, _, _, _ => rfl
        | 42, a, b, _ => exact absurd rfl a
        | 43, a, b, _ => exact absurd rfl b
        | 44, _, _, _ => rfl
        | 45, _, _, _ => rfl
        | 46, _, _, _ => rfl
        | 47, _, _, _ => rfl
        | 48, _, _, _ => rfl
        | 49, _, _, _ => rfl
        | 50, _, _, _ => rfl
        | 51, _, _, _ => rfl
        | 52, _, _, _ => rfl
        | 53, _, _, _ => rfl
        | 54, _, _, _ => rfl
        | 55, _, _, _ => rfl
        | 56, _, _, _ => rfl
        | 57, _, _, _ => rfl
        | 58, _, _, _ => rfl
        | 59, _, _, _ => rfl
        | 60, _, _, _ => rfl
        | 61, _, _, _ => rfl
        | 62, _, _, _ => rfl
        | 63, _, _, _ => rfl
        | 64, _, _, _ => rfl
        | 65, _, _, _ => rfl
        | 66, _, _, _ => rfl
        | 67, _, _, _ => rfl
        | 68, _, _, _ => rfl
        | 69, _, _, _ => rfl
        | 70, _, _, _ => rfl
        | 71, _, _, _ => rfl
        | 72, _, _, _ => rfl
        | 73, _, _, _ => rfl
        | 74, _, _, _ => rfl
        | 75, _, _, _ => rfl
        | 76, _, _, _ => rfl
        | k + 77, _, _, z => exact absurd z (by omega)
  have hD9 : va_D A (nX8 Y (fun k => [(fun i => [h0, 0, 0, 0, 0, 0, 0, 0, ra, sa].getD i 0), qn, qk, qt, qm, qg, qp, r0, r1, r2, s0, s1, s2, s3].getD k qn)) := by refine va_D_addr ?_ hD; rfl
  exact W.vret hx hb hr (fun t ht hW => ⟨⟨(fun k => [(fun i => [h0, 0, 0, 0, 0, 0, 0, 0, ra, sa].getD i 0), qn, qk, qt, qm, qg, qp, r0, r1, r2, s0, s1, s2, s3].getD k qn), rfl, rfl, by rw [ht]; exact hP9, va_K.moved hW.alike hK, hD9⟩, hS.F ht⟩) hS.2.2 dX8_init_143
