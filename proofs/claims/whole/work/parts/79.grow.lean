/-! pure rows: THE TREE as it grows -/
/-- how many of a .. b - 1 have i above them -/
def cn (pa : Nat → Int32) (i a : Nat) : Nat → Nat
  | 0 => 0
  | b + 1 => cn pa i a b + (if a ≤ b ∧ pa b = nI i then 1 else 0)
theorem cn_succ (pa : Nat → Int32) (i a b : Nat) : cn pa i a (b + 1) = cn pa i a b + (if a ≤ b ∧ pa b = nI i then 1 else 0) := rfl
theorem cn_le (pa : Nat → Int32) (i a : Nat) : ∀ b, cn pa i a b ≤ b := by
  intro b
  induction b with
  | zero => exact Nat.le_refl _
  | succ b ih =>
    rw [cn_succ]
    split <;> omega
theorem cn_zero {pa : Nat → Int32} {i a : Nat} : ∀ b, (∀ o, a ≤ o → o < b → ¬ pa o = nI i) → cn pa i a b = 0 := by
  intro b
  induction b with
  | zero => exact fun _ => rfl
  | succ b ih =>
    intro h
    rw [cn_succ, ih (fun o h1 h2 => h o h1 (by omega)), if_neg (fun q => h b q.1 (by omega) q.2)]
theorem cn_split {pa : Nat → Int32} {i a b : Nat} (hab : a ≤ b) : ∀ c, b ≤ c → cn pa i a c = cn pa i a b + cn pa i b c := by
  intro c
  induction c with
  | zero =>
    intro h
    have : b = 0 := by omega
    subst this
    rfl
  | succ c ih =>
    intro h
    by_cases e : b = c + 1
    · subst e
      rw [cn_zero (a := c + 1) (c + 1) (fun o h1 h2 => by omega)]
      rfl
    · rw [cn_succ, cn_succ, ih (by omega)]
      by_cases q : pa c = nI i
      · rw [if_pos ⟨by omega, q⟩, if_pos ⟨by omega, q⟩]
        omega
      · rw [if_neg (fun z => q z.2), if_neg (fun z => q z.2)]
        omega
theorem cn_congr {pa pa' : Nat → Int32} {i a : Nat} : ∀ b, (∀ o, a ≤ o → o < b → pa o = pa' o) → cn pa i a b = cn pa' i a b := by
  intro b
  induction b with
  | zero => exact fun _ => rfl
  | succ b ih =>
    intro h
    rw [cn_succ, cn_succ, ih (fun o h1 h2 => h o h1 (by omega))]
    by_cases q : a ≤ b
    · rw [h b q (by omega)]
    · rw [if_neg (fun z => q z.1), if_neg (fun z => q z.1)]
theorem cn_first {pa : Nat → Int32} {i a b : Nat} (hab : a < b) (h : pa a = nI i) (h2 : ∀ o, a < o → o < b → ¬ pa o = nI i) : cn pa i a b = 1 := by
  rw [cn_split (show a ≤ a + 1 by omega) b (by omega), cn_succ, cn_zero a (fun o h1 h2 => by omega), if_pos ⟨Nat.le_refl _, h⟩, cn_zero b (fun o h1 h3 => h2 o (by omega) h3)]
def linkOk (pa de : Nat → Int32) (s i : Nat) : Prop := ∃ g d : Nat, s ≤ g ∧ g < i ∧ pa i = nI g ∧ d ≤ 10 ∧ de g = nI d ∧ de i = nI (d + 1)
def bodyOk (sp pa br en : Nat → Int32) (t i : Nat) : Prop := (∃ a : Nat, a < 12 ∧ sp i = nI a) ∧ br i = nI (cn pa i (i + 1) t) ∧ cn pa i (i + 1) t ≤ 12 ∧ ∃ e : Nat, i < e ∧ e ≤ t ∧ en i = nI e ∧ (∀ o, i < o → o < e → ∃ g : Nat, i ≤ g ∧ g < 300 ∧ pa o = nI g) ∧ ∀ o, e ≤ o → o < t → ∃ g : Nat, (g < i ∨ e ≤ g) ∧ g < 300 ∧ pa o = nI g
def Seg (sp pa br de en : Nat → Int32) (s t : Nat) : Prop := s < t ∧ (∀ i, s < i → i < t → linkOk pa de s i) ∧ (∀ i, s ≤ i → i < t → bodyOk sp pa br en t i) ∧ en s = nI t
def LI (sp pa br de en : Nat → Int32) (s c d : Nat) : Prop := s < c ∧ (∀ i, s < i → i < c → linkOk pa de s i ∧ bodyOk sp pa br en c i) ∧ br s = nI (cn pa s (s + 1) c) ∧ (∃ a : Nat, a < 12 ∧ sp s = nI a) ∧ de s = nI d
/-- the root's end -/
theorem LI.close {sp pa br de en : Nat → Int32} {s c d : Nat} (h : LI sp pa br de en s c d) (h12 : cn pa s (s + 1) c ≤ 12) (hc : c ≤ 300) : Seg sp pa br de (upd en s (nI c)) s c := by
  obtain ⟨h1, h2, h3, h4, h5⟩ := h
  refine ⟨h1, fun i a b => (h2 i a b).1, fun i a b => ?_, pk_us⟩
  by_cases e : i = s
  · subst e
    refine ⟨h4, h3, h12, c, h1, Nat.le_refl _, pk_us, fun o o1 o2 => ?_, fun o o1 o2 => by omega⟩
    obtain ⟨g, d', g1, g2, g3, _⟩ := (h2 o o1 o2).1
    exact ⟨g, g1, by omega, g3⟩
  · obtain ⟨b1, b2, b3, e', e1, e2, e3, e4, e5⟩ := (h2 i (by omega) b).2
    exact ⟨b1, b2, b3, e', e1, e2, by rw [pk_un e, e3], e4, e5⟩
/-- one more child with all that is behind it -/
theorem LI.add {sp pa br de en sp' pa' br' de' en' : Nat → Int32} {s c t d : Nat} (h : LI sp pa br de en s c d) (ht : t ≤ 300) (hd : d ≤ 10) (hseg : Seg sp' pa' br' de' en' c t) (hp : pa' c = nI s) (hde : de' c = nI (d + 1)) (hf : ∀ j, j < c → sp' j = sp j ∧ pa' j = pa j ∧ br' j = upd br s (br s + 1) j ∧ de' j = de j ∧ en' j = en j) : LI sp' pa' br' de' en' s t d ∧ cn pa' s (s + 1) t = cn pa s (s + 1) c + 1 := by
  obtain ⟨h1, h2, h3, h4, h5⟩ := h
  obtain ⟨s1, s2, s3, s4⟩ := hseg
  have later : ∀ o, c < o → o < t → ∃ g : Nat, c ≤ g ∧ g < 300 ∧ pa' o = nI g := by
    intro o o1 o2
    obtain ⟨g, _, g1, g2, g3, _⟩ := s2 o o1 o2
    exact ⟨g, g1, by omega, g3⟩
  have cnt : ∀ i, i < c → cn pa' i (i + 1) c = cn pa i (i + 1) c := fun i hi => cn_congr c (fun o o1 o2 => (hf o o2).2.1)
  have one : cn pa' s (s + 1) t = cn pa s (s + 1) c + 1 := by
    rw [cn_split (show s + 1 ≤ c by omega) t (by omega), cnt s h1, cn_first (a := c) s1 hp]
    intro o o1 o2 q
    obtain ⟨g, q1, q2, q3⟩ := later o o1 o2
    rw [q3] at q
    exact nI_ne (by omega) (by omega) (by omega) q
  refine ⟨⟨by omega, fun i i1 i2 => ?_, ?_, ?_, ?_⟩, one⟩
  · by_cases e : i < c
    · obtain ⟨⟨g, d', g1, g2, g3, g4, g5, g6⟩, b1, b2, b3, e', e1, e2, e3, e4, e5⟩ := h2 i i1 e
      have same : cn pa' i (i + 1) t = cn pa i (i + 1) c := by
        rw [cn_split (show i + 1 ≤ c by omega) t (by omega), cnt i e, cn_zero (a := c) t, Nat.add_zero]
        intro o o1 o2 q
        by_cases e0 : o = c
        · subst e0
          rw [hp] at q
          exact nI_ne (by omega) (by omega) (by omega) q
        · obtain ⟨g, q1, q2, q3⟩ := later o (by omega) o2
          rw [q3] at q
          exact nI_ne (by omega) (by omega) (by omega) q
      obtain ⟨f1, f2, f3, f4, f5⟩ := hf i e
      refine ⟨⟨g, d', g1, g2, by rw [f2, g3], g4, by rw [(hf g (by omega)).2.2.2.1, g5], by rw [f4, g6]⟩, by rw [f1]; exact b1, by rw [f3, pk_un (by omega), b2, same], by rw [same]; exact b3, e', e1, by omega, by rw [f5, e3], fun o o1 o2 => ?_, fun o o1 o2 => ?_⟩
      · obtain ⟨g, q1, q2, q3⟩ := e4 o o1 o2
        exact ⟨g, q1, q2, by rw [(hf o (by omega)).2.1, q3]⟩
      · by_cases e0 : o < c
        · obtain ⟨g, q1, q2, q3⟩ := e5 o o1 e0
          exact ⟨g, q1, q2, by rw [(hf o (by omega)).2.1, q3]⟩
        · by_cases e6 : o = c
          · subst e6
            exact ⟨s, Or.inl i1, by omega, hp⟩
          · obtain ⟨g, q1, q2, q3⟩ := later o (by omega) o2
            exact ⟨g, Or.inr (by omega), q2, q3⟩
    · refine ⟨?_, s3 i (by omega) i2⟩
      by_cases e6 : i = c
      · subst e6
        exact ⟨s, d, Nat.le_refl _, by omega, hp, hd, by rw [(hf s (by omega)).2.2.2.1, h5], hde⟩
      · obtain ⟨g, d', g1, g2, g3⟩ := s2 i (by omega) i2
        exact ⟨g, d', by omega, g2, g3⟩
  · rw [(hf s h1).2.2.1, pk_us, h3, nI_1, one]
  · rw [(hf s h1).1]
    exact h4
  · rw [(hf s h1).2.2.2.1]
    exact h5
theorem ib_ext {x y : Int32} (h : ∀ i, ib x i = ib y i) : x = y := Int32.toBitVec_inj.mp (BitVec.eq_of_getLsbD_eq (fun i _ => h i))
theorem nrs_hi {lo hi : Nat → Int32} {p : Int32} {q : Nat} (hq : 12 ≤ q) : ∀ n, ends12 lo hi n → ib (nrs lo hi p n) q = false := by
  intro n
  induction n with
  | zero => exact fun _ => ib_0 q
  | succ n ih =>
    intro he
    obtain ⟨a, b, ha, hb, _, ea, eb⟩ := he n (by omega)
    have i1 := ih (fun i hi' => he i (by omega))
    show ib (if lo n = p then nrs lo hi p n ||| (1 <<< (hi n &&& 31)) else if hi n = p then nrs lo hi p n ||| (1 <<< (lo n &&& 31)) else nrs lo hi p n) q = false
    split
    · rw [ib_or, i1, eb, ib_1 (by omega), decide_eq_false (by omega)]
      rfl
    · split
      · rw [ib_or, i1, ea, ib_1 (by omega), decide_eq_false (by omega)]
        rfl
      · exact i1
theorem ib_4095 : ∀ i, i < 32 → ib (nI 4095) i = decide (i < 12) := by decide +kernel
theorem near_set {lo hi : Nat → Int32} {n : Nat} (he : ends12 lo hi n) (p x : Int32) : nrs lo hi p n &&& x = (nrs lo hi p n &&& x) &&& nI 4095 := by
  refine ib_ext (fun i => ?_)
  rw [ib_and _ (nI 4095)]
  by_cases h : i < 32
  · rw [ib_4095 i h]
    by_cases h2 : i < 12
    · rw [decide_eq_true h2, Bool.and_true]
    · rw [ib_and, nrs_hi (by omega) n he]
      rfl
  · rw [ib_ge _ (by omega)]
    rfl
theorem bit_4095 : ∀ v, v < 12 → 4095 / 2 ^ v % 2 = 1 := by decide
theorem near_has {lo hi : Nat → Int32} {n : Nat} (he : ends12 lo hi n) (p x : Int32) {v : Nat} (hv : v < 12) : f_X9_has (nrs lo hi p n &&& x).toInt64 (nI v) = some (if ib (nrs lo hi p n &&& x) v = true then 1 else 0) := by
  rw [near_set he, has_and _ (by decide) (by omega), ← near_set he]
  by_cases h : ib (nrs lo hi p n &&& x) v = true
  · rw [if_pos ⟨h, bit_4095 v hv⟩, if_pos h]
  · rw [if_neg (fun q => h q.1), if_neg h]
def GrowOk (nr lo hi : Nat → Int32) (P L n : Nat) : Prop := ∀ (p o d s : Nat) (ov : Int32) (sp pa br de en np no : Nat → Int32), p < P → o < 4096 → o / 2 ^ p % 2 = 0 → d ≤ popc o 12 → 12 < n + d → s ≤ 300 → (∀ j, j < s → sp j = np j ∧ pa j = no j) →
  ∃ (b : Int32) (sp' pa' br' de' en' np' no' : Nat → Int32) (t : Nat), f_X6_growFrom n nr sp pa br de en (nI s) (nI p) ov (nI o) (nI d) = some (b, sp', pa', br', de', en', nI t) ∧ f_X9_grows n (nI P) (nI L) lo hi np no (nI s) (nI p) ov (nI o) = some (b, np', no', nI t) ∧ s ≤ t ∧ t ≤ 300 ∧ (∀ j, j < t → sp' j = np' j ∧ pa' j = no' j) ∧ (∀ j, j < s → sp' j = sp j ∧ pa' j = pa j ∧ br' j = br j ∧ de' j = de j ∧ en' j = en j) ∧ (b = 0 ∨ (b = 1 ∧ pa' s = ov ∧ de' s = nI d ∧ Seg sp' pa' br' de' en' s t))
theorem g300 {α : Type} {n : Nat} (h : n < 300) {x : Option α} : (if nI n < 0 ∨ 300 ≤ (nI n).toNatClampNeg then none else x) = x := gN h (by decide)
theorem c300 {n : Nat} (h : n < 300) : (nI n).toNatClampNeg = n := nI_clamp (by omega)
theorem g300c {α : Type} {n : Nat} (h : n < 300) {x : Option α} : (if nI n < 0 ∨ 300 ≤ n then none else x) = x := gC h (by decide)
theorem grow_tail {nr lo hi : Nat → Int32} {P L : Nat} (hP : P ≤ 12) {rc : (Nat → Int32) → (Nat → Int32) → (Nat → Int32) → (Nat → Int32) → (Nat → Int32) → (Nat → Int32) → Int32 → Int32 → Int32 → Int32 → Int32 → Option (Int32 × (Nat → Int32) × (Nat → Int32) × (Nat → Int32) × (Nat → Int32) × (Nat → Int32) × Int32)} (p2 p3 p4 p5 : Int32) {s : Nat} (hs : s < 300) (sp pa br de en : Nat → Int32) (sz gone : Int32) {next : Int32} (hb : ∀ v, P ≤ v → v < 12 → ib next v = false) : ∀ (m v : Nat), P ≤ v → v ≤ 12 → 12 - v < m → f_X6_growFrom_b92 rc nr p2 p3 p4 p5 m sp pa br de en sz (nI s) gone next (nI v) = some (1, sp, pa, br, de, upd en s sz, sz) := by
  intro m
  induction m with
  | zero => intro v _ _ h; omega
  | succ m ih =>
    intro v hv hv2 hm
    show f_X6_growFrom_s92 rc nr p2 p3 p4 p5 (f_X6_growFrom_b92 rc nr p2 p3 p4 p5 m) sp pa br de en sz (nI s) gone next (nI v) = _
    unfold f_X6_growFrom_s92
    by_cases h : 12 ≤ v
    · have e : v = 12 := by omega
      subst e
      rw [if_pos (show (12 : Int32) ≤ nI 12 by decide), g300 hs, c300 hs, nmE]
    · rw [if_neg (show ¬ (12 : Int32) ≤ nI v from nI_ge (a := v) (b := 12) (by omega) (by decide)), if_pos ((ib_sh next (by omega)).mpr (hb v hv (by omega))), nmE, nI_1]
      exact ih (v + 1) (by omega) (by omega) (by omega)
theorem grow_loop {kd fg lo hi jn nr : Nat → Int32} {la : Nat → Int64} {P L T : Nat} (hn : NetI kd fg lo hi jn nr la P L T) {n : Nat} (ih : GrowOk nr lo hi P L n) {p o d s : Nat} (ov : Int32) (hp : p < P) (ho : o < 4096) (hbit : o / 2 ^ p % 2 = 0) (hd : d ≤ popc o 12) (hnd : 12 < n + (d + 1)) : ∀ (m v c : Nat) (sp pa br de en np no : Nat → Int32), v ≤ P → 12 - v < m → c ≤ 300 → (∀ j, j < c → sp j = np j ∧ pa j = no j) → LI sp pa br de en s c d → cn pa s (s + 1) c ≤ v →
    ∃ (b : Int32) (sp' pa' br' de' en' np' no' : Nat → Int32) (t : Nat), f_X6_growFrom_b92 (f_X6_growFrom n) nr (nI p) ov (nI o) (nI d) m sp pa br de en (nI c) (nI s) (nI (orp o p)) (nrs lo hi (nI p) L &&& (nI (orp o p) ^^^ (-1))) (nI v) = some (b, sp', pa', br', de', en', nI t) ∧ f_X9_grows_b59 (f_X9_grows n) (nI P) (nI L) lo hi (nI p) ov (nI o) m np no (nI c) (nI s) (nrs lo hi (nI p) L &&& (nI (orp o p) ^^^ (-1))) (nI v) = some (b, np', no', nI t) ∧ c ≤ t ∧ t ≤ 300 ∧ (∀ j, j < t → sp' j = np' j ∧ pa' j = no' j) ∧ (∀ j, j < s → sp' j = sp j ∧ pa' j = pa j ∧ br' j = br j ∧ de' j = de j ∧ en' j = en j) ∧ (b = 0 ∨ (b = 1 ∧ pa' s = pa s ∧ de' s = de s ∧ Seg sp' pa' br' de' en' s t)) := by
  have hP := hn.1
  have hL := hn.2.1
  have he := hn.e12
  obtain ⟨eo, ho2⟩ := or_ok o ho p (by omega)
  have hpop := (pop_set o ho p (by omega)).resolve_left (by omega)
  have hbits : ∀ v, v < 12 → ib (nrs lo hi (nI p) L &&& (nI (orp o p) ^^^ (-1))) v = true → v < P ∧ orp o p / 2 ^ v % 2 = 0 := by
    intro v hv h
    rw [ib_and, ib_not, ib_nI _ (by omega), Bool.and_eq_true, Bool.and_eq_true] at h
    obtain ⟨h1, _, h2⟩ := h
    refine ⟨?_, ?_⟩
    · obtain ⟨i, hi', hm⟩ := (nrs_bit (by omega) hv L he).mp h1
      obtain ⟨a, b, ab, bP, ea, eb⟩ := hn.2.2.2.2.2.1 i hi'
      rcases hm with ⟨q1, q2⟩ | ⟨q1, q2⟩
      · rw [eb] at q2
        have := nI_inj (by omega) (by omega) q2
        omega
      · rw [ea] at q1
        have := nI_inj (by omega) (by omega) q1
        omega
    · rw [Bool.not_eq_true', decide_eq_false_iff_not] at h2
      omega
  intro m
  induction m with
  | zero => intro v c sp pa br de en np no _ h; omega
  | succ m ihm =>
    intro v c sp pa br de en np no hv hm hc hag hli hcv
    have hsc := hli.1
    by_cases h : P ≤ v
    · have e : v = P := by omega
      subst e
      have tl := grow_tail (nr := nr) (lo := lo) (hi := hi) (L := L) hP (rc := f_X6_growFrom n) (nI p) ov (nI o) (nI d) (show s < 300 by omega) sp pa br de en (nI c) (nI (orp o p)) (next := nrs lo hi (nI p) L &&& (nI (orp o p) ^^^ (-1))) (fun w h1 h2 => by
        apply Bool.eq_false_iff.mpr
        intro q
        have := (hbits w h2 q).1
        omega) (m + 1) v (Nat.le_refl _) (by omega) hm
      rw [tl]
      show ∃ b sp' pa' br' de' en' np' no' t, _ ∧ f_X9_grows_s59 (f_X9_grows n) (nI v) (nI L) lo hi (nI p) ov (nI o) (f_X9_grows_b59 (f_X9_grows n) (nI v) (nI L) lo hi (nI p) ov (nI o) m) np no (nI c) (nI s) _ (nI v) = _ ∧ _
      unfold f_X9_grows_s59
      rw [if_pos (nI_le (Nat.le_refl v) (by omega))]
      exact ⟨1, sp, pa, br, de, _, np, no, c, rfl, rfl, Nat.le_refl _, hc, hag, fun j hj => ⟨rfl, rfl, rfl, rfl, pk_un (by omega)⟩, Or.inr ⟨rfl, rfl, rfl, hli.close (by omega) hc⟩⟩
    · show ∃ b sp' pa' br' de' en' np' no' t, f_X6_growFrom_s92 (f_X6_growFrom n) nr (nI p) ov (nI o) (nI d) (f_X6_growFrom_b92 (f_X6_growFrom n) nr (nI p) ov (nI o) (nI d) m) sp pa br de en (nI c) (nI s) (nI (orp o p)) _ (nI v) = _ ∧ f_X9_grows_s59 (f_X9_grows n) (nI P) (nI L) lo hi (nI p) ov (nI o) (f_X9_grows_b59 (f_X9_grows n) (nI P) (nI L) lo hi (nI p) ov (nI o) m) np no (nI c) (nI s) _ (nI v) = _ ∧ _
      unfold f_X6_growFrom_s92 f_X9_grows_s59
      rw [if_neg (show ¬ (12 : Int32) ≤ nI v from nI_ge (a := v) (b := 12) (by omega) (by decide)), if_neg (nI_ge (by omega) (by omega)), near_has he _ _ (by omega), bE1, nmE, nI_1, nmE]
      by_cases hb : ib (nrs lo hi (nI p) L &&& (nI (orp o p) ^^^ (-1))) v = true
      · obtain ⟨hvP, hvo⟩ := hbits v (by omega) hb
        have hs300 : s < 300 := by omega
        rw [if_neg (fun q => by rw [ib_sh _ (by omega), hb] at q; exact absurd q (by decide)), if_pos hb, if_neg (show ¬ (1 : Int32) = 0 by decide), g300 hs300, g300 hs300, c300 hs300, nI_1, eo]
        obtain ⟨b, sp', pa', br', de', en', np', no', t, r1, r2, r3, r4, r5, r6, r7⟩ := ih v (orp o p) (d + 1) c (nI s) sp pa (upd br s (br s + 1)) de en np no hvP ho2 hvo (by omega) hnd hc hag
        rw [r1, r2, bE7, bE4]
        have fr6 : ∀ j, j < s → sp' j = sp j ∧ pa' j = pa j ∧ br' j = br j ∧ de' j = de j ∧ en' j = en j := by
          intro j hj
          obtain ⟨f1, f2, f3, f4, f5⟩ := r6 j (by omega)
          exact ⟨f1, f2, by rw [f3, pk_un (by omega)], f4, f5⟩
        rcases r7 with rfl | ⟨rfl, q1, q2, q3⟩
        · rw [if_pos rfl, if_pos rfl]
          exact ⟨0, sp', pa', br', de', en', np', no', t, rfl, rfl, r3, r4, r5, fr6, Or.inl rfl⟩
        · rw [if_neg (show ¬ (1 : Int32) = 0 by decide), if_neg (show ¬ (1 : Int32) = 0 by decide), nmE, nmE]
          have hd10 : d ≤ 10 := by
            have := (pop_set (orp o p) ho2 v (by omega)).resolve_left (by omega)
            have h2 := pop_le (orp (orp o p) v) (or_ok _ ho2 v (by omega)).2
            omega
          obtain ⟨hli', hcn⟩ := hli.add r4 hd10 q3 q1 q2 r6
          obtain ⟨b, sp'', pa'', br'', de'', en'', np'', no'', t', y1, y2, y3, y4, y5, y6, y7⟩ := ihm (v + 1) t sp' pa' br' de' en' np' no' (by omega) (by omega) r4 r5 hli' (by omega)
          have es := r6 s (by omega)
          refine ⟨b, sp'', pa'', br'', de'', en'', np'', no'', t', y1, y2, by omega, y4, y5, fun j hj => ?_, ?_⟩
          · obtain ⟨f1, f2, f3, f4, f5⟩ := y6 j hj
            obtain ⟨g1, g2, g3, g4, g5⟩ := fr6 j hj
            exact ⟨f1.trans g1, f2.trans g2, f3.trans g3, f4.trans g4, f5.trans g5⟩
          · rcases y7 with z | ⟨z1, z2, z3, z4⟩
            · exact Or.inl z
            · exact Or.inr ⟨z1, z2.trans es.2.1, z3.trans es.2.2.2.1, z4⟩
      · have hb' := Bool.eq_false_iff.mpr hb
        rw [if_pos ((ib_sh _ (by omega)).mpr hb'), if_neg hb, if_pos rfl]
        exact ihm (v + 1) c sp pa br de en np no (by omega) (by omega) hc hag hli (by omega)
theorem grow_ok {kd fg lo hi jn nr : Nat → Int32} {la : Nat → Int64} {P L T : Nat} (hn : NetI kd fg lo hi jn nr la P L T) : ∀ n, GrowOk nr lo hi P L n := by
  have hP := hn.1
  have hL := hn.2.1
  intro n
  induction n with
  | zero =>
    intro p o d s ov sp pa br de en np no hp ho hbit hd hnd
    have := pop_le o ho
    omega
  | succ n ih =>
    intro p o d s ov sp pa br de en np no hp ho hbit hd hnd hs hag
    obtain ⟨eo, ho2⟩ := or_ok o ho p (by omega)
    have hpop := (pop_set o ho p (by omega)).resolve_left (by omega)
    have hpl := pop_le _ ho2
    show ∃ b sp' pa' br' de' en' np' no' t, f_X6_growFrom_st (f_X6_growFrom n) nr sp pa br de en (nI s) (nI p) ov (nI o) (nI d) = _ ∧ f_X9_grows_st (f_X9_grows n) (nI P) (nI L) lo hi np no (nI s) (nI p) ov (nI o) = _ ∧ _
    unfold f_X6_growFrom_st f_X9_grows_st
    by_cases h : s = 300
    · subst h
      rw [if_pos (show (300 : Int32) ≤ nI 300 by decide), if_pos (show nI 300 = (300 : Int32) from rfl)]
      exact ⟨0, sp, pa, br, de, en, np, no, 300, rfl, rfl, Nat.le_refl _, hs, hag, fun j hj => ⟨rfl, rfl, rfl, rfl, rfl⟩, Or.inl rfl⟩
    · have h3 : s < 300 := by omega
      rw [if_neg (show ¬ (300 : Int32) ≤ nI s from nI_ge (a := s) (b := 300) (by omega) (by decide)), if_neg (show ¬ nI s = (300 : Int32) from nI_ne (b := 300) (by omega) (by decide) (by omega)), if_pos (show nI d < (12 : Int32) from nI_lt (b := 12) (by omega) (by decide)), nmE]
      simp only [nmE, c300 h3, g300c h3, eo, c12 (show p < 12 by omega), g12 (show p < 12 by omega), nI_1, q_nearOf hL, bE1, hn.2.2.2.2.2.2.2.2.1 p (by omega)]
      have hli : LI (upd sp s (nI p)) (upd pa s ov) (upd br s 0) (upd de s (nI d)) en s (s + 1) d := ⟨by omega, fun i i1 i2 => by omega, by rw [pk_us, cn_zero (s + 1) (fun o o1 o2 => by omega)]; rfl, ⟨p, by omega, pk_us⟩, pk_us⟩
      obtain ⟨b, sp', pa', br', de', en', np', no', t, y1, y2, y3, y4, y5, y6, y7⟩ := grow_loop hn ih ov hp ho hbit hd (by omega) 70 0 (s + 1) (upd sp s (nI p)) (upd pa s ov) (upd br s 0) (upd de s (nI d)) en (upd np s (nI p)) (upd no s ov) (by omega) (by omega) (by omega) (fun j hj => by
        by_cases e : j = s
        · subst e
          rw [pk_us, pk_us, pk_us, pk_us]
          exact ⟨rfl, rfl⟩
        · rw [pk_un e, pk_un e, pk_un e, pk_un e]
          exact hag j (by omega)) hli (by rw [cn_zero (s + 1) (fun o o1 o2 => by omega)]; exact Nat.le_refl _)
      rw [nI_0] at y1 y2
      refine ⟨b, sp', pa', br', de', en', np', no', t, y1, y2, by omega, y4, y5, fun j hj => ?_, ?_⟩
      · obtain ⟨f1, f2, f3, f4, f5⟩ := y6 j hj
        rw [pk_un (by omega)] at f1 f2 f3 f4
        exact ⟨f1, f2, f3, f4, f5⟩
      · rcases y7 with z | ⟨z1, z2, z3, z4⟩
        · exact Or.inl z
        · rw [pk_us] at z2 z3
          exact Or.inr ⟨z1, z2, z3, z4⟩
def TreeI (sp pa br de en : Nat → Int32) (sz : Int32) (np no : Nat → Int32) (xz : Int32) : Prop := ∃ z : Nat, z ≤ 300 ∧ sz = nI z ∧ xz = nI z ∧ (∀ j, j < z → sp j = np j ∧ pa j = no j) ∧ (z = 0 ∨ (pa 0 = -1 ∧ de 0 = 0 ∧ Seg sp pa br de en 0 z))
theorem tree_copy (P L : Int32) (lo hi : Nat → Int32) (p1 p2 : Int32) (np no : Nat → Int32) {z : Nat} (hz : z ≤ 300) : ∀ (m i : Nat) (dp dn : Nat → Int32), i ≤ z → z - i < m → (∀ j, j < i → dp j = np j ∧ dn j = no j) → ∃ dp' dn', f_X9_tree_b55 P L lo hi p1 p2 m dp dn np no (nI z) (nI z) (nI i) = some (nI z, dp', dn', np, no, nI z, nI z) ∧ ∀ j, j < z → dp' j = np j ∧ dn' j = no j := by
  intro m
  induction m with
  | zero => intro i dp dn _ h; omega
  | succ m ih =>
    intro i dp dn hi' hm h
    show ∃ dp' dn', f_X9_tree_s55 P L lo hi p1 p2 (f_X9_tree_b55 P L lo hi p1 p2 m) dp dn np no (nI z) (nI z) (nI i) = _ ∧ _
    unfold f_X9_tree_s55
    by_cases e : z ≤ i
    · have e : i = z := by omega
      subst e
      rw [if_pos (nI_le (Nat.le_refl i) (by omega))]
      exact ⟨dp, dn, rfl, h⟩
    · have h3 : i < 300 := by omega
      rw [if_neg (nI_ge (by omega) (by omega))]
      simp only [nmE, c300 h3, g300c h3, nI_1]
      refine ih (i + 1) _ _ (by omega) (by omega) (fun j hj => ?_)
      by_cases q : j = i
      · subst q
        rw [pk_us, pk_us]
        exact ⟨rfl, rfl⟩
      · rw [pk_un q, pk_un q]
        exact h j (by omega)
theorem s_tree {kd fg lo hi jn nr : Nat → Int32} {la : Nat → Int64} {P L T : Nat} (hn : NetI kd fg lo hi jn nr la P L T) (gr sr : Nat) (sp pa br de en : Nat → Int32) (sz : Int32) (dp dn np no : Nat → Int32) (xz xm p1 p2 : Int32) :
    ∃ (r : Int32) (sp' pa' br' de' en' : Nat → Int32) (sz' : Int32) (dp' dn' np' no' : Nat → Int32) (xz' xm' : Int32), f_X9_tree (nI P) (nI L) lo hi dp dn np no xz xm p1 p2 = some (r, dp', dn', np', no', xz', xm') ∧ ((f_X8_tree gr sr nr (nI P) sp pa br de en sz p1 p2 = some (r, gr, sr, sp', pa', br', de', en', sz') ∧ dp' = dp ∧ dn' = dn ∧ xz' = xz) ∨ (f_X8_tree gr sr nr (nI P) sp pa br de en sz p1 p2 = some (r, sr, gr, sp', pa', br', de', en', sz') ∧ TreeI sp' pa' br' de' en' sz' dp' dn' xz')) := by
  have hP := hn.1
  unfold f_X8_tree f_X9_tree
  rcases pt_cases hP p1 p2 with ⟨c1, cr⟩ | ⟨p, o, hp, ho, rfl, rfl, hbit, c1, c2, c3, c4⟩
  · rw [c1, bE1, if_neg (show ¬ (1 : Int32) = 0 by decide)]
    rcases cr with z | ⟨z, z2 | ⟨z2, z3⟩⟩
    · rw [z, bE1, if_pos rfl]
      exact ⟨_, _, _, _, _, _, _, _, _, _, _, _, _, rfl, Or.inl ⟨rfl, rfl, rfl, rfl⟩⟩
    · rw [z, bE1, if_neg (show ¬ (1 : Int32) = 0 by decide), z2, bE1, if_pos rfl]
      exact ⟨_, _, _, _, _, _, _, _, _, _, _, _, _, rfl, Or.inl ⟨rfl, rfl, rfl, rfl⟩⟩
    · rw [z, bE1, if_neg (show ¬ (1 : Int32) = 0 by decide), z2, bE1, if_neg (show ¬ (1 : Int32) = 0 by decide), z3, bE1, if_neg (show ¬ (1 : Int32) = 0 by decide)]
      exact ⟨_, _, _, _, _, _, _, _, _, _, _, _, _, rfl, Or.inl ⟨rfl, rfl, rfl, rfl⟩⟩
  · rw [c1, bE1, if_pos rfl, c2, bE1, if_neg (show ¬ (1 : Int32) = 0 by decide), c3, bE1, if_neg (show ¬ (1 : Int32) = 0 by decide), c4, bE1, if_pos rfl]
    obtain ⟨b, sp', pa', br', de', en', np', no', t, y1, y2, y3, y4, y5, y6, y7⟩ := grow_ok hn 16 p o 0 0 (-1) sp pa br de en np no hp ho hbit (by omega) (by omega) (by omega) (fun j hj => by omega)
    rw [nI_0] at y1 y2
    unfold f_X6_grow
    rcases y7 with rfl | ⟨rfl, z1, z2, z3⟩
    · rw [y1, bE7, if_pos (Or.inl rfl), bE7, if_pos rfl, y2, bE4, if_pos rfl]
      exact ⟨_, _, _, _, _, _, _, _, _, _, _, _, _, rfl, Or.inl ⟨rfl, rfl, rfl, rfl⟩⟩
    · obtain ⟨dp', dn', q1, q2⟩ := tree_copy (nI P) (nI L) lo hi (nI p) (nI o) np' no' y4 310 0 dp dn (by omega) (by omega) (fun j hj => by omega)
      rw [nI_0] at q1
      rw [y1, bE7, if_pos (Or.inr rfl), bE7, if_neg (show ¬ (1 : Int32) = 0 by decide), y2, bE4, if_neg (show ¬ (1 : Int32) = 0 by decide), q1]
      exact ⟨_, _, _, _, _, _, _, _, _, _, _, _, _, rfl, Or.inr ⟨rfl, t, y4, rfl, rfl, fun j hj => ⟨(y5 j hj).1.trans (q2 j hj).1.symm, (y5 j hj).2.trans (q2 j hj).2.symm⟩, Or.inr ⟨z1, z2, z3⟩⟩⟩
