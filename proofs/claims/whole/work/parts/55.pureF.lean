/-! pure rows: drop, image, back, count -/
def sh (f : Nat → Int32) (p n : Nat) : Nat → Int32 := fun j => if p ≤ j ∧ j < n then f (j + 1) else f j
theorem sh_step {f : Nat → Int32} {i n : Nat} (h : i < n) : sh (upd f i (f (i + 1))) (i + 1) n = sh f i n := by
  funext j
  unfold sh
  by_cases h1 : j = i
  · subst h1
    rw [if_neg (by omega), if_pos (by omega), pk_us]
  · by_cases h2 : i + 1 ≤ j ∧ j < n
    · rw [if_pos h2, if_pos (by omega), pk_un (by omega)]
    · rw [if_neg h2, if_neg (by omega), pk_un h1]
theorem sh_end {f : Nat → Int32} {n : Nat} : sh f n n = f := by
  funext j
  unfold sh
  rw [if_neg (by omega)]
theorem remove_loop (p1 : Int32) {N : Nat} (hN : N < 40) (jn nr : Nat → Int32) (la : Nat → Int64) (age : Int32) : ∀ (m i : Nat) (kd fg lo hi : Nat → Int32), i ≤ N → N - i < m → f_X1_remove_b12 p1 m kd fg lo hi jn nr la (nI N) age (nI i) = bn4 (f_X1_link (sh lo i N) (sh hi i N) jn nr la (nI N) age) (fun w2 w3 w4 w5 => some (sh kd i N, sh fg i N, sh lo i N, sh hi i N, w2, w3, w4, nI N, w5)) := by
  intro m
  induction m with
  | zero =>
    intro i kd fg lo hi _ h
    omega
  | succ m ih =>
    intro i kd fg lo hi hi' hm
    show f_X1_remove_s12 p1 (f_X1_remove_b12 p1 m) kd fg lo hi jn nr la (nI N) age (nI i) = _
    unfold f_X1_remove_s12
    by_cases h : N ≤ i
    · have e : i = N := by omega
      subst e
      rw [if_pos (nI_le (Nat.le_refl i) (by omega)), sh_end, sh_end, sh_end, sh_end]
    · rw [if_neg (nI_ge (by omega) (by omega))]
      have a1 : i < 40 := by omega
      have a2 : i + 1 < 40 := by omega
      simp only [nm, nI_1, c40 a1, c40 a2, g40 a1, g40 a2]
      rw [ih (i + 1) _ _ _ _ (by omega) (by omega), sh_step (by omega), sh_step (by omega), sh_step (by omega), sh_step (by omega)]
theorem drop_loop (p1 : Int32) {N : Nat} (hN : N < 40) : ∀ (m i : Nat) (kd fg lo hi : Nat → Int32), i ≤ N → N - i < m → f_X9_drop_b23 p1 m (nI N) kd fg lo hi (nI i) = some (nI N, nI N, sh kd i N, sh fg i N, sh lo i N, sh hi i N) := by
  intro m
  induction m with
  | zero =>
    intro i kd fg lo hi _ h
    omega
  | succ m ih =>
    intro i kd fg lo hi hi' hm
    show f_X9_drop_s23 p1 (f_X9_drop_b23 p1 m) (nI N) kd fg lo hi (nI i) = _
    unfold f_X9_drop_s23
    by_cases h : N ≤ i
    · have e : i = N := by omega
      subst e
      rw [if_pos (nI_le (Nat.le_refl i) (by omega)), sh_end, sh_end, sh_end, sh_end]
    · rw [if_neg (nI_ge (by omega) (by omega))]
      have a1 : i < 40 := by omega
      have a2 : i + 1 < 40 := by omega
      simp only [nm, nI_1, c40 a1, c40 a2, g40 a1, g40 a2]
      rw [ih (i + 1) _ _ _ _ (by omega) (by omega), sh_step (by omega), sh_step (by omega), sh_step (by omega), sh_step (by omega)]
theorem sh_at (f : Nat → Int32) (p n j : Nat) : ∃ i, (i = j ∨ (i = j + 1 ∧ p ≤ j ∧ j < n)) ∧ sh f p n j = f i ∧ (p ≤ j ∧ j < n → i = j + 1) ∧ (¬ (p ≤ j ∧ j < n) → i = j) := by
  unfold sh
  by_cases h : p ≤ j ∧ j < n
  · exact ⟨j + 1, Or.inr ⟨rfl, h⟩, if_pos h, fun _ => rfl, fun q => absurd h q⟩
  · exact ⟨j, Or.inl rfl, if_neg h, fun q => absurd q h, fun _ => rfl⟩
theorem s_drop {kd fg lo hi jn nr : Nat → Int32} {la : Nat → Int64} {P L T : Nat} (h : NetI kd fg lo hi jn nr la P L T) (age p1 : Int32) :
    ∃ (r : Int32) (kd' fg' lo' hi' jn' nr' : Nat → Int32) (la' : Nat → Int64) (L' : Nat) (ag' : Int32), f_X8_drop kd fg lo hi jn nr la (nI L) age p1 = some (r, kd', fg', lo', hi', jn', nr', la', nI L', ag') ∧ f_X9_drop (nI L) kd fg lo hi p1 = some (r, nI L', kd', fg', lo', hi') ∧ NetI kd' fg' lo' hi' jn' nr' la' P L' T ∧ ((ag' = age ∧ kd' = kd ∧ fg' = fg ∧ lo' = lo ∧ hi' = hi ∧ jn' = jn ∧ nr' = nr ∧ la' = la ∧ L' = L) ∨ ag' = age + 1) := by
  have hL := h.2.1
  unfold f_X8_drop f_X9_drop
  rw [q_hasLine, q_isLine]
  simp only [bs1, h01, propext (pred_lt (n := L) (by omega) p1)]
  rcases ix_cases p1 (n := L) (by omega) with ⟨q, -⟩ | ⟨a, ha, rfl, q⟩
  · rw [if_pos q, if_pos q]
    exact ⟨_, kd, fg, lo, hi, jn, nr, la, L, age, rfl, rfl, h, Or.inl ⟨rfl, rfl, rfl, rfl, rfl, rfl, rfl, rfl, rfl⟩⟩
  · rw [if_neg q, if_neg q]
    obtain ⟨N, rfl⟩ : ∃ N, L = N + 1 := ⟨L - 1, by omega⟩
    have he : ∀ i, i < N → ∃ a' b' : Nat, a' < b' ∧ b' < P ∧ sh lo a N i = nI a' ∧ sh hi a N i = nI b' := by
      intro i hi'
      by_cases z : a ≤ i ∧ i < N
      · obtain ⟨a', b', z1, z2, z3, z4⟩ := h.2.2.2.2.2.1 (i + 1) (by omega)
        exact ⟨a', b', z1, z2, (if_pos z).trans z3, (if_pos z).trans z4⟩
      · obtain ⟨a', b', z1, z2, z3, z4⟩ := h.2.2.2.2.2.1 i (by omega)
        exact ⟨a', b', z1, z2, (if_neg z).trans z3, (if_neg z).trans z4⟩
    have hP := h.1
    obtain ⟨jn', nr', la', h1, h2⟩ := q_link (lo := sh lo a N) (hi := sh hi a N) (jn := jn) (nr := nr) (la := la) (L := N) (by omega) (fun i hi' => by
      obtain ⟨a', b', z1, z2, z3, z4⟩ := he i hi'
      exact ⟨a', b', by omega, by omega, by omega, z3, z4⟩) age
    simp only [f_X1_remove, nm, nI_pred]
    rw [remove_loop _ (by omega) jn nr la age 70 a kd fg lo hi (by omega) (by omega), drop_loop _ (by omega) 70 a kd fg lo hi (by omega) (by omega), h1]
    simp only [bs4, bs9]
    refine ⟨_, _, _, _, _, _, _, _, N, _, rfl, rfl, ⟨hP, by omega, h.2.2.1, fun i hi' => ?_, fun i hi' => ?_, he, fun x y i j hi' hj m1 m2 => ?_, h2⟩, Or.inr rfl⟩
    · obtain ⟨k, z1, z2, -, -⟩ := sh_at kd a N i
      rw [z2]
      exact h.2.2.2.1 k (by omega)
    · obtain ⟨k, z1, z2, -, -⟩ := sh_at fg a N i
      rw [z2]
      exact h.2.2.2.2.1 k (by omega)
    · obtain ⟨i1, z1, z2, z3, z4⟩ := sh_at lo a N i
      obtain ⟨i2, y1, y2, y3, y4⟩ := sh_at hi a N i
      obtain ⟨j1, w1, w2, w3, w4⟩ := sh_at lo a N j
      obtain ⟨j2, v1, v2, v3, v4⟩ := sh_at hi a N j
      have ei : i2 = i1 := by
        by_cases z : a ≤ i ∧ i < N
        · rw [z3 z, y3 z]
        · rw [z4 z, y4 z]
      have ej : j2 = j1 := by
        by_cases z : a ≤ j ∧ j < N
        · rw [w3 z, v3 z]
        · rw [w4 z, v4 z]
      subst ei
      subst ej
      unfold mt at m1 m2
      rw [z2, y2] at m1
      rw [w2, v2] at m2
      have := h.2.2.2.2.2.2.1 x y i2 j2 (by omega) (by omega) m1 m2
      by_cases z : a ≤ i ∧ i < N
      · by_cases z' : a ≤ j ∧ j < N
        · have := z3 z
          have := w3 z'
          omega
        · have := z3 z
          have := w4 z'
          omega
      · by_cases z' : a ≤ j ∧ j < N
        · have := z4 z
          have := w3 z'
          omega
        · have := z4 z
          have := w4 z'
          omega
theorem s_count (P L T g p1 : Int32) : ∃ r, f_X8_count P L T g p1 = some r ∧ f_X9_count P L T g p1 = some r := by
  unfold f_X8_count f_X9_count
  repeat' split
  all_goals exact ⟨_, rfl, rfl⟩
/-- the image, as both keep it -/
def KeptI (isK : Int32) (kk kf kl kh : Nat → Int32) (kp kn kt : Int32) (xk : Nat → Int32) : Prop :=
  isK = 0 ∨ (isK = 1 ∧ ∃ P L T : Nat, kp = nI P ∧ kn = nI L ∧ kt = nI T ∧ P ≤ 12 ∧ L ≤ 40 ∧ T ≤ 9 ∧ (∀ i, i < 40 → ∃ k : Nat, k < 6 ∧ kk i = nI k) ∧ (∀ i, i < 40 → ∃ f : Nat, f ≤ 9999 ∧ kf i = nI f) ∧ (∀ i, i < L → ∃ a b : Nat, a < b ∧ b < P ∧ kl i = nI a ∧ kh i = nI b) ∧ uniq kl kh L ∧ xk 0 = kp ∧ xk 1 = kt ∧ xk 2 = kn ∧ ∀ i, i < 40 → xk (3 + 4 * i) = kk i ∧ xk (4 + 4 * i) = kf i ∧ xk (5 + 4 * i) = kl i ∧ xk (6 + 4 * i) = kh i)
theorem cpy40 {f g : Nat → Int32} {j : Nat} (h : j < 40) : va_cpy f g 0 0 40 j = f j := by
  rw [pk_cpy_in (by omega) (by omega)]
  congr 1
  omega
theorem g163 {α : Type} {n : Nat} (h : n < 163) {x : Option α} : (if nI n < 0 ∨ 163 ≤ n then none else x) = x := gC h (by decide)
theorem c163 {n : Nat} (h : n < 163) : (nI n).toNatClampNeg = n := nI_clamp (by omega)
theorem k3 (i : Nat) : (3 : Int32) + 4 * nI i = nI (3 + 4 * i) := by rw [show (3 : Int32) = nI 3 from rfl, show (4 : Int32) = nI 4 from rfl, pk_mul, nI_add]
theorem k4 (i : Nat) : (4 : Int32) + 4 * nI i = nI (4 + 4 * i) := by rw [show (4 : Int32) = nI 4 from rfl, pk_mul, nI_add]
theorem k5 (i : Nat) : (5 : Int32) + 4 * nI i = nI (5 + 4 * i) := by rw [show (5 : Int32) = nI 5 from rfl, show (4 : Int32) = nI 4 from rfl, pk_mul, nI_add]
theorem k6 (i : Nat) : (6 : Int32) + 4 * nI i = nI (6 + 4 * i) := by rw [show (6 : Int32) = nI 6 from rfl, show (4 : Int32) = nI 4 from rfl, pk_mul, nI_add]
theorem image_loop (P L T : Int32) (kd fg lo hi : Nat → Int32) (v : Int32) : ∀ (m i : Nat) (xk : Nat → Int32), i ≤ 40 → 40 - i < m → ∃ xk', f_X9_image_b37 P L T kd fg lo hi m v xk (nI i) = some (L, v, xk') ∧ (∀ j, j < 3 + 4 * i → xk' j = xk j) ∧ ∀ j, i ≤ j → j < 40 → xk' (3 + 4 * j) = kd j ∧ xk' (4 + 4 * j) = fg j ∧ xk' (5 + 4 * j) = lo j ∧ xk' (6 + 4 * j) = hi j := by
  intro m
  induction m with
  | zero =>
    intro i xk _ h
    omega
  | succ m ih =>
    intro i xk hi' hm
    show ∃ xk', f_X9_image_s37 P L T kd fg lo hi (f_X9_image_b37 P L T kd fg lo hi m) v xk (nI i) = some (L, v, xk') ∧ _
    unfold f_X9_image_s37
    by_cases h : 40 ≤ i
    · have e : i = 40 := by omega
      subst e
      rw [if_pos (show (40 : Int32) ≤ nI 40 by decide)]
      exact ⟨xk, rfl, fun _ _ => rfl, fun j h1 h2 => by omega⟩
    · rw [if_neg (show ¬ (40 : Int32) ≤ nI i from nI_ge (a := i) (b := 40) (by omega) (by decide))]
      have a0 : i < 40 := by omega
      have a3 : 3 + 4 * i < 163 := by omega
      have a4 : 4 + 4 * i < 163 := by omega
      have a5 : 5 + 4 * i < 163 := by omega
      have a6 : 6 + 4 * i < 163 := by omega
      simp only [nm, k3, k4, k5, k6, nI_1, c40 a0, g40 a0, c163 a3, c163 a4, c163 a5, c163 a6, g163 a3, g163 a4, g163 a5, g163 a6]
      obtain ⟨xk', h1, h2, h3⟩ := ih (i + 1) (upd (upd (upd (upd xk (3 + 4 * i) (kd i)) (4 + 4 * i) (fg i)) (5 + 4 * i) (lo i)) (6 + 4 * i) (hi i)) (by omega) (by omega)
      refine ⟨xk', h1, fun j hj => ?_, fun j hj1 hj2 => ?_⟩
      · rw [h2 j (by omega), pk_un (by omega), pk_un (by omega), pk_un (by omega), pk_un (by omega)]
      · by_cases e : j = i
        · subst e
          refine ⟨?_, ?_, ?_, ?_⟩
          · rw [h2 _ (by omega), pk_un (by omega), pk_un (by omega), pk_un (by omega), pk_us]
          · rw [h2 _ (by omega), pk_un (by omega), pk_un (by omega), pk_us]
          · rw [h2 _ (by omega), pk_un (by omega), pk_us]
          · rw [h2 _ (by omega), pk_us]
        · exact h3 j (by omega) hj2
/-- become: all that the model keeps, and its links -/
theorem q_become {kd fg lo hi jn nr kk kf kl kh : Nat → Int32} {la : Nat → Int64} (pc lc td age kp kt : Int32) {L : Nat} (hL : L ≤ 40) (he : ends12 kl kh L) : ∃ jn' nr' la', f_X1_become kd fg lo hi jn nr la pc lc td age kk kf kl kh kp (nI L) kt = some (va_cpy kk kd 0 0 40, va_cpy kf fg 0 0 40, va_cpy kl lo 0 0 40, va_cpy kh hi 0 0 40, jn', nr', la', kp, nI L, kt, age + 1) ∧ linked (va_cpy kl lo 0 0 40) (va_cpy kh hi 0 0 40) jn' nr' la' L := by
  have he2 : ends12 (va_cpy kl lo 0 0 40) (va_cpy kh hi 0 0 40) L := by
    intro i hi'
    obtain ⟨a, b, h1, h2, h3, h4, h5⟩ := he i hi'
    exact ⟨a, b, h1, h2, h3, (cpy40 (by omega)).trans h4, (cpy40 (by omega)).trans h5⟩
  obtain ⟨jn', nr', la', h1, h2⟩ := q_link (jn := jn) (nr := nr) (la := la) hL he2 age
  refine ⟨jn', nr', la', ?_, h2⟩
  unfold f_X1_become
  have gd40 : ¬ (0 : Int32) < 0 ∧ ¬ (0 : Int32) < 0 ∧ ¬ (40 : Int32) < 0 ∧ (0 : Int32).toNatClampNeg + (40 : Int32).toNatClampNeg ≤ 40 ∧ (0 : Int32).toNatClampNeg + (40 : Int32).toNatClampNeg ≤ 40 := by decide
  simp only [if_pos gd40, nm]
  show bn4 (f_X1_link (va_cpy kl lo 0 0 40) (va_cpy kh hi 0 0 40) jn nr la (nI L) age) _ = _
  rw [h1]
  rfl
theorem uniq_congr {lo hi lo' hi' : Nat → Int32} {n : Nat} (e : ∀ i, i < n → lo i = lo' i ∧ hi i = hi' i) (h : uniq lo hi n) : uniq lo' hi' n := by
  intro a b i j h1 h2 m1 m2
  unfold mt at m1 m2
  rw [← (e i h1).1, ← (e i h1).2] at m1
  rw [← (e j h2).1, ← (e j h2).2] at m2
  exact h a b i j h1 h2 m1 m2
theorem nm_eq {α β : Type} (e : α) (f : α → β) : nm e f = f e := rfl
theorem gl0 {α : Type} {x : Option α} : (if (0 : Int32) < 0 ∨ 163 ≤ (0 : Int32).toNatClampNeg then none else x) = x := gN (n := 0) (by decide) (by decide)
theorem gl1 {α : Type} {x : Option α} : (if (1 : Int32) < 0 ∨ 163 ≤ (1 : Int32).toNatClampNeg then none else x) = x := gN (n := 1) (by decide) (by decide)
theorem gl2 {α : Type} {x : Option α} : (if (2 : Int32) < 0 ∨ 163 ≤ (2 : Int32).toNatClampNeg then none else x) = x := gN (n := 2) (by decide) (by decide)
theorem cl0 : (0 : Int32).toNatClampNeg = 0 := nI_clamp (n := 0) (by decide)
theorem cl1 : (1 : Int32).toNatClampNeg = 1 := nI_clamp (n := 1) (by decide)
theorem cl2 : (2 : Int32).toNatClampNeg = 2 := nI_clamp (n := 2) (by decide)
theorem q_image9 (P L T : Int32) (kd fg lo hi : Nat → Int32) (k : Int32) (xk : Nat → Int32) : f_X9_image P L T kd fg lo hi k xk = f_X9_image_b37 P L T kd fg lo hi 70 1 (upd (upd (upd xk 0 P) 1 T) 2 L) 0 := by
  unfold f_X9_image
  rw [gl0, nm_eq, gl1, nm_eq, gl2, nm_eq, cl0, cl1, cl2]
theorem s_image9 (P L T : Int32) (kd fg lo hi : Nat → Int32) (k : Int32) (xk : Nat → Int32) : ∃ xk', f_X9_image P L T kd fg lo hi k xk = some (L, 1, xk') ∧ xk' 0 = P ∧ xk' 1 = T ∧ xk' 2 = L ∧ ∀ i, i < 40 → xk' (3 + 4 * i) = kd i ∧ xk' (4 + 4 * i) = fg i ∧ xk' (5 + 4 * i) = lo i ∧ xk' (6 + 4 * i) = hi i := by
  obtain ⟨xk', e1, e2, e3⟩ := image_loop P L T kd fg lo hi 1 70 0 (upd (upd (upd xk 0 P) 1 T) 2 L) (by omega) (by omega)
  rw [nI_0] at e1
  refine ⟨xk', (q_image9 P L T kd fg lo hi k xk).trans e1, ?_, ?_, ?_, fun i hi' => e3 i (by omega) hi'⟩
  · rw [e2 0 (by omega), pk_un (by omega), pk_un (by omega), pk_us]
  · rw [e2 1 (by omega), pk_un (by omega), pk_us]
  · rw [e2 2 (by omega), pk_us]
theorem s_image {kd fg lo hi jn nr kk kf kl kh kj kr : Nat → Int32} {la ka : Nat → Int64} {P L T : Nat} (h : NetI kd fg lo hi jn nr la P L T) (isK xisK kp kn kt kage : Int32) (xk : Nat → Int32) :
    ∃ (r : Int32) (kk' kf' kl' kh' kj' kr' : Nat → Int32) (ka' : Nat → Int64) (xk' : Nat → Int32), f_X8_image isK kd fg lo hi (nI P) (nI L) (nI T) kk kf kl kh kj kr ka kp kn kt kage = some (r, 1, kk', kf', kl', kh', kj', kr', ka', nI P, nI L, nI T, kage + 1) ∧ f_X9_image (nI P) (nI L) (nI T) kd fg lo hi xisK xk = some (r, 1, xk') ∧ KeptI 1 kk' kf' kl' kh' (nI P) (nI L) (nI T) xk' := by
  obtain ⟨jn', nr', la', h1, h2⟩ := q_become (kd := kk) (fg := kf) (lo := kl) (hi := kh) (jn := kj) (nr := kr) (la := ka) (kk := kd) (kf := fg) (kl := lo) (kh := hi) kp kn kt kage (nI P) (nI T) h.2.1 h.e12
  obtain ⟨xk', e1, z0, z1, z2, e3⟩ := s_image9 (nI P) (nI L) (nI T) kd fg lo hi xisK xk
  have e8 : f_X8_image isK kd fg lo hi (nI P) (nI L) (nI T) kk kf kl kh kj kr ka kp kn kt kage = some (nI L, 1, va_cpy kd kk 0 0 40, va_cpy fg kf 0 0 40, va_cpy lo kl 0 0 40, va_cpy hi kh 0 0 40, jn', nr', la', nI P, nI L, nI T, kage + 1) := by
    unfold f_X8_image
    rw [h1]
    rfl
  have hL := h.2.1
  refine ⟨nI L, _, _, _, _, _, _, _, xk', e8, e1, Or.inr ⟨rfl, P, L, T, rfl, rfl, rfl, h.1, h.2.1, h.2.2.1, fun i hi' => ?_, fun i hi' => ?_, fun i hi' => ?_, ?_, z0, z1, z2, fun i hi' => ?_⟩⟩
  · rw [cpy40 hi']
    exact h.2.2.2.1 i hi'
  · rw [cpy40 hi']
    exact h.2.2.2.2.1 i hi'
  · rw [cpy40 (by omega), cpy40 (by omega)]
    exact h.2.2.2.2.2.1 i hi'
  · exact uniq_congr (fun i hi' => ⟨(cpy40 (by omega)).symm, (cpy40 (by omega)).symm⟩) h.2.2.2.2.2.2.1
  · rw [cpy40 hi', cpy40 hi', cpy40 hi', cpy40 hi']
    exact e3 i hi'
/-- what back makes of a row -/
def bk (xk : Nat → Int32) (c : Nat) (f : Nat → Int32) (i : Nat) : Nat → Int32 := fun j => if i ≤ j ∧ j < 40 then xk (c + 4 * j) else f j
theorem bk_step {xk : Nat → Int32} {c : Nat} {f : Nat → Int32} {i : Nat} (h : i < 40) : bk xk c (upd f i (xk (c + 4 * i))) (i + 1) = bk xk c f i := by
  funext j
  unfold bk
  by_cases h1 : j = i
  · subst h1
    rw [if_neg (by omega), if_pos (by omega), pk_us]
  · by_cases h2 : i + 1 ≤ j ∧ j < 40
    · rw [if_pos h2, if_pos (by omega)]
    · rw [if_neg h2, if_neg (by omega), pk_un h1]
theorem bk_end {xk : Nat → Int32} {c : Nat} {f : Nat → Int32} : bk xk c f 40 = f := by
  funext j
  unfold bk
  rw [if_neg (by omega)]
theorem back_loop (isK : Int32) (xk : Nat → Int32) (P L T : Int32) : ∀ (m i : Nat) (kd fg lo hi : Nat → Int32), i ≤ 40 → 40 - i < m → f_X9_back_b42 isK xk m P L T kd fg lo hi (nI i) = some (L, P, L, T, bk xk 3 kd i, bk xk 4 fg i, bk xk 5 lo i, bk xk 6 hi i) := by
  intro m
  induction m with
  | zero =>
    intro i kd fg lo hi _ h
    omega
  | succ m ih =>
    intro i kd fg lo hi hi' hm
    show f_X9_back_s42 isK xk (f_X9_back_b42 isK xk m) P L T kd fg lo hi (nI i) = _
    unfold f_X9_back_s42
    by_cases h : 40 ≤ i
    · have e : i = 40 := by omega
      subst e
      rw [if_pos (show (40 : Int32) ≤ nI 40 by decide), bk_end, bk_end, bk_end, bk_end]
    · rw [if_neg (show ¬ (40 : Int32) ≤ nI i from nI_ge (a := i) (b := 40) (by omega) (by decide))]
      have a0 : i < 40 := by omega
      have a3 : 3 + 4 * i < 163 := by omega
      have a4 : 4 + 4 * i < 163 := by omega
      have a5 : 5 + 4 * i < 163 := by omega
      have a6 : 6 + 4 * i < 163 := by omega
      simp only [nm, k3, k4, k5, k6, nI_1, c40 a0, g40 a0, c163 a3, c163 a4, c163 a5, c163 a6, g163 a3, g163 a4, g163 a5, g163 a6]
      rw [ih (i + 1) _ _ _ _ (by omega) (by omega), bk_step a0, bk_step a0, bk_step a0, bk_step a0]
theorem q_back9 (P L T : Int32) (kd fg lo hi : Nat → Int32) (xk : Nat → Int32) : f_X9_back P L T kd fg lo hi 1 xk = f_X9_back_b42 1 xk 70 (xk 0) (xk 2) (xk 1) kd fg lo hi 0 := by
  unfold f_X9_back
  rw [if_neg (by decide), gl0, nm_eq, gl1, nm_eq, gl2, nm_eq, cl0, cl1, cl2]
theorem s_back {kd fg lo hi jn nr kk kf kl kh : Nat → Int32} {la : Nat → Int64} {P L T : Nat} (h : NetI kd fg lo hi jn nr la P L T) {isK kp kn kt : Int32} {xk : Nat → Int32} (hk : KeptI isK kk kf kl kh kp kn kt xk) (age : Int32) :
    ∃ (r : Int32) (kd' fg' lo' hi' jn' nr' : Nat → Int32) (la' : Nat → Int64) (P' L' T' : Nat) (ag' : Int32), f_X8_back isK kd fg lo hi jn nr la (nI P) (nI L) (nI T) age kk kf kl kh kp kn kt = some (r, kd', fg', lo', hi', jn', nr', la', nI P', nI L', nI T', ag') ∧ f_X9_back (nI P) (nI L) (nI T) kd fg lo hi isK xk = some (r, nI P', nI L', nI T', kd', fg', lo', hi') ∧ NetI kd' fg' lo' hi' jn' nr' la' P' L' T' ∧ ((ag' = age ∧ kd' = kd ∧ fg' = fg ∧ lo' = lo ∧ hi' = hi ∧ jn' = jn ∧ nr' = nr ∧ la' = la ∧ P' = P ∧ L' = L ∧ T' = T) ∨ ag' = age + 1) := by
  rcases hk with rfl | ⟨rfl, P', L', T', rfl, rfl, rfl, hP, hL, hT, hkd, hfg, hen, hun, x0, x1, x2, hx⟩
  · refine ⟨-3, kd, fg, lo, hi, jn, nr, la, P, L, T, age, ?_, ?_, h, Or.inl ⟨rfl, rfl, rfl, rfl, rfl, rfl, rfl, rfl, rfl, rfl, rfl⟩⟩
    · unfold f_X8_back
      exact if_pos rfl
    · unfold f_X9_back
      exact if_pos rfl
  · obtain ⟨jn', nr', la', h1, h2⟩ := q_become (kd := kd) (fg := fg) (lo := lo) (hi := hi) (jn := jn) (nr := nr) (la := la) (kk := kk) (kf := kf) (kl := kl) (kh := kh) (nI P) (nI L) (nI T) age (nI P') (nI T') hL (fun i hi' => by
      obtain ⟨a, b, z1, z2, z3, z4⟩ := hen i hi'
      exact ⟨a, b, by omega, by omega, by omega, z3, z4⟩)
    have e8 : f_X8_back 1 kd fg lo hi jn nr la (nI P) (nI L) (nI T) age kk kf kl kh (nI P') (nI L') (nI T') = some (nI L', va_cpy kk kd 0 0 40, va_cpy kf fg 0 0 40, va_cpy kl lo 0 0 40, va_cpy kh hi 0 0 40, jn', nr', la', nI P', nI L', nI T', age + 1) := by
      unfold f_X8_back
      rw [if_neg (by decide), h1]
      rfl
    have e9 := back_loop 1 xk (xk 0) (xk 2) (xk 1) 70 0 kd fg lo hi (by omega) (by omega)
    rw [nI_0] at e9
    have ee : ∀ (f g : Nat → Int32) (c : Nat), (∀ i, i < 40 → xk (c + 4 * i) = f i) → bk xk c g 0 = va_cpy f g 0 0 40 := by
      intro f g c hc
      funext j
      unfold bk
      by_cases z : j < 40
      · rw [if_pos (by omega), hc j z, cpy40 z]
      · rw [if_neg (by omega), pk_cpy_out (by omega)]
    rw [ee kk kd 3 (fun i hi' => (hx i hi').1), ee kf fg 4 (fun i hi' => (hx i hi').2.1), ee kl lo 5 (fun i hi' => (hx i hi').2.2.1), ee kh hi 6 (fun i hi' => (hx i hi').2.2.2), x0, x1, x2] at e9
    have e10 := (q_back9 (nI P) (nI L) (nI T) kd fg lo hi xk)
    rw [x0, x1, x2] at e10
    refine ⟨nI L', _, _, _, _, _, _, _, P', L', T', _, e8, e10.trans e9, ⟨hP, hL, hT, fun i hi' => ?_, fun i hi' => ?_, fun i hi' => ?_, ?_, h2⟩, Or.inr rfl⟩
    · rw [cpy40 hi']
      exact hkd i hi'
    · rw [cpy40 hi']
      exact hfg i hi'
    · rw [cpy40 (by omega), cpy40 (by omega)]
      exact hen i hi'
    · exact uniq_congr (fun i hi' => ⟨(cpy40 (by omega)).symm, (cpy40 (by omega)).symm⟩) hun
