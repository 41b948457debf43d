/-! ===== canonical: the class ===== -/
theorem t_ar_12' : t_ar 12 = some (0, 7) := rfl
theorem ob11 : t_ob 11 = some 4 := by decide
theorem t_L_r (h : tH) (k i : Nat) : t_L h k i (h.2.1 k i) = h := by
  obtain ⟨a, b, c, d⟩ := h
  refine Prod.ext rfl (Prod.ext ?_ rfl)
  funext x y
  show (if x = k ∧ y = i then b k i else b x y) = b x y
  by_cases e : x = k ∧ y = i
  · rw [if_pos e, e.1, e.2]
  · rw [if_neg e]
/-- the bit of three names -/
def BB (χ : tC) (f : Int32) (p : Nat → Nat) (i j k : Nat) : Bool := decide (χ (p i) (p j) (p k) * f = 1)
/-- what the search reads -/
def NC (h : tH) (sN n : Nat) (χ : tC) (f : Int32) : Prop := h.2.2.1 = some sN ∧ tn h sN n ∧ tX h sN = χ ∧ h.1 11 2 = f ∧ sN ≠ 12 ∧ sN + 10 ≠ 12
/-- what the search changes -/
def fn (k : Nat) (h h' : tH) : Prop := (∀ a b, ¬ (a = 12 ∧ k ≤ b) → h'.1 a b = h.1 a b) ∧ h'.2.2 = h.2.2 ∧ (∀ a b, ¬ (a = 11 ∧ b = 3) → h'.2.1 a b = h.2.1 a b)
theorem fn_r (k : Nat) (h : tH) : fn k h h := ⟨fun _ _ _ => rfl, rfl, fun _ _ _ => rfl⟩
theorem fn_t {k k' : Nat} {a b c : tH} (hk : k ≤ k') (x : fn k a b) (y : fn k' b c) : fn k a c :=
  ⟨fun i j e => (y.1 i j (by omega)).trans (x.1 i j e), y.2.1.trans x.2.1, fun i j e => (y.2.2 i j e).trans (x.2.2 i j e)⟩
theorem fn_t' {k k' : Nat} {a b c : tH} (hk : k ≤ k') (x : fn k' a b) (y : fn k b c) : fn k a c :=
  ⟨fun i j e => (y.1 i j e).trans (x.1 i j (by omega)), y.2.1.trans x.2.1, fun i j e => (y.2.2 i j e).trans (x.2.2 i j e)⟩
theorem NC_f {h h' : tH} {sN n k : Nat} {χ : tC} {f : Int32} (c : NC h sN n χ f) (x : fn k h h') : NC h' sN n χ f := by
  obtain ⟨c1, c2, c3, c4, c5, c6⟩ := c
  exact ⟨by rw [x.2.1, c1], ⟨c2.1, by rw [x.1 _ _ (by omega)]; exact c2.2.1, c2.2.2⟩, by rw [← c3]; exact tX_o fun c _ => x.1 _ _ (by omega), by rw [x.1 _ _ (by omega), c4], c5, c6⟩
theorem m_16 {h : tH} {sN n i j k : Nat} {χ : tC} {f : Int32} {p : Nat → Nat} (c : NC h sN n χ f) (hi : i < 7) (hj : j < 7) (hk : k < 7) (ri : h.1 12 i = nI (p i)) (rj : h.1 12 j = nI (p j)) (rk : h.1 12 k = nI (p k)) (pi : p i < 7) (pj : p j < 7) (pk : p k < 7) (Q : tO → tH → Prop) :
    AM 16 [.ref 11, .int (nI i), .int (nI j), .int (nI k)] h Q = Q (RI (zb (BB χ f p i j k))) h := by
  obtain ⟨c1, c2, c3, c4, -, -⟩ := c
  rw [am_16, s_16_0 (hN := c1)]
  simp only [t_ob_11, m_get t_ar_12', zg_n hi (show 7 < 5000 by decide), zg_n hj (show 7 < 5000 by decide), zg_n hk (show 7 < 5000 by decide), ri, rj, rk, t_ki, c2.1, m_of c2.1 pi pj pk, c3, c4, true_and]
  unfold BB zb
  by_cases e : χ (p i) (p j) (p k) * f = 1
  · rw [if_neg (fun z => z e), if_pos (by simpa using e)]
  · rw [if_pos e, if_neg (by simpa using e)]
theorem m_17 {h : tH} {sN n : Nat} {χ : tC} {f : Int32} (c : NC h sN n χ f) (Q : tO → tH → Prop) : AM 17 [.ref 11] h Q = Q (RI (nI n)) h := by
  obtain ⟨c1, c2, -⟩ := c
  rw [am_17, s_17_0 (hN := c1), s_17_18, c2.2.1]
  simp only [t_ob_11, c2.1, true_and]
theorem m_18 {h : tH} {v L t : Nat} (hl : h.2.1 11 3 = jN L) (hL : L < 2 ^ 63) (hv : v < 2 ^ 63) (ht : t < 64) (Q : tO → tH → Prop) : AM 18 [.ref 11, .long (jN v), .int (nI t)] h Q = Q (RI (if v ≤ L / 2 ^ t then 0 else 1)) h := by
  have hd : L / 2 ^ t < 2 ^ 63 := Nat.lt_of_le_of_lt (Nat.div_le_self _ _) hL
  rw [am_18, s_18_0, hl, l_shr hL ht]
  simp only [t_ob_11, true_and]
  by_cases e : v ≤ L / 2 ^ t
  · rw [if_pos (by rw [lg_le hv hd]; exact e), if_pos e]
    simp
  · rw [if_neg (by rw [lg_le hv hd]; exact e), if_neg e]
    simp
theorem C3_20 : ∀ n, n < 8 → 3 ≤ n → (((nI n * (nI n - 1)) * (nI n - 2)) / 6) - (nI n - 2) = nI (C3 n - (n - 2)) := by decide +kernel
theorem C3_19 : ∀ n, n < 8 → ∀ k, k < n → (((nI n * (nI n - 1)) * (nI n - 2)) / 6) - (if 0 < nI k - 1 then nI k - 1 else 0) = nI (C3 n - (k + 1 - 2)) := by decide +kernel
theorem nI_mo (t : Nat) : nI (t + 1) + Int32.ofInt (-1) = nI t := by
  rw [← nI_1, Int32.add_assoc, show (1 : Int32) + Int32.ofInt (-1) = 0 by decide, Int32.add_zero]
theorem bl1_len (f : Nat → Nat → Nat → Bool) {n : Nat} (n3 : 3 ≤ n) (h7 : n ≤ 7) : (bl1 true f n 0 n).length = C3 n - (n - 2) := by
  have l := bl1_all f (show 2 ≤ n by omega)
  have := congrArg List.length l
  rw [bl1_len' f n (by omega), List.length_append, bl3_len] at this
  unfold C3
  omega
theorem m_20 {h : tH} {sN n L : Nat} {χ : tC} {f : Int32} {p : Nat → Nat} (c : NC h sN n χ f) (n3 : 3 ≤ n) (hr : ∀ i, i < n → h.1 12 i = nI (p i) ∧ p i < 7) (hl : h.2.1 11 3 = jN L) (hL : L < 2 ^ 63) (Q : tO → tH → Prop) {v0 : Nat} (hv0 : v0 ≤ L / 2 ^ (C3 n - (n - 2))) (b0 : v0 < 2 ^ (n - 2)) :
    AM 20 [.ref 11, .long (jN v0)] h Q = Q (.inl none) (t_L h 11 3 (jN (if nb v0 (bl1 true (BB χ f p) n 0 n) ≤ L then nb v0 (bl1 true (BB χ f p) n 0 n) else L))) := by
  have h7 : n ≤ 7 := c.2.1.2.2
  obtain ⟨G, hG⟩ : ∃ G : Nat → List Bool → Prop, G = fun v l => Q (.inl none) (t_L h 11 3 (jN (if nb v l ≤ L then nb v l else L))) := ⟨_, rfl⟩
  have Gx : ∀ v l, L < nb v l → G v l = Q (.inl none) h := fun v l e => by
    rw [hG]
    show Q (.inl none) (t_L h 11 3 (jN (if nb v l ≤ L then nb v l else L))) = _
    rw [if_neg (by omega), ← hl, t_L_r]
  have l3 : ∀ i j, i < j → j < n → ∀ tail : List Bool, tail.length < 60 → (∀ v w9, v ≤ L / 2 ^ tail.length → v < 2 ^ (60 - tail.length) → AX 3 20 50 [.ref 11, .long (jN v0), .float 0, .int (nI n), .int (nI tail.length), .long (jN v), .float 0, .int (nI i), .int (nI (j + 1)), w9] [] h Q = G v tail) → ∀ m k, k + m = n → j < k → ∀ v, m + tail.length ≤ 60 → v ≤ L / 2 ^ (m + tail.length) → v < 2 ^ (60 - (m + tail.length)) → AX 3 20 62 [.ref 11, .long (jN v0), .float 0, .int (nI n), .int (nI (m + tail.length)), .long (jN v), .float 0, .int (nI i), .int (nI j), .int (nI k)] [] h Q = G v (bl3 (BB χ f p i j) k m ++ tail) := by
    intro i j hij hj tail ht F m
    induction m with
    | zero =>
      intro k hk hjk v _ hv hb
      have : k = n := by omega
      subst this
      rw [s_20_62, if_pos (Int32.le_refl _), nI_1, Nat.zero_add]
      rw [Nat.zero_add] at hv hb
      exact F v _ hv hb
    | succ m ih =>
      intro k hk hjk v h60 hv hb
      have pw : (2 : Nat) ^ (60 - (m + tail.length)) ≤ 2 ^ 60 := Nat.pow_le_pow_right (by decide) (by omega)
      have pw2 : 2 ^ (60 - (m + tail.length)) = 2 * 2 ^ (60 - (m + 1 + tail.length)) := by
        rw [show 60 - (m + tail.length) = (60 - (m + 1 + tail.length)) + 1 by omega, Nat.pow_succ, Nat.mul_comm]
      have hbb := bn_le (BB χ f p i j k)
      have hb' : 2 * v + bn (BB χ f p i j k) < 2 ^ (60 - (m + tail.length)) := by omega
      rw [s_20_62, if_neg (by rw [nI_le' (by omega) (by omega)]; omega), m_16 c (by omega) (by omega) (by omega) (hr i (by omega)).1 (hr j (by omega)).1 (hr k (by omega)).1 (hr i (by omega)).2 (hr j (by omega)).2 (hr k (by omega)).2]
      simp only [t_ob_11, true_and, t_ki]
      rw [l_app, show m + 1 + tail.length = m + tail.length + 1 by omega, nI_mo, m_18 hl hL (by omega) (by omega)]
      simp only [t_ki]
      show _ = G v (BB χ f p i j k :: (bl3 (BB χ f p i j) (k + 1) m ++ tail))
      by_cases e : 2 * v + bn (BB χ f p i j k) ≤ L / 2 ^ (m + tail.length)
      · rw [if_pos e, if_pos rfl, nI_1, ih (k + 1) (by omega) (by omega) _ (by omega) e hb', hG]
        rfl
      · rw [if_neg e, if_neg (by decide), Gx]
        refine nb_gt (v := 2 * v + bn (BB χ f p i j k)) ?_
        rw [List.length_append, bl3_len]
        exact e
  have l2 : ∀ i, i < n → ∀ tail : List Bool, tail.length < 40 → (∀ v w8 w9, v ≤ L / 2 ^ tail.length → v < 2 ^ (60 - tail.length) → AX 3 20 29 [.ref 11, .long (jN v0), .float 0, .int (nI n), .int (nI tail.length), .long (jN v), .float 0, .int (nI (i + 1)), w8, w9] [] h Q = G v tail) → ∀ m j, j + m = n → i < j → ∀ v w9, (bl2 (BB χ f p i) n j m ++ tail).length < 60 → v ≤ L / 2 ^ (bl2 (BB χ f p i) n j m ++ tail).length → v < 2 ^ (60 - (bl2 (BB χ f p i) n j m ++ tail).length) → AX 3 20 50 [.ref 11, .long (jN v0), .float 0, .int (nI n), .int (nI (bl2 (BB χ f p i) n j m ++ tail).length), .long (jN v), .float 0, .int (nI i), .int (nI j), w9] [] h Q = G v (bl2 (BB χ f p i) n j m ++ tail) := by
    intro i hi tail ht F m
    induction m with
    | zero =>
      intro j hj hij v w9 _ hv hb
      have : j = n := by omega
      subst this
      rw [s_20_50, if_pos (Int32.le_refl _), nI_1]
      exact F v _ _ hv hb
    | succ m ih =>
      intro j hj hij v w9 h60 hv hb
      have e : bl2 (BB χ f p i) n j (m + 1) ++ tail = bl3 (BB χ f p i j) (j + 1) (n - (j + 1)) ++ (bl2 (BB χ f p i) n (j + 1) m ++ tail) := by
        rw [← List.append_assoc]; rfl
      rw [e] at h60 hv hb ⊢
      rw [List.length_append, bl3_len] at h60 hv hb ⊢
      rw [s_20_50, if_neg (by rw [nI_le' (by omega) (by omega)]; omega), nI_1]
      exact l3 i j hij (by omega) _ (by omega) (fun v w9 hv hb => ih (j + 1) (by omega) (by omega) v w9 (by omega) hv hb) (n - (j + 1)) (j + 1) (by omega) (by omega) v (by omega) hv hb
  have l1 : ∀ m i, i + m = n → ∀ v w8 w9, (bl1 true (BB χ f p) n i m).length < 40 → v ≤ L / 2 ^ (bl1 true (BB χ f p) n i m).length → v < 2 ^ (60 - (bl1 true (BB χ f p) n i m).length) → AX 3 20 29 [.ref 11, .long (jN v0), .float 0, .int (nI n), .int (nI (bl1 true (BB χ f p) n i m).length), .long (jN v), .float 0, .int (nI i), w8, w9] [] h Q = G v (bl1 true (BB χ f p) n i m) := by
    intro m
    induction m with
    | zero =>
      intro i hi v w8 w9 _ hv _
      have : i = n := by omega
      subst this
      rw [s_20_29, if_pos (Int32.le_refl _), hG]
      simp only [t_ob_11, true_and]
      show _ = Q (.inl none) (t_L h 11 3 (jN (if v ≤ L then v else L)))
      have hv : v ≤ L / 2 ^ 0 := hv
      rw [Nat.pow_zero, Nat.div_one] at hv
      rw [if_pos hv]
    | succ m ih =>
      intro i hi v w8 w9 h40 hv hb
      have z0 : (if ¬ nI i = (0 : Int32) then nI i + 1 else 2) = nI (if true = true ∧ i = 0 then 2 else i + 1) := by
        rw [show (0 : Int32) = nI 0 from rfl]
        by_cases q : i = 0
        · rw [if_neg (by rw [nI_eq' (by omega) (by omega)]; omega), if_pos ⟨rfl, q⟩]; rfl
        · rw [if_pos (by rw [nI_eq' (by omega) (by omega)]; omega), if_neg (fun z => q z.2), nI_1]
      obtain ⟨j0, hj0⟩ : ∃ j0, j0 = if true = true ∧ i = 0 then 2 else i + 1 := ⟨_, rfl⟩
      have j0b : i < j0 ∧ j0 ≤ n := by
        rw [hj0]
        by_cases q : i = 0
        · rw [if_pos ⟨rfl, q⟩]; omega
        · rw [if_neg (fun z => q z.2)]; omega
      have e : bl1 true (BB χ f p) n i (m + 1) = bl2 (BB χ f p i) n j0 (n - j0) ++ bl1 true (BB χ f p) n (i + 1) m := by rw [hj0]; rfl
      rw [e] at h40 hv hb ⊢
      rw [s_20_29, if_neg (by rw [nI_le' (by omega) (by omega)]; omega), z0, ← hj0]
      have l40 := h40
      rw [List.length_append] at l40
      exact l2 i (by omega) _ (by omega) (fun v w8 w9 hv hb => ih (i + 1) (by omega) v w8 w9 (by omega) hv hb) (n - j0) j0 (by omega) j0b.1 v w9 (by omega) hv hb
  have len := bl1_len (BB χ f p) n3 h7
  have c35 := C3_le h7
  have q := l1 n 0 (by omega) v0 (.float 0) (.float 0) (by omega) (by rw [len]; exact hv0) (by
    rw [len]
    exact Nat.lt_of_lt_of_le b0 (Nat.pow_le_pow_right (by decide) (by omega)))
  rw [len] at q
  rw [am_20, s_20_0, m_17 c]
  simp only [t_ob_11, true_and, t_ki]
  rw [C3_20 n (by omega) n3]
  rw [hG] at q
  exact q
