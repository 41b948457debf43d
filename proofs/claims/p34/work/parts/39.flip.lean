/-! ===== a flip: what changed is enough to look at ===== -/
theorem setC_at {χ : tC} {i j k : Nat} {x : Int32} {a b c : Nat} : setC χ i j k x a b c = if a = j ∧ b = i ∧ c = k then -x else if a = k ∧ b = j ∧ c = i then -x else if a = i ∧ b = k ∧ c = j then -x else if a = k ∧ b = i ∧ c = j then x else if a = j ∧ b = k ∧ c = i then x else if a = i ∧ b = j ∧ c = k then x else χ a b c := rfl
theorem setC_o {χ : tC} {i j k : Nat} {x : Int32} {a b c : Nat} (h : ¬ ((i = a ∨ i = b ∨ i = c) ∧ (j = a ∨ j = b ∨ j = c) ∧ (k = a ∨ k = b ∨ k = c))) : setC χ i j k x a b c = χ a b c := by
  rw [setC_at, if_neg (by omega), if_neg (by omega), if_neg (by omega), if_neg (by omega), if_neg (by omega), if_neg (by omega)]
theorem WS_set {χ : tC} {n i j k : Nat} {x : Int32} (w : WS χ n) (h7 : n ≤ 7) (hi : i < n) (hj : j < n) (hk : k < n) (ij : i ≠ j) (jk : j ≠ k) (ik : i ≠ k) (hx : x = 1 ∨ x = -1) : WS (setC χ i j k x) n := by
  have hx' : -x = 1 ∨ -x = -1 := by rcases hx with h | h <;> simp [h]
  have hx2 : -x = 1 ∨ x = 1 := by rcases hx with h | h <;> simp [h]
  intro a b c ha hb hc
  obtain ⟨w1, w2, w3⟩ := w a b c ha hb hc
  by_cases h : (i = a ∨ i = b ∨ i = c) ∧ (j = a ∨ j = b ∨ j = c) ∧ (k = a ∨ k = b ∨ k = c)
  · clear w1 w2 w3
    obtain ⟨m1, m2, m3⟩ := h
    rcases m1 with rfl | rfl | rfl <;> rcases m2 with rfl | rfl | rfl <;> first
      | exact absurd rfl ij
      | (rcases m3 with rfl | rfl | rfl <;> first
        | exact absurd rfl jk
        | exact absurd rfl ik
        | simp [setC_at, ij, jk, ik, ij.symm, jk.symm, ik.symm, hx, hx', hx2, hi, hj, hk])
  · rw [setC_o h, setC_o (a := b) (b := c) (c := a) (by omega), setC_o (a := b) (b := a) (c := c) (by omega)]
    exact ⟨w1, w2, w3⟩
theorem p4_q4 {χ : tC} {a b c d : Nat} (h : χ b c d ≠ 0) : p4 χ a b c d = q4 χ a b c d := by
  rw [q4_same]
  unfold p4
  have e1 : decide (χ b c d = 0) = false := decide_eq_false h
  rw [e1, Bool.false_or]
  rw [Bool.eq_iff_iff, Bool.not_eq_true', ← Bool.not_eq_true, same4_iff]
  simp only [Bool.or_eq_true, Bool.not_eq_true', decide_eq_false_iff_not]
  constructor
  · rintro ((h1 | h1) | h1) ⟨a1, a2, a3⟩
    · exact h1 a1.symm
    · exact h1 a2.symm
    · exact h1 a3.symm
  · intro h1
    by_cases b1 : χ a d c = χ b c d
    · by_cases b2 : χ a b d = χ b c d
      · exact Or.inr fun b3 => h1 ⟨b1.symm, b2.symm, b3.symm⟩
      · exact Or.inl (Or.inr b2)
    · exact Or.inl (Or.inl b1)
theorem p5_q5 {χ : tC} {a b c d e : Nat} (h : χ a b c * χ a d e ≠ 0) : p5 χ a b c d e = q5 χ a b c d e := by
  unfold p5 q5 psame
  have e1 : decide (χ a b c * χ a d e = 0) = false := decide_eq_false h
  rw [e1, Bool.false_or, Bool.eq_iff_iff, Bool.not_eq_true', ← Bool.not_eq_true]
  simp only [Bool.or_eq_true, Bool.and_eq_true, Bool.not_eq_true', decide_eq_false_iff_not, decide_eq_true_eq]
  constructor
  · rintro (h1 | h1) ⟨a1, a2⟩
    · exact h1 a1.symm
    · exact h1 (a1.trans a2).symm
  · intro h1
    by_cases b1 : χ a b d * χ a e c = χ a b c * χ a d e
    · exact Or.inr fun b3 => h1 ⟨b1.symm, b1.trans b3.symm⟩
    · exact Or.inl b1
theorem pm_mul {x y : Int32} (hx : x = 1 ∨ x = -1) (hy : y = 1 ∨ y = -1) : x * y ≠ 0 := by
  rcases hx with rfl | rfl <;> rcases hy with rfl | rfl <;> decide
theorem pm_0 {x : Int32} (hx : x = 1 ∨ x = -1) : x ≠ 0 := by
  rcases hx with rfl | rfl <;> decide
/-- what holds for four in one order holds in all -/
theorem perm4 {P : Nat → Nat → Nat → Nat → Prop} (s12 : ∀ a b c d, P a b c d → P b a c d) (s23 : ∀ a b c d, P a b c d → P a c b d) (s34 : ∀ a b c d, P a b c d → P a b d c) {a b c d i j k l : Nat}
    (h : P i j k l) (d1 : i ≠ j) (d2 : i ≠ k) (d3 : i ≠ l) (d4 : j ≠ k) (d5 : j ≠ l) (d6 : k ≠ l) (h1 : a < b) (h2 : b < c) (h3 : c < d) (m1 : i = a ∨ i = b ∨ i = c ∨ i = d) (m2 : j = a ∨ j = b ∨ j = c ∨ j = d) (m3 : k = a ∨ k = b ∨ k = c ∨ k = d) (m4 : l = a ∨ l = b ∨ l = c ∨ l = d) : P a b c d := by
  have := sort4 (P := fun x y z t => P x y z t → (x = a ∨ x = b ∨ x = c ∨ x = d) → (y = a ∨ y = b ∨ y = c ∨ y = d) → (z = a ∨ z = b ∨ z = c ∨ z = d) → (t = a ∨ t = b ∨ t = c ∨ t = d) → P a b c d) (n := d + 1)
    (fun x y z t k h a1 a2 a3 a4 => k (s12 _ _ _ _ h) a2 a1 a3 a4)
    (fun x y z t k h a1 a2 a3 a4 => k (s23 _ _ _ _ h) a1 a3 a2 a4)
    (fun x y z t k h a1 a2 a3 a4 => k (s34 _ _ _ _ h) a1 a2 a4 a3)
    (fun x y z t b1 b2 b3 _ h a1 a2 a3 a4 => by
      have e : x = a ∧ y = b ∧ z = c ∧ t = d := by omega
      obtain ⟨rfl, rfl, rfl, rfl⟩ := e
      exact h)
  exact this i j k l (by omega) (by omega) (by omega) (by omega) d1 d2 d3 d4 d5 d6 h m1 m2 m3 m4
theorem pfits_iff {χ : tC} {n i j k : Nat} : pfits χ n i j k = true ↔ ∀ x, x < n → x ≠ i → x ≠ j → x ≠ k → p4 χ i j k x = true ∧ ∀ y, x < y → y < n → y ≠ i → y ≠ j → y ≠ k → p5a χ i j k x y = true := by
  unfold pfits
  rw [aB_iff]
  constructor
  · intro h x hx n1 n2 n3
    have t := h x (by omega) (by omega)
    simp only [n1, n2, n3, decide_false, Bool.false_or, Bool.and_eq_true] at t
    refine ⟨t.1, fun y hy1 hy2 m1 m2 m3 => ?_⟩
    have t2 := (aB_iff _ _ _).mp t.2 y (by omega) (by omega)
    simpa [m1, m2, m3] using t2
  · intro h x _ hx
    by_cases n1 : x = i
    · simp [n1]
    by_cases n2 : x = j
    · simp [n2]
    by_cases n3 : x = k
    · simp [n3]
    obtain ⟨t1, t2⟩ := h x (by omega) n1 n2 n3
    rw [t1, (aB_iff _ _ _).mpr]
    · simp
    · intro y hy1 hy2
      by_cases m1 : y = i
      · simp [m1]
      by_cases m2 : y = j
      · simp [m2]
      by_cases m3 : y = k
      · simp [m3]
      rw [t2 y (by omega) (by omega) m1 m2 m3]
      simp
theorem flip_eq {χ : tC} {n i j k : Nat} {x : Int32} (w : WS χ n) (h7 : n ≤ 7) (hh : qhold χ n = true) (hi : i < n) (hj : j < n) (hk : k < n) (ij : i ≠ j) (jk : j ≠ k) (ik : i ≠ k) (hx : x = 1 ∨ x = -1) :
    qhold (setC χ i j k x) n = pfits (setC χ i j k x) n i j k := by
  obtain ⟨ψ, hψ⟩ : ∃ ψ, ψ = setC χ i j k x := ⟨_, rfl⟩
  have w' : WS ψ n := by rw [hψ]; exact WS_set w h7 hi hj hk ij jk ik hx
  have old : ∀ a b c, ¬ ((i = a ∨ i = b ∨ i = c) ∧ (j = a ∨ j = b ∨ j = c) ∧ (k = a ∨ k = b ∨ k = c)) → ψ a b c = χ a b c := fun a b c h => by rw [hψ]; exact setC_o h
  rw [← hψ, Bool.eq_iff_iff, pfits_iff]
  have nz : ∀ a b c, a < n → b < n → c < n → a ≠ b → b ≠ c → a ≠ c → ψ a b c = 1 ∨ ψ a b c = -1 := fun a b c h1 h2 h3 h4 h5 h6 => WS_at w' h7 h1 h2 h3 h4 h5 h6
  constructor
  · intro h x hx n1 n2 n3
    refine ⟨?_, fun y hy1 hy2 m1 m2 m3 => ?_⟩
    · rw [p4_q4 (pm_0 (nz j k x hj hk hx jk (by omega) (by omega)))]
      exact gp4 w' h7 h i j k x hi hj hk hx ij ik (by omega) jk (by omega) (by omega)
    · unfold p5a
      rw [p5_q5 (pm_mul (nz i j k hi hj hk ij jk ik) (nz i x y hi hx hy2 (by omega) (by omega) (by omega))), p5_q5 (pm_mul (nz j i k hj hi hk ij.symm ik jk) (nz j x y hj hx hy2 (by omega) (by omega) (by omega))), p5_q5 (pm_mul (nz k i j hk hi hj ik.symm ij jk.symm) (nz k x y hk hx hy2 (by omega) (by omega) (by omega)))]
      rw [gp5 w' h7 h hi j k x y hj hk hx hy2 jk (by omega) (by omega) (by omega) (by omega) (by omega) ij ik (by omega) (by omega), gp5 w' h7 h hj i k x y hi hk hx hy2 ik (by omega) (by omega) (by omega) (by omega) (by omega) ij.symm jk (by omega) (by omega), gp5 w' h7 h hk i j x y hi hj hx hy2 ij (by omega) (by omega) (by omega) (by omega) (by omega) ik.symm jk.symm (by omega) (by omega)]
      rfl
  · intro h
    have hold := qhold_iff.mp hh
    -- the four, whichever way
    have four : ∀ x, x < n → x ≠ i → x ≠ j → x ≠ k → q4 ψ i j k x = true := fun x hx n1 n2 n3 => by
      rw [← p4_q4 (pm_0 (nz j k x hj hk hx jk (by omega) (by omega)))]
      exact (h x hx n1 n2 n3).1
    have five0 : ∀ x y, x < y → y < n → x ≠ i → x ≠ j → x ≠ k → y ≠ i → y ≠ j → y ≠ k → q5 ψ i j k x y = true ∧ q5 ψ j i k x y = true ∧ q5 ψ k i j x y = true := fun x y hxy hy n1 n2 n3 m1 m2 m3 => by
      have t := (h x (by omega) n1 n2 n3).2 y hxy hy m1 m2 m3
      unfold p5a at t
      rw [p5_q5 (pm_mul (nz i j k hi hj hk ij jk ik) (nz i x y hi (by omega) hy (by omega) (by omega) (by omega))), p5_q5 (pm_mul (nz j i k hj hi hk ij.symm ik jk) (nz j x y hj (by omega) hy (by omega) (by omega) (by omega))), p5_q5 (pm_mul (nz k i j hk hi hj ik.symm ij jk.symm) (nz k x y hk (by omega) hy (by omega) (by omega) (by omega)))] at t
      simp only [Bool.and_eq_true] at t
      exact ⟨t.1.1, t.1.2, t.2⟩
    have perm5 : ∀ e u v a b c d, e < 7 → u < n → v < n → e ≠ u → e ≠ v → u ≠ v → (∀ x y, x < y → y < n → x ≠ e → x ≠ u → x ≠ v → y ≠ e → y ≠ u → y ≠ v → q5 ψ e u v x y = true) → a < b → b < c → c < d → d < n → e ≠ a → e ≠ b → e ≠ c → e ≠ d → (u = a ∨ u = b ∨ u = c ∨ u = d) → (v = a ∨ v = b ∨ v = c ∨ v = d) → q5 ψ e a b c d = true := by
      intro e u v a b c d he hu hv eu ev uv hq h1 h2 h3 h4 ea eb ec ed m1 m2
      -- the other two
      obtain ⟨x, y, hxy, hy, x1, x2, y1, y2, mx, my⟩ : ∃ x y, x < y ∧ y < n ∧ x ≠ u ∧ x ≠ v ∧ y ≠ u ∧ y ≠ v ∧ (x = a ∨ x = b ∨ x = c ∨ x = d) ∧ (y = a ∨ y = b ∨ y = c ∨ y = d) := by
        by_cases a1 : a = u ∨ a = v
        · by_cases b1 : b = u ∨ b = v
          · exact ⟨c, d, by omega, by omega, by omega, by omega, by omega, by omega, by omega, by omega⟩
          · by_cases c1 : c = u ∨ c = v
            · exact ⟨b, d, by omega, by omega, by omega, by omega, by omega, by omega, by omega, by omega⟩
            · exact ⟨b, c, by omega, by omega, by omega, by omega, by omega, by omega, by omega, by omega⟩
        · by_cases b1 : b = u ∨ b = v
          · by_cases c1 : c = u ∨ c = v
            · exact ⟨a, d, by omega, by omega, by omega, by omega, by omega, by omega, by omega, by omega⟩
            · exact ⟨a, c, by omega, by omega, by omega, by omega, by omega, by omega, by omega, by omega⟩
          · exact ⟨a, b, by omega, by omega, by omega, by omega, by omega, by omega, by omega, by omega⟩
      have hq' := hq x y hxy hy (by omega) x1 x2 (by omega) y1 y2
      exact (perm4 (P := fun a b c d => a < 7 ∧ b < 7 ∧ c < 7 ∧ d < 7 ∧ q5 ψ e a b c d = true)
        (fun a b c d ⟨l1, l2, l3, l4, k⟩ => ⟨l2, l1, l3, l4, by rw [q5_12 w' he l1 l2 l3 l4]; exact k⟩)
        (fun a b c d ⟨l1, l2, l3, l4, k⟩ => ⟨l1, l3, l2, l4, by rw [q5_23 w' he l1 l2 l3 l4]; exact k⟩)
        (fun a b c d ⟨l1, l2, l3, l4, k⟩ => ⟨l1, l2, l4, l3, by rw [q5_34 w' he l1 l2 l3 l4]; exact k⟩)
        (i := u) (j := v) (k := x) (l := y) ⟨by omega, by omega, by omega, by omega, hq'⟩ uv (by omega) (by omega) (by omega) (by omega) (by omega) h1 h2 h3 m1 m2 mx my).2.2.2.2
    refine qhold_iff.mpr fun a b c d h1 h2 h3 h4 => ⟨?_, fun e he ea eb ec ed => ?_⟩
    · by_cases m : (i = a ∨ i = b ∨ i = c ∨ i = d) ∧ (j = a ∨ j = b ∨ j = c ∨ j = d) ∧ (k = a ∨ k = b ∨ k = c ∨ k = d)
      · obtain ⟨m1, m2, m3⟩ := m
        obtain ⟨x, x1, x2, x3, mx⟩ : ∃ x, x ≠ i ∧ x ≠ j ∧ x ≠ k ∧ (x = a ∨ x = b ∨ x = c ∨ x = d) := by
          by_cases a1 : a = i ∨ a = j ∨ a = k
          · by_cases b1 : b = i ∨ b = j ∨ b = k
            · by_cases c1 : c = i ∨ c = j ∨ c = k
              · exact ⟨d, by omega, by omega, by omega, by omega⟩
              · exact ⟨c, by omega, by omega, by omega, by omega⟩
            · exact ⟨b, by omega, by omega, by omega, by omega⟩
          · exact ⟨a, by omega, by omega, by omega, by omega⟩
        exact (perm4 (P := fun a b c d => a < 7 ∧ b < 7 ∧ c < 7 ∧ d < 7 ∧ q4 ψ a b c d = true)
          (fun a b c d ⟨l1, l2, l3, l4, k⟩ => ⟨l2, l1, l3, l4, by rw [q4_12 w' l1 l2 l3 l4]; exact k⟩)
          (fun a b c d ⟨l1, l2, l3, l4, k⟩ => ⟨l1, l3, l2, l4, by rw [q4_23 w' l1 l2 l3 l4]; exact k⟩)
          (fun a b c d ⟨l1, l2, l3, l4, k⟩ => ⟨l1, l2, l4, l3, by rw [q4_34 w' l1 l2 l3 l4]; exact k⟩)
          (i := i) (j := j) (k := k) (l := x) ⟨by omega, by omega, by omega, by omega, four x (by omega) x1 x2 x3⟩ ij ik (by omega) jk (by omega) (by omega) h1 h2 h3 m1 m2 m3 mx).2.2.2.2
      · have e := (hold a b c d h1 h2 h3 h4).1
        unfold q4 at e ⊢
        rw [old b c d (by omega), old a d c (by omega), old a b d (by omega), old a c b (by omega)]
        exact e
    · by_cases c1 : e = i ∧ (j = a ∨ j = b ∨ j = c ∨ j = d) ∧ (k = a ∨ k = b ∨ k = c ∨ k = d)
      · obtain ⟨rfl, m2, m3⟩ := c1
        exact perm5 e j k a b c d (by omega) hj hk ij ik jk (fun x y a1 a2 n1 n2 n3 l1 l2 l3 => (five0 x y a1 a2 n1 n2 n3 l1 l2 l3).1) h1 h2 h3 h4 ea eb ec ed m2 m3
      · by_cases c2 : e = j ∧ (i = a ∨ i = b ∨ i = c ∨ i = d) ∧ (k = a ∨ k = b ∨ k = c ∨ k = d)
        · obtain ⟨rfl, m2, m3⟩ := c2
          exact perm5 e i k a b c d (by omega) hi hk ij.symm jk ik (fun x y a1 a2 n1 n2 n3 l1 l2 l3 => (five0 x y a1 a2 n2 n1 n3 l2 l1 l3).2.1) h1 h2 h3 h4 ea eb ec ed m2 m3
        · by_cases c3 : e = k ∧ (i = a ∨ i = b ∨ i = c ∨ i = d) ∧ (j = a ∨ j = b ∨ j = c ∨ j = d)
          · obtain ⟨rfl, m2, m3⟩ := c3
            exact perm5 e i j a b c d (by omega) hi hj ik.symm jk.symm ij (fun x y a1 a2 n1 n2 n3 l1 l2 l3 => (five0 x y a1 a2 n2 n3 n1 l2 l3 l1).2.2) h1 h2 h3 h4 ea eb ec ed m2 m3
          · have g := (hold a b c d h1 h2 h3 h4).2 e he ea eb ec ed
            unfold q5 at g ⊢
            rw [old e a b (by omega), old e c d (by omega), old e a c (by omega), old e d b (by omega), old e a d (by omega), old e b c (by omega)]
            exact g
