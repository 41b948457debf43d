/-! ===== which segments cross ===== -/
/-- the segment of a bit -/
def sxi (p : Nat) : Nat × Nat := if p < 1 then (0, 1) else if p < 3 then (p - 1, 2) else if p < 6 then (p - 3, 3) else if p < 10 then (p - 6, 4) else if p < 15 then (p - 10, 5) else (p - 15, 6)
theorem sxi_sx {a b : Nat} (hb : b < 7) (h : a < b) : sxi (sx a b) = (a, b) := by
  have hh : ∀ b, b < 7 → ∀ a, a < b → sxi (sx a b) = (a, b) := by decide +kernel
  exact hh b hb a h
theorem sx_sxi {p : Nat} (hp : p < 21) : sx (sxi p).1 (sxi p).2 = p ∧ (sxi p).1 < (sxi p).2 ∧ (sxi p).2 < 7 := by
  have hh : ∀ p, p < 21 → sx (sxi p).1 (sxi p).2 = p ∧ (sxi p).1 < (sxi p).2 ∧ (sxi p).2 < 7 := by decide +kernel
  exact hh p hp
theorem sx_inj {a b c d : Nat} (hb : b < 7) (hd : d < 7) (h1 : a < b) (h2 : c < d) (h : sx a b = sx c d) : a = c ∧ b = d := by
  have e1 := sxi_sx hb h1
  have e2 := sxi_sx hd h2
  rw [h, e2] at e1
  exact ⟨(Prod.ext_iff.mp e1).1.symm, (Prod.ext_iff.mp e1).2.symm⟩
theorem sx_comm (i j : Nat) : sx i j = sx j i := by
  unfold sx
  by_cases h : i < j
  · rw [if_pos h, if_neg (by omega)]
  · by_cases h2 : j < i
    · rw [if_neg h, if_pos h2]
    · have : i = j := by omega
      rw [this]
theorem pparts_s (χ : tC) (i j k l : Nat) : pparts χ i j k l = pparts χ k l i j := by
  unfold pparts
  rw [Bool.and_comm]
theorem n_neg {x y : Int32} : (-x = -y) = (x = y) := propext ⟨fun h => by have := congrArg (fun z => -z) h; simpa using this, fun h => by rw [h]⟩
theorem pparts_j {χ : tC} {n i j k l : Nat} (w : WS χ n) (hi : i < 7) (hj : j < 7) (hk : k < 7) (hl : l < 7) : pparts χ j i k l = pparts χ i j k l := by
  have e1 := (w i j k hi hj hk).2.1
  have e2 := (w i j l hi hj hl).2.1
  unfold pparts
  rw [e1, e2]
  have e3 : (χ k l j = χ k l i) = (χ k l i = χ k l j) := propext ⟨Eq.symm, Eq.symm⟩
  simp only [n_neg, e3]
theorem qcross_iff {χ : tC} {i j k l : Nat} : qcross χ i j k l = true ↔ (i ≠ j ∧ i ≠ k ∧ i ≠ l ∧ j ≠ k ∧ j ≠ l ∧ k ≠ l) ∧ pparts χ i j k l = true := by
  unfold qcross
  simp only [Bool.and_eq_true, Bool.not_eq_true', Bool.or_eq_false_iff, decide_eq_false_iff_not]
  constructor
  · rintro ⟨⟨⟨⟨⟨⟨a, b⟩, c⟩, d⟩, e⟩, f⟩, g⟩
    exact ⟨⟨a, b, c, d, e, f⟩, g⟩
  · rintro ⟨⟨a, b, c, d, e, f⟩, g⟩
    exact ⟨⟨⟨⟨⟨⟨a, b⟩, c⟩, d⟩, e⟩, f⟩, g⟩
theorem qcross_s (χ : tC) (i j k l : Nat) : qcross χ i j k l = qcross χ k l i j := by
  rw [Bool.eq_iff_iff, qcross_iff, qcross_iff, pparts_s χ i j k l]
  constructor
  · rintro ⟨⟨a, b, c, d, e, f⟩, g⟩
    exact ⟨⟨f, b.symm, d.symm, c.symm, e.symm, a⟩, g⟩
  · rintro ⟨⟨a, b, c, d, e, f⟩, g⟩
    exact ⟨⟨f, b.symm, d.symm, c.symm, e.symm, a⟩, g⟩
theorem qcross_j {χ : tC} {n i j k l : Nat} (w : WS χ n) (hi : i < 7) (hj : j < 7) (hk : k < 7) (hl : l < 7) : qcross χ j i k l = qcross χ i j k l := by
  rw [Bool.eq_iff_iff, qcross_iff, qcross_iff, pparts_j w hi hj hk hl]
  constructor
  · rintro ⟨⟨a, b, c, d, e, f⟩, g⟩
    exact ⟨⟨a.symm, d, e, b, c, f⟩, g⟩
  · rintro ⟨⟨a, b, c, d, e, f⟩, g⟩
    exact ⟨⟨a.symm, d, e, b, c, f⟩, g⟩
theorem pq_iff {p q i j k l : Nat} : pq p q i j k l = true ↔ (p = sx i j ∧ q = sx k l) ∨ (p = sx k l ∧ q = sx i j) := by
  unfold pq
  simp only [Bool.or_eq_true, Bool.and_eq_true, decide_eq_true_eq]
theorem xq_iff {χ : tC} {n p q : Nat} : xq χ n p q = true ↔ ∃ a b c d, a < b ∧ b < c ∧ c < d ∧ d < n ∧ xqD χ p q a b c d = true := by
  unfold xq
  rw [eB_iff]
  constructor
  · rintro ⟨a, -, ha, h⟩
    unfold xqA at h
    obtain ⟨b, hb1, hb2, h⟩ := (eB_iff _ _ _).mp h
    unfold xqB at h
    obtain ⟨c, hc1, hc2, h⟩ := (eB_iff _ _ _).mp h
    unfold xqC at h
    obtain ⟨d, hd1, hd2, h⟩ := (eB_iff _ _ _).mp h
    exact ⟨a, b, c, d, by omega, by omega, by omega, by omega, h⟩
  · rintro ⟨a, b, c, d, h1, h2, h3, h4, h⟩
    refine ⟨a, by omega, by omega, ?_⟩
    unfold xqA
    refine (eB_iff _ _ _).mpr ⟨b, by omega, by omega, ?_⟩
    unfold xqB
    refine (eB_iff _ _ _).mpr ⟨c, by omega, by omega, ?_⟩
    unfold xqC
    exact (eB_iff _ _ _).mpr ⟨d, by omega, by omega, h⟩
theorem xqD_iff {χ : tC} {p q a b c d : Nat} : xqD χ p q a b c d = true ↔ (pparts χ a b c d = true ∧ pq p q a b c d = true) ∨ (pparts χ a c b d = true ∧ pq p q a c b d = true) ∨ (pparts χ a d b c = true ∧ pq p q a d b c = true) := by
  unfold xqD
  simp only [Bool.or_eq_true, Bool.and_eq_true]
theorem xq_up {χ : tC} {n i j k l : Nat} (h7 : n ≤ 7) (hj : j < n) (hl : l < n) (hij : i < j) (hkl : k < l) : xq χ n (sx i j) (sx k l) = qcross χ i j k l := by
  rw [Bool.eq_iff_iff, xq_iff, qcross_iff]
  constructor
  · rintro ⟨a, b, c, d, h1, h2, h3, h4, h⟩
    rw [xqD_iff] at h
    have key : ∀ x y z t, x < y → z < t → y < n → t < n → x ≠ z → x ≠ t → y ≠ z → y ≠ t → pparts χ x y z t = true → pq (sx i j) (sx k l) x y z t = true → (i ≠ j ∧ i ≠ k ∧ i ≠ l ∧ j ≠ k ∧ j ≠ l ∧ k ≠ l) ∧ pparts χ i j k l = true := by
      intro x y z t a1 a2 a3 a4 a5 a6 a7 a8 hp hq
      rcases pq_iff.mp hq with ⟨e1, e2⟩ | ⟨e1, e2⟩
      · obtain ⟨rfl, rfl⟩ := sx_inj (by omega) (by omega) hij a1 e1
        obtain ⟨rfl, rfl⟩ := sx_inj (by omega) (by omega) hkl a2 e2
        exact ⟨⟨by omega, by omega, by omega, by omega, by omega, by omega⟩, hp⟩
      · obtain ⟨rfl, rfl⟩ := sx_inj (by omega) (by omega) hij a2 e1
        obtain ⟨rfl, rfl⟩ := sx_inj (by omega) (by omega) hkl a1 e2
        rw [pparts_s] at hp
        exact ⟨⟨by omega, by omega, by omega, by omega, by omega, by omega⟩, hp⟩
    rcases h with ⟨x, y⟩ | ⟨x, y⟩ | ⟨x, y⟩
    · exact key a b c d (by omega) (by omega) (by omega) (by omega) (by omega) (by omega) (by omega) (by omega) x y
    · exact key a c b d (by omega) (by omega) (by omega) (by omega) (by omega) (by omega) (by omega) (by omega) x y
    · exact key a d b c (by omega) (by omega) (by omega) (by omega) (by omega) (by omega) (by omega) (by omega) x y
  · rintro ⟨⟨h1, h2, h3, h4, h5, h6⟩, hp⟩
    have hp' := hp
    rw [pparts_s] at hp'
    have u1 : pq (sx i j) (sx k l) i j k l = true := pq_iff.mpr (Or.inl ⟨rfl, rfl⟩)
    have u2 : pq (sx i j) (sx k l) k l i j = true := pq_iff.mpr (Or.inr ⟨rfl, rfl⟩)
    by_cases c1 : j < k
    · exact ⟨i, j, k, l, by omega, by omega, by omega, by omega, xqD_iff.mpr (Or.inl ⟨hp, u1⟩)⟩
    · by_cases c2 : l < i
      · exact ⟨k, l, i, j, by omega, by omega, by omega, by omega, xqD_iff.mpr (Or.inl ⟨hp', u2⟩)⟩
      · by_cases c3 : i < k
        · by_cases c4 : j < l
          · exact ⟨i, k, j, l, by omega, by omega, by omega, by omega, xqD_iff.mpr (Or.inr (Or.inl ⟨hp, u1⟩))⟩
          · exact ⟨i, k, l, j, by omega, by omega, by omega, by omega, xqD_iff.mpr (Or.inr (Or.inr ⟨hp, u1⟩))⟩
        · by_cases c4 : j < l
          · exact ⟨k, i, j, l, by omega, by omega, by omega, by omega, xqD_iff.mpr (Or.inr (Or.inr ⟨hp', u2⟩))⟩
          · exact ⟨k, i, l, j, by omega, by omega, by omega, by omega, xqD_iff.mpr (Or.inr (Or.inl ⟨hp', u2⟩))⟩
theorem xq_cross {χ : tC} {n i j k l : Nat} (w : WS χ n) (h7 : n ≤ 7) (hi : i < n) (hj : j < n) (hk : k < n) (hl : l < n) (hij : i ≠ j) (hkl : k ≠ l) : xq χ n (sx i j) (sx k l) = qcross χ i j k l := by
  have st : ∀ i j k l, i < n → j < n → k < n → l < n → i ≠ j → k < l → xq χ n (sx i j) (sx k l) = qcross χ i j k l := by
    intro i j k l hi hj hk hl hij hkl
    by_cases h : i < j
    · exact xq_up h7 hj hl h hkl
    · rw [sx_comm i j, xq_up h7 hi hl (by omega) hkl]
      exact qcross_j w (by omega) (by omega) (by omega) (by omega)
  by_cases h : k < l
  · exact st i j k l hi hj hk hl hij h
  · rw [sx_comm k l, st i j l k hi hj hl hk hij (by omega), qcross_s, qcross_s χ i j k l]
    exact qcross_j w (by omega) (by omega) (by omega) (by omega)
/-- bits behind the last segment of n points cross nothing -/
theorem xq_big {χ : tC} {n p q : Nat} (h7 : n ≤ 7) (h : n * (n - 1) / 2 ≤ p ∨ n * (n - 1) / 2 ≤ q) : xq χ n p q = false := by
  rw [← Bool.not_eq_true, xq_iff]
  rintro ⟨a, b, c, d, h1, h2, h3, h4, hx⟩
  have lt : ∀ n, n < 8 → ∀ y, y < n → ∀ x, x < y → sx x y < n * (n - 1) / 2 := by decide +kernel
  have l := lt n (by omega)
  have key : ∀ x y z t, x < y → z < t → y < n → t < n → pq p q x y z t = true → False := by
    intro x y z t a1 a2 a3 a4 hq
    have l1 := l y a3 x a1
    have l2 := l t a4 z a2
    rcases pq_iff.mp hq with ⟨e1, e2⟩ | ⟨e1, e2⟩ <;> omega
  rcases xqD_iff.mp hx with ⟨x, y⟩ | ⟨x, y⟩ | ⟨x, y⟩
  · exact key a b c d (by omega) (by omega) (by omega) (by omega) y
  · exact key a c b d (by omega) (by omega) (by omega) (by omega) y
  · exact key a d b c (by omega) (by omega) (by omega) (by omega) y
