theorem cB_mono {f g : Nat → Bool} : ∀ (m p : Nat), (∀ k, p ≤ k → k < p + m → f k = true → g k = true) → cB f p m ≤ cB g p m := by
  intro m
  induction m with
  | zero => intro p _; exact Nat.le_refl _
  | succ m ih =>
    intro p h
    have h1 := ih (p + 1) fun k a b => h k (by omega) (by omega)
    have h2 := h p (by omega) (by omega)
    unfold cB
    cases hf : f p with
    | true => rw [if_pos rfl, if_pos (h2 hf)]; omega
    | false => simp; omega
theorem cB_lt {f g : Nat → Bool} : ∀ (m p : Nat), (∀ k, p ≤ k → k < p + m → f k = true → g k = true) → (∃ k, p ≤ k ∧ k < p + m ∧ f k = false ∧ g k = true) → cB f p m < cB g p m := by
  intro m
  induction m with
  | zero => rintro p _ ⟨k, a, b, _⟩; omega
  | succ m ih =>
    rintro p h ⟨k, k1, k2, k3, k4⟩
    have h2 := h p (by omega) (by omega)
    unfold cB
    by_cases hk : k = p
    · subst hk
      have h1 := cB_mono (f := f) (g := g) m (k + 1) fun j a b => h j (by omega) (by omega)
      rw [k3, k4]
      simp
      omega
    · have h1 := ih (p + 1) (fun j a b => h j (by omega) (by omega)) ⟨k, by omega, by omega, k3, k4⟩
      cases hf : f p with
      | true => rw [if_pos rfl, if_pos (h2 hf)]; omega
      | false => simp; omega
theorem pc_one {p : Nat} (hp : p < 7) : pc (one p) = 1 := by
  have hh : ∀ p, p < 7 → pc (one p) = 1 := by decide +kernel
  exact hh p hp
theorem is_one {s : Int32} {n p : Nat} (h7 : n ≤ 7) (hs : ∀ i, n ≤ i → bt s i = false) (hb : bt s p = true) (hp : p < n) (h : ¬ ∃ q, q ≠ p ∧ q < n ∧ bt s q = true) : s = one p := by
  refine b_ext fun i hi => ?_
  rw [bt_one (by omega)]
  by_cases e : i = p
  · rw [e, hb]; simp
  · cases hx : bt s i with
    | false => simp [e]
    | true =>
      have : i < n := by
        apply Classical.byContradiction
        intro hn
        rw [hs i (by omega)] at hx
        cases hx
      exact absurd ⟨i, e, this, hx⟩ h
theorem lay_small {χ : tC} {n p : Nat} {s : Int32} (h7 : n ≤ 7) (hs : ∀ i, n ≤ i → bt s i = false) (hb : bt s p = true) (hp : p < n) (h2 : pc s ≤ 2) : bt (phull χ n s) p = true := by
  rw [phull_bt h7]
  by_cases hx : ∃ q, q ≠ p ∧ q < n ∧ bt s q = true
  · obtain ⟨q, q1, q2, q3⟩ := hx
    have f : fo χ n s p q := ⟨q2, q1, q3, fun c c1 c2 c3 c4 => by
      exfalso
      have h3 : 3 ≤ pc s := by
        have e : cB (fun k => decide (k = p) || decide (k = q) || decide (k = c)) 0 32 = 3 := by
          have hh : ∀ p, p < 7 → ∀ q, q < 7 → ∀ c, c < 7 → (decide (q = p) || decide (c = p) || decide (c = q) || decide (cB (fun k => decide (k = p) || decide (k = q) || decide (k = c)) 0 32 = 3)) = true := by decide +kernel
          have := hh p (by omega) q (by omega) c (by omega)
          simpa [q1, c2, c3] using this
        rw [← e]
        refine cB_mono _ _ fun k _ _ hk => ?_
        simp only [Bool.or_eq_true, decide_eq_true_eq] at hk
        rcases hk with (rfl | rfl) | rfl
        · exact hb
        · exact q3
        · exact c4
      omega⟩
    rcases pafter_iff (χ := χ) (a := p) (set := s) h7 with ⟨-, g⟩ | ⟨b, g1, g2⟩
    · exact absurd f (g q)
    · have : pafter χ n s p ≠ -1 := by rw [g2]; exact nI_m1 (by have := g1.1; omega)
      simp [hp, hb, this]
  · have := is_one h7 hs hb hp hx
    simp [hp, hb, ← this]
theorem lay_big {χ : tC} {n p : Nat} {s : Int32} (w : WS χ n) (h7 : n ≤ 7) (h : qhold χ n = true) (hs : ∀ i, n ≤ i → bt s i = false) (hb : bt s p = true) (hp : p < n) (h2 : ¬ pc s ≤ 2) : phull χ n s = qhull χ n s ∧ pc (s &&& (phull χ n s ^^^ -1)) < pc s := by
  have hone : ∀ q, q < n → s ≠ one q := fun q hq z => h2 (by rw [z, pc_one (by omega)]; decide)
  have e := phull_q (χ := χ) h7 hone
  refine ⟨e, ?_⟩
  have hx : ∃ q, q ≠ p ∧ q < n ∧ bt s q = true := by
    apply Classical.byContradiction
    intro hn
    exact hone p hp (is_one h7 hs hb hp hn)
  obtain ⟨q, q1, q2, q3⟩ := hx
  obtain ⟨a, b, f1, f2, f3, f4⟩ := hull_ex w h7 h (set := s) n (Nat.le_refl _) (by
    by_cases hpq : p < q
    · exact ⟨p, q, hpq, q2, hb, q3⟩
    · exact ⟨q, p, by omega, hp, q3, hb⟩)
  have fab : fo χ n s a b := ⟨f2.1, fun z => f3 z.symm, f2.2, fun c c1 c2 c3 c4 => f4 c ⟨c1, c4⟩ c2 c3⟩
  have ha : bt (phull χ n s) a = true := by
    rw [phull_bt h7]
    rcases pafter_iff (χ := χ) (a := a) (set := s) h7 with ⟨-, g⟩ | ⟨c, g1, g2⟩
    · exact absurd fab (g b)
    · have : pafter χ n s a ≠ -1 := by rw [g2]; exact nI_m1 (by have := g1.1; omega)
      simp [f1.1, f1.2, this]
  refine cB_lt _ _ (fun k _ hk hk' => ?_) ⟨a, by omega, by have := f1.1; omega, ?_, f1.2⟩
  · rw [bt_cpl (by omega)] at hk'
    simp only [Bool.and_eq_true] at hk'
    exact hk'.1
  · rw [bt_cpl (by have := f1.1; omega), ha]
    simp
