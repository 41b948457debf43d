/-! ===== level ===== -/
theorem cB_ext {f g : Nat → Bool} : ∀ (m p : Nat), (∀ k, p ≤ k → k < p + m → f k = g k) → cB f p m = cB g p m := by
  intro m
  induction m with
  | zero => intro p _; rfl
  | succ m ih =>
    intro p h
    unfold cB
    rw [h p (by omega) (by omega), ih (p + 1) fun k h1 h2 => h k (by omega) (by omega)]
theorem cB_3 {f g e : Nat → Bool} : ∀ (m p : Nat), (∀ k, p ≤ k → k < p + m → bn (f k) + bn (g k) + bn (e k) = 1) → cB f p m + cB g p m + cB e p m = m := by
  intro m
  induction m with
  | zero => intro p _; rfl
  | succ m ih =>
    intro p h
    have h1 := h p (by omega) (by omega)
    have h2 := ih (p + 1) fun k h1 h2 => h k (by omega) (by omega)
    unfold cB
    unfold bn at h1
    omega
theorem cB_ij {n i j : Nat} (hn : n ≤ 7) (hi : i < n) (hj : j < n) (hij : i ≠ j) : cB (fun k => decide (k = i) || decide (k = j)) 0 n = 2 := by
  have hh : ∀ n, n < 8 → ∀ i, i < n → ∀ j, j < n → i ≠ j → cB (fun k => decide (k = i) || decide (k = j)) 0 n = 2 := by decide +kernel
  exact hh n (by omega) i hi j hj hij
theorem WS_at {χ : tC} {n i j k : Nat} (w : WS χ n) (h7 : n ≤ 7) (hi : i < n) (hj : j < n) (hk : k < n) (a : i ≠ j) (b : j ≠ k) (c : i ≠ k) : χ i j k = 1 ∨ χ i j k = -1 := by
  have h := (w i j k (by omega) (by omega) (by omega)).2.2
  rw [if_pos ⟨hi, hj, hk, a, b, c⟩] at h
  exact h
theorem WS_z {χ : tC} {n i j k : Nat} (w : WS χ n) (hi : i < 7) (hj : j < 7) (hk : k < 7) (a : i = j ∨ j = k ∨ i = k) : χ i j k = 0 := by
  have h := (w i j k hi hj hk).2.2
  rw [if_neg (by omega)] at h
  exact h
theorem plow_q {χ : tC} {n i j : Nat} (w : WS χ n) (h7 : n ≤ 7) (hi : i < n) (hj : j < n) (hij : i ≠ j) : plow χ n i j = qlev χ n i j := by
  have e := cB_3 (f := fun k => decide (χ i j k = 1)) (g := fun k => decide (χ i j k = -1)) (e := fun k => decide (k = i) || decide (k = j)) n 0 fun k _ hk => by
    by_cases h1 : k = i
    · have := WS_z w (i := i) (j := j) (k := k) (by omega) (by omega) (by omega) (by omega)
      simp [h1, bn, h1 ▸ this]
    · by_cases h2 : k = j
      · have := WS_z w (i := i) (j := j) (k := k) (by omega) (by omega) (by omega) (by omega)
        simp [h2, bn, h2 ▸ this]
      · rcases WS_at w h7 hi hj (show k < n by omega) hij (fun z => h2 z.symm) (fun z => h1 z.symm) with h | h <;> simp [h, h1, h2, bn]
  rw [cB_ij h7 hi hj hij] at e
  have e2 : (nI n - 2) - nI (cB (fun k => decide (χ i j k = 1)) 0 n) = nI (cB (fun k => decide (χ i j k = -1)) 0 n) := by
    have hh : ∀ n, n < 8 → ∀ a, a < 8 → ∀ b, b < 8 → a + b + 2 = n → nI n - 2 - nI a = nI b := by decide +kernel
    exact hh n (by omega) _ (by omega) _ (by omega) e
  unfold plow qlev
  rw [e2]
  simp (disch := omega) only [nI_lt', nI_le']
  by_cases h1 : cB (fun k => decide (χ i j k = -1)) 0 n < cB (fun k => decide (χ i j k = 1)) 0 n
  · rw [if_pos h1, if_pos (by omega)]
  · rw [if_neg h1]
    by_cases h2 : cB (fun k => decide (χ i j k = -1)) 0 n ≤ cB (fun k => decide (χ i j k = 1)) 0 n
    · rw [if_pos h2]
      congr 1
      omega
    · rw [if_neg h2]
def lev1 (χ : tC) (n : Nat) (t : Int32) : Nat → Nat := fun i => sB (fun j => bn (decide (qlev χ n i j = t))) (i + 1) (n - (i + 1))
def lev (χ : tC) (n : Nat) (t : Int32) : Nat := sB (lev1 χ n t) 0 n
theorem bn_ne {a : Nat} {u t : Int32} : (if ¬ u = t then nI a else nI (a + 1)) = nI (a + bn (decide (u = t))) := by
  by_cases h : u = t
  · rw [if_neg (by simpa using h)]; simp [h, bn]
  · rw [if_pos h]; simp [h, bn]
theorem bn_ne' {a : Nat} {u t : Int32} : nI a + (if ¬ u = t then (0 : Int32) else 1) = nI (a + bn (decide (u = t))) := by
  by_cases h : u = t
  · rw [if_neg (by simpa using h), nI_1]; simp [h, bn]
  · rw [if_pos h, Int32.add_zero]; simp [h, bn]
theorem c90 {h : tH} {D d n : Nat} {t : Int32} (h1 : h.1 0 3 = nI D) (h3 : D ≤ 6) (hd : d < D) (t1 : tn h (70 + d) n) (w : WS (tX h (70 + d)) n) (a : ¬ t < 0) (b : ¬ (2 : Int32) < t) : rn 90 [.ref 0, .int (nI d), .int t] h (RI (nI (lev (tX h (70 + d)) n t))) h := by
  intro Q
  have hd6 : d < 6 := by omega
  have h7 := t1.2.2
  have hc := t1.2.1
  have l2 := fun (i : Nat) (hi : i < n) (F : Nat → Prop) (hF : ∀ a w, AX 3 90 34 [.ref 0, .int (nI d), .int t, .ref (70 + d), .int (nI a), .int (nI (i + 1)), w] [] h Q = F a) =>
    fun (m k : Nat) (hm : k + m = n) (hk : i < k) (a : Nat) => lp (β := Unit) (L := fun j a w => AX 3 90 49 [.ref 0, .int (nI d), .int t, .ref (70 + d), .int (nI a), .int (nI i), .int (nI j)] [] h Q) (E := F) (f := fun j a => a + bn (decide (qlev (tX h (70 + d)) n i j = t))) (n := n) (fun j _ => i < j)
      (fun a w _ => by
        rw [s_90_49, hc, if_pos (Int32.le_refl _), nI_1, hF]
        simp only [o70 hd6, true_and])
      (fun j a x G hj hij hG => by
        rw [s_90_49, hc]
        simp (disch := omega) only [o70 hd6, true_and, nI_le', m_lesser t1 hi hj, t_ki, nI_1, plow_q w h7 hi hj (show i ≠ j by omega), bn_ne]
        rw [if_neg (by omega), hG _ () (by omega)]) m k hm a () hk
  have l1 := lps (β := Value) (L := fun i a w => AX 3 90 34 [.ref 0, .int (nI d), .int t, .ref (70 + d), .int (nI a), .int (nI i), w] [] h Q) (E := fun a => Q (RI (nI a)) h) (f := lev1 (tX h (70 + d)) n t) (n := n)
      (fun a w => by
        rw [s_90_34, hc, if_pos (Int32.le_refl _)]
        simp only [o70 hd6, true_and])
      (fun i a w G hi hG => by
        rw [s_90_34, hc]
        simp (disch := omega) only [o70 hd6, true_and, nI_le', nI_1]
        rw [if_neg (by omega), l2 i hi G hG (n - (i + 1)) (i + 1) (by omega) (by omega) a]
        congr 1
        unfold lev1
        have : ∀ (f : Nat → Nat) (m k a : Nat), fd (fun j a => a + f j) k m a = a + sB f k m := by
          intro f m
          induction m with
          | zero => intro k a; rfl
          | succ m ih => intro k a; rw [fd_s, ih]; show a + f k + _ = a + (f k + _); omega
        exact this _ _ _ _)
  rw [am_90, s_90_0, c75 h1 h3 hd]
  simp only [t_ob_0', true_and, t_kq_r, va_rf_s, s_90_5, e30, o40 hd6]
  rw [if_neg a, if_pos (Int32.not_lt.mp b)]
  have := l1 n 0 (by omega) 0 (.float 0)
  rw [Nat.zero_add] at this
  exact this
