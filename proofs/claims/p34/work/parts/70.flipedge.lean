/-! ===== flipEdge ===== -/
theorem m_11 {h : tH} {d n i j k : Nat} {s : Int32} {E : Int32} (hd : d < 6) (t : tn h (70 + d) n) (h5 : h.1 (40 + d) 5 = zb true) (h4 : h.1 (40 + d) 4 = E) (hi : i < n) (hj : j < n) (hk : k < n) (Q : tO → tH → Prop) : AM 11 [.ref (40 + d), .int (nI i), .int (nI j), .int (nI k), .int s] h Q = Q (RI (zb (crn (tX h (70 + d)) n E i j s k))) h := by
  have h7 := t.2.2
  rw [am_11, s_11_0]
  simp only [o40 hd, e30, o70 hd, true_and, m_of (o70 hd) (show i < 7 by omega) (show j < 7 by omega) (show k < 7 by omega), t_ki, m_10 hd h5 (show i < 7 by omega) (show k < 7 by omega), m_10 hd h5 (show j < 7 by omega) (show k < 7 by omega), h4, m_none t hi hj hk, s_11_50, s_11_51, zb_0, Bool.true_and, zb_0z, zb_1z]
  unfold crn
  by_cases c1 : tX h (70 + d) i j k = s
  · cases c2 : (!decide (i = k) && bt E (sx i k)) with
    | false => simp [c1, zb]
    | true =>
      cases c3 : (!decide (j = k) && bt E (sx j k)) with
      | false => simp [c1, zb]
      | true => cases c4 : pnone (tX h (70 + d)) n i j k <;> simp [c1, zb]
  · simp [c1, zb]
/-- the pair that is looked for -/
def cnd (χ : tC) (n : Nat) (E : Int32) (i j k l : Nat) : Bool := crn χ n E i j 1 k && (crn χ n E i j (-1) l && pparts χ i j k l)
def fan (k l : Nat) : Int32 := if l ≤ k then nI (10 * l + k) else nI (10 * k + l)
theorem c96s {h : tH} {d n i j k0 l0 : Nat} {E : Int32} (hd : d < 6) (t : tn h (70 + d) n) (h5 : h.1 (40 + d) 5 = zb true) (h4 : h.1 (40 + d) 4 = E) (hi : i < n) (hj : j < n) (un : ∀ k l, k < n → l < n → cnd (tX h (70 + d)) n E i j k l = true → k = k0 ∧ l = l0) (kl : k0 ≠ l0 ∨ cnd (tX h (70 + d)) n E i j k0 l0 = false) (Q : tO → tH → Prop) :
    AX 5 96 43 [.ref 0, .int (nI d), .int (nI i), .int (nI j), .ref (40 + d), .int (nI 0), .float 0] [] h Q = (if k0 < n ∧ l0 < n ∧ cnd (tX h (70 + d)) n E i j k0 l0 = true then Q (RI (fan k0 l0)) (t_I h (40 + d) 4 (fT E i j k0 l0)) else Q (.inr 1) (t_X h)) := by
  have h7 := t.2.2
  have hc := t.2.1
  obtain ⟨χ, hχ⟩ : ∃ χ, χ = tX h (70 + d) := ⟨_, rfl⟩
  rw [← hχ] at un kl ⊢
  have step : ∀ k l, k < n → l < n → AX 5 96 59 [.ref 0, .int (nI d), .int (nI i), .int (nI j), .ref (40 + d), .int (nI k), .int (nI l)] [] h Q = (if cnd χ n E i j k l = true then Q (RI (fan k l)) (t_I h (40 + d) 4 (fT E i j k l)) else AX 5 96 59 [.ref 0, .int (nI d), .int (nI i), .int (nI j), .ref (40 + d), .int (nI k), .int (nI (l + 1))] [] h Q) := by
    intro k l hk hl
    have a1 := m_11 (s := 1) hd t h5 h4 hi hj hk
    have a2 := m_11 (s := -1) hd t h5 h4 hi hj hl
    rw [← hχ] at a1 a2
    have ea : k ≠ l → (10 * (if nI l < nI k then nI l else nI k)) + (if nI k < nI l then nI l else nI k) = fan k l := fun kl => by
      have e10 : ∀ a b : Nat, (10 : Int32) * nI a + nI b = nI (10 * a + b) := fun a b => by
        rw [show (10 : Int32) = nI 10 from rfl, pk_mul, nI_add]
      unfold fan
      simp (disch := omega) only [nI_lt']
      by_cases q : l ≤ k
      · rw [if_pos (show l < k by omega), if_neg (show ¬ k < l by omega), if_pos q, e10]
      · rw [if_neg (show ¬ l < k by omega), if_pos (show k < l by omega), if_neg q, e10]
    rw [s_96_59, e30, hc]
    simp (disch := omega) only [o40 hd, o70 hd, true_and, nI_le', a1, a2, t_ki, m_parts (o70 hd) (show i < 7 by omega) (show j < 7 by omega) (show k < 7 by omega) (show l < 7 by omega), ← hχ, zb_0, s_96_160, nI_1, m_22 (show i < 7 by omega) (show j < 7 by omega), m_22 (show k < 7 by omega) (show l < 7 by omega), h4]
    rw [if_neg (by omega)]
    have hcd : cnd χ n E i j k l = (crn χ n E i j 1 k && (crn χ n E i j (-1) l && pparts χ i j k l)) := rfl
    by_cases c1 : crn χ n E i j 1 k = true
    · by_cases c2 : crn χ n E i j (-1) l = true
      · by_cases c3 : pparts χ i j k l = true
        · have ct : cnd χ n E i j k l = true := by rw [hcd, c1, c2, c3]; rfl
          have ne : k ≠ l := fun z => by
            subst z
            have q1 := (crn_iff.mp c1).1
            have q2 := (crn_iff.mp c2).1
            rw [q1] at q2
            exact absurd q2 (by decide)
          rw [if_neg (by simp [c1]), if_neg (by simp [c2]), if_neg (by simp [c3]), if_pos ct, ea ne]
          rfl
        · rw [if_neg (by simp [c1]), if_neg (by simp [c2]), if_pos (by simpa using c3), if_neg (by rw [hcd]; simp [c3])]
      · rw [if_neg (by simp [c1]), if_pos (by simpa using c2), if_neg (by rw [hcd]; simp [c2])]
    · rw [if_pos (by simpa using c1), if_neg (by rw [hcd]; simp [c1])]
  have inn : ∀ k, k < n → ∀ m l, l + m = n → AX 5 96 59 [.ref 0, .int (nI d), .int (nI i), .int (nI j), .ref (40 + d), .int (nI k), .int (nI l)] [] h Q = (if k = k0 ∧ l ≤ l0 ∧ l0 < n ∧ cnd χ n E i j k0 l0 = true then Q (RI (fan k0 l0)) (t_I h (40 + d) 4 (fT E i j k0 l0)) else AX 5 96 43 [.ref 0, .int (nI d), .int (nI i), .int (nI j), .ref (40 + d), .int (nI (k + 1)), .int (nI n)] [] h Q) := by
    intro k hk m
    induction m with
    | zero =>
      intro l hl
      have : l = n := by omega
      subst this
      rw [s_96_59, e30, hc, if_pos (Int32.le_refl _), if_neg (by omega), nI_1]
      simp only [o40 hd, o70 hd, true_and]
    | succ m ih =>
      intro l hl
      rw [step k l hk (by omega)]
      by_cases c : cnd χ n E i j k l = true
      · obtain ⟨rfl, rfl⟩ := un k l hk (by omega) c
        rw [if_pos c, if_pos ⟨rfl, by omega, by omega, c⟩]
      · rw [if_neg c, ih (l + 1) (by omega)]
        by_cases e : k = k0 ∧ l + 1 ≤ l0 ∧ l0 < n ∧ cnd χ n E i j k0 l0 = true
        · rw [if_pos e, if_pos ⟨e.1, by omega, e.2.2⟩]
        · rw [if_neg e, if_neg]
          rintro ⟨e1, e2, e3, e4⟩
          by_cases ll : l = l0
          · exact c (by rw [e1, ll]; exact e4)
          · exact e ⟨e1, by omega, e3, e4⟩
  have out : ∀ m k, k + m = n → ∀ w, AX 5 96 43 [.ref 0, .int (nI d), .int (nI i), .int (nI j), .ref (40 + d), .int (nI k), w] [] h Q = (if k ≤ k0 ∧ k0 < n ∧ l0 < n ∧ cnd χ n E i j k0 l0 = true then Q (RI (fan k0 l0)) (t_I h (40 + d) 4 (fT E i j k0 l0)) else Q (.inr 1) (t_X h)) := by
    intro m
    induction m with
    | zero =>
      intro k hk w
      have : k = n := by omega
      subst this
      rw [s_96_43, e30, hc, if_pos (Int32.le_refl _), if_neg (by omega)]
      simp only [o40 hd, o70 hd, true_and]
    | succ m ih =>
      intro k hk w
      rw [s_96_43, e30, hc]
      simp (disch := omega) only [o40 hd, o70 hd, true_and, nI_le']
      rw [if_neg (by omega), show (0 : Int32) = nI 0 from rfl, inn k (by omega) n 0 (by omega), ih (k + 1) (by omega)]
      by_cases e : k = k0 ∧ 0 ≤ l0 ∧ l0 < n ∧ cnd χ n E i j k0 l0 = true
      · rw [if_pos e, if_pos ⟨by omega, by omega, e.2.2⟩]
      · rw [if_neg e]
        by_cases e2 : k + 1 ≤ k0 ∧ k0 < n ∧ l0 < n ∧ cnd χ n E i j k0 l0 = true
        · rw [if_pos e2, if_pos ⟨by omega, e2.2⟩]
        · rw [if_neg e2, if_neg]
          rintro ⟨e3, e4, e5, e6⟩
          by_cases kk : k = k0
          · exact e ⟨kk, by omega, e5, e6⟩
          · exact e2 ⟨by omega, e4, e5, e6⟩
  rw [out n 0 (by omega)]
  by_cases e : k0 < n ∧ l0 < n ∧ cnd χ n E i j k0 l0 = true
  · rw [if_pos e, if_pos ⟨by omega, e⟩]
  · rw [if_neg e, if_neg (fun z => e z.2)]
theorem c96 {h : tH} {D d n i j : Nat} {b : Bool} (hd : h.1 0 3 = nI D) (hD : D ≤ 6) (hdD : d < D) (t : tn h (70 + d) n) (h5 : h.1 (40 + d) 5 = zb b) (hi : i < n) (hj : j < n) (Q : tO → tH → Prop) : AM 96 [.ref 0, .int (nI d), .int (nI i), .int (nI j)] h Q = (if (b && (!decide (i = j) && bt (h.1 (40 + d) 4) (sx i j))) = true then AX 5 96 43 [.ref 0, .int (nI d), .int (nI i), .int (nI j), .ref (40 + d), .int (nI 0), .float 0] [] h Q else Q (.inr 1) (t_X h)) := by
  have hd6 : d < 6 := by omega
  have h7 := t.2.2
  have p1 : pI (nI i) n = true := by rw [pI_nI (by omega) (by omega)]; simpa using hi
  have p2 : pI (nI j) n = true := by rw [pI_nI (by omega) (by omega)]; simpa using hj
  rw [am_96, s_96_0, c75 hd hD hdD]
  simp only [t_ob_0', true_and, t_kq_r, va_rf_s, s_96_5, c76f hd6 t, p1, p2, if_true, o40 hd6, m_10 hd6 h5 (show i < 7 by omega) (show j < 7 by omega), t_ki, zb_0]
  by_cases e : (b && (!decide (i = j) && bt (h.1 (40 + d) 4) (sx i j))) = true
  · rw [if_pos (by simp [e]), if_pos e]
    rfl
  · rw [if_neg (by simpa using e), if_neg e]
theorem c96x {h : tH} {D : Nat} {x a c : Int32} (hd : h.1 0 3 = nI D) (hD : D ≤ 6) (hh : pI x D = false ∨ ∃ d n, x = nI d ∧ d < D ∧ tn h (70 + d) n ∧ (pI a n && pI c n) = false) : rn 96 [.ref 0, .int x, .int a, .int c] h (.inr 2) (t_X h) := by
  intro Q
  rcases hh with h1 | ⟨d, n, rfl, hdD, t, hh⟩
  · rw [am_96, s_96_0, c75x hd hD h1]
    simp only [t_ob_0', true_and, t_kq_E]
  · have hd6 : d < 6 := by omega
    rw [am_96, s_96_0, c75 hd hD hdD]
    simp only [t_ob_0', true_and, t_kq_r, va_rf_s, s_96_5, c76f hd6 t]
    by_cases k1 : pI a n = true
    · have k2 : pI c n = false := by simpa [k1] using hh
      rw [if_pos k1, if_neg (by simp [k2])]
    · rw [if_neg k1]
/-! the model -/
/-- the cells of the edges -/
def ED (g : tH) (d n : Nat) (E : Int32) : Prop := ∀ i j, i < n → j < n → g.1 25 (49 * d + 7 * i + j) = zb (!decide (i = j) && bt E (sx i j))
