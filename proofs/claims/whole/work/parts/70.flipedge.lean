/-! ===== flipEdge ===== -/
theorem m_11 {h : tH} {d n i j k : Nat} {s : Int32} {E : Int32} (hd : d < 6) (t : tn h (70 + d) n) (h5 : h.1 (40 + d) 5 = zb true) (h4 : h.1 (40 + d) 4 = E) (hi : i < n) (hj : j < n) (hk : k < n) (Q : tO → tH → Prop) : AM 11 [.ref (40 + d), .int (nI i), .int (nI j), .int (nI k), .int s] h Q = Q (RI (zb (crn (tX h (70 + d)) n E i j s k))) h := by
  have h7 := t.2.2
  rw [am_11, s_11_0]
  simp only [o40 hd, e30, o70 hd, true_and, m_of (o70 hd) (show i < 7 by omega) (show j < 7 by omega) (show k < 7 by omega), t_ki, m_10 hd h5 (show i < 7 by omega) (show k < 7 by omega), m_10 hd h5 (show j < 7 by omega) (show k < 7 by omega), h4, m_none t hi hj hk, s_11_50, s_11_51, zb_0, Bool.true_and, zb_0z, zb_1z]
  unfold crn
  by_cases c1 : tX h (70 + d) i j k = s
  · cases c2 : (!decide (i = k) && bt E (sx i k)) with
    | false => simp [c1, zb]
    | true =>
      cases c3 : (!decide (j = k) && bt E (sx j k)) with
      | false => simp [c1, zb]
      | true => cases c4 : pnone (tX h (70 + d)) n i j k <;> simp [c1, zb]
  · simp [c1, zb]
/-- the pair that is looked for -/
def cnd (χ : tC) (n : Nat) (E : Int32) (i j k l : Nat) : Bool := crn χ n E i j 1 k && (crn χ n E i j (-1) l && pparts χ i j k l)
def fan (k l : Nat) : Int32 := if l ≤ k then nI (10 * l + k) else nI (10 * k + l)
theorem c96s {h : tH} {d n i j k0 l0 : Nat} {E : Int32} (hd : d < 6) (t : tn h (70 + d) n) (h5 : h.1 (40 + d) 5 = zb true) (h4 : h.1 (40 + d) 4 = E) (hi : i < n) (hj : j < n) (un : ∀ k l, k < n → l < n → cnd (tX h (70 + d)) n E i j k l = true → k = k0 ∧ l = l0) (kl : k0 ≠ l0 ∨ cnd (tX h (70 + d)) n E i j k0 l0 = false) (Q : tO → tH → Prop) :
    AX 5 96 43 [.ref 0, .int (nI d), .int (nI i), .int (nI j), .ref (40 + d), .int (nI 0), .float 0] [] h Q = (if k0 < n ∧ l0 < n ∧ cnd (tX h (70 + d)) n E i j k0 l0 = true then Q (RI (fan k0 l0)) (t_I h (40 + d) 4 (fT E i j k0 l0)) else Q (.inr 1) (t_X h)) := by
  have h7 := t.2.2
  have hc := t.2.1
  obtain ⟨χ, hχ⟩ : ∃ χ, χ = tX h (70 + d) := ⟨_, rfl⟩
  rw [← hχ] at un kl ⊢
  have step : ∀ k l, k < n → l < n → AX 5 96 59 [.ref 0, .int (nI d), .int (nI i), .int (nI j), .ref (40 + d), .int (nI k), .int (nI l)] [] h Q = (if cnd χ n E i j k l = true then Q (RI (fan k l)) (t_I h (40 + d) 4 (fT E i j k l)) else AX 5 96 59 [.ref 0, .int (nI d), .int (nI i), .int (nI j), .ref (40 + d), .int (nI k), .int (nI (l + 1))] [] h Q) := by
    intro k l hk hl
    have a1 := m_11 (s := 1) hd t h5 h4 hi hj hk
    have a2 := m_11 (s := -1) hd t h5 h4 hi hj hl
    rw [← hχ] at a1 a2
    have ea : k ≠ l → (10 * (if nI l < nI k then nI l else nI k)) + (if nI k < nI l then nI l else nI k) = fan k l := fun kl => by
      have e10 : ∀ a b : Nat, (10 : Int32) * nI a + nI b = nI (10 * a + b) := fun a b => by
        rw [show (10 : Int32) = nI 10 from rfl, pk_mul, nI_add]
      unfold fan
      simp (disch := omega) only [nI_lt']
      by_cases q : l ≤ k
      · rw [if_pos (show l < k by omega), if_neg (show ¬ k < l by omega), if_pos q, e10]
      · rw [if_neg (show ¬ l < k by omega), if_pos (show k < l by omega), if_neg q, e10]
    rw [s_96_59, e30, hc]
    simp (disch := omega) only [o40 hd, o70 hd, true_and, nI_le', a1, a2, t_ki, m_parts (o70 hd) (show i < 7 by omega) (show j < 7 by omega) (show k < 7 by omega) (show l < 7 by omega), ← hχ, zb_0, s_96_160, nI_1, m_22 (show i < 7 by omega) (show j < 7 by omega), m_22 (show k < 7 by omega) (show l < 7 by omega), h4]
    rw [if_neg (by omega)]
    have hcd : cnd χ n E i j k l = (crn χ n E i j 1 k && (crn χ n E i j (-1) l && pparts χ i j k l)) := rfl
    by_cases c1 : crn χ n E i j 1 k = true
    · by_cases c2 : crn χ n E i j (-1) l = true
      · by_cases c3 : pparts χ i j k l = true
        · have ct : cnd χ n E i j k l = true := by rw [hcd, c1, c2, c3]; rfl
          have ne : k ≠ l := fun z => by
            subst z
            have q1 := (crn_iff.mp c1).1
            have q2 := (crn_iff.mp c2).1
            rw [q1] at q2
            exact absurd q2 (by decide)
          rw [if_neg (by simp [c1]), if_neg (by simp [c2]), if_neg (by simp [c3]), if_pos ct, ea ne]
          rfl
        · rw [if_neg (by simp [c1]), if_neg (by simp [c2]), if_pos (by simpa using c3), if_neg (by rw [hcd]; simp [c3])]
      · rw [if_neg (by simp [c1]), if_pos (by simpa using c2), if_neg (by rw [hcd]; simp [c2])]
    · rw [if_pos (by simpa using c1), if_neg (by rw [hcd]; simp [c1])]
  have inn : ∀ k, k < n → ∀ m l, l + m = n → AX 5 96 59 [.ref 0, .int (nI d), .int (nI i), .int (nI j), .ref (40 + d), .int (nI k), .int (nI l)] [] h Q = (if k = k0 ∧ l ≤ l0 ∧ l0 < n ∧ cnd χ n E i j k0 l0 = true then Q (RI (fan k0 l0)) (t_I h (40 + d) 4 (fT E i j k0 l0)) else AX 5 96 43 [.ref 0, .int (nI d), .int (nI i), .int (nI j), .ref (40 + d), .int (nI (k + 1)), .int (nI n)] [] h Q) := by
    intro k hk m
    induction m with
    | zero =>
      intro l hl
      have : l = n := by omega
      subst this
      rw [s_96_59, e30, hc, if_pos (Int32.le_refl _), if_neg (by omega), nI_1]
      simp only [o40 hd, o70 hd, true_and]
    | succ m ih =>
      intro l hl
      rw [step k l hk (by omega)]
      by_cases c : cnd χ n E i j k l = true
      · obtain ⟨rfl, rfl⟩ := un k l hk (by omega) c
        rw [if_pos c, if_pos ⟨rfl, by omega, by omega, c⟩]
      · rw [if_neg c, ih (l + 1) (by omega)]
        by_cases e : k = k0 ∧ l + 1 ≤ l0 ∧ l0 < n ∧ cnd χ n E i j k0 l0 = true
        · rw [if_pos e, if_pos ⟨e.1, by omega, e.2.2⟩]
        · rw [if_neg e, if_neg]
          rintro ⟨e1, e2, e3, e4⟩
          by_cases ll : l = l0
          · exact c (by rw [e1, ll]; exact e4)
          · exact e ⟨e1, by omega, e3, e4⟩
  have out : ∀ m k, k + m = n → ∀ w, AX 5 96 43 [.ref 0, .int (nI d), .int (nI i), .int (nI j), .ref (40 + d), .int (nI k), w] [] h Q = (if k ≤ k0 ∧ k0 < n ∧ l0 < n ∧ cnd χ n E i j k0 l0 = true then Q (RI (fan k0 l0)) (t_I h (40 + d) 4 (fT E i j k0 l0)) else Q (.inr 1) (t_X h)) := by
    intro m
    induction m with
    | zero =>
      intro k hk w
      have : k = n := by omega
      subst this
      rw [s_96_43, e30, hc, if_pos (Int32.le_refl _), if_neg (by omega)]
      simp only [o40 hd, o70 hd, true_and]
    | succ m ih =>
      intro k hk w
      rw [s_96_43, e30, hc]
      simp (disch := omega) only [o40 hd, o70 hd, true_and, nI_le']
      rw [if_neg (by omega), show (0 : Int32) = nI 0 from rfl, inn k (by omega) n 0 (by omega), ih (k + 1) (by omega)]
      by_cases e : k = k0 ∧ 0 ≤ l0 ∧ l0 < n ∧ cnd χ n E i j k0 l0 = true
      · rw [if_pos e, if_pos ⟨by omega, by omega, e.2.2⟩]
      · rw [if_neg e]
        by_cases e2 : k + 1 ≤ k0 ∧ k0 < n ∧ l0 < n ∧ cnd χ n E i j k0 l0 = true
        · rw [if_pos e2, if_pos ⟨by omega, e2.2⟩]
        · rw [if_neg e2, if_neg]
          rintro ⟨e3, e4, e5, e6⟩
          by_cases kk : k = k0
          · exact e ⟨kk, by omega, e5, e6⟩
          · exact e2 ⟨by omega, e4, e5, e6⟩
  rw [out n 0 (by omega)]
  by_cases e : k0 < n ∧ l0 < n ∧ cnd χ n E i j k0 l0 = true
  · rw [if_pos e, if_pos ⟨by omega, e⟩]
  · rw [if_neg e, if_neg (fun z => e z.2)]
theorem c96 {h : tH} {D d n i j : Nat} {b : Bool} (hd : h.1 0 3 = nI D) (hD : D ≤ 6) (hdD : d < D) (t : tn h (70 + d) n) (h5 : h.1 (40 + d) 5 = zb b) (hi : i < n) (hj : j < n) (Q : tO → tH → Prop) : AM 96 [.ref 0, .int (nI d), .int (nI i), .int (nI j)] h Q = (if (b && (!decide (i = j) && bt (h.1 (40 + d) 4) (sx i j))) = true then AX 5 96 43 [.ref 0, .int (nI d), .int (nI i), .int (nI j), .ref (40 + d), .int (nI 0), .float 0] [] h Q else Q (.inr 1) (t_X h)) := by
  have hd6 : d < 6 := by omega
  have h7 := t.2.2
  have p1 : pI (nI i) n = true := by rw [pI_nI (by omega) (by omega)]; simpa using hi
  have p2 : pI (nI j) n = true := by rw [pI_nI (by omega) (by omega)]; simpa using hj
  rw [am_96, s_96_0, c75 hd hD hdD]
  simp only [t_ob_0', true_and, t_kq_r, va_rf_s, s_96_5, c76f hd6 t, p1, p2, if_true, o40 hd6, m_10 hd6 h5 (show i < 7 by omega) (show j < 7 by omega), t_ki, zb_0]
  by_cases e : (b && (!decide (i = j) && bt (h.1 (40 + d) 4) (sx i j))) = true
  · rw [if_pos (by simp [e]), if_pos e]
    rfl
  · rw [if_neg (by simpa using e), if_neg e]
theorem c96x {h : tH} {D : Nat} {x a c : Int32} (hd : h.1 0 3 = nI D) (hD : D ≤ 6) (hh : pI x D = false ∨ ∃ d n, x = nI d ∧ d < D ∧ tn h (70 + d) n ∧ (pI a n && pI c n) = false) : rn 96 [.ref 0, .int x, .int a, .int c] h (.inr 2) (t_X h) := by
  intro Q
  rcases hh with h1 | ⟨d, n, rfl, hdD, t, hh⟩
  · rw [am_96, s_96_0, c75x hd hD h1]
    simp only [t_ob_0', true_and, t_kq_E]
  · have hd6 : d < 6 := by omega
    rw [am_96, s_96_0, c75 hd hD hdD]
    simp only [t_ob_0', true_and, t_kq_r, va_rf_s, s_96_5, c76f hd6 t]
    by_cases k1 : pI a n = true
    · have k2 : pI c n = false := by simpa [k1] using hh
      rw [if_pos k1, if_neg (by simp [k2])]
    · rw [if_neg k1]
/-! the model -/
/-- the cells of the edges -/
def ED (g : tH) (d n : Nat) (E : Int32) : Prop := ∀ i j, i < n → j < n → g.1 25 (49 * d + 7 * i + j) = zb (!decide (i = j) && bt E (sx i j))
theorem n166 {g : tH} {d n i j : Nat} {s : Int32} {E : Int32} {χ : tC} (hd : d < 6) (ht : ty g d n) (hχ : tY g d = χ) (he : ED g d n E) (hi : i < n) (hj : j < n) (Q : tO → tH → Prop) : AM 166 [.ref 13, .int (nI d), .int (nI i), .int (nI j), .int s] g Q = Q (RI (pF (crn χ n E i j s) 0 n)) g := by
  obtain ⟨-, hc, h7⟩ := id ht
  have l := lpF (β := Value) (L := fun k w => AX 3 166 3 [.ref 13, .int (nI d), .int (nI i), .int (nI j), .int s, .int (nI k), w] [] g Q) (E := fun x => Q (RI x) g) (f := crn χ n E i j s) (n := n)
    (fun w => by
      rw [s_166_3, nC (by omega), hc, if_pos (Int32.le_refl _)]
      simp (disch := omega) only [t_ob_13, true_and, vI])
    (fun k w A hk hA => by
      rw [s_166_3, nC (by omega), hc]
      simp (disch := omega) only [t_ob_13, true_and, vI, nI_le', n104 (show d < 7 by omega) (show i < 7 by omega) (show j < 7 by omega) (show k < 7 by omega), hχ, t_ki, n162 hd (show i < 7 by omega) (show k < 7 by omega) (he i k hi hk), n162 hd (show j < 7 by omega) (show k < 7 by omega) (he j k hj hk), zb_0, s_166_54, s_166_55, s_166_77, n146 ht hi hj hk, qnone_p, nI_1, hA, if_true]
      rw [if_neg (by omega)]
      unfold crn
      by_cases c1 : χ i j k = s
      · cases c2 : (!decide (i = k) && bt E (sx i k)) with
        | false => simp [c1]
        | true =>
          cases c3 : (!decide (j = k) && bt E (sx j k)) with
          | false => simp [c1]
          | true => cases c4 : pnone χ n i j k <;> simp [c1]
      · simp [c1])
  rw [am_166, s_166_0]
  exact l n 0 (by omega) (.float 0)
theorem n167 {g : tH} {d n i j : Nat} {b : Bool} {E : Int32} {χ : tC} (hd : d < 6) (ht : ty g d n) (hχ : tY g d = χ) (hb : g.1 24 d = zb b) (hi : i < n) (hj : j < n) (he : b = true → ED g d n E) (Q : tO → tH → Prop) : AM 167 [.ref 13, .int (nI d), .int (nI i), .int (nI j)] g Q =
    (if (b && (!decide (i = j) && bt E (sx i j))) = true then (if pF (crn χ n E i j 1) 0 n = -1 then Q (RI 0) g else if pF (crn χ n E i j (-1)) 0 n = -1 then Q (RI 0) g else AM 142 [.ref 13, .int (nI d), .int (pF (crn χ n E i j 1) 0 n), .int (pF (crn χ n E i j (-1)) 0 n), .int (nI i), .int (nI j)] g (t_ki (fun a h => Q (RI (if a = 0 then 0 else 1)) h) Q)) else Q (RI 0) g) := by
  have h7 := ht.2.2
  rw [am_167, s_167_0, nC (by omega), hb]
  simp (disch := omega) only [t_ob_13, true_and, vI, zb_0, s_167_19]
  cases b with
  | false => simp
  | true =>
    have e := he rfl
    rw [if_neg (by decide)]
    simp only [n162 hd (show i < 7 by omega) (show j < 7 by omega) (e i j hi hj), t_ki, n166 (s := 1) hd ht hχ e hi hj, n166 (s := -1) hd ht hχ e hi hj, zb_0, s_167_71, s_167_72, Bool.true_and, true_or, or_true, true_and]
    by_cases q : (!decide (i = j) && bt E (sx i j)) = true
    · rw [if_pos (by simp [q]), if_pos q]
      by_cases q1 : pF (crn χ n E i j 1) 0 n = -1
      · rw [if_pos q1, if_pos q1]
      · rw [if_neg q1, if_neg q1]
        by_cases q2 : pF (crn χ n E i j (-1)) 0 n = -1
        · rw [if_pos q2, if_pos q2]
        · rw [if_neg q2, if_neg q2]
          congr 2
          funext a h
          by_cases z : a = 0
          · rw [if_pos z, if_pos z]
          · rw [if_neg z, if_neg z]
    · rw [if_neg (by simpa using q), if_neg q]
theorem n168x {g : tH} {D : Nat} {x a c : Int32} (hd : g.1 13 8 = nI D) (hD : D ≤ 6) (hh : pI x D = false ∨ ∃ d n, x = nI d ∧ d < D ∧ ty g d n ∧ (pI a n && pI c n) = false) : rn 168 [.ref 13, .int x, .int a, .int c] g (RI 0) (t_I g 13 0 1) := by
  intro Q
  have z1 : ¬ (t_I g 13 0 1).1 13 0 ≤ 0 := by rw [t_13_0]; decide
  rcases hh with h1 | ⟨d, n, rfl, hdD, ht, hh⟩
  · rw [am_168, s_168_0, n101 hd (by omega), h1]
    simp only [t_ob_13, true_and, t_ki, zb_0, if_true, s_168_30, s_168_31, not_true_eq_false, if_false, s_168_58]
    rw [if_neg z1]
  · have hx : pI (nI d) D = true := by rw [pI_nI (by omega) (by omega)]; simpa using hdD
    rw [am_168, s_168_0, n101 hd (by omega), hx]
    simp only [t_ob_13, true_and, t_ki, zb_0, Bool.true_eq_false, if_false, n102 ht, s_168_30, s_168_31, not_true_eq_false, s_168_58]
    by_cases k1 : pI a n = true
    · have k2 : pI c n = false := by simpa [k1] using hh
      rw [if_neg (by simp [k1]), if_pos k2, if_neg z1]
    · rw [if_pos (pI_x k1), if_neg z1]
/-- the model asks first whether it can be -/
theorem n168 {g : tH} {D d n i j : Nat} {c : Bool} (hd : g.1 13 8 = nI D) (hD : D ≤ 6) (hdD : d < D) (ht : ty g d n) (hi : i < n) (hj : j < n) (hc : rn 167 [.ref 13, .int (nI d), .int (nI i), .int (nI j)] g (RI (zb c)) g) (Q : tO → tH → Prop) : AM 168 [.ref 13, .int (nI d), .int (nI i), .int (nI j)] g Q = (if c = true then AX 5 168 58 [.ref 13, .int (nI d), .int (nI i), .int (nI j), .int 1, .float 0, .float 0] [.int 0, .ref 13] g Q else Q (RI 0) (t_I g 13 0 2)) := by
  have h7 := ht.2.2
  have hx : pI (nI d) D = true := by rw [pI_nI (by omega) (by omega)]; simpa using hdD
  have p1 : pI (nI i) n = true := by rw [pI_nI (by omega) (by omega)]; simpa using hi
  have p2 : pI (nI j) n = true := by rw [pI_nI (by omega) (by omega)]; simpa using hj
  have hc' : ∀ f, AM 167 [.ref 13, .int (nI d), .int (nI i), .int (nI j)] g (t_ki f Q) = f (zb c) g := fun f => by rw [hc]; rfl
  rw [am_168, s_168_0, n101 hd (by omega), hx]
  simp only [t_ob_13, true_and, t_ki, zb_0, Bool.true_eq_false, if_false, n102 ht, p1, p2, s_168_31]
  rw [if_pos (show ¬ (1 : Int32) = 0 by decide), hc']
  cases c with
  | true => rw [if_pos (show ¬ zb true = 0 by decide), if_pos rfl]
  | false =>
    rw [if_neg (show ¬ ¬ zb false = 0 by decide), if_neg (by decide), s_168_58, if_neg (show ¬ (t_I g 13 0 2).1 13 0 ≤ 0 by rw [t_13_0]; decide)]
    simp only [t_ob_13, true_and]
