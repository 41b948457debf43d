/-! ===== draw: the class's side and the model's ===== -/
theorem m_37 {h : tH} {r s : Nat} (ho : t_ob r = some 6) (hs : h.1 1 2 = nI s) (h7 : s ≤ 7) (Q : tO → tH → Prop) : AM 37 [.ref 1, .ref r] h Q = Q (.inl none) (hT (t_I h r 1 (nI s)) (r + 10) (f3 (shF h) s (h.1 (r + 10)))) := by
  have r1 : r ≠ 1 := fun z => by rw [z] at ho; cases ho
  have r2 : r ≠ 2 := fun z => by rw [z] at ho; cases ho
  have r3 : r ≠ 3 := fun z => by rw [z] at ho; cases ho
  obtain ⟨g, hg⟩ : ∃ g, g = t_I h r 1 (nI s) := ⟨_, rfl⟩
  have c1 : ∀ T, (hT g (r + 10) T).1 1 2 = nI s := fun T => by rw [hT_o (by omega), hg, t_I_o (by omega), hs]
  have c2 : ∀ T p, (hT g (r + 10) T).1 2 p = h.1 2 p := fun T p => by rw [hT_o (by omega), hg, t_I_o (by omega)]
  have c3 : ∀ T p, (hT g (r + 10) T).1 3 p = h.1 3 p := fun T p => by rw [hT_o (by omega), hg, t_I_o (by omega)]
  have g10 : g.1 (r + 10) = h.1 (r + 10) := by rw [hg]; exact t_I_ne (by omega)
  have l := lt3 (α := Nat → Int32) (β := Value × Value) (γ := Value) (δ := Unit) (n := s)
    (L1 := fun i T w => AX 4 37 10 [.ref 1, .ref r, .int (nI i), w.1, w.2] [] (hT g (r + 10) T) Q)
    (L2 := fun i j T w => AX 4 37 22 [.ref 1, .ref r, .int (nI i), .int (nI j), w] [] (hT g (r + 10) T) Q)
    (L3 := fun i j k T _ => AX 4 37 35 [.ref 1, .ref r, .int (nI i), .int (nI j), .int (nI k)] [] (hT g (r + 10) T) Q)
    (E := fun T => Q (.inl none) (hT g (r + 10) T)) (f := fun i j k T => pT T i j k (shF h i j k))
    (fun T w => by
      rw [s_37_10, c1, if_pos (Int32.le_refl _)]
      simp only [t_ob_1, true_and])
    (fun i T w hi => ⟨w.2, by
      rw [s_37_10, c1]
      simp (disch := omega) only [t_ob_1, true_and, nI_le', nI_1]
      rw [if_neg (by omega)]⟩)
    (fun i T w hi => ⟨(.int (nI s), w), by
      rw [s_37_22, c1, if_pos (Int32.le_refl _)]
      simp only [t_ob_1, true_and, nI_1]⟩)
    (fun i j T w hij hj => ⟨(), by
      rw [s_37_22, c1]
      simp (disch := omega) only [t_ob_1, true_and, nI_le', nI_1]
      rw [if_neg (by omega)]⟩)
    (fun i j T w hij hj => ⟨.int (nI s), by
      rw [s_37_35, c1, if_pos (Int32.le_refl _)]
      simp only [t_ob_1, true_and, nI_1]⟩)
    (fun i j k T w hij hjk hk => ⟨(), by
      rw [s_37_35, c1]
      simp (disch := omega) only [t_ob_1, true_and, nI_le', nI_1, m_36 (show i < 7 by omega) (show j < 7 by omega) (show k < 7 by omega), t_ki, t_kv, ho, m_put ho (show i < 7 by omega) (show j < 7 by omega) (show k < 7 by omega), hT_put, c2, c3]
      rw [if_neg (by omega)]
      rfl⟩)
  have l0 := l (h.1 (r + 10)) (.float 0, .float 0)
  rw [← g10, hT_r] at l0
  rw [am_37, s_37_0, hs, ← hg]
  simp only [t_ob_1, ho, true_and]
  rw [g10] at l0
  exact l0
/-- with numbers for the first k points of a drawing -/
def hG (X Y : Nat → Int32) (h : tH) (d k : Nat) : tH := (fun a b => if a = 50 + d ∧ b < k then X b else if a = 60 + d ∧ b < k then Y b else h.1 a b, h.2)
theorem hG_0 {X Y : Nat → Int32} {h : tH} {d : Nat} : hG X Y h d 0 = h := by
  obtain ⟨f, t⟩ := h
  refine Prod.ext ?_ rfl
  funext a b
  show (if a = 50 + d ∧ b < 0 then X b else if a = 60 + d ∧ b < 0 then Y b else f a b) = f a b
  rw [if_neg (by omega), if_neg (by omega)]
theorem hG_s {X Y : Nat → Int32} {h : tH} {d k : Nat} : t_I (t_I (hG X Y h d k) (50 + d) k (X k)) (60 + d) k (Y k) = hG X Y h d (k + 1) := by
  refine Prod.ext ?_ rfl
  funext a b
  show (if a = 60 + d ∧ b = k then Y k else if a = 50 + d ∧ b = k then X k else if a = 50 + d ∧ b < k then X b else if a = 60 + d ∧ b < k then Y b else h.1 a b) = (if a = 50 + d ∧ b < k + 1 then X b else if a = 60 + d ∧ b < k + 1 then Y b else h.1 a b)
  by_cases e1 : a = 60 + d
  · subst e1
    rw [if_neg (show ¬ (60 + d = 50 + d ∧ b < k + 1) by omega)]
    by_cases e2 : b = k
    · rw [if_pos ⟨rfl, e2⟩, if_pos ⟨rfl, by omega⟩, e2]
    · rw [if_neg (by omega), if_neg (by omega), if_neg (by omega)]
      by_cases e3 : b < k
      · rw [if_pos ⟨rfl, e3⟩, if_pos ⟨rfl, by omega⟩]
      · rw [if_neg (by omega), if_neg (by omega)]
  · rw [if_neg (by omega)]
    by_cases e2 : a = 50 + d
    · subst e2
      by_cases e3 : b = k
      · rw [if_pos ⟨rfl, e3⟩, if_pos ⟨rfl, by omega⟩, e3]
      · rw [if_neg (by omega)]
        by_cases e4 : b < k
        · rw [if_pos ⟨rfl, e4⟩, if_pos ⟨rfl, by omega⟩]
        · rw [if_neg (by omega), if_neg (by omega), if_neg (by omega), if_neg (by omega)]
    · rw [if_neg (by omega), if_neg (by omega), if_neg (by omega), if_neg (by omega), if_neg (by omega)]
theorem hG_o {X Y : Nat → Int32} {h : tH} {d k a b : Nat} (e : ¬ (a = 50 + d ∨ a = 60 + d)) : (hG X Y h d k).1 a b = h.1 a b := by
  show (if a = 50 + d ∧ b < k then X b else if a = 60 + d ∧ b < k then Y b else h.1 a b) = _
  rw [if_neg (by omega), if_neg (by omega)]
theorem m_9 {h : tH} {d n : Nat} {X Y : Nat → Int32} (hd : d < 6) (ht : tn h (70 + d) n) (hX : ∀ p, p < n → h.1 2 p = X p) (hY : ∀ p, p < n → h.1 3 p = Y p) (Q : tO → tH → Prop) : AM 9 [.ref (40 + d), .ref 1] h Q = Q (.inl none) (t_I (hG X Y h d n) (40 + d) 3 1) := by
  obtain ⟨ho, hc, h7⟩ := ht
  have loop : ∀ m k, k + m = n → AX 2 9 2 [.ref (40 + d), .ref 1, .int (nI k)] [] (hG X Y h d k) Q = Q (.inl none) (t_I (hG X Y h d n) (40 + d) 3 1) := by
    intro m
    induction m with
    | zero =>
      intro k hk
      have : k = n := by omega
      subst this
      rw [s_9_2, e30, hG_o (by omega), hc, if_pos (Int32.le_refl _)]
      simp only [o40 hd, ho, true_and, or_true]
    | succ m ih =>
      intro k hk
      have hk7 : k < 7 := by omega
      have q1 : (hG X Y h d k).1 2 k = X k := by rw [hG_o (by omega), hX k (by omega)]
      have q2 : (t_I (hG X Y h d k) (50 + d) k (X k)).1 3 k = Y k := by rw [t_I_o (by omega), hG_o (by omega), hY k (by omega)]
      rw [s_9_2, e30, hG_o (by omega), hc]
      simp (disch := omega) only [o40 hd, ho, true_and, nI_le', t_ob_1, m_33 hk7, m_34 hk7, t_ki, t_kv, e10, e20, m_set (a50 hd), m_set (a60 hd), zs_n hk7 (show 7 < 5000 by decide), q1, q2, hG_s, nI_1, ih]
      rw [if_neg (by omega)]
  rw [am_9, s_9_0, ← hG_0 (X := X) (Y := Y) (h := h) (d := d)]
  have := loop n 0 (by omega)
  rw [show (0 : Int32) = nI 0 from rfl, this, hG_0]
theorem m_77 {h : tH} {D : Nat} (hd : h.1 0 3 = nI D) (hD : D < 6) (Q : tO → tH → Prop) : AM 77 [.ref 0] h Q = Q (.inl (some (.ref (40 + D)))) h := by
  have h6 : (Int32.ofNat 6 ≤ nI D) = (6 ≤ D) := nI_le' (a := 6) (b := D) (by omega) (by omega)
  rw [am_77, s_77_0, hd]
  simp (disch := omega) only [t_ob_0', true_and, am_74, s_74_0, nC, vI, s_74_23, s_77_8, t_kq_r, va_rf_s]
  rw [if_neg (nI_pos (by omega)), if_neg (by rw [h6]; omega)]
theorem m_77x {h : tH} (hd : h.1 0 3 = nI 6) (Q : tO → tH → Prop) : AM 77 [.ref 0] h Q = Q (.inr 1) (t_X h) := by
  rw [am_77, s_77_0, hd]
  simp only [t_ob_0', true_and, am_74, s_74_0, s_74_22, s_74_23n, s_77_8n, t_kq_n, va_rf_n]
  rw [if_neg (nI_pos (by omega)), if_pos (show Int32.ofNat 6 ≤ nI 6 from Int32.le_refl _)]
theorem nI_s1 (a : Nat) : nI (a + 1) - 1 = nI a := by rw [← nI_1]; exact Int32.add_sub_cancel _ _
theorem m_78 {h : tH} {D : Nat} (hd : h.1 0 3 = nI D) (Q : tO → tH → Prop) : AM 78 [.ref 0] h Q = Q (RI (nI D)) (t_I h 0 3 (nI (D + 1))) := by
  rw [am_78, s_78_0, hd]
  simp only [t_ob_0', true_and, nI_1]
  rw [show (t_I h 0 3 (nI (D + 1))).1 0 3 = nI (D + 1) from rfl, nI_s1]
/-- what the class's draw leaves -/
def dA (h : tH) (D s : Nat) (T : Nat → Int32) : tH := t_I (t_I (t_I (hG (h.1 2) (h.1 3) (hT (t_I h (70 + D) 1 (nI s)) (80 + D) T) D s) (40 + D) 3 1) 1 2 0) 0 3 (nI (D + 1))
theorem c68 {h : tH} {D s : Nat} (hd : h.1 0 3 = nI D) (hD : D < 6) (hs : h.1 1 2 = nI s) (h3 : 3 ≤ s) (h7 : s ≤ 7) : rn 68 [.ref 0] h (RI (nI D)) (dA h D s (f3 (shF h) s (h.1 (80 + D)))) := by
  intro Q
  have e3 : ((3 : Int32) ≤ nI s) = (3 ≤ s) := nI_le' (a := 3) (b := s) (by omega) (by omega)
  have ho := o70 hD
  have e80 : 70 + D + 10 = 80 + D := by omega
  obtain ⟨g, hg⟩ : ∃ g, g = hT (t_I h (70 + D) 1 (nI s)) (80 + D) (f3 (shF h) s (h.1 (80 + D))) := ⟨_, rfl⟩
  have tg : tn g (70 + D) s := ⟨ho, by rw [hg, hT_o (by omega), t_I_at, if_pos ⟨rfl, rfl⟩], h7⟩
  have g2 : ∀ p, p < s → g.1 2 p = h.1 2 p := fun p _ => by rw [hg, hT_o (by omega), t_I_o (by omega)]
  have g3 : ∀ p, p < s → g.1 3 p = h.1 3 p := fun p _ => by rw [hg, hT_o (by omega), t_I_o (by omega)]
  have g0 : (t_I (t_I (hG (h.1 2) (h.1 3) g D s) (40 + D) 3 1) 1 2 0).1 0 3 = nI D := by
    rw [t_I_o (by decide), t_I_o (by omega), hG_o (by omega), hg, hT_o (by omega), t_I_o (by omega), hd]
  rw [am_68, s_68_0, hs]
  simp only [t_ob_0', true_and, m_77 hd hD, t_kq_r, va_rf_s, s_68_25, o40 hD, e30, m_37 ho hs h7, e80, ← hg, t_kv, m_9 hD tg g2 g3, m_78 g0, t_ki]
  rw [if_pos (by rw [e3]; exact h3)]
  rw [hg]
  rfl
theorem c68x {h : tH} {D s : Nat} (hd : h.1 0 3 = nI D) (hD : D ≤ 6) (hs : h.1 1 2 = nI s) (h7 : s ≤ 7) (hx : s < 3 ∨ D = 6) : rn 68 [.ref 0] h (.inr 1) (t_X h) := by
  intro Q
  have e3 : ((3 : Int32) ≤ nI s) = (3 ≤ s) := nI_le' (a := 3) (b := s) (by omega) (by omega)
  rw [am_68, s_68_0, hs]
  simp only [t_ob_0', true_and]
  by_cases h3 : s < 3
  · rw [if_neg (by rw [e3]; omega)]
  · rw [if_pos (by rw [e3]; omega)]
    have : D = 6 := by omega
    subst this
    simp only [m_77x hd, t_kq_E]
/-! the model -/
theorem n7 (d k : Nat) : (7 : Int32) * nI d + nI k = nI (7 * d + k) := by
  rw [Int32.mul_comm 7, show (7 : Int32) = nI 7 from rfl, pk_mul, nI_add, Nat.mul_comm]
theorem n343 (d k : Nat) : (343 : Int32) * nI d + nI k = nI (343 * d + k) := by
  rw [Int32.mul_comm 343, show (343 : Int32) = nI 343 from rfl, pk_mul, nI_add, Nat.mul_comm]
theorem n49 (d k : Nat) : (49 : Int32) * nI d + nI k = nI (49 * d + k) := by
  rw [Int32.mul_comm 49, show (49 : Int32) = nI 49 from rfl, pk_mul, nI_add, Nat.mul_comm]
theorem hU_ext {h : tH} {d : Nat} {T T' : Nat → Int32} (e : ∀ c, c < 343 → T c = T' c) : hU h d T = hU h d T' := by
  refine Prod.ext ?_ rfl
  funext a b
  show (if a = 20 ∧ 343 * d ≤ b ∧ b < 343 * d + 343 then T (b - 343 * d) else h.1 a b) = (if a = 20 ∧ 343 * d ≤ b ∧ b < 343 * d + 343 then T' (b - 343 * d) else h.1 a b)
  by_cases f : a = 20 ∧ 343 * d ≤ b ∧ b < 343 * d + 343
  · rw [if_pos f, if_pos f, e _ (by omega)]
  · rw [if_neg f, if_neg f]
theorem fd_upd {F : Nat → Int32} {T : Nat → Int32} : ∀ m c, c < m → fd (fun k T => upd T k (F k)) 0 m T c = F c := by
  intro m
  induction m with
  | zero => intro c h; omega
  | succ m ih =>
    intro c hc
    rw [fd_last, Nat.zero_add]
    show (if c = m then F m else _) = F c
    by_cases e : c = m
    · rw [if_pos e, e]
    · rw [if_neg e]; exact ih c (by omega)
/-- what the model's adding of a drawing leaves, but for the signs -/
def mA (h : tH) (D n : Nat) : tH := t_I (t_I (t_I h 19 D (nI n)) 21 D 0) 24 D 0
/-- with numbers for the first k points in the model -/
def hN (X Y : Nat → Int32) (h : tH) (d k : Nat) : tH := (fun a b => if a = 22 ∧ 7 * d ≤ b ∧ b < 7 * d + k then X (b - 7 * d) else if a = 23 ∧ 7 * d ≤ b ∧ b < 7 * d + k then Y (b - 7 * d) else h.1 a b, h.2)
theorem hN_0 {X Y : Nat → Int32} {h : tH} {d : Nat} : hN X Y h d 0 = h := by
  obtain ⟨f, t⟩ := h
  refine Prod.ext ?_ rfl
  funext a b
  show (if a = 22 ∧ 7 * d ≤ b ∧ b < 7 * d + 0 then X (b - 7 * d) else if a = 23 ∧ 7 * d ≤ b ∧ b < 7 * d + 0 then Y (b - 7 * d) else f a b) = f a b
  rw [if_neg (by omega), if_neg (by omega)]
theorem hN_s {X Y : Nat → Int32} {h : tH} {d k : Nat} : t_I (t_I (hN X Y h d k) 22 (7 * d + k) (X k)) 23 (7 * d + k) (Y k) = hN X Y h d (k + 1) := by
  refine Prod.ext ?_ rfl
  funext a b
  show (if a = 23 ∧ b = 7 * d + k then Y k else if a = 22 ∧ b = 7 * d + k then X k else if a = 22 ∧ 7 * d ≤ b ∧ b < 7 * d + k then X (b - 7 * d) else if a = 23 ∧ 7 * d ≤ b ∧ b < 7 * d + k then Y (b - 7 * d) else h.1 a b) = (if a = 22 ∧ 7 * d ≤ b ∧ b < 7 * d + (k + 1) then X (b - 7 * d) else if a = 23 ∧ 7 * d ≤ b ∧ b < 7 * d + (k + 1) then Y (b - 7 * d) else h.1 a b)
  by_cases e0 : b = 7 * d + k
  · have e5 : b - 7 * d = k := by omega
    by_cases e1 : a = 23
    · rw [if_pos ⟨e1, e0⟩, if_neg (by omega), if_pos (by omega), e5]
    · by_cases e2 : a = 22
      · rw [if_neg (by omega), if_pos ⟨e2, e0⟩, if_pos (by omega), e5]
      · rw [if_neg (by omega), if_neg (by omega), if_neg (by omega), if_neg (by omega), if_neg (by omega), if_neg (by omega)]
  · rw [if_neg (by omega), if_neg (by omega)]
    by_cases e1 : a = 22 ∧ 7 * d ≤ b ∧ b < 7 * d + k
    · rw [if_pos e1, if_pos (by omega)]
    · rw [if_neg e1, if_neg (show ¬ (a = 22 ∧ 7 * d ≤ b ∧ b < 7 * d + (k + 1)) by omega)]
      by_cases e2 : a = 23 ∧ 7 * d ≤ b ∧ b < 7 * d + k
      · rw [if_pos e2, if_pos (by omega)]
      · rw [if_neg e2, if_neg (by omega)]
theorem hN_o {X Y : Nat → Int32} {h : tH} {d k a b : Nat} (e : ¬ (a = 22 ∨ a = 23)) : (hN X Y h d k).1 a b = h.1 a b := by
  show (if a = 22 ∧ 7 * d ≤ b ∧ b < 7 * d + k then X (b - 7 * d) else if a = 23 ∧ 7 * d ≤ b ∧ b < 7 * d + k then Y (b - 7 * d) else h.1 a b) = _
  rw [if_neg (by omega), if_neg (by omega)]
