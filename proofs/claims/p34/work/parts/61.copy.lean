/-! ===== copy ===== -/
theorem m_42 {h : tH} {r0 r1 n : Nat} {x : Int32} (ho : t_ob r0 = some 6) (t1 : tn h r1 n) (hr : r0 ≠ r1) (Q : tO → tH → Prop) : AM 42 [.ref r0, .ref r1, .int x] h Q = Q (.inl none) (hT (t_I h r0 1 (nI n)) (r0 + 10) (f3 (fun i j k => x * tX h r1 i j k) n (h.1 (r0 + 10)))) := by
  obtain ⟨ho1, hc, h7⟩ := t1
  have b : ∀ r, t_ob r = some 6 → 70 ≤ r ∧ r < 77 := by
    intro r hr
    have h87 : r < 87 := Nat.lt_of_not_le fun q => by rw [t_ob_big q] at hr; cases hr
    have hh : ∀ r, r < 87 → t_ob r = some 6 → 70 ≤ r ∧ r < 77 := by decide +kernel
    exact hh r h87 hr
  have b0 := b r0 ho
  have b1 := b r1 ho1
  obtain ⟨g, hg⟩ : ∃ g, g = t_I h r0 1 (nI n) := ⟨_, rfl⟩
  have c1 : ∀ T, (hT g (r0 + 10) T).1 r0 1 = nI n := fun T => by rw [hT_o (by omega), hg, t_I_at, if_pos ⟨rfl, rfl⟩]
  have cX : ∀ T, tX (hT g (r0 + 10) T) r1 = tX h r1 := fun T => tX_o fun c _ => by rw [hT_o (by omega), hg, t_I_o (by omega)]
  have g10 : g.1 (r0 + 10) = h.1 (r0 + 10) := by rw [hg]; exact t_I_ne (by omega)
  have l := lt3 (α := Nat → Int32) (β := Value × Value) (γ := Value) (δ := Unit) (n := n)
    (L1 := fun i T w => AX 2 42 10 [.ref r0, .ref r1, .int x, .int (nI i), w.1, w.2] [] (hT g (r0 + 10) T) Q)
    (L2 := fun i j T w => AX 2 42 23 [.ref r0, .ref r1, .int x, .int (nI i), .int (nI j), w] [] (hT g (r0 + 10) T) Q)
    (L3 := fun i j k T _ => AX 2 42 38 [.ref r0, .ref r1, .int x, .int (nI i), .int (nI j), .int (nI k)] [] (hT g (r0 + 10) T) Q)
    (E := fun T => Q (.inl none) (hT g (r0 + 10) T)) (f := fun i j k T => pT T i j k (x * tX h r1 i j k))
    (fun T w => by
      rw [s_42_10, c1, if_pos (Int32.le_refl _)]
      simp only [ho, true_and])
    (fun i T w hi => ⟨w.2, by
      rw [s_42_10, c1]
      simp (disch := omega) only [ho, true_and, nI_le', nI_1]
      rw [if_neg (by omega)]⟩)
    (fun i T w hi => ⟨(.int (nI n), w), by
      rw [s_42_23, c1, if_pos (Int32.le_refl _)]
      simp only [ho, true_and, nI_1]⟩)
    (fun i j T w hij hj => ⟨(), by
      rw [s_42_23, c1]
      simp (disch := omega) only [ho, true_and, nI_le', nI_1]
      rw [if_neg (by omega)]⟩)
    (fun i j T w hij hj => ⟨.int (nI n), by
      rw [s_42_38, c1, if_pos (Int32.le_refl _)]
      simp only [ho, true_and, nI_1]⟩)
    (fun i j k T w hij hjk hk => ⟨(), by
      rw [s_42_38, c1]
      simp (disch := omega) only [ho, ho1, true_and, nI_le', nI_1, m_of ho1 (show i < 7 by omega) (show j < 7 by omega) (show k < 7 by omega), t_ki, t_kv, m_put ho (show i < 7 by omega) (show j < 7 by omega) (show k < 7 by omega), hT_put, cX]
      rw [if_neg (by omega)]⟩)
  have l0 := l (h.1 (r0 + 10)) (.float 0, .float 0)
  rw [← g10, hT_r] at l0
  rw [am_42, s_42_0, hc, ← hg]
  simp only [ho, ho1, true_and]
  rw [g10] at l0
  exact l0
theorem c70 {h : tH} {D d n : Nat} {y : Int32} (hd : h.1 0 3 = nI D) (hD : D < 6) (hdD : d < D) (t1 : tn h (70 + d) n) : rn 70 [.ref 0, .int (nI d), .int y] h (RI (nI D)) (t_I (hT (t_I h (70 + D) 1 (nI n)) (80 + D) (f3 (fun i j k => (if y = 0 then (1 : Int32) else -1) * tX h (70 + d) i j k) n (h.1 (80 + D)))) 0 3 (nI (D + 1))) := by
  intro Q
  have e80 : 70 + D + 10 = 80 + D := by omega
  have q := m_42 (h := h) (r0 := 70 + D) (r1 := 70 + d) (x := if y = 0 then (1 : Int32) else -1) (o70 hD) t1 (by omega)
  rw [e80] at q
  obtain ⟨A, hA⟩ : ∃ A, A = hT (t_I h (70 + D) 1 (nI n)) (80 + D) (f3 (fun i j k => (if y = 0 then (1 : Int32) else -1) * tX h (70 + d) i j k) n (h.1 (80 + D))) := ⟨_, rfl⟩
  rw [← hA] at q ⊢
  have g0 : A.1 0 3 = nI D := by rw [hA, hT_o (by omega), t_I_o (by omega), hd]
  rw [am_70, s_70_0, c75 hd (by omega) hdD]
  simp only [t_ob_0', true_and, t_kq_r, va_rf_s, s_70_5, m_77 hd hD, s_70_10, o40 hD, o40 (show d < 6 by omega), e30, o70 hD, q, t_kv, m_78 g0, t_ki]
theorem c70x {h : tH} {D : Nat} {x y : Int32} (hd : h.1 0 3 = nI D) (hD : D ≤ 6) (h1 : pI x D = false) : rn 70 [.ref 0, .int x, .int y] h (.inr 2) (t_X h) := by
  intro Q
  rw [am_70, s_70_0, c75x hd hD h1]
  simp only [t_ob_0', true_and, t_kq_E]
theorem c70y {h : tH} {d : Nat} {y : Int32} (hd : h.1 0 3 = nI 6) (h1 : d < 6) : rn 70 [.ref 0, .int (nI d), .int y] h (.inr 1) (t_X h) := by
  intro Q
  rw [am_70, s_70_0, c75 hd (by omega) h1]
  simp only [t_ob_0', true_and, t_kq_r, va_rf_s, s_70_5, m_77x hd, t_kq_E]
/-- the copied signs -/
def cpT (h : tH) (d : Nat) (y : Int32) : Nat → Int32 := fun c => if y = 0 then h.1 20 (343 * d + c) else -h.1 20 (343 * d + c)
theorem qhold_neg {χ : tC} {n : Nat} (h : qhold χ n = true) : qhold (fun i j k => -χ i j k) n = true := by
  refine qhold_iff.mpr fun a b c d h1 h2 h3 h4 => ?_
  obtain ⟨g1, g2⟩ := qhold_iff.mp h a b c d h1 h2 h3 h4
  refine ⟨?_, fun e he ea eb ec ed => ?_⟩
  · rw [q4_same] at g1 ⊢
    rw [← g1]
    congr 1
    unfold same4
    rw [psame_neg]
    simp only [n_neg]
  · have g := g2 e he ea eb ec ed
    unfold q5 at g ⊢
    simp only [Int32.neg_mul, Int32.mul_neg, Int32.neg_neg]
    exact g
