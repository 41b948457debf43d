/-! ===== fault, wire: the calls ===== -/
theorem c67 {h : tH} {n : Nat} (h3 : 3 ≤ n) (h7 : n ≤ 7) (Q : tO → tH → Prop) : AM 67 [.int (nI n)] h Q = Q (.inl none) h := by
  have e3 : (nI n < (3 : Int32)) = (n < 3) := nI_lt' (a := n) (b := 3) (by omega) (by omega)
  have e7 : (nI n ≤ (7 : Int32)) = (n ≤ 7) := nI_le' (a := n) (b := 7) (by omega) (by omega)
  rw [am_67, s_67_0, if_neg (by rw [e3]; omega), if_pos (by rw [e7]; exact h7)]
theorem c67x {h : tH} {x : Int32} (hx : x < 3 ∨ 7 < x) (Q : tO → tH → Prop) : AM 67 [.int x] h Q = Q (.inr 0) (t_X h) := by
  rw [am_67, s_67_0, s_67_11]
  rcases hx with hx | hx
  · rw [if_pos hx]
  · by_cases h3 : x < 3
    · rw [if_pos h3]
    · rw [if_neg h3, if_neg (Int32.not_le.mpr hx)]
theorem c37 {x : Int32} (hx : ¬ (x < 3 ∨ 7 < x)) : ∃ n, x = nI n ∧ 3 ≤ n ∧ n ≤ 7 ∧ (!decide (x < 3) && !decide (7 < x)) = true := by
  have h3 : ¬ x < 3 := fun z => hx (Or.inl z)
  have h7 : ¬ 7 < x := fun z => hx (Or.inr z)
  have e3 : (3 : Int32).toInt = 3 := by decide
  have e7 : (7 : Int32).toInt = 7 := by decide
  have e0 : (0 : Int32).toInt = 0 := by decide
  have e8 : (nI 8).toInt = 8 := by decide
  rw [Int32.lt_iff_toInt_lt, e3] at h3
  rw [Int32.lt_iff_toInt_lt, e7] at h7
  obtain ⟨n, hn, rfl⟩ : ∃ n, n < 8 ∧ x = nI n := by
    refine (pI_iff (n := 8) (by decide)).mp ?_
    have a : ¬ x < 0 := by rw [Int32.lt_iff_toInt_lt, e0]; omega
    have b : ¬ nI 8 ≤ x := by rw [Int32.le_iff_toInt_le, e8]; omega
    simp [pI, a, b]
  have en : (nI n).toInt = n := nI_toInt (by omega)
  refine ⟨n, rfl, by omega, by omega, ?_⟩
  have a : ¬ nI n < (3 : Int32) := by rw [Int32.lt_iff_toInt_lt, e3]; omega
  have b : ¬ (7 : Int32) < nI n := by rw [Int32.lt_iff_toInt_lt, e7]; omega
  simp [a, b]
/-- the letters of the word -/
theorem WV_l {h : tH} {w : Nat} (v : WV h w) : ∃ l : Nat → Nat, ∀ p, p < w → h.1 5 p = nI (l p) ∧ h.1 16 p = nI (l p) ∧ l p ≤ 5 := by
  obtain ⟨-, -, -, h4⟩ := v
  refine ⟨fun p => (h.1 5 p).toNatClampNeg, fun p hp => ?_⟩
  obtain ⟨e, l, h1, h2⟩ := h4 p hp
  show h.1 5 p = nI (h.1 5 p).toNatClampNeg ∧ h.1 16 p = nI (h.1 5 p).toNatClampNeg ∧ (h.1 5 p).toNatClampNeg ≤ 5
  rw [e, h2, nC (by omega)]
  exact ⟨rfl, rfl, h1⟩
theorem op_fault {h : tH} (hI : IV h) (x : Int32) : opI h 174 [.ref 0, .int x, .ref 32] 119 [.ref 13, .int x] := by
  obtain ⟨D, s, w, h1, h2, h3, hs, hw, ha⟩ := id hI
  by_cases hx : x < 3 ∨ 7 < x
  · refine opI_f hI (k := 1) (by decide) (by decide) (r_174_e0 fun Q => ?_) fun Q => ?_
    · rw [am_66, s_66_0, c67x hx]
      rfl
    · have e : (!decide (x < 3) && !decide (7 < x)) = false := by
        rcases hx with hx | hx <;> simp [hx]
      rw [am_119, s_119_0, n100', e]
      simp only [t_ki, t_ob_13, true_and, s_119_35, zb_f, if_true, t_13_0]
      rw [if_neg (by decide)]
      rfl
  · obtain ⟨n, rfl, n3, n7', en⟩ := c37 hx
    obtain ⟨l, hl⟩ := WV_l hw
    obtain ⟨v, hv⟩ : ∃ v, v = wans n w (wfi n l w 0) := ⟨_, rfl⟩
    have r1 : rn 66 [.ref 0, .int (nI n)] h (RI v) (hW h (wst l ((wfi n l w 0).getD w))) := fun Q => by
      rw [am_66, s_66_0, c67 n3 n7']
      simp only [t_kv, t_ob_0', true_and, m_56 hw.1 hw.2.2.1 (fun p hp => ⟨(hl p hp).1, (hl p hp).2.2⟩) n3 n7', t_ki, ← hv]
    obtain ⟨g, hg⟩ : ∃ g, g = t_L (hW h (wst l ((wfi n l w 0).getD w))) 32 0 v.toInt64 := ⟨_, rfl⟩
    have ag : ∀ a b, a ≠ 6 ∧ a ≠ 7 → g.1 a b = h.1 a b := fun a b e => by rw [hg]; exact hW_o e
    have g4 : (t_I g 13 0 0).1 13 4 = nI w := by rw [t_13_i (by decide), ag _ _ (by decide)]; exact hw.2.1
    have r2 : rn 119 [.ref 13, .int (nI n)] g (RI v) (hV (t_I g 13 0 0) n (wst l ((wfi n l w 0).getD w))) := fun Q => by
      rw [am_119, s_119_0, n100', en]
      simp only [t_ki, t_ob_13, true_and, s_119_35, zb_0, Bool.true_eq_false, if_false, t_13_0]
      rw [if_pos (Int32.le_refl _), n118 g4 hw.2.2.1 (fun p hp => ⟨by rw [t_13_ne (by decide), ag _ _ (by decide)]; exact (hl p hp).2.1, (hl p hp).2.2⟩) n3 n7', ← hv]
      rfl
    subst hg
    refine opI_s hI (r_174 r1) r2 (fr_t (fr_t (fr_t fr_hW (fr_L _ 32 0 _)) fr_13) fr_hV) ?_ rfl
    rw [hV_o (by decide), t_13_0]
theorem nI_le1 {a b : Nat} (ha : a ≠ 0) (hb : b ≠ 0) (h1 : a < 1000) (h2 : b < 1000) : (nI a - 1 ≤ nI b - 1) = (a ≤ b) := by
  obtain ⟨a', rfl⟩ : ∃ a', a = a' + 1 := ⟨a - 1, by omega⟩
  obtain ⟨b', rfl⟩ : ∃ b', b = b' + 1 := ⟨b - 1, by omega⟩
  rw [nI_s1, nI_s1, nI_le' (by omega) (by omega)]
  exact propext ⟨fun h => by omega, fun h => by omega⟩
theorem m_61 {h : tH} {r n : Nat} {c : Nat → Nat} (ho : t_ob r = some 6) (h7 : n ≤ 7) (hc : ∀ i, i < 49 → h.1 7 i = nI (c i) ∧ c i < 100) (Q : tO → tH → Prop) : AM 61 [.ref 4, .ref r, .int (nI n)] h Q = Q (.inl none) (hT (t_I h r 1 (nI n)) (r + 10) (f3 (wF c) n (h.1 (r + 10)))) := by
  have r7 : r ≠ 7 := fun z => by rw [z] at ho; cases ho
  have r70 : 70 ≤ r := by
    have hr : r < 87 := Nat.lt_of_not_le fun q => by rw [t_ob_big q] at ho; cases ho
    have hh : ∀ r, r < 87 → t_ob r = some 6 → 70 ≤ r := by decide +kernel
    exact hh r hr ho
  obtain ⟨g, hg⟩ : ∃ g, g = t_I h r 1 (nI n) := ⟨_, rfl⟩
  have c7 : ∀ T p, (hT g (r + 10) T).1 7 p = h.1 7 p := fun T p => by rw [hT_o (by omega), hg, t_I_o (by omega)]
  have g10 : g.1 (r + 10) = h.1 (r + 10) := by rw [hg]; exact t_I_ne (by omega)
  have e7 : ∀ a b : Nat, nI a * 7 + nI b = nI (7 * a + b) := fun a b => by
    rw [show (7 : Int32) = nI 7 from rfl, pk_mul, nI_add, Nat.mul_comm]
  have rd : ∀ T (i j : Nat), i < 7 → j < 7 → ∀ f : Int32 → tH → Prop, AM 59 [.int (nI i), .int (nI j)] (hT g (r + 10) T) (t_ki (fun a1 h1 => AM 6 [.ref 7, .int a1] h1 (t_ki f Q)) Q) = f (nI (c (7 * i + j))) (hT g (r + 10) T) := fun T i j hi hj f => by
    rw [am_59, s_59_0, e7]
    simp only [t_ki, m_get t_ar_7', zg_n (show 7 * i + j < 49 by omega) (show 49 < 5000 by decide), c7, (hc (7 * i + j) (by omega)).1]
  have l := lt3 (α := Nat → Int32) (β := Value × Value × Value × Value) (γ := Value × Value × Value) (δ := Value) (n := n)
    (L1 := fun i T w => AX 2 61 7 [.ref 4, .ref r, .int (nI n), .int (nI i), w.1, w.2.1, w.2.2.1, w.2.2.2] [] (hT g (r + 10) T) Q)
    (L2 := fun i j T w => AX 2 61 17 [.ref 4, .ref r, .int (nI n), .int (nI i), .int (nI j), w.1, w.2.1, w.2.2] [] (hT g (r + 10) T) Q)
    (L3 := fun i j k T w => AX 2 61 44 [.ref 4, .ref r, .int (nI n), .int (nI i), .int (nI j), .int (nI (c (7 * i + j))), .int (nI k), w] [] (hT g (r + 10) T) Q)
    (E := fun T => Q (.inl none) (hT g (r + 10) T)) (f := fun i j k T => pT T i j k (wF c i j k))
    (fun T w => by rw [s_61_7, if_pos (Int32.le_refl _)])
    (fun i T w hi => ⟨(w.2.1, w.2.2.1, w.2.2.2), by
      rw [s_61_7]
      simp (disch := omega) only [nI_le', nI_1]
      rw [if_neg (by omega)]⟩)
    (fun i T w hi => ⟨(.int (nI n), w.1, w.2.1, w.2.2), by rw [s_61_17, if_pos (Int32.le_refl _), nI_1]⟩)
    (fun i j T w hij hj => ⟨w.2.2, by
      rw [s_61_17]
      simp (disch := omega) only [t_ob_4, true_and, nI_le', nI_1]
      rw [if_neg (by omega), rd T i j (by omega) (by omega)]⟩)
    (fun i j T w hij hj => ⟨(.int (nI (c (7 * i + j))), .int (nI n), w), by rw [s_61_44, if_pos (Int32.le_refl _), nI_1]⟩)
    (fun i j k T w hij hjk hk => ⟨.int (nI (c (7 * j + k))), by
      have c1 := (hc (7 * i + j) (by omega)).2
      have c2 := (hc (7 * j + k) (by omega)).2
      have ew : (if nI (c (7 * j + k)) ≤ nI (c (7 * i + j)) then (-1 : Int32) else 1) = wF c i j k := by
        unfold wF
        simp (disch := omega) only [nI_le']
      rw [s_61_44]
      simp (disch := omega) only [t_ob_4, true_and, nI_le' (show n < 1000 by omega), nI_1, ho]
      rw [if_neg (by omega), rd T j k (by omega) (by omega), ew, m_put ho (by omega) (by omega) (by omega), hT_put]
      rfl⟩)
  have l0 := l (h.1 (r + 10)) (.float 0, .float 0, .float 0, .float 0)
  rw [← g10, hT_r] at l0
  rw [am_61, s_61_0, ← hg]
  simp only [ho, true_and]
  rw [g10] at l0
  exact l0
theorem c69 {h : tH} {D n w : Nat} {l : Nat → Nat} (hd : h.1 0 3 = nI D) (hD : D < 6) (hw : h.1 4 3 = nI w) (w21 : w ≤ 21) (hl : ∀ p, p < w → h.1 5 p = nI (l p) ∧ l p ≤ 5) (n3 : 3 ≤ n) (h7 : n ≤ 7) (hr : wans n w (wfi n l w 0) = -1) (hS : ∀ i, (wst l ((wfi n l w 0).getD w)).2 i ≤ 21) : rn 69 [.ref 0, .int (nI n)] h (RI (nI D)) (t_I (t_I (hT (t_I (hW h (wst l ((wfi n l w 0).getD w))) (70 + D) 1 (nI n)) (80 + D) (f3 (wF (wst l ((wfi n l w 0).getD w)).2) n (h.1 (80 + D)))) 4 3 0) 0 3 (nI (D + 1))) := by
  intro Q
  obtain ⟨S, hS'⟩ : ∃ S, S = wst l ((wfi n l w 0).getD w) := ⟨_, rfl⟩
  rw [← hS'] at hS ⊢
  have e80 : 70 + D + 10 = 80 + D := by omega
  have q := m_61 (h := hW h S) (r := 70 + D) (n := n) (c := S.2) (o70 hD) h7 fun i hi => ⟨hW_7 hi, by have := hS i; omega⟩
  have q80 : (hW h S).1 (80 + D) = h.1 (80 + D) := funext fun b => hW_o (by omega)
  rw [e80, q80] at q
  have g0 : (t_I (hT (t_I (hW h S) (70 + D) 1 (nI n)) (80 + D) (f3 (wF S.2) n (h.1 (80 + D)))) 4 3 0).1 0 3 = nI D := by
    rw [t_I_o (by decide), hT_o (by omega), t_I_o (by omega), hW_o (by decide), hd]
  rw [am_69, s_69_0, c67 n3 h7]
  simp only [t_kv, t_ob_0', true_and, m_77 hd hD, t_kq_r, va_rf_s, s_69_8, m_56 hw w21 hl n3 h7, hr, t_ki, if_true, ← hS', o40 hD, e30, q, m_78 g0]
theorem c69x {h : tH} {D n w : Nat} {l : Nat → Nat} (hd : h.1 0 3 = nI D) (hD : D ≤ 6) (hw : h.1 4 3 = nI w) (w21 : w ≤ 21) (hl : ∀ p, p < w → h.1 5 p = nI (l p) ∧ l p ≤ 5) (n3 : 3 ≤ n) (h7 : n ≤ 7) (hr : D = 6 ∨ wans n w (wfi n l w 0) ≠ -1) : ∃ g, fr h g ∧ rn 69 [.ref 0, .int (nI n)] h (.inr 1) g := by
  by_cases h6 : D = 6
  · subst h6
    refine ⟨t_X h, fr_X h, fun Q => ?_⟩
    rw [am_69, s_69_0, c67 n3 h7]
    simp only [t_kv, t_ob_0', true_and, m_77x hd, t_kq_E]
  · refine ⟨t_X (hW h (wst l ((wfi n l w 0).getD w))), fr_t fr_hW (fr_X _), fun Q => ?_⟩
    have hr' : wans n w (wfi n l w 0) ≠ -1 := by
      rcases hr with e | e
      · exact absurd e h6
      · exact e
    rw [am_69, s_69_0, c67 n3 h7]
    simp only [t_kv, t_ob_0', true_and, m_77 hd (show D < 6 by omega), t_kq_r, va_rf_s, s_69_8, m_56 hw w21 hl n3 h7, t_ki]
    rw [if_neg hr']
