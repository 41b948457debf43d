/-! ===== copy ===== -/
theorem m_42 {h : tH} {r0 r1 n : Nat} {x : Int32} (ho : t_ob r0 = some 6) (t1 : tn h r1 n) (hr : r0 ≠ r1) (Q : tO → tH → Prop) : AM 42 [.ref r0, .ref r1, .int x] h Q = Q (.inl none) (hT (t_I h r0 1 (nI n)) (r0 + 10) (f3 (fun i j k => x * tX h r1 i j k) n (h.1 (r0 + 10)))) := by
  obtain ⟨ho1, hc, h7⟩ := t1
  have b : ∀ r, t_ob r = some 6 → 70 ≤ r ∧ r < 77 := by
    intro r hr
    have h87 : r < 87 := Nat.lt_of_not_le fun q => by rw [t_ob_big q] at hr; cases hr
    have hh : ∀ r, r < 87 → t_ob r = some 6 → 70 ≤ r ∧ r < 77 := by decide +kernel
    exact hh r h87 hr
  have b0 := b r0 ho
  have b1 := b r1 ho1
  obtain ⟨g, hg⟩ : ∃ g, g = t_I h r0 1 (nI n) := ⟨_, rfl⟩
  have c1 : ∀ T, (hT g (r0 + 10) T).1 r0 1 = nI n := fun T => by rw [hT_o (by omega), hg, t_I_at, if_pos ⟨rfl, rfl⟩]
  have cX : ∀ T, tX (hT g (r0 + 10) T) r1 = tX h r1 := fun T => tX_o fun c _ => by rw [hT_o (by omega), hg, t_I_o (by omega)]
  have g10 : g.1 (r0 + 10) = h.1 (r0 + 10) := by rw [hg]; exact t_I_ne (by omega)
  have l := lt3 (α := Nat → Int32) (β := Value × Value) (γ := Value) (δ := Unit) (n := n)
    (L1 := fun i T w => AX 2 42 10 [.ref r0, .ref r1, .int x, .int (nI i), w.1, w.2] [] (hT g (r0 + 10) T) Q)
    (L2 := fun i j T w => AX 2 42 23 [.ref r0, .ref r1, .int x, .int (nI i), .int (nI j), w] [] (hT g (r0 + 10) T) Q)
    (L3 := fun i j k T _ => AX 2 42 38 [.ref r0, .ref r1, .int x, .int (nI i), .int (nI j), .int (nI k)] [] (hT g (r0 + 10) T) Q)
    (E := fun T => Q (.inl none) (hT g (r0 + 10) T)) (f := fun i j k T => pT T i j k (x * tX h r1 i j k))
    (fun T w => by
      rw [s_42_10, c1, if_pos (Int32.le_refl _)]
      simp only [ho, true_and])
    (fun i T w hi => ⟨w.2, by
      rw [s_42_10, c1]
      simp (disch := omega) only [ho, true_and, nI_le', nI_1]
      rw [if_neg (by omega)]⟩)
    (fun i T w hi => ⟨(.int (nI n), w), by
      rw [s_42_23, c1, if_pos (Int32.le_refl _)]
      simp only [ho, true_and, nI_1]⟩)
    (fun i j T w hij hj => ⟨(), by
      rw [s_42_23, c1]
      simp (disch := omega) only [ho, true_and, nI_le', nI_1]
      rw [if_neg (by omega)]⟩)
    (fun i j T w hij hj => ⟨.int (nI n), by
      rw [s_42_38, c1, if_pos (Int32.le_refl _)]
      simp only [ho, true_and, nI_1]⟩)
    (fun i j k T w hij hjk hk => ⟨(), by
      rw [s_42_38, c1]
      simp (disch := omega) only [ho, ho1, true_and, nI_le', nI_1, m_of ho1 (show i < 7 by omega) (show j < 7 by omega) (show k < 7 by omega), t_ki, t_kv, m_put ho (show i < 7 by omega) (show j < 7 by omega) (show k < 7 by omega), hT_put, cX]
      rw [if_neg (by omega)]⟩)
  have l0 := l (h.1 (r0 + 10)) (.float 0, .float 0)
  rw [← g10, hT_r] at l0
  rw [am_42, s_42_0, hc, ← hg]
  simp only [ho, ho1, true_and]
  rw [g10] at l0
  exact l0
theorem c70 {h : tH} {D d n : Nat} {y : Int32} (hd : h.1 0 3 = nI D) (hD : D < 6) (hdD : d < D) (t1 : tn h (70 + d) n) : rn 70 [.ref 0, .int (nI d), .int y] h (RI (nI D)) (t_I (hT (t_I h (70 + D) 1 (nI n)) (80 + D) (f3 (fun i j k => (if y = 0 then (1 : Int32) else -1) * tX h (70 + d) i j k) n (h.1 (80 + D)))) 0 3 (nI (D + 1))) := by
  intro Q
  have e80 : 70 + D + 10 = 80 + D := by omega
  have q := m_42 (h := h) (r0 := 70 + D) (r1 := 70 + d) (x := if y = 0 then (1 : Int32) else -1) (o70 hD) t1 (by omega)
  rw [e80] at q
  obtain ⟨A, hA⟩ : ∃ A, A = hT (t_I h (70 + D) 1 (nI n)) (80 + D) (f3 (fun i j k => (if y = 0 then (1 : Int32) else -1) * tX h (70 + d) i j k) n (h.1 (80 + D))) := ⟨_, rfl⟩
  rw [← hA] at q ⊢
  have g0 : A.1 0 3 = nI D := by rw [hA, hT_o (by omega), t_I_o (by omega), hd]
  rw [am_70, s_70_0, c75 hd (by omega) hdD]
  simp only [t_ob_0', true_and, t_kq_r, va_rf_s, s_70_5, m_77 hd hD, s_70_10, o40 hD, o40 (show d < 6 by omega), e30, o70 hD, q, t_kv, m_78 g0, t_ki]
theorem c70x {h : tH} {D : Nat} {x y : Int32} (hd : h.1 0 3 = nI D) (hD : D ≤ 6) (h1 : pI x D = false) : rn 70 [.ref 0, .int x, .int y] h (.inr 2) (t_X h) := by
  intro Q
  rw [am_70, s_70_0, c75x hd hD h1]
  simp only [t_ob_0', true_and, t_kq_E]
theorem c70y {h : tH} {d : Nat} {y : Int32} (hd : h.1 0 3 = nI 6) (h1 : d < 6) : rn 70 [.ref 0, .int (nI d), .int y] h (.inr 1) (t_X h) := by
  intro Q
  rw [am_70, s_70_0, c75 hd (by omega) h1]
  simp only [t_ob_0', true_and, t_kq_r, va_rf_s, s_70_5, m_77x hd, t_kq_E]
/-- the copied signs -/
def cpT (h : tH) (d : Nat) (y : Int32) : Nat → Int32 := fun c => if y = 0 then h.1 20 (343 * d + c) else -h.1 20 (343 * d + c)
theorem n124 {g : tH} {D d n : Nat} {y : Int32} (hd : g.1 13 8 = nI D) (hD : D < 6) (hdD : d < D) (ht : ty g d n) : rn 124 [.ref 13, .int (nI d), .int y] g (RI (nI D)) (hU (t_I (hU (mA (t_I g 13 0 0) D n) D (fun _ => 0)) 13 8 (nI (D + 1))) D (cpT g d y)) := by
  intro Q
  have e6 : (nI D = (6 : Int32)) = (D = 6) := nI_eq' (a := D) (b := 6) (by omega) (by omega)
  have hx : pI (nI d) D = true := by rw [pI_nI (by omega) (by omega)]; simpa using hdD
  obtain ⟨k, hk⟩ : ∃ k, k = t_I (hU (mA (t_I g 13 0 0) D n) D (fun _ => 0)) 13 8 (nI (D + 1)) := ⟨_, rfl⟩
  have u20 : ∀ T c, c < 343 → (hU k D T).1 20 (343 * d + c) = g.1 20 (343 * d + c) := fun T c hc => by
    rw [hU_o (by omega), hk, t_I_o (by decide), hU_o (by omega)]
    unfold mA
    rw [t_I_o (by decide), t_I_o (by decide), t_I_o (by decide), t_I_o (by decide)]
  have l := lp (α := Nat → Int32) (β := Unit) (L := fun c T _ => AX 2 124 53 [.ref 13, .int (nI d), .int y, .int (nI D), .int (nI c)] [] (hU k D T) Q) (E := fun T => Q (RI (nI D)) (hU k D T)) (f := fun c T => upd T c (cpT g d y c)) (n := 343) (fun _ _ => True)
    (fun T w _ => by rw [s_124_53, if_pos (show (343 : Int32) ≤ nI 343 from Int32.le_refl _)])
    (fun c T w F hc _ hF => by
      have e : ((343 : Int32) ≤ nI c) = (343 ≤ c) := nI_le' (a := 343) (b := c) (by omega) (by omega)
      have i20 : ∀ g : tH, t_in (t_ai g 20) (nI (343 * D + c)) = True := fun g => t_in_ai (show t_ar 20 = some (0, 2401) from rfl) (by omega)
      rw [s_124_53, if_neg (by rw [e]; omega), n343, n343]
      simp (disch := omega) only [t_ob_13, true_and, vI, nC, u20, s_124_107, i20, hU_I, nI_1, ne_eq, Nat.reduceEqDiff, not_false_eq_true]
      have ec : cpT g d y c = if y = 0 then g.1 20 (343 * d + c) else -g.1 20 (343 * d + c) := rfl
      rw [ec]
      by_cases q : y = 0
      · rw [if_pos q, if_pos q]
        exact hF _ () trivial
      · rw [if_neg q, if_neg q]
        exact hF _ () trivial)
  have l0 := l 343 0 (by omega) (fun c => k.1 20 (343 * D + c)) () trivial
  rw [hU_r, hU_ext (T' := cpT g d y) fun c hc => fd_upd (F := cpT g d y) 343 c hc] at l0
  have i19 : t_in (t_ai (t_I g 13 0 0) 19) (nI d) = True := t_in_ai (show t_ar 19 = some (0, 7) from rfl) (by omega)
  have e19 : (t_I g 13 0 0).1 19 d = nI n := ht.2.1
  rw [am_124, s_124_0, n101 hd (by omega), hx]
  simp only [t_ob_13, true_and, t_ki, zb_0, Bool.true_eq_false, not_false_eq_true, if_true, s_124_27, hd]
  rw [if_pos (show ¬ nI D = (6 : Int32) by rw [e6]; omega), if_pos (show (t_I g 13 0 0).1 13 0 ≤ 0 from Int32.le_refl _), i19, nC (by omega), e19, n120 (h := t_I g 13 0 0) hd hD, ← hk]
  simp only [t_ki, true_and]
  exact l0
theorem n124x {g : tH} {D : Nat} {x y : Int32} (hd : g.1 13 8 = nI D) (hD : D ≤ 6) (h1 : pI x D = false) : rn 124 [.ref 13, .int x, .int y] g (RI 0) (t_I g 13 0 1) := by
  intro Q
  rw [am_124, s_124_0, n101 hd (by omega), h1]
  simp only [t_ob_13, true_and, t_ki, zb_0, not_true_eq_false, if_false, s_124_27]
  rw [if_neg (show ¬ (t_I g 13 0 1).1 13 0 ≤ 0 by rw [t_13_0]; decide)]
theorem n124y {g : tH} {d : Nat} {y : Int32} (hd : g.1 13 8 = nI 6) (h1 : d < 6) : rn 124 [.ref 13, .int (nI d), .int y] g (RI 0) (t_I g 13 0 2) := by
  intro Q
  have hx : pI (nI d) 6 = true := by rw [pI_nI (by omega) (by omega)]; simpa using h1
  rw [am_124, s_124_0, n101 hd (by omega), hx]
  simp only [t_ob_13, true_and, t_ki, zb_0, Bool.true_eq_false, not_false_eq_true, if_true, s_124_27, hd]
  rw [if_neg (show ¬ ¬ nI 6 = (6 : Int32) by decide), if_neg (show ¬ (t_I g 13 0 2).1 13 0 ≤ 0 by rw [t_13_0]; decide)]
theorem qhold_neg {χ : tC} {n : Nat} (h : qhold χ n = true) : qhold (fun i j k => -χ i j k) n = true := by
  refine qhold_iff.mpr fun a b c d h1 h2 h3 h4 => ?_
  obtain ⟨g1, g2⟩ := qhold_iff.mp h a b c d h1 h2 h3 h4
  refine ⟨?_, fun e he ea eb ec ed => ?_⟩
  · rw [q4_same] at g1 ⊢
    rw [← g1]
    congr 1
    unfold same4
    rw [psame_neg]
    simp only [n_neg]
  · have g := g2 e he ea eb ec ed
    unfold q5 at g ⊢
    simp only [Int32.neg_mul, Int32.mul_neg, Int32.neg_neg]
    exact g
theorem op_copy {h : tH} (hI : IV h) (x y : Int32) : opI h 177 [.ref 0, .int x, .int y, .ref 32] 124 [.ref 13, .int x, .int y] := by
  obtain ⟨D, s, w, h1, h2, h3, hs, hw, ha⟩ := id hI
  by_cases hx : pI x D = true
  · obtain ⟨d, hd, rfl⟩ := (pI_iff (by omega)).mp hx
    by_cases h6 : D = 6
    · subst h6
      exact opI_f hI (k := 2) (by decide) (by decide) (r_177_e1 (c70y h1 hd)) (n124y (g := t_X h) h2 hd)
    · have hD : D < 6 := by omega
      obtain ⟨n, hn⟩ := ha.1 d hd
      obtain ⟨t1, t2⟩ := DV_t (by omega) hn
      have n7' := t1.2.2
      obtain ⟨χ, hχ⟩ : ∃ χ, χ = tX h (70 + d) := ⟨_, rfl⟩
      have ws : WS χ n := by rw [hχ]; exact hn.2.2.2.2.2.1
      have hh : qhold χ n = true := by rw [hχ]; exact hn.2.2.2.2.2.2.1
      have hY : tY h d = χ := by rw [hχ]; exact hn.2.2.2.2.1.symm
      have r1 := c70 (y := y) h1 hD hd t1
      rw [← hχ] at r1
      obtain ⟨T, hT'⟩ : ∃ T, T = f3 (fun i j k => (if y = 0 then (1 : Int32) else -1) * χ i j k) n (h.1 (80 + D)) := ⟨_, rfl⟩
      rw [← hT'] at r1
      obtain ⟨A, hA⟩ : ∃ A, A = t_I (hT (t_I h (70 + D) 1 (nI n)) (80 + D) T) 0 3 (nI (D + 1)) := ⟨_, rfl⟩
      rw [← hA] at r1
      have rA : ∀ a b, A.1 a b = if a = 0 ∧ b = 3 then nI (D + 1) else if a = 80 + D then T b else if a = 70 + D ∧ b = 1 then nI n else h.1 a b := fun a b => by rw [hA]; rfl
      obtain ⟨g, hg⟩ : ∃ g, g = t_L A 32 0 (nI D).toInt64 := ⟨_, rfl⟩
      have ag : ∀ a b, g.1 a b = A.1 a b := fun _ _ => by rw [hg]; rfl
      have gl : ∀ a b, 0 < a → a < 40 → g.1 a b = h.1 a b := fun a b a1 a2 => by
        rw [ag, rA, if_neg (by omega), if_neg (by omega), if_neg (by omega)]
      have r2 := n124 (y := y) (g := g) (n := n) (by rw [gl _ _ (by decide) (by decide)]; exact h2) hD hd ⟨by omega, by rw [gl _ _ (by decide) (by decide)]; exact t2.2.1, n7'⟩
      obtain ⟨U, hU'⟩ : ∃ U, U = cpT g d y := ⟨_, rfl⟩
      rw [← hU'] at r2
      obtain ⟨Z, hZ⟩ : ∃ Z, Z = hU (t_I (hU (mA (t_I g 13 0 0) D n) D (fun _ => 0)) 13 8 (nI (D + 1))) D U := ⟨_, rfl⟩
      rw [← hZ] at r2
      have rZ : ∀ a b, Z.1 a b = if a = 20 ∧ 343 * D ≤ b ∧ b < 343 * D + 343 then U (b - 343 * D) else if a = 13 ∧ b = 8 then nI (D + 1) else if a = 20 ∧ 343 * D ≤ b ∧ b < 343 * D + 343 then 0 else if a = 24 ∧ b = D then 0 else if a = 21 ∧ b = D then 0 else if a = 19 ∧ b = D then nI n else if a = 13 ∧ b = 0 then 0 else g.1 a b := fun a b => by rw [hZ]; rfl
      have zo : ∀ a b, ¬ (a = 13 ∨ (a = 21 ∧ b = D) ∨ (a = 20 ∧ 343 * D ≤ b ∧ b < 343 * D + 343) ∨ (a = 24 ∧ b = D) ∨ (a = 19 ∧ b = D)) → Z.1 a b = g.1 a b := fun a b e => by
        rw [rZ, if_neg (by omega), if_neg (by omega), if_neg (by omega), if_neg (by omega), if_neg (by omega), if_neg (by omega), if_neg (by omega)]
      have z13 : ∀ b, b ≠ 0 → b ≠ 8 → Z.1 13 b = h.1 13 b := fun b b0 b8 => by
        rw [rZ, if_neg (by omega), if_neg (by omega), if_neg (by omega), if_neg (by omega), if_neg (by omega), if_neg (by omega), if_neg (by omega), gl _ _ (by decide) (by decide)]
      obtain ⟨ψ, hψ⟩ : ∃ ψ : tC, ψ = fun i j k => if y = 0 then χ i j k else -χ i j k := ⟨_, rfl⟩
      have wψ : WS ψ n := by
        rw [hψ]
        by_cases q : y = 0
        · simp only [q, if_true]; exact ws
        · simp only [q, if_false]
          intro i j k hi hj hk
          obtain ⟨w1, w2, w3⟩ := ws i j k hi hj hk
          refine ⟨show -χ j k i = -χ i j k by rw [w1], show -χ j i k = - -χ i j k by rw [w2], ?_⟩
          show if i < n ∧ j < n ∧ k < n ∧ i ≠ j ∧ j ≠ k ∧ i ≠ k then -χ i j k = 1 ∨ -χ i j k = -1 else -χ i j k = 0
          by_cases e : i < n ∧ j < n ∧ k < n ∧ i ≠ j ∧ j ≠ k ∧ i ≠ k
          · rw [if_pos e] at w3 ⊢
            rcases w3 with e | e <;> simp [e]
          · rw [if_neg e] at w3 ⊢
            rw [w3]; rfl
      have qψ : qhold ψ n = true := by
        rw [hψ]
        by_cases q : y = 0
        · simp only [q, if_true]; exact hh
        · simp only [q, if_false]; exact qhold_neg hh
      have eY : tY Z D = ψ := by
        rw [cut_Yr]
        funext i j k
        unfold cut
        by_cases e : i < 7 ∧ j < 7 ∧ k < 7
        · rw [if_pos e]
          show Z.1 20 (343 * D + (49 * i + 7 * j + k)) = _
          rw [rZ, if_pos (by omega), Nat.add_sub_cancel_left, hU', hψ]
          unfold cpT
          have e1 : g.1 20 (343 * d + (49 * i + 7 * j + k)) = χ i j k := by
            rw [gl _ _ (by decide) (by decide), ← hY]
            unfold tY
            rw [if_pos e, show 343 * d + (49 * i + 7 * j + k) = 343 * d + 49 * i + 7 * j + k by omega]
          rw [e1]
        · rw [if_neg e, hψ, ← hY]
          show (0 : Int32) = if y = 0 then tY h d i j k else -tY h d i j k
          rw [show tY h d i j k = 0 from if_neg e]
          simp
      have eX : tX Z (70 + D) = ψ := by
        rw [cut_Xr, show Z.1 (70 + D + 10) = T from funext fun b => by rw [zo _ _ (by omega), ag, rA, if_neg (by omega), if_pos (by omega)]]
        rw [hT', cut_f3 n7', cut_0 (ha.2.1 D (Nat.le_refl _) hD).1]
        refine AZ_ext n7' (t3_AZ AZ_0) (AZ_WS wψ) (fun i j k e => ?_) fun a b c a1 a2 a3 => ?_
        · rw [← eY]
          unfold tY
          rw [if_neg e]
          have := cut_f3 (F := fun i j k => (if y = 0 then (1 : Int32) else -1) * χ i j k) n7' (fun _ => 0)
          rw [cut_0 fun _ _ => rfl] at this
          rw [← this, cut_big e]
        · rw [t3_val a1 a2 a3, hψ]
          by_cases q : y = 0
          · simp only [q, if_true]; exact Int32.one_mul _
          · simp only [q, if_false]
            rw [Int32.neg_mul, Int32.one_mul]
      have v' : DV Z D n := by
        refine ⟨hn.1, n7', ?_, ?_, eX.trans eY.symm, ?_, ?_, ⟨false, ?_, ?_⟩, ⟨false, ?_, ?_, fun z => (nomatch z)⟩⟩
        · rw [zo _ _ (by omega), ag, rA, if_neg (by omega), if_neg (by omega), if_pos ⟨rfl, rfl⟩]
        · rw [rZ, if_neg (by omega), if_neg (by omega), if_neg (by omega), if_neg (by omega), if_neg (by omega), if_pos ⟨rfl, rfl⟩]
        · rw [eX]; exact wψ
        · rw [eX]; exact qψ
        · rw [zo _ _ (by omega), ag, rA, if_neg (by omega), if_neg (by omega), if_neg (by omega)]
          exact (ha.2.1 D (Nat.le_refl _) hD).2.1
        · rw [rZ, if_neg (by omega), if_neg (by omega), if_neg (by omega), if_neg (by omega), if_pos ⟨rfl, rfl⟩]; rfl
        · rw [zo _ _ (by omega), ag, rA, if_neg (by omega), if_neg (by omega), if_neg (by omega)]
          exact (ha.2.1 D (Nat.le_refl _) hD).2.2
        · rw [rZ, if_neg (by omega), if_neg (by omega), if_neg (by omega), if_pos ⟨rfl, rfl⟩]; rfl
      have iv : IV Z := by
        refine IV_new (s := s) (w := w) hD ha ?_ ?_ (SV_fr (fun a b e => ?_) hs) (WV_fr (fun a b e => ?_) hw) (fun a b e1 e2 e3 => ?_) v' fun p hp => ?_
        · rw [zo _ _ (by omega), ag, rA, if_pos ⟨rfl, rfl⟩]
        · rw [rZ, if_neg (by omega), if_pos ⟨rfl, rfl⟩]
        · rcases e with ⟨rfl, rfl⟩ | ⟨rfl, rfl⟩ | rfl | rfl | rfl | rfl
          · rw [zo _ _ (by omega), gl _ _ (by decide) (by decide)]
          · exact z13 _ (by decide) (by decide)
          all_goals rw [zo _ _ (by omega), gl _ _ (by decide) (by decide)]
        · rcases e with ⟨rfl, rfl⟩ | ⟨rfl, rfl⟩ | rfl | rfl
          · rw [zo _ _ (by omega), gl _ _ (by decide) (by decide)]
          · exact z13 _ (by decide) (by decide)
          all_goals rw [zo _ _ (by omega), gl _ _ (by decide) (by decide)]
        · rw [zo _ _ (by omega), ag, rA, if_neg (by omega), if_neg (by omega), if_neg (by omega)]
        · rw [zo _ _ (by omega), gl _ _ (by decide) (by decide), zo _ _ (by omega), ag, rA, if_neg (by omega), if_neg (by omega), if_neg (by omega), zo 23 _ (by omega), gl _ _ (by decide) (by decide), zo _ _ (by omega), ag, rA, if_neg (by omega), if_neg (by omega), if_neg (by omega)]
          exact ha.2.2 D p hD hp
      refine ⟨0, g, Z, nI D, by decide, ?_, r2, iv, ?_, fun _ => ?_⟩
      · rw [hg]; exact r_177 r1
      · rw [rZ, if_neg (by omega), if_neg (by omega), if_neg (by omega), if_neg (by omega), if_neg (by omega), if_neg (by omega), if_pos ⟨rfl, rfl⟩]; rfl
      · rw [hZ, hg]; rfl
  · exact opI_f hI (k := 1) (by decide) (by decide) (r_177_e2 (c70x h1 h3 (pI_x hx))) (n124x (g := t_X h) h2 h3 (pI_x hx))
