/-! ===== empties, level ===== -/
theorem qin_p (χ : tC) (p i j k : Nat) : qin χ p i j k = pin χ p i j k := by
  unfold qin pin psame
  by_cases h1 : χ j k p = χ i j p
  · by_cases h2 : χ k i p = χ i j p
    · simp [h1, h2]
    · have : ¬ χ i j p = χ k i p := fun z => h2 z.symm
      simp [h1, h2, this]
  · have : ¬ χ i j p = χ j k p := fun z => h1 z.symm
    simp [h1, this]
theorem qnone_p (χ : tC) (n i j k : Nat) : qnone χ n i j k = pnone χ n i j k := by
  unfold qnone pnone
  exact aB_ext _ _ fun p _ _ => by rw [qin_p]
def bn (b : Bool) : Nat := if b = true then 1 else 0
theorem bn_add {a : Nat} {b : Bool} : (if zb b = (0 : Int32) then nI a else nI (a + 1)) = nI (a + bn b) := by
  cases b
  · rfl
  · rw [if_neg (by decide)]; rfl
theorem bn_add' {a : Nat} {b : Bool} : nI a + (if zb b = (0 : Int32) then (0 : Int32) else 1) = nI (a + bn b) := by
  cases b
  · rw [if_pos (show zb false = 0 from rfl), Int32.add_zero]; rfl
  · rw [if_neg (by decide), nI_1]; rfl
def emp2 (χ : tC) (n i : Nat) : Nat → Nat := fun j => sB (fun k => bn (pnone χ n i j k)) (j + 1) (n - (j + 1))
def emp1 (χ : tC) (n : Nat) : Nat → Nat := fun i => sB (emp2 χ n i) (i + 1) (n - (i + 1))
def emp (χ : tC) (n : Nat) : Nat := sB (emp1 χ n) 0 n
theorem c89 {h : tH} {D d n : Nat} (h1 : h.1 0 3 = nI D) (h3 : D ≤ 6) (hd : d < D) (t1 : tn h (70 + d) n) : rn 89 [.ref 0, .int (nI d)] h (RI (nI (emp (tX h (70 + d)) n))) h := by
  intro Q
  have hd6 : d < 6 := by omega
  have h7 := t1.2.2
  have hc := t1.2.1
  have l3 := fun (i j : Nat) (hi : i < n) (hj : j < n) (F : Nat → Prop) (hF : ∀ a w, AX 4 89 29 [.ref 0, .int (nI d), .ref (70 + d), .int (nI a), .int (nI i), .int (nI (j + 1)), w] [] h Q = F a) =>
    lps (β := Unit) (L := fun k a w => AX 4 89 44 [.ref 0, .int (nI d), .ref (70 + d), .int (nI a), .int (nI i), .int (nI j), .int (nI k)] [] h Q) (E := F) (f := fun k => bn (pnone (tX h (70 + d)) n i j k)) (n := n)
      (fun a w => by
        rw [s_89_44, hc, if_pos (Int32.le_refl _), nI_1, hF]
        simp only [o70 hd6, true_and])
      (fun k a w G hk hG => by
        rw [s_89_44, hc]
        simp (disch := omega) only [o70 hd6, true_and, nI_le', m_none t1 hi hj hk, t_ki, bn_add, nI_1]
        rw [if_neg (by omega), hG _ ()])
  have l2 := fun (i : Nat) (hi : i < n) (F : Nat → Prop) (hF : ∀ a w w', AX 4 89 14 [.ref 0, .int (nI d), .ref (70 + d), .int (nI a), .int (nI (i + 1)), w, w'] [] h Q = F a) =>
    lps (β := Value) (L := fun j a w => AX 4 89 29 [.ref 0, .int (nI d), .ref (70 + d), .int (nI a), .int (nI i), .int (nI j), w] [] h Q) (E := F) (f := emp2 (tX h (70 + d)) n i) (n := n)
      (fun a w => by
        rw [s_89_29, hc, if_pos (Int32.le_refl _), nI_1, hF]
        simp only [o70 hd6, true_and])
      (fun j a w G hj hG => by
        rw [s_89_29, hc]
        simp (disch := omega) only [o70 hd6, true_and, nI_le', nI_1]
        rw [if_neg (by omega)]
        exact l3 i j hi hj G hG (n - (j + 1)) (j + 1) (by omega) a ())
  have l1 := lps (β := Value × Value) (L := fun i a w => AX 4 89 14 [.ref 0, .int (nI d), .ref (70 + d), .int (nI a), .int (nI i), w.1, w.2] [] h Q) (E := fun a => Q (RI (nI a)) h) (f := emp1 (tX h (70 + d)) n) (n := n)
      (fun a w => by
        rw [s_89_14, hc, if_pos (Int32.le_refl _)]
        simp only [o70 hd6, true_and])
      (fun i a w G hi hG => by
        rw [s_89_14, hc]
        simp (disch := omega) only [o70 hd6, true_and, nI_le', nI_1]
        rw [if_neg (by omega)]
        exact l2 i hi G (fun a w w' => hG a (w, w')) (n - (i + 1)) (i + 1) (by omega) a w.2)
  rw [am_89, s_89_0, c75 h1 h3 hd]
  simp only [t_ob_0', true_and, t_kq_r, va_rf_s, s_89_5, e30, o40 hd6]
  have := l1 n 0 (by omega) 0 (.float 0, .float 0)
  rw [Nat.zero_add] at this
  exact this
theorem n147 {h : tH} {D d n : Nat} (h2 : h.1 13 8 = nI D) (h3 : D ≤ 6) (hd : d < D) (ht : ty h d n) : rn 147 [.ref 13, .int (nI d)] h (RI (nI (emp (tY h d) n))) (t_I h 13 0 0) := by
  intro Q
  have hd6 : d < 6 := by omega
  have h7 := ht.2.2
  obtain ⟨g, hg⟩ : ∃ g, g = t_I h 13 0 0 := ⟨_, rfl⟩
  have tg : ty g d n := by rw [hg]; exact ty_13 ht
  have eg : tY g d = tY h d := by rw [hg]; exact tY_13
  have l3 := fun (i j : Nat) (hi : i < n) (hj : j < n) (F : Nat → Prop) (hF : ∀ a w, AX 3 147 52 [.ref 13, .int (nI d), .int (nI a), .int (nI n), .int (nI i), .int (nI (j + 1)), w] [] g Q = F a) =>
    lps (β := Unit) (L := fun k a w => AX 3 147 64 [.ref 13, .int (nI d), .int (nI a), .int (nI n), .int (nI i), .int (nI j), .int (nI k)] [] g Q) (E := F) (f := fun k => bn (pnone (tY h d) n i j k)) (n := n)
      (fun a w => by
        rw [s_147_64, if_pos (Int32.le_refl _), nI_1, hF])
      (fun k a w G hk hG => by
        rw [s_147_64]
        simp (disch := omega) only [t_ob_13, true_and, nI_le', n146 tg hi hj hk, t_ki, bn_add', nI_1, eg, qnone_p]
        rw [if_neg (by omega), hG _ ()])
  have l2 := fun (i : Nat) (hi : i < n) (F : Nat → Prop) (hF : ∀ a w w', AX 3 147 40 [.ref 13, .int (nI d), .int (nI a), .int (nI n), .int (nI (i + 1)), w, w'] [] g Q = F a) =>
    lps (β := Value) (L := fun j a w => AX 3 147 52 [.ref 13, .int (nI d), .int (nI a), .int (nI n), .int (nI i), .int (nI j), w] [] g Q) (E := F) (f := emp2 (tY h d) n i) (n := n)
      (fun a w => by
        rw [s_147_52, if_pos (Int32.le_refl _), nI_1, hF])
      (fun j a w G hj hG => by
        rw [s_147_52]
        simp (disch := omega) only [nI_le', nI_1]
        rw [if_neg (by omega)]
        exact l3 i j hi hj G hG (n - (j + 1)) (j + 1) (by omega) a ())
  have l1 := lps (β := Value × Value) (L := fun i a w => AX 3 147 40 [.ref 13, .int (nI d), .int (nI a), .int (nI n), .int (nI i), w.1, w.2] [] g Q) (E := fun a => Q (RI (nI a)) g) (f := emp1 (tY h d) n) (n := n)
      (fun a w => by
        rw [s_147_40, if_pos (Int32.le_refl _)])
      (fun i a w G hi hG => by
        rw [s_147_40]
        simp (disch := omega) only [nI_le', nI_1]
        rw [if_neg (by omega)]
        exact l2 i hi G (fun a w w' => hG a (w, w')) (n - (i + 1)) (i + 1) (by omega) a w.2)
  rw [am_147, s_147_0]
  simp only [t_ob_13, true_and, n101 h2 (show D < 1000 by omega), t_ki, s_147_36]
  rw [pI_nI (by omega) (by omega)]
  have := l1 n 0 (by omega) 0 (.float 0, .float 0)
  rw [Nat.zero_add] at this
  have e5 : (t_I h 13 0 0).1 19 d = nI n := ht.2.1
  simp [hd, zb, t_13_0, nC (show d < 10000 by omega), e5, t_in_ai (h := t_I h 13 0 0) (show t_ar 19 = some (0, 7) from rfl) (show d < 7 by omega)]
  rw [hg] at this
  exact iff_of_eq this
theorem n147x {h : tH} {D : Nat} {x : Int32} (h2 : h.1 13 8 = nI D) (h3 : D ≤ 6) (hx : pI x D = false) : rn 147 [.ref 13, .int x] h (RI 0) (t_I h 13 0 1) := by
  intro Q
  rw [am_147, s_147_0]
  simp only [t_ob_13, true_and, n101 h2 (show D < 1000 by omega), t_ki, s_147_36, hx]
  simp [zb, t_13_0]
  rw [s_147_40, if_pos (by decide)]
theorem op_empties {h : tH} (hI : IV h) (x : Int32) : opI h 190 [.ref 0, .int x, .ref 32] 147 [.ref 13, .int x] := by
  obtain ⟨D, h1, h2, h3, h4⟩ := IV_D hI
  by_cases hx : pI x D = true
  · obtain ⟨d, hd, rfl⟩ := (pI_iff (by omega)).mp hx
    obtain ⟨n, hn⟩ := h4 d hd
    obtain ⟨t1, t2⟩ := DV_t (by omega) hn
    have r2 := n147 (h := t_L h 32 0 (nI (emp (tX h (70 + d)) n)).toInt64) h2 h3 hd t2
    rw [tY_L, ← hn.2.2.2.2.1] at r2
    exact opI_s hI (r_190 (c89 h1 h3 hd t1)) r2 (fr_t (fr_L h 32 0 _) fr_13) rfl rfl
  · refine opI_f hI (k := 1) (by decide) (by decide) (r_190_e2 fun Q => ?_) (n147x (h := t_X h) h2 h3 (pI_x hx))
    rw [am_89, s_89_0, c75x h1 h3 (pI_x hx)]
    simp only [t_ob_0', true_and, t_kq_E]
