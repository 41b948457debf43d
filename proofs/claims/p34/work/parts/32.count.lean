/-! ===== empties, level ===== -/
theorem qin_p (χ : tC) (p i j k : Nat) : qin χ p i j k = pin χ p i j k := by
  unfold qin pin psame
  by_cases h1 : χ j k p = χ i j p
  · by_cases h2 : χ k i p = χ i j p
    · simp [h1, h2]
    · have : ¬ χ i j p = χ k i p := fun z => h2 z.symm
      simp [h1, h2, this]
  · have : ¬ χ i j p = χ j k p := fun z => h1 z.symm
    simp [h1, this]
theorem qnone_p (χ : tC) (n i j k : Nat) : qnone χ n i j k = pnone χ n i j k := by
  unfold qnone pnone
  exact aB_ext _ _ fun p _ _ => by rw [qin_p]
def bn (b : Bool) : Nat := if b = true then 1 else 0
theorem bn_add {a : Nat} {b : Bool} : (if zb b = (0 : Int32) then nI a else nI (a + 1)) = nI (a + bn b) := by
  cases b
  · rfl
  · rw [if_neg (by decide)]; rfl
theorem bn_add' {a : Nat} {b : Bool} : nI a + (if zb b = (0 : Int32) then (0 : Int32) else 1) = nI (a + bn b) := by
  cases b
  · rw [if_pos (show zb false = 0 from rfl), Int32.add_zero]; rfl
  · rw [if_neg (by decide), nI_1]; rfl
def emp2 (χ : tC) (n i : Nat) : Nat → Nat := fun j => sB (fun k => bn (pnone χ n i j k)) (j + 1) (n - (j + 1))
def emp1 (χ : tC) (n : Nat) : Nat → Nat := fun i => sB (emp2 χ n i) (i + 1) (n - (i + 1))
def emp (χ : tC) (n : Nat) : Nat := sB (emp1 χ n) 0 n
theorem c89 {h : tH} {D d n : Nat} (h1 : h.1 0 3 = nI D) (h3 : D ≤ 6) (hd : d < D) (t1 : tn h (70 + d) n) : rn 89 [.ref 0, .int (nI d)] h (RI (nI (emp (tX h (70 + d)) n))) h := by
  intro Q
  have hd6 : d < 6 := by omega
  have h7 := t1.2.2
  have hc := t1.2.1
  have l3 := fun (i j : Nat) (hi : i < n) (hj : j < n) (F : Nat → Prop) (hF : ∀ a w, AX 4 89 29 [.ref 0, .int (nI d), .ref (70 + d), .int (nI a), .int (nI i), .int (nI (j + 1)), w] [] h Q = F a) =>
    lps (β := Unit) (L := fun k a w => AX 4 89 44 [.ref 0, .int (nI d), .ref (70 + d), .int (nI a), .int (nI i), .int (nI j), .int (nI k)] [] h Q) (E := F) (f := fun k => bn (pnone (tX h (70 + d)) n i j k)) (n := n)
      (fun a w => by
        rw [s_89_44, hc, if_pos (Int32.le_refl _), nI_1, hF]
        simp only [o70 hd6, true_and])
      (fun k a w G hk hG => by
        rw [s_89_44, hc]
        simp (disch := omega) only [o70 hd6, true_and, nI_le', m_none t1 hi hj hk, t_ki, bn_add, nI_1]
        rw [if_neg (by omega), hG _ ()])
  have l2 := fun (i : Nat) (hi : i < n) (F : Nat → Prop) (hF : ∀ a w w', AX 4 89 14 [.ref 0, .int (nI d), .ref (70 + d), .int (nI a), .int (nI (i + 1)), w, w'] [] h Q = F a) =>
    lps (β := Value) (L := fun j a w => AX 4 89 29 [.ref 0, .int (nI d), .ref (70 + d), .int (nI a), .int (nI i), .int (nI j), w] [] h Q) (E := F) (f := emp2 (tX h (70 + d)) n i) (n := n)
      (fun a w => by
        rw [s_89_29, hc, if_pos (Int32.le_refl _), nI_1, hF]
        simp only [o70 hd6, true_and])
      (fun j a w G hj hG => by
        rw [s_89_29, hc]
        simp (disch := omega) only [o70 hd6, true_and, nI_le', nI_1]
        rw [if_neg (by omega)]
        exact l3 i j hi hj G hG (n - (j + 1)) (j + 1) (by omega) a ())
  have l1 := lps (β := Value × Value) (L := fun i a w => AX 4 89 14 [.ref 0, .int (nI d), .ref (70 + d), .int (nI a), .int (nI i), w.1, w.2] [] h Q) (E := fun a => Q (RI (nI a)) h) (f := emp1 (tX h (70 + d)) n) (n := n)
      (fun a w => by
        rw [s_89_14, hc, if_pos (Int32.le_refl _)]
        simp only [o70 hd6, true_and])
      (fun i a w G hi hG => by
        rw [s_89_14, hc]
        simp (disch := omega) only [o70 hd6, true_and, nI_le', nI_1]
        rw [if_neg (by omega)]
        exact l2 i hi G (fun a w w' => hG a (w, w')) (n - (i + 1)) (i + 1) (by omega) a w.2)
  rw [am_89, s_89_0, c75 h1 h3 hd]
  simp only [t_ob_0', true_and, t_kq_r, va_rf_s, s_89_5, e30, o40 hd6]
  have := l1 n 0 (by omega) 0 (.float 0, .float 0)
  rw [Nat.zero_add] at this
  exact this
