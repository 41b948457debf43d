/-! ===== layer ===== -/
/-- the layers that lie around p -/
def lay (χ : tC) (n p : Nat) : Nat → Int32 → Nat
  | 0, _ => 0
  | m + 1, s => if bt (phull χ n s) p = true then 0 else 1 + lay χ n p m (s &&& (phull χ n s ^^^ -1))
theorem bt_cpl {s x : Int32} {i : Nat} (hi : i < 32) : bt (s &&& (x ^^^ -1)) i = (bt s i && !bt x i) := by
  rw [b_and, b_xor, b_m1 i hi, Bool.xor_true]
theorem c86 {h : tH} {D d n p : Nat} {χ : tC} (h1 : h.1 0 3 = nI D) (h3 : D ≤ 6) (hd : d < D) (t1 : tn h (70 + d) n) (hχ : tX h (70 + d) = χ) (hp : p < n) : rn 86 [.ref 0, .int (nI d), .int (nI p)] h (RI (nI (lay χ n p 7 (one n - 1)))) h := by
  intro Q
  have hd6 : d < 6 := by omega
  have h7 := t1.2.2
  have hpi : pI (nI p) n = true := by rw [pI_nI (by omega) (by omega)]; simpa using hp
  have l : ∀ m k, k + m = 7 → ∀ s a w, AX 5 86 29 [.ref 0, .int (nI d), .int (nI p), .ref (40 + d), .int s, .int (nI a), .int (nI k), w] [] h Q = Q (RI (nI (a + lay χ n p m s))) h := by
    intro m
    induction m with
    | zero =>
      intro k hk s a w
      have : k = 7 := by omega
      subst this
      rw [s_86_29, if_pos (show (7 : Int32) ≤ nI 7 from Int32.le_refl _), s_86_77]
      rfl
    | succ m ih =>
      intro k hk s a w
      have e7 : ((7 : Int32) ≤ nI k) = (7 ≤ k) := nI_le' (a := 7) (b := k) (by omega) (by omega)
      rw [s_86_29, if_neg (by rw [e7]; omega)]
      simp only [o40 hd6, true_and, e30, m_hullOf t1, hχ, t_ki, m_has' (show p < 31 by omega), zb_0, s_86_77, nI_1]
      by_cases hb : bt (phull χ n s) p = true
      · rw [if_neg (by simp [hb])]
        unfold lay
        rw [if_pos hb, Nat.add_zero]
      · rw [if_pos (by simpa using hb), ih (k + 1) (by omega)]
        show _ = Q (RI (nI (a + (if bt (phull χ n s) p = true then 0 else 1 + lay χ n p m (s &&& (phull χ n s ^^^ -1)))))) h
        rw [if_neg hb, Nat.add_assoc]
  rw [am_86, s_86_0, c75 h1 h3 hd]
  simp only [t_ob_0', true_and, t_kq_r, va_rf_s, s_86_5, c76f hd6 t1, hpi, if_true, o40 hd6, e30, o70 hd6, t1.2.1, fo_all, t_ki]
  have := l 7 0 (by omega) (one n - 1) 0 (.float 0)
  rw [Nat.zero_add] at this
  exact this
