/-! ===== flip: both sides ===== -/
def un3 (a b c : Int32) : Bool := decide (a = b) || decide (b = c) || decide (a = c)
theorem c71 {h : tH} {D d n : Nat} {a b c : Int32} (h1 : h.1 0 3 = nI D) (h3 : D ≤ 6) (hd : d < D) (t1 : tn h (70 + d) n) (Q : tO → tH → Prop) : AM 71 [.ref 0, .int (nI d), .int a, .int b, .int c] h Q =
    (if (pI a n && pI b n && pI c n) = true then (if un3 a b c = true then Q (.inr 0) (t_X h) else AM 45 [.ref (70 + d), .int a, .int b, .int c] h (t_ki (fun a4 h4 => (if ¬ a4 = (0 : Int32) then Q (RI 1) (t_I (t_I h4 (40 + d) 3 0) (40 + d) 5 0) else Q (RI 0) h4)) Q)) else Q (.inr 2) (t_X h)) := by
  have hd6 : d < 6 := by omega
  rw [am_71, s_71_0, c75 h1 h3 hd]
  simp only [t_ob_0', true_and, t_kq_r, va_rf_s, s_71_5, s_71_43, c76f hd6 t1, o40 hd6, e30, o70 hd6, zb_0z]
  by_cases k1 : pI a n = true
  · by_cases k2 : pI b n = true
    · by_cases k3 : pI c n = true
      · unfold un3
        by_cases q1 : a = b
        · simp [k1, k2, k3, q1]
        by_cases q2 : b = c
        · by_cases q3 : a = c
          · simp [k1, k2, k3, q1, q2, q3]
          · simp [k1, k2, k3, q1, q2, q3]
        by_cases q3 : a = c
        · simp [k1, k2, k3, q1, q2, q3]
        · simp [k1, k2, k3, q1, q2, q3]
      · simp [k1, k2, pI_x k3]
    · simp [k1, pI_x k2]
  · simp [pI_x k1]
