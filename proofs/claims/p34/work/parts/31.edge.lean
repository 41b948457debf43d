/-! ===== segments as bits; edge ===== -/
theorem sx_lt {i j : Nat} (hi : i < 7) (hj : j < 7) (h : i ≠ j) : sx i j < 21 := by
  have hh : ∀ i, i < 7 → ∀ j, j < 7 → i ≠ j → sx i j < 21 := by decide +kernel
  exact hh i hi j hj h
theorem m_21 {i j : Nat} {h : tH} (hi : i < 7) (hj : j < 7) (Q : tO → tH → Prop) : AM 21 [.int (nI i), .int (nI j)] h Q = Q (RI (nI (sx i j))) h := by
  have hh : ∀ i, i < 7 → ∀ j, j < 7 → ((((if nI i < nI j then nI j else nI i) * ((if nI i < nI j then nI j else nI i) - 1)) / 2) + (if nI j < nI i then nI j else nI i)) = nI (sx i j) := by decide +kernel
  rw [am_21, s_21_0, hh i hi j hj]
def sb (i j : Nat) : Int32 := if i = j then 0 else one (sx i j)
theorem m_22 {i j : Nat} {h : tH} (hi : i < 7) (hj : j < 7) (Q : tO → tH → Prop) : AM 22 [.int (nI i), .int (nI j)] h Q = Q (RI (sb i j)) h := by
  rw [am_22, s_22_0]
  simp (disch := omega) only [nI_eq', m_21 hi hj, t_ki, s_22_16]
  unfold sb
  by_cases h1 : i = j
  · rw [if_neg (by simpa using h1), if_pos h1]
  · rw [if_pos h1, if_neg h1]
    rfl
theorem sb_iff {x : Int32} {i j : Nat} (hi : i < 7) (hj : j < 7) : (x &&& sb i j = 0) = ((!decide (i = j) && bt x (sx i j)) = false) := by
  unfold sb
  by_cases h1 : i = j
  · rw [if_pos h1, Int32.and_zero]
    simp [h1]
  · have h2 := sx_lt hi hj h1
    rw [if_neg h1, has_iff (by omega)]
    simp [h1]
theorem m_10 {h : tH} {d i j : Nat} {b : Bool} (hd : d < 6) (hb : h.1 (40 + d) 5 = zb b) (hi : i < 7) (hj : j < 7) (Q : tO → tH → Prop) : AM 10 [.ref (40 + d), .int (nI i), .int (nI j)] h Q = Q (RI (zb (b && (!decide (i = j) && bt (h.1 (40 + d) 4) (sx i j))))) h := by
  rw [am_10, s_10_0, hb]
  simp only [o40 hd, true_and, zb_0, s_10_24, s_10_25, m_22 hi hj, t_ki, sb_iff hi hj, zb_0z, zb_1z]
  cases b
  · simp [zb]
  · by_cases h1 : (!decide (i = j) && bt (h.1 (40 + d) 4) (sx i j)) = true
    · simp [h1, zb]
    · rw [Bool.not_eq_true] at h1
      simp [h1, zb]
