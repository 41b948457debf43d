/-! ===== triangulate: the calls ===== -/
theorem rd_RM {χ : tC} {n : Nat} (h7 : n ≤ 7) (f : Nat → Int32) : RM (rdM χ n f) χ n := fun p q hp => rdM_bt h7 hp
/-- the heap after the crossings were read -/
def hR (h : tH) (χ : tC) (n : Nat) : tH := hM (t_I h 9 1 (nI n)) (rdM χ n (h.1 10))
theorem hR_o {h : tH} {χ : tC} {n a b : Nat} (e : a ≠ 9 ∧ a ≠ 10) : (hR h χ n).1 a b = h.1 a b := by
  unfold hR
  rw [hM_o e.2, t_I_o e.1]
theorem hR_9 {h : tH} {χ : tC} {n : Nat} : (hR h χ n).1 9 1 = nI n := by
  unfold hR
  rw [hM_o (by decide)]
  rfl
theorem hR_10 {h : tH} {χ : tC} {n : Nat} : (hR h χ n).1 10 = rdM χ n (h.1 10) := hM_10
theorem fr_hR {h : tH} {χ : tC} {n : Nat} : fr h (hR h χ n) := fun k i e => by
  have e9 : k ≠ 9 := fun z => by rw [z] at e; cases e
  have e10 : k ≠ 10 := fun z => by rw [z] at e; cases e
  exact hR_o ⟨e9, e10⟩
theorem hR_2 {h : tH} {χ : tC} {n : Nat} : (hR h χ n).2 = h.2 := rfl
theorem c95 {h : tH} {D d n : Nat} (hd : h.1 0 3 = nI D) (hD : D ≤ 6) (hdD : d < D) (t1 : tn h (70 + d) n) (w : WS (tX h (70 + d)) n) : rn 95 [.ref 0, .int (nI d)] h (RI (nI (pc (tri (tX h (70 + d)) n)))) (t_I (t_I (hR h (tX h (70 + d)) n) (40 + d) 4 (tri (tX h (70 + d)) n)) (40 + d) 5 1) := by
  intro Q
  have hd6 : d < 6 := by omega
  have h7 := t1.2.2
  have q := m_23 t1
  have q2 := m_29 (h := hR h (tX h (70 + d)) n) (χ := tX h (70 + d)) (n := n) hR_10 hR_9 (rd_RM h7 _) w h7
  have e4 : (t_I (t_I (hR h (tX h (70 + d)) n) (40 + d) 4 (tri (tX h (70 + d)) n)) (40 + d) 5 1).1 (40 + d) 4 = tri (tX h (70 + d)) n := by
    rw [t_I_at, if_neg (by omega), t_I_at, if_pos ⟨rfl, rfl⟩]
  rw [am_95, s_95_0, c75 hd hD hdD]
  simp only [t_ob_0', true_and, t_kq_r, va_rf_s, s_95_5, o40 hd6, e30, q, t_kv]
  rw [show hM (t_I h 9 1 (nI n)) (rdM (tX h (70 + d)) n (h.1 10)) = hR h (tX h (70 + d)) n from rfl, q2]
  simp only [t_ki, true_and, or_true, e4, m_1]
/-! the model -/
def eT (T : Int32) (c : Nat) : Bool := !decide (c / 7 = c % 7) && bt T (sx (c / 7) (c % 7))
/-- with the edges of a drawing told -/
def hE (h : tH) (d : Nat) (T : Int32) : tH := (fun a b => if a = 25 ∧ 49 * d ≤ b ∧ b < 49 * d + 49 then zb (eT T (b - 49 * d)) else h.1 a b, h.2)
theorem hE_o {h : tH} {d a b : Nat} {T : Int32} (e : ¬ (a = 25 ∧ 49 * d ≤ b ∧ b < 49 * d + 49)) : (hE h d T).1 a b = h.1 a b := if_neg e
theorem hE_at {h : tH} {d i j : Nat} {T : Int32} (hi : i < 7) (hj : j < 7) : (hE h d T).1 25 (49 * d + 7 * i + j) = zb (!decide (i = j) && bt T (sx i j)) := by
  show (if 25 = 25 ∧ 49 * d ≤ 49 * d + 7 * i + j ∧ 49 * d + 7 * i + j < 49 * d + 49 then zb (eT T (49 * d + 7 * i + j - 49 * d)) else _) = _
  rw [if_pos ⟨rfl, by omega, by omega⟩]
  unfold eT
  rw [show (49 * d + 7 * i + j - 49 * d) / 7 = i by omega, show (49 * d + 7 * i + j - 49 * d) % 7 = j by omega]
theorem hE_I {h : tH} {d i j : Nat} {T : Int32} (hi : i < 7) (hj : j < 7) (ij : i ≠ j) : t_I (t_I (hE h d T) 25 (49 * d + 7 * i + j) 1) 25 (49 * d + 7 * j + i) 1 = hE h d (T ||| one (sx i j)) := by
  have s := sx_lt hi hj ij
  refine Prod.ext ?_ rfl
  funext a b
  show (if a = 25 ∧ b = 49 * d + 7 * j + i then (1 : Int32) else if a = 25 ∧ b = 49 * d + 7 * i + j then 1 else if a = 25 ∧ 49 * d ≤ b ∧ b < 49 * d + 49 then zb (eT T (b - 49 * d)) else h.1 a b) = (if a = 25 ∧ 49 * d ≤ b ∧ b < 49 * d + 49 then zb (eT (T ||| one (sx i j)) (b - 49 * d)) else h.1 a b)
  by_cases e : a = 25 ∧ 49 * d ≤ b ∧ b < 49 * d + 49
  · obtain ⟨x, y, hx, hy, eb⟩ : ∃ x y, x < 7 ∧ y < 7 ∧ b = 49 * d + 7 * x + y := ⟨(b - 49 * d) / 7, (b - 49 * d) % 7, by omega, by omega, by omega⟩
    have et : ∀ T, eT T (b - 49 * d) = (!decide (x = y) && bt T (sx x y)) := fun T => by
      unfold eT
      rw [show (b - 49 * d) / 7 = x by omega, show (b - 49 * d) % 7 = y by omega]
    rw [if_pos e, if_pos e, et, et, b_or, bt_one (by omega)]
    by_cases e1 : b = 49 * d + 7 * j + i
    · obtain ⟨rfl, rfl⟩ : x = j ∧ y = i := by omega
      rw [if_pos ⟨e.1, e1⟩, decide_eq_false (fun z => ij z.symm), decide_eq_true (sx_comm x y)]
      simp [zb]
    · rw [if_neg (by omega)]
      by_cases e2 : b = 49 * d + 7 * i + j
      · obtain ⟨rfl, rfl⟩ : x = i ∧ y = j := by omega
        rw [if_pos ⟨e.1, e2⟩, decide_eq_false ij, decide_eq_true rfl]
        simp [zb]
      · rw [if_neg (by omega)]
        by_cases xy : x = y
        · rw [decide_eq_true xy]; rfl
        · have : ¬ sx x y = sx i j := fun z => by
            rcases sx_un hx hy hi hj xy ij z with ⟨p, q⟩ | ⟨p, q⟩
            · exact e2 (by rw [eb, p, q])
            · exact e1 (by rw [eb, p, q])
          rw [decide_eq_false this, Bool.or_false]
  · rw [if_neg (by omega), if_neg (by omega), if_neg e, if_neg e]
theorem n4977 (d i j : Nat) : (49 : Int32) * nI d + 7 * nI i + nI j = nI (49 * d + 7 * i + j) := by
  rw [Int32.mul_comm 49, Int32.mul_comm 7, show (49 : Int32) = nI 49 from rfl, show (7 : Int32) = nI 7 from rfl, pk_mul, pk_mul, nI_add, nI_add]
  congr 1
  omega
