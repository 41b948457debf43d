/-! ===== Signs: questions, and one flip ===== -/
theorem t_I_o {h : tH} {k i a : Nat} {x : Int32} (ha : a ≠ k) (b : Nat) : (t_I h k i x).1 a b = h.1 a b := by rw [t_I_ne ha]
theorem hPut_o {h : tH} {t i j k a : Nat} {x : Int32} (ha : a ≠ t) (b : Nat) : (hPut h t i j k x).1 a b = h.1 a b := by
  unfold hPut
  simp only [t_I_o ha]
theorem hPut_2 {h : tH} {t i j k : Nat} {x : Int32} : (hPut h t i j k x).2 = h.2 := rfl
theorem tn_put {h : tH} {r n t i j k : Nat} {x : Int32} (hn : tn h r n) (ht : r ≠ t) : tn (hPut h t i j k x) r n := ⟨hn.1, by rw [hPut_o ht]; exact hn.2.1, hn.2.2⟩
theorem t_ob_ne10 {r : Nat} (h : t_ob r = some 6) : r ≠ r + 10 := by omega
theorem m_turnOver {h : tH} {r n i j k : Nat} (hn : tn h r n) (hi : i < n) (hj : j < n) (hk : k < n) (Q : tO → tH → Prop) : AM 45 [.ref r, .int (nI i), .int (nI j), .int (nI k)] h Q =
    (if pfits (tX (hPut h (r + 10) i j k (-tX h r i j k)) r) n i j k = true then Q (.inl (some (.int 1))) (hPut h (r + 10) i j k (-tX h r i j k))
     else Q (.inl (some (.int 0))) (hPut (hPut h (r + 10) i j k (-tX h r i j k)) (r + 10) i j k (tX h r i j k))) := by
  obtain ⟨ho, hc, h7⟩ := id hn
  have hi7 : i < 7 := by omega
  have hj7 : j < 7 := by omega
  have hk7 : k < 7 := by omega
  rw [am_45, s_45_0]
  simp (disch := assumption) only [m_of ho, m_put ho, m_fits (tn_put hn (t_ob_ne10 ho)), t_ki, t_kv, ho, true_and, zb_0]
  cases hp : pfits (tX (hPut h (r + 10) i j k (-tX h r i j k)) r) n i j k <;> simp
def pparts (χ : tC) (i j k l : Nat) : Bool := !decide (χ i j k = χ i j l) && !decide (χ k l i = χ k l j)
def pin (χ : tC) (p i j k : Nat) : Bool := decide (χ j k p = χ i j p) && decide (χ k i p = χ i j p)
def pnone (χ : tC) (n i j k : Nat) : Bool := aB (fun p => decide (p = i) || decide (p = j) || decide (p = k) || !pin χ p i j k) 0 n
theorem m_parts {h : tH} {r a b c d : Nat} (ho : t_ob r = some 6) (ha : a < 7) (hb : b < 7) (hc : c < 7) (hd : d < 7) (Q : tO → tH → Prop) : AM 51 [.ref r, .int (nI a), .int (nI b), .int (nI c), .int (nI d)] h Q = Q (.inl (some (.int (zb (pparts (tX h r) a b c d))))) h := by
  rw [am_51, s_51_0]
  simp (disch := assumption) only [m_of ho, t_ki, ho, true_and, s_51_41, s_51_42, pparts]
  by_cases h1 : tX h r a b c = tX h r a b d <;> by_cases h2 : tX h r c d a = tX h r c d b <;> simp [h1, h2, zb]
theorem m_within {h : tH} {r p a b c : Nat} (ho : t_ob r = some 6) (hp : p < 7) (ha : a < 7) (hb : b < 7) (hc : c < 7) (Q : tO → tH → Prop) : AM 53 [.ref r, .int (nI p), .int (nI a), .int (nI b), .int (nI c)] h Q = Q (.inl (some (.int (zb (pin (tX h r) p a b c))))) h := by
  rw [am_53, s_53_0]
  simp (disch := assumption) only [m_of ho, t_ki, ho, true_and, s_53_39, s_53_40, pin]
  by_cases h1 : tX h r b c p = tX h r a b p <;> by_cases h2 : tX h r c a p = tX h r a b p <;> simp [h1, h2, zb]
theorem m_none {h : tH} {r n i j k : Nat} (hn : tn h r n) (hi : i < n) (hj : j < n) (hk : k < n) (Q : tO → tH → Prop) : AM 52 [.ref r, .int (nI i), .int (nI j), .int (nI k)] h Q = Q (.inl (some (.int (zb (pnone (tX h r) n i j k))))) h := by
  obtain ⟨ho, hc, h7⟩ := hn
  have hi7 : i < 7 := by omega
  have hj7 : j < 7 := by omega
  have hk7 : k < 7 := by omega
  have loop : ∀ (m p : Nat), p + m = n → AX 3 52 3 [.ref r, .int (nI i), .int (nI j), .int (nI k), .int (nI p)] [] h Q =
      Q (.inl (some (.int (zb (aB (fun p => decide (p = i) || decide (p = j) || decide (p = k) || !pin (tX h r) p i j k) p m))))) h := by
    intro m
    induction m with
    | zero =>
      intro p hp
      rw [s_52_3]
      have : p = n := by omega
      subst this
      simp (disch := omega) only [hc, ho, true_and, nI_le', Nat.le_refl, if_true, aB, zb_t]
    | succ m ih =>
      intro p hp
      rw [s_52_3]
      have hp7 : p < 7 := by omega
      simp (disch := first | assumption | omega) only [hc, ho, true_and, nI_le', nI_eq', s_52_44, nI_1, m_within ho, t_ki, ih, aB, zb_0]
      rw [if_neg (by omega)]
      by_cases h1 : p = i
      · simp [h1]
      · by_cases h2 : p = j
        · simp [h1, h2]
        · by_cases h3 : p = k
          · simp [h1, h2, h3]
          · by_cases h4 : pin (tX h r) p i j k = true <;> simp [h1, h2, h3, h4, zb]
  rw [am_52, s_52_0]
  exact loop n 0 (by omega)
/-- how many of m numbers from p on -/
def cB (f : Nat → Bool) : Nat → Nat → Nat
  | _, 0 => 0
  | p, m + 1 => (if f p = true then 1 else 0) + cB f (p + 1) m
theorem cB_le (f : Nat → Bool) : ∀ m p, cB f p m ≤ m := by
  intro m
  induction m with
  | zero => intro p; exact Nat.le_refl _
  | succ m ih =>
    intro p
    have := ih (p + 1)
    unfold cB
    split <;> omega
def plow (χ : tC) (n i j : Nat) : Int32 := if (nI n - 2) - nI (cB (fun k => decide (χ i j k = 1)) 0 n) < nI (cB (fun k => decide (χ i j k = 1)) 0 n) then (nI n - 2) - nI (cB (fun k => decide (χ i j k = 1)) 0 n) else nI (cB (fun k => decide (χ i j k = 1)) 0 n)
theorem m_lesser {h : tH} {r n i j : Nat} (hn : tn h r n) (hi : i < n) (hj : j < n) (Q : tO → tH → Prop) : AM 54 [.ref r, .int (nI i), .int (nI j)] h Q = Q (.inl (some (.int (plow (tX h r) n i j)))) h := by
  obtain ⟨ho, hc, h7⟩ := hn
  have hi7 : i < 7 := by omega
  have hj7 : j < 7 := by omega
  have loop : ∀ (m p s : Nat), p + m = n → AX 2 54 5 [.ref r, .int (nI i), .int (nI j), .int (nI s), .int (nI p)] [] h Q =
      Q (.inl (some (.int (if (nI n - 2) - nI (s + cB (fun k => decide (tX h r i j k = 1)) p m) < nI (s + cB (fun k => decide (tX h r i j k = 1)) p m) then (nI n - 2) - nI (s + cB (fun k => decide (tX h r i j k = 1)) p m) else nI (s + cB (fun k => decide (tX h r i j k = 1)) p m))))) h := by
    intro m
    induction m with
    | zero =>
      intro p s hp
      rw [s_54_5, hc]
      have : p = n := by omega
      subst this
      simp (disch := omega) only [ho, true_and, nI_le', Nat.le_refl, if_true, cB, Nat.add_zero]
      rfl
    | succ m ih =>
      intro p s hp
      rw [s_54_5, hc]
      have hp7 : p < 7 := by omega
      simp (disch := first | assumption | omega) only [ho, true_and, nI_le', m_of ho, t_ki, nI_1]
      rw [if_neg (by omega)]
      by_cases h1 : tX h r i j p = 1
      · rw [if_neg (by simp [h1]), ih (p + 1) (s + 1) (by omega)]
        simp only [cB, h1, decide_true, if_true, Nat.add_assoc]
      · rw [if_pos h1, ih (p + 1) s (by omega)]
        simp only [cB, h1, decide_false, if_false, Bool.false_eq_true, Nat.zero_add]
  rw [am_54, s_54_0]
  have := loop n 0 0 (by omega)
  rw [Nat.zero_add] at this
  exact this
