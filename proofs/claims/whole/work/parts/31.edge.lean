/-! ===== segments as bits; edge ===== -/
theorem sx_lt {i j : Nat} (hi : i < 7) (hj : j < 7) (h : i ≠ j) : sx i j < 21 := by
  have hh : ∀ i, i < 7 → ∀ j, j < 7 → i ≠ j → sx i j < 21 := by decide +kernel
  exact hh i hi j hj h
theorem m_21 {i j : Nat} {h : tH} (hi : i < 7) (hj : j < 7) (Q : tO → tH → Prop) : AM 21 [.int (nI i), .int (nI j)] h Q = Q (RI (nI (sx i j))) h := by
  have hh : ∀ i, i < 7 → ∀ j, j < 7 → ((((if nI i < nI j then nI j else nI i) * ((if nI i < nI j then nI j else nI i) - 1)) / 2) + (if nI j < nI i then nI j else nI i)) = nI (sx i j) := by decide +kernel
  rw [am_21, s_21_0, hh i hi j hj]
def sb (i j : Nat) : Int32 := if i = j then 0 else one (sx i j)
theorem m_22 {i j : Nat} {h : tH} (hi : i < 7) (hj : j < 7) (Q : tO → tH → Prop) : AM 22 [.int (nI i), .int (nI j)] h Q = Q (RI (sb i j)) h := by
  rw [am_22, s_22_0]
  simp (disch := omega) only [nI_eq', m_21 hi hj, t_ki, s_22_16]
  unfold sb
  by_cases h1 : i = j
  · rw [if_neg (by simpa using h1), if_pos h1]
  · rw [if_pos h1, if_neg h1]
    rfl
theorem sb_iff {x : Int32} {i j : Nat} (hi : i < 7) (hj : j < 7) : (x &&& sb i j = 0) = ((!decide (i = j) && bt x (sx i j)) = false) := by
  unfold sb
  by_cases h1 : i = j
  · rw [if_pos h1, Int32.and_zero]
    simp [h1]
  · have h2 := sx_lt hi hj h1
    rw [if_neg h1, has_iff (by omega)]
    simp [h1]
theorem m_10 {h : tH} {d i j : Nat} {b : Bool} (hd : d < 6) (hb : h.1 (40 + d) 5 = zb b) (hi : i < 7) (hj : j < 7) (Q : tO → tH → Prop) : AM 10 [.ref (40 + d), .int (nI i), .int (nI j)] h Q = Q (RI (zb (b && (!decide (i = j) && bt (h.1 (40 + d) 4) (sx i j))))) h := by
  rw [am_10, s_10_0, hb]
  simp only [o40 hd, true_and, zb_0, s_10_24, s_10_25, m_22 hi hj, t_ki, sb_iff hi hj, zb_0z, zb_1z]
  cases b
  · simp [zb]
  · by_cases h1 : (!decide (i = j) && bt (h.1 (40 + d) 4) (sx i j)) = true
    · simp [h1, zb]
    · rw [Bool.not_eq_true] at h1
      simp [h1, zb]
theorem n162 {h : tH} {d i j : Nat} {b : Bool} (hd : d < 6) (hi : i < 7) (hj : j < 7) (hb : h.1 25 (49 * d + 7 * i + j) = zb b) (Q : tO → tH → Prop) : AM 162 [.ref 13, .int (nI d), .int (nI i), .int (nI j)] h Q = Q (RI (zb b)) h := by
  have e : (49 : Int32) * nI d + 7 * nI i + nI j = nI (49 * d + 7 * i + j) := by
    rw [Int32.mul_comm 49, Int32.mul_comm 7, show (49 : Int32) = nI 49 from rfl, show (7 : Int32) = nI 7 from rfl, pk_mul, pk_mul, nI_add, nI_add]
    congr 1
    omega
  rw [am_162, s_162_0, e]
  simp only [t_ob_13, true_and, nC (show 49 * d + 7 * i + j < 10000 by omega), vI (show 49 * d + 7 * i + j < 294 by omega) (show 294 < 10000 by decide), hb, zb_z]
theorem op_edge {h : tH} (hI : IV h) (x a b : Int32) : opB h 198 [.ref 0, .int x, .int a, .int b, .ref 32] 169 [.ref 13, .int x, .int a, .int b] := by
  obtain ⟨D, h1, h2, h3, h4⟩ := IV_D hI
  by_cases hx : pI x D = true
  · obtain ⟨d, hd, rfl⟩ := (pI_iff (by omega)).mp hx
    obtain ⟨n, hn⟩ := h4 d hd
    have hd6 : d < 6 := by omega
    obtain ⟨t1, t2⟩ := DV_t hd6 hn
    have h7 := t1.2.2
    have hv := vI hd6 (show 6 < 10000 by decide)
    have ff : ¬ (pI a n = true ∧ pI b n = true) → opB h 198 [.ref 0, .int (nI d), .int a, .int b, .ref 32] 169 [.ref 13, .int (nI d), .int a, .int b] := fun hh => by
      refine opB_f hI (k := 1) (by decide) (by decide) (r_198_e2 fun Q => ?_) fun Q => ?_
      · rw [am_97, s_97_0, c75 h1 h3 hd]
        simp only [t_ob_0', true_and, t_kq_r, va_rf_s, s_97_5, c76f hd6 t1]
        by_cases k1 : pI a n = true
        · by_cases k2 : pI b n = true
          · exact absurd ⟨k1, k2⟩ hh
          · simp only [k1, pI_x k2, if_true, Bool.false_eq_true, if_false]
        · simp only [pI_x k1, Bool.false_eq_true, if_false]
      · rw [am_169, s_169_0]
        simp only [t_ob_13, true_and, n101 (h := t_X h) h2 (show D < 1000 by omega), n102 (h := t_X h) t2, t_ki, s_169_30, s_169_31, s_169_77, s_169_78, hx, zb_0z]
        by_cases k1 : pI a n = true
        · by_cases k2 : pI b n = true
          · exact absurd ⟨k1, k2⟩ hh
          · simp [k1, pI_x k2, zb, t_13_0, nI_l1]
        · simp [pI_x k1, zb, t_13_0, nI_l1]
    by_cases hh : pI a n = true ∧ pI b n = true
    · obtain ⟨ka, kb⟩ := hh
      obtain ⟨i, hi, rfl⟩ := (pI_iff (by omega)).mp ka
      obtain ⟨j, hj, rfl⟩ := (pI_iff (by omega)).mp kb
      obtain ⟨u, u1, u2, u3⟩ := hn.2.2.2.2.2.2.2.2
      obtain ⟨v, hv'⟩ : ∃ v, v = (u && (!decide (i = j) && bt (h.1 (40 + d) 4) (sx i j))) := ⟨_, rfl⟩
      have r1 : rn 97 [.ref 0, .int (nI d), .int (nI i), .int (nI j)] h (RI (zb v)) h := fun Q => by
        rw [am_97, s_97_0, c75 h1 h3 hd]
        simp only [t_ob_0', true_and, t_kq_r, va_rf_s, s_97_5, c76f hd6 t1, ka, kb, if_true, o40 hd6, m_10 hd6 u1 (show i < 7 by omega) (show j < 7 by omega), t_ki, zb_z, ← hv']
      have r2 : rn 169 [.ref 13, .int (nI d), .int (nI i), .int (nI j)] (t_L h 32 0 (i64b v)) (RI (zb v)) (t_I (t_L h 32 0 (i64b v)) 13 0 0) := fun Q => by
        have e2 : (t_I (t_L h 32 0 (i64b v)) 13 0 0).1 24 d = zb u := u2
        rw [am_169, s_169_0]
        simp only [t_ob_13, true_and, n101 (h := t_L h 32 0 (i64b v)) h2 (show D < 1000 by omega), n102 (h := t_L h 32 0 (i64b v)) t2, t_ki, s_169_30, s_169_31, s_169_77, s_169_78, hx, zb_0z, zb_1z, ka, kb, hv, nC (show d < 10000 by omega)]
        cases u with
        | false =>
          have hv0 : v = false := by simpa using hv'
          subst hv0
          simp [zb, t_13_0, e2]
        | true =>
          have e3 : h.1 25 (49 * d + 7 * i + j) = zb v := by
            rw [(u3 rfl).1 i j hi hj, hv']
            simp
          have e4 : ∀ f : Int32 → tH → Prop, AM 162 [.ref 13, .int (nI d), .int (nI i), .int (nI j)] (t_I (t_L h 32 0 (i64b v)) 13 0 0) (t_ki f Q) = f (zb v) (t_I (t_L h 32 0 (i64b v)) 13 0 0) := fun f => by
            rw [n162 (h := t_I (t_L h 32 0 (i64b v)) 13 0 0) hd6 (by omega) (by omega) (b := v) e3]
            rfl
          clear hv' e3 r1
          cases v <;> simp [zb, t_13_0, e2, e4]
      exact opB_s hI (r_198 r1) r2 (fr_t (fr_L h 32 0 _) fr_13) rfl rfl
    · exact ff hh
  · refine opB_f hI (k := 1) (by decide) (by decide) (r_198_e2 fun Q => ?_) fun Q => ?_
    · rw [am_97, s_97_0, c75x h1 h3 (pI_x hx)]
      simp only [t_ob_0', true_and, t_kq_E]
    · rw [am_169, s_169_0]
      simp only [t_ob_13, true_and, n101 (h := t_X h) h2 (show D < 1000 by omega), t_ki, s_169_30, s_169_31, s_169_77, s_169_78, pI_x hx, zb_0z]
      simp [zb, t_13_0, nI_l1]
