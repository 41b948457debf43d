/-! ===== number, cross, edge ===== -/
theorem nI_l1 : nI 1 = 1 := rfl
theorem nI_l2 : nI 2 = 2 := rfl
theorem pI_x {x : Int32} {n : Nat} (h : ¬ pI x n = true) : pI x n = false := by simpa using h
theorem op_number {h : tH} (hI : IV h) (x a y : Int32) : opI h 183 [.ref 0, .int x, .int a, .int y, .ref 32] 133 [.ref 13, .int x, .int a, .int y] := by
  obtain ⟨D, s, w, h1, h2, h3, -, -, h4, -, h6⟩ := id hI
  by_cases hx : pI x D = true
  · obtain ⟨d, hd, rfl⟩ := (pI_iff (by omega)).mp hx
    obtain ⟨n, hn⟩ := h4 d hd
    have hd6 : d < 6 := by omega
    obtain ⟨t1, t2⟩ := DV_t hd6 hn
    have h7 := t1.2.2
    obtain ⟨b, hb1, hb2⟩ := hn.2.2.2.2.2.2.2.1
    have hv := vI hd6 (show 6 < 10000 by decide)
    by_cases ha : pI a n = true
    · obtain ⟨p, hp, rfl⟩ := (pI_iff (by omega)).mp ha
      have p7 : p < 7 := by omega
      cases b with
      | true =>
        have v := h6 d p hd6 p7
        have e7 : (7 : Int32) * nI d + nI p = nI (7 * d + p) := by rw [Int32.mul_comm, show (7 : Int32) = nI 7 from rfl, pk_mul, nI_add, Nat.mul_comm]
        have i42 : ∀ (g : tH) (k : Nat), t_ar k = some (0, 42) → t_in (t_ai g k) (nI (7 * d + p)) = True := fun g k hk => t_in_ai hk (by omega)
        let vv : Int32 := if y = 0 then h.1 (50 + d) p else h.1 (60 + d) p
        have r1 : rn 82 [.ref 0, .int (nI d), .int (nI p), .int y] h (RI vv) h := fun Q => by
          rw [am_82, s_82_0, c75 h1 h3 hd]
          simp only [t_ob_0', true_and, t_kq_r, va_rf_s, s_82_5, c76f hd6 t1, ha, if_true, o40 hd6, hb1, s_82_48, e10, e20, m_get (a50 hd6), m_get (a60 hd6), zg_n p7 (show 7 < 5000 by decide), t_ki]
          rw [if_pos (by decide)]
          by_cases hy : y = 0 <;> simp [hy, vv]
        have r2 : rn 133 [.ref 13, .int (nI d), .int (nI p), .int y] (t_L h 32 0 vv.toInt64) (RI vv) (t_I (t_L h 32 0 vv.toInt64) 13 0 0) := fun Q => by
          rw [am_133, s_133_0]
          have b2 : (t_L h 32 0 vv.toInt64).1 21 d = zb true := hb2
          simp only [t_ob_13, true_and, n101 (h := t_L h 32 0 vv.toInt64) h2 (show D < 1000 by omega), n102 (h := t_L h 32 0 vv.toInt64) t2, t_ki, s_133_21, s_133_22, s_133_48, s_133_91, hx, ha, hv, nC (show d < 10000 by omega), b2, t_13_0, e7, nC (show 7 * d + p < 10000 by omega), i42 _ 22 rfl, i42 _ 23 rfl]
          by_cases hy : y = 0
          · have e : (t_I (t_L h 32 0 vv.toInt64) 13 0 0).1 22 (7 * d + p) = vv := by
              show h.1 22 (7 * d + p) = vv
              rw [v.1]
              simp [vv, hy]
            simp [zb, t_13_0, hy, e]
          · have e : (t_I (t_L h 32 0 vv.toInt64) 13 0 0).1 23 (7 * d + p) = vv := by
              show h.1 23 (7 * d + p) = vv
              rw [v.2]
              simp [vv, hy]
            simp [zb, t_13_0, hy, e]
        exact opI_s hI (r_183 r1) r2 (fr_t (fr_L h 32 0 _) fr_13) rfl rfl
      | false =>
        refine opI_f hI (k := 2) (by decide) (by decide) (r_183_e1 fun Q => ?_) fun Q => ?_
        · rw [am_82, s_82_0, c75 h1 h3 hd]
          simp only [t_ob_0', true_and, t_kq_r, va_rf_s, s_82_5, c76f hd6 t1, ha, if_true, o40 hd6, hb1]
          rw [if_neg (by decide)]
        · rw [am_133, s_133_0]
          have b2 : (t_X h).1 21 d = zb false := hb2
          simp only [t_ob_13, true_and, n101 (h := t_X h) h2 (show D < 1000 by omega), n102 (h := t_X h) t2, t_ki, s_133_21, s_133_22, s_133_48, s_133_91, hx, ha, hv, nC (show d < 10000 by omega), b2, t_13_0]
          simp [zb, t_13_0, nI_l2]
    · refine opI_f hI (k := 1) (by decide) (by decide) (r_183_e2 fun Q => ?_) fun Q => ?_
      · rw [am_82, s_82_0, c75 h1 h3 hd]
        simp only [t_ob_0', true_and, t_kq_r, va_rf_s, s_82_5, c76f hd6 t1, pI_x ha, Bool.false_eq_true, if_false]
      · rw [am_133, s_133_0]
        simp only [t_ob_13, true_and, n101 (h := t_X h) h2 (show D < 1000 by omega), n102 (h := t_X h) t2, t_ki, s_133_21, s_133_22, s_133_48, s_133_91, hx, pI_x ha, t_13_0]
        simp [zb, t_13_0, nI_l1]
  · refine opI_f hI (k := 1) (by decide) (by decide) (r_183_e2 fun Q => ?_) fun Q => ?_
    · rw [am_82, s_82_0, c75x h1 h3 (pI_x hx)]
      simp only [t_ob_0', true_and, t_kq_E]
    · rw [am_133, s_133_0]
      simp only [t_ob_13, true_and, n101 (h := t_X h) h2 (show D < 1000 by omega), t_ki, s_133_21, s_133_22, s_133_48, s_133_91, pI_x hx, t_13_0]
      simp [zb, t_13_0, nI_l1]
def un4 (a b c e : Int32) : Bool := decide (a = b) || decide (a = c) || decide (a = e) || decide (b = c) || decide (b = e) || decide (c = e)
theorem op_cross {h : tH} (hI : IV h) (x a b c e : Int32) : opB h 188 [.ref 0, .int x, .int a, .int b, .int c, .int e, .ref 32] 143 [.ref 13, .int x, .int a, .int b, .int c, .int e] := by
  obtain ⟨D, h1, h2, h3, h4⟩ := IV_D hI
  by_cases hx : pI x D = true
  · obtain ⟨d, hd, rfl⟩ := (pI_iff (by omega)).mp hx
    obtain ⟨n, hn⟩ := h4 d hd
    have hd6 : d < 6 := by omega
    obtain ⟨t1, t2⟩ := DV_t hd6 hn
    have h7 := t1.2.2
    have ff : ¬ (pI a n = true ∧ pI b n = true ∧ pI c n = true ∧ pI e n = true) → opB h 188 [.ref 0, .int (nI d), .int a, .int b, .int c, .int e, .ref 32] 143 [.ref 13, .int (nI d), .int a, .int b, .int c, .int e] := fun hh => by
      refine opB_f hI (k := 1) (by decide) (by decide) (r_188_e2 fun Q => ?_) fun Q => ?_
      · rw [am_87, s_87_0, c75 h1 h3 hd]
        simp only [t_ob_0', true_and, t_kq_r, va_rf_s, s_87_5, c76f hd6 t1]
        by_cases k1 : pI a n = true
        · by_cases k2 : pI b n = true
          · by_cases k3 : pI c n = true
            · by_cases k4 : pI e n = true
              · exact absurd ⟨k1, k2, k3, k4⟩ hh
              · simp only [k1, k2, k3, pI_x k4, if_true, Bool.false_eq_true, if_false]
            · simp only [k1, k2, pI_x k3, if_true, Bool.false_eq_true, if_false]
          · simp only [k1, pI_x k2, if_true, Bool.false_eq_true, if_false]
        · simp only [pI_x k1, Bool.false_eq_true, if_false]
      · rw [am_143, s_143_0]
        simp only [t_ob_13, true_and, n101 (h := t_X h) h2 (show D < 1000 by omega), n102 (h := t_X h) t2, t_ki, s_143_50, s_143_51, s_143_144, s_143_145, hx, zb_0z]
        by_cases k1 : pI a n = true
        · by_cases k2 : pI b n = true
          · by_cases k3 : pI c n = true
            · by_cases k4 : pI e n = true
              · exact absurd ⟨k1, k2, k3, k4⟩ hh
              · simp [k1, k2, k3, pI_x k4, zb, t_13_0, nI_l1]
            · simp [k1, k2, pI_x k3, zb, t_13_0, nI_l1]
          · simp [k1, pI_x k2, zb, t_13_0, nI_l1]
        · simp [pI_x k1, zb, t_13_0, nI_l1]
    by_cases hh : pI a n = true ∧ pI b n = true ∧ pI c n = true ∧ pI e n = true
    · obtain ⟨ka, kb, kc, ke⟩ := hh
      have one : ∀ u : Bool, u = un4 a b c e → (if a = b then (1 : Int32) else (if a = c then (1 : Int32) else (if a = e then (1 : Int32) else (if b = c then (1 : Int32) else (if b = e then (1 : Int32) else (if ¬ c = e then (0 : Int32) else 1)))))) = zb u := fun u hu => by
        subst hu
        unfold un4
        by_cases q1 : a = b
        · simp [q1, zb]
        by_cases q2 : a = c
        · simp [q1, q2, zb]
        by_cases q3 : a = e
        · simp [q1, q2, q3, zb]
        by_cases q4 : b = c
        · simp [q1, q2, q3, q4, zb]
        by_cases q5 : b = e
        · simp [q1, q2, q3, q4, q5, zb]
        by_cases q6 : c = e <;> simp [q1, q2, q3, q4, q5, q6, zb]
      by_cases hu : un4 a b c e = true
      · refine opB_f hI (k := 2) (by decide) (by decide) (r_188_e0 fun Q => ?_) fun Q => ?_
        · rw [am_87, s_87_0, c75 h1 h3 hd]
          simp only [t_ob_0', true_and, t_kq_r, va_rf_s, s_87_5, c76f hd6 t1, ka, kb, kc, ke, if_true, s_87_69]
          unfold un4 at hu
          simp only [Bool.or_eq_true, decide_eq_true_eq] at hu
          by_cases q1 : a = b
          · simp [q1]
          by_cases q2 : a = c
          · simp [q1, q2]
          by_cases q3 : a = e
          · simp [q1, q2, q3]
          by_cases q4 : b = c
          · simp [q1, q2, q3, q4]
          by_cases q5 : b = e
          · simp [q1, q2, q3, q4, q5]
          by_cases q6 : c = e
          · simp [q1, q2, q3, q4, q5, q6]
          · simp [q1, q2, q3, q4, q5, q6] at hu
        · rw [am_143, s_143_0]
          simp only [t_ob_13, true_and, n101 (h := t_X h) h2 (show D < 1000 by omega), n102 (h := t_X h) t2, t_ki, s_143_50, s_143_51, s_143_144, s_143_145, hx, zb_0z, ka, kb, kc, ke, one true hu.symm]
          simp [zb, t_13_0, nI_l2]
      · have hu' := hu
        unfold un4 at hu'
        simp only [Bool.or_eq_true, decide_eq_true_eq, not_or] at hu'
        obtain ⟨⟨⟨⟨⟨q1, q2⟩, q3⟩, q4⟩, q5⟩, q6⟩ := hu'
        obtain ⟨i, hi, rfl⟩ := (pI_iff (by omega)).mp ka
        obtain ⟨j, hj, rfl⟩ := (pI_iff (by omega)).mp kb
        obtain ⟨k, hk, rfl⟩ := (pI_iff (by omega)).mp kc
        obtain ⟨l, hl, rfl⟩ := (pI_iff (by omega)).mp ke
        have r1 : rn 87 [.ref 0, .int (nI d), .int (nI i), .int (nI j), .int (nI k), .int (nI l)] h (RI (zb (pparts (tX h (70 + d)) i j k l))) h := fun Q => by
          rw [am_87, s_87_0, c75 h1 h3 hd]
          simp (disch := omega) only [t_ob_0', true_and, t_kq_r, va_rf_s, s_87_5, c76f hd6 t1, ka, kb, kc, ke, if_true, o40 hd6, e30, o70 hd6, m_parts (o70 hd6), t_ki, zb_z]
          rw [if_neg q1, if_neg q2, if_neg q3, if_neg q4, if_neg q5, if_pos q6]
        obtain ⟨v, hv⟩ : ∃ v, v = pparts (tX h (70 + d)) i j k l := ⟨_, rfl⟩
        rw [← hv] at r1
        have ev : qcross (tY h d) i j k l = v := by
          rw [← hn.2.2.2.2.1]
          rw [nI_eq' (by omega) (by omega)] at q1 q2 q3 q4 q5 q6
          unfold qcross
          simp [q1, q2, q3, q4, q5, q6, hv]
        have r2 : rn 143 [.ref 13, .int (nI d), .int (nI i), .int (nI j), .int (nI k), .int (nI l)] (t_L h 32 0 (i64b v)) (RI (zb v)) (t_I (t_L h 32 0 (i64b v)) 13 0 0) := fun Q => by
          have e2 : ∀ f : Int32 → tH → Prop, AM 142 [.ref 13, .int (nI d), .int (nI i), .int (nI j), .int (nI k), .int (nI l)] (t_I (t_L h 32 0 (i64b v)) 13 0 0) (t_ki f Q) = f (zb v) (t_I (t_L h 32 0 (i64b v)) 13 0 0) := fun f => by
            rw [n142 (by omega) (by omega) (by omega) (by omega) (by omega), tY_13, tY_L, ev]
            rfl
          rw [am_143, s_143_0]
          simp only [t_ob_13, true_and, n101 (h := t_L h 32 0 (i64b v)) h2 (show D < 1000 by omega), n102 (h := t_L h 32 0 (i64b v)) t2, t_ki, s_143_50, s_143_51, s_143_144, s_143_145, hx, zb_0z, zb_1z, ka, kb, kc, ke, one false (Bool.eq_false_iff.mpr hu).symm]
          cases v <;> simp [zb, t_13_0, e2]
        exact opB_s hI (r_188 r1) r2 (fr_t (fr_L h 32 0 _) fr_13) rfl rfl
    · exact ff hh
  · refine opB_f hI (k := 1) (by decide) (by decide) (r_188_e2 fun Q => ?_) fun Q => ?_
    · rw [am_87, s_87_0, c75x h1 h3 (pI_x hx)]
      simp only [t_ob_0', true_and, t_kq_E]
    · rw [am_143, s_143_0]
      simp only [t_ob_13, true_and, n101 (h := t_X h) h2 (show D < 1000 by omega), t_ki, s_143_50, s_143_51, s_143_144, s_143_145, pI_x hx, zb_0z]
      simp [zb, t_13_0, nI_l1]
