theorem fo_all {h : tH} {n : Nat} (Q : tO → tH → Prop) : AM 3 [.int (nI n)] h Q = Q (RI (one n - 1)) h := m_firstOnes Q
def hres (χ : tC) (n t : Nat) : Nat := fd (hstep χ n) 0 t (hfirst χ n)
theorem c85 {h : tH} {D d n : Nat} {χ : tC} {y : Int32} (h1 : h.1 0 3 = nI D) (h3 : D ≤ 6) (hd : d < D) (t1 : tn h (70 + d) n) (hχ : tX h (70 + d) = χ) (w : WS χ n) (n3 : 3 ≤ n) (hh : qhold χ n = true) (Q : tO → tH → Prop) : AM 85 [.ref 0, .int (nI d), .int y] h Q =
    (if y < 0 then Q (.inr 2) (t_X h) else if y < nI (pc (hset χ n)) then Q (RI (nI (hres χ n y.toNatClampNeg))) h else Q (RI (-1)) h) := by
  have hd6 : d < 6 := by omega
  have h7 := t1.2.2
  have e1 : phull χ n (one n - 1) = hset χ n := phull_q h7 (all_one n3 h7)
  rw [am_85, s_85_0, c75 h1 h3 hd]
  simp only [t_ob_0', true_and, t_kq_r, va_rf_s, s_85_5, e30, o40 hd6, o70 hd6, t1.2.1, fo_all, m_hullOf t1, hχ, e1, t_ki, m_1, m_lowest]
  by_cases y0 : y < 0
  · rw [if_neg (Int32.not_le.mpr y0), if_pos y0]
  · rw [if_pos (Int32.not_lt.mp y0), if_neg y0]
    by_cases yp : y < nI (pc (hset χ n))
    · rw [if_pos yp, if_pos yp]
      have hp32 : pc (hset χ n) ≤ 32 := cB_le _ 32 0
      obtain ⟨t, ht, rfl⟩ := (pI_iff (x := y) (n := pc (hset χ n)) (by omega)).mp (by
        unfold pI
        have : ¬ nI (pc (hset χ n)) ≤ y := Int32.not_le.mpr yp
        simp [y0, this])
      obtain ⟨f1, f2, -⟩ := hfirst_ok (χ := χ) h7 (by omega)
      rw [f2, nC (by omega)]
      have l := lp (β := Unit) (L := fun k (a : Nat) w => AX 5 85 61 [.ref 0, .int (nI d), .int (nI t), .ref (70 + d), .int (one n - 1), .int (hset χ n), .int (nI a), .int (nI k)] [] h Q) (E := fun a => Q (RI (nI a)) h) (f := hstep χ n) (n := t) (fun _ a => onH χ n a)
        (fun a x v => by
          rw [s_85_61, if_pos (Int32.le_refl _)])
        (fun k a x G hk v hG => by
          obtain ⟨v1, v2⟩ := hstep_ok w n3 h7 hh (k := k) v
          rw [s_85_61]
          simp (disch := omega) only [nI_le', m_after t1 v.1, hχ, v2, t_ki, nI_1]
          rw [if_neg (by omega)]
          exact hG _ () v1)
      exact l t 0 (by omega) _ () f1
    · rw [if_neg yp, if_neg yp]
theorem n140 {g : tH} {D d n : Nat} {χ : tC} {y : Int32} (h2 : g.1 13 8 = nI D) (h3 : D ≤ 6) (hd : d < D) (ht : ty g d n) (hχ : tY g d = χ) (w : WS χ n) (n3 : 3 ≤ n) (hh : qhold χ n = true) (Q : tO → tH → Prop) : AM 140 [.ref 13, .int (nI d), .int y] g Q =
    (if y < 0 then Q (RI 0) (t_I g 13 0 1) else if y < nI (pc (hset χ n)) then Q (RI (nI (hres χ n y.toNatClampNeg))) (t_I g 13 0 0) else Q (RI (-1)) (t_I g 13 0 0)) := by
  have hd6 : d < 6 := by omega
  have h7 := ht.2.2
  have hx : pI (nI d) D = true := by rw [pI_nI (by omega) (by omega)]; simpa using hd
  have hv := vI (show d < 7 by omega) (show 7 < 10000 by decide)
  have e1 : qhull (tY (t_I g 13 0 0) d) n (one n - 1) = hset χ n := by rw [tY_13, hχ]; rfl
  have tg : ty (t_I g 13 0 0) d n := ty_13 ht
  rw [am_140, s_140_0]
  simp only [t_ob_13, true_and, n101 h2 (show D < 1000 by omega), t_ki, hx]
  by_cases y0 : y < 0
  · rw [if_pos y0]
    simp [y0, zb, t_13_0]
  · rw [if_neg y0]
    have st : ∀ f : Int32 → tH → Prop, AM 139 [.ref 13, .int (nI d)] (t_I g 13 0 0) (t_ki f Q) = f (one n - 1) (t_I g 13 0 0) := fun f => by rw [n139 tg]; rfl
    have st2 : ∀ f : Int32 → tH → Prop, AM 137 [.ref 13, .int (nI d), .int (one n - 1)] (t_I g 13 0 0) (t_ki f Q) = f (hset χ n) (t_I g 13 0 0) := fun f => by rw [n137 tg, e1]; rfl
    have st3 : ∀ f : Int32 → tH → Prop, AM 138 [.int (hset χ n)] (t_I g 13 0 0) (t_ki f Q) = f (nI (pc (hset χ n))) (t_I g 13 0 0) := fun f => by rw [n138 (hset_7 h7)]; rfl
    simp only [zb, if_true, show ¬ ((1 : Int32) = 0) by decide, if_false, y0, t_13_0, st, st2, st3]
    rw [if_pos (Int32.le_refl _)]
    by_cases yp : y < nI (pc (hset χ n))
    · rw [if_pos yp, if_pos yp]
      have hp32 : pc (hset χ n) ≤ 32 := cB_le _ 32 0
      obtain ⟨t, ht', rfl⟩ := (pI_iff (x := y) (n := pc (hset χ n)) (by omega)).mp (by
        unfold pI
        have : ¬ nI (pc (hset χ n)) ≤ y := Int32.not_le.mpr yp
        simp [y0, this])
      obtain ⟨f1, f2, f3⟩ := hfirst_ok (χ := χ) h7 (by omega)
      rw [nC (by omega)]
      have hf7 : hfirst χ n < 7 := by have := f1.1; omega
      have sk : ∀ m k, k + m = hfirst χ n → AX 4 140 54 [.ref 13, .int (nI d), .int (nI t), .int (hset χ n), .int (nI k), .float 0] [] (t_I g 13 0 0) Q = AX 4 140 72 [.ref 13, .int (nI d), .int (nI t), .int (hset χ n), .int (nI (hfirst χ n)), .int (nI 0)] [] (t_I g 13 0 0) Q := by
        intro m
        induction m with
        | zero =>
          intro k hk
          have : k = hfirst χ n := by omega
          subst this
          have hb : bt (hset χ n) (hfirst χ n) = true := (hset_bt h7).mpr f1
          rw [s_140_54, if_pos (by rw [shr_0 (by omega), hb]; simp)]
          rfl
        | succ m ih =>
          intro k hk
          have hb := f3 k (by omega)
          rw [s_140_54, if_neg (by rw [shr_0 (by omega), hb]; simp), nI_1]
          exact ih (k + 1) (by omega)
      have l := lp (β := Unit) (L := fun k (a : Nat) w => AX 4 140 72 [.ref 13, .int (nI d), .int (nI t), .int (hset χ n), .int (nI a), .int (nI k)] [] (t_I g 13 0 0) Q) (E := fun a => Q (RI (nI a)) (t_I g 13 0 0)) (f := hstep χ n) (n := t) (fun _ a => onH χ n a)
        (fun a x v => by
          rw [s_140_72, if_pos (Int32.le_refl _)])
        (fun k a x G hk v hG => by
          obtain ⟨v1, v2⟩ := hstep_ok w n3 h7 hh (k := k) v
          have st4 : ∀ f : Int32 → tH → Prop, AM 136 [.ref 13, .int (nI d), .int (one n - 1), .int (nI a)] (t_I g 13 0 0) (t_ki f Q) = f (nI (hstep χ n k a)) (t_I g 13 0 0) := fun f => by rw [n136 tg v.1, tY_13, hχ, v2]; rfl
          rw [s_140_72]
          simp (disch := omega) only [t_ob_13, true_and, nI_le', st, st4, nI_1]
          rw [if_neg (by omega)]
          exact hG _ () v1)
      exact (sk (hfirst χ n) 0 (by omega)).trans (l t 0 (by omega) _ () f1)
    · rw [if_neg yp, if_neg yp]
theorem op_hull {h : tH} (hI : IV h) (x y : Int32) : opI h 186 [.ref 0, .int x, .int y, .ref 32] 140 [.ref 13, .int x, .int y] := by
  obtain ⟨D, h1, h2, h3, h4⟩ := IV_D hI
  by_cases hx : pI x D = true
  · obtain ⟨d, hd, rfl⟩ := (pI_iff (by omega)).mp hx
    obtain ⟨n, hn⟩ := h4 d hd
    obtain ⟨t1, t2⟩ := DV_t (by omega) hn
    have hχY : tY h d = tX h (70 + d) := hn.2.2.2.2.1.symm
    have w := hn.2.2.2.2.2.1
    have hh := hn.2.2.2.2.2.2.1
    have cc := fun Q => c85 (y := y) h1 h3 hd t1 rfl w hn.1 hh Q
    by_cases y0 : y < 0
    · refine opI_f hI (k := 1) (by decide) (by decide) (r_186_e2 fun Q => ?_) fun Q => ?_
      · rw [cc, if_pos y0]
      · rw [n140 (g := t_X h) h2 h3 hd t2 hχY w hn.1 hh, if_pos y0]
        rfl
    · obtain ⟨v, hv⟩ : ∃ v : Int32, v = if y < nI (pc (hset (tX h (70 + d)) n)) then nI (hres (tX h (70 + d)) n y.toNatClampNeg) else -1 := ⟨_, rfl⟩
      have r1 : rn 85 [.ref 0, .int (nI d), .int y] h (RI v) h := fun Q => by
        rw [cc, if_neg y0, hv]
        split <;> rfl
      have r2 : rn 140 [.ref 13, .int (nI d), .int y] (t_L h 32 0 v.toInt64) (RI v) (t_I (t_L h 32 0 v.toInt64) 13 0 0) := fun Q => by
        rw [n140 (g := t_L h 32 0 v.toInt64) h2 h3 hd t2 hχY w hn.1 hh, if_neg y0]
        clear r1
        rw [hv]
        split <;> rfl
      exact opI_s hI (r_186 r1) r2 (fr_t (fr_L h 32 0 _) fr_13) rfl rfl
  · refine opI_f hI (k := 1) (by decide) (by decide) (r_186_e2 fun Q => ?_) fun Q => ?_
    · rw [am_85, s_85_0, c75x h1 h3 (pI_x hx)]
      simp only [t_ob_0', true_and, t_kq_E]
    · rw [am_140, s_140_0]
      simp only [t_ob_13, true_and, n101 (h := t_X h) h2 (show D < 1000 by omega), t_ki, pI_x hx]
      simp [zb, t_13_0, nI_l1]
