theorem fo_all {h : tH} {n : Nat} (Q : tO → tH → Prop) : AM 3 [.int (nI n)] h Q = Q (RI (one n - 1)) h := m_firstOnes Q
def hres (χ : tC) (n t : Nat) : Nat := fd (hstep χ n) 0 t (hfirst χ n)
theorem c85 {h : tH} {D d n : Nat} {χ : tC} {y : Int32} (h1 : h.1 0 3 = nI D) (h3 : D ≤ 6) (hd : d < D) (t1 : tn h (70 + d) n) (hχ : tX h (70 + d) = χ) (w : WS χ n) (n3 : 3 ≤ n) (hh : qhold χ n = true) (Q : tO → tH → Prop) : AM 85 [.ref 0, .int (nI d), .int y] h Q =
    (if y < 0 then Q (.inr 2) (t_X h) else if y < nI (pc (hset χ n)) then Q (RI (nI (hres χ n y.toNatClampNeg))) h else Q (RI (-1)) h) := by
  have hd6 : d < 6 := by omega
  have h7 := t1.2.2
  have e1 : phull χ n (one n - 1) = hset χ n := phull_q h7 (all_one n3 h7)
  rw [am_85, s_85_0, c75 h1 h3 hd]
  simp only [t_ob_0', true_and, t_kq_r, va_rf_s, s_85_5, e30, o40 hd6, o70 hd6, t1.2.1, fo_all, m_hullOf t1, hχ, e1, t_ki, m_1, m_lowest]
  by_cases y0 : y < 0
  · rw [if_neg (Int32.not_le.mpr y0), if_pos y0]
  · rw [if_pos (Int32.not_lt.mp y0), if_neg y0]
    by_cases yp : y < nI (pc (hset χ n))
    · rw [if_pos yp, if_pos yp]
      have hp32 : pc (hset χ n) ≤ 32 := cB_le _ 32 0
      obtain ⟨t, ht, rfl⟩ := (pI_iff (x := y) (n := pc (hset χ n)) (by omega)).mp (by
        unfold pI
        have : ¬ nI (pc (hset χ n)) ≤ y := Int32.not_le.mpr yp
        simp [y0, this])
      obtain ⟨f1, f2, -⟩ := hfirst_ok (χ := χ) h7 (by omega)
      rw [f2, nC (by omega)]
      have l := lp (β := Unit) (L := fun k (a : Nat) w => AX 5 85 61 [.ref 0, .int (nI d), .int (nI t), .ref (70 + d), .int (one n - 1), .int (hset χ n), .int (nI a), .int (nI k)] [] h Q) (E := fun a => Q (RI (nI a)) h) (f := hstep χ n) (n := t) (fun _ a => onH χ n a)
        (fun a x v => by
          rw [s_85_61, if_pos (Int32.le_refl _)])
        (fun k a x G hk v hG => by
          obtain ⟨v1, v2⟩ := hstep_ok w n3 h7 hh (k := k) v
          rw [s_85_61]
          simp (disch := omega) only [nI_le', m_after t1 v.1, hχ, v2, t_ki, nI_1]
          rw [if_neg (by omega)]
          exact hG _ () v1)
      exact l t 0 (by omega) _ () f1
    · rw [if_neg yp, if_neg yp]
