/-! ===== triangulations: the calls ===== -/
theorem n170 {h : tH} {n s : Nat} {χ : tC} (hm : MR h χ n) (h7 : n < 7) (Q : tO → tH → Prop) : AM 170 [.ref 13, .int (nI s), .int (nI (nseg n))] h Q = Q (RI (zb (WH χ n (XS (PI n) s 0)))) h := by
  obtain ⟨f1, f2, f3, f4, f5, f6, f7⟩ := pos_f n h7
  have l := lpa (β := Unit) (L := fun k v _ => AX 0 170 5 [.ref 13, .int (nI s), .int (nI (nseg n)), .int (zb v), .int (nI k)] [] h Q) (E := fun v => Q (RI (zb v)) h) (f := fun k => bt (nI s) k == decide (h.1 31 k &&& nI s = 0)) (n := nseg n)
    (fun v _ => by rw [s_170_5, if_pos (Int32.le_refl _), s_170_69, zb_z])
    (fun k _ hk => by
      rw [s_170_5]
      simp (disch := omega) only [nI_le', zb_f, s_170_69]
      rw [if_neg (by omega)]
      simp only [if_true, true_or, true_and])
    (fun k _ A B hk hA hB => by
      simp only [zb_t, zb_f] at hA hB
      have e := shr_iff (x := nI s) (p := k) (by omega)
      rw [s_170_5]
      simp (disch := omega) only [nI_le', zb_t, t_ob_13, true_and, vI (show k < 15 by omega) (show 15 < 10000 by decide), nC, s_170_62, nI_1]
      rw [if_neg (by omega), if_neg (show ¬ (1 : Int32) = 0 by decide)]
      by_cases b : bt (nI s) k = true
      · rw [if_neg (fun z => z (by rw [e]; exact b)), b]
        by_cases c : h.1 31 k &&& nI s = 0
        · rw [if_neg (fun z => z c), hA ()]; simp [c]
        · rw [if_pos c, hB ()]; simp [c]
      · rw [if_pos (fun z => b (by rw [← e]; exact z))]
        have b' : bt (nI s) k = false := by simpa using b
        rw [b']
        by_cases c : h.1 31 k &&& nI s = 0
        · rw [if_pos c, hB ()]; simp [c]
        · rw [if_neg c, hA ()]; simp [c])
  have l0 := l (nseg n) 0 (by omega) true ()
  simp only [Bool.true_and, zb_t] at l0
  have ef : aB (fun k => bt (nI s) k == decide (h.1 31 k &&& nI s = 0)) 0 (nseg n) = WH χ n (XS (PI n) s 0) := by
    have tb : ∀ k, k < nseg n → bt (nI s) k = s.testBit k := fun k hk => by
      rw [bt_nI, decide_eq_true (show k < 32 by omega), Bool.true_and]
    have mk : ∀ k, k < nseg n → decide (h.1 31 k &&& nI s = 0) = fre χ n (XS (PI n) s 0) (sgn n k).1 (sgn n k).2 := fun k hk => by
      rw [Bool.eq_iff_iff, decide_eq_true_eq, fre_iff]
      constructor
      · intro z i j hij hj t
        rw [XS_pos h7 hij hj] at t
        obtain ⟨p1, p2⟩ := f1 j hj i hij
        cases q : qcross χ (sgn n k).1 (sgn n k).2 i j with
        | false => rfl
        | true =>
          have m := (hm k (pos n i j) hk).mpr ⟨p1, by rw [p2]; exact q⟩
          have := congrArg (fun z => bt z (pos n i j)) z
          simp only [b_and, b_0, m, tb _ p1, t] at this
          cases this
      · intro z
        refine b_ext fun q hq => ?_
        rw [b_and, b_0]
        cases m : bt (h.1 31 k) q with
        | false => rfl
        | true =>
          obtain ⟨q1, q2⟩ := (hm k q hk).mp m
          obtain ⟨s1, s2, s3⟩ := f2 q q1
          cases t : bt (nI s) q with
          | false => rfl
          | true =>
            rw [tb q q1] at t
            have := z _ _ s1 s2 (by rw [XS_pos h7 s1 s2, s3]; exact t)
            rw [q2] at this; cases this
    rw [Bool.eq_iff_iff, aB_iff, WH_iff]
    constructor
    · intro z i j hij hj
      obtain ⟨p1, p2⟩ := f1 j hj i hij
      have := z (pos n i j) (by omega) (by omega)
      rw [beq_iff_eq, mk _ p1, tb _ p1, p2] at this
      rw [XS_pos h7 hij hj, this]
    · intro z k _ hk
      obtain ⟨s1, s2, s3⟩ := f2 k (by omega)
      have := z _ _ s1 s2
      rw [XS_pos h7 s1 s2, s3] at this
      rw [beq_iff_eq, mk _ (by omega), tb _ (by omega), Bool.eq_iff_iff]
      exact this
  rw [ef] at l0
  rw [am_170, s_170_0]
  exact l0
theorem one_p2 {c : Nat} (hc : c ≤ 15) : one c = nI (2 ^ c) ∧ 2 ^ c ≤ 32768 := by
  have hh : ∀ c, c < 16 → one c = nI (2 ^ c) ∧ 2 ^ c ≤ 32768 := by decide +kernel
  exact hh c (by omega)
theorem n171l {h : tH} {d n : Nat} {χ : tC} {x2 : Int32} (hm : MR h χ n) (h7 : n < 7) (Q : tO → tH → Prop) : ∀ j k s, k + j = 2 ^ nseg n → AX 4 171 55 [.ref 13, .int (nI d), .int x2, .int (nI (nseg n)), .int (nI s), .int (nI k)] [] h Q = Q (RI (nI (s + sB (fun k => bn (WH χ n (XS (PI n) k 0))) k j))) h := by
  obtain ⟨f1, f2, f3, f4, f5, f6, f7⟩ := pos_f n h7
  obtain ⟨o1, o2⟩ := one_p2 f7
  have eo : (1 : Int32) <<< (nI (nseg n) &&& 31) = nI (2 ^ nseg n) := o1
  intro j
  induction j with
  | zero =>
    intro k s hk
    have : k = 2 ^ nseg n := by omega
    rw [s_171_55, eo, this, if_pos (Int32.le_refl _)]
    rfl
  | succ j ih =>
    intro k s hk
    have lt : (nI (2 ^ nseg n) ≤ nI k) = (2 ^ nseg n ≤ k) := propext (nI_leI (by omega) (by omega))
    rw [s_171_55, eo, if_neg (by rw [lt]; omega), n170 hm h7]
    simp only [t_ob_13, true_and, t_ki, nI_1]
    have e : nI s + (if zb (WH χ n (XS (PI n) k 0)) = (0 : Int32) then (0 : Int32) else 1) = nI (s + bn (WH χ n (XS (PI n) k 0))) := bn_add'
    rw [e, ih (k + 1) _ (by omega), Nat.add_assoc]
    rfl
theorem PI_len (n : Nat) : (PI n).length = nseg n := by unfold PI; rw [List.length_map, List.length_range']
theorem n171 {g : tH} {D d n : Nat} {χ : tC} (hd : g.1 13 8 = nI D) (hD : D ≤ 6) (hdD : d < D) (ht : ty g d n) (hχ : tY g d = χ) (h7 : n < 7) (n0 : 0 < n) : ∃ g', fr g g' ∧ g'.1 13 0 = 0 ∧ g'.2 = g.2 ∧ rn 171 [.ref 13, .int (nI d)] g (RI (nI (SS χ n (PI n) 0))) g' := by
  have hx : pI (nI d) D = true := by rw [pI_nI (by omega) (by omega)]; simpa using hdD
  obtain ⟨k, hk⟩ : ∃ k, k = t_I g 13 0 0 := ⟨_, rfl⟩
  have tk : ty k d n := by rw [hk]; exact ty_13 ht
  have ky : tY k d = χ := by rw [hk, tY_13, hχ]
  have k0 : k.1 13 0 = 0 := by rw [hk]; rfl
  obtain ⟨g', f', m', q'⟩ := n144 (show d < 6 by omega) tk ky h7 n0
  refine ⟨g', fr_t (by rw [hk]; exact fr_13) (fx_fr f'), by rw [f'.1 13 0 (by decide), k0], by rw [f'.2, hk]; rfl, fun Q => ?_⟩
  have e7 : (nI n = (7 : Int32)) = (n = 7) := nI_eq' (a := n) (b := 7) (by omega) (by omega)
  have q := n171l (d := d) (x2 := zb true) m' h7 Q (2 ^ nseg n) 0 0 (by omega)
  rw [Nat.zero_add, ← PI_len n, XS_sum, PI_len n] at q
  rw [am_171, s_171_0, n101 hd (by omega), hx]
  simp (disch := omega) only [t_ob_13, true_and, t_ki, zb_0, Bool.true_eq_false, not_false_eq_true, if_true, vI, nC, ht.2.1, s_171_31]
  rw [if_pos (show ¬ nI n = (7 : Int32) by rw [e7]; omega), ← hk, if_pos (show k.1 13 0 ≤ 0 by rw [k0]; exact Int32.le_refl _), q']
  simp only [t_ki]
  exact q
theorem n171x {g : tH} {D : Nat} {x u : Int32} (hd : g.1 13 8 = nI D) (hD : D ≤ 6) (hh : (pI x D = false ∧ u = 1) ∨ ∃ d, x = nI d ∧ d < D ∧ ty g d 7 ∧ u = 2) : rn 171 [.ref 13, .int x] g (RI 0) (t_I g 13 0 u) := by
  intro Q
  rcases hh with ⟨h1, rfl⟩ | ⟨d, rfl, hdD, ht, rfl⟩
  · rw [am_171, s_171_0, n101 hd (by omega), h1]
    simp only [t_ob_13, true_and, t_ki, zb_0, not_true_eq_false, if_false, s_171_31]
    rw [if_neg (show ¬ (t_I g 13 0 1).1 13 0 ≤ 0 by rw [t_13_0]; decide)]
  · have hx : pI (nI d) D = true := by rw [pI_nI (by omega) (by omega)]; simpa using hdD
    rw [am_171, s_171_0, n101 hd (by omega), hx]
    simp (disch := omega) only [t_ob_13, true_and, t_ki, zb_0, Bool.true_eq_false, not_false_eq_true, if_true, vI, nC, ht.2.1, s_171_31]
    rw [if_neg (show ¬ ¬ nI 7 = (7 : Int32) from fun z => z rfl), if_neg (show ¬ (t_I g 13 0 2).1 13 0 ≤ 0 by rw [t_13_0]; decide)]
theorem lev30' : (t_lev tq_30 [.ref 9, .int 0, .int 0, .int 0] < 33) = True := eq_true (by
  rw [show t_lev tq_30 [.ref 9, .int 0, .int 0, .int 0] = 31 - 0 from lev30 (t := 0) (by omega)]
  omega)
theorem op_triangulations {h : tH} (hI : IV h) (x : Int32) : opI h 199 [.ref 0, .int x, .ref 32] 171 [.ref 13, .int x] := by
  obtain ⟨D, h1, h2, h3, h4⟩ := IV_D hI
  by_cases hx : pI x D = true
  · obtain ⟨d, hd, rfl⟩ := (pI_iff (by omega)).mp hx
    obtain ⟨n, hn⟩ := h4 d hd
    have hd6 : d < 6 := by omega
    obtain ⟨t1, t2⟩ := DV_t hd6 hn
    have n7' := t1.2.2
    obtain ⟨b1, b2, b3, b4', b5, b6, -⟩ := id hn
    have e6 : (nI n ≤ (6 : Int32)) = (n ≤ 6) := nI_le' (a := n) (b := 6) (by omega) (by omega)
    by_cases n7 : n = 7
    · subst n7
      refine opI_f hI (k := 2) (by decide) (by decide) (r_199_e1 fun Q => ?_) (n171x (g := t_X h) h2 h3 (Or.inr ⟨d, rfl, hd, t2, rfl⟩))
      rw [am_98, s_98_0, c75 h1 h3 hd]
      simp only [t_ob_0', true_and, t_kq_r, va_rf_s, s_98_5, o40 hd6, e30, o70 hd6, t1.2.1]
      rw [if_neg (by rw [e6]; omega)]
    · obtain ⟨χ, hχ⟩ : ∃ χ, χ = tX h (70 + d) := ⟨_, rfl⟩
      rw [← hχ] at b5 b6
      have fw : FW χ n (rdM χ n (h.1 10)) (nseg n) 0 0 0 = SS χ n (PI n) 0 := by
        have e := FW_SS (rd_RM n7' (h.1 10)) b6 n7' (nseg n) 0 0 0 (by omega) (fun q hq => by rw [b_0] at hq; cases hq) (fun i j hij hj => by
          rw [b_0, fre_0]
          exact ⟨fun z => (nomatch z), fun z => (nomatch z)⟩) (fun q hq => by rw [b_0] at hq; cases hq) (fun i j hij hj hq => by rw [b_0] at hq; cases hq)
        rw [e]
        exact (SS_perm (List.isPerm_iff.mp (sg_perm n (by omega))) 0).symm
      have r1 : rn 98 [.ref 0, .int (nI d)] h (RI (nI (SS χ n (PI n) 0))) (hR h χ n) := fun Q => by
        have q := m_23 t1 (h := h)
        rw [← hχ] at q
        have q30 : ∀ Q, AM 30 [.ref 9, .int 0, .int 0, .int 0] (hR h χ n) Q = Q (RI (nI (FW χ n (rdM χ n (h.1 10)) (nseg n) 0 0 0))) (hR h χ n) := m_30 (h := hR h χ n) hR_10 hR_9 n7' (nseg n) 0 0 0 (by omega)
        rw [am_98, s_98_0, c75 h1 h3 hd]
        simp only [t_ob_0', true_and, t_kq_r, va_rf_s, s_98_5, o40 hd6, e30, o70 hd6, t1.2.1]
        rw [if_pos (by rw [e6]; omega), q]
        simp only [t_kv]
        rw [lev30', true_and, show hM (t_I h 9 1 (nI n)) (rdM χ n (h.1 10)) = hR h χ n from rfl, q30, fw]
        rfl
      obtain ⟨g', f', z0, z2, r2⟩ := n171 (g := t_L (hR h χ n) 32 0 (nI (SS χ n (PI n) 0)).toInt64) (n := n) (D := D) (d := d) (χ := χ) (by
        show (hR h χ n).1 13 8 = nI D
        rw [hR_o (by decide)]; exact h2) h3 hd ⟨by omega, by
        show (hR h χ n).1 19 d = nI n
        rw [hR_o (by decide)]; exact b4', n7'⟩ (by
        rw [b5, tY_L]
        exact tY_o fun c _ => hR_o (by decide)) (by omega) (by omega)
      refine opI_s hI (r_199 r1) r2 (fr_t (fr_t fr_hR (fr_L _ 32 0 _)) f') z0 ?_
      rw [z2]
      rfl
  · refine opI_f hI (k := 1) (by decide) (by decide) (r_199_e2 fun Q => ?_) (n171x (g := t_X h) h2 h3 (Or.inl ⟨pI_x hx, rfl⟩))
    rw [am_98, s_98_0, c75x h1 h3 (pI_x hx)]
    simp only [t_ob_0', true_and, t_kq_E]
