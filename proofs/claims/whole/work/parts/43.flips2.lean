theorem n135 {h : tH} {D d n : Nat} {χ : tC} (h2 : h.1 13 8 = nI D) (h3 : D ≤ 6) (hd : d < D) (ht : ty h d n) (hχ : tY h d = χ) (w : WS χ n) : rn 135 [.ref 13, .int (nI d)] h (RI (nI (flp χ n))) (fd (wk1 (SD χ d) χ n) 0 n (0, t_I h 13 0 0)).2 := by
  intro Q
  have hd6 : d < 6 := by omega
  have h7 := ht.2.2
  obtain ⟨g0, hg0⟩ : ∃ g0, g0 = t_I h 13 0 0 := ⟨_, rfl⟩
  have i0 : ID χ d g0 g0 := ⟨by rw [hg0, tY_13, hχ], fun _ _ _ => rfl⟩
  have t0 : ty g0 d n := by rw [hg0]; exact ty_13 ht
  have tg : ∀ g, ID χ d g0 g → ty g d n := fun g v => ⟨by omega, by rw [v.2 _ _ (by omega)]; exact t0.2.1, h7⟩
  have cg : ∀ g, ID χ d g0 g → g.1 19 d = nI n := fun g v => (tg g v).2.1
  have hv := vI (show d < 7 by omega) (show 7 < 10000 by decide)
  have step : ∀ i j k, i < j → j < k → k < n → ∀ a g, ID χ d g0 g → AM 125 [.ref 13, .int (nI d), .int (nI i), .int (nI j), .int (nI k)] g (t_ki (fun a1 h1 => (if a1 = (0 : Int32) then AX 6 135 110 [.ref 13, .int (nI d), .int (nI a), .int (nI i), .int (nI j), .int (nI k)] [] h1 Q else AM 104 [.ref 13, .int (nI d), .int (nI i), .int (nI j), .int (nI k)] h1 (t_ki (fun a2 h2 => AM 105 [.ref 13, .int (nI d), .int (nI i), .int (nI j), .int (nI k), .int (-a2)] h2 (t_kv (fun h3 => AX 6 135 110 [.ref 13, .int (nI d), .int (nI a + 1), .int (nI i), .int (nI j), .int (nI k)] [] h3 Q) Q)) Q))) Q) = AX 6 135 110 [.ref 13, .int (nI d), .int (nI (a + flv χ n i j k)), .int (nI i), .int (nI j), .int (nI k)] [] (SD χ d i j k g) Q := by
    intro i j k hij hjk hk a g v
    have e1 : tY (hSet g d i j k (-χ i j k)) d = setC χ i j k (-χ i j k) := by rw [tY_set (by omega) (by omega) (by omega), v.1]
    rw [n125 (tg g v) (by omega) (by omega) hk, v.1]
    unfold flv SD
    cases hq : qhold (setC χ i j k (-χ i j k)) n with
    | true =>
      simp (disch := omega) only [t_ki, if_true, n104, n105, e1, t_kv, setC_self (show i ≠ j by omega) (show j ≠ k by omega) (show i ≠ k by omega), neg_neg32, nI_1]
      rw [if_neg (by decide)]
      rfl
    | false =>
      simp only [t_ki, Bool.false_eq_true, if_false, if_true]
      rfl
  have l3 := fun (i j : Nat) (hij : i < j) (hj : j < n) (F : Nat × tH → Prop) (hF : ∀ a w, ID χ d g0 a.2 → AX 6 135 45 [.ref 13, .int (nI d), .int (nI a.1), .int (nI i), .int (nI (j + 1)), w] [] a.2 Q = F a) =>
    lp (β := Unit) (L := fun k a w => AX 6 135 62 [.ref 13, .int (nI d), .int (nI a.1), .int (nI i), .int (nI j), .int (nI k)] [] a.2 Q) (E := F) (f := wk3 (SD χ d) χ n i j) (n := n) (fun k a => j < k ∧ ID χ d g0 a.2)
      (fun a x v => by
        rw [s_135_62, nC (by omega), cg _ v.2, if_pos (Int32.le_refl _), nI_1, hF a _ v.2]
        simp only [t_ob_13, true_and, hv])
      (fun k a x G hk v hG => by
        rw [s_135_62, nC (by omega), cg _ v.2]
        simp (disch := omega) only [t_ob_13, true_and, nI_le', hv]
        have st := step i j k hij v.1 hk a.1 a.2 v.2
        rw [if_neg (by omega), st, s_135_110, nI_1]
        exact hG (a.1 + flv χ n i j k, SD χ d i j k a.2) () ⟨by omega, ID_s w h7 (by omega) (by omega) hk v.2⟩)
  have l2 := fun (i : Nat) (hi : i < n) (F : Nat × tH → Prop) (hF : ∀ a w w', ID χ d g0 a.2 → AX 6 135 30 [.ref 13, .int (nI d), .int (nI a.1), .int (nI (i + 1)), w, w'] [] a.2 Q = F a) =>
    lp (β := Value) (L := fun j a w => AX 6 135 45 [.ref 13, .int (nI d), .int (nI a.1), .int (nI i), .int (nI j), w] [] a.2 Q) (E := F) (f := wk2 (SD χ d) χ n i) (n := n) (fun j a => i < j ∧ ID χ d g0 a.2)
      (fun a x v => by
        rw [s_135_45, nC (by omega), cg _ v.2, if_pos (Int32.le_refl _), nI_1, hF a _ _ v.2]
        simp only [t_ob_13, true_and, hv])
      (fun j a x G hj v hG => by
        rw [s_135_45, nC (by omega), cg _ v.2]
        simp (disch := omega) only [t_ob_13, true_and, nI_le', hv, nI_1]
        rw [if_neg (by omega)]
        exact l3 i j v.1 hj G (fun a w v => hG a w ⟨by omega, v⟩) (n - (j + 1)) (j + 1) (by omega) a () ⟨by omega, v.2⟩)
  have l1 := lp (β := Value × Value) (L := fun i a w => AX 6 135 30 [.ref 13, .int (nI d), .int (nI a.1), .int (nI i), w.1, w.2] [] a.2 Q) (E := fun a => Q (RI (nI a.1)) a.2) (f := wk1 (SD χ d) χ n) (n := n) (fun _ a => ID χ d g0 a.2)
      (fun a x v => by
        rw [s_135_30, nC (by omega), cg _ v, if_pos (Int32.le_refl _)]
        simp only [t_ob_13, true_and, hv])
      (fun i a x G hi v hG => by
        rw [s_135_30, nC (by omega), cg _ v]
        simp (disch := omega) only [t_ob_13, true_and, nI_le', hv, nI_1]
        rw [if_neg (by omega)]
        exact l2 i hi G (fun a w w' v => hG a (w, w') v) (n - (i + 1)) (i + 1) (by omega) a x.2 ⟨by omega, v⟩)
  rw [am_135, s_135_0]
  simp only [t_ob_13, true_and, n101 h2 (show D < 1000 by omega), t_ki]
  rw [pI_nI (by omega) (by omega)]
  have := l1 n 0 (by omega) (0, g0) (.float 0, .float 0) i0
  rw [wk_1, hg0] at this
  simp [hd, zb, t_13_0]
  exact iff_of_eq this
theorem op_flips {h : tH} (hI : IV h) (x : Int32) : opI h 185 [.ref 0, .int x, .ref 32] 135 [.ref 13, .int x] := by
  obtain ⟨D, h1, h2, h3, h4⟩ := IV_D hI
  by_cases hx : pI x D = true
  · obtain ⟨d, hd, rfl⟩ := (pI_iff (by omega)).mp hx
    obtain ⟨n, hn⟩ := h4 d hd
    have hd6 : d < 6 := by omega
    obtain ⟨t1, t2⟩ := DV_t hd6 hn
    have h7 := t1.2.2
    obtain ⟨χ, hχ⟩ : ∃ χ, χ = tX h (70 + d) := ⟨_, rfl⟩
    have hχY : tY h d = χ := by rw [hχ]; exact hn.2.2.2.2.1.symm
    have w : WS χ n := by rw [hχ]; exact hn.2.2.2.2.2.1
    have hh : qhold χ n = true := by rw [hχ]; exact hn.2.2.2.2.2.2.1
    obtain ⟨A, hA⟩ : ∃ A, A = (fd (wk1 (SC χ d) χ n) 0 n (0, h)).2 := ⟨_, rfl⟩
    have vA : IC χ d h A := by
      rw [hA]
      exact wk_I (SC χ d) χ n (I := IC χ d h) (fun i j k g a b c v => IC_s w h7 (by omega) (by omega) c v) ⟨hχ.symm, fun _ _ _ => rfl⟩
    have r1 := c84 h1 h3 hd t1 hχ.symm w hh
    rw [← hA] at r1
    obtain ⟨g, hg⟩ : ∃ g, g = t_L A 32 0 (nI (flp χ n)).toInt64 := ⟨_, rfl⟩
    have ag : ∀ k' i', g.1 k' i' = A.1 k' i' := fun _ _ => by rw [hg]; rfl
    have gY : tY g d = χ := by rw [← hχY]; exact tY_o fun m hm => by rw [ag, vA.2 _ _ (by omega)]
    have r2 := n135 (h := g) (D := D) (by rw [ag, vA.2 _ _ (by omega)]; exact h2) h3 hd ⟨by omega, by rw [ag, vA.2 _ _ (by omega)]; exact t2.2.1, h7⟩ gY w
    obtain ⟨Z, hZ⟩ : ∃ Z, Z = (fd (wk1 (SD χ d) χ n) 0 n (0, t_I g 13 0 0)).2 := ⟨_, rfl⟩
    have vZ : ID χ d (t_I g 13 0 0) Z ∧ Z.2 = g.2 := by
      rw [hZ]
      exact wk_I (SD χ d) χ n (I := fun y => ID χ d (t_I g 13 0 0) y ∧ y.2 = g.2) (fun i j k y a b c v => ⟨ID_s w h7 (by omega) (by omega) c v.1, v.2⟩) ⟨⟨by rw [tY_13, gY], fun _ _ _ => rfl⟩, rfl⟩
    rw [← hZ] at r2
    have cZ : ∀ k' i', ¬ (k' = 20 ∧ 343 * d ≤ i' ∧ i' < 343 * d + 343) → ¬ (k' = 13 ∧ i' = 0) → Z.1 k' i' = A.1 k' i' := fun k' i' a b => by rw [vZ.1.2 _ _ a, t_I_at, if_neg b, ag]
    have eX : tX Z (70 + d) = χ := by
      rw [← vA.1]
      exact tX_o fun m hm => cZ _ _ (by omega) (by omega)
    have v' : DV Z d n := DV_cong (by rw [eX, hχ]) (by rw [vZ.1.1, hχY]) (fun k' i' e => by rw [cZ _ _ (by omega) (by omega), vA.2 _ _ (by omega)]) hn
    have fZ : frX d h Z := fun k' i' e n1 => by
      have n4 : ¬ (k' = 13 ∧ i' = 0) := fun y => by rw [y.1, y.2] at e; cases e
      rw [cZ _ _ (by omega) n4, vA.2 _ _ (by omega)]
    refine ⟨0, g, Z, nI (flp χ n), by decide, ?_, r2, IV_upd hI h1 h3 hd fZ v', ?_, fun _ => ?_⟩
    · rw [hg]; exact r_185 r1
    · rw [vZ.1.2 _ _ (by omega)]; rfl
    · rw [vZ.2, hg]; rfl
  · refine opI_f hI (k := 1) (by decide) (by decide) (r_185_e2 fun Q => ?_) fun Q => ?_
    · rw [am_84, s_84_0, c75x h1 h3 (pI_x hx)]
      simp only [t_ob_0', true_and, t_kq_E]
    · rw [am_135, s_135_0]
      simp only [t_ob_13, true_and, n101 (h := t_X h) h2 (show D < 1000 by omega), t_ki, pI_x hx]
      simp [zb, t_13_0, nI_l1]
