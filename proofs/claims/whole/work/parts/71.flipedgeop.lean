/-! ===== flipEdge: the calls ===== -/
theorem op_flipEdge {h : tH} (hI : IV h) (x a c : Int32) : opI h 197 [.ref 0, .int x, .int a, .int c, .ref 32] 168 [.ref 13, .int x, .int a, .int c] := by
  obtain ⟨D, h1, h2, h3, h4⟩ := IV_D hI
  by_cases hx : pI x D = true
  · obtain ⟨d, hd, rfl⟩ := (pI_iff (by omega)).mp hx
    obtain ⟨n, hn⟩ := h4 d hd
    have hd6 : d < 6 := by omega
    obtain ⟨t1, t2⟩ := DV_t hd6 hn
    have n7' := t1.2.2
    by_cases hp : (pI a n && pI c n) = true
    · have hp' := hp
      simp only [Bool.and_eq_true] at hp'
      obtain ⟨i, hi, rfl⟩ := (pI_iff (by omega)).mp hp'.1
      obtain ⟨j, hj, rfl⟩ := (pI_iff (by omega)).mp hp'.2
      have hi7 : i < 7 := by omega
      have hj7 : j < 7 := by omega
      obtain ⟨b1, b2, b3, b4', b5', b6, b7, ⟨b8, b81, b82⟩, ⟨b, b9, b10, b11⟩⟩ := id hn
      obtain ⟨χ, hχ⟩ : ∃ χ, χ = tX h (70 + d) := ⟨_, rfl⟩
      obtain ⟨E, hE'⟩ : ∃ E, E = h.1 (40 + d) 4 := ⟨_, rfl⟩
      have hY : tY h d = χ := by rw [hχ]; exact b5'.symm
      have ws : WS χ n := by rw [hχ]; exact b6
      have hh : qhold χ n = true := by rw [hχ]; exact b7
      have cc := c96 h1 h3 hd t1 b9 hi hj
      -- what is refused
      have no : (∀ Q, AM 96 [.ref 0, .int (nI d), .int (nI i), .int (nI j)] h Q = Q (.inr 1) (t_X h)) → rn 167 [.ref 13, .int (nI d), .int (nI i), .int (nI j)] (t_X h) (RI (zb false)) (t_X h) → opI h 197 [.ref 0, .int (nI d), .int (nI i), .int (nI j), .ref 32] 168 [.ref 13, .int (nI d), .int (nI i), .int (nI j)] := fun q1 q2 =>
        opI_f hI (k := 2) (by decide) (by decide) (r_197_e1 q1) fun Q => by
          rw [n168 (g := t_X h) h2 h3 hd t2 hi hj q2, if_neg (by decide)]
          rfl
      have m167 := n167 (g := t_X h) (E := E) (χ := χ) (b := b) hd6 t2 hY b10 hi hj (fun hb p q hp hq => by rw [hE']; exact (b11 hb).1 p q hp hq)
      by_cases he : (b && (!decide (i = j) && bt E (sx i j))) = true
      · have he' := he
        simp only [Bool.and_eq_true, Bool.not_eq_true', decide_eq_false_iff_not] at he'
        obtain ⟨hb, ij, tij⟩ := he'
        subst hb
        have tv := b11 rfl
        have pl : PL χ n E := by rw [hχ, hE']; exact tv.2
        rw [← hE', he] at cc
        simp only [he, if_true] at m167
        have f1 := pF_iff (f := crn χ n E i j 1) n 0 (by omega)
        have f2 := pF_iff (f := crn χ n E i j (-1)) n 0 (by omega)
        rcases f1 with ⟨f11, f12⟩ | ⟨k, -, kn, ck, f13, -⟩
        · refine no (fun Q => ?_) (fun Q => ?_)
          · rw [cc, if_pos rfl, c96s (k0 := 0) (l0 := 0) hd6 t1 b9 hE'.symm hi hj (fun k l hk hl z => by
              rw [← hχ] at z
              have := f12 k (by omega) (by omega)
              unfold cnd at z
              rw [this] at z; cases z) (Or.inr (by
              rw [← hχ]
              unfold cnd
              rw [f12 0 (by omega) (by omega)]; rfl)), if_neg (by
              rintro ⟨-, -, z⟩
              rw [← hχ] at z
              unfold cnd at z
              rw [f12 0 (by omega) (by omega)] at z; cases z)]
          · rw [m167, if_pos f11]; rfl
        · rw [Nat.zero_add] at kn
          rcases f2 with ⟨f21, f22⟩ | ⟨l, -, ln, cl, f23, -⟩
          · refine no (fun Q => ?_) (fun Q => ?_)
            · rw [cc, if_pos rfl, c96s (k0 := 0) (l0 := 0) hd6 t1 b9 hE'.symm hi hj (fun k l hk hl z => by
                rw [← hχ] at z
                have := f22 l (by omega) (by omega)
                unfold cnd at z
                rw [this, Bool.false_and, Bool.and_false] at z; cases z) (Or.inr (by
                rw [← hχ]
                unfold cnd
                rw [f22 0 (by omega) (by omega), Bool.false_and, Bool.and_false])), if_neg (by
                rintro ⟨-, -, z⟩
                rw [← hχ] at z
                unfold cnd at z
                rw [f22 0 (by omega) (by omega), Bool.false_and, Bool.and_false] at z; cases z)]
            · rw [m167, if_neg (by rw [f13]; exact nI_m1 (by omega)), if_pos f21]; rfl
          · rw [Nat.zero_add] at ln
            obtain ⟨k1, k2, k3, k4, k5, k6⟩ := crn_iff.mp ck
            obtain ⟨l1, l2, l3, l4, l5, l6⟩ := crn_iff.mp cl
            have kl : k ≠ l := fun z => by
              rw [z, l1] at k1
              exact absurd k1 (by decide)
            have un : ∀ k' l', k' < n → l' < n → cnd χ n E i j k' l' = true → k' = k ∧ l' = l := fun k' l' hk' hl' z => by
              unfold cnd at z
              simp only [Bool.and_eq_true] at z
              exact ⟨crn_un ws n7' pl hi hj ij hk' kn z.1 ck, crn_un ws n7' pl hi hj ij hl' ln z.2.1 cl⟩
            have cs := c96s (k0 := k) (l0 := l) hd6 t1 b9 hE'.symm hi hj (by rw [← hχ]; exact un) (Or.inl kl)
            rw [← hχ] at cs
            have hcn : cnd χ n E i j k l = pparts χ i j k l := by
              unfold cnd
              rw [ck, cl, Bool.true_and, Bool.true_and]
            rw [hcn] at cs
            have qx : qcross χ k l i j = pparts χ i j k l := by
              rw [qcross_s]
              rw [Bool.eq_iff_iff, qcross_iff]
              exact ⟨fun z => z.2, fun z => ⟨⟨ij, k2, l2, k4, l4, kl⟩, z⟩⟩
            have m167' : ∀ (g : tH), tY g d = χ → ∀ f Q, AM 142 [.ref 13, .int (nI d), .int (nI k), .int (nI l), .int (nI i), .int (nI j)] g (t_ki f Q) = f (zb (pparts χ i j k l)) g := fun g gy f Q => by
              rw [n142 (by omega) (by omega) (by omega) hi7 hj7, gy, qx]; rfl
            by_cases px : pparts χ i j k l = true
            · -- it is done
              have r1 : rn 96 [.ref 0, .int (nI d), .int (nI i), .int (nI j)] h (RI (fan k l)) (t_I h (40 + d) 4 (fT E i j k l)) := fun Q => by
                rw [cc, if_pos rfl, cs, if_pos ⟨kn, ln, px⟩]
              obtain ⟨A, hA⟩ : ∃ A, A = t_I h (40 + d) 4 (fT E i j k l) := ⟨_, rfl⟩
              rw [← hA] at r1
              obtain ⟨g, hg⟩ : ∃ g, g = t_L A 32 0 (fan k l).toInt64 := ⟨_, rfl⟩
              have ag : ∀ a b, g.1 a b = if a = 40 + d ∧ b = 4 then fT E i j k l else h.1 a b := fun _ _ => by rw [hg, hA]; rfl
              have gl : ∀ a b, a < 40 → g.1 a b = h.1 a b := fun a b e => by rw [ag, if_neg (by omega)]
              have gt : ty g d n := ⟨by omega, by rw [gl _ _ (by decide)]; exact b4', n7'⟩
              have gY : tY g d = χ := by rw [← hY]; exact tY_o fun c _ => gl _ _ (by decide)
              have gE : ED g d n E := fun p q hp hq => by rw [gl _ _ (by decide), hE']; exact tv.1 p q hp hq
              have g167 : rn 167 [.ref 13, .int (nI d), .int (nI i), .int (nI j)] g (RI (zb true)) g := fun Q => by
                rw [n167 (b := true) (E := E) (χ := χ) hd6 gt gY (by rw [gl _ _ (by decide)]; exact b10) hi hj (fun _ => gE), he, if_pos rfl, f13, f23, if_neg (nI_m1 (by omega)), if_neg (nI_m1 (by omega)), m167' g gY, px]
                rfl
              obtain ⟨Z, hZ⟩ : ∃ Z, Z = t_I (t_I (t_I (t_I (t_I g 13 0 0) 25 (49 * d + 7 * i + j) 0) 25 (49 * d + 7 * j + i) 0) 25 (49 * d + 7 * k + l) 1) 25 (49 * d + 7 * l + k) 1 := ⟨_, rfl⟩
              have ef : (if nI l ≤ nI k then (10 * nI l) + nI k else (10 * nI k) + nI l) = fan k l := by
                have e10 : ∀ a b : Nat, (10 : Int32) * nI a + nI b = nI (10 * a + b) := fun a b => by
                  rw [show (10 : Int32) = nI 10 from rfl, pk_mul, nI_add]
                unfold fan
                simp (disch := omega) only [nI_le', e10]
              have r2 : rn 168 [.ref 13, .int (nI d), .int (nI i), .int (nI j)] g (RI (fan k l)) Z := fun Q => by
                have y1 : tY (t_I g 13 0 0) d = χ := by rw [tY_13, gY]
                have e1 : ED (t_I g 13 0 0) d n E := fun p q hp hq => by rw [t_I_o (by decide)]; exact gE p q hp hq
                rw [n168 (by rw [gl _ _ (by decide)]; exact h2) h3 hd gt hi hj g167, if_pos rfl, s_168_58, if_pos (show (t_I g 13 0 0).1 13 0 ≤ 0 from Int32.le_refl _)]
                simp only [t_ob_13, true_and, n166 (s := 1) hd6 (ty_13 gt) y1 e1 hi hj, n166 (s := -1) hd6 (ty_13 gt) y1 e1 hi hj, t_ki, n163 (x := 0) (Or.inl rfl) hd6 hi7 hj7, t_kv]
                rw [f13, f23, n163 (x := 1) (Or.inr rfl) hd6 (by omega) (by omega)]
                simp only [t_kv, ef]
                rw [hZ]
              have zo : ∀ a b, ¬ ((a = 13 ∧ b = 0) ∨ (a = 25 ∧ 49 * d ≤ b ∧ b < 49 * d + 49)) → Z.1 a b = g.1 a b := fun a b e => by
                rw [hZ, t_I_at, if_neg (by omega), t_I_at, if_neg (by omega), t_I_at, if_neg (by omega), t_I_at, if_neg (by omega), t_I_at, if_neg (by omega)]
              have z25 : ∀ p q, p < n → q < n → Z.1 25 (49 * d + 7 * p + q) = zb (!decide (p = q) && bt (fT E i j k l) (sx p q)) := fun p q hp hq => by
                by_cases pq' : p = q
                · subst pq'
                  have := gE p p hp hp
                  rw [decide_eq_true rfl] at this ⊢
                  rw [hZ, t_I_at, if_neg (by omega), t_I_at, if_neg (by omega), t_I_at, if_neg (by omega), t_I_at, if_neg (by omega), t_I_o (by decide)]
                  exact this
                · rw [fT_bt hi7 hj7 (by omega) (by omega) ij kl (sx_lt (by omega) (by omega) pq'), decide_eq_false pq']
                  have eo := gE p q hp hq
                  rw [decide_eq_false pq'] at eo
                  rw [hZ, t_I_at, t_I_at, t_I_at, t_I_at, t_I_o (show 25 ≠ 13 by decide), eo]
                  by_cases c1 : p = l ∧ q = k
                  · rw [if_pos (by omega), c1.1, c1.2, decide_eq_true (sx_comm l k), Bool.or_true]; rfl
                  · rw [if_neg (by omega)]
                    by_cases c2 : p = k ∧ q = l
                    · rw [if_pos (by omega), c2.1, c2.2, decide_eq_true rfl, Bool.or_true]; rfl
                    · rw [if_neg (by omega)]
                      have nk : ¬ sx p q = sx k l := fun z => by
                        rcases sx_un (by omega) (by omega) (by omega) (by omega) pq' kl z with u | u
                        · exact c2 u
                        · exact c1 u
                      rw [decide_eq_false nk, Bool.or_false]
                      by_cases c3 : p = j ∧ q = i
                      · rw [if_pos (by omega), c3.1, c3.2, decide_eq_true (sx_comm j i)]; simp [zb]
                      · rw [if_neg (by omega)]
                        by_cases c4 : p = i ∧ q = j
                        · rw [if_pos (by omega), c4.1, c4.2, decide_eq_true rfl]; simp [zb]
                        · rw [if_neg (by omega)]
                          have ni : ¬ sx p q = sx i j := fun z => by
                            rcases sx_un (by omega) (by omega) (by omega) (by omega) pq' ij z with u | u
                            · exact c4 u
                            · exact c3 u
                          rw [decide_eq_false ni]
                          simp
              have eX : tX Z (70 + d) = χ := by
                rw [hχ]
                exact tX_o fun c _ => by rw [zo _ _ (by omega), ag, if_neg (by omega)]
              have eY : tY Z d = χ := by
                rw [← gY]
                exact tY_o fun c _ => zo _ _ (by omega)
              have v' : DV Z d n := by
                refine ⟨b1, b2, ?_, ?_, eX.trans eY.symm, ?_, ?_, ⟨b8, ?_, ?_⟩, ⟨true, ?_, ?_, fun _ => ?_⟩⟩
                · rw [zo _ _ (by omega), ag, if_neg (by omega)]; exact b3
                · rw [zo _ _ (by omega), gl _ _ (by decide)]; exact b4'
                · rw [eX]; exact ws
                · rw [eX]; exact hh
                · rw [zo _ _ (by omega), ag, if_neg (by omega)]; exact b81
                · rw [zo _ _ (by omega), gl _ _ (by decide)]; exact b82
                · rw [zo _ _ (by omega), ag, if_neg (by omega)]; exact b9
                · rw [zo _ _ (by omega), gl _ _ (by decide)]; exact b10
                · unfold TV
                  rw [eX, show Z.1 (40 + d) 4 = fT E i j k l from by rw [zo _ _ (by omega), ag, if_pos ⟨rfl, rfl⟩]]
                  exact ⟨z25, fT_PL ws n7' hh pl hi hj kn ln ij kl tij ck cl px⟩
              have f : frX d h Z := fun k i e e' => by
                have e13 : ¬ (k = 13 ∧ i = 0) := fun z => by rw [z.1, z.2] at e; cases e
                rw [zo _ _ (by omega), ag, if_neg (by omega)]
              refine ⟨0, g, Z, fan k l, by decide, ?_, r2, IV_upd hI h1 h3 hd f v', ?_, fun _ => ?_⟩
              · rw [hg]; exact r_197 r1
              · rw [hZ, t_I_o (by decide), t_I_o (by decide), t_I_o (by decide), t_I_o (by decide), t_13_0]; rfl
              · rw [hZ, hg]; rfl
            · refine no (fun Q => ?_) (fun Q => ?_)
              · rw [cc, if_pos rfl, cs, if_neg (fun z => px z.2.2)]
              · rw [m167, if_neg (by rw [f13]; exact nI_m1 (by omega)), if_neg (by rw [f23]; exact nI_m1 (by omega)), f13, f23, m167' (t_X h) hY]
                have : pparts χ i j k l = false := by simpa using px
                rw [this]
                rfl
      · refine no (fun Q => ?_) (fun Q => ?_)
        · rw [cc, if_neg (by rw [← hE']; exact he)]
        · rw [m167, if_neg he]; rfl
    · have hp'' : (pI a n && pI c n) = false := by simpa using hp
      exact opI_f hI (k := 1) (by decide) (by decide) (r_197_e2 (c96x h1 h3 (Or.inr ⟨d, n, rfl, hd, t1, hp''⟩))) (n168x (g := t_X h) h2 h3 (Or.inr ⟨d, n, rfl, hd, t2, hp''⟩))
  · exact opI_f hI (k := 1) (by decide) (by decide) (r_197_e2 (c96x h1 h3 (Or.inl (pI_x hx)))) (n168x (g := t_X h) h2 h3 (Or.inl (pI_x hx)))
