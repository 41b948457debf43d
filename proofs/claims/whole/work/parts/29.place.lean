/-! ===== place, letter ===== -/
theorem t_in_ai {h : tH} {k n p : Nat} (hk : t_ar k = some (0, n)) (hp : p < n) : t_in (t_ai h k) (nI p) = True := by
  have := t_ar_sz hk
  rw [t_ai_of hk, t_in_some]
  exact eq_true (vp_in_nI hp (by omega))
theorem t_ar_14 : t_ar 14 = some (0, 7) := rfl
theorem t_ar_15 : t_ar 15 = some (0, 7) := rfl
theorem t_ar_16 : t_ar 16 = some (0, 21) := rfl
theorem op_letter {h : tH} (hI : IV h) (x : Int32) : opI h 173 [.ref 0, .int x, .ref 32] 116 [.ref 13, .int x] := by
  obtain ⟨D, s, w, h1, h2, h3, hs, hw, ha⟩ := id hI
  obtain ⟨w1, w2, w3, w4⟩ := id hw
  by_cases hx : x < 0 ∨ 5 < x
  · refine opI_f hI (k := 1) (by decide) (by decide) (r_173_e0 fun Q => ?_) fun Q => ?_
    · rw [am_64, s_64_0]
      simp only [s_64_9]
      rcases hx with hx | hx
      · rw [if_pos hx]
      · by_cases h0 : x < 0
        · rw [if_pos h0]
        · rw [if_neg h0, if_neg (Int32.not_le.mpr hx)]
    · rw [am_116, s_116_0]
      have e : (!decide (x < 0) && !decide (5 < x)) = false := by
        rcases hx with hx | hx <;> simp [hx]
      simp only [n100', t_ki, e, zb_f, t_ob_13, true_and, s_116_28, t_13_0]
      simp
      exact Iff.rfl
  · have hx0 : ¬ x < 0 := fun z => hx (Or.inl z)
    have hx5 : ¬ 5 < x := fun z => hx (Or.inr z)
    obtain ⟨l, hl, rfl⟩ : ∃ l, l < 6 ∧ x = nI l := by
      refine (pI_iff (n := 6) (by decide)).mp ?_
      have : ¬ nI 6 ≤ x := by
        intro z
        apply hx5
        rw [Int32.le_iff_toInt_le] at z
        rw [Int32.lt_iff_toInt_lt]
        have e6 : (nI 6).toInt = 6 := by decide
        have e5 : (5 : Int32).toInt = 5 := by decide
        omega
      simp [pI, hx0, this]
    have e : (!decide (nI l < 0) && !decide (5 < nI l)) = true := by simp [hx0, hx5]
    have e5 : nI l ≤ (5 : Int32) := Int32.not_lt.mp hx5
    have e21 : (nI w < (21 : Int32)) = (w < 21) := nI_lt' (a := w) (b := 21) (by omega) (by omega)
    have e21' : (nI w = (21 : Int32)) = (w = 21) := nI_eq' (a := w) (b := 21) (by omega) (by omega)
    by_cases hw21 : w < 21
    · have r1 : rn 64 [.ref 0, .int (nI l)] h (RI (nI (w + 1))) (t_I (t_I h 5 w (nI l)) 4 3 (nI (w + 1))) := fun Q => by
        rw [am_64, s_64_0, if_neg hx0, if_pos e5]
        simp only [t_ob_0', true_and]
        rw [w1, if_pos (by rw [e21]; exact hw21), m_55 w1 hw21]
        rfl
      let g := t_L (t_I (t_I h 5 w (nI l)) 4 3 (nI (w + 1))) 32 0 (nI (w + 1)).toInt64
      have r2 : rn 116 [.ref 13, .int (nI l)] g (RI (nI (w + 1))) (t_I (t_I (t_I g 13 0 0) 16 w (nI l)) 13 4 (nI (w + 1))) := fun Q => by
        have g4 : g.1 13 4 = nI w := w2
        rw [am_116, s_116_0]
        simp only [n100', t_ki, e, zb_t, t_ob_13, true_and, s_116_28, t_13_0]
        rw [if_pos (by decide), g4]
        rw [if_pos (show ¬ nI w = 21 by rw [e21']; omega)]
        simp only [t_13_0, show (t_I g 13 0 0).1 13 4 = nI w from g4, nC (show w < 10000 by omega), t_in_ai t_ar_16 hw21, true_and]
        rw [if_pos (by decide)]
        have a1 : (t_I (t_I g 13 0 0) 16 w (nI l)).1 13 4 = nI w := g4
        rw [a1, nI_1]
        rfl
      have rd : ∀ k i, (t_I (t_I (t_I g 13 0 0) 16 w (nI l)) 13 4 (nI (w + 1))).1 k i = if k = 13 ∧ i = 4 then nI (w + 1) else if k = 16 ∧ i = w then nI l else if k = 13 ∧ i = 0 then 0 else if k = 4 ∧ i = 3 then nI (w + 1) else if k = 5 ∧ i = w then nI l else h.1 k i := fun _ _ => rfl
      refine ⟨0, _, _, nI (w + 1), by decide, r_173 r1, r2, ⟨D, s, w + 1, h1, h2, h3, SV_fr (fun k i e => ?_) hs, ⟨?_, rfl, by omega, fun p hp => ⟨?_, ?_⟩⟩, AV_fr (fun k i e _ => ?_) h3 ha⟩, rfl, fun _ => rfl⟩
      · rw [rd, if_neg (by omega), if_neg (by omega), if_neg (by omega), if_neg (by omega), if_neg (by omega)]
      · rfl
      · rw [rd, rd]
        by_cases hp' : p = w
        · simp [hp']
        · simp [hp']
          exact (w4 p (by omega)).1
      · rw [rd]
        by_cases hp' : p = w
        · refine ⟨l, by omega, ?_⟩
          simp [hp']
        · obtain ⟨l', h1', h2'⟩ := (w4 p (by omega)).2
          refine ⟨l', h1', ?_⟩
          simp [hp', h2']
      · rw [rd, if_neg (by omega), if_neg (by omega), if_neg (by omega), if_neg (by omega), if_neg (by omega)]
    · refine opI_f hI (k := 2) (by decide) (by decide) (r_173_e1 fun Q => ?_) fun Q => ?_
      · rw [am_64, s_64_0, if_neg hx0, if_pos e5]
        simp only [t_ob_0', true_and]
        rw [w1, if_neg (by rw [e21]; exact hw21)]
      · have g4 : (t_X h).1 13 4 = nI w := w2
        rw [am_116, s_116_0]
        simp only [n100', t_ki, e, zb_t, t_ob_13, true_and, s_116_28, t_13_0]
        rw [if_pos (by decide), g4]
        rw [if_neg (show ¬ ¬ nI w = 21 by rw [e21']; omega)]
        rw [if_neg (by decide)]
        rfl
theorem m_32 {h : tH} {s : Nat} {x y : Int32} (hs : h.1 1 2 = nI s) (h1 : s < 7) (Q : tO → tH → Prop) : AM 32 [.ref 1, .int x, .int y] h Q = Q (.inl none) (t_I (t_I (t_I h 2 s x) 3 s y) 1 2 (nI (s + 1))) := by
  rw [am_32, s_32_0]
  have a1 : (t_I h 2 s x).1 1 2 = nI s := hs
  have a2 : (t_I (t_I h 2 s x) 3 s y).1 1 2 = nI s := hs
  simp only [hs, m_set t_ar_2, m_set t_ar_3, zs_n h1 (show 7 < 5000 by decide), t_kv, t_ob_1, true_and, a1, a2, nI_1]
def pr (x y : Int32) : Bool := (!decide (x < -1000) && !decide (1000 < x)) && (!decide (y < -1000) && !decide (1000 < y))
theorem pr_rg {x y : Int32} (h : pr x y = true) : rg x ∧ rg y := by
  unfold pr at h
  simp only [Bool.and_eq_true, Bool.not_eq_true', decide_eq_false_iff_not, Int32.not_lt] at h
  exact ⟨h.1, h.2⟩
theorem c62 {h : tH} {x y : Int32} {Q : tO → tH → Prop} : AM 62 [.ref 0, .int x, .int y] h Q = (if pr x y = true then AM 31 [.ref 1, .int x, .int y] h (t_ki (fun a1 h1 => if ¬ a1 = (0 : Int32) then AM 32 [.ref 1, .int x, .int y] h1 (t_kv (fun h2 => Q (RI (h2.1 1 2)) h2) Q) else Q (.inr 1) (t_X h1)) Q) else Q (.inr 0) (t_X h)) := by
  rw [am_62, s_62_0]
  simp only [s_62_28, t_ob_0', true_and]
  unfold pr
  by_cases h1 : x < -1000
  · simp [h1]
  by_cases h2 : 1000 < x
  · simp [h1, h2]
  by_cases h3 : y < -1000
  · simp [h1, h2, h3]
  by_cases h4 : 1000 < y
  · have : ¬ y ≤ 1000 := Int32.not_le.mpr h4
    simp [h1, h2, h3, h4, this]
  · have : y ≤ 1000 := Int32.not_lt.mp h4
    simp [h1, h2, h3, h4, this]
theorem op_place {h : tH} (hI : IV h) (x y : Int32) : opI h 172 [.ref 0, .int x, .int y, .ref 32] 114 [.ref 13, .int x, .int y] := by
  obtain ⟨D, s, w, h1, h2, h3, hs, hw, ha⟩ := id hI
  obtain ⟨s1, s2, s3, s4, s5⟩ := id hs
  by_cases hx : pr x y = true
  · obtain ⟨rx, ry⟩ := pr_rg hx
    have ex : (!decide (x < -1000) && !decide (1000 < x)) = true := by unfold pr at hx; simp only [Bool.and_eq_true] at hx ⊢; exact hx.1
    have ey : (!decide (y < -1000) && !decide (1000 < y)) = true := by unfold pr at hx; simp only [Bool.and_eq_true] at hx ⊢; exact hx.2
    have e7 : (nI s = (7 : Int32)) = (s = 7) := nI_eq' (a := s) (b := 7) (by omega) (by omega)
    by_cases hf : (decide (s < 7) && pfree h s x y) = true
    · have hs7 : s < 7 := by simp only [Bool.and_eq_true, decide_eq_true_eq] at hf; exact hf.1
      have hfr : pfree h s x y = true := by simp only [Bool.and_eq_true, decide_eq_true_eq] at hf; exact hf.2
      have r1 : rn 62 [.ref 0, .int x, .int y] h (RI (nI (s + 1))) (t_I (t_I (t_I h 2 s x) 3 s y) 1 2 (nI (s + 1))) := fun Q => by
        rw [c62, if_pos hx, m_31 s1 s3, hf]
        simp only [t_ki]
        rw [if_pos (by decide), m_32 s1 hs7]
        rfl
      let g := t_L (t_I (t_I (t_I h 2 s x) 3 s y) 1 2 (nI (s + 1))) 32 0 (nI (s + 1)).toInt64
      have rg0 : ∀ k i, g.1 k i = if k = 1 ∧ i = 2 then nI (s + 1) else if k = 3 ∧ i = s then y else if k = 2 ∧ i = s then x else h.1 k i := fun _ _ => rfl
      have r2 : rn 114 [.ref 13, .int x, .int y] g (RI (nI (s + 1))) (t_I (t_I (t_I (t_I g 13 0 0) 14 s x) 15 s y) 13 1 (nI (s + 1))) := fun Q => by
        have g1 : g.1 13 1 = nI s := s2
        have gs : SM g s := by
          refine ⟨s2, s3, fun p hp => ?_⟩
          rw [rg0, rg0, rg0, rg0]
          have hp' : ¬ p = s := by omega
          simp [hp']
          exact s4 p hp
        have gf : pfree g s x y = true := by
          rw [← hfr]
          refine aB_ext _ _ fun i hi1 hi2 => ?_
          have hi' : ¬ i = s := by omega
          have a1 : g.1 2 i = h.1 2 i := by rw [rg0]; simp [hi']
          have a2 : g.1 3 i = h.1 3 i := by rw [rg0]; simp [hi']
          rw [a1, a2]
          congr 1
          refine aB_ext _ _ fun j hj1 hj2 => ?_
          have hj' : ¬ j = s := by omega
          have b1 : g.1 2 j = h.1 2 j := by rw [rg0]; simp [hj']
          have b2 : g.1 3 j = h.1 3 j := by rw [rg0]; simp [hj']
          rw [a1, a2, b1, b2]
        rw [am_114, s_114_0]
        simp only [n100', t_ki, ex, ey, t_ob_13, true_and, s_114_27, s_114_49, s_114_54, t_13_0]
        rw [if_neg (by decide), if_pos (by decide), g1, if_neg (by rw [e7]; omega), n113 gs rx ry, gf]
        have c1 : (t_I g 13 0 0).1 13 1 = nI s := g1
        have c2 : (t_I (t_I g 13 0 0) 14 s x).1 13 1 = nI s := g1
        have c3 : (t_I (t_I (t_I g 13 0 0) 14 s x) 15 s y).1 13 1 = nI s := g1
        simp only [t_ki]
        rw [if_pos (by decide), if_pos (by decide)]
        simp only [c1, c2, c3, nC (show s < 10000 by omega), t_in_ai t_ar_14 hs7, t_in_ai t_ar_15 hs7, true_and, nI_1]
        rfl
      have rd : ∀ k i, (t_I (t_I (t_I (t_I g 13 0 0) 14 s x) 15 s y) 13 1 (nI (s + 1))).1 k i = if k = 13 ∧ i = 1 then nI (s + 1) else if k = 15 ∧ i = s then y else if k = 14 ∧ i = s then x else if k = 13 ∧ i = 0 then 0 else if k = 1 ∧ i = 2 then nI (s + 1) else if k = 3 ∧ i = s then y else if k = 2 ∧ i = s then x else h.1 k i := fun _ _ => rfl
      refine ⟨0, _, _, nI (s + 1), by decide, r_172 r1, r2, ⟨D, s + 1, w, h1, h2, h3, ⟨?_, rfl, by omega, fun p hp => ?_, fun i j k a b c => ?_⟩, WV_fr (fun k i e => ?_) hw, AV_fr (fun k i e _ => ?_) h3 ha⟩, rfl, fun _ => rfl⟩
      · rfl
      · rw [rd, rd, rd, rd]
        by_cases hp' : p = s
        · simp [hp', rx, ry]
        · simp [hp']
          exact s4 p (by omega)
      · rw [rd, rd, rd, rd, rd, rd]
        have hi : ¬ i = s := by omega
        have hj : ¬ j = s := by omega
        by_cases hk : k = s
        · simp [hi, hj, hk]
          have t1 := (aB_iff _ _ _).mp hfr i (by omega) (by omega)
          simp only [Bool.and_eq_true] at t1
          have t2 := (aB_iff _ _ _).mp t1.2 j (by omega) (by omega)
          simpa using t2
        · simp [hi, hj, hk]
          exact s5 i j k a b (by omega)
      · rw [rd, if_neg (by omega), if_neg (by omega), if_neg (by omega), if_neg (by omega), if_neg (by omega), if_neg (by omega), if_neg (by omega)]
      · rw [rd, if_neg (by omega), if_neg (by omega), if_neg (by omega), if_neg (by omega), if_neg (by omega), if_neg (by omega), if_neg (by omega)]
    · refine opI_f hI (k := 2) (by decide) (by decide) (r_172_e1 fun Q => ?_) fun Q => ?_
      · rw [c62, if_pos hx, m_31 s1 s3]
        rw [Bool.not_eq_true] at hf
        rw [hf]
        rfl
      · have g1 : (t_X h).1 13 1 = nI s := s2
        rw [am_114, s_114_0]
        simp only [n100', t_ki, ex, ey, zb_t, t_ob_13, true_and, s_114_27, s_114_49, s_114_54, t_13_0]
        rw [if_neg (by decide), if_pos (by decide), g1]
        by_cases h7 : s = 7
        · rw [if_pos (by rw [e7]; exact h7), if_neg (by decide)]
          rfl
        · rw [if_neg (by rw [e7]; exact h7)]
          have hf' : pfree (t_X h) s x y = false := by
            have hs7 : s < 7 := by omega
            simp only [hs7, decide_true, Bool.true_and, Bool.not_eq_true] at hf
            exact hf
          rw [n113 (h := t_X h) (SV_SM hs) rx ry, hf']
          rfl
  · refine opI_f hI (k := 1) (by decide) (by decide) (r_172_e0 fun Q => ?_) fun Q => ?_
    · rw [c62, if_neg hx]
    · rw [am_114, s_114_0]
      simp only [n100', t_ki, t_ob_13, true_and, s_114_27, s_114_49, s_114_54, t_13_0]
      by_cases ex : (!decide (x < -1000) && !decide (1000 < x)) = true
      · have ey : (!decide (y < -1000) && !decide (1000 < y)) = false := by
          unfold pr at hx
          rw [ex] at hx
          simpa using hx
        simp only [ex, ey, zb_t, zb_f]
        simp
        exact Iff.rfl
      · rw [Bool.not_eq_true] at ex
        simp only [ex, zb_f]
        simp
        exact Iff.rfl
