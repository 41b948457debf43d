/-! ===== flip: both sides ===== -/
def un3 (a b c : Int32) : Bool := decide (a = b) || decide (b = c) || decide (a = c)
theorem n126 {g : tH} {D d n : Nat} {a b c : Int32} (h2 : g.1 13 8 = nI D) (h3 : D ≤ 6) (hd : d < D) (t2 : ty g d n) (Q : tO → tH → Prop) : AM 126 [.ref 13, .int (nI d), .int a, .int b, .int c] g Q =
    (if (pI a n && pI b n && pI c n) = true then (if un3 a b c = true then Q (RI 0) (t_I g 13 0 2) else AM 125 [.ref 13, .int (nI d), .int a, .int b, .int c] (t_I g 13 0 0) (t_ki (fun a1 h1 => (if ¬ a1 = (0 : Int32) then Q (RI 1) (t_I (t_I h1 21 d 0) 24 d 0) else Q (RI 0) h1)) Q)) else Q (RI 0) (t_I g 13 0 1)) := by
  have hx : pI (nI d) D = true := by rw [pI_nI (by omega) (by omega)]; simpa using hd
  have hv := vI (show d < 6 by omega) (show 6 < 10000 by decide)
  rw [am_126, s_126_0]
  simp only [t_ob_13, true_and, n101 h2 (show D < 1000 by omega), n102 t2, t_ki, s_126_40, s_126_41, s_126_97, hx, zb_0z, hv, nC (show d < 10000 by omega)]
  by_cases k1 : pI a n = true
  · by_cases k2 : pI b n = true
    · by_cases k3 : pI c n = true
      · unfold un3
        by_cases q1 : a = b
        · simp [k1, k2, k3, q1, zb, t_13_0]
        by_cases q2 : b = c
        · simp [k1, k2, k3, q1, q2, zb, t_13_0]
        by_cases q3 : a = c
        · simp [k1, k2, k3, q1, q2, q3, zb, t_13_0]
        · simp [k1, k2, k3, q1, q2, q3, zb, t_13_0]
      · simp [k1, k2, pI_x k3, zb, t_13_0]
    · simp [k1, pI_x k2, zb, t_13_0]
  · simp [pI_x k1, zb, t_13_0]
theorem c71 {h : tH} {D d n : Nat} {a b c : Int32} (h1 : h.1 0 3 = nI D) (h3 : D ≤ 6) (hd : d < D) (t1 : tn h (70 + d) n) (Q : tO → tH → Prop) : AM 71 [.ref 0, .int (nI d), .int a, .int b, .int c] h Q =
    (if (pI a n && pI b n && pI c n) = true then (if un3 a b c = true then Q (.inr 0) (t_X h) else AM 45 [.ref (70 + d), .int a, .int b, .int c] h (t_ki (fun a4 h4 => (if ¬ a4 = (0 : Int32) then Q (RI 1) (t_I (t_I h4 (40 + d) 3 0) (40 + d) 5 0) else Q (RI 0) h4)) Q)) else Q (.inr 2) (t_X h)) := by
  have hd6 : d < 6 := by omega
  rw [am_71, s_71_0, c75 h1 h3 hd]
  simp only [t_ob_0', true_and, t_kq_r, va_rf_s, s_71_5, s_71_43, c76f hd6 t1, o40 hd6, e30, o70 hd6, zb_0z]
  by_cases k1 : pI a n = true
  · by_cases k2 : pI b n = true
    · by_cases k3 : pI c n = true
      · unfold un3
        by_cases q1 : a = b
        · simp [k1, k2, k3, q1]
        by_cases q2 : b = c
        · by_cases q3 : a = c
          · simp [k1, k2, k3, q1, q2, q3]
          · simp [k1, k2, k3, q1, q2, q3]
        by_cases q3 : a = c
        · simp [k1, k2, k3, q1, q2, q3]
        · simp [k1, k2, k3, q1, q2, q3]
      · simp [k1, k2, pI_x k3]
    · simp [k1, pI_x k2]
  · simp [pI_x k1]
theorem op_flip {h : tH} (hI : IV h) (x a b c : Int32) : opB h 178 [.ref 0, .int x, .int a, .int b, .int c, .ref 32] 126 [.ref 13, .int x, .int a, .int b, .int c] := by
  obtain ⟨D, h1, h2, h3, h4⟩ := IV_D hI
  by_cases hx : pI x D = true
  · obtain ⟨d, hd, rfl⟩ := (pI_iff (by omega)).mp hx
    obtain ⟨n, hn⟩ := h4 d hd
    have hd6 : d < 6 := by omega
    obtain ⟨t1, t2⟩ := DV_t hd6 hn
    have h7 := t1.2.2
    by_cases hp : (pI a n && pI b n && pI c n) = true
    · by_cases hu : un3 a b c = true
      · refine opB_f hI (k := 2) (by decide) (by decide) (r_178_e0 fun Q => ?_) fun Q => ?_
        · rw [c71 h1 h3 hd t1, if_pos hp, if_pos hu]
        · rw [n126 (g := t_X h) h2 h3 hd t2, if_pos hp, if_pos hu]
          rfl
      · simp only [Bool.and_eq_true] at hp
        obtain ⟨⟨ka, kb⟩, kc⟩ := id hp
        have hp' : (pI a n && pI b n && pI c n) = true := by simp [ka, kb, kc]
        obtain ⟨i, hi, rfl⟩ := (pI_iff (by omega)).mp ka
        obtain ⟨j, hj, rfl⟩ := (pI_iff (by omega)).mp kb
        obtain ⟨k, hk, rfl⟩ := (pI_iff (by omega)).mp kc
        have hu' := hu
        unfold un3 at hu'
        simp only [Bool.or_eq_true, decide_eq_true_eq, not_or] at hu'
        obtain ⟨⟨ij, jk⟩, ik⟩ := hu'
        rw [nI_eq' (by omega) (by omega)] at ij jk ik
        obtain ⟨χ, hχ⟩ : ∃ χ, χ = tX h (70 + d) := ⟨_, rfl⟩
        have hχY : tY h d = χ := by rw [hχ]; exact hn.2.2.2.2.1.symm
        have w : WS χ n := by rw [hχ]; exact hn.2.2.2.2.2.1
        have hh : qhold χ n = true := by rw [hχ]; exact hn.2.2.2.2.2.2.1
        have hs := WS_at w h7 hi hj hk ij jk ik
        have hs' : -χ i j k = 1 ∨ -χ i j k = -1 := by rcases hs with e | e <;> simp [e]
        have fe := flip_eq (x := -χ i j k) w h7 hh hi hj hk ij jk ik hs'
        obtain ⟨v, hv⟩ : ∃ v, v = qhold (setC χ i j k (-χ i j k)) n := ⟨_, rfl⟩
        have cc : ∀ Q, AM 71 [.ref 0, .int (nI d), .int (nI i), .int (nI j), .int (nI k)] h Q = (if v = true then Q (RI 1) (t_I (t_I (hPut h (70 + d + 10) i j k (-χ i j k)) (40 + d) 3 0) (40 + d) 5 0) else Q (RI 0) (hPut (hPut h (70 + d + 10) i j k (-χ i j k)) (70 + d + 10) i j k (χ i j k))) := fun Q => by
          rw [c71 h1 h3 hd t1, if_pos hp', if_neg hu, m_turnOver t1 hi hj hk, tX_put (by omega) (by omega) (by omega), ← hχ, ← fe, ← hv]
          cases v <;> simp [t_ki]
        have mm : ∀ g : tH, g.1 13 8 = nI D → ty g d n → tY g d = χ → ∀ Q, AM 126 [.ref 13, .int (nI d), .int (nI i), .int (nI j), .int (nI k)] g Q = (if v = true then Q (RI 1) (t_I (t_I (hSet (t_I g 13 0 0) d i j k (-χ i j k)) 21 d 0) 24 d 0) else Q (RI 0) (hSet (hSet (t_I g 13 0 0) d i j k (-χ i j k)) d i j k (χ i j k))) := fun g g2 tg eg Q => by
          rw [n126 g2 h3 hd tg, if_pos hp', if_neg hu, n125 (ty_13 tg) hi hj hk, tY_13, eg, ← hv]
          cases v <;> simp [t_ki]
        cases v with
        | true =>
          obtain ⟨A, hA⟩ : ∃ A, A = t_I (t_I (hPut h (70 + d + 10) i j k (-χ i j k)) (40 + d) 3 0) (40 + d) 5 0 := ⟨_, rfl⟩
          have aA : ∀ k' i', k' ≠ 70 + d + 10 → ¬ (k' = 40 + d ∧ (i' = 3 ∨ i' = 5)) → A.1 k' i' = h.1 k' i' := fun k' i' n1 n2 => by
            rw [hA, t_I_at, if_neg (by omega), t_I_at, if_neg (by omega), hPut_o n1]
          have r1 : rn 71 [.ref 0, .int (nI d), .int (nI i), .int (nI j), .int (nI k)] h (RI (zb true)) A := fun Q => by rw [cc, if_pos rfl, hA]; rfl
          obtain ⟨g, hg⟩ : ∃ g, g = t_L A 32 0 (i64b true) := ⟨_, rfl⟩
          have ag : ∀ k' i', g.1 k' i' = A.1 k' i' := fun _ _ => by rw [hg]; rfl
          have r2 := mm g (by rw [ag, aA _ _ (by omega) (by omega)]; exact h2) ⟨by omega, by rw [ag, aA _ _ (by omega) (by omega)]; exact t2.2.1, h7⟩ (by rw [← hχY]; exact tY_o fun m hm => by rw [ag, aA _ _ (by omega) (by omega)])
          obtain ⟨Z, hZ⟩ : ∃ Z, Z = t_I (t_I (hSet (t_I g 13 0 0) d i j k (-χ i j k)) 21 d 0) 24 d 0 := ⟨_, rfl⟩
          have aZ : ∀ k' i', k' ≠ 20 → ¬ (k' = 21 ∧ i' = d) → ¬ (k' = 24 ∧ i' = d) → ¬ (k' = 13 ∧ i' = 0) → Z.1 k' i' = A.1 k' i' := fun k' i' n1 n2 n3 n4 => by
            rw [hZ, t_I_at, if_neg n3, t_I_at, if_neg n2, hSet_k n1, t_I_at, if_neg n4, ag]
          have eX : tX Z (70 + d) = setC χ i j k (-χ i j k) := by
            rw [hχ, ← tX_put (h := h) (r := 70 + d) (x := -tX h (70 + d) i j k) (show i < 7 by omega) (show j < 7 by omega) (show k < 7 by omega)]
            refine tX_o fun m hm => ?_
            rw [aZ _ _ (by omega) (by omega) (by omega) (by omega), hA, t_I_at, if_neg (by omega), t_I_at, if_neg (by omega), hχ]
          have eY : tY Z d = setC χ i j k (-χ i j k) := by
            have e1 : tY (t_I g 13 0 0) d = χ := by
              rw [tY_13, ← hχY]
              exact tY_o fun m hm => by rw [ag, aA _ _ (by omega) (by omega)]
            rw [← e1, ← tY_set (h := t_I g 13 0 0) (d := d) (x := -tY (t_I g 13 0 0) d i j k) (show i < 7 by omega) (show j < 7 by omega) (show k < 7 by omega)]
            refine tY_o fun m hm => ?_
            rw [hZ, t_I_at, if_neg (by omega), t_I_at, if_neg (by omega), e1]
          have v' : DV Z d n := by
            refine ⟨hn.1, hn.2.1, ?_, ?_, eX.trans eY.symm, ?_, ?_, ⟨false, ?_, ?_⟩, ⟨false, ?_, ?_, fun z => (nomatch z)⟩⟩
            · rw [aZ _ _ (by omega) (by omega) (by omega) (by omega), aA _ _ (by omega) (by omega)]; exact t1.2.1
            · rw [aZ _ _ (by omega) (by omega) (by omega) (by omega), aA _ _ (by omega) (by omega)]; exact t2.2.1
            · rw [eX]; exact WS_set w h7 hi hj hk ij jk ik hs'
            · rw [eX]; exact hv.symm
            · rw [aZ _ _ (by omega) (by omega) (by omega) (by omega), hA, t_I_at, if_neg (by omega), t_I_at, if_pos ⟨rfl, rfl⟩]; rfl
            · rw [hZ, t_I_at, if_neg (by omega), t_I_at, if_pos ⟨rfl, rfl⟩]; rfl
            · rw [aZ _ _ (by omega) (by omega) (by omega) (by omega), hA, t_I_at, if_pos ⟨rfl, rfl⟩]; rfl
            · rw [hZ, t_I_at, if_pos ⟨rfl, rfl⟩]; rfl
          have fZ : frX d h Z := fun k' i' e n1 => by
            by_cases z : k' = 20
            · subst z
              rw [hZ, t_I_at, if_neg (by omega), t_I_at, if_neg (by omega), hSet_out (by omega) (by omega) (by omega) (by omega), t_I_at, if_neg (by omega), ag, aA _ _ (by omega) (by omega)]
            · have n4 : ¬ (k' = 13 ∧ i' = 0) := fun y => by rw [y.1, y.2] at e; cases e
              rw [aZ _ _ z (by omega) (by omega) n4, aA _ _ (by omega) (by omega)]
          refine ⟨0, g, Z, true, by decide, ?_, ?_, IV_upd hI h1 h3 hd fZ v', ?_, fun _ => ?_⟩
          · rw [hg]; exact r_178 r1
          · intro Q; rw [r2, if_pos rfl, hZ]; rfl
          · rw [hZ]; rfl
          · rw [hZ, hg]; rfl
        | false =>
          obtain ⟨A, hA⟩ : ∃ A, A = hPut (hPut h (70 + d + 10) i j k (-χ i j k)) (70 + d + 10) i j k (χ i j k) := ⟨_, rfl⟩
          have aA : ∀ k' i', k' ≠ 70 + d + 10 → A.1 k' i' = h.1 k' i' := fun k' i' n1 => by
            rw [hA, hPut_o n1, hPut_o n1]
          have r1 : rn 71 [.ref 0, .int (nI d), .int (nI i), .int (nI j), .int (nI k)] h (RI (zb false)) A := fun Q => by rw [cc, if_neg (by decide), hA]; rfl
          obtain ⟨g, hg⟩ : ∃ g, g = t_L A 32 0 (i64b false) := ⟨_, rfl⟩
          have ag : ∀ k' i', g.1 k' i' = A.1 k' i' := fun _ _ => by rw [hg]; rfl
          have r2 := mm g (by rw [ag, aA _ _ (by omega)]; exact h2) ⟨by omega, by rw [ag, aA _ _ (by omega)]; exact t2.2.1, h7⟩ (by rw [← hχY]; exact tY_o fun m hm => by rw [ag, aA _ _ (by omega)])
          obtain ⟨Z, hZ⟩ : ∃ Z, Z = hSet (hSet (t_I g 13 0 0) d i j k (-χ i j k)) d i j k (χ i j k) := ⟨_, rfl⟩
          have aZ : ∀ k' i', k' ≠ 20 → ¬ (k' = 13 ∧ i' = 0) → Z.1 k' i' = A.1 k' i' := fun k' i' n1 n4 => by
            rw [hZ, hSet_k n1, hSet_k n1, t_I_at, if_neg n4, ag]
          have eX : tX Z (70 + d) = χ := by
            have e0 : tX A (70 + d) = χ := by
              rw [hA, tX_put (by omega) (by omega) (by omega), tX_put (by omega) (by omega) (by omega), ← hχ]
              exact setC_back w (by omega) (by omega) (by omega)
            rw [← e0]
            exact tX_o fun m hm => aZ _ _ (by omega) (by omega)
          have eY : tY Z d = χ := by
            have e1 : tY (t_I g 13 0 0) d = χ := by
              rw [tY_13, ← hχY]
              exact tY_o fun m hm => by rw [ag, aA _ _ (by omega)]
            rw [hZ, tY_set (by omega) (by omega) (by omega), tY_set (by omega) (by omega) (by omega), e1]
            exact setC_back w (by omega) (by omega) (by omega)
          have v' : DV Z d n := DV_cong (by rw [eX, hχ]) (by rw [eY, hχY]) (fun k' i' e => by rw [aZ _ _ (by omega) (by omega), aA _ _ (by omega)]) hn
          have fZ : frX d h Z := fun k' i' e n1 => by
            by_cases z : k' = 20
            · subst z
              rw [hZ, hSet_out (by omega) (by omega) (by omega) (by omega), hSet_out (by omega) (by omega) (by omega) (by omega), t_I_at, if_neg (by omega), ag, aA _ _ (by omega)]
            · have n4 : ¬ (k' = 13 ∧ i' = 0) := fun y => by rw [y.1, y.2] at e; cases e
              rw [aZ _ _ z n4, aA _ _ (by omega)]
          refine ⟨0, g, Z, false, by decide, ?_, ?_, IV_upd hI h1 h3 hd fZ v', ?_, fun _ => ?_⟩
          · rw [hg]; exact r_178 r1
          · intro Q; rw [r2, if_neg (by decide), hZ]; rfl
          · rw [hZ]; rfl
          · rw [hZ, hg]; rfl
    · refine opB_f hI (k := 1) (by decide) (by decide) (r_178_e2 fun Q => ?_) fun Q => ?_
      · rw [c71 h1 h3 hd t1, if_neg hp]
      · rw [n126 (g := t_X h) h2 h3 hd t2, if_neg hp]
        rfl
  · refine opB_f hI (k := 1) (by decide) (by decide) (r_178_e2 fun Q => ?_) fun Q => ?_
    · rw [am_71, s_71_0, c75x h1 h3 (pI_x hx)]
      simp only [t_ob_0', true_and, t_kq_E]
    · rw [am_126, s_126_0]
      simp only [t_ob_13, true_and, n101 (h := t_X h) h2 (show D < 1000 by omega), t_ki, s_126_40, s_126_41, s_126_97, pI_x hx, zb_0z]
      simp [zb, t_13_0, nI_l1]
