theorem lay_s {χ : tC} {n p m : Nat} {s : Int32} : lay χ n p (m + 1) s = if bt (phull χ n s) p = true then 0 else 1 + lay χ n p m (s &&& (phull χ n s ^^^ -1)) := rfl
theorem n141l {g : tH} {d n p : Nat} {χ : tC} (ht : ty g d n) (hχ : tY g d = χ) (w : WS χ n) (hh : qhold χ n = true) (hp : p < n) (Q : tO → tH → Prop) : ∀ m s, pc s ≤ m + 2 → (∀ i, n ≤ i → bt s i = false) → bt s p = true → ∀ a x, AX 4 141 44 [.ref 13, .int (nI d), .int (nI p), .int s, .int (nI a), x] [] g Q = Q (RI (nI (a + lay χ n p (m + 1) s))) g := by
  have h7 := ht.2.2
  have le2 : ∀ c : Nat, c ≤ 32 → (nI c ≤ (2 : Int32)) = (c ≤ 2) := fun c hc => nI_le' (a := c) (b := 2) (by omega) (by omega)
  have small : ∀ m s, pc s ≤ 2 → (∀ i, n ≤ i → bt s i = false) → bt s p = true → ∀ a x, AX 4 141 44 [.ref 13, .int (nI d), .int (nI p), .int s, .int (nI a), x] [] g Q = Q (RI (nI (a + lay χ n p (m + 1) s))) g := by
    intro m s h2 hs hb a x
    have e2 := le2 (pc s) (by omega)
    rw [s_141_44, n138 (fun i hi => hs i (by omega))]
    simp only [t_ki]
    rw [if_pos (by rw [e2]; exact h2), lay_s, if_pos (lay_small h7 hs hb hp h2)]
    rfl
  intro m
  induction m with
  | zero => intro s h2 hs hb a x; exact small 0 s h2 hs hb a x
  | succ m ih =>
    intro s h2 hs hb a x
    by_cases h3 : pc s ≤ 2
    · exact small (m + 1) s h3 hs hb a x
    · obtain ⟨e, lt⟩ := lay_big w h7 hh hs hb hp h3
      have h32 : pc s ≤ 32 := cB_le _ 32 0
      have e2 := le2 (pc s) h32
      rw [s_141_44, n138 (fun i hi => hs i (by omega))]
      simp only [t_ki, t_ob_13, true_and, n137 ht, hχ, ← e]
      have sh := shr_iff (x := phull χ n s) (p := p) (by omega)
      rw [if_neg (by rw [e2]; exact h3), lay_s]
      by_cases hx : bt (phull χ n s) p = true
      · rw [if_neg (by rw [sh]; simpa using hx), if_pos hx]
        rfl
      · have hz : ∀ i, n ≤ i → bt (s &&& (phull χ n s ^^^ -1)) i = false := fun i hi => by
          by_cases hi32 : i < 32
          · rw [bt_cpl hi32, hs i hi]; rfl
          · exact b_big (by omega)
        have hy : bt (s &&& (phull χ n s ^^^ -1)) p = true := by
          rw [bt_cpl (by omega), hb]
          simpa using hx
        rw [if_pos (by rw [sh]; exact hx), if_neg hx, nI_1, ih _ (by omega) hz hy, Nat.add_assoc]
theorem op_layer {h : tH} (hI : IV h) (x a : Int32) : opI h 187 [.ref 0, .int x, .int a, .ref 32] 141 [.ref 13, .int x, .int a] := by
  obtain ⟨D, h1, h2, h3, h4⟩ := IV_D hI
  by_cases hx : pI x D = true
  · obtain ⟨d, hd, rfl⟩ := (pI_iff (by omega)).mp hx
    obtain ⟨n, hn⟩ := h4 d hd
    have hd6 : d < 6 := by omega
    obtain ⟨t1, t2⟩ := DV_t hd6 hn
    have h7 := t1.2.2
    by_cases ha : pI a n = true
    · obtain ⟨p, hp, rfl⟩ := (pI_iff (by omega)).mp ha
      obtain ⟨v, hv⟩ : ∃ v, v = lay (tX h (70 + d)) n p 7 (one n - 1) := ⟨_, rfl⟩
      have r1 := c86 h1 h3 hd t1 rfl hp
      rw [← hv] at r1
      have r2 : rn 141 [.ref 13, .int (nI d), .int (nI p)] (t_L h 32 0 (nI v).toInt64) (RI (nI v)) (t_I (t_L h 32 0 (nI v).toInt64) 13 0 0) := fun Q => by
        have tg : ty (t_I (t_L h 32 0 (nI v).toInt64) 13 0 0) d n := ty_13 (h := t_L h 32 0 (nI v).toInt64) t2
        have ey : tY (t_I (t_L h 32 0 (nI v).toInt64) 13 0 0) d = tX h (70 + d) := by rw [tY_13, tY_L]; exact hn.2.2.2.2.1.symm
        have st : ∀ f : Int32 → tH → Prop, AM 139 [.ref 13, .int (nI d)] (t_I (t_L h 32 0 (nI v).toInt64) 13 0 0) (t_ki f Q) = f (one n - 1) (t_I (t_L h 32 0 (nI v).toInt64) 13 0 0) := fun f => by rw [n139 tg]; rfl
        have pa : pc (one n - 1) ≤ 6 + 2 := by
          have hh : ∀ n, n < 8 → pc (one n - 1) ≤ 8 := by decide +kernel
          exact hh n (by omega)
        have l := n141l tg ey hn.2.2.2.2.2.1 hn.2.2.2.2.2.2.1 hp Q 6 (one n - 1) pa (fun i hi => by
          by_cases h32 : i < 32
          · rw [bt_all h7 h32]; simp; omega
          · exact b_big (by omega)) (by rw [bt_all h7 (by omega)]; simpa using hp) 0 (.float 0)
        rw [Nat.zero_add, ← hv] at l
        rw [am_141, s_141_0]
        simp only [t_ob_13, true_and, n101 (h := t_L h 32 0 (nI v).toInt64) h2 (show D < 1000 by omega), n102 (h := t_L h 32 0 (nI v).toInt64) t2, t_ki, s_141_22, s_141_23, hx, ha]
        simp [zb, t_13_0, st]
        exact iff_of_eq l
      exact opI_s hI (r_187 r1) r2 (fr_t (fr_L h 32 0 _) fr_13) rfl rfl
    · refine opI_f hI (k := 1) (by decide) (by decide) (r_187_e2 fun Q => ?_) fun Q => ?_
      · rw [am_86, s_86_0, c75 h1 h3 hd]
        simp only [t_ob_0', true_and, t_kq_r, va_rf_s, s_86_5, c76f hd6 t1, pI_x ha, Bool.false_eq_true, if_false]
      · rw [am_141, s_141_0]
        simp only [t_ob_13, true_and, n101 (h := t_X h) h2 (show D < 1000 by omega), n102 (h := t_X h) t2, t_ki, s_141_22, s_141_23, hx, pI_x ha]
        simp [zb, t_13_0, nI_l1]
  · refine opI_f hI (k := 1) (by decide) (by decide) (r_187_e2 fun Q => ?_) fun Q => ?_
    · rw [am_86, s_86_0, c75x h1 h3 (pI_x hx)]
      simp only [t_ob_0', true_and, t_kq_E]
    · rw [am_141, s_141_0]
      simp only [t_ob_13, true_and, n101 (h := t_X h) h2 (show D < 1000 by omega), t_ki, s_141_22, s_141_23, pI_x hx]
      simp [zb, t_13_0, nI_l1]
