/-! ===== calls that change the shelf or the word ===== -/
theorem op_clear {h : tH} (hI : IV h) : op0 h 63 [.ref 0] 115 [.ref 13] := by
  obtain ⟨D, s, w, h1, h2, h3, hs, hw, ha⟩ := hI
  refine ⟨t_I h 1 2 0, t_I (t_I (t_I h 1 2 0) 13 0 0) 13 1 0, nI s, fun Q => ?_, fun Q => ?_, D, 0, w, ?_, ?_, h3, ⟨rfl, rfl, by decide, fun p hp => by omega, fun i j k a b e => by omega⟩, WV_fr (fun k i e => ?_) hw, AV_fr (fun k i e _ => ?_) h3 ha⟩
  · rw [am_63, s_63_0, hs.1]
    simp only [t_ob_0', true_and]
  · rw [am_115, s_115_0]
    simp only [t_ob_13, true_and]
    rw [show (t_I (t_I h 1 2 0) 13 0 0).1 13 1 = nI s from by rw [t_13_i (by decide), t_I_ne (by decide), hs.2.1]]
  · simp [t_I_at, h1]
  · simp [t_I_at, h2]
  · simp only [t_I_at]
    rw [if_neg (by omega), if_neg (by omega), if_neg (by omega)]
  · simp only [t_I_at]
    rw [if_neg (by omega), if_neg (by omega), if_neg (by omega)]
theorem op_wipe {h : tH} (hI : IV h) : op0 h 65 [.ref 0] 117 [.ref 13] := by
  obtain ⟨D, s, w, h1, h2, h3, hs, hw, ha⟩ := hI
  refine ⟨t_I h 4 3 0, t_I (t_I (t_I h 4 3 0) 13 0 0) 13 4 0, nI w, fun Q => ?_, fun Q => ?_, D, s, 0, ?_, ?_, h3, SV_fr (fun k i e => ?_) hs, ⟨rfl, rfl, by decide, fun p hp => by omega⟩, AV_fr (fun k i e _ => ?_) h3 ha⟩
  · rw [am_65, s_65_0, hw.1]
    simp only [t_ob_0', true_and]
  · rw [am_117, s_117_0]
    simp only [t_ob_13, true_and]
    rw [show (t_I (t_I h 4 3 0) 13 0 0).1 13 4 = nI w from by rw [t_13_i (by decide), t_I_ne (by decide), hw.2.1]]
  · simp [t_I_at, h1]
  · simp [t_I_at, h2]
  · simp only [t_I_at]
    rw [if_neg (by omega), if_neg (by omega), if_neg (by omega)]
  · simp only [t_I_at]
    rw [if_neg (by omega), if_neg (by omega), if_neg (by omega)]
/-! a letter -/
theorem n100' {x : Int32} {h : tH} {a b : Int32} (Q : tO → tH → Prop) : AM 100 [.int x, .int a, .int b] h Q = Q (RI (zb (!decide (x < a) && !decide (b < x)))) h := by
  rw [am_100, s_100_0]
  by_cases h0 : x < a
  · simp [h0, zb]
  · by_cases h1 : b < x <;> simp [h0, h1, zb]
theorem t_ar_5 : t_ar 5 = some (0, 21) := rfl
theorem m_55 {h : tH} {w : Nat} {x : Int32} (hw : h.1 4 3 = nI w) (h1 : w < 21) (Q : tO → tH → Prop) : AM 55 [.ref 4, .int x] h Q = Q (.inl none) (t_I (t_I h 5 w x) 4 3 (nI (w + 1))) := by
  rw [am_55, s_55_0]
  simp only [hw, m_set t_ar_5, zs_n h1 (show 21 < 5000 by decide), t_kv, t_ob_4, true_and]
  rw [show (t_I h 5 w x).1 4 3 = nI w from by rw [t_I_ne (by decide), hw], nI_1]
