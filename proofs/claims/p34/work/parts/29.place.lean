/-! ===== place, letter ===== -/
theorem t_in_ai {h : tH} {k n p : Nat} (hk : t_ar k = some (0, n)) (hp : p < n) : t_in (t_ai h k) (nI p) = True := by
  have := t_ar_sz hk
  rw [t_ai_of hk, t_in_some]
  exact eq_true (vp_in_nI hp (by omega))
theorem t_ar_14 : t_ar 14 = some (0, 7) := rfl
theorem t_ar_15 : t_ar 15 = some (0, 7) := rfl
theorem m_32 {h : tH} {s : Nat} {x y : Int32} (hs : h.1 1 2 = nI s) (h1 : s < 7) (Q : tO → tH → Prop) : AM 32 [.ref 1, .int x, .int y] h Q = Q (.inl none) (t_I (t_I (t_I h 2 s x) 3 s y) 1 2 (nI (s + 1))) := by
  rw [am_32, s_32_0]
  have a1 : (t_I h 2 s x).1 1 2 = nI s := hs
  have a2 : (t_I (t_I h 2 s x) 3 s y).1 1 2 = nI s := hs
  simp only [hs, m_set t_ar_2, m_set t_ar_3, zs_n h1 (show 7 < 5000 by decide), t_kv, t_ob_1, true_and, a1, a2, nI_1]
def pr (x y : Int32) : Bool := (!decide (x < -1000) && !decide (1000 < x)) && (!decide (y < -1000) && !decide (1000 < y))
theorem pr_rg {x y : Int32} (h : pr x y = true) : rg x ∧ rg y := by
  unfold pr at h
  simp only [Bool.and_eq_true, Bool.not_eq_true', decide_eq_false_iff_not, Int32.not_lt] at h
  exact ⟨h.1, h.2⟩
theorem c62 {h : tH} {x y : Int32} {Q : tO → tH → Prop} : AM 62 [.ref 0, .int x, .int y] h Q = (if pr x y = true then AM 31 [.ref 1, .int x, .int y] h (t_ki (fun a1 h1 => if ¬ a1 = (0 : Int32) then AM 32 [.ref 1, .int x, .int y] h1 (t_kv (fun h2 => Q (RI (h2.1 1 2)) h2) Q) else Q (.inr 1) (t_X h1)) Q) else Q (.inr 0) (t_X h)) := by
  rw [am_62, s_62_0]
  simp only [s_62_28, t_ob_0', true_and]
  unfold pr
  by_cases h1 : x < -1000
  · simp [h1]
  by_cases h2 : 1000 < x
  · simp [h1, h2]
  by_cases h3 : y < -1000
  · simp [h1, h2, h3]
  by_cases h4 : 1000 < y
  · have : ¬ y ≤ 1000 := Int32.not_le.mpr h4
    simp [h1, h2, h3, h4, this]
  · have : y ≤ 1000 := Int32.not_lt.mp h4
    simp [h1, h2, h3, h4, this]
