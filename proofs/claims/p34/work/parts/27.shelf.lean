/-! ===== the shelf's turns: no overflow ===== -/
def sg (a : Int32) : Int32 := if 0 ≤ a then (if ¬ a = 0 then 1 else 0) else (-1)
theorem i_mul {a b : Int} (h1 : -2000 ≤ a) (h2 : a ≤ 2000) (h3 : -2000 ≤ b) (h4 : b ≤ 2000) : -4000000 ≤ a * b ∧ a * b ≤ 4000000 := by
  have h5 : (a * b).natAbs = a.natAbs * b.natAbs := Int.natAbs_mul a b
  have h6 : a.natAbs * b.natAbs ≤ 2000 * 2000 := Nat.mul_le_mul (by omega) (by omega)
  omega
theorem bm32 {x : Int} (h1 : -2147483648 ≤ x) (h2 : x ≤ 2147483647) : x.bmod (2 ^ 32) = x := Int.bmod_eq_of_le (by simpa using h1) (by omega)
theorem bm64 {x : Int} (h1 : -2147483648 ≤ x) (h2 : x ≤ 2147483647) : x.bmod (2 ^ 64) = x := Int.bmod_eq_of_le (by omega) (by omega)
theorem rg_i {x : Int32} (h : rg x) : -1000 ≤ x.toInt ∧ x.toInt ≤ 1000 := by
  obtain ⟨h1, h2⟩ := h
  rw [Int32.le_iff_toInt_le] at h1 h2
  have e1 : (-1000 : Int32).toInt = -1000 := by decide
  have e2 : (1000 : Int32).toInt = 1000 := by decide
  omega
theorem sub_i {x y : Int32} (hx : rg x) (hy : rg y) : (x - y).toInt = x.toInt - y.toInt := by
  have h1 := rg_i hx
  have h2 := rg_i hy
  rw [Int32.toInt_sub, bm32 (by omega) (by omega)]
theorem tu_i {x y x' y' x'' y'' : Int32} (h1 : rg x) (h2 : rg y) (h3 : rg x') (h4 : rg y') (h5 : rg x'') (h6 : rg y'') :
    (tu x y x' y' x'' y'').toInt = (x'.toInt - x.toInt) * (y''.toInt - y.toInt) - (x''.toInt - x.toInt) * (y'.toInt - y.toInt) := by
  have a1 := rg_i h1
  have a2 := rg_i h2
  have a3 := rg_i h3
  have a4 := rg_i h4
  have a5 := rg_i h5
  have a6 := rg_i h6
  have m1 := i_mul (a := x'.toInt - x.toInt) (b := y''.toInt - y.toInt) (by omega) (by omega) (by omega) (by omega)
  have m2 := i_mul (a := x''.toInt - x.toInt) (b := y'.toInt - y.toInt) (by omega) (by omega) (by omega) (by omega)
  have b1 := bm32 (x := (x'.toInt - x.toInt) * (y''.toInt - y.toInt)) (by omega) (by omega)
  have b2 := bm32 (x := (x''.toInt - x.toInt) * (y'.toInt - y.toInt)) (by omega) (by omega)
  unfold tu
  rw [Int32.toInt_sub, Int32.toInt_mul, Int32.toInt_mul, sub_i h3 h1, sub_i h6 h2, sub_i h5 h1, sub_i h4 h2, b1, b2, bm32 (by omega) (by omega)]
theorem tu_64 {x y x' y' x'' y'' : Int32} (h1 : rg x) (h2 : rg y) (h3 : rg x') (h4 : rg y') (h5 : rg x'') (h6 : rg y'') :
    ((x' - x).toInt64 * (y'' - y).toInt64 - (x'' - x).toInt64 * (y' - y).toInt64).toInt = (tu x y x' y' x'' y'').toInt := by
  have a1 := rg_i h1
  have a2 := rg_i h2
  have a3 := rg_i h3
  have a4 := rg_i h4
  have a5 := rg_i h5
  have a6 := rg_i h6
  have m1 := i_mul (a := x'.toInt - x.toInt) (b := y''.toInt - y.toInt) (by omega) (by omega) (by omega) (by omega)
  have m2 := i_mul (a := x''.toInt - x.toInt) (b := y'.toInt - y.toInt) (by omega) (by omega) (by omega) (by omega)
  have b1 := bm64 (x := (x'.toInt - x.toInt) * (y''.toInt - y.toInt)) (by omega) (by omega)
  have b2 := bm64 (x := (x''.toInt - x.toInt) * (y'.toInt - y.toInt)) (by omega) (by omega)
  rw [tu_i h1 h2 h3 h4 h5 h6, Int64.toInt_sub, Int64.toInt_mul, Int64.toInt_mul, Int32.toInt_toInt64, Int32.toInt_toInt64, Int32.toInt_toInt64, Int32.toInt_toInt64, sub_i h3 h1, sub_i h6 h2, sub_i h5 h1, sub_i h4 h2, b1, b2, bm64 (by omega) (by omega)]
theorem sg_64 {e : Int64} {a : Int32} (h : e.toInt = a.toInt) : (if lg_cmp e 0 ≤ (0 : Int32) then (if (0 : Int32) ≤ lg_cmp e 0 then (0 : Int32) else (-1)) else 1) = sg a := by
  unfold sg
  have z : (0 : Int64).toInt = 0 := by decide
  have z' : (0 : Int32).toInt = 0 := by decide
  have k1 : lg_cmp e 0 ≤ (0 : Int32) ↔ a ≤ 0 := (lg_cmp_le e 0).trans (by rw [Int64.le_iff_toInt_le, Int32.le_iff_toInt_le, z, z', h])
  have k2 : (0 : Int32) ≤ lg_cmp e 0 ↔ 0 ≤ a := (lg_cmp_ge e 0).trans (by rw [Int64.le_iff_toInt_le, Int32.le_iff_toInt_le, z, z', h])
  by_cases h1 : a ≤ 0
  · rw [if_pos (k1.mpr h1)]
    by_cases h2 : 0 ≤ a
    · have h3 : a = 0 := Int32.le_antisymm h1 h2
      rw [if_pos (k2.mpr h2), if_pos h2, if_neg (by simp [h3])]
    · rw [if_neg fun z => h2 (k2.mp z), if_neg h2]
  · have h2 : 0 ≤ a := by
      rcases Int32.le_total 0 a with h | h
      · exact h
      · exact absurd h h1
    have h3 : ¬ a = 0 := fun z => h1 (by rw [z]; exact Int32.le_refl _)
    rw [if_neg fun z => h1 (k1.mp z), if_pos h2, if_pos h3]
theorem t_ar_2 : t_ar 2 = some (0, 7) := rfl
theorem t_ar_3 : t_ar 3 = some (0, 7) := rfl
theorem m_33 {h : tH} {k : Nat} (hk : k < 7) (Q : tO → tH → Prop) : AM 33 [.ref 1, .int (nI k)] h Q = Q (RI (h.1 2 k)) h := by
  rw [am_33, s_33_0]
  simp only [m_get t_ar_2, zg_n hk (show 7 < 5000 by decide), t_ki, t_ob_1, true_and]
theorem m_34 {h : tH} {k : Nat} (hk : k < 7) (Q : tO → tH → Prop) : AM 34 [.ref 1, .int (nI k)] h Q = Q (RI (h.1 3 k)) h := by
  rw [am_34, s_34_0]
  simp only [m_get t_ar_3, zg_n hk (show 7 < 5000 by decide), t_ki, t_ob_1, true_and]
theorem m_35 {h : tH} {i j : Nat} {x y : Int32} (hi : i < 7) (hj : j < 7) (Q : tO → tH → Prop) : AM 35 [.ref 1, .int (nI i), .int (nI j), .int x, .int y] h Q = Q (RI (sg (tu (h.1 2 i) (h.1 3 i) (h.1 2 j) (h.1 3 j) x y))) h := by
  rw [am_35, s_35_0]
  simp only [m_33 hi, m_33 hj, m_34 hi, m_34 hj, m_compare, t_ki, t_ob_1, true_and]
  rfl
theorem m_36 {h : tH} {i j k : Nat} (hi : i < 7) (hj : j < 7) (hk : k < 7) (Q : tO → tH → Prop) : AM 36 [.ref 1, .int (nI i), .int (nI j), .int (nI k)] h Q = Q (RI (sg (tu (h.1 2 i) (h.1 3 i) (h.1 2 j) (h.1 3 j) (h.1 2 k) (h.1 3 k)))) h := by
  rw [am_36, s_36_0]
  simp only [m_33 hk, m_34 hk, m_35 hi hj, t_ki, t_ob_1, true_and]
theorem sg_0 {a : Int32} : (sg a = 0) = (a = 0) := by
  refine propext ⟨fun h => ?_, fun h => by rw [h]; rfl⟩
  unfold sg at h
  by_cases h1 : 0 ≤ a
  · rw [if_pos h1] at h
    by_cases h2 : a = 0
    · exact h2
    · rw [if_pos h2] at h; cases h
  · rw [if_neg h1] at h; cases h
theorem sg_pm {a : Int32} (h : a ≠ 0) : sg a = 1 ∨ sg a = -1 := by
  unfold sg
  by_cases h1 : 0 ≤ a
  · rw [if_pos h1, if_pos h]; exact Or.inl rfl
  · rw [if_neg h1]; exact Or.inr rfl
/-- whether the shelf takes a place, as both ask it -/
def pfree1 (h : tH) (s i : Nat) (x y : Int32) : Bool := aB (fun j => !decide (tu (h.1 2 i) (h.1 3 i) (h.1 2 j) (h.1 3 j) x y = 0)) (i + 1) (s - (i + 1))
def pfree (h : tH) (s : Nat) (x y : Int32) : Bool := aB (fun i => (!decide (h.1 2 i = x) || !decide (h.1 3 i = y)) && pfree1 h s i x y) 0 s
theorem m_31 {h : tH} {s : Nat} {x y : Int32} (hs : h.1 1 2 = nI s) (h7 : s ≤ 7) (Q : tO → tH → Prop) : AM 31 [.ref 1, .int x, .int y] h Q = Q (RI (zb (decide (s < 7) && pfree h s x y))) h := by
  have l2 : ∀ i, i < 7 → ∀ m j, j + m = s → AX 3 31 46 [.ref 1, .int x, .int y, .int (nI i), .int (nI j)] [] h Q = (if aB (fun j => !decide (tu (h.1 2 i) (h.1 3 i) (h.1 2 j) (h.1 3 j) x y = 0)) j m = true then AX 3 31 13 [.ref 1, .int x, .int y, .int (nI (i + 1)), .int (nI s)] [] h Q else Q (RI 0) h) := by
    intro i hi m
    induction m with
    | zero =>
      intro j hj
      have : j = s := by omega
      subst this
      rw [s_31_46, hs]
      simp only [t_ob_1, true_and, nI_1, aB, if_true]
      rw [if_pos (Int32.le_refl _)]
    | succ m ih =>
      intro j hj
      have hj7 : j < 7 := by omega
      rw [s_31_46, hs]
      simp (disch := omega) only [t_ob_1, true_and, nI_le', m_35 hi hj7, t_ki, sg_0, nI_1, aB, ih]
      rw [if_neg (by omega)]
      by_cases h1 : tu (h.1 2 i) (h.1 3 i) (h.1 2 j) (h.1 3 j) x y = 0 <;> simp [h1]
  have l1 : ∀ m i, i + m = s → ∀ w, AX 3 31 13 [.ref 1, .int x, .int y, .int (nI i), w] [] h Q = Q (RI (zb (aB (fun i => (!decide (h.1 2 i = x) || !decide (h.1 3 i = y)) && pfree1 h s i x y) i m))) h := by
    intro m
    induction m with
    | zero =>
      intro i hi w
      have : i = s := by omega
      subst this
      rw [s_31_13, hs]
      simp only [t_ob_1, true_and, aB]
      rw [if_pos (Int32.le_refl _)]
      rfl
    | succ m ih =>
      intro i hi w
      have hi7 : i < 7 := by omega
      rw [s_31_13, hs]
      simp (disch := omega) only [t_ob_1, true_and, nI_le', m_33 hi7, m_34 hi7, t_ki, s_31_41, nI_1, aB, l2 i hi7 (s - (i + 1)) (i + 1), ih]
      rw [if_neg (by omega)]
      by_cases h1 : h.1 2 i = x
      · by_cases h2 : h.1 3 i = y
        · simp [h1, h2, zb]
        · cases hp : pfree1 h s i x y <;> (unfold pfree1 at hp; simp only [pfree1, hp]; simp [h1, h2, zb])
      · cases hp : pfree1 h s i x y <;> (unfold pfree1 at hp; simp [h1, hp, zb])
  rw [am_31, s_31_0, hs]
  simp only [t_ob_1, true_and]
  have e : (nI s < (7 : Int32)) = (s < 7) := nI_lt' (a := s) (b := 7) (by omega) (by omega)
  by_cases h1 : s < 7
  · rw [if_pos (by rw [e]; exact h1)]
    have := l1 s 0 (by omega) (.float 0)
    simp only [h1, decide_true, Bool.true_and]
    exact this
  · rw [if_neg (by rw [e]; exact h1)]
    simp [h1, zb]
