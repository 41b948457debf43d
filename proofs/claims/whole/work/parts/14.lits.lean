theorem t_z0 {X : Prop} : (((0 : Int32) = 0 ∨ (0 : Int32) = 1) ∧ X) = X := propext ⟨fun x => x.2, fun x => ⟨Or.inl rfl, x⟩⟩
theorem t_z1 {X : Prop} : (((1 : Int32) = 0 ∨ (1 : Int32) = 1) ∧ X) = X := propext ⟨fun x => x.2, fun x => ⟨Or.inr rfl, x⟩⟩
theorem t_in_some {n : Nat} {i : Int32} : t_in (some n) i = vp_in i n := propext ⟨fun ⟨m, h1, h2⟩ => by cases h1; exact h2, fun h => ⟨n, rfl, h⟩⟩
theorem t_ob_0 : (t_ob 0 = some 0) = True := eq_true (by decide)
theorem t_ob_1 : (t_ob 1 = some 1) = True := eq_true (by decide)
theorem t_ob_4 : (t_ob 4 = some 2) = True := eq_true (by decide)
theorem t_ob_9 : (t_ob 9 = some 3) = True := eq_true (by decide)
theorem t_ob_11 : (t_ob 11 = some 4) = True := eq_true (by decide)
theorem t_ob_13 : (t_ob 13 = some 7) = True := eq_true (by decide)
theorem t_ob_76 : (t_ob 76 = some 6) = True := eq_true (by decide)
theorem t_ne_2 : (2 ≠ 33) = True := eq_true (by decide)
theorem t_ai_2 (h : tH) (i : Int32) : t_in (t_ai h 2) i = vp_in i 7 := t_in_some
theorem t_ln_2 (h : tH) : t_ln h 2 = some 7 := rfl
theorem t_ne_3 : (3 ≠ 33) = True := eq_true (by decide)
theorem t_ai_3 (h : tH) (i : Int32) : t_in (t_ai h 3) i = vp_in i 7 := t_in_some
theorem t_ln_3 (h : tH) : t_ln h 3 = some 7 := rfl
theorem t_ne_5 : (5 ≠ 33) = True := eq_true (by decide)
theorem t_ai_5 (h : tH) (i : Int32) : t_in (t_ai h 5) i = vp_in i 21 := t_in_some
theorem t_ln_5 (h : tH) : t_ln h 5 = some 21 := rfl
theorem t_ne_6 : (6 ≠ 33) = True := eq_true (by decide)
theorem t_ai_6 (h : tH) (i : Int32) : t_in (t_ai h 6) i = vp_in i 7 := t_in_some
theorem t_ln_6 (h : tH) : t_ln h 6 = some 7 := rfl
theorem t_ne_7 : (7 ≠ 33) = True := eq_true (by decide)
theorem t_ai_7 (h : tH) (i : Int32) : t_in (t_ai h 7) i = vp_in i 49 := t_in_some
theorem t_ln_7 (h : tH) : t_ln h 7 = some 49 := rfl
theorem t_ne_10 : (10 ≠ 33) = True := eq_true (by decide)
theorem t_ai_10 (h : tH) (i : Int32) : t_in (t_ai h 10) i = vp_in i 21 := t_in_some
theorem t_ln_10 (h : tH) : t_ln h 10 = some 21 := rfl
theorem t_ne_12 : (12 ≠ 33) = True := eq_true (by decide)
theorem t_ai_12 (h : tH) (i : Int32) : t_in (t_ai h 12) i = vp_in i 7 := t_in_some
theorem t_ln_12 (h : tH) : t_ln h 12 = some 7 := rfl
theorem t_ne_14 : (14 ≠ 33) = True := eq_true (by decide)
theorem t_ai_14 (h : tH) (i : Int32) : t_in (t_ai h 14) i = vp_in i 7 := t_in_some
theorem t_ln_14 (h : tH) : t_ln h 14 = some 7 := rfl
theorem t_ne_15 : (15 ≠ 33) = True := eq_true (by decide)
theorem t_ai_15 (h : tH) (i : Int32) : t_in (t_ai h 15) i = vp_in i 7 := t_in_some
theorem t_ln_15 (h : tH) : t_ln h 15 = some 7 := rfl
theorem t_ne_16 : (16 ≠ 33) = True := eq_true (by decide)
theorem t_ai_16 (h : tH) (i : Int32) : t_in (t_ai h 16) i = vp_in i 21 := t_in_some
theorem t_ln_16 (h : tH) : t_ln h 16 = some 21 := rfl
theorem t_ne_17 : (17 ≠ 33) = True := eq_true (by decide)
theorem t_ai_17 (h : tH) (i : Int32) : t_in (t_ai h 17) i = vp_in i 7 := t_in_some
theorem t_ln_17 (h : tH) : t_ln h 17 = some 7 := rfl
theorem t_ne_18 : (18 ≠ 33) = True := eq_true (by decide)
theorem t_ai_18 (h : tH) (i : Int32) : t_in (t_ai h 18) i = vp_in i 49 := t_in_some
theorem t_ln_18 (h : tH) : t_ln h 18 = some 49 := rfl
theorem t_ne_19 : (19 ≠ 33) = True := eq_true (by decide)
theorem t_ai_19 (h : tH) (i : Int32) : t_in (t_ai h 19) i = vp_in i 7 := t_in_some
theorem t_ln_19 (h : tH) : t_ln h 19 = some 7 := rfl
theorem t_ne_20 : (20 ≠ 33) = True := eq_true (by decide)
theorem t_ai_20 (h : tH) (i : Int32) : t_in (t_ai h 20) i = vp_in i 2401 := t_in_some
theorem t_ln_20 (h : tH) : t_ln h 20 = some 2401 := rfl
theorem t_ne_22 : (22 ≠ 33) = True := eq_true (by decide)
theorem t_ai_22 (h : tH) (i : Int32) : t_in (t_ai h 22) i = vp_in i 42 := t_in_some
theorem t_ln_22 (h : tH) : t_ln h 22 = some 42 := rfl
theorem t_ne_23 : (23 ≠ 33) = True := eq_true (by decide)
theorem t_ai_23 (h : tH) (i : Int32) : t_in (t_ai h 23) i = vp_in i 42 := t_in_some
theorem t_ln_23 (h : tH) : t_ln h 23 = some 42 := rfl
theorem t_ne_26 : (26 ≠ 33) = True := eq_true (by decide)
theorem t_ai_26 (h : tH) (i : Int32) : t_in (t_ai h 26) i = vp_in i 7 := t_in_some
theorem t_ln_26 (h : tH) : t_ln h 26 = some 7 := rfl
theorem t_ne_28 : (28 ≠ 33) = True := eq_true (by decide)
theorem t_ai_28 (h : tH) (i : Int32) : t_in (t_ai h 28) i = vp_in i 14 := t_in_some
theorem t_ln_28 (h : tH) : t_ln h 28 = some 14 := rfl
theorem t_ne_29 : (29 ≠ 33) = True := eq_true (by decide)
theorem t_ai_29 (h : tH) (i : Int32) : t_in (t_ai h 29) i = vp_in i 15 := t_in_some
theorem t_ln_29 (h : tH) : t_ln h 29 = some 15 := rfl
theorem t_ne_30 : (30 ≠ 33) = True := eq_true (by decide)
theorem t_ai_30 (h : tH) (i : Int32) : t_in (t_ai h 30) i = vp_in i 15 := t_in_some
theorem t_ln_30 (h : tH) : t_ln h 30 = some 15 := rfl
theorem t_ne_31 : (31 ≠ 33) = True := eq_true (by decide)
theorem t_ai_31 (h : tH) (i : Int32) : t_in (t_ai h 31) i = vp_in i 15 := t_in_some
theorem t_ln_31 (h : tH) : t_ln h 31 = some 15 := rfl
theorem t_bo_21 (i : Int32) : t_in (t_bo 21) i = vp_in i 6 := t_in_some
theorem t_bo_24 (i : Int32) : t_in (t_bo 24) i = vp_in i 6 := t_in_some
theorem t_bo_25 (i : Int32) : t_in (t_bo 25) i = vp_in i 294 := t_in_some
theorem t_bo_27 (i : Int32) : t_in (t_bo 27) i = vp_in i 7 := t_in_some
theorem t_ro_8 (i : Int32) : t_in (t_ro 8) i = vp_in i 6 := t_in_some
theorem t_lo_32 (i : Int32) : t_in (t_lo 32) i = vp_in i 1 := t_in_some
theorem t_ln_8 (h : tH) : t_ln h 8 = some 6 := rfl
theorem t_ai_d2 : (¬ (2 : Int32) = 0) = True := eq_true (by decide)
theorem t_ai_d6 : (¬ (6 : Int32) = 0) = True := eq_true (by decide)
