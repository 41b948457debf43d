theorem t_z0 {X : Prop} : (((0 : Int32) = 0 ∨ (0 : Int32) = 1) ∧ X) = X := propext ⟨fun x => x.2, fun x => ⟨Or.inl rfl, x⟩⟩
theorem t_z1 {X : Prop} : (((1 : Int32) = 0 ∨ (1 : Int32) = 1) ∧ X) = X := propext ⟨fun x => x.2, fun x => ⟨Or.inr rfl, x⟩⟩
theorem t_in_some {n : Nat} {i : Int32} : t_in (some n) i = vp_in i n := propext ⟨fun ⟨m, h1, h2⟩ => by cases h1; exact h2, fun h => ⟨n, rfl, h⟩⟩
theorem t_ob_0 : (t_ob 0 = some 0) = True := eq_true (by decide)
theorem t_ob_1 : (t_ob 1 = some 1) = True := eq_true (by decide)
theorem t_ob_4 : (t_ob 4 = some 2) = True := eq_true (by decide)
theorem t_ob_9 : (t_ob 9 = some 3) = True := eq_true (by decide)
theorem t_ob_11 : (t_ob 11 = some 4) = True := eq_true (by decide)
theorem t_ob_76 : (t_ob 76 = some 6) = True := eq_true (by decide)
theorem t_ne_2 : (2 ≠ 33) = True := eq_true (by decide)
theorem t_ai_2 (h : tH) (i : Int32) : t_in (t_ai h 2) i = vp_in i 7 := t_in_some
theorem t_ln_2 (h : tH) : t_ln h 2 = some 7 := rfl
theorem t_ne_3 : (3 ≠ 33) = True := eq_true (by decide)
theorem t_ai_3 (h : tH) (i : Int32) : t_in (t_ai h 3) i = vp_in i 7 := t_in_some
theorem t_ln_3 (h : tH) : t_ln h 3 = some 7 := rfl
theorem t_ne_5 : (5 ≠ 33) = True := eq_true (by decide)
theorem t_ai_5 (h : tH) (i : Int32) : t_in (t_ai h 5) i = vp_in i 21 := t_in_some
theorem t_ln_5 (h : tH) : t_ln h 5 = some 21 := rfl
theorem t_ne_6 : (6 ≠ 33) = True := eq_true (by decide)
theorem t_ai_6 (h : tH) (i : Int32) : t_in (t_ai h 6) i = vp_in i 7 := t_in_some
theorem t_ln_6 (h : tH) : t_ln h 6 = some 7 := rfl
theorem t_ne_7 : (7 ≠ 33) = True := eq_true (by decide)
theorem t_ai_7 (h : tH) (i : Int32) : t_in (t_ai h 7) i = vp_in i 49 := t_in_some
theorem t_ln_7 (h : tH) : t_ln h 7 = some 49 := rfl
theorem t_ne_10 : (10 ≠ 33) = True := eq_true (by decide)
theorem t_ai_10 (h : tH) (i : Int32) : t_in (t_ai h 10) i = vp_in i 21 := t_in_some
theorem t_ln_10 (h : tH) : t_ln h 10 = some 21 := rfl
theorem t_ne_12 : (12 ≠ 33) = True := eq_true (by decide)
theorem t_ai_12 (h : tH) (i : Int32) : t_in (t_ai h 12) i = vp_in i 7 := t_in_some
theorem t_ln_12 (h : tH) : t_ln h 12 = some 7 := rfl
theorem t_ne_14 : (14 ≠ 33) = True := eq_true (by decide)
theorem t_ai_14 (h : tH) (i : Int32) : t_in (t_ai h 14) i = vp_in i 7 := t_in_some
theorem t_ln_14 (h : tH) : t_ln h 14 = some 7 := rfl
theorem t_ne_15 : (15 ≠ 33) = True := eq_true (by decide)
theorem t_ai_15 (h : tH) (i : Int32) : t_in (t_ai h 15) i = vp_in i 7 := t_in_some
theorem t_ln_15 (h : tH) : t_ln h 15 = some 7 := rfl
theorem t_ne_16 : (16 ≠ 33) = True := eq_true (by decide)
theorem t_ai_16 (h : tH) (i : Int32) : t_in (t_ai h 16) i = vp_in i 49 := t_in_some
theorem t_ln_16 (h : tH) : t_ln h 16 = some 49 := rfl
theorem t_ro_8 (i : Int32) : t_in (t_ro 8) i = vp_in i 6 := t_in_some
theorem t_ln_8 (h : tH) : t_ln h 8 = some 6 := rfl
theorem t_ai_d2 : (¬ (2 : Int32) = 0) = True := eq_true (by decide)
theorem t_ai_d6 : (¬ (6 : Int32) = 0) = True := eq_true (by decide)
theorem t_ai_d3 : (¬ (3 : Int32) = 0) = True := eq_true (by decide)
theorem t_ai_d10 : (¬ (10 : Int32) = 0) = True := eq_true (by decide)
