-- X10_thrown
set_option maxRecDepth 20000 in
theorem s_99_0 (r0 : Nat) (h : tH) (Q : tO → tH → Prop)  :
    AX 0 99 0 [.ref r0] [] h Q =
    (t_ob r0 = some 7 ∧ Q (.inl (some (.int (h.1 r0 0)))) h) := by
  rw [e_99_0]
  simp only [e_99_1, e_99_4, true_and, and_true, or_true, true_or]
theorem am_99 (r0 : Nat) (h : tH) (Q : tO → tH → Prop) : AM 99 [.ref r0] h Q = AX 0 99 0 [.ref r0] [] h Q := AM_at ta_99 _ _ _
-- X10_isIn
theorem b_100_2 (x0 : Int32) (x1 : Int32) (x2 : Int32) (u0 : Int32) (u1 : Int32) (h : tH) (Q : tO → tH → Prop) : AX 0 100 2 [.int x0, .int x1, .int x2] [.int u0, .int u1] h Q = AX 0 100 15 [.int x0, .int x1, .int x2] [.int (if u1 < u0 then (0 : Int32) else (if x2 < x0 then (0 : Int32) else 1))] h Q := by
  simp only [e_100_2, e_100_5, e_100_6, e_100_7, e_100_10, e_100_11, e_100_14]
  repeat' split
  all_goals rfl
set_option maxRecDepth 20000 in
theorem s_100_0 (x0 : Int32) (x1 : Int32) (x2 : Int32) (h : tH) (Q : tO → tH → Prop)  :
    AX 0 100 0 [.int x0, .int x1, .int x2] [] h Q =
    ((((if x0 < x1 then (0 : Int32) else (if x2 < x0 then (0 : Int32) else 1)) : Int32) = 0 ∨ ((if x0 < x1 then (0 : Int32) else (if x2 < x0 then (0 : Int32) else 1)) : Int32) = 1) ∧ Q (.inl (some (.int (if x0 < x1 then (0 : Int32) else (if x2 < x0 then (0 : Int32) else 1))))) h) := by
  rw [e_100_0]
  simp only [e_100_1, b_100_2, e_100_15, true_and, and_true, or_true, true_or]
theorem am_100 (x0 : Int32) (x1 : Int32) (x2 : Int32) (h : tH) (Q : tO → tH → Prop) : AM 100 [.int x0, .int x1, .int x2] h Q = AX 0 100 0 [.int x0, .int x1, .int x2] [] h Q := AM_at ta_100 _ _ _
-- X10_isDrawing
set_option maxRecDepth 20000 in
theorem s_101_0 (r0 : Nat) (x1 : Int32) (h : tH) (Q : tO → tH → Prop)  :
    AX 1 101 0 [.ref r0, .int x1] [] h Q =
    (t_ob r0 = some 7 ∧ AM 100 [.int x1, .int 0, .int ((h.1 r0 8) - 1)] h (t_ki (fun a1 h1 => (((a1 : Int32) = 0 ∨ (a1 : Int32) = 1) ∧ Q (.inl (some (.int a1))) h1)) Q)) := by
  rw [e_101_0]
  simp only [e_101_1, e_101_2, e_101_3, e_101_6, e_101_7, e_101_8, e_101_11, true_and, and_true, or_true, true_or]
theorem am_101 (r0 : Nat) (x1 : Int32) (h : tH) (Q : tO → tH → Prop) : AM 101 [.ref r0, .int x1] h Q = AX 1 101 0 [.ref r0, .int x1] [] h Q := AM_at ta_101 _ _ _
-- X10_isPoint
set_option maxRecDepth 20000 in
theorem s_102_0 (r0 : Nat) (x1 : Int32) (x2 : Int32) (h : tH) (Q : tO → tH → Prop)  :
    AX 1 102 0 [.ref r0, .int x1, .int x2] [] h Q =
    (t_ob r0 = some 7 ∧ (vp_in x1 7 ∧ AM 100 [.int x2, .int 0, .int ((h.1 19 x1.toNatClampNeg) - 1)] h (t_ki (fun a1 h1 => (((a1 : Int32) = 0 ∨ (a1 : Int32) = 1) ∧ Q (.inl (some (.int a1))) h1)) Q))) := by
  rw [e_102_0]
  simp only [e_102_1, e_102_2, e_102_3, e_102_6, e_102_7, e_102_8, e_102_9, e_102_10, e_102_13, t_ai_19, true_and, and_true, or_true, true_or]
theorem am_102 (r0 : Nat) (x1 : Int32) (x2 : Int32) (h : tH) (Q : tO → tH → Prop) : AM 102 [.ref r0, .int x1, .int x2] h Q = AX 1 102 0 [.ref r0, .int x1, .int x2] [] h Q := AM_at ta_102 _ _ _
-- X10_at
set_option maxRecDepth 20000 in
theorem s_103_0 (x0 : Int32) (x1 : Int32) (x2 : Int32) (x3 : Int32) (h : tH) (Q : tO → tH → Prop)  :
    AX 0 103 0 [.int x0, .int x1, .int x2, .int x3] [] h Q =
    Q (.inl (some (.int ((((343 * x0) + (49 * x1)) + (7 * x2)) + x3)))) h := by
  rw [e_103_0]
  simp only [e_103_3, e_103_4, e_103_5, e_103_7, e_103_8, e_103_9, e_103_10, e_103_12, e_103_13, e_103_14, e_103_15, e_103_16, e_103_17, true_and, and_true, or_true, true_or]
theorem am_103 (x0 : Int32) (x1 : Int32) (x2 : Int32) (x3 : Int32) (h : tH) (Q : tO → tH → Prop) : AM 103 [.int x0, .int x1, .int x2, .int x3] h Q = AX 0 103 0 [.int x0, .int x1, .int x2, .int x3] [] h Q := AM_at ta_103 _ _ _
-- X10_signOf
set_option maxRecDepth 20000 in
theorem s_104_0 (r0 : Nat) (x1 : Int32) (x2 : Int32) (x3 : Int32) (x4 : Int32) (h : tH) (Q : tO → tH → Prop)  :
    AX 1 104 0 [.ref r0, .int x1, .int x2, .int x3, .int x4] [] h Q =
    (t_ob r0 = some 7 ∧ AM 103 [.int x1, .int x2, .int x3, .int x4] h (t_ki (fun a1 h1 => (vp_in a1 2401 ∧ Q (.inl (some (.int (h1.1 20 a1.toNatClampNeg)))) h1)) Q)) := by
  rw [e_104_0]
  simp only [e_104_1, e_104_4, e_104_5, e_104_6, e_104_7, e_104_9, e_104_12, e_104_13, t_ai_20, true_and, and_true, or_true, true_or]
theorem am_104 (r0 : Nat) (x1 : Int32) (x2 : Int32) (x3 : Int32) (x4 : Int32) (h : tH) (Q : tO → tH → Prop) : AM 104 [.ref r0, .int x1, .int x2, .int x3, .int x4] h Q = AX 1 104 0 [.ref r0, .int x1, .int x2, .int x3, .int x4] [] h Q := AM_at ta_104 _ _ _
-- X10_sets
set_option maxRecDepth 20000 in
theorem s_105_0 (r0 : Nat) (x1 : Int32) (x2 : Int32) (x3 : Int32) (x4 : Int32) (x5 : Int32) (h : tH) (Q : tO → tH → Prop)  :
    AX 1 105 0 [.ref r0, .int x1, .int x2, .int x3, .int x4, .int x5] [] h Q =
    (t_ob r0 = some 7 ∧ AM 103 [.int x1, .int x2, .int x3, .int x4] h (t_ki (fun a1 h1 => (vp_in a1 2401 ∧ (t_ob r0 = some 7 ∧ AM 103 [.int x1, .int x3, .int x4, .int x2] (t_I h1 20 a1.toNatClampNeg x5) (t_ki (fun a2 h2 => (vp_in a2 2401 ∧ (t_ob r0 = some 7 ∧ AM 103 [.int x1, .int x4, .int x2, .int x3] (t_I h2 20 a2.toNatClampNeg x5) (t_ki (fun a3 h3 => (vp_in a3 2401 ∧ (t_ob r0 = some 7 ∧ AM 103 [.int x1, .int x2, .int x4, .int x3] (t_I h3 20 a3.toNatClampNeg x5) (t_ki (fun a4 h4 => (vp_in a4 2401 ∧ (t_ob r0 = some 7 ∧ AM 103 [.int x1, .int x4, .int x3, .int x2] (t_I h4 20 a4.toNatClampNeg (-x5)) (t_ki (fun a5 h5 => (vp_in a5 2401 ∧ (t_ob r0 = some 7 ∧ AM 103 [.int x1, .int x3, .int x2, .int x4] (t_I h5 20 a5.toNatClampNeg (-x5)) (t_ki (fun a6 h6 => (vp_in a6 2401 ∧ Q (.inl none) (t_I h6 20 a6.toNatClampNeg (-x5)))) Q)))) Q)))) Q)))) Q)))) Q)))) Q)) := by
  rw [e_105_0]
  simp only [e_105_1, e_105_4, e_105_5, e_105_6, e_105_7, e_105_9, e_105_12, e_105_14, e_105_15, e_105_16, e_105_19, e_105_20, e_105_21, e_105_23, e_105_24, e_105_27, e_105_29, e_105_30, e_105_31, e_105_34, e_105_35, e_105_37, e_105_38, e_105_39, e_105_42, e_105_44, e_105_45, e_105_46, e_105_49, e_105_50, e_105_51, e_105_53, e_105_54, e_105_57, e_105_59, e_105_60, e_105_61, e_105_62, e_105_65, e_105_66, e_105_68, e_105_69, e_105_70, e_105_73, e_105_75, e_105_76, e_105_77, e_105_78, e_105_81, e_105_82, e_105_83, e_105_84, e_105_86, e_105_89, e_105_91, e_105_92, e_105_93, t_ai_20, t_ne_20, true_and, and_true, or_true, true_or]
theorem am_105 (r0 : Nat) (x1 : Int32) (x2 : Int32) (x3 : Int32) (x4 : Int32) (x5 : Int32) (h : tH) (Q : tO → tH → Prop) : AM 105 [.ref r0, .int x1, .int x2, .int x3, .int x4, .int x5] h Q = AX 1 105 0 [.ref r0, .int x1, .int x2, .int x3, .int x4, .int x5] [] h Q := AM_at ta_105 _ _ _
-- X10_areSame
theorem b_106_2 (x0 : Int32) (x1 : Int32) (x2 : Int32) (u0 : Int32) (u1 : Int32) (h : tH) (Q : tO → tH → Prop) : AX 0 106 2 [.int x0, .int x1, .int x2] [.int u0, .int u1] h Q = AX 0 106 15 [.int x0, .int x1, .int x2] [.int (if ¬ u1 = u0 then (0 : Int32) else (if ¬ x1 = x2 then (0 : Int32) else 1))] h Q := by
  simp only [e_106_2, e_106_5, e_106_6, e_106_7, e_106_10, e_106_11, e_106_14]
  repeat' split
  all_goals rfl
set_option maxRecDepth 20000 in
theorem s_106_0 (x0 : Int32) (x1 : Int32) (x2 : Int32) (h : tH) (Q : tO → tH → Prop)  :
    AX 0 106 0 [.int x0, .int x1, .int x2] [] h Q =
    ((((if ¬ x0 = x1 then (0 : Int32) else (if ¬ x1 = x2 then (0 : Int32) else 1)) : Int32) = 0 ∨ ((if ¬ x0 = x1 then (0 : Int32) else (if ¬ x1 = x2 then (0 : Int32) else 1)) : Int32) = 1) ∧ Q (.inl (some (.int (if ¬ x0 = x1 then (0 : Int32) else (if ¬ x1 = x2 then (0 : Int32) else 1))))) h) := by
  rw [e_106_0]
  simp only [e_106_1, b_106_2, e_106_15, true_and, and_true, or_true, true_or]
theorem am_106 (x0 : Int32) (x1 : Int32) (x2 : Int32) (h : tH) (Q : tO → tH → Prop) : AM 106 [.int x0, .int x1, .int x2] h Q = AX 0 106 0 [.int x0, .int x1, .int x2] [] h Q := AM_at ta_106 _ _ _
-- X10_holdsFour
set_option maxRecDepth 20000 in
theorem s_107_0 (r0 : Nat) (x1 : Int32) (x2 : Int32) (x3 : Int32) (x4 : Int32) (x5 : Int32) (h : tH) (Q : tO → tH → Prop)  :
    AX 2 107 0 [.ref r0, .int x1, .int x2, .int x3, .int x4, .int x5, .float 0] [] h Q =
    (t_ob r0 = some 7 ∧ AM 104 [.ref r0, .int x1, .int x3, .int x4, .int x5] h (t_ki (fun a1 h1 => (t_ob r0 = some 7 ∧ AM 104 [.ref r0, .int x1, .int x2, .int x5, .int x4] h1 (t_ki (fun a2 h2 => (if ¬ a1 = a2 then AX 2 107 53 [.ref r0, .int x1, .int x2, .int x3, .int x4, .int x5, .int a1] [] h2 Q else (t_ob r0 = some 7 ∧ AM 104 [.ref r0, .int x1, .int x2, .int x3, .int x5] h2 (t_ki (fun a3 h3 => (t_ob r0 = some 7 ∧ AM 104 [.ref r0, .int x1, .int x2, .int x4, .int x3] h3 (t_ki (fun a4 h4 => AM 106 [.int a1, .int a3, .int a4] h4 (t_ki (fun a5 h5 => (if ¬ a5 = (0 : Int32) then AX 2 107 58 [.ref r0, .int x1, .int x2, .int x3, .int x4, .int x5, .int a1] [.int 0] h5 Q else AX 2 107 53 [.ref r0, .int x1, .int x2, .int x3, .int x4, .int x5, .int a1] [] h5 Q)) Q)) Q))) Q)))) Q))) Q)) := by
  rw [e_107_0]
  simp only [e_107_1, e_107_2, e_107_3, e_107_5, e_107_7, e_107_10, e_107_12, e_107_14, e_107_15, e_107_16, e_107_17, e_107_19, e_107_21, e_107_24, e_107_27, e_107_29, e_107_30, e_107_31, e_107_32, e_107_33, e_107_35, e_107_38, e_107_39, e_107_40, e_107_41, e_107_43, e_107_44, e_107_47, e_107_50, e_107_57, true_and, and_true, or_true, true_or]
set_option maxRecDepth 20000 in
theorem s_107_53 (r0 : Nat) (x1 : Int32) (x2 : Int32) (x3 : Int32) (x4 : Int32) (x5 : Int32) (x6 : Int32) (h : tH) (Q : tO → tH → Prop)  :
    AX 2 107 53 [.ref r0, .int x1, .int x2, .int x3, .int x4, .int x5, .int x6] [] h Q =
    AX 2 107 58 [.ref r0, .int x1, .int x2, .int x3, .int x4, .int x5, .int x6] [.int 1] h Q := by
  rw [e_107_53]
  simp only [e_107_54, true_and, and_true, or_true, true_or]
set_option maxRecDepth 20000 in
theorem s_107_58 (r0 : Nat) (x1 : Int32) (x2 : Int32) (x3 : Int32) (x4 : Int32) (x5 : Int32) (x6 : Int32) (u0 : Int32) (h : tH) (Q : tO → tH → Prop)  :
    AX 2 107 58 [.ref r0, .int x1, .int x2, .int x3, .int x4, .int x5, .int x6] [.int u0] h Q =
    (((u0 : Int32) = 0 ∨ (u0 : Int32) = 1) ∧ Q (.inl (some (.int u0))) h) := by
  rw [e_107_58]
theorem am_107 (r0 : Nat) (x1 : Int32) (x2 : Int32) (x3 : Int32) (x4 : Int32) (x5 : Int32) (h : tH) (Q : tO → tH → Prop) : AM 107 [.ref r0, .int x1, .int x2, .int x3, .int x4, .int x5] h Q = AX 2 107 0 [.ref r0, .int x1, .int x2, .int x3, .int x4, .int x5, .float 0] [] h Q := AM_at ta_107 _ _ _
-- X10_holdsFive
theorem b_108_75 (r0 : Nat) (x1 : Int32) (x2 : Int32) (x3 : Int32) (x4 : Int32) (x5 : Int32) (x6 : Int32) (x7 : Int32) (x8 : Int32) (x9 : Int32) (u0 : Int32) (h : tH) (Q : tO → tH → Prop) : AX 2 108 75 [.ref r0, .int x1, .int x2, .int x3, .int x4, .int x5, .int x6, .int x7, .int x8, .int x9] [.int u0] h Q = AX 2 108 83 [.ref r0, .int x1, .int x2, .int x3, .int x4, .int x5, .int x6, .int x7, .int x8, .int x9] [.int (if ¬ u0 = (0 : Int32) then (0 : Int32) else 1)] h Q := by
  simp only [e_108_75, e_108_78, e_108_79, e_108_82]
  repeat' split
  all_goals rfl
set_option maxRecDepth 20000 in
theorem s_108_0 (r0 : Nat) (x1 : Int32) (x2 : Int32) (x3 : Int32) (x4 : Int32) (x5 : Int32) (x6 : Int32) (h : tH) (Q : tO → tH → Prop)  :
    AX 2 108 0 [.ref r0, .int x1, .int x2, .int x3, .int x4, .int x5, .int x6, .float 0, .float 0, .float 0] [] h Q =
    (t_ob r0 = some 7 ∧ AM 104 [.ref r0, .int x1, .int x2, .int x3, .int x4] h (t_ki (fun a1 h1 => (t_ob r0 = some 7 ∧ AM 104 [.ref r0, .int x1, .int x2, .int x5, .int x6] h1 (t_ki (fun a2 h2 => (t_ob r0 = some 7 ∧ AM 104 [.ref r0, .int x1, .int x2, .int x3, .int x5] h2 (t_ki (fun a3 h3 => (t_ob r0 = some 7 ∧ AM 104 [.ref r0, .int x1, .int x2, .int x6, .int x4] h3 (t_ki (fun a4 h4 => (t_ob r0 = some 7 ∧ AM 104 [.ref r0, .int x1, .int x2, .int x3, .int x6] h4 (t_ki (fun a5 h5 => (t_ob r0 = some 7 ∧ AM 104 [.ref r0, .int x1, .int x2, .int x4, .int x5] h5 (t_ki (fun a6 h6 => AM 106 [.int (a1 * a2), .int (a3 * a4), .int (a5 * a6)] h6 (t_ki (fun a7 h7 => ((((if ¬ a7 = (0 : Int32) then (0 : Int32) else 1) : Int32) = 0 ∨ ((if ¬ a7 = (0 : Int32) then (0 : Int32) else 1) : Int32) = 1) ∧ Q (.inl (some (.int (if ¬ a7 = (0 : Int32) then (0 : Int32) else 1)))) h7)) Q)) Q))) Q))) Q))) Q))) Q))) Q)) := by
  rw [e_108_0]
  simp only [e_108_1, e_108_2, e_108_3, e_108_4, e_108_6, e_108_9, e_108_10, e_108_11, e_108_12, e_108_14, e_108_16, e_108_19, e_108_20, e_108_22, e_108_23, e_108_24, e_108_25, e_108_26, e_108_28, e_108_31, e_108_32, e_108_33, e_108_34, e_108_36, e_108_38, e_108_41, e_108_42, e_108_44, e_108_45, e_108_46, e_108_47, e_108_48, e_108_50, e_108_53, e_108_54, e_108_55, e_108_56, e_108_58, e_108_60, e_108_63, e_108_64, e_108_66, e_108_68, e_108_70, e_108_72, b_108_75, e_108_83, true_and, and_true, or_true, true_or]
theorem am_108 (r0 : Nat) (x1 : Int32) (x2 : Int32) (x3 : Int32) (x4 : Int32) (x5 : Int32) (x6 : Int32) (h : tH) (Q : tO → tH → Prop) : AM 108 [.ref r0, .int x1, .int x2, .int x3, .int x4, .int x5, .int x6] h Q = AX 2 108 0 [.ref r0, .int x1, .int x2, .int x3, .int x4, .int x5, .int x6, .float 0, .float 0, .float 0] [] h Q := AM_at ta_108 _ _ _
-- X10_holdsAbout
theorem b_109_35 (r0 : Nat) (x1 : Int32) (x2 : Int32) (x3 : Int32) (x4 : Int32) (x5 : Int32) (x6 : Int32) (x7 : Int32) (w8 : Value) (u0 : Int32) (u1 : Int32) (h : tH) (Q : tO → tH → Prop) : AX 3 109 35 [.ref r0, .int x1, .int x2, .int x3, .int x4, .int x5, .int x6, .int x7, w8] [.int u0, .int u1] h Q = AX 3 109 63 [.ref r0, .int x1, .int x2, .int x3, .int x4, .int x5, .int x6, .int x7, w8] [.int (if u1 = u0 then (0 : Int32) else (if x7 = x3 then (0 : Int32) else (if x7 = x4 then (0 : Int32) else (if x7 = x5 then (0 : Int32) else 1))))] h Q := by
  simp only [e_109_35, e_109_38, e_109_40, e_109_41, e_109_44, e_109_46, e_109_48, e_109_51, e_109_53, e_109_55, e_109_58, e_109_59, e_109_62]
  repeat' split
  all_goals rfl
set_option maxRecDepth 20000 in
theorem s_109_0 (r0 : Nat) (x1 : Int32) (x2 : Int32) (x3 : Int32) (x4 : Int32) (x5 : Int32) (h : tH) (Q : tO → tH → Prop)  :
    AX 3 109 0 [.ref r0, .int x1, .int x2, .int x3, .int x4, .int x5, .float 0, .float 0, .float 0] [] h Q =
    (t_ob r0 = some 7 ∧ AM 107 [.ref r0, .int x1, .int x2, .int x3, .int x4, .int x5] h (t_ki (fun a1 h1 => AX 3 109 16 [.ref r0, .int x1, .int x2, .int x3, .int x4, .int x5, .int a1, .int 0, .float 0] [] h1 Q) Q)) := by
  rw [e_109_0]
  simp only [e_109_1, e_109_2, e_109_3, e_109_4, e_109_6, e_109_8, e_109_11, e_109_13, e_109_14, true_and, and_true, or_true, true_or]
set_option maxRecDepth 20000 in
theorem s_109_16 (r0 : Nat) (x1 : Int32) (x2 : Int32) (x3 : Int32) (x4 : Int32) (x5 : Int32) (x6 : Int32) (x7 : Int32) (w8 : Value) (h : tH) (Q : tO → tH → Prop)  :
    AX 3 109 16 [.ref r0, .int x1, .int x2, .int x3, .int x4, .int x5, .int x6, .int x7, w8] [] h Q =
    (t_ob r0 = some 7 ∧ (vp_in x1 7 ∧ (if (h.1 19 x1.toNatClampNeg) ≤ x7 then AX 3 109 99 [.ref r0, .int x1, .int x2, .int x3, .int x4, .int x5, .int x6, .int x7, w8] [] h Q else (if x6 = (0 : Int32) then AX 3 109 99 [.ref r0, .int x1, .int x2, .int x3, .int x4, .int x5, .int x6, .int x7, w8] [] h Q else (if ((if x7 = x2 then (0 : Int32) else (if x7 = x3 then (0 : Int32) else (if x7 = x4 then (0 : Int32) else (if x7 = x5 then (0 : Int32) else 1)))) : Int32) = (0 : Int32) then AX 3 109 86 [.ref r0, .int x1, .int x2, .int x3, .int x4, .int x5, .int x6, .int x7, .int (if x7 = x2 then (0 : Int32) else (if x7 = x3 then (0 : Int32) else (if x7 = x4 then (0 : Int32) else (if x7 = x5 then (0 : Int32) else 1))))] [] h Q else (t_ob r0 = some 7 ∧ AM 108 [.ref r0, .int x1, .int x7, .int x2, .int x3, .int x4, .int x5] h (t_ki (fun a1 h1 => (if a1 = (0 : Int32) then AX 3 109 91 [.ref r0, .int x1, .int x2, .int x3, .int x4, .int x5, .int x6, .int x7, .int (if x7 = x2 then (0 : Int32) else (if x7 = x3 then (0 : Int32) else (if x7 = x4 then (0 : Int32) else (if x7 = x5 then (0 : Int32) else 1))))] [.int 0] h1 Q else AX 3 109 86 [.ref r0, .int x1, .int x2, .int x3, .int x4, .int x5, .int x6, .int x7, .int (if x7 = x2 then (0 : Int32) else (if x7 = x3 then (0 : Int32) else (if x7 = x4 then (0 : Int32) else (if x7 = x5 then (0 : Int32) else 1))))] [] h1 Q)) Q))))))) := by
  rw [e_109_16]
  simp only [e_109_18, e_109_19, e_109_22, e_109_23, e_109_24, e_109_27, e_109_29, e_109_32, e_109_34, b_109_35, e_109_63, e_109_65, e_109_67, e_109_70, e_109_71, e_109_72, e_109_74, e_109_75, e_109_76, e_109_78, e_109_80, e_109_83, e_109_90, t_ai_19, true_and, and_true, or_true, true_or]
set_option maxRecDepth 20000 in
theorem s_109_86 (r0 : Nat) (x1 : Int32) (x2 : Int32) (x3 : Int32) (x4 : Int32) (x5 : Int32) (x6 : Int32) (x7 : Int32) (x8 : Int32) (h : tH) (Q : tO → tH → Prop)  :
    AX 3 109 86 [.ref r0, .int x1, .int x2, .int x3, .int x4, .int x5, .int x6, .int x7, .int x8] [] h Q =
    AX 3 109 91 [.ref r0, .int x1, .int x2, .int x3, .int x4, .int x5, .int x6, .int x7, .int x8] [.int 1] h Q := by
  rw [e_109_86]
  simp only [e_109_87, true_and, and_true, or_true, true_or]
set_option maxRecDepth 20000 in
theorem s_109_91 (r0 : Nat) (x1 : Int32) (x2 : Int32) (x3 : Int32) (x4 : Int32) (x5 : Int32) (x6 : Int32) (x7 : Int32) (x8 : Int32) (u0 : Int32) (h : tH) (Q : tO → tH → Prop)  :
    AX 3 109 91 [.ref r0, .int x1, .int x2, .int x3, .int x4, .int x5, .int x6, .int x7, .int x8] [.int u0] h Q =
    AX 3 109 16 [.ref r0, .int x1, .int x2, .int x3, .int x4, .int x5, .int u0, .int (x7 + 1), .int x8] [] h Q := by
  rw [e_109_91]
  simp only [e_109_93, e_109_96, true_and, and_true, or_true, true_or]
set_option maxRecDepth 20000 in
theorem s_109_99 (r0 : Nat) (x1 : Int32) (x2 : Int32) (x3 : Int32) (x4 : Int32) (x5 : Int32) (x6 : Int32) (x7 : Int32) (w8 : Value) (h : tH) (Q : tO → tH → Prop)  :
    AX 3 109 99 [.ref r0, .int x1, .int x2, .int x3, .int x4, .int x5, .int x6, .int x7, w8] [] h Q =
    (((x6 : Int32) = 0 ∨ (x6 : Int32) = 1) ∧ Q (.inl (some (.int x6))) h) := by
  rw [e_109_99]
  simp only [e_109_101, true_and, and_true, or_true, true_or]
theorem am_109 (r0 : Nat) (x1 : Int32) (x2 : Int32) (x3 : Int32) (x4 : Int32) (x5 : Int32) (h : tH) (Q : tO → tH → Prop) : AM 109 [.ref r0, .int x1, .int x2, .int x3, .int x4, .int x5] h Q = AX 3 109 0 [.ref r0, .int x1, .int x2, .int x3, .int x4, .int x5, .float 0, .float 0, .float 0] [] h Q := AM_at ta_109 _ _ _
-- X10_hold
set_option maxRecDepth 20000 in
theorem s_110_0 (r0 : Nat) (x1 : Int32) (h : tH) (Q : tO → tH → Prop)  :
    AX 4 110 0 [.ref r0, .int x1, .float 0, .float 0, .float 0, .float 0, .float 0, .float 0] [] h Q =
    (t_ob r0 = some 7 ∧ (vp_in x1 7 ∧ AX 4 110 12 [.ref r0, .int x1, .int 1, .int (h.1 19 x1.toNatClampNeg), .int 0, .float 0, .float 0, .float 0] [] h Q)) := by
  rw [e_110_0]
  simp only [e_110_1, e_110_2, e_110_3, e_110_6, e_110_7, e_110_8, e_110_9, e_110_10, t_ai_19, true_and, and_true, or_true, true_or]
set_option maxRecDepth 20000 in
theorem s_110_12 (r0 : Nat) (x1 : Int32) (x2 : Int32) (x3 : Int32) (x4 : Int32) (w5 : Value) (w6 : Value) (w7 : Value) (h : tH) (Q : tO → tH → Prop)  :
    AX 4 110 12 [.ref r0, .int x1, .int x2, .int x3, .int x4, w5, w6, w7] [] h Q =
    (if x3 ≤ x4 then AX 4 110 108 [.ref r0, .int x1, .int x2, .int x3, .int x4, w5, w6, w7] [] h Q else (if x2 = (0 : Int32) then AX 4 110 108 [.ref r0, .int x1, .int x2, .int x3, .int x4, w5, w6, w7] [] h Q else AX 4 110 28 [.ref r0, .int x1, .int x2, .int x3, .int x4, .int (x4 + 1), w6, w7] [] h Q)) := by
  rw [e_110_12]
  simp only [e_110_14, e_110_15, e_110_18, e_110_19, e_110_22, e_110_24, e_110_25, e_110_26, true_and, and_true, or_true, true_or]
set_option maxRecDepth 20000 in
theorem s_110_28 (r0 : Nat) (x1 : Int32) (x2 : Int32) (x3 : Int32) (x4 : Int32) (x5 : Int32) (w6 : Value) (w7 : Value) (h : tH) (Q : tO → tH → Prop)  :
    AX 4 110 28 [.ref r0, .int x1, .int x2, .int x3, .int x4, .int x5, w6, w7] [] h Q =
    (if x3 ≤ x5 then AX 4 110 102 [.ref r0, .int x1, .int x2, .int x3, .int x4, .int x5, w6, w7] [] h Q else (if x2 = (0 : Int32) then AX 4 110 102 [.ref r0, .int x1, .int x2, .int x3, .int x4, .int x5, w6, w7] [] h Q else AX 4 110 44 [.ref r0, .int x1, .int x2, .int x3, .int x4, .int x5, .int (x5 + 1), w7] [] h Q)) := by
  rw [e_110_28]
  simp only [e_110_30, e_110_31, e_110_34, e_110_35, e_110_38, e_110_40, e_110_41, e_110_42, true_and, and_true, or_true, true_or]
set_option maxRecDepth 20000 in
theorem s_110_44 (r0 : Nat) (x1 : Int32) (x2 : Int32) (x3 : Int32) (x4 : Int32) (x5 : Int32) (x6 : Int32) (w7 : Value) (h : tH) (Q : tO → tH → Prop)  :
    AX 4 110 44 [.ref r0, .int x1, .int x2, .int x3, .int x4, .int x5, .int x6, w7] [] h Q =
    (if x3 ≤ x6 then AX 4 110 96 [.ref r0, .int x1, .int x2, .int x3, .int x4, .int x5, .int x6, w7] [] h Q else (if x2 = (0 : Int32) then AX 4 110 96 [.ref r0, .int x1, .int x2, .int x3, .int x4, .int x5, .int x6, w7] [] h Q else AX 4 110 60 [.ref r0, .int x1, .int x2, .int x3, .int x4, .int x5, .int x6, .int (x6 + 1)] [] h Q)) := by
  rw [e_110_44]
  simp only [e_110_46, e_110_47, e_110_50, e_110_51, e_110_54, e_110_56, e_110_57, e_110_58, true_and, and_true, or_true, true_or]
set_option maxRecDepth 20000 in
theorem s_110_60 (r0 : Nat) (x1 : Int32) (x2 : Int32) (x3 : Int32) (x4 : Int32) (x5 : Int32) (x6 : Int32) (x7 : Int32) (h : tH) (Q : tO → tH → Prop)  :
    AX 4 110 60 [.ref r0, .int x1, .int x2, .int x3, .int x4, .int x5, .int x6, .int x7] [] h Q =
    (if x3 ≤ x7 then AX 4 110 90 [.ref r0, .int x1, .int x2, .int x3, .int x4, .int x5, .int x6, .int x7] [] h Q else (if x2 = (0 : Int32) then AX 4 110 90 [.ref r0, .int x1, .int x2, .int x3, .int x4, .int x5, .int x6, .int x7] [] h Q else (t_ob r0 = some 7 ∧ AM 109 [.ref r0, .int x1, .int x4, .int x5, .int x6, .int x7] h (t_ki (fun a1 h1 => AX 4 110 60 [.ref r0, .int x1, .int a1, .int x3, .int x4, .int x5, .int x6, .int (x7 + 1)] [] h1 Q) Q)))) := by
  rw [e_110_60]
  simp only [e_110_62, e_110_63, e_110_66, e_110_67, e_110_70, e_110_71, e_110_72, e_110_74, e_110_76, e_110_78, e_110_80, e_110_83, e_110_84, e_110_87, true_and, and_true, or_true, true_or]
set_option maxRecDepth 20000 in
theorem s_110_90 (r0 : Nat) (x1 : Int32) (x2 : Int32) (x3 : Int32) (x4 : Int32) (x5 : Int32) (x6 : Int32) (x7 : Int32) (h : tH) (Q : tO → tH → Prop)  :
    AX 4 110 90 [.ref r0, .int x1, .int x2, .int x3, .int x4, .int x5, .int x6, .int x7] [] h Q =
    AX 4 110 44 [.ref r0, .int x1, .int x2, .int x3, .int x4, .int x5, .int (x6 + 1), .int x7] [] h Q := by
  rw [e_110_90]
  simp only [e_110_93, true_and, and_true, or_true, true_or]
set_option maxRecDepth 20000 in
theorem s_110_96 (r0 : Nat) (x1 : Int32) (x2 : Int32) (x3 : Int32) (x4 : Int32) (x5 : Int32) (x6 : Int32) (w7 : Value) (h : tH) (Q : tO → tH → Prop)  :
    AX 4 110 96 [.ref r0, .int x1, .int x2, .int x3, .int x4, .int x5, .int x6, w7] [] h Q =
    AX 4 110 28 [.ref r0, .int x1, .int x2, .int x3, .int x4, .int (x5 + 1), .int x6, w7] [] h Q := by
  rw [e_110_96]
  simp only [e_110_99, true_and, and_true, or_true, true_or]
set_option maxRecDepth 20000 in
theorem s_110_102 (r0 : Nat) (x1 : Int32) (x2 : Int32) (x3 : Int32) (x4 : Int32) (x5 : Int32) (w6 : Value) (w7 : Value) (h : tH) (Q : tO → tH → Prop)  :
    AX 4 110 102 [.ref r0, .int x1, .int x2, .int x3, .int x4, .int x5, w6, w7] [] h Q =
    AX 4 110 12 [.ref r0, .int x1, .int x2, .int x3, .int (x4 + 1), .int x5, w6, w7] [] h Q := by
  rw [e_110_102]
  simp only [e_110_105, true_and, and_true, or_true, true_or]
set_option maxRecDepth 20000 in
theorem s_110_108 (r0 : Nat) (x1 : Int32) (x2 : Int32) (x3 : Int32) (x4 : Int32) (w5 : Value) (w6 : Value) (w7 : Value) (h : tH) (Q : tO → tH → Prop)  :
    AX 4 110 108 [.ref r0, .int x1, .int x2, .int x3, .int x4, w5, w6, w7] [] h Q =
    (((x2 : Int32) = 0 ∨ (x2 : Int32) = 1) ∧ Q (.inl (some (.int x2))) h) := by
  rw [e_110_108]
  simp only [e_110_109, true_and, and_true, or_true, true_or]
theorem am_110 (r0 : Nat) (x1 : Int32) (h : tH) (Q : tO → tH → Prop) : AM 110 [.ref r0, .int x1] h Q = AX 4 110 0 [.ref r0, .int x1, .float 0, .float 0, .float 0, .float 0, .float 0, .float 0] [] h Q := AM_at ta_110 _ _ _
-- X10_turn
theorem b_111_17 (x0 : Int32) (x1 : Int32) (x2 : Int32) (x3 : Int32) (y4 : Int64) (u0 : Int32) (h : tH) (Q : tO → tH → Prop) : AX 0 111 17 [.int x0, .int x1, .int x2, .int x3, .long y4, .float 0] [.int u0] h Q = AX 0 111 36 [.int x0, .int x1, .int x2, .int x3, .long y4, .float 0] [.int (if u0 ≤ (0 : Int32) then (if (0 : Int32) ≤ (lg_cmp y4 0) then (0 : Int32) else (-1)) else 1)] h Q := by
  simp only [e_111_17, e_111_20, e_111_21, e_111_24, e_111_26, e_111_27, e_111_28, e_111_31, e_111_32, e_111_35]
  repeat' split
  all_goals rfl
set_option maxRecDepth 20000 in
theorem s_111_0 (x0 : Int32) (x1 : Int32) (x2 : Int32) (x3 : Int32) (h : tH) (Q : tO → tH → Prop)  :
    AX 0 111 0 [.int x0, .int x1, .int x2, .int x3, .float 0, .float 0] [] h Q =
    Q (.inl (some (.int (if (lg_cmp ((((x0 : Int32).toInt64) * ((x3 : Int32).toInt64)) - (((x2 : Int32).toInt64) * ((x1 : Int32).toInt64))) 0) ≤ (0 : Int32) then (if (0 : Int32) ≤ (lg_cmp ((((x0 : Int32).toInt64) * ((x3 : Int32).toInt64)) - (((x2 : Int32).toInt64) * ((x1 : Int32).toInt64))) 0) then (0 : Int32) else (-1)) else 1)))) h := by
  rw [e_111_0]
  simp only [e_111_1, e_111_2, e_111_3, e_111_4, e_111_5, e_111_6, e_111_7, e_111_8, e_111_9, e_111_10, e_111_11, e_111_13, e_111_15, e_111_16, b_111_17, e_111_36, true_and, and_true, or_true, true_or]
theorem am_111 (x0 : Int32) (x1 : Int32) (x2 : Int32) (x3 : Int32) (h : tH) (Q : tO → tH → Prop) : AM 111 [.int x0, .int x1, .int x2, .int x3] h Q = AX 0 111 0 [.int x0, .int x1, .int x2, .int x3, .float 0, .float 0] [] h Q := AM_at ta_111 _ _ _
-- X10_shelfSign
set_option maxRecDepth 20000 in
theorem s_112_0 (r0 : Nat) (x1 : Int32) (x2 : Int32) (x3 : Int32) (h : tH) (Q : tO → tH → Prop)  :
    AX 1 112 0 [.ref r0, .int x1, .int x2, .int x3] [] h Q =
    (t_ob r0 = some 7 ∧ (vp_in x2 7 ∧ (t_ob r0 = some 7 ∧ (vp_in x1 7 ∧ (t_ob r0 = some 7 ∧ (vp_in x2 7 ∧ (t_ob r0 = some 7 ∧ (vp_in x1 7 ∧ (t_ob r0 = some 7 ∧ (vp_in x3 7 ∧ (t_ob r0 = some 7 ∧ (vp_in x1 7 ∧ (t_ob r0 = some 7 ∧ (vp_in x3 7 ∧ (t_ob r0 = some 7 ∧ (vp_in x1 7 ∧ AM 111 [.int ((h.1 14 x2.toNatClampNeg) - (h.1 14 x1.toNatClampNeg)), .int ((h.1 15 x2.toNatClampNeg) - (h.1 15 x1.toNatClampNeg)), .int ((h.1 14 x3.toNatClampNeg) - (h.1 14 x1.toNatClampNeg)), .int ((h.1 15 x3.toNatClampNeg) - (h.1 15 x1.toNatClampNeg))] h (t_ki (fun a1 h1 => Q (.inl (some (.int a1))) h1) Q))))))))))))))))) := by
  rw [e_112_0]
  simp only [e_112_1, e_112_4, e_112_5, e_112_6, e_112_7, e_112_10, e_112_11, e_112_12, e_112_13, e_112_14, e_112_17, e_112_18, e_112_19, e_112_20, e_112_23, e_112_24, e_112_25, e_112_26, e_112_27, e_112_30, e_112_31, e_112_32, e_112_33, e_112_36, e_112_37, e_112_38, e_112_39, e_112_40, e_112_43, e_112_44, e_112_45, e_112_46, e_112_49, e_112_50, e_112_51, e_112_52, e_112_55, t_ai_14, t_ai_15, true_and, and_true, or_true, true_or]
theorem am_112 (r0 : Nat) (x1 : Int32) (x2 : Int32) (x3 : Int32) (h : tH) (Q : tO → tH → Prop) : AM 112 [.ref r0, .int x1, .int x2, .int x3] h Q = AX 1 112 0 [.ref r0, .int x1, .int x2, .int x3] [] h Q := AM_at ta_112 _ _ _
-- X10_isFree
set_option maxRecDepth 20000 in
theorem s_113_0 (r0 : Nat) (x1 : Int32) (x2 : Int32) (h : tH) (Q : tO → tH → Prop)  :
    AX 1 113 0 [.ref r0, .int x1, .int x2, .float 0, .float 0, .float 0] [] h Q =
    AX 1 113 5 [.ref r0, .int x1, .int x2, .int 1, .int 0, .float 0] [] h Q := by
  rw [e_113_0]
  simp only [e_113_1, e_113_2, e_113_3, true_and, and_true, or_true, true_or]
set_option maxRecDepth 20000 in
theorem s_113_5 (r0 : Nat) (x1 : Int32) (x2 : Int32) (x3 : Int32) (x4 : Int32) (w5 : Value) (h : tH) (Q : tO → tH → Prop)  :
    AX 1 113 5 [.ref r0, .int x1, .int x2, .int x3, .int x4, w5] [] h Q =
    (t_ob r0 = some 7 ∧ (if (h.1 r0 1) ≤ x4 then (((x3 : Int32) = 0 ∨ (x3 : Int32) = 1) ∧ Q (.inl (some (.int x3))) h) else (if x3 = (0 : Int32) then AX 1 113 44 [.ref r0, .int x1, .int x2, .int x3, .int x4, w5] [] h Q else (t_ob r0 = some 7 ∧ (vp_in x4 7 ∧ (if ¬ (h.1 14 x4.toNatClampNeg) = x1 then AX 1 113 40 [.ref r0, .int x1, .int x2, .int x3, .int x4, w5] [] h Q else (t_ob r0 = some 7 ∧ (vp_in x4 7 ∧ (if (h.1 15 x4.toNatClampNeg) = x2 then AX 1 113 44 [.ref r0, .int x1, .int x2, .int x3, .int x4, w5] [] h Q else AX 1 113 40 [.ref r0, .int x1, .int x2, .int x3, .int x4, w5] [] h Q))))))))) := by
  rw [e_113_5]
  simp only [e_113_7, e_113_8, e_113_11, e_113_137, e_113_138, e_113_14, e_113_15, e_113_18, e_113_19, e_113_22, e_113_24, e_113_25, e_113_26, e_113_29, e_113_30, e_113_33, e_113_35, e_113_36, e_113_37, t_ai_14, t_ai_15, true_and, and_true, or_true, true_or]
set_option maxRecDepth 20000 in
theorem s_113_40 (r0 : Nat) (x1 : Int32) (x2 : Int32) (x3 : Int32) (x4 : Int32) (w5 : Value) (h : tH) (Q : tO → tH → Prop)  :
    AX 1 113 40 [.ref r0, .int x1, .int x2, .int x3, .int x4, w5] [] h Q =
    AX 1 113 45 [.ref r0, .int x1, .int x2, .int x3, .int x4, w5] [.int 1] h Q := by
  rw [e_113_40]
  simp only [e_113_41, true_and, and_true, or_true, true_or]
set_option maxRecDepth 20000 in
theorem s_113_44 (r0 : Nat) (x1 : Int32) (x2 : Int32) (x3 : Int32) (x4 : Int32) (w5 : Value) (h : tH) (Q : tO → tH → Prop)  :
    AX 1 113 44 [.ref r0, .int x1, .int x2, .int x3, .int x4, w5] [] h Q =
    AX 1 113 45 [.ref r0, .int x1, .int x2, .int x3, .int x4, w5] [.int 0] h Q := by
  rw [e_113_44]
set_option maxRecDepth 20000 in
theorem s_113_45 (r0 : Nat) (x1 : Int32) (x2 : Int32) (x3 : Int32) (x4 : Int32) (w5 : Value) (u0 : Int32) (h : tH) (Q : tO → tH → Prop)  :
    AX 1 113 45 [.ref r0, .int x1, .int x2, .int x3, .int x4, w5] [.int u0] h Q =
    AX 1 113 52 [.ref r0, .int x1, .int x2, .int u0, .int x4, .int (x4 + 1)] [] h Q := by
  rw [e_113_45]
  simp only [e_113_46, e_113_48, e_113_49, e_113_50, true_and, and_true, or_true, true_or]
set_option maxRecDepth 20000 in
theorem s_113_52 (r0 : Nat) (x1 : Int32) (x2 : Int32) (x3 : Int32) (x4 : Int32) (x5 : Int32) (h : tH) (Q : tO → tH → Prop)  :
    AX 1 113 52 [.ref r0, .int x1, .int x2, .int x3, .int x4, .int x5] [] h Q =
    (t_ob r0 = some 7 ∧ (if (h.1 r0 1) ≤ x5 then AX 1 113 5 [.ref r0, .int x1, .int x2, .int x3, .int (x4 + 1), .int x5] [] h Q else (if x3 = (0 : Int32) then AX 1 113 123 [.ref r0, .int x1, .int x2, .int x3, .int x4, .int x5] [] h Q else (t_ob r0 = some 7 ∧ (vp_in x5 7 ∧ (t_ob r0 = some 7 ∧ (vp_in x4 7 ∧ (t_ob r0 = some 7 ∧ (vp_in x5 7 ∧ (t_ob r0 = some 7 ∧ (vp_in x4 7 ∧ (t_ob r0 = some 7 ∧ (vp_in x4 7 ∧ (t_ob r0 = some 7 ∧ (vp_in x4 7 ∧ AM 111 [.int ((h.1 14 x5.toNatClampNeg) - (h.1 14 x4.toNatClampNeg)), .int ((h.1 15 x5.toNatClampNeg) - (h.1 15 x4.toNatClampNeg)), .int (x1 - (h.1 14 x4.toNatClampNeg)), .int (x2 - (h.1 15 x4.toNatClampNeg))] h (t_ki (fun a1 h1 => (if a1 = (0 : Int32) then AX 1 113 123 [.ref r0, .int x1, .int x2, .int x3, .int x4, .int x5] [] h1 Q else AX 1 113 124 [.ref r0, .int x1, .int x2, .int x3, .int x4, .int x5] [.int 1] h1 Q)) Q)))))))))))))))) := by
  rw [e_113_52]
  simp only [e_113_54, e_113_55, e_113_58, e_113_131, e_113_134, e_113_61, e_113_62, e_113_65, e_113_66, e_113_69, e_113_71, e_113_72, e_113_73, e_113_76, e_113_78, e_113_79, e_113_80, e_113_81, e_113_84, e_113_86, e_113_87, e_113_88, e_113_91, e_113_93, e_113_94, e_113_95, e_113_96, e_113_97, e_113_100, e_113_102, e_113_103, e_113_104, e_113_105, e_113_106, e_113_109, e_113_111, e_113_112, e_113_113, e_113_116, e_113_119, e_113_120, t_ai_14, t_ai_15, true_and, and_true, or_true, true_or]
set_option maxRecDepth 20000 in
theorem s_113_123 (r0 : Nat) (x1 : Int32) (x2 : Int32) (x3 : Int32) (x4 : Int32) (x5 : Int32) (h : tH) (Q : tO → tH → Prop)  :
    AX 1 113 123 [.ref r0, .int x1, .int x2, .int x3, .int x4, .int x5] [] h Q =
    AX 1 113 124 [.ref r0, .int x1, .int x2, .int x3, .int x4, .int x5] [.int 0] h Q := by
  rw [e_113_123]
set_option maxRecDepth 20000 in
theorem s_113_124 (r0 : Nat) (x1 : Int32) (x2 : Int32) (x3 : Int32) (x4 : Int32) (x5 : Int32) (u0 : Int32) (h : tH) (Q : tO → tH → Prop)  :
    AX 1 113 124 [.ref r0, .int x1, .int x2, .int x3, .int x4, .int x5] [.int u0] h Q =
    AX 1 113 52 [.ref r0, .int x1, .int x2, .int u0, .int x4, .int (x5 + 1)] [] h Q := by
  rw [e_113_124]
  simp only [e_113_125, e_113_128, true_and, and_true, or_true, true_or]
theorem am_113 (r0 : Nat) (x1 : Int32) (x2 : Int32) (h : tH) (Q : tO → tH → Prop) : AM 113 [.ref r0, .int x1, .int x2] h Q = AX 1 113 0 [.ref r0, .int x1, .int x2, .float 0, .float 0, .float 0] [] h Q := AM_at ta_113 _ _ _
-- X10_place
set_option maxRecDepth 20000 in
theorem s_114_0 (r0 : Nat) (x1 : Int32) (x2 : Int32) (h : tH) (Q : tO → tH → Prop)  :
    AX 2 114 0 [.ref r0, .int x1, .int x2] [] h Q =
    AM 100 [.int x1, .int (-1000), .int 1000] h (t_ki (fun a1 h1 => (if a1 = (0 : Int32) then AX 2 114 27 [.ref r0, .int x1, .int x2] [.ref r0] h1 Q else AM 100 [.int x2, .int (-1000), .int 1000] h1 (t_ki (fun a2 h2 => (if ¬ a2 = (0 : Int32) then (t_ob r0 = some 7 ∧ (if (h2.1 r0 1) = (7 : Int32) then AX 2 114 49 [.ref r0, .int x1, .int x2] [.ref r0] h2 Q else (t_ob r0 = some 7 ∧ AM 113 [.ref r0, .int x1, .int x2] h2 (t_ki (fun a3 h3 => (if ¬ a3 = (0 : Int32) then AX 2 114 54 [.ref r0, .int x1, .int x2] [.int 0, .ref r0] h3 Q else AX 2 114 49 [.ref r0, .int x1, .int x2] [.ref r0] h3 Q)) Q)))) else AX 2 114 27 [.ref r0, .int x1, .int x2] [.ref r0] h2 Q)) Q))) Q) := by
  rw [e_114_0]
  simp only [e_114_1, e_114_2, e_114_5, e_114_8, e_114_11, e_114_14, e_114_15, e_114_18, e_114_21, e_114_24, e_114_31, e_114_32, e_114_35, e_114_37, e_114_40, e_114_41, e_114_42, e_114_43, e_114_46, e_114_53, true_and, and_true, or_true, true_or]
set_option maxRecDepth 20000 in
theorem s_114_27 (r0 : Nat) (x1 : Int32) (x2 : Int32) (k0 : Nat) (h : tH) (Q : tO → tH → Prop)  :
    AX 2 114 27 [.ref r0, .int x1, .int x2] [.ref k0] h Q =
    AX 2 114 54 [.ref r0, .int x1, .int x2] [.int 1, .ref k0] h Q := by
  rw [e_114_27]
  simp only [e_114_28, true_and, and_true, or_true, true_or]
set_option maxRecDepth 20000 in
theorem s_114_49 (r0 : Nat) (x1 : Int32) (x2 : Int32) (k0 : Nat) (h : tH) (Q : tO → tH → Prop)  :
    AX 2 114 49 [.ref r0, .int x1, .int x2] [.ref k0] h Q =
    AX 2 114 54 [.ref r0, .int x1, .int x2] [.int 2, .ref k0] h Q := by
  rw [e_114_49]
  simp only [e_114_50, true_and, and_true, or_true, true_or]
set_option maxRecDepth 20000 in
theorem s_114_54 (r0 : Nat) (x1 : Int32) (x2 : Int32) (u0 : Int32) (k1 : Nat) (h : tH) (Q : tO → tH → Prop)  :
    AX 2 114 54 [.ref r0, .int x1, .int x2] [.int u0, .ref k1] h Q =
    (t_ob k1 = some 7 ∧ (t_ob r0 = some 7 ∧ (if ((t_I h k1 0 u0).1 r0 0) ≤ (0 : Int32) then (t_ob r0 = some 7 ∧ (t_ob r0 = some 7 ∧ (t_in (t_ai (t_I h k1 0 u0) 14) ((t_I h k1 0 u0).1 r0 1) ∧ (t_ob r0 = some 7 ∧ (t_ob r0 = some 7 ∧ (t_in (t_ai (t_I (t_I h k1 0 u0) 14 ((t_I h k1 0 u0).1 r0 1).toNatClampNeg x1) 15) ((t_I (t_I h k1 0 u0) 14 ((t_I h k1 0 u0).1 r0 1).toNatClampNeg x1).1 r0 1) ∧ (t_ob r0 = some 7 ∧ (t_ob r0 = some 7 ∧ (t_ob r0 = some 7 ∧ Q (.inl (some (.int ((t_I (t_I (t_I (t_I h k1 0 u0) 14 ((t_I h k1 0 u0).1 r0 1).toNatClampNeg x1) 15 ((t_I (t_I h k1 0 u0) 14 ((t_I h k1 0 u0).1 r0 1).toNatClampNeg x1).1 r0 1).toNatClampNeg x2) r0 1 (((t_I (t_I (t_I h k1 0 u0) 14 ((t_I h k1 0 u0).1 r0 1).toNatClampNeg x1) 15 ((t_I (t_I h k1 0 u0) 14 ((t_I h k1 0 u0).1 r0 1).toNatClampNeg x1).1 r0 1).toNatClampNeg x2).1 r0 1) + 1)).1 r0 1)))) (t_I (t_I (t_I (t_I h k1 0 u0) 14 ((t_I h k1 0 u0).1 r0 1).toNatClampNeg x1) 15 ((t_I (t_I h k1 0 u0) 14 ((t_I h k1 0 u0).1 r0 1).toNatClampNeg x1).1 r0 1).toNatClampNeg x2) r0 1 (((t_I (t_I (t_I h k1 0 u0) 14 ((t_I h k1 0 u0).1 r0 1).toNatClampNeg x1) 15 ((t_I (t_I h k1 0 u0) 14 ((t_I h k1 0 u0).1 r0 1).toNatClampNeg x1).1 r0 1).toNatClampNeg x2).1 r0 1) + 1))))))))))) else Q (.inl (some (.int 0))) (t_I h k1 0 u0)))) := by
  rw [e_114_54]
  simp only [e_114_57, e_114_58, e_114_61, e_114_66, e_114_67, e_114_70, e_114_71, e_114_74, e_114_75, e_114_76, e_114_77, e_114_80, e_114_81, e_114_84, e_114_85, e_114_86, e_114_87, e_114_88, e_114_91, e_114_92, e_114_93, e_114_96, e_114_97, e_114_100, e_114_64, e_114_65, t_ne_14, t_ne_15, true_and, and_true, or_true, true_or]
theorem am_114 (r0 : Nat) (x1 : Int32) (x2 : Int32) (h : tH) (Q : tO → tH → Prop) : AM 114 [.ref r0, .int x1, .int x2] h Q = AX 2 114 0 [.ref r0, .int x1, .int x2] [] h Q := AM_at ta_114 _ _ _
-- X10_clear
set_option maxRecDepth 20000 in
theorem s_115_0 (r0 : Nat) (h : tH) (Q : tO → tH → Prop)  :
    AX 0 115 0 [.ref r0, .float 0] [] h Q =
    (t_ob r0 = some 7 ∧ (t_ob r0 = some 7 ∧ (t_ob r0 = some 7 ∧ Q (.inl (some (.int ((t_I h r0 0 0).1 r0 1)))) (t_I (t_I h r0 0 0) r0 1 0)))) := by
  rw [e_115_0]
  simp only [e_115_1, e_115_2, e_115_5, e_115_6, e_115_9, e_115_10, e_115_11, e_115_12, e_115_15, e_115_16, true_and, and_true, or_true, true_or]
theorem am_115 (r0 : Nat) (h : tH) (Q : tO → tH → Prop) : AM 115 [.ref r0] h Q = AX 0 115 0 [.ref r0, .float 0] [] h Q := AM_at ta_115 _ _ _
-- X10_letter
theorem b_116_20 (r0 : Nat) (x1 : Int32) (u0 : Int32) (u1 : Int32) (k2 : Nat) (h : tH) (Q : tO → tH → Prop) : AX 1 116 20 [.ref r0, .int x1] [.int u0, .int u1, .ref k2] h Q = AX 1 116 28 [.ref r0, .int x1] [.int (if ¬ u1 = u0 then (0 : Int32) else 2), .ref k2] h Q := by
  simp only [e_116_20, e_116_23, e_116_24, e_116_27]
  repeat' split
  all_goals rfl
set_option maxRecDepth 20000 in
theorem s_116_0 (r0 : Nat) (x1 : Int32) (h : tH) (Q : tO → tH → Prop)  :
    AX 1 116 0 [.ref r0, .int x1] [] h Q =
    AM 100 [.int x1, .int 0, .int 5] h (t_ki (fun a1 h1 => (if ¬ a1 = (0 : Int32) then (t_ob r0 = some 7 ∧ AX 1 116 28 [.ref r0, .int x1] [.int (if ¬ (h1.1 r0 4) = 21 then (0 : Int32) else 2), .ref r0] h1 Q) else AX 1 116 28 [.ref r0, .int x1] [.int 1, .ref r0] h1 Q)) Q) := by
  rw [e_116_0]
  simp only [e_116_1, e_116_2, e_116_3, e_116_4, e_116_7, e_116_14, e_116_15, e_116_18, b_116_20, e_116_10, e_116_11, true_and, and_true, or_true, true_or]
set_option maxRecDepth 20000 in
theorem s_116_28 (r0 : Nat) (x1 : Int32) (u0 : Int32) (k1 : Nat) (h : tH) (Q : tO → tH → Prop)  :
    AX 1 116 28 [.ref r0, .int x1] [.int u0, .ref k1] h Q =
    (t_ob k1 = some 7 ∧ (t_ob r0 = some 7 ∧ (if ((t_I h k1 0 u0).1 r0 0) ≤ (0 : Int32) then (t_ob r0 = some 7 ∧ (t_ob r0 = some 7 ∧ (t_in (t_ai (t_I h k1 0 u0) 16) ((t_I h k1 0 u0).1 r0 4) ∧ (t_ob r0 = some 7 ∧ (t_ob r0 = some 7 ∧ (t_ob r0 = some 7 ∧ Q (.inl (some (.int ((t_I (t_I (t_I h k1 0 u0) 16 ((t_I h k1 0 u0).1 r0 4).toNatClampNeg x1) r0 4 (((t_I (t_I h k1 0 u0) 16 ((t_I h k1 0 u0).1 r0 4).toNatClampNeg x1).1 r0 4) + 1)).1 r0 4)))) (t_I (t_I (t_I h k1 0 u0) 16 ((t_I h k1 0 u0).1 r0 4).toNatClampNeg x1) r0 4 (((t_I (t_I h k1 0 u0) 16 ((t_I h k1 0 u0).1 r0 4).toNatClampNeg x1).1 r0 4) + 1)))))))) else Q (.inl (some (.int 0))) (t_I h k1 0 u0)))) := by
  rw [e_116_28]
  simp only [e_116_31, e_116_32, e_116_35, e_116_40, e_116_41, e_116_44, e_116_45, e_116_48, e_116_49, e_116_50, e_116_51, e_116_52, e_116_55, e_116_56, e_116_57, e_116_60, e_116_61, e_116_64, e_116_38, e_116_39, t_ne_16, true_and, and_true, or_true, true_or]
theorem am_116 (r0 : Nat) (x1 : Int32) (h : tH) (Q : tO → tH → Prop) : AM 116 [.ref r0, .int x1] h Q = AX 1 116 0 [.ref r0, .int x1] [] h Q := AM_at ta_116 _ _ _
-- X10_wipe
set_option maxRecDepth 20000 in
theorem s_117_0 (r0 : Nat) (h : tH) (Q : tO → tH → Prop)  :
    AX 0 117 0 [.ref r0, .float 0] [] h Q =
    (t_ob r0 = some 7 ∧ (t_ob r0 = some 7 ∧ (t_ob r0 = some 7 ∧ Q (.inl (some (.int ((t_I h r0 0 0).1 r0 4)))) (t_I (t_I h r0 0 0) r0 4 0)))) := by
  rw [e_117_0]
  simp only [e_117_1, e_117_2, e_117_5, e_117_6, e_117_9, e_117_10, e_117_11, e_117_12, e_117_15, e_117_16, true_and, and_true, or_true, true_or]
theorem am_117 (r0 : Nat) (h : tH) (Q : tO → tH → Prop) : AM 117 [.ref r0] h Q = AX 0 117 0 [.ref r0, .float 0] [] h Q := AM_at ta_117 _ _ _
-- X10_faultOf
theorem b_118_89 (r0 : Nat) (x1 : Int32) (x2 : Int32) (x3 : Int32) (x4 : Int32) (x5 : Int32) (w6 : Value) (u0 : Int32) (u1 : Int32) (h : tH) (Q : tO → tH → Prop) : AX 0 118 89 [.ref r0, .int x1, .int x2, .int x3, .int x4, .int x5, w6] [.int u0, .int u1] h Q = AX 0 118 111 [.ref r0, .int x1, .int x2, .int x3, .int x4, .int x5, w6] [.int (if u0 ≤ u1 then (7 * x5) + x4 else (7 * x4) + x5)] h Q := by
  simp only [e_118_89, e_118_92, e_118_94, e_118_96, e_118_97, e_118_99, e_118_100, e_118_103, e_118_105, e_118_107, e_118_108, e_118_110]
  repeat' split
  all_goals rfl
set_option maxRecDepth 20000 in
theorem s_118_0 (r0 : Nat) (x1 : Int32) (h : tH) (Q : tO → tH → Prop)  :
    AX 0 118 0 [.ref r0, .int x1, .float 0, .float 0, .float 0, .float 0, .float 0] [] h Q =
    AX 0 118 2 [.ref r0, .int x1, .int 0, .float 0, .float 0, .float 0, .float 0] [] h Q := by
  rw [e_118_0]
  simp only [e_118_1, true_and, and_true, or_true, true_or]
set_option maxRecDepth 20000 in
theorem s_118_2 (r0 : Nat) (x1 : Int32) (x2 : Int32) (h : tH) (Q : tO → tH → Prop)  :
    AX 0 118 2 [.ref r0, .int x1, .int x2, .float 0, .float 0, .float 0, .float 0] [] h Q =
    (if (49 : Int32) ≤ x2 then AX 0 118 23 [.ref r0, .int x1, .int 0, .float 0, .float 0, .float 0, .float 0] [] h Q else (t_ob r0 = some 7 ∧ (vp_in x2 49 ∧ AX 0 118 2 [.ref r0, .int x1, .int (x2 + 1), .float 0, .float 0, .float 0, .float 0] [] (t_I h 18 x2.toNatClampNeg (-1)) Q))) := by
  rw [e_118_2]
  simp only [e_118_3, e_118_5, e_118_21, e_118_22, e_118_8, e_118_9, e_118_12, e_118_13, e_118_14, e_118_15, e_118_18, t_ai_18, t_ne_18, true_and, and_true, or_true, true_or]
set_option maxRecDepth 20000 in
theorem s_118_23 (r0 : Nat) (x1 : Int32) (x2 : Int32) (h : tH) (Q : tO → tH → Prop)  :
    AX 0 118 23 [.ref r0, .int x1, .int x2, .float 0, .float 0, .float 0, .float 0] [] h Q =
    (if x1 ≤ x2 then AX 0 118 43 [.ref r0, .int x1, .int 0, .float 0, .float 0, .float 0, .float 0] [] h Q else (t_ob r0 = some 7 ∧ (vp_in x2 7 ∧ AX 0 118 23 [.ref r0, .int x1, .int (x2 + 1), .float 0, .float 0, .float 0, .float 0] [] (t_I h 17 x2.toNatClampNeg x2) Q))) := by
  rw [e_118_23]
  simp only [e_118_24, e_118_25, e_118_41, e_118_42, e_118_28, e_118_29, e_118_32, e_118_33, e_118_34, e_118_35, e_118_38, t_ai_17, t_ne_17, true_and, and_true, or_true, true_or]
set_option maxRecDepth 20000 in
theorem s_118_43 (r0 : Nat) (x1 : Int32) (x2 : Int32) (w3 : Value) (w4 : Value) (w5 : Value) (w6 : Value) (h : tH) (Q : tO → tH → Prop)  :
    AX 0 118 43 [.ref r0, .int x1, .int x2, w3, w4, w5, w6] [] h Q =
    (t_ob r0 = some 7 ∧ (if (h.1 r0 4) ≤ x2 then AX 0 118 162 [.ref r0, .int x1, .int 1, .int 0, w4, w5, w6] [] h Q else (t_ob r0 = some 7 ∧ (vp_in x2 21 ∧ (if (h.1 16 x2.toNatClampNeg) ≤ (x1 - 2) then (t_ob r0 = some 7 ∧ (vp_in (h.1 16 x2.toNatClampNeg) 7 ∧ (t_ob r0 = some 7 ∧ (vp_in ((h.1 16 x2.toNatClampNeg) + 1) 7 ∧ (t_ob r0 = some 7 ∧ (vp_in (if (h.1 17 ((h.1 16 x2.toNatClampNeg) + 1).toNatClampNeg) ≤ (h.1 17 (h.1 16 x2.toNatClampNeg).toNatClampNeg) then (7 * (h.1 17 ((h.1 16 x2.toNatClampNeg) + 1).toNatClampNeg)) + (h.1 17 (h.1 16 x2.toNatClampNeg).toNatClampNeg) else (7 * (h.1 17 (h.1 16 x2.toNatClampNeg).toNatClampNeg)) + (h.1 17 ((h.1 16 x2.toNatClampNeg) + 1).toNatClampNeg)) 49 ∧ (if (h.1 18 (if (h.1 17 ((h.1 16 x2.toNatClampNeg) + 1).toNatClampNeg) ≤ (h.1 17 (h.1 16 x2.toNatClampNeg).toNatClampNeg) then (7 * (h.1 17 ((h.1 16 x2.toNatClampNeg) + 1).toNatClampNeg)) + (h.1 17 (h.1 16 x2.toNatClampNeg).toNatClampNeg) else (7 * (h.1 17 (h.1 16 x2.toNatClampNeg).toNatClampNeg)) + (h.1 17 ((h.1 16 x2.toNatClampNeg) + 1).toNatClampNeg)).toNatClampNeg) = ((-1) : Int32) then (t_ob r0 = some 7 ∧ (vp_in (if (h.1 17 ((h.1 16 x2.toNatClampNeg) + 1).toNatClampNeg) ≤ (h.1 17 (h.1 16 x2.toNatClampNeg).toNatClampNeg) then (7 * (h.1 17 ((h.1 16 x2.toNatClampNeg) + 1).toNatClampNeg)) + (h.1 17 (h.1 16 x2.toNatClampNeg).toNatClampNeg) else (7 * (h.1 17 (h.1 16 x2.toNatClampNeg).toNatClampNeg)) + (h.1 17 ((h.1 16 x2.toNatClampNeg) + 1).toNatClampNeg)) 49 ∧ (t_ob r0 = some 7 ∧ (t_in (t_ai (t_I h 18 (if (h.1 17 ((h.1 16 x2.toNatClampNeg) + 1).toNatClampNeg) ≤ (h.1 17 (h.1 16 x2.toNatClampNeg).toNatClampNeg) then (7 * (h.1 17 ((h.1 16 x2.toNatClampNeg) + 1).toNatClampNeg)) + (h.1 17 (h.1 16 x2.toNatClampNeg).toNatClampNeg) else (7 * (h.1 17 (h.1 16 x2.toNatClampNeg).toNatClampNeg)) + (h.1 17 ((h.1 16 x2.toNatClampNeg) + 1).toNatClampNeg)).toNatClampNeg x2) 17) (h.1 16 x2.toNatClampNeg) ∧ (t_ob r0 = some 7 ∧ (t_in (t_ai (t_I (t_I h 18 (if (h.1 17 ((h.1 16 x2.toNatClampNeg) + 1).toNatClampNeg) ≤ (h.1 17 (h.1 16 x2.toNatClampNeg).toNatClampNeg) then (7 * (h.1 17 ((h.1 16 x2.toNatClampNeg) + 1).toNatClampNeg)) + (h.1 17 (h.1 16 x2.toNatClampNeg).toNatClampNeg) else (7 * (h.1 17 (h.1 16 x2.toNatClampNeg).toNatClampNeg)) + (h.1 17 ((h.1 16 x2.toNatClampNeg) + 1).toNatClampNeg)).toNatClampNeg x2) 17 (h.1 16 x2.toNatClampNeg).toNatClampNeg (h.1 17 ((h.1 16 x2.toNatClampNeg) + 1).toNatClampNeg)) 17) ((h.1 16 x2.toNatClampNeg) + 1) ∧ AX 0 118 43 [.ref r0, .int x1, .int (x2 + 1), .int (h.1 16 x2.toNatClampNeg), .int (h.1 17 (h.1 16 x2.toNatClampNeg).toNatClampNeg), .int (h.1 17 ((h.1 16 x2.toNatClampNeg) + 1).toNatClampNeg), .int (if (h.1 17 ((h.1 16 x2.toNatClampNeg) + 1).toNatClampNeg) ≤ (h.1 17 (h.1 16 x2.toNatClampNeg).toNatClampNeg) then (7 * (h.1 17 ((h.1 16 x2.toNatClampNeg) + 1).toNatClampNeg)) + (h.1 17 (h.1 16 x2.toNatClampNeg).toNatClampNeg) else (7 * (h.1 17 (h.1 16 x2.toNatClampNeg).toNatClampNeg)) + (h.1 17 ((h.1 16 x2.toNatClampNeg) + 1).toNatClampNeg))] [] (t_I (t_I (t_I h 18 (if (h.1 17 ((h.1 16 x2.toNatClampNeg) + 1).toNatClampNeg) ≤ (h.1 17 (h.1 16 x2.toNatClampNeg).toNatClampNeg) then (7 * (h.1 17 ((h.1 16 x2.toNatClampNeg) + 1).toNatClampNeg)) + (h.1 17 (h.1 16 x2.toNatClampNeg).toNatClampNeg) else (7 * (h.1 17 (h.1 16 x2.toNatClampNeg).toNatClampNeg)) + (h.1 17 ((h.1 16 x2.toNatClampNeg) + 1).toNatClampNeg)).toNatClampNeg x2) 17 (h.1 16 x2.toNatClampNeg).toNatClampNeg (h.1 17 ((h.1 16 x2.toNatClampNeg) + 1).toNatClampNeg)) 17 ((h.1 16 x2.toNatClampNeg) + 1).toNatClampNeg (h.1 17 (h.1 16 x2.toNatClampNeg).toNatClampNeg)) Q)))))) else Q (.inl (some (.int x2))) h))))))) else Q (.inl (some (.int x2))) h))))) := by
  rw [e_118_43]
  simp only [e_118_44, e_118_45, e_118_48, e_118_158, e_118_159, e_118_160, e_118_161, e_118_51, e_118_52, e_118_55, e_118_56, e_118_57, e_118_58, e_118_59, e_118_60, e_118_61, e_118_62, e_118_67, e_118_68, e_118_71, e_118_72, e_118_73, e_118_75, e_118_76, e_118_79, e_118_80, e_118_81, e_118_82, e_118_83, e_118_85, e_118_87, b_118_89, e_118_111, e_118_113, e_118_114, e_118_117, e_118_119, e_118_120, e_118_121, e_118_126, e_118_127, e_118_130, e_118_132, e_118_133, e_118_134, e_118_135, e_118_138, e_118_139, e_118_141, e_118_142, e_118_143, e_118_146, e_118_147, e_118_148, e_118_149, e_118_151, e_118_152, e_118_155, e_118_124, e_118_125, e_118_65, e_118_66, t_ai_16, t_ai_17, t_ai_18, t_ne_17, t_ne_18, true_and, and_true, or_true, true_or]
set_option maxRecDepth 20000 in
theorem s_118_162 (r0 : Nat) (x1 : Int32) (x2 : Int32) (x3 : Int32) (w4 : Value) (w5 : Value) (w6 : Value) (h : tH) (Q : tO → tH → Prop)  :
    AX 0 118 162 [.ref r0, .int x1, .int x2, .int x3, w4, w5, w6] [] h Q =
    (if x1 ≤ x3 then (if x2 = (0 : Int32) then (t_ob r0 = some 7 ∧ AX 0 118 228 [.ref r0, .int x1, .int x2, .int x3, w4, w5, w6] [.int (h.1 r0 4)] h Q) else AX 0 118 228 [.ref r0, .int x1, .int x2, .int x3, w4, w5, w6] [.int (-1)] h Q) else AX 0 118 172 [.ref r0, .int x1, .int x2, .int x3, .int (x3 + 1), w5, w6] [] h Q) := by
  rw [e_118_162]
  simp only [e_118_163, e_118_164, e_118_216, e_118_217, e_118_224, e_118_225, e_118_220, e_118_221, e_118_167, e_118_168, e_118_169, e_118_170, true_and, and_true, or_true, true_or]
set_option maxRecDepth 20000 in
theorem s_118_172 (r0 : Nat) (x1 : Int32) (x2 : Int32) (x3 : Int32) (x4 : Int32) (w5 : Value) (w6 : Value) (h : tH) (Q : tO → tH → Prop)  :
    AX 0 118 172 [.ref r0, .int x1, .int x2, .int x3, .int x4, w5, w6] [] h Q =
    (if x1 ≤ x4 then AX 0 118 162 [.ref r0, .int x1, .int x2, .int (x3 + 1), .int x4, w5, w6] [] h Q else (if x2 = (0 : Int32) then AX 0 118 202 [.ref r0, .int x1, .int x2, .int x3, .int x4, w5, w6] [] h Q else (t_ob r0 = some 7 ∧ (vp_in ((7 * x3) + x4) 49 ∧ (if (h.1 18 ((7 * x3) + x4).toNatClampNeg) = ((-1) : Int32) then AX 0 118 202 [.ref r0, .int x1, .int x2, .int x3, .int x4, w5, w6] [] h Q else AX 0 118 203 [.ref r0, .int x1, .int x2, .int x3, .int x4, w5, w6] [.int 1] h Q))))) := by
  rw [e_118_172]
  simp only [e_118_174, e_118_175, e_118_210, e_118_213, e_118_178, e_118_179, e_118_182, e_118_183, e_118_186, e_118_188, e_118_189, e_118_190, e_118_192, e_118_193, e_118_194, e_118_195, e_118_198, e_118_199, t_ai_18, true_and, and_true, or_true, true_or]
set_option maxRecDepth 20000 in
theorem s_118_202 (r0 : Nat) (x1 : Int32) (x2 : Int32) (x3 : Int32) (x4 : Int32) (w5 : Value) (w6 : Value) (h : tH) (Q : tO → tH → Prop)  :
    AX 0 118 202 [.ref r0, .int x1, .int x2, .int x3, .int x4, w5, w6] [] h Q =
    AX 0 118 203 [.ref r0, .int x1, .int x2, .int x3, .int x4, w5, w6] [.int 0] h Q := by
  rw [e_118_202]
set_option maxRecDepth 20000 in
theorem s_118_203 (r0 : Nat) (x1 : Int32) (x2 : Int32) (x3 : Int32) (x4 : Int32) (w5 : Value) (w6 : Value) (u0 : Int32) (h : tH) (Q : tO → tH → Prop)  :
    AX 0 118 203 [.ref r0, .int x1, .int x2, .int x3, .int x4, w5, w6] [.int u0] h Q =
    AX 0 118 172 [.ref r0, .int x1, .int u0, .int x3, .int (x4 + 1), w5, w6] [] h Q := by
  rw [e_118_203]
  simp only [e_118_204, e_118_207, true_and, and_true, or_true, true_or]
set_option maxRecDepth 20000 in
theorem s_118_228 (r0 : Nat) (x1 : Int32) (x2 : Int32) (x3 : Int32) (w4 : Value) (w5 : Value) (w6 : Value) (u0 : Int32) (h : tH) (Q : tO → tH → Prop)  :
    AX 0 118 228 [.ref r0, .int x1, .int x2, .int x3, w4, w5, w6] [.int u0] h Q =
    Q (.inl (some (.int u0))) h := by
  rw [e_118_228]
theorem am_118 (r0 : Nat) (x1 : Int32) (h : tH) (Q : tO → tH → Prop) : AM 118 [.ref r0, .int x1] h Q = AX 0 118 0 [.ref r0, .int x1, .float 0, .float 0, .float 0, .float 0, .float 0] [] h Q := AM_at ta_118 _ _ _
-- X10_fault
theorem b_119_8 (r0 : Nat) (x1 : Int32) (u0 : Int32) (k1 : Nat) (h : tH) (Q : tO → tH → Prop) : AX 1 119 8 [.ref r0, .int x1] [.int u0, .ref k1] h Q = AX 1 119 16 [.ref r0, .int x1] [.int (if u0 = (0 : Int32) then (1 : Int32) else 0), .ref k1] h Q := by
  simp only [e_119_8, e_119_11, e_119_12, e_119_15]
  repeat' split
  all_goals rfl
set_option maxRecDepth 20000 in
theorem s_119_0 (r0 : Nat) (x1 : Int32) (h : tH) (Q : tO → tH → Prop)  :
    AX 1 119 0 [.ref r0, .int x1] [] h Q =
    AM 100 [.int x1, .int 3, .int 7] h (t_ki (fun a1 h1 => (t_ob r0 = some 7 ∧ (t_ob r0 = some 7 ∧ (if ((t_I h1 r0 0 (if a1 = (0 : Int32) then (1 : Int32) else 0)).1 r0 0) ≤ (0 : Int32) then (t_ob r0 = some 7 ∧ AM 118 [.ref r0, .int x1] (t_I h1 r0 0 (if a1 = (0 : Int32) then (1 : Int32) else 0)) (t_ki (fun a2 h2 => AX 1 119 35 [.ref r0, .int x1] [.int a2] h2 Q) Q)) else AX 1 119 35 [.ref r0, .int x1] [.int 0] (t_I h1 r0 0 (if a1 = (0 : Int32) then (1 : Int32) else 0)) Q)))) Q) := by
  rw [e_119_0]
  simp only [e_119_1, e_119_2, e_119_3, e_119_5, b_119_8, e_119_16, e_119_19, e_119_20, e_119_23, e_119_30, e_119_31, e_119_32, e_119_26, e_119_27, true_and, and_true, or_true, true_or]
set_option maxRecDepth 20000 in
theorem s_119_35 (r0 : Nat) (x1 : Int32) (u0 : Int32) (h : tH) (Q : tO → tH → Prop)  :
    AX 1 119 35 [.ref r0, .int x1] [.int u0] h Q =
    Q (.inl (some (.int u0))) h := by
  rw [e_119_35]
theorem am_119 (r0 : Nat) (x1 : Int32) (h : tH) (Q : tO → tH → Prop) : AM 119 [.ref r0, .int x1] h Q = AX 1 119 0 [.ref r0, .int x1] [] h Q := AM_at ta_119 _ _ _
-- X10_adds
set_option maxRecDepth 20000 in
theorem s_120_0 (r0 : Nat) (x1 : Int32) (h : tH) (Q : tO → tH → Prop)  :
    AX 0 120 0 [.ref r0, .int x1, .float 0] [] h Q =
    (t_ob r0 = some 7 ∧ (t_ob r0 = some 7 ∧ (vp_in (h.1 r0 8) 7 ∧ (t_ob r0 = some 7 ∧ (t_ob r0 = some 7 ∧ (vp_in ((t_I h 19 (h.1 r0 8).toNatClampNeg x1).1 r0 8) 6 ∧ (0 = 0 ∨ 0 = 1) ∧ (t_ob r0 = some 7 ∧ (t_ob r0 = some 7 ∧ (vp_in ((t_I (t_I h 19 (h.1 r0 8).toNatClampNeg x1) 21 ((t_I h 19 (h.1 r0 8).toNatClampNeg x1).1 r0 8).toNatClampNeg 0).1 r0 8) 6 ∧ (0 = 0 ∨ 0 = 1) ∧ AX 0 120 32 [.ref r0, .int x1, .int 0] [] (t_I (t_I (t_I h 19 (h.1 r0 8).toNatClampNeg x1) 21 ((t_I h 19 (h.1 r0 8).toNatClampNeg x1).1 r0 8).toNatClampNeg 0) 24 ((t_I (t_I h 19 (h.1 r0 8).toNatClampNeg x1) 21 ((t_I h 19 (h.1 r0 8).toNatClampNeg x1).1 r0 8).toNatClampNeg 0).1 r0 8).toNatClampNeg 0) Q))))))))) := by
  rw [e_120_0]
  simp only [e_120_1, e_120_4, e_120_5, e_120_8, e_120_9, e_120_10, e_120_11, e_120_14, e_120_15, e_120_18, e_120_19, e_120_20, e_120_21, e_120_24, e_120_25, e_120_28, e_120_29, e_120_30, e_120_31, t_ai_19, t_bo_21, t_bo_24, t_ne_19, true_and, and_true, or_true, true_or]
set_option maxRecDepth 20000 in
theorem s_120_32 (r0 : Nat) (x1 : Int32) (x2 : Int32) (h : tH) (Q : tO → tH → Prop)  :
    AX 0 120 32 [.ref r0, .int x1, .int x2] [] h Q =
    (if (343 : Int32) ≤ x2 then (t_ob r0 = some 7 ∧ (t_ob r0 = some 7 ∧ (t_ob r0 = some 7 ∧ Q (.inl (some (.int (((t_I h r0 8 ((h.1 r0 8) + 1)).1 r0 8) - 1)))) (t_I h r0 8 ((h.1 r0 8) + 1))))) else (t_ob r0 = some 7 ∧ (t_ob r0 = some 7 ∧ (vp_in ((343 * (h.1 r0 8)) + x2) 2401 ∧ AX 0 120 32 [.ref r0, .int x1, .int (x2 + 1)] [] (t_I h 20 ((343 * (h.1 r0 8)) + x2).toNatClampNeg 0) Q)))) := by
  rw [e_120_32]
  simp only [e_120_33, e_120_36, e_120_61, e_120_62, e_120_63, e_120_66, e_120_67, e_120_68, e_120_71, e_120_72, e_120_75, e_120_76, e_120_77, e_120_39, e_120_40, e_120_43, e_120_46, e_120_47, e_120_50, e_120_51, e_120_52, e_120_53, e_120_54, e_120_55, e_120_58, t_ai_20, t_ne_20, true_and, and_true, or_true, true_or]
theorem am_120 (r0 : Nat) (x1 : Int32) (h : tH) (Q : tO → tH → Prop) : AM 120 [.ref r0, .int x1] h Q = AX 0 120 0 [.ref r0, .int x1, .float 0] [] h Q := AM_at ta_120 _ _ _
-- X10_numbers
set_option maxRecDepth 20000 in
theorem s_121_0 (r0 : Nat) (x1 : Int32) (h : tH) (Q : tO → tH → Prop)  :
    AX 0 121 0 [.ref r0, .int x1, .float 0] [] h Q =
    AX 0 121 2 [.ref r0, .int x1, .int 0] [] h Q := by
  rw [e_121_0]
  simp only [e_121_1, true_and, and_true, or_true, true_or]
set_option maxRecDepth 20000 in
theorem s_121_2 (r0 : Nat) (x1 : Int32) (x2 : Int32) (h : tH) (Q : tO → tH → Prop)  :
    AX 0 121 2 [.ref r0, .int x1, .int x2] [] h Q =
    (t_ob r0 = some 7 ∧ (if (h.1 r0 1) ≤ x2 then (t_ob r0 = some 7 ∧ (vp_in x1 6 ∧ (1 = 0 ∨ 1 = 1) ∧ (t_ob r0 = some 7 ∧ Q (.inl none) (t_I (t_I h 21 x1.toNatClampNeg 1) r0 1 0)))) else (t_ob r0 = some 7 ∧ (t_ob r0 = some 7 ∧ (vp_in x2 7 ∧ (vp_in ((7 * x1) + x2) 42 ∧ (t_ob r0 = some 7 ∧ (t_ob r0 = some 7 ∧ (t_in (t_ai (t_I h 22 ((7 * x1) + x2).toNatClampNeg (h.1 14 x2.toNatClampNeg)) 15) x2 ∧ (t_in (t_ai (t_I h 22 ((7 * x1) + x2).toNatClampNeg (h.1 14 x2.toNatClampNeg)) 23) ((7 * x1) + x2) ∧ AX 0 121 2 [.ref r0, .int x1, .int (x2 + 1)] [] (t_I (t_I h 22 ((7 * x1) + x2).toNatClampNeg (h.1 14 x2.toNatClampNeg)) 23 ((7 * x1) + x2).toNatClampNeg ((t_I h 22 ((7 * x1) + x2).toNatClampNeg (h.1 14 x2.toNatClampNeg)).1 15 x2.toNatClampNeg)) Q)))))))))) := by
  rw [e_121_2]
  simp only [e_121_3, e_121_4, e_121_7, e_121_50, e_121_51, e_121_54, e_121_55, e_121_56, e_121_57, e_121_58, e_121_59, e_121_62, e_121_10, e_121_11, e_121_14, e_121_16, e_121_17, e_121_18, e_121_19, e_121_20, e_121_21, e_121_24, e_121_25, e_121_26, e_121_27, e_121_28, e_121_31, e_121_33, e_121_34, e_121_35, e_121_36, e_121_37, e_121_38, e_121_41, e_121_42, e_121_43, e_121_44, e_121_47, t_ai_14, t_ai_22, t_bo_21, t_ne_22, t_ne_23, true_and, and_true, or_true, true_or]
theorem am_121 (r0 : Nat) (x1 : Int32) (h : tH) (Q : tO → tH → Prop) : AM 121 [.ref r0, .int x1] h Q = AX 0 121 0 [.ref r0, .int x1, .float 0] [] h Q := AM_at ta_121 _ _ _
-- X10_draw
set_option maxRecDepth 20000 in
theorem s_122_0 (r0 : Nat) (h : tH) (Q : tO → tH → Prop)  :
    AX 2 122 0 [.ref r0, .float 0, .float 0, .float 0, .float 0] [] h Q =
    (t_ob r0 = some 7 ∧ (if (h.1 r0 1) < (3 : Int32) then AX 2 122 18 [.ref r0, .float 0, .float 0, .float 0, .float 0] [.ref r0] h Q else (t_ob r0 = some 7 ∧ (if ¬ (h.1 r0 8) = (6 : Int32) then AX 2 122 23 [.ref r0, .float 0, .float 0, .float 0, .float 0] [.int 0, .ref r0] h Q else AX 2 122 18 [.ref r0, .float 0, .float 0, .float 0, .float 0] [.ref r0] h Q)))) := by
  rw [e_122_0]
  simp only [e_122_1, e_122_2, e_122_5, e_122_6, e_122_9, e_122_10, e_122_13, e_122_15, e_122_22, true_and, and_true, or_true, true_or]
set_option maxRecDepth 20000 in
theorem s_122_18 (r0 : Nat) (k0 : Nat) (h : tH) (Q : tO → tH → Prop)  :
    AX 2 122 18 [.ref r0, .float 0, .float 0, .float 0, .float 0] [.ref k0] h Q =
    AX 2 122 23 [.ref r0, .float 0, .float 0, .float 0, .float 0] [.int 1, .ref k0] h Q := by
  rw [e_122_18]
  simp only [e_122_19, true_and, and_true, or_true, true_or]
set_option maxRecDepth 20000 in
theorem s_122_23 (r0 : Nat) (u0 : Int32) (k1 : Nat) (h : tH) (Q : tO → tH → Prop)  :
    AX 2 122 23 [.ref r0, .float 0, .float 0, .float 0, .float 0] [.int u0, .ref k1] h Q =
    (t_ob k1 = some 7 ∧ (t_ob r0 = some 7 ∧ (if ((t_I h k1 0 u0).1 r0 0) ≤ (0 : Int32) then (t_ob r0 = some 7 ∧ (t_ob r0 = some 7 ∧ AM 120 [.ref r0, .int ((t_I h k1 0 u0).1 r0 1)] (t_I h k1 0 u0) (t_ki (fun a1 h1 => AX 2 122 46 [.ref r0, .int a1, .int 0, .float 0, .float 0] [] h1 Q) Q))) else Q (.inl (some (.int 0))) (t_I h k1 0 u0)))) := by
  rw [e_122_23]
  simp only [e_122_26, e_122_27, e_122_30, e_122_35, e_122_36, e_122_37, e_122_40, e_122_43, e_122_44, e_122_45, e_122_33, e_122_34, true_and, and_true, or_true, true_or]
set_option maxRecDepth 20000 in
theorem s_122_46 (r0 : Nat) (x1 : Int32) (x2 : Int32) (w3 : Value) (w4 : Value) (h : tH) (Q : tO → tH → Prop)  :
    AX 2 122 46 [.ref r0, .int x1, .int x2, w3, w4] [] h Q =
    (t_ob r0 = some 7 ∧ (if (h.1 r0 1) ≤ x2 then (t_ob r0 = some 7 ∧ AM 121 [.ref r0, .int x1] h (t_kv (fun h1 => Q (.inl (some (.int x1))) h1) Q)) else AX 2 122 58 [.ref r0, .int x1, .int x2, .int (x2 + 1), w4] [] h Q)) := by
  rw [e_122_46]
  simp only [e_122_47, e_122_48, e_122_51, e_122_115, e_122_116, e_122_117, e_122_120, e_122_121, e_122_54, e_122_55, e_122_56, e_122_57, true_and, and_true, or_true, true_or]
set_option maxRecDepth 20000 in
theorem s_122_58 (r0 : Nat) (x1 : Int32) (x2 : Int32) (x3 : Int32) (w4 : Value) (h : tH) (Q : tO → tH → Prop)  :
    AX 2 122 58 [.ref r0, .int x1, .int x2, .int x3, w4] [] h Q =
    (t_ob r0 = some 7 ∧ (if (h.1 r0 1) ≤ x3 then AX 2 122 46 [.ref r0, .int x1, .int (x2 + 1), .int x3, w4] [] h Q else AX 2 122 71 [.ref r0, .int x1, .int x2, .int x3, .int (x3 + 1)] [] h Q)) := by
  rw [e_122_58]
  simp only [e_122_59, e_122_60, e_122_63, e_122_109, e_122_112, e_122_66, e_122_67, e_122_68, e_122_69, true_and, and_true, or_true, true_or]
set_option maxRecDepth 20000 in
theorem s_122_71 (r0 : Nat) (x1 : Int32) (x2 : Int32) (x3 : Int32) (x4 : Int32) (h : tH) (Q : tO → tH → Prop)  :
    AX 2 122 71 [.ref r0, .int x1, .int x2, .int x3, .int x4] [] h Q =
    (t_ob r0 = some 7 ∧ (if (h.1 r0 1) ≤ x4 then AX 2 122 58 [.ref r0, .int x1, .int x2, .int (x3 + 1), .int x4] [] h Q else (t_ob r0 = some 7 ∧ AM 112 [.ref r0, .int x2, .int x3, .int x4] h (t_ki (fun a1 h1 => (t_ob r0 = some 7 ∧ AM 105 [.ref r0, .int x1, .int x2, .int x3, .int x4, .int a1] h1 (t_kv (fun h2 => AX 2 122 71 [.ref r0, .int x1, .int x2, .int x3, .int (x4 + 1)] [] h2 Q) Q))) Q)))) := by
  rw [e_122_71]
  simp only [e_122_73, e_122_74, e_122_77, e_122_103, e_122_106, e_122_80, e_122_81, e_122_82, e_122_83, e_122_84, e_122_86, e_122_87, e_122_88, e_122_89, e_122_91, e_122_94, e_122_97, e_122_100, true_and, and_true, or_true, true_or]
theorem am_122 (r0 : Nat) (h : tH) (Q : tO → tH → Prop) : AM 122 [.ref r0] h Q = AX 2 122 0 [.ref r0, .float 0, .float 0, .float 0, .float 0] [] h Q := AM_at ta_122 _ _ _
-- X10_wire
theorem b_123_118 (r0 : Nat) (x1 : Int32) (x2 : Int32) (x3 : Int32) (x4 : Int32) (x5 : Int32) (u0 : Int32) (u1 : Int32) (u2 : Int32) (u3 : Int32) (u4 : Int32) (u5 : Int32) (k6 : Nat) (h : tH) (Q : tO → tH → Prop) : AX 2 123 118 [.ref r0, .int x1, .int x2, .int x3, .int x4, .int x5] [.int u0, .int u1, .int u2, .int u3, .int u4, .int u5, .ref k6] h Q = AX 2 123 126 [.ref r0, .int x1, .int x2, .int x3, .int x4, .int x5] [.int (if u0 ≤ u1 then ((-1) : Int32) else 1), .int u2, .int u3, .int u4, .int u5, .ref k6] h Q := by
  simp only [e_123_118, e_123_121, e_123_122, e_123_125]
  repeat' split
  all_goals rfl
set_option maxRecDepth 20000 in
theorem s_123_0 (r0 : Nat) (x1 : Int32) (h : tH) (Q : tO → tH → Prop)  :
    AX 2 123 0 [.ref r0, .int x1, .float 0, .float 0, .float 0, .float 0] [] h Q =
    AM 100 [.int x1, .int 3, .int 7] h (t_ki (fun a1 h1 => (if ¬ a1 = (0 : Int32) then (t_ob r0 = some 7 ∧ (if (h1.1 r0 8) = (6 : Int32) then AX 2 123 33 [.ref r0, .int x1, .float 0, .float 0, .float 0, .float 0] [.ref r0] h1 Q else (t_ob r0 = some 7 ∧ AM 118 [.ref r0, .int x1] h1 (t_ki (fun a2 h2 => (if a2 = ((-1) : Int32) then AX 2 123 38 [.ref r0, .int x1, .float 0, .float 0, .float 0, .float 0] [.int 0, .ref r0] h2 Q else AX 2 123 33 [.ref r0, .int x1, .float 0, .float 0, .float 0, .float 0] [.ref r0] h2 Q)) Q)))) else AX 2 123 38 [.ref r0, .int x1, .float 0, .float 0, .float 0, .float 0] [.int 1, .ref r0] h1 Q)) Q) := by
  rw [e_123_0]
  simp only [e_123_1, e_123_2, e_123_3, e_123_5, e_123_8, e_123_15, e_123_16, e_123_19, e_123_21, e_123_24, e_123_25, e_123_26, e_123_29, e_123_30, e_123_37, e_123_11, e_123_12, true_and, and_true, or_true, true_or]
set_option maxRecDepth 20000 in
theorem s_123_33 (r0 : Nat) (x1 : Int32) (k0 : Nat) (h : tH) (Q : tO → tH → Prop)  :
    AX 2 123 33 [.ref r0, .int x1, .float 0, .float 0, .float 0, .float 0] [.ref k0] h Q =
    AX 2 123 38 [.ref r0, .int x1, .float 0, .float 0, .float 0, .float 0] [.int 2, .ref k0] h Q := by
  rw [e_123_33]
  simp only [e_123_34, true_and, and_true, or_true, true_or]
set_option maxRecDepth 20000 in
theorem s_123_38 (r0 : Nat) (x1 : Int32) (u0 : Int32) (k1 : Nat) (h : tH) (Q : tO → tH → Prop)  :
    AX 2 123 38 [.ref r0, .int x1, .float 0, .float 0, .float 0, .float 0] [.int u0, .ref k1] h Q =
    (t_ob k1 = some 7 ∧ (t_ob r0 = some 7 ∧ (if ((t_I h k1 0 u0).1 r0 0) ≤ (0 : Int32) then (t_ob r0 = some 7 ∧ AM 120 [.ref r0, .int x1] (t_I h k1 0 u0) (t_ki (fun a1 h1 => AX 2 123 58 [.ref r0, .int x1, .int a1, .int 0, .float 0, .float 0] [] h1 Q) Q)) else Q (.inl (some (.int 0))) (t_I h k1 0 u0)))) := by
  rw [e_123_38]
  simp only [e_123_41, e_123_42, e_123_45, e_123_50, e_123_51, e_123_52, e_123_55, e_123_56, e_123_57, e_123_48, e_123_49, true_and, and_true, or_true, true_or]
set_option maxRecDepth 20000 in
theorem s_123_58 (r0 : Nat) (x1 : Int32) (x2 : Int32) (x3 : Int32) (w4 : Value) (w5 : Value) (h : tH) (Q : tO → tH → Prop)  :
    AX 2 123 58 [.ref r0, .int x1, .int x2, .int x3, w4, w5] [] h Q =
    (if x1 ≤ x3 then (t_ob r0 = some 7 ∧ Q (.inl (some (.int x2))) (t_I h r0 4 0)) else AX 2 123 68 [.ref r0, .int x1, .int x2, .int x3, .int (x3 + 1), w5] [] h Q) := by
  rw [e_123_58]
  simp only [e_123_59, e_123_60, e_123_147, e_123_148, e_123_149, e_123_152, e_123_153, e_123_63, e_123_64, e_123_65, e_123_66, true_and, and_true, or_true, true_or]
set_option maxRecDepth 20000 in
theorem s_123_68 (r0 : Nat) (x1 : Int32) (x2 : Int32) (x3 : Int32) (x4 : Int32) (w5 : Value) (h : tH) (Q : tO → tH → Prop)  :
    AX 2 123 68 [.ref r0, .int x1, .int x2, .int x3, .int x4, w5] [] h Q =
    (if x1 ≤ x4 then AX 2 123 58 [.ref r0, .int x1, .int x2, .int (x3 + 1), .int x4, w5] [] h Q else AX 2 123 80 [.ref r0, .int x1, .int x2, .int x3, .int x4, .int (x4 + 1)] [] h Q) := by
  rw [e_123_68]
  simp only [e_123_70, e_123_71, e_123_141, e_123_144, e_123_74, e_123_76, e_123_77, e_123_78, true_and, and_true, or_true, true_or]
set_option maxRecDepth 20000 in
theorem s_123_80 (r0 : Nat) (x1 : Int32) (x2 : Int32) (x3 : Int32) (x4 : Int32) (x5 : Int32) (h : tH) (Q : tO → tH → Prop)  :
    AX 2 123 80 [.ref r0, .int x1, .int x2, .int x3, .int x4, .int x5] [] h Q =
    (if x1 ≤ x5 then AX 2 123 68 [.ref r0, .int x1, .int x2, .int x3, .int (x4 + 1), .int x5] [] h Q else (t_ob r0 = some 7 ∧ (vp_in ((7 * x3) + x4) 49 ∧ (t_ob r0 = some 7 ∧ (vp_in ((7 * x4) + x5) 49 ∧ (t_ob r0 = some 7 ∧ AM 105 [.ref r0, .int x2, .int x3, .int x4, .int x5, .int (if (h.1 18 ((7 * x4) + x5).toNatClampNeg) ≤ (h.1 18 ((7 * x3) + x4).toNatClampNeg) then ((-1) : Int32) else 1)] h (t_kv (fun h1 => AX 2 123 80 [.ref r0, .int x1, .int x2, .int x3, .int x4, .int (x5 + 1)] [] h1 Q) Q))))))) := by
  rw [e_123_80]
  simp only [e_123_82, e_123_83, e_123_135, e_123_138, e_123_86, e_123_87, e_123_88, e_123_89, e_123_91, e_123_93, e_123_94, e_123_97, e_123_99, e_123_100, e_123_101, e_123_103, e_123_104, e_123_105, e_123_106, e_123_109, e_123_111, e_123_113, e_123_114, e_123_116, e_123_117, b_123_118, e_123_126, e_123_129, e_123_132, t_ai_18, true_and, and_true, or_true, true_or]
theorem am_123 (r0 : Nat) (x1 : Int32) (h : tH) (Q : tO → tH → Prop) : AM 123 [.ref r0, .int x1] h Q = AX 2 123 0 [.ref r0, .int x1, .float 0, .float 0, .float 0, .float 0] [] h Q := AM_at ta_123 _ _ _
-- X10_copy
theorem b_124_19 (r0 : Nat) (x1 : Int32) (x2 : Int32) (u0 : Int32) (u1 : Int32) (k2 : Nat) (h : tH) (Q : tO → tH → Prop) : AX 2 124 19 [.ref r0, .int x1, .int x2, .float 0, .float 0] [.int u0, .int u1, .ref k2] h Q = AX 2 124 27 [.ref r0, .int x1, .int x2, .float 0, .float 0] [.int (if ¬ u1 = u0 then (0 : Int32) else 2), .ref k2] h Q := by
  simp only [e_124_19, e_124_22, e_124_23, e_124_26]
  repeat' split
  all_goals rfl
set_option maxRecDepth 20000 in
theorem s_124_0 (r0 : Nat) (x1 : Int32) (x2 : Int32) (h : tH) (Q : tO → tH → Prop)  :
    AX 2 124 0 [.ref r0, .int x1, .int x2, .float 0, .float 0] [] h Q =
    (t_ob r0 = some 7 ∧ AM 101 [.ref r0, .int x1] h (t_ki (fun a1 h1 => (if ¬ a1 = (0 : Int32) then (t_ob r0 = some 7 ∧ AX 2 124 27 [.ref r0, .int x1, .int x2, .float 0, .float 0] [.int (if ¬ (h1.1 r0 8) = 6 then (0 : Int32) else 2), .ref r0] h1 Q) else AX 2 124 27 [.ref r0, .int x1, .int x2, .float 0, .float 0] [.int 1, .ref r0] h1 Q)) Q)) := by
  rw [e_124_0]
  simp only [e_124_1, e_124_2, e_124_3, e_124_6, e_124_13, e_124_14, e_124_17, b_124_19, e_124_9, e_124_10, true_and, and_true, or_true, true_or]
set_option maxRecDepth 20000 in
theorem s_124_27 (r0 : Nat) (x1 : Int32) (x2 : Int32) (u0 : Int32) (k1 : Nat) (h : tH) (Q : tO → tH → Prop)  :
    AX 2 124 27 [.ref r0, .int x1, .int x2, .float 0, .float 0] [.int u0, .ref k1] h Q =
    (t_ob k1 = some 7 ∧ (t_ob r0 = some 7 ∧ (if ((t_I h k1 0 u0).1 r0 0) ≤ (0 : Int32) then (t_ob r0 = some 7 ∧ (t_in (t_ai (t_I h k1 0 u0) 19) x1 ∧ (t_ob r0 = some 7 ∧ AM 120 [.ref r0, .int ((t_I h k1 0 u0).1 19 x1.toNatClampNeg)] (t_I h k1 0 u0) (t_ki (fun a1 h1 => AX 2 124 53 [.ref r0, .int x1, .int x2, .int a1, .int 0] [] h1 Q) Q)))) else Q (.inl (some (.int 0))) (t_I h k1 0 u0)))) := by
  rw [e_124_27]
  simp only [e_124_30, e_124_31, e_124_34, e_124_39, e_124_40, e_124_41, e_124_44, e_124_45, e_124_46, e_124_49, e_124_50, e_124_51, e_124_37, e_124_38, true_and, and_true, or_true, true_or]
set_option maxRecDepth 20000 in
theorem s_124_53 (r0 : Nat) (x1 : Int32) (x2 : Int32) (x3 : Int32) (x4 : Int32) (h : tH) (Q : tO → tH → Prop)  :
    AX 2 124 53 [.ref r0, .int x1, .int x2, .int x3, .int x4] [] h Q =
    (if (343 : Int32) ≤ x4 then Q (.inl (some (.int x3))) h else (t_ob r0 = some 7 ∧ (if x2 = (0 : Int32) then (t_ob r0 = some 7 ∧ (vp_in ((343 * x1) + x4) 2401 ∧ AX 2 124 107 [.ref r0, .int x1, .int x2, .int x3, .int x4] [.int (h.1 20 ((343 * x1) + x4).toNatClampNeg), .int ((343 * x3) + x4), .ref 20] h Q)) else (t_ob r0 = some 7 ∧ (vp_in ((343 * x1) + x4) 2401 ∧ AX 2 124 107 [.ref r0, .int x1, .int x2, .int x3, .int x4] [.int (-(h.1 20 ((343 * x1) + x4).toNatClampNeg)), .int ((343 * x3) + x4), .ref 20] h Q))))) := by
  rw [e_124_53]
  simp only [e_124_55, e_124_58, e_124_114, e_124_115, e_124_61, e_124_62, e_124_65, e_124_68, e_124_69, e_124_70, e_124_72, e_124_73, e_124_74, e_124_94, e_124_95, e_124_98, e_124_101, e_124_102, e_124_103, e_124_105, e_124_106, e_124_77, e_124_78, e_124_81, e_124_84, e_124_85, e_124_86, e_124_88, e_124_89, e_124_90, e_124_91, t_ai_20, true_and, and_true, or_true, true_or]
set_option maxRecDepth 20000 in
theorem s_124_107 (r0 : Nat) (x1 : Int32) (x2 : Int32) (x3 : Int32) (x4 : Int32) (u0 : Int32) (u1 : Int32) (k2 : Nat) (h : tH) (Q : tO → tH → Prop)  :
    AX 2 124 107 [.ref r0, .int x1, .int x2, .int x3, .int x4] [.int u0, .int u1, .ref k2] h Q =
    (k2 ≠ 33 ∧ t_in (t_ai h k2) u1 ∧ AX 2 124 53 [.ref r0, .int x1, .int x2, .int x3, .int (x4 + 1)] [] (t_I h k2 u1.toNatClampNeg u0) Q) := by
  rw [e_124_107]
  simp only [e_124_108, e_124_111, true_and, and_true, or_true, true_or]
theorem am_124 (r0 : Nat) (x1 : Int32) (x2 : Int32) (h : tH) (Q : tO → tH → Prop) : AM 124 [.ref r0, .int x1, .int x2] h Q = AX 2 124 0 [.ref r0, .int x1, .int x2, .float 0, .float 0] [] h Q := AM_at ta_124 _ _ _
-- X10_flipped
set_option maxRecDepth 20000 in
theorem s_125_0 (r0 : Nat) (x1 : Int32) (x2 : Int32) (x3 : Int32) (x4 : Int32) (h : tH) (Q : tO → tH → Prop)  :
    AX 5 125 0 [.ref r0, .int x1, .int x2, .int x3, .int x4, .float 0, .float 0] [] h Q =
    (t_ob r0 = some 7 ∧ AM 104 [.ref r0, .int x1, .int x2, .int x3, .int x4] h (t_ki (fun a1 h1 => (t_ob r0 = some 7 ∧ AM 105 [.ref r0, .int x1, .int x2, .int x3, .int x4, .int (-a1)] h1 (t_kv (fun h2 => (t_ob r0 = some 7 ∧ AM 110 [.ref r0, .int x1] h2 (t_ki (fun a3 h3 => (if ¬ a3 = (0 : Int32) then AX 5 125 46 [.ref r0, .int x1, .int x2, .int x3, .int x4, .int a1, .int a3] [] h3 Q else (t_ob r0 = some 7 ∧ AM 105 [.ref r0, .int x1, .int x2, .int x3, .int x4, .int a1] h3 (t_kv (fun h4 => AX 5 125 46 [.ref r0, .int x1, .int x2, .int x3, .int x4, .int a1, .int a3] [] h4 Q) Q)))) Q))) Q))) Q)) := by
  rw [e_125_0]
  simp only [e_125_1, e_125_2, e_125_3, e_125_4, e_125_6, e_125_9, e_125_11, e_125_12, e_125_13, e_125_14, e_125_15, e_125_17, e_125_19, e_125_20, e_125_23, e_125_24, e_125_25, e_125_28, e_125_30, e_125_32, e_125_35, e_125_36, e_125_37, e_125_38, e_125_39, e_125_41, e_125_43, true_and, and_true, or_true, true_or]
set_option maxRecDepth 20000 in
theorem s_125_46 (r0 : Nat) (x1 : Int32) (x2 : Int32) (x3 : Int32) (x4 : Int32) (x5 : Int32) (x6 : Int32) (h : tH) (Q : tO → tH → Prop)  :
    AX 5 125 46 [.ref r0, .int x1, .int x2, .int x3, .int x4, .int x5, .int x6] [] h Q =
    (((x6 : Int32) = 0 ∨ (x6 : Int32) = 1) ∧ Q (.inl (some (.int x6))) h) := by
  rw [e_125_46]
  simp only [e_125_48, true_and, and_true, or_true, true_or]
theorem am_125 (r0 : Nat) (x1 : Int32) (x2 : Int32) (x3 : Int32) (x4 : Int32) (h : tH) (Q : tO → tH → Prop) : AM 125 [.ref r0, .int x1, .int x2, .int x3, .int x4] h Q = AX 5 125 0 [.ref r0, .int x1, .int x2, .int x3, .int x4, .float 0, .float 0] [] h Q := AM_at ta_125 _ _ _
-- X10_flip
theorem b_126_46 (r0 : Nat) (x1 : Int32) (x2 : Int32) (x3 : Int32) (x4 : Int32) (x5 : Int32) (u0 : Int32) (k1 : Nat) (h : tH) (Q : tO → tH → Prop) : AX 6 126 46 [.ref r0, .int x1, .int x2, .int x3, .int x4, .int x5] [.int u0, .ref k1] h Q = AX 6 126 75 [.ref r0, .int x1, .int x2, .int x3, .int x4, .int x5] [.int (if ¬ u0 = (0 : Int32) then (if x2 = x3 then (2 : Int32) else (if x3 = x4 then (2 : Int32) else (if ¬ x2 = x4 then (0 : Int32) else 2))) else 1), .ref k1] h Q := by
  simp only [e_126_46, e_126_49, e_126_50, e_126_53, e_126_54, e_126_55, e_126_58, e_126_59, e_126_61, e_126_64, e_126_65, e_126_67, e_126_70, e_126_71, e_126_74]
  repeat' split
  all_goals rfl
set_option maxRecDepth 20000 in
theorem s_126_0 (r0 : Nat) (x1 : Int32) (x2 : Int32) (x3 : Int32) (x4 : Int32) (h : tH) (Q : tO → tH → Prop)  :
    AX 6 126 0 [.ref r0, .int x1, .int x2, .int x3, .int x4, .float 0] [] h Q =
    (t_ob r0 = some 7 ∧ AM 101 [.ref r0, .int x1] h (t_ki (fun a1 h1 => (if a1 = (0 : Int32) then AX 6 126 40 [.ref r0, .int x1, .int x2, .int x3, .int x4, .float 0] [] h1 Q else (t_ob r0 = some 7 ∧ AM 102 [.ref r0, .int x1, .int x2] h1 (t_ki (fun a2 h2 => (if a2 = (0 : Int32) then AX 6 126 40 [.ref r0, .int x1, .int x2, .int x3, .int x4, .float 0] [] h2 Q else (t_ob r0 = some 7 ∧ AM 102 [.ref r0, .int x1, .int x3] h2 (t_ki (fun a3 h3 => (if a3 = (0 : Int32) then AX 6 126 40 [.ref r0, .int x1, .int x2, .int x3, .int x4, .float 0] [] h3 Q else (t_ob r0 = some 7 ∧ AM 102 [.ref r0, .int x1, .int x4] h3 (t_ki (fun a4 h4 => (if a4 = (0 : Int32) then AX 6 126 40 [.ref r0, .int x1, .int x2, .int x3, .int x4, .float 0] [] h4 Q else AX 6 126 41 [.ref r0, .int x1, .int x2, .int x3, .int x4, .float 0] [.int 1] h4 Q)) Q)))) Q)))) Q)))) Q)) := by
  rw [e_126_0]
  simp only [e_126_1, e_126_2, e_126_5, e_126_8, e_126_9, e_126_10, e_126_11, e_126_14, e_126_17, e_126_18, e_126_19, e_126_20, e_126_23, e_126_26, e_126_27, e_126_28, e_126_30, e_126_33, e_126_36, e_126_37, true_and, and_true, or_true, true_or]
set_option maxRecDepth 20000 in
theorem s_126_40 (r0 : Nat) (x1 : Int32) (x2 : Int32) (x3 : Int32) (x4 : Int32) (h : tH) (Q : tO → tH → Prop)  :
    AX 6 126 40 [.ref r0, .int x1, .int x2, .int x3, .int x4, .float 0] [] h Q =
    AX 6 126 41 [.ref r0, .int x1, .int x2, .int x3, .int x4, .float 0] [.int 0] h Q := by
  rw [e_126_40]
set_option maxRecDepth 20000 in
theorem s_126_41 (r0 : Nat) (x1 : Int32) (x2 : Int32) (x3 : Int32) (x4 : Int32) (u0 : Int32) (h : tH) (Q : tO → tH → Prop)  :
    AX 6 126 41 [.ref r0, .int x1, .int x2, .int x3, .int x4, .float 0] [.int u0] h Q =
    (t_ob r0 = some 7 ∧ (t_ob r0 = some 7 ∧ (if (0 : Int32) < ((t_I h r0 0 (if ¬ u0 = (0 : Int32) then (if x2 = x3 then (2 : Int32) else (if x3 = x4 then (2 : Int32) else (if ¬ x2 = x4 then (0 : Int32) else 2))) else 1)).1 r0 0) then AX 6 126 97 [.ref r0, .int x1, .int x2, .int x3, .int x4, .int u0] [] (t_I h r0 0 (if ¬ u0 = (0 : Int32) then (if x2 = x3 then (2 : Int32) else (if x3 = x4 then (2 : Int32) else (if ¬ x2 = x4 then (0 : Int32) else 2))) else 1)) Q else (t_ob r0 = some 7 ∧ AM 125 [.ref r0, .int x1, .int x2, .int x3, .int x4] (t_I h r0 0 (if ¬ u0 = (0 : Int32) then (if x2 = x3 then (2 : Int32) else (if x3 = x4 then (2 : Int32) else (if ¬ x2 = x4 then (0 : Int32) else 2))) else 1)) (t_ki (fun a1 h1 => (if ¬ a1 = (0 : Int32) then (t_ob r0 = some 7 ∧ (vp_in x1 6 ∧ (0 = 0 ∨ 0 = 1) ∧ (t_ob r0 = some 7 ∧ (vp_in x1 6 ∧ (0 = 0 ∨ 0 = 1) ∧ Q (.inl (some (.int 1))) (t_I (t_I h1 21 x1.toNatClampNeg 0) 24 x1.toNatClampNeg 0))))) else AX 6 126 97 [.ref r0, .int x1, .int x2, .int x3, .int x4, .int u0] [] h1 Q)) Q))))) := by
  rw [e_126_41]
  simp only [e_126_43, e_126_44, b_126_46, e_126_75, e_126_78, e_126_79, e_126_82, e_126_85, e_126_86, e_126_87, e_126_88, e_126_89, e_126_91, e_126_94, e_126_99, e_126_100, e_126_103, e_126_104, e_126_105, e_126_106, e_126_107, e_126_110, e_126_111, e_126_112, e_126_113, e_126_114, t_z1, t_bo_21, t_bo_24, true_and, and_true, or_true, true_or]
set_option maxRecDepth 20000 in
theorem s_126_97 (r0 : Nat) (x1 : Int32) (x2 : Int32) (x3 : Int32) (x4 : Int32) (x5 : Int32) (h : tH) (Q : tO → tH → Prop)  :
    AX 6 126 97 [.ref r0, .int x1, .int x2, .int x3, .int x4, .int x5] [] h Q =
    Q (.inl (some (.int 0))) h := by
  rw [e_126_97]
  simp only [e_126_98, t_z0, true_and, and_true, or_true, true_or]
theorem am_126 (r0 : Nat) (x1 : Int32) (x2 : Int32) (x3 : Int32) (x4 : Int32) (h : tH) (Q : tO → tH → Prop) : AM 126 [.ref r0, .int x1, .int x2, .int x3, .int x4] h Q = AX 6 126 0 [.ref r0, .int x1, .int x2, .int x3, .int x4, .float 0] [] h Q := AM_at ta_126 _ _ _
-- X10_other
theorem b_127_2 (x0 : Int32) (x1 : Int32) (x2 : Int32) (u0 : Int32) (u1 : Int32) (h : tH) (Q : tO → tH → Prop) : AX 0 127 2 [.int x0, .int x1, .int x2] [.int u0, .int u1] h Q = AX 0 127 19 [.int x0, .int x1, .int x2] [.int (if ¬ u1 = u0 then (if ¬ x0 = x2 then x0 else x1) else x2)] h Q := by
  simp only [e_127_2, e_127_5, e_127_6, e_127_9, e_127_10, e_127_11, e_127_14, e_127_15, e_127_18]
  repeat' split
  all_goals rfl
set_option maxRecDepth 20000 in
theorem s_127_0 (x0 : Int32) (x1 : Int32) (x2 : Int32) (h : tH) (Q : tO → tH → Prop)  :
    AX 0 127 0 [.int x0, .int x1, .int x2] [] h Q =
    Q (.inl (some (.int (if ¬ x0 = x1 then (if ¬ x0 = x2 then x0 else x1) else x2)))) h := by
  rw [e_127_0]
  simp only [e_127_1, b_127_2, e_127_19, true_and, and_true, or_true, true_or]
theorem am_127 (x0 : Int32) (x1 : Int32) (x2 : Int32) (h : tH) (Q : tO → tH → Prop) : AM 127 [.int x0, .int x1, .int x2] h Q = AX 0 127 0 [.int x0, .int x1, .int x2] [] h Q := AM_at ta_127 _ _ _
-- X10_rename
theorem b_128_36 (r0 : Nat) (x1 : Int32) (x2 : Int32) (x3 : Int32) (x4 : Int32) (u0 : Int32) (k1 : Nat) (h : tH) (Q : tO → tH → Prop) : AX 2 128 36 [.ref r0, .int x1, .int x2, .int x3, .int x4, .float 0, .float 0, .float 0] [.int u0, .ref k1] h Q = AX 2 128 53 [.ref r0, .int x1, .int x2, .int x3, .int x4, .float 0, .float 0, .float 0] [.int (if ¬ u0 = (0 : Int32) then (if ¬ x2 = x3 then (0 : Int32) else 2) else 1), .ref k1] h Q := by
  simp only [e_128_36, e_128_39, e_128_40, e_128_43, e_128_44, e_128_45, e_128_48, e_128_49, e_128_52]
  repeat' split
  all_goals rfl
set_option maxRecDepth 20000 in
theorem s_128_0 (r0 : Nat) (x1 : Int32) (x2 : Int32) (x3 : Int32) (h : tH) (Q : tO → tH → Prop)  :
    AX 2 128 0 [.ref r0, .int x1, .int x2, .int x3, .float 0, .float 0, .float 0, .float 0] [] h Q =
    (t_ob r0 = some 7 ∧ AM 101 [.ref r0, .int x1] h (t_ki (fun a1 h1 => (if a1 = (0 : Int32) then AX 2 128 30 [.ref r0, .int x1, .int x2, .int x3, .float 0, .float 0, .float 0, .float 0] [] h1 Q else (t_ob r0 = some 7 ∧ AM 102 [.ref r0, .int x1, .int x2] h1 (t_ki (fun a2 h2 => (if a2 = (0 : Int32) then AX 2 128 30 [.ref r0, .int x1, .int x2, .int x3, .float 0, .float 0, .float 0, .float 0] [] h2 Q else (t_ob r0 = some 7 ∧ AM 102 [.ref r0, .int x1, .int x3] h2 (t_ki (fun a3 h3 => (if a3 = (0 : Int32) then AX 2 128 30 [.ref r0, .int x1, .int x2, .int x3, .float 0, .float 0, .float 0, .float 0] [] h3 Q else AX 2 128 31 [.ref r0, .int x1, .int x2, .int x3, .float 0, .float 0, .float 0, .float 0] [.int 1] h3 Q)) Q)))) Q)))) Q)) := by
  rw [e_128_0]
  simp only [e_128_1, e_128_2, e_128_5, e_128_8, e_128_9, e_128_10, e_128_11, e_128_14, e_128_17, e_128_18, e_128_19, e_128_20, e_128_23, e_128_26, e_128_27, true_and, and_true, or_true, true_or]
set_option maxRecDepth 20000 in
theorem s_128_30 (r0 : Nat) (x1 : Int32) (x2 : Int32) (x3 : Int32) (h : tH) (Q : tO → tH → Prop)  :
    AX 2 128 30 [.ref r0, .int x1, .int x2, .int x3, .float 0, .float 0, .float 0, .float 0] [] h Q =
    AX 2 128 31 [.ref r0, .int x1, .int x2, .int x3, .float 0, .float 0, .float 0, .float 0] [.int 0] h Q := by
  rw [e_128_30]
set_option maxRecDepth 20000 in
theorem s_128_31 (r0 : Nat) (x1 : Int32) (x2 : Int32) (x3 : Int32) (u0 : Int32) (h : tH) (Q : tO → tH → Prop)  :
    AX 2 128 31 [.ref r0, .int x1, .int x2, .int x3, .float 0, .float 0, .float 0, .float 0] [.int u0] h Q =
    (t_ob r0 = some 7 ∧ (t_ob r0 = some 7 ∧ (if ((t_I h r0 0 (if ¬ u0 = (0 : Int32) then (if ¬ x2 = x3 then (0 : Int32) else 2) else 1)).1 r0 0) ≤ (0 : Int32) then AX 2 128 67 [.ref r0, .int x1, .int x2, .int x3, .int u0, .int 0, .float 0, .float 0] [] (t_I h r0 0 (if ¬ u0 = (0 : Int32) then (if ¬ x2 = x3 then (0 : Int32) else 2) else 1)) Q else Q (.inl none) (t_I h r0 0 (if ¬ u0 = (0 : Int32) then (if ¬ x2 = x3 then (0 : Int32) else 2) else 1))))) := by
  rw [e_128_31]
  simp only [e_128_33, e_128_34, b_128_36, e_128_53, e_128_56, e_128_57, e_128_60, e_128_64, e_128_65, e_128_63, true_and, and_true, or_true, true_or]
set_option maxRecDepth 20000 in
theorem s_128_67 (r0 : Nat) (x1 : Int32) (x2 : Int32) (x3 : Int32) (x4 : Int32) (x5 : Int32) (h : tH) (Q : tO → tH → Prop)  :
    AX 2 128 67 [.ref r0, .int x1, .int x2, .int x3, .int x4, .int x5, .float 0, .float 0] [] h Q =
    (if (343 : Int32) ≤ x5 then AX 2 128 108 [.ref r0, .int x1, .int x2, .int x3, .int x4, .int 0, .float 0, .float 0] [] h Q else (t_ob r0 = some 7 ∧ (t_ob r0 = some 7 ∧ (vp_in ((343 * x1) + x5) 2401 ∧ (vp_in (2058 + x5) 2401 ∧ AX 2 128 67 [.ref r0, .int x1, .int x2, .int x3, .int x4, .int (x5 + 1), .float 0, .float 0] [] (t_I h 20 (2058 + x5).toNatClampNeg (h.1 20 ((343 * x1) + x5).toNatClampNeg)) Q))))) := by
  rw [e_128_67]
  simp only [e_128_69, e_128_72, e_128_105, e_128_106, e_128_75, e_128_76, e_128_79, e_128_82, e_128_84, e_128_85, e_128_86, e_128_89, e_128_92, e_128_93, e_128_94, e_128_96, e_128_97, e_128_98, e_128_99, e_128_102, t_ai_20, t_ne_20, true_and, and_true, or_true, true_or]
set_option maxRecDepth 20000 in
theorem s_128_108 (r0 : Nat) (x1 : Int32) (x2 : Int32) (x3 : Int32) (x4 : Int32) (x5 : Int32) (w6 : Value) (w7 : Value) (h : tH) (Q : tO → tH → Prop)  :
    AX 2 128 108 [.ref r0, .int x1, .int x2, .int x3, .int x4, .int x5, w6, w7] [] h Q =
    (if (7 : Int32) ≤ x5 then (t_ob r0 = some 7 ∧ (vp_in ((7 * x1) + x2) 42 ∧ (t_ob r0 = some 7 ∧ (vp_in ((7 * x1) + x2) 42 ∧ (t_ob r0 = some 7 ∧ (t_ob r0 = some 7 ∧ (vp_in ((7 * x1) + x3) 42 ∧ (vp_in ((7 * x1) + x2) 42 ∧ (t_ob r0 = some 7 ∧ (t_ob r0 = some 7 ∧ (t_in (t_ai (t_I h 22 ((7 * x1) + x2).toNatClampNeg (h.1 22 ((7 * x1) + x3).toNatClampNeg)) 23) ((7 * x1) + x3) ∧ (t_in (t_ai (t_I h 22 ((7 * x1) + x2).toNatClampNeg (h.1 22 ((7 * x1) + x3).toNatClampNeg)) 23) ((7 * x1) + x2) ∧ (t_ob r0 = some 7 ∧ (t_in (t_ai (t_I (t_I h 22 ((7 * x1) + x2).toNatClampNeg (h.1 22 ((7 * x1) + x3).toNatClampNeg)) 23 ((7 * x1) + x2).toNatClampNeg ((t_I h 22 ((7 * x1) + x2).toNatClampNeg (h.1 22 ((7 * x1) + x3).toNatClampNeg)).1 23 ((7 * x1) + x3).toNatClampNeg)) 22) ((7 * x1) + x3) ∧ (t_ob r0 = some 7 ∧ (t_in (t_ai (t_I (t_I (t_I h 22 ((7 * x1) + x2).toNatClampNeg (h.1 22 ((7 * x1) + x3).toNatClampNeg)) 23 ((7 * x1) + x2).toNatClampNeg ((t_I h 22 ((7 * x1) + x2).toNatClampNeg (h.1 22 ((7 * x1) + x3).toNatClampNeg)).1 23 ((7 * x1) + x3).toNatClampNeg)) 22 ((7 * x1) + x3).toNatClampNeg (h.1 22 ((7 * x1) + x2).toNatClampNeg)) 23) ((7 * x1) + x3) ∧ (t_ob r0 = some 7 ∧ (vp_in x1 6 ∧ (0 = 0 ∨ 0 = 1) ∧ Q (.inl none) (t_I (t_I (t_I (t_I (t_I h 22 ((7 * x1) + x2).toNatClampNeg (h.1 22 ((7 * x1) + x3).toNatClampNeg)) 23 ((7 * x1) + x2).toNatClampNeg ((t_I h 22 ((7 * x1) + x2).toNatClampNeg (h.1 22 ((7 * x1) + x3).toNatClampNeg)).1 23 ((7 * x1) + x3).toNatClampNeg)) 22 ((7 * x1) + x3).toNatClampNeg (h.1 22 ((7 * x1) + x2).toNatClampNeg)) 23 ((7 * x1) + x3).toNatClampNeg (h.1 23 ((7 * x1) + x2).toNatClampNeg)) 24 x1.toNatClampNeg 0))))))))))))))))))) else AX 2 128 118 [.ref r0, .int x1, .int x2, .int x3, .int x4, .int x5, .int 0, w7] [] h Q) := by
  rw [e_128_108]
  simp only [e_128_110, e_128_112, e_128_195, e_128_196, e_128_199, e_128_201, e_128_202, e_128_203, e_128_204, e_128_205, e_128_206, e_128_208, e_128_209, e_128_212, e_128_214, e_128_215, e_128_216, e_128_217, e_128_218, e_128_219, e_128_221, e_128_222, e_128_225, e_128_227, e_128_228, e_128_229, e_128_230, e_128_231, e_128_232, e_128_235, e_128_237, e_128_238, e_128_239, e_128_240, e_128_241, e_128_242, e_128_243, e_128_244, e_128_247, e_128_249, e_128_250, e_128_251, e_128_252, e_128_253, e_128_254, e_128_257, e_128_259, e_128_260, e_128_261, e_128_262, e_128_263, e_128_264, e_128_265, e_128_266, e_128_269, e_128_271, e_128_272, e_128_273, e_128_274, e_128_275, e_128_277, e_128_278, e_128_279, e_128_282, e_128_284, e_128_285, e_128_286, e_128_287, e_128_288, e_128_290, e_128_291, e_128_292, e_128_295, e_128_296, e_128_297, e_128_298, e_128_115, e_128_116, t_ai_22, t_ai_23, t_bo_24, t_ne_22, t_ne_23, true_and, and_true, or_true, true_or]
set_option maxRecDepth 20000 in
theorem s_128_118 (r0 : Nat) (x1 : Int32) (x2 : Int32) (x3 : Int32) (x4 : Int32) (x5 : Int32) (x6 : Int32) (w7 : Value) (h : tH) (Q : tO → tH → Prop)  :
    AX 2 128 118 [.ref r0, .int x1, .int x2, .int x3, .int x4, .int x5, .int x6, w7] [] h Q =
    (if (7 : Int32) ≤ x6 then AX 2 128 108 [.ref r0, .int x1, .int x2, .int x3, .int x4, .int (x5 + 1), .int x6, w7] [] h Q else AX 2 128 128 [.ref r0, .int x1, .int x2, .int x3, .int x4, .int x5, .int x6, .int 0] [] h Q) := by
  rw [e_128_118]
  simp only [e_128_120, e_128_122, e_128_189, e_128_192, e_128_125, e_128_126, true_and, and_true, or_true, true_or]
set_option maxRecDepth 20000 in
theorem s_128_128 (r0 : Nat) (x1 : Int32) (x2 : Int32) (x3 : Int32) (x4 : Int32) (x5 : Int32) (x6 : Int32) (x7 : Int32) (h : tH) (Q : tO → tH → Prop)  :
    AX 2 128 128 [.ref r0, .int x1, .int x2, .int x3, .int x4, .int x5, .int x6, .int x7] [] h Q =
    (if (7 : Int32) ≤ x7 then AX 2 128 118 [.ref r0, .int x1, .int x2, .int x3, .int x4, .int x5, .int (x6 + 1), .int x7] [] h Q else (t_ob r0 = some 7 ∧ AM 103 [.int x1, .int x5, .int x6, .int x7] h (t_ki (fun a1 h1 => AM 127 [.int x5, .int x2, .int x3] h1 (t_ki (fun a2 h2 => AM 127 [.int x6, .int x2, .int x3] h2 (t_ki (fun a3 h3 => AM 127 [.int x7, .int x2, .int x3] h3 (t_ki (fun a4 h4 => (t_ob r0 = some 7 ∧ AM 104 [.ref r0, .int 6, .int a2, .int a3, .int a4] h4 (t_ki (fun a5 h5 => (vp_in a1 2401 ∧ AX 2 128 128 [.ref r0, .int x1, .int x2, .int x3, .int x4, .int x5, .int x6, .int (x7 + 1)] [] (t_I h5 20 a1.toNatClampNeg a5) Q)) Q))) Q)) Q)) Q)) Q))) := by
  rw [e_128_128]
  simp only [e_128_130, e_128_132, e_128_183, e_128_186, e_128_135, e_128_136, e_128_139, e_128_140, e_128_142, e_128_144, e_128_146, e_128_149, e_128_150, e_128_152, e_128_154, e_128_155, e_128_156, e_128_159, e_128_161, e_128_162, e_128_163, e_128_166, e_128_168, e_128_169, e_128_170, e_128_173, e_128_176, e_128_177, e_128_180, t_ai_20, t_ne_20, true_and, and_true, or_true, true_or]
theorem am_128 (r0 : Nat) (x1 : Int32) (x2 : Int32) (x3 : Int32) (h : tH) (Q : tO → tH → Prop) : AM 128 [.ref r0, .int x1, .int x2, .int x3] h Q = AX 2 128 0 [.ref r0, .int x1, .int x2, .int x3, .float 0, .float 0, .float 0, .float 0] [] h Q := AM_at ta_128 _ _ _
-- X10_realize
theorem b_129_6 (r0 : Nat) (x1 : Int32) (u0 : Int32) (k1 : Nat) (h : tH) (Q : tO → tH → Prop) : AX 2 129 6 [.ref r0, .int x1, .float 0, .float 0, .float 0] [.int u0, .ref k1] h Q = AX 2 129 14 [.ref r0, .int x1, .float 0, .float 0, .float 0] [.int (if u0 = (0 : Int32) then (1 : Int32) else 0), .ref k1] h Q := by
  simp only [e_129_6, e_129_9, e_129_10, e_129_13]
  repeat' split
  all_goals rfl
set_option maxRecDepth 20000 in
theorem s_129_0 (r0 : Nat) (x1 : Int32) (h : tH) (Q : tO → tH → Prop)  :
    AX 2 129 0 [.ref r0, .int x1, .float 0, .float 0, .float 0] [] h Q =
    (t_ob r0 = some 7 ∧ AM 101 [.ref r0, .int x1] h (t_ki (fun a1 h1 => (t_ob r0 = some 7 ∧ (t_ob r0 = some 7 ∧ (if (0 : Int32) < ((t_I h1 r0 0 (if a1 = (0 : Int32) then (1 : Int32) else 0)).1 r0 0) then AX 2 129 37 [.ref r0, .int x1, .float 0, .float 0, .float 0] [] (t_I h1 r0 0 (if a1 = (0 : Int32) then (1 : Int32) else 0)) Q else (t_ob r0 = some 7 ∧ (t_ob r0 = some 7 ∧ (t_in (t_ai (t_I h1 r0 0 (if a1 = (0 : Int32) then (1 : Int32) else 0)) 19) x1 ∧ (if ((t_I h1 r0 0 (if a1 = (0 : Int32) then (1 : Int32) else 0)).1 r0 1) = ((t_I h1 r0 0 (if a1 = (0 : Int32) then (1 : Int32) else 0)).1 19 x1.toNatClampNeg) then AX 2 129 41 [.ref r0, .int x1, .int 0, .float 0, .float 0] [] (t_I h1 r0 0 (if a1 = (0 : Int32) then (1 : Int32) else 0)) Q else AX 2 129 37 [.ref r0, .int x1, .float 0, .float 0, .float 0] [] (t_I h1 r0 0 (if a1 = (0 : Int32) then (1 : Int32) else 0)) Q)))))))) Q)) := by
  rw [e_129_0]
  simp only [e_129_1, e_129_2, e_129_3, b_129_6, e_129_14, e_129_17, e_129_18, e_129_21, e_129_24, e_129_25, e_129_28, e_129_29, e_129_32, e_129_33, e_129_34, e_129_39, e_129_40, true_and, and_true, or_true, true_or]
set_option maxRecDepth 20000 in
theorem s_129_37 (r0 : Nat) (x1 : Int32) (h : tH) (Q : tO → tH → Prop)  :
    AX 2 129 37 [.ref r0, .int x1, .float 0, .float 0, .float 0] [] h Q =
    Q (.inl (some (.int 0))) h := by
  rw [e_129_37]
  simp only [e_129_38, t_z0, true_and, and_true, or_true, true_or]
set_option maxRecDepth 20000 in
theorem s_129_41 (r0 : Nat) (x1 : Int32) (x2 : Int32) (w3 : Value) (w4 : Value) (h : tH) (Q : tO → tH → Prop)  :
    AX 2 129 41 [.ref r0, .int x1, .int x2, w3, w4] [] h Q =
    (t_ob r0 = some 7 ∧ (if (h.1 r0 1) ≤ x2 then (t_ob r0 = some 7 ∧ AM 121 [.ref r0, .int x1] h (t_kv (fun h1 => Q (.inl (some (.int 1))) h1) Q)) else AX 2 129 53 [.ref r0, .int x1, .int x2, .int (x2 + 1), w4] [] h Q)) := by
  rw [e_129_41]
  simp only [e_129_42, e_129_43, e_129_46, e_129_115, e_129_116, e_129_117, e_129_120, e_129_121, t_z1, e_129_49, e_129_50, e_129_51, e_129_52, true_and, and_true, or_true, true_or]
set_option maxRecDepth 20000 in
theorem s_129_53 (r0 : Nat) (x1 : Int32) (x2 : Int32) (x3 : Int32) (w4 : Value) (h : tH) (Q : tO → tH → Prop)  :
    AX 2 129 53 [.ref r0, .int x1, .int x2, .int x3, w4] [] h Q =
    (t_ob r0 = some 7 ∧ (if (h.1 r0 1) ≤ x3 then AX 2 129 41 [.ref r0, .int x1, .int (x2 + 1), .int x3, w4] [] h Q else AX 2 129 66 [.ref r0, .int x1, .int x2, .int x3, .int (x3 + 1)] [] h Q)) := by
  rw [e_129_53]
  simp only [e_129_54, e_129_55, e_129_58, e_129_109, e_129_112, e_129_61, e_129_62, e_129_63, e_129_64, true_and, and_true, or_true, true_or]
set_option maxRecDepth 20000 in
theorem s_129_66 (r0 : Nat) (x1 : Int32) (x2 : Int32) (x3 : Int32) (x4 : Int32) (h : tH) (Q : tO → tH → Prop)  :
    AX 2 129 66 [.ref r0, .int x1, .int x2, .int x3, .int x4] [] h Q =
    (t_ob r0 = some 7 ∧ (if (h.1 r0 1) ≤ x4 then AX 2 129 53 [.ref r0, .int x1, .int x2, .int (x3 + 1), .int x4] [] h Q else (t_ob r0 = some 7 ∧ AM 112 [.ref r0, .int x2, .int x3, .int x4] h (t_ki (fun a1 h1 => (t_ob r0 = some 7 ∧ AM 104 [.ref r0, .int x1, .int x2, .int x3, .int x4] h1 (t_ki (fun a2 h2 => (if a1 = a2 then AX 2 129 66 [.ref r0, .int x1, .int x2, .int x3, .int (x4 + 1)] [] h2 Q else Q (.inl (some (.int 0))) h2)) Q))) Q)))) := by
  rw [e_129_66]
  simp only [e_129_68, e_129_69, e_129_72, e_129_103, e_129_106, e_129_75, e_129_76, e_129_77, e_129_78, e_129_80, e_129_83, e_129_84, e_129_85, e_129_86, e_129_87, e_129_89, e_129_92, e_129_97, e_129_100, e_129_95, e_129_96, t_z0, true_and, and_true, or_true, true_or]
theorem am_129 (r0 : Nat) (x1 : Int32) (h : tH) (Q : tO → tH → Prop) : AM 129 [.ref r0, .int x1] h Q = AX 2 129 0 [.ref r0, .int x1, .float 0, .float 0, .float 0] [] h Q := AM_at ta_129 _ _ _
-- X10_drawings
set_option maxRecDepth 20000 in
theorem s_130_0 (r0 : Nat) (h : tH) (Q : tO → tH → Prop)  :
    AX 0 130 0 [.ref r0] [] h Q =
    (t_ob r0 = some 7 ∧ (t_ob r0 = some 7 ∧ Q (.inl (some (.int ((t_I h r0 0 0).1 r0 8)))) (t_I h r0 0 0))) := by
  rw [e_130_0]
  simp only [e_130_1, e_130_2, e_130_5, e_130_6, e_130_9, true_and, and_true, or_true, true_or]
theorem am_130 (r0 : Nat) (h : tH) (Q : tO → tH → Prop) : AM 130 [.ref r0] h Q = AX 0 130 0 [.ref r0] [] h Q := AM_at ta_130 _ _ _
-- X10_points
theorem b_131_6 (r0 : Nat) (x1 : Int32) (u0 : Int32) (k1 : Nat) (h : tH) (Q : tO → tH → Prop) : AX 2 131 6 [.ref r0, .int x1] [.int u0, .ref k1] h Q = AX 2 131 14 [.ref r0, .int x1] [.int (if u0 = (0 : Int32) then (1 : Int32) else 0), .ref k1] h Q := by
  simp only [e_131_6, e_131_9, e_131_10, e_131_13]
  repeat' split
  all_goals rfl
set_option maxRecDepth 20000 in
theorem s_131_0 (r0 : Nat) (x1 : Int32) (h : tH) (Q : tO → tH → Prop)  :
    AX 2 131 0 [.ref r0, .int x1] [] h Q =
    (t_ob r0 = some 7 ∧ AM 101 [.ref r0, .int x1] h (t_ki (fun a1 h1 => (t_ob r0 = some 7 ∧ (t_ob r0 = some 7 ∧ (if ((t_I h1 r0 0 (if a1 = (0 : Int32) then (1 : Int32) else 0)).1 r0 0) ≤ (0 : Int32) then (t_ob r0 = some 7 ∧ (t_in (t_ai (t_I h1 r0 0 (if a1 = (0 : Int32) then (1 : Int32) else 0)) 19) x1 ∧ AX 2 131 34 [.ref r0, .int x1] [.int ((t_I h1 r0 0 (if a1 = (0 : Int32) then (1 : Int32) else 0)).1 19 x1.toNatClampNeg)] (t_I h1 r0 0 (if a1 = (0 : Int32) then (1 : Int32) else 0)) Q)) else AX 2 131 34 [.ref r0, .int x1] [.int 0] (t_I h1 r0 0 (if a1 = (0 : Int32) then (1 : Int32) else 0)) Q)))) Q)) := by
  rw [e_131_0]
  simp only [e_131_1, e_131_2, e_131_3, b_131_6, e_131_14, e_131_17, e_131_18, e_131_21, e_131_28, e_131_29, e_131_32, e_131_33, e_131_24, e_131_25, true_and, and_true, or_true, true_or]
set_option maxRecDepth 20000 in
theorem s_131_34 (r0 : Nat) (x1 : Int32) (u0 : Int32) (h : tH) (Q : tO → tH → Prop)  :
    AX 2 131 34 [.ref r0, .int x1] [.int u0] h Q =
    Q (.inl (some (.int u0))) h := by
  rw [e_131_34]
theorem am_131 (r0 : Nat) (x1 : Int32) (h : tH) (Q : tO → tH → Prop) : AM 131 [.ref r0, .int x1] h Q = AX 2 131 0 [.ref r0, .int x1] [] h Q := AM_at ta_131 _ _ _
-- X10_hasNumbers
theorem b_132_6 (r0 : Nat) (x1 : Int32) (u0 : Int32) (k1 : Nat) (h : tH) (Q : tO → tH → Prop) : AX 2 132 6 [.ref r0, .int x1] [.int u0, .ref k1] h Q = AX 2 132 14 [.ref r0, .int x1] [.int (if u0 = (0 : Int32) then (1 : Int32) else 0), .ref k1] h Q := by
  simp only [e_132_6, e_132_9, e_132_10, e_132_13]
  repeat' split
  all_goals rfl
set_option maxRecDepth 20000 in
theorem s_132_0 (r0 : Nat) (x1 : Int32) (h : tH) (Q : tO → tH → Prop)  :
    AX 2 132 0 [.ref r0, .int x1] [] h Q =
    (t_ob r0 = some 7 ∧ AM 101 [.ref r0, .int x1] h (t_ki (fun a1 h1 => (t_ob r0 = some 7 ∧ (t_ob r0 = some 7 ∧ (if ¬ ((t_I h1 r0 0 (if a1 = (0 : Int32) then (1 : Int32) else 0)).1 r0 0) = (0 : Int32) then AX 2 132 37 [.ref r0, .int x1] [] (t_I h1 r0 0 (if a1 = (0 : Int32) then (1 : Int32) else 0)) Q else (t_ob r0 = some 7 ∧ (vp_in x1 6 ∧ (if ((t_I h1 r0 0 (if a1 = (0 : Int32) then (1 : Int32) else 0)).1 21 x1.toNatClampNeg) = (0 : Int32) then AX 2 132 37 [.ref r0, .int x1] [] (t_I h1 r0 0 (if a1 = (0 : Int32) then (1 : Int32) else 0)) Q else AX 2 132 38 [.ref r0, .int x1] [.int 1] (t_I h1 r0 0 (if a1 = (0 : Int32) then (1 : Int32) else 0)) Q))))))) Q)) := by
  rw [e_132_0]
  simp only [e_132_1, e_132_2, e_132_3, b_132_6, e_132_14, e_132_17, e_132_18, e_132_21, e_132_24, e_132_25, e_132_28, e_132_29, e_132_30, e_132_33, e_132_34, t_bo_21, true_and, and_true, or_true, true_or]
set_option maxRecDepth 20000 in
theorem s_132_37 (r0 : Nat) (x1 : Int32) (h : tH) (Q : tO → tH → Prop)  :
    AX 2 132 37 [.ref r0, .int x1] [] h Q =
    AX 2 132 38 [.ref r0, .int x1] [.int 0] h Q := by
  rw [e_132_37]
set_option maxRecDepth 20000 in
theorem s_132_38 (r0 : Nat) (x1 : Int32) (u0 : Int32) (h : tH) (Q : tO → tH → Prop)  :
    AX 2 132 38 [.ref r0, .int x1] [.int u0] h Q =
    (((u0 : Int32) = 0 ∨ (u0 : Int32) = 1) ∧ Q (.inl (some (.int u0))) h) := by
  rw [e_132_38]
theorem am_132 (r0 : Nat) (x1 : Int32) (h : tH) (Q : tO → tH → Prop) : AM 132 [.ref r0, .int x1] h Q = AX 2 132 0 [.ref r0, .int x1] [] h Q := AM_at ta_132 _ _ _
-- X10_number
theorem b_133_40 (r0 : Nat) (x1 : Int32) (x2 : Int32) (x3 : Int32) (x4 : Int32) (u0 : Int32) (k1 : Nat) (h : tH) (Q : tO → tH → Prop) : AX 2 133 40 [.ref r0, .int x1, .int x2, .int x3, .int x4] [.int u0, .ref k1] h Q = AX 2 133 48 [.ref r0, .int x1, .int x2, .int x3, .int x4] [.int (if ¬ u0 = (0 : Int32) then (0 : Int32) else 2), .ref k1] h Q := by
  simp only [e_133_40, e_133_43, e_133_44, e_133_47]
  repeat' split
  all_goals rfl
set_option maxRecDepth 20000 in
theorem s_133_0 (r0 : Nat) (x1 : Int32) (x2 : Int32) (x3 : Int32) (h : tH) (Q : tO → tH → Prop)  :
    AX 2 133 0 [.ref r0, .int x1, .int x2, .int x3, .float 0] [] h Q =
    (t_ob r0 = some 7 ∧ AM 101 [.ref r0, .int x1] h (t_ki (fun a1 h1 => (if a1 = (0 : Int32) then AX 2 133 21 [.ref r0, .int x1, .int x2, .int x3, .float 0] [] h1 Q else (t_ob r0 = some 7 ∧ AM 102 [.ref r0, .int x1, .int x2] h1 (t_ki (fun a2 h2 => (if a2 = (0 : Int32) then AX 2 133 21 [.ref r0, .int x1, .int x2, .int x3, .float 0] [] h2 Q else AX 2 133 22 [.ref r0, .int x1, .int x2, .int x3, .float 0] [.int 1] h2 Q)) Q)))) Q)) := by
  rw [e_133_0]
  simp only [e_133_1, e_133_2, e_133_5, e_133_8, e_133_9, e_133_10, e_133_11, e_133_14, e_133_17, e_133_18, true_and, and_true, or_true, true_or]
set_option maxRecDepth 20000 in
theorem s_133_21 (r0 : Nat) (x1 : Int32) (x2 : Int32) (x3 : Int32) (h : tH) (Q : tO → tH → Prop)  :
    AX 2 133 21 [.ref r0, .int x1, .int x2, .int x3, .float 0] [] h Q =
    AX 2 133 22 [.ref r0, .int x1, .int x2, .int x3, .float 0] [.int 0] h Q := by
  rw [e_133_21]
set_option maxRecDepth 20000 in
theorem s_133_22 (r0 : Nat) (x1 : Int32) (x2 : Int32) (x3 : Int32) (u0 : Int32) (h : tH) (Q : tO → tH → Prop)  :
    AX 2 133 22 [.ref r0, .int x1, .int x2, .int x3, .float 0] [.int u0] h Q =
    (if ¬ u0 = (0 : Int32) then (t_ob r0 = some 7 ∧ (vp_in x1 6 ∧ AX 2 133 48 [.ref r0, .int x1, .int x2, .int x3, .int u0] [.int (if ¬ (h.1 21 x1.toNatClampNeg) = (0 : Int32) then (0 : Int32) else 2), .ref r0] h Q)) else AX 2 133 48 [.ref r0, .int x1, .int x2, .int x3, .int u0] [.int 1, .ref r0] h Q) := by
  rw [e_133_22]
  simp only [e_133_24, e_133_25, e_133_27, e_133_34, e_133_35, e_133_38, e_133_39, b_133_40, e_133_30, e_133_31, t_bo_21, true_and, and_true, or_true, true_or]
set_option maxRecDepth 20000 in
theorem s_133_48 (r0 : Nat) (x1 : Int32) (x2 : Int32) (x3 : Int32) (x4 : Int32) (u0 : Int32) (k1 : Nat) (h : tH) (Q : tO → tH → Prop)  :
    AX 2 133 48 [.ref r0, .int x1, .int x2, .int x3, .int x4] [.int u0, .ref k1] h Q =
    (t_ob k1 = some 7 ∧ (t_ob r0 = some 7 ∧ (if ((t_I h k1 0 u0).1 r0 0) ≤ (0 : Int32) then (if x3 = (0 : Int32) then (t_ob r0 = some 7 ∧ (t_in (t_ai (t_I h k1 0 u0) 22) ((7 * x1) + x2) ∧ AX 2 133 91 [.ref r0, .int x1, .int x2, .int x3, .int x4] [.int ((t_I h k1 0 u0).1 22 ((7 * x1) + x2).toNatClampNeg)] (t_I h k1 0 u0) Q)) else (t_ob r0 = some 7 ∧ (t_in (t_ai (t_I h k1 0 u0) 23) ((7 * x1) + x2) ∧ AX 2 133 91 [.ref r0, .int x1, .int x2, .int x3, .int x4] [.int ((t_I h k1 0 u0).1 23 ((7 * x1) + x2).toNatClampNeg)] (t_I h k1 0 u0) Q))) else AX 2 133 91 [.ref r0, .int x1, .int x2, .int x3, .int x4] [.int 0] (t_I h k1 0 u0) Q))) := by
  rw [e_133_48]
  simp only [e_133_51, e_133_52, e_133_55, e_133_62, e_133_63, e_133_80, e_133_81, e_133_84, e_133_86, e_133_87, e_133_88, e_133_89, e_133_90, e_133_66, e_133_67, e_133_70, e_133_72, e_133_73, e_133_74, e_133_75, e_133_76, e_133_77, e_133_58, e_133_59, true_and, and_true, or_true, true_or]
set_option maxRecDepth 20000 in
theorem s_133_91 (r0 : Nat) (x1 : Int32) (x2 : Int32) (x3 : Int32) (x4 : Int32) (u0 : Int32) (h : tH) (Q : tO → tH → Prop)  :
    AX 2 133 91 [.ref r0, .int x1, .int x2, .int x3, .int x4] [.int u0] h Q =
    Q (.inl (some (.int u0))) h := by
  rw [e_133_91]
theorem am_133 (r0 : Nat) (x1 : Int32) (x2 : Int32) (x3 : Int32) (h : tH) (Q : tO → tH → Prop) : AM 133 [.ref r0, .int x1, .int x2, .int x3] h Q = AX 2 133 0 [.ref r0, .int x1, .int x2, .int x3, .float 0] [] h Q := AM_at ta_133 _ _ _
-- X10_sign
theorem b_134_46 (r0 : Nat) (x1 : Int32) (x2 : Int32) (x3 : Int32) (x4 : Int32) (x5 : Int32) (u0 : Int32) (k1 : Nat) (h : tH) (Q : tO → tH → Prop) : AX 2 134 46 [.ref r0, .int x1, .int x2, .int x3, .int x4, .int x5] [.int u0, .ref k1] h Q = AX 2 134 54 [.ref r0, .int x1, .int x2, .int x3, .int x4, .int x5] [.int (if u0 = (0 : Int32) then (1 : Int32) else 0), .ref k1] h Q := by
  simp only [e_134_46, e_134_49, e_134_50, e_134_53]
  repeat' split
  all_goals rfl
set_option maxRecDepth 20000 in
theorem s_134_0 (r0 : Nat) (x1 : Int32) (x2 : Int32) (x3 : Int32) (x4 : Int32) (h : tH) (Q : tO → tH → Prop)  :
    AX 2 134 0 [.ref r0, .int x1, .int x2, .int x3, .int x4, .float 0] [] h Q =
    (t_ob r0 = some 7 ∧ AM 101 [.ref r0, .int x1] h (t_ki (fun a1 h1 => (if a1 = (0 : Int32) then AX 2 134 40 [.ref r0, .int x1, .int x2, .int x3, .int x4, .float 0] [] h1 Q else (t_ob r0 = some 7 ∧ AM 102 [.ref r0, .int x1, .int x2] h1 (t_ki (fun a2 h2 => (if a2 = (0 : Int32) then AX 2 134 40 [.ref r0, .int x1, .int x2, .int x3, .int x4, .float 0] [] h2 Q else (t_ob r0 = some 7 ∧ AM 102 [.ref r0, .int x1, .int x3] h2 (t_ki (fun a3 h3 => (if a3 = (0 : Int32) then AX 2 134 40 [.ref r0, .int x1, .int x2, .int x3, .int x4, .float 0] [] h3 Q else (t_ob r0 = some 7 ∧ AM 102 [.ref r0, .int x1, .int x4] h3 (t_ki (fun a4 h4 => (if a4 = (0 : Int32) then AX 2 134 40 [.ref r0, .int x1, .int x2, .int x3, .int x4, .float 0] [] h4 Q else AX 2 134 41 [.ref r0, .int x1, .int x2, .int x3, .int x4, .float 0] [.int 1] h4 Q)) Q)))) Q)))) Q)))) Q)) := by
  rw [e_134_0]
  simp only [e_134_1, e_134_2, e_134_5, e_134_8, e_134_9, e_134_10, e_134_11, e_134_14, e_134_17, e_134_18, e_134_19, e_134_20, e_134_23, e_134_26, e_134_27, e_134_28, e_134_30, e_134_33, e_134_36, e_134_37, true_and, and_true, or_true, true_or]
set_option maxRecDepth 20000 in
theorem s_134_40 (r0 : Nat) (x1 : Int32) (x2 : Int32) (x3 : Int32) (x4 : Int32) (h : tH) (Q : tO → tH → Prop)  :
    AX 2 134 40 [.ref r0, .int x1, .int x2, .int x3, .int x4, .float 0] [] h Q =
    AX 2 134 41 [.ref r0, .int x1, .int x2, .int x3, .int x4, .float 0] [.int 0] h Q := by
  rw [e_134_40]
set_option maxRecDepth 20000 in
theorem s_134_41 (r0 : Nat) (x1 : Int32) (x2 : Int32) (x3 : Int32) (x4 : Int32) (u0 : Int32) (h : tH) (Q : tO → tH → Prop)  :
    AX 2 134 41 [.ref r0, .int x1, .int x2, .int x3, .int x4, .float 0] [.int u0] h Q =
    (t_ob r0 = some 7 ∧ (t_ob r0 = some 7 ∧ (if ((t_I h r0 0 (if u0 = (0 : Int32) then (1 : Int32) else 0)).1 r0 0) ≤ (0 : Int32) then (t_ob r0 = some 7 ∧ AM 104 [.ref r0, .int x1, .int x2, .int x3, .int x4] (t_I h r0 0 (if u0 = (0 : Int32) then (1 : Int32) else 0)) (t_ki (fun a1 h1 => AX 2 134 77 [.ref r0, .int x1, .int x2, .int x3, .int x4, .int u0] [.int a1] h1 Q) Q)) else AX 2 134 77 [.ref r0, .int x1, .int x2, .int x3, .int x4, .int u0] [.int 0] (t_I h r0 0 (if u0 = (0 : Int32) then (1 : Int32) else 0)) Q))) := by
  rw [e_134_41]
  simp only [e_134_43, e_134_44, b_134_46, e_134_54, e_134_57, e_134_58, e_134_61, e_134_68, e_134_69, e_134_70, e_134_71, e_134_72, e_134_74, e_134_64, e_134_65, true_and, and_true, or_true, true_or]
set_option maxRecDepth 20000 in
theorem s_134_77 (r0 : Nat) (x1 : Int32) (x2 : Int32) (x3 : Int32) (x4 : Int32) (x5 : Int32) (u0 : Int32) (h : tH) (Q : tO → tH → Prop)  :
    AX 2 134 77 [.ref r0, .int x1, .int x2, .int x3, .int x4, .int x5] [.int u0] h Q =
    Q (.inl (some (.int u0))) h := by
  rw [e_134_77]
theorem am_134 (r0 : Nat) (x1 : Int32) (x2 : Int32) (x3 : Int32) (x4 : Int32) (h : tH) (Q : tO → tH → Prop) : AM 134 [.ref r0, .int x1, .int x2, .int x3, .int x4] h Q = AX 2 134 0 [.ref r0, .int x1, .int x2, .int x3, .int x4, .float 0] [] h Q := AM_at ta_134 _ _ _
-- X10_flips
theorem b_135_6 (r0 : Nat) (x1 : Int32) (u0 : Int32) (k1 : Nat) (h : tH) (Q : tO → tH → Prop) : AX 6 135 6 [.ref r0, .int x1, .float 0, .float 0, .float 0, .float 0] [.int u0, .ref k1] h Q = AX 6 135 14 [.ref r0, .int x1, .float 0, .float 0, .float 0, .float 0] [.int (if u0 = (0 : Int32) then (1 : Int32) else 0), .ref k1] h Q := by
  simp only [e_135_6, e_135_9, e_135_10, e_135_13]
  repeat' split
  all_goals rfl
set_option maxRecDepth 20000 in
theorem s_135_0 (r0 : Nat) (x1 : Int32) (h : tH) (Q : tO → tH → Prop)  :
    AX 6 135 0 [.ref r0, .int x1, .float 0, .float 0, .float 0, .float 0] [] h Q =
    (t_ob r0 = some 7 ∧ AM 101 [.ref r0, .int x1] h (t_ki (fun a1 h1 => (t_ob r0 = some 7 ∧ (t_ob r0 = some 7 ∧ (if ((t_I h1 r0 0 (if a1 = (0 : Int32) then (1 : Int32) else 0)).1 r0 0) ≤ (0 : Int32) then AX 6 135 30 [.ref r0, .int x1, .int 0, .int 0, .float 0, .float 0] [] (t_I h1 r0 0 (if a1 = (0 : Int32) then (1 : Int32) else 0)) Q else Q (.inl (some (.int 0))) (t_I h1 r0 0 (if a1 = (0 : Int32) then (1 : Int32) else 0)))))) Q)) := by
  rw [e_135_0]
  simp only [e_135_1, e_135_2, e_135_3, b_135_6, e_135_14, e_135_17, e_135_18, e_135_21, e_135_26, e_135_27, e_135_28, e_135_29, e_135_24, e_135_25, true_and, and_true, or_true, true_or]
set_option maxRecDepth 20000 in
theorem s_135_30 (r0 : Nat) (x1 : Int32) (x2 : Int32) (x3 : Int32) (w4 : Value) (w5 : Value) (h : tH) (Q : tO → tH → Prop)  :
    AX 6 135 30 [.ref r0, .int x1, .int x2, .int x3, w4, w5] [] h Q =
    (t_ob r0 = some 7 ∧ (vp_in x1 7 ∧ (if (h.1 19 x1.toNatClampNeg) ≤ x3 then Q (.inl (some (.int x2))) h else AX 6 135 45 [.ref r0, .int x1, .int x2, .int x3, .int (x3 + 1), w5] [] h Q))) := by
  rw [e_135_30]
  simp only [e_135_31, e_135_32, e_135_35, e_135_36, e_135_37, e_135_128, e_135_129, e_135_40, e_135_41, e_135_42, e_135_43, t_ai_19, true_and, and_true, or_true, true_or]
set_option maxRecDepth 20000 in
theorem s_135_45 (r0 : Nat) (x1 : Int32) (x2 : Int32) (x3 : Int32) (x4 : Int32) (w5 : Value) (h : tH) (Q : tO → tH → Prop)  :
    AX 6 135 45 [.ref r0, .int x1, .int x2, .int x3, .int x4, w5] [] h Q =
    (t_ob r0 = some 7 ∧ (vp_in x1 7 ∧ (if (h.1 19 x1.toNatClampNeg) ≤ x4 then AX 6 135 30 [.ref r0, .int x1, .int x2, .int (x3 + 1), .int x4, w5] [] h Q else AX 6 135 62 [.ref r0, .int x1, .int x2, .int x3, .int x4, .int (x4 + 1)] [] h Q))) := by
  rw [e_135_45]
  simp only [e_135_47, e_135_48, e_135_51, e_135_52, e_135_53, e_135_122, e_135_125, e_135_56, e_135_58, e_135_59, e_135_60, t_ai_19, true_and, and_true, or_true, true_or]
set_option maxRecDepth 20000 in
theorem s_135_62 (r0 : Nat) (x1 : Int32) (x2 : Int32) (x3 : Int32) (x4 : Int32) (x5 : Int32) (h : tH) (Q : tO → tH → Prop)  :
    AX 6 135 62 [.ref r0, .int x1, .int x2, .int x3, .int x4, .int x5] [] h Q =
    (t_ob r0 = some 7 ∧ (vp_in x1 7 ∧ (if (h.1 19 x1.toNatClampNeg) ≤ x5 then AX 6 135 45 [.ref r0, .int x1, .int x2, .int x3, .int (x4 + 1), .int x5] [] h Q else (t_ob r0 = some 7 ∧ AM 125 [.ref r0, .int x1, .int x3, .int x4, .int x5] h (t_ki (fun a1 h1 => (if a1 = (0 : Int32) then AX 6 135 110 [.ref r0, .int x1, .int x2, .int x3, .int x4, .int x5] [] h1 Q else (t_ob r0 = some 7 ∧ AM 104 [.ref r0, .int x1, .int x3, .int x4, .int x5] h1 (t_ki (fun a2 h2 => (t_ob r0 = some 7 ∧ AM 105 [.ref r0, .int x1, .int x3, .int x4, .int x5, .int (-a2)] h2 (t_kv (fun h3 => AX 6 135 110 [.ref r0, .int x1, .int (x2 + 1), .int x3, .int x4, .int x5] [] h3 Q) Q))) Q)))) Q))))) := by
  rw [e_135_62]
  simp only [e_135_64, e_135_65, e_135_68, e_135_69, e_135_70, e_135_116, e_135_119, e_135_73, e_135_74, e_135_75, e_135_76, e_135_78, e_135_80, e_135_83, e_135_86, e_135_89, e_135_90, e_135_91, e_135_92, e_135_94, e_135_96, e_135_97, e_135_98, e_135_99, e_135_101, e_135_103, e_135_106, e_135_107, t_ai_19, true_and, and_true, or_true, true_or]
set_option maxRecDepth 20000 in
theorem s_135_110 (r0 : Nat) (x1 : Int32) (x2 : Int32) (x3 : Int32) (x4 : Int32) (x5 : Int32) (h : tH) (Q : tO → tH → Prop)  :
    AX 6 135 110 [.ref r0, .int x1, .int x2, .int x3, .int x4, .int x5] [] h Q =
    AX 6 135 62 [.ref r0, .int x1, .int x2, .int x3, .int x4, .int (x5 + 1)] [] h Q := by
  rw [e_135_110]
  simp only [e_135_113, true_and, and_true, or_true, true_or]
theorem am_135 (r0 : Nat) (x1 : Int32) (h : tH) (Q : tO → tH → Prop) : AM 135 [.ref r0, .int x1] h Q = AX 6 135 0 [.ref r0, .int x1, .float 0, .float 0, .float 0, .float 0] [] h Q := AM_at ta_135 _ _ _
-- X10_follows
theorem b_136_17 (r0 : Nat) (x1 : Int32) (x2 : Int32) (x3 : Int32) (x4 : Int32) (w5 : Value) (w6 : Value) (w7 : Value) (u0 : Int32) (u1 : Int32) (h : tH) (Q : tO → tH → Prop) : AX 2 136 17 [.ref r0, .int x1, .int x2, .int x3, .int x4, w5, w6, w7] [.int u0, .int u1] h Q = AX 2 136 35 [.ref r0, .int x1, .int x2, .int x3, .int x4, w5, w6, w7] [.int (if u1 = u0 then (0 : Int32) else (if ¬ ((x2 >>> (x4 &&& 31)) &&& 1) = (1 : Int32) then (0 : Int32) else 1))] h Q := by
  simp only [e_136_17, e_136_20, e_136_21, e_136_23, e_136_24, e_136_25, e_136_26, e_136_27, e_136_30, e_136_31, e_136_34]
  repeat' split
  all_goals rfl
theorem b_136_59 (r0 : Nat) (x1 : Int32) (x2 : Int32) (x3 : Int32) (x4 : Int32) (x5 : Int32) (x6 : Int32) (w7 : Value) (u0 : Int32) (u1 : Int32) (h : tH) (Q : tO → tH → Prop) : AX 2 136 59 [.ref r0, .int x1, .int x2, .int x3, .int x4, .int x5, .int x6, w7] [.int u0, .int u1] h Q = AX 2 136 84 [.ref r0, .int x1, .int x2, .int x3, .int x4, .int x5, .int x6, w7] [.int (if u1 = u0 then (0 : Int32) else (if x6 = x4 then (0 : Int32) else (if ¬ ((x2 >>> (x6 &&& 31)) &&& 1) = (1 : Int32) then (0 : Int32) else 1)))] h Q := by
  simp only [e_136_59, e_136_62, e_136_64, e_136_66, e_136_69, e_136_70, e_136_72, e_136_73, e_136_74, e_136_75, e_136_76, e_136_79, e_136_80, e_136_83]
  repeat' split
  all_goals rfl
set_option maxRecDepth 20000 in
theorem s_136_0 (r0 : Nat) (x1 : Int32) (x2 : Int32) (x3 : Int32) (h : tH) (Q : tO → tH → Prop)  :
    AX 2 136 0 [.ref r0, .int x1, .int x2, .int x3, .float 0, .float 0, .float 0, .float 0] [] h Q =
    AX 2 136 3 [.ref r0, .int x1, .int x2, .int x3, .int 0, .float 0, .float 0, .float 0] [] h Q := by
  rw [e_136_0]
  simp only [e_136_1, true_and, and_true, or_true, true_or]
set_option maxRecDepth 20000 in
theorem s_136_3 (r0 : Nat) (x1 : Int32) (x2 : Int32) (x3 : Int32) (x4 : Int32) (w5 : Value) (w6 : Value) (w7 : Value) (h : tH) (Q : tO → tH → Prop)  :
    AX 2 136 3 [.ref r0, .int x1, .int x2, .int x3, .int x4, w5, w6, w7] [] h Q =
    (t_ob r0 = some 7 ∧ (vp_in x1 7 ∧ (if (h.1 19 x1.toNatClampNeg) ≤ x4 then Q (.inl (some (.int (-1)))) h else AX 2 136 40 [.ref r0, .int x1, .int x2, .int x3, .int x4, .int (if x4 = x3 then (0 : Int32) else (if ¬ ((x2 >>> (x4 &&& 31)) &&& 1) = (1 : Int32) then (0 : Int32) else 1)), .int 0, w7] [] h Q))) := by
  rw [e_136_3]
  simp only [e_136_5, e_136_6, e_136_9, e_136_10, e_136_11, e_136_132, e_136_133, e_136_14, e_136_16, b_136_17, e_136_35, e_136_37, e_136_38, t_ai_19, true_and, and_true, or_true, true_or]
set_option maxRecDepth 20000 in
theorem s_136_40 (r0 : Nat) (x1 : Int32) (x2 : Int32) (x3 : Int32) (x4 : Int32) (x5 : Int32) (x6 : Int32) (w7 : Value) (h : tH) (Q : tO → tH → Prop)  :
    AX 2 136 40 [.ref r0, .int x1, .int x2, .int x3, .int x4, .int x5, .int x6, w7] [] h Q =
    (t_ob r0 = some 7 ∧ (vp_in x1 7 ∧ (if (h.1 19 x1.toNatClampNeg) ≤ x6 then AX 2 136 118 [.ref r0, .int x1, .int x2, .int x3, .int x4, .int x5, .int x6, w7] [] h Q else (if x5 = (0 : Int32) then AX 2 136 118 [.ref r0, .int x1, .int x2, .int x3, .int x4, .int x5, .int x6, w7] [] h Q else (if ((if x6 = x3 then (0 : Int32) else (if x6 = x4 then (0 : Int32) else (if ¬ ((x2 >>> (x6 &&& 31)) &&& 1) = (1 : Int32) then (0 : Int32) else 1))) : Int32) = (0 : Int32) then AX 2 136 105 [.ref r0, .int x1, .int x2, .int x3, .int x4, .int x5, .int x6, .int (if x6 = x3 then (0 : Int32) else (if x6 = x4 then (0 : Int32) else (if ¬ ((x2 >>> (x6 &&& 31)) &&& 1) = (1 : Int32) then (0 : Int32) else 1)))] [] h Q else (t_ob r0 = some 7 ∧ AM 104 [.ref r0, .int x1, .int x3, .int x4, .int x6] h (t_ki (fun a1 h1 => (if ¬ a1 = (1 : Int32) then AX 2 136 110 [.ref r0, .int x1, .int x2, .int x3, .int x4, .int x5, .int x6, .int (if x6 = x3 then (0 : Int32) else (if x6 = x4 then (0 : Int32) else (if ¬ ((x2 >>> (x6 &&& 31)) &&& 1) = (1 : Int32) then (0 : Int32) else 1)))] [.int 0] h1 Q else AX 2 136 105 [.ref r0, .int x1, .int x2, .int x3, .int x4, .int x5, .int x6, .int (if x6 = x3 then (0 : Int32) else (if x6 = x4 then (0 : Int32) else (if ¬ ((x2 >>> (x6 &&& 31)) &&& 1) = (1 : Int32) then (0 : Int32) else 1)))] [] h1 Q)) Q))))))) := by
  rw [e_136_40]
  simp only [e_136_42, e_136_43, e_136_46, e_136_47, e_136_48, e_136_51, e_136_53, e_136_56, e_136_58, b_136_59, e_136_84, e_136_86, e_136_88, e_136_91, e_136_92, e_136_93, e_136_94, e_136_96, e_136_98, e_136_101, e_136_102, e_136_109, t_ai_19, true_and, and_true, or_true, true_or]
set_option maxRecDepth 20000 in
theorem s_136_105 (r0 : Nat) (x1 : Int32) (x2 : Int32) (x3 : Int32) (x4 : Int32) (x5 : Int32) (x6 : Int32) (x7 : Int32) (h : tH) (Q : tO → tH → Prop)  :
    AX 2 136 105 [.ref r0, .int x1, .int x2, .int x3, .int x4, .int x5, .int x6, .int x7] [] h Q =
    AX 2 136 110 [.ref r0, .int x1, .int x2, .int x3, .int x4, .int x5, .int x6, .int x7] [.int 1] h Q := by
  rw [e_136_105]
  simp only [e_136_106, true_and, and_true, or_true, true_or]
set_option maxRecDepth 20000 in
theorem s_136_110 (r0 : Nat) (x1 : Int32) (x2 : Int32) (x3 : Int32) (x4 : Int32) (x5 : Int32) (x6 : Int32) (x7 : Int32) (u0 : Int32) (h : tH) (Q : tO → tH → Prop)  :
    AX 2 136 110 [.ref r0, .int x1, .int x2, .int x3, .int x4, .int x5, .int x6, .int x7] [.int u0] h Q =
    AX 2 136 40 [.ref r0, .int x1, .int x2, .int x3, .int x4, .int u0, .int (x6 + 1), .int x7] [] h Q := by
  rw [e_136_110]
  simp only [e_136_112, e_136_115, true_and, and_true, or_true, true_or]
set_option maxRecDepth 20000 in
theorem s_136_118 (r0 : Nat) (x1 : Int32) (x2 : Int32) (x3 : Int32) (x4 : Int32) (x5 : Int32) (x6 : Int32) (w7 : Value) (h : tH) (Q : tO → tH → Prop)  :
    AX 2 136 118 [.ref r0, .int x1, .int x2, .int x3, .int x4, .int x5, .int x6, w7] [] h Q =
    (if x5 = (0 : Int32) then AX 2 136 3 [.ref r0, .int x1, .int x2, .int x3, .int (x4 + 1), .int x5, .int x6, w7] [] h Q else Q (.inl (some (.int x4))) h) := by
  rw [e_136_118]
  simp only [e_136_120, e_136_126, e_136_129, e_136_123, e_136_125, true_and, and_true, or_true, true_or]
theorem am_136 (r0 : Nat) (x1 : Int32) (x2 : Int32) (x3 : Int32) (h : tH) (Q : tO → tH → Prop) : AM 136 [.ref r0, .int x1, .int x2, .int x3] h Q = AX 2 136 0 [.ref r0, .int x1, .int x2, .int x3, .float 0, .float 0, .float 0, .float 0] [] h Q := AM_at ta_136 _ _ _
-- X10_hullOf
set_option maxRecDepth 20000 in
theorem s_137_0 (r0 : Nat) (x1 : Int32) (x2 : Int32) (h : tH) (Q : tO → tH → Prop)  :
    AX 3 137 0 [.ref r0, .int x1, .int x2, .float 0, .float 0] [] h Q =
    AX 3 137 5 [.ref r0, .int x1, .int x2, .int 0, .int 0] [] h Q := by
  rw [e_137_0]
  simp only [e_137_1, e_137_2, e_137_3, true_and, and_true, or_true, true_or]
set_option maxRecDepth 20000 in
theorem s_137_5 (r0 : Nat) (x1 : Int32) (x2 : Int32) (x3 : Int32) (x4 : Int32) (h : tH) (Q : tO → tH → Prop)  :
    AX 3 137 5 [.ref r0, .int x1, .int x2, .int x3, .int x4] [] h Q =
    (t_ob r0 = some 7 ∧ (vp_in x1 7 ∧ (if (h.1 19 x1.toNatClampNeg) ≤ x4 then Q (.inl (some (.int x3))) h else (if ¬ ((x2 >>> (x4 &&& 31)) &&& 1) = (1 : Int32) then AX 3 137 46 [.ref r0, .int x1, .int x2, .int x3, .int x4] [.int x3] h Q else (t_ob r0 = some 7 ∧ AM 136 [.ref r0, .int x1, .int x2, .int x4] h (t_ki (fun a1 h1 => (if a1 = ((-1) : Int32) then AX 3 137 46 [.ref r0, .int x1, .int x2, .int x3, .int x4] [.int x3] h1 Q else AX 3 137 47 [.ref r0, .int x1, .int x2, .int x3, .int x4] [.int (1 <<< (x4 &&& 31)), .int x3] h1 Q)) Q)))))) := by
  rw [e_137_5]
  simp only [e_137_7, e_137_8, e_137_11, e_137_12, e_137_13, e_137_55, e_137_56, e_137_16, e_137_17, e_137_18, e_137_20, e_137_21, e_137_22, e_137_23, e_137_24, e_137_27, e_137_28, e_137_29, e_137_30, e_137_32, e_137_35, e_137_36, e_137_39, e_137_40, e_137_42, e_137_43, t_ai_19, true_and, and_true, or_true, true_or]
set_option maxRecDepth 20000 in
theorem s_137_46 (r0 : Nat) (x1 : Int32) (x2 : Int32) (x3 : Int32) (x4 : Int32) (u0 : Int32) (h : tH) (Q : tO → tH → Prop)  :
    AX 3 137 46 [.ref r0, .int x1, .int x2, .int x3, .int x4] [.int u0] h Q =
    AX 3 137 47 [.ref r0, .int x1, .int x2, .int x3, .int x4] [.int 0, .int u0] h Q := by
  rw [e_137_46]
set_option maxRecDepth 20000 in
theorem s_137_47 (r0 : Nat) (x1 : Int32) (x2 : Int32) (x3 : Int32) (x4 : Int32) (u0 : Int32) (u1 : Int32) (h : tH) (Q : tO → tH → Prop)  :
    AX 3 137 47 [.ref r0, .int x1, .int x2, .int x3, .int x4] [.int u0, .int u1] h Q =
    AX 3 137 5 [.ref r0, .int x1, .int x2, .int (u1 ||| u0), .int (x4 + 1)] [] h Q := by
  rw [e_137_47]
  simp only [e_137_48, e_137_49, e_137_52, true_and, and_true, or_true, true_or]
theorem am_137 (r0 : Nat) (x1 : Int32) (x2 : Int32) (h : tH) (Q : tO → tH → Prop) : AM 137 [.ref r0, .int x1, .int x2] h Q = AX 3 137 0 [.ref r0, .int x1, .int x2, .float 0, .float 0] [] h Q := AM_at ta_137 _ _ _
-- X10_bits
set_option maxRecDepth 20000 in
theorem s_138_0 (x0 : Int32) (h : tH) (Q : tO → tH → Prop)  :
    AX 0 138 0 [.int x0, .float 0, .float 0] [] h Q =
    AX 0 138 4 [.int x0, .int 0, .int x0] [] h Q := by
  rw [e_138_0]
  simp only [e_138_1, e_138_2, e_138_3, true_and, and_true, or_true, true_or]
set_option maxRecDepth 20000 in
theorem s_138_4 (x0 : Int32) (x1 : Int32) (x2 : Int32) (h : tH) (Q : tO → tH → Prop)  :
    AX 0 138 4 [.int x0, .int x1, .int x2] [] h Q =
    (if x2 = (0 : Int32) then Q (.inl (some (.int x1))) h else AX 0 138 4 [.int x0, .int (x1 + 1), .int (x2 &&& (x2 - 1))] [] h Q) := by
  rw [e_138_4]
  simp only [e_138_5, e_138_20, e_138_21, e_138_8, e_138_11, e_138_12, e_138_13, e_138_14, e_138_15, e_138_16, e_138_17, true_and, and_true, or_true, true_or]
theorem am_138 (x0 : Int32) (h : tH) (Q : tO → tH → Prop) : AM 138 [.int x0] h Q = AX 0 138 0 [.int x0, .float 0, .float 0] [] h Q := AM_at ta_138 _ _ _
-- X10_all
set_option maxRecDepth 20000 in
theorem s_139_0 (r0 : Nat) (x1 : Int32) (h : tH) (Q : tO → tH → Prop)  :
    AX 0 139 0 [.ref r0, .int x1] [] h Q =
    (t_ob r0 = some 7 ∧ (vp_in x1 7 ∧ Q (.inl (some (.int ((1 <<< ((h.1 19 x1.toNatClampNeg) &&& 31)) - 1)))) h)) := by
  rw [e_139_0]
  simp only [e_139_1, e_139_2, e_139_5, e_139_6, e_139_7, e_139_8, e_139_9, e_139_10, t_ai_19, true_and, and_true, or_true, true_or]
theorem am_139 (r0 : Nat) (x1 : Int32) (h : tH) (Q : tO → tH → Prop) : AM 139 [.ref r0, .int x1] h Q = AX 0 139 0 [.ref r0, .int x1] [] h Q := AM_at ta_139 _ _ _
-- X10_hull
theorem b_140_6 (r0 : Nat) (x1 : Int32) (x2 : Int32) (u0 : Int32) (k1 : Nat) (h : tH) (Q : tO → tH → Prop) : AX 4 140 6 [.ref r0, .int x1, .int x2, .float 0, .float 0, .float 0] [.int u0, .ref k1] h Q = AX 4 140 18 [.ref r0, .int x1, .int x2, .float 0, .float 0, .float 0] [.int (if u0 = (0 : Int32) then (1 : Int32) else (if x2 < (0 : Int32) then (1 : Int32) else 0)), .ref k1] h Q := by
  simp only [e_140_6, e_140_9, e_140_10, e_140_13, e_140_14, e_140_17]
  repeat' split
  all_goals rfl
set_option maxRecDepth 20000 in
theorem s_140_0 (r0 : Nat) (x1 : Int32) (x2 : Int32) (h : tH) (Q : tO → tH → Prop)  :
    AX 4 140 0 [.ref r0, .int x1, .int x2, .float 0, .float 0, .float 0] [] h Q =
    (t_ob r0 = some 7 ∧ AM 101 [.ref r0, .int x1] h (t_ki (fun a1 h1 => (t_ob r0 = some 7 ∧ (t_ob r0 = some 7 ∧ (if ((t_I h1 r0 0 (if a1 = (0 : Int32) then (1 : Int32) else (if x2 < (0 : Int32) then (1 : Int32) else 0))).1 r0 0) ≤ (0 : Int32) then (t_ob r0 = some 7 ∧ AM 139 [.ref r0, .int x1] (t_I h1 r0 0 (if a1 = (0 : Int32) then (1 : Int32) else (if x2 < (0 : Int32) then (1 : Int32) else 0))) (t_ki (fun a2 h2 => (t_ob r0 = some 7 ∧ AM 137 [.ref r0, .int x1, .int a2] h2 (t_ki (fun a3 h3 => AM 138 [.int a3] h3 (t_ki (fun a4 h4 => (if x2 < a4 then AX 4 140 54 [.ref r0, .int x1, .int x2, .int a3, .int 0, .float 0] [] h4 Q else Q (.inl (some (.int (-1)))) h4)) Q)) Q))) Q)) else Q (.inl (some (.int 0))) (t_I h1 r0 0 (if a1 = (0 : Int32) then (1 : Int32) else (if x2 < (0 : Int32) then (1 : Int32) else 0))))))) Q)) := by
  rw [e_140_0]
  simp only [e_140_1, e_140_2, e_140_3, b_140_6, e_140_18, e_140_21, e_140_22, e_140_25, e_140_30, e_140_31, e_140_32, e_140_33, e_140_34, e_140_37, e_140_40, e_140_41, e_140_42, e_140_43, e_140_46, e_140_51, e_140_52, e_140_49, e_140_50, e_140_28, e_140_29, true_and, and_true, or_true, true_or]
set_option maxRecDepth 20000 in
theorem s_140_54 (r0 : Nat) (x1 : Int32) (x2 : Int32) (x3 : Int32) (x4 : Int32) (h : tH) (Q : tO → tH → Prop)  :
    AX 4 140 54 [.ref r0, .int x1, .int x2, .int x3, .int x4, .float 0] [] h Q =
    (if ¬ ((x3 >>> (x4 &&& 31)) &&& 1) = (0 : Int32) then AX 4 140 72 [.ref r0, .int x1, .int x2, .int x3, .int x4, .int 0] [] h Q else AX 4 140 54 [.ref r0, .int x1, .int x2, .int x3, .int (x4 + 1), .float 0] [] h Q) := by
  rw [e_140_54]
  simp only [e_140_55, e_140_57, e_140_58, e_140_59, e_140_60, e_140_69, e_140_70, e_140_63, e_140_66, true_and, and_true, or_true, true_or]
set_option maxRecDepth 20000 in
theorem s_140_72 (r0 : Nat) (x1 : Int32) (x2 : Int32) (x3 : Int32) (x4 : Int32) (x5 : Int32) (h : tH) (Q : tO → tH → Prop)  :
    AX 4 140 72 [.ref r0, .int x1, .int x2, .int x3, .int x4, .int x5] [] h Q =
    (if x2 ≤ x5 then Q (.inl (some (.int x4))) h else (t_ob r0 = some 7 ∧ AM 139 [.ref r0, .int x1] h (t_ki (fun a1 h1 => (t_ob r0 = some 7 ∧ AM 136 [.ref r0, .int x1, .int a1, .int x4] h1 (t_ki (fun a2 h2 => AX 4 140 72 [.ref r0, .int x1, .int x2, .int x3, .int a2, .int (x5 + 1)] [] h2 Q) Q))) Q))) := by
  rw [e_140_72]
  simp only [e_140_74, e_140_75, e_140_98, e_140_100, e_140_78, e_140_79, e_140_80, e_140_81, e_140_82, e_140_85, e_140_87, e_140_90, e_140_92, e_140_95, true_and, and_true, or_true, true_or]
theorem am_140 (r0 : Nat) (x1 : Int32) (x2 : Int32) (h : tH) (Q : tO → tH → Prop) : AM 140 [.ref r0, .int x1, .int x2] h Q = AX 4 140 0 [.ref r0, .int x1, .int x2, .float 0, .float 0, .float 0] [] h Q := AM_at ta_140 _ _ _
-- X10_layer
set_option maxRecDepth 20000 in
theorem s_141_0 (r0 : Nat) (x1 : Int32) (x2 : Int32) (h : tH) (Q : tO → tH → Prop)  :
    AX 4 141 0 [.ref r0, .int x1, .int x2, .float 0, .float 0, .float 0] [] h Q =
    (t_ob r0 = some 7 ∧ AM 101 [.ref r0, .int x1] h (t_ki (fun a1 h1 => (if a1 = (0 : Int32) then AX 4 141 22 [.ref r0, .int x1, .int x2, .float 0, .float 0, .float 0] [.ref r0] h1 Q else (t_ob r0 = some 7 ∧ AM 102 [.ref r0, .int x1, .int x2] h1 (t_ki (fun a2 h2 => (if a2 = (0 : Int32) then AX 4 141 22 [.ref r0, .int x1, .int x2, .float 0, .float 0, .float 0] [.ref r0] h2 Q else AX 4 141 23 [.ref r0, .int x1, .int x2, .float 0, .float 0, .float 0] [.int 0, .ref r0] h2 Q)) Q)))) Q)) := by
  rw [e_141_0]
  simp only [e_141_1, e_141_2, e_141_3, e_141_6, e_141_9, e_141_10, e_141_11, e_141_12, e_141_15, e_141_18, e_141_19, true_and, and_true, or_true, true_or]
set_option maxRecDepth 20000 in
theorem s_141_22 (r0 : Nat) (x1 : Int32) (x2 : Int32) (k0 : Nat) (h : tH) (Q : tO → tH → Prop)  :
    AX 4 141 22 [.ref r0, .int x1, .int x2, .float 0, .float 0, .float 0] [.ref k0] h Q =
    AX 4 141 23 [.ref r0, .int x1, .int x2, .float 0, .float 0, .float 0] [.int 1, .ref k0] h Q := by
  rw [e_141_22]
set_option maxRecDepth 20000 in
theorem s_141_23 (r0 : Nat) (x1 : Int32) (x2 : Int32) (u0 : Int32) (k1 : Nat) (h : tH) (Q : tO → tH → Prop)  :
    AX 4 141 23 [.ref r0, .int x1, .int x2, .float 0, .float 0, .float 0] [.int u0, .ref k1] h Q =
    (t_ob k1 = some 7 ∧ (t_ob r0 = some 7 ∧ (if ((t_I h k1 0 u0).1 r0 0) ≤ (0 : Int32) then (t_ob r0 = some 7 ∧ AM 139 [.ref r0, .int x1] (t_I h k1 0 u0) (t_ki (fun a1 h1 => AX 4 141 44 [.ref r0, .int x1, .int x2, .int a1, .int 0, .float 0] [] h1 Q) Q)) else Q (.inl (some (.int 0))) (t_I h k1 0 u0)))) := by
  rw [e_141_23]
  simp only [e_141_26, e_141_27, e_141_30, e_141_35, e_141_36, e_141_37, e_141_40, e_141_41, e_141_42, e_141_33, e_141_34, true_and, and_true, or_true, true_or]
set_option maxRecDepth 20000 in
theorem s_141_44 (r0 : Nat) (x1 : Int32) (x2 : Int32) (x3 : Int32) (x4 : Int32) (w5 : Value) (h : tH) (Q : tO → tH → Prop)  :
    AX 4 141 44 [.ref r0, .int x1, .int x2, .int x3, .int x4, w5] [] h Q =
    AM 138 [.int x3] h (t_ki (fun a1 h1 => (if a1 ≤ (2 : Int32) then Q (.inl (some (.int x4))) h1 else (t_ob r0 = some 7 ∧ AM 137 [.ref r0, .int x1, .int x3] h1 (t_ki (fun a2 h2 => (if ¬ ((a2 >>> (x2 &&& 31)) &&& 1) = (1 : Int32) then AX 4 141 44 [.ref r0, .int x1, .int x2, .int (x3 &&& (a2 ^^^ (-1))), .int (x4 + 1), .int a2] [] h2 Q else Q (.inl (some (.int x4))) h2)) Q)))) Q) := by
  rw [e_141_44]
  simp only [e_141_45, e_141_48, e_141_49, e_141_86, e_141_88, e_141_52, e_141_53, e_141_54, e_141_55, e_141_58, e_141_60, e_141_62, e_141_63, e_141_64, e_141_65, e_141_66, e_141_67, e_141_73, e_141_74, e_141_76, e_141_77, e_141_78, e_141_79, e_141_80, e_141_83, e_141_70, e_141_72, true_and, and_true, or_true, true_or]
theorem am_141 (r0 : Nat) (x1 : Int32) (x2 : Int32) (h : tH) (Q : tO → tH → Prop) : AM 141 [.ref r0, .int x1, .int x2] h Q = AX 4 141 0 [.ref r0, .int x1, .int x2, .float 0, .float 0, .float 0] [] h Q := AM_at ta_141 _ _ _
-- X10_crosses
theorem b_142_2 (r0 : Nat) (x1 : Int32) (x2 : Int32) (x3 : Int32) (x4 : Int32) (x5 : Int32) (u0 : Int32) (u1 : Int32) (h : tH) (Q : tO → tH → Prop) : AX 2 142 2 [.ref r0, .int x1, .int x2, .int x3, .int x4, .int x5, .float 0] [.int u0, .int u1] h Q = AX 2 142 41 [.ref r0, .int x1, .int x2, .int x3, .int x4, .int x5, .float 0] [.int (if u1 = u0 then (0 : Int32) else (if x2 = x4 then (0 : Int32) else (if x2 = x5 then (0 : Int32) else (if x3 = x4 then (0 : Int32) else (if x3 = x5 then (0 : Int32) else (if x4 = x5 then (0 : Int32) else 1))))))] h Q := by
  simp only [e_142_2, e_142_5, e_142_6, e_142_8, e_142_11, e_142_12, e_142_14, e_142_17, e_142_18, e_142_20, e_142_23, e_142_24, e_142_26, e_142_29, e_142_31, e_142_33, e_142_36, e_142_37, e_142_40]
  repeat' split
  all_goals rfl
set_option maxRecDepth 20000 in
theorem s_142_0 (r0 : Nat) (x1 : Int32) (x2 : Int32) (x3 : Int32) (x4 : Int32) (x5 : Int32) (h : tH) (Q : tO → tH → Prop)  :
    AX 2 142 0 [.ref r0, .int x1, .int x2, .int x3, .int x4, .int x5, .float 0] [] h Q =
    (if ((if x2 = x3 then (0 : Int32) else (if x2 = x4 then (0 : Int32) else (if x2 = x5 then (0 : Int32) else (if x3 = x4 then (0 : Int32) else (if x3 = x5 then (0 : Int32) else (if x4 = x5 then (0 : Int32) else 1)))))) : Int32) = (0 : Int32) then AX 2 142 96 [.ref r0, .int x1, .int x2, .int x3, .int x4, .int x5, .int (if x2 = x3 then (0 : Int32) else (if x2 = x4 then (0 : Int32) else (if x2 = x5 then (0 : Int32) else (if x3 = x4 then (0 : Int32) else (if x3 = x5 then (0 : Int32) else (if x4 = x5 then (0 : Int32) else 1))))))] [] h Q else (t_ob r0 = some 7 ∧ AM 104 [.ref r0, .int x1, .int x2, .int x3, .int x4] h (t_ki (fun a1 h1 => (t_ob r0 = some 7 ∧ AM 104 [.ref r0, .int x1, .int x2, .int x3, .int x5] h1 (t_ki (fun a2 h2 => (if a1 = a2 then AX 2 142 96 [.ref r0, .int x1, .int x2, .int x3, .int x4, .int x5, .int (if x2 = x3 then (0 : Int32) else (if x2 = x4 then (0 : Int32) else (if x2 = x5 then (0 : Int32) else (if x3 = x4 then (0 : Int32) else (if x3 = x5 then (0 : Int32) else (if x4 = x5 then (0 : Int32) else 1))))))] [] h2 Q else (t_ob r0 = some 7 ∧ AM 104 [.ref r0, .int x1, .int x4, .int x5, .int x2] h2 (t_ki (fun a3 h3 => (t_ob r0 = some 7 ∧ AM 104 [.ref r0, .int x1, .int x4, .int x5, .int x3] h3 (t_ki (fun a4 h4 => (if a3 = a4 then AX 2 142 96 [.ref r0, .int x1, .int x2, .int x3, .int x4, .int x5, .int (if x2 = x3 then (0 : Int32) else (if x2 = x4 then (0 : Int32) else (if x2 = x5 then (0 : Int32) else (if x3 = x4 then (0 : Int32) else (if x3 = x5 then (0 : Int32) else (if x4 = x5 then (0 : Int32) else 1))))))] [] h4 Q else AX 2 142 97 [.ref r0, .int x1, .int x2, .int x3, .int x4, .int x5, .int (if x2 = x3 then (0 : Int32) else (if x2 = x4 then (0 : Int32) else (if x2 = x5 then (0 : Int32) else (if x3 = x4 then (0 : Int32) else (if x3 = x5 then (0 : Int32) else (if x4 = x5 then (0 : Int32) else 1))))))] [.int 1] h4 Q)) Q))) Q)))) Q))) Q))) := by
  rw [e_142_0]
  simp only [e_142_1, b_142_2, e_142_41, e_142_43, e_142_45, e_142_48, e_142_49, e_142_50, e_142_51, e_142_52, e_142_54, e_142_57, e_142_58, e_142_59, e_142_60, e_142_61, e_142_63, e_142_66, e_142_69, e_142_70, e_142_71, e_142_73, e_142_75, e_142_76, e_142_79, e_142_80, e_142_81, e_142_83, e_142_85, e_142_86, e_142_89, e_142_92, e_142_93, true_and, and_true, or_true, true_or]
set_option maxRecDepth 20000 in
theorem s_142_96 (r0 : Nat) (x1 : Int32) (x2 : Int32) (x3 : Int32) (x4 : Int32) (x5 : Int32) (x6 : Int32) (h : tH) (Q : tO → tH → Prop)  :
    AX 2 142 96 [.ref r0, .int x1, .int x2, .int x3, .int x4, .int x5, .int x6] [] h Q =
    AX 2 142 97 [.ref r0, .int x1, .int x2, .int x3, .int x4, .int x5, .int x6] [.int 0] h Q := by
  rw [e_142_96]
set_option maxRecDepth 20000 in
theorem s_142_97 (r0 : Nat) (x1 : Int32) (x2 : Int32) (x3 : Int32) (x4 : Int32) (x5 : Int32) (x6 : Int32) (u0 : Int32) (h : tH) (Q : tO → tH → Prop)  :
    AX 2 142 97 [.ref r0, .int x1, .int x2, .int x3, .int x4, .int x5, .int x6] [.int u0] h Q =
    (((u0 : Int32) = 0 ∨ (u0 : Int32) = 1) ∧ Q (.inl (some (.int u0))) h) := by
  rw [e_142_97]
theorem am_142 (r0 : Nat) (x1 : Int32) (x2 : Int32) (x3 : Int32) (x4 : Int32) (x5 : Int32) (h : tH) (Q : tO → tH → Prop) : AM 142 [.ref r0, .int x1, .int x2, .int x3, .int x4, .int x5] h Q = AX 2 142 0 [.ref r0, .int x1, .int x2, .int x3, .int x4, .int x5, .float 0] [] h Q := AM_at ta_142 _ _ _
-- X10_cross
theorem b_143_55 (r0 : Nat) (x1 : Int32) (x2 : Int32) (x3 : Int32) (x4 : Int32) (x5 : Int32) (x6 : Int32) (u0 : Int32) (u1 : Int32) (h : tH) (Q : tO → tH → Prop) : AX 3 143 55 [.ref r0, .int x1, .int x2, .int x3, .int x4, .int x5, .int x6, .float 0] [.int u0, .int u1] h Q = AX 3 143 94 [.ref r0, .int x1, .int x2, .int x3, .int x4, .int x5, .int x6, .float 0] [.int (if u1 = u0 then (1 : Int32) else (if x2 = x4 then (1 : Int32) else (if x2 = x5 then (1 : Int32) else (if x3 = x4 then (1 : Int32) else (if x3 = x5 then (1 : Int32) else (if ¬ x4 = x5 then (0 : Int32) else 1))))))] h Q := by
  simp only [e_143_55, e_143_58, e_143_59, e_143_61, e_143_64, e_143_65, e_143_67, e_143_70, e_143_71, e_143_73, e_143_76, e_143_77, e_143_79, e_143_82, e_143_84, e_143_86, e_143_89, e_143_90, e_143_93]
  repeat' split
  all_goals rfl
theorem b_143_99 (r0 : Nat) (x1 : Int32) (x2 : Int32) (x3 : Int32) (x4 : Int32) (x5 : Int32) (x6 : Int32) (x7 : Int32) (u0 : Int32) (k1 : Nat) (h : tH) (Q : tO → tH → Prop) : AX 3 143 99 [.ref r0, .int x1, .int x2, .int x3, .int x4, .int x5, .int x6, .int x7] [.int u0, .ref k1] h Q = AX 3 143 116 [.ref r0, .int x1, .int x2, .int x3, .int x4, .int x5, .int x6, .int x7] [.int (if ¬ u0 = (0 : Int32) then (if x7 = (0 : Int32) then (0 : Int32) else 2) else 1), .ref k1] h Q := by
  simp only [e_143_99, e_143_102, e_143_103, e_143_106, e_143_108, e_143_111, e_143_112, e_143_115]
  repeat' split
  all_goals rfl
set_option maxRecDepth 20000 in
theorem s_143_0 (r0 : Nat) (x1 : Int32) (x2 : Int32) (x3 : Int32) (x4 : Int32) (x5 : Int32) (h : tH) (Q : tO → tH → Prop)  :
    AX 3 143 0 [.ref r0, .int x1, .int x2, .int x3, .int x4, .int x5, .float 0, .float 0] [] h Q =
    (t_ob r0 = some 7 ∧ AM 101 [.ref r0, .int x1] h (t_ki (fun a1 h1 => (if a1 = (0 : Int32) then AX 3 143 50 [.ref r0, .int x1, .int x2, .int x3, .int x4, .int x5, .float 0, .float 0] [] h1 Q else (t_ob r0 = some 7 ∧ AM 102 [.ref r0, .int x1, .int x2] h1 (t_ki (fun a2 h2 => (if a2 = (0 : Int32) then AX 3 143 50 [.ref r0, .int x1, .int x2, .int x3, .int x4, .int x5, .float 0, .float 0] [] h2 Q else (t_ob r0 = some 7 ∧ AM 102 [.ref r0, .int x1, .int x3] h2 (t_ki (fun a3 h3 => (if a3 = (0 : Int32) then AX 3 143 50 [.ref r0, .int x1, .int x2, .int x3, .int x4, .int x5, .float 0, .float 0] [] h3 Q else (t_ob r0 = some 7 ∧ AM 102 [.ref r0, .int x1, .int x4] h3 (t_ki (fun a4 h4 => (if a4 = (0 : Int32) then AX 3 143 50 [.ref r0, .int x1, .int x2, .int x3, .int x4, .int x5, .float 0, .float 0] [] h4 Q else (t_ob r0 = some 7 ∧ AM 102 [.ref r0, .int x1, .int x5] h4 (t_ki (fun a5 h5 => (if a5 = (0 : Int32) then AX 3 143 50 [.ref r0, .int x1, .int x2, .int x3, .int x4, .int x5, .float 0, .float 0] [] h5 Q else AX 3 143 51 [.ref r0, .int x1, .int x2, .int x3, .int x4, .int x5, .float 0, .float 0] [.int 1] h5 Q)) Q)))) Q)))) Q)))) Q)))) Q)) := by
  rw [e_143_0]
  simp only [e_143_1, e_143_2, e_143_5, e_143_8, e_143_9, e_143_10, e_143_11, e_143_14, e_143_17, e_143_18, e_143_19, e_143_20, e_143_23, e_143_26, e_143_27, e_143_28, e_143_30, e_143_33, e_143_36, e_143_37, e_143_38, e_143_40, e_143_43, e_143_46, e_143_47, true_and, and_true, or_true, true_or]
set_option maxRecDepth 20000 in
theorem s_143_50 (r0 : Nat) (x1 : Int32) (x2 : Int32) (x3 : Int32) (x4 : Int32) (x5 : Int32) (h : tH) (Q : tO → tH → Prop)  :
    AX 3 143 50 [.ref r0, .int x1, .int x2, .int x3, .int x4, .int x5, .float 0, .float 0] [] h Q =
    AX 3 143 51 [.ref r0, .int x1, .int x2, .int x3, .int x4, .int x5, .float 0, .float 0] [.int 0] h Q := by
  rw [e_143_50]
set_option maxRecDepth 20000 in
theorem s_143_51 (r0 : Nat) (x1 : Int32) (x2 : Int32) (x3 : Int32) (x4 : Int32) (x5 : Int32) (u0 : Int32) (h : tH) (Q : tO → tH → Prop)  :
    AX 3 143 51 [.ref r0, .int x1, .int x2, .int x3, .int x4, .int x5, .float 0, .float 0] [.int u0] h Q =
    (t_ob r0 = some 7 ∧ (t_ob r0 = some 7 ∧ (if ¬ ((t_I h r0 0 (if ¬ u0 = (0 : Int32) then (if (if x2 = x3 then (1 : Int32) else (if x2 = x4 then (1 : Int32) else (if x2 = x5 then (1 : Int32) else (if x3 = x4 then (1 : Int32) else (if x3 = x5 then (1 : Int32) else (if ¬ x4 = x5 then (0 : Int32) else 1)))))) = (0 : Int32) then (0 : Int32) else 2) else 1)).1 r0 0) = (0 : Int32) then AX 3 143 144 [.ref r0, .int x1, .int x2, .int x3, .int x4, .int x5, .int u0, .int (if x2 = x3 then (1 : Int32) else (if x2 = x4 then (1 : Int32) else (if x2 = x5 then (1 : Int32) else (if x3 = x4 then (1 : Int32) else (if x3 = x5 then (1 : Int32) else (if ¬ x4 = x5 then (0 : Int32) else 1))))))] [] (t_I h r0 0 (if ¬ u0 = (0 : Int32) then (if (if x2 = x3 then (1 : Int32) else (if x2 = x4 then (1 : Int32) else (if x2 = x5 then (1 : Int32) else (if x3 = x4 then (1 : Int32) else (if x3 = x5 then (1 : Int32) else (if ¬ x4 = x5 then (0 : Int32) else 1)))))) = (0 : Int32) then (0 : Int32) else 2) else 1)) Q else (t_ob r0 = some 7 ∧ AM 142 [.ref r0, .int x1, .int x2, .int x3, .int x4, .int x5] (t_I h r0 0 (if ¬ u0 = (0 : Int32) then (if (if x2 = x3 then (1 : Int32) else (if x2 = x4 then (1 : Int32) else (if x2 = x5 then (1 : Int32) else (if x3 = x4 then (1 : Int32) else (if x3 = x5 then (1 : Int32) else (if ¬ x4 = x5 then (0 : Int32) else 1)))))) = (0 : Int32) then (0 : Int32) else 2) else 1)) (t_ki (fun a1 h1 => (if a1 = (0 : Int32) then AX 3 143 144 [.ref r0, .int x1, .int x2, .int x3, .int x4, .int x5, .int u0, .int (if x2 = x3 then (1 : Int32) else (if x2 = x4 then (1 : Int32) else (if x2 = x5 then (1 : Int32) else (if x3 = x4 then (1 : Int32) else (if x3 = x5 then (1 : Int32) else (if ¬ x4 = x5 then (0 : Int32) else 1))))))] [] h1 Q else AX 3 143 145 [.ref r0, .int x1, .int x2, .int x3, .int x4, .int x5, .int u0, .int (if x2 = x3 then (1 : Int32) else (if x2 = x4 then (1 : Int32) else (if x2 = x5 then (1 : Int32) else (if x3 = x4 then (1 : Int32) else (if x3 = x5 then (1 : Int32) else (if ¬ x4 = x5 then (0 : Int32) else 1))))))] [.int 1] h1 Q)) Q))))) := by
  rw [e_143_51]
  simp only [e_143_53, e_143_54, b_143_55, e_143_94, e_143_96, e_143_97, b_143_99, e_143_116, e_143_119, e_143_120, e_143_123, e_143_126, e_143_127, e_143_128, e_143_129, e_143_130, e_143_132, e_143_134, e_143_137, e_143_140, e_143_141, true_and, and_true, or_true, true_or]
set_option maxRecDepth 20000 in
theorem s_143_144 (r0 : Nat) (x1 : Int32) (x2 : Int32) (x3 : Int32) (x4 : Int32) (x5 : Int32) (x6 : Int32) (x7 : Int32) (h : tH) (Q : tO → tH → Prop)  :
    AX 3 143 144 [.ref r0, .int x1, .int x2, .int x3, .int x4, .int x5, .int x6, .int x7] [] h Q =
    AX 3 143 145 [.ref r0, .int x1, .int x2, .int x3, .int x4, .int x5, .int x6, .int x7] [.int 0] h Q := by
  rw [e_143_144]
set_option maxRecDepth 20000 in
theorem s_143_145 (r0 : Nat) (x1 : Int32) (x2 : Int32) (x3 : Int32) (x4 : Int32) (x5 : Int32) (x6 : Int32) (x7 : Int32) (u0 : Int32) (h : tH) (Q : tO → tH → Prop)  :
    AX 3 143 145 [.ref r0, .int x1, .int x2, .int x3, .int x4, .int x5, .int x6, .int x7] [.int u0] h Q =
    (((u0 : Int32) = 0 ∨ (u0 : Int32) = 1) ∧ Q (.inl (some (.int u0))) h) := by
  rw [e_143_145]
theorem am_143 (r0 : Nat) (x1 : Int32) (x2 : Int32) (x3 : Int32) (x4 : Int32) (x5 : Int32) (h : tH) (Q : tO → tH → Prop) : AM 143 [.ref r0, .int x1, .int x2, .int x3, .int x4, .int x5] h Q = AX 3 143 0 [.ref r0, .int x1, .int x2, .int x3, .int x4, .int x5, .float 0, .float 0] [] h Q := AM_at ta_143 _ _ _
-- X10_segments
theorem b_144_121 (r0 : Nat) (x1 : Int32) (x2 : Int32) (x3 : Int32) (x4 : Int32) (u0 : Int32) (u1 : Int32) (u2 : Int32) (k3 : Nat) (h : tH) (Q : tO → tH → Prop) : AX 3 144 121 [.ref r0, .int x1, .int x2, .int x3, .int x4] [.int u0, .int u1, .int u2, .ref k3] h Q = AX 3 144 132 [.ref r0, .int x1, .int x2, .int x3, .int x4] [.int (if u0 = (0 : Int32) then (0 : Int32) else 1 <<< (x4 &&& 31)), .int u1, .int u2, .ref k3] h Q := by
  simp only [e_144_121, e_144_124, e_144_125, e_144_127, e_144_128, e_144_131]
  repeat' split
  all_goals rfl
set_option maxRecDepth 20000 in
theorem s_144_0 (r0 : Nat) (x1 : Int32) (h : tH) (Q : tO → tH → Prop)  :
    AX 3 144 0 [.ref r0, .int x1, .float 0, .float 0, .float 0] [] h Q =
    AX 3 144 4 [.ref r0, .int x1, .int 0, .int 0, .float 0] [] h Q := by
  rw [e_144_0]
  simp only [e_144_1, e_144_2, e_144_3, true_and, and_true, or_true, true_or]
set_option maxRecDepth 20000 in
theorem s_144_4 (r0 : Nat) (x1 : Int32) (x2 : Int32) (x3 : Int32) (w4 : Value) (h : tH) (Q : tO → tH → Prop)  :
    AX 3 144 4 [.ref r0, .int x1, .int x2, .int x3, w4] [] h Q =
    (t_ob r0 = some 7 ∧ (vp_in x1 7 ∧ (if (h.1 19 x1.toNatClampNeg) ≤ x3 then AX 3 144 62 [.ref r0, .int x1, .int x2, .int 0, w4] [] h Q else AX 3 144 19 [.ref r0, .int x1, .int x2, .int x3, .int (x3 + 1)] [] h Q))) := by
  rw [e_144_4]
  simp only [e_144_5, e_144_6, e_144_9, e_144_10, e_144_11, e_144_60, e_144_61, e_144_14, e_144_15, e_144_16, e_144_17, t_ai_19, true_and, and_true, or_true, true_or]
set_option maxRecDepth 20000 in
theorem s_144_19 (r0 : Nat) (x1 : Int32) (x2 : Int32) (x3 : Int32) (x4 : Int32) (h : tH) (Q : tO → tH → Prop)  :
    AX 3 144 19 [.ref r0, .int x1, .int x2, .int x3, .int x4] [] h Q =
    (t_ob r0 = some 7 ∧ (vp_in x1 7 ∧ (if (h.1 19 x1.toNatClampNeg) ≤ x4 then AX 3 144 4 [.ref r0, .int x1, .int x2, .int (x3 + 1), .int x4] [] h Q else (t_ob r0 = some 7 ∧ (vp_in x2 15 ∧ (t_ob r0 = some 7 ∧ (t_in (t_ai (t_I h 29 x2.toNatClampNeg x3) 30) x2 ∧ AX 3 144 19 [.ref r0, .int x1, .int (x2 + 1), .int x3, .int (x4 + 1)] [] (t_I (t_I h 29 x2.toNatClampNeg x3) 30 x2.toNatClampNeg x4) Q))))))) := by
  rw [e_144_19]
  simp only [e_144_21, e_144_22, e_144_25, e_144_26, e_144_27, e_144_54, e_144_57, e_144_30, e_144_31, e_144_34, e_144_35, e_144_36, e_144_37, e_144_38, e_144_41, e_144_42, e_144_44, e_144_45, e_144_48, e_144_51, t_ai_19, t_ai_29, t_ne_29, t_ne_30, true_and, and_true, or_true, true_or]
set_option maxRecDepth 20000 in
theorem s_144_62 (r0 : Nat) (x1 : Int32) (x2 : Int32) (x3 : Int32) (w4 : Value) (h : tH) (Q : tO → tH → Prop)  :
    AX 3 144 62 [.ref r0, .int x1, .int x2, .int x3, w4] [] h Q =
    (if x2 ≤ x3 then Q (.inl (some (.int x2))) h else (t_ob r0 = some 7 ∧ (vp_in x3 15 ∧ AX 3 144 77 [.ref r0, .int x1, .int x2, .int x3, .int 0] [] (t_I h 31 x3.toNatClampNeg 0) Q))) := by
  rw [e_144_62]
  simp only [e_144_63, e_144_64, e_144_146, e_144_147, e_144_67, e_144_68, e_144_71, e_144_72, e_144_73, e_144_74, e_144_75, t_ai_31, t_ne_31, true_and, and_true, or_true, true_or]
set_option maxRecDepth 20000 in
theorem s_144_77 (r0 : Nat) (x1 : Int32) (x2 : Int32) (x3 : Int32) (x4 : Int32) (h : tH) (Q : tO → tH → Prop)  :
    AX 3 144 77 [.ref r0, .int x1, .int x2, .int x3, .int x4] [] h Q =
    (if x2 ≤ x4 then AX 3 144 62 [.ref r0, .int x1, .int x2, .int (x3 + 1), .int x4] [] h Q else (t_ob r0 = some 7 ∧ (vp_in x3 15 ∧ (t_ob r0 = some 7 ∧ (vp_in x3 15 ∧ (t_ob r0 = some 7 ∧ (vp_in x3 15 ∧ (t_ob r0 = some 7 ∧ (vp_in x4 15 ∧ (t_ob r0 = some 7 ∧ (vp_in x4 15 ∧ (t_ob r0 = some 7 ∧ AM 142 [.ref r0, .int x1, .int (h.1 29 x3.toNatClampNeg), .int (h.1 30 x3.toNatClampNeg), .int (h.1 29 x4.toNatClampNeg), .int (h.1 30 x4.toNatClampNeg)] h (t_ki (fun a1 h1 => (vp_in x3 15 ∧ AX 3 144 77 [.ref r0, .int x1, .int x2, .int x3, .int (x4 + 1)] [] (t_I h1 31 x3.toNatClampNeg ((h.1 31 x3.toNatClampNeg) ||| (if a1 = (0 : Int32) then (0 : Int32) else 1 <<< (x4 &&& 31)))) Q)) Q))))))))))))) := by
  rw [e_144_77]
  simp only [e_144_79, e_144_80, e_144_140, e_144_143, e_144_83, e_144_84, e_144_87, e_144_88, e_144_89, e_144_90, e_144_91, e_144_92, e_144_93, e_144_96, e_144_97, e_144_98, e_144_99, e_144_102, e_144_103, e_144_104, e_144_105, e_144_108, e_144_110, e_144_111, e_144_112, e_144_115, e_144_117, e_144_118, b_144_121, e_144_132, e_144_133, e_144_134, e_144_137, t_ai_29, t_ai_30, t_ai_31, t_ne_31, true_and, and_true, or_true, true_or]
theorem am_144 (r0 : Nat) (x1 : Int32) (h : tH) (Q : tO → tH → Prop) : AM 144 [.ref r0, .int x1] h Q = AX 3 144 0 [.ref r0, .int x1, .float 0, .float 0, .float 0] [] h Q := AM_at ta_144 _ _ _
-- X10_crossings
theorem b_145_6 (r0 : Nat) (x1 : Int32) (u0 : Int32) (k1 : Nat) (h : tH) (Q : tO → tH → Prop) : AX 3 145 6 [.ref r0, .int x1, .float 0, .float 0, .float 0, .float 0, .float 0, .float 0] [.int u0, .ref k1] h Q = AX 3 145 14 [.ref r0, .int x1, .float 0, .float 0, .float 0, .float 0, .float 0, .float 0] [.int (if u0 = (0 : Int32) then (1 : Int32) else 0), .ref k1] h Q := by
  simp only [e_145_6, e_145_9, e_145_10, e_145_13]
  repeat' split
  all_goals rfl
theorem b_145_96 (r0 : Nat) (x1 : Int32) (x2 : Int32) (x3 : Int32) (x4 : Int32) (x5 : Int32) (x6 : Int32) (x7 : Int32) (u0 : Int32) (u1 : Int32) (h : tH) (Q : tO → tH → Prop) : AX 3 145 96 [.ref r0, .int x1, .int x2, .int x3, .int x4, .int x5, .int x6, .int x7] [.int u0, .int u1] h Q = AX 3 145 104 [.ref r0, .int x1, .int x2, .int x3, .int x4, .int x5, .int x6, .int x7] [.int (if u0 = (0 : Int32) then (0 : Int32) else 1), .int u1] h Q := by
  simp only [e_145_96, e_145_99, e_145_100, e_145_103]
  repeat' split
  all_goals rfl
set_option maxRecDepth 20000 in
theorem s_145_0 (r0 : Nat) (x1 : Int32) (h : tH) (Q : tO → tH → Prop)  :
    AX 3 145 0 [.ref r0, .int x1, .float 0, .float 0, .float 0, .float 0, .float 0, .float 0] [] h Q =
    (t_ob r0 = some 7 ∧ AM 101 [.ref r0, .int x1] h (t_ki (fun a1 h1 => (t_ob r0 = some 7 ∧ (t_ob r0 = some 7 ∧ (if ((t_I h1 r0 0 (if a1 = (0 : Int32) then (1 : Int32) else 0)).1 r0 0) ≤ (0 : Int32) then (t_ob r0 = some 7 ∧ (t_in (t_ai (t_I h1 r0 0 (if a1 = (0 : Int32) then (1 : Int32) else 0)) 19) x1 ∧ AX 3 145 36 [.ref r0, .int x1, .int 0, .float 0, .float 0, .float 0, .float 0, .float 0] [.int ((t_I h1 r0 0 (if a1 = (0 : Int32) then (1 : Int32) else 0)).1 19 x1.toNatClampNeg)] (t_I h1 r0 0 (if a1 = (0 : Int32) then (1 : Int32) else 0)) Q)) else AX 3 145 36 [.ref r0, .int x1, .int 0, .float 0, .float 0, .float 0, .float 0, .float 0] [.int 0] (t_I h1 r0 0 (if a1 = (0 : Int32) then (1 : Int32) else 0)) Q)))) Q)) := by
  rw [e_145_0]
  simp only [e_145_1, e_145_2, e_145_3, b_145_6, e_145_14, e_145_17, e_145_18, e_145_19, e_145_20, e_145_23, e_145_30, e_145_31, e_145_34, e_145_35, e_145_26, e_145_27, true_and, and_true, or_true, true_or]
set_option maxRecDepth 20000 in
theorem s_145_36 (r0 : Nat) (x1 : Int32) (x2 : Int32) (u0 : Int32) (h : tH) (Q : tO → tH → Prop)  :
    AX 3 145 36 [.ref r0, .int x1, .int x2, .float 0, .float 0, .float 0, .float 0, .float 0] [.int u0] h Q =
    AX 3 145 40 [.ref r0, .int x1, .int x2, .int u0, .int 0, .float 0, .float 0, .float 0] [] h Q := by
  rw [e_145_36]
  simp only [e_145_37, e_145_38, true_and, and_true, or_true, true_or]
set_option maxRecDepth 20000 in
theorem s_145_40 (r0 : Nat) (x1 : Int32) (x2 : Int32) (x3 : Int32) (x4 : Int32) (w5 : Value) (w6 : Value) (w7 : Value) (h : tH) (Q : tO → tH → Prop)  :
    AX 3 145 40 [.ref r0, .int x1, .int x2, .int x3, .int x4, w5, w6, w7] [] h Q =
    (if x3 ≤ x4 then Q (.inl (some (.int x2))) h else AX 3 145 52 [.ref r0, .int x1, .int x2, .int x3, .int x4, .int (x4 + 1), w6, w7] [] h Q) := by
  rw [e_145_40]
  simp only [e_145_42, e_145_43, e_145_130, e_145_131, e_145_46, e_145_48, e_145_49, e_145_50, true_and, and_true, or_true, true_or]
set_option maxRecDepth 20000 in
theorem s_145_52 (r0 : Nat) (x1 : Int32) (x2 : Int32) (x3 : Int32) (x4 : Int32) (x5 : Int32) (w6 : Value) (w7 : Value) (h : tH) (Q : tO → tH → Prop)  :
    AX 3 145 52 [.ref r0, .int x1, .int x2, .int x3, .int x4, .int x5, w6, w7] [] h Q =
    (if x3 ≤ x5 then AX 3 145 40 [.ref r0, .int x1, .int x2, .int x3, .int (x4 + 1), .int x5, w6, w7] [] h Q else AX 3 145 64 [.ref r0, .int x1, .int x2, .int x3, .int x4, .int x5, .int (x4 + 1), w7] [] h Q) := by
  rw [e_145_52]
  simp only [e_145_54, e_145_55, e_145_124, e_145_127, e_145_58, e_145_60, e_145_61, e_145_62, true_and, and_true, or_true, true_or]
set_option maxRecDepth 20000 in
theorem s_145_64 (r0 : Nat) (x1 : Int32) (x2 : Int32) (x3 : Int32) (x4 : Int32) (x5 : Int32) (x6 : Int32) (w7 : Value) (h : tH) (Q : tO → tH → Prop)  :
    AX 3 145 64 [.ref r0, .int x1, .int x2, .int x3, .int x4, .int x5, .int x6, w7] [] h Q =
    (if x3 ≤ x6 then AX 3 145 52 [.ref r0, .int x1, .int x2, .int x3, .int x4, .int (x5 + 1), .int x6, w7] [] h Q else AX 3 145 76 [.ref r0, .int x1, .int x2, .int x3, .int x4, .int x5, .int x6, .int (x6 + 1)] [] h Q) := by
  rw [e_145_64]
  simp only [e_145_66, e_145_67, e_145_118, e_145_121, e_145_70, e_145_72, e_145_73, e_145_74, true_and, and_true, or_true, true_or]
set_option maxRecDepth 20000 in
theorem s_145_76 (r0 : Nat) (x1 : Int32) (x2 : Int32) (x3 : Int32) (x4 : Int32) (x5 : Int32) (x6 : Int32) (x7 : Int32) (h : tH) (Q : tO → tH → Prop)  :
    AX 3 145 76 [.ref r0, .int x1, .int x2, .int x3, .int x4, .int x5, .int x6, .int x7] [] h Q =
    (if x3 ≤ x7 then AX 3 145 64 [.ref r0, .int x1, .int x2, .int x3, .int x4, .int x5, .int (x6 + 1), .int x7] [] h Q else (t_ob r0 = some 7 ∧ AM 142 [.ref r0, .int x1, .int x4, .int x5, .int x6, .int x7] h (t_ki (fun a1 h1 => AX 3 145 76 [.ref r0, .int x1, .int (x2 + (if a1 = (0 : Int32) then (0 : Int32) else 1)), .int x3, .int x4, .int x5, .int x6, .int (x7 + 1)] [] h1 Q) Q))) := by
  rw [e_145_76]
  simp only [e_145_78, e_145_79, e_145_112, e_145_115, e_145_82, e_145_83, e_145_84, e_145_85, e_145_87, e_145_89, e_145_91, e_145_93, b_145_96, e_145_104, e_145_105, e_145_106, e_145_109, true_and, and_true, or_true, true_or]
theorem am_145 (r0 : Nat) (x1 : Int32) (h : tH) (Q : tO → tH → Prop) : AM 145 [.ref r0, .int x1] h Q = AX 3 145 0 [.ref r0, .int x1, .float 0, .float 0, .float 0, .float 0, .float 0, .float 0] [] h Q := AM_at ta_145 _ _ _
-- X10_isEmpty
theorem b_146_20 (r0 : Nat) (x1 : Int32) (x2 : Int32) (x3 : Int32) (x4 : Int32) (x5 : Int32) (x6 : Int32) (w7 : Value) (u0 : Int32) (u1 : Int32) (h : tH) (Q : tO → tH → Prop) : AX 2 146 20 [.ref r0, .int x1, .int x2, .int x3, .int x4, .int x5, .int x6, w7] [.int u0, .int u1] h Q = AX 2 146 41 [.ref r0, .int x1, .int x2, .int x3, .int x4, .int x5, .int x6, w7] [.int (if u1 = u0 then (0 : Int32) else (if x6 = x3 then (0 : Int32) else (if x6 = x4 then (0 : Int32) else 1)))] h Q := by
  simp only [e_146_20, e_146_23, e_146_25, e_146_26, e_146_29, e_146_31, e_146_33, e_146_36, e_146_37, e_146_40]
  repeat' split
  all_goals rfl
set_option maxRecDepth 20000 in
theorem s_146_0 (r0 : Nat) (x1 : Int32) (x2 : Int32) (x3 : Int32) (x4 : Int32) (h : tH) (Q : tO → tH → Prop)  :
    AX 2 146 0 [.ref r0, .int x1, .int x2, .int x3, .int x4, .float 0, .float 0, .float 0] [] h Q =
    AX 2 146 6 [.ref r0, .int x1, .int x2, .int x3, .int x4, .int 1, .int 0, .float 0] [] h Q := by
  rw [e_146_0]
  simp only [e_146_1, e_146_3, e_146_4, true_and, and_true, or_true, true_or]
set_option maxRecDepth 20000 in
theorem s_146_6 (r0 : Nat) (x1 : Int32) (x2 : Int32) (x3 : Int32) (x4 : Int32) (x5 : Int32) (x6 : Int32) (w7 : Value) (h : tH) (Q : tO → tH → Prop)  :
    AX 2 146 6 [.ref r0, .int x1, .int x2, .int x3, .int x4, .int x5, .int x6, w7] [] h Q =
    (t_ob r0 = some 7 ∧ (vp_in x1 7 ∧ (if (h.1 19 x1.toNatClampNeg) ≤ x6 then (((x5 : Int32) = 0 ∨ (x5 : Int32) = 1) ∧ Q (.inl (some (.int x5))) h) else (if x5 = (0 : Int32) then AX 2 146 92 [.ref r0, .int x1, .int x2, .int x3, .int x4, .int x5, .int x6, .int (if x6 = x2 then (0 : Int32) else (if x6 = x3 then (0 : Int32) else (if x6 = x4 then (0 : Int32) else 1)))] [] h Q else (if ((if x6 = x2 then (0 : Int32) else (if x6 = x3 then (0 : Int32) else (if x6 = x4 then (0 : Int32) else 1))) : Int32) = (0 : Int32) then AX 2 146 88 [.ref r0, .int x1, .int x2, .int x3, .int x4, .int x5, .int x6, .int (if x6 = x2 then (0 : Int32) else (if x6 = x3 then (0 : Int32) else (if x6 = x4 then (0 : Int32) else 1)))] [] h Q else (t_ob r0 = some 7 ∧ AM 104 [.ref r0, .int x1, .int x2, .int x3, .int x6] h (t_ki (fun a1 h1 => (t_ob r0 = some 7 ∧ AM 104 [.ref r0, .int x1, .int x3, .int x4, .int x6] h1 (t_ki (fun a2 h2 => (t_ob r0 = some 7 ∧ AM 104 [.ref r0, .int x1, .int x4, .int x2, .int x6] h2 (t_ki (fun a3 h3 => AM 106 [.int a1, .int a2, .int a3] h3 (t_ki (fun a4 h4 => (if ¬ a4 = (0 : Int32) then AX 2 146 92 [.ref r0, .int x1, .int x2, .int x3, .int x4, .int x5, .int x6, .int (if x6 = x2 then (0 : Int32) else (if x6 = x3 then (0 : Int32) else (if x6 = x4 then (0 : Int32) else 1)))] [] h4 Q else AX 2 146 88 [.ref r0, .int x1, .int x2, .int x3, .int x4, .int x5, .int x6, .int (if x6 = x2 then (0 : Int32) else (if x6 = x3 then (0 : Int32) else (if x6 = x4 then (0 : Int32) else 1)))] [] h4 Q)) Q)) Q))) Q))) Q))))))) := by
  rw [e_146_6]
  simp only [e_146_8, e_146_9, e_146_12, e_146_13, e_146_14, e_146_101, e_146_103, e_146_17, e_146_19, b_146_20, e_146_41, e_146_43, e_146_45, e_146_48, e_146_50, e_146_53, e_146_54, e_146_55, e_146_56, e_146_57, e_146_59, e_146_62, e_146_63, e_146_64, e_146_65, e_146_67, e_146_69, e_146_72, e_146_73, e_146_74, e_146_76, e_146_77, e_146_79, e_146_82, e_146_85, t_ai_19, true_and, and_true, or_true, true_or]
set_option maxRecDepth 20000 in
theorem s_146_88 (r0 : Nat) (x1 : Int32) (x2 : Int32) (x3 : Int32) (x4 : Int32) (x5 : Int32) (x6 : Int32) (x7 : Int32) (h : tH) (Q : tO → tH → Prop)  :
    AX 2 146 88 [.ref r0, .int x1, .int x2, .int x3, .int x4, .int x5, .int x6, .int x7] [] h Q =
    AX 2 146 93 [.ref r0, .int x1, .int x2, .int x3, .int x4, .int x5, .int x6, .int x7] [.int 1] h Q := by
  rw [e_146_88]
  simp only [e_146_89, true_and, and_true, or_true, true_or]
set_option maxRecDepth 20000 in
theorem s_146_92 (r0 : Nat) (x1 : Int32) (x2 : Int32) (x3 : Int32) (x4 : Int32) (x5 : Int32) (x6 : Int32) (x7 : Int32) (h : tH) (Q : tO → tH → Prop)  :
    AX 2 146 92 [.ref r0, .int x1, .int x2, .int x3, .int x4, .int x5, .int x6, .int x7] [] h Q =
    AX 2 146 93 [.ref r0, .int x1, .int x2, .int x3, .int x4, .int x5, .int x6, .int x7] [.int 0] h Q := by
  rw [e_146_92]
set_option maxRecDepth 20000 in
theorem s_146_93 (r0 : Nat) (x1 : Int32) (x2 : Int32) (x3 : Int32) (x4 : Int32) (x5 : Int32) (x6 : Int32) (x7 : Int32) (u0 : Int32) (h : tH) (Q : tO → tH → Prop)  :
    AX 2 146 93 [.ref r0, .int x1, .int x2, .int x3, .int x4, .int x5, .int x6, .int x7] [.int u0] h Q =
    AX 2 146 6 [.ref r0, .int x1, .int x2, .int x3, .int x4, .int u0, .int (x6 + 1), .int x7] [] h Q := by
  rw [e_146_93]
  simp only [e_146_95, e_146_98, true_and, and_true, or_true, true_or]
theorem am_146 (r0 : Nat) (x1 : Int32) (x2 : Int32) (x3 : Int32) (x4 : Int32) (h : tH) (Q : tO → tH → Prop) : AM 146 [.ref r0, .int x1, .int x2, .int x3, .int x4] h Q = AX 2 146 0 [.ref r0, .int x1, .int x2, .int x3, .int x4, .float 0, .float 0, .float 0] [] h Q := AM_at ta_146 _ _ _
-- X10_empties
theorem b_147_6 (r0 : Nat) (x1 : Int32) (u0 : Int32) (k1 : Nat) (h : tH) (Q : tO → tH → Prop) : AX 3 147 6 [.ref r0, .int x1, .float 0, .float 0, .float 0, .float 0, .float 0] [.int u0, .ref k1] h Q = AX 3 147 14 [.ref r0, .int x1, .float 0, .float 0, .float 0, .float 0, .float 0] [.int (if u0 = (0 : Int32) then (1 : Int32) else 0), .ref k1] h Q := by
  simp only [e_147_6, e_147_9, e_147_10, e_147_13]
  repeat' split
  all_goals rfl
theorem b_147_82 (r0 : Nat) (x1 : Int32) (x2 : Int32) (x3 : Int32) (x4 : Int32) (x5 : Int32) (x6 : Int32) (u0 : Int32) (u1 : Int32) (h : tH) (Q : tO → tH → Prop) : AX 3 147 82 [.ref r0, .int x1, .int x2, .int x3, .int x4, .int x5, .int x6] [.int u0, .int u1] h Q = AX 3 147 90 [.ref r0, .int x1, .int x2, .int x3, .int x4, .int x5, .int x6] [.int (if u0 = (0 : Int32) then (0 : Int32) else 1), .int u1] h Q := by
  simp only [e_147_82, e_147_85, e_147_86, e_147_89]
  repeat' split
  all_goals rfl
set_option maxRecDepth 20000 in
theorem s_147_0 (r0 : Nat) (x1 : Int32) (h : tH) (Q : tO → tH → Prop)  :
    AX 3 147 0 [.ref r0, .int x1, .float 0, .float 0, .float 0, .float 0, .float 0] [] h Q =
    (t_ob r0 = some 7 ∧ AM 101 [.ref r0, .int x1] h (t_ki (fun a1 h1 => (t_ob r0 = some 7 ∧ (t_ob r0 = some 7 ∧ (if ((t_I h1 r0 0 (if a1 = (0 : Int32) then (1 : Int32) else 0)).1 r0 0) ≤ (0 : Int32) then (t_ob r0 = some 7 ∧ (t_in (t_ai (t_I h1 r0 0 (if a1 = (0 : Int32) then (1 : Int32) else 0)) 19) x1 ∧ AX 3 147 36 [.ref r0, .int x1, .int 0, .float 0, .float 0, .float 0, .float 0] [.int ((t_I h1 r0 0 (if a1 = (0 : Int32) then (1 : Int32) else 0)).1 19 x1.toNatClampNeg)] (t_I h1 r0 0 (if a1 = (0 : Int32) then (1 : Int32) else 0)) Q)) else AX 3 147 36 [.ref r0, .int x1, .int 0, .float 0, .float 0, .float 0, .float 0] [.int 0] (t_I h1 r0 0 (if a1 = (0 : Int32) then (1 : Int32) else 0)) Q)))) Q)) := by
  rw [e_147_0]
  simp only [e_147_1, e_147_2, e_147_3, b_147_6, e_147_14, e_147_17, e_147_18, e_147_19, e_147_20, e_147_23, e_147_30, e_147_31, e_147_34, e_147_35, e_147_26, e_147_27, true_and, and_true, or_true, true_or]
set_option maxRecDepth 20000 in
theorem s_147_36 (r0 : Nat) (x1 : Int32) (x2 : Int32) (u0 : Int32) (h : tH) (Q : tO → tH → Prop)  :
    AX 3 147 36 [.ref r0, .int x1, .int x2, .float 0, .float 0, .float 0, .float 0] [.int u0] h Q =
    AX 3 147 40 [.ref r0, .int x1, .int x2, .int u0, .int 0, .float 0, .float 0] [] h Q := by
  rw [e_147_36]
  simp only [e_147_37, e_147_38, true_and, and_true, or_true, true_or]
set_option maxRecDepth 20000 in
theorem s_147_40 (r0 : Nat) (x1 : Int32) (x2 : Int32) (x3 : Int32) (x4 : Int32) (w5 : Value) (w6 : Value) (h : tH) (Q : tO → tH → Prop)  :
    AX 3 147 40 [.ref r0, .int x1, .int x2, .int x3, .int x4, w5, w6] [] h Q =
    (if x3 ≤ x4 then Q (.inl (some (.int x2))) h else AX 3 147 52 [.ref r0, .int x1, .int x2, .int x3, .int x4, .int (x4 + 1), w6] [] h Q) := by
  rw [e_147_40]
  simp only [e_147_42, e_147_43, e_147_110, e_147_111, e_147_46, e_147_48, e_147_49, e_147_50, true_and, and_true, or_true, true_or]
set_option maxRecDepth 20000 in
theorem s_147_52 (r0 : Nat) (x1 : Int32) (x2 : Int32) (x3 : Int32) (x4 : Int32) (x5 : Int32) (w6 : Value) (h : tH) (Q : tO → tH → Prop)  :
    AX 3 147 52 [.ref r0, .int x1, .int x2, .int x3, .int x4, .int x5, w6] [] h Q =
    (if x3 ≤ x5 then AX 3 147 40 [.ref r0, .int x1, .int x2, .int x3, .int (x4 + 1), .int x5, w6] [] h Q else AX 3 147 64 [.ref r0, .int x1, .int x2, .int x3, .int x4, .int x5, .int (x5 + 1)] [] h Q) := by
  rw [e_147_52]
  simp only [e_147_54, e_147_55, e_147_104, e_147_107, e_147_58, e_147_60, e_147_61, e_147_62, true_and, and_true, or_true, true_or]
set_option maxRecDepth 20000 in
theorem s_147_64 (r0 : Nat) (x1 : Int32) (x2 : Int32) (x3 : Int32) (x4 : Int32) (x5 : Int32) (x6 : Int32) (h : tH) (Q : tO → tH → Prop)  :
    AX 3 147 64 [.ref r0, .int x1, .int x2, .int x3, .int x4, .int x5, .int x6] [] h Q =
    (if x3 ≤ x6 then AX 3 147 52 [.ref r0, .int x1, .int x2, .int x3, .int x4, .int (x5 + 1), .int x6] [] h Q else (t_ob r0 = some 7 ∧ AM 146 [.ref r0, .int x1, .int x4, .int x5, .int x6] h (t_ki (fun a1 h1 => AX 3 147 64 [.ref r0, .int x1, .int (x2 + (if a1 = (0 : Int32) then (0 : Int32) else 1)), .int x3, .int x4, .int x5, .int (x6 + 1)] [] h1 Q) Q))) := by
  rw [e_147_64]
  simp only [e_147_66, e_147_67, e_147_98, e_147_101, e_147_70, e_147_71, e_147_72, e_147_73, e_147_75, e_147_77, e_147_79, b_147_82, e_147_90, e_147_91, e_147_92, e_147_95, true_and, and_true, or_true, true_or]
theorem am_147 (r0 : Nat) (x1 : Int32) (h : tH) (Q : tO → tH → Prop) : AM 147 [.ref r0, .int x1] h Q = AX 3 147 0 [.ref r0, .int x1, .float 0, .float 0, .float 0, .float 0, .float 0] [] h Q := AM_at ta_147 _ _ _
-- X10_levelOf
theorem b_148_32 (r0 : Nat) (x1 : Int32) (x2 : Int32) (x3 : Int32) (x4 : Int32) (x5 : Int32) (x6 : Int32) (u0 : Int32) (u1 : Int32) (u2 : Int32) (h : tH) (Q : tO → tH → Prop) : AX 2 148 32 [.ref r0, .int x1, .int x2, .int x3, .int x4, .int x5, .int x6] [.int u0, .int u1, .int u2] h Q = AX 2 148 40 [.ref r0, .int x1, .int x2, .int x3, .int x4, .int x5, .int x6] [.int (if ¬ u1 = u0 then (0 : Int32) else 1), .int u2] h Q := by
  simp only [e_148_32, e_148_35, e_148_36, e_148_39]
  repeat' split
  all_goals rfl
theorem b_148_55 (r0 : Nat) (x1 : Int32) (x2 : Int32) (x3 : Int32) (x4 : Int32) (x5 : Int32) (x6 : Int32) (u0 : Int32) (u1 : Int32) (u2 : Int32) (h : tH) (Q : tO → tH → Prop) : AX 2 148 55 [.ref r0, .int x1, .int x2, .int x3, .int x4, .int x5, .int x6] [.int u0, .int u1, .int u2] h Q = AX 2 148 63 [.ref r0, .int x1, .int x2, .int x3, .int x4, .int x5, .int x6] [.int (if ¬ u1 = u0 then (0 : Int32) else 1), .int u2] h Q := by
  simp only [e_148_55, e_148_58, e_148_59, e_148_62]
  repeat' split
  all_goals rfl
theorem b_148_76 (r0 : Nat) (x1 : Int32) (x2 : Int32) (x3 : Int32) (x4 : Int32) (x5 : Int32) (x6 : Int32) (u0 : Int32) (u1 : Int32) (h : tH) (Q : tO → tH → Prop) : AX 2 148 76 [.ref r0, .int x1, .int x2, .int x3, .int x4, .int x5, .int x6] [.int u0, .int u1] h Q = AX 2 148 86 [.ref r0, .int x1, .int x2, .int x3, .int x4, .int x5, .int x6] [.int (if u0 ≤ u1 then x5 else x4)] h Q := by
  simp only [e_148_76, e_148_79, e_148_81, e_148_84]
  repeat' split
  all_goals rfl
set_option maxRecDepth 20000 in
theorem s_148_0 (r0 : Nat) (x1 : Int32) (x2 : Int32) (x3 : Int32) (h : tH) (Q : tO → tH → Prop)  :
    AX 2 148 0 [.ref r0, .int x1, .int x2, .int x3, .float 0, .float 0, .float 0] [] h Q =
    AX 2 148 9 [.ref r0, .int x1, .int x2, .int x3, .int 0, .int 0, .int 0] [] h Q := by
  rw [e_148_0]
  simp only [e_148_1, e_148_3, e_148_4, e_148_6, e_148_7, true_and, and_true, or_true, true_or]
set_option maxRecDepth 20000 in
theorem s_148_9 (r0 : Nat) (x1 : Int32) (x2 : Int32) (x3 : Int32) (x4 : Int32) (x5 : Int32) (x6 : Int32) (h : tH) (Q : tO → tH → Prop)  :
    AX 2 148 9 [.ref r0, .int x1, .int x2, .int x3, .int x4, .int x5, .int x6] [] h Q =
    (t_ob r0 = some 7 ∧ (vp_in x1 7 ∧ (if (h.1 19 x1.toNatClampNeg) ≤ x6 then Q (.inl (some (.int (if x5 ≤ x4 then x5 else x4)))) h else (t_ob r0 = some 7 ∧ AM 104 [.ref r0, .int x1, .int x2, .int x3, .int x6] h (t_ki (fun a1 h1 => (t_ob r0 = some 7 ∧ AM 104 [.ref r0, .int x1, .int x2, .int x3, .int x6] h1 (t_ki (fun a2 h2 => AX 2 148 9 [.ref r0, .int x1, .int x2, .int x3, .int (x4 + (if ¬ a1 = 1 then (0 : Int32) else 1)), .int (x5 + (if ¬ a2 = (-1) then (0 : Int32) else 1)), .int (x6 + 1)] [] h2 Q) Q))) Q))))) := by
  rw [e_148_9]
  simp only [e_148_11, e_148_12, e_148_15, e_148_16, e_148_17, e_148_72, e_148_74, b_148_76, e_148_86, e_148_20, e_148_22, e_148_23, e_148_24, e_148_25, e_148_26, e_148_28, e_148_31, b_148_32, e_148_40, e_148_41, e_148_43, e_148_45, e_148_46, e_148_47, e_148_48, e_148_49, e_148_51, e_148_54, b_148_55, e_148_63, e_148_64, e_148_66, e_148_69, t_ai_19, true_and, and_true, or_true, true_or]
theorem am_148 (r0 : Nat) (x1 : Int32) (x2 : Int32) (x3 : Int32) (h : tH) (Q : tO → tH → Prop) : AM 148 [.ref r0, .int x1, .int x2, .int x3] h Q = AX 2 148 0 [.ref r0, .int x1, .int x2, .int x3, .float 0, .float 0, .float 0] [] h Q := AM_at ta_148 _ _ _
-- X10_level
theorem b_149_19 (r0 : Nat) (x1 : Int32) (x2 : Int32) (u0 : Int32) (k1 : Nat) (h : tH) (Q : tO → tH → Prop) : AX 3 149 19 [.ref r0, .int x1, .int x2, .float 0, .float 0, .float 0, .float 0] [.int u0, .ref k1] h Q = AX 3 149 27 [.ref r0, .int x1, .int x2, .float 0, .float 0, .float 0, .float 0] [.int (if ¬ u0 = (0 : Int32) then (0 : Int32) else 2), .ref k1] h Q := by
  simp only [e_149_19, e_149_22, e_149_23, e_149_26]
  repeat' split
  all_goals rfl
theorem b_149_85 (r0 : Nat) (x1 : Int32) (x2 : Int32) (x3 : Int32) (x4 : Int32) (x5 : Int32) (x6 : Int32) (u0 : Int32) (u1 : Int32) (u2 : Int32) (h : tH) (Q : tO → tH → Prop) : AX 3 149 85 [.ref r0, .int x1, .int x2, .int x3, .int x4, .int x5, .int x6] [.int u0, .int u1, .int u2] h Q = AX 3 149 93 [.ref r0, .int x1, .int x2, .int x3, .int x4, .int x5, .int x6] [.int (if ¬ u1 = u0 then (0 : Int32) else 1), .int u2] h Q := by
  simp only [e_149_85, e_149_88, e_149_89, e_149_92]
  repeat' split
  all_goals rfl
set_option maxRecDepth 20000 in
theorem s_149_0 (r0 : Nat) (x1 : Int32) (x2 : Int32) (h : tH) (Q : tO → tH → Prop)  :
    AX 3 149 0 [.ref r0, .int x1, .int x2, .float 0, .float 0, .float 0, .float 0] [] h Q =
    (t_ob r0 = some 7 ∧ AM 101 [.ref r0, .int x1] h (t_ki (fun a1 h1 => (if ¬ a1 = (0 : Int32) then AM 100 [.int x2, .int 0, .int 2] h1 (t_ki (fun a2 h2 => AX 3 149 27 [.ref r0, .int x1, .int x2, .float 0, .float 0, .float 0, .float 0] [.int (if ¬ a2 = (0 : Int32) then (0 : Int32) else 2), .ref r0] h2 Q) Q) else AX 3 149 27 [.ref r0, .int x1, .int x2, .float 0, .float 0, .float 0, .float 0] [.int 1, .ref r0] h1 Q)) Q)) := by
  rw [e_149_0]
  simp only [e_149_1, e_149_2, e_149_3, e_149_6, e_149_13, e_149_14, e_149_15, e_149_16, b_149_19, e_149_9, e_149_10, true_and, and_true, or_true, true_or]
set_option maxRecDepth 20000 in
theorem s_149_27 (r0 : Nat) (x1 : Int32) (x2 : Int32) (u0 : Int32) (k1 : Nat) (h : tH) (Q : tO → tH → Prop)  :
    AX 3 149 27 [.ref r0, .int x1, .int x2, .float 0, .float 0, .float 0, .float 0] [.int u0, .ref k1] h Q =
    (t_ob k1 = some 7 ∧ (t_ob r0 = some 7 ∧ (if ((t_I h k1 0 u0).1 r0 0) ≤ (0 : Int32) then (t_ob r0 = some 7 ∧ (t_in (t_ai (t_I h k1 0 u0) 19) x1 ∧ AX 3 149 49 [.ref r0, .int x1, .int x2, .int 0, .float 0, .float 0, .float 0] [.int ((t_I h k1 0 u0).1 19 x1.toNatClampNeg)] (t_I h k1 0 u0) Q)) else AX 3 149 49 [.ref r0, .int x1, .int x2, .int 0, .float 0, .float 0, .float 0] [.int 0] (t_I h k1 0 u0) Q))) := by
  rw [e_149_27]
  simp only [e_149_30, e_149_31, e_149_32, e_149_33, e_149_36, e_149_43, e_149_44, e_149_47, e_149_48, e_149_39, e_149_40, true_and, and_true, or_true, true_or]
set_option maxRecDepth 20000 in
theorem s_149_49 (r0 : Nat) (x1 : Int32) (x2 : Int32) (x3 : Int32) (u0 : Int32) (h : tH) (Q : tO → tH → Prop)  :
    AX 3 149 49 [.ref r0, .int x1, .int x2, .int x3, .float 0, .float 0, .float 0] [.int u0] h Q =
    AX 3 149 54 [.ref r0, .int x1, .int x2, .int x3, .int u0, .int 0, .float 0] [] h Q := by
  rw [e_149_49]
  simp only [e_149_51, e_149_52, true_and, and_true, or_true, true_or]
set_option maxRecDepth 20000 in
theorem s_149_54 (r0 : Nat) (x1 : Int32) (x2 : Int32) (x3 : Int32) (x4 : Int32) (x5 : Int32) (w6 : Value) (h : tH) (Q : tO → tH → Prop)  :
    AX 3 149 54 [.ref r0, .int x1, .int x2, .int x3, .int x4, .int x5, w6] [] h Q =
    (if x4 ≤ x5 then Q (.inl (some (.int x3))) h else AX 3 149 67 [.ref r0, .int x1, .int x2, .int x3, .int x4, .int x5, .int (x5 + 1)] [] h Q) := by
  rw [e_149_54]
  simp only [e_149_56, e_149_58, e_149_107, e_149_108, e_149_61, e_149_63, e_149_64, e_149_65, true_and, and_true, or_true, true_or]
set_option maxRecDepth 20000 in
theorem s_149_67 (r0 : Nat) (x1 : Int32) (x2 : Int32) (x3 : Int32) (x4 : Int32) (x5 : Int32) (x6 : Int32) (h : tH) (Q : tO → tH → Prop)  :
    AX 3 149 67 [.ref r0, .int x1, .int x2, .int x3, .int x4, .int x5, .int x6] [] h Q =
    (if x4 ≤ x6 then AX 3 149 54 [.ref r0, .int x1, .int x2, .int x3, .int x4, .int (x5 + 1), .int x6] [] h Q else (t_ob r0 = some 7 ∧ AM 148 [.ref r0, .int x1, .int x5, .int x6] h (t_ki (fun a1 h1 => AX 3 149 67 [.ref r0, .int x1, .int x2, .int (x3 + (if ¬ a1 = x2 then (0 : Int32) else 1)), .int x4, .int x5, .int (x6 + 1)] [] h1 Q) Q))) := by
  rw [e_149_67]
  simp only [e_149_69, e_149_71, e_149_101, e_149_104, e_149_74, e_149_75, e_149_76, e_149_77, e_149_79, e_149_81, e_149_84, b_149_85, e_149_93, e_149_94, e_149_95, e_149_98, true_and, and_true, or_true, true_or]
theorem am_149 (r0 : Nat) (x1 : Int32) (x2 : Int32) (h : tH) (Q : tO → tH → Prop) : AM 149 [.ref r0, .int x1, .int x2] h Q = AX 3 149 0 [.ref r0, .int x1, .int x2, .float 0, .float 0, .float 0, .float 0] [] h Q := AM_at ta_149 _ _ _
-- X10_takes
set_option maxRecDepth 20000 in
theorem s_150_0 (r0 : Nat) (x1 : Int32) (h : tH) (Q : tO → tH → Prop)  :
    AX 0 150 0 [.ref r0, .int x1, .float 0, .float 0] [] h Q =
    AX 0 150 4 [.ref r0, .int x1, .int x1, .int 0] [] h Q := by
  rw [e_150_0]
  simp only [e_150_1, e_150_2, e_150_3, true_and, and_true, or_true, true_or]
set_option maxRecDepth 20000 in
theorem s_150_4 (r0 : Nat) (x1 : Int32) (x2 : Int32) (x3 : Int32) (h : tH) (Q : tO → tH → Prop)  :
    AX 0 150 4 [.ref r0, .int x1, .int x2, .int x3] [] h Q =
    (if (7 : Int32) ≤ x3 then Q (.inl (some (.int (-1)))) h else (t_ob r0 = some 7 ∧ (vp_in x3 7 ∧ (if (h.1 27 x3.toNatClampNeg) = (0 : Int32) then AX 0 150 35 [.ref r0, .int x1, .int x2, .int x3] [] h Q else (if ¬ x2 = (0 : Int32) then AX 0 150 35 [.ref r0, .int x1, .int (x2 + Int32.ofInt (-1)), .int x3] [] h Q else (t_ob r0 = some 7 ∧ (vp_in x3 7 ∧ (0 = 0 ∨ 0 = 1) ∧ Q (.inl (some (.int x3))) (t_I h 27 x3.toNatClampNeg 0)))))))) := by
  rw [e_150_4]
  simp only [e_150_5, e_150_7, e_150_41, e_150_42, e_150_10, e_150_11, e_150_14, e_150_15, e_150_16, e_150_19, e_150_20, e_150_32, e_150_23, e_150_24, e_150_27, e_150_28, e_150_29, e_150_30, e_150_31, t_bo_27, true_and, and_true, or_true, true_or]
set_option maxRecDepth 20000 in
theorem s_150_35 (r0 : Nat) (x1 : Int32) (x2 : Int32) (x3 : Int32) (h : tH) (Q : tO → tH → Prop)  :
    AX 0 150 35 [.ref r0, .int x1, .int x2, .int x3] [] h Q =
    AX 0 150 4 [.ref r0, .int x1, .int x2, .int (x3 + 1)] [] h Q := by
  rw [e_150_35]
  simp only [e_150_38, true_and, and_true, or_true, true_or]
theorem am_150 (r0 : Nat) (x1 : Int32) (h : tH) (Q : tO → tH → Prop) : AM 150 [.ref r0, .int x1] h Q = AX 0 150 0 [.ref r0, .int x1, .float 0, .float 0] [] h Q := AM_at ta_150 _ _ _
-- X10_leaves
theorem b_151_19 (r0 : Nat) (x1 : Int32) (x2 : Int32) (u0 : Int32) (u1 : Int32) (u2 : Int32) (k3 : Nat) (h : tH) (Q : tO → tH → Prop) : AX 0 151 19 [.ref r0, .int x1, .int x2] [.int u0, .int u1, .int u2, .ref k3] h Q = AX 0 151 27 [.ref r0, .int x1, .int x2] [.int (if ¬ u1 = u0 then (0 : Int32) else 1), .int u2, .ref k3] h Q := by
  simp only [e_151_19, e_151_22, e_151_23, e_151_26]
  repeat' split
  all_goals rfl
set_option maxRecDepth 20000 in
theorem s_151_0 (r0 : Nat) (x1 : Int32) (h : tH) (Q : tO → tH → Prop)  :
    AX 0 151 0 [.ref r0, .int x1, .float 0] [] h Q =
    AX 0 151 2 [.ref r0, .int x1, .int 0] [] h Q := by
  rw [e_151_0]
  simp only [e_151_1, true_and, and_true, or_true, true_or]
set_option maxRecDepth 20000 in
theorem s_151_2 (r0 : Nat) (x1 : Int32) (x2 : Int32) (h : tH) (Q : tO → tH → Prop)  :
    AX 0 151 2 [.ref r0, .int x1, .int x2] [] h Q =
    (if (7 : Int32) ≤ x2 then Q (.inl none) h else (t_ob r0 = some 7 ∧ (vp_in x2 7 ∧ ((if ¬ ((x1 >>> (x2 &&& 31)) &&& 1) = 1 then (0 : Int32) else 1) = 0 ∨ (if ¬ ((x1 >>> (x2 &&& 31)) &&& 1) = 1 then (0 : Int32) else 1) = 1) ∧ AX 0 151 2 [.ref r0, .int x1, .int (x2 + 1)] [] (t_I h 27 x2.toNatClampNeg (if ¬ ((x1 >>> (x2 &&& 31)) &&& 1) = 1 then (0 : Int32) else 1)) Q))) := by
  rw [e_151_2]
  simp only [e_151_3, e_151_5, e_151_34, e_151_8, e_151_9, e_151_12, e_151_13, e_151_14, e_151_15, e_151_16, e_151_17, e_151_18, b_151_19, e_151_27, e_151_28, e_151_31, t_bo_27, true_and, and_true, or_true, true_or]
theorem am_151 (r0 : Nat) (x1 : Int32) (h : tH) (Q : tO → tH → Prop) : AM 151 [.ref r0, .int x1] h Q = AX 0 151 0 [.ref r0, .int x1, .float 0] [] h Q := AM_at ta_151 _ _ _
-- X10_crossesAhead
set_option maxRecDepth 20000 in
theorem s_152_0 (r0 : Nat) (x1 : Int32) (x2 : Int32) (h : tH) (Q : tO → tH → Prop)  :
    AX 3 152 0 [.ref r0, .int x1, .int x2, .float 0, .float 0] [] h Q =
    AX 3 152 5 [.ref r0, .int x1, .int x2, .int 0, .int 0] [] h Q := by
  rw [e_152_0]
  simp only [e_152_1, e_152_2, e_152_3, true_and, and_true, or_true, true_or]
set_option maxRecDepth 20000 in
theorem s_152_5 (r0 : Nat) (x1 : Int32) (x2 : Int32) (x3 : Int32) (x4 : Int32) (h : tH) (Q : tO → tH → Prop)  :
    AX 3 152 5 [.ref r0, .int x1, .int x2, .int x3, .int x4] [] h Q =
    (if x2 ≤ x4 then AX 3 152 65 [.ref r0, .int x1, .int x2, .int x3, .int x4] [] h Q else (if ¬ x3 = (0 : Int32) then AX 3 152 65 [.ref r0, .int x1, .int x2, .int x3, .int x4] [] h Q else (t_ob r0 = some 7 ∧ (vp_in (2 * x4) 14 ∧ (t_ob r0 = some 7 ∧ (vp_in ((2 * x4) + 1) 14 ∧ (t_ob r0 = some 7 ∧ (vp_in (2 * x2) 14 ∧ (t_ob r0 = some 7 ∧ (vp_in ((2 * x2) + 1) 14 ∧ (t_ob r0 = some 7 ∧ AM 142 [.ref r0, .int x1, .int (h.1 28 (2 * x4).toNatClampNeg), .int (h.1 28 ((2 * x4) + 1).toNatClampNeg), .int (h.1 28 (2 * x2).toNatClampNeg), .int (h.1 28 ((2 * x2) + 1).toNatClampNeg)] h (t_ki (fun a1 h1 => AX 3 152 5 [.ref r0, .int x1, .int x2, .int a1, .int (x4 + 1)] [] h1 Q) Q)))))))))))) := by
  rw [e_152_5]
  simp only [e_152_7, e_152_8, e_152_11, e_152_12, e_152_15, e_152_16, e_152_17, e_152_18, e_152_21, e_152_22, e_152_24, e_152_25, e_152_26, e_152_27, e_152_30, e_152_31, e_152_33, e_152_34, e_152_35, e_152_36, e_152_37, e_152_38, e_152_41, e_152_42, e_152_43, e_152_44, e_152_45, e_152_46, e_152_49, e_152_50, e_152_51, e_152_52, e_152_53, e_152_54, e_152_55, e_152_58, e_152_59, e_152_62, t_ai_28, true_and, and_true, or_true, true_or]
set_option maxRecDepth 20000 in
theorem s_152_65 (r0 : Nat) (x1 : Int32) (x2 : Int32) (x3 : Int32) (x4 : Int32) (h : tH) (Q : tO → tH → Prop)  :
    AX 3 152 65 [.ref r0, .int x1, .int x2, .int x3, .int x4] [] h Q =
    (((x3 : Int32) = 0 ∨ (x3 : Int32) = 1) ∧ Q (.inl (some (.int x3))) h) := by
  rw [e_152_65]
  simp only [e_152_66, true_and, and_true, or_true, true_or]
theorem am_152 (r0 : Nat) (x1 : Int32) (x2 : Int32) (h : tH) (Q : tO → tH → Prop) : AM 152 [.ref r0, .int x1, .int x2] h Q = AX 3 152 0 [.ref r0, .int x1, .int x2, .float 0, .float 0] [] h Q := AM_at ta_152 _ _ _
-- X10_isPlaneMatching
set_option maxRecDepth 20000 in
theorem s_153_0 (r0 : Nat) (x1 : Int32) (x2 : Int32) (x3 : Int32) (h : tH) (Q : tO → tH → Prop)  :
    AX 4 153 0 [.ref r0, .int x1, .int x2, .int x3, .float 0, .float 0, .float 0, .float 0, .float 0] [] h Q =
    (t_ob r0 = some 7 ∧ AM 151 [.ref r0, .int x2] h (t_kv (fun h1 => AM 138 [.int x2] h1 (t_ki (fun a2 h2 => AX 4 153 20 [.ref r0, .int x1, .int x2, .int x3, .int a2, .int x3, .int 1, .int 0, .float 0] [] h2 Q) Q)) Q)) := by
  rw [e_153_0]
  simp only [e_153_1, e_153_2, e_153_5, e_153_6, e_153_9, e_153_11, e_153_12, e_153_14, e_153_15, e_153_17, e_153_18, true_and, and_true, or_true, true_or]
set_option maxRecDepth 20000 in
theorem s_153_20 (r0 : Nat) (x1 : Int32) (x2 : Int32) (x3 : Int32) (x4 : Int32) (x5 : Int32) (x6 : Int32) (x7 : Int32) (w8 : Value) (h : tH) (Q : tO → tH → Prop)  :
    AX 4 153 20 [.ref r0, .int x1, .int x2, .int x3, .int x4, .int x5, .int x6, .int x7, w8] [] h Q =
    (if (x4 / 2) ≤ x7 then (((x6 : Int32) = 0 ∨ (x6 : Int32) = 1) ∧ Q (.inl (some (.int x6))) h) else (t_ob r0 = some 7 ∧ (t_ob r0 = some 7 ∧ AM 150 [.ref r0, .int 0] h (t_ki (fun a1 h1 => (vp_in (2 * x7) 14 ∧ (t_ob r0 = some 7 ∧ (¬ ((x4 - (2 * x7)) - 1) = 0 ∧ (t_ob r0 = some 7 ∧ AM 150 [.ref r0, .int (x5 - x5 / ((x4 - (2 * x7)) - 1) * ((x4 - (2 * x7)) - 1))] (t_I h1 28 (2 * x7).toNatClampNeg a1) (t_ki (fun a2 h2 => (vp_in ((2 * x7) + 1) 14 ∧ (¬ ((x4 - (2 * x7)) - 1) = 0 ∧ (if x6 = (0 : Int32) then AX 4 153 100 [.ref r0, .int x1, .int x2, .int x3, .int x4, .int (x5 / ((x4 - (2 * x7)) - 1)), .int x6, .int x7, .int ((x4 - (2 * x7)) - 1)] [] (t_I h2 28 ((2 * x7) + 1).toNatClampNeg a2) Q else (t_ob r0 = some 7 ∧ AM 152 [.ref r0, .int x1, .int x7] (t_I h2 28 ((2 * x7) + 1).toNatClampNeg a2) (t_ki (fun a3 h3 => (if ¬ a3 = (0 : Int32) then AX 4 153 100 [.ref r0, .int x1, .int x2, .int x3, .int x4, .int (x5 / ((x4 - (2 * x7)) - 1)), .int x6, .int x7, .int ((x4 - (2 * x7)) - 1)] [] h3 Q else AX 4 153 101 [.ref r0, .int x1, .int x2, .int x3, .int x4, .int (x5 / ((x4 - (2 * x7)) - 1)), .int x6, .int x7, .int ((x4 - (2 * x7)) - 1)] [.int 1] h3 Q)) Q)))))) Q)))))) Q)))) := by
  rw [e_153_20]
  simp only [e_153_22, e_153_24, e_153_25, e_153_26, e_153_109, e_153_111, e_153_29, e_153_31, e_153_32, e_153_34, e_153_35, e_153_36, e_153_37, e_153_38, e_153_40, e_153_41, e_153_44, e_153_45, e_153_47, e_153_48, e_153_49, e_153_50, e_153_53, e_153_54, e_153_55, e_153_58, e_153_59, e_153_61, e_153_62, e_153_63, e_153_64, e_153_65, e_153_67, e_153_69, e_153_70, e_153_73, e_153_74, e_153_76, e_153_78, e_153_79, e_153_81, e_153_83, e_153_86, e_153_87, e_153_88, e_153_90, e_153_93, e_153_96, e_153_97, t_ai_28, t_ai_d2, t_ne_28, true_and, and_true, or_true, true_or]
set_option maxRecDepth 20000 in
theorem s_153_100 (r0 : Nat) (x1 : Int32) (x2 : Int32) (x3 : Int32) (x4 : Int32) (x5 : Int32) (x6 : Int32) (x7 : Int32) (x8 : Int32) (h : tH) (Q : tO → tH → Prop)  :
    AX 4 153 100 [.ref r0, .int x1, .int x2, .int x3, .int x4, .int x5, .int x6, .int x7, .int x8] [] h Q =
    AX 4 153 101 [.ref r0, .int x1, .int x2, .int x3, .int x4, .int x5, .int x6, .int x7, .int x8] [.int 0] h Q := by
  rw [e_153_100]
set_option maxRecDepth 20000 in
theorem s_153_101 (r0 : Nat) (x1 : Int32) (x2 : Int32) (x3 : Int32) (x4 : Int32) (x5 : Int32) (x6 : Int32) (x7 : Int32) (x8 : Int32) (u0 : Int32) (h : tH) (Q : tO → tH → Prop)  :
    AX 4 153 101 [.ref r0, .int x1, .int x2, .int x3, .int x4, .int x5, .int x6, .int x7, .int x8] [.int u0] h Q =
    AX 4 153 20 [.ref r0, .int x1, .int x2, .int x3, .int x4, .int x5, .int u0, .int (x7 + 1), .int x8] [] h Q := by
  rw [e_153_101]
  simp only [e_153_103, e_153_106, true_and, and_true, or_true, true_or]
theorem am_153 (r0 : Nat) (x1 : Int32) (x2 : Int32) (x3 : Int32) (h : tH) (Q : tO → tH → Prop) : AM 153 [.ref r0, .int x1, .int x2, .int x3] h Q = AX 4 153 0 [.ref r0, .int x1, .int x2, .int x3, .float 0, .float 0, .float 0, .float 0, .float 0] [] h Q := AM_at ta_153 _ _ _
-- X10_matchings
theorem b_154_108 (r0 : Nat) (x1 : Int32) (x2 : Int32) (x3 : Int32) (x4 : Int32) (x5 : Int32) (x6 : Int32) (u0 : Int32) (u1 : Int32) (h : tH) (Q : tO → tH → Prop) : AX 5 154 108 [.ref r0, .int x1, .int x2, .int x3, .int x4, .int x5, .int x6] [.int u0, .int u1] h Q = AX 5 154 116 [.ref r0, .int x1, .int x2, .int x3, .int x4, .int x5, .int x6] [.int (if u0 = (0 : Int32) then (0 : Int32) else 1), .int u1] h Q := by
  simp only [e_154_108, e_154_111, e_154_112, e_154_115]
  repeat' split
  all_goals rfl
set_option maxRecDepth 20000 in
theorem s_154_0 (r0 : Nat) (x1 : Int32) (x2 : Int32) (h : tH) (Q : tO → tH → Prop)  :
    AX 5 154 0 [.ref r0, .int x1, .int x2, .float 0, .float 0, .float 0, .float 0] [] h Q =
    (t_ob r0 = some 7 ∧ AM 101 [.ref r0, .int x1] h (t_ki (fun a1 h1 => (if ¬ a1 = (0 : Int32) then (if x2 < (0 : Int32) then AX 5 154 28 [.ref r0, .int x1, .int x2, .int a1, .float 0, .float 0, .float 0] [.ref r0] h1 Q else (t_ob r0 = some 7 ∧ AM 139 [.ref r0, .int x1] h1 (t_ki (fun a2 h2 => (if x2 ≤ a2 then AX 5 154 33 [.ref r0, .int x1, .int x2, .int a1, .float 0, .float 0, .float 0] [.int 0, .ref r0] h2 Q else AX 5 154 28 [.ref r0, .int x1, .int x2, .int a1, .float 0, .float 0, .float 0] [.ref r0] h2 Q)) Q))) else AX 5 154 33 [.ref r0, .int x1, .int x2, .int a1, .float 0, .float 0, .float 0] [.int 1, .ref r0] h1 Q)) Q)) := by
  rw [e_154_0]
  simp only [e_154_1, e_154_2, e_154_5, e_154_6, e_154_7, e_154_8, e_154_15, e_154_16, e_154_19, e_154_20, e_154_21, e_154_22, e_154_25, e_154_32, e_154_11, e_154_12, true_and, and_true, or_true, true_or]
set_option maxRecDepth 20000 in
theorem s_154_28 (r0 : Nat) (x1 : Int32) (x2 : Int32) (x3 : Int32) (k0 : Nat) (h : tH) (Q : tO → tH → Prop)  :
    AX 5 154 28 [.ref r0, .int x1, .int x2, .int x3, .float 0, .float 0, .float 0] [.ref k0] h Q =
    AX 5 154 33 [.ref r0, .int x1, .int x2, .int x3, .float 0, .float 0, .float 0] [.int 2, .ref k0] h Q := by
  rw [e_154_28]
  simp only [e_154_29, true_and, and_true, or_true, true_or]
set_option maxRecDepth 20000 in
theorem s_154_33 (r0 : Nat) (x1 : Int32) (x2 : Int32) (x3 : Int32) (u0 : Int32) (k1 : Nat) (h : tH) (Q : tO → tH → Prop)  :
    AX 5 154 33 [.ref r0, .int x1, .int x2, .int x3, .float 0, .float 0, .float 0] [.int u0, .ref k1] h Q =
    (t_ob k1 = some 7 ∧ (t_ob r0 = some 7 ∧ (if (0 : Int32) < ((t_I h k1 0 u0).1 r0 0) then AX 5 154 53 [.ref r0, .int x1, .int x2, .int x3, .float 0, .float 0, .float 0] [] (t_I h k1 0 u0) Q else AM 138 [.int x2] (t_I h k1 0 u0) (t_ki (fun a1 h1 => (if ¬ (a1 - a1 / 2 * 2) = (1 : Int32) then AM 138 [.int x2] h1 (t_ki (fun a2 h2 => AX 5 154 66 [.ref r0, .int x1, .int x2, .int x3, .int 1, .int (a2 - 1), .float 0] [] h2 Q) Q) else AX 5 154 53 [.ref r0, .int x1, .int x2, .int x3, .float 0, .float 0, .float 0] [] h1 Q)) Q)))) := by
  rw [e_154_33]
  simp only [e_154_36, e_154_37, e_154_40, e_154_43, e_154_44, e_154_47, e_154_48, e_154_49, e_154_50, e_154_55, e_154_56, e_154_58, e_154_59, e_154_62, e_154_63, e_154_64, t_ai_d2, true_and, and_true, or_true, true_or]
set_option maxRecDepth 20000 in
theorem s_154_53 (r0 : Nat) (x1 : Int32) (x2 : Int32) (x3 : Int32) (h : tH) (Q : tO → tH → Prop)  :
    AX 5 154 53 [.ref r0, .int x1, .int x2, .int x3, .float 0, .float 0, .float 0] [] h Q =
    Q (.inl (some (.int 0))) h := by
  rw [e_154_53]
  simp only [e_154_54, true_and, and_true, or_true, true_or]
set_option maxRecDepth 20000 in
theorem s_154_66 (r0 : Nat) (x1 : Int32) (x2 : Int32) (x3 : Int32) (x4 : Int32) (x5 : Int32) (h : tH) (Q : tO → tH → Prop)  :
    AX 5 154 66 [.ref r0, .int x1, .int x2, .int x3, .int x4, .int x5, .float 0] [] h Q =
    (if x5 ≤ (1 : Int32) then AX 5 154 91 [.ref r0, .int x1, .int x2, .int x3, .int x4, .int 0, .int 0] [] h Q else AX 5 154 66 [.ref r0, .int x1, .int x2, .int x3, .int (x4 * x5), .int (x5 + Int32.ofInt (-2)), .float 0] [] h Q) := by
  rw [e_154_66]
  simp only [e_154_68, e_154_69, e_154_85, e_154_86, e_154_88, e_154_89, e_154_72, e_154_74, e_154_76, e_154_77, e_154_79, e_154_82, true_and, and_true, or_true, true_or]
set_option maxRecDepth 20000 in
theorem s_154_91 (r0 : Nat) (x1 : Int32) (x2 : Int32) (x3 : Int32) (x4 : Int32) (x5 : Int32) (x6 : Int32) (h : tH) (Q : tO → tH → Prop)  :
    AX 5 154 91 [.ref r0, .int x1, .int x2, .int x3, .int x4, .int x5, .int x6] [] h Q =
    (if x4 ≤ x6 then Q (.inl (some (.int x5))) h else (t_ob r0 = some 7 ∧ AM 153 [.ref r0, .int x1, .int x2, .int x6] h (t_ki (fun a1 h1 => AX 5 154 91 [.ref r0, .int x1, .int x2, .int x3, .int x4, .int (x5 + (if a1 = (0 : Int32) then (0 : Int32) else 1)), .int (x6 + 1)] [] h1 Q) Q))) := by
  rw [e_154_91]
  simp only [e_154_93, e_154_95, e_154_125, e_154_127, e_154_98, e_154_100, e_154_101, e_154_102, e_154_103, e_154_105, b_154_108, e_154_116, e_154_117, e_154_119, e_154_122, true_and, and_true, or_true, true_or]
theorem am_154 (r0 : Nat) (x1 : Int32) (x2 : Int32) (h : tH) (Q : tO → tH → Prop) : AM 154 [.ref r0, .int x1, .int x2] h Q = AX 5 154 0 [.ref r0, .int x1, .int x2, .float 0, .float 0, .float 0, .float 0] [] h Q := AM_at ta_154 _ _ _
-- X10_factorial
set_option maxRecDepth 20000 in
theorem s_155_0 (x0 : Int32) (h : tH) (Q : tO → tH → Prop)  :
    AX 0 155 0 [.int x0, .float 0, .float 0] [] h Q =
    AX 0 155 4 [.int x0, .int 1, .int 2] [] h Q := by
  rw [e_155_0]
  simp only [e_155_1, e_155_2, e_155_3, true_and, and_true, or_true, true_or]
set_option maxRecDepth 20000 in
theorem s_155_4 (x0 : Int32) (x1 : Int32) (x2 : Int32) (h : tH) (Q : tO → tH → Prop)  :
    AX 0 155 4 [.int x0, .int x1, .int x2] [] h Q =
    (if x0 < x2 then Q (.inl (some (.int x1))) h else AX 0 155 4 [.int x0, .int (x1 * x2), .int (x2 + 1)] [] h Q) := by
  rw [e_155_4]
  simp only [e_155_5, e_155_6, e_155_19, e_155_20, e_155_9, e_155_10, e_155_11, e_155_12, e_155_13, e_155_16, true_and, and_true, or_true, true_or]
theorem am_155 (x0 : Int32) (h : tH) (Q : tO → tH → Prop) : AM 155 [.int x0] h Q = AX 0 155 0 [.int x0, .float 0, .float 0] [] h Q := AM_at ta_155 _ _ _
-- X10_orders
set_option maxRecDepth 20000 in
theorem s_156_0 (r0 : Nat) (x1 : Int32) (x2 : Int32) (h : tH) (Q : tO → tH → Prop)  :
    AX 1 156 0 [.ref r0, .int x1, .int x2, .float 0, .float 0, .float 0] [] h Q =
    (t_ob r0 = some 7 ∧ AM 139 [.ref r0, .int x1] h (t_ki (fun a1 h1 => (t_ob r0 = some 7 ∧ AM 151 [.ref r0, .int a1] h1 (t_kv (fun h2 => AX 1 156 14 [.ref r0, .int x1, .int x2, .int x2, .int 0, .float 0] [] h2 Q) Q))) Q)) := by
  rw [e_156_0]
  simp only [e_156_1, e_156_2, e_156_3, e_156_6, e_156_9, e_156_10, e_156_11, e_156_12, true_and, and_true, or_true, true_or]
set_option maxRecDepth 20000 in
theorem s_156_14 (r0 : Nat) (x1 : Int32) (x2 : Int32) (x3 : Int32) (x4 : Int32) (w5 : Value) (h : tH) (Q : tO → tH → Prop)  :
    AX 1 156 14 [.ref r0, .int x1, .int x2, .int x3, .int x4, w5] [] h Q =
    (t_ob r0 = some 7 ∧ (vp_in x1 7 ∧ (if (h.1 19 x1.toNatClampNeg) ≤ x4 then Q (.inl none) h else (t_ob r0 = some 7 ∧ (vp_in x1 7 ∧ (t_ob r0 = some 7 ∧ (¬ ((h.1 19 x1.toNatClampNeg) - x4) = 0 ∧ (t_ob r0 = some 7 ∧ AM 150 [.ref r0, .int (x3 - x3 / ((h.1 19 x1.toNatClampNeg) - x4) * ((h.1 19 x1.toNatClampNeg) - x4))] h (t_ki (fun a1 h1 => (vp_in x4 7 ∧ (¬ ((h.1 19 x1.toNatClampNeg) - x4) = 0 ∧ AX 1 156 14 [.ref r0, .int x1, .int x2, .int (x3 / ((h.1 19 x1.toNatClampNeg) - x4)), .int (x4 + 1), .int ((h.1 19 x1.toNatClampNeg) - x4)] [] (t_I h1 26 x4.toNatClampNeg a1) Q))) Q))))))))) := by
  rw [e_156_14]
  simp only [e_156_16, e_156_17, e_156_20, e_156_21, e_156_22, e_156_62, e_156_25, e_156_26, e_156_29, e_156_30, e_156_31, e_156_33, e_156_34, e_156_36, e_156_37, e_156_40, e_156_42, e_156_43, e_156_44, e_156_46, e_156_47, e_156_50, e_156_51, e_156_52, e_156_54, e_156_55, e_156_56, e_156_59, t_ai_19, t_ai_26, t_ne_26, true_and, and_true, or_true, true_or]
theorem am_156 (r0 : Nat) (x1 : Int32) (x2 : Int32) (h : tH) (Q : tO → tH → Prop) : AM 156 [.ref r0, .int x1, .int x2] h Q = AX 1 156 0 [.ref r0, .int x1, .int x2, .float 0, .float 0, .float 0] [] h Q := AM_at ta_156 _ _ _
-- X10_isPlanePath
theorem b_157_58 (r0 : Nat) (x1 : Int32) (x2 : Int32) (x3 : Int32) (u0 : Int32) (h : tH) (Q : tO → tH → Prop) : AX 4 157 58 [.ref r0, .int x1, .int x2, .int x3] [.int u0] h Q = AX 4 157 66 [.ref r0, .int x1, .int x2, .int x3] [.int (if ¬ u0 = (0 : Int32) then (0 : Int32) else 1)] h Q := by
  simp only [e_157_58, e_157_61, e_157_62, e_157_65]
  repeat' split
  all_goals rfl
set_option maxRecDepth 20000 in
theorem s_157_0 (r0 : Nat) (x1 : Int32) (h : tH) (Q : tO → tH → Prop)  :
    AX 4 157 0 [.ref r0, .int x1, .float 0, .float 0] [] h Q =
    AX 4 157 4 [.ref r0, .int x1, .int 1, .int 0] [] h Q := by
  rw [e_157_0]
  simp only [e_157_1, e_157_2, e_157_3, true_and, and_true, or_true, true_or]
set_option maxRecDepth 20000 in
theorem s_157_4 (r0 : Nat) (x1 : Int32) (x2 : Int32) (x3 : Int32) (h : tH) (Q : tO → tH → Prop)  :
    AX 4 157 4 [.ref r0, .int x1, .int x2, .int x3] [] h Q =
    (t_ob r0 = some 7 ∧ (vp_in x1 7 ∧ (if (h.1 19 x1.toNatClampNeg) ≤ (x3 + 1) then AX 4 157 73 [.ref r0, .int x1, .int x2, .int x3] [] h Q else (if x2 = (0 : Int32) then AX 4 157 73 [.ref r0, .int x1, .int x2, .int x3] [] h Q else (t_ob r0 = some 7 ∧ (t_ob r0 = some 7 ∧ (vp_in x3 7 ∧ (vp_in (2 * x3) 14 ∧ (t_ob r0 = some 7 ∧ (t_ob r0 = some 7 ∧ (t_in (t_ai (t_I h 28 (2 * x3).toNatClampNeg (h.1 26 x3.toNatClampNeg)) 26) (x3 + 1) ∧ (t_in (t_ai (t_I h 28 (2 * x3).toNatClampNeg (h.1 26 x3.toNatClampNeg)) 28) ((2 * x3) + 1) ∧ (t_ob r0 = some 7 ∧ AM 152 [.ref r0, .int x1, .int x3] (t_I (t_I h 28 (2 * x3).toNatClampNeg (h.1 26 x3.toNatClampNeg)) 28 ((2 * x3) + 1).toNatClampNeg ((t_I h 28 (2 * x3).toNatClampNeg (h.1 26 x3.toNatClampNeg)).1 26 (x3 + 1).toNatClampNeg)) (t_ki (fun a1 h1 => AX 4 157 4 [.ref r0, .int x1, .int (if ¬ a1 = (0 : Int32) then (0 : Int32) else 1), .int (x3 + 1)] [] h1 Q) Q)))))))))))))) := by
  rw [e_157_4]
  simp only [e_157_5, e_157_6, e_157_7, e_157_8, e_157_11, e_157_12, e_157_13, e_157_16, e_157_17, e_157_20, e_157_21, e_157_24, e_157_25, e_157_26, e_157_27, e_157_28, e_157_31, e_157_32, e_157_33, e_157_34, e_157_35, e_157_38, e_157_39, e_157_40, e_157_41, e_157_42, e_157_43, e_157_44, e_157_47, e_157_48, e_157_49, e_157_50, e_157_51, e_157_52, e_157_53, e_157_54, e_157_55, b_157_58, e_157_66, e_157_67, e_157_70, t_ai_19, t_ai_26, t_ai_28, t_ne_28, true_and, and_true, or_true, true_or]
set_option maxRecDepth 20000 in
theorem s_157_73 (r0 : Nat) (x1 : Int32) (x2 : Int32) (x3 : Int32) (h : tH) (Q : tO → tH → Prop)  :
    AX 4 157 73 [.ref r0, .int x1, .int x2, .int x3] [] h Q =
    (((x2 : Int32) = 0 ∨ (x2 : Int32) = 1) ∧ Q (.inl (some (.int x2))) h) := by
  rw [e_157_73]
  simp only [e_157_74, true_and, and_true, or_true, true_or]
theorem am_157 (r0 : Nat) (x1 : Int32) (h : tH) (Q : tO → tH → Prop) : AM 157 [.ref r0, .int x1] h Q = AX 4 157 0 [.ref r0, .int x1, .float 0, .float 0] [] h Q := AM_at ta_157 _ _ _
-- X10_paths
theorem b_158_6 (r0 : Nat) (x1 : Int32) (u0 : Int32) (k1 : Nat) (h : tH) (Q : tO → tH → Prop) : AX 5 158 6 [.ref r0, .int x1, .float 0, .float 0, .float 0] [.int u0, .ref k1] h Q = AX 5 158 14 [.ref r0, .int x1, .float 0, .float 0, .float 0] [.int (if u0 = (0 : Int32) then (1 : Int32) else 0), .ref k1] h Q := by
  simp only [e_158_6, e_158_9, e_158_10, e_158_13]
  repeat' split
  all_goals rfl
theorem b_158_62 (r0 : Nat) (x1 : Int32) (x2 : Int32) (x3 : Int32) (x4 : Int32) (u0 : Int32) (u1 : Int32) (h : tH) (Q : tO → tH → Prop) : AX 5 158 62 [.ref r0, .int x1, .int x2, .int x3, .int x4] [.int u0, .int u1] h Q = AX 5 158 70 [.ref r0, .int x1, .int x2, .int x3, .int x4] [.int (if u0 = (0 : Int32) then (0 : Int32) else 1), .int u1] h Q := by
  simp only [e_158_62, e_158_65, e_158_66, e_158_69]
  repeat' split
  all_goals rfl
set_option maxRecDepth 20000 in
theorem s_158_0 (r0 : Nat) (x1 : Int32) (h : tH) (Q : tO → tH → Prop)  :
    AX 5 158 0 [.ref r0, .int x1, .float 0, .float 0, .float 0] [] h Q =
    (t_ob r0 = some 7 ∧ AM 101 [.ref r0, .int x1] h (t_ki (fun a1 h1 => (t_ob r0 = some 7 ∧ (t_ob r0 = some 7 ∧ (if ((t_I h1 r0 0 (if a1 = (0 : Int32) then (1 : Int32) else 0)).1 r0 0) ≤ (0 : Int32) then (t_ob r0 = some 7 ∧ (t_in (t_ai (t_I h1 r0 0 (if a1 = (0 : Int32) then (1 : Int32) else 0)) 19) x1 ∧ AM 155 [.int ((t_I h1 r0 0 (if a1 = (0 : Int32) then (1 : Int32) else 0)).1 19 x1.toNatClampNeg)] (t_I h1 r0 0 (if a1 = (0 : Int32) then (1 : Int32) else 0)) (t_ki (fun a2 h2 => AX 5 158 37 [.ref r0, .int x1, .float 0, .float 0, .float 0] [.int a2] h2 Q) Q))) else AX 5 158 37 [.ref r0, .int x1, .float 0, .float 0, .float 0] [.int 0] (t_I h1 r0 0 (if a1 = (0 : Int32) then (1 : Int32) else 0)) Q)))) Q)) := by
  rw [e_158_0]
  simp only [e_158_1, e_158_2, e_158_3, b_158_6, e_158_14, e_158_17, e_158_18, e_158_21, e_158_28, e_158_29, e_158_32, e_158_33, e_158_34, e_158_24, e_158_25, true_and, and_true, or_true, true_or]
set_option maxRecDepth 20000 in
theorem s_158_37 (r0 : Nat) (x1 : Int32) (u0 : Int32) (h : tH) (Q : tO → tH → Prop)  :
    AX 5 158 37 [.ref r0, .int x1, .float 0, .float 0, .float 0] [.int u0] h Q =
    AX 5 158 43 [.ref r0, .int x1, .int u0, .int 0, .int 0] [] h Q := by
  rw [e_158_37]
  simp only [e_158_38, e_158_39, e_158_40, e_158_41, true_and, and_true, or_true, true_or]
set_option maxRecDepth 20000 in
theorem s_158_43 (r0 : Nat) (x1 : Int32) (x2 : Int32) (x3 : Int32) (x4 : Int32) (h : tH) (Q : tO → tH → Prop)  :
    AX 5 158 43 [.ref r0, .int x1, .int x2, .int x3, .int x4] [] h Q =
    (if x2 ≤ x4 then Q (.inl (some (.int (x3 / 2)))) h else (t_ob r0 = some 7 ∧ AM 156 [.ref r0, .int x1, .int x4] h (t_kv (fun h1 => (t_ob r0 = some 7 ∧ AM 157 [.ref r0, .int x1] h1 (t_ki (fun a2 h2 => AX 5 158 43 [.ref r0, .int x1, .int x2, .int (x3 + (if a2 = (0 : Int32) then (0 : Int32) else 1)), .int (x4 + 1)] [] h2 Q) Q))) Q))) := by
  rw [e_158_43]
  simp only [e_158_45, e_158_46, e_158_78, e_158_79, e_158_80, e_158_81, e_158_49, e_158_50, e_158_51, e_158_53, e_158_56, e_158_57, e_158_58, e_158_59, b_158_62, e_158_70, e_158_71, e_158_72, e_158_75, t_ai_d2, true_and, and_true, or_true, true_or]
theorem am_158 (r0 : Nat) (x1 : Int32) (h : tH) (Q : tO → tH → Prop) : AM 158 [.ref r0, .int x1] h Q = AX 5 158 0 [.ref r0, .int x1, .float 0, .float 0, .float 0] [] h Q := AM_at ta_158 _ _ _
-- X10_extensions
theorem b_159_22 (r0 : Nat) (x1 : Int32) (x2 : Int32) (u0 : Int32) (u1 : Int32) (k2 : Nat) (h : tH) (Q : tO → tH → Prop) : AX 5 159 22 [.ref r0, .int x1, .int x2, .float 0, .float 0, .float 0, .float 0, .float 0, .float 0] [.int u0, .int u1, .ref k2] h Q = AX 5 159 30 [.ref r0, .int x1, .int x2, .float 0, .float 0, .float 0, .float 0, .float 0, .float 0] [.int (if u1 ≤ u0 then (0 : Int32) else 2), .ref k2] h Q := by
  simp only [e_159_22, e_159_25, e_159_26, e_159_29]
  repeat' split
  all_goals rfl
theorem b_159_160 (r0 : Nat) (x1 : Int32) (x2 : Int32) (x3 : Int32) (x4 : Int32) (x5 : Int32) (x6 : Int32) (x7 : Int32) (x8 : Int32) (u0 : Int32) (u1 : Int32) (u2 : Int32) (u3 : Int32) (u4 : Int32) (u5 : Int32) (k6 : Nat) (h : tH) (Q : tO → tH → Prop) : AX 5 159 160 [.ref r0, .int x1, .int x2, .int x3, .int x4, .int x5, .int x6, .int x7, .int x8] [.int u0, .int u1, .int u2, .int u3, .int u4, .int u5, .ref k6] h Q = AX 5 159 168 [.ref r0, .int x1, .int x2, .int x3, .int x4, .int x5, .int x6, .int x7, .int x8] [.int (if ¬ u1 = u0 then ((-1) : Int32) else 1), .int u2, .int u3, .int u4, .int u5, .ref k6] h Q := by
  simp only [e_159_160, e_159_163, e_159_164, e_159_167]
  repeat' split
  all_goals rfl
theorem b_159_194 (r0 : Nat) (x1 : Int32) (x2 : Int32) (x3 : Int32) (x4 : Int32) (x5 : Int32) (x6 : Int32) (x7 : Int32) (w8 : Value) (u0 : Int32) (u1 : Int32) (h : tH) (Q : tO → tH → Prop) : AX 5 159 194 [.ref r0, .int x1, .int x2, .int x3, .int x4, .int x5, .int x6, .int x7, w8] [.int u0, .int u1] h Q = AX 5 159 202 [.ref r0, .int x1, .int x2, .int x3, .int x4, .int x5, .int x6, .int x7, w8] [.int (if u0 = (0 : Int32) then (0 : Int32) else 1), .int u1] h Q := by
  simp only [e_159_194, e_159_197, e_159_198, e_159_201]
  repeat' split
  all_goals rfl
set_option maxRecDepth 20000 in
theorem s_159_0 (r0 : Nat) (x1 : Int32) (h : tH) (Q : tO → tH → Prop)  :
    AX 5 159 0 [.ref r0, .int x1, .float 0, .float 0, .float 0, .float 0, .float 0, .float 0, .float 0] [] h Q =
    (t_ob r0 = some 7 ∧ AM 101 [.ref r0, .int x1] h (t_ki (fun a1 h1 => (if ¬ a1 = (0 : Int32) then (t_ob r0 = some 7 ∧ (vp_in x1 7 ∧ AX 5 159 30 [.ref r0, .int x1, .int a1, .float 0, .float 0, .float 0, .float 0, .float 0, .float 0] [.int (if (h1.1 19 x1.toNatClampNeg) ≤ 5 then (0 : Int32) else 2), .ref r0] h1 Q)) else AX 5 159 30 [.ref r0, .int x1, .int a1, .float 0, .float 0, .float 0, .float 0, .float 0, .float 0] [.int 1, .ref r0] h1 Q)) Q)) := by
  rw [e_159_0]
  simp only [e_159_1, e_159_2, e_159_5, e_159_6, e_159_7, e_159_8, e_159_15, e_159_16, e_159_19, e_159_20, e_159_21, b_159_22, e_159_11, e_159_12, t_ai_19, true_and, and_true, or_true, true_or]
set_option maxRecDepth 20000 in
theorem s_159_30 (r0 : Nat) (x1 : Int32) (x2 : Int32) (u0 : Int32) (k1 : Nat) (h : tH) (Q : tO → tH → Prop)  :
    AX 5 159 30 [.ref r0, .int x1, .int x2, .float 0, .float 0, .float 0, .float 0, .float 0, .float 0] [.int u0, .ref k1] h Q =
    (t_ob k1 = some 7 ∧ (t_ob r0 = some 7 ∧ (if ((t_I h k1 0 u0).1 r0 0) ≤ (0 : Int32) then (t_ob r0 = some 7 ∧ (t_in (t_ai (t_I h k1 0 u0) 19) x1 ∧ (t_ob r0 = some 7 ∧ (t_in (t_ai (t_I h k1 0 u0) 19) 6 ∧ AX 5 159 62 [.ref r0, .int x1, .int x2, .int ((t_I h k1 0 u0).1 19 x1.toNatClampNeg), .int 0, .float 0, .float 0, .float 0, .float 0] [] (t_I (t_I h k1 0 u0) 19 (6 : Int32).toNatClampNeg (((t_I h k1 0 u0).1 19 x1.toNatClampNeg) + 1)) Q)))) else Q (.inl (some (.int 0))) (t_I h k1 0 u0)))) := by
  rw [e_159_30]
  simp only [e_159_33, e_159_34, e_159_37, e_159_42, e_159_43, e_159_46, e_159_47, e_159_48, e_159_49, e_159_50, e_159_53, e_159_55, e_159_56, e_159_57, e_159_58, e_159_59, e_159_60, e_159_40, e_159_41, t_ne_19, true_and, and_true, or_true, true_or]
set_option maxRecDepth 20000 in
theorem s_159_62 (r0 : Nat) (x1 : Int32) (x2 : Int32) (x3 : Int32) (x4 : Int32) (h : tH) (Q : tO → tH → Prop)  :
    AX 5 159 62 [.ref r0, .int x1, .int x2, .int x3, .int x4, .float 0, .float 0, .float 0, .float 0] [] h Q =
    (if (343 : Int32) ≤ x4 then AX 5 159 106 [.ref r0, .int x1, .int x2, .int x3, .int 0, .int 0, .float 0, .float 0, .float 0] [] h Q else (t_ob r0 = some 7 ∧ (t_ob r0 = some 7 ∧ (vp_in ((343 * x1) + x4) 2401 ∧ (vp_in (2058 + x4) 2401 ∧ AX 5 159 62 [.ref r0, .int x1, .int x2, .int x3, .int (x4 + 1), .float 0, .float 0, .float 0, .float 0] [] (t_I h 20 (2058 + x4).toNatClampNeg (h.1 20 ((343 * x1) + x4).toNatClampNeg)) Q))))) := by
  rw [e_159_62]
  simp only [e_159_64, e_159_67, e_159_100, e_159_101, e_159_103, e_159_104, e_159_70, e_159_71, e_159_74, e_159_77, e_159_79, e_159_80, e_159_81, e_159_84, e_159_87, e_159_88, e_159_89, e_159_91, e_159_92, e_159_93, e_159_94, e_159_97, t_ai_20, t_ne_20, true_and, and_true, or_true, true_or]
set_option maxRecDepth 20000 in
theorem s_159_106 (r0 : Nat) (x1 : Int32) (x2 : Int32) (x3 : Int32) (x4 : Int32) (x5 : Int32) (w6 : Value) (w7 : Value) (w8 : Value) (h : tH) (Q : tO → tH → Prop)  :
    AX 5 159 106 [.ref r0, .int x1, .int x2, .int x3, .int x4, .int x5, w6, w7, w8] [] h Q =
    (if (1 <<< (((x3 * (x3 - 1)) / 2) &&& 31)) ≤ x5 then Q (.inl (some (.int x4))) h else AX 5 159 126 [.ref r0, .int x1, .int x2, .int x3, .int x4, .int x5, .int 0, .int 0, w8] [] h Q) := by
  rw [e_159_106]
  simp only [e_159_108, e_159_109, e_159_110, e_159_111, e_159_112, e_159_113, e_159_114, e_159_115, e_159_116, e_159_117, e_159_211, e_159_213, e_159_120, e_159_121, e_159_123, e_159_124, t_ai_d2, true_and, and_true, or_true, true_or]
set_option maxRecDepth 20000 in
theorem s_159_126 (r0 : Nat) (x1 : Int32) (x2 : Int32) (x3 : Int32) (x4 : Int32) (x5 : Int32) (x6 : Int32) (x7 : Int32) (w8 : Value) (h : tH) (Q : tO → tH → Prop)  :
    AX 5 159 126 [.ref r0, .int x1, .int x2, .int x3, .int x4, .int x5, .int x6, .int x7, w8] [] h Q =
    (if x3 ≤ x7 then (t_ob r0 = some 7 ∧ AM 110 [.ref r0, .int 6] h (t_ki (fun a1 h1 => AX 5 159 106 [.ref r0, .int x1, .int x2, .int x3, .int (x4 + (if a1 = (0 : Int32) then (0 : Int32) else 1)), .int (x5 + 1), .int x6, .int x7, w8] [] h1 Q) Q)) else AX 5 159 138 [.ref r0, .int x1, .int x2, .int x3, .int x4, .int x5, .int x6, .int x7, .int (x7 + 1)] [] h Q) := by
  rw [e_159_126]
  simp only [e_159_128, e_159_129, e_159_186, e_159_188, e_159_189, e_159_191, b_159_194, e_159_202, e_159_203, e_159_205, e_159_208, e_159_132, e_159_134, e_159_135, e_159_136, true_and, and_true, or_true, true_or]
set_option maxRecDepth 20000 in
theorem s_159_138 (r0 : Nat) (x1 : Int32) (x2 : Int32) (x3 : Int32) (x4 : Int32) (x5 : Int32) (x6 : Int32) (x7 : Int32) (x8 : Int32) (h : tH) (Q : tO → tH → Prop)  :
    AX 5 159 138 [.ref r0, .int x1, .int x2, .int x3, .int x4, .int x5, .int x6, .int x7, .int x8] [] h Q =
    (if x3 ≤ x8 then AX 5 159 126 [.ref r0, .int x1, .int x2, .int x3, .int x4, .int x5, .int x6, .int (x7 + 1), .int x8] [] h Q else (t_ob r0 = some 7 ∧ AM 105 [.ref r0, .int 6, .int x7, .int x8, .int x3, .int (if ¬ ((x5 >>> (x6 &&& 31)) &&& 1) = 1 then ((-1) : Int32) else 1)] h (t_kv (fun h1 => AX 5 159 138 [.ref r0, .int x1, .int x2, .int x3, .int x4, .int x5, .int (x6 + 1), .int x7, .int (x8 + 1)] [] h1 Q) Q))) := by
  rw [e_159_138]
  simp only [e_159_140, e_159_141, e_159_180, e_159_183, e_159_144, e_159_145, e_159_147, e_159_149, e_159_151, e_159_152, e_159_154, e_159_156, e_159_157, e_159_158, e_159_159, b_159_160, e_159_168, e_159_171, e_159_174, e_159_177, true_and, and_true, or_true, true_or]
theorem am_159 (r0 : Nat) (x1 : Int32) (h : tH) (Q : tO → tH → Prop) : AM 159 [.ref r0, .int x1] h Q = AX 5 159 0 [.ref r0, .int x1, .float 0, .float 0, .float 0, .float 0, .float 0, .float 0, .float 0] [] h Q := AM_at ta_159 _ _ _
-- X10_numberOfOrder
set_option maxRecDepth 20000 in
theorem s_160_0 (r0 : Nat) (x1 : Int32) (x2 : Int32) (h : tH) (Q : tO → tH → Prop)  :
    AX 2 160 0 [.ref r0, .int x1, .int x2, .float 0, .float 0, .float 0, .float 0, .float 0] [] h Q =
    AX 2 160 5 [.ref r0, .int x1, .int x2, .long 0, .float 0, .int 0, .float 0, .float 0] [] h Q := by
  rw [e_160_0]
  simp only [e_160_1, e_160_2, e_160_3, true_and, and_true, or_true, true_or]
set_option maxRecDepth 20000 in
theorem s_160_5 (r0 : Nat) (x1 : Int32) (x2 : Int32) (y3 : Int64) (x5 : Int32) (w6 : Value) (w7 : Value) (h : tH) (Q : tO → tH → Prop)  :
    AX 2 160 5 [.ref r0, .int x1, .int x2, .long y3, .float 0, .int x5, w6, w7] [] h Q =
    (t_ob r0 = some 7 ∧ (vp_in x1 7 ∧ (if (h.1 19 x1.toNatClampNeg) ≤ x5 then Q (.inl (some (.long y3))) h else AX 2 160 22 [.ref r0, .int x1, .int x2, .long y3, .float 0, .int x5, .int (x5 + 1), w7] [] h Q))) := by
  rw [e_160_5]
  simp only [e_160_7, e_160_8, e_160_11, e_160_12, e_160_13, e_160_110, e_160_111, e_160_16, e_160_18, e_160_19, e_160_20, t_ai_19, true_and, and_true, or_true, true_or]
set_option maxRecDepth 20000 in
theorem s_160_22 (r0 : Nat) (x1 : Int32) (x2 : Int32) (y3 : Int64) (x5 : Int32) (x6 : Int32) (w7 : Value) (h : tH) (Q : tO → tH → Prop)  :
    AX 2 160 22 [.ref r0, .int x1, .int x2, .long y3, .float 0, .int x5, .int x6, w7] [] h Q =
    (t_ob r0 = some 7 ∧ (vp_in x1 7 ∧ (if (h.1 19 x1.toNatClampNeg) ≤ x6 then AX 2 160 5 [.ref r0, .int x1, .int x2, .long y3, .float 0, .int (x5 + 1), .int x6, w7] [] h Q else AX 2 160 39 [.ref r0, .int x1, .int x2, .long y3, .float 0, .int x5, .int x6, .int (x6 + 1)] [] h Q))) := by
  rw [e_160_22]
  simp only [e_160_24, e_160_25, e_160_28, e_160_29, e_160_30, e_160_104, e_160_107, e_160_33, e_160_35, e_160_36, e_160_37, t_ai_19, true_and, and_true, or_true, true_or]
set_option maxRecDepth 20000 in
theorem s_160_39 (r0 : Nat) (x1 : Int32) (x2 : Int32) (y3 : Int64) (x5 : Int32) (x6 : Int32) (x7 : Int32) (h : tH) (Q : tO → tH → Prop)  :
    AX 2 160 39 [.ref r0, .int x1, .int x2, .long y3, .float 0, .int x5, .int x6, .int x7] [] h Q =
    (t_ob r0 = some 7 ∧ (vp_in x1 7 ∧ (if (h.1 19 x1.toNatClampNeg) ≤ x7 then AX 2 160 22 [.ref r0, .int x1, .int x2, .long y3, .float 0, .int x5, .int (x6 + 1), .int x7] [] h Q else (t_ob r0 = some 7 ∧ (vp_in x5 7 ∧ (t_ob r0 = some 7 ∧ (vp_in x6 7 ∧ (t_ob r0 = some 7 ∧ (vp_in x7 7 ∧ (t_ob r0 = some 7 ∧ AM 104 [.ref r0, .int x1, .int (h.1 26 x5.toNatClampNeg), .int (h.1 26 x6.toNatClampNeg), .int (h.1 26 x7.toNatClampNeg)] h (t_ki (fun a1 h1 => (if ¬ a1 = x2 then AX 2 160 90 [.ref r0, .int x1, .int x2, .long y3, .float 0, .int x5, .int x6, .int x7] [.long 0, .long (2 * y3)] h1 Q else AX 2 160 90 [.ref r0, .int x1, .int x2, .long y3, .float 0, .int x5, .int x6, .int x7] [.long 1, .long (2 * y3)] h1 Q)) Q))))))))))) := by
  rw [e_160_39]
  simp only [e_160_41, e_160_42, e_160_45, e_160_46, e_160_47, e_160_98, e_160_101, e_160_50, e_160_53, e_160_54, e_160_55, e_160_56, e_160_57, e_160_58, e_160_61, e_160_63, e_160_64, e_160_65, e_160_68, e_160_70, e_160_71, e_160_72, e_160_75, e_160_77, e_160_78, e_160_81, e_160_82, e_160_89, e_160_85, e_160_86, t_ai_19, t_ai_26, true_and, and_true, or_true, true_or]
set_option maxRecDepth 20000 in
theorem s_160_90 (r0 : Nat) (x1 : Int32) (x2 : Int32) (y3 : Int64) (x5 : Int32) (x6 : Int32) (x7 : Int32) (v0 : Int64) (v1 : Int64) (h : tH) (Q : tO → tH → Prop)  :
    AX 2 160 90 [.ref r0, .int x1, .int x2, .long y3, .float 0, .int x5, .int x6, .int x7] [.long v0, .long v1] h Q =
    AX 2 160 39 [.ref r0, .int x1, .int x2, .long (v1 + v0), .float 0, .int x5, .int x6, .int (x7 + 1)] [] h Q := by
  rw [e_160_90]
  simp only [e_160_91, e_160_92, e_160_95, true_and, and_true, or_true, true_or]
theorem am_160 (r0 : Nat) (x1 : Int32) (x2 : Int32) (h : tH) (Q : tO → tH → Prop) : AM 160 [.ref r0, .int x1, .int x2] h Q = AX 2 160 0 [.ref r0, .int x1, .int x2, .float 0, .float 0, .float 0, .float 0, .float 0] [] h Q := AM_at ta_160 _ _ _
-- X10_canonical
theorem b_161_6 (r0 : Nat) (x1 : Int32) (x2 : Int32) (u0 : Int32) (k1 : Nat) (h : tH) (Q : tO → tH → Prop) : AX 3 161 6 [.ref r0, .int x1, .int x2, .float 0, .float 0, .float 0, .float 0, .float 0, .float 0] [.int u0, .ref k1] h Q = AX 3 161 14 [.ref r0, .int x1, .int x2, .float 0, .float 0, .float 0, .float 0, .float 0, .float 0] [.int (if u0 = (0 : Int32) then (1 : Int32) else 0), .ref k1] h Q := by
  simp only [e_161_6, e_161_9, e_161_10, e_161_13]
  repeat' split
  all_goals rfl
theorem b_161_60 (r0 : Nat) (x1 : Int32) (x2 : Int32) (x3 : Int32) (y4 : Int64) (x6 : Int32) (w7 : Value) (u0 : Int32) (u1 : Int32) (k2 : Nat) (h : tH) (Q : tO → tH → Prop) : AX 3 161 60 [.ref r0, .int x1, .int x2, .int x3, .long y4, .float 0, .int x6, w7, .float 0] [.int u0, .int u1, .ref k2] h Q = AX 3 161 68 [.ref r0, .int x1, .int x2, .int x3, .long y4, .float 0, .int x6, w7, .float 0] [.int (if u0 = (0 : Int32) then (1 : Int32) else (-1)), .int u1, .ref k2] h Q := by
  simp only [e_161_60, e_161_63, e_161_64, e_161_67]
  repeat' split
  all_goals rfl
set_option maxRecDepth 20000 in
theorem s_161_0 (r0 : Nat) (x1 : Int32) (x2 : Int32) (h : tH) (Q : tO → tH → Prop)  :
    AX 3 161 0 [.ref r0, .int x1, .int x2, .float 0, .float 0, .float 0, .float 0, .float 0, .float 0] [] h Q =
    (t_ob r0 = some 7 ∧ AM 101 [.ref r0, .int x1] h (t_ki (fun a1 h1 => (t_ob r0 = some 7 ∧ (t_ob r0 = some 7 ∧ (if ((t_I h1 r0 0 (if a1 = (0 : Int32) then (1 : Int32) else 0)).1 r0 0) ≤ (0 : Int32) then (t_ob r0 = some 7 ∧ (t_in (t_ai (t_I h1 r0 0 (if a1 = (0 : Int32) then (1 : Int32) else 0)) 19) x1 ∧ AM 155 [.int ((t_I h1 r0 0 (if a1 = (0 : Int32) then (1 : Int32) else 0)).1 19 x1.toNatClampNeg)] (t_I h1 r0 0 (if a1 = (0 : Int32) then (1 : Int32) else 0)) (t_ki (fun a2 h2 => AX 3 161 37 [.ref r0, .int x1, .int x2, .float 0, .float 0, .float 0, .float 0, .float 0, .float 0] [.int a2] h2 Q) Q))) else AX 3 161 37 [.ref r0, .int x1, .int x2, .float 0, .float 0, .float 0, .float 0, .float 0, .float 0] [.int 0] (t_I h1 r0 0 (if a1 = (0 : Int32) then (1 : Int32) else 0)) Q)))) Q)) := by
  rw [e_161_0]
  simp only [e_161_1, e_161_2, e_161_3, b_161_6, e_161_14, e_161_17, e_161_18, e_161_21, e_161_28, e_161_29, e_161_32, e_161_33, e_161_34, e_161_24, e_161_25, true_and, and_true, or_true, true_or]
set_option maxRecDepth 20000 in
theorem s_161_37 (r0 : Nat) (x1 : Int32) (x2 : Int32) (u0 : Int32) (h : tH) (Q : tO → tH → Prop)  :
    AX 3 161 37 [.ref r0, .int x1, .int x2, .float 0, .float 0, .float 0, .float 0, .float 0, .float 0] [.int u0] h Q =
    AX 3 161 44 [.ref r0, .int x1, .int x2, .int u0, .long 0, .float 0, .int 0, .float 0, .float 0] [] h Q := by
  rw [e_161_37]
  simp only [e_161_38, e_161_39, e_161_41, e_161_42, true_and, and_true, or_true, true_or]
set_option maxRecDepth 20000 in
theorem s_161_44 (r0 : Nat) (x1 : Int32) (x2 : Int32) (x3 : Int32) (y4 : Int64) (x6 : Int32) (w7 : Value) (h : tH) (Q : tO → tH → Prop)  :
    AX 3 161 44 [.ref r0, .int x1, .int x2, .int x3, .long y4, .float 0, .int x6, w7, .float 0] [] h Q =
    (if x3 ≤ x6 then Q (.inl (some (.long y4))) h else (t_ob r0 = some 7 ∧ AM 156 [.ref r0, .int x1, .int x6] h (t_kv (fun h1 => (t_ob r0 = some 7 ∧ AM 160 [.ref r0, .int x1, .int (if x2 = (0 : Int32) then (1 : Int32) else (-1))] h1 (t_kl (fun a2 h2 => (if x6 = (0 : Int32) then AX 3 161 86 [.ref r0, .int x1, .int x2, .int x3, .long y4, .float 0, .int x6, .long a2, .float 0] [] h2 Q else (if (0 : Int32) ≤ (lg_cmp a2 y4) then AX 3 161 93 [.ref r0, .int x1, .int x2, .int x3, .long y4, .float 0, .int x6, .long a2, .float 0] [.long y4] h2 Q else AX 3 161 86 [.ref r0, .int x1, .int x2, .int x3, .long y4, .float 0, .int x6, .long a2, .float 0] [] h2 Q))) Q))) Q))) := by
  rw [e_161_44]
  simp only [e_161_46, e_161_47, e_161_101, e_161_103, e_161_50, e_161_51, e_161_52, e_161_54, e_161_57, e_161_58, e_161_59, b_161_60, e_161_68, e_161_71, e_161_73, e_161_75, e_161_78, e_161_80, e_161_82, e_161_83, e_161_91, true_and, and_true, or_true, true_or]
set_option maxRecDepth 20000 in
theorem s_161_86 (r0 : Nat) (x1 : Int32) (x2 : Int32) (x3 : Int32) (y4 : Int64) (x6 : Int32) (y7 : Int64) (h : tH) (Q : tO → tH → Prop)  :
    AX 3 161 86 [.ref r0, .int x1, .int x2, .int x3, .long y4, .float 0, .int x6, .long y7, .float 0] [] h Q =
    AX 3 161 93 [.ref r0, .int x1, .int x2, .int x3, .long y4, .float 0, .int x6, .long y7, .float 0] [.long y7] h Q := by
  rw [e_161_86]
  simp only [e_161_88, true_and, and_true, or_true, true_or]
set_option maxRecDepth 20000 in
theorem s_161_93 (r0 : Nat) (x1 : Int32) (x2 : Int32) (x3 : Int32) (y4 : Int64) (x6 : Int32) (y7 : Int64) (v0 : Int64) (h : tH) (Q : tO → tH → Prop)  :
    AX 3 161 93 [.ref r0, .int x1, .int x2, .int x3, .long y4, .float 0, .int x6, .long y7, .float 0] [.long v0] h Q =
    AX 3 161 44 [.ref r0, .int x1, .int x2, .int x3, .long v0, .float 0, .int (x6 + 1), .long y7, .float 0] [] h Q := by
  rw [e_161_93]
  simp only [e_161_95, e_161_98, true_and, and_true, or_true, true_or]
theorem am_161 (r0 : Nat) (x1 : Int32) (x2 : Int32) (h : tH) (Q : tO → tH → Prop) : AM 161 [.ref r0, .int x1, .int x2] h Q = AX 3 161 0 [.ref r0, .int x1, .int x2, .float 0, .float 0, .float 0, .float 0, .float 0, .float 0] [] h Q := AM_at ta_161 _ _ _
-- X10_hasEdge
set_option maxRecDepth 20000 in
theorem s_162_0 (r0 : Nat) (x1 : Int32) (x2 : Int32) (x3 : Int32) (h : tH) (Q : tO → tH → Prop)  :
    AX 0 162 0 [.ref r0, .int x1, .int x2, .int x3] [] h Q =
    (t_ob r0 = some 7 ∧ (vp_in (((49 * x1) + (7 * x2)) + x3) 294 ∧ ((((h.1 25 (((49 * x1) + (7 * x2)) + x3).toNatClampNeg) : Int32) = 0 ∨ ((h.1 25 (((49 * x1) + (7 * x2)) + x3).toNatClampNeg) : Int32) = 1) ∧ Q (.inl (some (.int (h.1 25 (((49 * x1) + (7 * x2)) + x3).toNatClampNeg)))) h))) := by
  rw [e_162_0]
  simp only [e_162_1, e_162_4, e_162_6, e_162_7, e_162_8, e_162_10, e_162_11, e_162_12, e_162_13, e_162_14, e_162_15, e_162_16, t_bo_25, true_and, and_true, or_true, true_or]
theorem am_162 (r0 : Nat) (x1 : Int32) (x2 : Int32) (x3 : Int32) (h : tH) (Q : tO → tH → Prop) : AM 162 [.ref r0, .int x1, .int x2, .int x3] h Q = AX 0 162 0 [.ref r0, .int x1, .int x2, .int x3] [] h Q := AM_at ta_162 _ _ _
-- X10_setEdge
set_option maxRecDepth 20000 in
theorem s_163_0 (r0 : Nat) (x1 : Int32) (x2 : Int32) (x3 : Int32) (x4 : Int32) (h : tH) (Q : tO → tH → Prop)  :
    AX 0 163 0 [.ref r0, .int x1, .int x2, .int x3, .int x4] [] h Q =
    (t_ob r0 = some 7 ∧ (vp_in (((49 * x1) + (7 * x2)) + x3) 294 ∧ (x4 = 0 ∨ x4 = 1) ∧ (t_ob r0 = some 7 ∧ (vp_in (((49 * x1) + (7 * x3)) + x2) 294 ∧ (x4 = 0 ∨ x4 = 1) ∧ Q (.inl none) (t_I (t_I h 25 (((49 * x1) + (7 * x2)) + x3).toNatClampNeg x4) 25 (((49 * x1) + (7 * x3)) + x2).toNatClampNeg x4))))) := by
  rw [e_163_0]
  simp only [e_163_1, e_163_4, e_163_6, e_163_7, e_163_8, e_163_10, e_163_11, e_163_12, e_163_13, e_163_14, e_163_15, e_163_17, e_163_18, e_163_19, e_163_22, e_163_24, e_163_25, e_163_26, e_163_28, e_163_29, e_163_30, e_163_31, e_163_32, e_163_33, e_163_35, e_163_36, t_bo_25, true_and, and_true, or_true, true_or]
theorem am_163 (r0 : Nat) (x1 : Int32) (x2 : Int32) (x3 : Int32) (x4 : Int32) (h : tH) (Q : tO → tH → Prop) : AM 163 [.ref r0, .int x1, .int x2, .int x3, .int x4] h Q = AX 0 163 0 [.ref r0, .int x1, .int x2, .int x3, .int x4] [] h Q := AM_at ta_163 _ _ _
-- X10_crossesEdge
set_option maxRecDepth 20000 in
theorem s_164_0 (r0 : Nat) (x1 : Int32) (x2 : Int32) (x3 : Int32) (h : tH) (Q : tO → tH → Prop)  :
    AX 3 164 0 [.ref r0, .int x1, .int x2, .int x3, .float 0, .float 0, .float 0] [] h Q =
    AX 3 164 6 [.ref r0, .int x1, .int x2, .int x3, .int 0, .int 0, .float 0] [] h Q := by
  rw [e_164_0]
  simp only [e_164_1, e_164_3, e_164_4, true_and, and_true, or_true, true_or]
set_option maxRecDepth 20000 in
theorem s_164_6 (r0 : Nat) (x1 : Int32) (x2 : Int32) (x3 : Int32) (x4 : Int32) (x5 : Int32) (w6 : Value) (h : tH) (Q : tO → tH → Prop)  :
    AX 3 164 6 [.ref r0, .int x1, .int x2, .int x3, .int x4, .int x5, w6] [] h Q =
    (t_ob r0 = some 7 ∧ (vp_in x1 7 ∧ (if (h.1 19 x1.toNatClampNeg) ≤ x5 then (((x4 : Int32) = 0 ∨ (x4 : Int32) = 1) ∧ Q (.inl (some (.int x4))) h) else AX 3 164 23 [.ref r0, .int x1, .int x2, .int x3, .int x4, .int x5, .int (x5 + 1)] [] h Q))) := by
  rw [e_164_6]
  simp only [e_164_8, e_164_9, e_164_12, e_164_13, e_164_14, e_164_84, e_164_86, e_164_17, e_164_19, e_164_20, e_164_21, t_ai_19, true_and, and_true, or_true, true_or]
set_option maxRecDepth 20000 in
theorem s_164_23 (r0 : Nat) (x1 : Int32) (x2 : Int32) (x3 : Int32) (x4 : Int32) (x5 : Int32) (x6 : Int32) (h : tH) (Q : tO → tH → Prop)  :
    AX 3 164 23 [.ref r0, .int x1, .int x2, .int x3, .int x4, .int x5, .int x6] [] h Q =
    (t_ob r0 = some 7 ∧ (vp_in x1 7 ∧ (if (h.1 19 x1.toNatClampNeg) ≤ x6 then AX 3 164 6 [.ref r0, .int x1, .int x2, .int x3, .int x4, .int (x5 + 1), .int x6] [] h Q else (if ¬ x4 = (0 : Int32) then AX 3 164 65 [.ref r0, .int x1, .int x2, .int x3, .int x4, .int x5, .int x6] [] h Q else (t_ob r0 = some 7 ∧ AM 162 [.ref r0, .int x1, .int x5, .int x6] h (t_ki (fun a1 h1 => (if a1 = (0 : Int32) then AX 3 164 69 [.ref r0, .int x1, .int x2, .int x3, .int x4, .int x5, .int x6] [] h1 Q else (t_ob r0 = some 7 ∧ AM 142 [.ref r0, .int x1, .int x2, .int x3, .int x5, .int x6] h1 (t_ki (fun a2 h2 => (if a2 = (0 : Int32) then AX 3 164 69 [.ref r0, .int x1, .int x2, .int x3, .int x4, .int x5, .int x6] [] h2 Q else AX 3 164 65 [.ref r0, .int x1, .int x2, .int x3, .int x4, .int x5, .int x6] [] h2 Q)) Q)))) Q)))))) := by
  rw [e_164_23]
  simp only [e_164_25, e_164_26, e_164_29, e_164_30, e_164_31, e_164_78, e_164_81, e_164_34, e_164_36, e_164_39, e_164_40, e_164_41, e_164_43, e_164_45, e_164_48, e_164_51, e_164_52, e_164_53, e_164_54, e_164_55, e_164_57, e_164_59, e_164_62, t_ai_19, true_and, and_true, or_true, true_or]
set_option maxRecDepth 20000 in
theorem s_164_65 (r0 : Nat) (x1 : Int32) (x2 : Int32) (x3 : Int32) (x4 : Int32) (x5 : Int32) (x6 : Int32) (h : tH) (Q : tO → tH → Prop)  :
    AX 3 164 65 [.ref r0, .int x1, .int x2, .int x3, .int x4, .int x5, .int x6] [] h Q =
    AX 3 164 70 [.ref r0, .int x1, .int x2, .int x3, .int x4, .int x5, .int x6] [.int 1] h Q := by
  rw [e_164_65]
  simp only [e_164_66, true_and, and_true, or_true, true_or]
set_option maxRecDepth 20000 in
theorem s_164_69 (r0 : Nat) (x1 : Int32) (x2 : Int32) (x3 : Int32) (x4 : Int32) (x5 : Int32) (x6 : Int32) (h : tH) (Q : tO → tH → Prop)  :
    AX 3 164 69 [.ref r0, .int x1, .int x2, .int x3, .int x4, .int x5, .int x6] [] h Q =
    AX 3 164 70 [.ref r0, .int x1, .int x2, .int x3, .int x4, .int x5, .int x6] [.int 0] h Q := by
  rw [e_164_69]
set_option maxRecDepth 20000 in
theorem s_164_70 (r0 : Nat) (x1 : Int32) (x2 : Int32) (x3 : Int32) (x4 : Int32) (x5 : Int32) (x6 : Int32) (u0 : Int32) (h : tH) (Q : tO → tH → Prop)  :
    AX 3 164 70 [.ref r0, .int x1, .int x2, .int x3, .int x4, .int x5, .int x6] [.int u0] h Q =
    AX 3 164 23 [.ref r0, .int x1, .int x2, .int x3, .int u0, .int x5, .int (x6 + 1)] [] h Q := by
  rw [e_164_70]
  simp only [e_164_72, e_164_75, true_and, and_true, or_true, true_or]
theorem am_164 (r0 : Nat) (x1 : Int32) (x2 : Int32) (x3 : Int32) (h : tH) (Q : tO → tH → Prop) : AM 164 [.ref r0, .int x1, .int x2, .int x3] h Q = AX 3 164 0 [.ref r0, .int x1, .int x2, .int x3, .float 0, .float 0, .float 0] [] h Q := AM_at ta_164 _ _ _
-- X10_triangulate
theorem b_165_6 (r0 : Nat) (x1 : Int32) (u0 : Int32) (k1 : Nat) (h : tH) (Q : tO → tH → Prop) : AX 4 165 6 [.ref r0, .int x1, .float 0, .float 0, .float 0] [.int u0, .ref k1] h Q = AX 4 165 14 [.ref r0, .int x1, .float 0, .float 0, .float 0] [.int (if u0 = (0 : Int32) then (1 : Int32) else 0), .ref k1] h Q := by
  simp only [e_165_6, e_165_9, e_165_10, e_165_13]
  repeat' split
  all_goals rfl
set_option maxRecDepth 20000 in
theorem s_165_0 (r0 : Nat) (x1 : Int32) (h : tH) (Q : tO → tH → Prop)  :
    AX 4 165 0 [.ref r0, .int x1, .float 0, .float 0, .float 0] [] h Q =
    (t_ob r0 = some 7 ∧ AM 101 [.ref r0, .int x1] h (t_ki (fun a1 h1 => (t_ob r0 = some 7 ∧ (t_ob r0 = some 7 ∧ (if ((t_I h1 r0 0 (if a1 = (0 : Int32) then (1 : Int32) else 0)).1 r0 0) ≤ (0 : Int32) then AX 4 165 28 [.ref r0, .int x1, .int 0, .float 0, .float 0] [] (t_I h1 r0 0 (if a1 = (0 : Int32) then (1 : Int32) else 0)) Q else Q (.inl (some (.int 0))) (t_I h1 r0 0 (if a1 = (0 : Int32) then (1 : Int32) else 0)))))) Q)) := by
  rw [e_165_0]
  simp only [e_165_1, e_165_2, e_165_3, b_165_6, e_165_14, e_165_17, e_165_18, e_165_21, e_165_26, e_165_27, e_165_24, e_165_25, true_and, and_true, or_true, true_or]
set_option maxRecDepth 20000 in
theorem s_165_28 (r0 : Nat) (x1 : Int32) (x2 : Int32) (h : tH) (Q : tO → tH → Prop)  :
    AX 4 165 28 [.ref r0, .int x1, .int x2, .float 0, .float 0] [] h Q =
    (if (49 : Int32) ≤ x2 then AX 4 165 56 [.ref r0, .int x1, .int 0, .int 0, .float 0] [] h Q else (t_ob r0 = some 7 ∧ (vp_in ((49 * x1) + x2) 294 ∧ (0 = 0 ∨ 0 = 1) ∧ AX 4 165 28 [.ref r0, .int x1, .int (x2 + 1), .float 0, .float 0] [] (t_I h 25 ((49 * x1) + x2).toNatClampNeg 0) Q))) := by
  rw [e_165_28]
  simp only [e_165_29, e_165_31, e_165_52, e_165_53, e_165_54, e_165_55, e_165_34, e_165_35, e_165_38, e_165_40, e_165_41, e_165_42, e_165_43, e_165_44, e_165_45, e_165_46, e_165_49, t_bo_25, true_and, and_true, or_true, true_or]
set_option maxRecDepth 20000 in
theorem s_165_56 (r0 : Nat) (x1 : Int32) (x2 : Int32) (x3 : Int32) (w4 : Value) (h : tH) (Q : tO → tH → Prop)  :
    AX 4 165 56 [.ref r0, .int x1, .int x2, .int x3, w4] [] h Q =
    (t_ob r0 = some 7 ∧ (vp_in x1 7 ∧ (if (h.1 19 x1.toNatClampNeg) ≤ x3 then (t_ob r0 = some 7 ∧ (vp_in x1 6 ∧ (1 = 0 ∨ 1 = 1) ∧ Q (.inl (some (.int x2))) (t_I h 24 x1.toNatClampNeg 1))) else AX 4 165 71 [.ref r0, .int x1, .int x2, .int x3, .int (x3 + 1)] [] h Q))) := by
  rw [e_165_56]
  simp only [e_165_57, e_165_58, e_165_61, e_165_62, e_165_63, e_165_117, e_165_118, e_165_121, e_165_122, e_165_123, e_165_124, e_165_125, e_165_66, e_165_67, e_165_68, e_165_69, t_ai_19, t_bo_24, true_and, and_true, or_true, true_or]
set_option maxRecDepth 20000 in
theorem s_165_71 (r0 : Nat) (x1 : Int32) (x2 : Int32) (x3 : Int32) (x4 : Int32) (h : tH) (Q : tO → tH → Prop)  :
    AX 4 165 71 [.ref r0, .int x1, .int x2, .int x3, .int x4] [] h Q =
    (t_ob r0 = some 7 ∧ (vp_in x1 7 ∧ (if (h.1 19 x1.toNatClampNeg) ≤ x4 then AX 4 165 56 [.ref r0, .int x1, .int x2, .int (x3 + 1), .int x4] [] h Q else (t_ob r0 = some 7 ∧ AM 164 [.ref r0, .int x1, .int x3, .int x4] h (t_ki (fun a1 h1 => (if ¬ a1 = (0 : Int32) then AX 4 165 105 [.ref r0, .int x1, .int x2, .int x3, .int x4] [] h1 Q else (t_ob r0 = some 7 ∧ AM 163 [.ref r0, .int x1, .int x3, .int x4, .int 1] h1 (t_kv (fun h2 => AX 4 165 105 [.ref r0, .int x1, .int (x2 + 1), .int x3, .int x4] [] h2 Q) Q)))) Q))))) := by
  rw [e_165_71]
  simp only [e_165_73, e_165_74, e_165_77, e_165_78, e_165_79, e_165_111, e_165_114, e_165_82, e_165_83, e_165_84, e_165_85, e_165_87, e_165_90, e_165_93, e_165_94, e_165_95, e_165_96, e_165_98, e_165_99, e_165_102, t_ai_19, true_and, and_true, or_true, true_or]
set_option maxRecDepth 20000 in
theorem s_165_105 (r0 : Nat) (x1 : Int32) (x2 : Int32) (x3 : Int32) (x4 : Int32) (h : tH) (Q : tO → tH → Prop)  :
    AX 4 165 105 [.ref r0, .int x1, .int x2, .int x3, .int x4] [] h Q =
    AX 4 165 71 [.ref r0, .int x1, .int x2, .int x3, .int (x4 + 1)] [] h Q := by
  rw [e_165_105]
  simp only [e_165_108, true_and, and_true, or_true, true_or]
theorem am_165 (r0 : Nat) (x1 : Int32) (h : tH) (Q : tO → tH → Prop) : AM 165 [.ref r0, .int x1] h Q = AX 4 165 0 [.ref r0, .int x1, .float 0, .float 0, .float 0] [] h Q := AM_at ta_165 _ _ _
-- X10_beyond
set_option maxRecDepth 20000 in
theorem s_166_0 (r0 : Nat) (x1 : Int32) (x2 : Int32) (x3 : Int32) (x4 : Int32) (h : tH) (Q : tO → tH → Prop)  :
    AX 3 166 0 [.ref r0, .int x1, .int x2, .int x3, .int x4, .float 0, .float 0] [] h Q =
    AX 3 166 3 [.ref r0, .int x1, .int x2, .int x3, .int x4, .int 0, .float 0] [] h Q := by
  rw [e_166_0]
  simp only [e_166_1, true_and, and_true, or_true, true_or]
set_option maxRecDepth 20000 in
theorem s_166_3 (r0 : Nat) (x1 : Int32) (x2 : Int32) (x3 : Int32) (x4 : Int32) (x5 : Int32) (w6 : Value) (h : tH) (Q : tO → tH → Prop)  :
    AX 3 166 3 [.ref r0, .int x1, .int x2, .int x3, .int x4, .int x5, w6] [] h Q =
    (t_ob r0 = some 7 ∧ (vp_in x1 7 ∧ (if (h.1 19 x1.toNatClampNeg) ≤ x5 then Q (.inl (some (.int (-1)))) h else (t_ob r0 = some 7 ∧ AM 104 [.ref r0, .int x1, .int x2, .int x3, .int x5] h (t_ki (fun a1 h1 => (if ¬ a1 = x4 then AX 3 166 54 [.ref r0, .int x1, .int x2, .int x3, .int x4, .int x5, w6] [] h1 Q else (t_ob r0 = some 7 ∧ AM 162 [.ref r0, .int x1, .int x2, .int x5] h1 (t_ki (fun a2 h2 => (if a2 = (0 : Int32) then AX 3 166 54 [.ref r0, .int x1, .int x2, .int x3, .int x4, .int x5, w6] [] h2 Q else (t_ob r0 = some 7 ∧ AM 162 [.ref r0, .int x1, .int x3, .int x5] h2 (t_ki (fun a3 h3 => (if a3 = (0 : Int32) then AX 3 166 54 [.ref r0, .int x1, .int x2, .int x3, .int x4, .int x5, w6] [] h3 Q else AX 3 166 55 [.ref r0, .int x1, .int x2, .int x3, .int x4, .int x5, w6] [.int 1] h3 Q)) Q)))) Q)))) Q))))) := by
  rw [e_166_3]
  simp only [e_166_5, e_166_6, e_166_9, e_166_10, e_166_11, e_166_83, e_166_84, e_166_14, e_166_15, e_166_16, e_166_17, e_166_18, e_166_20, e_166_23, e_166_25, e_166_28, e_166_29, e_166_30, e_166_31, e_166_33, e_166_36, e_166_39, e_166_40, e_166_41, e_166_42, e_166_44, e_166_47, e_166_50, e_166_51, t_ai_19, true_and, and_true, or_true, true_or]
set_option maxRecDepth 20000 in
theorem s_166_54 (r0 : Nat) (x1 : Int32) (x2 : Int32) (x3 : Int32) (x4 : Int32) (x5 : Int32) (w6 : Value) (h : tH) (Q : tO → tH → Prop)  :
    AX 3 166 54 [.ref r0, .int x1, .int x2, .int x3, .int x4, .int x5, w6] [] h Q =
    AX 3 166 55 [.ref r0, .int x1, .int x2, .int x3, .int x4, .int x5, w6] [.int 0] h Q := by
  rw [e_166_54]
set_option maxRecDepth 20000 in
theorem s_166_55 (r0 : Nat) (x1 : Int32) (x2 : Int32) (x3 : Int32) (x4 : Int32) (x5 : Int32) (w6 : Value) (u0 : Int32) (h : tH) (Q : tO → tH → Prop)  :
    AX 3 166 55 [.ref r0, .int x1, .int x2, .int x3, .int x4, .int x5, w6] [.int u0] h Q =
    (if u0 = (0 : Int32) then AX 3 166 77 [.ref r0, .int x1, .int x2, .int x3, .int x4, .int x5, .int u0] [] h Q else (t_ob r0 = some 7 ∧ AM 146 [.ref r0, .int x1, .int x2, .int x3, .int x5] h (t_ki (fun a1 h1 => (if a1 = (0 : Int32) then AX 3 166 77 [.ref r0, .int x1, .int x2, .int x3, .int x4, .int x5, .int u0] [] h1 Q else Q (.inl (some (.int x5))) h1)) Q))) := by
  rw [e_166_55]
  simp only [e_166_57, e_166_59, e_166_62, e_166_63, e_166_64, e_166_65, e_166_66, e_166_68, e_166_71, e_166_74, e_166_76, true_and, and_true, or_true, true_or]
set_option maxRecDepth 20000 in
theorem s_166_77 (r0 : Nat) (x1 : Int32) (x2 : Int32) (x3 : Int32) (x4 : Int32) (x5 : Int32) (x6 : Int32) (h : tH) (Q : tO → tH → Prop)  :
    AX 3 166 77 [.ref r0, .int x1, .int x2, .int x3, .int x4, .int x5, .int x6] [] h Q =
    AX 3 166 3 [.ref r0, .int x1, .int x2, .int x3, .int x4, .int (x5 + 1), .int x6] [] h Q := by
  rw [e_166_77]
  simp only [e_166_80, true_and, and_true, or_true, true_or]
theorem am_166 (r0 : Nat) (x1 : Int32) (x2 : Int32) (x3 : Int32) (x4 : Int32) (h : tH) (Q : tO → tH → Prop) : AM 166 [.ref r0, .int x1, .int x2, .int x3, .int x4] h Q = AX 3 166 0 [.ref r0, .int x1, .int x2, .int x3, .int x4, .float 0, .float 0] [] h Q := AM_at ta_166 _ _ _
-- X10_canFlipEdge
set_option maxRecDepth 20000 in
theorem s_167_0 (r0 : Nat) (x1 : Int32) (x2 : Int32) (x3 : Int32) (h : tH) (Q : tO → tH → Prop)  :
    AX 4 167 0 [.ref r0, .int x1, .int x2, .int x3, .float 0, .float 0] [] h Q =
    (t_ob r0 = some 7 ∧ (vp_in x1 6 ∧ (if (h.1 24 x1.toNatClampNeg) = (0 : Int32) then AX 4 167 19 [.ref r0, .int x1, .int x2, .int x3, .float 0, .float 0] [] h Q else (t_ob r0 = some 7 ∧ AM 162 [.ref r0, .int x1, .int x2, .int x3] h (t_ki (fun a1 h1 => (if ¬ a1 = (0 : Int32) then (t_ob r0 = some 7 ∧ AM 166 [.ref r0, .int x1, .int x2, .int x3, .int 1] h1 (t_ki (fun a2 h2 => (t_ob r0 = some 7 ∧ AM 166 [.ref r0, .int x1, .int x2, .int x3, .int (-1)] h2 (t_ki (fun a3 h3 => (if a2 = ((-1) : Int32) then AX 4 167 71 [.ref r0, .int x1, .int x2, .int x3, .int a2, .int a3] [] h3 Q else (if a3 = ((-1) : Int32) then AX 4 167 71 [.ref r0, .int x1, .int x2, .int x3, .int a2, .int a3] [] h3 Q else (t_ob r0 = some 7 ∧ AM 142 [.ref r0, .int x1, .int a2, .int a3, .int x2, .int x3] h3 (t_ki (fun a4 h4 => (if a4 = (0 : Int32) then AX 4 167 71 [.ref r0, .int x1, .int x2, .int x3, .int a2, .int a3] [] h4 Q else AX 4 167 72 [.ref r0, .int x1, .int x2, .int x3, .int a2, .int a3] [.int 1] h4 Q)) Q))))) Q))) Q)) else AX 4 167 19 [.ref r0, .int x1, .int x2, .int x3, .float 0, .float 0] [] h1 Q)) Q))))) := by
  rw [e_167_0]
  simp only [e_167_1, e_167_4, e_167_5, e_167_6, e_167_9, e_167_10, e_167_11, e_167_12, e_167_13, e_167_16, e_167_21, e_167_22, e_167_23, e_167_24, e_167_25, e_167_26, e_167_29, e_167_31, e_167_32, e_167_33, e_167_34, e_167_35, e_167_36, e_167_39, e_167_41, e_167_43, e_167_44, e_167_47, e_167_49, e_167_50, e_167_53, e_167_54, e_167_55, e_167_57, e_167_59, e_167_60, e_167_61, e_167_64, e_167_67, e_167_68, t_bo_24, true_and, and_true, or_true, true_or]
set_option maxRecDepth 20000 in
theorem s_167_19 (r0 : Nat) (x1 : Int32) (x2 : Int32) (x3 : Int32) (h : tH) (Q : tO → tH → Prop)  :
    AX 4 167 19 [.ref r0, .int x1, .int x2, .int x3, .float 0, .float 0] [] h Q =
    Q (.inl (some (.int 0))) h := by
  rw [e_167_19]
  simp only [e_167_20, t_z0, true_and, and_true, or_true, true_or]
set_option maxRecDepth 20000 in
theorem s_167_71 (r0 : Nat) (x1 : Int32) (x2 : Int32) (x3 : Int32) (x4 : Int32) (x5 : Int32) (h : tH) (Q : tO → tH → Prop)  :
    AX 4 167 71 [.ref r0, .int x1, .int x2, .int x3, .int x4, .int x5] [] h Q =
    AX 4 167 72 [.ref r0, .int x1, .int x2, .int x3, .int x4, .int x5] [.int 0] h Q := by
  rw [e_167_71]
set_option maxRecDepth 20000 in
theorem s_167_72 (r0 : Nat) (x1 : Int32) (x2 : Int32) (x3 : Int32) (x4 : Int32) (x5 : Int32) (u0 : Int32) (h : tH) (Q : tO → tH → Prop)  :
    AX 4 167 72 [.ref r0, .int x1, .int x2, .int x3, .int x4, .int x5] [.int u0] h Q =
    (((u0 : Int32) = 0 ∨ (u0 : Int32) = 1) ∧ Q (.inl (some (.int u0))) h) := by
  rw [e_167_72]
theorem am_167 (r0 : Nat) (x1 : Int32) (x2 : Int32) (x3 : Int32) (h : tH) (Q : tO → tH → Prop) : AM 167 [.ref r0, .int x1, .int x2, .int x3] h Q = AX 4 167 0 [.ref r0, .int x1, .int x2, .int x3, .float 0, .float 0] [] h Q := AM_at ta_167 _ _ _
-- X10_flipEdge
theorem b_168_50 (r0 : Nat) (x1 : Int32) (x2 : Int32) (x3 : Int32) (x4 : Int32) (u0 : Int32) (k1 : Nat) (h : tH) (Q : tO → tH → Prop) : AX 5 168 50 [.ref r0, .int x1, .int x2, .int x3, .int x4, .float 0, .float 0] [.int u0, .ref k1] h Q = AX 5 168 58 [.ref r0, .int x1, .int x2, .int x3, .int x4, .float 0, .float 0] [.int (if ¬ u0 = (0 : Int32) then (0 : Int32) else 2), .ref k1] h Q := by
  simp only [e_168_50, e_168_53, e_168_54, e_168_57]
  repeat' split
  all_goals rfl
theorem b_168_112 (r0 : Nat) (x1 : Int32) (x2 : Int32) (x3 : Int32) (x4 : Int32) (x5 : Int32) (x6 : Int32) (u0 : Int32) (u1 : Int32) (h : tH) (Q : tO → tH → Prop) : AX 5 168 112 [.ref r0, .int x1, .int x2, .int x3, .int x4, .int x5, .int x6] [.int u0, .int u1] h Q = AX 5 168 134 [.ref r0, .int x1, .int x2, .int x3, .int x4, .int x5, .int x6] [.int (if u0 ≤ u1 then (10 * x6) + x5 else (10 * x5) + x6)] h Q := by
  simp only [e_168_112, e_168_115, e_168_117, e_168_119, e_168_120, e_168_122, e_168_123, e_168_126, e_168_128, e_168_130, e_168_131, e_168_133]
  repeat' split
  all_goals rfl
set_option maxRecDepth 20000 in
theorem s_168_0 (r0 : Nat) (x1 : Int32) (x2 : Int32) (x3 : Int32) (h : tH) (Q : tO → tH → Prop)  :
    AX 5 168 0 [.ref r0, .int x1, .int x2, .int x3, .float 0, .float 0, .float 0] [] h Q =
    (t_ob r0 = some 7 ∧ AM 101 [.ref r0, .int x1] h (t_ki (fun a1 h1 => (if a1 = (0 : Int32) then AX 5 168 30 [.ref r0, .int x1, .int x2, .int x3, .float 0, .float 0, .float 0] [] h1 Q else (t_ob r0 = some 7 ∧ AM 102 [.ref r0, .int x1, .int x2] h1 (t_ki (fun a2 h2 => (if a2 = (0 : Int32) then AX 5 168 30 [.ref r0, .int x1, .int x2, .int x3, .float 0, .float 0, .float 0] [] h2 Q else (t_ob r0 = some 7 ∧ AM 102 [.ref r0, .int x1, .int x3] h2 (t_ki (fun a3 h3 => (if a3 = (0 : Int32) then AX 5 168 30 [.ref r0, .int x1, .int x2, .int x3, .float 0, .float 0, .float 0] [] h3 Q else AX 5 168 31 [.ref r0, .int x1, .int x2, .int x3, .float 0, .float 0, .float 0] [.int 1] h3 Q)) Q)))) Q)))) Q)) := by
  rw [e_168_0]
  simp only [e_168_1, e_168_2, e_168_5, e_168_8, e_168_9, e_168_10, e_168_11, e_168_14, e_168_17, e_168_18, e_168_19, e_168_20, e_168_23, e_168_26, e_168_27, true_and, and_true, or_true, true_or]
set_option maxRecDepth 20000 in
theorem s_168_30 (r0 : Nat) (x1 : Int32) (x2 : Int32) (x3 : Int32) (h : tH) (Q : tO → tH → Prop)  :
    AX 5 168 30 [.ref r0, .int x1, .int x2, .int x3, .float 0, .float 0, .float 0] [] h Q =
    AX 5 168 31 [.ref r0, .int x1, .int x2, .int x3, .float 0, .float 0, .float 0] [.int 0] h Q := by
  rw [e_168_30]
set_option maxRecDepth 20000 in
theorem s_168_31 (r0 : Nat) (x1 : Int32) (x2 : Int32) (x3 : Int32) (u0 : Int32) (h : tH) (Q : tO → tH → Prop)  :
    AX 5 168 31 [.ref r0, .int x1, .int x2, .int x3, .float 0, .float 0, .float 0] [.int u0] h Q =
    (if ¬ u0 = (0 : Int32) then (t_ob r0 = some 7 ∧ AM 167 [.ref r0, .int x1, .int x2, .int x3] h (t_ki (fun a1 h1 => AX 5 168 58 [.ref r0, .int x1, .int x2, .int x3, .int u0, .float 0, .float 0] [.int (if ¬ a1 = (0 : Int32) then (0 : Int32) else 2), .ref r0] h1 Q) Q)) else AX 5 168 58 [.ref r0, .int x1, .int x2, .int x3, .int u0, .float 0, .float 0] [.int 1, .ref r0] h Q) := by
  rw [e_168_31]
  simp only [e_168_33, e_168_34, e_168_36, e_168_43, e_168_44, e_168_45, e_168_46, e_168_47, b_168_50, e_168_39, e_168_40, true_and, and_true, or_true, true_or]
set_option maxRecDepth 20000 in
theorem s_168_58 (r0 : Nat) (x1 : Int32) (x2 : Int32) (x3 : Int32) (x4 : Int32) (u0 : Int32) (k1 : Nat) (h : tH) (Q : tO → tH → Prop)  :
    AX 5 168 58 [.ref r0, .int x1, .int x2, .int x3, .int x4, .float 0, .float 0] [.int u0, .ref k1] h Q =
    (t_ob k1 = some 7 ∧ (t_ob r0 = some 7 ∧ (if ((t_I h k1 0 u0).1 r0 0) ≤ (0 : Int32) then (t_ob r0 = some 7 ∧ AM 166 [.ref r0, .int x1, .int x2, .int x3, .int 1] (t_I h k1 0 u0) (t_ki (fun a1 h1 => (t_ob r0 = some 7 ∧ AM 166 [.ref r0, .int x1, .int x2, .int x3, .int (-1)] h1 (t_ki (fun a2 h2 => (t_ob r0 = some 7 ∧ AM 163 [.ref r0, .int x1, .int x2, .int x3, .int 0] h2 (t_kv (fun h3 => (t_ob r0 = some 7 ∧ AM 163 [.ref r0, .int x1, .int a1, .int a2, .int 1] h3 (t_kv (fun h4 => Q (.inl (some (.int (if a2 ≤ a1 then (10 * a2) + a1 else (10 * a1) + a2)))) h4) Q))) Q))) Q))) Q)) else Q (.inl (some (.int 0))) (t_I h k1 0 u0)))) := by
  rw [e_168_58]
  simp only [e_168_61, e_168_62, e_168_65, e_168_70, e_168_71, e_168_72, e_168_73, e_168_74, e_168_75, e_168_78, e_168_80, e_168_81, e_168_82, e_168_83, e_168_84, e_168_85, e_168_88, e_168_90, e_168_91, e_168_92, e_168_93, e_168_94, e_168_95, e_168_98, e_168_99, e_168_100, e_168_102, e_168_104, e_168_105, e_168_108, e_168_110, b_168_112, e_168_134, e_168_68, e_168_69, true_and, and_true, or_true, true_or]
theorem am_168 (r0 : Nat) (x1 : Int32) (x2 : Int32) (x3 : Int32) (h : tH) (Q : tO → tH → Prop) : AM 168 [.ref r0, .int x1, .int x2, .int x3] h Q = AX 5 168 0 [.ref r0, .int x1, .int x2, .int x3, .float 0, .float 0, .float 0] [] h Q := AM_at ta_168 _ _ _
-- X10_edge
theorem b_169_36 (r0 : Nat) (x1 : Int32) (x2 : Int32) (x3 : Int32) (x4 : Int32) (u0 : Int32) (k1 : Nat) (h : tH) (Q : tO → tH → Prop) : AX 2 169 36 [.ref r0, .int x1, .int x2, .int x3, .int x4] [.int u0, .ref k1] h Q = AX 2 169 44 [.ref r0, .int x1, .int x2, .int x3, .int x4] [.int (if u0 = (0 : Int32) then (1 : Int32) else 0), .ref k1] h Q := by
  simp only [e_169_36, e_169_39, e_169_40, e_169_43]
  repeat' split
  all_goals rfl
set_option maxRecDepth 20000 in
theorem s_169_0 (r0 : Nat) (x1 : Int32) (x2 : Int32) (x3 : Int32) (h : tH) (Q : tO → tH → Prop)  :
    AX 2 169 0 [.ref r0, .int x1, .int x2, .int x3, .float 0] [] h Q =
    (t_ob r0 = some 7 ∧ AM 101 [.ref r0, .int x1] h (t_ki (fun a1 h1 => (if a1 = (0 : Int32) then AX 2 169 30 [.ref r0, .int x1, .int x2, .int x3, .float 0] [] h1 Q else (t_ob r0 = some 7 ∧ AM 102 [.ref r0, .int x1, .int x2] h1 (t_ki (fun a2 h2 => (if a2 = (0 : Int32) then AX 2 169 30 [.ref r0, .int x1, .int x2, .int x3, .float 0] [] h2 Q else (t_ob r0 = some 7 ∧ AM 102 [.ref r0, .int x1, .int x3] h2 (t_ki (fun a3 h3 => (if a3 = (0 : Int32) then AX 2 169 30 [.ref r0, .int x1, .int x2, .int x3, .float 0] [] h3 Q else AX 2 169 31 [.ref r0, .int x1, .int x2, .int x3, .float 0] [.int 1] h3 Q)) Q)))) Q)))) Q)) := by
  rw [e_169_0]
  simp only [e_169_1, e_169_2, e_169_5, e_169_8, e_169_9, e_169_10, e_169_11, e_169_14, e_169_17, e_169_18, e_169_19, e_169_20, e_169_23, e_169_26, e_169_27, true_and, and_true, or_true, true_or]
set_option maxRecDepth 20000 in
theorem s_169_30 (r0 : Nat) (x1 : Int32) (x2 : Int32) (x3 : Int32) (h : tH) (Q : tO → tH → Prop)  :
    AX 2 169 30 [.ref r0, .int x1, .int x2, .int x3, .float 0] [] h Q =
    AX 2 169 31 [.ref r0, .int x1, .int x2, .int x3, .float 0] [.int 0] h Q := by
  rw [e_169_30]
set_option maxRecDepth 20000 in
theorem s_169_31 (r0 : Nat) (x1 : Int32) (x2 : Int32) (x3 : Int32) (u0 : Int32) (h : tH) (Q : tO → tH → Prop)  :
    AX 2 169 31 [.ref r0, .int x1, .int x2, .int x3, .float 0] [.int u0] h Q =
    (t_ob r0 = some 7 ∧ (t_ob r0 = some 7 ∧ (if ¬ ((t_I h r0 0 (if u0 = (0 : Int32) then (1 : Int32) else 0)).1 r0 0) = (0 : Int32) then AX 2 169 77 [.ref r0, .int x1, .int x2, .int x3, .int u0] [] (t_I h r0 0 (if u0 = (0 : Int32) then (1 : Int32) else 0)) Q else (t_ob r0 = some 7 ∧ (vp_in x1 6 ∧ (if ((t_I h r0 0 (if u0 = (0 : Int32) then (1 : Int32) else 0)).1 24 x1.toNatClampNeg) = (0 : Int32) then AX 2 169 77 [.ref r0, .int x1, .int x2, .int x3, .int u0] [] (t_I h r0 0 (if u0 = (0 : Int32) then (1 : Int32) else 0)) Q else (t_ob r0 = some 7 ∧ AM 162 [.ref r0, .int x1, .int x2, .int x3] (t_I h r0 0 (if u0 = (0 : Int32) then (1 : Int32) else 0)) (t_ki (fun a1 h1 => (if a1 = (0 : Int32) then AX 2 169 77 [.ref r0, .int x1, .int x2, .int x3, .int u0] [] h1 Q else AX 2 169 78 [.ref r0, .int x1, .int x2, .int x3, .int u0] [.int 1] h1 Q)) Q)))))))) := by
  rw [e_169_31]
  simp only [e_169_33, e_169_34, b_169_36, e_169_44, e_169_47, e_169_48, e_169_51, e_169_54, e_169_55, e_169_58, e_169_59, e_169_60, e_169_63, e_169_64, e_169_65, e_169_66, e_169_67, e_169_70, e_169_73, e_169_74, t_bo_24, true_and, and_true, or_true, true_or]
set_option maxRecDepth 20000 in
theorem s_169_77 (r0 : Nat) (x1 : Int32) (x2 : Int32) (x3 : Int32) (x4 : Int32) (h : tH) (Q : tO → tH → Prop)  :
    AX 2 169 77 [.ref r0, .int x1, .int x2, .int x3, .int x4] [] h Q =
    AX 2 169 78 [.ref r0, .int x1, .int x2, .int x3, .int x4] [.int 0] h Q := by
  rw [e_169_77]
set_option maxRecDepth 20000 in
theorem s_169_78 (r0 : Nat) (x1 : Int32) (x2 : Int32) (x3 : Int32) (x4 : Int32) (u0 : Int32) (h : tH) (Q : tO → tH → Prop)  :
    AX 2 169 78 [.ref r0, .int x1, .int x2, .int x3, .int x4] [.int u0] h Q =
    (((u0 : Int32) = 0 ∨ (u0 : Int32) = 1) ∧ Q (.inl (some (.int u0))) h) := by
  rw [e_169_78]
theorem am_169 (r0 : Nat) (x1 : Int32) (x2 : Int32) (x3 : Int32) (h : tH) (Q : tO → tH → Prop) : AM 169 [.ref r0, .int x1, .int x2, .int x3] h Q = AX 2 169 0 [.ref r0, .int x1, .int x2, .int x3, .float 0] [] h Q := AM_at ta_169 _ _ _
-- X10_isWhole
theorem b_170_34 (r0 : Nat) (x1 : Int32) (x2 : Int32) (x3 : Int32) (x4 : Int32) (u0 : Int32) (h : tH) (Q : tO → tH → Prop) : AX 0 170 34 [.ref r0, .int x1, .int x2, .int x3, .int x4] [.int u0] h Q = AX 0 170 62 [.ref r0, .int x1, .int x2, .int x3, .int x4] [.int (if ¬ u0 = (0 : Int32) then (0 : Int32) else 1)] h Q := by
  simp only [e_170_34, e_170_37, e_170_38, e_170_41, e_170_42]
  repeat' split
  all_goals rfl
theorem b_170_54 (r0 : Nat) (x1 : Int32) (x2 : Int32) (x3 : Int32) (x4 : Int32) (u0 : Int32) (h : tH) (Q : tO → tH → Prop) : AX 0 170 54 [.ref r0, .int x1, .int x2, .int x3, .int x4] [.int u0] h Q = AX 0 170 62 [.ref r0, .int x1, .int x2, .int x3, .int x4] [.int (if u0 = (0 : Int32) then (0 : Int32) else 1)] h Q := by
  simp only [e_170_54, e_170_57, e_170_58, e_170_61]
  repeat' split
  all_goals rfl
set_option maxRecDepth 20000 in
theorem s_170_0 (r0 : Nat) (x1 : Int32) (x2 : Int32) (h : tH) (Q : tO → tH → Prop)  :
    AX 0 170 0 [.ref r0, .int x1, .int x2, .float 0, .float 0] [] h Q =
    AX 0 170 5 [.ref r0, .int x1, .int x2, .int 1, .int 0] [] h Q := by
  rw [e_170_0]
  simp only [e_170_1, e_170_2, e_170_3, true_and, and_true, or_true, true_or]
set_option maxRecDepth 20000 in
theorem s_170_5 (r0 : Nat) (x1 : Int32) (x2 : Int32) (x3 : Int32) (x4 : Int32) (h : tH) (Q : tO → tH → Prop)  :
    AX 0 170 5 [.ref r0, .int x1, .int x2, .int x3, .int x4] [] h Q =
    (if x2 ≤ x4 then AX 0 170 69 [.ref r0, .int x1, .int x2, .int x3, .int x4] [] h Q else (if x3 = (0 : Int32) then AX 0 170 69 [.ref r0, .int x1, .int x2, .int x3, .int x4] [] h Q else (if ¬ ((x1 >>> (x4 &&& 31)) &&& 1) = (1 : Int32) then (t_ob r0 = some 7 ∧ (vp_in x4 15 ∧ AX 0 170 62 [.ref r0, .int x1, .int x2, .int x3, .int x4] [.int (if ((h.1 31 x4.toNatClampNeg) &&& x1) = (0 : Int32) then (0 : Int32) else 1)] h Q)) else (t_ob r0 = some 7 ∧ (vp_in x4 15 ∧ AX 0 170 62 [.ref r0, .int x1, .int x2, .int x3, .int x4] [.int (if ¬ ((h.1 31 x4.toNatClampNeg) &&& x1) = (0 : Int32) then (0 : Int32) else 1)] h Q))))) := by
  rw [e_170_5]
  simp only [e_170_7, e_170_8, e_170_11, e_170_12, e_170_15, e_170_16, e_170_18, e_170_19, e_170_20, e_170_21, e_170_22, e_170_45, e_170_46, e_170_49, e_170_51, e_170_52, e_170_53, b_170_54, e_170_25, e_170_26, e_170_29, e_170_31, e_170_32, e_170_33, b_170_34, t_ai_31, true_and, and_true, or_true, true_or]
set_option maxRecDepth 20000 in
theorem s_170_62 (r0 : Nat) (x1 : Int32) (x2 : Int32) (x3 : Int32) (x4 : Int32) (u0 : Int32) (h : tH) (Q : tO → tH → Prop)  :
    AX 0 170 62 [.ref r0, .int x1, .int x2, .int x3, .int x4] [.int u0] h Q =
    AX 0 170 5 [.ref r0, .int x1, .int x2, .int u0, .int (x4 + 1)] [] h Q := by
  rw [e_170_62]
  simp only [e_170_63, e_170_66, true_and, and_true, or_true, true_or]
set_option maxRecDepth 20000 in
theorem s_170_69 (r0 : Nat) (x1 : Int32) (x2 : Int32) (x3 : Int32) (x4 : Int32) (h : tH) (Q : tO → tH → Prop)  :
    AX 0 170 69 [.ref r0, .int x1, .int x2, .int x3, .int x4] [] h Q =
    (((x3 : Int32) = 0 ∨ (x3 : Int32) = 1) ∧ Q (.inl (some (.int x3))) h) := by
  rw [e_170_69]
  simp only [e_170_70, true_and, and_true, or_true, true_or]
theorem am_170 (r0 : Nat) (x1 : Int32) (x2 : Int32) (h : tH) (Q : tO → tH → Prop) : AM 170 [.ref r0, .int x1, .int x2] h Q = AX 0 170 0 [.ref r0, .int x1, .int x2, .float 0, .float 0] [] h Q := AM_at ta_170 _ _ _
-- X10_triangulations
theorem b_171_23 (r0 : Nat) (x1 : Int32) (x2 : Int32) (u0 : Int32) (u1 : Int32) (k2 : Nat) (h : tH) (Q : tO → tH → Prop) : AX 4 171 23 [.ref r0, .int x1, .int x2, .float 0, .float 0, .float 0] [.int u0, .int u1, .ref k2] h Q = AX 4 171 31 [.ref r0, .int x1, .int x2, .float 0, .float 0, .float 0] [.int (if ¬ u1 = u0 then (0 : Int32) else 2), .ref k2] h Q := by
  simp only [e_171_23, e_171_26, e_171_27, e_171_30]
  repeat' split
  all_goals rfl
theorem b_171_72 (r0 : Nat) (x1 : Int32) (x2 : Int32) (x3 : Int32) (x4 : Int32) (x5 : Int32) (u0 : Int32) (u1 : Int32) (h : tH) (Q : tO → tH → Prop) : AX 4 171 72 [.ref r0, .int x1, .int x2, .int x3, .int x4, .int x5] [.int u0, .int u1] h Q = AX 4 171 80 [.ref r0, .int x1, .int x2, .int x3, .int x4, .int x5] [.int (if u0 = (0 : Int32) then (0 : Int32) else 1), .int u1] h Q := by
  simp only [e_171_72, e_171_75, e_171_76, e_171_79]
  repeat' split
  all_goals rfl
set_option maxRecDepth 20000 in
theorem s_171_0 (r0 : Nat) (x1 : Int32) (h : tH) (Q : tO → tH → Prop)  :
    AX 4 171 0 [.ref r0, .int x1, .float 0, .float 0, .float 0, .float 0] [] h Q =
    (t_ob r0 = some 7 ∧ AM 101 [.ref r0, .int x1] h (t_ki (fun a1 h1 => (if ¬ a1 = (0 : Int32) then (t_ob r0 = some 7 ∧ (vp_in x1 7 ∧ AX 4 171 31 [.ref r0, .int x1, .int a1, .float 0, .float 0, .float 0] [.int (if ¬ (h1.1 19 x1.toNatClampNeg) = 7 then (0 : Int32) else 2), .ref r0] h1 Q)) else AX 4 171 31 [.ref r0, .int x1, .int a1, .float 0, .float 0, .float 0] [.int 1, .ref r0] h1 Q)) Q)) := by
  rw [e_171_0]
  simp only [e_171_1, e_171_2, e_171_5, e_171_6, e_171_7, e_171_8, e_171_15, e_171_16, e_171_19, e_171_20, e_171_21, b_171_23, e_171_11, e_171_12, t_ai_19, true_and, and_true, or_true, true_or]
set_option maxRecDepth 20000 in
theorem s_171_31 (r0 : Nat) (x1 : Int32) (x2 : Int32) (u0 : Int32) (k1 : Nat) (h : tH) (Q : tO → tH → Prop)  :
    AX 4 171 31 [.ref r0, .int x1, .int x2, .float 0, .float 0, .float 0] [.int u0, .ref k1] h Q =
    (t_ob k1 = some 7 ∧ (t_ob r0 = some 7 ∧ (if ((t_I h k1 0 u0).1 r0 0) ≤ (0 : Int32) then (t_ob r0 = some 7 ∧ AM 144 [.ref r0, .int x1] (t_I h k1 0 u0) (t_ki (fun a1 h1 => AX 4 171 55 [.ref r0, .int x1, .int x2, .int a1, .int 0, .int 0] [] h1 Q) Q)) else Q (.inl (some (.int 0))) (t_I h k1 0 u0)))) := by
  rw [e_171_31]
  simp only [e_171_34, e_171_35, e_171_38, e_171_43, e_171_44, e_171_45, e_171_48, e_171_49, e_171_50, e_171_52, e_171_53, e_171_41, e_171_42, true_and, and_true, or_true, true_or]
set_option maxRecDepth 20000 in
theorem s_171_55 (r0 : Nat) (x1 : Int32) (x2 : Int32) (x3 : Int32) (x4 : Int32) (x5 : Int32) (h : tH) (Q : tO → tH → Prop)  :
    AX 4 171 55 [.ref r0, .int x1, .int x2, .int x3, .int x4, .int x5] [] h Q =
    (if (1 <<< (x3 &&& 31)) ≤ x5 then Q (.inl (some (.int x4))) h else (t_ob r0 = some 7 ∧ AM 170 [.ref r0, .int x5, .int x3] h (t_ki (fun a1 h1 => AX 4 171 55 [.ref r0, .int x1, .int x2, .int x3, .int (x4 + (if a1 = (0 : Int32) then (0 : Int32) else 1)), .int (x5 + 1)] [] h1 Q) Q))) := by
  rw [e_171_55]
  simp only [e_171_57, e_171_58, e_171_59, e_171_60, e_171_89, e_171_91, e_171_63, e_171_65, e_171_66, e_171_68, e_171_69, b_171_72, e_171_80, e_171_81, e_171_83, e_171_86, true_and, and_true, or_true, true_or]
theorem am_171 (r0 : Nat) (x1 : Int32) (h : tH) (Q : tO → tH → Prop) : AM 171 [.ref r0, .int x1] h Q = AX 4 171 0 [.ref r0, .int x1, .float 0, .float 0, .float 0, .float 0] [] h Q := AM_at ta_171 _ _ _
