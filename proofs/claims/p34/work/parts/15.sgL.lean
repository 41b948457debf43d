-- L_cell
set_option maxRecDepth 20000 in
theorem s_99_0 (r0 : Nat) (x1 : Int32) (h : tH) (Q : tO → tH → Prop) (nL : Nat) (hL : t_ln h r0 = some nL) :
    AX 0 99 0 [.ref r0, .int x1] [] h Q =
    (if (Int32.ofNat nL) ≤ x1 then AX 0 99 21 [.ref r0, .int x1] [.int ((1000308325 * (x1 + 1)) + 751363499)] h Q else (t_in (t_ai h r0) x1 ∧ AX 0 99 21 [.ref r0, .int x1] [.int (h.1 r0 x1.toNatClampNeg)] h Q)) := by
  rw [e_99_0]
  simp only [e_99_1, e_99_2 (hL := hL), e_99_3, e_99_12, e_99_14, e_99_15, e_99_16, e_99_17, e_99_18, e_99_20, e_99_6, e_99_7, e_99_8, e_99_9, true_and, and_true, or_true, true_or]
set_option maxRecDepth 20000 in
theorem s_99_21 (r0 : Nat) (x1 : Int32) (u0 : Int32) (h : tH) (Q : tO → tH → Prop)  :
    AX 0 99 21 [.ref r0, .int x1] [.int u0] h Q =
    Q (.inl (some (.int u0))) h := by
  rw [e_99_21]
theorem am_99 (r0 : Nat) (x1 : Int32) (h : tH) (Q : tO → tH → Prop) : AM 99 [.ref r0, .int x1] h Q = AX 0 99 0 [.ref r0, .int x1] [] h Q := AM_at ta_99 _ _ _
-- L_low
set_option maxRecDepth 20000 in
theorem s_100_0 (x0 : Int32) (x1 : Int32) (h : tH) (Q : tO → tH → Prop)  :
    AX 0 100 0 [.int x0, .int x1] [] h Q =
    (¬ x1 = 0 ∧ Q (.inl (some (.int ((x0 &&& 2147483647) - (x0 &&& 2147483647) / x1 * x1)))) h) := by
  rw [e_100_0]
  simp only [e_100_1, e_100_3, e_100_4, e_100_5, e_100_6, true_and, and_true, or_true, true_or]
theorem am_100 (x0 : Int32) (x1 : Int32) (h : tH) (Q : tO → tH → Prop) : AM 100 [.int x0, .int x1] h Q = AX 0 100 0 [.int x0, .int x1] [] h Q := AM_at ta_100 _ _ _
-- L_placed
set_option maxRecDepth 20000 in
theorem s_101_0 (r0 : Nat) (x1 : Int32) (x2 : Int32) (h : tH) (Q : tO → tH → Prop)  :
    AX 5 101 0 [.ref r0, .int x1, .int x2, .float 0] [] h Q =
    (t_ob r0 = some 0 ∧ AM 62 [.ref r0, .int x1, .int x2] h (t_kb tq_101 tq_62 5 101 3 [.ref r0, .int x1, .int x2, .float 0] [] Q)) := by
  rw [e_101_0]
  simp only [e_101_1, e_101_2, e_101_3, true_and, and_true, or_true, true_or]
set_option maxRecDepth 20000 in
theorem s_101_8 (r0 : Nat) (x1 : Int32) (x2 : Int32) (h : tH) (Q : tO → tH → Prop)  :
    AX 5 101 8 [.ref r0, .int x1, .int x2, .float 0] [] h Q =
    Q (.inl (some (.int (-1)))) h := by
  rw [e_101_8]
  simp only [e_101_9, true_and, and_true, or_true, true_or]
theorem am_101 (r0 : Nat) (x1 : Int32) (x2 : Int32) (h : tH) (Q : tO → tH → Prop) : AM 101 [.ref r0, .int x1, .int x2] h Q = AX 5 101 0 [.ref r0, .int x1, .int x2, .float 0] [] h Q := AM_at ta_101 _ _ _
-- L_flippedEdge
set_option maxRecDepth 20000 in
theorem s_102_0 (r0 : Nat) (x1 : Int32) (x2 : Int32) (h : tH) (Q : tO → tH → Prop)  :
    AX 6 102 0 [.ref r0, .int x1, .int x2, .float 0] [] h Q =
    (t_ob r0 = some 0 ∧ AM 96 [.ref r0, .int 0, .int x1, .int x2] h (t_kb tq_102 tq_96 6 102 4 [.ref r0, .int x1, .int x2, .float 0] [] Q)) := by
  rw [e_102_0]
  simp only [e_102_1, e_102_2, e_102_3, e_102_4, true_and, and_true, or_true, true_or]
set_option maxRecDepth 20000 in
theorem s_102_9 (r0 : Nat) (x1 : Int32) (x2 : Int32) (h : tH) (Q : tO → tH → Prop)  :
    AX 6 102 9 [.ref r0, .int x1, .int x2, .float 0] [] h Q =
    Q (.inl (some (.int (-1)))) h := by
  rw [e_102_9]
  simp only [e_102_10, true_and, and_true, or_true, true_or]
theorem am_102 (r0 : Nat) (x1 : Int32) (x2 : Int32) (h : tH) (Q : tO → tH → Prop) : AM 102 [.ref r0, .int x1, .int x2] h Q = AX 6 102 0 [.ref r0, .int x1, .int x2, .float 0] [] h Q := AM_at ta_102 _ _ _
-- L_copied
set_option maxRecDepth 20000 in
theorem s_103_0 (r0 : Nat) (x1 : Int32) (h : tH) (Q : tO → tH → Prop)  :
    AX 4 103 0 [.ref r0, .int x1, .float 0] [] h Q =
    (t_ob r0 = some 0 ∧ AM 70 [.ref r0, .int 0, .int x1] h (t_kb tq_103 tq_70 4 103 3 [.ref r0, .int x1, .float 0] [] Q)) := by
  rw [e_103_0]
  simp only [e_103_1, e_103_2, e_103_3, true_and, and_true, or_true, true_or]
set_option maxRecDepth 20000 in
theorem s_103_8 (r0 : Nat) (x1 : Int32) (h : tH) (Q : tO → tH → Prop)  :
    AX 4 103 8 [.ref r0, .int x1, .float 0] [] h Q =
    Q (.inl (some (.int (-1)))) h := by
  rw [e_103_8]
  simp only [e_103_9, true_and, and_true, or_true, true_or]
theorem am_103 (r0 : Nat) (x1 : Int32) (h : tH) (Q : tO → tH → Prop) : AM 103 [.ref r0, .int x1] h Q = AX 4 103 0 [.ref r0, .int x1, .float 0] [] h Q := AM_at ta_103 _ _ _
-- L_bit
theorem b_104_2 (x0 : Int32) (x1 : Int32) (x2 : Int32) (u0 : Int32) (u1 : Int32) (h : tH) (Q : tO → tH → Prop) : AX 0 104 2 [.int x0, .int x1, .int x2, .float 0, .float 0, .float 0, .float 0, .float 0, .float 0] [.int u0, .int u1] h Q = AX 0 104 10 [.int x0, .int x1, .int x2, .float 0, .float 0, .float 0, .float 0, .float 0, .float 0] [.int (if u0 ≤ u1 then x1 else x0)] h Q := by
  simp only [e_104_2, e_104_5, e_104_6, e_104_9]
  repeat' split
  all_goals rfl
theorem b_104_13 (x0 : Int32) (x1 : Int32) (x2 : Int32) (x3 : Int32) (u0 : Int32) (u1 : Int32) (h : tH) (Q : tO → tH → Prop) : AX 0 104 13 [.int x0, .int x1, .int x2, .int x3, .float 0, .float 0, .float 0, .float 0, .float 0] [.int u0, .int u1] h Q = AX 0 104 21 [.int x0, .int x1, .int x2, .int x3, .float 0, .float 0, .float 0, .float 0, .float 0] [.int (if u0 ≤ u1 then x0 else x1)] h Q := by
  simp only [e_104_13, e_104_16, e_104_17, e_104_20]
  repeat' split
  all_goals rfl
theorem b_104_26 (x0 : Int32) (x1 : Int32) (x2 : Int32) (x3 : Int32) (x4 : Int32) (u0 : Int32) (u1 : Int32) (h : tH) (Q : tO → tH → Prop) : AX 0 104 26 [.int x0, .int x1, .int x2, .int x3, .int x4, .float 0, .float 0, .float 0, .float 0] [.int u0, .int u1] h Q = AX 0 104 35 [.int x0, .int x1, .int x2, .int x3, .int x4, .float 0, .float 0, .float 0, .float 0] [.int (if u1 ≤ u0 then x4 else x2)] h Q := by
  simp only [e_104_26, e_104_29, e_104_30, e_104_33]
  repeat' split
  all_goals rfl
theorem b_104_40 (x0 : Int32) (x1 : Int32) (x2 : Int32) (x3 : Int32) (x4 : Int32) (x5 : Int32) (u0 : Int32) (u1 : Int32) (h : tH) (Q : tO → tH → Prop) : AX 0 104 40 [.int x0, .int x1, .int x2, .int x3, .int x4, .int x5, .float 0, .float 0, .float 0] [.int u0, .int u1] h Q = AX 0 104 49 [.int x0, .int x1, .int x2, .int x3, .int x4, .int x5, .float 0, .float 0, .float 0] [.int (if u1 ≤ u0 then x2 else x4)] h Q := by
  simp only [e_104_40, e_104_43, e_104_45, e_104_48]
  repeat' split
  all_goals rfl
theorem b_104_54 (x0 : Int32) (x1 : Int32) (x2 : Int32) (x3 : Int32) (x4 : Int32) (x5 : Int32) (x6 : Int32) (u0 : Int32) (u1 : Int32) (h : tH) (Q : tO → tH → Prop) : AX 0 104 54 [.int x0, .int x1, .int x2, .int x3, .int x4, .int x5, .int x6, .float 0, .float 0] [.int u0, .int u1] h Q = AX 0 104 63 [.int x0, .int x1, .int x2, .int x3, .int x4, .int x5, .int x6, .float 0, .float 0] [.int (if u0 ≤ u1 then x3 else x6)] h Q := by
  simp only [e_104_54, e_104_57, e_104_59, e_104_62]
  repeat' split
  all_goals rfl
theorem b_104_68 (x0 : Int32) (x1 : Int32) (x2 : Int32) (x3 : Int32) (x4 : Int32) (x5 : Int32) (x6 : Int32) (x7 : Int32) (u0 : Int32) (u1 : Int32) (h : tH) (Q : tO → tH → Prop) : AX 0 104 68 [.int x0, .int x1, .int x2, .int x3, .int x4, .int x5, .int x6, .int x7, .float 0] [.int u0, .int u1] h Q = AX 0 104 77 [.int x0, .int x1, .int x2, .int x3, .int x4, .int x5, .int x6, .int x7, .float 0] [.int (if u0 ≤ u1 then x6 else x3)] h Q := by
  simp only [e_104_68, e_104_71, e_104_72, e_104_75]
  repeat' split
  all_goals rfl
set_option maxRecDepth 20000 in
theorem s_104_0 (x0 : Int32) (x1 : Int32) (x2 : Int32) (h : tH) (Q : tO → tH → Prop)  :
    AX 0 104 0 [.int x0, .int x1, .int x2, .float 0, .float 0, .float 0, .float 0, .float 0, .float 0] [] h Q =
    Q (.inl (some (.long (1 <<< (((((((if x2 ≤ (if x1 ≤ x0 then x0 else x1) then (if x1 ≤ x0 then x0 else x1) else x2) * ((if x2 ≤ (if x1 ≤ x0 then x0 else x1) then (if x1 ≤ x0 then x0 else x1) else x2) - 1)) * ((if x2 ≤ (if x1 ≤ x0 then x0 else x1) then (if x1 ≤ x0 then x0 else x1) else x2) - 2)) / 6) + (((if (if x1 ≤ x0 then x1 else x0) ≤ (if x2 ≤ (if x1 ≤ x0 then x0 else x1) then x2 else (if x1 ≤ x0 then x0 else x1)) then (if x2 ≤ (if x1 ≤ x0 then x0 else x1) then x2 else (if x1 ≤ x0 then x0 else x1)) else (if x1 ≤ x0 then x1 else x0)) * ((if (if x1 ≤ x0 then x1 else x0) ≤ (if x2 ≤ (if x1 ≤ x0 then x0 else x1) then x2 else (if x1 ≤ x0 then x0 else x1)) then (if x2 ≤ (if x1 ≤ x0 then x0 else x1) then x2 else (if x1 ≤ x0 then x0 else x1)) else (if x1 ≤ x0 then x1 else x0)) - 1)) / 2)) + (if (if x1 ≤ x0 then x1 else x0) ≤ (if x2 ≤ (if x1 ≤ x0 then x0 else x1) then x2 else (if x1 ≤ x0 then x0 else x1)) then (if x1 ≤ x0 then x1 else x0) else (if x2 ≤ (if x1 ≤ x0 then x0 else x1) then x2 else (if x1 ≤ x0 then x0 else x1)))).toInt64 &&& 63))))) h := by
  rw [e_104_0]
  simp only [e_104_1, b_104_2, e_104_10, e_104_11, e_104_12, b_104_13, e_104_21, e_104_23, e_104_24, b_104_26, e_104_35, e_104_37, e_104_38, b_104_40, e_104_49, e_104_51, e_104_53, b_104_54, e_104_63, e_104_65, e_104_67, b_104_68, e_104_77, e_104_79, e_104_80, e_104_82, e_104_84, e_104_85, e_104_86, e_104_87, e_104_89, e_104_90, e_104_91, e_104_92, e_104_94, e_104_95, e_104_97, e_104_99, e_104_100, e_104_101, e_104_102, e_104_103, e_104_104, e_104_105, e_104_107, e_104_108, e_104_109, t_ai_d2, t_ai_d6, true_and, and_true, or_true, true_or]
theorem am_104 (x0 : Int32) (x1 : Int32) (x2 : Int32) (h : tH) (Q : tO → tH → Prop) : AM 104 [.int x0, .int x1, .int x2] h Q = AX 0 104 0 [.int x0, .int x1, .int x2, .float 0, .float 0, .float 0, .float 0, .float 0, .float 0] [] h Q := AM_at ta_104 _ _ _
-- L_sign
theorem b_105_21 (y0 : Int64) (x2 : Int32) (x3 : Int32) (x4 : Int32) (u0 : Int32) (u1 : Int32) (h : tH) (Q : tO → tH → Prop) : AX 1 105 21 [.long y0, .float 0, .int x2, .int x3, .int x4, .float 0] [.int u0, .int u1] h Q = AX 1 105 29 [.long y0, .float 0, .int x2, .int x3, .int x4, .float 0] [.int (if u1 ≤ u0 then (0 : Int32) else 1)] h Q := by
  simp only [e_105_21, e_105_24, e_105_25, e_105_28]
  repeat' split
  all_goals rfl
theorem b_105_32 (y0 : Int64) (x2 : Int32) (x3 : Int32) (x4 : Int32) (u0 : Int32) (u1 : Int32) (u2 : Int32) (h : tH) (Q : tO → tH → Prop) : AX 1 105 32 [.long y0, .float 0, .int x2, .int x3, .int x4, .float 0] [.int u0, .int u1, .int u2] h Q = AX 1 105 40 [.long y0, .float 0, .int x2, .int x3, .int x4, .float 0] [.int (if u1 ≤ u0 then (0 : Int32) else 1), .int u2] h Q := by
  simp only [e_105_32, e_105_35, e_105_36, e_105_39]
  repeat' split
  all_goals rfl
theorem b_105_44 (y0 : Int64) (x2 : Int32) (x3 : Int32) (x4 : Int32) (u0 : Int32) (u1 : Int32) (u2 : Int32) (h : tH) (Q : tO → tH → Prop) : AX 1 105 44 [.long y0, .float 0, .int x2, .int x3, .int x4, .float 0] [.int u0, .int u1, .int u2] h Q = AX 1 105 52 [.long y0, .float 0, .int x2, .int x3, .int x4, .float 0] [.int (if u1 ≤ u0 then (0 : Int32) else 1), .int u2] h Q := by
  simp only [e_105_44, e_105_47, e_105_48, e_105_51]
  repeat' split
  all_goals rfl
set_option maxRecDepth 20000 in
theorem s_105_0 (y0 : Int64) (x2 : Int32) (x3 : Int32) (x4 : Int32) (h : tH) (Q : tO → tH → Prop)  :
    AX 1 105 0 [.long y0, .float 0, .int x2, .int x3, .int x4, .float 0] [] h Q =
    (if x2 = x3 then AX 1 105 17 [.long y0, .float 0, .int x2, .int x3, .int x4, .float 0] [] h Q else (if x3 = x4 then AX 1 105 17 [.long y0, .float 0, .int x2, .int x3, .int x4, .float 0] [] h Q else (if ¬ x2 = x4 then AM 104 [.int x2, .int x3, .int x4] h (t_kl (fun a1 h1 => (if (lg_cmp (y0 &&& a1) 0) = (0 : Int32) then AX 1 105 88 [.long y0, .float 0, .int x2, .int x3, .int x4, .int (((if x2 ≤ x3 then (0 : Int32) else 1) + (if x3 ≤ x4 then (0 : Int32) else 1)) + (if x2 ≤ x4 then (0 : Int32) else 1))] [.int ((((((if x2 ≤ x3 then (0 : Int32) else 1) + (if x3 ≤ x4 then (0 : Int32) else 1)) + (if x2 ≤ x4 then (0 : Int32) else 1)) - (((if x2 ≤ x3 then (0 : Int32) else 1) + (if x3 ≤ x4 then (0 : Int32) else 1)) + (if x2 ≤ x4 then (0 : Int32) else 1)) / 2 * 2) * 2) - 1)] h1 Q else AX 1 105 88 [.long y0, .float 0, .int x2, .int x3, .int x4, .int (((if x2 ≤ x3 then (0 : Int32) else 1) + (if x3 ≤ x4 then (0 : Int32) else 1)) + (if x2 ≤ x4 then (0 : Int32) else 1))] [.int (1 - (((((if x2 ≤ x3 then (0 : Int32) else 1) + (if x3 ≤ x4 then (0 : Int32) else 1)) + (if x2 ≤ x4 then (0 : Int32) else 1)) - (((if x2 ≤ x3 then (0 : Int32) else 1) + (if x3 ≤ x4 then (0 : Int32) else 1)) + (if x2 ≤ x4 then (0 : Int32) else 1)) / 2 * 2) * 2))] h1 Q)) Q) else AX 1 105 17 [.long y0, .float 0, .int x2, .int x3, .int x4, .float 0] [] h Q))) := by
  rw [e_105_0]
  simp only [e_105_1, e_105_2, e_105_5, e_105_6, e_105_8, e_105_11, e_105_12, e_105_14, e_105_19, e_105_20, b_105_21, e_105_29, e_105_30, b_105_32, e_105_40, e_105_41, e_105_42, b_105_44, e_105_52, e_105_53, e_105_55, e_105_56, e_105_57, e_105_58, e_105_60, e_105_63, e_105_64, e_105_65, e_105_66, e_105_80, e_105_82, e_105_83, e_105_84, e_105_85, e_105_86, e_105_87, e_105_69, e_105_70, e_105_72, e_105_73, e_105_74, e_105_75, e_105_76, e_105_77, t_ai_d2, true_and, and_true, or_true, true_or]
set_option maxRecDepth 20000 in
theorem s_105_17 (y0 : Int64) (x2 : Int32) (x3 : Int32) (x4 : Int32) (h : tH) (Q : tO → tH → Prop)  :
    AX 1 105 17 [.long y0, .float 0, .int x2, .int x3, .int x4, .float 0] [] h Q =
    Q (.inl (some (.int 0))) h := by
  rw [e_105_17]
  simp only [e_105_18, true_and, and_true, or_true, true_or]
set_option maxRecDepth 20000 in
theorem s_105_88 (y0 : Int64) (x2 : Int32) (x3 : Int32) (x4 : Int32) (x5 : Int32) (u0 : Int32) (h : tH) (Q : tO → tH → Prop)  :
    AX 1 105 88 [.long y0, .float 0, .int x2, .int x3, .int x4, .int x5] [.int u0] h Q =
    Q (.inl (some (.int u0))) h := by
  rw [e_105_88]
theorem am_105 (y0 : Int64) (x2 : Int32) (x3 : Int32) (x4 : Int32) (h : tH) (Q : tO → tH → Prop) : AM 105 [.long y0, .int x2, .int x3, .int x4] h Q = AX 1 105 0 [.long y0, .float 0, .int x2, .int x3, .int x4, .float 0] [] h Q := AM_at ta_105 _ _ _
-- L_holds
set_option maxRecDepth 20000 in
theorem s_106_0 (y0 : Int64) (x2 : Int32) (h : tH) (Q : tO → tH → Prop)  :
    AX 2 106 0 [.long y0, .float 0, .int x2, .float 0, .float 0, .float 0, .float 0, .float 0, .float 0, .float 0] [] h Q =
    AX 2 106 2 [.long y0, .float 0, .int x2, .int 0, .float 0, .float 0, .float 0, .float 0, .float 0, .float 0] [] h Q := by
  rw [e_106_0]
  simp only [e_106_1, true_and, and_true, or_true, true_or]
set_option maxRecDepth 20000 in
theorem s_106_2 (y0 : Int64) (x2 : Int32) (x3 : Int32) (w4 : Value) (w5 : Value) (w6 : Value) (w7 : Value) (w8 : Value) (w9 : Value) (h : tH) (Q : tO → tH → Prop)  :
    AX 2 106 2 [.long y0, .float 0, .int x2, .int x3, w4, w5, w6, w7, w8, w9] [] h Q =
    (if x2 ≤ x3 then Q (.inl (some (.int 1))) h else AX 2 106 12 [.long y0, .float 0, .int x2, .int x3, .int (x3 + 1), w5, w6, w7, w8, w9] [] h Q) := by
  rw [e_106_2]
  simp only [e_106_3, e_106_4, e_106_217, e_106_218, t_z1, e_106_7, e_106_8, e_106_9, e_106_10, true_and, and_true, or_true, true_or]
set_option maxRecDepth 20000 in
theorem s_106_12 (y0 : Int64) (x2 : Int32) (x3 : Int32) (x4 : Int32) (w5 : Value) (w6 : Value) (w7 : Value) (w8 : Value) (w9 : Value) (h : tH) (Q : tO → tH → Prop)  :
    AX 2 106 12 [.long y0, .float 0, .int x2, .int x3, .int x4, w5, w6, w7, w8, w9] [] h Q =
    (if x2 ≤ x4 then AX 2 106 2 [.long y0, .float 0, .int x2, .int (x3 + 1), .int x4, w5, w6, w7, w8, w9] [] h Q else AX 2 106 24 [.long y0, .float 0, .int x2, .int x3, .int x4, .int (x4 + 1), w6, w7, w8, w9] [] h Q) := by
  rw [e_106_12]
  simp only [e_106_14, e_106_15, e_106_211, e_106_214, e_106_18, e_106_20, e_106_21, e_106_22, true_and, and_true, or_true, true_or]
set_option maxRecDepth 20000 in
theorem s_106_24 (y0 : Int64) (x2 : Int32) (x3 : Int32) (x4 : Int32) (x5 : Int32) (w6 : Value) (w7 : Value) (w8 : Value) (w9 : Value) (h : tH) (Q : tO → tH → Prop)  :
    AX 2 106 24 [.long y0, .float 0, .int x2, .int x3, .int x4, .int x5, w6, w7, w8, w9] [] h Q =
    (if x2 ≤ x5 then AX 2 106 12 [.long y0, .float 0, .int x2, .int x3, .int (x4 + 1), .int x5, w6, w7, w8, w9] [] h Q else AX 2 106 36 [.long y0, .float 0, .int x2, .int x3, .int x4, .int x5, .int (x5 + 1), w7, w8, w9] [] h Q) := by
  rw [e_106_24]
  simp only [e_106_26, e_106_27, e_106_205, e_106_208, e_106_30, e_106_32, e_106_33, e_106_34, true_and, and_true, or_true, true_or]
set_option maxRecDepth 20000 in
theorem s_106_36 (y0 : Int64) (x2 : Int32) (x3 : Int32) (x4 : Int32) (x5 : Int32) (x6 : Int32) (w7 : Value) (w8 : Value) (w9 : Value) (h : tH) (Q : tO → tH → Prop)  :
    AX 2 106 36 [.long y0, .float 0, .int x2, .int x3, .int x4, .int x5, .int x6, w7, w8, w9] [] h Q =
    (if x2 ≤ x6 then AX 2 106 24 [.long y0, .float 0, .int x2, .int x3, .int x4, .int (x5 + 1), .int x6, w7, w8, w9] [] h Q else AM 105 [.long y0, .int x4, .int x5, .int x6] h (t_ki (fun a1 h1 => AM 105 [.long y0, .int x3, .int x6, .int x5] h1 (t_ki (fun a2 h2 => AM 105 [.long y0, .int x3, .int x4, .int x6] h2 (t_ki (fun a3 h3 => AM 105 [.long y0, .int x3, .int x5, .int x4] h3 (t_ki (fun a4 h4 => (if (((a1 + a2) + a3) + a4) = (4 : Int32) then AX 2 106 97 [.long y0, .float 0, .int x2, .int x3, .int x4, .int x5, .int x6, .int (((a1 + a2) + a3) + a4), w8, w9] [] h4 Q else (if ¬ (((a1 + a2) + a3) + a4) = ((-4) : Int32) then AX 2 106 102 [.long y0, .float 0, .int x2, .int x3, .int x4, .int x5, .int x6, .int (((a1 + a2) + a3) + a4), .int 0, w9] [] h4 Q else AX 2 106 97 [.long y0, .float 0, .int x2, .int x3, .int x4, .int x5, .int x6, .int (((a1 + a2) + a3) + a4), w8, w9] [] h4 Q))) Q)) Q)) Q)) Q)) := by
  rw [e_106_36]
  simp only [e_106_38, e_106_39, e_106_199, e_106_202, e_106_42, e_106_43, e_106_45, e_106_47, e_106_49, e_106_52, e_106_53, e_106_54, e_106_56, e_106_58, e_106_61, e_106_62, e_106_63, e_106_64, e_106_66, e_106_68, e_106_71, e_106_72, e_106_73, e_106_74, e_106_76, e_106_78, e_106_81, e_106_82, e_106_84, e_106_86, e_106_87, e_106_90, e_106_92, e_106_94, e_106_99, e_106_100, true_and, and_true, or_true, true_or]
set_option maxRecDepth 20000 in
theorem s_106_97 (y0 : Int64) (x2 : Int32) (x3 : Int32) (x4 : Int32) (x5 : Int32) (x6 : Int32) (x7 : Int32) (w8 : Value) (w9 : Value) (h : tH) (Q : tO → tH → Prop)  :
    AX 2 106 97 [.long y0, .float 0, .int x2, .int x3, .int x4, .int x5, .int x6, .int x7, w8, w9] [] h Q =
    Q (.inl (some (.int 0))) h := by
  rw [e_106_97]
  simp only [e_106_98, t_z0, true_and, and_true, or_true, true_or]
set_option maxRecDepth 20000 in
theorem s_106_102 (y0 : Int64) (x2 : Int32) (x3 : Int32) (x4 : Int32) (x5 : Int32) (x6 : Int32) (x7 : Int32) (x8 : Int32) (w9 : Value) (h : tH) (Q : tO → tH → Prop)  :
    AX 2 106 102 [.long y0, .float 0, .int x2, .int x3, .int x4, .int x5, .int x6, .int x7, .int x8, w9] [] h Q =
    (if x2 ≤ x8 then AX 2 106 36 [.long y0, .float 0, .int x2, .int x3, .int x4, .int x5, .int (x6 + 1), .int x7, .int x8, w9] [] h Q else AM 105 [.long y0, .int x8, .int x3, .int x4] h (t_ki (fun a1 h1 => AM 105 [.long y0, .int x8, .int x5, .int x6] h1 (t_ki (fun a2 h2 => AM 105 [.long y0, .int x8, .int x3, .int x5] h2 (t_ki (fun a3 h3 => AM 105 [.long y0, .int x8, .int x6, .int x4] h3 (t_ki (fun a4 h4 => AM 105 [.long y0, .int x8, .int x3, .int x6] h4 (t_ki (fun a5 h5 => AM 105 [.long y0, .int x8, .int x4, .int x5] h5 (t_ki (fun a6 h6 => (if (((a1 * a2) + (a3 * a4)) + (a5 * a6)) = (3 : Int32) then AX 2 106 185 [.long y0, .float 0, .int x2, .int x3, .int x4, .int x5, .int x6, .int x7, .int x8, .int (((a1 * a2) + (a3 * a4)) + (a5 * a6))] [] h6 Q else (if ¬ (((a1 * a2) + (a3 * a4)) + (a5 * a6)) = ((-3) : Int32) then AX 2 106 102 [.long y0, .float 0, .int x2, .int x3, .int x4, .int x5, .int x6, .int x7, .int (x8 + 1), .int (((a1 * a2) + (a3 * a4)) + (a5 * a6))] [] h6 Q else AX 2 106 185 [.long y0, .float 0, .int x2, .int x3, .int x4, .int x5, .int x6, .int x7, .int x8, .int (((a1 * a2) + (a3 * a4)) + (a5 * a6))] [] h6 Q))) Q)) Q)) Q)) Q)) Q)) Q)) := by
  rw [e_106_102]
  simp only [e_106_104, e_106_105, e_106_193, e_106_196, e_106_108, e_106_109, e_106_111, e_106_112, e_106_114, e_106_117, e_106_118, e_106_120, e_106_122, e_106_124, e_106_127, e_106_128, e_106_129, e_106_131, e_106_132, e_106_134, e_106_137, e_106_138, e_106_140, e_106_142, e_106_144, e_106_147, e_106_148, e_106_149, e_106_150, e_106_152, e_106_153, e_106_155, e_106_158, e_106_159, e_106_161, e_106_163, e_106_165, e_106_168, e_106_169, e_106_170, e_106_172, e_106_174, e_106_175, e_106_178, e_106_180, e_106_182, e_106_187, e_106_190, true_and, and_true, or_true, true_or]
set_option maxRecDepth 20000 in
theorem s_106_185 (y0 : Int64) (x2 : Int32) (x3 : Int32) (x4 : Int32) (x5 : Int32) (x6 : Int32) (x7 : Int32) (x8 : Int32) (x9 : Int32) (h : tH) (Q : tO → tH → Prop)  :
    AX 2 106 185 [.long y0, .float 0, .int x2, .int x3, .int x4, .int x5, .int x6, .int x7, .int x8, .int x9] [] h Q =
    Q (.inl (some (.int 0))) h := by
  rw [e_106_185]
  simp only [e_106_186, t_z0, true_and, and_true, or_true, true_or]
theorem am_106 (y0 : Int64) (x2 : Int32) (h : tH) (Q : tO → tH → Prop) : AM 106 [.long y0, .int x2] h Q = AX 2 106 0 [.long y0, .float 0, .int x2, .float 0, .float 0, .float 0, .float 0, .float 0, .float 0, .float 0] [] h Q := AM_at ta_106 _ _ _
-- L_crosses
set_option maxRecDepth 20000 in
theorem s_107_0 (y0 : Int64) (x2 : Int32) (x3 : Int32) (x4 : Int32) (x5 : Int32) (h : tH) (Q : tO → tH → Prop)  :
    AX 2 107 0 [.long y0, .float 0, .int x2, .int x3, .int x4, .int x5] [] h Q =
    (if x2 = x4 then AX 2 107 72 [.long y0, .float 0, .int x2, .int x3, .int x4, .int x5] [] h Q else (if x2 = x5 then AX 2 107 72 [.long y0, .float 0, .int x2, .int x3, .int x4, .int x5] [] h Q else (if x3 = x4 then AX 2 107 72 [.long y0, .float 0, .int x2, .int x3, .int x4, .int x5] [] h Q else (if x3 = x5 then AX 2 107 72 [.long y0, .float 0, .int x2, .int x3, .int x4, .int x5] [] h Q else AM 105 [.long y0, .int x2, .int x3, .int x4] h (t_ki (fun a1 h1 => AM 105 [.long y0, .int x2, .int x3, .int x5] h1 (t_ki (fun a2 h2 => (if ¬ (a1 * a2) = ((-1) : Int32) then AX 2 107 72 [.long y0, .float 0, .int x2, .int x3, .int x4, .int x5] [] h2 Q else AM 105 [.long y0, .int x4, .int x5, .int x2] h2 (t_ki (fun a3 h3 => AM 105 [.long y0, .int x4, .int x5, .int x3] h3 (t_ki (fun a4 h4 => (if ¬ (a3 * a4) = ((-1) : Int32) then AX 2 107 72 [.long y0, .float 0, .int x2, .int x3, .int x4, .int x5] [] h4 Q else AX 2 107 73 [.long y0, .float 0, .int x2, .int x3, .int x4, .int x5] [.int 1] h4 Q)) Q)) Q))) Q)) Q))))) := by
  rw [e_107_0]
  simp only [e_107_1, e_107_3, e_107_6, e_107_7, e_107_9, e_107_12, e_107_13, e_107_15, e_107_18, e_107_19, e_107_21, e_107_24, e_107_25, e_107_26, e_107_27, e_107_29, e_107_32, e_107_33, e_107_34, e_107_35, e_107_37, e_107_40, e_107_41, e_107_42, e_107_45, e_107_46, e_107_48, e_107_50, e_107_51, e_107_54, e_107_55, e_107_57, e_107_59, e_107_60, e_107_63, e_107_64, e_107_65, e_107_68, e_107_69, true_and, and_true, or_true, true_or]
set_option maxRecDepth 20000 in
theorem s_107_72 (y0 : Int64) (x2 : Int32) (x3 : Int32) (x4 : Int32) (x5 : Int32) (h : tH) (Q : tO → tH → Prop)  :
    AX 2 107 72 [.long y0, .float 0, .int x2, .int x3, .int x4, .int x5] [] h Q =
    AX 2 107 73 [.long y0, .float 0, .int x2, .int x3, .int x4, .int x5] [.int 0] h Q := by
  rw [e_107_72]
set_option maxRecDepth 20000 in
theorem s_107_73 (y0 : Int64) (x2 : Int32) (x3 : Int32) (x4 : Int32) (x5 : Int32) (u0 : Int32) (h : tH) (Q : tO → tH → Prop)  :
    AX 2 107 73 [.long y0, .float 0, .int x2, .int x3, .int x4, .int x5] [.int u0] h Q =
    (((u0 : Int32) = 0 ∨ (u0 : Int32) = 1) ∧ Q (.inl (some (.int u0))) h) := by
  rw [e_107_73]
theorem am_107 (y0 : Int64) (x2 : Int32) (x3 : Int32) (x4 : Int32) (x5 : Int32) (h : tH) (Q : tO → tH → Prop) : AM 107 [.long y0, .int x2, .int x3, .int x4, .int x5] h Q = AX 2 107 0 [.long y0, .float 0, .int x2, .int x3, .int x4, .int x5] [] h Q := AM_at ta_107 _ _ _
-- L_isIn
theorem b_108_33 (y0 : Int64) (x2 : Int32) (x3 : Int32) (x4 : Int32) (x5 : Int32) (x6 : Int32) (u0 : Int32) (u1 : Int32) (h : tH) (Q : tO → tH → Prop) : AX 2 108 33 [.long y0, .float 0, .int x2, .int x3, .int x4, .int x5, .int x6] [.int u0, .int u1] h Q = AX 2 108 48 [.long y0, .float 0, .int x2, .int x3, .int x4, .int x5, .int x6] [.int (if u1 = u0 then (1 : Int32) else (if ¬ x6 = ((-3) : Int32) then (0 : Int32) else 1))] h Q := by
  simp only [e_108_33, e_108_36, e_108_38, e_108_40, e_108_43, e_108_44, e_108_47]
  repeat' split
  all_goals rfl
set_option maxRecDepth 20000 in
theorem s_108_0 (y0 : Int64) (x2 : Int32) (x3 : Int32) (x4 : Int32) (x5 : Int32) (h : tH) (Q : tO → tH → Prop)  :
    AX 2 108 0 [.long y0, .float 0, .int x2, .int x3, .int x4, .int x5, .float 0] [] h Q =
    AM 105 [.long y0, .int x2, .int x3, .int x5] h (t_ki (fun a1 h1 => AM 105 [.long y0, .int x3, .int x4, .int x5] h1 (t_ki (fun a2 h2 => AM 105 [.long y0, .int x4, .int x2, .int x5] h2 (t_ki (fun a3 h3 => ((((if ((a1 + a2) + a3) = 3 then (1 : Int32) else (if ¬ ((a1 + a2) + a3) = ((-3) : Int32) then (0 : Int32) else 1)) : Int32) = 0 ∨ ((if ((a1 + a2) + a3) = 3 then (1 : Int32) else (if ¬ ((a1 + a2) + a3) = ((-3) : Int32) then (0 : Int32) else 1)) : Int32) = 1) ∧ Q (.inl (some (.int (if ((a1 + a2) + a3) = 3 then (1 : Int32) else (if ¬ ((a1 + a2) + a3) = ((-3) : Int32) then (0 : Int32) else 1))))) h3)) Q)) Q)) Q) := by
  rw [e_108_0]
  simp only [e_108_1, e_108_2, e_108_3, e_108_5, e_108_8, e_108_9, e_108_10, e_108_12, e_108_14, e_108_17, e_108_18, e_108_19, e_108_21, e_108_22, e_108_24, e_108_27, e_108_28, e_108_30, e_108_32, b_108_33, e_108_48, true_and, and_true, or_true, true_or]
theorem am_108 (y0 : Int64) (x2 : Int32) (x3 : Int32) (x4 : Int32) (x5 : Int32) (h : tH) (Q : tO → tH → Prop) : AM 108 [.long y0, .int x2, .int x3, .int x4, .int x5] h Q = AX 2 108 0 [.long y0, .float 0, .int x2, .int x3, .int x4, .int x5, .float 0] [] h Q := AM_at ta_108 _ _ _
-- L_follows
theorem b_109_13 (y0 : Int64) (x2 : Int32) (x3 : Int32) (x4 : Int32) (x5 : Int32) (w6 : Value) (w7 : Value) (u0 : Int32) (u1 : Int32) (h : tH) (Q : tO → tH → Prop) : AX 2 109 13 [.long y0, .float 0, .int x2, .int x3, .int x4, .int x5, w6, w7] [.int u0, .int u1] h Q = AX 2 109 31 [.long y0, .float 0, .int x2, .int x3, .int x4, .int x5, w6, w7] [.int (if u1 = u0 then (0 : Int32) else (if ¬ ((x3 >>> (x5 &&& 31)) &&& 1) = (1 : Int32) then (0 : Int32) else 1))] h Q := by
  simp only [e_109_13, e_109_16, e_109_17, e_109_19, e_109_20, e_109_21, e_109_22, e_109_23, e_109_26, e_109_27, e_109_30]
  repeat' split
  all_goals rfl
theorem b_109_76 (y0 : Int64) (x2 : Int32) (x3 : Int32) (x4 : Int32) (x5 : Int32) (x6 : Int32) (x7 : Int32) (u0 : Int32) (h : tH) (Q : tO → tH → Prop) : AX 2 109 76 [.long y0, .float 0, .int x2, .int x3, .int x4, .int x5, .int x6, .int x7] [.int u0] h Q = AX 2 109 82 [.long y0, .float 0, .int x2, .int x3, .int x4, .int x5, .int (if (0 : Int32) ≤ u0 then x6 else 0), .int x7] [] h Q := by
  simp only [e_109_76, e_109_79, e_109_80]
  repeat' split
  all_goals rfl
set_option maxRecDepth 20000 in
theorem s_109_0 (y0 : Int64) (x2 : Int32) (x3 : Int32) (x4 : Int32) (h : tH) (Q : tO → tH → Prop)  :
    AX 2 109 0 [.long y0, .float 0, .int x2, .int x3, .int x4, .float 0, .float 0, .float 0] [] h Q =
    AX 2 109 3 [.long y0, .float 0, .int x2, .int x3, .int x4, .int 0, .float 0, .float 0] [] h Q := by
  rw [e_109_0]
  simp only [e_109_1, true_and, and_true, or_true, true_or]
set_option maxRecDepth 20000 in
theorem s_109_3 (y0 : Int64) (x2 : Int32) (x3 : Int32) (x4 : Int32) (x5 : Int32) (w6 : Value) (w7 : Value) (h : tH) (Q : tO → tH → Prop)  :
    AX 2 109 3 [.long y0, .float 0, .int x2, .int x3, .int x4, .int x5, w6, w7] [] h Q =
    (if x2 ≤ x5 then Q (.inl (some (.int (-1)))) h else AX 2 109 36 [.long y0, .float 0, .int x2, .int x3, .int x4, .int x5, .int (if x5 = x4 then (0 : Int32) else (if ¬ ((x3 >>> (x5 &&& 31)) &&& 1) = (1 : Int32) then (0 : Int32) else 1)), .int 0] [] h Q) := by
  rw [e_109_3]
  simp only [e_109_5, e_109_6, e_109_102, e_109_103, e_109_9, e_109_11, b_109_13, e_109_31, e_109_33, e_109_34, true_and, and_true, or_true, true_or]
set_option maxRecDepth 20000 in
theorem s_109_36 (y0 : Int64) (x2 : Int32) (x3 : Int32) (x4 : Int32) (x5 : Int32) (x6 : Int32) (x7 : Int32) (h : tH) (Q : tO → tH → Prop)  :
    AX 2 109 36 [.long y0, .float 0, .int x2, .int x3, .int x4, .int x5, .int x6, .int x7] [] h Q =
    (if x2 ≤ x7 then (if x6 = (0 : Int32) then AX 2 109 3 [.long y0, .float 0, .int x2, .int x3, .int x4, .int (x5 + 1), .int x6, .int x7] [] h Q else Q (.inl (some (.int x5))) h) else (if x7 = x4 then AX 2 109 82 [.long y0, .float 0, .int x2, .int x3, .int x4, .int x5, .int x6, .int x7] [] h Q else (if x7 = x5 then AX 2 109 82 [.long y0, .float 0, .int x2, .int x3, .int x4, .int x5, .int x6, .int x7] [] h Q else (if ¬ ((x3 >>> (x7 &&& 31)) &&& 1) = (1 : Int32) then AX 2 109 82 [.long y0, .float 0, .int x2, .int x3, .int x4, .int x5, .int x6, .int x7] [] h Q else AM 105 [.long y0, .int x4, .int x5, .int x7] h (t_ki (fun a1 h1 => AX 2 109 82 [.long y0, .float 0, .int x2, .int x3, .int x4, .int x5, .int (if (0 : Int32) ≤ a1 then x6 else 0), .int x7] [] h1 Q) Q))))) := by
  rw [e_109_36]
  simp only [e_109_38, e_109_39, e_109_88, e_109_90, e_109_96, e_109_99, e_109_93, e_109_95, e_109_42, e_109_44, e_109_46, e_109_49, e_109_51, e_109_53, e_109_56, e_109_57, e_109_59, e_109_60, e_109_61, e_109_62, e_109_63, e_109_66, e_109_67, e_109_69, e_109_71, e_109_73, b_109_76, true_and, and_true, or_true, true_or]
set_option maxRecDepth 20000 in
theorem s_109_82 (y0 : Int64) (x2 : Int32) (x3 : Int32) (x4 : Int32) (x5 : Int32) (x6 : Int32) (x7 : Int32) (h : tH) (Q : tO → tH → Prop)  :
    AX 2 109 82 [.long y0, .float 0, .int x2, .int x3, .int x4, .int x5, .int x6, .int x7] [] h Q =
    AX 2 109 36 [.long y0, .float 0, .int x2, .int x3, .int x4, .int x5, .int x6, .int (x7 + 1)] [] h Q := by
  rw [e_109_82]
  simp only [e_109_85, true_and, and_true, or_true, true_or]
theorem am_109 (y0 : Int64) (x2 : Int32) (x3 : Int32) (x4 : Int32) (h : tH) (Q : tO → tH → Prop) : AM 109 [.long y0, .int x2, .int x3, .int x4] h Q = AX 2 109 0 [.long y0, .float 0, .int x2, .int x3, .int x4, .float 0, .float 0, .float 0] [] h Q := AM_at ta_109 _ _ _
-- L_hull
theorem b_110_67 (y0 : Int64) (x2 : Int32) (x3 : Int32) (x4 : Int32) (x5 : Int32) (x6 : Int32) (u0 : Int32) (h : tH) (Q : tO → tH → Prop) : AX 3 110 67 [.long y0, .float 0, .int x2, .int x3, .int x4, .int x5, .int x6] [.int u0] h Q = AX 3 110 79 [.long y0, .float 0, .int x2, .int x3, .int (if u0 < (0 : Int32) then x4 else x4 ||| (1 <<< (x6 &&& 31))), .int x5, .int x6] [] h Q := by
  simp only [e_110_67, e_110_70, e_110_72, e_110_73, e_110_75, e_110_76, e_110_77]
  repeat' split
  all_goals rfl
set_option maxRecDepth 20000 in
theorem s_110_0 (y0 : Int64) (x2 : Int32) (x3 : Int32) (h : tH) (Q : tO → tH → Prop)  :
    AX 3 110 0 [.long y0, .float 0, .int x2, .int x3, .float 0, .float 0, .float 0] [] h Q =
    AX 3 110 9 [.long y0, .float 0, .int x2, .int x3, .int 0, .int 0, .int 0] [] h Q := by
  rw [e_110_0]
  simp only [e_110_1, e_110_3, e_110_4, e_110_6, e_110_7, true_and, and_true, or_true, true_or]
set_option maxRecDepth 20000 in
theorem s_110_9 (y0 : Int64) (x2 : Int32) (x3 : Int32) (x4 : Int32) (x5 : Int32) (x6 : Int32) (h : tH) (Q : tO → tH → Prop)  :
    AX 3 110 9 [.long y0, .float 0, .int x2, .int x3, .int x4, .int x5, .int x6] [] h Q =
    (if x2 ≤ x6 then (if (3 : Int32) ≤ x5 then AX 3 110 43 [.long y0, .float 0, .int x2, .int x3, .int x4, .int x5, .int 0] [] h Q else Q (.inl (some (.int x3))) h) else AX 3 110 9 [.long y0, .float 0, .int x2, .int x3, .int x4, .int (x5 + ((x3 >>> (x6 &&& 31)) &&& 1)), .int (x6 + 1)] [] h Q) := by
  rw [e_110_9]
  simp only [e_110_11, e_110_12, e_110_32, e_110_34, e_110_35, e_110_40, e_110_41, e_110_38, e_110_39, e_110_15, e_110_17, e_110_18, e_110_20, e_110_21, e_110_22, e_110_23, e_110_24, e_110_26, e_110_29, true_and, and_true, or_true, true_or]
set_option maxRecDepth 20000 in
theorem s_110_43 (y0 : Int64) (x2 : Int32) (x3 : Int32) (x4 : Int32) (x5 : Int32) (x6 : Int32) (h : tH) (Q : tO → tH → Prop)  :
    AX 3 110 43 [.long y0, .float 0, .int x2, .int x3, .int x4, .int x5, .int x6] [] h Q =
    (if x2 ≤ x6 then Q (.inl (some (.int x4))) h else (if ¬ ((x3 >>> (x6 &&& 31)) &&& 1) = (1 : Int32) then AX 3 110 79 [.long y0, .float 0, .int x2, .int x3, .int x4, .int x5, .int x6] [] h Q else AM 109 [.long y0, .int x2, .int x3, .int x6] h (t_ki (fun a1 h1 => AX 3 110 79 [.long y0, .float 0, .int x2, .int x3, .int (if a1 < (0 : Int32) then x4 else x4 ||| (1 <<< (x6 &&& 31))), .int x5, .int x6] [] h1 Q) Q))) := by
  rw [e_110_43]
  simp only [e_110_45, e_110_46, e_110_85, e_110_87, e_110_49, e_110_50, e_110_52, e_110_53, e_110_54, e_110_55, e_110_56, e_110_59, e_110_60, e_110_61, e_110_62, e_110_64, b_110_67, true_and, and_true, or_true, true_or]
set_option maxRecDepth 20000 in
theorem s_110_79 (y0 : Int64) (x2 : Int32) (x3 : Int32) (x4 : Int32) (x5 : Int32) (x6 : Int32) (h : tH) (Q : tO → tH → Prop)  :
    AX 3 110 79 [.long y0, .float 0, .int x2, .int x3, .int x4, .int x5, .int x6] [] h Q =
    AX 3 110 43 [.long y0, .float 0, .int x2, .int x3, .int x4, .int x5, .int (x6 + 1)] [] h Q := by
  rw [e_110_79]
  simp only [e_110_82, true_and, and_true, or_true, true_or]
theorem am_110 (y0 : Int64) (x2 : Int32) (x3 : Int32) (h : tH) (Q : tO → tH → Prop) : AM 110 [.long y0, .int x2, .int x3] h Q = AX 3 110 0 [.long y0, .float 0, .int x2, .int x3, .float 0, .float 0, .float 0] [] h Q := AM_at ta_110 _ _ _
-- L_renamedSign
theorem b_111_3 (y0 : Int64) (x2 : Int32) (x3 : Int32) (x4 : Int32) (x5 : Int32) (x6 : Int32) (u0 : Int32) (u1 : Int32) (h : tH) (Q : tO → tH → Prop) : AX 2 111 3 [.long y0, .float 0, .int x2, .int x3, .int x4, .int x5, .int x6, .float 0, .float 0, .float 0] [.int u0, .int u1] h Q = AX 2 111 22 [.long y0, .float 0, .int x2, .int x3, .int x4, .int x5, .int x6, .float 0, .float 0, .float 0] [.int (if ¬ u1 = u0 then (if ¬ x4 = x3 then x4 else x2) else x3)] h Q := by
  simp only [e_111_3, e_111_6, e_111_7, e_111_10, e_111_12, e_111_13, e_111_16, e_111_17, e_111_20]
  repeat' split
  all_goals rfl
theorem b_111_27 (y0 : Int64) (x2 : Int32) (x3 : Int32) (x4 : Int32) (x5 : Int32) (x6 : Int32) (x7 : Int32) (u0 : Int32) (u1 : Int32) (h : tH) (Q : tO → tH → Prop) : AX 2 111 27 [.long y0, .float 0, .int x2, .int x3, .int x4, .int x5, .int x6, .int x7, .float 0, .float 0] [.int u0, .int u1] h Q = AX 2 111 46 [.long y0, .float 0, .int x2, .int x3, .int x4, .int x5, .int x6, .int x7, .float 0, .float 0] [.int (if ¬ u1 = u0 then (if ¬ x5 = x3 then x5 else x2) else x3)] h Q := by
  simp only [e_111_27, e_111_30, e_111_31, e_111_34, e_111_36, e_111_37, e_111_40, e_111_41, e_111_44]
  repeat' split
  all_goals rfl
theorem b_111_51 (y0 : Int64) (x2 : Int32) (x3 : Int32) (x4 : Int32) (x5 : Int32) (x6 : Int32) (x7 : Int32) (x8 : Int32) (u0 : Int32) (u1 : Int32) (h : tH) (Q : tO → tH → Prop) : AX 2 111 51 [.long y0, .float 0, .int x2, .int x3, .int x4, .int x5, .int x6, .int x7, .int x8, .float 0] [.int u0, .int u1] h Q = AX 2 111 70 [.long y0, .float 0, .int x2, .int x3, .int x4, .int x5, .int x6, .int x7, .int x8, .float 0] [.int (if ¬ u1 = u0 then (if ¬ x6 = x3 then x6 else x2) else x3)] h Q := by
  simp only [e_111_51, e_111_54, e_111_55, e_111_58, e_111_60, e_111_61, e_111_64, e_111_65, e_111_68]
  repeat' split
  all_goals rfl
theorem b_111_82 (y0 : Int64) (x2 : Int32) (x3 : Int32) (x4 : Int32) (x5 : Int32) (x6 : Int32) (x7 : Int32) (x8 : Int32) (x9 : Int32) (u0 : Int32) (h : tH) (Q : tO → tH → Prop) : AX 2 111 82 [.long y0, .float 0, .int x2, .int x3, .int x4, .int x5, .int x6, .int x7, .int x8, .int x9] [.int u0] h Q = AX 2 111 90 [.long y0, .float 0, .int x2, .int x3, .int x4, .int x5, .int x6, .int x7, .int x8, .int x9] [.int (if u0 ≤ (0 : Int32) then (0 : Int32) else 1)] h Q := by
  simp only [e_111_82, e_111_85, e_111_86, e_111_89]
  repeat' split
  all_goals rfl
set_option maxRecDepth 20000 in
theorem s_111_0 (y0 : Int64) (x2 : Int32) (x3 : Int32) (x4 : Int32) (x5 : Int32) (x6 : Int32) (h : tH) (Q : tO → tH → Prop)  :
    AX 2 111 0 [.long y0, .float 0, .int x2, .int x3, .int x4, .int x5, .int x6, .float 0, .float 0, .float 0] [] h Q =
    AM 105 [.long y0, .int (if ¬ x4 = x2 then (if ¬ x4 = x3 then x4 else x2) else x3), .int (if ¬ x5 = x2 then (if ¬ x5 = x3 then x5 else x2) else x3), .int (if ¬ x6 = x2 then (if ¬ x6 = x3 then x6 else x2) else x3)] h (t_ki (fun a1 h1 => ((((if a1 ≤ (0 : Int32) then (0 : Int32) else 1) : Int32) = 0 ∨ ((if a1 ≤ (0 : Int32) then (0 : Int32) else 1) : Int32) = 1) ∧ Q (.inl (some (.int (if a1 ≤ (0 : Int32) then (0 : Int32) else 1)))) h1)) Q) := by
  rw [e_111_0]
  simp only [e_111_2, b_111_3, e_111_22, e_111_24, e_111_26, b_111_27, e_111_46, e_111_48, e_111_50, b_111_51, e_111_70, e_111_72, e_111_73, e_111_75, e_111_77, e_111_79, b_111_82, e_111_90, true_and, and_true, or_true, true_or]
theorem am_111 (y0 : Int64) (x2 : Int32) (x3 : Int32) (x4 : Int32) (x5 : Int32) (x6 : Int32) (h : tH) (Q : tO → tH → Prop) : AM 111 [.long y0, .int x2, .int x3, .int x4, .int x5, .int x6] h Q = AX 2 111 0 [.long y0, .float 0, .int x2, .int x3, .int x4, .int x5, .int x6, .float 0, .float 0, .float 0] [] h Q := AM_at ta_111 _ _ _
-- L_other
theorem b_113_112 (y0 : Int64) (x2 : Int32) (r3 : Nat) (x4 : Int32) (x5 : Int32) (x6 : Int32) (x7 : Int32) (x8 : Int32) (x9 : Int32) (x10 : Int32) (u0 : Int32) (h : tH) (Q : tO → tH → Prop) : AX 3 113 112 [.long y0, .float 0, .int x2, .ref r3, .int x4, .int x5, .int x6, .int x7, .int x8, .int x9, .int x10] [.int u0] h Q = AX 3 113 118 [.long y0, .float 0, .int x2, .ref r3, .int x4, .int x5, .int x6, .int x7, .int x8, .int (if u0 = (0 : Int32) then x9 else 0), .int x10] [] h Q := by
  simp only [e_113_112, e_113_115, e_113_116]
  repeat' split
  all_goals rfl
theorem b_113_139 (y0 : Int64) (x2 : Int32) (r3 : Nat) (x4 : Int32) (x5 : Int32) (x6 : Int32) (x7 : Int32) (x8 : Int32) (x9 : Int32) (x10 : Int32) (u0 : Int32) (h : tH) (Q : tO → tH → Prop) : AX 3 113 139 [.long y0, .float 0, .int x2, .ref r3, .int x4, .int x5, .int x6, .int x7, .int x8, .int x9, .int x10] [.int u0] h Q = AX 3 113 146 [.long y0, .float 0, .int x2, .ref r3, .int x4, .int x5, .int (if u0 ≤ (0 : Int32) then x6 else x8), .int x7, .int x8, .int x9, .int x10] [] h Q := by
  simp only [e_113_139, e_113_142, e_113_144]
  repeat' split
  all_goals rfl
theorem b_113_161 (y0 : Int64) (x2 : Int32) (r3 : Nat) (x4 : Int32) (x5 : Int32) (x6 : Int32) (x7 : Int32) (x8 : Int32) (x9 : Int32) (x10 : Int32) (u0 : Int32) (h : tH) (Q : tO → tH → Prop) : AX 3 113 161 [.long y0, .float 0, .int x2, .ref r3, .int x4, .int x5, .int x6, .int x7, .int x8, .int x9, .int x10] [.int u0] h Q = AX 3 113 168 [.long y0, .float 0, .int x2, .ref r3, .int x4, .int x5, .int x6, .int (if (0 : Int32) ≤ u0 then x7 else x8), .int x8, .int x9, .int x10] [] h Q := by
  simp only [e_113_161, e_113_164, e_113_166]
  repeat' split
  all_goals rfl
theorem b_113_207 (y0 : Int64) (x2 : Int32) (r3 : Nat) (x4 : Int32) (x5 : Int32) (x6 : Int32) (x7 : Int32) (x8 : Int32) (w9 : Value) (w10 : Value) (u0 : Int32) (u1 : Int32) (h : tH) (Q : tO → tH → Prop) : AX 3 113 207 [.long y0, .float 0, .int x2, .ref r3, .int x4, .int x5, .int x6, .int x7, .int x8, w9, w10] [.int u0, .int u1] h Q = AX 3 113 229 [.long y0, .float 0, .int x2, .ref r3, .int x4, .int x5, .int x6, .int x7, .int x8, w9, w10] [.int (if u0 ≤ u1 then (10 * x7) + x6 else (10 * x6) + x7)] h Q := by
  simp only [e_113_207, e_113_210, e_113_212, e_113_214, e_113_215, e_113_217, e_113_218, e_113_221, e_113_223, e_113_225, e_113_226, e_113_228]
  repeat' split
  all_goals rfl
set_option maxRecDepth 20000 in
theorem s_113_0 (y0 : Int64) (x2 : Int32) (r3 : Nat) (x4 : Int32) (x5 : Int32) (h : tH) (Q : tO → tH → Prop)  :
    AX 3 113 0 [.long y0, .float 0, .int x2, .ref r3, .int x4, .int x5, .float 0, .float 0, .float 0, .float 0, .float 0] [] h Q =
    (t_in (t_ai h r3) ((7 * x4) + x5) ∧ (if ¬ (h.1 r3 ((7 * x4) + x5).toNatClampNeg) = (0 : Int32) then AX 3 113 24 [.long y0, .float 0, .int x2, .ref r3, .int x4, .int x5, .int (-1), .int (-1), .int 0, .float 0, .float 0] [] h Q else Q (.inl (some (.int (-1)))) h)) := by
  rw [e_113_0]
  simp only [e_113_1, e_113_3, e_113_4, e_113_6, e_113_7, e_113_9, e_113_11, e_113_12, e_113_14, e_113_15, e_113_16, e_113_21, e_113_22, e_113_19, e_113_20, true_and, and_true, or_true, true_or]
set_option maxRecDepth 20000 in
theorem s_113_24 (y0 : Int64) (x2 : Int32) (r3 : Nat) (x4 : Int32) (x5 : Int32) (x6 : Int32) (x7 : Int32) (x8 : Int32) (w9 : Value) (w10 : Value) (h : tH) (Q : tO → tH → Prop)  :
    AX 3 113 24 [.long y0, .float 0, .int x2, .ref r3, .int x4, .int x5, .int x6, .int x7, .int x8, w9, w10] [] h Q =
    (if x2 ≤ x8 then (if x6 < (0 : Int32) then AX 3 113 199 [.long y0, .float 0, .int x2, .ref r3, .int x4, .int x5, .int x6, .int x7, .int x8, w9, w10] [] h Q else (if x7 < (0 : Int32) then AX 3 113 199 [.long y0, .float 0, .int x2, .ref r3, .int x4, .int x5, .int x6, .int x7, .int x8, w9, w10] [] h Q else AM 107 [.long y0, .int x6, .int x7, .int x4, .int x5] h (t_ki (fun a1 h1 => (if ¬ a1 = (0 : Int32) then AX 3 113 229 [.long y0, .float 0, .int x2, .ref r3, .int x4, .int x5, .int x6, .int x7, .int x8, w9, w10] [.int (if x7 ≤ x6 then (10 * x7) + x6 else (10 * x6) + x7)] h1 Q else AX 3 113 199 [.long y0, .float 0, .int x2, .ref r3, .int x4, .int x5, .int x6, .int x7, .int x8, w9, w10] [] h1 Q)) Q))) else (t_in (t_ai h r3) ((7 * x4) + x8) ∧ (if ¬ (h.1 r3 ((7 * x4) + x8).toNatClampNeg) = (1 : Int32) then AX 3 113 62 [.long y0, .float 0, .int x2, .ref r3, .int x4, .int x5, .int x6, .int x7, .int x8, w9, w10] [] h Q else (t_in (t_ai h r3) ((7 * x5) + x8) ∧ (if ¬ (h.1 r3 ((7 * x5) + x8).toNatClampNeg) = (1 : Int32) then AX 3 113 62 [.long y0, .float 0, .int x2, .ref r3, .int x4, .int x5, .int x6, .int x7, .int x8, w9, w10] [] h Q else AX 3 113 63 [.long y0, .float 0, .int x2, .ref r3, .int x4, .int x5, .int x6, .int x7, .int x8, w9, w10] [.int 1] h Q))))) := by
  rw [e_113_24]
  simp only [e_113_26, e_113_27, e_113_174, e_113_176, e_113_179, e_113_181, e_113_184, e_113_185, e_113_187, e_113_189, e_113_191, e_113_193, e_113_196, e_113_203, e_113_205, b_113_207, e_113_30, e_113_31, e_113_33, e_113_35, e_113_36, e_113_38, e_113_39, e_113_40, e_113_41, e_113_44, e_113_45, e_113_47, e_113_49, e_113_50, e_113_52, e_113_53, e_113_54, e_113_55, e_113_58, e_113_59, true_and, and_true, or_true, true_or]
set_option maxRecDepth 20000 in
theorem s_113_62 (y0 : Int64) (x2 : Int32) (r3 : Nat) (x4 : Int32) (x5 : Int32) (x6 : Int32) (x7 : Int32) (x8 : Int32) (w9 : Value) (w10 : Value) (h : tH) (Q : tO → tH → Prop)  :
    AX 3 113 62 [.long y0, .float 0, .int x2, .ref r3, .int x4, .int x5, .int x6, .int x7, .int x8, w9, w10] [] h Q =
    AX 3 113 63 [.long y0, .float 0, .int x2, .ref r3, .int x4, .int x5, .int x6, .int x7, .int x8, w9, w10] [.int 0] h Q := by
  rw [e_113_62]
set_option maxRecDepth 20000 in
theorem s_113_63 (y0 : Int64) (x2 : Int32) (r3 : Nat) (x4 : Int32) (x5 : Int32) (x6 : Int32) (x7 : Int32) (x8 : Int32) (w9 : Value) (w10 : Value) (u0 : Int32) (h : tH) (Q : tO → tH → Prop)  :
    AX 3 113 63 [.long y0, .float 0, .int x2, .ref r3, .int x4, .int x5, .int x6, .int x7, .int x8, w9, w10] [.int u0] h Q =
    AX 3 113 68 [.long y0, .float 0, .int x2, .ref r3, .int x4, .int x5, .int x6, .int x7, .int x8, .int u0, .int 0] [] h Q := by
  rw [e_113_63]
  simp only [e_113_65, e_113_66, true_and, and_true, or_true, true_or]
set_option maxRecDepth 20000 in
theorem s_113_68 (y0 : Int64) (x2 : Int32) (r3 : Nat) (x4 : Int32) (x5 : Int32) (x6 : Int32) (x7 : Int32) (x8 : Int32) (x9 : Int32) (x10 : Int32) (h : tH) (Q : tO → tH → Prop)  :
    AX 3 113 68 [.long y0, .float 0, .int x2, .ref r3, .int x4, .int x5, .int x6, .int x7, .int x8, .int x9, .int x10] [] h Q =
    (if x2 ≤ x10 then (if x9 = (0 : Int32) then AX 3 113 146 [.long y0, .float 0, .int x2, .ref r3, .int x4, .int x5, .int x6, .int x7, .int x8, .int x9, .int x10] [] h Q else AM 105 [.long y0, .int x4, .int x5, .int x8] h (t_ki (fun a1 h1 => AX 3 113 146 [.long y0, .float 0, .int x2, .ref r3, .int x4, .int x5, .int (if a1 ≤ (0 : Int32) then x6 else x8), .int x7, .int x8, .int x9, .int x10] [] h1 Q) Q)) else (if x10 = x4 then AX 3 113 118 [.long y0, .float 0, .int x2, .ref r3, .int x4, .int x5, .int x6, .int x7, .int x8, .int x9, .int x10] [] h Q else (if x10 = x5 then AX 3 113 118 [.long y0, .float 0, .int x2, .ref r3, .int x4, .int x5, .int x6, .int x7, .int x8, .int x9, .int x10] [] h Q else (if x10 = x8 then AX 3 113 118 [.long y0, .float 0, .int x2, .ref r3, .int x4, .int x5, .int x6, .int x7, .int x8, .int x9, .int x10] [] h Q else (if x9 = (0 : Int32) then AX 3 113 118 [.long y0, .float 0, .int x2, .ref r3, .int x4, .int x5, .int x6, .int x7, .int x8, .int x9, .int x10] [] h Q else AM 108 [.long y0, .int x4, .int x5, .int x8, .int x10] h (t_ki (fun a2 h2 => AX 3 113 118 [.long y0, .float 0, .int x2, .ref r3, .int x4, .int x5, .int x6, .int x7, .int x8, .int (if a2 = (0 : Int32) then x9 else 0), .int x10] [] h2 Q) Q)))))) := by
  rw [e_113_68]
  simp only [e_113_70, e_113_71, e_113_124, e_113_126, e_113_129, e_113_130, e_113_132, e_113_134, e_113_136, b_113_139, e_113_74, e_113_76, e_113_78, e_113_81, e_113_83, e_113_85, e_113_88, e_113_90, e_113_92, e_113_95, e_113_97, e_113_100, e_113_101, e_113_103, e_113_105, e_113_107, e_113_109, b_113_112, true_and, and_true, or_true, true_or]
set_option maxRecDepth 20000 in
theorem s_113_118 (y0 : Int64) (x2 : Int32) (r3 : Nat) (x4 : Int32) (x5 : Int32) (x6 : Int32) (x7 : Int32) (x8 : Int32) (x9 : Int32) (x10 : Int32) (h : tH) (Q : tO → tH → Prop)  :
    AX 3 113 118 [.long y0, .float 0, .int x2, .ref r3, .int x4, .int x5, .int x6, .int x7, .int x8, .int x9, .int x10] [] h Q =
    AX 3 113 68 [.long y0, .float 0, .int x2, .ref r3, .int x4, .int x5, .int x6, .int x7, .int x8, .int x9, .int (x10 + 1)] [] h Q := by
  rw [e_113_118]
  simp only [e_113_121, true_and, and_true, or_true, true_or]
set_option maxRecDepth 20000 in
theorem s_113_146 (y0 : Int64) (x2 : Int32) (r3 : Nat) (x4 : Int32) (x5 : Int32) (x6 : Int32) (x7 : Int32) (x8 : Int32) (x9 : Int32) (x10 : Int32) (h : tH) (Q : tO → tH → Prop)  :
    AX 3 113 146 [.long y0, .float 0, .int x2, .ref r3, .int x4, .int x5, .int x6, .int x7, .int x8, .int x9, .int x10] [] h Q =
    (if x9 = (0 : Int32) then AX 3 113 168 [.long y0, .float 0, .int x2, .ref r3, .int x4, .int x5, .int x6, .int x7, .int x8, .int x9, .int x10] [] h Q else AM 105 [.long y0, .int x4, .int x5, .int x8] h (t_ki (fun a1 h1 => AX 3 113 168 [.long y0, .float 0, .int x2, .ref r3, .int x4, .int x5, .int x6, .int (if (0 : Int32) ≤ a1 then x7 else x8), .int x8, .int x9, .int x10] [] h1 Q) Q)) := by
  rw [e_113_146]
  simp only [e_113_148, e_113_151, e_113_152, e_113_154, e_113_156, e_113_158, b_113_161, true_and, and_true, or_true, true_or]
set_option maxRecDepth 20000 in
theorem s_113_168 (y0 : Int64) (x2 : Int32) (r3 : Nat) (x4 : Int32) (x5 : Int32) (x6 : Int32) (x7 : Int32) (x8 : Int32) (x9 : Int32) (x10 : Int32) (h : tH) (Q : tO → tH → Prop)  :
    AX 3 113 168 [.long y0, .float 0, .int x2, .ref r3, .int x4, .int x5, .int x6, .int x7, .int x8, .int x9, .int x10] [] h Q =
    AX 3 113 24 [.long y0, .float 0, .int x2, .ref r3, .int x4, .int x5, .int x6, .int x7, .int (x8 + 1), .int x9, .int x10] [] h Q := by
  rw [e_113_168]
  simp only [e_113_171, true_and, and_true, or_true, true_or]
set_option maxRecDepth 20000 in
theorem s_113_199 (y0 : Int64) (x2 : Int32) (r3 : Nat) (x4 : Int32) (x5 : Int32) (x6 : Int32) (x7 : Int32) (x8 : Int32) (w9 : Value) (w10 : Value) (h : tH) (Q : tO → tH → Prop)  :
    AX 3 113 199 [.long y0, .float 0, .int x2, .ref r3, .int x4, .int x5, .int x6, .int x7, .int x8, w9, w10] [] h Q =
    AX 3 113 229 [.long y0, .float 0, .int x2, .ref r3, .int x4, .int x5, .int x6, .int x7, .int x8, w9, w10] [.int (-1)] h Q := by
  rw [e_113_199]
  simp only [e_113_200, true_and, and_true, or_true, true_or]
set_option maxRecDepth 20000 in
theorem s_113_229 (y0 : Int64) (x2 : Int32) (r3 : Nat) (x4 : Int32) (x5 : Int32) (x6 : Int32) (x7 : Int32) (x8 : Int32) (w9 : Value) (w10 : Value) (u0 : Int32) (h : tH) (Q : tO → tH → Prop)  :
    AX 3 113 229 [.long y0, .float 0, .int x2, .ref r3, .int x4, .int x5, .int x6, .int x7, .int x8, w9, w10] [.int u0] h Q =
    Q (.inl (some (.int u0))) h := by
  rw [e_113_229]
theorem am_113 (y0 : Int64) (x2 : Int32) (r3 : Nat) (x4 : Int32) (x5 : Int32) (h : tH) (Q : tO → tH → Prop) : AM 113 [.long y0, .int x2, .ref r3, .int x4, .int x5] h Q = AX 3 113 0 [.long y0, .float 0, .int x2, .ref r3, .int x4, .int x5, .float 0, .float 0, .float 0, .float 0, .float 0] [] h Q := AM_at ta_113 _ _ _
