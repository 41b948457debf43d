-- X2_giveNumbers
set_option maxRecDepth 20000 in
theorem s_9_0 (r0 : Nat) (r1 : Nat) (h : tH) (Q : tO → tH → Prop)  :
    AX 2 9 0 [.ref r0, .ref r1, .float 0] [] h Q =
    AX 2 9 2 [.ref r0, .ref r1, .int 0] [] h Q := by
  rw [e_9_0]
  simp only [e_9_1, true_and, and_true, or_true, true_or]
set_option maxRecDepth 20000 in
theorem s_9_2 (r0 : Nat) (r1 : Nat) (x2 : Int32) (h : tH) (Q : tO → tH → Prop)  :
    AX 2 9 2 [.ref r0, .ref r1, .int x2] [] h Q =
    (t_ob r0 = some 5 ∧ (t_ob (r0 + 30) = some 6 ∧ (if (h.1 (r0 + 30) 1) ≤ x2 then (t_ob r0 = some 5 ∧ (1 = 0 ∨ 1 = 1) ∧ Q (.inl none) (t_I h r0 3 1)) else (t_ob r0 = some 5 ∧ (t_ob r1 = some 1 ∧ AM 33 [.ref r1, .int x2] h (t_ki (fun a1 h1 => AM 7 [.ref (r0 + 10), .int x2, .int a1] h1 (t_kv (fun h2 => (t_ob r0 = some 5 ∧ (t_ob r1 = some 1 ∧ AM 34 [.ref r1, .int x2] h2 (t_ki (fun a3 h3 => AM 7 [.ref (r0 + 20), .int x2, .int a3] h3 (t_kv (fun h4 => AX 2 9 2 [.ref r0, .ref r1, .int (x2 + 1)] [] h4 Q) Q)) Q)))) Q)) Q)))))) := by
  rw [e_9_2]
  simp only [e_9_3, e_9_4, e_9_7, e_9_10, e_9_45, e_9_46, e_9_47, e_9_50, e_9_13, e_9_14, e_9_17, e_9_18, e_9_19, e_9_20, e_9_23, e_9_26, e_9_27, e_9_30, e_9_31, e_9_32, e_9_33, e_9_36, e_9_39, e_9_42, true_and, and_true, or_true, true_or]
theorem am_9 (r0 : Nat) (r1 : Nat) (h : tH) (Q : tO → tH → Prop) : AM 9 [.ref r0, .ref r1] h Q = AX 2 9 0 [.ref r0, .ref r1, .float 0] [] h Q := AM_at ta_9 _ _ _
-- X2_hasEdge
set_option maxRecDepth 20000 in
theorem s_10_0 (r0 : Nat) (x1 : Int32) (x2 : Int32) (h : tH) (Q : tO → tH → Prop)  :
    AX 2 10 0 [.ref r0, .int x1, .int x2] [] h Q =
    (t_ob r0 = some 5 ∧ (if (h.1 r0 5) = (0 : Int32) then AX 2 10 24 [.ref r0, .int x1, .int x2] [] h Q else (t_ob r0 = some 5 ∧ AM 22 [.int x1, .int x2] h (t_ki (fun a1 h1 => (if ((h.1 r0 4) &&& a1) = (0 : Int32) then AX 2 10 24 [.ref r0, .int x1, .int x2] [] h1 Q else AX 2 10 25 [.ref r0, .int x1, .int x2] [.int 1] h1 Q)) Q)))) := by
  rw [e_10_0]
  simp only [e_10_1, e_10_4, e_10_7, e_10_8, e_10_11, e_10_12, e_10_13, e_10_16, e_10_17, e_10_20, e_10_21, true_and, and_true, or_true, true_or]
set_option maxRecDepth 20000 in
theorem s_10_24 (r0 : Nat) (x1 : Int32) (x2 : Int32) (h : tH) (Q : tO → tH → Prop)  :
    AX 2 10 24 [.ref r0, .int x1, .int x2] [] h Q =
    AX 2 10 25 [.ref r0, .int x1, .int x2] [.int 0] h Q := by
  rw [e_10_24]
set_option maxRecDepth 20000 in
theorem s_10_25 (r0 : Nat) (x1 : Int32) (x2 : Int32) (u0 : Int32) (h : tH) (Q : tO → tH → Prop)  :
    AX 2 10 25 [.ref r0, .int x1, .int x2] [.int u0] h Q =
    (((u0 : Int32) = 0 ∨ (u0 : Int32) = 1) ∧ Q (.inl (some (.int u0))) h) := by
  rw [e_10_25]
theorem am_10 (r0 : Nat) (x1 : Int32) (x2 : Int32) (h : tH) (Q : tO → tH → Prop) : AM 10 [.ref r0, .int x1, .int x2] h Q = AX 2 10 0 [.ref r0, .int x1, .int x2] [] h Q := AM_at ta_10 _ _ _
-- X2_isCorner
set_option maxRecDepth 20000 in
theorem s_11_0 (r0 : Nat) (x1 : Int32) (x2 : Int32) (x3 : Int32) (x4 : Int32) (h : tH) (Q : tO → tH → Prop)  :
    AX 4 11 0 [.ref r0, .int x1, .int x2, .int x3, .int x4] [] h Q =
    (t_ob r0 = some 5 ∧ (t_ob (r0 + 30) = some 6 ∧ AM 39 [.ref (r0 + 30), .int x1, .int x2, .int x3] h (t_ki (fun a1 h1 => (if ¬ a1 = x4 then AX 4 11 50 [.ref r0, .int x1, .int x2, .int x3, .int x4] [] h1 Q else (t_ob r0 = some 5 ∧ AM 10 [.ref r0, .int x1, .int x3] h1 (t_ki (fun a2 h2 => (if a2 = (0 : Int32) then AX 4 11 50 [.ref r0, .int x1, .int x2, .int x3, .int x4] [] h2 Q else (t_ob r0 = some 5 ∧ AM 10 [.ref r0, .int x2, .int x3] h2 (t_ki (fun a3 h3 => (if a3 = (0 : Int32) then AX 4 11 50 [.ref r0, .int x1, .int x2, .int x3, .int x4] [] h3 Q else (t_ob r0 = some 5 ∧ (t_ob (r0 + 30) = some 6 ∧ AM 52 [.ref (r0 + 30), .int x1, .int x2, .int x3] h3 (t_ki (fun a4 h4 => (if a4 = (0 : Int32) then AX 4 11 50 [.ref r0, .int x1, .int x2, .int x3, .int x4] [] h4 Q else AX 4 11 51 [.ref r0, .int x1, .int x2, .int x3, .int x4] [.int 1] h4 Q)) Q))))) Q)))) Q)))) Q))) := by
  rw [e_11_0]
  simp only [e_11_1, e_11_4, e_11_5, e_11_6, e_11_7, e_11_10, e_11_12, e_11_15, e_11_16, e_11_17, e_11_18, e_11_21, e_11_24, e_11_25, e_11_26, e_11_27, e_11_30, e_11_33, e_11_34, e_11_37, e_11_38, e_11_39, e_11_40, e_11_43, e_11_46, e_11_47, true_and, and_true, or_true, true_or]
set_option maxRecDepth 20000 in
theorem s_11_50 (r0 : Nat) (x1 : Int32) (x2 : Int32) (x3 : Int32) (x4 : Int32) (h : tH) (Q : tO → tH → Prop)  :
    AX 4 11 50 [.ref r0, .int x1, .int x2, .int x3, .int x4] [] h Q =
    AX 4 11 51 [.ref r0, .int x1, .int x2, .int x3, .int x4] [.int 0] h Q := by
  rw [e_11_50]
set_option maxRecDepth 20000 in
theorem s_11_51 (r0 : Nat) (x1 : Int32) (x2 : Int32) (x3 : Int32) (x4 : Int32) (u0 : Int32) (h : tH) (Q : tO → tH → Prop)  :
    AX 4 11 51 [.ref r0, .int x1, .int x2, .int x3, .int x4] [.int u0] h Q =
    (((u0 : Int32) = 0 ∨ (u0 : Int32) = 1) ∧ Q (.inl (some (.int u0))) h) := by
  rw [e_11_51]
theorem am_11 (r0 : Nat) (x1 : Int32) (x2 : Int32) (x3 : Int32) (x4 : Int32) (h : tH) (Q : tO → tH → Prop) : AM 11 [.ref r0, .int x1, .int x2, .int x3, .int x4] h Q = AX 4 11 0 [.ref r0, .int x1, .int x2, .int x3, .int x4] [] h Q := AM_at ta_11 _ _ _
-- X5_index
set_option maxRecDepth 20000 in
theorem s_21_0 (x0 : Int32) (x1 : Int32) (h : tH) (Q : tO → tH → Prop)  :
    AX 0 21 0 [.int x0, .int x1, .float 0, .float 0] [] h Q =
    Q (.inl (some (.int ((((if x0 < x1 then x1 else x0) * ((if x0 < x1 then x1 else x0) - 1)) / 2) + (if x1 < x0 then x1 else x0))))) h := by
  rw [e_21_0]
  simp only [e_21_1, e_21_2, e_21_5, e_21_6, e_21_7, e_21_8, e_21_11, e_21_12, e_21_13, e_21_14, e_21_15, e_21_16, e_21_17, e_21_18, e_21_19, e_21_20, e_21_21, t_ai_d2, true_and, and_true, or_true, true_or]
theorem am_21 (x0 : Int32) (x1 : Int32) (h : tH) (Q : tO → tH → Prop) : AM 21 [.int x0, .int x1] h Q = AX 0 21 0 [.int x0, .int x1, .float 0, .float 0] [] h Q := AM_at ta_21 _ _ _
-- X5_bit
set_option maxRecDepth 20000 in
theorem s_22_0 (x0 : Int32) (x1 : Int32) (h : tH) (Q : tO → tH → Prop)  :
    AX 1 22 0 [.int x0, .int x1] [] h Q =
    (if ¬ x0 = x1 then AM 21 [.int x0, .int x1] h (t_ki (fun a1 h1 => AX 1 22 16 [.int x0, .int x1] [.int (1 <<< (a1 &&& 31))] h1 Q) Q) else AX 1 22 16 [.int x0, .int x1] [.int 0] h Q) := by
  rw [e_22_0]
  simp only [e_22_1, e_22_2, e_22_9, e_22_10, e_22_11, e_22_12, e_22_15, e_22_5, e_22_6, true_and, and_true, or_true, true_or]
set_option maxRecDepth 20000 in
theorem s_22_16 (x0 : Int32) (x1 : Int32) (u0 : Int32) (h : tH) (Q : tO → tH → Prop)  :
    AX 1 22 16 [.int x0, .int x1] [.int u0] h Q =
    Q (.inl (some (.int u0))) h := by
  rw [e_22_16]
theorem am_22 (x0 : Int32) (x1 : Int32) (h : tH) (Q : tO → tH → Prop) : AM 22 [.int x0, .int x1] h Q = AX 1 22 0 [.int x0, .int x1] [] h Q := AM_at ta_22 _ _ _
-- X5_read
set_option maxRecDepth 20000 in
theorem s_23_0 (r0 : Nat) (r1 : Nat) (h : tH) (Q : tO → tH → Prop)  :
    AX 4 23 0 [.ref r0, .ref r1, .float 0, .float 0, .float 0, .float 0] [] h Q =
    (t_ob r1 = some 6 ∧ (t_ob r0 = some 3 ∧ AX 4 23 10 [.ref r0, .ref r1, .int 0, .float 0, .float 0, .float 0] [] (t_I h r0 1 (h.1 r1 1)) Q)) := by
  rw [e_23_0]
  simp only [e_23_1, e_23_2, e_23_5, e_23_8, e_23_9, true_and, and_true, or_true, true_or]
set_option maxRecDepth 20000 in
theorem s_23_10 (r0 : Nat) (r1 : Nat) (x2 : Int32) (h : tH) (Q : tO → tH → Prop)  :
    AX 4 23 10 [.ref r0, .ref r1, .int x2, .float 0, .float 0, .float 0] [] h Q =
    (t_ob r0 = some 3 ∧ (if (Int32.ofNat 21) ≤ x2 then AX 4 23 34 [.ref r0, .ref r1, .int 0, .float 0, .float 0, .float 0] [] h Q else (t_ob r0 = some 3 ∧ (vp_in x2 21 ∧ AX 4 23 10 [.ref r0, .ref r1, .int (x2 + 1), .float 0, .float 0, .float 0] [] (t_I h 10 x2.toNatClampNeg 0) Q)))) := by
  rw [e_23_10]
  simp only [e_23_11, e_23_12, (fun r0 r1 x2 u1 h Q => e_23_15 r0 r1 x2 10 u1 h Q 21 (t_ln_10 h)), e_23_16, e_23_32, e_23_33, e_23_19, e_23_20, e_23_23, e_23_24, e_23_25, e_23_26, e_23_29, t_ai_10, t_ne_10, true_and, and_true, or_true, true_or]
set_option maxRecDepth 20000 in
theorem s_23_34 (r0 : Nat) (r1 : Nat) (x2 : Int32) (w3 : Value) (w4 : Value) (w5 : Value) (h : tH) (Q : tO → tH → Prop)  :
    AX 4 23 34 [.ref r0, .ref r1, .int x2, w3, w4, w5] [] h Q =
    (t_ob r0 = some 3 ∧ (if (h.1 r0 1) ≤ x2 then Q (.inl none) h else AX 4 23 46 [.ref r0, .ref r1, .int x2, .int (x2 + 1), w4, w5] [] h Q)) := by
  rw [e_23_34]
  simp only [e_23_35, e_23_36, e_23_39, e_23_140, e_23_42, e_23_43, e_23_44, e_23_45, true_and, and_true, or_true, true_or]
set_option maxRecDepth 20000 in
theorem s_23_46 (r0 : Nat) (r1 : Nat) (x2 : Int32) (x3 : Int32) (w4 : Value) (w5 : Value) (h : tH) (Q : tO → tH → Prop)  :
    AX 4 23 46 [.ref r0, .ref r1, .int x2, .int x3, w4, w5] [] h Q =
    (t_ob r0 = some 3 ∧ (if (h.1 r0 1) ≤ x3 then AX 4 23 34 [.ref r0, .ref r1, .int (x2 + 1), .int x3, w4, w5] [] h Q else AX 4 23 59 [.ref r0, .ref r1, .int x2, .int x3, .int (x3 + 1), w5] [] h Q)) := by
  rw [e_23_46]
  simp only [e_23_47, e_23_48, e_23_51, e_23_134, e_23_137, e_23_54, e_23_55, e_23_56, e_23_57, true_and, and_true, or_true, true_or]
set_option maxRecDepth 20000 in
theorem s_23_59 (r0 : Nat) (r1 : Nat) (x2 : Int32) (x3 : Int32) (x4 : Int32) (w5 : Value) (h : tH) (Q : tO → tH → Prop)  :
    AX 4 23 59 [.ref r0, .ref r1, .int x2, .int x3, .int x4, w5] [] h Q =
    (t_ob r0 = some 3 ∧ (if (h.1 r0 1) ≤ x4 then AX 4 23 46 [.ref r0, .ref r1, .int x2, .int (x3 + 1), .int x4, w5] [] h Q else AX 4 23 74 [.ref r0, .ref r1, .int x2, .int x3, .int x4, .int (x4 + 1)] [] h Q)) := by
  rw [e_23_59]
  simp only [e_23_61, e_23_62, e_23_65, e_23_128, e_23_131, e_23_68, e_23_70, e_23_71, e_23_72, true_and, and_true, or_true, true_or]
set_option maxRecDepth 20000 in
theorem s_23_74 (r0 : Nat) (r1 : Nat) (x2 : Int32) (x3 : Int32) (x4 : Int32) (x5 : Int32) (h : tH) (Q : tO → tH → Prop)  :
    AX 4 23 74 [.ref r0, .ref r1, .int x2, .int x3, .int x4, .int x5] [] h Q =
    (t_ob r0 = some 3 ∧ (if (h.1 r0 1) ≤ x5 then AX 4 23 59 [.ref r0, .ref r1, .int x2, .int x3, .int (x4 + 1), .int x5] [] h Q else (t_ob r0 = some 3 ∧ AM 24 [.ref r0, .ref r1, .int x2, .int x3, .int x4, .int x5] h (t_kv (fun h1 => (t_ob r0 = some 3 ∧ AM 24 [.ref r0, .ref r1, .int x2, .int x4, .int x3, .int x5] h1 (t_kv (fun h2 => (t_ob r0 = some 3 ∧ AM 24 [.ref r0, .ref r1, .int x2, .int x5, .int x3, .int x4] h2 (t_kv (fun h3 => AX 4 23 74 [.ref r0, .ref r1, .int x2, .int x3, .int x4, .int (x5 + 1)] [] h3 Q) Q))) Q))) Q)))) := by
  rw [e_23_74]
  simp only [e_23_76, e_23_77, e_23_80, e_23_122, e_23_125, e_23_83, e_23_84, e_23_85, e_23_86, e_23_87, e_23_89, e_23_91, e_23_94, e_23_95, e_23_96, e_23_97, e_23_99, e_23_100, e_23_102, e_23_105, e_23_106, e_23_107, e_23_108, e_23_110, e_23_111, e_23_113, e_23_116, e_23_119, true_and, and_true, or_true, true_or]
theorem am_23 (r0 : Nat) (r1 : Nat) (h : tH) (Q : tO → tH → Prop) : AM 23 [.ref r0, .ref r1] h Q = AX 4 23 0 [.ref r0, .ref r1, .float 0, .float 0, .float 0, .float 0] [] h Q := AM_at ta_23 _ _ _
-- X5_note
set_option maxRecDepth 20000 in
theorem s_24_0 (r0 : Nat) (r1 : Nat) (x2 : Int32) (x3 : Int32) (x4 : Int32) (x5 : Int32) (h : tH) (Q : tO → tH → Prop)  :
    AX 3 24 0 [.ref r0, .ref r1, .int x2, .int x3, .int x4, .int x5, .float 0, .float 0] [] h Q =
    (t_ob r1 = some 6 ∧ AM 51 [.ref r1, .int x2, .int x3, .int x4, .int x5] h (t_ki (fun a1 h1 => (if a1 = (0 : Int32) then AX 3 24 79 [.ref r0, .ref r1, .int x2, .int x3, .int x4, .int x5, .float 0, .float 0] [] h1 Q else AM 21 [.int x2, .int x3] h1 (t_ki (fun a2 h2 => AM 21 [.int x4, .int x5] h2 (t_ki (fun a3 h3 => (t_ob r0 = some 3 ∧ (t_ob r0 = some 3 ∧ AM 6 [.ref 10, .int a2] h3 (t_ki (fun a4 h4 => AM 22 [.int x4, .int x5] h4 (t_ki (fun a5 h5 => AM 7 [.ref 10, .int a2, .int (a4 ||| a5)] h5 (t_kv (fun h6 => (t_ob r0 = some 3 ∧ (t_ob r0 = some 3 ∧ AM 6 [.ref 10, .int a3] h6 (t_ki (fun a7 h7 => AM 22 [.int x2, .int x3] h7 (t_ki (fun a8 h8 => AM 7 [.ref 10, .int a3, .int (a7 ||| a8)] h8 (t_kv (fun h9 => AX 3 24 79 [.ref r0, .ref r1, .int x2, .int x3, .int x4, .int x5, .int a2, .int a3] [] h9 Q) Q)) Q)) Q)))) Q)) Q)) Q)))) Q)) Q))) Q)) := by
  rw [e_24_0]
  simp only [e_24_1, e_24_2, e_24_3, e_24_5, e_24_7, e_24_10, e_24_13, e_24_14, e_24_15, e_24_18, e_24_20, e_24_22, e_24_24, e_24_27, e_24_29, e_24_30, e_24_33, e_24_35, e_24_36, e_24_39, e_24_41, e_24_44, e_24_46, e_24_48, e_24_51, e_24_52, e_24_55, e_24_56, e_24_59, e_24_61, e_24_62, e_24_65, e_24_67, e_24_70, e_24_71, e_24_72, e_24_75, e_24_76, true_and, and_true, or_true, true_or]
set_option maxRecDepth 20000 in
theorem s_24_79 (r0 : Nat) (r1 : Nat) (x2 : Int32) (x3 : Int32) (x4 : Int32) (x5 : Int32) (w6 : Value) (w7 : Value) (h : tH) (Q : tO → tH → Prop)  :
    AX 3 24 79 [.ref r0, .ref r1, .int x2, .int x3, .int x4, .int x5, w6, w7] [] h Q =
    Q (.inl none) h := by
  rw [e_24_79]
theorem am_24 (r0 : Nat) (r1 : Nat) (x2 : Int32) (x3 : Int32) (x4 : Int32) (x5 : Int32) (h : tH) (Q : tO → tH → Prop) : AM 24 [.ref r0, .ref r1, .int x2, .int x3, .int x4, .int x5] h Q = AX 3 24 0 [.ref r0, .ref r1, .int x2, .int x3, .int x4, .int x5, .float 0, .float 0] [] h Q := AM_at ta_24 _ _ _
-- X5_crossesNone
theorem b_25_14 (r0 : Nat) (x1 : Int32) (x2 : Int32) (x3 : Int32) (u0 : Int32) (h : tH) (Q : tO → tH → Prop) : AX 1 25 14 [.ref r0, .int x1, .int x2, .int x3] [.int u0] h Q = AX 1 25 22 [.ref r0, .int x1, .int x2, .int x3] [.int (if ¬ u0 = (0 : Int32) then (0 : Int32) else 1)] h Q := by
  simp only [e_25_14, e_25_17, e_25_18, e_25_21]
  repeat' split
  all_goals rfl
set_option maxRecDepth 20000 in
theorem s_25_0 (r0 : Nat) (x1 : Int32) (x2 : Int32) (x3 : Int32) (h : tH) (Q : tO → tH → Prop)  :
    AX 1 25 0 [.ref r0, .int x1, .int x2, .int x3] [] h Q =
    (t_ob r0 = some 3 ∧ AM 21 [.int x1, .int x2] h (t_ki (fun a1 h1 => AM 6 [.ref 10, .int a1] h1 (t_ki (fun a2 h2 => ((((if ¬ (a2 &&& x3) = (0 : Int32) then (0 : Int32) else 1) : Int32) = 0 ∨ ((if ¬ (a2 &&& x3) = (0 : Int32) then (0 : Int32) else 1) : Int32) = 1) ∧ Q (.inl (some (.int (if ¬ (a2 &&& x3) = (0 : Int32) then (0 : Int32) else 1)))) h2)) Q)) Q)) := by
  rw [e_25_0]
  simp only [e_25_1, e_25_4, e_25_5, e_25_6, e_25_9, e_25_12, e_25_13, b_25_14, e_25_22, true_and, and_true, or_true, true_or]
theorem am_25 (r0 : Nat) (x1 : Int32) (x2 : Int32) (x3 : Int32) (h : tH) (Q : tO → tH → Prop) : AM 25 [.ref r0, .int x1, .int x2, .int x3] h Q = AX 1 25 0 [.ref r0, .int x1, .int x2, .int x3] [] h Q := AM_at ta_25 _ _ _
-- X5_pairsCrossing
set_option maxRecDepth 20000 in
theorem s_26_0 (r0 : Nat) (h : tH) (Q : tO → tH → Prop)  :
    AX 1 26 0 [.ref r0, .float 0, .float 0] [] h Q =
    AX 1 26 4 [.ref r0, .int 0, .int 0] [] h Q := by
  rw [e_26_0]
  simp only [e_26_1, e_26_2, e_26_3, true_and, and_true, or_true, true_or]
set_option maxRecDepth 20000 in
theorem s_26_4 (r0 : Nat) (x1 : Int32) (x2 : Int32) (h : tH) (Q : tO → tH → Prop)  :
    AX 1 26 4 [.ref r0, .int x1, .int x2] [] h Q =
    (t_ob r0 = some 3 ∧ (if (Int32.ofNat 21) ≤ x2 then Q (.inl (some (.int (x1 / 2)))) h else (t_ob r0 = some 3 ∧ (vp_in x2 21 ∧ AM 1 [.int (h.1 10 x2.toNatClampNeg)] h (t_ki (fun a1 h1 => AX 1 26 4 [.ref r0, .int (x1 + a1), .int (x2 + 1)] [] h1 Q) Q))))) := by
  rw [e_26_4]
  simp only [e_26_5, e_26_6, (fun r0 x1 x2 u1 h Q => e_26_9 r0 x1 x2 10 u1 h Q 21 (t_ln_10 h)), e_26_10, e_26_31, e_26_32, e_26_33, e_26_34, e_26_13, e_26_14, e_26_15, e_26_18, e_26_19, e_26_20, e_26_23, e_26_24, e_26_25, e_26_28, t_ai_10, t_ai_d2, true_and, and_true, or_true, true_or]
theorem am_26 (r0 : Nat) (h : tH) (Q : tO → tH → Prop) : AM 26 [.ref r0] h Q = AX 1 26 0 [.ref r0, .float 0, .float 0] [] h Q := AM_at ta_26 _ _ _
-- X5_waysToMatch
set_option maxRecDepth 20000 in
theorem s_27_0 (d : Nat) (r0 : Nat) (x1 : Int32) (x2 : Int32) (x3 : Int32) (h : tH) (Q : tO → tH → Prop)  :
    AX d 27 0 [.ref r0, .int x1, .int x2, .int x3, .float 0, .float 0, .float 0, .float 0] [] h Q =
    (if ¬ x1 = (0 : Int32) then (if x3 < (7 : Int32) then (t_lev tq_5 [.int x1] < d ∧ AM 5 [.int x1] h (t_ki (fun a1 h1 => AX d 27 29 [.ref r0, .int x1, .int x2, .int x3, .int a1, .int 0, .int (a1 + 1), .float 0] [] h1 Q) Q)) else Q (.inl (some (.int 0))) h) else Q (.inl (some (.int 1))) h) := by
  rw [e_27_0]
  simp only [e_27_1, e_27_6, e_27_7, e_27_9, e_27_14, e_27_15, e_27_18, e_27_20, e_27_21, e_27_23, e_27_25, e_27_26, e_27_27, e_27_12, e_27_13, e_27_4, e_27_5, true_and, and_true, or_true, true_or]
set_option maxRecDepth 20000 in
theorem s_27_29 (d : Nat) (r0 : Nat) (x1 : Int32) (x2 : Int32) (x3 : Int32) (x4 : Int32) (x5 : Int32) (x6 : Int32) (w7 : Value) (h : tH) (Q : tO → tH → Prop)  :
    AX d 27 29 [.ref r0, .int x1, .int x2, .int x3, .int x4, .int x5, .int x6, w7] [] h Q =
    (t_ob r0 = some 3 ∧ (if (h.1 r0 1) ≤ x6 then Q (.inl (some (.int x5))) h else (t_lev tq_4 [.int x1, .int x6] < d ∧ AM 4 [.int x1, .int x6] h (t_ki (fun a1 h1 => (if a1 = (0 : Int32) then AX d 27 99 [.ref r0, .int x1, .int x2, .int x3, .int x4, .int x5, .int x6, w7] [] h1 Q else (t_ob r0 = some 3 ∧ t_lev tq_25 [.ref r0, .int x4, .int x6, .int x2] < d ∧ AM 25 [.ref r0, .int x4, .int x6, .int x2] h1 (t_ki (fun a2 h2 => (if a2 = (0 : Int32) then AX d 27 99 [.ref r0, .int x1, .int x2, .int x3, .int x4, .int x5, .int x6, w7] [] h2 Q else (t_lev tq_2 [.int x4] < d ∧ AM 2 [.int x4] h2 (t_ki (fun a3 h3 => (t_lev tq_2 [.int x6] < d ∧ AM 2 [.int x6] h3 (t_ki (fun a4 h4 => (t_lev tq_22 [.int x4, .int x6] < d ∧ AM 22 [.int x4, .int x6] h4 (t_ki (fun a5 h5 => (t_lev tq_27 [.ref r0, .int (x1 &&& ((a3 ||| a4) ^^^ (-1))), .int (x2 ||| a5), .int (x3 + 1)] < d ∧ AM 27 [.ref r0, .int (x1 &&& ((a3 ||| a4) ^^^ (-1))), .int (x2 ||| a5), .int (x3 + 1)] h5 (t_ki (fun a6 h6 => AX d 27 99 [.ref r0, .int x1, .int x2, .int x3, .int x4, .int (x5 + a6), .int x6, .int (x1 &&& ((a3 ||| a4) ^^^ (-1)))] [] h6 Q) Q))) Q))) Q))) Q)))) Q)))) Q)))) := by
  rw [e_27_29]
  simp only [e_27_31, e_27_32, e_27_35, e_27_105, e_27_107, e_27_38, e_27_39, e_27_41, e_27_44, e_27_47, e_27_48, e_27_50, e_27_52, e_27_53, e_27_56, e_27_59, e_27_60, e_27_62, e_27_65, e_27_67, e_27_70, e_27_71, e_27_72, e_27_73, e_27_74, e_27_76, e_27_78, e_27_79, e_27_81, e_27_82, e_27_84, e_27_86, e_27_89, e_27_90, e_27_91, e_27_92, e_27_93, e_27_96, e_27_97, true_and, and_true, or_true, true_or]
set_option maxRecDepth 20000 in
theorem s_27_99 (d : Nat) (r0 : Nat) (x1 : Int32) (x2 : Int32) (x3 : Int32) (x4 : Int32) (x5 : Int32) (x6 : Int32) (w7 : Value) (h : tH) (Q : tO → tH → Prop)  :
    AX d 27 99 [.ref r0, .int x1, .int x2, .int x3, .int x4, .int x5, .int x6, w7] [] h Q =
    AX d 27 29 [.ref r0, .int x1, .int x2, .int x3, .int x4, .int x5, .int (x6 + 1), w7] [] h Q := by
  rw [e_27_99]
  simp only [e_27_102, true_and, and_true, or_true, true_or]
theorem am_27 (r0 : Nat) (x1 : Int32) (x2 : Int32) (x3 : Int32) (h : tH) (Q : tO → tH → Prop) : AM 27 [.ref r0, .int x1, .int x2, .int x3] h Q = AX (t_lev tq_27 [.ref r0, .int x1, .int x2, .int x3]) 27 0 [.ref r0, .int x1, .int x2, .int x3, .float 0, .float 0, .float 0, .float 0] [] h Q := AM_at ta_27 _ _ _
-- X5_firstTriangulation
set_option maxRecDepth 20000 in
theorem s_29_0 (r0 : Nat) (h : tH) (Q : tO → tH → Prop)  :
    AX 2 29 0 [.ref r0, .float 0, .float 0, .float 0] [] h Q =
    AX 2 29 4 [.ref r0, .int 0, .int 0, .float 0] [] h Q := by
  rw [e_29_0]
  simp only [e_29_1, e_29_2, e_29_3, true_and, and_true, or_true, true_or]
set_option maxRecDepth 20000 in
theorem s_29_4 (r0 : Nat) (x1 : Int32) (x2 : Int32) (w3 : Value) (h : tH) (Q : tO → tH → Prop)  :
    AX 2 29 4 [.ref r0, .int x1, .int x2, w3] [] h Q =
    (t_ob r0 = some 3 ∧ (if (h.1 r0 1) ≤ x2 then Q (.inl (some (.int x1))) h else AX 2 29 16 [.ref r0, .int x1, .int x2, .int (x2 + 1)] [] h Q)) := by
  rw [e_29_4]
  simp only [e_29_5, e_29_6, e_29_9, e_29_54, e_29_55, e_29_12, e_29_13, e_29_14, e_29_15, true_and, and_true, or_true, true_or]
set_option maxRecDepth 20000 in
theorem s_29_16 (r0 : Nat) (x1 : Int32) (x2 : Int32) (x3 : Int32) (h : tH) (Q : tO → tH → Prop)  :
    AX 2 29 16 [.ref r0, .int x1, .int x2, .int x3] [] h Q =
    (t_ob r0 = some 3 ∧ (if (h.1 r0 1) ≤ x3 then AX 2 29 4 [.ref r0, .int x1, .int (x2 + 1), .int x3] [] h Q else (t_ob r0 = some 3 ∧ AM 25 [.ref r0, .int x2, .int x3, .int x1] h (t_ki (fun a1 h1 => (if a1 = (0 : Int32) then AX 2 29 42 [.ref r0, .int x1, .int x2, .int x3] [] h1 Q else AM 22 [.int x2, .int x3] h1 (t_ki (fun a2 h2 => AX 2 29 42 [.ref r0, .int (x1 ||| a2), .int x2, .int x3] [] h2 Q) Q))) Q)))) := by
  rw [e_29_16]
  simp only [e_29_17, e_29_18, e_29_21, e_29_48, e_29_51, e_29_24, e_29_25, e_29_26, e_29_27, e_29_28, e_29_31, e_29_34, e_29_35, e_29_36, e_29_37, e_29_40, e_29_41, true_and, and_true, or_true, true_or]
set_option maxRecDepth 20000 in
theorem s_29_42 (r0 : Nat) (x1 : Int32) (x2 : Int32) (x3 : Int32) (h : tH) (Q : tO → tH → Prop)  :
    AX 2 29 42 [.ref r0, .int x1, .int x2, .int x3] [] h Q =
    AX 2 29 16 [.ref r0, .int x1, .int x2, .int (x3 + 1)] [] h Q := by
  rw [e_29_42]
  simp only [e_29_45, true_and, and_true, or_true, true_or]
theorem am_29 (r0 : Nat) (h : tH) (Q : tO → tH → Prop) : AM 29 [.ref r0] h Q = AX 2 29 0 [.ref r0, .float 0, .float 0, .float 0] [] h Q := AM_at ta_29 _ _ _
-- X6_takes
set_option maxRecDepth 20000 in
theorem s_31_0 (r0 : Nat) (x1 : Int32) (x2 : Int32) (h : tH) (Q : tO → tH → Prop)  :
    AX 3 31 0 [.ref r0, .int x1, .int x2, .float 0, .float 0] [] h Q =
    (t_ob r0 = some 1 ∧ (if (h.1 r0 2) < (7 : Int32) then AX 3 31 13 [.ref r0, .int x1, .int x2, .int 0, .float 0] [] h Q else Q (.inl (some (.int 0))) h)) := by
  rw [e_31_0]
  simp only [e_31_1, e_31_4, e_31_6, e_31_11, e_31_12, e_31_9, e_31_10, t_z0, true_and, and_true, or_true, true_or]
set_option maxRecDepth 20000 in
theorem s_31_13 (r0 : Nat) (x1 : Int32) (x2 : Int32) (x3 : Int32) (w4 : Value) (h : tH) (Q : tO → tH → Prop)  :
    AX 3 31 13 [.ref r0, .int x1, .int x2, .int x3, w4] [] h Q =
    (t_ob r0 = some 1 ∧ (if (h.1 r0 2) ≤ x3 then Q (.inl (some (.int 1))) h else (t_ob r0 = some 1 ∧ AM 33 [.ref r0, .int x3] h (t_ki (fun a1 h1 => (if ¬ a1 = x1 then AX 3 31 41 [.ref r0, .int x1, .int x2, .int x3, w4] [] h1 Q else (t_ob r0 = some 1 ∧ AM 34 [.ref r0, .int x3] h1 (t_ki (fun a2 h2 => (if ¬ a2 = x2 then AX 3 31 41 [.ref r0, .int x1, .int x2, .int x3, w4] [] h2 Q else Q (.inl (some (.int 0))) h2)) Q)))) Q)))) := by
  rw [e_31_13]
  simp only [e_31_14, e_31_15, e_31_18, e_31_81, e_31_82, t_z1, e_31_21, e_31_22, e_31_23, e_31_26, e_31_27, e_31_30, e_31_31, e_31_32, e_31_35, e_31_36, e_31_39, e_31_40, t_z0, true_and, and_true, or_true, true_or]
set_option maxRecDepth 20000 in
theorem s_31_41 (r0 : Nat) (x1 : Int32) (x2 : Int32) (x3 : Int32) (w4 : Value) (h : tH) (Q : tO → tH → Prop)  :
    AX 3 31 41 [.ref r0, .int x1, .int x2, .int x3, w4] [] h Q =
    AX 3 31 46 [.ref r0, .int x1, .int x2, .int x3, .int (x3 + 1)] [] h Q := by
  rw [e_31_41]
  simp only [e_31_42, e_31_43, e_31_44, true_and, and_true, or_true, true_or]
set_option maxRecDepth 20000 in
theorem s_31_46 (r0 : Nat) (x1 : Int32) (x2 : Int32) (x3 : Int32) (x4 : Int32) (h : tH) (Q : tO → tH → Prop)  :
    AX 3 31 46 [.ref r0, .int x1, .int x2, .int x3, .int x4] [] h Q =
    (t_ob r0 = some 1 ∧ (if (h.1 r0 2) ≤ x4 then AX 3 31 13 [.ref r0, .int x1, .int x2, .int (x3 + 1), .int x4] [] h Q else (t_ob r0 = some 1 ∧ AM 35 [.ref r0, .int x3, .int x4, .int x1, .int x2] h (t_ki (fun a1 h1 => (if ¬ a1 = (0 : Int32) then AX 3 31 46 [.ref r0, .int x1, .int x2, .int x3, .int (x4 + 1)] [] h1 Q else Q (.inl (some (.int 0))) h1)) Q)))) := by
  rw [e_31_46]
  simp only [e_31_48, e_31_49, e_31_52, e_31_75, e_31_78, e_31_55, e_31_56, e_31_57, e_31_59, e_31_60, e_31_61, e_31_64, e_31_69, e_31_72, e_31_67, e_31_68, t_z0, true_and, and_true, or_true, true_or]
theorem am_31 (r0 : Nat) (x1 : Int32) (x2 : Int32) (h : tH) (Q : tO → tH → Prop) : AM 31 [.ref r0, .int x1, .int x2] h Q = AX 3 31 0 [.ref r0, .int x1, .int x2, .float 0, .float 0] [] h Q := AM_at ta_31 _ _ _
-- X6_put
set_option maxRecDepth 20000 in
theorem s_32_0 (r0 : Nat) (x1 : Int32) (x2 : Int32) (h : tH) (Q : tO → tH → Prop)  :
    AX 1 32 0 [.ref r0, .int x1, .int x2] [] h Q =
    (t_ob r0 = some 1 ∧ (t_ob r0 = some 1 ∧ AM 7 [.ref 2, .int (h.1 r0 2), .int x1] h (t_kv (fun h1 => (t_ob r0 = some 1 ∧ (t_ob r0 = some 1 ∧ AM 7 [.ref 3, .int (h1.1 r0 2), .int x2] h1 (t_kv (fun h2 => (t_ob r0 = some 1 ∧ (t_ob r0 = some 1 ∧ Q (.inl none) (t_I h2 r0 2 ((h2.1 r0 2) + 1))))) Q)))) Q))) := by
  rw [e_32_0]
  simp only [e_32_1, e_32_4, e_32_5, e_32_8, e_32_9, e_32_12, e_32_13, e_32_16, e_32_17, e_32_20, e_32_21, e_32_24, e_32_25, e_32_26, e_32_29, e_32_30, e_32_31, e_32_34, true_and, and_true, or_true, true_or]
theorem am_32 (r0 : Nat) (x1 : Int32) (x2 : Int32) (h : tH) (Q : tO → tH → Prop) : AM 32 [.ref r0, .int x1, .int x2] h Q = AX 1 32 0 [.ref r0, .int x1, .int x2] [] h Q := AM_at ta_32 _ _ _
-- X6_xOf
set_option maxRecDepth 20000 in
theorem s_33_0 (r0 : Nat) (x1 : Int32) (h : tH) (Q : tO → tH → Prop)  :
    AX 1 33 0 [.ref r0, .int x1] [] h Q =
    (t_ob r0 = some 1 ∧ AM 6 [.ref 2, .int x1] h (t_ki (fun a1 h1 => Q (.inl (some (.int a1))) h1) Q)) := by
  rw [e_33_0]
  simp only [e_33_1, e_33_4, e_33_5, e_33_8, true_and, and_true, or_true, true_or]
theorem am_33 (r0 : Nat) (x1 : Int32) (h : tH) (Q : tO → tH → Prop) : AM 33 [.ref r0, .int x1] h Q = AX 1 33 0 [.ref r0, .int x1] [] h Q := AM_at ta_33 _ _ _
-- X6_yOf
set_option maxRecDepth 20000 in
theorem s_34_0 (r0 : Nat) (x1 : Int32) (h : tH) (Q : tO → tH → Prop)  :
    AX 1 34 0 [.ref r0, .int x1] [] h Q =
    (t_ob r0 = some 1 ∧ AM 6 [.ref 3, .int x1] h (t_ki (fun a1 h1 => Q (.inl (some (.int a1))) h1) Q)) := by
  rw [e_34_0]
  simp only [e_34_1, e_34_4, e_34_5, e_34_8, true_and, and_true, or_true, true_or]
theorem am_34 (r0 : Nat) (x1 : Int32) (h : tH) (Q : tO → tH → Prop) : AM 34 [.ref r0, .int x1] h Q = AX 1 34 0 [.ref r0, .int x1] [] h Q := AM_at ta_34 _ _ _
-- X6_turn
set_option maxRecDepth 20000 in
theorem s_35_0 (r0 : Nat) (x1 : Int32) (x2 : Int32) (x3 : Int32) (x4 : Int32) (h : tH) (Q : tO → tH → Prop)  :
    AX 2 35 0 [.ref r0, .int x1, .int x2, .int x3, .int x4, .float 0] [] h Q =
    (t_ob r0 = some 1 ∧ AM 33 [.ref r0, .int x2] h (t_ki (fun a1 h1 => (t_ob r0 = some 1 ∧ AM 33 [.ref r0, .int x1] h1 (t_ki (fun a2 h2 => (t_ob r0 = some 1 ∧ AM 34 [.ref r0, .int x1] h2 (t_ki (fun a3 h3 => (t_ob r0 = some 1 ∧ AM 33 [.ref r0, .int x1] h3 (t_ki (fun a4 h4 => (t_ob r0 = some 1 ∧ AM 34 [.ref r0, .int x2] h4 (t_ki (fun a5 h5 => (t_ob r0 = some 1 ∧ AM 34 [.ref r0, .int x1] h5 (t_ki (fun a6 h6 => AM 0 [.int (((a1 - a2) * (x4 - a3)) - ((x3 - a4) * (a5 - a6))), .int 0] h6 (t_ki (fun a7 h7 => Q (.inl (some (.int a7))) h7) Q)) Q))) Q))) Q))) Q))) Q))) Q)) := by
  rw [e_35_0]
  simp only [e_35_1, e_35_2, e_35_5, e_35_6, e_35_7, e_35_10, e_35_11, e_35_13, e_35_14, e_35_15, e_35_18, e_35_19, e_35_20, e_35_21, e_35_22, e_35_23, e_35_26, e_35_27, e_35_28, e_35_29, e_35_32, e_35_33, e_35_34, e_35_37, e_35_38, e_35_39, e_35_40, e_35_42, e_35_44, e_35_45, e_35_48, true_and, and_true, or_true, true_or]
theorem am_35 (r0 : Nat) (x1 : Int32) (x2 : Int32) (x3 : Int32) (x4 : Int32) (h : tH) (Q : tO → tH → Prop) : AM 35 [.ref r0, .int x1, .int x2, .int x3, .int x4] h Q = AX 2 35 0 [.ref r0, .int x1, .int x2, .int x3, .int x4, .float 0] [] h Q := AM_at ta_35 _ _ _
-- X6_turnOf
set_option maxRecDepth 20000 in
theorem s_36_0 (r0 : Nat) (x1 : Int32) (x2 : Int32) (x3 : Int32) (h : tH) (Q : tO → tH → Prop)  :
    AX 3 36 0 [.ref r0, .int x1, .int x2, .int x3] [] h Q =
    (t_ob r0 = some 1 ∧ AM 33 [.ref r0, .int x3] h (t_ki (fun a1 h1 => (t_ob r0 = some 1 ∧ AM 34 [.ref r0, .int x3] h1 (t_ki (fun a2 h2 => (t_ob r0 = some 1 ∧ AM 35 [.ref r0, .int x1, .int x2, .int a1, .int a2] h2 (t_ki (fun a3 h3 => Q (.inl (some (.int a3))) h3) Q))) Q))) Q)) := by
  rw [e_36_0]
  simp only [e_36_1, e_36_2, e_36_3, e_36_4, e_36_5, e_36_8, e_36_9, e_36_10, e_36_13, e_36_16, true_and, and_true, or_true, true_or]
theorem am_36 (r0 : Nat) (x1 : Int32) (x2 : Int32) (x3 : Int32) (h : tH) (Q : tO → tH → Prop) : AM 36 [.ref r0, .int x1, .int x2, .int x3] h Q = AX 3 36 0 [.ref r0, .int x1, .int x2, .int x3] [] h Q := AM_at ta_36 _ _ _
-- X6_tell
set_option maxRecDepth 20000 in
theorem s_37_0 (r0 : Nat) (r1 : Nat) (h : tH) (Q : tO → tH → Prop)  :
    AX 4 37 0 [.ref r0, .ref r1, .float 0, .float 0, .float 0] [] h Q =
    (t_ob r0 = some 1 ∧ (t_ob r1 = some 6 ∧ AX 4 37 10 [.ref r0, .ref r1, .int 0, .float 0, .float 0] [] (t_I h r1 1 (h.1 r0 2)) Q)) := by
  rw [e_37_0]
  simp only [e_37_1, e_37_2, e_37_5, e_37_8, e_37_9, true_and, and_true, or_true, true_or]
set_option maxRecDepth 20000 in
theorem s_37_10 (r0 : Nat) (r1 : Nat) (x2 : Int32) (w3 : Value) (w4 : Value) (h : tH) (Q : tO → tH → Prop)  :
    AX 4 37 10 [.ref r0, .ref r1, .int x2, w3, w4] [] h Q =
    (t_ob r0 = some 1 ∧ (if (h.1 r0 2) ≤ x2 then Q (.inl none) h else AX 4 37 22 [.ref r0, .ref r1, .int x2, .int (x2 + 1), w4] [] h Q)) := by
  rw [e_37_10]
  simp only [e_37_11, e_37_12, e_37_15, e_37_78, e_37_18, e_37_19, e_37_20, e_37_21, true_and, and_true, or_true, true_or]
set_option maxRecDepth 20000 in
theorem s_37_22 (r0 : Nat) (r1 : Nat) (x2 : Int32) (x3 : Int32) (w4 : Value) (h : tH) (Q : tO → tH → Prop)  :
    AX 4 37 22 [.ref r0, .ref r1, .int x2, .int x3, w4] [] h Q =
    (t_ob r0 = some 1 ∧ (if (h.1 r0 2) ≤ x3 then AX 4 37 10 [.ref r0, .ref r1, .int (x2 + 1), .int x3, w4] [] h Q else AX 4 37 35 [.ref r0, .ref r1, .int x2, .int x3, .int (x3 + 1)] [] h Q)) := by
  rw [e_37_22]
  simp only [e_37_23, e_37_24, e_37_27, e_37_72, e_37_75, e_37_30, e_37_31, e_37_32, e_37_33, true_and, and_true, or_true, true_or]
set_option maxRecDepth 20000 in
theorem s_37_35 (r0 : Nat) (r1 : Nat) (x2 : Int32) (x3 : Int32) (x4 : Int32) (h : tH) (Q : tO → tH → Prop)  :
    AX 4 37 35 [.ref r0, .ref r1, .int x2, .int x3, .int x4] [] h Q =
    (t_ob r0 = some 1 ∧ (if (h.1 r0 2) ≤ x4 then AX 4 37 22 [.ref r0, .ref r1, .int x2, .int (x3 + 1), .int x4] [] h Q else (t_ob r0 = some 1 ∧ AM 36 [.ref r0, .int x2, .int x3, .int x4] h (t_ki (fun a1 h1 => (t_ob r1 = some 6 ∧ AM 41 [.ref r1, .int x2, .int x3, .int x4, .int a1] h1 (t_kv (fun h2 => AX 4 37 35 [.ref r0, .ref r1, .int x2, .int x3, .int (x4 + 1)] [] h2 Q) Q))) Q)))) := by
  rw [e_37_35]
  simp only [e_37_37, e_37_38, e_37_41, e_37_66, e_37_69, e_37_44, e_37_45, e_37_46, e_37_47, e_37_49, e_37_50, e_37_51, e_37_52, e_37_54, e_37_57, e_37_60, e_37_63, true_and, and_true, or_true, true_or]
theorem am_37 (r0 : Nat) (r1 : Nat) (h : tH) (Q : tO → tH → Prop) : AM 37 [.ref r0, .ref r1] h Q = AX 4 37 0 [.ref r0, .ref r1, .float 0, .float 0, .float 0] [] h Q := AM_at ta_37 _ _ _
-- X9_place
set_option maxRecDepth 20000 in
theorem s_62_0 (r0 : Nat) (x1 : Int32) (x2 : Int32) (h : tH) (Q : tO → tH → Prop)  :
    AX 4 62 0 [.ref r0, .int x1, .int x2] [] h Q =
    (if x1 < ((-1000) : Int32) then AX 4 62 28 [.ref r0, .int x1, .int x2] [] h Q else (if (1000 : Int32) < x1 then AX 4 62 28 [.ref r0, .int x1, .int x2] [] h Q else (if x2 < ((-1000) : Int32) then AX 4 62 28 [.ref r0, .int x1, .int x2] [] h Q else (if x2 ≤ (1000 : Int32) then (t_ob r0 = some 0 ∧ AM 31 [.ref 1, .int x1, .int x2] h (t_ki (fun a1 h1 => (if ¬ a1 = (0 : Int32) then (t_ob r0 = some 0 ∧ AM 32 [.ref 1, .int x1, .int x2] h1 (t_kv (fun h2 => (t_ob r0 = some 0 ∧ Q (.inl (some (.int (h2.1 1 2)))) h2)) Q)) else Q (.inr 1) (t_X h1))) Q)) else AX 4 62 28 [.ref r0, .int x1, .int x2] [] h Q)))) := by
  rw [e_62_0]
  simp only [e_62_1, e_62_4, e_62_7, e_62_8, e_62_11, e_62_14, e_62_15, e_62_18, e_62_21, e_62_22, e_62_25, e_62_38, e_62_39, e_62_42, e_62_43, e_62_44, e_62_47, e_62_60, e_62_61, e_62_64, e_62_65, e_62_66, e_62_69, e_62_70, e_62_73, e_62_76, e_62_50, t_ob_1, true_and, and_true, or_true, true_or]
set_option maxRecDepth 20000 in
theorem s_62_28 (r0 : Nat) (x1 : Int32) (x2 : Int32) (h : tH) (Q : tO → tH → Prop)  :
    AX 4 62 28 [.ref r0, .int x1, .int x2] [] h Q =
    Q (.inr 0) (t_X h) := by
  rw [e_62_28]
theorem am_62 (r0 : Nat) (x1 : Int32) (x2 : Int32) (h : tH) (Q : tO → tH → Prop) : AM 62 [.ref r0, .int x1, .int x2] h Q = AX 4 62 0 [.ref r0, .int x1, .int x2] [] h Q := AM_at ta_62 _ _ _
-- X9_clear
set_option maxRecDepth 20000 in
theorem s_63_0 (r0 : Nat) (h : tH) (Q : tO → tH → Prop)  :
    AX 0 63 0 [.ref r0, .float 0] [] h Q =
    (t_ob r0 = some 0 ∧ (t_ob r0 = some 0 ∧ Q (.inl (some (.int (h.1 1 2)))) (t_I h 1 2 0))) := by
  rw [e_63_0]
  simp only [e_63_1, e_63_4, e_63_7, e_63_8, e_63_9, e_63_12, e_63_13, e_63_16, e_63_17, t_ob_1, true_and, and_true, or_true, true_or]
theorem am_63 (r0 : Nat) (h : tH) (Q : tO → tH → Prop) : AM 63 [.ref r0] h Q = AX 0 63 0 [.ref r0, .float 0] [] h Q := AM_at ta_63 _ _ _
-- X9_draw
set_option maxRecDepth 20000 in
theorem s_68_0 (r0 : Nat) (h : tH) (Q : tO → tH → Prop)  :
    AX 5 68 0 [.ref r0, .float 0] [] h Q =
    (t_ob r0 = some 0 ∧ (if (3 : Int32) ≤ (h.1 1 2) then (t_ob r0 = some 0 ∧ AM 77 [.ref r0] h (t_kq (fun a1 h1 => AX 5 68 25 [.ref r0, .float 0] [(va_rf a1)] h1 Q) Q)) else Q (.inr 1) (t_X h))) := by
  rw [e_68_0]
  simp only [e_68_1, e_68_4, e_68_7, e_68_8, e_68_21, e_68_22, e_68_11, t_ob_1, true_and, and_true, or_true, true_or]
set_option maxRecDepth 20000 in
theorem s_68_25 (r0 : Nat) (k0 : Nat) (h : tH) (Q : tO → tH → Prop)  :
    AX 5 68 25 [.ref r0, .float 0] [.ref k0] h Q =
    (t_ob r0 = some 0 ∧ (t_ob k0 = some 5 ∧ AM 37 [.ref 1, .ref (k0 + 30)] h (t_kv (fun h1 => (t_ob r0 = some 0 ∧ (t_ob k0 = some 5 ∧ AM 9 [.ref k0, .ref 1] h1 (t_kv (fun h2 => (t_ob r0 = some 0 ∧ (t_ob r0 = some 0 ∧ AM 78 [.ref r0] (t_I h2 1 2 0) (t_ki (fun a3 h3 => Q (.inl (some (.int a3))) h3) Q)))) Q)))) Q))) := by
  rw [e_68_25]
  simp only [e_68_26, e_68_27, e_68_30, e_68_31, e_68_34, e_68_37, e_68_38, e_68_39, e_68_42, e_68_45, e_68_46, e_68_49, e_68_50, e_68_53, e_68_54, e_68_57, t_ob_1, true_and, and_true, or_true, true_or]
theorem am_68 (r0 : Nat) (h : tH) (Q : tO → tH → Prop) : AM 68 [.ref r0] h Q = AX 5 68 0 [.ref r0, .float 0] [] h Q := AM_at ta_68 _ _ _
-- X9_copy
theorem b_70_22 (r0 : Nat) (x1 : Int32) (x2 : Int32) (r3 : Nat) (r4 : Nat) (u0 : Int32) (k1 : Nat) (k2 : Nat) (h : tH) (Q : tO → tH → Prop) : AX 3 70 22 [.ref r0, .int x1, .int x2, .ref r3, .ref r4] [.int u0, .ref k1, .ref k2] h Q = AX 3 70 30 [.ref r0, .int x1, .int x2, .ref r3, .ref r4] [.int (if u0 = (0 : Int32) then (1 : Int32) else (-1)), .ref k1, .ref k2] h Q := by
  simp only [e_70_22, e_70_25, e_70_26, e_70_29]
  repeat' split
  all_goals rfl
set_option maxRecDepth 20000 in
theorem s_70_0 (r0 : Nat) (x1 : Int32) (x2 : Int32) (h : tH) (Q : tO → tH → Prop)  :
    AX 3 70 0 [.ref r0, .int x1, .int x2, .float 0, .float 0] [] h Q =
    (t_ob r0 = some 0 ∧ AM 75 [.ref r0, .int x1] h (t_kq (fun a1 h1 => AX 3 70 5 [.ref r0, .int x1, .int x2, .float 0, .float 0] [(va_rf a1)] h1 Q) Q)) := by
  rw [e_70_0]
  simp only [e_70_1, e_70_2, true_and, and_true, or_true, true_or]
set_option maxRecDepth 20000 in
theorem s_70_5 (r0 : Nat) (x1 : Int32) (x2 : Int32) (k0 : Nat) (h : tH) (Q : tO → tH → Prop)  :
    AX 3 70 5 [.ref r0, .int x1, .int x2, .float 0, .float 0] [.ref k0] h Q =
    (t_ob r0 = some 0 ∧ AM 77 [.ref r0] h (t_kq (fun a1 h1 => AX 3 70 10 [.ref r0, .int x1, .int x2, .ref k0, .float 0] [(va_rf a1)] h1 Q) Q)) := by
  rw [e_70_5]
  simp only [e_70_6, e_70_7, true_and, and_true, or_true, true_or]
set_option maxRecDepth 20000 in
theorem s_70_10 (r0 : Nat) (x1 : Int32) (x2 : Int32) (r3 : Nat) (k0 : Nat) (h : tH) (Q : tO → tH → Prop)  :
    AX 3 70 10 [.ref r0, .int x1, .int x2, .ref r3, .float 0] [.ref k0] h Q =
    (t_ob k0 = some 5 ∧ (t_ob r3 = some 5 ∧ (t_ob (k0 + 30) = some 6 ∧ AM 42 [.ref (k0 + 30), .ref (r3 + 30), .int (if x2 = (0 : Int32) then (1 : Int32) else (-1))] h (t_kv (fun h1 => (t_ob r0 = some 0 ∧ AM 78 [.ref r0] h1 (t_ki (fun a2 h2 => Q (.inl (some (.int a2))) h2) Q))) Q)))) := by
  rw [e_70_10]
  simp only [e_70_12, e_70_14, e_70_17, e_70_18, e_70_21, b_70_22, e_70_30, e_70_33, e_70_34, e_70_37, true_and, and_true, or_true, true_or]
theorem am_70 (r0 : Nat) (x1 : Int32) (x2 : Int32) (h : tH) (Q : tO → tH → Prop) : AM 70 [.ref r0, .int x1, .int x2] h Q = AX 3 70 0 [.ref r0, .int x1, .int x2, .float 0, .float 0] [] h Q := AM_at ta_70 _ _ _
-- X9_flip
set_option maxRecDepth 20000 in
theorem s_71_0 (r0 : Nat) (x1 : Int32) (x2 : Int32) (x3 : Int32) (x4 : Int32) (h : tH) (Q : tO → tH → Prop)  :
    AX 6 71 0 [.ref r0, .int x1, .int x2, .int x3, .int x4, .float 0] [] h Q =
    (t_ob r0 = some 0 ∧ AM 75 [.ref r0, .int x1] h (t_kq (fun a1 h1 => AX 6 71 5 [.ref r0, .int x1, .int x2, .int x3, .int x4, .float 0] [(va_rf a1)] h1 Q) Q)) := by
  rw [e_71_0]
  simp only [e_71_1, e_71_2, true_and, and_true, or_true, true_or]
set_option maxRecDepth 20000 in
theorem s_71_5 (r0 : Nat) (x1 : Int32) (x2 : Int32) (x3 : Int32) (x4 : Int32) (k0 : Nat) (h : tH) (Q : tO → tH → Prop)  :
    AX 6 71 5 [.ref r0, .int x1, .int x2, .int x3, .int x4, .float 0] [.ref k0] h Q =
    AM 76 [.ref k0, .int x2] h (t_kv (fun h1 => AM 76 [.ref k0, .int x3] h1 (t_kv (fun h2 => AM 76 [.ref k0, .int x4] h2 (t_kv (fun h3 => (if x2 = x3 then AX 6 71 43 [.ref r0, .int x1, .int x2, .int x3, .int x4, .ref k0] [] h3 Q else (if x2 = x4 then AX 6 71 43 [.ref r0, .int x1, .int x2, .int x3, .int x4, .ref k0] [] h3 Q else (if ¬ x3 = x4 then (t_ob k0 = some 5 ∧ (t_ob (k0 + 30) = some 6 ∧ AM 45 [.ref (k0 + 30), .int x2, .int x3, .int x4] h3 (t_ki (fun a4 h4 => (if ¬ a4 = (0 : Int32) then (t_ob k0 = some 5 ∧ (0 = 0 ∨ 0 = 1) ∧ (t_ob k0 = some 5 ∧ (0 = 0 ∨ 0 = 1) ∧ Q (.inl (some (.int 1))) (t_I (t_I h4 k0 3 0) k0 5 0))) else Q (.inl (some (.int 0))) h4)) Q))) else AX 6 71 43 [.ref r0, .int x1, .int x2, .int x3, .int x4, .ref k0] [] h3 Q)))) Q)) Q)) Q) := by
  rw [e_71_5]
  simp only [e_71_7, e_71_9, e_71_10, e_71_13, e_71_15, e_71_16, e_71_19, e_71_21, e_71_23, e_71_26, e_71_27, e_71_28, e_71_31, e_71_32, e_71_34, e_71_37, e_71_38, e_71_40, e_71_53, e_71_55, e_71_58, e_71_59, e_71_60, e_71_62, e_71_65, e_71_70, e_71_72, e_71_73, e_71_76, e_71_78, e_71_79, e_71_82, e_71_83, t_z1, e_71_68, e_71_69, t_z0, true_and, and_true, or_true, true_or]
set_option maxRecDepth 20000 in
theorem s_71_43 (r0 : Nat) (x1 : Int32) (x2 : Int32) (x3 : Int32) (x4 : Int32) (r5 : Nat) (h : tH) (Q : tO → tH → Prop)  :
    AX 6 71 43 [.ref r0, .int x1, .int x2, .int x3, .int x4, .ref r5] [] h Q =
    Q (.inr 0) (t_X h) := by
  rw [e_71_43]
theorem am_71 (r0 : Nat) (x1 : Int32) (x2 : Int32) (x3 : Int32) (x4 : Int32) (h : tH) (Q : tO → tH → Prop) : AM 71 [.ref r0, .int x1, .int x2, .int x3, .int x4] h Q = AX 6 71 0 [.ref r0, .int x1, .int x2, .int x3, .int x4, .float 0] [] h Q := AM_at ta_71 _ _ _
-- X9_rename
set_option maxRecDepth 20000 in
theorem s_72_0 (r0 : Nat) (x1 : Int32) (x2 : Int32) (x3 : Int32) (h : tH) (Q : tO → tH → Prop)  :
    AX 3 72 0 [.ref r0, .int x1, .int x2, .int x3, .float 0] [] h Q =
    (t_ob r0 = some 0 ∧ AM 75 [.ref r0, .int x1] h (t_kq (fun a1 h1 => AX 3 72 5 [.ref r0, .int x1, .int x2, .int x3, .float 0] [(va_rf a1)] h1 Q) Q)) := by
  rw [e_72_0]
  simp only [e_72_1, e_72_2, true_and, and_true, or_true, true_or]
set_option maxRecDepth 20000 in
theorem s_72_5 (r0 : Nat) (x1 : Int32) (x2 : Int32) (x3 : Int32) (k0 : Nat) (h : tH) (Q : tO → tH → Prop)  :
    AX 3 72 5 [.ref r0, .int x1, .int x2, .int x3, .float 0] [.ref k0] h Q =
    AM 76 [.ref k0, .int x2] h (t_kv (fun h1 => AM 76 [.ref k0, .int x3] h1 (t_kv (fun h2 => (if ¬ x2 = x3 then (t_ob k0 = some 5 ∧ (t_ob (k0 + 30) = some 6 ∧ AM 44 [.ref (k0 + 30), .int x2, .int x3] h2 (t_kv (fun h3 => (t_ob k0 = some 5 ∧ AM 8 [.ref (k0 + 10), .int x2, .int x3] h3 (t_kv (fun h4 => (t_ob k0 = some 5 ∧ AM 8 [.ref (k0 + 20), .int x2, .int x3] h4 (t_kv (fun h5 => (t_ob k0 = some 5 ∧ (0 = 0 ∨ 0 = 1) ∧ Q (.inl none) (t_I h5 k0 5 0))) Q))) Q))) Q))) else Q (.inr 0) (t_X h2))) Q)) Q) := by
  rw [e_72_5]
  simp only [e_72_7, e_72_9, e_72_10, e_72_13, e_72_15, e_72_16, e_72_19, e_72_20, e_72_21, e_72_34, e_72_36, e_72_39, e_72_40, e_72_41, e_72_44, e_72_46, e_72_49, e_72_50, e_72_51, e_72_54, e_72_56, e_72_59, e_72_60, e_72_61, e_72_64, e_72_66, e_72_67, e_72_70, e_72_24, true_and, and_true, or_true, true_or]
theorem am_72 (r0 : Nat) (x1 : Int32) (x2 : Int32) (x3 : Int32) (h : tH) (Q : tO → tH → Prop) : AM 72 [.ref r0, .int x1, .int x2, .int x3] h Q = AX 3 72 0 [.ref r0, .int x1, .int x2, .int x3, .float 0] [] h Q := AM_at ta_72 _ _ _
-- X9_slot
set_option maxRecDepth 20000 in
theorem s_74_0 (r0 : Nat) (x1 : Int32) (h : tH) (Q : tO → tH → Prop)  :
    AX 0 74 0 [.ref r0, .int x1] [] h Q =
    (if x1 < (0 : Int32) then AX 0 74 22 [.ref r0, .int x1] [] h Q else (t_ob r0 = some 0 ∧ (if (Int32.ofNat 6) ≤ x1 then AX 0 74 22 [.ref r0, .int x1] [] h Q else (t_ob r0 = some 0 ∧ (vp_in x1 6 ∧ AX 0 74 23 [.ref r0, .int x1] [.ref (40 + x1.toNatClampNeg)] h Q))))) := by
  rw [e_74_0]
  simp only [e_74_1, e_74_4, e_74_5, e_74_6, (fun r0 x1 u1 h Q => e_74_9 r0 x1 8 u1 h Q 6 (t_ln_8 h)), e_74_10, e_74_13, e_74_14, e_74_17, e_74_18, e_74_19, t_ro_8, true_and, and_true, or_true, true_or]
set_option maxRecDepth 20000 in
theorem s_74_22 (r0 : Nat) (x1 : Int32) (h : tH) (Q : tO → tH → Prop)  :
    AX 0 74 22 [.ref r0, .int x1] [] h Q =
    AX 0 74 23 [.ref r0, .int x1] [.null] h Q := by
  rw [e_74_22]
set_option maxRecDepth 20000 in
theorem s_74_23 (r0 : Nat) (x1 : Int32) (k0 : Nat) (h : tH) (Q : tO → tH → Prop)  :
    AX 0 74 23 [.ref r0, .int x1] [.ref k0] h Q =
    Q (.inl (some (.ref k0))) h := by
  rw [e_74_23]
set_option maxRecDepth 20000 in
theorem s_74_23n (r0 : Nat) (x1 : Int32) (h : tH) (Q : tO → tH → Prop)  :
    AX 0 74 23 [.ref r0, .int x1] [.null] h Q =
    Q (.inl (some (.null))) h := by
  rw [e_74_23n]
theorem am_74 (r0 : Nat) (x1 : Int32) (h : tH) (Q : tO → tH → Prop) : AM 74 [.ref r0, .int x1] h Q = AX 0 74 0 [.ref r0, .int x1] [] h Q := AM_at ta_74 _ _ _
-- X9_known
set_option maxRecDepth 20000 in
theorem s_75_0 (r0 : Nat) (x1 : Int32) (h : tH) (Q : tO → tH → Prop)  :
    AX 1 75 0 [.ref r0, .int x1, .float 0] [] h Q =
    (t_ob r0 = some 0 ∧ (if (h.1 r0 3) ≤ x1 then AX 1 75 17 [.ref r0, .int x1, .float 0] [.null] h Q else (t_ob r0 = some 0 ∧ AM 74 [.ref r0, .int x1] h (t_kq (fun a1 h1 => AX 1 75 13 [.ref r0, .int x1, .float 0] [(va_rf a1)] h1 Q) Q)))) := by
  rw [e_75_0]
  simp only [e_75_1, e_75_2, e_75_5, e_75_16, e_75_8, e_75_9, e_75_10, true_and, and_true, or_true, true_or]
set_option maxRecDepth 20000 in
theorem s_75_13 (r0 : Nat) (x1 : Int32) (k0 : Nat) (h : tH) (Q : tO → tH → Prop)  :
    AX 1 75 13 [.ref r0, .int x1, .float 0] [.ref k0] h Q =
    AX 1 75 17 [.ref r0, .int x1, .float 0] [.ref k0] h Q := by
  rw [e_75_13]
set_option maxRecDepth 20000 in
theorem s_75_13n (r0 : Nat) (x1 : Int32) (h : tH) (Q : tO → tH → Prop)  :
    AX 1 75 13 [.ref r0, .int x1, .float 0] [.null] h Q =
    AX 1 75 17 [.ref r0, .int x1, .float 0] [.null] h Q := by
  rw [e_75_13n]
set_option maxRecDepth 20000 in
theorem s_75_17 (r0 : Nat) (x1 : Int32) (k0 : Nat) (h : tH) (Q : tO → tH → Prop)  :
    AX 1 75 17 [.ref r0, .int x1, .float 0] [.ref k0] h Q =
    Q (.inl (some (.ref k0))) h := by
  rw [e_75_17]
  simp only [e_75_18, e_75_19, e_75_32, e_75_33, true_and, and_true, or_true, true_or]
set_option maxRecDepth 20000 in
theorem s_75_17n (r0 : Nat) (x1 : Int32) (h : tH) (Q : tO → tH → Prop)  :
    AX 1 75 17 [.ref r0, .int x1, .float 0] [.null] h Q =
    Q (.inr 2) (t_X h) := by
  rw [e_75_17n]
  simp only [e_75_18n, e_75_19n, e_75_22n, true_and, and_true, or_true, true_or]
theorem am_75 (r0 : Nat) (x1 : Int32) (h : tH) (Q : tO → tH → Prop) : AM 75 [.ref r0, .int x1] h Q = AX 1 75 0 [.ref r0, .int x1, .float 0] [] h Q := AM_at ta_75 _ _ _
-- X9_checkPoint
set_option maxRecDepth 20000 in
theorem s_76_0 (r0 : Nat) (x1 : Int32) (h : tH) (Q : tO → tH → Prop)  :
    AX 0 76 0 [.ref r0, .int x1] [] h Q =
    (if x1 < (0 : Int32) then AX 0 76 15 [.ref r0, .int x1] [] h Q else (t_ob r0 = some 5 ∧ (t_ob (r0 + 30) = some 6 ∧ (if x1 < (h.1 (r0 + 30) 1) then Q (.inl none) h else AX 0 76 15 [.ref r0, .int x1] [] h Q)))) := by
  rw [e_76_0]
  simp only [e_76_1, e_76_4, e_76_5, e_76_6, e_76_9, e_76_12, e_76_25, true_and, and_true, or_true, true_or]
set_option maxRecDepth 20000 in
theorem s_76_15 (r0 : Nat) (x1 : Int32) (h : tH) (Q : tO → tH → Prop)  :
    AX 0 76 15 [.ref r0, .int x1] [] h Q =
    Q (.inr 2) (t_X h) := by
  rw [e_76_15]
theorem am_76 (r0 : Nat) (x1 : Int32) (h : tH) (Q : tO → tH → Prop) : AM 76 [.ref r0, .int x1] h Q = AX 0 76 0 [.ref r0, .int x1] [] h Q := AM_at ta_76 _ _ _
-- X9_unused
set_option maxRecDepth 20000 in
theorem s_77_0 (r0 : Nat) (h : tH) (Q : tO → tH → Prop)  :
    AX 1 77 0 [.ref r0, .float 0] [] h Q =
    (t_ob r0 = some 0 ∧ (t_ob r0 = some 0 ∧ AM 74 [.ref r0, .int (h.1 r0 3)] h (t_kq (fun a1 h1 => AX 1 77 8 [.ref r0, .float 0] [(va_rf a1)] h1 Q) Q))) := by
  rw [e_77_0]
  simp only [e_77_1, e_77_2, e_77_5, true_and, and_true, or_true, true_or]
set_option maxRecDepth 20000 in
theorem s_77_8 (r0 : Nat) (k0 : Nat) (h : tH) (Q : tO → tH → Prop)  :
    AX 1 77 8 [.ref r0, .float 0] [.ref k0] h Q =
    Q (.inl (some (.ref k0))) h := by
  rw [e_77_8]
  simp only [e_77_9, e_77_10, e_77_23, e_77_24, true_and, and_true, or_true, true_or]
set_option maxRecDepth 20000 in
theorem s_77_8n (r0 : Nat) (h : tH) (Q : tO → tH → Prop)  :
    AX 1 77 8 [.ref r0, .float 0] [.null] h Q =
    Q (.inr 1) (t_X h) := by
  rw [e_77_8n]
  simp only [e_77_9n, e_77_10n, e_77_13n, true_and, and_true, or_true, true_or]
theorem am_77 (r0 : Nat) (h : tH) (Q : tO → tH → Prop) : AM 77 [.ref r0] h Q = AX 1 77 0 [.ref r0, .float 0] [] h Q := AM_at ta_77 _ _ _
-- X9_finished
set_option maxRecDepth 20000 in
theorem s_78_0 (r0 : Nat) (h : tH) (Q : tO → tH → Prop)  :
    AX 0 78 0 [.ref r0] [] h Q =
    (t_ob r0 = some 0 ∧ (t_ob r0 = some 0 ∧ (t_ob r0 = some 0 ∧ Q (.inl (some (.int (((t_I h r0 3 ((h.1 r0 3) + 1)).1 r0 3) - 1)))) (t_I h r0 3 ((h.1 r0 3) + 1))))) := by
  rw [e_78_0]
  simp only [e_78_1, e_78_2, e_78_5, e_78_6, e_78_7, e_78_10, e_78_11, e_78_14, e_78_15, e_78_16, true_and, and_true, or_true, true_or]
theorem am_78 (r0 : Nat) (h : tH) (Q : tO → tH → Prop) : AM 78 [.ref r0] h Q = AX 0 78 0 [.ref r0] [] h Q := AM_at ta_78 _ _ _
-- X9_drawings
set_option maxRecDepth 20000 in
theorem s_79_0 (r0 : Nat) (h : tH) (Q : tO → tH → Prop)  :
    AX 0 79 0 [.ref r0] [] h Q =
    (t_ob r0 = some 0 ∧ Q (.inl (some (.int (h.1 r0 3)))) h) := by
  rw [e_79_0]
  simp only [e_79_1, e_79_4, true_and, and_true, or_true, true_or]
theorem am_79 (r0 : Nat) (h : tH) (Q : tO → tH → Prop) : AM 79 [.ref r0] h Q = AX 0 79 0 [.ref r0] [] h Q := AM_at ta_79 _ _ _
-- X9_points
set_option maxRecDepth 20000 in
theorem s_80_0 (r0 : Nat) (x1 : Int32) (h : tH) (Q : tO → tH → Prop)  :
    AX 2 80 0 [.ref r0, .int x1] [] h Q =
    (t_ob r0 = some 0 ∧ AM 75 [.ref r0, .int x1] h (t_kq (fun a1 h1 => AX 2 80 5 [.ref r0, .int x1] [(va_rf a1)] h1 Q) Q)) := by
  rw [e_80_0]
  simp only [e_80_1, e_80_2, true_and, and_true, or_true, true_or]
set_option maxRecDepth 20000 in
theorem s_80_5 (r0 : Nat) (x1 : Int32) (k0 : Nat) (h : tH) (Q : tO → tH → Prop)  :
    AX 2 80 5 [.ref r0, .int x1] [.ref k0] h Q =
    (t_ob k0 = some 5 ∧ (t_ob (k0 + 30) = some 6 ∧ Q (.inl (some (.int (h.1 (k0 + 30) 1)))) h)) := by
  rw [e_80_5]
  simp only [e_80_8, e_80_11, true_and, and_true, or_true, true_or]
theorem am_80 (r0 : Nat) (x1 : Int32) (h : tH) (Q : tO → tH → Prop) : AM 80 [.ref r0, .int x1] h Q = AX 2 80 0 [.ref r0, .int x1] [] h Q := AM_at ta_80 _ _ _
-- X9_hasNumbers
set_option maxRecDepth 20000 in
theorem s_81_0 (r0 : Nat) (x1 : Int32) (h : tH) (Q : tO → tH → Prop)  :
    AX 2 81 0 [.ref r0, .int x1] [] h Q =
    (t_ob r0 = some 0 ∧ AM 75 [.ref r0, .int x1] h (t_kq (fun a1 h1 => AX 2 81 5 [.ref r0, .int x1] [(va_rf a1)] h1 Q) Q)) := by
  rw [e_81_0]
  simp only [e_81_1, e_81_2, true_and, and_true, or_true, true_or]
set_option maxRecDepth 20000 in
theorem s_81_5 (r0 : Nat) (x1 : Int32) (k0 : Nat) (h : tH) (Q : tO → tH → Prop)  :
    AX 2 81 5 [.ref r0, .int x1] [.ref k0] h Q =
    (t_ob k0 = some 5 ∧ ((((h.1 k0 3) : Int32) = 0 ∨ ((h.1 k0 3) : Int32) = 1) ∧ Q (.inl (some (.int (h.1 k0 3)))) h)) := by
  rw [e_81_5]
  simp only [e_81_8, true_and, and_true, or_true, true_or]
theorem am_81 (r0 : Nat) (x1 : Int32) (h : tH) (Q : tO → tH → Prop) : AM 81 [.ref r0, .int x1] h Q = AX 2 81 0 [.ref r0, .int x1] [] h Q := AM_at ta_81 _ _ _
-- X9_number
set_option maxRecDepth 20000 in
theorem s_82_0 (r0 : Nat) (x1 : Int32) (x2 : Int32) (x3 : Int32) (h : tH) (Q : tO → tH → Prop)  :
    AX 2 82 0 [.ref r0, .int x1, .int x2, .int x3, .float 0] [] h Q =
    (t_ob r0 = some 0 ∧ AM 75 [.ref r0, .int x1] h (t_kq (fun a1 h1 => AX 2 82 5 [.ref r0, .int x1, .int x2, .int x3, .float 0] [(va_rf a1)] h1 Q) Q)) := by
  rw [e_82_0]
  simp only [e_82_1, e_82_2, true_and, and_true, or_true, true_or]
set_option maxRecDepth 20000 in
theorem s_82_5 (r0 : Nat) (x1 : Int32) (x2 : Int32) (x3 : Int32) (k0 : Nat) (h : tH) (Q : tO → tH → Prop)  :
    AX 2 82 5 [.ref r0, .int x1, .int x2, .int x3, .float 0] [.ref k0] h Q =
    AM 76 [.ref k0, .int x2] h (t_kv (fun h1 => (t_ob k0 = some 5 ∧ (if ¬ (h1.1 k0 3) = (0 : Int32) then (if x3 = (0 : Int32) then (t_ob k0 = some 5 ∧ AX 2 82 48 [.ref r0, .int x1, .int x2, .int x3, .ref k0] [.ref (k0 + 10)] h1 Q) else (t_ob k0 = some 5 ∧ AX 2 82 48 [.ref r0, .int x1, .int x2, .int x3, .ref k0] [.ref (k0 + 20)] h1 Q)) else Q (.inr 1) (t_X h1)))) Q) := by
  rw [e_82_5]
  simp only [e_82_7, e_82_9, e_82_10, e_82_13, e_82_15, e_82_18, e_82_31, e_82_32, e_82_43, e_82_45, e_82_35, e_82_37, e_82_40, e_82_21, true_and, and_true, or_true, true_or]
set_option maxRecDepth 20000 in
theorem s_82_48 (r0 : Nat) (x1 : Int32) (x2 : Int32) (x3 : Int32) (r4 : Nat) (k0 : Nat) (h : tH) (Q : tO → tH → Prop)  :
    AX 2 82 48 [.ref r0, .int x1, .int x2, .int x3, .ref r4] [.ref k0] h Q =
    AM 6 [.ref k0, .int x2] h (t_ki (fun a1 h1 => Q (.inl (some (.int a1))) h1) Q) := by
  rw [e_82_48]
  simp only [e_82_49, e_82_52, true_and, and_true, or_true, true_or]
theorem am_82 (r0 : Nat) (x1 : Int32) (x2 : Int32) (x3 : Int32) (h : tH) (Q : tO → tH → Prop) : AM 82 [.ref r0, .int x1, .int x2, .int x3] h Q = AX 2 82 0 [.ref r0, .int x1, .int x2, .int x3, .float 0] [] h Q := AM_at ta_82 _ _ _
-- X9_sign
set_option maxRecDepth 20000 in
theorem s_83_0 (r0 : Nat) (x1 : Int32) (x2 : Int32) (x3 : Int32) (x4 : Int32) (h : tH) (Q : tO → tH → Prop)  :
    AX 2 83 0 [.ref r0, .int x1, .int x2, .int x3, .int x4, .float 0] [] h Q =
    (t_ob r0 = some 0 ∧ AM 75 [.ref r0, .int x1] h (t_kq (fun a1 h1 => AX 2 83 5 [.ref r0, .int x1, .int x2, .int x3, .int x4, .float 0] [(va_rf a1)] h1 Q) Q)) := by
  rw [e_83_0]
  simp only [e_83_1, e_83_2, true_and, and_true, or_true, true_or]
set_option maxRecDepth 20000 in
theorem s_83_5 (r0 : Nat) (x1 : Int32) (x2 : Int32) (x3 : Int32) (x4 : Int32) (k0 : Nat) (h : tH) (Q : tO → tH → Prop)  :
    AX 2 83 5 [.ref r0, .int x1, .int x2, .int x3, .int x4, .float 0] [.ref k0] h Q =
    AM 76 [.ref k0, .int x2] h (t_kv (fun h1 => AM 76 [.ref k0, .int x3] h1 (t_kv (fun h2 => AM 76 [.ref k0, .int x4] h2 (t_kv (fun h3 => (t_ob k0 = some 5 ∧ (t_ob (k0 + 30) = some 6 ∧ AM 39 [.ref (k0 + 30), .int x2, .int x3, .int x4] h3 (t_ki (fun a4 h4 => Q (.inl (some (.int a4))) h4) Q)))) Q)) Q)) Q) := by
  rw [e_83_5]
  simp only [e_83_7, e_83_9, e_83_10, e_83_13, e_83_15, e_83_16, e_83_19, e_83_21, e_83_23, e_83_26, e_83_28, e_83_31, e_83_32, e_83_33, e_83_35, e_83_38, true_and, and_true, or_true, true_or]
theorem am_83 (r0 : Nat) (x1 : Int32) (x2 : Int32) (x3 : Int32) (x4 : Int32) (h : tH) (Q : tO → tH → Prop) : AM 83 [.ref r0, .int x1, .int x2, .int x3, .int x4] h Q = AX 2 83 0 [.ref r0, .int x1, .int x2, .int x3, .int x4, .float 0] [] h Q := AM_at ta_83 _ _ _
-- X9_flips
set_option maxRecDepth 20000 in
theorem s_84_0 (r0 : Nat) (x1 : Int32) (h : tH) (Q : tO → tH → Prop)  :
    AX 6 84 0 [.ref r0, .int x1, .float 0, .float 0, .float 0, .float 0, .float 0] [] h Q =
    (t_ob r0 = some 0 ∧ AM 75 [.ref r0, .int x1] h (t_kq (fun a1 h1 => AX 6 84 5 [.ref r0, .int x1, .float 0, .float 0, .float 0, .float 0, .float 0] [(va_rf a1)] h1 Q) Q)) := by
  rw [e_84_0]
  simp only [e_84_1, e_84_2, true_and, and_true, or_true, true_or]
set_option maxRecDepth 20000 in
theorem s_84_5 (r0 : Nat) (x1 : Int32) (k0 : Nat) (h : tH) (Q : tO → tH → Prop)  :
    AX 6 84 5 [.ref r0, .int x1, .float 0, .float 0, .float 0, .float 0, .float 0] [.ref k0] h Q =
    (t_ob k0 = some 5 ∧ AX 6 84 14 [.ref r0, .int x1, .ref (k0 + 30), .int 0, .int 0, .float 0, .float 0] [] h Q) := by
  rw [e_84_5]
  simp only [e_84_8, e_84_9, e_84_10, e_84_11, e_84_12, true_and, and_true, or_true, true_or]
set_option maxRecDepth 20000 in
theorem s_84_14 (r0 : Nat) (x1 : Int32) (r2 : Nat) (x3 : Int32) (x4 : Int32) (w5 : Value) (w6 : Value) (h : tH) (Q : tO → tH → Prop)  :
    AX 6 84 14 [.ref r0, .int x1, .ref r2, .int x3, .int x4, w5, w6] [] h Q =
    (t_ob r2 = some 6 ∧ (if (h.1 r2 1) ≤ x4 then Q (.inl (some (.int x3))) h else AX 6 84 29 [.ref r0, .int x1, .ref r2, .int x3, .int x4, .int (x4 + 1), w6] [] h Q)) := by
  rw [e_84_14]
  simp only [e_84_16, e_84_17, e_84_20, e_84_108, e_84_109, e_84_23, e_84_25, e_84_26, e_84_27, true_and, and_true, or_true, true_or]
set_option maxRecDepth 20000 in
theorem s_84_29 (r0 : Nat) (x1 : Int32) (r2 : Nat) (x3 : Int32) (x4 : Int32) (x5 : Int32) (w6 : Value) (h : tH) (Q : tO → tH → Prop)  :
    AX 6 84 29 [.ref r0, .int x1, .ref r2, .int x3, .int x4, .int x5, w6] [] h Q =
    (t_ob r2 = some 6 ∧ (if (h.1 r2 1) ≤ x5 then AX 6 84 14 [.ref r0, .int x1, .ref r2, .int x3, .int (x4 + 1), .int x5, w6] [] h Q else AX 6 84 44 [.ref r0, .int x1, .ref r2, .int x3, .int x4, .int x5, .int (x5 + 1)] [] h Q)) := by
  rw [e_84_29]
  simp only [e_84_31, e_84_32, e_84_35, e_84_102, e_84_105, e_84_38, e_84_40, e_84_41, e_84_42, true_and, and_true, or_true, true_or]
set_option maxRecDepth 20000 in
theorem s_84_44 (r0 : Nat) (x1 : Int32) (r2 : Nat) (x3 : Int32) (x4 : Int32) (x5 : Int32) (x6 : Int32) (h : tH) (Q : tO → tH → Prop)  :
    AX 6 84 44 [.ref r0, .int x1, .ref r2, .int x3, .int x4, .int x5, .int x6] [] h Q =
    (t_ob r2 = some 6 ∧ (if (h.1 r2 1) ≤ x6 then AX 6 84 29 [.ref r0, .int x1, .ref r2, .int x3, .int x4, .int (x5 + 1), .int x6] [] h Q else (t_ob r2 = some 6 ∧ AM 45 [.ref r2, .int x4, .int x5, .int x6] h (t_ki (fun a1 h1 => (if a1 = (0 : Int32) then AX 6 84 90 [.ref r0, .int x1, .ref r2, .int x3, .int x4, .int x5, .int x6] [] h1 Q else (t_ob r2 = some 6 ∧ AM 39 [.ref r2, .int x4, .int x5, .int x6] h1 (t_ki (fun a2 h2 => (t_ob r2 = some 6 ∧ AM 41 [.ref r2, .int x4, .int x5, .int x6, .int (-a2)] h2 (t_kv (fun h3 => AX 6 84 90 [.ref r0, .int x1, .ref r2, .int (x3 + 1), .int x4, .int x5, .int x6] [] h3 Q) Q))) Q)))) Q)))) := by
  rw [e_84_44]
  simp only [e_84_46, e_84_47, e_84_50, e_84_96, e_84_99, e_84_53, e_84_54, e_84_56, e_84_58, e_84_60, e_84_63, e_84_66, e_84_69, e_84_70, e_84_72, e_84_74, e_84_76, e_84_77, e_84_79, e_84_81, e_84_83, e_84_86, e_84_87, true_and, and_true, or_true, true_or]
set_option maxRecDepth 20000 in
theorem s_84_90 (r0 : Nat) (x1 : Int32) (r2 : Nat) (x3 : Int32) (x4 : Int32) (x5 : Int32) (x6 : Int32) (h : tH) (Q : tO → tH → Prop)  :
    AX 6 84 90 [.ref r0, .int x1, .ref r2, .int x3, .int x4, .int x5, .int x6] [] h Q =
    AX 6 84 44 [.ref r0, .int x1, .ref r2, .int x3, .int x4, .int x5, .int (x6 + 1)] [] h Q := by
  rw [e_84_90]
  simp only [e_84_93, true_and, and_true, or_true, true_or]
theorem am_84 (r0 : Nat) (x1 : Int32) (h : tH) (Q : tO → tH → Prop) : AM 84 [.ref r0, .int x1] h Q = AX 6 84 0 [.ref r0, .int x1, .float 0, .float 0, .float 0, .float 0, .float 0] [] h Q := AM_at ta_84 _ _ _
-- X9_hull
set_option maxRecDepth 20000 in
theorem s_85_0 (r0 : Nat) (x1 : Int32) (x2 : Int32) (h : tH) (Q : tO → tH → Prop)  :
    AX 5 85 0 [.ref r0, .int x1, .int x2, .float 0, .float 0, .float 0, .float 0, .float 0] [] h Q =
    (t_ob r0 = some 0 ∧ AM 75 [.ref r0, .int x1] h (t_kq (fun a1 h1 => AX 5 85 5 [.ref r0, .int x1, .int x2, .float 0, .float 0, .float 0, .float 0, .float 0] [(va_rf a1)] h1 Q) Q)) := by
  rw [e_85_0]
  simp only [e_85_1, e_85_2, true_and, and_true, or_true, true_or]
set_option maxRecDepth 20000 in
theorem s_85_5 (r0 : Nat) (x1 : Int32) (x2 : Int32) (k0 : Nat) (h : tH) (Q : tO → tH → Prop)  :
    AX 5 85 5 [.ref r0, .int x1, .int x2, .float 0, .float 0, .float 0, .float 0, .float 0] [.ref k0] h Q =
    (t_ob k0 = some 5 ∧ (if (0 : Int32) ≤ x2 then (t_ob (k0 + 30) = some 6 ∧ AM 3 [.int (h.1 (k0 + 30) 1)] h (t_ki (fun a1 h1 => AM 14 [.ref (k0 + 30), .int a1] h1 (t_ki (fun a2 h2 => AM 1 [.int a2] h2 (t_ki (fun a3 h3 => (if x2 < a3 then AM 5 [.int a2] h3 (t_ki (fun a4 h4 => AX 5 85 61 [.ref r0, .int x1, .int x2, .ref (k0 + 30), .int a1, .int a2, .int a4, .int 0] [] h4 Q) Q) else Q (.inl (some (.int (-1)))) h3)) Q)) Q)) Q)) else Q (.inr 2) (t_X h))) := by
  rw [e_85_5]
  simp only [e_85_8, e_85_9, e_85_10, e_85_23, e_85_24, e_85_27, e_85_30, e_85_32, e_85_33, e_85_35, e_85_38, e_85_40, e_85_41, e_85_43, e_85_46, e_85_51, e_85_53, e_85_56, e_85_58, e_85_59, e_85_49, e_85_50, e_85_13, true_and, and_true, or_true, true_or]
set_option maxRecDepth 20000 in
theorem s_85_61 (r0 : Nat) (x1 : Int32) (x2 : Int32) (r3 : Nat) (x4 : Int32) (x5 : Int32) (x6 : Int32) (x7 : Int32) (h : tH) (Q : tO → tH → Prop)  :
    AX 5 85 61 [.ref r0, .int x1, .int x2, .ref r3, .int x4, .int x5, .int x6, .int x7] [] h Q =
    (if x2 ≤ x7 then Q (.inl (some (.int x6))) h else AM 12 [.ref r3, .int x4, .int x6] h (t_ki (fun a1 h1 => AX 5 85 61 [.ref r0, .int x1, .int x2, .ref r3, .int x4, .int x5, .int a1, .int (x7 + 1)] [] h1 Q) Q)) := by
  rw [e_85_61]
  simp only [e_85_63, e_85_64, e_85_83, e_85_85, e_85_67, e_85_68, e_85_70, e_85_72, e_85_75, e_85_77, e_85_80, true_and, and_true, or_true, true_or]
theorem am_85 (r0 : Nat) (x1 : Int32) (x2 : Int32) (h : tH) (Q : tO → tH → Prop) : AM 85 [.ref r0, .int x1, .int x2] h Q = AX 5 85 0 [.ref r0, .int x1, .int x2, .float 0, .float 0, .float 0, .float 0, .float 0] [] h Q := AM_at ta_85 _ _ _
-- X9_layer
set_option maxRecDepth 20000 in
theorem s_86_0 (r0 : Nat) (x1 : Int32) (x2 : Int32) (h : tH) (Q : tO → tH → Prop)  :
    AX 5 86 0 [.ref r0, .int x1, .int x2, .float 0, .float 0, .float 0, .float 0, .float 0] [] h Q =
    (t_ob r0 = some 0 ∧ AM 75 [.ref r0, .int x1] h (t_kq (fun a1 h1 => AX 5 86 5 [.ref r0, .int x1, .int x2, .float 0, .float 0, .float 0, .float 0, .float 0] [(va_rf a1)] h1 Q) Q)) := by
  rw [e_86_0]
  simp only [e_86_1, e_86_2, true_and, and_true, or_true, true_or]
set_option maxRecDepth 20000 in
theorem s_86_5 (r0 : Nat) (x1 : Int32) (x2 : Int32) (k0 : Nat) (h : tH) (Q : tO → tH → Prop)  :
    AX 5 86 5 [.ref r0, .int x1, .int x2, .float 0, .float 0, .float 0, .float 0, .float 0] [.ref k0] h Q =
    AM 76 [.ref k0, .int x2] h (t_kv (fun h1 => (t_ob k0 = some 5 ∧ (t_ob (k0 + 30) = some 6 ∧ AM 3 [.int (h1.1 (k0 + 30) 1)] h1 (t_ki (fun a2 h2 => AX 5 86 29 [.ref r0, .int x1, .int x2, .ref k0, .int a2, .int 0, .int 0, .float 0] [] h2 Q) Q)))) Q) := by
  rw [e_86_5]
  simp only [e_86_6, e_86_7, e_86_8, e_86_11, e_86_12, e_86_15, e_86_18, e_86_21, e_86_23, e_86_24, e_86_26, e_86_27, true_and, and_true, or_true, true_or]
set_option maxRecDepth 20000 in
theorem s_86_29 (r0 : Nat) (x1 : Int32) (x2 : Int32) (r3 : Nat) (x4 : Int32) (x5 : Int32) (x6 : Int32) (w7 : Value) (h : tH) (Q : tO → tH → Prop)  :
    AX 5 86 29 [.ref r0, .int x1, .int x2, .ref r3, .int x4, .int x5, .int x6, w7] [] h Q =
    (if (7 : Int32) ≤ x6 then AX 5 86 77 [.ref r0, .int x1, .int x2, .ref r3, .int x4, .int x5, .int x6, w7] [] h Q else (t_ob r3 = some 5 ∧ AM 14 [.ref (r3 + 30), .int x4] h (t_ki (fun a1 h1 => AM 4 [.int a1, .int x2] h1 (t_ki (fun a2 h2 => (if a2 = (0 : Int32) then AX 5 86 29 [.ref r0, .int x1, .int x2, .ref r3, .int (x4 &&& (a1 ^^^ (-1))), .int (x5 + 1), .int (x6 + 1), .int a1] [] h2 Q else AX 5 86 77 [.ref r0, .int x1, .int x2, .ref r3, .int x4, .int x5, .int x6, .int a1] [] h2 Q)) Q)) Q))) := by
  rw [e_86_29]
  simp only [e_86_31, e_86_33, e_86_36, e_86_37, e_86_40, e_86_42, e_86_45, e_86_47, e_86_49, e_86_50, e_86_53, e_86_59, e_86_61, e_86_63, e_86_64, e_86_65, e_86_66, e_86_68, e_86_71, e_86_74, e_86_56, true_and, and_true, or_true, true_or]
set_option maxRecDepth 20000 in
theorem s_86_77 (r0 : Nat) (x1 : Int32) (x2 : Int32) (r3 : Nat) (x4 : Int32) (x5 : Int32) (x6 : Int32) (w7 : Value) (h : tH) (Q : tO → tH → Prop)  :
    AX 5 86 77 [.ref r0, .int x1, .int x2, .ref r3, .int x4, .int x5, .int x6, w7] [] h Q =
    Q (.inl (some (.int x5))) h := by
  rw [e_86_77]
  simp only [e_86_79, true_and, and_true, or_true, true_or]
theorem am_86 (r0 : Nat) (x1 : Int32) (x2 : Int32) (h : tH) (Q : tO → tH → Prop) : AM 86 [.ref r0, .int x1, .int x2] h Q = AX 5 86 0 [.ref r0, .int x1, .int x2, .float 0, .float 0, .float 0, .float 0, .float 0] [] h Q := AM_at ta_86 _ _ _
-- X9_cross
set_option maxRecDepth 20000 in
theorem s_87_0 (r0 : Nat) (x1 : Int32) (x2 : Int32) (x3 : Int32) (x4 : Int32) (x5 : Int32) (h : tH) (Q : tO → tH → Prop)  :
    AX 3 87 0 [.ref r0, .int x1, .int x2, .int x3, .int x4, .int x5, .float 0] [] h Q =
    (t_ob r0 = some 0 ∧ AM 75 [.ref r0, .int x1] h (t_kq (fun a1 h1 => AX 3 87 5 [.ref r0, .int x1, .int x2, .int x3, .int x4, .int x5, .float 0] [(va_rf a1)] h1 Q) Q)) := by
  rw [e_87_0]
  simp only [e_87_1, e_87_2, true_and, and_true, or_true, true_or]
set_option maxRecDepth 20000 in
theorem s_87_5 (r0 : Nat) (x1 : Int32) (x2 : Int32) (x3 : Int32) (x4 : Int32) (x5 : Int32) (k0 : Nat) (h : tH) (Q : tO → tH → Prop)  :
    AX 3 87 5 [.ref r0, .int x1, .int x2, .int x3, .int x4, .int x5, .float 0] [.ref k0] h Q =
    AM 76 [.ref k0, .int x2] h (t_kv (fun h1 => AM 76 [.ref k0, .int x3] h1 (t_kv (fun h2 => AM 76 [.ref k0, .int x4] h2 (t_kv (fun h3 => AM 76 [.ref k0, .int x5] h3 (t_kv (fun h4 => (if x2 = x3 then AX 3 87 69 [.ref r0, .int x1, .int x2, .int x3, .int x4, .int x5, .ref k0] [] h4 Q else (if x2 = x4 then AX 3 87 69 [.ref r0, .int x1, .int x2, .int x3, .int x4, .int x5, .ref k0] [] h4 Q else (if x2 = x5 then AX 3 87 69 [.ref r0, .int x1, .int x2, .int x3, .int x4, .int x5, .ref k0] [] h4 Q else (if x3 = x4 then AX 3 87 69 [.ref r0, .int x1, .int x2, .int x3, .int x4, .int x5, .ref k0] [] h4 Q else (if x3 = x5 then AX 3 87 69 [.ref r0, .int x1, .int x2, .int x3, .int x4, .int x5, .ref k0] [] h4 Q else (if ¬ x4 = x5 then (t_ob k0 = some 5 ∧ (t_ob (k0 + 30) = some 6 ∧ AM 51 [.ref (k0 + 30), .int x2, .int x3, .int x4, .int x5] h4 (t_ki (fun a5 h5 => (((a5 : Int32) = 0 ∨ (a5 : Int32) = 1) ∧ Q (.inl (some (.int a5))) h5)) Q))) else AX 3 87 69 [.ref r0, .int x1, .int x2, .int x3, .int x4, .int x5, .ref k0] [] h4 Q))))))) Q)) Q)) Q)) Q) := by
  rw [e_87_5]
  simp only [e_87_7, e_87_9, e_87_10, e_87_13, e_87_15, e_87_16, e_87_19, e_87_21, e_87_23, e_87_26, e_87_28, e_87_30, e_87_33, e_87_34, e_87_35, e_87_38, e_87_39, e_87_41, e_87_44, e_87_45, e_87_47, e_87_50, e_87_51, e_87_53, e_87_56, e_87_57, e_87_59, e_87_62, e_87_64, e_87_66, e_87_79, e_87_81, e_87_84, e_87_85, e_87_86, e_87_88, e_87_90, e_87_93, true_and, and_true, or_true, true_or]
set_option maxRecDepth 20000 in
theorem s_87_69 (r0 : Nat) (x1 : Int32) (x2 : Int32) (x3 : Int32) (x4 : Int32) (x5 : Int32) (r6 : Nat) (h : tH) (Q : tO → tH → Prop)  :
    AX 3 87 69 [.ref r0, .int x1, .int x2, .int x3, .int x4, .int x5, .ref r6] [] h Q =
    Q (.inr 0) (t_X h) := by
  rw [e_87_69]
theorem am_87 (r0 : Nat) (x1 : Int32) (x2 : Int32) (x3 : Int32) (x4 : Int32) (x5 : Int32) (h : tH) (Q : tO → tH → Prop) : AM 87 [.ref r0, .int x1, .int x2, .int x3, .int x4, .int x5] h Q = AX 3 87 0 [.ref r0, .int x1, .int x2, .int x3, .int x4, .int x5, .float 0] [] h Q := AM_at ta_87 _ _ _
-- X9_crossings
set_option maxRecDepth 20000 in
theorem s_88_0 (r0 : Nat) (x1 : Int32) (h : tH) (Q : tO → tH → Prop)  :
    AX 5 88 0 [.ref r0, .int x1] [] h Q =
    (t_ob r0 = some 0 ∧ (t_ob r0 = some 0 ∧ AM 75 [.ref r0, .int x1] h (t_kq (fun a1 h1 => AX 5 88 9 [.ref r0, .int x1] [(va_rf a1), .ref 9] h1 Q) Q))) := by
  rw [e_88_0]
  simp only [e_88_1, e_88_4, e_88_5, e_88_6, true_and, and_true, or_true, true_or]
set_option maxRecDepth 20000 in
theorem s_88_9 (r0 : Nat) (x1 : Int32) (k0 : Nat) (k1 : Nat) (h : tH) (Q : tO → tH → Prop)  :
    AX 5 88 9 [.ref r0, .int x1] [.ref k0, .ref k1] h Q =
    (t_ob k0 = some 5 ∧ (t_ob k1 = some 3 ∧ AM 23 [.ref k1, .ref (k0 + 30)] h (t_kv (fun h1 => (t_ob r0 = some 0 ∧ AM 26 [.ref 9] h1 (t_ki (fun a2 h2 => Q (.inl (some (.int a2))) h2) Q))) Q))) := by
  rw [e_88_9]
  simp only [e_88_12, e_88_15, e_88_16, e_88_19, e_88_22, t_ob_9, true_and, and_true, or_true, true_or]
theorem am_88 (r0 : Nat) (x1 : Int32) (h : tH) (Q : tO → tH → Prop) : AM 88 [.ref r0, .int x1] h Q = AX 5 88 0 [.ref r0, .int x1] [] h Q := AM_at ta_88 _ _ _
-- X9_empties
theorem b_89_63 (r0 : Nat) (x1 : Int32) (r2 : Nat) (x3 : Int32) (x4 : Int32) (x5 : Int32) (x6 : Int32) (u0 : Int32) (h : tH) (Q : tO → tH → Prop) : AX 4 89 63 [.ref r0, .int x1, .ref r2, .int x3, .int x4, .int x5, .int x6] [.int u0] h Q = AX 4 89 69 [.ref r0, .int x1, .ref r2, .int (if u0 = (0 : Int32) then x3 else x3 + 1), .int x4, .int x5, .int x6] [] h Q := by
  simp only [e_89_63, e_89_66]
  repeat' split
  all_goals rfl
set_option maxRecDepth 20000 in
theorem s_89_0 (r0 : Nat) (x1 : Int32) (h : tH) (Q : tO → tH → Prop)  :
    AX 4 89 0 [.ref r0, .int x1, .float 0, .float 0, .float 0, .float 0, .float 0] [] h Q =
    (t_ob r0 = some 0 ∧ AM 75 [.ref r0, .int x1] h (t_kq (fun a1 h1 => AX 4 89 5 [.ref r0, .int x1, .float 0, .float 0, .float 0, .float 0, .float 0] [(va_rf a1)] h1 Q) Q)) := by
  rw [e_89_0]
  simp only [e_89_1, e_89_2, true_and, and_true, or_true, true_or]
set_option maxRecDepth 20000 in
theorem s_89_5 (r0 : Nat) (x1 : Int32) (k0 : Nat) (h : tH) (Q : tO → tH → Prop)  :
    AX 4 89 5 [.ref r0, .int x1, .float 0, .float 0, .float 0, .float 0, .float 0] [.ref k0] h Q =
    (t_ob k0 = some 5 ∧ AX 4 89 14 [.ref r0, .int x1, .ref (k0 + 30), .int 0, .int 0, .float 0, .float 0] [] h Q) := by
  rw [e_89_5]
  simp only [e_89_8, e_89_9, e_89_10, e_89_11, e_89_12, true_and, and_true, or_true, true_or]
set_option maxRecDepth 20000 in
theorem s_89_14 (r0 : Nat) (x1 : Int32) (r2 : Nat) (x3 : Int32) (x4 : Int32) (w5 : Value) (w6 : Value) (h : tH) (Q : tO → tH → Prop)  :
    AX 4 89 14 [.ref r0, .int x1, .ref r2, .int x3, .int x4, w5, w6] [] h Q =
    (t_ob r2 = some 6 ∧ (if (h.1 r2 1) ≤ x4 then Q (.inl (some (.int x3))) h else AX 4 89 29 [.ref r0, .int x1, .ref r2, .int x3, .int x4, .int (x4 + 1), w6] [] h Q)) := by
  rw [e_89_14]
  simp only [e_89_16, e_89_17, e_89_20, e_89_87, e_89_88, e_89_23, e_89_25, e_89_26, e_89_27, true_and, and_true, or_true, true_or]
set_option maxRecDepth 20000 in
theorem s_89_29 (r0 : Nat) (x1 : Int32) (r2 : Nat) (x3 : Int32) (x4 : Int32) (x5 : Int32) (w6 : Value) (h : tH) (Q : tO → tH → Prop)  :
    AX 4 89 29 [.ref r0, .int x1, .ref r2, .int x3, .int x4, .int x5, w6] [] h Q =
    (t_ob r2 = some 6 ∧ (if (h.1 r2 1) ≤ x5 then AX 4 89 14 [.ref r0, .int x1, .ref r2, .int x3, .int (x4 + 1), .int x5, w6] [] h Q else AX 4 89 44 [.ref r0, .int x1, .ref r2, .int x3, .int x4, .int x5, .int (x5 + 1)] [] h Q)) := by
  rw [e_89_29]
  simp only [e_89_31, e_89_32, e_89_35, e_89_81, e_89_84, e_89_38, e_89_40, e_89_41, e_89_42, true_and, and_true, or_true, true_or]
set_option maxRecDepth 20000 in
theorem s_89_44 (r0 : Nat) (x1 : Int32) (r2 : Nat) (x3 : Int32) (x4 : Int32) (x5 : Int32) (x6 : Int32) (h : tH) (Q : tO → tH → Prop)  :
    AX 4 89 44 [.ref r0, .int x1, .ref r2, .int x3, .int x4, .int x5, .int x6] [] h Q =
    (t_ob r2 = some 6 ∧ (if (h.1 r2 1) ≤ x6 then AX 4 89 29 [.ref r0, .int x1, .ref r2, .int x3, .int x4, .int (x5 + 1), .int x6] [] h Q else (t_ob r2 = some 6 ∧ AM 52 [.ref r2, .int x4, .int x5, .int x6] h (t_ki (fun a1 h1 => AX 4 89 44 [.ref r0, .int x1, .ref r2, .int (if a1 = (0 : Int32) then x3 else x3 + 1), .int x4, .int x5, .int (x6 + 1)] [] h1 Q) Q)))) := by
  rw [e_89_44]
  simp only [e_89_46, e_89_47, e_89_50, e_89_75, e_89_78, e_89_53, e_89_54, e_89_56, e_89_58, e_89_60, b_89_63, e_89_69, e_89_72, true_and, and_true, or_true, true_or]
theorem am_89 (r0 : Nat) (x1 : Int32) (h : tH) (Q : tO → tH → Prop) : AM 89 [.ref r0, .int x1] h Q = AX 4 89 0 [.ref r0, .int x1, .float 0, .float 0, .float 0, .float 0, .float 0] [] h Q := AM_at ta_89 _ _ _
-- X9_level
theorem b_90_67 (r0 : Nat) (x1 : Int32) (x2 : Int32) (r3 : Nat) (x4 : Int32) (x5 : Int32) (x6 : Int32) (u0 : Int32) (u1 : Int32) (h : tH) (Q : tO → tH → Prop) : AX 3 90 67 [.ref r0, .int x1, .int x2, .ref r3, .int x4, .int x5, .int x6] [.int u0, .int u1] h Q = AX 3 90 73 [.ref r0, .int x1, .int x2, .ref r3, .int (if ¬ u1 = u0 then x4 else x4 + 1), .int x5, .int x6] [] h Q := by
  simp only [e_90_67, e_90_70]
  repeat' split
  all_goals rfl
set_option maxRecDepth 20000 in
theorem s_90_0 (r0 : Nat) (x1 : Int32) (x2 : Int32) (h : tH) (Q : tO → tH → Prop)  :
    AX 3 90 0 [.ref r0, .int x1, .int x2, .float 0, .float 0, .float 0, .float 0] [] h Q =
    (t_ob r0 = some 0 ∧ AM 75 [.ref r0, .int x1] h (t_kq (fun a1 h1 => AX 3 90 5 [.ref r0, .int x1, .int x2, .float 0, .float 0, .float 0, .float 0] [(va_rf a1)] h1 Q) Q)) := by
  rw [e_90_0]
  simp only [e_90_1, e_90_2, true_and, and_true, or_true, true_or]
set_option maxRecDepth 20000 in
theorem s_90_5 (r0 : Nat) (x1 : Int32) (x2 : Int32) (k0 : Nat) (h : tH) (Q : tO → tH → Prop)  :
    AX 3 90 5 [.ref r0, .int x1, .int x2, .float 0, .float 0, .float 0, .float 0] [.ref k0] h Q =
    (t_ob k0 = some 5 ∧ (if x2 < (0 : Int32) then AX 3 90 18 [.ref r0, .int x1, .int x2, .ref (k0 + 30), .float 0, .float 0, .float 0] [] h Q else (if x2 ≤ (2 : Int32) then AX 3 90 34 [.ref r0, .int x1, .int x2, .ref (k0 + 30), .int 0, .int 0, .float 0] [] h Q else AX 3 90 18 [.ref r0, .int x1, .int x2, .ref (k0 + 30), .float 0, .float 0, .float 0] [] h Q))) := by
  rw [e_90_5]
  simp only [e_90_8, e_90_9, e_90_10, e_90_13, e_90_14, e_90_15, e_90_28, e_90_29, e_90_31, e_90_32, true_and, and_true, or_true, true_or]
set_option maxRecDepth 20000 in
theorem s_90_18 (r0 : Nat) (x1 : Int32) (x2 : Int32) (r3 : Nat) (h : tH) (Q : tO → tH → Prop)  :
    AX 3 90 18 [.ref r0, .int x1, .int x2, .ref r3, .float 0, .float 0, .float 0] [] h Q =
    Q (.inr 0) (t_X h) := by
  rw [e_90_18]
set_option maxRecDepth 20000 in
theorem s_90_34 (r0 : Nat) (x1 : Int32) (x2 : Int32) (r3 : Nat) (x4 : Int32) (x5 : Int32) (w6 : Value) (h : tH) (Q : tO → tH → Prop)  :
    AX 3 90 34 [.ref r0, .int x1, .int x2, .ref r3, .int x4, .int x5, w6] [] h Q =
    (t_ob r3 = some 6 ∧ (if (h.1 r3 1) ≤ x5 then Q (.inl (some (.int x4))) h else AX 3 90 49 [.ref r0, .int x1, .int x2, .ref r3, .int x4, .int x5, .int (x5 + 1)] [] h Q)) := by
  rw [e_90_34]
  simp only [e_90_36, e_90_37, e_90_40, e_90_85, e_90_87, e_90_43, e_90_45, e_90_46, e_90_47, true_and, and_true, or_true, true_or]
set_option maxRecDepth 20000 in
theorem s_90_49 (r0 : Nat) (x1 : Int32) (x2 : Int32) (r3 : Nat) (x4 : Int32) (x5 : Int32) (x6 : Int32) (h : tH) (Q : tO → tH → Prop)  :
    AX 3 90 49 [.ref r0, .int x1, .int x2, .ref r3, .int x4, .int x5, .int x6] [] h Q =
    (t_ob r3 = some 6 ∧ (if (h.1 r3 1) ≤ x6 then AX 3 90 34 [.ref r0, .int x1, .int x2, .ref r3, .int x4, .int (x5 + 1), .int x6] [] h Q else (t_ob r3 = some 6 ∧ AM 54 [.ref r3, .int x5, .int x6] h (t_ki (fun a1 h1 => AX 3 90 49 [.ref r0, .int x1, .int x2, .ref r3, .int (if ¬ a1 = x2 then x4 else x4 + 1), .int x5, .int (x6 + 1)] [] h1 Q) Q)))) := by
  rw [e_90_49]
  simp only [e_90_51, e_90_52, e_90_55, e_90_79, e_90_82, e_90_58, e_90_59, e_90_61, e_90_63, e_90_66, b_90_67, e_90_73, e_90_76, true_and, and_true, or_true, true_or]
theorem am_90 (r0 : Nat) (x1 : Int32) (x2 : Int32) (h : tH) (Q : tO → tH → Prop) : AM 90 [.ref r0, .int x1, .int x2] h Q = AX 3 90 0 [.ref r0, .int x1, .int x2, .float 0, .float 0, .float 0, .float 0] [] h Q := AM_at ta_90 _ _ _
-- X9_matchings
set_option maxRecDepth 20000 in
theorem s_91_0 (r0 : Nat) (x1 : Int32) (x2 : Int32) (h : tH) (Q : tO → tH → Prop)  :
    AX 35 91 0 [.ref r0, .int x1, .int x2, .float 0] [] h Q =
    (t_ob r0 = some 0 ∧ AM 75 [.ref r0, .int x1] h (t_kq (fun a1 h1 => AX 35 91 5 [.ref r0, .int x1, .int x2, .float 0] [(va_rf a1)] h1 Q) Q)) := by
  rw [e_91_0]
  simp only [e_91_1, e_91_2, true_and, and_true, or_true, true_or]
set_option maxRecDepth 20000 in
theorem s_91_5 (r0 : Nat) (x1 : Int32) (x2 : Int32) (k0 : Nat) (h : tH) (Q : tO → tH → Prop)  :
    AX 35 91 5 [.ref r0, .int x1, .int x2, .float 0] [.ref k0] h Q =
    (t_ob k0 = some 5 ∧ (if x2 < (0 : Int32) then AX 35 91 24 [.ref r0, .int x1, .int x2, .ref (k0 + 30)] [] h Q else (t_ob (k0 + 30) = some 6 ∧ AM 3 [.int (h.1 (k0 + 30) 1)] h (t_ki (fun a1 h1 => (if x2 ≤ a1 then (t_ob r0 = some 0 ∧ AM 23 [.ref 9, .ref (k0 + 30)] h1 (t_kv (fun h2 => (t_ob r0 = some 0 ∧ (t_lev tq_27 [.ref 9, .int x2, .int 0, .int 0] < 35 ∧ AM 27 [.ref 9, .int x2, .int 0, .int 0] h2 (t_ki (fun a3 h3 => Q (.inl (some (.int a3))) h3) Q)))) Q)) else AX 35 91 24 [.ref r0, .int x1, .int x2, .ref (k0 + 30)] [] h1 Q)) Q)))) := by
  rw [e_91_5]
  simp only [e_91_8, e_91_9, e_91_10, e_91_13, e_91_14, e_91_15, e_91_18, e_91_21, e_91_34, e_91_35, e_91_38, e_91_39, e_91_42, e_91_43, e_91_46, e_91_47, e_91_48, e_91_49, e_91_52, t_ob_9, true_and, and_true, or_true, true_or]
set_option maxRecDepth 20000 in
theorem s_91_24 (r0 : Nat) (x1 : Int32) (x2 : Int32) (r3 : Nat) (h : tH) (Q : tO → tH → Prop)  :
    AX 35 91 24 [.ref r0, .int x1, .int x2, .ref r3] [] h Q =
    Q (.inr 0) (t_X h) := by
  rw [e_91_24]
theorem am_91 (r0 : Nat) (x1 : Int32) (x2 : Int32) (h : tH) (Q : tO → tH → Prop) : AM 91 [.ref r0, .int x1, .int x2] h Q = AX 35 91 0 [.ref r0, .int x1, .int x2, .float 0] [] h Q := AM_at ta_91 _ _ _
-- X9_triangulate
set_option maxRecDepth 20000 in
theorem s_95_0 (r0 : Nat) (x1 : Int32) (h : tH) (Q : tO → tH → Prop)  :
    AX 5 95 0 [.ref r0, .int x1, .float 0] [] h Q =
    (t_ob r0 = some 0 ∧ AM 75 [.ref r0, .int x1] h (t_kq (fun a1 h1 => AX 5 95 5 [.ref r0, .int x1, .float 0] [(va_rf a1)] h1 Q) Q)) := by
  rw [e_95_0]
  simp only [e_95_1, e_95_2, true_and, and_true, or_true, true_or]
set_option maxRecDepth 20000 in
theorem s_95_5 (r0 : Nat) (x1 : Int32) (k0 : Nat) (h : tH) (Q : tO → tH → Prop)  :
    AX 5 95 5 [.ref r0, .int x1, .float 0] [.ref k0] h Q =
    (t_ob r0 = some 0 ∧ (t_ob k0 = some 5 ∧ AM 23 [.ref 9, .ref (k0 + 30)] h (t_kv (fun h1 => (t_ob r0 = some 0 ∧ AM 29 [.ref 9] h1 (t_ki (fun a2 h2 => (t_ob k0 = some 5 ∧ (t_ob k0 = some 5 ∧ (1 = 0 ∨ 1 = 1) ∧ (t_ob k0 = some 5 ∧ AM 1 [.int ((t_I (t_I h2 k0 4 a2) k0 5 1).1 k0 4)] (t_I (t_I h2 k0 4 a2) k0 5 1) (t_ki (fun a3 h3 => Q (.inl (some (.int a3))) h3) Q))))) Q))) Q))) := by
  rw [e_95_5]
  simp only [e_95_6, e_95_7, e_95_10, e_95_11, e_95_14, e_95_17, e_95_18, e_95_19, e_95_22, e_95_25, e_95_28, e_95_29, e_95_30, e_95_33, e_95_34, e_95_37, e_95_40, t_ob_9, true_and, and_true, or_true, true_or]
theorem am_95 (r0 : Nat) (x1 : Int32) (h : tH) (Q : tO → tH → Prop) : AM 95 [.ref r0, .int x1] h Q = AX 5 95 0 [.ref r0, .int x1, .float 0] [] h Q := AM_at ta_95 _ _ _
-- X9_flipEdge
set_option maxRecDepth 20000 in
theorem s_96_0 (r0 : Nat) (x1 : Int32) (x2 : Int32) (x3 : Int32) (h : tH) (Q : tO → tH → Prop)  :
    AX 5 96 0 [.ref r0, .int x1, .int x2, .int x3, .float 0, .float 0, .float 0] [] h Q =
    (t_ob r0 = some 0 ∧ AM 75 [.ref r0, .int x1] h (t_kq (fun a1 h1 => AX 5 96 5 [.ref r0, .int x1, .int x2, .int x3, .float 0, .float 0, .float 0] [(va_rf a1)] h1 Q) Q)) := by
  rw [e_96_0]
  simp only [e_96_1, e_96_2, true_and, and_true, or_true, true_or]
set_option maxRecDepth 20000 in
theorem s_96_5 (r0 : Nat) (x1 : Int32) (x2 : Int32) (x3 : Int32) (k0 : Nat) (h : tH) (Q : tO → tH → Prop)  :
    AX 5 96 5 [.ref r0, .int x1, .int x2, .int x3, .float 0, .float 0, .float 0] [.ref k0] h Q =
    AM 76 [.ref k0, .int x2] h (t_kv (fun h1 => AM 76 [.ref k0, .int x3] h1 (t_kv (fun h2 => (t_ob k0 = some 5 ∧ AM 10 [.ref k0, .int x2, .int x3] h2 (t_ki (fun a3 h3 => (if ¬ a3 = (0 : Int32) then AX 5 96 43 [.ref r0, .int x1, .int x2, .int x3, .ref k0, .int 0, .float 0] [] h3 Q else Q (.inr 1) (t_X h3))) Q))) Q)) Q) := by
  rw [e_96_5]
  simp only [e_96_7, e_96_9, e_96_10, e_96_13, e_96_15, e_96_16, e_96_19, e_96_21, e_96_22, e_96_23, e_96_26, e_96_40, e_96_41, e_96_29, true_and, and_true, or_true, true_or]
set_option maxRecDepth 20000 in
theorem s_96_43 (r0 : Nat) (x1 : Int32) (x2 : Int32) (x3 : Int32) (r4 : Nat) (x5 : Int32) (w6 : Value) (h : tH) (Q : tO → tH → Prop)  :
    AX 5 96 43 [.ref r0, .int x1, .int x2, .int x3, .ref r4, .int x5, w6] [] h Q =
    (t_ob r4 = some 5 ∧ (t_ob (r4 + 30) = some 6 ∧ (if (h.1 (r4 + 30) 1) ≤ x5 then Q (.inr 1) (t_X h) else AX 5 96 59 [.ref r0, .int x1, .int x2, .int x3, .ref r4, .int x5, .int 0] [] h Q))) := by
  rw [e_96_43]
  simp only [e_96_45, e_96_47, e_96_50, e_96_53, e_96_172, e_96_56, e_96_57, true_and, and_true, or_true, true_or]
set_option maxRecDepth 20000 in
theorem s_96_59 (r0 : Nat) (x1 : Int32) (x2 : Int32) (x3 : Int32) (r4 : Nat) (x5 : Int32) (x6 : Int32) (h : tH) (Q : tO → tH → Prop)  :
    AX 5 96 59 [.ref r0, .int x1, .int x2, .int x3, .ref r4, .int x5, .int x6] [] h Q =
    (t_ob r4 = some 5 ∧ (t_ob (r4 + 30) = some 6 ∧ (if (h.1 (r4 + 30) 1) ≤ x6 then AX 5 96 43 [.ref r0, .int x1, .int x2, .int x3, .ref r4, .int (x5 + 1), .int x6] [] h Q else (t_ob r4 = some 5 ∧ AM 11 [.ref r4, .int x2, .int x3, .int x5, .int 1] h (t_ki (fun a1 h1 => (if a1 = (0 : Int32) then AX 5 96 160 [.ref r0, .int x1, .int x2, .int x3, .ref r4, .int x5, .int x6] [] h1 Q else (t_ob r4 = some 5 ∧ AM 11 [.ref r4, .int x2, .int x3, .int x6, .int (-1)] h1 (t_ki (fun a2 h2 => (if a2 = (0 : Int32) then AX 5 96 160 [.ref r0, .int x1, .int x2, .int x3, .ref r4, .int x5, .int x6] [] h2 Q else (t_ob r4 = some 5 ∧ (t_ob (r4 + 30) = some 6 ∧ AM 51 [.ref (r4 + 30), .int x2, .int x3, .int x5, .int x6] h2 (t_ki (fun a3 h3 => (if a3 = (0 : Int32) then AX 5 96 160 [.ref r0, .int x1, .int x2, .int x3, .ref r4, .int x5, .int x6] [] h3 Q else (t_ob r4 = some 5 ∧ AM 22 [.int x2, .int x3] h3 (t_ki (fun a4 h4 => AM 22 [.int x5, .int x6] h4 (t_ki (fun a5 h5 => (t_ob r4 = some 5 ∧ Q (.inl (some (.int ((10 * (if x6 < x5 then x6 else x5)) + (if x5 < x6 then x6 else x5))))) (t_I h5 r4 4 (((h3.1 r4 4) &&& (a4 ^^^ (-1))) ||| a5)))) Q)) Q)))) Q))))) Q)))) Q))))) := by
  rw [e_96_59]
  simp only [e_96_61, e_96_63, e_96_66, e_96_69, e_96_166, e_96_169, e_96_72, e_96_74, e_96_75, e_96_76, e_96_78, e_96_79, e_96_82, e_96_85, e_96_87, e_96_88, e_96_89, e_96_91, e_96_92, e_96_95, e_96_98, e_96_100, e_96_103, e_96_104, e_96_105, e_96_107, e_96_109, e_96_112, e_96_115, e_96_117, e_96_119, e_96_122, e_96_123, e_96_124, e_96_127, e_96_128, e_96_129, e_96_130, e_96_132, e_96_134, e_96_137, e_96_138, e_96_141, e_96_143, e_96_145, e_96_147, e_96_150, e_96_151, e_96_153, e_96_155, e_96_158, e_96_159, true_and, and_true, or_true, true_or]
set_option maxRecDepth 20000 in
theorem s_96_160 (r0 : Nat) (x1 : Int32) (x2 : Int32) (x3 : Int32) (r4 : Nat) (x5 : Int32) (x6 : Int32) (h : tH) (Q : tO → tH → Prop)  :
    AX 5 96 160 [.ref r0, .int x1, .int x2, .int x3, .ref r4, .int x5, .int x6] [] h Q =
    AX 5 96 59 [.ref r0, .int x1, .int x2, .int x3, .ref r4, .int x5, .int (x6 + 1)] [] h Q := by
  rw [e_96_160]
  simp only [e_96_163, true_and, and_true, or_true, true_or]
theorem am_96 (r0 : Nat) (x1 : Int32) (x2 : Int32) (x3 : Int32) (h : tH) (Q : tO → tH → Prop) : AM 96 [.ref r0, .int x1, .int x2, .int x3] h Q = AX 5 96 0 [.ref r0, .int x1, .int x2, .int x3, .float 0, .float 0, .float 0] [] h Q := AM_at ta_96 _ _ _
-- X9_edge
set_option maxRecDepth 20000 in
theorem s_97_0 (r0 : Nat) (x1 : Int32) (x2 : Int32) (x3 : Int32) (h : tH) (Q : tO → tH → Prop)  :
    AX 3 97 0 [.ref r0, .int x1, .int x2, .int x3, .float 0] [] h Q =
    (t_ob r0 = some 0 ∧ AM 75 [.ref r0, .int x1] h (t_kq (fun a1 h1 => AX 3 97 5 [.ref r0, .int x1, .int x2, .int x3, .float 0] [(va_rf a1)] h1 Q) Q)) := by
  rw [e_97_0]
  simp only [e_97_1, e_97_2, true_and, and_true, or_true, true_or]
set_option maxRecDepth 20000 in
theorem s_97_5 (r0 : Nat) (x1 : Int32) (x2 : Int32) (x3 : Int32) (k0 : Nat) (h : tH) (Q : tO → tH → Prop)  :
    AX 3 97 5 [.ref r0, .int x1, .int x2, .int x3, .float 0] [.ref k0] h Q =
    AM 76 [.ref k0, .int x2] h (t_kv (fun h1 => AM 76 [.ref k0, .int x3] h1 (t_kv (fun h2 => (t_ob k0 = some 5 ∧ AM 10 [.ref k0, .int x2, .int x3] h2 (t_ki (fun a3 h3 => (((a3 : Int32) = 0 ∨ (a3 : Int32) = 1) ∧ Q (.inl (some (.int a3))) h3)) Q))) Q)) Q) := by
  rw [e_97_5]
  simp only [e_97_7, e_97_9, e_97_10, e_97_13, e_97_15, e_97_16, e_97_19, e_97_21, e_97_22, e_97_23, e_97_26, true_and, and_true, or_true, true_or]
theorem am_97 (r0 : Nat) (x1 : Int32) (x2 : Int32) (x3 : Int32) (h : tH) (Q : tO → tH → Prop) : AM 97 [.ref r0, .int x1, .int x2, .int x3] h Q = AX 3 97 0 [.ref r0, .int x1, .int x2, .int x3, .float 0] [] h Q := AM_at ta_97 _ _ _
