-- J6_compare_7cf53
theorem b_0_2 (x0 : Int32) (x1 : Int32) (u0 : Int32) (u1 : Int32) (h : tH) (Q : tO → tH → Prop) : AX 0 0 2 [.int x0, .int x1] [.int u0, .int u1] h Q = AX 0 0 19 [.int x0, .int x1] [.int (if u0 ≤ u1 then (if ¬ x0 = x1 then (1 : Int32) else 0) else (-1))] h Q := by
  simp only [e_0_2, e_0_5, e_0_6, e_0_9, e_0_10, e_0_11, e_0_14, e_0_15, e_0_18]
  repeat' split
  all_goals rfl
set_option maxRecDepth 20000 in
theorem s_0_0 (x0 : Int32) (x1 : Int32) (h : tH) (Q : tO → tH → Prop)  :
    AX 0 0 0 [.int x0, .int x1] [] h Q =
    Q (.inl (some (.int (if x1 ≤ x0 then (if ¬ x0 = x1 then (1 : Int32) else 0) else (-1))))) h := by
  rw [e_0_0]
  simp only [e_0_1, b_0_2, e_0_19, true_and, and_true, or_true, true_or]
theorem am_0 (x0 : Int32) (x1 : Int32) (h : tH) (Q : tO → tH → Prop) : AM 0 [.int x0, .int x1] h Q = AX 0 0 0 [.int x0, .int x1] [] h Q := AM_at ta_0 _ _ _
-- J6_bitCount_0f7a4
set_option maxRecDepth 20000 in
theorem s_1_0 (x0 : Int32) (h : tH) (Q : tO → tH → Prop)  :
    AX 0 1 0 [.int x0] [] h Q =
    AX 0 1 10 [.int (x0 - (((x0.toUInt32 >>> ((1 : Int32).toUInt32 &&& Int32.toUInt32 31)).toInt32) &&& 1431655765))] [] h Q := by
  rw [e_1_0]
  simp only [e_1_1, e_1_2, e_1_3, e_1_4, e_1_7, e_1_8, e_1_9, true_and, and_true, or_true, true_or]
set_option maxRecDepth 20000 in
theorem s_1_10 (x0 : Int32) (h : tH) (Q : tO → tH → Prop)  :
    AX 0 1 10 [.int x0] [] h Q =
    AX 0 1 24 [.int ((x0 &&& 858993459) + (((x0.toUInt32 >>> ((2 : Int32).toUInt32 &&& Int32.toUInt32 31)).toInt32) &&& 858993459))] [] h Q := by
  rw [e_1_10]
  simp only [e_1_11, e_1_14, e_1_15, e_1_16, e_1_17, e_1_18, e_1_21, e_1_22, e_1_23, true_and, and_true, or_true, true_or]
set_option maxRecDepth 20000 in
theorem s_1_24 (x0 : Int32) (h : tH) (Q : tO → tH → Prop)  :
    AX 0 1 24 [.int x0] [] h Q =
    AX 0 1 34 [.int ((x0 + ((x0.toUInt32 >>> ((4 : Int32).toUInt32 &&& Int32.toUInt32 31)).toInt32)) &&& 252645135)] [] h Q := by
  rw [e_1_24]
  simp only [e_1_25, e_1_26, e_1_27, e_1_28, e_1_29, e_1_32, e_1_33, true_and, and_true, or_true, true_or]
set_option maxRecDepth 20000 in
theorem s_1_34 (x0 : Int32) (h : tH) (Q : tO → tH → Prop)  :
    AX 0 1 34 [.int x0] [] h Q =
    AX 0 1 42 [.int (x0 + ((x0.toUInt32 >>> ((8 : Int32).toUInt32 &&& Int32.toUInt32 31)).toInt32))] [.int (x0 + ((x0.toUInt32 >>> ((8 : Int32).toUInt32 &&& Int32.toUInt32 31)).toInt32))] h Q := by
  rw [e_1_34]
  simp only [e_1_35, e_1_36, e_1_38, e_1_39, e_1_40, e_1_41, true_and, and_true, or_true, true_or]
set_option maxRecDepth 20000 in
theorem s_1_42 (x0 : Int32) (u0 : Int32) (h : tH) (Q : tO → tH → Prop)  :
    AX 0 1 42 [.int x0] [.int u0] h Q =
    AX 0 1 48 [.int (u0 + ((x0.toUInt32 >>> ((16 : Int32).toUInt32 &&& Int32.toUInt32 31)).toInt32))] [] h Q := by
  rw [e_1_42]
  simp only [e_1_43, e_1_45, e_1_46, e_1_47, true_and, and_true, or_true, true_or]
set_option maxRecDepth 20000 in
theorem s_1_48 (x0 : Int32) (h : tH) (Q : tO → tH → Prop)  :
    AX 0 1 48 [.int x0] [] h Q =
    Q (.inl (some (.int (x0 &&& 63)))) h := by
  rw [e_1_48]
  simp only [e_1_49, e_1_51, e_1_52, true_and, and_true, or_true, true_or]
theorem am_1 (x0 : Int32) (h : tH) (Q : tO → tH → Prop) : AM 1 [.int x0] h Q = AX 0 1 0 [.int x0] [] h Q := AM_at ta_1 _ _ _
-- X0_one
set_option maxRecDepth 20000 in
theorem s_2_0 (x0 : Int32) (h : tH) (Q : tO → tH → Prop)  :
    AX 0 2 0 [.int x0] [] h Q =
    Q (.inl (some (.int (1 <<< (x0 &&& 31))))) h := by
  rw [e_2_0]
  simp only [e_2_1, e_2_2, e_2_3, true_and, and_true, or_true, true_or]
theorem am_2 (x0 : Int32) (h : tH) (Q : tO → tH → Prop) : AM 2 [.int x0] h Q = AX 0 2 0 [.int x0] [] h Q := AM_at ta_2 _ _ _
-- X0_firstOnes
set_option maxRecDepth 20000 in
theorem s_3_0 (x0 : Int32) (h : tH) (Q : tO → tH → Prop)  :
    AX 0 3 0 [.int x0] [] h Q =
    Q (.inl (some (.int ((1 <<< (x0 &&& 31)) - 1)))) h := by
  rw [e_3_0]
  simp only [e_3_1, e_3_2, e_3_3, e_3_4, e_3_5, true_and, and_true, or_true, true_or]
theorem am_3 (x0 : Int32) (h : tH) (Q : tO → tH → Prop) : AM 3 [.int x0] h Q = AX 0 3 0 [.int x0] [] h Q := AM_at ta_3 _ _ _
-- X0_has
theorem b_4_6 (x0 : Int32) (x1 : Int32) (u0 : Int32) (h : tH) (Q : tO → tH → Prop) : AX 1 4 6 [.int x0, .int x1] [.int u0] h Q = AX 1 4 14 [.int x0, .int x1] [.int (if u0 = (0 : Int32) then (0 : Int32) else 1)] h Q := by
  simp only [e_4_6, e_4_9, e_4_10, e_4_13]
  repeat' split
  all_goals rfl
set_option maxRecDepth 20000 in
theorem s_4_0 (x0 : Int32) (x1 : Int32) (h : tH) (Q : tO → tH → Prop)  :
    AX 1 4 0 [.int x0, .int x1] [] h Q =
    AM 2 [.int x1] h (t_ki (fun a1 h1 => ((((if (x0 &&& a1) = (0 : Int32) then (0 : Int32) else 1) : Int32) = 0 ∨ ((if (x0 &&& a1) = (0 : Int32) then (0 : Int32) else 1) : Int32) = 1) ∧ Q (.inl (some (.int (if (x0 &&& a1) = (0 : Int32) then (0 : Int32) else 1)))) h1)) Q) := by
  rw [e_4_0]
  simp only [e_4_1, e_4_2, e_4_5, b_4_6, e_4_14, true_and, and_true, or_true, true_or]
theorem am_4 (x0 : Int32) (x1 : Int32) (h : tH) (Q : tO → tH → Prop) : AM 4 [.int x0, .int x1] h Q = AX 1 4 0 [.int x0, .int x1] [] h Q := AM_at ta_4 _ _ _
-- X0_lowest
set_option maxRecDepth 20000 in
theorem s_5_0 (x0 : Int32) (h : tH) (Q : tO → tH → Prop)  :
    AX 2 5 0 [.int x0, .float 0] [] h Q =
    AX 2 5 2 [.int x0, .int 0] [] h Q := by
  rw [e_5_0]
  simp only [e_5_1, true_and, and_true, or_true, true_or]
set_option maxRecDepth 20000 in
theorem s_5_2 (x0 : Int32) (x1 : Int32) (h : tH) (Q : tO → tH → Prop)  :
    AX 2 5 2 [.int x0, .int x1] [] h Q =
    (if (7 : Int32) ≤ x1 then Q (.inl (some (.int (-1)))) h else AM 4 [.int x0, .int x1] h (t_ki (fun a1 h1 => (if a1 = (0 : Int32) then AX 2 5 2 [.int x0, .int (x1 + 1)] [] h1 Q else Q (.inl (some (.int x1))) h1)) Q)) := by
  rw [e_5_2]
  simp only [e_5_3, e_5_5, e_5_24, e_5_25, e_5_8, e_5_9, e_5_10, e_5_13, e_5_18, e_5_21, e_5_16, e_5_17, true_and, and_true, or_true, true_or]
theorem am_5 (x0 : Int32) (h : tH) (Q : tO → tH → Prop) : AM 5 [.int x0] h Q = AX 2 5 0 [.int x0, .float 0] [] h Q := AM_at ta_5 _ _ _
-- X1_get
set_option maxRecDepth 20000 in
theorem s_6_0 (r0 : Nat) (x1 : Int32) (h : tH) (Q : tO → tH → Prop) (nL : Nat) (hL : t_ln h r0 = some nL) :
    AX 0 6 0 [.ref r0, .int x1] [] h Q =
    (if x1 < (0 : Int32) then AX 0 6 16 [.ref r0, .int x1] [] h Q else (if (Int32.ofNat nL) ≤ x1 then AX 0 6 16 [.ref r0, .int x1] [] h Q else (t_in (t_ai h r0) x1 ∧ AX 0 6 17 [.ref r0, .int x1] [.int (h.1 r0 x1.toNatClampNeg)] h Q))) := by
  rw [e_6_0]
  simp only [e_6_1, e_6_4, e_6_5, e_6_6 (hL := hL), e_6_7, e_6_10, e_6_11, e_6_12, e_6_13, true_and, and_true, or_true, true_or]
set_option maxRecDepth 20000 in
theorem s_6_16 (r0 : Nat) (x1 : Int32) (h : tH) (Q : tO → tH → Prop)  :
    AX 0 6 16 [.ref r0, .int x1] [] h Q =
    AX 0 6 17 [.ref r0, .int x1] [.int 0] h Q := by
  rw [e_6_16]
set_option maxRecDepth 20000 in
theorem s_6_17 (r0 : Nat) (x1 : Int32) (u0 : Int32) (h : tH) (Q : tO → tH → Prop)  :
    AX 0 6 17 [.ref r0, .int x1] [.int u0] h Q =
    Q (.inl (some (.int u0))) h := by
  rw [e_6_17]
theorem am_6 (r0 : Nat) (x1 : Int32) (h : tH) (Q : tO → tH → Prop) : AM 6 [.ref r0, .int x1] h Q = AX 0 6 0 [.ref r0, .int x1] [] h Q := AM_at ta_6 _ _ _
-- X1_set
set_option maxRecDepth 20000 in
theorem s_7_0 (r0 : Nat) (x1 : Int32) (x2 : Int32) (h : tH) (Q : tO → tH → Prop) (nL : Nat) (hL : t_ln h r0 = some nL) :
    AX 0 7 0 [.ref r0, .int x1, .int x2] [] h Q =
    (if x1 < (0 : Int32) then AX 0 7 14 [.ref r0, .int x1, .int x2] [] h Q else (if (Int32.ofNat nL) ≤ x1 then AX 0 7 14 [.ref r0, .int x1, .int x2] [] h Q else (r0 ≠ 33 ∧ t_in (t_ai h r0) x1 ∧ AX 0 7 14 [.ref r0, .int x1, .int x2] [] (t_I h r0 x1.toNatClampNeg x2) Q))) := by
  rw [e_7_0]
  simp only [e_7_1, e_7_4, e_7_5, e_7_6 (hL := hL), e_7_7, e_7_10, e_7_11, e_7_12, e_7_13, true_and, and_true, or_true, true_or]
set_option maxRecDepth 20000 in
theorem s_7_14 (r0 : Nat) (x1 : Int32) (x2 : Int32) (h : tH) (Q : tO → tH → Prop)  :
    AX 0 7 14 [.ref r0, .int x1, .int x2] [] h Q =
    Q (.inl none) h := by
  rw [e_7_14]
theorem am_7 (r0 : Nat) (x1 : Int32) (x2 : Int32) (h : tH) (Q : tO → tH → Prop) : AM 7 [.ref r0, .int x1, .int x2] h Q = AX 0 7 0 [.ref r0, .int x1, .int x2] [] h Q := AM_at ta_7 _ _ _
-- X1_exchange
set_option maxRecDepth 20000 in
theorem s_8_0 (r0 : Nat) (x1 : Int32) (x2 : Int32) (h : tH) (Q : tO → tH → Prop)  :
    AX 1 8 0 [.ref r0, .int x1, .int x2, .float 0] [] h Q =
    AM 6 [.ref r0, .int x1] h (t_ki (fun a1 h1 => AM 6 [.ref r0, .int x2] h1 (t_ki (fun a2 h2 => AM 7 [.ref r0, .int x1, .int a2] h2 (t_kv (fun h3 => AM 7 [.ref r0, .int x2, .int a1] h3 (t_kv (fun h4 => Q (.inl none) h4) Q)) Q)) Q)) Q) := by
  rw [e_8_0]
  simp only [e_8_1, e_8_2, e_8_5, e_8_6, e_8_7, e_8_8, e_8_9, e_8_10, e_8_13, e_8_16, e_8_17, e_8_18, e_8_19, e_8_22, true_and, and_true, or_true, true_or]
theorem am_8 (r0 : Nat) (x1 : Int32) (x2 : Int32) (h : tH) (Q : tO → tH → Prop) : AM 8 [.ref r0, .int x1, .int x2] h Q = AX 1 8 0 [.ref r0, .int x1, .int x2, .float 0] [] h Q := AM_at ta_8 _ _ _
-- X3_after
set_option maxRecDepth 20000 in
theorem s_12_0 (r0 : Nat) (x1 : Int32) (x2 : Int32) (h : tH) (Q : tO → tH → Prop)  :
    AX 3 12 0 [.ref r0, .int x1, .int x2, .float 0] [] h Q =
    AX 3 12 2 [.ref r0, .int x1, .int x2, .int 0] [] h Q := by
  rw [e_12_0]
  simp only [e_12_1, true_and, and_true, or_true, true_or]
set_option maxRecDepth 20000 in
theorem s_12_2 (r0 : Nat) (x1 : Int32) (x2 : Int32) (x3 : Int32) (h : tH) (Q : tO → tH → Prop)  :
    AX 3 12 2 [.ref r0, .int x1, .int x2, .int x3] [] h Q =
    (t_ob r0 = some 6 ∧ (if (h.1 r0 1) ≤ x3 then Q (.inl (some (.int (-1)))) h else (if x3 = x2 then AX 3 12 35 [.ref r0, .int x1, .int x2, .int x3] [] h Q else AM 4 [.int x1, .int x3] h (t_ki (fun a1 h1 => (if a1 = (0 : Int32) then AX 3 12 35 [.ref r0, .int x1, .int x2, .int x3] [] h1 Q else AM 13 [.ref r0, .int x1, .int x2, .int x3] h1 (t_ki (fun a2 h2 => (if a2 = (0 : Int32) then AX 3 12 35 [.ref r0, .int x1, .int x2, .int x3] [] h2 Q else Q (.inl (some (.int x3))) h2)) Q))) Q)))) := by
  rw [e_12_2]
  simp only [e_12_3, e_12_4, e_12_7, e_12_41, e_12_42, e_12_10, e_12_11, e_12_12, e_12_15, e_12_16, e_12_17, e_12_20, e_12_23, e_12_24, e_12_25, e_12_26, e_12_27, e_12_30, e_12_33, e_12_34, true_and, and_true, or_true, true_or]
set_option maxRecDepth 20000 in
theorem s_12_35 (r0 : Nat) (x1 : Int32) (x2 : Int32) (x3 : Int32) (h : tH) (Q : tO → tH → Prop)  :
    AX 3 12 35 [.ref r0, .int x1, .int x2, .int x3] [] h Q =
    AX 3 12 2 [.ref r0, .int x1, .int x2, .int (x3 + 1)] [] h Q := by
  rw [e_12_35]
  simp only [e_12_38, true_and, and_true, or_true, true_or]
theorem am_12 (r0 : Nat) (x1 : Int32) (x2 : Int32) (h : tH) (Q : tO → tH → Prop) : AM 12 [.ref r0, .int x1, .int x2] h Q = AX 3 12 0 [.ref r0, .int x1, .int x2, .float 0] [] h Q := AM_at ta_12 _ _ _
-- X3_isSide
set_option maxRecDepth 20000 in
theorem s_13_0 (r0 : Nat) (x1 : Int32) (x2 : Int32) (x3 : Int32) (h : tH) (Q : tO → tH → Prop)  :
    AX 2 13 0 [.ref r0, .int x1, .int x2, .int x3, .float 0] [] h Q =
    AX 2 13 3 [.ref r0, .int x1, .int x2, .int x3, .int 0] [] h Q := by
  rw [e_13_0]
  simp only [e_13_1, true_and, and_true, or_true, true_or]
set_option maxRecDepth 20000 in
theorem s_13_3 (r0 : Nat) (x1 : Int32) (x2 : Int32) (x3 : Int32) (x4 : Int32) (h : tH) (Q : tO → tH → Prop)  :
    AX 2 13 3 [.ref r0, .int x1, .int x2, .int x3, .int x4] [] h Q =
    (t_ob r0 = some 6 ∧ (if (h.1 r0 1) ≤ x4 then Q (.inl (some (.int 1))) h else (if x4 = x2 then AX 2 13 47 [.ref r0, .int x1, .int x2, .int x3, .int x4] [] h Q else (if x4 = x3 then AX 2 13 47 [.ref r0, .int x1, .int x2, .int x3, .int x4] [] h Q else AM 4 [.int x1, .int x4] h (t_ki (fun a1 h1 => (if a1 = (0 : Int32) then AX 2 13 47 [.ref r0, .int x1, .int x2, .int x3, .int x4] [] h1 Q else (t_ob r0 = some 6 ∧ AM 39 [.ref r0, .int x2, .int x3, .int x4] h1 (t_ki (fun a2 h2 => (if a2 = (1 : Int32) then AX 2 13 47 [.ref r0, .int x1, .int x2, .int x3, .int x4] [] h2 Q else Q (.inl (some (.int 0))) h2)) Q)))) Q))))) := by
  rw [e_13_3]
  simp only [e_13_5, e_13_6, e_13_9, e_13_53, e_13_54, t_z1, e_13_12, e_13_14, e_13_15, e_13_18, e_13_20, e_13_21, e_13_24, e_13_25, e_13_27, e_13_30, e_13_33, e_13_34, e_13_35, e_13_36, e_13_38, e_13_41, e_13_42, e_13_45, e_13_46, t_z0, true_and, and_true, or_true, true_or]
set_option maxRecDepth 20000 in
theorem s_13_47 (r0 : Nat) (x1 : Int32) (x2 : Int32) (x3 : Int32) (x4 : Int32) (h : tH) (Q : tO → tH → Prop)  :
    AX 2 13 47 [.ref r0, .int x1, .int x2, .int x3, .int x4] [] h Q =
    AX 2 13 3 [.ref r0, .int x1, .int x2, .int x3, .int (x4 + 1)] [] h Q := by
  rw [e_13_47]
  simp only [e_13_50, true_and, and_true, or_true, true_or]
theorem am_13 (r0 : Nat) (x1 : Int32) (x2 : Int32) (x3 : Int32) (h : tH) (Q : tO → tH → Prop) : AM 13 [.ref r0, .int x1, .int x2, .int x3] h Q = AX 2 13 0 [.ref r0, .int x1, .int x2, .int x3, .float 0] [] h Q := AM_at ta_13 _ _ _
-- X3_of
theorem b_14_17 (r0 : Nat) (x1 : Int32) (x2 : Int32) (x3 : Int32) (w4 : Value) (u0 : Int32) (u1 : Int32) (h : tH) (Q : tO → tH → Prop) : AX 4 14 17 [.ref r0, .int x1, .int x2, .int x3, w4] [.int u0, .int u1] h Q = AX 4 14 25 [.ref r0, .int x1, .int x2, .int x3, w4] [.int (if ¬ u1 = u0 then (0 : Int32) else 1)] h Q := by
  simp only [e_14_17, e_14_20, e_14_21, e_14_24]
  repeat' split
  all_goals rfl
set_option maxRecDepth 20000 in
theorem s_14_0 (r0 : Nat) (x1 : Int32) (h : tH) (Q : tO → tH → Prop)  :
    AX 4 14 0 [.ref r0, .int x1, .float 0, .float 0, .float 0] [] h Q =
    AX 4 14 4 [.ref r0, .int x1, .int 0, .int 0, .float 0] [] h Q := by
  rw [e_14_0]
  simp only [e_14_1, e_14_2, e_14_3, true_and, and_true, or_true, true_or]
set_option maxRecDepth 20000 in
theorem s_14_4 (r0 : Nat) (x1 : Int32) (x2 : Int32) (x3 : Int32) (w4 : Value) (h : tH) (Q : tO → tH → Prop)  :
    AX 4 14 4 [.ref r0, .int x1, .int x2, .int x3, w4] [] h Q =
    (t_ob r0 = some 6 ∧ (if (h.1 r0 1) ≤ x3 then Q (.inl (some (.int x2))) h else AM 2 [.int x3] h (t_ki (fun a1 h1 => AM 4 [.int x1, .int x3] h1 (t_ki (fun a2 h2 => (if a2 = (0 : Int32) then AX 4 14 57 [.ref r0, .int x1, .int x2, .int x3, .int (if ¬ x1 = a1 then (0 : Int32) else 1)] [] h2 Q else (if ¬ ((if ¬ x1 = a1 then (0 : Int32) else 1) : Int32) = (0 : Int32) then AX 4 14 50 [.ref r0, .int x1, .int x2, .int x3, .int (if ¬ x1 = a1 then (0 : Int32) else 1)] [] h2 Q else AM 12 [.ref r0, .int x1, .int x3] h2 (t_ki (fun a3 h3 => (if a3 = ((-1) : Int32) then AX 4 14 57 [.ref r0, .int x1, .int x2, .int x3, .int (if ¬ x1 = a1 then (0 : Int32) else 1)] [] h3 Q else AX 4 14 50 [.ref r0, .int x1, .int x2, .int x3, .int (if ¬ x1 = a1 then (0 : Int32) else 1)] [] h3 Q)) Q)))) Q)) Q))) := by
  rw [e_14_4]
  simp only [e_14_5, e_14_6, e_14_9, e_14_63, e_14_64, e_14_12, e_14_13, e_14_14, b_14_17, e_14_25, e_14_27, e_14_28, e_14_29, e_14_32, e_14_35, e_14_37, e_14_40, e_14_41, e_14_42, e_14_43, e_14_46, e_14_47, true_and, and_true, or_true, true_or]
set_option maxRecDepth 20000 in
theorem s_14_50 (r0 : Nat) (x1 : Int32) (x2 : Int32) (x3 : Int32) (x4 : Int32) (h : tH) (Q : tO → tH → Prop)  :
    AX 4 14 50 [.ref r0, .int x1, .int x2, .int x3, .int x4] [] h Q =
    AM 2 [.int x3] h (t_ki (fun a1 h1 => AX 4 14 57 [.ref r0, .int x1, .int (x2 ||| a1), .int x3, .int x4] [] h1 Q) Q) := by
  rw [e_14_50]
  simp only [e_14_51, e_14_52, e_14_55, e_14_56, true_and, and_true, or_true, true_or]
set_option maxRecDepth 20000 in
theorem s_14_57 (r0 : Nat) (x1 : Int32) (x2 : Int32) (x3 : Int32) (x4 : Int32) (h : tH) (Q : tO → tH → Prop)  :
    AX 4 14 57 [.ref r0, .int x1, .int x2, .int x3, .int x4] [] h Q =
    AX 4 14 4 [.ref r0, .int x1, .int x2, .int (x3 + 1), .int x4] [] h Q := by
  rw [e_14_57]
  simp only [e_14_60, true_and, and_true, or_true, true_or]
theorem am_14 (r0 : Nat) (x1 : Int32) (h : tH) (Q : tO → tH → Prop) : AM 14 [.ref r0, .int x1] h Q = AX 4 14 0 [.ref r0, .int x1, .float 0, .float 0, .float 0] [] h Q := AM_at ta_14 _ _ _
-- X7_of
set_option maxRecDepth 20000 in
theorem s_39_0 (r0 : Nat) (x1 : Int32) (x2 : Int32) (x3 : Int32) (h : tH) (Q : tO → tH → Prop)  :
    AX 1 39 0 [.ref r0, .int x1, .int x2, .int x3] [] h Q =
    (t_ob r0 = some 6 ∧ AM 40 [.int x1, .int x2, .int x3] h (t_ki (fun a1 h1 => AM 6 [.ref (r0 + 10), .int a1] h1 (t_ki (fun a2 h2 => Q (.inl (some (.int a2))) h2) Q)) Q)) := by
  rw [e_39_0]
  simp only [e_39_1, e_39_4, e_39_5, e_39_6, e_39_7, e_39_10, e_39_13, true_and, and_true, or_true, true_or]
theorem am_39 (r0 : Nat) (x1 : Int32) (x2 : Int32) (x3 : Int32) (h : tH) (Q : tO → tH → Prop) : AM 39 [.ref r0, .int x1, .int x2, .int x3] h Q = AX 1 39 0 [.ref r0, .int x1, .int x2, .int x3] [] h Q := AM_at ta_39 _ _ _
-- X7_cell
set_option maxRecDepth 20000 in
theorem s_40_0 (x0 : Int32) (x1 : Int32) (x2 : Int32) (h : tH) (Q : tO → tH → Prop)  :
    AX 0 40 0 [.int x0, .int x1, .int x2] [] h Q =
    Q (.inl (some (.int ((((x0 * 7) + x1) * 7) + x2)))) h := by
  rw [e_40_0]
  simp only [e_40_1, e_40_3, e_40_4, e_40_5, e_40_6, e_40_8, e_40_9, e_40_10, e_40_11, true_and, and_true, or_true, true_or]
theorem am_40 (x0 : Int32) (x1 : Int32) (x2 : Int32) (h : tH) (Q : tO → tH → Prop) : AM 40 [.int x0, .int x1, .int x2] h Q = AX 0 40 0 [.int x0, .int x1, .int x2] [] h Q := AM_at ta_40 _ _ _
-- X7_put
set_option maxRecDepth 20000 in
theorem s_41_0 (r0 : Nat) (x1 : Int32) (x2 : Int32) (x3 : Int32) (x4 : Int32) (h : tH) (Q : tO → tH → Prop)  :
    AX 1 41 0 [.ref r0, .int x1, .int x2, .int x3, .int x4] [] h Q =
    (t_ob r0 = some 6 ∧ AM 40 [.int x1, .int x2, .int x3] h (t_ki (fun a1 h1 => AM 7 [.ref (r0 + 10), .int a1, .int x4] h1 (t_kv (fun h2 => (t_ob r0 = some 6 ∧ AM 40 [.int x2, .int x3, .int x1] h2 (t_ki (fun a3 h3 => AM 7 [.ref (r0 + 10), .int a3, .int x4] h3 (t_kv (fun h4 => (t_ob r0 = some 6 ∧ AM 40 [.int x3, .int x1, .int x2] h4 (t_ki (fun a5 h5 => AM 7 [.ref (r0 + 10), .int a5, .int x4] h5 (t_kv (fun h6 => (t_ob r0 = some 6 ∧ AM 40 [.int x1, .int x3, .int x2] h6 (t_ki (fun a7 h7 => AM 7 [.ref (r0 + 10), .int a7, .int (-x4)] h7 (t_kv (fun h8 => (t_ob r0 = some 6 ∧ AM 40 [.int x3, .int x2, .int x1] h8 (t_ki (fun a9 h9 => AM 7 [.ref (r0 + 10), .int a9, .int (-x4)] h9 (t_kv (fun h10 => (t_ob r0 = some 6 ∧ AM 40 [.int x2, .int x1, .int x3] h10 (t_ki (fun a11 h11 => AM 7 [.ref (r0 + 10), .int a11, .int (-x4)] h11 (t_kv (fun h12 => Q (.inl none) h12) Q)) Q))) Q)) Q))) Q)) Q))) Q)) Q))) Q)) Q))) Q)) Q)) := by
  rw [e_41_0]
  simp only [e_41_1, e_41_4, e_41_5, e_41_6, e_41_7, e_41_10, e_41_12, e_41_15, e_41_16, e_41_19, e_41_20, e_41_21, e_41_22, e_41_25, e_41_27, e_41_30, e_41_31, e_41_34, e_41_35, e_41_36, e_41_37, e_41_40, e_41_42, e_41_45, e_41_46, e_41_49, e_41_50, e_41_51, e_41_52, e_41_55, e_41_57, e_41_58, e_41_61, e_41_62, e_41_65, e_41_66, e_41_67, e_41_68, e_41_71, e_41_73, e_41_74, e_41_77, e_41_78, e_41_81, e_41_82, e_41_83, e_41_84, e_41_87, e_41_89, e_41_90, e_41_93, true_and, and_true, or_true, true_or]
theorem am_41 (r0 : Nat) (x1 : Int32) (x2 : Int32) (x3 : Int32) (x4 : Int32) (h : tH) (Q : tO → tH → Prop) : AM 41 [.ref r0, .int x1, .int x2, .int x3, .int x4] h Q = AX 1 41 0 [.ref r0, .int x1, .int x2, .int x3, .int x4] [] h Q := AM_at ta_41 _ _ _
-- X7_take
set_option maxRecDepth 20000 in
theorem s_42_0 (r0 : Nat) (r1 : Nat) (x2 : Int32) (h : tH) (Q : tO → tH → Prop)  :
    AX 2 42 0 [.ref r0, .ref r1, .int x2, .float 0, .float 0, .float 0] [] h Q =
    (t_ob r1 = some 6 ∧ (t_ob r0 = some 6 ∧ AX 2 42 10 [.ref r0, .ref r1, .int x2, .int 0, .float 0, .float 0] [] (t_I h r0 1 (h.1 r1 1)) Q)) := by
  rw [e_42_0]
  simp only [e_42_1, e_42_2, e_42_5, e_42_8, e_42_9, true_and, and_true, or_true, true_or]
set_option maxRecDepth 20000 in
theorem s_42_10 (r0 : Nat) (r1 : Nat) (x2 : Int32) (x3 : Int32) (w4 : Value) (w5 : Value) (h : tH) (Q : tO → tH → Prop)  :
    AX 2 42 10 [.ref r0, .ref r1, .int x2, .int x3, w4, w5] [] h Q =
    (t_ob r0 = some 6 ∧ (if (h.1 r0 1) ≤ x3 then Q (.inl none) h else AX 2 42 23 [.ref r0, .ref r1, .int x2, .int x3, .int (x3 + 1), w5] [] h Q)) := by
  rw [e_42_10]
  simp only [e_42_11, e_42_12, e_42_15, e_42_85, e_42_18, e_42_19, e_42_20, e_42_21, true_and, and_true, or_true, true_or]
set_option maxRecDepth 20000 in
theorem s_42_23 (r0 : Nat) (r1 : Nat) (x2 : Int32) (x3 : Int32) (x4 : Int32) (w5 : Value) (h : tH) (Q : tO → tH → Prop)  :
    AX 2 42 23 [.ref r0, .ref r1, .int x2, .int x3, .int x4, w5] [] h Q =
    (t_ob r0 = some 6 ∧ (if (h.1 r0 1) ≤ x4 then AX 2 42 10 [.ref r0, .ref r1, .int x2, .int (x3 + 1), .int x4, w5] [] h Q else AX 2 42 38 [.ref r0, .ref r1, .int x2, .int x3, .int x4, .int (x4 + 1)] [] h Q)) := by
  rw [e_42_23]
  simp only [e_42_25, e_42_26, e_42_29, e_42_79, e_42_82, e_42_32, e_42_34, e_42_35, e_42_36, true_and, and_true, or_true, true_or]
set_option maxRecDepth 20000 in
theorem s_42_38 (r0 : Nat) (r1 : Nat) (x2 : Int32) (x3 : Int32) (x4 : Int32) (x5 : Int32) (h : tH) (Q : tO → tH → Prop)  :
    AX 2 42 38 [.ref r0, .ref r1, .int x2, .int x3, .int x4, .int x5] [] h Q =
    (t_ob r0 = some 6 ∧ (if (h.1 r0 1) ≤ x5 then AX 2 42 23 [.ref r0, .ref r1, .int x2, .int x3, .int (x4 + 1), .int x5] [] h Q else (t_ob r1 = some 6 ∧ AM 39 [.ref r1, .int x3, .int x4, .int x5] h (t_ki (fun a1 h1 => (t_ob r0 = some 6 ∧ AM 41 [.ref r0, .int x3, .int x4, .int x5, .int (x2 * a1)] h1 (t_kv (fun h2 => AX 2 42 38 [.ref r0, .ref r1, .int x2, .int x3, .int x4, .int (x5 + 1)] [] h2 Q) Q))) Q)))) := by
  rw [e_42_38]
  simp only [e_42_40, e_42_41, e_42_44, e_42_73, e_42_76, e_42_47, e_42_48, e_42_49, e_42_51, e_42_53, e_42_54, e_42_55, e_42_56, e_42_58, e_42_60, e_42_63, e_42_64, e_42_67, e_42_70, true_and, and_true, or_true, true_or]
theorem am_42 (r0 : Nat) (r1 : Nat) (x2 : Int32) (h : tH) (Q : tO → tH → Prop) : AM 42 [.ref r0, .ref r1, .int x2] h Q = AX 2 42 0 [.ref r0, .ref r1, .int x2, .float 0, .float 0, .float 0] [] h Q := AM_at ta_42 _ _ _
-- X7_exchange
set_option maxRecDepth 20000 in
theorem s_44_0 (r0 : Nat) (x1 : Int32) (x2 : Int32) (h : tH) (Q : tO → tH → Prop)  :
    AX 2 44 0 [.ref r0, .int x1, .int x2, .float 0, .float 0, .float 0] [] h Q =
    AX 2 44 2 [.ref r0, .int x1, .int x2, .int 0, .float 0, .float 0] [] h Q := by
  rw [e_44_0]
  simp only [e_44_1, true_and, and_true, or_true, true_or]
set_option maxRecDepth 20000 in
theorem s_44_2 (r0 : Nat) (x1 : Int32) (x2 : Int32) (x3 : Int32) (w4 : Value) (w5 : Value) (h : tH) (Q : tO → tH → Prop)  :
    AX 2 44 2 [.ref r0, .int x1, .int x2, .int x3, w4, w5] [] h Q =
    (t_ob r0 = some 6 ∧ (if (h.1 r0 1) ≤ x3 then Q (.inl none) h else (if x3 = x1 then AX 2 44 109 [.ref r0, .int x1, .int x2, .int x3, w4, w5] [] h Q else (if ¬ x3 = x2 then (t_ob r0 = some 6 ∧ AM 39 [.ref r0, .int x1, .int x2, .int x3] h (t_ki (fun a1 h1 => (t_ob r0 = some 6 ∧ AM 41 [.ref r0, .int x1, .int x2, .int x3, .int (-a1)] h1 (t_kv (fun h2 => AX 2 44 43 [.ref r0, .int x1, .int x2, .int x3, .int (x3 + 1), w5] [] h2 Q) Q))) Q)) else AX 2 44 109 [.ref r0, .int x1, .int x2, .int x3, w4, w5] [] h Q)))) := by
  rw [e_44_2]
  simp only [e_44_3, e_44_4, e_44_7, e_44_115, e_44_10, e_44_11, e_44_12, e_44_15, e_44_16, e_44_17, e_44_23, e_44_24, e_44_25, e_44_26, e_44_27, e_44_28, e_44_29, e_44_30, e_44_31, e_44_34, e_44_35, e_44_38, e_44_39, e_44_40, e_44_41, e_44_20, true_and, and_true, or_true, true_or]
set_option maxRecDepth 20000 in
theorem s_44_43 (r0 : Nat) (x1 : Int32) (x2 : Int32) (x3 : Int32) (x4 : Int32) (w5 : Value) (h : tH) (Q : tO → tH → Prop)  :
    AX 2 44 43 [.ref r0, .int x1, .int x2, .int x3, .int x4, w5] [] h Q =
    (t_ob r0 = some 6 ∧ (if (h.1 r0 1) ≤ x4 then AX 2 44 109 [.ref r0, .int x1, .int x2, .int x3, .int x4, w5] [] h Q else (if x4 = x1 then AX 2 44 103 [.ref r0, .int x1, .int x2, .int x3, .int x4, w5] [] h Q else (if ¬ x4 = x2 then (t_ob r0 = some 6 ∧ AM 39 [.ref r0, .int x1, .int x3, .int x4] h (t_ki (fun a1 h1 => (t_ob r0 = some 6 ∧ AM 39 [.ref r0, .int x2, .int x3, .int x4] h1 (t_ki (fun a2 h2 => (t_ob r0 = some 6 ∧ AM 41 [.ref r0, .int x1, .int x3, .int x4, .int a2] h2 (t_kv (fun h3 => (t_ob r0 = some 6 ∧ AM 41 [.ref r0, .int x2, .int x3, .int x4, .int a1] h3 (t_kv (fun h4 => AX 2 44 103 [.ref r0, .int x1, .int x2, .int x3, .int x4, .int a1] [] h4 Q) Q))) Q))) Q))) Q)) else AX 2 44 103 [.ref r0, .int x1, .int x2, .int x3, .int x4, w5] [] h Q)))) := by
  rw [e_44_43]
  simp only [e_44_45, e_44_46, e_44_49, e_44_52, e_44_54, e_44_55, e_44_58, e_44_60, e_44_61, e_44_67, e_44_68, e_44_69, e_44_70, e_44_72, e_44_75, e_44_77, e_44_78, e_44_79, e_44_80, e_44_82, e_44_83, e_44_84, e_44_85, e_44_87, e_44_90, e_44_93, e_44_94, e_44_95, e_44_96, e_44_98, e_44_100, e_44_64, true_and, and_true, or_true, true_or]
set_option maxRecDepth 20000 in
theorem s_44_103 (r0 : Nat) (x1 : Int32) (x2 : Int32) (x3 : Int32) (x4 : Int32) (w5 : Value) (h : tH) (Q : tO → tH → Prop)  :
    AX 2 44 103 [.ref r0, .int x1, .int x2, .int x3, .int x4, w5] [] h Q =
    AX 2 44 43 [.ref r0, .int x1, .int x2, .int x3, .int (x4 + 1), w5] [] h Q := by
  rw [e_44_103]
  simp only [e_44_106, true_and, and_true, or_true, true_or]
set_option maxRecDepth 20000 in
theorem s_44_109 (r0 : Nat) (x1 : Int32) (x2 : Int32) (x3 : Int32) (w4 : Value) (w5 : Value) (h : tH) (Q : tO → tH → Prop)  :
    AX 2 44 109 [.ref r0, .int x1, .int x2, .int x3, w4, w5] [] h Q =
    AX 2 44 2 [.ref r0, .int x1, .int x2, .int (x3 + 1), w4, w5] [] h Q := by
  rw [e_44_109]
  simp only [e_44_112, true_and, and_true, or_true, true_or]
theorem am_44 (r0 : Nat) (x1 : Int32) (x2 : Int32) (h : tH) (Q : tO → tH → Prop) : AM 44 [.ref r0, .int x1, .int x2] h Q = AX 2 44 0 [.ref r0, .int x1, .int x2, .float 0, .float 0, .float 0] [] h Q := AM_at ta_44 _ _ _
-- X7_turnOver
set_option maxRecDepth 20000 in
theorem s_45_0 (r0 : Nat) (x1 : Int32) (x2 : Int32) (x3 : Int32) (h : tH) (Q : tO → tH → Prop)  :
    AX 5 45 0 [.ref r0, .int x1, .int x2, .int x3, .float 0] [] h Q =
    (t_ob r0 = some 6 ∧ AM 39 [.ref r0, .int x1, .int x2, .int x3] h (t_ki (fun a1 h1 => (t_ob r0 = some 6 ∧ AM 41 [.ref r0, .int x1, .int x2, .int x3, .int (-a1)] h1 (t_kv (fun h2 => (t_ob r0 = some 6 ∧ AM 46 [.ref r0, .int x1, .int x2, .int x3] h2 (t_ki (fun a3 h3 => (if a3 = (0 : Int32) then (t_ob r0 = some 6 ∧ AM 41 [.ref r0, .int x1, .int x2, .int x3, .int a1] h3 (t_kv (fun h4 => Q (.inl (some (.int 0))) h4) Q)) else Q (.inl (some (.int 1))) h3)) Q))) Q))) Q)) := by
  rw [e_45_0]
  simp only [e_45_1, e_45_2, e_45_3, e_45_4, e_45_7, e_45_9, e_45_10, e_45_11, e_45_12, e_45_13, e_45_15, e_45_16, e_45_19, e_45_20, e_45_21, e_45_22, e_45_23, e_45_26, e_45_31, e_45_32, e_45_33, e_45_34, e_45_35, e_45_37, e_45_40, e_45_41, t_z0, e_45_29, e_45_30, t_z1, true_and, and_true, or_true, true_or]
theorem am_45 (r0 : Nat) (x1 : Int32) (x2 : Int32) (x3 : Int32) (h : tH) (Q : tO → tH → Prop) : AM 45 [.ref r0, .int x1, .int x2, .int x3] h Q = AX 5 45 0 [.ref r0, .int x1, .int x2, .int x3, .float 0] [] h Q := AM_at ta_45 _ _ _
-- X7_fits
set_option maxRecDepth 20000 in
theorem s_46_0 (r0 : Nat) (x1 : Int32) (x2 : Int32) (x3 : Int32) (h : tH) (Q : tO → tH → Prop)  :
    AX 4 46 0 [.ref r0, .int x1, .int x2, .int x3, .float 0, .float 0] [] h Q =
    AX 4 46 3 [.ref r0, .int x1, .int x2, .int x3, .int 0, .float 0] [] h Q := by
  rw [e_46_0]
  simp only [e_46_1, true_and, and_true, or_true, true_or]
set_option maxRecDepth 20000 in
theorem s_46_3 (r0 : Nat) (x1 : Int32) (x2 : Int32) (x3 : Int32) (x4 : Int32) (w5 : Value) (h : tH) (Q : tO → tH → Prop)  :
    AX 4 46 3 [.ref r0, .int x1, .int x2, .int x3, .int x4, w5] [] h Q =
    (t_ob r0 = some 6 ∧ (if (h.1 r0 1) ≤ x4 then Q (.inl (some (.int 1))) h else (if x4 = x1 then AX 4 46 102 [.ref r0, .int x1, .int x2, .int x3, .int x4, w5] [] h Q else (if x4 = x2 then AX 4 46 102 [.ref r0, .int x1, .int x2, .int x3, .int x4, w5] [] h Q else (if ¬ x4 = x3 then (t_ob r0 = some 6 ∧ AM 47 [.ref r0, .int x1, .int x2, .int x3, .int x4] h (t_ki (fun a1 h1 => (if ¬ a1 = (0 : Int32) then AX 4 46 53 [.ref r0, .int x1, .int x2, .int x3, .int x4, .int (x4 + 1)] [] h1 Q else Q (.inl (some (.int 0))) h1)) Q)) else AX 4 46 102 [.ref r0, .int x1, .int x2, .int x3, .int x4, w5] [] h Q))))) := by
  rw [e_46_3]
  simp only [e_46_5, e_46_6, e_46_9, e_46_108, e_46_109, t_z1, e_46_12, e_46_14, e_46_15, e_46_18, e_46_20, e_46_21, e_46_24, e_46_26, e_46_27, e_46_33, e_46_34, e_46_35, e_46_36, e_46_37, e_46_39, e_46_42, e_46_47, e_46_49, e_46_50, e_46_51, e_46_45, e_46_46, t_z0, e_46_30, true_and, and_true, or_true, true_or]
set_option maxRecDepth 20000 in
theorem s_46_53 (r0 : Nat) (x1 : Int32) (x2 : Int32) (x3 : Int32) (x4 : Int32) (x5 : Int32) (h : tH) (Q : tO → tH → Prop)  :
    AX 4 46 53 [.ref r0, .int x1, .int x2, .int x3, .int x4, .int x5] [] h Q =
    (t_ob r0 = some 6 ∧ (if (h.1 r0 1) ≤ x5 then AX 4 46 102 [.ref r0, .int x1, .int x2, .int x3, .int x4, .int x5] [] h Q else (if x5 = x1 then AX 4 46 96 [.ref r0, .int x1, .int x2, .int x3, .int x4, .int x5] [] h Q else (if x5 = x2 then AX 4 46 96 [.ref r0, .int x1, .int x2, .int x3, .int x4, .int x5] [] h Q else (if x5 = x3 then AX 4 46 96 [.ref r0, .int x1, .int x2, .int x3, .int x4, .int x5] [] h Q else (t_ob r0 = some 6 ∧ AM 48 [.ref r0, .int x1, .int x2, .int x3, .int x4, .int x5] h (t_ki (fun a1 h1 => (if ¬ a1 = (0 : Int32) then AX 4 46 96 [.ref r0, .int x1, .int x2, .int x3, .int x4, .int x5] [] h1 Q else Q (.inl (some (.int 0))) h1)) Q))))))) := by
  rw [e_46_53]
  simp only [e_46_55, e_46_56, e_46_59, e_46_62, e_46_64, e_46_65, e_46_68, e_46_70, e_46_71, e_46_74, e_46_76, e_46_77, e_46_80, e_46_81, e_46_82, e_46_83, e_46_84, e_46_86, e_46_88, e_46_91, e_46_94, e_46_95, t_z0, true_and, and_true, or_true, true_or]
set_option maxRecDepth 20000 in
theorem s_46_96 (r0 : Nat) (x1 : Int32) (x2 : Int32) (x3 : Int32) (x4 : Int32) (x5 : Int32) (h : tH) (Q : tO → tH → Prop)  :
    AX 4 46 96 [.ref r0, .int x1, .int x2, .int x3, .int x4, .int x5] [] h Q =
    AX 4 46 53 [.ref r0, .int x1, .int x2, .int x3, .int x4, .int (x5 + 1)] [] h Q := by
  rw [e_46_96]
  simp only [e_46_99, true_and, and_true, or_true, true_or]
set_option maxRecDepth 20000 in
theorem s_46_102 (r0 : Nat) (x1 : Int32) (x2 : Int32) (x3 : Int32) (x4 : Int32) (w5 : Value) (h : tH) (Q : tO → tH → Prop)  :
    AX 4 46 102 [.ref r0, .int x1, .int x2, .int x3, .int x4, w5] [] h Q =
    AX 4 46 3 [.ref r0, .int x1, .int x2, .int x3, .int (x4 + 1), w5] [] h Q := by
  rw [e_46_102]
  simp only [e_46_105, true_and, and_true, or_true, true_or]
theorem am_46 (r0 : Nat) (x1 : Int32) (x2 : Int32) (x3 : Int32) (h : tH) (Q : tO → tH → Prop) : AM 46 [.ref r0, .int x1, .int x2, .int x3] h Q = AX 4 46 0 [.ref r0, .int x1, .int x2, .int x3, .float 0, .float 0] [] h Q := AM_at ta_46 _ _ _
-- X7_fourHold
set_option maxRecDepth 20000 in
theorem s_47_0 (r0 : Nat) (x1 : Int32) (x2 : Int32) (x3 : Int32) (x4 : Int32) (h : tH) (Q : tO → tH → Prop)  :
    AX 2 47 0 [.ref r0, .int x1, .int x2, .int x3, .int x4, .float 0] [] h Q =
    (t_ob r0 = some 6 ∧ AM 39 [.ref r0, .int x2, .int x3, .int x4] h (t_ki (fun a1 h1 => (if a1 = (0 : Int32) then AX 2 47 53 [.ref r0, .int x1, .int x2, .int x3, .int x4, .int a1] [] h1 Q else (t_ob r0 = some 6 ∧ AM 39 [.ref r0, .int x1, .int x4, .int x3] h1 (t_ki (fun a2 h2 => (if ¬ a2 = a1 then AX 2 47 53 [.ref r0, .int x1, .int x2, .int x3, .int x4, .int a1] [] h2 Q else (t_ob r0 = some 6 ∧ AM 39 [.ref r0, .int x1, .int x2, .int x4] h2 (t_ki (fun a3 h3 => (if ¬ a3 = a1 then AX 2 47 53 [.ref r0, .int x1, .int x2, .int x3, .int x4, .int a1] [] h3 Q else (t_ob r0 = some 6 ∧ AM 39 [.ref r0, .int x1, .int x3, .int x2] h3 (t_ki (fun a4 h4 => (if a4 = a1 then AX 2 47 58 [.ref r0, .int x1, .int x2, .int x3, .int x4, .int a1] [.int 0] h4 Q else AX 2 47 53 [.ref r0, .int x1, .int x2, .int x3, .int x4, .int a1] [] h4 Q)) Q)))) Q)))) Q)))) Q)) := by
  rw [e_47_0]
  simp only [e_47_1, e_47_2, e_47_3, e_47_5, e_47_8, e_47_10, e_47_12, e_47_15, e_47_16, e_47_17, e_47_19, e_47_20, e_47_23, e_47_25, e_47_28, e_47_29, e_47_30, e_47_31, e_47_33, e_47_36, e_47_38, e_47_41, e_47_42, e_47_43, e_47_44, e_47_45, e_47_48, e_47_50, e_47_57, true_and, and_true, or_true, true_or]
set_option maxRecDepth 20000 in
theorem s_47_53 (r0 : Nat) (x1 : Int32) (x2 : Int32) (x3 : Int32) (x4 : Int32) (x5 : Int32) (h : tH) (Q : tO → tH → Prop)  :
    AX 2 47 53 [.ref r0, .int x1, .int x2, .int x3, .int x4, .int x5] [] h Q =
    AX 2 47 58 [.ref r0, .int x1, .int x2, .int x3, .int x4, .int x5] [.int 1] h Q := by
  rw [e_47_53]
  simp only [e_47_54, true_and, and_true, or_true, true_or]
set_option maxRecDepth 20000 in
theorem s_47_58 (r0 : Nat) (x1 : Int32) (x2 : Int32) (x3 : Int32) (x4 : Int32) (x5 : Int32) (u0 : Int32) (h : tH) (Q : tO → tH → Prop)  :
    AX 2 47 58 [.ref r0, .int x1, .int x2, .int x3, .int x4, .int x5] [.int u0] h Q =
    (((u0 : Int32) = 0 ∨ (u0 : Int32) = 1) ∧ Q (.inl (some (.int u0))) h) := by
  rw [e_47_58]
theorem am_47 (r0 : Nat) (x1 : Int32) (x2 : Int32) (x3 : Int32) (x4 : Int32) (h : tH) (Q : tO → tH → Prop) : AM 47 [.ref r0, .int x1, .int x2, .int x3, .int x4] h Q = AX 2 47 0 [.ref r0, .int x1, .int x2, .int x3, .int x4, .float 0] [] h Q := AM_at ta_47 _ _ _
-- X7_fiveHoldAround
set_option maxRecDepth 20000 in
theorem s_48_0 (r0 : Nat) (x1 : Int32) (x2 : Int32) (x3 : Int32) (x4 : Int32) (x5 : Int32) (h : tH) (Q : tO → tH → Prop)  :
    AX 3 48 0 [.ref r0, .int x1, .int x2, .int x3, .int x4, .int x5] [] h Q =
    (t_ob r0 = some 6 ∧ AM 49 [.ref r0, .int x1, .int x2, .int x3, .int x4, .int x5] h (t_ki (fun a1 h1 => (if a1 = (0 : Int32) then AX 3 48 46 [.ref r0, .int x1, .int x2, .int x3, .int x4, .int x5] [] h1 Q else (t_ob r0 = some 6 ∧ AM 49 [.ref r0, .int x2, .int x1, .int x3, .int x4, .int x5] h1 (t_ki (fun a2 h2 => (if a2 = (0 : Int32) then AX 3 48 46 [.ref r0, .int x1, .int x2, .int x3, .int x4, .int x5] [] h2 Q else (t_ob r0 = some 6 ∧ AM 49 [.ref r0, .int x3, .int x1, .int x2, .int x4, .int x5] h2 (t_ki (fun a3 h3 => (if a3 = (0 : Int32) then AX 3 48 46 [.ref r0, .int x1, .int x2, .int x3, .int x4, .int x5] [] h3 Q else AX 3 48 47 [.ref r0, .int x1, .int x2, .int x3, .int x4, .int x5] [.int 1] h3 Q)) Q)))) Q)))) Q)) := by
  rw [e_48_0]
  simp only [e_48_1, e_48_2, e_48_3, e_48_4, e_48_6, e_48_8, e_48_11, e_48_14, e_48_15, e_48_16, e_48_17, e_48_18, e_48_20, e_48_22, e_48_25, e_48_28, e_48_29, e_48_30, e_48_31, e_48_32, e_48_34, e_48_36, e_48_39, e_48_42, e_48_43, true_and, and_true, or_true, true_or]
set_option maxRecDepth 20000 in
theorem s_48_46 (r0 : Nat) (x1 : Int32) (x2 : Int32) (x3 : Int32) (x4 : Int32) (x5 : Int32) (h : tH) (Q : tO → tH → Prop)  :
    AX 3 48 46 [.ref r0, .int x1, .int x2, .int x3, .int x4, .int x5] [] h Q =
    AX 3 48 47 [.ref r0, .int x1, .int x2, .int x3, .int x4, .int x5] [.int 0] h Q := by
  rw [e_48_46]
set_option maxRecDepth 20000 in
theorem s_48_47 (r0 : Nat) (x1 : Int32) (x2 : Int32) (x3 : Int32) (x4 : Int32) (x5 : Int32) (u0 : Int32) (h : tH) (Q : tO → tH → Prop)  :
    AX 3 48 47 [.ref r0, .int x1, .int x2, .int x3, .int x4, .int x5] [.int u0] h Q =
    (((u0 : Int32) = 0 ∨ (u0 : Int32) = 1) ∧ Q (.inl (some (.int u0))) h) := by
  rw [e_48_47]
theorem am_48 (r0 : Nat) (x1 : Int32) (x2 : Int32) (x3 : Int32) (x4 : Int32) (x5 : Int32) (h : tH) (Q : tO → tH → Prop) : AM 48 [.ref r0, .int x1, .int x2, .int x3, .int x4, .int x5] h Q = AX 3 48 0 [.ref r0, .int x1, .int x2, .int x3, .int x4, .int x5] [] h Q := AM_at ta_48 _ _ _
-- X7_fiveHold
set_option maxRecDepth 20000 in
theorem s_49_0 (r0 : Nat) (x1 : Int32) (x2 : Int32) (x3 : Int32) (x4 : Int32) (x5 : Int32) (h : tH) (Q : tO → tH → Prop)  :
    AX 2 49 0 [.ref r0, .int x1, .int x2, .int x3, .int x4, .int x5, .float 0] [] h Q =
    (t_ob r0 = some 6 ∧ AM 39 [.ref r0, .int x1, .int x2, .int x3] h (t_ki (fun a1 h1 => (t_ob r0 = some 6 ∧ AM 39 [.ref r0, .int x1, .int x4, .int x5] h1 (t_ki (fun a2 h2 => (if (a1 * a2) = (0 : Int32) then AX 2 49 68 [.ref r0, .int x1, .int x2, .int x3, .int x4, .int x5, .int (a1 * a2)] [] h2 Q else (t_ob r0 = some 6 ∧ AM 39 [.ref r0, .int x1, .int x2, .int x4] h2 (t_ki (fun a3 h3 => (t_ob r0 = some 6 ∧ AM 39 [.ref r0, .int x1, .int x5, .int x3] h3 (t_ki (fun a4 h4 => (if ¬ (a3 * a4) = (a1 * a2) then AX 2 49 68 [.ref r0, .int x1, .int x2, .int x3, .int x4, .int x5, .int (a1 * a2)] [] h4 Q else (t_ob r0 = some 6 ∧ AM 39 [.ref r0, .int x1, .int x2, .int x5] h4 (t_ki (fun a5 h5 => (t_ob r0 = some 6 ∧ AM 39 [.ref r0, .int x1, .int x3, .int x4] h5 (t_ki (fun a6 h6 => (if (a5 * a6) = (a1 * a2) then AX 2 49 73 [.ref r0, .int x1, .int x2, .int x3, .int x4, .int x5, .int (a1 * a2)] [.int 0] h6 Q else AX 2 49 68 [.ref r0, .int x1, .int x2, .int x3, .int x4, .int x5, .int (a1 * a2)] [] h6 Q)) Q))) Q)))) Q))) Q)))) Q))) Q)) := by
  rw [e_49_0]
  simp only [e_49_1, e_49_2, e_49_3, e_49_4, e_49_7, e_49_8, e_49_9, e_49_11, e_49_13, e_49_16, e_49_17, e_49_19, e_49_21, e_49_24, e_49_25, e_49_26, e_49_27, e_49_29, e_49_32, e_49_33, e_49_34, e_49_36, e_49_37, e_49_40, e_49_41, e_49_43, e_49_46, e_49_47, e_49_48, e_49_49, e_49_51, e_49_54, e_49_55, e_49_56, e_49_57, e_49_59, e_49_62, e_49_63, e_49_65, e_49_72, true_and, and_true, or_true, true_or]
set_option maxRecDepth 20000 in
theorem s_49_68 (r0 : Nat) (x1 : Int32) (x2 : Int32) (x3 : Int32) (x4 : Int32) (x5 : Int32) (x6 : Int32) (h : tH) (Q : tO → tH → Prop)  :
    AX 2 49 68 [.ref r0, .int x1, .int x2, .int x3, .int x4, .int x5, .int x6] [] h Q =
    AX 2 49 73 [.ref r0, .int x1, .int x2, .int x3, .int x4, .int x5, .int x6] [.int 1] h Q := by
  rw [e_49_68]
  simp only [e_49_69, true_and, and_true, or_true, true_or]
set_option maxRecDepth 20000 in
theorem s_49_73 (r0 : Nat) (x1 : Int32) (x2 : Int32) (x3 : Int32) (x4 : Int32) (x5 : Int32) (x6 : Int32) (u0 : Int32) (h : tH) (Q : tO → tH → Prop)  :
    AX 2 49 73 [.ref r0, .int x1, .int x2, .int x3, .int x4, .int x5, .int x6] [.int u0] h Q =
    (((u0 : Int32) = 0 ∨ (u0 : Int32) = 1) ∧ Q (.inl (some (.int u0))) h) := by
  rw [e_49_73]
theorem am_49 (r0 : Nat) (x1 : Int32) (x2 : Int32) (x3 : Int32) (x4 : Int32) (x5 : Int32) (h : tH) (Q : tO → tH → Prop) : AM 49 [.ref r0, .int x1, .int x2, .int x3, .int x4, .int x5] h Q = AX 2 49 0 [.ref r0, .int x1, .int x2, .int x3, .int x4, .int x5, .float 0] [] h Q := AM_at ta_49 _ _ _
-- X7_crosses
set_option maxRecDepth 20000 in
theorem s_51_0 (r0 : Nat) (x1 : Int32) (x2 : Int32) (x3 : Int32) (x4 : Int32) (h : tH) (Q : tO → tH → Prop)  :
    AX 2 51 0 [.ref r0, .int x1, .int x2, .int x3, .int x4] [] h Q =
    (t_ob r0 = some 6 ∧ AM 39 [.ref r0, .int x1, .int x2, .int x3] h (t_ki (fun a1 h1 => (t_ob r0 = some 6 ∧ AM 39 [.ref r0, .int x1, .int x2, .int x4] h1 (t_ki (fun a2 h2 => (if a1 = a2 then AX 2 51 41 [.ref r0, .int x1, .int x2, .int x3, .int x4] [] h2 Q else (t_ob r0 = some 6 ∧ AM 39 [.ref r0, .int x3, .int x4, .int x1] h2 (t_ki (fun a3 h3 => (t_ob r0 = some 6 ∧ AM 39 [.ref r0, .int x3, .int x4, .int x2] h3 (t_ki (fun a4 h4 => (if a3 = a4 then AX 2 51 41 [.ref r0, .int x1, .int x2, .int x3, .int x4] [] h4 Q else AX 2 51 42 [.ref r0, .int x1, .int x2, .int x3, .int x4] [.int 1] h4 Q)) Q))) Q)))) Q))) Q)) := by
  rw [e_51_0]
  simp only [e_51_1, e_51_2, e_51_3, e_51_4, e_51_7, e_51_8, e_51_9, e_51_10, e_51_12, e_51_15, e_51_18, e_51_19, e_51_20, e_51_22, e_51_23, e_51_26, e_51_27, e_51_28, e_51_30, e_51_31, e_51_34, e_51_37, e_51_38, true_and, and_true, or_true, true_or]
set_option maxRecDepth 20000 in
theorem s_51_41 (r0 : Nat) (x1 : Int32) (x2 : Int32) (x3 : Int32) (x4 : Int32) (h : tH) (Q : tO → tH → Prop)  :
    AX 2 51 41 [.ref r0, .int x1, .int x2, .int x3, .int x4] [] h Q =
    AX 2 51 42 [.ref r0, .int x1, .int x2, .int x3, .int x4] [.int 0] h Q := by
  rw [e_51_41]
set_option maxRecDepth 20000 in
theorem s_51_42 (r0 : Nat) (x1 : Int32) (x2 : Int32) (x3 : Int32) (x4 : Int32) (u0 : Int32) (h : tH) (Q : tO → tH → Prop)  :
    AX 2 51 42 [.ref r0, .int x1, .int x2, .int x3, .int x4] [.int u0] h Q =
    (((u0 : Int32) = 0 ∨ (u0 : Int32) = 1) ∧ Q (.inl (some (.int u0))) h) := by
  rw [e_51_42]
theorem am_51 (r0 : Nat) (x1 : Int32) (x2 : Int32) (x3 : Int32) (x4 : Int32) (h : tH) (Q : tO → tH → Prop) : AM 51 [.ref r0, .int x1, .int x2, .int x3, .int x4] h Q = AX 2 51 0 [.ref r0, .int x1, .int x2, .int x3, .int x4] [] h Q := AM_at ta_51 _ _ _
-- X7_noneWithin
set_option maxRecDepth 20000 in
theorem s_52_0 (r0 : Nat) (x1 : Int32) (x2 : Int32) (x3 : Int32) (h : tH) (Q : tO → tH → Prop)  :
    AX 3 52 0 [.ref r0, .int x1, .int x2, .int x3, .float 0] [] h Q =
    AX 3 52 3 [.ref r0, .int x1, .int x2, .int x3, .int 0] [] h Q := by
  rw [e_52_0]
  simp only [e_52_1, true_and, and_true, or_true, true_or]
set_option maxRecDepth 20000 in
theorem s_52_3 (r0 : Nat) (x1 : Int32) (x2 : Int32) (x3 : Int32) (x4 : Int32) (h : tH) (Q : tO → tH → Prop)  :
    AX 3 52 3 [.ref r0, .int x1, .int x2, .int x3, .int x4] [] h Q =
    (t_ob r0 = some 6 ∧ (if (h.1 r0 1) ≤ x4 then Q (.inl (some (.int 1))) h else (if x4 = x1 then AX 3 52 44 [.ref r0, .int x1, .int x2, .int x3, .int x4] [] h Q else (if x4 = x2 then AX 3 52 44 [.ref r0, .int x1, .int x2, .int x3, .int x4] [] h Q else (if x4 = x3 then AX 3 52 44 [.ref r0, .int x1, .int x2, .int x3, .int x4] [] h Q else (t_ob r0 = some 6 ∧ AM 53 [.ref r0, .int x4, .int x1, .int x2, .int x3] h (t_ki (fun a1 h1 => (if a1 = (0 : Int32) then AX 3 52 44 [.ref r0, .int x1, .int x2, .int x3, .int x4] [] h1 Q else Q (.inl (some (.int 0))) h1)) Q))))))) := by
  rw [e_52_3]
  simp only [e_52_5, e_52_6, e_52_9, e_52_50, e_52_51, t_z1, e_52_12, e_52_14, e_52_15, e_52_18, e_52_20, e_52_21, e_52_24, e_52_26, e_52_27, e_52_30, e_52_31, e_52_33, e_52_34, e_52_35, e_52_36, e_52_39, e_52_42, e_52_43, t_z0, true_and, and_true, or_true, true_or]
set_option maxRecDepth 20000 in
theorem s_52_44 (r0 : Nat) (x1 : Int32) (x2 : Int32) (x3 : Int32) (x4 : Int32) (h : tH) (Q : tO → tH → Prop)  :
    AX 3 52 44 [.ref r0, .int x1, .int x2, .int x3, .int x4] [] h Q =
    AX 3 52 3 [.ref r0, .int x1, .int x2, .int x3, .int (x4 + 1)] [] h Q := by
  rw [e_52_44]
  simp only [e_52_47, true_and, and_true, or_true, true_or]
theorem am_52 (r0 : Nat) (x1 : Int32) (x2 : Int32) (x3 : Int32) (h : tH) (Q : tO → tH → Prop) : AM 52 [.ref r0, .int x1, .int x2, .int x3] h Q = AX 3 52 0 [.ref r0, .int x1, .int x2, .int x3, .float 0] [] h Q := AM_at ta_52 _ _ _
-- X7_isWithin
set_option maxRecDepth 20000 in
theorem s_53_0 (r0 : Nat) (x1 : Int32) (x2 : Int32) (x3 : Int32) (x4 : Int32) (h : tH) (Q : tO → tH → Prop)  :
    AX 2 53 0 [.ref r0, .int x1, .int x2, .int x3, .int x4, .float 0] [] h Q =
    (t_ob r0 = some 6 ∧ AM 39 [.ref r0, .int x2, .int x3, .int x1] h (t_ki (fun a1 h1 => (t_ob r0 = some 6 ∧ AM 39 [.ref r0, .int x3, .int x4, .int x1] h1 (t_ki (fun a2 h2 => (if ¬ a2 = a1 then AX 2 53 39 [.ref r0, .int x1, .int x2, .int x3, .int x4, .int a1] [] h2 Q else (t_ob r0 = some 6 ∧ AM 39 [.ref r0, .int x4, .int x2, .int x1] h2 (t_ki (fun a3 h3 => (if ¬ a3 = a1 then AX 2 53 39 [.ref r0, .int x1, .int x2, .int x3, .int x4, .int a1] [] h3 Q else AX 2 53 40 [.ref r0, .int x1, .int x2, .int x3, .int x4, .int a1] [.int 1] h3 Q)) Q)))) Q))) Q)) := by
  rw [e_53_0]
  simp only [e_53_1, e_53_2, e_53_3, e_53_4, e_53_7, e_53_9, e_53_10, e_53_11, e_53_13, e_53_14, e_53_17, e_53_19, e_53_22, e_53_23, e_53_25, e_53_26, e_53_27, e_53_30, e_53_32, e_53_35, e_53_36, true_and, and_true, or_true, true_or]
set_option maxRecDepth 20000 in
theorem s_53_39 (r0 : Nat) (x1 : Int32) (x2 : Int32) (x3 : Int32) (x4 : Int32) (x5 : Int32) (h : tH) (Q : tO → tH → Prop)  :
    AX 2 53 39 [.ref r0, .int x1, .int x2, .int x3, .int x4, .int x5] [] h Q =
    AX 2 53 40 [.ref r0, .int x1, .int x2, .int x3, .int x4, .int x5] [.int 0] h Q := by
  rw [e_53_39]
set_option maxRecDepth 20000 in
theorem s_53_40 (r0 : Nat) (x1 : Int32) (x2 : Int32) (x3 : Int32) (x4 : Int32) (x5 : Int32) (u0 : Int32) (h : tH) (Q : tO → tH → Prop)  :
    AX 2 53 40 [.ref r0, .int x1, .int x2, .int x3, .int x4, .int x5] [.int u0] h Q =
    (((u0 : Int32) = 0 ∨ (u0 : Int32) = 1) ∧ Q (.inl (some (.int u0))) h) := by
  rw [e_53_40]
theorem am_53 (r0 : Nat) (x1 : Int32) (x2 : Int32) (x3 : Int32) (x4 : Int32) (h : tH) (Q : tO → tH → Prop) : AM 53 [.ref r0, .int x1, .int x2, .int x3, .int x4] h Q = AX 2 53 0 [.ref r0, .int x1, .int x2, .int x3, .int x4, .float 0] [] h Q := AM_at ta_53 _ _ _
-- X7_lesserSide
theorem b_54_23 (r0 : Nat) (x1 : Int32) (x2 : Int32) (x3 : Int32) (x4 : Int32) (u0 : Int32) (u1 : Int32) (h : tH) (Q : tO → tH → Prop) : AX 2 54 23 [.ref r0, .int x1, .int x2, .int x3, .int x4] [.int u0, .int u1] h Q = AX 2 54 29 [.ref r0, .int x1, .int x2, .int (if ¬ u1 = u0 then x3 else x3 + 1), .int x4] [] h Q := by
  simp only [e_54_23, e_54_26]
  repeat' split
  all_goals rfl
set_option maxRecDepth 20000 in
theorem s_54_0 (r0 : Nat) (x1 : Int32) (x2 : Int32) (h : tH) (Q : tO → tH → Prop)  :
    AX 2 54 0 [.ref r0, .int x1, .int x2, .float 0, .float 0] [] h Q =
    AX 2 54 5 [.ref r0, .int x1, .int x2, .int 0, .int 0] [] h Q := by
  rw [e_54_0]
  simp only [e_54_1, e_54_2, e_54_3, true_and, and_true, or_true, true_or]
set_option maxRecDepth 20000 in
theorem s_54_5 (r0 : Nat) (x1 : Int32) (x2 : Int32) (x3 : Int32) (x4 : Int32) (h : tH) (Q : tO → tH → Prop)  :
    AX 2 54 5 [.ref r0, .int x1, .int x2, .int x3, .int x4] [] h Q =
    (t_ob r0 = some 6 ∧ (if (h.1 r0 1) ≤ x4 then (t_ob r0 = some 6 ∧ Q (.inl (some (.int (if (((h.1 r0 1) - 2) - x3) < x3 then (((h.1 r0 1) - 2) - x3) else x3)))) h) else (t_ob r0 = some 6 ∧ AM 39 [.ref r0, .int x1, .int x2, .int x4] h (t_ki (fun a1 h1 => AX 2 54 5 [.ref r0, .int x1, .int x2, .int (if ¬ a1 = 1 then x3 else x3 + 1), .int (x4 + 1)] [] h1 Q) Q)))) := by
  rw [e_54_5]
  simp only [e_54_7, e_54_8, e_54_11, e_54_35, e_54_36, e_54_37, e_54_40, e_54_41, e_54_42, e_54_43, e_54_44, e_54_47, e_54_14, e_54_15, e_54_16, e_54_17, e_54_19, e_54_22, b_54_23, e_54_29, e_54_32, true_and, and_true, or_true, true_or]
theorem am_54 (r0 : Nat) (x1 : Int32) (x2 : Int32) (h : tH) (Q : tO → tH → Prop) : AM 54 [.ref r0, .int x1, .int x2] h Q = AX 2 54 0 [.ref r0, .int x1, .int x2, .float 0, .float 0] [] h Q := AM_at ta_54 _ _ _
