-- L_place
set_option maxRecDepth 20000 in
theorem s_172_0 (r0 : Nat) (x1 : Int32) (x2 : Int32) (r3 : Nat) (h : tH) (Q : tO → tH → Prop)  :
    AX 5 172 0 [.ref r0, .int x1, .int x2, .ref r3, .float 0] [] h Q =
    (t_ob r0 = some 0 ∧ AM 62 [.ref r0, .int x1, .int x2] h (t_kb tq_172 tq_62 5 172 5 [.ref r0, .int x1, .int x2, .ref r3, .float 0] [.int 0, .ref r3] Q)) := by
  rw [e_172_0]
  simp only [e_172_1, e_172_2, e_172_3, e_172_4, e_172_5, true_and, and_true, or_true, true_or]
set_option maxRecDepth 20000 in
theorem s_172_15 (r0 : Nat) (x1 : Int32) (x2 : Int32) (r3 : Nat) (h : tH) (Q : tO → tH → Prop)  :
    AX 5 172 15 [.ref r0, .int x1, .int x2, .ref r3, .float 0] [] h Q =
    Q (.inl (some (.int 1))) h := by
  rw [e_172_15]
  simp only [e_172_16, true_and, and_true, or_true, true_or]
set_option maxRecDepth 20000 in
theorem s_172_19 (r0 : Nat) (x1 : Int32) (x2 : Int32) (r3 : Nat) (h : tH) (Q : tO → tH → Prop)  :
    AX 5 172 19 [.ref r0, .int x1, .int x2, .ref r3, .float 0] [] h Q =
    Q (.inl (some (.int 2))) h := by
  rw [e_172_19]
  simp only [e_172_20, true_and, and_true, or_true, true_or]
theorem am_172 (r0 : Nat) (x1 : Int32) (x2 : Int32) (r3 : Nat) (h : tH) (Q : tO → tH → Prop) : AM 172 [.ref r0, .int x1, .int x2, .ref r3] h Q = AX 5 172 0 [.ref r0, .int x1, .int x2, .ref r3, .float 0] [] h Q := AM_at ta_172 _ _ _
-- L_letter
set_option maxRecDepth 20000 in
theorem s_173_0 (r0 : Nat) (x1 : Int32) (r2 : Nat) (h : tH) (Q : tO → tH → Prop)  :
    AX 3 173 0 [.ref r0, .int x1, .ref r2, .float 0] [] h Q =
    (t_ob r0 = some 0 ∧ AM 64 [.ref r0, .int x1] h (t_kb tq_173 tq_64 3 173 4 [.ref r0, .int x1, .ref r2, .float 0] [.int 0, .ref r2] Q)) := by
  rw [e_173_0]
  simp only [e_173_1, e_173_2, e_173_3, e_173_4, true_and, and_true, or_true, true_or]
set_option maxRecDepth 20000 in
theorem s_173_13 (r0 : Nat) (x1 : Int32) (r2 : Nat) (h : tH) (Q : tO → tH → Prop)  :
    AX 3 173 13 [.ref r0, .int x1, .ref r2, .float 0] [] h Q =
    Q (.inl (some (.int 1))) h := by
  rw [e_173_13]
  simp only [e_173_14, true_and, and_true, or_true, true_or]
set_option maxRecDepth 20000 in
theorem s_173_16 (r0 : Nat) (x1 : Int32) (r2 : Nat) (h : tH) (Q : tO → tH → Prop)  :
    AX 3 173 16 [.ref r0, .int x1, .ref r2, .float 0] [] h Q =
    Q (.inl (some (.int 2))) h := by
  rw [e_173_16]
  simp only [e_173_17, true_and, and_true, or_true, true_or]
theorem am_173 (r0 : Nat) (x1 : Int32) (r2 : Nat) (h : tH) (Q : tO → tH → Prop) : AM 173 [.ref r0, .int x1, .ref r2] h Q = AX 3 173 0 [.ref r0, .int x1, .ref r2, .float 0] [] h Q := AM_at ta_173 _ _ _
-- L_fault
set_option maxRecDepth 20000 in
theorem s_174_0 (r0 : Nat) (x1 : Int32) (r2 : Nat) (h : tH) (Q : tO → tH → Prop)  :
    AX 5 174 0 [.ref r0, .int x1, .ref r2, .float 0] [] h Q =
    (t_ob r0 = some 0 ∧ AM 66 [.ref r0, .int x1] h (t_kb tq_174 tq_66 5 174 4 [.ref r0, .int x1, .ref r2, .float 0] [.int 0, .ref r2] Q)) := by
  rw [e_174_0]
  simp only [e_174_1, e_174_2, e_174_3, e_174_4, true_and, and_true, or_true, true_or]
set_option maxRecDepth 20000 in
theorem s_174_13 (r0 : Nat) (x1 : Int32) (r2 : Nat) (h : tH) (Q : tO → tH → Prop)  :
    AX 5 174 13 [.ref r0, .int x1, .ref r2, .float 0] [] h Q =
    Q (.inl (some (.int 1))) h := by
  rw [e_174_13]
  simp only [e_174_14, true_and, and_true, or_true, true_or]
theorem am_174 (r0 : Nat) (x1 : Int32) (r2 : Nat) (h : tH) (Q : tO → tH → Prop) : AM 174 [.ref r0, .int x1, .ref r2] h Q = AX 5 174 0 [.ref r0, .int x1, .ref r2, .float 0] [] h Q := AM_at ta_174 _ _ _
-- L_draw
set_option maxRecDepth 20000 in
theorem s_175_0 (r0 : Nat) (r1 : Nat) (h : tH) (Q : tO → tH → Prop)  :
    AX 6 175 0 [.ref r0, .ref r1, .float 0] [] h Q =
    (t_ob r0 = some 0 ∧ AM 68 [.ref r0] h (t_kb tq_175 tq_68 6 175 3 [.ref r0, .ref r1, .float 0] [.int 0, .ref r1] Q)) := by
  rw [e_175_0]
  simp only [e_175_1, e_175_2, e_175_3, true_and, and_true, or_true, true_or]
set_option maxRecDepth 20000 in
theorem s_175_12 (r0 : Nat) (r1 : Nat) (h : tH) (Q : tO → tH → Prop)  :
    AX 6 175 12 [.ref r0, .ref r1, .float 0] [] h Q =
    Q (.inl (some (.int 1))) h := by
  rw [e_175_12]
  simp only [e_175_13, true_and, and_true, or_true, true_or]
theorem am_175 (r0 : Nat) (r1 : Nat) (h : tH) (Q : tO → tH → Prop) : AM 175 [.ref r0, .ref r1] h Q = AX 6 175 0 [.ref r0, .ref r1, .float 0] [] h Q := AM_at ta_175 _ _ _
-- L_wire
set_option maxRecDepth 20000 in
theorem s_176_0 (r0 : Nat) (x1 : Int32) (r2 : Nat) (h : tH) (Q : tO → tH → Prop)  :
    AX 5 176 0 [.ref r0, .int x1, .ref r2, .float 0] [] h Q =
    (t_ob r0 = some 0 ∧ AM 69 [.ref r0, .int x1] h (t_kb tq_176 tq_69 5 176 4 [.ref r0, .int x1, .ref r2, .float 0] [.int 0, .ref r2] Q)) := by
  rw [e_176_0]
  simp only [e_176_1, e_176_2, e_176_3, e_176_4, true_and, and_true, or_true, true_or]
set_option maxRecDepth 20000 in
theorem s_176_13 (r0 : Nat) (x1 : Int32) (r2 : Nat) (h : tH) (Q : tO → tH → Prop)  :
    AX 5 176 13 [.ref r0, .int x1, .ref r2, .float 0] [] h Q =
    Q (.inl (some (.int 1))) h := by
  rw [e_176_13]
  simp only [e_176_14, true_and, and_true, or_true, true_or]
set_option maxRecDepth 20000 in
theorem s_176_16 (r0 : Nat) (x1 : Int32) (r2 : Nat) (h : tH) (Q : tO → tH → Prop)  :
    AX 5 176 16 [.ref r0, .int x1, .ref r2, .float 0] [] h Q =
    Q (.inl (some (.int 2))) h := by
  rw [e_176_16]
  simp only [e_176_17, true_and, and_true, or_true, true_or]
theorem am_176 (r0 : Nat) (x1 : Int32) (r2 : Nat) (h : tH) (Q : tO → tH → Prop) : AM 176 [.ref r0, .int x1, .ref r2] h Q = AX 5 176 0 [.ref r0, .int x1, .ref r2, .float 0] [] h Q := AM_at ta_176 _ _ _
-- L_copy
set_option maxRecDepth 20000 in
theorem s_177_0 (r0 : Nat) (x1 : Int32) (x2 : Int32) (r3 : Nat) (h : tH) (Q : tO → tH → Prop)  :
    AX 4 177 0 [.ref r0, .int x1, .int x2, .ref r3, .float 0] [] h Q =
    (t_ob r0 = some 0 ∧ AM 70 [.ref r0, .int x1, .int x2] h (t_kb tq_177 tq_70 4 177 5 [.ref r0, .int x1, .int x2, .ref r3, .float 0] [.int 0, .ref r3] Q)) := by
  rw [e_177_0]
  simp only [e_177_1, e_177_2, e_177_3, e_177_4, e_177_5, true_and, and_true, or_true, true_or]
set_option maxRecDepth 20000 in
theorem s_177_15 (r0 : Nat) (x1 : Int32) (x2 : Int32) (r3 : Nat) (h : tH) (Q : tO → tH → Prop)  :
    AX 4 177 15 [.ref r0, .int x1, .int x2, .ref r3, .float 0] [] h Q =
    Q (.inl (some (.int 1))) h := by
  rw [e_177_15]
  simp only [e_177_16, true_and, and_true, or_true, true_or]
set_option maxRecDepth 20000 in
theorem s_177_19 (r0 : Nat) (x1 : Int32) (x2 : Int32) (r3 : Nat) (h : tH) (Q : tO → tH → Prop)  :
    AX 4 177 19 [.ref r0, .int x1, .int x2, .ref r3, .float 0] [] h Q =
    Q (.inl (some (.int 2))) h := by
  rw [e_177_19]
  simp only [e_177_20, true_and, and_true, or_true, true_or]
theorem am_177 (r0 : Nat) (x1 : Int32) (x2 : Int32) (r3 : Nat) (h : tH) (Q : tO → tH → Prop) : AM 177 [.ref r0, .int x1, .int x2, .ref r3] h Q = AX 4 177 0 [.ref r0, .int x1, .int x2, .ref r3, .float 0] [] h Q := AM_at ta_177 _ _ _
-- L_flip
set_option maxRecDepth 20000 in
theorem s_178_0 (r0 : Nat) (x1 : Int32) (x2 : Int32) (x3 : Int32) (x4 : Int32) (r5 : Nat) (h : tH) (Q : tO → tH → Prop)  :
    AX 7 178 0 [.ref r0, .int x1, .int x2, .int x3, .int x4, .ref r5, .float 0] [] h Q =
    (t_ob r0 = some 0 ∧ AM 71 [.ref r0, .int x1, .int x2, .int x3, .int x4] h (t_kb tq_178 tq_71 7 178 9 [.ref r0, .int x1, .int x2, .int x3, .int x4, .ref r5, .float 0] [.int 0, .ref r5] Q)) := by
  rw [e_178_0]
  simp only [e_178_2, e_178_3, e_178_4, e_178_5, e_178_6, e_178_7, e_178_9, true_and, and_true, or_true, true_or]
set_option maxRecDepth 20000 in
theorem s_178_20 (r0 : Nat) (x1 : Int32) (x2 : Int32) (x3 : Int32) (x4 : Int32) (r5 : Nat) (v0 : Int64) (u1 : Int32) (k2 : Nat) (h : tH) (Q : tO → tH → Prop)  :
    AX 7 178 20 [.ref r0, .int x1, .int x2, .int x3, .int x4, .ref r5, .float 0] [.long v0, .int u1, .ref k2] h Q =
    (t_in (t_lo k2) u1 ∧ Q (.inl (some (.int 0))) (t_L h k2 u1.toNatClampNeg v0)) := by
  rw [e_178_20]
  simp only [e_178_21, e_178_32, e_178_33, true_and, and_true, or_true, true_or]
set_option maxRecDepth 20000 in
theorem s_178_26 (r0 : Nat) (x1 : Int32) (x2 : Int32) (x3 : Int32) (x4 : Int32) (r5 : Nat) (h : tH) (Q : tO → tH → Prop)  :
    AX 7 178 26 [.ref r0, .int x1, .int x2, .int x3, .int x4, .ref r5, .float 0] [] h Q =
    Q (.inl (some (.int 1))) h := by
  rw [e_178_26]
  simp only [e_178_27, true_and, and_true, or_true, true_or]
set_option maxRecDepth 20000 in
theorem s_178_30 (r0 : Nat) (x1 : Int32) (x2 : Int32) (x3 : Int32) (x4 : Int32) (r5 : Nat) (h : tH) (Q : tO → tH → Prop)  :
    AX 7 178 30 [.ref r0, .int x1, .int x2, .int x3, .int x4, .ref r5, .float 0] [] h Q =
    Q (.inl (some (.int 2))) h := by
  rw [e_178_30]
  simp only [e_178_31, true_and, and_true, or_true, true_or]
theorem am_178 (r0 : Nat) (x1 : Int32) (x2 : Int32) (x3 : Int32) (x4 : Int32) (r5 : Nat) (h : tH) (Q : tO → tH → Prop) : AM 178 [.ref r0, .int x1, .int x2, .int x3, .int x4, .ref r5] h Q = AX 7 178 0 [.ref r0, .int x1, .int x2, .int x3, .int x4, .ref r5, .float 0] [] h Q := AM_at ta_178 _ _ _
-- L_rename
set_option maxRecDepth 20000 in
theorem s_179_0 (r0 : Nat) (x1 : Int32) (x2 : Int32) (x3 : Int32) (h : tH) (Q : tO → tH → Prop)  :
    AX 4 179 0 [.ref r0, .int x1, .int x2, .int x3, .float 0] [] h Q =
    (t_ob r0 = some 0 ∧ AM 72 [.ref r0, .int x1, .int x2, .int x3] h (t_kb tq_179 tq_72 4 179 4 [.ref r0, .int x1, .int x2, .int x3, .float 0] [] Q)) := by
  rw [e_179_0]
  simp only [e_179_1, e_179_2, e_179_3, e_179_4, true_and, and_true, or_true, true_or]
set_option maxRecDepth 20000 in
theorem s_179_12 (r0 : Nat) (x1 : Int32) (x2 : Int32) (x3 : Int32) (h : tH) (Q : tO → tH → Prop)  :
    AX 4 179 12 [.ref r0, .int x1, .int x2, .int x3, .float 0] [] h Q =
    Q (.inl (some (.int 1))) h := by
  rw [e_179_12]
  simp only [e_179_13, true_and, and_true, or_true, true_or]
set_option maxRecDepth 20000 in
theorem s_179_16 (r0 : Nat) (x1 : Int32) (x2 : Int32) (x3 : Int32) (h : tH) (Q : tO → tH → Prop)  :
    AX 4 179 16 [.ref r0, .int x1, .int x2, .int x3, .float 0] [] h Q =
    Q (.inl (some (.int 2))) h := by
  rw [e_179_16]
  simp only [e_179_17, true_and, and_true, or_true, true_or]
theorem am_179 (r0 : Nat) (x1 : Int32) (x2 : Int32) (x3 : Int32) (h : tH) (Q : tO → tH → Prop) : AM 179 [.ref r0, .int x1, .int x2, .int x3] h Q = AX 4 179 0 [.ref r0, .int x1, .int x2, .int x3, .float 0] [] h Q := AM_at ta_179 _ _ _
-- L_realize
set_option maxRecDepth 20000 in
theorem s_180_0 (r0 : Nat) (x1 : Int32) (r2 : Nat) (h : tH) (Q : tO → tH → Prop)  :
    AX 6 180 0 [.ref r0, .int x1, .ref r2, .float 0] [] h Q =
    (t_ob r0 = some 0 ∧ AM 73 [.ref r0, .int x1] h (t_kb tq_180 tq_73 6 180 4 [.ref r0, .int x1, .ref r2, .float 0] [.int 0, .ref r2] Q)) := by
  rw [e_180_0]
  simp only [e_180_1, e_180_2, e_180_3, e_180_4, true_and, and_true, or_true, true_or]
set_option maxRecDepth 20000 in
theorem s_180_15 (r0 : Nat) (x1 : Int32) (r2 : Nat) (v0 : Int64) (u1 : Int32) (k2 : Nat) (h : tH) (Q : tO → tH → Prop)  :
    AX 6 180 15 [.ref r0, .int x1, .ref r2, .float 0] [.long v0, .int u1, .ref k2] h Q =
    (t_in (t_lo k2) u1 ∧ Q (.inl (some (.int 0))) (t_L h k2 u1.toNatClampNeg v0)) := by
  rw [e_180_15]
  simp only [e_180_16, e_180_22, e_180_23, true_and, and_true, or_true, true_or]
set_option maxRecDepth 20000 in
theorem s_180_20 (r0 : Nat) (x1 : Int32) (r2 : Nat) (h : tH) (Q : tO → tH → Prop)  :
    AX 6 180 20 [.ref r0, .int x1, .ref r2, .float 0] [] h Q =
    Q (.inl (some (.int 1))) h := by
  rw [e_180_20]
  simp only [e_180_21, true_and, and_true, or_true, true_or]
theorem am_180 (r0 : Nat) (x1 : Int32) (r2 : Nat) (h : tH) (Q : tO → tH → Prop) : AM 180 [.ref r0, .int x1, .ref r2] h Q = AX 6 180 0 [.ref r0, .int x1, .ref r2, .float 0] [] h Q := AM_at ta_180 _ _ _
-- L_points
set_option maxRecDepth 20000 in
theorem s_181_0 (r0 : Nat) (x1 : Int32) (r2 : Nat) (h : tH) (Q : tO → tH → Prop)  :
    AX 3 181 0 [.ref r0, .int x1, .ref r2, .float 0] [] h Q =
    (t_ob r0 = some 0 ∧ AM 80 [.ref r0, .int x1] h (t_kb tq_181 tq_80 3 181 4 [.ref r0, .int x1, .ref r2, .float 0] [.int 0, .ref r2] Q)) := by
  rw [e_181_0]
  simp only [e_181_1, e_181_2, e_181_3, e_181_4, true_and, and_true, or_true, true_or]
set_option maxRecDepth 20000 in
theorem s_181_13 (r0 : Nat) (x1 : Int32) (r2 : Nat) (h : tH) (Q : tO → tH → Prop)  :
    AX 3 181 13 [.ref r0, .int x1, .ref r2, .float 0] [] h Q =
    Q (.inl (some (.int 1))) h := by
  rw [e_181_13]
  simp only [e_181_14, true_and, and_true, or_true, true_or]
theorem am_181 (r0 : Nat) (x1 : Int32) (r2 : Nat) (h : tH) (Q : tO → tH → Prop) : AM 181 [.ref r0, .int x1, .ref r2] h Q = AX 3 181 0 [.ref r0, .int x1, .ref r2, .float 0] [] h Q := AM_at ta_181 _ _ _
-- L_hasNumbers
set_option maxRecDepth 20000 in
theorem s_182_0 (r0 : Nat) (x1 : Int32) (r2 : Nat) (h : tH) (Q : tO → tH → Prop)  :
    AX 3 182 0 [.ref r0, .int x1, .ref r2, .float 0] [] h Q =
    (t_ob r0 = some 0 ∧ AM 81 [.ref r0, .int x1] h (t_kb tq_182 tq_81 3 182 4 [.ref r0, .int x1, .ref r2, .float 0] [.int 0, .ref r2] Q)) := by
  rw [e_182_0]
  simp only [e_182_1, e_182_2, e_182_3, e_182_4, true_and, and_true, or_true, true_or]
set_option maxRecDepth 20000 in
theorem s_182_15 (r0 : Nat) (x1 : Int32) (r2 : Nat) (v0 : Int64) (u1 : Int32) (k2 : Nat) (h : tH) (Q : tO → tH → Prop)  :
    AX 3 182 15 [.ref r0, .int x1, .ref r2, .float 0] [.long v0, .int u1, .ref k2] h Q =
    (t_in (t_lo k2) u1 ∧ Q (.inl (some (.int 0))) (t_L h k2 u1.toNatClampNeg v0)) := by
  rw [e_182_15]
  simp only [e_182_16, e_182_22, e_182_23, true_and, and_true, or_true, true_or]
set_option maxRecDepth 20000 in
theorem s_182_20 (r0 : Nat) (x1 : Int32) (r2 : Nat) (h : tH) (Q : tO → tH → Prop)  :
    AX 3 182 20 [.ref r0, .int x1, .ref r2, .float 0] [] h Q =
    Q (.inl (some (.int 1))) h := by
  rw [e_182_20]
  simp only [e_182_21, true_and, and_true, or_true, true_or]
theorem am_182 (r0 : Nat) (x1 : Int32) (r2 : Nat) (h : tH) (Q : tO → tH → Prop) : AM 182 [.ref r0, .int x1, .ref r2] h Q = AX 3 182 0 [.ref r0, .int x1, .ref r2, .float 0] [] h Q := AM_at ta_182 _ _ _
-- L_number
set_option maxRecDepth 20000 in
theorem s_183_0 (r0 : Nat) (x1 : Int32) (x2 : Int32) (x3 : Int32) (r4 : Nat) (h : tH) (Q : tO → tH → Prop)  :
    AX 3 183 0 [.ref r0, .int x1, .int x2, .int x3, .ref r4, .float 0] [] h Q =
    (t_ob r0 = some 0 ∧ AM 82 [.ref r0, .int x1, .int x2, .int x3] h (t_kb tq_183 tq_82 3 183 7 [.ref r0, .int x1, .int x2, .int x3, .ref r4, .float 0] [.int 0, .ref r4] Q)) := by
  rw [e_183_0]
  simp only [e_183_2, e_183_3, e_183_4, e_183_5, e_183_6, e_183_7, true_and, and_true, or_true, true_or]
set_option maxRecDepth 20000 in
theorem s_183_17 (r0 : Nat) (x1 : Int32) (x2 : Int32) (x3 : Int32) (r4 : Nat) (h : tH) (Q : tO → tH → Prop)  :
    AX 3 183 17 [.ref r0, .int x1, .int x2, .int x3, .ref r4, .float 0] [] h Q =
    Q (.inl (some (.int 1))) h := by
  rw [e_183_17]
  simp only [e_183_18, true_and, and_true, or_true, true_or]
set_option maxRecDepth 20000 in
theorem s_183_21 (r0 : Nat) (x1 : Int32) (x2 : Int32) (x3 : Int32) (r4 : Nat) (h : tH) (Q : tO → tH → Prop)  :
    AX 3 183 21 [.ref r0, .int x1, .int x2, .int x3, .ref r4, .float 0] [] h Q =
    Q (.inl (some (.int 2))) h := by
  rw [e_183_21]
  simp only [e_183_22, true_and, and_true, or_true, true_or]
theorem am_183 (r0 : Nat) (x1 : Int32) (x2 : Int32) (x3 : Int32) (r4 : Nat) (h : tH) (Q : tO → tH → Prop) : AM 183 [.ref r0, .int x1, .int x2, .int x3, .ref r4] h Q = AX 3 183 0 [.ref r0, .int x1, .int x2, .int x3, .ref r4, .float 0] [] h Q := AM_at ta_183 _ _ _
-- L_sign
set_option maxRecDepth 20000 in
theorem s_184_0 (r0 : Nat) (x1 : Int32) (x2 : Int32) (x3 : Int32) (x4 : Int32) (r5 : Nat) (h : tH) (Q : tO → tH → Prop)  :
    AX 3 184 0 [.ref r0, .int x1, .int x2, .int x3, .int x4, .ref r5, .float 0] [] h Q =
    (t_ob r0 = some 0 ∧ AM 83 [.ref r0, .int x1, .int x2, .int x3, .int x4] h (t_kb tq_184 tq_83 3 184 9 [.ref r0, .int x1, .int x2, .int x3, .int x4, .ref r5, .float 0] [.int 0, .ref r5] Q)) := by
  rw [e_184_0]
  simp only [e_184_2, e_184_3, e_184_4, e_184_5, e_184_6, e_184_7, e_184_9, true_and, and_true, or_true, true_or]
set_option maxRecDepth 20000 in
theorem s_184_19 (r0 : Nat) (x1 : Int32) (x2 : Int32) (x3 : Int32) (x4 : Int32) (r5 : Nat) (h : tH) (Q : tO → tH → Prop)  :
    AX 3 184 19 [.ref r0, .int x1, .int x2, .int x3, .int x4, .ref r5, .float 0] [] h Q =
    Q (.inl (some (.int 1))) h := by
  rw [e_184_19]
  simp only [e_184_20, true_and, and_true, or_true, true_or]
theorem am_184 (r0 : Nat) (x1 : Int32) (x2 : Int32) (x3 : Int32) (x4 : Int32) (r5 : Nat) (h : tH) (Q : tO → tH → Prop) : AM 184 [.ref r0, .int x1, .int x2, .int x3, .int x4, .ref r5] h Q = AX 3 184 0 [.ref r0, .int x1, .int x2, .int x3, .int x4, .ref r5, .float 0] [] h Q := AM_at ta_184 _ _ _
-- L_flips
set_option maxRecDepth 20000 in
theorem s_185_0 (r0 : Nat) (x1 : Int32) (r2 : Nat) (h : tH) (Q : tO → tH → Prop)  :
    AX 7 185 0 [.ref r0, .int x1, .ref r2, .float 0] [] h Q =
    (t_ob r0 = some 0 ∧ AM 84 [.ref r0, .int x1] h (t_kb tq_185 tq_84 7 185 4 [.ref r0, .int x1, .ref r2, .float 0] [.int 0, .ref r2] Q)) := by
  rw [e_185_0]
  simp only [e_185_1, e_185_2, e_185_3, e_185_4, true_and, and_true, or_true, true_or]
set_option maxRecDepth 20000 in
theorem s_185_13 (r0 : Nat) (x1 : Int32) (r2 : Nat) (h : tH) (Q : tO → tH → Prop)  :
    AX 7 185 13 [.ref r0, .int x1, .ref r2, .float 0] [] h Q =
    Q (.inl (some (.int 1))) h := by
  rw [e_185_13]
  simp only [e_185_14, true_and, and_true, or_true, true_or]
theorem am_185 (r0 : Nat) (x1 : Int32) (r2 : Nat) (h : tH) (Q : tO → tH → Prop) : AM 185 [.ref r0, .int x1, .ref r2] h Q = AX 7 185 0 [.ref r0, .int x1, .ref r2, .float 0] [] h Q := AM_at ta_185 _ _ _
-- L_hull
set_option maxRecDepth 20000 in
theorem s_186_0 (r0 : Nat) (x1 : Int32) (x2 : Int32) (r3 : Nat) (h : tH) (Q : tO → tH → Prop)  :
    AX 6 186 0 [.ref r0, .int x1, .int x2, .ref r3, .float 0] [] h Q =
    (t_ob r0 = some 0 ∧ AM 85 [.ref r0, .int x1, .int x2] h (t_kb tq_186 tq_85 6 186 5 [.ref r0, .int x1, .int x2, .ref r3, .float 0] [.int 0, .ref r3] Q)) := by
  rw [e_186_0]
  simp only [e_186_1, e_186_2, e_186_3, e_186_4, e_186_5, true_and, and_true, or_true, true_or]
set_option maxRecDepth 20000 in
theorem s_186_15 (r0 : Nat) (x1 : Int32) (x2 : Int32) (r3 : Nat) (h : tH) (Q : tO → tH → Prop)  :
    AX 6 186 15 [.ref r0, .int x1, .int x2, .ref r3, .float 0] [] h Q =
    Q (.inl (some (.int 1))) h := by
  rw [e_186_15]
  simp only [e_186_16, true_and, and_true, or_true, true_or]
theorem am_186 (r0 : Nat) (x1 : Int32) (x2 : Int32) (r3 : Nat) (h : tH) (Q : tO → tH → Prop) : AM 186 [.ref r0, .int x1, .int x2, .ref r3] h Q = AX 6 186 0 [.ref r0, .int x1, .int x2, .ref r3, .float 0] [] h Q := AM_at ta_186 _ _ _
-- L_layer
set_option maxRecDepth 20000 in
theorem s_187_0 (r0 : Nat) (x1 : Int32) (x2 : Int32) (r3 : Nat) (h : tH) (Q : tO → tH → Prop)  :
    AX 6 187 0 [.ref r0, .int x1, .int x2, .ref r3, .float 0] [] h Q =
    (t_ob r0 = some 0 ∧ AM 86 [.ref r0, .int x1, .int x2] h (t_kb tq_187 tq_86 6 187 5 [.ref r0, .int x1, .int x2, .ref r3, .float 0] [.int 0, .ref r3] Q)) := by
  rw [e_187_0]
  simp only [e_187_1, e_187_2, e_187_3, e_187_4, e_187_5, true_and, and_true, or_true, true_or]
set_option maxRecDepth 20000 in
theorem s_187_15 (r0 : Nat) (x1 : Int32) (x2 : Int32) (r3 : Nat) (h : tH) (Q : tO → tH → Prop)  :
    AX 6 187 15 [.ref r0, .int x1, .int x2, .ref r3, .float 0] [] h Q =
    Q (.inl (some (.int 1))) h := by
  rw [e_187_15]
  simp only [e_187_16, true_and, and_true, or_true, true_or]
theorem am_187 (r0 : Nat) (x1 : Int32) (x2 : Int32) (r3 : Nat) (h : tH) (Q : tO → tH → Prop) : AM 187 [.ref r0, .int x1, .int x2, .ref r3] h Q = AX 6 187 0 [.ref r0, .int x1, .int x2, .ref r3, .float 0] [] h Q := AM_at ta_187 _ _ _
-- L_cross
set_option maxRecDepth 20000 in
theorem s_188_0 (r0 : Nat) (x1 : Int32) (x2 : Int32) (x3 : Int32) (x4 : Int32) (x5 : Int32) (r6 : Nat) (h : tH) (Q : tO → tH → Prop)  :
    AX 4 188 0 [.ref r0, .int x1, .int x2, .int x3, .int x4, .int x5, .ref r6, .float 0] [] h Q =
    (t_ob r0 = some 0 ∧ AM 87 [.ref r0, .int x1, .int x2, .int x3, .int x4, .int x5] h (t_kb tq_188 tq_87 4 188 11 [.ref r0, .int x1, .int x2, .int x3, .int x4, .int x5, .ref r6, .float 0] [.int 0, .ref r6] Q)) := by
  rw [e_188_0]
  simp only [e_188_2, e_188_3, e_188_4, e_188_5, e_188_6, e_188_7, e_188_9, e_188_11, true_and, and_true, or_true, true_or]
set_option maxRecDepth 20000 in
theorem s_188_22 (r0 : Nat) (x1 : Int32) (x2 : Int32) (x3 : Int32) (x4 : Int32) (x5 : Int32) (r6 : Nat) (v0 : Int64) (u1 : Int32) (k2 : Nat) (h : tH) (Q : tO → tH → Prop)  :
    AX 4 188 22 [.ref r0, .int x1, .int x2, .int x3, .int x4, .int x5, .ref r6, .float 0] [.long v0, .int u1, .ref k2] h Q =
    (t_in (t_lo k2) u1 ∧ Q (.inl (some (.int 0))) (t_L h k2 u1.toNatClampNeg v0)) := by
  rw [e_188_22]
  simp only [e_188_23, e_188_34, e_188_35, true_and, and_true, or_true, true_or]
set_option maxRecDepth 20000 in
theorem s_188_28 (r0 : Nat) (x1 : Int32) (x2 : Int32) (x3 : Int32) (x4 : Int32) (x5 : Int32) (r6 : Nat) (h : tH) (Q : tO → tH → Prop)  :
    AX 4 188 28 [.ref r0, .int x1, .int x2, .int x3, .int x4, .int x5, .ref r6, .float 0] [] h Q =
    Q (.inl (some (.int 1))) h := by
  rw [e_188_28]
  simp only [e_188_29, true_and, and_true, or_true, true_or]
set_option maxRecDepth 20000 in
theorem s_188_32 (r0 : Nat) (x1 : Int32) (x2 : Int32) (x3 : Int32) (x4 : Int32) (x5 : Int32) (r6 : Nat) (h : tH) (Q : tO → tH → Prop)  :
    AX 4 188 32 [.ref r0, .int x1, .int x2, .int x3, .int x4, .int x5, .ref r6, .float 0] [] h Q =
    Q (.inl (some (.int 2))) h := by
  rw [e_188_32]
  simp only [e_188_33, true_and, and_true, or_true, true_or]
theorem am_188 (r0 : Nat) (x1 : Int32) (x2 : Int32) (x3 : Int32) (x4 : Int32) (x5 : Int32) (r6 : Nat) (h : tH) (Q : tO → tH → Prop) : AM 188 [.ref r0, .int x1, .int x2, .int x3, .int x4, .int x5, .ref r6] h Q = AX 4 188 0 [.ref r0, .int x1, .int x2, .int x3, .int x4, .int x5, .ref r6, .float 0] [] h Q := AM_at ta_188 _ _ _
-- L_crossings
set_option maxRecDepth 20000 in
theorem s_189_0 (r0 : Nat) (x1 : Int32) (r2 : Nat) (h : tH) (Q : tO → tH → Prop)  :
    AX 6 189 0 [.ref r0, .int x1, .ref r2, .float 0] [] h Q =
    (t_ob r0 = some 0 ∧ AM 88 [.ref r0, .int x1] h (t_kb tq_189 tq_88 6 189 4 [.ref r0, .int x1, .ref r2, .float 0] [.int 0, .ref r2] Q)) := by
  rw [e_189_0]
  simp only [e_189_1, e_189_2, e_189_3, e_189_4, true_and, and_true, or_true, true_or]
set_option maxRecDepth 20000 in
theorem s_189_13 (r0 : Nat) (x1 : Int32) (r2 : Nat) (h : tH) (Q : tO → tH → Prop)  :
    AX 6 189 13 [.ref r0, .int x1, .ref r2, .float 0] [] h Q =
    Q (.inl (some (.int 1))) h := by
  rw [e_189_13]
  simp only [e_189_14, true_and, and_true, or_true, true_or]
theorem am_189 (r0 : Nat) (x1 : Int32) (r2 : Nat) (h : tH) (Q : tO → tH → Prop) : AM 189 [.ref r0, .int x1, .ref r2] h Q = AX 6 189 0 [.ref r0, .int x1, .ref r2, .float 0] [] h Q := AM_at ta_189 _ _ _
-- L_empties
set_option maxRecDepth 20000 in
theorem s_190_0 (r0 : Nat) (x1 : Int32) (r2 : Nat) (h : tH) (Q : tO → tH → Prop)  :
    AX 5 190 0 [.ref r0, .int x1, .ref r2, .float 0] [] h Q =
    (t_ob r0 = some 0 ∧ AM 89 [.ref r0, .int x1] h (t_kb tq_190 tq_89 5 190 4 [.ref r0, .int x1, .ref r2, .float 0] [.int 0, .ref r2] Q)) := by
  rw [e_190_0]
  simp only [e_190_1, e_190_2, e_190_3, e_190_4, true_and, and_true, or_true, true_or]
set_option maxRecDepth 20000 in
theorem s_190_13 (r0 : Nat) (x1 : Int32) (r2 : Nat) (h : tH) (Q : tO → tH → Prop)  :
    AX 5 190 13 [.ref r0, .int x1, .ref r2, .float 0] [] h Q =
    Q (.inl (some (.int 1))) h := by
  rw [e_190_13]
  simp only [e_190_14, true_and, and_true, or_true, true_or]
theorem am_190 (r0 : Nat) (x1 : Int32) (r2 : Nat) (h : tH) (Q : tO → tH → Prop) : AM 190 [.ref r0, .int x1, .ref r2] h Q = AX 5 190 0 [.ref r0, .int x1, .ref r2, .float 0] [] h Q := AM_at ta_190 _ _ _
-- L_level
set_option maxRecDepth 20000 in
theorem s_191_0 (r0 : Nat) (x1 : Int32) (x2 : Int32) (r3 : Nat) (h : tH) (Q : tO → tH → Prop)  :
    AX 4 191 0 [.ref r0, .int x1, .int x2, .ref r3, .float 0] [] h Q =
    (t_ob r0 = some 0 ∧ AM 90 [.ref r0, .int x1, .int x2] h (t_kb tq_191 tq_90 4 191 5 [.ref r0, .int x1, .int x2, .ref r3, .float 0] [.int 0, .ref r3] Q)) := by
  rw [e_191_0]
  simp only [e_191_1, e_191_2, e_191_3, e_191_4, e_191_5, true_and, and_true, or_true, true_or]
set_option maxRecDepth 20000 in
theorem s_191_15 (r0 : Nat) (x1 : Int32) (x2 : Int32) (r3 : Nat) (h : tH) (Q : tO → tH → Prop)  :
    AX 4 191 15 [.ref r0, .int x1, .int x2, .ref r3, .float 0] [] h Q =
    Q (.inl (some (.int 1))) h := by
  rw [e_191_15]
  simp only [e_191_16, true_and, and_true, or_true, true_or]
set_option maxRecDepth 20000 in
theorem s_191_19 (r0 : Nat) (x1 : Int32) (x2 : Int32) (r3 : Nat) (h : tH) (Q : tO → tH → Prop)  :
    AX 4 191 19 [.ref r0, .int x1, .int x2, .ref r3, .float 0] [] h Q =
    Q (.inl (some (.int 2))) h := by
  rw [e_191_19]
  simp only [e_191_20, true_and, and_true, or_true, true_or]
theorem am_191 (r0 : Nat) (x1 : Int32) (x2 : Int32) (r3 : Nat) (h : tH) (Q : tO → tH → Prop) : AM 191 [.ref r0, .int x1, .int x2, .ref r3] h Q = AX 4 191 0 [.ref r0, .int x1, .int x2, .ref r3, .float 0] [] h Q := AM_at ta_191 _ _ _
-- L_matchings
set_option maxRecDepth 20000 in
theorem s_192_0 (r0 : Nat) (x1 : Int32) (x2 : Int32) (r3 : Nat) (h : tH) (Q : tO → tH → Prop)  :
    AX 36 192 0 [.ref r0, .int x1, .int x2, .ref r3, .float 0] [] h Q =
    (t_ob r0 = some 0 ∧ AM 91 [.ref r0, .int x1, .int x2] h (t_kb tq_192 tq_91 36 192 5 [.ref r0, .int x1, .int x2, .ref r3, .float 0] [.int 0, .ref r3] Q)) := by
  rw [e_192_0]
  simp only [e_192_1, e_192_2, e_192_3, e_192_4, e_192_5, true_and, and_true, or_true, true_or]
set_option maxRecDepth 20000 in
theorem s_192_15 (r0 : Nat) (x1 : Int32) (x2 : Int32) (r3 : Nat) (h : tH) (Q : tO → tH → Prop)  :
    AX 36 192 15 [.ref r0, .int x1, .int x2, .ref r3, .float 0] [] h Q =
    Q (.inl (some (.int 1))) h := by
  rw [e_192_15]
  simp only [e_192_16, true_and, and_true, or_true, true_or]
set_option maxRecDepth 20000 in
theorem s_192_19 (r0 : Nat) (x1 : Int32) (x2 : Int32) (r3 : Nat) (h : tH) (Q : tO → tH → Prop)  :
    AX 36 192 19 [.ref r0, .int x1, .int x2, .ref r3, .float 0] [] h Q =
    Q (.inl (some (.int 2))) h := by
  rw [e_192_19]
  simp only [e_192_20, true_and, and_true, or_true, true_or]
theorem am_192 (r0 : Nat) (x1 : Int32) (x2 : Int32) (r3 : Nat) (h : tH) (Q : tO → tH → Prop) : AM 192 [.ref r0, .int x1, .int x2, .ref r3] h Q = AX 36 192 0 [.ref r0, .int x1, .int x2, .ref r3, .float 0] [] h Q := AM_at ta_192 _ _ _
-- L_paths
set_option maxRecDepth 20000 in
theorem s_193_0 (r0 : Nat) (x1 : Int32) (r2 : Nat) (h : tH) (Q : tO → tH → Prop)  :
    AX 35 193 0 [.ref r0, .int x1, .ref r2, .float 0] [] h Q =
    (t_ob r0 = some 0 ∧ AM 92 [.ref r0, .int x1] h (t_kb tq_193 tq_92 35 193 4 [.ref r0, .int x1, .ref r2, .float 0] [.int 0, .ref r2] Q)) := by
  rw [e_193_0]
  simp only [e_193_1, e_193_2, e_193_3, e_193_4, true_and, and_true, or_true, true_or]
set_option maxRecDepth 20000 in
theorem s_193_13 (r0 : Nat) (x1 : Int32) (r2 : Nat) (h : tH) (Q : tO → tH → Prop)  :
    AX 35 193 13 [.ref r0, .int x1, .ref r2, .float 0] [] h Q =
    Q (.inl (some (.int 1))) h := by
  rw [e_193_13]
  simp only [e_193_14, true_and, and_true, or_true, true_or]
theorem am_193 (r0 : Nat) (x1 : Int32) (r2 : Nat) (h : tH) (Q : tO → tH → Prop) : AM 193 [.ref r0, .int x1, .ref r2] h Q = AX 35 193 0 [.ref r0, .int x1, .ref r2, .float 0] [] h Q := AM_at ta_193 _ _ _
-- L_extensions
set_option maxRecDepth 20000 in
theorem s_194_0 (r0 : Nat) (x1 : Int32) (r2 : Nat) (h : tH) (Q : tO → tH → Prop)  :
    AX 38 194 0 [.ref r0, .int x1, .ref r2, .float 0] [] h Q =
    (t_ob r0 = some 0 ∧ AM 93 [.ref r0, .int x1] h (t_kb tq_194 tq_93 38 194 4 [.ref r0, .int x1, .ref r2, .float 0] [.int 0, .ref r2] Q)) := by
  rw [e_194_0]
  simp only [e_194_1, e_194_2, e_194_3, e_194_4, true_and, and_true, or_true, true_or]
set_option maxRecDepth 20000 in
theorem s_194_13 (r0 : Nat) (x1 : Int32) (r2 : Nat) (h : tH) (Q : tO → tH → Prop)  :
    AX 38 194 13 [.ref r0, .int x1, .ref r2, .float 0] [] h Q =
    Q (.inl (some (.int 1))) h := by
  rw [e_194_13]
  simp only [e_194_14, true_and, and_true, or_true, true_or]
set_option maxRecDepth 20000 in
theorem s_194_16 (r0 : Nat) (x1 : Int32) (r2 : Nat) (h : tH) (Q : tO → tH → Prop)  :
    AX 38 194 16 [.ref r0, .int x1, .ref r2, .float 0] [] h Q =
    Q (.inl (some (.int 2))) h := by
  rw [e_194_16]
  simp only [e_194_17, true_and, and_true, or_true, true_or]
theorem am_194 (r0 : Nat) (x1 : Int32) (r2 : Nat) (h : tH) (Q : tO → tH → Prop) : AM 194 [.ref r0, .int x1, .ref r2] h Q = AX 38 194 0 [.ref r0, .int x1, .ref r2, .float 0] [] h Q := AM_at ta_194 _ _ _
-- L_canonical
set_option maxRecDepth 20000 in
theorem s_195_0 (r0 : Nat) (x1 : Int32) (x2 : Int32) (r3 : Nat) (h : tH) (Q : tO → tH → Prop)  :
    AX 38 195 0 [.ref r0, .int x1, .int x2, .ref r3, .float 0] [] h Q =
    (t_ob r0 = some 0 ∧ AM 94 [.ref r0, .int x1, .int x2] h (t_kb tq_195 tq_94 38 195 5 [.ref r0, .int x1, .int x2, .ref r3, .float 0] [.int 0, .ref r3] Q)) := by
  rw [e_195_0]
  simp only [e_195_1, e_195_2, e_195_3, e_195_4, e_195_5, true_and, and_true, or_true, true_or]
set_option maxRecDepth 20000 in
theorem s_195_14 (r0 : Nat) (x1 : Int32) (x2 : Int32) (r3 : Nat) (h : tH) (Q : tO → tH → Prop)  :
    AX 38 195 14 [.ref r0, .int x1, .int x2, .ref r3, .float 0] [] h Q =
    Q (.inl (some (.int 1))) h := by
  rw [e_195_14]
  simp only [e_195_15, true_and, and_true, or_true, true_or]
theorem am_195 (r0 : Nat) (x1 : Int32) (x2 : Int32) (r3 : Nat) (h : tH) (Q : tO → tH → Prop) : AM 195 [.ref r0, .int x1, .int x2, .ref r3] h Q = AX 38 195 0 [.ref r0, .int x1, .int x2, .ref r3, .float 0] [] h Q := AM_at ta_195 _ _ _
-- L_triangulate
set_option maxRecDepth 20000 in
theorem s_196_0 (r0 : Nat) (x1 : Int32) (r2 : Nat) (h : tH) (Q : tO → tH → Prop)  :
    AX 6 196 0 [.ref r0, .int x1, .ref r2, .float 0] [] h Q =
    (t_ob r0 = some 0 ∧ AM 95 [.ref r0, .int x1] h (t_kb tq_196 tq_95 6 196 4 [.ref r0, .int x1, .ref r2, .float 0] [.int 0, .ref r2] Q)) := by
  rw [e_196_0]
  simp only [e_196_1, e_196_2, e_196_3, e_196_4, true_and, and_true, or_true, true_or]
set_option maxRecDepth 20000 in
theorem s_196_13 (r0 : Nat) (x1 : Int32) (r2 : Nat) (h : tH) (Q : tO → tH → Prop)  :
    AX 6 196 13 [.ref r0, .int x1, .ref r2, .float 0] [] h Q =
    Q (.inl (some (.int 1))) h := by
  rw [e_196_13]
  simp only [e_196_14, true_and, and_true, or_true, true_or]
theorem am_196 (r0 : Nat) (x1 : Int32) (r2 : Nat) (h : tH) (Q : tO → tH → Prop) : AM 196 [.ref r0, .int x1, .ref r2] h Q = AX 6 196 0 [.ref r0, .int x1, .ref r2, .float 0] [] h Q := AM_at ta_196 _ _ _
-- L_flipEdge
set_option maxRecDepth 20000 in
theorem s_197_0 (r0 : Nat) (x1 : Int32) (x2 : Int32) (x3 : Int32) (r4 : Nat) (h : tH) (Q : tO → tH → Prop)  :
    AX 6 197 0 [.ref r0, .int x1, .int x2, .int x3, .ref r4, .float 0] [] h Q =
    (t_ob r0 = some 0 ∧ AM 96 [.ref r0, .int x1, .int x2, .int x3] h (t_kb tq_197 tq_96 6 197 7 [.ref r0, .int x1, .int x2, .int x3, .ref r4, .float 0] [.int 0, .ref r4] Q)) := by
  rw [e_197_0]
  simp only [e_197_2, e_197_3, e_197_4, e_197_5, e_197_6, e_197_7, true_and, and_true, or_true, true_or]
set_option maxRecDepth 20000 in
theorem s_197_17 (r0 : Nat) (x1 : Int32) (x2 : Int32) (x3 : Int32) (r4 : Nat) (h : tH) (Q : tO → tH → Prop)  :
    AX 6 197 17 [.ref r0, .int x1, .int x2, .int x3, .ref r4, .float 0] [] h Q =
    Q (.inl (some (.int 1))) h := by
  rw [e_197_17]
  simp only [e_197_18, true_and, and_true, or_true, true_or]
set_option maxRecDepth 20000 in
theorem s_197_21 (r0 : Nat) (x1 : Int32) (x2 : Int32) (x3 : Int32) (r4 : Nat) (h : tH) (Q : tO → tH → Prop)  :
    AX 6 197 21 [.ref r0, .int x1, .int x2, .int x3, .ref r4, .float 0] [] h Q =
    Q (.inl (some (.int 2))) h := by
  rw [e_197_21]
  simp only [e_197_22, true_and, and_true, or_true, true_or]
theorem am_197 (r0 : Nat) (x1 : Int32) (x2 : Int32) (x3 : Int32) (r4 : Nat) (h : tH) (Q : tO → tH → Prop) : AM 197 [.ref r0, .int x1, .int x2, .int x3, .ref r4] h Q = AX 6 197 0 [.ref r0, .int x1, .int x2, .int x3, .ref r4, .float 0] [] h Q := AM_at ta_197 _ _ _
-- L_edge
set_option maxRecDepth 20000 in
theorem s_198_0 (r0 : Nat) (x1 : Int32) (x2 : Int32) (x3 : Int32) (r4 : Nat) (h : tH) (Q : tO → tH → Prop)  :
    AX 4 198 0 [.ref r0, .int x1, .int x2, .int x3, .ref r4, .float 0] [] h Q =
    (t_ob r0 = some 0 ∧ AM 97 [.ref r0, .int x1, .int x2, .int x3] h (t_kb tq_198 tq_97 4 198 7 [.ref r0, .int x1, .int x2, .int x3, .ref r4, .float 0] [.int 0, .ref r4] Q)) := by
  rw [e_198_0]
  simp only [e_198_2, e_198_3, e_198_4, e_198_5, e_198_6, e_198_7, true_and, and_true, or_true, true_or]
set_option maxRecDepth 20000 in
theorem s_198_18 (r0 : Nat) (x1 : Int32) (x2 : Int32) (x3 : Int32) (r4 : Nat) (v0 : Int64) (u1 : Int32) (k2 : Nat) (h : tH) (Q : tO → tH → Prop)  :
    AX 4 198 18 [.ref r0, .int x1, .int x2, .int x3, .ref r4, .float 0] [.long v0, .int u1, .ref k2] h Q =
    (t_in (t_lo k2) u1 ∧ Q (.inl (some (.int 0))) (t_L h k2 u1.toNatClampNeg v0)) := by
  rw [e_198_18]
  simp only [e_198_19, e_198_26, e_198_27, true_and, and_true, or_true, true_or]
set_option maxRecDepth 20000 in
theorem s_198_24 (r0 : Nat) (x1 : Int32) (x2 : Int32) (x3 : Int32) (r4 : Nat) (h : tH) (Q : tO → tH → Prop)  :
    AX 4 198 24 [.ref r0, .int x1, .int x2, .int x3, .ref r4, .float 0] [] h Q =
    Q (.inl (some (.int 1))) h := by
  rw [e_198_24]
  simp only [e_198_25, true_and, and_true, or_true, true_or]
theorem am_198 (r0 : Nat) (x1 : Int32) (x2 : Int32) (x3 : Int32) (r4 : Nat) (h : tH) (Q : tO → tH → Prop) : AM 198 [.ref r0, .int x1, .int x2, .int x3, .ref r4] h Q = AX 4 198 0 [.ref r0, .int x1, .int x2, .int x3, .ref r4, .float 0] [] h Q := AM_at ta_198 _ _ _
-- L_triangulations
set_option maxRecDepth 20000 in
theorem s_199_0 (r0 : Nat) (x1 : Int32) (r2 : Nat) (h : tH) (Q : tO → tH → Prop)  :
    AX 34 199 0 [.ref r0, .int x1, .ref r2, .float 0] [] h Q =
    (t_ob r0 = some 0 ∧ AM 98 [.ref r0, .int x1] h (t_kb tq_199 tq_98 34 199 4 [.ref r0, .int x1, .ref r2, .float 0] [.int 0, .ref r2] Q)) := by
  rw [e_199_0]
  simp only [e_199_1, e_199_2, e_199_3, e_199_4, true_and, and_true, or_true, true_or]
set_option maxRecDepth 20000 in
theorem s_199_13 (r0 : Nat) (x1 : Int32) (r2 : Nat) (h : tH) (Q : tO → tH → Prop)  :
    AX 34 199 13 [.ref r0, .int x1, .ref r2, .float 0] [] h Q =
    Q (.inl (some (.int 1))) h := by
  rw [e_199_13]
  simp only [e_199_14, true_and, and_true, or_true, true_or]
set_option maxRecDepth 20000 in
theorem s_199_16 (r0 : Nat) (x1 : Int32) (r2 : Nat) (h : tH) (Q : tO → tH → Prop)  :
    AX 34 199 16 [.ref r0, .int x1, .ref r2, .float 0] [] h Q =
    Q (.inl (some (.int 2))) h := by
  rw [e_199_16]
  simp only [e_199_17, true_and, and_true, or_true, true_or]
theorem am_199 (r0 : Nat) (x1 : Int32) (r2 : Nat) (h : tH) (Q : tO → tH → Prop) : AM 199 [.ref r0, .int x1, .ref r2] h Q = AX 34 199 0 [.ref r0, .int x1, .ref r2, .float 0] [] h Q := AM_at ta_199 _ _ _
