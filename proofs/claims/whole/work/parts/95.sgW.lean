-- the law
theorem b_200_499 (r0 : Nat) (r1 : Nat) (r2 : Nat) (r3 : Nat) (x4 : Int32) (w5 : Value) (w6 : Value) (u0 : Int32) (u1 : Int32) (k2 : Nat) (h : tH) (Q : tO → tH → Prop) : AX 39 200 499 [.ref r0, .ref r1, .ref r2, .ref r3, .int x4, w5, w6, .float 0] [.int u0, .int u1, .ref k2] h Q = AX 39 200 507 [.ref r0, .ref r1, .ref r2, .ref r3, .int x4, w5, w6, .float 0] [.int (if u0 = (0 : Int32) then (0 : Int32) else 1), .int u1, .ref k2] h Q := by
  simp only [e_200_499, e_200_502, e_200_503, e_200_506]
  repeat' split
  all_goals rfl
theorem b_200_526 (r0 : Nat) (r1 : Nat) (r2 : Nat) (r3 : Nat) (x4 : Int32) (x5 : Int32) (w6 : Value) (u0 : Int32) (u1 : Int32) (k2 : Nat) (h : tH) (Q : tO → tH → Prop) : AX 39 200 526 [.ref r0, .ref r1, .ref r2, .ref r3, .int x4, .int x5, w6, .float 0] [.int u0, .int u1, .ref k2] h Q = AX 39 200 534 [.ref r0, .ref r1, .ref r2, .ref r3, .int x4, .int x5, w6, .float 0] [.int (if u0 = (0 : Int32) then (0 : Int32) else 1), .int u1, .ref k2] h Q := by
  simp only [e_200_526, e_200_529, e_200_530, e_200_533]
  repeat' split
  all_goals rfl
theorem b_200_943 (r0 : Nat) (r1 : Nat) (r2 : Nat) (r3 : Nat) (x4 : Int32) (w5 : Value) (w6 : Value) (u0 : Int32) (u1 : Int32) (u2 : Int32) (k3 : Nat) (h : tH) (Q : tO → tH → Prop) : AX 39 200 943 [.ref r0, .ref r1, .ref r2, .ref r3, .int x4, w5, w6, .float 0] [.int u0, .int u1, .int u2, .ref k3] h Q = AX 39 200 951 [.ref r0, .ref r1, .ref r2, .ref r3, .int x4, w5, w6, .float 0] [.int (if u0 = (0 : Int32) then (0 : Int32) else 1), .int u1, .int u2, .ref k3] h Q := by
  simp only [e_200_943, e_200_946, e_200_947, e_200_950]
  repeat' split
  all_goals rfl
theorem b_200_976 (r0 : Nat) (r1 : Nat) (r2 : Nat) (r3 : Nat) (x4 : Int32) (x5 : Int32) (w6 : Value) (u0 : Int32) (u1 : Int32) (u2 : Int32) (k3 : Nat) (h : tH) (Q : tO → tH → Prop) : AX 39 200 976 [.ref r0, .ref r1, .ref r2, .ref r3, .int x4, .int x5, w6, .float 0] [.int u0, .int u1, .int u2, .ref k3] h Q = AX 39 200 984 [.ref r0, .ref r1, .ref r2, .ref r3, .int x4, .int x5, w6, .float 0] [.int (if u0 = (0 : Int32) then (0 : Int32) else 1), .int u1, .int u2, .ref k3] h Q := by
  simp only [e_200_976, e_200_979, e_200_980, e_200_983]
  repeat' split
  all_goals rfl
theorem b_200_1788 (r0 : Nat) (r1 : Nat) (r2 : Nat) (r3 : Nat) (x4 : Int32) (w5 : Value) (w6 : Value) (u0 : Int32) (u1 : Int32) (k2 : Nat) (h : tH) (Q : tO → tH → Prop) : AX 39 200 1788 [.ref r0, .ref r1, .ref r2, .ref r3, .int x4, w5, w6, .float 0] [.int u0, .int u1, .ref k2] h Q = AX 39 200 1796 [.ref r0, .ref r1, .ref r2, .ref r3, .int x4, w5, w6, .float 0] [.int (if u0 = (0 : Int32) then (0 : Int32) else 1), .int u1, .ref k2] h Q := by
  simp only [e_200_1788, e_200_1791, e_200_1792, e_200_1795]
  repeat' split
  all_goals rfl
theorem b_200_1815 (r0 : Nat) (r1 : Nat) (r2 : Nat) (r3 : Nat) (x4 : Int32) (x5 : Int32) (w6 : Value) (u0 : Int32) (u1 : Int32) (k2 : Nat) (h : tH) (Q : tO → tH → Prop) : AX 39 200 1815 [.ref r0, .ref r1, .ref r2, .ref r3, .int x4, .int x5, w6, .float 0] [.int u0, .int u1, .ref k2] h Q = AX 39 200 1823 [.ref r0, .ref r1, .ref r2, .ref r3, .int x4, .int x5, w6, .float 0] [.int (if u0 = (0 : Int32) then (0 : Int32) else 1), .int u1, .ref k2] h Q := by
  simp only [e_200_1815, e_200_1818, e_200_1819, e_200_1822]
  repeat' split
  all_goals rfl
set_option maxRecDepth 20000 in
theorem s_200_20 (r0 : Nat) (r1 : Nat) (r2 : Nat) (r3 : Nat) (h : tH) (Q : tO → tH → Prop)  :
    AX 39 200 20 [.ref r0, .ref r1, .ref r2, .ref r3, .float 0, .float 0, .float 0, .float 0] [] h Q =
    AX 39 200 23 [.ref r0, .ref r1, .ref r2, .ref r3, .int 0, .float 0, .float 0, .float 0] [] h Q := by
  rw [e_200_20]
  simp only [e_200_21, true_and, and_true, or_true, true_or]
set_option maxRecDepth 20000 in
theorem s_200_23 (r0 : Nat) (r1 : Nat) (r2 : Nat) (r3 : Nat) (x4 : Int32) (w5 : Value) (w6 : Value) (h : tH) (Q : tO → tH → Prop) (nL : Nat) (hL : t_ln h r0 = some nL) :
    AX 39 200 23 [.ref r0, .ref r1, .ref r2, .ref r3, .int x4, w5, w6, .float 0] [] h Q =
    (if ((Int32.ofNat nL) - 6) < x4 then Q (.inl (some (.int 1))) h else (t_in (t_ai h r0) x4 ∧ AX 39 200 40 [.ref r0, .ref r1, .ref r2, .ref r3, .int x4, w5, w6, .float 0] [.int ((h.1 r0 x4.toNatClampNeg) &&& 31)] h Q)) := by
  rw [e_200_23]
  simp only [e_200_25, e_200_26 (hL := hL), e_200_27, e_200_29, e_200_30, e_200_2143, e_200_2144, t_z1, e_200_33, e_200_34, e_200_36, e_200_37, e_200_39, true_and, and_true, or_true, true_or]
set_option maxRecDepth 20000 in
theorem s_200_180 (r0 : Nat) (r1 : Nat) (r2 : Nat) (r3 : Nat) (x4 : Int32) (w5 : Value) (w6 : Value) (h : tH) (Q : tO → tH → Prop)  :
    AX 39 200 180 [.ref r0, .ref r1, .ref r2, .ref r3, .int x4, w5, w6, .float 0] [] h Q =
    (t_in (t_ai h r0) (x4 + 1) ∧ (t_in (t_ai h r0) (x4 + 2) ∧ AM 172 [.ref r1, .int (h.1 r0 (x4 + 1).toNatClampNeg), .int (h.1 r0 (x4 + 2).toNatClampNeg), .ref r3] h (t_ki (fun a1 h1 => (t_in (t_ai h1 r0) (x4 + 1) ∧ (t_in (t_ai h1 r0) (x4 + 2) ∧ (t_ob r2 = some 7 ∧ AM 114 [.ref r2, .int (h1.1 r0 (x4 + 1).toNatClampNeg), .int (h1.1 r0 (x4 + 2).toNatClampNeg)] h1 (t_ki (fun a2 h2 => (t_ob r2 = some 7 ∧ AM 99 [.ref r2] h2 (t_ki (fun a3 h3 => (if a3 = a1 then (if ¬ a1 = (0 : Int32) then AX 39 200 245 [.ref r0, .ref r1, .ref r2, .ref r3, .int x4, .int a1, .int a2, .float 0] [] h3 Q else (t_in (t_lo r3) 0 ∧ (if (lg_cmp (h3.2.1 r3 (0 : Int32).toNatClampNeg) ((a2 : Int32).toInt64)) = (0 : Int32) then AX 39 200 245 [.ref r0, .ref r1, .ref r2, .ref r3, .int x4, .int a1, .int a2, .float 0] [] h3 Q else Q (.inl (some (.int 0))) h3))) else Q (.inl (some (.int 0))) h3)) Q))) Q))))) Q))) := by
  rw [e_200_180]
  simp only [e_200_181, e_200_182, e_200_184, e_200_185, e_200_186, e_200_187, e_200_188, e_200_190, e_200_191, e_200_192, e_200_193, e_200_194, e_200_197, e_200_199, e_200_200, e_200_201, e_200_203, e_200_204, e_200_205, e_200_206, e_200_207, e_200_209, e_200_210, e_200_211, e_200_212, e_200_215, e_200_217, e_200_218, e_200_221, e_200_223, e_200_228, e_200_230, e_200_233, e_200_234, e_200_235, e_200_236, e_200_238, e_200_239, e_200_240, e_200_243, e_200_244, t_z0, e_200_226, e_200_227, true_and, and_true, or_true, true_or]
set_option maxRecDepth 20000 in
theorem s_200_245 (r0 : Nat) (r1 : Nat) (r2 : Nat) (r3 : Nat) (x4 : Int32) (x5 : Int32) (x6 : Int32) (h : tH) (Q : tO → tH → Prop)  :
    AX 39 200 245 [.ref r0, .ref r1, .ref r2, .ref r3, .int x4, .int x5, .int x6, .float 0] [] h Q =
    AX 39 200 2137 [.ref r0, .ref r1, .ref r2, .ref r3, .int x4, .int x5, .int x6, .float 0] [] h Q := by
  rw [e_200_245]
set_option maxRecDepth 20000 in
theorem s_200_248 (r0 : Nat) (r1 : Nat) (r2 : Nat) (r3 : Nat) (x4 : Int32) (w5 : Value) (w6 : Value) (h : tH) (Q : tO → tH → Prop)  :
    AX 39 200 248 [.ref r0, .ref r1, .ref r2, .ref r3, .int x4, w5, w6, .float 0] [] h Q =
    (t_ob r1 = some 0 ∧ AM 63 [.ref r1] h (t_ki (fun a1 h1 => (t_ob r2 = some 7 ∧ AM 115 [.ref r2] h1 (t_ki (fun a2 h2 => (if a1 = a2 then AX 39 200 2137 [.ref r0, .ref r1, .ref r2, .ref r3, .int x4, w5, w6, .float 0] [] h2 Q else Q (.inl (some (.int 0))) h2)) Q))) Q)) := by
  rw [e_200_248]
  simp only [e_200_249, e_200_252, e_200_253, e_200_256, e_200_259, e_200_260, t_z0, true_and, and_true, or_true, true_or]
set_option maxRecDepth 20000 in
theorem s_200_261 (r0 : Nat) (r1 : Nat) (r2 : Nat) (r3 : Nat) (x4 : Int32) (w5 : Value) (w6 : Value) (h : tH) (Q : tO → tH → Prop)  :
    AX 39 200 261 [.ref r0, .ref r1, .ref r2, .ref r3, .int x4, w5, w6, .float 0] [] h Q =
    (t_in (t_ai h r0) (x4 + 1) ∧ AM 173 [.ref r1, .int (h.1 r0 (x4 + 1).toNatClampNeg), .ref r3] h (t_ki (fun a1 h1 => (t_in (t_ai h1 r0) (x4 + 1) ∧ (t_ob r2 = some 7 ∧ AM 116 [.ref r2, .int (h1.1 r0 (x4 + 1).toNatClampNeg)] h1 (t_ki (fun a2 h2 => (t_ob r2 = some 7 ∧ AM 99 [.ref r2] h2 (t_ki (fun a3 h3 => (if a3 = a1 then (if ¬ a1 = (0 : Int32) then AX 39 200 314 [.ref r0, .ref r1, .ref r2, .ref r3, .int x4, .int a1, .int a2, .float 0] [] h3 Q else (t_in (t_lo r3) 0 ∧ (if (lg_cmp (h3.2.1 r3 (0 : Int32).toNatClampNeg) ((a2 : Int32).toInt64)) = (0 : Int32) then AX 39 200 314 [.ref r0, .ref r1, .ref r2, .ref r3, .int x4, .int a1, .int a2, .float 0] [] h3 Q else Q (.inl (some (.int 0))) h3))) else Q (.inl (some (.int 0))) h3)) Q))) Q)))) Q)) := by
  rw [e_200_261]
  simp only [e_200_262, e_200_263, e_200_265, e_200_266, e_200_267, e_200_268, e_200_269, e_200_272, e_200_274, e_200_275, e_200_276, e_200_278, e_200_279, e_200_280, e_200_281, e_200_284, e_200_286, e_200_287, e_200_290, e_200_292, e_200_297, e_200_299, e_200_302, e_200_303, e_200_304, e_200_305, e_200_307, e_200_308, e_200_309, e_200_312, e_200_313, t_z0, e_200_295, e_200_296, true_and, and_true, or_true, true_or]
set_option maxRecDepth 20000 in
theorem s_200_314 (r0 : Nat) (r1 : Nat) (r2 : Nat) (r3 : Nat) (x4 : Int32) (x5 : Int32) (x6 : Int32) (h : tH) (Q : tO → tH → Prop)  :
    AX 39 200 314 [.ref r0, .ref r1, .ref r2, .ref r3, .int x4, .int x5, .int x6, .float 0] [] h Q =
    AX 39 200 2137 [.ref r0, .ref r1, .ref r2, .ref r3, .int x4, .int x5, .int x6, .float 0] [] h Q := by
  rw [e_200_314]
set_option maxRecDepth 20000 in
theorem s_200_317 (r0 : Nat) (r1 : Nat) (r2 : Nat) (r3 : Nat) (x4 : Int32) (w5 : Value) (w6 : Value) (h : tH) (Q : tO → tH → Prop)  :
    AX 39 200 317 [.ref r0, .ref r1, .ref r2, .ref r3, .int x4, w5, w6, .float 0] [] h Q =
    (t_ob r1 = some 0 ∧ AM 65 [.ref r1] h (t_ki (fun a1 h1 => (t_ob r2 = some 7 ∧ AM 117 [.ref r2] h1 (t_ki (fun a2 h2 => (if a1 = a2 then AX 39 200 2137 [.ref r0, .ref r1, .ref r2, .ref r3, .int x4, w5, w6, .float 0] [] h2 Q else Q (.inl (some (.int 0))) h2)) Q))) Q)) := by
  rw [e_200_317]
  simp only [e_200_318, e_200_321, e_200_322, e_200_325, e_200_328, e_200_329, t_z0, true_and, and_true, or_true, true_or]
set_option maxRecDepth 20000 in
theorem s_200_330 (r0 : Nat) (r1 : Nat) (r2 : Nat) (r3 : Nat) (x4 : Int32) (w5 : Value) (w6 : Value) (h : tH) (Q : tO → tH → Prop)  :
    AX 39 200 330 [.ref r0, .ref r1, .ref r2, .ref r3, .int x4, w5, w6, .float 0] [] h Q =
    (t_in (t_ai h r0) (x4 + 1) ∧ AM 174 [.ref r1, .int (h.1 r0 (x4 + 1).toNatClampNeg), .ref r3] h (t_ki (fun a1 h1 => (t_in (t_ai h1 r0) (x4 + 1) ∧ (t_ob r2 = some 7 ∧ AM 119 [.ref r2, .int (h1.1 r0 (x4 + 1).toNatClampNeg)] h1 (t_ki (fun a2 h2 => (t_ob r2 = some 7 ∧ AM 99 [.ref r2] h2 (t_ki (fun a3 h3 => (if a3 = a1 then (if ¬ a1 = (0 : Int32) then AX 39 200 383 [.ref r0, .ref r1, .ref r2, .ref r3, .int x4, .int a1, .int a2, .float 0] [] h3 Q else (t_in (t_lo r3) 0 ∧ (if (lg_cmp (h3.2.1 r3 (0 : Int32).toNatClampNeg) ((a2 : Int32).toInt64)) = (0 : Int32) then AX 39 200 383 [.ref r0, .ref r1, .ref r2, .ref r3, .int x4, .int a1, .int a2, .float 0] [] h3 Q else Q (.inl (some (.int 0))) h3))) else Q (.inl (some (.int 0))) h3)) Q))) Q)))) Q)) := by
  rw [e_200_330]
  simp only [e_200_331, e_200_332, e_200_334, e_200_335, e_200_336, e_200_337, e_200_338, e_200_341, e_200_343, e_200_344, e_200_345, e_200_347, e_200_348, e_200_349, e_200_350, e_200_353, e_200_355, e_200_356, e_200_359, e_200_361, e_200_366, e_200_368, e_200_371, e_200_372, e_200_373, e_200_374, e_200_376, e_200_377, e_200_378, e_200_381, e_200_382, t_z0, e_200_364, e_200_365, true_and, and_true, or_true, true_or]
set_option maxRecDepth 20000 in
theorem s_200_383 (r0 : Nat) (r1 : Nat) (r2 : Nat) (r3 : Nat) (x4 : Int32) (x5 : Int32) (x6 : Int32) (h : tH) (Q : tO → tH → Prop)  :
    AX 39 200 383 [.ref r0, .ref r1, .ref r2, .ref r3, .int x4, .int x5, .int x6, .float 0] [] h Q =
    AX 39 200 2137 [.ref r0, .ref r1, .ref r2, .ref r3, .int x4, .int x5, .int x6, .float 0] [] h Q := by
  rw [e_200_383]
set_option maxRecDepth 20000 in
theorem s_200_386 (r0 : Nat) (r1 : Nat) (r2 : Nat) (r3 : Nat) (x4 : Int32) (w5 : Value) (w6 : Value) (h : tH) (Q : tO → tH → Prop)  :
    AX 39 200 386 [.ref r0, .ref r1, .ref r2, .ref r3, .int x4, w5, w6, .float 0] [] h Q =
    AM 175 [.ref r1, .ref r3] h (t_ki (fun a1 h1 => (t_ob r2 = some 7 ∧ AM 122 [.ref r2] h1 (t_ki (fun a2 h2 => (t_ob r2 = some 7 ∧ AM 99 [.ref r2] h2 (t_ki (fun a3 h3 => (if a3 = a1 then (if ¬ a1 = (0 : Int32) then AX 39 200 427 [.ref r0, .ref r1, .ref r2, .ref r3, .int x4, .int a1, .int a2, .float 0] [] h3 Q else (t_in (t_lo r3) 0 ∧ (if (lg_cmp (h3.2.1 r3 (0 : Int32).toNatClampNeg) ((a2 : Int32).toInt64)) = (0 : Int32) then AX 39 200 427 [.ref r0, .ref r1, .ref r2, .ref r3, .int x4, .int a1, .int a2, .float 0] [] h3 Q else Q (.inl (some (.int 0))) h3))) else Q (.inl (some (.int 0))) h3)) Q))) Q))) Q) := by
  rw [e_200_386]
  simp only [e_200_387, e_200_388, e_200_391, e_200_393, e_200_394, e_200_397, e_200_399, e_200_400, e_200_403, e_200_405, e_200_410, e_200_412, e_200_415, e_200_416, e_200_417, e_200_418, e_200_420, e_200_421, e_200_422, e_200_425, e_200_426, t_z0, e_200_408, e_200_409, true_and, and_true, or_true, true_or]
set_option maxRecDepth 20000 in
theorem s_200_427 (r0 : Nat) (r1 : Nat) (r2 : Nat) (r3 : Nat) (x4 : Int32) (x5 : Int32) (x6 : Int32) (h : tH) (Q : tO → tH → Prop)  :
    AX 39 200 427 [.ref r0, .ref r1, .ref r2, .ref r3, .int x4, .int x5, .int x6, .float 0] [] h Q =
    AX 39 200 2137 [.ref r0, .ref r1, .ref r2, .ref r3, .int x4, .int x5, .int x6, .float 0] [] h Q := by
  rw [e_200_427]
set_option maxRecDepth 20000 in
theorem s_200_430 (r0 : Nat) (r1 : Nat) (r2 : Nat) (r3 : Nat) (x4 : Int32) (w5 : Value) (w6 : Value) (h : tH) (Q : tO → tH → Prop)  :
    AX 39 200 430 [.ref r0, .ref r1, .ref r2, .ref r3, .int x4, w5, w6, .float 0] [] h Q =
    (t_in (t_ai h r0) (x4 + 1) ∧ AM 176 [.ref r1, .int (h.1 r0 (x4 + 1).toNatClampNeg), .ref r3] h (t_ki (fun a1 h1 => (t_in (t_ai h1 r0) (x4 + 1) ∧ (t_ob r2 = some 7 ∧ AM 123 [.ref r2, .int (h1.1 r0 (x4 + 1).toNatClampNeg)] h1 (t_ki (fun a2 h2 => (t_ob r2 = some 7 ∧ AM 99 [.ref r2] h2 (t_ki (fun a3 h3 => (if a3 = a1 then (if ¬ a1 = (0 : Int32) then AX 39 200 483 [.ref r0, .ref r1, .ref r2, .ref r3, .int x4, .int a1, .int a2, .float 0] [] h3 Q else (t_in (t_lo r3) 0 ∧ (if (lg_cmp (h3.2.1 r3 (0 : Int32).toNatClampNeg) ((a2 : Int32).toInt64)) = (0 : Int32) then AX 39 200 483 [.ref r0, .ref r1, .ref r2, .ref r3, .int x4, .int a1, .int a2, .float 0] [] h3 Q else Q (.inl (some (.int 0))) h3))) else Q (.inl (some (.int 0))) h3)) Q))) Q)))) Q)) := by
  rw [e_200_430]
  simp only [e_200_431, e_200_432, e_200_434, e_200_435, e_200_436, e_200_437, e_200_438, e_200_441, e_200_443, e_200_444, e_200_445, e_200_447, e_200_448, e_200_449, e_200_450, e_200_453, e_200_455, e_200_456, e_200_459, e_200_461, e_200_466, e_200_468, e_200_471, e_200_472, e_200_473, e_200_474, e_200_476, e_200_477, e_200_478, e_200_481, e_200_482, t_z0, e_200_464, e_200_465, true_and, and_true, or_true, true_or]
set_option maxRecDepth 20000 in
theorem s_200_483 (r0 : Nat) (r1 : Nat) (r2 : Nat) (r3 : Nat) (x4 : Int32) (x5 : Int32) (x6 : Int32) (h : tH) (Q : tO → tH → Prop)  :
    AX 39 200 483 [.ref r0, .ref r1, .ref r2, .ref r3, .int x4, .int x5, .int x6, .float 0] [] h Q =
    AX 39 200 2137 [.ref r0, .ref r1, .ref r2, .ref r3, .int x4, .int x5, .int x6, .float 0] [] h Q := by
  rw [e_200_483]
set_option maxRecDepth 20000 in
theorem s_200_486 (r0 : Nat) (r1 : Nat) (r2 : Nat) (r3 : Nat) (x4 : Int32) (w5 : Value) (w6 : Value) (h : tH) (Q : tO → tH → Prop)  :
    AX 39 200 486 [.ref r0, .ref r1, .ref r2, .ref r3, .int x4, w5, w6, .float 0] [] h Q =
    (t_in (t_ai h r0) (x4 + 1) ∧ (t_in (t_ai h r0) (x4 + 2) ∧ AM 177 [.ref r1, .int (h.1 r0 (x4 + 1).toNatClampNeg), .int (if (h.1 r0 (x4 + 2).toNatClampNeg) = (0 : Int32) then (0 : Int32) else 1), .ref r3] h (t_ki (fun a1 h1 => (t_in (t_ai h1 r0) (x4 + 1) ∧ (t_in (t_ai h1 r0) (x4 + 2) ∧ (t_ob r2 = some 7 ∧ AM 124 [.ref r2, .int (h1.1 r0 (x4 + 1).toNatClampNeg), .int (if (h1.1 r0 (x4 + 2).toNatClampNeg) = (0 : Int32) then (0 : Int32) else 1)] h1 (t_ki (fun a2 h2 => (t_ob r2 = some 7 ∧ AM 99 [.ref r2] h2 (t_ki (fun a3 h3 => (if a3 = a1 then (if ¬ a1 = (0 : Int32) then AX 39 200 567 [.ref r0, .ref r1, .ref r2, .ref r3, .int x4, .int a1, .int a2, .float 0] [] h3 Q else (t_in (t_lo r3) 0 ∧ (if (lg_cmp (h3.2.1 r3 (0 : Int32).toNatClampNeg) ((a2 : Int32).toInt64)) = (0 : Int32) then AX 39 200 567 [.ref r0, .ref r1, .ref r2, .ref r3, .int x4, .int a1, .int a2, .float 0] [] h3 Q else Q (.inl (some (.int 0))) h3))) else Q (.inl (some (.int 0))) h3)) Q))) Q))))) Q))) := by
  rw [e_200_486]
  simp only [e_200_487, e_200_488, e_200_490, e_200_491, e_200_492, e_200_493, e_200_494, e_200_496, e_200_497, e_200_498, b_200_499, e_200_507, e_200_508, e_200_511, e_200_513, e_200_514, e_200_515, e_200_517, e_200_518, e_200_519, e_200_520, e_200_521, e_200_523, e_200_524, e_200_525, b_200_526, e_200_534, e_200_537, e_200_539, e_200_540, e_200_543, e_200_545, e_200_550, e_200_552, e_200_555, e_200_556, e_200_557, e_200_558, e_200_560, e_200_561, e_200_562, e_200_565, e_200_566, t_z0, e_200_548, e_200_549, true_and, and_true, or_true, true_or]
set_option maxRecDepth 20000 in
theorem s_200_567 (r0 : Nat) (r1 : Nat) (r2 : Nat) (r3 : Nat) (x4 : Int32) (x5 : Int32) (x6 : Int32) (h : tH) (Q : tO → tH → Prop)  :
    AX 39 200 567 [.ref r0, .ref r1, .ref r2, .ref r3, .int x4, .int x5, .int x6, .float 0] [] h Q =
    AX 39 200 2137 [.ref r0, .ref r1, .ref r2, .ref r3, .int x4, .int x5, .int x6, .float 0] [] h Q := by
  rw [e_200_567]
set_option maxRecDepth 20000 in
theorem s_200_570 (r0 : Nat) (r1 : Nat) (r2 : Nat) (r3 : Nat) (x4 : Int32) (w5 : Value) (w6 : Value) (h : tH) (Q : tO → tH → Prop)  :
    AX 39 200 570 [.ref r0, .ref r1, .ref r2, .ref r3, .int x4, w5, w6, .float 0] [] h Q =
    (t_in (t_ai h r0) (x4 + 1) ∧ (t_in (t_ai h r0) (x4 + 2) ∧ (t_in (t_ai h r0) (x4 + 3) ∧ (t_in (t_ai h r0) (x4 + 4) ∧ AM 178 [.ref r1, .int (h.1 r0 (x4 + 1).toNatClampNeg), .int (h.1 r0 (x4 + 2).toNatClampNeg), .int (h.1 r0 (x4 + 3).toNatClampNeg), .int (h.1 r0 (x4 + 4).toNatClampNeg), .ref r3] h (t_ki (fun a1 h1 => (t_in (t_ai h1 r0) (x4 + 1) ∧ (t_in (t_ai h1 r0) (x4 + 2) ∧ (t_in (t_ai h1 r0) (x4 + 3) ∧ (t_in (t_ai h1 r0) (x4 + 4) ∧ (t_ob r2 = some 7 ∧ AM 126 [.ref r2, .int (h1.1 r0 (x4 + 1).toNatClampNeg), .int (h1.1 r0 (x4 + 2).toNatClampNeg), .int (h1.1 r0 (x4 + 3).toNatClampNeg), .int (h1.1 r0 (x4 + 4).toNatClampNeg)] h1 (t_ki (fun a2 h2 => (t_ob r2 = some 7 ∧ AM 99 [.ref r2] h2 (t_ki (fun a3 h3 => (if a3 = a1 then (if ¬ a1 = (0 : Int32) then AX 39 200 666 [.ref r0, .ref r1, .ref r2, .ref r3, .int x4, .int a1, .int a2, .float 0] [] h3 Q else (t_in (t_lo r3) 0 ∧ (if a2 = (0 : Int32) then AX 39 200 660 [.ref r0, .ref r1, .ref r2, .ref r3, .int x4, .int a1, .int a2, .float 0] [.long 0, .long (h3.2.1 r3 (0 : Int32).toNatClampNeg)] h3 Q else AX 39 200 660 [.ref r0, .ref r1, .ref r2, .ref r3, .int x4, .int a1, .int a2, .float 0] [.long 1, .long (h3.2.1 r3 (0 : Int32).toNatClampNeg)] h3 Q))) else Q (.inl (some (.int 0))) h3)) Q))) Q))))))) Q))))) := by
  rw [e_200_570]
  simp only [e_200_571, e_200_572, e_200_574, e_200_575, e_200_576, e_200_577, e_200_578, e_200_580, e_200_581, e_200_582, e_200_583, e_200_584, e_200_586, e_200_587, e_200_588, e_200_589, e_200_590, e_200_592, e_200_593, e_200_594, e_200_595, e_200_596, e_200_599, e_200_601, e_200_602, e_200_603, e_200_605, e_200_606, e_200_607, e_200_608, e_200_609, e_200_611, e_200_612, e_200_613, e_200_614, e_200_615, e_200_617, e_200_618, e_200_619, e_200_620, e_200_621, e_200_623, e_200_624, e_200_625, e_200_626, e_200_629, e_200_631, e_200_632, e_200_635, e_200_637, e_200_642, e_200_644, e_200_647, e_200_648, e_200_649, e_200_650, e_200_652, e_200_659, e_200_655, e_200_656, e_200_640, e_200_641, t_z0, true_and, and_true, or_true, true_or]
set_option maxRecDepth 20000 in
theorem s_200_660 (r0 : Nat) (r1 : Nat) (r2 : Nat) (r3 : Nat) (x4 : Int32) (x5 : Int32) (x6 : Int32) (v0 : Int64) (v1 : Int64) (h : tH) (Q : tO → tH → Prop)  :
    AX 39 200 660 [.ref r0, .ref r1, .ref r2, .ref r3, .int x4, .int x5, .int x6, .float 0] [.long v0, .long v1] h Q =
    (if (lg_cmp v1 v0) = (0 : Int32) then AX 39 200 666 [.ref r0, .ref r1, .ref r2, .ref r3, .int x4, .int x5, .int x6, .float 0] [] h Q else Q (.inl (some (.int 0))) h) := by
  rw [e_200_660]
  simp only [e_200_661, e_200_664, e_200_665, t_z0, true_and, and_true, or_true, true_or]
set_option maxRecDepth 20000 in
theorem s_200_666 (r0 : Nat) (r1 : Nat) (r2 : Nat) (r3 : Nat) (x4 : Int32) (x5 : Int32) (x6 : Int32) (h : tH) (Q : tO → tH → Prop)  :
    AX 39 200 666 [.ref r0, .ref r1, .ref r2, .ref r3, .int x4, .int x5, .int x6, .float 0] [] h Q =
    AX 39 200 2137 [.ref r0, .ref r1, .ref r2, .ref r3, .int x4, .int x5, .int x6, .float 0] [] h Q := by
  rw [e_200_666]
set_option maxRecDepth 20000 in
theorem s_200_669 (r0 : Nat) (r1 : Nat) (r2 : Nat) (r3 : Nat) (x4 : Int32) (w5 : Value) (w6 : Value) (h : tH) (Q : tO → tH → Prop)  :
    AX 39 200 669 [.ref r0, .ref r1, .ref r2, .ref r3, .int x4, w5, w6, .float 0] [] h Q =
    (t_in (t_ai h r0) (x4 + 1) ∧ (t_in (t_ai h r0) (x4 + 2) ∧ (t_in (t_ai h r0) (x4 + 3) ∧ AM 179 [.ref r1, .int (h.1 r0 (x4 + 1).toNatClampNeg), .int (h.1 r0 (x4 + 2).toNatClampNeg), .int (h.1 r0 (x4 + 3).toNatClampNeg)] h (t_ki (fun a1 h1 => (t_in (t_ai h1 r0) (x4 + 1) ∧ (t_in (t_ai h1 r0) (x4 + 2) ∧ (t_in (t_ai h1 r0) (x4 + 3) ∧ (t_ob r2 = some 7 ∧ AM 128 [.ref r2, .int (h1.1 r0 (x4 + 1).toNatClampNeg), .int (h1.1 r0 (x4 + 2).toNatClampNeg), .int (h1.1 r0 (x4 + 3).toNatClampNeg)] h1 (t_kv (fun h2 => (t_ob r2 = some 7 ∧ AM 99 [.ref r2] h2 (t_ki (fun a3 h3 => (if a3 = a1 then AX 39 200 2137 [.ref r0, .ref r1, .ref r2, .ref r3, .int x4, .int a1, w6, .float 0] [] h3 Q else Q (.inl (some (.int 0))) h3)) Q))) Q)))))) Q)))) := by
  rw [e_200_669]
  simp only [e_200_670, e_200_671, e_200_673, e_200_674, e_200_675, e_200_676, e_200_677, e_200_679, e_200_680, e_200_681, e_200_682, e_200_683, e_200_685, e_200_686, e_200_687, e_200_688, e_200_691, e_200_693, e_200_694, e_200_695, e_200_697, e_200_698, e_200_699, e_200_700, e_200_701, e_200_703, e_200_704, e_200_705, e_200_706, e_200_707, e_200_709, e_200_710, e_200_711, e_200_712, e_200_715, e_200_716, e_200_719, e_200_721, e_200_726, e_200_724, e_200_725, t_z0, true_and, and_true, or_true, true_or]
set_option maxRecDepth 20000 in
theorem s_200_729 (r0 : Nat) (r1 : Nat) (r2 : Nat) (r3 : Nat) (x4 : Int32) (w5 : Value) (w6 : Value) (h : tH) (Q : tO → tH → Prop)  :
    AX 39 200 729 [.ref r0, .ref r1, .ref r2, .ref r3, .int x4, w5, w6, .float 0] [] h Q =
    (t_in (t_ai h r0) (x4 + 1) ∧ AM 180 [.ref r1, .int (h.1 r0 (x4 + 1).toNatClampNeg), .ref r3] h (t_ki (fun a1 h1 => (t_in (t_ai h1 r0) (x4 + 1) ∧ (t_ob r2 = some 7 ∧ AM 129 [.ref r2, .int (h1.1 r0 (x4 + 1).toNatClampNeg)] h1 (t_ki (fun a2 h2 => (t_ob r2 = some 7 ∧ AM 99 [.ref r2] h2 (t_ki (fun a3 h3 => (if a3 = a1 then (if ¬ a1 = (0 : Int32) then AX 39 200 789 [.ref r0, .ref r1, .ref r2, .ref r3, .int x4, .int a1, .int a2, .float 0] [] h3 Q else (t_in (t_lo r3) 0 ∧ (if a2 = (0 : Int32) then AX 39 200 783 [.ref r0, .ref r1, .ref r2, .ref r3, .int x4, .int a1, .int a2, .float 0] [.long 0, .long (h3.2.1 r3 (0 : Int32).toNatClampNeg)] h3 Q else AX 39 200 783 [.ref r0, .ref r1, .ref r2, .ref r3, .int x4, .int a1, .int a2, .float 0] [.long 1, .long (h3.2.1 r3 (0 : Int32).toNatClampNeg)] h3 Q))) else Q (.inl (some (.int 0))) h3)) Q))) Q)))) Q)) := by
  rw [e_200_729]
  simp only [e_200_730, e_200_731, e_200_733, e_200_734, e_200_735, e_200_736, e_200_737, e_200_740, e_200_742, e_200_743, e_200_744, e_200_746, e_200_747, e_200_748, e_200_749, e_200_752, e_200_754, e_200_755, e_200_758, e_200_760, e_200_765, e_200_767, e_200_770, e_200_771, e_200_772, e_200_773, e_200_775, e_200_782, e_200_778, e_200_779, e_200_763, e_200_764, t_z0, true_and, and_true, or_true, true_or]
set_option maxRecDepth 20000 in
theorem s_200_783 (r0 : Nat) (r1 : Nat) (r2 : Nat) (r3 : Nat) (x4 : Int32) (x5 : Int32) (x6 : Int32) (v0 : Int64) (v1 : Int64) (h : tH) (Q : tO → tH → Prop)  :
    AX 39 200 783 [.ref r0, .ref r1, .ref r2, .ref r3, .int x4, .int x5, .int x6, .float 0] [.long v0, .long v1] h Q =
    (if (lg_cmp v1 v0) = (0 : Int32) then AX 39 200 789 [.ref r0, .ref r1, .ref r2, .ref r3, .int x4, .int x5, .int x6, .float 0] [] h Q else Q (.inl (some (.int 0))) h) := by
  rw [e_200_783]
  simp only [e_200_784, e_200_787, e_200_788, t_z0, true_and, and_true, or_true, true_or]
set_option maxRecDepth 20000 in
theorem s_200_789 (r0 : Nat) (r1 : Nat) (r2 : Nat) (r3 : Nat) (x4 : Int32) (x5 : Int32) (x6 : Int32) (h : tH) (Q : tO → tH → Prop)  :
    AX 39 200 789 [.ref r0, .ref r1, .ref r2, .ref r3, .int x4, .int x5, .int x6, .float 0] [] h Q =
    AX 39 200 2137 [.ref r0, .ref r1, .ref r2, .ref r3, .int x4, .int x5, .int x6, .float 0] [] h Q := by
  rw [e_200_789]
set_option maxRecDepth 20000 in
theorem s_200_792 (r0 : Nat) (r1 : Nat) (r2 : Nat) (r3 : Nat) (x4 : Int32) (w5 : Value) (w6 : Value) (h : tH) (Q : tO → tH → Prop)  :
    AX 39 200 792 [.ref r0, .ref r1, .ref r2, .ref r3, .int x4, w5, w6, .float 0] [] h Q =
    (t_ob r1 = some 0 ∧ AM 79 [.ref r1] h (t_ki (fun a1 h1 => (t_ob r2 = some 7 ∧ AM 130 [.ref r2] h1 (t_ki (fun a2 h2 => (if a1 = a2 then AX 39 200 2137 [.ref r0, .ref r1, .ref r2, .ref r3, .int x4, w5, w6, .float 0] [] h2 Q else Q (.inl (some (.int 0))) h2)) Q))) Q)) := by
  rw [e_200_792]
  simp only [e_200_793, e_200_796, e_200_797, e_200_800, e_200_803, e_200_804, t_z0, true_and, and_true, or_true, true_or]
set_option maxRecDepth 20000 in
theorem s_200_805 (r0 : Nat) (r1 : Nat) (r2 : Nat) (r3 : Nat) (x4 : Int32) (w5 : Value) (w6 : Value) (h : tH) (Q : tO → tH → Prop)  :
    AX 39 200 805 [.ref r0, .ref r1, .ref r2, .ref r3, .int x4, w5, w6, .float 0] [] h Q =
    (t_in (t_ai h r0) (x4 + 1) ∧ AM 181 [.ref r1, .int (h.1 r0 (x4 + 1).toNatClampNeg), .ref r3] h (t_ki (fun a1 h1 => (t_in (t_ai h1 r0) (x4 + 1) ∧ (t_ob r2 = some 7 ∧ AM 131 [.ref r2, .int (h1.1 r0 (x4 + 1).toNatClampNeg)] h1 (t_ki (fun a2 h2 => (t_ob r2 = some 7 ∧ AM 99 [.ref r2] h2 (t_ki (fun a3 h3 => (if a3 = a1 then (if ¬ a1 = (0 : Int32) then AX 39 200 858 [.ref r0, .ref r1, .ref r2, .ref r3, .int x4, .int a1, .int a2, .float 0] [] h3 Q else (t_in (t_lo r3) 0 ∧ (if (lg_cmp (h3.2.1 r3 (0 : Int32).toNatClampNeg) ((a2 : Int32).toInt64)) = (0 : Int32) then AX 39 200 858 [.ref r0, .ref r1, .ref r2, .ref r3, .int x4, .int a1, .int a2, .float 0] [] h3 Q else Q (.inl (some (.int 0))) h3))) else Q (.inl (some (.int 0))) h3)) Q))) Q)))) Q)) := by
  rw [e_200_805]
  simp only [e_200_806, e_200_807, e_200_809, e_200_810, e_200_811, e_200_812, e_200_813, e_200_816, e_200_818, e_200_819, e_200_820, e_200_822, e_200_823, e_200_824, e_200_825, e_200_828, e_200_830, e_200_831, e_200_834, e_200_836, e_200_841, e_200_843, e_200_846, e_200_847, e_200_848, e_200_849, e_200_851, e_200_852, e_200_853, e_200_856, e_200_857, t_z0, e_200_839, e_200_840, true_and, and_true, or_true, true_or]
set_option maxRecDepth 20000 in
theorem s_200_858 (r0 : Nat) (r1 : Nat) (r2 : Nat) (r3 : Nat) (x4 : Int32) (x5 : Int32) (x6 : Int32) (h : tH) (Q : tO → tH → Prop)  :
    AX 39 200 858 [.ref r0, .ref r1, .ref r2, .ref r3, .int x4, .int x5, .int x6, .float 0] [] h Q =
    AX 39 200 2137 [.ref r0, .ref r1, .ref r2, .ref r3, .int x4, .int x5, .int x6, .float 0] [] h Q := by
  rw [e_200_858]
set_option maxRecDepth 20000 in
theorem s_200_861 (r0 : Nat) (r1 : Nat) (r2 : Nat) (r3 : Nat) (x4 : Int32) (w5 : Value) (w6 : Value) (h : tH) (Q : tO → tH → Prop)  :
    AX 39 200 861 [.ref r0, .ref r1, .ref r2, .ref r3, .int x4, w5, w6, .float 0] [] h Q =
    (t_in (t_ai h r0) (x4 + 1) ∧ AM 182 [.ref r1, .int (h.1 r0 (x4 + 1).toNatClampNeg), .ref r3] h (t_ki (fun a1 h1 => (t_in (t_ai h1 r0) (x4 + 1) ∧ (t_ob r2 = some 7 ∧ AM 132 [.ref r2, .int (h1.1 r0 (x4 + 1).toNatClampNeg)] h1 (t_ki (fun a2 h2 => (t_ob r2 = some 7 ∧ AM 99 [.ref r2] h2 (t_ki (fun a3 h3 => (if a3 = a1 then (if ¬ a1 = (0 : Int32) then AX 39 200 921 [.ref r0, .ref r1, .ref r2, .ref r3, .int x4, .int a1, .int a2, .float 0] [] h3 Q else (t_in (t_lo r3) 0 ∧ (if a2 = (0 : Int32) then AX 39 200 915 [.ref r0, .ref r1, .ref r2, .ref r3, .int x4, .int a1, .int a2, .float 0] [.long 0, .long (h3.2.1 r3 (0 : Int32).toNatClampNeg)] h3 Q else AX 39 200 915 [.ref r0, .ref r1, .ref r2, .ref r3, .int x4, .int a1, .int a2, .float 0] [.long 1, .long (h3.2.1 r3 (0 : Int32).toNatClampNeg)] h3 Q))) else Q (.inl (some (.int 0))) h3)) Q))) Q)))) Q)) := by
  rw [e_200_861]
  simp only [e_200_862, e_200_863, e_200_865, e_200_866, e_200_867, e_200_868, e_200_869, e_200_872, e_200_874, e_200_875, e_200_876, e_200_878, e_200_879, e_200_880, e_200_881, e_200_884, e_200_886, e_200_887, e_200_890, e_200_892, e_200_897, e_200_899, e_200_902, e_200_903, e_200_904, e_200_905, e_200_907, e_200_914, e_200_910, e_200_911, e_200_895, e_200_896, t_z0, true_and, and_true, or_true, true_or]
set_option maxRecDepth 20000 in
theorem s_200_915 (r0 : Nat) (r1 : Nat) (r2 : Nat) (r3 : Nat) (x4 : Int32) (x5 : Int32) (x6 : Int32) (v0 : Int64) (v1 : Int64) (h : tH) (Q : tO → tH → Prop)  :
    AX 39 200 915 [.ref r0, .ref r1, .ref r2, .ref r3, .int x4, .int x5, .int x6, .float 0] [.long v0, .long v1] h Q =
    (if (lg_cmp v1 v0) = (0 : Int32) then AX 39 200 921 [.ref r0, .ref r1, .ref r2, .ref r3, .int x4, .int x5, .int x6, .float 0] [] h Q else Q (.inl (some (.int 0))) h) := by
  rw [e_200_915]
  simp only [e_200_916, e_200_919, e_200_920, t_z0, true_and, and_true, or_true, true_or]
set_option maxRecDepth 20000 in
theorem s_200_921 (r0 : Nat) (r1 : Nat) (r2 : Nat) (r3 : Nat) (x4 : Int32) (x5 : Int32) (x6 : Int32) (h : tH) (Q : tO → tH → Prop)  :
    AX 39 200 921 [.ref r0, .ref r1, .ref r2, .ref r3, .int x4, .int x5, .int x6, .float 0] [] h Q =
    AX 39 200 2137 [.ref r0, .ref r1, .ref r2, .ref r3, .int x4, .int x5, .int x6, .float 0] [] h Q := by
  rw [e_200_921]
set_option maxRecDepth 20000 in
theorem s_200_924 (r0 : Nat) (r1 : Nat) (r2 : Nat) (r3 : Nat) (x4 : Int32) (w5 : Value) (w6 : Value) (h : tH) (Q : tO → tH → Prop)  :
    AX 39 200 924 [.ref r0, .ref r1, .ref r2, .ref r3, .int x4, w5, w6, .float 0] [] h Q =
    (t_in (t_ai h r0) (x4 + 1) ∧ (t_in (t_ai h r0) (x4 + 2) ∧ (t_in (t_ai h r0) (x4 + 3) ∧ AM 183 [.ref r1, .int (h.1 r0 (x4 + 1).toNatClampNeg), .int (h.1 r0 (x4 + 2).toNatClampNeg), .int (if (h.1 r0 (x4 + 3).toNatClampNeg) = (0 : Int32) then (0 : Int32) else 1), .ref r3] h (t_ki (fun a1 h1 => (t_in (t_ai h1 r0) (x4 + 1) ∧ (t_in (t_ai h1 r0) (x4 + 2) ∧ (t_in (t_ai h1 r0) (x4 + 3) ∧ (t_ob r2 = some 7 ∧ AM 133 [.ref r2, .int (h1.1 r0 (x4 + 1).toNatClampNeg), .int (h1.1 r0 (x4 + 2).toNatClampNeg), .int (if (h1.1 r0 (x4 + 3).toNatClampNeg) = (0 : Int32) then (0 : Int32) else 1)] h1 (t_ki (fun a2 h2 => (t_ob r2 = some 7 ∧ AM 99 [.ref r2] h2 (t_ki (fun a3 h3 => (if a3 = a1 then (if ¬ a1 = (0 : Int32) then AX 39 200 1017 [.ref r0, .ref r1, .ref r2, .ref r3, .int x4, .int a1, .int a2, .float 0] [] h3 Q else (t_in (t_lo r3) 0 ∧ (if (lg_cmp (h3.2.1 r3 (0 : Int32).toNatClampNeg) ((a2 : Int32).toInt64)) = (0 : Int32) then AX 39 200 1017 [.ref r0, .ref r1, .ref r2, .ref r3, .int x4, .int a1, .int a2, .float 0] [] h3 Q else Q (.inl (some (.int 0))) h3))) else Q (.inl (some (.int 0))) h3)) Q))) Q)))))) Q)))) := by
  rw [e_200_924]
  simp only [e_200_925, e_200_926, e_200_928, e_200_929, e_200_930, e_200_931, e_200_932, e_200_934, e_200_935, e_200_936, e_200_937, e_200_938, e_200_940, e_200_941, e_200_942, b_200_943, e_200_951, e_200_952, e_200_955, e_200_957, e_200_958, e_200_959, e_200_961, e_200_962, e_200_963, e_200_964, e_200_965, e_200_967, e_200_968, e_200_969, e_200_970, e_200_971, e_200_973, e_200_974, e_200_975, b_200_976, e_200_984, e_200_987, e_200_989, e_200_990, e_200_993, e_200_995, e_200_1000, e_200_1002, e_200_1005, e_200_1006, e_200_1007, e_200_1008, e_200_1010, e_200_1011, e_200_1012, e_200_1015, e_200_1016, t_z0, e_200_998, e_200_999, true_and, and_true, or_true, true_or]
set_option maxRecDepth 20000 in
theorem s_200_1017 (r0 : Nat) (r1 : Nat) (r2 : Nat) (r3 : Nat) (x4 : Int32) (x5 : Int32) (x6 : Int32) (h : tH) (Q : tO → tH → Prop)  :
    AX 39 200 1017 [.ref r0, .ref r1, .ref r2, .ref r3, .int x4, .int x5, .int x6, .float 0] [] h Q =
    AX 39 200 2137 [.ref r0, .ref r1, .ref r2, .ref r3, .int x4, .int x5, .int x6, .float 0] [] h Q := by
  rw [e_200_1017]
set_option maxRecDepth 20000 in
theorem s_200_1020 (r0 : Nat) (r1 : Nat) (r2 : Nat) (r3 : Nat) (x4 : Int32) (w5 : Value) (w6 : Value) (h : tH) (Q : tO → tH → Prop)  :
    AX 39 200 1020 [.ref r0, .ref r1, .ref r2, .ref r3, .int x4, w5, w6, .float 0] [] h Q =
    (t_in (t_ai h r0) (x4 + 1) ∧ (t_in (t_ai h r0) (x4 + 2) ∧ (t_in (t_ai h r0) (x4 + 3) ∧ (t_in (t_ai h r0) (x4 + 4) ∧ AM 184 [.ref r1, .int (h.1 r0 (x4 + 1).toNatClampNeg), .int (h.1 r0 (x4 + 2).toNatClampNeg), .int (h.1 r0 (x4 + 3).toNatClampNeg), .int (h.1 r0 (x4 + 4).toNatClampNeg), .ref r3] h (t_ki (fun a1 h1 => (t_in (t_ai h1 r0) (x4 + 1) ∧ (t_in (t_ai h1 r0) (x4 + 2) ∧ (t_in (t_ai h1 r0) (x4 + 3) ∧ (t_in (t_ai h1 r0) (x4 + 4) ∧ (t_ob r2 = some 7 ∧ AM 134 [.ref r2, .int (h1.1 r0 (x4 + 1).toNatClampNeg), .int (h1.1 r0 (x4 + 2).toNatClampNeg), .int (h1.1 r0 (x4 + 3).toNatClampNeg), .int (h1.1 r0 (x4 + 4).toNatClampNeg)] h1 (t_ki (fun a2 h2 => (t_ob r2 = some 7 ∧ AM 99 [.ref r2] h2 (t_ki (fun a3 h3 => (if a3 = a1 then (if ¬ a1 = (0 : Int32) then AX 39 200 1109 [.ref r0, .ref r1, .ref r2, .ref r3, .int x4, .int a1, .int a2, .float 0] [] h3 Q else (t_in (t_lo r3) 0 ∧ (if (lg_cmp (h3.2.1 r3 (0 : Int32).toNatClampNeg) ((a2 : Int32).toInt64)) = (0 : Int32) then AX 39 200 1109 [.ref r0, .ref r1, .ref r2, .ref r3, .int x4, .int a1, .int a2, .float 0] [] h3 Q else Q (.inl (some (.int 0))) h3))) else Q (.inl (some (.int 0))) h3)) Q))) Q))))))) Q))))) := by
  rw [e_200_1020]
  simp only [e_200_1021, e_200_1022, e_200_1024, e_200_1025, e_200_1026, e_200_1027, e_200_1028, e_200_1030, e_200_1031, e_200_1032, e_200_1033, e_200_1034, e_200_1036, e_200_1037, e_200_1038, e_200_1039, e_200_1040, e_200_1042, e_200_1043, e_200_1044, e_200_1045, e_200_1046, e_200_1049, e_200_1051, e_200_1052, e_200_1053, e_200_1055, e_200_1056, e_200_1057, e_200_1058, e_200_1059, e_200_1061, e_200_1062, e_200_1063, e_200_1064, e_200_1065, e_200_1067, e_200_1068, e_200_1069, e_200_1070, e_200_1071, e_200_1073, e_200_1074, e_200_1075, e_200_1076, e_200_1079, e_200_1081, e_200_1082, e_200_1085, e_200_1087, e_200_1092, e_200_1094, e_200_1097, e_200_1098, e_200_1099, e_200_1100, e_200_1102, e_200_1103, e_200_1104, e_200_1107, e_200_1108, t_z0, e_200_1090, e_200_1091, true_and, and_true, or_true, true_or]
set_option maxRecDepth 20000 in
theorem s_200_1109 (r0 : Nat) (r1 : Nat) (r2 : Nat) (r3 : Nat) (x4 : Int32) (x5 : Int32) (x6 : Int32) (h : tH) (Q : tO → tH → Prop)  :
    AX 39 200 1109 [.ref r0, .ref r1, .ref r2, .ref r3, .int x4, .int x5, .int x6, .float 0] [] h Q =
    AX 39 200 2137 [.ref r0, .ref r1, .ref r2, .ref r3, .int x4, .int x5, .int x6, .float 0] [] h Q := by
  rw [e_200_1109]
set_option maxRecDepth 20000 in
theorem s_200_1112 (r0 : Nat) (r1 : Nat) (r2 : Nat) (r3 : Nat) (x4 : Int32) (w5 : Value) (w6 : Value) (h : tH) (Q : tO → tH → Prop)  :
    AX 39 200 1112 [.ref r0, .ref r1, .ref r2, .ref r3, .int x4, w5, w6, .float 0] [] h Q =
    (t_in (t_ai h r0) (x4 + 1) ∧ AM 185 [.ref r1, .int (h.1 r0 (x4 + 1).toNatClampNeg), .ref r3] h (t_ki (fun a1 h1 => (t_in (t_ai h1 r0) (x4 + 1) ∧ (t_ob r2 = some 7 ∧ AM 135 [.ref r2, .int (h1.1 r0 (x4 + 1).toNatClampNeg)] h1 (t_ki (fun a2 h2 => (t_ob r2 = some 7 ∧ AM 99 [.ref r2] h2 (t_ki (fun a3 h3 => (if a3 = a1 then (if ¬ a1 = (0 : Int32) then AX 39 200 1165 [.ref r0, .ref r1, .ref r2, .ref r3, .int x4, .int a1, .int a2, .float 0] [] h3 Q else (t_in (t_lo r3) 0 ∧ (if (lg_cmp (h3.2.1 r3 (0 : Int32).toNatClampNeg) ((a2 : Int32).toInt64)) = (0 : Int32) then AX 39 200 1165 [.ref r0, .ref r1, .ref r2, .ref r3, .int x4, .int a1, .int a2, .float 0] [] h3 Q else Q (.inl (some (.int 0))) h3))) else Q (.inl (some (.int 0))) h3)) Q))) Q)))) Q)) := by
  rw [e_200_1112]
  simp only [e_200_1113, e_200_1114, e_200_1116, e_200_1117, e_200_1118, e_200_1119, e_200_1120, e_200_1123, e_200_1125, e_200_1126, e_200_1127, e_200_1129, e_200_1130, e_200_1131, e_200_1132, e_200_1135, e_200_1137, e_200_1138, e_200_1141, e_200_1143, e_200_1148, e_200_1150, e_200_1153, e_200_1154, e_200_1155, e_200_1156, e_200_1158, e_200_1159, e_200_1160, e_200_1163, e_200_1164, t_z0, e_200_1146, e_200_1147, true_and, and_true, or_true, true_or]
set_option maxRecDepth 20000 in
theorem s_200_1165 (r0 : Nat) (r1 : Nat) (r2 : Nat) (r3 : Nat) (x4 : Int32) (x5 : Int32) (x6 : Int32) (h : tH) (Q : tO → tH → Prop)  :
    AX 39 200 1165 [.ref r0, .ref r1, .ref r2, .ref r3, .int x4, .int x5, .int x6, .float 0] [] h Q =
    AX 39 200 2137 [.ref r0, .ref r1, .ref r2, .ref r3, .int x4, .int x5, .int x6, .float 0] [] h Q := by
  rw [e_200_1165]
set_option maxRecDepth 20000 in
theorem s_200_1168 (r0 : Nat) (r1 : Nat) (r2 : Nat) (r3 : Nat) (x4 : Int32) (w5 : Value) (w6 : Value) (h : tH) (Q : tO → tH → Prop)  :
    AX 39 200 1168 [.ref r0, .ref r1, .ref r2, .ref r3, .int x4, w5, w6, .float 0] [] h Q =
    (t_in (t_ai h r0) (x4 + 1) ∧ (t_in (t_ai h r0) (x4 + 2) ∧ AM 186 [.ref r1, .int (h.1 r0 (x4 + 1).toNatClampNeg), .int (h.1 r0 (x4 + 2).toNatClampNeg), .ref r3] h (t_ki (fun a1 h1 => (t_in (t_ai h1 r0) (x4 + 1) ∧ (t_in (t_ai h1 r0) (x4 + 2) ∧ (t_ob r2 = some 7 ∧ AM 140 [.ref r2, .int (h1.1 r0 (x4 + 1).toNatClampNeg), .int (h1.1 r0 (x4 + 2).toNatClampNeg)] h1 (t_ki (fun a2 h2 => (t_ob r2 = some 7 ∧ AM 99 [.ref r2] h2 (t_ki (fun a3 h3 => (if a3 = a1 then (if ¬ a1 = (0 : Int32) then AX 39 200 1233 [.ref r0, .ref r1, .ref r2, .ref r3, .int x4, .int a1, .int a2, .float 0] [] h3 Q else (t_in (t_lo r3) 0 ∧ (if (lg_cmp (h3.2.1 r3 (0 : Int32).toNatClampNeg) ((a2 : Int32).toInt64)) = (0 : Int32) then AX 39 200 1233 [.ref r0, .ref r1, .ref r2, .ref r3, .int x4, .int a1, .int a2, .float 0] [] h3 Q else Q (.inl (some (.int 0))) h3))) else Q (.inl (some (.int 0))) h3)) Q))) Q))))) Q))) := by
  rw [e_200_1168]
  simp only [e_200_1169, e_200_1170, e_200_1172, e_200_1173, e_200_1174, e_200_1175, e_200_1176, e_200_1178, e_200_1179, e_200_1180, e_200_1181, e_200_1182, e_200_1185, e_200_1187, e_200_1188, e_200_1189, e_200_1191, e_200_1192, e_200_1193, e_200_1194, e_200_1195, e_200_1197, e_200_1198, e_200_1199, e_200_1200, e_200_1203, e_200_1205, e_200_1206, e_200_1209, e_200_1211, e_200_1216, e_200_1218, e_200_1221, e_200_1222, e_200_1223, e_200_1224, e_200_1226, e_200_1227, e_200_1228, e_200_1231, e_200_1232, t_z0, e_200_1214, e_200_1215, true_and, and_true, or_true, true_or]
set_option maxRecDepth 20000 in
theorem s_200_1233 (r0 : Nat) (r1 : Nat) (r2 : Nat) (r3 : Nat) (x4 : Int32) (x5 : Int32) (x6 : Int32) (h : tH) (Q : tO → tH → Prop)  :
    AX 39 200 1233 [.ref r0, .ref r1, .ref r2, .ref r3, .int x4, .int x5, .int x6, .float 0] [] h Q =
    AX 39 200 2137 [.ref r0, .ref r1, .ref r2, .ref r3, .int x4, .int x5, .int x6, .float 0] [] h Q := by
  rw [e_200_1233]
set_option maxRecDepth 20000 in
theorem s_200_1236 (r0 : Nat) (r1 : Nat) (r2 : Nat) (r3 : Nat) (x4 : Int32) (w5 : Value) (w6 : Value) (h : tH) (Q : tO → tH → Prop)  :
    AX 39 200 1236 [.ref r0, .ref r1, .ref r2, .ref r3, .int x4, w5, w6, .float 0] [] h Q =
    (t_in (t_ai h r0) (x4 + 1) ∧ (t_in (t_ai h r0) (x4 + 2) ∧ AM 187 [.ref r1, .int (h.1 r0 (x4 + 1).toNatClampNeg), .int (h.1 r0 (x4 + 2).toNatClampNeg), .ref r3] h (t_ki (fun a1 h1 => (t_in (t_ai h1 r0) (x4 + 1) ∧ (t_in (t_ai h1 r0) (x4 + 2) ∧ (t_ob r2 = some 7 ∧ AM 141 [.ref r2, .int (h1.1 r0 (x4 + 1).toNatClampNeg), .int (h1.1 r0 (x4 + 2).toNatClampNeg)] h1 (t_ki (fun a2 h2 => (t_ob r2 = some 7 ∧ AM 99 [.ref r2] h2 (t_ki (fun a3 h3 => (if a3 = a1 then (if ¬ a1 = (0 : Int32) then AX 39 200 1301 [.ref r0, .ref r1, .ref r2, .ref r3, .int x4, .int a1, .int a2, .float 0] [] h3 Q else (t_in (t_lo r3) 0 ∧ (if (lg_cmp (h3.2.1 r3 (0 : Int32).toNatClampNeg) ((a2 : Int32).toInt64)) = (0 : Int32) then AX 39 200 1301 [.ref r0, .ref r1, .ref r2, .ref r3, .int x4, .int a1, .int a2, .float 0] [] h3 Q else Q (.inl (some (.int 0))) h3))) else Q (.inl (some (.int 0))) h3)) Q))) Q))))) Q))) := by
  rw [e_200_1236]
  simp only [e_200_1237, e_200_1238, e_200_1240, e_200_1241, e_200_1242, e_200_1243, e_200_1244, e_200_1246, e_200_1247, e_200_1248, e_200_1249, e_200_1250, e_200_1253, e_200_1255, e_200_1256, e_200_1257, e_200_1259, e_200_1260, e_200_1261, e_200_1262, e_200_1263, e_200_1265, e_200_1266, e_200_1267, e_200_1268, e_200_1271, e_200_1273, e_200_1274, e_200_1277, e_200_1279, e_200_1284, e_200_1286, e_200_1289, e_200_1290, e_200_1291, e_200_1292, e_200_1294, e_200_1295, e_200_1296, e_200_1299, e_200_1300, t_z0, e_200_1282, e_200_1283, true_and, and_true, or_true, true_or]
set_option maxRecDepth 20000 in
theorem s_200_1301 (r0 : Nat) (r1 : Nat) (r2 : Nat) (r3 : Nat) (x4 : Int32) (x5 : Int32) (x6 : Int32) (h : tH) (Q : tO → tH → Prop)  :
    AX 39 200 1301 [.ref r0, .ref r1, .ref r2, .ref r3, .int x4, .int x5, .int x6, .float 0] [] h Q =
    AX 39 200 2137 [.ref r0, .ref r1, .ref r2, .ref r3, .int x4, .int x5, .int x6, .float 0] [] h Q := by
  rw [e_200_1301]
set_option maxRecDepth 20000 in
theorem s_200_1304 (r0 : Nat) (r1 : Nat) (r2 : Nat) (r3 : Nat) (x4 : Int32) (w5 : Value) (w6 : Value) (h : tH) (Q : tO → tH → Prop)  :
    AX 39 200 1304 [.ref r0, .ref r1, .ref r2, .ref r3, .int x4, w5, w6, .float 0] [] h Q =
    (t_in (t_ai h r0) (x4 + 1) ∧ (t_in (t_ai h r0) (x4 + 2) ∧ (t_in (t_ai h r0) (x4 + 3) ∧ (t_in (t_ai h r0) (x4 + 4) ∧ (t_in (t_ai h r0) (x4 + 5) ∧ AM 188 [.ref r1, .int (h.1 r0 (x4 + 1).toNatClampNeg), .int (h.1 r0 (x4 + 2).toNatClampNeg), .int (h.1 r0 (x4 + 3).toNatClampNeg), .int (h.1 r0 (x4 + 4).toNatClampNeg), .int (h.1 r0 (x4 + 5).toNatClampNeg), .ref r3] h (t_ki (fun a1 h1 => (t_in (t_ai h1 r0) (x4 + 1) ∧ (t_in (t_ai h1 r0) (x4 + 2) ∧ (t_in (t_ai h1 r0) (x4 + 3) ∧ (t_in (t_ai h1 r0) (x4 + 4) ∧ (t_in (t_ai h1 r0) (x4 + 5) ∧ (t_ob r2 = some 7 ∧ AM 143 [.ref r2, .int (h1.1 r0 (x4 + 1).toNatClampNeg), .int (h1.1 r0 (x4 + 2).toNatClampNeg), .int (h1.1 r0 (x4 + 3).toNatClampNeg), .int (h1.1 r0 (x4 + 4).toNatClampNeg), .int (h1.1 r0 (x4 + 5).toNatClampNeg)] h1 (t_ki (fun a2 h2 => (t_ob r2 = some 7 ∧ AM 99 [.ref r2] h2 (t_ki (fun a3 h3 => (if a3 = a1 then (if ¬ a1 = (0 : Int32) then AX 39 200 1412 [.ref r0, .ref r1, .ref r2, .ref r3, .int x4, .int a1, .int a2, .float 0] [] h3 Q else (t_in (t_lo r3) 0 ∧ (if a2 = (0 : Int32) then AX 39 200 1406 [.ref r0, .ref r1, .ref r2, .ref r3, .int x4, .int a1, .int a2, .float 0] [.long 0, .long (h3.2.1 r3 (0 : Int32).toNatClampNeg)] h3 Q else AX 39 200 1406 [.ref r0, .ref r1, .ref r2, .ref r3, .int x4, .int a1, .int a2, .float 0] [.long 1, .long (h3.2.1 r3 (0 : Int32).toNatClampNeg)] h3 Q))) else Q (.inl (some (.int 0))) h3)) Q))) Q)))))))) Q)))))) := by
  rw [e_200_1304]
  simp only [e_200_1305, e_200_1306, e_200_1308, e_200_1309, e_200_1310, e_200_1311, e_200_1312, e_200_1314, e_200_1315, e_200_1316, e_200_1317, e_200_1318, e_200_1320, e_200_1321, e_200_1322, e_200_1323, e_200_1324, e_200_1326, e_200_1327, e_200_1328, e_200_1329, e_200_1330, e_200_1332, e_200_1333, e_200_1334, e_200_1335, e_200_1336, e_200_1339, e_200_1341, e_200_1342, e_200_1343, e_200_1345, e_200_1346, e_200_1347, e_200_1348, e_200_1349, e_200_1351, e_200_1352, e_200_1353, e_200_1354, e_200_1355, e_200_1357, e_200_1358, e_200_1359, e_200_1360, e_200_1361, e_200_1363, e_200_1364, e_200_1365, e_200_1366, e_200_1367, e_200_1369, e_200_1370, e_200_1371, e_200_1372, e_200_1375, e_200_1377, e_200_1378, e_200_1381, e_200_1383, e_200_1388, e_200_1390, e_200_1393, e_200_1394, e_200_1395, e_200_1396, e_200_1398, e_200_1405, e_200_1401, e_200_1402, e_200_1386, e_200_1387, t_z0, true_and, and_true, or_true, true_or]
set_option maxRecDepth 20000 in
theorem s_200_1406 (r0 : Nat) (r1 : Nat) (r2 : Nat) (r3 : Nat) (x4 : Int32) (x5 : Int32) (x6 : Int32) (v0 : Int64) (v1 : Int64) (h : tH) (Q : tO → tH → Prop)  :
    AX 39 200 1406 [.ref r0, .ref r1, .ref r2, .ref r3, .int x4, .int x5, .int x6, .float 0] [.long v0, .long v1] h Q =
    (if (lg_cmp v1 v0) = (0 : Int32) then AX 39 200 1412 [.ref r0, .ref r1, .ref r2, .ref r3, .int x4, .int x5, .int x6, .float 0] [] h Q else Q (.inl (some (.int 0))) h) := by
  rw [e_200_1406]
  simp only [e_200_1407, e_200_1410, e_200_1411, t_z0, true_and, and_true, or_true, true_or]
set_option maxRecDepth 20000 in
theorem s_200_1412 (r0 : Nat) (r1 : Nat) (r2 : Nat) (r3 : Nat) (x4 : Int32) (x5 : Int32) (x6 : Int32) (h : tH) (Q : tO → tH → Prop)  :
    AX 39 200 1412 [.ref r0, .ref r1, .ref r2, .ref r3, .int x4, .int x5, .int x6, .float 0] [] h Q =
    AX 39 200 2137 [.ref r0, .ref r1, .ref r2, .ref r3, .int x4, .int x5, .int x6, .float 0] [] h Q := by
  rw [e_200_1412]
set_option maxRecDepth 20000 in
theorem s_200_1415 (r0 : Nat) (r1 : Nat) (r2 : Nat) (r3 : Nat) (x4 : Int32) (w5 : Value) (w6 : Value) (h : tH) (Q : tO → tH → Prop)  :
    AX 39 200 1415 [.ref r0, .ref r1, .ref r2, .ref r3, .int x4, w5, w6, .float 0] [] h Q =
    (t_in (t_ai h r0) (x4 + 1) ∧ AM 189 [.ref r1, .int (h.1 r0 (x4 + 1).toNatClampNeg), .ref r3] h (t_ki (fun a1 h1 => (t_in (t_ai h1 r0) (x4 + 1) ∧ (t_ob r2 = some 7 ∧ AM 145 [.ref r2, .int (h1.1 r0 (x4 + 1).toNatClampNeg)] h1 (t_ki (fun a2 h2 => (t_ob r2 = some 7 ∧ AM 99 [.ref r2] h2 (t_ki (fun a3 h3 => (if a3 = a1 then (if ¬ a1 = (0 : Int32) then AX 39 200 1468 [.ref r0, .ref r1, .ref r2, .ref r3, .int x4, .int a1, .int a2, .float 0] [] h3 Q else (t_in (t_lo r3) 0 ∧ (if (lg_cmp (h3.2.1 r3 (0 : Int32).toNatClampNeg) ((a2 : Int32).toInt64)) = (0 : Int32) then AX 39 200 1468 [.ref r0, .ref r1, .ref r2, .ref r3, .int x4, .int a1, .int a2, .float 0] [] h3 Q else Q (.inl (some (.int 0))) h3))) else Q (.inl (some (.int 0))) h3)) Q))) Q)))) Q)) := by
  rw [e_200_1415]
  simp only [e_200_1416, e_200_1417, e_200_1419, e_200_1420, e_200_1421, e_200_1422, e_200_1423, e_200_1426, e_200_1428, e_200_1429, e_200_1430, e_200_1432, e_200_1433, e_200_1434, e_200_1435, e_200_1438, e_200_1440, e_200_1441, e_200_1444, e_200_1446, e_200_1451, e_200_1453, e_200_1456, e_200_1457, e_200_1458, e_200_1459, e_200_1461, e_200_1462, e_200_1463, e_200_1466, e_200_1467, t_z0, e_200_1449, e_200_1450, true_and, and_true, or_true, true_or]
set_option maxRecDepth 20000 in
theorem s_200_1468 (r0 : Nat) (r1 : Nat) (r2 : Nat) (r3 : Nat) (x4 : Int32) (x5 : Int32) (x6 : Int32) (h : tH) (Q : tO → tH → Prop)  :
    AX 39 200 1468 [.ref r0, .ref r1, .ref r2, .ref r3, .int x4, .int x5, .int x6, .float 0] [] h Q =
    AX 39 200 2137 [.ref r0, .ref r1, .ref r2, .ref r3, .int x4, .int x5, .int x6, .float 0] [] h Q := by
  rw [e_200_1468]
set_option maxRecDepth 20000 in
theorem s_200_1471 (r0 : Nat) (r1 : Nat) (r2 : Nat) (r3 : Nat) (x4 : Int32) (w5 : Value) (w6 : Value) (h : tH) (Q : tO → tH → Prop)  :
    AX 39 200 1471 [.ref r0, .ref r1, .ref r2, .ref r3, .int x4, w5, w6, .float 0] [] h Q =
    (t_in (t_ai h r0) (x4 + 1) ∧ AM 190 [.ref r1, .int (h.1 r0 (x4 + 1).toNatClampNeg), .ref r3] h (t_ki (fun a1 h1 => (t_in (t_ai h1 r0) (x4 + 1) ∧ (t_ob r2 = some 7 ∧ AM 147 [.ref r2, .int (h1.1 r0 (x4 + 1).toNatClampNeg)] h1 (t_ki (fun a2 h2 => (t_ob r2 = some 7 ∧ AM 99 [.ref r2] h2 (t_ki (fun a3 h3 => (if a3 = a1 then (if ¬ a1 = (0 : Int32) then AX 39 200 1524 [.ref r0, .ref r1, .ref r2, .ref r3, .int x4, .int a1, .int a2, .float 0] [] h3 Q else (t_in (t_lo r3) 0 ∧ (if (lg_cmp (h3.2.1 r3 (0 : Int32).toNatClampNeg) ((a2 : Int32).toInt64)) = (0 : Int32) then AX 39 200 1524 [.ref r0, .ref r1, .ref r2, .ref r3, .int x4, .int a1, .int a2, .float 0] [] h3 Q else Q (.inl (some (.int 0))) h3))) else Q (.inl (some (.int 0))) h3)) Q))) Q)))) Q)) := by
  rw [e_200_1471]
  simp only [e_200_1472, e_200_1473, e_200_1475, e_200_1476, e_200_1477, e_200_1478, e_200_1479, e_200_1482, e_200_1484, e_200_1485, e_200_1486, e_200_1488, e_200_1489, e_200_1490, e_200_1491, e_200_1494, e_200_1496, e_200_1497, e_200_1500, e_200_1502, e_200_1507, e_200_1509, e_200_1512, e_200_1513, e_200_1514, e_200_1515, e_200_1517, e_200_1518, e_200_1519, e_200_1522, e_200_1523, t_z0, e_200_1505, e_200_1506, true_and, and_true, or_true, true_or]
set_option maxRecDepth 20000 in
theorem s_200_1524 (r0 : Nat) (r1 : Nat) (r2 : Nat) (r3 : Nat) (x4 : Int32) (x5 : Int32) (x6 : Int32) (h : tH) (Q : tO → tH → Prop)  :
    AX 39 200 1524 [.ref r0, .ref r1, .ref r2, .ref r3, .int x4, .int x5, .int x6, .float 0] [] h Q =
    AX 39 200 2137 [.ref r0, .ref r1, .ref r2, .ref r3, .int x4, .int x5, .int x6, .float 0] [] h Q := by
  rw [e_200_1524]
set_option maxRecDepth 20000 in
theorem s_200_1527 (r0 : Nat) (r1 : Nat) (r2 : Nat) (r3 : Nat) (x4 : Int32) (w5 : Value) (w6 : Value) (h : tH) (Q : tO → tH → Prop)  :
    AX 39 200 1527 [.ref r0, .ref r1, .ref r2, .ref r3, .int x4, w5, w6, .float 0] [] h Q =
    (t_in (t_ai h r0) (x4 + 1) ∧ (t_in (t_ai h r0) (x4 + 2) ∧ AM 191 [.ref r1, .int (h.1 r0 (x4 + 1).toNatClampNeg), .int (h.1 r0 (x4 + 2).toNatClampNeg), .ref r3] h (t_ki (fun a1 h1 => (t_in (t_ai h1 r0) (x4 + 1) ∧ (t_in (t_ai h1 r0) (x4 + 2) ∧ (t_ob r2 = some 7 ∧ AM 149 [.ref r2, .int (h1.1 r0 (x4 + 1).toNatClampNeg), .int (h1.1 r0 (x4 + 2).toNatClampNeg)] h1 (t_ki (fun a2 h2 => (t_ob r2 = some 7 ∧ AM 99 [.ref r2] h2 (t_ki (fun a3 h3 => (if a3 = a1 then (if ¬ a1 = (0 : Int32) then AX 39 200 1592 [.ref r0, .ref r1, .ref r2, .ref r3, .int x4, .int a1, .int a2, .float 0] [] h3 Q else (t_in (t_lo r3) 0 ∧ (if (lg_cmp (h3.2.1 r3 (0 : Int32).toNatClampNeg) ((a2 : Int32).toInt64)) = (0 : Int32) then AX 39 200 1592 [.ref r0, .ref r1, .ref r2, .ref r3, .int x4, .int a1, .int a2, .float 0] [] h3 Q else Q (.inl (some (.int 0))) h3))) else Q (.inl (some (.int 0))) h3)) Q))) Q))))) Q))) := by
  rw [e_200_1527]
  simp only [e_200_1528, e_200_1529, e_200_1531, e_200_1532, e_200_1533, e_200_1534, e_200_1535, e_200_1537, e_200_1538, e_200_1539, e_200_1540, e_200_1541, e_200_1544, e_200_1546, e_200_1547, e_200_1548, e_200_1550, e_200_1551, e_200_1552, e_200_1553, e_200_1554, e_200_1556, e_200_1557, e_200_1558, e_200_1559, e_200_1562, e_200_1564, e_200_1565, e_200_1568, e_200_1570, e_200_1575, e_200_1577, e_200_1580, e_200_1581, e_200_1582, e_200_1583, e_200_1585, e_200_1586, e_200_1587, e_200_1590, e_200_1591, t_z0, e_200_1573, e_200_1574, true_and, and_true, or_true, true_or]
set_option maxRecDepth 20000 in
theorem s_200_1592 (r0 : Nat) (r1 : Nat) (r2 : Nat) (r3 : Nat) (x4 : Int32) (x5 : Int32) (x6 : Int32) (h : tH) (Q : tO → tH → Prop)  :
    AX 39 200 1592 [.ref r0, .ref r1, .ref r2, .ref r3, .int x4, .int x5, .int x6, .float 0] [] h Q =
    AX 39 200 2137 [.ref r0, .ref r1, .ref r2, .ref r3, .int x4, .int x5, .int x6, .float 0] [] h Q := by
  rw [e_200_1592]
set_option maxRecDepth 20000 in
theorem s_200_1595 (r0 : Nat) (r1 : Nat) (r2 : Nat) (r3 : Nat) (x4 : Int32) (w5 : Value) (w6 : Value) (h : tH) (Q : tO → tH → Prop)  :
    AX 39 200 1595 [.ref r0, .ref r1, .ref r2, .ref r3, .int x4, w5, w6, .float 0] [] h Q =
    (t_in (t_ai h r0) (x4 + 1) ∧ (t_in (t_ai h r0) (x4 + 2) ∧ AM 192 [.ref r1, .int (h.1 r0 (x4 + 1).toNatClampNeg), .int (h.1 r0 (x4 + 2).toNatClampNeg), .ref r3] h (t_ki (fun a1 h1 => (t_in (t_ai h1 r0) (x4 + 1) ∧ (t_in (t_ai h1 r0) (x4 + 2) ∧ (t_ob r2 = some 7 ∧ AM 154 [.ref r2, .int (h1.1 r0 (x4 + 1).toNatClampNeg), .int (h1.1 r0 (x4 + 2).toNatClampNeg)] h1 (t_ki (fun a2 h2 => (t_ob r2 = some 7 ∧ AM 99 [.ref r2] h2 (t_ki (fun a3 h3 => (if a3 = a1 then (if ¬ a1 = (0 : Int32) then AX 39 200 1660 [.ref r0, .ref r1, .ref r2, .ref r3, .int x4, .int a1, .int a2, .float 0] [] h3 Q else (t_in (t_lo r3) 0 ∧ (if (lg_cmp (h3.2.1 r3 (0 : Int32).toNatClampNeg) ((a2 : Int32).toInt64)) = (0 : Int32) then AX 39 200 1660 [.ref r0, .ref r1, .ref r2, .ref r3, .int x4, .int a1, .int a2, .float 0] [] h3 Q else Q (.inl (some (.int 0))) h3))) else Q (.inl (some (.int 0))) h3)) Q))) Q))))) Q))) := by
  rw [e_200_1595]
  simp only [e_200_1596, e_200_1597, e_200_1599, e_200_1600, e_200_1601, e_200_1602, e_200_1603, e_200_1605, e_200_1606, e_200_1607, e_200_1608, e_200_1609, e_200_1612, e_200_1614, e_200_1615, e_200_1616, e_200_1618, e_200_1619, e_200_1620, e_200_1621, e_200_1622, e_200_1624, e_200_1625, e_200_1626, e_200_1627, e_200_1630, e_200_1632, e_200_1633, e_200_1636, e_200_1638, e_200_1643, e_200_1645, e_200_1648, e_200_1649, e_200_1650, e_200_1651, e_200_1653, e_200_1654, e_200_1655, e_200_1658, e_200_1659, t_z0, e_200_1641, e_200_1642, true_and, and_true, or_true, true_or]
set_option maxRecDepth 20000 in
theorem s_200_1660 (r0 : Nat) (r1 : Nat) (r2 : Nat) (r3 : Nat) (x4 : Int32) (x5 : Int32) (x6 : Int32) (h : tH) (Q : tO → tH → Prop)  :
    AX 39 200 1660 [.ref r0, .ref r1, .ref r2, .ref r3, .int x4, .int x5, .int x6, .float 0] [] h Q =
    AX 39 200 2137 [.ref r0, .ref r1, .ref r2, .ref r3, .int x4, .int x5, .int x6, .float 0] [] h Q := by
  rw [e_200_1660]
set_option maxRecDepth 20000 in
theorem s_200_1663 (r0 : Nat) (r1 : Nat) (r2 : Nat) (r3 : Nat) (x4 : Int32) (w5 : Value) (w6 : Value) (h : tH) (Q : tO → tH → Prop)  :
    AX 39 200 1663 [.ref r0, .ref r1, .ref r2, .ref r3, .int x4, w5, w6, .float 0] [] h Q =
    (t_in (t_ai h r0) (x4 + 1) ∧ AM 193 [.ref r1, .int (h.1 r0 (x4 + 1).toNatClampNeg), .ref r3] h (t_ki (fun a1 h1 => (t_in (t_ai h1 r0) (x4 + 1) ∧ (t_ob r2 = some 7 ∧ AM 158 [.ref r2, .int (h1.1 r0 (x4 + 1).toNatClampNeg)] h1 (t_ki (fun a2 h2 => (t_ob r2 = some 7 ∧ AM 99 [.ref r2] h2 (t_ki (fun a3 h3 => (if a3 = a1 then (if ¬ a1 = (0 : Int32) then AX 39 200 1716 [.ref r0, .ref r1, .ref r2, .ref r3, .int x4, .int a1, .int a2, .float 0] [] h3 Q else (t_in (t_lo r3) 0 ∧ (if (lg_cmp (h3.2.1 r3 (0 : Int32).toNatClampNeg) ((a2 : Int32).toInt64)) = (0 : Int32) then AX 39 200 1716 [.ref r0, .ref r1, .ref r2, .ref r3, .int x4, .int a1, .int a2, .float 0] [] h3 Q else Q (.inl (some (.int 0))) h3))) else Q (.inl (some (.int 0))) h3)) Q))) Q)))) Q)) := by
  rw [e_200_1663]
  simp only [e_200_1664, e_200_1665, e_200_1667, e_200_1668, e_200_1669, e_200_1670, e_200_1671, e_200_1674, e_200_1676, e_200_1677, e_200_1678, e_200_1680, e_200_1681, e_200_1682, e_200_1683, e_200_1686, e_200_1688, e_200_1689, e_200_1692, e_200_1694, e_200_1699, e_200_1701, e_200_1704, e_200_1705, e_200_1706, e_200_1707, e_200_1709, e_200_1710, e_200_1711, e_200_1714, e_200_1715, t_z0, e_200_1697, e_200_1698, true_and, and_true, or_true, true_or]
set_option maxRecDepth 20000 in
theorem s_200_1716 (r0 : Nat) (r1 : Nat) (r2 : Nat) (r3 : Nat) (x4 : Int32) (x5 : Int32) (x6 : Int32) (h : tH) (Q : tO → tH → Prop)  :
    AX 39 200 1716 [.ref r0, .ref r1, .ref r2, .ref r3, .int x4, .int x5, .int x6, .float 0] [] h Q =
    AX 39 200 2137 [.ref r0, .ref r1, .ref r2, .ref r3, .int x4, .int x5, .int x6, .float 0] [] h Q := by
  rw [e_200_1716]
set_option maxRecDepth 20000 in
theorem s_200_1719 (r0 : Nat) (r1 : Nat) (r2 : Nat) (r3 : Nat) (x4 : Int32) (w5 : Value) (w6 : Value) (h : tH) (Q : tO → tH → Prop)  :
    AX 39 200 1719 [.ref r0, .ref r1, .ref r2, .ref r3, .int x4, w5, w6, .float 0] [] h Q =
    (t_in (t_ai h r0) (x4 + 1) ∧ AM 194 [.ref r1, .int (h.1 r0 (x4 + 1).toNatClampNeg), .ref r3] h (t_ki (fun a1 h1 => (t_in (t_ai h1 r0) (x4 + 1) ∧ (t_ob r2 = some 7 ∧ AM 159 [.ref r2, .int (h1.1 r0 (x4 + 1).toNatClampNeg)] h1 (t_ki (fun a2 h2 => (t_ob r2 = some 7 ∧ AM 99 [.ref r2] h2 (t_ki (fun a3 h3 => (if a3 = a1 then (if ¬ a1 = (0 : Int32) then AX 39 200 1772 [.ref r0, .ref r1, .ref r2, .ref r3, .int x4, .int a1, .int a2, .float 0] [] h3 Q else (t_in (t_lo r3) 0 ∧ (if (lg_cmp (h3.2.1 r3 (0 : Int32).toNatClampNeg) ((a2 : Int32).toInt64)) = (0 : Int32) then AX 39 200 1772 [.ref r0, .ref r1, .ref r2, .ref r3, .int x4, .int a1, .int a2, .float 0] [] h3 Q else Q (.inl (some (.int 0))) h3))) else Q (.inl (some (.int 0))) h3)) Q))) Q)))) Q)) := by
  rw [e_200_1719]
  simp only [e_200_1720, e_200_1721, e_200_1723, e_200_1724, e_200_1725, e_200_1726, e_200_1727, e_200_1730, e_200_1732, e_200_1733, e_200_1734, e_200_1736, e_200_1737, e_200_1738, e_200_1739, e_200_1742, e_200_1744, e_200_1745, e_200_1748, e_200_1750, e_200_1755, e_200_1757, e_200_1760, e_200_1761, e_200_1762, e_200_1763, e_200_1765, e_200_1766, e_200_1767, e_200_1770, e_200_1771, t_z0, e_200_1753, e_200_1754, true_and, and_true, or_true, true_or]
set_option maxRecDepth 20000 in
theorem s_200_1772 (r0 : Nat) (r1 : Nat) (r2 : Nat) (r3 : Nat) (x4 : Int32) (x5 : Int32) (x6 : Int32) (h : tH) (Q : tO → tH → Prop)  :
    AX 39 200 1772 [.ref r0, .ref r1, .ref r2, .ref r3, .int x4, .int x5, .int x6, .float 0] [] h Q =
    AX 39 200 2137 [.ref r0, .ref r1, .ref r2, .ref r3, .int x4, .int x5, .int x6, .float 0] [] h Q := by
  rw [e_200_1772]
set_option maxRecDepth 20000 in
theorem s_200_1775 (r0 : Nat) (r1 : Nat) (r2 : Nat) (r3 : Nat) (x4 : Int32) (w5 : Value) (w6 : Value) (h : tH) (Q : tO → tH → Prop)  :
    AX 39 200 1775 [.ref r0, .ref r1, .ref r2, .ref r3, .int x4, w5, w6, .float 0] [] h Q =
    (t_in (t_ai h r0) (x4 + 1) ∧ (t_in (t_ai h r0) (x4 + 2) ∧ AM 195 [.ref r1, .int (h.1 r0 (x4 + 1).toNatClampNeg), .int (if (h.1 r0 (x4 + 2).toNatClampNeg) = (0 : Int32) then (0 : Int32) else 1), .ref r3] h (t_ki (fun a1 h1 => (t_in (t_ai h1 r0) (x4 + 1) ∧ (t_in (t_ai h1 r0) (x4 + 2) ∧ (t_ob r2 = some 7 ∧ AM 161 [.ref r2, .int (h1.1 r0 (x4 + 1).toNatClampNeg), .int (if (h1.1 r0 (x4 + 2).toNatClampNeg) = (0 : Int32) then (0 : Int32) else 1)] h1 (t_kl (fun a2 h2 => (t_ob r2 = some 7 ∧ AM 99 [.ref r2] h2 (t_ki (fun a3 h3 => (if a3 = a1 then (if ¬ a1 = (0 : Int32) then AX 39 200 1855 [.ref r0, .ref r1, .ref r2, .ref r3, .int x4, .int a1, .long a2, .float 0] [] h3 Q else (t_in (t_lo r3) 0 ∧ (if (lg_cmp (h3.2.1 r3 (0 : Int32).toNatClampNeg) a2) = (0 : Int32) then AX 39 200 1855 [.ref r0, .ref r1, .ref r2, .ref r3, .int x4, .int a1, .long a2, .float 0] [] h3 Q else Q (.inl (some (.int 0))) h3))) else Q (.inl (some (.int 0))) h3)) Q))) Q))))) Q))) := by
  rw [e_200_1775]
  simp only [e_200_1776, e_200_1777, e_200_1779, e_200_1780, e_200_1781, e_200_1782, e_200_1783, e_200_1785, e_200_1786, e_200_1787, b_200_1788, e_200_1796, e_200_1797, e_200_1800, e_200_1802, e_200_1803, e_200_1804, e_200_1806, e_200_1807, e_200_1808, e_200_1809, e_200_1810, e_200_1812, e_200_1813, e_200_1814, b_200_1815, e_200_1823, e_200_1826, e_200_1828, e_200_1829, e_200_1832, e_200_1834, e_200_1839, e_200_1841, e_200_1844, e_200_1845, e_200_1846, e_200_1847, e_200_1849, e_200_1850, e_200_1853, e_200_1854, t_z0, e_200_1837, e_200_1838, true_and, and_true, or_true, true_or]
set_option maxRecDepth 20000 in
theorem s_200_1855 (r0 : Nat) (r1 : Nat) (r2 : Nat) (r3 : Nat) (x4 : Int32) (x5 : Int32) (y6 : Int64) (h : tH) (Q : tO → tH → Prop)  :
    AX 39 200 1855 [.ref r0, .ref r1, .ref r2, .ref r3, .int x4, .int x5, .long y6, .float 0] [] h Q =
    AX 39 200 2137 [.ref r0, .ref r1, .ref r2, .ref r3, .int x4, .int x5, .long y6, .float 0] [] h Q := by
  rw [e_200_1855]
set_option maxRecDepth 20000 in
theorem s_200_1858 (r0 : Nat) (r1 : Nat) (r2 : Nat) (r3 : Nat) (x4 : Int32) (w5 : Value) (w6 : Value) (h : tH) (Q : tO → tH → Prop)  :
    AX 39 200 1858 [.ref r0, .ref r1, .ref r2, .ref r3, .int x4, w5, w6, .float 0] [] h Q =
    (t_in (t_ai h r0) (x4 + 1) ∧ AM 196 [.ref r1, .int (h.1 r0 (x4 + 1).toNatClampNeg), .ref r3] h (t_ki (fun a1 h1 => (t_in (t_ai h1 r0) (x4 + 1) ∧ (t_ob r2 = some 7 ∧ AM 165 [.ref r2, .int (h1.1 r0 (x4 + 1).toNatClampNeg)] h1 (t_ki (fun a2 h2 => (t_ob r2 = some 7 ∧ AM 99 [.ref r2] h2 (t_ki (fun a3 h3 => (if a3 = a1 then (if ¬ a1 = (0 : Int32) then AX 39 200 1911 [.ref r0, .ref r1, .ref r2, .ref r3, .int x4, .int a1, .int a2, .float 0] [] h3 Q else (t_in (t_lo r3) 0 ∧ (if (lg_cmp (h3.2.1 r3 (0 : Int32).toNatClampNeg) ((a2 : Int32).toInt64)) = (0 : Int32) then AX 39 200 1911 [.ref r0, .ref r1, .ref r2, .ref r3, .int x4, .int a1, .int a2, .float 0] [] h3 Q else Q (.inl (some (.int 0))) h3))) else Q (.inl (some (.int 0))) h3)) Q))) Q)))) Q)) := by
  rw [e_200_1858]
  simp only [e_200_1859, e_200_1860, e_200_1862, e_200_1863, e_200_1864, e_200_1865, e_200_1866, e_200_1869, e_200_1871, e_200_1872, e_200_1873, e_200_1875, e_200_1876, e_200_1877, e_200_1878, e_200_1881, e_200_1883, e_200_1884, e_200_1887, e_200_1889, e_200_1894, e_200_1896, e_200_1899, e_200_1900, e_200_1901, e_200_1902, e_200_1904, e_200_1905, e_200_1906, e_200_1909, e_200_1910, t_z0, e_200_1892, e_200_1893, true_and, and_true, or_true, true_or]
set_option maxRecDepth 20000 in
theorem s_200_1911 (r0 : Nat) (r1 : Nat) (r2 : Nat) (r3 : Nat) (x4 : Int32) (x5 : Int32) (x6 : Int32) (h : tH) (Q : tO → tH → Prop)  :
    AX 39 200 1911 [.ref r0, .ref r1, .ref r2, .ref r3, .int x4, .int x5, .int x6, .float 0] [] h Q =
    AX 39 200 2137 [.ref r0, .ref r1, .ref r2, .ref r3, .int x4, .int x5, .int x6, .float 0] [] h Q := by
  rw [e_200_1911]
set_option maxRecDepth 20000 in
theorem s_200_1914 (r0 : Nat) (r1 : Nat) (r2 : Nat) (r3 : Nat) (x4 : Int32) (w5 : Value) (w6 : Value) (h : tH) (Q : tO → tH → Prop)  :
    AX 39 200 1914 [.ref r0, .ref r1, .ref r2, .ref r3, .int x4, w5, w6, .float 0] [] h Q =
    (t_in (t_ai h r0) (x4 + 1) ∧ (t_in (t_ai h r0) (x4 + 2) ∧ (t_in (t_ai h r0) (x4 + 3) ∧ AM 197 [.ref r1, .int (h.1 r0 (x4 + 1).toNatClampNeg), .int (h.1 r0 (x4 + 2).toNatClampNeg), .int (h.1 r0 (x4 + 3).toNatClampNeg), .ref r3] h (t_ki (fun a1 h1 => (t_in (t_ai h1 r0) (x4 + 1) ∧ (t_in (t_ai h1 r0) (x4 + 2) ∧ (t_in (t_ai h1 r0) (x4 + 3) ∧ (t_ob r2 = some 7 ∧ AM 168 [.ref r2, .int (h1.1 r0 (x4 + 1).toNatClampNeg), .int (h1.1 r0 (x4 + 2).toNatClampNeg), .int (h1.1 r0 (x4 + 3).toNatClampNeg)] h1 (t_ki (fun a2 h2 => (t_ob r2 = some 7 ∧ AM 99 [.ref r2] h2 (t_ki (fun a3 h3 => (if a3 = a1 then (if ¬ a1 = (0 : Int32) then AX 39 200 1991 [.ref r0, .ref r1, .ref r2, .ref r3, .int x4, .int a1, .int a2, .float 0] [] h3 Q else (t_in (t_lo r3) 0 ∧ (if (lg_cmp (h3.2.1 r3 (0 : Int32).toNatClampNeg) ((a2 : Int32).toInt64)) = (0 : Int32) then AX 39 200 1991 [.ref r0, .ref r1, .ref r2, .ref r3, .int x4, .int a1, .int a2, .float 0] [] h3 Q else Q (.inl (some (.int 0))) h3))) else Q (.inl (some (.int 0))) h3)) Q))) Q)))))) Q)))) := by
  rw [e_200_1914]
  simp only [e_200_1915, e_200_1916, e_200_1918, e_200_1919, e_200_1920, e_200_1921, e_200_1922, e_200_1924, e_200_1925, e_200_1926, e_200_1927, e_200_1928, e_200_1930, e_200_1931, e_200_1932, e_200_1933, e_200_1934, e_200_1937, e_200_1939, e_200_1940, e_200_1941, e_200_1943, e_200_1944, e_200_1945, e_200_1946, e_200_1947, e_200_1949, e_200_1950, e_200_1951, e_200_1952, e_200_1953, e_200_1955, e_200_1956, e_200_1957, e_200_1958, e_200_1961, e_200_1963, e_200_1964, e_200_1967, e_200_1969, e_200_1974, e_200_1976, e_200_1979, e_200_1980, e_200_1981, e_200_1982, e_200_1984, e_200_1985, e_200_1986, e_200_1989, e_200_1990, t_z0, e_200_1972, e_200_1973, true_and, and_true, or_true, true_or]
set_option maxRecDepth 20000 in
theorem s_200_1991 (r0 : Nat) (r1 : Nat) (r2 : Nat) (r3 : Nat) (x4 : Int32) (x5 : Int32) (x6 : Int32) (h : tH) (Q : tO → tH → Prop)  :
    AX 39 200 1991 [.ref r0, .ref r1, .ref r2, .ref r3, .int x4, .int x5, .int x6, .float 0] [] h Q =
    AX 39 200 2137 [.ref r0, .ref r1, .ref r2, .ref r3, .int x4, .int x5, .int x6, .float 0] [] h Q := by
  rw [e_200_1991]
set_option maxRecDepth 20000 in
theorem s_200_1994 (r0 : Nat) (r1 : Nat) (r2 : Nat) (r3 : Nat) (x4 : Int32) (w5 : Value) (w6 : Value) (h : tH) (Q : tO → tH → Prop)  :
    AX 39 200 1994 [.ref r0, .ref r1, .ref r2, .ref r3, .int x4, w5, w6, .float 0] [] h Q =
    (t_in (t_ai h r0) (x4 + 1) ∧ (t_in (t_ai h r0) (x4 + 2) ∧ (t_in (t_ai h r0) (x4 + 3) ∧ AM 198 [.ref r1, .int (h.1 r0 (x4 + 1).toNatClampNeg), .int (h.1 r0 (x4 + 2).toNatClampNeg), .int (h.1 r0 (x4 + 3).toNatClampNeg), .ref r3] h (t_ki (fun a1 h1 => (t_in (t_ai h1 r0) (x4 + 1) ∧ (t_in (t_ai h1 r0) (x4 + 2) ∧ (t_in (t_ai h1 r0) (x4 + 3) ∧ (t_ob r2 = some 7 ∧ AM 169 [.ref r2, .int (h1.1 r0 (x4 + 1).toNatClampNeg), .int (h1.1 r0 (x4 + 2).toNatClampNeg), .int (h1.1 r0 (x4 + 3).toNatClampNeg)] h1 (t_ki (fun a2 h2 => (t_ob r2 = some 7 ∧ AM 99 [.ref r2] h2 (t_ki (fun a3 h3 => (if a3 = a1 then (if ¬ a1 = (0 : Int32) then AX 39 200 2078 [.ref r0, .ref r1, .ref r2, .ref r3, .int x4, .int a1, .int a2, .float 0] [] h3 Q else (t_in (t_lo r3) 0 ∧ (if a2 = (0 : Int32) then AX 39 200 2072 [.ref r0, .ref r1, .ref r2, .ref r3, .int x4, .int a1, .int a2, .float 0] [.long 0, .long (h3.2.1 r3 (0 : Int32).toNatClampNeg)] h3 Q else AX 39 200 2072 [.ref r0, .ref r1, .ref r2, .ref r3, .int x4, .int a1, .int a2, .float 0] [.long 1, .long (h3.2.1 r3 (0 : Int32).toNatClampNeg)] h3 Q))) else Q (.inl (some (.int 0))) h3)) Q))) Q)))))) Q)))) := by
  rw [e_200_1994]
  simp only [e_200_1995, e_200_1996, e_200_1998, e_200_1999, e_200_2000, e_200_2001, e_200_2002, e_200_2004, e_200_2005, e_200_2006, e_200_2007, e_200_2008, e_200_2010, e_200_2011, e_200_2012, e_200_2013, e_200_2014, e_200_2017, e_200_2019, e_200_2020, e_200_2021, e_200_2023, e_200_2024, e_200_2025, e_200_2026, e_200_2027, e_200_2029, e_200_2030, e_200_2031, e_200_2032, e_200_2033, e_200_2035, e_200_2036, e_200_2037, e_200_2038, e_200_2041, e_200_2043, e_200_2044, e_200_2047, e_200_2049, e_200_2054, e_200_2056, e_200_2059, e_200_2060, e_200_2061, e_200_2062, e_200_2064, e_200_2071, e_200_2067, e_200_2068, e_200_2052, e_200_2053, t_z0, true_and, and_true, or_true, true_or]
set_option maxRecDepth 20000 in
theorem s_200_2072 (r0 : Nat) (r1 : Nat) (r2 : Nat) (r3 : Nat) (x4 : Int32) (x5 : Int32) (x6 : Int32) (v0 : Int64) (v1 : Int64) (h : tH) (Q : tO → tH → Prop)  :
    AX 39 200 2072 [.ref r0, .ref r1, .ref r2, .ref r3, .int x4, .int x5, .int x6, .float 0] [.long v0, .long v1] h Q =
    (if (lg_cmp v1 v0) = (0 : Int32) then AX 39 200 2078 [.ref r0, .ref r1, .ref r2, .ref r3, .int x4, .int x5, .int x6, .float 0] [] h Q else Q (.inl (some (.int 0))) h) := by
  rw [e_200_2072]
  simp only [e_200_2073, e_200_2076, e_200_2077, t_z0, true_and, and_true, or_true, true_or]
set_option maxRecDepth 20000 in
theorem s_200_2078 (r0 : Nat) (r1 : Nat) (r2 : Nat) (r3 : Nat) (x4 : Int32) (x5 : Int32) (x6 : Int32) (h : tH) (Q : tO → tH → Prop)  :
    AX 39 200 2078 [.ref r0, .ref r1, .ref r2, .ref r3, .int x4, .int x5, .int x6, .float 0] [] h Q =
    AX 39 200 2137 [.ref r0, .ref r1, .ref r2, .ref r3, .int x4, .int x5, .int x6, .float 0] [] h Q := by
  rw [e_200_2078]
set_option maxRecDepth 20000 in
theorem s_200_2081 (r0 : Nat) (r1 : Nat) (r2 : Nat) (r3 : Nat) (x4 : Int32) (w5 : Value) (w6 : Value) (h : tH) (Q : tO → tH → Prop)  :
    AX 39 200 2081 [.ref r0, .ref r1, .ref r2, .ref r3, .int x4, w5, w6, .float 0] [] h Q =
    (t_in (t_ai h r0) (x4 + 1) ∧ AM 199 [.ref r1, .int (h.1 r0 (x4 + 1).toNatClampNeg), .ref r3] h (t_ki (fun a1 h1 => (t_in (t_ai h1 r0) (x4 + 1) ∧ (t_ob r2 = some 7 ∧ AM 171 [.ref r2, .int (h1.1 r0 (x4 + 1).toNatClampNeg)] h1 (t_ki (fun a2 h2 => (t_ob r2 = some 7 ∧ AM 99 [.ref r2] h2 (t_ki (fun a3 h3 => (if a3 = a1 then (if ¬ a1 = (0 : Int32) then AX 39 200 2134 [.ref r0, .ref r1, .ref r2, .ref r3, .int x4, .int a1, .int a2, .float 0] [] h3 Q else (t_in (t_lo r3) 0 ∧ (if (lg_cmp (h3.2.1 r3 (0 : Int32).toNatClampNeg) ((a2 : Int32).toInt64)) = (0 : Int32) then AX 39 200 2134 [.ref r0, .ref r1, .ref r2, .ref r3, .int x4, .int a1, .int a2, .float 0] [] h3 Q else Q (.inl (some (.int 0))) h3))) else Q (.inl (some (.int 0))) h3)) Q))) Q)))) Q)) := by
  rw [e_200_2081]
  simp only [e_200_2082, e_200_2083, e_200_2085, e_200_2086, e_200_2087, e_200_2088, e_200_2089, e_200_2092, e_200_2094, e_200_2095, e_200_2096, e_200_2098, e_200_2099, e_200_2100, e_200_2101, e_200_2104, e_200_2106, e_200_2107, e_200_2110, e_200_2112, e_200_2117, e_200_2119, e_200_2122, e_200_2123, e_200_2124, e_200_2125, e_200_2127, e_200_2128, e_200_2129, e_200_2132, e_200_2133, t_z0, e_200_2115, e_200_2116, true_and, and_true, or_true, true_or]
set_option maxRecDepth 20000 in
theorem s_200_2134 (r0 : Nat) (r1 : Nat) (r2 : Nat) (r3 : Nat) (x4 : Int32) (x5 : Int32) (x6 : Int32) (h : tH) (Q : tO → tH → Prop)  :
    AX 39 200 2134 [.ref r0, .ref r1, .ref r2, .ref r3, .int x4, .int x5, .int x6, .float 0] [] h Q =
    AX 39 200 2137 [.ref r0, .ref r1, .ref r2, .ref r3, .int x4, .int x5, .int x6, .float 0] [] h Q := by
  rw [e_200_2134]
set_option maxRecDepth 20000 in
theorem s_200_2137 (r0 : Nat) (r1 : Nat) (r2 : Nat) (r3 : Nat) (x4 : Int32) (w5 : Value) (w6 : Value) (h : tH) (Q : tO → tH → Prop)  :
    AX 39 200 2137 [.ref r0, .ref r1, .ref r2, .ref r3, .int x4, w5, w6, .float 0] [] h Q =
    AX 39 200 23 [.ref r0, .ref r1, .ref r2, .ref r3, .int (x4 + 6), w5, w6, .float 0] [] h Q := by
  rw [e_200_2137]
  simp only [e_200_2140, true_and, and_true, or_true, true_or]
