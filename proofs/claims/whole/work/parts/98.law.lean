/-! ===== the law: its cases ===== -/
theorem lg_self (x : Int64) : lg_cmp x x = 0 := Int32.le_antisymm ((lg_cmp_le x x).mpr (Int64.le_refl x)) ((lg_cmp_ge x x).mpr (Int64.le_refl x))
theorem tin_33 {h : tH} {L j : Nat} (e : h.1 34 0 = nI L) (hj : j < L) (hL : L ≤ 3072) : t_in (t_ai h 33) (nI j) = True := eq_true ⟨L, by
  show some (h.1 34 0).toNatClampNeg = some L
  rw [e, nC (by omega)], vp_in_nI hj (by omega)⟩
theorem tin_lo : t_in (t_lo 32) 0 = True := eq_true ⟨1, rfl, of_eq_true (vI (k := 0) (n := 1) (by decide) (by decide))⟩
theorem cl0 : (0 : Int32).toNatClampNeg = 0 := by decide
theorem fin_I {k : Nat} {t : Int32} {w v : Int64} {X F G : Prop} (th : t = nI k) (k2 : k ≤ 2) (ov : k = 0 → w = v) (x : X) : (if t = nI k then (if ¬ nI k = (0 : Int32) then X else (if lg_cmp w v = (0 : Int32) then X else F)) else G) := by
  rw [if_pos th]
  by_cases e : k = 0
  · subst e
    rw [if_neg (fun z => z rfl), ov rfl, if_pos (lg_self _)]
    exact x
  · rw [if_pos (fun z => e (by rw [show (0 : Int32) = nI 0 from rfl, nI_eq' (by omega) (by omega)] at z; exact z))]
    exact x
theorem fin_B {k : Nat} {t : Int32} {w : Int64} {b : Bool} {X F G : Prop} (th : t = nI k) (k2 : k ≤ 2) (ov : k = 0 → w = i64b b) (x : X) : (if t = nI k then (if ¬ nI k = (0 : Int32) then X else (if zb b = (0 : Int32) then (if lg_cmp w 0 = (0 : Int32) then X else F) else (if lg_cmp w 1 = (0 : Int32) then X else F))) else G) := by
  rw [if_pos th]
  by_cases e : k = 0
  · subst e
    rw [if_neg (fun z => z rfl), ov rfl]
    cases b
    · rw [if_pos (show zb false = (0 : Int32) from rfl), if_pos (show lg_cmp (i64b false) 0 = 0 from lg_self 0)]; exact x
    · rw [if_neg (show ¬ zb true = (0 : Int32) by decide), if_pos (show lg_cmp (i64b true) 1 = 0 from lg_self 1)]; exact x
  · rw [if_pos (fun z => e (by rw [show (0 : Int32) = nI 0 from rfl, nI_eq' (by omega) (by omega)] at z; exact z))]
    exact x
theorem nI_p1 (i : Nat) : nI i + 1 = nI (i + 1) := nI_1 i
theorem nI_p2 (i : Nat) : nI i + 2 = nI (i + 2) := nI_add (a := i) (b := 2)
theorem nI_p3 (i : Nat) : nI i + 3 = nI (i + 3) := nI_add (a := i) (b := 3)
theorem nI_p4 (i : Nat) : nI i + 4 = nI (i + 4) := nI_add (a := i) (b := 4)
theorem nI_p5 (i : Nat) : nI i + 5 = nI (i + 5) := nI_add (a := i) (b := 5)
theorem nI_p6 (i : Nat) : nI i + 6 = nI (i + 6) := nI_add (a := i) (b := 6)
theorem n99 {h : tH} (Q : tO → tH → Prop) : AM 99 [.ref 13] h Q = Q (RI (h.1 13 0)) h := c99 Q
theorem ob13 : (t_ob 13 = some 7) = True := eq_true (by decide)
theorem ob0 : (t_ob 0 = some 0) = True := eq_true (by decide)
/-- what a case needs: the script's length, and that the loop goes on well -/
def GO (h : tH) (L i : Nat) (Q : tO → tH → Prop) : Prop := ∀ h2 w5 w6, IV h2 → h2.1 34 0 = nI L → h2.2.2.2 ≤ h.2.2.2 + 1 → AX 39 200 23 [.ref 33, .ref 0, .ref 13, .ref 32, .int (nI (i + 6)), w5, w6, .float 0] [] h2 Q
theorem law_0 {h : tH} {L i : Nat} {Q : tO → tH → Prop} {w5 w6 : Value} (hI : IV h) (L34 : h.1 34 0 = nI L) (hL : L ≤ 3072) (hi : i + 6 ≤ L) (go : GO h L i Q) : AX 39 200 180 [.ref 33, .ref 0, .ref 13, .ref 32, .int (nI i), w5, w6, .float 0] [] h Q := by
  obtain ⟨k, h1, h2, v, k2, r1, r2, iv, th, ov⟩ := op_place hI (h.1 33 (i + 1)) (h.1 33 (i + 2))
  obtain ⟨⟨f33, f34⟩, g1, g2⟩ := rn_kp r1
  obtain ⟨⟨f33x, f34x⟩, g3, -⟩ := rn_kp r2
  have L1 : h1.1 34 0 = nI L := by rw [f34]; exact L34
  have L2 : h2.1 34 0 = nI L := by rw [f34x]; exact L1
  have c1 : h1.2.2.2 ≤ h.2.2.2 + 1 := g2 (by decide) 1 (by decide +kernel)
  have c2 : h2.2.2.2 = h1.2.2.2 := g3 (by decide)
  rw [s_200_180]
  simp only [nI_p1, nI_p2, nI_p3, nI_p4, nI_p5, tin_33 L34 (show i + 1 < L by omega) hL, tin_33 L34 (show i + 2 < L by omega) hL, tin_33 L34 (show i + 3 < L by omega) hL, tin_33 L34 (show i + 4 < L by omega) hL, tin_33 L34 (show i + 5 < L by omega) hL, nC (show i + 1 < 10000 by omega), nC (show i + 2 < 10000 by omega), nC (show i + 3 < 10000 by omega), nC (show i + 4 < 10000 by omega), nC (show i + 5 < 10000 by omega), ob0, ob13, true_and]
  rw [r1]
  simp only [t_ki, nI_p1, nI_p2, nI_p3, nI_p4, nI_p5, tin_33 L1 (show i + 1 < L by omega) hL, tin_33 L1 (show i + 2 < L by omega) hL, tin_33 L1 (show i + 3 < L by omega) hL, tin_33 L1 (show i + 4 < L by omega) hL, tin_33 L1 (show i + 5 < L by omega) hL, nC (show i + 1 < 10000 by omega), nC (show i + 2 < 10000 by omega), nC (show i + 3 < 10000 by omega), nC (show i + 4 < 10000 by omega), nC (show i + 5 < 10000 by omega), ob0, ob13, true_and, f33]
  rw [r2]
  simp only [t_ki, ob13, true_and, n99, tin_lo, cl0, s_200_245, s_200_2137, nI_p6]
  exact fin_I th k2 ov (go _ _ _ iv L2 (by omega))
theorem law_1 {h : tH} {L i : Nat} {Q : tO → tH → Prop} {w5 w6 : Value} (hI : IV h) (L34 : h.1 34 0 = nI L) (hL : L ≤ 3072) (hi : i + 6 ≤ L) (go : GO h L i Q) : AX 39 200 248 [.ref 33, .ref 0, .ref 13, .ref 32, .int (nI i), w5, w6, .float 0] [] h Q := by
  obtain ⟨h1, h2, v, r1, r2, iv⟩ := op_clear hI
  obtain ⟨⟨f33, f34⟩, g1, g2⟩ := rn_kp r1
  obtain ⟨⟨f33x, f34x⟩, g3, -⟩ := rn_kp r2
  have L1 : h1.1 34 0 = nI L := by rw [f34]; exact L34
  have L2 : h2.1 34 0 = nI L := by rw [f34x]; exact L1
  have c1 : h1.2.2.2 = h.2.2.2 := g1 (by decide)
  have c2 : h2.2.2.2 = h1.2.2.2 := g3 (by decide)
  rw [s_200_248]
  simp only [nI_p1, nI_p2, nI_p3, nI_p4, nI_p5, tin_33 L34 (show i + 1 < L by omega) hL, tin_33 L34 (show i + 2 < L by omega) hL, tin_33 L34 (show i + 3 < L by omega) hL, tin_33 L34 (show i + 4 < L by omega) hL, tin_33 L34 (show i + 5 < L by omega) hL, nC (show i + 1 < 10000 by omega), nC (show i + 2 < 10000 by omega), nC (show i + 3 < 10000 by omega), nC (show i + 4 < 10000 by omega), nC (show i + 5 < 10000 by omega), ob0, ob13, true_and]
  rw [r1]
  simp only [t_ki, nI_p1, nI_p2, nI_p3, nI_p4, nI_p5, tin_33 L1 (show i + 1 < L by omega) hL, tin_33 L1 (show i + 2 < L by omega) hL, tin_33 L1 (show i + 3 < L by omega) hL, tin_33 L1 (show i + 4 < L by omega) hL, tin_33 L1 (show i + 5 < L by omega) hL, nC (show i + 1 < 10000 by omega), nC (show i + 2 < 10000 by omega), nC (show i + 3 < 10000 by omega), nC (show i + 4 < 10000 by omega), nC (show i + 5 < 10000 by omega), ob0, ob13, true_and, f33]
  rw [r2]
  simp only [t_ki, if_true, s_200_2137, nI_p6]
  exact go _ _ _ iv L2 (by omega)
theorem law_2 {h : tH} {L i : Nat} {Q : tO → tH → Prop} {w5 w6 : Value} (hI : IV h) (L34 : h.1 34 0 = nI L) (hL : L ≤ 3072) (hi : i + 6 ≤ L) (go : GO h L i Q) : AX 39 200 261 [.ref 33, .ref 0, .ref 13, .ref 32, .int (nI i), w5, w6, .float 0] [] h Q := by
  obtain ⟨k, h1, h2, v, k2, r1, r2, iv, th, ov⟩ := op_letter hI (h.1 33 (i + 1))
  obtain ⟨⟨f33, f34⟩, g1, g2⟩ := rn_kp r1
  obtain ⟨⟨f33x, f34x⟩, g3, -⟩ := rn_kp r2
  have L1 : h1.1 34 0 = nI L := by rw [f34]; exact L34
  have L2 : h2.1 34 0 = nI L := by rw [f34x]; exact L1
  have c1 : h1.2.2.2 ≤ h.2.2.2 + 1 := g2 (by decide) 1 (by decide +kernel)
  have c2 : h2.2.2.2 = h1.2.2.2 := g3 (by decide)
  rw [s_200_261]
  simp only [nI_p1, nI_p2, nI_p3, nI_p4, nI_p5, tin_33 L34 (show i + 1 < L by omega) hL, tin_33 L34 (show i + 2 < L by omega) hL, tin_33 L34 (show i + 3 < L by omega) hL, tin_33 L34 (show i + 4 < L by omega) hL, tin_33 L34 (show i + 5 < L by omega) hL, nC (show i + 1 < 10000 by omega), nC (show i + 2 < 10000 by omega), nC (show i + 3 < 10000 by omega), nC (show i + 4 < 10000 by omega), nC (show i + 5 < 10000 by omega), ob0, ob13, true_and]
  rw [r1]
  simp only [t_ki, nI_p1, nI_p2, nI_p3, nI_p4, nI_p5, tin_33 L1 (show i + 1 < L by omega) hL, tin_33 L1 (show i + 2 < L by omega) hL, tin_33 L1 (show i + 3 < L by omega) hL, tin_33 L1 (show i + 4 < L by omega) hL, tin_33 L1 (show i + 5 < L by omega) hL, nC (show i + 1 < 10000 by omega), nC (show i + 2 < 10000 by omega), nC (show i + 3 < 10000 by omega), nC (show i + 4 < 10000 by omega), nC (show i + 5 < 10000 by omega), ob0, ob13, true_and, f33]
  rw [r2]
  simp only [t_ki, ob13, true_and, n99, tin_lo, cl0, s_200_314, s_200_2137, nI_p6]
  exact fin_I th k2 ov (go _ _ _ iv L2 (by omega))
theorem law_3 {h : tH} {L i : Nat} {Q : tO → tH → Prop} {w5 w6 : Value} (hI : IV h) (L34 : h.1 34 0 = nI L) (hL : L ≤ 3072) (hi : i + 6 ≤ L) (go : GO h L i Q) : AX 39 200 317 [.ref 33, .ref 0, .ref 13, .ref 32, .int (nI i), w5, w6, .float 0] [] h Q := by
  obtain ⟨h1, h2, v, r1, r2, iv⟩ := op_wipe hI
  obtain ⟨⟨f33, f34⟩, g1, g2⟩ := rn_kp r1
  obtain ⟨⟨f33x, f34x⟩, g3, -⟩ := rn_kp r2
  have L1 : h1.1 34 0 = nI L := by rw [f34]; exact L34
  have L2 : h2.1 34 0 = nI L := by rw [f34x]; exact L1
  have c1 : h1.2.2.2 = h.2.2.2 := g1 (by decide)
  have c2 : h2.2.2.2 = h1.2.2.2 := g3 (by decide)
  rw [s_200_317]
  simp only [nI_p1, nI_p2, nI_p3, nI_p4, nI_p5, tin_33 L34 (show i + 1 < L by omega) hL, tin_33 L34 (show i + 2 < L by omega) hL, tin_33 L34 (show i + 3 < L by omega) hL, tin_33 L34 (show i + 4 < L by omega) hL, tin_33 L34 (show i + 5 < L by omega) hL, nC (show i + 1 < 10000 by omega), nC (show i + 2 < 10000 by omega), nC (show i + 3 < 10000 by omega), nC (show i + 4 < 10000 by omega), nC (show i + 5 < 10000 by omega), ob0, ob13, true_and]
  rw [r1]
  simp only [t_ki, nI_p1, nI_p2, nI_p3, nI_p4, nI_p5, tin_33 L1 (show i + 1 < L by omega) hL, tin_33 L1 (show i + 2 < L by omega) hL, tin_33 L1 (show i + 3 < L by omega) hL, tin_33 L1 (show i + 4 < L by omega) hL, tin_33 L1 (show i + 5 < L by omega) hL, nC (show i + 1 < 10000 by omega), nC (show i + 2 < 10000 by omega), nC (show i + 3 < 10000 by omega), nC (show i + 4 < 10000 by omega), nC (show i + 5 < 10000 by omega), ob0, ob13, true_and, f33]
  rw [r2]
  simp only [t_ki, if_true, s_200_2137, nI_p6]
  exact go _ _ _ iv L2 (by omega)
theorem law_4 {h : tH} {L i : Nat} {Q : tO → tH → Prop} {w5 w6 : Value} (hI : IV h) (L34 : h.1 34 0 = nI L) (hL : L ≤ 3072) (hi : i + 6 ≤ L) (go : GO h L i Q) : AX 39 200 330 [.ref 33, .ref 0, .ref 13, .ref 32, .int (nI i), w5, w6, .float 0] [] h Q := by
  obtain ⟨k, h1, h2, v, k2, r1, r2, iv, th, ov⟩ := op_fault hI (h.1 33 (i + 1))
  obtain ⟨⟨f33, f34⟩, g1, g2⟩ := rn_kp r1
  obtain ⟨⟨f33x, f34x⟩, g3, -⟩ := rn_kp r2
  have L1 : h1.1 34 0 = nI L := by rw [f34]; exact L34
  have L2 : h2.1 34 0 = nI L := by rw [f34x]; exact L1
  have c1 : h1.2.2.2 ≤ h.2.2.2 + 1 := g2 (by decide) 1 (by decide +kernel)
  have c2 : h2.2.2.2 = h1.2.2.2 := g3 (by decide)
  rw [s_200_330]
  simp only [nI_p1, nI_p2, nI_p3, nI_p4, nI_p5, tin_33 L34 (show i + 1 < L by omega) hL, tin_33 L34 (show i + 2 < L by omega) hL, tin_33 L34 (show i + 3 < L by omega) hL, tin_33 L34 (show i + 4 < L by omega) hL, tin_33 L34 (show i + 5 < L by omega) hL, nC (show i + 1 < 10000 by omega), nC (show i + 2 < 10000 by omega), nC (show i + 3 < 10000 by omega), nC (show i + 4 < 10000 by omega), nC (show i + 5 < 10000 by omega), ob0, ob13, true_and]
  rw [r1]
  simp only [t_ki, nI_p1, nI_p2, nI_p3, nI_p4, nI_p5, tin_33 L1 (show i + 1 < L by omega) hL, tin_33 L1 (show i + 2 < L by omega) hL, tin_33 L1 (show i + 3 < L by omega) hL, tin_33 L1 (show i + 4 < L by omega) hL, tin_33 L1 (show i + 5 < L by omega) hL, nC (show i + 1 < 10000 by omega), nC (show i + 2 < 10000 by omega), nC (show i + 3 < 10000 by omega), nC (show i + 4 < 10000 by omega), nC (show i + 5 < 10000 by omega), ob0, ob13, true_and, f33]
  rw [r2]
  simp only [t_ki, ob13, true_and, n99, tin_lo, cl0, s_200_383, s_200_2137, nI_p6]
  exact fin_I th k2 ov (go _ _ _ iv L2 (by omega))
theorem law_5 {h : tH} {L i : Nat} {Q : tO → tH → Prop} {w5 w6 : Value} (hI : IV h) (L34 : h.1 34 0 = nI L) (hL : L ≤ 3072) (hi : i + 6 ≤ L) (go : GO h L i Q) : AX 39 200 386 [.ref 33, .ref 0, .ref 13, .ref 32, .int (nI i), w5, w6, .float 0] [] h Q := by
  obtain ⟨k, h1, h2, v, k2, r1, r2, iv, th, ov⟩ := op_draw hI
  obtain ⟨⟨f33, f34⟩, g1, g2⟩ := rn_kp r1
  obtain ⟨⟨f33x, f34x⟩, g3, -⟩ := rn_kp r2
  have L1 : h1.1 34 0 = nI L := by rw [f34]; exact L34
  have L2 : h2.1 34 0 = nI L := by rw [f34x]; exact L1
  have c1 : h1.2.2.2 ≤ h.2.2.2 + 1 := g2 (by decide) 1 (by decide +kernel)
  have c2 : h2.2.2.2 = h1.2.2.2 := g3 (by decide)
  rw [s_200_386]
  simp only [nI_p1, nI_p2, nI_p3, nI_p4, nI_p5, tin_33 L34 (show i + 1 < L by omega) hL, tin_33 L34 (show i + 2 < L by omega) hL, tin_33 L34 (show i + 3 < L by omega) hL, tin_33 L34 (show i + 4 < L by omega) hL, tin_33 L34 (show i + 5 < L by omega) hL, nC (show i + 1 < 10000 by omega), nC (show i + 2 < 10000 by omega), nC (show i + 3 < 10000 by omega), nC (show i + 4 < 10000 by omega), nC (show i + 5 < 10000 by omega), ob0, ob13, true_and]
  rw [r1]
  simp only [t_ki, nI_p1, nI_p2, nI_p3, nI_p4, nI_p5, tin_33 L1 (show i + 1 < L by omega) hL, tin_33 L1 (show i + 2 < L by omega) hL, tin_33 L1 (show i + 3 < L by omega) hL, tin_33 L1 (show i + 4 < L by omega) hL, tin_33 L1 (show i + 5 < L by omega) hL, nC (show i + 1 < 10000 by omega), nC (show i + 2 < 10000 by omega), nC (show i + 3 < 10000 by omega), nC (show i + 4 < 10000 by omega), nC (show i + 5 < 10000 by omega), ob0, ob13, true_and, f33]
  rw [r2]
  simp only [t_ki, ob13, true_and, n99, tin_lo, cl0, s_200_427, s_200_2137, nI_p6]
  exact fin_I th k2 ov (go _ _ _ iv L2 (by omega))
theorem law_6 {h : tH} {L i : Nat} {Q : tO → tH → Prop} {w5 w6 : Value} (hI : IV h) (L34 : h.1 34 0 = nI L) (hL : L ≤ 3072) (hi : i + 6 ≤ L) (go : GO h L i Q) : AX 39 200 430 [.ref 33, .ref 0, .ref 13, .ref 32, .int (nI i), w5, w6, .float 0] [] h Q := by
  obtain ⟨k, h1, h2, v, k2, r1, r2, iv, th, ov⟩ := op_wire hI (h.1 33 (i + 1))
  obtain ⟨⟨f33, f34⟩, g1, g2⟩ := rn_kp r1
  obtain ⟨⟨f33x, f34x⟩, g3, -⟩ := rn_kp r2
  have L1 : h1.1 34 0 = nI L := by rw [f34]; exact L34
  have L2 : h2.1 34 0 = nI L := by rw [f34x]; exact L1
  have c1 : h1.2.2.2 ≤ h.2.2.2 + 1 := g2 (by decide) 1 (by decide +kernel)
  have c2 : h2.2.2.2 = h1.2.2.2 := g3 (by decide)
  rw [s_200_430]
  simp only [nI_p1, nI_p2, nI_p3, nI_p4, nI_p5, tin_33 L34 (show i + 1 < L by omega) hL, tin_33 L34 (show i + 2 < L by omega) hL, tin_33 L34 (show i + 3 < L by omega) hL, tin_33 L34 (show i + 4 < L by omega) hL, tin_33 L34 (show i + 5 < L by omega) hL, nC (show i + 1 < 10000 by omega), nC (show i + 2 < 10000 by omega), nC (show i + 3 < 10000 by omega), nC (show i + 4 < 10000 by omega), nC (show i + 5 < 10000 by omega), ob0, ob13, true_and]
  rw [r1]
  simp only [t_ki, nI_p1, nI_p2, nI_p3, nI_p4, nI_p5, tin_33 L1 (show i + 1 < L by omega) hL, tin_33 L1 (show i + 2 < L by omega) hL, tin_33 L1 (show i + 3 < L by omega) hL, tin_33 L1 (show i + 4 < L by omega) hL, tin_33 L1 (show i + 5 < L by omega) hL, nC (show i + 1 < 10000 by omega), nC (show i + 2 < 10000 by omega), nC (show i + 3 < 10000 by omega), nC (show i + 4 < 10000 by omega), nC (show i + 5 < 10000 by omega), ob0, ob13, true_and, f33]
  rw [r2]
  simp only [t_ki, ob13, true_and, n99, tin_lo, cl0, s_200_483, s_200_2137, nI_p6]
  exact fin_I th k2 ov (go _ _ _ iv L2 (by omega))
theorem law_7 {h : tH} {L i : Nat} {Q : tO → tH → Prop} {w5 w6 : Value} (hI : IV h) (L34 : h.1 34 0 = nI L) (hL : L ≤ 3072) (hi : i + 6 ≤ L) (go : GO h L i Q) : AX 39 200 486 [.ref 33, .ref 0, .ref 13, .ref 32, .int (nI i), w5, w6, .float 0] [] h Q := by
  obtain ⟨k, h1, h2, v, k2, r1, r2, iv, th, ov⟩ := op_copy hI (h.1 33 (i + 1)) (if h.1 33 (i + 2) = (0 : Int32) then (0 : Int32) else 1)
  obtain ⟨⟨f33, f34⟩, g1, g2⟩ := rn_kp r1
  obtain ⟨⟨f33x, f34x⟩, g3, -⟩ := rn_kp r2
  have L1 : h1.1 34 0 = nI L := by rw [f34]; exact L34
  have L2 : h2.1 34 0 = nI L := by rw [f34x]; exact L1
  have c1 : h1.2.2.2 ≤ h.2.2.2 + 1 := g2 (by decide) 1 (by decide +kernel)
  have c2 : h2.2.2.2 = h1.2.2.2 := g3 (by decide)
  rw [s_200_486]
  simp only [nI_p1, nI_p2, nI_p3, nI_p4, nI_p5, tin_33 L34 (show i + 1 < L by omega) hL, tin_33 L34 (show i + 2 < L by omega) hL, tin_33 L34 (show i + 3 < L by omega) hL, tin_33 L34 (show i + 4 < L by omega) hL, tin_33 L34 (show i + 5 < L by omega) hL, nC (show i + 1 < 10000 by omega), nC (show i + 2 < 10000 by omega), nC (show i + 3 < 10000 by omega), nC (show i + 4 < 10000 by omega), nC (show i + 5 < 10000 by omega), ob0, ob13, true_and]
  rw [r1]
  simp only [t_ki, nI_p1, nI_p2, nI_p3, nI_p4, nI_p5, tin_33 L1 (show i + 1 < L by omega) hL, tin_33 L1 (show i + 2 < L by omega) hL, tin_33 L1 (show i + 3 < L by omega) hL, tin_33 L1 (show i + 4 < L by omega) hL, tin_33 L1 (show i + 5 < L by omega) hL, nC (show i + 1 < 10000 by omega), nC (show i + 2 < 10000 by omega), nC (show i + 3 < 10000 by omega), nC (show i + 4 < 10000 by omega), nC (show i + 5 < 10000 by omega), ob0, ob13, true_and, f33]
  rw [r2]
  simp only [t_ki, ob13, true_and, n99, tin_lo, cl0, s_200_567, s_200_2137, nI_p6]
  exact fin_I th k2 ov (go _ _ _ iv L2 (by omega))
theorem law_8 {h : tH} {L i : Nat} {Q : tO → tH → Prop} {w5 w6 : Value} (hI : IV h) (L34 : h.1 34 0 = nI L) (hL : L ≤ 3072) (hi : i + 6 ≤ L) (go : GO h L i Q) : AX 39 200 570 [.ref 33, .ref 0, .ref 13, .ref 32, .int (nI i), w5, w6, .float 0] [] h Q := by
  obtain ⟨k, h1, h2, v, k2, r1, r2, iv, th, ov⟩ := op_flip hI (h.1 33 (i + 1)) (h.1 33 (i + 2)) (h.1 33 (i + 3)) (h.1 33 (i + 4))
  obtain ⟨⟨f33, f34⟩, g1, g2⟩ := rn_kp r1
  obtain ⟨⟨f33x, f34x⟩, g3, -⟩ := rn_kp r2
  have L1 : h1.1 34 0 = nI L := by rw [f34]; exact L34
  have L2 : h2.1 34 0 = nI L := by rw [f34x]; exact L1
  have c1 : h1.2.2.2 ≤ h.2.2.2 + 1 := g2 (by decide) 1 (by decide +kernel)
  have c2 : h2.2.2.2 = h1.2.2.2 := g3 (by decide)
  rw [s_200_570]
  simp only [nI_p1, nI_p2, nI_p3, nI_p4, nI_p5, tin_33 L34 (show i + 1 < L by omega) hL, tin_33 L34 (show i + 2 < L by omega) hL, tin_33 L34 (show i + 3 < L by omega) hL, tin_33 L34 (show i + 4 < L by omega) hL, tin_33 L34 (show i + 5 < L by omega) hL, nC (show i + 1 < 10000 by omega), nC (show i + 2 < 10000 by omega), nC (show i + 3 < 10000 by omega), nC (show i + 4 < 10000 by omega), nC (show i + 5 < 10000 by omega), ob0, ob13, true_and]
  rw [r1]
  simp only [t_ki, nI_p1, nI_p2, nI_p3, nI_p4, nI_p5, tin_33 L1 (show i + 1 < L by omega) hL, tin_33 L1 (show i + 2 < L by omega) hL, tin_33 L1 (show i + 3 < L by omega) hL, tin_33 L1 (show i + 4 < L by omega) hL, tin_33 L1 (show i + 5 < L by omega) hL, nC (show i + 1 < 10000 by omega), nC (show i + 2 < 10000 by omega), nC (show i + 3 < 10000 by omega), nC (show i + 4 < 10000 by omega), nC (show i + 5 < 10000 by omega), ob0, ob13, true_and, f33]
  rw [r2]
  simp only [t_ki, ob13, true_and, n99, tin_lo, cl0, s_200_660, s_200_666, s_200_2137, nI_p6]
  exact fin_B th k2 ov (go _ _ _ iv L2 (by omega))
theorem law_9 {h : tH} {L i : Nat} {Q : tO → tH → Prop} {w5 w6 : Value} (hI : IV h) (L34 : h.1 34 0 = nI L) (hL : L ≤ 3072) (hi : i + 6 ≤ L) (go : GO h L i Q) : AX 39 200 669 [.ref 33, .ref 0, .ref 13, .ref 32, .int (nI i), w5, w6, .float 0] [] h Q := by
  obtain ⟨k, h1, h2, k2, r1, r2, iv, th⟩ := op_rename hI (h.1 33 (i + 1)) (h.1 33 (i + 2)) (h.1 33 (i + 3))
  obtain ⟨⟨f33, f34⟩, g1, g2⟩ := rn_kp r1
  obtain ⟨⟨f33x, f34x⟩, g3, -⟩ := rn_kp r2
  have L1 : h1.1 34 0 = nI L := by rw [f34]; exact L34
  have L2 : h2.1 34 0 = nI L := by rw [f34x]; exact L1
  have c1 : h1.2.2.2 ≤ h.2.2.2 + 1 := g2 (by decide) 1 (by decide +kernel)
  have c2 : h2.2.2.2 = h1.2.2.2 := g3 (by decide)
  rw [s_200_669]
  simp only [nI_p1, nI_p2, nI_p3, nI_p4, nI_p5, tin_33 L34 (show i + 1 < L by omega) hL, tin_33 L34 (show i + 2 < L by omega) hL, tin_33 L34 (show i + 3 < L by omega) hL, tin_33 L34 (show i + 4 < L by omega) hL, tin_33 L34 (show i + 5 < L by omega) hL, nC (show i + 1 < 10000 by omega), nC (show i + 2 < 10000 by omega), nC (show i + 3 < 10000 by omega), nC (show i + 4 < 10000 by omega), nC (show i + 5 < 10000 by omega), ob0, ob13, true_and]
  rw [r1]
  simp only [t_ki, nI_p1, nI_p2, nI_p3, nI_p4, nI_p5, tin_33 L1 (show i + 1 < L by omega) hL, tin_33 L1 (show i + 2 < L by omega) hL, tin_33 L1 (show i + 3 < L by omega) hL, tin_33 L1 (show i + 4 < L by omega) hL, tin_33 L1 (show i + 5 < L by omega) hL, nC (show i + 1 < 10000 by omega), nC (show i + 2 < 10000 by omega), nC (show i + 3 < 10000 by omega), nC (show i + 4 < 10000 by omega), nC (show i + 5 < 10000 by omega), ob0, ob13, true_and, f33]
  rw [r2]
  simp only [t_kv, t_ki, ob13, true_and, n99, tin_lo, cl0, s_200_2137, nI_p6]
  rw [if_pos th]
  exact go _ _ _ iv L2 (by omega)
theorem law_10 {h : tH} {L i : Nat} {Q : tO → tH → Prop} {w5 w6 : Value} (hI : IV h) (L34 : h.1 34 0 = nI L) (hL : L ≤ 3072) (hi : i + 6 ≤ L) (go : GO h L i Q) : AX 39 200 729 [.ref 33, .ref 0, .ref 13, .ref 32, .int (nI i), w5, w6, .float 0] [] h Q := by
  obtain ⟨k, h1, h2, v, k2, r1, r2, iv, th, ov⟩ := op_realize hI (h.1 33 (i + 1))
  obtain ⟨⟨f33, f34⟩, g1, g2⟩ := rn_kp r1
  obtain ⟨⟨f33x, f34x⟩, g3, -⟩ := rn_kp r2
  have L1 : h1.1 34 0 = nI L := by rw [f34]; exact L34
  have L2 : h2.1 34 0 = nI L := by rw [f34x]; exact L1
  have c1 : h1.2.2.2 ≤ h.2.2.2 + 1 := g2 (by decide) 1 (by decide +kernel)
  have c2 : h2.2.2.2 = h1.2.2.2 := g3 (by decide)
  rw [s_200_729]
  simp only [nI_p1, nI_p2, nI_p3, nI_p4, nI_p5, tin_33 L34 (show i + 1 < L by omega) hL, tin_33 L34 (show i + 2 < L by omega) hL, tin_33 L34 (show i + 3 < L by omega) hL, tin_33 L34 (show i + 4 < L by omega) hL, tin_33 L34 (show i + 5 < L by omega) hL, nC (show i + 1 < 10000 by omega), nC (show i + 2 < 10000 by omega), nC (show i + 3 < 10000 by omega), nC (show i + 4 < 10000 by omega), nC (show i + 5 < 10000 by omega), ob0, ob13, true_and]
  rw [r1]
  simp only [t_ki, nI_p1, nI_p2, nI_p3, nI_p4, nI_p5, tin_33 L1 (show i + 1 < L by omega) hL, tin_33 L1 (show i + 2 < L by omega) hL, tin_33 L1 (show i + 3 < L by omega) hL, tin_33 L1 (show i + 4 < L by omega) hL, tin_33 L1 (show i + 5 < L by omega) hL, nC (show i + 1 < 10000 by omega), nC (show i + 2 < 10000 by omega), nC (show i + 3 < 10000 by omega), nC (show i + 4 < 10000 by omega), nC (show i + 5 < 10000 by omega), ob0, ob13, true_and, f33]
  rw [r2]
  simp only [t_ki, ob13, true_and, n99, tin_lo, cl0, s_200_783, s_200_789, s_200_2137, nI_p6]
  exact fin_B th k2 ov (go _ _ _ iv L2 (by omega))
theorem law_11 {h : tH} {L i : Nat} {Q : tO → tH → Prop} {w5 w6 : Value} (hI : IV h) (L34 : h.1 34 0 = nI L) (hL : L ≤ 3072) (hi : i + 6 ≤ L) (go : GO h L i Q) : AX 39 200 792 [.ref 33, .ref 0, .ref 13, .ref 32, .int (nI i), w5, w6, .float 0] [] h Q := by
  obtain ⟨h1, h2, v, r1, r2, iv⟩ := op_drawings hI
  obtain ⟨⟨f33, f34⟩, g1, g2⟩ := rn_kp r1
  obtain ⟨⟨f33x, f34x⟩, g3, -⟩ := rn_kp r2
  have L1 : h1.1 34 0 = nI L := by rw [f34]; exact L34
  have L2 : h2.1 34 0 = nI L := by rw [f34x]; exact L1
  have c1 : h1.2.2.2 = h.2.2.2 := g1 (by decide)
  have c2 : h2.2.2.2 = h1.2.2.2 := g3 (by decide)
  rw [s_200_792]
  simp only [nI_p1, nI_p2, nI_p3, nI_p4, nI_p5, tin_33 L34 (show i + 1 < L by omega) hL, tin_33 L34 (show i + 2 < L by omega) hL, tin_33 L34 (show i + 3 < L by omega) hL, tin_33 L34 (show i + 4 < L by omega) hL, tin_33 L34 (show i + 5 < L by omega) hL, nC (show i + 1 < 10000 by omega), nC (show i + 2 < 10000 by omega), nC (show i + 3 < 10000 by omega), nC (show i + 4 < 10000 by omega), nC (show i + 5 < 10000 by omega), ob0, ob13, true_and]
  rw [r1]
  simp only [t_ki, nI_p1, nI_p2, nI_p3, nI_p4, nI_p5, tin_33 L1 (show i + 1 < L by omega) hL, tin_33 L1 (show i + 2 < L by omega) hL, tin_33 L1 (show i + 3 < L by omega) hL, tin_33 L1 (show i + 4 < L by omega) hL, tin_33 L1 (show i + 5 < L by omega) hL, nC (show i + 1 < 10000 by omega), nC (show i + 2 < 10000 by omega), nC (show i + 3 < 10000 by omega), nC (show i + 4 < 10000 by omega), nC (show i + 5 < 10000 by omega), ob0, ob13, true_and, f33]
  rw [r2]
  simp only [t_ki, if_true, s_200_2137, nI_p6]
  exact go _ _ _ iv L2 (by omega)
theorem law_12 {h : tH} {L i : Nat} {Q : tO → tH → Prop} {w5 w6 : Value} (hI : IV h) (L34 : h.1 34 0 = nI L) (hL : L ≤ 3072) (hi : i + 6 ≤ L) (go : GO h L i Q) : AX 39 200 805 [.ref 33, .ref 0, .ref 13, .ref 32, .int (nI i), w5, w6, .float 0] [] h Q := by
  obtain ⟨k, h1, h2, v, k2, r1, r2, iv, th, ov⟩ := op_points hI (h.1 33 (i + 1))
  obtain ⟨⟨f33, f34⟩, g1, g2⟩ := rn_kp r1
  obtain ⟨⟨f33x, f34x⟩, g3, -⟩ := rn_kp r2
  have L1 : h1.1 34 0 = nI L := by rw [f34]; exact L34
  have L2 : h2.1 34 0 = nI L := by rw [f34x]; exact L1
  have c1 : h1.2.2.2 ≤ h.2.2.2 + 1 := g2 (by decide) 1 (by decide +kernel)
  have c2 : h2.2.2.2 = h1.2.2.2 := g3 (by decide)
  rw [s_200_805]
  simp only [nI_p1, nI_p2, nI_p3, nI_p4, nI_p5, tin_33 L34 (show i + 1 < L by omega) hL, tin_33 L34 (show i + 2 < L by omega) hL, tin_33 L34 (show i + 3 < L by omega) hL, tin_33 L34 (show i + 4 < L by omega) hL, tin_33 L34 (show i + 5 < L by omega) hL, nC (show i + 1 < 10000 by omega), nC (show i + 2 < 10000 by omega), nC (show i + 3 < 10000 by omega), nC (show i + 4 < 10000 by omega), nC (show i + 5 < 10000 by omega), ob0, ob13, true_and]
  rw [r1]
  simp only [t_ki, nI_p1, nI_p2, nI_p3, nI_p4, nI_p5, tin_33 L1 (show i + 1 < L by omega) hL, tin_33 L1 (show i + 2 < L by omega) hL, tin_33 L1 (show i + 3 < L by omega) hL, tin_33 L1 (show i + 4 < L by omega) hL, tin_33 L1 (show i + 5 < L by omega) hL, nC (show i + 1 < 10000 by omega), nC (show i + 2 < 10000 by omega), nC (show i + 3 < 10000 by omega), nC (show i + 4 < 10000 by omega), nC (show i + 5 < 10000 by omega), ob0, ob13, true_and, f33]
  rw [r2]
  simp only [t_ki, ob13, true_and, n99, tin_lo, cl0, s_200_858, s_200_2137, nI_p6]
  exact fin_I th k2 ov (go _ _ _ iv L2 (by omega))
theorem law_13 {h : tH} {L i : Nat} {Q : tO → tH → Prop} {w5 w6 : Value} (hI : IV h) (L34 : h.1 34 0 = nI L) (hL : L ≤ 3072) (hi : i + 6 ≤ L) (go : GO h L i Q) : AX 39 200 861 [.ref 33, .ref 0, .ref 13, .ref 32, .int (nI i), w5, w6, .float 0] [] h Q := by
  obtain ⟨k, h1, h2, v, k2, r1, r2, iv, th, ov⟩ := op_hasNumbers hI (h.1 33 (i + 1))
  obtain ⟨⟨f33, f34⟩, g1, g2⟩ := rn_kp r1
  obtain ⟨⟨f33x, f34x⟩, g3, -⟩ := rn_kp r2
  have L1 : h1.1 34 0 = nI L := by rw [f34]; exact L34
  have L2 : h2.1 34 0 = nI L := by rw [f34x]; exact L1
  have c1 : h1.2.2.2 ≤ h.2.2.2 + 1 := g2 (by decide) 1 (by decide +kernel)
  have c2 : h2.2.2.2 = h1.2.2.2 := g3 (by decide)
  rw [s_200_861]
  simp only [nI_p1, nI_p2, nI_p3, nI_p4, nI_p5, tin_33 L34 (show i + 1 < L by omega) hL, tin_33 L34 (show i + 2 < L by omega) hL, tin_33 L34 (show i + 3 < L by omega) hL, tin_33 L34 (show i + 4 < L by omega) hL, tin_33 L34 (show i + 5 < L by omega) hL, nC (show i + 1 < 10000 by omega), nC (show i + 2 < 10000 by omega), nC (show i + 3 < 10000 by omega), nC (show i + 4 < 10000 by omega), nC (show i + 5 < 10000 by omega), ob0, ob13, true_and]
  rw [r1]
  simp only [t_ki, nI_p1, nI_p2, nI_p3, nI_p4, nI_p5, tin_33 L1 (show i + 1 < L by omega) hL, tin_33 L1 (show i + 2 < L by omega) hL, tin_33 L1 (show i + 3 < L by omega) hL, tin_33 L1 (show i + 4 < L by omega) hL, tin_33 L1 (show i + 5 < L by omega) hL, nC (show i + 1 < 10000 by omega), nC (show i + 2 < 10000 by omega), nC (show i + 3 < 10000 by omega), nC (show i + 4 < 10000 by omega), nC (show i + 5 < 10000 by omega), ob0, ob13, true_and, f33]
  rw [r2]
  simp only [t_ki, ob13, true_and, n99, tin_lo, cl0, s_200_915, s_200_921, s_200_2137, nI_p6]
  exact fin_B th k2 ov (go _ _ _ iv L2 (by omega))
theorem law_14 {h : tH} {L i : Nat} {Q : tO → tH → Prop} {w5 w6 : Value} (hI : IV h) (L34 : h.1 34 0 = nI L) (hL : L ≤ 3072) (hi : i + 6 ≤ L) (go : GO h L i Q) : AX 39 200 924 [.ref 33, .ref 0, .ref 13, .ref 32, .int (nI i), w5, w6, .float 0] [] h Q := by
  obtain ⟨k, h1, h2, v, k2, r1, r2, iv, th, ov⟩ := op_number hI (h.1 33 (i + 1)) (h.1 33 (i + 2)) (if h.1 33 (i + 3) = (0 : Int32) then (0 : Int32) else 1)
  obtain ⟨⟨f33, f34⟩, g1, g2⟩ := rn_kp r1
  obtain ⟨⟨f33x, f34x⟩, g3, -⟩ := rn_kp r2
  have L1 : h1.1 34 0 = nI L := by rw [f34]; exact L34
  have L2 : h2.1 34 0 = nI L := by rw [f34x]; exact L1
  have c1 : h1.2.2.2 ≤ h.2.2.2 + 1 := g2 (by decide) 1 (by decide +kernel)
  have c2 : h2.2.2.2 = h1.2.2.2 := g3 (by decide)
  rw [s_200_924]
  simp only [nI_p1, nI_p2, nI_p3, nI_p4, nI_p5, tin_33 L34 (show i + 1 < L by omega) hL, tin_33 L34 (show i + 2 < L by omega) hL, tin_33 L34 (show i + 3 < L by omega) hL, tin_33 L34 (show i + 4 < L by omega) hL, tin_33 L34 (show i + 5 < L by omega) hL, nC (show i + 1 < 10000 by omega), nC (show i + 2 < 10000 by omega), nC (show i + 3 < 10000 by omega), nC (show i + 4 < 10000 by omega), nC (show i + 5 < 10000 by omega), ob0, ob13, true_and]
  rw [r1]
  simp only [t_ki, nI_p1, nI_p2, nI_p3, nI_p4, nI_p5, tin_33 L1 (show i + 1 < L by omega) hL, tin_33 L1 (show i + 2 < L by omega) hL, tin_33 L1 (show i + 3 < L by omega) hL, tin_33 L1 (show i + 4 < L by omega) hL, tin_33 L1 (show i + 5 < L by omega) hL, nC (show i + 1 < 10000 by omega), nC (show i + 2 < 10000 by omega), nC (show i + 3 < 10000 by omega), nC (show i + 4 < 10000 by omega), nC (show i + 5 < 10000 by omega), ob0, ob13, true_and, f33]
  rw [r2]
  simp only [t_ki, ob13, true_and, n99, tin_lo, cl0, s_200_1017, s_200_2137, nI_p6]
  exact fin_I th k2 ov (go _ _ _ iv L2 (by omega))
theorem law_15 {h : tH} {L i : Nat} {Q : tO → tH → Prop} {w5 w6 : Value} (hI : IV h) (L34 : h.1 34 0 = nI L) (hL : L ≤ 3072) (hi : i + 6 ≤ L) (go : GO h L i Q) : AX 39 200 1020 [.ref 33, .ref 0, .ref 13, .ref 32, .int (nI i), w5, w6, .float 0] [] h Q := by
  obtain ⟨k, h1, h2, v, k2, r1, r2, iv, th, ov⟩ := op_sign hI (h.1 33 (i + 1)) (h.1 33 (i + 2)) (h.1 33 (i + 3)) (h.1 33 (i + 4))
  obtain ⟨⟨f33, f34⟩, g1, g2⟩ := rn_kp r1
  obtain ⟨⟨f33x, f34x⟩, g3, -⟩ := rn_kp r2
  have L1 : h1.1 34 0 = nI L := by rw [f34]; exact L34
  have L2 : h2.1 34 0 = nI L := by rw [f34x]; exact L1
  have c1 : h1.2.2.2 ≤ h.2.2.2 + 1 := g2 (by decide) 1 (by decide +kernel)
  have c2 : h2.2.2.2 = h1.2.2.2 := g3 (by decide)
  rw [s_200_1020]
  simp only [nI_p1, nI_p2, nI_p3, nI_p4, nI_p5, tin_33 L34 (show i + 1 < L by omega) hL, tin_33 L34 (show i + 2 < L by omega) hL, tin_33 L34 (show i + 3 < L by omega) hL, tin_33 L34 (show i + 4 < L by omega) hL, tin_33 L34 (show i + 5 < L by omega) hL, nC (show i + 1 < 10000 by omega), nC (show i + 2 < 10000 by omega), nC (show i + 3 < 10000 by omega), nC (show i + 4 < 10000 by omega), nC (show i + 5 < 10000 by omega), ob0, ob13, true_and]
  rw [r1]
  simp only [t_ki, nI_p1, nI_p2, nI_p3, nI_p4, nI_p5, tin_33 L1 (show i + 1 < L by omega) hL, tin_33 L1 (show i + 2 < L by omega) hL, tin_33 L1 (show i + 3 < L by omega) hL, tin_33 L1 (show i + 4 < L by omega) hL, tin_33 L1 (show i + 5 < L by omega) hL, nC (show i + 1 < 10000 by omega), nC (show i + 2 < 10000 by omega), nC (show i + 3 < 10000 by omega), nC (show i + 4 < 10000 by omega), nC (show i + 5 < 10000 by omega), ob0, ob13, true_and, f33]
  rw [r2]
  simp only [t_ki, ob13, true_and, n99, tin_lo, cl0, s_200_1109, s_200_2137, nI_p6]
  exact fin_I th k2 ov (go _ _ _ iv L2 (by omega))
theorem law_16 {h : tH} {L i : Nat} {Q : tO → tH → Prop} {w5 w6 : Value} (hI : IV h) (L34 : h.1 34 0 = nI L) (hL : L ≤ 3072) (hi : i + 6 ≤ L) (go : GO h L i Q) : AX 39 200 1112 [.ref 33, .ref 0, .ref 13, .ref 32, .int (nI i), w5, w6, .float 0] [] h Q := by
  obtain ⟨k, h1, h2, v, k2, r1, r2, iv, th, ov⟩ := op_flips hI (h.1 33 (i + 1))
  obtain ⟨⟨f33, f34⟩, g1, g2⟩ := rn_kp r1
  obtain ⟨⟨f33x, f34x⟩, g3, -⟩ := rn_kp r2
  have L1 : h1.1 34 0 = nI L := by rw [f34]; exact L34
  have L2 : h2.1 34 0 = nI L := by rw [f34x]; exact L1
  have c1 : h1.2.2.2 ≤ h.2.2.2 + 1 := g2 (by decide) 1 (by decide +kernel)
  have c2 : h2.2.2.2 = h1.2.2.2 := g3 (by decide)
  rw [s_200_1112]
  simp only [nI_p1, nI_p2, nI_p3, nI_p4, nI_p5, tin_33 L34 (show i + 1 < L by omega) hL, tin_33 L34 (show i + 2 < L by omega) hL, tin_33 L34 (show i + 3 < L by omega) hL, tin_33 L34 (show i + 4 < L by omega) hL, tin_33 L34 (show i + 5 < L by omega) hL, nC (show i + 1 < 10000 by omega), nC (show i + 2 < 10000 by omega), nC (show i + 3 < 10000 by omega), nC (show i + 4 < 10000 by omega), nC (show i + 5 < 10000 by omega), ob0, ob13, true_and]
  rw [r1]
  simp only [t_ki, nI_p1, nI_p2, nI_p3, nI_p4, nI_p5, tin_33 L1 (show i + 1 < L by omega) hL, tin_33 L1 (show i + 2 < L by omega) hL, tin_33 L1 (show i + 3 < L by omega) hL, tin_33 L1 (show i + 4 < L by omega) hL, tin_33 L1 (show i + 5 < L by omega) hL, nC (show i + 1 < 10000 by omega), nC (show i + 2 < 10000 by omega), nC (show i + 3 < 10000 by omega), nC (show i + 4 < 10000 by omega), nC (show i + 5 < 10000 by omega), ob0, ob13, true_and, f33]
  rw [r2]
  simp only [t_ki, ob13, true_and, n99, tin_lo, cl0, s_200_1165, s_200_2137, nI_p6]
  exact fin_I th k2 ov (go _ _ _ iv L2 (by omega))
theorem law_17 {h : tH} {L i : Nat} {Q : tO → tH → Prop} {w5 w6 : Value} (hI : IV h) (L34 : h.1 34 0 = nI L) (hL : L ≤ 3072) (hi : i + 6 ≤ L) (go : GO h L i Q) : AX 39 200 1168 [.ref 33, .ref 0, .ref 13, .ref 32, .int (nI i), w5, w6, .float 0] [] h Q := by
  obtain ⟨k, h1, h2, v, k2, r1, r2, iv, th, ov⟩ := op_hull hI (h.1 33 (i + 1)) (h.1 33 (i + 2))
  obtain ⟨⟨f33, f34⟩, g1, g2⟩ := rn_kp r1
  obtain ⟨⟨f33x, f34x⟩, g3, -⟩ := rn_kp r2
  have L1 : h1.1 34 0 = nI L := by rw [f34]; exact L34
  have L2 : h2.1 34 0 = nI L := by rw [f34x]; exact L1
  have c1 : h1.2.2.2 ≤ h.2.2.2 + 1 := g2 (by decide) 1 (by decide +kernel)
  have c2 : h2.2.2.2 = h1.2.2.2 := g3 (by decide)
  rw [s_200_1168]
  simp only [nI_p1, nI_p2, nI_p3, nI_p4, nI_p5, tin_33 L34 (show i + 1 < L by omega) hL, tin_33 L34 (show i + 2 < L by omega) hL, tin_33 L34 (show i + 3 < L by omega) hL, tin_33 L34 (show i + 4 < L by omega) hL, tin_33 L34 (show i + 5 < L by omega) hL, nC (show i + 1 < 10000 by omega), nC (show i + 2 < 10000 by omega), nC (show i + 3 < 10000 by omega), nC (show i + 4 < 10000 by omega), nC (show i + 5 < 10000 by omega), ob0, ob13, true_and]
  rw [r1]
  simp only [t_ki, nI_p1, nI_p2, nI_p3, nI_p4, nI_p5, tin_33 L1 (show i + 1 < L by omega) hL, tin_33 L1 (show i + 2 < L by omega) hL, tin_33 L1 (show i + 3 < L by omega) hL, tin_33 L1 (show i + 4 < L by omega) hL, tin_33 L1 (show i + 5 < L by omega) hL, nC (show i + 1 < 10000 by omega), nC (show i + 2 < 10000 by omega), nC (show i + 3 < 10000 by omega), nC (show i + 4 < 10000 by omega), nC (show i + 5 < 10000 by omega), ob0, ob13, true_and, f33]
  rw [r2]
  simp only [t_ki, ob13, true_and, n99, tin_lo, cl0, s_200_1233, s_200_2137, nI_p6]
  exact fin_I th k2 ov (go _ _ _ iv L2 (by omega))
theorem law_18 {h : tH} {L i : Nat} {Q : tO → tH → Prop} {w5 w6 : Value} (hI : IV h) (L34 : h.1 34 0 = nI L) (hL : L ≤ 3072) (hi : i + 6 ≤ L) (go : GO h L i Q) : AX 39 200 1236 [.ref 33, .ref 0, .ref 13, .ref 32, .int (nI i), w5, w6, .float 0] [] h Q := by
  obtain ⟨k, h1, h2, v, k2, r1, r2, iv, th, ov⟩ := op_layer hI (h.1 33 (i + 1)) (h.1 33 (i + 2))
  obtain ⟨⟨f33, f34⟩, g1, g2⟩ := rn_kp r1
  obtain ⟨⟨f33x, f34x⟩, g3, -⟩ := rn_kp r2
  have L1 : h1.1 34 0 = nI L := by rw [f34]; exact L34
  have L2 : h2.1 34 0 = nI L := by rw [f34x]; exact L1
  have c1 : h1.2.2.2 ≤ h.2.2.2 + 1 := g2 (by decide) 1 (by decide +kernel)
  have c2 : h2.2.2.2 = h1.2.2.2 := g3 (by decide)
  rw [s_200_1236]
  simp only [nI_p1, nI_p2, nI_p3, nI_p4, nI_p5, tin_33 L34 (show i + 1 < L by omega) hL, tin_33 L34 (show i + 2 < L by omega) hL, tin_33 L34 (show i + 3 < L by omega) hL, tin_33 L34 (show i + 4 < L by omega) hL, tin_33 L34 (show i + 5 < L by omega) hL, nC (show i + 1 < 10000 by omega), nC (show i + 2 < 10000 by omega), nC (show i + 3 < 10000 by omega), nC (show i + 4 < 10000 by omega), nC (show i + 5 < 10000 by omega), ob0, ob13, true_and]
  rw [r1]
  simp only [t_ki, nI_p1, nI_p2, nI_p3, nI_p4, nI_p5, tin_33 L1 (show i + 1 < L by omega) hL, tin_33 L1 (show i + 2 < L by omega) hL, tin_33 L1 (show i + 3 < L by omega) hL, tin_33 L1 (show i + 4 < L by omega) hL, tin_33 L1 (show i + 5 < L by omega) hL, nC (show i + 1 < 10000 by omega), nC (show i + 2 < 10000 by omega), nC (show i + 3 < 10000 by omega), nC (show i + 4 < 10000 by omega), nC (show i + 5 < 10000 by omega), ob0, ob13, true_and, f33]
  rw [r2]
  simp only [t_ki, ob13, true_and, n99, tin_lo, cl0, s_200_1301, s_200_2137, nI_p6]
  exact fin_I th k2 ov (go _ _ _ iv L2 (by omega))
theorem law_19 {h : tH} {L i : Nat} {Q : tO → tH → Prop} {w5 w6 : Value} (hI : IV h) (L34 : h.1 34 0 = nI L) (hL : L ≤ 3072) (hi : i + 6 ≤ L) (go : GO h L i Q) : AX 39 200 1304 [.ref 33, .ref 0, .ref 13, .ref 32, .int (nI i), w5, w6, .float 0] [] h Q := by
  obtain ⟨k, h1, h2, v, k2, r1, r2, iv, th, ov⟩ := op_cross hI (h.1 33 (i + 1)) (h.1 33 (i + 2)) (h.1 33 (i + 3)) (h.1 33 (i + 4)) (h.1 33 (i + 5))
  obtain ⟨⟨f33, f34⟩, g1, g2⟩ := rn_kp r1
  obtain ⟨⟨f33x, f34x⟩, g3, -⟩ := rn_kp r2
  have L1 : h1.1 34 0 = nI L := by rw [f34]; exact L34
  have L2 : h2.1 34 0 = nI L := by rw [f34x]; exact L1
  have c1 : h1.2.2.2 ≤ h.2.2.2 + 1 := g2 (by decide) 1 (by decide +kernel)
  have c2 : h2.2.2.2 = h1.2.2.2 := g3 (by decide)
  rw [s_200_1304]
  simp only [nI_p1, nI_p2, nI_p3, nI_p4, nI_p5, tin_33 L34 (show i + 1 < L by omega) hL, tin_33 L34 (show i + 2 < L by omega) hL, tin_33 L34 (show i + 3 < L by omega) hL, tin_33 L34 (show i + 4 < L by omega) hL, tin_33 L34 (show i + 5 < L by omega) hL, nC (show i + 1 < 10000 by omega), nC (show i + 2 < 10000 by omega), nC (show i + 3 < 10000 by omega), nC (show i + 4 < 10000 by omega), nC (show i + 5 < 10000 by omega), ob0, ob13, true_and]
  rw [r1]
  simp only [t_ki, nI_p1, nI_p2, nI_p3, nI_p4, nI_p5, tin_33 L1 (show i + 1 < L by omega) hL, tin_33 L1 (show i + 2 < L by omega) hL, tin_33 L1 (show i + 3 < L by omega) hL, tin_33 L1 (show i + 4 < L by omega) hL, tin_33 L1 (show i + 5 < L by omega) hL, nC (show i + 1 < 10000 by omega), nC (show i + 2 < 10000 by omega), nC (show i + 3 < 10000 by omega), nC (show i + 4 < 10000 by omega), nC (show i + 5 < 10000 by omega), ob0, ob13, true_and, f33]
  rw [r2]
  simp only [t_ki, ob13, true_and, n99, tin_lo, cl0, s_200_1406, s_200_1412, s_200_2137, nI_p6]
  exact fin_B th k2 ov (go _ _ _ iv L2 (by omega))
theorem law_20 {h : tH} {L i : Nat} {Q : tO → tH → Prop} {w5 w6 : Value} (hI : IV h) (L34 : h.1 34 0 = nI L) (hL : L ≤ 3072) (hi : i + 6 ≤ L) (go : GO h L i Q) : AX 39 200 1415 [.ref 33, .ref 0, .ref 13, .ref 32, .int (nI i), w5, w6, .float 0] [] h Q := by
  obtain ⟨k, h1, h2, v, k2, r1, r2, iv, th, ov⟩ := op_crossings hI (h.1 33 (i + 1))
  obtain ⟨⟨f33, f34⟩, g1, g2⟩ := rn_kp r1
  obtain ⟨⟨f33x, f34x⟩, g3, -⟩ := rn_kp r2
  have L1 : h1.1 34 0 = nI L := by rw [f34]; exact L34
  have L2 : h2.1 34 0 = nI L := by rw [f34x]; exact L1
  have c1 : h1.2.2.2 ≤ h.2.2.2 + 1 := g2 (by decide) 1 (by decide +kernel)
  have c2 : h2.2.2.2 = h1.2.2.2 := g3 (by decide)
  rw [s_200_1415]
  simp only [nI_p1, nI_p2, nI_p3, nI_p4, nI_p5, tin_33 L34 (show i + 1 < L by omega) hL, tin_33 L34 (show i + 2 < L by omega) hL, tin_33 L34 (show i + 3 < L by omega) hL, tin_33 L34 (show i + 4 < L by omega) hL, tin_33 L34 (show i + 5 < L by omega) hL, nC (show i + 1 < 10000 by omega), nC (show i + 2 < 10000 by omega), nC (show i + 3 < 10000 by omega), nC (show i + 4 < 10000 by omega), nC (show i + 5 < 10000 by omega), ob0, ob13, true_and]
  rw [r1]
  simp only [t_ki, nI_p1, nI_p2, nI_p3, nI_p4, nI_p5, tin_33 L1 (show i + 1 < L by omega) hL, tin_33 L1 (show i + 2 < L by omega) hL, tin_33 L1 (show i + 3 < L by omega) hL, tin_33 L1 (show i + 4 < L by omega) hL, tin_33 L1 (show i + 5 < L by omega) hL, nC (show i + 1 < 10000 by omega), nC (show i + 2 < 10000 by omega), nC (show i + 3 < 10000 by omega), nC (show i + 4 < 10000 by omega), nC (show i + 5 < 10000 by omega), ob0, ob13, true_and, f33]
  rw [r2]
  simp only [t_ki, ob13, true_and, n99, tin_lo, cl0, s_200_1468, s_200_2137, nI_p6]
  exact fin_I th k2 ov (go _ _ _ iv L2 (by omega))
theorem law_21 {h : tH} {L i : Nat} {Q : tO → tH → Prop} {w5 w6 : Value} (hI : IV h) (L34 : h.1 34 0 = nI L) (hL : L ≤ 3072) (hi : i + 6 ≤ L) (go : GO h L i Q) : AX 39 200 1471 [.ref 33, .ref 0, .ref 13, .ref 32, .int (nI i), w5, w6, .float 0] [] h Q := by
  obtain ⟨k, h1, h2, v, k2, r1, r2, iv, th, ov⟩ := op_empties hI (h.1 33 (i + 1))
  obtain ⟨⟨f33, f34⟩, g1, g2⟩ := rn_kp r1
  obtain ⟨⟨f33x, f34x⟩, g3, -⟩ := rn_kp r2
  have L1 : h1.1 34 0 = nI L := by rw [f34]; exact L34
  have L2 : h2.1 34 0 = nI L := by rw [f34x]; exact L1
  have c1 : h1.2.2.2 ≤ h.2.2.2 + 1 := g2 (by decide) 1 (by decide +kernel)
  have c2 : h2.2.2.2 = h1.2.2.2 := g3 (by decide)
  rw [s_200_1471]
  simp only [nI_p1, nI_p2, nI_p3, nI_p4, nI_p5, tin_33 L34 (show i + 1 < L by omega) hL, tin_33 L34 (show i + 2 < L by omega) hL, tin_33 L34 (show i + 3 < L by omega) hL, tin_33 L34 (show i + 4 < L by omega) hL, tin_33 L34 (show i + 5 < L by omega) hL, nC (show i + 1 < 10000 by omega), nC (show i + 2 < 10000 by omega), nC (show i + 3 < 10000 by omega), nC (show i + 4 < 10000 by omega), nC (show i + 5 < 10000 by omega), ob0, ob13, true_and]
  rw [r1]
  simp only [t_ki, nI_p1, nI_p2, nI_p3, nI_p4, nI_p5, tin_33 L1 (show i + 1 < L by omega) hL, tin_33 L1 (show i + 2 < L by omega) hL, tin_33 L1 (show i + 3 < L by omega) hL, tin_33 L1 (show i + 4 < L by omega) hL, tin_33 L1 (show i + 5 < L by omega) hL, nC (show i + 1 < 10000 by omega), nC (show i + 2 < 10000 by omega), nC (show i + 3 < 10000 by omega), nC (show i + 4 < 10000 by omega), nC (show i + 5 < 10000 by omega), ob0, ob13, true_and, f33]
  rw [r2]
  simp only [t_ki, ob13, true_and, n99, tin_lo, cl0, s_200_1524, s_200_2137, nI_p6]
  exact fin_I th k2 ov (go _ _ _ iv L2 (by omega))
theorem law_22 {h : tH} {L i : Nat} {Q : tO → tH → Prop} {w5 w6 : Value} (hI : IV h) (L34 : h.1 34 0 = nI L) (hL : L ≤ 3072) (hi : i + 6 ≤ L) (go : GO h L i Q) : AX 39 200 1527 [.ref 33, .ref 0, .ref 13, .ref 32, .int (nI i), w5, w6, .float 0] [] h Q := by
  obtain ⟨k, h1, h2, v, k2, r1, r2, iv, th, ov⟩ := op_level hI (h.1 33 (i + 1)) (h.1 33 (i + 2))
  obtain ⟨⟨f33, f34⟩, g1, g2⟩ := rn_kp r1
  obtain ⟨⟨f33x, f34x⟩, g3, -⟩ := rn_kp r2
  have L1 : h1.1 34 0 = nI L := by rw [f34]; exact L34
  have L2 : h2.1 34 0 = nI L := by rw [f34x]; exact L1
  have c1 : h1.2.2.2 ≤ h.2.2.2 + 1 := g2 (by decide) 1 (by decide +kernel)
  have c2 : h2.2.2.2 = h1.2.2.2 := g3 (by decide)
  rw [s_200_1527]
  simp only [nI_p1, nI_p2, nI_p3, nI_p4, nI_p5, tin_33 L34 (show i + 1 < L by omega) hL, tin_33 L34 (show i + 2 < L by omega) hL, tin_33 L34 (show i + 3 < L by omega) hL, tin_33 L34 (show i + 4 < L by omega) hL, tin_33 L34 (show i + 5 < L by omega) hL, nC (show i + 1 < 10000 by omega), nC (show i + 2 < 10000 by omega), nC (show i + 3 < 10000 by omega), nC (show i + 4 < 10000 by omega), nC (show i + 5 < 10000 by omega), ob0, ob13, true_and]
  rw [r1]
  simp only [t_ki, nI_p1, nI_p2, nI_p3, nI_p4, nI_p5, tin_33 L1 (show i + 1 < L by omega) hL, tin_33 L1 (show i + 2 < L by omega) hL, tin_33 L1 (show i + 3 < L by omega) hL, tin_33 L1 (show i + 4 < L by omega) hL, tin_33 L1 (show i + 5 < L by omega) hL, nC (show i + 1 < 10000 by omega), nC (show i + 2 < 10000 by omega), nC (show i + 3 < 10000 by omega), nC (show i + 4 < 10000 by omega), nC (show i + 5 < 10000 by omega), ob0, ob13, true_and, f33]
  rw [r2]
  simp only [t_ki, ob13, true_and, n99, tin_lo, cl0, s_200_1592, s_200_2137, nI_p6]
  exact fin_I th k2 ov (go _ _ _ iv L2 (by omega))
theorem law_23 {h : tH} {L i : Nat} {Q : tO → tH → Prop} {w5 w6 : Value} (hI : IV h) (L34 : h.1 34 0 = nI L) (hL : L ≤ 3072) (hi : i + 6 ≤ L) (go : GO h L i Q) : AX 39 200 1595 [.ref 33, .ref 0, .ref 13, .ref 32, .int (nI i), w5, w6, .float 0] [] h Q := by
  obtain ⟨k, h1, h2, v, k2, r1, r2, iv, th, ov⟩ := op_matchings hI (h.1 33 (i + 1)) (h.1 33 (i + 2))
  obtain ⟨⟨f33, f34⟩, g1, g2⟩ := rn_kp r1
  obtain ⟨⟨f33x, f34x⟩, g3, -⟩ := rn_kp r2
  have L1 : h1.1 34 0 = nI L := by rw [f34]; exact L34
  have L2 : h2.1 34 0 = nI L := by rw [f34x]; exact L1
  have c1 : h1.2.2.2 ≤ h.2.2.2 + 1 := g2 (by decide) 1 (by decide +kernel)
  have c2 : h2.2.2.2 = h1.2.2.2 := g3 (by decide)
  rw [s_200_1595]
  simp only [nI_p1, nI_p2, nI_p3, nI_p4, nI_p5, tin_33 L34 (show i + 1 < L by omega) hL, tin_33 L34 (show i + 2 < L by omega) hL, tin_33 L34 (show i + 3 < L by omega) hL, tin_33 L34 (show i + 4 < L by omega) hL, tin_33 L34 (show i + 5 < L by omega) hL, nC (show i + 1 < 10000 by omega), nC (show i + 2 < 10000 by omega), nC (show i + 3 < 10000 by omega), nC (show i + 4 < 10000 by omega), nC (show i + 5 < 10000 by omega), ob0, ob13, true_and]
  rw [r1]
  simp only [t_ki, nI_p1, nI_p2, nI_p3, nI_p4, nI_p5, tin_33 L1 (show i + 1 < L by omega) hL, tin_33 L1 (show i + 2 < L by omega) hL, tin_33 L1 (show i + 3 < L by omega) hL, tin_33 L1 (show i + 4 < L by omega) hL, tin_33 L1 (show i + 5 < L by omega) hL, nC (show i + 1 < 10000 by omega), nC (show i + 2 < 10000 by omega), nC (show i + 3 < 10000 by omega), nC (show i + 4 < 10000 by omega), nC (show i + 5 < 10000 by omega), ob0, ob13, true_and, f33]
  rw [r2]
  simp only [t_ki, ob13, true_and, n99, tin_lo, cl0, s_200_1660, s_200_2137, nI_p6]
  exact fin_I th k2 ov (go _ _ _ iv L2 (by omega))
theorem law_24 {h : tH} {L i : Nat} {Q : tO → tH → Prop} {w5 w6 : Value} (hI : IV h) (L34 : h.1 34 0 = nI L) (hL : L ≤ 3072) (hi : i + 6 ≤ L) (go : GO h L i Q) : AX 39 200 1663 [.ref 33, .ref 0, .ref 13, .ref 32, .int (nI i), w5, w6, .float 0] [] h Q := by
  obtain ⟨k, h1, h2, v, k2, r1, r2, iv, th, ov⟩ := op_paths hI (h.1 33 (i + 1))
  obtain ⟨⟨f33, f34⟩, g1, g2⟩ := rn_kp r1
  obtain ⟨⟨f33x, f34x⟩, g3, -⟩ := rn_kp r2
  have L1 : h1.1 34 0 = nI L := by rw [f34]; exact L34
  have L2 : h2.1 34 0 = nI L := by rw [f34x]; exact L1
  have c1 : h1.2.2.2 ≤ h.2.2.2 + 1 := g2 (by decide) 1 (by decide +kernel)
  have c2 : h2.2.2.2 = h1.2.2.2 := g3 (by decide)
  rw [s_200_1663]
  simp only [nI_p1, nI_p2, nI_p3, nI_p4, nI_p5, tin_33 L34 (show i + 1 < L by omega) hL, tin_33 L34 (show i + 2 < L by omega) hL, tin_33 L34 (show i + 3 < L by omega) hL, tin_33 L34 (show i + 4 < L by omega) hL, tin_33 L34 (show i + 5 < L by omega) hL, nC (show i + 1 < 10000 by omega), nC (show i + 2 < 10000 by omega), nC (show i + 3 < 10000 by omega), nC (show i + 4 < 10000 by omega), nC (show i + 5 < 10000 by omega), ob0, ob13, true_and]
  rw [r1]
  simp only [t_ki, nI_p1, nI_p2, nI_p3, nI_p4, nI_p5, tin_33 L1 (show i + 1 < L by omega) hL, tin_33 L1 (show i + 2 < L by omega) hL, tin_33 L1 (show i + 3 < L by omega) hL, tin_33 L1 (show i + 4 < L by omega) hL, tin_33 L1 (show i + 5 < L by omega) hL, nC (show i + 1 < 10000 by omega), nC (show i + 2 < 10000 by omega), nC (show i + 3 < 10000 by omega), nC (show i + 4 < 10000 by omega), nC (show i + 5 < 10000 by omega), ob0, ob13, true_and, f33]
  rw [r2]
  simp only [t_ki, ob13, true_and, n99, tin_lo, cl0, s_200_1716, s_200_2137, nI_p6]
  exact fin_I th k2 ov (go _ _ _ iv L2 (by omega))
theorem law_25 {h : tH} {L i : Nat} {Q : tO → tH → Prop} {w5 w6 : Value} (hI : IV h) (L34 : h.1 34 0 = nI L) (hL : L ≤ 3072) (hi : i + 6 ≤ L) (go : GO h L i Q) : AX 39 200 1719 [.ref 33, .ref 0, .ref 13, .ref 32, .int (nI i), w5, w6, .float 0] [] h Q := by
  obtain ⟨k, h1, h2, v, k2, r1, r2, iv, th, ov⟩ := op_extensions hI (h.1 33 (i + 1))
  obtain ⟨⟨f33, f34⟩, g1, g2⟩ := rn_kp r1
  obtain ⟨⟨f33x, f34x⟩, g3, -⟩ := rn_kp r2
  have L1 : h1.1 34 0 = nI L := by rw [f34]; exact L34
  have L2 : h2.1 34 0 = nI L := by rw [f34x]; exact L1
  have c1 : h1.2.2.2 ≤ h.2.2.2 + 1 := g2 (by decide) 1 (by decide +kernel)
  have c2 : h2.2.2.2 = h1.2.2.2 := g3 (by decide)
  rw [s_200_1719]
  simp only [nI_p1, nI_p2, nI_p3, nI_p4, nI_p5, tin_33 L34 (show i + 1 < L by omega) hL, tin_33 L34 (show i + 2 < L by omega) hL, tin_33 L34 (show i + 3 < L by omega) hL, tin_33 L34 (show i + 4 < L by omega) hL, tin_33 L34 (show i + 5 < L by omega) hL, nC (show i + 1 < 10000 by omega), nC (show i + 2 < 10000 by omega), nC (show i + 3 < 10000 by omega), nC (show i + 4 < 10000 by omega), nC (show i + 5 < 10000 by omega), ob0, ob13, true_and]
  rw [r1]
  simp only [t_ki, nI_p1, nI_p2, nI_p3, nI_p4, nI_p5, tin_33 L1 (show i + 1 < L by omega) hL, tin_33 L1 (show i + 2 < L by omega) hL, tin_33 L1 (show i + 3 < L by omega) hL, tin_33 L1 (show i + 4 < L by omega) hL, tin_33 L1 (show i + 5 < L by omega) hL, nC (show i + 1 < 10000 by omega), nC (show i + 2 < 10000 by omega), nC (show i + 3 < 10000 by omega), nC (show i + 4 < 10000 by omega), nC (show i + 5 < 10000 by omega), ob0, ob13, true_and, f33]
  rw [r2]
  simp only [t_ki, ob13, true_and, n99, tin_lo, cl0, s_200_1772, s_200_2137, nI_p6]
  exact fin_I th k2 ov (go _ _ _ iv L2 (by omega))
theorem law_26 {h : tH} {L i : Nat} {Q : tO → tH → Prop} {w5 w6 : Value} (hI : IV h) (L34 : h.1 34 0 = nI L) (hL : L ≤ 3072) (hi : i + 6 ≤ L) (go : GO h L i Q) : AX 39 200 1775 [.ref 33, .ref 0, .ref 13, .ref 32, .int (nI i), w5, w6, .float 0] [] h Q := by
  obtain ⟨k, h1, h2, v, k2, r1, r2, iv, th, ov⟩ := op_canonical hI (h.1 33 (i + 1)) (if h.1 33 (i + 2) = (0 : Int32) then (0 : Int32) else 1)
  obtain ⟨⟨f33, f34⟩, g1, g2⟩ := rn_kp r1
  obtain ⟨⟨f33x, f34x⟩, g3, -⟩ := rn_kp r2
  have L1 : h1.1 34 0 = nI L := by rw [f34]; exact L34
  have L2 : h2.1 34 0 = nI L := by rw [f34x]; exact L1
  have c1 : h1.2.2.2 ≤ h.2.2.2 + 1 := g2 (by decide) 1 (by decide +kernel)
  have c2 : h2.2.2.2 = h1.2.2.2 := g3 (by decide)
  rw [s_200_1775]
  simp only [nI_p1, nI_p2, nI_p3, nI_p4, nI_p5, tin_33 L34 (show i + 1 < L by omega) hL, tin_33 L34 (show i + 2 < L by omega) hL, tin_33 L34 (show i + 3 < L by omega) hL, tin_33 L34 (show i + 4 < L by omega) hL, tin_33 L34 (show i + 5 < L by omega) hL, nC (show i + 1 < 10000 by omega), nC (show i + 2 < 10000 by omega), nC (show i + 3 < 10000 by omega), nC (show i + 4 < 10000 by omega), nC (show i + 5 < 10000 by omega), ob0, ob13, true_and]
  rw [r1]
  simp only [t_ki, nI_p1, nI_p2, nI_p3, nI_p4, nI_p5, tin_33 L1 (show i + 1 < L by omega) hL, tin_33 L1 (show i + 2 < L by omega) hL, tin_33 L1 (show i + 3 < L by omega) hL, tin_33 L1 (show i + 4 < L by omega) hL, tin_33 L1 (show i + 5 < L by omega) hL, nC (show i + 1 < 10000 by omega), nC (show i + 2 < 10000 by omega), nC (show i + 3 < 10000 by omega), nC (show i + 4 < 10000 by omega), nC (show i + 5 < 10000 by omega), ob0, ob13, true_and, f33]
  rw [r2]
  simp only [t_kl, t_ki, ob13, true_and, n99, tin_lo, cl0, s_200_1855, s_200_2137, nI_p6]
  exact fin_I th k2 ov (go _ _ _ iv L2 (by omega))
theorem law_27 {h : tH} {L i : Nat} {Q : tO → tH → Prop} {w5 w6 : Value} (hI : IV h) (L34 : h.1 34 0 = nI L) (hL : L ≤ 3072) (hi : i + 6 ≤ L) (go : GO h L i Q) : AX 39 200 1858 [.ref 33, .ref 0, .ref 13, .ref 32, .int (nI i), w5, w6, .float 0] [] h Q := by
  obtain ⟨k, h1, h2, v, k2, r1, r2, iv, th, ov⟩ := op_triangulate hI (h.1 33 (i + 1))
  obtain ⟨⟨f33, f34⟩, g1, g2⟩ := rn_kp r1
  obtain ⟨⟨f33x, f34x⟩, g3, -⟩ := rn_kp r2
  have L1 : h1.1 34 0 = nI L := by rw [f34]; exact L34
  have L2 : h2.1 34 0 = nI L := by rw [f34x]; exact L1
  have c1 : h1.2.2.2 ≤ h.2.2.2 + 1 := g2 (by decide) 1 (by decide +kernel)
  have c2 : h2.2.2.2 = h1.2.2.2 := g3 (by decide)
  rw [s_200_1858]
  simp only [nI_p1, nI_p2, nI_p3, nI_p4, nI_p5, tin_33 L34 (show i + 1 < L by omega) hL, tin_33 L34 (show i + 2 < L by omega) hL, tin_33 L34 (show i + 3 < L by omega) hL, tin_33 L34 (show i + 4 < L by omega) hL, tin_33 L34 (show i + 5 < L by omega) hL, nC (show i + 1 < 10000 by omega), nC (show i + 2 < 10000 by omega), nC (show i + 3 < 10000 by omega), nC (show i + 4 < 10000 by omega), nC (show i + 5 < 10000 by omega), ob0, ob13, true_and]
  rw [r1]
  simp only [t_ki, nI_p1, nI_p2, nI_p3, nI_p4, nI_p5, tin_33 L1 (show i + 1 < L by omega) hL, tin_33 L1 (show i + 2 < L by omega) hL, tin_33 L1 (show i + 3 < L by omega) hL, tin_33 L1 (show i + 4 < L by omega) hL, tin_33 L1 (show i + 5 < L by omega) hL, nC (show i + 1 < 10000 by omega), nC (show i + 2 < 10000 by omega), nC (show i + 3 < 10000 by omega), nC (show i + 4 < 10000 by omega), nC (show i + 5 < 10000 by omega), ob0, ob13, true_and, f33]
  rw [r2]
  simp only [t_ki, ob13, true_and, n99, tin_lo, cl0, s_200_1911, s_200_2137, nI_p6]
  exact fin_I th k2 ov (go _ _ _ iv L2 (by omega))
theorem law_28 {h : tH} {L i : Nat} {Q : tO → tH → Prop} {w5 w6 : Value} (hI : IV h) (L34 : h.1 34 0 = nI L) (hL : L ≤ 3072) (hi : i + 6 ≤ L) (go : GO h L i Q) : AX 39 200 1914 [.ref 33, .ref 0, .ref 13, .ref 32, .int (nI i), w5, w6, .float 0] [] h Q := by
  obtain ⟨k, h1, h2, v, k2, r1, r2, iv, th, ov⟩ := op_flipEdge hI (h.1 33 (i + 1)) (h.1 33 (i + 2)) (h.1 33 (i + 3))
  obtain ⟨⟨f33, f34⟩, g1, g2⟩ := rn_kp r1
  obtain ⟨⟨f33x, f34x⟩, g3, -⟩ := rn_kp r2
  have L1 : h1.1 34 0 = nI L := by rw [f34]; exact L34
  have L2 : h2.1 34 0 = nI L := by rw [f34x]; exact L1
  have c1 : h1.2.2.2 ≤ h.2.2.2 + 1 := g2 (by decide) 1 (by decide +kernel)
  have c2 : h2.2.2.2 = h1.2.2.2 := g3 (by decide)
  rw [s_200_1914]
  simp only [nI_p1, nI_p2, nI_p3, nI_p4, nI_p5, tin_33 L34 (show i + 1 < L by omega) hL, tin_33 L34 (show i + 2 < L by omega) hL, tin_33 L34 (show i + 3 < L by omega) hL, tin_33 L34 (show i + 4 < L by omega) hL, tin_33 L34 (show i + 5 < L by omega) hL, nC (show i + 1 < 10000 by omega), nC (show i + 2 < 10000 by omega), nC (show i + 3 < 10000 by omega), nC (show i + 4 < 10000 by omega), nC (show i + 5 < 10000 by omega), ob0, ob13, true_and]
  rw [r1]
  simp only [t_ki, nI_p1, nI_p2, nI_p3, nI_p4, nI_p5, tin_33 L1 (show i + 1 < L by omega) hL, tin_33 L1 (show i + 2 < L by omega) hL, tin_33 L1 (show i + 3 < L by omega) hL, tin_33 L1 (show i + 4 < L by omega) hL, tin_33 L1 (show i + 5 < L by omega) hL, nC (show i + 1 < 10000 by omega), nC (show i + 2 < 10000 by omega), nC (show i + 3 < 10000 by omega), nC (show i + 4 < 10000 by omega), nC (show i + 5 < 10000 by omega), ob0, ob13, true_and, f33]
  rw [r2]
  simp only [t_ki, ob13, true_and, n99, tin_lo, cl0, s_200_1991, s_200_2137, nI_p6]
  exact fin_I th k2 ov (go _ _ _ iv L2 (by omega))
theorem law_29 {h : tH} {L i : Nat} {Q : tO → tH → Prop} {w5 w6 : Value} (hI : IV h) (L34 : h.1 34 0 = nI L) (hL : L ≤ 3072) (hi : i + 6 ≤ L) (go : GO h L i Q) : AX 39 200 1994 [.ref 33, .ref 0, .ref 13, .ref 32, .int (nI i), w5, w6, .float 0] [] h Q := by
  obtain ⟨k, h1, h2, v, k2, r1, r2, iv, th, ov⟩ := op_edge hI (h.1 33 (i + 1)) (h.1 33 (i + 2)) (h.1 33 (i + 3))
  obtain ⟨⟨f33, f34⟩, g1, g2⟩ := rn_kp r1
  obtain ⟨⟨f33x, f34x⟩, g3, -⟩ := rn_kp r2
  have L1 : h1.1 34 0 = nI L := by rw [f34]; exact L34
  have L2 : h2.1 34 0 = nI L := by rw [f34x]; exact L1
  have c1 : h1.2.2.2 ≤ h.2.2.2 + 1 := g2 (by decide) 1 (by decide +kernel)
  have c2 : h2.2.2.2 = h1.2.2.2 := g3 (by decide)
  rw [s_200_1994]
  simp only [nI_p1, nI_p2, nI_p3, nI_p4, nI_p5, tin_33 L34 (show i + 1 < L by omega) hL, tin_33 L34 (show i + 2 < L by omega) hL, tin_33 L34 (show i + 3 < L by omega) hL, tin_33 L34 (show i + 4 < L by omega) hL, tin_33 L34 (show i + 5 < L by omega) hL, nC (show i + 1 < 10000 by omega), nC (show i + 2 < 10000 by omega), nC (show i + 3 < 10000 by omega), nC (show i + 4 < 10000 by omega), nC (show i + 5 < 10000 by omega), ob0, ob13, true_and]
  rw [r1]
  simp only [t_ki, nI_p1, nI_p2, nI_p3, nI_p4, nI_p5, tin_33 L1 (show i + 1 < L by omega) hL, tin_33 L1 (show i + 2 < L by omega) hL, tin_33 L1 (show i + 3 < L by omega) hL, tin_33 L1 (show i + 4 < L by omega) hL, tin_33 L1 (show i + 5 < L by omega) hL, nC (show i + 1 < 10000 by omega), nC (show i + 2 < 10000 by omega), nC (show i + 3 < 10000 by omega), nC (show i + 4 < 10000 by omega), nC (show i + 5 < 10000 by omega), ob0, ob13, true_and, f33]
  rw [r2]
  simp only [t_ki, ob13, true_and, n99, tin_lo, cl0, s_200_2072, s_200_2078, s_200_2137, nI_p6]
  exact fin_B th k2 ov (go _ _ _ iv L2 (by omega))
theorem law_30 {h : tH} {L i : Nat} {Q : tO → tH → Prop} {w5 w6 : Value} (hI : IV h) (L34 : h.1 34 0 = nI L) (hL : L ≤ 3072) (hi : i + 6 ≤ L) (go : GO h L i Q) : AX 39 200 2081 [.ref 33, .ref 0, .ref 13, .ref 32, .int (nI i), w5, w6, .float 0] [] h Q := by
  obtain ⟨k, h1, h2, v, k2, r1, r2, iv, th, ov⟩ := op_triangulations hI (h.1 33 (i + 1))
  obtain ⟨⟨f33, f34⟩, g1, g2⟩ := rn_kp r1
  obtain ⟨⟨f33x, f34x⟩, g3, -⟩ := rn_kp r2
  have L1 : h1.1 34 0 = nI L := by rw [f34]; exact L34
  have L2 : h2.1 34 0 = nI L := by rw [f34x]; exact L1
  have c1 : h1.2.2.2 ≤ h.2.2.2 + 1 := g2 (by decide) 1 (by decide +kernel)
  have c2 : h2.2.2.2 = h1.2.2.2 := g3 (by decide)
  rw [s_200_2081]
  simp only [nI_p1, nI_p2, nI_p3, nI_p4, nI_p5, tin_33 L34 (show i + 1 < L by omega) hL, tin_33 L34 (show i + 2 < L by omega) hL, tin_33 L34 (show i + 3 < L by omega) hL, tin_33 L34 (show i + 4 < L by omega) hL, tin_33 L34 (show i + 5 < L by omega) hL, nC (show i + 1 < 10000 by omega), nC (show i + 2 < 10000 by omega), nC (show i + 3 < 10000 by omega), nC (show i + 4 < 10000 by omega), nC (show i + 5 < 10000 by omega), ob0, ob13, true_and]
  rw [r1]
  simp only [t_ki, nI_p1, nI_p2, nI_p3, nI_p4, nI_p5, tin_33 L1 (show i + 1 < L by omega) hL, tin_33 L1 (show i + 2 < L by omega) hL, tin_33 L1 (show i + 3 < L by omega) hL, tin_33 L1 (show i + 4 < L by omega) hL, tin_33 L1 (show i + 5 < L by omega) hL, nC (show i + 1 < 10000 by omega), nC (show i + 2 < 10000 by omega), nC (show i + 3 < 10000 by omega), nC (show i + 4 < 10000 by omega), nC (show i + 5 < 10000 by omega), ob0, ob13, true_and, f33]
  rw [r2]
  simp only [t_ki, ob13, true_and, n99, tin_lo, cl0, s_200_2134, s_200_2137, nI_p6]
  exact fin_I th k2 ov (go _ _ _ iv L2 (by omega))
