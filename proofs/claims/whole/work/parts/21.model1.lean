/-! ===== the model: leaves ===== -/
def tY (h : tH) (d : Nat) : tC := fun i j k => if i < 7 ∧ j < 7 ∧ k < 7 then h.1 20 (343 * d + 49 * i + 7 * j + k) else 0
def ty (h : tH) (d n : Nat) : Prop := d < 7 ∧ h.1 19 d = nI n ∧ n ≤ 7
theorem vI {k n : Nat} (hk : k < n) (hn : n < 10000) : vp_in (nI k) n = True := eq_true (vp_in_nI hk (by omega))
theorem nC {k : Nat} (hk : k < 10000) : (nI k).toNatClampNeg = k := nI_clamp (by omega)
theorem n100 {x : Int32} {D : Nat} {h : tH} (hD : D < 1000) (Q : tO → tH → Prop) : AM 100 [.int x, .int 0, .int (nI D - 1)] h Q = Q (.inl (some (.int (zb (pI x D))))) h := by
  rw [am_100, s_100_0]
  by_cases h0 : x < 0
  · simp [h0, pI, zb]
  · by_cases h1 : nI D ≤ x
    · have : nI D - 1 < x := by
        rcases Nat.eq_zero_or_pos D with h2 | h2
        · subst h2
          refine Int32.lt_iff_toInt_lt.mpr ?_
          have h3 := Int32.not_lt.mp h0
          rw [Int32.le_iff_toInt_le] at h3
          have e0 : (nI 0 - 1).toInt = -1 := by decide
          have e1 : (0 : Int32).toInt = 0 := by decide
          omega
        · obtain ⟨E, rfl⟩ : ∃ E, D = E + 1 := ⟨D - 1, by omega⟩
          have e2 : nI (E + 1) - 1 = nI E := by rw [← nI_add, show nI 1 = (1 : Int32) from rfl]; exact Int32.add_sub_cancel _ _
          rw [e2]
          refine Int32.lt_iff_toInt_lt.mpr ?_
          rw [Int32.le_iff_toInt_le] at h1
          have e3 : (nI (E + 1)).toInt = E + 1 := by rw [nI_toInt (by omega)]; simp
          have e4 : (nI E).toInt = E := by rw [nI_toInt (by omega)]
          omega
      simp [h0, h1, pI, zb, this]
    · obtain ⟨j, hj, e, -⟩ := pk_mu h0 h1 (by omega)
      subst e
      obtain ⟨E, rfl⟩ : ∃ E, D = E + 1 := ⟨D - 1, by omega⟩
      have e2 : nI (E + 1) - 1 = nI E := by rw [← nI_add, show nI 1 = (1 : Int32) from rfl]; exact Int32.add_sub_cancel _ _
      have : ¬ nI (E + 1) - 1 < nI j := by rw [e2, nI_lt' (by omega) (by omega)]; omega
      simp [h0, h1, pI, zb, this]

theorem n101 {x : Int32} {D : Nat} {h : tH} (hd : h.1 13 8 = nI D) (hD : D < 1000) (Q : tO → tH → Prop) : AM 101 [.ref 13, .int x] h Q = Q (.inl (some (.int (zb (pI x D))))) h := by
  rw [am_101, s_101_0, hd]
  simp only [t_ob_13, true_and, n100 hD, t_ki, zb_z]
theorem n102 {x : Int32} {d n : Nat} {h : tH} (ht : ty h d n) (Q : tO → tH → Prop) : AM 102 [.ref 13, .int (nI d), .int x] h Q = Q (.inl (some (.int (zb (pI x n))))) h := by
  obtain ⟨hd, hc, hn⟩ := ht
  rw [am_102, s_102_0, nC (by omega), hc, vI hd (by omega)]
  simp only [t_ob_13, true_and, n100 (D := n) (by omega), t_ki, zb_z]
theorem n103 {d i j k : Nat} {h : tH} (Q : tO → tH → Prop) : AM 103 [.int (nI d), .int (nI i), .int (nI j), .int (nI k)] h Q = Q (.inl (some (.int (nI (343 * d + 49 * i + 7 * j + k))))) h := by
  rw [am_103, s_103_0]
  rw [show (343 : Int32) * nI d + 49 * nI i + 7 * nI j + nI k = nI (343 * d + 49 * i + 7 * j + k) from by
    rw [Int32.mul_comm 343, Int32.mul_comm 49, Int32.mul_comm 7, show (343 : Int32) = nI 343 from rfl, show (49 : Int32) = nI 49 from rfl, show (7 : Int32) = nI 7 from rfl, pk_mul, pk_mul, pk_mul, nI_add, nI_add, nI_add]
    congr 1
    omega]
theorem z2401 {d i j k : Nat} (hd : d < 7) (hi : i < 7) (hj : j < 7) (hk : k < 7) : 343 * d + 49 * i + 7 * j + k < 2401 := by omega
theorem n104 {d i j k : Nat} {h : tH} (hd : d < 7) (hi : i < 7) (hj : j < 7) (hk : k < 7) (Q : tO → tH → Prop) : AM 104 [.ref 13, .int (nI d), .int (nI i), .int (nI j), .int (nI k)] h Q = Q (.inl (some (.int (tY h d i j k)))) h := by
  rw [am_104, s_104_0]
  have h1 := z2401 hd hi hj hk
  simp only [t_ob_13, true_and, n103, t_ki, vI h1 (by decide : 2401 < 10000), nC (Nat.lt_trans h1 (by decide : 2401 < 10000)), tY, if_pos (show i < 7 ∧ j < 7 ∧ k < 7 from ⟨hi, hj, hk⟩)]
/-- what sets leaves -/
def hSet (h : tH) (d i j k : Nat) (x : Int32) : tH :=
  t_I (t_I (t_I (t_I (t_I (t_I h 20 (343 * d + 49 * i + 7 * j + k) x) 20 (343 * d + 49 * j + 7 * k + i) x) 20 (343 * d + 49 * k + 7 * i + j) x) 20 (343 * d + 49 * i + 7 * k + j) (-x)) 20 (343 * d + 49 * k + 7 * j + i) (-x)) 20 (343 * d + 49 * j + 7 * i + k) (-x)
theorem n105 {d i j k : Nat} {h : tH} {x : Int32} (hd : d < 7) (hi : i < 7) (hj : j < 7) (hk : k < 7) (Q : tO → tH → Prop) : AM 105 [.ref 13, .int (nI d), .int (nI i), .int (nI j), .int (nI k), .int x] h Q =
    Q (.inl none) (hSet h d i j k x) := by
  rw [am_105, s_105_0]
  have h1 := z2401 hd hi hj hk
  have h2 := z2401 hd hj hk hi
  have h3 := z2401 hd hk hi hj
  have h4 := z2401 hd hi hk hj
  have h5 := z2401 hd hk hj hi
  have h6 := z2401 hd hj hi hk
  have t := (by decide : 2401 < 10000)
  simp only [t_ob_13, true_and, n103, t_ki, vI h1 t, nC (Nat.lt_trans h1 t), vI h2 t, nC (Nat.lt_trans h2 t), vI h3 t, nC (Nat.lt_trans h3 t), vI h4 t, nC (Nat.lt_trans h4 t), vI h5 t, nC (Nat.lt_trans h5 t), vI h6 t, nC (Nat.lt_trans h6 t), hSet]
def psame (x y z : Int32) : Bool := decide (x = y) && decide (y = z)
theorem n106 {x y z : Int32} {h : tH} (Q : tO → tH → Prop) : AM 106 [.int x, .int y, .int z] h Q = Q (.inl (some (.int (zb (psame x y z))))) h := by
  rw [am_106, s_106_0]
  unfold psame
  by_cases h1 : x = y
  · subst h1
    by_cases h2 : x = z <;> simp [h2, zb]
  · simp [h1, zb]
def q4 (χ : tC) (a b c d : Nat) : Bool := !(decide (χ b c d = χ a d c) && psame (χ b c d) (χ a b d) (χ a c b))
def q5 (χ : tC) (a b c d e : Nat) : Bool := !psame (χ a b c * χ a d e) (χ a b d * χ a e c) (χ a b e * χ a c d)
theorem n107 {d a b c e : Nat} {h : tH} (hd : d < 7) (ha : a < 7) (hb : b < 7) (hc : c < 7) (he : e < 7) (Q : tO → tH → Prop) : AM 107 [.ref 13, .int (nI d), .int (nI a), .int (nI b), .int (nI c), .int (nI e)] h Q = Q (.inl (some (.int (zb (q4 (tY h d) a b c e))))) h := by
  rw [am_107, s_107_0]
  simp (disch := assumption) only [t_ob_13, true_and, n104, t_ki, n106, s_107_53, s_107_58, zb_0, q4]
  by_cases h1 : tY h d b c e = tY h d a e c <;> by_cases h2 : psame (tY h d b c e) (tY h d a b e) (tY h d a c b) = true <;> simp [h1, h2, zb] <;> simp_all
theorem n108 {d a b c e f : Nat} {h : tH} (hd : d < 7) (ha : a < 7) (hb : b < 7) (hc : c < 7) (he : e < 7) (hf : f < 7) (Q : tO → tH → Prop) : AM 108 [.ref 13, .int (nI d), .int (nI a), .int (nI b), .int (nI c), .int (nI e), .int (nI f)] h Q = Q (.inl (some (.int (zb (q5 (tY h d) a b c e f))))) h := by
  rw [am_108, s_108_0]
  simp (disch := assumption) only [t_ob_13, true_and, n104, t_ki, n106, zb_0, q5]
  cases psame (tY h d a b c * tY h d a e f) (tY h d a b e * tY h d a f c) (tY h d a b f * tY h d a c e) <;> simp [zb]
def q5x (χ : tC) (n i j k l : Nat) : Bool := aB (fun e => decide (e = i) || decide (e = j) || decide (e = k) || decide (e = l) || q5 χ e i j k l) 0 n
theorem n109 {d n i j k l : Nat} {h : tH} (ht : ty h d n) (hi : i < n) (hj : j < n) (hk : k < n) (hl : l < n) (Q : tO → tH → Prop) : AM 109 [.ref 13, .int (nI d), .int (nI i), .int (nI j), .int (nI k), .int (nI l)] h Q = Q (.inl (some (.int (zb (q4 (tY h d) i j k l && q5x (tY h d) n i j k l))))) h := by
  obtain ⟨hd, hc, hn⟩ := ht
  have hi7 : i < 7 := by omega
  have hj7 : j < 7 := by omega
  have hk7 : k < 7 := by omega
  have hl7 : l < 7 := by omega
  have loop := lpa (β := Value) (L := fun p b w => AX 3 109 16 [.ref 13, .int (nI d), .int (nI i), .int (nI j), .int (nI k), .int (nI l), .int (zb b), .int (nI p), w] [] h Q) (E := fun b => Q (.inl (some (.int (zb b)))) h) (f := fun e => decide (e = i) || decide (e = j) || decide (e = k) || decide (e = l) || q5 (tY h d) e i j k l) (n := n)
    (fun b w => by
      rw [s_109_16, nC (by omega), hc, vI hd (by omega)]
      simp only [t_ob_13, true_and, s_109_99, zb_z]
      rw [if_pos (Int32.le_refl _)])
    (fun p w hp => by
      rw [s_109_16, nC (by omega), hc, vI hd (by omega)]
      simp only [t_ob_13, true_and, s_109_99, zb_z, zb_0, if_true]
      split <;> simp [zb])
    (fun p w A B hp hA hB => by
      have hp7 : p < 7 := by omega
      simp only [zb_t, zb_f] at hA hB
      rw [s_109_16, nC (by omega), hc, vI hd (by omega)]
      simp (disch := first | assumption | omega) only [t_ob_13, true_and, nI_le', nI_eq', n108, t_ki, s_109_86, s_109_91, zb_0, nI_1, hA, hB]
      rw [if_neg (by omega), if_neg (by simp)]
      by_cases h1 : p = i
      · simp [h1]
      by_cases h2 : p = j
      · simp [h1, h2]
      by_cases h3 : p = k
      · simp [h1, h2, h3]
      by_cases h4 : p = l
      · simp [h1, h2, h3, h4]
      · cases h5 : q5 (tY h d) p i j k l <;> simp [h1, h2, h3, h4, h5])
  rw [am_109, s_109_0]
  simp (disch := assumption) only [t_ob_13, true_and, n107, t_ki]
  exact loop n 0 (by omega) (q4 (tY h d) i j k l) (.float 0)
def qh4 (χ : tC) (n i j k : Nat) : Nat → Bool := fun l => q4 χ i j k l && q5x χ n i j k l
def qh3 (χ : tC) (n i j : Nat) : Nat → Bool := fun k => aB (qh4 χ n i j k) (k + 1) (n - (k + 1))
def qh2 (χ : tC) (n i : Nat) : Nat → Bool := fun j => aB (qh3 χ n i j) (j + 1) (n - (j + 1))
def qh1 (χ : tC) (n : Nat) : Nat → Bool := fun i => aB (qh2 χ n i) (i + 1) (n - (i + 1))
/-- all signs of a drawing hold -/
def qhold (χ : tC) (n : Nat) : Bool := aB (qh1 χ n) 0 n
theorem n110 {d n : Nat} {h : tH} (ht : ty h d n) (Q : tO → tH → Prop) : AM 110 [.ref 13, .int (nI d)] h Q = Q (.inl (some (.int (zb (qhold (tY h d) n))))) h := by
  obtain ⟨hd, hc, hn⟩ := id ht
  have l4 := fun (A B : Prop) (i j k : Nat) (hi : i < n) (hj : j < n) (hk : k < n) (hA : ∀ w, AX 4 110 44 [.ref 13, .int (nI d), .int 1, .int (nI n), .int (nI i), .int (nI j), .int (nI (k + 1)), w] [] h Q = A) (hB : ∀ w, AX 4 110 44 [.ref 13, .int (nI d), .int 0, .int (nI n), .int (nI i), .int (nI j), .int (nI (k + 1)), w] [] h Q = B) =>
    lpa (β := Unit) (L := fun p b w => AX 4 110 60 [.ref 13, .int (nI d), .int (zb b), .int (nI n), .int (nI i), .int (nI j), .int (nI k), .int (nI p)] [] h Q) (E := fun b => if b = true then A else B) (f := qh4 (tY h d) n i j k) (n := n)
      (fun b w => by
        rw [s_110_60, if_pos (Int32.le_refl _), s_110_90, nI_1]
        cases b <;> simp only [zb_t, zb_f, hA, hB, if_true, if_false, Bool.false_eq_true])
      (fun p w hp => by
        rw [s_110_60]
        simp only [zb_f, s_110_90, nI_1, hB, if_true, if_false, Bool.false_eq_true]
        split <;> rfl)
      (fun p w A B hp hA hB => by
        have hp7 : p < 7 := by omega
        simp only [zb_t, zb_f] at hA hB
        rw [s_110_60]
        simp (disch := first | assumption | omega) only [t_ob_13, true_and, nI_le', n109 ht, t_ki, zb_t, nI_1]
        rw [if_neg (by omega), if_neg (by decide)]
        show _ = if (q4 (tY h d) i j k p && q5x (tY h d) n i j k p) = true then A else B
        cases (q4 (tY h d) i j k p && q5x (tY h d) n i j k p) <;> simp [zb, hA () , hB ()])
  have l3 := fun (A B : Prop) (i j : Nat) (hi : i < n) (hj : j < n) (hA : ∀ w w', AX 4 110 28 [.ref 13, .int (nI d), .int 1, .int (nI n), .int (nI i), .int (nI (j + 1)), w, w'] [] h Q = A) (hB : ∀ w w', AX 4 110 28 [.ref 13, .int (nI d), .int 0, .int (nI n), .int (nI i), .int (nI (j + 1)), w, w'] [] h Q = B) =>
    lpa (β := Value) (L := fun p b w => AX 4 110 44 [.ref 13, .int (nI d), .int (zb b), .int (nI n), .int (nI i), .int (nI j), .int (nI p), w] [] h Q) (E := fun b => if b = true then A else B) (f := qh3 (tY h d) n i j) (n := n)
      (fun b w => by
        rw [s_110_44, if_pos (Int32.le_refl _), s_110_96, nI_1]
        cases b <;> simp only [zb_t, zb_f, hA, hB, if_true, if_false, Bool.false_eq_true])
      (fun p w hp => by
        rw [s_110_44]
        simp only [zb_f, s_110_96, nI_1, hB, if_true, if_false, Bool.false_eq_true]
        split <;> rfl)
      (fun p w A B hp hA hB => by
        simp only [zb_t, zb_f] at hA hB
        rw [s_110_44]
        simp (disch := first | assumption | omega) only [nI_le', zb_t, nI_1]
        rw [if_neg (by omega), if_neg (by decide)]
        exact l4 A B i j p hi hj hp hA hB (n - (p + 1)) (p + 1) (by omega) true ())
  have l2 := fun (A B : Prop) (i : Nat) (hi : i < n) (hA : ∀ w w' w'', AX 4 110 12 [.ref 13, .int (nI d), .int 1, .int (nI n), .int (nI (i + 1)), w, w', w''] [] h Q = A) (hB : ∀ w w' w'', AX 4 110 12 [.ref 13, .int (nI d), .int 0, .int (nI n), .int (nI (i + 1)), w, w', w''] [] h Q = B) =>
    lpa (β := Value × Value) (L := fun p b w => AX 4 110 28 [.ref 13, .int (nI d), .int (zb b), .int (nI n), .int (nI i), .int (nI p), w.1, w.2] [] h Q) (E := fun b => if b = true then A else B) (f := qh2 (tY h d) n i) (n := n)
      (fun b w => by
        rw [s_110_28, if_pos (Int32.le_refl _), s_110_102, nI_1]
        cases b <;> simp only [zb_t, zb_f, hA, hB, if_true, if_false, Bool.false_eq_true])
      (fun p w hp => by
        rw [s_110_28]
        simp only [zb_f, s_110_102, nI_1, hB, if_true, if_false, Bool.false_eq_true]
        split <;> rfl)
      (fun p w A B hp hA hB => by
        simp only [zb_t, zb_f] at hA hB
        rw [s_110_28]
        simp (disch := first | assumption | omega) only [nI_le', zb_t, nI_1]
        rw [if_neg (by omega), if_neg (by decide)]
        exact l3 A B i p hi hp (fun w w' => hA (w, w')) (fun w w' => hB (w, w')) (n - (p + 1)) (p + 1) (by omega) true w.2)
  have l1 := lpa (β := Value × Value × Value) (L := fun p b w => AX 4 110 12 [.ref 13, .int (nI d), .int (zb b), .int (nI n), .int (nI p), w.1, w.2.1, w.2.2] [] h Q) (E := fun b => Q (.inl (some (.int (zb b)))) h) (f := qh1 (tY h d) n) (n := n)
      (fun b w => by
        rw [s_110_12, if_pos (Int32.le_refl _), s_110_108, zb_z])
      (fun p w hp => by
        rw [s_110_12]
        simp only [s_110_108, zb_z, zb_0, if_true]
        split <;> simp [zb])
      (fun p w A B hp hA hB => by
        simp only [zb_t, zb_f] at hA hB
        rw [s_110_12]
        simp (disch := first | assumption | omega) only [nI_le', zb_t, nI_1]
        rw [if_neg (by omega), if_neg (by decide)]
        exact l2 A B p hp (fun w w' w'' => hA (w, w', w'')) (fun w w' w'' => hB (w, w', w'')) (n - (p + 1)) (p + 1) (by omega) true (w.2.1, w.2.2))
  rw [am_110, s_110_0, nC (by omega), hc, vI hd (by omega)]
  simp only [t_ob_13, true_and]
  exact l1 n 0 (by omega) true (.float 0, .float 0, .float 0)
