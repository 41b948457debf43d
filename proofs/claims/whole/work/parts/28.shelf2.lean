/-! ===== the model's shelf; place, letter ===== -/
theorem n111 {h : tH} {x y x' y' x'' y'' : Int32} (h1 : rg x) (h2 : rg y) (h3 : rg x') (h4 : rg y') (h5 : rg x'') (h6 : rg y'') (Q : tO → tH → Prop) :
    AM 111 [.int (x' - x), .int (y' - y), .int (x'' - x), .int (y'' - y)] h Q = Q (RI (sg (tu x y x' y' x'' y''))) h := by
  rw [am_111, s_111_0, ← sg_64 (tu_64 h1 h2 h3 h4 h5 h6)]
def SM (h : tH) (s : Nat) : Prop := h.1 13 1 = nI s ∧ s ≤ 7 ∧ (∀ p, p < s → h.1 14 p = h.1 2 p ∧ h.1 15 p = h.1 3 p ∧ rg (h.1 2 p) ∧ rg (h.1 3 p))
theorem SV_SM {h : tH} {s : Nat} (v : SV h s) : SM h s := ⟨v.2.1, v.2.2.1, v.2.2.2.1⟩
theorem n112 {h : tH} {s i j k : Nat} (hs : SM h s) (hi : i < s) (hj : j < s) (hk : k < s) (Q : tO → tH → Prop) : AM 112 [.ref 13, .int (nI i), .int (nI j), .int (nI k)] h Q = Q (RI (sg (tu (h.1 2 i) (h.1 3 i) (h.1 2 j) (h.1 3 j) (h.1 2 k) (h.1 3 k)))) h := by
  obtain ⟨s2, s3, s4⟩ := hs
  obtain ⟨a1, a2, a3, a4⟩ := s4 i hi
  obtain ⟨b1, b2, b3, b4⟩ := s4 j hj
  obtain ⟨c1, c2, c3, c4⟩ := s4 k hk
  rw [am_112, s_112_0]
  simp only [t_ob_13, true_and, nC (show i < 10000 by omega), nC (show j < 10000 by omega), nC (show k < 10000 by omega), vI (show i < 7 by omega) (show 7 < 10000 by decide), vI (show j < 7 by omega) (show 7 < 10000 by decide), vI (show k < 7 by omega) (show 7 < 10000 by decide), a1, a2, b1, b2, c1, c2, n111 a3 a4 b3 b4 c3 c4, t_ki]
theorem n113 {h : tH} {s : Nat} {x y : Int32} (hs : SM h s) (hx : rg x) (hy : rg y) (Q : tO → tH → Prop) : AM 113 [.ref 13, .int x, .int y] h Q = Q (RI (zb (pfree h s x y))) h := by
  obtain ⟨s2, s3, s4⟩ := hs
  have l2 := fun (i : Nat) (hi : i < s) (A B : Prop) (hA : ∀ w, AX 1 113 5 [.ref 13, .int x, .int y, .int 1, .int (nI (i + 1)), w] [] h Q = A) (hB : ∀ w, AX 1 113 5 [.ref 13, .int x, .int y, .int 0, .int (nI (i + 1)), w] [] h Q = B) =>
    lpc (β := Unit) (L := fun j b w => AX 1 113 52 [.ref 13, .int x, .int y, .int (zb b), .int (nI i), .int (nI j)] [] h Q) (E := fun b => if b = true then A else B) (f := fun j => !decide (tu (h.1 2 i) (h.1 3 i) (h.1 2 j) (h.1 3 j) x y = 0)) (n := s)
      (fun b w => by
        rw [s_113_52, s2, if_pos (Int32.le_refl _), nI_1]
        cases b <;> simp only [zb_t, zb_f, hA, hB, if_true, if_false, Bool.false_eq_true, t_ob_13, true_and])
      (fun j w A B hj hA hB => by
        simp only [zb_f] at hB
        rw [s_113_52, s2]
        simp (disch := omega) only [zb_f, t_ob_13, true_and, nI_le', if_true, s_113_123, s_113_124, nI_1]
        rw [if_neg (by omega), hB ()])
      (fun j w A B hj hA hB => by
        simp only [zb_t, zb_f] at hA hB
        obtain ⟨a1, a2, a3, a4⟩ := s4 i hi
        obtain ⟨b1, b2, b3, b4⟩ := s4 j hj
        rw [s_113_52, s2]
        simp (disch := omega) only [zb_t, t_ob_13, true_and, nI_le', s_113_123, s_113_124, nI_1, nC, vI (show i < 7 by omega) (show 7 < 10000 by decide), vI (show j < 7 by omega) (show 7 < 10000 by decide), a1, a2, b1, b2, n111 a3 a4 b3 b4 hx hy, t_ki, sg_0, hA (), hB ()]
        rw [if_neg (by omega), if_neg (by decide)]
        by_cases h1 : tu (h.1 2 i) (h.1 3 i) (h.1 2 j) (h.1 3 j) x y = 0 <;> simp [h1])
  have l1 := lpc (β := Value) (L := fun i b w => AX 1 113 5 [.ref 13, .int x, .int y, .int (zb b), .int (nI i), w] [] h Q) (E := fun b => Q (RI (zb b)) h) (f := fun i => (!decide (h.1 2 i = x) || !decide (h.1 3 i = y)) && pfree1 h s i x y) (n := s)
      (fun b w => by
        rw [s_113_5, s2, if_pos (Int32.le_refl _), zb_z]
        simp only [t_ob_13, true_and])
      (fun i w A B hi hA hB => by
        simp only [zb_t, zb_f] at hA hB
        rw [s_113_5, s2]
        simp (disch := omega) only [zb_f, t_ob_13, true_and, nI_le', if_true, s_113_44, s_113_45, nI_1]
        rw [if_neg (by omega)]
        have := l2 i hi A B hA hB (s - (i + 1)) (i + 1) (by omega) false ()
        simp only [zb_f] at this
        rw [this]
        simp)
      (fun i w A B hi hA hB => by
        simp only [zb_t, zb_f] at hA hB
        obtain ⟨a1, a2, a3, a4⟩ := s4 i hi
        have t1 := l2 i hi A B hA hB (s - (i + 1)) (i + 1) (by omega) true ()
        have t2 := l2 i hi A B hA hB (s - (i + 1)) (i + 1) (by omega) false ()
        simp only [zb_t, zb_f] at t1 t2
        rw [s_113_5, s2]
        simp (disch := omega) only [zb_t, t_ob_13, true_and, nI_le', s_113_40, s_113_44, s_113_45, nI_1, nC, vI (show i < 7 by omega) (show 7 < 10000 by decide), a1, a2, t1, t2]
        rw [if_neg (by omega), if_neg (by decide)]
        unfold pfree1
        by_cases h1 : h.1 2 i = x
        · by_cases h2 : h.1 3 i = y
          · simp [h1, h2]
          · simp only [h1, h2]
            simp
        · simp only [h1]
          simp)
  rw [am_113, s_113_0]
  exact l1 s 0 (by omega) true (.float 0)
