/-! ===== shapes, loop by loop ===== -/
def sq (h : tH) (v : Nat → Nat) (g : tH) : Prop := (∀ k i, k ≠ 9 → k ≠ 10 → k ≠ 80 → k ≠ 35 → g.1 k i = h.1 k i) ∧ tX g 70 = tX h 70 ∧ g.2 = h.2 ∧ ∀ t, t < 4 → g.1 35 t = nI (v t)
theorem sq_kq {h g g' : tH} {v : Nat → Nat} (s : sq h v g) (k : kq g g') : sq h v g' := ⟨fun a b e1 e2 e3 e4 => (k.1 a b e1 e2 e3).trans (s.1 a b e1 e2 e3 e4), k.2.1.trans s.2.1, k.2.2.trans s.2.2.1, fun t ht => (k.1 35 t (by decide) (by decide) (by decide)).trans (s.2.2.2 t ht)⟩
theorem GH_sq {h g : tH} {v : Nat → Nat} {D n : Nat} {χ : tC} (G : GH h D n χ) (s : sq h v g) : GH g D n χ := by
  obtain ⟨g1, g2, g3, g4, g5, g6⟩ := G
  exact ⟨by rw [s.1 _ _ (by decide) (by decide) (by decide) (by decide)]; exact g1, g2, g3, by rw [s.1 _ _ (by decide) (by decide) (by decide) (by decide)]; exact g4, by rw [s.2.1]; exact g5, g6⟩
theorem sq_in {h g : tH} {v : Nat → Nat} (s : sq h v g) (hf : h.1 36 0 = 1) {t : Nat} (ht : t < 4) : t_in (t_ai g 35) (nI t) = True := by
  have e : t_ai g 35 = some 4 := by
    unfold t_ai
    rw [if_neg (by decide), if_pos rfl, if_pos (by rw [s.1 _ _ (by decide) (by decide) (by decide) (by decide)]; exact hf)]
  rw [e]
  exact eq_true ⟨4, rfl, of_eq_true (vI ht (by decide))⟩
theorem sq_add {h g : tH} {v : Nat → Nat} (s : sq h v g) {t : Nat} (ht : t < 4) : sq h (fun u => v u + bn (decide (t = u))) (t_I g 35 t (g.1 35 t + 1)) := by
  refine ⟨fun k i e1 e2 e3 e4 => by rw [t_I_o e4]; exact s.1 k i e1 e2 e3 e4, (tX_o fun c _ => t_I_o (by decide) _).trans s.2.1, s.2.2.1, fun u hu => ?_⟩
  rw [t_I_at]
  by_cases e : u = t
  · rw [if_pos ⟨rfl, e⟩, s.2.2.2 t ht, nI_1, e]
    simp [bn]
  · rw [if_neg fun z => e z.2, s.2.2.2 u hu]
    have : decide (t = u) = false := by simpa using fun z : t = u => e z.symm
    show nI (v u) = nI (v u + bn (decide (t = u)))
    rw [this]
    rfl
theorem bnz {b : Bool} : (if zb b = (0 : Int32) then (0 : Int32) else 1) = nI (bn b) := by cases b <;> rfl
theorem LV_flip {χ : tC} {y : Int64} {n i j k : Nat} (L : LV χ y n) (ij : i < j) (jk : j < k) (hk : k < n) : LV (setC χ i j k (-χ i j k)) (y ^^^ lone (ps i j k)) n := by
  obtain ⟨r, w, h7⟩ := L
  have pm := LV_pm ⟨r, w, h7⟩ (show i < n by omega) (show j < n by omega) hk (by omega) (by omega) (by omega)
  have pm' : -χ i j k = 1 ∨ -χ i j k = -1 := by rcases pm with e | e <;> rw [e] <;> decide
  have w' := WS_set (x := -χ i j k) w h7 (show i < n by omega) (show j < n by omega) hk (by omega) (by omega) (by omega) pm'
  refine ⟨Rel_of w' h7 fun a b c ab bc cn => ?_, w', h7⟩
  have p1 := ps_64 i (by omega) j (by omega) k (by omega)
  have e := ps_i ab bc (by omega) (show i < 7 by omega) (show j < 7 by omega) (show k < 7 by omega) (by omega) (by omega) (by omega)
  rw [setC_up ij jk ab bc, bl_xor, bl_one p1]
  have r1 := r a b c (by omega) (by omega) cn
  rw [lsg_u ab bc] at r1
  by_cases z : a = i ∧ b = j ∧ c = k
  · obtain ⟨rfl, rfl, rfl⟩ := z
    rw [if_pos ⟨rfl, rfl, rfl⟩, r1]
    have dt : decide (ps a b c = ps a b c) = true := by simp
    rw [dt]
    cases bl y (ps a b c) <;> decide
  · rw [if_neg z, r1]
    have ne : ¬ ps a b c = ps i j k := fun y => z (by have := e.mp y; omega)
    simp [ne]
theorem k91' {g : tH} {D n i j k l : Nat} {χ : tC} (G : GH g D n χ) (ij : i < j) (jk : j < k) (kl : k < l) (hl : l < n) (Q : tO → tH → Prop) : AM 91 [.ref 0, .int 0, .int ((((1 <<< (nI i &&& 31)) ||| (1 <<< (nI j &&& 31))) ||| (1 <<< (nI k &&& 31))) ||| (1 <<< (nI l &&& 31)))] g Q = Q (RI (nI (3 - its χ i j k l))) (hR g χ n) := by
  have h7 := G.2.2.2.2.2.2.1
  have w := G.2.2.2.2.2.2.2.1
  obtain ⟨q1, q2, -⟩ := q4s_ok (show n < 8 by omega) hl kl jk ij
  have q3 := CW_four w h7 ij jk kl hl
  have t := k91 (S := q4s i j k l) G q1 q2 Q
  rw [show CW χ n (pc (q4s i j k l)) (q4s i j k l) 0 = 3 - its χ i j k l by omega] at t
  exact t
theorem its_3 (χ : tC) (i j k l : Nat) : its χ i j k l ≤ 3 := by
  unfold its bn
  repeat' split
  all_goals decide
theorem sh_l {χ : tC} {y : Int64} {D n : Nat} (L : LV χ y n) {h : tH} (G0 : GH h D n χ) {i j k : Nat} (ij : i < j) (jk : j < k) (hk : k < n) {Q : tO → tH → Prop} {v : Nat → Nat} {c4 c5 c6 c7 c8 c9 : Int32} {a1 a2 : Nat} {x16 x18 : Int32} : ∀ m l a0 g w, k < l → l + m = n → sq h v g → (∀ g w, sq h v g → AX 36 112 285 [.ref 0, .long y, .float 0, .int (nI n), .int c4, .int c5, .int c6, .int c7, .int c8, .int c9, .int (nI (a0 + sB (its χ i j k) l m)), .int (nI a1), .int (nI a2), .ref 35, .int (nI i), .int (nI j), .int x16, .int (nI (k + 1)), .int x18, .int (nI n), w] [] g Q) → AX 36 112 486 [.ref 0, .long y, .float 0, .int (nI n), .int c4, .int c5, .int c6, .int c7, .int c8, .int c9, .int (nI a0), .int (nI a1), .int (nI a2), .ref 35, .int (nI i), .int (nI j), .int x16, .int (nI k), .int x18, .int (nI l), w] [] g Q := by
  have h7 := L.2.2
  have w' := L.2.1
  intro m
  induction m with
  | zero =>
    intro l a0 g w kl hl hs hC
    have : l = n := by omega
    subst this
    rw [s_112_486, if_pos (Int32.le_refl _), nI_1]
    exact hC g w hs
  | succ m ih =>
    intro l a0 g w kl hl hs hC
    have hln : l < n := by omega
    have hi : i < n := by omega
    have hj : j < n := by omega
    have G := GH_sq G0 hs
    have e2 := qcross_sw (a := i) (b := l) (c := j) (d := k) w' (by omega) (by omega) (by omega) (by omega)
    have e3 : (3 : Int32) - nI (its χ i j k l) = nI (3 - its χ i j k l) := nI_sb (a := 3) (its_3 χ i j k l)
    have e4 : bn (qcross χ i j k l) + bn (qcross χ i k j l) + bn (qcross χ i l j k) = its χ i j k l := rfl
    rw [s_112_486]
    simp only [t_ob_0', true_and, m_crs L hi hj hk hln, m_crs L hi hk hj hln, m_crs L hi hln hj hk, t_ki, k87 G hi hj hk hln (by omega) (by omega) (by omega) (by omega) (by omega) (by omega), k87 G hln hi hk hj (by omega) (by omega) (by omega) (by omega) (by omega) (by omega), e2, not_true_eq_false, if_false, k91' G ij jk kl hln, bnz, nI_add, e4, e3, if_true, nI_1]
    rw [if_neg (by rw [nI_le' (by omega) (by omega)]; omega)]
    refine ih (l + 1) (a0 + its χ i j k l) (hR g χ n) _ (by omega) (by omega) (sq_kq hs kq_hR) fun g w s => ?_
    have := hC g w s
    rw [show a0 + its χ i j k l + sB (its χ i j k) (l + 1) m = a0 + sB (its χ i j k) l (m + 1) from Nat.add_assoc _ _ _]
    exact this
def nin (χ : tC) (i j k : Nat) : Nat → Bool := fun p => decide (p = i) || decide (p = j) || decide (p = k) || !qin χ p i j k
theorem sh_p {χ : tC} {y : Int64} {D n : Nat} (L : LV χ y n) {h : tH} (G0 : GH h D n χ) {i j k : Nat} (ij : i < j) (jk : j < k) (hk : k < n) {Q : tO → tH → Prop} {c4 c5 c6 c7 c8 c9 : Int32} {a0 a1 a2 : Nat} {x16 : Int32} {g : tH} {w : Value} : ∀ m p b, p + m = n → AX 36 112 297 [.ref 0, .long y, .float 0, .int (nI n), .int c4, .int c5, .int c6, .int c7, .int c8, .int c9, .int (nI a0), .int (nI a1), .int (nI a2), .ref 35, .int (nI i), .int (nI j), .int x16, .int (nI k), .int (zb (b && aB (nin χ i j k) p m)), .int (nI n), w] [] g Q → AX 36 112 297 [.ref 0, .long y, .float 0, .int (nI n), .int c4, .int c5, .int c6, .int c7, .int c8, .int c9, .int (nI a0), .int (nI a1), .int (nI a2), .ref 35, .int (nI i), .int (nI j), .int x16, .int (nI k), .int (zb b), .int (nI p), w] [] g Q := by
  have h7 := L.2.2
  intro m
  induction m with
  | zero =>
    intro p b hp hC
    have : p = n := by omega
    subst this
    have e : (b && aB (nin χ i j k) p 0) = b := by simp [aB]
    rw [e] at hC
    exact hC
  | succ m ih =>
    intro p b hp hC
    have hpn : p < n := by omega
    have e : (b && aB (nin χ i j k) p (m + 1)) = ((b && nin χ i j k p) && aB (nin χ i j k) (p + 1) m) := by rw [Bool.and_assoc]; rfl
    rw [e] at hC
    have c := ih (p + 1) (b && nin χ i j k p) (by omega) hC
    have hn : nin χ i j k p = (decide (p = i) || decide (p = j) || decide (p = k) || !qin χ p i j k) := rfl
    rw [s_112_297]
    simp (disch := omega) only [nI_le', nI_eq', s_112_342, nI_1]
    rw [if_neg (by omega)]
    by_cases h1 : p = i
    · rw [if_pos h1]
      rw [show (b && nin χ i j k p) = b by rw [hn]; simp [h1]] at c
      exact c
    by_cases h2 : p = j
    · rw [if_neg h1, if_pos h2]
      rw [show (b && nin χ i j k p) = b by rw [hn]; simp [h2]] at c
      exact c
    by_cases h3 : p = k
    · rw [if_neg h1, if_neg h2, if_pos h3]
      rw [show (b && nin χ i j k p) = b by rw [hn]; simp [h3]] at c
      exact c
    rw [if_neg h1, if_neg h2, if_neg h3, m_in L (by omega) (by omega) hk hpn (by omega) (by omega) (by omega) h1 h2 h3]
    simp only [t_ki, zb_0]
    have e5 : (if qin χ p i j k = false then zb b else 0) = zb (b && nin χ i j k p) := by
      rw [hn]
      cases qin χ p i j k <;> simp [h1, h2, h3, zb]
    rw [e5]
    exact c
theorem nin_p {χ : tC} {n i j k : Nat} : aB (nin χ i j k) 0 n = pnone χ n i j k := qnone_p χ n i j k
theorem sh_k {χ : tC} {y : Int64} {D n : Nat} (L : LV χ y n) {h : tH} (G0 : GH h D n χ) {i j : Nat} (ij : i < j) {Q : tO → tH → Prop} {v : Nat → Nat} {c4 c5 c6 c7 c8 c9 : Int32} {x16 : Int32} : ∀ m k a0 a1 a2 g w18 w19 w20, j < k → k + m = n → sq h v g → (∀ g w18 w19 w20, sq h v g → AX 36 112 203 [.ref 0, .long y, .float 0, .int (nI n), .int c4, .int c5, .int c6, .int c7, .int c8, .int c9, .int (nI (a0 + sB (T3 χ n i j) k m)), .int (nI (a1 + sB (fun k => bn (pnone χ n i j k)) k m)), .int (nI (a2 + sB (flv χ n i j) k m)), .ref 35, .int (nI i), .int (nI (j + 1)), .int x16, .int (nI n), w18, w19, w20] [] g Q) → AX 36 112 285 [.ref 0, .long y, .float 0, .int (nI n), .int c4, .int c5, .int c6, .int c7, .int c8, .int c9, .int (nI a0), .int (nI a1), .int (nI a2), .ref 35, .int (nI i), .int (nI j), .int x16, .int (nI k), w18, w19, w20] [] g Q := by
  have h7 := L.2.2
  have w' := L.2.1
  intro m
  induction m with
  | zero =>
    intro k a0 a1 a2 g w18 w19 w20 jk hk hs hC
    have : k = n := by omega
    subst this
    rw [s_112_285, if_pos (Int32.le_refl _), nI_1]
    exact hC g w18 w19 w20 hs
  | succ m ih =>
    intro k a0 a1 a2 g w18 w19 w20 jk hk hs hC
    have hkn : k < n := by omega
    have hi : i < n := by omega
    have hj : j < n := by omega
    have G := GH_sq G0 hs
    have hx := LV_flip L ij jk hkn
    have q1 : χ k i j = χ i j k := (WS_r w' (a := k) (b := i) (c := j) (by omega) (by omega) (by omega)).symm
    have q2 : χ j i k = -χ i j k := WS_j w' (by omega) (by omega) (by omega)
    have q3 : χ i k i = 0 := WS_z w' (by omega) (by omega) (by omega) (by omega)
    rw [s_112_285, if_neg (by rw [nI_le' (by omega) (by omega)]; omega)]
    refine sh_p L G0 ij jk hkn n 0 true (by omega) ?_
    rw [Bool.true_and, nin_p, s_112_297, if_pos (Int32.le_refl _), m_bit (by omega) (by omega) (by omega) (by omega) (by omega) (by omega)]
    simp only [t_kl, m_holds hx, t_ki, t_ob_0', true_and, k83 G hi hj hkn, k83 G hkn hi hj, k83 G hj hi hkn, k83 G hi hkn hi, m_sg L hi hj hkn, q1, q2, q3, not_true_eq_false, if_false, if_true, bnz, nI_add, nI_1]
    refine sh_l L G0 ij jk hkn (n - (k + 1)) (k + 1) a0 g w20 (by omega) (by omega) hs fun g w s => ?_
    refine ih (k + 1) _ _ _ g _ _ _ (by omega) (by omega) s fun g w18 w19 w20 s => ?_
    have := hC g w18 w19 w20 s
    rw [show a0 + sB (its χ i j k) (k + 1) (n - (k + 1)) + sB (T3 χ n i j) (k + 1) m = a0 + sB (T3 χ n i j) k (m + 1) from Nat.add_assoc _ _ _, show a1 + bn (pnone χ n i j k) + sB (fun k => bn (pnone χ n i j k)) (k + 1) m = a1 + sB (fun k => bn (pnone χ n i j k)) k (m + 1) from Nat.add_assoc _ _ _, show a2 + bn (qhold (setC χ i j k (-χ i j k)) n) + sB (flv χ n i j) (k + 1) m = a2 + sB (flv χ n i j) k (m + 1) from Nat.add_assoc _ _ _]
    exact this
theorem sh_a {χ : tC} {y : Int64} {D n : Nat} (L : LV χ y n) {h : tH} (G0 : GH h D n χ) {i j : Nat} (hi : i < n) (hj : j < n) {Q : tO → tH → Prop} {c4 c5 c6 c7 c8 c9 : Int32} {a0 a1 a2 : Nat} {g : tH} {w18 w19 w20 : Value} : ∀ m k c, k + m = n → AX 36 112 215 [.ref 0, .long y, .float 0, .int (nI n), .int c4, .int c5, .int c6, .int c7, .int c8, .int c9, .int (nI a0), .int (nI a1), .int (nI a2), .ref 35, .int (nI i), .int (nI j), .int (nI (c + cB (fun k => decide (χ i j k = 1)) k m)), .int (nI n), w18, w19, w20] [] g Q → AX 36 112 215 [.ref 0, .long y, .float 0, .int (nI n), .int c4, .int c5, .int c6, .int c7, .int c8, .int c9, .int (nI a0), .int (nI a1), .int (nI a2), .ref 35, .int (nI i), .int (nI j), .int (nI c), .int (nI k), w18, w19, w20] [] g Q := by
  have h7 := L.2.2
  intro m
  induction m with
  | zero =>
    intro k c hk hC
    have : k = n := by omega
    subst this
    exact hC
  | succ m ih =>
    intro k c hk hC
    have hkn : k < n := by omega
    have e : cB (fun k => decide (χ i j k = 1)) k (m + 1) = (if decide (χ i j k = 1) = true then 1 else 0) + cB (fun k => decide (χ i j k = 1)) (k + 1) m := rfl
    rw [e, ← Nat.add_assoc] at hC
    have c1 := ih (k + 1) _ (by omega) hC
    have e2 : (if χ i j k ≤ (0 : Int32) then (0 : Int32) else 1) = nI (if decide (χ i j k = 1) = true then 1 else 0) := by
      have h1 := (L.2.1 i j k (by omega) (by omega) (by omega)).2.2
      have h2 : χ i j k = 1 ∨ χ i j k = -1 ∨ χ i j k = 0 := by
        split at h1
        · rcases h1 with h1 | h1
          · exact Or.inl h1
          · exact Or.inr (Or.inl h1)
        · exact Or.inr (Or.inr h1)
      rcases h2 with h2 | h2 | h2 <;> rw [h2] <;> decide
    rw [s_112_215, if_neg (by rw [nI_le' (by omega) (by omega)]; omega), m_sg L hi hj hkn]
    simp only [t_ki, e2, nI_add, nI_1]
    exact c1
theorem sh_j {χ : tC} {y : Int64} {D n : Nat} (L : LV χ y n) {h : tH} (G0 : GH h D n χ) (hf : h.1 36 0 = 1) {i : Nat} {Q : tO → tH → Prop} {c4 c5 c6 c7 c8 c9 : Int32} : ∀ m j a0 a1 a2 v g w16 w17 w18 w19 w20, i < j → j + m = n → sq h v g → (∀ g w15 w16 w17 w18 w19 w20, sq h (fun u => v u + sB (fun j => bn (decide (mN χ n i j = u))) j m) g → AX 36 112 191 [.ref 0, .long y, .float 0, .int (nI n), .int c4, .int c5, .int c6, .int c7, .int c8, .int c9, .int (nI (a0 + sB (T2 χ n i) j m)), .int (nI (a1 + sB (emp2 χ n i) j m)), .int (nI (a2 + sB (flp2 χ n i) j m)), .ref 35, .int (nI (i + 1)), w15, w16, w17, w18, w19, w20] [] g Q) → AX 36 112 203 [.ref 0, .long y, .float 0, .int (nI n), .int c4, .int c5, .int c6, .int c7, .int c8, .int c9, .int (nI a0), .int (nI a1), .int (nI a2), .ref 35, .int (nI i), .int (nI j), w16, w17, w18, w19, w20] [] g Q := by
  have h7 := L.2.2
  have w' := L.2.1
  intro m
  induction m with
  | zero =>
    intro j a0 a1 a2 v g w16 w17 w18 w19 w20 ij hj hs hC
    have : j = n := by omega
    subst this
    rw [s_112_203, if_pos (Int32.le_refl _), nI_1]
    exact hC g _ w16 w17 w18 w19 w20 hs
  | succ m ih =>
    intro j a0 a1 a2 v g w16 w17 w18 w19 w20 ij hj hs hC
    have hjn : j < n := by omega
    have hi : i < n := by omega
    obtain ⟨m1, m2, m3⟩ := mN_ok w' h7 hi hjn (by omega)
    rw [s_112_203, if_neg (by rw [nI_le' (by omega) (by omega)]; omega)]
    refine sh_a L G0 hi hjn n 0 0 (by omega) ?_
    rw [Nat.zero_add, s_112_215, if_pos (Int32.le_refl _)]
    simp only [m3, sq_in hs hf (show mN χ n i j < 4 by omega), nC (show mN χ n i j < 10000 by omega), true_and, nI_1]
    refine ⟨by decide, ?_⟩
    refine sh_k L G0 ij (n - (j + 1)) (j + 1) a0 a1 a2 _ w18 w19 w20 (by omega) (by omega) (sq_add hs (show mN χ n i j < 4 by omega)) fun g w18 w19 w20 s => ?_
    refine ih (j + 1) _ _ _ _ g _ _ _ _ _ (by omega) (by omega) s fun g w15 w16 w17 w18 w19 w20 s => ?_
    have := hC g w15 w16 w17 w18 w19 w20 (by
      have e : (fun u => v u + bn (decide (mN χ n i j = u)) + sB (fun j => bn (decide (mN χ n i j = u))) (j + 1) m) = fun u => v u + sB (fun j => bn (decide (mN χ n i j = u))) j (m + 1) := funext fun u => Nat.add_assoc _ _ _
      rw [← e]
      exact s)
    rw [show a0 + sB (T3 χ n i j) (j + 1) (n - (j + 1)) + sB (T2 χ n i) (j + 1) m = a0 + sB (T2 χ n i) j (m + 1) from Nat.add_assoc _ _ _, show a1 + sB (fun k => bn (pnone χ n i j k)) (j + 1) (n - (j + 1)) + sB (emp2 χ n i) (j + 1) m = a1 + sB (emp2 χ n i) j (m + 1) from Nat.add_assoc _ _ _, show a2 + sB (flv χ n i j) (j + 1) (n - (j + 1)) + sB (flp2 χ n i) (j + 1) m = a2 + sB (flp2 χ n i) j (m + 1) from Nat.add_assoc _ _ _]
    exact this
theorem sh_i {χ : tC} {y : Int64} {D n : Nat} (L : LV χ y n) {h : tH} (G0 : GH h D n χ) (hf : h.1 36 0 = 1) {Q : tO → tH → Prop} {c4 c5 c6 c7 c8 c9 : Int32} : ∀ m i a0 a1 a2 v g w15 w16 w17 w18 w19 w20, i + m = n → sq h v g → (∀ g w15 w16 w17 w18 w19 w20, sq h (fun u => v u + sB (fun i => sB (fun j => bn (decide (mN χ n i j = u))) (i + 1) (n - (i + 1))) i m) g → AX 36 112 191 [.ref 0, .long y, .float 0, .int (nI n), .int c4, .int c5, .int c6, .int c7, .int c8, .int c9, .int (nI (a0 + sB (T1 χ n) i m)), .int (nI (a1 + sB (emp1 χ n) i m)), .int (nI (a2 + sB (flp1 χ n) i m)), .ref 35, .int (nI n), w15, w16, w17, w18, w19, w20] [] g Q) → AX 36 112 191 [.ref 0, .long y, .float 0, .int (nI n), .int c4, .int c5, .int c6, .int c7, .int c8, .int c9, .int (nI a0), .int (nI a1), .int (nI a2), .ref 35, .int (nI i), w15, w16, w17, w18, w19, w20] [] g Q := by
  have h7 := L.2.2
  intro m
  induction m with
  | zero =>
    intro i a0 a1 a2 v g w15 w16 w17 w18 w19 w20 hi hs hC
    have : i = n := by omega
    subst this
    exact hC g w15 w16 w17 w18 w19 w20 hs
  | succ m ih =>
    intro i a0 a1 a2 v g w15 w16 w17 w18 w19 w20 hi hs hC
    rw [s_112_191, if_neg (by rw [nI_le' (by omega) (by omega)]; omega), nI_1]
    refine sh_j L G0 hf (n - (i + 1)) (i + 1) a0 a1 a2 v g w16 w17 w18 w19 w20 (by omega) (by omega) hs fun g w15 w16 w17 w18 w19 w20 s => ?_
    refine ih (i + 1) _ _ _ _ g _ _ _ _ _ _ (by omega) s fun g w15 w16 w17 w18 w19 w20 s => ?_
    have := hC g w15 w16 w17 w18 w19 w20 (by
      have e : (fun u => v u + sB (fun j => bn (decide (mN χ n i j = u))) (i + 1) (n - (i + 1)) + sB (fun i => sB (fun j => bn (decide (mN χ n i j = u))) (i + 1) (n - (i + 1))) (i + 1) m) = fun u => v u + sB (fun i => sB (fun j => bn (decide (mN χ n i j = u))) (i + 1) (n - (i + 1))) i (m + 1) := funext fun u => Nat.add_assoc _ _ _
      rw [← e]
      exact s)
    rw [show a0 + sB (T2 χ n i) (i + 1) (n - (i + 1)) + sB (T1 χ n) (i + 1) m = a0 + sB (T1 χ n) i (m + 1) from Nat.add_assoc _ _ _, show a1 + sB (emp2 χ n i) (i + 1) (n - (i + 1)) + sB (emp1 χ n) (i + 1) m = a1 + sB (emp1 χ n) i (m + 1) from Nat.add_assoc _ _ _, show a2 + sB (flp2 χ n i) (i + 1) (n - (i + 1)) + sB (flp1 χ n) (i + 1) m = a2 + sB (flp1 χ n) i (m + 1) from Nat.add_assoc _ _ _]
    exact this
theorem lev_m {χ : tC} {n t : Nat} (w : WS χ n) (h7 : n ≤ 7) (ht : t < 4) : lev χ n (nI t) = sB (fun i => sB (fun j => bn (decide (mN χ n i j = t))) (i + 1) (n - (i + 1))) 0 n := by
  unfold lev
  refine sB_ext _ _ fun i _ hi => ?_
  unfold lev1
  refine sB_ext _ _ fun j hj1 hj2 => ?_
  obtain ⟨m1, m2, -⟩ := mN_ok (i := i) (j := j) w h7 (by omega) (by omega) (by omega)
  show bn (decide (qlev χ n i j = nI t)) = bn (decide (mN χ n i j = t))
  have : decide (qlev χ n i j = nI t) = decide (mN χ n i j = t) := by
    rw [m2, decide_eq_decide, nI_eq' (by omega) (by omega)]
  rw [this]
/-- the end of the counting: all that the class answers is what was counted -/
theorem sh_c {χ : tC} {y : Int64} {D n : Nat} (L : LV χ y n) {h : tH} (G0 : GH h D n χ) (hf : h.1 36 0 = 1) {Q : tO → tH → Prop} {c4 c5 c6 c7 c8 c9 : Int32} {g : tH} {w15 w16 w17 w18 w19 w20 : Value} (hs : sq h (fun _ => 0) g) (hQ : ∀ g v, sq h v g → Q (RI 1) g) : AX 36 112 191 [.ref 0, .long y, .float 0, .int (nI n), .int c4, .int c5, .int c6, .int c7, .int c8, .int c9, .int (nI 0), .int (nI 0), .int (nI 0), .ref 35, .int (nI 0), w15, w16, w17, w18, w19, w20] [] g Q := by
  have h7 := L.2.2
  have w' := L.2.1
  refine sh_i L G0 hf n 0 0 0 0 _ g w15 w16 w17 w18 w19 w20 (by omega) hs fun g w15 w16 w17 w18 w19 w20 s => ?_
  have G := GH_sq G0 s
  have s1 := sq_kq s (kq_hR (χ := χ) (n := n))
  have G1 := GH_sq G0 s1
  obtain ⟨g2, kq2, c84'⟩ := k84 G1
  have s2 := sq_kq s1 kq2
  have G2 := GH_sq G0 s2
  have lv : ∀ t, t < 4 → g2.1 35 t = nI (lev χ n (nI t)) := fun t ht => by
    rw [s2.2.2.2 t ht, lev_m w' h7 ht]
    exact congrArg nI (Nat.zero_add _)
  have i0 := sq_in s2 hf (t := 0) (by decide)
  have i1 := sq_in s2 hf (t := 1) (by decide)
  have i2 := sq_in s2 hf (t := 2) (by decide)
  have l0 := lv 0 (by decide)
  have l1 := lv 1 (by decide)
  have l2 := lv 2 (by decide)
  rw [show nI 0 = (0 : Int32) from rfl] at i0 l0
  rw [show nI 1 = (1 : Int32) from rfl] at i1 l1
  rw [show nI 2 = (2 : Int32) from rfl] at i2 l2
  have z0 : (0 : Int32).toNatClampNeg = 0 := by decide
  have z1 : (1 : Int32).toNatClampNeg = 1 := by decide
  have z2 : (2 : Int32).toNatClampNeg = 2 := by decide
  rw [s_112_191, if_pos (Int32.le_refl _)]
  simp only [t_ob_0', true_and, k88 G, k89 G1, c84', k90 G2 (show ¬ (0 : Int32) < 0 by decide) (show ¬ (2 : Int32) < 0 by decide), k90 G2 (show ¬ (1 : Int32) < 0 by decide) (show ¬ (2 : Int32) < 1 by decide), k90 G2 (show ¬ (2 : Int32) < 0 by decide) (show ¬ (2 : Int32) < 2 by decide), t_ki, Nat.zero_add]
  rw [if_neg (by rw [crs_T h7]; simp), if_neg (by simp [emp]), if_neg (by simp [flp])]
  simp only [i0, i1, i2, z0, z1, z2, l0, l1, l2, true_and, not_true_eq_false, if_false, s_112_750, or_true, true_and]
  exact hQ _ _ s2
