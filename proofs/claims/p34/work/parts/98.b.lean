/-! ===== the law's turns ===== -/
/-- what holds between two turns -/
def LI (h : tH) (y : Int64) (n D : Nat) (χ : tC) (has mesh : Bool) (Ls C : Nat) : Prop :=
  GH h D n χ ∧ LV χ y n ∧ h.1 36 0 = 0 ∧ h.1 40 3 = zb has ∧ (has = true → ∀ p, p < n → h.1 50 p = h.1 14 p ∧ h.1 60 p = h.1 15 p) ∧ h.1 40 5 = zb mesh ∧ (mesh = true → EV h n (h.1 40 4) ∧ PL χ n (h.1 40 4)) ∧ (∀ d, D ≤ d → d < 6 → h.1 (40 + d) 3 = 0 ∧ h.1 (40 + d) 5 = 0) ∧ scL h Ls ∧ h.2.2.2 ≤ C
theorem LI_of {h g : tH} {y : Int64} {n D : Nat} {χ : tC} {has mesh : Bool} {Ls C C' : Nat} (v : LI h y n D χ has mesh Ls C) (e : ∀ k i, k ≠ 9 → k ≠ 10 → k ≠ 80 → k ≠ 35 → k ≠ 36 → g.1 k i = h.1 k i) (ex : tX g 70 = tX h 70) (f : g.1 36 0 = 0) (c : g.2.2.2 ≤ C') : LI g y n D χ has mesh Ls C' := by
  obtain ⟨⟨g1, g2, g3, g4, g5, g6⟩, l, -, a3, a4, a5, a6, a7, a8, -⟩ := v
  have e' : ∀ k i, 11 ≤ k → k < 35 ∨ 36 < k → k ≠ 80 → g.1 k i = h.1 k i := fun k i h1 h2 h3 => e k i (by omega) (by omega) h3 (by omega) (by omega)
  refine ⟨⟨by rw [e _ _ (by decide) (by decide) (by decide) (by decide) (by decide)]; exact g1, g2, g3, by rw [e' _ _ (by decide) (by decide) (by decide)]; exact g4, by rw [ex]; exact g5, g6⟩, l, f, ?_, fun hb p hp => ?_, ?_, fun hb => ?_, fun d h1 h2 => ?_, ⟨?_, a8.2⟩, c⟩
  · rw [e' _ _ (by decide) (by decide) (by decide)]; exact a3
  · rw [e' _ _ (by decide) (by decide) (by decide), e' _ _ (by decide) (by decide) (by decide), e' _ _ (by decide) (by decide) (by decide), e' _ _ (by decide) (by decide) (by decide)]; exact a4 hb p hp
  · rw [e' _ _ (by decide) (by decide) (by decide)]; exact a5
  · rw [e' 40 4 (by decide) (by decide) (by decide)]
    exact ⟨fun i j hi hj => by rw [e' _ _ (by decide) (by decide) (by decide)]; exact (a6 hb).1 i j hi hj, (a6 hb).2⟩
  · rw [e' _ _ (by omega) (by omega) (by omega), e' _ _ (by omega) (by omega) (by omega)]; exact a7 d h1 h2
  · rw [e' _ _ (by decide) (by decide) (by decide)]; exact a8.1
/-- behind a look at the shape -/
theorem LI_sh {h g : tH} {y : Int64} {n D : Nat} {χ : tC} {has mesh : Bool} {Ls C : Nat} {v : Nat → Nat} (l : LI h y n D χ has mesh Ls C) (s : sq (t_A h) v g) : LI (t_dr g) y n D χ has mesh Ls (C + 1) := by
  have rd : ∀ a b, (t_dr g).1 a b = if a = 36 ∧ b = 0 then 0 else g.1 a b := fun _ _ => rfl
  have ra : ∀ a b, a ≠ 35 → a ≠ 36 → (t_A h).1 a b = h.1 a b := fun a b e1 e2 => by
    show (if a = 35 then 0 else if a = 36 ∧ b = 0 then 1 else h.1 a b) = _
    rw [if_neg e1, if_neg fun z => e2 z.1]
  refine LI_of l (fun k i h1 h2 h3 h4 h5 => by rw [rd, if_neg fun z => h5 z.1, s.1 k i h1 h2 h3 h4, ra k i h4 h5]) ?_ rfl ?_
  · rw [show tX (t_dr g) 70 = tX g 70 from tX_o fun c _ => by rw [rd, if_neg (by omega)], s.2.1]
    exact tX_o fun c _ => ra _ _ (by decide) (by decide)
  · show g.2.2.2 ≤ C + 1
    rw [s.2.2.1]
    have := l.2.2.2.2.2.2.2.2.2
    show h.2.2.2 + 1 ≤ C + 1
    omega
theorem tl_b {y : Int64} {n D : Nat} {χ : tC} {has mesh : Bool} {Ls C : Nat} {h : tH} (l : LI h y n D χ has mesh Ls C) {Q : tO → tH → Prop} {x5 x7 x14 x15 x16 x17 x18 : Int32} {t : Nat} {a : Nat} (ha : a < n) {w21 w22 w23 w24 : Value} : ∀ m b, b + m = n → AX 37 114 1305 [.ref 33, .ref 0, .ref 14, .ref 15, .ref 16, .int x5, .int (nI n), .int x7, .long y, .float 0, .int (zb has), .int (zb mesh), .int (nI D), .int (nI t), .int x14, .int x15, .int x16, .int x17, .int x18, .int (nI a), .int (nI n), w21, w22, w23, w24] [] h Q → AX 37 114 1305 [.ref 33, .ref 0, .ref 14, .ref 15, .ref 16, .int x5, .int (nI n), .int x7, .long y, .float 0, .int (zb has), .int (zb mesh), .int (nI D), .int (nI t), .int x14, .int x15, .int x16, .int x17, .int x18, .int (nI a), .int (nI b), w21, w22, w23, w24] [] h Q := by
  obtain ⟨G, L, f, a3, a4, a5, a6, a7, a8, a9⟩ := l
  have h7 := L.2.2
  have hD : 0 < D := by have := G.2.1; omega
  intro m
  induction m with
  | zero =>
    intro b hb hC
    have : b = n := by omega
    subst this
    exact hC
  | succ m ih =>
    intro b hb hC
    have hbn : b < n := by omega
    have c := ih (b + 1) (by omega) hC
    have k := k97 (d := 0) (i := a) (j := b) G.1 G.2.2.1 hD (GH_tn G) (b := mesh) a5 ha hbn
    have kn : ∀ z, (z = 0 ∨ z = 1) → has = true → ∀ Q, AM 82 [.ref 0, .int 0, .int (nI a), .int z] h Q = Q (RI (if z = 0 then h.1 50 a else h.1 60 a)) h := fun z _ hh Q => k82 (d := 0) G.1 G.2.2.1 hD (GH_tn G) (by rw [← hh]; exact a3) ha Q
    have fin : ∀ u, AX 37 114 1346 [.ref 33, .ref 0, .ref 14, .ref 15, .ref 16, .int x5, .int (nI n), .int x7, .long y, .float 0, .int (zb has), .int (zb mesh), .int (nI D), .int (nI t), .int x14, .int x15, .int x16, .int x17, .int x18, .int (nI a), .int (nI b), w21, w22, w23, w24] [.int u, .int u] h Q := fun u => by
      rw [s_114_1346]
      simp only [not_true_eq_false, if_false, zb_0]
      cases hh : has with
      | false =>
        rw [hh] at c
        rw [if_pos rfl, s_114_1386, nI_1]
        exact c
      | true =>
        obtain ⟨n1, n2⟩ := a4 hh a ha
        rw [hh] at c
        have i14 : t_in (t_ai h 14) (nI a) = True := t_in_ai t_ar_14 (by omega)
        have i15 : t_in (t_ai h 15) (nI a) = True := t_in_ai t_ar_15 (by omega)
        rw [if_neg (by decide)]
        simp only [t_ob_0', true_and, kn 0 (Or.inl rfl) hh, kn 1 (Or.inr rfl) hh, t_ki, i14, i15, nC (show a < 10000 by omega), if_true, n1]
        rw [if_neg (by simp)]
        simp only [true_and, show ¬ ((1 : Int32) = 0) by decide, if_false, n2, if_true, s_114_1386, nI_1]
        exact c
    rw [s_114_1305]
    simp (disch := omega) only [nI_le', t_ob_0', true_and]
    rw [if_neg (by omega), show (0 : Int32) = nI 0 from rfl, k]
    simp only [t_ki]
    rw [show nI 0 = (0 : Int32) from rfl]
    simp only [zb_0]
    cases hm : mesh with
    | false =>
      rw [hm] at fin
      rw [if_pos rfl, s_114_1345]
      exact fin 0
    | true =>
      rw [hm] at fin
      have ev := (a6 hm).1 a b ha hbn
      rw [if_neg (by decide), n77, EV_in (by omega) (by omega), nC (by omega), ev, true_and, Bool.true_and]
      show (if ¬ zb _ = (1 : Int32) then _ else _)
      simp only [zb_1]
      cases (!decide (a = b) && bt (h.1 40 4) (sx a b)) with
      | false =>
        rw [if_pos (by decide), s_114_1345]
        exact fin 0
      | true =>
        rw [if_neg (by decide)]
        exact fin 1
theorem tl_a {y : Int64} {n D : Nat} {χ : tC} {has mesh : Bool} {Ls C : Nat} {h : tH} (l : LI h y n D χ has mesh Ls C) {Q : tO → tH → Prop} {x5 x7 x14 x15 x16 x17 x18 : Int32} {t : Nat} {w21 w22 w23 w24 : Value} : ∀ m a w20, a + m = n → (∀ w20, AX 37 114 1295 [.ref 33, .ref 0, .ref 14, .ref 15, .ref 16, .int x5, .int (nI n), .int x7, .long y, .float 0, .int (zb has), .int (zb mesh), .int (nI D), .int (nI t), .int x14, .int x15, .int x16, .int x17, .int x18, .int (nI n), w20, w21, w22, w23, w24] [] h Q) → AX 37 114 1295 [.ref 33, .ref 0, .ref 14, .ref 15, .ref 16, .int x5, .int (nI n), .int x7, .long y, .float 0, .int (zb has), .int (zb mesh), .int (nI D), .int (nI t), .int x14, .int x15, .int x16, .int x17, .int x18, .int (nI a), w20, w21, w22, w23, w24] [] h Q := by
  have h7 := l.2.1.2.2
  intro m
  induction m with
  | zero =>
    intro a w20 ha hC
    have : a = n := by omega
    subst this
    exact hC w20
  | succ m ih =>
    intro a w20 ha hC
    rw [s_114_1295, if_neg (by rw [nI_le' (by omega) (by omega)]; omega), show (0 : Int32) = nI 0 from rfl]
    refine tl_b l (by omega) n 0 (by omega) ?_
    rw [s_114_1305, if_pos (Int32.le_refl _), nI_1]
    exact ih (a + 1) _ (by omega) hC
/-- the end of a turn -/
theorem tl_end {y : Int64} {n D : Nat} {χ : tC} {has mesh : Bool} {Ls C : Nat} {h : tH} (l : LI h y n D χ has mesh Ls C) {Q : tO → tH → Prop} {x5 x7 x14 x15 x16 x17 x18 : Int32} {t : Nat} (ht : t < 30) {w19 w20 w21 w22 w23 w24 : Value} (hN : ∀ g x14 x15 x16 x17 x18 w19 w20, LI g y n D χ has mesh Ls (C + 1) → AX 37 114 455 [.ref 33, .ref 0, .ref 14, .ref 15, .ref 16, .int x5, .int (nI n), .int x7, .long y, .float 0, .int (zb has), .int (zb mesh), .int (nI D), .int (nI (t + 1)), .int x14, .int x15, .int x16, .int x17, .int x18, w19, w20, w21, w22, w23, w24] [] g Q) : AX 37 114 1271 [.ref 33, .ref 0, .ref 14, .ref 15, .ref 16, .int x5, .int (nI n), .int x7, .long y, .float 0, .int (zb has), .int (zb mesh), .int (nI D), .int (nI t), .int x14, .int x15, .int x16, .int x17, .int x18, w19, w20, w21, w22, w23, w24] [] h Q := by
  have l0 := l
  obtain ⟨G, L, f, a3, a4, a5, a6, a7, a8, a9⟩ := l
  have h7 := L.2.2
  have hD : 0 < D := by have := G.2.1; omega
  have k := c81 (d := 0) (b := has) G.1 G.2.2.1 hD a3
  rw [s_114_1271]
  simp only [t_ob_0', true_and, k79 G.1, t_ki, not_true_eq_false, if_false]
  rw [show (0 : Int32) = nI 0 from rfl, k]
  simp only [t_ki, if_true]
  refine tl_a l0 n 0 _ (by omega) fun w20 => ?_
  have go : ∀ g, LI g y n D χ has mesh Ls (C + 1) → AX 37 114 1418 [.ref 33, .ref 0, .ref 14, .ref 15, .ref 16, .int x5, .int (nI n), .int x7, .long y, .float 0, .int (zb has), .int (zb mesh), .int (nI D), .int (nI t), .int x14, .int x15, .int x16, .int x17, .int x18, .int (nI n), w20, w21, w22, w23, w24] [] g Q := fun g lg => by
    rw [s_114_1418, nI_1]
    exact hN g _ _ _ _ _ _ _ lg
  rw [s_114_1295, if_pos (Int32.le_refl _)]
  split
  · exact go h (LI_of l0 (fun _ _ _ _ _ _ _ => rfl) rfl f (by omega))
  · refine m_shapes L G f fun g v s => ?_
    simp only [t_kd]
    rw [if_pos (by decide)]
    exact go _ (LI_sh l0 s)
