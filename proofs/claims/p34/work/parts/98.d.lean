/-! ===== the law's turns, kind by kind ===== -/
theorem LI_mono {h : tH} {y : Int64} {n D : Nat} {χ : tC} {has mesh : Bool} {Ls C C' : Nat} (l : LI h y n D χ has mesh Ls C) (c : C ≤ C') : LI h y n D χ has mesh Ls C' := LI_of l (fun _ _ _ _ _ _ _ => rfl) rfl l.2.2.1 (Nat.le_trans l.2.2.2.2.2.2.2.2.2 c)
/-- a flip that is done -/
theorem LI_flip {h : tH} {y : Int64} {n D : Nat} {χ : tC} {has mesh : Bool} {Ls C : Nat} (l : LI h y n D χ has mesh Ls C) {i j k : Nat} (hi : i < n) (hj : j < n) (hk : k < n) (ij : i ≠ j) (jk : j ≠ k) (ik : i ≠ k) (hq : qhold (setC χ i j k (-χ i j k)) n = true) :
    LI (t_I (t_I (hPut h 80 i j k (-χ i j k)) 40 3 0) 40 5 0) (y ^^^ lone (ps i j k)) n D (setC χ i j k (-χ i j k)) false false Ls C := by
  have L' := LV_flipg l.2.1 hi hj hk ij jk ik
  obtain ⟨⟨g1, g2, g3, g4, g5, g6, g7, g8, g9⟩, L, f, a3, a4, a5, a6, a7, a8, a9⟩ := l
  obtain ⟨A, hA⟩ : ∃ A, A = t_I (t_I (hPut h 80 i j k (-χ i j k)) 40 3 0) 40 5 0 := ⟨_, rfl⟩
  have aA : ∀ k' i', k' ≠ 80 → ¬ (k' = 40 ∧ (i' = 3 ∨ i' = 5)) → A.1 k' i' = h.1 k' i' := fun k' i' n1 n2 => by
    rw [hA, t_I_at, if_neg (by omega), t_I_at, if_neg (by omega), hPut_o n1]
  have eX : tX A 70 = setC χ i j k (-χ i j k) := by
    rw [← g5, ← tX_put (h := h) (r := 70) (x := -tX h 70 i j k) (show i < 7 by omega) (show j < 7 by omega) (show k < 7 by omega)]
    refine tX_o fun m hm => ?_
    rw [hA, t_I_at, if_neg (by omega), t_I_at, if_neg (by omega), ← g5]
  have c2 : A.2 = h.2 := by rw [hA]; rfl
  rw [← hA]
  refine ⟨⟨by rw [aA _ _ (by decide) (by decide)]; exact g1, g2, g3, by rw [aA _ _ (by decide) (by decide)]; exact g4, eX, g6, g7, L'.2.1, hq⟩, L', by rw [aA _ _ (by decide) (by decide)]; exact f, by rw [hA]; rfl, fun z => (nomatch z), by rw [hA]; rfl, fun z => (nomatch z), fun d h1 h2 => ?_, ⟨by rw [aA _ _ (by decide) (by decide)]; exact a8.1, a8.2⟩, by rw [c2]; exact a9⟩
  rw [aA _ _ (by omega) (by omega), aA _ _ (by omega) (by omega)]
  exact a7 d h1 h2
/-- a flip that is not done -/
theorem LI_unflip {h : tH} {y : Int64} {n D : Nat} {χ : tC} {has mesh : Bool} {Ls C : Nat} (l : LI h y n D χ has mesh Ls C) {i j k : Nat} (hi : i < n) (hj : j < n) (hk : k < n) :
    LI (hPut (hPut h 80 i j k (-χ i j k)) 80 i j k (χ i j k)) y n D χ has mesh Ls C := by
  have h7 := l.2.1.2.2
  have g5 : tX h 70 = χ := l.1.2.2.2.2.1
  have e := tX_put (h := hPut h 80 i j k (-χ i j k)) (r := 70) (x := χ i j k) (show i < 7 by omega) (show j < 7 by omega) (show k < 7 by omega)
  have e' := tX_put (h := h) (r := 70) (x := -χ i j k) (show i < 7 by omega) (show j < 7 by omega) (show k < 7 by omega)
  refine LI_of l (fun a b _ _ h3 _ _ => by rw [hPut_o h3, hPut_o h3]) ?_ (by rw [hPut_o (by decide), hPut_o (by decide)]; exact l.2.2.1) l.2.2.2.2.2.2.2.2.2
  refine (e.trans ?_).trans g5.symm
  rw [show tX (hPut h 80 i j k (-χ i j k)) 70 = setC χ i j k (-χ i j k) from e'.trans (by rw [g5])]
  exact setC_back l.2.1.2.1 (by omega) (by omega) (by omega)
/-- behind new names, in the class and in the law -/
def zW (g : tH) (i j : Nat) : tH := t_I (t_I (t_I (t_I g 14 i (g.1 14 j)) 15 i ((t_I g 14 i (g.1 14 j)).1 15 j)) 14 j (g.1 14 i)) 15 j (g.1 15 i)
theorem zW_at (g : tH) (i j a b : Nat) : (zW g i j).1 a b = if a = 15 ∧ b = j then g.1 15 i else if a = 14 ∧ b = j then g.1 14 i else if a = 15 ∧ b = i then g.1 15 j else if a = 14 ∧ b = i then g.1 14 j else g.1 a b := rfl
theorem LI_ren {h : tH} {y : Int64} {n D : Nat} {χ : tC} {has mesh : Bool} {Ls C : Nat} (l : LI h y n D χ has mesh Ls C) {i j : Nat} (hi : i < n) (hj : j < n) (ij : i ≠ j) :
    LI (zW (rA h 0 i j n) i j) (fd3 (addb fun a b c => decide (χ (sw i j a) (sw i j b) (sw i j c) = 1)) n 0) n D (ren i j χ) has false Ls C := by
  have L' := LV_ren l.2.1 hi hj
  have eX := rA_X l.1 hi hj ij
  obtain ⟨⟨g1, g2, g3, g4, g5, g6, g7, g8, g9⟩, L, f, a3, a4, a5, a6, a7, a8, a9⟩ := l
  have hold := ren_hold g7 hi hj g8 g9
  have rd : ∀ a b, a ≠ 14 → a ≠ 15 → a ≠ 80 → a ≠ 50 → a ≠ 60 → ¬ (a = 40 ∧ b = 5) → (zW (rA h 0 i j n) i j).1 a b = h.1 a b := fun a b h1 h2 h3 h4 h5 h6 => by
    rw [zW_at, if_neg (by omega), if_neg (by omega), if_neg (by omega), if_neg (by omega), rA_at, if_neg h6, if_neg (by omega), if_neg (by omega), if_neg (by omega), if_neg (by omega), if_neg h3]
  refine ⟨⟨by rw [rd _ _ (by decide) (by decide) (by decide) (by decide) (by decide) (by decide)]; exact g1, g2, g3, by rw [rd _ _ (by decide) (by decide) (by decide) (by decide) (by decide) (by decide)]; exact g4, ?_, g6, g7, L'.2.1, hold⟩, L', by rw [rd _ _ (by decide) (by decide) (by decide) (by decide) (by decide) (by decide)]; exact f, by rw [rd _ _ (by decide) (by decide) (by decide) (by decide) (by decide) (by decide)]; exact a3, fun hb p hp => ?_, ?_, fun z => (nomatch z), fun d h1 h2 => ?_, ⟨by rw [rd _ _ (by decide) (by decide) (by decide) (by decide) (by decide) (by decide)]; exact a8.1, a8.2⟩, a9⟩
  · rw [← eX]
    exact tX_o fun c _ => by rw [zW_at, if_neg (by omega), if_neg (by omega), if_neg (by omega), if_neg (by omega)]
  · have n1 := a4 hb p hp
    have ni := a4 hb i hi
    have nj := a4 hb j hj
    simp only [zW_at, rA_at, show ¬ ((50 : Nat) = 15) by decide, show ¬ ((50 : Nat) = 14) by decide, show ¬ ((50 : Nat) = 40) by decide, show ¬ ((50 : Nat) = 60) by decide, show ¬ ((50 : Nat) = 80) by decide, show ¬ ((60 : Nat) = 15) by decide, show ¬ ((60 : Nat) = 14) by decide, show ¬ ((60 : Nat) = 40) by decide, show ¬ ((60 : Nat) = 50) by decide, show ¬ ((60 : Nat) = 80) by decide, show ¬ ((14 : Nat) = 15) by decide, show ¬ ((15 : Nat) = 14) by decide, show ¬ ((14 : Nat) = 40) by decide, show ¬ ((14 : Nat) = 60) by decide, show ¬ ((14 : Nat) = 50) by decide, show ¬ ((14 : Nat) = 80) by decide, show ¬ ((15 : Nat) = 40) by decide, show ¬ ((15 : Nat) = 60) by decide, show ¬ ((15 : Nat) = 50) by decide, show ¬ ((15 : Nat) = 80) by decide, false_and, true_and, if_false]
    by_cases pj : p = j
    · simp [pj, ni.1, ni.2]
    · by_cases pi : p = i
      · simp [pi, ij, nj.1, nj.2]
      · simp [pj, pi, n1.1, n1.2]
  · rw [zW_at, if_neg (by omega), if_neg (by omega), if_neg (by omega), if_neg (by omega), rA_at, if_pos ⟨rfl, rfl⟩]; rfl
  · have d0 : d ≠ 0 := by omega
    rw [rd _ _ (by omega) (by omega) (by omega) (by omega) (by omega) (by omega), rd _ _ (by omega) (by omega) (by omega) (by omega) (by omega) (by omega)]
    exact a7 d h1 h2
theorem tn_ren {y : Int64} {n D : Nat} {χ : tC} {has mesh : Bool} {Ls C : Nat} {h : tH} (l : LI h y n D χ has mesh Ls C) {Q : tO → tH → Prop} {x5 x7 : Int32} {t : Nat} (ht : t < 30) (hN : ∀ (g : tH) (y : Int64) (D : Nat) (χ : tC) (has mesh : Bool) (x14 x15 x16 x17 x18 : Int32) (w19 w20 w21 w22 w23 w24 : Value), LI g y n D χ has mesh Ls (C + 2) → AX 37 114 455 [.ref 33, .ref 0, .ref 14, .ref 15, .ref 16, .int x5, .int (nI n), .int x7, .long y, .float 0, .int (zb has), .int (zb mesh), .int (nI D), .int (nI (t + 1)), .int x14, .int x15, .int x16, .int x17, .int x18, w19, w20, w21, w22, w23, w24] [] g Q) {i j : Nat} (hi : i < n) (hj : j < n) (ij : i ≠ j) {x14 x15 x18 : Int32} {w22 w23 w24 : Value} : AX 37 114 633 [.ref 33, .ref 0, .ref 14, .ref 15, .ref 16, .int x5, .int (nI n), .int x7, .long y, .float 0, .int (zb has), .int (zb mesh), .int (nI D), .int (nI t), .int x14, .int x15, .int (nI i), .int (nI j), .int x18, .long 0, .float 0, .int 0, w22, w23, w24] [] (rA h 0 i j n) Q := by
  have l0 := l
  have G := l.1
  have L := l.2.1
  have h7 := L.2.2
  have key := ht3 (α := Int64) (β := Value × Value × Value) (γ := Value × Value) (δ := Value) (n := n)
    (L1 := fun a y' w => AX 37 114 633 [.ref 33, .ref 0, .ref 14, .ref 15, .ref 16, .int x5, .int (nI n), .int x7, .long y, .float 0, .int (zb has), .int (zb mesh), .int (nI D), .int (nI t), .int x14, .int x15, .int (nI i), .int (nI j), .int x18, .long y', .float 0, .int (nI a), w.1, w.2.1, w.2.2] [] (rA h 0 i j n) Q)
    (L2 := fun a b y' w => AX 37 114 646 [.ref 33, .ref 0, .ref 14, .ref 15, .ref 16, .int x5, .int (nI n), .int x7, .long y, .float 0, .int (zb has), .int (zb mesh), .int (nI D), .int (nI t), .int x14, .int x15, .int (nI i), .int (nI j), .int x18, .long y', .float 0, .int (nI a), .int (nI b), w.1, w.2] [] (rA h 0 i j n) Q)
    (L3 := fun a b c y' w => AX 37 114 659 [.ref 33, .ref 0, .ref 14, .ref 15, .ref 16, .int x5, .int (nI n), .int x7, .long y, .float 0, .int (zb has), .int (zb mesh), .int (nI D), .int (nI t), .int x14, .int x15, .int (nI i), .int (nI j), .int x18, .long y', .float 0, .int (nI a), .int (nI b), .int (nI c), w] [] (rA h 0 i j n) Q)
    (f := addb fun a b c => decide (χ (sw i j a) (sw i j b) (sw i j c) = 1))
    (fun a y' w ha hw => by
      rw [s_114_633, if_neg (by rw [nI_le' (by omega) (by omega)]; omega), nI_1]
      exact hw (w.2.1, w.2.2))
    (fun a y' w ha hw => by
      rw [s_114_646, if_pos (Int32.le_refl _), nI_1]
      exact hw (_, w.1, w.2))
    (fun a b y' w ab hb hw => by
      rw [s_114_646, if_neg (by rw [nI_le' (by omega) (by omega)]; omega), nI_1]
      exact hw w.2)
    (fun a b y' w ab hb hw => by
      rw [s_114_659, if_pos (Int32.le_refl _), nI_1]
      exact hw (_, w))
    (fun a b c y' w ab bc hc hw => by
      have hw := hw w
      rw [s_114_659, if_neg (by rw [nI_le' (by omega) (by omega)]; omega), m_ren L hi hj (show a < n by omega) (show b < n by omega) hc]
      simp only [t_ki, zb_0, s_114_698, nI_1]
      unfold addb at hw
      cases hf : decide (χ (sw i j a) (sw i j b) (sw i j c) = 1) with
      | false =>
        rw [if_pos rfl]
        have hf' : ¬ decide (χ (sw i j a) (sw i j b) (sw i j c) = 1) = true := by rw [hf]; decide
        rw [if_neg hf'] at hw
        exact hw
      | true =>
        rw [if_neg (by decide), m_bit (by omega) (by omega) (by omega) (by omega) (by omega) (by omega)]
        simp only [t_kl]
        rw [if_pos hf] at hw
        exact hw)
    0 (fun w => by
      have i14 : ∀ (g : tH) z, z < 7 → t_in (t_ai g 14) (nI z) = True := fun g z hz => t_in_ai t_ar_14 hz
      have i15 : ∀ (g : tH) z, z < 7 → t_in (t_ai g 15) (nI z) = True := fun g z hz => t_in_ai t_ar_15 hz
      have i7 : i < 7 := by omega
      have j7 : j < 7 := by omega
      rw [s_114_633, if_pos (Int32.le_refl _)]
      simp only [i14 _ i i7, i14 _ j j7, i15 _ i i7, i15 _ j j7, true_and, nC (show i < 10000 by omega), nC (show j < 10000 by omega)]
      refine ⟨by decide, by decide, by decide, by decide, ?_⟩
      have e := tl_end (w19 := .long (fd3 (addb fun a b c => decide (χ (sw i j a) (sw i j b) (sw i j c) = 1)) n 0)) (w20 := .float 0) (w21 := .int ((rA h 0 i j n).1 14 i)) (w22 := .int ((rA h 0 i j n).1 15 i)) (w23 := w.2.1) (w24 := w.2.2) (x5 := x5) (x7 := x7) (x14 := x14) (x15 := x15) (x16 := nI i) (x17 := nI j) (x18 := x18) (Q := Q) (LI_mono (LI_ren l0 hi hj ij) (show C ≤ C + 1 by omega)) ht (fun g x14 x15 x16 x17 x18 w19 w20 lg => hN g _ D _ has false x14 x15 x16 x17 x18 w19 w20 _ _ _ _ lg)
      exact e)
  exact key (w22, w23, w24)
theorem tn_flip {y : Int64} {n D : Nat} {χ : tC} {has mesh : Bool} {Ls C : Nat} {h : tH} (l : LI h y n D χ has mesh Ls C) {Q : tO → tH → Prop} {x5 x7 : Int32} {t : Nat} (ht : t < 30) (hN : ∀ (g : tH) (y : Int64) (D : Nat) (χ : tC) (has mesh : Bool) (x14 x15 x16 x17 x18 : Int32) (w19 w20 w21 w22 w23 w24 : Value), LI g y n D χ has mesh Ls (C + 2) → AX 37 114 455 [.ref 33, .ref 0, .ref 14, .ref 15, .ref 16, .int x5, .int (nI n), .int x7, .long y, .float 0, .int (zb has), .int (zb mesh), .int (nI D), .int (nI (t + 1)), .int x14, .int x15, .int x16, .int x17, .int x18, w19, w20, w21, w22, w23, w24] [] g Q) {i j k : Nat} (hi : i < n) (hj : j < n) (hk : k < n) (ij : i ≠ j) (jk : j ≠ k) (ik : i ≠ k) {x14 x15 : Int32} {w20 w21 w22 w23 w24 : Value} :
    AM 104 [.int (nI i), .int (nI j), .int (nI k)] h (t_kl (fun a7 h7 => AM 106 [.long (y ^^^ a7), .int (nI n)] h7 (t_ki (fun a8 h8 => (t_ob 0 = some 0 ∧ AM 71 [.ref 0, .int 0, .int (nI i), .int (nI j), .int (nI k)] h8 (t_ki (fun a9 h9 => (if a9 = a8 then (if a8 = (0 : Int32) then AX 37 114 609 [.ref 33, .ref 0, .ref 14, .ref 15, .ref 16, .int x5, .int (nI n), .int x7, .long y, .float 0, .int (zb has), .int (zb mesh), .int (nI D), .int (nI t), .int x14, .int x15, .int (nI i), .int (nI j), .int (nI k), .int a8, w20, w21, w22, w23, w24] [] h9 Q else AM 104 [.int (nI i), .int (nI j), .int (nI k)] h9 (t_kl (fun a10 h10 => AX 37 114 609 [.ref 33, .ref 0, .ref 14, .ref 15, .ref 16, .int x5, .int (nI n), .int x7, .long ((y ^^^ a10)), .float 0, .int 0, .int 0, .int (nI D), .int (nI t), .int x14, .int x15, .int (nI i), .int (nI j), .int (nI k), .int a8, w20, w21, w22, w23, w24] [] h10 Q) Q)) else Q (.inl (some (.int 0))) h9)) Q))) Q)) Q) := by
  have h7 := l.2.1.2.2
  have L' := LV_flipg l.2.1 hi hj hk ij jk ik
  rw [m_bit (by omega) (by omega) (by omega) ij jk ik]
  simp only [t_kl, m_holds L', t_ki, t_ob_0', true_and, k71 l.1 hi hj hk ij jk ik]
  cases hq : qhold (setC χ i j k (-χ i j k)) n with
  | true =>
    simp only [if_true, zb_t, show ¬ ((1 : Int32) = 0) by decide, if_false]
    rw [m_bit (by omega) (by omega) (by omega) ij jk ik]
    simp only [t_kl, s_114_609]
    exact tl_end (Q := Q) (LI_mono (LI_flip l hi hj hk ij jk ik hq) (show C ≤ C + 1 by omega)) ht (fun g x14 x15 x16 x17 x18 w19 w20 lg => hN g _ D _ false false x14 x15 x16 x17 x18 w19 w20 _ _ _ _ lg)
  | false =>
    simp only [Bool.false_eq_true, if_false, zb_f, if_true, s_114_609]
    exact tl_end (Q := Q) (LI_mono (LI_unflip l hi hj hk) (show C ≤ C + 1 by omega)) ht (fun g x14 x15 x16 x17 x18 w19 w20 lg => hN g _ D _ has mesh x14 x15 x16 x17 x18 w19 w20 _ _ _ _ lg)
