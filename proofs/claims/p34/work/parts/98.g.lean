/-! ===== the law's turns: all kinds, the loop ===== -/
theorem tn_612 {y : Int64} {n D : Nat} {χ : tC} {has mesh : Bool} {Ls C : Nat} {h : tH} (l : LI h y n D χ has mesh Ls C) {Q : tO → tH → Prop} {x5 x7 : Int32} {t : Nat} (ht : t < 30) (hN : ∀ (g : tH) (y : Int64) (D : Nat) (χ : tC) (has mesh : Bool) (x14 x15 x16 x17 x18 : Int32) (w19 w20 w21 w22 w23 w24 : Value), LI g y n D χ has mesh Ls (C + 2) → AX 37 114 455 [.ref 33, .ref 0, .ref 14, .ref 15, .ref 16, .int x5, .int (nI n), .int x7, .long y, .float 0, .int (zb has), .int (zb mesh), .int (nI D), .int (nI (t + 1)), .int x14, .int x15, .int x16, .int x17, .int x18, w19, w20, w21, w22, w23, w24] [] g Q) {i j κ : Nat} (hi : i < n) (hj : j < n) (ij : i ≠ j) (hκ : κ < 8) {x14 x18 : Int32} {w19 w20 w21 w22 w23 w24 : Value} : AX 37 114 612 [.ref 33, .ref 0, .ref 14, .ref 15, .ref 16, .int x5, .int (nI n), .int x7, .long y, .float 0, .int (zb has), .int (zb mesh), .int (nI D), .int (nI t), .int x14, .int (nI κ), .int (nI i), .int (nI j), .int x18, w19, w20, w21, w22, w23, w24] [] h Q := by
  have l0 := l
  obtain ⟨G, L, f, a3, a4, a5, a6, a7, a8, a9⟩ := l
  have h7 := L.2.2
  have hD0 : 0 < D := by have := G.2.1; omega
  have hD6 := G.2.2.1
  have e3 : (nI κ = (3 : Int32)) = (κ = 3) := nI_eq' (b := 3) (by omega) (by omega)
  have e4 : (nI κ = (4 : Int32)) = (κ = 4) := nI_eq' (b := 4) (by omega) (by omega)
  have e7 : ((7 : Int32) ≤ nI κ) = (7 ≤ κ) := nI_le' (a := 7) (by omega) (by omega)
  have e6 : ((6 : Int32) ≤ nI D) = (6 ≤ D) := nI_le' (a := 6) (by omega) (by omega)
  rw [s_114_612]
  simp only [e3, e4, e7]
  by_cases c3 : κ = 3
  · subst c3
    rw [if_neg (by decide)]
    simp only [t_ob_0', true_and]
    rw [k72 G hi hj ij]
    exact tn_ren l0 ht hN hi hj ij
  · rw [if_pos c3]
    by_cases c4 : κ = 4
    · subst c4
      rw [if_neg (by decide)]
      exact tn_tri l0 ht hN
    · rw [if_pos c4]
      by_cases c7 : 7 ≤ κ
      · rw [if_pos c7]
        obtain ⟨r, r2, hr⟩ := m_low (x := x14 >>> ((16 : Int32) &&& 31)) (m := 2) (by decide) (by decide)
        have hr' : ∀ (h : tH) (Q : tO → tH → Prop), AM 100 [.int (x14 >>> ((16 : Int32) &&& 31)), .int 2] h Q = Q (RI (nI r)) h := hr
        rw [hr']
        simp only [t_ki]
        have hb : (if ¬ nI r = (1 : Int32) then (0 : Int32) else 1) = zb (decide (r = 1)) := by
          rcases (show r = 0 ∨ r = 1 by omega) with e | e <;> subst e <;> rfl
        rw [hb]
        by_cases d6 : D < 6
        · have p := p103 (show rn 70 [.ref 0, .int 0, .int (zb (decide (r = 1)))] h (RI (nI D)) (zC h D n (decide (r = 1))) from c70 (d := 0) G.1 d6 hD0 (GH_tn G))
          rw [p]
          simp only [t_ki, e6]
          rw [if_neg (show ¬ 6 ≤ D by omega), if_pos rfl, if_neg (show ¬ 6 ≤ D by omega)]
          exact tn_copy l0 ht hN d6 _
        · have : D = 6 := by omega
          subst this
          have p := p103x (show rn 70 [.ref 0, .int 0, .int (zb (decide (r = 1)))] h (.inr 1) (t_X h) from c70y (d := 0) G.1 (by decide))
          rw [p]
          simp only [t_ki, e6]
          rw [if_pos (Nat.le_refl 6), if_pos rfl, if_pos (Nat.le_refl 6)]
          exact tl_end (Q := Q) (LI_X l0) ht (fun g x14 x15 x16 x17 x18 w19 w20 lg => hN g _ 6 _ has mesh x14 x15 x16 x17 x18 w19 w20 _ _ _ _ lg)
      · rw [if_neg c7]
        exact tn_fe l0 ht hN hi hj ij
theorem tn_j {n i r : Nat} (hi : i < n) (hr : r < n - 1) (h7 : n ≤ 7) : ((nI i + 1) + nI r) - ((nI i + 1) + nI r) / nI n * nI n = nI ((i + 1 + r) % n) ∧ (i + 1 + r) % n < n ∧ i ≠ (i + 1 + r) % n := by
  refine ⟨?_, Nat.mod_lt _ (by omega), ?_⟩
  · rw [nI_1, nI_add]
    exact (nI_md (by omega) (by omega) (by omega)).1
  · by_cases c : i + 1 + r < n
    · rw [Nat.mod_eq_of_lt c]; omega
    · rw [Nat.mod_eq_sub_mod (by omega), Nat.mod_eq_of_lt (by omega)]; omega
/-- a turn -/
theorem tn_one {y : Int64} {n D : Nat} {χ : tC} {has mesh : Bool} {Ls C : Nat} {h : tH} (l : LI h y n D χ has mesh Ls C) {Q : tO → tH → Prop} {x5 x7 : Int32} {t : Nat} (ht : t < 30) (hN : ∀ (g : tH) (y : Int64) (D : Nat) (χ : tC) (has mesh : Bool) (x14 x15 x16 x17 x18 : Int32) (w19 w20 w21 w22 w23 w24 : Value), LI g y n D χ has mesh Ls (C + 2) → AX 37 114 455 [.ref 33, .ref 0, .ref 14, .ref 15, .ref 16, .int x5, .int (nI n), .int x7, .long y, .float 0, .int (zb has), .int (zb mesh), .int (nI D), .int (nI (t + 1)), .int x14, .int x15, .int x16, .int x17, .int x18, w19, w20, w21, w22, w23, w24] [] g Q) {w14 w15 w16 w17 w18 w19 w20 w21 w22 w23 w24 : Value} : AX 37 114 455 [.ref 33, .ref 0, .ref 14, .ref 15, .ref 16, .int x5, .int (nI n), .int x7, .long y, .float 0, .int (zb has), .int (zb mesh), .int (nI D), .int (nI t), w14, w15, w16, w17, w18, w19, w20, w21, w22, w23, w24] [] h Q := by
  have l0 := l
  obtain ⟨G, L, f, a3, a4, a5, a6, a7, a8, a9⟩ := l
  have h7 := L.2.2
  have n3 := G.2.2.2.2.2.1
  have e30 : ((30 : Int32) ≤ nI t) = (30 ≤ t) := nI_le' (a := 30) (by omega) (by omega)
  rw [s_114_455]
  simp only [e30]
  rw [if_neg (by omega), show (30 : Int32) + nI t = nI (30 + t) from nI_add 30 t]
  obtain ⟨v, hv⟩ := m_cel a8 (k := 30 + t) (by omega)
  rw [hv]
  simp only [t_ki]
  obtain ⟨κ, κ8, hκ⟩ := m_low (x := v) (m := 8) (by decide) (by decide)
  have hκ' : ∀ (h : tH) (Q : tO → tH → Prop), AM 100 [.int v, .int 8] h Q = Q (RI (nI κ)) h := hκ
  obtain ⟨i, hi, ri⟩ := m_low (x := v >>> ((4 : Int32) &&& 31)) (m := n) (by omega) (by omega)
  obtain ⟨r, hr, rr⟩ := m_low (x := v >>> ((8 : Int32) &&& 31)) (m := n - 1) (by omega) (by omega)
  obtain ⟨k, hk, rk⟩ := m_low (x := v >>> ((12 : Int32) &&& 31)) (m := n) (by omega) (by omega)
  have en : nI n - 1 = nI (n - 1) := nI_sb (a := n) (b := 1) (by omega)
  have n0 : ¬ nI n = (0 : Int32) := by rw [show (0 : Int32) = nI 0 from rfl, nI_eq' (by omega) (by omega)]; omega
  obtain ⟨ej, hj, ij⟩ := tn_j hi hr h7
  obtain ⟨j, rfl⟩ : ∃ j, j = (i + 1 + r) % n := ⟨_, rfl⟩
  simp only [hκ', t_ki, ri, en, rr, rk, n0, not_false_eq_true, true_and, ej]
  have e3 : ((3 : Int32) ≤ nI κ) = (3 ≤ κ) := nI_le' (a := 3) (by omega) (by omega)
  simp (disch := omega) only [e3, nI_eq']
  by_cases c1 : 3 ≤ κ
  · rw [if_pos c1]
    exact tn_612 l0 ht hN hi hj ij κ8
  rw [if_neg c1]
  by_cases c2 : k = i
  · rw [if_pos c2]
    exact tn_612 l0 ht hN hi hj ij κ8
  rw [if_neg c2]
  by_cases c3 : k = (i + 1 + r) % n
  · rw [if_pos c3]
    exact tn_612 l0 ht hN hi hj ij κ8
  rw [if_neg c3]
  exact tn_flip l0 ht hN hi hj hk ij (fun z => c3 z.symm) (fun z => c2 z.symm)
/-- all turns -/
theorem tn_all {n : Nat} {Ls : Nat} {Q : tO → tH → Prop} {x5 x7 : Int32} : ∀ m t {y : Int64} {D : Nat} {χ : tC} {has mesh : Bool} {C : Nat} {h : tH} {w14 w15 w16 w17 w18 w19 w20 w21 w22 w23 w24 : Value} (l : LI h y n D χ has mesh Ls C) (hQ : ∀ g : tH, g.2.2.2 ≤ C + 2 * m + 1 → Q (RI 1) g), t + m = 30 → AX 37 114 455 [.ref 33, .ref 0, .ref 14, .ref 15, .ref 16, .int x5, .int (nI n), .int x7, .long y, .float 0, .int (zb has), .int (zb mesh), .int (nI D), .int (nI t), w14, w15, w16, w17, w18, w19, w20, w21, w22, w23, w24] [] h Q := by
  intro m
  induction m with
  | zero =>
    intro t y D χ has mesh C h w14 w15 w16 w17 w18 w19 w20 w21 w22 w23 w24 l hQ ht
    have : t = 30 := by omega
    subst this
    obtain ⟨G, L, f, a3, a4, a5, a6, a7, a8, a9⟩ := l
    rw [s_114_455, if_pos (by decide)]
    refine m_shapes L G f fun g v s => ?_
    simp only [t_kd]
    refine ⟨Or.inr trivial, hQ _ ?_⟩
    show g.2.2.2 ≤ _
    rw [s.2.2.1]
    show h.2.2.2 + 1 ≤ _
    omega
  | succ m ih =>
    intro t y D χ has mesh C h w14 w15 w16 w17 w18 w19 w20 w21 w22 w23 w24 l hQ ht
    exact tn_one l (by omega) fun g y D χ has mesh x14 x15 x16 x17 x18 w19 w20 w21 w22 w23 w24 lg => ih (t + 1) lg (fun g hg => hQ g (by omega)) (by omega)
