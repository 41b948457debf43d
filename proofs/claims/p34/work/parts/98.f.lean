/-! ===== the law's turns: triangulate, all kinds, the loop ===== -/
def WT (h : tH) (T : Int32) (g : tH) : Prop := (∀ i j, i < 7 → j < 7 → g.1 16 (7 * i + j) = zb (!decide (i = j) && bt T (sx i j))) ∧ (∀ a b, a ≠ 16 → g.1 a b = h.1 a b) ∧ g.2 = h.2
def PB (n a b : Nat) (T : Int32) : Prop := ∀ q, bt T q = true → ∃ k l, k < l ∧ l < n ∧ (k < a ∨ (k = a ∧ l < b)) ∧ q = sx k l
theorem PB_no {n a b : Nat} {T : Int32} (p : PB n a b T) (h7 : n ≤ 7) (ab : a < b) (hb : b < n) : bt T (sx a b) = false := by
  cases e : bt T (sx a b) with
  | false => rfl
  | true =>
    obtain ⟨k, l, kl, ln, c, e2⟩ := p _ e
    have := sx_un (a := a) (b := b) (c := k) (d := l) (by omega) (by omega) (by omega) (by omega) (by omega) (by omega) e2
    omega
theorem PB_step {n a b : Nat} {T : Int32} {f : Bool} (p : PB n a b T) (h7 : n ≤ 7) (ab : a < b) (hb : b < n) : PB n a (b + 1) (if f = true then T ||| one (sx a b) else T) := by
  have hs := sx_lt (i := a) (j := b) (by omega) (by omega) (by omega)
  intro q hq
  have old : bt T q = true → ∃ k l, k < l ∧ l < n ∧ (k < a ∨ (k = a ∧ l < b + 1)) ∧ q = sx k l := fun z => by
    obtain ⟨k, l, kl, ln, c, e2⟩ := p q z
    exact ⟨k, l, kl, ln, by omega, e2⟩
  split at hq
  · rw [b_or, bt_one (by omega)] at hq
    simp only [Bool.or_eq_true, decide_eq_true_eq] at hq
    rcases hq with hq | hq
    · exact old hq
    · exact ⟨a, b, ab, hb, by omega, hq⟩
  · exact old hq
theorem WT_step {h g : tH} {n a b : Nat} {T : Int32} {f : Bool} (w : WT h T g) (h7 : n ≤ 7) (ab : a < b) (hb : b < n) (no : bt T (sx a b) = false) : WT h (if f = true then T ||| one (sx a b) else T) (t_I (t_I g 16 (7 * a + b) (nI (bn f))) 16 (7 * b + a) (nI (bn f))) := by
  have hs := sx_lt (i := a) (j := b) (by omega) (by omega) (by omega)
  refine ⟨fun i j hi hj => ?_, fun u v hu => by rw [t_I_o hu, t_I_o hu]; exact w.2.1 u v hu, w.2.2⟩
  have eo := w.1 i j hi hj
  have ef : ∀ q, bt (if f = true then T ||| one (sx a b) else T) q = (bt T q || (f && decide (q = sx a b))) := fun q => by
    cases f with
    | false => simp
    | true => rw [if_pos rfl, b_or, bt_one (by omega), Bool.true_and]
  rw [t_I_at, t_I_at, ef]
  by_cases c1 : i = b ∧ j = a
  · rw [if_pos ⟨rfl, by omega⟩, c1.1, c1.2, sx_c b a, no, decide_eq_true rfl, decide_eq_false (show ¬ b = a by omega)]
    cases f <;> rfl
  · rw [if_neg (by omega)]
    by_cases c2 : i = a ∧ j = b
    · rw [if_pos ⟨rfl, by omega⟩, c2.1, c2.2, no, decide_eq_true rfl, decide_eq_false (show ¬ a = b by omega)]
      cases f <;> rfl
    · rw [if_neg (by omega), eo]
      by_cases ij : i = j
      · rw [decide_eq_true ij]; rfl
      · have ne : ¬ sx i j = sx a b := fun z => by
          have := sx_un (a := i) (b := j) (c := a) (d := b) hi hj (by omega) (by omega) ij (by omega) z
          omega
        rw [decide_eq_false ne, Bool.and_false, Bool.or_false]
theorem tt_z {y : Int64} {n D : Nat} {χ : tC} {has mesh : Bool} {Ls C : Nat} {h : tH} (l : LI h y n D χ has mesh Ls C) {Q : tO → tH → Prop} {x5 x7 : Int32} {t : Nat} (ht : t < 30) {x14 x15 x16 x17 x18 x19 : Int32} {w21 w22 w23 w24 : Value} (hC : ∀ g, WT h 0 g → AX 37 114 800 [.ref 33, .ref 0, .ref 14, .ref 15, .ref 16, .int x5, .int (nI n), .int x7, .long y, .float 0, .int (zb has), .int (zb mesh), .int (nI D), .int (nI t), .int x14, .int x15, .int x16, .int x17, .int x18, .int x19, .int 0, w21, w22, w23, w24] [] g Q) : ∀ m k g, k + m = 49 → (∀ c, c < k → g.1 16 c = 0) → (∀ a b, a ≠ 16 → g.1 a b = h.1 a b) → g.2 = h.2 → AX 37 114 778 [.ref 33, .ref 0, .ref 14, .ref 15, .ref 16, .int x5, .int (nI n), .int x7, .long y, .float 0, .int (zb has), .int (zb mesh), .int (nI D), .int (nI t), .int x14, .int x15, .int x16, .int x17, .int x18, .int x19, .int (nI k), w21, w22, w23, w24] [] g Q := by
  have e49 : ∀ k, k < 100 → ((49 : Int32) ≤ nI k) = (49 ≤ k) := fun k hk => nI_le' (a := 49) (by omega) (by omega)
  intro m
  induction m with
  | zero =>
    intro k g hk h1 h2 h3
    rw [s_114_778, if_pos (by rw [e49 k (by omega)]; omega)]
    refine hC g ⟨fun i j hi hj => ?_, h2, h3⟩
    rw [h1 _ (by omega), b_0, Bool.and_false]
    rfl
  | succ m ih =>
    intro k g hk h1 h2 h3
    rw [s_114_778, if_neg (by rw [e49 k (by omega)]; omega)]
    refine ⟨by decide, of_eq_true (t_in_ai t_ar_16 (by omega)), ?_⟩
    rw [nC (by omega), nI_1]
    refine ih (k + 1) _ (by omega) (fun c hc => ?_) (fun a b ha => by rw [t_I_o ha]; exact h2 a b ha) h3
    rw [t_I_at]
    by_cases e : c = k
    · rw [if_pos ⟨rfl, e⟩]
    · rw [if_neg fun z => e z.2]; exact h1 c (by omega)
def frL (χ : tC) (T : Int32) (a b c : Nat) : Nat → Bool := fun l => !(bt T (sx c l) && qcross χ a b c l)
theorem tt_d {y : Int64} {n D : Nat} {χ : tC} {has mesh : Bool} {Ls C : Nat} {h : tH} (l : LI h y n D χ has mesh Ls C) {Q : tO → tH → Prop} {x5 x7 : Int32} {t : Nat} (ht : t < 30) {x14 x15 x16 x17 x18 x19 : Int32} {T : Int32} {g : tH} (w : WT h T g) {a b c : Nat} (ha : a < n) (hb : b < n) (hc : c < n) : ∀ m d f, c < d → d + m = n → AX 37 114 826 [.ref 33, .ref 0, .ref 14, .ref 15, .ref 16, .int x5, .int (nI n), .int x7, .long y, .float 0, .int (zb has), .int (zb mesh), .int (nI D), .int (nI t), .int x14, .int x15, .int x16, .int x17, .int x18, .int x19, .int (nI a), .int (nI b), .int (zb (f && aB (frL χ T a b c) d m)), .int (nI (c + 1)), .int (nI n)] [] g Q → AX 37 114 839 [.ref 33, .ref 0, .ref 14, .ref 15, .ref 16, .int x5, .int (nI n), .int x7, .long y, .float 0, .int (zb has), .int (zb mesh), .int (nI D), .int (nI t), .int x14, .int x15, .int x16, .int x17, .int x18, .int x19, .int (nI a), .int (nI b), .int (zb f), .int (nI c), .int (nI d)] [] g Q := by
  have L := l.2.1
  have h7 := L.2.2
  intro m
  induction m with
  | zero =>
    intro d f cd hd hC
    have : d = n := by omega
    subst this
    have e : (f && aB (frL χ T a b c) d 0) = f := by simp [aB]
    rw [e] at hC
    rw [s_114_839, if_pos (Int32.le_refl _), nI_1]
    exact hC
  | succ m ih =>
    intro d f cd hd hC
    have hdn : d < n := by omega
    have e : (f && aB (frL χ T a b c) d (m + 1)) = ((f && frL χ T a b c d) && aB (frL χ T a b c) (d + 1) m) := by rw [Bool.and_assoc]; rfl
    rw [e] at hC
    have nx := ih (d + 1) (f && frL χ T a b c d) (by omega) (by omega) hC
    have hr := w.1 c d (by omega) (by omega)
    rw [decide_eq_false (show ¬ c = d by omega)] at hr
    rw [s_114_839, if_neg (by rw [nI_le' (by omega) (by omega)]; omega), n77, EV_in (by omega) (by omega), nC (by omega), hr, true_and]
    simp only [zb_1, Bool.not_false, Bool.true_and]
    cases hbit : bt T (sx c d) with
    | false =>
      rw [if_pos (by decide), s_114_880, nI_1]
      rw [show (f && frL χ T a b c d) = f by unfold frL; rw [hbit]; simp] at nx
      exact nx
    | true =>
      rw [if_neg (by decide), m_crs L ha hb hc hdn]
      simp only [t_ki, zb_0, s_114_880, nI_1]
      have e5 : (if qcross χ a b c d = false then zb f else 0) = zb (f && frL χ T a b c d) := by
        unfold frL
        rw [hbit]
        cases qcross χ a b c d <;> cases f <;> rfl
      rw [e5]
      exact nx
theorem tt_c {y : Int64} {n D : Nat} {χ : tC} {has mesh : Bool} {Ls C : Nat} {h : tH} (l : LI h y n D χ has mesh Ls C) {Q : tO → tH → Prop} {x5 x7 : Int32} {t : Nat} (ht : t < 30) {x14 x15 x16 x17 x18 x19 : Int32} {T : Int32} {g : tH} (w : WT h T g) {a b : Nat} (ha : a < n) (hb : b < n) : ∀ m c f w24, c + m = n → (∀ w24, AX 37 114 826 [.ref 33, .ref 0, .ref 14, .ref 15, .ref 16, .int x5, .int (nI n), .int x7, .long y, .float 0, .int (zb has), .int (zb mesh), .int (nI D), .int (nI t), .int x14, .int x15, .int x16, .int x17, .int x18, .int x19, .int (nI a), .int (nI b), .int (zb (f && aB (fun k => aB (frL χ T a b k) (k + 1) (n - (k + 1))) c m)), .int (nI n), w24] [] g Q) → AX 37 114 826 [.ref 33, .ref 0, .ref 14, .ref 15, .ref 16, .int x5, .int (nI n), .int x7, .long y, .float 0, .int (zb has), .int (zb mesh), .int (nI D), .int (nI t), .int x14, .int x15, .int x16, .int x17, .int x18, .int x19, .int (nI a), .int (nI b), .int (zb f), .int (nI c), w24] [] g Q := by
  have h7 := l.2.1.2.2
  intro m
  induction m with
  | zero =>
    intro c f w24 hc hC
    have : c = n := by omega
    subst this
    have e : (f && aB (fun k => aB (frL χ T a b k) (k + 1) (c - (k + 1))) c 0) = f := by simp [aB]
    have := hC w24
    rw [e] at this
    exact this
  | succ m ih =>
    intro c f w24 hc hC
    have e : (f && aB (fun k => aB (frL χ T a b k) (k + 1) (n - (k + 1))) c (m + 1)) = ((f && aB (frL χ T a b c) (c + 1) (n - (c + 1))) && aB (fun k => aB (frL χ T a b k) (k + 1) (n - (k + 1))) (c + 1) m) := by rw [Bool.and_assoc]; rfl
    rw [s_114_826, if_neg (by rw [nI_le' (by omega) (by omega)]; omega), nI_1]
    refine tt_d l ht w ha hb (by omega) (n - (c + 1)) (c + 1) f (by omega) (by omega) ?_
    refine ih (c + 1) _ _ (by omega) fun w24 => ?_
    rw [← e]
    exact hC w24
theorem tt_b {y : Int64} {n D : Nat} {χ : tC} {has mesh : Bool} {Ls C : Nat} {h : tH} (l : LI h y n D χ has mesh Ls C) {Q : tO → tH → Prop} {x5 x7 : Int32} {t : Nat} (ht : t < 30) {x14 x15 x16 x17 x18 : Int32} {a : Nat} (ha : a < n) : ∀ m b T c g w22 w23 w24, a < b → b + m = n → WT h T g → PB n a b T → (∀ g w22 w23 w24, WT h (fd (stp2 χ n a) b m (T, c)).1 g → PB n a n (fd (stp2 χ n a) b m (T, c)).1 → AX 37 114 800 [.ref 33, .ref 0, .ref 14, .ref 15, .ref 16, .int x5, .int (nI n), .int x7, .long y, .float 0, .int (zb has), .int (zb mesh), .int (nI D), .int (nI t), .int x14, .int x15, .int x16, .int x17, .int x18, .int (nI ((fd (stp2 χ n a) b m (T, c)).2)), .int (nI (a + 1)), .int (nI n), w22, w23, w24] [] g Q) → AX 37 114 813 [.ref 33, .ref 0, .ref 14, .ref 15, .ref 16, .int x5, .int (nI n), .int x7, .long y, .float 0, .int (zb has), .int (zb mesh), .int (nI D), .int (nI t), .int x14, .int x15, .int x16, .int x17, .int x18, .int (nI c), .int (nI a), .int (nI b), w22, w23, w24] [] g Q := by
  have h7 := l.2.1.2.2
  intro m
  induction m with
  | zero =>
    intro b T c g w22 w23 w24 ab hb w p hC
    have : b = n := by omega
    subst this
    rw [s_114_813, if_pos (Int32.le_refl _), nI_1]
    exact hC g w22 w23 w24 w p
  | succ m ih =>
    intro b T c g w22 w23 w24 ab hb w p hC
    have hbn : b < n := by omega
    have no := PB_no p h7 ab hbn
    rw [s_114_813, if_neg (by rw [nI_le' (by omega) (by omega)]; omega), show (0 : Int32) = nI 0 from rfl, show (1 : Int32) = zb true from rfl]
    refine tt_c l ht w ha hbn n 0 true w24 (by omega) fun w24 => ?_
    have e : (true && aB (fun k => aB (frL χ T a b k) (k + 1) (n - (k + 1))) 0 n) = fre χ n T a b := by rw [Bool.true_and]; rfl
    have es : stp2 χ n a b (T, c) = ((if fre χ n T a b = true then T ||| one (sx a b) else T), c + bn (fre χ n T a b)) := by
      unfold stp2
      cases fre χ n T a b <;> rfl
    rw [e, s_114_826, if_pos (Int32.le_refl _)]
    simp only [bnz, n77, nI_add, nI_1, nC (show 7 * a + b < 10000 by omega), nC (show 7 * b + a < 10000 by omega)]
    refine ⟨by decide, of_eq_true (EV_in (by omega) (by omega)), by decide, of_eq_true (EV_in (by omega) (by omega)), ?_⟩
    refine ih (b + 1) _ _ _ _ _ _ (by omega) (by omega) (WT_step w h7 ab hbn no) (PB_step p h7 ab hbn) fun g w22 w23 w24 w p => ?_
    have ef : fd (stp2 χ n a) b (m + 1) (T, c) = fd (stp2 χ n a) (b + 1) m ((if fre χ n T a b = true then T ||| one (sx a b) else T), c + bn (fre χ n T a b)) := by rw [fd_s, es]
    rw [ef] at hC
    exact hC g w22 w23 w24 w p
theorem tt_a {y : Int64} {n D : Nat} {χ : tC} {has mesh : Bool} {Ls C : Nat} {h : tH} (l : LI h y n D χ has mesh Ls C) {Q : tO → tH → Prop} {x5 x7 : Int32} {t : Nat} (ht : t < 30) {x14 x15 x16 x17 x18 : Int32} : ∀ m a T c g w21 w22 w23 w24, a + m = n → WT h T g → PB n a (a + 1) T → (∀ g w21 w22 w23 w24, WT h (fd (fun i s => fd (stp2 χ n i) (i + 1) (n - (i + 1)) s) a m (T, c)).1 g → AX 37 114 800 [.ref 33, .ref 0, .ref 14, .ref 15, .ref 16, .int x5, .int (nI n), .int x7, .long y, .float 0, .int (zb has), .int (zb mesh), .int (nI D), .int (nI t), .int x14, .int x15, .int x16, .int x17, .int x18, .int (nI ((fd (fun i s => fd (stp2 χ n i) (i + 1) (n - (i + 1)) s) a m (T, c)).2)), .int (nI n), w21, w22, w23, w24] [] g Q) → AX 37 114 800 [.ref 33, .ref 0, .ref 14, .ref 15, .ref 16, .int x5, .int (nI n), .int x7, .long y, .float 0, .int (zb has), .int (zb mesh), .int (nI D), .int (nI t), .int x14, .int x15, .int x16, .int x17, .int x18, .int (nI c), .int (nI a), w21, w22, w23, w24] [] g Q := by
  have h7 := l.2.1.2.2
  intro m
  induction m with
  | zero =>
    intro a T c g w21 w22 w23 w24 ha w p hC
    have : a = n := by omega
    subst this
    exact hC g w21 w22 w23 w24 w
  | succ m ih =>
    intro a T c g w21 w22 w23 w24 ha w p hC
    rw [s_114_800, if_neg (by rw [nI_le' (by omega) (by omega)]; omega), nI_1]
    refine tt_b l ht (by omega) (n - (a + 1)) (a + 1) T c g w22 w23 w24 (by omega) (by omega) w p fun g w22 w23 w24 w p => ?_
    refine ih (a + 1) _ _ g _ _ _ _ (by omega) w (fun q hq => ?_) fun g w21 w22 w23 w24 w => ?_
    · obtain ⟨k, o, ko, on, c, e⟩ := p q hq
      exact ⟨k, o, ko, on, by omega, e⟩
    · exact hC g w21 w22 w23 w24 w
def zT (g : tH) (χ : tC) (n : Nat) : tH := t_I (t_I (hR g χ n) 40 4 (tri χ n)) 40 5 1
theorem zT_at (g : tH) (χ : tC) (n a b : Nat) : (zT g χ n).1 a b = if a = 40 ∧ b = 5 then 1 else if a = 40 ∧ b = 4 then tri χ n else (hR g χ n).1 a b := rfl
theorem LI_tri {h g : tH} {y : Int64} {n D : Nat} {χ : tC} {has mesh : Bool} {Ls C : Nat} (l : LI h y n D χ has mesh Ls C) (w : WT h (tri χ n) g) : LI (zT g χ n) y n D χ has true Ls C := by
  obtain ⟨⟨g1, g2, g3, g4, g5, g6, g7, g8, g9⟩, L, f, a3, a4, a5, a6, a7, a8, a9⟩ := l
  have rd : ∀ u v, u ≠ 16 → u ≠ 9 → u ≠ 10 → ¬ (u = 40 ∧ (v = 4 ∨ v = 5)) → (zT g χ n).1 u v = h.1 u v := fun u v h1 h2 h3 h4 => by rw [zT_at, if_neg (by omega), if_neg (by omega), hR_o ⟨h2, h3⟩, w.2.1 u v h1]
  have r16 : ∀ v, (zT g χ n).1 16 v = g.1 16 v := fun v => by rw [zT_at, if_neg (by omega), if_neg (by omega), hR_o (by decide)]
  have ti := tri_inv g8 g7
  refine ⟨⟨by rw [rd _ _ (by decide) (by decide) (by decide) (by decide)]; exact g1, g2, g3, by rw [rd _ _ (by decide) (by decide) (by decide) (by decide)]; exact g4, ?_, g6, g7, g8, g9⟩, L, by rw [rd _ _ (by decide) (by decide) (by decide) (by decide)]; exact f, by rw [rd _ _ (by decide) (by decide) (by decide) (by decide)]; exact a3, fun hb p hp => ?_, by rw [zT_at, if_pos ⟨rfl, rfl⟩]; rfl, fun _ => ?_, fun d h1 h2 => ?_, ⟨by rw [rd _ _ (by decide) (by decide) (by decide) (by decide)]; exact a8.1, a8.2⟩, ?_⟩
  · rw [← g5]
    exact tX_o fun c _ => rd _ _ (by omega) (by omega) (by omega) (by omega)
  · rw [rd _ _ (by omega) (by omega) (by omega) (by omega), rd _ _ (by omega) (by omega) (by omega) (by omega), rd _ _ (by omega) (by omega) (by omega) (by omega), rd _ _ (by omega) (by omega) (by omega) (by omega)]
    exact a4 hb p hp
  · have e4 : (zT g χ n).1 40 4 = tri χ n := by rw [zT_at, if_neg (by decide), if_pos ⟨rfl, rfl⟩]
    rw [e4]
    exact ⟨fun i j hi hj => by rw [r16]; exact w.1 i j (by omega) (by omega), ti.2.1⟩
  · rw [rd _ _ (by omega) (by omega) (by omega) (by omega), rd _ _ (by omega) (by omega) (by omega) (by omega)]
    exact a7 d h1 h2
  · show (hR g χ n).2.2.2 ≤ C
    rw [hR_2, w.2.2]
    exact a9
theorem tn_tri {y : Int64} {n D : Nat} {χ : tC} {has mesh : Bool} {Ls C : Nat} {h : tH} (l : LI h y n D χ has mesh Ls C) {Q : tO → tH → Prop} {x5 x7 : Int32} {t : Nat} (ht : t < 30) (hN : ∀ (g : tH) (y : Int64) (D : Nat) (χ : tC) (has mesh : Bool) (x14 x15 x16 x17 x18 : Int32) (w19 w20 w21 w22 w23 w24 : Value), LI g y n D χ has mesh Ls (C + 2) → AX 37 114 455 [.ref 33, .ref 0, .ref 14, .ref 15, .ref 16, .int x5, .int (nI n), .int x7, .long y, .float 0, .int (zb has), .int (zb mesh), .int (nI D), .int (nI (t + 1)), .int x14, .int x15, .int x16, .int x17, .int x18, w19, w20, w21, w22, w23, w24] [] g Q) {x14 x15 x16 x17 x18 : Int32} {w21 w22 w23 w24 : Value} : AX 37 114 778 [.ref 33, .ref 0, .ref 14, .ref 15, .ref 16, .int x5, .int (nI n), .int x7, .long y, .float 0, .int (zb has), .int (zb mesh), .int (nI D), .int (nI t), .int x14, .int x15, .int x16, .int x17, .int x18, .int 0, .int 0, w21, w22, w23, w24] [] h Q := by
  have L := l.2.1
  have h7 := L.2.2
  have ti := tri_inv (χ := χ) L.2.1 h7
  refine tt_z l ht (fun g w => ?_) 49 0 h (by omega) (fun c hc => by omega) (fun _ _ _ => rfl) rfl
  rw [show (0 : Int32) = nI 0 from rfl]
  refine tt_a l ht n 0 0 0 g _ _ _ _ (by omega) w (fun q hq => by rw [b_0] at hq; cases hq) fun g w21 w22 w23 w24 w => ?_
  have e1 : (fd (fun i s => fd (stp2 χ n i) (i + 1) (n - (i + 1)) s) 0 n (0, 0)).1 = tri χ n := stp2_1 χ n
  have e2 : (fd (fun i s => fd (stp2 χ n i) (i + 1) (n - (i + 1)) s) 0 n (0, 0)).2 = pc (tri χ n) := ti.2.2.symm
  rw [e1] at w
  have G : GH g D n χ := by
    obtain ⟨g1, g2, g3, g4, g5, g6⟩ := l.1
    exact ⟨by rw [w.2.1 _ _ (by decide)]; exact g1, g2, g3, by rw [w.2.1 _ _ (by decide)]; exact g4, (tX_o fun c _ => w.2.1 _ _ (by decide)).trans g5, g6⟩
  have hχ : tX g (70 + 0) = χ := G.2.2.2.2.1
  have c := c95 (d := 0) G.1 G.2.2.1 (by have := G.2.1; omega) (GH_tn G) (by rw [hχ]; exact L.2.1)
  rw [hχ] at c
  rw [e2, s_114_800, if_pos (Int32.le_refl _)]
  have c' : ∀ Q, AM 95 [.ref 0, .int 0] g Q = Q (RI (nI (pc (tri χ n)))) (zT g χ n) := c
  simp only [t_ob_0', true_and, c', t_ki, if_true]
  exact tl_end (Q := Q) (LI_mono (LI_tri l w) (show C ≤ C + 1 by omega)) ht (fun g x14 x15 x16 x17 x18 w19 w20 lg => hN g _ D _ has true x14 x15 x16 x17 x18 w19 w20 _ _ _ _ lg)
