/-! ===== the law's turns: copy, flipEdge ===== -/
def zC (h : tH) (D n : Nat) (b : Bool) : tH := t_I (hT (t_I h (70 + D) 1 (nI n)) (80 + D) (f3 (fun i j k => (if zb b = 0 then (1 : Int32) else -1) * tX h (70 + 0) i j k) n (h.1 (80 + D)))) 0 3 (nI (D + 1))
theorem zC_at (h : tH) (D n : Nat) (b : Bool) (u v : Nat) : (zC h D n b).1 u v = if u = 0 ∧ v = 3 then nI (D + 1) else if u = 80 + D then f3 (fun i j k => (if zb b = 0 then (1 : Int32) else -1) * tX h (70 + 0) i j k) n (h.1 (80 + D)) v else if u = 70 + D ∧ v = 1 then nI n else h.1 u v := rfl
theorem LI_X {h : tH} {y : Int64} {n D : Nat} {χ : tC} {has mesh : Bool} {Ls C : Nat} (l : LI h y n D χ has mesh Ls C) : LI (t_X h) y n D χ has mesh Ls (C + 1) := LI_of l (fun _ _ _ _ _ _ _ => rfl) rfl l.2.2.1 (by
  have := l.2.2.2.2.2.2.2.2.2
  show h.2.2.2 + 1 ≤ C + 1
  omega)
theorem LI_copy {h : tH} {y : Int64} {n D : Nat} {χ : tC} {has mesh : Bool} {Ls C : Nat} (l : LI h y n D χ has mesh Ls C) (hD : D < 6) (b : Bool) : LI (zC h D n b) y n (D + 1) χ has mesh Ls C := by
  obtain ⟨⟨g1, g2, g3, g4, g5, g6⟩, L, f, a3, a4, a5, a6, a7, a8, a9⟩ := l
  have rd : ∀ u v, ¬ (u = 0 ∧ v = 3) → u ≠ 80 + D → ¬ (u = 70 + D ∧ v = 1) → (zC h D n b).1 u v = h.1 u v := fun u v h1 h2 h3 => by rw [zC_at, if_neg h1, if_neg h2, if_neg h3]
  refine ⟨⟨by rw [zC_at, if_pos ⟨rfl, rfl⟩], by omega, by omega, by rw [rd _ _ (by omega) (by omega) (by omega)]; exact g4, ?_, g6⟩, L, by rw [rd _ _ (by omega) (by omega) (by omega)]; exact f, by rw [rd _ _ (by omega) (by omega) (by omega)]; exact a3, fun hb p hp => ?_, by rw [rd _ _ (by omega) (by omega) (by omega)]; exact a5, fun hb => ?_, fun d h1 h2 => ?_, ⟨by rw [rd _ _ (by omega) (by omega) (by omega)]; exact a8.1, a8.2⟩, a9⟩
  · rw [← g5]
    exact tX_o fun c _ => rd _ _ (by omega) (by omega) (by omega)
  · rw [rd _ _ (by omega) (by omega) (by omega), rd _ _ (by omega) (by omega) (by omega), rd _ _ (by omega) (by omega) (by omega), rd _ _ (by omega) (by omega) (by omega)]
    exact a4 hb p hp
  · rw [rd 40 4 (by omega) (by omega) (by omega)]
    exact ⟨fun i j hi hj => by rw [rd _ _ (by omega) (by omega) (by omega)]; exact (a6 hb).1 i j hi hj, (a6 hb).2⟩
  · rw [rd _ _ (by omega) (by omega) (by omega), rd _ _ (by omega) (by omega) (by omega)]
    exact a7 d (by omega) h2
theorem zC_X {h : tH} {D n : Nat} {χ : tC} {b : Bool} (hχ : tX h 70 = χ) (h7 : n ≤ 7) {i j k : Nat} (ij : i < j) (jk : j < k) (kn : k < n) : tX (zC h D n b) (70 + D) i j k = if b = true then -χ i j k else χ i j k := by
  rw [cut_Xr, show (zC h D n b).1 (70 + D + 10) = f3 (fun i j k => (if zb b = 0 then (1 : Int32) else -1) * tX h (70 + 0) i j k) n (h.1 (80 + D)) from funext fun v => by rw [zC_at, if_neg (by omega), if_pos (by omega)]]
  rw [cut_f3 h7, t3_val ij jk kn]
  show (if zb b = 0 then (1 : Int32) else -1) * tX h 70 i j k = _
  rw [hχ]
  cases b with
  | false => rw [if_pos (show zb false = (0 : Int32) from rfl), if_neg (by decide), Int32.one_mul]
  | true => rw [if_neg (by decide), if_pos rfl, Int32.neg_mul, Int32.one_mul]
theorem tn_copy {y : Int64} {n D : Nat} {χ : tC} {has mesh : Bool} {Ls C : Nat} {h : tH} (l : LI h y n D χ has mesh Ls C) {Q : tO → tH → Prop} {x5 x7 : Int32} {t : Nat} (ht : t < 30) (hN : ∀ (g : tH) (y : Int64) (D : Nat) (χ : tC) (has mesh : Bool) (x14 x15 x16 x17 x18 : Int32) (w19 w20 w21 w22 w23 w24 : Value), LI g y n D χ has mesh Ls (C + 2) → AX 37 114 455 [.ref 33, .ref 0, .ref 14, .ref 15, .ref 16, .int x5, .int (nI n), .int x7, .long y, .float 0, .int (zb has), .int (zb mesh), .int (nI D), .int (nI (t + 1)), .int x14, .int x15, .int x16, .int x17, .int x18, w19, w20, w21, w22, w23, w24] [] g Q) (hD : D < 6) (b : Bool) {x14 x15 x16 x17 x18 : Int32} {w21 w22 w23 w24 : Value} : AX 37 114 1147 [.ref 33, .ref 0, .ref 14, .ref 15, .ref 16, .int x5, .int (nI n), .int x7, .long y, .float 0, .int (zb has), .int (zb mesh), .int (nI D), .int (nI t), .int x14, .int x15, .int x16, .int x17, .int x18, .int (zb b), .int 0, w21, w22, w23, w24] [] (zC h D n b) Q := by
  have l0 := l
  have G := l.1
  have L := l.2.1
  have h7 := L.2.2
  have lz := LI_copy l hD b
  have hχ : tX h 70 = χ := G.2.2.2.2.1
  have t1 : tn (zC h D n b) (70 + D) n := ⟨o70 hD, by rw [zC_at, if_neg (by omega), if_neg (by omega), if_pos ⟨rfl, rfl⟩], h7⟩
  have key := ht3 (α := Unit) (β := Value × Value × Value × Value) (γ := Value × Value × Value) (δ := Value × Value) (n := n)
    (L1 := fun a _ w => AX 37 114 1147 [.ref 33, .ref 0, .ref 14, .ref 15, .ref 16, .int x5, .int (nI n), .int x7, .long y, .float 0, .int (zb has), .int (zb mesh), .int (nI D), .int (nI t), .int x14, .int x15, .int x16, .int x17, .int x18, .int (zb b), .int (nI a), w.1, w.2.1, w.2.2.1, w.2.2.2] [] (zC h D n b) Q)
    (L2 := fun a b2 _ w => AX 37 114 1160 [.ref 33, .ref 0, .ref 14, .ref 15, .ref 16, .int x5, .int (nI n), .int x7, .long y, .float 0, .int (zb has), .int (zb mesh), .int (nI D), .int (nI t), .int x14, .int x15, .int x16, .int x17, .int x18, .int (zb b), .int (nI a), .int (nI b2), w.1, w.2.1, w.2.2] [] (zC h D n b) Q)
    (L3 := fun a b2 c _ w => AX 37 114 1173 [.ref 33, .ref 0, .ref 14, .ref 15, .ref 16, .int x5, .int (nI n), .int x7, .long y, .float 0, .int (zb has), .int (zb mesh), .int (nI D), .int (nI t), .int x14, .int x15, .int x16, .int x17, .int x18, .int (zb b), .int (nI a), .int (nI b2), .int (nI c), w.1, w.2] [] (zC h D n b) Q)
    (f := fun _ _ _ u => u)
    (fun a _ w ha hw => by
      rw [s_114_1147, if_neg (by rw [nI_le' (by omega) (by omega)]; omega), nI_1]
      exact hw (w.2.1, w.2.2.1, w.2.2.2))
    (fun a _ w ha hw => by
      rw [s_114_1160, if_pos (Int32.le_refl _), nI_1]
      exact hw (_, w.1, w.2.1, w.2.2))
    (fun a b2 _ w ab hb hw => by
      rw [s_114_1160, if_neg (by rw [nI_le' (by omega) (by omega)]; omega), nI_1]
      exact hw (w.2.1, w.2.2))
    (fun a b2 _ w ab hb hw => by
      rw [s_114_1173, if_pos (Int32.le_refl _), nI_1]
      exact hw (_, w.1, w.2))
    (fun a b2 c _ w ab bc hc hw => by
      have hw := hw w
      rw [s_114_1173, if_neg (by rw [nI_le' (by omega) (by omega)]; omega), c83 (d := D) lz.1.1 (by omega) (by omega) t1 (show a < n by omega) (show b2 < n by omega) hc, zC_X hχ h7 ab bc hc]
      simp only [t_ob_0', true_and, t_ki, zb_0, m_sg L (show a < n by omega) (show b2 < n by omega) hc, s_114_1223, nI_1]
      cases b with
      | false =>
        rw [if_pos rfl, if_pos (by rw [if_neg (by decide)])]
        exact hw
      | true =>
        rw [if_neg (by decide), if_pos (by rw [if_pos rfl])]
        exact hw)
    () (fun w => by
      have a7 := l0.2.2.2.2.2.2.2.1 D (Nat.le_refl _) hD
      have z3 : (zC h D n b).1 (40 + D) 3 = zb false := by rw [zC_at, if_neg (by omega), if_neg (by omega), if_neg (by omega)]; exact a7.1
      have z5 : (zC h D n b).1 (40 + D) 5 = zb false := by rw [zC_at, if_neg (by omega), if_neg (by omega), if_neg (by omega)]; exact a7.2
      have k := k97 (d := D) (i := 0) (j := 1) lz.1.1 (by omega) (by omega) t1 z5 (by have := G.2.2.2.2.2.1; omega) (by have := G.2.2.2.2.2.1; omega)
      rw [s_114_1147, if_pos (Int32.le_refl _), c81 (d := D) lz.1.1 (by omega) (by omega) z3]
      simp only [t_ob_0', true_and, t_ki]
      rw [if_neg (by decide)]
      rw [show (0 : Int32) = nI 0 from rfl, show (1 : Int32) = nI 1 from rfl, k]
      simp only [t_ki, Bool.false_and]
      rw [if_pos (show zb false = nI 0 from rfl), nI_add]
      have e := tl_end (w19 := .int (zb b)) (w20 := .int (nI n)) (w21 := w.1) (w22 := w.2.1) (w23 := w.2.2.1) (w24 := w.2.2.2) (x5 := x5) (x7 := x7) (x14 := x14) (x15 := x15) (x16 := x16) (x17 := x17) (x18 := x18) (Q := Q) (LI_mono lz (show C ≤ C + 1 by omega)) ht (fun g x14 x15 x16 x17 x18 w19 w20 lg => hN g _ (D + 1) _ has mesh x14 x15 x16 x17 x18 w19 w20 _ _ _ _ lg)
      exact e)
  exact key (w21, w22, w23, w24)
def zF (h : tH) (E : Int32) (i j k l m M : Nat) : tH := t_I (t_I (t_I (t_I (t_I h 40 4 (fT E i j k l)) 16 (7 * i + j) 0) 16 (7 * j + i) 0) 16 (7 * m + M) 1) 16 (7 * M + m) 1
theorem zF_at (h : tH) (E : Int32) (i j k l m M a b : Nat) : (zF h E i j k l m M).1 a b = if a = 16 ∧ b = 7 * M + m then 1 else if a = 16 ∧ b = 7 * m + M then 1 else if a = 16 ∧ b = 7 * j + i then 0 else if a = 16 ∧ b = 7 * i + j then 0 else if a = 40 ∧ b = 4 then fT E i j k l else h.1 a b := rfl
theorem sx_c (a b : Nat) : sx a b = sx b a := by
  unfold sx
  by_cases h : a < b
  · rw [if_pos h, if_neg (by omega)]
  · by_cases h2 : b < a
    · rw [if_neg h, if_pos h2]
    · have : a = b := by omega
      rw [this]
theorem EV_zF {h : tH} {n : Nat} {E : Int32} (he : EV h n E) {i j k l m M : Nat} (h7 : n ≤ 7) (hi : i < n) (hj : j < n) (hk : k < n) (hl : l < n) (ij : i ≠ j) (kl : k ≠ l) (mM : (m = k ∧ M = l) ∨ (m = l ∧ M = k)) : EV (zF h E i j k l m M) n (fT E i j k l) := by
  intro p q hp hq
  have hm : m < 7 := by omega
  have hM : M < 7 := by omega
  by_cases pq : p = q
  · subst pq
    have := he p p hp hp
    rw [decide_eq_true rfl] at this ⊢
    rw [zF_at, if_neg (by omega), if_neg (by omega), if_neg (by omega), if_neg (by omega), if_neg (by omega)]
    exact this
  · rw [fT_bt (by omega) (by omega) (by omega) (by omega) ij kl (sx_lt (by omega) (by omega) pq), decide_eq_false pq]
    have eo := he p q hp hq
    rw [decide_eq_false pq] at eo
    by_cases c1 : (p = k ∧ q = l) ∨ (p = l ∧ q = k)
    · have e : sx p q = sx k l := by
        rcases c1 with ⟨a, b⟩ | ⟨a, b⟩
        · rw [a, b]
        · rw [a, b]; exact sx_c l k
      rw [decide_eq_true e, Bool.or_true, zF_at]
      by_cases c2 : p = M ∧ q = m
      · rw [if_pos ⟨rfl, by omega⟩]; rfl
      · have c3 : p = m ∧ q = M := by omega
        rw [if_neg (by omega), if_pos ⟨rfl, by omega⟩]; rfl
    · have nk : ¬ sx p q = sx k l := fun z => c1 (sx_un (by omega) (by omega) (by omega) (by omega) pq kl z)
      rw [decide_eq_false nk, Bool.or_false, zF_at, if_neg (by omega), if_neg (by omega)]
      by_cases c2 : (p = i ∧ q = j) ∨ (p = j ∧ q = i)
      · have e : sx p q = sx i j := by
          rcases c2 with ⟨a, b⟩ | ⟨a, b⟩
          · rw [a, b]
          · rw [a, b]; exact sx_c j i
        rw [decide_eq_true e]
        by_cases c3 : p = j ∧ q = i
        · rw [if_pos ⟨rfl, by omega⟩]; simp [zb]
        · rw [if_neg (by omega), if_pos ⟨rfl, by omega⟩]; simp [zb]
      · have ni : ¬ sx p q = sx i j := fun z => c2 (sx_un (by omega) (by omega) (by omega) (by omega) pq ij z)
        rw [decide_eq_false ni, if_neg (by omega), if_neg (by omega), if_neg (by omega), eo]
        simp
theorem LI_fE {h : tH} {y : Int64} {n D : Nat} {χ : tC} {has : Bool} {Ls C : Nat} (l : LI h y n D χ has true Ls C) {i j k o m M : Nat} (hi : i < n) (hj : j < n) (hk : k < n) (ho : o < n) (ij : i ≠ j) (ko : k ≠ o) (mM : (m = k ∧ M = o) ∨ (m = o ∧ M = k)) (tij : bt (h.1 40 4) (sx i j) = true) (ck : crn χ n (h.1 40 4) i j 1 k = true) (co : crn χ n (h.1 40 4) i j (-1) o = true) (px : pparts χ i j k o = true) : LI (zF h (h.1 40 4) i j k o m M) y n D χ has true Ls C := by
  obtain ⟨⟨g1, g2, g3, g4, g5, g6, g7, g8, g9⟩, L, f, a3, a4, a5, a6, a7, a8, a9⟩ := l
  have rd : ∀ u v, u ≠ 16 → ¬ (u = 40 ∧ v = 4) → (zF h (h.1 40 4) i j k o m M).1 u v = h.1 u v := fun u v h1 h2 => by rw [zF_at, if_neg (by omega), if_neg (by omega), if_neg (by omega), if_neg (by omega), if_neg h2]
  refine ⟨⟨by rw [rd _ _ (by omega) (by omega)]; exact g1, g2, g3, by rw [rd _ _ (by omega) (by omega)]; exact g4, ?_, g6, g7, g8, g9⟩, L, by rw [rd _ _ (by omega) (by omega)]; exact f, by rw [rd _ _ (by omega) (by omega)]; exact a3, fun hb p hp => ?_, by rw [rd _ _ (by omega) (by omega)]; exact a5, fun hb => ?_, fun d h1 h2 => ?_, ⟨by rw [rd _ _ (by omega) (by omega)]; exact a8.1, a8.2⟩, a9⟩
  · rw [← g5]
    exact tX_o fun c _ => rd _ _ (by omega) (by omega)
  · rw [rd _ _ (by omega) (by omega), rd _ _ (by omega) (by omega), rd _ _ (by omega) (by omega), rd _ _ (by omega) (by omega)]
    exact a4 hb p hp
  · have e4 : (zF h (h.1 40 4) i j k o m M).1 40 4 = fT (h.1 40 4) i j k o := by rw [zF_at, if_neg (by omega), if_neg (by omega), if_neg (by omega), if_neg (by omega), if_pos ⟨rfl, rfl⟩]
    rw [e4]
    exact ⟨EV_zF (a6 hb).1 g7 hi hj hk ho ij ko mM, fT_PL g8 g7 g9 (a6 hb).2 hi hj hk ho ij ko tij ck co px⟩
  · rw [rd _ _ (by omega) (by omega), rd _ _ (by omega) (by omega)]
    exact a7 d h1 h2
theorem fan_v {k o : Nat} (hk : k < 7) (ho : o < 7) (ko : k ≠ o) : ∃ m M, ((m = k ∧ M = o) ∨ (m = o ∧ M = k)) ∧ m < 7 ∧ M < 7 ∧ ¬ fan k o < 0 ∧ fan k o / 10 = nI m ∧ fan k o - fan k o / 10 * 10 = nI M := by
  have hh : ∀ m, m < 7 → ∀ M, M < 7 → (¬ nI (10 * m + M) < (0 : Int32) ∧ nI (10 * m + M) / 10 = nI m ∧ nI (10 * m + M) - nI (10 * m + M) / 10 * 10 = nI M) := by decide +kernel
  unfold fan
  by_cases q : o ≤ k
  · rw [if_pos q]
    exact ⟨o, k, Or.inr ⟨rfl, rfl⟩, ho, hk, hh o ho k hk⟩
  · rw [if_neg q]
    exact ⟨k, o, Or.inl ⟨rfl, rfl⟩, hk, ho, hh k hk o ho⟩
theorem tn_fe {y : Int64} {n D : Nat} {χ : tC} {has mesh : Bool} {Ls C : Nat} {h : tH} (l : LI h y n D χ has mesh Ls C) {Q : tO → tH → Prop} {x5 x7 : Int32} {t : Nat} (ht : t < 30) (hN : ∀ (g : tH) (y : Int64) (D : Nat) (χ : tC) (has mesh : Bool) (x14 x15 x16 x17 x18 : Int32) (w19 w20 w21 w22 w23 w24 : Value), LI g y n D χ has mesh Ls (C + 2) → AX 37 114 455 [.ref 33, .ref 0, .ref 14, .ref 15, .ref 16, .int x5, .int (nI n), .int x7, .long y, .float 0, .int (zb has), .int (zb mesh), .int (nI D), .int (nI (t + 1)), .int x14, .int x15, .int x16, .int x17, .int x18, w19, w20, w21, w22, w23, w24] [] g Q) {i j : Nat} (hi : i < n) (hj : j < n) (ij : i ≠ j) {x14 x15 x18 : Int32} {w19 w20 w21 w22 w23 w24 : Value} :
    (if zb mesh = (0 : Int32) then AX 37 114 1008 [.ref 33, .ref 0, .ref 14, .ref 15, .ref 16, .int x5, .int (nI n), .int x7, .long y, .float 0, .int (zb has), .int (zb mesh), .int (nI D), .int (nI t), .int x14, .int x15, .int (nI i), .int (nI j), .int x18, w19, w20, w21, w22, w23, w24] [.int (-1)] h Q else AM 113 [.long y, .int (nI n), .ref 16, .int (nI i), .int (nI j)] h (t_ki (fun a3 h3 => AX 37 114 1008 [.ref 33, .ref 0, .ref 14, .ref 15, .ref 16, .int x5, .int (nI n), .int x7, .long y, .float 0, .int (zb has), .int (zb mesh), .int (nI D), .int (nI t), .int x14, .int x15, .int (nI i), .int (nI j), .int x18, w19, w20, w21, w22, w23, w24] [.int a3] h3 Q) Q)) := by
  have l0 := l
  obtain ⟨G, L, f, a3, a4, a5, a6, a7, a8, a9⟩ := l
  have h7 := L.2.2
  have hD : 0 < D := by have := G.2.1; omega
  have no : rn 102 [.ref 0, .int (nI i), .int (nI j)] h (RI (-1)) (t_X h) → AX 37 114 1008 [.ref 33, .ref 0, .ref 14, .ref 15, .ref 16, .int x5, .int (nI n), .int x7, .long y, .float 0, .int (zb has), .int (zb mesh), .int (nI D), .int (nI t), .int x14, .int x15, .int (nI i), .int (nI j), .int x18, w19, w20, w21, w22, w23, w24] [.int (-1)] h Q := fun r => by
    rw [s_114_1008, r]
    simp only [t_ki, if_true]
    rw [if_pos (by decide), s_114_1090]
    exact tl_end (Q := Q) (LI_X l0) ht (fun g x14 x15 x16 x17 x18 w19 w20 lg => hN g _ D _ has mesh x14 x15 x16 x17 x18 w19 w20 _ _ _ _ lg)
  cases hm : mesh with
  | false =>
    rw [hm] at no a5
    rw [if_pos (show zb false = (0 : Int32) from rfl)]
    refine no (p102x fun Q => ?_)
    have cc := c96 (d := 0) G.1 G.2.2.1 hD (GH_tn G) (b := false) a5 hi hj Q
    refine cc.trans ?_
    rw [if_neg (by rw [Bool.false_and]; decide)]
  | true =>
    rw [hm] at no a5 l0
    obtain ⟨ev, pl⟩ := a6 hm
    rw [if_neg (by decide)]
    rcases m_oth L G a5 rfl ev pl hi hj ij with ⟨m1, m2⟩ | ⟨k, o, hk, ho, ko, tij, ck, co, px, m1, m2⟩
    · refine m1 _ ?_
      simp only [t_ki]
      exact no m2
    · refine m1 _ ?_
      obtain ⟨m, M, mM, m7, M7, f1, f2, f3⟩ := fan_v (show k < 7 by omega) (show o < 7 by omega) ko
      simp only [t_ki]
      rw [s_114_1008, m2]
      simp only [t_ki, if_true]
      have ii : ∀ (g : tH) a b, a < 7 → b < 7 → t_in (t_ai g 16) (nI (7 * a + b)) = True := fun g a b ha hb => EV_in ha hb
      rw [if_neg f1, f3, f2]
      simp only [n77, ii _ i j (by omega) (by omega), ii _ j i (by omega) (by omega), ii _ m M m7 M7, ii _ M m M7 m7, nC (show 7 * i + j < 10000 by omega), nC (show 7 * j + i < 10000 by omega), nC (show 7 * m + M < 10000 by omega), nC (show 7 * M + m < 10000 by omega), true_and, show ((16 : Nat) ≠ 33) = True from eq_true (by decide), s_114_1090]
      exact tl_end (h := zF h (h.1 40 4) i j k o m M) (Q := Q) (LI_mono (LI_fE l0 hi hj hk ho ij ko mM tij ck co px) (show C ≤ C + 1 by omega)) ht (fun g x14 x15 x16 x17 x18 w19 w20 lg => hN g _ D _ has true x14 x15 x16 x17 x18 w19 w20 _ _ _ _ lg)
