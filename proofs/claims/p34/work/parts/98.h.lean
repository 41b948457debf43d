/-! ===== the law's places ===== -/
/-- before the first drawing: the shelf, and the law's rows, hold the same -/
def PI (h : tH) (s C Ls : Nat) : Prop := h.1 1 2 = nI s ∧ s ≤ 7 ∧ (∀ p, p < s → h.1 14 p = h.1 2 p ∧ h.1 15 p = h.1 3 p ∧ rg (h.1 2 p) ∧ rg (h.1 3 p)) ∧ (∀ i j k, i < j → j < k → k < s → tu (h.1 2 i) (h.1 3 i) (h.1 2 j) (h.1 3 j) (h.1 2 k) (h.1 3 k) ≠ 0) ∧ (h.1 0 3 = nI 0 ∧ h.1 36 0 = 0 ∧ (∀ d, d < 6 → h.1 (40 + d) 3 = 0 ∧ h.1 (40 + d) 5 = 0) ∧ (∀ c, c < 343 → h.1 80 c = 0)) ∧ scL h Ls ∧ h.2.2.2 ≤ C
theorem PI_SV {h : tH} {s C Ls : Nat} (P : PI h s C Ls) : SV (t_I h 13 1 (nI s)) s := ⟨P.1, rfl, P.2.1, P.2.2.1, P.2.2.2.1⟩
theorem i_sub0 {a b : Int32} : (a - b = 0) = (a = b) := propext ⟨fun h => by
  have e : a - b + b = 0 + b := by rw [h]
  rw [Int32.sub_add_cancel, Int32.zero_add] at e
  exact e, fun h => by rw [h]; exact Int32.sub_self b⟩
def pj (h : tH) (i : Nat) (x y : Int32) : Nat → Bool := fun j => !decide (tu (h.1 2 i) (h.1 3 i) (h.1 2 j) (h.1 3 j) x y = 0)
def pk1 (h : tH) (s : Nat) (x y : Int32) : Nat → Bool := fun i => (!decide (h.1 2 i = x) || !decide (h.1 3 i = y)) && pfree1 h s i x y
theorem pl_j {h : tH} {s C Ls w wd t : Nat} {Q : tO → tH → Prop} (P : PI h s C Ls) {x y : Int32} {i : Nat} (hi : i < s) : ∀ m j f, j + m = s → AX 37 114 110 [.ref 33, .ref 0, .ref 14, .ref 15, .ref 16, .int (nI w), .int (nI s), .int (nI wd), .int (nI t), .int x, .int y, .int (zb (f && aB (pj h i x y) j m)), .int (nI (i + 1)), .int (nI s), .float 0, .float 0, .float 0, .float 0, .float 0, .float 0, .float 0, .float 0, .float 0, .float 0, .float 0] [] h Q → AX 37 114 144 [.ref 33, .ref 0, .ref 14, .ref 15, .ref 16, .int (nI w), .int (nI s), .int (nI wd), .int (nI t), .int x, .int y, .int (zb f), .int (nI i), .int (nI j), .float 0, .float 0, .float 0, .float 0, .float 0, .float 0, .float 0, .float 0, .float 0, .float 0, .float 0] [] h Q := by
  obtain ⟨p1, p2, p3, p4, p5⟩ := P
  intro m
  induction m with
  | zero =>
    intro j f hj hC
    have : j = s := by omega
    subst this
    have e : (f && aB (pj h i x y) j 0) = f := by simp [aB]
    rw [e] at hC
    rw [s_114_144, if_pos (Int32.le_refl _), nI_1]
    exact hC
  | succ m ih =>
    intro j f hj hC
    have hjs : j < s := by omega
    have e : (f && aB (pj h i x y) j (m + 1)) = ((f && pj h i x y j) && aB (pj h i x y) (j + 1) m) := by rw [Bool.and_assoc]; rfl
    rw [e] at hC
    obtain ⟨a1, a2, -, -⟩ := p3 i hi
    obtain ⟨b1, b2, -, -⟩ := p3 j hjs
    have c := ih (j + 1) (f && pj h i x y j) (by omega) hC
    have et : ((h.1 2 j - h.1 2 i) * (y - h.1 3 i) = (x - h.1 2 i) * (h.1 3 j - h.1 3 i)) = (tu (h.1 2 i) (h.1 3 i) (h.1 2 j) (h.1 3 j) x y = 0) := i_sub0.symm
    have ez : (if ¬ tu (h.1 2 i) (h.1 3 i) (h.1 2 j) (h.1 3 j) x y = 0 then zb f else 0) = zb (f && pj h i x y j) := by
      unfold pj
      by_cases z : tu (h.1 2 i) (h.1 3 i) (h.1 2 j) (h.1 3 j) x y = 0 <;> cases f <;> simp [z, zb]
    rw [s_114_144, if_neg (by rw [nI_le' (by omega) (by omega)]; omega)]
    simp only [t_in_ai t_ar_14 (show j < 7 by omega), t_in_ai t_ar_15 (show j < 7 by omega), t_in_ai t_ar_14 (show i < 7 by omega), t_in_ai t_ar_15 (show i < 7 by omega), true_and, nC (show i < 10000 by omega), nC (show j < 10000 by omega), a1, a2, b1, b2, et, ez, nI_1]
    exact c
theorem pl_i {h : tH} {s C Ls w wd t : Nat} {Q : tO → tH → Prop} (P : PI h s C Ls) {x y : Int32} : ∀ m i f w13, i + m = s → (∀ w13, AX 37 114 110 [.ref 33, .ref 0, .ref 14, .ref 15, .ref 16, .int (nI w), .int (nI s), .int (nI wd), .int (nI t), .int x, .int y, .int (zb (f && aB (pk1 h s x y) i m)), .int (nI s), w13, .float 0, .float 0, .float 0, .float 0, .float 0, .float 0, .float 0, .float 0, .float 0, .float 0, .float 0] [] h Q) → AX 37 114 110 [.ref 33, .ref 0, .ref 14, .ref 15, .ref 16, .int (nI w), .int (nI s), .int (nI wd), .int (nI t), .int x, .int y, .int (zb f), .int (nI i), w13, .float 0, .float 0, .float 0, .float 0, .float 0, .float 0, .float 0, .float 0, .float 0, .float 0, .float 0] [] h Q := by
  have P0 := P
  obtain ⟨p1, p2, p3, p4, p5⟩ := P
  intro m
  induction m with
  | zero =>
    intro i f w13 hi hC
    have : i = s := by omega
    subst this
    have e : (f && aB (pk1 h i x y) i 0) = f := by simp [aB]
    rw [e] at hC
    exact hC w13
  | succ m ih =>
    intro i f w13 hi hC
    have his : i < s := by omega
    have e : (f && aB (pk1 h s x y) i (m + 1)) = ((f && pk1 h s x y i) && aB (pk1 h s x y) (i + 1) m) := by rw [Bool.and_assoc]; rfl
    rw [e] at hC
    obtain ⟨a1, a2, -, -⟩ := p3 i his
    have nx : ∀ b, b = (f && (!decide (h.1 2 i = x) || !decide (h.1 3 i = y))) → AX 37 114 138 [.ref 33, .ref 0, .ref 14, .ref 15, .ref 16, .int (nI w), .int (nI s), .int (nI wd), .int (nI t), .int x, .int y, .int (zb b), .int (nI i), w13, .float 0, .float 0, .float 0, .float 0, .float 0, .float 0, .float 0, .float 0, .float 0, .float 0, .float 0] [] h Q := fun b hb => by
      rw [s_114_138, nI_1]
      refine pl_j P0 his (s - (i + 1)) (i + 1) b (by omega) ?_
      have c := ih (i + 1) (f && pk1 h s x y i) (.int (nI s)) (by omega) hC
      have eb : (b && aB (pj h i x y) (i + 1) (s - (i + 1))) = (f && pk1 h s x y i) := by rw [hb, Bool.and_assoc]; rfl
      rw [eb]
      exact c
    rw [s_114_110, if_neg (by rw [nI_le' (by omega) (by omega)]; omega)]
    simp only [t_in_ai t_ar_14 (show i < 7 by omega), t_in_ai t_ar_15 (show i < 7 by omega), true_and, nC (show i < 10000 by omega), a1, a2]
    by_cases h1 : h.1 2 i = x
    · rw [if_neg (by simp [h1])]
      by_cases h2 : h.1 3 i = y
      · rw [if_neg (by simp [h2])]
        exact nx false (by simp [h1, h2])
      · rw [if_pos h2]
        exact nx f (by simp [h2])
    · rw [if_pos h1]
      exact nx f (by simp [h1])
theorem pr_s1 : ∀ a, a < 35 → (!decide (nI a < -1000) && !decide (1000 < nI a)) = true := by decide
theorem pr_s {a b : Nat} (ha : a < 35) (hb : b < 35) : pr (nI a) (nI b) = true := by
  unfold pr
  rw [pr_s1 a ha, pr_s1 b hb]
  rfl
theorem PI_add {h : tH} {s C Ls : Nat} {x y : Int32} (P : PI h s C Ls) (s7 : s < 7) (hp : pr x y = true) (hf : pfree h s x y = true) : PI (t_I (t_I (t_I (t_I (t_I h 2 s x) 3 s y) 1 2 (nI (s + 1))) 14 s x) 15 s y) (s + 1) (C + 1) Ls := by
  obtain ⟨p1, p2, p3, p4, ⟨p5, p6, p7, p8⟩, p9, p10⟩ := P
  obtain ⟨rx, ry⟩ := pr_rg hp
  obtain ⟨g, hg⟩ : ∃ g, g = t_I (t_I (t_I (t_I (t_I h 2 s x) 3 s y) 1 2 (nI (s + 1))) 14 s x) 15 s y := ⟨_, rfl⟩
  have rd : ∀ k i, g.1 k i = if k = 15 ∧ i = s then y else if k = 14 ∧ i = s then x else if k = 1 ∧ i = 2 then nI (s + 1) else if k = 3 ∧ i = s then y else if k = 2 ∧ i = s then x else h.1 k i := fun _ _ => by rw [hg]; rfl
  have ro : ∀ k i, k ≠ 15 → k ≠ 14 → k ≠ 1 → k ≠ 3 → k ≠ 2 → g.1 k i = h.1 k i := fun k i e1 e2 e3 e4 e5 => by rw [rd, if_neg (by omega), if_neg (by omega), if_neg (by omega), if_neg (by omega), if_neg (by omega)]
  have g2 : g.2 = h.2 := by rw [hg]; rfl
  rw [← hg]
  refine ⟨?_, by omega, fun p hp => ?_, fun i j k a b c => ?_, ⟨?_, ?_, fun d hd => ?_, fun c hc => ?_⟩, ⟨?_, p9.2⟩, by rw [g2]; omega⟩
  · rw [rd, if_neg (by omega), if_neg (by omega), if_pos ⟨rfl, rfl⟩]
  · rw [rd, rd, rd, rd]
    by_cases hp' : p = s
    · simp [hp', rx, ry]
    · simp [hp']
      exact p3 p (by omega)
  · rw [rd, rd, rd, rd, rd, rd]
    have hi : ¬ i = s := by omega
    have hj : ¬ j = s := by omega
    by_cases hk : k = s
    · simp [hi, hj, hk]
      have t1 := (aB_iff _ _ _).mp hf i (by omega) (by omega)
      simp only [Bool.and_eq_true] at t1
      have t2 := (aB_iff _ _ _).mp t1.2 j (by omega) (by omega)
      simpa using t2
    · simp [hi, hj, hk]
      exact p4 i j k a b (by omega)
  · rw [ro _ _ (by decide) (by decide) (by decide) (by decide) (by decide)]; exact p5
  · rw [ro _ _ (by decide) (by decide) (by decide) (by decide) (by decide)]; exact p6
  · rw [ro _ _ (by omega) (by omega) (by omega) (by omega) (by omega), ro _ _ (by omega) (by omega) (by omega) (by omega) (by omega)]; exact p7 d hd
  · rw [ro _ _ (by decide) (by decide) (by decide) (by decide) (by decide)]; exact p8 c hc
  · rw [ro _ _ (by decide) (by decide) (by decide) (by decide) (by decide)]; exact p9.1
theorem PI_X {h : tH} {s C Ls : Nat} (P : PI h s C Ls) : PI (t_X h) s (C + 1) Ls := by
  obtain ⟨p1, p2, p3, p4, p5, p9, p10⟩ := P
  refine ⟨p1, p2, p3, p4, p5, p9, ?_⟩
  show h.2.2.2 + 1 ≤ C + 1
  omega
theorem pl_turn {h : tH} {s C Ls w wd t : Nat} {Q : tO → tH → Prop} (P : PI h s C Ls) (sw : s < w) (w7 : w ≤ 7) {a b : Nat} (ha : a < 35) (hb : b < 35) (hN : ∀ g s' w9 w10 w11 w12 w13, PI g s' (C + 1) Ls → s' ≤ w → AX 37 114 57 [.ref 33, .ref 0, .ref 14, .ref 15, .ref 16, .int (nI w), .int (nI (s')), .int (nI wd), .int (nI (t + 1)), w9, w10, w11, w12, w13, .float 0, .float 0, .float 0, .float 0, .float 0, .float 0, .float 0, .float 0, .float 0, .float 0, .float 0] [] g Q) (w13 : Value) : AX 37 114 110 [.ref 33, .ref 0, .ref 14, .ref 15, .ref 16, .int (nI w), .int (nI s), .int (nI wd), .int (nI t), .int (nI a), .int (nI b), .int 1, .int 0, w13, .float 0, .float 0, .float 0, .float 0, .float 0, .float 0, .float 0, .float 0, .float 0, .float 0, .float 0] [] h Q := by
  rw [show (0 : Int32) = nI 0 from rfl, show (1 : Int32) = zb true from rfl]
  refine pl_i P s 0 true w13 (by omega) fun w13 => ?_
  have ef : (true && aB (pk1 h s (nI a) (nI b)) 0 s) = pfree h s (nI a) (nI b) := by rw [Bool.true_and]; rfl
  rw [ef, s_114_110, if_pos (Int32.le_refl _), p101 P.1 (by omega) (pr_s ha hb)]
  simp only [zb_0]
  cases hf : pfree h s (nI a) (nI b) with
  | true =>
    have i14 : ∀ g : tH, t_in (t_ai g 14) (nI s) = True := fun g => t_in_ai t_ar_14 (by omega)
    have i15 : ∀ g : tH, t_in (t_ai g 15) (nI s) = True := fun g => t_in_ai t_ar_15 (by omega)
    rw [if_pos rfl]
    simp only [t_ki, Bool.true_eq_false, if_false, nI_1, if_true, i14, i15, nC (show s < 10000 by omega), true_and]
    refine ⟨by decide, by decide, ?_⟩
    rw [s_114_249, nI_1]
    exact hN _ _ _ _ _ _ _ (PI_add P (by omega) (pr_s ha hb) hf) (by omega)
  | false =>
    rw [if_neg (by decide)]
    simp only [t_ki, if_true]
    rw [s_114_249, nI_1]
    exact hN _ _ _ _ _ _ _ (PI_X P) (by omega)
theorem pl_all {w wd Ls : Nat} {Q : tO → tH → Prop} (w7 : w ≤ 7) (wd0 : 0 < wd) (wd35 : wd < 35) : ∀ m t (s C : Nat) (h : tH) (w9 w10 w11 w12 w13 : Value), t + m = 24 → PI h s C Ls → s ≤ w → (∀ g s' t' w9 w10 w11 w12 w13, PI g s' (C + m) Ls → s' ≤ w → AX 37 114 255 [.ref 33, .ref 0, .ref 14, .ref 15, .ref 16, .int (nI w), .int (nI s'), .int (nI wd), .int (nI t'), w9, w10, w11, w12, w13, .float 0, .float 0, .float 0, .float 0, .float 0, .float 0, .float 0, .float 0, .float 0, .float 0, .float 0] [] g Q) → AX 37 114 57 [.ref 33, .ref 0, .ref 14, .ref 15, .ref 16, .int (nI w), .int (nI s), .int (nI wd), .int (nI t), w9, w10, w11, w12, w13, .float 0, .float 0, .float 0, .float 0, .float 0, .float 0, .float 0, .float 0, .float 0, .float 0, .float 0] [] h Q := by
  intro m
  induction m with
  | zero =>
    intro t s C h w9 w10 w11 w12 w13 ht P sw hE
    have : t = 24 := by omega
    subst this
    rw [s_114_57, if_pos (by decide)]
    exact hE h s 24 _ _ _ _ _ P sw
  | succ m ih =>
    intro t s C h w9 w10 w11 w12 w13 ht P sw hE
    have e24 : ((24 : Int32) ≤ nI t) = (24 ≤ t) := nI_le' (a := 24) (by omega) (by omega)
    have s7 := P.2.1
    rw [s_114_57]
    simp only [e24]
    rw [if_neg (by omega)]
    by_cases c : w ≤ s
    · rw [if_pos (by rw [nI_le' (by omega) (by omega)]; exact c)]
      refine hE h s t _ _ _ _ _ ?_ sw
      obtain ⟨p1, p2, p3, p4, p5, p9, p10⟩ := P
      exact ⟨p1, p2, p3, p4, p5, p9, by omega⟩
    · rw [if_neg (by rw [nI_le' (by omega) (by omega)]; exact c), show (2 : Int32) + nI t = nI (2 + t) from nI_add 2 t]
      obtain ⟨v, hv⟩ := m_cel P.2.2.2.2.2.1 (k := 2 + t) (by omega)
      obtain ⟨a, ha, ra⟩ := m_low (x := v) (m := wd) wd0 (by omega)
      obtain ⟨b, hb, rb⟩ := m_low (x := v >>> ((11 : Int32) &&& 31)) (m := wd) wd0 (by omega)
      simp only [hv, ra, rb, t_ki]
      refine pl_turn P (by omega) w7 (by omega) (by omega) (fun g s' w9 w10 w11 w12 w13 P' sw' => ?_) _
      exact ih (t + 1) s' (C + 1) g _ _ _ _ _ (by omega) P' sw' fun g s' t' w9 w10 w11 w12 w13 P' sw' => hE g s' t' _ _ _ _ _ (by rw [show C + (m + 1) = C + 1 + m by omega]; exact P') sw'
/-! ===== the first drawing, and the rest ===== -/
theorem sg_1 {a : Int32} : sg a = 1 ↔ (!decide (a ≤ 0)) = true := by
  unfold sg
  by_cases h0 : a = 0
  · subst h0; decide
  · by_cases h1 : 0 ≤ a
    · have : ¬ a ≤ 0 := fun z => h0 (Int32.le_antisymm z h1)
      simp [h0, h1, this]
    · have : a ≤ 0 := (Int32.le_total 0 a).resolve_left h1
      simp [h1, this]
def tuL (h : tH) (i j k : Nat) : Int32 := tu (h.1 14 i) (h.1 15 i) (h.1 14 j) (h.1 15 j) (h.1 14 k) (h.1 15 k)
theorem PI_LV {h : tH} {s C Ls : Nat} (P : PI h s C Ls) : LV (t3 (shF h) s (fun _ _ _ => 0)) (fd3 (addb fun i j k => !decide (tuL h i j k ≤ 0)) s 0) s ∧ qhold (t3 (shF h) s (fun _ _ _ => 0)) s = true := by
  have ho : WS (t3 (shF h) s (fun _ _ _ => 0)) s ∧ qhold (t3 (shF h) s (fun _ _ _ => 0)) s = true := shelf_hold (h := t_I h 13 1 (nI s)) (PI_SV P)
  have s7 := P.2.1
  have p3 := P.2.2.1
  refine ⟨⟨Rel_of ho.1 s7 fun i j k ij jk ks => ?_, ho.1, s7⟩, ho.2⟩
  rw [t3_val ij jk ks, addb_bl s7 ij jk ks]
  obtain ⟨a1, a2, -⟩ := p3 i (by omega)
  obtain ⟨b1, b2, -⟩ := p3 j (by omega)
  obtain ⟨c1, c2, -⟩ := p3 k ks
  unfold tuL
  rw [a1, a2, b1, b2, c1, c2]
  exact sg_1
def zD (h : tH) (s : Nat) : tH := t_I (dA h 0 s (f3 (shF h) s (h.1 (80 + 0)))) 1 2 0
theorem zD_at (h : tH) (s a b : Nat) : (zD h s).1 a b = if a = 1 ∧ b = 2 then 0 else if a = 0 ∧ b = 3 then nI 1 else if a = 1 ∧ b = 2 then 0 else if a = 40 ∧ b = 3 then 1 else if a = 50 ∧ b < s then h.1 2 b else if a = 60 ∧ b < s then h.1 3 b else if a = 80 then f3 (shF h) s (h.1 80) b else if a = 70 ∧ b = 1 then nI s else h.1 a b := rfl
theorem LI_zD {h : tH} {s C Ls : Nat} (P : PI h s C Ls) (s3 : 3 ≤ s) : LI (zD h s) (fd3 (addb fun i j k => !decide (tuL h i j k ≤ 0)) s 0) s 1 (t3 (shF h) s (fun _ _ _ => 0)) true false Ls C := by
  obtain ⟨L, ho⟩ := PI_LV P
  obtain ⟨p1, p2, p3, p4, ⟨p5, p6, p7, p8⟩, p9, p10⟩ := P
  have ro : ∀ a b, ¬ (a = 1 ∧ b = 2) → ¬ (a = 0 ∧ b = 3) → ¬ (a = 40 ∧ b = 3) → a ≠ 50 → a ≠ 60 → a ≠ 80 → ¬ (a = 70 ∧ b = 1) → (zD h s).1 a b = h.1 a b := fun a b e1 e2 e3 e4 e5 e6 e7 => by
    rw [zD_at, if_neg e1, if_neg e2, if_neg e1, if_neg e3, if_neg (by omega), if_neg (by omega), if_neg e6, if_neg e7]
  refine ⟨⟨?_, by decide, by decide, ?_, ?_, s3, p2, L.2.1, ho⟩, L, ?_, ?_, fun _ p hp => ?_, ?_, fun z => (nomatch z), fun d h1 h2 => ?_, ⟨?_, p9.2⟩, p10⟩
  · rw [zD_at, if_neg (by omega), if_pos ⟨rfl, rfl⟩]
  · rw [zD_at, if_neg (by omega), if_neg (by omega), if_neg (by omega), if_neg (by omega), if_neg (by omega), if_neg (by omega), if_neg (by omega), if_pos ⟨rfl, rfl⟩]
  · rw [cut_Xr, show (zD h s).1 (70 + 10) = f3 (shF h) s (h.1 80) from funext fun b => by
      rw [zD_at, if_neg (by omega), if_neg (by omega), if_neg (by omega), if_neg (by omega), if_neg (by omega), if_neg (by omega), if_pos rfl]]
    rw [cut_f3 p2, cut_0 p8]
  · rw [ro _ _ (by decide) (by decide) (by decide) (by decide) (by decide) (by decide) (by decide)]; exact p6
  · rw [zD_at, if_neg (by omega), if_neg (by omega), if_neg (by omega), if_pos ⟨rfl, rfl⟩]; rfl
  · obtain ⟨a1, a2, -⟩ := p3 p hp
    rw [ro 14 _ (by omega) (by omega) (by omega) (by omega) (by omega) (by omega) (by omega), ro 15 _ (by omega) (by omega) (by omega) (by omega) (by omega) (by omega) (by omega), a1, a2]
    exact ⟨by rw [zD_at, if_neg (by omega), if_neg (by omega), if_neg (by omega), if_neg (by omega), if_pos ⟨rfl, hp⟩], by rw [zD_at, if_neg (by omega), if_neg (by omega), if_neg (by omega), if_neg (by omega), if_neg (by omega), if_pos ⟨rfl, hp⟩]⟩
  · rw [ro _ _ (by decide) (by decide) (by decide) (by decide) (by decide) (by decide) (by decide)]; exact (p7 0 (by decide)).2
  · rw [ro _ _ (by omega) (by omega) (by omega) (by omega) (by omega) (by omega) (by omega), ro _ _ (by omega) (by omega) (by omega) (by omega) (by omega) (by omega) (by omega)]
    exact p7 d h2
  · rw [ro _ _ (by decide) (by decide) (by decide) (by decide) (by decide) (by decide) (by decide)]; exact p9.1
theorem pd_rest {h : tH} {s C Ls w wd : Nat} {Q : tO → tH → Prop} (P : PI h s C Ls) (s3 : 3 ≤ s) (hQ : ∀ g : tH, g.2.2.2 ≤ C + 62 → Q (RI 1) g) {x10 : Int32} (hx : nI s ≤ x10) {w11 w12 w13 : Value} : AX 37 114 289 [.ref 33, .ref 0, .ref 14, .ref 15, .ref 16, .int (nI w), .int (nI s), .int (nI wd), .long (fd3 (addb fun i j k => !decide (tuL h i j k ≤ 0)) s 0), .float 0, .int x10, w11, w12, w13, .float 0, .float 0, .float 0, .float 0, .float 0, .float 0, .float 0, .float 0, .float 0, .float 0, .float 0] [] h Q := by
  have l := LI_zD P s3
  obtain ⟨y, hy⟩ : ∃ y, y = fd3 (addb fun i j k => !decide (tuL h i j k ≤ 0)) s 0 := ⟨_, rfl⟩
  obtain ⟨χ, hχ⟩ : ∃ χ, χ = t3 (shF h) s (fun _ _ _ => 0) := ⟨_, rfl⟩
  rw [← hy, ← hχ] at l
  rw [← hy]
  have G := l.1
  have L := l.2.1
  have r68 := c68 (D := 0) P.2.2.2.2.1.1 (by decide) P.1 s3 P.2.1
  have r63 := fun Q => k63 (h := dA h 0 s (f3 (shF h) s (h.1 (80 + 0)))) (s := 0) rfl Q
  have r80 : rn 80 [.ref 0, .int 0] (zD h s) (RI (nI s)) (zD h s) := c80 (d := 0) G.1 (by decide) (by decide) G.2.2.2.1
  have z0 : ¬ ¬ nI 0 = (0 : Int32) := fun z => z rfl
  rw [s_114_289, if_pos hx]
  simp only [t_ob_0', true_and]
  rw [r68]
  simp only [t_ki]
  rw [if_neg z0, r63]
  simp only [t_ki]
  rw [if_neg z0, show t_I (dA h 0 s (f3 (shF h) s (h.1 (80 + 0)))) 1 2 0 = zD h s from rfl, r80]
  simp only [t_ki]
  rw [if_neg (fun z => z trivial), m_holds L, G.2.2.2.2.2.2.2.2]
  simp only [t_ki]
  rw [if_neg (by decide)]
  refine m_shapes L G l.2.2.1 fun g v sh => ?_
  simp only [t_kd]
  rw [if_pos (by decide)]
  have e := tn_all (n := s) (Ls := Ls) (Q := Q) (x5 := nI w) (x7 := nI wd) 30 0 (y := y) (D := 1) (χ := χ) (has := true) (mesh := false) (C := C + 1) (h := t_dr g) (w14 := .float 0) (w15 := .float 0) (w16 := .float 0) (w17 := .float 0) (w18 := .float 0) (w19 := .float 0) (w20 := .float 0) (w21 := .float 0) (w22 := .float 0) (w23 := .float 0) (w24 := .float 0) (LI_sh l sh) (fun g hg => hQ g (by omega)) rfl
  exact e
theorem pd_255 {h : tH} {s C Ls w wd t : Nat} {Q : tO → tH → Prop} (P : PI h s C Ls) (hQ : ∀ g : tH, g.2.2.2 ≤ C + 62 → Q (RI 1) g) {w9 w10 w11 w12 w13 : Value} : AX 37 114 255 [.ref 33, .ref 0, .ref 14, .ref 15, .ref 16, .int (nI w), .int (nI s), .int (nI wd), .int (nI t), w9, w10, w11, w12, w13, .float 0, .float 0, .float 0, .float 0, .float 0, .float 0, .float 0, .float 0, .float 0, .float 0, .float 0] [] h Q := by
  have P0 := P
  obtain ⟨p1, p2, p3, p4, ⟨p5, p6, p7, p8⟩, p9, p10⟩ := P
  have e3 : ((3 : Int32) ≤ nI s) = (3 ≤ s) := nI_le' (a := 3) (by omega) (by omega)
  rw [s_114_255]
  simp only [e3]
  by_cases s3 : 3 ≤ s
  · rw [if_pos s3]
    have key := ht3 (α := Int64) (β := Value × Value × Value) (γ := Value × Value) (δ := Value) (n := s)
      (L1 := fun a y' w' => AX 37 114 289 [.ref 33, .ref 0, .ref 14, .ref 15, .ref 16, .int (nI w), .int (nI s), .int (nI wd), .long y', .float 0, .int (nI a), w'.1, w'.2.1, w'.2.2, .float 0, .float 0, .float 0, .float 0, .float 0, .float 0, .float 0, .float 0, .float 0, .float 0, .float 0] [] h Q)
      (L2 := fun a b y' w' => AX 37 114 302 [.ref 33, .ref 0, .ref 14, .ref 15, .ref 16, .int (nI w), .int (nI s), .int (nI wd), .long y', .float 0, .int (nI a), .int (nI b), w'.1, w'.2, .float 0, .float 0, .float 0, .float 0, .float 0, .float 0, .float 0, .float 0, .float 0, .float 0, .float 0] [] h Q)
      (L3 := fun a b c y' w' => AX 37 114 315 [.ref 33, .ref 0, .ref 14, .ref 15, .ref 16, .int (nI w), .int (nI s), .int (nI wd), .long y', .float 0, .int (nI a), .int (nI b), .int (nI c), w', .float 0, .float 0, .float 0, .float 0, .float 0, .float 0, .float 0, .float 0, .float 0, .float 0, .float 0] [] h Q)
      (f := addb fun i j k => !decide (tuL h i j k ≤ 0))
      (fun a y' w ha hw => by
        rw [s_114_289, if_neg (by rw [nI_le' (by omega) (by omega)]; omega), nI_1]
        exact hw (w.2.1, w.2.2))
      (fun a y' w ha hw => by
        rw [s_114_302, if_pos (Int32.le_refl _), nI_1]
        exact hw (_, w.1, w.2))
      (fun a b y' w ab hb hw => by
        rw [s_114_302, if_neg (by rw [nI_le' (by omega) (by omega)]; omega), nI_1]
        exact hw w.2)
      (fun a b y' w ab hb hw => by
        rw [s_114_315, if_pos (Int32.le_refl _), nI_1]
        exact hw (_, w))
      (fun a b c y' w ab bc hc hw => by
        have hw := hw w
        have i14 : ∀ z, z < 7 → t_in (t_ai h 14) (nI z) = True := fun z hz => t_in_ai t_ar_14 hz
        have i15 : ∀ z, z < 7 → t_in (t_ai h 15) (nI z) = True := fun z hz => t_in_ai t_ar_15 hz
        rw [s_114_315, if_neg (by rw [nI_le' (by omega) (by omega)]; omega)]
        simp only [i14 a (by omega), i14 b (by omega), i14 c (by omega), i15 a (by omega), i15 b (by omega), i15 c (by omega), true_and, nC (show a < 10000 by omega), nC (show b < 10000 by omega), nC (show c < 10000 by omega), s_114_378, nI_1]
        rw [show ((h.1 14 b - h.1 14 a) * (h.1 15 c - h.1 15 a) - (h.1 14 c - h.1 14 a) * (h.1 15 b - h.1 15 a)) = tuL h a b c from rfl]
        unfold addb at hw
        by_cases hf : tuL h a b c ≤ 0
        · rw [if_pos hf]
          rw [if_neg (by simp [hf])] at hw
          exact hw
        · rw [if_neg hf, m_bit (by omega) (by omega) (by omega) (by omega) (by omega) (by omega)]
          simp only [t_kl]
          rw [if_pos (by simp [hf])] at hw
          exact hw)
      0 (fun w => pd_rest P0 s3 hQ (Int32.le_refl _))
    exact key (w11, w12, w13)
  · rw [if_neg s3]
    simp only [t_ob_0', true_and]
    rw [k63 p1]
    simp only [t_ki, not_true_eq_false, if_false]
    rw [k79 (h := t_I h 1 2 0) (D := 0) p5]
    simp only [t_ki]
    rw [if_neg (fun z => z rfl), s_114_282]
    refine ⟨Or.inr rfl, hQ _ ?_⟩
    show h.2.2.2 ≤ _
    omega
/-- the law's whole run, behind what it makes -/
theorem law_ax {h : tH} {C Ls : Nat} {Q : tO → tH → Prop} (P : PI h 0 C Ls) (hQ : ∀ g : tH, g.2.2.2 ≤ C + 86 → Q (RI 1) g) : AX 37 114 24 [.ref 33, .ref 0, .ref 14, .ref 15, .ref 16, .float 0, .float 0, .float 0, .float 0, .float 0, .float 0, .float 0, .float 0, .float 0, .float 0, .float 0, .float 0, .float 0, .float 0, .float 0, .float 0, .float 0, .float 0, .float 0, .float 0] [] h Q := by
  rw [s_114_24]
  obtain ⟨v0, hv0⟩ := m_cel P.2.2.2.2.2.1 (k := 0) (by decide)
  obtain ⟨v1, hv1⟩ := m_cel P.2.2.2.2.2.1 (k := 1) (by decide)
  obtain ⟨a, ha, ra⟩ := m_low (x := v0) (m := 4) (by decide) (by decide)
  obtain ⟨b, hb, rb⟩ := m_low (x := v1) (m := 30) (by decide) (by decide)
  have hv0' : ∀ Q, AM 99 [.ref 33, .int 0] h Q = Q (RI v0) h := hv0
  have hv1' : ∀ Q, AM 99 [.ref 33, .int 1] h Q = Q (RI v1) h := hv1
  have ra' : ∀ (h : tH) (Q : tO → tH → Prop), AM 100 [.int v0, .int 4] h Q = Q (RI (nI a)) h := ra
  have rb' : ∀ (h : tH) (Q : tO → tH → Prop), AM 100 [.int v1, .int 30] h Q = Q (RI (nI b)) h := rb
  simp only [hv0', hv1', ra', rb', t_ki]
  rw [show (4 : Int32) + nI a = nI (4 + a) from nI_add 4 a, show (5 : Int32) + nI b = nI (5 + b) from nI_add 5 b]
  exact pl_all (w := 4 + a) (wd := 5 + b) (Ls := Ls) (Q := Q) (by omega) (by omega) (by omega) 24 0 0 C h _ _ _ _ _ rfl P (by omega) fun g s' t' w9 w10 w11 w12 w13 P' sw' => pd_255 P' fun g hg => hQ g (by omega)
