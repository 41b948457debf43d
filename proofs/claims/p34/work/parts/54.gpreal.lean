/-! ===== points with numbers: their signs hold ===== -/
def sI (x : Int) : Int32 := if 0 < x then 1 else -1
theorem sI_pm (x : Int) : sI x = 1 ∨ sI x = -1 := by
  unfold sI
  by_cases h : 0 < x
  · rw [if_pos h]; exact Or.inl rfl
  · rw [if_neg h]; exact Or.inr rfl
theorem sI_neg {x : Int} (h : x ≠ 0) : sI (-x) = -sI x := by
  unfold sI
  by_cases h1 : 0 < x
  · rw [if_pos h1, if_neg (by omega)]
  · rw [if_neg h1, if_pos (by omega)]; rfl
theorem sI_mul {x y : Int} (hx : x ≠ 0) (hy : y ≠ 0) : sI x * sI y = sI (x * y) := by
  unfold sI
  by_cases h1 : 0 < x
  · by_cases h2 : 0 < y
    · rw [if_pos h1, if_pos h2, if_pos (Int.mul_pos h1 h2)]; rfl
    · rw [if_pos h1, if_neg h2, if_neg (by have := Int.mul_neg_of_pos_of_neg h1 (show y < 0 by omega); omega)]; rfl
  · by_cases h2 : 0 < y
    · rw [if_neg h1, if_pos h2, if_neg (by have := Int.mul_neg_of_neg_of_pos (show x < 0 by omega) h2; omega)]; rfl
    · rw [if_neg h1, if_neg h2, if_pos (Int.mul_pos_of_neg_of_neg (show x < 0 by omega) (show y < 0 by omega))]; rfl
theorem sI_eq {x y : Int} (h : sI x = sI y) : (0 < x ∧ 0 < y) ∨ (x ≤ 0 ∧ y ≤ 0) := by
  unfold sI at h
  by_cases h1 : 0 < x
  · by_cases h2 : 0 < y
    · exact Or.inl ⟨h1, h2⟩
    · rw [if_pos h1, if_neg h2] at h; exact absurd h (by decide)
  · by_cases h2 : 0 < y
    · rw [if_neg h1, if_pos h2] at h; exact absurd h (by decide)
    · exact Or.inr ⟨by omega, by omega⟩
theorem real_hold {χ : tC} {n : Nat} {T : Nat → Nat → Nat → Int} (h : ∀ i j k, i < n → j < n → k < n → i ≠ j → j ≠ k → i ≠ k → T i j k ≠ 0 ∧ χ i j k = sI (T i j k))
    (g4 : ∀ a b c d, T b c d + T a d c + T a b d + T a c b = 0) (g5 : ∀ a b c d e, T a b c * T a d e + T a b d * T a e c + T a b e * T a c d = 0) : qhold χ n = true := by
  refine qhold_iff.mpr fun a b c d h1 h2 h3 h4 => ⟨?_, fun e he ea eb ec ed => ?_⟩
  · rw [q4_same, Bool.not_eq_true', ← Bool.not_eq_true, same4_iff]
    rintro ⟨s1, s2, s3⟩
    obtain ⟨n1, e1⟩ := h b c d (by omega) (by omega) (by omega) (by omega) (by omega) (by omega)
    obtain ⟨n2, e2⟩ := h a d c (by omega) (by omega) (by omega) (by omega) (by omega) (by omega)
    obtain ⟨n3, e3⟩ := h a b d (by omega) (by omega) (by omega) (by omega) (by omega) (by omega)
    obtain ⟨n4, e4⟩ := h a c b (by omega) (by omega) (by omega) (by omega) (by omega) (by omega)
    rw [e1, e2] at s1
    rw [e1, e3] at s2
    rw [e1, e4] at s3
    have g := g4 a b c d
    have k1 := sI_eq s1
    have k2 := sI_eq s2
    have k3 := sI_eq s3
    omega
  · unfold q5 psame
    rw [Bool.not_eq_true', ← Bool.not_eq_true, Bool.and_eq_true, decide_eq_true_eq, decide_eq_true_eq]
    rintro ⟨s1, s2⟩
    obtain ⟨n1, e1⟩ := h e a b (by omega) (by omega) (by omega) (by omega) (by omega) (by omega)
    obtain ⟨n2, e2⟩ := h e c d (by omega) (by omega) (by omega) (by omega) (by omega) (by omega)
    obtain ⟨n3, e3⟩ := h e a c (by omega) (by omega) (by omega) (by omega) (by omega) (by omega)
    obtain ⟨n4, e4⟩ := h e d b (by omega) (by omega) (by omega) (by omega) (by omega) (by omega)
    obtain ⟨n5, e5⟩ := h e a d (by omega) (by omega) (by omega) (by omega) (by omega) (by omega)
    obtain ⟨n6, e6⟩ := h e b c (by omega) (by omega) (by omega) (by omega) (by omega) (by omega)
    rw [e1, e2, e3, e4, sI_mul n1 n2, sI_mul n3 n4] at s1
    rw [e3, e4, e5, e6, sI_mul n3 n4, sI_mul n5 n6] at s2
    have g := g5 e a b c d
    have k1 := sI_eq s1
    have k2 := sI_eq s2
    have z1 := Int.mul_ne_zero n1 n2
    have z3 := Int.mul_ne_zero n5 n6
    omega
/-- the turn of three places -/
def tI (x y x' y' x'' y'' : Int) : Int := (x' - x) * (y'' - y) - (x'' - x) * (y' - y)
theorem tI_4 (xa ya xb yb xc yc xd yd : Int) : tI xb yb xc yc xd yd + tI xa ya xd yd xc yc + tI xa ya xb yb xd yd + tI xa ya xc yc xb yb = 0 := by
  unfold tI
  grind
theorem tI_5 (xa ya xb yb xc yc xd yd xe ye : Int) : tI xa ya xb yb xc yc * tI xa ya xd yd xe ye + tI xa ya xb yb xd yd * tI xa ya xe ye xc yc + tI xa ya xb yb xe ye * tI xa ya xc yc xd yd = 0 := by
  unfold tI
  grind
theorem tI_j (xa ya xb yb xc yc : Int) : tI xb yb xa ya xc yc = -tI xa ya xb yb xc yc := by
  unfold tI
  grind
theorem tI_r (xa ya xb yb xc yc : Int) : tI xb yb xc yc xa ya = tI xa ya xb yb xc yc := by
  unfold tI
  grind
theorem sg_sI {a : Int32} (h : a ≠ 0) : sg a = sI a.toInt ∧ a.toInt ≠ 0 := by
  have z : (0 : Int32).toInt = 0 := by decide
  have hz : a.toInt ≠ 0 := fun e => h (by rw [← Int32.toInt_inj, e, z])
  refine ⟨?_, hz⟩
  unfold sg sI
  have e : ((0 : Int32) ≤ a) = (0 ≤ a.toInt) := by rw [Int32.le_iff_toInt_le, z]
  by_cases h1 : 0 < a.toInt
  · rw [if_pos (by rw [e]; omega), if_pos h, if_pos h1]
  · rw [if_neg (by rw [e]; omega), if_neg h1]
/-- the signs of the shelf's points -/
def shF (h : tH) : tC := fun i j k => sg (tu (h.1 2 i) (h.1 3 i) (h.1 2 j) (h.1 3 j) (h.1 2 k) (h.1 3 k))
theorem shelf_hold {h : tH} {s : Nat} (v : SV h s) : WS (t3 (shF h) s (fun _ _ _ => 0)) s ∧ qhold (t3 (shF h) s (fun _ _ _ => 0)) s = true := by
  obtain ⟨-, -, s3, s4, s5⟩ := v
  obtain ⟨χ, hχ⟩ : ∃ χ, χ = t3 (shF h) s (fun _ _ _ => 0) := ⟨_, rfl⟩
  rw [← hχ]
  have az : AZ χ s := by rw [hχ]; exact t3_AZ AZ_0
  have up : ∀ i j k, i < j → j < k → k < s → χ i j k = sI (tI (h.1 2 i).toInt (h.1 3 i).toInt (h.1 2 j).toInt (h.1 3 j).toInt (h.1 2 k).toInt (h.1 3 k).toInt) ∧ tI (h.1 2 i).toInt (h.1 3 i).toInt (h.1 2 j).toInt (h.1 3 j).toInt (h.1 2 k).toInt (h.1 3 k).toInt ≠ 0 := by
    intro i j k h1 h2 h3
    obtain ⟨-, -, a1, a2⟩ := s4 i (by omega)
    obtain ⟨-, -, b1, b2⟩ := s4 j (by omega)
    obtain ⟨-, -, c1, c2⟩ := s4 k h3
    have e := tu_i a1 a2 b1 b2 c1 c2
    obtain ⟨e1, e2⟩ := sg_sI (s5 i j k h1 h2 h3)
    rw [e] at e1 e2
    refine ⟨?_, e2⟩
    rw [hχ, t3_val h1 h2 h3]
    exact e1
  have all : ∀ i j k, i < s → j < s → k < s → i ≠ j → j ≠ k → i ≠ k → i < 7 ∧ j < 7 ∧ k < 7 ∧ χ i j k = sI (tI (h.1 2 i).toInt (h.1 3 i).toInt (h.1 2 j).toInt (h.1 3 j).toInt (h.1 2 k).toInt (h.1 3 k).toInt) ∧ tI (h.1 2 i).toInt (h.1 3 i).toInt (h.1 2 j).toInt (h.1 3 j).toInt (h.1 2 k).toInt (h.1 3 k).toInt ≠ 0 := by
    refine alt6 (fun a b c ⟨a1, a2, a3, a4, a5⟩ => ⟨a2, a1, a3, ?_, ?_⟩) (fun a b c ⟨a1, a2, a3, a4, a5⟩ => ⟨a2, a3, a1, ?_, ?_⟩) fun a b c h1 h2 h3 => ⟨by omega, by omega, by omega, up a b c h1 h2 h3⟩
    · rw [(az a b c a1 a2 a3).2.1, a4, ← sI_neg a5, tI_j (h.1 2 a).toInt (h.1 3 a).toInt (h.1 2 b).toInt (h.1 3 b).toInt (h.1 2 c).toInt (h.1 3 c).toInt]
    · rw [tI_j (h.1 2 a).toInt (h.1 3 a).toInt (h.1 2 b).toInt (h.1 3 b).toInt (h.1 2 c).toInt (h.1 3 c).toInt]; omega
    · rw [(az a b c a1 a2 a3).1, a4, tI_r (h.1 2 a).toInt (h.1 3 a).toInt (h.1 2 b).toInt (h.1 3 b).toInt (h.1 2 c).toInt (h.1 3 c).toInt]
    · rw [tI_r (h.1 2 a).toInt (h.1 3 a).toInt (h.1 2 b).toInt (h.1 3 b).toInt (h.1 2 c).toInt (h.1 3 c).toInt]; exact a5
  refine ⟨WS_AZ s3 az fun a b c h1 h2 h3 => by rw [(up a b c h1 h2 h3).1]; exact sI_pm _, ?_⟩
  exact real_hold (T := fun i j k => tI (h.1 2 i).toInt (h.1 3 i).toInt (h.1 2 j).toInt (h.1 3 j).toInt (h.1 2 k).toInt (h.1 3 k).toInt)
    (fun i j k a1 a2 a3 b1 b2 b3 => ⟨(all i j k a1 a2 a3 b1 b2 b3).2.2.2.2, (all i j k a1 a2 a3 b1 b2 b3).2.2.2.1⟩)
    (fun a b c d => tI_4 _ _ _ _ _ _ _ _) (fun a b c d e => tI_5 _ _ _ _ _ _ _ _ _ _)
