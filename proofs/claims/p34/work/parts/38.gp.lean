/-! ===== signs that hold: for any order of the points ===== -/
theorem sort4 {P : Nat → Nat → Nat → Nat → Prop} (s12 : ∀ a b c d, P a b c d → P b a c d) (s23 : ∀ a b c d, P a b c d → P a c b d) (s34 : ∀ a b c d, P a b c d → P a b d c) {n : Nat} (h : ∀ a b c d, a < b → b < c → c < d → d < n → P a b c d) :
    ∀ a b c d, a < n → b < n → c < n → d < n → a ≠ b → a ≠ c → a ≠ d → b ≠ c → b ≠ d → c ≠ d → P a b c d := by
  -- the last three rising
  have h1 : ∀ a b c d, a < n → b < n → c < n → d < n → a ≠ b → a ≠ c → a ≠ d → b < c → c < d → P a b c d := by
    intro a b c d ha hb hc hd ab ac ad bc cd
    by_cases h1 : a < b
    · exact h a b c d h1 bc cd hd
    · by_cases h2 : a < c
      · exact s12 _ _ _ _ (h b a c d (by omega) h2 cd hd)
      · by_cases h3 : a < d
        · exact s12 _ _ _ _ (s23 _ _ _ _ (h b c a d bc (by omega) h3 hd))
        · exact s12 _ _ _ _ (s23 _ _ _ _ (s34 _ _ _ _ (h b c d a bc cd (by omega) ha)))
  have h2 : ∀ a b c d, a < n → b < n → c < n → d < n → a ≠ b → a ≠ c → a ≠ d → b ≠ c → b ≠ d → c < d → P a b c d := by
    intro a b c d ha hb hc hd ab ac ad bc bd cd
    by_cases e1 : b < c
    · exact h1 a b c d ha hb hc hd ab ac ad e1 cd
    · by_cases e2 : b < d
      · exact s23 _ _ _ _ (h1 a c b d ha hc hb hd ac ab ad (by omega) e2)
      · exact s23 _ _ _ _ (s34 _ _ _ _ (h1 a c d b ha hc hd hb ac ad ab cd (by omega)))
  intro a b c d ha hb hc hd ab ac ad bc bd cd
  by_cases e1 : c < d
  · exact h2 a b c d ha hb hc hd ab ac ad bc bd e1
  · exact s34 _ _ _ _ (h2 a b d c ha hb hd hc ab ad ac bd bc (by omega))
theorem psame_neg (x y z : Int32) : psame (-x) (-y) (-z) = psame x y z := by
  unfold psame
  simp only [n_neg]
theorem psame_23 (x y z : Int32) : psame x z y = psame x y z := by
  unfold psame
  by_cases h1 : x = y
  · subst h1
    by_cases h2 : x = z
    · simp [h2]
    · have : ¬ z = x := fun e => h2 e.symm
      simp [h2, this]
  · by_cases h2 : x = z
    · subst h2
      simp [h1]
    · simp [h1, h2]
theorem psame_12 (x y z : Int32) : psame y x z = psame x y z := by
  unfold psame
  by_cases h1 : x = y
  · subst h1; simp
  · have : ¬ y = x := fun e => h1 e.symm
    simp [h1, this]
theorem WS_j {χ : tC} {n a b c : Nat} (w : WS χ n) (ha : a < 7) (hb : b < 7) (hc : c < 7) : χ b a c = -χ a b c := (w a b c ha hb hc).2.1
theorem WS_r {χ : tC} {n a b c : Nat} (w : WS χ n) (ha : a < 7) (hb : b < 7) (hc : c < 7) : χ b c a = χ a b c := (w a b c ha hb hc).1
theorem WS_k {χ : tC} {n a b c : Nat} (w : WS χ n) (ha : a < 7) (hb : b < 7) (hc : c < 7) : χ a c b = -χ a b c := by
  rw [WS_j w hc ha hb, WS_r w hb hc ha, WS_r w ha hb hc]
theorem q5_12 {χ : tC} {n e a b c d : Nat} (w : WS χ n) (he : e < 7) (ha : a < 7) (hb : b < 7) (hc : c < 7) (hd : d < 7) : q5 χ e b a c d = q5 χ e a b c d := by
  unfold q5
  rw [WS_k w he ha hb, show χ e b c * χ e d a = -(χ e a d * χ e b c) from by rw [WS_k w he ha hd, Int32.mul_neg, Int32.mul_comm], show χ e b d * χ e a c = -(χ e a c * χ e d b) from by rw [WS_k w he hd hb, Int32.neg_mul, Int32.mul_comm], Int32.neg_mul, psame_neg, psame_23]
theorem q5_23 {χ : tC} {n e a b c d : Nat} (w : WS χ n) (he : e < 7) (ha : a < 7) (hb : b < 7) (hc : c < 7) (hd : d < 7) : q5 χ e a c b d = q5 χ e a b c d := by
  unfold q5
  rw [show χ e a c * χ e b d = -(χ e a c * χ e d b) from by rw [WS_k w he hd hb, Int32.mul_neg], show χ e a b * χ e d c = -(χ e a b * χ e c d) from by rw [WS_k w he hc hd, Int32.mul_neg], show χ e a d * χ e c b = -(χ e a d * χ e b c) from by rw [WS_k w he hb hc, Int32.mul_neg], psame_neg, psame_12]
theorem q5_34 {χ : tC} {n e a b c d : Nat} (w : WS χ n) (he : e < 7) (ha : a < 7) (hb : b < 7) (hc : c < 7) (hd : d < 7) : q5 χ e a b d c = q5 χ e a b c d := by
  unfold q5
  rw [show χ e a b * χ e d c = -(χ e a b * χ e c d) from by rw [WS_k w he hc hd, Int32.mul_neg], show χ e a d * χ e c b = -(χ e a d * χ e b c) from by rw [WS_k w he hb hc, Int32.mul_neg], show χ e a c * χ e b d = -(χ e a c * χ e d b) from by rw [WS_k w he hd hb, Int32.mul_neg], psame_neg, psame_23]
def same4 (x y z t : Int32) : Bool := decide (x = y) && psame x z t
theorem same4_iff {x y z t : Int32} : same4 x y z t = true ↔ x = y ∧ x = z ∧ x = t := by
  unfold same4 psame
  simp only [Bool.and_eq_true, decide_eq_true_eq]
  constructor
  · rintro ⟨rfl, rfl, rfl⟩; exact ⟨rfl, rfl, rfl⟩
  · rintro ⟨rfl, rfl, rfl⟩; exact ⟨rfl, rfl, rfl⟩
theorem q4_same (χ : tC) (a b c d : Nat) : q4 χ a b c d = !same4 (χ b c d) (χ a d c) (χ a b d) (χ a c b) := rfl
/-- the four signs, each with its point left out, in turn -/
theorem q4_12 {χ : tC} {n a b c d : Nat} (w : WS χ n) (ha : a < 7) (hb : b < 7) (hc : c < 7) (hd : d < 7) : q4 χ b a c d = q4 χ a b c d := by
  rw [q4_same, q4_same]
  congr 1
  rw [Bool.eq_iff_iff, same4_iff, same4_iff, WS_k w hb hc hd, WS_j w ha hb hd, WS_r w ha hb hc, WS_k w ha hc hd, WS_k w ha hb hc]
  constructor
  · rintro ⟨h1, h2, h3⟩
    rw [← h3, h1] at *
    refine ⟨by simp, ?_, by simp⟩
    rw [n_neg] at h2
    exact h2
  · rintro ⟨h1, h2, h3⟩
    have h4 : χ a c d = χ a b c := by rw [h1, n_neg] at h3; exact h3
    refine ⟨by rw [h1]; simp, by rw [← h2, h1]; simp, h4⟩
theorem q4_23 {χ : tC} {n a b c d : Nat} (w : WS χ n) (ha : a < 7) (hb : b < 7) (hc : c < 7) (hd : d < 7) : q4 χ a c b d = q4 χ a b c d := by
  rw [q4_same, q4_same]
  congr 1
  rw [Bool.eq_iff_iff, same4_iff, same4_iff, WS_j w hb hc hd, WS_k w ha hb hd, WS_k w ha hc hd, WS_k w ha hb hc]
  constructor
  · rintro ⟨h1, h2, h3⟩
    refine ⟨by rw [← h2]; simp, by rw [n_neg] at h1; exact h1, by rw [← h3]; simp⟩
  · rintro ⟨h1, h2, h3⟩
    refine ⟨by rw [h2], by rw [h1]; simp, by rw [h3]; simp⟩
theorem q4_34 {χ : tC} {n a b c d : Nat} (w : WS χ n) (ha : a < 7) (hb : b < 7) (hc : c < 7) (hd : d < 7) : q4 χ a b d c = q4 χ a b c d := by
  rw [q4_same, q4_same]
  congr 1
  rw [Bool.eq_iff_iff, same4_iff, same4_iff, WS_k w hb hc hd, WS_k w ha hb hd, WS_k w ha hc hd, WS_k w ha hb hc]
  constructor
  · rintro ⟨h1, h2, h3⟩
    refine ⟨by rw [← h1]; simp, by rw [n_neg] at h3; exact h3, by rw [← h2]; simp⟩
  · rintro ⟨h1, h2, h3⟩
    refine ⟨by rw [h1]; simp, by rw [h3]; simp, by rw [h2]⟩
theorem qhold_iff {χ : tC} {n : Nat} : qhold χ n = true ↔ ∀ a b c d, a < b → b < c → c < d → d < n → q4 χ a b c d = true ∧ ∀ e, e < n → e ≠ a → e ≠ b → e ≠ c → e ≠ d → q5 χ e a b c d = true := by
  unfold qhold
  rw [aB_iff]
  constructor
  · intro h a b c d h1 h2 h3 h4
    have t1 := h a (by omega) (by omega)
    have t2 := (aB_iff _ _ _).mp t1 b (by omega) (by omega)
    have t3 := (aB_iff _ _ _).mp t2 c (by omega) (by omega)
    have t4 := (aB_iff _ _ _).mp t3 d (by omega) (by omega)
    unfold qh4 at t4
    rw [Bool.and_eq_true] at t4
    refine ⟨t4.1, fun e he n1 n2 n3 n4 => ?_⟩
    have t5 := (aB_iff _ _ _).mp t4.2 e (by omega) (by omega)
    simpa [n1, n2, n3, n4] using t5
  · intro h a _ ha
    refine (aB_iff _ _ _).mpr fun b hb1 hb2 => (aB_iff _ _ _).mpr fun c hc1 hc2 => (aB_iff _ _ _).mpr fun d hd1 hd2 => ?_
    obtain ⟨t1, t2⟩ := h a b c d (by omega) (by omega) (by omega) (by omega)
    unfold qh4
    rw [Bool.and_eq_true]
    refine ⟨t1, (aB_iff _ _ _).mpr fun e _ he => ?_⟩
    by_cases n1 : e = a
    · simp [n1]
    by_cases n2 : e = b
    · simp [n2]
    by_cases n3 : e = c
    · simp [n3]
    by_cases n4 : e = d
    · simp [n4]
    rw [t2 e (by omega) n1 n2 n3 n4]
    simp
theorem gp4 {χ : tC} {n : Nat} (w : WS χ n) (h7 : n ≤ 7) (h : qhold χ n = true) : ∀ a b c d, a < n → b < n → c < n → d < n → a ≠ b → a ≠ c → a ≠ d → b ≠ c → b ≠ d → c ≠ d → q4 χ a b c d = true := by
  have hh := qhold_iff.mp h
  have := sort4 (P := fun a b c d => a < 7 → b < 7 → c < 7 → d < 7 → q4 χ a b c d = true) (n := n)
    (fun a b c d k h1 h2 h3 h4 => by rw [q4_12 w h2 h1 h3 h4]; exact k h2 h1 h3 h4)
    (fun a b c d k h1 h2 h3 h4 => by rw [q4_23 w h1 h3 h2 h4]; exact k h1 h3 h2 h4)
    (fun a b c d k h1 h2 h3 h4 => by rw [q4_34 w h1 h2 h4 h3]; exact k h1 h2 h4 h3)
    (fun a b c d h1 h2 h3 h4 _ _ _ _ => (hh a b c d h1 h2 h3 h4).1)
  intro a b c d ha hb hc hd ab ac ad bc bd cd
  exact this a b c d ha hb hc hd ab ac ad bc bd cd (by omega) (by omega) (by omega) (by omega)
theorem gp5 {χ : tC} {n : Nat} (w : WS χ n) (h7 : n ≤ 7) (h : qhold χ n = true) {e : Nat} (he : e < n) : ∀ a b c d, a < n → b < n → c < n → d < n → a ≠ b → a ≠ c → a ≠ d → b ≠ c → b ≠ d → c ≠ d → e ≠ a → e ≠ b → e ≠ c → e ≠ d → q5 χ e a b c d = true := by
  have hh := qhold_iff.mp h
  have he7 : e < 7 := by omega
  have := sort4 (P := fun a b c d => a < 7 → b < 7 → c < 7 → d < 7 → e ≠ a → e ≠ b → e ≠ c → e ≠ d → q5 χ e a b c d = true) (n := n)
    (fun a b c d k h1 h2 h3 h4 n1 n2 n3 n4 => by rw [q5_12 w he7 h2 h1 h3 h4]; exact k h2 h1 h3 h4 n2 n1 n3 n4)
    (fun a b c d k h1 h2 h3 h4 n1 n2 n3 n4 => by rw [q5_23 w he7 h1 h3 h2 h4]; exact k h1 h3 h2 h4 n1 n3 n2 n4)
    (fun a b c d k h1 h2 h3 h4 n1 n2 n3 n4 => by rw [q5_34 w he7 h1 h2 h4 h3]; exact k h1 h2 h4 h3 n1 n2 n4 n3)
    (fun a b c d h1 h2 h3 h4 _ _ _ _ n1 n2 n3 n4 => (hh a b c d h1 h2 h3 h4).2 e he n1 n2 n3 n4)
  intro a b c d ha hb hc hd ab ac ad bc bd cd ea eb ec ed
  exact this a b c d ha hb hc hd ab ac ad bc bd cd (by omega) (by omega) (by omega) (by omega) ea eb ec ed
/-- seen from q, where p is the last: the others lie in a row -/
theorem gp_tr {χ : tC} {n : Nat} (w : WS χ n) (h7 : n ≤ 7) (h : qhold χ n = true) {q p r s t : Nat} (hq : q < n) (hp : p < n) (hr : r < n) (hs : s < n) (ht : t < n) (d1 : q ≠ p) (d2 : q ≠ r) (d3 : q ≠ s) (d4 : q ≠ t) (d5 : p ≠ r) (d6 : p ≠ s) (d7 : p ≠ t) (d8 : r ≠ s) (d9 : s ≠ t) (d10 : r ≠ t)
    (e1 : χ q r p = 1) (e2 : χ q s p = 1) (e3 : χ q t p = 1) (e4 : χ q r s = 1) (e5 : χ q s t = 1) : χ q r t = 1 := by
  have g := gp5 w h7 h hq p r s t hp hr hs ht d5 d6 d7 d8 d10 d9 d1 d2 d3 d4
  unfold q5 psame at g
  rw [WS_k w (by omega) (by omega) (by omega), WS_k w (a := q) (b := s) (c := p) (by omega) (by omega) (by omega), WS_k w (a := q) (b := t) (c := p) (by omega) (by omega) (by omega), WS_k w (a := q) (b := r) (c := t) (by omega) (by omega) (by omega), e1, e2, e3, e4, e5] at g
  rcases WS_at w h7 hq hr ht d2 d10 d4 with k | k
  · exact k
  · rw [k] at g
    exact absurd g (by decide)
