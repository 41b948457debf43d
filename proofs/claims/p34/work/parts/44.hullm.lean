/-! ===== hulls: who follows on whom ===== -/
theorem pF_iff {f : Nat → Bool} : ∀ (m p : Nat), p + m < 1000 → (pF f p m = -1 ∧ ∀ x, p ≤ x → x < p + m → f x = false) ∨ ∃ x, p ≤ x ∧ x < p + m ∧ f x = true ∧ pF f p m = nI x ∧ ∀ y, p ≤ y → y < x → f y = false := by
  intro m
  induction m with
  | zero => intro p _; exact Or.inl ⟨rfl, fun x h1 h2 => by omega⟩
  | succ m ih =>
    intro p hp
    unfold pF
    cases h : f p with
    | true => exact Or.inr ⟨p, Nat.le_refl _, by omega, h, by simp, fun y a b => by omega⟩
    | false =>
      rcases ih (p + 1) (by omega) with ⟨a, b⟩ | ⟨x, a, b, c, e, g⟩
      · refine Or.inl ⟨by simpa using a, fun x h1 h2 => ?_⟩
        by_cases hx : x = p
        · rw [hx]; exact h
        · exact b x (by omega) (by omega)
      · refine Or.inr ⟨x, by omega, by omega, c, by simpa using e, fun y h1 h2 => ?_⟩
        by_cases hy : y = p
        · rw [hy]; exact h
        · exact g y (by omega) (by omega)
theorem nI_m1 {k : Nat} (h : k < 1000) : nI k ≠ -1 := by
  intro e
  have h1 : (nI k).toInt = k := nI_toInt (by omega)
  rw [e] at h1
  have h2 : (-1 : Int32).toInt = -1 := by decide
  omega
/-- b follows on a: all others of the set lie to one side -/
def fo (χ : tC) (n : Nat) (set : Int32) (a b : Nat) : Prop := b < n ∧ b ≠ a ∧ bt set b = true ∧ ∀ c, c < n → c ≠ a → c ≠ b → bt set c = true → χ a b c = 1
theorem pside_iff {χ : tC} {n a b : Nat} {set : Int32} : pside χ n set a b = true ↔ ∀ c, c < n → c ≠ a → c ≠ b → bt set c = true → χ a b c = 1 := by
  unfold pside
  rw [aB_iff]
  constructor
  · intro h c hc n1 n2 hb
    have t := h c (by omega) (by omega)
    simpa [n1, n2, hb] using t
  · intro h c _ hc
    by_cases n1 : c = a
    · simp [n1]
    by_cases n2 : c = b
    · simp [n2]
    cases hb : bt set c with
    | false => simp
    | true => simp [h c (by omega) n1 n2 hb]
theorem pafter_iff {χ : tC} {n a : Nat} {set : Int32} (h7 : n ≤ 7) : (pafter χ n set a = -1 ∧ ∀ b, ¬ fo χ n set a b) ∨ ∃ b, fo χ n set a b ∧ pafter χ n set a = nI b := by
  unfold pafter
  have key : ∀ b, (!decide (b = a) && bt set b && pside χ n set a b) = true ↔ b ≠ a ∧ bt set b = true ∧ pside χ n set a b = true := fun b => by
    simp only [Bool.and_eq_true, Bool.not_eq_true', decide_eq_false_iff_not, and_assoc, ne_eq]
  rcases pF_iff (f := fun b => !decide (b = a) && bt set b && pside χ n set a b) n 0 (by omega) with ⟨h1, h2⟩ | ⟨x, -, h2, h3, h4, -⟩
  · refine Or.inl ⟨h1, fun b ⟨b1, b2, b3, b4⟩ => ?_⟩
    have := h2 b (by omega) (by omega)
    have t := (key b).mpr ⟨b2, b3, pside_iff.mpr b4⟩
    rw [this] at t
    cases t
  · obtain ⟨a1, a2, a3⟩ := (key x).mp h3
    exact Or.inr ⟨x, ⟨by omega, a1, a2, pside_iff.mp a3⟩, h4⟩
/-- around q, where p is the last of the set's points: there is a first -/
theorem first_of {χ : tC} {n : Nat} (w : WS χ n) (h7 : n ≤ 7) (h : qhold χ n = true) {set : Int32} {p q : Nat} (hp : p < n) (hq : q < n) (pq : p ≠ q) (hl : ∀ c, c < n → c ≠ p → c ≠ q → bt set c = true → χ q c p = 1) :
    ∀ m, m ≤ n → (∃ c, c < m ∧ c ≠ p ∧ c ≠ q ∧ bt set c = true) → ∃ s, s < m ∧ s ≠ p ∧ s ≠ q ∧ bt set s = true ∧ ∀ c, c < m → c ≠ p → c ≠ q → c ≠ s → bt set c = true → χ q s c = 1 := by
  intro m
  induction m with
  | zero => rintro _ ⟨c, hc, -⟩; omega
  | succ m ih =>
    intro hm hex
    by_cases hmm : m ≠ p ∧ m ≠ q ∧ bt set m = true
    · obtain ⟨m1, m2, m3⟩ := hmm
      by_cases hx : ∃ c, c < m ∧ c ≠ p ∧ c ≠ q ∧ bt set c = true
      · obtain ⟨s, s1, s2, s3, s4, s5⟩ := ih (by omega) hx
        rcases WS_at w h7 hq (show s < n by omega) (show m < n by omega) (fun z => s3 z.symm) (by omega) (fun z => m2 z.symm) with e | e
        · refine ⟨s, by omega, s2, s3, s4, fun c c1 c2 c3 c4 c5 => ?_⟩
          by_cases hc : c = m
          · rw [hc]; exact e
          · exact s5 c (by omega) c2 c3 c4 c5
        · have e' : χ q m s = 1 := by
            rw [WS_k w (by omega) (by omega) (by omega), e]
            rfl
          refine ⟨m, by omega, m1, m2, m3, fun c c1 c2 c3 c4 c5 => ?_⟩
          by_cases hc : c = s
          · rw [hc]; exact e'
          · exact gp_tr w h7 h hq hp (show m < n by omega) (show s < n by omega) (show c < n by omega) (fun z => pq z.symm) (fun z => m2 z.symm) (fun z => s3 z.symm) (fun z => c3 z.symm) (fun z => m1 z.symm) (fun z => s2 z.symm) (fun z => c2 z.symm) (by omega) (fun z => hc z.symm) (fun z => c4 z.symm) (hl m (by omega) m1 m2 m3) (hl s (by omega) s2 s3 s4) (hl c (by omega) c2 c3 c5) e' (s5 c (by omega) c2 c3 hc c5)
      · refine ⟨m, by omega, m1, m2, m3, fun c c1 c2 c3 c4 c5 => ?_⟩
        exact absurd ⟨c, by omega, c2, c3, c5⟩ hx
    · obtain ⟨c, c1, c2, c3, c4⟩ := hex
      have hcm : c ≠ m := fun z => hmm (by rw [← z]; exact ⟨c2, c3, c4⟩)
      obtain ⟨s, s1, s2, s3, s4, s5⟩ := ih (by omega) ⟨c, by omega, c2, c3, c4⟩
      refine ⟨s, by omega, s2, s3, s4, fun c c1 c2 c3 c4 c5 => ?_⟩
      have hcm : c ≠ m := fun z => hmm (by rw [← z]; exact ⟨c2, c3, c5⟩)
      exact s5 c (by omega) c2 c3 c4 c5
/-- who is followed on follows on somebody, and is followed by somebody -/
theorem fo_next {χ : tC} {n : Nat} (w : WS χ n) (h7 : n ≤ 7) (h : qhold χ n = true) {set : Int32} {p q : Nat} (hp : p < n) (f : fo χ n set p q) (hex : ∃ c, c < n ∧ c ≠ p ∧ c ≠ q ∧ bt set c = true) : ∃ r, fo χ n set q r := by
  obtain ⟨f1, f2, f3, f4⟩ := f
  have hl : ∀ c, c < n → c ≠ p → c ≠ q → bt set c = true → χ q c p = 1 := fun c c1 c2 c3 c4 => by
    rw [WS_r w (a := p) (b := q) (c := c) (by omega) (by omega) (by omega)]
    exact f4 c c1 c2 c3 c4
  obtain ⟨s, s1, s2, s3, s4, s5⟩ := first_of w h7 h hp f1 (fun z => f2 z.symm) hl n (Nat.le_refl _) hex
  refine ⟨s, s1, s3, s4, fun c c1 c2 c3 c4 => ?_⟩
  by_cases hc : c = p
  · rw [hc]; exact hl s s1 s2 s3 s4
  · exact s5 c c1 hc c2 c3 c4
theorem bt_all {n i : Nat} (h : n ≤ 7) (hi : i < 32) : bt (one n - 1) i = decide (i < n) := by
  have hh : ∀ n, n < 8 → ∀ i, i < 32 → bt (one n - 1) i = decide (i < n) := by decide +kernel
  exact hh n (by omega) i hi
theorem pO_bt {f : Nat → Bool} : ∀ (m p : Nat) (x : Int32) (q : Nat), p + m ≤ 32 → bt (pO f p m x) q = (bt x q || (decide (p ≤ q) && decide (q < p + m) && f q)) := by
  intro m
  induction m with
  | zero =>
    intro p x q _
    have : (decide (p ≤ q) && decide (q < p + 0)) = false := by simp
    rw [this]
    simp [pO]
  | succ m ih =>
    intro p x q hp
    unfold pO
    rw [ih _ _ _ (by omega)]
    by_cases hq : q = p
    · subst hq
      have e1 : decide (q + 1 ≤ q) = false := by simp
      have e2 : decide (q < q + (m + 1)) = true := by simp
      rw [e1, e2]
      cases h : f q with
      | true => rw [if_pos rfl, b_or, bt_one (by omega)]; simp
      | false => simp
    · have e1 : decide (p + 1 ≤ q) = decide (p ≤ q) := by rw [decide_eq_decide]; omega
      have e2 : decide (q < p + 1 + m) = decide (q < p + (m + 1)) := by rw [decide_eq_decide]; omega
      rw [e1, e2]
      cases h : f p with
      | true => rw [if_pos rfl, b_or, bt_one (by omega)]; simp [hq]
      | false => simp
theorem phull_bt {χ : tC} {n : Nat} {set : Int32} (h7 : n ≤ 7) (q : Nat) : bt (phull χ n set) q = (decide (q < n) && (bt set q && (decide (set = one q) || !decide (pafter χ n set q = -1)))) := by
  unfold phull
  rw [pO_bt _ _ _ _ (by omega), b_0]
  simp
theorem qhull_bt {χ : tC} {n : Nat} {set : Int32} (h7 : n ≤ 7) (q : Nat) : bt (qhull χ n set) q = (decide (q < n) && (bt set q && !decide (pafter χ n set q = -1))) := by
  unfold qhull
  rw [pO_bt _ _ _ _ (by omega), b_0]
  simp
/-- a set of two points or more: both tell the same hull -/
theorem phull_q {χ : tC} {n : Nat} {set : Int32} (h7 : n ≤ 7) (h : ∀ q, q < n → set ≠ one q) : phull χ n set = qhull χ n set := by
  refine b_ext fun q _ => ?_
  rw [phull_bt h7, qhull_bt h7]
  by_cases hq : q < n
  · simp [h q hq]
  · simp [hq]
