/-! ===== Signs ===== -/
def zb (b : Bool) : Int32 := if b = true then 1 else 0
theorem zb_t : zb true = 1 := rfl
theorem zb_f : zb false = 0 := rfl
theorem zb_0 {b : Bool} : (zb b = 0) = (b = false) := by cases b <;> simp [zb]
theorem zb_1 {b : Bool} : (zb b = 1) = (b = true) := by cases b <;> simp [zb]
theorem zb_or (b : Bool) : zb b = 0 ∨ zb b = 1 := by cases b <;> simp [zb]
theorem zb_z {b : Bool} {X : Prop} : ((zb b = 0 ∨ zb b = 1) ∧ X) = X := propext ⟨fun x => x.2, fun x => ⟨zb_or b, x⟩⟩
def p4 (χ : tC) (a b c d : Nat) : Bool := decide (χ b c d = 0) || !decide (χ a d c = χ b c d) || !decide (χ a b d = χ b c d) || !decide (χ a c b = χ b c d)
def p5 (χ : tC) (a b c d e : Nat) : Bool := decide (χ a b c * χ a d e = 0) || !decide (χ a b d * χ a e c = χ a b c * χ a d e) || !decide (χ a b e * χ a c d = χ a b c * χ a d e)
def p5a (χ : tC) (i j k x y : Nat) : Bool := p5 χ i j k x y && p5 χ j i k x y && p5 χ k i j x y
/-- all of m numbers from p on -/
def aB (f : Nat → Bool) : Nat → Nat → Bool
  | _, 0 => true
  | p, m + 1 => f p && aB f (p + 1) m
theorem aB_iff (f : Nat → Bool) : ∀ m p, aB f p m = true ↔ ∀ x, p ≤ x → x < p + m → f x = true := by
  intro m
  induction m with
  | zero => intro p; exact ⟨fun _ x h1 h2 => by omega, fun _ => rfl⟩
  | succ m ih =>
    intro p
    unfold aB
    rw [Bool.and_eq_true, ih]
    constructor
    · rintro ⟨h1, h2⟩ x h3 h4
      by_cases hx : x = p
      · rw [hx]; exact h1
      · exact h2 x (by omega) (by omega)
    · exact fun h => ⟨h p (Nat.le_refl _) (by omega), fun x h1 h2 => h x (by omega) (by omega)⟩
def pfits (χ : tC) (n i j k : Nat) : Bool := aB (fun x => decide (x = i) || decide (x = j) || decide (x = k) || (p4 χ i j k x && aB (fun y => decide (y = i) || decide (y = j) || decide (y = k) || p5a χ i j k x y) (x + 1) (n - (x + 1)))) 0 n
/-- the count of a thing of signs -/
def tn (h : tH) (r n : Nat) : Prop := t_ob r = some 6 ∧ h.1 r 1 = nI n ∧ n ≤ 7
theorem nI_le' {a b : Nat} (ha : a < 1000) (hb : b < 1000) : (nI a ≤ nI b) = (a ≤ b) := propext (nI_leI (by omega) (by omega))
theorem nI_lt' {a b : Nat} (ha : a < 1000) (hb : b < 1000) : (nI a < nI b) = (a < b) := propext (nI_ltI (by omega) (by omega))
theorem nI_eq' {a b : Nat} (ha : a < 1000) (hb : b < 1000) : (nI a = nI b) = (a = b) := propext (nI_eq (by omega) (by omega))
theorem m_four {h : tH} {r a b c d : Nat} (ho : t_ob r = some 6) (ha : a < 7) (hb : b < 7) (hc : c < 7) (hd : d < 7) (Q : tO → tH → Prop) : AM 47 [.ref r, .int (nI a), .int (nI b), .int (nI c), .int (nI d)] h Q = Q (.inl (some (.int (zb (p4 (tX h r) a b c d))))) h := by
  rw [am_47, s_47_0]
  simp (disch := assumption) only [m_of ho, t_ki, ho, true_and, s_47_53, s_47_58, p4]
  by_cases h1 : tX h r b c d = 0 <;> by_cases h2 : tX h r a d c = tX h r b c d <;> by_cases h3 : tX h r a b d = tX h r b c d <;> by_cases h4 : tX h r a c b = tX h r b c d <;> simp [h1, h2, h3, h4, zb]
theorem m_five {h : tH} {r a b c d e : Nat} (ho : t_ob r = some 6) (ha : a < 7) (hb : b < 7) (hc : c < 7) (hd : d < 7) (he : e < 7) (Q : tO → tH → Prop) : AM 49 [.ref r, .int (nI a), .int (nI b), .int (nI c), .int (nI d), .int (nI e)] h Q = Q (.inl (some (.int (zb (p5 (tX h r) a b c d e))))) h := by
  rw [am_49, s_49_0]
  simp (disch := assumption) only [m_of ho, t_ki, ho, true_and, s_49_68, s_49_73, p5]
  by_cases h1 : tX h r a b c * tX h r a d e = 0 <;> by_cases h2 : tX h r a b d * tX h r a e c = tX h r a b c * tX h r a d e <;> by_cases h3 : tX h r a b e * tX h r a c d = tX h r a b c * tX h r a d e <;> simp [h1, h2, h3, zb]
theorem m_fiveA {h : tH} {r a b c d e : Nat} (ho : t_ob r = some 6) (ha : a < 7) (hb : b < 7) (hc : c < 7) (hd : d < 7) (he : e < 7) (Q : tO → tH → Prop) : AM 48 [.ref r, .int (nI a), .int (nI b), .int (nI c), .int (nI d), .int (nI e)] h Q = Q (.inl (some (.int (zb (p5a (tX h r) a b c d e))))) h := by
  rw [am_48, s_48_0]
  simp (disch := assumption) only [m_five ho, t_ki, ho, true_and, s_48_46, s_48_47, p5a, zb_0]
  repeat' split
  all_goals simp_all [zb]
theorem m_fits {h : tH} {r n i j k : Nat} (hn : tn h r n) (hi : i < n) (hj : j < n) (hk : k < n) (Q : tO → tH → Prop) : AM 46 [.ref r, .int (nI i), .int (nI j), .int (nI k)] h Q = Q (.inl (some (.int (zb (pfits (tX h r) n i j k))))) h := by
  obtain ⟨ho, hc, h7⟩ := hn
  have hi7 : i < 7 := by omega
  have hj7 : j < 7 := by omega
  have hk7 : k < 7 := by omega
  have inner : ∀ (x : Nat), x < n → ∀ (m y : Nat), y + m = n → AX 4 46 53 [.ref r, .int (nI i), .int (nI j), .int (nI k), .int (nI x), .int (nI y)] [] h Q =
      (if aB (fun y => decide (y = i) || decide (y = j) || decide (y = k) || p5a (tX h r) i j k x y) y m = true then AX 4 46 3 [.ref r, .int (nI i), .int (nI j), .int (nI k), .int (nI (x + 1)), .int (nI n)] [] h Q else Q (.inl (some (.int 0))) h) := by
    intro x hx m
    induction m with
    | zero =>
      intro y hy
      rw [s_46_53]
      have : y = n := by omega
      subst this
      simp (disch := omega) only [hc, ho, true_and, nI_le', Nat.le_refl, if_true, s_46_102, nI_1, aB]
    | succ m ih =>
      intro y hy
      rw [s_46_53]
      have hx7 : x < 7 := by omega
      have hy7 : y < 7 := by omega
      simp (disch := first | assumption | omega) only [hc, ho, true_and, nI_le', nI_eq', s_46_96, nI_1, m_fiveA ho, t_ki, ih, aB, zb_0]
      rw [if_neg (by omega)]
      by_cases h1 : y = i
      · simp [h1]
      · by_cases h2 : y = j
        · simp [h1, h2]
        · by_cases h3 : y = k
          · simp [h1, h2, h3]
          · by_cases h4 : p5a (tX h r) i j k x y = true <;> simp [h1, h2, h3, h4]
  have outer : ∀ (m x : Nat), x + m = n → ∀ w, AX 4 46 3 [.ref r, .int (nI i), .int (nI j), .int (nI k), .int (nI x), w] [] h Q =
      Q (.inl (some (.int (zb (aB (fun x => decide (x = i) || decide (x = j) || decide (x = k) || (p4 (tX h r) i j k x && aB (fun y => decide (y = i) || decide (y = j) || decide (y = k) || p5a (tX h r) i j k x y) (x + 1) (n - (x + 1)))) x m))))) h := by
    intro m
    induction m with
    | zero =>
      intro x hx w
      rw [s_46_3]
      have : x = n := by omega
      subst this
      simp (disch := omega) only [hc, ho, true_and, nI_le', Nat.le_refl, if_true, aB, zb_t]
    | succ m ih =>
      intro x hx w
      rw [s_46_3]
      have hx7 : x < 7 := by omega
      have hxn : x < n := by omega
      simp (disch := first | assumption | omega) only [hc, ho, true_and, nI_le', nI_eq', s_46_102, nI_1, m_four ho, t_ki, ih, aB, zb_0, inner x hxn (n - (x + 1)) (x + 1) (by omega)]
      rw [if_neg (by omega)]
      by_cases h1 : x = i
      · simp [h1]
      · by_cases h2 : x = j
        · simp [h1, h2]
        · by_cases h3 : x = k
          · simp [h1, h2, h3]
          · by_cases h4 : p4 (tX h r) i j k x = true
            · by_cases h5 : aB (fun y => decide (y = i) || decide (y = j) || decide (y = k) || p5a (tX h r) i j k x y) (x + 1) (n - (x + 1)) = true <;> simp [h1, h2, h3, h4, h5, zb]
            · simp [h1, h2, h3, h4, zb]
  rw [am_46, s_46_0]
  exact outer n 0 (by omega) (.float 0)
