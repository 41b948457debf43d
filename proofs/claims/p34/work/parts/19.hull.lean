/-! ===== bits of whole numbers as sets; hulls ===== -/
theorem bt_1 (i : Nat) : bt 1 i = decide (i = 0) := by
  by_cases h : i < 32
  · have hh : ∀ i, i < 32 → bt 1 i = decide (i = 0) := by decide +kernel
    exact hh i h
  · rw [b_big (by omega)]
    simp
    omega
def one (p : Nat) : Int32 := 1 <<< (nI p &&& 31)
theorem bt_one {p i : Nat} (hp : p < 32) : bt (one p) i = decide (i = p) := by
  by_cases h : i < 32
  · unfold one
    rw [b_shl p hp 1 h, bt_1]
    by_cases h2 : i = p
    · subst h2; simp
    · by_cases h3 : p ≤ i <;> simp [h2, h3]; omega
  · rw [b_big (by omega)]
    simp
    omega
theorem has_iff {x : Int32} {p : Nat} (hp : p < 32) : (x &&& one p = 0) = (bt x p = false) := by
  refine propext ⟨fun h => ?_, fun h => b_ext fun i hi => ?_⟩
  · have h1 : bt (x &&& one p) p = bt 0 p := by rw [h]
    rw [b_and, bt_one hp, b_0] at h1
    simpa using h1
  · rw [b_and, bt_one hp, b_0]
    by_cases h2 : i = p
    · subst h2; simp [h]
    · simp [h2]
/-- the bit by a shift to the right -/
theorem shr_iff {x : Int32} {p : Nat} (hp : p < 31) : ((x >>> (nI p &&& 31)) &&& 1 = 1) = (bt x p = true) := by
  have hb : ∀ i, i < 32 → bt ((x >>> (nI p &&& 31)) &&& 1) i = (decide (i = 0) && bt x p) := by
    intro i hi
    rw [b_and, bt_1, b_sshr p (by omega) x hi]
    by_cases h : i = 0
    · subst h; simp; omega
    · simp [h]
  refine propext ⟨fun h => ?_, fun h => b_ext fun i hi => ?_⟩
  · have h1 := hb 0 (by omega)
    rw [h, bt_1] at h1
    simpa using h1.symm
  · rw [hb i hi, bt_1, h]; simp
theorem m_has' {h : tH} {x : Int32} {p : Nat} (hp : p < 31) (Q : tO → tH → Prop) : AM 4 [.int x, .int (nI p)] h Q = Q (.inl (some (.int (zb (bt x p))))) h := by
  rw [m_has]
  have e : (1 : Int32) <<< (nI p &&& 31) = one p := rfl
  rw [e]
  have := has_iff (x := x) (p := p) (by omega)
  cases hb : bt x p
  · rw [hb] at this; simp [this, zb]
  · rw [hb] at this; simp [this, zb]
theorem m_one' {h : tH} {p : Nat} (Q : tO → tH → Prop) : AM 2 [.int (nI p)] h Q = Q (.inl (some (.int (one p)))) h := m_one Q
/-- the first of m numbers from p on, or -1 -/
def pF (f : Nat → Bool) : Nat → Nat → Int32
  | _, 0 => -1
  | p, m + 1 => if f p = true then nI p else pF f (p + 1) m
theorem m_lowest {h : tH} {x : Int32} (Q : tO → tH → Prop) : AM 5 [.int x] h Q = Q (.inl (some (.int (pF (bt x) 0 7)))) h := by
  have loop : ∀ (m p : Nat), p + m = 7 → AX 2 5 2 [.int x, .int (nI p)] [] h Q = Q (.inl (some (.int (pF (bt x) p m)))) h := by
    intro m
    induction m with
    | zero =>
      intro p hp
      have : p = 7 := by omega
      subst this
      rw [s_5_2, if_pos (by decide)]
      rfl
    | succ m ih =>
      intro p hp
      rw [s_5_2, if_neg (show ¬ (7 : Int32) ≤ nI p from nI_ge (a := p) (b := 7) (by omega) (by omega)), m_has' (by omega)]
      simp only [t_ki, zb_0, nI_1]
      rw [ih (p + 1) (by omega)]
      show _ = Q (.inl (some (.int (if bt x p = true then nI p else pF (bt x) (p + 1) m)))) h
      cases bt x p <;> simp
  rw [am_5, s_5_0]
  exact loop 7 0 (by omega)
def pside (χ : tC) (n : Nat) (set : Int32) (a b : Nat) : Bool := aB (fun c => decide (c = a) || decide (c = b) || !bt set c || decide (χ a b c = 1)) 0 n
theorem m_side {h : tH} {r n a b : Nat} {set : Int32} (hn : tn h r n) (ha : a < n) (hb : b < n) (Q : tO → tH → Prop) : AM 13 [.ref r, .int set, .int (nI a), .int (nI b)] h Q = Q (.inl (some (.int (zb (pside (tX h r) n set a b))))) h := by
  obtain ⟨ho, hc, h7⟩ := hn
  have ha7 : a < 7 := by omega
  have hb7 : b < 7 := by omega
  have loop : ∀ (m c : Nat), c + m = n → AX 2 13 3 [.ref r, .int set, .int (nI a), .int (nI b), .int (nI c)] [] h Q = Q (.inl (some (.int (zb (aB (fun c => decide (c = a) || decide (c = b) || !bt set c || decide (tX h r a b c = 1)) c m))))) h := by
    intro m
    induction m with
    | zero =>
      intro c hcn
      rw [s_13_3, hc]
      have : c = n := by omega
      subst this
      simp (disch := omega) only [ho, true_and, nI_le', Nat.le_refl, if_true, aB, zb_t]
    | succ m ih =>
      intro c hcn
      rw [s_13_3, hc]
      have hc7 : c < 7 := by omega
      have hc31 : c < 31 := by omega
      simp (disch := first | assumption | omega) only [ho, true_and, nI_le', nI_eq', s_13_47, nI_1, m_has' hc31, m_of ho, t_ki, ih, aB, zb_0]
      rw [if_neg (by omega)]
      by_cases h1 : c = a
      · simp [h1]
      · by_cases h2 : c = b
        · simp [h1, h2]
        · by_cases h3 : bt set c = true
          · by_cases h4 : tX h r a b c = 1 <;> simp [h1, h2, h3, h4, zb]
          · simp [h1, h2, h3]
  rw [am_13, s_13_0]
  exact loop n 0 (by omega)
def pafter (χ : tC) (n : Nat) (set : Int32) (a : Nat) : Int32 := pF (fun b => !decide (b = a) && bt set b && pside χ n set a b) 0 n
theorem m_after {h : tH} {r n a : Nat} {set : Int32} (hn : tn h r n) (ha : a < n) (Q : tO → tH → Prop) : AM 12 [.ref r, .int set, .int (nI a)] h Q = Q (.inl (some (.int (pafter (tX h r) n set a)))) h := by
  obtain ⟨ho, hc, h7⟩ := id hn
  have loop : ∀ (m b : Nat), b + m = n → AX 3 12 2 [.ref r, .int set, .int (nI a), .int (nI b)] [] h Q = Q (.inl (some (.int (pF (fun b => !decide (b = a) && bt set b && pside (tX h r) n set a b) b m)))) h := by
    intro m
    induction m with
    | zero =>
      intro b hbn
      rw [s_12_2, hc]
      have : b = n := by omega
      subst this
      simp (disch := omega) only [ho, true_and, nI_le', Nat.le_refl, if_true, pF]
    | succ m ih =>
      intro b hbn
      rw [s_12_2, hc]
      have hb31 : b < 31 := by omega
      have hbn' : b < n := by omega
      simp (disch := first | assumption | omega) only [ho, true_and, nI_le', nI_eq', s_12_35, nI_1, m_has' hb31, m_side hn ha hbn', t_ki, ih, pF, zb_0]
      rw [if_neg (by omega)]
      by_cases h1 : b = a
      · simp [h1]
      · by_cases h2 : bt set b = true
        · by_cases h3 : pside (tX h r) n set a b = true <;> simp [h1, h2, h3]
        · simp [h1, h2]
  rw [am_12, s_12_0]
  exact loop n 0 (by omega)
/-- a set gathered: those of m numbers from p on that f tells -/
def pO (f : Nat → Bool) : Nat → Nat → Int32 → Int32
  | _, 0, x => x
  | p, m + 1, x => pO f (p + 1) m (if f p = true then x ||| one p else x)
def phull (χ : tC) (n : Nat) (set : Int32) : Int32 := pO (fun p => bt set p && (decide (set = one p) || !decide (pafter χ n set p = -1))) 0 n 0
theorem m_hullOf {h : tH} {r n : Nat} {set : Int32} (hn : tn h r n) (Q : tO → tH → Prop) : AM 14 [.ref r, .int set] h Q = Q (.inl (some (.int (phull (tX h r) n set)))) h := by
  obtain ⟨ho, hc, h7⟩ := id hn
  have loop : ∀ (m p : Nat) (x : Int32) (w : Value), p + m = n → AX 4 14 4 [.ref r, .int set, .int x, .int (nI p), w] [] h Q = Q (.inl (some (.int (pO (fun p => bt set p && (decide (set = one p) || !decide (pafter (tX h r) n set p = -1))) p m x)))) h := by
    intro m
    induction m with
    | zero =>
      intro p x w hpn
      rw [s_14_4, hc]
      have : p = n := by omega
      subst this
      simp (disch := omega) only [ho, true_and, nI_le', Nat.le_refl, if_true, pO]
    | succ m ih =>
      intro p x w hpn
      rw [s_14_4, hc]
      have hp31 : p < 31 := by omega
      have hp : p < n := by omega
      simp (disch := first | assumption | omega) only [ho, true_and, nI_le', s_14_57, s_14_50, nI_1, m_one', m_has' hp31, m_after hn hp, t_ki, pO, zb_0]
      rw [if_neg (by omega)]
      by_cases h1 : bt set p = true
      · by_cases h2 : set = one p
        · rw [if_neg (by simp [h1]), if_pos (by simp [h2]), ih _ _ _ (by omega)]
          simp [h1, ← h2]
        · by_cases h3 : pafter (tX h r) n set p = -1
          · rw [if_neg (by simp [h1]), if_neg (by simp [h2]), if_pos h3, ih _ _ _ (by omega)]
            simp [h2, h3]
          · rw [if_neg (by simp [h1]), if_neg (by simp [h2]), if_neg h3, ih _ _ _ (by omega)]
            simp [h1, h3]
      · rw [if_pos (by simpa using h1), ih _ _ _ (by omega)]
        simp [h1]
  rw [am_14, s_14_0]
  exact loop n 0 0 (.float 0) (by omega)
