/-! ===== hull ===== -/
theorem small7 {x : Int32} (h : ∀ i, 7 ≤ i → bt x i = false) : ∃ v, v < 128 ∧ x = nI v := by
  refine ⟨x.toBitVec.toNat, ?_, ?_⟩
  · exact Nat.lt_pow_two_of_testBit (n := 7) _ fun i hi => h i hi
  · refine b_ext fun i hi => ?_
    rw [bt_nI]
    simp [hi]
    rfl
theorem pc_step {v : Nat} (h : v < 128) (h0 : v ≠ 0) : ∃ u, u < v ∧ nI v &&& (nI v - 1) = nI u ∧ pc (nI v) = pc (nI u) + 1 := by
  have hh : ∀ v, v < 128 → v ≠ 0 → (nI v &&& (nI v - 1)).toNatClampNeg < v ∧ nI v &&& (nI v - 1) = nI (nI v &&& (nI v - 1)).toNatClampNeg ∧ pc (nI v) = pc (nI (nI v &&& (nI v - 1)).toNatClampNeg) + 1 := by decide +kernel
  exact ⟨_, hh v h h0⟩
theorem pc_pos {x : Int32} (h : 0 < pc x) (hx : ∀ i, 7 ≤ i → bt x i = false) : ∃ i, i < 7 ∧ bt x i = true := by
  apply Classical.byContradiction
  intro hn
  have e : pc x = cB (fun _ => false) 0 32 := cB_ext _ _ fun k _ _ => by
    by_cases hk : k < 7
    · cases hb : bt x k with
      | false => rfl
      | true => exact absurd ⟨k, hk, hb⟩ hn
    · exact hx k (by omega)
  rw [e] at h
  exact absurd h (by decide)
theorem shr_0 {x : Int32} {p : Nat} (hp : p < 31) : ((x >>> (nI p &&& 31)) &&& 1 = 0) = (bt x p = false) := by
  have h1 := shr_iff (x := x) hp
  have h2 : ∀ y : Int32, y &&& 1 = 0 ∨ y &&& 1 = 1 := fun y => by
    by_cases hb : bt y 0 = true
    · refine Or.inr (b_ext fun i hi => ?_)
      rw [b_and, bt_1]
      by_cases h : i = 0
      · rw [h, hb]; rfl
      · simp [h]
    · refine Or.inl (b_ext fun i hi => ?_)
      rw [b_and, bt_1, b_0]
      by_cases h : i = 0
      · rw [h, show bt y 0 = false by simpa using hb]; rfl
      · simp [h]
  refine propext ⟨fun h => ?_, fun h => ?_⟩
  · rw [← Bool.not_eq_true, ← h1, h]
    decide
  · rcases h2 (x >>> (nI p &&& 31)) with e | e
    · exact e
    · rw [h1, h] at e
      cases e
theorem hchain {χ : tC} {n : Nat} (w : WS χ n) (h3 : 3 ≤ n) (h7 : n ≤ 7) (h : qhold χ n = true) {a : Nat} (ha : a < n) (f : ∃ b, fo χ n (one n - 1) a b) : ∃ b, b < n ∧ pafter χ n (one n - 1) a = nI b ∧ ∃ c, fo χ n (one n - 1) b c := by
  rcases pafter_iff (χ := χ) (a := a) (set := one n - 1) h7 with ⟨-, h2⟩ | ⟨b, fb, e⟩
  · obtain ⟨b, hb⟩ := f
    exact absurd hb (h2 b)
  · refine ⟨b, fb.1, e, fo_next w h7 h ha fb ?_⟩
    have hb := fb.1
    have hc : ∃ c, c < n ∧ c ≠ a ∧ c ≠ b := by
      by_cases c0 : 0 ≠ a ∧ 0 ≠ b
      · exact ⟨0, by omega, c0.1, c0.2⟩
      · by_cases c1 : 1 ≠ a ∧ 1 ≠ b
        · exact ⟨1, by omega, c1.1, c1.2⟩
        · exact ⟨2, by omega, by omega, by omega⟩
    obtain ⟨c, c1, c2, c3⟩ := hc
    exact ⟨c, c1, c2, c3, by rw [bt_all h7 (by omega)]; simpa using c1⟩
/-- step after step around the hull -/
def hstep (χ : tC) (n : Nat) : Nat → Nat → Nat := fun _ a => (pafter χ n (one n - 1) a).toNatClampNeg
def onH (χ : tC) (n a : Nat) : Prop := a < n ∧ ∃ b, fo χ n (one n - 1) a b
theorem hstep_ok {χ : tC} {n : Nat} (w : WS χ n) (h3 : 3 ≤ n) (h7 : n ≤ 7) (h : qhold χ n = true) {k a : Nat} (v : onH χ n a) : onH χ n (hstep χ n k a) ∧ pafter χ n (one n - 1) a = nI (hstep χ n k a) := by
  obtain ⟨b, b1, b2, b3⟩ := hchain w h3 h7 h v.1 v.2
  have e : hstep χ n k a = b := by
    unfold hstep
    rw [b2, nI_clamp (by omega)]
  rw [e]
  exact ⟨⟨b1, b3⟩, b2⟩
/-- the hull's points, counted -/
def hset (χ : tC) (n : Nat) : Int32 := qhull χ n (one n - 1)
theorem hset_bt {χ : tC} {n q : Nat} (h7 : n ≤ 7) : bt (hset χ n) q = true ↔ onH χ n q := by
  unfold hset
  rw [qhull_bt h7]
  simp only [Bool.and_eq_true, decide_eq_true_eq, Bool.not_eq_true', decide_eq_false_iff_not]
  constructor
  · rintro ⟨a, -, c⟩
    rcases pafter_iff (χ := χ) (a := q) (set := one n - 1) h7 with ⟨e, -⟩ | ⟨b, e, -⟩
    · exact absurd e c
    · exact ⟨a, b, e⟩
  · rintro ⟨a, b, e⟩
    refine ⟨a, by rw [bt_all h7 (by omega)]; simpa using a, fun z => ?_⟩
    rcases pafter_iff (χ := χ) (a := q) (set := one n - 1) h7 with ⟨-, f⟩ | ⟨c, f, g⟩
    · exact f b e
    · rw [z] at g
      exact nI_m1 (by have := f.1; omega) g.symm
theorem hset_7 {χ : tC} {n : Nat} (h7 : n ≤ 7) : ∀ i, 7 ≤ i → bt (hset χ n) i = false := fun i hi => by
  rw [← Bool.not_eq_true, hset_bt h7]
  rintro ⟨a, -⟩
  omega
theorem all_one {n : Nat} (h3 : 3 ≤ n) (h7 : n ≤ 7) : ∀ q, q < n → one n - 1 ≠ one q := by
  have hh : ∀ n, n < 8 → 3 ≤ n → ∀ q, q < n → one n - 1 ≠ one q := by decide +kernel
  exact hh n (by omega) h3
/-- the place-th point of the hull, from the lowest -/
def hfirst (χ : tC) (n : Nat) : Nat := (pF (bt (hset χ n)) 0 7).toNatClampNeg
theorem hfirst_ok {χ : tC} {n : Nat} (h7 : n ≤ 7) (h : 0 < pc (hset χ n)) : onH χ n (hfirst χ n) ∧ pF (bt (hset χ n)) 0 7 = nI (hfirst χ n) ∧ ∀ y, y < hfirst χ n → bt (hset χ n) y = false := by
  obtain ⟨i, hi, hb⟩ := pc_pos h (hset_7 h7)
  rcases pF_iff (f := bt (hset χ n)) 7 0 (by omega) with ⟨-, e⟩ | ⟨x, -, x1, x2, x3, x4⟩
  · rw [e i (by omega) (by omega)] at hb
    cases hb
  · have e : hfirst χ n = x := by
      unfold hfirst
      rw [x3, nI_clamp (by omega)]
    rw [e]
    exact ⟨(hset_bt h7).mp x2, x3, fun y hy => x4 y (by omega) hy⟩
