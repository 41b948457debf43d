/-! ===== matchings: the calls ===== -/
theorem EN_o {h h' : tH} {n k : Nat} {e : Nat → Nat} {T : Int32} (he : EN h n e k T) (ho : ∀ x, x < 2 * k → h'.1 28 x = h.1 28 x) : EN h' n e k T := by
  refine ⟨fun q hq => ?_, he.2⟩
  rw [ho _ (by omega), ho _ (by omega)]
  exact he.1 q hq
theorem LF_o {h h' : tH} {S : Int32} (hl : LF h S) (ho : ∀ x, h'.1 27 x = h.1 27 x) : LF h' S := fun p hp => by rw [ho]; exact hl p hp
theorem dfac_4 {m : Nat} (h : m ≤ 3) : dfac m < 1000 := by
  have hh : ∀ m, m < 4 → dfac m < 1000 := by decide +kernel
  exact hh m (by omega)
theorem set_sm {S : Int32} {n : Nat} (h7 : n ≤ 7) (h0 : ¬ S < 0) (h1 : S ≤ one n - 1) : sm S n := by
  have e : ∀ n, n < 8 → one n - 1 = nI (2 ^ n - 1) ∧ 2 ^ n ≤ 128 ∧ 0 < 2 ^ n := by decide +kernel
  obtain ⟨e1, e2, e3⟩ := e n (by omega)
  rw [e1] at h1
  have h2 : ¬ nI (2 ^ n) ≤ S := by
    intro z
    have := Int32.le_trans z h1
    rw [nI_le' (by omega) (by omega)] at this
    omega
  obtain ⟨j, hj, rfl, -⟩ := pk_mu h0 h2 (by omega)
  intro i hi
  rw [bt_nI]
  have : j < 2 ^ i := Nat.lt_of_lt_of_le hj (Nat.pow_le_pow_right (by omega) hi)
  rw [Nat.testBit_lt_two_pow this, Bool.and_false]
theorem lev27' {S : Int32} : (t_lev tq_27 [.ref 9, .int S, .int 0, .int 0] < 35) = True := eq_true (by
  rw [show (0 : Int32) = nI 0 from rfl, lev27 (by omega)]
  omega)
