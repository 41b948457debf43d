/-! ===== longs that hold numbers ===== -/
def jN (v : Nat) : Int64 := Int64.ofNat v
theorem l_s : ∀ t, t < 64 → (((nI t).toInt64 &&& 63).toBitVec.smod 64).toNat = t := by decide +kernel
theorem l_bt (v i : Nat) : (jN v).toBitVec.getLsbD i = (decide (i < 64) && v.testBit i) := by
  show (BitVec.ofNat 64 v).getLsbD i = _
  rw [BitVec.getLsbD_ofNat]
theorem l_shr {L t : Nat} (hL : L < 2 ^ 63) (ht : t < 64) : jN L >>> ((nI t).toInt64 &&& 63) = jN (L / 2 ^ t) := by
  refine Int64.toBitVec_inj.mp (BitVec.eq_of_getLsbD_eq fun i hi => ?_)
  have z : ∀ k, 63 ≤ k → L.testBit k = false := fun k hk => Nat.testBit_lt_two_pow (Nat.lt_of_lt_of_le hL (Nat.pow_le_pow_right (by decide) hk))
  rw [l_bt, Nat.testBit_div_two_pow, Int64.toBitVec_shiftRight]
  show ((jN L).toBitVec.sshiftRight (((nI t).toInt64 &&& 63).toBitVec.smod 64).toNat).getLsbD i = _
  rw [l_s t ht, BitVec.getLsbD_sshiftRight, BitVec.msb_eq_getLsbD_last, l_bt, l_bt, z (64 - 1) (by decide)]
  by_cases e : t + i < 64
  · simp [e, hi, Nat.add_comm]
  · rw [z (i + t) (by omega)]
    simp [e, hi]
theorem l_app {v : Nat} {b : Bool} : (jN v <<< ((1 : Int32).toInt64 &&& 63)) ||| (zb b).toInt64 = jN (2 * v + bn b) := by
  refine Int64.toBitVec_inj.mp (BitVec.eq_of_getLsbD_eq fun i hi => ?_)
  have eb : (zb b).toInt64 = jN (bn b) := by cases b <;> rfl
  rw [eb, Int64.toBitVec_or, BitVec.getLsbD_or, Int64.toBitVec_shiftLeft]
  show (((jN v).toBitVec <<< (((nI 1).toInt64 &&& 63).toBitVec.smod 64).toNat).getLsbD i || (jN (bn b)).toBitVec.getLsbD i) = _
  rw [l_s 1 (by decide), BitVec.getLsbD_shiftLeft, l_bt, l_bt, l_bt]
  cases i with
  | zero =>
    rw [Nat.testBit_zero, Nat.testBit_zero, Nat.testBit_zero, show (2 * v + bn b) % 2 = bn b % 2 by omega]
    simp
  | succ i =>
    rw [Nat.testBit_succ, Nat.testBit_succ, show (2 * v + bn b) / 2 = v by cases b <;> (unfold bn; simp) <;> omega, show bn b / 2 = 0 by cases b <;> rfl]
    have h1 : i < 64 := by omega
    simp [hi, h1]
theorem l_dbl {v : Nat} {b : Bool} : (2 : Int64) * jN v + jN (bn b) = jN (2 * v + bn b) := by
  unfold jN
  rw [Int64.ofNat_add, Int64.ofNat_mul]
  rfl
theorem l_toInt {v : Nat} (h : v < 2 ^ 63) : (jN v).toInt = v := Int64.toInt_ofNat_of_lt h
theorem lg_le {a b : Nat} (ha : a < 2 ^ 63) (hb : b < 2 ^ 63) : (lg_cmp (jN a) (jN b) ≤ (0 : Int32)) = (a ≤ b) := by
  refine propext ((lg_cmp_le (jN a) (jN b)).trans ?_)
  rw [Int64.le_iff_toInt_le, l_toInt ha, l_toInt hb]
  omega
theorem lg_ge {a b : Nat} (ha : a < 2 ^ 63) (hb : b < 2 ^ 63) : ((0 : Int32) ≤ lg_cmp (jN a) (jN b)) = (b ≤ a) := by
  refine propext ((lg_cmp_ge (jN a) (jN b)).trans ?_)
  rw [Int64.le_iff_toInt_le, l_toInt ha, l_toInt hb]
  omega
