/-! ===== how many bits are set: the library's way of counting ===== -/
def V (w : Nat) : (Nat → Nat) → Nat → Nat
  | _, 0 => 0
  | f, m + 1 => 2 ^ w * V w (fun k => f (k + 1)) m + f 0
theorem V_tb {w : Nat} (hw : 0 < w) : ∀ (m : Nat) (f : Nat → Nat) (i : Nat), (∀ k, k < m → f k < 2 ^ w) → (V w f m).testBit i = (decide (i < w * m) && (f (i / w)).testBit (i % w)) := by
  intro m
  induction m with
  | zero => intro f i _; simp [V]
  | succ m ih =>
    intro f i h
    unfold V
    rw [Nat.testBit_two_pow_mul_add _ (h 0 (by omega))]
    by_cases h1 : i < w
    · rw [if_pos h1, Nat.div_eq_of_lt h1, Nat.mod_eq_of_lt h1]
      have : i < w * (m + 1) := Nat.lt_of_lt_of_le h1 (Nat.le_mul_of_pos_right w (by omega))
      simp [this]
    · rw [if_neg h1, ih _ _ fun k hk => h (k + 1) (by omega)]
      have e1 : (i - w) / w + 1 = i / w := by
        rw [← Nat.sub_add_cancel (show w ≤ i by omega), Nat.add_div_right _ hw]
        simp
      have e2 : (i - w) % w = i % w := by rw [← Nat.mod_eq_sub_mod (by omega)]
      rw [e1, e2]
      congr 1
      rw [Nat.mul_succ]
      by_cases h2 : i - w < w * m
      · simp [h2]; omega
      · simp [h2]; omega
theorem V_add (w : Nat) : ∀ (m : Nat) (f g : Nat → Nat), V w f m + V w g m = V w (fun k => f k + g k) m := by
  intro m
  induction m with
  | zero => intro f g; rfl
  | succ m ih =>
    intro f g
    unfold V
    rw [← ih, Nat.mul_add]
    show _ = _ + (f 0 + g 0)
    omega
theorem V_ext (w : Nat) : ∀ (m : Nat) (f g : Nat → Nat), (∀ k, k < m → f k = g k) → V w f m = V w g m := by
  intro m
  induction m with
  | zero => intro f g _; rfl
  | succ m ih =>
    intro f g h
    unfold V
    rw [ih _ _ fun k hk => h (k + 1) (by omega), h 0 (by omega)]
theorem bt_nI (N i : Nat) : bt (nI N) i = (decide (i < 32) && N.testBit i) := by
  unfold bt
  show (BitVec.ofNat 32 N).getLsbD i = _
  rw [BitVec.getLsbD_ofNat]
theorem V_bt {w m : Nat} {f : Nat → Nat} (hw : 0 < w) (h32 : w * m = 32) (h : ∀ k, k < m → f k < 2 ^ w) {i : Nat} (hi : i < 32) : bt (nI (V w f m)) i = (f (i / w)).testBit (i % w) := by
  rw [bt_nI, V_tb hw m f i h, h32]
  simp [hi]
theorem bn_tb (b : Bool) (i : Nat) : (bn b).testBit i = (decide (i = 0) && b) := by
  cases b
  · simp [bn]
  · cases i <;> simp [bn, Nat.testBit_succ]
theorem bn_tb2 (a b : Bool) (i : Nat) (hi : i < 2) : (bn a + 2 * bn b).testBit i = if i = 0 then a else b := by
  have hh : ∀ a b : Bool, ∀ i, i < 2 → (bn a + 2 * bn b).testBit i = if i = 0 then a else b := by decide +kernel
  exact hh a b i hi
theorem bn_le (b : Bool) : bn b ≤ 1 := by cases b <;> decide
theorem m55 : ∀ i, i < 32 → bt 1431655765 i = decide (i % 2 = 0) := by decide +kernel
theorem m33 : ∀ i, i < 32 → bt 858993459 i = decide (i % 4 < 2) := by decide +kernel
theorem m0f : ∀ i, i < 32 → bt 252645135 i = decide (i % 8 < 4) := by decide +kernel
theorem m3f : ∀ i, i < 32 → bt 63 i = decide (i < 6) := by decide +kernel
def pop2 (x : Int32) : Nat → Nat := fun k => bn (bt x (2 * k)) + bn (bt x (2 * k + 1))
theorem pc_1 (x : Int32) : x - (((x.toUInt32 >>> ((1 : Int32).toUInt32 &&& Int32.toUInt32 31)).toInt32) &&& 1431655765) = nI (V 2 (pop2 x) 16) := by
  have a1 : x = nI (V 2 (fun k => bn (bt x (2 * k)) + 2 * bn (bt x (2 * k + 1))) 16) := by
    refine b_ext fun i hi => ?_
    rw [V_bt (by decide) (by decide) (fun k _ => by have := bn_le (bt x (2 * k)); have := bn_le (bt x (2 * k + 1)); show _ < 4; omega) hi, bn_tb2 _ _ _ (by omega)]
    by_cases h : i % 2 = 0
    · rw [if_pos h]
      congr 1
      omega
    · rw [if_neg h]
      congr 1
      omega
  have a2 : ((x.toUInt32 >>> ((1 : Int32).toUInt32 &&& Int32.toUInt32 31)).toInt32) &&& 1431655765 = nI (V 2 (fun k => bn (bt x (2 * k + 1))) 16) := by
    refine b_ext fun i hi => ?_
    rw [b_and, show (1 : Int32) = nI 1 from rfl, b_ushr 1 (by decide), m55 i hi, V_bt (by decide) (by decide) (fun k _ => by have := bn_le (bt x (2 * k + 1)); show _ < 4; omega) hi, bn_tb]
    by_cases h : i % 2 = 0
    · simp only [h, decide_true, Bool.and_true, Bool.true_and]
      congr 1
      omega
    · simp [h]
  have a3 : V 2 (fun k => bn (bt x (2 * k)) + 2 * bn (bt x (2 * k + 1))) 16 = V 2 (pop2 x) 16 + V 2 (fun k => bn (bt x (2 * k + 1))) 16 := by
    rw [V_add]
    exact V_ext _ _ _ _ fun k _ => by unfold pop2; omega
  rw [a2]
  rw [show x - nI (V 2 (fun k => bn (bt x (2 * k + 1))) 16) = nI (V 2 (fun k => bn (bt x (2 * k)) + 2 * bn (bt x (2 * k + 1))) 16) - nI (V 2 (fun k => bn (bt x (2 * k + 1))) 16) from by rw [← a1], a3, ← nI_add]
  exact Int32.add_sub_cancel _ _
theorem tb_lt {a w i : Nat} (h : a < 2 ^ w) (hi : w ≤ i) : a.testBit i = false := Nat.testBit_lt_two_pow (Nat.lt_of_lt_of_le h (Nat.pow_le_pow_right (by decide) hi))
theorem pc_2 (e : Nat → Nat) (he : ∀ k, e k < 3) : (nI (V 2 e 16) &&& 858993459) + ((((nI (V 2 e 16)).toUInt32 >>> ((2 : Int32).toUInt32 &&& Int32.toUInt32 31)).toInt32) &&& 858993459) = nI (V 4 (fun k => e (2 * k) + e (2 * k + 1)) 8) := by
  have h4 : ∀ k, e k < 2 ^ 2 := fun k => by have := he k; show _ < 4; omega
  have h16 : ∀ k, e k < 2 ^ 4 := fun k => by have := he k; show _ < 16; omega
  have a1 : nI (V 2 e 16) &&& 858993459 = nI (V 4 (fun k => e (2 * k)) 8) := by
    refine b_ext fun i hi => ?_
    rw [b_and, V_bt (by decide) (by decide) (fun k _ => h4 k) hi, V_bt (by decide) (by decide) (fun k _ => h16 _) hi, m33 i hi]
    by_cases h : i % 4 < 2
    · simp only [h, decide_true, Bool.and_true]
      rw [show i / 2 = 2 * (i / 4) by omega, show i % 2 = i % 4 by omega]
    · rw [tb_lt (h4 (2 * (i / 4))) (by omega)]
      simp [h]
  have a2 : (((nI (V 2 e 16)).toUInt32 >>> ((2 : Int32).toUInt32 &&& Int32.toUInt32 31)).toInt32) &&& 858993459 = nI (V 4 (fun k => e (2 * k + 1)) 8) := by
    refine b_ext fun i hi => ?_
    rw [b_and, show (2 : Int32) = nI 2 from rfl, b_ushr 2 (by decide), V_bt (by decide) (by decide) (fun k _ => h16 _) hi, m33 i hi]
    by_cases h : i % 4 < 2
    · simp only [h, decide_true, Bool.and_true]
      rw [V_bt (by decide) (by decide) (fun k _ => h4 k) (by omega), show (2 + i) / 2 = 2 * (i / 4) + 1 by omega, show (2 + i) % 2 = i % 4 by omega]
    · rw [tb_lt (h4 (2 * (i / 4) + 1)) (by omega)]
      simp [h]
  rw [a1, a2, nI_add, V_add]
theorem ushr_nI {N : Nat} (hN : N < 2 ^ 32) (n : Nat) (hn : n < 32) : ((nI N).toUInt32 >>> ((nI n).toUInt32 &&& Int32.toUInt32 31)).toInt32 = nI (N / 2 ^ n) := by
  refine b_ext fun i hi => ?_
  rw [b_ushr n hn, bt_nI, bt_nI, Nat.testBit_div_two_pow, Nat.add_comm i n]
  by_cases h : n + i < 32
  · simp [h, hi]
  · have : N.testBit (n + i) = false := tb_lt hN (by omega)
    simp [h, hi, this]
theorem pc_3 (g : Nat → Nat) (hg : ∀ k, g k < 5) : (nI (V 4 g 8) + (((nI (V 4 g 8)).toUInt32 >>> ((4 : Int32).toUInt32 &&& Int32.toUInt32 31)).toInt32)) &&& 252645135 = nI (V 8 (fun k => g (2 * k) + g (2 * k + 1)) 4) := by
  have e : V 4 g 8 / 2 ^ 4 = V 4 (fun k => if k < 7 then g (k + 1) else 0) 8 := by
    have h0 := hg 0
    simp only [V]
    simp
    omega
  have hl : V 4 g 8 < 2 ^ 32 := by
    have h0 := hg 0
    have h1 := hg 1
    have h2 := hg 2
    have h3 := hg 3
    have h4 := hg 4
    have h5 := hg 5
    have h6 := hg 6
    have h7 := hg 7
    simp only [V]
    simp
    omega
  rw [show (4 : Int32) = nI 4 from rfl, ushr_nI hl 4 (by decide), e, nI_add, V_add]
  refine b_ext fun i hi => ?_
  have hs : ∀ k, (g k + if k < 7 then g (k + 1) else 0) < 2 ^ 4 := fun k => by
    have h1 := hg k
    have h2 := hg (k + 1)
    show _ < 16
    split <;> omega
  rw [b_and, V_bt (by decide) (by decide) (fun k _ => hs k) hi, V_bt (by decide) (by decide) (fun k _ => by have := hg (2 * k); have := hg (2 * k + 1); show _ < 256; omega) hi, m0f i hi]
  by_cases h : i % 8 < 4
  · simp only [h, decide_true, Bool.and_true]
    rw [if_pos (by omega), show i / 4 = 2 * (i / 8) by omega, show i % 4 = i % 8 by omega]
  · have := hg (2 * (i / 8))
    have := hg (2 * (i / 8) + 1)
    rw [tb_lt (w := 4) (show g (2 * (i / 8)) + g (2 * (i / 8) + 1) < 2 ^ 4 by show _ < 16; omega) (by omega)]
    simp [h]
theorem and63 (N : Nat) : nI N &&& 63 = nI (N % 64) := by
  refine b_ext fun i hi => ?_
  rw [b_and, bt_nI, bt_nI, m3f i hi, show (64 : Nat) = 2 ^ 6 from rfl, Nat.testBit_mod_two_pow]
  by_cases h : i < 6 <;> simp [h, hi]
/-- how many bits of x are set -/
def pc (x : Int32) : Nat := cB (bt x) 0 32
theorem m_1 {h : tH} {x : Int32} (Q : tO → tH → Prop) : AM 1 [.int x] h Q = Q (RI (nI (pc x))) h := by
  have b1 : ∀ k, pop2 x k < 3 := fun k => by
    have := bn_le (bt x (2 * k))
    have := bn_le (bt x (2 * k + 1))
    unfold pop2
    omega
  obtain ⟨g, hg⟩ : ∃ g : Nat → Nat, g = fun k => pop2 x (2 * k) + pop2 x (2 * k + 1) := ⟨_, rfl⟩
  have b2 : ∀ k, g k < 5 := fun k => by
    have := b1 (2 * k)
    have := b1 (2 * k + 1)
    rw [hg]
    show pop2 x (2 * k) + pop2 x (2 * k + 1) < 5
    omega
  obtain ⟨p, hp⟩ : ∃ p : Nat → Nat, p = fun k => g (2 * k) + g (2 * k + 1) := ⟨_, rfl⟩
  have b3 : ∀ k, p k < 9 := fun k => by
    have := b2 (2 * k)
    have := b2 (2 * k + 1)
    rw [hp]
    show g (2 * k) + g (2 * k + 1) < 9
    omega
  have p0 := b3 0
  have p1 := b3 1
  have p2 := b3 2
  have p3 := b3 3
  have ev : V 8 p 4 = p 0 + 256 * p 1 + 65536 * p 2 + 16777216 * p 3 := by
    simp only [V]
    simp
    omega
  have el : V 8 p 4 < 2 ^ 32 := by
    rw [ev]
    show _ < 4294967296
    omega
  rw [am_1, s_1_0, pc_1, s_1_10, pc_2 _ b1, s_1_24, ← hg, pc_3 _ b2, s_1_34, ← hp, s_1_42, s_1_48, show (8 : Int32) = nI 8 from rfl, show (16 : Int32) = nI 16 from rfl, ushr_nI el 8 (by decide), nI_add, ushr_nI (by rw [ev]; show _ < 4294967296; omega) 16 (by decide), nI_add, and63]
  have e : (V 8 p 4 + V 8 p 4 / 2 ^ 8 + (V 8 p 4 + V 8 p 4 / 2 ^ 8) / 2 ^ 16) % 64 = pc x := by
    have e1 : (V 8 p 4 + V 8 p 4 / 2 ^ 8 + (V 8 p 4 + V 8 p 4 / 2 ^ 8) / 2 ^ 16) % 64 = p 0 + p 1 + p 2 + p 3 := by
      have d1 : V 8 p 4 / 2 ^ 8 = p 1 + 256 * p 2 + 65536 * p 3 := by
        rw [ev]
        show _ / 256 = _
        omega
      have d2 : (V 8 p 4 + V 8 p 4 / 2 ^ 8) / 2 ^ 16 = p 2 + p 3 + 256 * p 3 := by
        rw [d1, ev]
        show _ / 65536 = _
        omega
      rw [d2, d1, ev]
      omega
    rw [e1, hp, hg]
    unfold pc pop2
    simp only [cB]
    show _ = (bn (bt x 0) + (bn (bt x 1) + (bn (bt x 2) + (bn (bt x 3) + (bn (bt x 4) + (bn (bt x 5) + (bn (bt x 6) + (bn (bt x 7) + (bn (bt x 8) + (bn (bt x 9) + (bn (bt x 10) + (bn (bt x 11) + (bn (bt x 12) + (bn (bt x 13) + (bn (bt x 14) + (bn (bt x 15) + (bn (bt x 16) + (bn (bt x 17) + (bn (bt x 18) + (bn (bt x 19) + (bn (bt x 20) + (bn (bt x 21) + (bn (bt x 22) + (bn (bt x 23) + (bn (bt x 24) + (bn (bt x 25) + (bn (bt x 26) + (bn (bt x 27) + (bn (bt x 28) + (bn (bt x 29) + (bn (bt x 30) + (bn (bt x 31) + 0))))))))))))))))))))))))))))))))
    simp only [Nat.mul_zero, Nat.zero_add, Nat.mul_one, Nat.reduceMul, Nat.reduceAdd]
    omega
  rw [e]
