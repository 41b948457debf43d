/-! ===== leaves: Cells, Bits, Integer ===== -/
theorem t_ln_of {h : tH} {r n : Nat} (ht : t_ar r = some (0, n)) : t_ln h r = some n := by
  have h33 : r ≠ 33 := fun z => by rw [z] at ht; cases ht
  unfold t_ln
  rw [if_neg h33, ht]
theorem t_ai_of {h : tH} {r n : Nat} (ht : t_ar r = some (0, n)) : t_ai h r = some n := by
  unfold t_ai
  have h33 : r ≠ 33 := fun z => by rw [z] at ht; cases ht
  have h35 : r ≠ 35 := fun z => by rw [z] at ht; cases ht
  rw [if_neg h33, if_neg h35, ht]
  rfl
theorem t_ar_sz {r n : Nat} (ht : t_ar r = some (0, n)) : n < 5000 := by
  have hr : r < 87 := Nat.lt_of_not_le fun q => by rw [t_ar_big q] at ht; cases ht
  have hh : ∀ r, r < 87 → ((t_ar r).map (fun q => decide (q.2 < 5000))).getD true = true := by decide +kernel
  have h1 := hh r hr
  rw [ht] at h1
  simpa using h1
theorem z_in {n : Nat} (hn : n < 2 ^ 31) {i : Int32} (h0 : ¬ i < 0) (h1 : ¬ nI n ≤ i) : vp_in i n := by
  obtain ⟨j, hj, e, -⟩ := pk_mu h0 h1 hn
  rw [e]
  exact vp_in_nI hj hn
def zg (f : Nat → Int32) (n : Nat) (i : Int32) : Int32 := if i < 0 then 0 else if nI n ≤ i then 0 else f i.toNatClampNeg
def zs (h : tH) (r n : Nat) (i v : Int32) : tH := if i < 0 then h else if nI n ≤ i then h else t_I h r i.toNatClampNeg v
theorem zg_n {f : Nat → Int32} {n k : Nat} (hk : k < n) (hn : n < 5000) : zg f n (nI k) = f k := by
  unfold zg
  rw [if_neg (nI_pos (by omega)), if_neg (nI_ge hk (by omega)), nI_clamp (by omega)]
theorem zs_n {h : tH} {r n k : Nat} {v : Int32} (hk : k < n) (hn : n < 5000) : zs h r n (nI k) v = t_I h r k v := by
  unfold zs
  rw [if_neg (nI_pos (by omega)), if_neg (nI_ge hk (by omega)), nI_clamp (by omega)]
theorem m_get {h : tH} {r n : Nat} {i : Int32} (ht : t_ar r = some (0, n)) (Q : tO → tH → Prop) : AM 6 [.ref r, .int i] h Q = Q (.inl (some (.int (zg (h.1 r) n i)))) h := by
  have hsz := t_ar_sz ht
  rw [am_6, s_6_0 (hL := t_ln_of ht)]
  unfold zg
  by_cases h0 : i < 0
  · rw [if_pos h0, if_pos h0, s_6_16, s_6_17]
  · rw [if_neg h0, if_neg h0]
    by_cases h1 : nI n ≤ i
    · rw [if_pos h1, if_pos (show Int32.ofNat n ≤ i from h1), s_6_16, s_6_17]
    · rw [if_neg h1, if_neg (show ¬ Int32.ofNat n ≤ i from h1), s_6_17, t_ai_of ht, t_in_some]
      exact propext ⟨fun x => x.2, fun x => ⟨z_in (by omega) h0 h1, x⟩⟩
theorem m_set {h : tH} {r n : Nat} {i v : Int32} (ht : t_ar r = some (0, n)) (Q : tO → tH → Prop) : AM 7 [.ref r, .int i, .int v] h Q = Q (.inl none) (zs h r n i v) := by
  have hsz := t_ar_sz ht
  have h33 : r ≠ 33 := fun z => by rw [z] at ht; cases ht
  rw [am_7, s_7_0 (hL := t_ln_of ht)]
  unfold zs
  by_cases h0 : i < 0
  · rw [if_pos h0, if_pos h0, s_7_14]
  · rw [if_neg h0, if_neg h0]
    by_cases h1 : nI n ≤ i
    · rw [if_pos h1, if_pos (show Int32.ofNat n ≤ i from h1), s_7_14]
    · rw [if_neg h1, if_neg (show ¬ Int32.ofNat n ≤ i from h1), s_7_14, t_ai_of ht, t_in_some]
      exact propext ⟨fun x => x.2.2, fun x => ⟨h33, z_in (by omega) h0 h1, x⟩⟩
theorem m_exch {h : tH} {r n i j : Nat} (ht : t_ar r = some (0, n)) (hi : i < n) (hj : j < n) (Q : tO → tH → Prop) : AM 8 [.ref r, .int (nI i), .int (nI j)] h Q = Q (.inl none) (t_I (t_I h r i (h.1 r j)) r j (h.1 r i)) := by
  have hsz := t_ar_sz ht
  rw [am_8, s_8_0]
  simp only [m_get ht, m_set ht, t_ki, t_kv, zg_n hi hsz, zg_n hj hsz, zs_n hi hsz, zs_n hj hsz]
theorem m_one {h : tH} {x : Int32} (Q : tO → tH → Prop) : AM 2 [.int x] h Q = Q (.inl (some (.int (1 <<< (x &&& 31))))) h := by
  rw [am_2, s_2_0]
theorem m_firstOnes {h : tH} {x : Int32} (Q : tO → tH → Prop) : AM 3 [.int x] h Q = Q (.inl (some (.int ((1 <<< (x &&& 31)) - 1)))) h := by
  rw [am_3, s_3_0]
theorem m_has {h : tH} {x y : Int32} (Q : tO → tH → Prop) : AM 4 [.int x, .int y] h Q = Q (.inl (some (.int (if x &&& (1 <<< (y &&& 31)) = 0 then 0 else 1)))) h := by
  rw [am_4, s_4_0]
  simp only [m_one, t_ki]
  split <;> simp
theorem m_compare {h : tH} {x y : Int32} (Q : tO → tH → Prop) : AM 0 [.int x, .int y] h Q = Q (.inl (some (.int (if y ≤ x then (if ¬ x = y then 1 else 0) else (-1))))) h := by
  rw [am_0, s_0_0]
/-- the index of three points -/
theorem m_cell {h : tH} {i j k : Nat} (Q : tO → tH → Prop) : AM 40 [.int (nI i), .int (nI j), .int (nI k)] h Q = Q (.inl (some (.int (nI (49 * i + 7 * j + k))))) h := by
  rw [am_40, s_40_0]
  rw [show (nI i * 7 + nI j) * 7 + nI k = nI (49 * i + 7 * j + k) from by
    rw [show (7 : Int32) = nI 7 from rfl, pk_mul, nI_add, pk_mul, nI_add]
    congr 1
    omega]
theorem t_ar_sg {r : Nat} (h : t_ob r = some 6) : t_ar (r + 10) = some (0, 343) := by
  have hr : r < 87 := Nat.lt_of_not_le fun q => by rw [t_ob_big q] at h; cases h
  have hh : ∀ r, r < 87 → t_ob r = some 6 → t_ar (r + 10) = some (0, 343) := by decide +kernel
  exact hh r hr h
theorem z343 {i j k : Nat} (hi : i < 7) (hj : j < 7) (hk : k < 7) : 49 * i + 7 * j + k < 343 := by omega
abbrev tC : Type := Nat → Nat → Nat → Int32
/-- the signs that a thing of signs has -/
def tX (h : tH) (r : Nat) : tC := fun i j k => if i < 7 ∧ j < 7 ∧ k < 7 then h.1 (r + 10) (49 * i + 7 * j + k) else 0
theorem m_of {h : tH} {r i j k : Nat} (ho : t_ob r = some 6) (hi : i < 7) (hj : j < 7) (hk : k < 7) (Q : tO → tH → Prop) : AM 39 [.ref r, .int (nI i), .int (nI j), .int (nI k)] h Q = Q (.inl (some (.int (tX h r i j k)))) h := by
  rw [am_39, s_39_0]
  simp only [m_cell, m_get (t_ar_sg ho), t_ki, ho, true_and, zg_n (z343 hi hj hk) (by decide : 343 < 5000), tX, if_pos (show i < 7 ∧ j < 7 ∧ k < 7 from ⟨hi, hj, hk⟩)]
/-- what put leaves -/
def hPut (h : tH) (t i j k : Nat) (x : Int32) : tH :=
  t_I (t_I (t_I (t_I (t_I (t_I h t (49 * i + 7 * j + k) x) t (49 * j + 7 * k + i) x) t (49 * k + 7 * i + j) x) t (49 * i + 7 * k + j) (-x)) t (49 * k + 7 * j + i) (-x)) t (49 * j + 7 * i + k) (-x)
theorem m_put {h : tH} {r i j k : Nat} {x : Int32} (ho : t_ob r = some 6) (hi : i < 7) (hj : j < 7) (hk : k < 7) (Q : tO → tH → Prop) : AM 41 [.ref r, .int (nI i), .int (nI j), .int (nI k), .int x] h Q = Q (.inl none) (hPut h (r + 10) i j k x) := by
  rw [am_41, s_41_0]
  simp only [m_cell, m_set (t_ar_sg ho), t_ki, t_kv, ho, true_and, zs_n (z343 hi hj hk) (by decide : 343 < 5000), zs_n (z343 hj hk hi) (by decide : 343 < 5000), zs_n (z343 hk hi hj) (by decide : 343 < 5000), zs_n (z343 hi hk hj) (by decide : 343 < 5000), zs_n (z343 hk hj hi) (by decide : 343 < 5000), zs_n (z343 hj hi hk) (by decide : 343 < 5000), hPut]
