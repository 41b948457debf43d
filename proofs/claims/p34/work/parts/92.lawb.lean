/-! ===== the law's helpers: bits and signs ===== -/
def bl (y : Int64) (p : Nat) : Bool := y.toBitVec.getLsbD p
def lone (p : Nat) : Int64 := 1 <<< ((nI p).toInt64 &&& 63)
theorem bl_and (x y : Int64) (i : Nat) : bl (x &&& y) i = (bl x i && bl y i) := by unfold bl; rw [Int64.toBitVec_and, BitVec.getLsbD_and]
theorem bl_or (x y : Int64) (i : Nat) : bl (x ||| y) i = (bl x i || bl y i) := by unfold bl; rw [Int64.toBitVec_or, BitVec.getLsbD_or]
theorem bl_xor (x y : Int64) (i : Nat) : bl (x ^^^ y) i = (bl x i ^^ bl y i) := by unfold bl; rw [Int64.toBitVec_xor, BitVec.getLsbD_xor]
theorem bl_0 (i : Nat) : bl 0 i = false := BitVec.getLsbD_zero
theorem bl_one {p i : Nat} (hp : p < 64) : bl (lone p) i = decide (i = p) := by
  have hh : ∀ p, p < 64 → (lone p).toBitVec = BitVec.twoPow 64 p := by decide +kernel
  unfold bl
  rw [hh p hp, BitVec.getLsbD_twoPow]
  by_cases e : i = p
  · subst e; simp [hp]
  · have e2 : ¬ p = i := fun z => e z.symm
    simp [e, e2]
theorem lg_0 {x y : Int64} : (lg_cmp x y = (0 : Int32)) = (x = y) := by
  refine propext ⟨fun e => ?_, fun e => ?_⟩
  · exact Int64.le_antisymm ((lg_cmp_le x y).mp (by rw [e]; exact Int32.le_refl _)) ((lg_cmp_ge x y).mp (by rw [e]; exact Int32.le_refl _))
  · subst e
    exact Int32.le_antisymm ((lg_cmp_le x x).mpr (Int64.le_refl x)) ((lg_cmp_ge x x).mpr (Int64.le_refl x))
theorem l_has {y : Int64} {p : Nat} (hp : p < 64) : (lg_cmp (y &&& lone p) 0 = (0 : Int32)) = (bl y p = false) := by
  rw [lg_0]
  refine propext ⟨fun e => ?_, fun e => ?_⟩
  · have h1 : bl (y &&& lone p) p = false := by rw [e]; exact bl_0 p
    rw [bl_and, bl_one hp] at h1
    simpa using h1
  · refine Int64.toBitVec_inj.mp (BitVec.eq_of_getLsbD_eq fun i hi => ?_)
    show bl (y &&& lone p) i = bl 0 i
    rw [bl_and, bl_one hp, bl_0]
    by_cases h1 : i = p
    · rw [h1, e]; rfl
    · simp [h1]
/-- the place of three points' bit, as the law tells it -/
def lawE (x0 x1 x2 : Int32) : Int32 := ((((((if x2 ≤ (if x1 ≤ x0 then x0 else x1) then (if x1 ≤ x0 then x0 else x1) else x2) * ((if x2 ≤ (if x1 ≤ x0 then x0 else x1) then (if x1 ≤ x0 then x0 else x1) else x2) - 1)) * ((if x2 ≤ (if x1 ≤ x0 then x0 else x1) then (if x1 ≤ x0 then x0 else x1) else x2) - 2)) / 6) + (((if (if x1 ≤ x0 then x1 else x0) ≤ (if x2 ≤ (if x1 ≤ x0 then x0 else x1) then x2 else (if x1 ≤ x0 then x0 else x1)) then (if x2 ≤ (if x1 ≤ x0 then x0 else x1) then x2 else (if x1 ≤ x0 then x0 else x1)) else (if x1 ≤ x0 then x1 else x0)) * ((if (if x1 ≤ x0 then x1 else x0) ≤ (if x2 ≤ (if x1 ≤ x0 then x0 else x1) then x2 else (if x1 ≤ x0 then x0 else x1)) then (if x2 ≤ (if x1 ≤ x0 then x0 else x1) then x2 else (if x1 ≤ x0 then x0 else x1)) else (if x1 ≤ x0 then x1 else x0)) - 1)) / 2)) + (if (if x1 ≤ x0 then x1 else x0) ≤ (if x2 ≤ (if x1 ≤ x0 then x0 else x1) then x2 else (if x1 ≤ x0 then x0 else x1)) then (if x1 ≤ x0 then x1 else x0) else (if x2 ≤ (if x1 ≤ x0 then x0 else x1) then x2 else (if x1 ≤ x0 then x0 else x1))))
def ps (i j k : Nat) : Nat :=
  let a := if i < j then i else j
  let b := if i < j then j else i
  let c := if b < k then k else b
  let r := if b < k then b else k
  let m := if r < a then a else r
  let l := if r < a then r else a
  c * (c - 1) * (c - 2) / 6 + m * (m - 1) / 2 + l
theorem ps_E0 : ∀ i, i < 7 → ∀ j, j < 7 → ∀ k, k < 7 → (i = j ∨ j = k ∨ i = k ∨ lawE (nI i) (nI j) (nI k) = nI (ps i j k)) := by decide +kernel
theorem ps_E {i j k : Nat} (hi : i < 7) (hj : j < 7) (hk : k < 7) (ij : i ≠ j) (jk : j ≠ k) (ik : i ≠ k) : lawE (nI i) (nI j) (nI k) = nI (ps i j k) := by
  rcases ps_E0 i hi j hj k hk with e | e | e | e
  · exact absurd e ij
  · exact absurd e jk
  · exact absurd e ik
  · exact e
theorem ps_64 : ∀ i, i < 7 → ∀ j, j < 7 → ∀ k, k < 7 → ps i j k < 64 := by decide +kernel
theorem ps_r : ∀ i, i < 7 → ∀ j, j < 7 → ∀ k, k < 7 → ps j k i = ps i j k := by decide +kernel
theorem ps_s : ∀ i, i < 7 → ∀ j, j < 7 → ∀ k, k < 7 → ps j i k = ps i j k := by decide +kernel
theorem ps_i0 : ((List.range 7).all fun c => (List.range c).all fun b => (List.range b).all fun a => (List.range 7).all fun i => (List.range 7).all fun j => (List.range 7).all fun k => decide (i = j) || decide (j = k) || decide (i = k) || (decide (ps a b c = ps i j k) == (decide (i = a ∨ i = b ∨ i = c) && decide (j = a ∨ j = b ∨ j = c) && decide (k = a ∨ k = b ∨ k = c)))) = true := by decide +kernel
theorem ps_i {a b c i j k : Nat} (ab : a < b) (bc : b < c) (hc : c < 7) (hi : i < 7) (hj : j < 7) (hk : k < 7) (ij : i ≠ j) (jk : j ≠ k) (ik : i ≠ k) : ps a b c = ps i j k ↔ ((i = a ∨ i = b ∨ i = c) ∧ (j = a ∨ j = b ∨ j = c) ∧ (k = a ∨ k = b ∨ k = c)) := by
  have e := ps_i0
  have f : ∀ {n : Nat} {P : Nat → Bool}, (List.range n).all P = true → ∀ x, x < n → P x = true := fun e x hx => List.all_eq_true.mp e x (List.mem_range.mpr hx)
  have e := f (f (f (f (f (f e c hc) b bc) a ab) i hi) j hj) k hk
  simp only [ij, jk, ik, decide_false, Bool.false_or, beq_iff_eq] at e
  rw [← decide_eq_true_iff (p := ps a b c = ps i j k), e]
  simp only [Bool.and_eq_true, decide_eq_true_eq, and_assoc]
theorem m_bit {h : tH} {i j k : Nat} (hi : i < 7) (hj : j < 7) (hk : k < 7) (ij : i ≠ j) (jk : j ≠ k) (ik : i ≠ k) (Q : tO → tH → Prop) : AM 104 [.int (nI i), .int (nI j), .int (nI k)] h Q = Q (.inl (some (.long (lone (ps i j k))))) h := by
  rw [am_104, s_104_0]
  show Q (.inl (some (.long (1 <<< ((lawE (nI i) (nI j) (nI k)).toInt64 &&& 63))))) h = _
  rw [ps_E hi hj hk ij jk ik]
  rfl
def ev (i j k : Nat) : Int32 := if ((if i < j then 0 else 1) + (if j < k then 0 else 1) + (if i < k then 0 else 1)) % 2 = 0 then 1 else -1
/-- the sign of three points by the law's number -/
def lsg (y : Int64) (i j k : Nat) : Int32 := if i = j ∨ j = k ∨ i = k then 0 else if bl y (ps i j k) = true then ev i j k else -ev i j k
theorem m_sign {h : tH} {y : Int64} {i j k : Nat} (hi : i < 7) (hj : j < 7) (hk : k < 7) (Q : tO → tH → Prop) : AM 105 [.long y, .int (nI i), .int (nI j), .int (nI k)] h Q = Q (.inl (some (.int (lsg y i j k)))) h := by
  rw [am_105, s_105_0]
  simp (disch := omega) only [nI_eq', nI_le', s_105_17]
  by_cases ij : i = j
  · rw [if_pos ij]
    unfold lsg
    rw [if_pos (Or.inl ij)]
  by_cases jk : j = k
  · rw [if_neg ij, if_pos jk]
    unfold lsg
    rw [if_pos (Or.inr (Or.inl jk))]
  by_cases ik : i = k
  · rw [if_neg ij, if_neg jk, if_neg (by simpa using ik)]
    unfold lsg
    rw [if_pos (Or.inr (Or.inr ik))]
  rw [if_neg ij, if_neg jk, if_pos ik, m_bit hi hj hk ij jk ik]
  simp only [t_kl, l_has (ps_64 i hi j hj k hk), s_105_88]
  have e1 : lsg y i j k = if bl y (ps i j k) = true then ev i j k else -ev i j k := if_neg (by omega)
  rw [e1]
  have k1 : ∀ a b c : Nat, a < 2 → b < 2 → c < 2 → ((((nI a + nI b) + nI c) - ((nI a + nI b) + nI c) / 2 * 2) * 2) - 1 = -(if (a + b + c) % 2 = 0 then (1 : Int32) else -1) ∧ 1 - ((((nI a + nI b) + nI c) - ((nI a + nI b) + nI c) / 2 * 2) * 2) = (if (a + b + c) % 2 = 0 then (1 : Int32) else -1) := by
    have hh : ∀ a, a < 2 → ∀ b, b < 2 → ∀ c, c < 2 → ((((nI a + nI b) + nI c) - ((nI a + nI b) + nI c) / 2 * 2) * 2) - 1 = -(if (a + b + c) % 2 = 0 then (1 : Int32) else -1) ∧ 1 - ((((nI a + nI b) + nI c) - ((nI a + nI b) + nI c) / 2 * 2) * 2) = (if (a + b + c) % 2 = 0 then (1 : Int32) else -1) := by decide +kernel
    exact fun a b c ha hb hc => hh a ha b hb c hc
  have k2 : ∀ x z : Nat, x ≠ z → (if x ≤ z then (0 : Int32) else 1) = nI (if x < z then 0 else 1) := fun x z ne => by
    by_cases q : x < z
    · rw [if_pos q, if_pos (Nat.le_of_lt q)]; rfl
    · rw [if_neg q, if_neg (by omega)]; rfl
  have k3 : ∀ x z : Nat, (if x < z then 0 else 1) < 2 := fun x z => by split <;> omega
  rw [k2 i j ij, k2 j k jk, k2 i k ik]
  obtain ⟨q1, q2⟩ := k1 _ _ _ (k3 i j) (k3 j k) (k3 i k)
  cases hb : bl y (ps i j k) with
  | true => simp only [Bool.true_eq_false, if_false, if_true]; rw [q2]; rfl
  | false => simp only [Bool.false_eq_true, if_false, if_true]; rw [q1]; rfl
theorem ev_r0 : ∀ i, i < 7 → ∀ j, j < 7 → ∀ k, k < 7 → (i = j ∨ j = k ∨ i = k ∨ (ev j k i = ev i j k ∧ ev j i k = -ev i j k)) := by decide +kernel
theorem ev_r {i j k : Nat} (hi : i < 7) (hj : j < 7) (hk : k < 7) (ij : i ≠ j) (jk : j ≠ k) (ik : i ≠ k) : ev j k i = ev i j k ∧ ev j i k = -ev i j k := by
  rcases ev_r0 i hi j hj k hk with e | e | e | e
  · exact absurd e ij
  · exact absurd e jk
  · exact absurd e ik
  · exact e
theorem lsg_r {y : Int64} {i j k : Nat} (hi : i < 7) (hj : j < 7) (hk : k < 7) : lsg y j k i = lsg y i j k := by
  unfold lsg
  by_cases e : i = j ∨ j = k ∨ i = k
  · rw [if_pos e, if_pos (by omega)]
  · rw [if_neg e, if_neg (by omega), ps_r i hi j hj k hk, (ev_r hi hj hk (by omega) (by omega) (by omega)).1]
theorem lsg_s {y : Int64} {i j k : Nat} (hi : i < 7) (hj : j < 7) (hk : k < 7) : lsg y j i k = -lsg y i j k := by
  unfold lsg
  by_cases e : i = j ∨ j = k ∨ i = k
  · rw [if_pos e, if_pos (by omega)]; rfl
  · rw [if_neg e, if_neg (by omega), ps_s i hi j hj k hk, (ev_r hi hj hk (by omega) (by omega) (by omega)).2]
    split
    · rfl
    · rfl
theorem lsg_u {y : Int64} {i j k : Nat} (ij : i < j) (jk : j < k) : lsg y i j k = if bl y (ps i j k) = true then 1 else -1 := by
  unfold lsg ev
  rw [if_neg (by omega), if_pos ij, if_pos jk, if_pos (show i < k by omega)]
  rfl
/-- a drawing's signs are the law's -/
def Rel (χ : tC) (y : Int64) (n : Nat) : Prop := ∀ i j k, i < n → j < n → k < n → χ i j k = lsg y i j k
theorem Rel_of {χ : tC} {y : Int64} {n : Nat} (w : WS χ n) (h7 : n ≤ 7) (hb : ∀ i j k, i < j → j < k → k < n → (χ i j k = 1 ↔ bl y (ps i j k) = true)) : Rel χ y n := by
  have base : ∀ a b c, a < b → b < c → c < n → χ a b c = lsg y a b c := fun a b c ab bc cn => by
    rw [lsg_u ab bc]
    have h1 := (w a b c (by omega) (by omega) (by omega)).2.2
    rw [if_pos (by omega)] at h1
    have h2 := hb a b c ab bc cn
    by_cases e : bl y (ps a b c) = true
    · rw [if_pos e]; exact h2.mpr e
    · rw [if_neg e]
      rcases h1 with h1 | h1
      · exact absurd (h2.mp h1) e
      · exact h1
  have cyc : ∀ a b c, a < n → b < n → c < n → χ a b c = lsg y a b c → χ b c a = lsg y b c a := fun a b c ha hb hc e => by
    rw [WS_r w (by omega) (by omega) (by omega), lsg_r (by omega) (by omega) (by omega), e]
  have swp : ∀ a b c, a < n → b < n → c < n → χ a b c = lsg y a b c → χ b a c = lsg y b a c := fun a b c ha hb hc e => by
    rw [WS_j w (by omega) (by omega) (by omega), lsg_s (by omega) (by omega) (by omega), e]
  intro i j k hi hj hk
  by_cases e : i = j ∨ j = k ∨ i = k
  · have h1 := (w i j k (by omega) (by omega) (by omega)).2.2
    rw [if_neg (by omega)] at h1
    rw [h1]
    exact (if_pos e).symm
  · rcases Nat.lt_or_ge i j with a | a
    · rcases Nat.lt_or_ge j k with b | b
      · exact base i j k a b hk
      · rcases Nat.lt_or_ge i k with c | c
        · exact cyc k i j hk hi hj (swp i k j hi hk hj (base i k j c (by omega) hj))
        · exact cyc k i j hk hi hj (base k i j (by omega) a hj)
    · rcases Nat.lt_or_ge j k with b | b
      · rcases Nat.lt_or_ge i k with c | c
        · exact swp j i k hj hi hk (base j i k (by omega) c hk)
        · exact cyc k i j hk hi hj (cyc j k i hj hk hi (base j k i b (by omega) hi))
      · exact cyc k i j hk hi hj (cyc j k i hj hk hi (swp k j i hk hj hi (base k j i (by omega) (by omega) hi)))
/-- what the law's helpers find of a drawing -/
def LV (χ : tC) (y : Int64) (n : Nat) : Prop := Rel χ y n ∧ WS χ n ∧ n ≤ 7
theorem LV_pm {χ : tC} {y : Int64} {n i j k : Nat} (L : LV χ y n) (hi : i < n) (hj : j < n) (hk : k < n) (ij : i ≠ j) (jk : j ≠ k) (ik : i ≠ k) : χ i j k = 1 ∨ χ i j k = -1 := by
  have h7 := L.2.2
  have h1 := (L.2.1 i j k (by omega) (by omega) (by omega)).2.2
  rw [if_pos ⟨hi, hj, hk, ij, jk, ik⟩] at h1
  exact h1
theorem LV_z {χ : tC} {y : Int64} {n i j k : Nat} (L : LV χ y n) (hi : i < n) (hj : j < n) (hk : k < n) (e : i = j ∨ j = k ∨ i = k) : χ i j k = 0 := by
  have h7 := L.2.2
  have h1 := (L.2.1 i j k (by omega) (by omega) (by omega)).2.2
  rw [if_neg (by omega)] at h1
  exact h1
theorem m_sg {h : tH} {χ : tC} {y : Int64} {n i j k : Nat} (L : LV χ y n) (hi : i < n) (hj : j < n) (hk : k < n) (Q : tO → tH → Prop) : AM 105 [.long y, .int (nI i), .int (nI j), .int (nI k)] h Q = Q (.inl (some (.int (χ i j k)))) h := by
  have h7 := L.2.2
  rw [m_sign (by omega) (by omega) (by omega), ← L.1 i j k hi hj hk]
/-- a loop that leaves as soon as one is not so -/
theorem lpq {β : Type} {L : Nat → β → Prop} {A B : Prop} {f : Nat → Bool} {n : Nat} (s : Nat) (h0 : ∀ w, L n w = A) (h1 : ∀ k w X, s ≤ k → k < n → (∀ w, L (k + 1) w = X) → L k w = (if f k = true then X else B)) :
    ∀ m k, s ≤ k → k + m = n → ∀ w, L k w = (if aB f k m = true then A else B) := by
  intro m
  induction m with
  | zero =>
    intro k _ hk w
    have : k = n := by omega
    subst this
    rw [h0]
    simp [aB]
  | succ m ih =>
    intro k hs hk w
    rw [h1 k w _ hs (by omega) (ih (k + 1) (by omega) (by omega))]
    show _ = (if (f k && aB f (k + 1) m) = true then A else B)
    cases f k <;> simp
theorem sum3 {x y z : Int32} (hx : x = 1 ∨ x = -1) (hy : y = 1 ∨ y = -1) (hz : z = 1 ∨ z = -1) : (x + y + z = 3 ∨ x + y + z = -3) ↔ psame x y z = true := by
  rcases hx with rfl | rfl <;> rcases hy with rfl | rfl <;> rcases hz with rfl | rfl <;> decide
theorem sum4 {x y z t : Int32} (hx : x = 1 ∨ x = -1) (hy : y = 1 ∨ y = -1) (hz : z = 1 ∨ z = -1) (ht : t = 1 ∨ t = -1) : (x + y + z + t = 4 ∨ x + y + z + t = -4) ↔ (decide (x = y) && psame x z t) = true := by
  rcases hx with rfl | rfl <;> rcases hy with rfl | rfl <;> rcases hz with rfl | rfl <;> rcases ht with rfl | rfl <;> decide
theorem pm_pm {x y : Int32} (hx : x = 1 ∨ x = -1) (hy : y = 1 ∨ y = -1) : x * y = 1 ∨ x * y = -1 := by
  rcases hx with rfl | rfl <;> rcases hy with rfl | rfl <;> decide
theorem m_holds {h : tH} {χ : tC} {y : Int64} {n : Nat} (L : LV χ y n) (Q : tO → tH → Prop) : AM 106 [.long y, .int (nI n)] h Q = Q (.inl (some (.int (zb (qhold χ n))))) h := by
  have h7 := L.2.2
  have l5 := fun (A : Prop) (b c d e : Nat) (bc : b < c) (cd : c < d) (de : d < e) (he : e < n) (x7 : Int32) (hA : ∀ w7 w8 w9, AX 2 106 36 [.long y, .float 0, .int (nI n), .int (nI b), .int (nI c), .int (nI d), .int (nI (e + 1)), w7, w8, w9] [] h Q = A) =>
    lpq (β := Value) (L := fun p w => AX 2 106 102 [.long y, .float 0, .int (nI n), .int (nI b), .int (nI c), .int (nI d), .int (nI e), .int x7, .int (nI p), w] [] h Q) (A := A) (B := Q (.inl (some (.int 0))) h) (f := fun a => decide (a = b) || decide (a = c) || decide (a = d) || decide (a = e) || q5 χ a b c d e) (n := n) 0
      (fun w => by
        rw [s_106_102, if_pos (Int32.le_refl _), nI_1, hA])
      (fun p w X _ hp hX => by
        rw [s_106_102]
        simp (disch := omega) only [nI_le', m_sg L, t_ki, s_106_185, nI_1, hX]
        rw [if_neg (by omega)]
        by_cases h1 : p = b
        · subst h1
          rw [LV_z L hp hp (show c < n by omega) (by omega), LV_z L hp hp (show d < n by omega) (by omega), LV_z L hp hp he (by omega)]
          simp
        by_cases h2 : p = c
        · subst h2
          rw [LV_z L hp (show b < n by omega) hp (by omega), LV_z L hp he hp (by omega), LV_z L hp hp (show d < n by omega) (by omega)]
          simp
        by_cases h3 : p = d
        · subst h3
          rw [LV_z L hp hp he (by omega), LV_z L hp (show b < n by omega) hp (by omega), LV_z L hp (show c < n by omega) hp (by omega)]
          simp
        by_cases h4 : p = e
        · subst h4
          rw [LV_z L hp (show d < n by omega) hp (by omega), LV_z L hp hp (show c < n by omega) (by omega), LV_z L hp (show b < n by omega) hp (by omega)]
          simp
        have t := sum3 (pm_pm (LV_pm L hp (show b < n by omega) (show c < n by omega) h1 (by omega) h2) (LV_pm L hp (show d < n by omega) he h3 (by omega) h4)) (pm_pm (LV_pm L hp (show b < n by omega) (show d < n by omega) h1 (by omega) h3) (LV_pm L hp he (show c < n by omega) h4 (by omega) h2)) (pm_pm (LV_pm L hp (show b < n by omega) he h1 (by omega) h4) (LV_pm L hp (show c < n by omega) (show d < n by omega) h2 (by omega) h3))
        have f : (decide (p = b) || decide (p = c) || decide (p = d) || decide (p = e) || q5 χ p b c d e) = !psame (χ p b c * χ p d e) (χ p b d * χ p e c) (χ p b e * χ p c d) := by
          simp [h1, h2, h3, h4, q5]
        rw [f]
        cases hs : psame (χ p b c * χ p d e) (χ p b d * χ p e c) (χ p b e * χ p c d) with
        | true =>
          rw [hs] at t
          rcases t.mpr rfl with z | z
          · rw [if_pos z]; simp
          · rw [if_neg (by rw [z]; decide), if_neg (by rw [z]; decide)]; simp
        | false =>
          rw [hs] at t
          rw [if_neg (fun z => by have := t.mp (Or.inl z); cases this), if_pos (fun z => by have := t.mp (Or.inr z); cases this)]; simp)
  have l4 := fun (A : Prop) (b c d : Nat) (bc : b < c) (cd : c < d) (hd : d < n) (hA : ∀ w6 w7 w8 w9, AX 2 106 24 [.long y, .float 0, .int (nI n), .int (nI b), .int (nI c), .int (nI (d + 1)), w6, w7, w8, w9] [] h Q = A) =>
    lpq (β := Value × Value × Value) (L := fun p w => AX 2 106 36 [.long y, .float 0, .int (nI n), .int (nI b), .int (nI c), .int (nI d), .int (nI p), w.1, w.2.1, w.2.2] [] h Q) (A := A) (B := Q (.inl (some (.int 0))) h) (f := qh4 χ n b c d) (n := n) (d + 1)
      (fun w => by
        rw [s_106_36, if_pos (Int32.le_refl _), nI_1, hA])
      (fun p w X hs hp hX => by
        rw [s_106_36]
        simp (disch := omega) only [nI_le', m_sg L, t_ki, s_106_97]
        rw [if_neg (by omega)]
        have t := sum4 (LV_pm L (show c < n by omega) hd hp (by omega) (by omega) (by omega)) (LV_pm L (show b < n by omega) hp hd (by omega) (by omega) (by omega)) (LV_pm L (show b < n by omega) (show c < n by omega) hp (by omega) (by omega) (by omega)) (LV_pm L (show b < n by omega) hd (show c < n by omega) (by omega) (by omega) (by omega))
        have f : qh4 χ n b c d p = (!(decide (χ c d p = χ b p d) && psame (χ c d p) (χ b c p) (χ b d c)) && q5x χ n b c d p) := rfl
        rw [f]
        cases hs9 : (decide (χ c d p = χ b p d) && psame (χ c d p) (χ b c p) (χ b d c)) with
        | true =>
          rw [hs9] at t
          rcases t.mpr rfl with z | z
          · rw [if_pos z]; simp
          · rw [if_neg (by rw [z]; decide), if_neg (by rw [z]; decide)]; simp
        | false =>
          rw [hs9] at t
          rw [if_neg (fun z => by have := t.mp (Or.inl z); cases this), if_pos (fun z => by have := t.mp (Or.inr z); cases this)]
          have l := l5 X b c d p bc cd (by omega) hp (χ c d p + χ b p d + χ b c p + χ b d c) (fun w7 w8 w9 => hX (w7, w8, w9)) n 0 (by omega) (by omega) w.2.2
          rw [show (0 : Int32) = nI 0 from rfl] at l ⊢
          rw [l]
          simp [q5x])
  have l3 := fun (A : Prop) (b c : Nat) (bc : b < c) (hc : c < n) (hA : ∀ w5 w6 w7 w8 w9, AX 2 106 12 [.long y, .float 0, .int (nI n), .int (nI b), .int (nI (c + 1)), w5, w6, w7, w8, w9] [] h Q = A) =>
    lpq (β := Value × Value × Value × Value) (L := fun p w => AX 2 106 24 [.long y, .float 0, .int (nI n), .int (nI b), .int (nI c), .int (nI p), w.1, w.2.1, w.2.2.1, w.2.2.2] [] h Q) (A := A) (B := Q (.inl (some (.int 0))) h) (f := qh3 χ n b c) (n := n) (c + 1)
      (fun w => by
        rw [s_106_24, if_pos (Int32.le_refl _), nI_1, hA])
      (fun p w X hs hp hX => by
        rw [s_106_24]
        simp (disch := omega) only [nI_le', nI_1]
        rw [if_neg (by omega), l4 X b c p bc (by omega) hp (fun w6 w7 w8 w9 => hX (w6, w7, w8, w9)) (n - (p + 1)) (p + 1) (Nat.le_refl _) (by omega) (w.2.1, w.2.2.1, w.2.2.2)]
        rfl)
  have l2 := fun (A : Prop) (b : Nat) (hb : b < n) (hA : ∀ w4 w5 w6 w7 w8 w9, AX 2 106 2 [.long y, .float 0, .int (nI n), .int (nI (b + 1)), w4, w5, w6, w7, w8, w9] [] h Q = A) =>
    lpq (β := Value × Value × Value × Value × Value) (L := fun p w => AX 2 106 12 [.long y, .float 0, .int (nI n), .int (nI b), .int (nI p), w.1, w.2.1, w.2.2.1, w.2.2.2.1, w.2.2.2.2] [] h Q) (A := A) (B := Q (.inl (some (.int 0))) h) (f := qh2 χ n b) (n := n) (b + 1)
      (fun w => by
        rw [s_106_12, if_pos (Int32.le_refl _), nI_1, hA])
      (fun p w X hs hp hX => by
        rw [s_106_12]
        simp (disch := omega) only [nI_le', nI_1]
        rw [if_neg (by omega), l3 X b p (by omega) hp (fun w5 w6 w7 w8 w9 => hX (w5, w6, w7, w8, w9)) (n - (p + 1)) (p + 1) (Nat.le_refl _) (by omega) (w.2.1, w.2.2.1, w.2.2.2.1, w.2.2.2.2)]
        rfl)
  have l1 := lpq (β := Value × Value × Value × Value × Value × Value) (L := fun p w => AX 2 106 2 [.long y, .float 0, .int (nI n), .int (nI p), w.1, w.2.1, w.2.2.1, w.2.2.2.1, w.2.2.2.2.1, w.2.2.2.2.2] [] h Q) (A := Q (.inl (some (.int 1))) h) (B := Q (.inl (some (.int 0))) h) (f := qh1 χ n) (n := n) 0
      (fun w => by
        rw [s_106_2, if_pos (Int32.le_refl _)])
      (fun p w X hs hp hX => by
        rw [s_106_2]
        simp (disch := omega) only [nI_le', nI_1]
        rw [if_neg (by omega), l2 X p hp (fun w4 w5 w6 w7 w8 w9 => hX (w4, w5, w6, w7, w8, w9)) (n - (p + 1)) (p + 1) (Nat.le_refl _) (by omega) (w.2.1, w.2.2.1, w.2.2.2.1, w.2.2.2.2.1, w.2.2.2.2.2)]
        rfl)
  rw [am_106, s_106_0, show (0 : Int32) = nI 0 from rfl]
  refine (l1 n 0 (by omega) (by omega) (.float 0, .float 0, .float 0, .float 0, .float 0, .float 0)).trans ?_
  show (if qhold χ n = true then _ else _) = _
  cases qhold χ n <;> rfl
theorem m_in {h : tH} {χ : tC} {y : Int64} {n i j k p : Nat} (L : LV χ y n) (hi : i < n) (hj : j < n) (hk : k < n) (hp : p < n) (ij : i ≠ j) (jk : j ≠ k) (ik : i ≠ k) (pi : p ≠ i) (pj : p ≠ j) (pk : p ≠ k) (Q : tO → tH → Prop) : AM 108 [.long y, .int (nI i), .int (nI j), .int (nI k), .int (nI p)] h Q = Q (.inl (some (.int (zb (qin χ p i j k))))) h := by
  rw [am_108, s_108_0]
  simp only [m_sg L hi hj hp, m_sg L hj hk hp, m_sg L hk hi hp, t_ki]
  have t := sum3 (LV_pm L hi hj hp ij (fun z => pj z.symm) (fun z => pi z.symm)) (LV_pm L hj hk hp jk (fun z => pk z.symm) (fun z => pj z.symm)) (LV_pm L hk hi hp (fun z => ik z.symm) (fun z => pi z.symm) (fun z => pk z.symm))
  have e : (if χ i j p + χ j k p + χ k i p = 3 then (1 : Int32) else if ¬ χ i j p + χ j k p + χ k i p = -3 then (0 : Int32) else 1) = zb (qin χ p i j k) := by
    unfold qin
    cases hs : psame (χ i j p) (χ j k p) (χ k i p) with
    | true =>
      rw [hs] at t
      rcases t.mpr rfl with z | z
      · rw [if_pos z]; rfl
      · rw [if_neg (by rw [z]; decide), if_neg (by rw [z]; decide)]; rfl
    | false =>
      rw [hs] at t
      rw [if_neg (fun z => by have := t.mp (Or.inl z); cases this), if_pos (fun z => by have := t.mp (Or.inr z); cases this)]; rfl
  rw [e, zb_z]
theorem m_crs {h : tH} {χ : tC} {y : Int64} {n a b c d : Nat} (L : LV χ y n) (ha : a < n) (hb : b < n) (hc : c < n) (hd : d < n) (Q : tO → tH → Prop) : AM 107 [.long y, .int (nI a), .int (nI b), .int (nI c), .int (nI d)] h Q = Q (.inl (some (.int (zb (qcross χ a b c d))))) h := by
  have h7 := L.2.2
  have two : ∀ x z : Int32, (x = 1 ∨ x = -1) → (z = 1 ∨ z = -1) → (x * z = -1 ↔ ¬ x = z) := by
    rintro x z (rfl | rfl) (rfl | rfl) <;> decide
  rw [am_107, s_107_0]
  simp (disch := omega) only [nI_eq', m_sg L, t_ki, s_107_72, s_107_73, zb_0z, zb_1z, qcross, pparts]
  by_cases h2 : a = c
  · simp [h2, zb]
  by_cases h3 : a = d
  · simp [h2, h3, zb]
  by_cases h4 : b = c
  · simp [h2, h3, h4, zb]
  by_cases h5 : b = d
  · simp [h2, h3, h4, h5, zb]
  rw [if_neg h2, if_neg h3, if_neg h4, if_neg h5]
  by_cases h1 : a = b
  · subst h1
    rw [LV_z L ha ha hc (by omega), if_pos (by rw [Int32.zero_mul]; decide)]
    simp [zb]
  have e1 := two _ _ (LV_pm L ha hb hc h1 h4 h2) (LV_pm L ha hb hd h1 h5 h3)
  by_cases h8 : χ a b c = χ a b d
  · rw [if_pos (fun z => e1.mp z h8)]
    simp [h8, zb]
  rw [if_neg (fun z => z (e1.mpr h8))]
  by_cases h6 : c = d
  · subst h6
    exact absurd rfl h8
  have e2 := two _ _ (LV_pm L hc hd ha h6 (fun z => h3 z.symm) (fun z => h2 z.symm)) (LV_pm L hc hd hb h6 (fun z => h5 z.symm) (fun z => h4 z.symm))
  by_cases h9 : χ c d a = χ c d b
  · rw [if_pos (fun z => e2.mp z h9)]
    simp [h9, zb]
  rw [if_neg (fun z => z (e2.mpr h9))]
  simp [h1, h2, h3, h4, h5, h6, h8, h9, zb]
theorem pF_or {f : Nat → Bool} : ∀ m p, pF f p m = -1 ∨ ∃ k, p ≤ k ∧ k < p + m ∧ f k = true ∧ pF f p m = nI k := by
  intro m
  induction m with
  | zero => intro p; exact Or.inl rfl
  | succ m ih =>
    intro p
    have e : pF f p (m + 1) = if f p = true then nI p else pF f (p + 1) m := rfl
    rw [e]
    by_cases h : f p = true
    · rw [if_pos h]; exact Or.inr ⟨p, Nat.le_refl _, by omega, h, rfl⟩
    · rw [if_neg h]
      rcases ih (p + 1) with h1 | ⟨k, h1, h2, h3, h4⟩
      · exact Or.inl h1
      · exact Or.inr ⟨k, by omega, by omega, h3, h4⟩
theorem m_fol {h : tH} {χ : tC} {y : Int64} {n a : Nat} {set : Int32} (L : LV χ y n) (ha : a < n) (Q : tO → tH → Prop) : AM 109 [.long y, .int (nI n), .int set, .int (nI a)] h Q = Q (.inl (some (.int (pafter χ n set a)))) h := by
  have h7 := L.2.2
  have bit : ∀ q, q < 7 → ((set >>> (nI q &&& 31)) &&& 1 = 1) = (bt set q = true) := fun q hq => shr_iff (by omega)
  have st : ∀ (A : Prop) (b : Nat), b < n → (∀ w6 w7, AX 2 109 3 [.long y, .float 0, .int (nI n), .int set, .int (nI a), .int (nI (b + 1)), w6, w7] [] h Q = A) → ∀ m c, c + m = n → AX 2 109 36 [.long y, .float 0, .int (nI n), .int set, .int (nI a), .int (nI b), .int 0, .int (nI c)] [] h Q = A := by
    intro A b hb hA m
    induction m with
    | zero =>
      intro c hc
      have : c = n := by omega
      subst this
      rw [s_109_36, if_pos (Int32.le_refl _), nI_1, hA, if_pos rfl]
    | succ m ih =>
      intro c hc
      have hcn : c < n := by omega
      have hc7 : c < 7 := by omega
      rw [s_109_36]
      simp (disch := first | assumption | omega) only [nI_le', nI_eq', bit, m_sg L, t_ki, s_109_82, nI_1]
      rw [if_neg (by omega), ite_self, ih (c + 1) (by omega)]
      repeat' split
      all_goals rfl
  have l2 := fun (A : Prop) (b : Nat) (hb : b < n) (hab : a ≠ b) (hA : ∀ w6 w7, AX 2 109 3 [.long y, .float 0, .int (nI n), .int set, .int (nI a), .int (nI (b + 1)), w6, w7] [] h Q = A) =>
    lpc (β := Unit) (L := fun c f _ => AX 2 109 36 [.long y, .float 0, .int (nI n), .int set, .int (nI a), .int (nI b), .int (zb f), .int (nI c)] [] h Q) (E := fun f => if f = true then Q (.inl (some (.int (nI b)))) h else A) (f := fun c => decide (c = a) || decide (c = b) || !bt set c || decide (χ a b c = 1)) (n := n)
      (fun f _ => by
        rw [s_109_36, if_pos (Int32.le_refl _), nI_1, hA]
        cases f <;> simp [zb])
      (fun c _ A' B' hc _ hB => by
        have e1 := st A b hb hA (n - c) c (by omega)
        have e2 := st A b hb hA (n - (c + 1)) (c + 1) (by omega)
        have e3 := hB ()
        rw [zb_f] at e3 ⊢
        rw [e1, ← e3, e2])
      (fun c _ A' B' hc hA' hB => by
        have hc7 : c < 7 := by omega
        have hA' := hA' ()
        have hB := hB ()
        rw [zb_t] at hA' ⊢
        rw [zb_f] at hB
        rw [s_109_36]
        simp (disch := first | assumption | omega) only [nI_le', nI_eq', bit, m_sg L, t_ki, s_109_82, nI_1]
        rw [if_neg (by omega)]
        by_cases h1 : c = a
        · rw [if_pos h1, hA', if_pos (by simp [h1])]
        by_cases h2 : c = b
        · rw [if_neg h1, if_pos h2, hA', if_pos (by simp [h2])]
        rw [if_neg h1, if_neg h2]
        by_cases h3 : bt set c = true
        · rw [if_neg (fun z => z h3)]
          rcases LV_pm L ha hb hc hab (fun z => h2 z.symm) (fun z => h1 z.symm) with z | z
          · rw [z, if_pos (by decide), hA', if_pos (by simp [z])]
          · rw [z, if_neg (by decide), hB, if_neg (by simp [h1, h2, h3, z])]
        · rw [if_pos h3, hA', if_pos (by simp [h3])])
  have l1 := lpF (β := Value × Value) (L := fun q w => AX 2 109 3 [.long y, .float 0, .int (nI n), .int set, .int (nI a), .int (nI q), w.1, w.2] [] h Q) (E := fun x => Q (.inl (some (.int x))) h) (f := fun b => !decide (b = a) && bt set b && pside χ n set a b) (n := n)
      (fun w => by rw [s_109_3, if_pos (Int32.le_refl _)])
      (fun q w A hq hA => by
        have hq7 : q < 7 := by omega
        have e0 := st A q hq (fun w6 w7 => hA (w6, w7)) n 0 (by omega)
        rw [s_109_3]
        simp (disch := first | assumption | omega) only [nI_le', nI_eq', bit]
        rw [if_neg (by omega)]
        by_cases h1 : q = a
        · rw [if_pos h1]
          refine e0.trans ?_
          rw [if_neg (by simp [h1])]
        · rw [if_neg h1]
          by_cases h2 : bt set q = true
          · have e1 := l2 A q hq (fun z => h1 z.symm) (fun w6 w7 => hA (w6, w7)) n 0 (by omega) true ()
            rw [if_neg (fun z => z h2), show (1 : Int32) = zb true from rfl]
            refine e1.trans ?_
            simp [h1, h2, pside]
          · rw [if_pos h2]
            refine e0.trans ?_
            rw [if_neg (by simp [h2])])
  rw [am_109, s_109_0]
  exact l1 n 0 (by omega) (.float 0, .float 0)
theorem and_1 (x : Int32) : x &&& 1 = if bt x 0 = true then 1 else 0 := by
  refine b_ext fun i hi => ?_
  rw [b_and, bt_1]
  by_cases e : i = 0
  · subst e
    cases bt x 0 <;> simp [bt_1, b_0]
  · cases bt x 0 <;> simp [bt_1, b_0, e]
theorem shr_v {x : Int32} {p : Nat} (hp : p < 31) : ((x >>> (nI p &&& 31)) &&& 1) = nI (if bt x p = true then 1 else 0) := by
  have h := shr_iff (x := x) hp
  rw [and_1] at h ⊢
  by_cases e : bt x p = true
  · rw [if_pos e]
    exact h.mpr e
  · rw [if_neg e]
    by_cases e2 : bt (x >>> (nI p &&& 31)) 0 = true
    · rw [if_pos e2] at h
      exact absurd (h.mp rfl) e
    · rw [if_neg e2]; rfl
/-- the hull as the law tells it -/
def lhull (χ : tC) (n : Nat) (set : Int32) : Int32 := if cB (bt set) 0 n < 3 then set else qhull χ n set
theorem m_hul {h : tH} {χ : tC} {y : Int64} {n : Nat} {set : Int32} (L : LV χ y n) (Q : tO → tH → Prop) : AM 110 [.long y, .int (nI n), .int set] h Q = Q (.inl (some (.int (lhull χ n set)))) h := by
  have h7 := L.2.2
  have bit : ∀ q, q < 7 → ((set >>> (nI q &&& 31)) &&& 1 = 1) = (bt set q = true) := fun q hq => shr_iff (by omega)
  have l2 : ∀ (m p : Nat) (x c : Int32), p + m = n → AX 3 110 43 [.long y, .float 0, .int (nI n), .int set, .int x, .int c, .int (nI p)] [] h Q = Q (.inl (some (.int (pO (fun p => bt set p && !decide (pafter χ n set p = -1)) p m x)))) h := by
    intro m
    induction m with
    | zero =>
      intro p x c hpn
      have : p = n := by omega
      subst this
      rw [s_110_43, if_pos (Int32.le_refl _)]
      rfl
    | succ m ih =>
      intro p x c hpn
      have hp : p < n := by omega
      have hp7 : p < 7 := by omega
      have hlt : (pafter χ n set p < 0) = (pafter χ n set p = -1) := by
        unfold pafter
        rcases pF_or (f := fun b => !decide (b = p) && bt set b && pside χ n set p b) n 0 with e | ⟨k, _, k2, _, e⟩
        · rw [e]; exact propext ⟨fun _ => rfl, fun _ => by decide⟩
        · rw [e]
          refine propext ⟨fun z => absurd z (nI_pos (by omega)), fun z => ?_⟩
          exact absurd (show nI k < 0 by rw [z]; decide) (nI_pos (by omega))
      rw [s_110_43]
      simp (disch := first | assumption | omega) only [nI_le', bit, m_fol L hp, t_ki, s_110_79, nI_1, pO, hlt]
      rw [if_neg (by omega), show (1 : Int32) <<< (nI p &&& 31) = one p from rfl]
      by_cases h1 : bt set p = true
      · rw [if_neg (fun z => z h1)]
        by_cases h2 : pafter χ n set p = -1
        · rw [if_pos h2, ih _ _ _ (by omega)]
          simp [h2]
        · rw [if_neg h2, ih _ _ _ (by omega)]
          simp [h1, h2]
      · rw [if_pos h1, ih _ _ _ (by omega)]
        simp [h1]
  have l1 : ∀ (m p c : Nat), p + m = n → c ≤ p → AX 3 110 9 [.long y, .float 0, .int (nI n), .int set, .int 0, .int (nI c), .int (nI p)] [] h Q = Q (.inl (some (.int (if c + cB (bt set) p m < 3 then set else qhull χ n set)))) h := by
    intro m
    induction m with
    | zero =>
      intro p c hpn hcp
      have : p = n := by omega
      subst this
      rw [s_110_9, if_pos (Int32.le_refl _), show cB (bt set) p 0 = 0 from rfl, Nat.add_zero]
      have e3 : ((3 : Int32) ≤ nI c) = (3 ≤ c) := nI_le' (a := 3) (by omega) (by omega)
      by_cases h3 : 3 ≤ c
      · rw [if_pos (show (3 : Int32) ≤ nI c by rw [e3]; exact h3), if_neg (by omega), show (0 : Int32) = nI 0 from rfl, l2 p 0 (nI 0) (nI c) (by omega)]
        rfl
      · rw [if_neg (show ¬ (3 : Int32) ≤ nI c by rw [e3]; exact h3), if_pos (by omega)]
    | succ m ih =>
      intro p c hpn hcp
      rw [s_110_9, shr_v (by omega), nI_1, nI_add]
      simp (disch := omega) only [nI_le']
      rw [if_neg (by omega), ih (p + 1) _ (by omega) (by split <;> omega)]
      have e : cB (bt set) p (m + 1) = (if bt set p = true then 1 else 0) + cB (bt set) (p + 1) m := rfl
      rw [e, Nat.add_assoc]
  rw [am_110, s_110_0]
  have := l1 n 0 0 (by omega) (Nat.le_refl _)
  rw [Nat.zero_add] at this
  exact this
theorem sw_I {i j a : Nat} (hi : i < 7) (hj : j < 7) (ha : a < 7) : (if ¬ nI a = nI i then (if ¬ nI a = nI j then nI a else nI i) else nI j) = nI (sw i j a) := by
  have e1 : nI a = nI i ↔ a = i := by rw [nI_eq' (by omega) (by omega)]
  have e2 : nI a = nI j ↔ a = j := by rw [nI_eq' (by omega) (by omega)]
  unfold sw
  by_cases h1 : a = i
  · rw [if_neg (fun z => z (e1.mpr h1)), if_pos h1]
  · rw [if_pos (fun z => h1 (e1.mp z)), if_neg h1]
    by_cases h2 : a = j
    · rw [if_neg (fun z => z (e2.mpr h2)), if_pos h2]
    · rw [if_pos (fun z => h2 (e2.mp z)), if_neg h2]
theorem m_ren {h : tH} {χ : tC} {y : Int64} {n i j a b c : Nat} (L : LV χ y n) (hi : i < n) (hj : j < n) (ha : a < n) (hb : b < n) (hc : c < n) (Q : tO → tH → Prop) : AM 111 [.long y, .int (nI i), .int (nI j), .int (nI a), .int (nI b), .int (nI c)] h Q = Q (.inl (some (.int (zb (decide (χ (sw i j a) (sw i j b) (sw i j c) = 1)))))) h := by
  have h7 := L.2.2
  rw [am_111, s_111_0, sw_I (by omega) (by omega) (by omega), sw_I (by omega) (by omega) (by omega), sw_I (by omega) (by omega) (by omega), m_sg L (sw_lt hi hj ha) (sw_lt hi hj hb) (sw_lt hi hj hc)]
  simp only [t_ki]
  have e : (if χ (sw i j a) (sw i j b) (sw i j c) ≤ (0 : Int32) then (0 : Int32) else 1) = zb (decide (χ (sw i j a) (sw i j b) (sw i j c) = 1)) := by
    have h1 := (L.2.1 (sw i j a) (sw i j b) (sw i j c) (by have := sw_lt hi hj ha; omega) (by have := sw_lt hi hj hb; omega) (by have := sw_lt hi hj hc; omega)).2.2
    have h2 : χ (sw i j a) (sw i j b) (sw i j c) = 1 ∨ χ (sw i j a) (sw i j b) (sw i j c) = -1 ∨ χ (sw i j a) (sw i j b) (sw i j c) = 0 := by
      split at h1
      · rcases h1 with h1 | h1
        · exact Or.inl h1
        · exact Or.inr (Or.inl h1)
      · exact Or.inr (Or.inr h1)
    rcases h2 with h2 | h2 | h2 <;> rw [h2] <;> decide
  rw [e, zb_z]
