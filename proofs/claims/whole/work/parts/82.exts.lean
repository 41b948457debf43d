/-! ===== extensions: sums ===== -/
/-- all ways to give the pairs of a list a sign with the last point -/
def TS (N n : Nat) : List (Nat × Nat) → tC → Nat
  | [], χ => bn (qhold χ N)
  | p :: L, χ => TS N n L (setC χ p.1 p.2 n (-1)) + TS N n L (setC χ p.1 p.2 n 1)
theorem setC_comm {χ : tC} {n a b c d : Nat} {x y : Int32} (h1 : a < b) (h2 : b < n) (h3 : c < d) (h4 : d < n) (ne : ¬ (a = c ∧ b = d)) : setC (setC χ a b n x) c d n y = setC (setC χ c d n y) a b n x := by
  funext i j k
  by_cases m : (a = i ∨ a = j ∨ a = k) ∧ (b = i ∨ b = j ∨ b = k) ∧ (n = i ∨ n = j ∨ n = k)
  · rw [setC_o (i := c) (j := d) (by omega), setC_at, setC_at, setC_o (χ := χ) (i := c) (j := d) (by omega)]
  · rw [setC_o (χ := setC χ c d n y) m, setC_at, setC_at (χ := χ) (i := c), setC_o m]
theorem TS_perm {N n : Nat} {L L' : List (Nat × Nat)} (h : L.Perm L') : (∀ p, p ∈ L → p.1 < p.2 ∧ p.2 < n) → ∀ χ, TS N n L χ = TS N n L' χ := by
  induction h with
  | nil => intro _ χ; rfl
  | cons p _ ih =>
    intro hp χ
    show TS N n _ _ + TS N n _ _ = TS N n _ _ + TS N n _ _
    rw [ih fun q hq => hp q (List.mem_cons_of_mem _ hq), ih fun q hq => hp q (List.mem_cons_of_mem _ hq)]
  | swap p q L =>
    intro hp χ
    obtain ⟨q1, q2⟩ := hp q List.mem_cons_self
    obtain ⟨p1, p2⟩ := hp p (List.mem_cons_of_mem _ List.mem_cons_self)
    by_cases e : q.1 = p.1 ∧ q.2 = p.2
    · have : q = p := Prod.ext e.1 e.2
      rw [this]
    · show TS N n L (setC (setC χ q.1 q.2 n (-1)) p.1 p.2 n (-1)) + TS N n L (setC (setC χ q.1 q.2 n (-1)) p.1 p.2 n 1) + (TS N n L (setC (setC χ q.1 q.2 n 1) p.1 p.2 n (-1)) + TS N n L (setC (setC χ q.1 q.2 n 1) p.1 p.2 n 1)) = TS N n L (setC (setC χ p.1 p.2 n (-1)) q.1 q.2 n (-1)) + TS N n L (setC (setC χ p.1 p.2 n (-1)) q.1 q.2 n 1) + (TS N n L (setC (setC χ p.1 p.2 n 1) q.1 q.2 n (-1)) + TS N n L (setC (setC χ p.1 p.2 n 1) q.1 q.2 n 1))
      rw [setC_comm (x := -1) (y := -1) q1 q2 p1 p2 e, setC_comm (x := -1) (y := 1) q1 q2 p1 p2 e, setC_comm (x := 1) (y := -1) q1 q2 p1 p2 e, setC_comm (x := 1) (y := 1) q1 q2 p1 p2 e]
      omega
  | trans h1 _ i1 i2 => intro hp χ; rw [i1 hp, i2 fun p hq => hp p (h1.mem_iff.mpr hq)]
/-- what is known stays -/
theorem setC_keep {χ : tC} {N i j k a b c : Nat} {x : Int32} (v : V3 χ N) (hi : i < 7) (hj : j < 7) (hk : k < 7) (ij : i ≠ j) (jk : j ≠ k) (ik : i ≠ k) (h0 : χ i j k = 0) (hn : χ a b c ≠ 0) : setC χ i j k x a b c = χ a b c := by
  by_cases m : (i = a ∨ i = b ∨ i = c) ∧ (j = a ∨ j = b ∨ j = c) ∧ (k = a ∨ k = b ∨ k = c)
  · exfalso
    apply hn
    have r1 : χ j k i = 0 := by rw [V_r v hi hj hk, h0]
    have r2 : χ k i j = 0 := by rw [V_r v hj hk hi, r1]
    have r3 : χ j i k = 0 := by rw [V_j v hi hj hk, h0]; rfl
    have r4 : χ i k j = 0 := by rw [V_k v hi hj hk, h0]; rfl
    have r5 : χ k j i = 0 := by rw [V_j v hj hk hi, r1]; rfl
    obtain ⟨m1, m2, m3⟩ := m
    rcases m1 with rfl | rfl | rfl <;> rcases m2 with rfl | rfl | rfl <;> first
      | exact absurd rfl ij
      | (rcases m3 with rfl | rfl | rfl <;> first
        | exact absurd rfl jk
        | exact absurd rfl ik
        | assumption)
  · exact setC_o m
theorem V3_set {χ : tC} {n i j k : Nat} {x : Int32} (v : V3 χ n) (hi : i < n) (hj : j < n) (hk : k < n) (ij : i ≠ j) (jk : j ≠ k) (ik : i ≠ k) (hx : x = 1 ∨ x = -1) : V3 (setC χ i j k x) n := by
  refine ⟨AZ_set v.1 hi hj hk ij jk ik, fun a b c => ?_⟩
  have p : s3 x ∧ s3 (-x) := by rcases hx with rfl | rfl <;> (unfold s3; decide)
  rw [setC_at]
  repeat' split
  all_goals first
    | exact p.2
    | exact p.1
    | exact v.2 a b c
/-- something that is known breaks the rules -/
def BD (χ : tC) (N : Nat) : Prop := (∃ a b c d, a < N ∧ b < N ∧ c < N ∧ d < N ∧ a ≠ b ∧ a ≠ c ∧ a ≠ d ∧ b ≠ c ∧ b ≠ d ∧ c ≠ d ∧ p4 χ a b c d = false) ∨ (∃ e a b c d, e < N ∧ a < N ∧ b < N ∧ c < N ∧ d < N ∧ a ≠ b ∧ a ≠ c ∧ a ≠ d ∧ b ≠ c ∧ b ≠ d ∧ c ≠ d ∧ e ≠ a ∧ e ≠ b ∧ e ≠ c ∧ e ≠ d ∧ p5 χ e a b c d = false)
theorem mul_ne {a b : Int32} (h : a * b ≠ 0) : a ≠ 0 ∧ b ≠ 0 := ⟨fun e => h (by rw [e, Int32.zero_mul]), fun e => h (by rw [e, Int32.mul_zero])⟩
theorem p4_false {χ : tC} {a b c d : Nat} : p4 χ a b c d = false ↔ χ b c d ≠ 0 ∧ χ a d c = χ b c d ∧ χ a b d = χ b c d ∧ χ a c b = χ b c d := by
  unfold p4
  simp only [Bool.or_eq_false_iff, decide_eq_false_iff_not, Bool.not_eq_false', decide_eq_true_eq]
  exact ⟨fun ⟨⟨⟨a, b⟩, c⟩, d⟩ => ⟨a, b, c, d⟩, fun ⟨a, b, c, d⟩ => ⟨⟨⟨a, b⟩, c⟩, d⟩⟩
theorem p5_false {χ : tC} {e a b c d : Nat} : p5 χ e a b c d = false ↔ χ e a b * χ e c d ≠ 0 ∧ χ e a c * χ e d b = χ e a b * χ e c d ∧ χ e a d * χ e b c = χ e a b * χ e c d := by
  unfold p5
  simp only [Bool.or_eq_false_iff, decide_eq_false_iff_not, Bool.not_eq_false', decide_eq_true_eq]
  exact ⟨fun ⟨⟨a, b⟩, c⟩ => ⟨a, b, c⟩, fun ⟨a, b, c⟩ => ⟨⟨a, b⟩, c⟩⟩
theorem BD_s {χ : tC} {N i j k : Nat} {x : Int32} (v : V3 χ N) (hi : i < 7) (hj : j < 7) (hk : k < 7) (ij : i ≠ j) (jk : j ≠ k) (ik : i ≠ k) (h0 : χ i j k = 0) (h : BD χ N) : BD (setC χ i j k x) N := by
  have kp : ∀ a b c, χ a b c ≠ 0 → setC χ i j k x a b c = χ a b c := fun a b c hn => setC_keep v hi hj hk ij jk ik h0 hn
  rcases h with ⟨a, b, c, d, q1, q2, q3, q4, q5, q6, q7, q8, q9, q10, q⟩ | ⟨e, a, b, c, d, q1, q2, q3, q4, q5, q6, q7, q8, q9, q10, q11, q12, q13, q14, q15, q⟩
  · refine Or.inl ⟨a, b, c, d, q1, q2, q3, q4, q5, q6, q7, q8, q9, q10, ?_⟩
    rw [p4_false] at q ⊢
    obtain ⟨z1, z2, z3, z4⟩ := q
    rw [kp _ _ _ z1, kp a d c (by rw [z2]; exact z1), kp a b d (by rw [z3]; exact z1), kp a c b (by rw [z4]; exact z1)]
    exact ⟨z1, z2, z3, z4⟩
  · refine Or.inr ⟨e, a, b, c, d, q1, q2, q3, q4, q5, q6, q7, q8, q9, q10, q11, q12, q13, q14, q15, ?_⟩
    rw [p5_false] at q ⊢
    obtain ⟨z1, z2, z3⟩ := q
    obtain ⟨m1, m2⟩ := mul_ne z1
    obtain ⟨m3, m4⟩ := mul_ne (by rw [z2]; exact z1)
    obtain ⟨m5, m6⟩ := mul_ne (by rw [z3]; exact z1)
    rw [kp _ _ _ m1, kp _ _ _ m2, kp _ _ _ m3, kp _ _ _ m4, kp _ _ _ m5, kp _ _ _ m6]
    exact ⟨z1, z2, z3⟩
theorem BD_q {χ : tC} {N : Nat} (w : WS χ N) (h7 : N ≤ 7) (h : BD χ N) : qhold χ N = false := by
  rw [← Bool.not_eq_true]
  intro hq
  rcases h with ⟨a, b, c, d, q1, q2, q3, q4', q5', q6, q7, q8, q9, q10, q⟩ | ⟨e, a, b, c, d, q1, q2, q3, q4', q5', q6, q7, q8, q9, q10, q11, q12, q13, q14, q15, q⟩
  · rw [p4_q4 (p4_false.mp q).1, gp4 w h7 hq a b c d q1 q2 q3 q4' q5' q6 q7 q8 q9 q10] at q
    cases q
  · rw [p5_q5 (p5_false.mp q).1, gp5 w h7 hq q1 a b c d q2 q3 q4' q5' q6 q7 q8 q9 q10 q11 q12 q13 q14 q15] at q
    cases q
/-- the pairs that are still to come have no sign, all others of unlike points have -/
def ZL (χ : tC) (n : Nat) (L : List (Nat × Nat)) : Prop := (∀ p, p ∈ L → p.1 < p.2 ∧ p.2 < n ∧ χ p.1 p.2 n = 0) ∧ L.Pairwise (· ≠ ·) ∧ (∀ a b c, a < b → b < c → c < n + 1 → (χ a b c ≠ 0 ∨ (c = n ∧ (a, b) ∈ L)))
theorem ZL_s {χ : tC} {n : Nat} {p : Nat × Nat} {L : List (Nat × Nat)} {x : Int32} (z : ZL χ n (p :: L)) (hx : x = 1 ∨ x = -1) : ZL (setC χ p.1 p.2 n x) n L := by
  obtain ⟨z1, z2, z3⟩ := z
  obtain ⟨p1, p2, p3⟩ := z1 p List.mem_cons_self
  refine ⟨fun q hq => ?_, (List.pairwise_cons.mp z2).2, fun a b c ab bc cn => ?_⟩
  · obtain ⟨q1, q2, q3⟩ := z1 q (List.mem_cons_of_mem _ hq)
    have ne := (List.pairwise_cons.mp z2).1 q hq
    refine ⟨q1, q2, ?_⟩
    rw [setC_up p1 p2 q1 q2, if_neg]
    · exact q3
    · rintro ⟨e1, e2, -⟩
      exact ne (Prod.ext e1.symm e2.symm)
  · rw [setC_up p1 p2 ab bc]
    by_cases e : a = p.1 ∧ b = p.2 ∧ c = n
    · rw [if_pos e]
      exact Or.inl (by rcases hx with rfl | rfl <;> decide)
    · rw [if_neg e]
      rcases z3 a b c ab bc cn with h | ⟨h1, h2⟩
      · exact Or.inl h
      · rcases List.mem_cons.mp h2 with h2 | h2
        · exact absurd ⟨by rw [← h2], by rw [← h2], h1⟩ e
        · exact Or.inr ⟨h1, h2⟩
theorem ZL_WS {χ : tC} {n : Nat} (h7 : n + 1 ≤ 7) (v : V3 χ (n + 1)) (z : ZL χ n []) : WS χ (n + 1) := WS_AZ h7 v.1 fun a b c ab bc cn => by
  rcases z.2.2 a b c ab bc cn with h | ⟨-, h⟩
  · rcases v.2 a b c with e | e | e
    · exact Or.inr e
    · exact absurd e h
    · exact Or.inl e
  · cases h
theorem TS_bad {n : Nat} (h7 : n + 1 ≤ 7) : ∀ (L : List (Nat × Nat)) (χ : tC), V3 χ (n + 1) → ZL χ n L → BD χ (n + 1) → TS (n + 1) n L χ = 0 := by
  intro L
  induction L with
  | nil =>
    intro χ v z b
    show bn (qhold χ (n + 1)) = 0
    rw [BD_q (ZL_WS h7 v z) h7 b]
    rfl
  | cons p L ih =>
    intro χ v z b
    obtain ⟨p1, p2, p3⟩ := z.1 p List.mem_cons_self
    show TS (n + 1) n L (setC χ p.1 p.2 n (-1)) + TS (n + 1) n L (setC χ p.1 p.2 n 1) = 0
    rw [ih _ (V3_set v (by omega) (by omega) (by omega) (by omega) (by omega) (by omega) (Or.inr rfl)) (ZL_s z (Or.inr rfl)) (BD_s v (by omega) (by omega) (by omega) (by omega) (by omega) (by omega) p3 b), ih _ (V3_set v (by omega) (by omega) (by omega) (by omega) (by omega) (by omega) (Or.inl rfl)) (ZL_s z (Or.inl rfl)) (BD_s v (by omega) (by omega) (by omega) (by omega) (by omega) (by omega) p3 b)]
theorem fits_bad {χ : tC} {N i j k : Nat} (hi : i < N) (hj : j < N) (hk : k < N) (ij : i ≠ j) (jk : j ≠ k) (ik : i ≠ k) (h : pfits χ N i j k = false) : BD χ N := by
  apply Classical.byContradiction
  intro nb
  have : pfits χ N i j k = true := by
    rw [pfits_iff]
    intro x hx x1 x2 x3
    refine ⟨?_, fun y xy hy y1 y2 y3 => ?_⟩
    · cases e : p4 χ i j k x with
      | true => rfl
      | false => exact absurd (Or.inl ⟨i, j, k, x, hi, hj, hk, hx, ij, ik, fun z => x1 z.symm, jk, fun z => x2 z.symm, fun z => x3 z.symm, e⟩) nb
    · unfold p5a
      have f : ∀ e u z, e < N → u < N → z < N → e ≠ u → e ≠ z → u ≠ z → x ≠ e → x ≠ u → x ≠ z → y ≠ e → y ≠ u → y ≠ z → p5 χ e u z x y = true := fun e u z he hu hz eu ez uz xe xu xz ye yu yz => by
        cases q : p5 χ e u z x y with
        | true => rfl
        | false => exact absurd (Or.inr ⟨e, u, z, x, y, he, hu, hz, hx, hy, uz, fun w => xu w.symm, fun w => yu w.symm, fun w => xz w.symm, fun w => yz w.symm, by omega, eu, ez, fun w => xe w.symm, fun w => ye w.symm, q⟩) nb
      rw [f i j k hi hj hk ij ik jk x1 x2 x3 y1 y2 y3, f j i k hj hi hk ij.symm jk ik x2 x1 x3 y2 y1 y3, f k i j hk hi hj ik.symm jk.symm ij x3 x1 x2 y3 y1 y2]
      rfl
  rw [this] at h; cases h
/-- the pairs that follow, by rising j, then i -/
def LE : Nat → Nat → Nat → List (Nat × Nat)
  | 0, _, _ => []
  | m + 1, i, j => (i, j) :: (if i + 1 < j then LE m (i + 1) j else LE m 0 (j + 1))
/-- what the class counts -/
def CE (n : Nat) : Nat → Nat → Nat → tC → Nat
  | 0, _, _, _ => 1
  | m + 1, i, j, χ => (if pfits (setC χ i j n (-1)) (n + 1) i j n = true then CE n m (if i + 1 < j then i + 1 else 0) (if i + 1 < j then j else j + 1) (setC χ i j n (-1)) else 0) + (if pfits (setC χ i j n 1) (n + 1) i j n = true then CE n m (if i + 1 < j then i + 1 else 0) (if i + 1 < j then j else j + 1) (setC χ i j n 1) else 0)
theorem LE_s (m i j : Nat) : LE (m + 1) i j = (i, j) :: LE m (if i + 1 < j then i + 1 else 0) (if i + 1 < j then j else j + 1) := by
  show (i, j) :: (if i + 1 < j then LE m (i + 1) j else LE m 0 (j + 1)) = _
  by_cases h : i + 1 < j
  · rw [if_pos h, if_pos h, if_pos h]
  · rw [if_neg h, if_neg h, if_neg h]
theorem CE_TS {n : Nat} (h7 : n + 1 ≤ 7) : ∀ m i j χ, V3 χ (n + 1) → ZL χ n (LE m i j) → PC χ (n + 1) → CE n m i j χ = TS (n + 1) n (LE m i j) χ := by
  intro m
  induction m with
  | zero =>
    intro i j χ v z p
    have w := ZL_WS h7 v z
    show 1 = bn (qhold χ (n + 1))
    have : qhold χ (n + 1) = true := by
      refine qhold_iff.mpr fun a b c d h1 h2 h3 h4 => ⟨?_, fun e he ea eb ec ed => ?_⟩
      · rw [← p4_q4 (pm_0 (WS_at w h7 (by omega) (by omega) h4 (by omega) (by omega) (by omega)))]
        exact p.1 a b c d h1 h2 h3 h4
      · rw [← p5_q5 (pm_mul (WS_at w h7 he (by omega) (by omega) ea (by omega) eb) (WS_at w h7 he (by omega) h4 ec (by omega) ed))]
        exact p.2 e a b c d he h1 h2 h3 h4 ea eb ec ed
    rw [this]
    rfl
  | succ m ih =>
    intro i j χ v z p
    rw [LE_s] at z ⊢
    obtain ⟨p1, p2, p3⟩ := z.1 (i, j) List.mem_cons_self
    have one' : ∀ x : Int32, x = 1 ∨ x = -1 → (if pfits (setC χ i j n x) (n + 1) i j n = true then CE n m (if i + 1 < j then i + 1 else 0) (if i + 1 < j then j else j + 1) (setC χ i j n x) else 0) = TS (n + 1) n (LE m (if i + 1 < j then i + 1 else 0) (if i + 1 < j then j else j + 1)) (setC χ i j n x) := fun x hx => by
      have v' := V3_set (x := x) v (show i < n + 1 by omega) (show j < n + 1 by omega) (show n < n + 1 by omega) (show i ≠ j by omega) (show j ≠ n by omega) (show i ≠ n by omega) hx
      have z' : ZL (setC χ i j n x) n (LE m (if i + 1 < j then i + 1 else 0) (if i + 1 < j then j else j + 1)) := ZL_s (p := (i, j)) z hx
      by_cases f : pfits (setC χ i j n x) (n + 1) i j n = true
      · rw [if_pos f]
        exact ih _ _ _ v' z' (PC_s v' h7 p (by omega) (by omega) (by omega) (by omega) (by omega) (by omega) f)
      · rw [if_neg f]
        exact (TS_bad h7 _ _ v' z' (fits_bad (χ := setC χ i j n x) (N := n + 1) (i := i) (j := j) (k := n) (by omega) (by omega) (by omega) (by omega) (by omega) (by omega) (by simpa using f))).symm
    show (if pfits (setC χ i j n (-1)) (n + 1) i j n = true then _ else 0) + (if pfits (setC χ i j n 1) (n + 1) i j n = true then _ else 0) = TS (n + 1) n _ (setC χ i j n (-1)) + TS (n + 1) n _ (setC χ i j n 1)
    rw [one' (-1) (Or.inr rfl), one' 1 (Or.inl rfl)]
