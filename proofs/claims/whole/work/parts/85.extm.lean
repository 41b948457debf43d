/-! ===== extensions: the model ===== -/
def sv (b : Bool) : Int32 := if b = true then 1 else -1
/-- the signs of a code, put one after another -/
def AL (n : Nat) : List (Nat × Nat) → Nat → Nat → tC → tC
  | [], _, _, χ => χ
  | p :: L, k, s, χ => AL n L (k + 1) s (setC χ p.1 p.2 n (sv (s.testBit k)))
theorem AL_h (n : Nat) : ∀ L k s χ, AL n L (k + 1) s χ = AL n L k (s / 2) χ := by
  intro L
  induction L with
  | nil => intro k s χ; rfl
  | cons p L ih =>
    intro k s χ
    show AL n L (k + 1 + 1) s (setC χ p.1 p.2 n (sv (s.testBit (k + 1)))) = AL n L (k + 1) (s / 2) (setC χ p.1 p.2 n (sv ((s / 2).testBit k)))
    rw [ih, Nat.testBit_succ]
theorem AL_sum {N n : Nat} : ∀ L χ, sB (fun s => bn (qhold (AL n L 0 s χ) N)) 0 (2 ^ L.length) = TS N n L χ := by
  intro L
  induction L with
  | nil => intro χ; show bn (qhold χ N) + 0 = bn (qhold χ N); rw [Nat.add_zero]
  | cons p L ih =>
    intro χ
    have e := sB_rad 2 (fun r q => bn (qhold (AL n L 0 q (setC χ p.1 p.2 n (sv (decide (r = 1))))) N)) (2 ^ L.length)
    rw [List.length_cons, Nat.pow_succ, Nat.mul_comm]
    have f : (fun s => bn (qhold (AL n (p :: L) 0 s χ) N)) = fun k => bn (qhold (AL n L 0 (k / 2) (setC χ p.1 p.2 n (sv (decide (k % 2 = 1))))) N) := by
      funext s
      show bn (qhold (AL n L (0 + 1) s (setC χ p.1 p.2 n (sv (s.testBit 0)))) N) = _
      rw [AL_h, Nat.testBit_zero]
    rw [f]
    refine Eq.trans e ?_
    show sB (fun q => bn (qhold (AL n L 0 q (setC χ p.1 p.2 n (-1))) N)) 0 (2 ^ L.length) + (sB (fun q => bn (qhold (AL n L 0 q (setC χ p.1 p.2 n 1)) N)) 0 (2 ^ L.length) + 0) = TS N n L (setC χ p.1 p.2 n (-1)) + TS N n L (setC χ p.1 p.2 n 1)
    rw [ih, ih, Nat.add_zero]
/-- equal but for what the pairs with n make -/
def EQ (n : Nat) (L : List (Nat × Nat)) (χ ψ : tC) : Prop := ∀ a b c, ψ a b c = χ a b c ∨ ∃ p, p ∈ L ∧ (p.1 = a ∨ p.1 = b ∨ p.1 = c) ∧ (p.2 = a ∨ p.2 = b ∨ p.2 = c) ∧ (n = a ∨ n = b ∨ n = c)
theorem EQ_in {n i j : Nat} {x : Int32} {L : List (Nat × Nat)} {χ ψ : tC} (e : EQ n L χ ψ) (m : (i, j) ∈ L) : EQ n L χ (setC ψ i j n x) := fun a b c => by
  by_cases q : (i = a ∨ i = b ∨ i = c) ∧ (j = a ∨ j = b ∨ j = c) ∧ (n = a ∨ n = b ∨ n = c)
  · exact Or.inr ⟨(i, j), m, q⟩
  · rw [setC_o q]; exact e a b c
theorem setC_m {χ ψ : tC} {i j k a b c : Nat} {x : Int32} (ij : i ≠ j) (jk : j ≠ k) (ik : i ≠ k) (m : (i = a ∨ i = b ∨ i = c) ∧ (j = a ∨ j = b ∨ j = c) ∧ (k = a ∨ k = b ∨ k = c)) : setC ψ i j k x a b c = setC χ i j k x a b c := by
  rw [setC_at, setC_at]
  by_cases c1 : a = j ∧ b = i ∧ c = k
  · rw [if_pos c1, if_pos c1]
  rw [if_neg c1, if_neg c1]
  by_cases c2 : a = k ∧ b = j ∧ c = i
  · rw [if_pos c2, if_pos c2]
  rw [if_neg c2, if_neg c2]
  by_cases c3 : a = i ∧ b = k ∧ c = j
  · rw [if_pos c3, if_pos c3]
  rw [if_neg c3, if_neg c3]
  by_cases c4 : a = k ∧ b = i ∧ c = j
  · rw [if_pos c4, if_pos c4]
  rw [if_neg c4, if_neg c4]
  by_cases c5 : a = j ∧ b = k ∧ c = i
  · rw [if_pos c5, if_pos c5]
  rw [if_neg c5, if_neg c5]
  by_cases c6 : a = i ∧ b = j ∧ c = k
  · rw [if_pos c6, if_pos c6]
  exfalso
  obtain ⟨m1, m2, m3⟩ := m
  rcases m1 with rfl | rfl | rfl <;> rcases m2 with rfl | rfl | rfl <;> first
    | exact ij rfl
    | (rcases m3 with rfl | rfl | rfl <;> first
      | exact jk rfl
      | exact ik rfl
      | exact c1 ⟨rfl, rfl, rfl⟩
      | exact c2 ⟨rfl, rfl, rfl⟩
      | exact c3 ⟨rfl, rfl, rfl⟩
      | exact c4 ⟨rfl, rfl, rfl⟩
      | exact c5 ⟨rfl, rfl, rfl⟩
      | exact c6 ⟨rfl, rfl, rfl⟩)
theorem AL_eq {n s : Nat} : ∀ L k χ ψ, (∀ p, p ∈ L → p.1 < p.2 ∧ p.2 < n) → EQ n L χ ψ → AL n L k s ψ = AL n L k s χ := by
  intro L
  induction L with
  | nil =>
    intro k χ ψ _ e
    funext a b c
    rcases e a b c with h | ⟨p, h, -⟩
    · exact h
    · cases h
  | cons p L ih =>
    intro k χ ψ hp e
    obtain ⟨p1, p2⟩ := hp p List.mem_cons_self
    refine ih (k + 1) _ _ (fun q hq => hp q (List.mem_cons_of_mem _ hq)) fun a b c => ?_
    by_cases m : (p.1 = a ∨ p.1 = b ∨ p.1 = c) ∧ (p.2 = a ∨ p.2 = b ∨ p.2 = c) ∧ (n = a ∨ n = b ∨ n = c)
    · exact Or.inl (setC_m (by omega) (by omega) (by omega) m)
    · rw [setC_o m, setC_o m]
      rcases e a b c with h | ⟨q, h, h'⟩
      · exact Or.inl h
      · rcases List.mem_cons.mp h with h | h
        · rw [h] at h'
          exact absurd h' m
        · exact Or.inr ⟨q, h, h'⟩
theorem prL_c : ∀ n, n < 6 → ∀ b, b < n → ∀ a, a < b → (prL n).contains (a, b) = true := by decide +kernel
theorem prL_m {n : Nat} (h : n < 6) {a b : Nat} (ha : a < b) (hb : b < n) : (a, b) ∈ prL n := List.contains_iff_mem.mp (prL_c n h b hb a ha)
theorem prL_l : ∀ n, n < 6 → (prL n).length = nseg n := by decide +kernel
theorem prL_b : ∀ n, n < 6 → ∀ p, p ∈ prL n → p.1 < p.2 ∧ p.2 < n := by decide +kernel
/-- one set's signs in the model's table -/
def mS (n s : Nat) (T : Nat → Int32) : Nat → Int32 := fd2 (fun i j T => pT T i j n (sv (s.testBit (pos n i j)))) n T
theorem AS_AL : ∀ n, n < 6 → ∀ (s : Nat) (χ : tC), fd2 (fun i j χ => setC χ i j n (sv (s.testBit (pos n i j)))) n χ = AL n (prL n) 0 s χ := by
  intro n hn s χ
  match n, hn with
  | 0, _ => rfl
  | 1, _ => rfl
  | 2, _ => rfl
  | 3, _ => rfl
  | 4, _ => rfl
  | 5, _ => rfl
theorem cut_mS {n s : Nat} (h6 : n < 6) (T : Nat → Int32) : cut (mS n s T) = AL n (prL n) 0 s (cut T) := by
  rw [← AS_AL n h6]
  exact fd2_map (φ := cut) (fun i j a h1 h2 => cut_p (by omega) (by omega) (by omega)) T
theorem EQ_mS {n s : Nat} {χ : tC} (h6 : n < 6) (T : Nat → Int32) (e : EQ n (prL n) χ (cut T)) : EQ n (prL n) χ (cut (mS n s T)) :=
  fd2_all (I := fun T => EQ n (prL n) χ (cut T)) (fun i j T h1 h2 e => by
    rw [cut_p (by omega) (by omega) (by omega)]
    exact EQ_in e (prL_m h6 h1 h2)) T e
