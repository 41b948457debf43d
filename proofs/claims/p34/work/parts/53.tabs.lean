/-! ===== rows of signs, and loops over all threes ===== -/
/-- with another row -/
def hT (h : tH) (r : Nat) (T : Nat → Int32) : tH := (fun a b => if a = r then T b else h.1 a b, h.2)
theorem hT_r (h : tH) (r : Nat) : hT h r (h.1 r) = h := by
  obtain ⟨f, t⟩ := h
  unfold hT
  refine Prod.ext ?_ rfl
  funext a b
  show (if a = r then f r b else f a b) = f a b
  by_cases e : a = r
  · rw [if_pos e, e]
  · rw [if_neg e]
theorem hT_o {h : tH} {r a : Nat} {T : Nat → Int32} (e : a ≠ r) (b : Nat) : (hT h r T).1 a b = h.1 a b := if_neg e
theorem hT_at {h : tH} {r : Nat} {T : Nat → Int32} : (hT h r T).1 r = T := by
  funext b
  show (if r = r then T b else h.1 r b) = T b
  rw [if_pos rfl]
theorem hT_I {h : tH} {r i : Nat} {T : Nat → Int32} {x : Int32} : t_I (hT h r T) r i x = hT h r (upd T i x) := by
  unfold hT t_I
  refine Prod.ext ?_ rfl
  funext a b
  show (if a = r ∧ b = i then x else if a = r then T b else h.1 a b) = (if a = r then (if b = i then x else T b) else h.1 a b)
  by_cases e : a = r
  · by_cases f : b = i <;> simp [e, f]
  · simp [e]
/-- with another row of signs in the model -/
def hU (h : tH) (d : Nat) (T : Nat → Int32) : tH := (fun a b => if a = 20 ∧ 343 * d ≤ b ∧ b < 343 * d + 343 then T (b - 343 * d) else h.1 a b, h.2)
theorem hU_r (h : tH) (d : Nat) : hU h d (fun c => h.1 20 (343 * d + c)) = h := by
  obtain ⟨f, t⟩ := h
  unfold hU
  refine Prod.ext ?_ rfl
  funext a b
  show (if a = 20 ∧ 343 * d ≤ b ∧ b < 343 * d + 343 then f 20 (343 * d + (b - 343 * d)) else f a b) = f a b
  by_cases e : a = 20 ∧ 343 * d ≤ b ∧ b < 343 * d + 343
  · rw [if_pos e, e.1]
    congr 1
    omega
  · rw [if_neg e]
theorem hU_o {h : tH} {d a b : Nat} {T : Nat → Int32} (e : ¬ (a = 20 ∧ 343 * d ≤ b ∧ b < 343 * d + 343)) : (hU h d T).1 a b = h.1 a b := if_neg e
theorem hU_at {h : tH} {d c : Nat} {T : Nat → Int32} (hc : c < 343) : (hU h d T).1 20 (343 * d + c) = T c := by
  show (if 20 = 20 ∧ 343 * d ≤ 343 * d + c ∧ 343 * d + c < 343 * d + 343 then T (343 * d + c - 343 * d) else h.1 20 (343 * d + c)) = T c
  rw [if_pos ⟨rfl, by omega, by omega⟩]
  congr 1
  omega
theorem hU_I {h : tH} {d c : Nat} {T : Nat → Int32} {x : Int32} (hc : c < 343) : t_I (hU h d T) 20 (343 * d + c) x = hU h d (upd T c x) := by
  unfold hU t_I
  refine Prod.ext ?_ rfl
  funext a b
  show (if a = 20 ∧ b = 343 * d + c then x else if a = 20 ∧ 343 * d ≤ b ∧ b < 343 * d + 343 then T (b - 343 * d) else h.1 a b) = (if a = 20 ∧ 343 * d ≤ b ∧ b < 343 * d + 343 then (if b - 343 * d = c then x else T (b - 343 * d)) else h.1 a b)
  by_cases e : a = 20 ∧ 343 * d ≤ b ∧ b < 343 * d + 343
  · by_cases f : b = 343 * d + c
    · rw [if_pos ⟨e.1, f⟩, if_pos e, if_pos (by omega)]
    · rw [if_neg (by omega), if_pos e, if_pos e, if_neg (by omega)]
  · rw [if_neg (by omega), if_neg e, if_neg e]
def pT (T : Nat → Int32) (i j k : Nat) (x : Int32) : Nat → Int32 :=
  upd (upd (upd (upd (upd (upd T (49 * i + 7 * j + k) x) (49 * j + 7 * k + i) x) (49 * k + 7 * i + j) x) (49 * i + 7 * k + j) (-x)) (49 * k + 7 * j + i) (-x)) (49 * j + 7 * i + k) (-x)
theorem hT_put {h : tH} {r i j k : Nat} {T : Nat → Int32} {x : Int32} : hPut (hT h r T) r i j k x = hT h r (pT T i j k x) := by
  unfold hPut pT
  simp only [hT_I]
theorem hU_set {h : tH} {d i j k : Nat} {T : Nat → Int32} {x : Int32} (hi : i < 7) (hj : j < 7) (hk : k < 7) : hSet (hU h d T) d i j k x = hU h d (pT T i j k x) := by
  unfold hSet pT
  simp only [Nat.add_assoc (343 * d)]
  simp (disch := omega) only [← Nat.add_assoc, hU_I]
  rw [Nat.add_assoc (343 * d), Nat.add_assoc (343 * d), hU_I (by omega), Nat.add_assoc (343 * d), Nat.add_assoc (343 * d), hU_I (by omega), Nat.add_assoc (343 * d), Nat.add_assoc (343 * d), hU_I (by omega), Nat.add_assoc (343 * d), Nat.add_assoc (343 * d), hU_I (by omega), Nat.add_assoc (343 * d), Nat.add_assoc (343 * d), hU_I (by omega), Nat.add_assoc (343 * d), Nat.add_assoc (343 * d), hU_I (by omega)]
/-- a row's signs -/
def cut (T : Nat → Int32) : tC := fun i j k => if i < 7 ∧ j < 7 ∧ k < 7 then T (49 * i + 7 * j + k) else 0
theorem cut_big {T : Nat → Int32} {i j k : Nat} (h : ¬ (i < 7 ∧ j < 7 ∧ k < 7)) : cut T i j k = 0 := if_neg h
theorem cut_p {T : Nat → Int32} {i j k : Nat} {x : Int32} (hi : i < 7) (hj : j < 7) (hk : k < 7) : cut (pT T i j k x) = setC (cut T) i j k x := by
  funext a b c
  unfold cut setC pT upd
  by_cases h1 : a < 7 ∧ b < 7 ∧ c < 7
  · obtain ⟨ha, hb, hc⟩ := id h1
    simp only [if_pos h1, z343_eq ha hb hc hi hj hk, z343_eq ha hb hc hi hk hj, z343_eq ha hb hc hj hi hk, z343_eq ha hb hc hj hk hi, z343_eq ha hb hc hk hi hj, z343_eq ha hb hc hk hj hi]
  · simp only [if_neg h1]
    rw [if_neg (by omega), if_neg (by omega), if_neg (by omega), if_neg (by omega), if_neg (by omega), if_neg (by omega)]
theorem cut_X {h : tH} {r : Nat} {T : Nat → Int32} : tX (hT h (r + 10) T) r = cut T := by
  funext a b c
  unfold tX cut
  rw [hT_at]
theorem cut_Xr {h : tH} {r : Nat} : tX h r = cut (h.1 (r + 10)) := rfl
theorem cut_Y {h : tH} {d : Nat} {T : Nat → Int32} : tY (hU h d T) d = cut T := by
  funext a b c
  unfold tY cut
  by_cases h1 : a < 7 ∧ b < 7 ∧ c < 7
  · rw [if_pos h1, if_pos h1, Nat.add_assoc (343 * d), Nat.add_assoc (343 * d), hU_at (by omega)]
  · rw [if_neg h1, if_neg h1]
theorem cut_Yr {h : tH} {d : Nat} : tY h d = cut (fun c => h.1 20 (343 * d + c)) := by
  funext a b c
  unfold tY cut
  by_cases h1 : a < 7 ∧ b < 7 ∧ c < 7
  · rw [if_pos h1, if_pos h1, Nat.add_assoc (343 * d), Nat.add_assoc (343 * d)]
  · rw [if_neg h1, if_neg h1]
/-- over all threes, rising -/
def fd3 {α : Type} (f : Nat → Nat → Nat → α → α) (n : Nat) (a : α) : α :=
  fd (fun i a => fd (fun j a => fd (fun k a => f i j k a) (j + 1) (n - (j + 1)) a) (i + 1) (n - (i + 1)) a) 0 n a
theorem fd_map {α β : Type} {φ : α → β} {f : Nat → α → α} {g : Nat → β → β} : ∀ (m p : Nat) (a : α), (∀ k a, p ≤ k → k < p + m → φ (f k a) = g k (φ a)) → φ (fd f p m a) = fd g p m (φ a) := by
  intro m
  induction m with
  | zero => intro p a _; rfl
  | succ m ih =>
    intro p a h
    rw [fd_s, fd_s, ih (p + 1) _ fun k a h1 h2 => h k a (by omega) (by omega), h p a (by omega) (by omega)]
theorem fd3_map {α β : Type} {φ : α → β} {f : Nat → Nat → Nat → α → α} {g : Nat → Nat → Nat → β → β} {n : Nat} (h : ∀ i j k a, i < j → j < k → k < n → φ (f i j k a) = g i j k (φ a)) (a : α) : φ (fd3 f n a) = fd3 g n (φ a) :=
  fd_map _ _ _ fun i a h1 h2 => fd_map _ _ _ fun j a h3 h4 => fd_map _ _ _ fun k a h5 h6 => h i j k a (by omega) (by omega) (by omega)
theorem fd3_inv {α : Type} {f : Nat → Nat → Nat → α → α} {I : α → Prop} {n : Nat} (h : ∀ i j k a, i < j → j < k → k < n → I a → I (f i j k a)) (a : α) (ha : I a) : I (fd3 f n a) :=
  fd_inv (I := fun _ => I) _ _ _ ha fun i a h1 h2 ha => fd_inv (I := fun _ => I) _ _ _ ha fun j a h3 h4 ha => fd_inv (I := fun _ => I) _ _ _ ha fun k a h5 h6 ha => h i j k a (by omega) (by omega) (by omega) ha
theorem fd_hit {α : Type} {f : Nat → α → α} {I : α → Prop} {u : Nat} : ∀ (m p : Nat) (a : α), p ≤ u → u < p + m → (∀ k a, p ≤ k → k < p + m → I a → I (f k a)) → (∀ a, I (f u a)) → I (fd f p m a) := by
  intro m
  induction m with
  | zero => intro p a h1 h2; omega
  | succ m ih =>
    intro p a h1 h2 h3 h4
    rw [fd_s]
    by_cases e : u = p
    · subst e
      exact fd_inv (I := fun _ => I) _ _ _ (h4 a) fun k a h1 h2 => h3 k a (by omega) (by omega)
    · exact ih (p + 1) _ (by omega) (by omega) (fun k a h1 h2 => h3 k a (by omega) (by omega)) h4
theorem fd3_hit {α : Type} {f : Nat → Nat → Nat → α → α} {I : α → Prop} {n u v w : Nat} (h : ∀ i j k a, i < j → j < k → k < n → I a → I (f i j k a)) (h1 : u < v) (h2 : v < w) (h3 : w < n) (hx : ∀ a, I (f u v w a)) (a : α) : I (fd3 f n a) :=
  fd_hit (u := u) _ _ _ (by omega) (by omega) (fun i a _ _ ha => fd_inv (I := fun _ => I) _ _ _ ha fun j a _ _ ha => fd_inv (I := fun _ => I) _ _ _ ha fun k a _ _ ha => h i j k a (by omega) (by omega) (by omega) ha) fun a =>
    fd_hit (u := v) _ _ _ (by omega) (by omega) (fun j a _ _ ha => fd_inv (I := fun _ => I) _ _ _ ha fun k a _ _ ha => h u j k a (by omega) (by omega) (by omega) ha) fun a =>
      fd_hit (u := w) _ _ _ (by omega) (by omega) (fun k a _ _ ha => h u v k a (by omega) (by omega) (by omega) ha) hx
/-- three nested loops -/
theorem lt3 {α β γ δ : Type} {n : Nat} {L1 : Nat → α → β → Prop} {L2 : Nat → Nat → α → γ → Prop} {L3 : Nat → Nat → Nat → α → δ → Prop} {E : α → Prop} {f : Nat → Nat → Nat → α → α}
    (e1 : ∀ a w, L1 n a w = E a) (s1 : ∀ i a w, i < n → ∃ w', L1 i a w = L2 i (i + 1) a w') (e2 : ∀ i a w, i < n → ∃ w', L2 i n a w = L1 (i + 1) a w')
    (s2 : ∀ i j a w, i < j → j < n → ∃ w', L2 i j a w = L3 i j (j + 1) a w') (e3 : ∀ i j a w, i < j → j < n → ∃ w', L3 i j n a w = L2 i (j + 1) a w')
    (s3 : ∀ i j k a w, i < j → j < k → k < n → ∃ w', L3 i j k a w = L3 i j (k + 1) (f i j k a) w') : ∀ a w, L1 0 a w = E (fd3 f n a) := by
  have l3 : ∀ i j, i < j → j < n → ∀ (F : α → Prop), (∀ a w, L2 i (j + 1) a w = F a) → ∀ m k, k + m = n → ∀ a w, j < k → L3 i j k a w = F (fd (fun k a => f i j k a) k m a) := fun i j hi hj F hF =>
    lp (fun k _ => j < k) (fun a w _ => by obtain ⟨w', e⟩ := e3 i j a w hi hj; rw [e, hF]) fun k a w G hk hjk hG => by
      obtain ⟨w', e⟩ := s3 i j k a w hi hjk hk
      rw [e]
      exact hG _ _ (by omega)
  have l2 : ∀ i, i < n → ∀ (F : α → Prop), (∀ a w, L1 (i + 1) a w = F a) → ∀ m j, j + m = n → ∀ a w, i < j → L2 i j a w = F (fd (fun j a => fd (fun k a => f i j k a) (j + 1) (n - (j + 1)) a) j m a) := fun i hi F hF =>
    lp (fun j _ => i < j) (fun a w _ => by obtain ⟨w', e⟩ := e2 i a w hi; rw [e, hF]) fun j a w G hj hij hG => by
      obtain ⟨w', e⟩ := s2 i j a w hij hj
      rw [e]
      exact l3 i j hij hj G (fun a w => hG a w (by omega)) (n - (j + 1)) (j + 1) (by omega) a w' (by omega)
  have l1 : ∀ m i, i + m = n → ∀ a w, True → L1 i a w = E (fd (fun i a => fd (fun j a => fd (fun k a => f i j k a) (j + 1) (n - (j + 1)) a) (i + 1) (n - (i + 1)) a) i m a) :=
    lp (fun _ _ => True) (fun a w _ => e1 a w) fun i a w G hi _ hG => by
      obtain ⟨w', e⟩ := s1 i a w hi
      rw [e]
      exact l2 i hi G (fun a w => hG a w trivial) (n - (i + 1)) (i + 1) (by omega) a w' (by omega)
  exact fun a w => l1 n 0 (by omega) a w trivial
/-- the same, asking of all threes, with an early end -/
def all3 (f : Nat → Nat → Nat → Bool) (n : Nat) : Bool := aB (fun i => aB (fun j => aB (fun k => f i j k) (j + 1) (n - (j + 1))) (i + 1) (n - (i + 1))) 0 n
theorem lpb {β : Type} {L : Nat → β → Prop} {E X : Prop} {f : Nat → Bool} {n : Nat} (P : Nat → Prop) (hP : ∀ k, P k → P (k + 1)) (h0 : ∀ w, L n w = E) (h1 : ∀ k w A, k < n → P k → (∀ w, L (k + 1) w = A) → L k w = (if f k = true then A else X)) :
    ∀ m k, k + m = n → P k → ∀ w, L k w = (if aB f k m = true then E else X) := by
  intro m
  induction m with
  | zero =>
    intro k hk _ w
    have : k = n := by omega
    subst this
    rw [h0]
    rfl
  | succ m ih =>
    intro k hk hp w
    rw [h1 k w _ (by omega) hp (ih (k + 1) (by omega) (hP k hp))]
    show _ = if (f k && aB f (k + 1) m) = true then E else X
    cases f k <;> simp
theorem lt3b {β γ δ : Type} {n : Nat} {L1 : Nat → β → Prop} {L2 : Nat → Nat → γ → Prop} {L3 : Nat → Nat → Nat → δ → Prop} {E X : Prop} {f : Nat → Nat → Nat → Bool}
    (e1 : ∀ w, L1 n w = E) (s1 : ∀ i w, i < n → ∃ w', L1 i w = L2 i (i + 1) w') (e2 : ∀ i w, i < n → ∃ w', L2 i n w = L1 (i + 1) w')
    (s2 : ∀ i j w, i < j → j < n → ∃ w', L2 i j w = L3 i j (j + 1) w') (e3 : ∀ i j w, i < j → j < n → ∃ w', L3 i j n w = L2 i (j + 1) w')
    (s3 : ∀ i j k w, i < j → j < k → k < n → ∃ w', L3 i j k w = (if f i j k = true then L3 i j (k + 1) w' else X)) : ∀ w, L1 0 w = (if all3 f n = true then E else X) := by
  have l3 : ∀ i j, i < j → j < n → ∀ (F : Prop), (∀ w, L2 i (j + 1) w = F) → ∀ m k, k + m = n → j < k → ∀ w, L3 i j k w = (if aB (fun k => f i j k) k m = true then F else X) := fun i j hi hj F hF =>
    lpb (fun k => j < k) (fun k h => by omega) (fun w => by obtain ⟨w', e⟩ := e3 i j w hi hj; rw [e, hF]) fun k w A hk hjk hA => by
      obtain ⟨w', e⟩ := s3 i j k w hi hjk hk
      rw [e, hA]
  have l2 : ∀ i, i < n → ∀ (F : Prop), (∀ w, L1 (i + 1) w = F) → ∀ m j, j + m = n → i < j → ∀ w, L2 i j w = (if aB (fun j => aB (fun k => f i j k) (j + 1) (n - (j + 1))) j m = true then F else X) := fun i hi F hF =>
    lpb (fun j => i < j) (fun j h => by omega) (fun w => by obtain ⟨w', e⟩ := e2 i w hi; rw [e, hF]) fun j w A hj hij hA => by
      obtain ⟨w', e⟩ := s2 i j w hij hj
      rw [e]
      exact l3 i j hij hj A hA (n - (j + 1)) (j + 1) (by omega) (by omega) w'
  have l1 : ∀ m i, i + m = n → True → ∀ w, L1 i w = (if aB (fun i => aB (fun j => aB (fun k => f i j k) (j + 1) (n - (j + 1))) (i + 1) (n - (i + 1))) i m = true then E else X) :=
    lpb (fun _ => True) (fun _ _ => trivial) e1 fun i w A hi _ hA => by
      obtain ⟨w', e⟩ := s1 i w hi
      rw [e]
      exact l2 i hi A hA (n - (i + 1)) (i + 1) (by omega) (by omega) w'
  exact fun w => l1 n 0 (by omega) trivial w
theorem all3_iff {f : Nat → Nat → Nat → Bool} {n : Nat} : all3 f n = true ↔ ∀ i j k, i < j → j < k → k < n → f i j k = true := by
  unfold all3
  rw [aB_iff]
  constructor
  · intro h i j k h1 h2 h3
    exact (aB_iff _ _ _).mp ((aB_iff _ _ _).mp (h i (by omega) (by omega)) j (by omega) (by omega)) k (by omega) (by omega)
  · intro h i _ _
    refine (aB_iff _ _ _).mpr fun j _ _ => (aB_iff _ _ _).mpr fun k _ _ => h i j k (by omega) (by omega) (by omega)
/-- alternating, and 0 but for three unlike of n -/
def AZ (χ : tC) (n : Nat) : Prop := ∀ i j k, i < 7 → j < 7 → k < 7 → χ j k i = χ i j k ∧ χ j i k = -χ i j k ∧ (¬ (i < n ∧ j < n ∧ k < n ∧ i ≠ j ∧ j ≠ k ∧ i ≠ k) → χ i j k = 0)
theorem AZ_set {χ : tC} {n i j k : Nat} {x : Int32} (w : AZ χ n) (hi : i < n) (hj : j < n) (hk : k < n) (ij : i ≠ j) (jk : j ≠ k) (ik : i ≠ k) : AZ (setC χ i j k x) n := by
  intro a b c ha hb hc
  obtain ⟨w1, w2, w3⟩ := w a b c ha hb hc
  by_cases h : (i = a ∨ i = b ∨ i = c) ∧ (j = a ∨ j = b ∨ j = c) ∧ (k = a ∨ k = b ∨ k = c)
  · clear w1 w2 w3
    obtain ⟨m1, m2, m3⟩ := h
    refine ⟨?_, ?_, fun z => absurd (by omega) z⟩
    · rcases m1 with rfl | rfl | rfl <;> rcases m2 with rfl | rfl | rfl <;> first
        | exact absurd rfl ij
        | (rcases m3 with rfl | rfl | rfl <;> first
          | exact absurd rfl jk
          | exact absurd rfl ik
          | simp [setC_at, ij, jk, ik, ij.symm, jk.symm, ik.symm])
    · rcases m1 with rfl | rfl | rfl <;> rcases m2 with rfl | rfl | rfl <;> first
        | exact absurd rfl ij
        | (rcases m3 with rfl | rfl | rfl <;> first
          | exact absurd rfl jk
          | exact absurd rfl ik
          | simp [setC_at, ij, jk, ik, ij.symm, jk.symm, ik.symm])
  · rw [setC_o h, setC_o (a := b) (b := c) (c := a) (by omega), setC_o (a := b) (b := a) (c := c) (by omega)]
    exact ⟨w1, w2, w3⟩
theorem AZ_WS {χ : tC} {n : Nat} (w : WS χ n) : AZ χ n := fun i j k hi hj hk => by
  obtain ⟨w1, w2, w3⟩ := w i j k hi hj hk
  refine ⟨w1, w2, fun z => ?_⟩
  rw [if_neg z] at w3
  exact w3
theorem alt6 {P : Nat → Nat → Nat → Prop} {n : Nat} (s1 : ∀ a b c, P a b c → P b a c) (s2 : ∀ a b c, P a b c → P b c a) (h : ∀ a b c, a < b → b < c → c < n → P a b c) : ∀ a b c, a < n → b < n → c < n → a ≠ b → b ≠ c → a ≠ c → P a b c := by
  intro a b c ha hb hc ab bc ac
  by_cases h1 : a < b
  · by_cases h2 : b < c
    · exact h a b c h1 h2 hc
    · by_cases h3 : a < c
      · exact s2 _ _ _ (s1 _ _ _ (h a c b h3 (by omega) hb))
      · exact s2 _ _ _ (h c a b (by omega) h1 hb)
  · by_cases h2 : a < c
    · exact s1 _ _ _ (h b a c (by omega) h2 hc)
    · by_cases h3 : b < c
      · exact s2 _ _ _ (s2 _ _ _ (h b c a h3 (by omega) ha))
      · exact s2 _ _ _ (s2 _ _ _ (s1 _ _ _ (h c b a (by omega) (by omega) ha)))
theorem WS_AZ {χ : tC} {n : Nat} (h7 : n ≤ 7) (w : AZ χ n) (h : ∀ a b c, a < b → b < c → c < n → χ a b c = 1 ∨ χ a b c = -1) : WS χ n := by
  intro i j k hi hj hk
  obtain ⟨w1, w2, w3⟩ := w i j k hi hj hk
  refine ⟨w1, w2, ?_⟩
  by_cases e : i < n ∧ j < n ∧ k < n ∧ i ≠ j ∧ j ≠ k ∧ i ≠ k
  · rw [if_pos e]
    exact (alt6 (P := fun a b c => a < 7 ∧ b < 7 ∧ c < 7 ∧ (χ a b c = 1 ∨ χ a b c = -1)) (n := n)
      (fun a b c ⟨a1, a2, a3, a4⟩ => ⟨a2, a1, a3, by rw [(w a b c a1 a2 a3).2.1]; rcases a4 with e | e <;> simp [e]⟩)
      (fun a b c ⟨a1, a2, a3, a4⟩ => ⟨a2, a3, a1, by rw [(w a b c a1 a2 a3).1]; exact a4⟩)
      (fun a b c a1 a2 a3 => ⟨by omega, by omega, by omega, h a b c a1 a2 a3⟩) i j k e.1 e.2.1 e.2.2.1 e.2.2.2.1 e.2.2.2.2.1 e.2.2.2.2.2).2.2.2
  · rw [if_neg e]
    exact w3 e
theorem AZ_ext {χ ψ : tC} {n : Nat} (h7 : n ≤ 7) (w : AZ χ n) (v : AZ ψ n) (b1 : ∀ i j k, ¬ (i < 7 ∧ j < 7 ∧ k < 7) → χ i j k = ψ i j k) (h : ∀ a b c, a < b → b < c → c < n → χ a b c = ψ a b c) : χ = ψ := by
  funext i j k
  by_cases e7 : i < 7 ∧ j < 7 ∧ k < 7
  · by_cases e : i < n ∧ j < n ∧ k < n ∧ i ≠ j ∧ j ≠ k ∧ i ≠ k
    · exact (alt6 (P := fun a b c => a < 7 ∧ b < 7 ∧ c < 7 ∧ χ a b c = ψ a b c) (n := n)
        (fun a b c ⟨a1, a2, a3, a4⟩ => ⟨a2, a1, a3, by rw [(w a b c a1 a2 a3).2.1, (v a b c a1 a2 a3).2.1, a4]⟩)
        (fun a b c ⟨a1, a2, a3, a4⟩ => ⟨a2, a3, a1, by rw [(w a b c a1 a2 a3).1, (v a b c a1 a2 a3).1, a4]⟩)
        (fun a b c a1 a2 a3 => ⟨by omega, by omega, by omega, h a b c a1 a2 a3⟩) i j k e.1 e.2.1 e.2.2.1 e.2.2.2.1 e.2.2.2.2.1 e.2.2.2.2.2).2.2.2
    · rw [(w i j k e7.1 e7.2.1 e7.2.2).2.2 e, (v i j k e7.1 e7.2.1 e7.2.2).2.2 e]
  · exact b1 i j k e7
theorem setC_up {χ : tC} {i j k a b c : Nat} {x : Int32} (h1 : i < j) (h2 : j < k) (h3 : a < b) (h4 : b < c) : setC χ i j k x a b c = if a = i ∧ b = j ∧ c = k then x else χ a b c := by
  rw [setC_at, if_neg (by omega), if_neg (by omega), if_neg (by omega), if_neg (by omega), if_neg (by omega)]
/-- all signs told, by rising points -/
def t3 (F : tC) (n : Nat) (χ : tC) : tC := fd3 (fun i j k χ => setC χ i j k (F i j k)) n χ
def f3 (F : tC) (n : Nat) (T : Nat → Int32) : Nat → Int32 := fd3 (fun i j k T => pT T i j k (F i j k)) n T
theorem cut_f3 {F : tC} {n : Nat} (h7 : n ≤ 7) (T : Nat → Int32) : cut (f3 F n T) = t3 F n (cut T) :=
  fd3_map (φ := cut) (fun i j k a h1 h2 h3 => cut_p (by omega) (by omega) (by omega)) T
theorem t3_val {F : tC} {n : Nat} {χ : tC} {a b c : Nat} (h1 : a < b) (h2 : b < c) (h3 : c < n) : t3 F n χ a b c = F a b c := by
  refine fd3_hit (I := fun χ : tC => χ a b c = F a b c) (fun i j k χ a1 a2 a3 e => ?_) h1 h2 h3 (fun χ => ?_) χ
  · show setC χ i j k (F i j k) a b c = F a b c
    rw [setC_up a1 a2 h1 h2]
    by_cases z : a = i ∧ b = j ∧ c = k
    · rw [if_pos z, z.1, z.2.1, z.2.2]
    · rw [if_neg z]; exact e
  · show setC χ a b c (F a b c) a b c = F a b c
    rw [setC_up h1 h2 h1 h2, if_pos ⟨rfl, rfl, rfl⟩]
theorem t3_AZ {F : tC} {n : Nat} {χ : tC} (w : AZ χ n) : AZ (t3 F n χ) n :=
  fd3_inv (I := fun χ => AZ χ n) (fun i j k χ h1 h2 h3 w => AZ_set w (by omega) (by omega) h3 (by omega) (by omega) (by omega)) χ w
theorem AZ_0 {n : Nat} : AZ (fun _ _ _ => 0) n := fun _ _ _ _ _ _ => ⟨rfl, (show (0 : Int32) = -0 by decide), fun _ => rfl⟩
theorem cut_0 {T : Nat → Int32} (h : ∀ c, c < 343 → T c = 0) : cut T = fun _ _ _ => 0 := by
  funext i j k
  unfold cut
  by_cases e : i < 7 ∧ j < 7 ∧ k < 7
  · rw [if_pos e, h _ (by omega)]
  · rw [if_neg e]
