/-! ===== loops ===== -/
/-- a fold over m numbers from p on -/
def fd {α : Type} (f : Nat → α → α) : Nat → Nat → α → α
  | _, 0, a => a
  | p, m + 1, a => fd f (p + 1) m (f p a)
theorem fd_z {α : Type} {f : Nat → α → α} {p : Nat} {a : α} : fd f p 0 a = a := rfl
theorem fd_s {α : Type} {f : Nat → α → α} {p m : Nat} {a : α} : fd f p (m + 1) a = fd f (p + 1) m (f p a) := rfl
theorem fd_last {α : Type} {f : Nat → α → α} : ∀ (m p : Nat) (a : α), fd f p (m + 1) a = f (p + m) (fd f p m a) := by
  intro m
  induction m with
  | zero => intro p a; rfl
  | succ m ih =>
    intro p a
    rw [fd_s, ih, fd_s]
    congr 1
    omega
theorem fd_ext {α : Type} {f g : Nat → α → α} : ∀ (m p : Nat) (a : α), (∀ k a, p ≤ k → k < p + m → f k a = g k a) → fd f p m a = fd g p m a := by
  intro m
  induction m with
  | zero => intro p a _; rfl
  | succ m ih =>
    intro p a h
    rw [fd_s, fd_s, h p a (by omega) (by omega)]
    exact ih _ _ fun k a h1 h2 => h k a (by omega) (by omega)
theorem fd_inv {α : Type} {f : Nat → α → α} {I : Nat → α → Prop} : ∀ (m p : Nat) (a : α), I p a → (∀ k a, p ≤ k → k < p + m → I k a → I (k + 1) (f k a)) → I (p + m) (fd f p m a) := by
  intro m
  induction m with
  | zero => intro p a h _; exact h
  | succ m ih =>
    intro p a h hs
    rw [fd_s, show p + (m + 1) = p + 1 + m by omega]
    exact ih _ _ (hs p a (by omega) (by omega) h) fun k a h1 h2 h3 => hs k a (by omega) (by omega) h3
/-- two folds side by side -/
theorem fd_sim {α β : Type} {f : Nat → α → α} {g : Nat → β → β} {R : Nat → α → β → Prop} : ∀ (m p : Nat) (a : α) (b : β), R p a b → (∀ k a b, p ≤ k → k < p + m → R k a b → R (k + 1) (f k a) (g k b)) → R (p + m) (fd f p m a) (fd g p m b) := by
  intro m
  induction m with
  | zero => intro p a b h _; exact h
  | succ m ih =>
    intro p a b h hs
    rw [fd_s, fd_s, show p + (m + 1) = p + 1 + m by omega]
    exact ih _ _ _ (hs p a b (by omega) (by omega) h) fun k a b h1 h2 h3 => hs k a b (by omega) (by omega) h3
/-- a loop upwards: k the running number, a what counts, w what nobody reads again; I holds at every turn -/
theorem lp {α β : Type} {L : Nat → α → β → Prop} {E : α → Prop} {f : Nat → α → α} {n : Nat} (I : Nat → α → Prop) (h0 : ∀ a w, I n a → L n a w = E a) (h1 : ∀ k a w (F : α → Prop), k < n → I k a → (∀ a w, I (k + 1) a → L (k + 1) a w = F a) → L k a w = F (f k a)) :
    ∀ m k, k + m = n → ∀ a w, I k a → L k a w = E (fd f k m a) := by
  intro m
  induction m with
  | zero =>
    intro k hk a w hi
    have : k = n := by omega
    subst this
    exact h0 a w hi
  | succ m ih =>
    intro k hk a w hi
    exact h1 k a w (fun a => E (fd f (k + 1) m a)) (by omega) hi fun a w hi => ih (k + 1) (by omega) a w hi
/-- the same, with an early end as soon as b tells it -/
theorem lpx {α β : Type} {L : Nat → α → β → Prop} {E : α → Prop} {f : Nat → α → α} {b : α → Bool} {n : Nat} (I : Nat → α → Prop) (h0 : ∀ a w, I n a → L n a w = E a) (hx : ∀ k a w, k < n → I k a → b a = true → L k a w = E a) (h1 : ∀ k a w (F : α → Prop), k < n → I k a → b a = false → (∀ a w, I (k + 1) a → L (k + 1) a w = F a) → L k a w = F (f k a)) :
    ∀ m k, k + m = n → ∀ a w, I k a → L k a w = E (fd (fun k a => if b a = true then a else f k a) k m a) := by
  have stay : ∀ m k a, b a = true → fd (fun k a => if b a = true then a else f k a) k m a = a := by
    intro m
    induction m with
    | zero => intro k a _; rfl
    | succ m ih => intro k a h; rw [fd_s, if_pos h]; exact ih _ _ h
  intro m
  induction m with
  | zero =>
    intro k hk a w hi
    have : k = n := by omega
    subst this
    exact h0 a w hi
  | succ m ih =>
    intro k hk a w hi
    cases hb : b a with
    | true => rw [hx k a w (by omega) hi hb, stay _ _ _ hb]
    | false =>
      rw [fd_s, if_neg (by simp [hb])]
      exact h1 k a w (fun a => E (fd (fun k a => if b a = true then a else f k a) (k + 1) m a)) (by omega) hi hb fun a w hi => ih (k + 1) (by omega) a w hi
/-- a loop that asks whether all are so -/
theorem lpa {β : Type} {L : Nat → Bool → β → Prop} {E : Bool → Prop} {f : Nat → Bool} {n : Nat} (h0 : ∀ b w, L n b w = E b) (hx : ∀ k w, k < n → L k false w = E false) (h1 : ∀ k w A B, k < n → (∀ w, L (k + 1) true w = A) → (∀ w, L (k + 1) false w = B) → L k true w = (if f k = true then A else B)) :
    ∀ m k, k + m = n → ∀ b w, L k b w = E (b && aB f k m) := by
  intro m
  induction m with
  | zero =>
    intro k hk b w
    have : k = n := by omega
    subst this
    rw [h0]
    simp [aB]
  | succ m ih =>
    intro k hk b w
    cases b with
    | false => rw [hx k w (by omega)]; rfl
    | true =>
      rw [h1 k w _ _ (by omega) (ih (k + 1) (by omega) true) (ih (k + 1) (by omega) false)]
      show _ = E (true && (f k && aB f (k + 1) m))
      cases f k <;> rfl
/-- the same, where a loop that has found one goes on -/
theorem lpc {β : Type} {L : Nat → Bool → β → Prop} {E : Bool → Prop} {f : Nat → Bool} {n : Nat} (h0 : ∀ b w, L n b w = E b) (hx : ∀ k w A B, k < n → (∀ w, L (k + 1) true w = A) → (∀ w, L (k + 1) false w = B) → L k false w = B) (h1 : ∀ k w A B, k < n → (∀ w, L (k + 1) true w = A) → (∀ w, L (k + 1) false w = B) → L k true w = (if f k = true then A else B)) :
    ∀ m k, k + m = n → ∀ b w, L k b w = E (b && aB f k m) := by
  intro m
  induction m with
  | zero =>
    intro k hk b w
    have : k = n := by omega
    subst this
    rw [h0]
    simp [aB]
  | succ m ih =>
    intro k hk b w
    cases b with
    | false =>
      rw [hx k w _ _ (by omega) (ih (k + 1) (by omega) true) (ih (k + 1) (by omega) false)]
      rfl
    | true =>
      rw [h1 k w _ _ (by omega) (ih (k + 1) (by omega) true) (ih (k + 1) (by omega) false)]
      show _ = E (true && (f k && aB f (k + 1) m))
      cases f k <;> rfl
/-- a sum of m numbers from p on -/
def sB (f : Nat → Nat) : Nat → Nat → Nat
  | _, 0 => 0
  | p, m + 1 => f p + sB f (p + 1) m
theorem lps {β : Type} {L : Nat → Nat → β → Prop} {E : Nat → Prop} {f : Nat → Nat} {n : Nat} (h0 : ∀ a w, L n a w = E a) (h1 : ∀ k a w (F : Nat → Prop), k < n → (∀ a w, L (k + 1) a w = F a) → L k a w = F (a + f k)) :
    ∀ m k, k + m = n → ∀ a w, L k a w = E (a + sB f k m) := by
  intro m
  induction m with
  | zero =>
    intro k hk a w
    have : k = n := by omega
    subst this
    rw [h0]
    rfl
  | succ m ih =>
    intro k hk a w
    rw [h1 k a w (fun a => E (a + sB f (k + 1) m)) (by omega) (ih (k + 1) (by omega))]
    show E (a + f k + sB f (k + 1) m) = E (a + (f k + sB f (k + 1) m))
    rw [Nat.add_assoc]
/-- a search for the first -/
theorem lpF {β : Type} {L : Nat → β → Prop} {E : Int32 → Prop} {f : Nat → Bool} {n : Nat} (h0 : ∀ w, L n w = E (-1)) (h1 : ∀ k w A, k < n → (∀ w, L (k + 1) w = A) → L k w = (if f k = true then E (nI k) else A)) :
    ∀ m k, k + m = n → ∀ w, L k w = E (pF f k m) := by
  intro m
  induction m with
  | zero =>
    intro k hk w
    have : k = n := by omega
    subst this
    exact h0 w
  | succ m ih =>
    intro k hk w
    rw [h1 k w _ (by omega) (ih (k + 1) (by omega))]
    show _ = E (if f k = true then nI k else pF f (k + 1) m)
    cases f k <;> rfl
theorem aB_ext {f g : Nat → Bool} : ∀ (m p : Nat), (∀ k, p ≤ k → k < p + m → f k = g k) → aB f p m = aB g p m := by
  intro m
  induction m with
  | zero => intro p _; rfl
  | succ m ih =>
    intro p h
    unfold aB
    rw [h p (by omega) (by omega), ih (p + 1) fun k h1 h2 => h k (by omega) (by omega)]
theorem sB_ext {f g : Nat → Nat} : ∀ (m p : Nat), (∀ k, p ≤ k → k < p + m → f k = g k) → sB f p m = sB g p m := by
  intro m
  induction m with
  | zero => intro p _; rfl
  | succ m ih =>
    intro p h
    unfold sB
    rw [h p (by omega) (by omega), ih (p + 1) fun k h1 h2 => h k (by omega) (by omega)]
/-- a whole number lies between 0 and n - 1 -/
def pI (x : Int32) (n : Nat) : Bool := !decide (x < 0) && !decide (nI n ≤ x)
theorem pI_iff {x : Int32} {n : Nat} (hn : n < 1000) : pI x n = true ↔ ∃ k, k < n ∧ x = nI k := by
  unfold pI
  constructor
  · intro h
    simp only [Bool.and_eq_true, Bool.not_eq_true', decide_eq_false_iff_not] at h
    obtain ⟨j, hj, e, -⟩ := pk_mu h.1 h.2 (by omega)
    exact ⟨j, hj, e⟩
  · rintro ⟨k, hk, rfl⟩
    simp only [Bool.and_eq_true, Bool.not_eq_true', decide_eq_false_iff_not]
    exact ⟨nI_pos (by omega), nI_ge hk (by omega)⟩
theorem pI_nI {k n : Nat} (hk : k < 1000) (hn : n < 1000) : pI (nI k) n = decide (k < n) := by
  unfold pI
  have e1 : ¬ nI k < 0 := nI_pos (by omega)
  have e2 := nI_le' hn hk
  by_cases h : k < n
  · have e3 : ¬ nI n ≤ nI k := by rw [e2]; omega
    simp [h, e1, e3]
  · have e3 : nI n ≤ nI k := by rw [e2]; omega
    simp [h, e1, e3]
theorem pI_f {x : Int32} {n : Nat} (h : pI x n = false) : x < 0 ∨ nI n ≤ x := by
  unfold pI at h
  simp only [Bool.and_eq_false_iff, Bool.not_eq_false', decide_eq_true_eq] at h
  exact h
