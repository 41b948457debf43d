theorem sB_ex {f g : Nat → Nat} : ∀ (m p : Nat), (∀ q, p ≤ q → q < p + m → f q = g q) → sB f p m = sB g p m := by
  intro m
  induction m with
  | zero => intro p _; rfl
  | succ m ih =>
    intro p h
    show f p + sB f (p + 1) m = g p + sB g (p + 1) m
    rw [h p (by omega) (by omega), ih (p + 1) fun q a b => h q (by omega) (by omega)]
theorem sB_1 {f g : Nat → Nat} {u : Nat} : ∀ (m p : Nat), (∀ q, p ≤ q → q < p + m → q ≠ u → g q = f q) → p ≤ u → u < p + m → g u = f u + 1 → sB g p m = sB f p m + 1 := by
  intro m
  induction m with
  | zero => intro p _ h1 h2; omega
  | succ m ih =>
    intro p h h1 h2 h3
    show g p + sB g (p + 1) m = f p + sB f (p + 1) m + 1
    by_cases e : p = u
    · subst e
      rw [h3, sB_ex (f := g) (g := f) m (p + 1) fun q a b => h q (by omega) (by omega) (by omega)]
      omega
    · rw [h p (by omega) (by omega) e, ih (p + 1) (fun q a b => h q (by omega) (by omega)) (by omega) (by omega) h3]
      omega
theorem sB_mono {f g : Nat → Nat} : ∀ (m p : Nat), (∀ q, p ≤ q → q < p + m → f q ≤ g q) → sB f p m ≤ sB g p m := by
  intro m
  induction m with
  | zero => intro p _; exact Nat.le_refl _
  | succ m ih =>
    intro p h
    show f p + sB f (p + 1) m ≤ g p + sB g (p + 1) m
    have h1 := h p (by omega) (by omega)
    have h2 := ih (p + 1) fun q a b => h q (by omega) (by omega)
    omega
theorem sB_slt {f g : Nat → Nat} {u : Nat} : ∀ (m p : Nat), (∀ q, p ≤ q → q < p + m → f q ≤ g q) → p ≤ u → u < p + m → f u < g u → sB f p m < sB g p m := by
  intro m
  induction m with
  | zero => intro p _ h1 h2; omega
  | succ m ih =>
    intro p h h1 h2 h3
    show f p + sB f (p + 1) m < g p + sB g (p + 1) m
    by_cases e : p = u
    · subst e
      have := sB_mono (f := f) (g := g) m (p + 1) fun q a b => h q (by omega) (by omega)
      omega
    · have h4 := h p (by omega) (by omega)
      have := ih (p + 1) (fun q a b => h q (by omega) (by omega)) (by omega) (by omega) h3
      omega
theorem nI_hf {n : Nat} (h7 : n ≤ 7) : (nI n * (nI n - 1)) / 2 = nI (n * (n - 1) / 2) := by
  have hh : ∀ n, n < 8 → (nI n * (nI n - 1)) / 2 = nI (n * (n - 1) / 2) := by decide +kernel
  exact hh n (by omega)
theorem half_lt {n : Nat} (h7 : n ≤ 7) : n * (n - 1) / 2 < 22 := by
  have hh : ∀ n, n < 8 → n * (n - 1) / 2 < 22 := by decide +kernel
  exact hh n (by omega)
theorem nI_m2 {n : Nat} (h3 : 3 ≤ n) : nI n - 2 = nI (n - 2) := by
  obtain ⟨m, rfl⟩ : ∃ m, n = m + 2 := ⟨n - 2, by omega⟩
  rw [← nI_add, show nI 2 = (2 : Int32) from rfl, Nat.add_sub_cancel]
  exact Int32.add_sub_cancel _ _
theorem nI_p {t : Nat} (h : t < 999) : (nI t - 1 = -1) = (t = 0) := by
  cases t with
  | zero => exact propext ⟨fun _ => rfl, fun _ => rfl⟩
  | succ t =>
    rw [nI_s1]
    exact propext ⟨fun e => absurd e (nI_m1 (by omega)), fun e => by omega⟩
theorem nI_le1 {a b : Nat} (ha : a ≠ 0) (hb : b ≠ 0) (h1 : a < 1000) (h2 : b < 1000) : (nI a - 1 ≤ nI b - 1) = (a ≤ b) := by
  obtain ⟨a', rfl⟩ : ∃ a', a = a' + 1 := ⟨a - 1, by omega⟩
  obtain ⟨b', rfl⟩ : ∃ b', b = b' + 1 := ⟨b - 1, by omega⟩
  rw [nI_s1, nI_s1, nI_le' (by omega) (by omega)]
  exact propext ⟨fun h => by omega, fun h => by omega⟩
theorem f3_ext {F G : tC} {n : Nat} (e : ∀ i j k, i < j → j < k → k < n → F i j k = G i j k) {T T' : Nat → Int32} (h : ∀ c, c < 343 → T c = T' c) : ∀ c, c < 343 → f3 F n T c = f3 G n T' c := by
  have sim : ∀ (P : (Nat → Int32) → (Nat → Int32) → Prop) (f g : Nat → Nat → Nat → (Nat → Int32) → (Nat → Int32)) (n : Nat), (∀ i j k a b, i < j → j < k → k < n → P a b → P (f i j k a) (g i j k b)) → ∀ a b, P a b → P (fd3 f n a) (fd3 g n b) := fun P f g n hh a b hab =>
    fd_sim (R := fun _ => P) _ _ _ _ hab fun i a b h1 h2 hab => fd_sim (R := fun _ => P) _ _ _ _ hab fun j a b h3 h4 hab => fd_sim (R := fun _ => P) _ _ _ _ hab fun k a b h5 h6 hab => hh i j k a b (by omega) (by omega) (by omega) hab
  refine sim (fun T T' => ∀ c, c < 343 → T c = T' c) _ _ n (fun i j k a b h1 h2 h3 hab c hc => ?_) T T' h
  show pT a i j k (F i j k) c = pT b i j k (G i j k) c
  rw [e i j k h1 h2 h3]
  unfold pT upd
  rw [hab c hc]
