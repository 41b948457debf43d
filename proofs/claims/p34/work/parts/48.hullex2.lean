theorem pig : ∀ (m : Nat) (f : Nat → Nat), (∀ k, k ≤ m → f k < m) → ∃ i j, i < j ∧ j ≤ m ∧ f i = f j := by
  intro m
  induction m with
  | zero => intro f h; exact absurd (h 0 (Nat.le_refl _)) (by omega)
  | succ m ih =>
    intro f h
    by_cases hx : ∃ i, i ≤ m ∧ f i = f (m + 1)
    · obtain ⟨i, hi, e⟩ := hx
      exact ⟨i, m + 1, by omega, Nat.le_refl _, e⟩
    · have hy := h (m + 1) (Nat.le_refl _)
      have ne : ∀ k, k ≤ m → f k ≠ f (m + 1) := fun k hk e => hx ⟨k, hk, e⟩
      obtain ⟨i, j, h1, h2, h3⟩ := ih (fun k => if f k = m then f (m + 1) else f k) fun k hk => by
        have hk1 := h k (by omega)
        have := ne k hk
        show (if f k = m then f (m + 1) else f k) < m
        split <;> omega
      refine ⟨i, j, h1, by omega, ?_⟩
      have n1 := ne i (by omega)
      have n2 := ne j h2
      by_cases e1 : f i = m
      · by_cases e2 : f j = m
        · rw [e1, e2]
        · rw [if_pos e1, if_neg e2] at h3
          exact absurd h3.symm n2
      · by_cases e2 : f j = m
        · rw [if_neg e1, if_pos e2] at h3
          exact absurd h3 n1
        · rw [if_neg e1, if_neg e2] at h3
          exact h3
/-- a new point keeps a hull -/
theorem fS_add {χ : tC} {n : Nat} (w : WS χ n) (h7 : n ≤ 7) (h : qhold χ n = true) {S : Nat → Prop} (hS : ∀ c, S c → c < n) (hn : ∀ a b, fS χ S a b → ∃ c, fS χ S b c) {p q r : Nat} (hr : r < n) (nr : ¬ S r) (f : fS χ S p q) : ∃ a b, fS χ (fun x => S x ∨ x = r) a b := by
  have hnx0 : ∀ b, ∃ y, (∃ c, fS χ S b c) → fS χ S b y := fun b => by
    by_cases hb : ∃ c, fS χ S b c
    · obtain ⟨c, hc⟩ := hb
      exact ⟨c, fun _ => hc⟩
    · exact ⟨0, fun z => absurd z hb⟩
  obtain ⟨nx, hnx⟩ := Classical.skolem.mp hnx0
  obtain ⟨v, v0, vs⟩ : ∃ v : Nat → Nat, v 0 = p ∧ ∀ k, v (k + 1) = nx (v k) := ⟨fun k => Nat.rec p (fun _ b => nx b) k, rfl, fun k => rfl⟩
  have ve : ∀ k, fS χ S (v k) (v (k + 1)) := by
    intro k
    induction k with
    | zero => rw [vs, v0]; exact hnx p ⟨q, f⟩
    | succ k ih =>
      rw [vs (k + 1)]
      exact hnx _ (hn _ _ ih)
  have vS : ∀ k, S (v k) := fun k => (ve k).1
  have vn : ∀ k, v k < n := fun k => hS _ (vS k)
  have vr : ∀ k, v k ≠ r := fun k z => nr (z ▸ vS k)
  by_cases hx : ∃ k, χ (v k) (v (k + 1)) r = 1
  · -- the first edge that has r to its left
    have least : ∀ k, χ (v k) (v (k + 1)) r = 1 → ∃ k, χ (v k) (v (k + 1)) r = 1 ∧ ∀ j, j < k → χ (v j) (v (j + 1)) r ≠ 1 := by
      intro k
      induction k using Nat.strongRecOn with
      | _ k ih =>
        intro hk
        by_cases hj : ∃ j, j < k ∧ χ (v j) (v (j + 1)) r = 1
        · obtain ⟨j, j1, j2⟩ := hj
          exact ih j j1 j2
        · exact ⟨k, hk, fun j j1 j2 => hj ⟨j, j1, j2⟩⟩
    obtain ⟨k0, hk0⟩ := hx
    obtain ⟨k, hk, hj⟩ := least k0 hk0
    cases k with
    | zero =>
      refine ⟨v 0, v 1, Or.inl (vS 0), Or.inl (vS 1), (ve 0).2.2.1, fun c hc c1 c2 => ?_⟩
      rcases hc with hc | rfl
      · exact (ve 0).2.2.2 c hc c1 c2
      · exact hk
    | succ k =>
      have e := hj k (by omega)
      have e' : χ (v k) (v (k + 1)) r = -1 := (WS_at w h7 (vn k) (vn (k + 1)) hr (ve k).2.2.1 (vr (k + 1)) (vr k)).resolve_left e
      exact ⟨r, v (k + 1), fS_new w h7 h hS hr nr (ve k) (ve (k + 1)) e' hk⟩
  · exfalso
    have right : ∀ k, χ (v k) (v (k + 1)) r = -1 := fun k => (WS_at w h7 (vn k) (vn (k + 1)) hr (ve k).2.2.1 (vr (k + 1)) (vr k)).resolve_left fun e => hx ⟨k, e⟩
    have inj : ∀ i d, v i = v (i + d) → v 0 = v d := by
      intro i
      induction i with
      | zero => intro d e; rw [Nat.zero_add] at e; exact e
      | succ i ih =>
        intro d e
        refine ih d ?_
        have h1 := ve i
        have h2 := ve (i + d)
        rw [show i + d + 1 = i + 1 + d by omega, ← e] at h2
        exact fS_inj w h7 hS h1 h2
    obtain ⟨i, j, ij, -, e⟩ := pig 7 v fun k _ => by have := vn k; omega
    have e0 : v 0 = v (j - i) := inj i (j - i) (by rw [show i + (j - i) = j by omega]; exact e)
    -- the first return
    have ret : ∀ k, 0 < k → v 0 = v k → ∃ k, 0 < k ∧ v 0 = v k ∧ ∀ j, 0 < j → j < k → v 0 ≠ v j := by
      intro k
      induction k using Nat.strongRecOn with
      | _ k ih =>
        intro hk he
        by_cases hj : ∃ j, 0 < j ∧ j < k ∧ v 0 = v j
        · obtain ⟨j, j1, j2, j3⟩ := hj
          exact ih j j2 j1 j3
        · exact ⟨k, hk, he, fun j j1 j2 j3 => hj ⟨j, j1, j2, j3⟩⟩
    obtain ⟨k, k1, k2, k3⟩ := ret (j - i) (by omega) e0
    have walk : ∀ m, 0 < m → m < k → χ (v 0) (v m) r = -1 := by
      intro m
      induction m with
      | zero => intro hm; omega
      | succ m ih =>
        intro _ hm
        by_cases m0 : m = 0
        · subst m0; exact right 0
        · have e1 := ih (by omega) (by omega)
          have e2 := right m
          have a1 := k3 m (by omega) (by omega)
          have a2 := k3 (m + 1) (by omega) hm
          have e3 := (ve m).2.2.2 (v 0) (vS 0) a1 a2
          have g := gp4 w h7 h (v 0) (v m) (v (m + 1)) r (vn 0) (vn m) (vn (m + 1)) hr a1 a2 (vr 0) (ve m).2.2.1 (vr m) (vr (m + 1))
          have b0 := vn 0
          have b1 := vn m
          have b2 := vn (m + 1)
          rw [WS_r w (a := v 0) (b := v m) (c := v (m + 1)) (by omega) (by omega) (by omega)] at e3
          rw [q4_same, e2, e1, WS_k w (a := v 0) (b := v m) (c := v (m + 1)) (by omega) (by omega) (by omega), e3, WS_k w (a := v 0) (b := v (m + 1)) (c := r) (by omega) (by omega) (by omega)] at g
          rcases WS_at w h7 (vn 0) (vn (m + 1)) hr a2 (vr (m + 1)) (vr 0) with z | z
          · rw [z] at g
            exact absurd g (by decide)
          · exact z
    have kk : k = 1 ∨ 1 < k := by omega
    rcases kk with rfl | kk
    · exact (ve 0).2.2.1 k2
    · have e1 := walk (k - 1) (by omega) (by omega)
      have e2 := right (k - 1)
      rw [show k - 1 + 1 = k by omega, ← k2] at e2
      have b0 := vn 0
      have b1 := vn (k - 1)
      rw [WS_j w (a := v 0) (b := v (k - 1)) (c := r) (by omega) (by omega) (by omega), e1] at e2
      exact absurd e2 (by decide)
