/-! ===== triangulate ===== -/
def fd2 {α : Type} (f : Nat → Nat → α → α) (n : Nat) (a : α) : α := fd (fun i a => fd (fun j a => f i j a) (i + 1) (n - (i + 1)) a) 0 n a
theorem lt2 {α β γ : Type} {n : Nat} {L1 : Nat → α → β → Prop} {L2 : Nat → Nat → α → γ → Prop} {E : α → Prop} {f : Nat → Nat → α → α}
    (e1 : ∀ a w, L1 n a w = E a) (s1 : ∀ i a w, i < n → ∃ w', L1 i a w = L2 i (i + 1) a w') (e2 : ∀ i a w, i < n → ∃ w', L2 i n a w = L1 (i + 1) a w')
    (s2 : ∀ i j a w, i < j → j < n → ∃ w', L2 i j a w = L2 i (j + 1) (f i j a) w') : ∀ a w, L1 0 a w = E (fd2 f n a) := by
  have l2 : ∀ i, i < n → ∀ (F : α → Prop), (∀ a w, L1 (i + 1) a w = F a) → ∀ m j, j + m = n → ∀ a w, i < j → L2 i j a w = F (fd (fun j a => f i j a) j m a) := fun i hi F hF =>
    lp (fun j _ => i < j) (fun a w _ => by obtain ⟨w', e⟩ := e2 i a w hi; rw [e, hF]) fun j a w G hj hij hG => by
      obtain ⟨w', e⟩ := s2 i j a w hij hj
      rw [e]
      exact hG _ _ (by omega)
  have l1 : ∀ m i, i + m = n → ∀ a w, True → L1 i a w = E (fd (fun i a => fd (fun j a => f i j a) (i + 1) (n - (i + 1)) a) i m a) :=
    lp (fun _ _ => True) (fun a w _ => e1 a w) fun i a w G hi _ hG => by
      obtain ⟨w', e⟩ := s1 i a w hi
      rw [e]
      exact l2 i hi G (fun a w => hG a w trivial) (n - (i + 1)) (i + 1) (by omega) a w' (by omega)
  exact fun a w => l1 n 0 (by omega) a w trivial
theorem fd2_map {α β : Type} {φ : α → β} {f : Nat → Nat → α → α} {g : Nat → Nat → β → β} {n : Nat} (h : ∀ i j a, i < j → j < n → φ (f i j a) = g i j (φ a)) (a : α) : φ (fd2 f n a) = fd2 g n (φ a) :=
  fd_map _ _ _ fun i a h1 h2 => fd_map _ _ _ fun j a h3 h4 => h i j a (by omega) (by omega)
/-- an invariant that knows the running pair -/
theorem fd2_inv {α : Type} {f : Nat → Nat → α → α} {n : Nat} {I : Nat → Nat → α → Prop} (h : ∀ i j a, i < j → j < n → I i j a → I i (j + 1) (f i j a)) (e : ∀ i a, i < n → I i n a → I (i + 1) (i + 2) a) (e' : ∀ i j a, I i j a → n ≤ j → I i n a) (a : α) (h0 : I 0 1 a) : I n (n + 1) (fd2 f n a) := by
  have := fd_inv (I := fun i a => I i (i + 1) a) (f := fun i a => fd (fun j a => f i j a) (i + 1) (n - (i + 1)) a) n 0 a h0 fun i a h1 h2 ha => by
    have hi : i < n := by omega
    have k := fd_inv (I := fun j a => I i j a) (f := fun j a => f i j a) (n - (i + 1)) (i + 1) a ha fun j a h3 h4 hj => h i j a (by omega) (by omega) hj
    rw [show i + 1 + (n - (i + 1)) = n by omega] at k
    exact e i _ hi k
  rw [Nat.zero_add] at this
  exact this
/-- whether a segment crosses none of a set -/
def fre (χ : tC) (n : Nat) (T : Int32) (i j : Nat) : Bool := aB (fun k => aB (fun l => !(bt T (sx k l) && qcross χ i j k l)) (k + 1) (n - (k + 1))) 0 n
theorem fre_iff {χ : tC} {n i j : Nat} {T : Int32} : fre χ n T i j = true ↔ ∀ k l, k < l → l < n → bt T (sx k l) = true → qcross χ i j k l = false := by
  unfold fre
  rw [aB_iff]
  constructor
  · intro h k l h1 h2 h3
    have := (aB_iff _ _ _).mp (h k (by omega) (by omega)) l (by omega) (by omega)
    simpa [h3] using this
  · intro h k _ _
    refine (aB_iff _ _ _).mpr fun l _ _ => ?_
    cases e : bt T (sx k l) with
    | false => simp
    | true => simp [h k l (by omega) (by omega) e]
def stp (χ : tC) (n : Nat) (i j : Nat) (T : Int32) : Int32 := if fre χ n T i j = true then T ||| one (sx i j) else T
/-- the triangulation that goes through all segments -/
def tri (χ : tC) (n : Nat) : Int32 := fd2 (stp χ n) n 0
def stp2 (χ : tC) (n : Nat) (i j : Nat) (a : Int32 × Nat) : Int32 × Nat := if fre χ n a.1 i j = true then (a.1 ||| one (sx i j), a.2 + 1) else a
theorem stp2_1 (χ : tC) (n : Nat) : (fd2 (stp2 χ n) n (0, 0)).1 = tri χ n := by
  refine fd2_map (φ := Prod.fst) (fun i j a h1 h2 => ?_) (0, 0)
  unfold stp2 stp
  by_cases e : fre χ n a.1 i j = true
  · rw [if_pos e, if_pos e]
  · rw [if_neg e, if_neg e]
theorem pc_or {T : Int32} {q : Nat} (hq : q < 32) (h : bt T q = false) : pc (T ||| one q) = pc T + 1 := by
  unfold pc
  rw [cB_sB, cB_sB]
  refine sB_1 (u := q) 32 0 (fun k h1 h2 e => ?_) (by omega) (by omega) ?_
  · rw [b_or, bt_one hq, decide_eq_false e, Bool.or_false]
  · rw [b_or, bt_one hq, h]
    simp [bn]
theorem pc_0 : pc 0 = 0 := by decide
theorem tri_inv {χ : tC} {n : Nat} (w : WS χ n) (h7 : n ≤ 7) : (∀ q, bt (tri χ n) q = true → ∃ k l, k < l ∧ l < n ∧ q = sx k l) ∧ PL χ n (tri χ n) ∧ pc (tri χ n) = (fd2 (stp2 χ n) n (0, 0)).2 := by
  have g := fd2_inv (f := stp2 χ n) (n := n) (I := fun i j a => (∀ q, bt a.1 q = true → ∃ k l, k < l ∧ l < n ∧ q = sx k l ∧ (k < i ∨ (k = i ∧ l < j))) ∧ (∀ k l k' l', k < l → l < n → k' < l' → l' < n → bt a.1 (sx k l) = true → bt a.1 (sx k' l') = true → qcross χ k l k' l' = false) ∧ pc a.1 = a.2)
    (fun i j a hij hj ⟨h1, h2, h3⟩ => by
      have s21 := sx_lt (show i < 7 by omega) (show j < 7 by omega) (show i ≠ j by omega)
      unfold stp2
      by_cases e : fre χ n a.1 i j = true
      · rw [if_pos e]
        have hf := fre_iff.mp e
        have b : ∀ q, bt (a.1 ||| one (sx i j)) q = true → bt a.1 q = true ∨ q = sx i j := fun q hq => by
          rw [b_or, bt_one (by omega)] at hq
          simpa using hq
        refine ⟨fun q hq => ?_, fun k l k' l' kl ln kl' ln' t1 t2 => ?_, ?_⟩
        · rcases b q hq with t | rfl
          · obtain ⟨k, l, a1, a2, a3, a4⟩ := h1 q t
            exact ⟨k, l, a1, a2, a3, by omega⟩
          · exact ⟨i, j, hij, hj, rfl, by omega⟩
        · rcases b _ t1 with u1 | u1
          · rcases b _ t2 with u2 | u2
            · exact h2 k l k' l' kl ln kl' ln' u1 u2
            · obtain ⟨e1, e2⟩ := sx_inj (show l' < 7 by omega) (show j < 7 by omega) kl' hij u2
              rw [qcross_s, e1, e2]
              exact hf k l kl ln u1
          · obtain ⟨e1, e2⟩ := sx_inj (show l < 7 by omega) (show j < 7 by omega) kl hij u1
            rcases b _ t2 with u2 | u2
            · rw [e1, e2]
              exact hf k' l' kl' ln' u2
            · obtain ⟨e3, e4⟩ := sx_inj (show l' < 7 by omega) (show j < 7 by omega) kl' hij u2
              rw [← Bool.not_eq_true, qcross_iff]
              rintro ⟨⟨-, d, -⟩, -⟩
              exact d (e1.trans e3.symm)
        · show pc (a.1 ||| one (sx i j)) = a.2 + 1
          rw [pc_or (by omega), h3]
          cases t : bt a.1 (sx i j) with
          | false => rfl
          | true =>
            obtain ⟨k, l, a1, a2, a3, a4⟩ := h1 _ t
            obtain ⟨rfl, rfl⟩ := sx_inj (by omega) (by omega) hij a1 a3
            omega
      · rw [if_neg e]
        refine ⟨fun q hq => ?_, h2, h3⟩
        obtain ⟨k, l, a1, a2, a3, a4⟩ := h1 q hq
        exact ⟨k, l, a1, a2, a3, by omega⟩)
    (fun i a hi ⟨h1, h2, h3⟩ => ⟨fun q hq => by
      obtain ⟨k, l, a1, a2, a3, a4⟩ := h1 q hq
      exact ⟨k, l, a1, a2, a3, by omega⟩, h2, h3⟩)
    (fun i j a ⟨h1, h2, h3⟩ hj => ⟨fun q hq => by
      obtain ⟨k, l, a1, a2, a3, a4⟩ := h1 q hq
      exact ⟨k, l, a1, a2, a3, by omega⟩, h2, h3⟩)
    (0, 0) (by
      refine ⟨fun (q : Nat) (hq : bt (0 : Int32) q = true) => ?_, fun k l k' l' _ _ _ _ (t : bt (0 : Int32) (sx k l) = true) => ?_, pc_0⟩
      · rw [b_0] at hq; cases hq
      · rw [b_0] at t; cases t)
  obtain ⟨g1, g2, g3⟩ := g
  rw [stp2_1] at g1 g2 g3
  refine ⟨fun q hq => ?_, fun i j k l hi hj hk hl ij kl t1 t2 => ?_, g3⟩
  · obtain ⟨k, l, a1, a2, a3, -⟩ := g1 q hq
    exact ⟨k, l, a1, a2, a3⟩
  · have st : ∀ i j k l, i < n → j < n → k < n → l < n → i ≠ j → k < l → bt (tri χ n) (sx i j) = true → bt (tri χ n) (sx k l) = true → qcross χ i j k l = false := by
      intro i j k l hi hj hk hl ij kl t1 t2
      by_cases h : i < j
      · exact g2 i j k l h hj kl hl t1 t2
      · rw [qcross_j w (i := j) (j := i) (by omega) (by omega) (by omega) (by omega)]
        exact g2 j i k l (by omega) hi kl hl (by rw [sx_comm]; exact t1) t2
    by_cases h : k < l
    · exact st i j k l hi hj hk hl ij h t1 t2
    · rw [qcross_s, qcross_j w (i := l) (j := k) (by omega) (by omega) (by omega) (by omega), qcross_s]
      exact st i j l k hi hj hl hk ij (by omega) t1 (by rw [sx_comm]; exact t2)
/-! the class -/
/-- what the row of crossings is after reading -/
def RM (M : Nat → Int32) (χ : tC) (n : Nat) : Prop := ∀ p q, p < 21 → bt (M p) q = xq χ n p q
theorem m_25 {h : tH} {M : Nat → Int32} {i j : Nat} {x : Int32} (hM : h.1 10 = M) (hi : i < 7) (hj : j < 7) (ij : i ≠ j) (Q : tO → tH → Prop) : AM 25 [.ref 9, .int (nI i), .int (nI j), .int x] h Q = Q (RI (zb (decide (M (sx i j) &&& x = 0)))) h := by
  have s := sx_lt hi hj ij
  rw [am_25, s_25_0]
  simp only [t_ob_9', true_and, m_21 hi hj, t_ki, m_get t_ar_10', zg_n s (show 21 < 5000 by decide), hM]
  by_cases e : M (sx i j) &&& x = 0
  · simp [e, zb]
  · simp [e, zb]
theorem cro_iff {M : Nat → Int32} {χ : tC} {n i j : Nat} {T : Int32} (r : RM M χ n) (w : WS χ n) (h7 : n ≤ 7) (hi : i < n) (hj : j < n) (ij : i ≠ j) : decide (M (sx i j) &&& T = 0) = fre χ n T i j := by
  have s := sx_lt (show i < 7 by omega) (show j < 7 by omega) ij
  rw [Bool.eq_iff_iff, decide_eq_true_eq, fre_iff]
  constructor
  · intro h k l kl hl t
    have := congrArg (fun z => bt z (sx k l)) h
    simp only [b_and, b_0, r _ _ s, t, Bool.and_true] at this
    rw [xq_cross w h7 hi hj (by omega) hl ij (by omega)] at this
    exact this
  · intro h
    refine b_ext fun q hq => ?_
    rw [b_and, b_0, r _ _ s]
    cases e : xq χ n (sx i j) q with
    | false => rfl
    | true =>
      cases t : bt T q with
      | false => rfl
      | true =>
        exfalso
        have q21 : q < n * (n - 1) / 2 := by
          apply Classical.byContradiction
          intro z
          rw [xq_big h7 (Or.inr (by omega))] at e
          cases e
        have q21' : q < 21 := by
          have hh : ∀ n, n < 8 → n * (n - 1) / 2 ≤ 21 := by decide +kernel
          have := hh n (by omega)
          omega
        obtain ⟨e1, e2, e3⟩ := sx_sxi q21'
        have ln : (sxi q).2 < n := by
          have hh : ∀ n, n < 8 → ∀ q, q < 21 → q < n * (n - 1) / 2 → (sxi q).2 < n := by decide +kernel
          exact hh n (by omega) q q21' q21
        rw [← e1] at e t
        rw [xq_cross w h7 hi hj (by omega) ln ij (by omega)] at e
        rw [h _ _ e2 ln t] at e
        cases e
theorem m_29 {h : tH} {M : Nat → Int32} {χ : tC} {n : Nat} (hM : h.1 10 = M) (h9 : h.1 9 1 = nI n) (r : RM M χ n) (w : WS χ n) (h7 : n ≤ 7) (Q : tO → tH → Prop) : AM 29 [.ref 9] h Q = Q (RI (tri χ n)) h := by
  have l := lt2 (α := Int32) (β := Value) (γ := Unit) (n := n)
    (L1 := fun i T w => AX 2 29 4 [.ref 9, .int T, .int (nI i), w] [] h Q)
    (L2 := fun i j T _ => AX 2 29 16 [.ref 9, .int T, .int (nI i), .int (nI j)] [] h Q)
    (E := fun T => Q (RI T) h) (f := stp χ n)
    (fun T w => by
      rw [s_29_4, h9, if_pos (Int32.le_refl _)]
      simp only [t_ob_9', true_and])
    (fun i T w hi => ⟨(), by
      rw [s_29_4, h9]
      simp (disch := omega) only [t_ob_9', true_and, nI_le', nI_1]
      rw [if_neg (by omega)]⟩)
    (fun i T w hi => ⟨.int (nI n), by
      rw [s_29_16, h9, if_pos (Int32.le_refl _)]
      simp only [t_ob_9', true_and, nI_1]⟩)
    (fun i j T w' hij hj => ⟨(), by
      have c := cro_iff (T := T) r w h7 (show i < n by omega) hj (show i ≠ j by omega)
      rw [s_29_16, h9]
      simp (disch := omega) only [t_ob_9', true_and, nI_le', nI_1, m_25 hM (show i < 7 by omega) (show j < 7 by omega) (show i ≠ j by omega), t_ki, m_22 (show i < 7 by omega) (show j < 7 by omega), s_29_42, c, zb_0]
      rw [if_neg (by omega)]
      unfold stp
      by_cases e : fre χ n T i j = true
      · rw [if_neg (by simp [e]), if_pos e]
        unfold sb
        rw [if_neg (show ¬ i = j by omega)]
      · rw [if_pos (by simpa using e), if_neg e]⟩)
  rw [am_29, s_29_0]
  exact l 0 (.float 0)
