/-! ===== flips ===== -/
theorem fd_pair {β : Type} {F : Nat → Nat × β → Nat × β} {c : Nat → Nat} : ∀ (m p a : Nat) (g : β), (∀ k a g, p ≤ k → k < p + m → (F k (a, g)).1 = a + c k) → (fd F p m (a, g)).1 = a + sB c p m := by
  intro m
  induction m with
  | zero => intro p a g _; rfl
  | succ m ih =>
    intro p a g h
    rw [fd_s]
    have e : F p (a, g) = (a + c p, (F p (a, g)).2) := Prod.ext (h p a g (by omega) (by omega)) rfl
    rw [e, ih (p + 1) _ _ fun k a g h1 h2 => h k a g (by omega) (by omega), Nat.add_assoc]
    rfl
theorem setC_self {χ : tC} {i j k : Nat} {x : Int32} (ij : i ≠ j) (jk : j ≠ k) (ik : i ≠ k) : setC χ i j k x i j k = x := by
  rw [setC_at, if_neg (by omega), if_neg (by omega), if_neg (by omega), if_neg (by omega), if_neg (by omega), if_pos ⟨rfl, rfl, rfl⟩]
def flv (χ : tC) (n i j k : Nat) : Nat := bn (qhold (setC χ i j k (-χ i j k)) n)
def flp2 (χ : tC) (n i : Nat) : Nat → Nat := fun j => sB (flv χ n i j) (j + 1) (n - (j + 1))
def flp1 (χ : tC) (n : Nat) : Nat → Nat := fun i => sB (flp2 χ n i) (i + 1) (n - (i + 1))
/-- how many triples can be flipped -/
def flp (χ : tC) (n : Nat) : Nat := sB (flp1 χ n) 0 n
/-- a walk over all triples, each step the same kind of change -/
def wk3 (S : Nat → Nat → Nat → tH → tH) (χ : tC) (n i j : Nat) : Nat → Nat × tH → Nat × tH := fun k a => (a.1 + flv χ n i j k, S i j k a.2)
def wk2 (S : Nat → Nat → Nat → tH → tH) (χ : tC) (n i : Nat) : Nat → Nat × tH → Nat × tH := fun j a => fd (wk3 S χ n i j) (j + 1) (n - (j + 1)) a
def wk1 (S : Nat → Nat → Nat → tH → tH) (χ : tC) (n : Nat) : Nat → Nat × tH → Nat × tH := fun i a => fd (wk2 S χ n i) (i + 1) (n - (i + 1)) a
theorem wk_1 (S : Nat → Nat → Nat → tH → tH) (χ : tC) (n : Nat) (h : tH) : (fd (wk1 S χ n) 0 n (0, h)).1 = flp χ n := by
  have e : ∀ p m a g, (fd (wk1 S χ n) p m (a, g)).1 = a + sB (flp1 χ n) p m := fun p m a g => fd_pair m p a g fun i a g _ _ => by
    unfold wk1 flp1
    exact fd_pair _ _ a g fun j a g _ _ => by
      unfold wk2 flp2
      exact fd_pair _ _ a g fun k a g _ _ => rfl
  rw [e, Nat.zero_add]
  rfl
theorem wk_I (S : Nat → Nat → Nat → tH → tH) (χ : tC) (n : Nat) {I : tH → Prop} (hS : ∀ i j k g, i < j → j < k → k < n → I g → I (S i j k g)) {h : tH} (h0 : I h) : I (fd (wk1 S χ n) 0 n (0, h)).2 := by
  have e := fd_inv (f := wk1 S χ n) (I := fun _ a => I a.2) n 0 (0, h) h0 fun i a _ hi ha => by
    have e2 := fd_inv (f := wk2 S χ n i) (I := fun _ a => I a.2) (n - (i + 1)) (i + 1) a ha fun j a hj1 hj2 ha => by
      have e3 := fd_inv (f := wk3 S χ n i j) (I := fun _ a => I a.2) (n - (j + 1)) (j + 1) a ha fun k a hk1 hk2 ha => by
        exact hS i j k a.2 (by omega) (by omega) (by omega) ha
      exact e3
    exact e2
  exact e
def SC (χ : tC) (d i j k : Nat) (g : tH) : tH := hPut (hPut g (70 + d + 10) i j k (-χ i j k)) (70 + d + 10) i j k (χ i j k)
def SD (χ : tC) (d i j k : Nat) (g : tH) : tH := hSet (hSet g d i j k (-χ i j k)) d i j k (χ i j k)
def IC (χ : tC) (d : Nat) (h g : tH) : Prop := tX g (70 + d) = χ ∧ ∀ k i, k ≠ 70 + d + 10 → g.1 k i = h.1 k i
def ID (χ : tC) (d : Nat) (h g : tH) : Prop := tY g d = χ ∧ ∀ k i, ¬ (k = 20 ∧ 343 * d ≤ i ∧ i < 343 * d + 343) → g.1 k i = h.1 k i
theorem IC_s {χ : tC} {n d : Nat} {h g : tH} (w : WS χ n) (h7 : n ≤ 7) {i j k : Nat} (hi : i < n) (hj : j < n) (hk : k < n) (v : IC χ d h g) : IC χ d h (SC χ d i j k g) := by
  refine ⟨?_, fun k' i' e => ?_⟩
  · unfold SC
    rw [tX_put (by omega) (by omega) (by omega), tX_put (by omega) (by omega) (by omega), v.1]
    exact setC_back w (by omega) (by omega) (by omega)
  · unfold SC
    rw [hPut_o e, hPut_o e, v.2 _ _ e]
theorem ID_s {χ : tC} {n d : Nat} {h g : tH} (w : WS χ n) (h7 : n ≤ 7) {i j k : Nat} (hi : i < n) (hj : j < n) (hk : k < n) (v : ID χ d h g) : ID χ d h (SD χ d i j k g) := by
  refine ⟨?_, fun k' i' e => ?_⟩
  · unfold SD
    rw [tY_set (by omega) (by omega) (by omega), tY_set (by omega) (by omega) (by omega), v.1]
    exact setC_back w (by omega) (by omega) (by omega)
  · unfold SD
    by_cases z : k' = 20
    · subst z
      rw [hSet_out (by omega) (by omega) (by omega) (by omega), hSet_out (by omega) (by omega) (by omega) (by omega), v.2 _ _ e]
    · rw [hSet_k z, hSet_k z, v.2 _ _ e]
theorem neg_neg32 (x : Int32) : - -x = x := by simp
theorem c84 {h : tH} {D d n : Nat} {χ : tC} (h1 : h.1 0 3 = nI D) (h3 : D ≤ 6) (hd : d < D) (t1 : tn h (70 + d) n) (hχ : tX h (70 + d) = χ) (w : WS χ n) (hh : qhold χ n = true) : rn 84 [.ref 0, .int (nI d)] h (RI (nI (flp χ n))) (fd (wk1 (SC χ d) χ n) 0 n (0, h)).2 := by
  intro Q
  have hd6 : d < 6 := by omega
  have h7 := t1.2.2
  have tg : ∀ g, IC χ d h g → tn g (70 + d) n := fun g v => ⟨t1.1, by rw [v.2 _ _ (by omega)]; exact t1.2.1, h7⟩
  have cg : ∀ g, IC χ d h g → g.1 (70 + d) 1 = nI n := fun g v => (tg g v).2.1
  have step : ∀ i j k, i < j → j < k → k < n → ∀ a g, IC χ d h g → AM 45 [.ref (70 + d), .int (nI i), .int (nI j), .int (nI k)] g (t_ki (fun a1 h1 => (if a1 = (0 : Int32) then AX 6 84 90 [.ref 0, .int (nI d), .ref (70 + d), .int (nI a), .int (nI i), .int (nI j), .int (nI k)] [] h1 Q else (t_ob (70 + d) = some 6 ∧ AM 39 [.ref (70 + d), .int (nI i), .int (nI j), .int (nI k)] h1 (t_ki (fun a2 h2 => (t_ob (70 + d) = some 6 ∧ AM 41 [.ref (70 + d), .int (nI i), .int (nI j), .int (nI k), .int (-a2)] h2 (t_kv (fun h3 => AX 6 84 90 [.ref 0, .int (nI d), .ref (70 + d), .int (nI a + 1), .int (nI i), .int (nI j), .int (nI k)] [] h3 Q) Q))) Q)))) Q) = AX 6 84 90 [.ref 0, .int (nI d), .ref (70 + d), .int (nI (a + flv χ n i j k)), .int (nI i), .int (nI j), .int (nI k)] [] (SC χ d i j k g) Q := by
    intro i j k hij hjk hk a g v
    have hs := WS_at w h7 (show i < n by omega) (show j < n by omega) hk (by omega) (by omega) (by omega)
    have hs' : -χ i j k = 1 ∨ -χ i j k = -1 := by rcases hs with e | e <;> simp [e]
    have fe := flip_eq (x := -χ i j k) w h7 hh (show i < n by omega) (show j < n by omega) hk (by omega) (by omega) (by omega) hs'
    have e1 : tX (hPut g (70 + d + 10) i j k (-χ i j k)) (70 + d) = setC χ i j k (-χ i j k) := by rw [tX_put (by omega) (by omega) (by omega), v.1]
    rw [m_turnOver (tg g v) (by omega) (by omega) hk, v.1, e1, ← fe]
    unfold flv SC
    cases hq : qhold (setC χ i j k (-χ i j k)) n with
    | true =>
      simp (disch := omega) only [t_ki, if_true, o70 hd6, true_and, m_of (o70 hd6), m_put (o70 hd6), e1, t_kv, setC_self (show i ≠ j by omega) (show j ≠ k by omega) (show i ≠ k by omega), neg_neg32, nI_1]
      rw [if_neg (by decide)]
      rfl
    | false =>
      simp only [t_ki, Bool.false_eq_true, if_false, if_true]
      rfl
  have l3 := fun (i j : Nat) (hij : i < j) (hj : j < n) (F : Nat × tH → Prop) (hF : ∀ a w, IC χ d h a.2 → AX 6 84 29 [.ref 0, .int (nI d), .ref (70 + d), .int (nI a.1), .int (nI i), .int (nI (j + 1)), w] [] a.2 Q = F a) =>
    lp (β := Unit) (L := fun k a w => AX 6 84 44 [.ref 0, .int (nI d), .ref (70 + d), .int (nI a.1), .int (nI i), .int (nI j), .int (nI k)] [] a.2 Q) (E := F) (f := wk3 (SC χ d) χ n i j) (n := n) (fun k a => j < k ∧ IC χ d h a.2)
      (fun a x v => by
        rw [s_84_44, cg _ v.2, if_pos (Int32.le_refl _), nI_1, hF a _ v.2]
        simp only [o70 hd6, true_and])
      (fun k a x G hk v hG => by
        rw [s_84_44, cg _ v.2]
        simp (disch := omega) only [o70 hd6, true_and, nI_le']
        have st := step i j k hij v.1 hk a.1 a.2 v.2
        simp only [o70 hd6, true_and] at st
        rw [if_neg (by omega), st, s_84_90, nI_1]
        exact hG (a.1 + flv χ n i j k, SC χ d i j k a.2) () ⟨by omega, IC_s w h7 (by omega) (by omega) hk v.2⟩)
  have inv3 : ∀ i j, i < j → j < n → ∀ a : Nat × tH, IC χ d h a.2 → IC χ d h (fd (wk3 (SC χ d) χ n i j) (j + 1) (n - (j + 1)) a).2 := fun i j hij hj a v =>
    (fd_inv (f := wk3 (SC χ d) χ n i j) (I := fun _ a => IC χ d h a.2) _ _ a v fun k a hk1 hk2 v => IC_s w h7 (by omega) (by omega) (by omega) v)
  have l2 := fun (i : Nat) (hi : i < n) (F : Nat × tH → Prop) (hF : ∀ a w w', IC χ d h a.2 → AX 6 84 14 [.ref 0, .int (nI d), .ref (70 + d), .int (nI a.1), .int (nI (i + 1)), w, w'] [] a.2 Q = F a) =>
    lp (β := Value) (L := fun j a w => AX 6 84 29 [.ref 0, .int (nI d), .ref (70 + d), .int (nI a.1), .int (nI i), .int (nI j), w] [] a.2 Q) (E := F) (f := wk2 (SC χ d) χ n i) (n := n) (fun j a => i < j ∧ IC χ d h a.2)
      (fun a x v => by
        rw [s_84_29, cg _ v.2, if_pos (Int32.le_refl _), nI_1, hF a _ _ v.2]
        simp only [o70 hd6, true_and])
      (fun j a x G hj v hG => by
        rw [s_84_29, cg _ v.2]
        simp (disch := omega) only [o70 hd6, true_and, nI_le', nI_1]
        rw [if_neg (by omega)]
        exact l3 i j v.1 hj G (fun a w v => hG a w ⟨by omega, v⟩) (n - (j + 1)) (j + 1) (by omega) a () ⟨by omega, v.2⟩)
  have l1 := lp (β := Value × Value) (L := fun i a w => AX 6 84 14 [.ref 0, .int (nI d), .ref (70 + d), .int (nI a.1), .int (nI i), w.1, w.2] [] a.2 Q) (E := fun a => Q (RI (nI a.1)) a.2) (f := wk1 (SC χ d) χ n) (n := n) (fun _ a => IC χ d h a.2)
      (fun a x v => by
        rw [s_84_14, cg _ v, if_pos (Int32.le_refl _)]
        simp only [o70 hd6, true_and])
      (fun i a x G hi v hG => by
        rw [s_84_14, cg _ v]
        simp (disch := omega) only [o70 hd6, true_and, nI_le', nI_1]
        rw [if_neg (by omega)]
        exact l2 i hi G (fun a w w' v => hG a (w, w') v) (n - (i + 1)) (i + 1) (by omega) a x.2 ⟨by omega, v⟩)
  rw [am_84, s_84_0, c75 h1 h3 hd]
  simp only [t_ob_0', true_and, t_kq_r, va_rf_s, s_84_5, e30, o40 hd6]
  have := l1 n 0 (by omega) (0, h) (.float 0, .float 0) ⟨hχ, fun _ _ _ => rfl⟩
  rw [wk_1] at this
  exact this
