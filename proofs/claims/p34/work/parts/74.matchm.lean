/-! ===== matchings: the model ===== -/
/-- only what is worked with for codes changes -/
def fx (h h' : tH) : Prop := (∀ a b, ¬ (26 ≤ a ∧ a ≤ 31) → h'.1 a b = h.1 a b) ∧ h'.2 = h.2
theorem fx_r (h : tH) : fx h h := ⟨fun _ _ _ => rfl, rfl⟩
theorem fx_t {a b c : tH} (x : fx a b) (y : fx b c) : fx a c := ⟨fun k i e => (y.1 k i e).trans (x.1 k i e), y.2.trans x.2⟩
theorem fx_I {h : tH} {k i : Nat} {x : Int32} (e : 26 ≤ k ∧ k ≤ 31) : fx h (t_I h k i x) := ⟨fun a b z => t_I_o (by omega) b, rfl⟩
theorem fx_fr {h h' : tH} (x : fx h h') : fr h h' := fun k i e => x.1 k i fun z => by
  have : sc k i = true := decide_eq_true (by omega)
  rw [this] at e; cases e
theorem fx_ty {h h' : tH} {d n : Nat} (x : fx h h') (t : ty h d n) : ty h' d n := ⟨t.1, (x.1 19 d (by decide)).trans t.2.1, t.2.2⟩
theorem fx_tY {h h' : tH} {d : Nat} (x : fx h h') : tY h' d = tY h d := tY_o fun c _ => x.1 20 _ (by decide)
/-- which are left -/
def LF (h : tH) (S : Int32) : Prop := ∀ p, p < 7 → h.1 27 p = zb (bt S p)
theorem zb_sh {S : Int32} {p : Nat} (hp : p < 31) : (if ¬ ((S >>> (nI p &&& 31)) &&& 1) = 1 then (0 : Int32) else 1) = zb (bt S p) := by
  have e := shr_iff (x := S) hp
  by_cases b : bt S p = true
  · rw [if_neg (fun z => z (by rw [e]; exact b)), b]; rfl
  · rw [if_pos (fun z => b (by rw [← e]; exact z))]
    have : bt S p = false := by simpa using b
    rw [this]; rfl
theorem nI_mm (a : Nat) : nI (a + 1) + Int32.ofInt (-1) = nI a := by
  rw [show Int32.ofInt (-1) = -1 from by decide, ← Int32.sub_eq_add_neg, nI_s1]
theorem LF_s {h : tH} {S : Int32} {x : Nat} (hl : LF h S) (hx : x < 7) : LF (t_I h 27 x 0) (rmv S x) := fun p hp => by
  rw [t_I_at, rmv_bt (by omega) (by omega)]
  by_cases e : p = x
  · rw [if_pos ⟨rfl, e⟩, decide_eq_true e, Bool.not_true, Bool.and_false]; rfl
  · rw [if_neg (fun z => e z.2), hl p hp, decide_eq_false e, Bool.not_false, Bool.and_true]
/-- the ends that were chosen, and their segments -/
def EN (h : tH) (n : Nat) (e : Nat → Nat) (k : Nat) (T : Int32) : Prop := (∀ q, q < k → h.1 28 (2 * q) = nI (e (2 * q)) ∧ h.1 28 (2 * q + 1) = nI (e (2 * q + 1)) ∧ e (2 * q) < n ∧ e (2 * q + 1) < n ∧ e (2 * q) ≠ e (2 * q + 1)) ∧ (∀ s, bt T s = true ↔ ∃ q, q < k ∧ s = sx (e (2 * q)) (e (2 * q + 1)))
theorem n2k (k : Nat) : (2 : Int32) * nI k = nI (2 * k) := by rw [Int32.mul_comm 2, show (2 : Int32) = nI 2 from rfl, pk_mul, Nat.mul_comm]
theorem EN_0 {h : tH} {n : Nat} (e : Nat → Nat) : EN h n e 0 0 := by
  refine ⟨fun q hq => absurd hq (by omega), fun s => ⟨fun t => ?_, fun ⟨q, hq, _⟩ => absurd hq (by omega)⟩⟩
  rw [b_0] at t; cases t
theorem EN_s {h h' : tH} {n k a b : Nat} {e : Nat → Nat} {T : Int32} (h7 : n ≤ 7) (he : EN h n e k T) (ho : ∀ x, x < 2 * k → h'.1 28 x = h.1 28 x) (ha : a < n) (hb : b < n) (ab : a ≠ b) (h1 : h'.1 28 (2 * k) = nI a) (h2 : h'.1 28 (2 * k + 1) = nI b) : ∃ e', EN h' n e' (k + 1) (T ||| one (sx a b)) := by
  obtain ⟨e1, e2⟩ := he
  have s21 := sx_lt (show a < 7 by omega) (show b < 7 by omega) ab
  obtain ⟨e', he'⟩ : ∃ e' : Nat → Nat, ∀ x, e' x = if x = 2 * k then a else if x = 2 * k + 1 then b else e x := ⟨_, fun _ => rfl⟩
  have f0 : e' (2 * k) = a := by rw [he', if_pos rfl]
  have f1 : e' (2 * k + 1) = b := by rw [he', if_neg (by omega), if_pos rfl]
  have fo : ∀ q, q ≠ k → e' (2 * q) = e (2 * q) ∧ e' (2 * q + 1) = e (2 * q + 1) := fun q hq => by
    rw [he', he', if_neg (by omega), if_neg (by omega), if_neg (by omega), if_neg (by omega)]
    exact ⟨rfl, rfl⟩
  refine ⟨e', fun q hq => ?_, fun s => ?_⟩
  · by_cases qk : q = k
    · rw [qk, f0, f1]
      exact ⟨h1, h2, ha, hb, ab⟩
    · rw [(fo q qk).1, (fo q qk).2, ho _ (by omega), ho _ (by omega)]
      exact e1 q (by omega)
  · rw [b_or, bt_one (by omega), Bool.or_eq_true, decide_eq_true_eq, e2]
    constructor
    · rintro (⟨q, q1, q2⟩ | q2)
      · refine ⟨q, by omega, ?_⟩
        rw [(fo q (by omega)).1, (fo q (by omega)).2]
        exact q2
      · refine ⟨k, by omega, ?_⟩
        rw [f0, f1]
        exact q2
    · rintro ⟨q, q1, q2⟩
      by_cases qk : q = k
      · rw [qk, f0, f1] at q2
        exact Or.inr q2
      · rw [(fo q qk).1, (fo q qk).2] at q2
        exact Or.inl ⟨q, by omega, q2⟩
/-- whether the matching of a code is plane, besides segments that are taken -/
def VM (χ : tC) (n : Nat) : Nat → Int32 → Int32 → Nat → Bool
  | 0, _, _, _ => true
  | m + 1, S, T, code => fre χ n T (low S) (nth (bt (rmv S (low S))) 0 7 (code % (2 * m + 1))) && VM χ n m (rmv (rmv S (low S)) (nth (bt (rmv S (low S))) 0 7 (code % (2 * m + 1)))) (T ||| one (sx (low S) (nth (bt (rmv S (low S))) 0 7 (code % (2 * m + 1))))) (code / (2 * m + 1))
def dfac : Nat → Nat
  | 0 => 1
  | m + 1 => (2 * m + 1) * dfac m
theorem VM_sum {χ : tC} {n : Nat} (h7 : n ≤ 7) : ∀ m S T, pc S = 2 * m → sm S n → sB (fun k => bn (VM χ n m S T k)) 0 (dfac m) = CW χ n (2 * m) S T := by
  intro m
  induction m with
  | zero => intro S T _ _; rfl
  | succ m ih =>
    intro S T hc hs
    obtain ⟨l1, l2⟩ := low_in h7 hs (by omega)
    have p1 := pc_rmv (show low S < 32 by omega) l2
    have s1 := rmv_sm (show low S < 32 by omega) hs
    have cnt := pc_7 h7 s1
    rw [show 2 * (m + 1) = 2 * m + 2 by omega, CW_s]
    have e := sB_rad (2 * m + 1) (fun r q => bn (fre χ n T (low S) (nth (bt (rmv S (low S))) 0 7 r) && VM χ n m (rmv (rmv S (low S)) (nth (bt (rmv S (low S))) 0 7 r)) (T ||| one (sx (low S) (nth (bt (rmv S (low S))) 0 7 r))) q)) (dfac m)
    refine Eq.trans e ?_
    have hcn : 2 * m + 1 = cB (bt (rmv S (low S))) 0 7 := by omega
    rw [hcn, ← nth_sum (bt (rmv S (low S))) (fun b => if fre χ n T (low S) b = true then CW χ n (2 * m) (rmv (rmv S (low S)) b) (T ||| one (sx (low S) b)) else 0) 7 0]
    refine sB_ext _ _ fun r _ hr => ?_
    obtain ⟨x1, x2, x3⟩ := nth_in (f := bt (rmv S (low S))) 7 0 r (by omega)
    obtain ⟨x, hx⟩ : ∃ x, x = nth (bt (rmv S (low S))) 0 7 r := ⟨_, rfl⟩
    rw [← hx] at x1 x2 x3 ⊢
    by_cases f : fre χ n T (low S) x = true
    · rw [if_pos f]
      simp only [f, Bool.true_and]
      have p2 := pc_rmv (show x < 32 by omega) x3
      exact ih _ _ (by omega) (rmv_sm (by omega) s1)
    · rw [if_neg f]
      have f' : fre χ n T (low S) x = false := by simpa using f
      refine sB_z _ _ fun q _ _ => ?_
      rw [f', Bool.false_and]
      rfl
theorem nI_sb {a b : Nat} (h : b ≤ a) : nI a - nI b = nI (a - b) := by
  have : nI a = nI (a - b) + nI b := by rw [nI_add]; congr 1; omega
  rw [this]
  exact Int32.add_sub_cancel _ _
theorem nI_md {a c : Nat} (ha : a < 2 ^ 31) (c0 : 0 < c) (hc : c < 1000) : nI a - nI a / nI c * nI c = nI (a % c) ∧ nI a / nI c = nI (a / c) := by
  have e := pk_div (a := a) (d := c) ha c0 (by omega)
  refine ⟨?_, e⟩
  rw [e, pk_mul, nI_sb (Nat.div_mul_le_self a c)]
  congr 1
  have := Nat.div_add_mod a c
  rw [Nat.mul_comm] at this
  omega
