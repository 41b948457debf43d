/-! ===== matchings: the model ===== -/
/-- only what is worked with for codes changes -/
def fx (h h' : tH) : Prop := (∀ a b, ¬ (26 ≤ a ∧ a ≤ 31) → h'.1 a b = h.1 a b) ∧ h'.2 = h.2
theorem fx_r (h : tH) : fx h h := ⟨fun _ _ _ => rfl, rfl⟩
theorem fx_t {a b c : tH} (x : fx a b) (y : fx b c) : fx a c := ⟨fun k i e => (y.1 k i e).trans (x.1 k i e), y.2.trans x.2⟩
theorem fx_I {h : tH} {k i : Nat} {x : Int32} (e : 26 ≤ k ∧ k ≤ 31) : fx h (t_I h k i x) := ⟨fun a b z => t_I_o (by omega) b, rfl⟩
theorem fx_fr {h h' : tH} (x : fx h h') : fr h h' := fun k i e => x.1 k i fun z => by
  have : sc k i = true := decide_eq_true (by omega)
  rw [this] at e; cases e
theorem fx_ty {h h' : tH} {d n : Nat} (x : fx h h') (t : ty h d n) : ty h' d n := ⟨t.1, (x.1 19 d (by decide)).trans t.2.1, t.2.2⟩
theorem fx_tY {h h' : tH} {d : Nat} (x : fx h h') : tY h' d = tY h d := tY_o fun c _ => x.1 20 _ (by decide)
/-- which are left -/
def LF (h : tH) (S : Int32) : Prop := ∀ p, p < 7 → h.1 27 p = zb (bt S p)
theorem zb_sh {S : Int32} {p : Nat} (hp : p < 31) : (if ¬ ((S >>> (nI p &&& 31)) &&& 1) = 1 then (0 : Int32) else 1) = zb (bt S p) := by
  have e := shr_iff (x := S) hp
  by_cases b : bt S p = true
  · rw [if_neg (fun z => z (by rw [e]; exact b)), b]; rfl
  · rw [if_pos (fun z => b (by rw [← e]; exact z))]
    have : bt S p = false := by simpa using b
    rw [this]; rfl
theorem n151 {h : tH} (S : Int32) : ∃ h', fx h h' ∧ LF h' S ∧ ∀ Q, AM 151 [.ref 13, .int S] h Q = Q (.inl none) h' := by
  refine ⟨hF h 27 7 (fun p => zb (bt S p)), ⟨fun a b e => hF_o (by omega), rfl⟩, fun p hp => hF_at hp, fun Q => ?_⟩
  have l := lp (α := tH) (β := Unit) (L := fun k g _ => AX 0 151 2 [.ref 13, .int S, .int (nI k)] [] g Q) (E := fun g => Q (.inl none) g) (f := fun k g => t_I g 27 k (zb (bt S k))) (n := 7) (fun _ _ => True)
    (fun g w _ => by rw [s_151_2, if_pos (show (7 : Int32) ≤ nI 7 from Int32.le_refl _)])
    (fun k g w F hk _ hF => by
      have e : ((7 : Int32) ≤ nI k) = (7 ≤ k) := nI_le' (a := 7) (b := k) (by omega) (by omega)
      rw [s_151_2, if_neg (by rw [e]; omega), zb_sh (by omega)]
      simp (disch := omega) only [t_ob_13, true_and, vI, nC, nI_1, zb_z]
      exact hF _ () trivial)
  have l0 := l 7 0 (by omega) h () trivial
  rw [fd_I] at l0
  rw [am_151, s_151_0]
  exact l0
theorem nI_mm (a : Nat) : nI (a + 1) + Int32.ofInt (-1) = nI a := by
  rw [show Int32.ofInt (-1) = -1 from by decide, ← Int32.sub_eq_add_neg, nI_s1]
theorem n150 {h : tH} {S : Int32} {r : Nat} (hl : LF h S) (hr : r < cB (bt S) 0 7) (Q : tO → tH → Prop) : AM 150 [.ref 13, .int (nI r)] h Q = Q (RI (nI (nth (bt S) 0 7 r))) (t_I h 27 (nth (bt S) 0 7 r) 0) := by
  have c7 := cB_le (bt S) 7 0
  have loop : ∀ m p s x, p + m = 7 → s < cB (bt S) p m → AX 0 150 4 [.ref 13, .int x, .int (nI s), .int (nI p)] [] h Q = Q (RI (nI (nth (bt S) p m s))) (t_I h 27 (nth (bt S) p m s) 0) := by
    intro m
    induction m with
    | zero => intro p s x _ hs; exact absurd hs (by unfold cB; omega)
    | succ m ih =>
      intro p s x hp hs
      have cm := cB_le (bt S) m (p + 1)
      have e : ((7 : Int32) ≤ nI p) = (7 ≤ p) := nI_le' (a := 7) (b := p) (by omega) (by omega)
      unfold cB at hs
      rw [s_150_4, if_neg (by rw [e]; omega), nC (by omega), hl p (by omega)]
      unfold nth
      by_cases b : bt S p = true
      · rw [if_pos b] at hs
        by_cases s0 : s = 0
        · subst s0
          simp (disch := omega) only [t_ob_13, true_and, vI, zb_0, b, Bool.true_eq_false, if_false, if_true, true_or]
          rw [if_neg (show ¬ ¬ nI 0 = 0 from fun z => z rfl)]
        · obtain ⟨t, rfl⟩ : ∃ t, s = t + 1 := ⟨s - 1, by omega⟩
          have ne : ¬ nI (t + 1) = 0 := by
            rw [show (0 : Int32) = nI 0 from rfl, nI_eq' (by omega) (by omega)]
            omega
          simp (disch := omega) only [t_ob_13, true_and, vI, zb_0, b, Bool.true_eq_false, if_false, if_true]
          rw [if_pos ne, if_neg s0, Nat.add_sub_cancel, s_150_35, nI_mm, nI_1, ih (p + 1) t _ (by omega) (by omega)]
      · rw [if_neg b] at hs
        have b' : bt S p = false := by simpa using b
        simp (disch := omega) only [t_ob_13, true_and, vI, zb_0, b', if_true, Bool.false_eq_true, if_false]
        rw [s_150_35, nI_1, ih (p + 1) s _ (by omega) (by omega)]
  rw [am_150, s_150_0]
  exact loop 7 0 r _ (by omega) hr
theorem LF_s {h : tH} {S : Int32} {x : Nat} (hl : LF h S) (hx : x < 7) : LF (t_I h 27 x 0) (rmv S x) := fun p hp => by
  rw [t_I_at, rmv_bt (by omega) (by omega)]
  by_cases e : p = x
  · rw [if_pos ⟨rfl, e⟩, decide_eq_true e, Bool.not_true, Bool.and_false]; rfl
  · rw [if_neg (fun z => e z.2), hl p hp, decide_eq_false e, Bool.not_false, Bool.and_true]
/-- the ends that were chosen, and their segments -/
def EN (h : tH) (n : Nat) (e : Nat → Nat) (k : Nat) (T : Int32) : Prop := (∀ q, q < k → h.1 28 (2 * q) = nI (e (2 * q)) ∧ h.1 28 (2 * q + 1) = nI (e (2 * q + 1)) ∧ e (2 * q) < n ∧ e (2 * q + 1) < n ∧ e (2 * q) ≠ e (2 * q + 1)) ∧ (∀ s, bt T s = true ↔ ∃ q, q < k ∧ s = sx (e (2 * q)) (e (2 * q + 1)))
theorem n2k (k : Nat) : (2 : Int32) * nI k = nI (2 * k) := by rw [Int32.mul_comm 2, show (2 : Int32) = nI 2 from rfl, pk_mul, Nat.mul_comm]
theorem n152 {h : tH} {d n k a b : Nat} {χ : tC} {e : Nat → Nat} {T : Int32} (ht : ty h d n) (hχ : tY h d = χ) (w : WS χ n) (hd : d < 6) (hk : k < 7) (he : EN h n e k T) (ha : a < n) (hb : b < n) (ab : a ≠ b) (h1 : h.1 28 (2 * k) = nI a) (h2 : h.1 28 (2 * k + 1) = nI b) (Q : tO → tH → Prop) : AM 152 [.ref 13, .int (nI d), .int (nI k)] h Q = Q (RI (zb (!fre χ n T a b))) h := by
  have h7 := ht.2.2
  obtain ⟨e1, e2⟩ := id he
  have l := lpa (β := Unit) (L := fun q v _ => AX 3 152 5 [.ref 13, .int (nI d), .int (nI k), .int (zb (!v)), .int (nI q)] [] h Q) (E := fun v => Q (RI (zb (!v))) h) (f := fun q => !qcross χ (e (2 * q)) (e (2 * q + 1)) a b) (n := k)
    (fun v _ => by
      rw [s_152_5, if_pos (Int32.le_refl _), s_152_65, zb_z])
    (fun q _ hq => by
      rw [s_152_5]
      simp (disch := omega) only [nI_le', Bool.not_false, zb_t, s_152_65]
      rw [if_neg (by omega), if_pos (show ¬ (1 : Int32) = 0 by decide)]
      simp [t_z1])
    (fun q _ A B hq hA hB => by
      obtain ⟨q1, q2, q3, q4, q5⟩ := e1 q hq
      simp only [Bool.not_true, Bool.not_false, zb_t, zb_f] at hA hB ⊢
      rw [s_152_5, n2k, n2k, nI_1, nI_1]
      simp (disch := omega) only [nI_le', t_ob_13, true_and, vI, nC, q1, q2, h1, h2, n142 (show d < 7 by omega) (show e (2 * q) < 7 by omega) (show e (2 * q + 1) < 7 by omega) (show a < 7 by omega) (show b < 7 by omega), hχ, t_ki, nI_1]
      rw [if_neg (by omega)]
      simp only [not_true_eq_false, if_false]
      cases qcross χ (e (2 * q)) (e (2 * q + 1)) a b with
      | false => simp only [zb_f, hA ()]; rfl
      | true => simp only [zb_t, hB ()]; rfl)
  have l0 := l k 0 (by omega) true ()
  simp only [Bool.not_true, zb_f, Bool.true_and] at l0
  have ef : aB (fun q => !qcross χ (e (2 * q)) (e (2 * q + 1)) a b) 0 k = fre χ n T a b := by
    rw [Bool.eq_iff_iff, aB_iff, fre_iff]
    constructor
    · intro hh p q pq' hq t
      obtain ⟨m, m1, m2⟩ := (e2 _).mp t
      obtain ⟨-, -, q3, q4, q5⟩ := e1 m m1
      have g := hh m (by omega) (by omega)
      have g' : qcross χ (e (2 * m)) (e (2 * m + 1)) a b = false := by simpa using g
      rw [qcross_s]
      rcases sx_un (show p < 7 by omega) (show q < 7 by omega) (by omega) (by omega) (by omega) q5 m2 with ⟨u, v⟩ | ⟨u, v⟩
      · rw [u, v]; exact g'
      · rw [u, v, qcross_j w (by omega) (by omega) (by omega) (by omega)]; exact g'
    · intro hh m _ m1
      obtain ⟨-, -, q3, q4, q5⟩ := e1 m (by omega)
      have t := (e2 (sx (e (2 * m)) (e (2 * m + 1)))).mpr ⟨m, by omega, rfl⟩
      have g : qcross χ (e (2 * m)) (e (2 * m + 1)) a b = false := by
        rw [qcross_s]
        by_cases o : e (2 * m) < e (2 * m + 1)
        · exact hh _ _ o q4 t
        · have := hh (e (2 * m + 1)) (e (2 * m)) (by omega) q3 (by rw [sx_comm]; exact t)
          rw [qcross_s] at this ⊢
          rw [qcross_j w (by omega) (by omega) (by omega) (by omega)] at this
          exact this
      rw [g]; rfl
  rw [ef] at l0
  rw [am_152, s_152_0]
  exact l0
theorem EN_0 {h : tH} {n : Nat} (e : Nat → Nat) : EN h n e 0 0 := by
  refine ⟨fun q hq => absurd hq (by omega), fun s => ⟨fun t => ?_, fun ⟨q, hq, _⟩ => absurd hq (by omega)⟩⟩
  rw [b_0] at t; cases t
theorem EN_s {h h' : tH} {n k a b : Nat} {e : Nat → Nat} {T : Int32} (h7 : n ≤ 7) (he : EN h n e k T) (ho : ∀ x, x < 2 * k → h'.1 28 x = h.1 28 x) (ha : a < n) (hb : b < n) (ab : a ≠ b) (h1 : h'.1 28 (2 * k) = nI a) (h2 : h'.1 28 (2 * k + 1) = nI b) : ∃ e', EN h' n e' (k + 1) (T ||| one (sx a b)) := by
  obtain ⟨e1, e2⟩ := he
  have s21 := sx_lt (show a < 7 by omega) (show b < 7 by omega) ab
  obtain ⟨e', he'⟩ : ∃ e' : Nat → Nat, ∀ x, e' x = if x = 2 * k then a else if x = 2 * k + 1 then b else e x := ⟨_, fun _ => rfl⟩
  have f0 : e' (2 * k) = a := by rw [he', if_pos rfl]
  have f1 : e' (2 * k + 1) = b := by rw [he', if_neg (by omega), if_pos rfl]
  have fo : ∀ q, q ≠ k → e' (2 * q) = e (2 * q) ∧ e' (2 * q + 1) = e (2 * q + 1) := fun q hq => by
    rw [he', he', if_neg (by omega), if_neg (by omega), if_neg (by omega), if_neg (by omega)]
    exact ⟨rfl, rfl⟩
  refine ⟨e', fun q hq => ?_, fun s => ?_⟩
  · by_cases qk : q = k
    · rw [qk, f0, f1]
      exact ⟨h1, h2, ha, hb, ab⟩
    · rw [(fo q qk).1, (fo q qk).2, ho _ (by omega), ho _ (by omega)]
      exact e1 q (by omega)
  · rw [b_or, bt_one (by omega), Bool.or_eq_true, decide_eq_true_eq, e2]
    constructor
    · rintro (⟨q, q1, q2⟩ | q2)
      · refine ⟨q, by omega, ?_⟩
        rw [(fo q (by omega)).1, (fo q (by omega)).2]
        exact q2
      · refine ⟨k, by omega, ?_⟩
        rw [f0, f1]
        exact q2
    · rintro ⟨q, q1, q2⟩
      by_cases qk : q = k
      · rw [qk, f0, f1] at q2
        exact Or.inr q2
      · rw [(fo q qk).1, (fo q qk).2] at q2
        exact Or.inl ⟨q, by omega, q2⟩
/-- whether the matching of a code is plane, besides segments that are taken -/
def VM (χ : tC) (n : Nat) : Nat → Int32 → Int32 → Nat → Bool
  | 0, _, _, _ => true
  | m + 1, S, T, code => fre χ n T (low S) (nth (bt (rmv S (low S))) 0 7 (code % (2 * m + 1))) && VM χ n m (rmv (rmv S (low S)) (nth (bt (rmv S (low S))) 0 7 (code % (2 * m + 1)))) (T ||| one (sx (low S) (nth (bt (rmv S (low S))) 0 7 (code % (2 * m + 1))))) (code / (2 * m + 1))
def dfac : Nat → Nat
  | 0 => 1
  | m + 1 => (2 * m + 1) * dfac m
theorem VM_sum {χ : tC} {n : Nat} (h7 : n ≤ 7) : ∀ m S T, pc S = 2 * m → sm S n → sB (fun k => bn (VM χ n m S T k)) 0 (dfac m) = CW χ n (2 * m) S T := by
  intro m
  induction m with
  | zero => intro S T _ _; rfl
  | succ m ih =>
    intro S T hc hs
    obtain ⟨l1, l2⟩ := low_in h7 hs (by omega)
    have p1 := pc_rmv (show low S < 32 by omega) l2
    have s1 := rmv_sm (show low S < 32 by omega) hs
    have cnt := pc_7 h7 s1
    rw [show 2 * (m + 1) = 2 * m + 2 by omega, CW_s]
    have e := sB_rad (2 * m + 1) (fun r q => bn (fre χ n T (low S) (nth (bt (rmv S (low S))) 0 7 r) && VM χ n m (rmv (rmv S (low S)) (nth (bt (rmv S (low S))) 0 7 r)) (T ||| one (sx (low S) (nth (bt (rmv S (low S))) 0 7 r))) q)) (dfac m)
    refine Eq.trans e ?_
    have hcn : 2 * m + 1 = cB (bt (rmv S (low S))) 0 7 := by omega
    rw [hcn, ← nth_sum (bt (rmv S (low S))) (fun b => if fre χ n T (low S) b = true then CW χ n (2 * m) (rmv (rmv S (low S)) b) (T ||| one (sx (low S) b)) else 0) 7 0]
    refine sB_ext _ _ fun r _ hr => ?_
    obtain ⟨x1, x2, x3⟩ := nth_in (f := bt (rmv S (low S))) 7 0 r (by omega)
    obtain ⟨x, hx⟩ : ∃ x, x = nth (bt (rmv S (low S))) 0 7 r := ⟨_, rfl⟩
    rw [← hx] at x1 x2 x3 ⊢
    by_cases f : fre χ n T (low S) x = true
    · rw [if_pos f]
      simp only [f, Bool.true_and]
      have p2 := pc_rmv (show x < 32 by omega) x3
      exact ih _ _ (by omega) (rmv_sm (by omega) s1)
    · rw [if_neg f]
      have f' : fre χ n T (low S) x = false := by simpa using f
      refine sB_z _ _ fun q _ _ => ?_
      rw [f', Bool.false_and]
      rfl
theorem nI_sb {a b : Nat} (h : b ≤ a) : nI a - nI b = nI (a - b) := by
  have : nI a = nI (a - b) + nI b := by rw [nI_add]; congr 1; omega
  rw [this]
  exact Int32.add_sub_cancel _ _
theorem nI_md {a c : Nat} (ha : a < 2 ^ 31) (c0 : 0 < c) (hc : c < 1000) : nI a - nI a / nI c * nI c = nI (a % c) ∧ nI a / nI c = nI (a / c) := by
  have e := pk_div (a := a) (d := c) ha c0 (by omega)
  refine ⟨?_, e⟩
  rw [e, pk_mul, nI_sb (Nat.div_mul_le_self a c)]
  congr 1
  have := Nat.div_add_mod a c
  rw [Nat.mul_comm] at this
  omega
