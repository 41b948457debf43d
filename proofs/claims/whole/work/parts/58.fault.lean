/-! ===== fault ===== -/
/-- with the first m cells of a row told -/
def hF (h : tH) (r m : Nat) (F : Nat → Int32) : tH := (fun a b => if a = r ∧ b < m then F b else h.1 a b, h.2)
theorem hF_o {h : tH} {r m a b : Nat} {F : Nat → Int32} (e : ¬ (a = r ∧ b < m)) : (hF h r m F).1 a b = h.1 a b := if_neg e
theorem hF_at {h : tH} {r m b : Nat} {F : Nat → Int32} (e : b < m) : (hF h r m F).1 r b = F b := if_pos ⟨rfl, e⟩
theorem hF_I {h : tH} {r m i : Nat} {F : Nat → Int32} {x : Int32} (hi : i < m) : t_I (hF h r m F) r i x = hF h r m (upd F i x) := by
  refine Prod.ext ?_ rfl
  funext a b
  show (if a = r ∧ b = i then x else if a = r ∧ b < m then F b else h.1 a b) = (if a = r ∧ b < m then (if b = i then x else F b) else h.1 a b)
  by_cases e : a = r
  · by_cases f : b = i
    · rw [if_pos ⟨e, f⟩, if_pos ⟨e, by omega⟩, if_pos f]
    · rw [if_neg (fun z => f z.2), if_neg f]
  · rw [if_neg (fun z => e z.1), if_neg (fun z => e z.1), if_neg (fun z => e z.1)]
theorem hF_c {h : tH} {r m k i : Nat} {F : Nat → Int32} {x : Int32} (hk : k ≠ r) : t_I (hF h r m F) k i x = hF (t_I h k i x) r m F := by
  refine Prod.ext ?_ rfl
  funext a b
  show (if a = k ∧ b = i then x else if a = r ∧ b < m then F b else h.1 a b) = (if a = r ∧ b < m then F b else if a = k ∧ b = i then x else h.1 a b)
  by_cases e : a = r
  · have k1 : ¬ (a = k ∧ b = i) := fun z => hk (z.1.symm.trans e)
    rw [if_neg k1, if_neg k1]
  · have k2 : ¬ (a = r ∧ b < m) := fun z => e z.1
    rw [if_neg k2, if_neg k2]
theorem fd_I {r : Nat} {F : Nat → Int32} : ∀ (m : Nat) (h : tH), fd (fun k h => t_I h r k (F k)) 0 m h = hF h r m F := by
  intro m
  induction m with
  | zero =>
    intro h
    refine Prod.ext ?_ rfl
    funext a b
    show h.1 a b = (if a = r ∧ b < 0 then F b else h.1 a b)
    rw [if_neg (by omega)]
  | succ m ih =>
    intro h
    rw [fd_last, ih, Nat.zero_add]
    refine Prod.ext ?_ rfl
    funext a b
    show (if a = r ∧ b = m then F m else if a = r ∧ b < m then F b else h.1 a b) = (if a = r ∧ b < m + 1 then F b else h.1 a b)
    by_cases e : a = r
    · by_cases f : b = m
      · rw [if_pos ⟨e, f⟩, if_pos ⟨e, by omega⟩, f]
      · by_cases g : b < m
        · rw [if_neg (fun z => f z.2), if_pos ⟨e, g⟩, if_pos ⟨e, by omega⟩]
        · rw [if_neg (fun z => f z.2), if_neg (fun z => g z.2), if_neg (by omega)]
    · rw [if_neg (fun z => e z.1), if_neg (fun z => e z.1), if_neg (fun z => e z.1)]
theorem fr_hF {h : tH} {r m : Nat} {F : Nat → Int32} (e : ∀ i, sc r i = true) : fr h (hF h r m F) := by
  intro a b c
  rw [hF_o]
  rintro ⟨rfl, _⟩
  rw [e] at c
  cases c
theorem nI_ups {f : Nat → Nat} {k x : Nat} : upd (fun p => nI (f p)) k (nI x) = fun p => nI (ups f k x p) := by
  funext p
  unfold upd ups
  by_cases e : p = k
  · rw [if_pos e, if_pos e]
  · rw [if_neg e, if_neg e]
/-- the class's word's rows -/
def hW (h : tH) (S : wS) : tH := hF (hF h 6 7 (fun p => nI (S.1 p))) 7 49 (fun i => nI (S.2 i))
theorem hW_6 {h : tH} {S : wS} {p : Nat} (hp : p < 7) : (hW h S).1 6 p = nI (S.1 p) := by
  unfold hW
  rw [hF_o (by omega), hF_at hp]
theorem hW_7 {h : tH} {S : wS} {p : Nat} (hp : p < 49) : (hW h S).1 7 p = nI (S.2 p) := by
  unfold hW
  rw [hF_at hp]
theorem hW_o {h : tH} {S : wS} {a b : Nat} (e : a ≠ 6 ∧ a ≠ 7) : (hW h S).1 a b = h.1 a b := by
  unfold hW
  rw [hF_o (by omega), hF_o (by omega)]
theorem hW_I6 {h : tH} {S : wS} {p t : Nat} (hp : p < 7) : t_I (hW h S) 6 p (nI t) = hW h (ups S.1 p t, S.2) := by
  unfold hW
  rw [hF_c (by decide), hF_I hp, nI_ups]
theorem hW_I7 {h : tH} {S : wS} {p t : Nat} (hp : p < 49) : t_I (hW h S) 7 p (nI t) = hW h (S.1, ups S.2 p t) := by
  unfold hW
  rw [hF_I hp, nI_ups]
theorem fr_hW {h : tH} {S : wS} : fr h (hW h S) := fr_t (fr_hF fun i => rfl) (fr_hF fun i => rfl)
theorem t_ar_6' : t_ar 6 = some (0, 7) := rfl
theorem t_ar_7' : t_ar 7 = some (0, 49) := rfl
theorem m_57 {h : tH} (l : Nat → Nat) (Q : tO → tH → Prop) : AM 57 [.ref 4] h Q = Q (.inl none) (hW h (wst l 0)) := by
  have l1 := lp (α := tH) (β := Unit) (L := fun k g _ => AX 0 57 2 [.ref 4, .int (nI k)] [] g Q) (E := fun g => AX 0 57 26 [.ref 4, .int (nI 0)] [] g Q) (f := fun k g => t_I g 6 k (nI k)) (n := 7) (fun _ _ => True)
    (fun g w _ => by
      rw [s_57_2, if_pos (show Int32.ofNat 7 ≤ nI 7 from Int32.le_refl _)]
      simp only [t_ob_4, true_and]
      rfl)
    (fun k g w F hk _ hF => by
      have e : (Int32.ofNat 7 ≤ nI k) = (7 ≤ k) := nI_le' (a := 7) (b := k) (by omega) (by omega)
      rw [s_57_2, if_neg (by rw [e]; omega)]
      simp (disch := omega) only [t_ob_4, true_and, vI, nC, nI_1, hF _ () trivial])
  have l2 := lp (α := tH) (β := Unit) (L := fun k g _ => AX 0 57 26 [.ref 4, .int (nI k)] [] g Q) (E := fun g => Q (.inl none) g) (f := fun k g => t_I g 7 k (nI 0)) (n := 49) (fun _ _ => True)
    (fun g w _ => by
      rw [s_57_26, if_pos (show Int32.ofNat 49 ≤ nI 49 from Int32.le_refl _)]
      simp only [t_ob_4, true_and])
    (fun k g w F hk _ hF => by
      have e : (Int32.ofNat 49 ≤ nI k) = (49 ≤ k) := nI_le' (a := 49) (b := k) (by omega) (by omega)
      rw [s_57_26, if_neg (by rw [e]; omega)]
      simp (disch := omega) only [t_ob_4, true_and, vI, nC, nI_1]
      exact hF _ () trivial)
  rw [am_57, s_57_0, show (0 : Int32) = nI 0 from rfl, l1 7 0 (by omega) h () trivial, l2 49 0 (by omega) _ () trivial, fd_I, fd_I]
  rfl
theorem m_58 {h : tH} {S : wS} {p : Nat} (hp : p + 1 < 7) (h1 : S.1 p < 7) (h2 : S.1 (p + 1) < 7) (Q : tO → tH → Prop) : AM 58 [.ref 4, .int (nI p)] (hW h S) Q = Q (RI (nI (wix S.1 p))) (hW h S) := by
  rw [am_58, s_58_0]
  simp (disch := omega) only [t_ob_4, true_and, nI_1, m_get t_ar_6', zg_n (show p < 7 by omega) (show 7 < 5000 by decide), zg_n hp (show 7 < 5000 by decide), hW_6 (show p < 7 by omega), hW_6 hp, t_ki, nI_lt', am_59, s_59_0]
  unfold wix
  have e : ∀ a b : Nat, nI a * 7 + nI b = nI (7 * a + b) := fun a b => by
    rw [show (7 : Int32) = nI 7 from rfl, pk_mul, nI_add, Nat.mul_comm]
  by_cases c1 : S.1 (p + 1) < S.1 p
  · rw [if_pos c1, if_neg (by omega), if_pos c1, if_neg (by omega), e]
  · by_cases c2 : S.1 p < S.1 (p + 1)
    · rw [if_neg c1, if_pos c2, if_neg c1, if_pos c2, e]
    · rw [if_neg c1, if_neg c2, if_neg c1, if_neg c2, e]
theorem wix_lt {a : Nat → Nat} {p : Nat} (h1 : a p < 7) (h2 : a (p + 1) < 7) : wix a p < 49 := by
  unfold wix
  split <;> split <;> omega
theorem m_60 {h : tH} {S : wS} {p : Nat} (hp : p + 1 < 7) (h1 : S.1 p < 7) (h2 : S.1 (p + 1) < 7) (Q : tO → tH → Prop) : AM 60 [.ref 4, .int (nI p)] (hW h S) Q = Q (RI (nI (S.2 (wix S.1 p)))) (hW h S) := by
  have w := wix_lt h1 h2
  rw [am_60, s_60_0]
  simp only [t_ob_4, true_and, m_58 hp h1 h2, t_ki, m_get t_ar_7', zg_n w (show 49 < 5000 by decide), hW_7 w]
theorem nI_hf {n : Nat} (h7 : n ≤ 7) : (nI n * (nI n - 1)) / 2 = nI (n * (n - 1) / 2) := by
  have hh : ∀ n, n < 8 → (nI n * (nI n - 1)) / 2 = nI (n * (n - 1) / 2) := by decide +kernel
  exact hh n (by omega)
theorem half_lt {n : Nat} (h7 : n ≤ 7) : n * (n - 1) / 2 < 22 := by
  have hh : ∀ n, n < 8 → n * (n - 1) / 2 < 22 := by decide +kernel
  exact hh n (by omega)
theorem nI_m2 {n : Nat} (h3 : 3 ≤ n) : nI n - 2 = nI (n - 2) := by
  obtain ⟨m, rfl⟩ : ∃ m, n = m + 2 := ⟨n - 2, by omega⟩
  rw [← nI_add, show nI 2 = (2 : Int32) from rfl, Nat.add_sub_cancel]
  exact Int32.add_sub_cancel _ _
theorem m_56 {h : tH} {w n : Nat} {l : Nat → Nat} (hw : h.1 4 3 = nI w) (w21 : w ≤ 21) (hl : ∀ p, p < w → h.1 5 p = nI (l p) ∧ l p ≤ 5) (h3 : 3 ≤ n) (h7 : n ≤ 7) (Q : tO → tH → Prop) :
    AM 56 [.ref 4, .int (nI n)] h Q = Q (RI (wans n w (wfi n l w 0))) (hW h (wst l ((wfi n l w 0).getD w))) := by
  have hh := half_lt h7
  have loop : ∀ m k, k + m = w → WP n k (wst l k) → ∀ x, AX 3 56 6 [.ref 4, .int (nI n), .int (nI k), x] [] (hW h (wst l k)) Q = Q (RI (wans n w (wfi n l m k))) (hW h (wst l ((wfi n l m k).getD w))) := by
    intro m
    induction m with
    | zero =>
      intro k hk _ x
      have : k = w := by omega
      subst this
      rw [s_56_6, hW_o (by omega), hw, if_pos (Int32.le_refl _), nI_hf h7]
      simp (disch := omega) only [t_ob_4, true_and, s_56_94, nI_le', wfi, wans, Option.getD]
      by_cases c : n * (n - 1) / 2 ≤ k
      · rw [if_pos c, if_pos c]
      · rw [if_neg c, if_neg c]
    | succ m ih =>
      intro k hk v x
      obtain ⟨l1, l2⟩ := hl k (by omega)
      have q1 : (hW h (wst l k)).1 5 k = nI (l k) := by rw [hW_o (by omega), l1]
      rw [s_56_6, hW_o (by omega), hw]
      simp (disch := omega) only [t_ob_4, true_and, nI_le', m_get t_ar_5, zg_n (show k < 21 by omega) (show 21 < 5000 by decide), q1, t_ki, nI_m2 h3, nI_lt', s_56_38]
      rw [if_neg (by omega)]
      by_cases c : n - 2 < l k
      · have hb : wbad n l k = true := by unfold wbad; simp [c]
        rw [if_pos c]
        simp only [wfi, hb, if_true, wans, Option.getD]
      · have hp : l k + 1 < n := by omega
        obtain ⟨⟨b, b1, b2, b3⟩, v2, v3, v4⟩ := id v
        have a1 := (b1 (l k) (by omega)).1
        have a2 := (b1 (l k + 1) hp).1
        have wl := wix_lt (a := (wst l k).1) (p := l k) (by omega) (by omega)
        have u2 := v2 (wix (wst l k).1 (l k))
        have z0 : (nI ((wst l k).2 (wix (wst l k).1 (l k))) = (0 : Int32)) = ((wst l k).2 (wix (wst l k).1 (l k)) = 0) := nI_eq' (b := 0) (by omega) (by omega)
        rw [if_neg c]
        simp only [m_60 (h := h) (show l k + 1 < 7 by omega) (show (wst l k).1 (l k) < 7 by omega) (show (wst l k).1 (l k + 1) < 7 by omega), t_ki, m_58 (h := h) (show l k + 1 < 7 by omega) (show (wst l k).1 (l k) < 7 by omega) (show (wst l k).1 (l k + 1) < 7 by omega), m_set t_ar_7', zs_n wl (show 49 < 5000 by decide), t_kv, nI_1, hW_I7 wl, z0]
        by_cases c0 : (wst l k).2 (wix (wst l k).1 (l k)) = 0
        · have hb : wbad n l k = false := by unfold wbad; simp [c, c0]
          have ex : ∀ f : tH → Prop, AM 8 [.ref 6, .int (nI (l k)), .int (nI (l k + 1))] (hW h ((wst l k).1, ups (wst l k).2 (wix (wst l k).1 (l k)) (k + 1))) (t_kv f Q) = f (hW h (wst l (k + 1))) := fun f => by
            rw [m_exch t_ar_6' (show l k < 7 by omega) (show l k + 1 < 7 by omega), hW_6 (by omega), hW_6 (by omega)]
            rw [hW_I6 (by omega), hW_I6 (by omega)]
            rfl
          rw [if_pos c0, ex, ih (k + 1) (by omega) (WP_s h7 v hp c0)]
          simp only [wfi, hb, Bool.false_eq_true, if_false]
        · have hb : wbad n l k = true := by unfold wbad; simp [c0]
          rw [if_neg c0]
          simp only [wfi, hb, if_true, wans, Option.getD]
  rw [am_56, s_56_0]
  simp only [t_ob_4, true_and, m_57 l, t_kv]
  exact loop w 0 (by omega) (WP_0 l) (.float 0)
/-- the model's word's rows -/
def hV (h : tH) (n : Nat) (S : wS) : tH := hF (hF h 17 n (fun p => nI (S.1 p))) 18 49 (fun i => nI (S.2 i) - 1)
theorem hV_17 {h : tH} {S : wS} {n p : Nat} (hp : p < n) : (hV h n S).1 17 p = nI (S.1 p) := by
  unfold hV
  rw [hF_o (by omega), hF_at hp]
theorem hV_18 {h : tH} {S : wS} {n p : Nat} (hp : p < 49) : (hV h n S).1 18 p = nI (S.2 p) - 1 := by
  unfold hV
  rw [hF_at hp]
theorem hV_o {h : tH} {S : wS} {n a b : Nat} (e : a ≠ 17 ∧ a ≠ 18) : (hV h n S).1 a b = h.1 a b := by
  unfold hV
  rw [hF_o (by omega), hF_o (by omega)]
theorem hV_I17 {h : tH} {S : wS} {n p t : Nat} (hp : p < n) : t_I (hV h n S) 17 p (nI t) = hV h n (ups S.1 p t, S.2) := by
  unfold hV
  rw [hF_c (by decide), hF_I hp, nI_ups]
theorem hV_I18 {h : tH} {S : wS} {n p t : Nat} (hp : p < 49) : t_I (hV h n S) 18 p (nI t) = hV h n (S.1, ups S.2 p (t + 1)) := by
  unfold hV
  rw [hF_I hp]
  congr 1
  funext i
  show (if i = p then nI t else nI (S.2 i) - 1) = nI (if i = p then t + 1 else S.2 i) - 1
  by_cases e : i = p
  · rw [if_pos e, if_pos e, nI_s1]
  · rw [if_neg e, if_neg e]
theorem fr_hV {h : tH} {n : Nat} {S : wS} : fr h (hV h n S) := fr_t (fr_hF fun i => rfl) (fr_hF fun i => rfl)
theorem nI_p {t : Nat} (h : t < 999) : (nI t - 1 = -1) = (t = 0) := by
  cases t with
  | zero => exact propext ⟨fun _ => rfl, fun _ => rfl⟩
  | succ t =>
    rw [nI_s1]
    exact propext ⟨fun e => absurd e (nI_m1 (by omega)), fun e => by omega⟩
def wall (n : Nat) (c : Nat → Nat) : Bool := aB (fun i => aB (fun j => !decide (c (7 * i + j) = 0)) (i + 1) (n - (i + 1))) 0 n
theorem wall_iff {n : Nat} {c : Nat → Nat} : wall n c = true ↔ ∀ x y, x < y → y < n → c (7 * x + y) ≠ 0 := by
  unfold wall
  rw [aB_iff]
  constructor
  · intro h x y h1 h2
    have := (aB_iff _ _ _).mp (h x (by omega) (by omega)) y (by omega) (by omega)
    simpa using this
  · intro h x _ _
    refine (aB_iff _ _ _).mpr fun y _ _ => ?_
    simpa using h x y (by omega) (by omega)
theorem n118 {h : tH} {w n : Nat} {l : Nat → Nat} (hw : h.1 13 4 = nI w) (w21 : w ≤ 21) (hl : ∀ p, p < w → h.1 16 p = nI (l p) ∧ l p ≤ 5) (h3 : 3 ≤ n) (h7 : n ≤ 7) (Q : tO → tH → Prop) :
    AM 118 [.ref 13, .int (nI n)] h Q = Q (RI (wans n w (wfi n l w 0))) (hV h n (wst l ((wfi n l w 0).getD w))) := by
  have l1 := lp (α := tH) (β := Unit) (L := fun k g _ => AX 0 118 2 [.ref 13, .int (nI n), .int (nI k), .float 0, .float 0, .float 0, .float 0] [] g Q) (E := fun g => AX 0 118 23 [.ref 13, .int (nI n), .int (nI 0), .float 0, .float 0, .float 0, .float 0] [] g Q) (f := fun k g => t_I g 18 k (nI 0 - 1)) (n := 49) (fun _ _ => True)
    (fun g w _ => by
      rw [s_118_2, if_pos (show (49 : Int32) ≤ nI 49 from Int32.le_refl _)]
      rfl)
    (fun k g w F hk _ hF => by
      have e : ((49 : Int32) ≤ nI k) = (49 ≤ k) := nI_le' (a := 49) (b := k) (by omega) (by omega)
      rw [s_118_2, if_neg (by rw [e]; omega)]
      simp (disch := omega) only [t_ob_13, true_and, vI, nC, nI_1]
      exact hF _ () trivial)
  have l2 := lp (α := tH) (β := Unit) (L := fun k g _ => AX 0 118 23 [.ref 13, .int (nI n), .int (nI k), .float 0, .float 0, .float 0, .float 0] [] g Q) (E := fun g => AX 0 118 43 [.ref 13, .int (nI n), .int (nI 0), .float 0, .float 0, .float 0, .float 0] [] g Q) (f := fun k g => t_I g 17 k (nI k)) (n := n) (fun _ _ => True)
    (fun g w _ => by
      rw [s_118_23, if_pos (Int32.le_refl _)]
      rfl)
    (fun k g w F hk _ hF => by
      rw [s_118_23]
      simp (disch := omega) only [t_ob_13, true_and, vI (show k < 7 by omega) (show 7 < 10000 by decide), nC, nI_1, nI_le']
      rw [if_neg (by omega)]
      exact hF _ () trivial)
  -- whether all crossed
  have e2 : ∀ (S : wS), (∀ i, S.2 i ≤ 21) → ∀ (g : tH), g = hV h n S → ∀ m i, i + m = n → ∀ (b : Bool) (x1 x2 x3 : Value), AX 0 118 162 [.ref 13, .int (nI n), .int (zb b), .int (nI i), x1, x2, x3] [] g Q = Q (RI (if (b && aB (fun i => aB (fun j => !decide (S.2 (7 * i + j) = 0)) (i + 1) (n - (i + 1))) i m) = true then -1 else nI w)) g := by
    intro S hS g hg
    have inn : ∀ i, i < n → ∀ m j, j + m = n → ∀ (b : Bool) (x2 x3 : Value), AX 0 118 172 [.ref 13, .int (nI n), .int (zb b), .int (nI i), .int (nI j), x2, x3] [] g Q = AX 0 118 162 [.ref 13, .int (nI n), .int (zb (b && aB (fun j => !decide (S.2 (7 * i + j) = 0)) j m)), .int (nI (i + 1)), .int (nI n), x2, x3] [] g Q := by
      intro i hi m
      induction m with
      | zero =>
        intro j hj b x2 x3
        have : j = n := by omega
        subst this
        rw [s_118_172, if_pos (Int32.le_refl _), nI_1]
        simp [aB]
      | succ m ih =>
        intro j hj b x2 x3
        have hj7 : 7 * i + j < 49 := by omega
        have q := hS (7 * i + j)
        rw [s_118_172, n7]
        simp (disch := omega) only [nI_le', t_ob_13, true_and, vI, nC, zb_0, s_118_202, s_118_203, nI_1, hg, hV_18 hj7, nI_p]
        rw [if_neg (by omega), ← hg]
        have k0 := ih (j + 1) (by omega) false x2 x3
        have k1 := ih (j + 1) (by omega) true x2 x3
        simp only [zb_f, zb_t] at k0 k1
        cases b with
        | false => rw [if_pos rfl, k0]; simp [aB, zb]
        | true =>
          rw [if_neg (by decide)]
          by_cases c : S.2 (7 * i + j) = 0
          · rw [if_pos c, k0]; simp [aB, c, zb]
          · rw [if_neg c, k1]; simp [aB, c]
    intro m
    induction m with
    | zero =>
      intro i hi b x1 x2 x3
      have : i = n := by omega
      subst this
      rw [s_118_162, if_pos (Int32.le_refl _), hg, hV_o (by omega), hw]
      simp only [t_ob_13, true_and, s_118_228, zb_0, aB, Bool.and_true]
      cases b <;> simp
    | succ m ih =>
      intro i hi b x1 x2 x3
      rw [s_118_162]
      simp (disch := omega) only [nI_le', nI_1]
      rw [if_neg (by omega), inn i (by omega) (n - (i + 1)) (i + 1) (by omega), ih (i + 1) (by omega)]
      simp only [aB, Bool.and_assoc]
      rfl
  have loop : ∀ m k, k + m = w → WP n k (wst l k) → ∀ x1 x2 x3 x4, AX 0 118 43 [.ref 13, .int (nI n), .int (nI k), x1, x2, x3, x4] [] (hV h n (wst l k)) Q = Q (RI (wans n w (wfi n l m k))) (hV h n (wst l ((wfi n l m k).getD w))) := by
    intro m
    induction m with
    | zero =>
      intro k hk v x1 x2 x3 x4
      have : k = w := by omega
      subst this
      have a := e2 (wst l k) (fun i => by have := v.2.1 i; omega) _ rfl n 0 (by omega) true x2 x3 x4
      rw [s_118_43, hV_o (by omega), hw, if_pos (Int32.le_refl _)]
      simp only [t_ob_13, true_and]
      refine Eq.trans a ?_
      simp only [wfi, wans, Option.getD, Bool.true_and]
      have c1 := wall_iff (n := n) (c := (wst l k).2)
      have c2 := wcn_all (n := n) (c := (wst l k).2) h7
      rw [v.2.2.2] at c2
      show Q (RI (if wall n (wst l k).2 = true then -1 else nI k)) _ = _
      by_cases c : n * (n - 1) / 2 ≤ k
      · rw [if_pos c, if_pos (c1.mpr (c2 ▸ c))]
      · rw [if_neg c, if_neg (fun z => c (by rw [c2]; exact c1.mp z))]
    | succ m ih =>
      intro k hk v x1 x2 x3 x4
      obtain ⟨p, hp⟩ : ∃ p, p = l k := ⟨_, rfl⟩
      obtain ⟨S, hS⟩ : ∃ S, S = wst l k := ⟨_, rfl⟩
      obtain ⟨l1, l2⟩ := hl k (by omega)
      rw [← hS] at v
      rw [← hp] at l1 l2
      have q1 : (hV h n S).1 16 k = nI p := by rw [hV_o (by omega), l1]
      rw [← hS, s_118_43, hV_o (by omega), hw, nC (show k < 10000 by omega), q1]
      by_cases c : n - 2 < p
      · have hb : wbad n l k = true := by unfold wbad; simp [← hp, c]
        simp (disch := omega) only [t_ob_13, true_and, nI_le', nI_m2 h3, vI]
        rw [if_neg (by omega), if_neg (by omega)]
        simp only [wfi, hb, if_true, wans, Option.getD, hS]
      · have hp1 : p + 1 < n := by omega
        obtain ⟨⟨b, b1, b2, b3⟩, v2, v3, v4⟩ := id v
        have a1 := (b1 p (by omega)).1
        have a2 := (b1 (p + 1) hp1).1
        have wl := wix_lt (a := S.1) (p := p) (by omega) (by omega)
        have u2 := v2 (wix S.1 p)
        have ew : (if nI (S.1 (p + 1)) ≤ nI (S.1 p) then 7 * nI (S.1 (p + 1)) + nI (S.1 p) else 7 * nI (S.1 p) + nI (S.1 (p + 1))) = nI (wix S.1 p) := by
          rw [n7, n7]
          simp (disch := omega) only [nI_le']
          unfold wix
          by_cases c1 : S.1 (p + 1) < S.1 p
          · rw [if_pos (by omega), if_pos c1, if_neg (by omega)]
          · by_cases c2 : S.1 p < S.1 (p + 1)
            · rw [if_neg (by omega), if_neg c1, if_pos c2]
            · rw [if_pos (by omega), if_neg c1, if_neg c2]
              congr 1
              omega
        have q2 : (hV h n S).1 17 p = nI (S.1 p) := hV_17 (by omega)
        have q3 : (hV h n S).1 17 (p + 1) = nI (S.1 (p + 1)) := hV_17 hp1
        simp (disch := omega) only [t_ob_13, true_and, nI_le' (show w < 1000 by omega), nI_le' (show p < 1000 by omega), nI_m2 h3, vI, nC, nI_1, q2, q3, ew]
        rw [if_neg (by omega), if_pos (by omega), hV_18 wl]
        have np : (nI (S.2 (wix S.1 p)) - 1 = -1) = (S.2 (wix S.1 p) = 0) := nI_p (by omega)
        by_cases c0 : S.2 (wix S.1 p) = 0
        · have hb : wbad n l k = false := by unfold wbad; simp [← hp, ← hS, c, c0]
          have i1 : ∀ g : tH, t_in (t_ai g 17) (nI p) = True := fun g => t_in_ai (show t_ar 17 = some (0, 7) from rfl) (by omega)
          have i2 : ∀ g : tH, t_in (t_ai g 17) (nI (p + 1)) = True := fun g => t_in_ai (show t_ar 17 = some (0, 7) from rfl) (by omega)
          rw [if_pos (by rw [np]; exact c0), i1, i2, hV_I18 wl, hV_I17 (by omega), hV_I17 hp1]
          simp only [true_and]
          have z := ih (k + 1) (by omega) (by rw [show wst l (k + 1) = wmv (wst l k) (l k) (k + 1) from rfl, ← hS, ← hp]; exact WP_s h7 v hp1 c0)
          rw [show wst l (k + 1) = wmv (wst l k) (l k) (k + 1) from rfl, ← hS, ← hp] at z
          refine Eq.trans (z _ _ _ _) ?_
          simp only [wfi, hb, Bool.false_eq_true, if_false]
        · have hb : wbad n l k = true := by unfold wbad; simp [← hp, ← hS, c0]
          rw [if_neg (by rw [np]; exact c0)]
          simp only [wfi, hb, if_true, wans, Option.getD, hS]
  rw [am_118, s_118_0, show (0 : Int32) = nI 0 from rfl, l1 49 0 (by omega) h () trivial, l2 n 0 (by omega) _ () trivial, fd_I, fd_I]
  have st : hF (hF h 18 49 (fun _ => nI 0 - 1)) 17 n (fun k => nI k) = hV h n (wst l 0) := by
    refine Prod.ext ?_ rfl
    funext a b
    show (if a = 17 ∧ b < n then nI b else if a = 18 ∧ b < 49 then nI 0 - 1 else h.1 a b) = (if a = 18 ∧ b < 49 then nI 0 - 1 else if a = 17 ∧ b < n then nI b else h.1 a b)
    by_cases e : a = 17 ∧ b < n
    · rw [if_pos e, if_neg (by omega), if_pos e]
    · rw [if_neg e, if_neg e]
  rw [st]
  exact loop w 0 (by omega) (WP_0 l) _ _ _ _
