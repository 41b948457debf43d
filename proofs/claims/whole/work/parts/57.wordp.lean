/-! ===== words: which lines cross when ===== -/
abbrev wS : Type := (Nat → Nat) × (Nat → Nat)
def ups (f : Nat → Nat) (k x : Nat) : Nat → Nat := fun j => if j = k then x else f j
/-- the place of the two lines that lie at p and behind it, the lower one first -/
def wix (a : Nat → Nat) (p : Nat) : Nat := 7 * (if a (p + 1) < a p then a (p + 1) else a p) + (if a p < a (p + 1) then a (p + 1) else a p)
def wmv (S : wS) (p t : Nat) : wS := (ups (ups S.1 p (S.1 (p + 1))) (p + 1) (S.1 p), ups S.2 (wix S.1 p) t)
def wst (l : Nat → Nat) : Nat → wS
  | 0 => (fun p => p, fun _ => 0)
  | k + 1 => wmv (wst l k) (l k) (k + 1)
def wbad (n : Nat) (l : Nat → Nat) (k : Nat) : Bool := decide (n - 2 < l k) || !decide ((wst l k).2 (wix (wst l k).1 (l k)) = 0)
/-- the first of m letters from k on that is not right -/
def wfi (n : Nat) (l : Nat → Nat) : Nat → Nat → Option Nat
  | 0, _ => none
  | m + 1, k => if wbad n l k = true then some k else wfi n l m (k + 1)
def wans (n w : Nat) (o : Option Nat) : Int32 := match o with
  | some k => nI k
  | none => if n * (n - 1) / 2 ≤ w then -1 else nI w
/-- how many pairs of lines crossed -/
def wcn (n : Nat) (c : Nat → Nat) : Nat := sB (fun u => sB (fun v => bn (!decide (c (7 * u + v) = 0))) (u + 1) (n - (u + 1))) 0 n
theorem sB_ex {f g : Nat → Nat} : ∀ (m p : Nat), (∀ q, p ≤ q → q < p + m → f q = g q) → sB f p m = sB g p m := by
  intro m
  induction m with
  | zero => intro p _; rfl
  | succ m ih =>
    intro p h
    show f p + sB f (p + 1) m = g p + sB g (p + 1) m
    rw [h p (by omega) (by omega), ih (p + 1) fun q a b => h q (by omega) (by omega)]
theorem sB_1 {f g : Nat → Nat} {u : Nat} : ∀ (m p : Nat), (∀ q, p ≤ q → q < p + m → q ≠ u → g q = f q) → p ≤ u → u < p + m → g u = f u + 1 → sB g p m = sB f p m + 1 := by
  intro m
  induction m with
  | zero => intro p _ h1 h2; omega
  | succ m ih =>
    intro p h h1 h2 h3
    show g p + sB g (p + 1) m = f p + sB f (p + 1) m + 1
    by_cases e : p = u
    · subst e
      rw [h3, sB_ex (f := g) (g := f) m (p + 1) fun q a b => h q (by omega) (by omega) (by omega)]
      omega
    · rw [h p (by omega) (by omega) e, ih (p + 1) (fun q a b => h q (by omega) (by omega)) (by omega) (by omega) h3]
      omega
theorem sB_mono {f g : Nat → Nat} : ∀ (m p : Nat), (∀ q, p ≤ q → q < p + m → f q ≤ g q) → sB f p m ≤ sB g p m := by
  intro m
  induction m with
  | zero => intro p _; exact Nat.le_refl _
  | succ m ih =>
    intro p h
    show f p + sB f (p + 1) m ≤ g p + sB g (p + 1) m
    have h1 := h p (by omega) (by omega)
    have h2 := ih (p + 1) fun q a b => h q (by omega) (by omega)
    omega
theorem sB_slt {f g : Nat → Nat} {u : Nat} : ∀ (m p : Nat), (∀ q, p ≤ q → q < p + m → f q ≤ g q) → p ≤ u → u < p + m → f u < g u → sB f p m < sB g p m := by
  intro m
  induction m with
  | zero => intro p _ h1 h2; omega
  | succ m ih =>
    intro p h h1 h2 h3
    show f p + sB f (p + 1) m < g p + sB g (p + 1) m
    by_cases e : p = u
    · subst e
      have := sB_mono (f := f) (g := g) m (p + 1) fun q a b => h q (by omega) (by omega)
      omega
    · have h4 := h p (by omega) (by omega)
      have := ih (p + 1) (fun q a b => h q (by omega) (by omega)) (by omega) (by omega) h3
      omega
theorem wcn_up {n : Nat} {c : Nat → Nat} {x y t : Nat} (h7 : n ≤ 7) (hxy : x < y) (hy : y < n) (h0 : c (7 * x + y) = 0) (ht : t ≠ 0) : wcn n (ups c (7 * x + y) t) = wcn n c + 1 := by
  refine sB_1 (u := x) _ _ (fun q _ hq e => ?_) (by omega) (by omega) ?_
  · refine sB_ex _ _ fun v _ hv => ?_
    unfold ups
    rw [if_neg (by omega)]
  · refine sB_1 (u := y) _ _ (fun q _ hq e => ?_) (by omega) (by omega) ?_
    · unfold ups
      rw [if_neg (by omega)]
    · unfold ups
      simp [h0, ht, bn]
theorem wcn_all {n : Nat} {c : Nat → Nat} (h7 : n ≤ 7) : (n * (n - 1) / 2 ≤ wcn n c) = (∀ x y, x < y → y < n → c (7 * x + y) ≠ 0) := by
  have tot : ∀ n, n < 8 → sB (fun u => sB (fun _ => 1) (u + 1) (n - (u + 1))) 0 n = n * (n - 1) / 2 := by decide +kernel
  have t := tot n (by omega)
  have b1 : ∀ b, bn b ≤ 1 := fun b => by cases b <;> simp [bn]
  refine propext ⟨fun h x y hxy hy h0 => ?_, fun h => ?_⟩
  · have : wcn n c < sB (fun u => sB (fun _ => 1) (u + 1) (n - (u + 1))) 0 n := by
      refine sB_slt (u := x) _ _ (fun q _ _ => sB_mono _ _ fun v _ _ => b1 _) (by omega) (by omega) ?_
      refine sB_slt (u := y) _ _ (fun v _ _ => b1 _) (by omega) (by omega) ?_
      simp [h0, bn]
    omega
  · have : wcn n c = sB (fun u => sB (fun _ => 1) (u + 1) (n - (u + 1))) 0 n := by
      refine sB_ex _ _ fun x _ hx => sB_ex _ _ fun y hy hy2 => ?_
      simp [h x y (by omega) (by omega), bn]
    omega
/-- what holds of a word that is right so far -/
def WP (n k : Nat) (S : wS) : Prop :=
  (∃ b : Nat → Nat, (∀ p, p < n → S.1 p < n ∧ b (S.1 p) = p) ∧ (∀ x, x < n → b x < n ∧ S.1 (b x) = x) ∧ (∀ x y, x < y → y < n → (b x < b y ↔ S.2 (7 * x + y) = 0))) ∧
  (∀ i, S.2 i ≤ k) ∧
  (∀ x y z, x < y → y < z → z < n → S.2 (7 * x + z) ≠ 0 → (S.2 (7 * x + y) ≠ 0 ∧ S.2 (7 * x + y) < S.2 (7 * x + z) ∧ (S.2 (7 * y + z) = 0 ∨ S.2 (7 * x + z) < S.2 (7 * y + z))) ∨ (S.2 (7 * y + z) ≠ 0 ∧ S.2 (7 * y + z) < S.2 (7 * x + z) ∧ (S.2 (7 * x + y) = 0 ∨ S.2 (7 * x + z) < S.2 (7 * x + y)))) ∧
  wcn n S.2 = k
theorem WP_0 {n : Nat} (l : Nat → Nat) : WP n 0 (wst l 0) := by
  refine ⟨⟨fun x => x, fun p hp => ⟨hp, rfl⟩, fun x hx => ⟨hx, rfl⟩, fun x y h1 h2 => ⟨fun _ => rfl, fun _ => h1⟩⟩, fun _ => Nat.le_refl _, fun x y z _ _ _ h => absurd rfl h, ?_⟩
  have z : ∀ (f : Nat → Nat) (m p : Nat), (∀ q, f q = 0) → sB f p m = 0 := by
    intro f m
    induction m with
    | zero => intro p _; rfl
    | succ m ih =>
      intro p h
      show f p + sB f (p + 1) m = 0
      rw [h, ih _ h]
  exact z _ _ _ fun u => z _ _ _ fun v => rfl
theorem WP_s {n k p : Nat} {S : wS} (h7 : n ≤ 7) (v : WP n k S) (hp : p + 1 < n) (h0 : S.2 (wix S.1 p) = 0) : WP n (k + 1) (wmv S p (k + 1)) := by
  obtain ⟨⟨b, b1, b2, b3⟩, v2, v3, v4⟩ := v
  obtain ⟨x, hx⟩ : ∃ x, x = S.1 p := ⟨_, rfl⟩
  obtain ⟨y, hy⟩ : ∃ y, y = S.1 (p + 1) := ⟨_, rfl⟩
  obtain ⟨x1, x2⟩ := b1 p (by omega)
  obtain ⟨y1, y2⟩ := b1 (p + 1) hp
  rw [← hx] at x1 x2
  rw [← hy] at y1 y2
  have xy : x < y := by
    rcases Nat.lt_trichotomy x y with h | h | h
    · exact h
    · rw [h, y2] at x2; omega
    · exfalso
      unfold wix at h0
      rw [← hx, ← hy, if_pos h, if_neg (by omega)] at h0
      have := (b3 y x h x1).mpr h0
      omega
  have ew : wix S.1 p = 7 * x + y := by
    unfold wix
    rw [← hx, ← hy, if_neg (by omega), if_pos xy]
  rw [ew] at h0
  have ea : ∀ q, (wmv S p (k + 1)).1 q = if q = p + 1 then x else if q = p then y else S.1 q := fun q => by rw [hx, hy]; rfl
  have ec : ∀ u w, w < 7 → (wmv S p (k + 1)).2 (7 * u + w) = if u = x ∧ w = y then k + 1 else S.2 (7 * u + w) := fun u w hw => by
    show (if 7 * u + w = wix S.1 p then k + 1 else S.2 (7 * u + w)) = _
    rw [ew]
    by_cases e : u = x ∧ w = y
    · rw [if_pos e, if_pos (by rw [e.1, e.2])]
    · rw [if_neg e, if_neg (by omega)]
  have nb : ∀ z, z < n → z ≠ x → z ≠ y → b z ≠ p ∧ b z ≠ p + 1 := fun z hz zx zy => by
    refine ⟨fun e => zx ?_, fun e => zy ?_⟩
    · rw [hx, ← e, (b2 z hz).2]
    · rw [hy, ← e, (b2 z hz).2]
  obtain ⟨b', hb⟩ : ∃ b' : Nat → Nat, ∀ z, b' z = if z = x then p + 1 else if z = y then p else b z := ⟨_, fun _ => rfl⟩
  refine ⟨⟨b', fun q hq => ?_, fun z hz => ?_, fun u w h1 h2 => ?_⟩, fun i => ?_, fun u z w h1 h2 h3 hne => ?_, ?_⟩
  · rw [ea]
    by_cases e1 : q = p + 1
    · rw [if_pos e1]
      exact ⟨x1, by rw [hb, if_pos rfl, e1]⟩
    · rw [if_neg e1]
      by_cases e2 : q = p
      · rw [if_pos e2]
        exact ⟨y1, by rw [hb, if_neg (by omega), if_pos rfl, e2]⟩
      · rw [if_neg e2]
        obtain ⟨q1, q2⟩ := b1 q hq
        refine ⟨q1, ?_⟩
        rw [hb, if_neg (fun e : S.1 q = x => by rw [e, x2] at q2; omega), if_neg (fun e : S.1 q = y => by rw [e, y2] at q2; omega), q2]
  · rw [ea]
    rw [hb]
    by_cases e1 : z = x
    · rw [if_pos e1, if_pos rfl]
      exact ⟨hp, e1.symm⟩
    · rw [if_neg e1]
      by_cases e2 : z = y
      · rw [if_pos e2, if_neg (by omega), if_pos rfl]
        exact ⟨by omega, e2.symm⟩
      · rw [if_neg e2]
        obtain ⟨n1, n2⟩ := nb z hz e1 e2
        rw [if_neg n2, if_neg n1]
        exact b2 z hz
  · rw [ec u w (by omega)]
    rw [hb, hb]
    have g := b3 u w h1 h2
    by_cases e1 : u = x
    · by_cases e2 : w = y
      · rw [if_pos e1, if_neg (by omega), if_pos e2, if_pos ⟨e1, e2⟩]
        omega
      · obtain ⟨n1, n2⟩ := nb w h2 (by omega) e2
        rw [if_pos e1, if_neg (by omega), if_neg e2, if_neg (by omega), ← g, e1, x2]
        omega
    · by_cases e2 : u = y
      · obtain ⟨n1, n2⟩ := nb w h2 (by omega) (by omega)
        rw [if_neg e1, if_pos e2, if_neg (by omega), if_neg (by omega), if_neg (by omega), ← g, e2, y2]
        omega
      · obtain ⟨n1, n2⟩ := nb u (by omega) e1 e2
        rw [if_neg e1, if_neg e2, if_neg (show ¬ (u = x ∧ w = y) by omega), ← g]
        by_cases e3 : w = x
        · rw [if_pos e3, e3, x2]; omega
        · by_cases e4 : w = y
          · rw [if_neg e3, if_pos e4, e4, y2]; omega
          · rw [if_neg e3, if_neg e4]
  · show (if i = wix S.1 p then k + 1 else S.2 i) ≤ k + 1
    have := v2 i
    split <;> omega
  · rw [ec u w (by omega)] at hne ⊢
    rw [ec u z (by omega), ec z w (by omega)]
    have g := v3 u z w h1 h2 h3
    have l1 := v2 (7 * u + z)
    have l2 := v2 (7 * z + w)
    have l3 := v2 (7 * u + w)
    by_cases e3 : u = x ∧ w = y
    · obtain ⟨n1, n2⟩ := nb z (by omega) (by omega) (by omega)
      have g1 := b3 u z h1 (by omega)
      have g2 := b3 z w h2 h3
      have bu : b u = p := by rw [e3.1]; exact x2
      have bw : b w = p + 1 := by rw [e3.2]; exact y2
      rw [if_pos e3, if_neg (show ¬ (u = x ∧ z = y) by omega), if_neg (show ¬ (z = x ∧ w = y) by omega)]
      by_cases q : b z < p
      · have a1 : S.2 (7 * u + z) ≠ 0 := fun e => by have := g1.mpr e; omega
        have a2 : S.2 (7 * z + w) = 0 := g2.mp (by omega)
        exact Or.inl ⟨a1, by omega, Or.inl a2⟩
      · have a1 : S.2 (7 * u + z) = 0 := g1.mp (by omega)
        have a2 : S.2 (7 * z + w) ≠ 0 := fun e => by have := g2.mpr e; omega
        exact Or.inr ⟨a2, by omega, Or.inl a1⟩
    · rw [if_neg e3] at hne ⊢
      have g' := g hne
      by_cases e1 : u = x ∧ z = y
      · rw [if_pos e1, if_neg (show ¬ (z = x ∧ w = y) by omega)]
        have : S.2 (7 * u + z) = 0 := by rw [e1.1, e1.2]; exact h0
        omega
      · by_cases e2 : z = x ∧ w = y
        · rw [if_neg e1, if_pos e2]
          have : S.2 (7 * z + w) = 0 := by rw [e2.1, e2.2]; exact h0
          omega
        · rw [if_neg e1, if_neg e2]
          exact g'
  · show wcn n (ups S.2 (wix S.1 p) (k + 1)) = k + 1
    rw [ew, wcn_up h7 xy y1 h0 (by omega), v4]
/-! ===== words: their signs hold ===== -/
def wF (c : Nat → Nat) : tC := fun i j k => if c (7 * j + k) ≤ c (7 * i + j) then -1 else 1
theorem wF_pm (c : Nat → Nat) (i j k : Nat) : wF c i j k = 1 ∨ wF c i j k = -1 := by
  unfold wF
  by_cases h : c (7 * j + k) ≤ c (7 * i + j)
  · rw [if_pos h]; exact Or.inr rfl
  · rw [if_neg h]; exact Or.inl rfl
/-- the row of four on a line -/
theorem row4 {ta tb tc td : Nat} (n1 : ta ≠ tb) (n2 : ta ≠ tc) (n3 : ta ≠ td) (n4 : tb ≠ tc) (n5 : tb ≠ td) (n6 : tc ≠ td) (sa sb' sc' sd : Int32) (a : sa = 1 ∨ sa = -1) (b : sb' = 1 ∨ sb' = -1) (c : sc' = 1 ∨ sc' = -1) (d : sd = 1 ∨ sd = -1) :
    psame ((sa * sb' * (if ta < tb then 1 else -1)) * (sc' * sd * (if tc < td then 1 else -1))) ((sa * sc' * (if ta < tc then 1 else -1)) * (sd * sb' * (if td < tb then 1 else -1))) ((sa * sd * (if ta < td then 1 else -1)) * (sb' * sc' * (if tb < tc then 1 else -1))) = false := by
  have core : psame ((if ta < tb then (1 : Int32) else -1) * (if tc < td then 1 else -1)) ((if ta < tc then 1 else -1) * (if td < tb then 1 else -1)) ((if ta < td then 1 else -1) * (if tb < tc then 1 else -1)) = false := by
    by_cases h1 : ta < tb <;> by_cases h2 : tc < td <;> by_cases h3 : ta < tc <;> by_cases h4 : td < tb <;> by_cases h5 : ta < td <;> by_cases h6 : tb < tc <;> first
      | (exfalso; omega)
      | (simp only [h1, h2, h3, h4, h5, h6, if_true, if_false]; decide)
  have fac : ∀ p q : Int32, (sa * sb' * p) * (sc' * sd * q) = (sa * sb' * sc' * sd) * (p * q) := fun p q => by
    grind
  have fac2 : ∀ p q : Int32, (sa * sc' * p) * (sd * sb' * q) = (sa * sb' * sc' * sd) * (p * q) := fun p q => by
    grind
  have fac3 : ∀ p q : Int32, (sa * sd * p) * (sb' * sc' * q) = (sa * sb' * sc' * sd) * (p * q) := fun p q => by
    grind
  rw [fac, fac2, fac3]
  have k : sa * sb' * sc' * sd = 1 ∨ sa * sb' * sc' * sd = -1 := by
    rcases a with rfl | rfl <;> rcases b with rfl | rfl <;> rcases c with rfl | rfl <;> rcases d with rfl | rfl <;> decide
  rcases k with k | k
  · rw [k, Int32.one_mul, Int32.one_mul, Int32.one_mul]; exact core
  · rw [k, Int32.neg_mul, Int32.neg_mul, Int32.neg_mul, Int32.one_mul, Int32.one_mul, Int32.one_mul, psame_neg]; exact core
theorem word_hold {n k : Nat} {S : wS} (h7 : n ≤ 7) (v : WP n k S) (hc : ∀ x y, x < y → y < n → S.2 (7 * x + y) ≠ 0) : WS (t3 (wF S.2) n (fun _ _ _ => 0)) n ∧ qhold (t3 (wF S.2) n (fun _ _ _ => 0)) n = true := by
  obtain ⟨-, -, v3, -⟩ := v
  obtain ⟨χ, hχ⟩ : ∃ χ, χ = t3 (wF S.2) n (fun _ _ _ => 0) := ⟨_, rfl⟩
  rw [← hχ]
  have az : AZ χ n := by rw [hχ]; exact t3_AZ AZ_0
  have up : ∀ i j k, i < j → j < k → k < n → χ i j k = wF S.2 i j k := fun i j k h1 h2 h3 => by rw [hχ]; exact t3_val h1 h2 h3
  have ws : WS χ n := WS_AZ h7 az fun a b c h1 h2 h3 => by rw [up a b c h1 h2 h3]; exact wF_pm _ _ _ _
  refine ⟨ws, ?_⟩
  -- when two lines cross
  obtain ⟨t, ht⟩ : ∃ t : Nat → Nat → Nat, t = fun x y => if x < y then S.2 (7 * x + y) else S.2 (7 * y + x) := ⟨_, rfl⟩
  have tlt : ∀ x y, x < y → t x y = S.2 (7 * x + y) := fun x y h => by rw [ht]; exact if_pos h
  have tgt : ∀ x y, y < x → t x y = S.2 (7 * y + x) := fun x y h => by rw [ht]; exact if_neg (by omega)
  have bet : ∀ x y z, x < y → y < z → z < n → (S.2 (7 * x + y) < S.2 (7 * x + z) ∧ S.2 (7 * x + z) < S.2 (7 * y + z)) ∨ (S.2 (7 * y + z) < S.2 (7 * x + z) ∧ S.2 (7 * x + z) < S.2 (7 * x + y)) := fun x y z h1 h2 h3 => by
    have g := v3 x y z h1 h2 h3 (hc x z (by omega) h3)
    have g1 := hc x y h1 (by omega)
    have g2 := hc y z h2 h3
    omega
  -- signs seen from e
  obtain ⟨s, hs⟩ : ∃ s : Nat → Nat → Int32, s = fun e x => if x < e then -1 else 1 := ⟨_, rfl⟩
  have spm : ∀ e x, s e x = 1 ∨ s e x = -1 := fun e x => by
    rw [hs]
    by_cases h : x < e
    · exact Or.inr (if_pos h)
    · exact Or.inl (if_neg h)
  have see : ∀ e x y, e < n → x < n → y < n → e ≠ x → e ≠ y → x < y → χ e x y = s e x * s e y * (if t e x < t e y then 1 else -1) ∧ t e x ≠ t e y := by
    intro e x y he hx hy ex ey xy
    by_cases h1 : e < x
    · have g := bet e x y h1 xy hy
      rw [up e x y h1 xy hy, tlt e x h1, tlt e y (by omega), hs]
      simp only [if_neg (show ¬ x < e by omega), if_neg (show ¬ y < e by omega)]
      unfold wF
      refine ⟨?_, by omega⟩
      by_cases q : S.2 (7 * x + y) ≤ S.2 (7 * e + x)
      · rw [if_pos q, if_neg (by omega)]; rfl
      · rw [if_neg q, if_pos (by omega)]; rfl
    · by_cases h2 : e < y
      · have g := bet x e y (by omega) h2 hy
        rw [WS_j ws (a := x) (b := e) (by omega) (by omega) (by omega), up x e y (by omega) h2 hy, tgt e x (by omega), tlt e y h2, hs]
        simp only [if_pos (show x < e by omega), if_neg (show ¬ y < e by omega)]
        unfold wF
        refine ⟨?_, by omega⟩
        by_cases q : S.2 (7 * e + y) ≤ S.2 (7 * x + e)
        · rw [if_pos q, if_neg (by omega)]; rfl
        · rw [if_neg q, if_pos (by omega)]; rfl
      · have g := bet x y e xy (by omega) he
        rw [← WS_r ws (a := e) (b := x) (c := y) (by omega) (by omega) (by omega), up x y e xy (by omega) he, tgt e x (by omega), tgt e y (by omega), hs]
        simp only [if_pos (show x < e by omega), if_pos (show y < e by omega)]
        unfold wF
        refine ⟨?_, by omega⟩
        by_cases q : S.2 (7 * y + e) ≤ S.2 (7 * x + y)
        · rw [if_pos q, if_neg (by omega)]; rfl
        · rw [if_neg q, if_pos (by omega)]; rfl
  refine qhold_iff.mpr fun a b c d h1 h2 h3 h4 => ⟨?_, fun e he ea eb ec ed => ?_⟩
  · rw [q4_same, Bool.not_eq_true', ← Bool.not_eq_true, same4_iff]
    rintro ⟨s1, s2, s3⟩
    rw [WS_k ws (a := a) (b := c) (c := d) (by omega) (by omega) (by omega), up b c d h2 h3 h4, up a c d (by omega) h3 h4] at s1
    rw [up b c d h2 h3 h4, up a b d h1 (by omega) h4] at s2
    rw [WS_k ws (a := a) (b := b) (c := c) (by omega) (by omega) (by omega), up b c d h2 h3 h4, up a b c h1 h2 (by omega)] at s3
    have g1 := bet a b c h1 h2 (by omega)
    have g2 := bet a b d h1 (by omega) h4
    have g3 := bet a c d (by omega) h3 h4
    have g4 := bet b c d h2 h3 h4
    unfold wF at s1 s2 s3
    have d1 : ¬ (1 : Int32) = -1 := by decide
    have d2 : ¬ (-1 : Int32) = 1 := by decide
    have d3 : ¬ (1 : Int32) = - 1 := by decide
    have d4 : ¬ (-1 : Int32) = - -1 := by decide
    by_cases k1 : S.2 (7 * c + d) ≤ S.2 (7 * b + c) <;> by_cases k2 : S.2 (7 * c + d) ≤ S.2 (7 * a + c) <;> by_cases k3 : S.2 (7 * b + d) ≤ S.2 (7 * a + b) <;> by_cases k4 : S.2 (7 * b + c) ≤ S.2 (7 * a + b) <;> simp only [k1, k2, k3, k4, if_true, if_false] at s1 s2 s3 <;> first
      | (exfalso; omega)
      | exact absurd s1 (by decide)
      | exact absurd s2 (by decide)
      | exact absurd s3 (by decide)
  · unfold q5
    obtain ⟨e1, n1⟩ := see e a b he (by omega) (by omega) ea eb h1
    obtain ⟨e2, n2⟩ := see e c d he (by omega) (by omega) ec ed h3
    obtain ⟨e3, n3⟩ := see e a c he (by omega) (by omega) ea ec (by omega)
    obtain ⟨e4, n4⟩ := see e b d he (by omega) (by omega) eb ed (by omega)
    obtain ⟨e5, n5⟩ := see e a d he (by omega) (by omega) ea ed (by omega)
    obtain ⟨e6, n6⟩ := see e b c he (by omega) (by omega) eb ec h2
    have e4' : χ e d b = s e d * s e b * (if t e d < t e b then 1 else -1) := by
      rw [WS_k ws (a := e) (b := b) (c := d) (by omega) (by omega) (by omega), e4, Int32.mul_comm (s e b)]
      by_cases q : t e b < t e d
      · rw [if_pos q, if_neg (by omega), Int32.mul_neg]
      · rw [if_neg q, if_pos (by omega), Int32.mul_neg, Int32.neg_neg]
    rw [e1, e2, e3, e4', e5, e6, row4 n1 n3 n5 n6 n4 n2 _ _ _ _ (spm e a) (spm e b) (spm e c) (spm e d)]
    rfl
