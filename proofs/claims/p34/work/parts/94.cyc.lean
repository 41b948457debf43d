/-! ===== the hull is one round ===== -/
theorem cB_add {f g : Nat → Bool} {x : Nat} : ∀ m p, p ≤ x → x < p + m → f x = false → g x = true → (∀ q, q ≠ x → g q = f q) → cB g p m = cB f p m + 1 := by
  intro m
  induction m with
  | zero => intro p h1 h2; omega
  | succ m ih =>
    intro p h1 h2 hf hg he
    have e : ∀ u : Nat → Bool, cB u p (m + 1) = (if u p = true then 1 else 0) + cB u (p + 1) m := fun _ => rfl
    rw [e, e]
    by_cases hx : p = x
    · subst hx
      rw [hf, hg, cB_ext (f := g) (g := f) m (p + 1) fun k k1 _ => he k (by omega)]
      simp; omega
    · rw [he p hx, ih (p + 1) (by omega) (by omega) hf hg he]
      omega
theorem cB_none {g : Nat → Bool} : ∀ m p, (∀ q, g q = false) → cB g p m = 0 := by
  intro m
  induction m with
  | zero => intro p _; rfl
  | succ m ih =>
    intro p h
    have e : cB g p (m + 1) = (if g p = true then 1 else 0) + cB g (p + 1) m := rfl
    rw [e, h p, ih (p + 1) h]
    rfl
theorem cnt {f : Nat → Nat} : ∀ k, (∀ s, s < k → f s < 7) → (∀ s t, s < t → t < k → f s ≠ f t) → ∀ g : Nat → Bool, (∀ q, g q = true ↔ ∃ s, s < k ∧ f s = q) → cB g 0 7 = k := by
  intro k
  induction k with
  | zero =>
    intro _ _ g hg
    refine cB_none _ _ fun q => ?_
    cases e : g q with
    | false => rfl
    | true => obtain ⟨s, hs, -⟩ := (hg q).mp e; omega
  | succ k ih =>
    intro h7 hi g hg
    have e := ih (fun s hs => h7 s (by omega)) (fun s t st tk => hi s t st (by omega)) (fun q => g q && !decide (q = f k)) fun q => by
      constructor
      · intro z
        simp only [Bool.and_eq_true, Bool.not_eq_true', decide_eq_false_iff_not] at z
        obtain ⟨s, hs, e⟩ := (hg q).mp z.1
        refine ⟨s, Nat.lt_of_le_of_ne (by omega) fun y => z.2 ?_, e⟩
        rw [← e, y]
      · rintro ⟨s, hs, e⟩
        simp only [Bool.and_eq_true, Bool.not_eq_true', decide_eq_false_iff_not]
        exact ⟨(hg q).mpr ⟨s, by omega, e⟩, fun y => hi s k hs (by omega) (e.trans y)⟩
    rw [← e]
    refine cB_add (x := f k) 7 0 (Nat.zero_le _) (by have := h7 k (by omega); omega) ?_ ((hg _).mpr ⟨k, by omega, rfl⟩) fun q hq => ?_
    · simp
    · simp [hq]
theorem hres_0 {χ : tC} {n : Nat} : hres χ n 0 = hfirst χ n := rfl
theorem hres_s {χ : tC} {n t : Nat} : hres χ n (t + 1) = hstep χ n 0 (hres χ n t) := fd_last t 0 _
/-- an edge of the hull -/
def hE2 (χ : tC) (n a b : Nat) : Prop := fS χ (fun c => c < n) a b
theorem fo_E {χ : tC} {n a b : Nat} (h7 : n ≤ 7) (ha : a < n) : fo χ n (one n - 1) a b ↔ hE2 χ n a b := by
  have ba : ∀ c, c < n → bt (one n - 1) c = true := fun c hc => by rw [bt_all h7 (by omega)]; simpa using hc
  constructor
  · rintro ⟨h1, h2, -, h4⟩
    exact ⟨ha, h1, fun z => h2 z.symm, fun c hc ca cb => h4 c hc ca cb (ba c hc)⟩
  · rintro ⟨_, h1, h2, h4⟩
    exact ⟨h1, fun z => h2 z.symm, ba b h1, fun c hc ca cb _ => h4 c hc ca cb⟩
theorem hE_un {χ : tC} {n a b c : Nat} (w : WS χ n) (h7 : n ≤ 7) (h1 : hE2 χ n a b) (h2 : hE2 χ n a c) : b = c := by
  apply Classical.byContradiction
  intro bc
  obtain ⟨a1, b1, ab, x1⟩ := h1
  obtain ⟨_, c1, ac, x2⟩ := h2
  have e1 := x1 c c1 (fun z => ac z.symm) (fun z => bc z.symm)
  have e2 := x2 b b1 (fun z => ab z.symm) bc
  rw [WS_k w (a := a) (b := b) (c := c) (by have : a < n := a1; omega) (by have : b < n := b1; omega) (by have : c < n := c1; omega), e1] at e2
  exact absurd e2 (by decide)
theorem onH_step {χ : tC} {n : Nat} (w : WS χ n) (h3 : 3 ≤ n) (h7 : n ≤ 7) (h : qhold χ n = true) {a : Nat} (v : onH χ n a) : onH χ n (hstep χ n 0 a) ∧ hE2 χ n a (hstep χ n 0 a) := by
  obtain ⟨v1, v2⟩ := hstep_ok w h3 h7 h (k := 0) v
  refine ⟨v1, ?_⟩
  rcases pafter_iff (χ := χ) (n := n) (a := a) (set := one n - 1) h7 with ⟨e, _⟩ | ⟨b, f, e⟩
  · rw [e] at v2
    exact absurd v2.symm (nI_m1 (by have := v1.1; omega))
  · rw [e] at v2
    have : b = hstep χ n 0 a := by
      have b1 := f.1
      have b2 := v1.1
      rwa [nI_eq' (by omega) (by omega)] at v2
    rw [← this]
    exact (fo_E h7 v.1).mp f
/-- every point of the hull is met, one step behind another -/
theorem cyc_all {χ : tC} {n : Nat} (w : WS χ n) (h3 : 3 ≤ n) (h7 : n ≤ 7) (h : qhold χ n = true) {a : Nat → Nat} (ha : ∀ t, a t < n ∧ hE2 χ n (a t) (a (t + 1))) {p : Nat} (hp : onH χ n p) : ∃ t, a t = p := by
  apply Classical.byContradiction
  intro hno
  have hne : ∀ t, a t ≠ p := fun t z => hno ⟨t, z⟩
  have pn := hp.1
  obtain ⟨q, fq⟩ := hp.2
  have eq := (fo_E h7 pn).mp fq
  obtain ⟨_, qn, pq, eqc⟩ := eq
  have qn : q < n := qn
  have st : ∀ t, χ p (a t) (a (t + 1)) = 1 := fun t => by
    obtain ⟨_, b1, _, b3⟩ := (ha t).2
    have := b3 p pn (fun z => hne t z.symm) (fun z => hne (t + 1) z.symm)
    have b1 : a (t + 1) < n := b1
    have a1 := (ha t).1
    rw [← WS_r w (a := p) (b := a t) (c := a (t + 1)) (by omega) (by omega) (by omega)]
    exact this
  have nq : ∀ t, a (t + 1) ≠ q := fun t z => by
    have e1 := st t
    have a1 := (ha t).1
    rw [z] at e1
    have ne : a t ≠ q := fun y => by
      have := (ha t).2.2.2.1
      rw [z] at this
      exact this y
    have e2 := eqc (a t) a1 (hne t) ne
    rw [WS_k w (a := p) (b := q) (c := a t) (by omega) (by omega) (by omega), e2] at e1
    exact absurd e1 (by decide)
  have lq : ∀ t, χ p q (a (t + 1)) = 1 := fun t => eqc _ (ha (t + 1)).1 (hne _) (nq t)
  obtain ⟨i, j, ij, _, eij⟩ := pig n (fun t => a (t + 1)) fun k _ => (ha (k + 1)).1
  have go : ∀ m, a (i + 1) ≠ a (i + 1 + (m + 1)) ∧ χ p (a (i + 1)) (a (i + 1 + (m + 1))) = 1 := by
    intro m
    induction m with
    | zero => exact ⟨(ha (i + 1)).2.2.2.1, st (i + 1)⟩
    | succ m ih =>
      obtain ⟨i1, i2⟩ := ih
      have a1 := (ha (i + 1)).1
      have a2 := (ha (i + 1 + (m + 1))).1
      have a3 := (ha (i + 1 + (m + 1) + 1)).1
      have e3 := st (i + 1 + (m + 1))
      have ne : a (i + 1) ≠ a (i + 1 + (m + 1) + 1) := fun z => by
        rw [← z, WS_k w (a := p) (b := a (i + 1)) (c := a (i + 1 + (m + 1))) (by omega) (by omega) (by omega), i2] at e3
        exact absurd e3 (by decide)
      refine ⟨ne, ?_⟩
      exact gp_tr' w h7 h pn qn a1 a2 a3 pq (fun z => hne _ z.symm) (fun z => hne _ z.symm) (fun z => hne _ z.symm) (fun z => nq i z.symm) (fun z => nq (i + 1 + m) z.symm) (fun z => nq _ z.symm) i1 (ha (i + 1 + (m + 1))).2.2.2.1 ne (lq i) (lq (i + 1 + m)) (lq _) i2 e3
  have := (go (j - i - 1)).1
  rw [show i + 1 + (j - i - 1 + 1) = j + 1 by omega] at this
  exact this eij
/-- how many steps lead around the hull -/
theorem cyc_len {χ : tC} {n : Nat} (w : WS χ n) (h3 : 3 ≤ n) (h7 : n ≤ 7) (h : qhold χ n = true) : 0 < pc (hset χ n) ∧ (∀ t, onH χ n (hres χ n t)) ∧ hres χ n (pc (hset χ n)) = hfirst χ n ∧ ∀ t, 0 < t → t < pc (hset χ n) → hres χ n t ≠ hfirst χ n := by
  have hpos : 0 < pc (hset χ n) := by
    obtain ⟨a, b, f⟩ := hull_ex w h7 h (set := one n - 1) n (Nat.le_refl _) ⟨0, 1, by omega, by omega, by rw [bt_all h7 (by omega)]; simp; omega, by rw [bt_all h7 (by omega)]; simp; omega⟩
    have ba : ∀ c, c < n → bt (one n - 1) c = true := fun c hc => by rw [bt_all h7 (by omega)]; simpa using hc
    have o : onH χ n a := ⟨f.1.1, b, (fo_E h7 f.1.1).mpr ⟨f.1.1, f.2.1.1, f.2.2.1, fun c hc ca cb => f.2.2.2 c ⟨hc, ba c hc⟩ ca cb⟩⟩
    have hb := (hset_bt h7).mpr o
    rw [pc_7 (n := 7) (by decide) (hset_7 h7)]
    refine Nat.pos_of_ne_zero fun z => ?_
    have lt := cB_lt (f := fun _ => false) (g := bt (hset χ n)) 7 0 (fun _ _ _ e => by cases e) ⟨a, Nat.zero_le _, by have := o.1; omega, rfl, hb⟩
    omega
  obtain ⟨f1, -, -⟩ := hfirst_ok (χ := χ) h7 hpos
  have on : ∀ t, onH χ n (hres χ n t) := by
    intro t
    induction t with
    | zero => exact f1
    | succ t ih => rw [hres_s]; exact (onH_step w h3 h7 h ih).1
  have ed : ∀ t, hE2 χ n (hres χ n t) (hres χ n (t + 1)) := fun t => by
    rw [hres_s]; exact (onH_step w h3 h7 h (on t)).2
  have back : ∀ m s t, hres χ n (s + m) = hres χ n (t + m) → hres χ n s = hres χ n t := by
    intro m
    induction m with
    | zero => intro s t e; exact e
    | succ m ih =>
      intro s t e
      refine ih s t ?_
      have e1 := ed (s + m)
      have e2 := ed (t + m)
      rw [show s + m + 1 = s + (m + 1) by omega, e] at e1
      exact fS_inj w h7 (S := fun c => c < n) (fun c hc => hc) e1 e2
  have hper : ∃ k, 0 < k ∧ hres χ n k = hfirst χ n := by
    obtain ⟨i, j, ij, _, e⟩ := pig n (hres χ n) fun k _ => (on k).1
    refine ⟨j - i, by omega, ?_⟩
    have := back i 0 (j - i) (by rw [Nat.zero_add, show j - i + i = j by omega]; exact e)
    exact this.symm
  have hmin : ∃ k, 0 < k ∧ hres χ n k = hfirst χ n ∧ ∀ t, 0 < t → t < k → hres χ n t ≠ hfirst χ n := by
    have go : ∀ m, (∃ k, k ≤ m ∧ 0 < k ∧ hres χ n k = hfirst χ n) → ∃ k, 0 < k ∧ hres χ n k = hfirst χ n ∧ ∀ t, 0 < t → t < k → hres χ n t ≠ hfirst χ n := by
      intro m
      induction m with
      | zero => rintro ⟨k, h1, h2, _⟩; omega
      | succ m ih =>
        rintro ⟨k, h1, h2, h3⟩
        by_cases e : ∃ t, t ≤ m ∧ 0 < t ∧ hres χ n t = hfirst χ n
        · exact ih e
        · exact ⟨k, h2, h3, fun t t0 tk z => e ⟨t, by omega, t0, z⟩⟩
    obtain ⟨k, k1, k2⟩ := hper
    exact go k ⟨k, Nat.le_refl _, k1, k2⟩
  obtain ⟨k, k1, k2, k3⟩ := hmin
  have inj : ∀ s t, s < t → t < k → hres χ n s ≠ hres χ n t := fun s t st tk e => by
    have := back s 0 (t - s) (by rw [Nat.zero_add, show t - s + s = t by omega]; exact e)
    exact k3 (t - s) (by omega) (by omega) this.symm
  have per : ∀ t, hres χ n (t + k) = hres χ n t := by
    intro t
    induction t with
    | zero => rw [Nat.zero_add, k2]; rfl
    | succ t ih => rw [show t + 1 + k = t + k + 1 by omega, hres_s, ih, ← hres_s]
  have fold : ∀ m t, t < m → ∃ s, s < k ∧ hres χ n s = hres χ n t := by
    intro m
    induction m with
    | zero => intro t ht; omega
    | succ m ih =>
      intro t ht
      by_cases tk : t < k
      · exact ⟨t, tk, rfl⟩
      · obtain ⟨s, s1, s2⟩ := ih (t - k) (by omega)
        refine ⟨s, s1, ?_⟩
        rw [s2, ← per (t - k), show t - k + k = t by omega]
  have len : pc (hset χ n) = k := by
    rw [pc_7 (n := 7) (by decide) (hset_7 h7)]
    refine cnt (f := hres χ n) k (fun s _ => by have := (on s).1; omega) inj _ fun q => ?_
    rw [hset_bt h7]
    constructor
    · intro o
      obtain ⟨t, ht⟩ := cyc_all w h3 h7 h (a := hres χ n) (fun t => ⟨(on t).1, ed t⟩) o
      obtain ⟨s, s1, s2⟩ := fold (t + 1) t (by omega)
      exact ⟨s, s1, s2.trans ht⟩
    · rintro ⟨s, _, e⟩
      rw [← e]; exact on s
  rw [len]
  exact ⟨k1, on, k2, k3⟩
