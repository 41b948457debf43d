/-! ===== what the law's looks at a drawing's shape come to ===== -/
theorem sB_last {f : Nat → Nat} (m p : Nat) : sB f p (m + 1) = sB f p m + f (p + m) := by
  rw [sB_app f m p 1]
  rfl
theorem sB_add {f g : Nat → Nat} : ∀ m p, sB (fun k => f k + g k) p m = sB f p m + sB g p m := by
  intro m
  induction m with
  | zero => intro p; rfl
  | succ m ih =>
    intro p
    have e : ∀ u : Nat → Nat, sB u p (m + 1) = u p + sB u (p + 1) m := fun _ => rfl
    rw [e, e, e, ih]
    omega
theorem sB_at {A u : Nat} : ∀ m p, p ≤ u → u < p + m → sB (fun b => if b = u then A else 0) p m = A := by
  intro m
  induction m with
  | zero => intro p h1 h2; omega
  | succ m ih =>
    intro p h1 h2
    have e : ∀ v : Nat → Nat, sB v p (m + 1) = v p + sB v (p + 1) m := fun _ => rfl
    rw [e]
    by_cases hx : p = u
    · rw [if_pos hx, sB_z m (p + 1) fun k k1 _ => if_neg (by omega)]
      rfl
    · rw [if_neg hx, ih (p + 1) (by omega) (by omega), Nat.zero_add]
/-! layers -/
theorem cB_7 {f : Nat → Bool} {n : Nat} (h7 : n ≤ 7) (hf : ∀ i, n ≤ i → f i = false) : cB f 0 n = cB f 0 7 := by
  rw [cB_sB, cB_sB, show sB (fun k => bn (f k)) 0 7 = sB (fun k => bn (f k)) 0 n + sB (fun k => bn (f k)) (0 + n) (7 - n) from by
    rw [← sB_app]
    congr 1
    omega]
  rw [sB_z (7 - n) (0 + n) fun k k1 _ => by rw [hf k (by omega)]; rfl]
  rfl
theorem lhull_p {χ : tC} {n : Nat} {s : Int32} (w : WS χ n) (h7 : n ≤ 7) (h : qhold χ n = true) (hs : sm s n) : lhull χ n s = phull χ n s := by
  have ec : cB (bt s) 0 n = pc s := by rw [pc_7 h7 hs, cB_7 h7 hs]
  unfold lhull
  rw [ec]
  by_cases h3 : pc s < 3
  · rw [if_pos h3]
    refine b_ext fun i _ => ?_
    by_cases hb : bt s i = true
    · have hi : i < n := Nat.lt_of_not_le fun z => by rw [hs i z] at hb; cases hb
      rw [hb, lay_small h7 hs hb hi (by omega)]
    · have hb : bt s i = false := by simpa using hb
      rw [hb, phull_bt h7, hb]
      simp
  · rw [if_neg h3]
    obtain ⟨i, i7, hb⟩ := pc_pos (x := s) (by omega) fun i hi => hs i (by omega)
    have hi : i < n := Nat.lt_of_not_le fun z => by rw [hs i z] at hb; cases hb
    exact (lay_big w h7 h hs hb hi (by omega)).1.symm
theorem lay_next {χ : tC} {n : Nat} {s : Int32} (w : WS χ n) (h7 : n ≤ 7) (h : qhold χ n = true) (hs : sm s n) (h0 : s ≠ 0) : sm (s &&& (phull χ n s ^^^ -1)) n ∧ pc (s &&& (phull χ n s ^^^ -1)) < pc s := by
  have hsm : sm (s &&& (phull χ n s ^^^ -1)) n := fun i hi => by
    by_cases h32 : i < 32
    · rw [bt_cpl h32, hs i hi]; rfl
    · exact b_big (by omega)
  have hex : ∃ i, i < n ∧ bt s i = true := by
    apply Classical.byContradiction
    intro z
    refine h0 (b_ext fun i _ => ?_)
    rw [b_0]
    by_cases hi : i < n
    · cases e : bt s i with
      | false => rfl
      | true => exact absurd ⟨i, hi, e⟩ z
    · exact hs i (by omega)
  obtain ⟨i, hi, hb⟩ := hex
  refine ⟨hsm, ?_⟩
  by_cases h2 : pc s ≤ 2
  · have e : s &&& (phull χ n s ^^^ -1) = 0 := b_ext fun q h32 => by
      rw [bt_cpl h32, b_0]
      by_cases hq : bt s q = true
      · have hqn : q < n := Nat.lt_of_not_le fun z => by rw [hs q z] at hq; cases hq
        rw [lay_small h7 hs hq hqn h2]
        simp
      · have hq : bt s q = false := by simpa using hq
        rw [hq]; rfl
    rw [e, pc_0]
    refine Nat.pos_of_ne_zero fun z => ?_
    rw [pc_7 h7 hs] at z
    have lt := cB_lt (f := fun _ => false) (g := bt s) 7 0 (fun _ _ _ e => by cases e) ⟨i, Nat.zero_le _, by omega, rfl, hb⟩
    omega
  · exact (lay_big w h7 h hs hb hi h2).2
/-! crossings -/
def its (χ : tC) (i j k l : Nat) : Nat := bn (qcross χ i j k l) + bn (qcross χ i k j l) + bn (qcross χ i l j k)
abbrev N4 : Type := Nat × Nat × Nat × Nat
def dist4 (x : N4) : Bool := !decide (x.1 = x.2.1) && !decide (x.1 = x.2.2.1) && !decide (x.1 = x.2.2.2) && !decide (x.2.1 = x.2.2.1) && !decide (x.2.1 = x.2.2.2) && !decide (x.2.2.1 = x.2.2.2)
def LQ (n : Nat) : List N4 := (List.range' 0 n).flatMap fun i => (List.range' (i + 1) (n - (i + 1))).flatMap fun j => (List.range' (i + 1) (n - (i + 1))).flatMap fun k => (List.range' (k + 1) (n - (k + 1))).map fun l => (i, j, k, l)
def LT (n : Nat) : List N4 := (List.range' 0 n).flatMap fun i => (List.range' (i + 1) (n - (i + 1))).flatMap fun j => (List.range' (j + 1) (n - (j + 1))).flatMap fun k => (List.range' (k + 1) (n - (k + 1))).flatMap fun l => [(i, j, k, l), (i, k, j, l), (i, l, j, k)]
theorem LQ_perm : ∀ n, n < 8 → (((LQ n).filter dist4).isPerm ((LT n).filter dist4)) = true := by decide +kernel
def T3 (χ : tC) (n i j : Nat) : Nat → Nat := fun k => sB (its χ i j k) (k + 1) (n - (k + 1))
def T2 (χ : tC) (n i : Nat) : Nat → Nat := fun j => sB (T3 χ n i j) (j + 1) (n - (j + 1))
def T1 (χ : tC) (n : Nat) : Nat → Nat := fun i => sB (T2 χ n i) (i + 1) (n - (i + 1))
def fq4 (χ : tC) (x : N4) : Nat := bn (qcross χ x.1 x.2.1 x.2.2.1 x.2.2.2)
theorem fq4_0 (χ : tC) (x : N4) (h : dist4 x = false) : fq4 χ x = 0 := by
  unfold fq4 qcross
  have e : (decide (x.1 = x.2.1) || decide (x.1 = x.2.2.1) || decide (x.1 = x.2.2.2) || decide (x.2.1 = x.2.2.1) || decide (x.2.1 = x.2.2.2) || decide (x.2.2.1 = x.2.2.2)) = true := by
    unfold dist4 at h
    generalize decide (x.1 = x.2.1) = a1 at h ⊢
    generalize decide (x.1 = x.2.2.1) = a2 at h ⊢
    generalize decide (x.1 = x.2.2.2) = a3 at h ⊢
    generalize decide (x.2.1 = x.2.2.1) = a4 at h ⊢
    generalize decide (x.2.1 = x.2.2.2) = a5 at h ⊢
    generalize decide (x.2.2.1 = x.2.2.2) = a6 at h ⊢
    revert h
    cases a1 <;> cases a2 <;> cases a3 <;> cases a4 <;> cases a5 <;> cases a6 <;> decide
  rw [e]
  rfl
theorem crs_T {χ : tC} {n : Nat} (h7 : n ≤ 7) : crs χ n = sB (T1 χ n) 0 n := by
  have e1 : crs χ n = ((LQ n).map (fq4 χ)).sum := by
    unfold LQ
    rw [sum_fm, ← sB_list]
    unfold crs
    refine sB_ext _ _ fun i _ _ => ?_
    rw [sum_fm, ← sB_list]
    unfold crs1
    refine sB_ext _ _ fun j _ _ => ?_
    rw [sum_fm, ← sB_list]
    unfold crs2
    refine sB_ext _ _ fun k _ _ => ?_
    rw [List.map_map, ← sB_list]
    unfold crs3
    exact sB_ext _ _ fun l _ _ => rfl
  have e2 : sB (T1 χ n) 0 n = ((LT n).map (fq4 χ)).sum := by
    unfold LT
    rw [sum_fm, ← sB_list]
    refine sB_ext _ _ fun i _ _ => ?_
    rw [sum_fm, ← sB_list]
    unfold T1
    refine sB_ext _ _ fun j _ _ => ?_
    rw [sum_fm, ← sB_list]
    unfold T2
    refine sB_ext _ _ fun k _ _ => ?_
    rw [sum_fm, ← sB_list]
    unfold T3
    refine sB_ext _ _ fun l _ _ => ?_
    unfold its
    show _ = bn (qcross χ i j k l) + (bn (qcross χ i k j l) + (bn (qcross χ i l j k) + 0))
    omega
  rw [e1, e2, sum_filter (fq4 χ) dist4 (LQ n) (fun x _ => fq4_0 χ x), sum_filter (fq4 χ) dist4 (LT n) (fun x _ => fq4_0 χ x)]
  exact sum_perm ((List.isPerm_iff.mp (LQ_perm n (by omega))).map _)
theorem qcross_sw {χ : tC} {n a b c d : Nat} (w : WS χ n) (ha : a < 7) (hb : b < 7) (hc : c < 7) (hd : d < 7) : qcross χ b a d c = qcross χ a b c d := by
  have ng : ∀ x y : Int32, (-x = -y) ↔ x = y := fun x y => ⟨fun z => by rw [← Int32.neg_neg (a := x), z, Int32.neg_neg], fun z => by rw [z]⟩
  unfold qcross pparts
  rw [WS_j w (a := a) (b := b) (c := d) ha hb hd, WS_j w (a := a) (b := b) (c := c) ha hb hc, WS_j w (a := c) (b := d) (c := b) hc hd hb, WS_j w (a := c) (b := d) (c := a) hc hd ha]
  have e1 : decide (-χ a b d = -χ a b c) = decide (χ a b c = χ a b d) := by
    rw [decide_eq_decide, ng]; exact eq_comm
  have e2 : decide (-χ c d b = -χ c d a) = decide (χ c d a = χ c d b) := by
    rw [decide_eq_decide, ng]; exact eq_comm
  rw [e1, e2]
  have s : ∀ x y : Nat, decide (x = y) = decide (y = x) := fun x y => by rw [decide_eq_decide]; exact eq_comm
  rw [s b a, s d c]
  generalize decide (a = b) = a1
  generalize decide (b = d) = a2
  generalize decide (b = c) = a3
  generalize decide (a = d) = a4
  generalize decide (a = c) = a5
  generalize decide (c = d) = a6
  generalize decide (χ a b c = χ a b d) = a7
  generalize decide (χ c d a = χ c d b) = a8
  revert a1 a2 a3 a4 a5 a6 a7 a8
  decide
theorem qcross_pr (χ : tC) (a b c d : Nat) : qcross χ c d a b = qcross χ a b c d := by
  unfold qcross pparts
  have s : ∀ x y : Nat, decide (x = y) = decide (y = x) := fun x y => by rw [decide_eq_decide]; exact eq_comm
  rw [s c a, s c b, s d a, s d b]
  generalize decide (a = b) = a1
  generalize decide (b = d) = a2
  generalize decide (b = c) = a3
  generalize decide (a = d) = a4
  generalize decide (a = c) = a5
  generalize decide (c = d) = a6
  generalize decide (χ a b c = χ a b d) = a7
  generalize decide (χ c d a = χ c d b) = a8
  revert a1 a2 a3 a4 a5 a6 a7 a8
  decide
/-! levels -/
def mN (χ : tC) (n i j : Nat) : Nat := if cB (fun k => decide (χ i j k = -1)) 0 n ≤ cB (fun k => decide (χ i j k = 1)) 0 n then cB (fun k => decide (χ i j k = -1)) 0 n else cB (fun k => decide (χ i j k = 1)) 0 n
theorem mN_ok {χ : tC} {n i j : Nat} (w : WS χ n) (h7 : n ≤ 7) (hi : i < n) (hj : j < n) (hij : i ≠ j) : mN χ n i j ≤ 2 ∧ qlev χ n i j = nI (mN χ n i j) ∧ (if (nI n - 2) - nI (cB (fun k => decide (χ i j k = 1)) 0 n) ≤ nI (cB (fun k => decide (χ i j k = 1)) 0 n) then (nI n - 2) - nI (cB (fun k => decide (χ i j k = 1)) 0 n) else nI (cB (fun k => decide (χ i j k = 1)) 0 n)) = nI (mN χ n i j) := by
  have e := cB_3 (f := fun k => decide (χ i j k = 1)) (g := fun k => decide (χ i j k = -1)) (e := fun k => decide (k = i) || decide (k = j)) n 0 fun k _ hk => by
    by_cases h1 : k = i
    · have := WS_z w (i := i) (j := j) (k := k) (by omega) (by omega) (by omega) (by omega)
      simp [h1, bn, h1 ▸ this]
    · by_cases h2 : k = j
      · have := WS_z w (i := i) (j := j) (k := k) (by omega) (by omega) (by omega) (by omega)
        simp [h2, bn, h2 ▸ this]
      · rcases WS_at w h7 hi hj (show k < n by omega) hij (fun z => h2 z.symm) (fun z => h1 z.symm) with h | h <;> simp [h, h1, h2, bn]
  rw [cB_ij h7 hi hj hij] at e
  have e2 : (nI n - 2) - nI (cB (fun k => decide (χ i j k = 1)) 0 n) = nI (cB (fun k => decide (χ i j k = -1)) 0 n) := by
    have hh : ∀ n, n < 8 → ∀ a, a < 8 → ∀ b, b < 8 → a + b + 2 = n → nI n - 2 - nI a = nI b := by decide +kernel
    exact hh n (by omega) _ (by omega) _ (by omega) e
  have q : qlev χ n i j = nI (mN χ n i j) := by
    unfold qlev mN
    have e3 : nI (cB (fun k => decide (χ i j k = -1)) 0 n) ≤ nI (cB (fun k => decide (χ i j k = 1)) 0 n) ↔ cB (fun k => decide (χ i j k = -1)) 0 n ≤ cB (fun k => decide (χ i j k = 1)) 0 n := by rw [nI_le' (by omega) (by omega)]
    by_cases h1 : cB (fun k => decide (χ i j k = -1)) 0 n ≤ cB (fun k => decide (χ i j k = 1)) 0 n
    · rw [if_pos (e3.mpr h1), if_pos h1]
    · rw [if_neg (fun z => h1 (e3.mp z)), if_neg h1]
  refine ⟨?_, q, ?_⟩
  · unfold mN
    split <;> omega
  · rw [e2, ← q]
    rfl
/-! four points matched -/
theorem fre_one {χ : tC} {n a b c d : Nat} (w : WS χ n) (h7 : n ≤ 7) (ha : a < n) (hb : b < n) (hc : c < n) (hd : d < n) (ab : a < b) (cd : c < d) : fre χ n (0 ||| one (sx a b)) c d = !qcross χ c d a b := by
  have hs := sx_lt (i := a) (j := b) (by omega) (by omega) (by omega)
  have hbit : ∀ q, bt (0 ||| one (sx a b)) q = decide (q = sx a b) := fun q => by rw [b_or, b_0, bt_one (by omega)]; rfl
  rw [Bool.eq_iff_iff, fre_iff]
  constructor
  · intro z
    rw [z a b ab hb (by rw [hbit]; simp)]
    rfl
  · intro z k l kl hl hk
    rw [hbit] at hk
    have e := sx_un (a := k) (b := l) (c := a) (d := b) (by omega) (by omega) (by omega) (by omega) (by omega) (by omega) (by simpa using hk)
    rcases e with ⟨rfl, rfl⟩ | ⟨e1, e2⟩
    · simpa using z
    · omega
theorem CW_two {χ : tC} {n a b : Nat} {S T : Int32} (ab : a < b) (hb : b < 7) (hS : ∀ q, q < 32 → bt S q = (decide (q = a) || decide (q = b))) : CW χ n 2 S T = bn (fre χ n T a b) := by
  have hl : low S = a := by
    have hs : sm S 7 := fun i hi => by
      by_cases h32 : i < 32
      · rw [hS i h32]; simp; omega
      · exact b_big (by omega)
    have h0 : pc S ≠ 0 := fun z => by
      rw [pc_7 (n := 7) (by decide) hs] at z
      have lt := cB_lt (f := fun _ => false) (g := bt S) 7 0 (fun _ _ _ e => by cases e) ⟨a, Nat.zero_le _, by omega, rfl, by rw [hS a (by omega)]; simp⟩
      omega
    obtain ⟨l1, l2⟩ := low_in (n := 7) (by decide) hs h0
    have l3 := low_min (f := bt S) 7 0 0 a (Nat.zero_le _) (by omega) (by rw [hS a (by omega)]; simp) rfl
    rw [hS _ (by omega)] at l2
    have l3 : low S ≤ a := l3
    simp at l2
    omega
  rw [CW_s, hl]
  have e : ∀ q, q < 7 → (if bt (rmv S a) q = true then (if fre χ n T a q = true then CW χ n 0 (rmv (rmv S a) q) (T ||| one (sx a q)) else 0) else 0) = if q = b then bn (fre χ n T a b) else 0 := fun q hq => by
    rw [rmv_bt (by omega) (by omega), hS q (by omega)]
    by_cases h1 : q = b
    · subst h1
      rw [if_pos (by simp; omega), if_pos rfl]
      unfold bn
      rfl
    · rw [if_neg h1, if_neg (by simp; omega)]
  rw [sB_ext (g := fun q => if q = b then bn (fre χ n T a b) else 0) 7 0 fun q _ hq => e q (by omega)]
  exact sB_at 7 0 (Nat.zero_le _) (by omega)
def q4s (i j k l : Nat) : Int32 := (((1 <<< (nI i &&& 31)) ||| (1 <<< (nI j &&& 31))) ||| (1 <<< (nI k &&& 31))) ||| (1 <<< (nI l &&& 31))
theorem q4s_bt {i j k l q : Nat} (hi : i < 7) (hj : j < 7) (hk : k < 7) (hl : l < 7) : bt (q4s i j k l) q = (decide (q = i) || decide (q = j) || decide (q = k) || decide (q = l)) := by
  show bt (((one i ||| one j) ||| one k) ||| one l) q = _
  rw [b_or, b_or, b_or, bt_one (by omega), bt_one (by omega), bt_one (by omega), bt_one (by omega)]
theorem q4s_ok0 : ((List.range 8).all fun n => (List.range n).all fun l => (List.range l).all fun k => (List.range k).all fun j => (List.range j).all fun i => !decide (q4s i j k l < 0) && decide (q4s i j k l ≤ one n - 1) && decide (pc (q4s i j k l) = 4)) = true := by decide +kernel
theorem q4s_ok {n l k j i : Nat} (hn : n < 8) (hl : l < n) (kl : k < l) (jk : j < k) (ij : i < j) : ¬ q4s i j k l < 0 ∧ q4s i j k l ≤ one n - 1 ∧ pc (q4s i j k l) = 4 := by
  have f : ∀ {n : Nat} {P : Nat → Bool}, (List.range n).all P = true → ∀ x, x < n → P x = true := fun e x hx => List.all_eq_true.mp e x (List.mem_range.mpr hx)
  have e := f (f (f (f (f q4s_ok0 n hn) l hl) k kl) j jk) i ij
  simp only [Bool.and_eq_true, Bool.not_eq_true', decide_eq_true_eq, decide_eq_false_iff_not] at e
  exact ⟨e.1.1, e.1.2, e.2⟩
theorem CW_four {χ : tC} {n i j k l : Nat} (w : WS χ n) (h7 : n ≤ 7) (ij : i < j) (jk : j < k) (kl : k < l) (hl : l < n) : CW χ n (pc (q4s i j k l)) (q4s i j k l) 0 + its χ i j k l = 3 := by
  obtain ⟨-, -, h4⟩ := q4s_ok (show n < 8 by omega) hl kl jk ij
  have hS : ∀ q, bt (q4s i j k l) q = (decide (q = i) || decide (q = j) || decide (q = k) || decide (q = l)) := fun q => q4s_bt (by omega) (by omega) (by omega) (by omega)
  rw [h4]
  have hs : sm (q4s i j k l) 7 := fun q hq => by rw [hS]; simp; omega
  have hl0 : low (q4s i j k l) = i := by
    obtain ⟨l1, l2⟩ := low_in (n := 7) (by decide) hs (by rw [h4]; decide)
    have l3 := low_min (f := bt (q4s i j k l)) 7 0 0 i (Nat.zero_le _) (by omega) (by rw [hS]; simp) rfl
    rw [hS] at l2
    have l3 : low (q4s i j k l) ≤ i := l3
    simp at l2
    omega
  rw [show (4 : Nat) = 2 + 2 from rfl, CW_s, hl0]
  have two : ∀ a b c, (a = j ∧ b = k ∧ c = l) ∨ (a = k ∧ b = j ∧ c = l) ∨ (a = l ∧ b = j ∧ c = k) → CW χ n 2 (rmv (rmv (q4s i j k l) i) a) (0 ||| one (sx i a)) = bn (!qcross χ i a b c) := fun a b c e => by
    have r : ∀ q, q < 32 → bt (rmv (rmv (q4s i j k l) i) a) q = (decide (q = b) || decide (q = c)) := fun q hq => by
      rw [rmv_bt (by omega) hq, rmv_bt (by omega) hq, hS, Bool.eq_iff_iff]
      simp only [Bool.and_eq_true, Bool.or_eq_true, Bool.not_eq_true', decide_eq_true_eq, decide_eq_false_iff_not]
      omega
    rw [CW_two (a := b) (b := c) (by omega) (by omega) r, fre_one w h7 (by omega) (by omega) (by omega) (by omega) (by omega) (by omega), qcross_pr]
  have e : ∀ q, q < 7 → (if bt (rmv (q4s i j k l) i) q = true then (if fre χ n 0 i q = true then CW χ n 2 (rmv (rmv (q4s i j k l) i) q) (0 ||| one (sx i q)) else 0) else 0) = (if q = j then bn (!qcross χ i j k l) else 0) + ((if q = k then bn (!qcross χ i k j l) else 0) + (if q = l then bn (!qcross χ i l j k) else 0)) := fun q hq => by
    rw [rmv_bt (by omega) (by omega), hS, fre_0]
    by_cases h1 : q = j
    · subst h1
      rw [if_pos (by simp; omega), if_pos rfl, if_pos rfl, if_neg (by omega), if_neg (by omega), two q k l (Or.inl ⟨rfl, rfl, rfl⟩)]
      omega
    · by_cases h2 : q = k
      · subst h2
        rw [if_pos (by simp; omega), if_pos rfl, if_neg h1, if_pos rfl, if_neg (by omega), two q j l (Or.inr (Or.inl ⟨rfl, rfl, rfl⟩))]
        omega
      · by_cases h3 : q = l
        · subst h3
          rw [if_pos (by simp; omega), if_pos rfl, if_neg h1, if_neg h2, if_pos rfl, two q j k (Or.inr (Or.inr ⟨rfl, rfl, rfl⟩))]
          omega
        · rw [if_neg (by simp; omega), if_neg h1, if_neg h2, if_neg h3]
  rw [sB_ext (g := fun q => (if q = j then bn (!qcross χ i j k l) else 0) + ((if q = k then bn (!qcross χ i k j l) else 0) + (if q = l then bn (!qcross χ i l j k) else 0))) 7 0 fun q _ hq => e q (by omega), sB_add, sB_add, sB_at 7 0 (Nat.zero_le _) (by omega), sB_at 7 0 (Nat.zero_le _) (by omega), sB_at 7 0 (Nat.zero_le _) (by omega)]
  unfold its
  cases qcross χ i j k l <;> cases qcross χ i k j l <;> cases qcross χ i l j k <;> rfl
