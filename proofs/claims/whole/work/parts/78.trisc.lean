/-! ===== triangulations: the class ===== -/
def nseg (n : Nat) : Nat := n * (n - 1) / 2
/-- whether a set is plane and none can be added -/
def WH (χ : tC) (n : Nat) (X : Int32) : Bool := aB (fun i => aB (fun j => bt X (sx i j) == fre χ n X i j) (i + 1) (n - (i + 1))) 0 n
theorem WH_iff {χ : tC} {n : Nat} {X : Int32} : WH χ n X = true ↔ ∀ i j, i < j → j < n → (bt X (sx i j) = true ↔ fre χ n X i j = true) := by
  unfold WH
  rw [aB_iff]
  constructor
  · intro h i j h1 h2
    have := (aB_iff _ _ _).mp (h i (by omega) (by omega)) j (by omega) (by omega)
    rw [beq_iff_eq] at this
    rw [this]
  · intro h i _ _
    refine (aB_iff _ _ _).mpr fun j _ _ => ?_
    rw [beq_iff_eq, Bool.eq_iff_iff]
    exact h i j (by omega) (by omega)
/-- a sum over all ways to add some of a list -/
def SS (χ : tC) (n : Nat) : List Nat → Int32 → Nat
  | [], X => bn (WH χ n X)
  | p :: L, X => SS χ n L (X ||| one p) + SS χ n L X
theorem or_c (x y z : Int32) : x ||| y ||| z = x ||| z ||| y := b_ext fun i _ => by
  rw [b_or, b_or, b_or, b_or, Bool.or_assoc, Bool.or_assoc, Bool.or_comm (bt y i)]
theorem SS_perm {χ : tC} {n : Nat} {L L' : List Nat} (h : L.Perm L') : ∀ X, SS χ n L X = SS χ n L' X := by
  induction h with
  | nil => intro X; rfl
  | cons p _ ih => intro X; show SS χ n _ _ + SS χ n _ _ = SS χ n _ _ + SS χ n _ _; rw [ih, ih]
  | swap p q L =>
    intro X
    show SS χ n L (X ||| one q ||| one p) + SS χ n L (X ||| one q) + (SS χ n L (X ||| one p) + SS χ n L X) = SS χ n L (X ||| one p ||| one q) + SS χ n L (X ||| one p) + (SS χ n L (X ||| one q) + SS χ n L X)
    rw [or_c X (one q) (one p)]
    omega
  | trans _ _ i1 i2 => intro X; rw [i1, i2]
theorem SS_0 {χ : tC} {n : Nat} {P : Int32 → Prop} {R : Nat → Prop} (hP : ∀ X, P X → WH χ n X = false) (hs : ∀ X p, P X → R p → P (X ||| one p)) : ∀ L X, (∀ p, p ∈ L → R p) → P X → SS χ n L X = 0 := by
  intro L
  induction L with
  | nil => intro X _ h; show bn (WH χ n X) = 0; rw [hP X h]; rfl
  | cons p L ih =>
    intro X hr h
    show SS χ n L (X ||| one p) + SS χ n L X = 0
    rw [ih _ (fun q hq => hr q (List.mem_cons_of_mem _ hq)) (hs X p h (hr p List.mem_cons_self)), ih _ (fun q hq => hr q (List.mem_cons_of_mem _ hq)) h]
theorem nseg_f : ∀ n, n < 8 → nseg n ≤ 21 ∧ (∀ p, p < nseg n → sx (sxi p).1 (sxi p).2 = p ∧ (sxi p).1 < (sxi p).2 ∧ (sxi p).2 < n) ∧ (∀ j, j < n → ∀ i, i < j → sx i j < nseg n) := by decide +kernel
def FW (χ : tC) (n : Nat) (M : Nat → Int32) : Nat → Nat → Int32 → Int32 → Nat
  | 0, _, T, B => if T ||| B = one (nseg n) - 1 then 1 else 0
  | m + 1, t, T, B => (if bt B t = false then FW χ n M m (t + 1) (T ||| one t) (B ||| M t) else 0) + (if M t = 0 then 0 else FW χ n M m (t + 1) T B)
theorem lev30 {t : Nat} {T B : Int32} (hk : t < 30) : t_lev tq_30 [.ref 9, .int (nI t), .int T, .int B] = 31 - t := by
  show 1 + (30 - (nI t).toNatClampNeg) = 31 - t
  rw [nC (by omega)]
  omega
theorem m_30 {h : tH} {M : Nat → Int32} {χ : tC} {n : Nat} (hM : h.1 10 = M) (h9 : h.1 9 1 = nI n) (h7 : n ≤ 7) : ∀ m t T B, t + m = nseg n → ∀ Q, AM 30 [.ref 9, .int (nI t), .int T, .int B] h Q = Q (RI (nI (FW χ n M m t T B))) h := by
  have n21 := (nseg_f n (by omega)).1
  intro m
  induction m with
  | zero =>
    intro t T B ht Q
    have : t = nseg n := by omega
    subst this
    rw [am_30, lev30 (by omega), s_30_0, h9, nI_hf h7, show n * (n - 1) / 2 = nseg n from rfl, if_pos (Int32.le_refl _), s_30_27, m_firstOnes]
    rw [show (t_lev tq_3 [.int (nI (nseg n))] < 31 - nseg n) = True from eq_true (show 0 < 31 - nseg n by omega)]
    simp only [t_ob_9', true_and, t_ki]
    show Q (RI (if ¬ T ||| B = one (nseg n) - 1 then 0 else 1)) h = Q (RI (nI (if T ||| B = one (nseg n) - 1 then 1 else 0))) h
    by_cases e : T ||| B = one (nseg n) - 1
    · rw [if_neg (fun z => z e), if_pos e]; rfl
    · rw [if_pos e, if_neg e]; rfl
  | succ m ih =>
    intro t T B ht Q
    have e21 : (nI t < (21 : Int32)) = (t < 21) := nI_lt' (a := t) (b := 21) (by omega) (by omega)
    have one_t : (1 : Int32) <<< (nI t &&& 31) = one t := rfl
    rw [am_30, lev30 (by omega), s_30_0, h9, nI_hf h7, show n * (n - 1) / 2 = nseg n from rfl]
    simp (disch := omega) only [t_ob_9', true_and, nI_le', m_get t_ar_10', zg_n (show t < 21 by omega) (show 21 < 5000 by decide), hM, t_ki, one_t, nI_1, s_30_89, s_30_108]
    rw [if_neg (by omega), if_pos (by rw [e21]; omega), show (t_lev tq_6 [.ref 10, .int (nI t)] < 31 - t) = True from eq_true (show 0 < 31 - t by omega), true_and]
    have hb := has_iff (x := B) (p := t) (by omega)
    have k2 : ∀ s, (if M t = 0 then Q (RI (nI s)) h else t_lev tq_30 [.ref 9, .int (nI (t + 1)), .int T, .int B] < 31 - t ∧ AM 30 [.ref 9, .int (nI (t + 1)), .int T, .int B] h (t_ki (fun a1 h1 => Q (RI (nI s + a1)) h1) Q)) = Q (RI (nI (s + (if M t = 0 then 0 else FW χ n M m (t + 1) T B)))) h := fun s => by
      by_cases e : M t = 0
      · rw [if_pos e, if_pos e, Nat.add_zero]
      · rw [if_neg e, if_neg e, lev30 (by omega), ih (t + 1) T B (by omega), show (31 - (t + 1) < 31 - t) = True from eq_true (by omega), true_and]
        simp only [t_ki, nI_add]
    show _ = Q (RI (nI ((if bt B t = false then FW χ n M m (t + 1) (T ||| one t) (B ||| M t) else 0) + (if M t = 0 then 0 else FW χ n M m (t + 1) T B)))) h
    by_cases e : bt B t = false
    · rw [if_neg (by rw [hb]; exact fun z => z e), if_pos e, lev30 (by omega), ih (t + 1) _ _ (by omega), show (31 - (t + 1) < 31 - t) = True from eq_true (by omega), true_and]
      simp only [t_ki]
      rw [Int32.zero_add]
      exact k2 _
    · rw [if_pos (by rw [hb]; exact e), if_neg e]
      exact k2 0
/-- what the class counts -/
theorem FW_SS {χ : tC} {n : Nat} {M : Nat → Int32} (r : RM M χ n) (w : WS χ n) (h7 : n ≤ 7) : ∀ m t T B, t + m = nseg n → (∀ q, bt T q = true → q < t) → (∀ i j, i < j → j < n → (bt B (sx i j) = true ↔ fre χ n T i j = false)) → (∀ q, bt B q = true → q < nseg n) → (∀ i j, i < j → j < n → bt T (sx i j) = true → fre χ n T i j = true) →
    FW χ n M m t T B = SS χ n (List.range' t m) T := by
  obtain ⟨n21, nf, nlt⟩ := nseg_f n (by omega)
  intro m
  induction m with
  | zero =>
    intro t T B ht hT hB hB2 hpl
    show (if T ||| B = one (nseg n) - 1 then 1 else 0) = bn (WH χ n T)
    have bt_full : ∀ i, i < 32 → bt (one (nseg n) - 1) i = decide (i < nseg n) := by
      have hh : ∀ c, c < 22 → ∀ i, i < 32 → bt (one c - 1) i = decide (i < c) := by decide +kernel
      exact hh _ (by omega)
    have key : (T ||| B = one (nseg n) - 1) ↔ WH χ n T = true := by
      rw [WH_iff]
      constructor
      · intro e i j hij hj
        have hb := hB i j hij hj
        have l := nlt j hj i hij
        have := congrArg (fun z => bt z (sx i j)) e
        simp only [b_or, bt_full _ (show sx i j < 32 by omega), decide_eq_true l, Bool.or_eq_true] at this
        constructor
        · exact hpl i j hij hj
        · intro f
          rcases this with z | z
          · exact z
          · rw [hb, f] at z; cases z
      · intro e
        refine b_ext fun q hq => ?_
        rw [b_or, bt_full q hq]
        by_cases c : q < nseg n
        · rw [decide_eq_true c, Bool.or_eq_true]
          obtain ⟨e1, e2, e3⟩ := nf q c
          have g := e _ _ e2 e3
          have hb := hB _ _ e2 e3
          rw [e1] at g hb
          cases z : bt T q with
          | true => exact Or.inl rfl
          | false =>
            refine Or.inr (hb.mpr ?_)
            rw [z] at g
            cases zz : fre χ n T (sxi q).1 (sxi q).2 with
            | false => rfl
            | true => exact absurd (g.mpr zz) (by decide)
        · rw [decide_eq_false c, Bool.or_eq_false_iff]
          constructor
          · cases z : bt T q with
            | false => rfl
            | true => have := hT q z; omega
          · cases z : bt B q with
            | false => rfl
            | true => have := hB2 q z; omega
    by_cases c : T ||| B = one (nseg n) - 1
    · rw [if_pos c, key.mp c]; rfl
    · rw [if_neg c]
      have : WH χ n T = false := by
        cases z : WH χ n T with
        | false => rfl
        | true => exact absurd (key.mpr z) c
      rw [this]; rfl
  | succ m ih =>
    intro t T B ht hT hB hB2 hpl
    obtain ⟨e1, e2, e3⟩ := nf t (by omega)
    obtain ⟨i, hi⟩ : ∃ i, i = (sxi t).1 := ⟨_, rfl⟩
    obtain ⟨j, hj⟩ : ∃ j, j = (sxi t).2 := ⟨_, rfl⟩
    rw [← hi, ← hj] at e1 e2
    rw [← hj] at e3
    have tT : bt T t = false := by
      cases z : bt T t with
      | false => rfl
      | true => have := hT t z; omega
    have b1 : ∀ q, bt (T ||| one t) q = true ↔ bt T q = true ∨ q = t := fun q => by rw [b_or, bt_one (by omega), Bool.or_eq_true, decide_eq_true_eq]
    -- a segment that crosses one of the set
    have up : ∀ X Y : Int32, (∀ q, bt X q = true → bt Y q = true) → ∀ a b, fre χ n X a b = false → fre χ n Y a b = false := fun X Y hh a b f => by
      cases z : fre χ n Y a b with
      | false => rfl
      | true =>
        have : fre χ n X a b = true := fre_iff.mpr fun k l k1 k2 k3 => fre_iff.mp z k l k1 k2 (hh _ k3)
        rw [this] at f; cases f
    show (if bt B t = false then FW χ n M m (t + 1) (T ||| one t) (B ||| M t) else 0) + (if M t = 0 then 0 else FW χ n M m (t + 1) T B) = SS χ n (List.range' (t + 1) m) (T ||| one t) + SS χ n (List.range' (t + 1) m) T
    have p1 : (if bt B t = false then FW χ n M m (t + 1) (T ||| one t) (B ||| M t) else 0) = SS χ n (List.range' (t + 1) m) (T ||| one t) := by
      by_cases c : bt B t = false
      · rw [if_pos c]
        have fij : fre χ n T i j = true := by
          have := hB i j e2 e3
          rw [e1, c] at this
          cases z : fre χ n T i j with
          | true => rfl
          | false => exact absurd (this.mpr z) (by decide)
        -- the new set's crossings
        have fn : ∀ a b, a < n → b < n → a ≠ b → (fre χ n (T ||| one t) a b = true ↔ fre χ n T a b = true ∧ qcross χ a b i j = false) := fun a b ha hb ab => by
          rw [fre_iff, fre_iff]
          constructor
          · intro hh
            exact ⟨fun k l k1 k2 k3 => hh k l k1 k2 ((b1 _).mpr (Or.inl k3)), hh i j e2 e3 ((b1 _).mpr (Or.inr e1))⟩
          · rintro ⟨hh, hq⟩ k l k1 k2 k3
            rcases (b1 _).mp k3 with z | z
            · exact hh k l k1 k2 z
            · obtain ⟨u, v⟩ := sx_inj (show l < 7 by omega) (show j < 7 by omega) k1 e2 (z.trans e1.symm)
              rw [u, v]; exact hq
        refine ih (t + 1) (T ||| one t) (B ||| M t) (by omega) (fun q hq => ?_) (fun a b ab hb => ?_) (fun q hq => ?_) (fun a b ab hb hq => ?_)
        · rcases (b1 q).mp hq with z | z
          · have := hT q z; omega
          · omega
        · rw [b_or, r t _ (by omega), Bool.or_eq_true, hB a b ab hb, ← e1, xq_cross w h7 (by omega) e3 (by omega) hb (by omega) (by omega), qcross_s, e1]
          have f := fn a b (by omega) hb (by omega)
          constructor
          · rintro (z | z)
            · exact up _ _ (fun q hq => (b1 q).mpr (Or.inl hq)) a b z
            · cases zz : fre χ n (T ||| one t) a b with
              | false => rfl
              | true => rw [(f.mp zz).2] at z; cases z
          · intro z
            cases zz : fre χ n T a b with
            | false => exact Or.inl rfl
            | true =>
              refine Or.inr ?_
              cases zq : qcross χ a b i j with
              | true => rfl
              | false => rw [f.mpr ⟨zz, zq⟩] at z; cases z
        · rw [b_or, Bool.or_eq_true] at hq
          rcases hq with z | z
          · exact hB2 q z
          · rw [r t _ (by omega)] at z
            apply Classical.byContradiction
            intro zz
            rw [xq_big h7 (Or.inr (show n * (n - 1) / 2 ≤ q from by unfold nseg at zz; omega))] at z
            cases z
        · rw [fn a b (by omega) hb (by omega)]
          rcases (b1 _).mp hq with z | z
          · refine ⟨hpl a b ab hb z, ?_⟩
            rw [qcross_s]
            exact fre_iff.mp fij a b ab hb z
          · obtain ⟨u, v⟩ := sx_inj (show b < 7 by omega) (show j < 7 by omega) ab e2 (z.trans e1.symm)
            rw [u, v]
            refine ⟨fij, ?_⟩
            rw [← Bool.not_eq_true, qcross_iff]
            rintro ⟨⟨-, d, -⟩, -⟩
            exact d rfl
      · rw [if_neg c]
        have c' : bt B t = true := by simpa using c
        have fij : fre χ n T i j = false := by
          have := hB i j e2 e3
          rw [e1] at this
          exact this.mp c'
        refine (SS_0 (P := fun X => bt X t = true ∧ ∀ q, bt T q = true → bt X q = true) (R := fun p => p < 32) (fun X hX => ?_) (fun X p hX hp => ?_) _ _ (fun p hp => ?_) ⟨(b1 t).mpr (Or.inr rfl), fun q hq => (b1 q).mpr (Or.inl hq)⟩).symm
        · cases z : WH χ n X with
          | false => rfl
          | true =>
            have := (WH_iff.mp z i j e2 e3).mp (by rw [e1]; exact hX.1)
            rw [up T X hX.2 i j fij] at this; cases this
        · refine ⟨?_, fun q hq => ?_⟩
          · rw [b_or, hX.1]; rfl
          · rw [b_or, hX.2 q hq]; rfl
        · have := List.mem_range'_1.mp hp; omega
    have p2 : (if M t = 0 then 0 else FW χ n M m (t + 1) T B) = SS χ n (List.range' (t + 1) m) T := by
      by_cases c : M t = 0
      · rw [if_pos c]
        refine (SS_0 (P := fun X => bt X t = false) (R := fun p => p ≠ t ∧ p < 32) (fun X hX => ?_) (fun X p hX hp => ?_) _ _ (fun p hp => ?_) tT).symm
        · cases z : WH χ n X with
          | false => rfl
          | true =>
            have f : fre χ n X i j = true := by
              rw [← cro_iff (T := X) r w h7 (show i < n by omega) e3 (show i ≠ j by omega), e1, c, Int32.zero_and]
              rfl
            have := (WH_iff.mp z i j e2 e3).mpr f
            rw [e1, hX] at this; cases this
        · rw [b_or, hX, bt_one hp.2, decide_eq_false (fun z => hp.1 z.symm)]; rfl
        · have := List.mem_range'_1.mp hp
          exact ⟨by omega, by omega⟩
      · rw [if_neg c]
        exact ih (t + 1) T B (by omega) (fun q hq => by have := hT q hq; omega) hB hB2 hpl
    rw [p1, p2]
