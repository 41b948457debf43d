/-! ===== triangulations: the model ===== -/
def pos (n i j : Nat) : Nat := i * (2 * n - i - 1) / 2 + (j - i - 1)
def prL (n : Nat) : List (Nat × Nat) := (List.range n).flatMap fun i => (List.range' (i + 1) (n - (i + 1))).map fun j => (i, j)
def sgn (n k : Nat) : Nat × Nat := (prL n).getD k (0, 0)
theorem pos_f : ∀ n, n < 7 → (∀ j, j < n → ∀ i, i < j → pos n i j < nseg n ∧ sgn n (pos n i j) = (i, j)) ∧ (∀ k, k < nseg n → (sgn n k).1 < (sgn n k).2 ∧ (sgn n k).2 < n ∧ pos n (sgn n k).1 (sgn n k).2 = k) ∧
    (∀ j, j < n → ∀ i, i < j → pos n i (j + 1) = pos n i j + 1) ∧ (∀ i, i < n → pos n (i + 1) (i + 2) = pos n i n) ∧ pos n 0 1 = 0 ∧ (0 < n → pos n n (n + 1) = nseg n) ∧ nseg n ≤ 15 := by decide +kernel
theorem sg_perm : ∀ n, n < 7 → ((List.range' 0 (nseg n)).map fun k => sx (sgn n k).1 (sgn n k).2).isPerm (List.range' 0 (nseg n)) = true := by decide +kernel
/-- the set of a code -/
def XS : List Nat → Nat → Int32 → Int32
  | [], _, X => X
  | p :: L, s, X => XS L (s / 2) (if s % 2 = 1 then X ||| one p else X)
theorem XS_sum {χ : tC} {n : Nat} : ∀ L X, sB (fun s => bn (WH χ n (XS L s X))) 0 (2 ^ L.length) = SS χ n L X := by
  intro L
  induction L with
  | nil => intro X; show bn (WH χ n X) + 0 = bn (WH χ n X); rw [Nat.add_zero]
  | cons p L ih =>
    intro X
    have e := sB_rad 2 (fun r q => bn (WH χ n (XS L q (if r = 1 then X ||| one p else X)))) (2 ^ L.length)
    rw [List.length_cons, Nat.pow_succ, Nat.mul_comm]
    refine Eq.trans e ?_
    show sB (fun q => bn (WH χ n (XS L q (if (0 : Nat) = 1 then X ||| one p else X)))) 0 (2 ^ L.length) + (sB (fun q => bn (WH χ n (XS L q (if (0 : Nat) + 1 = 1 then X ||| one p else X)))) 0 (2 ^ L.length) + 0) = SS χ n L (X ||| one p) + SS χ n L X
    rw [if_neg (by omega), if_pos (by omega), ih, ih]
    omega
theorem XS_bt : ∀ (L : List Nat) s X q, (∀ p, p ∈ L → p < 32) → (bt (XS L s X) q = true ↔ bt X q = true ∨ ∃ k, L[k]? = some q ∧ s.testBit k = true) := by
  intro L
  induction L with
  | nil => intro s X q _; exact ⟨fun h => Or.inl h, fun h => by rcases h with h | ⟨k, h, _⟩; exact h; cases h⟩
  | cons p L ih =>
    intro s X q hp
    have h32 := hp p List.mem_cons_self
    show bt (XS L (s / 2) (if s % 2 = 1 then X ||| one p else X)) q = true ↔ _
    rw [ih _ _ _ fun x hx => hp x (List.mem_cons_of_mem _ hx)]
    have b0 : s.testBit 0 = decide (s % 2 = 1) := Nat.testBit_zero s
    have bs' : ∀ k, (s / 2).testBit k = s.testBit (k + 1) := fun k => (Nat.testBit_add_one s k).symm
    constructor
    · rintro (h | ⟨k, h1, h2⟩)
      · by_cases c : s % 2 = 1
        · rw [if_pos c, b_or, bt_one h32, Bool.or_eq_true, decide_eq_true_eq] at h
          rcases h with h | h
          · exact Or.inl h
          · exact Or.inr ⟨0, by rw [h]; rfl, by rw [b0]; simpa using c⟩
        · rw [if_neg c] at h; exact Or.inl h
      · exact Or.inr ⟨k + 1, by simpa using h1, by rw [← bs']; exact h2⟩
    · rintro (h | ⟨k, h1, h2⟩)
      · refine Or.inl ?_
        by_cases c : s % 2 = 1
        · rw [if_pos c, b_or, h]; rfl
        · rw [if_neg c]; exact h
      · cases k with
        | zero =>
          have e : p = q := by simpa using h1
          rw [b0, decide_eq_true_eq] at h2
          refine Or.inl ?_
          rw [if_pos h2, b_or, bt_one h32, decide_eq_true e.symm, Bool.or_true]
        | succ k => exact Or.inr ⟨k, by simpa using h1, by rw [bs']; exact h2⟩
def PI (n : Nat) : List Nat := (List.range' 0 (nseg n)).map fun k => sx (sgn n k).1 (sgn n k).2
/-- the segments of a set in the model's way to number them -/
theorem XS_pos {n : Nat} (h7 : n < 7) {s i j : Nat} (hij : i < j) (hj : j < n) : bt (XS (PI n) s 0) (sx i j) = s.testBit (pos n i j) := by
  obtain ⟨f1, f2, -⟩ := pos_f n h7
  obtain ⟨p1, p2⟩ := f1 j hj i hij
  have mem : ∀ p, p ∈ PI n → p < 32 := fun p hp => by
    obtain ⟨k, hk, rfl⟩ := List.mem_map.mp hp
    have := List.mem_range'_1.mp hk
    obtain ⟨g1, g2, g3⟩ := f2 k (by omega)
    have := sx_lt (show (sgn n k).1 < 7 by omega) (show (sgn n k).2 < 7 by omega) (by omega)
    omega
  have at' : ∀ k q, (PI n)[k]? = some q ↔ k < nseg n ∧ q = sx (sgn n k).1 (sgn n k).2 := fun k q => by
    unfold PI
    rw [List.getElem?_map]
    by_cases hk : k < nseg n
    · rw [List.getElem?_range' hk, Nat.one_mul, Nat.zero_add]
      simp [hk]
      exact ⟨fun z => z.symm, fun z => z.symm⟩
    · rw [List.getElem?_eq_none (by rw [List.length_range']; omega)]
      simp [hk]
  rw [Bool.eq_iff_iff, XS_bt _ _ _ _ mem, b_0]
  constructor
  · rintro (h | ⟨k, h1, h2⟩)
    · cases h
    · obtain ⟨hk, e⟩ := (at' k _).mp h1
      obtain ⟨g1, g2, g3⟩ := f2 k hk
      obtain ⟨u, v⟩ := sx_inj (show j < 7 by omega) (show (sgn n k).2 < 7 by omega) hij g1 e
      rw [u, v, g3]
      exact h2
  · intro h
    exact Or.inr ⟨pos n i j, (at' _ _).mpr ⟨p1, by rw [p2]⟩, h⟩
theorem fd2_in {α : Type} {f : Nat → Nat → α → α} {n : Nat} {I : Nat → Nat → α → Prop} (h : ∀ i j a, i < j → j < n → I i j a → I i (j + 1) (f i j a)) (e : ∀ i a, i < n → I i n a → I (i + 1) (i + 2) a) (a : α) (h0 : I 0 1 a) : I n (n + 1) (fd2 f n a) := by
  have := fd_inv (I := fun i a => I i (i + 1) a) (f := fun i a => fd (fun j a => f i j a) (i + 1) (n - (i + 1)) a) n 0 a h0 fun i a h1 h2 ha => by
    have hi : i < n := by omega
    have k := fd_inv (I := fun j a => I i j a) (f := fun j a => f i j a) (n - (i + 1)) (i + 1) a ha fun j a h3 h4 hj => h i j a (by omega) (by omega) hj
    rw [show i + 1 + (n - (i + 1)) = n by omega] at k
    exact e i _ hi k
  rw [Nat.zero_add] at this
  exact this
theorem lt2i {α β γ : Type} {n : Nat} {L1 : Nat → α → β → Prop} {L2 : Nat → Nat → α → γ → Prop} {E : α → Prop} {f : Nat → Nat → α → α} {I1 : Nat → α → Prop} {I2 : Nat → Nat → α → Prop}
    (e1 : ∀ a w, I1 n a → L1 n a w = E a) (s1 : ∀ i a w, i < n → I1 i a → ∃ w', L1 i a w = L2 i (i + 1) a w' ∧ I2 i (i + 1) a) (e2 : ∀ i a w, i < n → I2 i n a → ∃ w', L2 i n a w = L1 (i + 1) a w' ∧ I1 (i + 1) a)
    (s2 : ∀ i j a w, i < j → j < n → I2 i j a → ∃ w', L2 i j a w = L2 i (j + 1) (f i j a) w' ∧ I2 i (j + 1) (f i j a)) : ∀ a w, I1 0 a → L1 0 a w = E (fd2 f n a) := by
  have l2 : ∀ i, i < n → ∀ (F : α → Prop), (∀ a w, I1 (i + 1) a → L1 (i + 1) a w = F a) → ∀ m j, j + m = n → ∀ a w, (i < j ∧ I2 i j a) → L2 i j a w = F (fd (fun j a => f i j a) j m a) := fun i hi F hF =>
    lp (fun j a => i < j ∧ I2 i j a) (fun a w hI => by obtain ⟨w', e, e'⟩ := e2 i a w hi hI.2; rw [e, hF _ _ e']) fun j a w G hj hI hG => by
      obtain ⟨w', e, e'⟩ := s2 i j a w hI.1 hj hI.2
      rw [e]
      exact hG _ _ ⟨by omega, e'⟩
  have l1 : ∀ m i, i + m = n → ∀ a w, I1 i a → L1 i a w = E (fd (fun i a => fd (fun j a => f i j a) (i + 1) (n - (i + 1)) a) i m a) :=
    lp I1 e1 fun i a w G hi hI hG => by
      obtain ⟨w', e, e'⟩ := s1 i a w hi hI
      rw [e]
      exact l2 i hi G hG (n - (i + 1)) (i + 1) (by omega) a w' ⟨by omega, e'⟩
  exact fun a w hI => l1 n 0 (by omega) a w hI
/-- the rows of the segments, and of what crosses them -/
def SR (h : tH) (n : Nat) : Prop := ∀ k, k < nseg n → h.1 29 k = nI (sgn n k).1 ∧ h.1 30 k = nI (sgn n k).2
def MR (h : tH) (χ : tC) (n : Nat) : Prop := ∀ k q, k < nseg n → (bt (h.1 31 k) q = true ↔ q < nseg n ∧ qcross χ (sgn n k).1 (sgn n k).2 (sgn n q).1 (sgn n q).2 = true)
theorem n144 {h : tH} {d n : Nat} {χ : tC} (hd : d < 6) (ht : ty h d n) (hχ : tY h d = χ) (h7 : n < 7) (n0 : 0 < n) : ∃ h', fx h h' ∧ MR h' χ n ∧ ∀ Q, AM 144 [.ref 13, .int (nI d)] h Q = Q (RI (nI (nseg n))) h' := by
  obtain ⟨f1, f2, f3, f4, f5, f6, f7⟩ := pos_f n h7
  -- the segments
  obtain ⟨F, hF'⟩ : ∃ F : Nat → Nat → tH × Nat → tH × Nat, F = fun i j a => (t_I (t_I a.1 29 a.2 (nI i)) 30 a.2 (nI j), a.2 + 1) := ⟨_, rfl⟩
  obtain ⟨Iv, hIv⟩ : ∃ Iv : Nat → Nat → tH × Nat → Prop, ∀ i j a, Iv i j a ↔ (fx h a.1 ∧ (i < j → j ≤ n → a.2 = pos n i j) ∧ (n ≤ i → a.2 = nseg n) ∧ ∀ i' j', i' < j' → j' < n → (i' < i ∨ (i' = i ∧ j' < j)) → a.1.1 29 (pos n i' j') = nI i' ∧ a.1.1 30 (pos n i' j') = nI j') := ⟨_, fun _ _ _ => Iff.rfl⟩
  have hs : ∀ i j a, i < j → j < n → Iv i j a → Iv i (j + 1) (F i j a) := by
      intro i j a hij hj hI
      obtain ⟨g1, g2, g3, g4⟩ := (hIv _ _ _).mp hI
      refine (hIv _ _ _).mpr ?_
      have ap := g2 hij (by omega)
      rw [hF']
      refine ⟨fx_t g1 (fx_t (fx_I (by decide)) (fx_I (by decide))), fun _ _ => ?_, fun z => absurd z (by omega), fun i' j' h1 h2 h3 => ?_⟩
      · show a.2 + 1 = pos n i (j + 1)
        rw [ap, f3 j hj i hij]
      · show (t_I (t_I a.1 29 a.2 (nI i)) 30 a.2 (nI j)).1 29 (pos n i' j') = nI i' ∧ (t_I (t_I a.1 29 a.2 (nI i)) 30 a.2 (nI j)).1 30 (pos n i' j') = nI j'
        by_cases e : i' = i ∧ j' = j
        · rw [e.1, e.2, t_I_o (show 29 ≠ 30 by decide), t_I_at, if_pos ⟨rfl, ap.symm⟩, t_I_at, if_pos ⟨rfl, ap.symm⟩]
          exact ⟨rfl, rfl⟩
        · have ne : pos n i' j' ≠ a.2 := fun z => by
            rw [ap] at z
            have u := (f1 j' h2 i' h1).2
            rw [z, (f1 j hj i hij).2] at u
            exact e ⟨(Prod.ext_iff.mp u).1.symm, (Prod.ext_iff.mp u).2.symm⟩
          rw [t_I_o (show 29 ≠ 30 by decide), t_I_at, if_neg (fun z => ne z.2), t_I_at, if_neg (fun z => ne z.2), t_I_o (show 30 ≠ 29 by decide)]
          exact g4 i' j' h1 h2 (by omega)
  have he : ∀ i a, i < n → Iv i n a → Iv (i + 1) (i + 2) a := by
      intro i a hi hI
      obtain ⟨g1, g2, g3, g4⟩ := (hIv _ _ _).mp hI
      refine (hIv _ _ _).mpr ?_
      by_cases z : i + 1 = n
      · refine ⟨g1, fun h1 h2 => absurd h2 (by omega), fun _ => ?_, fun i' j' h1 h2 h3 => g4 i' j' h1 h2 (by omega)⟩
        have q := f4 i hi
        rw [z, show i + 2 = n + 1 by omega] at q
        rw [← f6 n0, q]
        exact g2 hi (Nat.le_refl _)
      · refine ⟨g1, fun h1 h2 => ?_, fun zz => absurd zz (by omega), fun i' j' h1 h2 h3 => g4 i' j' h1 h2 (by omega)⟩
        rw [f4 i hi]
        exact g2 hi (Nat.le_refl _)
  have h0 : Iv 0 1 (h, 0) := (hIv _ _ _).mpr ⟨fx_r h, fun _ _ => f5.symm, fun z => absurd z (by omega), fun i' j' h1 h2 h3 => absurd h3 (by omega)⟩
  have inv := fd2_in hs he (h, 0) h0
  obtain ⟨G, hG'⟩ : ∃ G, G = fd2 F n (h, 0) := ⟨_, rfl⟩
  rw [← hG', hIv] at inv
  obtain ⟨g1, -, g3, g4⟩ := inv
  have g3 := g3 (Nat.le_refl _)
  have sr : SR G.1 n := fun k hk => by
    obtain ⟨s1, s2, s3⟩ := f2 k hk
    have := g4 _ _ s1 s2 (by omega)
    rw [s3] at this
    exact this
  have tG := fx_ty g1 ht
  have yG : tY G.1 d = χ := by rw [fx_tY g1, hχ]
  -- what crosses which
  obtain ⟨bit, hbit⟩ : ∃ bit : Nat → Nat → Bool, bit = fun k q => qcross χ (sgn n k).1 (sgn n k).2 (sgn n q).1 (sgn n q).2 := ⟨_, rfl⟩
  obtain ⟨W, hW'⟩ : ∃ W : Nat → (Nat → Int32) → (Nat → Int32), W = fun k T => fd (fun q T => upd T k (T k ||| (if bit k q = true then one q else 0))) 0 (nseg n) (upd T k 0) := ⟨_, rfl⟩
  obtain ⟨R, hR'⟩ : ∃ R, R = fd W 0 (nseg n) (G.1.1 31) := ⟨_, rfl⟩
  have inn : ∀ k (T : Nat → Int32), (∀ x, x ≠ k → W k T x = T x) ∧ ∀ q, bt (W k T k) q = true ↔ q < nseg n ∧ bit k q = true := fun k T => by
    have := fd_inv (I := fun m (T' : Nat → Int32) => (∀ x, x ≠ k → T' x = T x) ∧ ∀ q, bt (T' k) q = true ↔ q < m ∧ bit k q = true) (f := fun q T => upd T k (T k ||| (if bit k q = true then one q else 0))) (nseg n) 0 (upd T k 0)
      ⟨fun x hx => by show (if x = k then (0 : Int32) else T x) = T x; rw [if_neg hx], fun q => by
        show bt (if k = k then (0 : Int32) else T k) q = true ↔ _
        rw [if_pos rfl, b_0]
        exact ⟨fun z => (nomatch z), fun z => absurd z.1 (by omega)⟩⟩
      (fun m T' m1 m2 ⟨i1, i2⟩ => ⟨fun x hx => by
        show (if x = k then _ else T' x) = T x
        rw [if_neg hx]; exact i1 x hx, fun q => by
        show bt (if k = k then T' k ||| (if bit k m = true then one m else 0) else T' k) q = true ↔ _
        rw [if_pos rfl, b_or, Bool.or_eq_true, i2]
        by_cases c : bit k m = true
        · rw [if_pos c, bt_one (by omega), decide_eq_true_eq]
          constructor
          · rintro (z | z)
            · exact ⟨by omega, z.2⟩
            · rw [z]; exact ⟨by omega, c⟩
          · rintro ⟨z1, z2⟩
            by_cases e : q = m
            · exact Or.inr e
            · exact Or.inl ⟨by omega, z2⟩
        · rw [if_neg c, b_0]
          constructor
          · rintro (z | z)
            · exact ⟨by omega, z.2⟩
            · cases z
          · rintro ⟨z1, z2⟩
            by_cases e : q = m
            · rw [e] at z2; exact absurd z2 c
            · exact Or.inl ⟨by omega, z2⟩⟩)
    rw [Nat.zero_add] at this
    rw [hW']
    exact this
  have mr : ∀ k q, k < nseg n → (bt (R k) q = true ↔ q < nseg n ∧ bit k q = true) := by
    have := fd_inv (I := fun m (T : Nat → Int32) => ∀ k q, k < m → (bt (T k) q = true ↔ q < nseg n ∧ bit k q = true)) (f := W) (nseg n) 0 (G.1.1 31) (fun k q hk => absurd hk (by omega)) fun m T m1 m2 hI k q hk => by
      by_cases e : k = m
      · rw [e]; exact (inn m T).2 q
      · rw [(inn m T).1 k e]; exact hI k q (by omega)
    rw [Nat.zero_add, ← hR'] at this
    exact this
  refine ⟨hT G.1 31 R, fx_t g1 ⟨fun a b e => hT_o (by omega) b, rfl⟩, fun k q hk => ?_, fun Q => ?_⟩
  · rw [hT_at, mr k q hk, hbit]
  have fin : ∀ (a : tH × Nat) (w : Value), Iv n (n + 1) a → AX 3 144 62 [.ref 13, .int (nI d), .int (nI a.2), .int (nI 0), w] [] a.1 Q = Q (RI (nI (nseg n))) (hT a.1 31 (fd W 0 (nseg n) (a.1.1 31))) := by
    intro a w hI
    obtain ⟨i1, -, i3, i4⟩ := (hIv _ _ _).mp hI
    rw [i3 (Nat.le_refl _)]
    have srT : ∀ T k, k < nseg n → (hT a.1 31 T).1 29 k = nI (sgn n k).1 ∧ (hT a.1 31 T).1 30 k = nI (sgn n k).2 := fun T k hk => by
      obtain ⟨s1, s2, s3⟩ := f2 k hk
      have := i4 _ _ s1 s2 (by omega)
      rw [s3] at this
      rw [hT_o (by decide), hT_o (by decide)]
      exact this
    have yT : ∀ T, tY (hT a.1 31 T) d = χ := fun T => by
      rw [← hχ, ← fx_tY i1]
      exact tY_o fun c _ => hT_o (by decide) _
    have li := fun (k : Nat) (hk : k < nseg n) (F : (Nat → Int32) → Prop) (hF : ∀ T w, AX 3 144 62 [.ref 13, .int (nI d), .int (nI (nseg n)), .int (nI (k + 1)), w] [] (hT a.1 31 T) Q = F T) =>
      lp (α := Nat → Int32) (β := Unit) (L := fun q T _ => AX 3 144 77 [.ref 13, .int (nI d), .int (nI (nseg n)), .int (nI k), .int (nI q)] [] (hT a.1 31 T) Q) (E := F) (f := fun q T => upd T k (T k ||| (if bit k q = true then one q else 0))) (n := nseg n) (fun _ _ => True)
        (fun T w _ => by rw [s_144_77, if_pos (Int32.le_refl _), nI_1, hF])
        (fun q T w F hq _ hF => by
          obtain ⟨s1, s2, s3⟩ := f2 k hk
          obtain ⟨q1, q2, q3⟩ := f2 q hq
          have eo : (1 : Int32) <<< (nI q &&& 31) = one q := rfl
          rw [s_144_77]
          simp (disch := omega) only [nI_le', t_ob_13, true_and, vI (show k < 15 by omega) (show 15 < 10000 by decide), vI (show q < 15 by omega) (show 15 < 10000 by decide), nC, (srT T k hk).1, (srT T k hk).2, (srT T q hq).1, (srT T q hq).2, n142 (show d < 7 by omega) (show (sgn n k).1 < 7 by omega) (show (sgn n k).2 < 7 by omega) (show (sgn n q).1 < 7 by omega) (show (sgn n q).2 < 7 by omega), yT, t_ki, zb_0, eo, nI_1, hT_at, hT_I]
          rw [if_neg (by omega)]
          have eb : bit k q = qcross χ (sgn n k).1 (sgn n k).2 (sgn n q).1 (sgn n q).2 := by rw [hbit]
          rw [← eb]
          have := hF (upd T k (T k ||| (if bit k q = true then one q else 0))) () trivial
          cases e : bit k q with
          | true => rw [e] at this; simpa using this
          | false => rw [e] at this; simpa using this)
    have lo := lp (α := Nat → Int32) (β := Value) (L := fun k T w => AX 3 144 62 [.ref 13, .int (nI d), .int (nI (nseg n)), .int (nI k), w] [] (hT a.1 31 T) Q) (E := fun T => Q (RI (nI (nseg n))) (hT a.1 31 T)) (f := W) (n := nseg n) (fun _ _ => True)
      (fun T w _ => by rw [s_144_62, if_pos (Int32.le_refl _)])
      (fun k T w F hk _ hF => by
        rw [s_144_62]
        simp (disch := omega) only [nI_le', t_ob_13, true_and, vI (show k < 15 by omega) (show 15 < 10000 by decide), nC, hT_I]
        rw [if_neg (by omega), hW']
        exact li k hk F (fun T w => hF T w trivial) (nseg n) 0 (by omega) _ () trivial)
    have := lo (nseg n) 0 (by omega) (a.1.1 31) w trivial
    rw [hT_r] at this
    exact this
  have l1 := lt2i (α := tH × Nat) (β := Value) (γ := Unit) (n := n)
    (L1 := fun i a w => AX 3 144 4 [.ref 13, .int (nI d), .int (nI a.2), .int (nI i), w] [] a.1 Q)
    (L2 := fun i j a _ => AX 3 144 19 [.ref 13, .int (nI d), .int (nI a.2), .int (nI i), .int (nI j)] [] a.1 Q)
    (E := fun a => Q (RI (nI (nseg n))) (hT a.1 31 (fd W 0 (nseg n) (a.1.1 31)))) (f := F) (I1 := fun i a => Iv i (i + 1) a) (I2 := Iv)
    (fun a w hI => by
      have ta := fx_ty ((hIv _ _ _).mp hI).1 ht
      rw [s_144_4, nC (by omega), ta.2.1, if_pos (Int32.le_refl _)]
      simp (disch := omega) only [t_ob_13, true_and, vI]
      exact fin a w hI)
    (fun i a w hi hI => ⟨(), by
      have ta := fx_ty ((hIv _ _ _).mp hI).1 ht
      rw [s_144_4, nC (by omega), ta.2.1]
      simp (disch := omega) only [t_ob_13, true_and, vI, nI_le', nI_1]
      rw [if_neg (by omega)], hI⟩)
    (fun i a w hi hI => ⟨.int (nI n), by
      have ta := fx_ty ((hIv _ _ _).mp hI).1 ht
      rw [s_144_19, nC (by omega), ta.2.1, if_pos (Int32.le_refl _)]
      simp (disch := omega) only [t_ob_13, true_and, vI, nI_1], he i a hi hI⟩)
    (fun i j a w hij hj hI => ⟨(), by
      have ta := fx_ty ((hIv _ _ _).mp hI).1 ht
      have ap := ((hIv _ _ _).mp hI).2.1 hij (by omega)
      have p15 := (f1 j hj i hij).1
      have i30 : ∀ g : tH, t_in (t_ai g 30) (nI a.2) = True := fun g => t_in_ai (show t_ar 30 = some (0, 15) from rfl) (by omega)
      rw [s_144_19, nC (by omega), ta.2.1]
      simp (disch := omega) only [t_ob_13, true_and, vI (show d < 7 by omega) (show 7 < 10000 by decide), vI (show a.2 < 15 by omega) (show 15 < 10000 by decide), nC, nI_le', nI_1, i30]
      rw [if_neg (by omega), hF'], hs i j a hij hj hI⟩)
    (h, 0) (.float 0) h0
  rw [am_144, s_144_0, hR', hG']
  exact l1
