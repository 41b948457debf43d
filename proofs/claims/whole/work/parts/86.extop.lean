/-! ===== extensions: the calls ===== -/
theorem n105x {g : tH} {T : Nat → Int32} {i j n : Nat} {x : Int32} (hi : i < 7) (hj : j < 7) (hn : n < 7) (Q : tO → tH → Prop) : AM 105 [.ref 13, .int 6, .int (nI i), .int (nI j), .int (nI n), .int x] (hU g 6 T) Q = Q (.inl none) (hU g 6 (pT T i j n x)) :=
  (n105 (d := 6) (by decide) hi hj hn Q).trans (by rw [hU_set hi hj hn])
theorem n110x {g : tH} {T : Nat → Int32} {N : Nat} (h19 : g.1 19 6 = nI N) (h7 : N ≤ 7) (Q : tO → tH → Prop) : AM 110 [.ref 13, .int 6] (hU g 6 T) Q = Q (RI (zb (qhold (cut T) N))) (hU g 6 T) :=
  (n110 (d := 6) (n := N) (h := hU g 6 T) ⟨by decide, by rw [hU_o (by omega)]; exact h19, h7⟩ Q).trans (by rw [cut_Y])
theorem n159l {g : tH} {d n : Nat} {χ : tC} {x2 : Int32} (h19 : g.1 19 6 = nI (n + 1)) (h6 : n < 6) (Q : tO → tH → Prop) : ∀ j s ways T w6 w7 w8, s + j = 2 ^ nseg n → EQ n (prL n) χ (cut T) → AX 5 159 106 [.ref 13, .int (nI d), .int x2, .int (nI n), .int (nI ways), .int (nI s), w6, w7, w8] [] (hU g 6 T) Q = Q (RI (nI (ways + sB (fun s => bn (qhold (AL n (prL n) 0 s χ) (n + 1))) s j))) (hU g 6 (fd (fun s T => mS n s T) s j T)) := by
  obtain ⟨f1, f2, f3, f4, f5, f6, f7⟩ := pos_f n (by omega)
  obtain ⟨o1, o2⟩ := one_p2 f7
  have eo : (1 : Int32) <<< (nI (nseg n) &&& 31) = nI (2 ^ nseg n) := o1
  intro j
  induction j with
  | zero =>
    intro s ways T w6 w7 w8 hs e
    have : s = 2 ^ nseg n := by omega
    rw [s_159_106, nI_hf (by omega), show n * (n - 1) / 2 = nseg n from rfl, eo, this, if_pos (Int32.le_refl _)]
    rfl
  | succ j ih =>
    intro s ways T w6 w7 w8 hs e
    have lt : (nI (2 ^ nseg n) ≤ nI s) = (2 ^ nseg n ≤ s) := propext (nI_leI (by omega) (by omega))
    have l := lt2i (α := Nat → Int32) (β := Value) (γ := Unit) (n := n)
      (L1 := fun i T w => AX 5 159 126 [.ref 13, .int (nI d), .int x2, .int (nI n), .int (nI ways), .int (nI s), .int (nI (pos n i (i + 1))), .int (nI i), w] [] (hU g 6 T) Q)
      (L2 := fun i j T _ => AX 5 159 138 [.ref 13, .int (nI d), .int x2, .int (nI n), .int (nI ways), .int (nI s), .int (nI (pos n i j)), .int (nI i), .int (nI j)] [] (hU g 6 T) Q)
      (E := fun T => Q (RI (nI (ways + bn (qhold (cut T) (n + 1)) + sB (fun s => bn (qhold (AL n (prL n) 0 s χ) (n + 1))) (s + 1) j))) (hU g 6 (fd (fun s T => mS n s T) (s + 1) j T)))
      (f := fun i j T => pT T i j n (sv (s.testBit (pos n i j))))
      (I1 := fun _ T => EQ n (prL n) χ (cut T)) (I2 := fun _ _ T => EQ n (prL n) χ (cut T))
      (fun T w e => by
        rw [s_159_126, if_pos (Int32.le_refl _), n110x h19 (by omega)]
        simp only [t_ob_13, true_and, t_ki, nI_1]
        rw [show nI ways + (if zb (qhold (cut T) (n + 1)) = (0 : Int32) then (0 : Int32) else 1) = nI (ways + bn (qhold (cut T) (n + 1))) from bn_add', ih (s + 1) _ T _ _ _ (by omega) e])
      (fun i T w hi e => ⟨(), by
        rw [s_159_126, if_neg (by rw [nI_le' (by omega) (by omega)]; omega), nI_1], e⟩)
      (fun i T w hi e => ⟨.int (nI n), by
        rw [s_159_138, if_pos (Int32.le_refl _), nI_1, f4 i hi], e⟩)
      (fun i j T w hij hj e => ⟨(), by
        have p := (f1 j hj i hij).1
        have sg : (if ¬ ((nI s >>> (nI (pos n i j) &&& 31)) &&& 1) = 1 then ((-1) : Int32) else 1) = sv (s.testBit (pos n i j)) := by
          have e := shr_iff (x := nI s) (p := pos n i j) (by omega)
          rw [bt_nI, decide_eq_true (show pos n i j < 32 by omega), Bool.true_and] at e
          unfold sv
          by_cases q : s.testBit (pos n i j) = true
          · rw [if_neg (fun z => z (by rw [e]; exact q)), if_pos q]
          · rw [if_pos (fun z => q (by rw [← e]; exact z)), if_neg q]
        rw [s_159_138, if_neg (by rw [nI_le' (by omega) (by omega)]; omega), sg, n105x (by omega) (by omega) (by omega)]
        simp only [t_ob_13, true_and, t_kv, nI_1]
        rw [f3 j hj i hij], by
        rw [cut_p (by omega) (by omega) (by omega)]
        exact EQ_in e (prL_m h6 hij hj)⟩)
    have l0 := l T w8 e
    rw [f5] at l0
    rw [s_159_106, nI_hf (by omega), show n * (n - 1) / 2 = nseg n from rfl, eo, if_neg (by rw [lt]; omega)]
    refine Eq.trans l0 ?_
    show Q (RI (nI (ways + bn (qhold (cut (mS n s T)) (n + 1)) + _))) _ = _
    rw [cut_mS h6, AL_eq (prL n) 0 χ (cut T) (prL_b n h6) e, Nat.add_assoc]
    rfl
theorem n159 {g : tH} {D d n : Nat} {χ : tC} (hd : g.1 13 8 = nI D) (hD : D ≤ 6) (hdD : d < D) (ht : ty g d n) (hχ : tY g d = χ) (h6 : n < 6) : ∃ g', fr g g' ∧ g'.1 13 0 = 0 ∧ g'.2 = g.2 ∧ rn 159 [.ref 13, .int (nI d)] g (RI (nI (TS (n + 1) n (prL n) χ))) g' := by
  have hx : pI (nI d) D = true := by rw [pI_nI (by omega) (by omega)]; simpa using hdD
  obtain ⟨k, hk⟩ : ∃ k, k = t_I (t_I g 13 0 0) 19 6 (nI (n + 1)) := ⟨_, rfl⟩
  have k19 : k.1 19 6 = nI (n + 1) := by rw [hk]; rfl
  have k0 : k.1 13 0 = 0 := by rw [hk]; rfl
  have u20 : ∀ T c, c < 343 → (hU k 6 T).1 20 (343 * d + c) = g.1 20 (343 * d + c) := fun T c hc => by
    rw [hU_o (by omega), hk, t_I_o (by decide), t_I_o (by decide)]
  obtain ⟨T0, hT0⟩ : ∃ T0 : Nat → Int32, T0 = fun c => g.1 20 (343 * d + c) := ⟨_, rfl⟩
  have cT : cut T0 = χ := by rw [← hχ, cut_Yr, hT0]
  have e2058 : ∀ c, (2058 : Int32) + nI c = nI (343 * 6 + c) := fun c => nI_add (a := 343 * 6) (b := c)
  have fU : ∀ T, fr g (hU k 6 T) := fun T a b e => by
    have s : ¬ ((a = 13 ∧ b = 0) ∨ (a = 20 ∧ 2058 ≤ b) ∨ (a = 19 ∧ b = 6)) := fun z => by
      have : sc a b = true := decide_eq_true (by omega)
      rw [this] at e; cases e
    rw [hU_o (by omega), hk, t_I_at, if_neg (by omega), t_I_at, if_neg (by omega)]
  refine ⟨hU k 6 (fd (fun s T => mS n s T) 0 (2 ^ nseg n) T0), fU _, by rw [hU_o (by omega), k0], by rw [hk]; rfl, fun Q => ?_⟩
  have lc := lp (α := Nat → Int32) (β := Unit) (L := fun c T _ => AX 5 159 62 [.ref 13, .int (nI d), .int (zb true), .int (nI n), .int (nI c), .float 0, .float 0, .float 0, .float 0] [] (hU k 6 T) Q) (E := fun T => AX 5 159 106 [.ref 13, .int (nI d), .int (zb true), .int (nI n), .int 0, .int 0, .float 0, .float 0, .float 0] [] (hU k 6 T) Q) (f := fun c T => upd T c (g.1 20 (343 * d + c))) (n := 343) (fun _ _ => True)
    (fun T w _ => by rw [s_159_62, if_pos (show (343 : Int32) ≤ nI 343 from Int32.le_refl _)])
    (fun c T w F hc _ hF => by
      have e : ((343 : Int32) ≤ nI c) = (343 ≤ c) := nI_le' (a := 343) (b := c) (by omega) (by omega)
      rw [s_159_62, if_neg (by rw [e]; omega), n343, e2058]
      simp (disch := omega) only [t_ob_13, true_and, vI, nC, u20, hU_I, nI_1]
      exact hF _ () trivial)
  have l0 := lc 343 0 (by omega) (fun c => k.1 20 (343 * 6 + c)) () trivial
  rw [hU_r, hU_ext (T' := T0) fun c hc => by rw [fd_upd (F := fun c => g.1 20 (343 * d + c)) 343 c hc, hT0]] at l0
  have q := n159l (d := d) (x2 := zb true) (χ := χ) k19 h6 Q (2 ^ nseg n) 0 0 T0 (.float 0) (.float 0) (.float 0) (by omega) (fun a b c => Or.inl (by rw [cT]))
  rw [Nat.zero_add, ← prL_l n h6, AL_sum, prL_l n h6] at q
  have e5 : (nI n ≤ (5 : Int32)) = (n ≤ 5) := nI_le' (a := n) (b := 5) (by omega) (by omega)
  have i19 : ∀ u : tH, t_in (t_ai u 19) (nI d) = True := fun u => t_in_ai (show t_ar 19 = some (0, 7) from rfl) (by omega)
  have i19' : ∀ u : tH, t_in (t_ai u 19) 6 = True := fun u => t_in_ai (p := 6) (show t_ar 19 = some (0, 7) from rfl) (by omega)
  have e19 : (t_I g 13 0 0).1 19 d = nI n := ht.2.1
  rw [am_159, s_159_0, n101 hd (by omega), hx]
  simp (disch := omega) only [t_ob_13, true_and, t_ki, zb_0, Bool.true_eq_false, not_false_eq_true, if_true, vI, nC, ht.2.1, s_159_30, i19, i19']
  rw [if_pos (show nI n ≤ (5 : Int32) by rw [e5]; omega), if_pos (show (t_I g 13 0 0).1 13 0 ≤ 0 from Int32.le_refl _), e19, nI_1, show (6 : Int32).toNatClampNeg = 6 by decide, ← hk]
  exact l0.trans q
theorem n159x {g : tH} {D : Nat} {x u : Int32} (hd : g.1 13 8 = nI D) (hD : D ≤ 6) (hh : (pI x D = false ∧ u = 1) ∨ ∃ d n, x = nI d ∧ d < D ∧ ty g d n ∧ 5 < n ∧ u = 2) : rn 159 [.ref 13, .int x] g (RI 0) (t_I g 13 0 u) := by
  intro Q
  rcases hh with ⟨h1, rfl⟩ | ⟨d, n, rfl, hdD, ht, n5, rfl⟩
  · rw [am_159, s_159_0, n101 hd (by omega), h1]
    simp only [t_ob_13, true_and, t_ki, zb_0, not_true_eq_false, if_false, s_159_30]
    rw [if_neg (show ¬ (t_I g 13 0 1).1 13 0 ≤ 0 by rw [t_13_0]; decide)]
  · have hx : pI (nI d) D = true := by rw [pI_nI (by omega) (by omega)]; simpa using hdD
    have n7 := ht.2.2
    have e5 : (nI n ≤ (5 : Int32)) = (n ≤ 5) := nI_le' (a := n) (b := 5) (by omega) (by omega)
    rw [am_159, s_159_0, n101 hd (by omega), hx]
    simp (disch := omega) only [t_ob_13, true_and, t_ki, zb_0, Bool.true_eq_false, not_false_eq_true, if_true, vI, nC, ht.2.1, s_159_30]
    rw [if_neg (show ¬ nI n ≤ (5 : Int32) by rw [e5]; omega), if_neg (show ¬ (t_I g 13 0 2).1 13 0 ≤ 0 by rw [t_13_0]; decide)]
theorem op_extensions {h : tH} (hI : IV h) (x : Int32) : opI h 194 [.ref 0, .int x, .ref 32] 159 [.ref 13, .int x] := by
  obtain ⟨D, h1, h2, h3, h4⟩ := IV_D hI
  by_cases hx : pI x D = true
  · obtain ⟨d, hd, rfl⟩ := (pI_iff (by omega)).mp hx
    obtain ⟨n, hn⟩ := h4 d hd
    have hd6 : d < 6 := by omega
    obtain ⟨t1, t2⟩ := DV_t hd6 hn
    have n7' := t1.2.2
    obtain ⟨b1, b2, b3, b4', b5, b6, b7, -⟩ := id hn
    have e5 : (nI n ≤ (5 : Int32)) = (n ≤ 5) := nI_le' (a := n) (b := 5) (by omega) (by omega)
    by_cases n6 : n ≤ 5
    · obtain ⟨χ, hχ⟩ : ∃ χ, χ = tX h (70 + d) := ⟨_, rfl⟩
      rw [← hχ] at b5 b6 b7
      have cb : ∀ i j k, ¬ (i < 7 ∧ j < 7 ∧ k < 7) → χ i j k = 0 := fun i j k e => by rw [hχ]; exact if_neg e
      obtain ⟨T, hT'⟩ : ∃ T, T = z2 n (f3 (fun i j k => 1 * χ i j k) n (h.1 86)) := ⟨_, rfl⟩
      obtain ⟨g0, hg0⟩ : ∃ g0, g0 = t_I h 76 1 (nI (n + 1)) := ⟨_, rfl⟩
      have st : rs (n + 1) (cut T) = χ := by
        rw [hT', cut_z2 (by omega), cut_f3 n7']
        exact rs_start (by omega) b6 cb _ fun i j k => Int32.one_mul _
      have q50 : ∀ Q, AM 50 [.ref 76, .int 0, .int 1, .int 0] (hT g0 86 T) Q = Q (RI (nI (TS (n + 1) n (prL n) χ))) (hT g0 86 T) := fun Q => by
        have q := m_50 (h := g0) (n := n) n6 (by rw [hg0]; rfl) (nseg n) 0 1 T (by omega) (by omega) (Nat.zero_add _) (by rw [st]; exact V3_WS (by omega) b6 cb) (by rw [st]; exact ZL_WS0 (by omega) b6) Q
        rw [st, CE_all n6 b6 cb b7] at q
        exact q
      have q43 : ∀ Q, AM 43 [.ref 76, .ref (70 + d)] h Q = Q (.inl none) (hT g0 86 T) := fun Q => by
        have q := m_43 (h := h) t1 (by omega) (by omega) (by omega) Q
        rw [← hχ, ← hT', ← hg0] at q
        exact q
      have r1 : rn 93 [.ref 0, .int (nI d)] h (RI (nI (TS (n + 1) n (prL n) χ))) (hT g0 86 T) := fun Q => by
        rw [am_93, s_93_0, c75 h1 h3 hd]
        simp only [t_ob_0', true_and, t_kq_r, va_rf_s, s_93_5, o40 hd6, e30, o70 hd6, t1.2.1]
        rw [if_pos (by rw [e5]; exact n6), q43]
        simp only [t_kv]
        rw [show (t_lev tq_50 [.ref 76, .int 0, .int 1, .int 0] < 37) = True from eq_true (by
          rw [show t_lev tq_50 [.ref 76, .int 0, .int 1, .int 0] = 35 - 0 from lev50 (k := 0) (by omega)]
          omega), true_and, q50]
        rfl
      have fA : fr h (hT g0 86 T) := fun a b e => by
        have s : ¬ (a = 76 ∨ a = 86) := fun z => by
          have : sc a b = true := decide_eq_true (by omega)
          rw [this] at e; cases e
        rw [hT_o (by omega), hg0, t_I_o (by omega)]
      have rA : ∀ a b, a ≠ 76 → a ≠ 86 → (hT g0 86 T).1 a b = h.1 a b := fun a b a1 a2 => by rw [hT_o a2, hg0, t_I_o a1]
      obtain ⟨g', f', z0, z2', r2⟩ := n159 (g := t_L (hT g0 86 T) 32 0 (nI (TS (n + 1) n (prL n) χ)).toInt64) (n := n) (D := D) (d := d) (χ := χ) (by
        show (hT g0 86 T).1 13 8 = nI D
        rw [rA _ _ (by decide) (by decide)]; exact h2) h3 hd ⟨by omega, by
        show (hT g0 86 T).1 19 d = nI n
        rw [rA _ _ (by decide) (by decide)]; exact b4', n7'⟩ (by
        rw [b5, tY_L]
        exact tY_o fun c _ => rA _ _ (by decide) (by decide)) (by omega)
      refine opI_s hI (r_194 r1) r2 (fr_t (fr_t fA (fr_L _ 32 0 _)) f') z0 ?_
      rw [z2']
      rfl
    · refine opI_f hI (k := 2) (by decide) (by decide) (r_194_e1 fun Q => ?_) (n159x (g := t_X h) h2 h3 (Or.inr ⟨d, n, rfl, hd, t2, by omega, rfl⟩))
      rw [am_93, s_93_0, c75 h1 h3 hd]
      simp only [t_ob_0', true_and, t_kq_r, va_rf_s, s_93_5, o40 hd6, e30, o70 hd6, t1.2.1]
      rw [if_neg (by rw [e5]; exact n6)]
  · refine opI_f hI (k := 1) (by decide) (by decide) (r_194_e2 fun Q => ?_) (n159x (g := t_X h) h2 h3 (Or.inl ⟨pI_x hx, rfl⟩))
    rw [am_93, s_93_0, c75x h1 h3 (pI_x hx)]
    simp only [t_ob_0', true_and, t_kq_E]
