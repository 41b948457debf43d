/-! ===== canonical: the calls ===== -/
theorem full_S {n : Nat} (h7 : n ≤ 7) : pc (one n - 1) = n ∧ sm (one n - 1) n := by
  refine ⟨?_, fun i hi => ?_⟩
  · have hh : ∀ n, n < 8 → pc (one n - 1) = n := by decide +kernel
    exact hh n (by omega)
  · by_cases h32 : i < 32
    · rw [bt_all h7 h32]; simp; omega
    · exact b_big (by omega)
theorem m_15 {h : tH} {sN n : Nat} {χ : tC} {f : Int32} (t : tn h sN n) (hX : tX h sN = χ) (n3 : 3 ≤ n) (s1 : sN ≠ 12) (s2 : sN + 10 ≠ 12) (s3 : sN ≠ 11) (s4 : sN + 10 ≠ 11) : ∃ h', fr h h' ∧ ∀ Q, AM 15 [.ref 11, .ref sN, .int f] h Q = Q (.inl (some (.long (jN (MN (fun l => NT (BB χ f (gP l)) n) n (one n - 1) [] 34359738368))))) h' := by
  have h7 := t.2.2
  obtain ⟨g, hg⟩ : ∃ g, g = t_L (t_I (t_N h (some sN)) 11 2 f) 11 3 (jN 34359738368) := ⟨_, rfl⟩
  have rg : ∀ a b, ¬ (a = 11 ∧ b = 2) → g.1 a b = h.1 a b := fun a b e => by
    rw [hg]
    exact if_neg e
  have c : NC g sN n χ f := by
    refine ⟨by rw [hg]; rfl, ⟨t.1, by rw [rg _ _ (by omega)]; exact t.2.1, h7⟩, ?_, by rw [hg]; rfl, s1, s2⟩
    rw [← hX]
    exact tX_o fun c _ => rg _ _ (by omega)
  have z0 : HD (BB χ f (gP [])) 0 = 0 := HD_0 (by omega)
  obtain ⟨h', f', r', q'⟩ := m_19 (f := f) n3 h7 n 0 0 (one n - 1) [] g 34359738368 (by omega) rfl (fun i hi => by omega) (fun x hx => by
    rw [bt_all h7 (by omega), b_0]; simp) c (by rw [hg]; rfl) (by omega) (by rw [z0]; exact Nat.zero_le _)
  rw [z0] at q'
  refine ⟨h', fun a b e => ?_, fun Q => ?_⟩
  · have s : ¬ (a = 11 ∨ a = 12) := fun z => by
      have : sc a b = true := decide_eq_true (by omega)
      rw [this] at e; cases e
    rw [f'.1 _ _ (by omega), rg _ _ (by omega)]
  · rw [am_15, s_15_0]
    rw [show (t_lev tq_19 [.ref 11, .int 0, .int 0, .long 0] < 36) = True from eq_true (by
      rw [show t_lev tq_19 [.ref 11, .int 0, .int 0, .long 0] = 34 - 0 from lev19 (k := 0) (by omega)]
      omega)]
    have q := q' (t_kv (fun h1 => Q (.inl (some (.long (h1.2.1 11 3)))) h1) Q)
    rw [hg] at q
    simp only [t_ob_11, true_and]
    refine Eq.trans q ?_
    simp only [t_kv, r']
theorem f_one {a f : Int32} (hf : f = 1 ∨ f = -1) : (a * f = 1) = (a = f) := by
  refine propext ?_
  rcases hf with rfl | rfl
  · rw [Int32.mul_one]
  · rw [Int32.mul_neg, Int32.mul_one]
    constructor
    · intro h
      exact ((Int32.neg_neg : - -a = a).symm).trans (by rw [h])
    · intro h
      rw [h]; rfl
theorem n160 {h : tH} {d n : Nat} {χ : tC} {f : Int32} {p : Nat → Nat} (hd : d < 6) (ht : ty h d n) (hχ : tY h d = χ) (hr : ∀ i, i < n → h.1 26 i = nI (p i) ∧ p i < 7) (hf : f = 1 ∨ f = -1) (Q : tO → tH → Prop) : AM 160 [.ref 13, .int (nI d), .int f] h Q = Q (.inl (some (.long (jN (NT (BB χ f p) n))))) h := by
  have h7 := ht.2.2
  have l := lt3 (α := Nat) (β := Value × Value) (γ := Value) (δ := Unit) (n := n)
    (L1 := fun i v w => AX 2 160 5 [.ref 13, .int (nI d), .int f, .long (jN v), .float 0, .int (nI i), w.1, w.2] [] h Q)
    (L2 := fun i j v w => AX 2 160 22 [.ref 13, .int (nI d), .int f, .long (jN v), .float 0, .int (nI i), .int (nI j), w] [] h Q)
    (L3 := fun i j k v _ => AX 2 160 39 [.ref 13, .int (nI d), .int f, .long (jN v), .float 0, .int (nI i), .int (nI j), .int (nI k)] [] h Q)
    (E := fun v => Q (.inl (some (.long (jN v)))) h) (f := fun i j k v => 2 * v + bn (BB χ f p i j k))
    (fun v w => by
      rw [s_160_5, nC (by omega), ht.2.1, if_pos (Int32.le_refl _)]
      simp (disch := omega) only [t_ob_13, true_and, vI])
    (fun i v w hi => ⟨w.2, by
      rw [s_160_5, nC (by omega), ht.2.1, if_neg (by rw [nI_le' (by omega) (by omega)]; omega), nI_1]
      simp (disch := omega) only [t_ob_13, true_and, vI]⟩)
    (fun i v w hi => ⟨(.int (nI n), w), by
      rw [s_160_22, nC (by omega), ht.2.1, if_pos (Int32.le_refl _), nI_1]
      simp (disch := omega) only [t_ob_13, true_and, vI]⟩)
    (fun i j v w hij hj => ⟨(), by
      rw [s_160_22, nC (by omega), ht.2.1, if_neg (by rw [nI_le' (by omega) (by omega)]; omega), nI_1]
      simp (disch := omega) only [t_ob_13, true_and, vI]⟩)
    (fun i j v w hij hj => ⟨.int (nI n), by
      rw [s_160_39, nC (by omega), ht.2.1, if_pos (Int32.le_refl _), nI_1]
      simp (disch := omega) only [t_ob_13, true_and, vI]⟩)
    (fun i j k v w hij hjk hk => ⟨(), by
      rw [s_160_39, nC (show d < 10000 by omega), ht.2.1, if_neg (by rw [nI_le' (by omega) (by omega)]; omega), nC (show i < 10000 by omega), nC (show j < 10000 by omega), nC (show k < 10000 by omega), (hr i (by omega)).1, (hr j (by omega)).1, (hr k (by omega)).1, n104 (by omega) (hr i (by omega)).2 (hr j (by omega)).2 (hr k (by omega)).2, hχ]
      simp (disch := omega) only [t_ob_13, true_and, vI, t_ki, s_160_90]
      have e := f_one (a := χ (p i) (p j) (p k)) hf
      have d := l_dbl (v := v) (b := BB χ f p i j k)
      unfold BB at d ⊢
      rw [nI_1]
      by_cases q : χ (p i) (p j) (p k) = f
      · rw [if_neg (fun z => z q), ← d, decide_eq_true (show χ (p i) (p j) (p k) * f = 1 by rw [e]; exact q)]
        rfl
      · rw [if_pos q, ← d, decide_eq_false (show ¬ χ (p i) (p j) (p k) * f = 1 by rw [e]; exact q)]
        rfl⟩)
  have l0 := l 0 (.float 0, .float 0)
  rw [NT_fd] at l0
  rw [am_160, s_160_0]
  exact l0
theorem RO_gP {h : tH} {l : List Nat} {n : Nat} (r : RO h l) (hl : l.length = n) (hm : ∀ x, x ∈ l → x < n) (h7 : n ≤ 7) : ∀ i, i < n → h.1 26 i = nI (gP l i) ∧ gP l i < 7 := fun i hi => by
  have e : l[i]? = some (l[i]'(by omega)) := List.getElem?_eq_getElem (by omega)
  have g : gP l i = l[i]'(by omega) := by
    unfold gP
    rw [List.getD_eq_getElem?_getD, e]; rfl
  rw [g]
  exact ⟨r i _ e, Nat.lt_of_lt_of_le (hm _ (List.getElem_mem _)) h7⟩
def stpN (N : Nat → Nat) (k v : Nat) : Nat := if k = 0 then N k else if v ≤ N k then v else N k
theorem n161l {d n : Nat} {χ : tC} {x2 : Int32} (hd : d < 6) (h7 : n ≤ 7) : ∀ j k v (h : tH), k + j = fac n → v < 2 ^ 63 → ty h d n → tY h d = χ → ∃ h', fx h h' ∧ ∀ Q w, AX 3 161 44 [.ref 13, .int (nI d), .int x2, .int (nI (fac n)), .long (jN v), .float 0, .int (nI k), w, .float 0] [] h Q = Q (.inl (some (.long (jN (fd (stpN fun k => NT (BB χ (if x2 = 0 then (1 : Int32) else -1) (gP (OL n (one n - 1) k))) n) k j v))))) h' := by
  have fl := fac_lt h7
  intro j
  induction j with
  | zero =>
    intro k v h hk hv ht hχ
    have : k = fac n := by omega
    refine ⟨h, fx_r h, fun Q w => ?_⟩
    rw [s_161_44, this, if_pos (Int32.le_refl _)]
    rfl
  | succ j ih =>
    intro k v h hk hv ht hχ
    obtain ⟨f, hf⟩ : ∃ f : Int32, f = if x2 = 0 then (1 : Int32) else -1 := ⟨_, rfl⟩
    have hf1 : f = 1 ∨ f = -1 := by rw [hf]; split; exact Or.inl rfl; exact Or.inr rfl
    obtain ⟨h1, f1, r1, q1⟩ := n156 (h := h) (d := d) (n := n) (code := k) hd ht (by omega)
    obtain ⟨i1, i2, -⟩ := OL_in h7 n (one n - 1) k (full_S h7).1 (full_S h7).2
    have t1 := fx_ty f1 ht
    have y1 : tY h1 d = χ := by rw [← hχ]; exact tY_o fun c _ => f1.1 _ _ (by omega)
    have q2 : ∀ Q, AM 160 [.ref 13, .int (nI d), .int f] h1 Q = Q (.inl (some (.long (jN (NT (BB χ f (gP (OL n (one n - 1) k))) n))))) h1 := n160 hd t1 y1 (RO_gP r1 i1 (fun x hx => (i2 x hx).1) h7) hf1
    obtain ⟨V, hV⟩ : ∃ V, V = NT (BB χ f (gP (OL n (one n - 1) k))) n := ⟨_, rfl⟩
    have V63 : V < 2 ^ 63 := by
      rw [hV]
      exact Nat.lt_trans (NT_lt h7) (by decide)
    rw [← hV] at q2
    have sv : stpN (fun k => NT (BB χ f (gP (OL n (one n - 1) k))) n) k v = if k = 0 then V else if v ≤ V then v else V := by rw [hV]; rfl
    rw [← hf]
    obtain ⟨h', f', q'⟩ := ih (k + 1) (stpN (fun k => NT (BB χ f (gP (OL n (one n - 1) k))) n) k v) h1 (by omega) (by
      rw [sv]
      split
      · exact V63
      · split <;> assumption) t1 y1
    rw [← hf] at q'
    refine ⟨h', fx_t f1 f', fun Q w => ?_⟩
    have lt : (nI (fac n) ≤ nI k) = (fac n ≤ k) := propext (nI_leI (by omega) (by omega))
    have k0 : (nI k = (0 : Int32)) = (k = 0) := propext ⟨fun z => by
      have := (nI_leI (a := k) (b := 0) (by omega) (by omega)).mp (by rw [z]; exact Int32.le_refl _)
      omega, fun z => by rw [z]; rfl⟩
    rw [s_161_44, if_neg (by rw [lt]; omega), q1]
    simp only [t_ob_13, true_and, t_kv]
    rw [← hf, q2, fd_s, ← q' Q (.long (jN V)), sv]
    simp only [t_kl, s_161_86, s_161_93, nI_1]
    by_cases e : k = 0
    · rw [if_pos (by rw [k0]; exact e), if_pos e]
    · rw [if_neg (by rw [k0]; exact e), if_neg e]
      by_cases c : v ≤ V
      · rw [if_pos (by rw [lg_ge V63 hv]; exact c), if_pos c]
      · rw [if_neg (by rw [lg_ge V63 hv]; exact c), if_neg c]
theorem fac_pos (n : Nat) : 0 < fac n := by
  induction n with
  | zero => decide
  | succ n ih => exact Nat.mul_pos (by omega) ih
theorem MN_stp {N : List Nat → Nat} {n : Nat} (h7 : n ≤ 7) (hN : ∀ l, N l < 2 ^ 35) : fd (stpN fun k => N (OL n (one n - 1) k)) 0 (fac n) 0 = MN N n (one n - 1) [] 34359738368 := by
  have fp := fac_pos n
  obtain ⟨R, hR⟩ : ∃ R, R = fd (stpN fun k => N (OL n (one n - 1) k)) 0 (fac n) 0 := ⟨_, rfl⟩
  have r : ∀ b, b ≤ R ↔ ∀ k, k < fac n → b ≤ N (OL n (one n - 1) k) := fun b => by
    obtain ⟨m, hm⟩ : ∃ m, fac n = m + 1 := ⟨fac n - 1, by omega⟩
    rw [hR, hm, fd_s, fd_le (P := fun k => b ≤ N (OL n (one n - 1) k)) m 1 _ fun x acc h1 h2 => by
      unfold stpN
      rw [if_neg (by omega)]
      constructor
      · intro h
        split at h
        · rename_i q
          exact ⟨h, Nat.le_trans h q⟩
        · rename_i q
          exact ⟨Nat.le_of_lt (Nat.lt_of_le_of_lt h (Nat.lt_of_not_le q)), h⟩
      · rintro ⟨h1, h2⟩
        split <;> assumption]
    show (b ≤ N (OL n (one n - 1) 0) ∧ _) ↔ _
    constructor
    · rintro ⟨h1, h2⟩ k hk
      by_cases e : k = 0
      · rw [e]; exact h1
      · exact h2 k (by omega) (by omega)
    · intro h
      exact ⟨h 0 (by omega), fun k h1 h2 => h k (by omega)⟩
  have q : ∀ b, b ≤ MN N n (one n - 1) [] 34359738368 ↔ b ≤ 34359738368 ∧ ∀ k, k < fac n → b ≤ N (OL n (one n - 1) k) := fun b => MN_iff h7 n (one n - 1) [] _ (full_S h7).1 (full_S h7).2
  rw [← hR]
  refine Nat.le_antisymm ((q R).mpr ⟨?_, (r R).mp (Nat.le_refl _)⟩) ((r _).mpr ((q _).mp (Nat.le_refl _)).2)
  have a := (r R).mp (Nat.le_refl _) 0 fp
  have b := hN (OL n (one n - 1) 0)
  omega
theorem op_canonical {h : tH} (hI : IV h) (x y : Int32) : opL h 195 [.ref 0, .int x, .int y, .ref 32] 161 [.ref 13, .int x, .int y] := by
  obtain ⟨D, h1, h2, h3, h4⟩ := IV_D hI
  by_cases hx : pI x D = true
  · obtain ⟨d, hd, rfl⟩ := (pI_iff (by omega)).mp hx
    obtain ⟨n, hn⟩ := h4 d hd
    have hd6 : d < 6 := by omega
    obtain ⟨t1, t2⟩ := DV_t hd6 hn
    have n7' := t1.2.2
    obtain ⟨n3, b2, b3, b4', b5, b6, b7, -⟩ := id hn
    obtain ⟨χ, hχ⟩ : ∃ χ, χ = tX h (70 + d) := ⟨_, rfl⟩
    rw [← hχ] at b5
    obtain ⟨f, hf⟩ : ∃ f : Int32, f = if y = 0 then (1 : Int32) else -1 := ⟨_, rfl⟩
    obtain ⟨g, fg, q15⟩ := m_15 (f := f) t1 hχ.symm n3 (by omega) (by omega) (by omega) (by omega)
    obtain ⟨V, hV⟩ : ∃ V, V = MN (fun l => NT (BB χ f (gP l)) n) n (one n - 1) [] 34359738368 := ⟨_, rfl⟩
    rw [← hV] at q15
    have r1 : rn 94 [.ref 0, .int (nI d), .int y] h (.inl (some (.long (jN V)))) g := fun Q => by
      rw [am_94, s_94_0, c75 h1 h3 hd]
      simp only [t_ob_0', true_and, t_kq_r, va_rf_s, s_94_9, o40 hd6, e30, t_ob_11]
      rw [← hf, q15]
      rfl
    obtain ⟨k, hk⟩ : ∃ k, k = t_I (t_L g 32 0 (jN V)) 13 0 0 := ⟨_, rfl⟩
    have gl : ∀ a b, sc a b = false → g.1 a b = h.1 a b := fg
    have k8 : g.1 13 8 = nI D := by rw [gl _ _ (by decide)]; exact h2
    have g19 : g.1 19 d = nI n := by
      rw [gl _ _ (decide_eq_false (by omega))]; exact b4'
    have kt : ty k d n := ⟨by omega, by rw [hk]; exact g19, n7'⟩
    have kY : tY k d = χ := by
      rw [b5, hk]
      exact tY_o fun c hc => gl _ _ (decide_eq_false (by omega))
    obtain ⟨g', f', q'⟩ := n161l (x2 := y) hd6 n7' (fac n) 0 0 k (by omega) (by omega) kt kY
    rw [← hf, MN_stp n7' (N := fun l => NT (BB χ f (gP l)) n) (fun l => NT_lt n7'), ← hV] at q'
    have hx' : pI (nI d) D = true := hx
    have e19 : (t_I (t_L g 32 0 (jN V)) 13 0 0).1 19 d = nI n := g19
    have r2 : rn 161 [.ref 13, .int (nI d), .int y] (t_L g 32 0 (jN V)) (.inl (some (.long (jN V)))) g' := fun Q => by
      have i19 : ∀ u : tH, t_in (t_ai u 19) (nI d) = True := fun u => t_in_ai (show t_ar 19 = some (0, 7) from rfl) (by omega)
      rw [am_161, s_161_0, n101 (D := D) (show (t_L g 32 0 (jN V)).1 13 8 = nI D from k8) (by omega), hx']
      simp (disch := omega) only [t_ob_13, true_and, t_ki, zb_0, Bool.true_eq_false, if_false, nC, i19]
      rw [if_pos (show (t_I (t_L g 32 0 (jN V)) 13 0 0).1 13 0 ≤ 0 from Int32.le_refl _), e19, n155 n7', ← hk]
      simp only [t_ki, s_161_37]
      exact q' Q _
    have k0 : k.1 13 0 = 0 := by rw [hk]; rfl
    refine ⟨0, _, g', jN V, by decide, r_195 r1, r2, IV_fr (fr_t (fr_t (fr_t fg (fr_L _ 32 0 _)) (by rw [hk]; exact fr_13)) (fx_fr f')) hI, ?_, fun _ => ?_⟩
    · rw [f'.1 _ _ (by decide), k0]; rfl
    · rw [f'.2, hk]; rfl
  · have hx' : pI x D = false := pI_x hx
    refine ⟨1, t_X h, t_I (t_X h) 13 0 (nI 1), 0, by decide, r_195_e2 fun Q => ?_, fun Q => ?_, IV_fr (fr_t (fr_X h) fr_13) hI, rfl, fun z => absurd z (by decide)⟩
    · rw [am_94, s_94_0, c75x h1 h3 hx']
      simp only [t_ob_0', true_and, t_kq_E]
    · rw [am_161, s_161_0, n101 (D := D) (show (t_X h).1 13 8 = nI D from h2) (by omega), hx']
      simp only [t_ob_13, true_and, t_ki, zb_0, if_true, s_161_37]
      rw [if_neg (show ¬ (t_I (t_X h) 13 0 1).1 13 0 ≤ 0 by rw [t_13_0]; decide), s_161_44, if_pos (Int32.le_refl _)]
      rfl
