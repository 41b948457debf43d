/-! ===== triangulate: the calls ===== -/
theorem rd_RM {χ : tC} {n : Nat} (h7 : n ≤ 7) (f : Nat → Int32) : RM (rdM χ n f) χ n := fun p q hp => rdM_bt h7 hp
/-- the heap after the crossings were read -/
def hR (h : tH) (χ : tC) (n : Nat) : tH := hM (t_I h 9 1 (nI n)) (rdM χ n (h.1 10))
theorem hR_o {h : tH} {χ : tC} {n a b : Nat} (e : a ≠ 9 ∧ a ≠ 10) : (hR h χ n).1 a b = h.1 a b := by
  unfold hR
  rw [hM_o e.2, t_I_o e.1]
theorem hR_9 {h : tH} {χ : tC} {n : Nat} : (hR h χ n).1 9 1 = nI n := by
  unfold hR
  rw [hM_o (by decide)]
  rfl
theorem hR_10 {h : tH} {χ : tC} {n : Nat} : (hR h χ n).1 10 = rdM χ n (h.1 10) := hM_10
theorem fr_hR {h : tH} {χ : tC} {n : Nat} : fr h (hR h χ n) := fun k i e => by
  have e9 : k ≠ 9 := fun z => by rw [z] at e; cases e
  have e10 : k ≠ 10 := fun z => by rw [z] at e; cases e
  exact hR_o ⟨e9, e10⟩
theorem hR_2 {h : tH} {χ : tC} {n : Nat} : (hR h χ n).2 = h.2 := rfl
theorem c95 {h : tH} {D d n : Nat} (hd : h.1 0 3 = nI D) (hD : D ≤ 6) (hdD : d < D) (t1 : tn h (70 + d) n) (w : WS (tX h (70 + d)) n) : rn 95 [.ref 0, .int (nI d)] h (RI (nI (pc (tri (tX h (70 + d)) n)))) (t_I (t_I (hR h (tX h (70 + d)) n) (40 + d) 4 (tri (tX h (70 + d)) n)) (40 + d) 5 1) := by
  intro Q
  have hd6 : d < 6 := by omega
  have h7 := t1.2.2
  have q := m_23 t1
  have q2 := m_29 (h := hR h (tX h (70 + d)) n) (χ := tX h (70 + d)) (n := n) hR_10 hR_9 (rd_RM h7 _) w h7
  have e4 : (t_I (t_I (hR h (tX h (70 + d)) n) (40 + d) 4 (tri (tX h (70 + d)) n)) (40 + d) 5 1).1 (40 + d) 4 = tri (tX h (70 + d)) n := by
    rw [t_I_at, if_neg (by omega), t_I_at, if_pos ⟨rfl, rfl⟩]
  rw [am_95, s_95_0, c75 hd hD hdD]
  simp only [t_ob_0', true_and, t_kq_r, va_rf_s, s_95_5, o40 hd6, e30, q, t_kv]
  rw [show hM (t_I h 9 1 (nI n)) (rdM (tX h (70 + d)) n (h.1 10)) = hR h (tX h (70 + d)) n from rfl, q2]
  simp only [t_ki, true_and, or_true, e4, m_1]
/-! the model -/
def eT (T : Int32) (c : Nat) : Bool := !decide (c / 7 = c % 7) && bt T (sx (c / 7) (c % 7))
/-- with the edges of a drawing told -/
def hE (h : tH) (d : Nat) (T : Int32) : tH := (fun a b => if a = 25 ∧ 49 * d ≤ b ∧ b < 49 * d + 49 then zb (eT T (b - 49 * d)) else h.1 a b, h.2)
theorem hE_o {h : tH} {d a b : Nat} {T : Int32} (e : ¬ (a = 25 ∧ 49 * d ≤ b ∧ b < 49 * d + 49)) : (hE h d T).1 a b = h.1 a b := if_neg e
theorem hE_at {h : tH} {d i j : Nat} {T : Int32} (hi : i < 7) (hj : j < 7) : (hE h d T).1 25 (49 * d + 7 * i + j) = zb (!decide (i = j) && bt T (sx i j)) := by
  show (if 25 = 25 ∧ 49 * d ≤ 49 * d + 7 * i + j ∧ 49 * d + 7 * i + j < 49 * d + 49 then zb (eT T (49 * d + 7 * i + j - 49 * d)) else _) = _
  rw [if_pos ⟨rfl, by omega, by omega⟩]
  unfold eT
  rw [show (49 * d + 7 * i + j - 49 * d) / 7 = i by omega, show (49 * d + 7 * i + j - 49 * d) % 7 = j by omega]
theorem hE_I {h : tH} {d i j : Nat} {T : Int32} (hi : i < 7) (hj : j < 7) (ij : i ≠ j) : t_I (t_I (hE h d T) 25 (49 * d + 7 * i + j) 1) 25 (49 * d + 7 * j + i) 1 = hE h d (T ||| one (sx i j)) := by
  have s := sx_lt hi hj ij
  refine Prod.ext ?_ rfl
  funext a b
  show (if a = 25 ∧ b = 49 * d + 7 * j + i then (1 : Int32) else if a = 25 ∧ b = 49 * d + 7 * i + j then 1 else if a = 25 ∧ 49 * d ≤ b ∧ b < 49 * d + 49 then zb (eT T (b - 49 * d)) else h.1 a b) = (if a = 25 ∧ 49 * d ≤ b ∧ b < 49 * d + 49 then zb (eT (T ||| one (sx i j)) (b - 49 * d)) else h.1 a b)
  by_cases e : a = 25 ∧ 49 * d ≤ b ∧ b < 49 * d + 49
  · obtain ⟨x, y, hx, hy, eb⟩ : ∃ x y, x < 7 ∧ y < 7 ∧ b = 49 * d + 7 * x + y := ⟨(b - 49 * d) / 7, (b - 49 * d) % 7, by omega, by omega, by omega⟩
    have et : ∀ T, eT T (b - 49 * d) = (!decide (x = y) && bt T (sx x y)) := fun T => by
      unfold eT
      rw [show (b - 49 * d) / 7 = x by omega, show (b - 49 * d) % 7 = y by omega]
    rw [if_pos e, if_pos e, et, et, b_or, bt_one (by omega)]
    by_cases e1 : b = 49 * d + 7 * j + i
    · obtain ⟨rfl, rfl⟩ : x = j ∧ y = i := by omega
      rw [if_pos ⟨e.1, e1⟩, decide_eq_false (fun z => ij z.symm), decide_eq_true (sx_comm x y)]
      simp [zb]
    · rw [if_neg (by omega)]
      by_cases e2 : b = 49 * d + 7 * i + j
      · obtain ⟨rfl, rfl⟩ : x = i ∧ y = j := by omega
        rw [if_pos ⟨e.1, e2⟩, decide_eq_false ij, decide_eq_true rfl]
        simp [zb]
      · rw [if_neg (by omega)]
        by_cases xy : x = y
        · rw [decide_eq_true xy]; rfl
        · have : ¬ sx x y = sx i j := fun z => by
            rcases sx_un hx hy hi hj xy ij z with ⟨p, q⟩ | ⟨p, q⟩
            · exact e2 (by rw [eb, p, q])
            · exact e1 (by rw [eb, p, q])
          rw [decide_eq_false this, Bool.or_false]
  · rw [if_neg (by omega), if_neg (by omega), if_neg e, if_neg e]
theorem n4977 (d i j : Nat) : (49 : Int32) * nI d + 7 * nI i + nI j = nI (49 * d + 7 * i + j) := by
  rw [Int32.mul_comm 49, Int32.mul_comm 7, show (49 : Int32) = nI 49 from rfl, show (7 : Int32) = nI 7 from rfl, pk_mul, pk_mul, nI_add, nI_add]
  congr 1
  omega
theorem n163 {h : tH} {d i j : Nat} {x : Int32} (hx : x = 0 ∨ x = 1) (hd : d < 6) (hi : i < 7) (hj : j < 7) (Q : tO → tH → Prop) : AM 163 [.ref 13, .int (nI d), .int (nI i), .int (nI j), .int x] h Q = Q (.inl none) (t_I (t_I h 25 (49 * d + 7 * i + j) x) 25 (49 * d + 7 * j + i) x) := by
  rw [am_163, s_163_0, n4977, n4977]
  simp (disch := omega) only [t_ob_13, true_and, vI, nC, hx]
theorem n164 {h : tH} {d n i j : Nat} {T : Int32} {χ : tC} (ht : ty h d n) (hχ : tY h d = χ) (hd : d < 6) (hi : i < n) (hj : j < n) (Q : tO → tH → Prop) : AM 164 [.ref 13, .int (nI d), .int (nI i), .int (nI j)] (hE h d T) Q = Q (RI (zb (!fre χ n T i j))) (hE h d T) := by
  obtain ⟨-, hc, h7⟩ := ht
  have c1 : (hE h d T).1 19 d = nI n := by rw [hE_o (by omega), hc]
  have cY : tY (hE h d T) d = χ := by rw [← hχ]; exact tY_o fun c _ => hE_o (by omega)
  have inn : ∀ k, k < n → ∀ m l, l + m = n → k < l → ∀ b : Bool, AX 3 164 23 [.ref 13, .int (nI d), .int (nI i), .int (nI j), .int (zb (!b)), .int (nI k), .int (nI l)] [] (hE h d T) Q = AX 3 164 6 [.ref 13, .int (nI d), .int (nI i), .int (nI j), .int (zb (!(b && aB (fun l => !(bt T (sx k l) && qcross χ i j k l)) l m))), .int (nI (k + 1)), .int (nI n)] [] (hE h d T) Q := by
    intro k hk m
    induction m with
    | zero =>
      intro l hl kl b
      have : l = n := by omega
      subst this
      rw [s_164_23, nC (by omega), c1, if_pos (Int32.le_refl _), nI_1]
      simp (disch := omega) only [t_ob_13, true_and, vI, aB, Bool.and_true]
    | succ m ih =>
      intro l hl kl b
      have k0 := ih (l + 1) (by omega) (by omega) false
      have k1 := ih (l + 1) (by omega) (by omega) true
      simp only [Bool.not_true, Bool.not_false, zb_t, zb_f, Bool.false_and] at k0 k1
      have ne : ¬ k = l := by omega
      have he : (hE h d T).1 25 (49 * d + 7 * k + l) = zb (bt T (sx k l)) := by
        rw [hE_at (by omega) (by omega), decide_eq_false ne]
        rfl
      rw [s_164_23, nC (by omega), c1]
      simp (disch := omega) only [t_ob_13, true_and, vI, nI_le', zb_0, s_164_65, s_164_69, s_164_70, n162 hd (show k < 7 by omega) (show l < 7 by omega) he, t_ki, n142 (show d < 7 by omega) (show i < 7 by omega) (show j < 7 by omega) (show k < 7 by omega) (show l < 7 by omega), cY, nI_1]
      rw [if_neg (by omega)]
      cases b with
      | false =>
        rw [if_pos (by simp), k0]
        simp [zb]
      | true =>
        rw [if_neg (by simp)]
        by_cases e1 : bt T (sx k l) = true
        · by_cases e2 : qcross χ i j k l = true
          · rw [if_neg (by simp [e1]), if_neg (by simp [e2]), k0]
            simp [aB, e1, e2, zb]
          · rw [if_neg (by simp [e1]), if_pos (by simpa using e2), k1]
            simp [aB, e1, e2]
        · rw [if_pos (by simpa using e1), k1]
          simp [aB, e1]
  have out : ∀ m k, k + m = n → ∀ (b : Bool) (w : Value), AX 3 164 6 [.ref 13, .int (nI d), .int (nI i), .int (nI j), .int (zb (!b)), .int (nI k), w] [] (hE h d T) Q = Q (RI (zb (!(b && aB (fun k => aB (fun l => !(bt T (sx k l) && qcross χ i j k l)) (k + 1) (n - (k + 1))) k m)))) (hE h d T) := by
    intro m
    induction m with
    | zero =>
      intro k hk b w
      have : k = n := by omega
      subst this
      rw [s_164_6, nC (by omega), c1, if_pos (Int32.le_refl _)]
      simp (disch := omega) only [t_ob_13, true_and, vI, zb_z, aB, Bool.and_true]
    | succ m ih =>
      intro k hk b w
      rw [s_164_6, nC (by omega), c1]
      simp (disch := omega) only [t_ob_13, true_and, vI, nI_le', nI_1]
      rw [if_neg (by omega), inn k (by omega) (n - (k + 1)) (k + 1) (by omega) (by omega), ih (k + 1) (by omega)]
      simp only [aB, Bool.and_assoc]
  rw [am_164, s_164_0]
  have := out n 0 (by omega) true (.float 0)
  simp only [Bool.not_true, zb_f, Bool.true_and] at this
  exact this
theorem n165 {g : tH} {D d n : Nat} {χ : tC} (hd : g.1 13 8 = nI D) (hD : D ≤ 6) (hdD : d < D) (ht : ty g d n) (hχ : tY g d = χ) : rn 165 [.ref 13, .int (nI d)] g (RI (nI (fd2 (stp2 χ n) n (0, 0)).2)) (t_I (hE (t_I g 13 0 0) d (fd2 (stp2 χ n) n (0, 0)).1) 24 d 1) := by
  intro Q
  have h7 := ht.2.2
  have hd6 : d < 6 := by omega
  have hx : pI (nI d) D = true := by rw [pI_nI (by omega) (by omega)]; simpa using hdD
  obtain ⟨k, hk⟩ : ∃ k, k = t_I g 13 0 0 := ⟨_, rfl⟩
  have tk : ty k d n := by rw [hk]; exact ty_13 ht
  have ky : tY k d = χ := by rw [hk, tY_13, hχ]
  have cl := lp (α := tH) (β := Unit) (L := fun c g _ => AX 4 165 28 [.ref 13, .int (nI d), .int (nI c), .float 0, .float 0] [] g Q) (E := fun g => AX 4 165 56 [.ref 13, .int (nI d), .int (nI 0), .int (nI 0), .float 0] [] g Q) (f := fun c g => t_I g 25 (49 * d + c) 0) (n := 49) (fun _ _ => True)
    (fun g w _ => by
      rw [s_165_28, if_pos (show (49 : Int32) ≤ nI 49 from Int32.le_refl _)]
      rfl)
    (fun c g w F hc _ hF => by
      have e : ((49 : Int32) ≤ nI c) = (49 ≤ c) := nI_le' (a := 49) (b := c) (by omega) (by omega)
      rw [s_165_28, if_neg (by rw [e]; omega), n49]
      simp (disch := omega) only [t_ob_13, true_and, true_or, vI, nC, nI_1]
      exact hF _ () trivial)
  have ce : fd (fun c g => t_I g 25 (49 * d + c) 0) 0 49 k = hE k d 0 := by
    have := fd_inv (I := fun m (g' : tH) => (∀ a b, g'.1 a b = if a = 25 ∧ 49 * d ≤ b ∧ b < 49 * d + m then 0 else k.1 a b) ∧ g'.2 = k.2) (f := fun c g => t_I g 25 (49 * d + c) 0) 49 0 k
      ⟨fun a b => by rw [if_neg (by omega)], rfl⟩ (fun c g' _ _ ⟨i1, i2⟩ => ⟨fun a b => by
        rw [t_I_at, i1]
        by_cases e : a = 25 ∧ b = 49 * d + c
        · rw [if_pos e, if_pos (by omega)]
        · rw [if_neg e]
          by_cases e2 : a = 25 ∧ 49 * d ≤ b ∧ b < 49 * d + c
          · rw [if_pos e2, if_pos (by omega)]
          · rw [if_neg e2, if_neg (by omega)], i2⟩)
    refine Prod.ext ?_ this.2
    funext a b
    rw [this.1 a b]
    show _ = (if a = 25 ∧ 49 * d ≤ b ∧ b < 49 * d + 49 then zb (eT 0 (b - 49 * d)) else k.1 a b)
    have z : zb (eT 0 (b - 49 * d)) = 0 := by unfold eT; rw [b_0, Bool.and_false]; rfl
    rw [z]
  have l := lt2 (α := Int32 × Nat) (β := Value) (γ := Unit) (n := n)
    (L1 := fun i a w => AX 4 165 56 [.ref 13, .int (nI d), .int (nI a.2), .int (nI i), w] [] (hE k d a.1) Q)
    (L2 := fun i j a _ => AX 4 165 71 [.ref 13, .int (nI d), .int (nI a.2), .int (nI i), .int (nI j)] [] (hE k d a.1) Q)
    (E := fun a => Q (RI (nI a.2)) (t_I (hE k d a.1) 24 d 1)) (f := stp2 χ n)
    (fun a w => by
      rw [s_165_56, nC (by omega), hE_o (by omega), tk.2.1, if_pos (Int32.le_refl _)]
      simp (disch := omega) only [t_ob_13, true_and, or_true, vI])
    (fun i a w hi => ⟨(), by
      rw [s_165_56, nC (by omega), hE_o (by omega), tk.2.1]
      simp (disch := omega) only [t_ob_13, true_and, vI, nI_le', nI_1]
      rw [if_neg (by omega)]⟩)
    (fun i a w hi => ⟨.int (nI n), by
      rw [s_165_71, nC (by omega), hE_o (by omega), tk.2.1, if_pos (Int32.le_refl _)]
      simp (disch := omega) only [t_ob_13, true_and, vI, nI_1]⟩)
    (fun i j a w hij hj => ⟨(), by
      rw [s_165_71, nC (by omega), hE_o (by omega), tk.2.1]
      simp (disch := omega) only [t_ob_13, true_and, vI, nI_le', nI_1, n164 tk ky hd6 (show i < n by omega) hj, t_ki, zb_0, s_165_105, n163 (x := 1) (Or.inr rfl) hd6 (show i < 7 by omega) (show j < 7 by omega), t_kv, hE_I (show i < 7 by omega) (show j < 7 by omega) (show i ≠ j by omega)]
      rw [if_neg (by omega)]
      unfold stp2
      by_cases e : fre χ n a.1 i j = true
      · rw [if_neg (by simp [e]), if_pos e]
      · rw [if_pos (by simpa using e), if_neg e]⟩)
  rw [am_165, s_165_0, n101 hd (by omega), hx]
  simp only [t_ob_13, true_and, t_ki, zb_0, Bool.true_eq_false, if_false]
  rw [← hk, if_pos (show k.1 13 0 ≤ 0 by rw [hk]; exact Int32.le_refl _)]
  refine Eq.trans (cl 49 0 (by omega) k () trivial) ?_
  rw [ce]
  exact l (0, 0) (.float 0)
theorem op_triangulate {h : tH} (hI : IV h) (x : Int32) : opI h 196 [.ref 0, .int x, .ref 32] 165 [.ref 13, .int x] := by
  obtain ⟨D, h1, h2, h3, h4⟩ := IV_D hI
  by_cases hx : pI x D = true
  · obtain ⟨d, hd, rfl⟩ := (pI_iff (by omega)).mp hx
    obtain ⟨n, hn⟩ := h4 d hd
    have hd6 : d < 6 := by omega
    obtain ⟨t1, t2⟩ := DV_t hd6 hn
    have n7' := t1.2.2
    obtain ⟨b1, b2, b3, b4, b5, b6, b7, ⟨b8, b81, b82⟩, -⟩ := id hn
    have r1 := c95 h1 h3 hd t1 b6
    obtain ⟨χ, hχ⟩ : ∃ χ, χ = tX h (70 + d) := ⟨_, rfl⟩
    rw [← hχ] at r1 b5 b6 b7
    obtain ⟨v1, v2, v3⟩ := tri_inv b6 n7'
    obtain ⟨T, hT⟩ : ∃ T, T = tri χ n := ⟨_, rfl⟩
    rw [← hT] at r1 v1 v2 v3
    obtain ⟨A, hA⟩ : ∃ A, A = t_I (t_I (hR h χ n) (40 + d) 4 T) (40 + d) 5 1 := ⟨_, rfl⟩
    rw [← hA] at r1
    have aA : ∀ a b, a ≠ 9 → a ≠ 10 → A.1 a b = if a = 40 + d ∧ b = 5 then 1 else if a = 40 + d ∧ b = 4 then T else h.1 a b := fun a b e1 e2 => by
      rw [hA, t_I_at, t_I_at, hR_o ⟨e1, e2⟩]
    obtain ⟨g, hg⟩ : ∃ g, g = t_L A 32 0 (nI (pc T)).toInt64 := ⟨_, rfl⟩
    have ag : ∀ a b, g.1 a b = A.1 a b := fun _ _ => by rw [hg]; rfl
    have gl : ∀ a b, 10 < a → a < 40 → g.1 a b = h.1 a b := fun a b e1 e2 => by
      rw [ag, aA _ _ (by omega) (by omega), if_neg (by omega), if_neg (by omega)]
    have gY : tY g d = χ := by rw [b5]; exact tY_o fun c _ => gl _ _ (by decide) (by decide)
    have r2 := n165 (g := g) (n := n) (by rw [gl _ _ (by decide) (by decide)]; exact h2) h3 hd ⟨by omega, by rw [gl _ _ (by decide) (by decide)]; exact t2.2.1, n7'⟩ gY
    rw [stp2_1, ← hT, ← v3] at r2
    obtain ⟨Z, hZ⟩ : ∃ Z, Z = t_I (hE (t_I g 13 0 0) d T) 24 d 1 := ⟨_, rfl⟩
    rw [← hZ] at r2
    have zo : ∀ a b, ¬ ((a = 24 ∧ b = d) ∨ (a = 25 ∧ 49 * d ≤ b ∧ b < 49 * d + 49) ∨ (a = 13 ∧ b = 0)) → Z.1 a b = g.1 a b := fun a b e => by
      rw [hZ, t_I_at, if_neg (by omega), hE_o (by omega), t_I_at, if_neg (by omega)]
    have eX : tX Z (70 + d) = χ := by
      rw [hχ]
      exact tX_o fun c _ => by rw [zo _ _ (by omega), ag, aA _ _ (by omega) (by omega), if_neg (by omega), if_neg (by omega)]
    have eY : tY Z d = χ := by
      rw [← gY]
      exact tY_o fun c _ => zo _ _ (by omega)
    have z4 : Z.1 (40 + d) 4 = T := by rw [zo _ _ (by omega), ag, aA _ _ (by omega) (by omega), if_neg (by omega), if_pos ⟨rfl, rfl⟩]
    have v' : DV Z d n := by
      refine ⟨b1, b2, ?_, ?_, eX.trans eY.symm, ?_, ?_, ⟨b8, ?_, ?_⟩, ⟨true, ?_, ?_, fun _ => ?_⟩⟩
      · rw [zo _ _ (by omega), ag, aA _ _ (by omega) (by omega), if_neg (by omega), if_neg (by omega)]; exact b3
      · rw [zo _ _ (by omega), gl _ _ (by decide) (by decide)]; exact b4
      · rw [eX]; exact b6
      · rw [eX]; exact b7
      · rw [zo _ _ (by omega), ag, aA _ _ (by omega) (by omega), if_neg (by omega), if_neg (by omega)]; exact b81
      · rw [zo _ _ (by omega), gl _ _ (by decide) (by decide)]; exact b82
      · rw [zo _ _ (by omega), ag, aA _ _ (by omega) (by omega), if_pos ⟨rfl, rfl⟩]; rfl
      · rw [hZ, t_I_at, if_pos ⟨rfl, rfl⟩]; rfl
      · unfold TV
        rw [eX, z4]
        refine ⟨fun i j hi hj => ?_, v2⟩
        rw [hZ, t_I_o (by decide), hE_at (by omega) (by omega)]
    have f : frX d h Z := fun k i e e' => by
      have e13 : ¬ (k = 13 ∧ i = 0) := fun z => by rw [z.1, z.2] at e; cases e
      have e9 : k ≠ 9 := fun z => by rw [z] at e; cases e
      have e10 : k ≠ 10 := fun z => by rw [z] at e; cases e
      rw [zo _ _ (by omega), ag, aA _ _ e9 e10, if_neg (by omega), if_neg (by omega)]
    refine ⟨0, g, Z, nI (pc T), by decide, ?_, r2, IV_upd hI h1 h3 hd f v', ?_, fun _ => ?_⟩
    · rw [hg]; exact r_196 r1
    · rw [hZ, t_I_o (by decide), hE_o (by omega), t_13_0]; rfl
    · rw [hZ, hg]; rfl
  · refine opI_f hI (k := 1) (by decide) (by decide) (r_196_e2 fun Q => ?_) fun Q => ?_
    · rw [am_95, s_95_0, c75x h1 h3 (pI_x hx)]
      simp only [t_ob_0', true_and, t_kq_E]
    · rw [am_165, s_165_0, n101 (h := t_X h) h2 (by omega), pI_x hx]
      simp only [t_ob_13, true_and, t_ki, zb_0, if_true]
      rw [if_neg (show ¬ (t_I (t_X h) 13 0 1).1 13 0 ≤ 0 by rw [t_13_0]; decide)]
      rfl
