/-! ===== rename ===== -/
def g3 (i j k l : Nat) (T : Nat → Int32) : Nat → Int32 := pT (pT T i k l (cut T j k l)) j k l (cut T i k l)
def g2 (i j n k : Nat) (T : Nat → Int32) : Nat → Int32 := fd (fun l T => if l = i ∨ l = j then T else g3 i j k l T) (k + 1) (n - (k + 1)) (pT T i j k (-(cut T i j k)))
def g1 (i j n : Nat) (T : Nat → Int32) : Nat → Int32 := fd (fun k T => if k = i ∨ k = j then T else g2 i j n k T) 0 n T
theorem cut_g1 {i j n : Nat} (h7 : n ≤ 7) (hi : i < 7) (hj : j < 7) (T : Nat → Int32) : cut (g1 i j n T) = E1 i j n (cut T) := by
  unfold g1 E1
  refine fd_map (φ := cut) _ _ _ fun k T k1 k2 => ?_
  by_cases e : k = i ∨ k = j
  · rw [if_pos e, if_pos e]
  · rw [if_neg e, if_neg e]
    unfold g2 E2
    rw [← cut_p hi hj (by omega)]
    refine fd_map (φ := cut) _ _ _ fun l T l1 l2 => ?_
    by_cases e' : l = i ∨ l = j
    · rw [if_pos e', if_pos e']
    · rw [if_neg e', if_neg e']
      unfold g3 E3
      rw [cut_p hj (by omega) (by omega), cut_p hi (by omega) (by omega)]
theorem m_44 {h : tH} {r n i j : Nat} (t : tn h r n) (hi : i < n) (hj : j < n) (Q : tO → tH → Prop) : AM 44 [.ref r, .int (nI i), .int (nI j)] h Q = Q (.inl none) (hT h (r + 10) (g1 i j n (h.1 (r + 10)))) := by
  obtain ⟨ho, hc, h7⟩ := t
  have hi7 : i < 7 := by omega
  have hj7 : j < 7 := by omega
  have c1 : ∀ T, (hT h (r + 10) T).1 r 1 = nI n := fun T => by rw [hT_o (by omega), hc]
  have l2 := fun (k : Nat) (hk : k < n) (ki : k ≠ i) (kj : k ≠ j) (F : (Nat → Int32) → Prop) (hF : ∀ T w, AX 2 44 2 [.ref r, .int (nI i), .int (nI j), .int (nI (k + 1)), .int (nI n), w] [] (hT h (r + 10) T) Q = F T) =>
    lp (α := Nat → Int32) (β := Value) (L := fun l T w => AX 2 44 43 [.ref r, .int (nI i), .int (nI j), .int (nI k), .int (nI l), w] [] (hT h (r + 10) T) Q) (E := F) (f := fun l T => if l = i ∨ l = j then T else g3 i j k l T) (n := n) (fun l _ => k < l)
      (fun T w _ => by
        rw [s_44_43, c1, if_pos (Int32.le_refl _), s_44_109, nI_1, hF]
        simp only [ho, true_and])
      (fun l T w G hl kl hG => by
        have hk7 : k < 7 := by omega
        have hl7 : l < 7 := by omega
        rw [s_44_43, c1]
        simp (disch := omega) only [ho, true_and, nI_le', nI_eq', s_44_103, nI_1, m_of ho hi7 hk7 hl7, m_of ho hj7 hk7 hl7, m_put ho hi7 hk7 hl7, m_put ho hj7 hk7 hl7, t_ki, t_kv, cut_X, hT_put]
        rw [if_neg (by omega)]
        by_cases e1 : l = i
        · rw [if_pos e1, if_pos (Or.inl e1)]
          exact hG _ _ (by omega)
        · by_cases e2 : l = j
          · rw [if_neg e1, if_neg (by simpa using e2), if_pos (Or.inr e2)]
            exact hG _ _ (by omega)
          · rw [if_neg e1, if_pos e2, if_neg (by omega)]
            exact hG _ _ (by omega))
  have l1 := lp (α := Nat → Int32) (β := Value × Value) (L := fun k T w => AX 2 44 2 [.ref r, .int (nI i), .int (nI j), .int (nI k), w.1, w.2] [] (hT h (r + 10) T) Q) (E := fun T => Q (.inl none) (hT h (r + 10) T)) (f := fun k T => if k = i ∨ k = j then T else g2 i j n k T) (n := n) (fun _ _ => True)
      (fun T w _ => by
        rw [s_44_2, c1, if_pos (Int32.le_refl _)]
        simp only [ho, true_and])
      (fun k T w G hk _ hG => by
        have hk7 : k < 7 := by omega
        rw [s_44_2, c1]
        simp (disch := omega) only [ho, true_and, nI_le', nI_eq', s_44_109, nI_1, m_of ho hi7 hj7 hk7, m_put ho hi7 hj7 hk7, t_ki, t_kv, cut_X, hT_put]
        rw [if_neg (by omega)]
        by_cases e1 : k = i
        · rw [if_pos e1, if_pos (Or.inl e1)]
          exact hG _ w trivial
        · by_cases e2 : k = j
          · rw [if_neg e1, if_neg (by simpa using e2), if_pos (Or.inr e2)]
            exact hG _ w trivial
          · rw [if_neg e1, if_pos e2, if_neg (by omega)]
            exact l2 k hk e1 e2 G (fun T w => hG T (.int (nI n), w) trivial) (n - (k + 1)) (k + 1) (by omega) _ _ (by omega))
  have l0 := l1 n 0 (by omega) (h.1 (r + 10)) (.float 0, .float 0) trivial
  rw [hT_r] at l0
  rw [am_44, s_44_0]
  exact l0
/-- what the class's rename leaves -/
def rA (h : tH) (d i j n : Nat) : tH := t_I (t_I (t_I (t_I (t_I (hT h (80 + d) (g1 i j n (h.1 (80 + d)))) (50 + d) i (h.1 (50 + d) j)) (50 + d) j (h.1 (50 + d) i)) (60 + d) i (h.1 (60 + d) j)) (60 + d) j (h.1 (60 + d) i)) (40 + d) 5 0
theorem c72 {h : tH} {D d n : Nat} {a b : Int32} (hd : h.1 0 3 = nI D) (hD : D ≤ 6) (hdD : d < D) (t : tn h (70 + d) n) (Q : tO → tH → Prop) : AM 72 [.ref 0, .int (nI d), .int a, .int b] h Q = (if (pI a n && pI b n) = true then (if a = b then Q (.inr 0) (t_X h) else AM 44 [.ref (70 + d), .int a, .int b] h (t_kv (fun h3 => AM 8 [.ref (50 + d), .int a, .int b] h3 (t_kv (fun h4 => AM 8 [.ref (60 + d), .int a, .int b] h4 (t_kv (fun h5 => Q (.inl none) (t_I h5 (40 + d) 5 0)) Q)) Q)) Q)) else Q (.inr 2) (t_X h)) := by
  have hd6 : d < 6 := by omega
  rw [am_72, s_72_0, c75 hd hD hdD]
  simp only [t_ob_0', true_and, t_kq_r, va_rf_s, s_72_5, c76f hd6 t, o40 hd6, e30, o70 hd6, e10, e20, true_or]
  by_cases k1 : pI a n = true
  · by_cases k2 : pI b n = true
    · by_cases q : a = b
      · simp [k1, k2, q]
      · simp [k1, k2, q]
    · simp [k1, pI_x k2]
  · simp [pI_x k1]
theorem c72s {h : tH} {D d n i j : Nat} (hd : h.1 0 3 = nI D) (hD : D ≤ 6) (hdD : d < D) (t : tn h (70 + d) n) (hi : i < n) (hj : j < n) (ij : i ≠ j) : rn 72 [.ref 0, .int (nI d), .int (nI i), .int (nI j)] h (.inl none) (rA h d i j n) := by
  intro Q
  have hd6 : d < 6 := by omega
  have h7 := t.2.2
  have p1 : pI (nI i) n = true := by rw [pI_nI (by omega) (by omega)]; simpa using hi
  have p2 : pI (nI j) n = true := by rw [pI_nI (by omega) (by omega)]; simpa using hj
  have ne : ¬ nI i = nI j := by rw [nI_eq' (by omega) (by omega)]; exact ij
  have e80 : 70 + d + 10 = 80 + d := by omega
  have m := m_44 t hi hj
  rw [e80] at m
  rw [c72 hd hD hdD t, p1, p2, if_pos (show (true && true) = true from rfl), if_neg ne, m]
  simp only [t_kv, m_exch (a50 hd6) (show i < 7 by omega) (show j < 7 by omega), m_exch (a60 hd6) (show i < 7 by omega) (show j < 7 by omega)]
  have q1 : ∀ x, (hT h (80 + d) (g1 i j n (h.1 (80 + d)))).1 (50 + d) x = h.1 (50 + d) x := fun x => hT_o (by omega) x
  have q2 : ∀ u v x, (t_I (t_I (hT h (80 + d) (g1 i j n (h.1 (80 + d)))) (50 + d) i u) (50 + d) j v).1 (60 + d) x = h.1 (60 + d) x := fun u v x => by
    rw [t_I_o (by omega), t_I_o (by omega), hT_o (by omega)]
  rw [q1, q1, q2, q2]
  rfl
/-- the model's row after the names are exchanged -/
def rT (i j : Nat) (S : Nat → Int32) (T : Nat → Int32) : Nat → Int32 := fd (fun a T => fd (fun b T => fd (fun c T => upd T (49 * a + 7 * b + c) (S (49 * sw i j a + 7 * sw i j b + sw i j c))) 0 7 T) 0 7 T) 0 7 T
theorem rT_at {i j a b c : Nat} {S T : Nat → Int32} (ha : a < 7) (hb : b < 7) (hc : c < 7) : rT i j S T (49 * a + 7 * b + c) = S (49 * sw i j a + 7 * sw i j b + sw i j c) := by
  have keep : ∀ a' b' c' (T : Nat → Int32), a' < 7 → b' < 7 → c' < 7 → T (49 * a + 7 * b + c) = S (49 * sw i j a + 7 * sw i j b + sw i j c) → upd T (49 * a' + 7 * b' + c') (S (49 * sw i j a' + 7 * sw i j b' + sw i j c')) (49 * a + 7 * b + c) = S (49 * sw i j a + 7 * sw i j b + sw i j c) := by
    intro a' b' c' T h1 h2 h3 hT
    show (if 49 * a + 7 * b + c = 49 * a' + 7 * b' + c' then _ else _) = _
    by_cases e : 49 * a + 7 * b + c = 49 * a' + 7 * b' + c'
    · rw [if_pos e]
      obtain ⟨e1, e2, e3⟩ : a = a' ∧ b = b' ∧ c = c' := by omega
      rw [e1, e2, e3]
    · rw [if_neg e]; exact hT
  refine fd_hit (I := fun T : Nat → Int32 => T (49 * a + 7 * b + c) = S (49 * sw i j a + 7 * sw i j b + sw i j c)) (u := a) 7 0 T (by omega) (by omega) (fun a' T _ h1 hT => ?_) fun T => ?_
  · exact fd_inv (I := fun _ (T : Nat → Int32) => T (49 * a + 7 * b + c) = S (49 * sw i j a + 7 * sw i j b + sw i j c)) _ _ _ hT fun b' T _ h2 hT => fd_inv (I := fun _ (T : Nat → Int32) => T (49 * a + 7 * b + c) = S (49 * sw i j a + 7 * sw i j b + sw i j c)) _ _ _ hT fun c' T _ h3 hT => keep a' b' c' T (by omega) (by omega) (by omega) hT
  · refine fd_hit (I := fun T : Nat → Int32 => T (49 * a + 7 * b + c) = S (49 * sw i j a + 7 * sw i j b + sw i j c)) (u := b) 7 0 T (by omega) (by omega) (fun b' T _ h2 hT => ?_) fun T => ?_
    · exact fd_inv (I := fun _ (T : Nat → Int32) => T (49 * a + 7 * b + c) = S (49 * sw i j a + 7 * sw i j b + sw i j c)) _ _ _ hT fun c' T _ h3 hT => keep a b' c' T (by omega) (by omega) (by omega) hT
    · refine fd_hit (I := fun T : Nat → Int32 => T (49 * a + 7 * b + c) = S (49 * sw i j a + 7 * sw i j b + sw i j c)) (u := c) 7 0 T (by omega) (by omega) (fun c' T _ h3 hT => keep a b c' T (by omega) (by omega) (by omega) hT) fun T => ?_
      show (if 49 * a + 7 * b + c = 49 * a + 7 * b + c then _ else _) = _
      rw [if_pos rfl]
theorem n127 {h : tH} {x i j : Nat} (hx : x < 7) (hi : i < 7) (hj : j < 7) (Q : tO → tH → Prop) : AM 127 [.int (nI x), .int (nI i), .int (nI j)] h Q = Q (RI (nI (sw i j x))) h := by
  rw [am_127, s_127_0]
  simp (disch := omega) only [nI_eq']
  unfold sw
  by_cases e1 : x = i
  · simp [e1]
  · by_cases e2 : x = j
    · simp [e1, e2]
      by_cases e3 : j = i
      · simp [e3]
      · simp [e3]
    · simp [e1, e2]
/-- what the model's rename leaves -/
def rZ (g : tH) (d i j : Nat) (S T : Nat → Int32) : tH := t_I (t_I (t_I (t_I (t_I (hU (hU (t_I g 13 0 0) 6 S) d T) 22 (7 * d + i) (g.1 22 (7 * d + j))) 23 (7 * d + i) (g.1 23 (7 * d + j))) 22 (7 * d + j) (g.1 22 (7 * d + i))) 23 (7 * d + j) (g.1 23 (7 * d + i))) 24 d 0
theorem n128 {g : tH} {D d n i j : Nat} (hd : g.1 13 8 = nI D) (hD : D ≤ 6) (hdD : d < D) (ht : ty g d n) (hi : i < n) (hj : j < n) (ij : i ≠ j) : rn 128 [.ref 13, .int (nI d), .int (nI i), .int (nI j)] g (.inl none) (rZ g d i j (fun c => g.1 20 (343 * d + c)) (rT i j (fun c => g.1 20 (343 * d + c)) (fun c => g.1 20 (343 * d + c)))) := by
  intro Q
  have h7 := ht.2.2
  have hd6 : d < 6 := by omega
  have hi7 : i < 7 := by omega
  have hj7 : j < 7 := by omega
  have hx : pI (nI d) D = true := by rw [pI_nI (by omega) (by omega)]; simpa using hdD
  have p1 : pI (nI i) n = true := by rw [pI_nI (by omega) (by omega)]; simpa using hi
  have p2 : pI (nI j) n = true := by rw [pI_nI (by omega) (by omega)]; simpa using hj
  have ne : ¬ nI i = nI j := by rw [nI_eq' (by omega) (by omega)]; exact ij
  obtain ⟨S, hS⟩ : ∃ S : Nat → Int32, S = fun c => g.1 20 (343 * d + c) := ⟨_, rfl⟩
  rw [← hS]
  obtain ⟨k, hk⟩ : ∃ k, k = t_I g 13 0 0 := ⟨_, rfl⟩
  have k20 : ∀ T c, c < 343 → (hU k 6 T).1 20 (343 * d + c) = S c := fun T c hc => by
    rw [hU_o (by omega), hk, t_I_o (by decide), hS]
  have n2058 : ∀ c, (2058 : Int32) + nI c = nI (343 * 6 + c) := fun c => by rw [show (2058 : Int32) = nI 2058 from rfl, nI_add]
  have l1 := lp (α := Nat → Int32) (β := Unit) (L := fun c T _ => AX 2 128 67 [.ref 13, .int (nI d), .int (nI i), .int (nI j), .int 1, .int (nI c), .float 0, .float 0] [] (hU k 6 T) Q) (E := fun T => AX 2 128 108 [.ref 13, .int (nI d), .int (nI i), .int (nI j), .int 1, .int (nI 0), .float 0, .float 0] [] (hU k 6 T) Q) (f := fun c T => upd T c (S c)) (n := 343) (fun _ _ => True)
    (fun T w _ => by
      rw [s_128_67, if_pos (show (343 : Int32) ≤ nI 343 from Int32.le_refl _)]
      rfl)
    (fun c T w F hc _ hF => by
      have e : ((343 : Int32) ≤ nI c) = (343 ≤ c) := nI_le' (a := 343) (b := c) (by omega) (by omega)
      rw [s_128_67, if_neg (by rw [e]; omega), n343, n2058]
      simp (disch := omega) only [t_ob_13, true_and, vI, nC, k20, hU_I, nI_1]
      exact hF _ () trivial)
  have l10 := l1 343 0 (by omega) (fun c => k.1 20 (343 * 6 + c)) () trivial
  rw [hU_r, hU_ext (T' := S) fun c hc => fd_upd (F := S) 343 c hc] at l10
  obtain ⟨k6, hk6⟩ : ∃ k6, k6 = hU k 6 S := ⟨_, rfl⟩
  rw [← hk6] at l10
  have y6 : ∀ T (a b c : Nat), a < 7 → b < 7 → c < 7 → tY (hU k6 d T) 6 a b c = S (49 * a + 7 * b + c) := fun T a b c ha hb hc => by
    unfold tY
    rw [if_pos ⟨ha, hb, hc⟩, hU_o (by omega), hk6, show 343 * 6 + 49 * a + 7 * b + c = 343 * 6 + (49 * a + 7 * b + c) by omega, hU_at (by omega)]
  -- one cell
  have cell : ∀ T (a b c : Nat), a < 7 → b < 7 → c < 7 → ∀ (f : Int32 → Int32 → tH → Prop), AM 103 [.int (nI d), .int (nI a), .int (nI b), .int (nI c)] (hU k6 d T) (t_ki (fun a1 h1 => AM 127 [.int (nI a), .int (nI i), .int (nI j)] h1 (t_ki (fun a2 h2 => AM 127 [.int (nI b), .int (nI i), .int (nI j)] h2 (t_ki (fun a3 h3 => AM 127 [.int (nI c), .int (nI i), .int (nI j)] h3 (t_ki (fun a4 h4 => (t_ob 13 = some 7 ∧ AM 104 [.ref 13, .int 6, .int a2, .int a3, .int a4] h4 (t_ki (fun a5 h5 => f a1 a5 h5) Q))) Q)) Q)) Q)) Q) = f (nI (343 * d + (49 * a + 7 * b + c))) (S (49 * sw i j a + 7 * sw i j b + sw i j c)) (hU k6 d T) := fun T a b c ha hb hc f => by
    have s1 := sw_lt (i := i) (j := j) hi7 hj7 ha
    have s2 := sw_lt (i := i) (j := j) hi7 hj7 hb
    have s3 := sw_lt (i := i) (j := j) hi7 hj7 hc
    have q := fun f => n104 (d := 6) (i := sw i j a) (j := sw i j b) (k := sw i j c) (h := hU k6 d T) (by decide) s1 s2 s3 (t_ki f Q)
    simp only [n103, t_ki, n127 ha hi7 hj7, n127 hb hi7 hj7, n127 hc hi7 hj7, t_ob_13, true_and]
    rw [show (6 : Int32) = nI 6 from rfl, q, y6 T _ _ _ s1 s2 s3, show 343 * d + 49 * a + 7 * b + c = 343 * d + (49 * a + 7 * b + c) by omega]
    rfl
  have fin : ∀ T w w', AX 2 128 108 [.ref 13, .int (nI d), .int (nI i), .int (nI j), .int 1, .int (nI 7), w, w'] [] (hU k6 d T) Q = Q (.inl none) (t_I (t_I (t_I (t_I (t_I (hU k6 d T) 22 (7 * d + i) (g.1 22 (7 * d + j))) 23 (7 * d + i) (g.1 23 (7 * d + j))) 22 (7 * d + j) (g.1 22 (7 * d + i))) 23 (7 * d + j) (g.1 23 (7 * d + i))) 24 d 0) := fun T w w' => by
    have q : ∀ a b, a = 22 ∨ a = 23 → (hU k6 d T).1 a b = g.1 a b := fun a b e => by
      rw [hU_o (by omega), hk6, hU_o (by omega), hk, t_I_o (by omega)]
    have i22 : ∀ (g : tH) p, p < 7 → t_in (t_ai g 22) (nI (7 * d + p)) = True := fun g p hp => t_in_ai (show t_ar 22 = some (0, 42) from rfl) (by omega)
    have i23 : ∀ (g : tH) p, p < 7 → t_in (t_ai g 23) (nI (7 * d + p)) = True := fun g p hp => t_in_ai (show t_ar 23 = some (0, 42) from rfl) (by omega)
    rw [s_128_108, if_pos (show (7 : Int32) ≤ nI 7 from Int32.le_refl _), n7, n7]
    simp (disch := omega) only [t_ob_13, true_and, vI, nC, i22 _ i hi7, i22 _ j hj7, i23 _ i hi7, i23 _ j hj7, true_or]
    rw [t_I_o (show 23 ≠ 22 by decide), q _ _ (Or.inl rfl), q _ _ (Or.inl rfl), q _ _ (Or.inr rfl), q _ _ (Or.inr rfl)]
  have l4 := fun (a b : Nat) (ha : a < 7) (hb : b < 7) (F : (Nat → Int32) → Prop) (hF : ∀ T, AX 2 128 118 [.ref 13, .int (nI d), .int (nI i), .int (nI j), .int 1, .int (nI a), .int (nI (b + 1)), .int (nI 7)] [] (hU k6 d T) Q = F T) =>
    lp (α := Nat → Int32) (β := Unit) (L := fun c T _ => AX 2 128 128 [.ref 13, .int (nI d), .int (nI i), .int (nI j), .int 1, .int (nI a), .int (nI b), .int (nI c)] [] (hU k6 d T) Q) (E := F) (f := fun c T => upd T (49 * a + 7 * b + c) (S (49 * sw i j a + 7 * sw i j b + sw i j c))) (n := 7) (fun _ _ => True)
      (fun T w _ => by rw [s_128_128, if_pos (show (7 : Int32) ≤ nI 7 from Int32.le_refl _), nI_1, hF])
      (fun c T w G hc _ hG => by
        have e : ((7 : Int32) ≤ nI c) = (7 ≤ c) := nI_le' (a := 7) (b := c) (by omega) (by omega)
        rw [s_128_128, if_neg (by rw [e]; omega), cell T a b c ha hb hc, nI_1]
        simp (disch := omega) only [t_ob_13, true_and, vI, nC, hU_I]
        exact hG _ () trivial)
  have l3 := fun (a : Nat) (ha : a < 7) (F : (Nat → Int32) → Prop) (hF : ∀ T w, AX 2 128 108 [.ref 13, .int (nI d), .int (nI i), .int (nI j), .int 1, .int (nI (a + 1)), .int (nI 7), w] [] (hU k6 d T) Q = F T) =>
    lp (α := Nat → Int32) (β := Value) (L := fun b T w => AX 2 128 118 [.ref 13, .int (nI d), .int (nI i), .int (nI j), .int 1, .int (nI a), .int (nI b), w] [] (hU k6 d T) Q) (E := F) (f := fun b T => fd (fun c T => upd T (49 * a + 7 * b + c) (S (49 * sw i j a + 7 * sw i j b + sw i j c))) 0 7 T) (n := 7) (fun _ _ => True)
      (fun T w _ => by rw [s_128_118, if_pos (show (7 : Int32) ≤ nI 7 from Int32.le_refl _), nI_1, hF])
      (fun b T w G hb _ hG => by
        have e : ((7 : Int32) ≤ nI b) = (7 ≤ b) := nI_le' (a := 7) (b := b) (by omega) (by omega)
        rw [s_128_118, if_neg (by rw [e]; omega)]
        exact l4 a b ha hb G (fun T => hG T _ trivial) 7 0 (by omega) T () trivial)
  have l2 := lp (α := Nat → Int32) (β := Value × Value) (L := fun a T w => AX 2 128 108 [.ref 13, .int (nI d), .int (nI i), .int (nI j), .int 1, .int (nI a), w.1, w.2] [] (hU k6 d T) Q) (E := fun T => Q (.inl none) (t_I (t_I (t_I (t_I (t_I (hU k6 d T) 22 (7 * d + i) (g.1 22 (7 * d + j))) 23 (7 * d + i) (g.1 23 (7 * d + j))) 22 (7 * d + j) (g.1 22 (7 * d + i))) 23 (7 * d + j) (g.1 23 (7 * d + i))) 24 d 0)) (f := fun a T => fd (fun b T => fd (fun c T => upd T (49 * a + 7 * b + c) (S (49 * sw i j a + 7 * sw i j b + sw i j c))) 0 7 T) 0 7 T) (n := 7) (fun _ _ => True)
      (fun T w _ => fin T w.1 w.2)
      (fun a T w G ha _ hG => by
        have e : ((7 : Int32) ≤ nI a) = (7 ≤ a) := nI_le' (a := 7) (b := a) (by omega) (by omega)
        rw [s_128_108, if_neg (by rw [e]; omega)]
        exact l3 a ha G (fun T w => hG T (.int (nI 7), w) trivial) 7 0 (by omega) T _ trivial)
  have l20 := l2 7 0 (by omega) (fun c => k6.1 20 (343 * d + c)) (.float 0, .float 0) trivial
  rw [hU_r, hU_ext (T' := rT i j S S) fun c hc => by
    obtain ⟨a, b, e, ha, hb, he, rfl⟩ : ∃ a b e, a < 7 ∧ b < 7 ∧ e < 7 ∧ c = 49 * a + 7 * b + e := ⟨c / 49, c % 49 / 7, c % 7, by omega, by omega, by omega, by omega⟩
    rw [rT_at ha hb he]
    exact rT_at ha hb he] at l20
  rw [am_128, s_128_0, n101 hd (by omega), hx]
  simp only [t_ob_13, true_and, t_ki, zb_0, Bool.true_eq_false, if_false, n102 ht, p1, p2, s_128_31]
  rw [if_pos (show ¬ (1 : Int32) = 0 by decide), if_pos ne, ← hk, if_pos (show k.1 13 0 ≤ 0 by rw [hk]; exact Int32.le_refl _)]
  refine Eq.trans l10 (Eq.trans l20 ?_)
  rw [hk6, hk]
  rfl
theorem n128x {g : tH} {D : Nat} {x a b : Int32} {u : Int32} (hd : g.1 13 8 = nI D) (hD : D ≤ 6) (hh : (pI x D = false ∧ u = 1) ∨ (∃ d n, x = nI d ∧ d < D ∧ ty g d n ∧ (((pI a n && pI b n) = false ∧ u = 1) ∨ ((pI a n && pI b n) = true ∧ a = b ∧ u = 2)))) : rn 128 [.ref 13, .int x, .int a, .int b] g (.inl none) (t_I g 13 0 u) := by
  intro Q
  rcases hh with ⟨h1, rfl⟩ | ⟨d, n, rfl, hdD, ht, hh⟩
  · rw [am_128, s_128_0, n101 hd (by omega), h1]
    simp only [t_ob_13, true_and, t_ki, zb_0, if_true, s_128_30, s_128_31, not_true_eq_false, if_false]
    rw [if_neg (show ¬ (t_I g 13 0 1).1 13 0 ≤ 0 by rw [t_13_0]; decide)]
  · have hx : pI (nI d) D = true := by rw [pI_nI (by omega) (by omega)]; simpa using hdD
    rw [am_128, s_128_0, n101 hd (by omega), hx]
    simp only [t_ob_13, true_and, t_ki, zb_0, Bool.true_eq_false, if_false, n102 ht, s_128_30, s_128_31, not_true_eq_false]
    rcases hh with ⟨e1, rfl⟩ | ⟨e1, e2, rfl⟩
    · have z1 : ¬ (t_I g 13 0 1).1 13 0 ≤ 0 := by rw [t_13_0]; decide
      by_cases k1 : pI a n = true
      · have k2 : pI b n = false := by simpa [k1] using e1
        rw [if_neg (by simp [k1]), if_pos k2, if_neg z1]
      · rw [if_pos (pI_x k1), if_neg z1]
    · have z1 : ¬ (t_I g 13 0 2).1 13 0 ≤ 0 := by rw [t_13_0]; decide
      simp only [Bool.and_eq_true] at e1
      rw [if_neg (by simp [e1.1]), if_neg (by simp [e1.2]), if_pos (show ¬ (1 : Int32) = 0 by decide), if_neg (show ¬ ¬ a = b from fun z => z e2), if_neg z1]
