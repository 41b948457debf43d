/-! ===== rename ===== -/
def g3 (i j k l : Nat) (T : Nat → Int32) : Nat → Int32 := pT (pT T i k l (cut T j k l)) j k l (cut T i k l)
def g2 (i j n k : Nat) (T : Nat → Int32) : Nat → Int32 := fd (fun l T => if l = i ∨ l = j then T else g3 i j k l T) (k + 1) (n - (k + 1)) (pT T i j k (-(cut T i j k)))
def g1 (i j n : Nat) (T : Nat → Int32) : Nat → Int32 := fd (fun k T => if k = i ∨ k = j then T else g2 i j n k T) 0 n T
theorem cut_g1 {i j n : Nat} (h7 : n ≤ 7) (hi : i < 7) (hj : j < 7) (T : Nat → Int32) : cut (g1 i j n T) = E1 i j n (cut T) := by
  unfold g1 E1
  refine fd_map (φ := cut) _ _ _ fun k T k1 k2 => ?_
  by_cases e : k = i ∨ k = j
  · rw [if_pos e, if_pos e]
  · rw [if_neg e, if_neg e]
    unfold g2 E2
    rw [← cut_p hi hj (by omega)]
    refine fd_map (φ := cut) _ _ _ fun l T l1 l2 => ?_
    by_cases e' : l = i ∨ l = j
    · rw [if_pos e', if_pos e']
    · rw [if_neg e', if_neg e']
      unfold g3 E3
      rw [cut_p hj (by omega) (by omega), cut_p hi (by omega) (by omega)]
theorem m_44 {h : tH} {r n i j : Nat} (t : tn h r n) (hi : i < n) (hj : j < n) (Q : tO → tH → Prop) : AM 44 [.ref r, .int (nI i), .int (nI j)] h Q = Q (.inl none) (hT h (r + 10) (g1 i j n (h.1 (r + 10)))) := by
  obtain ⟨ho, hc, h7⟩ := t
  have hi7 : i < 7 := by omega
  have hj7 : j < 7 := by omega
  have c1 : ∀ T, (hT h (r + 10) T).1 r 1 = nI n := fun T => by rw [hT_o (by omega), hc]
  have l2 := fun (k : Nat) (hk : k < n) (ki : k ≠ i) (kj : k ≠ j) (F : (Nat → Int32) → Prop) (hF : ∀ T w, AX 2 44 2 [.ref r, .int (nI i), .int (nI j), .int (nI (k + 1)), .int (nI n), w] [] (hT h (r + 10) T) Q = F T) =>
    lp (α := Nat → Int32) (β := Value) (L := fun l T w => AX 2 44 43 [.ref r, .int (nI i), .int (nI j), .int (nI k), .int (nI l), w] [] (hT h (r + 10) T) Q) (E := F) (f := fun l T => if l = i ∨ l = j then T else g3 i j k l T) (n := n) (fun l _ => k < l)
      (fun T w _ => by
        rw [s_44_43, c1, if_pos (Int32.le_refl _), s_44_109, nI_1, hF]
        simp only [ho, true_and])
      (fun l T w G hl kl hG => by
        have hk7 : k < 7 := by omega
        have hl7 : l < 7 := by omega
        rw [s_44_43, c1]
        simp (disch := omega) only [ho, true_and, nI_le', nI_eq', s_44_103, nI_1, m_of ho hi7 hk7 hl7, m_of ho hj7 hk7 hl7, m_put ho hi7 hk7 hl7, m_put ho hj7 hk7 hl7, t_ki, t_kv, cut_X, hT_put]
        rw [if_neg (by omega)]
        by_cases e1 : l = i
        · rw [if_pos e1, if_pos (Or.inl e1)]
          exact hG _ _ (by omega)
        · by_cases e2 : l = j
          · rw [if_neg e1, if_neg (by simpa using e2), if_pos (Or.inr e2)]
            exact hG _ _ (by omega)
          · rw [if_neg e1, if_pos e2, if_neg (by omega)]
            exact hG _ _ (by omega))
  have l1 := lp (α := Nat → Int32) (β := Value × Value) (L := fun k T w => AX 2 44 2 [.ref r, .int (nI i), .int (nI j), .int (nI k), w.1, w.2] [] (hT h (r + 10) T) Q) (E := fun T => Q (.inl none) (hT h (r + 10) T)) (f := fun k T => if k = i ∨ k = j then T else g2 i j n k T) (n := n) (fun _ _ => True)
      (fun T w _ => by
        rw [s_44_2, c1, if_pos (Int32.le_refl _)]
        simp only [ho, true_and])
      (fun k T w G hk _ hG => by
        have hk7 : k < 7 := by omega
        rw [s_44_2, c1]
        simp (disch := omega) only [ho, true_and, nI_le', nI_eq', s_44_109, nI_1, m_of ho hi7 hj7 hk7, m_put ho hi7 hj7 hk7, t_ki, t_kv, cut_X, hT_put]
        rw [if_neg (by omega)]
        by_cases e1 : k = i
        · rw [if_pos e1, if_pos (Or.inl e1)]
          exact hG _ w trivial
        · by_cases e2 : k = j
          · rw [if_neg e1, if_neg (by simpa using e2), if_pos (Or.inr e2)]
            exact hG _ w trivial
          · rw [if_neg e1, if_pos e2, if_neg (by omega)]
            exact l2 k hk e1 e2 G (fun T w => hG T (.int (nI n), w) trivial) (n - (k + 1)) (k + 1) (by omega) _ _ (by omega))
  have l0 := l1 n 0 (by omega) (h.1 (r + 10)) (.float 0, .float 0) trivial
  rw [hT_r] at l0
  rw [am_44, s_44_0]
  exact l0
/-- what the class's rename leaves -/
def rA (h : tH) (d i j n : Nat) : tH := t_I (t_I (t_I (t_I (t_I (hT h (80 + d) (g1 i j n (h.1 (80 + d)))) (50 + d) i (h.1 (50 + d) j)) (50 + d) j (h.1 (50 + d) i)) (60 + d) i (h.1 (60 + d) j)) (60 + d) j (h.1 (60 + d) i)) (40 + d) 5 0
theorem c72 {h : tH} {D d n : Nat} {a b : Int32} (hd : h.1 0 3 = nI D) (hD : D ≤ 6) (hdD : d < D) (t : tn h (70 + d) n) (Q : tO → tH → Prop) : AM 72 [.ref 0, .int (nI d), .int a, .int b] h Q = (if (pI a n && pI b n) = true then (if a = b then Q (.inr 0) (t_X h) else AM 44 [.ref (70 + d), .int a, .int b] h (t_kv (fun h3 => AM 8 [.ref (50 + d), .int a, .int b] h3 (t_kv (fun h4 => AM 8 [.ref (60 + d), .int a, .int b] h4 (t_kv (fun h5 => Q (.inl none) (t_I h5 (40 + d) 5 0)) Q)) Q)) Q)) else Q (.inr 2) (t_X h)) := by
  have hd6 : d < 6 := by omega
  rw [am_72, s_72_0, c75 hd hD hdD]
  simp only [t_ob_0', true_and, t_kq_r, va_rf_s, s_72_5, c76f hd6 t, o40 hd6, e30, o70 hd6, e10, e20, true_or]
  by_cases k1 : pI a n = true
  · by_cases k2 : pI b n = true
    · by_cases q : a = b
      · simp [k1, k2, q]
      · simp [k1, k2, q]
    · simp [k1, pI_x k2]
  · simp [pI_x k1]
theorem c72s {h : tH} {D d n i j : Nat} (hd : h.1 0 3 = nI D) (hD : D ≤ 6) (hdD : d < D) (t : tn h (70 + d) n) (hi : i < n) (hj : j < n) (ij : i ≠ j) : rn 72 [.ref 0, .int (nI d), .int (nI i), .int (nI j)] h (.inl none) (rA h d i j n) := by
  intro Q
  have hd6 : d < 6 := by omega
  have h7 := t.2.2
  have p1 : pI (nI i) n = true := by rw [pI_nI (by omega) (by omega)]; simpa using hi
  have p2 : pI (nI j) n = true := by rw [pI_nI (by omega) (by omega)]; simpa using hj
  have ne : ¬ nI i = nI j := by rw [nI_eq' (by omega) (by omega)]; exact ij
  have e80 : 70 + d + 10 = 80 + d := by omega
  have m := m_44 t hi hj
  rw [e80] at m
  rw [c72 hd hD hdD t, p1, p2, if_pos (show (true && true) = true from rfl), if_neg ne, m]
  simp only [t_kv, m_exch (a50 hd6) (show i < 7 by omega) (show j < 7 by omega), m_exch (a60 hd6) (show i < 7 by omega) (show j < 7 by omega)]
  have q1 : ∀ x, (hT h (80 + d) (g1 i j n (h.1 (80 + d)))).1 (50 + d) x = h.1 (50 + d) x := fun x => hT_o (by omega) x
  have q2 : ∀ u v x, (t_I (t_I (hT h (80 + d) (g1 i j n (h.1 (80 + d)))) (50 + d) i u) (50 + d) j v).1 (60 + d) x = h.1 (60 + d) x := fun u v x => by
    rw [t_I_o (by omega), t_I_o (by omega), hT_o (by omega)]
  rw [q1, q1, q2, q2]
  rfl
/-- the model's row after the names are exchanged -/
def rT (i j : Nat) (S : Nat → Int32) (T : Nat → Int32) : Nat → Int32 := fd (fun a T => fd (fun b T => fd (fun c T => upd T (49 * a + 7 * b + c) (S (49 * sw i j a + 7 * sw i j b + sw i j c))) 0 7 T) 0 7 T) 0 7 T
theorem rT_at {i j a b c : Nat} {S T : Nat → Int32} (ha : a < 7) (hb : b < 7) (hc : c < 7) : rT i j S T (49 * a + 7 * b + c) = S (49 * sw i j a + 7 * sw i j b + sw i j c) := by
  have keep : ∀ a' b' c' (T : Nat → Int32), a' < 7 → b' < 7 → c' < 7 → T (49 * a + 7 * b + c) = S (49 * sw i j a + 7 * sw i j b + sw i j c) → upd T (49 * a' + 7 * b' + c') (S (49 * sw i j a' + 7 * sw i j b' + sw i j c')) (49 * a + 7 * b + c) = S (49 * sw i j a + 7 * sw i j b + sw i j c) := by
    intro a' b' c' T h1 h2 h3 hT
    show (if 49 * a + 7 * b + c = 49 * a' + 7 * b' + c' then _ else _) = _
    by_cases e : 49 * a + 7 * b + c = 49 * a' + 7 * b' + c'
    · rw [if_pos e]
      obtain ⟨e1, e2, e3⟩ : a = a' ∧ b = b' ∧ c = c' := by omega
      rw [e1, e2, e3]
    · rw [if_neg e]; exact hT
  refine fd_hit (I := fun T : Nat → Int32 => T (49 * a + 7 * b + c) = S (49 * sw i j a + 7 * sw i j b + sw i j c)) (u := a) 7 0 T (by omega) (by omega) (fun a' T _ h1 hT => ?_) fun T => ?_
  · exact fd_inv (I := fun _ (T : Nat → Int32) => T (49 * a + 7 * b + c) = S (49 * sw i j a + 7 * sw i j b + sw i j c)) _ _ _ hT fun b' T _ h2 hT => fd_inv (I := fun _ (T : Nat → Int32) => T (49 * a + 7 * b + c) = S (49 * sw i j a + 7 * sw i j b + sw i j c)) _ _ _ hT fun c' T _ h3 hT => keep a' b' c' T (by omega) (by omega) (by omega) hT
  · refine fd_hit (I := fun T : Nat → Int32 => T (49 * a + 7 * b + c) = S (49 * sw i j a + 7 * sw i j b + sw i j c)) (u := b) 7 0 T (by omega) (by omega) (fun b' T _ h2 hT => ?_) fun T => ?_
    · exact fd_inv (I := fun _ (T : Nat → Int32) => T (49 * a + 7 * b + c) = S (49 * sw i j a + 7 * sw i j b + sw i j c)) _ _ _ hT fun c' T _ h3 hT => keep a b' c' T (by omega) (by omega) (by omega) hT
    · refine fd_hit (I := fun T : Nat → Int32 => T (49 * a + 7 * b + c) = S (49 * sw i j a + 7 * sw i j b + sw i j c)) (u := c) 7 0 T (by omega) (by omega) (fun c' T _ h3 hT => keep a b c' T (by omega) (by omega) (by omega) hT) fun T => ?_
      show (if 49 * a + 7 * b + c = 49 * a + 7 * b + c then _ else _) = _
      rw [if_pos rfl]
/-- what the model's rename leaves -/
def rZ (g : tH) (d i j : Nat) (S T : Nat → Int32) : tH := t_I (t_I (t_I (t_I (t_I (hU (hU (t_I g 13 0 0) 6 S) d T) 22 (7 * d + i) (g.1 22 (7 * d + j))) 23 (7 * d + i) (g.1 23 (7 * d + j))) 22 (7 * d + j) (g.1 22 (7 * d + i))) 23 (7 * d + j) (g.1 23 (7 * d + i))) 24 d 0
