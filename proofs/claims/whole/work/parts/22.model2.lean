/-! ===== the model: hulls, crossings, triangles ===== -/
theorem n136 {d n p : Nat} {set : Int32} {h : tH} (ht : ty h d n) (hp : p < n) (Q : tO → tH → Prop) : AM 136 [.ref 13, .int (nI d), .int set, .int (nI p)] h Q = Q (.inl (some (.int (pafter (tY h d) n set p)))) h := by
  obtain ⟨hd, hc, hn⟩ := id ht
  have hp7 : p < 7 := by omega
  have bit : ∀ q, q < 7 → ((set >>> (nI q &&& 31)) &&& 1 = 1) = (bt set q = true) := fun q hq => shr_iff (by omega)
  have l2 := fun (A : Prop) (q : Nat) (hq : q < n) (hA : ∀ w w' w'', AX 2 136 3 [.ref 13, .int (nI d), .int set, .int (nI p), .int (nI (q + 1)), w, w', w''] [] h Q = A) =>
    lpa (β := Value) (L := fun c b w => AX 2 136 40 [.ref 13, .int (nI d), .int set, .int (nI p), .int (nI q), .int (zb b), .int (nI c), w] [] h Q) (E := fun b => if b = true then Q (.inl (some (.int (nI q)))) h else A) (f := fun c => decide (c = p) || decide (c = q) || !bt set c || decide (tY h d p q c = 1)) (n := n)
      (fun b w => by
        rw [s_136_40, nC (by omega), hc, vI hd (by omega)]
        simp only [t_ob_13, true_and, s_136_118, zb_0, nI_1, hA]
        rw [if_pos (Int32.le_refl _)]
        cases b <;> simp)
      (fun c w hc' => by
        rw [s_136_40, nC (by omega), hc, vI hd (by omega)]
        simp only [t_ob_13, true_and, s_136_118, zb_0, nI_1, hA, if_true]
        split <;> simp)
      (fun c w A B hc' hA hB => by
        simp only [zb_t, zb_f] at hA hB
        have hc7 : c < 7 := by omega
        have hq7 : q < 7 := by omega
        rw [s_136_40, nC (by omega), hc, vI hd (by omega)]
        simp (disch := first | assumption | omega) only [t_ob_13, true_and, s_136_105, s_136_110, nI_1, hA, hB, zb_0, nI_le', nI_eq', bit, n104, t_ki]
        rw [if_neg (by omega), if_neg (by simp)]
        by_cases h1 : c = p
        · simp [h1]
        by_cases h2 : c = q
        · simp [h1, h2]
        by_cases h3 : bt set c = true
        · by_cases h4 : tY h d p q c = 1 <;> simp [h1, h2, h3, h4]
        · simp [h1, h2, h3])
  have l1 := lpF (β := Value × Value × Value) (L := fun q w => AX 2 136 3 [.ref 13, .int (nI d), .int set, .int (nI p), .int (nI q), w.1, w.2.1, w.2.2] [] h Q) (E := fun x => Q (.inl (some (.int x))) h) (f := fun b => !decide (b = p) && bt set b && pside (tY h d) n set p b) (n := n)
      (fun w => by
        rw [s_136_3, nC (by omega), hc, vI hd (by omega)]
        simp only [t_ob_13, true_and]
        rw [if_pos (Int32.le_refl _)])
      (fun q w A hq hA => by
        have hq7 : q < 7 := by omega
        have l3 := l2 A q hq (fun w w' w'' => hA (w, w', w'')) n 0 (by omega)
        have l4 := l3 true w.2.2
        have l5 := l3 false w.2.2
        simp only [zb_t, zb_f] at l4 l5
        rw [s_136_3, nC (by omega), hc, vI hd (by omega)]
        simp (disch := first | assumption | omega) only [t_ob_13, true_and, nI_le', nI_eq', bit]
        rw [if_neg (by omega)]
        by_cases h1 : q = p
        · rw [if_pos h1]
          rw [show (0 : Int32) = nI 0 from rfl] at l5 ⊢
          rw [l5]
          simp [h1]
        · rw [if_neg h1]
          by_cases h2 : bt set q = true
          · rw [if_neg (by simp [h2])]
            rw [show (0 : Int32) = nI 0 from rfl, l4]
            simp [h1, h2, pside]
          · rw [if_pos (by simp [h2])]
            rw [show (0 : Int32) = nI 0 from rfl] at l5 ⊢
            rw [l5]
            simp [h2])
  rw [am_136, s_136_0]
  exact l1 n 0 (by omega) (.float 0, .float 0, .float 0)
/-- the hull's points as the model tells them -/
def qhull (χ : tC) (n : Nat) (set : Int32) : Int32 := pO (fun p => bt set p && !decide (pafter χ n set p = -1)) 0 n 0
theorem n137 {d n : Nat} {set : Int32} {h : tH} (ht : ty h d n) (Q : tO → tH → Prop) : AM 137 [.ref 13, .int (nI d), .int set] h Q = Q (.inl (some (.int (qhull (tY h d) n set)))) h := by
  obtain ⟨hd, hc, hn⟩ := id ht
  have bit : ∀ q, q < 7 → ((set >>> (nI q &&& 31)) &&& 1 = 1) = (bt set q = true) := fun q hq => shr_iff (by omega)
  have loop : ∀ (m p : Nat) (x : Int32), p + m = n → AX 3 137 5 [.ref 13, .int (nI d), .int set, .int x, .int (nI p)] [] h Q = Q (.inl (some (.int (pO (fun p => bt set p && !decide (pafter (tY h d) n set p = -1)) p m x)))) h := by
    intro m
    induction m with
    | zero =>
      intro p x hpn
      have : p = n := by omega
      subst this
      rw [s_137_5, nC (by omega), hc, vI hd (by omega)]
      simp (disch := omega) only [t_ob_13, true_and, nI_le', Nat.le_refl, if_true, pO]
    | succ m ih =>
      intro p x hpn
      have hp : p < n := by omega
      have hp7 : p < 7 := by omega
      rw [s_137_5, nC (by omega), hc, vI hd (by omega)]
      simp (disch := first | assumption | omega) only [t_ob_13, true_and, nI_le', bit, n136 ht hp, t_ki, s_137_46, s_137_47, nI_1, pO]
      rw [if_neg (by omega), show (1 : Int32) <<< (nI p &&& 31) = one p from rfl]
      by_cases h1 : bt set p = true
      · by_cases h2 : pafter (tY h d) n set p = -1
        · rw [if_neg (by simp [h1]), if_pos h2, ih _ _ (by omega)]
          simp [h2]
        · rw [if_neg (by simp [h1]), if_neg h2, ih _ _ (by omega)]
          simp [h1, h2]
      · rw [if_pos h1, ih _ _ (by omega)]
        simp [h1]
  rw [am_137, s_137_0]
  exact loop n 0 0 (by omega)
theorem n139 {d n : Nat} {h : tH} (ht : ty h d n) (Q : tO → tH → Prop) : AM 139 [.ref 13, .int (nI d)] h Q = Q (.inl (some (.int (one n - 1)))) h := by
  obtain ⟨hd, hc, hn⟩ := id ht
  rw [am_139, s_139_0, nC (by omega), hc, vI hd (by omega)]
  simp only [t_ob_13, true_and]
  rfl
def qcross (χ : tC) (a b c d : Nat) : Bool := !(decide (a = b) || decide (a = c) || decide (a = d) || decide (b = c) || decide (b = d) || decide (c = d)) && pparts χ a b c d
theorem n142 {d a b c e : Nat} {h : tH} (hd : d < 7) (ha : a < 7) (hb : b < 7) (hc : c < 7) (he : e < 7) (Q : tO → tH → Prop) : AM 142 [.ref 13, .int (nI d), .int (nI a), .int (nI b), .int (nI c), .int (nI e)] h Q = Q (.inl (some (.int (zb (qcross (tY h d) a b c e))))) h := by
  rw [am_142, s_142_0]
  simp (disch := first | assumption | omega) only [t_ob_13, true_and, n104, t_ki, s_142_96, s_142_97, nI_eq', qcross, pparts]
  by_cases h1 : a = b
  · simp [h1, zb]
  by_cases h2 : a = c
  · simp [h1, h2, zb]
  by_cases h3 : a = e
  · simp [h1, h2, h3, zb]
  by_cases h4 : b = c
  · simp [h1, h2, h3, h4, zb]
  by_cases h5 : b = e
  · simp [h1, h2, h3, h4, h5, zb]
  by_cases h6 : c = e
  · simp [h1, h2, h3, h4, h5, h6, zb]
  by_cases h7 : tY h d a b c = tY h d a b e <;> by_cases h8 : tY h d c e a = tY h d c e b <;> simp [h1, h2, h3, h4, h5, h6, h7, h8, zb]
def qin (χ : tC) (p i j k : Nat) : Bool := psame (χ i j p) (χ j k p) (χ k i p)
def qnone (χ : tC) (n i j k : Nat) : Bool := aB (fun p => decide (p = i) || decide (p = j) || decide (p = k) || !qin χ p i j k) 0 n
theorem n146 {d n i j k : Nat} {h : tH} (ht : ty h d n) (hi : i < n) (hj : j < n) (hk : k < n) (Q : tO → tH → Prop) : AM 146 [.ref 13, .int (nI d), .int (nI i), .int (nI j), .int (nI k)] h Q = Q (.inl (some (.int (zb (qnone (tY h d) n i j k))))) h := by
  obtain ⟨hd, hc, hn⟩ := id ht
  have hi7 : i < 7 := by omega
  have hj7 : j < 7 := by omega
  have hk7 : k < 7 := by omega
  have stay : ∀ m p, p + m = n → ∀ w, AX 2 146 6 [.ref 13, .int (nI d), .int (nI i), .int (nI j), .int (nI k), .int 0, .int (nI p), w] [] h Q = Q (.inl (some (.int 0))) h := by
    intro m
    induction m with
    | zero =>
      intro p hp w
      have : p = n := by omega
      subst this
      rw [s_146_6, nC (by omega), hc, vI hd (by omega)]
      simp [t_ob_13]
    | succ m ih =>
      intro p hp w
      rw [s_146_6, nC (by omega), hc, vI hd (by omega)]
      simp (disch := omega) only [t_ob_13, true_and, nI_le', if_true, s_146_92, s_146_93, nI_1, ih]
      rw [if_neg (by omega)]
  have loop := lpa (β := Value) (L := fun p b w => AX 2 146 6 [.ref 13, .int (nI d), .int (nI i), .int (nI j), .int (nI k), .int (zb b), .int (nI p), w] [] h Q) (E := fun b => Q (.inl (some (.int (zb b)))) h) (f := fun p => decide (p = i) || decide (p = j) || decide (p = k) || !qin (tY h d) p i j k) (n := n)
    (fun b w => by
      rw [s_146_6, nC (by omega), hc, vI hd (by omega)]
      simp only [t_ob_13, true_and, zb_z]
      rw [if_pos (Int32.le_refl _)])
    (fun p w hp => by simp only [zb_f]; exact stay (n - p) p (by omega) w)
    (fun p w A B hp hA hB => by
      have hp7 : p < 7 := by omega
      simp only [zb_t, zb_f] at hA hB
      rw [s_146_6, nC (by omega), hc, vI hd (by omega)]
      simp (disch := first | assumption | omega) only [t_ob_13, true_and, nI_le', nI_eq', n104, n106, t_ki, s_146_88, s_146_92, s_146_93, zb_0, nI_1, hA, hB, qin]
      rw [if_neg (by omega), if_neg (by simp)]
      by_cases h1 : p = i
      · simp [h1]
      by_cases h2 : p = j
      · simp [h1, h2]
      by_cases h3 : p = k
      · simp [h1, h2, h3]
      · by_cases h4 : psame (tY h d i j p) (tY h d j k p) (tY h d k i p) = true <;> simp [h1, h2, h3, h4])
  rw [am_146, s_146_0]
  exact loop n 0 (by omega) true (.float 0)
/-- the level of two points: the smaller of the two sides -/
def qlev (χ : tC) (n i j : Nat) : Int32 := if nI (cB (fun k => decide (χ i j k = -1)) 0 n) ≤ nI (cB (fun k => decide (χ i j k = 1)) 0 n) then nI (cB (fun k => decide (χ i j k = -1)) 0 n) else nI (cB (fun k => decide (χ i j k = 1)) 0 n)
theorem n148 {d n i j : Nat} {h : tH} (ht : ty h d n) (hi : i < n) (hj : j < n) (Q : tO → tH → Prop) : AM 148 [.ref 13, .int (nI d), .int (nI i), .int (nI j)] h Q = Q (.inl (some (.int (qlev (tY h d) n i j)))) h := by
  obtain ⟨hd, hc, hn⟩ := id ht
  have hi7 : i < 7 := by omega
  have hj7 : j < 7 := by omega
  have loop : ∀ (m p s r : Nat), p + m = n → AX 2 148 9 [.ref 13, .int (nI d), .int (nI i), .int (nI j), .int (nI s), .int (nI r), .int (nI p)] [] h Q =
      Q (.inl (some (.int (if nI (r + cB (fun k => decide (tY h d i j k = -1)) p m) ≤ nI (s + cB (fun k => decide (tY h d i j k = 1)) p m) then nI (r + cB (fun k => decide (tY h d i j k = -1)) p m) else nI (s + cB (fun k => decide (tY h d i j k = 1)) p m))))) h := by
    intro m
    induction m with
    | zero =>
      intro p s r hp
      have : p = n := by omega
      subst this
      rw [s_148_9, nC (by omega), hc, vI hd (by omega)]
      simp only [t_ob_13, true_and, cB, Nat.add_zero]
      rw [if_pos (Int32.le_refl _)]
      rfl
    | succ m ih =>
      intro p s r hp
      have hp7 : p < 7 := by omega
      rw [s_148_9, nC (by omega), hc, vI hd (by omega)]
      simp (disch := first | assumption | omega) only [t_ob_13, true_and, nI_le', n104, t_ki, nI_1]
      rw [if_neg (by omega)]
      rw [show nI s + (if ¬ tY h d i j p = 1 then (0 : Int32) else 1) = nI (s + (if (decide (tY h d i j p = 1)) = true then 1 else 0)) from by
        by_cases h1 : tY h d i j p = 1
        · rw [if_neg (by simp [h1]), if_pos (by simp [h1]), nI_1]
        · rw [if_pos h1, if_neg (by simp [h1])]; simp]
      rw [show nI r + (if ¬ tY h d i j p = -1 then (0 : Int32) else 1) = nI (r + (if (decide (tY h d i j p = -1)) = true then 1 else 0)) from by
        by_cases h1 : tY h d i j p = -1
        · rw [if_neg (by simp [h1]), if_pos (by simp [h1]), nI_1]
        · rw [if_pos h1, if_neg (by simp [h1])]; simp]
      rw [ih _ _ _ (by omega)]
      simp only [cB, Nat.add_assoc]
      rfl
  rw [am_148, s_148_0]
  have := loop n 0 0 0 (by omega)
  rw [Nat.zero_add, Nat.zero_add] at this
  exact this
