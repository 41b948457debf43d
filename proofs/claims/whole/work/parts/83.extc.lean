/-! ===== extensions: the class ===== -/
/-- signs of unlike points only -/
def rs (N : Nat) (χ : tC) : tC := fun i j k => if i < N ∧ j < N ∧ k < N ∧ i ≠ j ∧ j ≠ k ∧ i ≠ k then χ i j k else 0
theorem rs_v {N i j k : Nat} {χ : tC} (hi : i < N) (hj : j < N) (hk : k < N) (ij : i ≠ j) (jk : j ≠ k) (ik : i ≠ k) : rs N χ i j k = χ i j k := if_pos ⟨hi, hj, hk, ij, jk, ik⟩
theorem rs_p4 {N a b c d : Nat} {χ : tC} (ha : a < N) (hb : b < N) (hc : c < N) (hd : d < N) (ab : a ≠ b) (ac : a ≠ c) (ad : a ≠ d) (bc : b ≠ c) (bd : b ≠ d) (cd : c ≠ d) : p4 (rs N χ) a b c d = p4 χ a b c d := by
  rw [p4_F, p4_F, rs_v hb hc hd bc cd bd, rs_v ha hd hc ad cd.symm ac, rs_v ha hb hd ab bd ad, rs_v ha hc hb ac bc.symm ab]
theorem rs_p5 {N e a b c d : Nat} {χ : tC} (he : e < N) (ha : a < N) (hb : b < N) (hc : c < N) (hd : d < N) (ab : a ≠ b) (ac : a ≠ c) (ad : a ≠ d) (bc : b ≠ c) (bd : b ≠ d) (cd : c ≠ d) (ea : e ≠ a) (eb : e ≠ b) (ec : e ≠ c) (ed : e ≠ d) : p5 (rs N χ) e a b c d = p5 χ e a b c d := by
  rw [p5_F, p5_F, rs_v he ha hb ea ab eb, rs_v he hc hd ec cd ed, rs_v he ha hc ea ac ec, rs_v he hd hb ed bd.symm eb, rs_v he ha hd ea ad ed, rs_v he hb hc eb bc ec]
theorem rs_fits {N i j k : Nat} {χ : tC} (hi : i < N) (hj : j < N) (hk : k < N) (ij : i ≠ j) (jk : j ≠ k) (ik : i ≠ k) : pfits (rs N χ) N i j k = pfits χ N i j k := by
  rw [Bool.eq_iff_iff, pfits_iff, pfits_iff]
  have e4 : ∀ x, x < N → x ≠ i → x ≠ j → x ≠ k → p4 (rs N χ) i j k x = p4 χ i j k x := fun x hx x1 x2 x3 => rs_p4 hi hj hk hx ij ik x1.symm jk x2.symm x3.symm
  have e5 : ∀ x y, x < y → y < N → x ≠ i → x ≠ j → x ≠ k → y ≠ i → y ≠ j → y ≠ k → p5a (rs N χ) i j k x y = p5a χ i j k x y := fun x y xy hy x1 x2 x3 y1 y2 y3 => by
    have hx : x < N := by omega
    have ne : x ≠ y := by omega
    unfold p5a
    rw [rs_p5 hi hj hk hx hy jk x2.symm y2.symm x3.symm y3.symm ne ij ik x1.symm y1.symm, rs_p5 hj hi hk hx hy ik x1.symm y1.symm x3.symm y3.symm ne ij.symm jk x2.symm y2.symm, rs_p5 hk hi hj hx hy ij x1.symm y1.symm x2.symm y2.symm ne ik.symm jk.symm x3.symm y3.symm]
  constructor
  · intro h x hx x1 x2 x3
    obtain ⟨a, b⟩ := h x hx x1 x2 x3
    exact ⟨by rw [← e4 x hx x1 x2 x3]; exact a, fun y xy hy y1 y2 y3 => by rw [← e5 x y xy hy x1 x2 x3 y1 y2 y3]; exact b y xy hy y1 y2 y3⟩
  · intro h x hx x1 x2 x3
    obtain ⟨a, b⟩ := h x hx x1 x2 x3
    exact ⟨by rw [e4 x hx x1 x2 x3]; exact a, fun y xy hy y1 y2 y3 => by rw [e5 x y xy hy x1 x2 x3 y1 y2 y3]; exact b y xy hy y1 y2 y3⟩
theorem rs_set {N i j k : Nat} {x : Int32} {χ : tC} (hi : i < N) (hj : j < N) (hk : k < N) (ij : i ≠ j) (jk : j ≠ k) (ik : i ≠ k) : rs N (setC χ i j k x) = setC (rs N χ) i j k x := by
  funext a b c
  show (if a < N ∧ b < N ∧ c < N ∧ a ≠ b ∧ b ≠ c ∧ a ≠ c then setC χ i j k x a b c else 0) = _
  by_cases e : a < N ∧ b < N ∧ c < N ∧ a ≠ b ∧ b ≠ c ∧ a ≠ c
  · rw [if_pos e, setC_at, setC_at, show rs N χ a b c = χ a b c from if_pos e]
  · rw [if_neg e, setC_at, if_neg (by omega), if_neg (by omega), if_neg (by omega), if_neg (by omega), if_neg (by omega), if_neg (by omega)]
    exact (if_neg e).symm
theorem pT_pT {T : Nat → Int32} {i j k : Nat} {x y : Int32} : pT (pT T i j k x) i j k y = pT T i j k y := by
  funext c
  unfold pT upd
  repeat' split
  all_goals first | rfl | contradiction
theorem pT_0 {T : Nat → Int32} {i j k : Nat} (h1 : T (49 * i + 7 * j + k) = 0) (h2 : T (49 * j + 7 * k + i) = 0) (h3 : T (49 * k + 7 * i + j) = 0) (h4 : T (49 * i + 7 * k + j) = 0) (h5 : T (49 * k + 7 * j + i) = 0) (h6 : T (49 * j + 7 * i + k) = 0) : pT T i j k 0 = T := by
  funext c
  unfold pT upd
  repeat' split
  all_goals first
    | rfl
    | (rename_i e; rw [e]; simp only [h1, h2, h3, h4, h5, h6]; try rfl)
theorem lev50 {r k : Nat} {i j : Int32} (hk : k < 30) : t_lev tq_50 [.ref r, .int i, .int j, .int (nI k)] = 35 - k := by
  show 5 + (30 - (nI k).toNatClampNeg) = 35 - k
  rw [nC (by omega)]
  omega
theorem ob76 : t_ob 76 = some 6 := rfl
theorem m_41x {h : tH} {T : Nat → Int32} {i j k : Nat} {x : Int32} (hi : i < 7) (hj : j < 7) (hk : k < 7) (Q : tO → tH → Prop) : AM 41 [.ref 76, .int (nI i), .int (nI j), .int (nI k), .int x] (hT h 86 T) Q = Q (.inl none) (hT h 86 (pT T i j k x)) := by
  rw [m_put ob76 hi hj hk]
  exact congrArg (Q (.inl none)) (hT_put (r := 86))
theorem m_46x {h : tH} {T : Nat → Int32} {n i j : Nat} (hc : h.1 76 1 = nI (n + 1)) (h7 : n + 1 ≤ 7) (hij : i < j) (hj : j < n) (Q : tO → tH → Prop) : AM 46 [.ref 76, .int (nI i), .int (nI j), .int (nI n)] (hT h 86 T) Q = Q (RI (zb (pfits (rs (n + 1) (cut T)) (n + 1) i j n))) (hT h 86 T) := by
  have t : tn (hT h 86 T) 76 (n + 1) := ⟨ob76, by rw [hT_o (by decide)]; exact hc, h7⟩
  rw [m_fits t (by omega) (by omega) (by omega), show tX (hT h 86 T) 76 = cut T from cut_X (r := 76), rs_fits (by omega) (by omega) (by omega) (by omega) (by omega) (by omega)]
theorem sx_g1 : ∀ n, n < 6 → ∀ j, j < n + 1 → ∀ i, i < j → sx i j = nseg n → j = n := by decide +kernel
theorem sx_g2 : ∀ j, j < 6 → ∀ i, i < j → (i + 1 < j → sx (i + 1) j = sx i j + 1) ∧ (¬ i + 1 < j → sx 0 (j + 1) = sx i j + 1) := by decide +kernel
theorem sx_g3 : ∀ n, n < 6 → nseg n ≤ 10 := by decide +kernel
theorem sx_go {n : Nat} (n6 : n < 6) {j : Nat} (hj : j < n + 1) {i : Nat} (hij : i < j) : (sx i j = nseg n → j = n) ∧ (j < n → sx (if i + 1 < j then i + 1 else 0) (if i + 1 < j then j else j + 1) = sx i j + 1 ∧ (if i + 1 < j then i + 1 else 0) < (if i + 1 < j then j else j + 1) ∧ (if i + 1 < j then j else j + 1) ≤ n) ∧ nseg n ≤ 10 := by
  refine ⟨sx_g1 n n6 j hj i hij, fun h => ?_, sx_g3 n n6⟩
  obtain ⟨g1, g2⟩ := sx_g2 j (by omega) i hij
  by_cases q : i + 1 < j
  · rw [if_pos q, if_pos q]
    exact ⟨g1 q, q, by omega⟩
  · rw [if_neg q, if_neg q]
    exact ⟨g2 q, by omega, by omega⟩
theorem m_50 {h : tH} {n : Nat} (n5 : n ≤ 5) (hc : h.1 76 1 = nI (n + 1)) : ∀ m i j T, i < j → j ≤ n → sx i j + m = nseg n → V3 (rs (n + 1) (cut T)) (n + 1) → ZL (rs (n + 1) (cut T)) n (LE m i j) → ∀ Q, AM 50 [.ref 76, .int (nI i), .int (nI j), .int (nI (sx i j))] (hT h 86 T) Q = Q (RI (nI (CE n m i j (rs (n + 1) (cut T))))) (hT h 86 T) := by
  intro m
  induction m with
  | zero =>
    intro i j T hij hjn hs v z Q
    obtain ⟨g1, g2, g3⟩ := sx_go (n := n) (by omega) (j := j) (by omega) hij
    have jn := g1 (by omega)
    subst jn
    rw [am_50, lev50 (by omega), s_50_0, show (hT h 86 T).1 76 1 = nI (j + 1) from (hT_o (by decide) 1).trans hc, nI_s1]
    simp only [t_ob_76, true_and]
    rw [if_neg (by rw [nI_lt' (by omega) (by omega)]; omega)]
    rfl
  | succ m ih =>
    intro i j T hij hjn hs v z Q
    obtain ⟨g1, g2, g3⟩ := sx_go (n := n) (by omega) (j := j) (by omega) hij
    have zz := z
    rw [LE_s] at zz
    obtain ⟨-, p2, p3⟩ := zz.1 (i, j) List.mem_cons_self
    have p2 : j < n := p2
    obtain ⟨g4, g5, g6⟩ := g2 p2
    obtain ⟨ψ, hψ⟩ : ∃ ψ, ψ = rs (n + 1) (cut T) := ⟨_, rfl⟩
    obtain ⟨i', hi'⟩ : ∃ i', i' = if i + 1 < j then i + 1 else 0 := ⟨_, rfl⟩
    obtain ⟨j', hj'⟩ : ∃ j', j' = if i + 1 < j then j else j + 1 := ⟨_, rfl⟩
    rw [← hi', ← hj'] at g4 g5
    rw [← hj'] at g6
    rw [← hi', ← hj'] at zz
    rw [← hψ] at zz v p3 ⊢
    have rsx : ∀ x : Int32, rs (n + 1) (cut (pT T i j n x)) = setC ψ i j n x := fun x => by
      rw [cut_p (by omega) (by omega) (by omega), rs_set (by omega) (by omega) (by omega) (by omega) (by omega) (by omega), hψ]
    have bk : pT T i j n 0 = T := by
      have cel : ∀ a b c, a < n + 1 → b < n + 1 → c < n + 1 → a ≠ b → b ≠ c → a ≠ c → T (49 * a + 7 * b + c) = ψ a b c := fun a b c ha hb hc ab bc ac => by
        rw [hψ, rs_v ha hb hc ab bc ac]
        exact (if_pos ⟨by omega, by omega, by omega⟩).symm
      have p3 : ψ i j n = 0 := p3
      have r1 : ψ j n i = 0 := by rw [V_r v (by omega) (by omega) (by omega), p3]
      have r2 : ψ n i j = 0 := by rw [V_r v (by omega) (by omega) (by omega), r1]
      have r3 : ψ j i n = 0 := by rw [V_j v (by omega) (by omega) (by omega), p3]; rfl
      have r4 : ψ i n j = 0 := by rw [V_k v (by omega) (by omega) (by omega), p3]; rfl
      have r5 : ψ n j i = 0 := by rw [V_j v (by omega) (by omega) (by omega), r1]; rfl
      refine pT_0 ?_ ?_ ?_ ?_ ?_ ?_ <;> rw [cel _ _ _ (by omega) (by omega) (by omega) (by omega) (by omega) (by omega)] <;> assumption
    have l41 : ∀ x y z u : Int32, (t_lev tq_41 [.ref 76, .int x, .int y, .int z, .int u] < 35 - sx i j) = True := fun x y z u => eq_true (Nat.lt_of_le_of_lt (show t_lev tq_41 [.ref 76, .int x, .int y, .int z, .int u] ≤ 4 from Nat.le_of_ble_eq_true rfl) (by omega))
    have l46 : ∀ x y z : Int32, (t_lev tq_46 [.ref 76, .int x, .int y, .int z] < 35 - sx i j) = True := fun x y z => eq_true (Nat.lt_of_le_of_lt (show t_lev tq_46 [.ref 76, .int x, .int y, .int z] ≤ 4 from Nat.le_of_ble_eq_true rfl) (by omega))
    have turn : ∀ (x : Int32) (w : Nat) (U : Nat → Int32), (x = 1 ∨ x = -1) → pT U i j n x = pT T i j n x → AX (35 - sx i j) 50 62 [.ref 76, .int (nI i), .int (nI j), .int (nI (sx i j)), .int (nI n), .int (nI i'), .int (nI j'), .int (nI w), .int x] [] (hT h 86 U) Q = AX (35 - sx i j) 50 62 [.ref 76, .int (nI i), .int (nI j), .int (nI (sx i j)), .int (nI n), .int (nI i'), .int (nI j'), .int (nI (w + (if pfits (setC ψ i j n x) (n + 1) i j n = true then CE n m i' j' (setC ψ i j n x) else 0))), .int (x + 2)] [] (hT h 86 (pT T i j n x)) Q := fun x w U hx hU => by
      have n1 : ¬ (1 : Int32) < x := by rcases hx with rfl | rfl <;> decide
      rw [s_50_62, if_neg n1, l41, m_41x (by omega) (by omega) (by omega), hU]
      simp only [t_ob_76, true_and, t_kv]
      rw [l46, m_46x hc (by omega) hij p2, rsx]
      simp only [true_and, t_ki, nI_1]
      have v' : V3 (setC ψ i j n x) (n + 1) := V3_set v (by omega) (by omega) (by omega) (by omega) (by omega) (by omega) hx
      have z' : ZL (setC ψ i j n x) n (LE m i' j') := ZL_s (p := (i, j)) zz hx
      by_cases f : pfits (setC ψ i j n x) (n + 1) i j n = true
      · have q := ih i' j' (pT T i j n x) g5 g6 (by omega) (by rw [rsx]; exact v') (by rw [rsx]; exact z') 
        rw [f, if_neg (show ¬ zb true = (0 : Int32) by decide), if_pos rfl, ← g4, lev50 (by omega), q]
        simp only [t_ki, s_50_105, rsx, nI_add]
        rw [show (35 - sx i' j' < 35 - sx i j) = True from eq_true (by omega), true_and]
      · have f' : pfits (setC ψ i j n x) (n + 1) i j n = false := by simpa using f
        rw [f', if_pos (show zb false = (0 : Int32) from rfl), if_neg (by decide), Nat.add_zero, s_50_105]
    have e21 : (nI (sx i j) < (21 : Int32)) = (sx i j < 21) := nI_lt' (a := sx i j) (b := 21) (by omega) (by omega)
    have ei : (if nI j ≤ nI i + 1 then (0 : Int32) else nI i + 1) = nI i' := by
      rw [hi']
      by_cases q : i + 1 < j
      · rw [if_neg (by rw [nI_1, nI_le' (by omega) (by omega)]; omega), if_pos q, nI_1]
      · rw [if_pos (by rw [nI_1, nI_le' (by omega) (by omega)]; omega), if_neg q]; rfl
    have ej : (if nI j ≤ nI i + 1 then nI j + 1 else nI j) = nI j' := by
      rw [hj']
      by_cases q : i + 1 < j
      · rw [if_neg (by rw [nI_1, nI_le' (by omega) (by omega)]; omega), if_pos q]
      · rw [if_pos (by rw [nI_1, nI_le' (by omega) (by omega)]; omega), if_neg q, nI_1]
    rw [am_50, lev50 (by omega), s_50_0, show (hT h 86 T).1 76 1 = nI (n + 1) from (hT_o (by decide) 1).trans hc, nI_s1]
    simp only [t_ob_76, true_and]
    rw [if_pos (by rw [nI_lt' (by omega) (by omega)]; omega), if_pos (by rw [e21]; omega), ei, ej]
    have t1 := turn (-1) 0 T (Or.inr rfl) rfl
    rw [show nI 0 = (0 : Int32) from rfl, Nat.zero_add, show (-1 : Int32) + 2 = 1 by decide] at t1
    have t2 := turn 1 (if pfits (setC ψ i j n (-1)) (n + 1) i j n = true then CE n m i' j' (setC ψ i j n (-1)) else 0) (pT T i j n (-1)) (Or.inl rfl) pT_pT
    rw [show (1 : Int32) + 2 = 3 by decide] at t2
    rw [t1, t2, s_50_62, if_pos (by decide), l41, m_41x (by omega) (by omega) (by omega), pT_pT, bk]
    simp only [t_ob_76, true_and, t_kv]
    rw [hi', hj']
    rfl
