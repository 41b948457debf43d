/-! ===== orders of points by codes ===== -/
/-- the order of a code: m points of a set -/
def OL : Nat → Int32 → Nat → List Nat
  | 0, _, _ => []
  | m + 1, S, code => nth (bt S) 0 7 (code % (m + 1)) :: OL m (rmv S (nth (bt S) 0 7 (code % (m + 1)))) (code / (m + 1))
def fac : Nat → Nat
  | 0 => 1
  | m + 1 => (m + 1) * fac m
/-- a sum over all orders of a set -/
def PS : Nat → Int32 → (List Nat → Nat) → Nat
  | 0, _, H => H []
  | m + 1, S, H => sB (fun x => if bt S x = true then PS m (rmv S x) (fun l => H (x :: l)) else 0) 0 7
theorem OL_sum {n : Nat} (h7 : n ≤ 7) : ∀ m S H, pc S = m → sm S n → sB (fun k => H (OL m S k)) 0 (fac m) = PS m S H := by
  intro m
  induction m with
  | zero => intro S H _ _; rfl
  | succ m ih =>
    intro S H hc hs
    have cnt := pc_7 h7 hs
    have e := sB_rad (m + 1) (fun r q => H (nth (bt S) 0 7 r :: OL m (rmv S (nth (bt S) 0 7 r)) q)) (fac m)
    refine Eq.trans e ?_
    have hcn : m + 1 = cB (bt S) 0 7 := by omega
    show _ = sB (fun x => if bt S x = true then PS m (rmv S x) (fun l => H (x :: l)) else 0) 0 7
    rw [hcn, ← nth_sum (bt S) (fun x => PS m (rmv S x) (fun l => H (x :: l))) 7 0]
    refine sB_ext _ _ fun r _ hr => ?_
    obtain ⟨x1, x2, x3⟩ := nth_in (f := bt S) 7 0 r (by omega)
    have p2 := pc_rmv (show nth (bt S) 0 7 r < 32 by omega) x3
    exact ih _ (fun l => H (nth (bt S) 0 7 r :: l)) (by omega) (rmv_sm (by omega) hs)
theorem PS_z : ∀ m S (H : List Nat → Nat), (∀ l, H l = 0) → PS m S H = 0 := by
  intro m
  induction m with
  | zero => intro S H h; exact h []
  | succ m ih =>
    intro S H h
    refine sB_z _ _ fun x _ _ => ?_
    split
    · exact ih _ _ fun l => h _
    · rfl
theorem OL_in {n : Nat} (h7 : n ≤ 7) : ∀ m S k, pc S = m → sm S n → (OL m S k).length = m ∧ (∀ x, x ∈ OL m S k → x < n ∧ bt S x = true) ∧ (OL m S k).Pairwise (· ≠ ·) := by
  intro m
  induction m with
  | zero => intro S k _ _; exact ⟨rfl, fun x hx => (nomatch hx), List.Pairwise.nil⟩
  | succ m ih =>
    intro S k hc hs
    have cnt := pc_7 h7 hs
    have rlt : k % (m + 1) < m + 1 := Nat.mod_lt _ (by omega)
    obtain ⟨x1, x2, x3⟩ := nth_in (f := bt S) 7 0 (k % (m + 1)) (by omega)
    obtain ⟨x, hx⟩ : ∃ x, x = nth (bt S) 0 7 (k % (m + 1)) := ⟨_, rfl⟩
    rw [← hx] at x1 x2 x3
    have p2 := pc_rmv (show x < 32 by omega) x3
    obtain ⟨i1, i2, i3⟩ := ih (rmv S x) (k / (m + 1)) (by omega) (rmv_sm (by omega) hs)
    have e : OL (m + 1) S k = x :: OL m (rmv S x) (k / (m + 1)) := by rw [hx]; rfl
    have xn : x < n := by
      apply Classical.byContradiction
      intro z
      rw [hs x (by omega)] at x3; cases x3
    rw [e]
    refine ⟨by rw [List.length_cons, i1], fun y hy => ?_, List.Pairwise.cons (fun y hy => ?_) i3⟩
    · rcases List.mem_cons.mp hy with rfl | hy
      · exact ⟨xn, x3⟩
      · obtain ⟨j1, j2⟩ := i2 y hy
        rw [rmv_bt (by omega) (by omega)] at j2
        simp only [Bool.and_eq_true] at j2
        exact ⟨j1, j2.1⟩
    · obtain ⟨j1, j2⟩ := i2 y hy
      rw [rmv_bt (by omega) (by omega)] at j2
      simp only [Bool.and_eq_true, Bool.not_eq_true', decide_eq_false_iff_not] at j2
      exact fun z => j2.2 z.symm
/-- the row of an order -/
def RO (h : tH) (l : List Nat) : Prop := ∀ k x, l[k]? = some x → h.1 26 k = nI x
theorem n156l {d n : Nat} (h7 : n ≤ 7) (hd : d < 6) : ∀ m k S code (h : tH), k + m = n → ty h d n → LF h S → pc S = m → sm S n → code < 2 ^ 31 → ∃ h', fx h h' ∧ (∀ j, j < k → h'.1 26 j = h.1 26 j) ∧ (∀ j x, (OL m S code)[j]? = some x → h'.1 26 (k + j) = nI x) ∧ ∀ Q its x, AX 1 156 14 [.ref 13, .int (nI d), .int its, .int (nI code), .int (nI k), x] [] h Q = Q (.inl none) h' := by
  intro m
  induction m with
  | zero =>
    intro k S code h hk ht _ _ _ _
    have : k = n := by omega
    subst this
    refine ⟨h, fx_r h, fun _ _ => rfl, fun j x hj => (nomatch hj), fun Q its x => ?_⟩
    rw [s_156_14, nC (by omega), ht.2.1, if_pos (Int32.le_refl _)]
    simp (disch := omega) only [t_ob_13, true_and, vI]
  | succ m ih =>
    intro k S code h hk ht hl hc hs hcode
    have cnt := pc_7 h7 hs
    have rlt : code % (m + 1) < m + 1 := Nat.mod_lt _ (by omega)
    obtain ⟨x1, x2, x3⟩ := nth_in (f := bt S) 7 0 (code % (m + 1)) (by omega)
    obtain ⟨y, hy⟩ : ∃ y, y = nth (bt S) 0 7 (code % (m + 1)) := ⟨_, rfl⟩
    rw [← hy] at x1 x2 x3
    have p2 := pc_rmv (show y < 32 by omega) x3
    obtain ⟨h1, hh1⟩ : ∃ h1, h1 = t_I h 27 y 0 := ⟨_, rfl⟩
    obtain ⟨h2, hh2⟩ : ∃ h2, h2 = t_I h1 26 k (nI y) := ⟨_, rfl⟩
    have L2 : LF h2 (rmv S y) := LF_o (h := h1) (by rw [hh1]; exact LF_s hl (by omega)) fun x => by rw [hh2, t_I_o (by decide)]
    have F2 : fx h h2 := by rw [hh2, hh1]; exact fx_t (fx_I (by decide)) (fx_I (by decide))
    have dl := Nat.div_le_self code (m + 1)
    obtain ⟨h', f', o', r', q'⟩ := ih (k + 1) (rmv S y) (code / (m + 1)) h2 (by omega) (fx_ty F2 ht) L2 (by omega) (rmv_sm (by omega) hs) (by omega)
    have e : OL (m + 1) S code = y :: OL m (rmv S y) (code / (m + 1)) := by rw [hy]; rfl
    refine ⟨h', fx_t F2 f', fun j hj => ?_, fun j x hj => ?_, fun Q its x => ?_⟩
    · rw [o' j (by omega), hh2, t_I_at, if_neg (by omega), hh1, t_I_o (by decide)]
    · rw [e] at hj
      cases j with
      | zero =>
        have : y = x := by simpa using hj
        rw [o' (k + 0) (by omega), hh2, t_I_at, if_pos ⟨rfl, rfl⟩, this]
      | succ j =>
        have := r' j x (by simpa using hj)
        rw [show k + (j + 1) = k + 1 + j by omega]
        exact this
    · obtain ⟨md1, md2⟩ := nI_md (a := code) (c := m + 1) hcode (by omega) (by omega)
      have c0 : ¬ nI (m + 1) = 0 := by
        rw [show (0 : Int32) = nI 0 from rfl, nI_eq' (by omega) (by omega)]
        omega
      have n2 := fun f => n150 (r := code % (m + 1)) hl (by omega) (t_ki f Q)
      rw [← hy, ← hh1] at n2
      rw [s_156_14, nC (by omega), ht.2.1, nI_sb (by omega), show n - k = m + 1 by omega, md1, md2]
      simp (disch := omega) only [nI_le', t_ob_13, true_and, vI, nC, c0, not_false_eq_true]
      rw [if_neg (by omega), n2]
      simp only [t_ki]
      rw [← hh2, nI_1]
      exact q' Q its _
theorem n156 {h : tH} {d n code : Nat} (hd : d < 6) (ht : ty h d n) (hcode : code < 2 ^ 31) : ∃ h', fx h h' ∧ RO h' (OL n (one n - 1) code) ∧ ∀ Q, AM 156 [.ref 13, .int (nI d), .int (nI code)] h Q = Q (.inl none) h' := by
  have h7 := ht.2.2
  have hs : sm (one n - 1) n := fun i hi => by
    by_cases h32 : i < 32
    · rw [bt_all h7 h32]; simp; omega
    · exact b_big (by omega)
  have hc : pc (one n - 1) = n := by
    have hh : ∀ n, n < 8 → pc (one n - 1) = n := by decide +kernel
    exact hh n (by omega)
  obtain ⟨h1, f1, L1, q1⟩ := n151 (h := h) (one n - 1)
  obtain ⟨h', f', -, r', q'⟩ := n156l h7 hd n 0 (one n - 1) code h1 (by omega) (fx_ty f1 ht) L1 hc hs hcode
  refine ⟨h', fx_t f1 f', fun k x hk => ?_, fun Q => ?_⟩
  · have := r' k x hk
    rw [Nat.zero_add] at this
    exact this
  · rw [am_156, s_156_0, n139 ht]
    simp only [t_ob_13, true_and, t_ki, q1, t_kv]
    exact q' Q _ _
theorem fac_lt {n : Nat} (h : n ≤ 7) : fac n < 10000 := by
  have hh : ∀ m, m < 8 → fac m < 10000 := by decide +kernel
  exact hh n (by omega)
theorem n155 {h : tH} {n : Nat} (h7 : n ≤ 7) (Q : tO → tH → Prop) : AM 155 [.int (nI n)] h Q = Q (RI (nI (fac n))) h := by
  have loop : ∀ m k, k + m = n → AX 0 155 4 [.int (nI n), .int (nI (fac k)), .int (nI (k + 1))] [] h Q = Q (RI (nI (fac n))) h := by
    intro m
    induction m with
    | zero =>
      intro k hk
      have : k = n := by omega
      subst this
      rw [s_155_4]
      simp (disch := omega) only [nI_lt']
      rw [if_pos (by omega)]
    | succ m ih =>
      intro k hk
      rw [s_155_4]
      simp (disch := omega) only [nI_lt']
      rw [if_neg (by omega), pk_mul, nI_1]
      have := ih (k + 1) (by omega)
      rw [show fac (k + 1) = (k + 1) * fac k from rfl, Nat.mul_comm] at this
      exact this
  rw [am_155, s_155_0]
  by_cases n0 : n = 0
  · subst n0
    rw [s_155_4, if_pos (by decide)]
    rfl
  · exact loop (n - 1) 1 (by omega)
