/-! ===== paths ===== -/
/-- how many plane walks go on from a through a set of m points -/
def WK (χ : tC) (n : Nat) : Nat → Nat → Int32 → Int32 → Nat
  | 0, _, _, _ => 1
  | m + 1, a, S, T => sB (fun x => if bt S x = true then (if fre χ n T a x = true then WK χ n m x (rmv S x) (T ||| one (sx a x)) else 0) else 0) 0 7
theorem lev28 {a S T : Int32} {k : Nat} (hk : k < 30) : t_lev tq_28 [.ref 9, .int a, .int S, .int T, .int (nI k)] = 32 - k := by
  show 2 + (30 - (nI k).toNatClampNeg) = 32 - k
  rw [nC (by omega)]
  omega
theorem m_28 {h : tH} {M : Nat → Int32} {χ : tC} {n : Nat} (hM : h.1 10 = M) (h9 : h.1 9 1 = nI n) (r : RM M χ n) (w : WS χ n) (h7 : n ≤ 7) : ∀ m a S T k, pc S = m → sm S n → a < n → bt S a = false → m + k ≤ 7 → ∀ Q, AM 28 [.ref 9, .int (nI a), .int S, .int T, .int (nI k)] h Q = Q (RI (nI (WK χ n m a S T))) h := by
  intro m
  induction m with
  | zero =>
    intro a S T k hc hs _ _ hk Q
    have : S = 0 := sm_0 h7 hs hc
    rw [am_28, lev28 (by omega), s_28_0, if_neg (fun z => z this)]
    rfl
  | succ m ih =>
    intro a S T k hc hs ha hSa hk Q
    have e7 : (nI k < (7 : Int32)) = (k < 7) := nI_lt' (a := k) (b := 7) (by omega) (by omega)
    have sne : ¬ S = 0 := fun z => by
      rw [z, pc_0] at hc
      omega
    obtain ⟨term, ht⟩ : ∃ term : Nat → Nat, term = fun x => if bt S x = true then (if fre χ n T a x = true then WK χ n m x (rmv S x) (T ||| one (sx a x)) else 0) else 0 := ⟨_, rfl⟩
    have step : ∀ j b, b + j = n → ∀ s, AX (32 - k) 28 21 [.ref 9, .int (nI a), .int S, .int T, .int (nI k), .int (nI s), .int (nI b)] [] h Q = Q (RI (nI (s + sB term b j))) h := by
      intro j
      induction j with
      | zero =>
        intro b hb s
        have : b = n := by omega
        subst this
        rw [s_28_21, h9, if_pos (Int32.le_refl _)]
        simp only [t_ob_9', true_and]
        rfl
      | succ j ihj =>
        intro b hb s
        have hb7 : b < 7 := by omega
        have ha7 : a < 7 := by omega
        show _ = Q (RI (nI (s + (term b + sB term (b + 1) j)))) h
        have et : term b = if bt S b = true then (if fre χ n T a b = true then WK χ n m b (rmv S b) (T ||| one (sx a b)) else 0) else 0 := by rw [ht]
        rw [s_28_21, h9]
        simp (disch := omega) only [t_ob_9', true_and, nI_le', m_has' (show b < 31 by omega), t_ki, zb_0, s_28_82, nI_1]
        rw [if_neg (by omega)]
        rw [show (t_lev tq_4 [.int S, .int (nI b)] < 32 - k) = True from eq_true (show 1 < 32 - k by omega), show (t_lev tq_25 [.ref 9, .int (nI a), .int (nI b), .int T] < 32 - k) = True from eq_true (show 1 < 32 - k by omega), show (t_lev tq_2 [.int (nI b)] < 32 - k) = True from eq_true (show 0 < 32 - k by omega), show (t_lev tq_22 [.int (nI a), .int (nI b)] < 32 - k) = True from eq_true (show 1 < 32 - k by omega)]
        simp only [true_and]
        by_cases q1 : bt S b = true
        · have ab : a ≠ b := fun z => by rw [z, q1] at hSa; cases hSa
          have cr := cro_iff (T := T) r w h7 ha (show b < n by omega) ab
          rw [if_neg (by simp [q1]), m_25 hM ha7 hb7 ab, cr]
          simp only [t_ki, zb_0]
          by_cases q2 : fre χ n T a b = true
          · rw [if_neg (by simp [q2]), m_one']
            simp only [t_ki, m_22 ha7 hb7]
            rw [lev28 (by omega)]
            have esb : sb a b = one (sx a b) := if_neg ab
            have p2 := pc_rmv (show b < 32 by omega) q1
            have rk := ih b (rmv S b) (T ||| one (sx a b)) (k + 1) (by omega) (rmv_sm (by omega) hs) (by omega) (by rw [rmv_bt (by omega) (by omega)]; simp) (by omega)
            rw [esb, show S &&& (one b ^^^ -1) = rmv S b from rfl, rk]
            simp only [t_ki, nI_add]
            rw [show (32 - (k + 1) < 32 - k) = True from eq_true (by omega), true_and, ihj (b + 1) (by omega), et, if_pos q1, if_pos q2, Nat.add_assoc]
          · rw [if_pos (by simpa using q2), ihj (b + 1) (by omega), et, if_pos q1, if_neg q2, Nat.zero_add]
        · rw [if_pos (by simpa using q1), ihj (b + 1) (by omega), et, if_neg q1, Nat.zero_add]
    rw [am_28, lev28 (by omega), s_28_0, if_pos sne, if_pos (by rw [e7]; omega), show (0 : Int32) = nI 0 from rfl, step n 0 (by omega) 0, Nat.zero_add]
    have z : sB term 0 n = WK χ n (m + 1) a S T := by
      show _ = sB (fun x => if bt S x = true then (if fre χ n T a x = true then WK χ n m x (rmv S x) (T ||| one (sx a x)) else 0) else 0) 0 7
      rw [← ht, show (7 : Nat) = n + (7 - n) by omega, sB_app term n 0, sB_z (f := term) (7 - n) _ fun b hb _ => by
        rw [ht]
        show (if bt S b = true then _ else 0) = 0
        rw [if_neg]
        rw [hs b (by omega)]
        decide]
      rfl
    rw [z]
def wkt (χ : tC) (n : Nat) : Nat := sB (fun x => WK χ n (n - 1) x (rmv (one n - 1) x) 0) 0 n
theorem all_sm {n : Nat} (h7 : n ≤ 7) : sm (one n - 1) n := fun i hi => by
  by_cases h32 : i < 32
  · rw [bt_all h7 h32]; simp; omega
  · exact b_big (by omega)
theorem all_pc {n : Nat} (h7 : n ≤ 7) : pc (one n - 1) = n := by
  have hh : ∀ n, n < 8 → pc (one n - 1) = n := by decide +kernel
  exact hh n (by omega)
theorem all_bt {n i : Nat} (h7 : n ≤ 7) (hi : i < n) : bt (one n - 1) i = true := by
  rw [bt_all h7 (by omega)]
  simpa using hi
theorem lev28' {a S : Int32} : (t_lev tq_28 [.ref 9, .int a, .int S, .int 0, .int 0] < 34) = True := eq_true (by
  rw [show (0 : Int32) = nI 0 from rfl, lev28 (by omega)]
  omega)
theorem c92 {h : tH} {D d n : Nat} {χ : tC} (hd : h.1 0 3 = nI D) (hD : D ≤ 6) (hdD : d < D) (t1 : tn h (70 + d) n) (hχ : tX h (70 + d) = χ) (w : WS χ n) (n3 : 3 ≤ n) : rn 92 [.ref 0, .int (nI d)] h (RI (nI (wkt χ n) / 2)) (hR h χ n) := by
  intro Q
  have hd6 : d < 6 := by omega
  have h7 := t1.2.2
  have q := m_23 t1 (h := h)
  rw [hχ] at q
  have rc : (hR h χ n).1 (70 + d) 1 = nI n := by rw [hR_o (by omega)]; exact t1.2.1
  obtain ⟨term, ht⟩ : ∃ term : Nat → Nat, term = fun x => WK χ n (n - 1) x (rmv (one n - 1) x) 0 := ⟨_, rfl⟩
  have step : ∀ j b, b + j = n → ∀ s, AX 34 92 31 [.ref 0, .int (nI d), .ref (70 + d), .int (one n - 1), .int (nI s), .int (nI b)] [] (hR h χ n) Q = Q (RI (nI (s + sB term b j) / 2)) (hR h χ n) := by
    intro j
    induction j with
    | zero =>
      intro b hb s
      have : b = n := by omega
      subst this
      rw [s_92_31, rc, if_pos (Int32.le_refl _)]
      simp only [o70 hd6, true_and]
      rfl
    | succ j ihj =>
      intro b hb s
      have pb := pc_rmv (show b < 32 by omega) (all_bt h7 (show b < n by omega))
      have ap := all_pc h7
      have q28 : ∀ Q, AM 28 [.ref 9, .int (nI b), .int (rmv (one n - 1) b), .int 0, .int 0] (hR h χ n) Q = Q (RI (nI (WK χ n (n - 1) b (rmv (one n - 1) b) 0))) (hR h χ n) :=
        m_28 (h := hR h χ n) hR_10 hR_9 (rd_RM h7 _) w h7 (n - 1) b (rmv (one n - 1) b) 0 0 (by omega) (rmv_sm (by omega) (all_sm h7)) (by omega) (by rw [rmv_bt (by omega) (by omega)]; simp) (by omega)
      rw [s_92_31, rc]
      simp (disch := omega) only [o70 hd6, true_and, nI_le', t_ob_0', m_one', t_ki]
      rw [if_neg (by omega), show (one n - 1) &&& (one b ^^^ -1) = rmv (one n - 1) b from rfl, lev28', true_and, q28]
      simp only [t_ki, nI_add, nI_1]
      rw [ihj (b + 1) (by omega)]
      show _ = Q (RI (nI (s + (term b + sB term (b + 1) j)) / 2)) (hR h χ n)
      rw [ht, Nat.add_assoc]
  rw [am_92, s_92_0, c75 hd hD hdD]
  simp only [t_ob_0', true_and, t_kq_r, va_rf_s, s_92_5, o40 hd6, e30, o70 hd6, q, t_kv]
  rw [show hM (t_I h 9 1 (nI n)) (rdM χ n (h.1 10)) = hR h χ n from rfl, rc, fo_all]
  simp only [t_ki]
  rw [show (0 : Int32) = nI 0 from rfl, step n 0 (by omega) 0, Nat.zero_add, ht]
  rfl
/-! the model -/
def PP (χ : tC) (n : Nat) : Nat → Int32 → List Nat → Bool
  | _, _, [] => true
  | a, T, x :: l => fre χ n T a x && PP χ n x (T ||| one (sx a x)) l
def PPf (χ : tC) (n : Nat) : List Nat → Bool
  | [] => true
  | a :: l => PP χ n a 0 l
theorem PS_PP {χ : tC} {n : Nat} : ∀ m a S T, PS m S (fun l => bn (PP χ n a T l)) = WK χ n m a S T := by
  intro m
  induction m with
  | zero => intro a S T; rfl
  | succ m ih =>
    intro a S T
    refine sB_ext _ _ fun x _ _ => ?_
    by_cases q : bt S x = true
    · rw [if_pos q, if_pos q]
      by_cases f : fre χ n T a x = true
      · rw [if_pos f, ← ih]
        congr 1
        funext l
        show bn (fre χ n T a x && PP χ n x (T ||| one (sx a x)) l) = _
        rw [f, Bool.true_and]
      · rw [if_neg f]
        have f' : fre χ n T a x = false := by simpa using f
        refine PS_z _ _ _ fun l => ?_
        show bn (fre χ n T a x && PP χ n x (T ||| one (sx a x)) l) = 0
        rw [f', Bool.false_and]
        rfl
    · rw [if_neg q, if_neg q]
theorem PS_f {χ : tC} {n : Nat} (n0 : 0 < n) (h7 : n ≤ 7) : sB (fun k => bn (PPf χ n (OL n (one n - 1) k))) 0 (fac n) = wkt χ n := by
  rw [OL_sum (H := fun l => bn (PPf χ n l)) h7 n _ (all_pc h7) (all_sm h7)]
  obtain ⟨m, rfl⟩ : ∃ m, n = m + 1 := ⟨n - 1, by omega⟩
  show sB (fun x => if bt (one (m + 1) - 1) x = true then PS m (rmv (one (m + 1) - 1) x) (fun l => bn (PPf χ (m + 1) (x :: l))) else 0) 0 7 = _
  rw [show (7 : Nat) = (m + 1) + (7 - (m + 1)) by omega, sB_app, sB_z (7 - (m + 1)) _ fun x hx _ => by rw [if_neg]; rw [all_sm h7 x (by omega)]; decide]
  unfold wkt
  rw [Nat.add_zero]
  refine sB_ext _ _ fun x _ hx => ?_
  rw [if_pos (all_bt h7 (by omega)), Nat.add_sub_cancel]
  exact PS_PP m x _ 0
theorem n157l {d n : Nat} {χ : tC} (w : WS χ n) (hd : d < 6) (h7 : n ≤ 7) : ∀ (l : List Nat) (a k : Nat) (T : Int32) (v : Bool) (h : tH) (e : Nat → Nat), k + 1 + l.length = n → ty h d n → tY h d = χ → (∀ j x, (a :: l)[j]? = some x → h.1 26 (k + j) = nI x) → (∀ x, x ∈ a :: l → x < n) → (a :: l).Pairwise (· ≠ ·) → EN h n e k T →
    ∃ h', fx h h' ∧ ∀ Q, AX 4 157 4 [.ref 13, .int (nI d), .int (zb v), .int (nI k)] [] h Q = Q (RI (zb (v && PP χ n a T l))) h' := by
  intro l
  induction l with
  | nil =>
    intro a k T v h e hk ht _ _ _ _ _
    refine ⟨h, fx_r h, fun Q => ?_⟩
    have hk' : k + 1 = n := by simpa using hk
    rw [s_157_4, nC (by omega), ht.2.1, nI_1]
    simp (disch := omega) only [t_ob_13, true_and, vI, nI_le', s_157_73, zb_z]
    rw [if_pos (by omega)]
    simp only [PP, Bool.and_true]
  | cons b l ih =>
    intro a k T v h e hk ht hχ hr hx hp he
    have hk' : k + 1 + (l.length + 1) = n := by simpa using hk
    cases v with
    | false =>
      refine ⟨h, fx_r h, fun Q => ?_⟩
      rw [s_157_4, nC (by omega), ht.2.1, nI_1]
      simp (disch := omega) only [t_ob_13, true_and, vI, nI_le', s_157_73, zb_z, zb_0, if_true]
      rw [if_neg (by omega)]
      simp only [true_or, true_and]
      rfl
    | true =>
      have ha := hx a (List.mem_cons_self)
      have hb := hx b (List.mem_cons_of_mem _ List.mem_cons_self)
      have ab : a ≠ b := (List.pairwise_cons.mp hp).1 b List.mem_cons_self
      have ra : h.1 26 k = nI a := hr 0 a rfl
      have rb : h.1 26 (k + 1) = nI b := hr 1 b rfl
      obtain ⟨h1, hh1⟩ : ∃ h1, h1 = t_I h 28 (2 * k) (nI a) := ⟨_, rfl⟩
      obtain ⟨h2, hh2⟩ : ∃ h2, h2 = t_I h1 28 (2 * k + 1) (nI b) := ⟨_, rfl⟩
      have F2 : fx h h2 := by rw [hh2, hh1]; exact fx_t (fx_I (by decide)) (fx_I (by decide))
      have r28 : ∀ x, h2.1 28 x = if x = 2 * k + 1 then nI b else if x = 2 * k then nI a else h.1 28 x := fun x => by
        rw [hh2, t_I_at, hh1, t_I_at]
        by_cases c1 : x = 2 * k + 1
        · rw [if_pos ⟨rfl, c1⟩, if_pos c1]
        · rw [if_neg (fun z => c1 z.2), if_neg c1]
          by_cases c2 : x = 2 * k
          · rw [if_pos ⟨rfl, c2⟩, if_pos c2]
          · rw [if_neg (fun z => c2 z.2), if_neg c2]
      have o28 : ∀ x, x < 2 * k → h2.1 28 x = h.1 28 x := fun x hx => by rw [r28, if_neg (by omega), if_neg (by omega)]
      have a28 : h2.1 28 (2 * k) = nI a := by rw [r28, if_neg (by omega), if_pos rfl]
      have b28 : h2.1 28 (2 * k + 1) = nI b := by rw [r28, if_pos rfl]
      have t2 := fx_ty F2 ht
      have y2 : tY h2 d = χ := by rw [fx_tY F2, hχ]
      obtain ⟨e', he'⟩ := EN_s h7 he o28 ha hb ab a28 b28
      have cr := n152 t2 y2 w hd (show k < 7 by omega) (EN_o he o28) ha hb ab a28 b28
      obtain ⟨h', f', q'⟩ := ih b (k + 1) (T ||| one (sx a b)) (fre χ n T a b) h2 e' (by omega) t2 y2 (fun j x hj => by
        rw [show h2.1 26 (k + 1 + j) = h.1 26 (k + 1 + j) from by rw [hh2, t_I_o (by decide), hh1, t_I_o (by decide)], show k + 1 + j = k + (j + 1) by omega]
        exact hr (j + 1) x (by simpa using hj)) (fun x hx' => hx x (List.mem_cons_of_mem _ hx')) (List.pairwise_cons.mp hp).2 he'
      refine ⟨h', fx_t F2 f', fun Q => ?_⟩
      have i26 : ∀ g : tH, t_in (t_ai g 26) (nI (k + 1)) = True := fun g => t_in_ai (show t_ar 26 = some (0, 7) from rfl) (by omega)
      have i28 : ∀ g : tH, t_in (t_ai g 28) (nI (2 * k + 1)) = True := fun g => t_in_ai (show t_ar 28 = some (0, 14) from rfl) (by omega)
      rw [s_157_4, nC (show d < 10000 by omega), ht.2.1, nI_1, n2k, nI_1]
      simp (disch := omega) only [t_ob_13, true_and, vI, nC, nI_le', zb_0, i26, i28]
      rw [if_neg (by omega), if_neg (by decide), ra, ← hh1, show h1.1 26 (k + 1) = nI b from by rw [hh1, t_I_o (by decide), rb], ← hh2, cr]
      simp only [t_ki, zb_0]
      have ez : (if ¬ (!fre χ n T a b) = false then (0 : Int32) else 1) = zb (fre χ n T a b) := by
        cases fre χ n T a b <;> rfl
      rw [ez, q']
      rfl
theorem n157 {h : tH} {d n : Nat} {χ : tC} {l : List Nat} (w : WS χ n) (hd : d < 6) (ht : ty h d n) (hχ : tY h d = χ) (hr : RO h l) (hl : l.length = n) (hx : ∀ x, x ∈ l → x < n) (hp : l.Pairwise (· ≠ ·)) (n0 : 0 < n) : ∃ h', fx h h' ∧ ∀ Q, AM 157 [.ref 13, .int (nI d)] h Q = Q (RI (zb (PPf χ n l))) h' := by
  cases l with
  | nil => simp at hl; omega
  | cons a l =>
    obtain ⟨h', f', q'⟩ := n157l w hd ht.2.2 l a 0 0 true h (fun _ => 0) (by simp at hl; omega) ht hχ (fun j x hj => by rw [Nat.zero_add]; exact hr j x hj) hx hp (EN_0 _)
    refine ⟨h', f', fun Q => ?_⟩
    rw [am_157, s_157_0]
    have := q' Q
    rw [Bool.true_and] at this
    exact this
theorem n158l {d n : Nat} {χ : tC} (w : WS χ n) (hd : d < 6) (h7 : n ≤ 7) (n0 : 0 < n) : ∀ j k s (h : tH), k + j = fac n → ty h d n → tY h d = χ → ∃ h', fx h h' ∧ ∀ Q, AX 5 158 43 [.ref 13, .int (nI d), .int (nI (fac n)), .int (nI s), .int (nI k)] [] h Q = Q (RI (nI (s + sB (fun k => bn (PPf χ n (OL n (one n - 1) k))) k j) / 2)) h' := by
  have fl := fac_lt h7
  intro j
  induction j with
  | zero =>
    intro k s h hk _ _
    have : k = fac n := by omega
    subst this
    refine ⟨h, fx_r h, fun Q => ?_⟩
    rw [s_158_43, if_pos (Int32.le_refl _)]
    rfl
  | succ j ih =>
    intro k s h hk ht hχ
    obtain ⟨h1, f1, r1, q1⟩ := n156 (code := k) hd ht (by omega)
    obtain ⟨i1, i2, i3⟩ := OL_in h7 n (one n - 1) k (all_pc h7) (all_sm h7)
    obtain ⟨h2, f2, q2⟩ := n157 w hd (fx_ty f1 ht) (by rw [fx_tY f1, hχ]) r1 i1 (fun x hx => (i2 x hx).1) i3 n0
    obtain ⟨h', f', q'⟩ := ih (k + 1) (s + bn (PPf χ n (OL n (one n - 1) k))) h2 (by omega) (fx_ty f2 (fx_ty f1 ht)) (by rw [fx_tY f2, fx_tY f1, hχ])
    refine ⟨h', fx_t f1 (fx_t f2 f'), fun Q => ?_⟩
    have lt : ∀ a b : Nat, a < 10000 → b < 10000 → (nI a ≤ nI b) = (a ≤ b) := fun a b ha hb => propext (nI_leI (by omega) (by omega))
    rw [s_158_43, if_neg (by rw [lt _ _ (by omega) (by omega)]; omega)]
    simp only [t_ob_13, true_and, q1, t_kv, q2, t_ki, nI_1]
    have e : nI s + (if zb (PPf χ n (OL n (one n - 1) k)) = (0 : Int32) then (0 : Int32) else 1) = nI (s + bn (PPf χ n (OL n (one n - 1) k))) := bn_add'
    rw [e, q', Nat.add_assoc]
    rfl
theorem n158 {g : tH} {D d n : Nat} {χ : tC} (hd : g.1 13 8 = nI D) (hD : D ≤ 6) (hdD : d < D) (ht : ty g d n) (hχ : tY g d = χ) (w : WS χ n) (n0 : 0 < n) : ∃ g', fr g g' ∧ g'.1 13 0 = 0 ∧ g'.2 = g.2 ∧ rn 158 [.ref 13, .int (nI d)] g (RI (nI (wkt χ n) / 2)) g' := by
  have h7 := ht.2.2
  have hx : pI (nI d) D = true := by rw [pI_nI (by omega) (by omega)]; simpa using hdD
  obtain ⟨k, hk⟩ : ∃ k, k = t_I g 13 0 0 := ⟨_, rfl⟩
  have tk : ty k d n := by rw [hk]; exact ty_13 ht
  have ky : tY k d = χ := by rw [hk, tY_13, hχ]
  have k0 : k.1 13 0 = 0 := by rw [hk]; rfl
  obtain ⟨g', f', q'⟩ := n158l w (show d < 6 by omega) h7 n0 (fac n) 0 0 k (by omega) tk ky
  refine ⟨g', fr_t (by rw [hk]; exact fr_13) (fx_fr f'), by rw [f'.1 13 0 (by decide), k0], by rw [f'.2, hk]; rfl, fun Q => ?_⟩
  have i19 : t_in (t_ai k 19) (nI d) = True := t_in_ai (show t_ar 19 = some (0, 7) from rfl) (by omega)
  have k19 : k.1 19 d = nI n := tk.2.1
  rw [am_158, s_158_0, n101 hd (by omega), hx]
  simp only [t_ob_13, true_and, t_ki, zb_0, Bool.true_eq_false, if_false]
  rw [← hk, if_pos (show k.1 13 0 ≤ 0 by rw [k0]; exact Int32.le_refl _), i19, nC (by omega), k19, n155 h7]
  simp only [true_and, t_ki, s_158_37]
  have q := q' Q
  rw [Nat.zero_add, PS_f n0 h7] at q
  exact q
theorem n158x {g : tH} {D : Nat} {x : Int32} (hd : g.1 13 8 = nI D) (hD : D ≤ 6) (h1 : pI x D = false) : rn 158 [.ref 13, .int x] g (RI 0) (t_I g 13 0 1) := by
  intro Q
  rw [am_158, s_158_0, n101 hd (by omega), h1]
  simp only [t_ob_13, true_and, t_ki, zb_0, if_true]
  rw [if_neg (show ¬ (t_I g 13 0 1).1 13 0 ≤ 0 by rw [t_13_0]; decide), s_158_37, s_158_43, if_pos (Int32.le_refl _)]
  rfl
theorem op_paths {h : tH} (hI : IV h) (x : Int32) : opI h 193 [.ref 0, .int x, .ref 32] 158 [.ref 13, .int x] := by
  obtain ⟨D, h1, h2, h3, h4⟩ := IV_D hI
  by_cases hx : pI x D = true
  · obtain ⟨d, hd, rfl⟩ := (pI_iff (by omega)).mp hx
    obtain ⟨n, hn⟩ := h4 d hd
    have hd6 : d < 6 := by omega
    obtain ⟨t1, t2⟩ := DV_t hd6 hn
    have n7' := t1.2.2
    obtain ⟨b1, b2, b3, b4', b5, b6, -⟩ := id hn
    obtain ⟨χ, hχ⟩ : ∃ χ, χ = tX h (70 + d) := ⟨_, rfl⟩
    rw [← hχ] at b5 b6
    have r1 := c92 h1 h3 hd t1 hχ.symm b6 b1
    obtain ⟨g', f', z0, z2, r2⟩ := n158 (g := t_L (hR h χ n) 32 0 (nI (wkt χ n) / 2).toInt64) (n := n) (D := D) (d := d) (χ := χ) (by
      show (hR h χ n).1 13 8 = nI D
      rw [hR_o (by decide)]; exact h2) h3 hd ⟨by omega, by
      show (hR h χ n).1 19 d = nI n
      rw [hR_o (by decide)]; exact b4', n7'⟩ (by
      rw [b5, tY_L]
      exact tY_o fun c _ => hR_o (by decide)) b6 (by omega)
    refine opI_s hI (r_193 r1) r2 (fr_t (fr_t fr_hR (fr_L _ 32 0 _)) f') z0 ?_
    rw [z2]
    rfl
  · refine opI_f hI (k := 1) (by decide) (by decide) (r_193_e2 fun Q => ?_) (n158x (g := t_X h) h2 h3 (pI_x hx))
    rw [am_92, s_92_0, c75x h1 h3 (pI_x hx)]
    simp only [t_ob_0', true_and, t_kq_E]
