/-! ===== canonical: the search ===== -/
theorem lev19 {k : Nat} {U : Int32} {y : Int64} (hk : k < 30) : t_lev tq_19 [.ref 11, .int (nI k), .int U, .long y] = 34 - k := by
  show 4 + (30 - (nI k).toNatClampNeg) = 34 - k
  rw [nC (by omega)]
  omega
def gP (l : List Nat) : Nat → Nat := fun i => l.getD i 0
theorem gP_app {l l' : List Nat} {i : Nat} (h : i < l.length) : gP (l ++ l') i = gP l i := by
  unfold gP
  rw [List.getD_eq_getElem?_getD, List.getD_eq_getElem?_getD, List.getElem?_append_left h]
theorem gP_at {l : List Nat} {x : Nat} : gP (l ++ [x]) l.length = x := by
  unfold gP
  rw [List.getD_eq_getElem?_getD, List.getElem?_append_right (Nat.le_refl _), Nat.sub_self]
  rfl
theorem HD_ext {χ : tC} {f : Int32} {p q : Nat → Nat} {k : Nat} (h : ∀ i, i < k → p i = q i) : HD (BB χ f p) k = HD (BB χ f q) k := by
  unfold HD
  rw [bl3_ext (g := BB χ f q 0 1) _ _ fun x h1 h2 => by
    unfold BB
    rw [h 0 (by omega), h 1 (by omega), h x (by omega)]]
theorem HD_s {χ : tC} {f : Int32} {p : Nat → Nat} {k : Nat} (h : 2 ≤ k) : HD (BB χ f p) (k + 1) = 2 * HD (BB χ f p) k + bn (BB χ f p 0 1 k) := by
  unfold HD
  rw [show k + 1 - 2 = k - 2 + 1 by omega, bl3_snoc, nb_app, show 2 + (k - 2) = k by omega]
  rfl
theorem HD_0 {χ : tC} {f : Int32} {p : Nat → Nat} {k : Nat} (h : k ≤ 2) : HD (BB χ f p) k = 0 := by
  unfold HD
  rw [show k - 2 = 0 by omega]
  rfl
theorem HD_lt {χ : tC} {f : Int32} {p : Nat → Nat} {k : Nat} : HD (BB χ f p) k < 2 ^ (k - 2) := by
  unfold HD
  have := nb_hi (bl3 (BB χ f p 0 1) 2 (k - 2)) 0
  rw [bl3_len] at this
  omega
theorem t_ob_12' : t_ob 12 = none := rfl
theorem m_19 {n sN : Nat} {χ : tC} {f : Int32} (n3 : 3 ≤ n) (h7 : n ≤ 7) : ∀ m k U S l h L, k + m = n → l.length = k → (∀ i, i < k → h.1 12 i = nI (gP l i) ∧ gP l i < 7) → (∀ x, x < 7 → bt S x = (decide (x < n) && !bt U x)) → NC h sN n χ f → h.2.1 11 3 = jN L → L < 2 ^ 63 → HD (BB χ f (gP l)) k ≤ L / 2 ^ (C3 n - (k - 2)) →
    ∃ h', fn k h h' ∧ h'.2.1 11 3 = jN (MN (fun l => NT (BB χ f (gP l)) n) m S l L) ∧ ∀ Q, AM 19 [.ref 11, .int (nI k), .int U, .long (jN (HD (BB χ f (gP l)) k))] h Q = Q (.inl none) h' := by
  have c35 := C3_le h7
  intro m
  induction m with
  | zero =>
    intro k U S l h L hk hl hr hS c hL hL63 hv
    have : k = n := by omega
    subst this
    have e : MN (fun l => NT (BB χ f (gP l)) k) 0 S l L = if nb (HD (BB χ f (gP l)) k) (bl1 true (BB χ f (gP l)) k 0 k) ≤ L then nb (HD (BB χ f (gP l)) k) (bl1 true (BB χ f (gP l)) k 0 k) else L := by
      rw [← NT_end _ (by omega)]
      rfl
    refine ⟨t_L h 11 3 (jN (MN (fun l => NT (BB χ f (gP l)) k) 0 S l L)), ⟨fun _ _ _ => rfl, rfl, fun a b z => if_neg z⟩, rfl, fun Q => ?_⟩
    rw [am_19, lev19 (by omega), s_19_0, m_17 c]
    simp only [t_ki]
    rw [if_pos (Int32.le_refl _), s_19_18, m_20 c n3 hr hL hL63 _ hv HD_lt, e]
    rw [show (t_lev tq_17 [.ref 11] < 34 - k) = True from eq_true (Nat.lt_of_le_of_lt (show t_lev tq_17 [.ref 11] ≤ 4 from Nat.le_of_ble_eq_true rfl) (by omega)), show (t_lev tq_20 [.ref 11, .long (jN (HD (BB χ f (gP l)) k))] < 34 - k) = True from eq_true (Nat.lt_of_le_of_lt (show t_lev tq_20 [.ref 11, .long (jN (HD (BB χ f (gP l)) k))] ≤ 4 from Nat.le_of_ble_eq_true rfl) (by omega))]
    simp only [t_ob_11, true_and, t_kv]
  | succ m ih =>
    intro k U S l h L hk hl hr hS c hL hL63 hv
    obtain ⟨v, hv'⟩ : ∃ v, v = HD (BB χ f (gP l)) k := ⟨_, rfl⟩
    obtain ⟨N, hN⟩ : ∃ N, N = fun l => NT (BB χ f (gP l)) n := ⟨_, rfl⟩
    rw [← hv'] at hv
    rw [← hN, ← hv']
    have lv : ∀ q as, t_lev q as ≤ 4 → (t_lev q as < 34 - k) = True := fun q as z => eq_true (by omega)
    have loop : ∀ j x, x + j = n → ∀ h L, NC h sN n χ f → (∀ i, i < k → h.1 12 i = nI (gP l i) ∧ gP l i < 7) → h.2.1 11 3 = jN L → L < 2 ^ 63 → ∃ h', fn k h h' ∧ h'.2.1 11 3 = jN (fd (fun x acc => if bt S x = true then MN N m (rmv S x) (l ++ [x]) acc else acc) x (7 - x) L) ∧ ∀ Q x6 w9, AX (34 - k) 19 56 [.ref 11, .int (nI k), .int U, .long (jN v), .float 0, .int (nI n), .int x6, .int (nI (C3 n - (k + 1 - 2))), .int (nI x), w9, .float 0] [] h Q = Q (.inl none) h' := by
      intro j
      induction j with
      | zero =>
        intro x hx h L c hr hL hL63
        have : x = n := by omega
        subst this
        refine ⟨h, fn_r _ _, ?_, fun Q x6 w9 => ?_⟩
        · rw [hL]
          refine congrArg jN ?_
          refine (fd_inv (I := fun _ z => z = L) (7 - x) x L rfl fun y z hy hy2 hz => ?_).symm
          subst hz
          show (if bt S y = true then _ else z) = z
          rw [if_neg]
          rw [hS y (by omega), decide_eq_false (by omega)]
          simp
        · rw [s_19_56, if_pos (Int32.le_refl _)]
      | succ j ihj =>
        intro x hx h L c hr hL hL63
        have hx7 : x < 7 := by omega
        have fs : fd (fun x acc => if bt S x = true then MN N m (rmv S x) (l ++ [x]) acc else acc) x (7 - x) L = fd (fun x acc => if bt S x = true then MN N m (rmv S x) (l ++ [x]) acc else acc) (x + 1) (7 - (x + 1)) (if bt S x = true then MN N m (rmv S x) (l ++ [x]) L else L) := by
          rw [show 7 - x = (7 - (x + 1)) + 1 by omega, fd_s]
        have n56 : ∀ h Q x6 w9, AX (34 - k) 19 56 [.ref 11, .int (nI k), .int U, .long (jN v), .float 0, .int (nI n), .int x6, .int (nI (C3 n - (k + 1 - 2))), .int (nI x), w9, .float 0] [] h Q = if bt U x = true then AX (34 - k) 19 56 [.ref 11, .int (nI k), .int U, .long (jN v), .float 0, .int (nI n), .int x6, .int (nI (C3 n - (k + 1 - 2))), .int (nI (x + 1)), w9, .float 0] [] h Q else AM 7 [.ref 12, .int (nI k), .int (nI x)] h (t_kv (fun h2 => (if (2 : Int32) ≤ nI k then (t_ob 11 = some 4 ∧ t_lev tq_16 [.ref 11, .int 0, .int 1, .int (nI k)] < 34 - k ∧ AM 16 [.ref 11, .int 0, .int 1, .int (nI k)] h2 (t_ki (fun a3 h3 => AX (34 - k) 19 106 [.ref 11, .int (nI k), .int U, .long (jN v), .float 0, .int (nI n), .int x6, .int (nI (C3 n - (k + 1 - 2))), .int (nI x), w9, .float 0] [.long ((jN v <<< ((1 : Int32).toInt64 &&& 63)) ||| ((a3 : Int32).toInt64))] h3 Q) Q)) else AX (34 - k) 19 106 [.ref 11, .int (nI k), .int U, .long (jN v), .float 0, .int (nI n), .int x6, .int (nI (C3 n - (k + 1 - 2))), .int (nI x), w9, .float 0] [.long (jN v)] h2 Q)) Q) := fun h Q x6 w9 => by
          rw [s_19_56, if_neg (by rw [nI_le' (by omega) (by omega)]; omega), lv _ _ (show t_lev tq_4 [.int U, .int (nI x)] ≤ 4 from Nat.le_of_ble_eq_true rfl), lv _ _ (show t_lev tq_7 [.ref 12, .int (nI k), .int (nI x)] ≤ 4 from Nat.le_of_ble_eq_true rfl), m_has' (by omega)]
          simp only [t_ob_11, true_and, t_ki]
          by_cases b : bt U x = true
          · rw [b, if_neg (by decide), if_pos rfl, s_19_135, nI_1]
          · have b' : bt U x = false := by simpa using b
            rw [b', if_pos (show zb false = (0 : Int32) from rfl), if_neg (show ¬ false = true by decide)]
        by_cases b : bt U x = true
        · have sx' : bt S x = false := by rw [hS x hx7, b]; simp
          obtain ⟨h', f', r', q'⟩ := ihj (x + 1) (by omega) h L c hr hL hL63
          refine ⟨h', f', ?_, fun Q x6 w9 => ?_⟩
          · rw [r', fs, if_neg (by rw [sx']; decide)]
          · rw [n56, if_pos b, q']
        · have b' : bt U x = false := by simpa using b
          have sx' : bt S x = true := by rw [hS x hx7, b', decide_eq_true (show x < n by omega)]; rfl
          obtain ⟨h1, hh1⟩ : ∃ h1, h1 = t_I h 12 k (nI x) := ⟨_, rfl⟩
          have f1 : fn k h h1 := by
            rw [hh1]
            exact ⟨fun a b z => by rw [t_I_at, if_neg (by omega)], rfl, fun _ _ _ => rfl⟩
          have c1 := NC_f c f1
          have L1 : h1.2.1 11 3 = jN L := by rw [hh1]; exact hL
          have r1 : ∀ i, i < k + 1 → h1.1 12 i = nI (gP (l ++ [x]) i) ∧ gP (l ++ [x]) i < 7 := fun i hi => by
            by_cases e : i = k
            · rw [e, hh1, t_I_at, if_pos ⟨rfl, rfl⟩, ← hl, gP_at]
              exact ⟨rfl, hx7⟩
            · rw [gP_app (by omega), f1.1 _ _ (by omega)]
              exact hr i (by omega)
          obtain ⟨v', hv2⟩ : ∃ v', v' = HD (BB χ f (gP (l ++ [x]))) (k + 1) := ⟨_, rfl⟩
          have hvx : v = HD (BB χ f (gP (l ++ [x]))) k := by
            rw [hv']
            exact (HD_ext (p := gP (l ++ [x])) (q := gP l) fun i hi => gP_app (by omega)).symm
          have vlt : v' < 2 ^ 63 := by
            rw [hv2]
            exact Nat.lt_of_lt_of_le HD_lt (Nat.pow_le_pow_right (by decide) (by omega))
          have to106 : ∀ Q x6 w9, AX (34 - k) 19 56 [.ref 11, .int (nI k), .int U, .long (jN v), .float 0, .int (nI n), .int x6, .int (nI (C3 n - (k + 1 - 2))), .int (nI x), w9, .float 0] [] h Q = AX (34 - k) 19 106 [.ref 11, .int (nI k), .int U, .long (jN v), .float 0, .int (nI n), .int x6, .int (nI (C3 n - (k + 1 - 2))), .int (nI x), w9, .float 0] [.long (jN v')] h1 Q := fun Q x6 w9 => by
            rw [n56, if_neg b, m_set t_ar_12', zs_n (show k < 7 by omega) (by decide), ← hh1]
            simp only [t_kv]
            have e2 : ((2 : Int32) ≤ nI k) = (2 ≤ k) := nI_le' (a := 2) (b := k) (by omega) (by omega)
            by_cases k2 : 2 ≤ k
            · rw [if_pos (by rw [e2]; exact k2), lv _ _ (show t_lev tq_16 [.ref 11, .int 0, .int 1, .int (nI k)] ≤ 4 from Nat.le_of_ble_eq_true rfl), show (AM 16 [.ref 11, .int 0, .int 1, .int (nI k)] h1 = AM 16 [.ref 11, .int (nI 0), .int (nI 1), .int (nI k)] h1) from rfl, m_16 c1 (by omega) (by omega) (by omega) (r1 0 (by omega)).1 (r1 1 (by omega)).1 (r1 k (by omega)).1 (r1 0 (by omega)).2 (r1 1 (by omega)).2 (r1 k (by omega)).2]
              simp only [t_ob_11, true_and, t_ki]
              rw [l_app, hv2, HD_s k2, ← hvx]
            · rw [if_neg (by rw [e2]; exact k2), hv2, HD_0 (show k + 1 ≤ 2 by omega), hv', HD_0 (show k ≤ 2 by omega)]
          by_cases tg : v' ≤ L / 2 ^ (C3 n - (k + 1 - 2))
          · obtain ⟨h2, f2, r2, q2⟩ := ih (k + 1) (U ||| one x) (rmv S x) (l ++ [x]) h1 L (by omega) (by rw [List.length_append, hl]; rfl) r1 (fun y hy => by
              rw [rmv_bt (by omega) (by omega), hS y hy, b_or, bt_one (by omega)]
              by_cases e : y = x
              · simp [e]
              · simp [e]) c1 L1 hL63 (by rw [← hv2]; exact tg)
            rw [← hN] at r2
            rw [← hv2] at q2
            have f12 : fn k h h2 := fn_t (by omega) f1 f2
            obtain ⟨h', f', r', q'⟩ := ihj (x + 1) (by omega) h2 _ (NC_f c1 f2) (fun i hi => by
              rw [f2.1 _ _ (by omega), f1.1 _ _ (by omega)]
              exact hr i hi) r2 (Nat.lt_of_le_of_lt (MN_le _ _ _ _) hL63)
            refine ⟨h', fn_t (Nat.le_refl _) f12 f', ?_, fun Q x6 w9 => ?_⟩
            · rw [r', fs, if_pos sx']
            · rw [to106, s_19_106, lv _ _ (show t_lev tq_18 [.ref 11, .long (jN v'), .int (nI (C3 n - (k + 1 - 2)))] ≤ 4 from Nat.le_of_ble_eq_true rfl), m_18 L1 hL63 vlt (by omega), if_pos tg]
              simp only [t_ob_11, true_and, t_ki]
              rw [if_neg (fun z => z trivial), lv _ _ (show t_lev tq_2 [.int (nI x)] ≤ 4 from Nat.le_of_ble_eq_true rfl), m_one']
              simp only [t_ki, true_and, nI_1]
              rw [lev19 (by omega), q2, show (34 - (k + 1) < 34 - k) = True from eq_true (by omega), true_and]
              simp only [t_kv]
              rw [s_19_135, nI_1, q']
          · have mn : MN N m (rmv S x) (l ++ [x]) L = L := MN_gt _ _ _ _ fun l' hl' => by
              rw [hN]
              refine NT_gt (k := k + 1) (by omega) h7 (by omega) ?_
              rw [HD_ext (q := gP (l ++ [x])) fun i hi => gP_app (by rw [List.length_append, hl]; exact hi), ← hv2]
              exact tg
            obtain ⟨h', f', r', q'⟩ := ihj (x + 1) (by omega) h1 L c1 (fun i hi => by
              rw [f1.1 _ _ (by omega)]
              exact hr i hi) L1 hL63
            refine ⟨h', fn_t (Nat.le_refl _) f1 f', ?_, fun Q x6 w9 => ?_⟩
            · rw [r', fs, if_pos sx', mn]
            · rw [to106, s_19_106, lv _ _ (show t_lev tq_18 [.ref 11, .long (jN v'), .int (nI (C3 n - (k + 1 - 2)))] ≤ 4 from Nat.le_of_ble_eq_true rfl), m_18 L1 hL63 vlt (by omega), if_neg tg]
              simp only [t_ob_11, true_and, t_ki]
              rw [if_pos (by decide), s_19_135, nI_1, q']
    obtain ⟨h', f', r', q'⟩ := loop n 0 (by omega) h L c hr hL hL63
    refine ⟨h', f', r', fun Q => ?_⟩
    rw [am_19, lev19 (by omega), s_19_0, m_17 c]
    simp only [t_ki]
    have e7 : (nI k < (7 : Int32)) = (k < 7) := nI_lt' (a := k) (b := 7) (by omega) (by omega)
    rw [if_neg (by rw [nI_le' (by omega) (by omega)]; omega), if_pos (by rw [e7]; omega), C3_19 n (by omega) k (by omega), lv _ _ (show t_lev tq_17 [.ref 11] ≤ 4 from Nat.le_of_ble_eq_true rfl)]
    simp only [t_ob_11, true_and]
    exact q' Q _ _
