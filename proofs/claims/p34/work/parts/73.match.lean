/-! ===== matchings ===== -/
/-- how many plane matchings a set of c points has, besides segments that are taken -/
def CW (χ : tC) (n : Nat) : Nat → Int32 → Int32 → Nat
  | 0, _, _ => 1
  | 1, _, _ => 0
  | c + 2, S, T => sB (fun b => if bt (rmv S (low S)) b = true then (if fre χ n T (low S) b = true then CW χ n c (rmv (rmv S (low S)) b) (T ||| one (sx (low S) b)) else 0) else 0) 0 7
theorem CW_s {χ : tC} {n c : Nat} {S T : Int32} : CW χ n (c + 2) S T = sB (fun b => if bt (rmv S (low S)) b = true then (if fre χ n T (low S) b = true then CW χ n c (rmv (rmv S (low S)) b) (T ||| one (sx (low S) b)) else 0) else 0) 0 7 := by
  rw [CW]
theorem CW_odd {χ : tC} {n : Nat} : ∀ m S T, CW χ n (2 * m + 1) S T = 0 := by
  intro m
  induction m with
  | zero => intro S T; rfl
  | succ m ih =>
    intro S T
    rw [show 2 * (m + 1) + 1 = (2 * m + 1) + 2 by omega, CW_s]
    refine sB_z _ _ fun b _ _ => ?_
    rw [ih]
    split
    · split <;> rfl
    · rfl
theorem lev27 {S T : Int32} {k : Nat} (hk : k < 30) : t_lev tq_27 [.ref 9, .int S, .int T, .int (nI k)] = 33 - k := by
  show 3 + (30 - (nI k).toNatClampNeg) = 33 - k
  rw [nC (by omega)]
  omega
theorem rmv2 {S : Int32} {a b : Nat} (ha : a < 32) (hb : b < 32) : S &&& ((one a ||| one b) ^^^ -1) = rmv (rmv S a) b := b_ext fun i hi => by
  rw [bt_cpl hi, b_or, bt_one ha, bt_one hb, rmv_bt hb hi, rmv_bt ha hi]
  cases bt S i <;> simp
theorem m_27 {h : tH} {M : Nat → Int32} {χ : tC} {n : Nat} (hM : h.1 10 = M) (h9 : h.1 9 1 = nI n) (r : RM M χ n) (w : WS χ n) (h7 : n ≤ 7) : ∀ c S T k, pc S = c → sm S n → c + 2 * k ≤ 8 → ∀ Q, AM 27 [.ref 9, .int S, .int T, .int (nI k)] h Q = Q (RI (nI (CW χ n c S T))) h := by
  intro c
  induction c using Nat.strongRecOn with
  | _ c ih =>
    intro S T k hc hs hk Q
    have e7 : (nI k < (7 : Int32)) = (k < 7) := nI_lt' (a := k) (b := 7) (by omega) (by omega)
    rw [am_27, lev27 (by omega), s_27_0]
    by_cases c0 : c = 0
    · subst c0
      have : S = 0 := sm_0 h7 hs hc
      rw [if_neg (fun z => z this)]
      rfl
    · have sne : ¬ S = 0 := fun z => by
        rw [z, pc_0] at hc
        exact c0 hc.symm
      obtain ⟨a, ha⟩ : ∃ a, a = low S := ⟨_, rfl⟩
      obtain ⟨l1, l2⟩ := low_in h7 hs (by omega)
      rw [← ha] at l1 l2
      have lp' := low_pF h7 hs (by omega)
      rw [← ha] at lp'
      rw [if_pos sne, if_pos (by rw [e7]; omega), m_lowest, lp']
      simp only [t_ki, nI_1]
      rw [show (t_lev tq_5 [.int S] < 33 - k) = True from eq_true (show 2 < 33 - k by omega), true_and]
      obtain ⟨term, ht⟩ : ∃ term : Nat → Nat, term = fun b => if bt (rmv S a) b = true then (if fre χ n T a b = true then CW χ n (c - 2) (rmv (rmv S a) b) (T ||| one (sx a b)) else 0) else 0 := ⟨_, rfl⟩
      have step : ∀ m b, b + m = n → a < b → ∀ s x, AX (33 - k) 27 29 [.ref 9, .int S, .int T, .int (nI k), .int (nI a), .int (nI s), .int (nI b), x] [] h Q = Q (RI (nI (s + sB term b m))) h := by
        intro m
        induction m with
        | zero =>
          intro b hb ab s x
          have : b = n := by omega
          subst this
          rw [s_27_29, h9, if_pos (Int32.le_refl _)]
          simp only [t_ob_9', true_and]
          rfl
        | succ m ihm =>
          intro b hb ab s x
          have hb7 : b < 7 := by omega
          have ha7 : a < 7 := by omega
          have eb : bt (rmv S a) b = bt S b := by
            rw [rmv_bt (by omega) (by omega), decide_eq_false (show ¬ b = a by omega)]
            simp
          have cr := cro_iff (T := T) r w h7 l1 (show b < n by omega) (show a ≠ b by omega)
          rw [s_27_29, h9]
          simp (disch := omega) only [t_ob_9', true_and, nI_le', m_has' (show b < 31 by omega), t_ki, zb_0, s_27_99, nI_1, m_25 hM ha7 hb7 (show a ≠ b by omega), cr, m_one', m_22 ha7 hb7]
          rw [if_neg (by omega)]
          rw [show (t_lev tq_4 [.int S, .int (nI b)] < 33 - k) = True from eq_true (show 1 < 33 - k by omega), show (t_lev tq_25 [.ref 9, .int (nI a), .int (nI b), .int T] < 33 - k) = True from eq_true (show 1 < 33 - k by omega), show (t_lev tq_2 [.int (nI a)] < 33 - k) = True from eq_true (show 0 < 33 - k by omega), show (t_lev tq_2 [.int (nI b)] < 33 - k) = True from eq_true (show 0 < 33 - k by omega), show (t_lev tq_22 [.int (nI a), .int (nI b)] < 33 - k) = True from eq_true (show 1 < 33 - k by omega)]
          simp only [true_and]
          have et : term b = if bt S b = true then (if fre χ n T a b = true then CW χ n (c - 2) (rmv (rmv S a) b) (T ||| one (sx a b)) else 0) else 0 := by rw [ht, ← eb]
          show _ = Q (RI (nI (s + (term b + sB term (b + 1) m)))) h
          by_cases q1 : bt S b = true
          · by_cases q2 : fre χ n T a b = true
            · rw [if_neg (by simp [q1]), if_neg (by simp [q2]), rmv2 (by omega) (by omega), lev27 (by omega)]
              have esb : sb a b = one (sx a b) := if_neg (show ¬ a = b by omega)
              have p1 := pc_rmv (show a < 32 by omega) l2
              have p2 := pc_rmv (show b < 32 by omega) (show bt (rmv S a) b = true by rw [eb]; exact q1)
              have rk := ih (c - 2) (by omega) (rmv (rmv S a) b) (T ||| one (sx a b)) (k + 1) (by omega) (rmv_sm (by omega) (rmv_sm (by omega) hs)) (by omega)
              rw [esb, rk]
              simp only [t_ki, nI_add]
              rw [show (33 - (k + 1) < 33 - k) = True from eq_true (by omega), true_and, ihm (b + 1) (by omega) (by omega), et, if_pos q1, if_pos q2, Nat.add_assoc]
            · rw [if_neg (by simp [q1]), if_pos (by simpa using q2), ihm (b + 1) (by omega) (by omega), et, if_pos q1, if_neg q2, Nat.zero_add]
          · rw [if_pos (by simpa using q1), ihm (b + 1) (by omega) (by omega), et, if_neg q1, Nat.zero_add]
      rw [show (0 : Int32) = nI 0 from rfl, step (n - (a + 1)) (a + 1) (by omega) (by omega) 0, Nat.zero_add]
      -- all of the terms
      have z : sB term (a + 1) (n - (a + 1)) = sB term 0 7 := by
        rw [show (7 : Nat) = (a + 1) + ((n - (a + 1)) + (7 - n)) by omega, sB_app term (a + 1) 0, sB_app term (n - (a + 1)) (0 + (a + 1)), Nat.zero_add]
        rw [sB_z (f := term) (a + 1) 0 fun b _ hb => by
          rw [ht]
          show (if bt (rmv S a) b = true then _ else 0) = 0
          rw [if_neg]
          rw [rmv_bt (by omega) (by omega)]
          by_cases ba : b = a
          · simp [ba]
          · intro zz
            simp only [Bool.and_eq_true] at zz
            have := low_min (f := bt S) 7 0 0 b (by omega) (by omega) zz.1 rfl
            unfold low at ha
            omega]
        rw [sB_z (f := term) (7 - n) _ fun b hb _ => by
          rw [ht]
          show (if bt (rmv S a) b = true then _ else 0) = 0
          rw [if_neg]
          rw [rmv_sm (by omega) hs b (by omega)]
          decide]
        omega
      rw [z]
      by_cases c1 : c = 1
      · subst c1
        have p1 := pc_rmv (show a < 32 by omega) l2
        have s0 := sm_0 h7 (rmv_sm (show a < 32 by omega) hs) (by omega)
        rw [sB_z (f := term) 7 0 fun b _ _ => by
          rw [ht]
          show (if bt (rmv S a) b = true then _ else 0) = 0
          rw [s0, b_0]
          rfl]
        rfl
      · obtain ⟨e, rfl⟩ : ∃ e, c = e + 2 := ⟨c - 2, by omega⟩
        rw [CW_s, ht, ha]
        rfl
