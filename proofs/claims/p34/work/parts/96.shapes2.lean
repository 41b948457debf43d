/-! ===== shapes: layers, the way around the hull, the whole ===== -/
theorem nI_0' {t : Nat} (h : t < 1000) : (nI t = (0 : Int32)) = (t = 0) := by rw [show (0 : Int32) = nI 0 from rfl, nI_eq' h (by omega)]
theorem GH_A {h : tH} {D n : Nat} {χ : tC} (G : GH h D n χ) : GH (t_A h) D n χ := by
  obtain ⟨g1, g2, g3, g4, g5, g6⟩ := G
  have o : ∀ a b, a ≠ 35 → a ≠ 36 → (t_A h).1 a b = h.1 a b := fun a b e1 e2 => by
    show (if a = 35 then 0 else if a = 36 ∧ b = 0 then 1 else h.1 a b) = _
    rw [if_neg e1, if_neg fun z => e2 z.1]
  exact ⟨by rw [o _ _ (by decide) (by decide)]; exact g1, g2, g3, by rw [o _ _ (by decide) (by decide)]; exact g4, (tX_o fun c _ => o _ _ (by decide) (by decide)).trans g5, g6⟩
theorem sh_lay {χ : tC} {y : Int64} {D n : Nat} (L : LV χ y n) {h : tH} (G : GH h D n χ) (hf : h.1 36 0 = 0) {Q : tO → tH → Prop} {c4 c5 c6 c7 c8 : Int32} (hQ : ∀ g v, sq (t_A h) v g → Q (RI 1) g) :
    ∀ c s l w11 w12, pc s ≤ c → sm s n → l + pc s ≤ 7 → (∀ p, p < n → bt s p = true → lay χ n p 7 (one n - 1) = l + lay χ n p (7 - l) s) →
    AX 36 112 105 [.ref 0, .long y, .float 0, .int (nI n), .int c4, .int c5, .int c6, .int c7, .int c8, .int s, .int (nI l), w11, w12, .float 0, .float 0, .float 0, .float 0, .float 0, .float 0, .float 0, .float 0] [] h Q := by
  have h7 := L.2.2
  have w' := L.2.1
  have hh := G.2.2.2.2.2.2.2.2
  have fin : ∀ (l : Nat) (w11 w12 : Value), AX 36 112 105 [.ref 0, .long y, .float 0, .int (nI n), .int c4, .int c5, .int c6, .int c7, .int c8, .int 0, .int (nI l), w11, w12, .float 0, .float 0, .float 0, .float 0, .float 0, .float 0, .float 0, .float 0] [] h Q := fun l w11 w12 => by
    rw [s_112_105, if_pos rfl]
    refine ⟨⟨hf, by simp⟩, ?_⟩
    exact sh_c L (GH_A G) rfl ⟨fun _ _ _ _ _ _ => rfl, rfl, rfl, fun t _ => rfl⟩ hQ
  intro c
  induction c with
  | zero =>
    intro s l w11 w12 hc hs hl hv
    have : s = 0 := Classical.byContradiction fun z => by
      have := (lay_next w' h7 hh hs z).2
      omega
    rw [this]
    exact fin l w11 w12
  | succ c ih =>
    intro s l w11 w12 hc hs hl hv
    by_cases h0 : s = 0
    · rw [h0]
      exact fin l w11 w12
    obtain ⟨n1, n2⟩ := lay_next w' h7 hh hs h0
    obtain ⟨H, hH⟩ : ∃ H, H = phull χ n s := ⟨_, rfl⟩
    have e7 : 7 - l = (7 - (l + 1)) + 1 := by omega
    have inner : ∀ m k, k + m = n → AX 36 112 122 [.ref 0, .long y, .float 0, .int (nI n), .int c4, .int c5, .int c6, .int c7, .int c8, .int s, .int (nI l), .int H, .int (nI k), .float 0, .float 0, .float 0, .float 0, .float 0, .float 0, .float 0, .float 0] [] h Q := by
      intro m
      induction m with
      | zero =>
        intro k hk
        have : k = n := by omega
        subst this
        rw [s_112_122, if_pos (Int32.le_refl _), nI_1, hH]
        refine ih _ (l + 1) _ _ (by omega) n1 (by omega) fun p hp hb => ?_
        rw [bt_cpl (by omega)] at hb
        simp only [Bool.and_eq_true, Bool.not_eq_true'] at hb
        rw [hv p hp hb.1, e7, lay_s, if_neg (by rw [hb.2]; decide)]
        omega
      | succ m ih2 =>
        intro k hk
        have hkn : k < n := by omega
        rw [s_112_122, if_neg (by rw [nI_le' (by omega) (by omega)]; omega)]
        have bit := shr_iff (x := H) (p := k) (by omega)
        have nx := ih2 (k + 1) (by omega)
        by_cases hb : bt H k = true
        · have bs : bt s k = true := by
            rw [hH, phull_bt h7] at hb
            simp only [Bool.and_eq_true] at hb
            exact hb.2.1
          have lv : lay χ n k 7 (one n - 1) = l := by
            rw [hv k hkn bs, e7, lay_s, if_pos (by rw [← hH]; exact hb)]
            rfl
          rw [if_neg (by rw [bit]; simpa using hb), k86 G hkn]
          simp only [t_ob_0', true_and, t_ki, lv, if_true, s_112_153, nI_1]
          exact nx
        · rw [if_pos (by rw [bit]; exact hb), s_112_153, nI_1]
          exact nx
    rw [s_112_105, if_neg h0, m_hul L, lhull_p w' h7 hh hs, ← hH]
    simp only [t_ki]
    exact inner n 0 (by omega)
theorem m_shapes {χ : tC} {y : Int64} {D n : Nat} (L : LV χ y n) {h : tH} (G : GH h D n χ) (hf : h.1 36 0 = 0) {Q : tO → tH → Prop} (hQ : ∀ g v, sq (t_A h) v g → Q (RI 1) g) : AM 112 [.ref 0, .long y, .int (nI n)] h Q := by
  have h7 := L.2.2
  have w' := L.2.1
  have n3 := G.2.2.2.2.2.1
  have hh := G.2.2.2.2.2.2.2.2
  obtain ⟨k0, on, kK, kn⟩ := cyc_len w' n3 h7 hh
  obtain ⟨K, hK⟩ : ∃ K, K = pc (hset χ n) := ⟨_, rfl⟩
  rw [← hK] at k0 kK kn
  have K7 : K < 100 := by
    have := cB_le (bt (hset χ n)) 32 0
    have e : pc (hset χ n) = cB (bt (hset χ n)) 0 32 := rfl
    omega
  have sAll : sm (one n - 1) n := fun i hi => by
    by_cases h32 : i < 32
    · rw [bt_all h7 h32]; simpa using hi
    · exact b_big (by omega)
  have pAll : pc (one n - 1) ≤ 7 := by
    rw [pc_7 h7 sAll]
    exact cB_le _ 7 0
  have tail := sh_lay (c4 := one n - 1) (c5 := hset χ n) (c6 := nI (hfirst χ n)) (c7 := nI (hfirst χ n)) (c8 := nI K) L G hf hQ 7 (one n - 1) 0 (.float 0) (.float 0) pAll sAll (by omega) (fun p _ _ => by rw [Nat.zero_add])
  have loop : ∀ m t, t + m = K → AX 36 112 42 [.ref 0, .long y, .float 0, .int (nI n), .int (one n - 1), .int (hset χ n), .int (nI (hres χ n t)), .int (nI (hfirst χ n)), .int (nI t), .float 0, .float 0, .float 0, .float 0, .float 0, .float 0, .float 0, .float 0, .float 0, .float 0, .float 0, .float 0] [] h Q := by
    intro m
    induction m with
    | zero =>
      intro t ht
      have : t = K := by omega
      subst this
      rw [s_112_42, if_neg (by rw [nI_0' (by omega)]; omega), if_pos (by rw [kK]), k85 G]
      rw [if_neg (nI_pos (by omega)), if_neg (by rw [← hK]; exact Int32.not_lt.mpr (Int32.le_refl _))]
      simp only [t_ob_0', true_and, t_ki, if_true]
      rw [kK]
      exact tail
    | succ m ih =>
      intro t ht
      have o1 := on t
      obtain ⟨v1, v2⟩ := hstep_ok w' n3 h7 hh (k := 0) o1
      have nx := ih (t + 1) (by omega)
      rw [hres_s] at nx
      have go : AX 36 112 54 [.ref 0, .long y, .float 0, .int (nI n), .int (one n - 1), .int (hset χ n), .int (nI (hres χ n t)), .int (nI (hfirst χ n)), .int (nI t), .float 0, .float 0, .float 0, .float 0, .float 0, .float 0, .float 0, .float 0, .float 0, .float 0, .float 0, .float 0] [] h Q := by
        rw [s_112_54, k85 G, if_neg (nI_pos (by omega)), if_pos (by rw [← hK, nI_lt' (by omega) (by omega)]; omega), nC (by omega)]
        simp only [t_ob_0', true_and, t_ki, if_true, m_fol L o1.1, v2, nI_1]
        exact nx
      rw [s_112_42]
      by_cases t0 : t = 0
      · rw [if_pos (by rw [nI_0' (by omega)]; exact t0)]
        exact go
      · have ne := kn t (by omega) (by omega)
        have l1 := o1.1
        have l2 := (on 0).1
        rw [hres_0] at l2
        rw [if_neg (by rw [nI_0' (by omega)]; exact t0), if_neg (by rw [nI_eq' (by omega) (by omega)]; exact ne)]
        exact go
  obtain ⟨f1, -, f3⟩ := hfirst_ok (χ := χ) h7 (by rw [← hK]; exact k0)
  have hf7 : hfirst χ n < 7 := by have := f1.1; omega
  have sk : ∀ m k, k + m = hfirst χ n → AX 36 112 19 [.ref 0, .long y, .float 0, .int (nI n), .int (one n - 1), .int (hset χ n), .int (nI k), .float 0, .float 0, .float 0, .float 0, .float 0, .float 0, .float 0, .float 0, .float 0, .float 0, .float 0, .float 0, .float 0, .float 0] [] h Q := by
    intro m
    induction m with
    | zero =>
      intro k hk
      have : k = hfirst χ n := by omega
      subst this
      have hb : bt (hset χ n) (hfirst χ n) = true := (hset_bt h7).mpr f1
      rw [s_112_19, if_pos (by rw [shr_0 (by omega), hb]; simp)]
      exact loop K 0 (by omega)
    | succ m ih =>
      intro k hk
      have hb := f3 k (by omega)
      rw [s_112_19, if_neg (by rw [shr_0 (by omega), hb]; simp), nI_1]
      exact ih (k + 1) (by omega)
  have e1 : lhull χ n (one n - 1) = hset χ n := (lhull_p w' h7 hh sAll).trans (phull_q h7 (all_one n3 h7))
  rw [am_112, s_112_0, show (1 <<< (nI n &&& 31) : Int32) = one n from rfl, m_hul L, e1]
  simp only [t_ki]
  exact sk (hfirst χ n) 0 (by omega)
