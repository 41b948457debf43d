/-! ===== matchings: the calls ===== -/
theorem EN_o {h h' : tH} {n k : Nat} {e : Nat → Nat} {T : Int32} (he : EN h n e k T) (ho : ∀ x, x < 2 * k → h'.1 28 x = h.1 28 x) : EN h' n e k T := by
  refine ⟨fun q hq => ?_, he.2⟩
  rw [ho _ (by omega), ho _ (by omega)]
  exact he.1 q hq
theorem LF_o {h h' : tH} {S : Int32} (hl : LF h S) (ho : ∀ x, h'.1 27 x = h.1 27 x) : LF h' S := fun p hp => by rw [ho]; exact hl p hp
theorem n153l {d n : Nat} {χ : tC} (w : WS χ n) (hd : d < 6) (h7 : n ≤ 7) : ∀ m k S T code v (h : tH) (e : Nat → Nat), ty h d n → tY h d = χ → LF h S → EN h n e k T → pc S = 2 * m → sm S n → 2 * (k + m) ≤ 7 → code < 2 ^ 31 →
    ∃ h', fx h h' ∧ ∀ Q set its x, AX 4 153 20 [.ref 13, .int (nI d), .int set, .int its, .int (nI (2 * (k + m))), .int (nI code), .int (zb v), .int (nI k), x] [] h Q = Q (RI (zb (v && VM χ n m S T code))) h' := by
  intro m
  induction m with
  | zero =>
    intro k S T code v h e _ _ _ _ _ _ hk _
    refine ⟨h, fx_r h, fun Q set its x => ?_⟩
    have e2 : nI (2 * (k + 0)) / 2 = nI k := by
      rw [show (2 : Int32) = nI 2 from rfl, pk_div (by omega) (by omega) (by omega), show 2 * (k + 0) / 2 = k by omega]
    rw [s_153_20, e2, if_pos (Int32.le_refl _), zb_z]
    simp only [VM, Bool.and_true]
  | succ m ih =>
    intro k S T code v h e ht hχ hl he hc hs hk hcode
    obtain ⟨l1, l2⟩ := low_in h7 hs (by omega)
    have p1 := pc_rmv (show low S < 32 by omega) l2
    have s1 := rmv_sm (show low S < 32 by omega) hs
    have c7 := pc_7 h7 s1
    have c7' := pc_7 h7 hs
    obtain ⟨a, ha⟩ : ∃ a, a = low S := ⟨_, rfl⟩
    have ha' : nth (bt S) 0 7 0 = a := ha.symm
    obtain ⟨b, hb⟩ : ∃ b, b = nth (bt (rmv S a)) 0 7 (code % (2 * m + 1)) := ⟨_, rfl⟩
    rw [← ha] at l1 l2 p1 s1 c7
    have rlt : code % (2 * m + 1) < 2 * m + 1 := Nat.mod_lt _ (by omega)
    obtain ⟨x1, x2, x3⟩ := nth_in (f := bt (rmv S a)) 7 0 (code % (2 * m + 1)) (by omega)
    rw [← hb] at x1 x2 x3
    have bn' : b < n := by
      apply Classical.byContradiction
      intro z
      rw [s1 b (by omega)] at x3; cases x3
    have ab : a ≠ b := fun z => by
      rw [← z, rmv_bt (by omega) (by omega)] at x3
      simp at x3
    have p2 := pc_rmv (show b < 32 by omega) x3
    have s2 := rmv_sm (show b < 32 by omega) s1
    obtain ⟨h1, hh1⟩ : ∃ h1, h1 = t_I h 27 a 0 := ⟨_, rfl⟩
    obtain ⟨h2, hh2⟩ : ∃ h2, h2 = t_I h1 28 (2 * k) (nI a) := ⟨_, rfl⟩
    obtain ⟨h3, hh3⟩ : ∃ h3, h3 = t_I h2 27 b 0 := ⟨_, rfl⟩
    obtain ⟨h4, hh4⟩ : ∃ h4, h4 = t_I h3 28 (2 * k + 1) (nI b) := ⟨_, rfl⟩
    have L1 : LF h1 (rmv S a) := by rw [hh1]; exact LF_s hl (by omega)
    have L2 : LF h2 (rmv S a) := LF_o L1 fun x => by rw [hh2, t_I_o (by decide)]
    have L3 : LF h3 (rmv (rmv S a) b) := by rw [hh3]; exact LF_s L2 (by omega)
    have L4 : LF h4 (rmv (rmv S a) b) := LF_o L3 fun x => by rw [hh4, t_I_o (by decide)]
    have F4 : fx h h4 := by
      rw [hh4, hh3, hh2, hh1]
      exact fx_t (fx_t (fx_t (fx_I (by decide)) (fx_I (by decide))) (fx_I (by decide))) (fx_I (by decide))
    have r28 : ∀ x, h4.1 28 x = if x = 2 * k + 1 then nI b else if x = 2 * k then nI a else h.1 28 x := fun x => by
      rw [hh4, t_I_at, hh3, t_I_o (show 28 ≠ 27 by decide), hh2, t_I_at, hh1, t_I_o (show 28 ≠ 27 by decide)]
      by_cases c1 : x = 2 * k + 1
      · rw [if_pos ⟨rfl, c1⟩, if_pos c1]
      · rw [if_neg (fun z => c1 z.2), if_neg c1]
        by_cases c2 : x = 2 * k
        · rw [if_pos ⟨rfl, c2⟩, if_pos c2]
        · rw [if_neg (fun z => c2 z.2), if_neg c2]
    have o28 : ∀ x, x < 2 * k → h4.1 28 x = h.1 28 x := fun x hx => by rw [r28, if_neg (by omega), if_neg (by omega)]
    have a28 : h4.1 28 (2 * k) = nI a := by rw [r28, if_neg (by omega), if_pos rfl]
    have b28 : h4.1 28 (2 * k + 1) = nI b := by rw [r28, if_pos rfl]
    have t4 := fx_ty F4 ht
    have y4 : tY h4 d = χ := by rw [fx_tY F4, hχ]
    obtain ⟨e', he'⟩ := EN_s h7 he o28 l1 bn' ab a28 b28
    have cr := n152 t4 y4 w hd (show k < 7 by omega) (EN_o he o28) l1 bn' ab a28 b28
    obtain ⟨h', f', q'⟩ := ih (k + 1) (rmv (rmv S a) b) (T ||| one (sx a b)) (code / (2 * m + 1)) (v && fre χ n T a b) h4 e' t4 y4 L4 he' (by omega) s2 (by omega) (by
      have := Nat.div_le_self code (2 * m + 1)
      omega)
    refine ⟨h', fx_t F4 f', fun Q set its x => ?_⟩
    have e2 : nI (2 * (k + (m + 1))) / 2 = nI (k + (m + 1)) := by
      rw [show (2 : Int32) = nI 2 from rfl, pk_div (by omega) (by omega) (by omega), show 2 * (k + (m + 1)) / 2 = k + (m + 1) by omega]
    have ec : nI (2 * (k + (m + 1))) - (2 * nI k) - 1 = nI (2 * m + 1) := by
      rw [n2k, nI_sb (by omega), show 2 * (k + (m + 1)) - 2 * k = (2 * m + 1) + 1 by omega, nI_s1]
    obtain ⟨md1, md2⟩ := nI_md (a := code) (c := 2 * m + 1) hcode (by omega) (by omega)
    have c0 : ¬ nI (2 * m + 1) = 0 := by
      rw [show (0 : Int32) = nI 0 from rfl, nI_eq' (by omega) (by omega)]
      omega
    have n1 := fun f => n150 (r := 0) hl (by omega) (t_ki f Q)
    have n2 := fun f => n150 (r := code % (2 * m + 1)) L2 (by omega) (t_ki f Q)
    rw [ha', ← hh1] at n1
    rw [← hb, ← hh3] at n2
    rw [s_153_20, e2, ec, md1, md2, n2k, nI_1]
    simp (disch := omega) only [nI_le', t_ob_13, true_and, vI, nC, c0, not_false_eq_true]
    rw [if_neg (by omega), show (0 : Int32) = nI 0 from rfl, n1]
    simp only [t_ki]
    rw [← hh2, n2]
    simp only [t_ki]
    rw [← hh4]
    have q := q' Q set its (.int (nI (2 * m + 1)))
    rw [show 2 * (k + 1 + m) = 2 * (k + (m + 1)) by omega] at q
    have vm : VM χ n (m + 1) S T code = (fre χ n T a b && VM χ n m (rmv (rmv S a) b) (T ||| one (sx a b)) (code / (2 * m + 1))) := by
      rw [hb, ha]; rfl
    rw [vm, ← Bool.and_assoc, ← q]
    have z0 : (zb v = nI 0) = (v = false) := zb_0
    cases v with
    | false =>
      rw [if_pos (by rw [z0]), s_153_100, s_153_101, nI_1]
      rfl
    | true =>
      rw [if_neg (by rw [z0]; decide), cr]
      simp only [t_ki]
      cases fre χ n T a b with
      | false =>
        rw [if_pos (show ¬ zb (!false) = nI 0 by decide), s_153_100, s_153_101, nI_1]
        rfl
      | true =>
        rw [if_neg (show ¬ ¬ zb (!true) = nI 0 by decide), s_153_101, nI_1]
        rfl
theorem n153 {h : tH} {d n m code : Nat} {S : Int32} {χ : tC} (w : WS χ n) (hd : d < 6) (h7 : n ≤ 7) (ht : ty h d n) (hχ : tY h d = χ) (hc : pc S = 2 * m) (hs : sm S n) (hm : 2 * m ≤ 7) (hcode : code < 2 ^ 31) : ∃ h', fx h h' ∧ ∀ Q, AM 153 [.ref 13, .int (nI d), .int S, .int (nI code)] h Q = Q (RI (zb (VM χ n m S 0 code))) h' := by
  obtain ⟨h1, f1, L1, q1⟩ := n151 (h := h) S
  obtain ⟨h', f', q'⟩ := n153l w hd h7 m 0 S 0 code true h1 (fun _ => 0) (fx_ty f1 ht) (by rw [fx_tY f1, hχ]) L1 (EN_0 _) hc hs (by omega) hcode
  refine ⟨h', fx_t f1 f', fun Q => ?_⟩
  have q := q' Q S (nI code) (.float 0)
  rw [Nat.zero_add, Bool.true_and] at q
  rw [am_153, s_153_0, q1]
  simp only [t_ob_13, true_and, t_kv, n138 (fun i hi => hs i (by omega)), t_ki, hc]
  exact q
theorem n154c {d n m : Nat} {S : Int32} {χ : tC} (w : WS χ n) (hd : d < 6) (h7 : n ≤ 7) (hc : pc S = 2 * m) (hs : sm S n) (hm : 2 * m ≤ 7) (A : Nat) (hA : A < 1000) (x3 : Int32) : ∀ j k s (h : tH), k + j = A → ty h d n → tY h d = χ → ∃ h', fx h h' ∧ ∀ Q, AX 5 154 91 [.ref 13, .int (nI d), .int S, .int x3, .int (nI A), .int (nI s), .int (nI k)] [] h Q = Q (RI (nI (s + sB (fun k => bn (VM χ n m S 0 k)) k j))) h' := by
  intro j
  induction j with
  | zero =>
    intro k s h hk _ _
    have : k = A := by omega
    subst this
    refine ⟨h, fx_r h, fun Q => ?_⟩
    rw [s_154_91, if_pos (Int32.le_refl _)]
    rfl
  | succ j ih =>
    intro k s h hk ht hχ
    obtain ⟨h1, f1, q1⟩ := n153 (code := k) w hd h7 ht hχ hc hs hm (by omega)
    obtain ⟨h', f', q'⟩ := ih (k + 1) (s + bn (VM χ n m S 0 k)) h1 (by omega) (fx_ty f1 ht) (by rw [fx_tY f1, hχ])
    refine ⟨h', fx_t f1 f', fun Q => ?_⟩
    rw [s_154_91]
    simp (disch := omega) only [nI_le', t_ob_13, true_and, q1, t_ki, nI_1]
    rw [if_neg (by omega)]
    have e : nI s + (if zb (VM χ n m S 0 k) = (0 : Int32) then (0 : Int32) else 1) = nI (s + bn (VM χ n m S 0 k)) := bn_add'
    rw [e, q', Nat.add_assoc]
    rfl
theorem dfac_4 {m : Nat} (h : m ≤ 3) : dfac m < 1000 := by
  have hh : ∀ m, m < 4 → dfac m < 1000 := by decide +kernel
  exact hh m (by omega)
theorem n154f {d : Nat} {S x3 : Int32} (h : tH) (Q : tO → tH → Prop) : ∀ m a, m ≤ 3 → AX 5 154 66 [.ref 13, .int (nI d), .int S, .int x3, .int (nI a), .int (nI (2 * m) - 1), .float 0] [] h Q = AX 5 154 91 [.ref 13, .int (nI d), .int S, .int x3, .int (nI (a * dfac m)), .int (nI 0), .int (nI 0)] [] h Q := by
  have e : ∀ m, m < 4 → (if nI (2 * m) - 1 ≤ (1 : Int32) then m ≤ 1 else 1 < m ∧ nI (2 * m) - 1 = nI (2 * m - 1) ∧ nI (2 * m) - 1 + Int32.ofInt (-2) = nI (2 * (m - 1)) - 1) := by decide +kernel
  intro m
  induction m with
  | zero =>
    intro a _
    rw [s_154_66, if_pos (by decide)]
    show _ = AX 5 154 91 [.ref 13, .int (nI d), .int S, .int x3, .int (nI (a * 1)), .int (nI 0), .int (nI 0)] [] h Q
    rw [Nat.mul_one]
    rfl
  | succ m ih =>
    intro a hm
    have em := e (m + 1) (by omega)
    rw [s_154_66]
    by_cases c : nI (2 * (m + 1)) - 1 ≤ (1 : Int32)
    · rw [if_pos c] at em ⊢
      have : m = 0 := by omega
      subst this
      rw [show dfac (0 + 1) = 1 from rfl, Nat.mul_one]
      rfl
    · rw [if_neg c] at em ⊢
      obtain ⟨e1, e2, e3⟩ := em
      rw [e3, e2, pk_mul, Nat.add_sub_cancel, ih _ (by omega)]
      show AX 5 154 91 [.ref 13, .int (nI d), .int S, .int x3, .int (nI (a * (2 * (m + 1) - 1) * dfac m)), .int (nI 0), .int (nI 0)] [] h Q = AX 5 154 91 [.ref 13, .int (nI d), .int S, .int x3, .int (nI (a * ((2 * m + 1) * dfac m))), .int (nI 0), .int (nI 0)] [] h Q
      rw [show 2 * (m + 1) - 1 = 2 * m + 1 by omega, Nat.mul_assoc]
theorem set_sm {S : Int32} {n : Nat} (h7 : n ≤ 7) (h0 : ¬ S < 0) (h1 : S ≤ one n - 1) : sm S n := by
  have e : ∀ n, n < 8 → one n - 1 = nI (2 ^ n - 1) ∧ 2 ^ n ≤ 128 ∧ 0 < 2 ^ n := by decide +kernel
  obtain ⟨e1, e2, e3⟩ := e n (by omega)
  rw [e1] at h1
  have h2 : ¬ nI (2 ^ n) ≤ S := by
    intro z
    have := Int32.le_trans z h1
    rw [nI_le' (by omega) (by omega)] at this
    omega
  obtain ⟨j, hj, rfl, -⟩ := pk_mu h0 h2 (by omega)
  intro i hi
  rw [bt_nI]
  have : j < 2 ^ i := Nat.lt_of_lt_of_le hj (Nat.pow_le_pow_right (by omega) hi)
  rw [Nat.testBit_lt_two_pow this, Bool.and_false]
theorem n154 {g : tH} {D d n : Nat} {S : Int32} {χ : tC} (hd : g.1 13 8 = nI D) (hD : D ≤ 6) (hdD : d < D) (ht : ty g d n) (hχ : tY g d = χ) (w : WS χ n) (h0 : ¬ S < 0) (h1 : S ≤ one n - 1) : ∃ g', fr g g' ∧ g'.1 13 0 = 0 ∧ g'.2 = g.2 ∧ rn 154 [.ref 13, .int (nI d), .int S] g (RI (nI (CW χ n (pc S) S 0))) g' := by
  have h7 := ht.2.2
  have hs := set_sm h7 h0 h1
  have hx : pI (nI d) D = true := by rw [pI_nI (by omega) (by omega)]; simpa using hdD
  obtain ⟨k, hk⟩ : ∃ k, k = t_I g 13 0 0 := ⟨_, rfl⟩
  have tk : ty k d n := by rw [hk]; exact ty_13 ht
  have ky : tY k d = χ := by rw [hk, tY_13, hχ]
  have k0 : k.1 13 0 = 0 := by rw [hk]; rfl
  have c7 := pc_7 h7 hs
  have le7 := cB_le (bt S) 7 0
  have st : ∀ Q, AM 154 [.ref 13, .int (nI d), .int S] g Q = (if ¬ nI (pc S % 2) = (1 : Int32) then AX 5 154 66 [.ref 13, .int (nI d), .int S, .int 1, .int 1, .int (nI (pc S) - 1), .float 0] [] k Q else Q (RI 0) k) := fun Q => by
    have a139 : ∀ f, AM 139 [.ref 13, .int (nI d)] g (t_ki f Q) = f (one n - 1) g := fun f => by rw [n139 ht]; rfl
    obtain ⟨md, -⟩ := nI_md (a := pc S) (c := 2) (by omega) (by omega) (by omega)
    rw [am_154, s_154_0, n101 hd (by omega), hx]
    simp only [t_ob_13, true_and, t_ki, zb_0, Bool.true_eq_false, not_false_eq_true, if_true, a139, s_154_28]
    rw [if_neg h0, if_pos h1, s_154_33, ← hk, k0]
    simp only [t_ob_13, true_and, n138 (fun i hi => hs i (by omega)), t_ki, s_154_53]
    rw [if_neg (by decide), show (2 : Int32) = nI 2 from rfl, md]
    rfl
  rcases Nat.mod_two_eq_zero_or_one (pc S) with ev | od
  · obtain ⟨m, hm⟩ : ∃ m, pc S = 2 * m := ⟨pc S / 2, by omega⟩
    obtain ⟨g', f', q'⟩ := n154c (m := m) (S := S) w (show d < 6 by omega) h7 hm hs (by omega) (dfac m) (dfac_4 (by omega)) 1 (dfac m) 0 0 k (by omega) tk ky
    refine ⟨g', fr_t (by rw [hk]; exact fr_13) (fx_fr f'), ?_, ?_, fun Q => ?_⟩
    · rw [f'.1 13 0 (by decide), k0]
    · rw [f'.2, hk]; rfl
    · rw [st, ev, if_pos (by decide), hm, show (1 : Int32) = nI 1 from rfl]
      have z := n154f (d := d) (S := S) (x3 := nI 1) k Q m 1 (by omega)
      rw [Nat.one_mul] at z
      refine Eq.trans z ?_
      have q := q' Q
      rw [Nat.zero_add, VM_sum h7 m S 0 hm hs] at q
      exact q
  · obtain ⟨m, hm⟩ : ∃ m, pc S = 2 * m + 1 := ⟨pc S / 2, by omega⟩
    refine ⟨k, by rw [hk]; exact fr_13, k0, by rw [hk]; rfl, fun Q => ?_⟩
    rw [st, od, if_neg (by decide), hm, CW_odd]
    rfl
theorem n154x {g : tH} {D : Nat} {x S u : Int32} (hd : g.1 13 8 = nI D) (hD : D ≤ 6) (hh : (pI x D = false ∧ u = 1) ∨ ∃ d n, x = nI d ∧ d < D ∧ ty g d n ∧ (S < 0 ∨ ¬ S ≤ one n - 1) ∧ u = 2) : rn 154 [.ref 13, .int x, .int S] g (RI 0) (t_I g 13 0 u) := by
  intro Q
  rcases hh with ⟨h1, rfl⟩ | ⟨d, n, rfl, hdD, ht, hs, rfl⟩
  · rw [am_154, s_154_0, n101 hd (by omega), h1]
    simp only [t_ob_13, true_and, t_ki, zb_0, not_true_eq_false, if_false, s_154_33, s_154_53]
    rw [if_pos (show (0 : Int32) < (t_I g 13 0 1).1 13 0 by rw [t_13_0]; decide)]
  · have hx : pI (nI d) D = true := by rw [pI_nI (by omega) (by omega)]; simpa using hdD
    have a139 : ∀ f, AM 139 [.ref 13, .int (nI d)] g (t_ki f Q) = f (one n - 1) g := fun f => by rw [n139 ht]; rfl
    rw [am_154, s_154_0, n101 hd (by omega), hx]
    simp only [t_ob_13, true_and, t_ki, zb_0, Bool.true_eq_false, not_false_eq_true, if_true, a139, s_154_28]
    have fin : AX 5 154 33 [.ref 13, .int (nI d), .int S, .int (zb true), .float 0, .float 0, .float 0] [.int 2, .ref 13] g Q = Q (RI 0) (t_I g 13 0 2) := by
      rw [s_154_33]
      simp only [t_ob_13, true_and, s_154_53]
      rw [if_pos (show (0 : Int32) < (t_I g 13 0 2).1 13 0 by rw [t_13_0]; decide)]
    by_cases n0 : S < 0
    · rw [if_pos n0, fin]
    · rw [if_neg n0]
      rcases hs with z | z
      · exact absurd z n0
      · rw [if_neg z, fin]
theorem lev27' {S : Int32} : (t_lev tq_27 [.ref 9, .int S, .int 0, .int 0] < 35) = True := eq_true (by
  rw [show (0 : Int32) = nI 0 from rfl, lev27 (by omega)]
  omega)
theorem op_matchings {h : tH} (hI : IV h) (x S : Int32) : opI h 192 [.ref 0, .int x, .int S, .ref 32] 154 [.ref 13, .int x, .int S] := by
  obtain ⟨D, h1, h2, h3, h4⟩ := IV_D hI
  by_cases hx : pI x D = true
  · obtain ⟨d, hd, rfl⟩ := (pI_iff (by omega)).mp hx
    obtain ⟨n, hn⟩ := h4 d hd
    have hd6 : d < 6 := by omega
    obtain ⟨t1, t2⟩ := DV_t hd6 hn
    have n7' := t1.2.2
    by_cases bad : S < 0 ∨ ¬ S ≤ one n - 1
    · refine opI_f hI (k := 2) (by decide) (by decide) (r_192_e0 fun Q => ?_) (n154x (g := t_X h) h2 h3 (Or.inr ⟨d, n, rfl, hd, t2, bad, rfl⟩))
      rw [am_91, s_91_0, c75 h1 h3 hd]
      simp only [t_ob_0', true_and, t_kq_r, va_rf_s, s_91_5, o40 hd6, e30, o70 hd6, t1.2.1, fo_all, t_ki, s_91_24]
      by_cases n0 : S < 0
      · rw [if_pos n0]
      · rw [if_neg n0]
        rcases bad with z | z
        · exact absurd z n0
        · rw [if_neg z]
    · have h0 : ¬ S < 0 := fun z => bad (Or.inl z)
      have hle : S ≤ one n - 1 := Classical.not_not.mp fun z => bad (Or.inr z)
      have hs := set_sm n7' h0 hle
      have c7 := pc_7 n7' hs
      have le7 := cB_le (bt S) 7 0
      obtain ⟨b1, b2, b3, b4', b5, b6, -⟩ := id hn
      obtain ⟨χ, hχ⟩ : ∃ χ, χ = tX h (70 + d) := ⟨_, rfl⟩
      rw [← hχ] at b5 b6
      have r1 : rn 91 [.ref 0, .int (nI d), .int S] h (RI (nI (CW χ n (pc S) S 0))) (hR h χ n) := fun Q => by
        have q := m_23 t1 (h := h)
        rw [← hχ] at q
        have q27 : ∀ Q, AM 27 [.ref 9, .int S, .int 0, .int 0] (hR h χ n) Q = Q (RI (nI (CW χ n (pc S) S 0))) (hR h χ n) := m_27 (h := hR h χ n) hR_10 hR_9 (rd_RM n7' _) b6 n7' (pc S) S 0 0 rfl hs (by omega)
        rw [am_91, s_91_0, c75 h1 h3 hd]
        simp only [t_ob_0', true_and, t_kq_r, va_rf_s, s_91_5, o40 hd6, e30, o70 hd6, t1.2.1, fo_all, t_ki]
        rw [if_neg h0, if_pos hle, q]
        simp only [t_kv]
        rw [lev27', true_and, show hM (t_I h 9 1 (nI n)) (rdM χ n (h.1 10)) = hR h χ n from rfl, q27]
        rfl
      obtain ⟨g', f', z0, z2, r2⟩ := n154 (g := t_L (hR h χ n) 32 0 (nI (CW χ n (pc S) S 0)).toInt64) (S := S) (n := n) (D := D) (d := d) (χ := χ) (by
        show (hR h χ n).1 13 8 = nI D
        rw [hR_o (by decide)]; exact h2) h3 hd ⟨by omega, by
        show (hR h χ n).1 19 d = nI n
        rw [hR_o (by decide)]; exact b4', n7'⟩ (by
        rw [b5, tY_L]
        exact tY_o fun c _ => hR_o (by decide)) b6 h0 hle
      refine opI_s hI (r_192 r1) r2 (fr_t (fr_t fr_hR (fr_L _ 32 0 _)) f') z0 ?_
      rw [z2]
      rfl
  · refine opI_f hI (k := 1) (by decide) (by decide) (r_192_e2 fun Q => ?_) (n154x (g := t_X h) h2 h3 (Or.inl ⟨pI_x hx, rfl⟩))
    rw [am_91, s_91_0, c75x h1 h3 (pI_x hx)]
    simp only [t_ob_0', true_and, t_kq_E]
