/-! ===== the law's helpers that read the script or call the class ===== -/
theorem nI_self (y : Int32) : nI y.toBitVec.toNat = y := by
  refine Int32.toBitVec_inj.mp ?_
  show BitVec.ofNat 32 y.toBitVec.toNat = y.toBitVec
  exact BitVec.ofNat_toNat _ _ |>.trans (BitVec.setWidth_eq _)
theorem m_low {x : Int32} {m : Nat} (m0 : 0 < m) (hm : m < 1000) : ∃ r, r < m ∧ ∀ (h : tH) (Q : tO → tH → Prop), AM 100 [.int x, .int (nI m)] h Q = Q (RI (nI r)) h := by
  obtain ⟨A, hA⟩ : ∃ A, A = (x &&& 2147483647).toBitVec.toNat := ⟨_, rfl⟩
  have e : x &&& 2147483647 = nI A := by rw [hA]; exact (nI_self _).symm
  have lt : A < 2 ^ 31 := by
    rw [hA, Int32.toBitVec_and, BitVec.toNat_and]
    exact Nat.lt_of_le_of_lt Nat.and_le_right (by decide)
  refine ⟨A % m, Nat.mod_lt _ m0, fun h Q => ?_⟩
  have ne : ¬ nI m = (0 : Int32) := by rw [show (0 : Int32) = nI 0 from rfl, nI_eq' hm (by omega)]; omega
  rw [am_100, s_100_0, e, (nI_md lt m0 hm).1]
  simp only [ne, not_false_eq_true, true_and]
/-- the script's length -/
def scL (h : tH) (L : Nat) : Prop := h.1 34 0 = Int32.ofNat L ∧ L ≤ 3072
theorem m_cel {h : tH} {L k : Nat} (hs : scL h L) (hk : k < 1000) : ∃ v, ∀ Q, AM 99 [.ref 33, .int (nI k)] h Q = Q (RI v) h := by
  have hl : t_ln h 33 = some L := by
    unfold t_ln
    rw [if_pos rfl, hs.1, t_clamp hs.2]
  have e : ((Int32.ofNat L) ≤ nI k) = (L ≤ k) := propext (nI_leI (a := L) (b := k) (by have := hs.2; omega) (by omega))
  by_cases q : L ≤ k
  · refine ⟨1000308325 * (nI k + 1) + 751363499, fun Q => ?_⟩
    rw [am_99, s_99_0 (nL := L) (hL := hl), if_pos (by rw [e]; exact q), s_99_21]
  · refine ⟨h.1 33 k, fun Q => ?_⟩
    have hi : t_in (t_ai h 33) (nI k) = True := by
      refine eq_true ⟨L, ?_, vp_in_nI (by omega) (by have := hs.2; omega)⟩
      unfold t_ai
      rw [if_pos rfl, hs.1, t_clamp hs.2]
    rw [am_99, s_99_0 (nL := L) (hL := hl), if_neg (by rw [e]; exact q), hi, true_and, s_99_21, nC (by omega)]
theorem p101 {h : tH} {s : Nat} {x y : Int32} (hs : h.1 1 2 = nI s) (s7 : s < 7) (hp : pr x y = true) (Q : tO → tH → Prop) : AM 101 [.ref 0, .int x, .int y] h Q = (if pfree h s x y = true then Q (RI (nI (s + 1))) (t_I (t_I (t_I h 2 s x) 3 s y) 1 2 (nI (s + 1))) else Q (RI (-1)) (t_X h)) := by
  have c := fun Q => c62 (h := h) (x := x) (y := y) (Q := Q)
  by_cases hf : pfree h s x y = true
  · have r1 : rn 62 [.ref 0, .int x, .int y] h (RI (nI (s + 1))) (t_I (t_I (t_I h 2 s x) 3 s y) 1 2 (nI (s + 1))) := fun Q => by
      rw [c62, if_pos hp, m_31 hs (by omega), hf, decide_eq_true s7]
      simp only [t_ki]
      rw [if_pos (by decide), m_32 hs s7]
      rfl
    rw [am_101, s_101_0, r1, if_pos hf]
    rw [t_kb_V (show t_tyo (tm_rt tq_62) _ from ⟨_, rfl⟩)]
    simp only [Option.toList, List.cons_append, List.nil_append, Nat.reduceAdd, e_101_6, t_ob_0', true_and]
  · have r1 : rn 62 [.ref 0, .int x, .int y] h (.inr 1) (t_X h) := fun Q => by
      rw [c62, if_pos hp, m_31 hs (by omega)]
      rw [Bool.not_eq_true] at hf
      rw [hf, Bool.and_false]
      rfl
    rw [am_101, s_101_0, r1, if_neg hf]
    rw [t_kb_E (hp := 7) (k := 3) (len2 := 1) (by decide) (by decide +kernel) (Nat.le_of_ble_eq_true rfl) rfl]
    simp only [List.set, Nat.reduceAdd, s_101_8, t_ob_0', true_and]
theorem p102 {h h1 : tH} {i j : Int32} {v : Int32} (r1 : rn 96 [.ref 0, .int 0, .int i, .int j] h (RI v) h1) : rn 102 [.ref 0, .int i, .int j] h (RI v) h1 := fun Q => by
  rw [am_102, s_102_0, r1]
  rw [t_kb_V (show t_tyo (tm_rt tq_96) _ from ⟨_, rfl⟩)]
  simp only [Option.toList, List.cons_append, List.nil_append, Nat.reduceAdd, e_102_7, t_ob_0', true_and]
theorem p102x {h h1 : tH} {i j : Int32} (r1 : rn 96 [.ref 0, .int 0, .int i, .int j] h (.inr 1) h1) : rn 102 [.ref 0, .int i, .int j] h (RI (-1)) h1 := fun Q => by
  rw [am_102, s_102_0, r1]
  rw [t_kb_E (hp := 8) (k := 3) (len2 := 1) (by decide) (by decide +kernel) (Nat.le_of_ble_eq_true rfl) rfl]
  simp only [List.set, Nat.reduceAdd, s_102_9, t_ob_0', true_and]
theorem p103 {h h1 : tH} {y : Int32} {v : Int32} (r1 : rn 70 [.ref 0, .int 0, .int y] h (RI v) h1) : rn 103 [.ref 0, .int y] h (RI v) h1 := fun Q => by
  rw [am_103, s_103_0, r1]
  rw [t_kb_V (show t_tyo (tm_rt tq_70) _ from ⟨_, rfl⟩)]
  simp only [Option.toList, List.cons_append, List.nil_append, Nat.reduceAdd, e_103_6, t_ob_0', true_and]
theorem p103x {h h1 : tH} {y : Int32} (r1 : rn 70 [.ref 0, .int 0, .int y] h (.inr 1) h1) : rn 103 [.ref 0, .int y] h (RI (-1)) h1 := fun Q => by
  rw [am_103, s_103_0, r1]
  rw [t_kb_E (hp := 7) (k := 2) (len2 := 1) (by decide) (by decide +kernel) (Nat.le_of_ble_eq_true rfl) rfl]
  simp only [List.set, Nat.reduceAdd, s_103_8, t_ob_0', true_and]
/-! the law's own flip of a segment -/
theorem t_ar_16 : t_ar 16 = some (0, 49) := rfl
def EV (h : tH) (n : Nat) (E : Int32) : Prop := ∀ i j, i < n → j < n → h.1 16 (7 * i + j) = zb (!decide (i = j) && bt E (sx i j))
theorem n77 (i j : Nat) : (7 : Int32) * nI i + nI j = nI (7 * i + j) := by
  rw [Int32.mul_comm, show (7 : Int32) = nI 7 from rfl, pk_mul, nI_add, Nat.mul_comm]
theorem EV_in {h : tH} {i j : Nat} (hi : i < 7) (hj : j < 7) : t_in (t_ai h 16) (nI (7 * i + j)) = True := t_in_ai t_ar_16 (by omega)
def isc (χ : tC) (n : Nat) (E : Int32) (i j p : Nat) : Bool := (!decide (i = p) && bt E (sx i p)) && (!decide (j = p) && bt E (sx j p)) && pnone χ n i j p
theorem zb_e1 {b : Bool} : (zb b = (1 : Int32)) = (b = true) := zb_1
theorem oth_q {χ : tC} {y : Int64} {n : Nat} (L : LV χ y n) {h : tH} {Q : tO → tH → Prop} {i j p : Nat} (hi : i < n) (hj : j < n) (ij : i ≠ j) (hp : p < n) {x6 x7 : Int32} : ∀ m q b, q + m = n → (b = true → i ≠ p ∧ j ≠ p) → AX 3 113 68 [.long y, .float 0, .int (nI n), .ref 16, .int (nI i), .int (nI j), .int x6, .int x7, .int (nI p), .int (zb (b && aB (nin χ i j p) q m)), .int (nI n)] [] h Q → AX 3 113 68 [.long y, .float 0, .int (nI n), .ref 16, .int (nI i), .int (nI j), .int x6, .int x7, .int (nI p), .int (zb b), .int (nI q)] [] h Q := by
  have h7 := L.2.2
  intro m
  induction m with
  | zero =>
    intro q b hq _ hC
    have : q = n := by omega
    subst this
    have e : (b && aB (nin χ i j p) q 0) = b := by simp [aB]
    rw [e] at hC
    exact hC
  | succ m ih =>
    intro q b hq hb hC
    have hqn : q < n := by omega
    have e : (b && aB (nin χ i j p) q (m + 1)) = ((b && nin χ i j p q) && aB (nin χ i j p) (q + 1) m) := by rw [Bool.and_assoc]; rfl
    rw [e] at hC
    have hn : nin χ i j p q = (decide (q = i) || decide (q = j) || decide (q = p) || !qin χ q i j p) := rfl
    have c := ih (q + 1) (b && nin χ i j p q) (by omega) (fun z => hb (by simp only [Bool.and_eq_true] at z; exact z.1)) hC
    rw [s_113_68]
    simp (disch := omega) only [nI_le', nI_eq', s_113_118, nI_1, zb_0]
    rw [if_neg (by omega)]
    by_cases h1 : q = i
    · rw [if_pos h1]
      rw [show (b && nin χ i j p q) = b by rw [hn]; simp [h1]] at c
      exact c
    by_cases h2 : q = j
    · rw [if_neg h1, if_pos h2]
      rw [show (b && nin χ i j p q) = b by rw [hn]; simp [h2]] at c
      exact c
    by_cases h3 : q = p
    · rw [if_neg h1, if_neg h2, if_pos h3]
      rw [show (b && nin χ i j p q) = b by rw [hn]; simp [h3]] at c
      exact c
    rw [if_neg h1, if_neg h2, if_neg h3]
    cases b with
    | false =>
      rw [if_pos rfl]
      exact c
    | true =>
      obtain ⟨ip, jp⟩ := hb rfl
      rw [if_neg (by decide), m_in L hi hj hp hqn ij jp ip h1 h2 h3]
      simp only [t_ki, zb_0]
      have e5 : (if qin χ q i j p = false then zb true else 0) = zb (true && nin χ i j p q) := by
        rw [hn]
        cases qin χ q i j p <;> simp [h1, h2, h3, zb]
      rw [e5]
      exact c
/-- the last that is so, from some on -/
def lastI (f : Nat → Bool) : Nat → Nat → Int32 → Int32
  | _, 0, x => x
  | p, m + 1, x => lastI f (p + 1) m (if f p = true then nI p else x)
theorem lastI_un {f : Nat → Bool} {k : Nat} : ∀ m p x, (∀ q, p ≤ q → q < p + m → f q = true → q = k) → p ≤ k → k < p + m → f k = true → lastI f p m x = nI k := by
  have stay : ∀ m p x, (∀ q, p ≤ q → q < p + m → f q = false) → lastI f p m x = x := by
    intro m
    induction m with
    | zero => intro p x _; rfl
    | succ m ih =>
      intro p x h
      show lastI f (p + 1) m (if f p = true then nI p else x) = x
      rw [if_neg (by rw [h p (by omega) (by omega)]; decide)]
      exact ih (p + 1) x fun q h1 h2 => h q (by omega) (by omega)
  intro m
  induction m with
  | zero => intro p x _ h1 h2; omega
  | succ m ih =>
    intro p x h h1 h2 hk
    show lastI f (p + 1) m (if f p = true then nI p else x) = nI k
    by_cases e : p = k
    · subst e
      rw [if_pos hk]
      refine stay m (p + 1) _ fun q q1 q2 => ?_
      cases z : f q with
      | false => rfl
      | true => have := h q (by omega) (by omega) z; omega
    · exact ih (p + 1) _ (fun q q1 q2 => h q (by omega) (by omega)) (by omega) (by omega) hk
theorem lastI_no {f : Nat → Bool} : ∀ m p x, (∀ q, p ≤ q → q < p + m → f q = false) → lastI f p m x = x := by
  intro m
  induction m with
  | zero => intro p x _; rfl
  | succ m ih =>
    intro p x h
    show lastI f (p + 1) m (if f p = true then nI p else x) = x
    rw [if_neg (by rw [h p (by omega) (by omega)]; decide)]
    exact ih (p + 1) x fun q h1 h2 => h q (by omega) (by omega)
theorem crn_isc {χ : tC} {n i j p : Nat} {E s : Int32} : crn χ n E i j s p = (decide (χ i j p = s) && isc χ n E i j p) := by
  unfold crn isc
  generalize decide (χ i j p = s) = a
  generalize (!decide (i = p) && bt E (sx i p)) = b
  generalize (!decide (j = p) && bt E (sx j p)) = c
  generalize pnone χ n i j p = d
  revert a b c d
  decide
theorem oth_p {χ : tC} {y : Int64} {n : Nat} (L : LV χ y n) {h : tH} {E : Int32} (he : EV h n E) {Q : tO → tH → Prop} {i j : Nat} (hi : i < n) (hj : j < n) (ij : i ≠ j) : ∀ m p x6 x7 w9 w10, p + m = n → (∀ w9 w10, AX 3 113 24 [.long y, .float 0, .int (nI n), .ref 16, .int (nI i), .int (nI j), .int (lastI (crn χ n E i j 1) p m x6), .int (lastI (crn χ n E i j (-1)) p m x7), .int (nI n), w9, w10] [] h Q) → AX 3 113 24 [.long y, .float 0, .int (nI n), .ref 16, .int (nI i), .int (nI j), .int x6, .int x7, .int (nI p), w9, w10] [] h Q := by
  have h7 := L.2.2
  intro m
  induction m with
  | zero =>
    intro p x6 x7 w9 w10 hp hC
    have : p = n := by omega
    subst this
    exact hC w9 w10
  | succ m ih =>
    intro p x6 x7 w9 w10 hp hC
    have hpn : p < n := by omega
    obtain ⟨b, hb⟩ : ∃ b, b = isc χ n E i j p := ⟨_, rfl⟩
    have e1 : crn χ n E i j 1 p = (decide (χ i j p = 1) && b) := by rw [hb]; exact crn_isc
    have e2 : crn χ n E i j (-1) p = (decide (χ i j p = -1) && b) := by rw [hb]; exact crn_isc
    have c := ih (p + 1) (if crn χ n E i j 1 p = true then nI p else x6) (if crn χ n E i j (-1) p = true then nI p else x7)
    have hC : ∀ w9 w10, AX 3 113 24 [.long y, .float 0, .int (nI n), .ref 16, .int (nI i), .int (nI j), .int (lastI (crn χ n E i j 1) (p + 1) m (if crn χ n E i j 1 p = true then nI p else x6)), .int (lastI (crn χ n E i j (-1)) (p + 1) m (if crn χ n E i j (-1) p = true then nI p else x7)), .int (nI n), w9, w10] [] h Q := hC
    obtain ⟨A6, hA6⟩ : ∃ A, A = (if crn χ n E i j 1 p = true then nI p else x6) := ⟨_, rfl⟩
    obtain ⟨A7, hA7⟩ : ∃ A, A = (if crn χ n E i j (-1) p = true then nI p else x7) := ⟨_, rfl⟩
    rw [← hA6, ← hA7] at hC c
    have fin : ∀ b0 : Bool, (b0 = true → i ≠ p ∧ j ≠ p) → (b0 && pnone χ n i j p) = b → AX 3 113 63 [.long y, .float 0, .int (nI n), .ref 16, .int (nI i), .int (nI j), .int x6, .int x7, .int (nI p), w9, w10] [.int (zb b0)] h Q := fun b0 h0 hbb => by
      rw [s_113_63, show (0 : Int32) = nI 0 from rfl]
      refine oth_q L hi hj ij hpn n 0 b0 (by omega) h0 ?_
      rw [nin_p, hbb, s_113_68, if_pos (Int32.le_refl _)]
      simp only [zb_0]
      cases b with
      | false =>
        rw [if_pos rfl, s_113_146]
        simp only [zb_0, if_true, s_113_168, nI_1]
        have v6 : A6 = x6 := by rw [hA6, e1, Bool.and_false]; rfl
        have v7 : A7 = x7 := by rw [hA7, e2, Bool.and_false]; rfl
        rw [v6, v7] at c hC
        exact c _ _ (by omega) hC
      | true =>
        rw [if_neg (by decide), m_sg L hi hj hpn]
        simp only [t_ki]
        rw [s_113_146]
        simp only [zb_0]
        rw [if_neg (by decide), m_sg L hi hj hpn]
        simp only [t_ki, s_113_168, nI_1]
        have hbt : isc χ n E i j p = true := hb.symm
        have hd : i ≠ p ∧ j ≠ p := by
          unfold isc at hbt
          simp only [Bool.and_eq_true, Bool.not_eq_true', decide_eq_false_iff_not] at hbt
          exact ⟨hbt.1.1.1, hbt.1.2.1⟩
        have v6 : (if χ i j p ≤ (0 : Int32) then x6 else nI p) = A6 := by
          rw [hA6, e1]
          rcases LV_pm L hi hj hpn ij hd.2 hd.1 with z | z <;> rw [z] <;> simp <;> decide
        have v7 : (if (0 : Int32) ≤ χ i j p then x7 else nI p) = A7 := by
          rw [hA7, e2]
          rcases LV_pm L hi hj hpn ij hd.2 hd.1 with z | z <;> rw [z] <;> simp <;> decide
        rw [v6, v7]
        exact c _ _ (by omega) hC
    rw [s_113_24]
    simp (disch := omega) only [nI_le']
    rw [if_neg (by omega), n77, n77, EV_in (by omega) (by omega), EV_in (by omega) (by omega), nC (by omega), nC (by omega), he i p hi hpn, he j p hj hpn]
    simp only [true_and, zb_1]
    cases c1 : (!decide (i = p) && bt E (sx i p)) with
    | false =>
      rw [if_pos (by decide), s_113_62]
      refine fin false (fun z => (nomatch z)) ?_
      rw [hb]; unfold isc; rw [c1]; rfl
    | true =>
      rw [if_neg (by decide)]
      cases c2 : (!decide (j = p) && bt E (sx j p)) with
      | false =>
        rw [if_pos (by decide), s_113_62]
        refine fin false (fun z => (nomatch z)) ?_
        rw [hb]; unfold isc; rw [c2, Bool.and_false, Bool.false_and]
      | true =>
        rw [if_neg (by decide)]
        refine fin true (fun _ => ?_) ?_
        · simp only [Bool.and_eq_true, Bool.not_eq_true', decide_eq_false_iff_not] at c1 c2
          exact ⟨c1.1, c2.1⟩
        · rw [hb]; unfold isc; rw [c1, c2]; rfl
/-- what a flip of a segment answers: the law's own, and the class's -/
theorem m_oth {χ : tC} {y : Int64} {D n : Nat} (L : LV χ y n) {h : tH} (G : GH h D n χ) {E : Int32} (h5 : h.1 40 5 = zb true) (h4 : h.1 40 4 = E) (he : EV h n E) (pl : PL χ n E) {i j : Nat} (hi : i < n) (hj : j < n) (ij : i ≠ j) :
    ((∀ Q, (Q (RI (-1)) h → AM 113 [.long y, .int (nI n), .ref 16, .int (nI i), .int (nI j)] h Q)) ∧ rn 102 [.ref 0, .int (nI i), .int (nI j)] h (RI (-1)) (t_X h)) ∨
    ∃ k l, k < n ∧ l < n ∧ k ≠ l ∧ bt E (sx i j) = true ∧ crn χ n E i j 1 k = true ∧ crn χ n E i j (-1) l = true ∧ pparts χ i j k l = true ∧ (∀ Q, (Q (RI (fan k l)) h → AM 113 [.long y, .int (nI n), .ref 16, .int (nI i), .int (nI j)] h Q)) ∧ rn 102 [.ref 0, .int (nI i), .int (nI j)] h (RI (fan k l)) (t_I h 40 4 (fT E i j k l)) := by
  have h7 := L.2.2
  have ws := L.2.1
  have hD : 0 < D := by have := G.2.1; omega
  have hχ : tX h (70 + 0) = χ := G.2.2.2.2.1
  have cc := c96 (d := 0) G.1 G.2.2.1 hD (GH_tn G) (b := true) h5 hi hj
  have h4' : h.1 (40 + 0) 4 = E := h4
  have no : (∀ Q, AM 96 [.ref 0, .int (nI 0), .int (nI i), .int (nI j)] h Q = Q (.inr 1) (t_X h)) → rn 102 [.ref 0, .int (nI i), .int (nI j)] h (RI (-1)) (t_X h) := fun q => p102x q
  have start : ∀ Q, AM 113 [.long y, .int (nI n), .ref 16, .int (nI i), .int (nI j)] h Q = (if (!decide (i = j) && bt E (sx i j)) = true then AX 3 113 24 [.long y, .float 0, .int (nI n), .ref 16, .int (nI i), .int (nI j), .int (-1), .int (-1), .int 0, .float 0, .float 0] [] h Q else Q (RI (-1)) h) := fun Q => by
    rw [am_113, s_113_0, n77, EV_in (by omega) (by omega), nC (by omega), he i j hi hj]
    simp only [true_and, zb_0]
    cases (!decide (i = j) && bt E (sx i j)) <;> simp
  by_cases tij : bt E (sx i j) = true
  · have eij : (!decide (i = j) && bt E (sx i j)) = true := by simp [ij, tij]
    rw [h4', eij] at cc
    have f1 := pF_iff (f := crn χ n E i j 1) n 0 (by omega)
    have f2 := pF_iff (f := crn χ n E i j (-1)) n 0 (by omega)
    rcases f1 with ⟨f11, f12⟩ | ⟨k, -, kn, ck, f13, -⟩
    · refine Or.inl ⟨fun Q hQ => ?_, no fun Q => ?_⟩
      · rw [start, if_pos eij]
        refine oth_p L he hi hj ij n 0 _ _ _ _ (by omega) fun w9 w10 => ?_
        rw [lastI_no n 0 (-1) f12, s_113_24, if_pos (Int32.le_refl _), if_pos (by decide), s_113_199, s_113_229]
        exact hQ
      · rw [cc, if_pos (show (true && true) = true from rfl), c96s (k0 := 0) (l0 := 0) (d := 0) (by decide) (GH_tn G) h5 h4 hi hj (fun k l hk hl z => by
          rw [hχ] at z
          have := f12 k (by omega) (by omega)
          unfold cnd at z
          rw [this] at z; cases z) (Or.inr (by
          rw [hχ]
          unfold cnd
          rw [f12 0 (by omega) (by omega)]; rfl)), if_neg (by
          rintro ⟨-, -, z⟩
          rw [hχ] at z
          unfold cnd at z
          rw [f12 0 (by omega) (by omega)] at z; cases z)]
    · rw [Nat.zero_add] at kn
      have u1 := lastI_un (f := crn χ n E i j 1) n 0 (-1) (fun q _ q2 cq => crn_un ws h7 pl hi hj ij (by omega) kn cq ck) (Nat.zero_le k) (by omega) ck
      rcases f2 with ⟨f21, f22⟩ | ⟨l, -, ln, cl, f23, -⟩
      · refine Or.inl ⟨fun Q hQ => ?_, no fun Q => ?_⟩
        · rw [start, if_pos eij]
          refine oth_p L he hi hj ij n 0 _ _ _ _ (by omega) fun w9 w10 => ?_
          rw [u1, lastI_no n 0 (-1) f22, s_113_24, if_pos (Int32.le_refl _), if_neg (nI_pos (by omega)), if_pos (by decide), s_113_199, s_113_229]
          exact hQ
        · rw [cc, if_pos (show (true && true) = true from rfl), c96s (k0 := 0) (l0 := 0) (d := 0) (by decide) (GH_tn G) h5 h4 hi hj (fun k l hk hl z => by
            rw [hχ] at z
            have := f22 l (by omega) (by omega)
            unfold cnd at z
            rw [this, Bool.false_and, Bool.and_false] at z; cases z) (Or.inr (by
            rw [hχ]
            unfold cnd
            rw [f22 0 (by omega) (by omega), Bool.false_and, Bool.and_false])), if_neg (by
            rintro ⟨-, -, z⟩
            rw [hχ] at z
            unfold cnd at z
            rw [f22 0 (by omega) (by omega), Bool.false_and, Bool.and_false] at z; cases z)]
      · rw [Nat.zero_add] at ln
        have u2 := lastI_un (f := crn χ n E i j (-1)) n 0 (-1) (fun q _ q2 cq => crn_un ws h7 pl hi hj ij (by omega) ln cq cl) (Nat.zero_le l) (by omega) cl
        obtain ⟨k1, k2, k3, k4, k5, k6⟩ := crn_iff.mp ck
        obtain ⟨l1, l2, l3, l4, l5, l6⟩ := crn_iff.mp cl
        have kl : k ≠ l := fun z => by
          rw [z, l1] at k1
          exact absurd k1 (by decide)
        have un : ∀ k' l', k' < n → l' < n → cnd χ n E i j k' l' = true → k' = k ∧ l' = l := fun k' l' hk' hl' z => by
          unfold cnd at z
          simp only [Bool.and_eq_true] at z
          exact ⟨crn_un ws h7 pl hi hj ij hk' kn z.1 ck, crn_un ws h7 pl hi hj ij hl' ln z.2.1 cl⟩
        have cs := c96s (k0 := k) (l0 := l) (d := 0) (by decide) (GH_tn G) h5 h4 hi hj (by rw [hχ]; exact un) (Or.inl kl)
        rw [hχ] at cs
        have hcn : cnd χ n E i j k l = pparts χ i j k l := by
          unfold cnd
          rw [ck, cl, Bool.true_and, Bool.true_and]
        rw [hcn] at cs
        have qx : qcross χ k l i j = pparts χ i j k l := by
          rw [qcross_pr]
          unfold qcross
          simp [ij, k2, l2, k4, l4, kl]
        have e10 : ∀ a b : Nat, (10 : Int32) * nI a + nI b = nI (10 * a + b) := fun a b => by
          rw [show (10 : Int32) = nI 10 from rfl, pk_mul, nI_add]
        have ef : (if nI l ≤ nI k then (10 * nI l) + nI k else (10 * nI k) + nI l) = fan k l := by
          unfold fan
          simp (disch := omega) only [nI_le', e10]
        have hM : ∀ Q, (if ¬ zb (pparts χ i j k l) = (0 : Int32) then Q (RI (fan k l)) h else Q (RI (-1)) h) → AM 113 [.long y, .int (nI n), .ref 16, .int (nI i), .int (nI j)] h Q := fun Q hQ => by
          rw [start, if_pos eij]
          refine oth_p L he hi hj ij n 0 _ _ _ _ (by omega) fun w9 w10 => ?_
          rw [u1, u2, s_113_24, if_pos (Int32.le_refl _), if_neg (nI_pos (by omega)), if_neg (nI_pos (by omega)), m_crs L kn ln hi hj, qx]
          simp only [t_ki, s_113_229, s_113_199, ef]
          exact hQ
        by_cases px : pparts χ i j k l = true
        · refine Or.inr ⟨k, l, kn, ln, kl, tij, ck, cl, px, fun Q hQ => hM Q ?_, p102 fun Q => ?_⟩
          · rw [if_pos (by rw [px]; decide)]; exact hQ
          · refine (cc Q).trans ?_
            rw [if_pos (show (true && true) = true from rfl), cs, if_pos ⟨kn, ln, px⟩]
        · refine Or.inl ⟨fun Q hQ => hM Q ?_, no fun Q => ?_⟩
          · rw [if_neg (by rw [Bool.not_eq_true] at px; rw [px]; decide)]; exact hQ
          · rw [cc, if_pos (show (true && true) = true from rfl), cs, if_neg (fun z => px z.2.2)]
  · have eij : ¬ (!decide (i = j) && bt E (sx i j)) = true := by simp [tij]
    refine Or.inl ⟨fun Q hQ => ?_, no fun Q => ?_⟩
    · rw [start, if_neg eij]
      exact hQ
    · rw [cc, h4', if_neg (by rw [Bool.true_and]; exact eij)]
