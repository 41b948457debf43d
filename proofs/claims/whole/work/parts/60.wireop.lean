/-! ===== wire ===== -/
theorem wans_m1 {n w : Nat} {l : Nat → Nat} (w21 : w ≤ 21) (h7 : n ≤ 7) (hl : ∀ p, p < w → l p ≤ 5) (h3 : 3 ≤ n) (h : wans n w (wfi n l w 0) = -1) : wfi n l w 0 = none ∧ WP n w (wst l w) ∧ ∀ x y, x < y → y < n → (wst l w).2 (7 * x + y) ≠ 0 := by
  have key : ∀ m k, k + m = w → WP n k (wst l k) → (wfi n l m k = none ∧ WP n w (wst l w)) ∨ ∃ j, j < w ∧ wfi n l m k = some j := by
    intro m
    induction m with
    | zero =>
      intro k hk v
      have : k = w := by omega
      subst this
      exact Or.inl ⟨rfl, v⟩
    | succ m ih =>
      intro k hk v
      cases hb : wbad n l k with
      | true => exact Or.inr ⟨k, by omega, by simp only [wfi, hb, if_true]⟩
      | false =>
        have hb' := hb
        unfold wbad at hb'
        simp only [Bool.or_eq_false_iff, decide_eq_false_iff_not, Bool.not_eq_false', decide_eq_true_eq] at hb'
        have := ih (k + 1) (by omega) (WP_s h7 v (by omega) hb'.2)
        simp only [wfi, hb, Bool.false_eq_true, if_false]
        exact this
  rcases key w 0 (by omega) (WP_0 l) with ⟨e1, e2⟩ | ⟨j, j1, j2⟩
  · refine ⟨e1, e2, ?_⟩
    rw [e1] at h
    simp only [wans] at h
    have c2 := wcn_all (n := n) (c := (wst l w).2) h7
    rw [e2.2.2.2] at c2
    by_cases c : n * (n - 1) / 2 ≤ w
    · rw [c2] at c; exact c
    · rw [if_neg c] at h
      exact absurd h (nI_m1 (by omega))
  · rw [j2] at h
    exact absurd h (nI_m1 (by omega))
/-- what the model's wire leaves -/
def wZ (g : tH) (D n : Nat) (S : wS) (T : Nat → Int32) : tH := t_I (hU (t_I (hU (mA (t_I (hV g n S) 13 0 0) D n) D (fun _ => 0)) 13 8 (nI (D + 1))) D T) 13 4 0
theorem f3_ext {F G : tC} {n : Nat} (e : ∀ i j k, i < j → j < k → k < n → F i j k = G i j k) {T T' : Nat → Int32} (h : ∀ c, c < 343 → T c = T' c) : ∀ c, c < 343 → f3 F n T c = f3 G n T' c := by
  have sim : ∀ (P : (Nat → Int32) → (Nat → Int32) → Prop) (f g : Nat → Nat → Nat → (Nat → Int32) → (Nat → Int32)) (n : Nat), (∀ i j k a b, i < j → j < k → k < n → P a b → P (f i j k a) (g i j k b)) → ∀ a b, P a b → P (fd3 f n a) (fd3 g n b) := fun P f g n hh a b hab =>
    fd_sim (R := fun _ => P) _ _ _ _ hab fun i a b h1 h2 hab => fd_sim (R := fun _ => P) _ _ _ _ hab fun j a b h3 h4 hab => fd_sim (R := fun _ => P) _ _ _ _ hab fun k a b h5 h6 hab => hh i j k a b (by omega) (by omega) (by omega) hab
  refine sim (fun T T' => ∀ c, c < 343 → T c = T' c) _ _ n (fun i j k a b h1 h2 h3 hab c hc => ?_) T T' h
  show pT a i j k (F i j k) c = pT b i j k (G i j k) c
  rw [e i j k h1 h2 h3]
  unfold pT upd
  rw [hab c hc]
theorem n123 {g : tH} {D n w : Nat} {l : Nat → Nat} (hd : g.1 13 8 = nI D) (hD : D < 6) (hw : g.1 13 4 = nI w) (w21 : w ≤ 21) (hl : ∀ p, p < w → g.1 16 p = nI (l p) ∧ l p ≤ 5) (n3 : 3 ≤ n) (n7' : n ≤ 7) (en : (!decide (nI n < (3 : Int32)) && !decide ((7 : Int32) < nI n)) = true) (hr : wfi n l w 0 = none) (hm : wans n w (wfi n l w 0) = -1) (v : WP n w (wst l w)) (hc : ∀ x y, x < y → y < n → (wst l w).2 (7 * x + y) ≠ 0) :
    rn 123 [.ref 13, .int (nI n)] g (RI (nI D)) (wZ g D n (wst l w) (f3 (wF (wst l w).2) n (fun _ => 0))) := by
  intro Q
  obtain ⟨S, hS⟩ : ∃ S, S = wst l w := ⟨_, rfl⟩
  rw [← hS] at v hc ⊢
  have sle := v.2.1
  have e6 : (nI D = (6 : Int32)) = (D = 6) := nI_eq' (a := D) (b := 6) (by omega) (by omega)
  obtain ⟨k, hk⟩ : ∃ k, k = t_I (hU (mA (t_I (hV g n S) 13 0 0) D n) D (fun _ => 0)) 13 8 (nI (D + 1)) := ⟨_, rfl⟩
  have k18 : ∀ i, i < 49 → k.1 18 i = nI (S.2 i) - 1 := fun i hi => by
    rw [hk, t_I_o (by decide), hU_o (by omega)]
    unfold mA
    rw [t_I_o (by decide), t_I_o (by decide), t_I_o (by decide), t_I_o (by decide), hV_18 hi]
  have k20 : ∀ c, c < 343 → k.1 20 (343 * D + c) = 0 := fun c hc => by rw [hk, t_I_o (by decide), hU_at hc]
  have u18 : ∀ T i, i < 49 → (hU k D T).1 18 i = nI (S.2 i) - 1 := fun T i hi => by rw [hU_o (by omega), k18 i hi]
  have lt := lt3 (α := Nat → Int32) (β := Value × Value) (γ := Value) (δ := Unit) (n := n)
    (L1 := fun i T w => AX 2 123 58 [.ref 13, .int (nI n), .int (nI D), .int (nI i), w.1, w.2] [] (hU k D T) Q)
    (L2 := fun i j T w => AX 2 123 68 [.ref 13, .int (nI n), .int (nI D), .int (nI i), .int (nI j), w] [] (hU k D T) Q)
    (L3 := fun i j k' T _ => AX 2 123 80 [.ref 13, .int (nI n), .int (nI D), .int (nI i), .int (nI j), .int (nI k')] [] (hU k D T) Q)
    (E := fun T => Q (RI (nI D)) (t_I (hU k D T) 13 4 0)) (f := fun i j k T => pT T i j k (wF S.2 i j k))
    (fun T w => by
      rw [s_123_58, if_pos (Int32.le_refl _)]
      simp only [t_ob_13, true_and])
    (fun i T w hi => ⟨w.2, by
      rw [s_123_58]
      simp (disch := omega) only [nI_le', nI_1]
      rw [if_neg (by omega)]⟩)
    (fun i T w hi => ⟨(.int (nI n), w), by rw [s_123_68, if_pos (Int32.le_refl _), nI_1]⟩)
    (fun i j T w hij hj => ⟨(), by
      rw [s_123_68]
      simp (disch := omega) only [nI_le', nI_1]
      rw [if_neg (by omega)]⟩)
    (fun i j T w hij hj => ⟨.int (nI n), by rw [s_123_80, if_pos (Int32.le_refl _), nI_1]⟩)
    (fun i j k' T w' hij hjk hk' => ⟨(), by
      have c1 := hc i j hij (by omega)
      have c2 := hc j k' hjk hk'
      have b1 := sle (7 * i + j)
      have b2 := sle (7 * j + k')
      have ew : (if nI (S.2 (7 * j + k')) - 1 ≤ nI (S.2 (7 * i + j)) - 1 then (-1 : Int32) else 1) = wF S.2 i j k' := by
        have e := nI_le1 c2 c1 (by omega) (by omega)
        unfold wF
        by_cases q : S.2 (7 * j + k') ≤ S.2 (7 * i + j)
        · rw [if_pos (by rw [e]; exact q), if_pos q]
        · rw [if_neg (by rw [e]; exact q), if_neg q]
      rw [s_123_80, n7, n7]
      simp (disch := omega) only [t_ob_13, true_and, nI_le' (show n < 1000 by omega), nI_1, vI (show 7 * i + j < 49 by omega) (show 49 < 10000 by decide), vI (show 7 * j + k' < 49 by omega) (show 49 < 10000 by decide), nC, u18, ew, n105 (show D < 7 by omega) (show i < 7 by omega) (show j < 7 by omega) (show k' < 7 by omega), t_kv, hU_set (show i < 7 by omega) (show j < 7 by omega) (show k' < 7 by omega)]
      rw [if_neg (by omega)]⟩)
  have l0 := lt (fun c => k.1 20 (343 * D + c)) (.float 0, .float 0)
  rw [hU_r] at l0
  have ex : hU k D (fd3 (fun i j k T => pT T i j k (wF S.2 i j k)) n (fun c => k.1 20 (343 * D + c))) = hU k D (f3 (wF S.2) n (fun _ => 0)) :=
    hU_ext fun c hc => f3_ext (F := wF S.2) (G := wF S.2) (fun _ _ _ _ _ _ => rfl) (fun c hc => k20 c hc) c hc
  have l1 := l0.trans (show Q (RI (nI D)) (t_I (hU k D (fd3 (fun i j k T => pT T i j k (wF S.2 i j k)) n (fun c => k.1 20 (343 * D + c)))) 13 4 0) = Q (RI (nI D)) (t_I (hU k D (f3 (wF S.2) n (fun _ => 0))) 13 4 0) from by rw [ex])
  have mm := n118 (h := g) hw w21 hl n3 n7'
  rw [hm, hr] at mm
  simp only [Option.getD, ← hS] at mm
  rw [am_123, s_123_0, n100', en]
  simp only [t_ki, zb_0, Bool.true_eq_false, not_false_eq_true, if_true, t_ob_13, true_and, hd, mm, s_123_38, s_123_33]
  rw [if_neg (by rw [e6]; omega)]
  rw [if_pos (show (t_I (hV g n S) 13 0 0).1 13 0 ≤ 0 from Int32.le_refl _), n120 (h := t_I (hV g n S) 13 0 0) (by rw [t_13_i (by decide), hV_o (by decide)]; exact hd) hD, ← hk]
  simp only [t_ki]
  refine Eq.trans l1 ?_
  rw [hk]
  rfl
theorem n123x {g : tH} {D n w : Nat} {l : Nat → Nat} (hd : g.1 13 8 = nI D) (hD : D ≤ 6) (hw : g.1 13 4 = nI w) (w21 : w ≤ 21) (hl : ∀ p, p < w → g.1 16 p = nI (l p) ∧ l p ≤ 5) (n3 : 3 ≤ n) (n7' : n ≤ 7) (en : (!decide (nI n < (3 : Int32)) && !decide ((7 : Int32) < nI n)) = true) (hm : D = 6 ∨ wans n w (wfi n l w 0) ≠ -1) : ∃ g', fr g g' ∧ g'.1 13 0 = 2 ∧ rn 123 [.ref 13, .int (nI n)] g (RI 0) g' := by
  have e6 : (nI D = (6 : Int32)) = (D = 6) := nI_eq' (a := D) (b := 6) (by omega) (by omega)
  by_cases h6 : D = 6
  · refine ⟨t_I g 13 0 2, fr_13, rfl, fun Q => ?_⟩
    rw [am_123, s_123_0, n100', en]
    simp only [t_ki, zb_0, Bool.true_eq_false, not_false_eq_true, if_true, t_ob_13, true_and, hd, s_123_38, s_123_33]
    rw [if_pos (by rw [e6]; exact h6)]
    rw [if_neg (show ¬ (t_I g 13 0 2).1 13 0 ≤ 0 by rw [t_13_0]; decide)]
  · have hm' : wans n w (wfi n l w 0) ≠ -1 := by
      rcases hm with e | e
      · exact absurd e h6
      · exact e
    refine ⟨t_I (hV g n (wst l ((wfi n l w 0).getD w))) 13 0 2, fr_t fr_hV fr_13, rfl, fun Q => ?_⟩
    rw [am_123, s_123_0, n100', en]
    simp only [t_ki, zb_0, Bool.true_eq_false, not_false_eq_true, if_true, t_ob_13, true_and, hd, n118 (h := g) hw w21 hl n3 n7', s_123_38, s_123_33]
    rw [if_neg (by rw [e6]; exact h6), if_neg hm']
    rw [if_neg (show ¬ (t_I (hV g n (wst l ((wfi n l w 0).getD w))) 13 0 2).1 13 0 ≤ 0 by rw [t_13_0]; decide)]
theorem op_wire {h : tH} (hI : IV h) (x : Int32) : opI h 176 [.ref 0, .int x, .ref 32] 123 [.ref 13, .int x] := by
  obtain ⟨D, s, w, h1, h2, h3, hs, hw, ha⟩ := id hI
  by_cases hx : x < 3 ∨ 7 < x
  · refine opI_f hI (k := 1) (by decide) (by decide) (r_176_e0 fun Q => ?_) fun Q => ?_
    · rw [am_69, s_69_0, c67x hx]
      rfl
    · have e : (!decide (x < 3) && !decide (7 < x)) = false := by
        rcases hx with hx | hx <;> simp [hx]
      rw [am_123, s_123_0, n100', e]
      simp only [t_ki, t_ob_13, true_and, zb_0, not_true_eq_false, if_false, s_123_38, t_13_0]
      rw [if_neg (by decide)]
      rfl
  · obtain ⟨n, rfl, n3, n7', en⟩ := c37 hx
    obtain ⟨l, hl⟩ := WV_l hw
    obtain ⟨w1, w2, w3, w4⟩ := id hw
    have hl5 : ∀ p, p < w → h.1 5 p = nI (l p) ∧ l p ≤ 5 := fun p hp => ⟨(hl p hp).1, (hl p hp).2.2⟩
    have hl16 : ∀ p, p < w → h.1 16 p = nI (l p) ∧ l p ≤ 5 := fun p hp => ⟨(hl p hp).2.1, (hl p hp).2.2⟩
    by_cases hr : D = 6 ∨ wans n w (wfi n l w 0) ≠ -1
    · obtain ⟨g, f1, r1⟩ := c69x h1 h3 w1 w3 hl5 n3 n7' hr
      obtain ⟨g', f2, f3, r2⟩ := n123x (g := g) (l := l) (w := w) (by rw [fr_at f1 (by omega)]; exact h2) h3 (by rw [fr_at f1 (by omega)]; exact w2) w3 (fun p hp => by rw [fr_at f1 (by omega)]; exact hl16 p hp) n3 n7' en hr
      exact ⟨2, g, g', 0, by decide, r_176_e1 r1, r2, IV_fr (fr_t f1 f2) hI, f3, fun z => absurd z (by decide)⟩
    · have hD : D < 6 := by omega
      have hm : wans n w (wfi n l w 0) = -1 := Classical.not_not.mp fun z => hr (Or.inr z)
      obtain ⟨e1, v, hc⟩ := wans_m1 w3 n7' (fun p hp => (hl p hp).2.2) n3 hm
      have r1 := c69 h1 hD w1 w3 hl5 n3 n7' hm (fun i => by rw [e1]; have := v.2.1 i; simp only [Option.getD]; omega)
      rw [e1] at r1
      simp only [Option.getD] at r1
      obtain ⟨S, hS⟩ : ∃ S, S = wst l w := ⟨_, rfl⟩
      rw [← hS] at r1
      obtain ⟨A, hA⟩ : ∃ A, A = t_I (t_I (hT (t_I (hW h S) (70 + D) 1 (nI n)) (80 + D) (f3 (wF S.2) n (h.1 (80 + D)))) 4 3 0) 0 3 (nI (D + 1)) := ⟨_, rfl⟩
      rw [← hA] at r1
      have rA : ∀ a b, a ≠ 6 → a ≠ 7 → A.1 a b = if a = 0 ∧ b = 3 then nI (D + 1) else if a = 4 ∧ b = 3 then 0 else if a = 80 + D then f3 (wF S.2) n (h.1 (80 + D)) b else if a = 70 + D ∧ b = 1 then nI n else h.1 a b := fun a b n1 n2 => by
        rw [hA]
        show (if a = 0 ∧ b = 3 then nI (D + 1) else if a = 4 ∧ b = 3 then 0 else if a = 80 + D then f3 (wF S.2) n (h.1 (80 + D)) b else if a = 70 + D ∧ b = 1 then nI n else (hW h S).1 a b) = _
        rw [hW_o ⟨n1, n2⟩]
      obtain ⟨g, hg⟩ : ∃ g, g = t_L A 32 0 (nI D).toInt64 := ⟨_, rfl⟩
      have ag : ∀ a b, g.1 a b = A.1 a b := fun _ _ => by rw [hg]; rfl
      have gl : ∀ a b, 7 < a → a < 40 → g.1 a b = h.1 a b := fun a b a1 a2 => by
        rw [ag, rA _ _ (by omega) (by omega), if_neg (by omega), if_neg (by omega), if_neg (by omega), if_neg (by omega)]
      have r2 := n123 (g := g) (l := l) (w := w) (by rw [gl _ _ (by decide) (by decide)]; exact h2) hD (by rw [gl _ _ (by decide) (by decide)]; exact w2) w3 (fun p hp => by rw [gl _ _ (by decide) (by decide)]; exact hl16 p hp) n3 n7' en e1 hm v hc
      rw [← hS] at r2
      obtain ⟨Z, hZ⟩ : ∃ Z, Z = wZ g D n S (f3 (wF S.2) n (fun _ => 0)) := ⟨_, rfl⟩
      rw [← hZ] at r2
      have rZ : ∀ a b, a ≠ 17 → a ≠ 18 → Z.1 a b = if a = 13 ∧ b = 4 then 0 else if a = 20 ∧ 343 * D ≤ b ∧ b < 343 * D + 343 then f3 (wF S.2) n (fun _ => 0) (b - 343 * D) else if a = 13 ∧ b = 8 then nI (D + 1) else if a = 20 ∧ 343 * D ≤ b ∧ b < 343 * D + 343 then 0 else if a = 24 ∧ b = D then 0 else if a = 21 ∧ b = D then 0 else if a = 19 ∧ b = D then nI n else if a = 13 ∧ b = 0 then 0 else g.1 a b := fun a b n1 n2 => by
        rw [hZ]
        show (if a = 13 ∧ b = 4 then 0 else if a = 20 ∧ 343 * D ≤ b ∧ b < 343 * D + 343 then f3 (wF S.2) n (fun _ => 0) (b - 343 * D) else if a = 13 ∧ b = 8 then nI (D + 1) else if a = 20 ∧ 343 * D ≤ b ∧ b < 343 * D + 343 then 0 else if a = 24 ∧ b = D then 0 else if a = 21 ∧ b = D then 0 else if a = 19 ∧ b = D then nI n else if a = 13 ∧ b = 0 then 0 else (hV g n S).1 a b) = _
        rw [hV_o ⟨n1, n2⟩]
      have zo : ∀ a b, ¬ (a = 13 ∨ a = 17 ∨ a = 18 ∨ (a = 21 ∧ b = D) ∨ (a = 20 ∧ 343 * D ≤ b ∧ b < 343 * D + 343) ∨ (a = 24 ∧ b = D) ∨ (a = 19 ∧ b = D)) → Z.1 a b = g.1 a b := fun a b e => by
        rw [rZ _ _ (by omega) (by omega), if_neg (by omega), if_neg (by omega), if_neg (by omega), if_neg (by omega), if_neg (by omega), if_neg (by omega), if_neg (by omega), if_neg (by omega)]
      have z13 : ∀ b, b ≠ 0 → b ≠ 4 → b ≠ 8 → Z.1 13 b = h.1 13 b := fun b b0 b1 b8 => by
        rw [rZ _ _ (by omega) (by omega), if_neg (by omega), if_neg (by omega), if_neg (by omega), if_neg (by omega), if_neg (by omega), if_neg (by omega), if_neg (by omega), if_neg (by omega), gl _ _ (by decide) (by decide)]
      obtain ⟨χ, hχ⟩ : ∃ χ, χ = t3 (wF S.2) n (fun _ _ _ => 0) := ⟨_, rfl⟩
      have ho := word_hold (S := S) n7' (by rw [hS]; exact v) (by rw [hS]; exact hc)
      rw [← hχ] at ho
      have eX : tX Z (70 + D) = χ := by
        rw [cut_Xr, show Z.1 (70 + D + 10) = f3 (wF S.2) n (h.1 (80 + D)) from funext fun b => by
          rw [zo _ _ (by omega), ag, rA _ _ (by omega) (by omega), if_neg (by omega), if_neg (by omega), if_pos (by omega)]]
        rw [cut_f3 n7', cut_0 (ha.2.1 D (Nat.le_refl _) hD).1, hχ]
      have eY : tY Z D = χ := by
        have : tY Z D = cut (f3 (wF S.2) n (fun _ => 0)) := by
          rw [cut_Yr]
          funext i j k
          unfold cut
          by_cases e : i < 7 ∧ j < 7 ∧ k < 7
          · rw [if_pos e, if_pos e]
            show Z.1 20 (343 * D + (49 * i + 7 * j + k)) = _
            rw [rZ _ _ (by omega) (by omega), if_neg (by omega), if_pos (by omega), Nat.add_sub_cancel_left]
          · rw [if_neg e, if_neg e]
        rw [this, cut_f3 n7', cut_0 fun _ _ => rfl, hχ]
      have v' : DV Z D n := by
        refine ⟨n3, n7', ?_, ?_, eX.trans eY.symm, ?_, ?_, ⟨false, ?_, ?_⟩, ⟨false, ?_, ?_, fun z => (nomatch z)⟩⟩
        · rw [zo _ _ (by omega), ag, rA _ _ (by omega) (by omega), if_neg (by omega), if_neg (by omega), if_neg (by omega), if_pos ⟨rfl, rfl⟩]
        · rw [rZ _ _ (by omega) (by omega), if_neg (by omega), if_neg (by omega), if_neg (by omega), if_neg (by omega), if_neg (by omega), if_neg (by omega), if_pos ⟨rfl, rfl⟩]
        · rw [eX]; exact ho.1
        · rw [eX]; exact ho.2
        · rw [zo _ _ (by omega), ag, rA _ _ (by omega) (by omega), if_neg (by omega), if_neg (by omega), if_neg (by omega), if_neg (by omega)]
          exact (ha.2.1 D (Nat.le_refl _) hD).2.1
        · rw [rZ _ _ (by omega) (by omega), if_neg (by omega), if_neg (by omega), if_neg (by omega), if_neg (by omega), if_neg (by omega), if_pos ⟨rfl, rfl⟩]; rfl
        · rw [zo _ _ (by omega), ag, rA _ _ (by omega) (by omega), if_neg (by omega), if_neg (by omega), if_neg (by omega), if_neg (by omega)]
          exact (ha.2.1 D (Nat.le_refl _) hD).2.2
        · rw [rZ _ _ (by omega) (by omega), if_neg (by omega), if_neg (by omega), if_neg (by omega), if_neg (by omega), if_pos ⟨rfl, rfl⟩]; rfl
      have iv : IV Z := by
        refine IV_new (s := s) (w := 0) hD ha ?_ ?_ (SV_fr (fun a b e => ?_) hs) ⟨?_, ?_, by decide, fun p hp => by omega⟩ (fun a b e1 e2 e3 => ?_) v' fun p hp => ?_
        · rw [zo _ _ (by omega), ag, rA _ _ (by omega) (by omega), if_pos ⟨rfl, rfl⟩]
        · rw [rZ _ _ (by omega) (by omega), if_neg (by omega), if_neg (by omega), if_pos ⟨rfl, rfl⟩]
        · rcases e with ⟨rfl, rfl⟩ | ⟨rfl, rfl⟩ | rfl | rfl | rfl | rfl
          · rw [zo _ _ (by omega), ag, rA _ _ (by omega) (by omega), if_neg (by omega), if_neg (by omega), if_neg (by omega), if_neg (by omega)]
          · exact z13 _ (by decide) (by decide) (by decide)
          · rw [zo _ _ (by omega), gl _ _ (by decide) (by decide)]
          · rw [zo _ _ (by omega), gl _ _ (by decide) (by decide)]
          · rw [zo _ _ (by omega), ag, rA _ _ (by omega) (by omega), if_neg (by omega), if_neg (by omega), if_neg (by omega), if_neg (by omega)]
          · rw [zo _ _ (by omega), ag, rA _ _ (by omega) (by omega), if_neg (by omega), if_neg (by omega), if_neg (by omega), if_neg (by omega)]
        · rw [zo _ _ (by omega), ag, rA _ _ (by omega) (by omega), if_neg (by omega), if_pos ⟨rfl, rfl⟩]; rfl
        · rw [rZ _ _ (by omega) (by omega), if_pos ⟨rfl, rfl⟩]; rfl
        · rw [zo _ _ (by omega), ag, rA _ _ (by omega) (by omega), if_neg (by omega), if_neg (by omega), if_neg (by omega), if_neg (by omega)]
        · rw [zo _ _ (by omega), gl _ _ (by decide) (by decide), zo _ _ (by omega), ag, rA _ _ (by omega) (by omega), if_neg (by omega), if_neg (by omega), if_neg (by omega), if_neg (by omega), zo 23 _ (by omega), gl _ _ (by decide) (by decide), zo _ _ (by omega), ag, rA _ _ (by omega) (by omega), if_neg (by omega), if_neg (by omega), if_neg (by omega), if_neg (by omega)]
          exact ha.2.2 D p hD hp
      refine ⟨0, g, Z, nI D, by decide, ?_, r2, iv, ?_, fun _ => ?_⟩
      · rw [hg]; exact r_176 r1
      · rw [rZ _ _ (by omega) (by omega), if_neg (by omega), if_neg (by omega), if_neg (by omega), if_neg (by omega), if_neg (by omega), if_neg (by omega), if_neg (by omega), if_pos ⟨rfl, rfl⟩]; rfl
      · rw [hZ, hg]; rfl
