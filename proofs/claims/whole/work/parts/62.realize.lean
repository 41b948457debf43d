/-! ===== realize ===== -/
/-- one drawing changed; all else stays, but for the shelf's and word's counts and what is only worked with -/
theorem IV_at {h Z : tH} {D d s w n : Nat} (hD : D ≤ 6) (hd : d < D) (ha : AV h D) (z1 : Z.1 0 3 = nI D) (z2 : Z.1 13 8 = nI D) (vs : SV Z s) (vw : WV Z w)
    (f : ∀ a b, 19 ≤ a → sc a b = false → ¬ (a = 40 + d ∨ a = 50 + d ∨ a = 60 + d ∨ a = 70 + d ∨ a = 80 + d ∨ (a = 19 ∧ b = d) ∨ (a = 20 ∧ 343 * d ≤ b ∧ b < 343 * d + 343) ∨ (a = 21 ∧ b = d) ∨ (a = 22 ∧ 7 * d ≤ b ∧ b < 7 * d + 7) ∨ (a = 23 ∧ 7 * d ≤ b ∧ b < 7 * d + 7) ∨ (a = 24 ∧ b = d) ∨ (a = 25 ∧ 49 * d ≤ b ∧ b < 49 * d + 49)) → Z.1 a b = h.1 a b)
    (v : DV Z d n) (xy : ∀ p, p < 7 → Z.1 22 (7 * d + p) = Z.1 (50 + d) p ∧ Z.1 23 (7 * d + p) = Z.1 (60 + d) p) : IV Z := by
  obtain ⟨h4, h5, h6⟩ := ha
  refine ⟨D, s, w, z1, z2, hD, vs, vw, fun c hc => ?_, fun c hc1 hc2 => ⟨fun i hi => ?_, ?_, ?_⟩, fun c p hc hp => ?_⟩
  · by_cases hcd : c = d
    · exact ⟨n, hcd ▸ v⟩
    · obtain ⟨m, hm⟩ := h4 c (by omega)
      exact ⟨m, DV_fr (fun k i e => f k i (by omega) (sc_f (by omega)) (by omega)) hm⟩
  · rw [f _ _ (by omega) (sc_f (by omega)) (by omega)]; exact (h5 c (by omega) hc2).1 i hi
  · rw [f _ _ (by omega) (sc_f (by omega)) (by omega)]; exact (h5 c (by omega) hc2).2.1
  · rw [f _ _ (by omega) (sc_f (by omega)) (by omega)]; exact (h5 c (by omega) hc2).2.2
  · by_cases hcd : c = d
    · subst hcd; exact xy p hp
    · rw [f 22 _ (by omega) (sc_f (by omega)) (by omega), f (50 + c) _ (by omega) (sc_f (by omega)) (by omega), f 23 _ (by omega) (sc_f (by omega)) (by omega), f (60 + c) _ (by omega) (sc_f (by omega)) (by omega)]
      exact h6 c p hc hp
/-- whether a drawing turns as the shelf -/
def rea (χ F : tC) (s : Nat) : Bool := all3 (fun i j k => decide (χ i j k = F i j k)) s
theorem m_38 {h : tH} {r n s : Nat} (t : tn h r n) (hs : h.1 1 2 = nI s) (s7 : s ≤ 7) (Q : tO → tH → Prop) : AM 38 [.ref 1, .ref r] h Q = Q (RI (zb (decide (s = n) && rea (tX h r) (shF h) s))) h := by
  obtain ⟨ho, hc, h7⟩ := t
  rw [am_38, s_38_0, hs, hc]
  simp (disch := omega) only [t_ob_1, ho, true_and, nI_eq']
  by_cases e : s = n
  · subst e
    have l := lt3b (β := Value × Value) (γ := Value) (δ := Unit) (n := s) (X := Q (RI 0) h)
      (L1 := fun i w => AX 4 38 15 [.ref 1, .ref r, .int (nI i), w.1, w.2] [] h Q)
      (L2 := fun i j w => AX 4 38 27 [.ref 1, .ref r, .int (nI i), .int (nI j), w] [] h Q)
      (L3 := fun i j k _ => AX 4 38 40 [.ref 1, .ref r, .int (nI i), .int (nI j), .int (nI k)] [] h Q)
      (E := Q (RI 1) h) (f := fun i j k => decide (tX h r i j k = shF h i j k))
      (fun w => by
        rw [s_38_15, hs, if_pos (Int32.le_refl _)]
        simp only [t_ob_1, true_and])
      (fun i w hi => ⟨w.2, by
        rw [s_38_15, hs]
        simp (disch := omega) only [t_ob_1, true_and, nI_le', nI_1]
        rw [if_neg (by omega)]⟩)
      (fun i w hi => ⟨(.int (nI s), w), by
        rw [s_38_27, hs, if_pos (Int32.le_refl _)]
        simp only [t_ob_1, true_and, nI_1]⟩)
      (fun i j w hij hj => ⟨(), by
        rw [s_38_27, hs]
        simp (disch := omega) only [t_ob_1, true_and, nI_le', nI_1]
        rw [if_neg (by omega)]⟩)
      (fun i j w hij hj => ⟨.int (nI s), by
        rw [s_38_40, hs, if_pos (Int32.le_refl _)]
        simp only [t_ob_1, true_and, nI_1]⟩)
      (fun i j k w hij hjk hk => ⟨(), by
        have ef : sg (tu (h.1 2 i) (h.1 3 i) (h.1 2 j) (h.1 3 j) (h.1 2 k) (h.1 3 k)) = shF h i j k := rfl
        rw [s_38_40, hs]
        simp (disch := omega) only [t_ob_1, ho, true_and, nI_le', nI_1, m_36 (show i < 7 by omega) (show j < 7 by omega) (show k < 7 by omega), t_ki, m_of ho (show i < 7 by omega) (show j < 7 by omega) (show k < 7 by omega), ef]
        rw [if_neg (by omega)]
        by_cases q : tX h r i j k = shF h i j k
        · rw [if_pos q, if_pos (decide_eq_true q)]
        · rw [if_neg q, if_neg (by simpa using q)]⟩)
    have l0 := l (.float 0, .float 0)
    rw [if_pos rfl, decide_eq_true rfl, Bool.true_and]
    refine Eq.trans l0 ?_
    unfold rea
    cases all3 (fun i j k => decide (tX h r i j k = shF h i j k)) s <;> simp [zb]
  · rw [if_neg e, decide_eq_false e]
    rfl
theorem c73 {h : tH} {D d n s : Nat} (hd : h.1 0 3 = nI D) (hD : D ≤ 6) (hdD : d < D) (t : tn h (70 + d) n) (hs : h.1 1 2 = nI s) (s7 : s ≤ 7) (Q : tO → tH → Prop) : AM 73 [.ref 0, .int (nI d)] h Q = (if (decide (s = n) && rea (tX h (70 + d)) (shF h) s) = true then Q (RI 1) (t_I (t_I (hG (h.1 2) (h.1 3) h d n) (40 + d) 3 1) 1 2 0) else Q (RI 0) h) := by
  have hd6 : d < 6 := by omega
  rw [am_73, s_73_0, c75 hd hD hdD]
  simp only [t_ob_0', true_and, t_kq_r, va_rf_s, s_73_5, o40 hd6, e30, m_38 t hs s7, t_ki, m_9 (X := h.1 2) (Y := h.1 3) hd6 t (fun _ _ => rfl) (fun _ _ => rfl), t_kv]
  cases (decide (s = n) && rea (tX h (70 + d)) (shF h) s) <;> simp [zb]
theorem n129 {g : tH} {D d n s : Nat} (hd : g.1 13 8 = nI D) (hD : D ≤ 6) (hdD : d < D) (ht : ty g d n) (hs : SM g s) (Q : tO → tH → Prop) : AM 129 [.ref 13, .int (nI d)] g Q = (if (decide (s = n) && rea (tY g d) (shF g) s) = true then Q (RI 1) (t_I (t_I (hN (g.1 2) (g.1 3) (t_I g 13 0 0) d s) 21 d 1) 13 1 0) else Q (RI 0) (t_I g 13 0 0)) := by
  have hx : pI (nI d) D = true := by rw [pI_nI (by omega) (by omega)]; simpa using hdD
  obtain ⟨hs1, s7, hs2⟩ := id hs
  obtain ⟨k, hk⟩ : ∃ k, k = t_I g 13 0 0 := ⟨_, rfl⟩
  have kd : ∀ a b, ¬ (a = 13 ∧ b = 0) → k.1 a b = g.1 a b := fun a b e => by rw [hk, t_I_at, if_neg e]
  have ks : SM k s := ⟨by rw [kd _ _ (by decide)]; exact hs1, s7, fun p hp => by
    rw [kd _ _ (by omega), kd _ _ (by omega), kd _ _ (by omega), kd _ _ (by omega)]
    exact hs2 p hp⟩
  have i19 : t_in (t_ai k 19) (nI d) = True := t_in_ai (show t_ar 19 = some (0, 7) from rfl) (by omega)
  have k19 : k.1 19 d = nI n := by rw [kd _ _ (by omega)]; exact ht.2.1
  have kY : tY k d = tY g d := by rw [hk]; exact tY_13
  have nu : AM 121 [.ref 13, .int (nI d)] k (t_kv (fun h1 => Q (RI 1) h1) Q) = Q (RI 1) (t_I (t_I (hN (g.1 2) (g.1 3) k d s) 21 d 1) 13 1 0) := by
    rw [n121 (X := g.1 2) (Y := g.1 3) (by omega) ks.1 s7 (fun p hp => by rw [(ks.2.2 p hp).1, kd _ _ (by omega)]) (fun p hp => by rw [(ks.2.2 p hp).2.1, kd _ _ (by omega)])]
    rfl
  have n7' := ht.2.2
  rw [am_129, s_129_0, n101 hd (by omega), hx]
  simp only [t_ob_13, true_and, t_ki, zb_0, Bool.true_eq_false, if_false, ← hk, i19, nC (show d < 10000 by omega), k19, ks.1, s_129_37]
  rw [if_neg (show ¬ (0 : Int32) < k.1 13 0 by rw [hk, t_13_0]; decide)]
  simp (disch := omega) only [nI_eq']
  by_cases e : s = n
  · subst e
    have l := lt3b (β := Value × Value) (γ := Value) (δ := Unit) (n := s) (X := Q (RI 0) k)
      (L1 := fun i w => AX 2 129 41 [.ref 13, .int (nI d), .int (nI i), w.1, w.2] [] k Q)
      (L2 := fun i j w => AX 2 129 53 [.ref 13, .int (nI d), .int (nI i), .int (nI j), w] [] k Q)
      (L3 := fun i j k' _ => AX 2 129 66 [.ref 13, .int (nI d), .int (nI i), .int (nI j), .int (nI k')] [] k Q)
      (E := Q (RI 1) (t_I (t_I (hN (g.1 2) (g.1 3) k d s) 21 d 1) 13 1 0)) (f := fun i j k => decide (tY g d i j k = shF g i j k))
      (fun w => by
        rw [s_129_41, ks.1, if_pos (Int32.le_refl _)]
        simp only [t_ob_13, true_and]
        exact nu)
      (fun i w hi => ⟨w.2, by
        rw [s_129_41, ks.1]
        simp (disch := omega) only [t_ob_13, true_and, nI_le', nI_1]
        rw [if_neg (by omega)]⟩)
      (fun i w hi => ⟨(.int (nI s), w), by
        rw [s_129_53, ks.1, if_pos (Int32.le_refl _)]
        simp only [t_ob_13, true_and, nI_1]⟩)
      (fun i j w hij hj => ⟨(), by
        rw [s_129_53, ks.1]
        simp (disch := omega) only [t_ob_13, true_and, nI_le', nI_1]
        rw [if_neg (by omega)]⟩)
      (fun i j w hij hj => ⟨.int (nI s), by
        rw [s_129_66, ks.1, if_pos (Int32.le_refl _)]
        simp only [t_ob_13, true_and, nI_1]⟩)
      (fun i j k' w hij hjk hk' => ⟨(), by
        have ef : sg (tu (k.1 2 i) (k.1 3 i) (k.1 2 j) (k.1 3 j) (k.1 2 k') (k.1 3 k')) = shF g i j k' := by
          rw [kd _ _ (by omega), kd _ _ (by omega), kd _ _ (by omega), kd _ _ (by omega), kd _ _ (by omega), kd _ _ (by omega)]
          rfl
        rw [s_129_66, ks.1]
        simp (disch := omega) only [t_ob_13, true_and, nI_le', nI_1, n112 ks (show i < s by omega) (show j < s by omega) hk', t_ki, n104 (show d < 7 by omega) (show i < 7 by omega) (show j < 7 by omega) (show k' < 7 by omega), ef, kY]
        rw [if_neg (by omega)]
        by_cases q : tY g d i j k' = shF g i j k'
        · rw [if_pos q.symm, if_pos (decide_eq_true q)]
        · rw [if_neg (fun z => q z.symm), if_neg (by simpa using q)]⟩)
    have l0 := l (.float 0, .float 0)
    rw [if_pos rfl, decide_eq_true rfl, Bool.true_and]
    exact l0
  · rw [if_neg e, decide_eq_false e]
    rfl
theorem op_realize {h : tH} (hI : IV h) (x : Int32) : opB h 180 [.ref 0, .int x, .ref 32] 129 [.ref 13, .int x] := by
  obtain ⟨D, s, w, h1, h2, h3, hs, hw, ha⟩ := id hI
  obtain ⟨s1, s2, s3, s4, s5⟩ := id hs
  by_cases hx : pI x D = true
  · obtain ⟨d, hd, rfl⟩ := (pI_iff (by omega)).mp hx
    obtain ⟨n, hn⟩ := ha.1 d hd
    have hd6 : d < 6 := by omega
    obtain ⟨t1, t2⟩ := DV_t hd6 hn
    have n7' := t1.2.2
    have eXY : tX h (70 + d) = tY h d := hn.2.2.2.2.1
    obtain ⟨v, hv⟩ : ∃ v, v = (decide (s = n) && rea (tX h (70 + d)) (shF h) s) := ⟨_, rfl⟩
    have cc := c73 h1 h3 hd t1 s1 s3
    rw [← hv] at cc
    cases v with
    | false =>
      have r1 : rn 73 [.ref 0, .int (nI d)] h (RI (zb false)) h := fun Q => by rw [cc, if_neg (by decide)]; rfl
      have r2 : rn 129 [.ref 13, .int (nI d)] (t_L h 32 0 (i64b false)) (RI (zb false)) (t_I (t_L h 32 0 (i64b false)) 13 0 0) := fun Q => by
        rw [n129 (g := t_L h 32 0 (i64b false)) (n := n) (s := s) h2 h3 hd t2 (SV_SM hs), tY_L, ← eXY, show shF (t_L h 32 0 (i64b false)) = shF h from rfl, ← hv, if_neg (by decide)]
        rfl
      exact opB_s hI (r_180 r1) r2 (fr_t (fr_L h 32 0 _) fr_13) rfl rfl
    | true =>
      have hsn : s = n := by
        have := hv.symm
        simp only [Bool.and_eq_true, decide_eq_true_eq] at this
        exact this.1
      obtain ⟨A, hA⟩ : ∃ A, A = t_I (t_I (hG (h.1 2) (h.1 3) h d n) (40 + d) 3 1) 1 2 0 := ⟨_, rfl⟩
      have r1 : rn 73 [.ref 0, .int (nI d)] h (RI (zb true)) A := fun Q => by rw [cc, if_pos rfl, hA]; rfl
      have rA : ∀ a b, A.1 a b = if a = 1 ∧ b = 2 then 0 else if a = 40 + d ∧ b = 3 then 1 else if a = 50 + d ∧ b < n then h.1 2 b else if a = 60 + d ∧ b < n then h.1 3 b else h.1 a b := fun a b => by rw [hA]; rfl
      obtain ⟨g, hg⟩ : ∃ g, g = t_L A 32 0 (i64b true) := ⟨_, rfl⟩
      have ag : ∀ a b, g.1 a b = A.1 a b := fun _ _ => by rw [hg]; rfl
      have gl : ∀ a b, 1 < a → a < 40 → g.1 a b = h.1 a b := fun a b a1 a2 => by
        rw [ag, rA, if_neg (by omega), if_neg (by omega), if_neg (by omega), if_neg (by omega)]
      have gs : SM g s := ⟨by rw [gl _ _ (by decide) (by decide)]; exact s2, s3, fun p hp => by
        rw [gl _ _ (by decide) (by decide), gl _ _ (by decide) (by decide), gl _ _ (by decide) (by decide), gl _ _ (by decide) (by decide)]
        exact s4 p hp⟩
      have mm := n129 (g := g) (n := n) (by rw [gl _ _ (by decide) (by decide)]; exact h2) h3 hd ⟨by omega, by rw [gl _ _ (by decide) (by decide)]; exact t2.2.1, n7'⟩ gs
      rw [shF_o (fun p => gl 2 p (by decide) (by decide)) (fun p => gl 3 p (by decide) (by decide)), show g.1 2 = h.1 2 from funext fun p => gl 2 p (by decide) (by decide), show g.1 3 = h.1 3 from funext fun p => gl 3 p (by decide) (by decide), show tY g d = tX h (70 + d) from by rw [eXY]; exact tY_o fun c _ => gl _ _ (by decide) (by decide), ← hv] at mm
      obtain ⟨Z, hZ⟩ : ∃ Z, Z = t_I (t_I (hN (h.1 2) (h.1 3) (t_I g 13 0 0) d s) 21 d 1) 13 1 0 := ⟨_, rfl⟩
      rw [← hZ] at mm
      have r2 : rn 129 [.ref 13, .int (nI d)] g (RI (zb true)) Z := fun Q => by rw [mm, if_pos rfl]; rfl
      have rZ : ∀ a b, Z.1 a b = if a = 13 ∧ b = 1 then 0 else if a = 21 ∧ b = d then 1 else if a = 22 ∧ 7 * d ≤ b ∧ b < 7 * d + s then h.1 2 (b - 7 * d) else if a = 23 ∧ 7 * d ≤ b ∧ b < 7 * d + s then h.1 3 (b - 7 * d) else if a = 13 ∧ b = 0 then 0 else g.1 a b := fun a b => by rw [hZ]; rfl
      have zo : ∀ a b, ¬ ((a = 13 ∧ b = 1) ∨ (a = 13 ∧ b = 0) ∨ (a = 21 ∧ b = d) ∨ (a = 22 ∧ 7 * d ≤ b ∧ b < 7 * d + s) ∨ (a = 23 ∧ 7 * d ≤ b ∧ b < 7 * d + s)) → Z.1 a b = g.1 a b := fun a b e => by
        rw [rZ, if_neg (by omega), if_neg (by omega), if_neg (by omega), if_neg (by omega), if_neg (by omega)]
      have eX : tX Z (70 + d) = tX h (70 + d) := tX_o fun c _ => by
        rw [zo _ _ (by omega), ag, rA, if_neg (by omega), if_neg (by omega), if_neg (by omega), if_neg (by omega)]
      have eY : tY Z d = tX h (70 + d) := by
        rw [eXY]
        exact tY_o fun c _ => by rw [zo _ _ (by omega), gl _ _ (by decide) (by decide)]
      obtain ⟨b1, b2, b3, b4, b5, b6, b7, -, ⟨b', b10, b11, b12⟩⟩ := id hn
      have v' : DV Z d n := by
        refine ⟨b1, b2, ?_, ?_, eX.trans eY.symm, ?_, ?_, ⟨true, ?_, ?_⟩, ⟨b', ?_, ?_, fun hb => ?_⟩⟩
        · rw [zo _ _ (by omega), ag, rA, if_neg (by omega), if_neg (by omega), if_neg (by omega), if_neg (by omega)]; exact b3
        · rw [zo _ _ (by omega), gl _ _ (by decide) (by decide)]; exact b4
        · rw [eX]; exact b6
        · rw [eX]; exact b7
        · rw [zo _ _ (by omega), ag, rA, if_neg (by omega), if_pos ⟨rfl, rfl⟩]; rfl
        · rw [rZ, if_neg (by omega), if_pos ⟨rfl, rfl⟩]; rfl
        · rw [zo _ _ (by omega), ag, rA, if_neg (by omega), if_neg (by omega), if_neg (by omega), if_neg (by omega)]; exact b10
        · rw [zo _ _ (by omega), gl _ _ (by decide) (by decide)]; exact b11
        · have z4 : Z.1 (40 + d) 4 = h.1 (40 + d) 4 := by rw [zo _ _ (by omega), ag, rA, if_neg (by omega), if_neg (by omega), if_neg (by omega), if_neg (by omega)]
          unfold TV
          rw [eX, z4]
          refine ⟨fun i j hi hj => ?_, (b12 hb).2⟩
          rw [zo _ _ (by omega), gl _ _ (by decide) (by decide)]
          exact (b12 hb).1 i j hi hj
      have iv : IV Z := by
        refine IV_at (s := 0) (w := w) h3 hd ha ?_ ?_ ⟨?_, ?_, by decide, fun p hp => by omega, fun i j k a b e => by omega⟩ (WV_fr (fun a b e => ?_) hw) (fun a b e1 e2 e3 => ?_) v' fun p hp => ⟨?_, ?_⟩
        · rw [zo _ _ (by omega), ag, rA, if_neg (by omega), if_neg (by omega), if_neg (by omega), if_neg (by omega)]; exact h1
        · rw [zo _ _ (by omega), gl _ _ (by decide) (by decide)]; exact h2
        · rw [zo _ _ (by omega), ag, rA, if_pos ⟨rfl, rfl⟩]; rfl
        · rw [rZ, if_pos ⟨rfl, rfl⟩]; rfl
        · rw [zo _ _ (by omega), gl _ _ (by omega) (by omega)]
        · rw [zo _ _ (by omega), ag, rA, if_neg (by omega), if_neg (by omega), if_neg (by omega), if_neg (by omega)]
        · have hx := (ha.2.2 d p hd6 hp).1
          by_cases ps : p < s
          · rw [rZ, if_neg (by omega), if_neg (by omega), if_pos ⟨rfl, by omega, by omega⟩, zo _ _ (by omega), ag, rA, if_neg (by omega), if_neg (by omega), if_pos ⟨rfl, by omega⟩, Nat.add_sub_cancel_left]
          · rw [zo _ _ (by omega), gl _ _ (by decide) (by decide), zo _ _ (by omega), ag, rA, if_neg (by omega), if_neg (by omega), if_neg (by omega), if_neg (by omega)]
            exact hx
        · have hx := (ha.2.2 d p hd6 hp).2
          by_cases ps : p < s
          · rw [rZ, if_neg (by omega), if_neg (by omega), if_neg (by omega), if_pos ⟨rfl, by omega, by omega⟩, zo _ _ (by omega), ag, rA, if_neg (by omega), if_neg (by omega), if_neg (by omega), if_pos ⟨rfl, by omega⟩, Nat.add_sub_cancel_left]
          · rw [zo _ _ (by omega), gl _ _ (by decide) (by decide), zo _ _ (by omega), ag, rA, if_neg (by omega), if_neg (by omega), if_neg (by omega), if_neg (by omega)]
            exact hx
      refine ⟨0, g, Z, true, by decide, ?_, r2, iv, ?_, fun _ => ?_⟩
      · rw [hg]; exact r_180 r1
      · rw [rZ, if_neg (by omega), if_neg (by omega), if_neg (by omega), if_neg (by omega), if_pos ⟨rfl, rfl⟩]; rfl
      · rw [hZ, hg]; rfl
  · refine opB_f hI (k := 1) (by decide) (by decide) (r_180_e2 fun Q => ?_) fun Q => ?_
    · rw [am_73, s_73_0, c75x h1 h3 (pI_x hx)]
      simp only [t_ob_0', true_and, t_kq_E]
    · rw [am_129, s_129_0, n101 (h := t_X h) h2 (by omega), pI_x hx]
      simp only [t_ob_13, true_and, t_ki, zb_0, if_true, s_129_37]
      rw [if_pos (show (0 : Int32) < (t_I (t_X h) 13 0 1).1 13 0 by rw [t_13_0]; decide)]
      rfl
