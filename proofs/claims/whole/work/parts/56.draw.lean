/-! ===== draw ===== -/
/-- a new drawing; all else stays, but for the counts and what is only worked with -/
theorem IV_new {h Z : tH} {D s w n : Nat} (hD : D < 6) (ha : AV h D) (z1 : Z.1 0 3 = nI (D + 1)) (z2 : Z.1 13 8 = nI (D + 1)) (vs : SV Z s) (vw : WV Z w)
    (f : ∀ a b, 19 ≤ a → sc a b = false → ¬ (a = 40 + D ∨ a = 50 + D ∨ a = 60 + D ∨ a = 70 + D ∨ a = 80 + D ∨ (a = 19 ∧ b = D) ∨ (a = 20 ∧ 343 * D ≤ b ∧ b < 343 * D + 343) ∨ (a = 21 ∧ b = D) ∨ (a = 22 ∧ 7 * D ≤ b ∧ b < 7 * D + 7) ∨ (a = 23 ∧ 7 * D ≤ b ∧ b < 7 * D + 7) ∨ (a = 24 ∧ b = D) ∨ (a = 25 ∧ 49 * D ≤ b ∧ b < 49 * D + 49)) → Z.1 a b = h.1 a b)
    (v : DV Z D n) (xy : ∀ p, p < 7 → Z.1 22 (7 * D + p) = Z.1 (50 + D) p ∧ Z.1 23 (7 * D + p) = Z.1 (60 + D) p) : IV Z := by
  obtain ⟨h4, h5, h6⟩ := ha
  refine ⟨D + 1, s, w, z1, z2, by omega, vs, vw, fun c hc => ?_, fun c hc1 hc2 => ⟨fun i hi => ?_, ?_, ?_⟩, fun c p hc hp => ?_⟩
  · by_cases hcd : c = D
    · exact ⟨n, hcd ▸ v⟩
    · obtain ⟨m, hm⟩ := h4 c (by omega)
      exact ⟨m, DV_fr (fun k i e => f k i (by omega) (sc_f (by omega)) (by omega)) hm⟩
  · rw [f _ _ (by omega) (sc_f (by omega)) (by omega)]; exact (h5 c (by omega) hc2).1 i hi
  · rw [f _ _ (by omega) (sc_f (by omega)) (by omega)]; exact (h5 c (by omega) hc2).2.1
  · rw [f _ _ (by omega) (sc_f (by omega)) (by omega)]; exact (h5 c (by omega) hc2).2.2
  · by_cases hcd : c = D
    · subst hcd; exact xy p hp
    · rw [f 22 _ (by omega) (sc_f (by omega)) (by omega), f (50 + c) _ (by omega) (sc_f (by omega)) (by omega), f 23 _ (by omega) (sc_f (by omega)) (by omega), f (60 + c) _ (by omega) (sc_f (by omega)) (by omega)]
      exact h6 c p hc hp
/-- what the model's draw leaves -/
def dZ (g : tH) (X Y : Nat → Int32) (D s : Nat) (T : Nat → Int32) : tH := t_I (t_I (hN X Y (hU (t_I (hU (mA (t_I g 13 0 0) D s) D (fun _ => 0)) 13 8 (nI (D + 1))) D T) D s) 21 D 1) 13 1 0
theorem n122 {g : tH} {D s : Nat} (hd : g.1 13 8 = nI D) (hD : D < 6) (hs : SM g s) (h3 : 3 ≤ s) : rn 122 [.ref 13] g (RI (nI D)) (dZ g (g.1 2) (g.1 3) D s (f3 (shF g) s (fun _ => 0))) := by
  intro Q
  obtain ⟨s2, s3, s4⟩ := id hs
  have e3 : (nI s < (3 : Int32)) = (s < 3) := nI_lt' (a := s) (b := 3) (by omega) (by omega)
  have e6 : (nI D = (6 : Int32)) = (D = 6) := nI_eq' (a := D) (b := 6) (by omega) (by omega)
  obtain ⟨k, hk⟩ : ∃ k, k = t_I (hU (mA (t_I g 13 0 0) D s) D (fun _ => 0)) 13 8 (nI (D + 1)) := ⟨_, rfl⟩
  have kr : ∀ a b, a ≠ 13 → a ≠ 19 → a ≠ 20 → a ≠ 21 → a ≠ 24 → k.1 a b = g.1 a b := fun a b a1 a2 a3 a4 a5 => by
    rw [hk, t_I_o a1, hU_o (by omega)]
    unfold mA
    rw [t_I_o a5, t_I_o a4, t_I_o a2, t_I_o a1]
  have k1 : k.1 13 1 = nI s := by rw [hk]; exact s2
  have k20 : (fun c => k.1 20 (343 * D + c)) = fun c => if c < 343 then 0 else g.1 20 (343 * D + c) := by
    funext c
    by_cases hc : c < 343
    · rw [if_pos hc, hk, t_I_o (by decide), hU_at hc]
    · rw [if_neg hc, hk, t_I_o (by decide), hU_o (by omega)]
      unfold mA
      rw [t_I_o (by decide), t_I_o (by decide), t_I_o (by decide), t_I_o (by decide)]
  have u : ∀ T a b, a ≠ 13 → a ≠ 19 → a ≠ 20 → a ≠ 21 → a ≠ 24 → (hU k D T).1 a b = g.1 a b := fun T a b a1 a2 a3 a4 a5 => by rw [hU_o (by omega), kr a b a1 a2 a3 a4 a5]
  have u1 : ∀ T, (hU k D T).1 13 1 = nI s := fun T => by rw [hU_o (by omega), k1]
  have us : ∀ T, SM (hU k D T) s := fun T => ⟨u1 T, s3, fun p hp => by
    rw [u _ _ _ (by decide) (by decide) (by decide) (by decide) (by decide), u _ _ _ (by decide) (by decide) (by decide) (by decide) (by decide), u _ _ _ (by decide) (by decide) (by decide) (by decide) (by decide), u _ _ _ (by decide) (by decide) (by decide) (by decide) (by decide)]
    exact s4 p hp⟩
  have u2 : ∀ T p, (hU k D T).1 2 p = g.1 2 p := fun T p => u _ _ _ (by decide) (by decide) (by decide) (by decide) (by decide)
  have u3 : ∀ T p, (hU k D T).1 3 p = g.1 3 p := fun T p => u _ _ _ (by decide) (by decide) (by decide) (by decide) (by decide)
  have nu : ∀ T, AM 121 [.ref 13, .int (nI D)] (hU k D T) (t_kv (fun h1 => Q (RI (nI D)) h1) Q) = Q (RI (nI D)) (t_I (t_I (hN (g.1 2) (g.1 3) (hU k D T) D s) 21 D 1) 13 1 0) := fun T => by
    rw [n121 (X := g.1 2) (Y := g.1 3) hD (u1 T) s3 (fun p hp => by rw [((us T).2.2 p hp).1, u2]) (fun p hp => by rw [((us T).2.2 p hp).2.1, u3])]
    rfl
  have l := lt3 (α := Nat → Int32) (β := Value × Value) (γ := Value) (δ := Unit) (n := s)
    (L1 := fun i T w => AX 2 122 46 [.ref 13, .int (nI D), .int (nI i), w.1, w.2] [] (hU k D T) Q)
    (L2 := fun i j T w => AX 2 122 58 [.ref 13, .int (nI D), .int (nI i), .int (nI j), w] [] (hU k D T) Q)
    (L3 := fun i j k' T _ => AX 2 122 71 [.ref 13, .int (nI D), .int (nI i), .int (nI j), .int (nI k')] [] (hU k D T) Q)
    (E := fun T => Q (RI (nI D)) (t_I (t_I (hN (g.1 2) (g.1 3) (hU k D T) D s) 21 D 1) 13 1 0)) (f := fun i j k T => pT T i j k (shF g i j k))
    (fun T w => by
      rw [s_122_46, u1, if_pos (Int32.le_refl _)]
      simp only [t_ob_13, true_and]
      exact nu T)
    (fun i T w hi => ⟨w.2, by
      rw [s_122_46, u1]
      simp (disch := omega) only [t_ob_13, true_and, nI_le', nI_1]
      rw [if_neg (by omega)]⟩)
    (fun i T w hi => ⟨(.int (nI s), w), by
      rw [s_122_58, u1, if_pos (Int32.le_refl _)]
      simp only [t_ob_13, true_and, nI_1]⟩)
    (fun i j T w hij hj => ⟨(), by
      rw [s_122_58, u1]
      simp (disch := omega) only [t_ob_13, true_and, nI_le', nI_1]
      rw [if_neg (by omega)]⟩)
    (fun i j T w hij hj => ⟨.int (nI s), by
      rw [s_122_71, u1, if_pos (Int32.le_refl _)]
      simp only [t_ob_13, true_and, nI_1]⟩)
    (fun i j k' T w hij hjk hk => ⟨(), by
      rw [s_122_71, u1]
      simp (disch := omega) only [t_ob_13, true_and, nI_le', nI_1, n112 (us T) (show i < s by omega) (show j < s by omega) hk, t_ki, t_kv, n105 (show D < 7 by omega) (show i < 7 by omega) (show j < 7 by omega) (show k' < 7 by omega), hU_set (show i < 7 by omega) (show j < 7 by omega) (show k' < 7 by omega), u2, u3]
      rw [if_neg (by omega)]
      rfl⟩)
  have l0 := l (fun c => k.1 20 (343 * D + c)) (.float 0, .float 0)
  rw [hU_r] at l0
  have ex : hU k D (f3 (shF g) s (fun c => k.1 20 (343 * D + c))) = hU k D (f3 (shF g) s (fun _ => 0)) := by
    refine hU_ext fun c hc => ?_
    have key : ∀ T T' : Nat → Int32, (∀ c, c < 343 → T c = T' c) → ∀ c, c < 343 → f3 (shF g) s T c = f3 (shF g) s T' c := by
      intro T T' e
      have sim : ∀ (P : (Nat → Int32) → (Nat → Int32) → Prop) (f : Nat → Nat → Nat → (Nat → Int32) → (Nat → Int32)) (n : Nat), (∀ i j k a b, i < j → j < k → k < n → P a b → P (f i j k a) (f i j k b)) → ∀ a b, P a b → P (fd3 f n a) (fd3 f n b) := fun P f n hh a b hab =>
        fd_sim (R := fun _ => P) _ _ _ _ hab fun i a b h1 h2 hab => fd_sim (R := fun _ => P) _ _ _ _ hab fun j a b h3 h4 hab => fd_sim (R := fun _ => P) _ _ _ _ hab fun k a b h5 h6 hab => hh i j k a b (by omega) (by omega) (by omega) hab
      refine sim (fun T T' => ∀ c, c < 343 → T c = T' c) _ s (fun i j k a b _ _ _ hab c hc => ?_) T T' e
      show pT a i j k (shF g i j k) c = pT b i j k (shF g i j k) c
      unfold pT upd
      rw [hab c hc]
    exact key _ _ (fun c hc => (congrFun k20 c).trans (if_pos hc)) c hc
  rw [am_122, s_122_0, s2]
  simp only [t_ob_13, true_and, hd, s_122_18, s_122_23, t_13_0]
  rw [if_neg (by rw [e3]; omega), if_pos (by rw [e6]; omega), if_pos (Int32.le_refl _)]
  rw [show (t_I g 13 0 0).1 13 1 = nI s from s2, n120 (h := t_I g 13 0 0) hd hD, ← hk]
  simp only [t_ki]
  refine Eq.trans l0 ?_
  show Q (RI (nI D)) (t_I (t_I (hN (g.1 2) (g.1 3) (hU k D (f3 (shF g) s (fun c => k.1 20 (343 * D + c)))) D s) 21 D 1) 13 1 0) = _
  rw [ex, hk]
  rfl
theorem n122x {g : tH} {D s : Nat} (hd : g.1 13 8 = nI D) (hD : D ≤ 6) (hs : g.1 13 1 = nI s) (h7 : s ≤ 7) (hx : s < 3 ∨ D = 6) : rn 122 [.ref 13] g (RI 0) (t_I g 13 0 1) := by
  intro Q
  have e3 : (nI s < (3 : Int32)) = (s < 3) := nI_lt' (a := s) (b := 3) (by omega) (by omega)
  have e6 : (nI D = (6 : Int32)) = (D = 6) := nI_eq' (a := D) (b := 6) (by omega) (by omega)
  rw [am_122, s_122_0, hs]
  simp only [t_ob_13, true_and, hd, s_122_18, s_122_23, t_13_0]
  by_cases h3 : s < 3
  · rw [if_pos (by rw [e3]; exact h3), if_neg (by decide)]
  · rw [if_neg (by rw [e3]; exact h3), if_neg (by rw [e6]; omega), if_neg (by decide)]
theorem shF_o {h g : tH} (e2 : ∀ p, g.1 2 p = h.1 2 p) (e3 : ∀ p, g.1 3 p = h.1 3 p) : shF g = shF h := by
  funext i j k
  unfold shF
  rw [e2, e2, e2, e3, e3, e3]
theorem op_draw {h : tH} (hI : IV h) : opI h 175 [.ref 0, .ref 32] 122 [.ref 13] := by
  obtain ⟨D, s, w, h1, h2, h3, hs, hw, ha⟩ := id hI
  obtain ⟨s1, s2, s3, s4, s5⟩ := id hs
  by_cases hx : s < 3 ∨ D = 6
  · exact opI_f hI (k := 1) (by decide) (by decide) (r_175_e1 (c68x h1 h3 s1 s3 hx)) (n122x (g := t_X h) h2 h3 s2 s3 hx)
  · have hs3 : 3 ≤ s := by omega
    have hD : D < 6 := by omega
    obtain ⟨A, hA⟩ : ∃ A, A = dA h D s (f3 (shF h) s (h.1 (80 + D))) := ⟨_, rfl⟩
    have rA : ∀ a b, A.1 a b = if a = 0 ∧ b = 3 then nI (D + 1) else if a = 1 ∧ b = 2 then 0 else if a = 40 + D ∧ b = 3 then 1 else if a = 50 + D ∧ b < s then h.1 2 b else if a = 60 + D ∧ b < s then h.1 3 b else if a = 80 + D then f3 (shF h) s (h.1 (80 + D)) b else if a = 70 + D ∧ b = 1 then nI s else h.1 a b := fun _ _ => by rw [hA]; rfl
    have r1 : rn 68 [.ref 0] h (RI (nI D)) A := by rw [hA]; exact c68 h1 hD s1 hs3 s3
    obtain ⟨g, hg⟩ : ∃ g, g = t_L A 32 0 (nI D).toInt64 := ⟨_, rfl⟩
    have ag : ∀ a b, g.1 a b = A.1 a b := fun _ _ => by rw [hg]; rfl
    have gl : ∀ a b, 1 < a → a < 40 → g.1 a b = h.1 a b := fun a b a1 a2 => by
      rw [ag, rA, if_neg (by omega), if_neg (by omega), if_neg (by omega), if_neg (by omega), if_neg (by omega), if_neg (by omega), if_neg (by omega)]
    have gs : SM g s := ⟨by rw [gl _ _ (by decide) (by decide)]; exact s2, s3, fun p hp => by
      rw [gl _ _ (by decide) (by decide), gl _ _ (by decide) (by decide), gl _ _ (by decide) (by decide), gl _ _ (by decide) (by decide)]
      exact s4 p hp⟩
    have r2 := n122 (g := g) (by rw [gl _ _ (by decide) (by decide)]; exact h2) hD gs hs3
    rw [shF_o (fun p => gl 2 p (by decide) (by decide)) (fun p => gl 3 p (by decide) (by decide)), show g.1 2 = h.1 2 from funext fun p => gl 2 p (by decide) (by decide), show g.1 3 = h.1 3 from funext fun p => gl 3 p (by decide) (by decide)] at r2
    obtain ⟨Z, hZ⟩ : ∃ Z, Z = dZ g (h.1 2) (h.1 3) D s (f3 (shF h) s (fun _ => 0)) := ⟨_, rfl⟩
    rw [← hZ] at r2
    have rZ : ∀ a b, Z.1 a b = if a = 13 ∧ b = 1 then 0 else if a = 21 ∧ b = D then 1 else if a = 22 ∧ 7 * D ≤ b ∧ b < 7 * D + s then h.1 2 (b - 7 * D) else if a = 23 ∧ 7 * D ≤ b ∧ b < 7 * D + s then h.1 3 (b - 7 * D) else if a = 20 ∧ 343 * D ≤ b ∧ b < 343 * D + 343 then f3 (shF h) s (fun _ => 0) (b - 343 * D) else if a = 13 ∧ b = 8 then nI (D + 1) else if a = 20 ∧ 343 * D ≤ b ∧ b < 343 * D + 343 then 0 else if a = 24 ∧ b = D then 0 else if a = 21 ∧ b = D then 0 else if a = 19 ∧ b = D then nI s else if a = 13 ∧ b = 0 then 0 else g.1 a b := fun _ _ => by rw [hZ]; rfl
    have zo : ∀ a b, ¬ (a = 13 ∨ (a = 21 ∧ b = D) ∨ (a = 22 ∧ 7 * D ≤ b ∧ b < 7 * D + s) ∨ (a = 23 ∧ 7 * D ≤ b ∧ b < 7 * D + s) ∨ (a = 20 ∧ 343 * D ≤ b ∧ b < 343 * D + 343) ∨ (a = 24 ∧ b = D) ∨ (a = 19 ∧ b = D)) → Z.1 a b = g.1 a b := fun a b e => by
      rw [rZ, if_neg (by omega), if_neg (by omega), if_neg (by omega), if_neg (by omega), if_neg (by omega), if_neg (by omega), if_neg (by omega), if_neg (by omega), if_neg (by omega), if_neg (by omega), if_neg (by omega)]
    have z13 : ∀ b, b ≠ 0 → b ≠ 1 → b ≠ 8 → Z.1 13 b = h.1 13 b := fun b b0 b1 b8 => by
      rw [rZ, if_neg (by omega), if_neg (by omega), if_neg (by omega), if_neg (by omega), if_neg (by omega), if_neg (by omega), if_neg (by omega), if_neg (by omega), if_neg (by omega), if_neg (by omega), if_neg (by omega), gl _ _ (by decide) (by decide)]
    obtain ⟨χ, hχ⟩ : ∃ χ, χ = t3 (shF h) s (fun _ _ _ => 0) := ⟨_, rfl⟩
    have ho := shelf_hold hs
    rw [← hχ] at ho
    have eX : tX Z (70 + D) = χ := by
      rw [cut_Xr, show Z.1 (70 + D + 10) = f3 (shF h) s (h.1 (80 + D)) from funext fun b => by
        rw [zo _ _ (by omega), ag, rA, if_neg (by omega), if_neg (by omega), if_neg (by omega), if_neg (by omega), if_neg (by omega), if_pos (by omega)]]
      rw [cut_f3 s3, cut_0 (ha.2.1 D (Nat.le_refl _) hD).1, hχ]
    have eY : tY Z D = χ := by
      have : tY Z D = cut (f3 (shF h) s (fun _ => 0)) := by
        rw [cut_Yr]
        funext i j k
        unfold cut
        by_cases e : i < 7 ∧ j < 7 ∧ k < 7
        · rw [if_pos e, if_pos e]
          show Z.1 20 (343 * D + (49 * i + 7 * j + k)) = _
          rw [rZ, if_neg (by omega), if_neg (by omega), if_neg (by omega), if_neg (by omega), if_pos (by omega), Nat.add_sub_cancel_left]
        · rw [if_neg e, if_neg e]
      rw [this, cut_f3 s3, cut_0 fun _ _ => rfl, hχ]
    have v : DV Z D s := by
      refine ⟨hs3, s3, ?_, ?_, eX.trans eY.symm, ?_, ?_, ⟨true, ?_, ?_⟩, ⟨false, ?_, ?_, fun z => (nomatch z)⟩⟩
      · rw [zo _ _ (by omega), ag, rA, if_neg (by omega), if_neg (by omega), if_neg (by omega), if_neg (by omega), if_neg (by omega), if_neg (by omega), if_pos ⟨rfl, rfl⟩]
      · rw [rZ, if_neg (by omega), if_neg (by omega), if_neg (by omega), if_neg (by omega), if_neg (by omega), if_neg (by omega), if_neg (by omega), if_neg (by omega), if_neg (by omega), if_pos ⟨rfl, rfl⟩]
      · rw [eX]; exact ho.1
      · rw [eX]; exact ho.2
      · rw [zo _ _ (by omega), ag, rA, if_neg (by omega), if_neg (by omega), if_pos ⟨rfl, rfl⟩]; rfl
      · rw [rZ, if_neg (by omega), if_pos ⟨rfl, rfl⟩]; rfl
      · rw [zo _ _ (by omega), ag, rA, if_neg (by omega), if_neg (by omega), if_neg (by omega), if_neg (by omega), if_neg (by omega), if_neg (by omega), if_neg (by omega)]
        exact (ha.2.1 D (Nat.le_refl _) hD).2.2
      · rw [rZ, if_neg (by omega), if_neg (by omega), if_neg (by omega), if_neg (by omega), if_neg (by omega), if_neg (by omega), if_neg (by omega), if_pos ⟨rfl, rfl⟩]; rfl
    have iv : IV Z := by
      refine IV_new (s := 0) (w := w) hD ha ?_ ?_ ⟨?_, ?_, by decide, fun p hp => by omega, fun i j k a b e => by omega⟩ (WV_fr (fun a b e => ?_) hw) (fun a b e1 e2 e3 => ?_) v fun p hp => ⟨?_, ?_⟩
      · rw [zo _ _ (by omega), ag, rA, if_pos ⟨rfl, rfl⟩]
      · rw [rZ, if_neg (by omega), if_neg (by omega), if_neg (by omega), if_neg (by omega), if_neg (by omega), if_pos ⟨rfl, rfl⟩]
      · rw [zo _ _ (by omega), ag, rA, if_neg (by omega), if_pos ⟨rfl, rfl⟩]; rfl
      · rw [rZ, if_pos ⟨rfl, rfl⟩]; rfl
      · rcases e with ⟨rfl, rfl⟩ | ⟨rfl, rfl⟩ | rfl | rfl
        · rw [zo _ _ (by omega), gl _ _ (by decide) (by decide)]
        · exact z13 _ (by decide) (by decide) (by decide)
        · rw [zo _ _ (by omega), gl _ _ (by decide) (by decide)]
        · rw [zo _ _ (by omega), gl _ _ (by decide) (by decide)]
      · rw [zo _ _ (by omega), ag, rA, if_neg (by omega), if_neg (by omega), if_neg (by omega), if_neg (by omega), if_neg (by omega), if_neg (by omega), if_neg (by omega)]
      · have hx := (ha.2.2 D p hD hp).1
        by_cases ps : p < s
        · rw [rZ, if_neg (by omega), if_neg (by omega), if_pos ⟨rfl, by omega, by omega⟩, zo _ _ (by omega), ag, rA, if_neg (by omega), if_neg (by omega), if_neg (by omega), if_pos ⟨rfl, ps⟩, Nat.add_sub_cancel_left]
        · rw [zo _ _ (by omega), gl _ _ (by decide) (by decide), zo _ _ (by omega), ag, rA, if_neg (by omega), if_neg (by omega), if_neg (by omega), if_neg (by omega), if_neg (by omega), if_neg (by omega), if_neg (by omega)]
          exact hx
      · have hx := (ha.2.2 D p hD hp).2
        by_cases ps : p < s
        · rw [rZ, if_neg (by omega), if_neg (by omega), if_neg (by omega), if_pos ⟨rfl, by omega, by omega⟩, zo _ _ (by omega), ag, rA, if_neg (by omega), if_neg (by omega), if_neg (by omega), if_neg (by omega), if_pos ⟨rfl, ps⟩, Nat.add_sub_cancel_left]
        · rw [zo _ _ (by omega), gl _ _ (by decide) (by decide), zo _ _ (by omega), ag, rA, if_neg (by omega), if_neg (by omega), if_neg (by omega), if_neg (by omega), if_neg (by omega), if_neg (by omega), if_neg (by omega)]
          exact hx
    refine ⟨0, g, Z, nI D, by decide, ?_, r2, iv, ?_, fun _ => ?_⟩
    · rw [hg]; exact r_175 r1
    · rw [hZ]; rfl
    · rw [hZ, hg]; rfl
