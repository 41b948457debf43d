/-! ===== draw ===== -/
/-- a new drawing; all else stays, but for the counts and what is only worked with -/
theorem IV_new {h Z : tH} {D s w n : Nat} (hD : D < 6) (ha : AV h D) (z1 : Z.1 0 3 = nI (D + 1)) (z2 : Z.1 13 8 = nI (D + 1)) (vs : SV Z s) (vw : WV Z w)
    (f : ∀ a b, 19 ≤ a → sc a b = false → ¬ (a = 40 + D ∨ a = 50 + D ∨ a = 60 + D ∨ a = 70 + D ∨ a = 80 + D ∨ (a = 19 ∧ b = D) ∨ (a = 20 ∧ 343 * D ≤ b ∧ b < 343 * D + 343) ∨ (a = 21 ∧ b = D) ∨ (a = 22 ∧ 7 * D ≤ b ∧ b < 7 * D + 7) ∨ (a = 23 ∧ 7 * D ≤ b ∧ b < 7 * D + 7) ∨ (a = 24 ∧ b = D) ∨ (a = 25 ∧ 49 * D ≤ b ∧ b < 49 * D + 49)) → Z.1 a b = h.1 a b)
    (v : DV Z D n) (xy : ∀ p, p < 7 → Z.1 22 (7 * D + p) = Z.1 (50 + D) p ∧ Z.1 23 (7 * D + p) = Z.1 (60 + D) p) : IV Z := by
  obtain ⟨h4, h5, h6⟩ := ha
  refine ⟨D + 1, s, w, z1, z2, by omega, vs, vw, fun c hc => ?_, fun c hc1 hc2 => ⟨fun i hi => ?_, ?_, ?_⟩, fun c p hc hp => ?_⟩
  · by_cases hcd : c = D
    · exact ⟨n, hcd ▸ v⟩
    · obtain ⟨m, hm⟩ := h4 c (by omega)
      exact ⟨m, DV_fr (fun k i e => f k i (by omega) (sc_f (by omega)) (by omega)) hm⟩
  · rw [f _ _ (by omega) (sc_f (by omega)) (by omega)]; exact (h5 c (by omega) hc2).1 i hi
  · rw [f _ _ (by omega) (sc_f (by omega)) (by omega)]; exact (h5 c (by omega) hc2).2.1
  · rw [f _ _ (by omega) (sc_f (by omega)) (by omega)]; exact (h5 c (by omega) hc2).2.2
  · by_cases hcd : c = D
    · subst hcd; exact xy p hp
    · rw [f 22 _ (by omega) (sc_f (by omega)) (by omega), f (50 + c) _ (by omega) (sc_f (by omega)) (by omega), f 23 _ (by omega) (sc_f (by omega)) (by omega), f (60 + c) _ (by omega) (sc_f (by omega)) (by omega)]
      exact h6 c p hc hp
/-- what the model's draw leaves -/
def dZ (g : tH) (X Y : Nat → Int32) (D s : Nat) (T : Nat → Int32) : tH := t_I (t_I (hN X Y (hU (t_I (hU (mA (t_I g 13 0 0) D s) D (fun _ => 0)) 13 8 (nI (D + 1))) D T) D s) 21 D 1) 13 1 0
theorem shF_o {h g : tH} (e2 : ∀ p, g.1 2 p = h.1 2 p) (e3 : ∀ p, g.1 3 p = h.1 3 p) : shF g = shF h := by
  funext i j k
  unfold shF
  rw [e2, e2, e2, e3, e3, e3]
