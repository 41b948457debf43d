/-! ===== flip ===== -/
/-- only the cells of one drawing's signs, numbers' and edges' marks change -/
def frX (d : Nat) (h h' : tH) : Prop := ∀ k i, sc k i = false → ¬ (k = 40 + d ∨ k = 80 + d ∨ (k = 20 ∧ 343 * d ≤ i ∧ i < 343 * d + 343) ∨ (k = 21 ∧ i = d) ∨ (k = 24 ∧ i = d) ∨ (k = 25 ∧ 49 * d ≤ i ∧ i < 49 * d + 49)) → h'.1 k i = h.1 k i
theorem IV_upd {h h' : tH} {D d n : Nat} (hI : IV h) (h1 : h.1 0 3 = nI D) (h3 : D ≤ 6) (hd : d < D) (f : frX d h h') (v : DV h' d n) : IV h' := by
  obtain ⟨D', s, w, g1, g2, g3, hs, hw, ha, hf, hxy⟩ := hI
  have e : D' = D := by
    have := g1.symm.trans h1
    rwa [nI_eq' (by omega) (by omega)] at this
  subst e
  refine ⟨D', s, w, ?_, ?_, g3, SV_fr (fun k i e => f k i (sc_f (by omega)) (by omega)) hs, WV_fr (fun k i e => f k i (sc_f (by omega)) (by omega)) hw, fun c hc => ?_, fun c hc1 hc2 => ⟨fun i hi => ?_, ?_, ?_⟩, fun c p hc hp => ⟨?_, ?_⟩⟩
  · rw [f _ _ (sc_f (by omega)) (by omega), g1]
  · rw [f _ _ (sc_f (by omega)) (by omega), g2]
  · by_cases hcd : c = d
    · exact ⟨n, hcd ▸ v⟩
    · obtain ⟨m, hm⟩ := ha c hc
      exact ⟨m, DV_fr (fun k i e => f k i (sc_f (by omega)) (by omega)) hm⟩
  · rw [f _ _ (sc_f (by omega)) (by omega)]; exact (hf c hc1 hc2).1 i hi
  · rw [f _ _ (sc_f (by omega)) (by omega)]; exact (hf c hc1 hc2).2.1
  · rw [f _ _ (sc_f (by omega)) (by omega)]; exact (hf c hc1 hc2).2.2
  · rw [f _ _ (sc_f (by omega)) (by omega), f (50 + c) _ (sc_f (by omega)) (by omega)]; exact (hxy c p hc hp).1
  · rw [f _ _ (sc_f (by omega)) (by omega), f (60 + c) _ (sc_f (by omega)) (by omega)]; exact (hxy c p hc hp).2
theorem setC_back {χ : tC} {n i j k : Nat} {x : Int32} (w : WS χ n) (hi : i < 7) (hj : j < 7) (hk : k < 7) : setC (setC χ i j k x) i j k (χ i j k) = χ := by
  funext a b c
  rw [setC_at, setC_at]
  by_cases h1 : a = j ∧ b = i ∧ c = k
  · rw [if_pos h1, h1.1, h1.2.1, h1.2.2, WS_j w hi hj hk]
  rw [if_neg h1]
  by_cases h2 : a = k ∧ b = j ∧ c = i
  · rw [if_pos h2, h2.1, h2.2.1, h2.2.2, WS_j w hj hk hi, WS_r w hi hj hk]
  rw [if_neg h2]
  by_cases h3 : a = i ∧ b = k ∧ c = j
  · rw [if_pos h3, h3.1, h3.2.1, h3.2.2, WS_k w hi hj hk]
  rw [if_neg h3]
  by_cases h4 : a = k ∧ b = i ∧ c = j
  · rw [if_pos h4, h4.1, h4.2.1, h4.2.2, ← WS_r w hi hj hk, ← WS_r w hj hk hi]
  rw [if_neg h4]
  by_cases h5 : a = j ∧ b = k ∧ c = i
  · rw [if_pos h5, h5.1, h5.2.1, h5.2.2, WS_r w hi hj hk]
  rw [if_neg h5]
  by_cases h6 : a = i ∧ b = j ∧ c = k
  · rw [if_pos h6, h6.1, h6.2.1, h6.2.2]
  rw [if_neg h6, if_neg h1, if_neg h2, if_neg h3, if_neg h4, if_neg h5, if_neg h6]
theorem hSet_out {h : tH} {d i j k m : Nat} {x : Int32} (hi : i < 7) (hj : j < 7) (hk : k < 7) (hm : m < 343 * d ∨ 343 * d + 343 ≤ m) : (hSet h d i j k x).1 20 m = h.1 20 m := by
  unfold hSet
  simp only [t_I_at, true_and]
  rw [if_neg (by omega), if_neg (by omega), if_neg (by omega), if_neg (by omega), if_neg (by omega), if_neg (by omega)]
/-- the drawing's signs are as they were, and all its other cells -/
theorem DV_cong {h h' : tH} {d n : Nat} (ex : tX h' (70 + d) = tX h (70 + d)) (ey : tY h' d = tY h d) (f : ∀ k i, (k = 70 + d ∧ i = 1 ∨ k = 19 ∧ i = d ∨ k = 40 + d ∨ k = 21 ∧ i = d ∨ k = 24 ∧ i = d ∨ (k = 25 ∧ 49 * d ≤ i ∧ i < 49 * d + 49)) → h'.1 k i = h.1 k i) (v : DV h d n) : DV h' d n := by
  obtain ⟨h1, h2, h3, h4, h5, h6, h7, ⟨b, h8, h9⟩, ⟨b', h10, h11, h12⟩⟩ := v
  refine ⟨h1, h2, ?_, ?_, ?_, ?_, ?_, ⟨b, ?_, ?_⟩, ⟨b', ?_, ?_, fun hb => ?_⟩⟩
  · rw [f _ _ (by omega), h3]
  · rw [f _ _ (by omega), h4]
  · rw [ex, ey, h5]
  · rw [ex]; exact h6
  · rw [ex]; exact h7
  · rw [f _ _ (by omega), h8]
  · rw [f _ _ (by omega), h9]
  · rw [f _ _ (by omega), h10]
  · rw [f _ _ (by omega), h11]
  · unfold TV
    rw [ex, f (40 + d) 4 (by omega)]
    refine ⟨fun i j hi hj => ?_, (h12 hb).2⟩
    rw [f _ _ (by omega)]
    exact (h12 hb).1 i j hi hj
