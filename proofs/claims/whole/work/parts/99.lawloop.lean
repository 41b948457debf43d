/-! ===== the law: its loop ===== -/
theorem and31 (x : Int32) : ∃ k, k < 32 ∧ x &&& 31 = nI k := by
  refine ⟨(x &&& 31).toBitVec.toNat, ?_, ?_⟩
  · rw [Int32.toBitVec_and, BitVec.toNat_and]
    have : (Int32.toBitVec 31).toNat = 31 := by decide
    rw [this]
    exact Nat.lt_succ_of_le Nat.and_le_right
  · refine Int32.toBitVec_inj.mp ?_
    show (x &&& 31).toBitVec = BitVec.ofNat 32 (x &&& 31).toBitVec.toNat
    rw [BitVec.ofNat_toNat, BitVec.setWidth_eq]
theorem lt_end {L i : Nat} (hL : L ≤ 3072) (hi : i ≤ 4000) : (Int32.ofNat L - 6 < nI i) = (L < i + 6) := by
  show (nI L - 6 < nI i) = _
  by_cases h6 : 6 ≤ L
  · have e : nI L - 6 = nI (L - 6) := by
      have a : nI (L - 6) + 6 = nI L := by
        rw [nI_p6, show L - 6 + 6 = L by omega]
      rw [← a]
      exact Int32.add_sub_cancel _ _
    rw [e]
    refine propext ((nI_ltI (by omega) (by omega)).trans ?_)
    omega
  · have hh : ∀ L, L < 6 → nI L - 6 < 0 := by decide
    have z : (0 : Int32) ≤ nI i := (nI_leI (a := 0) (b := i) (by omega) (by omega)).mpr (Nat.zero_le _)
    exact propext ⟨fun _ => by omega, fun _ => Int32.lt_of_lt_of_le (hh L (by omega)) z⟩
theorem law_go {h : tH} {L i : Nat} {Q : tO → tH → Prop} {w5 w6 : Value} (hI : IV h) (L34 : h.1 34 0 = nI L) (hL : L ≤ 3072) (hi : i + 6 ≤ L) (go : GO h L i Q) : ∀ k, k < 32 → AX 39 200 40 [.ref 33, .ref 0, .ref 13, .ref 32, .int (nI i), w5, w6, .float 0] [.int (nI k)] h Q := by
  intro k hk
  match k, hk with
  | 0, _ => exact (e_200_40_0 33 0 13 32 (nI i) w5 w6 h Q).mpr (law_0 hI L34 hL hi go)
  | 1, _ => exact (e_200_40_1 33 0 13 32 (nI i) w5 w6 h Q).mpr (law_1 hI L34 hL hi go)
  | 2, _ => exact (e_200_40_2 33 0 13 32 (nI i) w5 w6 h Q).mpr (law_2 hI L34 hL hi go)
  | 3, _ => exact (e_200_40_3 33 0 13 32 (nI i) w5 w6 h Q).mpr (law_3 hI L34 hL hi go)
  | 4, _ => exact (e_200_40_4 33 0 13 32 (nI i) w5 w6 h Q).mpr (law_4 hI L34 hL hi go)
  | 5, _ => exact (e_200_40_5 33 0 13 32 (nI i) w5 w6 h Q).mpr (law_5 hI L34 hL hi go)
  | 6, _ => exact (e_200_40_6 33 0 13 32 (nI i) w5 w6 h Q).mpr (law_6 hI L34 hL hi go)
  | 7, _ => exact (e_200_40_7 33 0 13 32 (nI i) w5 w6 h Q).mpr (law_7 hI L34 hL hi go)
  | 8, _ => exact (e_200_40_8 33 0 13 32 (nI i) w5 w6 h Q).mpr (law_8 hI L34 hL hi go)
  | 9, _ => exact (e_200_40_9 33 0 13 32 (nI i) w5 w6 h Q).mpr (law_9 hI L34 hL hi go)
  | 10, _ => exact (e_200_40_10 33 0 13 32 (nI i) w5 w6 h Q).mpr (law_10 hI L34 hL hi go)
  | 11, _ => exact (e_200_40_11 33 0 13 32 (nI i) w5 w6 h Q).mpr (law_11 hI L34 hL hi go)
  | 12, _ => exact (e_200_40_12 33 0 13 32 (nI i) w5 w6 h Q).mpr (law_12 hI L34 hL hi go)
  | 13, _ => exact (e_200_40_13 33 0 13 32 (nI i) w5 w6 h Q).mpr (law_13 hI L34 hL hi go)
  | 14, _ => exact (e_200_40_14 33 0 13 32 (nI i) w5 w6 h Q).mpr (law_14 hI L34 hL hi go)
  | 15, _ => exact (e_200_40_15 33 0 13 32 (nI i) w5 w6 h Q).mpr (law_15 hI L34 hL hi go)
  | 16, _ => exact (e_200_40_16 33 0 13 32 (nI i) w5 w6 h Q).mpr (law_16 hI L34 hL hi go)
  | 17, _ => exact (e_200_40_17 33 0 13 32 (nI i) w5 w6 h Q).mpr (law_17 hI L34 hL hi go)
  | 18, _ => exact (e_200_40_18 33 0 13 32 (nI i) w5 w6 h Q).mpr (law_18 hI L34 hL hi go)
  | 19, _ => exact (e_200_40_19 33 0 13 32 (nI i) w5 w6 h Q).mpr (law_19 hI L34 hL hi go)
  | 20, _ => exact (e_200_40_20 33 0 13 32 (nI i) w5 w6 h Q).mpr (law_20 hI L34 hL hi go)
  | 21, _ => exact (e_200_40_21 33 0 13 32 (nI i) w5 w6 h Q).mpr (law_21 hI L34 hL hi go)
  | 22, _ => exact (e_200_40_22 33 0 13 32 (nI i) w5 w6 h Q).mpr (law_22 hI L34 hL hi go)
  | 23, _ => exact (e_200_40_23 33 0 13 32 (nI i) w5 w6 h Q).mpr (law_23 hI L34 hL hi go)
  | 24, _ => exact (e_200_40_24 33 0 13 32 (nI i) w5 w6 h Q).mpr (law_24 hI L34 hL hi go)
  | 25, _ => exact (e_200_40_25 33 0 13 32 (nI i) w5 w6 h Q).mpr (law_25 hI L34 hL hi go)
  | 26, _ => exact (e_200_40_26 33 0 13 32 (nI i) w5 w6 h Q).mpr (law_26 hI L34 hL hi go)
  | 27, _ => exact (e_200_40_27 33 0 13 32 (nI i) w5 w6 h Q).mpr (law_27 hI L34 hL hi go)
  | 28, _ => exact (e_200_40_28 33 0 13 32 (nI i) w5 w6 h Q).mpr (law_28 hI L34 hL hi go)
  | 29, _ => exact (e_200_40_29 33 0 13 32 (nI i) w5 w6 h Q).mpr (law_29 hI L34 hL hi go)
  | 30, _ => exact (e_200_40_30 33 0 13 32 (nI i) w5 w6 h Q).mpr (law_30 hI L34 hL hi go)
  | 31, _ =>
    refine (e_200_40_31 33 0 13 32 (nI i) w5 w6 h Q).mpr ?_
    rw [s_200_2137, nI_p6]
    exact go _ _ _ hI L34 (by omega)
  | k + 32, hk => exact absurd hk (by omega)
/-- the whole loop: it ends with true; at most one exception a turn -/
theorem law_loop {L : Nat} (hL : L ≤ 3072) : ∀ m i (h : tH) w5 w6, i ≤ 3900 → L < i + 6 * (m + 1) → IV h → h.1 34 0 = nI L → AX 39 200 23 [.ref 33, .ref 0, .ref 13, .ref 32, .int (nI i), w5, w6, .float 0] [] h (fun o h' => o = RI 1 ∧ h'.2.2.2 ≤ h.2.2.2 + m) := by
  intro m
  induction m with
  | zero =>
    intro i h w5 w6 hi hm hI L34
    have tl : t_ln h 33 = some L := by
      show some (h.1 34 0).toNatClampNeg = some L
      rw [L34, nC (by omega)]
    rw [s_200_23 (hL := tl), if_pos (by rw [lt_end hL (by omega)]; omega)]
    exact ⟨rfl, Nat.le_refl _⟩
  | succ m ih =>
    intro i h w5 w6 hi hm hI L34
    have tl : t_ln h 33 = some L := by
      show some (h.1 34 0).toNatClampNeg = some L
      rw [L34, nC (by omega)]
    rw [s_200_23 (hL := tl)]
    by_cases e : L < i + 6
    · rw [if_pos (by rw [lt_end hL (by omega)]; exact e)]
      exact ⟨rfl, Nat.le_add_right _ _⟩
    · rw [if_neg (by rw [lt_end hL (by omega)]; exact e), tin_33 L34 (by omega) hL, true_and]
      obtain ⟨k, k32, hk⟩ := and31 (h.1 33 (nI i).toNatClampNeg)
      rw [hk]
      refine law_go hI L34 hL (by omega) ?_ k k32
      intro h2 w5 w6 hI2 L2 x2
      refine AX_mono (ih (i + 6) h2 w5 w6 (by omega) (by omega) hI2 L2) fun o h' ⟨a, b⟩ => ⟨a, by omega⟩
/-- the law, its two things being made -/
theorem law_all {L : Nat} (hL : L ≤ 3072) {h : tH} (hI : IV h) (L34 : h.1 34 0 = nI L) : AX 39 200 20 [.ref 33, .ref 0, .ref 13, .ref 32, .float 0, .float 0, .float 0, .float 0] [] h (fun o h' => o = RI 1 ∧ h'.2.2.2 ≤ h.2.2.2 + 512) := by
  rw [s_200_20]
  exact law_loop hL 512 0 h _ _ (by omega) (by omega) hI L34
