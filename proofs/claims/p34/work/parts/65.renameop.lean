/-! ===== rename: the calls ===== -/
theorem opV_f {h : tH} (hI : IV h) {mi mm k : Nat} {as bs : List Value} (hk : k ≤ 2) (a : rn mi as h (RI (nI k)) (t_X h)) (b : rn mm bs (t_X h) (.inl none) (t_I (t_X h) 13 0 (nI k))) : opV h mi as mm bs :=
  ⟨k, _, _, hk, a, b, IV_fr (fr_t (fr_X h) fr_13) hI, rfl⟩
