/-! ===== questions that only read ===== -/
abbrev RI (v : Int32) : tO := .inl (some (.int v))
theorem t_13_ne {h : tH} {k i j : Nat} {x : Int32} (hk : k ≠ 13) : (t_I h 13 j x).1 k i = h.1 k i := by rw [t_I_ne hk]
theorem t_13_0 {h : tH} {x : Int32} : (t_I h 13 0 x).1 13 0 = x := rfl
theorem t_13_i {h : tH} {x : Int32} {i : Nat} (hi : i ≠ 0) : (t_I h 13 0 x).1 13 i = h.1 13 i := by rw [t_I_at, if_neg fun z => hi z.2]
theorem tY_13 {h : tH} {x : Int32} {d : Nat} : tY (t_I h 13 0 x) d = tY h d := tY_o fun c _ => t_13_ne (by decide)
theorem ty_13 {h : tH} {x : Int32} {d n : Nat} (t : ty h d n) : ty (t_I h 13 0 x) d n := ⟨t.1, (t_13_ne (by decide)).trans t.2.1, t.2.2⟩
theorem fr_13 {h : tH} {x : Int32} : fr h (t_I h 13 0 x) := fr_I (by decide)
theorem tY_L {h : tH} {k i d : Nat} {x : Int64} : tY (t_L h k i x) d = tY h d := rfl
theorem tX_L {h : tH} {k i d : Nat} {x : Int64} : tX (t_L h k i x) d = tX h d := rfl
theorem tY_X {h : tH} {d : Nat} : tY (t_X h) d = tY h d := rfl
def opI (h : tH) (mi : Nat) (as : List Value) (mm : Nat) (bs : List Value) : Prop := ∃ (k : Nat) (h1 h2 : tH) (v : Int32), k ≤ 2 ∧ rn mi as h (RI (nI k)) h1 ∧ rn mm bs h1 (RI v) h2 ∧ IV h2 ∧ h2.1 13 0 = nI k ∧ (k = 0 → h2.2.1 32 0 = v.toInt64)
def opB (h : tH) (mi : Nat) (as : List Value) (mm : Nat) (bs : List Value) : Prop := ∃ (k : Nat) (h1 h2 : tH) (b : Bool), k ≤ 2 ∧ rn mi as h (RI (nI k)) h1 ∧ rn mm bs h1 (RI (zb b)) h2 ∧ IV h2 ∧ h2.1 13 0 = nI k ∧ (k = 0 → h2.2.1 32 0 = i64b b)
def opL (h : tH) (mi : Nat) (as : List Value) (mm : Nat) (bs : List Value) : Prop := ∃ (k : Nat) (h1 h2 : tH) (v : Int64), k ≤ 2 ∧ rn mi as h (RI (nI k)) h1 ∧ rn mm bs h1 (.inl (some (.long v))) h2 ∧ IV h2 ∧ h2.1 13 0 = nI k ∧ (k = 0 → h2.2.1 32 0 = v)
def opV (h : tH) (mi : Nat) (as : List Value) (mm : Nat) (bs : List Value) : Prop := ∃ (k : Nat) (h1 h2 : tH), k ≤ 2 ∧ rn mi as h (RI (nI k)) h1 ∧ rn mm bs h1 (.inl none) h2 ∧ IV h2 ∧ h2.1 13 0 = nI k
def op0 (h : tH) (mi : Nat) (as : List Value) (mm : Nat) (bs : List Value) : Prop := ∃ (h1 h2 : tH) (v : Int32), rn mi as h (RI v) h1 ∧ rn mm bs h1 (RI v) h2 ∧ IV h2
theorem opI_f {h : tH} (hI : IV h) {mi mm k : Nat} {as bs : List Value} (hk : k ≤ 2) (hk0 : k ≠ 0) (a : rn mi as h (RI (nI k)) (t_X h)) (b : rn mm bs (t_X h) (RI 0) (t_I (t_X h) 13 0 (nI k))) : opI h mi as mm bs :=
  ⟨k, _, _, 0, hk, a, b, IV_fr (fr_t (fr_X h) fr_13) hI, rfl, fun z => absurd z hk0⟩
theorem opB_f {h : tH} (hI : IV h) {mi mm k : Nat} {as bs : List Value} (hk : k ≤ 2) (hk0 : k ≠ 0) (a : rn mi as h (RI (nI k)) (t_X h)) (b : rn mm bs (t_X h) (RI 0) (t_I (t_X h) 13 0 (nI k))) : opB h mi as mm bs :=
  ⟨k, _, _, false, hk, a, b, IV_fr (fr_t (fr_X h) fr_13) hI, rfl, fun z => absurd z hk0⟩
/-- a question well asked, whose work leaves all that counts -/
theorem opI_s {h h' h'' : tH} (hI : IV h) {mi mm : Nat} {as bs : List Value} {v : Int32} (a : rn mi as h (RI 0) (t_L h' 32 0 v.toInt64)) (b : rn mm bs (t_L h' 32 0 v.toInt64) (RI v) h'') (f : fr h h'') (e : h''.1 13 0 = 0) (o : h''.2.1 32 0 = v.toInt64) : opI h mi as mm bs :=
  ⟨0, _, _, v, by decide, a, b, IV_fr f hI, e, fun _ => o⟩
theorem opB_s {h h' h'' : tH} (hI : IV h) {mi mm : Nat} {as bs : List Value} {v : Bool} (a : rn mi as h (RI 0) (t_L h' 32 0 (i64b v))) (b : rn mm bs (t_L h' 32 0 (i64b v)) (RI (zb v)) h'') (f : fr h h'') (e : h''.1 13 0 = 0) (o : h''.2.1 32 0 = i64b v) : opB h mi as mm bs :=
  ⟨0, _, _, v, by decide, a, b, IV_fr f hI, e, fun _ => o⟩
theorem t_L_at {h : tH} {x : Int64} : (t_L h 32 0 x).2.1 32 0 = x := rfl
theorem IV_D {h : tH} (hI : IV h) : ∃ D, h.1 0 3 = nI D ∧ h.1 13 8 = nI D ∧ D ≤ 6 ∧ ∀ d, d < D → ∃ n, DV h d n := by
  obtain ⟨D, s, w, h1, h2, h3, -, -, h4, -⟩ := hI
  exact ⟨D, h1, h2, h3, h4⟩
theorem DV_t {h : tH} {d n : Nat} (hd : d < 6) (v : DV h d n) : tn h (70 + d) n ∧ ty h d n := ⟨⟨o70 hd, v.2.2.1, v.2.1⟩, ⟨by omega, v.2.2.2.1, v.2.1⟩⟩
theorem zb_1z {X : Prop} : (((1 : Int32) = 0 ∨ (1 : Int32) = 1) ∧ X) = X := propext ⟨fun x => x.2, fun x => ⟨Or.inr rfl, x⟩⟩
theorem zb_0z {X : Prop} : (((0 : Int32) = 0 ∨ (0 : Int32) = 1) ∧ X) = X := propext ⟨fun x => x.2, fun x => ⟨Or.inl rfl, x⟩⟩
theorem c99 {h : tH} : rn 99 [.ref 13] h (RI (h.1 13 0)) h := by
  intro Q
  rw [am_99, s_99_0]
  simp only [t_ob_13, true_and]
/-! how many drawings -/
theorem op_drawings {h : tH} (hI : IV h) : op0 h 79 [.ref 0] 130 [.ref 13] := by
  obtain ⟨D, h1, h2, -⟩ := IV_D hI
  refine ⟨h, t_I h 13 0 0, nI D, fun Q => ?_, fun Q => ?_, IV_fr fr_13 hI⟩
  · rw [am_79, s_79_0, h1]
    simp only [t_ob_0', true_and]
  · rw [am_130, s_130_0, t_13_i (by decide), h2]
    simp only [t_ob_13, true_and]
/-! points -/
theorem c80 {h : tH} {D d n : Nat} (hd : h.1 0 3 = nI D) (hD : D ≤ 6) (h1 : d < D) (hn : h.1 (70 + d) 1 = nI n) : rn 80 [.ref 0, .int (nI d)] h (RI (nI n)) h := by
  intro Q
  rw [am_80, s_80_0, c75 hd hD h1]
  simp only [t_ob_0', true_and, t_kq_r, va_rf_s, s_80_5, e30, o40 (show d < 6 by omega), o70 (show d < 6 by omega), hn]
theorem c80x {h : tH} {D : Nat} {x : Int32} (hd : h.1 0 3 = nI D) (hD : D ≤ 6) (h1 : pI x D = false) : rn 80 [.ref 0, .int x] h (.inr 2) (t_X h) := by
  intro Q
  rw [am_80, s_80_0, c75x hd hD h1]
  simp only [t_ob_0', true_and, t_kq_E]
theorem n131 {h : tH} {D d n : Nat} (hd : h.1 13 8 = nI D) (hD : D ≤ 6) (h1 : d < D) (ht : ty h d n) : rn 131 [.ref 13, .int (nI d)] h (RI (nI n)) (t_I h 13 0 0) := by
  intro Q
  rw [am_131, s_131_0]
  simp only [t_ob_13, true_and, n101 hd (show D < 1000 by omega), t_ki, s_131_34]
  rw [pI_nI (by omega) (by omega)]
  simp [h1, zb, t_13_0, nC (show d < 10000 by omega), t_13_ne, ht.2.1]
  exact fun _ => ⟨7, rfl, vp_in_nI ht.1 (by decide)⟩
theorem n131x {h : tH} {D : Nat} {x : Int32} (hd : h.1 13 8 = nI D) (hD : D ≤ 6) (h1 : pI x D = false) : rn 131 [.ref 13, .int x] h (RI 0) (t_I h 13 0 1) := by
  intro Q
  rw [am_131, s_131_0]
  simp only [t_ob_13, true_and, n101 hd (show D < 1000 by omega), t_ki, s_131_34, h1]
  rfl
theorem op_points {h : tH} (hI : IV h) (x : Int32) : opI h 181 [.ref 0, .int x, .ref 32] 131 [.ref 13, .int x] := by
  obtain ⟨D, h1, h2, h3, h4⟩ := IV_D hI
  by_cases hx : pI x D = true
  · obtain ⟨d, hd, rfl⟩ := (pI_iff (by omega)).mp hx
    obtain ⟨n, hn⟩ := h4 d hd
    exact opI_s hI (r_181 (c80 h1 h3 hd hn.2.2.1)) (n131 (h := t_L h 32 0 _) h2 h3 hd (DV_t (by omega) hn).2) (fr_t (fr_L h 32 0 _) fr_13) rfl rfl
  · exact opI_f hI (k := 1) (by decide) (by decide) (r_181_e2 (c80x h1 h3 (by simpa using hx))) (n131x (h := t_X h) h2 h3 (by simpa using hx))
/-! whether it has numbers -/
theorem c81 {h : tH} {D d : Nat} {b : Bool} (hd : h.1 0 3 = nI D) (hD : D ≤ 6) (h1 : d < D) (hn : h.1 (40 + d) 3 = zb b) : rn 81 [.ref 0, .int (nI d)] h (RI (zb b)) h := by
  intro Q
  rw [am_81, s_81_0, c75 hd hD h1]
  simp only [t_ob_0', true_and, t_kq_r, va_rf_s, s_81_5, o40 (show d < 6 by omega), hn, zb_z]
theorem c81x {h : tH} {D : Nat} {x : Int32} (hd : h.1 0 3 = nI D) (hD : D ≤ 6) (h1 : pI x D = false) : rn 81 [.ref 0, .int x] h (.inr 2) (t_X h) := by
  intro Q
  rw [am_81, s_81_0, c75x hd hD h1]
  simp only [t_ob_0', true_and, t_kq_E]
theorem n132 {h : tH} {D d : Nat} {b : Bool} (hd : h.1 13 8 = nI D) (hD : D ≤ 6) (h1 : d < D) (hb : h.1 21 d = zb b) : rn 132 [.ref 13, .int (nI d)] h (RI (zb b)) (t_I h 13 0 0) := by
  intro Q
  rw [am_132, s_132_0]
  simp only [t_ob_13, true_and, n101 hd (show D < 1000 by omega), t_ki, s_132_37, s_132_38, zb_0z, zb_1z]
  rw [pI_nI (by omega) (by omega)]
  have hv := vI (show d < 6 by omega) (show 6 < 10000 by decide)
  cases b <;> simp [h1, zb, t_13_0, nC (show d < 10000 by omega), t_13_ne, hb, hv]
theorem n132x {h : tH} {D : Nat} {x : Int32} (hd : h.1 13 8 = nI D) (hD : D ≤ 6) (h1 : pI x D = false) : rn 132 [.ref 13, .int x] h (RI 0) (t_I h 13 0 1) := by
  intro Q
  rw [am_132, s_132_0]
  simp only [t_ob_13, true_and, n101 hd (show D < 1000 by omega), t_ki, s_132_37, s_132_38, zb_0z, h1]
  simp [zb, t_13_0]
theorem op_hasNumbers {h : tH} (hI : IV h) (x : Int32) : opB h 182 [.ref 0, .int x, .ref 32] 132 [.ref 13, .int x] := by
  obtain ⟨D, h1, h2, h3, h4⟩ := IV_D hI
  by_cases hx : pI x D = true
  · obtain ⟨d, hd, rfl⟩ := (pI_iff (by omega)).mp hx
    obtain ⟨n, hn⟩ := h4 d hd
    obtain ⟨b, hb1, hb2⟩ := hn.2.2.2.2.2.2.2.1
    exact opB_s hI (r_182 (c81 h1 h3 hd hb1)) (n132 (h := t_L h 32 0 _) h2 h3 hd hb2) (fr_t (fr_L h 32 0 _) fr_13) rfl rfl
  · exact opB_f hI (k := 1) (by decide) (by decide) (r_182_e2 (c81x h1 h3 (by simpa using hx))) (n132x (h := t_X h) h2 h3 (by simpa using hx))
theorem c76f {h : tH} {d n : Nat} (hd : d < 6) (hn : tn h (70 + d) n) {y : Int32} {f : tH → Prop} {Q : tO → tH → Prop} : AM 76 [.ref (40 + d), .int y] h (t_kv f Q) = (if pI y n = true then f h else Q (.inr 2) (t_X h)) := by
  have h7 := hn.2.2
  by_cases hy : pI y n = true
  · obtain ⟨p, hp, rfl⟩ := (pI_iff (by omega)).mp hy
    rw [c76 hd hn.2.1 h7 hp, if_pos hy]
    rfl
  · rw [c76x hd hn.2.1 (by simpa using hy), if_neg hy]
    rfl
/-! a sign -/
theorem c83 {h : tH} {D d n i j k : Nat} (hd : h.1 0 3 = nI D) (hD : D ≤ 6) (h1 : d < D) (hn : tn h (70 + d) n) (hi : i < n) (hj : j < n) (hk : k < n) : rn 83 [.ref 0, .int (nI d), .int (nI i), .int (nI j), .int (nI k)] h (RI (tX h (70 + d) i j k)) h := by
  intro Q
  have h6 : d < 6 := by omega
  have h7 := hn.2.2
  rw [am_83, s_83_0, c75 hd hD h1]
  simp (disch := omega) only [t_ob_0', true_and, t_kq_r, va_rf_s, s_83_5, e30, o40 h6, o70 h6, c76 h6 hn.2.1 hn.2.2, t_kv, t_ki, m_of (o70 h6)]
theorem c83x {h : tH} {D : Nat} {x a b c : Int32} (hd : h.1 0 3 = nI D) (hD : D ≤ 6) (hh : pI x D = false ∨ ∃ d n, x = nI d ∧ d < D ∧ tn h (70 + d) n ∧ (pI a n = false ∨ pI b n = false ∨ pI c n = false)) : rn 83 [.ref 0, .int x, .int a, .int b, .int c] h (.inr 2) (t_X h) := by
  intro Q
  rw [am_83, s_83_0]
  rcases hh with h1 | ⟨d, n, rfl, h1, hn, hh⟩
  · rw [c75x hd hD h1]
    simp only [t_ob_0', true_and, t_kq_E]
  · have h6 : d < 6 := by omega
    rw [c75 hd hD h1]
    simp only [t_ob_0', true_and, t_kq_r, va_rf_s, s_83_5, c76f h6 hn]
    rcases hh with h8 | h8 | h8 <;> simp [h8] <;> intros <;> simp_all
theorem n134 {h : tH} {D d n i j k : Nat} (hd : h.1 13 8 = nI D) (hD : D ≤ 6) (h1 : d < D) (ht : ty h d n) (hi : i < n) (hj : j < n) (hk : k < n) : rn 134 [.ref 13, .int (nI d), .int (nI i), .int (nI j), .int (nI k)] h (RI (tY h d i j k)) (t_I h 13 0 0) := by
  intro Q
  have h7 := ht.2.2
  rw [am_134, s_134_0]
  simp only [t_ob_13, true_and, n101 hd (show D < 1000 by omega), n102 ht, t_ki, s_134_40, s_134_41, s_134_77]
  rw [pI_nI (by omega) (by omega), pI_nI (by omega) (by omega), pI_nI (by omega) (by omega), pI_nI (by omega) (by omega)]
  have e : ∀ f : Int32 → tH → Prop, AM 104 [.ref 13, .int (nI d), .int (nI i), .int (nI j), .int (nI k)] (t_I h 13 0 0) (t_ki f Q) = f (tY h d i j k) (t_I h 13 0 0) := fun f => by
    rw [n104 (by omega) (by omega) (by omega) (by omega), tY_13]
    rfl
  simp [h1, hi, hj, hk, zb, t_13_0, e]
theorem n134x {h : tH} {D : Nat} {x a b c : Int32} (hd : h.1 13 8 = nI D) (hD : D ≤ 6) (hh : pI x D = false ∨ ∃ d n, x = nI d ∧ d < D ∧ ty h d n ∧ (pI a n = false ∨ pI b n = false ∨ pI c n = false)) : rn 134 [.ref 13, .int x, .int a, .int b, .int c] h (RI 0) (t_I h 13 0 1) := by
  intro Q
  rw [am_134, s_134_0]
  rcases hh with h1 | ⟨d, n, rfl, h1, ht, hh⟩
  · simp only [t_ob_13, true_and, n101 hd (show D < 1000 by omega), t_ki, s_134_40, s_134_41, s_134_77, h1]
    simp [zb, t_13_0]
  · simp only [t_ob_13, true_and, n101 hd (show D < 1000 by omega), n102 ht, t_ki, s_134_40, s_134_41, s_134_77]
    rcases hh with h8 | h8 | h8 <;> simp only [h8, zb_0] <;> simp [t_13_0] <;> (repeat' split) <;> rfl
theorem op_sign {h : tH} (hI : IV h) (x a b c : Int32) : opI h 184 [.ref 0, .int x, .int a, .int b, .int c, .ref 32] 134 [.ref 13, .int x, .int a, .int b, .int c] := by
  obtain ⟨D, h1, h2, h3, h4⟩ := IV_D hI
  by_cases hx : pI x D = true
  · obtain ⟨d, hd, rfl⟩ := (pI_iff (by omega)).mp hx
    obtain ⟨n, hn⟩ := h4 d hd
    obtain ⟨t1, t2⟩ := DV_t (by omega) hn
    have h7 := t1.2.2
    have ff : (pI a n = false ∨ pI b n = false ∨ pI c n = false) → opI h 184 [.ref 0, .int (nI d), .int a, .int b, .int c, .ref 32] 134 [.ref 13, .int (nI d), .int a, .int b, .int c] := fun hh =>
      opI_f hI (k := 1) (by decide) (by decide) (r_184_e2 (c83x h1 h3 (Or.inr ⟨d, n, rfl, hd, t1, hh⟩))) (n134x (h := t_X h) h2 h3 (Or.inr ⟨d, n, rfl, hd, t2, hh⟩))
    by_cases ha : pI a n = true
    · by_cases hb : pI b n = true
      · by_cases hc : pI c n = true
        · obtain ⟨i, hi, rfl⟩ := (pI_iff (by omega)).mp ha
          obtain ⟨j, hj, rfl⟩ := (pI_iff (by omega)).mp hb
          obtain ⟨k, hk, rfl⟩ := (pI_iff (by omega)).mp hc
          have e := n134 (h := t_L h 32 0 (tX h (70 + d) i j k).toInt64) h2 h3 hd t2 hi hj hk
          rw [tY_L, ← hn.2.2.2.2.1] at e
          exact opI_s hI (r_184 (c83 h1 h3 hd t1 hi hj hk)) e (fr_t (fr_L h 32 0 _) fr_13) rfl rfl
        · exact ff (Or.inr (Or.inr (by simpa using hc)))
      · exact ff (Or.inr (Or.inl (by simpa using hb)))
    · exact ff (Or.inl (by simpa using ha))
  · exact opI_f hI (k := 1) (by decide) (by decide) (r_184_e2 (c83x h1 h3 (Or.inl (by simpa using hx)))) (n134x (h := t_X h) h2 h3 (Or.inl (by simpa using hx)))
