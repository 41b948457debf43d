/-! ===== questions that only read ===== -/
abbrev RI (v : Int32) : tO := .inl (some (.int v))
theorem t_13_ne {h : tH} {k i j : Nat} {x : Int32} (hk : k ≠ 13) : (t_I h 13 j x).1 k i = h.1 k i := by rw [t_I_ne hk]
theorem t_13_0 {h : tH} {x : Int32} : (t_I h 13 0 x).1 13 0 = x := rfl
theorem t_13_i {h : tH} {x : Int32} {i : Nat} (hi : i ≠ 0) : (t_I h 13 0 x).1 13 i = h.1 13 i := by rw [t_I_at, if_neg fun z => hi z.2]
theorem tY_13 {h : tH} {x : Int32} {d : Nat} : tY (t_I h 13 0 x) d = tY h d := tY_o fun c _ => t_13_ne (by decide)
theorem ty_13 {h : tH} {x : Int32} {d n : Nat} (t : ty h d n) : ty (t_I h 13 0 x) d n := ⟨t.1, (t_13_ne (by decide)).trans t.2.1, t.2.2⟩
theorem fr_13 {h : tH} {x : Int32} : fr h (t_I h 13 0 x) := fr_I (by decide)
theorem tY_L {h : tH} {k i d : Nat} {x : Int64} : tY (t_L h k i x) d = tY h d := rfl
theorem tX_L {h : tH} {k i d : Nat} {x : Int64} : tX (t_L h k i x) d = tX h d := rfl
theorem tY_X {h : tH} {d : Nat} : tY (t_X h) d = tY h d := rfl
def opI (h : tH) (mi : Nat) (as : List Value) (mm : Nat) (bs : List Value) : Prop := ∃ (k : Nat) (h1 h2 : tH) (v : Int32), k ≤ 2 ∧ rn mi as h (RI (nI k)) h1 ∧ rn mm bs h1 (RI v) h2 ∧ IV h2 ∧ h2.1 13 0 = nI k ∧ (k = 0 → h2.2.1 32 0 = v.toInt64)
def opB (h : tH) (mi : Nat) (as : List Value) (mm : Nat) (bs : List Value) : Prop := ∃ (k : Nat) (h1 h2 : tH) (b : Bool), k ≤ 2 ∧ rn mi as h (RI (nI k)) h1 ∧ rn mm bs h1 (RI (zb b)) h2 ∧ IV h2 ∧ h2.1 13 0 = nI k ∧ (k = 0 → h2.2.1 32 0 = i64b b)
def opL (h : tH) (mi : Nat) (as : List Value) (mm : Nat) (bs : List Value) : Prop := ∃ (k : Nat) (h1 h2 : tH) (v : Int64), k ≤ 2 ∧ rn mi as h (RI (nI k)) h1 ∧ rn mm bs h1 (.inl (some (.long v))) h2 ∧ IV h2 ∧ h2.1 13 0 = nI k ∧ (k = 0 → h2.2.1 32 0 = v)
def opV (h : tH) (mi : Nat) (as : List Value) (mm : Nat) (bs : List Value) : Prop := ∃ (k : Nat) (h1 h2 : tH), k ≤ 2 ∧ rn mi as h (RI (nI k)) h1 ∧ rn mm bs h1 (.inl none) h2 ∧ IV h2 ∧ h2.1 13 0 = nI k
def op0 (h : tH) (mi : Nat) (as : List Value) (mm : Nat) (bs : List Value) : Prop := ∃ (h1 h2 : tH) (v : Int32), rn mi as h (RI v) h1 ∧ rn mm bs h1 (RI v) h2 ∧ IV h2
theorem opI_f {h : tH} (hI : IV h) {mi mm k : Nat} {as bs : List Value} (hk : k ≤ 2) (hk0 : k ≠ 0) (a : rn mi as h (RI (nI k)) (t_X h)) (b : rn mm bs (t_X h) (RI 0) (t_I (t_X h) 13 0 (nI k))) : opI h mi as mm bs :=
  ⟨k, _, _, 0, hk, a, b, IV_fr (fr_t (fr_X h) fr_13) hI, rfl, fun z => absurd z hk0⟩
theorem opB_f {h : tH} (hI : IV h) {mi mm k : Nat} {as bs : List Value} (hk : k ≤ 2) (hk0 : k ≠ 0) (a : rn mi as h (RI (nI k)) (t_X h)) (b : rn mm bs (t_X h) (RI 0) (t_I (t_X h) 13 0 (nI k))) : opB h mi as mm bs :=
  ⟨k, _, _, false, hk, a, b, IV_fr (fr_t (fr_X h) fr_13) hI, rfl, fun z => absurd z hk0⟩
/-- a question well asked, whose work leaves all that counts -/
theorem opI_s {h h' h'' : tH} (hI : IV h) {mi mm : Nat} {as bs : List Value} {v : Int32} (a : rn mi as h (RI 0) (t_L h' 32 0 v.toInt64)) (b : rn mm bs (t_L h' 32 0 v.toInt64) (RI v) h'') (f : fr h h'') (e : h''.1 13 0 = 0) (o : h''.2.1 32 0 = v.toInt64) : opI h mi as mm bs :=
  ⟨0, _, _, v, by decide, a, b, IV_fr f hI, e, fun _ => o⟩
theorem opB_s {h h' h'' : tH} (hI : IV h) {mi mm : Nat} {as bs : List Value} {v : Bool} (a : rn mi as h (RI 0) (t_L h' 32 0 (i64b v))) (b : rn mm bs (t_L h' 32 0 (i64b v)) (RI (zb v)) h'') (f : fr h h'') (e : h''.1 13 0 = 0) (o : h''.2.1 32 0 = i64b v) : opB h mi as mm bs :=
  ⟨0, _, _, v, by decide, a, b, IV_fr f hI, e, fun _ => o⟩
theorem t_L_at {h : tH} {x : Int64} : (t_L h 32 0 x).2.1 32 0 = x := rfl
theorem IV_D {h : tH} (hI : IV h) : ∃ D, h.1 0 3 = nI D ∧ h.1 13 8 = nI D ∧ D ≤ 6 ∧ ∀ d, d < D → ∃ n, DV h d n := by
  obtain ⟨D, s, w, h1, h2, h3, -, -, h4, -⟩ := hI
  exact ⟨D, h1, h2, h3, h4⟩
theorem DV_t {h : tH} {d n : Nat} (hd : d < 6) (v : DV h d n) : tn h (70 + d) n ∧ ty h d n := ⟨⟨o70 hd, v.2.2.1, v.2.1⟩, ⟨by omega, v.2.2.2.1, v.2.1⟩⟩
theorem zb_1z {X : Prop} : (((1 : Int32) = 0 ∨ (1 : Int32) = 1) ∧ X) = X := propext ⟨fun x => x.2, fun x => ⟨Or.inr rfl, x⟩⟩
theorem zb_0z {X : Prop} : (((0 : Int32) = 0 ∨ (0 : Int32) = 1) ∧ X) = X := propext ⟨fun x => x.2, fun x => ⟨Or.inl rfl, x⟩⟩
/-! points -/
theorem c80 {h : tH} {D d n : Nat} (hd : h.1 0 3 = nI D) (hD : D ≤ 6) (h1 : d < D) (hn : h.1 (70 + d) 1 = nI n) : rn 80 [.ref 0, .int (nI d)] h (RI (nI n)) h := by
  intro Q
  rw [am_80, s_80_0, c75 hd hD h1]
  simp only [t_ob_0', true_and, t_kq_r, va_rf_s, s_80_5, e30, o40 (show d < 6 by omega), o70 (show d < 6 by omega), hn]
theorem c80x {h : tH} {D : Nat} {x : Int32} (hd : h.1 0 3 = nI D) (hD : D ≤ 6) (h1 : pI x D = false) : rn 80 [.ref 0, .int x] h (.inr 2) (t_X h) := by
  intro Q
  rw [am_80, s_80_0, c75x hd hD h1]
  simp only [t_ob_0', true_and, t_kq_E]
/-! whether it has numbers -/
theorem c81 {h : tH} {D d : Nat} {b : Bool} (hd : h.1 0 3 = nI D) (hD : D ≤ 6) (h1 : d < D) (hn : h.1 (40 + d) 3 = zb b) : rn 81 [.ref 0, .int (nI d)] h (RI (zb b)) h := by
  intro Q
  rw [am_81, s_81_0, c75 hd hD h1]
  simp only [t_ob_0', true_and, t_kq_r, va_rf_s, s_81_5, o40 (show d < 6 by omega), hn, zb_z]
theorem c81x {h : tH} {D : Nat} {x : Int32} (hd : h.1 0 3 = nI D) (hD : D ≤ 6) (h1 : pI x D = false) : rn 81 [.ref 0, .int x] h (.inr 2) (t_X h) := by
  intro Q
  rw [am_81, s_81_0, c75x hd hD h1]
  simp only [t_ob_0', true_and, t_kq_E]
theorem c76f {h : tH} {d n : Nat} (hd : d < 6) (hn : tn h (70 + d) n) {y : Int32} {f : tH → Prop} {Q : tO → tH → Prop} : AM 76 [.ref (40 + d), .int y] h (t_kv f Q) = (if pI y n = true then f h else Q (.inr 2) (t_X h)) := by
  have h7 := hn.2.2
  by_cases hy : pI y n = true
  · obtain ⟨p, hp, rfl⟩ := (pI_iff (by omega)).mp hy
    rw [c76 hd hn.2.1 h7 hp, if_pos hy]
    rfl
  · rw [c76x hd hn.2.1 (by simpa using hy), if_neg hy]
    rfl
/-! a sign -/
theorem c83 {h : tH} {D d n i j k : Nat} (hd : h.1 0 3 = nI D) (hD : D ≤ 6) (h1 : d < D) (hn : tn h (70 + d) n) (hi : i < n) (hj : j < n) (hk : k < n) : rn 83 [.ref 0, .int (nI d), .int (nI i), .int (nI j), .int (nI k)] h (RI (tX h (70 + d) i j k)) h := by
  intro Q
  have h6 : d < 6 := by omega
  have h7 := hn.2.2
  rw [am_83, s_83_0, c75 hd hD h1]
  simp (disch := omega) only [t_ob_0', true_and, t_kq_r, va_rf_s, s_83_5, e30, o40 h6, o70 h6, c76 h6 hn.2.1 hn.2.2, t_kv, t_ki, m_of (o70 h6)]
theorem c83x {h : tH} {D : Nat} {x a b c : Int32} (hd : h.1 0 3 = nI D) (hD : D ≤ 6) (hh : pI x D = false ∨ ∃ d n, x = nI d ∧ d < D ∧ tn h (70 + d) n ∧ (pI a n = false ∨ pI b n = false ∨ pI c n = false)) : rn 83 [.ref 0, .int x, .int a, .int b, .int c] h (.inr 2) (t_X h) := by
  intro Q
  rw [am_83, s_83_0]
  rcases hh with h1 | ⟨d, n, rfl, h1, hn, hh⟩
  · rw [c75x hd hD h1]
    simp only [t_ob_0', true_and, t_kq_E]
  · have h6 : d < 6 := by omega
    rw [c75 hd hD h1]
    simp only [t_ob_0', true_and, t_kq_r, va_rf_s, s_83_5, c76f h6 hn]
    rcases hh with h8 | h8 | h8 <;> simp [h8] <;> intros <;> simp_all
