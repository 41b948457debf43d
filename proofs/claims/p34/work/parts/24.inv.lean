/-! ===== what holds between two calls ===== -/
def setC (χ : tC) (i j k : Nat) (x : Int32) : tC := fun a b c =>
  if a = j ∧ b = i ∧ c = k then -x else if a = k ∧ b = j ∧ c = i then -x else if a = i ∧ b = k ∧ c = j then -x else if a = k ∧ b = i ∧ c = j then x else if a = j ∧ b = k ∧ c = i then x else if a = i ∧ b = j ∧ c = k then x else χ a b c
theorem t_I_at {h : tH} {k i a b : Nat} {x : Int32} : (t_I h k i x).1 a b = if a = k ∧ b = i then x else h.1 a b := rfl
theorem z343_eq {a b c i j k : Nat} (ha : a < 7) (hb : b < 7) (hc : c < 7) (hi : i < 7) (hj : j < 7) (hk : k < 7) : (49 * a + 7 * b + c = 49 * i + 7 * j + k) = (a = i ∧ b = j ∧ c = k) := by
  refine propext ⟨fun h => ?_, fun ⟨h1, h2, h3⟩ => by rw [h1, h2, h3]⟩
  omega
theorem z2401_eq {d e a b c i j k : Nat} (ha : a < 7) (hb : b < 7) (hc : c < 7) (hi : i < 7) (hj : j < 7) (hk : k < 7) : (343 * e + 49 * a + 7 * b + c = 343 * d + 49 * i + 7 * j + k) = (e = d ∧ a = i ∧ b = j ∧ c = k) := by
  refine propext ⟨fun h => ?_, fun ⟨h0, h1, h2, h3⟩ => by rw [h0, h1, h2, h3]⟩
  omega
theorem tX_put {h : tH} {r i j k : Nat} {x : Int32} (hi : i < 7) (hj : j < 7) (hk : k < 7) : tX (hPut h (r + 10) i j k x) r = setC (tX h r) i j k x := by
  funext a b c
  unfold tX setC hPut
  by_cases h1 : a < 7 ∧ b < 7 ∧ c < 7
  · obtain ⟨ha, hb, hc⟩ := id h1
    simp only [if_pos h1, t_I_at, true_and, z343_eq ha hb hc hi hj hk, z343_eq ha hb hc hi hk hj, z343_eq ha hb hc hj hi hk, z343_eq ha hb hc hj hk hi, z343_eq ha hb hc hk hi hj, z343_eq ha hb hc hk hj hi]
  · simp only [if_neg h1]
    rw [if_neg (by omega), if_neg (by omega), if_neg (by omega), if_neg (by omega), if_neg (by omega), if_neg (by omega)]
theorem tX_o {h h' : tH} {r : Nat} (e : ∀ c, c < 343 → h'.1 (r + 10) c = h.1 (r + 10) c) : tX h' r = tX h r := by
  funext a b c
  unfold tX
  by_cases h1 : a < 7 ∧ b < 7 ∧ c < 7
  · rw [if_pos h1, if_pos h1, e _ (by omega)]
  · rw [if_neg h1, if_neg h1]
theorem tY_set {h : tH} {d i j k : Nat} {x : Int32} (hi : i < 7) (hj : j < 7) (hk : k < 7) : tY (hSet h d i j k x) d = setC (tY h d) i j k x := by
  funext a b c
  unfold tY setC hSet
  by_cases h1 : a < 7 ∧ b < 7 ∧ c < 7
  · obtain ⟨ha, hb, hc⟩ := id h1
    simp only [if_pos h1, t_I_at, true_and, z2401_eq ha hb hc hi hj hk, z2401_eq ha hb hc hi hk hj, z2401_eq ha hb hc hj hi hk, z2401_eq ha hb hc hj hk hi, z2401_eq ha hb hc hk hi hj, z2401_eq ha hb hc hk hj hi]
  · simp only [if_neg h1]
    rw [if_neg (by omega), if_neg (by omega), if_neg (by omega), if_neg (by omega), if_neg (by omega), if_neg (by omega)]
theorem hSet_o {h : tH} {d e i j k : Nat} {x : Int32} (hi : i < 7) (hj : j < 7) (hk : k < 7) (hde : e ≠ d) {c : Nat} (hc : c < 343) : (hSet h d i j k x).1 20 (343 * e + c) = h.1 20 (343 * e + c) := by
  unfold hSet
  simp only [t_I_at, true_and]
  rw [if_neg (by omega), if_neg (by omega), if_neg (by omega), if_neg (by omega), if_neg (by omega), if_neg (by omega)]
theorem hSet_k {h : tH} {d i j k a : Nat} {x : Int32} (ha : a ≠ 20) (b : Nat) : (hSet h d i j k x).1 a b = h.1 a b := by
  unfold hSet
  simp only [t_I_o ha]
theorem tY_o {h h' : tH} {d : Nat} (e : ∀ c, c < 343 → h'.1 20 (343 * d + c) = h.1 20 (343 * d + c)) : tY h' d = tY h d := by
  funext a b c
  unfold tY
  by_cases h1 : a < 7 ∧ b < 7 ∧ c < 7
  · rw [if_pos h1, if_pos h1, show 343 * d + 49 * a + 7 * b + c = 343 * d + (49 * a + 7 * b + c) by omega, e _ (by omega)]
  · rw [if_neg h1, if_neg h1]
/-- signs of n points: in all orders, 1 or -1 for three unlike points of them, else 0 -/
def WS (χ : tC) (n : Nat) : Prop := ∀ i j k, i < 7 → j < 7 → k < 7 → χ j k i = χ i j k ∧ χ j i k = -χ i j k ∧ (if i < n ∧ j < n ∧ k < n ∧ i ≠ j ∧ j ≠ k ∧ i ≠ k then χ i j k = 1 ∨ χ i j k = -1 else χ i j k = 0)
/-- cells that are only worked with during a call -/
def sc (k i : Nat) : Bool := decide (k = 9 ∨ k = 10 ∨ k = 11 ∨ k = 12 ∨ k = 76 ∨ k = 86 ∨ (k = 13 ∧ i = 0) ∨ (k = 20 ∧ 2058 ≤ i) ∨ (k = 19 ∧ i = 6) ∨ (26 ≤ k ∧ k ≤ 32) ∨ k = 6 ∨ k = 7 ∨ k = 17 ∨ k = 18)
def fr (h h' : tH) : Prop := ∀ k i, sc k i = false → h'.1 k i = h.1 k i
theorem fr_r (h : tH) : fr h h := fun _ _ _ => rfl
theorem fr_t {h1 h2 h3 : tH} (a : fr h1 h2) (b : fr h2 h3) : fr h1 h3 := fun k i c => (b k i c).trans (a k i c)
theorem fr_X (h : tH) : fr h (t_X h) := fun _ _ _ => rfl
theorem fr_N (h : tH) (x : Option Nat) : fr h (t_N h x) := fun _ _ _ => rfl
theorem fr_L (h : tH) (k i : Nat) (x : Int64) : fr h (t_L h k i x) := fun _ _ _ => rfl
theorem fr_I {h : tH} {k i : Nat} {x : Int32} (e : sc k i = true) : fr h (t_I h k i x) := by
  intro a b c
  rw [t_I_at, if_neg]
  rintro ⟨rfl, rfl⟩
  rw [e] at c
  cases c
/-- the bit of a segment -/
def sx (i j : Nat) : Nat := if i < j then j * (j - 1) / 2 + i else i * (i - 1) / 2 + j
/-- the edges of a drawing, in both -/
def TV (h : tH) (d n : Nat) : Prop := (∀ i j, i < n → j < n → h.1 25 (49 * d + 7 * i + j) = zb (!decide (i = j) && bt (h.1 (40 + d) 4) (sx i j))) ∧
  (∀ i j k l, i < n → j < n → k < n → l < n → i ≠ j → k ≠ l → bt (h.1 (40 + d) 4) (sx i j) = true → bt (h.1 (40 + d) 4) (sx k l) = true → qcross (tX h (70 + d)) i j k l = false)
def DV (h : tH) (d n : Nat) : Prop := 3 ≤ n ∧ n ≤ 7 ∧ h.1 (70 + d) 1 = nI n ∧ h.1 19 d = nI n ∧ tX h (70 + d) = tY h d ∧ WS (tX h (70 + d)) n ∧ qhold (tX h (70 + d)) n = true ∧
  (∃ b, h.1 (40 + d) 3 = zb b ∧ h.1 21 d = zb b) ∧ (∃ b, h.1 (40 + d) 5 = zb b ∧ h.1 24 d = zb b ∧ (b = true → TV h d n))
/-- the turn of three places -/
def tu (x y x' y' x'' y'' : Int32) : Int32 := (x' - x) * (y'' - y) - (x'' - x) * (y' - y)
/-- a number of a place -/
def rg (x : Int32) : Prop := -1000 ≤ x ∧ x ≤ 1000
def SV (h : tH) (s : Nat) : Prop := h.1 1 2 = nI s ∧ h.1 13 1 = nI s ∧ s ≤ 7 ∧ (∀ p, p < s → h.1 14 p = h.1 2 p ∧ h.1 15 p = h.1 3 p ∧ rg (h.1 2 p) ∧ rg (h.1 3 p)) ∧
  (∀ i j k, i < j → j < k → k < s → tu (h.1 2 i) (h.1 3 i) (h.1 2 j) (h.1 3 j) (h.1 2 k) (h.1 3 k) ≠ 0)
def WV (h : tH) (w : Nat) : Prop := h.1 4 3 = nI w ∧ h.1 13 4 = nI w ∧ w ≤ 21 ∧ (∀ p, p < w → h.1 16 p = h.1 5 p ∧ ∃ l, l ≤ 5 ∧ h.1 5 p = nI l)
def FV (h : tH) (d : Nat) : Prop := (∀ c, c < 343 → h.1 (80 + d) c = 0) ∧ h.1 (40 + d) 3 = 0 ∧ h.1 (40 + d) 5 = 0
def AV (h : tH) (D : Nat) : Prop := (∀ d, d < D → ∃ n, DV h d n) ∧ (∀ d, D ≤ d → d < 6 → FV h d) ∧ (∀ d p, d < 6 → p < 7 → h.1 22 (7 * d + p) = h.1 (50 + d) p ∧ h.1 23 (7 * d + p) = h.1 (60 + d) p)
def IV (h : tH) : Prop := ∃ D s w, h.1 0 3 = nI D ∧ h.1 13 8 = nI D ∧ D ≤ 6 ∧ SV h s ∧ WV h w ∧ AV h D
/-- cells of drawings stay -/
def frA (h h' : tH) : Prop := ∀ k i, 19 ≤ k → sc k i = false → h'.1 k i = h.1 k i
def frS (h h' : tH) : Prop := ∀ k i, k = 1 ∧ i = 2 ∨ k = 13 ∧ i = 1 ∨ k = 14 ∨ k = 15 ∨ k = 2 ∨ k = 3 → h'.1 k i = h.1 k i
def frW (h h' : tH) : Prop := ∀ k i, k = 4 ∧ i = 3 ∨ k = 13 ∧ i = 4 ∨ k = 16 ∨ k = 5 → h'.1 k i = h.1 k i
theorem sc_f {k i : Nat} (h : ¬ (k = 9 ∨ k = 10 ∨ k = 11 ∨ k = 12 ∨ k = 76 ∨ k = 86 ∨ (k = 13 ∧ i = 0) ∨ (k = 20 ∧ 2058 ≤ i) ∨ (k = 19 ∧ i = 6) ∨ (26 ≤ k ∧ k ≤ 32) ∨ k = 6 ∨ k = 7 ∨ k = 17 ∨ k = 18)) : sc k i = false := decide_eq_false h
theorem fr_at {h h' : tH} (f : fr h h') {k i : Nat} (e : ¬ (k = 9 ∨ k = 10 ∨ k = 11 ∨ k = 12 ∨ k = 76 ∨ k = 86 ∨ (k = 13 ∧ i = 0) ∨ (k = 20 ∧ 2058 ≤ i) ∨ (k = 19 ∧ i = 6) ∨ (26 ≤ k ∧ k ≤ 32) ∨ k = 6 ∨ k = 7 ∨ k = 17 ∨ k = 18)) : h'.1 k i = h.1 k i := f k i (sc_f e)
theorem frA_at {h h' : tH} (f : frA h h') {k i : Nat} (e : 19 ≤ k ∧ ¬ (k = 76 ∨ k = 86 ∨ (k = 20 ∧ 2058 ≤ i) ∨ (k = 19 ∧ i = 6) ∨ (26 ≤ k ∧ k ≤ 32))) : h'.1 k i = h.1 k i := f k i e.1 (sc_f (by omega))
theorem frA_of {h h' : tH} (f : fr h h') : frA h h' := fun k i _ e => f k i e
theorem frS_of {h h' : tH} (f : fr h h') : frS h h' := fun _ _ e => fr_at f (by omega)
theorem frW_of {h h' : tH} (f : fr h h') : frW h h' := fun _ _ e => fr_at f (by omega)
theorem frA_tX {h h' : tH} (f : frA h h') {d : Nat} (hd : d < 6) : tX h' (70 + d) = tX h (70 + d) := tX_o fun c hc => frA_at f (by omega)
theorem frA_tY {h h' : tH} (f : frA h h') {d : Nat} (hd : d < 6) : tY h' d = tY h d := tY_o fun c hc => frA_at f (by omega)
/-- cells of one drawing -/
def frD (d : Nat) (h h' : tH) : Prop := ∀ k i, (k = 70 + d ∧ i = 1 ∨ k = 19 ∧ i = d ∨ k = 80 + d ∨ (k = 20 ∧ 343 * d ≤ i ∧ i < 343 * d + 343) ∨ k = 40 + d ∨ k = 21 ∧ i = d ∨ k = 24 ∧ i = d ∨ (k = 25 ∧ 49 * d ≤ i ∧ i < 49 * d + 49)) → h'.1 k i = h.1 k i
theorem frD_of {h h' : tH} (f : frA h h') {d : Nat} (hd : d < 6) : frD d h h' := fun k i e => frA_at f (by omega)
theorem DV_fr {h h' : tH} {d n : Nat} (f : frD d h h') (v : DV h d n) : DV h' d n := by
  obtain ⟨h1, h2, h3, h4, h5, h6, h7, ⟨b, h8, h9⟩, ⟨b', h10, h11, h12⟩⟩ := v
  have ex : tX h' (70 + d) = tX h (70 + d) := tX_o fun c hc => f _ _ (by omega)
  have ey : tY h' d = tY h d := tY_o fun c hc => f _ _ (by omega)
  refine ⟨h1, h2, ?_, ?_, ?_, ?_, ?_, ⟨b, ?_, ?_⟩, ⟨b', ?_, ?_, fun hb => ?_⟩⟩
  · rw [f _ _ (by omega), h3]
  · rw [f _ _ (by omega), h4]
  · rw [ex, ey, h5]
  · rw [ex]; exact h6
  · rw [ex]; exact h7
  · rw [f _ _ (by omega), h8]
  · rw [f _ _ (by omega), h9]
  · rw [f _ _ (by omega), h10]
  · rw [f _ _ (by omega), h11]
  · unfold TV
    rw [ex, f (40 + d) 4 (by omega)]
    refine ⟨fun i j hi hj => ?_, (h12 hb).2⟩
    rw [f _ _ (by omega)]
    exact (h12 hb).1 i j hi hj
theorem AV_fr {h h' : tH} (f : frA h h') {D : Nat} (hD : D ≤ 6) (v : AV h D) : AV h' D := by
  obtain ⟨h4, h5, h6⟩ := v
  refine ⟨fun d hd => ?_, fun d hd hd6 => ⟨fun c hc => ?_, ?_, ?_⟩, fun d p hd hp => ⟨?_, ?_⟩⟩
  · obtain ⟨n, hn⟩ := h4 d hd
    exact ⟨n, DV_fr (frD_of f (by omega)) hn⟩
  · rw [frA_at f (by omega)]; exact (h5 d hd hd6).1 c hc
  · rw [frA_at f (by omega)]; exact (h5 d hd hd6).2.1
  · rw [frA_at f (by omega)]; exact (h5 d hd hd6).2.2
  · rw [frA_at f (by omega), frA_at f (k := 50 + d) (by omega)]; exact (h6 d p hd hp).1
  · rw [frA_at f (by omega), frA_at f (k := 60 + d) (by omega)]; exact (h6 d p hd hp).2
theorem SV_fr {h h' : tH} (f : frS h h') {s : Nat} (v : SV h s) : SV h' s := by
  obtain ⟨s1, s2, s3, s4, s5⟩ := v
  refine ⟨?_, ?_, s3, fun p hp => ?_, fun i j k a b c => ?_⟩
  · rw [f _ _ (by omega), s1]
  · rw [f _ _ (by omega), s2]
  · rw [f 14 _ (by omega), f 2 _ (by omega), f 15 _ (by omega), f 3 _ (by omega)]
    exact s4 p hp
  · rw [f 2 i (by omega), f 3 i (by omega), f 2 j (by omega), f 3 j (by omega), f 2 k (by omega), f 3 k (by omega)]
    exact s5 i j k a b c
theorem WV_fr {h h' : tH} (f : frW h h') {w : Nat} (v : WV h w) : WV h' w := by
  obtain ⟨w1, w2, w3, w4⟩ := v
  refine ⟨?_, ?_, w3, fun p hp => ?_⟩
  · rw [f _ _ (by omega), w1]
  · rw [f _ _ (by omega), w2]
  · rw [f 16 _ (by omega), f 5 _ (by omega)]
    exact w4 p hp
theorem IV_fr {h h' : tH} (f : fr h h') (v : IV h) : IV h' := by
  obtain ⟨D, s, w, h1, h2, h3, hs, hw, ha⟩ := v
  refine ⟨D, s, w, ?_, ?_, h3, SV_fr (frS_of f) hs, WV_fr (frW_of f) hw, AV_fr (frA_of f) h3 ha⟩
  · rw [fr_at f (by omega), h1]
  · rw [fr_at f (by omega), h2]
theorem o40 {d : Nat} (hd : d < 6) : t_ob (40 + d) = some 5 := by
  have hh : ∀ d, d < 6 → t_ob (40 + d) = some 5 := by decide +kernel
  exact hh d hd
theorem o70 {d : Nat} (hd : d < 6) : t_ob (70 + d) = some 6 := by
  have hh : ∀ d, d < 6 → t_ob (70 + d) = some 6 := by decide +kernel
  exact hh d hd
theorem a50 {d : Nat} (hd : d < 6) : t_ar (50 + d) = some (0, 7) := by
  have hh : ∀ d, d < 6 → t_ar (50 + d) = some (0, 7) := by decide +kernel
  exact hh d hd
theorem a60 {d : Nat} (hd : d < 6) : t_ar (60 + d) = some (0, 7) := by
  have hh : ∀ d, d < 6 → t_ar (60 + d) = some (0, 7) := by decide +kernel
  exact hh d hd
theorem e30 (d : Nat) : 40 + d + 30 = 70 + d := by omega
theorem e10 (d : Nat) : 40 + d + 10 = 50 + d := by omega
theorem e20 (d : Nat) : 40 + d + 20 = 60 + d := by omega
theorem t_kq_r {f : Option Nat → tH → Prop} {Q : tO → tH → Prop} {r : Nat} {h : tH} : t_kq f Q (.inl (some (.ref r))) h = f (some r) h := rfl
theorem t_kq_n {f : Option Nat → tH → Prop} {Q : tO → tH → Prop} {h : tH} : t_kq f Q (.inl (some .null)) h = f none h := rfl
theorem t_kq_E {f : Option Nat → tH → Prop} {Q : tO → tH → Prop} {E : Nat} {h : tH} : t_kq f Q (.inr E) h = Q (.inr E) h := rfl
theorem t_ki_E {f : Int32 → tH → Prop} {Q : tO → tH → Prop} {E : Nat} {h : tH} : t_ki f Q (.inr E) h = Q (.inr E) h := rfl
theorem t_kv_E {f : tH → Prop} {Q : tO → tH → Prop} {E : Nat} {h : tH} : t_kv f Q (.inr E) h = Q (.inr E) h := rfl
theorem va_rf_s (k : Nat) : va_rf (some k) = .ref k := rfl
theorem va_rf_n : va_rf none = .null := rfl
theorem t_ob_0' : t_ob 0 = some 0 := rfl
/-- the drawing of a number -/
theorem c75 {h : tH} {D : Nat} (hd : h.1 0 3 = nI D) (hD : D ≤ 6) {d : Nat} (h1 : d < D) (Q : tO → tH → Prop) : AM 75 [.ref 0, .int (nI d)] h Q = Q (.inl (some (.ref (40 + d)))) h := by
  rw [am_75, s_75_0, hd]
  simp (disch := omega) only [t_ob_0', true_and, nI_le', am_74, s_74_0, nC, vI, s_74_23, s_75_13, s_75_17, t_kq_r, va_rf_s]
  have h6 : (Int32.ofNat 6 ≤ nI d) = (6 ≤ d) := nI_le' (a := 6) (b := d) (by omega) (by omega)
  rw [if_neg (by omega), if_neg (nI_pos (by omega)), if_neg (by rw [h6]; omega)]
theorem c75x {h : tH} {D : Nat} (hd : h.1 0 3 = nI D) (hD : D ≤ 6) {x : Int32} (h1 : pI x D = false) (Q : tO → tH → Prop) : AM 75 [.ref 0, .int x] h Q = Q (.inr 2) (t_X h) := by
  rw [am_75, s_75_0, hd]
  simp only [t_ob_0', true_and, am_74, s_74_0, s_74_22, s_74_23n, s_75_13n, s_75_17n, t_kq_n, va_rf_n]
  rcases pI_f h1 with h2 | h2
  · split
    · rfl
    · rfl
  · rw [if_pos h2]
theorem c76 {h : tH} {d n p : Nat} (hd : d < 6) (hc : h.1 (70 + d) 1 = nI n) (hn : n ≤ 7) (h1 : p < n) (Q : tO → tH → Prop) : AM 76 [.ref (40 + d), .int (nI p)] h Q = Q (.inl none) h := by
  rw [am_76, s_76_0, e30, hc, o40 hd, o70 hd]
  simp (disch := omega) only [true_and, nI_lt']
  rw [if_neg (nI_pos (by omega)), if_pos h1]
theorem c76x {h : tH} {d n : Nat} {x : Int32} (hd : d < 6) (hc : h.1 (70 + d) 1 = nI n) (h1 : pI x n = false) (Q : tO → tH → Prop) : AM 76 [.ref (40 + d), .int x] h Q = Q (.inr 2) (t_X h) := by
  rw [am_76, s_76_0, e30, hc, o40 hd, o70 hd]
  simp only [true_and, s_76_15]
  rcases pI_f h1 with h2 | h2
  · rw [if_pos h2]
  · have h3 : ¬ x < nI n := Int32.not_lt.mpr h2
    split
    · rfl
    · rfl
