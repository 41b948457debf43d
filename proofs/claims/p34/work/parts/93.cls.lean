/-! ===== the calls that the law makes, on drawing 0 ===== -/
/-- drawing 0, as a call finds it -/
def GH (h : tH) (D n : Nat) (χ : tC) : Prop := h.1 0 3 = nI D ∧ 1 ≤ D ∧ D ≤ 6 ∧ h.1 70 1 = nI n ∧ tX h 70 = χ ∧ 3 ≤ n ∧ n ≤ 7 ∧ WS χ n ∧ qhold χ n = true
theorem GH_tn {h : tH} {D n : Nat} {χ : tC} (G : GH h D n χ) : tn h 70 n := ⟨rfl, G.2.2.2.1, G.2.2.2.2.2.2.1⟩
/-- what a question may touch -/
def kq (h g : tH) : Prop := (∀ k i, k ≠ 9 → k ≠ 10 → k ≠ 80 → g.1 k i = h.1 k i) ∧ tX g 70 = tX h 70 ∧ g.2 = h.2
theorem kq_r (h : tH) : kq h h := ⟨fun _ _ _ _ _ => rfl, rfl, rfl⟩
theorem kq_t {a b c : tH} (x : kq a b) (y : kq b c) : kq a c := ⟨fun k i e1 e2 e3 => (y.1 k i e1 e2 e3).trans (x.1 k i e1 e2 e3), y.2.1.trans x.2.1, y.2.2.trans x.2.2⟩
theorem GH_kq {h g : tH} {D n : Nat} {χ : tC} (G : GH h D n χ) (k : kq h g) : GH g D n χ := by
  obtain ⟨g1, g2, g3, g4, g5, g6⟩ := G
  exact ⟨by rw [k.1 _ _ (by decide) (by decide) (by decide)]; exact g1, g2, g3, by rw [k.1 _ _ (by decide) (by decide) (by decide)]; exact g4, by rw [k.2.1]; exact g5, g6⟩
theorem kq_hR {h : tH} {χ : tC} {n : Nat} : kq h (hR h χ n) := ⟨fun k i e1 e2 _ => hR_o ⟨e1, e2⟩, tX_o fun c _ => hR_o (by decide), hR_2⟩
theorem k83 {h : tH} {D n i j k : Nat} {χ : tC} (G : GH h D n χ) (hi : i < n) (hj : j < n) (hk : k < n) (Q : tO → tH → Prop) : AM 83 [.ref 0, .int 0, .int (nI i), .int (nI j), .int (nI k)] h Q = Q (RI (χ i j k)) h := by
  have t := c83 (d := 0) G.1 G.2.2.1 (by have := G.2.1; omega) (GH_tn G) hi hj hk Q
  rw [show tX h (70 + 0) = χ from G.2.2.2.2.1] at t
  exact t
theorem k85 {h : tH} {D n : Nat} {y : Int32} {χ : tC} (G : GH h D n χ) (Q : tO → tH → Prop) : AM 85 [.ref 0, .int 0, .int y] h Q = (if y < 0 then Q (.inr 2) (t_X h) else if y < nI (pc (hset χ n)) then Q (RI (nI (hres χ n y.toNatClampNeg))) h else Q (RI (-1)) h) :=
  c85 (d := 0) G.1 G.2.2.1 (by have := G.2.1; omega) (GH_tn G) G.2.2.2.2.1 G.2.2.2.2.2.2.2.1 G.2.2.2.2.2.1 G.2.2.2.2.2.2.2.2 Q
theorem k86 {h : tH} {D n p : Nat} {χ : tC} (G : GH h D n χ) (hp : p < n) (Q : tO → tH → Prop) : AM 86 [.ref 0, .int 0, .int (nI p)] h Q = Q (RI (nI (lay χ n p 7 (one n - 1)))) h :=
  c86 (d := 0) G.1 G.2.2.1 (by have := G.2.1; omega) (GH_tn G) G.2.2.2.2.1 hp Q
theorem k87 {h : tH} {D n i j k l : Nat} {χ : tC} (G : GH h D n χ) (hi : i < n) (hj : j < n) (hk : k < n) (hl : l < n) (q1 : i ≠ j) (q2 : i ≠ k) (q3 : i ≠ l) (q4 : j ≠ k) (q5 : j ≠ l) (q6 : k ≠ l) (Q : tO → tH → Prop) : AM 87 [.ref 0, .int 0, .int (nI i), .int (nI j), .int (nI k), .int (nI l)] h Q = Q (RI (zb (qcross χ i j k l))) h := by
  have h7 := G.2.2.2.2.2.2.1
  have o := o40 (d := 0) (by decide)
  have o' := o70 (d := 0) (by decide)
  have pp : ∀ x, x < n → pI (nI x) n = true := fun x hx => by rw [pI_nI (by omega) (by omega)]; simpa using hx
  have e : qcross χ i j k l = pparts (tX h (70 + 0)) i j k l := by
    rw [show tX h (70 + 0) = χ from G.2.2.2.2.1]
    unfold qcross
    simp [q1, q2, q3, q4, q5, q6]
  rw [show (0 : Int32) = nI 0 from rfl, am_87, s_87_0, c75 (d := 0) G.1 G.2.2.1 (by have := G.2.1; omega)]
  simp (disch := omega) only [t_ob_0', true_and, t_kq_r, va_rf_s, s_87_5, c76f (d := 0) (by decide) (GH_tn G), pp, hi, hj, hk, hl, if_true, o, e30, o', m_parts o', t_ki, zb_z, nI_eq']
  rw [if_neg q1, if_neg q2, if_neg q3, if_neg q4, if_neg q5, if_pos q6, e]
theorem k88 {h : tH} {D n : Nat} {χ : tC} (G : GH h D n χ) (Q : tO → tH → Prop) : AM 88 [.ref 0, .int 0] h Q = Q (RI (nI (crs χ n))) (hR h χ n) := by
  have t := c88 (d := 0) G.1 G.2.2.1 (by have := G.2.1; omega) (GH_tn G) G.2.2.2.2.2.1 (by rw [show tX h (70 + 0) = χ from G.2.2.2.2.1]; exact G.2.2.2.2.2.2.2.1) Q
  rw [show tX h (70 + 0) = χ from G.2.2.2.2.1] at t
  exact t
theorem k89 {h : tH} {D n : Nat} {χ : tC} (G : GH h D n χ) (Q : tO → tH → Prop) : AM 89 [.ref 0, .int 0] h Q = Q (RI (nI (emp χ n))) h := by
  have t := c89 (d := 0) G.1 G.2.2.1 (by have := G.2.1; omega) (GH_tn G) Q
  rw [show tX h (70 + 0) = χ from G.2.2.2.2.1] at t
  exact t
theorem k90 {h : tH} {D n : Nat} {t : Int32} {χ : tC} (G : GH h D n χ) (a : ¬ t < 0) (b : ¬ (2 : Int32) < t) (Q : tO → tH → Prop) : AM 90 [.ref 0, .int 0, .int t] h Q = Q (RI (nI (lev χ n t))) h := by
  have t := c90 (d := 0) G.1 G.2.2.1 (by have := G.2.1; omega) (GH_tn G) (by rw [show tX h (70 + 0) = χ from G.2.2.2.2.1]; exact G.2.2.2.2.2.2.2.1) a b Q
  rw [show tX h (70 + 0) = χ from G.2.2.2.2.1] at t
  exact t
theorem k84 {h : tH} {D n : Nat} {χ : tC} (G : GH h D n χ) : ∃ g, kq h g ∧ ∀ Q, AM 84 [.ref 0, .int 0] h Q = Q (RI (nI (flp χ n))) g := by
  have h7 := G.2.2.2.2.2.2.1
  have w := G.2.2.2.2.2.2.2.1
  have hχ : tX h (70 + 0) = χ := G.2.2.2.2.1
  refine ⟨_, ?_, c84 (d := 0) G.1 G.2.2.1 (by have := G.2.1; omega) (GH_tn G) G.2.2.2.2.1 w G.2.2.2.2.2.2.2.2⟩
  have z := wk_I (SC χ 0) χ n (I := fun g => IC χ 0 h g ∧ g.2 = h.2) (fun i j k g ij jk kn v => ⟨IC_s w h7 (by omega) (by omega) kn v.1, v.2⟩) ⟨⟨hχ, fun _ _ _ => rfl⟩, rfl⟩
  obtain ⟨⟨z1, z2⟩, z3⟩ := z
  exact ⟨fun k i _ _ e => z2 k i e, z1.trans hχ.symm, z3⟩
theorem k91 {h : tH} {D n : Nat} {S : Int32} {χ : tC} (G : GH h D n χ) (h0 : ¬ S < 0) (hle : S ≤ one n - 1) (Q : tO → tH → Prop) : AM 91 [.ref 0, .int 0, .int S] h Q = Q (RI (nI (CW χ n (pc S) S 0))) (hR h χ n) := by
  have h7 := G.2.2.2.2.2.2.1
  have w := G.2.2.2.2.2.2.2.1
  have o := o40 (d := 0) (by decide)
  have o' := o70 (d := 0) (by decide)
  have hs := set_sm h7 h0 hle
  have c7 := pc_7 h7 hs
  have le7 := cB_le (bt S) 7 0
  have q := m_23 (GH_tn G)
  rw [show tX h 70 = χ from G.2.2.2.2.1] at q
  have q27 : ∀ Q, AM 27 [.ref 9, .int S, .int 0, .int 0] (hR h χ n) Q = Q (RI (nI (CW χ n (pc S) S 0))) (hR h χ n) := m_27 (h := hR h χ n) hR_10 hR_9 (rd_RM h7 _) w h7 (pc S) S 0 0 rfl hs (by omega)
  have hn1 : h.1 (70 + 0) 1 = nI n := G.2.2.2.1
  rw [show (0 : Int32) = nI 0 from rfl, am_91, s_91_0, c75 (d := 0) G.1 G.2.2.1 (by have := G.2.1; omega)]
  simp only [t_ob_0', true_and, t_kq_r, va_rf_s, s_91_5, o, e30, o', hn1, fo_all, t_ki]
  rw [show nI 0 = (0 : Int32) from rfl] at *
  rw [if_neg h0, if_pos hle]
  refine (q _).trans ?_
  simp only [t_kv]
  rw [lev27', true_and, show hM (t_I h 9 1 (nI n)) (rdM χ n (h.1 10)) = hR h χ n from rfl, q27]
  rfl
theorem k97 {h : tH} {D d n i j : Nat} {b : Bool} (h1 : h.1 0 3 = nI D) (h3 : D ≤ 6) (hd : d < D) (t1 : tn h (70 + d) n) (hb : h.1 (40 + d) 5 = zb b) (hi : i < n) (hj : j < n) (Q : tO → tH → Prop) : AM 97 [.ref 0, .int (nI d), .int (nI i), .int (nI j)] h Q = Q (RI (zb (b && (!decide (i = j) && bt (h.1 (40 + d) 4) (sx i j))))) h := by
  have hd6 : d < 6 := by omega
  have h7 := t1.2.2
  have pp : ∀ x, x < n → pI (nI x) n = true := fun x hx => by rw [pI_nI (by omega) (by omega)]; simpa using hx
  rw [am_97, s_97_0, c75 h1 h3 hd]
  simp only [t_ob_0', true_and, t_kq_r, va_rf_s, s_97_5, c76f hd6 t1, pp i hi, pp j hj, if_true, o40 hd6, m_10 hd6 hb (show i < 7 by omega) (show j < 7 by omega), t_ki, zb_z]
theorem k82 {h : tH} {D d n p : Nat} {y : Int32} (h1 : h.1 0 3 = nI D) (h3 : D ≤ 6) (hd : d < D) (t1 : tn h (70 + d) n) (hb : h.1 (40 + d) 3 = zb true) (hp : p < n) (Q : tO → tH → Prop) : AM 82 [.ref 0, .int (nI d), .int (nI p), .int y] h Q = Q (RI (if y = 0 then h.1 (50 + d) p else h.1 (60 + d) p)) h := by
  have hd6 : d < 6 := by omega
  have h7 := t1.2.2
  have p7 : p < 7 := by omega
  have pp : pI (nI p) n = true := by rw [pI_nI (by omega) (by omega)]; simpa using hp
  rw [am_82, s_82_0, c75 h1 h3 hd]
  simp only [t_ob_0', true_and, t_kq_r, va_rf_s, s_82_5, c76f hd6 t1, pp, if_true, o40 hd6, hb, s_82_48, e10, e20, m_get (a50 hd6), m_get (a60 hd6), zg_n p7 (show 7 < 5000 by decide), t_ki]
  rw [if_pos (by decide)]
  by_cases hy : y = 0 <;> simp [hy]
theorem k79 {h : tH} {D : Nat} (h1 : h.1 0 3 = nI D) (Q : tO → tH → Prop) : AM 79 [.ref 0] h Q = Q (RI (nI D)) h := by
  rw [am_79, s_79_0, h1]
  simp only [t_ob_0', true_and]
theorem k63 {h : tH} {s : Nat} (hs : h.1 1 2 = nI s) (Q : tO → tH → Prop) : AM 63 [.ref 0] h Q = Q (RI (nI s)) (t_I h 1 2 0) := by
  rw [am_63, s_63_0, hs]
  simp only [t_ob_0', true_and]
/-! ===== loops, forwards alone ===== -/
theorem hl {α : Type} {L : Nat → α → Prop} {n : Nat} (I : Nat → α → Prop) (h0 : ∀ a, I n a → L n a) (h1 : ∀ k a, k < n → I k a → (∀ a', I (k + 1) a' → L (k + 1) a') → L k a) : ∀ m k, k + m = n → ∀ a, I k a → L k a := by
  intro m
  induction m with
  | zero =>
    intro k hk a hi
    have : k = n := by omega
    subst this
    exact h0 a hi
  | succ m ih =>
    intro k hk a hi
    exact h1 k a (by omega) hi fun a' h' => ih (k + 1) (by omega) a' h'
