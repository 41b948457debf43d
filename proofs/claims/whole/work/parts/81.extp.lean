/-! ===== extensions: one more point, its signs by and by ===== -/
def s3 (x : Int32) : Prop := x = -1 ∨ x = 0 ∨ x = 1
/-- alternating, of n points, and each sign 1, -1, or 0 for not known yet -/
def V3 (χ : tC) (n : Nat) : Prop := AZ χ n ∧ ∀ i j k, s3 (χ i j k)
def F4 (x y z t : Int32) : Bool := decide (x = 0) || !decide (y = x) || !decide (z = x) || !decide (t = x)
def F5 (a b c d e f : Int32) : Bool := decide (a * b = 0) || !decide (c * d = a * b) || !decide (e * f = a * b)
theorem F4_f : ∀ a, a ∈ [(-1 : Int32), 0, 1] → ∀ b, b ∈ [(-1 : Int32), 0, 1] → ∀ c, c ∈ [(-1 : Int32), 0, 1] → ∀ d, d ∈ [(-1 : Int32), 0, 1] → F4 c (-d) (-b) a = F4 d (-c) b (-a) ∧ F4 (-d) (-b) c a = F4 d (-c) b (-a) ∧ F4 (-d) c a (-b) = F4 d (-c) b (-a) := by decide +kernel
theorem F5_f : ∀ a, a ∈ [(-1 : Int32), 0, 1] → ∀ b, b ∈ [(-1 : Int32), 0, 1] → ∀ c, c ∈ [(-1 : Int32), 0, 1] → ∀ d, d ∈ [(-1 : Int32), 0, 1] → ∀ e, e ∈ [(-1 : Int32), 0, 1] → ∀ f, f ∈ [(-1 : Int32), 0, 1] →
    F5 (-a) b f (-e) (-d) c = F5 a b c d e f ∧ F5 c (-d) a (-b) e (-f) = F5 a b c d e f ∧ F5 a (-b) e (-f) c (-d) = F5 a b c d e f := by decide +kernel
theorem s3_in {x : Int32} (h : s3 x) : x ∈ [(-1 : Int32), 0, 1] := by
  rcases h with rfl | rfl | rfl <;> decide
section
variable {χ : tC} {n : Nat}
theorem V_j (v : V3 χ n) {a b c : Nat} (ha : a < 7) (hb : b < 7) (hc : c < 7) : χ b a c = -χ a b c := (v.1 a b c ha hb hc).2.1
theorem V_r (v : V3 χ n) {a b c : Nat} (ha : a < 7) (hb : b < 7) (hc : c < 7) : χ b c a = χ a b c := (v.1 a b c ha hb hc).1
theorem V_k (v : V3 χ n) {a b c : Nat} (ha : a < 7) (hb : b < 7) (hc : c < 7) : χ a c b = -χ a b c := by
  rw [V_j v hc ha hb, V_r v hb hc ha, V_r v ha hb hc]
theorem p4_F (a b c d : Nat) : p4 χ a b c d = F4 (χ b c d) (χ a d c) (χ a b d) (χ a c b) := rfl
theorem p4_n (v : V3 χ n) {a b c d : Nat} (ha : a < 7) (hb : b < 7) (hc : c < 7) (hd : d < 7) : p4 χ a b c d = F4 (χ b c d) (-χ a c d) (χ a b d) (-χ a b c) := by
  rw [p4_F, V_k v ha hc hd, V_k v ha hb hc]
theorem p4_12 (v : V3 χ n) {a b c d : Nat} (ha : a < 7) (hb : b < 7) (hc : c < 7) (hd : d < 7) : p4 χ b a c d = p4 χ a b c d := by
  rw [p4_n v hb ha hc hd, p4_n v ha hb hc hd, V_j v ha hb hd, V_j v ha hb hc, Int32.neg_neg]
  exact (F4_f _ (s3_in (v.2 a b c)) _ (s3_in (v.2 a b d)) _ (s3_in (v.2 a c d)) _ (s3_in (v.2 b c d))).1
theorem p4_23 (v : V3 χ n) {a b c d : Nat} (ha : a < 7) (hb : b < 7) (hc : c < 7) (hd : d < 7) : p4 χ a c b d = p4 χ a b c d := by
  rw [p4_n v ha hc hb hd, p4_n v ha hb hc hd, V_j v hb hc hd, V_k v ha hb hc, Int32.neg_neg]
  exact (F4_f _ (s3_in (v.2 a b c)) _ (s3_in (v.2 a b d)) _ (s3_in (v.2 a c d)) _ (s3_in (v.2 b c d))).2.1
theorem p4_34 (v : V3 χ n) {a b c d : Nat} (ha : a < 7) (hb : b < 7) (hc : c < 7) (hd : d < 7) : p4 χ a b d c = p4 χ a b c d := by
  rw [p4_n v ha hb hd hc, p4_n v ha hb hc hd, V_k v hb hc hd, V_k v ha hc hd, Int32.neg_neg]
  exact (F4_f _ (s3_in (v.2 a b c)) _ (s3_in (v.2 a b d)) _ (s3_in (v.2 a c d)) _ (s3_in (v.2 b c d))).2.2
theorem p5_F (e a b c d : Nat) : p5 χ e a b c d = F5 (χ e a b) (χ e c d) (χ e a c) (χ e d b) (χ e a d) (χ e b c) := rfl
theorem p5_12 (v : V3 χ n) {e a b c d : Nat} (he : e < 7) (ha : a < 7) (hb : b < 7) (hc : c < 7) (hd : d < 7) : p5 χ e b a c d = p5 χ e a b c d := by
  rw [p5_F, p5_F, V_k v he ha hb, V_k v he ha hd, show χ e b d = -χ e d b from V_k v he hd hb]
  exact (F5_f _ (s3_in (v.2 e a b)) _ (s3_in (v.2 e c d)) _ (s3_in (v.2 e a c)) _ (s3_in (v.2 e d b)) _ (s3_in (v.2 e a d)) _ (s3_in (v.2 e b c))).1
theorem p5_23 (v : V3 χ n) {e a b c d : Nat} (he : e < 7) (ha : a < 7) (hb : b < 7) (hc : c < 7) (hd : d < 7) : p5 χ e a c b d = p5 χ e a b c d := by
  rw [p5_F, p5_F, show χ e b d = -χ e d b from V_k v he hd hb, V_k v he hc hd, V_k v he hb hc]
  exact (F5_f _ (s3_in (v.2 e a b)) _ (s3_in (v.2 e c d)) _ (s3_in (v.2 e a c)) _ (s3_in (v.2 e d b)) _ (s3_in (v.2 e a d)) _ (s3_in (v.2 e b c))).2.1
theorem p5_34 (v : V3 χ n) {e a b c d : Nat} (he : e < 7) (ha : a < 7) (hb : b < 7) (hc : c < 7) (hd : d < 7) : p5 χ e a b d c = p5 χ e a b c d := by
  rw [p5_F, p5_F, V_k v he hc hd, V_k v he hb hc, show χ e b d = -χ e d b from V_k v he hd hb]
  exact (F5_f _ (s3_in (v.2 e a b)) _ (s3_in (v.2 e c d)) _ (s3_in (v.2 e a c)) _ (s3_in (v.2 e d b)) _ (s3_in (v.2 e a d)) _ (s3_in (v.2 e b c))).2.2
/-- no four and no five, as far as they are known, break the rules -/
def PC (χ : tC) (n : Nat) : Prop := (∀ a b c d, a < b → b < c → c < d → d < n → p4 χ a b c d = true) ∧ (∀ e a b c d, e < n → a < b → b < c → c < d → d < n → e ≠ a → e ≠ b → e ≠ c → e ≠ d → p5 χ e a b c d = true)
/-- one more sign: enough to look at what it is part of -/
theorem PC_s {i j k : Nat} {x : Int32} (v : V3 (setC χ i j k x) n) (h7 : n ≤ 7) (hp : PC χ n) (hi : i < n) (hj : j < n) (hk : k < n) (ij : i ≠ j) (jk : j ≠ k) (ik : i ≠ k) (hf : pfits (setC χ i j k x) n i j k = true) : PC (setC χ i j k x) n := by
  obtain ⟨ψ, hψ⟩ : ∃ ψ, ψ = setC χ i j k x := ⟨_, rfl⟩
  have old : ∀ a b c, ¬ ((i = a ∨ i = b ∨ i = c) ∧ (j = a ∨ j = b ∨ j = c) ∧ (k = a ∨ k = b ∨ k = c)) → ψ a b c = χ a b c := fun a b c h => by rw [hψ]; exact setC_o h
  rw [← hψ] at v hf ⊢
  rw [pfits_iff] at hf
  have perm5 : ∀ e u z a b c d, e < 7 → u < n → z < n → e ≠ u → e ≠ z → u ≠ z → (∀ x y, x < y → y < n → x ≠ e → x ≠ u → x ≠ z → y ≠ e → y ≠ u → y ≠ z → p5 ψ e u z x y = true) → a < b → b < c → c < d → d < n → e ≠ a → e ≠ b → e ≠ c → e ≠ d → (u = a ∨ u = b ∨ u = c ∨ u = d) → (z = a ∨ z = b ∨ z = c ∨ z = d) → p5 ψ e a b c d = true := by
    intro e u z a b c d he hu hz eu ez uz hq h1 h2 h3 h4 ea eb ec ed m1 m2
    obtain ⟨x, y, hxy, hy, x1, x2, y1, y2, mx, my⟩ : ∃ x y, x < y ∧ y < n ∧ x ≠ u ∧ x ≠ z ∧ y ≠ u ∧ y ≠ z ∧ (x = a ∨ x = b ∨ x = c ∨ x = d) ∧ (y = a ∨ y = b ∨ y = c ∨ y = d) := by
      by_cases a1 : a = u ∨ a = z
      · by_cases b1 : b = u ∨ b = z
        · exact ⟨c, d, by omega, by omega, by omega, by omega, by omega, by omega, by omega, by omega⟩
        · by_cases c1 : c = u ∨ c = z
          · exact ⟨b, d, by omega, by omega, by omega, by omega, by omega, by omega, by omega, by omega⟩
          · exact ⟨b, c, by omega, by omega, by omega, by omega, by omega, by omega, by omega, by omega⟩
      · by_cases b1 : b = u ∨ b = z
        · by_cases c1 : c = u ∨ c = z
          · exact ⟨a, d, by omega, by omega, by omega, by omega, by omega, by omega, by omega, by omega⟩
          · exact ⟨a, c, by omega, by omega, by omega, by omega, by omega, by omega, by omega, by omega⟩
        · exact ⟨a, b, by omega, by omega, by omega, by omega, by omega, by omega, by omega, by omega⟩
    have hq' := hq x y hxy hy (by omega) x1 x2 (by omega) y1 y2
    exact (perm4 (P := fun a b c d => a < 7 ∧ b < 7 ∧ c < 7 ∧ d < 7 ∧ p5 ψ e a b c d = true)
      (fun a b c d ⟨l1, l2, l3, l4, k⟩ => ⟨l2, l1, l3, l4, by rw [p5_12 v he l1 l2 l3 l4]; exact k⟩)
      (fun a b c d ⟨l1, l2, l3, l4, k⟩ => ⟨l1, l3, l2, l4, by rw [p5_23 v he l1 l2 l3 l4]; exact k⟩)
      (fun a b c d ⟨l1, l2, l3, l4, k⟩ => ⟨l1, l2, l4, l3, by rw [p5_34 v he l1 l2 l3 l4]; exact k⟩)
      (i := u) (j := z) (k := x) (l := y) ⟨by omega, by omega, by omega, by omega, hq'⟩ uz (by omega) (by omega) (by omega) (by omega) (by omega) h1 h2 h3 m1 m2 mx my).2.2.2.2
  have five0 : ∀ x y, x < y → y < n → x ≠ i → x ≠ j → x ≠ k → y ≠ i → y ≠ j → y ≠ k → p5 ψ i j k x y = true ∧ p5 ψ j i k x y = true ∧ p5 ψ k i j x y = true := fun x y hxy hy n1 n2 n3 m1 m2 m3 => by
    have t := (hf x (by omega) n1 n2 n3).2 y hxy hy m1 m2 m3
    unfold p5a at t
    simp only [Bool.and_eq_true] at t
    exact ⟨t.1.1, t.1.2, t.2⟩
  refine ⟨fun a b c d h1 h2 h3 h4 => ?_, fun e a b c d he h1 h2 h3 h4 ea eb ec ed => ?_⟩
  · by_cases m : (i = a ∨ i = b ∨ i = c ∨ i = d) ∧ (j = a ∨ j = b ∨ j = c ∨ j = d) ∧ (k = a ∨ k = b ∨ k = c ∨ k = d)
    · obtain ⟨m1, m2, m3⟩ := m
      obtain ⟨x, x1, x2, x3, mx⟩ : ∃ x, x ≠ i ∧ x ≠ j ∧ x ≠ k ∧ (x = a ∨ x = b ∨ x = c ∨ x = d) := by
        by_cases a1 : a = i ∨ a = j ∨ a = k
        · by_cases b1 : b = i ∨ b = j ∨ b = k
          · by_cases c1 : c = i ∨ c = j ∨ c = k
            · exact ⟨d, by omega, by omega, by omega, by omega⟩
            · exact ⟨c, by omega, by omega, by omega, by omega⟩
          · exact ⟨b, by omega, by omega, by omega, by omega⟩
        · exact ⟨a, by omega, by omega, by omega, by omega⟩
      exact (perm4 (P := fun a b c d => a < 7 ∧ b < 7 ∧ c < 7 ∧ d < 7 ∧ p4 ψ a b c d = true)
        (fun a b c d ⟨l1, l2, l3, l4, k⟩ => ⟨l2, l1, l3, l4, by rw [p4_12 v l1 l2 l3 l4]; exact k⟩)
        (fun a b c d ⟨l1, l2, l3, l4, k⟩ => ⟨l1, l3, l2, l4, by rw [p4_23 v l1 l2 l3 l4]; exact k⟩)
        (fun a b c d ⟨l1, l2, l3, l4, k⟩ => ⟨l1, l2, l4, l3, by rw [p4_34 v l1 l2 l3 l4]; exact k⟩)
        (i := i) (j := j) (k := k) (l := x) ⟨by omega, by omega, by omega, by omega, (hf x (by omega) x1 x2 x3).1⟩ ij ik (by omega) jk (by omega) (by omega) h1 h2 h3 m1 m2 m3 mx).2.2.2.2
    · have e := hp.1 a b c d h1 h2 h3 h4
      unfold p4 at e ⊢
      rw [old b c d (by omega), old a d c (by omega), old a b d (by omega), old a c b (by omega)]
      exact e
  · by_cases c1 : e = i ∧ (j = a ∨ j = b ∨ j = c ∨ j = d) ∧ (k = a ∨ k = b ∨ k = c ∨ k = d)
    · obtain ⟨rfl, m2, m3⟩ := c1
      exact perm5 e j k a b c d (by omega) hj hk ij ik jk (fun x y a1 a2 n1 n2 n3 l1 l2 l3 => (five0 x y a1 a2 n1 n2 n3 l1 l2 l3).1) h1 h2 h3 h4 ea eb ec ed m2 m3
    · by_cases c2 : e = j ∧ (i = a ∨ i = b ∨ i = c ∨ i = d) ∧ (k = a ∨ k = b ∨ k = c ∨ k = d)
      · obtain ⟨rfl, m2, m3⟩ := c2
        exact perm5 e i k a b c d (by omega) hi hk ij.symm jk ik (fun x y a1 a2 n1 n2 n3 l1 l2 l3 => (five0 x y a1 a2 n2 n1 n3 l2 l1 l3).2.1) h1 h2 h3 h4 ea eb ec ed m2 m3
      · by_cases c3 : e = k ∧ (i = a ∨ i = b ∨ i = c ∨ i = d) ∧ (j = a ∨ j = b ∨ j = c ∨ j = d)
        · obtain ⟨rfl, m2, m3⟩ := c3
          exact perm5 e i j a b c d (by omega) hi hj ik.symm jk.symm ij (fun x y a1 a2 n1 n2 n3 l1 l2 l3 => (five0 x y a1 a2 n2 n3 n1 l2 l3 l1).2.2) h1 h2 h3 h4 ea eb ec ed m2 m3
        · have g := hp.2 e a b c d he h1 h2 h3 h4 ea eb ec ed
          unfold p5 at g ⊢
          rw [old e a b (by omega), old e c d (by omega), old e a c (by omega), old e d b (by omega), old e a d (by omega), old e b c (by omega)]
          exact g
end
