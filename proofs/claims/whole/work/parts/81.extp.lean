/-! ===== extensions: one more point, its signs by and by ===== -/
def s3 (x : Int32) : Prop := x = -1 ∨ x = 0 ∨ x = 1
/-- alternating, of n points, and each sign 1, -1, or 0 for not known yet -/
def V3 (χ : tC) (n : Nat) : Prop := AZ χ n ∧ ∀ i j k, s3 (χ i j k)
def F4 (x y z t : Int32) : Bool := decide (x = 0) || !decide (y = x) || !decide (z = x) || !decide (t = x)
def F5 (a b c d e f : Int32) : Bool := decide (a * b = 0) || !decide (c * d = a * b) || !decide (e * f = a * b)
theorem F4_f : ∀ a, a ∈ [(-1 : Int32), 0, 1] → ∀ b, b ∈ [(-1 : Int32), 0, 1] → ∀ c, c ∈ [(-1 : Int32), 0, 1] → ∀ d, d ∈ [(-1 : Int32), 0, 1] → F4 c (-d) (-b) a = F4 d (-c) b (-a) ∧ F4 (-d) (-b) c a = F4 d (-c) b (-a) ∧ F4 (-d) c (-a) b = F4 d (-c) b (-a) := by decide +kernel
theorem F5_f : ∀ a, a ∈ [(-1 : Int32), 0, 1] → ∀ b, b ∈ [(-1 : Int32), 0, 1] → ∀ c, c ∈ [(-1 : Int32), 0, 1] → ∀ d, d ∈ [(-1 : Int32), 0, 1] → ∀ e, e ∈ [(-1 : Int32), 0, 1] → ∀ f, f ∈ [(-1 : Int32), 0, 1] →
    F5 (-a) b e (-f) c (-d) = F5 a b c d e f ∧ F5 c (-d) a (-b) e (-f) = F5 a b c d e f ∧ F5 a (-b) e (-f) c (-d) = F5 a b c d e f := by decide +kernel
theorem s3_in {x : Int32} (h : s3 x) : x ∈ [(-1 : Int32), 0, 1] := by
  rcases h with rfl | rfl | rfl <;> decide
section
variable {χ : tC} {n : Nat}
theorem V_j (v : V3 χ n) {a b c : Nat} (ha : a < 7) (hb : b < 7) (hc : c < 7) : χ b a c = -χ a b c := (v.1 a b c ha hb hc).2.1
theorem V_r (v : V3 χ n) {a b c : Nat} (ha : a < 7) (hb : b < 7) (hc : c < 7) : χ b c a = χ a b c := (v.1 a b c ha hb hc).1
theorem V_k (v : V3 χ n) {a b c : Nat} (ha : a < 7) (hb : b < 7) (hc : c < 7) : χ a c b = -χ a b c := by
  rw [V_j v hc ha hb, V_r v hb hc ha, V_r v ha hb hc]
theorem p4_F (a b c d : Nat) : p4 χ a b c d = F4 (χ b c d) (χ a d c) (χ a b d) (χ a c b) := rfl
theorem p4_n (v : V3 χ n) {a b c d : Nat} (ha : a < 7) (hb : b < 7) (hc : c < 7) (hd : d < 7) : p4 χ a b c d = F4 (χ b c d) (-χ a c d) (χ a b d) (-χ a b c) := by
  rw [p4_F, V_k v ha hc hd, V_k v ha hb hc]
theorem p4_12 (v : V3 χ n) {a b c d : Nat} (ha : a < 7) (hb : b < 7) (hc : c < 7) (hd : d < 7) : p4 χ b a c d = p4 χ a b c d := by
  rw [p4_n v hb ha hc hd, p4_n v ha hb hc hd, V_j v ha hb hd, V_j v ha hb hc, Int32.neg_neg]
  exact (F4_f _ (s3_in (v.2 a b c)) _ (s3_in (v.2 a b d)) _ (s3_in (v.2 a c d)) _ (s3_in (v.2 b c d))).1
theorem p4_23 (v : V3 χ n) {a b c d : Nat} (ha : a < 7) (hb : b < 7) (hc : c < 7) (hd : d < 7) : p4 χ a c b d = p4 χ a b c d := by
  rw [p4_n v ha hc hb hd, p4_n v ha hb hc hd, V_j v hb hc hd, V_k v ha hb hc, Int32.neg_neg]
  exact (F4_f _ (s3_in (v.2 a b c)) _ (s3_in (v.2 a b d)) _ (s3_in (v.2 a c d)) _ (s3_in (v.2 b c d))).2.1
theorem p4_34 (v : V3 χ n) {a b c d : Nat} (ha : a < 7) (hb : b < 7) (hc : c < 7) (hd : d < 7) : p4 χ a b d c = p4 χ a b c d := by
  rw [p4_F, p4_n v ha hb hc hd, V_k v hb hc hd, V_k v ha hb hd]
  have := (F4_f _ (s3_in (v.2 a b c)) _ (s3_in (v.2 a b d)) _ (s3_in (v.2 a c d)) _ (s3_in (v.2 b c d))).2.2
  unfold F4 at this ⊢
  rw [← this]
  cases decide (-χ b c d = 0) <;> cases decide (χ a c d = -χ b c d) <;> cases decide (χ a b c = -χ b c d) <;> cases decide (-χ a b d = -χ b c d) <;> cases decide (-χ a b c = -χ b c d) <;> cases decide (χ a b d = -χ b c d) <;> first | rfl | skip
theorem p5_F (e a b c d : Nat) : p5 χ e a b c d = F5 (χ e a b) (χ e c d) (χ e a c) (χ e d b) (χ e a d) (χ e b c) := rfl
end
