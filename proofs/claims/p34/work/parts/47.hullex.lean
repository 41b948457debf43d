/-! ===== two points or more have a hull ===== -/
/-- the dual of gp_tr: p is the first around q -/
theorem gp_tr' {χ : tC} {n : Nat} (w : WS χ n) (h7 : n ≤ 7) (h : qhold χ n = true) {q p r s t : Nat} (hq : q < n) (hp : p < n) (hr : r < n) (hs : s < n) (ht : t < n) (d1 : q ≠ p) (d2 : q ≠ r) (d3 : q ≠ s) (d4 : q ≠ t) (d5 : p ≠ r) (d6 : p ≠ s) (d7 : p ≠ t) (d8 : r ≠ s) (d9 : s ≠ t) (d10 : r ≠ t)
    (e1 : χ q p r = 1) (e2 : χ q p s = 1) (e3 : χ q p t = 1) (e4 : χ q r s = 1) (e5 : χ q s t = 1) : χ q r t = 1 := by
  have g := gp5 w h7 h hq p r s t hp hr hs ht d5 d6 d7 d8 d10 d9 d1 d2 d3 d4
  unfold q5 psame at g
  rw [WS_k w (a := q) (b := r) (c := t) (by omega) (by omega) (by omega), e1, e2, e3, e4, e5] at g
  rcases WS_at w h7 hq hr ht d2 d10 d4 with k | k
  · exact k
  · rw [k] at g
    exact absurd g (by decide)
/-- b follows on a among the points that S tells -/
def fS (χ : tC) (S : Nat → Prop) (a b : Nat) : Prop := S a ∧ S b ∧ a ≠ b ∧ ∀ c, S c → c ≠ a → c ≠ b → χ a b c = 1
theorem fS_inj {χ : tC} {n : Nat} (w : WS χ n) (h7 : n ≤ 7) {S : Nat → Prop} (hS : ∀ c, S c → c < n) {a b c : Nat} (h1 : fS χ S a c) (h2 : fS χ S b c) : a = b := by
  apply Classical.byContradiction
  intro hab
  have e1 := h1.2.2.2 b h2.1 (fun z => hab z.symm) h2.2.2.1
  have e2 := h2.2.2.2 a h1.1 hab h1.2.2.1
  have ha := hS a h1.1
  have hb := hS b h2.1
  have hc := hS c h1.2.1
  rw [WS_r w (a := a) (b := b) (c := c) (by omega) (by omega) (by omega)] at e2
  rw [WS_k w (a := a) (b := b) (c := c) (by omega) (by omega) (by omega), e2] at e1
  exact absurd e1 (by decide)
/-- a new point r, to the right of the edge a b and to the left of the next edge b c: b follows on r -/
theorem fS_new {χ : tC} {n : Nat} (w : WS χ n) (h7 : n ≤ 7) (h : qhold χ n = true) {S : Nat → Prop} (hS : ∀ c, S c → c < n) {a b c r : Nat} (hr : r < n) (nr : ¬ S r) (h1 : fS χ S a b) (h2 : fS χ S b c) (e1 : χ a b r = -1) (e2 : χ b c r = 1) : fS χ (fun x => S x ∨ x = r) r b := by
  have ha := hS a h1.1
  have hb := hS b h1.2.1
  have hc := hS c h2.2.1
  have rb : r ≠ b := fun z => nr (z ▸ h1.2.1)
  have ra : r ≠ a := fun z => nr (z ▸ h1.1)
  have rc : r ≠ c := fun z => nr (z ▸ h2.2.1)
  have k1 : χ b a r = 1 := by rw [WS_j w (a := a) (b := b) (c := r) (by omega) (by omega) (by omega), e1]; rfl
  refine ⟨Or.inr rfl, Or.inl h1.2.1, rb, fun x hx x1 x2 => ?_⟩
  have hx' : S x := hx.resolve_right x1
  have hxn := hS x hx'
  -- x lies before r around b
  have g : χ b x r = 1 := by
    by_cases xa : x = a
    · rw [xa]; exact k1
    · by_cases xc : x = c
      · rw [xc]; exact e2
      · by_cases ac : a = c
        · have := h1.2.2.2 x hx' xa x2
          have t := h2.2.2.2 x hx' x2 xc
          rw [← ac, WS_j w (a := a) (b := b) (c := x) (by omega) (by omega) (by omega), this] at t
          exact absurd t (by decide)
        · have m1 := h1.2.2.2 x hx' xa x2
          have m2 : χ b x a = 1 := by rw [WS_r w (a := a) (b := b) (c := x) (by omega) (by omega) (by omega)]; exact m1
          exact gp_tr' w h7 h hb hc hxn ha hr h2.2.2.1 (fun z => x2 z.symm) (fun z => h1.2.2.1 z.symm) rb.symm (fun z => xc z.symm) (fun z => ac z.symm) rc.symm xa ra.symm x1 (h2.2.2.2 x hx' x2 xc) (h2.2.2.2 a h1.1 h1.2.2.1 ac) e2 m2 k1
  rw [← WS_r w (a := r) (b := b) (c := x) (by omega) (by omega) (by omega)]
  exact g
