/-! ===== plane sets: a flipped segment crosses nothing ===== -/
def bs (χ : tC) (x y z : Nat) : Bool := decide (χ x y z = 1)
section
variable {χ : tC} {n : Nat}
theorem bs_v (w : WS χ n) (h7 : n ≤ 7) {x y z : Nat} (hx : x < n) (hy : y < n) (hz : z < n) (a : x ≠ y) (b : y ≠ z) (c : x ≠ z) : χ x y z = if bs χ x y z = true then 1 else -1 := by
  rcases WS_at w h7 hx hy hz a b c with e | e
  · rw [e]; unfold bs; rw [e]; rfl
  · rw [e]; unfold bs; rw [e]; rfl
theorem bv_eq {a b : Bool} : decide ((if a = true then (1 : Int32) else -1) = if b = true then 1 else -1) = (a == b) := by
  cases a <;> cases b <;> decide
theorem bs_eq (w : WS χ n) (h7 : n ≤ 7) {x y z x' y' z' : Nat} (hx : x < n) (hy : y < n) (hz : z < n) (a : x ≠ y) (b : y ≠ z) (c : x ≠ z) (hx' : x' < n) (hy' : y' < n) (hz' : z' < n) (a' : x' ≠ y') (b' : y' ≠ z') (c' : x' ≠ z') : decide (χ x y z = χ x' y' z') = (bs χ x y z == bs χ x' y' z') := by
  rw [← bv_eq, ← bs_v w h7 hx hy hz a b c, ← bs_v w h7 hx' hy' hz' a' b' c']
theorem bs_j (w : WS χ n) (h7 : n ≤ 7) {x y z : Nat} (hx : x < n) (hy : y < n) (hz : z < n) (a : x ≠ y) (b : y ≠ z) (c : x ≠ z) : bs χ y x z = !bs χ x y z := by
  unfold bs
  rw [WS_j w (a := x) (b := y) (c := z) (by omega) (by omega) (by omega)]
  rcases WS_at w h7 hx hy hz a b c with e | e <;> rw [e] <;> decide
theorem bs_r (w : WS χ n) (h7 : n ≤ 7) {x y z : Nat} (hx : x < n) (hy : y < n) (hz : z < n) : bs χ y z x = bs χ x y z := by
  unfold bs
  rw [WS_r w (a := x) (b := y) (c := z) (by omega) (by omega) (by omega)]
theorem bs_k (w : WS χ n) (h7 : n ≤ 7) {x y z : Nat} (hx : x < n) (hy : y < n) (hz : z < n) (a : x ≠ y) (b : y ≠ z) (c : x ≠ z) : bs χ x z y = !bs χ x y z := by
  unfold bs
  rw [WS_k w (a := x) (b := y) (c := z) (by omega) (by omega) (by omega)]
  rcases WS_at w h7 hx hy hz a b c with e | e <;> rw [e] <;> decide
def bX (a b c d : Bool) : Bool := !(a == b) && !(c == d)
theorem pparts_b (w : WS χ n) (h7 : n ≤ 7) {a b c d : Nat} (ha : a < n) (hb : b < n) (hc : c < n) (hd : d < n) (n1 : a ≠ b) (n2 : a ≠ c) (n3 : a ≠ d) (n4 : b ≠ c) (n5 : b ≠ d) (n6 : c ≠ d) : pparts χ a b c d = bX (bs χ a b c) (bs χ a b d) (bs χ a c d) (bs χ b c d) := by
  unfold pparts bX
  rw [bs_eq w h7 ha hb hc n1 n4 n2 ha hb hd n1 n5 n3, bs_eq w h7 hc hd ha n6 n3.symm n2.symm hc hd hb n6 n5.symm n4.symm, bs_r w h7 ha hc hd, bs_r w h7 hb hc hd]
def bI (a b c : Bool) : Bool := (b == a) && ((!c) == a)
theorem pin_b (w : WS χ n) (h7 : n ≤ 7) {p i j k : Nat} (hp : p < n) (hi : i < n) (hj : j < n) (hk : k < n) (n1 : i ≠ j) (n2 : i ≠ k) (n3 : j ≠ k) (n4 : p ≠ i) (n5 : p ≠ j) (n6 : p ≠ k) : pin χ p i j k = bI (bs χ i j p) (bs χ j k p) (bs χ i k p) := by
  unfold pin bI
  rw [bs_eq w h7 hj hk hp n3 n6.symm n5.symm hi hj hp n1 n5.symm n4.symm, bs_eq w h7 hk hi hp n2.symm n4.symm n6.symm hi hj hp n1 n5.symm n4.symm, bs_j w h7 hi hk hp n2 n6.symm n4.symm]
def b5 (a b c d e f : Bool) : Bool := !(((a == b) == (c == d)) && ((c == d) == (e == f)))
theorem bv_mul {a b : Bool} : (if a = true then (1 : Int32) else -1) * (if b = true then 1 else -1) = if (a == b) = true then 1 else -1 := by
  cases a <;> cases b <;> decide
theorem q5_b (w : WS χ n) (h7 : n ≤ 7) {e a b c d : Nat} (he : e < n) (ha : a < n) (hb : b < n) (hc : c < n) (hd : d < n) (n1 : e ≠ a) (n2 : e ≠ b) (n3 : e ≠ c) (n4 : e ≠ d) (n5 : a ≠ b) (n6 : a ≠ c) (n7 : a ≠ d) (n8 : b ≠ c) (n9 : b ≠ d) (n10 : c ≠ d) : q5 χ e a b c d = b5 (bs χ e a b) (bs χ e c d) (bs χ e a c) (!bs χ e b d) (bs χ e a d) (bs χ e b c) := by
  rw [← bs_k w h7 he hb hd n2 n9 n4]
  unfold q5 psame b5
  rw [bs_v w h7 he ha hb n1 n5 n2, bs_v w h7 he hc hd n3 n10 n4, bs_v w h7 he ha hc n1 n6 n3, bs_v w h7 he hd hb n4 n9.symm n2, bs_v w h7 he ha hd n1 n7 n4, bs_v w h7 he hb hc n2 n8 n3, bv_mul, bv_mul, bv_mul, bv_eq, bv_eq]
end
def ab (f : Bool → Bool) : Bool := f true && f false
theorem ab_iff {f : Bool → Bool} (h : ab f = true) (b : Bool) : f b = true := by
  unfold ab at h
  simp only [Bool.and_eq_true] at h
  cases b
  · exact h.2
  · exact h.1
/-- six points: i, j, k, l, p, q; the signs in this order -/
def quadT : Bool := ab fun ikl => ab fun jkl => !(bX true false ikl jkl) || ab fun klp => ab fun klq => ab fun kpq => ab fun lpq => !(bX klp klq kpq lpq) ||
    ab fun ijp => ab fun ijq => ab fun ipq => ab fun jpq => bX ijp ijq ipq jpq || ab fun ikp => ab fun ikq => bX ikp ikq ipq kpq || ab fun jkp => bI ijp jkp ikp || ab fun jkq => bI ijq jkq ikq || (bX jkp jkq jpq kpq ||
    (!(b5 (!ikl) kpq (!ikp) (!klq) (!ikq) klp) || (!(b5 (!jkl) kpq (!jkp) (!klq) (!jkq) klp) || (!(b5 ijp (!kpq) ikp jpq (!ipq) jkp) ||
    ab fun ilp => ab fun ilq => bX ilp ilq ipq lpq || ab fun jlp => bI ijp jlp ilp || ab fun jlq => bI ijq jlq ilq || (bX jlp jlq jpq lpq ||
    (!(b5 jkl lpq (!jlp) klq (!jlq) (!klp)) || (!(b5 ikl lpq (!ilp) klq (!ilq) (!klp)) || !(b5 ijq lpq ilq (!jpq) ipq jlq))))))))
theorem quad6 {ikl jkl klp klq kpq lpq ijp ijq ipq jpq ikp ikq jkp jkq ilp ilq jlp jlq : Bool} (h1 : bX true false ikl jkl = true) (h2 : bX klp klq kpq lpq = true)
    (h3 : bX ijp ijq ipq jpq = false) (h4 : bX ikp ikq ipq kpq = false) (h5 : bI ijp jkp ikp = false) (h6 : bI ijq jkq ikq = false) (h7 : bX jkp jkq jpq kpq = false)
    (h8 : b5 (!ikl) kpq (!ikp) (!klq) (!ikq) klp = true) (h9 : b5 (!jkl) kpq (!jkp) (!klq) (!jkq) klp = true) (h10 : b5 ijp (!kpq) ikp jpq (!ipq) jkp = true)
    (h11 : bX ilp ilq ipq lpq = false) (h12 : bI ijp jlp ilp = false) (h13 : bI ijq jlq ilq = false) (h14 : bX jlp jlq jpq lpq = false)
    (h15 : b5 jkl lpq (!jlp) klq (!jlq) (!klp) = true) (h16 : b5 ikl lpq (!ilp) klq (!ilq) (!klp) = true) (h17 : b5 ijq lpq ilq (!jpq) ipq jlq = true) : False := by
  have q : quadT = true := by decide +kernel
  unfold quadT at q
  have q := ab_iff (ab_iff q ikl) jkl
  rw [h1, Bool.not_true, Bool.false_or] at q
  have q := ab_iff (ab_iff (ab_iff (ab_iff q klp) klq) kpq) lpq
  rw [h2, Bool.not_true, Bool.false_or] at q
  have q := ab_iff (ab_iff (ab_iff (ab_iff q ijp) ijq) ipq) jpq
  rw [h3, Bool.false_or] at q
  have q := ab_iff (ab_iff q ikp) ikq
  rw [h4, Bool.false_or] at q
  have q := ab_iff q jkp
  rw [h5, Bool.false_or] at q
  have q := ab_iff q jkq
  rw [h6, Bool.false_or, h7, Bool.false_or, h8, Bool.not_true, Bool.false_or, h9, Bool.not_true, Bool.false_or, h10, Bool.not_true, Bool.false_or] at q
  have q := ab_iff (ab_iff q ilp) ilq
  rw [h11, Bool.false_or] at q
  have q := ab_iff q jlp
  rw [h12, Bool.false_or] at q
  have q := ab_iff q jlq
  rw [h13, Bool.false_or, h14, Bool.false_or, h15, Bool.not_true, Bool.false_or, h16, Bool.not_true, Bool.false_or, h17] at q
  exact absurd q (by decide)
/-- four points -/
def b4 (abc abd acd bcd : Bool) : Bool := !((bcd == !acd) && ((bcd == abd) && (abd == !abc)))
theorem q4_b {χ : tC} {n : Nat} (w : WS χ n) (h7 : n ≤ 7) {a b c d : Nat} (ha : a < n) (hb : b < n) (hc : c < n) (hd : d < n) (n1 : a ≠ b) (n2 : a ≠ c) (n3 : a ≠ d) (n4 : b ≠ c) (n5 : b ≠ d) (n6 : c ≠ d) : q4 χ a b c d = b4 (bs χ a b c) (bs χ a b d) (bs χ a c d) (bs χ b c d) := by
  rw [q4_same]
  unfold same4 psame b4
  rw [bs_eq w h7 hb hc hd n4 n6 n5 ha hd hc n3 n6.symm n2, bs_eq w h7 hb hc hd n4 n6 n5 ha hb hd n1 n5 n3, bs_eq w h7 ha hb hd n1 n5 n3 ha hc hb n2 n4.symm n1, bs_k w h7 ha hc hd n2 n6 n3, bs_k w h7 ha hb hc n1 n4 n2]
/-- five points -/
theorem quad5 : ∀ ikl jkl klq ikq ilq ijq jkq jlq : Bool, (!(bX true false ikl jkl) || !(bX ikl klq ikq ilq) || bX ijq ikq true jkq || bI ijq jkq ikq || bX ijq ilq false jlq || bI ijq jlq ilq || !(b4 true false ikl jkl) || !(b4 ikl ikq ilq klq)) = true := by decide +kernel
section
variable {χ : tC} {n i j k l : Nat}
/-- the two threes at a segment, and the segment of their corners -/
def CR (χ : tC) (i j k l : Nat) : Prop := bs χ i j k = true ∧ bs χ i j l = false ∧ bX true false (bs χ i k l) (bs χ j k l) = true
theorem quadA (w : WS χ n) (h7 : n ≤ 7) (hh : qhold χ n = true) (hi : i < n) (hj : j < n) (hk : k < n) (hl : l < n) (ij : i ≠ j) (ik : i ≠ k) (il : i ≠ l) (jk : j ≠ k) (jl : j ≠ l) (kl : k ≠ l) {q : Nat} (hq : q < n) (qi : i ≠ q) (qj : j ≠ q) (qk : k ≠ q) (ql : l ≠ q) (c : CR χ i j k l)
    (x : pparts χ k l i q = true) (x1 : pparts χ i q j k = false) (x2 : pparts χ i q j l = false) (e1 : pin χ q i j k = false) (e2 : pin χ q i j l = false) : False := by
  obtain ⟨c1, c2, c3⟩ := c
  rw [pparts_b w h7 hk hl hi hq kl ik.symm qk il.symm ql qi, bs_r w h7 hi hk hl, bs_j w h7 hi hk hq ik qk qi, bs_j w h7 hi hl hq il ql qi] at x
  rw [pparts_b w h7 hi hq hj hk qi ij ik qj.symm qk.symm jk, bs_k w h7 hi hj hq ij qj qi, bs_k w h7 hi hk hq ik qk qi, c1, ← bs_r w h7 hq hj hk] at x1
  rw [pparts_b w h7 hi hq hj hl qi ij il qj.symm ql.symm jl, bs_k w h7 hi hj hq ij qj qi, bs_k w h7 hi hl hq il ql qi, c2, ← bs_r w h7 hq hj hl] at x2
  rw [pin_b w h7 hq hi hj hk ij ik jk qi.symm qj.symm qk.symm] at e1
  rw [pin_b w h7 hq hi hj hl ij il jl qi.symm qj.symm ql.symm] at e2
  have bx : ∀ a b c d : Bool, bX a b (!c) (!d) = bX a b c d := by decide
  have by2 : ∀ a b c d : Bool, bX (!a) (!b) c d = bX a b c d := by decide
  rw [bx] at x
  rw [by2] at x1 x2
  have f0 := quad5 (bs χ i k l) (bs χ j k l) (bs χ k l q) (bs χ i k q) (bs χ i l q) (bs χ i j q) (bs χ j k q) (bs χ j l q)
  have f1 := gp4 w h7 hh i j k l hi hj hk hl ij ik il jk jl kl
  rw [q4_b w h7 hi hj hk hl ij ik il jk jl kl, c1, c2] at f1
  have f2 := gp4 w h7 hh i k l q hi hk hl hq ik il qi kl qk ql
  rw [q4_b w h7 hi hk hl hq ik il qi kl qk ql] at f2
  rw [c3, x, x1, x2, e1, e2, f1, f2] at f0
  exact absurd f0 (by decide)
theorem quadB (w : WS χ n) (h7 : n ≤ 7) (hh : qhold χ n = true) (hi : i < n) (hj : j < n) (hk : k < n) (hl : l < n) (ij : i ≠ j) (ik : i ≠ k) (il : i ≠ l) (jk : j ≠ k) (jl : j ≠ l) (kl : k ≠ l) {p q : Nat} (hp : p < n) (hq : q < n) (pi : i ≠ p) (pj : j ≠ p) (pk : k ≠ p) (pl : l ≠ p) (qi : i ≠ q) (qj : j ≠ q) (qk : k ≠ q) (ql : l ≠ q) (pq' : p ≠ q) (c : CR χ i j k l)
    (x : pparts χ k l p q = true) (x0 : pparts χ i j p q = false) (x1 : pparts χ i k p q = false) (x2 : pparts χ j k p q = false) (x3 : pparts χ i l p q = false) (x4 : pparts χ j l p q = false)
    (e1 : pin χ p i j k = false) (e2 : pin χ q i j k = false) (e3 : pin χ p i j l = false) (e4 : pin χ q i j l = false) : False := by
  obtain ⟨c1, c2, c3⟩ := c
  rw [pparts_b w h7 hk hl hp hq kl pk qk pl ql pq'] at x
  rw [pparts_b w h7 hi hj hp hq ij pi qi pj qj pq'] at x0
  rw [pparts_b w h7 hi hk hp hq ik pi qi pk qk pq'] at x1
  rw [pparts_b w h7 hj hk hp hq jk pj qj pk qk pq'] at x2
  rw [pparts_b w h7 hi hl hp hq il pi qi pl ql pq'] at x3
  rw [pparts_b w h7 hj hl hp hq jl pj qj pl ql pq'] at x4
  rw [pin_b w h7 hp hi hj hk ij ik jk pi.symm pj.symm pk.symm] at e1
  rw [pin_b w h7 hq hi hj hk ij ik jk qi.symm qj.symm qk.symm] at e2
  rw [pin_b w h7 hp hi hj hl ij il jl pi.symm pj.symm pl.symm] at e3
  rw [pin_b w h7 hq hi hj hl ij il jl qi.symm qj.symm ql.symm] at e4
  have g1 := gp5 w h7 hh hk i l p q hi hl hp hq il pi qi pl ql pq' ik.symm kl pk qk
  rw [q5_b w h7 hk hi hl hp hq ik.symm kl pk qk il pi qi pl ql pq', bs_j w h7 hi hk hl ik kl il, bs_j w h7 hi hk hp ik pk pi, bs_j w h7 hi hk hq ik qk qi] at g1
  have g2 := gp5 w h7 hh hk j l p q hj hl hp hq jl pj qj pl ql pq' jk.symm kl pk qk
  rw [q5_b w h7 hk hj hl hp hq jk.symm kl pk qk jl pj qj pl ql pq', bs_j w h7 hj hk hl jk kl jl, bs_j w h7 hj hk hp jk pk pj, bs_j w h7 hj hk hq jk qk qj] at g2
  have g3 := gp5 w h7 hh hl j k p q hj hk hp hq jk pj qj pk qk pq' jl.symm kl.symm pl ql
  rw [q5_b w h7 hl hj hk hp hq jl.symm kl.symm pl ql jk pj qj pk qk pq', ← bs_r w h7 hl hj hk, bs_j w h7 hj hl hp jl pl pj, bs_j w h7 hk hl hq kl ql qk, Bool.not_not, bs_j w h7 hj hl hq jl ql qj, bs_j w h7 hk hl hp kl pl pk] at g3
  have g4 := gp5 w h7 hh hl i k p q hi hk hp hq ik pi qi pk qk pq' il.symm kl.symm pl ql
  rw [q5_b w h7 hl hi hk hp hq il.symm kl.symm pl ql ik pi qi pk qk pq', ← bs_r w h7 hl hi hk, bs_j w h7 hi hl hp il pl pi, bs_j w h7 hk hl hq kl ql qk, Bool.not_not, bs_j w h7 hi hl hq il ql qi, bs_j w h7 hk hl hp kl pl pk] at g4
  have g5 := gp5 w h7 hh hq i j l p hi hj hl hp ij il pi jl pj pl qi.symm qj.symm ql.symm pq'.symm
  rw [q5_b w h7 hq hi hj hl hp qi.symm qj.symm ql.symm pq'.symm ij il pi jl pj pl, ← bs_r w h7 hq hi hj, ← bs_r w h7 hq hl hp, ← bs_r w h7 hq hi hl, ← bs_r w h7 hq hj hp, ← bs_r w h7 hq hi hp, ← bs_r w h7 hq hj hl] at g5
  have g6 := gp5 w h7 hh hp i j k q hi hj hk hq ij ik qi jk qj qk pi.symm pj.symm pk.symm pq'
  rw [q5_b w h7 hp hi hj hk hq pi.symm pj.symm pk.symm pq' ij ik qi jk qj qk, ← bs_r w h7 hp hi hj, bs_j w h7 hk hp hq pk pq' qk, ← bs_r w h7 hp hi hk, bs_j w h7 hj hp hq pj pq' qj, Bool.not_not, bs_j w h7 hi hp hq pi pq' qi, ← bs_r w h7 hp hj hk] at g6
  exact quad6 c3 x x0 x1 e1 e2 x2 g1 g2 g6 x3 e3 e4 x4 g3 g4 g5
end
