/-! ===== the model: leaves ===== -/
def tY (h : tH) (d : Nat) : tC := fun i j k => if i < 7 ∧ j < 7 ∧ k < 7 then h.1 20 (343 * d + 49 * i + 7 * j + k) else 0
def ty (h : tH) (d n : Nat) : Prop := d < 7 ∧ h.1 19 d = nI n ∧ n ≤ 7
theorem vI {k n : Nat} (hk : k < n) (hn : n < 10000) : vp_in (nI k) n = True := eq_true (vp_in_nI hk (by omega))
theorem nC {k : Nat} (hk : k < 10000) : (nI k).toNatClampNeg = k := nI_clamp (by omega)
theorem z2401 {d i j k : Nat} (hd : d < 7) (hi : i < 7) (hj : j < 7) (hk : k < 7) : 343 * d + 49 * i + 7 * j + k < 2401 := by omega
/-- what sets leaves -/
def hSet (h : tH) (d i j k : Nat) (x : Int32) : tH :=
  t_I (t_I (t_I (t_I (t_I (t_I h 20 (343 * d + 49 * i + 7 * j + k) x) 20 (343 * d + 49 * j + 7 * k + i) x) 20 (343 * d + 49 * k + 7 * i + j) x) 20 (343 * d + 49 * i + 7 * k + j) (-x)) 20 (343 * d + 49 * k + 7 * j + i) (-x)) 20 (343 * d + 49 * j + 7 * i + k) (-x)
def psame (x y z : Int32) : Bool := decide (x = y) && decide (y = z)
def q4 (χ : tC) (a b c d : Nat) : Bool := !(decide (χ b c d = χ a d c) && psame (χ b c d) (χ a b d) (χ a c b))
def q5 (χ : tC) (a b c d e : Nat) : Bool := !psame (χ a b c * χ a d e) (χ a b d * χ a e c) (χ a b e * χ a c d)
def q5x (χ : tC) (n i j k l : Nat) : Bool := aB (fun e => decide (e = i) || decide (e = j) || decide (e = k) || decide (e = l) || q5 χ e i j k l) 0 n
def qh4 (χ : tC) (n i j k : Nat) : Nat → Bool := fun l => q4 χ i j k l && q5x χ n i j k l
def qh3 (χ : tC) (n i j : Nat) : Nat → Bool := fun k => aB (qh4 χ n i j k) (k + 1) (n - (k + 1))
def qh2 (χ : tC) (n i : Nat) : Nat → Bool := fun j => aB (qh3 χ n i j) (j + 1) (n - (j + 1))
def qh1 (χ : tC) (n : Nat) : Nat → Bool := fun i => aB (qh2 χ n i) (i + 1) (n - (i + 1))
/-- all signs of a drawing hold -/
def qhold (χ : tC) (n : Nat) : Bool := aB (qh1 χ n) 0 n
