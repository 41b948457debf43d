/-- the hull's points as the model tells them -/
def qhull (χ : tC) (n : Nat) (set : Int32) : Int32 := pO (fun p => bt set p && !decide (pafter χ n set p = -1)) 0 n 0
def qcross (χ : tC) (a b c d : Nat) : Bool := !(decide (a = b) || decide (a = c) || decide (a = d) || decide (b = c) || decide (b = d) || decide (c = d)) && pparts χ a b c d
def qin (χ : tC) (p i j k : Nat) : Bool := psame (χ i j p) (χ j k p) (χ k i p)
def qnone (χ : tC) (n i j k : Nat) : Bool := aB (fun p => decide (p = i) || decide (p = j) || decide (p = k) || !qin χ p i j k) 0 n
/-- the level of two points: the smaller of the two sides -/
def qlev (χ : tC) (n i j : Nat) : Int32 := if nI (cB (fun k => decide (χ i j k = -1)) 0 n) ≤ nI (cB (fun k => decide (χ i j k = 1)) 0 n) then nI (cB (fun k => decide (χ i j k = -1)) 0 n) else nI (cB (fun k => decide (χ i j k = 1)) 0 n)
