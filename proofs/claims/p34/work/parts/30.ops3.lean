/-! ===== number, cross, edge ===== -/
theorem nI_l1 : nI 1 = 1 := rfl
theorem nI_l2 : nI 2 = 2 := rfl
theorem pI_x {x : Int32} {n : Nat} (h : ¬ pI x n = true) : pI x n = false := by simpa using h
def un4 (a b c e : Int32) : Bool := decide (a = b) || decide (a = c) || decide (a = e) || decide (b = c) || decide (b = e) || decide (c = e)
