theorem lay_s {χ : tC} {n p m : Nat} {s : Int32} : lay χ n p (m + 1) s = if bt (phull χ n s) p = true then 0 else 1 + lay χ n p m (s &&& (phull χ n s ^^^ -1)) := rfl
