/-! ===== the small machine: what the methods of this claim do, said over numbers alone ===== -/
/-- whole numbers (fields and cells), longs, the drawing that is being named, how many exceptions were made -/
abbrev tH : Type := (Nat → Nat → Int32) × (Nat → Nat → Int64) × Option Nat × Nat
/-- how a method ends: with an answer, or with an exception of a number -/
abbrev tO : Type := Option Value ⊕ Nat
abbrev tR : Type := Nat → Nat → Nat → List Value → List Value → tH → tO → tH → Prop
/-- a method: its kind, name, bytes, locals, answer, table, arguments (with the receiver), static, level, the argument that bounds its recursion (plus 1) -/
abbrev tM : Type := Nat × MethodName × ByteArray × Nat × Option FieldType × List (Nat × Nat × Nat × Nat) × Nat × Bool × Nat × Nat
abbrev tm_oc (q : tM) : Nat := q.1
abbrev tm_y (q : tM) : MethodName := q.2.1
abbrev tm_by (q : tM) : ByteArray := q.2.2.1
abbrev tm_ml (q : tM) : Nat := q.2.2.2.1
abbrev tm_rt (q : tM) : Option FieldType := q.2.2.2.2.1
abbrev tm_hh (q : tM) : List (Nat × Nat × Nat × Nat) := q.2.2.2.2.2.1
abbrev tm_na (q : tM) : Nat := q.2.2.2.2.2.2.1
abbrev tm_st (q : tM) : Bool := q.2.2.2.2.2.2.2.1
abbrev tm_lv (q : tM) : Nat := q.2.2.2.2.2.2.2.2.1
abbrev tm_rc (q : tM) : Nat := q.2.2.2.2.2.2.2.2.2
def t_I (h : tH) (k i : Nat) (x : Int32) : tH := (fun a b => if a = k ∧ b = i then x else h.1 a b, h.2)
def t_L (h : tH) (k i : Nat) (x : Int64) : tH := (h.1, fun a b => if a = k ∧ b = i then x else h.2.1 a b, h.2.2)
def t_N (h : tH) (x : Option Nat) : tH := (h.1, h.2.1, x, h.2.2.2)
def t_X (h : tH) : tH := (h.1, h.2.1, h.2.2.1, h.2.2.2 + 1)
def t_lk {α : Type} : List (Nat × Nat × α) → Nat → Nat → Option α
  | [], _, _ => none
  | (x, y, v) :: l, a, b => if x = a ∧ y = b then some v else t_lk l a b
theorem t_lk_mem {α : Type} : ∀ (l : List (Nat × Nat × α)) (a b : Nat) (v : α), t_lk l a b = some v → (a, b, v) ∈ l
  | [], a, b, v, h => by cases h
  | (x, y, w) :: l, a, b, v, h => by
    unfold t_lk at h
    split at h
    · next hc => cases h; rw [hc.1, hc.2]; exact List.mem_cons_self
    · exact List.mem_cons_of_mem _ (t_lk_mem l a b v h)
/-- the number of the law's method that makes a row -/
abbrev t_SH : Nat := 112
/-- the row that it makes, as it begins -/
def t_A (h : tH) : tH := (fun a b => if a = 35 then 0 else if a = 36 ∧ b = 0 then 1 else h.1 a b, h.2.1, h.2.2.1, h.2.2.2 + 1)
/-- without that row -/
def t_dr (h : tH) : tH := (fun a b => if a = 36 ∧ b = 0 then 0 else h.1 a b, h.2)
/-- of which kind a thing is -/
def t_ob (k : Nat) : Option Nat :=
  if k = 0 then some 0 else if k = 1 then some 1 else if k = 4 then some 2 else if k = 9 then some 3 else if k = 11 then some 4 else if 40 ≤ k ∧ k < 46 then some 5 else if 70 ≤ k ∧ k < 77 then some 6 else none
/-- what row a thing is: 0 of ints, 1 of booleans, 2 of longs, 3 of drawings; how long -/
def t_ar (k : Nat) : Option (Nat × Nat) :=
  if k = 2 ∨ k = 3 ∨ k = 6 ∨ k = 12 ∨ k = 14 ∨ k = 15 ∨ (50 ≤ k ∧ k < 56) ∨ (60 ≤ k ∧ k < 66) then some (0, 7)
  else if k = 5 ∨ k = 10 then some (0, 21)
  else if k = 7 ∨ k = 16 then some (0, 49)
  else if 80 ≤ k ∧ k < 87 then some (0, 343)
  else if k = 8 then some (3, 6)
  else none
/-- the script is the row 33; its length is told by 34; the row 35 is there while 36 tells so -/
def t_ai (h : tH) (k : Nat) : Option Nat := if k = 33 then some (h.1 34 0).toNatClampNeg else if k = 35 then (if h.1 36 0 = 1 then some 4 else none) else match t_ar k with
  | some (0, n) => some n
  | _ => none
def t_ln (h : tH) (k : Nat) : Option Nat := if k = 33 then some (h.1 34 0).toNatClampNeg else match t_ar k with
  | some (_, n) => some n
  | _ => none
/-- the things that fields hold for ever: kind, slot, whose -/
def t_rv (ci sl k : Nat) : Value := match ci, sl with
  | 0, 0 => .ref 1
  | 0, 1 => .ref 4
  | 0, 2 => .ref 8
  | 0, 4 => .ref 9
  | 0, 5 => .ref 11
  | 0, 6 => .ref 76
  | 1, 0 => .ref 2
  | 1, 1 => .ref 3
  | 2, 0 => .ref 5
  | 2, 1 => .ref 6
  | 2, 2 => .ref 7
  | 3, 0 => .ref 10
  | 4, 0 => .ref 12
  | 5, 0 => .ref (k + 30)
  | 5, 1 => .ref (k + 10)
  | 5, 2 => .ref (k + 20)
  | 6, 0 => .ref (k + 10)
  | _, _ => .null
/-- what a field holds, by its kind: 0 a number, 1 a boolean, 2 a long, 3 a thing for ever, 4 the named drawing's signs -/
def t_fv (h : tH) (ci sl ty k : Nat) : Value := match ty with
  | 0 => .int (h.1 k sl)
  | 1 => .int (h.1 k sl)
  | 2 => .long (h.2.1 k sl)
  | 3 => t_rv ci sl k
  | _ => .null
def t_in (o : Option Nat) (i : Int32) : Prop := ∃ n, o = some n ∧ vp_in i n
def t_bo (k : Nat) : Option Nat := match t_ar k with
  | some (1, n) => some n
  | _ => none
def t_lo (k : Nat) : Option Nat := match t_ar k with
  | some (2, n) => some n
  | _ => none
def t_ro (k : Nat) : Option Nat := match t_ar k with
  | some (3, n) => some n
  | _ => none
/-- no long lies just below this cell -/
def t_nl (ls : List Value) (i : Nat) : Bool := match i with
  | 0 => true
  | j + 1 => match ls[j]? with
    | some v => !(v.category == 2)
    | none => true
def t_cb (c : ClassFile.Cond) (x y : Int32) : Bool := match c with
  | .eq => decide (x = y)
  | .ne => decide (¬ x = y)
  | .lt => decide (x < y)
  | .ge => decide (y ≤ x)
  | .gt => decide (y < x)
  | .le => decide (x ≤ y)
abbrev tN : Type := Prop × (Nat × List Value × List Value × tH)
def t_bad : tN := (False, 0, [], [], (fun _ _ => 0, fun _ _ => 0, none, 0))
