/-! ===== the heap of new things ===== -/
def h00 (xs : Nat → Int32) (L k0 : Nat) : tH := (fun a b => if a = 33 then xs b else if a = 34 then (if b = 0 then nI L else 0) else 0, fun _ _ => 0, none, k0)
theorem h00_z {xs : Nat → Int32} {L k0 a b : Nat} (h1 : a ≠ 33) (h2 : a ≠ 34) : (h00 xs L k0).1 a b = 0 := by
  show (if a = 33 then xs b else if a = 34 then (if b = 0 then nI L else 0) else 0) = 0
  rw [if_neg h1, if_neg h2]
theorem PI_00 {xs : Nat → Int32} {L k0 : Nat} (hL : L ≤ 260) : PI (h00 xs L k0) 0 k0 L :=
  ⟨h00_z (by decide) (by decide), by decide, fun p hp => by omega, fun i j k _ _ hk => by omega, ⟨h00_z (by decide) (by decide), h00_z (by decide) (by decide), fun d hd => ⟨h00_z (by omega) (by omega), h00_z (by omega) (by omega)⟩, fun c _ => h00_z (by decide) (by decide)⟩, ⟨rfl, by omega⟩, Nat.le_refl _⟩
