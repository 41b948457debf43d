def SM (h : tH) (s : Nat) : Prop := h.1 13 1 = nI s ∧ s ≤ 7 ∧ (∀ p, p < s → h.1 14 p = h.1 2 p ∧ h.1 15 p = h.1 3 p ∧ rg (h.1 2 p) ∧ rg (h.1 3 p))
theorem SV_SM {h : tH} {s : Nat} (v : SV h s) : SM h s := ⟨v.2.1, v.2.2.1, v.2.2.2.1⟩
