theorem fS_ext {χ : tC} {S T : Nat → Prop} (e : ∀ c, S c ↔ T c) {a b : Nat} (f : fS χ S a b) : fS χ T a b :=
  ⟨(e a).mp f.1, (e b).mp f.2.1, f.2.2.1, fun c hc => f.2.2.2 c ((e c).mpr hc)⟩
theorem fS_next {χ : tC} {n : Nat} (w : WS χ n) (h7 : n ≤ 7) (h : qhold χ n = true) {set : Int32} {a b : Nat} (f : fS χ (fun c => c < n ∧ bt set c = true) a b) : ∃ c, fS χ (fun c => c < n ∧ bt set c = true) b c := by
  obtain ⟨f1, f2, f3, f4⟩ := f
  by_cases hx : ∃ c, c < n ∧ c ≠ a ∧ c ≠ b ∧ bt set c = true
  · obtain ⟨r, r1, r2, r3, r4⟩ := fo_next w h7 h f1.1 (q := b) ⟨f2.1, fun z => f3 z.symm, f2.2, fun c c1 c2 c3 c4 => f4 c ⟨c1, c4⟩ c2 c3⟩ hx
    exact ⟨r, f2, ⟨r1, r3⟩, fun z => r2 z.symm, fun c hc c1 c2 => r4 c hc.1 c1 c2 hc.2⟩
  · exact ⟨a, f2, f1, fun z => f3 z.symm, fun c hc c1 c2 => absurd ⟨c, hc.1, c2, c1, hc.2⟩ hx⟩
theorem bt_cut {set : Int32} {m c : Nat} (hm : m ≤ 7) (hc : c < 32) : bt (set &&& (one m - 1)) c = (bt set c && decide (c < m)) := by
  rw [b_and, bt_all hm hc]
/-- two points or more: somebody follows on somebody -/
theorem hull_ex {χ : tC} {n : Nat} (w : WS χ n) (h7 : n ≤ 7) (h : qhold χ n = true) {set : Int32} : ∀ m, m ≤ n → (∃ x y, x < y ∧ y < m ∧ bt set x = true ∧ bt set y = true) → ∃ a b, fS χ (fun c => c < m ∧ bt set c = true) a b := by
  intro m
  induction m with
  | zero => rintro _ ⟨x, y, -, hy, -⟩; omega
  | succ m ih =>
    rintro hm ⟨x, y, xy, hy, bx, by'⟩
    by_cases hb : bt set m = true
    · by_cases h2 : ∃ x y, x < y ∧ y < m ∧ bt set x = true ∧ bt set y = true
      · obtain ⟨a, b, f⟩ := ih (by omega) h2
        have e : ∀ c, (c < m ∧ bt set c = true) ↔ (c < n ∧ bt (set &&& (one m - 1)) c = true) := fun c => by
          constructor
          · rintro ⟨c1, c2⟩
            exact ⟨by omega, by rw [bt_cut (by omega) (by omega), c2]; simpa using c1⟩
          · rintro ⟨c1, c2⟩
            rw [bt_cut (by omega) (by omega)] at c2
            simp only [Bool.and_eq_true, decide_eq_true_eq] at c2
            exact ⟨c2.2, c2.1⟩
        obtain ⟨a', b', f'⟩ := fS_add w h7 h (S := fun c => c < m ∧ bt set c = true) (fun c hc => by have := hc.1; omega) (fun a b g => by
          obtain ⟨c, hc⟩ := fS_next w h7 h (fS_ext e g)
          exact ⟨c, fS_ext (fun c => (e c).symm) hc⟩) (r := m) (by omega) (fun z => absurd z.1 (by omega)) f
        refine ⟨a', b', fS_ext (fun c => ?_) f'⟩
        constructor
        · rintro (⟨c1, c2⟩ | rfl)
          · exact ⟨by omega, c2⟩
          · exact ⟨by omega, hb⟩
        · rintro ⟨c1, c2⟩
          by_cases hc : c = m
          · exact Or.inr hc
          · exact Or.inl ⟨by omega, c2⟩
      · -- only one point before m
        have ym : y = m := by
          apply Classical.byContradiction
          intro hym
          exact h2 ⟨x, y, xy, by omega, bx, by'⟩
        subst ym
        refine ⟨x, y, ⟨by omega, bx⟩, ⟨by omega, hb⟩, by omega, fun c hc c1 c2 => ?_⟩
        exfalso
        have hc' : c < y := by have := hc.1; omega
        by_cases hcx : c < x
        · exact h2 ⟨c, x, hcx, xy, hc.2, bx⟩
        · exact h2 ⟨x, c, by omega, hc', bx, hc.2⟩
    · have ym : y ≠ m := fun z => hb (z ▸ by')
      obtain ⟨a, b, f⟩ := ih (by omega) ⟨x, y, xy, by omega, bx, by'⟩
      refine ⟨a, b, fS_ext (fun c => ?_) f⟩
      constructor
      · rintro ⟨c1, c2⟩; exact ⟨by omega, c2⟩
      · rintro ⟨c1, c2⟩
        have : c ≠ m := fun z => hb (z ▸ c2)
        exact ⟨by omega, c2⟩
