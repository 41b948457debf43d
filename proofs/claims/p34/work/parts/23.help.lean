/-! ===== the law's helpers ===== -/
/-- from this call on the machine ends so -/
def rn (mi : Nat) (as : List Value) (h : tH) (r : tO) (h' : tH) : Prop := ∀ Q : tO → tH → Prop, AM mi as h Q = Q r h'
theorem t_kb_E {q qc : tM} {d mi pc : Nat} {ls rest : List Value} {Q : tO → tH → Prop} {E hp k len2 : Nat} {h : tH} (h1 : t_hd (tm_oc q) pc E (tm_hh q) = some hp) (h2 : t_as (decode (tm_by q) hp) = some (k, len2)) (h3 : k < ls.length) (h4 : t_nl ls k = true) :
    t_kb q qc d mi pc ls rest Q (.inr E) h = AX d mi (hp + len2) (ls.set k (.float 0)) [] h Q := by
  unfold t_kb
  dsimp only
  rw [h1]
  dsimp only
  refine propext ⟨fun ⟨k', l', a, b, c, x⟩ => ?_, fun x => ⟨k, len2, h2, h3, h4, x⟩⟩
  rw [h2] at a
  cases a
  exact x
theorem t_kb_V {q qc : tM} {d mi pc : Nat} {ls rest : List Value} {Q : tO → tH → Prop} {v : Option Value} {h : tH} (h1 : t_tyo (tm_rt qc) v) :
    t_kb q qc d mi pc ls rest Q (.inl v) h = AX d mi (pc + 3) ls (v.toList ++ rest) h Q := by
  unfold t_kb
  dsimp only
  exact propext ⟨fun x => x.2, fun x => ⟨h1, x⟩⟩
def i64b (b : Bool) : Int64 := if b = true then 1 else 0
