/-! ===== rows for the printed equations ===== -/
theorem t_gn {n : Nat} {P : Prop} : (n = n ∧ P) = P := propext ⟨fun x => x.2, fun x => ⟨rfl, x⟩⟩
theorem t_br {d mi : Nat} {P X : Prop} [Decidable P] {b : Bool} {t f : Nat} {ls st : List Value} {h : tH} {Q : tO → tH → Prop} {A B : Prop} (e : X = AX d mi (if b = true then t else f) ls st h Q) (hA : AX d mi t ls st h Q = A) (hB : AX d mi f ls st h Q = B) (hb : b = decide P := by rfl) : X = (if P then A else B) := by
  rw [e, ← hA, ← hB, hb]
  by_cases hp : P
  · rw [if_pos (decide_eq_true hp), if_pos hp]
  · rw [if_neg (fun z => hp (of_decide_eq_true z)), if_neg hp]
theorem t_cS {X : Prop} {qc : tM} {d ci : Nat} {as : List Value} {h : tH} {K K' : tO → tH → Prop} (e : X = (((true = false → ∃ k, as.head? = some (.ref k) ∧ ∃ cj, t_ob k = some cj ∧ t_oci (tm_oc qc) = some cj) ∧ t_lev qc as < d) ∧ AM ci as h K)) (hl : t_lev qc as < d) (hk : K = K') : X = AM ci as h K' := by
  rw [e, ← hk]
  exact propext ⟨fun x => x.2, fun x => ⟨⟨fun z => (nomatch z), hl⟩, x⟩⟩
theorem t_cSl {X : Prop} {qc : tM} {d ci : Nat} {as : List Value} {h : tH} {K K' : tO → tH → Prop} (e : X = (((true = false → ∃ k, as.head? = some (.ref k) ∧ ∃ cj, t_ob k = some cj ∧ t_oci (tm_oc qc) = some cj) ∧ t_lev qc as < d) ∧ AM ci as h K)) (hk : K = K') : X = (t_lev qc as < d ∧ AM ci as h K') := by
  rw [e, ← hk]
  exact propext ⟨fun x => ⟨x.1.2, x.2⟩, fun x => ⟨⟨fun z => (nomatch z), x.1⟩, x.2⟩⟩
theorem t_cVl {X : Prop} {qc : tM} {d ci k cj : Nat} {as : List Value} {h : tH} {K K' : tO → tH → Prop} (e : X = (((false = false → ∃ k', (Value.ref k :: as).head? = some (.ref k') ∧ ∃ cj, t_ob k' = some cj ∧ t_oci (tm_oc qc) = some cj) ∧ t_lev qc (.ref k :: as) < d) ∧ AM ci (.ref k :: as) h K)) (hc : t_oci (tm_oc qc) = some cj) (hk : K = K') : X = (t_ob k = some cj ∧ t_lev qc (.ref k :: as) < d ∧ AM ci (.ref k :: as) h K') := by
  rw [e, ← hk]
  refine propext ⟨fun x => ?_, fun x => ⟨⟨fun _ => ⟨k, rfl, cj, x.1, hc⟩, x.2.1⟩, x.2.2⟩⟩
  obtain ⟨k', h1, cj', h2, h3⟩ := x.1.1 rfl
  cases h1
  cases hc.symm.trans h3
  exact ⟨h2, x.1.2, x.2⟩
theorem t_cV {X : Prop} {qc : tM} {d ci k cj : Nat} {as : List Value} {h : tH} {K K' : tO → tH → Prop} (e : X = (((false = false → ∃ k', (Value.ref k :: as).head? = some (.ref k') ∧ ∃ cj, t_ob k' = some cj ∧ t_oci (tm_oc qc) = some cj) ∧ t_lev qc (.ref k :: as) < d) ∧ AM ci (.ref k :: as) h K)) (hc : t_oci (tm_oc qc) = some cj) (hl : t_lev qc (.ref k :: as) < d) (hk : K = K') : X = (t_ob k = some cj ∧ AM ci (.ref k :: as) h K') := by
  rw [t_cVl e hc hk]
  exact propext ⟨fun x => ⟨x.1, x.2.2⟩, fun x => ⟨x.1, hl, x.2⟩⟩
theorem AX_t2 {mi pc : Nat} {q : tM} {ins : Instr} {len : Nat} (hq : t_M[mi]? = some q) (hd : decode (tm_by q) pc = .ok (ins, len)) (hs : t_smp q ins = true) {d : Nat} {ls st : List Value} {h : tH} {Q : tO → tH → Prop} {g A B : Prop} {pc' : Nat} {ls' st' : List Value} {h' : tH}
    (e : t_st q pc ls st h len ins = (g, pc', ls', st', h')) (hg : g = (A ∧ B)) : AX d mi pc ls st h Q = (A ∧ B ∧ AX d mi pc' ls' st' h' Q) := (AX_t hq hd hs e hg).trans (propext and_assoc)
