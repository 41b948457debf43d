/-! ===== what every end of the machine keeps ===== -/
/-- the script stays; the classes' methods make an exception just when they end with one; a helper makes one at most -/
def ex1 (o : tO) : Nat := match o with
  | .inl _ => 0
  | .inr _ => 1
def kp : tR := fun _ mi pc _ _ h o h' => (h'.1 33 = h.1 33 ∧ h'.1 34 = h.1 34) ∧ (mi < 172 → h'.2.2.2 = h.2.2.2 + ex1 o) ∧ (172 ≤ mi → ∀ c, t_lk hcap mi pc = some c → h'.2.2.2 ≤ h.2.2.2 + c)
theorem kp_0 {d mi pc : Nat} {ls st : List Value} {h : tH} {v : Option Value} : kp d mi pc ls st h (.inl v) h := ⟨⟨rfl, rfl⟩, fun _ => rfl, fun _ _ _ => Nat.le_add_right _ _⟩
theorem tM_c {mi : Nat} {q : tM} (hm : mi < 172) (hq : t_M[mi]? = some q) : tm_oc q ≠ 13 ∧ tm_hh q = [] := by
  have := tM_172 mi hm
  rw [hq] at this
  have this : (decide (tm_oc q ≠ 13) && (tm_hh q).isEmpty) = true := this
  rw [Bool.and_eq_true, decide_eq_true_eq, List.isEmpty_iff] at this
  exact this
theorem ct_c {q : tM} {i ci : Nat} (ho : tm_oc q ≠ 13) (h : t_lk t_ct (tm_oc q) i = some ci) : ci < 172 := by
  have := List.all_eq_true.mp ct_172 _ (t_lk_mem _ _ _ _ h)
  rw [Bool.or_eq_true, decide_eq_true_eq, decide_eq_true_eq] at this
  rcases this with e | e
  · exact absurd e ho
  · exact e
theorem kp_in : ∀ d mi pc ls st h o h', t_G kp d mi pc ls st h o h' → kp d mi pc ls st h o h' := by
  intro d mi pc ls st h o h' hG
  obtain ⟨q, ins, len, hq, hd, hdo⟩ := hG
  have hokc : ∀ c, t_lk hcap mi pc = some c → hok (mi, pc, c) = true := fun c hc => List.all_eq_true.mp hcap_ok _ (t_lk_mem _ _ _ _ hc)
  by_cases hs : t_smp q ins = true
  · rw [t_do_s hs] at hdo
    obtain ⟨g, e1, e2, e3⟩ := hdo
    have f := t_st_33 _ rfl g
    have x := t_st_exc rfl g
    refine ⟨⟨e1.1.trans f.1, e1.2.trans f.2⟩, fun hm => by rw [← x]; exact e2 hm, fun hm c hc => ?_⟩
    have k := hokc c hc
    unfold hok at k
    simp only [hq, hd] at k
    have go : ∀ l, sucs ins pc len = some l → l.all (fun p => match t_lk hcap mi p with | some c' => decide (c' ≤ c) | none => false) = true → h'.2.2.2 ≤ h.2.2.2 + c := fun l hl ha => by
      have m := List.all_eq_true.mp ha _ (t_st_pc hl _ rfl g)
      cases r : t_lk hcap mi (t_st q pc ls st h len ins).2.1 with
      | none => simp only [r] at m; cases m
      | some c' =>
        simp only [r, decide_eq_true_eq] at m
        have := e3 hm c' r
        rw [x] at this
        omega
    rw [if_pos hs] at k
    cases sl : sucs ins pc len with
    | none => rw [sl] at k; cases k
    | some l => rw [sl] at k; exact go l sl k
  · have hcall : ∀ (i : Nat) (stat : Bool), ((ins = .invokevirtual i ∧ stat = false) ∨ (ins = .invokestatic i ∧ stat = true)) → t_cl kp q d mi pc ls st h o h' len i stat → kp d mi pc ls st h o h' := by
      intro i stat hi hcl
      obtain ⟨-, ci, qc, a1, a2, -, -, -, -, -, -, o1, h1, c0, b⟩ := hcl
      obtain ⟨f1, f2, f3⟩ := c0
      unfold t_back at b
      by_cases hm : mi < 172
      · obtain ⟨n1, n2⟩ := tM_c hm hq
        have c7 := ct_c n1 a1
        cases o1 with
        | inl v =>
          obtain ⟨-, g1, g2, -⟩ := b
          refine ⟨⟨g1.1.trans f1.1, g1.2.trans f1.2⟩, fun _ => ?_, fun z => by omega⟩
          rw [g2 hm, f2 c7]
          rfl
        | inr E =>
          rw [n2] at b
          obtain ⟨rfl, rfl⟩ := b
          exact ⟨f1, fun _ => f2 c7, fun z => by omega⟩
      · have hfr : (h'.1 33 = h.1 33 ∧ h'.1 34 = h.1 34) := by
          cases o1 with
          | inl v => exact ⟨b.2.1.1.trans f1.1, b.2.1.2.trans f1.2⟩
          | inr E =>
            dsimp only at b
            cases hh : t_hd (tm_oc q) pc E (tm_hh q) with
            | none => rw [hh] at b; obtain ⟨rfl, rfl⟩ := b; exact f1
            | some hp =>
              rw [hh] at b
              obtain ⟨k, len2, -, -, -, g1, -⟩ := b
              exact ⟨g1.1.trans f1.1, g1.2.trans f1.2⟩
        refine ⟨hfr, fun z => absurd z hm, fun hm2 c hc => ?_⟩
        have k := hokc c hc
        unfold hok at k
        simp only [hq, hd] at k
        rw [if_neg hs] at k
        rcases hi with ⟨rfl, rfl⟩ | ⟨rfl, rfl⟩
        · simp only [a1, Bool.and_eq_true, decide_eq_true_eq] at k
          obtain ⟨⟨⟨rfl, c7⟩, k3⟩, k4⟩ := k
          have e1 := f2 c7
          cases o1 with
          | inl v =>
            obtain ⟨-, -, -, g3⟩ := b
            have := g3 hm2 0 k3
            have e1 : h1.2.2.2 = h.2.2.2 + 0 := e1
            omega
          | inr E =>
            have e1 : h1.2.2.2 = h.2.2.2 + 1 := e1
            dsimp only at b
            cases hh : t_hd (tm_oc q) pc E (tm_hh q) with
            | none => rw [hh] at b; obtain ⟨rfl, rfl⟩ := b; omega
            | some hp =>
              rw [hh] at b
              obtain ⟨kk, len2, t1, -, -, g1, -, g3⟩ := b
              have mem : ∃ z, z ∈ tm_hh q ∧ z.2.2.1 = hp := by
                clear k4
                revert hh
                generalize tm_hh q = l
                induction l with
                | nil => intro hh; cases hh
                | cons z l ih =>
                  intro hh
                  obtain ⟨a, b', c', e⟩ := z
                  unfold t_hd at hh
                  split at hh
                  · exact ⟨_, List.mem_cons_self, by injection hh⟩
                  · obtain ⟨w, w1, w2⟩ := ih hh
                    exact ⟨w, List.mem_cons_of_mem _ w1, w2⟩
              obtain ⟨z, z1, z2⟩ := mem
              have k5 := List.all_eq_true.mp k4 z z1
              rw [z2, t1] at k5
              simp only [decide_eq_true_eq] at k5
              have := g3 hm2 0 k5
              omega
        · simp at k
    cases ins with
    | invokevirtual i => exact hcall i false (Or.inl ⟨rfl, rfl⟩) hdo
    | invokestatic i =>
      have hs' : ¬ (t_lk t_mt (tm_oc q) i).isSome = true := hs
      simp only [t_do] at hdo
      rw [if_neg hs'] at hdo
      exact hcall i true (Or.inr ⟨rfl, rfl⟩) hdo
    | ireturn => obtain ⟨-, x, -, rfl, rfl, -⟩ := hdo; exact kp_0
    | lreturn => obtain ⟨-, x, -, rfl, rfl, -⟩ := hdo; exact kp_0
    | areturn => obtain ⟨-, x, -, -, rfl, rfl, -⟩ := hdo; exact kp_0
    | return_ => obtain ⟨-, -, rfl, rfl, -⟩ := hdo; exact kp_0
    | new i =>
      obtain ⟨-, hh, E, -, rfl, rfl⟩ := hdo
      refine ⟨⟨rfl, rfl⟩, fun _ => rfl, fun hm c hc => ?_⟩
      have k := hokc c hc
      unfold hok at k
      simp only [hq, hd] at k
      rw [if_neg hs] at k
      cases k
    | _ => exact absurd rfl hs
/-- of a run -/
theorem rn_kp {mi : Nat} {as : List Value} {h h' : tH} {r : tO} (hr : rn mi as h r h') : (h'.1 33 = h.1 33 ∧ h'.1 34 = h.1 34) ∧ (mi < 172 → h'.2.2.2 = h.2.2.2 + ex1 r) ∧ (172 ≤ mi → ∀ c, t_lk hcap mi 0 = some c → h'.2.2.2 ≤ h.2.2.2 + c) := by
  have a : AM mi as h (fun _ _ => True) := by rw [hr]; trivial
  obtain ⟨qc, hq, o, h'', ev, -⟩ := a
  have b : AM mi as h (fun o1 h1 => o1 = o ∧ h1 = h'') := ⟨qc, hq, o, h'', ev, rfl, rfl⟩
  rw [hr] at b
  obtain ⟨rfl, rfl⟩ := b
  exact ev kp kp_in
