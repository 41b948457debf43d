theorem t_st_exc {q : tM} {pc len : Nat} {ls st : List Value} {h : tH} {ins : Instr} {n : tN} (hn : t_st q pc ls st h len ins = n) (hg : n.1) : n.2.2.2.2.2.2.2 = h.2.2.2 := by
  subst hn
  cases ins <;> simp only [t_st] at hg ⊢ <;> first | rfl | exact hg.elim | skip
  all_goals (repeat' split at hg) <;> first | rfl | exact hg.elim | (simp_all; done) | (rename_i hz hy; rw [if_neg hz]; done) | (repeat' split) <;> first | rfl | (simp_all; done) | contradiction
/-- a step behind which the small machine speaks true -/
theorem t_closed {l : Launch} (hl : l.stackTraces = false) : ∀ d mi pc ls st h o h', t_G (fun d mi pc ls st h o h' => ∀ g, t_Sem l g d mi pc ls st h o h') d mi pc ls st h o h' → ∀ g, t_Sem l g d mi pc ls st h o h' := by
  intro d mi pc ls st h o h' hG9 g
  obtain ⟨q, ins, len, hq, hd, hdo⟩ := hG9
  by_cases hs : t_smp q ins = true
  · rw [t_do_s hs] at hdo
    obtain ⟨hg, hN⟩ := hdo
    obtain ⟨hm, hnext⟩ := hN g
    have hex := t_st_exc (n := t_st q pc ls st h len ins) rfl hg
    rw [hex] at hm
    refine ⟨hm, ?_⟩
    intro q2 p e R s m args below meth c e0 Qw hq2 C hR1 hR2 he0 hR3 hR4 hF H locs lsA hW hS hlr
    cases hq.symm.trans hq2
    refine t_sim C (by omega) (by omega) (by omega) (by omega) hd hs rfl hg ?_ H locs lsA hW hS hlr
    intro H1 locs1 lsA1 hW1 hS1 hlr1
    have := hnext q p e R s m args below meth c e0 Qw hq C hR1 hR2 (by rw [hex]; exact he0) hR3 hR4 hF H1 locs1 lsA1 hW1 hS1 hlr1
    rw [hex] at this
    exact this
  · have hcall : ∀ (i : Nat) (stat : Bool), ((ins = .invokevirtual i ∧ stat = false) ∨ (ins = .invokestatic i ∧ stat = true)) → t_cl (fun d mi pc ls st h o h' => ∀ g, t_Sem l g d mi pc ls st h o h') q d mi pc ls st h o h' len i stat → t_Sem l g d mi pc ls st h o h' := by
      intro i stat hi hcl
      obtain ⟨rfl, ci, qc, a1, a2, a3, a4, a5, a6, a7, a8, o1, h1, a9, a11, a10⟩ := hcl
      have a9 := a9 g
      generalize has : (st.take (tm_na qc)).reverse = as at a6 a7 a8 a9
      generalize hrs : st.drop (tm_na qc) = rest at a5 a10
      have hst9 : st = as.reverse ++ rest := by rw [← has, ← hrs, List.reverse_reverse, List.take_append_drop]
      have hna : as.length = tm_na qc := by rw [← has, List.length_reverse, List.length_take]; omega
      have hm1 := a9.1
      have hm2 : h1.2.2.2 ≤ h'.2.2.2 := by
        unfold t_back at a10
        rw [← t_dc_n ci h1]
        cases o1 with
        | inl v => exact (a10.2 g).1
        | inr E =>
          dsimp only at a10
          cases hhd : t_hd (tm_oc q) pc E (tm_hh q) with
          | none => rw [hhd] at a10; rw [a10.2]; exact Nat.le_refl _
          | some hp =>
            rw [hhd] at a10
            obtain ⟨k, len2, -, -, -, b⟩ := a10
            exact (b g).1
      refine ⟨Nat.le_trans hm1 hm2, ?_⟩
      intro q2 p e R s m args below meth c e0 Qw hq2 C hR1 hR2 he0 hR3 hR4 hF H locs lsA hW hS hlr
      cases hq.symm.trans hq2
      have hrun := t_run (e := e) (R := R) (args := args) (below := below) hl C hd hi a1 a2 a3 hna a5 a6 a7 a8 hR1 hR2 a9 a11 hW hS hlr.1 (cells := h.2.2.2 - e0) (slots := 6 * (h.2.2.2 - e0)) (by omega) (by omega)
      rw [← hst9] at hrun
      have hc9 : h.2.2.2 - e0 + (h1.2.2.2 - h.2.2.2) = h1.2.2.2 - e0 := by omega
      have hs9 : 6 * (h.2.2.2 - e0) + 6 * (h1.2.2.2 - h.2.2.2) = 6 * (h1.2.2.2 - e0) := by omega
      have C0 := C
      obtain ⟨hx, hb, hml, hown, hlocks, hrt, htab, hEn, hG, hA⟩ := C
      intro T hT X
      rcases hrun T hT X with ⟨v, st₀, t, T', L, h0, X', hL, e1, e2, ⟨⟨v1, ho1, hv1, hWd⟩, hFr⟩, hgo⟩ | ⟨q9, st₀, t, T', L, E, ce, h0, X', hL, e1, e2, ⟨⟨n, ho1, hn3, hE, hWd⟩, hFr⟩, hce, hcv, hcl, hgo⟩
      · cases hv1
        subst ho1
        obtain ⟨-, -, k3⟩ := vx_keep h0 e1 hS (fun _ _ h => h) (fun _ h => h) hL hFr
        rw [hc9, hs9, ← t_dc_n ci h1] at X'
        obtain ⟨b1, b2⟩ := a10
        rw [e1] at k3
        obtain ⟨t2, c1, c2⟩ := (b2 g).2 q p e R s m args below meth c e0 Qw hq C0 hR1 hR2 (by rw [t_dc_n]; omega) hR3 hR4 hF t.heap (locs ++ L) lsA hWd k3 hlr T' e1 X'
        refine ⟨t2, hgo t2 ?_, c2⟩
        rw [List.map_append] at c1
        cases v1 with
        | none => exact c1
        | some v1 => exact c1
      · subst ho1
        obtain ⟨-, -, k3⟩ := vx_keep h0 e1 hS (fun _ _ h => h) (fun _ h => h) hL hFr
        rw [hc9, hs9, ← t_dc_n ci h1] at X'
        rw [e1] at k3
        rw [hE] at hcl
        unfold t_back at a10
        dsimp only at a10
        cases hhd : t_hd (tm_oc q) pc n (tm_hh q) with
        | none =>
          rw [hhd] at a10
          obtain ⟨rfl, rfl⟩ := a10
          obtain ⟨t2, c1, c2⟩ := (hF g (t_al_r _ _)).1 pc lsA (rest.map (t_cv g)) t.heap (locs ++ L) q9 ce hWd k3 hce hcv hcl hn3 hhd T' e1 X'
          exact ⟨t2, hgo.trans c1, c2⟩
        | some hp =>
          rw [hhd] at a10
          obtain ⟨k, len2, b1, b2, b3, b4⟩ := a10
          obtain ⟨pre, x, suf, f1, f2, f3, f4⟩ := t_hd_some _ hhd
          obtain ⟨x1, x2, x3⟩ := t_eok _ (t_lk_mem _ _ _ _ f3.2.2)
          have hsplit : c.exceptionTable.toList = tableOf pre ++ (⟨x.1, x.2.1, x.2.2.1, x.2.2.2⟩ : ExceptionTableEntry) :: tableOf suf := by
            rw [htab, f1]
            unfold tableOf
            rw [List.map_append, List.map_cons]
          have hcast : (Cond.castable (t_xn n) (t_xn n)).before args s = true := by
            match n, hn3 with
            | 0, _ => exact hEn.word t_cast_0.1 t_cast_0.2
            | 1, _ => exact hEn.word t_cast_1.1 t_cast_1.2
            | 2, _ => exact hEn.word t_cast_2.1 t_cast_2.2
          have hpass : ∀ z ∈ tableOf pre, covers z pc = false ∨ (z.catchType ≠ 0 ∧ ∃ nm : String, (Cond.classLink (t_cn (tm_oc q)) z.catchType nm).before args s = true ∧ va_Nc (t_xn n) nm s) := by
            intro z hz
            obtain ⟨y, hy, rfl⟩ := List.mem_map.mp hz
            exact t_pass C0 hq hn3 (by rw [f1]; exact List.mem_append_left _ hy) (f4 y hy)
          have hcov : covers (⟨x.1, x.2.1, x.2.2.1, x.2.2.2⟩ : ExceptionTableEntry) pc = true := by
            simp [covers, f3.1, f3.2.1]
          have hW9 : W p l e R s m args below meth c t.heap (locs ++ L) ((t_dc ci h1).2.2.2 - e0) (6 * ((t_dc ci h1).2.2.2 - e0)) Qw (F0 m hp lsA [.ref q9]) := by
            unfold t_as at b1
            split at b1
            · next k' hd9 =>
              cases b1
              refine lv_astore hx hb hd9 (t_lr_has hlr) (by rw [← hlr.2.1]; exact b2) rfl (fun ls1 hl1 => ?_)
              exact (b4 g).2 q p e R s m args below meth c e0 Qw hq C0 hR1 hR2 (by rw [t_dc_n]; omega) hR3 hR4 hF t.heap (locs ++ L) ls1 hWd k3 (t_lr_st1 (w := .float 0) b3 hlr.2.1 (fun z => by cases z) hl1)
            · next k' hd9 =>
              cases b1
              refine lv_astore_n hx hb hd9 rfl (t_lr_has hlr) (by rw [← hlr.2.1]; exact b2) rfl (fun ls1 hl1 => ?_)
              exact (b4 g).2 q p e R s m args below meth c e0 Qw hq C0 hR1 hR2 (by rw [t_dc_n]; omega) hR3 hR4 hF t.heap (locs ++ L) ls1 hWd k3 (t_lr_st1 (w := .float 0) b3 hlr.2.1 (fun z => by cases z) hl1)
            · cases b1
          have hcat := vx_catch (Q := Qw) (pc := pc) (ls := lsA) (rest := rest.map (t_cv g)) hown (tableOf pre) ⟨x.1, x.2.1, x.2.2.1, x.2.2.2⟩ (tableOf suf) hsplit hpass hcov x2 (hEn.word x3 rfl) hcast hce hcv hcl (by show W p l e R s m args below meth c t.heap (locs ++ L) ((t_dc ci h1).2.2.2 - e0) (6 * ((t_dc ci h1).2.2.2 - e0)) Qw (F0 m x.2.2.1 lsA [.ref q9]); rw [f2]; exact hW9)
          obtain ⟨t2, c1, c2⟩ := hcat T' e1 X'
          exact ⟨t2, hgo.trans c1, c2⟩
    have hret : ∀ v : Option Value, len = 1 → st = v.toList → o = .inl v → h' = h → t_ri q ins v → t_Sem l g d mi pc ls st h o h' := by
      intro v hlen hst ho hh hri
      subst hlen; subst ho; subst hh; subst hst
      refine ⟨Nat.le_refl _, ?_⟩
      intro q2 p e R s m args below meth c e0 Qw hq2 C hR1 hR2 he0 hR3 hR4 hF H locs lsA hW hS hlr
      cases hq.symm.trans hq2
      have := hF g (t_al_r _ _) pc ins H locs lsA hW hS hri hd
      cases v with
      | none => exact this
      | some v => exact this
    cases ins with
    | invokevirtual i => exact hcall i false (Or.inl ⟨rfl, rfl⟩) hdo
    | invokestatic i =>
      simp only [t_smp] at hs
      simp only [t_do, hs, if_false] at hdo
      exact hcall i true (Or.inr ⟨rfl, rfl⟩) hdo
    | ireturn =>
      obtain ⟨h1, x, h2, h3, h4, h5⟩ := hdo
      exact hret (some (.int x)) h1 h2 h3 h4 (Or.inl ⟨x, rfl, rfl, h5⟩)
    | lreturn =>
      obtain ⟨h1, x, h2, h3, h4, h5⟩ := hdo
      exact hret (some (.long x)) h1 h2 h3 h4 (Or.inr (Or.inl ⟨x, rfl, rfl, h5⟩))
    | areturn =>
      obtain ⟨h1, v, h2, h3, h4, h5, h6⟩ := hdo
      exact hret (some v) h1 h2 h4 h5 (Or.inr (Or.inr (Or.inl ⟨v, rfl, rfl, h3, h6⟩)))
    | return_ =>
      obtain ⟨h1, h2, h3, h4, h5⟩ := hdo
      exact hret none h1 h2 h3 h4 (Or.inr (Or.inr (Or.inr ⟨rfl, rfl, h5⟩)))
    | new i =>
      obtain ⟨h1, h2, E, h3, h4, h5⟩ := hdo
      subst h1; subst h4; subst h5
      refine ⟨Nat.le_succ _, ?_⟩
      intro q2 p e R s m args below meth c e0 Qw hq2 C hR1 hR2 he0 hR3 hR4 hF H locs lsA hW hS hlr
      cases hq.symm.trans hq2
      exact (hF g (t_al_r _ _)).2 pc i len lsA H locs h rfl he0 hW hS hlr.1 h2 h3
    | newarray t9 =>
      obtain ⟨h1, h2, h3, h4, h5, h6, hN⟩ := hdo
      subst h1; subst h2; subst h4
      have hm9 := (hN g).1
      refine ⟨Nat.le_trans (Nat.le_succ _) hm9, ?_⟩
      intro q2 p e R s m args below meth c e0 Qw hq2 C hR1 hR2 he0 hR3 hR4 hF H locs lsA hW hS hlr
      cases hq.symm.trans hq2
      have C0 := C
      obtain ⟨hx, hb, hml, hown, hlocks, hrt, htab, hEn, hG, hA⟩ := C
      have hc9 : h.2.2.2 + 1 ≤ h'.2.2.2 := hm9
      refine va_newa (atype := .int) (N' := 4) (a0 := (4, .inl fun _ => 0)) (ty := .int) hx hb (hEn.2.2.2.2.2.2.2 args) rfl hEn.1 hW.1 (t_ws_D hG hW) hS hA (fun _ => rfl) (by decide) (by decide) (by decide) (by omega) (by omega) hd (fun a cA H1 hK1 hP1 hD1 hS1 => ?_)
      have hcA : cA = g.2.2.1 0 := by
        have x : s.vm.findClass ("[" ++ FieldType.int.toString) = some cA := (hK1.2 2 _ rfl).2
        have y : s.vm.findClass ("[" ++ FieldType.int.toString) = some (g.2.2.1 0) := (hK1.2 0 _ rfl).2
        exact Option.some.inj (x.symm.trans y)
      subst hcA
      obtain ⟨g1, hg1⟩ : ∃ g1 : tE, g1 = (fun k => if k = 35 then a else g.1 k, g.2) := ⟨_, rfl⟩
      have k1 : ∀ k, k ≠ 35 → g1.1 k = g.1 k := fun k hk => by rw [hg1]; exact if_neg hk
      have k2 : g1.1 35 = a := by rw [hg1]; rfl
      have k3 : g1.2 = g.2 := by rw [hg1]
      have hal : t_al mi g g1 := Or.inr ⟨h3, k3, k1⟩
      have hG1 : t_Gd g1 := by
        obtain ⟨x1, x2, x3, x4, x5⟩ := hG
        unfold t_Gd
        rw [k3]
        refine ⟨x1, by rw [k1 33 (by decide)]; exact x2, x3, fun i j hi hj hij => ?_, fun i hi => ?_⟩
        · rw [k1 i (t_ids_35 i hi).1, k1 j (t_ids_35 j hj).1] at hij
          exact x4 i j hi hj hij
        · rw [k1 i (t_ids_35 i hi).1]
          exact x5 i hi
      have hE1 : t_En g1 s s.heap := by rw [hg1]; exact hEn
      have C1 : t_Cx g1 q p s m meth c := ⟨hx, hb, hml, hown, hlocks, hrt, htab, hE1, hG1, by rw [k3]; exact hA⟩
      have hfl : t_xc g h = [] := if_neg (by rw [h5]; decide)
      have hws : th_ws g h ++ [(a, .inl (g.2.2.1 0, (4, .inl fun _ => 0)))] = th_ws g1 (t_A h) := by
        unfold th_ws
        rw [hfl, List.append_nil, show t_xc g1 (t_A h) = [(a, .inl (g.2.2.1 0, (4, .inl fun _ => 0)))] from by
          unfold t_xc
          rw [if_pos (show (t_A h).1 36 0 = 1 from rfl), k2, k3]
          rfl]
        refine congrArg (· ++ _) (List.map_congr_left fun k hk => ?_)
        have hi := t_ids_35 k hk
        rw [k1 k hi.1, t_ce_al k3 k1, t_ce_i (g := g) (h := h) (h' := t_A h) hk (fun j j1 j2 => by
          funext b
          show (if j = 35 then 0 else if j = 36 ∧ b = 0 then 1 else h.1 j b) = h.1 j b
          rw [if_neg j1, if_neg fun z => j2 z.1]) rfl]
      rw [hws] at hP1 hD1
      have hW1 : t_Wd g1 (t_A h) H1 := by
        refine ⟨by rw [k3]; exact hP1, by rw [k3]; exact hW.2.1, by rw [k3]; exact hW.2.2.1, fun _ => ⟨fun i hi z => ?_, ?_⟩⟩
        · obtain ⟨q0, hq0, hw0⟩ := th_ws_get g1 (t_A h) hi
          have e1 := th_ws_x g1 (h := t_A h) rfl
          have e2 := hD1.1 q0 t_ids.length _ _ hw0 e1 z
          have e3 := (List.getElem?_eq_some_iff.mp hq0).1
          omega
        · have e1 := th_ws_x g1 (h := t_A h) rfl
          rw [k3]
          exact hD1.2 _ _ e1
      have hlr1 : t_lr g1 ls lsA (tm_ml q) := ⟨hlr.1, hlr.2.1, hlr.2.2.1, fun i v hv hs9 => by
        rw [t_cv_al k1 (fun j hj z => h6 v (List.mem_of_getElem? hv) (by rw [hj, z]))]
        exact hlr.2.2.2 i v hv hs9⟩
      have hW9 := (hN g1).2 q p e R s m args below meth c e0 Qw hq C1 hR1 hR2 (Nat.le_succ_of_le he0) hR3 hR4 (fun g2 h2 => hF g2 (t_al_t hal h2)) H1 locs lsA hW1 (by rw [k3]; exact hS1) hlr1
      have hst1 : ([Value.ref 35].map (t_cv g1)) = [.ref a] := by show [Value.ref (g1.1 35)] = _; rw [k2]
      rw [hst1] at hW9
      refine W.widen (k := (t_A h).2.2.2 - e0) (n := 6 * ((t_A h).2.2.2 - e0)) ?_ ?_ hW9
      · show h.2.2.2 - e0 + 1 ≤ h.2.2.2 + 1 - e0; omega
      · show 6 * (h.2.2.2 - e0) + 4 ≤ 6 * (h.2.2.2 + 1 - e0); omega
    | _ => exact absurd rfl hs
/-- what the small machine says holds -/
theorem t_sound {l : Launch} (hl : l.stackTraces = false) (g : tE) {d mi pc : Nat} {ls st : List Value} {h : tH} {o : tO} {h' : tH} (hh : t_Ev d mi pc ls st h o h') : t_Sem l g d mi pc ls st h o h' := hh (fun d mi pc ls st h o h' => ∀ g, t_Sem l g d mi pc ls st h o h') (t_closed hl) g
