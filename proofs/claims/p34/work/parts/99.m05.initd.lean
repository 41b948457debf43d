/-! ===== constructors: a drawing ===== -/
abbrev atX2 (dC : Nat → ClassId) (dI : Nat → Nat → Nat) (A : Nat → Prop) (h0 : Nat) (_ : Unit) (t : State) : Prop := ∃ (q1 q2 q3 q4 : Nat) (cA1 cA2 cA3 : ClassId), va_P (dC, dI) t_cls [(h0, .inr (5, [.ref q1, .ref q3, .ref q4, .int 0, .int 0, .int 0])), (q1, .inr (6, [.ref q2, .int 0])), (q2, .inl (cA1, 343, .inl fun _ => 0)), (q3, .inl (cA2, 7, .inl fun _ => 0)), (q4, .inl (cA3, 7, .inl fun _ => 0))] t.heap ∧ va_K (dC, dI) t_cls [(cA1, .int), (cA2, .int), (cA3, .int)] t ∧ va_D A [(h0, .inr (5, [.ref q1, .ref q3, .ref q4, .int 0, .int 0, .int 0])), (q1, .inr (6, [.ref q2, .int 0])), (q2, .inl (cA1, 343, .inl fun _ => 0)), (q3, .inl (cA2, 7, .inl fun _ => 0)), (q4, .inl (cA3, 7, .inl fun _ => 0))]
set_option maxHeartbeats 4000000 in
set_option maxRecDepth 100000 in
theorem kX2_init (l : Launch) (dC : Nat → ClassId) (dI : Nat → Nat → Nat) (h0 sz : Nat) : Met l yX2_init wsX2_init ({ frames := 2, cells := 4, slots := 359, locals := 64 }) (va_Pc [.ref h0] (fun U => U.heap.size = sz ∧ va_P (dC, dI) t_cls [(h0, .inr (5, [.null, .null, .null, .int 0, .int 0, .int 0]))] U.heap ∧ va_K (dC, dI) t_cls [] U ∧ va_D (fun _ => True) [(h0, .inr (5, [.null, .null, .null, .int 0, .int 0, .int 0]))])) (va_Qv (fun _ : Unit => True) (atX2 dC dI (va_A [(h0, .inr (5, [.null, .null, .null, .int 0, .int 0, .int 0]))] sz) h0) (va_A [(h0, .inr (5, [.null, .null, .null, .int 0, .int 0, .int 0]))] sz)) 4 359 (va_A [(h0, .inr (5, [.null, .null, .null, .int 0, .int 0, .int 0]))] sz) := by
  refine Met.ofW (cc := cX2_init) (maxL := 1) (ret := none) (by decide) rfl ?_
  intro p e s m args below meth c s₁ B hml hv
  obtain ⟨rfl, hsz, hP, hK, hD0⟩ := hv
  have hx := B.exec
  have hb := B.bytes
  have hr := B.returns
  have hts := atoms_spec (ws := wsX2_init) B.pre
  have hown : s.vm.findClass RX2 = some m.cls := findClass_of_methodNamed B.named
  have hlocks := B.notSynchronized
  have hin : meth.name = "<init>" := (name_of_methodNamed B.named B.method).1
  subst hsz
  have hD := hD0.self (sz := s.heap.size)
  generalize hAe : va_A [(h0, .inr (5, [.null, .null, .null, .int 0, .int 0, .int 0]))] s.heap.size = A at hD ⊢
  have hA : ∀ q : Nat, s.heap.size ≤ q → A q := fun q h => by rw [← hAe]; exact Or.inr h
  have hS : va_S A s.heap s.heap [] := va_S.rf
  have hP : va_P (dC, dI) t_cls [(h0, .inr (5, [.null, .null, .null, .int 0, .int 0, .int 0]))] s.heap := hP
  have hl := lv_entry ([.ref h0]) (n := 1) (Nat.le_of_ble_eq_true rfl)
  rw [lg_entry_eq]
  generalize (lg_sl ([.ref h0]) ++ List.replicate (1 - (lg_sl ([.ref h0])).length) Slot.unset).toArray = ls at hl ⊢
  have hl : lv_has ls 1 [(0, .ref h0)] := hl
  refine lv_aload_n hx hb dX2_init_0 rfl (lv_at hl 0 rfl) ?_
  refine W.objInit hx hb hown (hts (.methodLink RX2 3 objectInit) (by decide +kernel)) (hts (.instanceMethod objectInit) (by decide +kernel)) (hts _ (List.mem_cons_of_mem _ (List.mem_append_left _ (List.mem_of_getElem? (i := 2) rfl)))) rfl (by rw [hml]; exact hl.1) rfl dX2_init_1 (Nat.le_of_ble_eq_true rfl) (Nat.le_of_ble_eq_true rfl) ?_
  refine W.eq (g2 := F0 m 4 ls []) rfl ?_
  refine lv_aload_n hx hb dX2_init_4 rfl (lv_at hl 0 rfl) ?_
  have h_1 : 0 + 1 ≤ 4 := by decide
  have h_2 : 0 + 2 ≤ 359 := by decide
  refine va_new (ci := 6) (fs := [.null, .int 0]) (C := RX7) (T := TX7) (N := 2) hx hb hts (by decide +kernel) tyX7 tyX7_ok hown (hts (.classLink RX2 9 RX7) (by decide +kernel)) (hts (.instantiable RX7 2) (by decide +kernel)) (hts (.initialized RX7) (by decide +kernel)) hK hP hD hS hA rfl (fun j hj => by rcases (show j = 0 ∨ j = 1 by omega) with rfl | rfl <;> rfl) h_1 h_2 dX2_init_5 (fun q1 H hP hD hS => ?_)
  have hP : va_P (dC, dI) t_cls [(h0, .inr (5, [.null, .null, .null, .int 0, .int 0, .int 0])), (q1, .inr (6, [.null, .int 0]))] H := hP
  have hD : va_D A [(h0, .inr (5, [.null, .null, .null, .int 0, .int 0, .int 0])), (q1, .inr (6, [.null, .int 0]))] := hD
  refine W.widen (k := 1) (n := 2) (by decide) (by decide) ?_
  have hkc : 1 + 1 ≤ 4 := by decide
  have hks : 2 + 343 ≤ 359 := by decide
  refine lv_dup hx hb dX2_init_8 rfl ?_
  have hPc := hP.sub (ws' := [(q1, .inr (6, [.null, .int 0]))]) [1] rfl
  have hDc := hD.sub (ws' := [(q1, .inr (6, [.null, .int 0]))]) [1] (by decide) rfl
  have hKc := hK.sub (tys' := []) [] rfl
  have hFc := va_free (wc := [(q1, .inr (6, [.null, .int 0]))]) hD hS hA [1] rfl
  refine va_callv (va_runI (As := []) (rest := [.ref q1, .ref h0]) ⟨hx, hb, hml, hown, hts⟩ (kX7_init l dC dI q1 H.size) (cwI 0 hts gX2_init_X7_init rfl rfl rfl (hts (.initialized RX7) (by decide +kernel)) (hts (.methodLink RX2 11 yX7_init) (by decide +kernel)) (hts (.instanceMethod yX7_init) (by decide +kernel)) rfl (by decide +kernel) ⟨Nat.le_of_ble_eq_true rfl, Nat.le_of_ble_eq_true rfl⟩) ⟨fun a U g mk q => by obtain ⟨q0, q1, qP, qK, qD⟩ := q; exact ⟨q0, q1, qP, va_K.moved (u := U) (U := U.calling g mk a) (Vm.Alike.refl U.vm) qK, qD⟩, fun U hU hW => ⟨rfl, by rw [hU], by rw [hU]; exact hPc, va_K.moved hW.alike hKc, hDc.weaken (fun _ _ _ _ => trivial)⟩⟩ rfl rfl hl.1 rfl (lv_room (Nat.le_of_ble_eq_true rfl)) dX2_init_9 ⟨hkc, hks⟩) hS (fun q _ h => hFc q h) hFc (fun u t H1 locs ht hvm hw hB hz1 hk1 hS => ?_)
  obtain ⟨q2, cA1, hP1, hK1, hD1⟩ := hB
  rw [ht] at hP1
  have hK1 := va_K.moved hvm.symm hK1
  obtain ⟨hP, hD⟩ := va_join (wr := [(h0, .inr (5, [.null, .null, .null, .int 0, .int 0, .int 0]))]) (w1 := [(q1, .inr (6, [.ref q2, .int 0])), (q2, .inl (cA1, 343, .inl fun _ => 0))]) hP hD [1] [0] rfl rfl (by decide) (by decide) hk1 hFc hP1 hD1
  have hK := (hK.sub (tys' := []) [] rfl).app hK1
  generalize H1 = H at hP hS ⊢
  have hP : va_P (dC, dI) t_cls [(h0, .inr (5, [.null, .null, .null, .int 0, .int 0, .int 0])), (q1, .inr (6, [.ref q2, .int 0])), (q2, .inl (cA1, 343, .inl fun _ => 0))] H := hP
  have hD : va_D A [(h0, .inr (5, [.null, .null, .null, .int 0, .int 0, .int 0])), (q1, .inr (6, [.ref q2, .int 0])), (q2, .inl (cA1, 343, .inl fun _ => 0))] := hD
  have hK : va_K (dC, dI) t_cls [(cA1, .int)] s := hK
  refine W.widen (k := 2) (n := 345) (by decide) (by decide) ?_
  refine va_putF (D := (dC, dI)) (ci := 5) (v := .ref q1) (ty := .object "TurnsHall$Signs") (C := RX2) (T := TX2) (N := 6) hx hb hts (by decide +kernel) tyX2 tyX2_ok nmX2 hown hK hP hD hS 0 rfl rfl 0 (by decide) (hts (.fieldLink RX2 12 "TurnsHall$Drawing" "signs" "LTurnsHall$Signs;") (by decide +kernel)) (fun _ h9 => h9) rfl hin rfl (by decide +kernel) rfl rfl (Nat.le_of_ble_eq_true rfl) dX2_init_12 (fun H locs hP hD hS => ?_)
  have hP : va_P (dC, dI) t_cls [(h0, .inr (5, [.ref q1, .null, .null, .int 0, .int 0, .int 0])), (q1, .inr (6, [.ref q2, .int 0])), (q2, .inl (cA1, 343, .inl fun _ => 0))] H := hP
  have hD : va_D A [(h0, .inr (5, [.ref q1, .null, .null, .int 0, .int 0, .int 0])), (q1, .inr (6, [.ref q2, .int 0])), (q2, .inl (cA1, 343, .inl fun _ => 0))] := hD
  refine lv_aload_n hx hb dX2_init_15 rfl (lv_at hl 0 rfl) ?_
  refine lv_bipush (v := 7) hx hb dX2_init_16 (by decide) ?_
  have n0 : ¬ (7 : Int32) < 0 := by decide +kernel
  have nN : (7 : Int32).toNatClampNeg = 7 := by decide +kernel
  have nB : 7 * componentBytes .int ≤ 536870912 := by decide +kernel
  have h_1 : 2 + 1 ≤ 4 := by decide
  have h_2 : 345 + 7 ≤ 359 := by decide
  have nC9 : ∀ cA : ClassId, vp_cell cA (7, .inl fun _ => 0) = arrV cA 7 (fun _ => defaultValue .int) := fun _ => rfl
  refine va_newa (atype := .int) (N' := 7) (a0 := (7, .inl fun _ => 0)) (ty := .int) hx hb (hts (.arrayClass .int) (by decide +kernel)) rfl hK hP hD hS hA nC9 n0 nN nB h_1 h_2 dX2_init_18 (fun q3 cA2 H hK hP hD hS => ?_)
  have hP : va_P (dC, dI) t_cls [(h0, .inr (5, [.ref q1, .null, .null, .int 0, .int 0, .int 0])), (q1, .inr (6, [.ref q2, .int 0])), (q2, .inl (cA1, 343, .inl fun _ => 0)), (q3, .inl (cA2, 7, .inl fun _ => 0))] H := hP
  have hD : va_D A [(h0, .inr (5, [.ref q1, .null, .null, .int 0, .int 0, .int 0])), (q1, .inr (6, [.ref q2, .int 0])), (q2, .inl (cA1, 343, .inl fun _ => 0)), (q3, .inl (cA2, 7, .inl fun _ => 0))] := hD
  have hK : va_K (dC, dI) t_cls [(cA1, .int), (cA2, .int)] s := hK
  refine W.widen (k := 3) (n := 352) (by decide) (by decide) ?_
  refine va_putF (D := (dC, dI)) (ci := 5) (v := .ref q3) (ty := .array .int) (C := RX2) (T := TX2) (N := 6) hx hb hts (by decide +kernel) tyX2 tyX2_ok nmX2 hown hK hP hD hS 0 rfl rfl 1 (by decide) (hts (.fieldLink RX2 18 "TurnsHall$Drawing" "xs" "[I") (by decide +kernel)) (fun _ h9 => h9) rfl hin rfl (by decide +kernel) rfl rfl (Nat.le_of_ble_eq_true rfl) dX2_init_20 (fun H locs hP hD hS => ?_)
  have hP : va_P (dC, dI) t_cls [(h0, .inr (5, [.ref q1, .ref q3, .null, .int 0, .int 0, .int 0])), (q1, .inr (6, [.ref q2, .int 0])), (q2, .inl (cA1, 343, .inl fun _ => 0)), (q3, .inl (cA2, 7, .inl fun _ => 0))] H := hP
  have hD : va_D A [(h0, .inr (5, [.ref q1, .ref q3, .null, .int 0, .int 0, .int 0])), (q1, .inr (6, [.ref q2, .int 0])), (q2, .inl (cA1, 343, .inl fun _ => 0)), (q3, .inl (cA2, 7, .inl fun _ => 0))] := hD
  refine lv_aload_n hx hb dX2_init_23 rfl (lv_at hl 0 rfl) ?_
  refine lv_bipush (v := 7) hx hb dX2_init_24 (by decide) ?_
  have n0 : ¬ (7 : Int32) < 0 := by decide +kernel
  have nN : (7 : Int32).toNatClampNeg = 7 := by decide +kernel
  have nB : 7 * componentBytes .int ≤ 536870912 := by decide +kernel
  have h_1 : 3 + 1 ≤ 4 := by decide
  have h_2 : 352 + 7 ≤ 359 := by decide
  have nC9 : ∀ cA : ClassId, vp_cell cA (7, .inl fun _ => 0) = arrV cA 7 (fun _ => defaultValue .int) := fun _ => rfl
  refine va_newa (atype := .int) (N' := 7) (a0 := (7, .inl fun _ => 0)) (ty := .int) hx hb (hts (.arrayClass .int) (by decide +kernel)) rfl hK hP hD hS hA nC9 n0 nN nB h_1 h_2 dX2_init_26 (fun q4 cA3 H hK hP hD hS => ?_)
  have hP : va_P (dC, dI) t_cls [(h0, .inr (5, [.ref q1, .ref q3, .null, .int 0, .int 0, .int 0])), (q1, .inr (6, [.ref q2, .int 0])), (q2, .inl (cA1, 343, .inl fun _ => 0)), (q3, .inl (cA2, 7, .inl fun _ => 0)), (q4, .inl (cA3, 7, .inl fun _ => 0))] H := hP
  have hD : va_D A [(h0, .inr (5, [.ref q1, .ref q3, .null, .int 0, .int 0, .int 0])), (q1, .inr (6, [.ref q2, .int 0])), (q2, .inl (cA1, 343, .inl fun _ => 0)), (q3, .inl (cA2, 7, .inl fun _ => 0)), (q4, .inl (cA3, 7, .inl fun _ => 0))] := hD
  have hK : va_K (dC, dI) t_cls [(cA1, .int), (cA2, .int), (cA3, .int)] s := hK
  refine W.widen (k := 4) (n := 359) (by decide) (by decide) ?_
  refine va_putF (D := (dC, dI)) (ci := 5) (v := .ref q4) (ty := .array .int) (C := RX2) (T := TX2) (N := 6) hx hb hts (by decide +kernel) tyX2 tyX2_ok nmX2 hown hK hP hD hS 0 rfl rfl 2 (by decide) (hts (.fieldLink RX2 22 "TurnsHall$Drawing" "ys" "[I") (by decide +kernel)) (fun _ h9 => h9) rfl hin rfl (by decide +kernel) rfl rfl (Nat.le_of_ble_eq_true rfl) dX2_init_28 (fun H locs hP hD hS => ?_)
  have hP : va_P (dC, dI) t_cls [(h0, .inr (5, [.ref q1, .ref q3, .ref q4, .int 0, .int 0, .int 0])), (q1, .inr (6, [.ref q2, .int 0])), (q2, .inl (cA1, 343, .inl fun _ => 0)), (q3, .inl (cA2, 7, .inl fun _ => 0)), (q4, .inl (cA3, 7, .inl fun _ => 0))] H := hP
  have hD : va_D A [(h0, .inr (5, [.ref q1, .ref q3, .ref q4, .int 0, .int 0, .int 0])), (q1, .inr (6, [.ref q2, .int 0])), (q2, .inl (cA1, 343, .inl fun _ => 0)), (q3, .inl (cA2, 7, .inl fun _ => 0)), (q4, .inl (cA3, 7, .inl fun _ => 0))] := hD
  exact W.vret hx hb hr (fun t ht hW => ⟨⟨(), rfl, trivial, q1, q2, q3, q4, cA1, cA2, cA3, by rw [ht]; exact hP, va_K.moved hW.alike hK, hD⟩, hS.F ht⟩) hS.2.2 dX2_init_31
