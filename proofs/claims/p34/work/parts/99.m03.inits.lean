/-! ===== constructors: rows alone ===== -/
abbrev atX7 (dC : Nat → ClassId) (dI : Nat → Nat → Nat) (A : Nat → Prop) (h0 : Nat) (_ : Unit) (t : State) : Prop := ∃ (q1 : Nat) (cA1 : ClassId), va_P (dC, dI) t_cls [(h0, .inr (6, [.ref q1, .int 0])), (q1, .inl (cA1, 343, .inl fun _ => 0))] t.heap ∧ va_K (dC, dI) t_cls [(cA1, .int)] t ∧ va_D A [(h0, .inr (6, [.ref q1, .int 0])), (q1, .inl (cA1, 343, .inl fun _ => 0))]
set_option maxHeartbeats 4000000 in
set_option maxRecDepth 100000 in
theorem kX7_init (l : Launch) (dC : Nat → ClassId) (dI : Nat → Nat → Nat) (h0 sz : Nat) : Met l yX7_init wsX7_init ({ frames := 1, cells := 1, slots := 343, locals := 16 }) (va_Pc [.ref h0] (fun U => U.heap.size = sz ∧ va_P (dC, dI) t_cls [(h0, .inr (6, [.null, .int 0]))] U.heap ∧ va_K (dC, dI) t_cls [] U ∧ va_D (fun _ => True) [(h0, .inr (6, [.null, .int 0]))])) (va_Qv (fun _ : Unit => True) (atX7 dC dI (va_A [(h0, .inr (6, [.null, .int 0]))] sz) h0) (va_A [(h0, .inr (6, [.null, .int 0]))] sz)) 1 343 (va_A [(h0, .inr (6, [.null, .int 0]))] sz) := by
  refine Met.ofW (cc := cX7_init) (maxL := 1) (ret := none) (by decide) rfl ?_
  intro p e s m args below meth c s₁ B hml hv
  obtain ⟨rfl, hsz, hP, hK, hD0⟩ := hv
  have hx := B.exec
  have hb := B.bytes
  have hr := B.returns
  have hts := atoms_spec (ws := wsX7_init) B.pre
  have hown : s.vm.findClass RX7 = some m.cls := findClass_of_methodNamed B.named
  have hlocks := B.notSynchronized
  have hin : meth.name = "<init>" := (name_of_methodNamed B.named B.method).1
  subst hsz
  have hD := hD0.self (sz := s.heap.size)
  generalize hAe : va_A [(h0, .inr (6, [.null, .int 0]))] s.heap.size = A at hD ⊢
  have hA : ∀ q : Nat, s.heap.size ≤ q → A q := fun q h => by rw [← hAe]; exact Or.inr h
  have hS : va_S A s.heap s.heap [] := va_S.rf
  have hP : va_P (dC, dI) t_cls [(h0, .inr (6, [.null, .int 0]))] s.heap := hP
  have hl := lv_entry ([.ref h0]) (n := 1) (Nat.le_of_ble_eq_true rfl)
  rw [lg_entry_eq]
  generalize (lg_sl ([.ref h0]) ++ List.replicate (1 - (lg_sl ([.ref h0])).length) Slot.unset).toArray = ls at hl ⊢
  have hl : lv_has ls 1 [(0, .ref h0)] := hl
  refine lv_aload_n hx hb dX7_init_0 rfl (lv_at hl 0 rfl) ?_
  refine W.objInit hx hb hown (hts (.methodLink RX7 3 objectInit) (by decide +kernel)) (hts (.instanceMethod objectInit) (by decide +kernel)) (hts _ (List.mem_cons_of_mem _ (List.mem_append_left _ (List.mem_of_getElem? (i := 2) rfl)))) rfl (by rw [hml]; exact hl.1) rfl dX7_init_1 (Nat.le_of_ble_eq_true rfl) (Nat.le_of_ble_eq_true rfl) ?_
  refine W.eq (g2 := F0 m 4 ls []) rfl ?_
  refine lv_aload_n hx hb dX7_init_4 rfl (lv_at hl 0 rfl) ?_
  refine lv_sipush (v := 343) hx hb dX7_init_5 (by decide) ?_
  have n0 : ¬ (343 : Int32) < 0 := by decide +kernel
  have nN : (343 : Int32).toNatClampNeg = 343 := by decide +kernel
  have nB : 343 * componentBytes .int ≤ 536870912 := by decide +kernel
  have h_1 : 0 + 1 ≤ 1 := by decide
  have h_2 : 0 + 343 ≤ 343 := by decide +kernel
  have nC9 : ∀ cA : ClassId, vp_cell cA (343, .inl fun _ => 0) = arrV cA 343 (fun _ => defaultValue .int) := fun _ => rfl
  refine va_newa (atype := .int) (N' := 343) (a0 := (343, .inl fun _ => 0)) (ty := .int) hx hb (hts (.arrayClass .int) (by decide +kernel)) rfl hK hP hD hS hA nC9 n0 nN nB h_1 h_2 dX7_init_8 (fun q1 cA1 H hK hP hD hS => ?_)
  have hP : va_P (dC, dI) t_cls [(h0, .inr (6, [.null, .int 0])), (q1, .inl (cA1, 343, .inl fun _ => 0))] H := hP
  have hD : va_D A [(h0, .inr (6, [.null, .int 0])), (q1, .inl (cA1, 343, .inl fun _ => 0))] := hD
  have hK : va_K (dC, dI) t_cls [(cA1, .int)] s := hK
  refine W.widen (k := 1) (n := 343) (by decide) (by decide) ?_
  refine va_putF (D := (dC, dI)) (ci := 6) (v := .ref q1) (ty := .array .int) (C := RX7) (T := TX7) (N := 2) hx hb hts (by decide +kernel) tyX7 tyX7_ok nmX7 hown hK hP hD hS 0 rfl rfl 0 (by decide) (hts (.fieldLink RX7 9 "TurnsHall$Signs" "table" "[I") (by decide +kernel)) (fun _ h9 => h9) rfl hin rfl (by decide +kernel) rfl rfl (Nat.le_of_ble_eq_true rfl) dX7_init_10 (fun H locs hP hD hS => ?_)
  have hP : va_P (dC, dI) t_cls [(h0, .inr (6, [.ref q1, .int 0])), (q1, .inl (cA1, 343, .inl fun _ => 0))] H := hP
  have hD : va_D A [(h0, .inr (6, [.ref q1, .int 0])), (q1, .inl (cA1, 343, .inl fun _ => 0))] := hD
  exact W.vret hx hb hr (fun t ht hW => ⟨⟨(), rfl, trivial, q1, cA1, by rw [ht]; exact hP, va_K.moved hW.alike hK, hD⟩, hS.F ht⟩) hS.2.2 dX7_init_13
abbrev atX4 (dC : Nat → ClassId) (dI : Nat → Nat → Nat) (A : Nat → Prop) (h0 : Nat) (_ : Unit) (t : State) : Prop := ∃ (q1 : Nat) (cA1 : ClassId), va_P (dC, dI) t_cls [(h0, .inr (4, [.ref q1, .null, .int 0, .long 0])), (q1, .inl (cA1, 7, .inl fun _ => 0))] t.heap ∧ va_K (dC, dI) t_cls [(cA1, .int)] t ∧ va_D A [(h0, .inr (4, [.ref q1, .null, .int 0, .long 0])), (q1, .inl (cA1, 7, .inl fun _ => 0))]
set_option maxHeartbeats 4000000 in
set_option maxRecDepth 100000 in
theorem kX4_init (l : Launch) (dC : Nat → ClassId) (dI : Nat → Nat → Nat) (h0 sz : Nat) : Met l yX4_init wsX4_init ({ frames := 1, cells := 1, slots := 7, locals := 16 }) (va_Pc [.ref h0] (fun U => U.heap.size = sz ∧ va_P (dC, dI) t_cls [(h0, .inr (4, [.null, .null, .int 0, .long 0]))] U.heap ∧ va_K (dC, dI) t_cls [] U ∧ va_D (fun _ => True) [(h0, .inr (4, [.null, .null, .int 0, .long 0]))])) (va_Qv (fun _ : Unit => True) (atX4 dC dI (va_A [(h0, .inr (4, [.null, .null, .int 0, .long 0]))] sz) h0) (va_A [(h0, .inr (4, [.null, .null, .int 0, .long 0]))] sz)) 1 7 (va_A [(h0, .inr (4, [.null, .null, .int 0, .long 0]))] sz) := by
  refine Met.ofW (cc := cX4_init) (maxL := 1) (ret := none) (by decide) rfl ?_
  intro p e s m args below meth c s₁ B hml hv
  obtain ⟨rfl, hsz, hP, hK, hD0⟩ := hv
  have hx := B.exec
  have hb := B.bytes
  have hr := B.returns
  have hts := atoms_spec (ws := wsX4_init) B.pre
  have hown : s.vm.findClass RX4 = some m.cls := findClass_of_methodNamed B.named
  have hlocks := B.notSynchronized
  have hin : meth.name = "<init>" := (name_of_methodNamed B.named B.method).1
  subst hsz
  have hD := hD0.self (sz := s.heap.size)
  generalize hAe : va_A [(h0, .inr (4, [.null, .null, .int 0, .long 0]))] s.heap.size = A at hD ⊢
  have hA : ∀ q : Nat, s.heap.size ≤ q → A q := fun q h => by rw [← hAe]; exact Or.inr h
  have hS : va_S A s.heap s.heap [] := va_S.rf
  have hP : va_P (dC, dI) t_cls [(h0, .inr (4, [.null, .null, .int 0, .long 0]))] s.heap := hP
  have hl := lv_entry ([.ref h0]) (n := 1) (Nat.le_of_ble_eq_true rfl)
  rw [lg_entry_eq]
  generalize (lg_sl ([.ref h0]) ++ List.replicate (1 - (lg_sl ([.ref h0])).length) Slot.unset).toArray = ls at hl ⊢
  have hl : lv_has ls 1 [(0, .ref h0)] := hl
  refine lv_aload_n hx hb dX4_init_0 rfl (lv_at hl 0 rfl) ?_
  refine W.objInit hx hb hown (hts (.methodLink RX4 3 objectInit) (by decide +kernel)) (hts (.instanceMethod objectInit) (by decide +kernel)) (hts _ (List.mem_cons_of_mem _ (List.mem_append_left _ (List.mem_of_getElem? (i := 2) rfl)))) rfl (by rw [hml]; exact hl.1) rfl dX4_init_1 (Nat.le_of_ble_eq_true rfl) (Nat.le_of_ble_eq_true rfl) ?_
  refine W.eq (g2 := F0 m 4 ls []) rfl ?_
  refine lv_aload_n hx hb dX4_init_4 rfl (lv_at hl 0 rfl) ?_
  refine lv_bipush (v := 7) hx hb dX4_init_5 (by decide) ?_
  have n0 : ¬ (7 : Int32) < 0 := by decide +kernel
  have nN : (7 : Int32).toNatClampNeg = 7 := by decide +kernel
  have nB : 7 * componentBytes .int ≤ 536870912 := by decide +kernel
  have h_1 : 0 + 1 ≤ 1 := by decide
  have h_2 : 0 + 7 ≤ 7 := by decide +kernel
  have nC9 : ∀ cA : ClassId, vp_cell cA (7, .inl fun _ => 0) = arrV cA 7 (fun _ => defaultValue .int) := fun _ => rfl
  refine va_newa (atype := .int) (N' := 7) (a0 := (7, .inl fun _ => 0)) (ty := .int) hx hb (hts (.arrayClass .int) (by decide +kernel)) rfl hK hP hD hS hA nC9 n0 nN nB h_1 h_2 dX4_init_7 (fun q1 cA1 H hK hP hD hS => ?_)
  have hP : va_P (dC, dI) t_cls [(h0, .inr (4, [.null, .null, .int 0, .long 0])), (q1, .inl (cA1, 7, .inl fun _ => 0))] H := hP
  have hD : va_D A [(h0, .inr (4, [.null, .null, .int 0, .long 0])), (q1, .inl (cA1, 7, .inl fun _ => 0))] := hD
  have hK : va_K (dC, dI) t_cls [(cA1, .int)] s := hK
  refine W.widen (k := 1) (n := 7) (by decide) (by decide) ?_
  refine va_putF (D := (dC, dI)) (ci := 4) (v := .ref q1) (ty := .array .int) (C := RX4) (T := TX4) (N := 4) hx hb hts (by decide +kernel) tyX4 tyX4_ok nmX4 hown hK hP hD hS 0 rfl rfl 0 (by decide) (hts (.fieldLink RX4 9 "TurnsHall$Naming" "named" "[I") (by decide +kernel)) (fun _ h9 => h9) rfl hin rfl (by decide +kernel) rfl rfl (Nat.le_of_ble_eq_true rfl) dX4_init_9 (fun H locs hP hD hS => ?_)
  have hP : va_P (dC, dI) t_cls [(h0, .inr (4, [.ref q1, .null, .int 0, .long 0])), (q1, .inl (cA1, 7, .inl fun _ => 0))] H := hP
  have hD : va_D A [(h0, .inr (4, [.ref q1, .null, .int 0, .long 0])), (q1, .inl (cA1, 7, .inl fun _ => 0))] := hD
  exact W.vret hx hb hr (fun t ht hW => ⟨⟨(), rfl, trivial, q1, cA1, by rw [ht]; exact hP, va_K.moved hW.alike hK, hD⟩, hS.F ht⟩) hS.2.2 dX4_init_12
abbrev atX5 (dC : Nat → ClassId) (dI : Nat → Nat → Nat) (A : Nat → Prop) (h0 : Nat) (_ : Unit) (t : State) : Prop := ∃ (q1 : Nat) (cA1 : ClassId), va_P (dC, dI) t_cls [(h0, .inr (3, [.ref q1, .int 0])), (q1, .inl (cA1, 21, .inl fun _ => 0))] t.heap ∧ va_K (dC, dI) t_cls [(cA1, .int)] t ∧ va_D A [(h0, .inr (3, [.ref q1, .int 0])), (q1, .inl (cA1, 21, .inl fun _ => 0))]
set_option maxHeartbeats 4000000 in
set_option maxRecDepth 100000 in
theorem kX5_init (l : Launch) (dC : Nat → ClassId) (dI : Nat → Nat → Nat) (h0 sz : Nat) : Met l yX5_init wsX5_init ({ frames := 1, cells := 1, slots := 21, locals := 16 }) (va_Pc [.ref h0] (fun U => U.heap.size = sz ∧ va_P (dC, dI) t_cls [(h0, .inr (3, [.null, .int 0]))] U.heap ∧ va_K (dC, dI) t_cls [] U ∧ va_D (fun _ => True) [(h0, .inr (3, [.null, .int 0]))])) (va_Qv (fun _ : Unit => True) (atX5 dC dI (va_A [(h0, .inr (3, [.null, .int 0]))] sz) h0) (va_A [(h0, .inr (3, [.null, .int 0]))] sz)) 1 21 (va_A [(h0, .inr (3, [.null, .int 0]))] sz) := by
  refine Met.ofW (cc := cX5_init) (maxL := 1) (ret := none) (by decide) rfl ?_
  intro p e s m args below meth c s₁ B hml hv
  obtain ⟨rfl, hsz, hP, hK, hD0⟩ := hv
  have hx := B.exec
  have hb := B.bytes
  have hr := B.returns
  have hts := atoms_spec (ws := wsX5_init) B.pre
  have hown : s.vm.findClass RX5 = some m.cls := findClass_of_methodNamed B.named
  have hlocks := B.notSynchronized
  have hin : meth.name = "<init>" := (name_of_methodNamed B.named B.method).1
  subst hsz
  have hD := hD0.self (sz := s.heap.size)
  generalize hAe : va_A [(h0, .inr (3, [.null, .int 0]))] s.heap.size = A at hD ⊢
  have hA : ∀ q : Nat, s.heap.size ≤ q → A q := fun q h => by rw [← hAe]; exact Or.inr h
  have hS : va_S A s.heap s.heap [] := va_S.rf
  have hP : va_P (dC, dI) t_cls [(h0, .inr (3, [.null, .int 0]))] s.heap := hP
  have hl := lv_entry ([.ref h0]) (n := 1) (Nat.le_of_ble_eq_true rfl)
  rw [lg_entry_eq]
  generalize (lg_sl ([.ref h0]) ++ List.replicate (1 - (lg_sl ([.ref h0])).length) Slot.unset).toArray = ls at hl ⊢
  have hl : lv_has ls 1 [(0, .ref h0)] := hl
  refine lv_aload_n hx hb dX5_init_0 rfl (lv_at hl 0 rfl) ?_
  refine W.objInit hx hb hown (hts (.methodLink RX5 3 objectInit) (by decide +kernel)) (hts (.instanceMethod objectInit) (by decide +kernel)) (hts _ (List.mem_cons_of_mem _ (List.mem_append_left _ (List.mem_of_getElem? (i := 2) rfl)))) rfl (by rw [hml]; exact hl.1) rfl dX5_init_1 (Nat.le_of_ble_eq_true rfl) (Nat.le_of_ble_eq_true rfl) ?_
  refine W.eq (g2 := F0 m 4 ls []) rfl ?_
  refine lv_aload_n hx hb dX5_init_4 rfl (lv_at hl 0 rfl) ?_
  refine lv_bipush (v := 21) hx hb dX5_init_5 (by decide) ?_
  have n0 : ¬ (21 : Int32) < 0 := by decide +kernel
  have nN : (21 : Int32).toNatClampNeg = 21 := by decide +kernel
  have nB : 21 * componentBytes .int ≤ 536870912 := by decide +kernel
  have h_1 : 0 + 1 ≤ 1 := by decide
  have h_2 : 0 + 21 ≤ 21 := by decide +kernel
  have nC9 : ∀ cA : ClassId, vp_cell cA (21, .inl fun _ => 0) = arrV cA 21 (fun _ => defaultValue .int) := fun _ => rfl
  refine va_newa (atype := .int) (N' := 21) (a0 := (21, .inl fun _ => 0)) (ty := .int) hx hb (hts (.arrayClass .int) (by decide +kernel)) rfl hK hP hD hS hA nC9 n0 nN nB h_1 h_2 dX5_init_7 (fun q1 cA1 H hK hP hD hS => ?_)
  have hP : va_P (dC, dI) t_cls [(h0, .inr (3, [.null, .int 0])), (q1, .inl (cA1, 21, .inl fun _ => 0))] H := hP
  have hD : va_D A [(h0, .inr (3, [.null, .int 0])), (q1, .inl (cA1, 21, .inl fun _ => 0))] := hD
  have hK : va_K (dC, dI) t_cls [(cA1, .int)] s := hK
  refine W.widen (k := 1) (n := 21) (by decide) (by decide) ?_
  refine va_putF (D := (dC, dI)) (ci := 3) (v := .ref q1) (ty := .array .int) (C := RX5) (T := TX5) (N := 2) hx hb hts (by decide +kernel) tyX5 tyX5_ok nmX5 hown hK hP hD hS 0 rfl rfl 0 (by decide) (hts (.fieldLink RX5 9 "TurnsHall$Segments" "crossing" "[I") (by decide +kernel)) (fun _ h9 => h9) rfl hin rfl (by decide +kernel) rfl rfl (Nat.le_of_ble_eq_true rfl) dX5_init_9 (fun H locs hP hD hS => ?_)
  have hP : va_P (dC, dI) t_cls [(h0, .inr (3, [.ref q1, .int 0])), (q1, .inl (cA1, 21, .inl fun _ => 0))] H := hP
  have hD : va_D A [(h0, .inr (3, [.ref q1, .int 0])), (q1, .inl (cA1, 21, .inl fun _ => 0))] := hD
  exact W.vret hx hb hr (fun t ht hW => ⟨⟨(), rfl, trivial, q1, cA1, by rw [ht]; exact hP, va_K.moved hW.alike hK, hD⟩, hS.F ht⟩) hS.2.2 dX5_init_12
abbrev atX6 (dC : Nat → ClassId) (dI : Nat → Nat → Nat) (A : Nat → Prop) (h0 : Nat) (_ : Unit) (t : State) : Prop := ∃ (q1 q2 : Nat) (cA1 cA2 : ClassId), va_P (dC, dI) t_cls [(h0, .inr (1, [.ref q1, .ref q2, .int 0])), (q1, .inl (cA1, 7, .inl fun _ => 0)), (q2, .inl (cA2, 7, .inl fun _ => 0))] t.heap ∧ va_K (dC, dI) t_cls [(cA1, .int), (cA2, .int)] t ∧ va_D A [(h0, .inr (1, [.ref q1, .ref q2, .int 0])), (q1, .inl (cA1, 7, .inl fun _ => 0)), (q2, .inl (cA2, 7, .inl fun _ => 0))]
set_option maxHeartbeats 4000000 in
set_option maxRecDepth 100000 in
theorem kX6_init (l : Launch) (dC : Nat → ClassId) (dI : Nat → Nat → Nat) (h0 sz : Nat) : Met l yX6_init wsX6_init ({ frames := 1, cells := 2, slots := 14, locals := 16 }) (va_Pc [.ref h0] (fun U => U.heap.size = sz ∧ va_P (dC, dI) t_cls [(h0, .inr (1, [.null, .null, .int 0]))] U.heap ∧ va_K (dC, dI) t_cls [] U ∧ va_D (fun _ => True) [(h0, .inr (1, [.null, .null, .int 0]))])) (va_Qv (fun _ : Unit => True) (atX6 dC dI (va_A [(h0, .inr (1, [.null, .null, .int 0]))] sz) h0) (va_A [(h0, .inr (1, [.null, .null, .int 0]))] sz)) 2 14 (va_A [(h0, .inr (1, [.null, .null, .int 0]))] sz) := by
  refine Met.ofW (cc := cX6_init) (maxL := 1) (ret := none) (by decide) rfl ?_
  intro p e s m args below meth c s₁ B hml hv
  obtain ⟨rfl, hsz, hP, hK, hD0⟩ := hv
  have hx := B.exec
  have hb := B.bytes
  have hr := B.returns
  have hts := atoms_spec (ws := wsX6_init) B.pre
  have hown : s.vm.findClass RX6 = some m.cls := findClass_of_methodNamed B.named
  have hlocks := B.notSynchronized
  have hin : meth.name = "<init>" := (name_of_methodNamed B.named B.method).1
  subst hsz
  have hD := hD0.self (sz := s.heap.size)
  generalize hAe : va_A [(h0, .inr (1, [.null, .null, .int 0]))] s.heap.size = A at hD ⊢
  have hA : ∀ q : Nat, s.heap.size ≤ q → A q := fun q h => by rw [← hAe]; exact Or.inr h
  have hS : va_S A s.heap s.heap [] := va_S.rf
  have hP : va_P (dC, dI) t_cls [(h0, .inr (1, [.null, .null, .int 0]))] s.heap := hP
  have hl := lv_entry ([.ref h0]) (n := 1) (Nat.le_of_ble_eq_true rfl)
  rw [lg_entry_eq]
  generalize (lg_sl ([.ref h0]) ++ List.replicate (1 - (lg_sl ([.ref h0])).length) Slot.unset).toArray = ls at hl ⊢
  have hl : lv_has ls 1 [(0, .ref h0)] := hl
  refine lv_aload_n hx hb dX6_init_0 rfl (lv_at hl 0 rfl) ?_
  refine W.objInit hx hb hown (hts (.methodLink RX6 3 objectInit) (by decide +kernel)) (hts (.instanceMethod objectInit) (by decide +kernel)) (hts _ (List.mem_cons_of_mem _ (List.mem_append_left _ (List.mem_of_getElem? (i := 2) rfl)))) rfl (by rw [hml]; exact hl.1) rfl dX6_init_1 (Nat.le_of_ble_eq_true rfl) (Nat.le_of_ble_eq_true rfl) ?_
  refine W.eq (g2 := F0 m 4 ls []) rfl ?_
  refine lv_aload_n hx hb dX6_init_4 rfl (lv_at hl 0 rfl) ?_
  refine lv_bipush (v := 7) hx hb dX6_init_5 (by decide) ?_
  have n0 : ¬ (7 : Int32) < 0 := by decide +kernel
  have nN : (7 : Int32).toNatClampNeg = 7 := by decide +kernel
  have nB : 7 * componentBytes .int ≤ 536870912 := by decide +kernel
  have h_1 : 0 + 1 ≤ 2 := by decide
  have h_2 : 0 + 7 ≤ 14 := by decide +kernel
  have nC9 : ∀ cA : ClassId, vp_cell cA (7, .inl fun _ => 0) = arrV cA 7 (fun _ => defaultValue .int) := fun _ => rfl
  refine va_newa (atype := .int) (N' := 7) (a0 := (7, .inl fun _ => 0)) (ty := .int) hx hb (hts (.arrayClass .int) (by decide +kernel)) rfl hK hP hD hS hA nC9 n0 nN nB h_1 h_2 dX6_init_7 (fun q1 cA1 H hK hP hD hS => ?_)
  have hP : va_P (dC, dI) t_cls [(h0, .inr (1, [.null, .null, .int 0])), (q1, .inl (cA1, 7, .inl fun _ => 0))] H := hP
  have hD : va_D A [(h0, .inr (1, [.null, .null, .int 0])), (q1, .inl (cA1, 7, .inl fun _ => 0))] := hD
  have hK : va_K (dC, dI) t_cls [(cA1, .int)] s := hK
  refine W.widen (k := 1) (n := 7) (by decide) (by decide) ?_
  refine va_putF (D := (dC, dI)) (ci := 1) (v := .ref q1) (ty := .array .int) (C := RX6) (T := TX6) (N := 3) hx hb hts (by decide +kernel) tyX6 tyX6_ok nmX6 hown hK hP hD hS 0 rfl rfl 0 (by decide) (hts (.fieldLink RX6 9 "TurnsHall$Shelf" "xs" "[I") (by decide +kernel)) (fun _ h9 => h9) rfl hin rfl (by decide +kernel) rfl rfl (Nat.le_of_ble_eq_true rfl) dX6_init_9 (fun H locs hP hD hS => ?_)
  have hP : va_P (dC, dI) t_cls [(h0, .inr (1, [.ref q1, .null, .int 0])), (q1, .inl (cA1, 7, .inl fun _ => 0))] H := hP
  have hD : va_D A [(h0, .inr (1, [.ref q1, .null, .int 0])), (q1, .inl (cA1, 7, .inl fun _ => 0))] := hD
  refine lv_aload_n hx hb dX6_init_12 rfl (lv_at hl 0 rfl) ?_
  refine lv_bipush (v := 7) hx hb dX6_init_13 (by decide) ?_
  have n0 : ¬ (7 : Int32) < 0 := by decide +kernel
  have nN : (7 : Int32).toNatClampNeg = 7 := by decide +kernel
  have nB : 7 * componentBytes .int ≤ 536870912 := by decide +kernel
  have h_1 : 1 + 1 ≤ 2 := by decide
  have h_2 : 7 + 7 ≤ 14 := by decide +kernel
  have nC9 : ∀ cA : ClassId, vp_cell cA (7, .inl fun _ => 0) = arrV cA 7 (fun _ => defaultValue .int) := fun _ => rfl
  refine va_newa (atype := .int) (N' := 7) (a0 := (7, .inl fun _ => 0)) (ty := .int) hx hb (hts (.arrayClass .int) (by decide +kernel)) rfl hK hP hD hS hA nC9 n0 nN nB h_1 h_2 dX6_init_15 (fun q2 cA2 H hK hP hD hS => ?_)
  have hP : va_P (dC, dI) t_cls [(h0, .inr (1, [.ref q1, .null, .int 0])), (q1, .inl (cA1, 7, .inl fun _ => 0)), (q2, .inl (cA2, 7, .inl fun _ => 0))] H := hP
  have hD : va_D A [(h0, .inr (1, [.ref q1, .null, .int 0])), (q1, .inl (cA1, 7, .inl fun _ => 0)), (q2, .inl (cA2, 7, .inl fun _ => 0))] := hD
  have hK : va_K (dC, dI) t_cls [(cA1, .int), (cA2, .int)] s := hK
  refine W.widen (k := 2) (n := 14) (by decide) (by decide) ?_
  refine va_putF (D := (dC, dI)) (ci := 1) (v := .ref q2) (ty := .array .int) (C := RX6) (T := TX6) (N := 3) hx hb hts (by decide +kernel) tyX6 tyX6_ok nmX6 hown hK hP hD hS 0 rfl rfl 1 (by decide) (hts (.fieldLink RX6 15 "TurnsHall$Shelf" "ys" "[I") (by decide +kernel)) (fun _ h9 => h9) rfl hin rfl (by decide +kernel) rfl rfl (Nat.le_of_ble_eq_true rfl) dX6_init_17 (fun H locs hP hD hS => ?_)
  have hP : va_P (dC, dI) t_cls [(h0, .inr (1, [.ref q1, .ref q2, .int 0])), (q1, .inl (cA1, 7, .inl fun _ => 0)), (q2, .inl (cA2, 7, .inl fun _ => 0))] H := hP
  have hD : va_D A [(h0, .inr (1, [.ref q1, .ref q2, .int 0])), (q1, .inl (cA1, 7, .inl fun _ => 0)), (q2, .inl (cA2, 7, .inl fun _ => 0))] := hD
  exact W.vret hx hb hr (fun t ht hW => ⟨⟨(), rfl, trivial, q1, q2, cA1, cA2, by rw [ht]; exact hP, va_K.moved hW.alike hK, hD⟩, hS.F ht⟩) hS.2.2 dX6_init_20
abbrev atX8 (dC : Nat → ClassId) (dI : Nat → Nat → Nat) (A : Nat → Prop) (h0 : Nat) (_ : Unit) (t : State) : Prop := ∃ (q1 q2 q3 : Nat) (cA1 cA2 cA3 : ClassId), va_P (dC, dI) t_cls [(h0, .inr (2, [.ref q1, .ref q2, .ref q3, .int 0])), (q1, .inl (cA1, 21, .inl fun _ => 0)), (q2, .inl (cA2, 7, .inl fun _ => 0)), (q3, .inl (cA3, 49, .inl fun _ => 0))] t.heap ∧ va_K (dC, dI) t_cls [(cA1, .int), (cA2, .int), (cA3, .int)] t ∧ va_D A [(h0, .inr (2, [.ref q1, .ref q2, .ref q3, .int 0])), (q1, .inl (cA1, 21, .inl fun _ => 0)), (q2, .inl (cA2, 7, .inl fun _ => 0)), (q3, .inl (cA3, 49, .inl fun _ => 0))]
set_option maxHeartbeats 4000000 in
set_option maxRecDepth 100000 in
theorem kX8_init (l : Launch) (dC : Nat → ClassId) (dI : Nat → Nat → Nat) (h0 sz : Nat) : Met l yX8_init wsX8_init ({ frames := 1, cells := 3, slots := 77, locals := 16 }) (va_Pc [.ref h0] (fun U => U.heap.size = sz ∧ va_P (dC, dI) t_cls [(h0, .inr (2, [.null, .null, .null, .int 0]))] U.heap ∧ va_K (dC, dI) t_cls [] U ∧ va_D (fun _ => True) [(h0, .inr (2, [.null, .null, .null, .int 0]))])) (va_Qv (fun _ : Unit => True) (atX8 dC dI (va_A [(h0, .inr (2, [.null, .null, .null, .int 0]))] sz) h0) (va_A [(h0, .inr (2, [.null, .null, .null, .int 0]))] sz)) 3 77 (va_A [(h0, .inr (2, [.null, .null, .null, .int 0]))] sz) := by
  refine Met.ofW (cc := cX8_init) (maxL := 1) (ret := none) (by decide) rfl ?_
  intro p e s m args below meth c s₁ B hml hv
  obtain ⟨rfl, hsz, hP, hK, hD0⟩ := hv
  have hx := B.exec
  have hb := B.bytes
  have hr := B.returns
  have hts := atoms_spec (ws := wsX8_init) B.pre
  have hown : s.vm.findClass RX8 = some m.cls := findClass_of_methodNamed B.named
  have hlocks := B.notSynchronized
  have hin : meth.name = "<init>" := (name_of_methodNamed B.named B.method).1
  subst hsz
  have hD := hD0.self (sz := s.heap.size)
  generalize hAe : va_A [(h0, .inr (2, [.null, .null, .null, .int 0]))] s.heap.size = A at hD ⊢
  have hA : ∀ q : Nat, s.heap.size ≤ q → A q := fun q h => by rw [← hAe]; exact Or.inr h
  have hS : va_S A s.heap s.heap [] := va_S.rf
  have hP : va_P (dC, dI) t_cls [(h0, .inr (2, [.null, .null, .null, .int 0]))] s.heap := hP
  have hl := lv_entry ([.ref h0]) (n := 1) (Nat.le_of_ble_eq_true rfl)
  rw [lg_entry_eq]
  generalize (lg_sl ([.ref h0]) ++ List.replicate (1 - (lg_sl ([.ref h0])).length) Slot.unset).toArray = ls at hl ⊢
  have hl : lv_has ls 1 [(0, .ref h0)] := hl
  refine lv_aload_n hx hb dX8_init_0 rfl (lv_at hl 0 rfl) ?_
  refine W.objInit hx hb hown (hts (.methodLink RX8 3 objectInit) (by decide +kernel)) (hts (.instanceMethod objectInit) (by decide +kernel)) (hts _ (List.mem_cons_of_mem _ (List.mem_append_left _ (List.mem_of_getElem? (i := 2) rfl)))) rfl (by rw [hml]; exact hl.1) rfl dX8_init_1 (Nat.le_of_ble_eq_true rfl) (Nat.le_of_ble_eq_true rfl) ?_
  refine W.eq (g2 := F0 m 4 ls []) rfl ?_
  refine lv_aload_n hx hb dX8_init_4 rfl (lv_at hl 0 rfl) ?_
  refine lv_bipush (v := 21) hx hb dX8_init_5 (by decide) ?_
  have n0 : ¬ (21 : Int32) < 0 := by decide +kernel
  have nN : (21 : Int32).toNatClampNeg = 21 := by decide +kernel
  have nB : 21 * componentBytes .int ≤ 536870912 := by decide +kernel
  have h_1 : 0 + 1 ≤ 3 := by decide
  have h_2 : 0 + 21 ≤ 77 := by decide +kernel
  have nC9 : ∀ cA : ClassId, vp_cell cA (21, .inl fun _ => 0) = arrV cA 21 (fun _ => defaultValue .int) := fun _ => rfl
  refine va_newa (atype := .int) (N' := 21) (a0 := (21, .inl fun _ => 0)) (ty := .int) hx hb (hts (.arrayClass .int) (by decide +kernel)) rfl hK hP hD hS hA nC9 n0 nN nB h_1 h_2 dX8_init_7 (fun q1 cA1 H hK hP hD hS => ?_)
  have hP : va_P (dC, dI) t_cls [(h0, .inr (2, [.null, .null, .null, .int 0])), (q1, .inl (cA1, 21, .inl fun _ => 0))] H := hP
  have hD : va_D A [(h0, .inr (2, [.null, .null, .null, .int 0])), (q1, .inl (cA1, 21, .inl fun _ => 0))] := hD
  have hK : va_K (dC, dI) t_cls [(cA1, .int)] s := hK
  refine W.widen (k := 1) (n := 21) (by decide) (by decide) ?_
  refine va_putF (D := (dC, dI)) (ci := 2) (v := .ref q1) (ty := .array .int) (C := RX8) (T := TX8) (N := 4) hx hb hts (by decide +kernel) tyX8 tyX8_ok nmX8 hown hK hP hD hS 0 rfl rfl 0 (by decide) (hts (.fieldLink RX8 9 "TurnsHall$Word" "letters" "[I") (by decide +kernel)) (fun _ h9 => h9) rfl hin rfl (by decide +kernel) rfl rfl (Nat.le_of_ble_eq_true rfl) dX8_init_9 (fun H locs hP hD hS => ?_)
  have hP : va_P (dC, dI) t_cls [(h0, .inr (2, [.ref q1, .null, .null, .int 0])), (q1, .inl (cA1, 21, .inl fun _ => 0))] H := hP
  have hD : va_D A [(h0, .inr (2, [.ref q1, .null, .null, .int 0])), (q1, .inl (cA1, 21, .inl fun _ => 0))] := hD
  refine lv_aload_n hx hb dX8_init_12 rfl (lv_at hl 0 rfl) ?_
  refine lv_bipush (v := 7) hx hb dX8_init_13 (by decide) ?_
  have n0 : ¬ (7 : Int32) < 0 := by decide +kernel
  have nN : (7 : Int32).toNatClampNeg = 7 := by decide +kernel
  have nB : 7 * componentBytes .int ≤ 536870912 := by decide +kernel
  have h_1 : 1 + 1 ≤ 3 := by decide
  have h_2 : 21 + 7 ≤ 77 := by decide +kernel
  have nC9 : ∀ cA : ClassId, vp_cell cA (7, .inl fun _ => 0) = arrV cA 7 (fun _ => defaultValue .int) := fun _ => rfl
  refine va_newa (atype := .int) (N' := 7) (a0 := (7, .inl fun _ => 0)) (ty := .int) hx hb (hts (.arrayClass .int) (by decide +kernel)) rfl hK hP hD hS hA nC9 n0 nN nB h_1 h_2 dX8_init_15 (fun q2 cA2 H hK hP hD hS => ?_)
  have hP : va_P (dC, dI) t_cls [(h0, .inr (2, [.ref q1, .null, .null, .int 0])), (q1, .inl (cA1, 21, .inl fun _ => 0)), (q2, .inl (cA2, 7, .inl fun _ => 0))] H := hP
  have hD : va_D A [(h0, .inr (2, [.ref q1, .null, .null, .int 0])), (q1, .inl (cA1, 21, .inl fun _ => 0)), (q2, .inl (cA2, 7, .inl fun _ => 0))] := hD
  have hK : va_K (dC, dI) t_cls [(cA1, .int), (cA2, .int)] s := hK
  refine W.widen (k := 2) (n := 28) (by decide) (by decide) ?_
  refine va_putF (D := (dC, dI)) (ci := 2) (v := .ref q2) (ty := .array .int) (C := RX8) (T := TX8) (N := 4) hx hb hts (by decide +kernel) tyX8 tyX8_ok nmX8 hown hK hP hD hS 0 rfl rfl 1 (by decide) (hts (.fieldLink RX8 15 "TurnsHall$Word" "lineAt" "[I") (by decide +kernel)) (fun _ h9 => h9) rfl hin rfl (by decide +kernel) rfl rfl (Nat.le_of_ble_eq_true rfl) dX8_init_17 (fun H locs hP hD hS => ?_)
  have hP : va_P (dC, dI) t_cls [(h0, .inr (2, [.ref q1, .ref q2, .null, .int 0])), (q1, .inl (cA1, 21, .inl fun _ => 0)), (q2, .inl (cA2, 7, .inl fun _ => 0))] H := hP
  have hD : va_D A [(h0, .inr (2, [.ref q1, .ref q2, .null, .int 0])), (q1, .inl (cA1, 21, .inl fun _ => 0)), (q2, .inl (cA2, 7, .inl fun _ => 0))] := hD
  refine lv_aload_n hx hb dX8_init_20 rfl (lv_at hl 0 rfl) ?_
  refine lv_bipush (v := 49) hx hb dX8_init_21 (by decide) ?_
  have n0 : ¬ (49 : Int32) < 0 := by decide +kernel
  have nN : (49 : Int32).toNatClampNeg = 49 := by decide +kernel
  have nB : 49 * componentBytes .int ≤ 536870912 := by decide +kernel
  have h_1 : 2 + 1 ≤ 3 := by decide
  have h_2 : 28 + 49 ≤ 77 := by decide +kernel
  have nC9 : ∀ cA : ClassId, vp_cell cA (49, .inl fun _ => 0) = arrV cA 49 (fun _ => defaultValue .int) := fun _ => rfl
  refine va_newa (atype := .int) (N' := 49) (a0 := (49, .inl fun _ => 0)) (ty := .int) hx hb (hts (.arrayClass .int) (by decide +kernel)) rfl hK hP hD hS hA nC9 n0 nN nB h_1 h_2 dX8_init_23 (fun q3 cA3 H hK hP hD hS => ?_)
  have hP : va_P (dC, dI) t_cls [(h0, .inr (2, [.ref q1, .ref q2, .null, .int 0])), (q1, .inl (cA1, 21, .inl fun _ => 0)), (q2, .inl (cA2, 7, .inl fun _ => 0)), (q3, .inl (cA3, 49, .inl fun _ => 0))] H := hP
  have hD : va_D A [(h0, .inr (2, [.ref q1, .ref q2, .null, .int 0])), (q1, .inl (cA1, 21, .inl fun _ => 0)), (q2, .inl (cA2, 7, .inl fun _ => 0)), (q3, .inl (cA3, 49, .inl fun _ => 0))] := hD
  have hK : va_K (dC, dI) t_cls [(cA1, .int), (cA2, .int), (cA3, .int)] s := hK
  refine W.widen (k := 3) (n := 77) (by decide) (by decide) ?_
  refine va_putF (D := (dC, dI)) (ci := 2) (v := .ref q3) (ty := .array .int) (C := RX8) (T := TX8) (N := 4) hx hb hts (by decide +kernel) tyX8 tyX8_ok nmX8 hown hK hP hD hS 0 rfl rfl 2 (by decide) (hts (.fieldLink RX8 18 "TurnsHall$Word" "crossedBy" "[I") (by decide +kernel)) (fun _ h9 => h9) rfl hin rfl (by decide +kernel) rfl rfl (Nat.le_of_ble_eq_true rfl) dX8_init_25 (fun H locs hP hD hS => ?_)
  have hP : va_P (dC, dI) t_cls [(h0, .inr (2, [.ref q1, .ref q2, .ref q3, .int 0])), (q1, .inl (cA1, 21, .inl fun _ => 0)), (q2, .inl (cA2, 7, .inl fun _ => 0)), (q3, .inl (cA3, 49, .inl fun _ => 0))] H := hP
  have hD : va_D A [(h0, .inr (2, [.ref q1, .ref q2, .ref q3, .int 0])), (q1, .inl (cA1, 21, .inl fun _ => 0)), (q2, .inl (cA2, 7, .inl fun _ => 0)), (q3, .inl (cA3, 49, .inl fun _ => 0))] := hD
  exact W.vret hx hb hr (fun t ht hW => ⟨⟨(), rfl, trivial, q1, q2, q3, cA1, cA2, cA3, by rw [ht]; exact hP, va_K.moved hW.alike hK, hD⟩, hS.F ht⟩) hS.2.2 dX8_init_28
