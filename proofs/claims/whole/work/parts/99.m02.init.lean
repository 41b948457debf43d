/-! ===== constructors ===== -/
abbrev atX7 (dC : Nat → ClassId) (dI : Nat → Nat → Nat) (A : Nat → Prop) (h0 : Nat) (_ : Unit) (t : State) : Prop := ∃ (q1 : Nat) (cA : ClassId), va_P (dC, dI) t_cls [(h0, .inr (6, [.ref q1, .int 0])), (q1, .inl (cA, 343, .inl fun _ => 0))] t.heap ∧ va_K (dC, dI) t_cls [(cA, .int)] t ∧ va_D A [(h0, .inr (6, [.ref q1, .int 0])), (q1, .inl (cA, 343, .inl fun _ => 0))]
set_option maxHeartbeats 1000000 in
set_option maxRecDepth 100000 in
theorem kX7_init (l : Launch) (dC : Nat → ClassId) (dI : Nat → Nat → Nat) (h0 sz : Nat) : Met l yX7_init wsX7_init ({ frames := 1, cells := 1, slots := 343, locals := 16 }) (va_Pc [.ref h0] (fun U => U.heap.size = sz ∧ va_P (dC, dI) t_cls [(h0, .inr (6, [.null, .int 0]))] U.heap ∧ va_K (dC, dI) t_cls [] U ∧ va_D (fun _ => True) [(h0, .inr (6, [.null, .int 0]))])) (va_Qv (fun _ : Unit => True) (atX7 dC dI (va_A [(h0, .inr (6, [.null, .int 0]))] sz) h0) (va_A [(h0, .inr (6, [.null, .int 0]))] sz)) 1 343 (va_A [(h0, .inr (6, [.null, .int 0]))] sz) := by
  refine Met.ofW (cc := cX7_init) (maxL := 1) (ret := none) (by decide) rfl ?_
  intro p e s m args below meth c s₁ B hml hv
  obtain ⟨rfl, hsz, hP, hK, hD0⟩ := hv
  have hx := B.exec
  have hb := B.bytes
  have hr := B.returns
  have hts := atoms_spec (ws := wsX7_init) B.pre
  have hown : s.vm.findClass RX7 = some m.cls := findClass_of_methodNamed B.named
  have hlocks := B.notSynchronized
  have hin : meth.name = "<init>" := (name_of_methodNamed B.named B.method).1
  subst hsz
  have hD := hD0.self (sz := s.heap.size)
  generalize hAe : va_A [(h0, .inr (6, [.null, .int 0]))] s.heap.size = A at hD ⊢
  have hA : ∀ q : Nat, s.heap.size ≤ q → A q := fun q h => by rw [← hAe]; exact Or.inr h
  have hS : va_S A s.heap s.heap [] := va_S.rf
  have hP : va_P (dC, dI) t_cls [(h0, .inr (6, [.null, .int 0]))] s.heap := hP
  have hl := lv_entry ([.ref h0]) (n := 1) (Nat.le_of_ble_eq_true rfl)
  rw [lg_entry_eq]
  generalize (lg_sl ([.ref h0]) ++ List.replicate (1 - (lg_sl ([.ref h0])).length) Slot.unset).toArray = ls at hl ⊢
  have hl : lv_has ls 1 [(0, .ref h0)] := hl
  refine lv_aload_n hx hb dX7_init_0 rfl (lv_at hl 0 rfl) ?_
  refine W.objInit hx hb hown (hts (.methodLink RX7 3 objectInit) (by decide +kernel)) (hts (.instanceMethod objectInit) (by decide +kernel)) (hts _ (List.mem_cons_of_mem _ (List.mem_append_left _ (List.mem_of_getElem? (i := 2) rfl)))) rfl (by rw [hml]; exact hl.1) rfl dX7_init_1 (Nat.le_of_ble_eq_true rfl) (Nat.le_of_ble_eq_true rfl) ?_
  refine W.eq (g2 := F0 m 4 ls []) rfl ?_
  refine lv_aload_n hx hb dX7_init_4 rfl (lv_at hl 0 rfl) ?_
  refine lv_sipush (v := 343) hx hb dX7_init_5 (by decide) ?_
  have n0 : ¬ (343 : Int32) < 0 := by decide +kernel
  have nN : (343 : Int32).toNatClampNeg = 343 := by decide +kernel
  have nB : 343 * componentBytes .int ≤ 536870912 := by decide +kernel
  have h_1 : 0 + 1 ≤ 1 := by decide
  have h_2 : 0 + 343 ≤ 343 := by decide +kernel
  have nC9 : ∀ cA : ClassId, vp_cell cA (343, .inl fun _ => 0) = arrV cA 343 (fun _ => defaultValue .int) := fun _ => rfl
  refine va_newa (atype := .int) (N' := 343) (a0 := (343, .inl fun _ => 0)) (ty := .int) hx hb (hts (.arrayClass .int) (by decide +kernel)) rfl hK hP hD hS hA nC9 n0 nN nB h_1 h_2 dX7_init_8 (fun q1 cA H hK hP hD hS => ?_)
  have hP : va_P (dC, dI) t_cls [(h0, .inr (6, [.null, .int 0])), (q1, .inl (cA, 343, .inl fun _ => 0))] H := hP
  have hD : va_D A [(h0, .inr (6, [.null, .int 0])), (q1, .inl (cA, 343, .inl fun _ => 0))] := hD
  have hK : va_K (dC, dI) t_cls [(cA, .int)] s := hK
  refine va_putF (D := (dC, dI)) (ci := 6) (v := .ref q1) (ty := .array .int) (C := RX7) (T := TX7) (N := 2) hx hb hts (by decide +kernel) tyX7 tyX7_ok nmX7 hown hK hP hD hS 0 rfl rfl 0 (by decide) (hts (.fieldLink RX7 9 "TurnsHall$Signs" "table" "[I") (by decide +kernel)) (fun _ h9 => h9) rfl hin rfl (by decide +kernel) rfl rfl (Nat.le_of_ble_eq_true rfl) dX7_init_10 (fun H locs hP hD hS => ?_)
  have hP : va_P (dC, dI) t_cls [(h0, .inr (6, [.ref q1, .int 0])), (q1, .inl (cA, 343, .inl fun _ => 0))] H := hP
  have hD : va_D A [(h0, .inr (6, [.ref q1, .int 0])), (q1, .inl (cA, 343, .inl fun _ => 0))] := hD
  exact W.vret hx hb hr (fun t ht hW => ⟨⟨(), rfl, trivial, q1, cA, by rw [ht]; exact hP, va_K.moved hW.alike hK, hD⟩, hS.F ht⟩) hS.2.2 dX7_init_13
