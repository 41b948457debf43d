/-! THE CLAIM OUT OF ONE WALK OF THE LAW'S BODY. Your part is whole_start (and what it stands on); all else here is the same for every law, but numbers. -/
def R_law : String := "TurnsHallLaw"
def lw_P (b : Addr) (xs : List Int32) (args : Array Value) (s : State) : Prop := args = #[.ref b] ∧ s.IntsAt b xs ∧ xs.length ≤ 260 ∧ (Jvm.Cond.and given_1 narrow_1).before args s = true
def lw_Q (_ : Array Value) (s : State) (o : Outcome) (t : State) : Prop := o = .returned (some (.int 1)) ∧ Framed s o t [] 600086 7301442
def lw_Z (below : List Frame) (a : Array Value) (s : State) : State → Prop := fun t => ∃ o, t.status = .running ∧ Ended t below o ∧ lw_Q a s o t
/-- the law's own end, with 1 on the stack, nothing written that was there before, its room as the claim has it -/
theorem lw_ret {p : Program} {l : Launch} {e : Env} {s : State} {m : MethodId} {below : List Frame} {meth : Method} {c : Code} {b : Nat} (hx : p.tables.exec = Jvm.exec) (hb : c.code = code) (hr : meth.sig.returnType = ret) (hlocks : meth.locks = false) {pc : Nat} {H : Heap} {ls : Array Slot} (hdg : decode code pc = .ok (.ireturn, 1)) : W p l e room_1 s m #[Value.ref b] below meth c H [] 600086 7301442 (lw_Z below #[Value.ref b] s) (F0 m pc ls [.int 1]) := by
  intro T hT X
  obtain ⟨fs, hret, hrun, hended, hW, hframe⟩ := X.leave (v := some (.int 1)) (hlocks := hlocks) (fun h => by rw [hr] at h; cases h)
  have hmeth' : T.vm.method? m = some meth := X.method'
  refine ⟨T.setFrames fs, ?_, .returned (some (.int 1)), hrun, hended, rfl, ⟨_, rfl⟩, hW, hframe⟩
  jvm_step X.here [X.here.top, hx, hb, hdg, hmeth', hr, ret, narrow_b1]
  (try refine ⟨rfl, ?_⟩); (try refine ⟨rfl, ?_⟩)
  first | (intro acts; rw [hret _ acts rfl rfl rfl]) | rw [hret _ _ rfl rfl rfl]
  exact Steps.refl _
/-- what holds at the law's entry: the machine, the code, the tables' words (any of lw_tbl by 'hts w (by decide +kernel)'), the script of L ints xs at the cell b, what the Statement gives of the start (any of its parts by flat_of_before) -/
def lw_At (p : Program) (s : State) (m : MethodId) (meth : Method) (c : Code) (b L : Nat) (xs : Nat → Int32) : Prop :=
  p.tables.exec = Jvm.exec ∧ c.code = code ∧ meth.sig.returnType = ret ∧ c.maxLocals = 25 ∧ s.vm.findClass R_law = some m.cls ∧ (∀ w ∈ lw_tbl, w.before #[Value.ref b] s = true) ∧ va_X b L xs s s.heap ∧ b < s.heap.size ∧ meth.locks = false ∧ (Jvm.Cond.and given_1 narrow_1).before #[Value.ref b] s = true
theorem dL_0 : decode code 0 = .ok (.new 11, 3) := by decide +kernel
theorem dL_3 : decode code 3 = .ok (.dup, 1) := by decide +kernel
theorem dL_4 : decode code 4 = .ok (.invokespecial 82, 3) := by decide +kernel
theorem dL_7 : decode code 7 = .ok (.astore_n 1, 1) := by decide +kernel
theorem dL_8 : decode code 8 = .ok (.bipush 7, 2) := by decide +kernel
theorem dL_10 : decode code 10 = .ok (.newarray .int, 2) := by decide +kernel
theorem dL_12 : decode code 12 = .ok (.astore_n 2, 1) := by decide +kernel
theorem dL_13 : decode code 13 = .ok (.bipush 7, 2) := by decide +kernel
theorem dL_15 : decode code 15 = .ok (.newarray .int, 2) := by decide +kernel
theorem dL_17 : decode code 17 = .ok (.astore_n 3, 1) := by decide +kernel
theorem dL_18 : decode code 18 = .ok (.bipush 49, 2) := by decide +kernel
theorem dL_20 : decode code 20 = .ok (.newarray .int, 2) := by decide +kernel
theorem dL_22 : decode code 22 = .ok (.astore 4, 2) := by decide +kernel
theorem t_ri_1 {ins : Instr} (h : t_ri tq_114 ins (some (.int 1))) : ins = .ireturn := by
  rcases h with ⟨x, h1, -⟩ | ⟨x, -, h2, -⟩ | ⟨w, -, h2, h3, -⟩ | ⟨-, h2, -⟩
  · exact h1
  · cases h2
  · cases h2
    rcases h3 with h3 | ⟨a, h3⟩ <;> cases h3
  · cases h2
set_option maxRecDepth 100000 in
theorem tx_known0 {s : State} {args : Array Value} (hts : ∀ w ∈ lw_tbl, w.before args s = true) : ∃ (dC : Nat → ClassId) (dI : Nat → Nat → Nat), ∀ (k : Nat) (q : vw_C), t_cls[k]? = some q → u_Kn s q.1 q.2.1 q.2.2 (dC k) (dI k) := by
  obtain ⟨c0, i0, hK0⟩ := u_known (C := RX9) (T := TX9) (N := 7) (n := 7) hts (fun w hw => (t_uw_0 w hw).1) (hts (.instantiable RX9 7) (by decide +kernel))
  obtain ⟨c1, i1, hK1⟩ := u_known (C := RX6) (T := TX6) (N := 3) (n := 3) hts (fun w hw => (t_uw_1 w hw).1) (hts (.instantiable RX6 3) (by decide +kernel))
  obtain ⟨c2, i2, hK2⟩ := u_known (C := RX8) (T := TX8) (N := 4) (n := 4) hts (fun w hw => (t_uw_2 w hw).1) (hts (.instantiable RX8 4) (by decide +kernel))
  obtain ⟨c3, i3, hK3⟩ := u_known (C := RX5) (T := TX5) (N := 2) (n := 2) hts (fun w hw => (t_uw_3 w hw).1) (hts (.instantiable RX5 2) (by decide +kernel))
  obtain ⟨c4, i4, hK4⟩ := u_known (C := RX4) (T := TX4) (N := 4) (n := 4) hts (fun w hw => (t_uw_4 w hw).1) (hts (.instantiable RX4 4) (by decide +kernel))
  obtain ⟨c5, i5, hK5⟩ := u_known (C := RX2) (T := TX2) (N := 6) (n := 6) hts (fun w hw => (t_uw_5 w hw).1) (hts (.instantiable RX2 6) (by decide +kernel))
  obtain ⟨c6, i6, hK6⟩ := u_known (C := RX7) (T := TX7) (N := 2) (n := 2) hts (fun w hw => (t_uw_6 w hw).1) (hts (.instantiable RX7 2) (by decide +kernel))
  refine ⟨fun k => [c0, c1, c2, c3, c4, c5, c6].getD k c0, fun k => [i0, i1, i2, i3, i4, i5, i6].getD k i0, ?_⟩
  intro k q hq
  match k, hq with
  | 0, hq => cases hq; exact hK0
  | 1, hq => cases hq; exact hK1
  | 2, hq => cases hq; exact hK2
  | 3, hq => cases hq; exact hK3
  | 4, hq => cases hq; exact hK4
  | 5, hq => cases hq; exact hK5
  | 6, hq => cases hq; exact hK6
  | k + 7, hq => simp [t_cls] at hq
set_option maxHeartbeats 4000000 in
set_option maxRecDepth 100000 in
/-- from the entry, for every script of at most 260 ints, the law comes to its end with true -/
theorem whole_start {p : Program} {e : Env} {s : State} {m : MethodId} {below : List Frame} {meth : Method} {c : Code} (l : Launch) (hflags : l.flags = flags0) {b L : Nat} {xs : Nat → Int32} (hL : L ≤ 260) (C0 : lw_At p s m meth c b L xs) (htab : c.exceptionTable.toList = []) : W p l e room_1 s m #[Value.ref b] below meth c s.heap [] 0 0 (lw_Z below #[Value.ref b] s) (entryFrame m ([Value.ref b] : List Value).toArray 25) := by
  obtain ⟨hx, hb, hr, hml, hown, hts, hX, hbl, hlocks, hgv⟩ := id C0
  have hl9 : l.stackTraces = false := by unfold Launch.stackTraces; rw [hflags]; decide +kernel
  have hA : ∀ q : Nat, s.heap.size ≤ q → (fun q : Nat => s.heap.size ≤ q) q := fun _ h => h
  have hO : va_AO RX2 s := va_AO.of (hts _ t_st1.2.2.2)
  obtain ⟨dC, dI, hKc0⟩ := tx_known0 hts
  generalize hAe : (fun q : Nat => s.heap.size ≤ q) = A at hA
  have hS : va_S A s.heap s.heap [] := va_S.rf
  have hK : va_K (dC, dI) t_cls [] s := ⟨hKc0, fun k q h => by simp at h⟩
  have hP : va_P (dC, dI) t_cls [] s.heap := fun k q h => by simp at h
  have hD : va_D A [] := ⟨fun i j p q h => by simp at h, fun k q h => by simp at h⟩
  have hl := lv_entry ([.ref b]) (n := 25) (Nat.le_of_ble_eq_true rfl)
  rw [lg_entry_eq]
  generalize (lg_sl ([.ref b]) ++ List.replicate (25 - (lg_sl ([.ref b])).length) Slot.unset).toArray = ls at hl ⊢
  have hl : lv_has ls 25 [(0, .ref b)] := hl
  have h_1 : 0 + 1 ≤ 600086 := by decide +kernel
  have h_2 : 0 + 7 ≤ 7301442 := by decide +kernel
  refine va_new (ci := 0) (fs := [.null, .null, .null, .int 0, .null, .null, .null]) (C := RX9) (T := TX9) (N := 7) hx hb hts (fun w hw => (t_uw_0 w hw).1) tyX9 tyX9_ok hown (hts (.classLink R_law 11 RX9) (by decide +kernel)) (hts (.instantiable RX9 7) (by decide +kernel)) (hts (.initialized RX9) (by decide +kernel)) hK hP hD hS hA rfl (fun j hj => by rcases (show j = 0 ∨ j = 1 ∨ j = 2 ∨ j = 3 ∨ j = 4 ∨ j = 5 ∨ j = 6 by omega) with rfl | rfl | rfl | rfl | rfl | rfl | rfl <;> rfl) h_1 h_2 dL_0 (fun h0 H hP hD hS => ?_)
  have hP : va_P (dC, dI) t_cls [(h0, .inr (0, [.null, .null, .null, .int 0, .null, .null, .null]))] H := hP
  have hD : va_D A [(h0, .inr (0, [.null, .null, .null, .int 0, .null, .null, .null]))] := hD
  refine W.widen (k := 1) (n := 7) (by decide) (by decide) ?_
  refine lv_dup hx hb dL_3 rfl ?_
  have hkc : 1 + 44 ≤ 600086 := by decide +kernel
  have hks : 7 + 2673 ≤ 7301442 := by decide +kernel
  have hPc := hP.sub (ws' := [(h0, .inr (0, [.null, .null, .null, .int 0, .null, .null, .null]))]) [0] rfl
  have hDc := hD.sub (ws' := [(h0, .inr (0, [.null, .null, .null, .int 0, .null, .null, .null]))]) [0] (by decide) rfl
  have hKc := hK.sub (tys' := []) [] rfl
  have hFc := va_free (wc := [(h0, .inr (0, [.null, .null, .null, .int 0, .null, .null, .null]))]) hD hS hA [0] rfl
  refine va_callv (va_runI (As := []) (rest := [.ref h0]) ⟨hx, hb, hml, hown, hts⟩ (kX9_init l dC dI h0 H.size) (cwI 0 hts gT_X9_init rfl rfl rfl (hts (.initialized RX9) (by decide +kernel)) (hts (.methodLink R_law 82 yX9_init) (by decide +kernel)) (hts (.instanceMethod yX9_init) (by decide +kernel)) rfl (by decide +kernel) ⟨Nat.le_of_ble_eq_true rfl, Nat.le_of_ble_eq_true rfl⟩) ⟨fun a U g mk q => by obtain ⟨q0, q1, qP, qK, qD, qO⟩ := q; exact ⟨q0, q1, qP, va_K.moved (u := U) (U := U.calling g mk a) (Vm.Alike.refl U.vm) qK, qD, va_AO.moved (u := U) (U := U.calling g mk a) (Vm.Alike.refl U.vm) qO⟩, fun U hU hW => ⟨rfl, by rw [hU], by rw [hU]; exact hPc, va_K.moved hW.alike hKc, hDc.weaken (fun _ _ _ _ => trivial), va_AO.moved hW.alike hO⟩⟩ rfl rfl hl.1 rfl (lv_room (Nat.le_of_ble_eq_true rfl)) dL_4 ⟨hkc, hks⟩) hS (fun q _ h => hFc q h) hFc (fun u t H1 locs ht hvm hw hB hz1 hk1 hS => ?_)
  obtain ⟨o1, a1_1, a1_2, o2, a2_1, a2_2, a2_3, od, o3, a3_1, o4, a4_1, o5, a5_1, o6, a6_1, a6_2, a6_3, a6_4, o7, a7_1, a7_2, a7_3, a7_4, o8, a8_1, a8_2, a8_3, a8_4, o9, a9_1, a9_2, a9_3, a9_4, o10, a10_1, a10_2, a10_3, a10_4, o11, a11_1, a11_2, a11_3, a11_4, c1_1, c1_2, c2_1, c2_2, c2_3, cd, c3_1, c4_1, c5_1, c6_1, c6_2, c6_3, c7_1, c7_2, c7_3, c8_1, c8_2, c8_3, c9_1, c9_2, c9_3, c10_1, c10_2, c10_3, c11_1, c11_2, c11_3, hP1, hK1, hD1⟩ := hB
  rw [ht] at hP1
  have hK1 := va_K.moved hvm.symm hK1
  obtain ⟨hP, hD⟩ := va_join (wr := []) (w1 := [(h0, .inr (0, [.ref o1, .ref o2, .ref od, .int 0, .ref o3, .ref o4, .ref o5])), (o1, .inr (1, [.ref a1_1, .ref a1_2, .int 0])), (a1_1, .inl (c1_1, 7, .inl fun _ => 0)), (a1_2, .inl (c1_2, 7, .inl fun _ => 0)), (o2, .inr (2, [.ref a2_1, .ref a2_2, .ref a2_3, .int 0])), (a2_1, .inl (c2_1, 21, .inl fun _ => 0)), (a2_2, .inl (c2_2, 7, .inl fun _ => 0)), (a2_3, .inl (c2_3, 49, .inl fun _ => 0)), (od, .inl (cd, 6, .inr (.inr (.inr (.inr (va_up (va_up (va_up (va_up (va_up (va_up (fun _ => none) 0 (some o6)) 1 (some o7)) 2 (some o8)) 3 (some o9)) 4 (some o10)) 5 (some o11))))))), (o3, .inr (3, [.ref a3_1, .int 0])), (a3_1, .inl (c3_1, 21, .inl fun _ => 0)), (o4, .inr (4, [.ref a4_1, .null, .int 0, .long 0])), (a4_1, .inl (c4_1, 7, .inl fun _ => 0)), (o5, .inr (6, [.ref a5_1, .int 0])), (a5_1, .inl (c5_1, 343, .inl fun _ => 0)), (o6, .inr (5, [.ref a6_1, .ref a6_3, .ref a6_4, .int 0, .int 0, .int 0])), (a6_1, .inr (6, [.ref a6_2, .int 0])), (a6_2, .inl (c6_1, 343, .inl fun _ => 0)), (a6_3, .inl (c6_2, 7, .inl fun _ => 0)), (a6_4, .inl (c6_3, 7, .inl fun _ => 0)), (o7, .inr (5, [.ref a7_1, .ref a7_3, .ref a7_4, .int 0, .int 0, .int 0])), (a7_1, .inr (6, [.ref a7_2, .int 0])), (a7_2, .inl (c7_1, 343, .inl fun _ => 0)), (a7_3, .inl (c7_2, 7, .inl fun _ => 0)), (a7_4, .inl (c7_3, 7, .inl fun _ => 0)), (o8, .inr (5, [.ref a8_1, .ref a8_3, .ref a8_4, .int 0, .int 0, .int 0])), (a8_1, .inr (6, [.ref a8_2, .int 0])), (a8_2, .inl (c8_1, 343, .inl fun _ => 0)), (a8_3, .inl (c8_2, 7, .inl fun _ => 0)), (a8_4, .inl (c8_3, 7, .inl fun _ => 0)), (o9, .inr (5, [.ref a9_1, .ref a9_3, .ref a9_4, .int 0, .int 0, .int 0])), (a9_1, .inr (6, [.ref a9_2, .int 0])), (a9_2, .inl (c9_1, 343, .inl fun _ => 0)), (a9_3, .inl (c9_2, 7, .inl fun _ => 0)), (a9_4, .inl (c9_3, 7, .inl fun _ => 0)), (o10, .inr (5, [.ref a10_1, .ref a10_3, .ref a10_4, .int 0, .int 0, .int 0])), (a10_1, .inr (6, [.ref a10_2, .int 0])), (a10_2, .inl (c10_1, 343, .inl fun _ => 0)), (a10_3, .inl (c10_2, 7, .inl fun _ => 0)), (a10_4, .inl (c10_3, 7, .inl fun _ => 0)), (o11, .inr (5, [.ref a11_1, .ref a11_3, .ref a11_4, .int 0, .int 0, .int 0])), (a11_1, .inr (6, [.ref a11_2, .int 0])), (a11_2, .inl (c11_1, 343, .inl fun _ => 0)), (a11_3, .inl (c11_2, 7, .inl fun _ => 0)), (a11_4, .inl (c11_3, 7, .inl fun _ => 0))]) hP hD [0] [] rfl rfl (by decide) (by decide) hk1 hFc hP1 hD1
  have hK := hK.app hK1
  generalize H1 = H at hP hS ⊢
  have hP : va_P (dC, dI) t_cls [(h0, .inr (0, [.ref o1, .ref o2, .ref od, .int 0, .ref o3, .ref o4, .ref o5])), (o1, .inr (1, [.ref a1_1, .ref a1_2, .int 0])), (a1_1, .inl (c1_1, 7, .inl fun _ => 0)), (a1_2, .inl (c1_2, 7, .inl fun _ => 0)), (o2, .inr (2, [.ref a2_1, .ref a2_2, .ref a2_3, .int 0])), (a2_1, .inl (c2_1, 21, .inl fun _ => 0)), (a2_2, .inl (c2_2, 7, .inl fun _ => 0)), (a2_3, .inl (c2_3, 49, .inl fun _ => 0)), (od, .inl (cd, 6, .inr (.inr (.inr (.inr (va_up (va_up (va_up (va_up (va_up (va_up (fun _ => none) 0 (some o6)) 1 (some o7)) 2 (some o8)) 3 (some o9)) 4 (some o10)) 5 (some o11))))))), (o3, .inr (3, [.ref a3_1, .int 0])), (a3_1, .inl (c3_1, 21, .inl fun _ => 0)), (o4, .inr (4, [.ref a4_1, .null, .int 0, .long 0])), (a4_1, .inl (c4_1, 7, .inl fun _ => 0)), (o5, .inr (6, [.ref a5_1, .int 0])), (a5_1, .inl (c5_1, 343, .inl fun _ => 0)), (o6, .inr (5, [.ref a6_1, .ref a6_3, .ref a6_4, .int 0, .int 0, .int 0])), (a6_1, .inr (6, [.ref a6_2, .int 0])), (a6_2, .inl (c6_1, 343, .inl fun _ => 0)), (a6_3, .inl (c6_2, 7, .inl fun _ => 0)), (a6_4, .inl (c6_3, 7, .inl fun _ => 0)), (o7, .inr (5, [.ref a7_1, .ref a7_3, .ref a7_4, .int 0, .int 0, .int 0])), (a7_1, .inr (6, [.ref a7_2, .int 0])), (a7_2, .inl (c7_1, 343, .inl fun _ => 0)), (a7_3, .inl (c7_2, 7, .inl fun _ => 0)), (a7_4, .inl (c7_3, 7, .inl fun _ => 0)), (o8, .inr (5, [.ref a8_1, .ref a8_3, .ref a8_4, .int 0, .int 0, .int 0])), (a8_1, .inr (6, [.ref a8_2, .int 0])), (a8_2, .inl (c8_1, 343, .inl fun _ => 0)), (a8_3, .inl (c8_2, 7, .inl fun _ => 0)), (a8_4, .inl (c8_3, 7, .inl fun _ => 0)), (o9, .inr (5, [.ref a9_1, .ref a9_3, .ref a9_4, .int 0, .int 0, .int 0])), (a9_1, .inr (6, [.ref a9_2, .int 0])), (a9_2, .inl (c9_1, 343, .inl fun _ => 0)), (a9_3, .inl (c9_2, 7, .inl fun _ => 0)), (a9_4, .inl (c9_3, 7, .inl fun _ => 0)), (o10, .inr (5, [.ref a10_1, .ref a10_3, .ref a10_4, .int 0, .int 0, .int 0])), (a10_1, .inr (6, [.ref a10_2, .int 0])), (a10_2, .inl (c10_1, 343, .inl fun _ => 0)), (a10_3, .inl (c10_2, 7, .inl fun _ => 0)), (a10_4, .inl (c10_3, 7, .inl fun _ => 0)), (o11, .inr (5, [.ref a11_1, .ref a11_3, .ref a11_4, .int 0, .int 0, .int 0])), (a11_1, .inr (6, [.ref a11_2, .int 0])), (a11_2, .inl (c11_1, 343, .inl fun _ => 0)), (a11_3, .inl (c11_2, 7, .inl fun _ => 0)), (a11_4, .inl (c11_3, 7, .inl fun _ => 0))] H := hP
  have hD : va_D A [(h0, .inr (0, [.ref o1, .ref o2, .ref od, .int 0, .ref o3, .ref o4, .ref o5])), (o1, .inr (1, [.ref a1_1, .ref a1_2, .int 0])), (a1_1, .inl (c1_1, 7, .inl fun _ => 0)), (a1_2, .inl (c1_2, 7, .inl fun _ => 0)), (o2, .inr (2, [.ref a2_1, .ref a2_2, .ref a2_3, .int 0])), (a2_1, .inl (c2_1, 21, .inl fun _ => 0)), (a2_2, .inl (c2_2, 7, .inl fun _ => 0)), (a2_3, .inl (c2_3, 49, .inl fun _ => 0)), (od, .inl (cd, 6, .inr (.inr (.inr (.inr (va_up (va_up (va_up (va_up (va_up (va_up (fun _ => none) 0 (some o6)) 1 (some o7)) 2 (some o8)) 3 (some o9)) 4 (some o10)) 5 (some o11))))))), (o3, .inr (3, [.ref a3_1, .int 0])), (a3_1, .inl (c3_1, 21, .inl fun _ => 0)), (o4, .inr (4, [.ref a4_1, .null, .int 0, .long 0])), (a4_1, .inl (c4_1, 7, .inl fun _ => 0)), (o5, .inr (6, [.ref a5_1, .int 0])), (a5_1, .inl (c5_1, 343, .inl fun _ => 0)), (o6, .inr (5, [.ref a6_1, .ref a6_3, .ref a6_4, .int 0, .int 0, .int 0])), (a6_1, .inr (6, [.ref a6_2, .int 0])), (a6_2, .inl (c6_1, 343, .inl fun _ => 0)), (a6_3, .inl (c6_2, 7, .inl fun _ => 0)), (a6_4, .inl (c6_3, 7, .inl fun _ => 0)), (o7, .inr (5, [.ref a7_1, .ref a7_3, .ref a7_4, .int 0, .int 0, .int 0])), (a7_1, .inr (6, [.ref a7_2, .int 0])), (a7_2, .inl (c7_1, 343, .inl fun _ => 0)), (a7_3, .inl (c7_2, 7, .inl fun _ => 0)), (a7_4, .inl (c7_3, 7, .inl fun _ => 0)), (o8, .inr (5, [.ref a8_1, .ref a8_3, .ref a8_4, .int 0, .int 0, .int 0])), (a8_1, .inr (6, [.ref a8_2, .int 0])), (a8_2, .inl (c8_1, 343, .inl fun _ => 0)), (a8_3, .inl (c8_2, 7, .inl fun _ => 0)), (a8_4, .inl (c8_3, 7, .inl fun _ => 0)), (o9, .inr (5, [.ref a9_1, .ref a9_3, .ref a9_4, .int 0, .int 0, .int 0])), (a9_1, .inr (6, [.ref a9_2, .int 0])), (a9_2, .inl (c9_1, 343, .inl fun _ => 0)), (a9_3, .inl (c9_2, 7, .inl fun _ => 0)), (a9_4, .inl (c9_3, 7, .inl fun _ => 0)), (o10, .inr (5, [.ref a10_1, .ref a10_3, .ref a10_4, .int 0, .int 0, .int 0])), (a10_1, .inr (6, [.ref a10_2, .int 0])), (a10_2, .inl (c10_1, 343, .inl fun _ => 0)), (a10_3, .inl (c10_2, 7, .inl fun _ => 0)), (a10_4, .inl (c10_3, 7, .inl fun _ => 0)), (o11, .inr (5, [.ref a11_1, .ref a11_3, .ref a11_4, .int 0, .int 0, .int 0])), (a11_1, .inr (6, [.ref a11_2, .int 0])), (a11_2, .inl (c11_1, 343, .inl fun _ => 0)), (a11_3, .inl (c11_2, 7, .inl fun _ => 0)), (a11_4, .inl (c11_3, 7, .inl fun _ => 0))] := hD
  have hK : va_K (dC, dI) t_cls [(c1_1, .int), (c1_2, .int), (c2_1, .int), (c2_2, .int), (c2_3, .int), (cd, .object RX2), (c3_1, .int), (c4_1, .int), (c5_1, .int), (c6_1, .int), (c6_2, .int), (c6_3, .int), (c7_1, .int), (c7_2, .int), (c7_3, .int), (c8_1, .int), (c8_2, .int), (c8_3, .int), (c9_1, .int), (c9_2, .int), (c9_3, .int), (c10_1, .int), (c10_2, .int), (c10_3, .int), (c11_1, .int), (c11_2, .int), (c11_3, .int)] s := hK
  refine W.widen (k := 45) (n := 2680) (by decide) (by decide) ?_
  refine lv_astore_n (lv' := [(1, .ref h0), (0, .ref b)]) hx hb dL_7 rfl hl (by decide) rfl (fun ls hl => ?_)
  refine lv_bipush (v := 7) hx hb dL_8 (by decide) ?_
  have n0 : ¬ (7 : Int32) < 0 := by decide +kernel
  have nN : (7 : Int32).toNatClampNeg = 7 := by decide +kernel
  have nB : 7 * componentBytes .int ≤ 536870912 := by decide +kernel
  have h_1 : 45 + 1 ≤ 600086 := by decide +kernel
  have h_2 : 2680 + 7 ≤ 7301442 := by decide +kernel
  have nC9 : ∀ cA : ClassId, vp_cell cA (7, .inl fun _ => 0) = arrV cA 7 (fun _ => defaultValue .int) := fun _ => rfl
  refine va_newa (atype := .int) (N' := 7) (a0 := (7, .inl fun _ => 0)) (ty := .int) hx hb (hts (.arrayClass .int) (by decide +kernel)) rfl hK hP hD hS hA nC9 n0 nN nB h_1 h_2 dL_10 (fun q1 cA1 H hK hP hD hS => ?_)
  have hP : va_P (dC, dI) t_cls [(h0, .inr (0, [.ref o1, .ref o2, .ref od, .int 0, .ref o3, .ref o4, .ref o5])), (o1, .inr (1, [.ref a1_1, .ref a1_2, .int 0])), (a1_1, .inl (c1_1, 7, .inl fun _ => 0)), (a1_2, .inl (c1_2, 7, .inl fun _ => 0)), (o2, .inr (2, [.ref a2_1, .ref a2_2, .ref a2_3, .int 0])), (a2_1, .inl (c2_1, 21, .inl fun _ => 0)), (a2_2, .inl (c2_2, 7, .inl fun _ => 0)), (a2_3, .inl (c2_3, 49, .inl fun _ => 0)), (od, .inl (cd, 6, .inr (.inr (.inr (.inr (va_up (va_up (va_up (va_up (va_up (va_up (fun _ => none) 0 (some o6)) 1 (some o7)) 2 (some o8)) 3 (some o9)) 4 (some o10)) 5 (some o11))))))), (o3, .inr (3, [.ref a3_1, .int 0])), (a3_1, .inl (c3_1, 21, .inl fun _ => 0)), (o4, .inr (4, [.ref a4_1, .null, .int 0, .long 0])), (a4_1, .inl (c4_1, 7, .inl fun _ => 0)), (o5, .inr (6, [.ref a5_1, .int 0])), (a5_1, .inl (c5_1, 343, .inl fun _ => 0)), (o6, .inr (5, [.ref a6_1, .ref a6_3, .ref a6_4, .int 0, .int 0, .int 0])), (a6_1, .inr (6, [.ref a6_2, .int 0])), (a6_2, .inl (c6_1, 343, .inl fun _ => 0)), (a6_3, .inl (c6_2, 7, .inl fun _ => 0)), (a6_4, .inl (c6_3, 7, .inl fun _ => 0)), (o7, .inr (5, [.ref a7_1, .ref a7_3, .ref a7_4, .int 0, .int 0, .int 0])), (a7_1, .inr (6, [.ref a7_2, .int 0])), (a7_2, .inl (c7_1, 343, .inl fun _ => 0)), (a7_3, .inl (c7_2, 7, .inl fun _ => 0)), (a7_4, .inl (c7_3, 7, .inl fun _ => 0)), (o8, .inr (5, [.ref a8_1, .ref a8_3, .ref a8_4, .int 0, .int 0, .int 0])), (a8_1, .inr (6, [.ref a8_2, .int 0])), (a8_2, .inl (c8_1, 343, .inl fun _ => 0)), (a8_3, .inl (c8_2, 7, .inl fun _ => 0)), (a8_4, .inl (c8_3, 7, .inl fun _ => 0)), (o9, .inr (5, [.ref a9_1, .ref a9_3, .ref a9_4, .int 0, .int 0, .int 0])), (a9_1, .inr (6, [.ref a9_2, .int 0])), (a9_2, .inl (c9_1, 343, .inl fun _ => 0)), (a9_3, .inl (c9_2, 7, .inl fun _ => 0)), (a9_4, .inl (c9_3, 7, .inl fun _ => 0)), (o10, .inr (5, [.ref a10_1, .ref a10_3, .ref a10_4, .int 0, .int 0, .int 0])), (a10_1, .inr (6, [.ref a10_2, .int 0])), (a10_2, .inl (c10_1, 343, .inl fun _ => 0)), (a10_3, .inl (c10_2, 7, .inl fun _ => 0)), (a10_4, .inl (c10_3, 7, .inl fun _ => 0)), (o11, .inr (5, [.ref a11_1, .ref a11_3, .ref a11_4, .int 0, .int 0, .int 0])), (a11_1, .inr (6, [.ref a11_2, .int 0])), (a11_2, .inl (c11_1, 343, .inl fun _ => 0)), (a11_3, .inl (c11_2, 7, .inl fun _ => 0)), (a11_4, .inl (c11_3, 7, .inl fun _ => 0)), (q1, .inl (cA1, 7, .inl fun _ => 0))] H := hP
  have hD : va_D A [(h0, .inr (0, [.ref o1, .ref o2, .ref od, .int 0, .ref o3, .ref o4, .ref o5])), (o1, .inr (1, [.ref a1_1, .ref a1_2, .int 0])), (a1_1, .inl (c1_1, 7, .inl fun _ => 0)), (a1_2, .inl (c1_2, 7, .inl fun _ => 0)), (o2, .inr (2, [.ref a2_1, .ref a2_2, .ref a2_3, .int 0])), (a2_1, .inl (c2_1, 21, .inl fun _ => 0)), (a2_2, .inl (c2_2, 7, .inl fun _ => 0)), (a2_3, .inl (c2_3, 49, .inl fun _ => 0)), (od, .inl (cd, 6, .inr (.inr (.inr (.inr (va_up (va_up (va_up (va_up (va_up (va_up (fun _ => none) 0 (some o6)) 1 (some o7)) 2 (some o8)) 3 (some o9)) 4 (some o10)) 5 (some o11))))))), (o3, .inr (3, [.ref a3_1, .int 0])), (a3_1, .inl (c3_1, 21, .inl fun _ => 0)), (o4, .inr (4, [.ref a4_1, .null, .int 0, .long 0])), (a4_1, .inl (c4_1, 7, .inl fun _ => 0)), (o5, .inr (6, [.ref a5_1, .int 0])), (a5_1, .inl (c5_1, 343, .inl fun _ => 0)), (o6, .inr (5, [.ref a6_1, .ref a6_3, .ref a6_4, .int 0, .int 0, .int 0])), (a6_1, .inr (6, [.ref a6_2, .int 0])), (a6_2, .inl (c6_1, 343, .inl fun _ => 0)), (a6_3, .inl (c6_2, 7, .inl fun _ => 0)), (a6_4, .inl (c6_3, 7, .inl fun _ => 0)), (o7, .inr (5, [.ref a7_1, .ref a7_3, .ref a7_4, .int 0, .int 0, .int 0])), (a7_1, .inr (6, [.ref a7_2, .int 0])), (a7_2, .inl (c7_1, 343, .inl fun _ => 0)), (a7_3, .inl (c7_2, 7, .inl fun _ => 0)), (a7_4, .inl (c7_3, 7, .inl fun _ => 0)), (o8, .inr (5, [.ref a8_1, .ref a8_3, .ref a8_4, .int 0, .int 0, .int 0])), (a8_1, .inr (6, [.ref a8_2, .int 0])), (a8_2, .inl (c8_1, 343, .inl fun _ => 0)), (a8_3, .inl (c8_2, 7, .inl fun _ => 0)), (a8_4, .inl (c8_3, 7, .inl fun _ => 0)), (o9, .inr (5, [.ref a9_1, .ref a9_3, .ref a9_4, .int 0, .int 0, .int 0])), (a9_1, .inr (6, [.ref a9_2, .int 0])), (a9_2, .inl (c9_1, 343, .inl fun _ => 0)), (a9_3, .inl (c9_2, 7, .inl fun _ => 0)), (a9_4, .inl (c9_3, 7, .inl fun _ => 0)), (o10, .inr (5, [.ref a10_1, .ref a10_3, .ref a10_4, .int 0, .int 0, .int 0])), (a10_1, .inr (6, [.ref a10_2, .int 0])), (a10_2, .inl (c10_1, 343, .inl fun _ => 0)), (a10_3, .inl (c10_2, 7, .inl fun _ => 0)), (a10_4, .inl (c10_3, 7, .inl fun _ => 0)), (o11, .inr (5, [.ref a11_1, .ref a11_3, .ref a11_4, .int 0, .int 0, .int 0])), (a11_1, .inr (6, [.ref a11_2, .int 0])), (a11_2, .inl (c11_1, 343, .inl fun _ => 0)), (a11_3, .inl (c11_2, 7, .inl fun _ => 0)), (a11_4, .inl (c11_3, 7, .inl fun _ => 0)), (q1, .inl (cA1, 7, .inl fun _ => 0))] := hD
  have hK : va_K (dC, dI) t_cls [(c1_1, .int), (c1_2, .int), (c2_1, .int), (c2_2, .int), (c2_3, .int), (cd, .object RX2), (c3_1, .int), (c4_1, .int), (c5_1, .int), (c6_1, .int), (c6_2, .int), (c6_3, .int), (c7_1, .int), (c7_2, .int), (c7_3, .int), (c8_1, .int), (c8_2, .int), (c8_3, .int), (c9_1, .int), (c9_2, .int), (c9_3, .int), (c10_1, .int), (c10_2, .int), (c10_3, .int), (c11_1, .int), (c11_2, .int), (c11_3, .int), (cA1, .int)] s := hK
  refine W.widen (k := 46) (n := 2687) (by decide) (by decide) ?_
  refine lv_astore_n (lv' := [(2, .ref q1), (1, .ref h0), (0, .ref b)]) hx hb dL_12 rfl hl (by decide) rfl (fun ls hl => ?_)
  refine lv_bipush (v := 7) hx hb dL_13 (by decide) ?_
  have n0 : ¬ (7 : Int32) < 0 := by decide +kernel
  have nN : (7 : Int32).toNatClampNeg = 7 := by decide +kernel
  have nB : 7 * componentBytes .int ≤ 536870912 := by decide +kernel
  have h_1 : 46 + 1 ≤ 600086 := by decide +kernel
  have h_2 : 2687 + 7 ≤ 7301442 := by decide +kernel
  have nC9 : ∀ cA : ClassId, vp_cell cA (7, .inl fun _ => 0) = arrV cA 7 (fun _ => defaultValue .int) := fun _ => rfl
  refine va_newa (atype := .int) (N' := 7) (a0 := (7, .inl fun _ => 0)) (ty := .int) hx hb (hts (.arrayClass .int) (by decide +kernel)) rfl hK hP hD hS hA nC9 n0 nN nB h_1 h_2 dL_15 (fun q2 cA2 H hK hP hD hS => ?_)
  have hP : va_P (dC, dI) t_cls [(h0, .inr (0, [.ref o1, .ref o2, .ref od, .int 0, .ref o3, .ref o4, .ref o5])), (o1, .inr (1, [.ref a1_1, .ref a1_2, .int 0])), (a1_1, .inl (c1_1, 7, .inl fun _ => 0)), (a1_2, .inl (c1_2, 7, .inl fun _ => 0)), (o2, .inr (2, [.ref a2_1, .ref a2_2, .ref a2_3, .int 0])), (a2_1, .inl (c2_1, 21, .inl fun _ => 0)), (a2_2, .inl (c2_2, 7, .inl fun _ => 0)), (a2_3, .inl (c2_3, 49, .inl fun _ => 0)), (od, .inl (cd, 6, .inr (.inr (.inr (.inr (va_up (va_up (va_up (va_up (va_up (va_up (fun _ => none) 0 (some o6)) 1 (some o7)) 2 (some o8)) 3 (some o9)) 4 (some o10)) 5 (some o11))))))), (o3, .inr (3, [.ref a3_1, .int 0])), (a3_1, .inl (c3_1, 21, .inl fun _ => 0)), (o4, .inr (4, [.ref a4_1, .null, .int 0, .long 0])), (a4_1, .inl (c4_1, 7, .inl fun _ => 0)), (o5, .inr (6, [.ref a5_1, .int 0])), (a5_1, .inl (c5_1, 343, .inl fun _ => 0)), (o6, .inr (5, [.ref a6_1, .ref a6_3, .ref a6_4, .int 0, .int 0, .int 0])), (a6_1, .inr (6, [.ref a6_2, .int 0])), (a6_2, .inl (c6_1, 343, .inl fun _ => 0)), (a6_3, .inl (c6_2, 7, .inl fun _ => 0)), (a6_4, .inl (c6_3, 7, .inl fun _ => 0)), (o7, .inr (5, [.ref a7_1, .ref a7_3, .ref a7_4, .int 0, .int 0, .int 0])), (a7_1, .inr (6, [.ref a7_2, .int 0])), (a7_2, .inl (c7_1, 343, .inl fun _ => 0)), (a7_3, .inl (c7_2, 7, .inl fun _ => 0)), (a7_4, .inl (c7_3, 7, .inl fun _ => 0)), (o8, .inr (5, [.ref a8_1, .ref a8_3, .ref a8_4, .int 0, .int 0, .int 0])), (a8_1, .inr (6, [.ref a8_2, .int 0])), (a8_2, .inl (c8_1, 343, .inl fun _ => 0)), (a8_3, .inl (c8_2, 7, .inl fun _ => 0)), (a8_4, .inl (c8_3, 7, .inl fun _ => 0)), (o9, .inr (5, [.ref a9_1, .ref a9_3, .ref a9_4, .int 0, .int 0, .int 0])), (a9_1, .inr (6, [.ref a9_2, .int 0])), (a9_2, .inl (c9_1, 343, .inl fun _ => 0)), (a9_3, .inl (c9_2, 7, .inl fun _ => 0)), (a9_4, .inl (c9_3, 7, .inl fun _ => 0)), (o10, .inr (5, [.ref a10_1, .ref a10_3, .ref a10_4, .int 0, .int 0, .int 0])), (a10_1, .inr (6, [.ref a10_2, .int 0])), (a10_2, .inl (c10_1, 343, .inl fun _ => 0)), (a10_3, .inl (c10_2, 7, .inl fun _ => 0)), (a10_4, .inl (c10_3, 7, .inl fun _ => 0)), (o11, .inr (5, [.ref a11_1, .ref a11_3, .ref a11_4, .int 0, .int 0, .int 0])), (a11_1, .inr (6, [.ref a11_2, .int 0])), (a11_2, .inl (c11_1, 343, .inl fun _ => 0)), (a11_3, .inl (c11_2, 7, .inl fun _ => 0)), (a11_4, .inl (c11_3, 7, .inl fun _ => 0)), (q1, .inl (cA1, 7, .inl fun _ => 0)), (q2, .inl (cA2, 7, .inl fun _ => 0))] H := hP
  have hD : va_D A [(h0, .inr (0, [.ref o1, .ref o2, .ref od, .int 0, .ref o3, .ref o4, .ref o5])), (o1, .inr (1, [.ref a1_1, .ref a1_2, .int 0])), (a1_1, .inl (c1_1, 7, .inl fun _ => 0)), (a1_2, .inl (c1_2, 7, .inl fun _ => 0)), (o2, .inr (2, [.ref a2_1, .ref a2_2, .ref a2_3, .int 0])), (a2_1, .inl (c2_1, 21, .inl fun _ => 0)), (a2_2, .inl (c2_2, 7, .inl fun _ => 0)), (a2_3, .inl (c2_3, 49, .inl fun _ => 0)), (od, .inl (cd, 6, .inr (.inr (.inr (.inr (va_up (va_up (va_up (va_up (va_up (va_up (fun _ => none) 0 (some o6)) 1 (some o7)) 2 (some o8)) 3 (some o9)) 4 (some o10)) 5 (some o11))))))), (o3, .inr (3, [.ref a3_1, .int 0])), (a3_1, .inl (c3_1, 21, .inl fun _ => 0)), (o4, .inr (4, [.ref a4_1, .null, .int 0, .long 0])), (a4_1, .inl (c4_1, 7, .inl fun _ => 0)), (o5, .inr (6, [.ref a5_1, .int 0])), (a5_1, .inl (c5_1, 343, .inl fun _ => 0)), (o6, .inr (5, [.ref a6_1, .ref a6_3, .ref a6_4, .int 0, .int 0, .int 0])), (a6_1, .inr (6, [.ref a6_2, .int 0])), (a6_2, .inl (c6_1, 343, .inl fun _ => 0)), (a6_3, .inl (c6_2, 7, .inl fun _ => 0)), (a6_4, .inl (c6_3, 7, .inl fun _ => 0)), (o7, .inr (5, [.ref a7_1, .ref a7_3, .ref a7_4, .int 0, .int 0, .int 0])), (a7_1, .inr (6, [.ref a7_2, .int 0])), (a7_2, .inl (c7_1, 343, .inl fun _ => 0)), (a7_3, .inl (c7_2, 7, .inl fun _ => 0)), (a7_4, .inl (c7_3, 7, .inl fun _ => 0)), (o8, .inr (5, [.ref a8_1, .ref a8_3, .ref a8_4, .int 0, .int 0, .int 0])), (a8_1, .inr (6, [.ref a8_2, .int 0])), (a8_2, .inl (c8_1, 343, .inl fun _ => 0)), (a8_3, .inl (c8_2, 7, .inl fun _ => 0)), (a8_4, .inl (c8_3, 7, .inl fun _ => 0)), (o9, .inr (5, [.ref a9_1, .ref a9_3, .ref a9_4, .int 0, .int 0, .int 0])), (a9_1, .inr (6, [.ref a9_2, .int 0])), (a9_2, .inl (c9_1, 343, .inl fun _ => 0)), (a9_3, .inl (c9_2, 7, .inl fun _ => 0)), (a9_4, .inl (c9_3, 7, .inl fun _ => 0)), (o10, .inr (5, [.ref a10_1, .ref a10_3, .ref a10_4, .int 0, .int 0, .int 0])), (a10_1, .inr (6, [.ref a10_2, .int 0])), (a10_2, .inl (c10_1, 343, .inl fun _ => 0)), (a10_3, .inl (c10_2, 7, .inl fun _ => 0)), (a10_4, .inl (c10_3, 7, .inl fun _ => 0)), (o11, .inr (5, [.ref a11_1, .ref a11_3, .ref a11_4, .int 0, .int 0, .int 0])), (a11_1, .inr (6, [.ref a11_2, .int 0])), (a11_2, .inl (c11_1, 343, .inl fun _ => 0)), (a11_3, .inl (c11_2, 7, .inl fun _ => 0)), (a11_4, .inl (c11_3, 7, .inl fun _ => 0)), (q1, .inl (cA1, 7, .inl fun _ => 0)), (q2, .inl (cA2, 7, .inl fun _ => 0))] := hD
  have hK : va_K (dC, dI) t_cls [(c1_1, .int), (c1_2, .int), (c2_1, .int), (c2_2, .int), (c2_3, .int), (cd, .object RX2), (c3_1, .int), (c4_1, .int), (c5_1, .int), (c6_1, .int), (c6_2, .int), (c6_3, .int), (c7_1, .int), (c7_2, .int), (c7_3, .int), (c8_1, .int), (c8_2, .int), (c8_3, .int), (c9_1, .int), (c9_2, .int), (c9_3, .int), (c10_1, .int), (c10_2, .int), (c10_3, .int), (c11_1, .int), (c11_2, .int), (c11_3, .int), (cA1, .int), (cA2, .int)] s := hK
  refine W.widen (k := 47) (n := 2694) (by decide) (by decide) ?_
  refine lv_astore_n (lv' := [(3, .ref q2), (2, .ref q1), (1, .ref h0), (0, .ref b)]) hx hb dL_17 rfl hl (by decide) rfl (fun ls hl => ?_)
  refine lv_bipush (v := 49) hx hb dL_18 (by decide) ?_
  have n0 : ¬ (49 : Int32) < 0 := by decide +kernel
  have nN : (49 : Int32).toNatClampNeg = 49 := by decide +kernel
  have nB : 49 * componentBytes .int ≤ 536870912 := by decide +kernel
  have h_1 : 47 + 1 ≤ 600086 := by decide +kernel
  have h_2 : 2694 + 49 ≤ 7301442 := by decide +kernel
  have nC9 : ∀ cA : ClassId, vp_cell cA (49, .inl fun _ => 0) = arrV cA 49 (fun _ => defaultValue .int) := fun _ => rfl
  refine va_newa (atype := .int) (N' := 49) (a0 := (49, .inl fun _ => 0)) (ty := .int) hx hb (hts (.arrayClass .int) (by decide +kernel)) rfl hK hP hD hS hA nC9 n0 nN nB h_1 h_2 dL_20 (fun q3 cA3 H hK hP hD hS => ?_)
  have hP : va_P (dC, dI) t_cls [(h0, .inr (0, [.ref o1, .ref o2, .ref od, .int 0, .ref o3, .ref o4, .ref o5])), (o1, .inr (1, [.ref a1_1, .ref a1_2, .int 0])), (a1_1, .inl (c1_1, 7, .inl fun _ => 0)), (a1_2, .inl (c1_2, 7, .inl fun _ => 0)), (o2, .inr (2, [.ref a2_1, .ref a2_2, .ref a2_3, .int 0])), (a2_1, .inl (c2_1, 21, .inl fun _ => 0)), (a2_2, .inl (c2_2, 7, .inl fun _ => 0)), (a2_3, .inl (c2_3, 49, .inl fun _ => 0)), (od, .inl (cd, 6, .inr (.inr (.inr (.inr (va_up (va_up (va_up (va_up (va_up (va_up (fun _ => none) 0 (some o6)) 1 (some o7)) 2 (some o8)) 3 (some o9)) 4 (some o10)) 5 (some o11))))))), (o3, .inr (3, [.ref a3_1, .int 0])), (a3_1, .inl (c3_1, 21, .inl fun _ => 0)), (o4, .inr (4, [.ref a4_1, .null, .int 0, .long 0])), (a4_1, .inl (c4_1, 7, .inl fun _ => 0)), (o5, .inr (6, [.ref a5_1, .int 0])), (a5_1, .inl (c5_1, 343, .inl fun _ => 0)), (o6, .inr (5, [.ref a6_1, .ref a6_3, .ref a6_4, .int 0, .int 0, .int 0])), (a6_1, .inr (6, [.ref a6_2, .int 0])), (a6_2, .inl (c6_1, 343, .inl fun _ => 0)), (a6_3, .inl (c6_2, 7, .inl fun _ => 0)), (a6_4, .inl (c6_3, 7, .inl fun _ => 0)), (o7, .inr (5, [.ref a7_1, .ref a7_3, .ref a7_4, .int 0, .int 0, .int 0])), (a7_1, .inr (6, [.ref a7_2, .int 0])), (a7_2, .inl (c7_1, 343, .inl fun _ => 0)), (a7_3, .inl (c7_2, 7, .inl fun _ => 0)), (a7_4, .inl (c7_3, 7, .inl fun _ => 0)), (o8, .inr (5, [.ref a8_1, .ref a8_3, .ref a8_4, .int 0, .int 0, .int 0])), (a8_1, .inr (6, [.ref a8_2, .int 0])), (a8_2, .inl (c8_1, 343, .inl fun _ => 0)), (a8_3, .inl (c8_2, 7, .inl fun _ => 0)), (a8_4, .inl (c8_3, 7, .inl fun _ => 0)), (o9, .inr (5, [.ref a9_1, .ref a9_3, .ref a9_4, .int 0, .int 0, .int 0])), (a9_1, .inr (6, [.ref a9_2, .int 0])), (a9_2, .inl (c9_1, 343, .inl fun _ => 0)), (a9_3, .inl (c9_2, 7, .inl fun _ => 0)), (a9_4, .inl (c9_3, 7, .inl fun _ => 0)), (o10, .inr (5, [.ref a10_1, .ref a10_3, .ref a10_4, .int 0, .int 0, .int 0])), (a10_1, .inr (6, [.ref a10_2, .int 0])), (a10_2, .inl (c10_1, 343, .inl fun _ => 0)), (a10_3, .inl (c10_2, 7, .inl fun _ => 0)), (a10_4, .inl (c10_3, 7, .inl fun _ => 0)), (o11, .inr (5, [.ref a11_1, .ref a11_3, .ref a11_4, .int 0, .int 0, .int 0])), (a11_1, .inr (6, [.ref a11_2, .int 0])), (a11_2, .inl (c11_1, 343, .inl fun _ => 0)), (a11_3, .inl (c11_2, 7, .inl fun _ => 0)), (a11_4, .inl (c11_3, 7, .inl fun _ => 0)), (q1, .inl (cA1, 7, .inl fun _ => 0)), (q2, .inl (cA2, 7, .inl fun _ => 0)), (q3, .inl (cA3, 49, .inl fun _ => 0))] H := hP
  have hD : va_D A [(h0, .inr (0, [.ref o1, .ref o2, .ref od, .int 0, .ref o3, .ref o4, .ref o5])), (o1, .inr (1, [.ref a1_1, .ref a1_2, .int 0])), (a1_1, .inl (c1_1, 7, .inl fun _ => 0)), (a1_2, .inl (c1_2, 7, .inl fun _ => 0)), (o2, .inr (2, [.ref a2_1, .ref a2_2, .ref a2_3, .int 0])), (a2_1, .inl (c2_1, 21, .inl fun _ => 0)), (a2_2, .inl (c2_2, 7, .inl fun _ => 0)), (a2_3, .inl (c2_3, 49, .inl fun _ => 0)), (od, .inl (cd, 6, .inr (.inr (.inr (.inr (va_up (va_up (va_up (va_up (va_up (va_up (fun _ => none) 0 (some o6)) 1 (some o7)) 2 (some o8)) 3 (some o9)) 4 (some o10)) 5 (some o11))))))), (o3, .inr (3, [.ref a3_1, .int 0])), (a3_1, .inl (c3_1, 21, .inl fun _ => 0)), (o4, .inr (4, [.ref a4_1, .null, .int 0, .long 0])), (a4_1, .inl (c4_1, 7, .inl fun _ => 0)), (o5, .inr (6, [.ref a5_1, .int 0])), (a5_1, .inl (c5_1, 343, .inl fun _ => 0)), (o6, .inr (5, [.ref a6_1, .ref a6_3, .ref a6_4, .int 0, .int 0, .int 0])), (a6_1, .inr (6, [.ref a6_2, .int 0])), (a6_2, .inl (c6_1, 343, .inl fun _ => 0)), (a6_3, .inl (c6_2, 7, .inl fun _ => 0)), (a6_4, .inl (c6_3, 7, .inl fun _ => 0)), (o7, .inr (5, [.ref a7_1, .ref a7_3, .ref a7_4, .int 0, .int 0, .int 0])), (a7_1, .inr (6, [.ref a7_2, .int 0])), (a7_2, .inl (c7_1, 343, .inl fun _ => 0)), (a7_3, .inl (c7_2, 7, .inl fun _ => 0)), (a7_4, .inl (c7_3, 7, .inl fun _ => 0)), (o8, .inr (5, [.ref a8_1, .ref a8_3, .ref a8_4, .int 0, .int 0, .int 0])), (a8_1, .inr (6, [.ref a8_2, .int 0])), (a8_2, .inl (c8_1, 343, .inl fun _ => 0)), (a8_3, .inl (c8_2, 7, .inl fun _ => 0)), (a8_4, .inl (c8_3, 7, .inl fun _ => 0)), (o9, .inr (5, [.ref a9_1, .ref a9_3, .ref a9_4, .int 0, .int 0, .int 0])), (a9_1, .inr (6, [.ref a9_2, .int 0])), (a9_2, .inl (c9_1, 343, .inl fun _ => 0)), (a9_3, .inl (c9_2, 7, .inl fun _ => 0)), (a9_4, .inl (c9_3, 7, .inl fun _ => 0)), (o10, .inr (5, [.ref a10_1, .ref a10_3, .ref a10_4, .int 0, .int 0, .int 0])), (a10_1, .inr (6, [.ref a10_2, .int 0])), (a10_2, .inl (c10_1, 343, .inl fun _ => 0)), (a10_3, .inl (c10_2, 7, .inl fun _ => 0)), (a10_4, .inl (c10_3, 7, .inl fun _ => 0)), (o11, .inr (5, [.ref a11_1, .ref a11_3, .ref a11_4, .int 0, .int 0, .int 0])), (a11_1, .inr (6, [.ref a11_2, .int 0])), (a11_2, .inl (c11_1, 343, .inl fun _ => 0)), (a11_3, .inl (c11_2, 7, .inl fun _ => 0)), (a11_4, .inl (c11_3, 7, .inl fun _ => 0)), (q1, .inl (cA1, 7, .inl fun _ => 0)), (q2, .inl (cA2, 7, .inl fun _ => 0)), (q3, .inl (cA3, 49, .inl fun _ => 0))] := hD
  have hK : va_K (dC, dI) t_cls [(c1_1, .int), (c1_2, .int), (c2_1, .int), (c2_2, .int), (c2_3, .int), (cd, .object RX2), (c3_1, .int), (c4_1, .int), (c5_1, .int), (c6_1, .int), (c6_2, .int), (c6_3, .int), (c7_1, .int), (c7_2, .int), (c7_3, .int), (c8_1, .int), (c8_2, .int), (c8_3, .int), (c9_1, .int), (c9_2, .int), (c9_3, .int), (c10_1, .int), (c10_2, .int), (c10_3, .int), (c11_1, .int), (c11_2, .int), (c11_3, .int), (cA1, .int), (cA2, .int), (cA3, .int)] s := hK
  refine W.widen (k := 1000) (n := 6000) (by decide) (by decide) ?_
  refine lv_astore (lv' := [(4, .ref q3), (3, .ref q2), (2, .ref q1), (1, .ref h0), (0, .ref b)]) hx hb dL_22 hl (by decide) rfl (fun ls hl => ?_)
  obtain ⟨g, gD, gA, gb, gL, gx, g0, g14, g15, g16, g33, w1, w2, w3, w4⟩ := t_world (b := b) (L := L) 1000 (xs := xs) hP hK hD
  clear hP hK hD
  have hAb : ∀ a : Nat, a < s.heap.size → ¬ g.2.2.2.1 a := fun a h => by rw [gA, ← hAe]; exact Nat.not_le.mpr h
  have hG : t_Gd g := ⟨by rw [gb]; exact hAb b hbl, g33.trans gb.symm, by rw [gL]; omega, w3, w4⟩
  have hEn : t_En g s s.heap := t_En0 hts hgv w1 hAb (by rw [gb, gL, gx]; exact hX)
  have C : t_Cx g tq_114 p s m meth c := ⟨hx, hb, hml, hown, hlocks, hr, htab, hEn, hG, fun x h => by rw [gA]; exact hA x h⟩
  have hWd : t_Wd g (h00 xs L 1000) H := ⟨w2, by rw [gL]; rfl, fun j _ => by rw [gx]; rfl, fun z => absurd ((h00_z (xs := xs) (L := L) (k0 := 1000) (a := 36) (b := 0) (by decide) (by decide)).symm.trans z) (by decide)⟩
  obtain ⟨o, h', hev, ho, hcap⟩ := law_ax (Q := fun o g => o = RI 1 ∧ g.2.2.2 ≤ 1086) (PI_00 (xs := xs) (L := L) (k0 := 1000) hL) (fun g hg => ⟨rfl, hg⟩)
  subst ho
  have hcap : h'.2.2.2 ≤ 1086 := hcap
  have hSem := t_sound hl9 g hev
  have hlr : t_lr g [.ref 33, .ref 0, .ref 14, .ref 15, .ref 16, .float 0, .float 0, .float 0, .float 0, .float 0, .float 0, .float 0, .float 0, .float 0, .float 0, .float 0, .float 0, .float 0, .float 0, .float 0, .float 0, .float 0, .float 0, .float 0, .float 0] ls (tm_ml tq_114) := by
    refine ⟨hl.1, rfl, hl.2.1, fun i v hi hs => ?_⟩
    match i, hi with
    | 0, hi => cases hi; have z := hl.2.2 (0, .ref b) (List.mem_of_getElem? (i := 4) rfl); exact z.trans (congrArg (fun x => some (Slot.val (Value.ref x))) g33.symm)
    | 1, hi => cases hi; have z := hl.2.2 (1, .ref h0) (List.mem_of_getElem? (i := 3) rfl); exact z.trans (congrArg (fun x => some (Slot.val (Value.ref x))) g0.symm)
    | 2, hi => cases hi; have z := hl.2.2 (2, .ref q1) (List.mem_of_getElem? (i := 2) rfl); exact z.trans (congrArg (fun x => some (Slot.val (Value.ref x))) g14.symm)
    | 3, hi => cases hi; have z := hl.2.2 (3, .ref q2) (List.mem_of_getElem? (i := 1) rfl); exact z.trans (congrArg (fun x => some (Slot.val (Value.ref x))) g15.symm)
    | 4, hi => cases hi; have z := hl.2.2 (4, .ref q3) (List.mem_of_getElem? (i := 0) rfl); exact z.trans (congrArg (fun x => some (Slot.val (Value.ref x))) g16.symm)
    | 5, hi => cases hi; cases hs
    | 6, hi => cases hi; cases hs
    | 7, hi => cases hi; cases hs
    | 8, hi => cases hi; cases hs
    | 9, hi => cases hi; cases hs
    | 10, hi => cases hi; cases hs
    | 11, hi => cases hi; cases hs
    | 12, hi => cases hi; cases hs
    | 13, hi => cases hi; cases hs
    | 14, hi => cases hi; cases hs
    | 15, hi => cases hi; cases hs
    | 16, hi => cases hi; cases hs
    | 17, hi => cases hi; cases hs
    | 18, hi => cases hi; cases hs
    | 19, hi => cases hi; cases hs
    | 20, hi => cases hi; cases hs
    | 21, hi => cases hi; cases hs
    | 22, hi => cases hi; cases hs
    | 23, hi => cases hi; cases hs
    | 24, hi => cases hi; cases hs
    | i + 25, hi => simp at hi
  have hF : t_Fin g tq_114 114 p l e room_1 s m #[Value.ref b] below meth c 0 (RI 1) h' (lw_Z below #[Value.ref b] s) := by
    show ∀ (pc1 : Nat) (ins : Instr) (H : Heap) (locs : List Loc) (lsA : Array Slot), _
    intro pc1 ins H2 locs2 lsA2 hWd2 hS2 hri hdec
    have hi : ins = .ireturn := t_ri_1 hri
    subst hi
    refine va_forget (fun q hq => ?_) (W.widen (k := 600086) (n := 7301442) (by omega) (by omega) (lw_ret hx hb hr hlocks hdec))
    have z := hS2.2.2 q hq
    rw [gA, ← hAe] at z
    exact z
  have hS2 : va_S g.2.2.2.1 s.heap H locs := by rw [gA]; exact hS
  exact hSem.2 tq_114 p e room_1 s m #[Value.ref b] below meth c 0 (lw_Z below #[Value.ref b] s) rfl C (show 37 + 10 ≤ 2048 by decide) (show 40 * 37 + 200 ≤ 84000 by decide) (Nat.zero_le _) (show h'.2.2.2 - 0 ≤ 600086 by omega) (show 6 * (h'.2.2.2 - 0) ≤ 7301442 by omega) (fun g' hal => by rcases hal with rfl | ⟨h9, -⟩; exact hF; exact absurd h9 (by decide)) H locs ls hWd hS2 hlr
set_option maxHeartbeats 4000000 in
theorem lw_walk (l : Launch) (hflags : l.flags = flags0) (b : Addr) (xs : List Int32) : MetFree l x (headSpec (Jvm.Cond.code x code maxLocals ret :: tables_1) room_1) (lw_P b xs) (fun _ _ _ _ _ => True) lw_Q := by
  refine MetFree.of_bodyS (code := code) (maxLocals := maxLocals) (ret := ret) (by decide) ?_ ?_
  · intro args s m h hn
    obtain ⟨meth, c, h1, h2, h3, h4, h5, h6, -, -⟩ := Cond.code_spec hn (atoms_spec (ws := Jvm.Cond.code x code maxLocals ret :: tables_1) h _ List.mem_cons_self)
    exact ⟨meth, c, h1, h2, h3, h4, h5, h6⟩
  · intro p e s m args below meth c s₁ B hml0 hP _
    obtain ⟨rfl, hx, hbd, hgv⟩ := hP
    obtain ⟨scr, harrAt, hlist, hof, hsmall⟩ := hx
    obtain ⟨hcb, hkn, -, -⟩ := State.arrayAt?_spec harrAt
    have hown : s.vm.findClass R_law = some m.cls := findClass_of_methodNamed B.named
    have hts0 : ∀ c ∈ (Jvm.Cond.code x code maxLocals ret :: tables_1), c.before #[Value.ref b] s = true := atoms_spec (ws := Jvm.Cond.code x code maxLocals ret :: tables_1) B.pre
    have hts : ∀ w ∈ lw_tbl, w.before #[Value.ref b] s = true := k2_hts_sels lw_privs (fun w hw => hts0 w (List.mem_cons_of_mem _ hw)) lw_privs_ok
    have htab : c.exceptionTable.toList = [] := by
      obtain ⟨meth9, c9, h1, h2, -, -, -, -, h7, -⟩ := Cond.code_spec B.named (hts0 _ List.mem_cons_self)
      cases Option.some.inj (h1.symm.trans B.method)
      cases Option.some.inj (h2.symm.trans (Stand.of_body B).code)
      rw [Array.isEmpty_iff.mp h7]
    have hml : c.maxLocals = 25 := B.maxLocals_eq (hts0 _ List.mem_cons_self)
    have X₀ : Stand p l e room_1 s m #[Value.ref b] below meth c s₁ [] 0 0 := Stand.of_body B
    have hh0 : s₁.heap = s.heap := by rw [B.state]; rfl
    have hsz : scr.slots.size = xs.length := by rw [← Array.length_toList, hlist, List.length_map]
    have hval : ∀ j : Nat, j < xs.length → scr.slots[j]? = some (.int (xs.getD j 0)) := fun j hj => by
      rw [← Array.getElem?_toList, hlist]
      simp [hj]
    have hbl : b < s.heap.size := (Array.getElem?_eq_some_iff.mp hcb).1
    have hX : va_X b xs.length (fun j => xs.getD j 0) s s.heap := ⟨scr, hcb, hof, hkn, hsz, hval⟩
    have K : W p l e room_1 s m #[Value.ref b] below meth c s₁.heap [] 0 0 (lw_Z below #[Value.ref b] s) (entryFrame m ([Value.ref b] : List Value).toArray 25) := by
      rw [hh0]
      exact whole_start l hflags hbd ⟨B.exec, B.bytes, B.returns, hml, hown, hts, hX, hbl, B.notSynchronized, hgv⟩ htab
    obtain ⟨t, a1, o, b1, b2, b3⟩ := K s₁ rfl X₀
    exact ⟨t, o, a1, b1, b2, b3⟩
theorem lw_pre_spec {args : Array Value} {s : State} (h : (Jvm.Cond.and given_1 narrow_1).before args s = true) (hr : rest_1_c.before args s = true) : ∃ (b : Addr) (xs : List Int32), lw_P b xs args s := by
  have hs := flat_of_before _ h
  have hq := flat_of_before _ hr
  have hc : (Cond.count 1).before args s = true := hs _ (by decide +kernel)
  have harr : (Cond.arrayOf (.arg 0) .int).before args s = true := hs _ (by decide +kernel)
  have hle : (Cond.le (.length (.arg 0)) (.int 260)).before args s = true := hs _ (by decide +kernel)
  have hlen : (Cond.isInt (.length (.arg 0))).before args s = true := hq _ (by decide +kernel)
  have hall : (Cond.all (.arg 0) (.isInt (.elem (.arg 0) (.index 0)))).before args s = true := hq _ (by decide +kernel)
  obtain ⟨b, xs, hb, hx⟩ := State.ints_of_pre rfl harr hlen hall
  have hsm : xs.length < 2 ^ 31 := hx.choose_spec.2.2.2
  have hev : (Term.length (.arg 0)).eval args s none [] s = some (.int xs.length.toInt32) := hx.length_eval hb
  have hv := Cond.le_ints hev (show (Term.int 260).eval args s none [] s = some (.int 260) from rfl)
  have hd : xs.length.toInt32 ≤ 260 := by
    simpa [Cond.before, Cond.holds, hv] using hle
  have hN : xs.length ≤ 260 := (Int32.ofNat_le_ofNat hsm (by decide)).mp (show Int32.ofNat xs.length ≤ Int32.ofNat 260 from hd)
  exact ⟨b, xs, Cond.one_arg hc (show args[0]? = some (.ref b) from hb), hx, hN, h⟩
theorem lw_comes (l : Launch) (hflags : l.flags = flags0) : Comes l x (Jvm.Cond.code x code maxLocals ret :: tables_1) room_1 (fun tb e args s => Calls_1 tb e args s ∧ rest_1 tb e args s ∧ Pre_1 tb e args s)
    (fun _ _ args s o t => lw_Q args s o t) := by
  intro p e ha hc hk s m args below hf hfit hheap happ hpre
  obtain ⟨b, xs, hP⟩ := lw_pre_spec hpre.2.2 hpre.2.1
  obtain ⟨k, o, h1, h2, h3, hQ⟩ := lw_walk l hflags b xs p e ha hc hk s m args below hf ((Spec.applies_iff_loose hf).mp happ).1 hP trivial
  exact ⟨k, o, h1, h2, h3, hQ⟩
theorem lw_frame {s t : State} {o : Outcome} {args : Array Value} (h : Framed s o t [] 600086 7301442) :
    Framed s o t (fieldLocs frame_1_writes args s ++ arrayLocs frame_1_arrays args s ++ staticLocs frame_1_statics s) 600086 7301442 := h
theorem lw_limb (L : Cond) (hL : ∀ (args : Array Value) (s t : State), L.after args s (.returned (some (.int 1))) t = true) :
    ArmFor flags0 classFile x code maxLocals ret World_1 tables_1 room_1 Calls_1 rest_1 Pre_1
      (fun tb e a s o t => postC L tb e a s o t ∧ Framed s o t (fieldLocs frame_1_writes a s ++ arrayLocs frame_1_arrays a s ++ staticLocs frame_1_statics s) 600086 7301442) := by
  intro l hflags _ _ p e ha hc hk s m args below hf hfit hheap happ hpre
  obtain ⟨k, o, h1, h2, h3, rfl, hF⟩ := lw_comes l hflags p e ha hc hk s m args below hf hfit hheap happ hpre
  exact ⟨k, _, h1, h2, h3, hL args s _, lw_frame hF⟩
theorem i_vc : Claimed_1_1 ∧ Claimed_1_2 := ⟨lw_limb limb_1_1 (fun args s t => by simp [limb_1_1, Cond.after, Cond.holds, Cond.value]), lw_limb limb_1_2 (fun args s t => Cond.after_iff.mpr (by
  first | (rw [show limb_1_2 = Cond.eq .result (.int 1) from rfl, Cond.eq_ints (x := 1) (y := 1) rfl rfl]; simp; done) | (simp [limb_1_2, Cond.value, Term.eval]; done)))⟩
