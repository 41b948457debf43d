/-! ===== what holds while a method of this claim runs ===== -/
def t_xn (E : Nat) : String := match E with
  | 0 => "java/lang/IllegalArgumentException"
  | 1 => "java/lang/IllegalStateException"
  | _ => "java/lang/IndexOutOfBoundsException"
/-- of the machine and its heap -/
def t_En (g : tE) (U : State) (H : Heap) : Prop :=
  va_K g.2.1 t_cls (t_tys g) U ∧ (∀ w ∈ lw_tbl, t_gw w = true → va_Nw w U) ∧ (∀ q ∈ t_str, ∃ sa, vk_R q.1 q.2.1 q.2.2 sa U) ∧
  vx_Zq Bundle.tN "UNASSIGNED_STACK" Bundle.steD g.2.2.2.1 U H ∧ vx_Zq Bundle.tN "SUPPRESSED_SENTINEL" Bundle.listD g.2.2.2.1 U H ∧
  va_X g.2.2.2.2.1 g.2.2.2.2.2.1 g.2.2.2.2.2.2 U H ∧ (∀ E1 E2, E1 < 3 → E2 = 1 → E1 ≠ E2 → va_Nc (t_xn E1) (t_xn E2) U) ∧ ∀ args, (Cond.arrayClass .int).before args U = true
/-- of the places -/
def t_Gd (g : tE) : Prop := ¬ g.2.2.2.1 g.2.2.2.2.1 ∧ g.1 33 = g.2.2.2.2.1 ∧ g.2.2.2.2.2.1 ≤ 3072 ∧ (∀ i j, i ∈ t_ids → j ∈ t_ids → g.1 i = g.1 j → i = j) ∧ ∀ i, i ∈ t_ids → g.2.2.2.1 (g.1 i)
/-- the heap holds the small machine's things -/
def t_Wd (g : tE) (h : tH) (H : Heap) : Prop := va_P g.2.1 t_cls (th_ws g h) H ∧ h.1 34 0 = Int32.ofNat g.2.2.2.2.2.1 ∧ (∀ j : Nat, j < g.2.2.2.2.2.1 → h.1 33 j = g.2.2.2.2.2.2 j) ∧ (h.1 36 0 = 1 → (∀ i ∈ t_ids, g.1 i ≠ g.1 35) ∧ g.2.2.2.1 (g.1 35))
theorem t_gw_on {w : Cond} (h : t_gw w = true) : w.onTables = true := by
  unfold t_gw at h
  rw [Bool.and_eq_true] at h
  exact h.1
theorem t_En.word {g : tE} {U : State} {H : Heap} (h : t_En g U H) {w : Cond} (hw : w ∈ lw_tbl) (hg : t_gw w = true) {args : Array Value} : w.before args U = true := va_Nw.use (t_gw_on hg) (h.2.1 w hw hg)
theorem t_gw_warm {w : Cond} (hg : t_gw w = true) {s U : State} (hW : s.WarmedH U.vm) (h : va_Nw w s) : va_Nw w U := by
  unfold t_gw at hg
  rw [Bool.and_eq_true, Bool.or_eq_true] at hg
  rcases hg.2 with h1 | h1
  · exact va_Nw.of hg.1 (word_at (a' := #[]) hW (good_of_word h1) (va_Nw.use (A := #[]) hg.1 h))
  · cases w <;> first | exact va_Nw.warmF hW h | exact va_Nw.warmM hW h | exact va_Nw.warmC hW h | exact va_tabs rfl (rfl : (s.setVm U.vm).vm = U.vm) (by rw [Cond.declares_setVm hW.alike]; exact h) | (simp at h1; done)
theorem t_En.moved {g : tE} {u U : State} {H H1 : Heap} (h : t_En g u H) (hG : t_Gd g) (hW : u.WarmedH U.vm) (hk : ∀ q : Nat, q < H.size → ¬ g.2.2.2.1 q → H1[q]? = H[q]?) : t_En g U H1 := by
  obtain ⟨h1, h2, h3, h4, h5, h6, h7, h8⟩ := h
  refine ⟨va_K.moved hW.alike h1, fun w hw hg => t_gw_warm hg hW (h2 w hw hg), fun q hq => ?_, (vx_Zq.moved hW.alike h4).kept hk, (vx_Zq.moved hW.alike h5).kept hk, ?_, fun E1 E2 a b c => va_Nc.moved hW.alike (h7 E1 E2 a b c), fun args => word_at (a' := args) hW (Or.inr ⟨_, rfl⟩) (h8 args)⟩
  · obtain ⟨sa, hs⟩ := h3 q hq
    exact ⟨sa, vk_R.warm hW hs⟩
  · obtain ⟨scr, e1, e2, e3, e4, e5⟩ := h6
    exact ⟨scr, by rw [hk _ (Array.getElem?_eq_some_iff.mp e1).1 hG.1]; exact e1, State.isArrayOf_alike hW.alike e2, e3, e4, e5⟩
theorem t_ws_D {g : tE} (hG : t_Gd g) {h : tH} {H : Heap} (hW : t_Wd g h H) : va_D g.2.2.2.1 (th_ws g h) := by
  have key : ∀ (i : Nat) (p : Nat × va_E), (th_ws g h)[i]? = some p → (∃ k, t_ids[i]? = some k ∧ p.1 = g.1 k) ∨ (i = t_ids.length ∧ h.1 36 0 = 1 ∧ p.1 = g.1 35) := by
    intro i p hp
    unfold th_ws at hp
    by_cases h9 : i < t_ids.length
    · rw [List.getElem?_append_left (by rw [List.length_map]; exact h9), List.getElem?_map] at hp
      cases hk : t_ids[i]? with
      | none => rw [hk] at hp; cases hp
      | some k => rw [hk] at hp; cases hp; exact Or.inl ⟨k, rfl, rfl⟩
    · rw [List.getElem?_append_right (by rw [List.length_map]; omega), List.length_map] at hp
      unfold t_xc at hp
      split at hp
      · next hf =>
        have h8 : i - t_ids.length < 1 := (List.getElem?_eq_some_iff.mp hp).1
        rw [show i - t_ids.length = 0 by omega] at hp
        cases hp
        exact Or.inr ⟨by omega, hf, rfl⟩
      · cases hp
  refine ⟨fun i j p q hi hj hpq => ?_, fun k q hk => ?_⟩
  · rcases key i p hi with ⟨a, a1, a2⟩ | ⟨a1, a3, a2⟩
    · rcases key j q hj with ⟨b, b1, b2⟩ | ⟨b1, b3, b2⟩
      · have hab : a = b := hG.2.2.2.1 a b (List.mem_of_getElem? a1) (List.mem_of_getElem? b1) (by rw [← a2, ← b2]; exact hpq)
        subst hab
        exact va_nd_inj t_ids t_ids_nd i j a a1 b1
      · exact absurd (by rw [← a2, ← b2]; exact hpq) ((hW.2.2.2 b3).1 a (List.mem_of_getElem? a1))
    · rcases key j q hj with ⟨b, b1, b2⟩ | ⟨b1, b3, b2⟩
      · exact absurd (by rw [← a2, ← b2]; exact hpq.symm) ((hW.2.2.2 a3).1 b (List.mem_of_getElem? b1))
      · omega
  · rcases key k q hk with ⟨a, a1, a2⟩ | ⟨a1, a3, a2⟩
    · rw [a2]
      exact hG.2.2.2.2 a (List.mem_of_getElem? a1)
    · rw [a2]
      exact (hW.2.2.2 a3).2
/-- a method's frame: what the machine says of it -/
def t_Cx (g : tE) (q : tM) (p : Program) (s : State) (m : MethodId) (meth : Method) (c : Code) : Prop :=
  p.tables.exec = Jvm.exec ∧ c.code = tm_by q ∧ c.maxLocals = tm_ml q ∧ s.vm.findClass (t_cn (tm_oc q)) = some m.cls ∧ meth.locks = false ∧ meth.sig.returnType = tm_rt q ∧ c.exceptionTable.toList = tableOf (tm_hh q) ∧ t_En g s s.heap ∧ t_Gd g ∧ ∀ x : Nat, s.heap.size ≤ x → g.2.2.2.1 x
theorem t_ar_ty {k : Nat} {p : Nat × Nat} (ha : t_ar k = some p) : p.1 = 0 ∨ p.1 = 3 := by
  have hh : ∀ k, k < 87 → ((t_ar k).all fun p => p.1 == 0 || p.1 == 3) = true := by decide +kernel
  have hk : k < 87 := Nat.lt_of_not_le fun q => by rw [t_ar_big q] at ha; cases ha
  have := hh k hk
  rw [ha] at this
  simpa using this
theorem t_ai_c {h : tH} {k : Nat} {i : Int32} (hi : t_in (t_ai h k) i) : (k = 33 ∧ vp_in i (h.1 34 0).toNatClampNeg) ∨ (k = 35 ∧ h.1 36 0 = 1 ∧ vp_in i 4) ∨ (k ≠ 33 ∧ ∃ n, t_ar k = some (0, n) ∧ vp_in i n) := by
  obtain ⟨n, e, hv⟩ := hi
  unfold t_ai at e
  split at e
  · next hk => cases e; exact Or.inl ⟨hk, hv⟩
  · next hk =>
    refine Or.inr ?_
    split at e
    · next h9 =>
      split at e
      · next hf => cases e; exact Or.inl ⟨h9, hf, hv⟩
      · cases e
    · refine Or.inr ⟨hk, ?_⟩
      split at e
      · next n' ha => cases e; exact ⟨_, ha, hv⟩
      · cases e
theorem t_bo_c {k : Nat} {i : Int32} (hi : t_in (t_bo k) i) : False := by
  obtain ⟨n, e, hv⟩ := hi
  unfold t_bo at e
  split at e
  · next n' ha => have := t_ar_ty ha; simp at this
  · cases e
theorem t_lo_c {k : Nat} {i : Int32} (hi : t_in (t_lo k) i) : False := by
  obtain ⟨n, e, hv⟩ := hi
  unfold t_lo at e
  split at e
  · next n' ha => have := t_ar_ty ha; simp at this
  · cases e
theorem t_ro_c {k : Nat} {i : Int32} (hi : t_in (t_ro k) i) : ∃ n, t_ar k = some (3, n) ∧ vp_in i n := by
  obtain ⟨n, e, hv⟩ := hi
  unfold t_ro at e
  split at e
  · next n' ha => cases e; exact ⟨_, ha, hv⟩
  · cases e
theorem t_ce_o {g : tE} {h : tH} {k ci : Nat} (ho : t_ob k = some ci) : t_ce g h k = .inr (ci, (t_ft ci).mapIdx (fun sl ty => t_cv g (t_fv h ci sl ty k))) := by
  unfold t_ce
  rw [ho]
theorem t_ce_0 {g : tE} {h : tH} {k n : Nat} (ha : t_ar k = some (0, n)) : t_ce g h k = .inl (g.2.2.1 0, n, .inl (h.1 k)) := by
  unfold t_ce
  rw [t_ar_ob ha, ha]
  rfl
theorem t_ce_1 {g : tE} {h : tH} {k n : Nat} (ha : t_ar k = some (1, n)) : t_ce g h k = .inl (g.2.2.1 1, n, .inl (h.1 k)) := by
  unfold t_ce
  rw [t_ar_ob ha, ha]
  rfl
theorem t_ce_2 {g : tE} {h : tH} {k n : Nat} (ha : t_ar k = some (2, n)) : t_ce g h k = .inl (g.2.2.1 2, n, .inr (.inl (h.2.1 k))) := by
  unfold t_ce
  rw [t_ar_ob ha, ha]
  rfl
theorem t_ce_3 {g : tE} {h : tH} {k n : Nat} (ha : t_ar k = some (3, n)) : t_ce g h k = .inl (g.2.2.1 3, n, .inr (.inr (.inr (.inr (fun i => some (g.1 (40 + i))))))) := by
  unfold t_ce
  rw [t_ar_ob ha, ha]
  rfl
theorem t_Wd_I {g : tE} {h : tH} {H H1 : Heap} {k i : Nat} {x : Int32} (hW : t_Wd g h H) (hk : k ∈ t_ids) (hP : va_P g.2.1 t_cls (th_ws g (t_I h k i x)) H1) : t_Wd g (t_I h k i x) H1 := by
  obtain ⟨h3, h4⟩ := t_ids_33 k hk
  have h5 := t_ids_35 k hk
  exact ⟨hP, by rw [t_I_ne (fun z => h4 z.symm)]; exact hW.2.1, fun j hj => by rw [t_I_ne (fun z => h3 z.symm)]; exact hW.2.2.1 j hj, fun hf => hW.2.2.2 (by rw [t_I_ne (show (36 : Nat) ≠ k by omega)] at hf; exact hf)⟩
theorem t_Wd_x {g : tE} {h : tH} {H H1 : Heap} {i : Nat} {x : Int32} (hW : t_Wd g h H) (hP : va_P g.2.1 t_cls (th_ws g (t_I h 35 i x)) H1) : t_Wd g (t_I h 35 i x) H1 :=
  ⟨hP, by rw [t_I_ne (by decide)]; exact hW.2.1, fun j hj => by rw [t_I_ne (by decide)]; exact hW.2.2.1 j hj, fun hf => hW.2.2.2 (by rw [t_I_ne (by decide)] at hf; exact hf)⟩
theorem t_Wd_L {g : tE} {h : tH} {H H1 : Heap} {k i : Nat} {x : Int64} (hW : t_Wd g h H) (hP : va_P g.2.1 t_cls (th_ws g (t_L h k i x)) H1) : t_Wd g (t_L h k i x) H1 := ⟨hP, hW.2.1, hW.2.2⟩
theorem t_clamp {L : Nat} (h : L ≤ 3072) : (Int32.ofNat L).toNatClampNeg = L := nI_clamp (n := L) (by omega)
theorem t_nar_z {x : Int32} (h : x = 0 ∨ x = 1) : vp_nar .boolean x = x ∧ narrow .boolean (.int x) = .int x ∧ fits .boolean (.int x) = true := by
  rcases h with rfl | rfl <;> exact ⟨by decide, by decide, by decide⟩
