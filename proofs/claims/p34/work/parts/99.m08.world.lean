/-! ===== the things made, as the small machine knows them ===== -/
theorem t_ids_l : t_ids = [0, 1, 2, 3, 4, 5, 6, 7, 8, 9, 10, 11, 12, 14, 15, 16, 40, 41, 42, 43, 44, 45, 50, 51, 52, 53, 54, 55, 60, 61, 62, 63, 64, 65, 70, 71, 72, 73, 74, 75, 76, 80, 81, 82, 83, 84, 85, 86] := by decide +kernel
def t_pos (k : Nat) : Nat := [0, 1, 2, 3, 4, 5, 6, 7, 8, 9, 10, 11, 12, 0, 45, 46, 47, 0, 0, 0, 0, 0, 0, 0, 0, 0, 0, 0, 0, 0, 0, 0, 0, 0, 0, 0, 0, 0, 0, 0, 15, 20, 25, 30, 35, 40, 0, 0, 0, 0, 18, 23, 28, 33, 38, 43, 0, 0, 0, 0, 19, 24, 29, 34, 39, 44, 0, 0, 0, 0, 16, 21, 26, 31, 36, 41, 13, 0, 0, 0, 17, 22, 27, 32, 37, 42, 14].getD k 0
theorem t_pos_1 : ∀ i ∈ t_ids, ∀ j ∈ t_ids, t_pos i = t_pos j → i = j := by decide +kernel
theorem t_rowD {cA : ClassId} {n : Nat} {f g : Nat → Option Nat} (h : ∀ i, i < n → f i = g i) : vp_cell cA (n, .inr (.inr (.inr (.inr f)))) = vp_cell cA (n, .inr (.inr (.inr (.inr g)))) := by
  show arrV cA n (fun j => va_rf (f j)) = arrV cA n (fun j => va_rf (g j))
  unfold arrV
  have e : (Array.ofFn (n := n) fun j => va_rf (f j.val)) = Array.ofFn (n := n) fun j => va_rf (g j.val) := congrArg (fun F : Fin n → Value => Array.ofFn F) (funext fun j => by rw [h j.val j.isLt])
  rw [e]
/-- from places to the whole -/
theorem t_mk {g : tE} {h : tH} {H : Heap} {W0 : va_W} (hf : h.1 36 0 = 0) (hD : va_D g.2.2.2.1 W0) (hq : ∀ k ∈ t_ids, (∃ e, W0[t_pos k]? = some (g.1 k, e)) ∧ va_at g.2.1 t_cls (g.1 k, t_ce g h k) H) : va_P g.2.1 t_cls (th_ws g h) H ∧ (∀ i j, i ∈ t_ids → j ∈ t_ids → g.1 i = g.1 j → i = j) ∧ ∀ i, i ∈ t_ids → g.2.2.2.1 (g.1 i) := by
  refine ⟨fun q0 p hp => ?_, fun i j hi hj hij => ?_, fun i hi => ?_⟩
  · unfold th_ws t_xc at hp
    rw [if_neg (by rw [hf]; decide), List.append_nil, List.getElem?_map] at hp
    cases hk : t_ids[q0]? with
    | none => rw [hk] at hp; cases hp
    | some k =>
      rw [hk] at hp
      cases hp
      exact (hq k (List.mem_of_getElem? hk)).2
  · obtain ⟨e1, h1⟩ := (hq i hi).1
    obtain ⟨e2, h2⟩ := (hq j hj).1
    exact t_pos_1 i hi j hj (hD.1 _ _ _ _ h1 h2 hij)
  · obtain ⟨e1, h1⟩ := (hq i hi).1
    exact hD.2 _ _ h1
theorem t_ceI {g : tE} {h : tH} {k n : Nat} {c : ClassId} (ob : t_ob k = none) (ar : t_ar k = some (0, n)) (hz : ∀ b, h.1 k b = 0) (hc : g.2.2.1 0 = c) : t_ce g h k = .inl (c, n, .inl fun _ => 0) := by
  unfold t_ce
  rw [ob, ar]
  dsimp only
  rw [hc, show h.1 k = fun _ => 0 from funext hz]
  rfl
theorem t_ce_8 {g : tE} {h : tH} {c : ClassId} (hc : g.2.2.1 3 = c) : t_ce g h 8 = .inl (c, 6, .inr (.inr (.inr (.inr (fun i => some (g.1 (40 + i))))))) := by
  unfold t_ce
  rw [show t_ob 8 = none from rfl, show t_ar 8 = some (3, 6) from rfl]
  dsimp only
  rw [hc]
  rfl
theorem t_ce_of {g : tE} {h : tH} {k ci : Nat} {vs : List Value} (ob : t_ob k = some ci) (hv : (t_ft ci).mapIdx (fun sl ty => t_cv g (t_fv h ci sl ty k)) = vs) : t_ce g h k = .inr (ci, vs) := by
  unfold t_ce
  rw [ob]
  dsimp only
  rw [hv]
theorem t_y {g : tE} {h : tH} {H : Heap} {W0 : va_W} {k a : Nat} {e : va_E} (hP : va_P g.2.1 t_cls W0 H) (hi : W0[t_pos k]? = some (a, e)) (ha : g.1 k = a) (he : t_ce g h k = e) : (∃ e, W0[t_pos k]? = some (g.1 k, e)) ∧ va_at g.2.1 t_cls (g.1 k, t_ce g h k) H := by
  rw [he, ha]
  exact ⟨⟨e, hi⟩, hP _ _ hi⟩
theorem t_y8 {g : tE} {h : tH} {H : Heap} {W0 : va_W} {a : Nat} {c : ClassId} {f : Nat → Option Nat} (hP : va_P g.2.1 t_cls W0 H) (hi : W0[t_pos 8]? = some (a, .inl (c, 6, .inr (.inr (.inr (.inr f)))))) (ha : g.1 8 = a) (hc : g.2.2.1 3 = c) (hf : ∀ i, i < 6 → f i = some (g.1 (40 + i))) : (∃ e, W0[t_pos 8]? = some (g.1 8, e)) ∧ va_at g.2.1 t_cls (g.1 8, t_ce g h 8) H := by
  rw [t_ce_8 hc, ha]
  refine ⟨⟨_, hi⟩, ?_⟩
  have x : H[a]? = some (vp_cell c (6, .inr (.inr (.inr (.inr f))))) := hP _ _ hi
  show H[a]? = some (vp_cell c (6, _))
  rw [x, t_rowD hf]
theorem t_c0_0 (g : tE) (xs : Nat → Int32) (L k0 : Nat) : t_ce g (h00 xs L k0) 0 = .inr (0, [.ref (g.1 1), .ref (g.1 4), .ref (g.1 8), .int 0, .ref (g.1 9), .ref (g.1 11), .ref (g.1 76)]) := t_ce_of rfl rfl
theorem t_c0_1 (g : tE) (xs : Nat → Int32) (L k0 : Nat) : t_ce g (h00 xs L k0) 1 = .inr (1, [.ref (g.1 2), .ref (g.1 3), .int 0]) := t_ce_of rfl rfl
theorem t_c0_4 (g : tE) (xs : Nat → Int32) (L k0 : Nat) : t_ce g (h00 xs L k0) 4 = .inr (2, [.ref (g.1 5), .ref (g.1 6), .ref (g.1 7), .int 0]) := t_ce_of rfl rfl
theorem t_c0_9 (g : tE) (xs : Nat → Int32) (L k0 : Nat) : t_ce g (h00 xs L k0) 9 = .inr (3, [.ref (g.1 10), .int 0]) := t_ce_of rfl rfl
theorem t_c0_11 (g : tE) (xs : Nat → Int32) (L k0 : Nat) : t_ce g (h00 xs L k0) 11 = .inr (4, [.ref (g.1 12), .null, .int 0, .long 0]) := t_ce_of rfl rfl
theorem t_c0_40 (g : tE) (xs : Nat → Int32) (L k0 : Nat) : t_ce g (h00 xs L k0) 40 = .inr (5, [.ref (g.1 70), .ref (g.1 50), .ref (g.1 60), .int 0, .int 0, .int 0]) := t_ce_of rfl rfl
theorem t_c0_41 (g : tE) (xs : Nat → Int32) (L k0 : Nat) : t_ce g (h00 xs L k0) 41 = .inr (5, [.ref (g.1 71), .ref (g.1 51), .ref (g.1 61), .int 0, .int 0, .int 0]) := t_ce_of rfl rfl
theorem t_c0_42 (g : tE) (xs : Nat → Int32) (L k0 : Nat) : t_ce g (h00 xs L k0) 42 = .inr (5, [.ref (g.1 72), .ref (g.1 52), .ref (g.1 62), .int 0, .int 0, .int 0]) := t_ce_of rfl rfl
theorem t_c0_43 (g : tE) (xs : Nat → Int32) (L k0 : Nat) : t_ce g (h00 xs L k0) 43 = .inr (5, [.ref (g.1 73), .ref (g.1 53), .ref (g.1 63), .int 0, .int 0, .int 0]) := t_ce_of rfl rfl
theorem t_c0_44 (g : tE) (xs : Nat → Int32) (L k0 : Nat) : t_ce g (h00 xs L k0) 44 = .inr (5, [.ref (g.1 74), .ref (g.1 54), .ref (g.1 64), .int 0, .int 0, .int 0]) := t_ce_of rfl rfl
theorem t_c0_45 (g : tE) (xs : Nat → Int32) (L k0 : Nat) : t_ce g (h00 xs L k0) 45 = .inr (5, [.ref (g.1 75), .ref (g.1 55), .ref (g.1 65), .int 0, .int 0, .int 0]) := t_ce_of rfl rfl
theorem t_c0_70 (g : tE) (xs : Nat → Int32) (L k0 : Nat) : t_ce g (h00 xs L k0) 70 = .inr (6, [.ref (g.1 80), .int 0]) := t_ce_of rfl rfl
theorem t_c0_71 (g : tE) (xs : Nat → Int32) (L k0 : Nat) : t_ce g (h00 xs L k0) 71 = .inr (6, [.ref (g.1 81), .int 0]) := t_ce_of rfl rfl
theorem t_c0_72 (g : tE) (xs : Nat → Int32) (L k0 : Nat) : t_ce g (h00 xs L k0) 72 = .inr (6, [.ref (g.1 82), .int 0]) := t_ce_of rfl rfl
theorem t_c0_73 (g : tE) (xs : Nat → Int32) (L k0 : Nat) : t_ce g (h00 xs L k0) 73 = .inr (6, [.ref (g.1 83), .int 0]) := t_ce_of rfl rfl
theorem t_c0_74 (g : tE) (xs : Nat → Int32) (L k0 : Nat) : t_ce g (h00 xs L k0) 74 = .inr (6, [.ref (g.1 84), .int 0]) := t_ce_of rfl rfl
theorem t_c0_75 (g : tE) (xs : Nat → Int32) (L k0 : Nat) : t_ce g (h00 xs L k0) 75 = .inr (6, [.ref (g.1 85), .int 0]) := t_ce_of rfl rfl
theorem t_c0_76 (g : tE) (xs : Nat → Int32) (L k0 : Nat) : t_ce g (h00 xs L k0) 76 = .inr (6, [.ref (g.1 86), .int 0]) := t_ce_of rfl rfl
set_option maxHeartbeats 4000000 in
set_option maxRecDepth 100000 in
theorem t_world {D : va_G} {A : Nat → Prop} {b L : Nat} (k0 : Nat) {xs : Nat → Int32} {s : State} {H : Heap} {h0 o1 a1_1 a1_2 o2 a2_1 a2_2 a2_3 od o3 a3_1 o4 a4_1 o5 a5_1 o6 a6_1 a6_2 a6_3 a6_4 o7 a7_1 a7_2 a7_3 a7_4 o8 a8_1 a8_2 a8_3 a8_4 o9 a9_1 a9_2 a9_3 a9_4 o10 a10_1 a10_2 a10_3 a10_4 o11 a11_1 a11_2 a11_3 a11_4 q1 q2 q3 : Nat} {c1_1 c1_2 c2_1 c2_2 c2_3 cd c3_1 c4_1 c5_1 c6_1 c6_2 c6_3 c7_1 c7_2 c7_3 c8_1 c8_2 c8_3 c9_1 c9_2 c9_3 c10_1 c10_2 c10_3 c11_1 c11_2 c11_3 cA1 cA2 cA3 : ClassId} (hP : va_P D t_cls [(h0, .inr (0, [.ref o1, .ref o2, .ref od, .int 0, .ref o3, .ref o4, .ref o5])), (o1, .inr (1, [.ref a1_1, .ref a1_2, .int 0])), (a1_1, .inl (c1_1, 7, .inl fun _ => 0)), (a1_2, .inl (c1_2, 7, .inl fun _ => 0)), (o2, .inr (2, [.ref a2_1, .ref a2_2, .ref a2_3, .int 0])), (a2_1, .inl (c2_1, 21, .inl fun _ => 0)), (a2_2, .inl (c2_2, 7, .inl fun _ => 0)), (a2_3, .inl (c2_3, 49, .inl fun _ => 0)), (od, .inl (cd, 6, .inr (.inr (.inr (.inr (va_up (va_up (va_up (va_up (va_up (va_up (fun _ => none) 0 (some o6)) 1 (some o7)) 2 (some o8)) 3 (some o9)) 4 (some o10)) 5 (some o11))))))), (o3, .inr (3, [.ref a3_1, .int 0])), (a3_1, .inl (c3_1, 21, .inl fun _ => 0)), (o4, .inr (4, [.ref a4_1, .null, .int 0, .long 0])), (a4_1, .inl (c4_1, 7, .inl fun _ => 0)), (o5, .inr (6, [.ref a5_1, .int 0])), (a5_1, .inl (c5_1, 343, .inl fun _ => 0)), (o6, .inr (5, [.ref a6_1, .ref a6_3, .ref a6_4, .int 0, .int 0, .int 0])), (a6_1, .inr (6, [.ref a6_2, .int 0])), (a6_2, .inl (c6_1, 343, .inl fun _ => 0)), (a6_3, .inl (c6_2, 7, .inl fun _ => 0)), (a6_4, .inl (c6_3, 7, .inl fun _ => 0)), (o7, .inr (5, [.ref a7_1, .ref a7_3, .ref a7_4, .int 0, .int 0, .int 0])), (a7_1, .inr (6, [.ref a7_2, .int 0])), (a7_2, .inl (c7_1, 343, .inl fun _ => 0)), (a7_3, .inl (c7_2, 7, .inl fun _ => 0)), (a7_4, .inl (c7_3, 7, .inl fun _ => 0)), (o8, .inr (5, [.ref a8_1, .ref a8_3, .ref a8_4, .int 0, .int 0, .int 0])), (a8_1, .inr (6, [.ref a8_2, .int 0])), (a8_2, .inl (c8_1, 343, .inl fun _ => 0)), (a8_3, .inl (c8_2, 7, .inl fun _ => 0)), (a8_4, .inl (c8_3, 7, .inl fun _ => 0)), (o9, .inr (5, [.ref a9_1, .ref a9_3, .ref a9_4, .int 0, .int 0, .int 0])), (a9_1, .inr (6, [.ref a9_2, .int 0])), (a9_2, .inl (c9_1, 343, .inl fun _ => 0)), (a9_3, .inl (c9_2, 7, .inl fun _ => 0)), (a9_4, .inl (c9_3, 7, .inl fun _ => 0)), (o10, .inr (5, [.ref a10_1, .ref a10_3, .ref a10_4, .int 0, .int 0, .int 0])), (a10_1, .inr (6, [.ref a10_2, .int 0])), (a10_2, .inl (c10_1, 343, .inl fun _ => 0)), (a10_3, .inl (c10_2, 7, .inl fun _ => 0)), (a10_4, .inl (c10_3, 7, .inl fun _ => 0)), (o11, .inr (5, [.ref a11_1, .ref a11_3, .ref a11_4, .int 0, .int 0, .int 0])), (a11_1, .inr (6, [.ref a11_2, .int 0])), (a11_2, .inl (c11_1, 343, .inl fun _ => 0)), (a11_3, .inl (c11_2, 7, .inl fun _ => 0)), (a11_4, .inl (c11_3, 7, .inl fun _ => 0)), (q1, .inl (cA1, 7, .inl fun _ => 0)), (q2, .inl (cA2, 7, .inl fun _ => 0)), (q3, .inl (cA3, 49, .inl fun _ => 0))] H) (hK : va_K D t_cls [(c1_1, .int), (c1_2, .int), (c2_1, .int), (c2_2, .int), (c2_3, .int), (cd, .object RX2), (c3_1, .int), (c4_1, .int), (c5_1, .int), (c6_1, .int), (c6_2, .int), (c6_3, .int), (c7_1, .int), (c7_2, .int), (c7_3, .int), (c8_1, .int), (c8_2, .int), (c8_3, .int), (c9_1, .int), (c9_2, .int), (c9_3, .int), (c10_1, .int), (c10_2, .int), (c10_3, .int), (c11_1, .int), (c11_2, .int), (c11_3, .int), (cA1, .int), (cA2, .int), (cA3, .int)] s) (hD : va_D A [(h0, .inr (0, [.ref o1, .ref o2, .ref od, .int 0, .ref o3, .ref o4, .ref o5])), (o1, .inr (1, [.ref a1_1, .ref a1_2, .int 0])), (a1_1, .inl (c1_1, 7, .inl fun _ => 0)), (a1_2, .inl (c1_2, 7, .inl fun _ => 0)), (o2, .inr (2, [.ref a2_1, .ref a2_2, .ref a2_3, .int 0])), (a2_1, .inl (c2_1, 21, .inl fun _ => 0)), (a2_2, .inl (c2_2, 7, .inl fun _ => 0)), (a2_3, .inl (c2_3, 49, .inl fun _ => 0)), (od, .inl (cd, 6, .inr (.inr (.inr (.inr (va_up (va_up (va_up (va_up (va_up (va_up (fun _ => none) 0 (some o6)) 1 (some o7)) 2 (some o8)) 3 (some o9)) 4 (some o10)) 5 (some o11))))))), (o3, .inr (3, [.ref a3_1, .int 0])), (a3_1, .inl (c3_1, 21, .inl fun _ => 0)), (o4, .inr (4, [.ref a4_1, .null, .int 0, .long 0])), (a4_1, .inl (c4_1, 7, .inl fun _ => 0)), (o5, .inr (6, [.ref a5_1, .int 0])), (a5_1, .inl (c5_1, 343, .inl fun _ => 0)), (o6, .inr (5, [.ref a6_1, .ref a6_3, .ref a6_4, .int 0, .int 0, .int 0])), (a6_1, .inr (6, [.ref a6_2, .int 0])), (a6_2, .inl (c6_1, 343, .inl fun _ => 0)), (a6_3, .inl (c6_2, 7, .inl fun _ => 0)), (a6_4, .inl (c6_3, 7, .inl fun _ => 0)), (o7, .inr (5, [.ref a7_1, .ref a7_3, .ref a7_4, .int 0, .int 0, .int 0])), (a7_1, .inr (6, [.ref a7_2, .int 0])), (a7_2, .inl (c7_1, 343, .inl fun _ => 0)), (a7_3, .inl (c7_2, 7, .inl fun _ => 0)), (a7_4, .inl (c7_3, 7, .inl fun _ => 0)), (o8, .inr (5, [.ref a8_1, .ref a8_3, .ref a8_4, .int 0, .int 0, .int 0])), (a8_1, .inr (6, [.ref a8_2, .int 0])), (a8_2, .inl (c8_1, 343, .inl fun _ => 0)), (a8_3, .inl (c8_2, 7, .inl fun _ => 0)), (a8_4, .inl (c8_3, 7, .inl fun _ => 0)), (o9, .inr (5, [.ref a9_1, .ref a9_3, .ref a9_4, .int 0, .int 0, .int 0])), (a9_1, .inr (6, [.ref a9_2, .int 0])), (a9_2, .inl (c9_1, 343, .inl fun _ => 0)), (a9_3, .inl (c9_2, 7, .inl fun _ => 0)), (a9_4, .inl (c9_3, 7, .inl fun _ => 0)), (o10, .inr (5, [.ref a10_1, .ref a10_3, .ref a10_4, .int 0, .int 0, .int 0])), (a10_1, .inr (6, [.ref a10_2, .int 0])), (a10_2, .inl (c10_1, 343, .inl fun _ => 0)), (a10_3, .inl (c10_2, 7, .inl fun _ => 0)), (a10_4, .inl (c10_3, 7, .inl fun _ => 0)), (o11, .inr (5, [.ref a11_1, .ref a11_3, .ref a11_4, .int 0, .int 0, .int 0])), (a11_1, .inr (6, [.ref a11_2, .int 0])), (a11_2, .inl (c11_1, 343, .inl fun _ => 0)), (a11_3, .inl (c11_2, 7, .inl fun _ => 0)), (a11_4, .inl (c11_3, 7, .inl fun _ => 0)), (q1, .inl (cA1, 7, .inl fun _ => 0)), (q2, .inl (cA2, 7, .inl fun _ => 0)), (q3, .inl (cA3, 49, .inl fun _ => 0))]) :
    ∃ g : tE, g.2.1 = D ∧ g.2.2.2.1 = A ∧ g.2.2.2.2.1 = b ∧ g.2.2.2.2.2.1 = L ∧ g.2.2.2.2.2.2 = xs ∧ g.1 0 = h0 ∧ g.1 14 = q1 ∧ g.1 15 = q2 ∧ g.1 16 = q3 ∧ g.1 33 = b ∧ va_K g.2.1 t_cls (t_tys g) s ∧ va_P g.2.1 t_cls (th_ws g (h00 xs L k0)) H ∧ (∀ i j, i ∈ t_ids → j ∈ t_ids → g.1 i = g.1 j → i = j) ∧ ∀ i, i ∈ t_ids → g.2.2.2.1 (g.1 i) := by
  have e_ : c1_1 = c1_2 := va_one_i hK (i := 0) (j := 1) rfl rfl
  subst e_
  have e_ : c1_1 = c2_1 := va_one_i hK (i := 0) (j := 2) rfl rfl
  subst e_
  have e_ : c1_1 = c2_2 := va_one_i hK (i := 0) (j := 3) rfl rfl
  subst e_
  have e_ : c1_1 = c2_3 := va_one_i hK (i := 0) (j := 4) rfl rfl
  subst e_
  have e_ : c1_1 = c3_1 := va_one_i hK (i := 0) (j := 6) rfl rfl
  subst e_
  have e_ : c1_1 = c4_1 := va_one_i hK (i := 0) (j := 7) rfl rfl
  subst e_
  have e_ : c1_1 = c5_1 := va_one_i hK (i := 0) (j := 8) rfl rfl
  subst e_
  have e_ : c1_1 = c6_1 := va_one_i hK (i := 0) (j := 9) rfl rfl
  subst e_
  have e_ : c1_1 = c6_2 := va_one_i hK (i := 0) (j := 10) rfl rfl
  subst e_
  have e_ : c1_1 = c6_3 := va_one_i hK (i := 0) (j := 11) rfl rfl
  subst e_
  have e_ : c1_1 = c7_1 := va_one_i hK (i := 0) (j := 12) rfl rfl
  subst e_
  have e_ : c1_1 = c7_2 := va_one_i hK (i := 0) (j := 13) rfl rfl
  subst e_
  have e_ : c1_1 = c7_3 := va_one_i hK (i := 0) (j := 14) rfl rfl
  subst e_
  have e_ : c1_1 = c8_1 := va_one_i hK (i := 0) (j := 15) rfl rfl
  subst e_
  have e_ : c1_1 = c8_2 := va_one_i hK (i := 0) (j := 16) rfl rfl
  subst e_
  have e_ : c1_1 = c8_3 := va_one_i hK (i := 0) (j := 17) rfl rfl
  subst e_
  have e_ : c1_1 = c9_1 := va_one_i hK (i := 0) (j := 18) rfl rfl
  subst e_
  have e_ : c1_1 = c9_2 := va_one_i hK (i := 0) (j := 19) rfl rfl
  subst e_
  have e_ : c1_1 = c9_3 := va_one_i hK (i := 0) (j := 20) rfl rfl
  subst e_
  have e_ : c1_1 = c10_1 := va_one_i hK (i := 0) (j := 21) rfl rfl
  subst e_
  have e_ : c1_1 = c10_2 := va_one_i hK (i := 0) (j := 22) rfl rfl
  subst e_
  have e_ : c1_1 = c10_3 := va_one_i hK (i := 0) (j := 23) rfl rfl
  subst e_
  have e_ : c1_1 = c11_1 := va_one_i hK (i := 0) (j := 24) rfl rfl
  subst e_
  have e_ : c1_1 = c11_2 := va_one_i hK (i := 0) (j := 25) rfl rfl
  subst e_
  have e_ : c1_1 = c11_3 := va_one_i hK (i := 0) (j := 26) rfl rfl
  subst e_
  have e_ : c1_1 = cA1 := va_one_i hK (i := 0) (j := 27) rfl rfl
  subst e_
  have e_ : c1_1 = cA2 := va_one_i hK (i := 0) (j := 28) rfl rfl
  subst e_
  have e_ : c1_1 = cA3 := va_one_i hK (i := 0) (j := 29) rfl rfl
  subst e_
  have hK4 := hK.sub (tys' := [(c1_1, .int), (cd, .object RX2)]) [0, 5] rfl
  clear hK
  obtain ⟨g, gD, gA, gb, gL, gx, ga, gc⟩ : ∃ g : tE, g.2.1 = D ∧ g.2.2.2.1 = A ∧ g.2.2.2.2.1 = b ∧ g.2.2.2.2.2.1 = L ∧ g.2.2.2.2.2.2 = xs ∧ g.1 = (fun k => ([h0, o1, a1_1, a1_2, o2, a2_1, a2_2, a2_3, od, o3, a3_1, o4, a4_1, 0, q1, q2, q3, 0, 0, 0, 0, 0, 0, 0, 0, 0, 0, 0, 0, 0, 0, 0, 0, b, 0, 0, 0, 0, 0, 0, o6, o7, o8, o9, o10, o11, 0, 0, 0, 0, a6_3, a7_3, a8_3, a9_3, a10_3, a11_3, 0, 0, 0, 0, a6_4, a7_4, a8_4, a9_4, a10_4, a11_4, 0, 0, 0, 0, a6_1, a7_1, a8_1, a9_1, a10_1, a11_1, o5, 0, 0, 0, a6_2, a7_2, a8_2, a9_2, a10_2, a11_2, a5_1] : List Nat).getD k 0) ∧ g.2.2.1 = (fun i => match i with | 0 => c1_1 | _ => cd) := ⟨(_, _, _, _, _, _, _), rfl, rfl, rfl, rfl, rfl, rfl, rfl⟩
  have a0 : g.1 0 = h0 := by rw [ga]; rfl
  have a1 : g.1 1 = o1 := by rw [ga]; rfl
  have a2 : g.1 2 = a1_1 := by rw [ga]; rfl
  have a3 : g.1 3 = a1_2 := by rw [ga]; rfl
  have a4 : g.1 4 = o2 := by rw [ga]; rfl
  have a5 : g.1 5 = a2_1 := by rw [ga]; rfl
  have a6 : g.1 6 = a2_2 := by rw [ga]; rfl
  have a7 : g.1 7 = a2_3 := by rw [ga]; rfl
  have a8 : g.1 8 = od := by rw [ga]; rfl
  have a9 : g.1 9 = o3 := by rw [ga]; rfl
  have a10 : g.1 10 = a3_1 := by rw [ga]; rfl
  have a11 : g.1 11 = o4 := by rw [ga]; rfl
  have a12 : g.1 12 = a4_1 := by rw [ga]; rfl
  have a14 : g.1 14 = q1 := by rw [ga]; rfl
  have a15 : g.1 15 = q2 := by rw [ga]; rfl
  have a16 : g.1 16 = q3 := by rw [ga]; rfl
  have a40 : g.1 40 = o6 := by rw [ga]; rfl
  have a41 : g.1 41 = o7 := by rw [ga]; rfl
  have a42 : g.1 42 = o8 := by rw [ga]; rfl
  have a43 : g.1 43 = o9 := by rw [ga]; rfl
  have a44 : g.1 44 = o10 := by rw [ga]; rfl
  have a45 : g.1 45 = o11 := by rw [ga]; rfl
  have a50 : g.1 50 = a6_3 := by rw [ga]; rfl
  have a51 : g.1 51 = a7_3 := by rw [ga]; rfl
  have a52 : g.1 52 = a8_3 := by rw [ga]; rfl
  have a53 : g.1 53 = a9_3 := by rw [ga]; rfl
  have a54 : g.1 54 = a10_3 := by rw [ga]; rfl
  have a55 : g.1 55 = a11_3 := by rw [ga]; rfl
  have a60 : g.1 60 = a6_4 := by rw [ga]; rfl
  have a61 : g.1 61 = a7_4 := by rw [ga]; rfl
  have a62 : g.1 62 = a8_4 := by rw [ga]; rfl
  have a63 : g.1 63 = a9_4 := by rw [ga]; rfl
  have a64 : g.1 64 = a10_4 := by rw [ga]; rfl
  have a65 : g.1 65 = a11_4 := by rw [ga]; rfl
  have a70 : g.1 70 = a6_1 := by rw [ga]; rfl
  have a71 : g.1 71 = a7_1 := by rw [ga]; rfl
  have a72 : g.1 72 = a8_1 := by rw [ga]; rfl
  have a73 : g.1 73 = a9_1 := by rw [ga]; rfl
  have a74 : g.1 74 = a10_1 := by rw [ga]; rfl
  have a75 : g.1 75 = a11_1 := by rw [ga]; rfl
  have a76 : g.1 76 = o5 := by rw [ga]; rfl
  have a80 : g.1 80 = a6_2 := by rw [ga]; rfl
  have a81 : g.1 81 = a7_2 := by rw [ga]; rfl
  have a82 : g.1 82 = a8_2 := by rw [ga]; rfl
  have a83 : g.1 83 = a9_2 := by rw [ga]; rfl
  have a84 : g.1 84 = a10_2 := by rw [ga]; rfl
  have a85 : g.1 85 = a11_2 := by rw [ga]; rfl
  have a86 : g.1 86 = a5_1 := by rw [ga]; rfl
  have a33 : g.1 33 = b := by rw [ga]; rfl
  have u0 : g.2.2.1 0 = c1_1 := by rw [gc]; rfl
  have u3 : g.2.2.1 3 = cd := by rw [gc]; rfl
  generalize hW0 : ([(h0, .inr (0, [.ref o1, .ref o2, .ref od, .int 0, .ref o3, .ref o4, .ref o5])), (o1, .inr (1, [.ref a1_1, .ref a1_2, .int 0])), (a1_1, .inl (c1_1, 7, .inl fun _ => 0)), (a1_2, .inl (c1_1, 7, .inl fun _ => 0)), (o2, .inr (2, [.ref a2_1, .ref a2_2, .ref a2_3, .int 0])), (a2_1, .inl (c1_1, 21, .inl fun _ => 0)), (a2_2, .inl (c1_1, 7, .inl fun _ => 0)), (a2_3, .inl (c1_1, 49, .inl fun _ => 0)), (od, .inl (cd, 6, .inr (.inr (.inr (.inr (va_up (va_up (va_up (va_up (va_up (va_up (fun _ => none) 0 (some o6)) 1 (some o7)) 2 (some o8)) 3 (some o9)) 4 (some o10)) 5 (some o11))))))), (o3, .inr (3, [.ref a3_1, .int 0])), (a3_1, .inl (c1_1, 21, .inl fun _ => 0)), (o4, .inr (4, [.ref a4_1, .null, .int 0, .long 0])), (a4_1, .inl (c1_1, 7, .inl fun _ => 0)), (o5, .inr (6, [.ref a5_1, .int 0])), (a5_1, .inl (c1_1, 343, .inl fun _ => 0)), (o6, .inr (5, [.ref a6_1, .ref a6_3, .ref a6_4, .int 0, .int 0, .int 0])), (a6_1, .inr (6, [.ref a6_2, .int 0])), (a6_2, .inl (c1_1, 343, .inl fun _ => 0)), (a6_3, .inl (c1_1, 7, .inl fun _ => 0)), (a6_4, .inl (c1_1, 7, .inl fun _ => 0)), (o7, .inr (5, [.ref a7_1, .ref a7_3, .ref a7_4, .int 0, .int 0, .int 0])), (a7_1, .inr (6, [.ref a7_2, .int 0])), (a7_2, .inl (c1_1, 343, .inl fun _ => 0)), (a7_3, .inl (c1_1, 7, .inl fun _ => 0)), (a7_4, .inl (c1_1, 7, .inl fun _ => 0)), (o8, .inr (5, [.ref a8_1, .ref a8_3, .ref a8_4, .int 0, .int 0, .int 0])), (a8_1, .inr (6, [.ref a8_2, .int 0])), (a8_2, .inl (c1_1, 343, .inl fun _ => 0)), (a8_3, .inl (c1_1, 7, .inl fun _ => 0)), (a8_4, .inl (c1_1, 7, .inl fun _ => 0)), (o9, .inr (5, [.ref a9_1, .ref a9_3, .ref a9_4, .int 0, .int 0, .int 0])), (a9_1, .inr (6, [.ref a9_2, .int 0])), (a9_2, .inl (c1_1, 343, .inl fun _ => 0)), (a9_3, .inl (c1_1, 7, .inl fun _ => 0)), (a9_4, .inl (c1_1, 7, .inl fun _ => 0)), (o10, .inr (5, [.ref a10_1, .ref a10_3, .ref a10_4, .int 0, .int 0, .int 0])), (a10_1, .inr (6, [.ref a10_2, .int 0])), (a10_2, .inl (c1_1, 343, .inl fun _ => 0)), (a10_3, .inl (c1_1, 7, .inl fun _ => 0)), (a10_4, .inl (c1_1, 7, .inl fun _ => 0)), (o11, .inr (5, [.ref a11_1, .ref a11_3, .ref a11_4, .int 0, .int 0, .int 0])), (a11_1, .inr (6, [.ref a11_2, .int 0])), (a11_2, .inl (c1_1, 343, .inl fun _ => 0)), (a11_3, .inl (c1_1, 7, .inl fun _ => 0)), (a11_4, .inl (c1_1, 7, .inl fun _ => 0)), (q1, .inl (c1_1, 7, .inl fun _ => 0)), (q2, .inl (c1_1, 7, .inl fun _ => 0)), (q3, .inl (c1_1, 49, .inl fun _ => 0))] : va_W) = W0 at hP hD
  have v0 : W0[t_pos 0]? = some (h0, .inr (0, [.ref o1, .ref o2, .ref od, .int 0, .ref o3, .ref o4, .ref o5])) := by rw [← hW0]; rfl
  have v1 : W0[t_pos 1]? = some (o1, .inr (1, [.ref a1_1, .ref a1_2, .int 0])) := by rw [← hW0]; rfl
  have v2 : W0[t_pos 2]? = some (a1_1, .inl (c1_1, 7, .inl fun _ => 0)) := by rw [← hW0]; rfl
  have v3 : W0[t_pos 3]? = some (a1_2, .inl (c1_1, 7, .inl fun _ => 0)) := by rw [← hW0]; rfl
  have v4 : W0[t_pos 4]? = some (o2, .inr (2, [.ref a2_1, .ref a2_2, .ref a2_3, .int 0])) := by rw [← hW0]; rfl
  have v5 : W0[t_pos 5]? = some (a2_1, .inl (c1_1, 21, .inl fun _ => 0)) := by rw [← hW0]; rfl
  have v6 : W0[t_pos 6]? = some (a2_2, .inl (c1_1, 7, .inl fun _ => 0)) := by rw [← hW0]; rfl
  have v7 : W0[t_pos 7]? = some (a2_3, .inl (c1_1, 49, .inl fun _ => 0)) := by rw [← hW0]; rfl
  have v8 : W0[t_pos 8]? = some (od, .inl (cd, 6, .inr (.inr (.inr (.inr (va_up (va_up (va_up (va_up (va_up (va_up (fun _ => none) 0 (some o6)) 1 (some o7)) 2 (some o8)) 3 (some o9)) 4 (some o10)) 5 (some o11))))))) := by rw [← hW0]; rfl
  have v9 : W0[t_pos 9]? = some (o3, .inr (3, [.ref a3_1, .int 0])) := by rw [← hW0]; rfl
  have v10 : W0[t_pos 10]? = some (a3_1, .inl (c1_1, 21, .inl fun _ => 0)) := by rw [← hW0]; rfl
  have v11 : W0[t_pos 11]? = some (o4, .inr (4, [.ref a4_1, .null, .int 0, .long 0])) := by rw [← hW0]; rfl
  have v12 : W0[t_pos 12]? = some (a4_1, .inl (c1_1, 7, .inl fun _ => 0)) := by rw [← hW0]; rfl
  have v76 : W0[t_pos 76]? = some (o5, .inr (6, [.ref a5_1, .int 0])) := by rw [← hW0]; rfl
  have v86 : W0[t_pos 86]? = some (a5_1, .inl (c1_1, 343, .inl fun _ => 0)) := by rw [← hW0]; rfl
  have v40 : W0[t_pos 40]? = some (o6, .inr (5, [.ref a6_1, .ref a6_3, .ref a6_4, .int 0, .int 0, .int 0])) := by rw [← hW0]; rfl
  have v70 : W0[t_pos 70]? = some (a6_1, .inr (6, [.ref a6_2, .int 0])) := by rw [← hW0]; rfl
  have v80 : W0[t_pos 80]? = some (a6_2, .inl (c1_1, 343, .inl fun _ => 0)) := by rw [← hW0]; rfl
  have v50 : W0[t_pos 50]? = some (a6_3, .inl (c1_1, 7, .inl fun _ => 0)) := by rw [← hW0]; rfl
  have v60 : W0[t_pos 60]? = some (a6_4, .inl (c1_1, 7, .inl fun _ => 0)) := by rw [← hW0]; rfl
  have v41 : W0[t_pos 41]? = some (o7, .inr (5, [.ref a7_1, .ref a7_3, .ref a7_4, .int 0, .int 0, .int 0])) := by rw [← hW0]; rfl
  have v71 : W0[t_pos 71]? = some (a7_1, .inr (6, [.ref a7_2, .int 0])) := by rw [← hW0]; rfl
  have v81 : W0[t_pos 81]? = some (a7_2, .inl (c1_1, 343, .inl fun _ => 0)) := by rw [← hW0]; rfl
  have v51 : W0[t_pos 51]? = some (a7_3, .inl (c1_1, 7, .inl fun _ => 0)) := by rw [← hW0]; rfl
  have v61 : W0[t_pos 61]? = some (a7_4, .inl (c1_1, 7, .inl fun _ => 0)) := by rw [← hW0]; rfl
  have v42 : W0[t_pos 42]? = some (o8, .inr (5, [.ref a8_1, .ref a8_3, .ref a8_4, .int 0, .int 0, .int 0])) := by rw [← hW0]; rfl
  have v72 : W0[t_pos 72]? = some (a8_1, .inr (6, [.ref a8_2, .int 0])) := by rw [← hW0]; rfl
  have v82 : W0[t_pos 82]? = some (a8_2, .inl (c1_1, 343, .inl fun _ => 0)) := by rw [← hW0]; rfl
  have v52 : W0[t_pos 52]? = some (a8_3, .inl (c1_1, 7, .inl fun _ => 0)) := by rw [← hW0]; rfl
  have v62 : W0[t_pos 62]? = some (a8_4, .inl (c1_1, 7, .inl fun _ => 0)) := by rw [← hW0]; rfl
  have v43 : W0[t_pos 43]? = some (o9, .inr (5, [.ref a9_1, .ref a9_3, .ref a9_4, .int 0, .int 0, .int 0])) := by rw [← hW0]; rfl
  have v73 : W0[t_pos 73]? = some (a9_1, .inr (6, [.ref a9_2, .int 0])) := by rw [← hW0]; rfl
  have v83 : W0[t_pos 83]? = some (a9_2, .inl (c1_1, 343, .inl fun _ => 0)) := by rw [← hW0]; rfl
  have v53 : W0[t_pos 53]? = some (a9_3, .inl (c1_1, 7, .inl fun _ => 0)) := by rw [← hW0]; rfl
  have v63 : W0[t_pos 63]? = some (a9_4, .inl (c1_1, 7, .inl fun _ => 0)) := by rw [← hW0]; rfl
  have v44 : W0[t_pos 44]? = some (o10, .inr (5, [.ref a10_1, .ref a10_3, .ref a10_4, .int 0, .int 0, .int 0])) := by rw [← hW0]; rfl
  have v74 : W0[t_pos 74]? = some (a10_1, .inr (6, [.ref a10_2, .int 0])) := by rw [← hW0]; rfl
  have v84 : W0[t_pos 84]? = some (a10_2, .inl (c1_1, 343, .inl fun _ => 0)) := by rw [← hW0]; rfl
  have v54 : W0[t_pos 54]? = some (a10_3, .inl (c1_1, 7, .inl fun _ => 0)) := by rw [← hW0]; rfl
  have v64 : W0[t_pos 64]? = some (a10_4, .inl (c1_1, 7, .inl fun _ => 0)) := by rw [← hW0]; rfl
  have v45 : W0[t_pos 45]? = some (o11, .inr (5, [.ref a11_1, .ref a11_3, .ref a11_4, .int 0, .int 0, .int 0])) := by rw [← hW0]; rfl
  have v75 : W0[t_pos 75]? = some (a11_1, .inr (6, [.ref a11_2, .int 0])) := by rw [← hW0]; rfl
  have v85 : W0[t_pos 85]? = some (a11_2, .inl (c1_1, 343, .inl fun _ => 0)) := by rw [← hW0]; rfl
  have v55 : W0[t_pos 55]? = some (a11_3, .inl (c1_1, 7, .inl fun _ => 0)) := by rw [← hW0]; rfl
  have v65 : W0[t_pos 65]? = some (a11_4, .inl (c1_1, 7, .inl fun _ => 0)) := by rw [← hW0]; rfl
  have v14 : W0[t_pos 14]? = some (q1, .inl (c1_1, 7, .inl fun _ => 0)) := by rw [← hW0]; rfl
  have v15 : W0[t_pos 15]? = some (q2, .inl (c1_1, 7, .inl fun _ => 0)) := by rw [← hW0]; rfl
  have v16 : W0[t_pos 16]? = some (q3, .inl (c1_1, 49, .inl fun _ => 0)) := by rw [← hW0]; rfl
  clear hW0
  subst gD
  subst gA
  have y0 := t_y (h := h00 xs L k0) hP v0 a0 (by rw [t_c0_0, a1, a4, a8, a9, a11, a76])
  have y1 := t_y (h := h00 xs L k0) hP v1 a1 (by rw [t_c0_1, a2, a3])
  have y2 := t_y (h := h00 xs L k0) hP v2 a2 (t_ceI rfl rfl (fun _ => h00_z (by decide) (by decide)) u0)
  have y3 := t_y (h := h00 xs L k0) hP v3 a3 (t_ceI rfl rfl (fun _ => h00_z (by decide) (by decide)) u0)
  have y4 := t_y (h := h00 xs L k0) hP v4 a4 (by rw [t_c0_4, a5, a6, a7])
  have y5 := t_y (h := h00 xs L k0) hP v5 a5 (t_ceI rfl rfl (fun _ => h00_z (by decide) (by decide)) u0)
  have y6 := t_y (h := h00 xs L k0) hP v6 a6 (t_ceI rfl rfl (fun _ => h00_z (by decide) (by decide)) u0)
  have y7 := t_y (h := h00 xs L k0) hP v7 a7 (t_ceI rfl rfl (fun _ => h00_z (by decide) (by decide)) u0)
  have y8 := t_y8 (h := h00 xs L k0) hP v8 a8 u3 (fun i hi => by by_cases h : i < 6 <;> first | (rcases (show i = 0 ∨ i = 1 ∨ i = 2 ∨ i = 3 ∨ i = 4 ∨ i = 5 by omega) with rfl | rfl | rfl | rfl | rfl | rfl <;> first | (rw [a40]; rfl) | (rw [a41]; rfl) | (rw [a42]; rfl) | (rw [a43]; rfl) | (rw [a44]; rfl) | (rw [a45]; rfl)) | omega)
  have y9 := t_y (h := h00 xs L k0) hP v9 a9 (by rw [t_c0_9, a10])
  have y10 := t_y (h := h00 xs L k0) hP v10 a10 (t_ceI rfl rfl (fun _ => h00_z (by decide) (by decide)) u0)
  have y11 := t_y (h := h00 xs L k0) hP v11 a11 (by rw [t_c0_11, a12])
  have y12 := t_y (h := h00 xs L k0) hP v12 a12 (t_ceI rfl rfl (fun _ => h00_z (by decide) (by decide)) u0)
  have y14 := t_y (h := h00 xs L k0) hP v14 a14 (t_ceI rfl rfl (fun _ => h00_z (by decide) (by decide)) u0)
  have y15 := t_y (h := h00 xs L k0) hP v15 a15 (t_ceI rfl rfl (fun _ => h00_z (by decide) (by decide)) u0)
  have y16 := t_y (h := h00 xs L k0) hP v16 a16 (t_ceI rfl rfl (fun _ => h00_z (by decide) (by decide)) u0)
  have y40 := t_y (h := h00 xs L k0) hP v40 a40 (by rw [t_c0_40, a70, a50, a60])
  have y41 := t_y (h := h00 xs L k0) hP v41 a41 (by rw [t_c0_41, a71, a51, a61])
  have y42 := t_y (h := h00 xs L k0) hP v42 a42 (by rw [t_c0_42, a72, a52, a62])
  have y43 := t_y (h := h00 xs L k0) hP v43 a43 (by rw [t_c0_43, a73, a53, a63])
  have y44 := t_y (h := h00 xs L k0) hP v44 a44 (by rw [t_c0_44, a74, a54, a64])
  have y45 := t_y (h := h00 xs L k0) hP v45 a45 (by rw [t_c0_45, a75, a55, a65])
  have y50 := t_y (h := h00 xs L k0) hP v50 a50 (t_ceI rfl rfl (fun _ => h00_z (by decide) (by decide)) u0)
  have y51 := t_y (h := h00 xs L k0) hP v51 a51 (t_ceI rfl rfl (fun _ => h00_z (by decide) (by decide)) u0)
  have y52 := t_y (h := h00 xs L k0) hP v52 a52 (t_ceI rfl rfl (fun _ => h00_z (by decide) (by decide)) u0)
  have y53 := t_y (h := h00 xs L k0) hP v53 a53 (t_ceI rfl rfl (fun _ => h00_z (by decide) (by decide)) u0)
  have y54 := t_y (h := h00 xs L k0) hP v54 a54 (t_ceI rfl rfl (fun _ => h00_z (by decide) (by decide)) u0)
  have y55 := t_y (h := h00 xs L k0) hP v55 a55 (t_ceI rfl rfl (fun _ => h00_z (by decide) (by decide)) u0)
  have y60 := t_y (h := h00 xs L k0) hP v60 a60 (t_ceI rfl rfl (fun _ => h00_z (by decide) (by decide)) u0)
  have y61 := t_y (h := h00 xs L k0) hP v61 a61 (t_ceI rfl rfl (fun _ => h00_z (by decide) (by decide)) u0)
  have y62 := t_y (h := h00 xs L k0) hP v62 a62 (t_ceI rfl rfl (fun _ => h00_z (by decide) (by decide)) u0)
  have y63 := t_y (h := h00 xs L k0) hP v63 a63 (t_ceI rfl rfl (fun _ => h00_z (by decide) (by decide)) u0)
  have y64 := t_y (h := h00 xs L k0) hP v64 a64 (t_ceI rfl rfl (fun _ => h00_z (by decide) (by decide)) u0)
  have y65 := t_y (h := h00 xs L k0) hP v65 a65 (t_ceI rfl rfl (fun _ => h00_z (by decide) (by decide)) u0)
  have y70 := t_y (h := h00 xs L k0) hP v70 a70 (by rw [t_c0_70, a80])
  have y71 := t_y (h := h00 xs L k0) hP v71 a71 (by rw [t_c0_71, a81])
  have y72 := t_y (h := h00 xs L k0) hP v72 a72 (by rw [t_c0_72, a82])
  have y73 := t_y (h := h00 xs L k0) hP v73 a73 (by rw [t_c0_73, a83])
  have y74 := t_y (h := h00 xs L k0) hP v74 a74 (by rw [t_c0_74, a84])
  have y75 := t_y (h := h00 xs L k0) hP v75 a75 (by rw [t_c0_75, a85])
  have y76 := t_y (h := h00 xs L k0) hP v76 a76 (by rw [t_c0_76, a86])
  have y80 := t_y (h := h00 xs L k0) hP v80 a80 (t_ceI rfl rfl (fun _ => h00_z (by decide) (by decide)) u0)
  have y81 := t_y (h := h00 xs L k0) hP v81 a81 (t_ceI rfl rfl (fun _ => h00_z (by decide) (by decide)) u0)
  have y82 := t_y (h := h00 xs L k0) hP v82 a82 (t_ceI rfl rfl (fun _ => h00_z (by decide) (by decide)) u0)
  have y83 := t_y (h := h00 xs L k0) hP v83 a83 (t_ceI rfl rfl (fun _ => h00_z (by decide) (by decide)) u0)
  have y84 := t_y (h := h00 xs L k0) hP v84 a84 (t_ceI rfl rfl (fun _ => h00_z (by decide) (by decide)) u0)
  have y85 := t_y (h := h00 xs L k0) hP v85 a85 (t_ceI rfl rfl (fun _ => h00_z (by decide) (by decide)) u0)
  have y86 := t_y (h := h00 xs L k0) hP v86 a86 (t_ceI rfl rfl (fun _ => h00_z (by decide) (by decide)) u0)
  have hk : va_K g.2.1 t_cls (t_tys g) s := by unfold t_tys; rw [u0, u3]; exact hK4
  refine ⟨g, rfl, rfl, gb, gL, gx, a0, a14, a15, a16, a33, hk, t_mk (h00_z (by decide) (by decide)) hD ?_⟩
  rw [t_ids_l]
  clear hP hD hk hK4
  exact List.forall_mem_cons.mpr ⟨y0, List.forall_mem_cons.mpr ⟨y1, List.forall_mem_cons.mpr ⟨y2, List.forall_mem_cons.mpr ⟨y3, List.forall_mem_cons.mpr ⟨y4, List.forall_mem_cons.mpr ⟨y5, List.forall_mem_cons.mpr ⟨y6, List.forall_mem_cons.mpr ⟨y7, List.forall_mem_cons.mpr ⟨y8, List.forall_mem_cons.mpr ⟨y9, List.forall_mem_cons.mpr ⟨y10, List.forall_mem_cons.mpr ⟨y11, List.forall_mem_cons.mpr ⟨y12, List.forall_mem_cons.mpr ⟨y14, List.forall_mem_cons.mpr ⟨y15, List.forall_mem_cons.mpr ⟨y16, List.forall_mem_cons.mpr ⟨y40, List.forall_mem_cons.mpr ⟨y41, List.forall_mem_cons.mpr ⟨y42, List.forall_mem_cons.mpr ⟨y43, List.forall_mem_cons.mpr ⟨y44, List.forall_mem_cons.mpr ⟨y45, List.forall_mem_cons.mpr ⟨y50, List.forall_mem_cons.mpr ⟨y51, List.forall_mem_cons.mpr ⟨y52, List.forall_mem_cons.mpr ⟨y53, List.forall_mem_cons.mpr ⟨y54, List.forall_mem_cons.mpr ⟨y55, List.forall_mem_cons.mpr ⟨y60, List.forall_mem_cons.mpr ⟨y61, List.forall_mem_cons.mpr ⟨y62, List.forall_mem_cons.mpr ⟨y63, List.forall_mem_cons.mpr ⟨y64, List.forall_mem_cons.mpr ⟨y65, List.forall_mem_cons.mpr ⟨y70, List.forall_mem_cons.mpr ⟨y71, List.forall_mem_cons.mpr ⟨y72, List.forall_mem_cons.mpr ⟨y73, List.forall_mem_cons.mpr ⟨y74, List.forall_mem_cons.mpr ⟨y75, List.forall_mem_cons.mpr ⟨y76, List.forall_mem_cons.mpr ⟨y80, List.forall_mem_cons.mpr ⟨y81, List.forall_mem_cons.mpr ⟨y82, List.forall_mem_cons.mpr ⟨y83, List.forall_mem_cons.mpr ⟨y84, List.forall_mem_cons.mpr ⟨y85, List.forall_mem_cons.mpr ⟨y86, fun _ h => absurd h List.not_mem_nil⟩⟩⟩⟩⟩⟩⟩⟩⟩⟩⟩⟩⟩⟩⟩⟩⟩⟩⟩⟩⟩⟩⟩⟩⟩⟩⟩⟩⟩⟩⟩⟩⟩⟩⟩⟩⟩⟩⟩⟩⟩⟩⟩⟩⟩⟩⟩⟩
