/-! ===== the throws: their rows and words ===== -/
theorem t_atw_0 : ∀ w ∈ vx_atS RX9 55 (t_xn 0) ["java/lang/RuntimeException", "java/lang/Exception"], w ∈ lw_tbl ∧ t_gw w = true := by decide +kernel
theorem t_atw_1 : ∀ w ∈ vx_atS RX9 66 (t_xn 1) ["java/lang/RuntimeException", "java/lang/Exception"], w ∈ lw_tbl ∧ t_gw w = true := by decide +kernel
theorem t_atw_2 : ∀ w ∈ vx_atS RX9 173 (t_xn 2) ["java/lang/RuntimeException", "java/lang/Exception"], w ∈ lw_tbl ∧ t_gw w = true := by decide +kernel
def t_Tok (f : Nat × Nat × Nat) : Prop := ∀ q, t_M[f.1]? = some q → ∃ (ik is ic : Nat) (text : String), f.2.2 < 3 ∧ (t_cn (tm_oc q), is, text) ∈ t_str ∧ Cond.classLink (t_cn (tm_oc q)) ik (t_xn f.2.2) ∈ lw_tbl ∧ Cond.initialized (t_xn f.2.2) ∈ lw_tbl ∧
  (∀ w ∈ vx_atS (t_cn (tm_oc q)) ic (t_xn f.2.2) ["java/lang/RuntimeException", "java/lang/Exception"], w ∈ lw_tbl ∧ t_gw w = true) ∧ decode (tm_by q) f.2.1 = .ok (.new ik, 3) ∧ decode (tm_by q) (f.2.1 + 3) = .ok (.dup, 1) ∧
  ((decode (tm_by q) (f.2.1 + 4) = .ok (.ldc is, 2) ∧ decode (tm_by q) (f.2.1 + 6) = .ok (.invokespecial ic, 3) ∧ decode (tm_by q) (f.2.1 + 9) = .ok (.athrow, 1)) ∨ (decode (tm_by q) (f.2.1 + 4) = .ok (.ldc_w is, 3) ∧ decode (tm_by q) (f.2.1 + 7) = .ok (.invokespecial ic, 3) ∧ decode (tm_by q) (f.2.1 + 10) = .ok (.athrow, 1)))
theorem tt_0 : t_Tok (62, 28, 0) := fun q h => by
  cases (ta_62).symm.trans h
  exact ⟨51, 53, 55, "a number is out of its range", by decide, List.mem_of_getElem? (i := 7) rfl, List.mem_append_right _ (List.mem_of_getElem? (i := 326) (by decide +kernel)), List.mem_append_right _ (List.mem_of_getElem? (i := 11) (by decide +kernel)), t_atw_0, by decide +kernel, by decide +kernel, Or.inl ⟨by decide +kernel, by decide +kernel, by decide +kernel⟩⟩
theorem tt_1 : t_Tok (62, 50, 1) := fun q h => by
  cases (ta_62).symm.trans h
  exact ⟨62, 64, 66, "the shelf is full, or the point is on a place or a line of others", by decide, List.mem_of_getElem? (i := 8) rfl, List.mem_append_right _ (List.mem_of_getElem? (i := 174) (by decide +kernel)), List.mem_append_right _ (List.mem_of_getElem? (i := 14) (by decide +kernel)), t_atw_1, by decide +kernel, by decide +kernel, Or.inl ⟨by decide +kernel, by decide +kernel, by decide +kernel⟩⟩
theorem tt_2 : t_Tok (68, 11, 1) := fun q h => by
  cases (ta_68).symm.trans h
  exact ⟨62, 92, 66, "there are too few points", by decide, List.mem_of_getElem? (i := 0) rfl, List.mem_append_right _ (List.mem_of_getElem? (i := 174) (by decide +kernel)), List.mem_append_right _ (List.mem_of_getElem? (i := 14) (by decide +kernel)), t_atw_1, by decide +kernel, by decide +kernel, Or.inl ⟨by decide +kernel, by decide +kernel, by decide +kernel⟩⟩
theorem tt_3 : t_Tok (71, 43, 0) := fun q h => by
  cases (ta_71).symm.trans h
  exact ⟨51, 129, 55, "two of the points are the same", by decide, List.mem_of_getElem? (i := 4) rfl, List.mem_append_right _ (List.mem_of_getElem? (i := 326) (by decide +kernel)), List.mem_append_right _ (List.mem_of_getElem? (i := 11) (by decide +kernel)), t_atw_0, by decide +kernel, by decide +kernel, Or.inl ⟨by decide +kernel, by decide +kernel, by decide +kernel⟩⟩
theorem tt_4 : t_Tok (72, 24, 0) := fun q h => by
  cases (ta_72).symm.trans h
  exact ⟨51, 142, 55, "both points are the same", by decide, List.mem_of_getElem? (i := 5) rfl, List.mem_append_right _ (List.mem_of_getElem? (i := 326) (by decide +kernel)), List.mem_append_right _ (List.mem_of_getElem? (i := 11) (by decide +kernel)), t_atw_0, by decide +kernel, by decide +kernel, Or.inl ⟨by decide +kernel, by decide +kernel, by decide +kernel⟩⟩
theorem tt_5 : t_Tok (75, 22, 2) := fun q h => by
  cases (ta_75).symm.trans h
  exact ⟨169, 171, 173, "there is no such drawing", by decide, List.mem_of_getElem? (i := 2) rfl, List.mem_append_right _ (List.mem_of_getElem? (i := 306) (by decide +kernel)), List.mem_append_right _ (List.mem_of_getElem? (i := 15) (by decide +kernel)), t_atw_2, by decide +kernel, by decide +kernel, Or.inl ⟨by decide +kernel, by decide +kernel, by decide +kernel⟩⟩
theorem tt_6 : t_Tok (76, 15, 2) := fun q h => by
  cases (ta_76).symm.trans h
  exact ⟨169, 175, 173, "there is no such point", by decide, List.mem_of_getElem? (i := 3) rfl, List.mem_append_right _ (List.mem_of_getElem? (i := 306) (by decide +kernel)), List.mem_append_right _ (List.mem_of_getElem? (i := 15) (by decide +kernel)), t_atw_2, by decide +kernel, by decide +kernel, Or.inl ⟨by decide +kernel, by decide +kernel, by decide +kernel⟩⟩
theorem tt_7 : t_Tok (77, 13, 1) := fun q h => by
  cases (ta_77).symm.trans h
  exact ⟨62, 177, 66, "there are as many drawings as there can be", by decide, List.mem_of_getElem? (i := 1) rfl, List.mem_append_right _ (List.mem_of_getElem? (i := 174) (by decide +kernel)), List.mem_append_right _ (List.mem_of_getElem? (i := 14) (by decide +kernel)), t_atw_1, by decide +kernel, by decide +kernel, Or.inl ⟨by decide +kernel, by decide +kernel, by decide +kernel⟩⟩
theorem tt_8 : t_Tok (82, 21, 1) := fun q h => by
  cases (ta_82).symm.trans h
  exact ⟨62, 179, 66, "the drawing has no numbers", by decide, List.mem_of_getElem? (i := 6) rfl, List.mem_append_right _ (List.mem_of_getElem? (i := 174) (by decide +kernel)), List.mem_append_right _ (List.mem_of_getElem? (i := 14) (by decide +kernel)), t_atw_1, by decide +kernel, by decide +kernel, Or.inl ⟨by decide +kernel, by decide +kernel, by decide +kernel⟩⟩
theorem tt_9 : t_Tok (85, 13, 2) := fun q h => by
  cases (ta_85).symm.trans h
  exact ⟨169, 192, 173, "a place is not below 0", by decide, List.mem_of_getElem? (i := 11) rfl, List.mem_append_right _ (List.mem_of_getElem? (i := 306) (by decide +kernel)), List.mem_append_right _ (List.mem_of_getElem? (i := 15) (by decide +kernel)), t_atw_2, by decide +kernel, by decide +kernel, Or.inl ⟨by decide +kernel, by decide +kernel, by decide +kernel⟩⟩
theorem tt_10 : t_Tok (87, 69, 0) := fun q h => by
  cases (ta_87).symm.trans h
  exact ⟨51, 129, 55, "two of the points are the same", by decide, List.mem_of_getElem? (i := 4) rfl, List.mem_append_right _ (List.mem_of_getElem? (i := 326) (by decide +kernel)), List.mem_append_right _ (List.mem_of_getElem? (i := 11) (by decide +kernel)), t_atw_0, by decide +kernel, by decide +kernel, Or.inl ⟨by decide +kernel, by decide +kernel, by decide +kernel⟩⟩
theorem tt_11 : t_Tok (90, 18, 0) := fun q h => by
  cases (ta_90).symm.trans h
  exact ⟨51, 232, 55, "there is no such level", by decide, List.mem_of_getElem? (i := 13) rfl, List.mem_append_right _ (List.mem_of_getElem? (i := 326) (by decide +kernel)), List.mem_append_right _ (List.mem_of_getElem? (i := 11) (by decide +kernel)), t_atw_0, by decide +kernel, by decide +kernel, Or.inl ⟨by decide +kernel, by decide +kernel, by decide +kernel⟩⟩
theorem tt_12 : t_Tok (91, 24, 0) := fun q h => by
  cases (ta_91).symm.trans h
  exact ⟨51, 238, 55, "the set has a point that there is not", by decide, List.mem_of_getElem? (i := 12) rfl, List.mem_append_right _ (List.mem_of_getElem? (i := 326) (by decide +kernel)), List.mem_append_right _ (List.mem_of_getElem? (i := 11) (by decide +kernel)), t_atw_0, by decide +kernel, by decide +kernel, Or.inl ⟨by decide +kernel, by decide +kernel, by decide +kernel⟩⟩
theorem tt_13 : t_Tok (96, 29, 1) := fun q h => by
  cases (ta_96).symm.trans h
  exact ⟨62, 273, 66, "the segment is not in a triangulation", by decide, List.mem_of_getElem? (i := 9) rfl, List.mem_append_right _ (List.mem_of_getElem? (i := 174) (by decide +kernel)), List.mem_append_right _ (List.mem_of_getElem? (i := 14) (by decide +kernel)), t_atw_1, by decide +kernel, by decide +kernel, Or.inr ⟨by decide +kernel, by decide +kernel, by decide +kernel⟩⟩
theorem tt_14 : t_Tok (96, 172, 1) := fun q h => by
  cases (ta_96).symm.trans h
  exact ⟨62, 289, 66, "the segment cannot be flipped", by decide, List.mem_of_getElem? (i := 10) rfl, List.mem_append_right _ (List.mem_of_getElem? (i := 174) (by decide +kernel)), List.mem_append_right _ (List.mem_of_getElem? (i := 14) (by decide +kernel)), t_atw_1, by decide +kernel, by decide +kernel, Or.inr ⟨by decide +kernel, by decide +kernel, by decide +kernel⟩⟩
theorem t_tok : ∀ f ∈ t_tt, t_Tok f := List.forall_mem_cons.mpr ⟨tt_0, List.forall_mem_cons.mpr ⟨tt_1, List.forall_mem_cons.mpr ⟨tt_2, List.forall_mem_cons.mpr ⟨tt_3, List.forall_mem_cons.mpr ⟨tt_4, List.forall_mem_cons.mpr ⟨tt_5, List.forall_mem_cons.mpr ⟨tt_6, List.forall_mem_cons.mpr ⟨tt_7, List.forall_mem_cons.mpr ⟨tt_8, List.forall_mem_cons.mpr ⟨tt_9, List.forall_mem_cons.mpr ⟨tt_10, List.forall_mem_cons.mpr ⟨tt_11, List.forall_mem_cons.mpr ⟨tt_12, List.forall_mem_cons.mpr ⟨tt_13, List.forall_mem_cons.mpr ⟨tt_14, fun _ h => absurd h List.not_mem_nil⟩⟩⟩⟩⟩⟩⟩⟩⟩⟩⟩⟩⟩⟩⟩
def t_Eok (f : Nat × Nat × Nat) : Prop := f.2.2 < 3 ∧ f.2.1 ≠ 0 ∧ Cond.classLink (t_cn f.1) f.2.1 (t_xn f.2.2) ∈ lw_tbl
theorem te_0 : t_Eok (9, 51, 0) := ⟨by decide, by decide, List.mem_append_right _ (List.mem_of_getElem? (i := 326) (by decide +kernel))⟩
theorem te_1 : t_Eok (9, 62, 1) := ⟨by decide, by decide, List.mem_append_right _ (List.mem_of_getElem? (i := 174) (by decide +kernel))⟩
theorem te_2 : t_Eok (9, 169, 2) := ⟨by decide, by decide, List.mem_append_right _ (List.mem_of_getElem? (i := 306) (by decide +kernel))⟩
theorem te_3 : t_Eok (13, 16, 1) := ⟨by decide, by decide, List.mem_append_right _ (List.mem_of_getElem? (i := 470) (by decide +kernel))⟩
theorem t_eok : ∀ f ∈ t_xt, t_Eok f := List.forall_mem_cons.mpr ⟨te_0, List.forall_mem_cons.mpr ⟨te_1, List.forall_mem_cons.mpr ⟨te_2, List.forall_mem_cons.mpr ⟨te_3, fun _ h => absurd h List.not_mem_nil⟩⟩⟩⟩
theorem t_cast_0 : Cond.castable (t_xn 0) (t_xn 0) ∈ lw_tbl ∧ t_gw (Cond.castable (t_xn 0) (t_xn 0)) = true := ⟨List.mem_append_right _ (List.mem_of_getElem? (i := 328) (by decide +kernel)), by decide +kernel⟩
theorem t_cast_1 : Cond.castable (t_xn 1) (t_xn 1) ∈ lw_tbl ∧ t_gw (Cond.castable (t_xn 1) (t_xn 1)) = true := ⟨List.mem_append_right _ (List.mem_of_getElem? (i := 176) (by decide +kernel)), by decide +kernel⟩
theorem t_cast_2 : Cond.castable (t_xn 2) (t_xn 2) ∈ lw_tbl ∧ t_gw (Cond.castable (t_xn 2) (t_xn 2)) = true := ⟨List.mem_append_right _ (List.mem_of_getElem? (i := 308) (by decide +kernel)), by decide +kernel⟩
theorem t_hh_ok : ∀ q ∈ t_M, ∀ z ∈ tm_hh q, ∃ E2, t_lk t_xt (tm_oc q) z.2.2.2 = some E2 := by
  intro q hq z hz
  have h : (t_M.all fun q => (tm_hh q).all fun z => (t_lk t_xt (tm_oc q) z.2.2.2).isSome) = true := by decide +kernel
  have h1 := List.all_eq_true.mp (List.all_eq_true.mp h q hq) z hz
  exact Option.isSome_iff_exists.mp h1
