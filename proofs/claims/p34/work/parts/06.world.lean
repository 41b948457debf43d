/-! ===== the small machine's things, as cells of the heap ===== -/
/-- where the things lie, the kinds, the rows' kinds, which cells may be written, the script's cell, its length, its numbers -/
abbrev tE : Type := (Nat → Nat) × va_G × (Nat → ClassId) × (Nat → Prop) × Nat × Nat × (Nat → Int32)
def t_cv (g : tE) (v : Value) : Value := match v with
  | .ref k => .ref (g.1 k)
  | v => v
def t_ce (g : tE) (h : tH) (k : Nat) : va_E := match t_ob k with
  | some ci => .inr (ci, (t_ft ci).mapIdx (fun sl ty => t_cv g (t_fv h ci sl ty k)))
  | none => match t_ar k with
    | some (1, n) => .inl (g.2.2.1 1, n, .inl (h.1 k))
    | some (2, n) => .inl (g.2.2.1 2, n, .inr (.inl (h.2.1 k)))
    | some (3, n) => .inl (g.2.2.1 3, n, .inr (.inr (.inr (.inr (fun i => some (g.1 (40 + i)))))))
    | some (_, n) => .inl (g.2.2.1 0, n, .inl (h.1 k))
    | none => .inl (g.2.2.1 0, 0, .inl (h.1 k))
def t_ids : List Nat := (List.range 87).filter (fun k => (t_ob k).isSome || (t_ar k).isSome)
/-- the row 35, while it is there -/
def t_xc (g : tE) (h : tH) : va_W := if h.1 36 0 = 1 then [(g.1 35, .inl (g.2.2.1 0, 4, .inl (h.1 35)))] else []
def th_ws (g : tE) (h : tH) : va_W := t_ids.map (fun k => (g.1 k, t_ce g h k)) ++ t_xc g h
def t_tys (g : tE) : List (ClassId × FieldType) := [(g.2.2.1 0, .int), (g.2.2.1 3, .object "TurnsHall$Drawing")]
theorem t_ob_big {k : Nat} (h : 87 ≤ k) : t_ob k = none := by
  unfold t_ob
  rw [if_neg (by omega), if_neg (by omega), if_neg (by omega), if_neg (by omega), if_neg (by omega), if_neg (by omega), if_neg (by omega)]
theorem t_ar_big {k : Nat} (h : 87 ≤ k) : t_ar k = none := by
  unfold t_ar
  rw [if_neg (by omega), if_neg (by omega), if_neg (by omega), if_neg (by omega), if_neg (by omega)]
theorem t_apart : ∀ k, k < 87 → (t_ar k).isSome = true → t_ob k = none := by decide +kernel
theorem t_ids_ob {k ci : Nat} (h : t_ob k = some ci) : k ∈ t_ids := by
  have hk : k < 87 := Nat.lt_of_not_le fun q => by rw [t_ob_big q] at h; cases h
  exact List.mem_filter.mpr ⟨List.mem_range.mpr hk, by rw [h]; rfl⟩
theorem t_ids_ar {k : Nat} {x : Nat × Nat} (h : t_ar k = some x) : k ∈ t_ids := by
  have hk : k < 87 := Nat.lt_of_not_le fun q => by rw [t_ar_big q] at h; cases h
  exact List.mem_filter.mpr ⟨List.mem_range.mpr hk, by rw [h]; simp⟩
theorem t_ar_ob {k : Nat} {x : Nat × Nat} (h : t_ar k = some x) : t_ob k = none := by
  have hk : k < 87 := Nat.lt_of_not_le fun q => by rw [t_ar_big q] at h; cases h
  exact t_apart k hk (by rw [h]; rfl)
theorem t_ids_nd : va_nd t_ids = true := by decide +kernel
theorem t_ids_33 : ∀ k, k ∈ t_ids → k ≠ 33 ∧ k ≠ 34 := by decide +kernel
theorem t_ids_35 : ∀ k, k ∈ t_ids → k ≠ 35 ∧ k ≠ 36 := by decide +kernel
theorem t_ids_lt {k : Nat} (h : k ∈ t_ids) : k < 87 := List.mem_range.mp (List.mem_filter.mp h).1
theorem t_ids_4 : ∀ k, k ∈ t_ids → t_ob k = some 4 → k = 11 := by decide +kernel
theorem t_ft_4 : ∀ ci, ci < 8 → ∀ ty ∈ t_ft ci, ty = 4 → ci = 4 := by decide +kernel
theorem th_ws_get (g : tE) (h : tH) {k : Nat} (hk : k ∈ t_ids) : ∃ q0 : Nat, t_ids[q0]? = some k ∧ (th_ws g h)[q0]? = some (g.1 k, t_ce g h k) := by
  obtain ⟨q0, hq⟩ := List.getElem?_of_mem hk
  refine ⟨q0, hq, ?_⟩
  unfold th_ws
  rw [List.getElem?_append_left (by rw [List.length_map]; exact (List.getElem?_eq_some_iff.mp hq).1), List.getElem?_map, hq]
  rfl
theorem th_ws_x (g : tE) {h : tH} (hf : h.1 36 0 = 1) : (th_ws g h)[t_ids.length]? = some (g.1 35, .inl (g.2.2.1 0, 4, .inl (h.1 35))) := by
  unfold th_ws t_xc
  rw [List.getElem?_append_right (by rw [List.length_map]; exact Nat.le_refl _), List.length_map, Nat.sub_self, if_pos hf]
  rfl
theorem th_ws_set {g : tE} {h h' : tH} {k q0 : Nat} {e : va_E} (hq : t_ids[q0]? = some k) (he : e = t_ce g h' k) (ho : ∀ j ∈ t_ids, j ≠ k → t_ce g h' j = t_ce g h j) (hx : t_xc g h' = t_xc g h) : (th_ws g h).set q0 (g.1 k, e) = th_ws g h' := by
  refine List.ext_getElem? fun i => ?_
  have hl : q0 < t_ids.length := (List.getElem?_eq_some_iff.mp hq).1
  have hl2 : q0 < (th_ws g h).length := by
    unfold th_ws
    rw [List.length_append, List.length_map]
    omega
  by_cases hi : q0 = i
  · subst hi
    rw [List.getElem?_set_self hl2]
    unfold th_ws
    rw [List.getElem?_append_left (by rw [List.length_map]; exact hl), List.getElem?_map, hq, he]
    rfl
  · rw [List.getElem?_set_ne hi]
    unfold th_ws
    by_cases h9 : i < t_ids.length
    · rw [List.getElem?_append_left (by rw [List.length_map]; exact h9), List.getElem?_append_left (by rw [List.length_map]; exact h9), List.getElem?_map, List.getElem?_map]
      cases hj : t_ids[i]? with
      | none => rfl
      | some j =>
        have hne : j ≠ k := fun z => hi (va_nd_inj t_ids t_ids_nd q0 i k hq (by rw [← z]; exact hj))
        simp only [Option.map_some]
        rw [ho j (List.mem_of_getElem? hj) hne]
    · rw [List.getElem?_append_right (by rw [List.length_map]; omega), List.getElem?_append_right (by rw [List.length_map]; omega), hx]
      rfl
theorem t_I_ne {h : tH} {k i j : Nat} {x : Int32} (hj : j ≠ k) : (t_I h k i x).1 j = h.1 j := by
  funext b
  show (if j = k ∧ b = i then x else h.1 j b) = h.1 j b
  rw [if_neg fun z => hj z.1]
theorem t_L_ne {h : tH} {k i j : Nat} {x : Int64} (hj : j ≠ k) : (t_L h k i x).2.1 j = h.2.1 j := by
  funext b
  show (if j = k ∧ b = i then x else h.2.1 j b) = h.2.1 j b
  rw [if_neg fun z => hj z.1]
theorem t_I_eq {h : tH} {k i : Nat} {x : Int32} : (t_I h k i x).1 k = upd (h.1 k) i x := by
  funext b
  show (if k = k ∧ b = i then x else h.1 k b) = if b = i then x else h.1 k b
  by_cases hb : b = i
  · rw [if_pos ⟨rfl, hb⟩, if_pos hb]
  · rw [if_neg fun z => hb z.2, if_neg hb]
theorem t_L_eq {h : tH} {k i : Nat} {x : Int64} : (t_L h k i x).2.1 k = vp_updL (h.2.1 k) i x := by
  funext b
  show (if k = k ∧ b = i then x else h.2.1 k b) = if b = i then x else h.2.1 k b
  by_cases hb : b = i
  · rw [if_pos ⟨rfl, hb⟩, if_pos hb]
  · rw [if_neg fun z => hb z.2, if_neg hb]
theorem t_fv_I {h : tH} {k i j ci sl ty : Nat} {x : Int32} (hj : j ≠ k) : t_fv (t_I h k i x) ci sl ty j = t_fv h ci sl ty j := by
  unfold t_fv
  split <;> first | rfl | (rw [t_I_ne hj])
theorem t_fv_L {h : tH} {k i j ci sl ty : Nat} {x : Int64} (hj : j ≠ k) : t_fv (t_L h k i x) ci sl ty j = t_fv h ci sl ty j := by
  unfold t_fv
  split <;> first | rfl | (rw [t_L_ne hj])
theorem t_ce_I {g : tE} {h : tH} {k i j : Nat} {x : Int32} (hj : j ≠ k) : t_ce g (t_I h k i x) j = t_ce g h j := by
  unfold t_ce
  simp only [t_fv_I hj, t_I_ne hj]
  rfl
theorem t_ce_L {g : tE} {h : tH} {k i j : Nat} {x : Int64} (hj : j ≠ k) : t_ce g (t_L h k i x) j = t_ce g h j := by
  unfold t_ce
  simp only [t_fv_L hj, t_L_ne hj]
  rfl
theorem t_xc_I {g : tE} {h : tH} {k i : Nat} {x : Int32} (hk : k ∈ t_ids) : t_xc g (t_I h k i x) = t_xc g h := by
  have h1 := t_ids_35 k hk
  unfold t_xc
  rw [t_I_ne (show (36 : Nat) ≠ k by omega), t_I_ne (show (35 : Nat) ≠ k by omega)]
theorem t_ce_i {g : tE} {h : tH} {k : Nat} (hk : k ∈ t_ids) {h' : tH} (e : ∀ j, j ≠ 35 → j ≠ 36 → h'.1 j = h.1 j) (e2 : h'.2.1 = h.2.1) : t_ce g h' k = t_ce g h k := by
  have h1 := t_ids_35 k hk
  have h2 := e k h1.1 h1.2
  unfold t_ce
  have hf : ∀ ci sl ty, t_fv h' ci sl ty k = t_fv h ci sl ty k := fun ci sl ty => by
    unfold t_fv
    rw [h2, e2]
  simp only [hf, h2, e2]
/-- the row 35 is written -/
theorem th_ws_xs {g : tE} {h : tH} (hf : h.1 36 0 = 1) {i : Nat} {x : Int32} : (th_ws g h).set t_ids.length (g.1 35, .inl (g.2.2.1 0, 4, .inl (upd (h.1 35) i x))) = th_ws g (t_I h 35 i x) := by
  unfold th_ws t_xc
  rw [t_I_ne (show (36 : Nat) ≠ 35 by omega), if_pos hf, if_pos hf, List.set_append_right _ _ (by rw [List.length_map]; exact Nat.le_refl _), List.length_map, Nat.sub_self, t_I_eq]
  refine congrArg (· ++ _) (List.map_congr_left fun k hk => ?_)
  have h1 := t_ids_35 k hk
  rw [t_ce_I (by omega)]
/-- an object's cell, when one slot of it is written -/
theorem t_ce_set {g : tE} {h h' : tH} {k ci sl : Nat} {v : Value} (ho : t_ob k = some ci) (hs : ∀ ty, (t_ft ci)[sl]? = some ty → v = t_cv g (t_fv h' ci sl ty k)) (hr : ∀ i ty, i ≠ sl → (t_ft ci)[i]? = some ty → t_fv h' ci i ty k = t_fv h ci i ty k) :
    (.inr (ci, ((t_ft ci).mapIdx (fun sl ty => t_cv g (t_fv h ci sl ty k))).set sl v) : va_E) = t_ce g h' k := by
  unfold t_ce
  rw [ho]
  dsimp only
  refine congrArg (fun l => (Sum.inr (ci, l) : va_E)) ?_
  refine List.ext_getElem? fun i => ?_
  rw [List.getElem?_mapIdx]
  by_cases hi : sl = i
  · subst hi
    cases ht : (t_ft ci)[sl]? with
    | none =>
      have hl : ((t_ft ci).mapIdx (fun sl ty => t_cv g (t_fv h ci sl ty k))).length ≤ sl := by
        rw [List.length_mapIdx]
        exact List.getElem?_eq_none_iff.mp ht
      rw [List.getElem?_eq_none_iff.mpr (by rw [List.length_set]; exact hl)]
      rfl
    | some ty =>
      have hl : sl < ((t_ft ci).mapIdx (fun sl ty => t_cv g (t_fv h ci sl ty k))).length := by
        rw [List.length_mapIdx]
        exact (List.getElem?_eq_some_iff.mp ht).1
      rw [List.getElem?_set_self hl, Option.map_some, hs ty ht]
  · rw [List.getElem?_set_ne hi, List.getElem?_mapIdx]
    cases ht : (t_ft ci)[i]? with
    | none => rfl
    | some ty => rw [Option.map_some, Option.map_some, hr i ty (fun z => hi z.symm) ht]
/-! the cells of a frame -/
def th_set (v : Value) : Bool := match v with
  | .float _ => false
  | _ => true
def t_lr (g : tE) (ls : List Value) (lsA : Array Slot) (nL : Nat) : Prop := lsA.size = nL ∧ ls.length = nL ∧ lv_wf lsA ∧ ∀ (i : Nat) (v : Value), ls[i]? = some v → th_set v = true → lsA[i]? = some (.val (t_cv g v))
theorem t_lr_at {g : tE} {ls : List Value} {lsA : Array Slot} {nL i : Nat} {v : Value} (hl : t_lr g ls lsA nL) (h : ls[i]? = some v) (hs : th_set v = true) : lsA[i]? = some (.val (t_cv g v)) := hl.2.2.2 i v h hs
def t_ll (g : tE) (ls : List Value) : List (Nat × Value) := (List.range ls.length).filterMap (fun i => match ls[i]? with
  | some v => if th_set v = true then some (i, t_cv g v) else none
  | none => none)
theorem t_ll_in {g : tE} {ls : List Value} {i : Nat} {v : Value} (h : ls[i]? = some v) (hs : th_set v = true) : (i, t_cv g v) ∈ t_ll g ls :=
  List.mem_filterMap.mpr ⟨i, List.mem_range.mpr (List.getElem?_eq_some_iff.mp h).1, by rw [h]; simp only [hs, if_true]⟩
theorem t_ll_of {g : tE} {ls : List Value} {q : Nat × Value} (h : q ∈ t_ll g ls) : ∃ v, ls[q.1]? = some v ∧ th_set v = true ∧ q.2 = t_cv g v := by
  obtain ⟨i, -, h2⟩ := List.mem_filterMap.mp h
  cases hv : ls[i]? with
  | none => rw [hv] at h2; cases h2
  | some v =>
    rw [hv] at h2
    dsimp only at h2
    split at h2
    · next hs => cases h2; exact ⟨v, hv, hs, rfl⟩
    · cases h2
theorem t_lr_has {g : tE} {ls : List Value} {lsA : Array Slot} {nL : Nat} (hl : t_lr g ls lsA nL) : lv_has lsA nL (t_ll g ls) := by
  refine ⟨hl.1, hl.2.2.1, fun q hq => ?_⟩
  obtain ⟨v, h1, h2, h3⟩ := t_ll_of hq
  rw [h3]
  exact hl.2.2.2 _ _ h1 h2
theorem t_cv_cat (g : tE) (v : Value) : (t_cv g v).category = v.category := by cases v <;> rfl
theorem t_nl_cat {ls : List Value} {i j : Nat} {v : Value} (hn : t_nl ls i = true) (hj : j + 1 = i) (h : ls[j]? = some v) : ¬ v.category = 2 := by
  subst hj
  unfold t_nl at hn
  dsimp only at hn
  rw [h] at hn
  simpa using hn
theorem t_lr_st1 {g : tE} {ls : List Value} {lsA' : Array Slot} {nL i : Nat} {c w : Value} (hn : t_nl ls i = true) (hlen : ls.length = nL) (hw : th_set w = true → c = t_cv g w)
    (h : lv_has lsA' nL ((i, c) :: (t_ll g ls).filter (fun q => !(q.1 == i) && !(q.1 + 1 == i && q.2.category == 2)))) : t_lr g (ls.set i w) lsA' nL := by
  refine ⟨h.1, by rw [List.length_set]; exact hlen, h.2.1, fun j v hv hs => ?_⟩
  by_cases hj : i = j
  · subst hj
    have hl : i < ls.length := by
      have := (List.getElem?_eq_some_iff.mp hv).1
      rwa [List.length_set] at this
    rw [List.getElem?_set_self hl] at hv
    cases hv
    rw [← hw hs]
    exact h.2.2 (i, c) List.mem_cons_self
  · rw [List.getElem?_set_ne hj] at hv
    refine h.2.2 (j, t_cv g v) (List.mem_cons_of_mem _ (List.mem_filter.mpr ⟨t_ll_in hv hs, ?_⟩))
    have h1 : (j == i) = false := by simp; exact fun z => hj z.symm
    simp only [h1, Bool.not_false, Bool.true_and]
    by_cases h2 : j + 1 = i
    · have h3 := t_nl_cat hn h2 hv
      simp [t_cv_cat, h3]
    · simp [h2]
theorem t_lr_st2 {g : tE} {ls : List Value} {lsA' : Array Slot} {nL i : Nat} {c w : Value} (hn : t_nl ls i = true) (hlen : ls.length = nL) (hw : th_set w = true → c = t_cv g w)
    (h : lv_has lsA' nL ((i, c) :: (t_ll g ls).filter (fun q => !(q.1 == i) && (!(q.1 == i + 1) && !(q.1 + 1 == i && q.2.category == 2))))) : t_lr g ((ls.set i w).set (i + 1) (.float 0)) lsA' nL := by
  refine ⟨h.1, by rw [List.length_set, List.length_set]; exact hlen, h.2.1, fun j v hv hs => ?_⟩
  by_cases hj1 : i + 1 = j
  · subst hj1
    by_cases hl : i + 1 < (ls.set i w).length
    · rw [List.getElem?_set_self hl] at hv
      cases hv
      cases hs
    · rw [List.getElem?_eq_none_iff.mpr (by rw [List.length_set]; omega)] at hv
      cases hv
  · rw [List.getElem?_set_ne hj1] at hv
    by_cases hj : i = j
    · subst hj
      have hl : i < ls.length := by
        have := (List.getElem?_eq_some_iff.mp hv).1
        rwa [List.length_set] at this
      rw [List.getElem?_set_self hl] at hv
      cases hv
      rw [← hw hs]
      exact h.2.2 (i, c) List.mem_cons_self
    · rw [List.getElem?_set_ne hj] at hv
      refine h.2.2 (j, t_cv g v) (List.mem_cons_of_mem _ (List.mem_filter.mpr ⟨t_ll_in hv hs, ?_⟩))
      have h1 : (j == i) = false := by simp; exact fun z => hj z.symm
      have h1' : (j == i + 1) = false := by simp; exact fun z => hj1 z.symm
      simp only [h1, h1', Bool.not_false, Bool.true_and]
      by_cases h2 : j + 1 = i
      · have h3 := t_nl_cat hn h2 hv
        simp [t_cv_cat, h3]
      · simp [h2]
/-- the cells of a frame as a method begins -/
theorem t_sl_in {g : tE} : ∀ (vs : List Value) (k i : Nat) (v : Value), (t_sl vs)[i]? = some v → th_set v = true → (k + i, t_cv g v) ∈ lv_args k (vs.map (t_cv g))
  | [], k, i, v, h, _ => by simp [t_sl] at h
  | w :: vs, k, i, v, h, hs => by
    unfold t_sl at h
    simp only [List.map_cons, lv_args, t_cv_cat]
    by_cases hc : w.category = 2
    · rw [if_pos hc] at h ⊢
      match i, h with
      | 0, h => cases h; exact List.mem_cons_self
      | 1, h => cases h; cases hs
      | i + 2, h =>
        have h2 := t_sl_in (g := g) vs (k + 2) i v h hs
        exact List.mem_cons_of_mem _ (by rw [show k + (i + 2) = k + 2 + i by omega]; exact h2)
    · rw [if_neg hc] at h ⊢
      match i, h with
      | 0, h => cases h; exact List.mem_cons_self
      | i + 1, h =>
        have h2 := t_sl_in (g := g) vs (k + 1) i v h hs
        exact List.mem_cons_of_mem _ (by rw [show k + (i + 1) = k + 1 + i by omega]; exact h2)
theorem t_sl_len (g : tE) : ∀ vs : List Value, (lg_sl (vs.map (t_cv g))).length = (t_sl vs).length
  | [] => rfl
  | w :: vs => by
    have h := t_sl_len g vs
    unfold t_sl
    unfold lg_sl at h ⊢
    rw [List.map_cons, List.flatMap_cons, List.length_append, h, t_cv_cat]
    by_cases hc : w.category = 2
    · rw [if_pos hc, if_pos hc]; simp; omega
    · rw [if_neg hc, if_neg hc]; simp; omega
theorem t_lr_entry {g : tE} {vs : List Value} {n : Nat} (hn : (t_sl vs).length ≤ n) : t_lr g (t_ini vs n) ((lg_sl (vs.map (t_cv g)) ++ List.replicate (n - (lg_sl (vs.map (t_cv g))).length) Slot.unset).toArray) n := by
  have h := lv_entry (vs.map (t_cv g)) (n := n) (by rw [t_sl_len]; exact hn)
  refine ⟨h.1, by unfold t_ini; rw [List.length_append, List.length_replicate]; omega, h.2.1, fun i v hv hs => ?_⟩
  unfold t_ini at hv
  by_cases hi : i < (t_sl vs).length
  · rw [List.getElem?_append_left hi] at hv
    have h2 := h.2.2 _ (t_sl_in (g := g) vs 0 i v hv hs)
    rwa [show (0 + i) = i by omega] at h2
  · rw [List.getElem?_append_right (by omega)] at hv
    have := List.eq_of_mem_replicate (List.mem_of_getElem? hv)
    subst this
    cases hs
