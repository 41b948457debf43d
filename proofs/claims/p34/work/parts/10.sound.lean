/-! ===== what the small machine says holds of the machine ===== -/
/-- an end with an answer: the instruction and the answer -/
def t_ri (q : tM) (ins : Instr) (v : Option Value) : Prop :=
  (∃ x, ins = .ireturn ∧ v = some (.int x) ∧ (tm_rt q = some .int ∨ (tm_rt q = some .boolean ∧ (x = 0 ∨ x = 1)))) ∨ (∃ x, ins = .lreturn ∧ v = some (.long x) ∧ tm_rt q = some .long) ∨
  (∃ w, ins = .areturn ∧ v = some w ∧ (w = .null ∨ ∃ a, w = .ref a) ∧ ∃ C, tm_rt q = some (.object C)) ∨ (ins = .return_ ∧ v = none ∧ tm_rt q = none)
/-- how a method's ends serve what comes behind -/
def t_Fin (g : tE) (q : tM) (mi : Nat) (p : Program) (l : Launch) (e : Env) (R : Room) (s : State) (m : MethodId) (args : Array Value) (below : List Frame) (meth : Method) (c : Code) (e0 : Nat) (o : tO) (h' : tH) (Qw : State → Prop) : Prop := match o with
  | .inl v => ∀ (pc1 : Nat) (ins : Instr) (H : Heap) (locs : List Loc) (lsA : Array Slot), t_Wd g h' H → va_S g.2.2.2.1 s.heap H locs → t_ri q ins v → decode (tm_by q) pc1 = .ok (ins, 1) →
      W p l e R s m args below meth c H locs (h'.2.2.2 - e0) (6 * (h'.2.2.2 - e0)) Qw (F0 m pc1 lsA (v.map (t_cv g)).toList)
  | .inr E => (∀ (pc1 : Nat) (lsA : Array Slot) (rest : List Value) (H : Heap) (locs : List Loc) (q9 : Addr) (ce : Cell), t_Wd g h' H → va_S g.2.2.2.1 s.heap H locs → H[q9]? = some ce → ce.vm = .none → s.vm.findClass (t_xn E) = some ce.cls → E < 3 → t_hd (tm_oc q) pc1 E (tm_hh q) = none →
      vx_W p l e R s m args below meth c H locs (h'.2.2.2 - e0) (6 * (h'.2.2.2 - e0)) Qw (F0 m pc1 lsA rest) q9) ∧
    (∀ (pc1 i len : Nat) (lsA : Array Slot) (H : Heap) (locs : List Loc) (h1 : tH), h' = t_X h1 → e0 ≤ h1.2.2.2 → t_Wd g h1 H → va_S g.2.2.2.1 s.heap H locs → lsA.size = tm_ml q → tm_hh q = [] → t_lk t_tt mi pc1 = some E →
      W p l e R s m args below meth c H locs (h1.2.2.2 - e0) (6 * (h1.2.2.2 - e0)) Qw (F0 m pc1 lsA []))
/-- the places may change in one method alone: that of the row which it makes -/
def t_al (mi : Nat) (g g' : tE) : Prop := g' = g ∨ (mi = t_SH ∧ g'.2 = g.2 ∧ ∀ k, k ≠ 35 → g'.1 k = g.1 k)
theorem t_al_r (mi : Nat) (g : tE) : t_al mi g g := Or.inl rfl
theorem t_al_t {mi : Nat} {g g1 g2 : tE} (a : t_al mi g g1) (b : t_al mi g1 g2) : t_al mi g g2 := by
  rcases b with rfl | ⟨b1, b2, b3⟩
  · exact a
  · rcases a with rfl | ⟨a1, a2, a3⟩
    · exact Or.inr ⟨b1, b2, b3⟩
    · exact Or.inr ⟨b1, b2.trans a2, fun k hk => (b3 k hk).trans (a3 k hk)⟩
theorem t_al_2 {mi : Nat} {g g' : tE} (a : t_al mi g g') : g'.2 = g.2 := by
  rcases a with rfl | a
  · rfl
  · exact a.2.1
theorem t_ob_56 {k c : Nat} (h : t_ob k = some c) (hc : 5 ≤ c) : 40 ≤ k := by
  unfold t_ob at h
  repeat' split at h
  all_goals first | omega | (cases h; omega) | (cases h; done)
theorem t_rv_ne {ci sl k j : Nat} (ho : t_ob k = some ci) (h : t_rv ci sl k = .ref j) : j ≠ 35 := by
  unfold t_rv at h
  split at h <;> first | (cases h; decide) | (cases h; done) | (cases h; have := t_ob_56 ho (by decide); omega)
theorem t_cv_al {g g' : tE} (h1 : ∀ k, k ≠ 35 → g'.1 k = g.1 k) {v : Value} (hv : ∀ j, v = .ref j → j ≠ 35) : t_cv g' v = t_cv g v := by
  cases v with
  | ref j => show Value.ref (g'.1 j) = .ref (g.1 j); rw [h1 j (hv j rfl)]
  | _ => rfl
/-- a world's cells at other places, the row 35 aside -/
theorem t_ce_al {g g' : tE} (h2 : g'.2 = g.2) (h1 : ∀ k, k ≠ 35 → g'.1 k = g.1 k) (h : tH) (k : Nat) : t_ce g' h k = t_ce g h k := by
  unfold t_ce
  rw [h2]
  cases ho : t_ob k with
  | some ci =>
    dsimp only
    refine congrArg (fun l => (Sum.inr (ci, l) : va_E)) (List.ext_getElem? fun i => ?_)
    rw [List.getElem?_mapIdx, List.getElem?_mapIdx]
    cases ht : (t_ft ci)[i]? with
    | none => rfl
    | some ty =>
      rw [Option.map_some, Option.map_some]
      refine congrArg some (t_cv_al h1 fun j hj => ?_)
      unfold t_fv at hj
      split at hj <;> first | (cases hj; done) | exact t_rv_ne ho hj
  | none =>
    dsimp only
    have hq : (fun i : Nat => some (g'.1 (40 + i))) = fun i : Nat => some (g.1 (40 + i)) := funext fun i => by rw [h1 _ (by omega)]
    rw [hq]
/-- the row is left behind -/
theorem t_Wd_dr {mi : Nat} {g g' : tE} (a : t_al mi g g') {h : tH} {H : Heap} (hW : t_Wd g' h H) : t_Wd g (t_dr h) H := by
  have h2 := t_al_2 a
  have h1 : ∀ k, k ≠ 35 → g'.1 k = g.1 k := by
    rcases a with rfl | a
    · exact fun _ _ => rfl
    · exact a.2.2
  obtain ⟨w1, w2, w3, -⟩ := hW
  rw [h2] at w1 w2 w3
  refine ⟨fun q x hx => w1 q x ?_, w2, w3, fun hf => absurd (show (0 : Int32) = 1 from hf) (by decide)⟩
  unfold th_ws at hx ⊢
  have hn : t_xc g (t_dr h) = [] := if_neg (show ¬ (0 : Int32) = 1 by decide)
  rw [hn, List.append_nil, List.getElem?_map] at hx
  cases hk : t_ids[q]? with
  | none => rw [hk] at hx; cases hx
  | some k =>
    rw [hk] at hx
    have hi := t_ids_35 k (List.mem_of_getElem? hk)
    rw [List.getElem?_append_left (by rw [List.length_map]; exact (List.getElem?_eq_some_iff.mp hk).1), List.getElem?_map, hk, Option.map_some, t_ce_al h2 h1, h1 k hi.1, ← hx, Option.map_some]
    have := t_ce_i (g := g) (h := h) (h' := t_dr h) (List.mem_of_getElem? hk) (fun j _ j2 => by funext b; exact if_neg fun z => j2 z.1) rfl
    rw [this]
theorem t_Wd_dc {mi : Nat} {g g' : tE} (a : t_al mi g g') {h : tH} {H : Heap} (hW : t_Wd g' h H) : t_Wd g (t_dc mi h) H := by
  by_cases hm : mi = t_SH
  · rw [show t_dc mi h = t_dr h from if_pos hm]
    exact t_Wd_dr a hW
  · rw [show t_dc mi h = h from if_neg hm]
    rcases a with rfl | a
    · exact hW
    · exact absurd a.1 hm
theorem t_dc_n (mi : Nat) (h : tH) : (t_dc mi h).2.2.2 = h.2.2.2 := by
  unfold t_dc
  split <;> rfl
def t_Sem (l : Launch) (g : tE) : tR := fun d mi pc ls st h o h' => h.2.2.2 ≤ h'.2.2.2 ∧ ∀ (q : tM) (p : Program) (e : Env) (R : Room) (s : State) (m : MethodId) (args : Array Value) (below : List Frame) (meth : Method) (c : Code) (e0 : Nat) (Qw : State → Prop),
  t_M[mi]? = some q → t_Cx g q p s m meth c → d + 10 ≤ R.frames → 40 * d + 200 ≤ R.locals → e0 ≤ h.2.2.2 → h'.2.2.2 - e0 ≤ R.cells → 6 * (h'.2.2.2 - e0) ≤ R.slots → (∀ g', t_al mi g g' → t_Fin g' q mi p l e R s m args below meth c e0 o h' Qw) →
  ∀ (H : Heap) (locs : List Loc) (lsA : Array Slot), t_Wd g h H → va_S g.2.2.2.1 s.heap H locs → t_lr g ls lsA (tm_ml q) → W p l e R s m args below meth c H locs (h.2.2.2 - e0) (6 * (h.2.2.2 - e0)) Qw (F0 m pc lsA (st.map (t_cv g)))
def th_Pc (g : tE) (as : List Value) (h : tH) : Array Value → State → Prop := fun a U => a = (as.map (t_cv g)).toArray ∧ t_En g U U.heap ∧ t_Wd g h U.heap ∧ t_Gd g ∧ ∀ x : Nat, U.heap.size ≤ x → g.2.2.2.1 x
def th_Qc (g : tE) (o1 : tO) (h1 : tH) : Array Value → State → Outcome → State → Prop := fun _ st o t => (∃ v, o1 = .inl v ∧ o = .returned (v.map (t_cv g)) ∧ t_Wd g h1 t.heap) ∧ va_F g.2.2.2.1 st t
def th_XC (g : tE) (o1 : tO) (h1 : tH) : String → State → State → Prop := fun E st t => (∃ n, o1 = .inr n ∧ n < 3 ∧ E = t_xn n ∧ t_Wd g h1 t.heap) ∧ va_F g.2.2.2.1 st t
def t_rm (d k : Nat) : Room := { frames := d + 10, cells := k, slots := 6 * k, locals := 40 * d + 200 }
theorem th_Pc_blind (g : tE) (as : List Value) (h : tH) : FrameBlind (th_Pc g as h) := by
  intro a U gf mk hh
  obtain ⟨h1, h2, h3, h4, h5⟩ := hh
  exact ⟨h1, t_En.moved (U := U.calling gf mk a) h2 h4 (State.WarmedH.refl U) (fun _ _ _ => rfl), h3, h4, h5⟩
theorem t_hd_none {oc pc E : Nat} : ∀ (hh : List (Nat × Nat × Nat × Nat)), t_hd oc pc E hh = none → ∀ z ∈ hh, ¬ (z.1 ≤ pc ∧ pc < z.2.1 ∧ t_lk t_xt oc z.2.2.2 = some E)
  | [], _, z, hz => by cases hz
  | (a, b, hp, ct) :: l, h, z, hz => by
    unfold t_hd at h
    split at h
    · cases h
    · next hc =>
      rcases List.mem_cons.mp hz with rfl | hz
      · exact hc
      · exact t_hd_none l h z hz
theorem t_hd_some {oc pc E hp : Nat} : ∀ (hh : List (Nat × Nat × Nat × Nat)), t_hd oc pc E hh = some hp → ∃ pre x suf, hh = pre ++ x :: suf ∧ x.2.2.1 = hp ∧ (x.1 ≤ pc ∧ pc < x.2.1 ∧ t_lk t_xt oc x.2.2.2 = some E) ∧ ∀ z ∈ pre, ¬ (z.1 ≤ pc ∧ pc < z.2.1 ∧ t_lk t_xt oc z.2.2.2 = some E)
  | [], h => by cases h
  | (a, b, hp', ct) :: l, h => by
    unfold t_hd at h
    split at h
    · next hc => cases h; exact ⟨[], _, l, rfl, rfl, hc, fun z hz => by cases hz⟩
    · next hc =>
      obtain ⟨pre, x, suf, h1, h2, h3, h4⟩ := t_hd_some l h
      refine ⟨(a, b, hp', ct) :: pre, x, suf, by rw [h1]; rfl, h2, h3, fun z hz => ?_⟩
      rcases List.mem_cons.mp hz with rfl | hz
      · exact hc
      · exact h4 z hz
theorem t_hh_1 : ∀ q ∈ t_M, ∀ z ∈ tm_hh q, t_lk t_xt (tm_oc q) z.2.2.2 = some 1 := by
  intro q hq z hz
  have h : (t_M.all fun q => (tm_hh q).all fun z => decide (t_lk t_xt (tm_oc q) z.2.2.2 = some 1)) = true := by decide +kernel
  have h1 := List.all_eq_true.mp (List.all_eq_true.mp h q hq) z hz
  exact of_decide_eq_true h1
/-- a row of the table that doesn't take it -/
theorem t_pass {g : tE} {q : tM} {p : Program} {s : State} {m : MethodId} {args : Array Value} {meth : Method} {c : Code} (C : t_Cx g q p s m meth c) {mi : Nat} (hq : t_M[mi]? = some q) {pc E : Nat} (hE : E < 3) {z : Nat × Nat × Nat × Nat} (hz : z ∈ tm_hh q)
    (hn : ¬ (z.1 ≤ pc ∧ pc < z.2.1 ∧ t_lk t_xt (tm_oc q) z.2.2.2 = some E)) : covers ⟨z.1, z.2.1, z.2.2.1, z.2.2.2⟩ pc = false ∨ ((⟨z.1, z.2.1, z.2.2.1, z.2.2.2⟩ : ExceptionTableEntry).catchType ≠ 0 ∧ ∃ nm : String, (Cond.classLink (t_cn (tm_oc q)) (⟨z.1, z.2.1, z.2.2.1, z.2.2.2⟩ : ExceptionTableEntry).catchType nm).before args s = true ∧ va_Nc (t_xn E) nm s) := by
  obtain ⟨hx, hb, hml, hown, hlocks, hrt, htab, hEn, hG, hA⟩ := C
  by_cases hc : z.1 ≤ pc ∧ pc < z.2.1
  · have h2 := t_hh_1 q (List.mem_of_getElem? hq) z hz
    obtain ⟨e1, e2, e3⟩ := t_eok _ (t_lk_mem _ _ _ _ h2)
    refine Or.inr ⟨e2, t_xn 1, hEn.word e3 rfl, hEn.2.2.2.2.2.2.1 E 1 hE rfl (fun z9 => hn ⟨hc.1, hc.2, ?_⟩)⟩
    rw [z9]; exact h2
  · refine Or.inl ?_
    cases hcv : covers ⟨z.1, z.2.1, z.2.2.1, z.2.2.2⟩ pc with
    | false => rfl
    | true =>
      refine absurd ?_ hc
      simpa [covers] using hcv
/-- a method's ends, out of its contract's end -/
theorem t_fin {g : tE} {l : Launch} (hl : l.stackTraces = false) {q : tM} {mi : Nat} (hq : t_M[mi]? = some q) {p : Program} {e : Env} {R : Room} {s : State} {m : MethodId} {args : Array Value} {below : List Frame} {meth : Method} {c : Code} (C : t_Cx g q p s m meth c) {e0 : Nat} {o : tO} {h' : tH} (hso : mi = t_SH → ∃ x, o = .inl (some (.int x))) {g' : tE} (hal : t_al mi g g')
    (hR1 : 10 ≤ R.frames) (hR2 : 200 ≤ R.locals) (hR3 : h'.2.2.2 - e0 ≤ R.cells) (hR4 : 6 * (h'.2.2.2 - e0) ≤ R.slots) :
    t_Fin g' q mi p l e R s m args below meth c e0 o h' (vx_MQ below (th_Qc g o (t_dc mi h')) (th_XC g o (t_dc mi h')) args s (h'.2.2.2 - e0) (6 * (h'.2.2.2 - e0)) g.2.2.2.1) := by
  have C0 := C
  obtain ⟨hx, hb, hml, hown, hlocks, hrt, htab, hEn, hG, hA⟩ := C
  unfold t_Fin
  cases o with
  | inl v =>
    dsimp only
    intro pc1 ins H locs lsA hW hS hri hd
    have hW := t_Wd_dc hal hW
    have hA9 : g'.2.2.2.1 = g.2.2.2.1 := by rw [t_al_2 hal]
    rw [hA9] at hS
    refine vx_ret ?_
    rcases hri with ⟨x, rfl, rfl, hr⟩ | ⟨x, rfl, rfl, hr⟩ | ⟨w, rfl, rfl, hw, C9, hr⟩ | ⟨rfl, rfl, hr⟩
    · rcases hr with hr | ⟨hr, hx01⟩
      · exact W.iret (v := x) hx hb (hrt.trans hr) (fun t ht _ => ⟨⟨_, rfl, rfl, by rw [ht]; exact hW⟩, hS.F ht⟩) hS.2.2 hd hlocks
      · exact W.zret (v := x) hx hb (hrt.trans hr) (t_nar_z hx01).2.1 (fun t ht _ => ⟨⟨_, rfl, rfl, by rw [ht]; exact hW⟩, hS.F ht⟩) hS.2.2 hd hlocks
    · exact W.lret (v := x) hx hb (hrt.trans hr) (fun t ht _ => ⟨⟨_, rfl, rfl, by rw [ht]; exact hW⟩, hS.F ht⟩) hS.2.2 hd hlocks
    · have hg9 : g' = g := by
        rcases hal with h9 | h9
        · exact h9
        · obtain ⟨x, hx9⟩ := hso h9.1
          cases hx9
          rcases hw with hw | ⟨a, hw⟩ <;> cases hw
      subst hg9
      exact W.aret (v := t_cv g' w) hx hb (hrt.trans hr) (Or.inl ⟨C9, rfl⟩) (by rcases hw with rfl | ⟨a, rfl⟩; exact Or.inl rfl; exact Or.inr ⟨_, rfl⟩) (fun t ht _ => ⟨⟨_, rfl, rfl, by rw [ht]; exact hW⟩, hS.F ht⟩) hS.2.2 hd hlocks
    · exact W.vret hx hb (hrt.trans hr) (fun t ht _ => ⟨⟨_, rfl, rfl, by rw [ht]; exact hW⟩, hS.F ht⟩) hS.2.2 hd hlocks
  | inr E =>
    dsimp only
    have hm9 : mi ≠ t_SH := fun z => by
      obtain ⟨x, hx9⟩ := hso z
      cases hx9
    have hg9 : g = g' := by
      rcases hal with h9 | h9
      · exact h9.symm
      · exact absurd h9.1 hm9
    subst hg9
    rw [show t_dc mi h' = h' from if_neg hm9]
    refine ⟨fun pc1 lsA rest H locs q9 ce hW hS hce hv hcl hE hn => ?_, fun pc1 i len lsA H locs h1 e1 he0 hW hS hsz hh htt => ?_⟩
    · refine vx_outP hown hlocks (fun z hz => ?_) hce hv hcl (fun t ht _ => ⟨⟨E, rfl, hE, rfl, by rw [ht]; exact hW⟩, hS.F ht⟩) hS.2.2 (Nat.le_refl _) (Nat.le_refl _)
      rw [htab] at hz
      unfold tableOf at hz
      obtain ⟨y, hy, rfl⟩ := List.mem_map.mp hz
      exact t_pass C0 hq hE hy (t_hd_none _ hn y hy)
    · obtain ⟨ik, is, ic, text, hE3, hst, hk, hini, hat, d0, d3, hds⟩ := t_tok _ (t_lk_mem _ _ _ _ htt) q hq
      dsimp only at hE3 hst hk hini hat d0 d3 hds
      obtain ⟨sa, hsa⟩ := hEn.2.2.1 _ hst
      have hno : ∀ z ∈ c.exceptionTable.toList, False := fun z hz => by rw [htab, hh] at hz; cases hz
      have hfit : Bundle.fit (t_xn E) = true := by
        match E, hE3 with
        | 0, _ => decide +kernel
        | 1, _ => decide +kernel
        | 2, _ => decide +kernel
      have hfn : ∀ n ∈ ["java/lang/RuntimeException", "java/lang/Exception"], Bundle.fit n = true := by decide +kernel
      have hot : ∀ {w : Cond}, t_gw w = true → vx_ot w = true := fun hg => by unfold vx_ot; rw [t_gw_on hg]; rfl
      have hgood : ∀ w ∈ Cond.classLink (t_cn (tm_oc q)) ik (t_xn E) :: Cond.initialized (t_xn E) :: vx_atS (t_cn (tm_oc q)) ic (t_xn E) ["java/lang/RuntimeException", "java/lang/Exception"], vx_ot w = true := by
        intro w hw
        rcases List.mem_cons.mp hw with rfl | hw
        · rfl
        · rcases List.mem_cons.mp hw with rfl | hw
          · rfl
          · exact hot (hat w hw).2
      have hcs : h1.2.2.2 - e0 + 1 = h'.2.2.2 - e0 := by rw [e1]; show _ = h1.2.2.2 + 1 - e0; omega
      have hXC : ∀ t : State, s.vm.Alike t.vm → H.size ≤ t.heap.size → (∀ q : Nat, q < H.size → t.heap[q]? = H[q]?) → th_XC g (.inr E) h' (t_xn E) s t := by
        intro t _ hz hk9
        refine ⟨⟨E, rfl, hE3, rfl, ?_⟩, ⟨Nat.le_trans hS.1 hz, fun x h1 h2 => by rw [hk9 x (Nat.lt_of_lt_of_le h1 hS.1)]; exact hS.2.1 x h1 h2⟩⟩
        subst e1
        exact ⟨hW.1.kept (fun k9 q9 hq9 => hk9 _ (hW.1 k9 q9 hq9).lt), hW.2.1, hW.2.2⟩
      rcases hds with ⟨d4, d6, d9⟩ | ⟨d4, d7, d10⟩
      · exact vx_throwS hx hb hl hown hfit hfn (hEn.word hk rfl) (hEn.word hini rfl) hsa (fun w hw => hEn.word (hat w hw).1 (hat w hw).2) hgood hEn.2.2.2.1 hEn.2.2.2.2.1 hS (hsz.trans hml.symm) d0 d3 d4 d6 d9 (fun z hz => (hno z hz).elim)
          (by show 2 + 3 < _; omega) (by show 0 + (13 * (2 + 1) + 43) ≤ _; omega) (by omega) (by omega) hlocks hXC hS.2.2 (by omega) (by omega)
      · exact vx_throwSW hx hb hl hown hfit hfn (hEn.word hk rfl) (hEn.word hini rfl) hsa (fun w hw => hEn.word (hat w hw).1 (hat w hw).2) hgood hEn.2.2.2.1 hEn.2.2.2.2.1 hS (hsz.trans hml.symm) d0 d3 d4 d7 d10 (fun z hz => (hno z hz).elim)
          (by show 2 + 3 < _; omega) (by show 0 + (13 * (2 + 1) + 43) ≤ _; omega) (by omega) (by omega) hlocks hXC hS.2.2 (by omega) (by omega)
/-- the words of a method's own: its code -/
def t_wsm (q : tM) : List Cond := [match tm_hh q with
  | [] => Cond.code (tm_y q) (tm_by q) (tm_ml q) (tm_rt q)
  | z :: l => Cond.codeWith (tm_y q) (tm_by q) (tm_ml q) (tm_rt q) (z :: l)]
/-- a method's contract, out of what the small machine says of its run -/
theorem t_met {l : Launch} (hl : l.stackTraces = false) {g : tE} {ci : Nat} {qc : tM} (hq : t_M[ci]? = some qc) (hci : ci < 114) {as : List Value} {h : tH} {o1 : tO} {h1 : tH} (has : (t_sl as).length ≤ tm_ml qc)
    (hS : t_Sem l g (t_lev qc as) ci 0 (t_ini as (tm_ml qc)) [] h o1 h1) (hso : ci = t_SH → ∃ x, o1 = .inl (some (.int x))) :
    vx_Met l (tm_y qc) (t_wsm qc) (t_rm (t_lev qc as) (h1.2.2.2 - h.2.2.2)) (th_Pc g as h) (th_Qc g o1 (t_dc ci h1)) (th_XC g o1 (t_dc ci h1)) (h1.2.2.2 - h.2.2.2) (6 * (h1.2.2.2 - h.2.2.2)) g.2.2.2.1 := by
  obtain ⟨k1, k2, k3, k4, k5, k6, k7, k8, k9, k10, k11⟩ := t_mok hq hci
  have body : ∀ p e s m args below meth c s₁, BodyLoose p l (tm_y qc) (headSpec (t_wsm qc) (t_rm (t_lev qc as) (h1.2.2.2 - h.2.2.2))) (tm_by qc) (tm_ml qc) (tm_rt qc) e s m args below meth c s₁ → c.maxLocals = tm_ml qc → c.exceptionTable.toList = tableOf (tm_hh qc) → th_Pc g as h args s →
      W p l e (t_rm (t_lev qc as) (h1.2.2.2 - h.2.2.2)) s m args below meth c s.heap [] 0 0 (vx_MQ below (th_Qc g o1 (t_dc ci h1)) (th_XC g o1 (t_dc ci h1)) args s (h1.2.2.2 - h.2.2.2) (6 * (h1.2.2.2 - h.2.2.2)) g.2.2.2.1) (entryFrame m args (tm_ml qc)) := by
    intro p e s m args below meth c s₁ B hml htab hv
    obtain ⟨rfl, hEn, hWd, hG, hA⟩ := hv
    have C : t_Cx g qc p s m meth c := ⟨B.exec, B.bytes, hml, by rw [← k7]; exact findClass_of_methodNamed B.named, B.notSynchronized, B.returns, htab, hEn, hG, hA⟩
    have hF := fun g' hal => t_fin (g' := g') (R := t_rm (t_lev qc as) (h1.2.2.2 - h.2.2.2)) (e := e) (args := (as.map (t_cv g)).toArray) (below := below) (o := o1) hl hq C (e0 := h.2.2.2) (h' := h1) hso hal (by show 10 ≤ _ + 10; omega) (by show 200 ≤ _ + 200; omega) (Nat.le_refl _) (Nat.le_refl _)
    have hW := hS.2 qc p e (t_rm (t_lev qc as) (h1.2.2.2 - h.2.2.2)) s m (as.map (t_cv g)).toArray below meth c h.2.2.2 _ hq C (Nat.le_refl _) (Nat.le_refl _) (Nat.le_refl _) (Nat.le_refl _) (Nat.le_refl _) hF s.heap [] _ hWd va_S.rf (t_lr_entry has)
    rw [Nat.sub_self] at hW
    rw [lg_entry_eq]
    exact hW
  cases hh : tm_hh qc with
  | nil =>
    have hws : t_wsm qc = Cond.code (tm_y qc) (tm_by qc) (tm_ml qc) (tm_rt qc) :: [] := by unfold t_wsm; rw [hh]
    refine vx_ofW k5 hws ?_
    intro p e s m args below meth c s₁ B hml hno hv
    refine body p e s m args below meth c s₁ B hml ?_ hv
    rw [hh]
    cases hl9 : c.exceptionTable.toList with
    | nil => rfl
    | cons a b => exact (hno a (by rw [hl9]; exact List.mem_cons_self)).elim
  | cons z zs =>
    have hws : t_wsm qc = Cond.codeWith (tm_y qc) (tm_by qc) (tm_ml qc) (tm_rt qc) (tm_hh qc) :: [] := by unfold t_wsm; rw [hh]
    refine vx_ofWH k5 hws ?_
    intro p e s m args below meth c s₁ B hml hv
    refine body p e s m args below meth c s₁ B hml ?_ hv
    exact vx_table (x := tm_y qc) B (atoms_spec (ws := t_wsm qc) B.pre _ (by rw [hws]; exact List.mem_cons_self))
theorem t_catsum (g : tE) (st : List Value) : ((st.map (t_cv g)).map fun v => v.category).sum = (st.map Value.category).sum := by rw [List.map_map]; exact congrArg List.sum (List.map_congr_left fun v _ => t_cv_cat g v)
/-- a call, run -/
theorem t_run {l : Launch} (hl : l.stackTraces = false) {g : tE} {q : tM} {p : Program} {e : Env} {R : Room} {s : State} {m : MethodId} {args : Array Value} {below : List Frame} {meth : Method} {c : Code} (C : t_Cx g q p s m meth c) {ci i d pc : Nat} {qc : tM} {ins : Instr} {stat : Bool}
    (hd : decode (tm_by q) pc = .ok (ins, 3)) (hi : (ins = .invokevirtual i ∧ stat = false) ∨ (ins = .invokestatic i ∧ stat = true)) (hct : t_lk t_ct (tm_oc q) i = some ci) (hqc : t_M[ci]? = some qc) (hst : tm_st qc = stat) {as rest : List Value} (hna : as.length = tm_na qc) (hw : (rest.map Value.category).sum ≤ 8)
    (hrc : stat = false → ∃ k, as.head? = some (.ref k) ∧ ∃ cj, t_ob k = some cj ∧ t_oci (tm_oc qc) = some cj) (has : (t_sl as).length ≤ tm_ml qc) (hlev : t_lev qc as < d) (hR1 : d + 10 ≤ R.frames) (hR2 : 40 * d + 200 ≤ R.locals) {h : tH} {o1 : tO} {h1 : tH}
    (hS : t_Sem l g (t_lev qc as) ci 0 (t_ini as (tm_ml qc)) [] h o1 h1) (hso : ci = t_SH → ∃ x, o1 = .inl (some (.int x))) {H : Heap} {locs : List Loc} {lsA : Array Slot} (hWd : t_Wd g h H) (hSS : va_S g.2.2.2.1 s.heap H locs) (hsz : lsA.size = tm_ml q) {cells slots : Nat} (hc : cells + (h1.2.2.2 - h.2.2.2) ≤ R.cells) (hs : slots + 6 * (h1.2.2.2 - h.2.2.2) ≤ R.slots) :
    vx_Run p l e R s m args below meth c H locs cells slots (h1.2.2.2 - h.2.2.2) (6 * (h1.2.2.2 - h.2.2.2)) (F0 m pc lsA ((as.reverse ++ rest).map (t_cv g))) (rest.map (t_cv g)) (th_Qc g o1 (t_dc ci h1) (as.map (t_cv g)).toArray) (th_XC g o1 (t_dc ci h1)) g.2.2.2.1 := by
  have hlt : ci < 114 := (t_lok _ (t_lk_mem _ _ _ _ hct)).1
  have hlk := (t_lok _ (t_lk_mem _ _ _ _ hct)).2 qc hqc
  dsimp only at hlk
  have hM := t_met hl hqc hlt has hS hso
  obtain ⟨k1, k2, k3, k4, k5, k6, k7, k8, k9, k10, k11⟩ := t_mok hqc hlt
  obtain ⟨hx, hb, hml, hown, hlocks, hrt, htab, hEn, hG, hA⟩ := C
  have hPc : ∀ U : State, U.heap = H → s.WarmedH U.vm → th_Pc g as h (as.map (t_cv g)).toArray U := fun U hU hWm => ⟨rfl, by rw [hU]; exact hEn.moved hG hWm (fun x h1 h2 => hSS.2.1 x h1 h2), by rw [hU]; exact hWd, hG, fun x hx9 => hA x (Nat.le_trans (by rw [hU]; exact hSS.1) hx9)⟩
  have hfr : (t_rm (t_lev qc as) (h1.2.2.2 - h.2.2.2)).frames + 1 ≤ R.frames := by show _ + 10 + 1 ≤ _; omega
  have hlo : 8 + (tm_ml qc + 11) + (t_rm (t_lev qc as) (h1.2.2.2 - h.2.2.2)).locals ≤ R.locals := by show _ + (40 * _ + 200) ≤ _; omega
  have hF : CallFix p m c (tm_by q) (tm_ml q) s args [] (t_cn (tm_oc q)) := ⟨hx, hb, hml, hown, fun w hw => by cases hw⟩
  have hroom : 2 * (F0 m pc lsA ((as.reverse ++ rest).map (t_cv g))).monitorRoom + ((rest.map (t_cv g)).map fun v => v.category).sum ≤ 8 := lv_room (by rw [t_catsum]; exact hw)
  by_cases hh : tm_hh qc = []
  · have hcode := k1 hh
    have hws : t_wsm qc = Cond.code (tm_y qc) (tm_by qc) (tm_ml qc) (tm_rt qc) :: [] := by unfold t_wsm; rw [hh]
    have hwsw : ∀ w ∈ t_wsm qc, ∀ (a' : Array Value) (U : State), s.WarmedH U.vm → w.before a' U = true := by
      intro w hw9 a' U hWm
      rw [hws] at hw9
      rcases List.mem_cons.mp hw9 with rfl | hw9
      · exact word_at hWm (Or.inl rfl) (hEn.word (args := args) hcode rfl)
      · cases hw9
    have hpar : ∀ sig, parseMethodDescriptor (tm_y qc).desc = some sig → as.length - (if tm_st qc = true then 0 else 1) = sig.parameters.length := by
      intro sig hsig
      rw [hsig, Option.map_some] at k6
      have := Option.some.inj k6
      omega
    cases stat with
    | false =>
      obtain ⟨rfl, -⟩ := hi.resolve_right (fun z => by cases z.2)
      obtain ⟨k, hk1, cj, hob, hoj⟩ := hrc rfl
      obtain ⟨Tn, Nn, hcl⟩ := k8 cj hoj
      obtain ⟨hinst, hsel⟩ := k9 hst
      obtain ⟨as', rfl⟩ : ∃ as', as = .ref k :: as' := by
        cases as with
        | nil => cases hk1
        | cons a l => cases hk1; exact ⟨l, rfl⟩
      obtain ⟨q0, hq0, hw0⟩ := th_ws_get g h (t_ids_ob hob)
      rw [t_ce_o hob] at hw0
      have hrecv := va_recv hEn.1 hWd.1 hcl hw0
      have hp : PreV s H (tm_y qc).cls (g.1 k) (th_Pc g (.ref k :: as') h) (as'.map (t_cv g)) := ⟨th_Pc_blind _ _ _, hrecv, hPc⟩
      have hpar' : ∀ sig, parseMethodDescriptor (tm_y qc).desc = some sig → as'.length = sig.parameters.length := by
        intro sig hsig
        have := hpar sig hsig
        rw [hst] at this
        simpa using this
      have hstk : (F0 m pc lsA (((Value.ref k :: as').reverse ++ rest).map (t_cv g))).stack = (as'.map (t_cv g)).reverse ++ .ref (g.1 k) :: rest.map (t_cv g) := by
        show ((Value.ref k :: as').reverse ++ rest).map (t_cv g) = _
        rw [List.reverse_cons, List.append_assoc, List.map_append, List.map_reverse]
        rfl
      rcases hlk with hlk | ⟨-, host, hlk⟩
      · exact vx_runV (C := (tm_y qc).cls) hF hM ⟨⟨rfl, rfl, hfr, hlo, hwsw, by rw [hws]; exact List.mem_cons_self, hEn.word hcode rfl, hEn.word k3 rfl, k4, hpar', hEn.word hlk rfl⟩, hEn.word hinst rfl, hEn.word hsel rfl⟩ hp rfl (by rw [List.length_map]) hsz hstk hroom hd ⟨hc, hs⟩
      · exact vx_runVN (C := (tm_y qc).cls) hF hM ⟨⟨⟨rfl, rfl, hfr, hlo, hwsw, by rw [hws]; exact List.mem_cons_self⟩, hEn.word hcode rfl, hEn.word k3 rfl, k4, hpar', hEn.word hlk rfl⟩, hEn.word hinst rfl, hEn.word hsel rfl⟩ hp rfl (by rw [List.length_map]) hsz hstk hroom hd ⟨hc, hs⟩
    | true =>
      obtain ⟨rfl, -⟩ := hi.resolve_left (fun z => by cases z.2)
      have hstt := k11 hst
      have hp : PreS s H (th_Pc g as h) (as.map (t_cv g)) := ⟨th_Pc_blind _ _ _, hPc⟩
      have hpar' : ∀ sig, parseMethodDescriptor (tm_y qc).desc = some sig → as.length = sig.parameters.length := by
        intro sig hsig
        have := hpar sig hsig
        rw [hst] at this
        simpa using this
      have hstk : (F0 m pc lsA ((as.reverse ++ rest).map (t_cv g))).stack = (as.map (t_cv g)).reverse ++ rest.map (t_cv g) := by
        show (as.reverse ++ rest).map (t_cv g) = _
        rw [List.map_append, List.map_reverse]
      rcases hlk with hlk | ⟨-, host, hlk⟩
      · exact vx_runS hF hM ⟨⟨rfl, rfl, hfr, hlo, hwsw, by rw [hws]; exact List.mem_cons_self, hEn.word hcode rfl, hEn.word k3 rfl, k4, hpar', hEn.word hlk rfl⟩, hEn.word hstt rfl⟩ hp rfl (by rw [List.length_map]) hsz hstk hroom hd ⟨hc, hs⟩
      · exact vx_runSN hF hM ⟨⟨⟨rfl, rfl, hfr, hlo, hwsw, by rw [hws]; exact List.mem_cons_self⟩, hEn.word hcode rfl, hEn.word k3 rfl, k4, hpar', hEn.word hlk rfl⟩, hEn.word hstt rfl, trivial⟩ hp rfl (by rw [List.length_map]) hsz hstk hroom hd ⟨hc, hs⟩
  · obtain ⟨hcode, hstq⟩ := k2 hh
    have hstt := k11 hstq
    rw [hstq] at hst
    subst hst
    obtain ⟨rfl, -⟩ := hi.resolve_left (fun z => by cases z.2)
    have hws : t_wsm qc = Cond.codeWith (tm_y qc) (tm_by qc) (tm_ml qc) (tm_rt qc) (tm_hh qc) :: [] := by
      unfold t_wsm
      cases hh9 : tm_hh qc with
      | nil => exact absurd hh9 hh
      | cons z zs => rfl
    have hwsw : ∀ w ∈ t_wsm qc, ∀ (a' : Array Value) (U : State), s.WarmedH U.vm → w.before a' U = true := by
      intro w hw9 a' U hWm
      rw [hws] at hw9
      rcases List.mem_cons.mp hw9 with rfl | hw9
      · exact word_at hWm (Or.inl rfl) (hEn.word (args := args) hcode rfl)
      · cases hw9
    have hpar' : ∀ sig, parseMethodDescriptor (tm_y qc).desc = some sig → as.length = sig.parameters.length := by
      intro sig hsig
      rw [hsig, Option.map_some, if_pos hstq] at k6
      have := Option.some.inj k6
      omega
    have hp : PreS s H (th_Pc g as h) (as.map (t_cv g)) := ⟨th_Pc_blind _ _ _, hPc⟩
    have hstk : (F0 m pc lsA ((as.reverse ++ rest).map (t_cv g))).stack = (as.map (t_cv g)).reverse ++ rest.map (t_cv g) := by
      show (as.reverse ++ rest).map (t_cv g) = _
      rw [List.map_append, List.map_reverse]
    rcases hlk with hlk | ⟨hh9, -⟩
    · exact vx_runSX hF hM ⟨⟨rfl, rfl, hfr, hlo, hwsw, by rw [hws]; exact List.mem_cons_self⟩, hEn.word hcode rfl, hEn.word k3 rfl, k4, hpar', hEn.word hlk rfl, hEn.word hstt rfl⟩ hp rfl (by rw [List.length_map]) hsz hstk hroom hd ⟨hc, hs⟩
    · exact absurd hh9 hh
