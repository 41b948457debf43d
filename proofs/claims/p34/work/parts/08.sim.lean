theorem t_ce_any {g : tE} {h : tH} {k ty n : Nat} (ha : t_ar k = some (ty, n)) : ∃ (t0 : Nat) (cA : ClassId) (x : vp_A) (ft : FieldType), t_ce g h k = .inl (cA, x) ∧ (t_tys g)[t0]? = some (cA, ft) ∧ x.1 = n := by
  have hty := t_ar_ty ha
  unfold t_ce
  rw [t_ar_ob ha, ha]
  match ty with
  | 0 => exact ⟨0, _, _, _, rfl, rfl, rfl⟩
  | 1 => simp at hty
  | 2 => simp at hty
  | 3 => exact ⟨1, _, _, _, rfl, rfl, rfl⟩
  | t + 4 => simp at hty
set_option maxHeartbeats 4000000 in
/-- an instruction that neither calls nor ends -/
theorem t_sim {g : tE} {q : tM} {p : Program} {l : Launch} {e : Env} {R : Room} {s : State} {m : MethodId} {args : Array Value} {below : List Frame} {meth : Method} {c : Code} {cells slots : Nat} {Qw : State → Prop}
    (C : t_Cx g q p s m meth c) (hR1 : 1 ≤ R.frames) (hR2 : 200 ≤ R.locals) (hR3 : cells ≤ R.cells) (hR4 : slots ≤ R.slots) {pc len : Nat} {ls st : List Value} {h : tH} {ins : Instr} {n : tN} (hd : decode (tm_by q) pc = .ok (ins, len)) (hs : t_smp q ins = true) (hn : t_st q pc ls st h len ins = n) (hg : n.1)
    (k : ∀ (H : Heap) (locs : List Loc) (lsA : Array Slot), t_Wd g n.2.2.2.2 H → va_S g.2.2.2.1 s.heap H locs → t_lr g n.2.2.1 lsA (tm_ml q) → W p l e R s m args below meth c H locs cells slots Qw (F0 m n.2.1 lsA (n.2.2.2.1.map (t_cv g)))) :
    ∀ (H : Heap) (locs : List Loc) (lsA : Array Slot), t_Wd g h H → va_S g.2.2.2.1 s.heap H locs → t_lr g ls lsA (tm_ml q) → W p l e R s m args below meth c H locs cells slots Qw (F0 m pc lsA (st.map (t_cv g))) := by
  obtain ⟨hx, hb, hml, hown, hlocks, hrt, htab, hE, hG, hA⟩ := C
  intro H locs lsA hW hS hl
  have hP := hW.1
  have hK := hE.1
  have hD := t_ws_D hG hW
  cases ins with
  | iconst a =>
    simp only [t_st] at hn
    subst hn
    obtain rfl := hg
    exact lv_iconst hx hb hd rfl (k H locs lsA hW hS hl)
  | bipush a =>
    simp only [t_st] at hn
    subst hn
    obtain rfl := hg
    exact lv_bipush hx hb hd rfl (k H locs lsA hW hS hl)
  | sipush a =>
    simp only [t_st] at hn
    subst hn
    obtain rfl := hg
    exact lv_sipush hx hb hd rfl (k H locs lsA hW hS hl)
  | lconst a =>
    simp only [t_st] at hn
    subst hn
    obtain rfl := hg
    exact lv_lconst hx hb hd rfl (k H locs lsA hW hS hl)
  | aconst_null =>
    simp only [t_st] at hn
    subst hn
    obtain rfl := hg
    exact lv_null hx hb hd (k H locs lsA hW hS hl)
  | iload_n a =>
    simp only [t_st] at hn
    split at hn
    · rename_i x hx1
      subst hn
      obtain rfl := hg
      exact lv_iload_n hx hb hd rfl (t_lr_at hl hx1 rfl) (k H locs lsA hW hS hl)
    · subst hn; exact hg.elim
  | iload a =>
    simp only [t_st] at hn
    split at hn
    · rename_i x hx1
      subst hn
      obtain rfl := hg
      exact lv_iload hx hb hd (t_lr_at hl hx1 rfl) (k H locs lsA hW hS hl)
    · subst hn; exact hg.elim
  | lload_n a =>
    simp only [t_st] at hn
    split at hn
    · rename_i x hx1
      subst hn
      obtain rfl := hg
      exact lv_lload_n hx hb hd rfl (t_lr_at hl hx1 rfl) (k H locs lsA hW hS hl)
    · subst hn; exact hg.elim
  | lload a =>
    simp only [t_st] at hn
    split at hn
    · rename_i x hx1
      subst hn
      obtain rfl := hg
      exact lv_lload hx hb hd (t_lr_at hl hx1 rfl) (k H locs lsA hW hS hl)
    · subst hn; exact hg.elim
  | aload_n a =>
    simp only [t_st] at hn
    split at hn
    · rename_i x hx1
      subst hn
      obtain rfl := hg
      exact lv_aload_n hx hb hd rfl (t_lr_at hl hx1 rfl) (k H locs lsA hW hS hl)
    · rename_i hx1
      subst hn
      obtain rfl := hg
      exact lv_aload_nN hx hb hd rfl (t_lr_at hl hx1 rfl) (k H locs lsA hW hS hl)
    · subst hn; exact hg.elim
  | aload a =>
    simp only [t_st] at hn
    split at hn
    · rename_i x hx1
      subst hn
      obtain rfl := hg
      exact lv_aload hx hb hd (t_lr_at hl hx1 rfl) (k H locs lsA hW hS hl)
    · rename_i hx1
      subst hn
      obtain rfl := hg
      exact lv_aloadN hx hb hd (t_lr_at hl hx1 rfl) (k H locs lsA hW hS hl)
    · subst hn; exact hg.elim
  | istore_n a =>
    simp only [t_st] at hn
    split at hn
    · subst hn
      obtain ⟨rfl, g1, g2⟩ := hg
      exact lv_istore_n hx hb hd rfl (t_lr_has hl) (by rw [← hl.2.1]; exact g1) rfl (fun ls1 hl1 => k H locs ls1 hW hS (t_lr_st1 g2 hl.2.1 (fun _ => rfl) hl1))
    · subst hn; exact hg.elim
  | istore a =>
    simp only [t_st] at hn
    split at hn
    · subst hn
      obtain ⟨rfl, g1, g2⟩ := hg
      exact lv_istore hx hb hd (t_lr_has hl) (by rw [← hl.2.1]; exact g1) rfl (fun ls1 hl1 => k H locs ls1 hW hS (t_lr_st1 g2 hl.2.1 (fun _ => rfl) hl1))
    · subst hn; exact hg.elim
  | astore_n a =>
    simp only [t_st] at hn
    split at hn
    · subst hn
      obtain ⟨rfl, g1, g2⟩ := hg
      exact lv_astore_n hx hb hd rfl (t_lr_has hl) (by rw [← hl.2.1]; exact g1) rfl (fun ls1 hl1 => k H locs ls1 hW hS (t_lr_st1 g2 hl.2.1 (fun _ => rfl) hl1))
    · subst hn
      obtain ⟨rfl, g1, g2⟩ := hg
      exact lv_astore_nN hx hb hd rfl (t_lr_has hl) (by rw [← hl.2.1]; exact g1) rfl (fun ls1 hl1 => k H locs ls1 hW hS (t_lr_st1 g2 hl.2.1 (fun _ => rfl) hl1))
    · subst hn; exact hg.elim
  | astore a =>
    simp only [t_st] at hn
    split at hn
    · subst hn
      obtain ⟨rfl, g1, g2⟩ := hg
      exact lv_astore hx hb hd (t_lr_has hl) (by rw [← hl.2.1]; exact g1) rfl (fun ls1 hl1 => k H locs ls1 hW hS (t_lr_st1 g2 hl.2.1 (fun _ => rfl) hl1))
    · subst hn
      obtain ⟨rfl, g1, g2⟩ := hg
      exact lv_astoreN hx hb hd (t_lr_has hl) (by rw [← hl.2.1]; exact g1) rfl (fun ls1 hl1 => k H locs ls1 hW hS (t_lr_st1 g2 hl.2.1 (fun _ => rfl) hl1))
    · subst hn; exact hg.elim
  | lstore_n a =>
    simp only [t_st] at hn
    split at hn
    · subst hn
      obtain ⟨rfl, g1, g2⟩ := hg
      exact lv_lstore_n hx hb hd rfl (t_lr_has hl) (by rw [← hl.2.1]; exact g1) rfl (fun ls1 hl1 => k H locs ls1 hW hS (t_lr_st2 g2 hl.2.1 (fun _ => rfl) hl1))
    · subst hn; exact hg.elim
  | lstore a =>
    simp only [t_st] at hn
    split at hn
    · subst hn
      obtain ⟨rfl, g1, g2⟩ := hg
      exact lv_lstore hx hb hd (t_lr_has hl) (by rw [← hl.2.1]; exact g1) rfl (fun ls1 hl1 => k H locs ls1 hW hS (t_lr_st2 g2 hl.2.1 (fun _ => rfl) hl1))
    · subst hn; exact hg.elim
  | iinc a b =>
    simp only [t_st] at hn
    split at hn
    · rename_i x hx1
      subst hn
      obtain ⟨rfl, g2⟩ := hg
      obtain ⟨k0, hk0⟩ := List.getElem?_of_mem (t_ll_in (g := g) hx1 rfl)
      exact lv_iinc hx hb hd (t_lr_has hl) hk0 rfl (by rw [← hl.2.1]; exact (List.getElem?_eq_some_iff.mp hx1).1) rfl (fun ls1 hl1 => k H locs ls1 hW hS (t_lr_st1 (w := .int (x + Int32.ofInt b)) g2 hl.2.1 (fun _ => rfl) hl1))
    · subst hn; exact hg.elim
  | iadd =>
    simp only [t_st] at hn
    split at hn
    · subst hn
      obtain rfl := hg
      exact lv_iadd hx hb hd (k H locs lsA hW hS hl)
    · subst hn; exact hg.elim
  | isub =>
    simp only [t_st] at hn
    split at hn
    · subst hn
      obtain rfl := hg
      exact lv_isub hx hb hd (k H locs lsA hW hS hl)
    · subst hn; exact hg.elim
  | imul =>
    simp only [t_st] at hn
    split at hn
    · subst hn
      obtain rfl := hg
      exact lv_imul hx hb hd (k H locs lsA hW hS hl)
    · subst hn; exact hg.elim
  | iand =>
    simp only [t_st] at hn
    split at hn
    · subst hn
      obtain rfl := hg
      exact lv_iand hx hb hd (k H locs lsA hW hS hl)
    · subst hn; exact hg.elim
  | ior =>
    simp only [t_st] at hn
    split at hn
    · subst hn
      obtain rfl := hg
      exact lv_ior hx hb hd (k H locs lsA hW hS hl)
    · subst hn; exact hg.elim
  | ixor =>
    simp only [t_st] at hn
    split at hn
    · subst hn
      obtain rfl := hg
      exact lv_ixor hx hb hd (k H locs lsA hW hS hl)
    · subst hn; exact hg.elim
  | ladd =>
    simp only [t_st] at hn
    split at hn
    · subst hn
      obtain rfl := hg
      exact lv_ladd hx hb hd (k H locs lsA hW hS hl)
    · subst hn; exact hg.elim
  | lsub =>
    simp only [t_st] at hn
    split at hn
    · subst hn
      obtain rfl := hg
      exact lv_lsub hx hb hd (k H locs lsA hW hS hl)
    · subst hn; exact hg.elim
  | lmul =>
    simp only [t_st] at hn
    split at hn
    · subst hn
      obtain rfl := hg
      exact lv_lmul hx hb hd (k H locs lsA hW hS hl)
    · subst hn; exact hg.elim
  | lor =>
    simp only [t_st] at hn
    split at hn
    · subst hn
      obtain rfl := hg
      exact lv_lor hx hb hd (k H locs lsA hW hS hl)
    · subst hn; exact hg.elim
  | land =>
    simp only [t_st] at hn
    split at hn
    · subst hn
      obtain rfl := hg
      exact lv_land hx hb hd (k H locs lsA hW hS hl)
    · subst hn; exact hg.elim
  | lxor =>
    simp only [t_st] at hn
    split at hn
    · subst hn
      obtain rfl := hg
      exact lv_lxor hx hb hd (k H locs lsA hW hS hl)
    · subst hn; exact hg.elim
  | ineg =>
    simp only [t_st] at hn
    split at hn
    · subst hn
      obtain rfl := hg
      exact lv_ineg hx hb hd (k H locs lsA hW hS hl)
    · subst hn; exact hg.elim
  | ishl =>
    simp only [t_st] at hn
    split at hn
    · subst hn
      obtain rfl := hg
      exact lv_ishl hx hb hd (k H locs lsA hW hS hl)
    · subst hn; exact hg.elim
  | ishr =>
    simp only [t_st] at hn
    split at hn
    · subst hn
      obtain rfl := hg
      exact lv_ishr hx hb hd (k H locs lsA hW hS hl)
    · subst hn; exact hg.elim
  | iushr =>
    simp only [t_st] at hn
    split at hn
    · subst hn
      obtain rfl := hg
      exact lv_iushr hx hb hd rfl (k H locs lsA hW hS hl)
    · subst hn; exact hg.elim
  | lshl =>
    simp only [t_st] at hn
    split at hn
    · subst hn
      obtain rfl := hg
      exact lv_lshl hx hb hd rfl (k H locs lsA hW hS hl)
    · subst hn; exact hg.elim
  | lshr =>
    simp only [t_st] at hn
    split at hn
    · subst hn
      obtain rfl := hg
      exact lv_lshr hx hb hd rfl (k H locs lsA hW hS hl)
    · subst hn; exact hg.elim
  | i2l =>
    simp only [t_st] at hn
    split at hn
    · subst hn
      obtain rfl := hg
      exact lv_i2l hx hb hd rfl (k H locs lsA hW hS hl)
    · subst hn; exact hg.elim
  | idiv =>
    simp only [t_st] at hn
    split at hn
    · subst hn
      obtain ⟨rfl, g1⟩ := hg
      exact lv_idiv hx hb hd g1 (k H locs lsA hW hS hl)
    · subst hn; exact hg.elim
  | irem =>
    simp only [t_st] at hn
    split at hn
    · subst hn
      obtain ⟨rfl, g1⟩ := hg
      exact lv_irem hx hb hd g1 (k H locs lsA hW hS hl)
    · subst hn; exact hg.elim
  | lcmp =>
    simp only [t_st] at hn
    split at hn
    · subst hn
      obtain rfl := hg
      exact W.lcmp hx hb hd (k H locs lsA hW hS hl)
    · subst hn; exact hg.elim
  | dup =>
    simp only [t_st] at hn
    split at hn
    · subst hn
      obtain ⟨rfl, g1⟩ := hg
      exact lv_dup hx hb hd (by rw [t_cv_cat]; exact g1) (k H locs lsA hW hS hl)
    · subst hn; exact hg.elim
  | dup2 =>
    simp only [t_st] at hn
    split at hn
    · subst hn
      obtain ⟨rfl, g1, g2⟩ := hg
      exact lv_dup2_11 hx hb hd (by rw [t_cv_cat]; exact g1) (by rw [t_cv_cat]; exact g2) (k H locs lsA hW hS hl)
    · subst hn; exact hg.elim
  | goto off =>
    simp only [t_st] at hn
    subst hn
    obtain ⟨rfl, g1⟩ := hg
    exact lv_goto hx hb hd (Int.toNat_of_nonneg g1).symm (k H locs lsA hW hS hl)
  | ifCond cnd off =>
    simp only [t_st] at hn
    split at hn
    · subst hn
      obtain ⟨rfl, g1⟩ := hg
      cases cnd
      · refine lv_if_eq hx hb hd (Int.toNat_of_nonneg g1).symm (fun hc => ?_) (fun hc => ?_)
        · have k2 := k H locs lsA hW hS hl
          dsimp only at k2
          rw [if_pos (show t_cb .eq _ _ = true from decide_eq_true hc)] at k2
          exact k2
        · have k2 := k H locs lsA hW hS hl
          dsimp only at k2
          rw [if_neg (show ¬ t_cb .eq _ _ = true from fun z => hc (of_decide_eq_true z))] at k2
          exact k2
      · refine lv_if_ne hx hb hd (Int.toNat_of_nonneg g1).symm (fun hc => ?_) (fun hc => ?_)
        · have k2 := k H locs lsA hW hS hl
          dsimp only at k2
          rw [if_pos (show t_cb .ne _ _ = true from decide_eq_true hc)] at k2
          exact k2
        · have k2 := k H locs lsA hW hS hl
          dsimp only at k2
          rw [if_neg (show ¬ t_cb .ne _ _ = true from fun z => absurd hc (of_decide_eq_true z))] at k2
          exact k2
      · refine lv_if_lt hx hb hd (Int.toNat_of_nonneg g1).symm (fun hc => ?_) (fun hc => ?_)
        · have k2 := k H locs lsA hW hS hl
          dsimp only at k2
          rw [if_pos (show t_cb .lt _ _ = true from decide_eq_true hc)] at k2
          exact k2
        · have k2 := k H locs lsA hW hS hl
          dsimp only at k2
          rw [if_neg (show ¬ t_cb .lt _ _ = true from fun z => hc (of_decide_eq_true z))] at k2
          exact k2
      · refine lv_if_ge hx hb hd (Int.toNat_of_nonneg g1).symm (fun hc => ?_) (fun hc => ?_)
        · have k2 := k H locs lsA hW hS hl
          dsimp only at k2
          rw [if_pos (show t_cb .ge _ _ = true from decide_eq_true hc)] at k2
          exact k2
        · have k2 := k H locs lsA hW hS hl
          dsimp only at k2
          rw [if_neg (show ¬ t_cb .ge _ _ = true from fun z => hc (of_decide_eq_true z))] at k2
          exact k2
      · refine lv_if_gt hx hb hd (Int.toNat_of_nonneg g1).symm (fun hc => ?_) (fun hc => ?_)
        · have k2 := k H locs lsA hW hS hl
          dsimp only at k2
          rw [if_pos (show t_cb .gt _ _ = true from decide_eq_true hc)] at k2
          exact k2
        · have k2 := k H locs lsA hW hS hl
          dsimp only at k2
          rw [if_neg (show ¬ t_cb .gt _ _ = true from fun z => hc (of_decide_eq_true z))] at k2
          exact k2
      · refine lv_if_le hx hb hd (Int.toNat_of_nonneg g1).symm (fun hc => ?_) (fun hc => ?_)
        · have k2 := k H locs lsA hW hS hl
          dsimp only at k2
          rw [if_pos (show t_cb .le _ _ = true from decide_eq_true hc)] at k2
          exact k2
        · have k2 := k H locs lsA hW hS hl
          dsimp only at k2
          rw [if_neg (show ¬ t_cb .le _ _ = true from fun z => hc (of_decide_eq_true z))] at k2
          exact k2
    · subst hn; exact hg.elim
  | if_icmp cnd off =>
    simp only [t_st] at hn
    split at hn
    · subst hn
      obtain ⟨rfl, g1⟩ := hg
      cases cnd
      · refine lv_icmp_eq hx hb hd (Int.toNat_of_nonneg g1).symm (fun hc => ?_) (fun hc => ?_)
        · have k2 := k H locs lsA hW hS hl
          dsimp only at k2
          rw [if_pos (show t_cb .eq _ _ = true from decide_eq_true hc)] at k2
          exact k2
        · have k2 := k H locs lsA hW hS hl
          dsimp only at k2
          rw [if_neg (show ¬ t_cb .eq _ _ = true from fun z => hc (of_decide_eq_true z))] at k2
          exact k2
      · refine lv_icmp_ne hx hb hd (Int.toNat_of_nonneg g1).symm (fun hc => ?_) (fun hc => ?_)
        · have k2 := k H locs lsA hW hS hl
          dsimp only at k2
          rw [if_pos (show t_cb .ne _ _ = true from decide_eq_true hc)] at k2
          exact k2
        · have k2 := k H locs lsA hW hS hl
          dsimp only at k2
          rw [if_neg (show ¬ t_cb .ne _ _ = true from fun z => absurd hc (of_decide_eq_true z))] at k2
          exact k2
      · refine lv_icmp_lt hx hb hd (Int.toNat_of_nonneg g1).symm (fun hc => ?_) (fun hc => ?_)
        · have k2 := k H locs lsA hW hS hl
          dsimp only at k2
          rw [if_pos (show t_cb .lt _ _ = true from decide_eq_true hc)] at k2
          exact k2
        · have k2 := k H locs lsA hW hS hl
          dsimp only at k2
          rw [if_neg (show ¬ t_cb .lt _ _ = true from fun z => hc (of_decide_eq_true z))] at k2
          exact k2
      · refine lv_icmp_ge hx hb hd (Int.toNat_of_nonneg g1).symm (fun hc => ?_) (fun hc => ?_)
        · have k2 := k H locs lsA hW hS hl
          dsimp only at k2
          rw [if_pos (show t_cb .ge _ _ = true from decide_eq_true hc)] at k2
          exact k2
        · have k2 := k H locs lsA hW hS hl
          dsimp only at k2
          rw [if_neg (show ¬ t_cb .ge _ _ = true from fun z => hc (of_decide_eq_true z))] at k2
          exact k2
      · refine lv_icmp_gt hx hb hd (Int.toNat_of_nonneg g1).symm (fun hc => ?_) (fun hc => ?_)
        · have k2 := k H locs lsA hW hS hl
          dsimp only at k2
          rw [if_pos (show t_cb .gt _ _ = true from decide_eq_true hc)] at k2
          exact k2
        · have k2 := k H locs lsA hW hS hl
          dsimp only at k2
          rw [if_neg (show ¬ t_cb .gt _ _ = true from fun z => hc (of_decide_eq_true z))] at k2
          exact k2
      · refine lv_icmp_le hx hb hd (Int.toNat_of_nonneg g1).symm (fun hc => ?_) (fun hc => ?_)
        · have k2 := k H locs lsA hW hS hl
          dsimp only at k2
          rw [if_pos (show t_cb .le _ _ = true from decide_eq_true hc)] at k2
          exact k2
        · have k2 := k H locs lsA hW hS hl
          dsimp only at k2
          rw [if_neg (show ¬ t_cb .le _ _ = true from fun z => hc (of_decide_eq_true z))] at k2
          exact k2
    · subst hn; exact hg.elim
  | ifnonnull off =>
    simp only [t_st] at hn
    split at hn
    · subst hn
      obtain ⟨rfl, g1⟩ := hg
      exact lv_ifnonnull hx hb hd (Int.toNat_of_nonneg g1).symm (k H locs lsA hW hS hl)
    · subst hn
      obtain rfl := hg
      exact lv_ifnonnullN hx hb hd (k H locs lsA hW hS hl)
    · subst hn; exact hg.elim
  | tableswitch dflt lo hi offs =>
    simp only [t_st] at hn
    split at hn
    · rename_i x st'
      split at hn
      · next hc =>
        subst hn
        exact lv_tableOut hx hb hd hc (Int.toNat_of_nonneg hg).symm (k H locs lsA hW hS hl)
      · next hc =>
        split at hn
        · next off ho =>
          subst hn
          exact lv_tableIn hx hb hd (fun z => hc (Or.inl z)) (fun z => hc (Or.inr z)) ho (Int.toNat_of_nonneg hg).symm (k H locs lsA hW hS hl)
        · subst hn; exact hg.elim
    · subst hn; exact hg.elim
  | ldc_w i =>
    simp only [t_st] at hn
    split at hn
    · next v w hv =>
      subst hn
      obtain rfl := hg
      have hk9 := (t_kok _ (t_lk_mem _ _ _ _ hv)).1 v rfl
      exact lv_ldcw hx hb hown (hE.word hk9 rfl) hd (k H locs lsA hW hS hl)
    · subst hn; exact hg.elim
  | ldc i =>
    simp only [t_st] at hn
    split at hn
    · next v w hv =>
      subst hn
      obtain rfl := hg
      have hk9 := (t_kok _ (t_lk_mem _ _ _ _ hv)).1 v rfl
      exact lv_ldc hx hb hown (hE.word hk9 rfl) hd (k H locs lsA hW hS hl)
    · subst hn; exact hg.elim
  | ldc2_w i =>
    simp only [t_st] at hn
    split at hn
    · next v w hv =>
      subst hn
      obtain rfl := hg
      have hk9 := (t_kok _ (t_lk_mem _ _ _ _ hv)).2 _ rfl
      exact lv_ldc2 hx hb hown (hE.word hk9 rfl) hd (k H locs lsA hW hS hl)
    · subst hn; exact hg.elim
  | invokestatic i =>
    simp only [t_st] at hn
    split at hn
    · next y x st' hv =>
      subst hn
      obtain ⟨rfl, g1⟩ := hg
      have hk9 := t_xok _ (t_lk_mem _ _ _ _ hv)
      have hw9 : ((st'.map (t_cv g)).map fun v => v.category).sum = (st'.map Value.category).sum := by rw [List.map_map]; exact congrArg List.sum (List.map_congr_left fun v _ => t_cv_cat g v)
      exact va_mmax hx hb (by rw [hml, hl.1]) hown (hE.word hk9 rfl) (hE.word t_mmax.1 rfl) (hE.word t_mmax.2.1 rfl) (hE.word t_mmax.2.2 rfl) hR1 (by rw [hw9]; omega) hR3 hR4 hd (k H locs lsA hW hS hl)
    · next y x st' hv =>
      subst hn
      obtain ⟨rfl, g1⟩ := hg
      have hk9 := t_xok _ (t_lk_mem _ _ _ _ hv)
      have hw9 : ((st'.map (t_cv g)).map fun v => v.category).sum = (st'.map Value.category).sum := by rw [List.map_map]; exact congrArg List.sum (List.map_congr_left fun v _ => t_cv_cat g v)
      exact va_mmin hx hb (by rw [hml, hl.1]) hown (hE.word hk9 rfl) (hE.word t_mmin.1 rfl) (hE.word t_mmin.2.1 rfl) (hE.word t_mmin.2.2 rfl) hR1 (by rw [hw9]; omega) hR3 hR4 hd (k H locs lsA hW hS hl)
    · subst hn; exact hg.elim
  | getfield i =>
    simp only [t_st] at hn
    split at hn
    · rename_i kk st'
      split at hn
      · rename_i ci sl ty fin hv
        subst hn
        obtain ⟨rfl, hob⟩ := hg
        obtain ⟨cq, hcl, hlt, hft, hfin, hlink, hp0, hp1, hp2, hp4⟩ := t_fok _ (t_lk_mem _ _ _ _ hv)
        dsimp only at hcl hlt hft hfin hlink hp0 hp1 hp2 hp4
        obtain ⟨hu, ⟨ty0, hty⟩, hnm, hlen⟩ := t_cok _ _ hcl
        have hts : ∀ w ∈ u_ws cq.1 cq.2.1 cq.2.2, w.before args s = true := fun w hw => hE.word (hu w hw).1 (hu w hw).2
        obtain ⟨q0, hq0, hw0⟩ := th_ws_get g h (t_ids_ob hob)
        rw [t_ce_o hob] at hw0
        have hv9 : ((t_ft ci).mapIdx (fun sl ty => t_cv g (t_fv h ci sl ty kk)))[sl]? = some (t_cv g (t_fv h ci sl ty kk)) := by rw [List.getElem?_mapIdx, hft]; rfl
        rcases hlink with hlink | ⟨host, hlink⟩
        · exact va_get hx hb hts (fun _ h9 => h9) hown hK hP q0 hw0 hcl sl hlt (hE.word hlink rfl) (fun _ h9 => h9) hv9 hd (k H locs lsA hW hS hl)
        · exact va_getN hx hb hts (fun _ h9 => h9) hown hK hP q0 hw0 hcl sl hlt (hE.word hlink rfl) (fun _ h9 => h9) hv9 hd (k H locs lsA hW hS hl)
      · subst hn; exact hg.elim
    · subst hn; exact hg.elim
  | putfield i =>
    simp only [t_st] at hn
    split at hn
    · rename_i x kk st'
      split at hn
      · rename_i ci sl hv
        subst hn
        obtain ⟨rfl, hob⟩ := hg
        obtain ⟨cq, hcl, hlt, hft, hfin, hlink, hp0, hp1, hp2, hp4⟩ := t_fok _ (t_lk_mem _ _ _ _ hv)
        dsimp only at hcl hlt hft hfin hlink hp0 hp1 hp2 hp4
        obtain ⟨hu, ⟨ty0, hty⟩, hnm, hlen⟩ := t_cok _ _ hcl
        have hts : ∀ w ∈ u_ws cq.1 cq.2.1 cq.2.2, w.before args s = true := fun w hw => hE.word (hu w hw).1 (hu w hw).2
        obtain ⟨q0, hq0, hw0⟩ := th_ws_get g h (t_ids_ob hob)
        rw [t_ce_o hob] at hw0
        have hlk : sl < ((t_ft ci).mapIdx (fun sl ty => t_cv g (t_fv h ci sl ty kk))).length := by rw [List.length_mapIdx, hlen]; exact hlt
        have hset := th_ws_set (g := g) (h := h) (h' := t_I h kk sl x) hq0 (t_ce_set (g := g) (h := h) (h' := t_I h kk sl x) (v := t_cv g (.int x)) hob (fun ty' h9 => by cases hft.symm.trans h9; show Value.int x = .int ((t_I h kk sl x).1 kk sl); simp [t_I]) (fun i ty' hi _ => by unfold t_fv; split <;> first | rfl | (simp [t_I, hi]; done))) (fun j _ hj => t_ce_I hj) (t_xc_I (t_ids_ob hob))
        rcases hlink with hlink | ⟨host, hlink⟩
        · refine va_put hx hb hts (fun _ h9 => h9) ty0 hty hnm hown hK hP hD hS q0 hw0 hcl sl hlt (hE.word hlink rfl) (fun _ h9 => h9) hfin (hp0 rfl) rfl rfl hlk hd (fun H1 locs1 hP1 hD1 hS1 => ?_)
          rw [hset] at hP1
          exact k H1 locs1 lsA (t_Wd_I hW (t_ids_ob hob) hP1) hS1 hl
        · refine va_putN hx hb hts (fun _ h9 => h9) ty0 hty hnm hown hK hP hD hS q0 hw0 hcl sl hlt (hE.word hlink rfl) (fun _ h9 => h9) hfin (hp0 rfl) rfl rfl hlk hd (fun H1 locs1 hP1 hD1 hS1 => ?_)
          rw [hset] at hP1
          exact k H1 locs1 lsA (t_Wd_I hW (t_ids_ob hob) hP1) hS1 hl
      · rename_i ci sl hv
        subst hn
        obtain ⟨rfl, hob, hx01⟩ := hg
        obtain ⟨cq, hcl, hlt, hft, hfin, hlink, hp0, hp1, hp2, hp4⟩ := t_fok _ (t_lk_mem _ _ _ _ hv)
        dsimp only at hcl hlt hft hfin hlink hp0 hp1 hp2 hp4
        obtain ⟨hu, ⟨ty0, hty⟩, hnm, hlen⟩ := t_cok _ _ hcl
        have hts : ∀ w ∈ u_ws cq.1 cq.2.1 cq.2.2, w.before args s = true := fun w hw => hE.word (hu w hw).1 (hu w hw).2
        obtain ⟨q0, hq0, hw0⟩ := th_ws_get g h (t_ids_ob hob)
        rw [t_ce_o hob] at hw0
        have hlk : sl < ((t_ft ci).mapIdx (fun sl ty => t_cv g (t_fv h ci sl ty kk))).length := by rw [List.length_mapIdx, hlen]; exact hlt
        have hset := th_ws_set (g := g) (h := h) (h' := t_I h kk sl x) hq0 (t_ce_set (g := g) (h := h) (h' := t_I h kk sl x) (v := t_cv g (.int x)) hob (fun ty' h9 => by cases hft.symm.trans h9; show Value.int x = .int ((t_I h kk sl x).1 kk sl); simp [t_I]) (fun i ty' hi _ => by unfold t_fv; split <;> first | rfl | (simp [t_I, hi]; done))) (fun j _ hj => t_ce_I hj) (t_xc_I (t_ids_ob hob))
        rcases hlink with hlink | ⟨host, hlink⟩
        · refine va_put hx hb hts (fun _ h9 => h9) ty0 hty hnm hown hK hP hD hS q0 hw0 hcl sl hlt (hE.word hlink rfl) (fun _ h9 => h9) hfin (hp1 rfl) (t_nar_z hx01).2.1 (t_nar_z hx01).2.2 hlk hd (fun H1 locs1 hP1 hD1 hS1 => ?_)
          rw [hset] at hP1
          exact k H1 locs1 lsA (t_Wd_I hW (t_ids_ob hob) hP1) hS1 hl
        · refine va_putN hx hb hts (fun _ h9 => h9) ty0 hty hnm hown hK hP hD hS q0 hw0 hcl sl hlt (hE.word hlink rfl) (fun _ h9 => h9) hfin (hp1 rfl) (t_nar_z hx01).2.1 (t_nar_z hx01).2.2 hlk hd (fun H1 locs1 hP1 hD1 hS1 => ?_)
          rw [hset] at hP1
          exact k H1 locs1 lsA (t_Wd_I hW (t_ids_ob hob) hP1) hS1 hl
      · subst hn; exact hg.elim
    · rename_i x kk st'
      split at hn
      · rename_i ci sl hv
        subst hn
        obtain ⟨rfl, hob⟩ := hg
        obtain ⟨cq, hcl, hlt, hft, hfin, hlink, hp0, hp1, hp2, hp4⟩ := t_fok _ (t_lk_mem _ _ _ _ hv)
        dsimp only at hcl hlt hft hfin hlink hp0 hp1 hp2 hp4
        obtain ⟨hu, ⟨ty0, hty⟩, hnm, hlen⟩ := t_cok _ _ hcl
        have hts : ∀ w ∈ u_ws cq.1 cq.2.1 cq.2.2, w.before args s = true := fun w hw => hE.word (hu w hw).1 (hu w hw).2
        obtain ⟨q0, hq0, hw0⟩ := th_ws_get g h (t_ids_ob hob)
        rw [t_ce_o hob] at hw0
        have hlk : sl < ((t_ft ci).mapIdx (fun sl ty => t_cv g (t_fv h ci sl ty kk))).length := by rw [List.length_mapIdx, hlen]; exact hlt
        have hset := th_ws_set (g := g) (h := h) (h' := t_L h kk sl x) hq0 (t_ce_set (g := g) (h := h) (h' := t_L h kk sl x) (v := t_cv g (.long x)) hob (fun ty' h9 => by cases hft.symm.trans h9; show Value.long x = .long ((t_L h kk sl x).2.1 kk sl); simp [t_L]) (fun i ty' hi _ => by unfold t_fv; split <;> first | rfl | (simp [t_L, hi]; done))) (fun j _ hj => t_ce_L hj) rfl
        rcases hlink with hlink | ⟨host, hlink⟩
        · refine va_put hx hb hts (fun _ h9 => h9) ty0 hty hnm hown hK hP hD hS q0 hw0 hcl sl hlt (hE.word hlink rfl) (fun _ h9 => h9) hfin (hp2 rfl) rfl rfl hlk hd (fun H1 locs1 hP1 hD1 hS1 => ?_)
          rw [hset] at hP1
          exact k H1 locs1 lsA (t_Wd_L hW hP1) hS1 hl
        · refine va_putN hx hb hts (fun _ h9 => h9) ty0 hty hnm hown hK hP hD hS q0 hw0 hcl sl hlt (hE.word hlink rfl) (fun _ h9 => h9) hfin (hp2 rfl) rfl rfl hlk hd (fun H1 locs1 hP1 hD1 hS1 => ?_)
          rw [hset] at hP1
          exact k H1 locs1 lsA (t_Wd_L hW hP1) hS1 hl
      · subst hn; exact hg.elim
    · subst hn; exact hg.elim
  | iaload =>
    simp only [t_st] at hn
    split at hn
    · rename_i i kk st'
      subst hn
      obtain ⟨rfl, hin⟩ := hg
      rcases t_ai_c hin with ⟨h33, hv⟩ | ⟨h35, hf, hv⟩ | ⟨h33, n, ha, hv⟩
      · subst h33
        rw [hW.2.1, t_clamp hG.2.2.1] at hv
        have hlt : i.toNatClampNeg < g.2.2.2.2.2.1 := Nat.not_le.mp fun z => hv (Or.inr z)
        have hk2 : W p l e R s m args below meth c H locs cells slots Qw (F0 m (pc + 1) lsA (.int (g.2.2.2.2.2.2 i.toNatClampNeg) :: st'.map (t_cv g))) := by
          rw [← hW.2.2.1 _ hlt]
          exact k H locs lsA hW hS hl
        have hr := va_sld hx hb hE.2.2.2.2.2.1 (by obtain ⟨scr, e1, _⟩ := hE.2.2.2.2.2.1; exact (Array.getElem?_eq_some_iff.mp e1).1) hG.1 hS hv hd hk2
        rw [← hG.2.1] at hr
        exact hr
      · subst h35
        exact va_iald hx hb hK hP t_ids.length 0 (th_ws_x g hf) rfl hv hd (k H locs lsA hW hS hl)
      · obtain ⟨q0, hq0, hw0⟩ := th_ws_get g h (t_ids_ar ha)
        rw [t_ce_0 ha] at hw0
        exact va_iald hx hb hK hP q0 0 hw0 rfl hv hd (k H locs lsA hW hS hl)
    · subst hn; exact hg.elim
  | iastore =>
    simp only [t_st] at hn
    split at hn
    · rename_i x i kk st'
      subst hn
      obtain ⟨rfl, h33, hin⟩ := hg
      rcases (t_ai_c hin).resolve_left (fun z => h33 z.1) with ⟨h35, hf, hv⟩ | ⟨-, n, ha, hv⟩
      · subst h35
        refine va_iast hx hb hK hP hD hS t_ids.length 0 (th_ws_x g hf) rfl hv hd (fun H1 locs1 hP1 hD1 hS1 => ?_)
        rw [th_ws_xs hf] at hP1
        exact k H1 locs1 lsA (t_Wd_x hW hP1) hS1 hl
      · obtain ⟨q0, hq0, hw0⟩ := th_ws_get g h (t_ids_ar ha)
        rw [t_ce_0 ha] at hw0
        refine va_iast hx hb hK hP hD hS q0 0 hw0 rfl hv hd (fun H1 locs1 hP1 hD1 hS1 => ?_)
        rw [th_ws_set (h' := t_I h kk i.toNatClampNeg x) hq0 (by rw [t_ce_0 ha, t_I_eq]) (fun j _ hj => t_ce_I hj) (t_xc_I (t_ids_ar ha))] at hP1
        exact k H1 locs1 lsA (t_Wd_I hW (t_ids_ar ha) hP1) hS1 hl
    · subst hn; exact hg.elim
  | bastore =>
    simp only [t_st] at hn
    split at hn
    · rename_i x i kk st'
      subst hn
      obtain ⟨rfl, hin, hx01⟩ := hg
      exact (t_bo_c hin).elim
    · subst hn; exact hg.elim
  | lastore =>
    simp only [t_st] at hn
    split at hn
    · rename_i x i kk st'
      subst hn
      obtain ⟨rfl, hin⟩ := hg
      exact (t_lo_c hin).elim
    · subst hn; exact hg.elim
  | baload =>
    simp only [t_st] at hn
    split at hn
    · rename_i i kk st'
      subst hn
      obtain ⟨rfl, hin⟩ := hg
      exact (t_bo_c hin).elim
    · subst hn; exact hg.elim
  | laload =>
    simp only [t_st] at hn
    split at hn
    · rename_i i kk st'
      subst hn
      obtain ⟨rfl, hin⟩ := hg
      exact (t_lo_c hin).elim
    · subst hn; exact hg.elim
  | aaload =>
    simp only [t_st] at hn
    split at hn
    · rename_i i kk st'
      subst hn
      obtain ⟨rfl, hin⟩ := hg
      obtain ⟨n, ha, hv⟩ := t_ro_c hin
      obtain ⟨q0, hq0, hw0⟩ := th_ws_get g h (t_ids_ar ha)
      rw [t_ce_3 ha] at hw0
      exact va_aldq hx hb hK hP q0 1 hw0 rfl hv hd (k H locs lsA hW hS hl)
    · subst hn; exact hg.elim
  | arraylength =>
    simp only [t_st] at hn
    split at hn
    · rename_i kk st'
      split at hn
      · rename_i n hv
        subst hn
        obtain rfl := hg
        unfold t_ln at hv
        split at hv
        · next h33 =>
          subst h33
          rw [hW.2.1, t_clamp hG.2.2.1] at hv
          cases hv
          have hr := va_slen hx hb hE.2.2.2.2.2.1 (by obtain ⟨scr, e1, _⟩ := hE.2.2.2.2.2.1; exact (Array.getElem?_eq_some_iff.mp e1).1) hG.1 hS hd (k H locs lsA hW hS hl)
          rw [← hG.2.1] at hr
          exact hr
        · split at hv
          · next ty n' ha =>
            cases hv
            obtain ⟨q0, hq0, hw0⟩ := th_ws_get g h (t_ids_ar ha)
            obtain ⟨t0, cA0, x0, ty0, e1, e2, e3⟩ := t_ce_any (g := g) (h := h) ha
            rw [e1] at hw0
            exact va_alen hx hb hK hP q0 t0 hw0 e2 (by rw [e3]) hd (k H locs lsA hW hS hl)
          · cases hv
      · subst hn; exact hg.elim
    · subst hn; exact hg.elim
  | _ => first | (simp [t_smp] at hs; done) | (subst hn; exact hg.elim)
