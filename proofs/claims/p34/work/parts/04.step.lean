/-! one instruction that neither calls nor ends: whether it goes on, and where -/
def t_st (q : tM) (pc : Nat) (ls st : List Value) (h : tH) (len : Nat) : Instr → tN
  | .iconst n => (len = 1, pc + len, ls, .int (Int32.ofInt n) :: st, h)
  | .bipush n => (len = 2, pc + len, ls, .int (Int8.ofInt n).toInt32 :: st, h)
  | .sipush n => (len = 3, pc + len, ls, .int (Int16.ofInt n).toInt32 :: st, h)
  | .lconst n => (len = 1, pc + len, ls, .long (Int64.ofNat (n : Nat)) :: st, h)
  | .aconst_null => (len = 1, pc + len, ls, .null :: st, h)
  | .ldc_w i => match t_lk t_kc (tm_oc q) i with
    | some (some v, _) => (len = 3, pc + len, ls, .int v :: st, h)
    | _ => t_bad
  | .ldc i => match t_lk t_kc (tm_oc q) i with
    | some (some v, _) => (len = 2, pc + len, ls, .int v :: st, h)
    | _ => t_bad
  | .ldc2_w i => match t_lk t_kc (tm_oc q) i with
    | some (_, some v) => (len = 3, pc + len, ls, .long v :: st, h)
    | _ => t_bad
  | .iload_n n => match ls[(n : Nat)]? with
    | some (.int x) => (len = 1, pc + len, ls, .int x :: st, h)
    | _ => t_bad
  | .iload n => match ls[n]? with
    | some (.int x) => (len = 2, pc + len, ls, .int x :: st, h)
    | _ => t_bad
  | .lload_n n => match ls[(n : Nat)]? with
    | some (.long x) => (len = 1, pc + len, ls, .long x :: st, h)
    | _ => t_bad
  | .lload n => match ls[n]? with
    | some (.long x) => (len = 2, pc + len, ls, .long x :: st, h)
    | _ => t_bad
  | .aload_n n => match ls[(n : Nat)]? with
    | some (.ref x) => (len = 1, pc + len, ls, .ref x :: st, h)
    | some .null => (len = 1, pc + len, ls, .null :: st, h)
    | _ => t_bad
  | .aload n => match ls[n]? with
    | some (.ref x) => (len = 2, pc + len, ls, .ref x :: st, h)
    | some .null => (len = 2, pc + len, ls, .null :: st, h)
    | _ => t_bad
  | .istore_n n => match st with
    | .int x :: st => (len = 1 ∧ (n : Nat) < ls.length ∧ t_nl ls n = true, pc + len, ls.set n (.int x), st, h)
    | _ => t_bad
  | .istore n => match st with
    | .int x :: st => (len = 2 ∧ n < ls.length ∧ t_nl ls n = true, pc + len, ls.set n (.int x), st, h)
    | _ => t_bad
  | .astore_n n => match st with
    | .ref x :: st => (len = 1 ∧ (n : Nat) < ls.length ∧ t_nl ls n = true, pc + len, ls.set n (.ref x), st, h)
    | .null :: st => (len = 1 ∧ (n : Nat) < ls.length ∧ t_nl ls n = true, pc + len, ls.set n .null, st, h)
    | _ => t_bad
  | .astore n => match st with
    | .ref x :: st => (len = 2 ∧ n < ls.length ∧ t_nl ls n = true, pc + len, ls.set n (.ref x), st, h)
    | .null :: st => (len = 2 ∧ n < ls.length ∧ t_nl ls n = true, pc + len, ls.set n .null, st, h)
    | _ => t_bad
  | .lstore_n n => match st with
    | .long x :: st => (len = 1 ∧ (n : Nat) + 1 < ls.length ∧ t_nl ls n = true, pc + len, (ls.set n (.long x)).set (n + 1) (.float 0), st, h)
    | _ => t_bad
  | .lstore n => match st with
    | .long x :: st => (len = 2 ∧ n + 1 < ls.length ∧ t_nl ls n = true, pc + len, (ls.set n (.long x)).set (n + 1) (.float 0), st, h)
    | _ => t_bad
  | .iinc n k => match ls[n]? with
    | some (.int x) => (len = 3 ∧ t_nl ls n = true, pc + len, ls.set n (.int (x + Int32.ofInt k)), st, h)
    | _ => t_bad
  | .iadd => match st with
    | .int y :: .int x :: st => (len = 1, pc + len, ls, .int (x + y) :: st, h)
    | _ => t_bad
  | .isub => match st with
    | .int y :: .int x :: st => (len = 1, pc + len, ls, .int (x - y) :: st, h)
    | _ => t_bad
  | .imul => match st with
    | .int y :: .int x :: st => (len = 1, pc + len, ls, .int (x * y) :: st, h)
    | _ => t_bad
  | .iand => match st with
    | .int y :: .int x :: st => (len = 1, pc + len, ls, .int (x &&& y) :: st, h)
    | _ => t_bad
  | .ior => match st with
    | .int y :: .int x :: st => (len = 1, pc + len, ls, .int (x ||| y) :: st, h)
    | _ => t_bad
  | .ixor => match st with
    | .int y :: .int x :: st => (len = 1, pc + len, ls, .int (x ^^^ y) :: st, h)
    | _ => t_bad
  | .idiv => match st with
    | .int y :: .int x :: st => (len = 1 ∧ ¬ y = 0, pc + len, ls, .int (x / y) :: st, h)
    | _ => t_bad
  | .irem => match st with
    | .int y :: .int x :: st => (len = 1 ∧ ¬ y = 0, pc + len, ls, .int (x - x / y * y) :: st, h)
    | _ => t_bad
  | .ineg => match st with
    | .int x :: st => (len = 1, pc + len, ls, .int (-x) :: st, h)
    | _ => t_bad
  | .ishl => match st with
    | .int y :: .int x :: st => (len = 1, pc + len, ls, .int (x <<< (y &&& 31)) :: st, h)
    | _ => t_bad
  | .ishr => match st with
    | .int y :: .int x :: st => (len = 1, pc + len, ls, .int (x >>> (y &&& 31)) :: st, h)
    | _ => t_bad
  | .iushr => match st with
    | .int y :: .int x :: st => (len = 1, pc + len, ls, .int (x.toUInt32 >>> (y.toUInt32 &&& Int32.toUInt32 31)).toInt32 :: st, h)
    | _ => t_bad
  | .ladd => match st with
    | .long y :: .long x :: st => (len = 1, pc + len, ls, .long (x + y) :: st, h)
    | _ => t_bad
  | .lsub => match st with
    | .long y :: .long x :: st => (len = 1, pc + len, ls, .long (x - y) :: st, h)
    | _ => t_bad
  | .lmul => match st with
    | .long y :: .long x :: st => (len = 1, pc + len, ls, .long (x * y) :: st, h)
    | _ => t_bad
  | .lor => match st with
    | .long y :: .long x :: st => (len = 1, pc + len, ls, .long (x ||| y) :: st, h)
    | _ => t_bad
  | .land => match st with
    | .long y :: .long x :: st => (len = 1, pc + len, ls, .long (x &&& y) :: st, h)
    | _ => t_bad
  | .lxor => match st with
    | .long y :: .long x :: st => (len = 1, pc + len, ls, .long (x ^^^ y) :: st, h)
    | _ => t_bad
  | .lshl => match st with
    | .int y :: .long x :: st => (len = 1, pc + len, ls, .long (x <<< (y.toInt64 &&& 63)) :: st, h)
    | _ => t_bad
  | .lshr => match st with
    | .int y :: .long x :: st => (len = 1, pc + len, ls, .long (x >>> (y.toInt64 &&& 63)) :: st, h)
    | _ => t_bad
  | .i2l => match st with
    | .int x :: st => (len = 1, pc + len, ls, .long x.toInt64 :: st, h)
    | _ => t_bad
  | .lcmp => match st with
    | .long y :: .long x :: st => (len = 1, pc + len, ls, .int (lg_cmp x y) :: st, h)
    | _ => t_bad
  | .dup => match st with
    | v :: st => (len = 1 ∧ v.category = 1, pc + len, ls, v :: v :: st, h)
    | _ => t_bad
  | .dup2 => match st with
    | v :: w :: st => (len = 1 ∧ v.category = 1 ∧ w.category = 1, pc + len, ls, v :: w :: v :: w :: st, h)
    | _ => t_bad
  | .ifCond c off => match st with
    | .int x :: st => (len = 3 ∧ 0 ≤ (pc : Int) + off, (if t_cb c x 0 = true then ((pc : Int) + off).toNat else pc + len), ls, st, h)
    | _ => t_bad
  | .if_icmp c off => match st with
    | .int y :: .int x :: st => (len = 3 ∧ 0 ≤ (pc : Int) + off, (if t_cb c x y = true then ((pc : Int) + off).toNat else pc + len), ls, st, h)
    | _ => t_bad
  | .goto off => (len = 3 ∧ 0 ≤ (pc : Int) + off, ((pc : Int) + off).toNat, ls, st, h)
  | .ifnonnull off => match st with
    | .ref _ :: st => (len = 3 ∧ 0 ≤ (pc : Int) + off, ((pc : Int) + off).toNat, ls, st, h)
    | .null :: st => (len = 3, pc + len, ls, st, h)
    | _ => t_bad
  | .tableswitch dflt lo hi offs => match st with
    | .int x :: st => if x.toInt < lo ∨ hi < x.toInt then (0 ≤ (pc : Int) + dflt, ((pc : Int) + dflt).toNat, ls, st, h) else
      match offs[(x.toInt - lo).toNat]? with
      | some off => (0 ≤ (pc : Int) + off, ((pc : Int) + off).toNat, ls, st, h)
      | none => t_bad
    | _ => t_bad
  | .getfield i => match st with
    | .ref k :: st => match t_lk t_flt (tm_oc q) i with
      | some (ci, sl, ty, _) => (len = 3 ∧ t_ob k = some ci, pc + len, ls, t_fv h ci sl ty k :: st, h)
      | none => t_bad
    | _ => t_bad
  | .putfield i => match st with
    | .int x :: .ref k :: st => match t_lk t_flt (tm_oc q) i with
      | some (ci, sl, 0, false) => (len = 3 ∧ t_ob k = some ci, pc + len, ls, st, t_I h k sl x)
      | some (ci, sl, 1, false) => (len = 3 ∧ t_ob k = some ci ∧ (x = 0 ∨ x = 1), pc + len, ls, st, t_I h k sl x)
      | _ => t_bad
    | .long x :: .ref k :: st => match t_lk t_flt (tm_oc q) i with
      | some (ci, sl, 2, false) => (len = 3 ∧ t_ob k = some ci, pc + len, ls, st, t_L h k sl x)
      | _ => t_bad
    | _ => t_bad
  | .iaload => match st with
    | .int i :: .ref k :: st => (len = 1 ∧ t_in (t_ai h k) i, pc + len, ls, .int (h.1 k i.toNatClampNeg) :: st, h)
    | _ => t_bad
  | .iastore => match st with
    | .int x :: .int i :: .ref k :: st => (len = 1 ∧ k ≠ 33 ∧ t_in (t_ai h k) i, pc + len, ls, st, t_I h k i.toNatClampNeg x)
    | _ => t_bad
  | .baload => match st with
    | .int i :: .ref k :: st => (len = 1 ∧ t_in (t_bo k) i, pc + len, ls, .int (h.1 k i.toNatClampNeg) :: st, h)
    | _ => t_bad
  | .bastore => match st with
    | .int x :: .int i :: .ref k :: st => (len = 1 ∧ t_in (t_bo k) i ∧ (x = 0 ∨ x = 1), pc + len, ls, st, t_I h k i.toNatClampNeg x)
    | _ => t_bad
  | .laload => match st with
    | .int i :: .ref k :: st => (len = 1 ∧ t_in (t_lo k) i, pc + len, ls, .long (h.2.1 k i.toNatClampNeg) :: st, h)
    | _ => t_bad
  | .lastore => match st with
    | .long x :: .int i :: .ref k :: st => (len = 1 ∧ t_in (t_lo k) i, pc + len, ls, st, t_L h k i.toNatClampNeg x)
    | _ => t_bad
  | .aaload => match st with
    | .int i :: .ref k :: st => (len = 1 ∧ t_in (t_ro k) i, pc + len, ls, .ref (40 + i.toNatClampNeg) :: st, h)
    | _ => t_bad
  | .invokestatic i => match t_lk t_mt (tm_oc q) i, st with
    | some true, .int y :: .int x :: st => (len = 3 ∧ (st.map Value.category).sum ≤ 8, pc + len, ls, .int (if x < y then y else x) :: st, h)
    | some false, .int y :: .int x :: st => (len = 3 ∧ (st.map Value.category).sum ≤ 8, pc + len, ls, .int (if y < x then y else x) :: st, h)
    | _, _ => t_bad
  | .arraylength => match st with
    | .ref k :: st => match t_ln h k with
      | some n => (len = 1, pc + len, ls, .int (Int32.ofNat n) :: st, h)
      | none => t_bad
    | _ => t_bad
  | _ => t_bad
/-- a method's locals as it begins -/
def t_sl : List Value → List Value
  | [] => []
  | v :: l => if v.category = 2 then v :: .float 0 :: t_sl l else v :: t_sl l
def t_ini (vs : List Value) (n : Nat) : List Value := t_sl vs ++ List.replicate (n - (t_sl vs).length) (.float 0)
/-- the level of a call: it falls from call to call -/
def t_lev (q : tM) (args : List Value) : Nat := tm_lv q + (match tm_rc q with
  | 0 => 0
  | r + 1 => match args[r]? with
    | some (.int x) => 30 - x.toNatClampNeg
    | _ => 0)
/-- where an exception is caught -/
def t_hd (oc pc E : Nat) : List (Nat × Nat × Nat × Nat) → Option Nat
  | [] => none
  | (a, b, hp, ct) :: l => if a ≤ pc ∧ pc < b ∧ t_lk t_xt oc ct = some E then some hp else t_hd oc pc E l
/-- the cell in which a handler lays its exception -/
def t_as (r : Except DecodeError (Instr × Nat)) : Option (Nat × Nat) := match r with
  | .ok (.astore k, 2) => some (k, 2)
  | .ok (.astore_n k, 1) => some ((k : Nat), 1)
  | _ => none
/-- an answer is of the kind that the method tells -/
def t_tyo (r : Option FieldType) (v : Option Value) : Prop := match r with
  | none => v = none
  | some .long => ∃ x, v = some (.long x)
  | some (.object _) => ∃ x, v = some (va_rf x)
  | some _ => ∃ x, v = some (.int x)
/-- what a caller does behind a call: o1, h1 are the callee's end -/
def t_back (P : tR) (q qc : tM) (d mi pc : Nat) (ls rest : List Value) (o1 : tO) (h1 : tH) (o : tO) (h' : tH) : Prop := match o1 with
  | .inl v => t_tyo (tm_rt qc) v ∧ P d mi (pc + 3) ls (v.toList ++ rest) h1 o h'
  | .inr E => match t_hd (tm_oc q) pc E (tm_hh q) with
    | none => o = .inr E ∧ h' = h1
    | some hp => ∃ k len2, t_as (decode (tm_by q) hp) = some (k, len2) ∧ k < ls.length ∧ t_nl ls k = true ∧ P d mi (hp + len2) (ls.set k (.float 0)) [] h1 o h'
/-- what a caller sees of a callee's end -/
def t_dc (ci : Nat) (h : tH) : tH := if ci = t_SH then t_dr h else h
def t_cl (P : tR) (q : tM) (d mi pc : Nat) (ls st : List Value) (h : tH) (o : tO) (h' : tH) (len i : Nat) (stat : Bool) : Prop :=
  len = 3 ∧ ∃ ci qc, t_lk t_ct (tm_oc q) i = some ci ∧ t_M[ci]? = some qc ∧ tm_st qc = stat ∧ tm_na qc ≤ st.length ∧ ((st.drop (tm_na qc)).map Value.category).sum ≤ 8 ∧
    (stat = false → ∃ k, (st.take (tm_na qc)).reverse.head? = some (.ref k) ∧ ∃ cj, t_ob k = some cj ∧ t_oci (tm_oc qc) = some cj) ∧ (t_sl (st.take (tm_na qc)).reverse).length ≤ tm_ml qc ∧ t_lev qc (st.take (tm_na qc)).reverse < d ∧
    ∃ o1 h1, P (t_lev qc (st.take (tm_na qc)).reverse) ci 0 (t_ini (st.take (tm_na qc)).reverse (tm_ml qc)) [] h o1 h1 ∧ (ci = t_SH → ∃ x, o1 = .inl (some (.int x))) ∧ t_back P q qc d mi pc ls (st.drop (tm_na qc)) o1 (t_dc ci h1) o h'
def t_do (P : tR) (q : tM) (d mi pc : Nat) (ls st : List Value) (h : tH) (o : tO) (h' : tH) (len : Nat) (ins : Instr) : Prop := match ins with
  | .invokevirtual i => t_cl P q d mi pc ls st h o h' len i false
  | .invokestatic i => if (t_lk t_mt (tm_oc q) i).isSome = true then ((t_st q pc ls st h len (.invokestatic i)).1 ∧ P d mi (t_st q pc ls st h len (.invokestatic i)).2.1 (t_st q pc ls st h len (.invokestatic i)).2.2.1 (t_st q pc ls st h len (.invokestatic i)).2.2.2.1 (t_st q pc ls st h len (.invokestatic i)).2.2.2.2 o h') else t_cl P q d mi pc ls st h o h' len i true
  | .ireturn => len = 1 ∧ ∃ x, st = [.int x] ∧ o = .inl (some (.int x)) ∧ h' = h ∧ (tm_rt q = some .int ∨ (tm_rt q = some .boolean ∧ (x = 0 ∨ x = 1)))
  | .lreturn => len = 1 ∧ ∃ x, st = [.long x] ∧ o = .inl (some (.long x)) ∧ h' = h ∧ tm_rt q = some .long
  | .areturn => len = 1 ∧ ∃ v, st = [v] ∧ (v = .null ∨ ∃ a, v = .ref a) ∧ o = .inl (some v) ∧ h' = h ∧ ∃ C, tm_rt q = some (.object C)
  | .return_ => len = 1 ∧ st = [] ∧ o = .inl none ∧ h' = h ∧ tm_rt q = none
  | .new _ => st = [] ∧ tm_hh q = [] ∧ ∃ E, t_lk t_tt mi pc = some E ∧ o = .inr E ∧ h' = t_X h
  | .newarray t => len = 2 ∧ t = .int ∧ mi = t_SH ∧ st = [.int 4] ∧ h.1 36 0 = 0 ∧ (∀ v ∈ ls, v ≠ .ref 35) ∧ P d mi (pc + 2) ls [.ref 35] (t_A h) o h'
  | ins => (t_st q pc ls st h len ins).1 ∧ P d mi (t_st q pc ls st h len ins).2.1 (t_st q pc ls st h len ins).2.2.1 (t_st q pc ls st h len ins).2.2.2.1 (t_st q pc ls st h len ins).2.2.2.2 o h'
def t_smp (q : tM) (ins : Instr) : Bool := match ins with
  | .invokestatic i => (t_lk t_mt (tm_oc q) i).isSome
  | .invokevirtual _ | .ireturn | .lreturn | .areturn | .return_ | .new _ | .newarray _ => false
  | _ => true
theorem t_do_s {P : tR} {q : tM} {d mi pc : Nat} {ls st : List Value} {h : tH} {o : tO} {h' : tH} {len : Nat} {ins : Instr} (hs : t_smp q ins = true) :
    t_do P q d mi pc ls st h o h' len ins = ((t_st q pc ls st h len ins).1 ∧ P d mi (t_st q pc ls st h len ins).2.1 (t_st q pc ls st h len ins).2.2.1 (t_st q pc ls st h len ins).2.2.2.1 (t_st q pc ls st h len ins).2.2.2.2 o h') := by
  cases ins <;> first | rfl | (simp [t_smp] at hs; done) | (simp only [t_smp] at hs; simp only [t_do, hs, if_true])
theorem t_back_mono {P P' : tR} (hP : ∀ d mi pc ls st h o h', P d mi pc ls st h o h' → P' d mi pc ls st h o h') {q qc d mi pc ls rest o1 h1 o h'} (h : t_back P q qc d mi pc ls rest o1 h1 o h') : t_back P' q qc d mi pc ls rest o1 h1 o h' := by
  unfold t_back at h ⊢
  cases o1 with
  | inl v => exact ⟨h.1, hP _ _ _ _ _ _ _ _ h.2⟩
  | inr E =>
    dsimp only at h ⊢
    cases hh : t_hd (tm_oc q) pc E (tm_hh q) with
    | none => rw [hh] at h; exact h
    | some hp =>
      rw [hh] at h
      obtain ⟨k, len2, a, b, c, e⟩ := h
      exact ⟨k, len2, a, b, c, hP _ _ _ _ _ _ _ _ e⟩
theorem t_cl_mono {P P' : tR} (hP : ∀ d mi pc ls st h o h', P d mi pc ls st h o h' → P' d mi pc ls st h o h') {q d mi pc ls st hh o h' len i stat} (h : t_cl P q d mi pc ls st hh o h' len i stat) : t_cl P' q d mi pc ls st hh o h' len i stat := by
  obtain ⟨a0, ci, qc, a1, a2, a3, a4, a5, a6, a7, a8, o1, h1, a9, a11, a10⟩ := h
  exact ⟨a0, ci, qc, a1, a2, a3, a4, a5, a6, a7, a8, o1, h1, hP _ _ _ _ _ _ _ _ a9, a11, t_back_mono hP a10⟩
theorem t_do_mono {P P' : tR} (hP : ∀ d mi pc ls st h o h', P d mi pc ls st h o h' → P' d mi pc ls st h o h') {q d mi pc ls st h o h' len ins} (hh : t_do P q d mi pc ls st h o h' len ins) : t_do P' q d mi pc ls st h o h' len ins := by
  by_cases hs : t_smp q ins = true
  · rw [t_do_s hs] at hh ⊢
    exact ⟨hh.1, hP _ _ _ _ _ _ _ _ hh.2⟩
  · cases ins <;> first | exact t_cl_mono hP hh | exact hh | exact ⟨hh.1, hh.2.1, hh.2.2.1, hh.2.2.2.1, hh.2.2.2.2.1, hh.2.2.2.2.2.1, hP _ _ _ _ _ _ _ _ hh.2.2.2.2.2.2⟩ | exact absurd rfl hs | (simp only [t_smp] at hs; simp only [t_do, hs, if_false] at hh ⊢; exact t_cl_mono hP hh)
def t_G (P : tR) : tR := fun d mi pc ls st h o h' => ∃ q ins len, t_M[mi]? = some q ∧ decode (tm_by q) pc = .ok (ins, len) ∧ t_do P q d mi pc ls st h o h' len ins
theorem t_G_mono {P P' : tR} (hP : ∀ d mi pc ls st h o h', P d mi pc ls st h o h' → P' d mi pc ls st h o h') {d mi pc ls st h o h'} (hh : t_G P d mi pc ls st h o h') : t_G P' d mi pc ls st h o h' := by
  obtain ⟨q, ins, len, a, b, c⟩ := hh
  exact ⟨q, ins, len, a, b, t_do_mono hP c⟩
/-- from here the machine comes to this end: the least relation that the steps leave -/
def t_Ev : tR := fun d mi pc ls st h o h' => ∀ P : tR, (∀ d mi pc ls st h o h', t_G P d mi pc ls st h o h' → P d mi pc ls st h o h') → P d mi pc ls st h o h'
theorem t_Ev_in {d mi pc ls st h o h'} (hh : t_G t_Ev d mi pc ls st h o h') : t_Ev d mi pc ls st h o h' := by
  intro P hP
  exact hP _ _ _ _ _ _ _ _ (t_G_mono (fun d mi pc ls st h o h' (x : t_Ev d mi pc ls st h o h') => x P hP) hh)
theorem t_Ev_out {d mi pc ls st h o h'} (hh : t_Ev d mi pc ls st h o h') : t_G t_Ev d mi pc ls st h o h' :=
  hh (t_G t_Ev) (fun _ _ _ _ _ _ _ _ x => t_G_mono (fun _ _ _ _ _ _ _ _ y => t_Ev_in y) x)
theorem t_Ev_at {mi pc : Nat} {q : tM} {ins : Instr} {len : Nat} (hq : t_M[mi]? = some q) (hd : decode (tm_by q) pc = .ok (ins, len)) (d : Nat) (ls st : List Value) (h : tH) (o : tO) (h' : tH) :
    t_Ev d mi pc ls st h o h' = t_do t_Ev q d mi pc ls st h o h' len ins := by
  refine propext ⟨fun hh => ?_, fun hh => t_Ev_in ⟨q, ins, len, hq, hd, hh⟩⟩
  obtain ⟨q2, ins2, len2, a, b, c⟩ := t_Ev_out hh
  cases hq.symm.trans a
  cases hd.symm.trans b
  exact c
/-- from here the machine comes to an end of which Q holds -/
def AX (d mi pc : Nat) (ls st : List Value) (h : tH) (Q : tO → tH → Prop) : Prop := ∃ o h', t_Ev d mi pc ls st h o h' ∧ Q o h'
/-- a method, called -/
def AM (ci : Nat) (args : List Value) (h : tH) (Q : tO → tH → Prop) : Prop := ∃ qc, t_M[ci]? = some qc ∧ AX (t_lev qc args) ci 0 (t_ini args (tm_ml qc)) [] h Q
theorem AX_mono {d mi pc ls st h} {Q Q' : tO → tH → Prop} (hh : AX d mi pc ls st h Q) (k : ∀ o h', Q o h' → Q' o h') : AX d mi pc ls st h Q' := by
  obtain ⟨o, h', a, b⟩ := hh
  exact ⟨o, h', a, k _ _ b⟩
theorem AM_mono {ci args h} {Q Q' : tO → tH → Prop} (hh : AM ci args h Q) (k : ∀ o h', Q o h' → Q' o h') : AM ci args h Q' := by
  obtain ⟨qc, a, b⟩ := hh
  exact ⟨qc, a, AX_mono b k⟩
theorem AM_at {ci : Nat} {qc : tM} (hq : t_M[ci]? = some qc) (args : List Value) (h : tH) (Q : tO → tH → Prop) : AM ci args h Q = AX (t_lev qc args) ci 0 (t_ini args (tm_ml qc)) [] h Q := by
  refine propext ⟨fun ⟨q2, a, b⟩ => ?_, fun b => ⟨qc, hq, b⟩⟩
  cases hq.symm.trans a
  exact b
theorem AX_s {mi pc : Nat} {q : tM} {ins : Instr} {len : Nat} (hq : t_M[mi]? = some q) (hd : decode (tm_by q) pc = .ok (ins, len)) (hs : t_smp q ins = true) (d : Nat) (ls st : List Value) (h : tH) (Q : tO → tH → Prop) :
    AX d mi pc ls st h Q = ((t_st q pc ls st h len ins).1 ∧ AX d mi (t_st q pc ls st h len ins).2.1 (t_st q pc ls st h len ins).2.2.1 (t_st q pc ls st h len ins).2.2.2.1 (t_st q pc ls st h len ins).2.2.2.2 Q) := by
  unfold AX
  refine propext ⟨fun ⟨o, h', a, b⟩ => ?_, fun ⟨g, o, h', a, b⟩ => ⟨o, h', ?_, b⟩⟩
  · rw [t_Ev_at hq hd, t_do_s hs] at a
    exact ⟨a.1, o, h', a.2, b⟩
  · rw [t_Ev_at hq hd, t_do_s hs]
    exact ⟨g, a⟩
/-- the step's data, told apart: what holds, and where it goes on -/
theorem AX_t {mi pc : Nat} {q : tM} {ins : Instr} {len : Nat} (hq : t_M[mi]? = some q) (hd : decode (tm_by q) pc = .ok (ins, len)) (hs : t_smp q ins = true) {d : Nat} {ls st : List Value} {h : tH} {Q : tO → tH → Prop} {g g' : Prop} {pc' : Nat} {ls' st' : List Value} {h' : tH}
    (e : t_st q pc ls st h len ins = (g, pc', ls', st', h')) (hg : g = g') : AX d mi pc ls st h Q = (g' ∧ AX d mi pc' ls' st' h' Q) := by
  rw [AX_s hq hd hs, e, hg]
theorem AX_tt {mi pc : Nat} {q : tM} {ins : Instr} {len : Nat} (hq : t_M[mi]? = some q) (hd : decode (tm_by q) pc = .ok (ins, len)) (hs : t_smp q ins = true) {d : Nat} {ls st : List Value} {h : tH} {Q : tO → tH → Prop} {g : Prop} {pc' : Nat} {ls' st' : List Value} {h' : tH}
    (e : t_st q pc ls st h len ins = (g, pc', ls', st', h')) (hg : g) : AX d mi pc ls st h Q = AX d mi pc' ls' st' h' Q := by
  rw [AX_s hq hd hs, e]
  exact propext ⟨fun x => x.2, fun x => ⟨hg, x⟩⟩
/-- behind a call that answers a number, a long, nothing, a thing, a thing or null -/
def t_ki (f : Int32 → tH → Prop) (Q : tO → tH → Prop) : tO → tH → Prop := fun o h => match o with
  | .inl (some (.int r)) => f r h
  | .inr E => Q (.inr E) h
  | _ => False
def t_kl (f : Int64 → tH → Prop) (Q : tO → tH → Prop) : tO → tH → Prop := fun o h => match o with
  | .inl (some (.long r)) => f r h
  | .inr E => Q (.inr E) h
  | _ => False
def t_kv (f : tH → Prop) (Q : tO → tH → Prop) : tO → tH → Prop := fun o h => match o with
  | .inl none => f h
  | .inr E => Q (.inr E) h
  | _ => False
def t_kq (f : Option Nat → tH → Prop) (Q : tO → tH → Prop) : tO → tH → Prop := fun o h => match o with
  | .inl (some (.ref r)) => f (some r) h
  | .inl (some .null) => f none h
  | .inr E => Q (.inr E) h
  | _ => False
/-- behind a call, with the caller's own table -/
def t_kb (q qc : tM) (d mi pc : Nat) (ls rest : List Value) (Q : tO → tH → Prop) : tO → tH → Prop := fun o1 h1 => match o1 with
  | .inl v => t_tyo (tm_rt qc) v ∧ AX d mi (pc + 3) ls (v.toList ++ rest) h1 Q
  | .inr E => match t_hd (tm_oc q) pc E (tm_hh q) with
    | none => Q (.inr E) h1
    | some hp => ∃ k len2, t_as (decode (tm_by q) hp) = some (k, len2) ∧ k < ls.length ∧ t_nl ls k = true ∧ AX d mi (hp + len2) (ls.set k (.float 0)) [] h1 Q
theorem t_back_AX {q qc : tM} {d mi pc : Nat} {ls rest : List Value} {Q : tO → tH → Prop} {o1 : tO} {h1 : tH} : (∃ o h', t_back t_Ev q qc d mi pc ls rest o1 h1 o h' ∧ Q o h') ↔ t_kb q qc d mi pc ls rest Q o1 h1 := by
  unfold t_back t_kb AX
  cases o1 with
  | inl v =>
    dsimp only
    exact ⟨fun ⟨o, h', ⟨a, b⟩, c⟩ => ⟨a, o, h', b, c⟩, fun ⟨a, o, h', b, c⟩ => ⟨o, h', ⟨a, b⟩, c⟩⟩
  | inr E =>
    dsimp only
    cases hh : t_hd (tm_oc q) pc E (tm_hh q) with
    | none =>
      dsimp only
      exact ⟨fun ⟨o, h', ⟨a, b⟩, c⟩ => by rw [a, b] at c; exact c, fun c => ⟨_, _, ⟨rfl, rfl⟩, c⟩⟩
    | some hp =>
      dsimp only
      exact ⟨fun ⟨o, h', ⟨k, len2, a, b, c, e⟩, f⟩ => ⟨k, len2, a, b, c, o, h', e, f⟩, fun ⟨k, len2, a, b, c, o, h', e, f⟩ => ⟨o, h', ⟨k, len2, a, b, c, e⟩, f⟩⟩
/-- a call -/
theorem AX_c {mi pc i ci : Nat} {q qc : tM} {ins : Instr} {stat : Bool} (hq : t_M[mi]? = some q) (hd : decode (tm_by q) pc = .ok (ins, 3)) (hi : (ins = .invokevirtual i ∧ stat = false) ∨ (ins = .invokestatic i ∧ t_lk t_mt (tm_oc q) i = none ∧ stat = true))
    (hc : t_lk t_ct (tm_oc q) i = some ci) (hqc : t_M[ci]? = some qc) (hs : tm_st qc = stat) {d : Nat} {ls st as rest : List Value} {h : tH} {Q : tO → tH → Prop}
    (hn : tm_na qc ≤ st.length) (ha : (st.take (tm_na qc)).reverse = as) (hr : st.drop (tm_na qc) = rest) (hw : (rest.map Value.category).sum ≤ 8) (hl : (t_sl as).length ≤ tm_ml qc) (hne : (ci == t_SH) = false := by rfl) :
    AX d mi pc ls st h Q = (((stat = false → ∃ k, as.head? = some (.ref k) ∧ ∃ cj, t_ob k = some cj ∧ t_oci (tm_oc qc) = some cj) ∧ t_lev qc as < d) ∧ AM ci as h (t_kb q qc d mi pc ls rest Q)) := by
  have hdo : ∀ o h', t_do t_Ev q d mi pc ls st h o h' 3 ins = t_cl t_Ev q d mi pc ls st h o h' 3 i stat := by
    intro o h'
    rcases hi with ⟨rfl, rfl⟩ | ⟨rfl, h9, rfl⟩
    · rfl
    · simp only [t_do, h9, Option.isSome_none, Bool.false_eq_true, if_false]
  have hdc : ∀ u, t_dc ci u = u := fun u => if_neg (by simpa using hne)
  rw [AM_at hqc]
  refine propext ⟨fun ⟨o, h', a, b⟩ => ?_, fun ⟨⟨g1, g2⟩, o1, h1, a, b⟩ => ?_⟩
  · rw [t_Ev_at hq hd, hdo] at a
    obtain ⟨a0, ci2, qc2, a1, a2, a3, a4, a5, a6, a7, a8, o1, h1, a9, -, a10⟩ := a
    cases hc.symm.trans a1
    cases hqc.symm.trans a2
    rw [ha] at a6 a7 a8 a9
    rw [hr, hdc] at a10
    exact ⟨⟨a6, a8⟩, o1, h1, a9, t_back_AX.mp ⟨o, h', a10, b⟩⟩
  · obtain ⟨o, h', c, e⟩ := t_back_AX.mpr b
    refine ⟨o, h', ?_, e⟩
    rw [t_Ev_at hq hd, hdo]
    refine ⟨rfl, ci, qc, hc, hqc, hs, hn, by rw [hr]; exact hw, by rw [ha]; exact g1, by rw [ha]; exact hl, by rw [ha]; exact g2, o1, h1, by rw [ha]; exact a, fun z => absurd z (by simpa using hne), by rw [hr, hdc]; exact c⟩
theorem t_kb_i {q qc : tM} {d mi pc : Nat} {ls rest : List Value} {Q : tO → tH → Prop} (hh : tm_hh q = []) {ty : FieldType} (hr : tm_rt qc = some ty) (ht : ty = .int ∨ ty = .boolean) : t_kb q qc d mi pc ls rest Q = t_ki (fun r h1 => AX d mi (pc + 3) ls (.int r :: rest) h1 Q) Q := by
  funext o h
  unfold t_kb t_ki
  rw [hh, hr]
  cases o with
  | inl v => rcases ht with rfl | rfl <;> (cases v with
    | none => simp [t_tyo]
    | some v => cases v <;> simp [t_tyo, va_rf])
  | inr E => rfl
theorem t_kb_l {q qc : tM} {d mi pc : Nat} {ls rest : List Value} {Q : tO → tH → Prop} (hh : tm_hh q = []) (hr : tm_rt qc = some .long) : t_kb q qc d mi pc ls rest Q = t_kl (fun r h1 => AX d mi (pc + 3) ls (.long r :: rest) h1 Q) Q := by
  funext o h
  unfold t_kb t_kl
  rw [hh, hr]
  cases o with
  | inl v => cases v with
    | none => simp [t_tyo]
    | some v => cases v <;> simp [t_tyo]
  | inr E => rfl
theorem t_kb_v {q qc : tM} {d mi pc : Nat} {ls rest : List Value} {Q : tO → tH → Prop} (hh : tm_hh q = []) (hr : tm_rt qc = none) : t_kb q qc d mi pc ls rest Q = t_kv (fun h1 => AX d mi (pc + 3) ls rest h1 Q) Q := by
  funext o h
  unfold t_kb t_kv
  rw [hh, hr]
  cases o with
  | inl v => cases v with
    | none => simp [t_tyo]
    | some v => simp [t_tyo]
  | inr E => rfl
theorem t_kb_q {q qc : tM} {d mi pc : Nat} {ls rest : List Value} {Q : tO → tH → Prop} (hh : tm_hh q = []) {C : String} (hr : tm_rt qc = some (.object C)) : t_kb q qc d mi pc ls rest Q = t_kq (fun r h1 => AX d mi (pc + 3) ls (va_rf r :: rest) h1 Q) Q := by
  funext o h
  unfold t_kb t_kq
  rw [hh, hr]
  cases o with
  | inl v => cases v with
    | none => simp [t_tyo]
    | some v => cases v with
      | null => simp only [t_tyo]; exact propext ⟨fun x => x.2, fun x => ⟨⟨none, rfl⟩, x⟩⟩
      | ref a => simp only [t_tyo]; exact propext ⟨fun x => x.2, fun x => ⟨⟨some a, rfl⟩, x⟩⟩
      | _ => simp only [t_tyo]; refine propext ⟨fun ⟨⟨x, hx⟩, _⟩ => ?_, fun x => x.elim⟩; cases x <;> cases hx
  | inr E => rfl
/-- the ends of a method -/
theorem AX_ri {mi pc : Nat} {q : tM} (hq : t_M[mi]? = some q) (hd : decode (tm_by q) pc = .ok (.ireturn, 1)) (hr : tm_rt q = some .int) {d : Nat} {ls : List Value} {x : Int32} {h : tH} {Q : tO → tH → Prop} : AX d mi pc ls [.int x] h Q = Q (.inl (some (.int x))) h := by
  refine propext ⟨fun ⟨o, h', a, b⟩ => ?_, fun b => ⟨_, _, ?_, b⟩⟩
  · rw [t_Ev_at hq hd] at a
    obtain ⟨-, y, e1, e2, e3, -⟩ := a
    cases e1
    rw [e2, e3] at b
    exact b
  · rw [t_Ev_at hq hd]
    exact ⟨rfl, x, rfl, rfl, rfl, Or.inl hr⟩
theorem AX_rz {mi pc : Nat} {q : tM} (hq : t_M[mi]? = some q) (hd : decode (tm_by q) pc = .ok (.ireturn, 1)) (hr : tm_rt q = some .boolean) {d : Nat} {ls : List Value} {x : Int32} {h : tH} {Q : tO → tH → Prop} : AX d mi pc ls [.int x] h Q = ((x = 0 ∨ x = 1) ∧ Q (.inl (some (.int x))) h) := by
  refine propext ⟨fun ⟨o, h', a, b⟩ => ?_, fun ⟨g, b⟩ => ⟨_, _, ?_, b⟩⟩
  · rw [t_Ev_at hq hd] at a
    obtain ⟨-, y, e1, e2, e3, e4⟩ := a
    cases e1
    rw [e2, e3] at b
    rw [hr] at e4
    rcases e4 with e4 | e4
    · cases e4
    · exact ⟨e4.2, b⟩
  · rw [t_Ev_at hq hd]
    exact ⟨rfl, x, rfl, rfl, rfl, Or.inr ⟨hr, g⟩⟩
theorem AX_rl {mi pc : Nat} {q : tM} (hq : t_M[mi]? = some q) (hd : decode (tm_by q) pc = .ok (.lreturn, 1)) (hr : tm_rt q = some .long) {d : Nat} {ls : List Value} {x : Int64} {h : tH} {Q : tO → tH → Prop} : AX d mi pc ls [.long x] h Q = Q (.inl (some (.long x))) h := by
  refine propext ⟨fun ⟨o, h', a, b⟩ => ?_, fun b => ⟨_, _, ?_, b⟩⟩
  · rw [t_Ev_at hq hd] at a
    obtain ⟨-, y, e1, e2, e3, -⟩ := a
    cases e1
    rw [e2, e3] at b
    exact b
  · rw [t_Ev_at hq hd]
    exact ⟨rfl, x, rfl, rfl, rfl, hr⟩
theorem AX_rv {mi pc : Nat} {q : tM} (hq : t_M[mi]? = some q) (hd : decode (tm_by q) pc = .ok (.return_, 1)) (hr : tm_rt q = none) {d : Nat} {ls : List Value} {h : tH} {Q : tO → tH → Prop} : AX d mi pc ls [] h Q = Q (.inl none) h := by
  refine propext ⟨fun ⟨o, h', a, b⟩ => ?_, fun b => ⟨_, _, ?_, b⟩⟩
  · rw [t_Ev_at hq hd] at a
    obtain ⟨-, -, e2, e3, -⟩ := a
    rw [e2, e3] at b
    exact b
  · rw [t_Ev_at hq hd]
    exact ⟨rfl, rfl, rfl, rfl, hr⟩
theorem AX_ra {mi pc : Nat} {q : tM} (hq : t_M[mi]? = some q) (hd : decode (tm_by q) pc = .ok (.areturn, 1)) {C : String} (hr : tm_rt q = some (.object C)) {d : Nat} {ls : List Value} {x : Option Nat} {h : tH} {Q : tO → tH → Prop} : AX d mi pc ls [va_rf x] h Q = Q (.inl (some (va_rf x))) h := by
  refine propext ⟨fun ⟨o, h', a, b⟩ => ?_, fun b => ⟨_, _, ?_, b⟩⟩
  · rw [t_Ev_at hq hd] at a
    obtain ⟨-, y, e1, -, e2, e3, -⟩ := a
    cases e1
    rw [e2, e3] at b
    exact b
  · rw [t_Ev_at hq hd]
    exact ⟨rfl, _, rfl, by cases x with | none => exact Or.inl rfl | some a => exact Or.inr ⟨a, rfl⟩, rfl, rfl, C, hr⟩
/-- throw new E("..") -/
theorem AX_th {mi pc i E len : Nat} {q : tM} (hq : t_M[mi]? = some q) (hd : decode (tm_by q) pc = .ok (.new i, len)) (hh : tm_hh q = []) (ht : t_lk t_tt mi pc = some E) {d : Nat} {ls : List Value} {h : tH} {Q : tO → tH → Prop} : AX d mi pc ls [] h Q = Q (.inr E) (t_X h) := by
  refine propext ⟨fun ⟨o, h', a, b⟩ => ?_, fun b => ⟨_, _, ?_, b⟩⟩
  · rw [t_Ev_at hq hd] at a
    obtain ⟨-, -, E2, e1, e2, e3⟩ := a
    cases ht.symm.trans e1
    rw [e2, e3] at b
    exact b
  · rw [t_Ev_at hq hd]
    exact ⟨rfl, hh, E, ht, rfl, rfl⟩
/-- the call of the method that makes a row -/
def t_kd (f : Int32 → tH → Prop) : tO → tH → Prop := fun o h => match o with
  | .inl (some (.int r)) => f r (t_dr h)
  | _ => False
theorem AX_cs {mi pc i : Nat} {q qc : tM} (hq : t_M[mi]? = some q) (hd : decode (tm_by q) pc = .ok (.invokestatic i, 3)) (h9 : t_lk t_mt (tm_oc q) i = none)
    (hc : t_lk t_ct (tm_oc q) i = some t_SH) (hqc : t_M[t_SH]? = some qc) (hs : tm_st qc = true) (hrt : tm_rt qc = some .boolean) {d : Nat} {ls st as rest : List Value} {h : tH} {Q : tO → tH → Prop}
    (hn : tm_na qc ≤ st.length) (ha : (st.take (tm_na qc)).reverse = as) (hr : st.drop (tm_na qc) = rest) (hw : (rest.map Value.category).sum ≤ 8) (hl : (t_sl as).length ≤ tm_ml qc) (hlev : t_lev qc as < d) :
    AX d mi pc ls st h Q = AM t_SH as h (t_kd (fun r h1 => AX d mi (pc + 3) ls (.int r :: rest) h1 Q)) := by
  have hdo : ∀ o h', t_do t_Ev q d mi pc ls st h o h' 3 (.invokestatic i) = t_cl t_Ev q d mi pc ls st h o h' 3 i true := by
    intro o h'
    simp only [t_do, h9, Option.isSome_none, Bool.false_eq_true, if_false]
  rw [AM_at hqc]
  have hdc : ∀ u, t_dc t_SH u = t_dr u := fun u => if_pos rfl
  refine propext ⟨fun ⟨o, h', a, b⟩ => ?_, fun ⟨o1, h1, a, b⟩ => ?_⟩
  · rw [t_Ev_at hq hd, hdo] at a
    obtain ⟨a0, ci2, qc2, a1, a2, a3, a4, a5, a6, a7, a8, o1, h1, a9, a11, a10⟩ := a
    cases hc.symm.trans a1
    cases hqc.symm.trans a2
    rw [ha] at a6 a7 a8 a9
    rw [hr, hdc] at a10
    obtain ⟨x, rfl⟩ := a11 rfl
    exact ⟨_, h1, a9, o, h', a10.2, b⟩
  · unfold t_kd at b
    split at b
    · rename_i r
      obtain ⟨o, h', c, e⟩ := b
      refine ⟨o, h', ?_, e⟩
      rw [t_Ev_at hq hd, hdo]
      refine ⟨rfl, t_SH, qc, hc, hqc, hs, hn, by rw [hr]; exact hw, fun z => (nomatch z), by rw [ha]; exact hl, by rw [ha]; exact hlev, _, h1, by rw [ha]; exact a, fun _ => ⟨r, rfl⟩, ?_⟩
      rw [hr, hdc]
      exact ⟨by rw [hrt]; exact ⟨r, rfl⟩, c⟩
    · exact b.elim
theorem AX_na {mi pc : Nat} {q : tM} (hq : t_M[mi]? = some q) (hd : decode (tm_by q) pc = .ok (.newarray .int, 2)) (hm : mi = t_SH) {d : Nat} {ls : List Value} {h : tH} {Q : tO → tH → Prop} :
    AX d mi pc ls [.int 4] h Q = ((h.1 36 0 = 0 ∧ ∀ v ∈ ls, v ≠ .ref 35) ∧ AX d mi (pc + 2) ls [.ref 35] (t_A h) Q) := by
  unfold AX
  refine propext ⟨fun ⟨o, h', a, b⟩ => ?_, fun ⟨g, o, h', a, b⟩ => ⟨o, h', ?_, b⟩⟩
  · rw [t_Ev_at hq hd] at a
    obtain ⟨-, -, -, -, a1, a2, a3⟩ := a
    exact ⟨⟨a1, a2⟩, o, h', a3, b⟩
  · rw [t_Ev_at hq hd]
    exact ⟨rfl, rfl, hm, rfl, g.1, g.2, a⟩
