/-! ===== the law's helpers ===== -/
/-- from this call on the machine ends so -/
def rn (mi : Nat) (as : List Value) (h : tH) (r : tO) (h' : tH) : Prop := ∀ Q : tO → tH → Prop, AM mi as h Q = Q r h'
theorem t_kb_E {q qc : tM} {d mi pc : Nat} {ls rest : List Value} {Q : tO → tH → Prop} {E hp k len2 : Nat} {h : tH} (h1 : t_hd (tm_oc q) pc E (tm_hh q) = some hp) (h2 : t_as (decode (tm_by q) hp) = some (k, len2)) (h3 : k < ls.length) (h4 : t_nl ls k = true) :
    t_kb q qc d mi pc ls rest Q (.inr E) h = AX d mi (hp + len2) (ls.set k (.float 0)) [] h Q := by
  unfold t_kb
  dsimp only
  rw [h1]
  dsimp only
  refine propext ⟨fun ⟨k', l', a, b, c, x⟩ => ?_, fun x => ⟨k, len2, h2, h3, h4, x⟩⟩
  rw [h2] at a
  cases a
  exact x
theorem t_kb_V {q qc : tM} {d mi pc : Nat} {ls rest : List Value} {Q : tO → tH → Prop} {v : Option Value} {h : tH} (h1 : t_tyo (tm_rt qc) v) :
    t_kb q qc d mi pc ls rest Q (.inl v) h = AX d mi (pc + 3) ls (v.toList ++ rest) h Q := by
  unfold t_kb
  dsimp only
  exact propext ⟨fun x => x.2, fun x => ⟨h1, x⟩⟩
theorem t_in_32 : t_in (t_lo 32) 0 := ⟨1, rfl, vp_in_nI (n := 0) (N := 1) (by decide) (by decide)⟩
def i64b (b : Bool) : Int64 := if b = true then 1 else 0
theorem r_172 {x1 x2 : Int32} {h h1 : tH} {v : Int32} (hr : rn 62 [.ref 0, .int x1, .int x2] h (.inl (some (.int v))) h1) : rn 172 [.ref 0, .int x1, .int x2, .ref 32] h (.inl (some (.int 0))) (t_L h1 32 0 v.toInt64) := by
  intro Q
  rw [am_172, s_172_0, hr]
  rw [t_kb_V (show t_tyo (tm_rt tq_62) _ from ⟨_, rfl⟩)]
  simp only [Option.toList, List.cons_append, List.nil_append, Nat.reduceAdd, e_172_8, e_172_9, e_172_10, e_172_15, e_172_16, e_172_19, e_172_20, e_172_21, e_172_22]
  have hz : t_ob 0 = some 0 := rfl
  have hi := t_in_32
  simp [hz, hi, t_z0]
theorem r_172_e0 {x1 x2 : Int32} {h h1 : tH} (hr : rn 62 [.ref 0, .int x1, .int x2] h (.inr 0) h1) : rn 172 [.ref 0, .int x1, .int x2, .ref 32] h (.inl (some (.int 1))) h1 := by
  intro Q
  rw [am_172, s_172_0, hr]
  rw [t_kb_E (hp := 13) (k := 4) (len2 := 2) (by decide) (by decide +kernel) (Nat.le_of_ble_eq_true rfl) rfl]
  simp only [List.set, Nat.reduceAdd, s_172_15]
  exact propext ⟨fun x => x.2, fun x => ⟨rfl, x⟩⟩
theorem r_172_e1 {x1 x2 : Int32} {h h1 : tH} (hr : rn 62 [.ref 0, .int x1, .int x2] h (.inr 1) h1) : rn 172 [.ref 0, .int x1, .int x2, .ref 32] h (.inl (some (.int 2))) h1 := by
  intro Q
  rw [am_172, s_172_0, hr]
  rw [t_kb_E (hp := 17) (k := 4) (len2 := 2) (by decide) (by decide +kernel) (Nat.le_of_ble_eq_true rfl) rfl]
  simp only [List.set, Nat.reduceAdd, s_172_19]
  exact propext ⟨fun x => x.2, fun x => ⟨rfl, x⟩⟩
theorem r_173 {x1 : Int32} {h h1 : tH} {v : Int32} (hr : rn 64 [.ref 0, .int x1] h (.inl (some (.int v))) h1) : rn 173 [.ref 0, .int x1, .ref 32] h (.inl (some (.int 0))) (t_L h1 32 0 v.toInt64) := by
  intro Q
  rw [am_173, s_173_0, hr]
  rw [t_kb_V (show t_tyo (tm_rt tq_64) _ from ⟨_, rfl⟩)]
  simp only [Option.toList, List.cons_append, List.nil_append, Nat.reduceAdd, e_173_7, e_173_8, e_173_9, e_173_13, e_173_14, e_173_16, e_173_17, e_173_18, e_173_19]
  have hz : t_ob 0 = some 0 := rfl
  have hi := t_in_32
  simp [hz, hi, t_z0]
theorem r_173_e0 {x1 : Int32} {h h1 : tH} (hr : rn 64 [.ref 0, .int x1] h (.inr 0) h1) : rn 173 [.ref 0, .int x1, .ref 32] h (.inl (some (.int 1))) h1 := by
  intro Q
  rw [am_173, s_173_0, hr]
  rw [t_kb_E (hp := 12) (k := 3) (len2 := 1) (by decide) (by decide +kernel) (Nat.le_of_ble_eq_true rfl) rfl]
  simp only [List.set, Nat.reduceAdd, s_173_13]
  exact propext ⟨fun x => x.2, fun x => ⟨rfl, x⟩⟩
theorem r_173_e1 {x1 : Int32} {h h1 : tH} (hr : rn 64 [.ref 0, .int x1] h (.inr 1) h1) : rn 173 [.ref 0, .int x1, .ref 32] h (.inl (some (.int 2))) h1 := by
  intro Q
  rw [am_173, s_173_0, hr]
  rw [t_kb_E (hp := 15) (k := 3) (len2 := 1) (by decide) (by decide +kernel) (Nat.le_of_ble_eq_true rfl) rfl]
  simp only [List.set, Nat.reduceAdd, s_173_16]
  exact propext ⟨fun x => x.2, fun x => ⟨rfl, x⟩⟩
theorem r_174 {x1 : Int32} {h h1 : tH} {v : Int32} (hr : rn 66 [.ref 0, .int x1] h (.inl (some (.int v))) h1) : rn 174 [.ref 0, .int x1, .ref 32] h (.inl (some (.int 0))) (t_L h1 32 0 v.toInt64) := by
  intro Q
  rw [am_174, s_174_0, hr]
  rw [t_kb_V (show t_tyo (tm_rt tq_66) _ from ⟨_, rfl⟩)]
  simp only [Option.toList, List.cons_append, List.nil_append, Nat.reduceAdd, e_174_7, e_174_8, e_174_9, e_174_13, e_174_14, e_174_15, e_174_16]
  have hz : t_ob 0 = some 0 := rfl
  have hi := t_in_32
  simp [hz, hi, t_z0]
theorem r_174_e0 {x1 : Int32} {h h1 : tH} (hr : rn 66 [.ref 0, .int x1] h (.inr 0) h1) : rn 174 [.ref 0, .int x1, .ref 32] h (.inl (some (.int 1))) h1 := by
  intro Q
  rw [am_174, s_174_0, hr]
  rw [t_kb_E (hp := 12) (k := 3) (len2 := 1) (by decide) (by decide +kernel) (Nat.le_of_ble_eq_true rfl) rfl]
  simp only [List.set, Nat.reduceAdd, s_174_13]
  exact propext ⟨fun x => x.2, fun x => ⟨rfl, x⟩⟩
theorem r_175 {h h1 : tH} {v : Int32} (hr : rn 68 [.ref 0] h (.inl (some (.int v))) h1) : rn 175 [.ref 0, .ref 32] h (.inl (some (.int 0))) (t_L h1 32 0 v.toInt64) := by
  intro Q
  rw [am_175, s_175_0, hr]
  rw [t_kb_V (show t_tyo (tm_rt tq_68) _ from ⟨_, rfl⟩)]
  simp only [Option.toList, List.cons_append, List.nil_append, Nat.reduceAdd, e_175_6, e_175_7, e_175_8, e_175_12, e_175_13, e_175_14, e_175_15]
  have hz : t_ob 0 = some 0 := rfl
  have hi := t_in_32
  simp [hz, hi, t_z0]
theorem r_175_e1 {h h1 : tH} (hr : rn 68 [.ref 0] h (.inr 1) h1) : rn 175 [.ref 0, .ref 32] h (.inl (some (.int 1))) h1 := by
  intro Q
  rw [am_175, s_175_0, hr]
  rw [t_kb_E (hp := 11) (k := 2) (len2 := 1) (by decide) (by decide +kernel) (Nat.le_of_ble_eq_true rfl) rfl]
  simp only [List.set, Nat.reduceAdd, s_175_12]
  exact propext ⟨fun x => x.2, fun x => ⟨rfl, x⟩⟩
theorem r_176 {x1 : Int32} {h h1 : tH} {v : Int32} (hr : rn 69 [.ref 0, .int x1] h (.inl (some (.int v))) h1) : rn 176 [.ref 0, .int x1, .ref 32] h (.inl (some (.int 0))) (t_L h1 32 0 v.toInt64) := by
  intro Q
  rw [am_176, s_176_0, hr]
  rw [t_kb_V (show t_tyo (tm_rt tq_69) _ from ⟨_, rfl⟩)]
  simp only [Option.toList, List.cons_append, List.nil_append, Nat.reduceAdd, e_176_7, e_176_8, e_176_9, e_176_13, e_176_14, e_176_16, e_176_17, e_176_18, e_176_19]
  have hz : t_ob 0 = some 0 := rfl
  have hi := t_in_32
  simp [hz, hi, t_z0]
theorem r_176_e0 {x1 : Int32} {h h1 : tH} (hr : rn 69 [.ref 0, .int x1] h (.inr 0) h1) : rn 176 [.ref 0, .int x1, .ref 32] h (.inl (some (.int 1))) h1 := by
  intro Q
  rw [am_176, s_176_0, hr]
  rw [t_kb_E (hp := 12) (k := 3) (len2 := 1) (by decide) (by decide +kernel) (Nat.le_of_ble_eq_true rfl) rfl]
  simp only [List.set, Nat.reduceAdd, s_176_13]
  exact propext ⟨fun x => x.2, fun x => ⟨rfl, x⟩⟩
theorem r_176_e1 {x1 : Int32} {h h1 : tH} (hr : rn 69 [.ref 0, .int x1] h (.inr 1) h1) : rn 176 [.ref 0, .int x1, .ref 32] h (.inl (some (.int 2))) h1 := by
  intro Q
  rw [am_176, s_176_0, hr]
  rw [t_kb_E (hp := 15) (k := 3) (len2 := 1) (by decide) (by decide +kernel) (Nat.le_of_ble_eq_true rfl) rfl]
  simp only [List.set, Nat.reduceAdd, s_176_16]
  exact propext ⟨fun x => x.2, fun x => ⟨rfl, x⟩⟩
theorem r_177 {x1 x2 : Int32} {h h1 : tH} {v : Int32} (hr : rn 70 [.ref 0, .int x1, .int x2] h (.inl (some (.int v))) h1) : rn 177 [.ref 0, .int x1, .int x2, .ref 32] h (.inl (some (.int 0))) (t_L h1 32 0 v.toInt64) := by
  intro Q
  rw [am_177, s_177_0, hr]
  rw [t_kb_V (show t_tyo (tm_rt tq_70) _ from ⟨_, rfl⟩)]
  simp only [Option.toList, List.cons_append, List.nil_append, Nat.reduceAdd, e_177_8, e_177_9, e_177_10, e_177_15, e_177_16, e_177_19, e_177_20, e_177_21, e_177_22]
  have hz : t_ob 0 = some 0 := rfl
  have hi := t_in_32
  simp [hz, hi, t_z0]
theorem r_177_e2 {x1 x2 : Int32} {h h1 : tH} (hr : rn 70 [.ref 0, .int x1, .int x2] h (.inr 2) h1) : rn 177 [.ref 0, .int x1, .int x2, .ref 32] h (.inl (some (.int 1))) h1 := by
  intro Q
  rw [am_177, s_177_0, hr]
  rw [t_kb_E (hp := 13) (k := 4) (len2 := 2) (by decide) (by decide +kernel) (Nat.le_of_ble_eq_true rfl) rfl]
  simp only [List.set, Nat.reduceAdd, s_177_15]
  exact propext ⟨fun x => x.2, fun x => ⟨rfl, x⟩⟩
theorem r_177_e1 {x1 x2 : Int32} {h h1 : tH} (hr : rn 70 [.ref 0, .int x1, .int x2] h (.inr 1) h1) : rn 177 [.ref 0, .int x1, .int x2, .ref 32] h (.inl (some (.int 2))) h1 := by
  intro Q
  rw [am_177, s_177_0, hr]
  rw [t_kb_E (hp := 17) (k := 4) (len2 := 2) (by decide) (by decide +kernel) (Nat.le_of_ble_eq_true rfl) rfl]
  simp only [List.set, Nat.reduceAdd, s_177_19]
  exact propext ⟨fun x => x.2, fun x => ⟨rfl, x⟩⟩
theorem r_178 {x1 x2 x3 x4 : Int32} {h h1 : tH} {b : Bool} (hr : rn 71 [.ref 0, .int x1, .int x2, .int x3, .int x4] h (.inl (some (.int (zb b)))) h1) : rn 178 [.ref 0, .int x1, .int x2, .int x3, .int x4, .ref 32] h (.inl (some (.int 0))) (t_L h1 32 0 (i64b b)) := by
  intro Q
  rw [am_178, s_178_0, hr]
  rw [t_kb_V (show t_tyo (tm_rt tq_71) _ from ⟨_, rfl⟩)]
  simp only [Option.toList, List.cons_append, List.nil_append, Nat.reduceAdd, e_178_12, e_178_15, e_178_16, e_178_19, e_178_20, e_178_21, e_178_26, e_178_27, e_178_30, e_178_31, e_178_32, e_178_33]
  have hz : t_ob 0 = some 0 := rfl
  have hi := t_in_32
  cases b <;> simp [zb, i64b, hz, hi, t_z0]
theorem r_178_e2 {x1 x2 x3 x4 : Int32} {h h1 : tH} (hr : rn 71 [.ref 0, .int x1, .int x2, .int x3, .int x4] h (.inr 2) h1) : rn 178 [.ref 0, .int x1, .int x2, .int x3, .int x4, .ref 32] h (.inl (some (.int 1))) h1 := by
  intro Q
  rw [am_178, s_178_0, hr]
  rw [t_kb_E (hp := 24) (k := 6) (len2 := 2) (by decide) (by decide +kernel) (Nat.le_of_ble_eq_true rfl) rfl]
  simp only [List.set, Nat.reduceAdd, s_178_26]
  exact propext ⟨fun x => x.2, fun x => ⟨rfl, x⟩⟩
theorem r_178_e0 {x1 x2 x3 x4 : Int32} {h h1 : tH} (hr : rn 71 [.ref 0, .int x1, .int x2, .int x3, .int x4] h (.inr 0) h1) : rn 178 [.ref 0, .int x1, .int x2, .int x3, .int x4, .ref 32] h (.inl (some (.int 2))) h1 := by
  intro Q
  rw [am_178, s_178_0, hr]
  rw [t_kb_E (hp := 28) (k := 6) (len2 := 2) (by decide) (by decide +kernel) (Nat.le_of_ble_eq_true rfl) rfl]
  simp only [List.set, Nat.reduceAdd, s_178_30]
  exact propext ⟨fun x => x.2, fun x => ⟨rfl, x⟩⟩
theorem r_179 {x1 x2 x3 : Int32} {h h1 : tH} (hr : rn 72 [.ref 0, .int x1, .int x2, .int x3] h (.inl none) h1) : rn 179 [.ref 0, .int x1, .int x2, .int x3] h (.inl (some (.int 0))) h1 := by
  intro Q
  rw [am_179, s_179_0, hr]
  rw [t_kb_V (show t_tyo (tm_rt tq_72) _ from rfl)]
  simp only [Option.toList, List.nil_append, Nat.reduceAdd, e_179_7, e_179_12, e_179_13, e_179_16, e_179_17, e_179_18, e_179_19]
  exact propext ⟨fun x => x.2, fun x => ⟨rfl, x⟩⟩
theorem r_179_e2 {x1 x2 x3 : Int32} {h h1 : tH} (hr : rn 72 [.ref 0, .int x1, .int x2, .int x3] h (.inr 2) h1) : rn 179 [.ref 0, .int x1, .int x2, .int x3] h (.inl (some (.int 1))) h1 := by
  intro Q
  rw [am_179, s_179_0, hr]
  rw [t_kb_E (hp := 10) (k := 4) (len2 := 2) (by decide) (by decide +kernel) (Nat.le_of_ble_eq_true rfl) rfl]
  simp only [List.set, Nat.reduceAdd, s_179_12]
  exact propext ⟨fun x => x.2, fun x => ⟨rfl, x⟩⟩
theorem r_179_e0 {x1 x2 x3 : Int32} {h h1 : tH} (hr : rn 72 [.ref 0, .int x1, .int x2, .int x3] h (.inr 0) h1) : rn 179 [.ref 0, .int x1, .int x2, .int x3] h (.inl (some (.int 2))) h1 := by
  intro Q
  rw [am_179, s_179_0, hr]
  rw [t_kb_E (hp := 14) (k := 4) (len2 := 2) (by decide) (by decide +kernel) (Nat.le_of_ble_eq_true rfl) rfl]
  simp only [List.set, Nat.reduceAdd, s_179_16]
  exact propext ⟨fun x => x.2, fun x => ⟨rfl, x⟩⟩
theorem r_180 {x1 : Int32} {h h1 : tH} {b : Bool} (hr : rn 73 [.ref 0, .int x1] h (.inl (some (.int (zb b)))) h1) : rn 180 [.ref 0, .int x1, .ref 32] h (.inl (some (.int 0))) (t_L h1 32 0 (i64b b)) := by
  intro Q
  rw [am_180, s_180_0, hr]
  rw [t_kb_V (show t_tyo (tm_rt tq_73) _ from ⟨_, rfl⟩)]
  simp only [Option.toList, List.cons_append, List.nil_append, Nat.reduceAdd, e_180_7, e_180_10, e_180_11, e_180_14, e_180_15, e_180_16, e_180_20, e_180_21, e_180_22, e_180_23]
  have hz : t_ob 0 = some 0 := rfl
  have hi := t_in_32
  cases b <;> simp [zb, i64b, hz, hi, t_z0]
theorem r_180_e2 {x1 : Int32} {h h1 : tH} (hr : rn 73 [.ref 0, .int x1] h (.inr 2) h1) : rn 180 [.ref 0, .int x1, .ref 32] h (.inl (some (.int 1))) h1 := by
  intro Q
  rw [am_180, s_180_0, hr]
  rw [t_kb_E (hp := 19) (k := 3) (len2 := 1) (by decide) (by decide +kernel) (Nat.le_of_ble_eq_true rfl) rfl]
  simp only [List.set, Nat.reduceAdd, s_180_20]
  exact propext ⟨fun x => x.2, fun x => ⟨rfl, x⟩⟩
theorem r_181 {x1 : Int32} {h h1 : tH} {v : Int32} (hr : rn 80 [.ref 0, .int x1] h (.inl (some (.int v))) h1) : rn 181 [.ref 0, .int x1, .ref 32] h (.inl (some (.int 0))) (t_L h1 32 0 v.toInt64) := by
  intro Q
  rw [am_181, s_181_0, hr]
  rw [t_kb_V (show t_tyo (tm_rt tq_80) _ from ⟨_, rfl⟩)]
  simp only [Option.toList, List.cons_append, List.nil_append, Nat.reduceAdd, e_181_7, e_181_8, e_181_9, e_181_13, e_181_14, e_181_15, e_181_16]
  have hz : t_ob 0 = some 0 := rfl
  have hi := t_in_32
  simp [hz, hi, t_z0]
theorem r_181_e2 {x1 : Int32} {h h1 : tH} (hr : rn 80 [.ref 0, .int x1] h (.inr 2) h1) : rn 181 [.ref 0, .int x1, .ref 32] h (.inl (some (.int 1))) h1 := by
  intro Q
  rw [am_181, s_181_0, hr]
  rw [t_kb_E (hp := 12) (k := 3) (len2 := 1) (by decide) (by decide +kernel) (Nat.le_of_ble_eq_true rfl) rfl]
  simp only [List.set, Nat.reduceAdd, s_181_13]
  exact propext ⟨fun x => x.2, fun x => ⟨rfl, x⟩⟩
theorem r_182 {x1 : Int32} {h h1 : tH} {b : Bool} (hr : rn 81 [.ref 0, .int x1] h (.inl (some (.int (zb b)))) h1) : rn 182 [.ref 0, .int x1, .ref 32] h (.inl (some (.int 0))) (t_L h1 32 0 (i64b b)) := by
  intro Q
  rw [am_182, s_182_0, hr]
  rw [t_kb_V (show t_tyo (tm_rt tq_81) _ from ⟨_, rfl⟩)]
  simp only [Option.toList, List.cons_append, List.nil_append, Nat.reduceAdd, e_182_7, e_182_10, e_182_11, e_182_14, e_182_15, e_182_16, e_182_20, e_182_21, e_182_22, e_182_23]
  have hz : t_ob 0 = some 0 := rfl
  have hi := t_in_32
  cases b <;> simp [zb, i64b, hz, hi, t_z0]
theorem r_182_e2 {x1 : Int32} {h h1 : tH} (hr : rn 81 [.ref 0, .int x1] h (.inr 2) h1) : rn 182 [.ref 0, .int x1, .ref 32] h (.inl (some (.int 1))) h1 := by
  intro Q
  rw [am_182, s_182_0, hr]
  rw [t_kb_E (hp := 19) (k := 3) (len2 := 1) (by decide) (by decide +kernel) (Nat.le_of_ble_eq_true rfl) rfl]
  simp only [List.set, Nat.reduceAdd, s_182_20]
  exact propext ⟨fun x => x.2, fun x => ⟨rfl, x⟩⟩
theorem r_183 {x1 x2 x3 : Int32} {h h1 : tH} {v : Int32} (hr : rn 82 [.ref 0, .int x1, .int x2, .int x3] h (.inl (some (.int v))) h1) : rn 183 [.ref 0, .int x1, .int x2, .int x3, .ref 32] h (.inl (some (.int 0))) (t_L h1 32 0 v.toInt64) := by
  intro Q
  rw [am_183, s_183_0, hr]
  rw [t_kb_V (show t_tyo (tm_rt tq_82) _ from ⟨_, rfl⟩)]
  simp only [Option.toList, List.cons_append, List.nil_append, Nat.reduceAdd, e_183_10, e_183_11, e_183_12, e_183_17, e_183_18, e_183_21, e_183_22, e_183_23, e_183_24]
  have hz : t_ob 0 = some 0 := rfl
  have hi := t_in_32
  simp [hz, hi, t_z0]
theorem r_183_e2 {x1 x2 x3 : Int32} {h h1 : tH} (hr : rn 82 [.ref 0, .int x1, .int x2, .int x3] h (.inr 2) h1) : rn 183 [.ref 0, .int x1, .int x2, .int x3, .ref 32] h (.inl (some (.int 1))) h1 := by
  intro Q
  rw [am_183, s_183_0, hr]
  rw [t_kb_E (hp := 15) (k := 5) (len2 := 2) (by decide) (by decide +kernel) (Nat.le_of_ble_eq_true rfl) rfl]
  simp only [List.set, Nat.reduceAdd, s_183_17]
  exact propext ⟨fun x => x.2, fun x => ⟨rfl, x⟩⟩
theorem r_183_e1 {x1 x2 x3 : Int32} {h h1 : tH} (hr : rn 82 [.ref 0, .int x1, .int x2, .int x3] h (.inr 1) h1) : rn 183 [.ref 0, .int x1, .int x2, .int x3, .ref 32] h (.inl (some (.int 2))) h1 := by
  intro Q
  rw [am_183, s_183_0, hr]
  rw [t_kb_E (hp := 19) (k := 5) (len2 := 2) (by decide) (by decide +kernel) (Nat.le_of_ble_eq_true rfl) rfl]
  simp only [List.set, Nat.reduceAdd, s_183_21]
  exact propext ⟨fun x => x.2, fun x => ⟨rfl, x⟩⟩
theorem r_184 {x1 x2 x3 x4 : Int32} {h h1 : tH} {v : Int32} (hr : rn 83 [.ref 0, .int x1, .int x2, .int x3, .int x4] h (.inl (some (.int v))) h1) : rn 184 [.ref 0, .int x1, .int x2, .int x3, .int x4, .ref 32] h (.inl (some (.int 0))) (t_L h1 32 0 v.toInt64) := by
  intro Q
  rw [am_184, s_184_0, hr]
  rw [t_kb_V (show t_tyo (tm_rt tq_83) _ from ⟨_, rfl⟩)]
  simp only [Option.toList, List.cons_append, List.nil_append, Nat.reduceAdd, e_184_12, e_184_13, e_184_14, e_184_19, e_184_20, e_184_21, e_184_22]
  have hz : t_ob 0 = some 0 := rfl
  have hi := t_in_32
  simp [hz, hi, t_z0]
theorem r_184_e2 {x1 x2 x3 x4 : Int32} {h h1 : tH} (hr : rn 83 [.ref 0, .int x1, .int x2, .int x3, .int x4] h (.inr 2) h1) : rn 184 [.ref 0, .int x1, .int x2, .int x3, .int x4, .ref 32] h (.inl (some (.int 1))) h1 := by
  intro Q
  rw [am_184, s_184_0, hr]
  rw [t_kb_E (hp := 17) (k := 6) (len2 := 2) (by decide) (by decide +kernel) (Nat.le_of_ble_eq_true rfl) rfl]
  simp only [List.set, Nat.reduceAdd, s_184_19]
  exact propext ⟨fun x => x.2, fun x => ⟨rfl, x⟩⟩
theorem r_185 {x1 : Int32} {h h1 : tH} {v : Int32} (hr : rn 84 [.ref 0, .int x1] h (.inl (some (.int v))) h1) : rn 185 [.ref 0, .int x1, .ref 32] h (.inl (some (.int 0))) (t_L h1 32 0 v.toInt64) := by
  intro Q
  rw [am_185, s_185_0, hr]
  rw [t_kb_V (show t_tyo (tm_rt tq_84) _ from ⟨_, rfl⟩)]
  simp only [Option.toList, List.cons_append, List.nil_append, Nat.reduceAdd, e_185_7, e_185_8, e_185_9, e_185_13, e_185_14, e_185_15, e_185_16]
  have hz : t_ob 0 = some 0 := rfl
  have hi := t_in_32
  simp [hz, hi, t_z0]
theorem r_185_e2 {x1 : Int32} {h h1 : tH} (hr : rn 84 [.ref 0, .int x1] h (.inr 2) h1) : rn 185 [.ref 0, .int x1, .ref 32] h (.inl (some (.int 1))) h1 := by
  intro Q
  rw [am_185, s_185_0, hr]
  rw [t_kb_E (hp := 12) (k := 3) (len2 := 1) (by decide) (by decide +kernel) (Nat.le_of_ble_eq_true rfl) rfl]
  simp only [List.set, Nat.reduceAdd, s_185_13]
  exact propext ⟨fun x => x.2, fun x => ⟨rfl, x⟩⟩
theorem r_186 {x1 x2 : Int32} {h h1 : tH} {v : Int32} (hr : rn 85 [.ref 0, .int x1, .int x2] h (.inl (some (.int v))) h1) : rn 186 [.ref 0, .int x1, .int x2, .ref 32] h (.inl (some (.int 0))) (t_L h1 32 0 v.toInt64) := by
  intro Q
  rw [am_186, s_186_0, hr]
  rw [t_kb_V (show t_tyo (tm_rt tq_85) _ from ⟨_, rfl⟩)]
  simp only [Option.toList, List.cons_append, List.nil_append, Nat.reduceAdd, e_186_8, e_186_9, e_186_10, e_186_15, e_186_16, e_186_17, e_186_18]
  have hz : t_ob 0 = some 0 := rfl
  have hi := t_in_32
  simp [hz, hi, t_z0]
theorem r_186_e2 {x1 x2 : Int32} {h h1 : tH} (hr : rn 85 [.ref 0, .int x1, .int x2] h (.inr 2) h1) : rn 186 [.ref 0, .int x1, .int x2, .ref 32] h (.inl (some (.int 1))) h1 := by
  intro Q
  rw [am_186, s_186_0, hr]
  rw [t_kb_E (hp := 13) (k := 4) (len2 := 2) (by decide) (by decide +kernel) (Nat.le_of_ble_eq_true rfl) rfl]
  simp only [List.set, Nat.reduceAdd, s_186_15]
  exact propext ⟨fun x => x.2, fun x => ⟨rfl, x⟩⟩
theorem r_187 {x1 x2 : Int32} {h h1 : tH} {v : Int32} (hr : rn 86 [.ref 0, .int x1, .int x2] h (.inl (some (.int v))) h1) : rn 187 [.ref 0, .int x1, .int x2, .ref 32] h (.inl (some (.int 0))) (t_L h1 32 0 v.toInt64) := by
  intro Q
  rw [am_187, s_187_0, hr]
  rw [t_kb_V (show t_tyo (tm_rt tq_86) _ from ⟨_, rfl⟩)]
  simp only [Option.toList, List.cons_append, List.nil_append, Nat.reduceAdd, e_187_8, e_187_9, e_187_10, e_187_15, e_187_16, e_187_17, e_187_18]
  have hz : t_ob 0 = some 0 := rfl
  have hi := t_in_32
  simp [hz, hi, t_z0]
theorem r_187_e2 {x1 x2 : Int32} {h h1 : tH} (hr : rn 86 [.ref 0, .int x1, .int x2] h (.inr 2) h1) : rn 187 [.ref 0, .int x1, .int x2, .ref 32] h (.inl (some (.int 1))) h1 := by
  intro Q
  rw [am_187, s_187_0, hr]
  rw [t_kb_E (hp := 13) (k := 4) (len2 := 2) (by decide) (by decide +kernel) (Nat.le_of_ble_eq_true rfl) rfl]
  simp only [List.set, Nat.reduceAdd, s_187_15]
  exact propext ⟨fun x => x.2, fun x => ⟨rfl, x⟩⟩
theorem r_188 {x1 x2 x3 x4 x5 : Int32} {h h1 : tH} {b : Bool} (hr : rn 87 [.ref 0, .int x1, .int x2, .int x3, .int x4, .int x5] h (.inl (some (.int (zb b)))) h1) : rn 188 [.ref 0, .int x1, .int x2, .int x3, .int x4, .int x5, .ref 32] h (.inl (some (.int 0))) (t_L h1 32 0 (i64b b)) := by
  intro Q
  rw [am_188, s_188_0, hr]
  rw [t_kb_V (show t_tyo (tm_rt tq_87) _ from ⟨_, rfl⟩)]
  simp only [Option.toList, List.cons_append, List.nil_append, Nat.reduceAdd, e_188_14, e_188_17, e_188_18, e_188_21, e_188_22, e_188_23, e_188_28, e_188_29, e_188_32, e_188_33, e_188_34, e_188_35]
  have hz : t_ob 0 = some 0 := rfl
  have hi := t_in_32
  cases b <;> simp [zb, i64b, hz, hi, t_z0]
theorem r_188_e2 {x1 x2 x3 x4 x5 : Int32} {h h1 : tH} (hr : rn 87 [.ref 0, .int x1, .int x2, .int x3, .int x4, .int x5] h (.inr 2) h1) : rn 188 [.ref 0, .int x1, .int x2, .int x3, .int x4, .int x5, .ref 32] h (.inl (some (.int 1))) h1 := by
  intro Q
  rw [am_188, s_188_0, hr]
  rw [t_kb_E (hp := 26) (k := 7) (len2 := 2) (by decide) (by decide +kernel) (Nat.le_of_ble_eq_true rfl) rfl]
  simp only [List.set, Nat.reduceAdd, s_188_28]
  exact propext ⟨fun x => x.2, fun x => ⟨rfl, x⟩⟩
theorem r_188_e0 {x1 x2 x3 x4 x5 : Int32} {h h1 : tH} (hr : rn 87 [.ref 0, .int x1, .int x2, .int x3, .int x4, .int x5] h (.inr 0) h1) : rn 188 [.ref 0, .int x1, .int x2, .int x3, .int x4, .int x5, .ref 32] h (.inl (some (.int 2))) h1 := by
  intro Q
  rw [am_188, s_188_0, hr]
  rw [t_kb_E (hp := 30) (k := 7) (len2 := 2) (by decide) (by decide +kernel) (Nat.le_of_ble_eq_true rfl) rfl]
  simp only [List.set, Nat.reduceAdd, s_188_32]
  exact propext ⟨fun x => x.2, fun x => ⟨rfl, x⟩⟩
theorem r_189 {x1 : Int32} {h h1 : tH} {v : Int32} (hr : rn 88 [.ref 0, .int x1] h (.inl (some (.int v))) h1) : rn 189 [.ref 0, .int x1, .ref 32] h (.inl (some (.int 0))) (t_L h1 32 0 v.toInt64) := by
  intro Q
  rw [am_189, s_189_0, hr]
  rw [t_kb_V (show t_tyo (tm_rt tq_88) _ from ⟨_, rfl⟩)]
  simp only [Option.toList, List.cons_append, List.nil_append, Nat.reduceAdd, e_189_7, e_189_8, e_189_9, e_189_13, e_189_14, e_189_15, e_189_16]
  have hz : t_ob 0 = some 0 := rfl
  have hi := t_in_32
  simp [hz, hi, t_z0]
theorem r_189_e2 {x1 : Int32} {h h1 : tH} (hr : rn 88 [.ref 0, .int x1] h (.inr 2) h1) : rn 189 [.ref 0, .int x1, .ref 32] h (.inl (some (.int 1))) h1 := by
  intro Q
  rw [am_189, s_189_0, hr]
  rw [t_kb_E (hp := 12) (k := 3) (len2 := 1) (by decide) (by decide +kernel) (Nat.le_of_ble_eq_true rfl) rfl]
  simp only [List.set, Nat.reduceAdd, s_189_13]
  exact propext ⟨fun x => x.2, fun x => ⟨rfl, x⟩⟩
theorem r_190 {x1 : Int32} {h h1 : tH} {v : Int32} (hr : rn 89 [.ref 0, .int x1] h (.inl (some (.int v))) h1) : rn 190 [.ref 0, .int x1, .ref 32] h (.inl (some (.int 0))) (t_L h1 32 0 v.toInt64) := by
  intro Q
  rw [am_190, s_190_0, hr]
  rw [t_kb_V (show t_tyo (tm_rt tq_89) _ from ⟨_, rfl⟩)]
  simp only [Option.toList, List.cons_append, List.nil_append, Nat.reduceAdd, e_190_7, e_190_8, e_190_9, e_190_13, e_190_14, e_190_15, e_190_16]
  have hz : t_ob 0 = some 0 := rfl
  have hi := t_in_32
  simp [hz, hi, t_z0]
theorem r_190_e2 {x1 : Int32} {h h1 : tH} (hr : rn 89 [.ref 0, .int x1] h (.inr 2) h1) : rn 190 [.ref 0, .int x1, .ref 32] h (.inl (some (.int 1))) h1 := by
  intro Q
  rw [am_190, s_190_0, hr]
  rw [t_kb_E (hp := 12) (k := 3) (len2 := 1) (by decide) (by decide +kernel) (Nat.le_of_ble_eq_true rfl) rfl]
  simp only [List.set, Nat.reduceAdd, s_190_13]
  exact propext ⟨fun x => x.2, fun x => ⟨rfl, x⟩⟩
theorem r_191 {x1 x2 : Int32} {h h1 : tH} {v : Int32} (hr : rn 90 [.ref 0, .int x1, .int x2] h (.inl (some (.int v))) h1) : rn 191 [.ref 0, .int x1, .int x2, .ref 32] h (.inl (some (.int 0))) (t_L h1 32 0 v.toInt64) := by
  intro Q
  rw [am_191, s_191_0, hr]
  rw [t_kb_V (show t_tyo (tm_rt tq_90) _ from ⟨_, rfl⟩)]
  simp only [Option.toList, List.cons_append, List.nil_append, Nat.reduceAdd, e_191_8, e_191_9, e_191_10, e_191_15, e_191_16, e_191_19, e_191_20, e_191_21, e_191_22]
  have hz : t_ob 0 = some 0 := rfl
  have hi := t_in_32
  simp [hz, hi, t_z0]
theorem r_191_e2 {x1 x2 : Int32} {h h1 : tH} (hr : rn 90 [.ref 0, .int x1, .int x2] h (.inr 2) h1) : rn 191 [.ref 0, .int x1, .int x2, .ref 32] h (.inl (some (.int 1))) h1 := by
  intro Q
  rw [am_191, s_191_0, hr]
  rw [t_kb_E (hp := 13) (k := 4) (len2 := 2) (by decide) (by decide +kernel) (Nat.le_of_ble_eq_true rfl) rfl]
  simp only [List.set, Nat.reduceAdd, s_191_15]
  exact propext ⟨fun x => x.2, fun x => ⟨rfl, x⟩⟩
theorem r_191_e0 {x1 x2 : Int32} {h h1 : tH} (hr : rn 90 [.ref 0, .int x1, .int x2] h (.inr 0) h1) : rn 191 [.ref 0, .int x1, .int x2, .ref 32] h (.inl (some (.int 2))) h1 := by
  intro Q
  rw [am_191, s_191_0, hr]
  rw [t_kb_E (hp := 17) (k := 4) (len2 := 2) (by decide) (by decide +kernel) (Nat.le_of_ble_eq_true rfl) rfl]
  simp only [List.set, Nat.reduceAdd, s_191_19]
  exact propext ⟨fun x => x.2, fun x => ⟨rfl, x⟩⟩
theorem r_192 {x1 x2 : Int32} {h h1 : tH} {v : Int32} (hr : rn 91 [.ref 0, .int x1, .int x2] h (.inl (some (.int v))) h1) : rn 192 [.ref 0, .int x1, .int x2, .ref 32] h (.inl (some (.int 0))) (t_L h1 32 0 v.toInt64) := by
  intro Q
  rw [am_192, s_192_0, hr]
  rw [t_kb_V (show t_tyo (tm_rt tq_91) _ from ⟨_, rfl⟩)]
  simp only [Option.toList, List.cons_append, List.nil_append, Nat.reduceAdd, e_192_8, e_192_9, e_192_10, e_192_15, e_192_16, e_192_19, e_192_20, e_192_21, e_192_22]
  have hz : t_ob 0 = some 0 := rfl
  have hi := t_in_32
  simp [hz, hi, t_z0]
theorem r_192_e2 {x1 x2 : Int32} {h h1 : tH} (hr : rn 91 [.ref 0, .int x1, .int x2] h (.inr 2) h1) : rn 192 [.ref 0, .int x1, .int x2, .ref 32] h (.inl (some (.int 1))) h1 := by
  intro Q
  rw [am_192, s_192_0, hr]
  rw [t_kb_E (hp := 13) (k := 4) (len2 := 2) (by decide) (by decide +kernel) (Nat.le_of_ble_eq_true rfl) rfl]
  simp only [List.set, Nat.reduceAdd, s_192_15]
  exact propext ⟨fun x => x.2, fun x => ⟨rfl, x⟩⟩
theorem r_192_e0 {x1 x2 : Int32} {h h1 : tH} (hr : rn 91 [.ref 0, .int x1, .int x2] h (.inr 0) h1) : rn 192 [.ref 0, .int x1, .int x2, .ref 32] h (.inl (some (.int 2))) h1 := by
  intro Q
  rw [am_192, s_192_0, hr]
  rw [t_kb_E (hp := 17) (k := 4) (len2 := 2) (by decide) (by decide +kernel) (Nat.le_of_ble_eq_true rfl) rfl]
  simp only [List.set, Nat.reduceAdd, s_192_19]
  exact propext ⟨fun x => x.2, fun x => ⟨rfl, x⟩⟩
theorem r_193 {x1 : Int32} {h h1 : tH} {v : Int32} (hr : rn 92 [.ref 0, .int x1] h (.inl (some (.int v))) h1) : rn 193 [.ref 0, .int x1, .ref 32] h (.inl (some (.int 0))) (t_L h1 32 0 v.toInt64) := by
  intro Q
  rw [am_193, s_193_0, hr]
  rw [t_kb_V (show t_tyo (tm_rt tq_92) _ from ⟨_, rfl⟩)]
  simp only [Option.toList, List.cons_append, List.nil_append, Nat.reduceAdd, e_193_7, e_193_8, e_193_9, e_193_13, e_193_14, e_193_15, e_193_16]
  have hz : t_ob 0 = some 0 := rfl
  have hi := t_in_32
  simp [hz, hi, t_z0]
theorem r_193_e2 {x1 : Int32} {h h1 : tH} (hr : rn 92 [.ref 0, .int x1] h (.inr 2) h1) : rn 193 [.ref 0, .int x1, .ref 32] h (.inl (some (.int 1))) h1 := by
  intro Q
  rw [am_193, s_193_0, hr]
  rw [t_kb_E (hp := 12) (k := 3) (len2 := 1) (by decide) (by decide +kernel) (Nat.le_of_ble_eq_true rfl) rfl]
  simp only [List.set, Nat.reduceAdd, s_193_13]
  exact propext ⟨fun x => x.2, fun x => ⟨rfl, x⟩⟩
theorem r_194 {x1 : Int32} {h h1 : tH} {v : Int32} (hr : rn 93 [.ref 0, .int x1] h (.inl (some (.int v))) h1) : rn 194 [.ref 0, .int x1, .ref 32] h (.inl (some (.int 0))) (t_L h1 32 0 v.toInt64) := by
  intro Q
  rw [am_194, s_194_0, hr]
  rw [t_kb_V (show t_tyo (tm_rt tq_93) _ from ⟨_, rfl⟩)]
  simp only [Option.toList, List.cons_append, List.nil_append, Nat.reduceAdd, e_194_7, e_194_8, e_194_9, e_194_13, e_194_14, e_194_16, e_194_17, e_194_18, e_194_19]
  have hz : t_ob 0 = some 0 := rfl
  have hi := t_in_32
  simp [hz, hi, t_z0]
theorem r_194_e2 {x1 : Int32} {h h1 : tH} (hr : rn 93 [.ref 0, .int x1] h (.inr 2) h1) : rn 194 [.ref 0, .int x1, .ref 32] h (.inl (some (.int 1))) h1 := by
  intro Q
  rw [am_194, s_194_0, hr]
  rw [t_kb_E (hp := 12) (k := 3) (len2 := 1) (by decide) (by decide +kernel) (Nat.le_of_ble_eq_true rfl) rfl]
  simp only [List.set, Nat.reduceAdd, s_194_13]
  exact propext ⟨fun x => x.2, fun x => ⟨rfl, x⟩⟩
theorem r_194_e1 {x1 : Int32} {h h1 : tH} (hr : rn 93 [.ref 0, .int x1] h (.inr 1) h1) : rn 194 [.ref 0, .int x1, .ref 32] h (.inl (some (.int 2))) h1 := by
  intro Q
  rw [am_194, s_194_0, hr]
  rw [t_kb_E (hp := 15) (k := 3) (len2 := 1) (by decide) (by decide +kernel) (Nat.le_of_ble_eq_true rfl) rfl]
  simp only [List.set, Nat.reduceAdd, s_194_16]
  exact propext ⟨fun x => x.2, fun x => ⟨rfl, x⟩⟩
theorem r_195 {x1 x2 : Int32} {h h1 : tH} {v : Int64} (hr : rn 94 [.ref 0, .int x1, .int x2] h (.inl (some (.long v))) h1) : rn 195 [.ref 0, .int x1, .int x2, .ref 32] h (.inl (some (.int 0))) (t_L h1 32 0 v) := by
  intro Q
  rw [am_195, s_195_0, hr]
  rw [t_kb_V (show t_tyo (tm_rt tq_94) _ from ⟨_, rfl⟩)]
  simp only [Option.toList, List.cons_append, List.nil_append, Nat.reduceAdd, e_195_8, e_195_9, e_195_14, e_195_15, e_195_16, e_195_17]
  have hz : t_ob 0 = some 0 := rfl
  have hi := t_in_32
  simp [hz, hi, t_z0]
theorem r_195_e2 {x1 x2 : Int32} {h h1 : tH} (hr : rn 94 [.ref 0, .int x1, .int x2] h (.inr 2) h1) : rn 195 [.ref 0, .int x1, .int x2, .ref 32] h (.inl (some (.int 1))) h1 := by
  intro Q
  rw [am_195, s_195_0, hr]
  rw [t_kb_E (hp := 12) (k := 4) (len2 := 2) (by decide) (by decide +kernel) (Nat.le_of_ble_eq_true rfl) rfl]
  simp only [List.set, Nat.reduceAdd, s_195_14]
  exact propext ⟨fun x => x.2, fun x => ⟨rfl, x⟩⟩
theorem r_196 {x1 : Int32} {h h1 : tH} {v : Int32} (hr : rn 95 [.ref 0, .int x1] h (.inl (some (.int v))) h1) : rn 196 [.ref 0, .int x1, .ref 32] h (.inl (some (.int 0))) (t_L h1 32 0 v.toInt64) := by
  intro Q
  rw [am_196, s_196_0, hr]
  rw [t_kb_V (show t_tyo (tm_rt tq_95) _ from ⟨_, rfl⟩)]
  simp only [Option.toList, List.cons_append, List.nil_append, Nat.reduceAdd, e_196_7, e_196_8, e_196_9, e_196_13, e_196_14, e_196_15, e_196_16]
  have hz : t_ob 0 = some 0 := rfl
  have hi := t_in_32
  simp [hz, hi, t_z0]
theorem r_196_e2 {x1 : Int32} {h h1 : tH} (hr : rn 95 [.ref 0, .int x1] h (.inr 2) h1) : rn 196 [.ref 0, .int x1, .ref 32] h (.inl (some (.int 1))) h1 := by
  intro Q
  rw [am_196, s_196_0, hr]
  rw [t_kb_E (hp := 12) (k := 3) (len2 := 1) (by decide) (by decide +kernel) (Nat.le_of_ble_eq_true rfl) rfl]
  simp only [List.set, Nat.reduceAdd, s_196_13]
  exact propext ⟨fun x => x.2, fun x => ⟨rfl, x⟩⟩
theorem r_197 {x1 x2 x3 : Int32} {h h1 : tH} {v : Int32} (hr : rn 96 [.ref 0, .int x1, .int x2, .int x3] h (.inl (some (.int v))) h1) : rn 197 [.ref 0, .int x1, .int x2, .int x3, .ref 32] h (.inl (some (.int 0))) (t_L h1 32 0 v.toInt64) := by
  intro Q
  rw [am_197, s_197_0, hr]
  rw [t_kb_V (show t_tyo (tm_rt tq_96) _ from ⟨_, rfl⟩)]
  simp only [Option.toList, List.cons_append, List.nil_append, Nat.reduceAdd, e_197_10, e_197_11, e_197_12, e_197_17, e_197_18, e_197_21, e_197_22, e_197_23, e_197_24]
  have hz : t_ob 0 = some 0 := rfl
  have hi := t_in_32
  simp [hz, hi, t_z0]
theorem r_197_e2 {x1 x2 x3 : Int32} {h h1 : tH} (hr : rn 96 [.ref 0, .int x1, .int x2, .int x3] h (.inr 2) h1) : rn 197 [.ref 0, .int x1, .int x2, .int x3, .ref 32] h (.inl (some (.int 1))) h1 := by
  intro Q
  rw [am_197, s_197_0, hr]
  rw [t_kb_E (hp := 15) (k := 5) (len2 := 2) (by decide) (by decide +kernel) (Nat.le_of_ble_eq_true rfl) rfl]
  simp only [List.set, Nat.reduceAdd, s_197_17]
  exact propext ⟨fun x => x.2, fun x => ⟨rfl, x⟩⟩
theorem r_197_e1 {x1 x2 x3 : Int32} {h h1 : tH} (hr : rn 96 [.ref 0, .int x1, .int x2, .int x3] h (.inr 1) h1) : rn 197 [.ref 0, .int x1, .int x2, .int x3, .ref 32] h (.inl (some (.int 2))) h1 := by
  intro Q
  rw [am_197, s_197_0, hr]
  rw [t_kb_E (hp := 19) (k := 5) (len2 := 2) (by decide) (by decide +kernel) (Nat.le_of_ble_eq_true rfl) rfl]
  simp only [List.set, Nat.reduceAdd, s_197_21]
  exact propext ⟨fun x => x.2, fun x => ⟨rfl, x⟩⟩
theorem r_198 {x1 x2 x3 : Int32} {h h1 : tH} {b : Bool} (hr : rn 97 [.ref 0, .int x1, .int x2, .int x3] h (.inl (some (.int (zb b)))) h1) : rn 198 [.ref 0, .int x1, .int x2, .int x3, .ref 32] h (.inl (some (.int 0))) (t_L h1 32 0 (i64b b)) := by
  intro Q
  rw [am_198, s_198_0, hr]
  rw [t_kb_V (show t_tyo (tm_rt tq_97) _ from ⟨_, rfl⟩)]
  simp only [Option.toList, List.cons_append, List.nil_append, Nat.reduceAdd, e_198_10, e_198_13, e_198_14, e_198_17, e_198_18, e_198_19, e_198_24, e_198_25, e_198_26, e_198_27]
  have hz : t_ob 0 = some 0 := rfl
  have hi := t_in_32
  cases b <;> simp [zb, i64b, hz, hi, t_z0]
theorem r_198_e2 {x1 x2 x3 : Int32} {h h1 : tH} (hr : rn 97 [.ref 0, .int x1, .int x2, .int x3] h (.inr 2) h1) : rn 198 [.ref 0, .int x1, .int x2, .int x3, .ref 32] h (.inl (some (.int 1))) h1 := by
  intro Q
  rw [am_198, s_198_0, hr]
  rw [t_kb_E (hp := 22) (k := 5) (len2 := 2) (by decide) (by decide +kernel) (Nat.le_of_ble_eq_true rfl) rfl]
  simp only [List.set, Nat.reduceAdd, s_198_24]
  exact propext ⟨fun x => x.2, fun x => ⟨rfl, x⟩⟩
theorem r_199 {x1 : Int32} {h h1 : tH} {v : Int32} (hr : rn 98 [.ref 0, .int x1] h (.inl (some (.int v))) h1) : rn 199 [.ref 0, .int x1, .ref 32] h (.inl (some (.int 0))) (t_L h1 32 0 v.toInt64) := by
  intro Q
  rw [am_199, s_199_0, hr]
  rw [t_kb_V (show t_tyo (tm_rt tq_98) _ from ⟨_, rfl⟩)]
  simp only [Option.toList, List.cons_append, List.nil_append, Nat.reduceAdd, e_199_7, e_199_8, e_199_9, e_199_13, e_199_14, e_199_16, e_199_17, e_199_18, e_199_19]
  have hz : t_ob 0 = some 0 := rfl
  have hi := t_in_32
  simp [hz, hi, t_z0]
theorem r_199_e2 {x1 : Int32} {h h1 : tH} (hr : rn 98 [.ref 0, .int x1] h (.inr 2) h1) : rn 199 [.ref 0, .int x1, .ref 32] h (.inl (some (.int 1))) h1 := by
  intro Q
  rw [am_199, s_199_0, hr]
  rw [t_kb_E (hp := 12) (k := 3) (len2 := 1) (by decide) (by decide +kernel) (Nat.le_of_ble_eq_true rfl) rfl]
  simp only [List.set, Nat.reduceAdd, s_199_13]
  exact propext ⟨fun x => x.2, fun x => ⟨rfl, x⟩⟩
theorem r_199_e1 {x1 : Int32} {h h1 : tH} (hr : rn 98 [.ref 0, .int x1] h (.inr 1) h1) : rn 199 [.ref 0, .int x1, .ref 32] h (.inl (some (.int 2))) h1 := by
  intro Q
  rw [am_199, s_199_0, hr]
  rw [t_kb_E (hp := 15) (k := 3) (len2 := 1) (by decide) (by decide +kernel) (Nat.le_of_ble_eq_true rfl) rfl]
  simp only [List.set, Nat.reduceAdd, s_199_16]
  exact propext ⟨fun x => x.2, fun x => ⟨rfl, x⟩⟩
