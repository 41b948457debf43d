/-! ===== plane sets of segments ===== -/
def PL (χ : tC) (n : Nat) (T : Int32) : Prop := ∀ i j k l, i < n → j < n → k < n → l < n → i ≠ j → k ≠ l → bt T (sx i j) = true → bt T (sx k l) = true → qcross χ i j k l = false
theorem sx_un {a b c d : Nat} (ha : a < 7) (hb : b < 7) (hc : c < 7) (hd : d < 7) (ab : a ≠ b) (cd : c ≠ d) (h : sx a b = sx c d) : (a = c ∧ b = d) ∨ (a = d ∧ b = c) := by
  by_cases h1 : a < b
  · by_cases h2 : c < d
    · exact Or.inl (sx_inj hb hd h1 h2 h)
    · rw [sx_comm c d] at h
      exact Or.inr (sx_inj hb hc h1 (by omega) h)
  · rw [sx_comm a b] at h
    by_cases h2 : c < d
    · obtain ⟨e1, e2⟩ := sx_inj ha hd (by omega) h2 h
      exact Or.inr ⟨e2, e1⟩
    · rw [sx_comm c d] at h
      obtain ⟨e1, e2⟩ := sx_inj ha hc (by omega) (by omega) h
      exact Or.inl ⟨e2, e1⟩
section
variable {χ : tC} {n : Nat}
theorem PL_p {T : Int32} (p : PL χ n T) {i j k l : Nat} (hi : i < n) (hj : j < n) (hk : k < n) (hl : l < n) (d1 : i ≠ j) (d2 : i ≠ k) (d3 : i ≠ l) (d4 : j ≠ k) (d5 : j ≠ l) (d6 : k ≠ l) (e1 : bt T (sx i j) = true) (e2 : bt T (sx k l) = true) : pparts χ i j k l = false := by
  have h := p i j k l hi hj hk hl d1 d6 e1 e2
  rw [← Bool.not_eq_true, qcross_iff] at h
  rw [← Bool.not_eq_true]
  exact fun z => h ⟨⟨d1, d2, d3, d4, d5, d6⟩, z⟩
/-- whether k is a corner at the segment i, j on a side -/
def crn (χ : tC) (n : Nat) (T : Int32) (i j : Nat) (s : Int32) (k : Nat) : Bool := decide (χ i j k = s) && ((!decide (i = k) && bt T (sx i k)) && ((!decide (j = k) && bt T (sx j k)) && pnone χ n i j k))
theorem crn_iff {T : Int32} {i j k : Nat} {s : Int32} : crn χ n T i j s k = true ↔ χ i j k = s ∧ i ≠ k ∧ bt T (sx i k) = true ∧ j ≠ k ∧ bt T (sx j k) = true ∧ pnone χ n i j k = true := by
  unfold crn
  simp only [Bool.and_eq_true, decide_eq_true_eq, Bool.not_eq_true', decide_eq_false_iff_not]
  constructor
  · rintro ⟨a, ⟨b, c⟩, ⟨d, e⟩, f⟩; exact ⟨a, b, c, d, e, f⟩
  · rintro ⟨a, b, c, d, e, f⟩; exact ⟨a, ⟨b, c⟩, ⟨d, e⟩, f⟩
theorem pnone_at {i j k p : Nat} (h : pnone χ n i j k = true) (hp : p < n) (n1 : p ≠ i) (n2 : p ≠ j) (n3 : p ≠ k) : pin χ p i j k = false := by
  have := (aB_iff _ _ _).mp h p (by omega) (by omega)
  simpa [n1, n2, n3] using this
theorem crn_un {T : Int32} (w : WS χ n) (h7 : n ≤ 7) (p : PL χ n T) {i j k k' : Nat} {s : Int32} (hi : i < n) (hj : j < n) (ij : i ≠ j) (hk : k < n) (hk' : k' < n) (c : crn χ n T i j s k = true) (c' : crn χ n T i j s k' = true) : k = k' := by
  apply Classical.byContradiction
  intro kk
  obtain ⟨a1, a2, a3, a4, a5, a6⟩ := crn_iff.mp c
  obtain ⟨b1, b2, b3, b4, b5, b6⟩ := crn_iff.mp c'
  have x1 := PL_p p hi hk hj hk' a2 ij b2 a4.symm kk b4 a3 b5
  have x2 := PL_p p hi hk' hj hk b2 ij a2 b4.symm (fun z => kk z.symm) a4 b3 a5
  have y1 := pnone_at a6 hk' b2.symm b4.symm (fun z => kk z.symm)
  have y2 := pnone_at b6 hk a2.symm a4.symm kk
  rw [pparts_b w h7 hi hk hj hk' a2 ij b2 a4.symm kk b4, bs_k w h7 hi hj hk ij a4 a2, bs_j w h7 hj hk hk' a4 kk b4] at x1
  rw [pparts_b w h7 hi hk' hj hk b2 ij a2 b4.symm (fun z => kk z.symm) a4, bs_k w h7 hi hj hk' ij b4 b2, bs_k w h7 hi hk hk' a2 kk b2, ← bs_r w h7 hk' hj hk] at x2
  rw [pin_b w h7 hk' hi hj hk ij a2 a4 b2.symm b4.symm (fun z => kk z.symm)] at y1
  rw [pin_b w h7 hk hi hj hk' ij b2 b4 a2.symm a4.symm kk, bs_k w h7 hj hk hk' a4 kk b4, bs_k w h7 hi hk hk' a2 kk b2] at y2
  have e : bs χ i j k' = bs χ i j k := by unfold bs; rw [a1, b1]
  rw [e] at x1 x2 y1
  have q : ∀ c a b : Bool, (bX (!c) a c (!b) || bX (!c) (!a) c b || bI c b a || bI c (!b) (!a)) = true := by decide
  have := q (bs χ i j k) (bs χ i k k') (bs χ j k k')
  rw [x1, x2, y1, y2] at this
  exact absurd this (by decide)
theorem pin_sw (w : WS χ n) (h7 : n ≤ 7) {p i j k : Nat} (hp : p < n) (hi : i < n) (hj : j < n) (hk : k < n) (n1 : i ≠ j) (n2 : i ≠ k) (n3 : j ≠ k) (n4 : p ≠ i) (n5 : p ≠ j) (n6 : p ≠ k) : pin χ p j i k = pin χ p i j k := by
  rw [pin_b w h7 hp hj hi hk n1.symm n3 n2 n5 n4 n6, pin_b w h7 hp hi hj hk n1 n2 n3 n4 n5 n6, bs_j w h7 hi hj hp n1 n5.symm n4.symm]
  have q : ∀ x y z : Bool, bI (!x) z y = bI x y z := by decide
  exact q _ _ _
theorem CR_sw (w : WS χ n) (h7 : n ≤ 7) {i j k l : Nat} (hi : i < n) (hj : j < n) (hk : k < n) (hl : l < n) (ij : i ≠ j) (ik : i ≠ k) (il : i ≠ l) (jk : j ≠ k) (jl : j ≠ l) (kl : k ≠ l) (c : CR χ i j k l) : CR χ j i l k := by
  obtain ⟨c1, c2, c3⟩ := c
  refine ⟨?_, ?_, ?_⟩
  · rw [bs_j w h7 hi hj hl ij jl il, c2]; rfl
  · rw [bs_j w h7 hi hj hk ij jk ik, c1]; rfl
  · rw [bs_k w h7 hj hk hl jk kl jl, bs_k w h7 hi hk hl ik kl il]
    have q : ∀ a b : Bool, bX true false (!b) (!a) = bX true false a b := by decide
    rw [q]; exact c3
/-- a segment of the set, another one than i, j, doesn't cross k, l -/
theorem quad (w : WS χ n) (h7 : n ≤ 7) (hh : qhold χ n = true) {T : Int32} (pl : PL χ n T) {i j k l : Nat} (hi : i < n) (hj : j < n) (hk : k < n) (hl : l < n) (ij : i ≠ j) (kl : k ≠ l) (tij : bt T (sx i j) = true) (ck : crn χ n T i j 1 k = true) (cl : crn χ n T i j (-1) l = true) (x : pparts χ i j k l = true) {p q : Nat} (hp : p < n) (hq : q < n) (pq' : p ≠ q) (tpq : bt T (sx p q) = true) (ne : ¬ ((p = i ∧ q = j) ∨ (p = j ∧ q = i))) : qcross χ k l p q = false := by
  obtain ⟨a1, ik, tik, jk, tjk, nk⟩ := crn_iff.mp ck
  obtain ⟨b1, il, til, jl, tjl, nl⟩ := crn_iff.mp cl
  have c : CR χ i j k l := by
    refine ⟨?_, ?_, ?_⟩
    · unfold bs; rw [a1]; rfl
    · unfold bs; rw [b1]; rfl
    · rw [pparts_b w h7 hi hj hk hl ij ik il jk jl kl] at x
      have e1 : bs χ i j k = true := by unfold bs; rw [a1]; rfl
      have e2 : bs χ i j l = false := by unfold bs; rw [b1]; rfl
      rw [e1, e2] at x
      exact x
  rw [← Bool.not_eq_true]
  intro z
  rw [qcross_iff] at z
  obtain ⟨⟨-, kp, kq, lp, lq, -⟩, z⟩ := z
  -- a segment from i or j
  have A : ∀ q, q < n → q ≠ i → q ≠ j → q ≠ k → q ≠ l → bt T (sx i q) = true → pparts χ k l i q = true → False := fun q hq qi qj qk ql tiq z =>
    quadA w h7 hh hi hj hk hl ij ik il jk jl kl hq qi.symm qj.symm qk.symm ql.symm c z (PL_p pl hi hq hj hk qi.symm ij ik qj qk jk tiq tjk) (PL_p pl hi hq hj hl qi.symm ij il qj ql jl tiq tjl) (pnone_at nk hq qi qj qk) (pnone_at nl hq qi qj ql)
  have B : ∀ q, q < n → q ≠ i → q ≠ j → q ≠ k → q ≠ l → bt T (sx j q) = true → pparts χ k l j q = true → False := fun q hq qi qj qk ql tjq z =>
    quadA w h7 hh hj hi hl hk ij.symm jl jk il ik kl.symm hq qj.symm qi.symm ql.symm qk.symm (CR_sw w h7 hi hj hk hl ij ik il jk jl kl c) (by rw [pparts_j w (by omega) (by omega) (by omega) (by omega)]; exact z) (PL_p pl hj hq hi hl qj.symm ij.symm jl qi ql il tjq til) (PL_p pl hj hq hi hk qj.symm ij.symm jk qi qk ik tjq tik)
      (by rw [pin_sw w h7 hq hi hj hl ij il jl qi qj ql]; exact pnone_at nl hq qi qj ql) (by rw [pin_sw w h7 hq hi hj hk ij ik jk qi qj qk]; exact pnone_at nk hq qi qj qk)
  have zs : pparts χ k l q p = true := by
    rw [pparts_s, pparts_j w (by omega) (by omega) (by omega) (by omega), pparts_s]; exact z
  by_cases pi : p = i
  · subst pi
    exact A q hq pq'.symm (fun e => ne (Or.inl ⟨rfl, e⟩)) (fun e => kq e.symm) (fun e => lq e.symm) tpq z
  by_cases pj : p = j
  · subst pj
    exact B q hq (fun e => ne (Or.inr ⟨rfl, e⟩)) pq'.symm (fun e => kq e.symm) (fun e => lq e.symm) tpq z
  by_cases qi : q = i
  · subst qi
    exact A p hp pi pj (fun e => kp e.symm) (fun e => lp e.symm) (by rw [sx_comm]; exact tpq) zs
  by_cases qj : q = j
  · subst qj
    exact B p hp pi pj (fun e => kp e.symm) (fun e => lp e.symm) (by rw [sx_comm]; exact tpq) zs
  exact quadB w h7 hh hi hj hk hl ij ik il jk jl kl hp hq (fun e => pi e.symm) (fun e => pj e.symm) kp lp (fun e => qi e.symm) (fun e => qj e.symm) kq lq pq' c z
    (PL_p pl hi hj hp hq ij (fun e => pi e.symm) (fun e => qi e.symm) (fun e => pj e.symm) (fun e => qj e.symm) pq' tij tpq)
    (PL_p pl hi hk hp hq ik (fun e => pi e.symm) (fun e => qi e.symm) kp kq pq' tik tpq)
    (PL_p pl hj hk hp hq jk (fun e => pj e.symm) (fun e => qj e.symm) kp kq pq' tjk tpq)
    (PL_p pl hi hl hp hq il (fun e => pi e.symm) (fun e => qi e.symm) lp lq pq' til tpq)
    (PL_p pl hj hl hp hq jl (fun e => pj e.symm) (fun e => qj e.symm) lp lq pq' tjl tpq)
    (pnone_at nk hp pi pj (fun e => kp e.symm)) (pnone_at nk hq qi qj (fun e => kq e.symm)) (pnone_at nl hp pi pj (fun e => lp e.symm)) (pnone_at nl hq qi qj (fun e => lq e.symm))
/-- the set after the flip -/
def fT (T : Int32) (i j k l : Nat) : Int32 := (T &&& (sb i j ^^^ -1)) ||| sb k l
theorem fT_bt {T : Int32} {i j k l q : Nat} (hi : i < 7) (hj : j < 7) (hk : k < 7) (hl : l < 7) (ij : i ≠ j) (kl : k ≠ l) (hq : q < 21) : bt (fT T i j k l) q = ((bt T q && !decide (q = sx i j)) || decide (q = sx k l)) := by
  have s1 := sx_lt hi hj ij
  have s2 := sx_lt hk hl kl
  unfold fT sb
  rw [if_neg ij, if_neg kl, b_or, bt_cpl (by omega), bt_one (by omega), bt_one (by omega)]
theorem fT_PL (w : WS χ n) (h7 : n ≤ 7) (hh : qhold χ n = true) {T : Int32} (pl : PL χ n T) {i j k l : Nat} (hi : i < n) (hj : j < n) (hk : k < n) (hl : l < n) (ij : i ≠ j) (kl : k ≠ l) (tij : bt T (sx i j) = true) (ck : crn χ n T i j 1 k = true) (cl : crn χ n T i j (-1) l = true) (x : pparts χ i j k l = true) : PL χ n (fT T i j k l) := by
  have key : ∀ a b p q, a < n → b < n → p < n → q < n → a ≠ b → p ≠ q → sx a b = sx k l → bt T (sx p q) = true → sx p q ≠ sx i j → qcross χ a b p q = false := by
    intro a b p q ha hb hp hq ab pq' e t ne
    have g := quad w h7 hh pl hi hj hk hl ij kl tij ck cl x hp hq pq' t (by
      rintro (⟨e1, e2⟩ | ⟨e1, e2⟩)
      · exact ne (by rw [e1, e2])
      · exact ne (by rw [e1, e2, sx_comm]))
    rcases sx_un (by omega) (by omega) (by omega) (by omega) ab kl e with ⟨e1, e2⟩ | ⟨e1, e2⟩
    · rw [e1, e2]; exact g
    · rw [e1, e2, qcross_j w (by omega) (by omega) (by omega) (by omega)]; exact g
  intro a b p q ha hb hp hq ab pq' e1 e2
  rw [fT_bt (by omega) (by omega) (by omega) (by omega) ij kl (sx_lt (by omega) (by omega) ab)] at e1
  rw [fT_bt (by omega) (by omega) (by omega) (by omega) ij kl (sx_lt (by omega) (by omega) pq')] at e2
  simp only [Bool.or_eq_true, Bool.and_eq_true, Bool.not_eq_true', decide_eq_false_iff_not, decide_eq_true_eq] at e1 e2
  rcases e1 with ⟨t1, n1⟩ | e1
  · rcases e2 with ⟨t2, n2⟩ | e2
    · exact pl a b p q ha hb hp hq ab pq' t1 t2
    · rw [qcross_s]
      exact key p q a b hp hq ha hb pq' ab e2 t1 n1
  · rcases e2 with ⟨t2, n2⟩ | e2
    · exact key a b p q ha hb hp hq ab pq' e1 t2 n2
    · rw [← Bool.not_eq_true, qcross_iff]
      rintro ⟨⟨-, d2, d3, -, -, -⟩, -⟩
      rcases sx_un (by omega) (by omega) (by omega) (by omega) ab pq' (e1.trans e2.symm) with ⟨q1, -⟩ | ⟨q1, -⟩
      · exact d2 q1
      · exact d3 q1
end
