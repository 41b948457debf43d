/-! ===== the segments that cross, as bits ===== -/
/-- with another row of crossings -/
def hM (h : tH) (M : Nat → Int32) : tH := (fun a b => if a = 10 then M b else h.1 a b, h.2)
theorem hM_r (h : tH) : hM h (h.1 10) = h := by
  obtain ⟨f, r⟩ := h
  unfold hM
  refine Prod.ext ?_ rfl
  funext a b
  show (if a = 10 then f 10 b else f a b) = f a b
  by_cases e : a = 10
  · rw [if_pos e, e]
  · rw [if_neg e]
theorem hM_o {h : tH} {M : Nat → Int32} {a : Nat} (e : a ≠ 10) (b : Nat) : (hM h M).1 a b = h.1 a b := if_neg e
theorem hM_10 {h : tH} {M : Nat → Int32} : (hM h M).1 10 = M := by
  funext b
  show (if 10 = 10 then M b else h.1 10 b) = M b
  rw [if_pos rfl]
theorem hM_I {h : tH} {M : Nat → Int32} {i : Nat} {x : Int32} : t_I (hM h M) 10 i x = hM h (upd M i x) := by
  unfold hM t_I
  refine Prod.ext ?_ rfl
  funext a b
  show (if a = 10 ∧ b = i then x else if a = 10 then M b else h.1 a b) = (if a = 10 then (if b = i then x else M b) else h.1 a b)
  by_cases e : a = 10
  · by_cases f : b = i <;> simp [e, f]
  · simp [e]
theorem hM_tX {h : tH} {M : Nat → Int32} {r : Nat} (e : r ≠ 0) : tX (hM h M) r = tX h r := tX_o fun c _ => hM_o (by omega) c
theorem hM_tn {h : tH} {M : Nat → Int32} {r n : Nat} (t : tn h r n) : tn (hM h M) r n := by
  have : r ≠ 10 := fun z => by have := t.1; rw [z] at this; cases this
  exact ⟨t.1, (hM_o this 1).trans t.2.1, t.2.2⟩
theorem t_ar_10' : t_ar 10 = some (0, 21) := rfl
theorem t_ob_9' : t_ob 9 = some 3 := rfl
def nt (χ : tC) (i j k l : Nat) (M : Nat → Int32) : Nat → Int32 :=
  if pparts χ i j k l = true then upd (upd M (sx i j) (M (sx i j) ||| sb k l)) (sx k l) (upd M (sx i j) (M (sx i j) ||| sb k l) (sx k l) ||| sb i j) else M
theorem m_24 {h : tH} {M : Nat → Int32} {r n i j k l : Nat} (t : tn h r n) (hi : i < n) (hj : j < n) (hk : k < n) (hl : l < n) (a : i ≠ j) (b : k ≠ l) (Q : tO → tH → Prop) :
    AM 24 [.ref 9, .ref r, .int (nI i), .int (nI j), .int (nI k), .int (nI l)] (hM h M) Q = Q (.inl none) (hM h (nt (tX h r) i j k l M)) := by
  have h7 := t.2.2
  have hr : r ≠ 0 := fun z => by have := t.1; rw [z] at this; cases this
  have hi7 : i < 7 := by omega
  have hj7 : j < 7 := by omega
  have hk7 : k < 7 := by omega
  have hl7 : l < 7 := by omega
  have s1 := sx_lt hi7 hj7 a
  have s2 := sx_lt hk7 hl7 b
  rw [am_24, s_24_0]
  simp only [t.1, true_and, m_parts t.1 hi7 hj7 hk7 hl7, t_ki, zb_0, s_24_79, m_21 hi7 hj7, m_21 hk7 hl7, m_22 hi7 hj7, m_22 hk7 hl7, t_ob_9', m_get t_ar_10', m_set t_ar_10', zg_n s1 (show 21 < 5000 by decide), zg_n s2 (show 21 < 5000 by decide), zs_n s1 (show 21 < 5000 by decide), zs_n s2 (show 21 < 5000 by decide), t_kv, hM_I, hM_10, hM_tX hr]
  unfold nt
  cases pparts (tX h r) i j k l <;> simp
/-- some of m numbers from p on -/
def eB (f : Nat → Bool) : Nat → Nat → Bool
  | _, 0 => false
  | p, m + 1 => f p || eB f (p + 1) m
theorem eB_iff (f : Nat → Bool) : ∀ m p, eB f p m = true ↔ ∃ x, p ≤ x ∧ x < p + m ∧ f x = true := by
  intro m
  induction m with
  | zero => intro p; exact ⟨fun h => (nomatch h), fun ⟨x, a, b, _⟩ => by omega⟩
  | succ m ih =>
    intro p
    unfold eB
    rw [Bool.or_eq_true, ih]
    constructor
    · rintro (h | ⟨x, a, b, c⟩)
      · exact ⟨p, Nat.le_refl _, by omega, h⟩
      · exact ⟨x, by omega, by omega, c⟩
    · rintro ⟨x, a, b, c⟩
      by_cases hx : x = p
      · rw [hx] at c; exact Or.inl c
      · exact Or.inr ⟨x, by omega, by omega, c⟩
/-- whether the segments of the bits p and q are the two -/
def pq (p q i j k l : Nat) : Bool := (decide (p = sx i j) && decide (q = sx k l)) || (decide (p = sx k l) && decide (q = sx i j))
theorem nt_bt {χ : tC} {M : Nat → Int32} {i j k l p q : Nat} (hi : i < 7) (hj : j < 7) (hk : k < 7) (hl : l < 7) (a : i ≠ j) (b : k ≠ l) : bt (nt χ i j k l M p) q = (bt (M p) q || (pparts χ i j k l && pq p q i j k l)) := by
  have s1 := sx_lt hi hj a
  have s2 := sx_lt hk hl b
  unfold nt
  by_cases hp : pparts χ i j k l = true
  · rw [if_pos hp]
    unfold sb pq
    rw [if_neg a, if_neg b]
    show bt (if p = sx k l then ((if sx k l = sx i j then M (sx i j) ||| one (sx k l) else M (sx k l)) ||| one (sx i j)) else if p = sx i j then M (sx i j) ||| one (sx k l) else M p) q = _
    by_cases h1 : p = sx k l
    · rw [if_pos h1]
      by_cases h2 : sx k l = sx i j
      · rw [if_pos h2, b_or, b_or, bt_one (by omega), bt_one (by omega)]
        have h3 : p = sx i j := h1.trans h2
        simp [hp, h3, h2, Bool.or_assoc]
      · rw [if_neg h2, b_or, bt_one (by omega)]
        have h3 : ¬ sx k l = sx i j := h2
        simp [hp, h1, h3]
    · rw [if_neg h1]
      by_cases h2 : p = sx i j
      · rw [if_pos h2, b_or, bt_one (by omega)]
        have h3 : ¬ sx i j = sx k l := fun z => h1 (h2.trans z)
        simp [hp, h2, h3]
      · rw [if_neg h2]
        simp [h1, h2]
  · rw [if_neg hp]
    simp [hp]
theorem fd_or {F : Nat → (Nat → Int32) → (Nat → Int32)} {g : Nat → Bool} {p q : Nat} : ∀ (m k : Nat) (M : Nat → Int32), (∀ x M, k ≤ x → x < k + m → bt (F x M p) q = (bt (M p) q || g x)) → bt (fd F k m M p) q = (bt (M p) q || eB g k m) := by
  intro m
  induction m with
  | zero => intro k M _; simp [fd, eB]
  | succ m ih =>
    intro k M h
    rw [fd_s, ih (k + 1) _ fun x M h1 h2 => h x M (by omega) (by omega), h k M (by omega) (by omega)]
    show _ = (bt (M p) q || (g k || eB g (k + 1) m))
    rw [Bool.or_assoc]
def ntD (χ : tC) (a b c : Nat) : Nat → (Nat → Int32) → (Nat → Int32) := fun d M => nt χ a d b c (nt χ a c b d (nt χ a b c d M))
def ntC (χ : tC) (n a b : Nat) : Nat → (Nat → Int32) → (Nat → Int32) := fun c M => fd (ntD χ a b c) (c + 1) (n - (c + 1)) M
def ntB (χ : tC) (n a : Nat) : Nat → (Nat → Int32) → (Nat → Int32) := fun b M => fd (ntC χ n a b) (b + 1) (n - (b + 1)) M
def ntA (χ : tC) (n : Nat) : Nat → (Nat → Int32) → (Nat → Int32) := fun a M => fd (ntB χ n a) (a + 1) (n - (a + 1)) M
def xqD (χ : tC) (p q a b c : Nat) : Nat → Bool := fun d => (pparts χ a b c d && pq p q a b c d) || ((pparts χ a c b d && pq p q a c b d) || (pparts χ a d b c && pq p q a d b c))
def xqC (χ : tC) (n p q a b : Nat) : Nat → Bool := fun c => eB (xqD χ p q a b c) (c + 1) (n - (c + 1))
def xqB (χ : tC) (n p q a : Nat) : Nat → Bool := fun b => eB (xqC χ n p q a b) (b + 1) (n - (b + 1))
def xqA (χ : tC) (n p q : Nat) : Nat → Bool := fun a => eB (xqB χ n p q a) (a + 1) (n - (a + 1))
/-- whether the segments of two bits cross -/
def xq (χ : tC) (n p q : Nat) : Bool := eB (xqA χ n p q) 0 n
def zM (f : Nat → Int32) : Nat → Int32 := fd (fun k M => upd M k 0) 0 21 f
def rdM (χ : tC) (n : Nat) (f : Nat → Int32) : Nat → Int32 := fd (ntA χ n) 0 n (zM f)
theorem zM_0 {f : Nat → Int32} {p : Nat} (hp : p < 21) : zM f p = 0 := by
  have : ∀ m, m ≤ 21 → ∀ x, x < m → fd (fun k M => upd M k 0) 0 m f x = 0 := by
    intro m
    induction m with
    | zero => intro _ x hx; omega
    | succ m ih =>
      intro hm x hx
      rw [fd_last]
      show (if x = 0 + m then (0 : Int32) else _) = 0
      by_cases h : x = 0 + m
      · rw [if_pos h]
      · rw [if_neg h]
        exact ih (by omega) x (by omega)
  exact this 21 (by omega) p hp
theorem rdM_bt {χ : tC} {n : Nat} (h7 : n ≤ 7) {f : Nat → Int32} {p q : Nat} (hp : p < 21) : bt (rdM χ n f p) q = xq χ n p q := by
  unfold rdM xq
  rw [fd_or n 0 _ (g := xqA χ n p q), zM_0 hp, b_0, Bool.false_or]
  intro a M _ ha
  unfold ntA xqA
  refine fd_or _ _ _ fun b M hb1 hb2 => ?_
  unfold ntB xqB
  refine fd_or _ _ _ fun c M hc1 hc2 => ?_
  unfold ntC xqC
  refine fd_or _ _ _ fun d M hd1 hd2 => ?_
  unfold ntD xqD
  rw [nt_bt (by omega) (by omega) (by omega) (by omega) (by omega) (by omega), nt_bt (by omega) (by omega) (by omega) (by omega) (by omega) (by omega), nt_bt (by omega) (by omega) (by omega) (by omega) (by omega) (by omega)]
  simp only [Bool.or_assoc]
theorem m_23 {h : tH} {r n : Nat} (t : tn h r n) (Q : tO → tH → Prop) : AM 23 [.ref 9, .ref r] h Q = Q (.inl none) (hM (t_I h 9 1 (nI n)) (rdM (tX h r) n (h.1 10))) := by
  have h7 := t.2.2
  have hr : r ≠ 0 := fun z => by have := t.1; rw [z] at this; cases this
  have hr9 : r ≠ 9 := fun z => by have := t.1; rw [z] at this; cases this
  obtain ⟨g, hg⟩ : ∃ g, g = t_I h 9 1 (nI n) := ⟨_, rfl⟩
  have tg : tn g r n := by rw [hg]; exact ⟨t.1, (t_I_o hr9 1).trans t.2.1, t.2.2⟩
  have hr10 : r + 10 ≠ 9 := by omega
  have eg : tX g r = tX h r := by
    rw [hg]
    exact tX_o fun c _ => t_I_o hr10 c
  have g9 : ∀ M, (hM g M).1 9 1 = nI n := fun M => by rw [hM_o (by decide), hg]; rfl
  have z := lp (β := Unit) (L := fun k M w => AX 4 23 10 [.ref 9, .ref r, .int (nI k), .float 0, .float 0, .float 0] [] (hM g M) Q) (E := fun M => AX 4 23 34 [.ref 9, .ref r, .int (nI 0), .float 0, .float 0, .float 0] [] (hM g M) Q) (f := fun k M => upd M k 0) (n := 21) (fun _ _ => True)
    (fun M w _ => by
      rw [s_23_10, if_pos (show Int32.ofNat 21 ≤ nI 21 from Int32.le_refl _)]
      simp only [t_ob_9', true_and]
      rfl)
    (fun k M w F hk _ hF => by
      have e : (Int32.ofNat 21 ≤ nI k) = (21 ≤ k) := nI_le' (a := 21) (b := k) (by omega) (by omega)
      rw [s_23_10, if_neg (by rw [e]; omega)]
      simp only [t_ob_9', true_and, vI hk (show 21 < 10000 by decide), nC (show k < 10000 by omega), hM_I, nI_1, hF _ () trivial])
  have l4 := fun (a b c : Nat) (ha : a < n) (hb : a < b ∧ b < n) (hc : b < c ∧ c < n) (F : (Nat → Int32) → Prop) (hF : ∀ M w, AX 4 23 59 [.ref 9, .ref r, .int (nI a), .int (nI b), .int (nI (c + 1)), w] [] (hM g M) Q = F M) =>
    lp (β := Unit) (L := fun d M w => AX 4 23 74 [.ref 9, .ref r, .int (nI a), .int (nI b), .int (nI c), .int (nI d)] [] (hM g M) Q) (E := F) (f := ntD (tX h r) a b c) (n := n) (fun d _ => c < d)
      (fun M w _ => by
        rw [s_23_74, g9, if_pos (Int32.le_refl _), nI_1, hF]
        simp only [t_ob_9', true_and])
      (fun d M w G hd hcd hG => by
        rw [s_23_74, g9]
        simp (disch := omega) only [t_ob_9', true_and, nI_le', m_24 tg, t_kv, nI_1, eg]
        rw [if_neg (by omega)]
        exact hG _ () (by omega))
  have l3 := fun (a b : Nat) (ha : a < n) (hb : a < b ∧ b < n) (F : (Nat → Int32) → Prop) (hF : ∀ M w w', AX 4 23 46 [.ref 9, .ref r, .int (nI a), .int (nI (b + 1)), w, w'] [] (hM g M) Q = F M) =>
    lp (β := Value) (L := fun c M w => AX 4 23 59 [.ref 9, .ref r, .int (nI a), .int (nI b), .int (nI c), w] [] (hM g M) Q) (E := F) (f := ntC (tX h r) n a b) (n := n) (fun c _ => b < c)
      (fun M w _ => by
        rw [s_23_59, g9, if_pos (Int32.le_refl _), nI_1, hF]
        simp only [t_ob_9', true_and])
      (fun c M w G hc hbc hG => by
        rw [s_23_59, g9]
        simp (disch := omega) only [t_ob_9', true_and, nI_le', nI_1]
        rw [if_neg (by omega)]
        exact l4 a b c ha hb ⟨hbc, hc⟩ G (fun M w => hG M w (by omega)) (n - (c + 1)) (c + 1) (by omega) M () (by omega))
  have l2 := fun (a : Nat) (ha : a < n) (F : (Nat → Int32) → Prop) (hF : ∀ M w w' w'', AX 4 23 34 [.ref 9, .ref r, .int (nI (a + 1)), w, w', w''] [] (hM g M) Q = F M) =>
    lp (β := Value × Value) (L := fun b M w => AX 4 23 46 [.ref 9, .ref r, .int (nI a), .int (nI b), w.1, w.2] [] (hM g M) Q) (E := F) (f := ntB (tX h r) n a) (n := n) (fun b _ => a < b)
      (fun M w _ => by
        rw [s_23_46, g9, if_pos (Int32.le_refl _), nI_1, hF]
        simp only [t_ob_9', true_and])
      (fun b M w G hb hab hG => by
        rw [s_23_46, g9]
        simp (disch := omega) only [t_ob_9', true_and, nI_le', nI_1]
        rw [if_neg (by omega)]
        exact l3 a b ha ⟨hab, hb⟩ G (fun M w w' => hG M (w, w') (by omega)) (n - (b + 1)) (b + 1) (by omega) M w.2 (by omega))
  have l1 := lp (β := Value × Value × Value) (L := fun a M w => AX 4 23 34 [.ref 9, .ref r, .int (nI a), w.1, w.2.1, w.2.2] [] (hM g M) Q) (E := fun M => Q (.inl none) (hM g M)) (f := ntA (tX h r) n) (n := n) (fun _ _ => True)
      (fun M w _ => by
        rw [s_23_34, g9, if_pos (Int32.le_refl _)]
        simp only [t_ob_9', true_and])
      (fun a M w G ha _ hG => by
        rw [s_23_34, g9]
        simp (disch := omega) only [t_ob_9', true_and, nI_le', nI_1]
        rw [if_neg (by omega)]
        exact l2 a ha G (fun M w w' w'' => hG M (w, w', w'') trivial) (n - (a + 1)) (a + 1) (by omega) M (w.2.1, w.2.2) (by omega))
  rw [am_23, s_23_0, t.2.1, ← hg]
  simp only [t.1, t_ob_9', true_and]
  have z1 := z 21 0 (by omega) (g.1 10) () trivial
  rw [hM_r] at z1
  have g10 : g.1 10 = h.1 10 := by rw [hg]; exact t_I_ne (by decide)
  rw [show (0 : Int32) = nI 0 from rfl, z1, g10]
  exact l1 n 0 (by omega) _ (.float 0, .float 0, .float 0) trivial
