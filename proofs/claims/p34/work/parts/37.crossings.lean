/-! ===== crossings: two ways to count ===== -/
theorem sB_list (f : Nat → Nat) : ∀ m p, sB f p m = ((List.range' p m).map f).sum := by
  intro m
  induction m with
  | zero => intro p; rfl
  | succ m ih =>
    intro p
    rw [List.range'_succ, List.map_cons, List.sum_cons, ← ih]
    rfl
theorem cB_sB (f : Nat → Bool) : ∀ m p, cB f p m = sB (fun k => bn (f k)) p m := by
  intro m
  induction m with
  | zero => intro p; rfl
  | succ m ih =>
    intro p
    unfold cB sB
    rw [ih]
    rfl
theorem sum_fm {α β : Type} (f : β → Nat) (L : α → List β) : ∀ K : List α, ((K.flatMap L).map f).sum = (K.map (fun i => ((L i).map f).sum)).sum := by
  intro K
  induction K with
  | nil => rfl
  | cons a K ih => rw [List.flatMap_cons, List.map_append, List.sum_append, ih, List.map_cons, List.sum_cons]
theorem sum_filter {α : Type} (f : α → Nat) (P : α → Bool) : ∀ L : List α, (∀ x ∈ L, P x = false → f x = 0) → (L.map f).sum = ((L.filter P).map f).sum := by
  intro L
  induction L with
  | nil => intro _; rfl
  | cons a L ih =>
    intro h
    rw [List.map_cons, List.sum_cons, ih fun x hx => h x (List.mem_cons_of_mem _ hx)]
    cases hp : P a with
    | true => rw [List.filter_cons_of_pos hp, List.map_cons, List.sum_cons]
    | false => rw [List.filter_cons_of_neg (by simp [hp]), h a List.mem_cons_self hp, Nat.zero_add]
theorem sum_perm {L K : List Nat} (h : L.Perm K) : L.sum = K.sum := by
  induction h with
  | nil => rfl
  | cons x _ ih => rw [List.sum_cons, List.sum_cons, ih]
  | swap x y l => simp only [List.sum_cons]; omega
  | trans _ _ a b => exact a.trans b
def dj (n : Nat) (x : Nat × Nat) : Bool := decide (x.1 < n * (n - 1) / 2) && decide (x.2 < n * (n - 1) / 2) && !decide ((sxi x.1).1 = (sxi x.2).1) && !decide ((sxi x.1).1 = (sxi x.2).2) && !decide ((sxi x.1).2 = (sxi x.2).1) && !decide ((sxi x.1).2 = (sxi x.2).2)
def cl1 : List (Nat × Nat) := (List.range' 0 21).flatMap fun p => (List.range' 0 32).map fun q => (p, q)
def cl2 (n : Nat) : List (Nat × Nat) := (List.range' 0 n).flatMap fun i => (List.range' (i + 1) (n - (i + 1))).flatMap fun j => (List.range' (i + 1) (n - (i + 1))).flatMap fun k => (List.range' (k + 1) (n - (k + 1))).map fun l => (sx i j, sx k l)
theorem cl_perm : ∀ n, n < 8 → 3 ≤ n → ((cl1.filter (dj n)).isPerm ((cl2 n).filter (dj n) ++ ((cl2 n).filter (dj n)).map fun x => (x.2, x.1))) = true := by decide +kernel
theorem cl_sum {n : Nat} (h3 : 3 ≤ n) (h7 : n ≤ 7) (f : Nat × Nat → Nat) (hs : ∀ p q, f (q, p) = f (p, q)) (h0 : ∀ x, dj n x = false → f x = 0) : (cl1.map f).sum = 2 * ((cl2 n).map f).sum := by
  have hp := List.isPerm_iff.mp (cl_perm n (by omega) h3)
  rw [sum_filter f (dj n) cl1 fun x _ h => h0 x h, sum_filter f (dj n) (cl2 n) fun x _ h => h0 x h, sum_perm (hp.map f), List.map_append, List.sum_append, List.map_map]
  rw [show (f ∘ fun x : Nat × Nat => (x.2, x.1)) = f from funext fun x => hs x.1 x.2]
  omega
theorem xq_dj {χ : tC} {n p q : Nat} (h7 : n ≤ 7) (h : xq χ n p q = true) : dj n (p, q) = true := by
  have lt : ∀ n, n < 8 → ∀ y, y < n → ∀ x, x < y → sx x y < n * (n - 1) / 2 := by decide +kernel
  have l := lt n (by omega)
  obtain ⟨a, b, c, d, h1, h2, h3, h4, hx⟩ := xq_iff.mp h
  have key : ∀ x y z t, x < y → z < t → y < n → t < n → x ≠ z → x ≠ t → y ≠ z → y ≠ t → pq p q x y z t = true → dj n (p, q) = true := by
    intro x y z t a1 a2 a3 a4 a5 a6 a7 a8 hq
    have l1 := l y a3 x a1
    have l2 := l t a4 z a2
    have e1 := sxi_sx (by omega) a1
    have e2 := sxi_sx (by omega) a2
    unfold dj
    rcases pq_iff.mp hq with ⟨rfl, rfl⟩ | ⟨rfl, rfl⟩
    · simp [e1, e2, l1, l2, a5, a6, a7, a8]
    · simp [e1, e2, l1, l2, a5.symm, a6.symm, a7.symm, a8.symm]
  rcases xqD_iff.mp hx with ⟨x, y⟩ | ⟨x, y⟩ | ⟨x, y⟩
  · exact key a b c d (by omega) (by omega) (by omega) (by omega) (by omega) (by omega) (by omega) (by omega) y
  · exact key a c b d (by omega) (by omega) (by omega) (by omega) (by omega) (by omega) (by omega) (by omega) y
  · exact key a d b c (by omega) (by omega) (by omega) (by omega) (by omega) (by omega) (by omega) (by omega) y
theorem xqD_s (χ : tC) (p q a b c d : Nat) : xqD χ q p a b c d = xqD χ p q a b c d := by
  have e : ∀ x y z t, pq q p x y z t = pq p q x y z t := fun x y z t => by
    rw [Bool.eq_iff_iff, pq_iff, pq_iff]
    constructor
    · rintro (⟨a, b⟩ | ⟨a, b⟩)
      · exact Or.inr ⟨b, a⟩
      · exact Or.inl ⟨b, a⟩
    · rintro (⟨a, b⟩ | ⟨a, b⟩)
      · exact Or.inr ⟨b, a⟩
      · exact Or.inl ⟨b, a⟩
  unfold xqD
  simp only [e]
theorem xq_s (χ : tC) (n p q : Nat) : xq χ n q p = xq χ n p q := by
  rw [Bool.eq_iff_iff, xq_iff, xq_iff]
  simp only [xqD_s χ p q]
/-- how many segments cross, as the model counts -/
def crs3 (χ : tC) (n i j : Nat) : Nat → Nat := fun k => sB (fun l => bn (qcross χ i j k l)) (k + 1) (n - (k + 1))
def crs2 (χ : tC) (n i : Nat) : Nat → Nat := fun j => sB (crs3 χ n i j) (i + 1) (n - (i + 1))
def crs1 (χ : tC) (n : Nat) : Nat → Nat := fun i => sB (crs2 χ n i) (i + 1) (n - (i + 1))
def crs (χ : tC) (n : Nat) : Nat := sB (crs1 χ n) 0 n
theorem crs_list {χ : tC} {n : Nat} (w : WS χ n) (h7 : n ≤ 7) : crs χ n = ((cl2 n).map fun x => bn (xq χ n x.1 x.2)).sum := by
  unfold cl2
  rw [sum_fm, ← sB_list]
  unfold crs
  refine sB_ext _ _ fun i _ hi => ?_
  rw [sum_fm, ← sB_list]
  unfold crs1
  refine sB_ext _ _ fun j hj1 hj2 => ?_
  rw [sum_fm, ← sB_list]
  unfold crs2
  refine sB_ext _ _ fun k hk1 hk2 => ?_
  rw [List.map_map, ← sB_list]
  unfold crs3
  refine sB_ext _ _ fun l hl1 hl2 => ?_
  show _ = bn (xq χ n (sx i j) (sx k l))
  rw [xq_cross w h7 (by omega) (by omega) (by omega) (by omega) (by omega) (by omega)]
theorem crs_class {χ : tC} {n : Nat} {f : Nat → Int32} (w : WS χ n) (h3 : 3 ≤ n) (h7 : n ≤ 7) : sB (fun p => pc (rdM χ n f p)) 0 21 = 2 * crs χ n := by
  rw [crs_list w h7, ← cl_sum h3 h7 (fun x => bn (xq χ n x.1 x.2)) (fun p q => by rw [xq_s]) fun x hx => by
    cases hq : xq χ n x.1 x.2 with
    | true =>
      have := xq_dj h7 hq
      rw [hx] at this
      cases this
    | false => rfl]
  unfold cl1
  rw [sum_fm, ← sB_list]
  refine sB_ext _ _ fun p _ hp => ?_
  rw [List.map_map, ← sB_list]
  unfold pc
  rw [cB_sB]
  exact sB_ext _ _ fun q _ _ => by
    rw [rdM_bt h7 (by omega)]
    rfl
theorem m_26 {h : tH} {M : Nat → Int32} (Q : tO → tH → Prop) : AM 26 [.ref 9] (hM h M) Q = Q (RI (nI (sB (fun p => pc (M p)) 0 21) / 2)) (hM h M) := by
  have l := lps (β := Unit) (L := fun k a w => AX 1 26 4 [.ref 9, .int (nI a), .int (nI k)] [] (hM h M) Q) (E := fun a => Q (RI (nI a / 2)) (hM h M)) (f := fun p => pc (M p)) (n := 21)
    (fun a w => by
      rw [s_26_4, if_pos (show Int32.ofNat 21 ≤ nI 21 from Int32.le_refl _)]
      simp only [t_ob_9', true_and])
    (fun k a w F hk hF => by
      have e : (Int32.ofNat 21 ≤ nI k) = (21 ≤ k) := nI_le' (a := 21) (b := k) (by omega) (by omega)
      rw [s_26_4, if_neg (by rw [e]; omega)]
      simp only [t_ob_9', true_and, vI hk (show 21 < 10000 by decide), nC (show k < 10000 by omega), hM_10, m_1, t_ki, nI_add, nI_1, hF _ ()])
  rw [am_26, s_26_0]
  have := l 21 0 (by omega) 0 ()
  rw [Nat.zero_add] at this
  exact this
theorem nI_half {a : Nat} (h : a < 1000) : nI a / 2 = nI (a / 2) := by
  have hh : ∀ a, a < 1000 → nI a / 2 = nI (a / 2) := by decide +kernel
  exact hh a h
theorem sB_le {f : Nat → Nat} {b : Nat} : ∀ m p, (∀ k, p ≤ k → k < p + m → f k ≤ b) → sB f p m ≤ b * m := by
  intro m
  induction m with
  | zero => intro p _; exact Nat.zero_le _
  | succ m ih =>
    intro p h
    have h1 := h p (by omega) (by omega)
    have h2 := ih (p + 1) fun k a c => h k (by omega) (by omega)
    unfold sB
    rw [Nat.mul_succ]
    omega
theorem fr_hM {h : tH} {M : Nat → Int32} : fr h (hM h M) := fun k i e => by
  refine hM_o (fun z => ?_) i
  rw [z] at e
  cases e
theorem fr_9 {h : tH} {x : Int32} : fr h (t_I h 9 1 x) := fr_I (by decide)
theorem c88 {h : tH} {D d n : Nat} (h1 : h.1 0 3 = nI D) (h3 : D ≤ 6) (hd : d < D) (t1 : tn h (70 + d) n) (n3 : 3 ≤ n) (w : WS (tX h (70 + d)) n) : rn 88 [.ref 0, .int (nI d)] h (RI (nI (crs (tX h (70 + d)) n))) (hM (t_I h 9 1 (nI n)) (rdM (tX h (70 + d)) n (h.1 10))) := by
  intro Q
  have hd6 : d < 6 := by omega
  rw [am_88, s_88_0, c75 h1 h3 hd]
  simp only [t_ob_0', t_ob_9', true_and, t_kq_r, va_rf_s, s_88_9, e30, o40 hd6, m_23 t1, t_kv, m_26, t_ki, crs_class w n3 t1.2.2]
  have hb : 2 * crs (tX h (70 + d)) n < 1000 := by
    rw [← crs_class (f := h.1 10) w n3 t1.2.2]
    have := sB_le (f := fun p => pc (rdM (tX h (70 + d)) n (h.1 10) p)) (b := 32) 21 0 fun k _ _ => cB_le _ 32 0
    omega
  rw [nI_half hb]
  rw [show 2 * crs (tX h (70 + d)) n / 2 = crs (tX h (70 + d)) n by omega]
