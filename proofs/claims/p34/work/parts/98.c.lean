/-! ===== bits gathered in three nested loops; a flip of three; new names ===== -/
theorem ht3 {α β γ δ : Type} {n : Nat} {L1 : Nat → α → β → Prop} {L2 : Nat → Nat → α → γ → Prop} {L3 : Nat → Nat → Nat → α → δ → Prop} {f : Nat → Nat → Nat → α → α}
    (s1 : ∀ i a w, i < n → (∀ w', L2 i (i + 1) a w') → L1 i a w) (e2 : ∀ i a w, i < n → (∀ w', L1 (i + 1) a w') → L2 i n a w)
    (s2 : ∀ i j a w, i < j → j < n → (∀ w', L3 i j (j + 1) a w') → L2 i j a w) (e3 : ∀ i j a w, i < j → j < n → (∀ w', L2 i (j + 1) a w') → L3 i j n a w)
    (s3 : ∀ i j k a w, i < j → j < k → k < n → (∀ w', L3 i j (k + 1) (f i j k a) w') → L3 i j k a w) (a : α) (H : ∀ w, L1 n (fd3 f n a) w) : ∀ w, L1 0 a w := by
  have l3 : ∀ i j, i < j → j < n → ∀ m k a, k + m = n → j < k → (∀ w, L2 i (j + 1) (fd (fun k a => f i j k a) k m a) w) → ∀ w, L3 i j k a w := by
    intro i j ij jn m
    induction m with
    | zero =>
      intro k a hk _ hC w
      have : k = n := by omega
      subst this
      exact e3 i j a w ij jn hC
    | succ m ih =>
      intro k a hk jk hC w
      exact s3 i j k a w ij jk (by omega) fun w' => ih (k + 1) _ (by omega) (by omega) hC w'
  have l2 : ∀ i, i < n → ∀ m j a, j + m = n → i < j → (∀ w, L1 (i + 1) (fd (fun j a => fd (fun k a => f i j k a) (j + 1) (n - (j + 1)) a) j m a) w) → ∀ w, L2 i j a w := by
    intro i hi m
    induction m with
    | zero =>
      intro j a hj _ hC w
      have : j = n := by omega
      subst this
      exact e2 i a w hi hC
    | succ m ih =>
      intro j a hj ij hC w
      exact s2 i j a w ij (by omega) fun w' => l3 i j ij (by omega) (n - (j + 1)) (j + 1) a (by omega) (by omega) (fun w => ih (j + 1) _ (by omega) (by omega) hC w) w'
  have l1 : ∀ m i a, i + m = n → (∀ w, L1 n (fd (fun i a => fd (fun j a => fd (fun k a => f i j k a) (j + 1) (n - (j + 1)) a) (i + 1) (n - (i + 1)) a) i m a) w) → ∀ w, L1 i a w := by
    intro m
    induction m with
    | zero =>
      intro i a hi hC w
      have : i = n := by omega
      subst this
      exact hC w
    | succ m ih =>
      intro i a hi hC w
      exact s1 i a w (by omega) fun w' => l2 i (by omega) (n - (i + 1)) (i + 1) a (by omega) (by omega) (fun w => ih (i + 1) _ (by omega) hC w) w'
  exact l1 n 0 a (by omega) H
def addb (f : Nat → Nat → Nat → Bool) (i j k : Nat) (y : Int64) : Int64 := if f i j k = true then y ||| lone (ps i j k) else y
theorem addb_bl {f : Nat → Nat → Nat → Bool} {n a b c : Nat} (h7 : n ≤ 7) (ab : a < b) (bc : b < c) (cn : c < n) : bl (fd3 (addb f) n 0) (ps a b c) = f a b c := by
  have p64 := ps_64 a (by omega) b (by omega) c (by omega)
  cases hf : f a b c with
  | true =>
    refine fd3_hit (I := fun y => bl y (ps a b c) = true) (fun i j k y _ _ _ hy => ?_) ab bc cn (fun y => ?_) 0
    · unfold addb
      split
      · rw [bl_or, hy]; rfl
      · exact hy
    · unfold addb
      rw [if_pos hf, bl_or, bl_one p64]
      simp
  | false =>
    refine fd3_inv (I := fun y => bl y (ps a b c) = false) (fun i j k y ij jk kn hy => ?_) 0 (bl_0 _)
    unfold addb
    split
    · next z =>
      have ne : ¬ ps a b c = ps i j k := fun q => by
        have := (ps_i ab bc (show c < 7 by omega) (show i < 7 by omega) (show j < 7 by omega) (show k < 7 by omega) (by omega) (by omega) (by omega)).mp q
        have e1 : i = a := by omega
        have e2 : j = b := by omega
        have e3 : k = c := by omega
        rw [e1, e2, e3, hf] at z
        cases z
      rw [bl_or, hy, bl_one (ps_64 i (by omega) j (by omega) k (by omega))]
      simp [ne]
    · exact hy
/-- three points in any order -/
theorem LV_flipg {χ : tC} {y : Int64} {n i j k : Nat} (L : LV χ y n) (hi : i < n) (hj : j < n) (hk : k < n) (ij : i ≠ j) (jk : j ≠ k) (ik : i ≠ k) : LV (setC χ i j k (-χ i j k)) (y ^^^ lone (ps i j k)) n := by
  obtain ⟨r, w, h7⟩ := L
  have pm := LV_pm ⟨r, w, h7⟩ hi hj hk ij jk ik
  have pm' : -χ i j k = 1 ∨ -χ i j k = -1 := by rcases pm with e | e <;> rw [e] <;> decide
  have w' := WS_set (x := -χ i j k) w h7 hi hj hk ij jk ik pm'
  have i7 : i < 7 := by omega
  have j7 : j < 7 := by omega
  have k7 : k < 7 := by omega
  refine ⟨Rel_of w' h7 fun a b c ab bc cn => ?_, w', h7⟩
  have p1 := ps_64 i i7 j j7 k k7
  have e := ps_i ab bc (by omega) i7 j7 k7 ij jk ik
  have a7 : a < 7 := by omega
  have b7 : b < 7 := by omega
  have c7 : c < 7 := by omega
  have r1 := r a b c (by omega) (by omega) cn
  rw [lsg_u ab bc] at r1
  rw [bl_xor, bl_one p1]
  by_cases z : ps a b c = ps i j k
  · have nn : ∀ x : Int32, - -x = x := fun x => Int32.neg_neg
    have v1 : setC χ i j k (-χ i j k) j i k = -χ j i k := by rw [setC_at, if_pos ⟨rfl, rfl, rfl⟩, WS_j w i7 j7 k7]
    have v2 : setC χ i j k (-χ i j k) k j i = -χ k j i := by rw [setC_at, if_neg (fun z => jk z.1.symm), if_pos ⟨rfl, rfl, rfl⟩, WS_r w (a := i) (b := k) (c := j) i7 k7 j7, WS_k w i7 j7 k7]
    have v3 : setC χ i j k (-χ i j k) i k j = -χ i k j := by rw [setC_at, if_neg (fun z => ij z.1), if_neg (fun z => ik z.1), if_pos ⟨rfl, rfl, rfl⟩, WS_k w i7 j7 k7]
    have v4 : setC χ i j k (-χ i j k) k i j = -χ k i j := by rw [setC_at, if_neg (fun z => jk z.1.symm), if_neg (fun z => ij z.2.1), if_neg (fun z => ik z.1.symm), if_pos ⟨rfl, rfl, rfl⟩, ← WS_r w (a := k) (b := i) (c := j) k7 i7 j7]
    have v5 : setC χ i j k (-χ i j k) j k i = -χ j k i := by rw [setC_at, if_neg (fun z => ik z.2.1.symm), if_neg (fun z => jk z.1), if_neg (fun z => ij z.1.symm), if_neg (fun z => jk z.1), if_pos ⟨rfl, rfl, rfl⟩, WS_r w (a := i) (b := j) (c := k) i7 j7 k7]
    have v6 : setC χ i j k (-χ i j k) i j k = -χ i j k := setC_in ij jk ik
    have v : setC χ i j k (-χ i j k) a b c = -χ a b c := by
      obtain ⟨q1, q2, q3⟩ := e.mp z
      rcases q1 with q1 | q1 | q1 <;> rcases q2 with q2 | q2 | q2 <;> rcases q3 with q3 | q3 | q3 <;> subst q1 <;>
        first
        | exact absurd q2.symm (fun y => ij y.symm)
        | exact absurd q2 (fun y => ij y.symm)
        | (subst q2; first | exact absurd q3 (fun y => ik y.symm) | exact absurd q3 (fun y => jk y.symm) | (subst q3; first | exact v1 | exact v2 | exact v3 | exact v4 | exact v5 | exact v6))
    rw [v, r1, decide_eq_true z]
    cases bl y (ps a b c) <;> decide
  · have v : setC χ i j k (-χ i j k) a b c = χ a b c := setC_o fun q => z (e.mpr q)
    rw [v, r1, decide_eq_false z]
    simp
theorem k71 {h : tH} {D n i j k : Nat} {χ : tC} (G : GH h D n χ) (hi : i < n) (hj : j < n) (hk : k < n) (ij : i ≠ j) (jk : j ≠ k) (ik : i ≠ k) (Q : tO → tH → Prop) : AM 71 [.ref 0, .int 0, .int (nI i), .int (nI j), .int (nI k)] h Q =
    (if qhold (setC χ i j k (-χ i j k)) n = true then Q (RI 1) (t_I (t_I (hPut h 80 i j k (-χ i j k)) 40 3 0) 40 5 0) else Q (RI 0) (hPut (hPut h 80 i j k (-χ i j k)) 80 i j k (χ i j k))) := by
  have h7 := G.2.2.2.2.2.2.1
  have w := G.2.2.2.2.2.2.2.1
  have hh := G.2.2.2.2.2.2.2.2
  have hD : 0 < D := by have := G.2.1; omega
  have hχ : tX h (70 + 0) = χ := G.2.2.2.2.1
  have hs := WS_at w h7 hi hj hk ij jk ik
  have hs' : -χ i j k = 1 ∨ -χ i j k = -1 := by rcases hs with e | e <;> simp [e]
  have fe := flip_eq (x := -χ i j k) w h7 hh hi hj hk ij jk ik hs'
  have hp' : (pI (nI i) n && pI (nI j) n && pI (nI k) n) = true := by
    rw [pI_nI (by omega) (by omega), pI_nI (by omega) (by omega), pI_nI (by omega) (by omega)]
    simp [hi, hj, hk]
  have hu : ¬ un3 (nI i) (nI j) (nI k) = true := by
    unfold un3
    rw [show decide (nI i = nI j) = false by rw [decide_eq_false_iff_not, nI_eq' (by omega) (by omega)]; exact ij, show decide (nI j = nI k) = false by rw [decide_eq_false_iff_not, nI_eq' (by omega) (by omega)]; exact jk, show decide (nI i = nI k) = false by rw [decide_eq_false_iff_not, nI_eq' (by omega) (by omega)]; exact ik]
    decide
  have t := c71 (d := 0) (a := nI i) (b := nI j) (c := nI k) G.1 G.2.2.1 hD (GH_tn G) Q
  refine t.trans ?_
  rw [if_pos hp', if_neg hu, m_turnOver (GH_tn G) hi hj hk, tX_put (by omega) (by omega) (by omega), hχ, ← fe]
  cases qhold (setC χ i j k (-χ i j k)) n <;> simp [t_ki]
/-- rename, on drawing 0 -/
theorem k72 {h : tH} {D n i j : Nat} {χ : tC} (G : GH h D n χ) (hi : i < n) (hj : j < n) (ij : i ≠ j) (Q : tO → tH → Prop) : AM 72 [.ref 0, .int 0, .int (nI i), .int (nI j)] h Q = Q (.inl none) (rA h 0 i j n) :=
  c72s (d := 0) G.1 G.2.2.1 (by have := G.2.1; omega) (GH_tn G) hi hj ij Q
theorem rA_at (h : tH) (i j n a b : Nat) : (rA h 0 i j n).1 a b = if a = 40 ∧ b = 5 then 0 else if a = 60 ∧ b = j then h.1 60 i else if a = 60 ∧ b = i then h.1 60 j else if a = 50 ∧ b = j then h.1 50 i else if a = 50 ∧ b = i then h.1 50 j else if a = 80 then g1 i j n (h.1 80) b else h.1 a b := rfl
theorem rA_X {h : tH} {D n i j : Nat} {χ : tC} (G : GH h D n χ) (hi : i < n) (hj : j < n) (ij : i ≠ j) : tX (rA h 0 i j n) 70 = ren i j χ := by
  have h7 := G.2.2.2.2.2.2.1
  have ws := G.2.2.2.2.2.2.2.1
  have hχ : tX h 70 = χ := G.2.2.2.2.1
  have hi7 : i < 7 := by omega
  have hj7 : j < 7 := by omega
  have big : ∀ a b c, ¬ (a < 7 ∧ b < 7 ∧ c < 7) → ren i j χ a b c = 0 := fun a b c e => by
    unfold ren
    rw [← hχ, cut_Xr]
    refine cut_big fun z => ?_
    have k1 : ¬ (¬ a < 7) := fun q => sw_ge hi7 hj7 q z.1
    have k2 : ¬ (¬ b < 7) := fun q => sw_ge hi7 hj7 q z.2.1
    have k3 : ¬ (¬ c < 7) := fun q => sw_ge hi7 hj7 q z.2.2
    omega
  rw [cut_Xr, show (rA h 0 i j n).1 (70 + 10) = g1 i j n (h.1 80) from funext fun b => by
    show (rA h 0 i j n).1 80 b = _
    rw [rA_at, if_neg (by omega), if_neg (by omega), if_neg (by omega), if_neg (by omega), if_neg (by omega), if_pos rfl]]
  have e := cut_g1 (n := n) h7 hi7 hj7 (h.1 80)
  have ec : cut (h.1 80) = χ := by rw [← hχ, cut_Xr]
  funext a b c
  by_cases e7 : a < 7 ∧ b < 7 ∧ c < 7
  · rw [e, ec]
    exact E1_ren h7 ij hi hj ws a b c e7.1 e7.2.1 e7.2.2
  · rw [cut_big e7, big a b c e7]
theorem LV_ren {χ : tC} {y : Int64} {n i j : Nat} (L : LV χ y n) (hi : i < n) (hj : j < n) : LV (ren i j χ) (fd3 (addb fun a b c => decide (χ (sw i j a) (sw i j b) (sw i j c) = 1)) n 0) n := by
  have w' := ren_WS L.2.2 hi hj L.2.1
  refine ⟨Rel_of w' L.2.2 fun a b c ab bc cn => ?_, w', L.2.2⟩
  rw [addb_bl L.2.2 ab bc cn, decide_eq_true_iff]
  exact Iff.rfl
