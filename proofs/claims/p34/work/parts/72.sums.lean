/-! ===== sums over codes ===== -/
theorem sB_app (f : Nat → Nat) : ∀ m p k, sB f p (m + k) = sB f p m + sB f (p + m) k := by
  intro m
  induction m with
  | zero => intro p k; rw [Nat.zero_add]; show sB f p k = 0 + sB f (p + 0) k; rw [Nat.zero_add, Nat.add_zero]
  | succ m ih =>
    intro p k
    rw [show m + 1 + k = (m + k) + 1 by omega]
    show f p + sB f (p + 1) (m + k) = f p + sB f (p + 1) m + sB f (p + (m + 1)) k
    rw [ih, show p + 1 + m = p + (m + 1) by omega, Nat.add_assoc]
theorem sB_sh (f : Nat → Nat) (s : Nat) : ∀ m p, sB f (p + s) m = sB (fun x => f (x + s)) p m := by
  intro m
  induction m with
  | zero => intro p; rfl
  | succ m ih =>
    intro p
    show f (p + s) + sB f (p + s + 1) m = f (p + s) + sB (fun x => f (x + s)) (p + 1) m
    rw [show p + s + 1 = p + 1 + s by omega, ih]
theorem sB_ad (f g : Nat → Nat) : ∀ m p, sB (fun x => f x + g x) p m = sB f p m + sB g p m := by
  intro m
  induction m with
  | zero => intro p; rfl
  | succ m ih =>
    intro p
    show f p + g p + sB (fun x => f x + g x) (p + 1) m = f p + sB f (p + 1) m + (g p + sB g (p + 1) m)
    rw [ih]
    omega
theorem sB_z {f : Nat → Nat} : ∀ m p, (∀ k, p ≤ k → k < p + m → f k = 0) → sB f p m = 0 := by
  intro m
  induction m with
  | zero => intro p _; rfl
  | succ m ih =>
    intro p h
    show f p + sB f (p + 1) m = 0
    rw [h p (by omega) (by omega), ih (p + 1) fun k a b => h k (by omega) (by omega)]
/-- codes of a digit below c and the rest -/
theorem sB_rad (c : Nat) (G : Nat → Nat → Nat) : ∀ M, sB (fun k => G (k % c) (k / c)) 0 (c * M) = sB (fun r => sB (fun q => G r q) 0 M) 0 c := by
  intro M
  induction M with
  | zero => rw [Nat.mul_zero]; exact (sB_z _ _ fun _ _ _ => rfl).symm
  | succ M ih =>
    rw [Nat.mul_succ, sB_app, ih, Nat.zero_add]
    have e1 : sB (fun k => G (k % c) (k / c)) (c * M) c = sB (fun r => G r M) 0 c := by
      have := sB_sh (fun k => G (k % c) (k / c)) (c * M) c 0
      rw [Nat.zero_add] at this
      rw [this]
      refine sB_ext _ _ fun r _ hr => ?_
      show G ((r + c * M) % c) ((r + c * M) / c) = G r M
      rw [Nat.add_mul_mod_self_left, Nat.mod_eq_of_lt (by omega), Nat.add_mul_div_left _ _ (by omega), Nat.div_eq_of_lt (by omega), Nat.zero_add]
    rw [e1, ← sB_ad]
    refine sB_ext _ _ fun r _ _ => ?_
    rw [sB_app (fun q => G r q) M 0 1, Nat.zero_add]
    show _ = sB (fun q => G r q) 0 M + (G r M + 0)
    rw [Nat.add_zero]
/-- the r-th of m numbers from p on that f tells -/
def nth (f : Nat → Bool) : Nat → Nat → Nat → Nat
  | _, 0, _ => 7
  | p, m + 1, r => if f p = true then (if r = 0 then p else nth f (p + 1) m (r - 1)) else nth f (p + 1) m r
theorem nth_in {f : Nat → Bool} : ∀ m p r, r < cB f p m → p ≤ nth f p m r ∧ nth f p m r < p + m ∧ f (nth f p m r) = true := by
  intro m
  induction m with
  | zero => intro p r h; exact absurd h (by unfold cB; omega)
  | succ m ih =>
    intro p r h
    unfold cB at h
    unfold nth
    by_cases e : f p = true
    · rw [if_pos e] at h ⊢
      by_cases r0 : r = 0
      · rw [if_pos r0]; exact ⟨Nat.le_refl _, by omega, e⟩
      · rw [if_neg r0]
        have := ih (p + 1) (r - 1) (by omega)
        exact ⟨by omega, by omega, this.2.2⟩
    · rw [if_neg e] at h ⊢
      have := ih (p + 1) r (by omega)
      exact ⟨by omega, by omega, this.2.2⟩
theorem nth_sum (f : Nat → Bool) (G : Nat → Nat) : ∀ m p, sB (fun r => G (nth f p m r)) 0 (cB f p m) = sB (fun x => if f x = true then G x else 0) p m := by
  intro m
  induction m with
  | zero => intro p; rfl
  | succ m ih =>
    intro p
    show _ = (if f p = true then G p else 0) + sB (fun x => if f x = true then G x else 0) (p + 1) m
    unfold cB
    by_cases e : f p = true
    · rw [if_pos e, if_pos e, ← ih (p + 1), sB_app _ 1 0]
      show (G (nth f p (m + 1) 0) + 0) + sB (fun r => G (nth f p (m + 1) r)) (0 + 1) (cB f (p + 1) m) = _
      rw [sB_sh]
      have e0 : nth f p (m + 1) 0 = p := by show (if f p = true then (if (0 : Nat) = 0 then p else _) else _) = p; rw [if_pos e, if_pos rfl]
      rw [e0, Nat.add_zero]
      congr 1
      refine sB_ext _ _ fun r _ _ => ?_
      show G (if f p = true then (if r + 1 = 0 then p else nth f (p + 1) m (r + 1 - 1)) else _) = _
      rw [if_pos e, if_neg (by omega), Nat.add_sub_cancel]
    · rw [if_neg e, if_neg e, Nat.zero_add, Nat.zero_add, ← ih (p + 1)]
      refine sB_ext _ _ fun r _ _ => ?_
      show G (if f p = true then _ else nth f (p + 1) m r) = _
      rw [if_neg e]
theorem nth_all {f : Nat → Bool} {P : Nat → Prop} : ∀ m p, (∀ r, r < cB f p m → P (nth f p m r)) ↔ ∀ x, p ≤ x → x < p + m → f x = true → P x := by
  intro m
  induction m with
  | zero => intro p; exact ⟨fun _ x h1 h2 => by omega, fun _ r h => by unfold cB at h; omega⟩
  | succ m ih =>
    intro p
    constructor
    · intro h x h1 h2 h3
      by_cases e : f p = true
      · by_cases xp : x = p
        · have := h 0 (by unfold cB; rw [if_pos e]; omega)
          unfold nth at this
          rw [if_pos e, if_pos rfl] at this
          rw [xp]; exact this
        · refine (ih (p + 1)).mp (fun r hr => ?_) x (by omega) (by omega) h3
          have := h (r + 1) (by unfold cB; rw [if_pos e]; omega)
          unfold nth at this
          rw [if_pos e, if_neg (by omega), Nat.add_sub_cancel] at this
          exact this
      · have xp : x ≠ p := fun z => e (z ▸ h3)
        refine (ih (p + 1)).mp (fun r hr => ?_) x (by omega) (by omega) h3
        have := h r (by unfold cB; rw [if_neg e]; omega)
        unfold nth at this
        rw [if_neg e] at this
        exact this
    · intro h r hr
      have := nth_in (m + 1) p r hr
      exact h _ this.1 this.2.1 this.2.2
/-! sets without a point -/
def rmv (S : Int32) (a : Nat) : Int32 := S &&& (one a ^^^ -1)
theorem rmv_bt {S : Int32} {a i : Nat} (ha : a < 32) (hi : i < 32) : bt (rmv S a) i = (bt S i && !decide (i = a)) := by
  unfold rmv
  rw [bt_cpl hi, bt_one ha]
def sm (S : Int32) (n : Nat) : Prop := ∀ i, n ≤ i → bt S i = false
theorem rmv_sm {S : Int32} {a n : Nat} (ha : a < 32) (h : sm S n) : sm (rmv S a) n := fun i hi => by
  by_cases h32 : i < 32
  · rw [rmv_bt ha h32, h i hi]; rfl
  · exact b_big (by omega)
theorem pc_rmv {S : Int32} {a : Nat} (ha : a < 32) (h : bt S a = true) : pc S = pc (rmv S a) + 1 := by
  have e : S = rmv S a ||| one a := b_ext fun i hi => by
    rw [b_or, rmv_bt ha hi, bt_one ha]
    by_cases z : i = a
    · rw [z, h]; simp
    · simp [z]
  have h0 : bt (rmv S a) a = false := by rw [rmv_bt ha ha]; simp
  have := pc_or ha h0
  rw [← e] at this
  exact this
theorem pc_7 {S : Int32} {n : Nat} (h7 : n ≤ 7) (h : sm S n) : pc S = cB (bt S) 0 7 := by
  unfold pc
  rw [cB_sB, cB_sB, show (32 : Nat) = 7 + 25 from rfl, sB_app]
  have : sB (fun k => bn (bt S k)) (0 + 7) 25 = 0 := sB_z _ _ fun k h1 h2 => by rw [h k (by omega)]; rfl
  rw [this, Nat.add_zero]
theorem sm_0 {S : Int32} {n : Nat} (h7 : n ≤ 7) (h : sm S n) (h0 : pc S = 0) : S = 0 := by
  refine b_ext fun i hi => ?_
  rw [b_0]
  cases e : bt S i with
  | false => rfl
  | true =>
    have := pc_rmv (by omega) e
    omega
def low (S : Int32) : Nat := nth (bt S) 0 7 0
theorem low_in {S : Int32} {n : Nat} (h7 : n ≤ 7) (h : sm S n) (h0 : pc S ≠ 0) : low S < n ∧ bt S (low S) = true := by
  have e := pc_7 h7 h
  have := nth_in (f := bt S) 7 0 0 (by omega)
  refine ⟨?_, this.2.2⟩
  apply Classical.byContradiction
  intro z
  have g := h (low S) (by omega)
  have g2 := this.2.2
  unfold low at g
  rw [g] at g2
  cases g2
theorem low_min {f : Nat → Bool} : ∀ m p r x, p ≤ x → x < p + m → f x = true → r = 0 → nth f p m r ≤ x := by
  intro m
  induction m with
  | zero => intro p r x h1 h2; omega
  | succ m ih =>
    intro p r x h1 h2 h3 hr
    unfold nth
    by_cases e : f p = true
    · rw [if_pos e, if_pos hr]; exact h1
    · rw [if_neg e]
      have : x ≠ p := fun z => e (z ▸ h3)
      exact ih (p + 1) r x (by omega) (by omega) h3 hr
theorem low_pF {S : Int32} {n : Nat} (h7 : n ≤ 7) (h : sm S n) (h0 : pc S ≠ 0) : pF (bt S) 0 7 = nI (low S) := by
  obtain ⟨l1, l2⟩ := low_in h7 h h0
  rcases pF_iff (f := bt S) 7 0 (by omega) with ⟨e1, e2⟩ | ⟨x, x1, x2, x3, x4, x5⟩
  · rw [e2 _ (Nat.zero_le _) (by omega)] at l2; cases l2
  · have a := low_min (f := bt S) 7 0 0 x (by omega) (by omega) x3 rfl
    rw [x4]
    congr 1
    apply Classical.byContradiction
    intro z
    have := x5 (low S) (by omega) (by unfold low at *; omega)
    rw [this] at l2; cases l2
theorem fre_0 {χ : tC} {n i j : Nat} : fre χ n 0 i j = true := fre_iff.mpr fun k l _ _ t => by rw [b_0] at t; cases t
