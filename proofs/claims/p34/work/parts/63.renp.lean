/-! ===== rename: the class's exchange of two points, in signs ===== -/
def sw (i j x : Nat) : Nat := if x = i then j else if x = j then i else x
/-- the signs under the names exchanged -/
def ren (i j : Nat) (χ : tC) : tC := fun a b c => χ (sw i j a) (sw i j b) (sw i j c)
def E3 (i j k l : Nat) (χ : tC) : tC := setC (setC χ i k l (χ j k l)) j k l (χ i k l)
def E2 (i j n k : Nat) (χ : tC) : tC := fd (fun l χ => if l = i ∨ l = j then χ else E3 i j k l χ) (k + 1) (n - (k + 1)) (setC χ i j k (-χ i j k))
def E1 (i j n : Nat) (χ : tC) : tC := fd (fun k χ => if k = i ∨ k = j then χ else E2 i j n k χ) 0 n χ
theorem fd_two {α : Type} {f : Nat → α → α} {I0 I1 : α → Prop} {u : Nat} : ∀ (m p : Nat) (a : α), p ≤ u → u < p + m → (∀ k a, p ≤ k → k < p + m → k ≠ u → I0 a → I0 (f k a)) → (∀ k a, p ≤ k → k < p + m → k ≠ u → I1 a → I1 (f k a)) → (∀ a, I0 a → I1 (f u a)) → I0 a → I1 (fd f p m a) := by
  intro m
  induction m with
  | zero => intro p a h1 h2; omega
  | succ m ih =>
    intro p a h1 h2 h3 h4 h5 h6
    rw [fd_s]
    by_cases e : u = p
    · subst e
      exact fd_inv (I := fun _ => I1) _ _ _ (h5 a h6) fun k a h1 h2 => h4 k a (by omega) (by omega) (by omega)
    · exact ih (p + 1) _ (by omega) (by omega) (fun k a h1 h2 => h3 k a (by omega) (by omega)) (fun k a h1 h2 => h4 k a (by omega) (by omega)) h5 (h3 p a (by omega) (by omega) (fun z => e z.symm) h6)
theorem setC_in {χ : tC} {i j k : Nat} {x : Int32} (ij : i ≠ j) (jk : j ≠ k) (ik : i ≠ k) : setC χ i j k x i j k = x := by
  rw [setC_at, if_neg (by omega), if_neg (by omega), if_neg (by omega), if_neg (by omega), if_neg (by omega), if_pos ⟨rfl, rfl, rfl⟩]
section
variable {i j n : Nat}
theorem E3_o {χ : tC} {k l a b c : Nat} (h : ¬ ((k = a ∨ k = b ∨ k = c) ∧ (l = a ∨ l = b ∨ l = c))) : E3 i j k l χ a b c = χ a b c := by
  unfold E3
  rw [setC_o (by omega), setC_o (by omega)]
/-- a fact of single signs is kept by all steps that don't touch them -/
theorem E2_o {χ : tC} {k a b c : Nat} (ij : i ≠ j) (ki : k ≠ i) (kj : k ≠ j) (h1 : ¬ ((i = a ∨ i = b ∨ i = c) ∧ (j = a ∨ j = b ∨ j = c) ∧ (k = a ∨ k = b ∨ k = c))) (h2 : ∀ l, k < l → l ≠ i → l ≠ j → ¬ ((k = a ∨ k = b ∨ k = c) ∧ (l = a ∨ l = b ∨ l = c))) : E2 i j n k χ a b c = χ a b c := by
  unfold E2
  refine (fd_inv (I := fun _ (ψ : tC) => ψ a b c = χ a b c) _ _ _ (setC_o h1) fun l ψ l1 l2 hψ => ?_)
  by_cases e : l = i ∨ l = j
  · rw [if_pos e]; exact hψ
  · rw [if_neg e, E3_o (h2 l (by omega) (by omega) (by omega))]; exact hψ
theorem E1_AZ {χ : tC} (ij : i ≠ j) (hi : i < n) (hj : j < n) (w : AZ χ n) : AZ (E1 i j n χ) n := by
  unfold E1
  refine fd_inv (I := fun _ χ => AZ χ n) _ _ _ w fun k χ k1 k2 w => ?_
  by_cases e : k = i ∨ k = j
  · rw [if_pos e]; exact w
  · rw [if_neg e]
    unfold E2
    refine fd_inv (I := fun _ χ => AZ χ n) _ _ _ (AZ_set w hi hj (by omega) ij (by omega) (by omega)) fun l χ l1 l2 w => ?_
    by_cases e' : l = i ∨ l = j
    · rw [if_pos e']; exact w
    · rw [if_neg e']
      unfold E3
      exact AZ_set (AZ_set w hi (by omega) (by omega) (by omega) (by omega) (by omega)) hj (by omega) (by omega) (by omega) (by omega) (by omega)
/-- no name of the two -/
theorem E1_0 {χ : tC} {a b c : Nat} (ij : i ≠ j) (ha : a ≠ i ∧ a ≠ j) (hb : b ≠ i ∧ b ≠ j) (hc : c ≠ i ∧ c ≠ j) : E1 i j n χ a b c = χ a b c := by
  unfold E1
  refine fd_inv (I := fun _ (ψ : tC) => ψ a b c = χ a b c) _ _ _ rfl fun k ψ k1 k2 hψ => ?_
  by_cases e : k = i ∨ k = j
  · rw [if_pos e]; exact hψ
  · rw [if_neg e]
    unfold E2
    refine fd_inv (I := fun _ (ψ : tC) => ψ a b c = χ a b c) _ _ _ ((setC_o (by omega)).trans hψ) fun l ψ l1 l2 hψ => ?_
    by_cases e' : l = i ∨ l = j
    · rw [if_pos e']; exact hψ
    · rw [if_neg e']
      unfold E3
      rw [setC_o (by omega), setC_o (by omega)]
      exact hψ
/-- both names -/
theorem E1_2 {χ : tC} {m : Nat} (ij : i ≠ j) (hm : m ≠ i ∧ m ≠ j) (mn : m < n) : E1 i j n χ i j m = -χ i j m := by
  unfold E1
  refine fd_two (u := m) (I0 := fun ψ : tC => ψ i j m = χ i j m) (I1 := fun ψ : tC => ψ i j m = -χ i j m) _ _ _ (by omega) (by omega) (fun k ψ k1 k2 km hψ => ?_) (fun k ψ k1 k2 km hψ => ?_) (fun ψ hψ => ?_) rfl
  · by_cases e : k = i ∨ k = j
    · rw [if_pos e]; exact hψ
    · rw [if_neg e, E2_o ij (by omega) (by omega) (by omega) (fun l l1 l2 l3 => by omega)]; exact hψ
  · by_cases e : k = i ∨ k = j
    · rw [if_pos e]; exact hψ
    · rw [if_neg e, E2_o ij (by omega) (by omega) (by omega) (fun l l1 l2 l3 => by omega)]; exact hψ
  · rw [if_neg (by omega)]
    unfold E2
    refine fd_inv (I := fun _ (φ : tC) => φ i j m = -χ i j m) _ _ _ ?_ fun l φ l1 l2 hφ => ?_
    · rw [setC_in ij (by omega) (by omega), hψ]
    · by_cases e' : l = i ∨ l = j
      · rw [if_pos e']; exact hφ
      · rw [if_neg e', E3_o (by omega)]; exact hφ
/-- one name -/
theorem E1_1 {χ : tC} {x y : Nat} (ij : i ≠ j) (hx : x ≠ i ∧ x ≠ j) (hy : y ≠ i ∧ y ≠ j) (xy : x < y) (yn : y < n) : E1 i j n χ i x y = χ j x y ∧ E1 i j n χ j x y = χ i x y := by
  unfold E1
  refine fd_two (u := x) (I0 := fun ψ : tC => ψ i x y = χ i x y ∧ ψ j x y = χ j x y) (I1 := fun ψ : tC => ψ i x y = χ j x y ∧ ψ j x y = χ i x y) _ _ _ (by omega) (by omega) (fun k ψ k1 k2 kx hψ => ?_) (fun k ψ k1 k2 kx hψ => ?_) (fun ψ hψ => ?_) ⟨rfl, rfl⟩
  · by_cases e : k = i ∨ k = j
    · rw [if_pos e]; exact hψ
    · rw [if_neg e, E2_o ij (by omega) (by omega) (by omega) (fun l l1 l2 l3 => by omega), E2_o ij (by omega) (by omega) (by omega) (fun l l1 l2 l3 => by omega)]; exact hψ
  · by_cases e : k = i ∨ k = j
    · rw [if_pos e]; exact hψ
    · rw [if_neg e, E2_o ij (by omega) (by omega) (by omega) (fun l l1 l2 l3 => by omega), E2_o ij (by omega) (by omega) (by omega) (fun l l1 l2 l3 => by omega)]; exact hψ
  · rw [if_neg (by omega)]
    unfold E2
    refine fd_two (u := y) (I0 := fun φ : tC => φ i x y = χ i x y ∧ φ j x y = χ j x y) (I1 := fun φ : tC => φ i x y = χ j x y ∧ φ j x y = χ i x y) _ _ _ (by omega) (by omega) (fun l φ l1 l2 ly hφ => ?_) (fun l φ l1 l2 ly hφ => ?_) (fun φ hφ => ?_) ?_
    · by_cases e' : l = i ∨ l = j
      · rw [if_pos e']; exact hφ
      · rw [if_neg e', E3_o (by omega), E3_o (by omega)]; exact hφ
    · by_cases e' : l = i ∨ l = j
      · rw [if_pos e']; exact hφ
      · rw [if_neg e', E3_o (by omega), E3_o (by omega)]; exact hφ
    · rw [if_neg (by omega)]
      unfold E3
      rw [setC_in (by omega) (by omega) (by omega), setC_o (χ := setC φ i x y (φ j x y)) (by omega), setC_in (by omega) (by omega) (by omega)]
      exact ⟨hφ.2, hφ.1⟩
    · rw [setC_o (by omega), setC_o (by omega)]
      exact hψ
theorem sw_i : sw i j i = j := if_pos rfl
theorem sw_j (ij : i ≠ j) : sw i j j = i := by unfold sw; rw [if_neg (fun z => ij z.symm), if_pos rfl]
theorem sw_o {x : Nat} (h : x ≠ i ∧ x ≠ j) : sw i j x = x := by unfold sw; rw [if_neg h.1, if_neg h.2]
theorem sw_lt {m x : Nat} (hi : i < m) (hj : j < m) (hx : x < m) : sw i j x < m := by
  unfold sw
  split
  · exact hj
  · split
    · exact hi
    · exact hx
theorem sw_ge {m x : Nat} (hi : i < m) (hj : j < m) (hx : ¬ x < m) : ¬ sw i j x < m := by
  unfold sw
  rw [if_neg (by omega), if_neg (by omega)]
  exact hx
theorem sw_inj {x y : Nat} (h : x ≠ y) : sw i j x ≠ sw i j y := by
  unfold sw
  repeat' split
  all_goals omega
theorem ren_WS {χ : tC} (h7 : n ≤ 7) (hi : i < n) (hj : j < n) (w : WS χ n) : WS (ren i j χ) n := by
  intro a b c ha hb hc
  have la := sw_lt (i := i) (j := j) (show i < 7 by omega) (by omega) ha
  have lb := sw_lt (i := i) (j := j) (show i < 7 by omega) (by omega) hb
  have lc := sw_lt (i := i) (j := j) (show i < 7 by omega) (by omega) hc
  obtain ⟨w1, w2, w3⟩ := w _ _ _ la lb lc
  refine ⟨w1, w2, ?_⟩
  show if a < n ∧ b < n ∧ c < n ∧ a ≠ b ∧ b ≠ c ∧ a ≠ c then χ (sw i j a) (sw i j b) (sw i j c) = 1 ∨ χ (sw i j a) (sw i j b) (sw i j c) = -1 else χ (sw i j a) (sw i j b) (sw i j c) = 0
  by_cases e : a < n ∧ b < n ∧ c < n ∧ a ≠ b ∧ b ≠ c ∧ a ≠ c
  · rw [if_pos e]
    rw [if_pos ⟨sw_lt hi hj e.1, sw_lt hi hj e.2.1, sw_lt hi hj e.2.2.1, sw_inj e.2.2.2.1, sw_inj e.2.2.2.2.1, sw_inj e.2.2.2.2.2⟩] at w3
    exact w3
  · rw [if_neg e]
    rw [if_neg] at w3
    · exact w3
    · rintro ⟨q1, q2, q3, q4, q5, q6⟩
      apply e
      refine ⟨?_, ?_, ?_, fun z => q4 (by rw [z]), fun z => q5 (by rw [z]), fun z => q6 (by rw [z])⟩
      · exact Classical.byContradiction fun z => sw_ge hi hj z q1
      · exact Classical.byContradiction fun z => sw_ge hi hj z q2
      · exact Classical.byContradiction fun z => sw_ge hi hj z q3
theorem ren_hold {χ : tC} (h7 : n ≤ 7) (hi : i < n) (hj : j < n) (w : WS χ n) (h : qhold χ n = true) : qhold (ren i j χ) n = true := by
  refine qhold_iff.mpr fun a b c d h1 h2 h3 h4 => ⟨?_, fun e he ea eb ec ed => ?_⟩
  · exact gp4 w h7 h (sw i j a) (sw i j b) (sw i j c) (sw i j d) (sw_lt hi hj (by omega)) (sw_lt hi hj (by omega)) (sw_lt hi hj (by omega)) (sw_lt hi hj (by omega)) (sw_inj (by omega)) (sw_inj (by omega)) (sw_inj (by omega)) (sw_inj (by omega)) (sw_inj (by omega)) (sw_inj (by omega))
  · exact gp5 w h7 h (sw_lt hi hj he) (sw i j a) (sw i j b) (sw i j c) (sw i j d) (sw_lt hi hj (by omega)) (sw_lt hi hj (by omega)) (sw_lt hi hj (by omega)) (sw_lt hi hj (by omega)) (sw_inj (by omega)) (sw_inj (by omega)) (sw_inj (by omega)) (sw_inj (by omega)) (sw_inj (by omega)) (sw_inj (by omega)) (sw_inj ea) (sw_inj eb) (sw_inj ec) (sw_inj ed)
theorem renP {P : Nat → Nat → Nat → Prop} (s1 : ∀ a b c, P a b c → P b a c) (s2 : ∀ a b c, P a b c → P b c a) (h2 : ∀ m, m ≠ i ∧ m ≠ j → m < n → P i j m) (h1 : ∀ x y, x ≠ i ∧ x ≠ j → y ≠ i ∧ y ≠ j → x < y → y < n → P i x y ∧ P j x y) (h0 : ∀ x y z, x ≠ i ∧ x ≠ j → y ≠ i ∧ y ≠ j → z ≠ i ∧ z ≠ j → P x y z) :
    ∀ a b c, a < n → b < n → c < n → a ≠ b → b ≠ c → a ≠ c → P a b c := by
  have p4 : ∀ a b c, P a b c → P a c b := fun a b c h => s2 _ _ _ (s1 _ _ _ h)
  have h1' : ∀ x y, x ≠ i ∧ x ≠ j → y ≠ i ∧ y ≠ j → x ≠ y → x < n → y < n → P i x y ∧ P j x y := fun x y hx hy xy xn yn => by
    by_cases q : x < y
    · exact h1 x y hx hy q yn
    · obtain ⟨k1, k2⟩ := h1 y x hy hx (by omega) xn
      exact ⟨p4 _ _ _ k1, p4 _ _ _ k2⟩
  intro a b c ha hb hc ab bc ac
  by_cases ai : a = i
  · subst ai
    by_cases bj : b = j
    · subst bj; exact h2 c ⟨fun z => ac z.symm, fun z => bc z.symm⟩ hc
    · by_cases cj : c = j
      · subst cj; exact p4 _ _ _ (h2 b ⟨fun z => ab z.symm, bj⟩ hb)
      · exact (h1' b c ⟨fun z => ab z.symm, bj⟩ ⟨fun z => ac z.symm, cj⟩ bc hb hc).1
  · by_cases aj : a = j
    · subst aj
      by_cases bi : b = i
      · subst bi; exact s1 _ _ _ (h2 c ⟨fun z => bc z.symm, fun z => ac z.symm⟩ hc)
      · by_cases ci : c = i
        · subst ci; exact s2 _ _ _ (h2 b ⟨bi, fun z => ab z.symm⟩ hb)
        · exact (h1' b c ⟨bi, fun z => ab z.symm⟩ ⟨ci, fun z => ac z.symm⟩ bc hb hc).2
    · by_cases bi : b = i
      · subst bi
        by_cases cj : c = j
        · subst cj; exact s2 _ _ _ (s2 _ _ _ (h2 a ⟨ai, aj⟩ ha))
        · exact s1 _ _ _ (h1' a c ⟨ai, aj⟩ ⟨fun z => bc z.symm, cj⟩ ac ha hc).1
      · by_cases bj : b = j
        · subst bj
          by_cases ci : c = i
          · subst ci; exact s2 _ _ _ (s2 _ _ _ (s1 _ _ _ (h2 a ⟨ai, aj⟩ ha)))
          · exact s1 _ _ _ (h1' a c ⟨ai, aj⟩ ⟨ci, fun z => bc z.symm⟩ ac ha hc).2
        · by_cases ci : c = i
          · subst ci; exact s2 _ _ _ (h1' a b ⟨ai, aj⟩ ⟨bi, bj⟩ ab ha hb).1
          · by_cases cj : c = j
            · subst cj; exact s2 _ _ _ (h1' a b ⟨ai, aj⟩ ⟨bi, bj⟩ ab ha hb).2
            · exact h0 a b c ⟨ai, aj⟩ ⟨bi, bj⟩ ⟨ci, cj⟩
theorem E1_ren {χ : tC} (h7 : n ≤ 7) (ij : i ≠ j) (hi : i < n) (hj : j < n) (w : WS χ n) : ∀ a b c, a < 7 → b < 7 → c < 7 → E1 i j n χ a b c = ren i j χ a b c := by
  have wE := E1_AZ (n := n) ij hi hj (AZ_WS w)
  have wR := AZ_WS (ren_WS h7 hi hj w)
  have main := renP (i := i) (j := j) (n := n) (P := fun a b c => a < 7 → b < 7 → c < 7 → E1 i j n χ a b c = ren i j χ a b c)
    (fun a b c h hb ha hc => by rw [(wE a b c ha hb hc).2.1, (wR a b c ha hb hc).2.1, h ha hb hc])
    (fun a b c h hb hc ha => by rw [(wE a b c ha hb hc).1, (wR a b c ha hb hc).1, h ha hb hc])
    (fun m hm mn _ _ m7 => by
      rw [E1_2 ij hm mn]
      unfold ren
      rw [sw_i, sw_j ij, sw_o hm, WS_j w (a := i) (b := j) (by omega) (by omega) m7])
    (fun x y hx hy xy yn => by
      obtain ⟨k1, k2⟩ := E1_1 (χ := χ) ij hx hy xy yn
      refine ⟨fun _ _ _ => ?_, fun _ _ _ => ?_⟩
      · rw [k1]
        unfold ren
        rw [sw_i, sw_o hx, sw_o hy]
      · rw [k2]
        unfold ren
        rw [sw_j ij, sw_o hx, sw_o hy])
    (fun x y z hx hy hz _ _ _ => by
      rw [E1_0 ij hx hy hz]
      unfold ren
      rw [sw_o hx, sw_o hy, sw_o hz])
  intro a b c ha hb hc
  by_cases e : a < n ∧ b < n ∧ c < n ∧ a ≠ b ∧ b ≠ c ∧ a ≠ c
  · exact main a b c e.1 e.2.1 e.2.2.1 e.2.2.2.1 e.2.2.2.2.1 e.2.2.2.2.2 ha hb hc
  · rw [(wE a b c ha hb hc).2.2 e, (wR a b c ha hb hc).2.2 e]
end
