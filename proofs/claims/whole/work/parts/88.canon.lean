/-! ===== numbers of orders ===== -/
/-- bits put behind a number -/
def nb : Nat → List Bool → Nat
  | v, [] => v
  | v, b :: l => nb (2 * v + bn b) l
theorem nb_app : ∀ l v l', nb v (l ++ l') = nb (nb v l) l' := by
  intro l
  induction l with
  | nil => intro v l'; rfl
  | cons b l ih => intro v l'; exact ih _ _
theorem nb_lo : ∀ l v, v * 2 ^ l.length ≤ nb v l := by
  intro l
  induction l with
  | nil => intro v; rw [List.length_nil, Nat.pow_zero, Nat.mul_one]; exact Nat.le_refl _
  | cons b l ih =>
    intro v
    have := ih (2 * v + bn b)
    rw [List.length_cons, Nat.pow_succ]
    have e : v * (2 ^ l.length * 2) = (2 * v) * 2 ^ l.length := by grind
    rw [e]
    exact Nat.le_trans (Nat.mul_le_mul_right _ (Nat.le_add_right _ _)) this
theorem nb_hi : ∀ l v, nb v l < (v + 1) * 2 ^ l.length := by
  intro l
  induction l with
  | nil => intro v; rw [List.length_nil, Nat.pow_zero, Nat.mul_one]; exact Nat.lt_succ_self _
  | cons b l ih =>
    intro v
    have := ih (2 * v + bn b)
    have hb := bn_le b
    rw [List.length_cons, Nat.pow_succ]
    have e : (v + 1) * (2 ^ l.length * 2) = (2 * v + 2) * 2 ^ l.length := by grind
    rw [e]
    exact Nat.lt_of_lt_of_le this (Nat.mul_le_mul_right _ (by omega))
/-- too great, whatever follows -/
theorem nb_gt {l : List Bool} {v L : Nat} (h : ¬ v ≤ L / 2 ^ l.length) : L < nb v l := by
  have p : 0 < 2 ^ l.length := Nat.pow_pos (by decide)
  have h1 : L / 2 ^ l.length < v := by omega
  have h2 : L < v * 2 ^ l.length := (Nat.div_lt_iff_lt_mul p).mp h1
  exact Nat.lt_of_lt_of_le h2 (nb_lo l v)
def bl3 (f : Nat → Bool) : Nat → Nat → List Bool
  | _, 0 => []
  | k, m + 1 => f k :: bl3 f (k + 1) m
def bl2 (f : Nat → Nat → Bool) (n : Nat) : Nat → Nat → List Bool
  | _, 0 => []
  | j, m + 1 => bl3 (f j) (j + 1) (n - (j + 1)) ++ bl2 f n (j + 1) m
/-- z: whether the pair 0, 1 is left out -/
def bl1 (z : Bool) (f : Nat → Nat → Nat → Bool) (n : Nat) : Nat → Nat → List Bool
  | _, 0 => []
  | i, m + 1 => bl2 (f i) n (if z = true ∧ i = 0 then 2 else i + 1) (n - (if z = true ∧ i = 0 then 2 else i + 1)) ++ bl1 z f n (i + 1) m
theorem bl3_len (f : Nat → Bool) : ∀ m k, (bl3 f k m).length = m := by
  intro m
  induction m with
  | zero => intro k; rfl
  | succ m ih => intro k; show (bl3 f (k + 1) m).length + 1 = m + 1; rw [ih]
theorem bl3_snoc (f : Nat → Bool) : ∀ m k, bl3 f k (m + 1) = bl3 f k m ++ [f (k + m)] := by
  intro m
  induction m with
  | zero => intro k; rfl
  | succ m ih =>
    intro k
    show f k :: bl3 f (k + 1) (m + 1) = f k :: (bl3 f (k + 1) m ++ [f (k + (m + 1))])
    rw [ih, show k + 1 + m = k + (m + 1) by omega]
theorem bl3_split (f : Nat → Bool) : ∀ a b k, bl3 f k (a + b) = bl3 f k a ++ bl3 f (k + a) b := by
  intro a
  induction a with
  | zero => intro b k; rw [Nat.zero_add]; rfl
  | succ a ih =>
    intro b k
    rw [show a + 1 + b = a + b + 1 by omega]
    show f k :: bl3 f (k + 1) (a + b) = f k :: (bl3 f (k + 1) a ++ bl3 f (k + (a + 1)) b)
    rw [ih, show k + 1 + a = k + (a + 1) by omega]
theorem bl3_ext {f g : Nat → Bool} : ∀ m k, (∀ x, k ≤ x → x < k + m → f x = g x) → bl3 f k m = bl3 g k m := by
  intro m
  induction m with
  | zero => intro k _; rfl
  | succ m ih =>
    intro k h
    show f k :: bl3 f (k + 1) m = g k :: bl3 g (k + 1) m
    rw [h k (by omega) (by omega), ih (k + 1) fun x h1 h2 => h x (by omega) (by omega)]
theorem bl1_z (f : Nat → Nat → Nat → Bool) (n : Nat) : ∀ m i, 1 ≤ i → bl1 true f n i m = bl1 false f n i m := by
  intro m
  induction m with
  | zero => intro i _; rfl
  | succ m ih =>
    intro i hi
    show bl2 (f i) n (if true = true ∧ i = 0 then 2 else i + 1) (n - (if true = true ∧ i = 0 then 2 else i + 1)) ++ bl1 true f n (i + 1) m = bl2 (f i) n (if false = true ∧ i = 0 then 2 else i + 1) (n - (if false = true ∧ i = 0 then 2 else i + 1)) ++ bl1 false f n (i + 1) m
    rw [if_neg (by omega), if_neg (fun e => by cases e.1), ih (i + 1) (by omega)]
theorem bl1_all (f : Nat → Nat → Nat → Bool) {n : Nat} (n2 : 2 ≤ n) : bl1 false f n 0 n = bl3 (f 0 1) 2 (n - 2) ++ bl1 true f n 0 n := by
  obtain ⟨m, rfl⟩ : ∃ m, n = m + 2 := ⟨n - 2, by omega⟩
  show bl2 (f 0) (m + 2) (if false = true ∧ 0 = 0 then 2 else 0 + 1) (m + 2 - (if false = true ∧ 0 = 0 then 2 else 0 + 1)) ++ bl1 false f (m + 2) (0 + 1) (m + 1) = _ ++ (bl2 (f 0) (m + 2) (if true = true ∧ 0 = 0 then 2 else 0 + 1) (m + 2 - (if true = true ∧ 0 = 0 then 2 else 0 + 1)) ++ bl1 true f (m + 2) (0 + 1) (m + 1))
  rw [if_neg (fun e => by cases e.1), if_pos ⟨rfl, rfl⟩, bl1_z f _ _ _ (by omega), show m + 2 - (0 + 1) = m + 1 by omega, Nat.zero_add, Nat.add_sub_cancel]
  show (bl3 (f 0 1) 2 (m + 2 - (1 + 1)) ++ bl2 (f 0) (m + 2) 2 m) ++ _ = _
  rw [List.append_assoc, show m + 2 - (1 + 1) = m by omega]
theorem bl1_len' (f : Nat → Nat → Nat → Bool) : ∀ n, n < 8 → (bl1 false f n 0 n).length = n * (n - 1) * (n - 2) / 6 := by
  intro n hn
  match n, hn with
  | 0, _ => rfl
  | 1, _ => rfl
  | 2, _ => rfl
  | 3, _ => rfl
  | 4, _ => rfl
  | 5, _ => rfl
  | 6, _ => rfl
  | 7, _ => rfl
/-- how many threes of n -/
def C3 (n : Nat) : Nat := n * (n - 1) * (n - 2) / 6
theorem C3_le {n : Nat} (h : n ≤ 7) : C3 n ≤ 35 ∧ n - 2 ≤ C3 n := by
  have hh : ∀ n, n < 8 → C3 n ≤ 35 ∧ n - 2 ≤ C3 n := by decide +kernel
  exact hh n (by omega)
/-- the number of the first of an order, and the whole -/
def HD (f : Nat → Nat → Nat → Bool) (k : Nat) : Nat := nb 0 (bl3 (f 0 1) 2 (k - 2))
def NT (f : Nat → Nat → Nat → Bool) (n : Nat) : Nat := nb 0 (bl1 false f n 0 n)
theorem NT_end (f : Nat → Nat → Nat → Bool) {n : Nat} (n2 : 2 ≤ n) : NT f n = nb (HD f n) (bl1 true f n 0 n) := by
  unfold NT HD
  rw [bl1_all f n2, nb_app]
theorem NT_gt {f : Nat → Nat → Nat → Bool} {n k L : Nat} (n2 : 2 ≤ n) (h7 : n ≤ 7) (hk : k ≤ n) (h : ¬ HD f k ≤ L / 2 ^ (C3 n - (k - 2))) : L < NT f n := by
  have e : bl1 false f n 0 n = bl3 (f 0 1) 2 (k - 2) ++ (bl3 (f 0 1) (2 + (k - 2)) (n - 2 - (k - 2)) ++ bl1 true f n 0 n) := by
    rw [bl1_all f n2, ← List.append_assoc, ← bl3_split, show k - 2 + (n - 2 - (k - 2)) = n - 2 by omega]
  have l := bl1_len' f n (by omega)
  rw [e, List.length_append, bl3_len] at l
  unfold NT
  rw [e, nb_app]
  refine nb_gt ?_
  rw [show (bl3 (f 0 1) (2 + (k - 2)) (n - 2 - (k - 2)) ++ bl1 true f n 0 n).length = C3 n - (k - 2) by unfold C3; omega]
  exact h
theorem NT_lt {f : Nat → Nat → Nat → Bool} {n : Nat} (h7 : n ≤ 7) : NT f n < 2 ^ 35 := by
  have l := bl1_len' f n (by omega)
  have := nb_hi (bl1 false f n 0 n) 0
  rw [l] at this
  have p := (C3_le h7).1
  have q : 2 ^ (n * (n - 1) * (n - 2) / 6) ≤ 2 ^ 35 := Nat.pow_le_pow_right (by decide) p
  unfold NT
  omega
/-- the model's way to a number -/
theorem fd_g3 (f : Nat → Bool) : ∀ m k v, fd (fun k v => 2 * v + bn (f k)) k m v = nb v (bl3 f k m) := by
  intro m
  induction m with
  | zero => intro k v; rfl
  | succ m ih => intro k v; rw [fd_s, ih]; rfl
theorem fd_g2 (f : Nat → Nat → Bool) (n : Nat) : ∀ m j v, fd (fun j v => fd (fun k v => 2 * v + bn (f j k)) (j + 1) (n - (j + 1)) v) j m v = nb v (bl2 f n j m) := by
  intro m
  induction m with
  | zero => intro k v; rfl
  | succ m ih =>
    intro j v
    rw [fd_s, ih, fd_g3]
    show _ = nb v (bl3 (f j) (j + 1) (n - (j + 1)) ++ bl2 f n (j + 1) m)
    rw [nb_app]
theorem fd_g1 (f : Nat → Nat → Nat → Bool) (n : Nat) : ∀ m i v, fd (fun i v => fd (fun j v => fd (fun k v => 2 * v + bn (f i j k)) (j + 1) (n - (j + 1)) v) (i + 1) (n - (i + 1)) v) i m v = nb v (bl1 false f n i m) := by
  intro m
  induction m with
  | zero => intro k v; rfl
  | succ m ih =>
    intro i v
    rw [fd_s, ih, fd_g2]
    show _ = nb v (bl2 (f i) n (if false = true ∧ i = 0 then 2 else i + 1) (n - (if false = true ∧ i = 0 then 2 else i + 1)) ++ bl1 false f n (i + 1) m)
    rw [if_neg (fun e => by cases e.1), nb_app]
theorem NT_fd (f : Nat → Nat → Nat → Bool) (n : Nat) : fd3 (fun i j k v => 2 * v + bn (f i j k)) n 0 = NT f n := fd_g1 f n n 0 0
/-- the least over all orders -/
def MN (N : List Nat → Nat) : Nat → Int32 → List Nat → Nat → Nat
  | 0, _, l, acc => if N l ≤ acc then N l else acc
  | m + 1, S, l, acc => fd (fun x acc => if bt S x = true then MN N m (rmv S x) (l ++ [x]) acc else acc) 0 7 acc
theorem MN_gt {N : List Nat → Nat} : ∀ m S l acc, (∀ l', l'.length = m → acc < N (l ++ l')) → MN N m S l acc = acc := by
  intro m
  induction m with
  | zero =>
    intro S l acc h
    have := h [] rfl
    rw [List.append_nil] at this
    show (if N l ≤ acc then N l else acc) = acc
    rw [if_neg (by omega)]
  | succ m ih =>
    intro S l acc h
    refine fd_inv (I := fun _ z => z = acc) 7 0 acc rfl fun x z _ _ hz => ?_
    subst hz
    show (if bt S x = true then MN N m (rmv S x) (l ++ [x]) z else z) = z
    split
    · exact ih _ _ _ fun l' hl => by
        have := h (x :: l') (by rw [List.length_cons, hl])
        rwa [List.append_assoc]
    · rfl
theorem fd_le {N : Nat → Nat → Nat} {b : Nat} {P : Nat → Prop} : ∀ m p acc, (∀ x acc, p ≤ x → x < p + m → (b ≤ N x acc ↔ b ≤ acc ∧ P x)) → (b ≤ fd N p m acc ↔ b ≤ acc ∧ ∀ x, p ≤ x → x < p + m → P x) := by
  intro m
  induction m with
  | zero => intro p acc _; exact ⟨fun h => ⟨h, fun x h1 h2 => by omega⟩, fun h => h.1⟩
  | succ m ih =>
    intro p acc h
    rw [fd_s, ih (p + 1) _ fun x a h1 h2 => h x a (by omega) (by omega), h p acc (by omega) (by omega)]
    constructor
    · rintro ⟨⟨h1, h2⟩, h3⟩
      refine ⟨h1, fun x x1 x2 => ?_⟩
      by_cases e : x = p
      · rw [e]; exact h2
      · exact h3 x (by omega) (by omega)
    · rintro ⟨h1, h2⟩
      exact ⟨⟨h1, h2 p (by omega) (by omega)⟩, fun x x1 x2 => h2 x (by omega) (by omega)⟩
theorem MN_iff {N : List Nat → Nat} {n b : Nat} (h7 : n ≤ 7) : ∀ m S l acc, pc S = m → sm S n → (b ≤ MN N m S l acc ↔ b ≤ acc ∧ ∀ k, k < fac m → b ≤ N (l ++ OL m S k)) := by
  intro m
  induction m with
  | zero =>
    intro S l acc _ _
    show b ≤ (if N l ≤ acc then N l else acc) ↔ b ≤ acc ∧ ∀ k, k < 1 → b ≤ N (l ++ [])
    rw [List.append_nil]
    constructor
    · intro h
      split at h
      · exact ⟨by omega, fun _ _ => h⟩
      · exact ⟨h, fun _ _ => by omega⟩
    · rintro ⟨h1, h2⟩
      have := h2 0 (by omega)
      split <;> assumption
  | succ m ih =>
    intro S l acc hc hs
    have cnt := pc_7 h7 hs
    have e := fd_le (N := fun x acc => if bt S x = true then MN N m (rmv S x) (l ++ [x]) acc else acc) (b := b) (P := fun x => bt S x = true → ∀ q, q < fac m → b ≤ N (l ++ [x] ++ OL m (rmv S x) q)) 7 0 acc fun x a _ hx => by
      by_cases t : bt S x = true
      · have p2 := pc_rmv (show x < 32 by omega) t
        rw [if_pos t, ih (rmv S x) (l ++ [x]) a (by omega) (rmv_sm (by omega) hs)]
        exact ⟨fun h => ⟨h.1, fun _ => h.2⟩, fun h => ⟨h.1, h.2 t⟩⟩
      · rw [if_neg t]
        exact ⟨fun h => ⟨h, fun z => absurd z t⟩, fun h => h.1⟩
    refine Iff.trans e ?_
    have na := nth_all (f := bt S) (P := fun x => ∀ q, q < fac m → b ≤ N (l ++ [x] ++ OL m (rmv S x) q)) 7 0
    have ol : ∀ k, l ++ OL (m + 1) S k = l ++ [nth (bt S) 0 7 (k % (m + 1))] ++ OL m (rmv S (nth (bt S) 0 7 (k % (m + 1)))) (k / (m + 1)) := fun k => by
      rw [List.append_assoc]; rfl
    constructor
    · rintro ⟨h1, h2⟩
      refine ⟨h1, fun k hk => ?_⟩
      rw [ol]
      have hk' : k < (m + 1) * fac m := hk
      exact na.mpr (fun x x1 x2 x3 => h2 x x1 x2 x3) (k % (m + 1)) (by have := Nat.mod_lt k (show m + 1 > 0 by omega); omega) (k / (m + 1)) (Nat.div_lt_of_lt_mul hk')
    · rintro ⟨h1, h2⟩
      refine ⟨h1, fun x x1 x2 x3 => na.mp (fun r hr q hq => ?_) x x1 x2 x3⟩
      have hr' : r < m + 1 := by omega
      have k1 : (r + (m + 1) * q) % (m + 1) = r := by rw [Nat.add_mul_mod_self_left, Nat.mod_eq_of_lt hr']
      have k2 : (r + (m + 1) * q) / (m + 1) = q := by rw [Nat.add_mul_div_left _ _ (by omega), Nat.div_eq_of_lt hr', Nat.zero_add]
      have := h2 (r + (m + 1) * q) (by
        show _ < (m + 1) * fac m
        have : (m + 1) * (q + 1) ≤ (m + 1) * fac m := Nat.mul_le_mul_left _ hq
        rw [Nat.mul_succ] at this
        omega)
      rw [ol, k1, k2] at this
      exact this
theorem MN_le {N : List Nat → Nat} : ∀ m S l acc, MN N m S l acc ≤ acc := by
  intro m
  induction m with
  | zero => intro S l acc; show (if N l ≤ acc then N l else acc) ≤ acc; split <;> omega
  | succ m ih =>
    intro S l acc
    refine fd_inv (I := fun _ z => z ≤ acc) 7 0 acc (Nat.le_refl _) fun x z _ _ hz => ?_
    show (if bt S x = true then MN N m (rmv S x) (l ++ [x]) z else z) ≤ acc
    split
    · exact Nat.le_trans (ih _ _ _) hz
    · exact hz
