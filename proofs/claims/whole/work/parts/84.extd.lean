/-! ===== extensions: the table with one more point ===== -/
/-- all six orders of three -/
def I6 (χ : tC) (a b c : Nat) (v : Int32) : Prop := χ a b c = v ∧ χ b c a = v ∧ χ c a b = v ∧ χ b a c = -v ∧ χ a c b = -v ∧ χ c b a = -v
theorem I6_at {χ : tC} {a b c : Nat} {v : Int32} (h1 : a < b) (h2 : b < c) : I6 (setC χ a b c v) a b c v := by
  have n1 : a ≠ b := by omega
  have n2 : b ≠ c := by omega
  have n3 : a ≠ c := by omega
  refine ⟨?_, ?_, ?_, ?_, ?_, ?_⟩ <;> simp [setC_at, n1, n2, n3, n1.symm, n2.symm, n3.symm]
theorem I6_o {χ : tC} {a b c i j k : Nat} {v x : Int32} (h1 : a < b) (h2 : b < c) (h3 : i < j) (h4 : j < k) (ne : ¬ (a = i ∧ b = j ∧ c = k)) (h : I6 χ a b c v) : I6 (setC χ i j k x) a b c v := by
  obtain ⟨e1, e2, e3, e4, e5, e6⟩ := h
  refine ⟨?_, ?_, ?_, ?_, ?_, ?_⟩ <;> (rw [setC_o (by omega)]; assumption)
theorem I6_t3 {F : tC} {n : Nat} {χ : tC} {a b c : Nat} (h1 : a < b) (h2 : b < c) (h3 : c < n) : I6 (t3 F n χ) a b c (F a b c) := by
  refine fd3_hit (I := fun χ : tC => I6 χ a b c (F a b c)) (fun i j k χ a1 a2 a3 e => ?_) h1 h2 h3 (fun χ => ?_) χ
  · by_cases z : a = i ∧ b = j ∧ c = k
    · obtain ⟨rfl, rfl, rfl⟩ := z
      exact I6_at h1 h2
    · exact I6_o h1 h2 a1 a2 z e
  · exact I6_at h1 h2
theorem fd2_all {α : Type} {f : Nat → Nat → α → α} {I : α → Prop} {n : Nat} (h : ∀ i j a, i < j → j < n → I a → I (f i j a)) (a : α) (ha : I a) : I (fd2 f n a) :=
  fd_inv (I := fun _ => I) _ _ _ ha fun i a h1 h2 ha => fd_inv (I := fun _ => I) _ _ _ ha fun j a h3 h4 ha => h i j a (by omega) (by omega) ha
theorem fd2_hit {α : Type} {f : Nat → Nat → α → α} {I : α → Prop} {n u v : Nat} (h : ∀ i j a, i < j → j < n → I a → I (f i j a)) (h1 : u < v) (h2 : v < n) (hx : ∀ a, I (f u v a)) (a : α) : I (fd2 f n a) :=
  fd_hit (u := u) _ _ _ (by omega) (by omega) (fun i a _ _ ha => fd_inv (I := fun _ => I) _ _ _ ha fun j a _ _ ha => h i j a (by omega) (by omega) ha) fun a =>
    fd_hit (u := v) _ _ _ (by omega) (by omega) (fun j a _ _ ha => h u j a (by omega) (by omega) ha) hx
/-- all pairs with point n put to nought -/
def z2 (n : Nat) (T : Nat → Int32) : Nat → Int32 := fd2 (fun i j T => pT T i j n 0) n T
theorem cut_z2 {n : Nat} (h7 : n < 7) (T : Nat → Int32) : cut (z2 n T) = fd2 (fun i j χ => setC χ i j n 0) n (cut T) :=
  fd2_map (φ := cut) (fun i j a h1 h2 => cut_p (by omega) (by omega) h7) T
theorem rs_start {n : Nat} {χ ψ : tC} (h7 : n < 7) (w : WS χ n) (cb : ∀ i j k, ¬ (i < 7 ∧ j < 7 ∧ k < 7) → χ i j k = 0) (F : tC) (hF : ∀ i j k, F i j k = χ i j k) : rs (n + 1) (fd2 (fun i j χ => setC χ i j n 0) n (t3 F n ψ)) = χ := by
  obtain ⟨φ, hφ⟩ : ∃ φ, φ = fd2 (fun i j χ => setC χ i j n 0) n (t3 F n ψ) := ⟨_, rfl⟩
  have six : ∀ a b c, a < b → b < c → c < n + 1 → I6 φ a b c (χ a b c) := fun a b c h1 h2 h3 => by
    by_cases e : c = n
    · subst e
      have x0 : χ a b c = 0 := by
        have := (w a b c (by omega) (by omega) (by omega)).2.2
        rwa [if_neg (by omega)] at this
      rw [x0, hφ]
      refine fd2_hit (I := fun χ : tC => I6 χ a b c 0) (fun i j χ i1 i2 e => ?_) h1 h2 (fun χ => I6_at h1 h2) _
      by_cases z : a = i ∧ b = j ∧ c = c
      · obtain ⟨rfl, rfl, -⟩ := z
        exact I6_at h1 h2
      · exact I6_o h1 h2 i1 (by omega) z e
    · rw [hφ]
      refine fd2_all (I := fun ψ : tC => I6 ψ a b c (χ a b c)) (fun i j χ i1 i2 e' => I6_o h1 h2 i1 (by omega) (by omega) e') _ ?_
      rw [← hF a b c]
      exact I6_t3 h1 h2 (by omega)
  rw [← hφ]
  have az := AZ_WS w
  funext i j k
  by_cases e : i < n + 1 ∧ j < n + 1 ∧ k < n + 1 ∧ i ≠ j ∧ j ≠ k ∧ i ≠ k
  · obtain ⟨e1, e2, e3, e4, e5, e6⟩ := id e
    rw [rs_v e1 e2 e3 e4 e5 e6]
    have q : ∀ a b c, a < 7 → b < 7 → c < 7 → χ b c a = χ a b c ∧ χ c a b = χ a b c ∧ χ b a c = -χ a b c ∧ χ a c b = -χ a b c ∧ χ c b a = -χ a b c := fun a b c ha hb hc => by
      obtain ⟨w1, w2, -⟩ := w a b c ha hb hc
      obtain ⟨w3, w4, -⟩ := w b c a hb hc ha
      obtain ⟨w5, w6, -⟩ := w c a b hc ha hb
      exact ⟨w1, w3.trans w1, w2, by rw [w6, w3, w1], by rw [w4, w1]⟩
    rcases Nat.lt_or_ge i j with ij | ij
    · rcases Nat.lt_or_ge j k with jk | jk
      · exact (six i j k ij jk e3).1
      · rcases Nat.lt_or_ge i k with ik | ik
        · rw [(six i k j ik (by omega) e2).2.2.2.2.1, (q i k j (by omega) (by omega) (by omega)).2.2.2.1]
        · rw [(six k i j (by omega) ij e2).2.1, (q k i j (by omega) (by omega) (by omega)).1]
    · rcases Nat.lt_or_ge i k with ik | ik
      · rw [(six j i k (by omega) ik e3).2.2.2.1, (q j i k (by omega) (by omega) (by omega)).2.2.1]
      · rcases Nat.lt_or_ge j k with jk | jk
        · rw [(six j k i jk (by omega) e1).2.2.1, (q j k i (by omega) (by omega) (by omega)).2.1]
        · rw [(six k j i (by omega) (by omega) e1).2.2.2.2.2, (q k j i (by omega) (by omega) (by omega)).2.2.2.2]
  · rw [show rs (n + 1) φ i j k = 0 from if_neg e]
    by_cases e7 : i < 7 ∧ j < 7 ∧ k < 7
    · exact ((az i j k e7.1 e7.2.1 e7.2.2).2.2 (by omega)).symm
    · exact (cb i j k e7).symm
theorem m_43 {h : tH} {r1 n : Nat} (t1 : tn h r1 n) (h6 : n < 7) (hr : r1 ≠ 76) (hr' : r1 ≠ 86) (Q : tO → tH → Prop) : AM 43 [.ref 76, .ref r1] h Q = Q (.inl none) (hT (t_I h 76 1 (nI (n + 1))) 86 (z2 n (f3 (fun i j k => 1 * tX h r1 i j k) n (h.1 86)))) := by
  obtain ⟨ho1, hc, h7⟩ := id t1
  obtain ⟨T1, hT1⟩ : ∃ T1, T1 = f3 (fun i j k => 1 * tX h r1 i j k) n (h.1 86) := ⟨_, rfl⟩
  obtain ⟨g, hg⟩ : ∃ g, g = t_I h 76 1 (nI (n + 1)) := ⟨_, rfl⟩
  have q := m_42 (h := h) (r0 := 76) (r1 := r1) (n := n) (x := 1) ob76 t1 hr.symm
  have q' : ∀ Q, AM 42 [.ref 76, .ref r1, .int 1] h Q = Q (.inl none) (hT (t_I h 76 1 (nI n)) 86 T1) := fun Q => by rw [q, hT1]
  have c1 : ∀ T, (hT g 86 T).1 r1 1 = nI n := fun T => by rw [hT_o hr', hg, t_I_o hr, hc]
  have e1 : t_I (hT (t_I h 76 1 (nI n)) 86 T1) 76 1 (nI (n + 1)) = hT g 86 T1 := by
    rw [hg]
    refine Prod.ext ?_ rfl
    funext a b
    show (if a = 76 ∧ b = 1 then nI (n + 1) else if a = 86 then T1 b else if a = 76 ∧ b = 1 then nI n else h.1 a b) = (if a = 86 then T1 b else if a = 76 ∧ b = 1 then nI (n + 1) else h.1 a b)
    by_cases z : a = 76 ∧ b = 1
    · rw [if_pos z, if_neg (by omega), if_pos z]
    · rw [if_neg z, if_neg z, if_neg z]
  have l := lt2 (α := Nat → Int32) (β := Value) (γ := Unit) (n := n)
    (L1 := fun i T w => AX 3 43 18 [.ref 76, .ref r1, .int (nI i), w] [] (hT g 86 T) Q)
    (L2 := fun i j T _ => AX 3 43 30 [.ref 76, .ref r1, .int (nI i), .int (nI j)] [] (hT g 86 T) Q)
    (E := fun T => Q (.inl none) (hT g 86 T)) (f := fun i j T => pT T i j n 0)
    (fun T w => by
      rw [s_43_18, c1, if_pos (Int32.le_refl _)]
      simp only [ho1, true_and])
    (fun i T w hi => ⟨(), by
      rw [s_43_18, c1, if_neg (by rw [nI_le' (by omega) (by omega)]; omega), nI_1]
      simp only [ho1, true_and]⟩)
    (fun i T w hi => ⟨.int (nI n), by
      rw [s_43_30, c1, if_pos (Int32.le_refl _), nI_1]
      simp only [ho1, true_and]⟩)
    (fun i j T w hij hj => ⟨(), by
      rw [s_43_30, c1, if_neg (by rw [nI_le' (by omega) (by omega)]; omega), nI_1, m_41x (by omega) (by omega) (by omega)]
      simp only [ho1, ob76, true_and, t_kv]⟩)
  rw [am_43, s_43_0, q']
  simp only [t_kv]
  rw [show (hT (t_I h 76 1 (nI n)) 86 T1).1 r1 1 = nI n by rw [hT_o hr', t_I_o hr, hc], nI_1, e1]
  simp only [ho1, ob76, true_and]
  have l0 := l T1 (.float 0)
  rw [hT1] at l0 ⊢
  rw [← hg]
  exact l0
/-- the start: all of the old points, nothing of the new one -/
theorem LE_f : ∀ n, n < 6 → (LE (nseg n) 0 1).Pairwise (· ≠ ·) ∧ (∀ p, p ∈ LE (nseg n) 0 1 → p.1 < p.2 ∧ p.2 < n) := by decide +kernel
theorem LE_h : ∀ n, n < 6 → ∀ b, b < n → ∀ a, a < b → (LE (nseg n) 0 1).contains (a, b) = true := by decide +kernel
theorem LE_g (n : Nat) (h : n < 6) (b : Nat) (hb : b < n) (a : Nat) (ha : a < b) : (a, b) ∈ LE (nseg n) 0 1 := List.contains_iff_mem.mp (LE_h n h b hb a ha)
theorem LE_prL : ∀ n, n < 6 → (LE (nseg n) 0 1).isPerm (prL n) = true := by decide +kernel
theorem V3_WS {χ : tC} {n : Nat} (h7 : n < 7) (w : WS χ n) (cb : ∀ i j k, ¬ (i < 7 ∧ j < 7 ∧ k < 7) → χ i j k = 0) : V3 χ (n + 1) := by
  refine ⟨fun i j k hi hj hk => ?_, fun i j k => ?_⟩
  · obtain ⟨a1, a2, a3⟩ := AZ_WS w i j k hi hj hk
    exact ⟨a1, a2, fun z => a3 (by omega)⟩
  · by_cases e : i < 7 ∧ j < 7 ∧ k < 7
    · have := (w i j k e.1 e.2.1 e.2.2).2.2
      by_cases q : i < n ∧ j < n ∧ k < n ∧ i ≠ j ∧ j ≠ k ∧ i ≠ k
      · rw [if_pos q] at this
        rcases this with z | z
        · exact Or.inr (Or.inr z)
        · exact Or.inl z
      · rw [if_neg q] at this
        exact Or.inr (Or.inl this)
    · exact Or.inr (Or.inl (cb i j k e))
theorem WS_n {χ : tC} {n : Nat} (h7 : n < 7) (w : WS χ n) {i j k : Nat} (hi : i < 7) (hj : j < 7) (hk : k < 7) (h : i = n ∨ j = n ∨ k = n) : χ i j k = 0 := by
  have := (w i j k hi hj hk).2.2
  rwa [if_neg (by omega)] at this
theorem ZL_WS0 {χ : tC} {n : Nat} (h6 : n < 6) (w : WS χ n) : ZL χ n (LE (nseg n) 0 1) := by
  obtain ⟨f1, f2⟩ := LE_f n h6
  refine ⟨fun p hp => ?_, f1, fun a b c ab bc cn => ?_⟩
  · obtain ⟨p1, p2⟩ := f2 p hp
    exact ⟨p1, p2, WS_n (by omega) w (by omega) (by omega) (by omega) (Or.inr (Or.inr rfl))⟩
  · by_cases e : c = n
    · exact Or.inr ⟨e, LE_g n h6 b (by omega) a ab⟩
    · refine Or.inl ?_
      have := (w a b c (by omega) (by omega) (by omega)).2.2
      rw [if_pos (by omega)] at this
      rcases this with z | z <;> rw [z] <;> decide
theorem PC_q {χ : tC} {n : Nat} (h6 : n < 7) (w : WS χ n) (q : qhold χ n = true) : PC χ (n + 1) := by
  refine ⟨fun a b c d h1 h2 h3 h4 => ?_, fun e a b c d he h1 h2 h3 h4 ea eb ec ed => ?_⟩
  · by_cases z : d = n
    · rw [p4_F, WS_n h6 w (by omega) (by omega) (by omega) (Or.inr (Or.inr z))]
      rfl
    · have g := (qhold_iff.mp q a b c d h1 h2 h3 (by omega)).1
      rwa [p4_q4 (pm_0 (WS_at w (by omega) (by omega) (by omega) (by omega) (by omega) (by omega) (by omega)))]
  · by_cases z : e = n
    · rw [p5_F, WS_n h6 w (by omega) (by omega) (by omega) (Or.inl z)]
      unfold F5
      rw [Int32.zero_mul]
      rfl
    · by_cases z' : d = n
      · rw [p5_F, WS_n h6 w (i := e) (j := c) (by omega) (by omega) (by omega) (Or.inr (Or.inr z'))]
        unfold F5
        rw [Int32.mul_zero]
        rfl
      · have g := (qhold_iff.mp q a b c d h1 h2 h3 (by omega)).2 e (by omega) ea eb ec ed
        rwa [p5_q5 (pm_mul (WS_at w (by omega) (by omega) (by omega) (by omega) ea (by omega) eb) (WS_at w (by omega) (by omega) (by omega) (by omega) ec (by omega) ed))]
/-- one point more: the class's count is that over all pairs in any order -/
theorem CE_all {χ : tC} {n : Nat} (n5 : n ≤ 5) (w : WS χ n) (cb : ∀ i j k, ¬ (i < 7 ∧ j < 7 ∧ k < 7) → χ i j k = 0) (q : qhold χ n = true) : CE n (nseg n) 0 1 χ = TS (n + 1) n (prL n) χ := by
  rw [CE_TS (by omega) _ _ _ _ (V3_WS (by omega) w cb) (ZL_WS0 (by omega) w) (PC_q (by omega) w q)]
  exact TS_perm (List.isPerm_iff.mp (LE_prL n (by omega))) (LE_f n (by omega)).2 χ
