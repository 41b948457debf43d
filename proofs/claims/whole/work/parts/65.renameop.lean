/-! ===== rename: the calls ===== -/
theorem opV_f {h : tH} (hI : IV h) {mi mm k : Nat} {as bs : List Value} (hk : k ≤ 2) (a : rn mi as h (RI (nI k)) (t_X h)) (b : rn mm bs (t_X h) (.inl none) (t_I (t_X h) 13 0 (nI k))) : opV h mi as mm bs :=
  ⟨k, _, _, hk, a, b, IV_fr (fr_t (fr_X h) fr_13) hI, rfl⟩
theorem op_rename {h : tH} (hI : IV h) (x a b : Int32) : opV h 179 [.ref 0, .int x, .int a, .int b] 128 [.ref 13, .int x, .int a, .int b] := by
  obtain ⟨D, s, w, h1, h2, h3, hs, hw, ha⟩ := id hI
  by_cases hx : pI x D = true
  · obtain ⟨d, hd, rfl⟩ := (pI_iff (by omega)).mp hx
    obtain ⟨n, hn⟩ := ha.1 d hd
    have hd6 : d < 6 := by omega
    obtain ⟨t1, t2⟩ := DV_t hd6 hn
    have n7' := t1.2.2
    by_cases hp : (pI a n && pI b n) = true
    · by_cases ab : a = b
      · refine opV_f hI (k := 2) (by decide) (r_179_e0 fun Q => ?_) (n128x (g := t_X h) h2 h3 (Or.inr ⟨d, n, rfl, hd, t2, Or.inr ⟨hp, ab, rfl⟩⟩))
        rw [c72 h1 h3 hd t1, if_pos hp, if_pos ab]
      · have hp' := hp
        simp only [Bool.and_eq_true] at hp'
        obtain ⟨i, hi, rfl⟩ := (pI_iff (by omega)).mp hp'.1
        obtain ⟨j, hj, rfl⟩ := (pI_iff (by omega)).mp hp'.2
        have ij : i ≠ j := fun z => ab (by rw [z])
        have hi7 : i < 7 := by omega
        have hj7 : j < 7 := by omega
        obtain ⟨χ, hχ⟩ : ∃ χ, χ = tX h (70 + d) := ⟨_, rfl⟩
        have ws : WS χ n := by rw [hχ]; exact hn.2.2.2.2.2.1
        have hh : qhold χ n = true := by rw [hχ]; exact hn.2.2.2.2.2.2.1
        have hY : tY h d = χ := by rw [hχ]; exact hn.2.2.2.2.1.symm
        have r1 := c72s h1 h3 hd t1 hi hj ij
        obtain ⟨A, hA⟩ : ∃ A, A = rA h d i j n := ⟨_, rfl⟩
        rw [← hA] at r1
        have rdA : ∀ a b, A.1 a b = if a = 40 + d ∧ b = 5 then 0 else if a = 60 + d ∧ b = j then h.1 (60 + d) i else if a = 60 + d ∧ b = i then h.1 (60 + d) j else if a = 50 + d ∧ b = j then h.1 (50 + d) i else if a = 50 + d ∧ b = i then h.1 (50 + d) j else if a = 80 + d then g1 i j n (h.1 (80 + d)) b else h.1 a b := fun a b => by rw [hA]; rfl
        have gl : ∀ a b, a < 40 → A.1 a b = h.1 a b := fun a b a2 => by
          rw [rdA, if_neg (by omega), if_neg (by omega), if_neg (by omega), if_neg (by omega), if_neg (by omega), if_neg (by omega)]
        have r2 := n128 (g := A) (n := n) (by rw [gl _ _ (by decide)]; exact h2) h3 hd ⟨by omega, by rw [gl _ _ (by decide)]; exact t2.2.1, n7'⟩ hi hj ij
        obtain ⟨S, hS⟩ : ∃ S : Nat → Int32, S = fun c => A.1 20 (343 * d + c) := ⟨_, rfl⟩
        rw [← hS] at r2
        obtain ⟨Z, hZ⟩ : ∃ Z, Z = rZ A d i j S (rT i j S S) := ⟨_, rfl⟩
        rw [← hZ] at r2
        have rdZ : ∀ a b, Z.1 a b = if a = 24 ∧ b = d then 0 else if a = 23 ∧ b = 7 * d + j then A.1 23 (7 * d + i) else if a = 22 ∧ b = 7 * d + j then A.1 22 (7 * d + i) else if a = 23 ∧ b = 7 * d + i then A.1 23 (7 * d + j) else if a = 22 ∧ b = 7 * d + i then A.1 22 (7 * d + j) else if a = 20 ∧ 343 * d ≤ b ∧ b < 343 * d + 343 then rT i j S S (b - 343 * d) else if a = 20 ∧ 343 * 6 ≤ b ∧ b < 343 * 6 + 343 then S (b - 343 * 6) else if a = 13 ∧ b = 0 then 0 else A.1 a b := fun a b => by rw [hZ]; rfl
        have zo : ∀ a b, ¬ ((a = 13 ∧ b = 0) ∨ a = 22 ∨ a = 23 ∨ (a = 20 ∧ 343 * d ≤ b ∧ b < 343 * d + 343) ∨ (a = 20 ∧ 2058 ≤ b) ∨ (a = 24 ∧ b = d)) → Z.1 a b = A.1 a b := fun a b e => by
          rw [rdZ, if_neg (by omega), if_neg (by omega), if_neg (by omega), if_neg (by omega), if_neg (by omega), if_neg (by omega), if_neg (by omega), if_neg (by omega)]
        have big : ∀ a b c, ¬ (a < 7 ∧ b < 7 ∧ c < 7) → ren i j χ a b c = 0 := fun a b c e => by
          unfold ren
          rw [hχ, cut_Xr]
          refine cut_big fun z => ?_
          have k1 : ¬ (¬ a < 7) := fun q => sw_ge hi7 hj7 q z.1
          have k2 : ¬ (¬ b < 7) := fun q => sw_ge hi7 hj7 q z.2.1
          have k3 : ¬ (¬ c < 7) := fun q => sw_ge hi7 hj7 q z.2.2
          omega
        have eX : tX Z (70 + d) = ren i j χ := by
          rw [cut_Xr, show Z.1 (70 + d + 10) = g1 i j n (h.1 (80 + d)) from funext fun b => by rw [zo _ _ (by omega), rdA, if_neg (by omega), if_neg (by omega), if_neg (by omega), if_neg (by omega), if_neg (by omega), if_pos (by omega)]]
          have e := cut_g1 (n := n) n7' hi7 hj7 (h.1 (80 + d))
          have ec : cut (h.1 (80 + d)) = χ := by rw [hχ, cut_Xr, show 70 + d + 10 = 80 + d by omega]
          funext a b c
          by_cases e7 : a < 7 ∧ b < 7 ∧ c < 7
          · rw [e, ec]
            exact E1_ren n7' ij hi hj ws a b c e7.1 e7.2.1 e7.2.2
          · rw [cut_big e7, big a b c e7]
        have eY : tY Z d = ren i j χ := by
          rw [cut_Yr]
          funext a b c
          by_cases e7 : a < 7 ∧ b < 7 ∧ c < 7
          · unfold cut
            rw [if_pos e7]
            show Z.1 20 (343 * d + (49 * a + 7 * b + c)) = _
            rw [rdZ, if_neg (by omega), if_neg (by omega), if_neg (by omega), if_neg (by omega), if_neg (by omega), if_pos (by omega), Nat.add_sub_cancel_left, rT_at e7.1 e7.2.1 e7.2.2, hS]
            show A.1 20 (343 * d + (49 * sw i j a + 7 * sw i j b + sw i j c)) = χ (sw i j a) (sw i j b) (sw i j c)
            rw [gl _ _ (by decide), ← hY]
            unfold tY
            rw [if_pos ⟨sw_lt hi7 hj7 e7.1, sw_lt hi7 hj7 e7.2.1, sw_lt hi7 hj7 e7.2.2⟩, show 343 * d + (49 * sw i j a + 7 * sw i j b + sw i j c) = 343 * d + 49 * sw i j a + 7 * sw i j b + sw i j c by omega]
          · rw [cut_big e7, big a b c e7]
        obtain ⟨b1, b2, b3, b4, b5, b6, b7, ⟨b8, b81, b82⟩, -⟩ := id hn
        have v' : DV Z d n := by
          refine ⟨b1, b2, ?_, ?_, eX.trans eY.symm, ?_, ?_, ⟨b8, ?_, ?_⟩, ⟨false, ?_, ?_, fun z => (nomatch z)⟩⟩
          · rw [zo _ _ (by omega), rdA, if_neg (by omega), if_neg (by omega), if_neg (by omega), if_neg (by omega), if_neg (by omega), if_neg (by omega)]; exact b3
          · rw [zo _ _ (by omega), gl _ _ (by decide)]; exact b4
          · rw [eX]; exact ren_WS n7' hi hj ws
          · rw [eX]; exact ren_hold n7' hi hj ws hh
          · rw [zo _ _ (by omega), rdA, if_neg (by omega), if_neg (by omega), if_neg (by omega), if_neg (by omega), if_neg (by omega), if_neg (by omega)]; exact b81
          · rw [zo _ _ (by omega), gl _ _ (by decide)]; exact b82
          · rw [zo _ _ (by omega), rdA, if_pos ⟨rfl, rfl⟩]; rfl
          · rw [rdZ, if_pos ⟨rfl, rfl⟩]; rfl
        have iv : IV Z := by
          refine IV_at (s := s) (w := w) h3 hd ha ?_ ?_ (SV_fr (fun a b e => ?_) hs) (WV_fr (fun a b e => ?_) hw) (fun a b e1 e2 e3 => ?_) v' fun p hp => ⟨?_, ?_⟩
          · rw [zo _ _ (by omega), gl _ _ (by decide)]; exact h1
          · rw [zo _ _ (by omega), gl _ _ (by decide)]; exact h2
          · rw [zo _ _ (by omega), gl _ _ (by omega)]
          · rw [zo _ _ (by omega), gl _ _ (by omega)]
          · have e4 : ¬ (a = 20 ∧ 2058 ≤ b) := fun z => by
              have : sc a b = true := decide_eq_true (by omega)
              rw [this] at e2; cases e2
            by_cases z : a = 22 ∨ a = 23
            · rw [rdZ, if_neg (by omega), if_neg (by omega), if_neg (by omega), if_neg (by omega), if_neg (by omega), if_neg (by omega), if_neg (by omega), if_neg (by omega), gl _ _ (by omega)]
            · rw [zo _ _ (by omega), rdA, if_neg (by omega), if_neg (by omega), if_neg (by omega), if_neg (by omega), if_neg (by omega), if_neg (by omega)]
          · have xx := fun p hp => (ha.2.2 d p hd6 hp).1
            rw [zo (50 + d) _ (by omega), rdA (50 + d), if_neg (by omega), if_neg (by omega), if_neg (by omega)]
            by_cases pj : p = j
            · rw [if_pos ⟨rfl, pj⟩, rdZ, if_neg (by omega), if_neg (by omega), if_pos ⟨rfl, by omega⟩, gl _ _ (by decide)]
              exact xx i hi7
            · rw [if_neg (show ¬ (50 + d = 50 + d ∧ p = j) by omega)]
              by_cases pi : p = i
              · rw [if_pos ⟨rfl, pi⟩, rdZ, if_neg (by omega), if_neg (by omega), if_neg (by omega), if_neg (by omega), if_pos ⟨rfl, by omega⟩, gl _ _ (by decide)]
                exact xx j hj7
              · rw [if_neg (by omega), if_neg (by omega), rdZ, if_neg (by omega), if_neg (by omega), if_neg (by omega), if_neg (by omega), if_neg (by omega), if_neg (by omega), if_neg (by omega), if_neg (by omega), gl _ _ (by decide)]
                exact xx p hp
          · have xx := fun p hp => (ha.2.2 d p hd6 hp).2
            rw [zo (60 + d) _ (by omega), rdA (60 + d), if_neg (by omega)]
            by_cases pj : p = j
            · rw [if_pos ⟨rfl, pj⟩, rdZ, if_neg (by omega), if_pos ⟨rfl, by omega⟩, gl _ _ (by decide)]
              exact xx i hi7
            · rw [if_neg (show ¬ (60 + d = 60 + d ∧ p = j) by omega)]
              by_cases pi : p = i
              · rw [if_pos ⟨rfl, pi⟩, rdZ, if_neg (by omega), if_neg (by omega), if_neg (by omega), if_pos ⟨rfl, by omega⟩, gl _ _ (by decide)]
                exact xx j hj7
              · rw [if_neg (by omega), if_neg (by omega), if_neg (by omega), if_neg (by omega), rdZ, if_neg (by omega), if_neg (by omega), if_neg (by omega), if_neg (by omega), if_neg (by omega), if_neg (by omega), if_neg (by omega), if_neg (by omega), gl _ _ (by decide)]
                exact xx p hp
        refine ⟨0, A, Z, by decide, r_179 r1, r2, iv, ?_⟩
        rw [rdZ, if_neg (by omega), if_neg (by omega), if_neg (by omega), if_neg (by omega), if_neg (by omega), if_neg (by omega), if_neg (by omega), if_pos ⟨rfl, rfl⟩]
        rfl
    · refine opV_f hI (k := 1) (by decide) (r_179_e2 fun Q => ?_) (n128x (g := t_X h) h2 h3 (Or.inr ⟨d, n, rfl, hd, t2, Or.inl ⟨by simpa using hp, rfl⟩⟩))
      rw [c72 h1 h3 hd t1, if_neg hp]
  · refine opV_f hI (k := 1) (by decide) (r_179_e2 fun Q => ?_) (n128x (g := t_X h) h2 h3 (Or.inl ⟨pI_x hx, rfl⟩))
    rw [am_72, s_72_0, c75x h1 h3 (pI_x hx)]
    simp only [t_ob_0', true_and, t_kq_E]
