/-! garden: reading as a whole, and the beginning -/
theorem rg_m {s m : ST} {V : Nat → Int32} {X N : Nat} (hF : FR s m) (hT : MT m V X N) (h6 : s 0 6 = nI X) : (∃ u p, F_X7_readGarden s (nI (X + N)) = some (0, u) ∧ FR u m ∧ u 0 6 = nI (X + p) ∧ p ≤ N ∧ (∀ q, q < p → Go V q) ∧ Bad V N p ∧ (p = N → N ≤ 4 ∨ (N - 4) % 5 ≠ 0)) ∨ (∃ u b d1 d2 d3, F_X7_readGarden s (nI (X + N)) = some (1, u) ∧ FR u m ∧ 1 ≤ b ∧ b ≤ 6 ∧ N = 4 + 5 * b ∧ (∀ q, q < N → Go V q) ∧ u 0 8 = nI b ∧ V 1 - 48 = nI d1 ∧ V 2 - 48 = nI d2 ∧ V 3 - 48 = nI d3 ∧ 100 * d1 + 10 * d2 + d3 < 256 ∧ u 0 7 = nI (100 * d1 + 10 * d2 + d3) ∧ ∀ j, j < b → BlkV (u 8) V j) := by
  have g0e : Go V 0 = (V 0 = 103) := by
    unfold Go
    rw [if_pos (show (0 : Nat) = 0 from rfl)]
  have F0 : FR (st s 0 8 0) m := hF.st6 (Or.inr (Or.inr rfl)) _
  have p0 : st s 0 8 0 0 6 = nI (X + 0) := h6
  unfold F_X7_readGarden
  by_cases sg : 0 < N ∧ V 0 = 103
  · obtain ⟨s1, s2⟩ := sg
    have g0 : Go V 0 := by rw [g0e]; exact s2
    rw [sign_y F0 hT p0 s1 s2, b2s, if_neg n10]
    rcases rl1 (s := st (st s 0 8 0) 0 6 (nI (X + (0 + 1)))) (F0.st6 (Or.inl rfl) _) hT rfl (by omega) with ⟨u, p, u1, u2, u3, u4, u5, u6, u7, u8⟩ | ⟨u, d1, d2, d3, u1, u2, u3, u4, u5, u6, u7, u8, u9, u10, u11⟩
    · rw [u1, b2s, if_pos (show (0 : Int32) = 0 from rfl)]
      refine Or.inl ⟨u, p, rfl, u2, u3, u6, fun q hq => ?_, u8, fun z => Or.inl (by omega)⟩
      by_cases e : q = 0
      · rw [e]; exact g0
      · exact u7 q (by omega) hq
    · rw [u1, b2s, if_neg n10]
      have hgo : ∀ q, q < 4 + 5 * 0 → Go V q := fun q hq => by
        by_cases e : q = 0
        · rw [e]; exact g0
        · exact u5 q (by omega) (by omega)
      rcases rg_L hT (nI (100 * d1 + 10 * d2 + d3)) 1000 0 u (by decide) (by decide) u2 u3 u11 u10 u4 hgo (fun j hj => absurd hj (Nat.not_lt_zero j)) with ⟨v, p, v1, v2⟩ | ⟨v, b, v1, v2, v3, v4, v5, v6, v7, v8, v9⟩
      · exact Or.inl ⟨v, p, v1, v2⟩
      · exact Or.inr ⟨v, b, d1, d2, d3, v1, v2, v3, v4, v5, v6, v7, u6, u7, u8, u9, v8, v9⟩
  · have hb : 0 = N ∨ ¬ V 0 = 103 := by
      by_cases e : 0 = N
      · exact Or.inl e
      · exact Or.inr (fun z => sg ⟨by omega, z⟩)
    rw [sign_n F0 hT p0 (Nat.zero_le _) hb, b2s, if_pos (show (0 : Int32) = 0 from rfl)]
    exact Or.inl ⟨_, 0, rfl, F0, p0, Nat.zero_le _, fun q hq => absurd hq (Nat.not_lt_zero q), bad_of (Nat.zero_le _) (hb.imp id (fun z => by rw [g0e]; exact z)), fun z => Or.inl (by omega)⟩
theorem dig_c {t : ST} {V : Nat → Int32} {N i ln : Nat} (h2 : t 0 2 = nI ln) (hl : ln ≤ 60) (hi : i + N ≤ ln) (hv : ∀ p, p < N → t 1 (i + p) = V p) {p : Nat} (hp : p < N) : F_X4_digitAt t (nI (i + p)) = some (V p - 48) := by
  unfold F_X4_digitAt
  rw [at_c h2 hl (by omega) (hv p hp), bs]
theorem begin_L {t : ST} {V : Nat → Int32} {N i ln b : Nat} {kd sh pc : Nat → Nat} (h2 : t 0 2 = nI ln) (hl : ln ≤ 60) (hi : i + N ≤ ln) (hv : ∀ p, p < N → t 1 (i + p) = V p) (hN : N = 4 + 5 * b) (hb : b ≤ 6) (hk : ∀ j, j < b → F_X4_kindBy (V (4 + 5 * j + 1)) = some (nI (kd j)) ∧ 8 * (V (4 + 5 * j + 2) - 48) + (V (4 + 5 * j + 3) - 48) = nI (sh j) ∧ V (4 + 5 * j + 4) - 48 = nI (pc j)) (x3 : Int32) (k : Int32 → ST → Option ST) : ∀ n j (s : ST), j ≤ b → b - j < n → s 0 0 = nI b → (∀ q, q < 6 → (q < j ∨ b ≤ q) → s 1 q = nI (kd q) ∧ s 2 q = nI (sh q) ∧ s 3 q = nI (pc q)) → ∃ u : ST, F_X0_begin_L26 t (nI i) x3 k n (nI j) s = k (nI b) u ∧ u 0 = s 0 ∧ ∀ q, q < 6 → u 1 q = nI (kd q) ∧ u 2 q = nI (sh q) ∧ u 3 q = nI (pc q) := by
  intro n
  induction n with
  | zero => intro j s _ h; omega
  | succ n ih =>
    intro j s hj hn s0 hs
    rw [F_X0_begin_L26.eq_2, s0]
    by_cases h : j = b
    · subst h
      rw [if_pos (nI_le (Nat.le_refl _) (by omega))]
      exact ⟨s, rfl, rfl, fun q hq => hs q hq (by omega)⟩
    · have j6 : j < 6 := by omega
      obtain ⟨k1, k2, k3⟩ := hk j (by omega)
      have pl : (nI i + 4) + 5 * nI j = nI (i + (4 + 5 * j)) := by
        show (nI i + nI 4) + nI 5 * nI j = _
        rw [pk_mul, nI_add, nI_add, Nat.add_assoc]
      have q1 : F_X4_kindOf t (nI i) (nI j) = some (nI (kd j)) := by
        unfold F_X4_kindOf F_X4_placeOf
        rw [bs, pl, nI_1, Nat.add_assoc, at_c h2 hl (by omega) (hv (4 + 5 * j + 1) (by omega)), bs, k1, bs]
      have q2 : F_X4_shapeOf t (nI i) (nI j) = some (nI (sh j)) := by
        unfold F_X4_shapeOf F_X4_placeOf
        rw [bs, pl, show nI (i + (4 + 5 * j)) + 2 = nI (i + (4 + 5 * j + 2)) from nI_add _ 2, dig_c h2 hl hi hv (by omega), bs, bs, show nI (i + (4 + 5 * j)) + 3 = nI (i + (4 + 5 * j + 3)) from nI_add _ 3, dig_c h2 hl hi hv (by omega), bs, k2]
      have q3 : F_X4_paceOf t (nI i) (nI j) = some (nI (pc j)) := by
        unfold F_X4_paceOf F_X4_placeOf
        rw [bs, pl, show nI (i + (4 + 5 * j)) + 4 = nI (i + (4 + 5 * j + 4)) from nI_add _ 4, dig_c h2 hl hi hv (by omega), bs, k3]
      rw [if_neg (nI_ge (by omega) (by omega)), q1, bs, ixN j6 (by decide), bs, q2, bs, bs, q3, bs, bs, nI_1]
      obtain ⟨u, u1, u2, u3⟩ := ih (j + 1) (st (st (st s 1 j (nI (kd j))) 2 j (nI (sh j))) 3 j (nI (pc j))) (by omega) (by omega) s0 (fun q hq hx => by
        rw [st_ne (by decide), st_ne (by decide), st_eq, st_ne (by decide), st_eq, st_ne (by decide), st_eq, st_ne (by decide), st_ne (by decide)]
        by_cases e : q = j
        · subst e
          rw [upd_eq, upd_eq, upd_eq]
          exact ⟨rfl, rfl, rfl⟩
        · rw [upd_ne e, upd_ne e, upd_ne e]
          exact hs q hq (by omega))
      exact ⟨u, u1, u2, u3⟩
