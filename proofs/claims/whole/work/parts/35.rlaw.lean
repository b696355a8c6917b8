/-! garden: the law's digits -/
def Bad (V : Nat → Int32) (N p : Nat) : Prop := p = N ∨ (p < N ∧ ¬ Go V p)
theorem go13 {V : Nat → Int32} {p : Nat} (h0 : 0 < p) (h4 : p < 4) : Go V p = inD (V p) 48 (gd V p) := by
  unfold Go
  rw [if_neg (by omega), if_pos h4]
theorem rl3 {s m : ST} {V : Nat → Int32} {X N : Nat} (hF : FR s m) (hT : MT m V X N) (h6 : s 0 6 = nI (X + 3)) (hN : 3 ≤ N) {d1 d2 h3 : Nat} (l1 : d1 ≤ 2) (l2 : d2 ≤ 9) (l3 : h3 ≤ 9) (e3 : gd V 3 = nI (48 + h3)) (x1 : Int32) : (∃ u, F_X7_readTheLaw_J61 x1 (nI d1) (nI d2) s (nI h3) 0 (nI (X + N)) = some (0, u) ∧ FR u m ∧ u 0 6 = nI (X + 3) ∧ Bad V N 3) ∨ (∃ u d3, F_X7_readTheLaw_J61 x1 (nI d1) (nI d2) s (nI h3) 0 (nI (X + N)) = some (1, u) ∧ FR u m ∧ u 0 6 = nI (X + 4) ∧ 4 ≤ N ∧ Go V 3 ∧ d3 ≤ h3 ∧ V 3 - 48 = nI d3 ∧ u 0 7 = nI (100 * d1 + 10 * d2 + d3) ∧ u 0 8 = s 0 8) := by
  unfold F_X7_readTheLaw_J61
  have e48 : (48 : Int32) + nI h3 = nI (48 + h3) := show nI 48 + nI h3 = _ from nI_add _ _
  by_cases b : 3 < N ∧ inD (V 3) 48 (nI (48 + h3))
  · obtain ⟨b1, b2⟩ := b
    obtain ⟨d, _, q2, _, q4⟩ := inD_v (lo := 0) (by decide) l3 b2
    rw [digit_y hF hT h6 b1 (x2 := 0) (lo := 48) rfl e48 b2, b2s, q4, if_neg (n9 (by omega))]
    refine Or.inr ⟨_, d, rfl, (hF.st6 (Or.inl rfl) _).st6 (Or.inr (Or.inl rfl)) _, rfl, by omega, by rw [go13 (by decide) (by decide), e3]; exact b2, q2, rfl, ?_, rfl⟩
    show (100 * nI d1 + 10 * nI d2) + nI d = _
    show (nI 100 * nI d1 + nI 10 * nI d2) + nI d = _
    rw [pk_mul, pk_mul, nI_add, nI_add]
  · have hb : 3 = N ∨ ¬ inD (V 3) 48 (nI (48 + h3)) := by
      by_cases e : 3 = N
      · exact Or.inl e
      · exact Or.inr (fun z => b ⟨by omega, z⟩)
    rw [digit_n hF hT h6 hN (x2 := 0) (lo := 48) rfl e48 hb, b2s, if_pos (show (-9 : Int32) = -9 from rfl)]
    refine Or.inl ⟨_, rfl, hF.st6 (Or.inr (Or.inl rfl)) _, h6, ?_⟩
    rcases hb with e | e
    · exact Or.inl e
    · by_cases e2 : 3 = N
      · exact Or.inl e2
      · exact Or.inr ⟨by omega, by rw [go13 (by decide) (by decide), e3]; exact e⟩
theorem rl2 {s m : ST} {V : Nat → Int32} {X N : Nat} (hF : FR s m) (hT : MT m V X N) (h6 : s 0 6 = nI (X + 2)) (hN : 2 ≤ N) {d1 h2 : Nat} (l1 : d1 ≤ 2) (v1 : V 1 = nI (48 + d1)) (l2 : h2 = if d1 = 2 then 5 else 9) : (∃ u p, F_X7_readTheLaw_J30 (nI (X + N)) (nI d1) s (nI h2) 0 (nI (X + N)) = some (0, u) ∧ FR u m ∧ u 0 6 = nI (X + p) ∧ 2 ≤ p ∧ p ≤ 3 ∧ p ≤ N ∧ (∀ q, 2 ≤ q → q < p → Go V q) ∧ Bad V N p) ∨ (∃ u d2 d3, F_X7_readTheLaw_J30 (nI (X + N)) (nI d1) s (nI h2) 0 (nI (X + N)) = some (1, u) ∧ FR u m ∧ u 0 6 = nI (X + 4) ∧ 4 ≤ N ∧ Go V 2 ∧ Go V 3 ∧ V 2 - 48 = nI d2 ∧ V 3 - 48 = nI d3 ∧ 100 * d1 + 10 * d2 + d3 < 256 ∧ u 0 7 = nI (100 * d1 + 10 * d2 + d3) ∧ u 0 8 = s 0 8) := by
  have h29 : h2 ≤ 9 := by
    by_cases e : d1 = 2
    · rw [if_pos e] at l2; omega
    · rw [if_neg e] at l2; omega
  have v50 : V 1 = 50 ↔ d1 = 2 := by
    rw [v1]
    exact (nI_eq (a := 48 + d1) (b := 50) (by omega) (by decide)).trans ⟨fun h => by omega, fun h => by omega⟩
  have e2 : gd V 2 = nI (48 + h2) := by
    unfold gd
    rw [if_neg (show ¬ (2 : Nat) = 1 by decide), if_pos (show (2 : Nat) = 2 from rfl), l2]
    by_cases e : d1 = 2
    · rw [if_pos (v50.mpr e), if_pos e]; rfl
    · rw [if_neg (fun z => e (v50.mp z)), if_neg e]; rfl
  unfold F_X7_readTheLaw_J30
  have e48 : (48 : Int32) + nI h2 = nI (48 + h2) := show nI 48 + nI h2 = _ from nI_add _ _
  by_cases b : 2 < N ∧ inD (V 2) 48 (nI (48 + h2))
  · obtain ⟨b1, b2⟩ := b
    have g2 : Go V 2 := by rw [go13 (by decide) (by decide), e2]; exact b2
    obtain ⟨d, _, q2, q3, q4⟩ := inD_v (lo := 0) (by decide) h29 b2
    rw [digit_y hF hT h6 b1 (x2 := 0) (lo := 48) rfl e48 b2, b2s, q4, if_neg (n9 (by omega))]
    have v53 : V 2 = 53 ↔ d = 5 := by
      rw [q3]
      exact (nI_eq (a := 48 + d) (b := 53) (by omega) (by decide)).trans ⟨fun h => by omega, fun h => by omega⟩
    have fin : ∀ h3 : Nat, h3 = (if d1 = 2 then (if d = 5 then 5 else 9) else 9) → (∃ u p, F_X7_readTheLaw_J61 (nI (X + N)) (nI d1) (nI d) (st s 0 6 (nI (X + (2 + 1)))) (nI h3) 0 (nI (X + N)) = some (0, u) ∧ FR u m ∧ u 0 6 = nI (X + p) ∧ 2 ≤ p ∧ p ≤ 3 ∧ p ≤ N ∧ (∀ q, 2 ≤ q → q < p → Go V q) ∧ Bad V N p) ∨ (∃ u d2 d3, F_X7_readTheLaw_J61 (nI (X + N)) (nI d1) (nI d) (st s 0 6 (nI (X + (2 + 1)))) (nI h3) 0 (nI (X + N)) = some (1, u) ∧ FR u m ∧ u 0 6 = nI (X + 4) ∧ 4 ≤ N ∧ Go V 2 ∧ Go V 3 ∧ nI d = nI d2 ∧ V 3 - 48 = nI d3 ∧ 100 * d1 + 10 * d2 + d3 < 256 ∧ u 0 7 = nI (100 * d1 + 10 * d2 + d3) ∧ u 0 8 = s 0 8) := by
      intro h3 l3
      have h39 : h3 ≤ 9 := by
        by_cases e : d1 = 2
        · rw [if_pos e] at l3
          by_cases e5 : d = 5
          · rw [if_pos e5] at l3; omega
          · rw [if_neg e5] at l3; omega
        · rw [if_neg e] at l3; omega
      have e3 : gd V 3 = nI (48 + h3) := by
        unfold gd
        rw [if_neg (show ¬ (3 : Nat) = 1 by decide), if_neg (show ¬ (3 : Nat) = 2 by decide), l3]
        by_cases e : d1 = 2
        · rw [if_pos (v50.mpr e), if_pos e]
          by_cases e5 : d = 5
          · rw [if_pos (v53.mpr e5), if_pos e5]; rfl
          · rw [if_neg (fun z => e5 (v53.mp z)), if_neg e5]; rfl
        · rw [if_neg (fun z => e (v50.mp z)), if_neg e]; rfl
      rcases rl3 (s := st s 0 6 (nI (X + (2 + 1)))) (hF.st6 (Or.inl rfl) _) hT rfl (by omega) l1 (show d ≤ 9 by omega) h39 e3 (nI (X + N)) with ⟨u, u1, u2, u3, u4⟩ | ⟨u, d3, u1, u2, u3, u4, u5, u6, u7, u8, u9⟩
      · exact Or.inl ⟨u, 3, u1, u2, u3, by decide, by decide, by omega, fun q a b => by rw [show q = 2 by omega]; exact g2, u4⟩
      · refine Or.inr ⟨u, d, d3, u1, u2, u3, u4, g2, u5, rfl, u7, ?_, u8, u9⟩
        by_cases e : d1 = 2
        · rw [if_pos e] at l3 l2
          by_cases e5 : d = 5
          · rw [if_pos e5] at l3; omega
          · omega
        · omega
    by_cases e : d1 = 2
    · rw [if_pos (show nI d1 = 2 by rw [e]; rfl)]
      by_cases e5 : d = 5
      · rw [if_pos (show nI d = 5 by rw [e5]; rfl)]
        exact fin 5 (by rw [if_pos e, if_pos e5])
      · rw [if_neg (show ¬ nI d = 5 from nI_ne (b := 5) e5 (by omega) (by decide))]
        exact fin 9 (by rw [if_pos e, if_neg e5])
    · rw [if_neg (show ¬ nI d1 = 2 from nI_ne (b := 2) e (by omega) (by decide))]
      exact fin 9 (by rw [if_neg e])
  · have hb : 2 = N ∨ ¬ inD (V 2) 48 (nI (48 + h2)) := by
      by_cases e : 2 = N
      · exact Or.inl e
      · exact Or.inr (fun z => b ⟨by omega, z⟩)
    rw [digit_n hF hT h6 hN (x2 := 0) (lo := 48) rfl e48 hb, b2s, if_pos (show (-9 : Int32) = -9 from rfl)]
    refine Or.inl ⟨s, 2, rfl, hF, h6, by decide, by decide, hN, fun q a b => by omega, ?_⟩
    by_cases e2' : 2 = N
    · exact Or.inl e2'
    · rcases hb with e | e
      · exact Or.inl e
      · exact Or.inr ⟨by omega, by rw [go13 (by decide) (by decide), e2]; exact e⟩
theorem rl1 {s m : ST} {V : Nat → Int32} {X N : Nat} (hF : FR s m) (hT : MT m V X N) (h6 : s 0 6 = nI (X + 1)) (hN : 1 ≤ N) : (∃ u p, F_X7_readTheLaw s (nI (X + N)) = some (0, u) ∧ FR u m ∧ u 0 6 = nI (X + p) ∧ 1 ≤ p ∧ p ≤ 3 ∧ p ≤ N ∧ (∀ q, 1 ≤ q → q < p → Go V q) ∧ Bad V N p) ∨ (∃ u d1 d2 d3, F_X7_readTheLaw s (nI (X + N)) = some (1, u) ∧ FR u m ∧ u 0 6 = nI (X + 4) ∧ 4 ≤ N ∧ (∀ q, 1 ≤ q → q < 4 → Go V q) ∧ V 1 - 48 = nI d1 ∧ V 2 - 48 = nI d2 ∧ V 3 - 48 = nI d3 ∧ 100 * d1 + 10 * d2 + d3 < 256 ∧ u 0 7 = nI (100 * d1 + 10 * d2 + d3) ∧ u 0 8 = s 0 8) := by
  have e1 : gd V 1 = nI (48 + 2) := by
    unfold gd
    rw [if_pos (show (1 : Nat) = 1 from rfl)]
    rfl
  unfold F_X7_readTheLaw
  have e48 : (48 : Int32) + 2 = nI (48 + 2) := by decide
  by_cases b : 1 < N ∧ inD (V 1) 48 (nI (48 + 2))
  · obtain ⟨b1, b2⟩ := b
    have g1 : Go V 1 := by rw [go13 (by decide) (by decide), e1]; exact b2
    obtain ⟨d, _, q2, q3, q4⟩ := inD_v (lo := 0) (hi := 2) (by decide) (by decide) b2
    have fin : ∀ h2 : Nat, h2 = (if d = 2 then 5 else 9) → (∃ u p, F_X7_readTheLaw_J30 (nI (X + N)) (nI d) (st s 0 6 (nI (X + (1 + 1)))) (nI h2) 0 (nI (X + N)) = some (0, u) ∧ FR u m ∧ u 0 6 = nI (X + p) ∧ 1 ≤ p ∧ p ≤ 3 ∧ p ≤ N ∧ (∀ q, 1 ≤ q → q < p → Go V q) ∧ Bad V N p) ∨ (∃ u d1 d2 d3, F_X7_readTheLaw_J30 (nI (X + N)) (nI d) (st s 0 6 (nI (X + (1 + 1)))) (nI h2) 0 (nI (X + N)) = some (1, u) ∧ FR u m ∧ u 0 6 = nI (X + 4) ∧ 4 ≤ N ∧ (∀ q, 1 ≤ q → q < 4 → Go V q) ∧ nI d = nI d1 ∧ V 2 - 48 = nI d2 ∧ V 3 - 48 = nI d3 ∧ 100 * d1 + 10 * d2 + d3 < 256 ∧ u 0 7 = nI (100 * d1 + 10 * d2 + d3) ∧ u 0 8 = s 0 8) := by
      intro h2 l2
      rcases rl2 (s := st s 0 6 (nI (X + (1 + 1)))) (hF.st6 (Or.inl rfl) _) hT rfl (by omega) q2 q3 l2 with ⟨u, p, u1, u2, u3, u4, u5, u6, u7, u8⟩ | ⟨u, d2, d3, u1, u2, u3, u4, u5, u6, u7, u8, u9, u10, u11⟩
      · refine Or.inl ⟨u, p, u1, u2, u3, by omega, u5, u6, fun q a b => ?_, u8⟩
        by_cases e : q = 1
        · rw [e]; exact g1
        · exact u7 q (by omega) b
      · refine Or.inr ⟨u, d, d2, d3, u1, u2, u3, u4, fun q a b => ?_, rfl, u7, u8, u9, u10, u11⟩
        rcases (show q = 1 ∨ q = 2 ∨ q = 3 by omega) with e | e | e
        · rw [e]; exact g1
        · rw [e]; exact u5
        · rw [e]; exact u6
    rw [digit_y hF hT h6 b1 (x2 := 0) (lo := 48) rfl e48 b2, b2s, q4, if_neg (n9 (by omega))]
    by_cases e : d = 2
    · rw [if_pos (show nI d = 2 by rw [e]; rfl)]
      exact fin 5 (by rw [if_pos e])
    · rw [if_neg (show ¬ nI d = 2 from nI_ne (b := 2) e (by omega) (by decide))]
      exact fin 9 (by rw [if_neg e])
  · have hb : 1 = N ∨ ¬ inD (V 1) 48 (nI (48 + 2)) := by
      by_cases e : 1 = N
      · exact Or.inl e
      · exact Or.inr (fun z => b ⟨by omega, z⟩)
    rw [digit_n hF hT h6 hN (x2 := 0) (lo := 48) rfl e48 hb, b2s, if_pos (show (-9 : Int32) = -9 from rfl)]
    refine Or.inl ⟨s, 1, rfl, hF, h6, by decide, by decide, hN, fun q a b => by omega, ?_⟩
    by_cases e2' : 1 = N
    · exact Or.inl e2'
    · rcases hb with e | e
      · exact Or.inl e
      · exact Or.inr ⟨by omega, by rw [go13 (by decide) (by decide), e1]; exact e⟩
