/-! garden: the model's whole reading -/
theorem rb_m {s m : ST} {V : Nat → Int32} {X N b : Nat} (hF : FR s m) (hT : MT m V X N) (hb : b < 6) (h6 : s 0 6 = nI (X + (4 + 5 * b + 1))) (h8 : s 0 8 = nI b) (hN : 4 + 5 * b + 1 ≤ N) : (∃ u r, F_X7_readBlock s (nI (X + N)) = some (0, u) ∧ FR u m ∧ u 0 6 = nI (X + (4 + 5 * b + r)) ∧ 1 ≤ r ∧ r ≤ 4 ∧ 4 + 5 * b + r ≤ N ∧ (∀ q, 1 ≤ q → q < r → Go V (4 + 5 * b + q)) ∧ Bad V N (4 + 5 * b + r)) ∨ (∃ u, F_X7_readBlock s (nI (X + N)) = some (1, u) ∧ FR u m ∧ u 0 6 = nI (X + (4 + 5 * (b + 1))) ∧ u 0 8 = nI (b + 1) ∧ u 0 7 = s 0 7 ∧ 4 + 5 * (b + 1) ≤ N ∧ (∀ q, 1 ≤ q → q < 5 → Go V (4 + 5 * b + q)) ∧ Blk u s V b) := by
  have hX := hT.1
  have e3 : (3 : Int32) * nI b = nI (3 * b) := show nI 3 * nI b = _ by rw [pk_mul]
  have no : F_X7_readBlock_J66 (nI (X + N)) (nI (3 * b)) s (-9) (nI (3 * b)) = some (0, st s 8 (3 * b) (-9)) := by
    unfold F_X7_readBlock_J66
    rw [ixN (show 3 * b < 18 by omega) (by decide), bs, rdE (show 3 * b < 18 by omega) (by decide) (show st s 8 (3 * b) (-9) 8 (3 * b) = -9 by rw [st_eq, upd_eq]) rfl, bs, if_pos (show (-9 : Int32) = -9 from rfl)]
  unfold F_X7_readBlock F_X7_readBlock_J21
  rw [h6, h8, e3]
  by_cases e : 4 + 5 * b + 1 = N
  · rw [if_pos (nI_le (by omega) (by omega)), if_neg (show ¬ (0 : Int32) = 98 by decide), if_neg (show ¬ (0 : Int32) = 110 by decide), if_neg (show ¬ (0 : Int32) = 104 by decide), no]
    exact Or.inl ⟨_, 1, rfl, hF.st8 _ _, h6, by decide, by decide, hN, fun q a1 a2 => by omega, Or.inl e⟩
  · have hr : s 3 (X + (4 + 5 * b + 1)) = V (4 + 5 * b + 1) := by rw [hF.1 3 (by decide) (by decide)]; exact hT.2 _ (by omega)
    rw [if_neg (nI_ge (by omega) (by omega)), rdE (show X + (4 + 5 * b + 1) < 240 by omega) (by decide) hr rfl, bs]
    have gg : (V (4 + 5 * b + 1) = 98 ∨ V (4 + 5 * b + 1) = 104 ∨ V (4 + 5 * b + 1) = 110) → Go V (4 + 5 * b + 1) := fun h => by rw [goB hb (by decide)]; exact h
    by_cases k1 : V (4 + 5 * b + 1) = 98
    · rw [if_pos k1]
      exact rbJ (kd := 0) hF hT hb h6 h8 (by omega) (by decide) (by rw [k1]; rfl) (gg (Or.inl k1))
    · rw [if_neg k1]
      by_cases k2 : V (4 + 5 * b + 1) = 110
      · rw [if_pos k2]
        exact rbJ (kd := 1) hF hT hb h6 h8 (by omega) (by decide) (by rw [k2]; rfl) (gg (Or.inr (Or.inr k2)))
      · rw [if_neg k2]
        by_cases k3 : V (4 + 5 * b + 1) = 104
        · rw [if_pos k3]
          exact rbJ (kd := 2) hF hT hb h6 h8 (by omega) (by decide) (by rw [k3]; rfl) (gg (Or.inr (Or.inl k3)))
        · rw [if_neg k3, no]
          refine Or.inl ⟨_, 1, rfl, hF.st8 _ _, h6, by decide, by decide, hN, fun q a1 a2 => by omega, Or.inr ⟨by omega, fun z => ?_⟩⟩
          rw [goB hb (by decide)] at z
          rcases (show V (4 + 5 * b + 1) = 98 ∨ V (4 + 5 * b + 1) = 104 ∨ V (4 + 5 * b + 1) = 110 from z) with z | z | z
          · exact k1 z
          · exact k3 z
          · exact k2 z
def BlkV (row : Nat → Int32) (V : Nat → Int32) (b : Nat) : Prop := ∃ kd a c e, kd < 3 ∧ a ≤ 7 ∧ c ≤ 7 ∧ 1 ≤ e ∧ e ≤ 4 ∧ F_X4_kindBy (V (4 + 5 * b + 1)) = some (nI kd) ∧ V (4 + 5 * b + 2) - 48 = nI a ∧ V (4 + 5 * b + 3) - 48 = nI c ∧ V (4 + 5 * b + 4) - 48 = nI e ∧ row (3 * b) = nI kd ∧ row (3 * b + 1) = nI (8 * a + c) ∧ row (3 * b + 2) = nI e
theorem rg_L {m : ST} {V : Nat → Int32} {X N : Nat} (hT : MT m V X N) (w : Int32) : ∀ n b (s : ST), b ≤ 6 → 6 - b < n → FR s m → s 0 6 = nI (X + (4 + 5 * b)) → s 0 8 = nI b → s 0 7 = w → 4 + 5 * b ≤ N → (∀ q, q < 4 + 5 * b → Go V q) → (∀ j, j < b → BlkV (s 8) V j) → (∃ u p, F_X7_readGarden_L25 (nI (X + N)) (fun s => F_X7_readGarden_J69 (nI (X + N)) s) n s = some (0, u) ∧ FR u m ∧ u 0 6 = nI (X + p) ∧ p ≤ N ∧ (∀ q, q < p → Go V q) ∧ Bad V N p ∧ (p = N → N ≤ 4 ∨ (N - 4) % 5 ≠ 0)) ∨ (∃ u b', F_X7_readGarden_L25 (nI (X + N)) (fun s => F_X7_readGarden_J69 (nI (X + N)) s) n s = some (1, u) ∧ FR u m ∧ 1 ≤ b' ∧ b' ≤ 6 ∧ N = 4 + 5 * b' ∧ (∀ q, q < N → Go V q) ∧ u 0 8 = nI b' ∧ u 0 7 = w ∧ ∀ j, j < b' → BlkV (u 8) V j) := by
  have hX := hT.1
  intro n
  induction n with
  | zero => intro b s _ h; omega
  | succ n ih =>
    intro b s hb hn hF h6 h8 h7 hN hg hB
    rw [F_X7_readGarden_L25.eq_2, h8, h6]
    have o2 : b < 6 → 6 - (b + 1) < n := fun h => by omega
    have out : 1 ≤ b → (b = 6 ∨ 4 + 5 * b = N) → (∃ u p, F_X7_readGarden_J69 (nI (X + N)) s = some (0, u) ∧ FR u m ∧ u 0 6 = nI (X + p) ∧ p ≤ N ∧ (∀ q, q < p → Go V q) ∧ Bad V N p ∧ (p = N → N ≤ 4 ∨ (N - 4) % 5 ≠ 0)) ∨ (∃ u b', F_X7_readGarden_J69 (nI (X + N)) s = some (1, u) ∧ FR u m ∧ 1 ≤ b' ∧ b' ≤ 6 ∧ N = 4 + 5 * b' ∧ (∀ q, q < N → Go V q) ∧ u 0 8 = nI b' ∧ u 0 7 = w ∧ ∀ j, j < b' → BlkV (u 8) V j) := by
      intro b1 hh
      unfold F_X7_readGarden_J69
      rw [h6]
      by_cases e : 4 + 5 * b = N
      · rw [if_pos (show nI (X + (4 + 5 * b)) = nI (X + N) by rw [e])]
        exact Or.inr ⟨s, b, rfl, hF, b1, hb, e.symm, fun q hq => hg q (by omega), h8, h7, hB⟩
      · rw [if_neg (nI_ne (show X + (4 + 5 * b) ≠ X + N by omega) (by omega) (by omega))]
        refine Or.inl ⟨s, 4 + 5 * b, rfl, hF, h6, hN, hg, Or.inr ⟨by omega, fun z => ?_⟩, fun z => absurd z e⟩
        have b6 : b = 6 := hh.resolve_right e
        subst b6
        unfold Go at z
        rw [if_neg (by decide), if_neg (by decide), if_neg (by decide)] at z
        exact z
    have main : b < 6 → (b = 0 ∨ 4 + 5 * b < N) → (∃ u p, F_X7_readGarden_J49 (nI (X + N)) (F_X7_readGarden_L25 (nI (X + N)) (fun s => F_X7_readGarden_J69 (nI (X + N)) s) n) (fun s => F_X7_readGarden_J69 (nI (X + N)) s) s = some (0, u) ∧ FR u m ∧ u 0 6 = nI (X + p) ∧ p ≤ N ∧ (∀ q, q < p → Go V q) ∧ Bad V N p ∧ (p = N → N ≤ 4 ∨ (N - 4) % 5 ≠ 0)) ∨ (∃ u b', F_X7_readGarden_J49 (nI (X + N)) (F_X7_readGarden_L25 (nI (X + N)) (fun s => F_X7_readGarden_J69 (nI (X + N)) s) n) (fun s => F_X7_readGarden_J69 (nI (X + N)) s) s = some (1, u) ∧ FR u m ∧ 1 ≤ b' ∧ b' ≤ 6 ∧ N = 4 + 5 * b' ∧ (∀ q, q < N → Go V q) ∧ u 0 8 = nI b' ∧ u 0 7 = w ∧ ∀ j, j < b' → BlkV (u 8) V j) := by
      intro b6 hh
      unfold F_X7_readGarden_J49
      by_cases sg : 4 + 5 * b < N ∧ V (4 + 5 * b) = 59
      · obtain ⟨s1, s2⟩ := sg
        have g0 : Go V (4 + 5 * b) := by
          have := goB (V := V) (r := 0) b6 (by decide)
          rw [Nat.add_zero] at this
          rw [this]
          exact s2
        rw [sign_y hF hT h6 s1 s2, b2s, if_neg n10]
        rcases rb_m (s := st s 0 6 (nI (X + (4 + 5 * b + 1)))) (hF.st6 (Or.inl rfl) _) hT b6 rfl h8 (by omega) with ⟨u, r, u1, u2, u3, u4, u5, u6, u7, u8⟩ | ⟨u, u1, u2, u3, u4, u5, u6, u7, u8⟩
        · rw [u1, b2s, if_pos (show (0 : Int32) = 0 from rfl)]
          refine Or.inl ⟨u, 4 + 5 * b + r, rfl, u2, u3, u6, fun q hq => ?_, u8, fun z => Or.inr (by omega)⟩
          by_cases q1 : q < 4 + 5 * b
          · exact hg q q1
          · by_cases q2 : q = 4 + 5 * b
            · rw [q2]; exact g0
            · have := u7 (q - (4 + 5 * b)) (by omega) (by omega)
              rw [show 4 + 5 * b + (q - (4 + 5 * b)) = q by omega] at this
              exact this
        · rw [u1, b2s, if_neg n10]
          obtain ⟨kd, a, c, e, y1, y2, y3, y4, y5, y6, y7, y8, y9, y10, y11, y12, y13⟩ := u8
          refine ih (b + 1) u b6 (o2 b6) u2 u3 u4 (u5.trans h7) u6 (fun q hq => ?_) (fun j hj => ?_)
          · by_cases q1 : q < 4 + 5 * b
            · exact hg q q1
            · by_cases q2 : q = 4 + 5 * b
              · rw [q2]; exact g0
              · have := u7 (q - (4 + 5 * b)) (by omega) (by omega)
                rw [show 4 + 5 * b + (q - (4 + 5 * b)) = q by omega] at this
                exact this
          · by_cases jb : j = b
            · subst jb
              exact ⟨kd, a, c, e, y1, y2, y3, y4, y5, y6, y7, y8, y9, y10, y11, y12⟩
            · obtain ⟨kd', a', c', e', w1, w2, w3, w4, w5, w6, w7, w8, w9, w10, w11, w12⟩ := hB j (by omega)
              exact ⟨kd', a', c', e', w1, w2, w3, w4, w5, w6, w7, w8, w9, (y13 _ (by omega)).trans w10, (y13 _ (by omega)).trans w11, (y13 _ (by omega)).trans w12⟩
      · have hb4 : 4 + 5 * b = N ∨ ¬ V (4 + 5 * b) = 59 := by
          by_cases e : 4 + 5 * b = N
          · exact Or.inl e
          · exact Or.inr (fun z => sg ⟨by omega, z⟩)
        rw [sign_n hF hT h6 hN hb4, b2s, if_pos (show (0 : Int32) = 0 from rfl)]
        refine Or.inl ⟨s, 4 + 5 * b, rfl, hF, h6, hN, hg, bad_of hN (hb4.imp id (fun z => ?_)), fun z => Or.inl (by omega)⟩
        have := goB (V := V) (r := 0) b6 (by decide)
        rw [Nat.add_zero] at this
        rw [this]
        exact z
    by_cases b0 : b = 0
    · rw [if_pos (show nI b = 0 by rw [b0]; rfl)]
      exact main (by omega) (Or.inl b0)
    · rw [if_neg (nI_ne0 (by omega) (by omega))]
      by_cases b6 : b = 6
      · rw [if_pos (show (6 : Int32) ≤ nI b by rw [b6]; decide)]
        exact out (by omega) (Or.inl b6)
      · rw [if_neg (show ¬ (6 : Int32) ≤ nI b from nI_ge (b := 6) (by omega) (by decide))]
        by_cases e : 4 + 5 * b = N
        · rw [if_pos (nI_le (by omega) (by omega))]
          exact out (by omega) (Or.inr e)
        · rw [if_neg (nI_ge (by omega) (by omega))]
          exact main (by omega) (Or.inr (by omega))
