/-! garden: a block's four signs -/
theorem goB {V : Nat → Int32} {b r : Nat} (hb : b < 6) (hr : r < 5) : Go V (4 + 5 * b + r) = (if r = 0 then V (4 + 5 * b + r) = 59 else if r = 1 then (V (4 + 5 * b + r) = 98 ∨ V (4 + 5 * b + r) = 104 ∨ V (4 + 5 * b + r) = 110) else if r = 4 then inD (V (4 + 5 * b + r)) 49 52 else inD (V (4 + 5 * b + r)) 48 55) := by
  unfold Go
  rw [if_neg (show ¬ 4 + 5 * b + r = 0 by omega), if_neg (show ¬ 4 + 5 * b + r < 4 by omega), if_pos (show 4 + 5 * b + r < 34 by omega), show (4 + 5 * b + r - 4) % 5 = r by omega]
/-- what a block's reading leaves -/
def Blk (u s : ST) (V : Nat → Int32) (b : Nat) : Prop := ∃ kd a c e, kd < 3 ∧ a ≤ 7 ∧ c ≤ 7 ∧ 1 ≤ e ∧ e ≤ 4 ∧ F_X4_kindBy (V (4 + 5 * b + 1)) = some (nI kd) ∧ V (4 + 5 * b + 2) - 48 = nI a ∧ V (4 + 5 * b + 3) - 48 = nI c ∧ V (4 + 5 * b + 4) - 48 = nI e ∧ u 8 (3 * b) = nI kd ∧ u 8 (3 * b + 1) = nI (8 * a + c) ∧ u 8 (3 * b + 2) = nI e ∧ ∀ j, j < 3 * b → u 8 j = s 8 j
theorem bad_of {V : Nat → Int32} {N p : Nat} (hp : p ≤ N) (h : p = N ∨ ¬ Go V p) : Bad V N p := by
  by_cases e : p = N
  · exact Or.inl e
  · rcases h with h | h
    · exact Or.inl h
    · exact Or.inr ⟨by omega, h⟩
theorem rbJ {s m : ST} {V : Nat → Int32} {X N b kd : Nat} (hF : FR s m) (hT : MT m V X N) (hb : b < 6) (h6 : s 0 6 = nI (X + (4 + 5 * b + 1))) (h8 : s 0 8 = nI b) (hN : 4 + 5 * b + 1 < N) (hk : kd < 3) (hkb : F_X4_kindBy (V (4 + 5 * b + 1)) = some (nI kd)) (gk1 : Go V (4 + 5 * b + 1)) : (∃ u r, F_X7_readBlock_J66 (nI (X + N)) (nI (3 * b)) s (nI kd) (nI (3 * b)) = some (0, u) ∧ FR u m ∧ u 0 6 = nI (X + (4 + 5 * b + r)) ∧ 1 ≤ r ∧ r ≤ 4 ∧ 4 + 5 * b + r ≤ N ∧ (∀ q, 1 ≤ q → q < r → Go V (4 + 5 * b + q)) ∧ Bad V N (4 + 5 * b + r)) ∨ (∃ u, F_X7_readBlock_J66 (nI (X + N)) (nI (3 * b)) s (nI kd) (nI (3 * b)) = some (1, u) ∧ FR u m ∧ u 0 6 = nI (X + (4 + 5 * (b + 1))) ∧ u 0 8 = nI (b + 1) ∧ u 0 7 = s 0 7 ∧ 4 + 5 * (b + 1) ≤ N ∧ (∀ q, 1 ≤ q → q < 5 → Go V (4 + 5 * b + q)) ∧ Blk u s V b) := by
  unfold F_X7_readBlock_J66
  have e07 : (48 : Int32) + 7 = nI (48 + 7) := by decide
  have e11 : (48 : Int32) + 1 = nI (48 + 1) := by decide
  have e14 : (48 : Int32) + 4 = nI (48 + 4) := by decide
  have i1 : nI (3 * b) + 1 = nI (3 * b + 1) := nI_1 _
  have i2 : nI (3 * b) + 2 = nI (3 * b + 2) := nI_add _ 2
  have w0 : st s 8 (3 * b) (nI kd) 8 (3 * b) = nI kd := by rw [st_eq, upd_eq]
  rw [ixN (show 3 * b < 18 by omega) (by decide), bs, rdE (show 3 * b < 18 by omega) (by decide) w0 rfl, bs, if_neg (n9 (by omega)), h6, nI_1, i1, i2]
  have F1 : FR (st (st s 8 (3 * b) (nI kd)) 0 6 (nI (X + (4 + 5 * b + 1) + 1))) m := (hF.st8 _ _).st6 (Or.inl rfl) _
  have p1 : st (st s 8 (3 * b) (nI kd)) 0 6 (nI (X + (4 + 5 * b + 1) + 1)) 0 6 = nI (X + (4 + 5 * b + 2)) := rfl
  by_cases b2 : 4 + 5 * b + 2 < N ∧ inD (V (4 + 5 * b + 2)) 48 (nI (48 + 7))
  · obtain ⟨n2, t2⟩ := b2
    have g2 : Go V (4 + 5 * b + 2) := by rw [goB hb (by decide)]; exact t2
    obtain ⟨a, _, a7, _, qa⟩ := inD_v (lo := 0) (hi := 7) (by decide) (by decide) t2
    rw [digit_y F1 hT p1 n2 (x2 := 0) (lo := 48) rfl e07 t2, b2s, qa, if_neg (n9 (by omega))]
    have F2 := F1.st6 (Or.inl rfl) (nI (X + (4 + 5 * b + 2 + 1)))
    have p2 : st (st (st s 8 (3 * b) (nI kd)) 0 6 (nI (X + (4 + 5 * b + 1) + 1))) 0 6 (nI (X + (4 + 5 * b + 2 + 1))) 0 6 = nI (X + (4 + 5 * b + 3)) := rfl
    by_cases b3 : 4 + 5 * b + 3 < N ∧ inD (V (4 + 5 * b + 3)) 48 (nI (48 + 7))
    · obtain ⟨n3, t3⟩ := b3
      have g3 : Go V (4 + 5 * b + 3) := by rw [goB hb (by decide)]; exact t3
      obtain ⟨c, _, c7, _, qc⟩ := inD_v (lo := 0) (hi := 7) (by decide) (by decide) t3
      have ac : (8 : Int32) * nI a + nI c = nI (8 * a + c) := show nI 8 * nI a + nI c = _ by rw [pk_mul, nI_add]
      rw [digit_y F2 hT p2 n3 (x2 := 0) (lo := 48) rfl e07 t3, b2s, qc, if_neg (n9 (by omega)), ixN (show 3 * b + 1 < 18 by omega) (by decide), bs, ac]
      have F3 := (F2.st6 (Or.inl rfl) (nI (X + (4 + 5 * b + 3 + 1)))).st8 (3 * b + 1) (nI (8 * a + c))
      have p3 : st (st (st (st (st s 8 (3 * b) (nI kd)) 0 6 (nI (X + (4 + 5 * b + 1) + 1))) 0 6 (nI (X + (4 + 5 * b + 2 + 1)))) 0 6 (nI (X + (4 + 5 * b + 3 + 1)))) 8 (3 * b + 1) (nI (8 * a + c)) 0 6 = nI (X + (4 + 5 * b + 4)) := rfl
      by_cases b4 : 4 + 5 * b + 4 < N ∧ inD (V (4 + 5 * b + 4)) (nI (48 + 1)) (nI (48 + 4))
      · obtain ⟨n4, t4⟩ := b4
        have g4 : Go V (4 + 5 * b + 4) := by rw [goB hb (by decide)]; exact t4
        obtain ⟨e, e1, e4, _, qe⟩ := inD_v (lo := 1) (hi := 4) (by decide) (by decide) t4
        rw [digit_y F3 hT p3 n4 e11 e14 t4, b2s, qe, ixN (show 3 * b + 2 < 18 by omega) (by decide), bs, rdE (show 3 * b + 2 < 18 by omega) (by decide) (show _ = nI e by rw [st_eq, upd_eq]) rfl, bs, if_neg (n9 (by omega))]
        refine Or.inr ⟨_, rfl, ((F3.st6 (Or.inl rfl) _).st8 _ _).st6 (Or.inr (Or.inr rfl)) _, rfl, ?_, rfl, by omega, fun q a1 a2 => ?_, ⟨kd, a, c, e, hk, a7, c7, e1, e4, hkb, qa, qc, qe, ?_, ?_, ?_, fun j hj => ?_⟩⟩
        · show s 0 8 + 1 = _
          rw [h8, nI_1]
        · rcases (show q = 1 ∨ q = 2 ∨ q = 3 ∨ q = 4 by omega) with z | z | z | z
          · rw [z]; exact gk1
          · rw [z]; exact g2
          · rw [z]; exact g3
          · rw [z]; exact g4
        · rw [st_ne (by decide), st_eq, upd_ne (by omega), st_ne (by decide), st_eq, upd_ne (by omega), st_ne (by decide), st_ne (by decide), st_ne (by decide), st_eq, upd_eq]
        · rw [st_ne (by decide), st_eq, upd_ne (by omega), st_ne (by decide), st_eq, upd_eq]
        · rw [st_ne (by decide), st_eq, upd_eq]
        · rw [st_ne (by decide), st_eq, upd_ne (by omega), st_ne (by decide), st_eq, upd_ne (by omega), st_ne (by decide), st_ne (by decide), st_ne (by decide), st_eq, upd_ne (by omega)]
      · have hb4 : 4 + 5 * b + 4 = N ∨ ¬ inD (V (4 + 5 * b + 4)) (nI (48 + 1)) (nI (48 + 4)) := by
          by_cases e : 4 + 5 * b + 4 = N
          · exact Or.inl e
          · exact Or.inr (fun z => b4 ⟨by omega, z⟩)
        rw [digit_n F3 hT p3 (by omega) e11 e14 hb4, b2s, ixN (show 3 * b + 2 < 18 by omega) (by decide), bs, rdE (show 3 * b + 2 < 18 by omega) (by decide) (show _ = (-9 : Int32) by rw [st_eq, upd_eq]) rfl, bs, if_pos (show (-9 : Int32) = -9 from rfl)]
        refine Or.inl ⟨_, 4, rfl, (F3.st8 _ _).st6 (Or.inr (Or.inr rfl)) _, rfl, by decide, by decide, by omega, fun q a1 a2 => ?_, bad_of (by omega) (hb4.imp id (fun z => by rw [goB hb (by decide)]; exact z))⟩
        rcases (show q = 1 ∨ q = 2 ∨ q = 3 by omega) with z | z | z
        · rw [z]; exact gk1
        · rw [z]; exact g2
        · rw [z]; exact g3
    · have hb3 : 4 + 5 * b + 3 = N ∨ ¬ inD (V (4 + 5 * b + 3)) 48 (nI (48 + 7)) := by
        by_cases e : 4 + 5 * b + 3 = N
        · exact Or.inl e
        · exact Or.inr (fun z => b3 ⟨by omega, z⟩)
      rw [digit_n F2 hT p2 (by omega) (x2 := 0) (lo := 48) rfl e07 hb3, b2s, if_pos (show (-9 : Int32) = -9 from rfl)]
      refine Or.inl ⟨_, 3, rfl, F2, rfl, by decide, by decide, by omega, fun q a1 a2 => ?_, bad_of (by omega) (hb3.imp id (fun z => by rw [goB hb (by decide)]; exact z))⟩
      rcases (show q = 1 ∨ q = 2 by omega) with z | z
      · rw [z]; exact gk1
      · rw [z]; exact g2
  · have hb2 : 4 + 5 * b + 2 = N ∨ ¬ inD (V (4 + 5 * b + 2)) 48 (nI (48 + 7)) := by
      by_cases e : 4 + 5 * b + 2 = N
      · exact Or.inl e
      · exact Or.inr (fun z => b2 ⟨by omega, z⟩)
    rw [digit_n F1 hT p1 (by omega) (x2 := 0) (lo := 48) rfl e07 hb2, b2s, if_pos (show (-9 : Int32) = -9 from rfl)]
    refine Or.inl ⟨_, 2, rfl, F1, rfl, by decide, by decide, by omega, fun q a1 a2 => ?_, bad_of (by omega) (hb2.imp id (fun z => by rw [goB hb (by decide)]; exact z))⟩
    rw [show q = 1 by omega]
    exact gk1
