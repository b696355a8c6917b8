/-! garden: the model's readers -/
def FR (s m : ST) : Prop := (∀ p, p ≠ 0 → p ≠ 8 → s p = m p) ∧ ∀ j, j ≠ 6 → j ≠ 7 → j ≠ 8 → s 0 j = m 0 j
theorem FR.st6 {s m : ST} (h : FR s m) {j : Nat} (hj : j = 6 ∨ j = 7 ∨ j = 8) (x : Int32) : FR (st s 0 j x) m := by
  refine ⟨fun p h0 h8 => by rw [st_ne h0]; exact h.1 p h0 h8, fun i h6 h7 h8 => ?_⟩
  rw [st_eq, upd_ne (by omega)]
  exact h.2 i h6 h7 h8
theorem FR.st8 {s m : ST} (h : FR s m) (j : Nat) (x : Int32) : FR (st s 8 j x) m := by
  refine ⟨fun p h0 h8 => by rw [st_ne h8]; exact h.1 p h0 h8, fun i h6 h7 h8 => ?_⟩
  rw [st_ne (by decide)]
  exact h.2 i h6 h7 h8
/-- the text of the model -/
def MT (m : ST) (V : Nat → Int32) (X N : Nat) : Prop := X + N ≤ 240 ∧ ∀ p, p < N → m 3 (X + p) = V p
theorem win_D {c lo hi : Int32} (h : inD c lo hi) : F_X7_within c lo hi = some 1 := by
  unfold F_X7_within
  rw [if_neg h.1, if_neg h.2]
theorem win_nD {c lo hi : Int32} (h : ¬ inD c lo hi) : F_X7_within c lo hi = some 0 := by
  unfold F_X7_within
  by_cases h1 : c < lo
  · rw [if_pos h1]
  · rw [if_neg h1, if_pos (Classical.byContradiction fun z => h ⟨h1, z⟩)]
theorem digit_y {s m : ST} {V : Nat → Int32} {X N p : Nat} (hF : FR s m) (hT : MT m V X N) (h6 : s 0 6 = nI (X + p)) (hp : p < N) {x2 x3 lo hi : Int32} (e2 : 48 + x2 = lo) (e3 : 48 + x3 = hi) (hd : inD (V p) lo hi) : F_X7_digit s (nI (X + N)) x2 x3 = some (V p - 48, st s 0 6 (nI (X + (p + 1)))) := by
  have hX := hT.1
  have hr : s 3 (X + p) = V p := by rw [hF.1 3 (by decide) (by decide)]; exact hT.2 p hp
  unfold F_X7_digit
  rw [h6, if_neg (nI_ge (by omega) (by omega)), rdE (show X + p < 240 by omega) (by decide) hr rfl, bs, e2, e3, win_D hd, bs, if_neg n10, nI_1, nI_pred, rdE (show X + p < 240 by omega) (by decide) hr rfl, bs]
  rfl
theorem digit_n {s m : ST} {V : Nat → Int32} {X N p : Nat} (hF : FR s m) (hT : MT m V X N) (h6 : s 0 6 = nI (X + p)) (hp : p ≤ N) {x2 x3 lo hi : Int32} (e2 : 48 + x2 = lo) (e3 : 48 + x3 = hi) (hd : p = N ∨ ¬ inD (V p) lo hi) : F_X7_digit s (nI (X + N)) x2 x3 = some (-9, s) := by
  have hX := hT.1
  unfold F_X7_digit
  rw [h6]
  by_cases e : p = N
  · subst e
    rw [if_pos (nI_le (Nat.le_refl _) (by omega))]
  · have hr : s 3 (X + p) = V p := by rw [hF.1 3 (by decide) (by decide)]; exact hT.2 p (by omega)
    rcases hd with hd | hd
    · exact absurd hd e
    · rw [if_neg (nI_ge (by omega) (by omega)), rdE (show X + p < 240 by omega) (by decide) hr rfl, bs, e2, e3, win_nD hd, bs, if_pos (show (0 : Int32) = 0 from rfl)]
theorem sign_y {s m : ST} {V : Nat → Int32} {X N p : Nat} (hF : FR s m) (hT : MT m V X N) (h6 : s 0 6 = nI (X + p)) (hp : p < N) {x : Int32} (hd : V p = x) : F_X7_isSign s (nI (X + N)) x = some (1, st s 0 6 (nI (X + (p + 1)))) := by
  have hX := hT.1
  have hr : s 3 (X + p) = V p := by rw [hF.1 3 (by decide) (by decide)]; exact hT.2 p hp
  unfold F_X7_isSign
  rw [h6, if_neg (nI_ge (by omega) (by omega)), rdE (show X + p < 240 by omega) (by decide) hr rfl, bs, if_pos hd, nI_1]
  rfl
theorem sign_n {s m : ST} {V : Nat → Int32} {X N p : Nat} (hF : FR s m) (hT : MT m V X N) (h6 : s 0 6 = nI (X + p)) (hp : p ≤ N) {x : Int32} (hd : p = N ∨ ¬ V p = x) : F_X7_isSign s (nI (X + N)) x = some (0, s) := by
  have hX := hT.1
  unfold F_X7_isSign
  rw [h6]
  by_cases e : p = N
  · subst e
    rw [if_pos (nI_le (Nat.le_refl _) (by omega))]
  · have hr : s 3 (X + p) = V p := by rw [hF.1 3 (by decide) (by decide)]; exact hT.2 p (by omega)
    rcases hd with hd | hd
    · exact absurd hd e
    · rw [if_neg (nI_ge (by omega) (by omega)), rdE (show X + p < 240 by omega) (by decide) hr rfl, bs, if_neg hd]
theorem inD_v {c : Int32} {lo hi : Nat} (hl : lo ≤ 9) (hh : hi ≤ 9) (h : inD c (nI (48 + lo)) (nI (48 + hi))) : ∃ d, lo ≤ d ∧ d ≤ hi ∧ c = nI (48 + d) ∧ c - 48 = nI d := by
  obtain ⟨h1, h2⟩ := h
  have n0 : ¬ c < 0 := fun z => h1 (by
    have q1 := Int32.lt_iff_toInt_lt.mp z
    have q0 : (0 : Int32).toInt = 0 := rfl
    apply Int32.lt_iff_toInt_lt.mpr
    rw [nI_toInt (by omega)]
    omega)
  obtain ⟨j, hj, rfl⟩ := nI_of n0
  have a2 : ¬ 48 + hi < j := fun z => h2 (nI_lt z hj)
  have a1 : ¬ j < 48 + lo := fun z => h1 (nI_lt z (by omega))
  refine ⟨j - 48, by omega, by omega, by rw [show 48 + (j - 48) = j by omega], ?_⟩
  rw [show (48 : Int32) = nI 48 from rfl, pk_sub (by omega)]
