/-! years: what refuses a pair -/
def PP (c : Nat) (A B : Int32) : Prop := (B = 0 ∧ ∃ a, a ≤ 99 ∧ A = nI a) ∨ (∃ j, j < c ∧ A = nI j ∧ (B = 1 ∨ B = 2 ∨ ∃ e, e < 6 ∧ B = nI (10 + e)))
theorem act_t : ∀ b, b < 16 → F_X5_isAct (nI b) = some (if b ≤ 2 ∨ 10 ≤ b then 1 else 0) ∧ F_X7_within (nI b) 0 2 = some (if b ≤ 2 then 1 else 0) ∧ F_X7_within (nI b) 10 15 = some (if 10 ≤ b then 1 else 0) ∧ F_X5_tells (nI b) = some (if b ≤ 4 ∨ 10 ≤ b then 1 else 0) ∧ F_X7_within (nI b) 0 4 = some (if b ≤ 4 then 1 else 0) := by decide +kernel
theorem act_n {B : Int32} (h : B < 0 ∨ (¬ B < 0 ∧ nI 16 ≤ B)) : F_X5_isAct B = some 0 ∧ F_X7_within B 0 2 = some 0 ∧ F_X7_within B 10 15 = some 0 ∧ F_X5_tells B = some 0 ∧ F_X7_within B 0 4 = some 0 := by
  have z0 : (0 : Int32).toInt = 0 := rfl
  have z2 : (2 : Int32).toInt = 2 := rfl
  have z4 : (4 : Int32).toInt = 4 := rfl
  have z10 : (10 : Int32).toInt = 10 := rfl
  have z15 : (15 : Int32).toInt = 15 := rfl
  have z16 : (16 : Int32).toInt = 16 := rfl
  unfold F_X5_isAct F_X5_isAct_J9 F_X5_isStroke F_X7_within F_X5_tells F_X5_tells_J9
  rcases h with h | ⟨h, h3⟩
  · have b := Int32.lt_iff_toInt_lt.mp h
    have a10 : B < 10 := Int32.lt_iff_toInt_lt.mpr (by omega)
    simp only [h, a10, if_true]
    refine ⟨?_, ?_, ?_, ?_, ?_⟩ <;> first | rfl | trivial
  · have b : (16 : Int32).toInt ≤ B.toInt := Int32.le_iff_toInt_le.mp h3
    have n10a : ¬ B < 10 := fun z => by have := Int32.lt_iff_toInt_lt.mp z; omega
    have n2 : ¬ B ≤ 2 := fun z => by have := Int32.le_iff_toInt_le.mp z; omega
    have n4 : ¬ B ≤ 4 := fun z => by have := Int32.le_iff_toInt_le.mp z; omega
    have y2 : 2 < B := Int32.lt_iff_toInt_lt.mpr (by omega)
    have y4 : 4 < B := Int32.lt_iff_toInt_lt.mpr (by omega)
    have y15 : 15 < B := Int32.lt_iff_toInt_lt.mpr (by omega)
    have y16 : 16 ≤ B := h3
    simp only [h, n10a, n2, n4, y2, y4, y15, y16, if_true, if_false]
    refine ⟨rfl, ?_, ?_, ?_, ?_⟩ <;> first | rfl | trivial
theorem ref1 {t0 t1 m : ST} {c : Nat} (hc : c ≤ 6) (h0 : t0 0 0 = nI c) (hm : m 0 3 = nI c) (x2 x3 x4 A B : Int32) (g k : Int32 → Option Int32) : ∃ r, F_X7_refusesPair m A B = some r ∧ (r = 0 → PP c A B) ∧ ((F_X5_isAct B).bind fun v37 =>
    if v37 = 0 then
      some (-2)
    else
    if B = 0 then
      if A < 0 then
        some (-2)
      else
      if A ≤ 99 then
        F_X5_refusalOfPairs_J63 t0 t1 x2 x3 g k x4 A B
      else
      some (-2)
    else
    F_X5_refusalOfPairs_J63 t0 t1 x2 x3 g k x4 A B) = (if r = 0 then g (x4 + 1) else some r) := by
  have e2 : ¬ (-2 : Int32) = 0 := by decide
  have e1 : ¬ (-1 : Int32) = 0 := by decide
  unfold F_X7_refusesPair
  rcases rng B 16 (by decide) with ⟨b, hb, rfl⟩ | h
  · obtain ⟨q1, q2, q3, -⟩ := act_t b hb
    rw [q1, q2, q3, bs, bs, bs]
    by_cases hg : b ≤ 2 ∨ 10 ≤ b
    · have md : (if (if b ≤ 2 then (1 : Int32) else 0) = 0 then (if (if 10 ≤ b then (1 : Int32) else 0) = 0 then some (-2) else F_X7_refusesPair_J20 m A (nI b)) else F_X7_refusesPair_J20 m A (nI b)) = F_X7_refusesPair_J20 m A (nI b) := by
        by_cases hb2 : b ≤ 2
        · rw [if_pos hb2, if_neg n10]
        · rw [if_neg hb2, if_pos rfl, if_pos (show 10 ≤ b by omega), if_neg n10]
      rw [md, if_pos hg, if_neg n10]
      unfold F_X7_refusesPair_J20 F_X5_refusalOfPairs_J63 F_X7_refusesPair_J37
      by_cases hb0 : b = 0
      · subst hb0
        simp only [nI_0, eq_self, if_true]
        rcases rng A 100 (by decide) with ⟨a, ha, rfl⟩ | h
        · rw [if_neg (nI_pos (by omega)), if_pos (show nI a ≤ 99 from nI_le (b := 99) (by omega) (by decide)), win_y (lo := 0) (hi := 99) (j := a) (a := 0) (b := 99) rfl (by omega) (by omega) (by decide) rfl rfl, bs, if_neg n10]
          exact ⟨0, rfl, fun _ => Or.inl ⟨rfl, a, by omega, rfl⟩, by rw [if_pos (show (0 : Int32) = 0 from rfl)]⟩
        · refine ⟨-2, ?_, fun z => absurd z e2, ?_⟩
          · rw [win_n (n := 100) (hi := 99) (by decide) (by decide) rfl h]
            rfl
          · rw [if_neg e2]
            rcases h with h | ⟨h, h3⟩
            · rw [if_pos h]
            · rw [if_neg h, if_neg (fun z => by
                have z1 := Int32.le_iff_toInt_le.mp z
                have z2 := Int32.le_iff_toInt_le.mp h3
                have z3 : (nI 100).toInt = 100 := rfl
                have z4 : (99 : Int32).toInt = 99 := rfl
                omega)]
      · have nb0 : ¬ nI b = 0 := nI_ne0 (by omega) (by omega)
        rw [if_neg nb0, if_neg nb0, if_neg nb0]
        rcases rng A c (by omega) with ⟨j, hj, rfl⟩ | h
        · rw [blk_y hm hc hj, has_y h0 hc hj, bs, bs, if_neg n10, if_neg n10]
          refine ⟨0, rfl, fun _ => Or.inr ⟨j, hj, rfl, ?_⟩, by rw [if_neg nb0, if_pos (show (0 : Int32) = 0 from rfl)]⟩
          rcases (show b = 1 ∨ b = 2 ∨ 10 ≤ b by omega) with e | e | e
          · subst e; exact Or.inl rfl
          · subst e; exact Or.inr (Or.inl rfl)
          · exact Or.inr (Or.inr ⟨b - 10, by omega, by rw [show 10 + (b - 10) = b by omega]⟩)
        · rw [blk_n hm h, has_n h0 h]
          exact ⟨-1, rfl, fun z => absurd z e1, by rw [if_neg nb0, if_neg e1]; rfl⟩
    · rw [if_neg hg, if_neg (show ¬ b ≤ 2 by omega), if_neg (show ¬ 10 ≤ b by omega)]
      exact ⟨-2, rfl, fun z => absurd z e2, by rw [if_neg e2]; rfl⟩
  · obtain ⟨q1, q2, q3, -⟩ := act_n h
    rw [q1, q2, q3]
    exact ⟨-2, rfl, fun z => absurd z e2, by rw [if_neg e2]; rfl⟩
theorem ref_L {t0 t1 m : ST} {A B : Nat → Int32} {c N i ln X : Nat} (hc : c ≤ 6) (h0 : t0 0 0 = nI c) (hm : m 0 3 = nI c) (hN : N ≤ 20) (h2 : t1 0 2 = nI ln) (hl : ln ≤ 60) (hi : i + 2 * N ≤ ln) (hv : ∀ j, j < N → t1 1 (i + 2 * j) = A j ∧ t1 1 (i + 2 * j + 1) = B j) (hX : X + 2 * N ≤ 240) (hv2 : ∀ j, j < N → m 3 (X + 2 * j) = A j ∧ m 3 (X + 2 * j + 1) = B j) (x1 x2 x3 x5 : Int32) (kc : Int32 → Option Int32) (km : Int32 → Option (Int32 × ST)) : ∀ n q, q ≤ N → N - q < n → ∃ r, F_X5_refusalOfPairs_L3 t0 t1 (nI i) (nI N) kc n (nI q) = (if r = 0 then kc (nI N) else some r) ∧ F_X7_years_L103 x1 x2 x3 (nI N) x5 (nI X) m km n (nI q) = (if r = 0 then km (nI N) else some (r, m)) ∧ (r = 0 → ∀ j, q ≤ j → j < N → PP c (A j) (B j)) := by
  intro n
  induction n with
  | zero => intro q _ h; omega
  | succ n ih =>
    intro q hq hn
    rw [F_X5_refusalOfPairs_L3.eq_2, F_X7_years_L103.eq_2]
    by_cases h : q = N
    · subst h
      rw [if_pos (nI_le (Nat.le_refl _) (by omega)), if_pos (nI_le (Nat.le_refl _) (by omega))]
      exact ⟨0, by rw [if_pos rfl], by rw [if_pos rfl], fun _ j h1 h2 => by omega⟩
    · obtain ⟨a1, a2⟩ := hv q (by omega)
      obtain ⟨b1, b2⟩ := hv2 q (by omega)
      have dbl : (2 : Int32) * nI q = nI (2 * q) := show nI 2 * nI q = _ by rw [pk_mul]
      rw [if_neg (nI_ge (by omega) (by omega)), if_neg (nI_ge (by omega) (by omega)), dbl, nI_add, nI_add, nI_1, nI_1, at_c h2 hl (by omega) a1, bs, at_c h2 hl (by omega) a2, bs, rdE (show X + 2 * q < 240 by omega) (by decide) b1 rfl, bs, rdE (show X + 2 * q + 1 < 240 by omega) (by decide) b2 rfl, bs]
      obtain ⟨r, r1, r2, r3⟩ := ref1 (t0 := t0) (t1 := t1) (m := m) hc h0 hm (nI i) (nI N) (nI q) (A q) (B q) (F_X5_refusalOfPairs_L3 t0 t1 (nI i) (nI N) kc n) kc
      rw [r3, r1, bs]
      by_cases hr : r = 0
      · obtain ⟨r', s1, s2, s3⟩ := ih (q + 1) (by omega) (by omega)
        rw [if_pos hr, if_pos hr, nI_1, s1, s2]
        refine ⟨r', rfl, rfl, fun z j h1 h2 => ?_⟩
        by_cases e : j = q
        · subst e; exact r2 hr
        · exact s3 z j (by omega) h2
      · rw [if_neg hr, if_neg hr]
        exact ⟨r, by rw [if_neg hr], by rw [if_neg hr], fun z => absurd z hr⟩
