/-! cells of sheets -/
theorem Rel.sh {s m : ST} (h : Rel s m) : ∃ (a : AS) (b : ST), AOk a ∧ CRel s a b ∧ MRel m a b ∧ ∀ k, k < 4 → SRel (sb s (20 + 2 * k)) (a 8 k) (a 9 k) (b (1 + k)) ∧ a 8 k ≤ 3 ∧ a 9 k ≤ 60 ∧ m 1 k = sc (a 8 k) ∧ (a 8 k ≠ 0 → m 2 k = nI (a 9 k)) ∧ ∀ j, j < 60 → m 3 (60 * k + j) = b (1 + k) j := by
  obtain ⟨a, b, ok, hc, hm⟩ := h
  exact ⟨a, b, ok, hc, hm, fun k hk => ⟨hc.2.2.2.2.2 k hk, (ok.2.2.2.2.2.2.2 k hk).1, (ok.2.2.2.2.2.2.2 k hk).2, (hm.2.2.2.2.2 k hk).1, (hm.2.2.2.2.2 k hk).2.1, (hm.2.2.2.2.2 k hk).2.2⟩⟩
/-- the fault is set last, or first: the same -/
theorem st_gr {s u : ST} {k : Nat} {x : Int32} : st (gr s (20 + 2 * k) 2 u) 0 1 x = gr (st s 0 1 x) (20 + 2 * k) 2 u := by
  funext i
  by_cases h0 : i = 0
  · subst h0; rw [st_eq, gr_ne (by omega), gr_ne (by omega), st_eq]
  · rw [st_ne h0]
    by_cases hr : 20 + 2 * k ≤ i ∧ i < 20 + 2 * k + 2
    · rw [gr_eq hr, gr_eq hr]
    · rw [gr_ne hr, gr_ne hr, st_ne h0]
def cutv (so : Nat) (x : Int32) : Int32 := if so = 1 then x.toInt8.toInt32 else if so = 2 then x.toInt16.toInt32 else x
theorem cut_c {t : ST} {so : Nat} (h : t 0 1 = nI (so - 1)) (h0 : so ≠ 0) (h3 : so ≤ 3) (x : Int32) : F_X3_cut t x = some (cutv so x) := by
  unfold F_X3_cut cutv
  rw [h]
  rcases (show so = 1 ∨ so = 2 ∨ so = 3 by omega) with rfl | rfl | rfl
  · rfl
  · rfl
  · rfl
theorem in_len {x : Int32} {ln : Nat} (hl : ln ≤ 60) (h : x < 0 ∨ (¬ x < 0 ∧ nI ln ≤ x)) : F_X7_within x 0 (nI ln - 1) = some 0 := by
  by_cases h0 : ln = 0
  · subst h0
    unfold F_X7_within
    rcases h with h | ⟨h1, h2⟩
    · rw [if_pos h]
    · rw [if_neg h1, if_pos]
      refine Int32.lt_iff_toInt_lt.mpr ?_
      have z2 := Int32.le_iff_toInt_le.mp h2
      have z3 : (nI 0).toInt = 0 := rfl
      have z4 : (nI 0 - 1).toInt = -1 := rfl
      omega
  · exact win_n (n := ln) (by omega) (by omega) (by rw [show (1 : Int32) = nI 1 from rfl, pk_sub (by omega)]) h
theorem in_len_y {i ln : Nat} (hl : ln ≤ 60) (h : i < ln) : F_X7_within (nI i) 0 (nI ln - 1) = some 1 := win_y (j := i) (a := 0) (b := ln - 1) rfl (by omega) (by omega) (by omega) rfl (by rw [show (1 : Int32) = nI 1 from rfl, pk_sub (by omega)])
theorem reach_y {t : ST} {ln i n : Nat} (h : t 0 2 = nI ln) (hl : ln ≤ 60) (hi : i + n ≤ ln) : F_X3_reaches t (nI i) (nI n) = some 1 := by
  unfold F_X3_reaches
  rw [if_neg (nI_pos (by omega)), h, if_neg (nI_nlt (by omega) (by omega)), if_neg (nI_pos (by omega)), pk_sub (by omega), if_neg (nI_nlt (by omega) (by omega))]
theorem reach_1n {t : ST} {ln : Nat} {x : Int32} (h : t 0 2 = nI ln) (hl : ln ≤ 60) (hx : x < 0 ∨ (¬ x < 0 ∧ nI ln ≤ x)) : F_X3_reaches t x 1 = some 0 := by
  unfold F_X3_reaches
  rcases hx with hx | ⟨h1, h2⟩
  · rw [if_pos hx]
  · rw [if_neg h1, h]
    by_cases h3 : nI ln < x
    · rw [if_pos h3]
    · rw [if_neg h3, if_neg (show ¬ (1 : Int32) < 0 by decide)]
      have e : x = nI ln := Int32.le_antisymm (Int32.not_lt.mp h3) h2
      rw [e, pk_sub (Nat.le_refl _), Nat.sub_self, if_pos (by decide)]
theorem eq_put {s1 m1 : ST} (hR : Rel s1 m1) (x1 x2 x3 : Int32) : ∃ (r : Int32) (s2 : ST) (m2 : ST), F_X6_put s1 x1 x2 x3 = some (r, s2) ∧ F_X7_put m1 x1 x2 x3 = some (r, m2) ∧ Rel s2 m2 := by
  obtain ⟨a, b, ok, hc, hm, hS⟩ := (hR.fault 0).sh
  unfold F_X6_put F_X7_put F_X6_withoutFault F_X6_withFault F_X7_fails F_X3_write
  rcases rng x1 4 (by decide) with ⟨k, hk, rfl⟩ | h
  · obtain ⟨⟨h1, h2, h3⟩, o8, o9, g1, g2, g3⟩ := hS k hk
    have h1 : s1 (20 + 2 * k) 0 = (if a 8 k = 0 then 0 else 1) := by
      have : st s1 0 1 0 (20 + 2 * k + 0) 0 = (if a 8 k = 0 then 0 else 1) := h1
      rw [st_ne (by omega)] at this
      exact this
    have e20 : sb (st s1 0 1 0) (20 + 2 * k) 0 = sb s1 (20 + 2 * k) 0 := st_ne (by omega)
    rw [(sht_y hk).1, (sht_y hk).2, bs, bs, if_neg n10, if_neg n10, ixN hk (by decide), bs]
    have q1 : rd 4 (m1 1) (nI k) = some (sc (a 8 k)) := rdE hk (by decide) g1 rfl
    rw [q1, bs, h1]
    by_cases h0 : a 8 k = 0
    · rw [h0, if_pos rfl, if_pos rfl, if_pos (by decide)]
      refine ⟨_, _, _, rfl, rfl, ?_⟩
      rw [st_st]
      exact hR.fault 1
    · rw [if_neg h0, if_neg n10, if_neg (sc_ne _ o8 h0)]
      have q2 : rd 4 (m1 2) (nI k) = some (nI (a 9 k)) := rdE hk (by decide) (g2 h0) rfl
      obtain ⟨f1, f2⟩ := h2 h0
      rw [e20] at f1 f2
      rw [q2, bs]
      rcases rng x2 (a 9 k) (by omega) with ⟨i, hi, rfl⟩ | hx
      · rw [in_len_y o9 hi, bs, if_neg n10, show F_X3_reaches (sb s1 (20 + 2 * k)) (nI i) 1 = some 1 from reach_y (n := 1) f2 o9 (by omega), bs, if_neg n10, if_neg (nI_pos (by omega)), f2, if_neg (nI_ge hi (by omega)), cut_c f1 h0 o8, bs, ixN (n := 60) (by omega) (by decide), bs, bs, b2s]
        have hix : ix 240 (60 * nI k + nI i) = some (60 * k + i) := ixE (by omega) (by decide) (h60 k i)
        have hM : ∃ y : Int32, y = cutv (a 8 k) x3 ∧ (rd 4 (m1 1) (nI k)).bind (fun v68 => if v68 = 0 then (ix 240 (60 * nI k + nI i)).bind fun k93 => some (1, (st (st m1 0 0 0) 3 k93 x3.toInt8.toInt32)) else (rd 4 (m1 1) (nI k)).bind fun v82 => if v82 = 1 then (ix 240 (60 * nI k + nI i)).bind fun k93 => some (1, (st (st m1 0 0 0) 3 k93 x3.toInt16.toInt32)) else (ix 240 (60 * nI k + nI i)).bind fun k93 => some (1, (st (st m1 0 0 0) 3 k93 x3))) = some ((1 : Int32), st (st m1 0 0 0) 3 (60 * k + i) y) := by
          refine ⟨_, rfl, ?_⟩
          rw [q1, hix, sc_s h0]
          unfold cutv
          rcases (show a 8 k = 1 ∨ a 8 k = 2 ∨ a 8 k = 3 by omega) with e | e | e
          · rw [e]; rfl
          · rw [e]; rfl
          · rw [e]; rfl
        obtain ⟨y, hy, hM⟩ := hM
        rw [q1] at hM
        refine ⟨1, _, _, rfl, hM, ?_⟩
        rw [st_gr, hy]
        refine sh_rel ok hc hm hk (so := a 8 k) (ln := a 9 k) (ce := upd (b (1 + k)) i (cutv (a 8 k) x3)) o8 o9 ⟨by show s1 (20 + 2 * k) 0 = _; exact h1, fun _ => ⟨f1, f2⟩, fun j hj => ?_⟩ (fun j _ => rfl) (fun p hp => st_ne (by omega)) (fun j hj hjk => ⟨rfl, rfl, fun p hp => ?_⟩) g1 g2 (fun j hj => ?_)
        · show upd (sb s1 (20 + 2 * k) 1) i (cutv (a 8 k) x3) j = _
          have h3' : sb s1 (20 + 2 * k) 1 j = b (1 + k) j := by
            have := h3 j hj
            rw [show sb (st s1 0 1 0) (20 + 2 * k) 1 = sb s1 (20 + 2 * k) 1 from st_ne (by omega)] at this
            exact this
          unfold upd
          by_cases e : j = i
          · rw [if_pos e, if_pos e]
          · rw [if_neg e, if_neg e]; exact h3'
        · rw [st_eq, upd_ne (by omega)]
        · rw [st_eq]
          by_cases e : j = i
          · subst e; rw [upd_eq, upd_eq]
          · rw [upd_ne (by omega), upd_ne e]; exact g3 j hj
      · rw [in_len o9 hx, reach_1n f2 o9 hx]
        refine ⟨_, _, _, rfl, rfl, ?_⟩
        rw [st_st]
        exact hR.fault 3
  · rw [(sht_n h).1, (sht_n h).2]
    exact ⟨-1, _, _, rfl, rfl, hR.fault 0⟩
theorem at_c {t : ST} {ln i : Nat} {v : Int32} (h : t 0 2 = nI ln) (hl : ln ≤ 60) (hi : i < ln) (hv : t 1 i = v) : F_X3_at t (nI i) = some v := by
  unfold F_X3_at
  rw [if_neg (nI_pos (by omega)), h, if_neg (nI_ge hi (by omega)), rdE (by omega) (by decide) hv rfl]
  rfl
theorem eq_cell {s1 m1 : ST} (hR : Rel s1 m1) (x1 x2 x3 : Int32) : ∃ (r : Int64) (s2 : ST) (m2 : ST), F_X6_cell s1 x1 x2 x3 = some (r, s2) ∧ F_X7_cell m1 x1 x2 x3 = some (r, m2) ∧ Rel s2 m2 := by
  obtain ⟨a, b, ok, hc, hm, hS⟩ := hR.sh
  unfold F_X6_cell F_X7_cell F_X7_cell_J50 F_X7_lost
  rcases rng x1 4 (by decide) with ⟨k, hk, rfl⟩ | h
  · obtain ⟨⟨h1, h2, h3⟩, o8, o9, g1, g2, g3⟩ := hS k hk
    rw [(sht_y hk).1, (sht_y hk).2, bs, bs, if_neg n10, if_neg n10]
    rcases rng x3 3 (by decide) with ⟨l, hl, rfl⟩ | h3l
    · rw [(lan_y hl).1, (lan_y hl).2, bs, bs, if_neg n10, if_neg n10, ixN hk (by decide), bs]
      have q1 : rd 4 (m1 1) (nI k) = some (sc (a 8 k)) := rdE hk (by decide) g1 rfl
      have q1' : rd 4 (st m1 0 0 0 1) (nI k) = some (sc (a 8 k)) := q1
      have e0 : sb (st s1 0 1 0) (20 + 2 * k) 0 = sb s1 (20 + 2 * k) 0 := st_ne (by omega)
      have e1 : sb (st s1 0 1 0) (20 + 2 * k) 1 = sb s1 (20 + 2 * k) 1 := st_ne (by omega)
      rw [q1, bs]
      unfold F_X3_faultOfTaking F_X3_faultOfTaking_J17
      rw [e0, h1]
      by_cases h0 : a 8 k = 0
      · refine ⟨-9223372036854775808, st (st s1 0 1 0) 0 1 1, st (st m1 0 0 0) 0 0 1, ?_, ?_, ?_⟩
        · rw [h0]; rfl
        · rw [h0, if_pos (show sc 0 = -9 from rfl), q1', h0]; rfl
        · rw [st_st, st_st]
          exact hR.fault 1
      · obtain ⟨f1, f2⟩ := h2 h0
        rw [if_neg h0, if_neg n10, if_neg (sc_ne _ o8 h0), f1, ← sc_s h0, bs]
        by_cases hx : sc (a 8 k) = nI l
        · rw [if_pos hx, if_pos hx, if_neg n10, if_pos (by decide), q1', bs, if_neg (sc_ne _ o8 h0)]
          have q2 : rd 4 (st m1 0 0 0 2) (nI k) = some (nI (a 9 k)) := rdE hk (by decide) (g2 h0) rfl
          rw [q2, bs]
          have f2' : sb (st s1 0 1 0) (20 + 2 * k) 0 2 = nI (a 9 k) := by rw [e0]; exact f2
          rcases rng x2 (a 9 k) (by omega) with ⟨i, hi, rfl⟩ | hxx
          · rw [in_len_y o9 hi, bs, if_neg n10, show F_X3_reaches (sb (st s1 0 1 0) (20 + 2 * k)) (nI i) 1 = some 1 from reach_y (n := 1) f2' o9 (by omega), bs, if_neg n10]
            have q3 : rd 240 (st m1 0 0 0 3) (60 * nI k + nI i) = some (b (1 + k) i) := rdE (k := 60 * k + i) (by omega) (by decide) (g3 i (by omega)) (h60 k i)
            rw [q3, bs, bs, if_pos rfl, st_st]
            rw [at_c (t := sb (st s1 0 1 0) (20 + 2 * k)) (v := b (1 + k) i) f2' o9 hi (by rw [e1]; exact h3 i (by omega)), bs]
            exact ⟨_, _, _, rfl, rfl, hR.fault 0⟩
          · rw [in_len o9 hxx, reach_1n f2' o9 hxx]
            refine ⟨_, _, _, rfl, rfl, ?_⟩
            rw [st_st, st_st]
            exact hR.fault 3
        · rw [if_neg hx, if_neg hx]
          refine ⟨_, _, _, rfl, rfl, ?_⟩
          rw [st_st, st_st]
          exact hR.fault 2
    · rw [(lan_n h3l).1, (lan_n h3l).2]
      exact ⟨_, _, _, rfl, rfl, hR.fault 0⟩
  · rw [(sht_n h).1, (sht_n h).2]
    exact ⟨_, _, _, rfl, rfl, hR.fault 0⟩
