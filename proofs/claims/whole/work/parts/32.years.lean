/-! years -/
theorem YC.congr {s t : ST} {c lk : Nat} {kd sh pc : Nat → Nat} {d0 D T : Int32} (h : YC s c lk kd sh pc d0 D T) (e : ∀ p, p ≤ 4 → t p = s p) : YC t c lk kd sh pc d0 D T := by
  obtain ⟨C1, C2, C3, C4⟩ := h
  exact ⟨C1.congr (fun p hp => e (1 + p) (by omega)), by rw [e 0 (by decide)]; exact C2, by rw [e 0 (by decide)]; exact C3, by rw [e 1 (by decide)]; exact C4⟩
def sm (sh : Nat → Nat) : Nat → Nat
  | 0 => 0
  | i + 1 => sm sh i + pop (sh i)
theorem sm_s (sh : Nat → Nat) (i : Nat) : sm sh (i + 1) = sm sh i + pop (sh i) := rfl
theorem cells_L {t : ST} {c : Nat} {sh : Nat → Nat} (hc : c ≤ 6) (h0 : t 0 0 = nI c) (h2 : ∀ j, j < 6 → t 2 j = nI (sh j) ∧ sh j < 64) (k : Int32 → Int32 → Option Int32) : ∀ n i, i ≤ c → c - i < n → F_X0_cellsSet_L4 t k n (nI (sm sh i)) (nI i) = k (nI (sm sh c)) (nI c) := by
  intro n
  induction n with
  | zero => intro i _ h; omega
  | succ n ih =>
    intro i hi hn
    rw [F_X0_cellsSet_L4.eq_2, h0]
    by_cases h : i = c
    · subst h
      rw [if_pos (nI_le (Nat.le_refl _) (by omega))]
    · have i6 : i < 6 := by omega
      have := (h2 i i6).2
      rw [if_neg (nI_ge (by omega) (by omega)), rdE i6 (by decide) (h2 i i6).1 rfl, bs, bc_c _ (by omega), bs, nI_add, nI_1, ← sm_s]
      exact ih (i + 1) (by omega) (by omega)
theorem tell_L {t : ST} {c : Nat} {sh : Nat → Nat} (hc : c ≤ 6) (h0 : t 0 3 = nI c) (h2 : ∀ j, j < 6 → t 6 j = nI (sh j) ∧ sh j < 64) (x1 : Int32) (k : Int32 → Int32 → Option Int32) : ∀ n i, i ≤ c → c - i < n → F_X7_tellYears_L73 t x1 k n (nI (sm sh i)) (nI i) = k (nI (sm sh c)) (nI c) := by
  intro n
  induction n with
  | zero => intro i _ h; omega
  | succ n ih =>
    intro i hi hn
    rw [F_X7_tellYears_L73.eq_2, h0]
    by_cases h : i = c
    · subst h
      rw [if_pos (nI_le (Nat.le_refl _) (by omega))]
    · have i6 : i < 6 := by omega
      have := (h2 i i6).2
      rw [if_neg (nI_ge (by omega) (by omega)), rdE i6 (by decide) (h2 i i6).1 rfl, bs, size_m _ (by omega), bs, nI_add, nI_1, ← sm_s]
      exact ih (i + 1) (by omega) (by omega)
theorem tell_y {t m m1 : ST} {c lk : Nat} {kd sh pc : Nat → Nat} {d0 D T r : Int32} (hb : BOk c lk kd sh pc) (hC : YC t c lk kd sh pc d0 D T) (hr : t 0 1 = r) (hm : YM m m1 lk sh D T) (h3 : m 0 3 = nI c) {w : Nat} (hw : w < 5 ∨ (10 ≤ w ∧ w < 16)) : ∃ y, F_X7_tellYears m (nI w) = some y ∧ F_X5_answer t (nI w) = some (if nI w = 1 then r else if r = -9 then y else -100 - r) := by
  obtain ⟨C1, C2, C3, C4⟩ := hC
  obtain ⟨M1, M2, M3, M4, M5, M6⟩ := hm
  have hc := hb.1
  unfold F_X7_tellYears F_X5_answer
  rw [hr]
  have fin : ∀ (x : Option Int32) (y : Int32), x = some y → (if r = -9 then x else some (-100 - r)) = some (if r = -9 then y else -100 - r) := by
    intro x y e
    by_cases z : r = -9
    · rw [if_pos z, if_pos z, e]
    · rw [if_neg z, if_neg z]
  rcases (show w = 0 ∨ w = 1 ∨ w = 2 ∨ w = 3 ∨ w = 4 ∨ 10 ≤ w by omega) with e | e | e | e | e | e
  · subst e
    refine ⟨m 0 5, by rw [if_pos (show nI 0 < 10 by decide), if_pos (show nI 0 = 0 from rfl)], ?_⟩
    rw [if_neg (show ¬ nI 0 = 1 by decide), if_neg (show ¬ nI 0 = 1 by decide), if_neg (show ¬ nI 0 = 1 by decide)]
    refine fin _ _ ?_
    rw [if_pos (show nI 0 = 0 from rfl), M1]
    exact congrArg some C1.2.1
  · subst e
    exact ⟨m 0 10, by rw [if_pos (show nI 1 < 10 by decide), if_neg (show ¬ nI 1 = 0 by decide), if_pos (show nI 1 = 1 from rfl)], by rw [if_pos (show nI 1 = 1 from rfl), if_pos (show nI 1 = 1 from rfl)]⟩
  · subst e
    have k1 := cells_L (t := sb t 1) hc C1.1 (fun j hj => ⟨(C1.2.2 j hj).2.1, (hb.2.2 j hj).2.1⟩) (fun x1_k4 x2_k4 => F_X0_cellsSet_J30 (sb t 1) x1_k4) 1000 0 (Nat.zero_le _) (by omega)
    have k2 := tell_L (t := m) hc h3 (fun j hj => ⟨M2 j hj, (hb.2.2 j hj).2.1⟩) (nI 2) (fun x2_k73 x3_k73 => F_X7_tellYears_J99 m (nI 2) x2_k73) 1000 0 (Nat.zero_le _) (by omega)
    refine ⟨nI (sm sh c), ?_, ?_⟩
    · rw [if_pos (show nI 2 < 10 by decide), if_neg (show ¬ nI 2 = 0 by decide), if_neg (show ¬ nI 2 = 1 by decide), if_pos (show nI 2 = 2 from rfl)]
      exact k2
    · rw [if_neg (show ¬ nI 2 = 1 by decide), if_neg (show ¬ nI 2 = 1 by decide), if_neg (show ¬ nI 2 = 1 by decide)]
      refine fin _ _ ?_
      have k1' : F_X0_cellsSet (sb t 1) = some (nI (sm sh c)) := by
        unfold F_X0_cellsSet
        exact k1
      rw [if_neg (show ¬ nI 2 = 0 by decide), if_pos (show nI 2 = 2 from rfl), k1', bs]
  · subst e
    refine ⟨m 0 9, ?_, ?_⟩
    · rw [if_pos (show nI 3 < 10 by decide), if_neg (show ¬ nI 3 = 0 by decide), if_neg (show ¬ nI 3 = 1 by decide), if_neg (show ¬ nI 3 = 2 by decide), if_pos (show nI 3 = 3 from rfl)]
    · rw [if_neg (show ¬ nI 3 = 1 by decide), if_neg (show ¬ nI 3 = 1 by decide), if_neg (show ¬ nI 3 = 1 by decide)]
      refine fin _ _ ?_
      rw [if_neg (show ¬ nI 3 = 0 by decide), if_neg (show ¬ nI 3 = 2 by decide), if_pos (show nI 3 = 3 from rfl), C4, C2, M3, Int32.add_comm, Int32.add_sub_cancel]
  · subst e
    refine ⟨m 0 10, ?_, ?_⟩
    · rw [if_pos (show nI 4 < 10 by decide), if_neg (show ¬ nI 4 = 0 by decide), if_neg (show ¬ nI 4 = 1 by decide), if_neg (show ¬ nI 4 = 2 by decide), if_neg (show ¬ nI 4 = 3 by decide)]
    · rw [if_neg (show ¬ nI 4 = 1 by decide), if_neg (show ¬ nI 4 = 1 by decide), if_neg (show ¬ nI 4 = 1 by decide)]
      refine fin _ _ ?_
      rw [if_neg (show ¬ nI 4 = 0 by decide), if_neg (show ¬ nI 4 = 2 by decide), if_neg (show ¬ nI 4 = 3 by decide), if_pos (show nI 4 = 4 from rfl), C3, M4]
  · have eB : nI w - 10 = nI (w - 10) := by rw [show (10 : Int32) = nI 10 from rfl, pk_sub (by omega)]
    have q0 : ¬ nI w = 0 := nI_ne0 (by omega) (by omega)
    have q1 : ¬ nI w = 1 := nI_ne (b := 1) (by omega) (by omega) (by decide)
    have q2 : ¬ nI w = 2 := nI_ne (b := 2) (by omega) (by omega) (by decide)
    have q3 : ¬ nI w = 3 := nI_ne (b := 3) (by omega) (by omega) (by decide)
    have q4 : ¬ nI w = 4 := nI_ne (b := 4) (by omega) (by omega) (by decide)
    rw [if_neg (show ¬ nI w < 10 from nI_nlt (b := 10) (by omega) (by omega)), if_neg q1, if_neg q1, if_neg q0, if_neg q2, if_neg q3, if_neg q4, eB]
    unfold F_X5_answer_J98
    rw [eB]
    by_cases hj : w - 10 < c
    · have j6 : w - 10 < 6 := by omega
      have r3 : rd 6 (t 3) (nI (w - 10)) = some (nI (sh (w - 10))) := rdE j6 (by decide) (C1.2.2 _ j6).2.1 rfl
      rw [blk_y h3 hc hj, has_y C1.1 hc hj, bs, bs, if_neg n10, if_neg n10, rdE j6 (by decide) (M2 _ j6) rfl, bs, r3, bs]
      exact ⟨nI (sh (w - 10)), rfl, by rw [if_neg q1]; exact fin _ _ rfl⟩
    · have nn : nI (w - 10) < 0 ∨ (¬ nI (w - 10) < 0 ∧ nI c ≤ nI (w - 10)) := Or.inr ⟨nI_pos (by omega), nI_le (by omega) (by omega)⟩
      rw [blk_n h3 nn, has_n C1.1 nn, bs, bs, if_pos (show (0 : Int32) = 0 from rfl), if_pos (show (0 : Int32) = 0 from rfl)]
      exact ⟨-9, rfl, by rw [if_neg q1]; exact fin _ _ rfl⟩
theorem back_L {c : Nat} {sh0 : Nat → Nat} (hc : c ≤ 6) (x1 x2 x3 x4 x5 x9 x10 : Int32) (k : Int32 → ST → Option (Int32 × ST)) : ∀ n i (s : ST), i ≤ c → c - i < n → s 0 3 = nI c → (∀ j, j < c → s 9 j = nI (sh0 j)) → (∀ j, j < 6 → (j < i ∨ c ≤ j) → s 6 j = nI (sh0 j)) → ∃ u : ST, F_X7_years_L193 x1 x2 x3 x4 x5 x9 x10 k n (nI i) s = k (nI c) u ∧ (∀ p, p ≠ 6 → u p = s p) ∧ ∀ j, j < 6 → u 6 j = nI (sh0 j) := by
  intro n
  induction n with
  | zero => intro i s _ h; omega
  | succ n ih =>
    intro i s hi hn s3 s9 s6
    rw [F_X7_years_L193.eq_2, s3]
    by_cases h : i = c
    · subst h
      rw [if_pos (nI_le (Nat.le_refl _) (by omega))]
      exact ⟨s, rfl, fun _ _ => rfl, fun j hj => s6 j hj (by omega)⟩
    · have i6 : i < 6 := by omega
      rw [if_neg (nI_ge (by omega) (by omega)), rdE i6 (by decide) (s9 i (by omega)) rfl, bs, ixN i6 (by decide), bs, nI_1]
      obtain ⟨u, h1, h2, h4⟩ := ih (i + 1) (st s 6 i (nI (sh0 i))) (by omega) (by omega) s3 s9 (fun j hj hx => by
        rw [st_eq]
        by_cases e : j = i
        · subst e; rw [upd_eq]
        · rw [upd_ne e]; exact s6 j hj (by omega))
      exact ⟨u, h1, fun p hp => by rw [h2 p hp, st_ne hp], h4⟩
theorem eq_years {s1 m1 : ST} (hR : Rel s1 m1) (x1 x2 x3 x4 x5 : Int32) : ∃ (r : Int32) (s2 : ST) (m2 : ST), F_X6_years s1 x1 x2 x3 x4 x5 = some (r, s2) ∧ F_X7_years m1 x1 x2 x3 x4 x5 = some (r, m2) ∧ Rel s2 m2 := by
  have hF := hR.fault 0
  have hF0 := hF
  obtain ⟨a, b, ok, hc, hm, hS⟩ := hF.sh
  have ok0 := ok
  have hc0 := hc
  have hm0 := hm
  obtain ⟨o0, o1, o2, o3, oB, oF, oR, oS⟩ := ok
  obtain ⟨⟨c1, c2, c3⟩, cw, cB', cL', ⟨cn, cR⟩, cS⟩ := hc
  obtain ⟨⟨e1, e2, e3⟩, ew, ⟨ec, elk, eB⟩, eL, ⟨en, eR⟩, eS⟩ := hm
  have cB : BRel (sb s1 3) (a 0 1) (a 0 2) (a 1) (a 2) (a 3) := cB'.congr (fun i hi => by
    show s1 (3 + i) = st s1 0 1 0 (3 + i)
    rw [st_ne (by omega)])
  have cL : 0 < a 0 1 → LRel (sb s1 1) (a 4) := fun h => (cL' h).congr (by
    show s1 2 = st s1 0 1 0 2
    rw [st_ne (by omega)])
  unfold F_X6_years F_X7_years
  have no : ∀ v : Int32, b2 (F_X6_withoutFault s1 v) (fun v9 u9 => some (v9, u9)) = some (v, st s1 0 1 0) := fun v => rfl
  rw [no, no, no]
  rcases rng x1 4 (by decide) with ⟨k, hk, rfl⟩ | h
  · rw [(sht_y hk).1, (sht_y hk).2, bs, bs, if_neg n10, if_neg n10]
    rcases rng x2 3 (by decide) with ⟨l, hl, rfl⟩ | h
    · rw [(lan_y hl).1, (lan_y hl).2, bs, bs, if_neg n10, if_neg n10]
      unfold F_X6_canTake
      rcases rng x4 21 (by decide) with ⟨n4, hn4, rfl⟩ | h
      · rw [if_neg (nI_pos (by omega)), if_neg (show ¬ (20 : Int32) < nI n4 from nI_nlt (a := 20) (by omega) (by decide)), bs, if_neg n10, win_y (lo := 0) (hi := 20) (j := n4) (a := 0) (b := 20) rfl (by omega) (by omega) (by decide) rfl rfl, bs, if_neg n10]
        rcases rng x5 16 (by decide) with ⟨w, hw, rfl⟩ | h
        · obtain ⟨-, -, t3, t4, t5⟩ := act_t w hw
          rw [t3, t4, t5, bs, bs, bs]
          by_cases hg : w ≤ 4 ∨ 10 ≤ w
          · have md : (if (if w ≤ 4 then (1 : Int32) else 0) = 0 then (if (if 10 ≤ w then (1 : Int32) else 0) = 0 then some (-2, st m1 0 0 0) else F_X7_years_J57 (nI k) (nI l) x3 (nI n4) (nI w) (st m1 0 0 0)) else F_X7_years_J57 (nI k) (nI l) x3 (nI n4) (nI w) (st m1 0 0 0)) = F_X7_years_J57 (nI k) (nI l) x3 (nI n4) (nI w) (st m1 0 0 0) := by
              by_cases hb2 : w ≤ 4
              · rw [if_pos hb2, if_neg n10]
              · rw [if_neg hb2, if_pos rfl, if_pos (show 10 ≤ w by omega), if_neg n10]
            rw [md, if_pos hg, if_neg n10, ixN hk (by decide), bs]
            unfold F_X7_years_J57
            obtain ⟨hs', g8, g9, g1, g2, g3⟩ := hS k hk
            have hs : SRel (sb s1 (20 + 2 * k)) (a 8 k) (a 9 k) (b (1 + k)) := hs'.congr (by
              show s1 (20 + 2 * k + 0) = st s1 0 1 0 (20 + 2 * k + 0)
              rw [st_ne (by omega)]) (by
              show s1 (20 + 2 * k + 1) = st s1 0 1 0 (20 + 2 * k + 1)
              rw [st_ne (by omega)])
            obtain ⟨r, r1, r2, r3⟩ := ft_eq (t := sb s1 (20 + 2 * k)) (m := st m1 0 0 0) hs g8 g9 hk g1 g2 (nI l) x3 (2 * nI n4)
            rw [r1, r2, bs, bs]
            by_cases hr : r = 0
            · obtain ⟨so, i, n, rfl, en2, hin⟩ := r3 hr
              have dbl : (2 : Int32) * nI n4 = nI (2 * n4) := show nI 2 * nI n4 = _ by rw [pk_mul]
              rw [dbl] at en2
              have hnn : n = 2 * n4 := ((nI_eq (by omega) (by omega)).mp en2).symm
              subst hnn
              have len : sb s1 (20 + 2 * k) 0 2 = nI (a 9 k) := (hs.2.1 so).2
              rw [if_pos hr, if_pos hr, ec]
              by_cases hz : a 0 1 = 0
              · rw [hasG_n cB.1 hz, bs, if_pos (show (0 : Int32) = 0 from rfl), hz, if_pos (show nI 0 = 0 from rfl)]
                exact ⟨-3, st s1 0 1 0, st m1 0 0 0, rfl, rfl, hF0⟩
              · have h0 : 0 < a 0 1 := Nat.pos_of_ne_zero hz
                have hb : BOk (a 0 1) (a 0 2) (a 1) (a 2) (a 3) := ⟨o1, o2, oB⟩
                have hvc : ∀ j, j < n4 → sb s1 (20 + 2 * k) 1 (i + 2 * j) = b (1 + k) (i + 2 * j) ∧ sb s1 (20 + 2 * k) 1 (i + 2 * j + 1) = b (1 + k) (i + 2 * j + 1) := fun j hj => ⟨hs.2.2 _ (by omega), hs.2.2 _ (by omega)⟩
                have hvm : ∀ j, j < n4 → st m1 0 0 0 3 (60 * k + i + 2 * j) = b (1 + k) (i + 2 * j) ∧ st m1 0 0 0 3 (60 * k + i + 2 * j + 1) = b (1 + k) (i + 2 * j + 1) := fun j hj => ⟨by rw [Nat.add_assoc]; exact g3 (i + 2 * j) (by omega), by rw [Nat.add_assoc, Nat.add_assoc, ← Nat.add_assoc i]; exact g3 (i + 2 * j + 1) (by omega)⟩
                rw [hasG_y cB.1 h0 o1, bs, if_neg n10, if_neg (nI_ne0 h0 (by omega)), h60]
                obtain ⟨rr, f1, f2, f3⟩ := ref_L (t0 := sb s1 3) (t1 := sb s1 (20 + 2 * k)) (m := st m1 0 0 0) (A := fun j => b (1 + k) (i + 2 * j)) (B := fun j => b (1 + k) (i + 2 * j + 1)) o1 cB.1 ec (N := n4) (by omega) len g9 hin hvc (X := 60 * k + i) (by omega) hvm (nI k) (nI l) (nI i) (nI w) (fun x4_k3 => F_X5_refusalOfPairs_J85 (sb s1 3) (sb s1 (20 + 2 * k)) (nI i) (nI n4)) (fun x8_k103 => F_X7_years_J156 (nI k) (nI l) (nI i) (nI n4) (nI w) (nI (60 * k + i)) (st m1 0 0 0)) 1000 0 (Nat.zero_le _) (by omega)
                have f1' : F_X5_refusalOfPairs (sb s1 3) (sb s1 (20 + 2 * k)) (nI i) (nI n4) = some rr := by
                  unfold F_X5_refusalOfPairs
                  refine f1.trans ?_
                  by_cases e : rr = 0
                  · rw [if_pos e, e]; rfl
                  · rw [if_neg e]
                rw [f1', bs]
                by_cases hrr : rr = 0
                · rw [if_pos hrr] at f2 ⊢
                  obtain ⟨u5, y1, y2, y3⟩ := copyFrom_c (t := sb (sb s1 11) 1) cB
                  obtain ⟨v, v1, v2, v3⟩ := keep_m (t := st m1 0 0 0) o1 ec (fun j hj => (eB j hj).2.1)
                  have v0 : v 0 = st m1 0 0 0 0 := v2 0 (by decide)
                  have hM : MB v (a 0 1) (a 1) (a 3) (a 4) := ⟨by rw [v0]; exact ec, by rw [v2 4 (by decide)]; exact eL h0, fun j hj => ⟨by rw [v2 5 (by decide)]; exact (eB j hj).1, by rw [v2 7 (by decide)]; exact (eB j hj).2.2⟩⟩
                  have S0 : YC (st (st (st (gr (sb s1 11) 1 4 u5) 0 0 (sb s1 3 0 1)) 0 1 (-9)) 0 2 0) (a 0 1) (a 0 2) (a 1) (a 2) (a 3) (sb s1 3 0 1) 0 0 := by
                    refine ⟨y2.congr (fun p hp => ?_), rfl, rfl, ?_⟩
                    · show st (st (st (gr (sb s1 11) 1 4 u5) 0 0 (sb s1 3 0 1)) 0 1 (-9)) 0 2 0 (1 + p) = u5 p
                      rw [st_ne (by omega), st_ne (by omega), st_ne (by omega), gr_eq ⟨by omega, by omega⟩, Nat.add_sub_cancel_left]
                    · show gr (sb s1 11) 1 4 u5 1 1 = _
                      rw [gr_eq ⟨by omega, by omega⟩, Int32.add_zero]
                      exact y3
                  have Y0 : YM (st (st v 0 9 0) 0 10 0) v (a 0 2) (a 2) 0 0 := by
                    refine ⟨?_, fun j hj => ?_, rfl, rfl, fun p hp _ => ?_, fun j _ h9 h10 => ?_⟩
                    · show v 0 5 = _
                      rw [v0]; exact elk
                    · show v 6 j = _
                      rw [v2 6 (by decide)]; exact (eB j hj).2.1
                    · rw [st_ne hp, st_ne hp]
                    · rw [st_eq, upd_ne h10, st_eq, upd_ne h9]
                  obtain ⟨u, z, x, q, lk', sh', D', T', L1, L2, L3, L4, L5, L6, L7⟩ := live_L (t1 := sb s1 3) (t2 := sb s1 1) (t3 := sb s1 (20 + 2 * k)) (m1 := v) (cL h0) oF (sh0 := a 2) hM (A := fun j => b (1 + k) (i + 2 * j)) (B := fun j => b (1 + k) (i + 2 * j + 1)) (N := n4) (by omega) len g9 hin hvc (X := 60 * k + i) (by omega) (by rw [v2 3 (by decide)]; exact hvm) (fun j hj => f3 hrr j (Nat.zero_le _) hj) (sb s1 3 0 1) (fun x6_k30 s0_k30 => F_X5_live_J112 (sb s1 3) (sb s1 1) (sb s1 (20 + 2 * k)) (nI i) (nI n4) s0_k30) (fun x3_k12 s0_k12 => F_X7_goYears_J54 (nI (60 * k + i)) (nI n4) s0_k12) (fun _ _ => rfl) 1000 0 _ _ (a 0 2) (a 2) 0 0 (Nat.zero_le _) (by omega) hb (fun _ _ => rfl) S0 rfl Y0
                  have live : F_X5_live (sb s1 11) (sb s1 3) (sb s1 1) (sb s1 (20 + 2 * k)) (nI i) (nI n4) = some u := by
                    unfold F_X5_live
                    rw [y1, bs]
                    exact L1
                  have gy : F_X7_goYears v (nI (60 * k + i)) (nI n4) = some (q, z) := by
                    unfold F_X7_goYears
                    exact L2
                  have up : ∀ p, p ≤ 4 → sb (gr s1 11 5 u) 11 p = u p := fun p hp => by
                    show gr s1 11 5 u (11 + p) = u p
                    rw [gr_eq ⟨by omega, by omega⟩, Nat.add_sub_cancel_left]
                  have z3 : z 0 3 = nI (a 0 1) := by rw [L7.2.2.2.2.2 3 (by decide) (by decide) (by decide), v0]; exact ec
                  obtain ⟨y, w1, w2⟩ := tell_y (t := sb (gr s1 11 5 u) 11) (r := q) L3 (L5.congr up) (by rw [up 0 (by decide)]; exact L6) L7 z3 (w := w) (by omega)
                  obtain ⟨d, d1, d2, d3⟩ := back_L (c := a 0 1) (sh0 := a 2) o1 (nI k) (nI l) (nI i) (nI n4) (nI w) q y (fun x11_k193 s0_k193 => F_X7_years_J222 (nI k) (nI l) (nI i) (nI n4) (nI w) q y s0_k193) 1000 0 (st z 0 5 (v 0 5)) (Nat.zero_le _) (by omega) z3 (fun j hj => by
                    rw [st_ne (by decide), L7.2.2.2.2.1 9 (by decide) (by decide)]; exact v3 j hj) (fun j hj hx => by
                    rw [st_ne (by decide), L7.2.1 j hj, L4 j (by omega)])
                  refine ⟨if nI w = 1 then q else if q = -9 then y else -100 - q, st (gr s1 11 5 u) 0 1 0, d, ?_, f2.trans ?_, ?_⟩
                  · rw [live, bs, w2, bs]
                    rfl
                  · show F_X7_years_J156 (nI k) (nI l) (nI i) (nI n4) (nI w) (nI (60 * k + i)) (st m1 0 0 0) = _
                    unfold F_X7_years_J156
                    rw [v1, bs, gy, b2s, w1, bs]
                    refine d1.trans ?_
                    show F_X7_years_J222 (nI k) (nI l) (nI i) (nI n4) (nI w) q y d = _
                    unfold F_X7_years_J222
                    by_cases p1 : nI w = 1
                    · rw [if_pos p1, if_pos p1]
                    · rw [if_neg p1, if_neg p1]
                      by_cases p9 : q = -9
                      · rw [if_pos p9, if_pos p9]
                      · rw [if_neg p9, if_neg p9]
                  · refine ⟨a, b, ok0, hc0.congr (fun p hp => ?_), ?_⟩
                    · by_cases p0 : p = 0
                      · subst p0
                        rw [st_eq, st_eq, gr_ne (by omega)]
                      · rw [st_ne p0, st_ne p0, gr_ne (by omega)]
                    · have dp : ∀ p, p ≠ 0 → p ≠ 6 → p ≠ 9 → d p = st m1 0 0 0 p := fun p q0 q6 q9 => by rw [d2 p q6, st_ne q0, L7.2.2.2.2.1 p q0 q6, v2 p q9]
                      have d0 : ∀ j, j ≠ 5 → j ≠ 9 → j ≠ 10 → d 0 j = st m1 0 0 0 0 j := fun j q5 q9 q10 => by rw [d2 0 (by decide), st_eq, upd_ne q5, L7.2.2.2.2.2 j q5 q9 q10, v0]
                      refine ⟨⟨by rw [d0 1 (by decide) (by decide) (by decide)]; exact e1, by rw [d0 0 (by decide) (by decide) (by decide)]; exact e2, by rw [d0 4 (by decide) (by decide) (by decide)]; exact e3⟩, by rw [d0 2 (by decide) (by decide) (by decide)]; exact ew, ⟨by rw [d0 3 (by decide) (by decide) (by decide)]; exact ec, by rw [d2 0 (by decide), st_eq, upd_eq, v0]; exact elk, fun j hj => ⟨by rw [dp 5 (by decide) (by decide) (by decide)]; exact (eB j hj).1, d3 j hj, by rw [dp 7 (by decide) (by decide) (by decide)]; exact (eB j hj).2.2⟩⟩, fun hh j hj => by rw [dp 4 (by decide) (by decide) (by decide)]; exact eL hh j hj, ⟨by rw [d0 13 (by decide) (by decide) (by decide)]; exact en, fun j hj => by rw [dp 10 (by decide) (by decide) (by decide), dp 11 (by decide) (by decide) (by decide), dp 12 (by decide) (by decide) (by decide)]; exact eR j hj⟩, fun kk hkk => by rw [dp 1 (by decide) (by decide) (by decide), dp 2 (by decide) (by decide) (by decide), dp 3 (by decide) (by decide) (by decide)]; exact eS kk hkk⟩
                · rw [if_neg hrr] at f2 ⊢
                  exact ⟨rr, st s1 0 1 0, st m1 0 0 0, rfl, f2, hF0⟩
            · rw [if_neg hr, if_neg hr]
              refine ⟨_, _, st (st m1 0 0 0) 0 0 r, rfl, rfl, ?_⟩
              rw [st_st]
              exact hR.fault r
          · rw [if_neg hg, if_neg (show ¬ w ≤ 4 by omega), if_neg (show ¬ 10 ≤ w by omega)]
            exact ⟨-2, st s1 0 1 0, st m1 0 0 0, rfl, rfl, hF0⟩
        · obtain ⟨-, -, q3, q1, q2⟩ := act_n h
          rw [q1, q2, q3]
          exact ⟨-2, st s1 0 1 0, st m1 0 0 0, rfl, rfl, hF0⟩
      · refine ⟨-2, st s1 0 1 0, st m1 0 0 0, ?_, ?_, hF0⟩
        · rcases h with h | ⟨h, h3⟩
          · rw [if_pos h]; rfl
          · rw [if_neg h, if_pos (Int32.lt_iff_toInt_lt.mpr (by
              have z2 := Int32.le_iff_toInt_le.mp h3
              have z3 : (nI 21).toInt = 21 := rfl
              have z4 : (20 : Int32).toInt = 20 := rfl
              omega))]; rfl
        · rw [win_n (n := 21) (hi := 20) (by decide) (by decide) rfl h, bs, if_pos (show (0 : Int32) = 0 from rfl)]
    · rw [(lan_n h).1, (lan_n h).2]
      exact ⟨-2, st s1 0 1 0, st m1 0 0 0, rfl, rfl, hF0⟩
  · rw [(sht_n h).1, (sht_n h).2]
    exact ⟨-1, st s1 0 1 0, st m1 0 0 0, rfl, rfl, hF0⟩
