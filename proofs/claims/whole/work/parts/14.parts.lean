/-! telling, signs, casts, readings -/
theorem st_st {t : ST} {i j : Nat} {x y : Int32} : st (st t i j x) i j y = st t i j y := by
  funext p
  by_cases h : p = i
  · subst h
    rw [st_eq, st_eq, st_eq]
    funext q
    by_cases hq : q = j
    · subst hq; rw [upd_eq, upd_eq]
    · rw [upd_ne hq, upd_ne hq, upd_ne hq]
  · rw [st_ne h, st_ne h, st_ne h]
theorem Rel.begin {s m : ST} (h : Rel s m) (k : Int32) : Rel (st s 0 0 (31 * s 0 0 + k)) (st m 0 1 (31 * m 0 1 + k)) := by
  rw [← h.tr_eq]
  exact h.trace _
theorem Rel.blkv {s m : ST} (h : Rel s m) : ∃ a : AS, (∃ b : ST, AOk a ∧ CRel s a b ∧ MRel m a b) ∧ s 3 0 = nI (a 0 1) ∧ m 0 3 = nI (a 0 1) ∧ a 0 1 ≤ 6 ∧ ∀ j, j < 6 → s 4 j = nI (a 1 j) ∧ s 6 j = nI (a 3 j) ∧ m 5 j = nI (a 1 j) ∧ m 7 j = nI (a 3 j) ∧ a 1 j < 3 ∧ a 3 j ≤ 4 := by
  obtain ⟨a, b, ok, hc, hm⟩ := h
  refine ⟨a, ⟨b, ok, hc, hm⟩, ?_⟩
  obtain ⟨o0, o1, o2, o3, oB, oF, oR, oS⟩ := ok
  obtain ⟨⟨c1, c2, c3⟩, cw, ⟨cc, clk, cB⟩, cL, ⟨cn, cR⟩, cS⟩ := hc
  obtain ⟨⟨e1, e2, e3⟩, ew, ⟨ec, elk, eB⟩, eL, ⟨en, eR⟩, eS⟩ := hm
  exact ⟨cc, ec, o1, fun j hj => ⟨(cB j hj).1, (cB j hj).2.2, (eB j hj).1, (eB j hj).2.2, (oB j hj).1, (oB j hj).2.2⟩⟩
theorem bust_c {u : ST} {j p : Nat} (h6 : j < 6) (hp : u 6 j = nI p) : F_X6_tellAsBust u (nI j) = some (nI p, st u 0 0 (31 * u 0 0 + 1)) := by
  unfold F_X6_tellAsBust F_X6_leaveTrace
  rw [bs, show rd 6 (st u 0 0 (31 * u 0 0 + 1) 6) (nI j) = some (nI p) from rdE h6 (by decide) hp rfl]
  rfl
theorem nymph_c {u : ST} {j p : Nat} (h6 : j < 6) (hp : u 6 j = nI p) : F_X6_tellAsNymph u (nI j) = some (nI p + 100, st (st u 0 0 (31 * u 0 0 + 2)) 0 0 (31 * st u 0 0 (31 * u 0 0 + 2) 0 0 + 1)) := by
  unfold F_X6_tellAsNymph F_X6_leaveTrace
  rw [bs, bust_c (u := st u 0 0 (31 * u 0 0 + 2)) h6 hp]
  rfl
theorem eq_tell {s1 m1 : ST} (hR : Rel s1 m1) (x1 : Int32) : ∃ (r : Int32) (s2 : ST) (m2 : ST), F_X6_tell s1 x1 = some (r, s2) ∧ F_X7_tell m1 x1 = some (r, m2) ∧ Rel s2 m2 := by
  obtain ⟨a, -, cc, ec, o1, hB⟩ := hR.blkv
  unfold F_X6_tell F_X7_tell
  rcases rng x1 (a 0 1) (by omega) with ⟨j, hj, rfl⟩ | h
  · have h6 : j < 6 := by omega
    obtain ⟨h4, hp, h5, h7, hk, -⟩ := hB j h6
    rw [has_y (t := sb s1 3) cc o1 hj, blk_y ec o1 hj, bs, bs, if_neg n10, if_neg n10, rdE h6 (by decide) h4 rfl, rdE h6 (by decide) h7 rfl, rdE h6 (by decide) h5 rfl, bs, bs, bs]
    rcases (show a 1 j = 0 ∨ a 1 j = 1 ∨ a 1 j = 2 by omega) with e | e | e
    · rw [e]
      refine ⟨nI (a 3 j), _, _, ?_, ?_, hR.begin 1⟩
      · rw [if_neg (show ¬ nI 0 = 1 by decide), if_neg (show ¬ nI 0 = 2 by decide), bust_c h6 hp]; rfl
      · rw [if_neg (show ¬ nI 0 = 1 by decide), if_neg (show ¬ nI 0 = 2 by decide)]; rfl
    · rw [e]
      refine ⟨nI (a 3 j) + 100, _, _, ?_, ?_, (hR.begin 2).begin 1⟩
      · rw [if_pos (show nI 1 = 1 by decide), nymph_c h6 hp]; rfl
      · rw [if_pos (show nI 1 = 1 by decide)]; rfl
    · rw [e]
      refine ⟨nI (a 3 j) + 100 + nI (a 3 j), _, _, ?_, ?_, (((hR.begin 3).begin 2).begin 1).begin 1⟩
      · rw [if_neg (show ¬ nI 2 = 1 by decide), if_pos (show nI 2 = 2 by decide)]
        unfold F_X6_tellAsHorse F_X6_leaveTrace
        rw [bs, nymph_c (u := st s1 0 0 (31 * s1 0 0 + 3)) h6 hp, b2s, bust_c (u := st (st (st s1 0 0 (31 * s1 0 0 + 3)) 0 0 (31 * st s1 0 0 (31 * s1 0 0 + 3) 0 0 + 2)) 0 0 (31 * st (st s1 0 0 (31 * s1 0 0 + 3)) 0 0 (31 * st s1 0 0 (31 * s1 0 0 + 3) 0 0 + 2) 0 0 + 1)) h6 hp]
        rfl
      · rw [if_neg (show ¬ nI 2 = 1 by decide), if_pos (show nI 2 = 2 by decide)]
        have e3 : (2 : Int32) * nI (a 3 j) + 100 = nI (a 3 j) + 100 + nI (a 3 j) := by
          show nI 2 * nI (a 3 j) + nI 100 = nI (a 3 j) + nI 100 + nI (a 3 j)
          rw [pk_mul, nI_add, nI_add, nI_add]; congr 1; omega
        rw [e3]; rfl
  · rw [has_n (t := sb s1 3) cc h, blk_n ec h]
    exact ⟨-1, s1, m1, rfl, rfl, hR⟩
theorem eq_sign {s1 m1 : ST} (hR : Rel s1 m1) (x1 : Int32) : ∃ (r : Int32) (s2 : ST) (m2 : ST), F_X6_sign s1 x1 = some (r, s2) ∧ F_X7_sign m1 x1 = some (r, m2) ∧ Rel s2 m2 := by
  obtain ⟨a, -, cc, ec, o1, hB⟩ := hR.blkv
  unfold F_X6_sign F_X7_sign
  rcases rng x1 (a 0 1) (by omega) with ⟨j, hj, rfl⟩ | h
  · have h6 : j < 6 := by omega
    obtain ⟨h4, hp, h5, h7, hk, -⟩ := hB j h6
    rw [has_y (t := sb s1 3) cc o1 hj, blk_y ec o1 hj, bs, bs, if_neg n10, if_neg n10, rdE h6 (by decide) h4 rfl, rdE h6 (by decide) h5 rfl, bs, bs]
    unfold F_X7_sign_J26 F_X6_leaveTrace F_X7_begins
    have rp : ∀ x : Int32, rd 6 (st m1 0 1 x 5) (nI j) = some (nI (a 1 j)) := fun x => rdE h6 (by decide) h5 rfl
    by_cases e : nI (a 1 j) = 2
    · refine ⟨40, _, _, ?_, ?_, hR.begin 5⟩
      · rw [if_pos e]; rfl
      · rw [if_pos e, bs, rp, bs, if_pos e]
    · refine ⟨nI j, _, _, ?_, ?_, hR.begin 4⟩
      · rw [if_neg e]; rfl
      · rw [if_neg e, bs, rp, bs, if_neg e]
  · rw [has_n (t := sb s1 3) cc h, blk_n ec h]
    exact ⟨-1, s1, m1, rfl, rfl, hR⟩
theorem eq_as {s1 m1 : ST} (hR : Rel s1 m1) (x1 x2 : Int32) : ∃ (r : Int32) (s2 : ST) (m2 : ST), F_X6_as s1 x1 x2 = some (r, s2) ∧ F_X7_as m1 x1 x2 = some (r, m2) ∧ Rel s2 m2 := by
  obtain ⟨a, -, cc, ec, o1, hB⟩ := hR.blkv
  unfold F_X6_as F_X7_as F_X6_withoutFault F_X6_withFault F_X7_fails
  rcases rng x1 (a 0 1) (by omega) with ⟨j, hj, rfl⟩ | h
  · have h6 : j < 6 := by omega
    obtain ⟨h4, hp, h5, h7, hk, -⟩ := hB j h6
    rw [has_y (t := sb s1 3) cc o1 hj, blk_y (t := st m1 0 0 0) ec o1 hj, bs, bs, if_neg n10, if_neg n10]
    rcases rng x2 3 (by decide) with ⟨v, hv, rfl⟩ | h2
    · rw [if_neg (nI_pos (by omega)), if_pos (show nI v < 3 from nI_lt (b := 3) hv (by decide)), win_y (lo := 0) (hi := 2) (j := v) (a := 0) (b := 2) rfl (by omega) (by omega) (by decide) rfl rfl, bs, if_neg n10, rdE h6 (by decide) h4 rfl, rdE h6 (by decide) h5 rfl, bs, bs]
      by_cases e : v ≤ a 1 j
      · rw [if_pos (nI_le e (by omega)), if_neg (nI_nlt e (by omega))]
        exact ⟨_, _, _, rfl, rfl, hR.fault 0⟩
      · rw [if_neg (nI_ge (by omega) (by omega)), if_pos (nI_lt (by omega) (by omega))]
        refine ⟨_, _, _, rfl, rfl, ?_⟩
        rw [st_st]
        exact hR.fault 2
    · rw [win_n (hi := 2) (n := 3) (by decide) (by decide) rfl h2]
      refine ⟨-2, st s1 0 1 0, st m1 0 0 0, ?_, rfl, hR.fault 0⟩
      rcases h2 with h2 | ⟨h2, h3⟩
      · rw [if_pos h2]; rfl
      · rw [if_neg h2, if_neg (show ¬ x2 < 3 from Int32.not_lt.mpr h3)]; rfl
  · rw [has_n (t := sb s1 3) cc h, blk_n (t := st m1 0 0 0) ec h]
    exact ⟨-1, _, _, rfl, rfl, hR.fault 0⟩
/-- the readings change -/
def ar (a : AS) (nr : Nat) (f g h : Nat → Nat) : AS := fun p => if p = 0 then (fun q => if q = 3 then nr else a 0 q) else if p = 5 then f else if p = 6 then g else if p = 7 then h else a p
theorem rd_rel {s m u m' : ST} {a : AS} {b : ST} (ok : AOk a) (hc : CRel s a b) (hm : MRel m a b) {nr : Nat} {f g h : Nat → Nat} (hn : nr ≤ 8) (hb : ∀ j, j < nr → f j < a 0 1 ∧ g j ≤ 99 ∧ h j < 64) (hu : u 0 0 = nI nr ∧ ∀ j, j < 8 → u 1 j = nI (f j) ∧ u 2 j = nI (g j) ∧ u 3 j = nI (h j)) (e0 : ∀ j, j ≤ 5 → m' 0 j = m 0 j) (e : ∀ i, 1 ≤ i ∧ i ≤ 7 → m' i = m i) (hv : m' 0 13 = nI nr ∧ ∀ j, j < 8 → m' 10 j = nI (f j) ∧ m' 11 j = nI (g j) ∧ m' 12 j = nI (h j)) : Rel (gr s 16 4 u) m' := by
  obtain ⟨o0, o1, o2, o3, oB, oF, oR, oS⟩ := ok
  obtain ⟨⟨c1, c2, c3⟩, cw, cB, cL, ⟨cn, cR⟩, cS⟩ := hc
  obtain ⟨⟨e1, e2, e3⟩, ew, ⟨ec, elk, eB⟩, eL, ⟨en, eR⟩, eS⟩ := hm
  refine ⟨ar a nr f g h, b, ⟨o0, o1, o2, hn, oB, oF, hb, oS⟩, ⟨⟨c1, c2, c3⟩, cw, cB, cL, hu, fun k hk => (cS k hk).congr (gr_ne (by omega)) (gr_ne (by omega))⟩, ?_⟩
  refine ⟨⟨by rw [e0 1 (by decide)]; exact e1, by rw [e0 0 (by decide)]; exact e2, by rw [e0 4 (by decide)]; exact e3⟩, by rw [e0 2 (by decide)]; exact ew, ⟨by rw [e0 3 (by decide)]; exact ec, by rw [e0 5 (by decide)]; exact elk, fun j hj => by rw [e 5 (by decide), e 6 (by decide), e 7 (by decide)]; exact eB j hj⟩, fun h0 j hj => by rw [e 4 (by decide)]; exact eL h0 j hj, hv, fun k hk => ?_⟩
  exact ⟨by rw [e 1 (by decide)]; exact (eS k hk).1, fun z => by rw [e 2 (by decide)]; exact (eS k hk).2.1 z, fun j hj => by rw [e 3 (by decide)]; exact (eS k hk).2.2 j hj⟩
theorem eq_reading {s1 m1 : ST} (hR : Rel s1 m1) (x1 x2 x3 : Int32) : ∃ (r : Int32) (s2 : ST) (m2 : ST), F_X6_reading s1 x1 x2 x3 = some (r, s2) ∧ F_X7_reading m1 x1 x2 x3 = some (r, m2) ∧ Rel s2 m2 := by
  have hR0 := hR
  obtain ⟨a, b, ok, hc, hm⟩ := hR
  have ok0 := ok
  have hc0 := hc
  have hm0 := hm
  obtain ⟨o0, o1, o2, o3, oB, oF, oR, oS⟩ := ok
  obtain ⟨⟨c1, c2, c3⟩, cw, ⟨cc, clk, cB⟩, cL, ⟨cn, cR⟩, cS⟩ := hc
  obtain ⟨⟨e1, e2, e3⟩, ew, ⟨ec, elk, eB⟩, eL, ⟨en, eR⟩, eS⟩ := hm
  unfold F_X6_reading F_X7_reading F_X2_add
  rcases rng x1 (a 0 1) (by omega) with ⟨j, hj, rfl⟩ | h
  · rw [has_y cc o1 hj, blk_y ec o1 hj, bs, bs, if_neg n10, if_neg n10]
    rcases rng x2 100 (by decide) with ⟨v, hv, rfl⟩ | h2
    · rw [if_neg (nI_pos (by omega)), if_neg (show ¬ (99 : Int32) < nI v from nI_nlt (a := 99) (by omega) (by decide)), win_y (lo := 0) (hi := 99) (j := v) (a := 0) (b := 99) rfl (by omega) (by omega) (by decide) rfl rfl, bs, if_neg n10]
      rcases rng x3 64 (by decide) with ⟨w, hw, rfl⟩ | h3
      · have cn' : sb s1 16 0 0 = nI (a 0 3) := cn
        rw [(shp_y hw).1, (shp_y hw).2, bs, bs, if_neg n10, if_neg n10, cn', en, if_neg (nI_pos (by omega))]
        by_cases hf : a 0 3 = 8
        · rw [hf]
          refine ⟨-4, gr s1 16 4 (sb s1 16), m1, rfl, rfl, ⟨a, b, ok0, hc0.congr (fun i _ => ?_), hm0⟩⟩
          by_cases hr : 16 ≤ i ∧ i < 16 + 4
          · rw [gr_eq hr]
            show s1 (16 + (i - 16)) = s1 i
            rw [show 16 + (i - 16) = i by omega]
          · rw [gr_ne hr]
        · have h8 : a 0 3 < 8 := by omega
          rw [if_pos (show nI (a 0 3) < 8 from nI_lt (b := 8) h8 (by decide)), if_neg (show ¬ nI (a 0 3) = 8 from nI_ne (b := 8) hf (by omega) (by decide)), ixN h8 (by decide), bs, bs, bs, bs, bs, bs, b2s]
          refine ⟨_, _, _, rfl, rfl, ?_⟩
          refine rd_rel ok0 hc0 hm0 (nr := a 0 3 + 1) (f := un (a 5) (a 0 3) j) (g := un (a 6) (a 0 3) v) (h := un (a 7) (a 0 3) w) (by omega) (fun i hi => ?_) ⟨nI_1 _, fun i hi => ⟨un_at (cR i hi).1 rfl, un_at (cR i hi).2.1 rfl, un_at (cR i hi).2.2 rfl⟩⟩ (fun i hi => ?_) (fun i hi => ?_) ⟨nI_1 _, fun i hi => ⟨un_at (eR i hi).1 rfl, un_at (eR i hi).2.1 rfl, un_at (eR i hi).2.2 rfl⟩⟩
          · unfold un
            by_cases e : i = a 0 3
            · rw [if_pos e, if_pos e, if_pos e]; exact ⟨hj, by omega, hw⟩
            · rw [if_neg e, if_neg e, if_neg e]; exact oR i (by omega)
          · rw [st_eq, upd_ne (by omega)]; rfl
          · rw [st_ne (by omega), st_ne (by omega), st_ne (by omega), st_ne (by omega)]
      · rw [(shp_n h3).1, (shp_n h3).2]
        exact ⟨-2, s1, m1, rfl, rfl, hR0⟩
    · rw [win_n (hi := 99) (n := 100) (by decide) (by decide) rfl h2]
      refine ⟨-2, s1, m1, ?_, rfl, hR0⟩
      rcases h2 with h2 | ⟨h2, h3⟩
      · rw [if_pos h2]
      · rw [if_neg h2, if_pos]
        refine Int32.lt_iff_toInt_lt.mpr ?_
        have z2 := Int32.le_iff_toInt_le.mp h3
        have z3 : (nI 100).toInt = 100 := rfl
        have z4 : (99 : Int32).toInt = 99 := rfl
        omega
  · rw [has_n cc h, blk_n ec h]
    exact ⟨-1, s1, m1, rfl, rfl, hR0⟩
theorem eq_back {s1 m1 : ST} (hR : Rel s1 m1) (x1 : Int32) : ∃ (r : Int32) (s2 : ST) (m2 : ST), F_X6_back s1 x1 = some (r, s2) ∧ F_X7_back m1 x1 = some (r, m2) ∧ Rel s2 m2 := by
  have hR0 := hR
  obtain ⟨a, b, ok, hc, hm⟩ := hR
  have ok0 := ok
  have hc0 := hc
  have hm0 := hm
  obtain ⟨o0, o1, o2, o3, oB, oF, oR, oS⟩ := ok
  obtain ⟨⟨c1, c2, c3⟩, cw, ⟨cc, clk, cB⟩, cL, ⟨cn, cR⟩, cS⟩ := hc
  obtain ⟨⟨e1, e2, e3⟩, ew, ⟨ec, elk, eB⟩, eL, ⟨en, eR⟩, eS⟩ := hm
  unfold F_X6_back F_X7_back
  rw [cn, en]
  rcases rng x1 (a 0 3 + 1) (by omega) with ⟨j, hj, rfl⟩ | h
  · rw [if_neg (nI_pos (by omega)), if_pos (nI_le (by omega) (by omega)), win_y (lo := 0) (j := j) (a := 0) (b := a 0 3) rfl (by omega) (by omega) (by omega) rfl rfl, bs, if_neg n10, pk_sub (by omega)]
    refine ⟨_, _, _, rfl, rfl, ?_⟩
    have h9 := rd_rel (u := st (sb s1 16) 0 0 (nI (a 0 3 - j))) (m' := st m1 0 13 (nI (a 0 3 - j))) ok0 hc0 hm0 (nr := a 0 3 - j) (f := a 5) (g := a 6) (h := a 7) (by omega) (fun i hi => oR i (by omega)) ⟨rfl, cR⟩ (fun i hi => by rw [st_eq, upd_ne (by omega)]) (fun i hi => st_ne (by omega)) ⟨rfl, eR⟩
    obtain ⟨a2, b2, p1, p2, p3⟩ := h9
    refine ⟨a2, b2, p1, p2.congr (fun i hi => ?_), p3⟩
    by_cases hr : 16 ≤ i ∧ i < 16 + 4
    · rcases (show i = 16 ∨ i = 17 ∨ i = 18 ∨ i = 19 by omega) with rfl | rfl | rfl | rfl <;> rfl
    · rw [gr_ne hr, st_ne (by omega)]
  · refine ⟨-2, s1, m1, ?_, ?_, hR0⟩
    · rcases h with h | ⟨h, h3⟩
      · rw [if_pos h]
      · rw [if_neg h, if_neg]
        intro z
        have z1 := Int32.le_iff_toInt_le.mp z
        have z2 := Int32.le_iff_toInt_le.mp h3
        rw [nI_toInt (by omega)] at z1 z2
        omega
    · rw [win_n (n := a 0 3 + 1) (by omega) (by omega) (by rw [Nat.add_sub_cancel]) h]; rfl
