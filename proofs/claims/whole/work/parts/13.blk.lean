/-! the blocks change -/
def ab (a : AS) (lk : Nat) (kd sh pc : Nat → Nat) : AS := fun p => if p = 0 then (fun q => if q = 2 then lk else a 0 q) else if p = 1 then kd else if p = 2 then sh else if p = 3 then pc else a p
theorem AOk.blk {a : AS} (h : AOk a) {lk : Nat} {kd sh pc : Nat → Nat} (hl : lk < 64) (hb : ∀ j, j < 6 → kd j < 3 ∧ sh j < 64 ∧ pc j ≤ 4) : AOk (ab a lk kd sh pc) := by
  obtain ⟨o0, o1, o2, o3, oB, oF, oR, oS⟩ := h
  exact ⟨o0, o1, hl, o3, hb, oF, oR, oS⟩
theorem CRel.blk {s u : ST} {a : AS} {b : ST} {lk : Nat} {kd sh pc : Nat → Nat} {dy : Int32} (h : CRel s a b) (hu : BRel u (a 0 1) lk kd sh pc) (hd : u 0 1 = dy) : CRel (gr s 3 4 u) (ab a lk kd sh pc) (st b 0 2 dy) := by
  obtain ⟨⟨c1, c2, c3⟩, cw, cB, cL, cR, cS⟩ := h
  refine ⟨⟨c1, c2, hd⟩, cw, hu.congr (fun i hi => ?_), cL, cR, fun k hk => ?_⟩
  · show gr s 3 4 u (3 + i) = u i
    rw [gr_eq ⟨by omega, by omega⟩, Nat.add_sub_cancel_left]
  · rw [st_ne (t := b) (p := 1 + k) (by omega)]
    exact (cS k hk).congr (gr_ne (by omega)) (gr_ne (by omega))
theorem MRel.blk {m m' : ST} {a : AS} {b : ST} {lk : Nat} {kd sh pc : Nat → Nat} {dy : Int32} (h : MRel m a b) (e0 : ∀ j, j ≤ 3 ∨ j = 13 → m' 0 j = m 0 j) (e : ∀ i, (1 ≤ i ∧ i ≤ 4) ∨ (10 ≤ i ∧ i ≤ 12) → m' i = m i) (hd : m' 0 4 = dy) (hl : m' 0 5 = nI lk) (hB : ∀ j, j < 6 → m' 5 j = nI (kd j) ∧ m' 6 j = nI (sh j) ∧ m' 7 j = nI (pc j)) : MRel m' (ab a lk kd sh pc) (st b 0 2 dy) := by
  obtain ⟨⟨c1, c2, c3⟩, cw, ⟨cc, clk, cB⟩, cL, ⟨cn, cR⟩, cS⟩ := h
  refine ⟨⟨by rw [e0 1 (by decide)]; exact c1, by rw [e0 0 (by decide)]; exact c2, hd⟩, by rw [e0 2 (by decide)]; exact cw, ⟨by rw [e0 3 (by decide)]; exact cc, hl, hB⟩, fun h0 j hj => by rw [e 4 (by decide)]; exact cL h0 j hj, ⟨by rw [e0 13 (by decide)]; exact cn, fun j hj => by rw [e 10 (by decide), e 11 (by decide), e 12 (by decide)]; exact cR j hj⟩, fun k hk => ?_⟩
  rw [st_ne (t := b) (p := 1 + k) (by omega)]
  exact ⟨by rw [e 1 (by decide)]; exact (cS k hk).1, fun z => by rw [e 2 (by decide)]; exact (cS k hk).2.1 z, fun j hj => by rw [e 3 (by decide)]; exact (cS k hk).2.2 j hj⟩
/-- one number of a block -/
def un (f : Nat → Nat) (j v : Nat) : Nat → Nat := fun i => if i = j then v else f i
theorem un_at {f : Nat → Nat} {g : Nat → Int32} {j v i : Nat} {x : Int32} (h : g i = nI (f i)) (hx : x = nI v) : upd g j x i = nI (un f j v i) := by
  unfold upd un
  by_cases e : i = j
  · rw [if_pos e, if_pos e, hx]
  · rw [if_neg e, if_neg e, h]
theorem un_lt {f : Nat → Nat} {j v i n : Nat} (h : f i < n) (hv : v < n) : un f j v i < n := by
  unfold un
  by_cases e : i = j
  · rw [if_pos e]; exact hv
  · rw [if_neg e]; exact h
theorem row3 {i : Nat} (h : 3 ≤ i ∧ i < 7) : i = 3 ∨ i = 4 ∨ i = 5 ∨ i = 6 := by omega
theorem eq_hurry {s1 m1 : ST} (hR : Rel s1 m1) (x1 x2 : Int32) : ∃ (r : Int32) (s2 : ST) (m2 : ST), F_X6_hurry s1 x1 x2 = some (r, s2) ∧ F_X7_hurry m1 x1 x2 = some (r, m2) ∧ Rel s2 m2 := by
  have hR0 := hR
  obtain ⟨a, b, ok, hc, hm⟩ := hR
  have ok0 := ok
  have hc0 := hc
  have hm0 := hm
  obtain ⟨o0, o1, o2, o3, oB, oF, oR, oS⟩ := ok
  obtain ⟨⟨c1, c2, c3⟩, cw, ⟨cc, clk, cB⟩, cL, ⟨cn, cR⟩, cS⟩ := hc
  obtain ⟨⟨e1, e2, e3⟩, ew, ⟨ec, elk, eB⟩, eL, ⟨en, eR⟩, eS⟩ := hm
  unfold F_X6_hurry F_X7_hurry
  rcases rng x1 (a 0 1) (by omega) with ⟨j, hj, rfl⟩ | h
  · have h6 : j < 6 := by omega
    rw [has_y cc o1 hj, blk_y ec o1 hj, bs, bs, if_neg n10, if_neg n10]
    have r6 : rd 6 (s1 6) (nI j) = some (nI (a 3 j)) := rdE h6 (by decide) (cB j h6).2.2 rfl
    have q7 : rd 6 (m1 7) (nI j) = some (nI (a 3 j)) := rdE h6 (by decide) (eB j h6).2.2 rfl
    rcases rng x2 5 (by decide) with ⟨v, hv, rfl⟩ | h2
    · by_cases hv0 : v = 0
      · subst hv0
        exact ⟨-2, s1, m1, rfl, rfl, hR0⟩
      · rw [if_neg (show ¬ nI v < 1 from nI_nlt (b := 1) (by omega) (by omega)), if_pos (show nI v ≤ 4 from nI_le (b := 4) (by omega) (by decide)), win_y (lo := 1) (hi := 4) (j := v) (a := 1) (b := 4) rfl (by omega) (by omega) (by decide) rfl rfl, bs, if_neg n10, r6, q7, bs, bs, ixN h6 (by decide), bs, bs]
        refine ⟨_, _, _, rfl, rfl, ⟨ab a (a 0 2) (a 1) (a 2) (un (a 3) j v), st b 0 2 (b 0 2), ok0.blk o2 (fun i hi => ⟨(oB i hi).1, (oB i hi).2.1, Nat.lt_succ_iff.mp (un_lt (n := 5) (Nat.lt_succ_iff.mpr (oB i hi).2.2) hv)⟩), ?_, ?_⟩⟩
        · refine (CRel.blk (u := st (sb s1 3) 3 j (nI v)) hc0 ⟨cc, clk, fun i hi => ⟨(cB i hi).1, (cB i hi).2.1, un_at (cB i hi).2.2 rfl⟩⟩ c3).congr (fun i hi => ?_)
          by_cases hr : 3 ≤ i ∧ i < 7
          · rcases row3 hr with rfl | rfl | rfl | rfl <;> rfl
          · rw [gr_ne (by omega), st_ne (by omega)]
        · exact MRel.blk hm0 (fun i _ => rfl) (fun i hi => st_ne (by omega)) e3 elk (fun i hi => ⟨(eB i hi).1, (eB i hi).2.1, un_at (eB i hi).2.2 rfl⟩)
    · refine ⟨-2, s1, m1, ?_, ?_, hR0⟩
      · rcases h2 with h2 | ⟨h2, h3⟩
        · rw [if_pos (Int32.lt_trans h2 (by decide))]
        · have h4 : ¬ x2 < 1 := fun z => by
            have z1 := Int32.lt_iff_toInt_lt.mp z
            have z2 := Int32.le_iff_toInt_le.mp h3
            have z3 : (nI 5).toInt = 5 := rfl
            have z4 : (1 : Int32).toInt = 1 := rfl
            omega
          have h5 : ¬ x2 ≤ 4 := fun z => by
            have z1 := Int32.le_iff_toInt_le.mp z
            have z2 := Int32.le_iff_toInt_le.mp h3
            have z3 : (nI 5).toInt = 5 := rfl
            have z4 : (4 : Int32).toInt = 4 := rfl
            omega
          rw [if_neg h4, if_neg h5]
      · unfold F_X7_within
        rcases h2 with h2 | ⟨h2, h3⟩
        · rw [if_pos (Int32.lt_trans h2 (by decide))]; rfl
        · have h4 : ¬ x2 < 1 := fun z => by
            have z1 := Int32.lt_iff_toInt_lt.mp z
            have z2 := Int32.le_iff_toInt_le.mp h3
            have z3 : (nI 5).toInt = 5 := rfl
            have z4 : (1 : Int32).toInt = 1 := rfl
            omega
          have h5 : 4 < x2 := Int32.lt_iff_toInt_lt.mpr (by
            have z2 := Int32.le_iff_toInt_le.mp h3
            have z3 : (nI 5).toInt = 5 := rfl
            have z4 : (4 : Int32).toInt = 4 := rfl
            omega)
          rw [if_neg h4, if_pos h5]; rfl
  · rw [has_n cc h, blk_n ec h]
    exact ⟨-1, s1, m1, rfl, rfl, hR0⟩
/-- the looked-at set changes on both sides -/
theorem lk_rel {s1 m1 u : ST} {a : AS} {b : ST} (ok : AOk a) (hc : CRel s1 a b) (hm : MRel m1 a b) {lk : Nat} (hl : lk < 64) {x y : Int32} (hu : u = st (sb s1 3) 0 2 x) (hx : x = nI lk) (hy : y = nI lk) : Rel (gr s1 3 4 u) (st m1 0 5 y) := by
  subst hu
  have hc0 := hc
  have hm0 := hm
  obtain ⟨o0, o1, o2, o3, oB, oF, oR, oS⟩ := id ok
  obtain ⟨⟨c1, c2, c3⟩, cw, ⟨cc, clk, cB⟩, cL, ⟨cn, cR⟩, cS⟩ := hc
  obtain ⟨⟨e1, e2, e3⟩, ew, ⟨ec, elk, eB⟩, eL, ⟨en, eR⟩, eS⟩ := hm
  refine ⟨ab a lk (a 1) (a 2) (a 3), st b 0 2 (b 0 2), ok.blk hl oB, ?_, ?_⟩
  · exact CRel.blk hc0 ⟨cc, hx, cB⟩ c3
  · refine MRel.blk hm0 (fun i hi => ?_) (fun i hi => st_ne (by omega)) e3 hy eB
    rw [st_eq, upd_ne (by omega)]
theorem eq_look {s1 m1 : ST} (hR : Rel s1 m1) (x1 : Int32) : ∃ (r : Int32) (s2 : ST) (m2 : ST), F_X6_look s1 x1 = some (r, s2) ∧ F_X7_look m1 x1 = some (r, m2) ∧ Rel s2 m2 := by
  have hR0 := hR
  obtain ⟨a, b, ok, hc, hm⟩ := hR
  have ok0 := ok
  have hc0 := hc
  have hm0 := hm
  obtain ⟨o0, o1, o2, o3, oB, oF, oR, oS⟩ := ok
  obtain ⟨⟨c1, c2, c3⟩, cw, ⟨cc, clk, cB⟩, cL, ⟨cn, cR⟩, cS⟩ := hc
  obtain ⟨⟨e1, e2, e3⟩, ew, ⟨ec, elk, eB⟩, eL, ⟨en, eR⟩, eS⟩ := hm
  unfold F_X6_look F_X7_look F_X0_lookAt F_X0_lookAt_J13
  rcases rng x1 (a 0 1) (by omega) with ⟨j, hj, rfl⟩ | h
  · have h6 : j < 6 := by omega
    rw [has_y cc o1 hj, blk_y ec o1 hj, bs, bs, if_neg n10, if_neg n10, isLk_c clk o2 h6, elk, isOf_m o2 h6, bs, bs]
    have q6 : rd 6 (m1 6) (nI j) = some (nI (a 2 j)) := rdE h6 (by decide) (eB j h6).2.1 rfl
    have lt := lk_t (a 0 2) o2 j h6
    have lb := lk_b (a 0 2) o2 j h6
    have hs : sb s1 3 0 2 ||| (1 <<< (nI j &&& 31)) = nI (a 0 2 ||| 2 ^ j) := by rw [clk]; exact lt.2.1
    rcases lkd_01 (a 0 2) j with e | e
    · rw [e, if_pos (by decide), if_pos (by decide)]
      refine ⟨nI (a 2 j), gr s1 3 4 (st (sb s1 3) 0 2 (sb s1 3 0 2 ||| (1 <<< (nI j &&& 31)))), st m1 0 5 (nI (a 0 2) ||| (1 <<< (nI j &&& 31))), ?_, ?_, ?_⟩
      · show (rd 6 ((st (sb s1 3) 0 2 (sb s1 3 0 2 ||| (1 <<< (nI j &&& 31)))) 2) (nI j)).bind _ = _
        rw [show rd 6 ((st (sb s1 3) 0 2 (sb s1 3 0 2 ||| (1 <<< (nI j &&& 31)))) 2) (nI j) = some (nI (a 2 j)) from rdE h6 (by decide) (cB j h6).2.1 rfl]
        rfl
      · rw [q6]; rfl
      · exact lk_rel ok0 hc0 hm0 lb.1 rfl hs lt.2.1
    · rw [e, if_neg n10', if_neg n10']
      refine ⟨-3, gr s1 3 4 (st (sb s1 3) 0 2 (sb s1 3 0 2 ||| (1 <<< (nI j &&& 31)))), m1, rfl, rfl, ?_⟩
      have h9 := lk_rel (y := nI (a 0 2)) ok0 hc0 hm0 o2 rfl (show sb s1 3 0 2 ||| (1 <<< (nI j &&& 31)) = nI (a 0 2) by rw [hs, (lb.2.2.2.1 e).1]) rfl
      obtain ⟨a2, b2, p1, p2, p3⟩ := h9
      refine ⟨a2, b2, p1, p2, p3.congr (fun i hi => ?_) (fun i hi => (st_ne (by omega)).symm)⟩
      rw [st_eq]
      by_cases h5 : i = 5
      · subst h5; rw [upd_eq, elk]
      · rw [upd_ne h5]
  · rw [has_n cc h, blk_n ec h]
    exact ⟨-1, s1, m1, rfl, rfl, hR0⟩
theorem eq_away {s1 m1 : ST} (hR : Rel s1 m1) (x1 : Int32) : ∃ (r : Int32) (s2 : ST) (m2 : ST), F_X6_away s1 x1 = some (r, s2) ∧ F_X7_away m1 x1 = some (r, m2) ∧ Rel s2 m2 := by
  have hR0 := hR
  obtain ⟨a, b, ok, hc, hm⟩ := hR
  have ok0 := ok
  have hc0 := hc
  have hm0 := hm
  obtain ⟨o0, o1, o2, o3, oB, oF, oR, oS⟩ := ok
  obtain ⟨⟨c1, c2, c3⟩, cw, ⟨cc, clk, cB⟩, cL, ⟨cn, cR⟩, cS⟩ := hc
  obtain ⟨⟨e1, e2, e3⟩, ew, ⟨ec, elk, eB⟩, eL, ⟨en, eR⟩, eS⟩ := hm
  unfold F_X6_away F_X7_away F_X0_lookAwayFrom
  rcases rng x1 (a 0 1) (by omega) with ⟨j, hj, rfl⟩ | h
  · have h6 : j < 6 := by omega
    rw [has_y cc o1 hj, blk_y ec o1 hj, bs, bs, if_neg n10, if_neg n10, isLk_c clk o2 h6, elk, isOf_m o2 h6, bs, bs, b2s]
    have lt := lk_t (a 0 2) o2 j h6
    have lb := lk_b (a 0 2) o2 j h6
    have hs : sb s1 3 0 2 &&& ((1 <<< (nI j &&& 31)) ^^^ (-1)) = nI (a 0 2 - a 0 2 / 2 ^ j % 2 * 2 ^ j) := by rw [clk]; exact lt.2.2.1
    rcases lkd_01 (a 0 2) j with e | e
    · rw [e, if_pos (by decide), if_pos (by decide)]
      refine ⟨-3, gr s1 3 4 (st (sb s1 3) 0 2 (sb s1 3 0 2 &&& ((1 <<< (nI j &&& 31)) ^^^ (-1)))), m1, rfl, rfl, ?_⟩
      have h9 := lk_rel (y := nI (a 0 2)) ok0 hc0 hm0 o2 rfl (show sb s1 3 0 2 &&& ((1 <<< (nI j &&& 31)) ^^^ (-1)) = nI (a 0 2) by rw [hs, (lb.2.2.2.2 e).1]) rfl
      obtain ⟨a2, b2, p1, p2, p3⟩ := h9
      refine ⟨a2, b2, p1, p2, p3.congr (fun i hi => ?_) (fun i hi => (st_ne (by omega)).symm)⟩
      rw [st_eq]
      by_cases h5 : i = 5
      · subst h5; rw [upd_eq, elk]
      · rw [upd_ne h5]
    · rw [e, if_neg n10', if_neg n10']
      refine ⟨nI (pop (a 0 2 - a 0 2 / 2 ^ j % 2 * 2 ^ j)), gr s1 3 4 (st (sb s1 3) 0 2 (sb s1 3 0 2 &&& ((1 <<< (nI j &&& 31)) ^^^ (-1)))), st m1 0 5 (nI (a 0 2) &&& ((1 <<< (nI j &&& 31)) ^^^ (-1))), ?_, ?_, ?_⟩
      · show (F_J6_bitCount_0f7a4 (sb s1 3 0 2 &&& ((1 <<< (nI j &&& 31)) ^^^ (-1)))).bind _ = _
        rw [hs, bc_c _ (Nat.lt_trans lb.2.1 (by decide))]
        rfl
      · rw [lt.2.2.1, size_m _ (Nat.lt_trans lb.2.1 (by decide))]; rfl
      · exact lk_rel ok0 hc0 hm0 lb.2.1 rfl hs lt.2.2.1
  · rw [has_n cc h, blk_n ec h]
    exact ⟨-1, s1, m1, rfl, rfl, hR0⟩
theorem xr_t : ∀ x, x < 64 → ∀ k, k < 6 → (nI x ^^^ (1 <<< (nI k &&& 31))) = nI (x ^^^ 2 ^ k) ∧ (x ^^^ 2 ^ k) < 64 := by decide +kernel
theorem eq_stroke {s1 m1 : ST} (hR : Rel s1 m1) (x1 x2 : Int32) : ∃ (r : Int32) (s2 : ST) (m2 : ST), F_X6_stroke s1 x1 x2 = some (r, s2) ∧ F_X7_stroke m1 x1 x2 = some (r, m2) ∧ Rel s2 m2 := by
  have hR0 := hR
  obtain ⟨a, b, ok, hc, hm⟩ := hR
  have ok0 := ok
  have hc0 := hc
  have hm0 := hm
  obtain ⟨o0, o1, o2, o3, oB, oF, oR, oS⟩ := ok
  obtain ⟨⟨c1, c2, c3⟩, cw, ⟨cc, clk, cB⟩, cL, ⟨cn, cR⟩, cS⟩ := hc
  obtain ⟨⟨e1, e2, e3⟩, ew, ⟨ec, elk, eB⟩, eL, ⟨en, eR⟩, eS⟩ := hm
  unfold F_X6_stroke F_X7_stroke F_X0_strikeAt
  rcases rng x1 (a 0 1) (by omega) with ⟨j, hj, rfl⟩ | h
  · have h6 : j < 6 := by omega
    rw [has_y cc o1 hj, blk_y ec o1 hj, bs, bs, if_neg n10, if_neg n10]
    have r5 : rd 6 (sb s1 3 2) (nI j) = some (nI (a 2 j)) := rdE h6 (by decide) (cB j h6).2.1 rfl
    have q6 : rd 6 (m1 6) (nI j) = some (nI (a 2 j)) := rdE h6 (by decide) (eB j h6).2.1 rfl
    rcases rng x2 6 (by decide) with ⟨v, hv, rfl⟩ | h2
    · obtain ⟨t1, t2⟩ := xr_t (a 2 j) (oB j h6).2.1 v hv
      rw [if_neg (nI_pos (by omega)), if_pos (show nI v < 6 from nI_lt (b := 6) hv (by decide)), win_y (lo := 0) (hi := 5) (j := v) (a := 0) (b := 5) rfl (by omega) (by omega) (by decide) rfl rfl, bs, if_neg n10, r5, q6, bs, bs, ixN h6 (by decide), bs, bs, bs, t1]
      refine ⟨nI (a 2 j ^^^ 2 ^ v), gr s1 3 4 (st (sb s1 3) 2 j (nI (a 2 j ^^^ 2 ^ v))), st m1 6 j (nI (a 2 j ^^^ 2 ^ v)), ?_, ?_, ⟨ab a (a 0 2) (a 1) (un (a 2) j (a 2 j ^^^ 2 ^ v)) (a 3), st b 0 2 (b 0 2), ok0.blk o2 (fun i hi => ⟨(oB i hi).1, un_lt (oB i hi).2.1 t2, (oB i hi).2.2⟩), ?_, ?_⟩⟩
      · rw [show rd 6 ((st (sb s1 3) 2 j (nI (a 2 j ^^^ 2 ^ v))) 2) (nI j) = some (nI (a 2 j ^^^ 2 ^ v)) from rdE h6 (by decide) upd_eq rfl]; rfl
      · rw [show rd 6 ((st m1 6 j (nI (a 2 j ^^^ 2 ^ v))) 6) (nI j) = some (nI (a 2 j ^^^ 2 ^ v)) from rdE h6 (by decide) upd_eq rfl]; rfl
      · exact CRel.blk hc0 ⟨cc, clk, fun i hi => ⟨(cB i hi).1, un_at (cB i hi).2.1 rfl, (cB i hi).2.2⟩⟩ c3
      · exact MRel.blk hm0 (fun i _ => rfl) (fun i hi => st_ne (by omega)) e3 elk (fun i hi => ⟨(eB i hi).1, un_at (eB i hi).2.1 rfl, (eB i hi).2.2⟩)
    · rw [win_n (hi := 5) (n := 6) (by decide) (by decide) rfl h2]
      refine ⟨-2, s1, m1, ?_, rfl, hR0⟩
      rcases h2 with h2 | ⟨h2, h3⟩
      · rw [if_pos h2]
      · rw [if_neg h2, if_neg (show ¬ x2 < 6 from Int32.not_lt.mpr h3)]
  · rw [has_n cc h, blk_n ec h]
    exact ⟨-1, s1, m1, rfl, rfl, hR0⟩
