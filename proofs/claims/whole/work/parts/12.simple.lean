/-! what a change leaves as it was -/
theorem BRel.congr {t t' : ST} {c lk : Nat} {kd sh pc : Nat → Nat} (h : BRel t c lk kd sh pc) (e : ∀ i, i ≤ 3 → t' i = t i) : BRel t' c lk kd sh pc := by
  obtain ⟨h1, h2, h3⟩ := h
  exact ⟨by rw [e 0 (by decide)]; exact h1, by rw [e 0 (by decide)]; exact h2, fun j hj => by rw [e 1 (by decide), e 2 (by decide), e 3 (by decide)]; exact h3 j hj⟩
theorem LRel.congr {t t' : ST} {f : Nat → Nat} (h : LRel t f) (e : t' 1 = t 1) : LRel t' f := fun n hn j hj => by rw [e]; exact h n hn j hj
theorem SRel.congr {t t' : ST} {so ln : Nat} {ce : Nat → Int32} (h : SRel t so ln ce) (e0 : t' 0 = t 0) (e1 : t' 1 = t 1) : SRel t' so ln ce := by
  obtain ⟨h1, h2, h3⟩ := h
  exact ⟨by rw [e0]; exact h1, fun z => by rw [e0]; exact h2 z, fun j hj => by rw [e1]; exact h3 j hj⟩
theorem CRel.congr {s s' : ST} {a : AS} {b : ST} (h : CRel s a b) (e : ∀ i, i ≤ 6 ∨ 16 ≤ i → s' i = s i) : CRel s' a b := by
  obtain ⟨⟨c1, c2, c3⟩, cw, cB, cL, ⟨cn, cR⟩, cS⟩ := h
  refine ⟨⟨by rw [e 0 (by decide)]; exact c1, by rw [e 0 (by decide)]; exact c2, by rw [e 3 (by decide)]; exact c3⟩, by rw [e 1 (by decide)]; exact cw, cB.congr (fun i hi => e (3 + i) (by omega)), fun h0 => (cL h0).congr (e 2 (by decide)), ⟨by rw [e 16 (by decide)]; exact cn, fun j hj => by rw [e 17 (by decide), e 18 (by decide), e 19 (by decide)]; exact cR j hj⟩, fun k hk => (cS k hk).congr (e (20 + 2 * k + 0) (by omega)) (e (20 + 2 * k + 1) (by omega))⟩
theorem MRel.congr {m m' : ST} {a : AS} {b : ST} (h : MRel m a b) (e0 : ∀ j, j ≤ 5 ∨ j = 13 → m' 0 j = m 0 j) (e : ∀ i, (1 ≤ i ∧ i ≤ 7) ∨ (10 ≤ i ∧ i ≤ 12) → m' i = m i) : MRel m' a b := by
  obtain ⟨⟨c1, c2, c3⟩, cw, ⟨cc, clk, cB⟩, cL, ⟨cn, cR⟩, cS⟩ := h
  refine ⟨⟨by rw [e0 1 (by decide)]; exact c1, by rw [e0 0 (by decide)]; exact c2, by rw [e0 4 (by decide)]; exact c3⟩, by rw [e0 2 (by decide)]; exact cw, ⟨by rw [e0 3 (by decide)]; exact cc, by rw [e0 5 (by decide)]; exact clk, fun j hj => by rw [e 5 (by decide), e 6 (by decide), e 7 (by decide)]; exact cB j hj⟩, fun h0 j hj => by rw [e 4 (by decide)]; exact cL h0 j hj, ⟨by rw [e0 13 (by decide)]; exact cn, fun j hj => by rw [e 10 (by decide), e 11 (by decide), e 12 (by decide)]; exact cR j hj⟩, fun k hk => ⟨by rw [e 1 (by decide)]; exact (cS k hk).1, fun z => by rw [e 2 (by decide)]; exact (cS k hk).2.1 z, fun j hj => by rw [e 3 (by decide)]; exact (cS k hk).2.2 j hj⟩⟩
theorem st_ne {t : ST} {i j p : Nat} {x : Int32} (h : p ≠ i) : st t i j x p = t p := if_neg h
theorem st_eq {t : ST} {i j : Nat} {x : Int32} : st t i j x i = upd (t i) j x := if_pos rfl
theorem gr_ne {t u : ST} {b n i : Nat} (h : ¬ (b ≤ i ∧ i < b + n)) : gr t b n u i = t i := if_neg h
theorem gr_eq {t u : ST} {b n i : Nat} (h : b ≤ i ∧ i < b + n) : gr t b n u i = u (i - b) := if_pos h
theorem upd_ne {f : Nat → Int32} {k j : Nat} {x : Int32} (h : j ≠ k) : upd f k x j = f j := if_neg h
theorem upd_eq {f : Nat → Int32} {k : Nat} {x : Int32} : upd f k x k = x := if_pos rfl
/-- the fault of the latest call -/
theorem Rel.fault {s m : ST} (h : Rel s m) (x : Int32) : Rel (st s 0 1 x) (st m 0 0 x) := by
  obtain ⟨a, b, ok, ⟨⟨c1, c2, c3⟩, cw, cB, cL, cR, cS⟩, ⟨⟨m1, m2, m3⟩, mw, mB, mL, mR, mS⟩⟩ := h
  refine ⟨a, st b 0 1 x, ok, ⟨⟨c1, rfl, c3⟩, cw, cB, cL, cR, fun k hk => ?_⟩, ⟨⟨m1, rfl, m3⟩, mw, mB, mL, mR, fun k hk => ?_⟩⟩
  · rw [st_ne (t := b) (p := 1 + k) (by omega)]
    exact (cS k hk).congr (st_ne (by omega)) (st_ne (by omega))
  · rw [st_ne (t := b) (p := 1 + k) (by omega)]
    exact mS k hk
theorem Rel.trace {s m : ST} (h : Rel s m) (x : Int32) : Rel (st s 0 0 x) (st m 0 1 x) := by
  obtain ⟨a, b, ok, ⟨⟨c1, c2, c3⟩, cw, cB, cL, cR, cS⟩, ⟨⟨m1, m2, m3⟩, mw, mB, mL, mR, mS⟩⟩ := h
  refine ⟨a, st b 0 0 x, ok, ⟨⟨rfl, c2, c3⟩, cw, cB, cL, cR, fun k hk => ?_⟩, ⟨⟨rfl, m2, m3⟩, mw, mB, mL, mR, fun k hk => ?_⟩⟩
  · rw [st_ne (t := b) (p := 1 + k) (by omega)]
    exact (cS k hk).congr (st_ne (by omega)) (st_ne (by omega))
  · rw [st_ne (t := b) (p := 1 + k) (by omega)]
    exact mS k hk
theorem Rel.tr_eq {s m : ST} (h : Rel s m) : s 0 0 = m 0 1 := by
  obtain ⟨a, b, ok, ⟨⟨c1, c2, c3⟩, -⟩, ⟨⟨m1, m2, m3⟩, -⟩⟩ := h
  exact c1.trans m1.symm
theorem Rel.fa_eq {s m : ST} (h : Rel s m) : s 0 1 = m 0 0 := by
  obtain ⟨a, b, ok, ⟨⟨c1, c2, c3⟩, -⟩, ⟨⟨m1, m2, m3⟩, -⟩⟩ := h
  exact c2.trans m2.symm
theorem eq_trace {s1 m1 : ST} (hR : Rel s1 m1) : ∃ (r : Int32), F_X6_trace s1 = some r ∧ F_X7_trace m1 = some r := ⟨s1 0 0, rfl, by unfold F_X7_trace; rw [hR.tr_eq]⟩
theorem eq_fault {s1 m1 : ST} (hR : Rel s1 m1) : ∃ (r : Int32), F_X6_fault s1 = some r ∧ F_X7_fault m1 = some r := ⟨s1 0 1, rfl, by unfold F_X7_fault; rw [hR.fa_eq]⟩
theorem eq_many {s1 m1 : ST} (hR : Rel s1 m1) (x1 : Int32) : ∃ (r : Int32), F_X6_many s1 x1 = some r ∧ F_X7_many m1 x1 = some r := by
  obtain ⟨a, b, ⟨o0, o1, o2, o3, oB, oF, oR, oS⟩, ⟨⟨c1, c2, c3⟩, cw, ⟨cc, clk, cB⟩, cL, ⟨cn, cR⟩, cS⟩, ⟨⟨e1, e2, e3⟩, ew, ⟨ec, elk, eB⟩, eL, ⟨en, eR⟩, eS⟩⟩ := hR
  have k1 : s1 3 0 = m1 0 3 := (show s1 3 0 = _ from cc).trans ec.symm
  have k2 : s1 1 0 = m1 0 2 := cw.trans ew.symm
  have k3 : s1 3 1 = m1 0 4 := c3.trans e3.symm
  have k5 : s1 16 0 = m1 0 13 := cn.trans en.symm
  unfold F_X6_many F_X7_many
  by_cases h0 : x1 = 0
  · exact ⟨m1 0 3, by rw [if_pos h0, k1], by rw [if_pos h0]⟩
  by_cases h1 : x1 = 1
  · exact ⟨m1 0 2, by rw [if_neg h0, if_pos h1, k2], by rw [if_neg h0, if_pos h1]⟩
  by_cases h2 : x1 = 2
  · exact ⟨m1 0 4, by rw [if_neg h0, if_neg h1, if_pos h2, k3], by rw [if_neg h0, if_neg h1, if_pos h2]⟩
  by_cases h3 : x1 = 3
  · refine ⟨nI (pop (a 0 2)), ?_, ?_⟩
    · rw [if_neg h0, if_neg h1, if_neg h2, if_pos h3, show s1 3 2 = nI (a 0 2) from clk, bc_c _ (by omega)]; rfl
    · rw [if_neg h0, if_neg h1, if_neg h2, if_pos h3, elk, size_m _ (by omega)]; rfl
  by_cases h4 : x1 = 4
  · exact ⟨m1 0 13, by rw [if_neg h0, if_neg h1, if_neg h2, if_neg h3, if_pos h4, k5], by rw [if_neg h0, if_neg h1, if_neg h2, if_neg h3, if_pos h4]⟩
  · exact ⟨-2, by rw [if_neg h0, if_neg h1, if_neg h2, if_neg h3, if_neg h4], by rw [if_neg h0, if_neg h1, if_neg h2, if_neg h3, if_neg h4]⟩
theorem eq_ofBlock {s1 m1 : ST} (hR : Rel s1 m1) (x1 x2 : Int32) : ∃ (r : Int32), F_X6_ofBlock s1 x1 x2 = some r ∧ F_X7_ofBlock m1 x1 x2 = some r := by
  obtain ⟨a, b, ⟨o0, o1, o2, o3, oB, oF, oR, oS⟩, ⟨⟨c1, c2, c3⟩, cw, ⟨cc, clk, cB⟩, cL, ⟨cn, cR⟩, cS⟩, ⟨⟨e1, e2, e3⟩, ew, ⟨ec, elk, eB⟩, eL, ⟨en, eR⟩, eS⟩⟩ := hR
  unfold F_X6_ofBlock F_X7_ofBlock
  rcases rng x1 (a 0 1) (by omega) with ⟨j, hj, rfl⟩ | h
  · have h6 : j < 6 := by omega
    rw [has_y cc o1 hj, blk_y ec o1 hj, bs, bs, if_neg n10, if_neg n10]
    have r4 : rd 6 (s1 4) (nI j) = some (nI (a 1 j)) := rdE h6 (by decide) (cB j h6).1 rfl
    have r5 : rd 6 (s1 5) (nI j) = some (nI (a 2 j)) := rdE h6 (by decide) (cB j h6).2.1 rfl
    have r6 : rd 6 (s1 6) (nI j) = some (nI (a 3 j)) := rdE h6 (by decide) (cB j h6).2.2 rfl
    have q5 : rd 6 (m1 5) (nI j) = some (nI (a 1 j)) := rdE h6 (by decide) (eB j h6).1 rfl
    have q6 : rd 6 (m1 6) (nI j) = some (nI (a 2 j)) := rdE h6 (by decide) (eB j h6).2.1 rfl
    have q7 : rd 6 (m1 7) (nI j) = some (nI (a 3 j)) := rdE h6 (by decide) (eB j h6).2.2 rfl
    by_cases h0 : x2 = 0
    · exact ⟨nI (a 1 j), by rw [if_pos h0, r4]; rfl, by rw [if_pos h0, q5]; rfl⟩
    by_cases h1 : x2 = 1
    · exact ⟨nI (a 2 j), by rw [if_neg h0, if_pos h1, r5]; rfl, by rw [if_neg h0, if_pos h1, q6]; rfl⟩
    by_cases h2 : x2 = 2
    · exact ⟨nI (a 3 j), by rw [if_neg h0, if_neg h1, if_pos h2, r6]; rfl, by rw [if_neg h0, if_neg h1, if_pos h2, q7]; rfl⟩
    by_cases h3 : x2 = 3
    · exact ⟨nI (gs (a 1 j) (a 3 j)), by rw [if_neg h0, if_neg h1, if_neg h2, if_pos h3, goes_c h6 (cB j h6).1 (cB j h6).2.2 (oB j h6).1]; rfl, by rw [if_neg h0, if_neg h1, if_neg h2, if_pos h3, goes_m h6 (eB j h6).1 (eB j h6).2.2 (oB j h6).1]; rfl⟩
    by_cases h4 : x2 = 4
    · refine ⟨nI (lkd (a 0 2) j), ?_, ?_⟩
      · rw [if_neg h0, if_neg h1, if_neg h2, if_neg h3, if_pos h4, isLk_c clk o2 h6, bs]
        rcases lkd_01 (a 0 2) j with e | e
        · rw [e]; rfl
        · rw [e]; rfl
      · rw [if_neg h0, if_neg h1, if_neg h2, if_neg h3, if_pos h4, elk, (lk_t (a 0 2) o2 j h6).1]
    by_cases h5 : x2 = 5
    · exact ⟨nI (pop (a 2 j)), by rw [if_neg h0, if_neg h1, if_neg h2, if_neg h3, if_neg h4, if_pos h5, r5, bs, bc_c _ (Nat.lt_trans (oB j h6).2.1 (by decide))]; rfl, by rw [if_neg h0, if_neg h1, if_neg h2, if_neg h3, if_neg h4, if_pos h5, q6, bs, size_m _ (Nat.lt_trans (oB j h6).2.1 (by decide))]; rfl⟩
    · exact ⟨-2, by rw [if_neg h0, if_neg h1, if_neg h2, if_neg h3, if_neg h4, if_neg h5], by rw [if_neg h0, if_neg h1, if_neg h2, if_neg h3, if_neg h4, if_neg h5]⟩
  · rw [has_n cc h, blk_n ec h]
    exact ⟨-1, rfl, rfl⟩
theorem hasG_y {t : ST} {c : Nat} (h : t 3 0 = nI c) (h0 : 0 < c) (h6 : c ≤ 6) : F_X6_hasGarden t = some 1 := by
  unfold F_X6_hasGarden
  rw [h, if_neg (nI_nle h0 (by omega))]
theorem hasG_n {t : ST} {c : Nat} (h : t 3 0 = nI c) (h0 : c = 0) : F_X6_hasGarden t = some 0 := by
  unfold F_X6_hasGarden
  subst h0
  rw [h, if_pos (by decide)]
theorem eq_becomes {s1 m1 : ST} (hR : Rel s1 m1) (x1 : Int32) : ∃ (r : Int32), F_X6_becomes s1 x1 = some r ∧ F_X7_becomes m1 x1 = some r := by
  obtain ⟨a, b, ⟨o0, o1, o2, o3, oB, oF, oR, oS⟩, ⟨⟨c1, c2, c3⟩, cw, ⟨cc, clk, cB⟩, cL, ⟨cn, cR⟩, cS⟩, ⟨⟨e1, e2, e3⟩, ew, ⟨ec, elk, eB⟩, eL, ⟨en, eR⟩, eS⟩⟩ := hR
  unfold F_X6_becomes F_X7_becomes F_X6_refusalOfShape
  rcases rng x1 64 (by decide) with ⟨j, hj, rfl⟩ | h
  · rw [(shp_y hj).1, (shp_y hj).2, bs, bs, if_neg n10, if_neg n10]
    by_cases hz : a 0 1 = 0
    · rw [hasG_n cc hz, ec, hz]
      exact ⟨-3, rfl, rfl⟩
    · have h0 : 0 < a 0 1 := Nat.pos_of_ne_zero hz
      rw [hasG_y cc h0 o1, ec, if_neg (nI_ne0 h0 (by omega))]
      refine ⟨nI (a 4 j), ?_, ?_⟩
      · show (F_X1_after (sb s1 1) (nI j) (nI 1)).bind _ = _
        rw [after_c (cL h0) hj (by decide)]; rfl
      · rw [rdE hj (by decide) (eL h0 j hj) rfl]; rfl
  · rw [(shp_n h).1, (shp_n h).2]
    exact ⟨-2, rfl, rfl⟩
