/-! sheets -/
def sc (so : Nat) : Int32 := if so = 0 then -9 else nI (so - 1)
theorem sc_ne : ∀ so, so ≤ 3 → so ≠ 0 → ¬ sc so = -9 := by decide +kernel
theorem sc_s {so : Nat} (h : so ≠ 0) : sc so = nI (so - 1) := if_neg h
theorem ft_eq {t m : ST} {so ln k : Nat} {ce : Nat → Int32} (hs : SRel t so ln ce) (h3 : so ≤ 3) (hl : ln ≤ 60) (hk : k < 4) (h1 : m 1 k = sc so) (h2 : so ≠ 0 → m 2 k = nI ln) (x2 x3 x4 : Int32) : ∃ r, F_X3_faultOfTaking t x2 x3 x4 = some r ∧ F_X7_against m (nI k) x2 x3 x4 = some r ∧ (r = 0 → so ≠ 0 ∧ ∃ i n, x3 = nI i ∧ x4 = nI n ∧ i + n ≤ ln) := by
  obtain ⟨hr, hf, -⟩ := hs
  unfold F_X3_faultOfTaking F_X7_against
  have q1 : rd 4 (m 1) (nI k) = some (sc so) := rdE hk (by decide) h1 rfl
  by_cases h0 : so = 0
  · subst h0
    unfold F_X3_faultOfTaking_J17 F_X7_against_J23
    rw [hr, q1]
    exact ⟨1, rfl, rfl, fun z => absurd z (by decide)⟩
  · obtain ⟨f1, f2⟩ := hf h0
    have q2 : rd 4 (m 2) (nI k) = some (nI ln) := rdE hk (by decide) (h2 h0) rfl
    have hr1 : t 0 0 = 1 := by rw [hr, if_neg h0]
    rw [hr1, if_neg n10, q1, bs, if_neg (sc_ne so h3 h0), f1, ← sc_s h0]
    by_cases hx : sc so = x2
    · rw [bs, if_pos hx, if_pos hx]
      unfold F_X3_faultOfTaking_J17 F_X7_against_J23 F_X3_reaches
      rw [hr1, if_neg n10, q1, bs, if_neg (sc_ne so h3 h0), f2, q2]
      by_cases h4 : 0 ≤ x4
      · rw [if_pos h4, if_pos h4]
        by_cases h5 : x3 < 0
        · rw [if_pos h5, if_pos h5]
          exact ⟨3, rfl, rfl, fun z => absurd z (by decide)⟩
        · rw [if_neg h5, if_neg h5, bs]
          by_cases h6 : nI ln < x3
          · rw [if_pos h6, if_pos h6]
            exact ⟨3, rfl, rfl, fun z => absurd z (by decide)⟩
          · rw [if_neg h6, if_neg h6, if_neg (Int32.not_lt.mpr h4), bs]
            by_cases h7 : x4 ≤ nI ln - x3
            · rw [if_pos h7, if_neg (Int32.not_lt.mpr h7)]
              refine ⟨0, rfl, rfl, fun _ => ⟨h0, ?_⟩⟩
              obtain ⟨i, hi, e3⟩ := nI_of h5
              obtain ⟨n, hn, e4⟩ := nI_of (Int32.not_lt.mpr h4)
              refine ⟨i, n, e3, e4, ?_⟩
              subst e3; subst e4
              have z1 : i ≤ ln := by
                have := Int32.not_lt.mp h6
                exact (nI_leI hi (by omega)).mp this
              rw [pk_sub z1] at h7
              have z2 := (nI_leI hn (by omega)).mp h7
              omega
            · rw [if_neg h7, if_pos (Int32.not_le.mp h7)]
              exact ⟨3, rfl, rfl, fun z => absurd z (by decide)⟩
      · rw [if_neg h4, if_neg h4]
        exact ⟨4, rfl, rfl, fun z => absurd z (by decide)⟩
    · rw [if_neg hx, bs, if_neg hx]
      exact ⟨2, rfl, rfl, fun z => absurd z (by decide)⟩
def ah (a : AS) (k so ln : Nat) : AS := fun p => if p = 8 then un (a 8) k so else if p = 9 then un (a 9) k ln else a p
def bh (b : ST) (k : Nat) (ce : Nat → Int32) : ST := fun p => if p = 0 then b 0 else if p = 1 + k then ce else b p
theorem bh_s (b : ST) (k : Nat) (ce : Nat → Int32) (j : Nat) : bh b k ce (1 + j) = if j = k then ce else b (1 + j) := by
  unfold bh
  rw [if_neg (by omega)]
  by_cases h : j = k
  · rw [if_pos h, if_pos (by omega)]
  · rw [if_neg h, if_neg (by omega)]
theorem sh_rel {s m u m' : ST} {a : AS} {b : ST} (ok : AOk a) (hc : CRel s a b) (hm : MRel m a b) {k so ln : Nat} {ce : Nat → Int32} (hk : k < 4) (h3 : so ≤ 3) (hl : ln ≤ 60) (hu : SRel u so ln ce) (e0 : ∀ j, j ≤ 5 ∨ j = 13 → m' 0 j = m 0 j) (e : ∀ i, (4 ≤ i ∧ i ≤ 7) ∨ (10 ≤ i ∧ i ≤ 12) → m' i = m i) (e1 : ∀ j, j < 4 → j ≠ k → m' 1 j = m 1 j ∧ m' 2 j = m 2 j ∧ ∀ i, i < 60 → m' 3 (60 * j + i) = m 3 (60 * j + i)) (f1 : m' 1 k = sc so) (f2 : so ≠ 0 → m' 2 k = nI ln) (f3 : ∀ i, i < 60 → m' 3 (60 * k + i) = ce i) : Rel (gr s (20 + 2 * k) 2 u) m' := by
  obtain ⟨o0, o1, o2, o3, oB, oF, oR, oS⟩ := ok
  obtain ⟨⟨c1, c2, c3⟩, cw, cB, cL, ⟨cn, cR⟩, cS⟩ := hc
  obtain ⟨⟨d1, d2, d3⟩, ew, ⟨ec, elk, eB⟩, eL, ⟨en, eR⟩, eS⟩ := hm
  have g : ∀ i, i < 20 → gr s (20 + 2 * k) 2 u i = s i := fun i hi => gr_ne (by omega)
  refine ⟨ah a k so ln, bh b k ce, ⟨o0, o1, o2, o3, oB, oF, oR, fun j hj => ?_⟩, ⟨⟨by rw [g 0 (by decide)]; exact c1, by rw [g 0 (by decide)]; exact c2, by rw [g 3 (by decide)]; exact c3⟩, by rw [g 1 (by decide)]; exact cw, cB.congr (fun i hi => g (3 + i) (by omega)), fun h0 => (cL h0).congr (g 2 (by decide)), ⟨by rw [g 16 (by decide)]; exact cn, fun j hj => by rw [g 17 (by decide), g 18 (by decide), g 19 (by decide)]; exact cR j hj⟩, fun j hj => ?_⟩, ⟨⟨by rw [e0 1 (by decide)]; exact d1, by rw [e0 0 (by decide)]; exact d2, by rw [e0 4 (by decide)]; exact d3⟩, by rw [e0 2 (by decide)]; exact ew, ⟨by rw [e0 3 (by decide)]; exact ec, by rw [e0 5 (by decide)]; exact elk, fun j hj => by rw [e 5 (by decide), e 6 (by decide), e 7 (by decide)]; exact eB j hj⟩, fun h0 j hj => by rw [e 4 (by decide)]; exact eL h0 j hj, ⟨by rw [e0 13 (by decide)]; exact en, fun j hj => by rw [e 10 (by decide), e 11 (by decide), e 12 (by decide)]; exact eR j hj⟩, fun j hj => ?_⟩⟩
  · show un (a 8) k so j ≤ 3 ∧ un (a 9) k ln j ≤ 60
    unfold un
    by_cases hjk : j = k
    · rw [if_pos hjk, if_pos hjk]; exact ⟨h3, hl⟩
    · rw [if_neg hjk, if_neg hjk]; exact oS j hj
  · show SRel (sb (gr s (20 + 2 * k) 2 u) (20 + 2 * j)) (un (a 8) k so j) (un (a 9) k ln j) (bh b k ce (1 + j))
    rw [bh_s]
    unfold un
    by_cases hjk : j = k
    · subst hjk
      rw [if_pos rfl, if_pos rfl, if_pos rfl]
      refine hu.congr ?_ ?_
      · show gr s (20 + 2 * j) 2 u (20 + 2 * j + 0) = u 0
        rw [gr_eq (by omega)]; congr 1; omega
      · show gr s (20 + 2 * j) 2 u (20 + 2 * j + 1) = u 1
        rw [gr_eq (by omega)]; congr 1; omega
    · rw [if_neg hjk, if_neg hjk, if_neg hjk]
      exact (cS j hj).congr (gr_ne (by omega)) (gr_ne (by omega))
  · show m' 1 j = (if un (a 8) k so j = 0 then -9 else nI (un (a 8) k so j - 1)) ∧ (un (a 8) k so j ≠ 0 → m' 2 j = nI (un (a 9) k ln j)) ∧ ∀ i, i < 60 → m' 3 (60 * j + i) = bh b k ce (1 + j) i
    rw [bh_s]
    unfold un
    by_cases hjk : j = k
    · subst hjk
      rw [if_pos rfl, if_pos rfl, if_pos rfl]
      exact ⟨f1, f2, f3⟩
    · rw [if_neg hjk, if_neg hjk, if_neg hjk]
      obtain ⟨g1, g2, g3⟩ := e1 j hj hjk
      exact ⟨by rw [g1]; exact (eS j hj).1, fun z => by rw [g2]; exact (eS j hj).2.1 z, fun i hi => by rw [g3 i hi]; exact (eS j hj).2.2 i hi⟩
theorem eq_lose {s1 m1 : ST} (hR : Rel s1 m1) (x1 : Int32) : ∃ (r : Int32) (s2 : ST) (m2 : ST), F_X6_lose s1 x1 = some (r, s2) ∧ F_X7_lose m1 x1 = some (r, m2) ∧ Rel s2 m2 := by
  have hR0 := hR
  obtain ⟨a, b, ok, hc, hm⟩ := hR
  have hS := hc.2.2.2.2.2
  have eS := hm.2.2.2.2.2
  have oS := ok.2.2.2.2.2.2.2
  unfold F_X6_lose F_X7_lose F_X7_lose_J25 F_X3_empty
  rcases rng x1 4 (by decide) with ⟨k, hk, rfl⟩ | h
  · obtain ⟨h1, h2, h3⟩ := hS k hk
    obtain ⟨g1, g2, g3⟩ := eS k hk
    rw [(sht_y hk).1, (sht_y hk).2, bs, bs, if_neg n10, if_neg n10, ixN hk (by decide), bs, rdE hk (by decide) g1 rfl, bs, bs, bs]
    have hrel : Rel (gr s1 (20 + 2 * k) 2 (st (st (sb s1 (20 + 2 * k)) 0 0 0) 0 2 0)) (st m1 1 k (-9)) := by
      refine sh_rel ok hc hm hk (so := 0) (ln := a 9 k) (ce := b (1 + k)) (by decide) (oS k hk).2 ⟨rfl, fun z => absurd rfl z, h3⟩ (fun j _ => rfl) (fun i hi => st_ne (by omega)) (fun j hj hjk => ⟨by rw [st_eq, upd_ne hjk], rfl, fun i _ => rfl⟩) (by rw [st_eq, upd_eq]; rfl) (fun z => absurd rfl z) (fun i hi => g3 i hi)
    by_cases h0 : a 8 k = 0
    · rw [h0] at h1 ⊢
      rw [h1]
      exact ⟨0, _, _, rfl, rfl, hrel⟩
    · rw [if_neg h0] at h1
      rw [h1, if_neg (show ¬ (if a 8 k = 0 then (-9 : Int32) else nI (a 8 k - 1)) = -9 from sc_ne _ (oS k hk).1 h0)]
      exact ⟨1, _, _, rfl, rfl, hrel⟩
  · rw [(sht_n h).1, (sht_n h).2]
    exact ⟨-1, s1, m1, rfl, rfl, hR0⟩
theorem fill_c (t : ST) : ∃ u : ST, F_J7_fill_53178 t 0 = some u ∧ ∀ j, j < 60 → u 0 j = 0 := by
  have key : ∀ n i (s : ST), i ≤ 60 → 60 - i < n → (∀ j, j < i → s 0 j = 0) → ∃ u : ST, F_J7_fill_53178_L5 0 60 (fun _ s => some s) n (nI i) s = some u ∧ ∀ j, j < 60 → u 0 j = 0 := by
    intro n
    induction n with
    | zero => intro i s _ h; omega
    | succ n ih =>
      intro i s hi hn hs
      rw [F_J7_fill_53178_L5.eq_2]
      by_cases h : i = 60
      · subst h
        rw [if_pos (show (60 : Int32) ≤ nI 60 from nI_le (a := 60) (Nat.le_refl _) (by decide))]
        exact ⟨s, rfl, hs⟩
      · rw [if_neg (show ¬ (60 : Int32) ≤ nI i from nI_ge (b := 60) (by omega) (by decide)), ixN (by omega) (by decide), bs, nI_1]
        refine ih (i + 1) _ (by omega) (by omega) (fun j hj => ?_)
        rw [st_eq]
        by_cases e : j = i
        · subst e; rw [upd_eq]
        · rw [upd_ne e]; exact hs j (by omega)
  unfold F_J7_fill_53178
  exact key 1000 0 t (by decide) (by decide) (fun j hj => absurd hj (Nat.not_lt_zero j))
theorem sheet_L (x1 x2 x3 : Int32) (q : Nat) (hq : q < 4) (hx : x1 = nI q) : ∀ n i (s : ST), i ≤ 60 → 60 - i < n → ∃ u : ST, F_X7_sheet_L57 x1 x2 x3 (fun _ s => some (1, s)) n (nI i) s = some (1, u) ∧ (∀ p, p ≠ 3 → u p = s p) ∧ (∀ j, i ≤ j → j < 60 → u 3 (60 * q + j) = 0) ∧ (∀ p, (p < 60 * q + i ∨ 60 * q + 60 ≤ p) → u 3 p = s 3 p) := by
  intro n
  induction n with
  | zero => intro i s _ h; omega
  | succ n ih =>
    intro i s hi hn
    rw [F_X7_sheet_L57.eq_2]
    by_cases h : i = 60
    · subst h
      rw [if_pos (show (60 : Int32) ≤ nI 60 from nI_le (a := 60) (Nat.le_refl _) (by decide))]
      exact ⟨s, rfl, fun _ _ => rfl, fun j h1 h2 => by omega, fun _ _ => rfl⟩
    · rw [if_neg (show ¬ (60 : Int32) ≤ nI i from nI_ge (b := 60) (by omega) (by decide)), ixE (n := 240) (k := 60 * q + i) (by omega) (by decide) (show (60 : Int32) * x1 + nI i = _ by rw [hx]; exact h60 q i), bs, nI_1]
      obtain ⟨u, h1, h2, h3, h4⟩ := ih (i + 1) (st s 3 (60 * q + i) 0) (by omega) (by omega)
      refine ⟨u, h1, fun p hp => by rw [h2 p hp, st_ne hp], fun j hj hj2 => ?_, fun p hp => ?_⟩
      · by_cases e : j = i
        · subst e; rw [h4 _ (by omega), st_eq, upd_eq]
        · exact h3 j (by omega) hj2
      · rw [h4 p (by omega), st_eq, upd_ne (by omega)]
theorem eq_sheet {s1 m1 : ST} (hR : Rel s1 m1) (x1 x2 x3 : Int32) : ∃ (r : Int32) (s2 : ST) (m2 : ST), F_X6_sheet s1 x1 x2 x3 = some (r, s2) ∧ F_X7_sheet m1 x1 x2 x3 = some (r, m2) ∧ Rel s2 m2 := by
  unfold F_X6_sheet F_X7_sheet F_X6_withoutFault F_X6_withFault F_X7_fails F_X3_renew
  rcases rng x1 4 (by decide) with ⟨k, hk, rfl⟩ | h
  · rw [(sht_y hk).1, (sht_y hk).2, bs, bs, if_neg n10, if_neg n10]
    rcases rng x2 3 (by decide) with ⟨l, hl, rfl⟩ | h2
    · rw [(lan_y hl).1, (lan_y hl).2, bs, bs, if_neg n10, if_neg n10]
      by_cases h60 : x3 ≤ 60
      · rw [if_pos h60, if_pos h60]
        by_cases h0 : 0 ≤ x3
        · rw [if_pos h0, if_pos h0, ixN hk (by decide), bs, bs, bs]
          obtain ⟨n, hn, rfl⟩ := nI_of2 (M := 60) (n := 60) rfl (Int32.not_lt.mpr h0) h60
          obtain ⟨u, hu, hu0⟩ := fill_c (sb (st (st (st (sb s1 (20 + 2 * k)) 0 0 1) 0 1 (nI l)) 0 2 (nI n)) 1)
          obtain ⟨v, hv, hv1, hv2, hv3⟩ := sheet_L (nI k) (nI l) (nI n) k hk rfl 1000 0 (st (st (st m1 0 0 0) 1 k (nI l)) 2 k (nI n)) (by decide) (by decide)
          rw [hu, bs, bs]
          refine ⟨1, st (gr s1 (20 + 2 * k) 2 (gr (st (st (st (sb s1 (20 + 2 * k)) 0 0 1) 0 1 (nI l)) 0 2 (nI n)) 1 1 u)) 0 1 0, v, rfl, hv, ?_⟩
          obtain ⟨a, b, ok, hc, hm⟩ := hR.fault 0
          have h9 : Rel (gr (st s1 0 1 0) (20 + 2 * k) 2 (gr (st (st (st (sb s1 (20 + 2 * k)) 0 0 1) 0 1 (nI l)) 0 2 (nI n)) 1 1 u)) v := by
            refine sh_rel ok hc hm hk (so := l + 1) (ln := n) (ce := fun _ => 0) (by omega) (by omega) ⟨rfl, fun _ => ⟨rfl, rfl⟩, fun j hj => hu0 j hj⟩ (fun j hj => by rw [hv1 0 (by decide)]; rfl) (fun i hi => by rw [hv1 i (by omega), st_ne (by omega), st_ne (by omega)]) (fun j hj hjk => ⟨?_, ?_, fun i hi => ?_⟩) ?_ (fun _ => ?_) (fun i hi => hv2 i (Nat.zero_le _) hi)
            · rw [hv1 1 (by decide), st_ne (by decide), st_eq, upd_ne hjk]
            · rw [hv1 2 (by decide), st_eq, upd_ne hjk]; rfl
            · rw [hv3 _ (by omega), st_ne (by decide), st_ne (by decide)]
            · rw [hv1 1 (by decide), st_ne (by decide), st_eq, upd_eq]; rfl
            · rw [hv1 2 (by decide), st_eq, upd_eq]
          have h10 : st (gr s1 (20 + 2 * k) 2 (gr (st (st (st (sb s1 (20 + 2 * k)) 0 0 1) 0 1 (nI l)) 0 2 (nI n)) 1 1 u)) 0 1 0 = gr (st s1 0 1 0) (20 + 2 * k) 2 (gr (st (st (st (sb s1 (20 + 2 * k)) 0 0 1) 0 1 (nI l)) 0 2 (nI n)) 1 1 u) := by
            funext i
            by_cases h0 : i = 0
            · subst h0; rw [st_eq, gr_ne (by omega), gr_ne (by omega), st_eq]
            · rw [st_ne h0]
              by_cases hr : 20 + 2 * k ≤ i ∧ i < 20 + 2 * k + 2
              · rw [gr_eq hr, gr_eq hr]
              · rw [gr_ne hr, gr_ne hr, st_ne h0]
          rw [h10]
          exact h9
        · rw [if_neg h0, if_neg h0, b2s, b2s]
          refine ⟨_, _, _, rfl, rfl, ?_⟩
          rw [st_st]
          exact hR.fault 4
      · rw [if_neg h60, if_neg h60]
        exact ⟨-2, _, _, rfl, rfl, hR.fault 0⟩
    · rw [(lan_n h2).1, (lan_n h2).2]
      exact ⟨-2, _, _, rfl, rfl, hR.fault 0⟩
  · rw [(sht_n h).1, (sht_n h).2]
    exact ⟨-1, _, _, rfl, rfl, hR.fault 0⟩
