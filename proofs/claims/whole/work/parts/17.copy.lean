/-! copy -/
theorem cpyN {n0 n1 i j n : Nat} {f g : Nat → Int32} (h0 : i + n ≤ n0) (h1 : j + n ≤ n1) (hn0 : n0 < 2 ^ 31) (hn1 : n1 < 2 ^ 31) : cpy n0 n1 f g (nI i) (nI j) (nI n) = some (va_cpy f g i j n) := by
  unfold cpy
  rw [nI_clamp (by omega), nI_clamp (by omega), nI_clamp (by omega)]
  rw [if_pos ⟨nI_pos (by omega), nI_pos (by omega), nI_pos (by omega), h0, h1⟩]
theorem reach_cases {t : ST} {ln : Nat} (h : t 0 2 = nI ln) (x n : Int32) : (F_X3_reaches t x n = some 1 ∧ ¬ x < 0 ∧ ¬ nI ln < x ∧ ¬ n < 0 ∧ ¬ nI ln - x < n) ∨ (F_X3_reaches t x n = some 0 ∧ (x < 0 ∨ nI ln < x ∨ n < 0 ∨ nI ln - x < n)) := by
  unfold F_X3_reaches
  rw [h]
  by_cases h1 : x < 0
  · rw [if_pos h1]; exact Or.inr ⟨rfl, Or.inl h1⟩
  by_cases h2 : nI ln < x
  · rw [if_neg h1, if_pos h2]; exact Or.inr ⟨rfl, Or.inr (Or.inl h2)⟩
  by_cases h3 : n < 0
  · rw [if_neg h1, if_neg h2, if_pos h3]; exact Or.inr ⟨rfl, Or.inr (Or.inr (Or.inl h3))⟩
  by_cases h4 : nI ln - x < n
  · rw [if_neg h1, if_neg h2, if_neg h3, if_pos h4]; exact Or.inr ⟨rfl, Or.inr (Or.inr (Or.inr h4))⟩
  · rw [if_neg h1, if_neg h2, if_neg h3, if_neg h4]; exact Or.inl ⟨rfl, h1, h2, h3, h4⟩
theorem reach_nat {ln : Nat} {x n : Int32} (hl : ln ≤ 60) (h1 : ¬ x < 0) (h2 : ¬ nI ln < x) (h3 : ¬ n < 0) (h4 : ¬ nI ln - x < n) : ∃ i k, x = nI i ∧ n = nI k ∧ i + k ≤ ln := by
  obtain ⟨i, hi, e1⟩ := nI_of h1
  obtain ⟨k, hk, e2⟩ := nI_of h3
  subst e1; subst e2
  have z1 : i ≤ ln := (nI_leI hi (by omega)).mp (Int32.not_lt.mp h2)
  rw [pk_sub z1] at h4
  have z2 := (nI_leI hk (by omega)).mp (Int32.not_lt.mp h4)
  exact ⟨i, k, rfl, rfl, by omega⟩
theorem copy_up {x1 x2 x3 x4 : Int32} {S D N : Nat} (o : Nat → Int32) (hS : 60 * x1 + x2 = nI S) (hD : 60 * x3 + x4 = nI D) (b1 : S + N ≤ 240) (b2 : D + N ≤ 240) (sep : ∀ q c, c < q → q < N → S + q ≠ D + c) (k : Int32 → ST → Option (Int32 × ST)) (hk : ∀ z s, k z s = some (nI N, s)) : ∀ n q (s : ST), q ≤ N → N - q < n → (∀ p, s 3 p = if D ≤ p ∧ p < D + q then o (S + (p - D)) else o p) → ∃ u : ST, F_X7_copy_L166 x1 x2 x3 x4 (nI N) 0 k n (nI q) s = some (nI N, u) ∧ (∀ p, p ≠ 3 → u p = s p) ∧ ∀ p, u 3 p = if D ≤ p ∧ p < D + N then o (S + (p - D)) else o p := by
  intro n
  induction n with
  | zero => intro q s _ h; omega
  | succ n ih =>
    intro q s hq hn hs
    rw [F_X7_copy_L166.eq_2]
    by_cases h : q = N
    · subst h
      rw [if_pos (nI_le (Nat.le_refl _) (by omega)), hk]
      exact ⟨s, rfl, fun _ _ => rfl, hs⟩
    · have hlt : q < N := by omega
      unfold F_X7_copy_J190
      rw [if_neg (nI_ge hlt (by omega)), if_pos rfl, hS, hD, nI_add, nI_add, rdN (by omega) (by decide), bs, ixN (by omega) (by decide), bs, nI_1]
      have hv : s 3 (S + q) = o (S + q) := by
        rw [hs, if_neg]
        intro z
        exact sep q (S + q - D) (by omega) hlt (by omega)
      obtain ⟨u, h1, h2, h3⟩ := ih (q + 1) (st s 3 (D + q) (s 3 (S + q))) (by omega) (by omega) (fun p => by
        rw [st_eq]
        by_cases e : p = D + q
        · subst e
          rw [upd_eq, hv, if_pos (by omega)]; congr 1; omega
        · rw [upd_ne e, hs]
          by_cases e2 : D ≤ p ∧ p < D + q
          · rw [if_pos e2, if_pos (by omega)]
          · rw [if_neg e2, if_neg (by omega)])
      exact ⟨u, h1, fun p hp => by rw [h2 p hp, st_ne hp], h3⟩
theorem copy_dn {x1 x2 x3 x4 : Int32} {S D N : Nat} (o : Nat → Int32) (hS : 60 * x1 + x2 = nI S) (hD : 60 * x3 + x4 = nI D) (b1 : S + N ≤ 240) (b2 : D + N ≤ 240) (sep : ∀ c c', c < c' → c' < N → S + c ≠ D + c') (k : Int32 → ST → Option (Int32 × ST)) (hk : ∀ z s, k z s = some (nI N, s)) : ∀ n q (s : ST), q ≤ N → N - q < n → (∀ p, s 3 p = if D + (N - q) ≤ p ∧ p < D + N then o (S + (p - D)) else o p) → ∃ u : ST, F_X7_copy_L166 x1 x2 x3 x4 (nI N) 1 k n (nI q) s = some (nI N, u) ∧ (∀ p, p ≠ 3 → u p = s p) ∧ ∀ p, u 3 p = if D ≤ p ∧ p < D + N then o (S + (p - D)) else o p := by
  intro n
  induction n with
  | zero => intro q s _ h; omega
  | succ n ih =>
    intro q s hq hn hs
    rw [F_X7_copy_L166.eq_2]
    by_cases h : q = N
    · subst h
      rw [if_pos (nI_le (Nat.le_refl _) (by omega)), hk]
      refine ⟨s, rfl, fun _ _ => rfl, fun p => ?_⟩
      rw [hs, Nat.sub_self]; rfl
    · have hlt : q < N := by omega
      unfold F_X7_copy_J190
      rw [if_neg (nI_ge hlt (by omega)), if_neg n10, hS, hD, show (1 : Int32) = nI 1 from rfl, pk_sub (by omega), pk_sub (by omega), nI_add, nI_add, rdN (by omega) (by decide), bs, ixN (by omega) (by decide), bs, nI_add]
      have hv : s 3 (S + (N - 1 - q)) = o (S + (N - 1 - q)) := by
        rw [hs, if_neg]
        intro z
        exact sep (N - 1 - q) (S + (N - 1 - q) - D) (by omega) (by omega) (by omega)
      obtain ⟨u, h1, h2, h3⟩ := ih (q + 1) (st s 3 (D + (N - 1 - q)) (s 3 (S + (N - 1 - q)))) (by omega) (by omega) (fun p => by
        rw [st_eq]
        by_cases e : p = D + (N - 1 - q)
        · subst e
          rw [upd_eq, hv, if_pos (by omega)]; congr 1; omega
        · rw [upd_ne e, hs]
          by_cases e2 : D + (N - q) ≤ p ∧ p < D + N
          · rw [if_pos e2, if_pos (by omega)]
          · rw [if_neg e2, if_neg (by omega)])
      exact ⟨u, h1, fun p hp => by rw [h2 p hp, st_ne hp], h3⟩
theorem copy_bad {m1 : ST} {x1 x2 x3 x4 x5 : Int32} {k q lk lq : Nat} (hk : k < 4) (hq : q < 4) (e1 : x1 = nI k) (e3 : x3 = nI q) (g2 : m1 2 k = nI lk) (g3 : m1 2 q = nI lq) (hb : x2 < 0 ∨ nI lk < x2 ∨ x5 < 0 ∨ nI lk - x2 < x5 ∨ x4 < 0 ∨ nI lq < x4 ∨ nI lq - x4 < x5) : (if x2 < 0 then F_X7_copy_J109 x1 x2 x3 x4 x5 (st m1 0 0 0) else if x4 < 0 then F_X7_copy_J109 x1 x2 x3 x4 x5 (st m1 0 0 0) else if x5 < 0 then F_X7_copy_J109 x1 x2 x3 x4 x5 (st m1 0 0 0) else (rd 4 (m1 2) x1).bind fun v90 => if v90 < x2 then F_X7_copy_J109 x1 x2 x3 x4 x5 (st m1 0 0 0) else (rd 4 (m1 2) x3).bind fun v101 => if v101 < x4 then F_X7_copy_J109 x1 x2 x3 x4 x5 (st m1 0 0 0) else F_X7_copy_J110 x1 x2 x3 x4 x5 (st m1 0 0 0) 1) = some (-10 - 3, st m1 0 0 3) := by
  subst e1; subst e3
  have q2 : rd 4 (m1 2) (nI k) = some (nI lk) := rdE hk (by decide) g2 rfl
  have q3 : rd 4 (m1 2) (nI q) = some (nI lq) := rdE hq (by decide) g3 rfl
  have r2 : rd 4 (st m1 0 0 0 2) (nI k) = some (nI lk) := q2
  have r3 : rd 4 (st m1 0 0 0 2) (nI q) = some (nI lq) := q3
  have bad : b2 (F_X7_fails (st m1 0 0 0) 3) (fun v146 u146 => some (v146, u146)) = some ((-10 - 3 : Int32), st m1 0 0 3) := by
    unfold F_X7_fails
    rw [b2s, st_st]
  have j109 : F_X7_copy_J109 (nI k) x2 (nI q) x4 x5 (st m1 0 0 0) = some (-10 - 3, st m1 0 0 3) := by
    unfold F_X7_copy_J109 F_X7_copy_J110
    rw [if_pos rfl]; exact bad
  by_cases c1 : x2 < 0
  · rw [if_pos c1]; exact j109
  by_cases c2 : x4 < 0
  · rw [if_neg c1, if_pos c2]; exact j109
  by_cases c3 : x5 < 0
  · rw [if_neg c1, if_neg c2, if_pos c3]; exact j109
  rw [if_neg c1, if_neg c2, if_neg c3, q2, bs]
  by_cases c4 : nI lk < x2
  · rw [if_pos c4]; exact j109
  rw [if_neg c4, q3, bs]
  by_cases c5 : nI lq < x4
  · rw [if_pos c5]; exact j109
  rw [if_neg c5]
  unfold F_X7_copy_J110
  rw [if_neg n10, r2, bs]
  by_cases c6 : nI lk - x2 < x5
  · rw [if_pos c6]; exact bad
  rw [if_neg c6, r3, bs, if_neg]
  · exact bad
  · rcases hb with h | h | h | h | h | h | h
    · exact absurd h c1
    · exact absurd h c4
    · exact absurd h c3
    · exact absurd h c6
    · exact absurd h c2
    · exact absurd h c5
    · exact Int32.not_le.mpr h
theorem sr_gr {s : ST} {q : Nat} {g : Nat → Int32} {x : Int32} : st (sr s (21 + 2 * q) g) 0 1 x = gr (st s 0 1 x) (20 + 2 * q) 2 (sr (sb s (20 + 2 * q)) 1 g) := by
  funext i
  by_cases h0 : i = 0
  · subst h0
    rw [st_eq, gr_ne (by omega), st_eq]
    show upd (sr s (21 + 2 * q) g 0) 1 x = _
    unfold sr
    rw [if_neg (by omega)]
  · rw [st_ne h0]
    by_cases hr : 20 + 2 * q ≤ i ∧ i < 20 + 2 * q + 2
    · rw [gr_eq hr]
      unfold sr sb
      by_cases h1 : i = 21 + 2 * q
      · rw [if_pos h1, if_pos (by omega)]
      · rw [if_neg h1, if_neg (by omega)]
        congr 1; omega
    · rw [gr_ne hr, st_ne h0]
      unfold sr
      rw [if_neg (by omega)]
theorem eq_copy {s1 m1 : ST} (hR : Rel s1 m1) (x1 x2 x3 x4 x5 : Int32) : ∃ (r : Int32) (s2 : ST) (m2 : ST), F_X6_copy s1 x1 x2 x3 x4 x5 = some (r, s2) ∧ F_X7_copy m1 x1 x2 x3 x4 x5 = some (r, m2) ∧ Rel s2 m2 := by
  obtain ⟨a, b, ok, hc, hm, hS⟩ := (hR.fault 0).sh
  unfold F_X6_copy F_X7_copy F_X6_withoutFault F_X6_withFault
  rcases rng x1 4 (by decide) with ⟨k, hk, rfl⟩ | h
  · rw [(sht_y hk).1, (sht_y hk).2, bs, bs, if_neg n10, if_neg n10]
    rcases rng x3 4 (by decide) with ⟨q, hq, rfl⟩ | h
    · rw [(sht_y hq).1, (sht_y hq).2, bs, bs, if_neg n10, if_neg n10, ixN hk (by decide), ixN hq (by decide), bs, bs]
      have gen : ∀ z, z < 4 → s1 (20 + 2 * z) 0 = (if a 8 z = 0 then 0 else 1) ∧ (a 8 z ≠ 0 → s1 (20 + 2 * z) 1 = sc (a 8 z) ∧ s1 (20 + 2 * z) 2 = nI (a 9 z)) ∧ ∀ j, j < 60 → s1 (21 + 2 * z) j = b (1 + z) j := by
        intro z hz
        obtain ⟨⟨h1, h2, h3⟩, -⟩ := hS z hz
        have e0 : sb (st s1 0 1 0) (20 + 2 * z) 0 = s1 (20 + 2 * z) := st_ne (by omega)
        have e1 : sb (st s1 0 1 0) (20 + 2 * z) 1 = s1 (21 + 2 * z) := by
          show st s1 0 1 0 (20 + 2 * z + 1) = _
          rw [st_ne (by omega)]; congr 1; omega
        rw [e0] at h1 h2
        rw [e1] at h3
        exact ⟨h1, fun y => ⟨by rw [sc_s y]; exact (h2 y).1, (h2 y).2⟩, h3⟩
      obtain ⟨hk1, hk2, hk3⟩ := gen k hk
      obtain ⟨hq1, hq2, hq3⟩ := gen q hq
      obtain ⟨-, ok8, ok9, gk1, gk2, gk3⟩ := hS k hk
      obtain ⟨-, oq8, oq9, gq1, gq2, gq3⟩ := hS q hq
      have rk : rd 4 (m1 1) (nI k) = some (sc (a 8 k)) := rdE hk (by decide) gk1 rfl
      have rq : rd 4 (m1 1) (nI q) = some (sc (a 8 q)) := rdE hq (by decide) gq1 rfl
      rw [rk, rq, hk1, hq1, bs]
      by_cases k0 : a 8 k = 0
      · rw [k0, if_pos rfl, if_pos rfl]
        refine ⟨_, _, st (st m1 0 0 0) 0 0 1, rfl, rfl, ?_⟩
        rw [st_st]
        exact hR.fault 1
      rw [if_neg k0, if_neg n10, if_neg (sc_ne _ ok8 k0), bs]
      by_cases q0 : a 8 q = 0
      · rw [q0, if_pos rfl, if_pos rfl]
        refine ⟨_, _, st (st m1 0 0 0) 0 0 1, rfl, rfl, ?_⟩
        rw [st_st]
        exact hR.fault 1
      rw [if_neg q0, if_neg n10, if_neg (sc_ne _ oq8 q0), bs, bs, (hk2 k0).1, (hq2 q0).1]
      by_cases hcast : sc (a 8 k) = sc (a 8 q)
      · rw [if_pos hcast, if_pos hcast]
        have lk2 : sb s1 (20 + 2 * k) 0 2 = nI (a 9 k) := (hk2 k0).2
        have lq2 : sb s1 (20 + 2 * q) 0 2 = nI (a 9 q) := (hq2 q0).2
        have bad : ∀ hb : (x2 < 0 ∨ nI (a 9 k) < x2 ∨ x5 < 0 ∨ nI (a 9 k) - x2 < x5 ∨ x4 < 0 ∨ nI (a 9 q) < x4 ∨ nI (a 9 q) - x4 < x5), _ := fun hb => copy_bad (m1 := m1) (x1 := nI k) (x2 := x2) (x3 := nI q) (x4 := x4) (x5 := x5) hk hq rfl rfl (gk2 k0) (gq2 q0) hb
        rcases reach_cases lk2 x2 x5 with ⟨r1, a1, a2, a3, a4⟩ | ⟨r1, hb⟩
        · rcases reach_cases lq2 x4 x5 with ⟨r2, d1, d2, d3, d4⟩ | ⟨r2, hb⟩
          · obtain ⟨i, n, e2, e5, hin⟩ := reach_nat ok9 a1 a2 a3 a4
            obtain ⟨j, n', e4, e5', hjn⟩ := reach_nat oq9 d1 d2 d3 d4
            have hn60 : n ≤ 60 := by omega
            have hn60' : n' ≤ 60 := by omega
            have enn : n = n' := (nI_eq (by omega) (by omega)).mp (e5.symm.trans e5')
            subst enn
            rw [r1, r2, bs, bs, if_neg n10, if_neg n10]
            subst e2; subst e4; subst e5
            rw [cpyN (by omega) (by omega) (by decide) (by decide), bs, b2s]
            -- the model
            rw [if_neg a1, if_neg d1, if_neg a3]
            have q2 : rd 4 (m1 2) (nI k) = some (nI (a 9 k)) := rdE hk (by decide) (gk2 k0) rfl
            have q3 : rd 4 (m1 2) (nI q) = some (nI (a 9 q)) := rdE hq (by decide) (gq2 q0) rfl
            have w2 : rd 4 (st m1 0 0 0 2) (nI k) = some (nI (a 9 k)) := q2
            have w3 : rd 4 (st m1 0 0 0 2) (nI q) = some (nI (a 9 q)) := q3
            rw [q2, bs, if_neg a2, q3, bs, if_neg d2]
            unfold F_X7_copy_J110 F_X7_copy_J161
            rw [if_neg n10, w2, bs, if_neg a4, w3, bs, if_pos (Int32.not_lt.mp d4)]
            have hSD : ∃ u : ST, (if nI j ≤ nI i then F_X7_copy_L166 (nI k) (nI i) (nI q) (nI j) (nI n) 0 (fun x8_k166 s0_k166 => F_X7_copy_J227 (nI k) (nI i) (nI q) (nI j) (nI n) s0_k166) 1000 0 (st m1 0 0 0) else F_X7_copy_L166 (nI k) (nI i) (nI q) (nI j) (nI n) 1 (fun x8_k166 s0_k166 => F_X7_copy_J227 (nI k) (nI i) (nI q) (nI j) (nI n) s0_k166) 1000 0 (st m1 0 0 0)) = some (nI n, u) ∧ (∀ p, p ≠ 3 → u p = st m1 0 0 0 p) ∧ ∀ p, u 3 p = if 60 * q + j ≤ p ∧ p < 60 * q + j + n then m1 3 (60 * k + i + (p - (60 * q + j))) else m1 3 p := by
              have hS' : (60 : Int32) * nI k + nI i = nI (60 * k + i) := show nI 60 * nI k + nI i = _ by rw [pk_mul, nI_add]
              have hD' : (60 : Int32) * nI q + nI j = nI (60 * q + j) := show nI 60 * nI q + nI j = _ by rw [pk_mul, nI_add]
              by_cases hij : j ≤ i
              · rw [if_pos (nI_le hij (by omega))]
                exact copy_up (m1 3) hS' hD' (by omega) (by omega) (fun c c' h1 h2 => by
                  by_cases hkq : k = q
                  · subst hkq; omega
                  · omega) _ (fun _ _ => rfl) 1000 0 (st m1 0 0 0) (Nat.zero_le _) (by omega) (fun p => by rw [if_neg (by omega)]; rfl)
              · rw [if_neg (nI_ge (by omega) (by omega))]
                exact copy_dn (m1 3) hS' hD' (by omega) (by omega) (fun c c' h1 h2 => by
                  by_cases hkq : k = q
                  · subst hkq; omega
                  · omega) _ (fun _ _ => rfl) 1000 0 (st m1 0 0 0) (Nat.zero_le _) (by omega) (fun p => by rw [if_neg (by omega)]; rfl)
            obtain ⟨u, hu, hu1, hu3⟩ := hSD
            refine ⟨nI n, _, u, rfl, hu, ?_⟩
            rw [sr_gr]
            refine sh_rel ok hc hm hq (so := a 8 q) (ln := a 9 q) (ce := va_cpy (b (1 + k)) (b (1 + q)) i j n) oq8 oq9 ⟨hq1, fun y => ⟨by rw [← sc_s y]; exact (hq2 y).1, (hq2 y).2⟩, fun p hp => ?_⟩ (fun p hp => by rw [hu1 0 (by decide)]) (fun p hp => by rw [hu1 p (by omega)]) (fun z hz hzq => ⟨by rw [hu1 1 (by decide)], by rw [hu1 2 (by decide)], fun p hp => ?_⟩) (by rw [hu1 1 (by decide)]; exact gq1) (fun y => by rw [hu1 2 (by decide)]; exact gq2 y) (fun p hp => ?_)
            · show va_cpy (s1 (21 + 2 * k)) (s1 (21 + 2 * q)) i j n p = _
              unfold va_cpy
              by_cases e : j ≤ p ∧ p < j + n
              · rw [if_pos e, if_pos e]; exact hk3 _ (by omega)
              · rw [if_neg e, if_neg e]; exact hq3 _ hp
            · rw [hu3, if_neg (by omega)]; rfl
            · rw [hu3]
              unfold va_cpy
              by_cases e : j ≤ p ∧ p < j + n
              · rw [if_pos e, if_pos (by omega), show 60 * k + i + (60 * q + p - (60 * q + j)) = 60 * k + (i + (p - j)) by omega]
                exact gk3 _ (by omega)
              · rw [if_neg e, if_neg (by omega)]; exact gq3 _ hp
          · rw [r1, r2, bs, bs, if_neg n10, if_pos rfl]
            refine ⟨(-10) - 3, st s1 0 1 3, st m1 0 0 3, rfl, ?_, hR.fault 3⟩
            refine bad ?_
            rcases hb with h | h | h | h
            · exact Or.inr (Or.inr (Or.inr (Or.inr (Or.inl h))))
            · exact Or.inr (Or.inr (Or.inr (Or.inr (Or.inr (Or.inl h)))))
            · exact Or.inr (Or.inr (Or.inl h))
            · exact Or.inr (Or.inr (Or.inr (Or.inr (Or.inr (Or.inr h)))))
        · rw [r1, bs, if_pos rfl]
          refine ⟨(-10) - 3, st s1 0 1 3, st m1 0 0 3, rfl, ?_, hR.fault 3⟩
          refine bad ?_
          rcases hb with h | h | h | h
          · exact Or.inl h
          · exact Or.inr (Or.inl h)
          · exact Or.inr (Or.inr (Or.inl h))
          · exact Or.inr (Or.inr (Or.inr (Or.inl h)))
      · rw [if_neg hcast, if_neg hcast]
        refine ⟨_, _, st (st m1 0 0 0) 0 0 2, rfl, rfl, ?_⟩
        rw [st_st]
        exact hR.fault 2
    · rw [(sht_n h).1, (sht_n h).2]
      exact ⟨-1, _, _, rfl, rfl, hR.fault 0⟩
  · rw [(sht_n h).1, (sht_n h).2]
    exact ⟨-1, _, _, rfl, rfl, hR.fault 0⟩
