/-! laws: one step -/
def bo (x k : Nat) : Nat := 4 * (x / 2 ^ ((k + 1) % 6) % 2) + 2 * (x / 2 ^ k % 2) + x / 2 ^ ((k + 5) % 6) % 2
theorem bo_c : ∀ x, x < 64 → ∀ k, k < 6 → F_X1_bitOf (nI x) (nI k) = some (nI (bo x k)) ∧ F_X7_bitFor (nI x) (nI k) = some (nI (bo x k)) ∧ bo x k < 8 := by decide +kernel
theorem lb_t : ∀ w, w < 256 → ∀ c, c < 8 → ((nI w >>> (nI c &&& 31)) &&& 1) = nI (w / 2 ^ c % 2) := by decide +kernel
theorem ls_t : ∀ k, k < 6 → ∀ t, t < 2 → ∀ acc, acc < 2 ^ k → (nI acc ||| (nI t <<< (nI k &&& 31))) = nI (acc + t * 2 ^ k) := by decide +kernel
def nxp (w x : Nat) : Nat → Nat
  | 0 => 0
  | k + 1 => nxp w x k + w / 2 ^ (bo x k) % 2 * 2 ^ k
def nx (w x : Nat) : Nat := nxp w x 6
theorem nxp_lt (w x : Nat) : ∀ k, nxp w x k < 2 ^ k
  | 0 => Nat.zero_lt_one
  | k + 1 => by
    have h := nxp_lt w x k
    have h2 : w / 2 ^ (bo x k) % 2 < 2 := Nat.mod_lt _ (by decide)
    have h3 : w / 2 ^ (bo x k) % 2 * 2 ^ k ≤ 1 * 2 ^ k := Nat.mul_le_mul_right _ (by omega)
    show nxp w x k + w / 2 ^ (bo x k) % 2 * 2 ^ k < 2 ^ (k + 1)
    rw [Nat.pow_succ]
    omega
theorem nx_ok (w : Nat) : FOk (nx w) := fun j _ => nxp_lt w j 6
theorem stepOf_c {t : ST} {w x : Nat} (h : t 0 0 = nI w) (hw : w < 256) (hx : x < 64) : F_X1_stepOf t (nI x) = some (nI (nx w x)) := by
  have key : ∀ n k, k ≤ 6 → 6 - k < n → F_X1_stepOf_L4 t (nI x) (fun x2 _ => some x2) n (nI (nxp w x k)) (nI k) = some (nI (nx w x)) := by
    intro n
    induction n with
    | zero => intro k _ h; omega
    | succ n ih =>
      intro k hk hn
      rw [F_X1_stepOf_L4.eq_2]
      by_cases h6 : k = 6
      · subst h6
        rw [if_pos (show (6 : Int32) ≤ nI 6 from nI_le (a := 6) (Nat.le_refl _) (by decide))]; rfl
      · obtain ⟨t1, -, t3⟩ := bo_c x hx k (by omega)
        rw [if_neg (show ¬ (6 : Int32) ≤ nI k from nI_ge (b := 6) (by omega) (by decide)), t1, bs, h, lb_t w hw _ t3, ls_t k (by omega) _ (Nat.mod_lt _ (by decide)) _ (nxp_lt w x k), nI_1]
        exact ih (k + 1) (by omega) (by omega)
  unfold F_X1_stepOf
  exact key 1000 0 (by decide) (by decide)
theorem fix_L7 (w : Nat) (hw : w < 256) (x1 : Int32) (k : Int32 → ST → Option ST) : ∀ n i (s : ST), i ≤ 64 → 64 - i < n → s 0 0 = nI w → (∀ j, j < i → s 1 j = nI j ∧ s 1 (64 + j) = nI (nx w j)) → ∃ u : ST, F_X1_fix_L7 x1 k n (nI i) s = k (nI 64) u ∧ u 0 = s 0 ∧ ∀ j, j < 64 → u 1 j = nI j ∧ u 1 (64 + j) = nI (nx w j) := by
  intro n
  induction n with
  | zero => intro i s _ h; omega
  | succ n ih =>
    intro i s hi hn h0 hs
    rw [F_X1_fix_L7.eq_2]
    by_cases h : i = 64
    · subst h
      rw [if_pos (show (64 : Int32) ≤ nI 64 from nI_le (a := 64) (Nat.le_refl _) (by decide))]
      exact ⟨s, rfl, rfl, hs⟩
    · rw [if_neg (show ¬ (64 : Int32) ≤ nI i from nI_ge (b := 64) (by omega) (by decide)), ixN (n := 576) (by omega) (by decide), bs, stepOf_c (t := st s 1 i (nI i)) h0 hw (by omega), bs, ixE (n := 576) (k := 64 + i) (by omega) (by decide) (show (64 : Int32) + nI i = _ from nI_add 64 i), bs, nI_1]
      obtain ⟨u, h1, h2, h3⟩ := ih (i + 1) (st (st s 1 i (nI i)) 1 (64 + i) (nI (nx w i))) (by omega) (by omega) h0 (fun j hj => by
        rw [st_eq, st_eq]
        by_cases e : j = i
        · subst e
          rw [upd_ne (by omega), upd_eq, upd_eq]; exact ⟨rfl, rfl⟩
        · rw [upd_ne (by omega), upd_ne e, upd_ne (by omega), upd_ne (by omega)]
          exact hs j (by omega))
      exact ⟨u, h1, h2, h3⟩
theorem fix_L44 (w : Nat) (x1 : Int32) (k : Int32 → ST → Option ST) : ∀ n i (s : ST), 128 ≤ i → i ≤ 576 → 576 - i < n → (∀ p, p < i → s 1 p = nI (it (nx w) (p / 64) (p % 64))) → ∃ u : ST, F_X1_fix_L44 x1 k n (nI i) s = k (nI 576) u ∧ u 0 = s 0 ∧ ∀ p, p < 576 → u 1 p = nI (it (nx w) (p / 64) (p % 64)) := by
  intro n
  induction n with
  | zero => intro i s _ _ h; omega
  | succ n ih =>
    intro i s hlo hi hn hs
    rw [F_X1_fix_L44.eq_2]
    by_cases h : i = 576
    · subst h
      rw [if_pos (show (576 : Int32) ≤ nI 576 from nI_le (a := 576) (Nat.le_refl _) (by decide))]
      exact ⟨s, rfl, rfl, hs⟩
    · have hv : it (nx w) ((i - 64) / 64) ((i - 64) % 64) < 64 := it_lt (nx_ok w) _ _ (Nat.mod_lt _ (by decide))
      have hv2 : s 1 (64 + it (nx w) ((i - 64) / 64) ((i - 64) % 64)) = nI (it (nx w) (i / 64) (i % 64)) := by
        rw [hs _ (by omega)]
        have e1 : (64 + it (nx w) ((i - 64) / 64) ((i - 64) % 64)) / 64 = 1 := by omega
        have e2 : (64 + it (nx w) ((i - 64) / 64) ((i - 64) % 64)) % 64 = it (nx w) ((i - 64) / 64) ((i - 64) % 64) := by omega
        rw [e1, e2, show i / 64 = (i - 64) / 64 + 1 by omega, it_s _ ((i - 64) / 64), show i % 64 = (i - 64) % 64 by omega]
        rfl
      have haf : F_X1_after s (nI (it (nx w) ((i - 64) / 64) ((i - 64) % 64))) 1 = some (nI (it (nx w) (i / 64) (i % 64))) := by
        unfold F_X1_after
        rw [(shp_y hv).1, bs, if_neg n10, if_neg (show ¬ (1 : Int32) < 0 by decide), if_pos (show (1 : Int32) ≤ 8 by decide), rdE (k := 64 + it (nx w) ((i - 64) / 64) ((i - 64) % 64)) (by omega) (by decide) hv2 (show (1 : Int32) * 64 + nI (it (nx w) ((i - 64) / 64) ((i - 64) % 64)) = _ from h64 1 _)]
        rfl
      rw [if_neg (show ¬ (576 : Int32) ≤ nI i from nI_ge (b := 576) (by omega) (by decide)), rdE (k := i - 64) (by omega) (by decide) (hs (i - 64) (by omega)) (show nI i - 64 = _ from pk_sub (b := 64) (by omega)), bs, haf, bs, ixN (by omega) (by decide), bs, nI_1]
      obtain ⟨u, h1, h2, h3⟩ := ih (i + 1) (st s 1 i (nI (it (nx w) (i / 64) (i % 64)))) (by omega) (by omega) (by omega) (fun p hp => by
        rw [st_eq]
        by_cases e : p = i
        · subst e; rw [upd_eq]
        · rw [upd_ne e]; exact hs p (by omega))
      exact ⟨u, h1, h2, h3⟩
theorem fix_c (t : ST) {w : Nat} (hw : w < 256) : ∃ u : ST, F_X1_fix t (nI w) = some u ∧ u 0 0 = nI w ∧ LRel u (nx w) := by
  obtain ⟨u, h1, h2, h3⟩ := fix_L7 w hw (nI w) (fun _ s => F_X1_fix_J40 (nI w) s) 1000 0 (st t 0 0 (nI w)) (by decide) (by decide) rfl (fun j hj => absurd hj (Nat.not_lt_zero j))
  obtain ⟨v, g1, g2, g3⟩ := fix_L44 w (nI w) (fun _ s => F_X1_fix_J79 (nI w) s) 1000 128 u (by decide) (by decide) (by decide) (fun p hp => by
    by_cases e : p < 64
    · rw [(h3 p e).1, Nat.div_eq_of_lt e, Nat.mod_eq_of_lt e]; rfl
    · have := (h3 (p - 64) (by omega)).2
      rw [show 64 + (p - 64) = p by omega] at this
      rw [this, show p / 64 = 1 by omega, show p % 64 = p - 64 by omega]; rfl)
  refine ⟨v, ?_, ?_, ?_⟩
  · unfold F_X1_fix
    refine h1.trans ?_
    show F_X1_fix_J40 (nI w) u = _
    unfold F_X1_fix_J40
    exact g1
  · rw [g2, h2]; rfl
  · intro n hn j hj
    rw [g3 _ (by omega), show (64 * n + j) / 64 = n by omega, show (64 * n + j) % 64 = j by omega]
theorem take_L22 {w x : Nat} (hw : w < 256) (hx : x < 64) (x1 : Int32) (k : Int32 → ST → Option ST) : ∀ n i (s : ST), i ≤ 6 → 6 - i < n → s 0 2 = nI w → s 4 x = nI (nxp w x i) → ∃ u : ST, F_X7_takeLaw_L22 x1 (nI x) k n (nI i) s = k (nI 6) u ∧ (∀ p, p ≠ 4 → u p = s p) ∧ u 4 x = nI (nx w x) ∧ ∀ j, j ≠ x → u 4 j = s 4 j := by
  intro n
  induction n with
  | zero => intro i s _ h; omega
  | succ n ih =>
    intro i s hi hn h0 hs
    rw [F_X7_takeLaw_L22.eq_2]
    by_cases h : i = 6
    · subst h
      rw [if_pos (show (6 : Int32) ≤ nI 6 from nI_le (a := 6) (Nat.le_refl _) (by decide))]
      exact ⟨s, rfl, fun _ _ => rfl, hs, fun _ _ => rfl⟩
    · obtain ⟨-, t2, t3⟩ := bo_c x hx i (by omega)
      rw [if_neg (show ¬ (6 : Int32) ≤ nI i from nI_ge (b := 6) (by omega) (by decide)), rdE hx (by decide) hs rfl, bs, t2, bs, ixN hx (by decide), bs, h0, lb_t w hw _ t3, ls_t i (by omega) _ (Nat.mod_lt _ (by decide)) _ (nxp_lt w x i), nI_1]
      obtain ⟨u, h1, h2, h3, h4⟩ := ih (i + 1) (st s 4 x (nI (nxp w x i + w / 2 ^ bo x i % 2 * 2 ^ i))) (by omega) (by omega) h0 (by rw [st_eq, upd_eq]; rfl)
      exact ⟨u, h1, fun p hp => by rw [h2 p hp, st_ne hp], h3, fun j hj => by rw [h4 j hj, st_eq, upd_ne hj]⟩
theorem take_L7 {w : Nat} (hw : w < 256) (x1 : Int32) (k : Int32 → ST → Option ST) : ∀ n i (s : ST), i ≤ 64 → 64 - i < n → s 0 2 = nI w → (∀ j, j < i → s 4 j = nI (nx w j)) → ∃ u : ST, F_X7_takeLaw_L7 x1 k n (nI i) s = k (nI 64) u ∧ (∀ p, p ≠ 4 → u p = s p) ∧ ∀ j, j < 64 → u 4 j = nI (nx w j) := by
  intro n
  induction n with
  | zero => intro i s _ h; omega
  | succ n ih =>
    intro i s hi hn h0 hs
    rw [F_X7_takeLaw_L7.eq_2]
    by_cases h : i = 64
    · subst h
      rw [if_pos (show (64 : Int32) ≤ nI 64 from nI_le (a := 64) (Nat.le_refl _) (by decide))]
      exact ⟨s, rfl, fun _ _ => rfl, hs⟩
    · rw [if_neg (show ¬ (64 : Int32) ≤ nI i from nI_ge (b := 64) (by omega) (by decide)), ixN (by omega) (by decide), bs]
      obtain ⟨v, g1, g2, g3, g4⟩ := take_L22 (x := i) hw (by omega) x1 (fun x3 s0 => F_X7_takeLaw_J57 x1 (F_X7_takeLaw_L7 x1 k n) k (nI i) s0) 1000 0 (st s 4 i 0) (by decide) (by decide) h0 (by rw [st_eq, upd_eq]; rfl)
      obtain ⟨u, h1, h2, h3⟩ := ih (i + 1) v (by omega) (by omega) (by rw [g2 0 (by decide)]; exact h0) (fun j hj => by
        by_cases e : j = i
        · subst e; exact g3
        · rw [g4 j e, st_eq, upd_ne e]; exact hs j (by omega))
      have h1' : F_X7_takeLaw_J57 x1 (F_X7_takeLaw_L7 x1 k n) k (nI i) v = k (nI 64) u := by
        show F_X7_takeLaw_L7 x1 k n (nI i + 1) v = _
        rw [nI_1]
        exact h1
      exact ⟨u, g1.trans h1', fun p hp => by rw [h2 p hp, g2 p hp, st_ne hp], h3⟩
theorem take_m (t : ST) {w : Nat} (hw : w < 256) : ∃ u : ST, F_X7_takeLaw t (nI w) = some u ∧ (∀ p, p ≠ 4 → u p = st t 0 2 (nI w) p) ∧ ∀ j, j < 64 → u 4 j = nI (nx w j) := by
  obtain ⟨u, h1, h2, h3⟩ := take_L7 hw (nI w) (fun _ s => F_X7_takeLaw_J63 (nI w) s) 1000 0 (st t 0 2 (nI w)) (by decide) (by decide) rfl (fun j hj => absurd hj (Nat.not_lt_zero j))
  refine ⟨u, ?_, h2, h3⟩
  unfold F_X7_takeLaw
  exact h1
theorem eq_enact {s1 m1 : ST} (hR : Rel s1 m1) (x1 : Int32) : ∃ (r : Int32) (s2 : ST) (m2 : ST), F_X6_enact s1 x1 = some (r, s2) ∧ F_X7_enact m1 x1 = some (r, m2) ∧ Rel s2 m2 := by
  have hR0 := hR
  obtain ⟨a, b, ok, hc, hm⟩ := hR
  obtain ⟨o0, o1, o2, o3, oB, oF, oR, oS⟩ := ok
  obtain ⟨⟨c1, c2, c3⟩, cw, cB, cL, ⟨cn, cR⟩, cS⟩ := hc
  obtain ⟨⟨e1, e2, e3⟩, ew, ⟨ec, elk, eB⟩, eL, ⟨en, eR⟩, eS⟩ := hm
  unfold F_X6_enact F_X7_enact
  rcases rng x1 256 (by decide) with ⟨w, hw, rfl⟩ | h
  · rw [if_neg (nI_pos (by omega)), if_pos (show nI w < 256 from nI_lt (b := 256) hw (by decide)), win_y (lo := 0) (hi := 255) (j := w) (a := 0) (b := 255) rfl (by omega) (by omega) (by decide) rfl rfl, bs, if_neg n10, ec]
    by_cases hz : a 0 1 = 0
    · rw [hasG_n cB.1 hz, hz]
      exact ⟨-3, s1, m1, rfl, rfl, hR0⟩
    · have h0 : 0 < a 0 1 := Nat.pos_of_ne_zero hz
      obtain ⟨u, hu1, hu2, hu3⟩ := fix_c (sb s1 1) hw
      obtain ⟨v, hv1, hv2, hv3⟩ := take_m m1 hw
      rw [hasG_y cB.1 h0 o1, bs, if_neg n10, if_neg (nI_ne0 h0 (by omega)), hu1, hv1, bs, bs, cw, ew]
      refine ⟨_, _, _, rfl, rfl, ⟨fun p => if p = 0 then (fun q => if q = 0 then w else a 0 q) else if p = 4 then nx w else a p, b, ⟨hw, o1, o2, o3, oB, nx_ok w, oR, oS⟩, ⟨⟨c1, c2, c3⟩, hu2, cB, fun _ => hu3, ⟨cn, cR⟩, fun k hk => (cS k hk).congr (gr_ne (by omega)) (gr_ne (by omega))⟩, ?_⟩⟩
      have z0 : ∀ j, j ≠ 2 → v 0 j = m1 0 j := fun j hj => by rw [hv2 0 (by decide), st_eq, upd_ne hj]
      have zp : ∀ p, p ≠ 4 → p ≠ 0 → v p = m1 p := fun p h4 h0 => by rw [hv2 p h4, st_ne h0]
      refine ⟨⟨by rw [z0 1 (by decide)]; exact e1, by rw [z0 0 (by decide)]; exact e2, by rw [z0 4 (by decide)]; exact e3⟩, by rw [hv2 0 (by decide)]; rfl, ⟨by rw [z0 3 (by decide)]; exact ec, by rw [z0 5 (by decide)]; exact elk, fun j hj => by rw [zp 5 (by decide) (by decide), zp 6 (by decide) (by decide), zp 7 (by decide) (by decide)]; exact eB j hj⟩, fun _ j hj => hv3 j hj, ⟨by rw [z0 13 (by decide)]; exact en, fun j hj => by rw [zp 10 (by decide) (by decide), zp 11 (by decide) (by decide), zp 12 (by decide) (by decide)]; exact eR j hj⟩, fun k hk => by rw [zp 1 (by decide) (by decide), zp 2 (by decide) (by decide), zp 3 (by decide) (by decide)]; exact eS k hk⟩
  · rw [win_n (hi := 255) (n := 256) (by decide) (by decide) rfl h]
    refine ⟨-2, s1, m1, ?_, rfl, hR0⟩
    rcases h with h | ⟨h, h3⟩
    · rw [if_pos h]
    · rw [if_neg h, if_neg (show ¬ x1 < 256 from Int32.not_lt.mpr h3)]
