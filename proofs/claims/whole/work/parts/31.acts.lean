/-! years: acts -/
theorem yc_gr {s w : ST} {c lk lk' : Nat} {kd sh sh' pc : Nat → Nat} {d0 D T : Int32} (hC : YC s c lk kd sh pc d0 D T) (hw : BRel w c lk' kd sh' pc) (hd : w 0 1 = s 1 1) : YC (gr s 1 4 w) c lk' kd sh' pc d0 D T ∧ gr s 1 4 w 0 1 = s 0 1 := by
  obtain ⟨C1, C2, C3, C4⟩ := hC
  refine ⟨⟨hw.congr (fun p hp => ?_), by rw [gr_ne (by omega)]; exact C2, by rw [gr_ne (by omega)]; exact C3, ?_⟩, by rw [gr_ne (by omega)]⟩
  · show gr s 1 4 w (1 + p) = w p
    rw [gr_eq ⟨by omega, by omega⟩, Nat.add_sub_cancel_left]
  · rw [gr_eq ⟨by omega, by omega⟩]
    show w 0 1 = _
    rw [hd, C4]
theorem st_lk {t : ST} {c lk lk' : Nat} {kd sh pc : Nat → Nat} {x : Int32} (h : BRel t c lk kd sh pc) (hx : x = nI lk') : BRel (st t 0 2 x) c lk' kd sh pc := ⟨h.1, hx, h.2.2⟩
theorem ym_lk {m m1 : ST} {lk lk' : Nat} {sh : Nat → Nat} {D T x : Int32} (h : YM m m1 lk sh D T) (hx : x = nI lk') : YM (st m 0 5 x) m1 lk' sh D T := by
  obtain ⟨M1, M2, M3, M4, M5, M6⟩ := h
  exact ⟨hx, M2, M3, M4, fun p h0 h6 => by rw [st_ne h0]; exact M5 p h0 h6, fun j h5 h9 h10 => by rw [st_eq, upd_ne h5]; exact M6 j h5 h9 h10⟩
theorem act_y {m1 : ST} {f : Nat → Nat} {c lk : Nat} {kd sh sh0 pc : Nat → Nat} {d0 D T B : Int32} {s m : ST} {j : Nat} (hj : j < c) (hB : B = 1 ∨ B = 2 ∨ ∃ e, e < 6 ∧ B = nI (10 + e)) (hM : MB m1 c kd pc f) (hb : BOk c lk kd sh pc) (hge : ∀ j, c ≤ j → sh j = sh0 j) (hC : YC s c lk kd sh pc d0 D T) (hm : YM m m1 lk sh D T) : (∃ (u v : ST) (lk' : Nat) (sh' : Nat → Nat), F_X5_tryAct s (nI j) B = some (1, u) ∧ F_X7_does m (nI j) B = some (1, v) ∧ BOk c lk' kd sh' pc ∧ (∀ j, c ≤ j → sh' j = sh0 j) ∧ YC u c lk' kd sh' pc d0 D T ∧ u 0 1 = s 0 1 ∧ YM v m1 lk' sh' D T) ∨ (∃ u : ST, F_X5_tryAct s (nI j) B = some (0, u) ∧ F_X7_does m (nI j) B = some (0, m) ∧ YC u c lk kd sh pc d0 D T ∧ u 0 1 = s 0 1) := by
  have hC0 := hC
  have hm0 := hm
  obtain ⟨C1, C2, C3, C4⟩ := hC
  obtain ⟨M1, M2, M3, M4, M5, M6⟩ := hm
  obtain ⟨hc, hl, hBk⟩ := hb
  have j6 : j < 6 := by omega
  obtain ⟨k1, k2, k3, k4⟩ := lk_t lk hl j j6
  obtain ⟨l1, l2, l3, l4, l5⟩ := lk_b lk hl j j6
  have e05 : sb s 1 0 2 = nI lk := C1.2.1
  unfold F_X5_tryAct F_X7_does
  rw [has_y C1.1 hc hj, bs, if_neg n10]
  rcases hB with rfl | rfl | ⟨e, he, rfl⟩
  · rw [if_pos rfl, if_neg n10, if_pos (show (1 : Int32) < 10 by decide), M1, isOf_m hl j6, bs, if_neg (show ¬ (1 : Int32) = 2 by decide)]
    unfold F_X0_lookAt F_X0_lookAt_J13 F_X7_does_J95
    rw [isLk_c e05 hl j6, bs, e05, M1, k2, k4]
    rcases lkd_01 lk j with z | z
    · rw [z, if_pos (show nI 0 = 0 from rfl), if_pos (show nI 0 = 0 from rfl)]
      obtain ⟨g1, g2⟩ := yc_gr hC0 (st_lk C1 (lk' := lk ||| 2 ^ j) rfl) rfl
      exact Or.inl ⟨_, _, lk ||| 2 ^ j, sh, rfl, rfl, ⟨hc, l1, hBk⟩, hge, g1, g2, ym_lk hm0 (by rw [(l5 z).2])⟩
    · rw [z, if_neg n10', if_neg n10']
      obtain ⟨g1, g2⟩ := yc_gr hC0 (st_lk C1 (x := nI (lk ||| 2 ^ j)) (lk' := lk) (by rw [(l4 z).1])) rfl
      exact Or.inr ⟨_, rfl, rfl, g1, g2⟩
  · rw [if_neg (show ¬ (2 : Int32) = 1 by decide), if_pos rfl, if_neg (show ¬ (2 : Int32) = 0 by decide), if_pos (show (2 : Int32) < 10 by decide), M1, isOf_m hl j6, bs, if_pos rfl]
    unfold F_X0_lookAwayFrom F_X7_does_J95
    rw [isLk_c e05 hl j6, bs, e05, M1, k3, k4]
    rcases lkd_01 lk j with z | z
    · rw [z, if_neg (show ¬ nI 0 = 1 by decide)]
      obtain ⟨g1, g2⟩ := yc_gr hC0 (st_lk C1 (x := nI (lk - lk / 2 ^ j % 2 * 2 ^ j)) (lk' := lk) (by rw [(l5 z).1])) rfl
      exact Or.inr ⟨_, rfl, rfl, g1, g2⟩
    · rw [z, if_pos (show nI 1 = 1 from rfl)]
      obtain ⟨g1, g2⟩ := yc_gr hC0 (st_lk C1 (lk' := lk - lk / 2 ^ j % 2 * 2 ^ j) rfl) rfl
      exact Or.inl ⟨_, _, lk - lk / 2 ^ j % 2 * 2 ^ j, sh, rfl, rfl, ⟨hc, l2, hBk⟩, hge, g1, g2, ym_lk hm0 (by rw [(l4 z).2])⟩
  · obtain ⟨b1, b2, b3⟩ := hBk j j6
    obtain ⟨-, -, -, x4⟩ := lk_t (sh j) b2 e he
    obtain ⟨-, -, x3, -⟩ := lk_b (sh j) b2 e he
    have eB : nI (10 + e) - 10 = nI e := by
      rw [show (10 : Int32) = nI 10 from rfl, pk_sub (by omega), Nat.add_sub_cancel_left]
    rw [if_neg (show ¬ nI (10 + e) = 1 from nI_ne (b := 1) (by omega) (by omega) (by decide)), if_neg (show ¬ nI (10 + e) = 2 from nI_ne (b := 2) (by omega) (by omega) (by decide)), if_neg (nI_ne0 (by omega) (by omega)), if_neg (show ¬ nI (10 + e) < 10 from nI_nlt (b := 10) (by omega) (by omega)), eB]
    unfold F_X0_strikeAt
    rw [rdE j6 (by decide) (C1.2.2 j j6).2.1 rfl, bs, ixN j6 (by decide), bs, bs, rdE j6 (by decide) (M2 j j6) rfl, bs, bs, x4]
    have hw : BRel (st (sb s 1) 2 j (nI (sh j ^^^ 2 ^ e))) c lk kd (un sh j (sh j ^^^ 2 ^ e)) pc := ⟨C1.1, C1.2.1, fun i hi => ⟨(C1.2.2 i hi).1, un_at (C1.2.2 i hi).2.1 rfl, (C1.2.2 i hi).2.2⟩⟩
    obtain ⟨g1, g2⟩ := yc_gr hC0 hw rfl
    refine Or.inl ⟨_, _, lk, un sh j (sh j ^^^ 2 ^ e), rfl, rfl, ⟨hc, hl, fun i hi => ⟨(hBk i hi).1, Nat.lt_succ_of_le (un_le (B := 63) (Nat.le_of_lt_succ (hBk i hi).2.1) (by omega)), (hBk i hi).2.2⟩⟩, fun i hi => ?_, g1, g2, ?_⟩
    · unfold un
      rw [if_neg (by omega)]
      exact hge i hi
    · exact ⟨M1, fun i hi => un_at (M2 i hi) rfl, M3, M4, fun p h0 h6 => by rw [st_ne h6]; exact M5 p h0 h6, M6⟩
theorem n9 {q : Nat} (h : q < 1000) : ¬ nI q = -9 := fun z => by
  have h1 := congrArg Int32.toInt z
  rw [nI_toInt (by omega)] at h1
  have h2 : (-9 : Int32).toInt = -9 := rfl
  omega
theorem live_L {t1 t2 t3 m1 : ST} {f : Nat → Nat} (hL : LRel t2 f) (hf : FOk f) {c : Nat} {kd sh0 pc : Nat → Nat} (hM : MB m1 c kd pc f) {A B : Nat → Int32} {N i ln X : Nat} (hN : N ≤ 20) (h2 : t3 0 2 = nI ln) (hl : ln ≤ 60) (hi : i + 2 * N ≤ ln) (hv : ∀ j, j < N → t3 1 (i + 2 * j) = A j ∧ t3 1 (i + 2 * j + 1) = B j) (hX : X + 2 * N ≤ 240) (hv2 : ∀ j, j < N → m1 3 (X + 2 * j) = A j ∧ m1 3 (X + 2 * j + 1) = B j) (hP : ∀ j, j < N → PP c (A j) (B j)) (d0 : Int32) (kc : Int32 → ST → Option ST) (km : Int32 → ST → Option (Int32 × ST)) (hk : ∀ x s, km x s = some (-9, s)) : ∀ n q (s m : ST) (lk : Nat) (sh : Nat → Nat) (D T : Int32), q ≤ N → N - q < n → BOk c lk kd sh pc → (∀ j, c ≤ j → sh j = sh0 j) → YC s c lk kd sh pc d0 D T → s 0 1 = -9 → YM m m1 lk sh D T → ∃ (u v : ST) (x r : Int32) (lk' : Nat) (sh' : Nat → Nat) (D' T' : Int32), F_X5_live_L30 t1 t2 t3 (nI i) (nI N) kc n (nI q) s = kc x u ∧ F_X7_goYears_L12 (nI X) (nI N) km n (nI q) m = some (r, v) ∧ BOk c lk' kd sh' pc ∧ (∀ j, c ≤ j → sh' j = sh0 j) ∧ YC u c lk' kd sh' pc d0 D' T' ∧ u 0 1 = r ∧ YM v m1 lk' sh' D' T' := by
  intro n
  induction n with
  | zero => intro q s m lk sh D T _ h; omega
  | succ n ih =>
    intro q s m lk sh D T hq hn hb hge hC he hm
    rw [F_X5_live_L30.eq_2, F_X7_goYears_L12.eq_2]
    by_cases h : q = N
    · subst h
      rw [if_pos (nI_le (Nat.le_refl _) (by omega)), if_pos (nI_le (Nat.le_refl _) (by omega)), hk]
      exact ⟨s, m, _, -9, lk, sh, D, T, rfl, rfl, hb, hge, hC, he, hm⟩
    · obtain ⟨a1, a2⟩ := hv q (by omega)
      obtain ⟨b1, b2⟩ := hv2 q (by omega)
      have p3 : m 3 = m1 3 := hm.2.2.2.2.1 3 (by decide) (by decide)
      have dbl : (2 : Int32) * nI q = nI (2 * q) := show nI 2 * nI q = _ by rw [pk_mul]
      rw [if_neg (nI_ge (by omega) (by omega)), if_neg (nI_ge (by omega) (by omega)), if_pos he, dbl, nI_add, nI_add, nI_1, nI_1, nI_1, at_c h2 hl (by omega) a1, bs, at_c h2 hl (by omega) a2, bs, p3, rdE (show X + 2 * q < 240 by omega) (by decide) b1 rfl, bs, rdE (show X + 2 * q + 1 < 240 by omega) (by decide) b2 rfl, bs]
      have o1 : q + 1 ≤ N := by omega
      have o2 : N - (q + 1) < n := by omega
      rcases hP q (by omega) with ⟨eB, a, ha, eA⟩ | ⟨j, hj, eA, hB⟩
      · obtain ⟨u, v, sh', D', T', u1, v1, w1, w2, w3, w4, w5⟩ := letGo_y hL hf hM (N := a) (by omega) hb hge hC he hm
        rw [eB, eA, if_pos (show (0 : Int32) = 0 from rfl), u1, bs, v1, b2s, if_neg n10]
        exact ih (q + 1) u v lk sh' D' T' o1 o2 w1 w2 w3 w4 w5
      · have nB : ¬ B q = 0 := by
          rcases hB with e | e | ⟨e, he, ee⟩
          · rw [e]; decide
          · rw [e]; decide
          · rw [ee]; exact nI_ne0 (by omega) (by omega)
        rw [if_neg nB, eA]
        rcases act_y hj hB hM hb hge hC hm with ⟨u, v, lk', sh', u1, v1, w1, w2, w3, w4, w5⟩ | ⟨u, u1, v1, w3, w4⟩
        · rw [u1, b2s, if_neg n10, v1, b2s, if_neg n10]
          exact ih (q + 1) u v lk' sh' D T o1 o2 w1 w2 w3 (w4.trans he) w5
        · rw [u1, b2s, if_pos (show (0 : Int32) = 0 from rfl), v1, b2s, if_pos (show (0 : Int32) = 0 from rfl)]
          have w3' : YC (st u 0 1 (nI q)) c lk kd sh pc d0 D T := ⟨w3.1.congr (fun p hp => by
            show st u 0 1 (nI q) (1 + p) = u (1 + p)
            rw [st_ne (by omega)]), w3.2.1, w3.2.2.1, w3.2.2.2⟩
          obtain ⟨n', rfl⟩ : ∃ n', n = n' + 1 := ⟨n - 1, by omega⟩
          have fin : F_X5_live_L30 t1 t2 t3 (nI i) (nI N) kc (n' + 1) (nI (q + 1)) (st u 0 1 (nI q)) = kc (nI (q + 1)) (st u 0 1 (nI q)) := by
            rw [F_X5_live_L30.eq_2]
            by_cases e : nI N ≤ nI (q + 1)
            · rw [if_pos e]
            · rw [if_neg e, if_neg (show ¬ st u 0 1 (nI q) 0 1 = -9 from n9 (by omega))]
          exact ⟨st u 0 1 (nI q), m, nI (q + 1), nI q, lk, sh, D, T, fin, rfl, hb, hge, w3', rfl, hm⟩
