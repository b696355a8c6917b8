/-! years: living -/
def YC (s : ST) (c lk : Nat) (kd sh pc : Nat → Nat) (d0 D T : Int32) : Prop := BRel (sb s 1) c lk kd sh pc ∧ s 0 0 = d0 ∧ s 0 2 = T ∧ s 1 1 = d0 + D
def YM (m m1 : ST) (lk : Nat) (sh : Nat → Nat) (D T : Int32) : Prop := m 0 5 = nI lk ∧ (∀ j, j < 6 → m 6 j = nI (sh j)) ∧ m 0 9 = D ∧ m 0 10 = T ∧ (∀ p, p ≠ 0 → p ≠ 6 → m p = m1 p) ∧ (∀ j, j ≠ 5 → j ≠ 9 → j ≠ 10 → m 0 j = m1 0 j)
def MB (m1 : ST) (c : Nat) (kd pc f : Nat → Nat) : Prop := m1 0 3 = nI c ∧ (∀ j, j < 64 → m1 4 j = nI (f j)) ∧ ∀ j, j < 6 → m1 5 j = nI (kd j) ∧ m1 7 j = nI (pc j)
theorem d1_ge {c lk : Nat} {g sh f : Nat → Nat} {j : Nat} (h : c ≤ j) : d1 c lk g sh f j = sh j := by
  unfold d1
  rw [if_neg (by omega)]
theorem BOk.d1 {c lk : Nat} {kd sh pc : Nat → Nat} (hb : BOk c lk kd sh pc) {g f : Nat → Nat} (hf : FOk f) : BOk c lk kd (d1 c lk g sh f) pc := ⟨hb.1, hb.2.1, fun j hj => ⟨(hb.2.2 j hj).1, d1_lt hf (hb.2.2 j hj).2.1, (hb.2.2 j hj).2.2⟩⟩
theorem yd_L {t2 m1 : ST} {f : Nat → Nat} (hL : LRel t2 f) (hf : FOk f) {c lk : Nat} {kd sh0 pc : Nat → Nat} (hM : MB m1 c kd pc f) {N : Nat} (hN : N < 1000) (d0 e0 x2 : Int32) (kc : Int32 → ST → Option ST) (km : Int32 → ST → Option (Int32 × ST)) : ∀ n i (s m : ST) (sh : Nat → Nat) (D T : Int32), i ≤ N → N - i < n → BOk c lk kd sh pc → (∀ j, c ≤ j → sh j = sh0 j) → YC s c lk kd sh pc d0 D T → s 0 1 = e0 → YM m m1 lk sh D T → ∃ (u v : ST) (sh' : Nat → Nat) (D' T' : Int32), F_X5_letGo_L2 t2 (nI N) kc n (nI i) s = kc (nI N) u ∧ F_X7_does_L6 (nI N) x2 km n (nI i) m = km (nI N) v ∧ BOk c lk kd sh' pc ∧ (∀ j, c ≤ j → sh' j = sh0 j) ∧ YC u c lk kd sh' pc d0 D' T' ∧ u 0 1 = e0 ∧ YM v m1 lk sh' D' T' := by
  obtain ⟨mc, m4, m57⟩ := hM
  intro n
  induction n with
  | zero => intro i s m sh D T _ h; omega
  | succ n ih =>
    intro i s m sh D T hi hn hb hge hC he hm
    rw [F_X5_letGo_L2.eq_2, F_X7_does_L6.eq_2]
    by_cases h : i = N
    · subst h
      rw [if_pos (nI_le (Nat.le_refl _) (by omega)), if_pos (nI_le (Nat.le_refl _) (by omega))]
      exact ⟨s, m, sh, D, T, rfl, rfl, hb, hge, hC, he, hm⟩
    · obtain ⟨C1, C2, C3, C4⟩ := hC
      obtain ⟨M1, M2, M3, M4, M5, M6⟩ := hm
      obtain ⟨u, u1, u2, u3⟩ := goOn_c hL hf hb C1
      have p3 : m 0 3 = nI c := by rw [M6 3 (by decide) (by decide) (by decide)]; exact mc
      obtain ⟨v, v1, v2, v3⟩ := oneDay_m (t := m) hf hb p3 M1 (by rw [M5 4 (by decide) (by decide)]; exact m4) (fun j hj => ⟨by rw [M5 5 (by decide) (by decide)]; exact (m57 j hj).1, M2 j hj, by rw [M5 7 (by decide) (by decide)]; exact (m57 j hj).2⟩)
      have hb2 := hb.d1 (g := gk kd pc) hf
      have hge2 : ∀ j, c ≤ j → d1 c lk (gk kd pc) sh f j = sh0 j := fun j hj => by rw [d1_ge hj]; exact hge j hj
      have B2 : BRel (sb (gr s 1 4 u) 1) c lk kd (d1 c lk (gk kd pc) sh f) pc := u2.congr (fun p hp => by
        show gr s 1 4 u (1 + p) = u p
        rw [gr_eq ⟨by omega, by omega⟩, Nat.add_sub_cancel_left])
      have tc := twins_c (t := sb (gr s 1 4 u) 1) hb.1 B2.1 (fun j hj => ⟨(B2.2.2 j hj).2.1, (hb2.2.2 j hj).2.1⟩)
      have v0 : v 0 = m 0 := v2 0 (by decide)
      have tm := twins_m (t := st v 0 9 (v 0 9 + 1)) (sh := d1 c lk (gk kd pc) sh f) hb.1 (by rw [st_eq, upd_ne (by decide), v0]; exact p3) (fun j hj => ⟨by rw [st_ne (by decide)]; exact v3 j hj, (hb2.2.2 j hj).2.1⟩)
      have day : gr s 1 4 u 1 1 = d0 + (D + 1) := by
        rw [gr_eq ⟨by omega, by omega⟩]
        show u 0 1 = _
        rw [u3]
        show s 1 1 + 1 = _
        rw [C4, Int32.add_assoc]
      have ym : ∀ T', YM (st (st v 0 9 (v 0 9 + 1)) 0 10 T') m1 lk (d1 c lk (gk kd pc) sh f) (D + 1) T' := fun T' => by
        refine ⟨?_, ?_, ?_, ?_, ?_, ?_⟩
        · rw [st_eq, upd_ne (by decide), st_eq, upd_ne (by decide), v0]; exact M1
        · intro j hj; rw [st_ne (by decide), st_ne (by decide)]; exact v3 j hj
        · rw [st_eq, upd_ne (by decide), st_eq, upd_eq, v0, M3]
        · rw [st_eq, upd_eq]
        · intro p h0 h6; rw [st_ne h0, st_ne h0, v2 p h6]; exact M5 p h0 h6
        · intro j h5 h9 h10; rw [st_eq, upd_ne h10, st_eq, upd_ne h9, v0]; exact M6 j h5 h9 h10
      rw [if_neg (nI_ge (by omega) (by omega)), if_neg (nI_ge (by omega) (by omega)), u1, bs, v1, bs, nI_1]
      have o1 : i + 1 ≤ N := by omega
      have o2 : N - (i + 1) < n := by omega
      have v10 : v 0 10 = T := by rw [v0]; exact M4
      by_cases tw : Twn (d1 c lk (gk kd pc) sh f) c
      · rw [tc.1 tw, tm.1 tw, bs, bs, if_neg n10, if_neg n10, v10]
        exact ih (i + 1) _ _ _ (D + 1) (T + 1) o1 o2 hb2 hge2 ⟨B2.congr (fun p hp => by
          show st (gr s 1 4 u) 0 2 (s 0 2 + 1) (1 + p) = gr s 1 4 u (1 + p)
          rw [st_ne (by omega)]), by
            show gr s 1 4 u 0 0 = d0
            rw [gr_ne (by omega)]; exact C2, by
            rw [st_eq, upd_eq, C3], day⟩ (by
            show gr s 1 4 u 0 1 = e0
            rw [gr_ne (by omega)]; exact he) (ym (T + 1))
      · rw [tc.2 tw, tm.2 tw, bs, bs, if_pos (show (0 : Int32) = 0 from rfl), if_pos (show (0 : Int32) = 0 from rfl), v10, Int32.add_zero]
        exact ih (i + 1) _ _ _ (D + 1) T o1 o2 hb2 hge2 ⟨B2, by rw [gr_ne (by omega)]; exact C2, by rw [gr_ne (by omega)]; exact C3, day⟩ (by rw [gr_ne (by omega)]; exact he) (ym T)
theorem letGo_y {t2 m1 : ST} {f : Nat → Nat} (hL : LRel t2 f) (hf : FOk f) {c lk : Nat} {kd sh0 pc : Nat → Nat} (hM : MB m1 c kd pc f) {N : Nat} (hN : N < 1000) {d0 e0 D T : Int32} {s m : ST} {sh : Nat → Nat} (hb : BOk c lk kd sh pc) (hge : ∀ j, c ≤ j → sh j = sh0 j) (hC : YC s c lk kd sh pc d0 D T) (he : s 0 1 = e0) (hm : YM m m1 lk sh D T) : ∃ (u v : ST) (sh' : Nat → Nat) (D' T' : Int32), F_X5_letGo s t2 (nI N) = some u ∧ F_X7_does m (nI N) 0 = some (1, v) ∧ BOk c lk kd sh' pc ∧ (∀ j, c ≤ j → sh' j = sh0 j) ∧ YC u c lk kd sh' pc d0 D' T' ∧ u 0 1 = e0 ∧ YM v m1 lk sh' D' T' := by
  obtain ⟨u, v, sh', D', T', h1, h2, h3⟩ := yd_L hL hf hM hN d0 e0 0 (fun x3_k2 s0_k2 => F_X5_letGo_J41 t2 (nI N) s0_k2) (fun x3_k6 s0_k6 => F_X7_does_J52 (nI N) 0 s0_k6) 1000 0 s m sh D T (Nat.zero_le _) (by omega) hb hge hC he hm
  refine ⟨u, v, sh', D', T', ?_, ?_, h3⟩
  · unfold F_X5_letGo
    exact h1
  · unfold F_X7_does
    rw [if_pos (show (0 : Int32) = 0 from rfl)]
    exact h2
