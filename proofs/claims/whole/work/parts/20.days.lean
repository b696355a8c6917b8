/-! days -/
def d1 (c lk : Nat) (g sh : Nat → Nat) (f : Nat → Nat) : Nat → Nat := fun j => if j < c ∧ lkd lk j = 0 then it f (g j) (sh j) else sh j
def dp (c lk : Nat) (g sh : Nat → Nat) (f : Nat → Nat) (i : Nat) : Nat → Nat := fun j => if j < i ∧ j < c ∧ lkd lk j = 0 then it f (g j) (sh j) else sh j
theorem dp_0 (c lk : Nat) (g sh f : Nat → Nat) : dp c lk g sh f 0 = sh := by
  funext j
  unfold dp
  rw [if_neg (by omega)]
theorem dp_c (c lk : Nat) (g sh f : Nat → Nat) : dp c lk g sh f c = d1 c lk g sh f := by
  funext j
  unfold dp d1
  by_cases h : j < c ∧ lkd lk j = 0
  · rw [if_pos h, if_pos ⟨h.1, h⟩]
  · rw [if_neg h, if_neg (fun z => h z.2)]
theorem dp_s {c lk : Nat} {g sh f : Nat → Nat} {i : Nat} (hi : i < c) : dp c lk g sh f (i + 1) = if lkd lk i = 0 then un (dp c lk g sh f i) i (it f (g i) (sh i)) else dp c lk g sh f i := by
  funext j
  by_cases h : lkd lk i = 0
  · rw [if_pos h]
    unfold un
    by_cases e : j = i
    · subst e
      rw [if_pos rfl]
      unfold dp
      rw [if_pos ⟨by omega, hi, h⟩]
    · rw [if_neg e]
      unfold dp
      by_cases h2 : j < i ∧ j < c ∧ lkd lk j = 0
      · rw [if_pos h2, if_pos ⟨by omega, h2.2⟩]
      · rw [if_neg h2, if_neg (fun z => h2 ⟨by omega, z.2⟩)]
  · rw [if_neg h]
    unfold dp
    by_cases h2 : j < i ∧ j < c ∧ lkd lk j = 0
    · rw [if_pos h2, if_pos ⟨by omega, h2.2⟩]
    · rw [if_neg h2, if_neg]
      intro z
      by_cases e : j = i
      · subst e; exact h z.2.2
      · exact h2 ⟨by omega, z.2⟩
theorem dp_at {c lk : Nat} {g sh f : Nat → Nat} {i : Nat} : dp c lk g sh f i i = sh i := by
  unfold dp
  rw [if_neg (by omega)]
theorem dp_lt {c lk : Nat} {g sh f : Nat → Nat} {i j : Nat} (hf : FOk f) (h : sh j < 64) : dp c lk g sh f i j < 64 := by
  unfold dp
  by_cases h2 : j < i ∧ j < c ∧ lkd lk j = 0
  · rw [if_pos h2]; exact it_lt hf _ _ h
  · rw [if_neg h2]; exact h
theorem d1_lt {c lk : Nat} {g sh f : Nat → Nat} {j : Nat} (hf : FOk f) (h : sh j < 64) : d1 c lk g sh f j < 64 := by
  rw [← dp_c]
  exact dp_lt hf h
/-- the bounds of blocks -/
def BOk (c lk : Nat) (kd sh pc : Nat → Nat) : Prop := c ≤ 6 ∧ lk < 64 ∧ ∀ j, j < 6 → kd j < 3 ∧ sh j < 64 ∧ pc j ≤ 4
def gk (kd pc : Nat → Nat) : Nat → Nat := fun j => gs (kd j) (pc j)
theorem goOn_L {t1 : ST} {f : Nat → Nat} (hL : LRel t1 f) (hf : FOk f) {c lk : Nat} {kd sh pc : Nat → Nat} (hb : BOk c lk kd sh pc) (k : Int32 → ST → Option ST) : ∀ n i (s : ST), i ≤ c → c - i < n → BRel s c lk kd (dp c lk (gk kd pc) sh f i) pc → ∃ u : ST, F_X0_goOn_L2 t1 k n (nI i) s = k (nI c) u ∧ BRel u c lk kd (d1 c lk (gk kd pc) sh f) pc ∧ u 0 = s 0 := by
  obtain ⟨hc, hl, hB⟩ := hb
  intro n
  induction n with
  | zero => intro i s _ h; omega
  | succ n ih =>
    intro i s hi hn hs
    obtain ⟨s1, s2, s3⟩ := id hs
    rw [F_X0_goOn_L2.eq_2, s1]
    by_cases h : i = c
    · subst h
      rw [if_pos (nI_le (Nat.le_refl _) (by omega))]
      exact ⟨s, rfl, by rw [← dp_c]; exact hs, rfl⟩
    · have i6 : i < 6 := by omega
      rw [if_neg (nI_ge (by omega) (by omega)), isLk_c s2 hl i6, bs]
      rcases lkd_01 lk i with e | e
      · rw [e, if_pos (show nI 0 = 0 from rfl), rdE i6 (by decide) (s3 i i6).2.1 rfl, bs, goes_c i6 (s3 i i6).1 (s3 i i6).2.2 (hB i i6).1, bs, after_c hL (dp_lt hf (hB i i6).2.1) (gs_le (hB i i6).2.2), bs, ixN i6 (by decide), bs, nI_1, dp_at]
        obtain ⟨u, h1, h2, h3⟩ := ih (i + 1) (st s 2 i (nI (it f (gs (kd i) (pc i)) (sh i)))) (by omega) (by omega) ⟨s1, s2, fun j hj => ⟨(s3 j hj).1, by
          rw [dp_s (by omega), if_pos e]
          exact un_at (s3 j hj).2.1 rfl, (s3 j hj).2.2⟩⟩
        exact ⟨u, h1, h2, h3⟩
      · rw [e, if_neg n10', nI_1]
        exact ih (i + 1) s (by omega) (by omega) (by rw [dp_s (by omega), if_neg (by rw [e]; decide)]; exact hs)
theorem goOn_c {t t1 : ST} {f : Nat → Nat} (hL : LRel t1 f) (hf : FOk f) {c lk : Nat} {kd sh pc : Nat → Nat} (hb : BOk c lk kd sh pc) (ht : BRel t c lk kd sh pc) : ∃ u : ST, F_X0_goOn t t1 = some u ∧ BRel u c lk kd (d1 c lk (gk kd pc) sh f) pc ∧ u 0 1 = t 0 1 + 1 := by
  obtain ⟨u, h1, h2, h3⟩ := goOn_L hL hf hb (fun _ s => F_X0_goOn_J45 t1 s) 1000 0 t (Nat.zero_le _) (by have := hb.1; omega) (by rw [dp_0]; exact ht)
  refine ⟨st u 0 1 (u 0 1 + 1), ?_, ?_, ?_⟩
  · unfold F_X0_goOn
    exact h1
  · exact ⟨h2.1, h2.2.1, h2.2.2⟩
  · show u 0 1 + 1 = _
    rw [h3]
theorem oneDay_L {f : Nat → Nat} (hf : FOk f) {c lk : Nat} {kd sh pc : Nat → Nat} (hb : BOk c lk kd sh pc) (k : Int32 → ST → Option ST) : ∀ n i (s : ST), i ≤ c → c - i < n → s 0 3 = nI c → s 0 5 = nI lk → (∀ j, j < 64 → s 4 j = nI (f j)) → (∀ j, j < 6 → s 5 j = nI (kd j) ∧ s 6 j = nI (dp c lk (gk kd pc) sh f i j) ∧ s 7 j = nI (pc j)) → ∃ u : ST, F_X7_oneDay_L2 k n (nI i) s = k (nI c) u ∧ (∀ p, p ≠ 6 → u p = s p) ∧ ∀ j, j < 6 → u 6 j = nI (d1 c lk (gk kd pc) sh f j) := by
  obtain ⟨hc, hl, hB⟩ := hb
  intro n
  induction n with
  | zero => intro i s _ h; omega
  | succ n ih =>
    intro i s hi hn s1 s2 s4 s3
    rw [F_X7_oneDay_L2.eq_2, s1]
    by_cases h : i = c
    · subst h
      rw [if_pos (nI_le (Nat.le_refl _) (by omega))]
      exact ⟨s, rfl, fun _ _ => rfl, fun j hj => by rw [← dp_c]; exact (s3 j hj).2.1⟩
    · have i6 : i < 6 := by omega
      have gle := gs_le (kd := kd i) (hB i i6).2.2
      rw [if_neg (nI_ge (by omega) (by omega)), s2, isOf_m hl i6, bs]
      rcases lkd_01 lk i with e | e
      · rw [e, if_pos (show nI 0 = 0 from rfl), rdE i6 (by decide) (s3 i i6).2.1 rfl, bs, goes_m i6 (s3 i i6).1 (s3 i i6).2.2 (hB i i6).1, bs, stepsOn_m s4 hf (dp_lt hf (hB i i6).2.1) (by omega), bs, ixN i6 (by decide), bs, nI_1, dp_at]
        obtain ⟨u, h1, h2, h3⟩ := ih (i + 1) (st s 6 i (nI (it f (gs (kd i) (pc i)) (sh i)))) (by omega) (by omega) s1 s2 s4 (fun j hj => ⟨(s3 j hj).1, by
          rw [dp_s (by omega), if_pos e]
          exact un_at (s3 j hj).2.1 rfl, (s3 j hj).2.2⟩)
        exact ⟨u, h1, fun p hp => by rw [h2 p hp, st_ne hp], h3⟩
      · rw [e, if_neg n10', nI_1]
        exact ih (i + 1) s (by omega) (by omega) s1 s2 s4 (by rw [dp_s (by omega), if_neg (by rw [e]; decide)]; exact s3)
theorem oneDay_m {t : ST} {f : Nat → Nat} (hf : FOk f) {c lk : Nat} {kd sh pc : Nat → Nat} (hb : BOk c lk kd sh pc) (s1 : t 0 3 = nI c) (s2 : t 0 5 = nI lk) (s4 : ∀ j, j < 64 → t 4 j = nI (f j)) (s3 : ∀ j, j < 6 → t 5 j = nI (kd j) ∧ t 6 j = nI (sh j) ∧ t 7 j = nI (pc j)) : ∃ u : ST, F_X7_oneDay t = some u ∧ (∀ p, p ≠ 6 → u p = t p) ∧ ∀ j, j < 6 → u 6 j = nI (d1 c lk (gk kd pc) sh f j) := by
  obtain ⟨u, h1, h2, h3⟩ := oneDay_L hf hb (fun _ s => F_X7_oneDay_J48 s) 1000 0 t (Nat.zero_le _) (by have := hb.1; omega) s1 s2 s4 (by rw [dp_0]; exact s3)
  refine ⟨u, ?_, h2, h3⟩
  unfold F_X7_oneDay
  exact h1
/-- n days -/
def dn (c lk : Nat) (g : Nat → Nat) (f : Nat → Nat) : Nat → (Nat → Nat) → (Nat → Nat)
  | 0, sh => sh
  | n + 1, sh => dn c lk g f n (d1 c lk g sh f)
theorem dn_s (c lk : Nat) (g f : Nat → Nat) : ∀ n sh, dn c lk g f (n + 1) sh = d1 c lk g (dn c lk g f n sh) f
  | 0, _ => rfl
  | n + 1, sh => dn_s c lk g f n (d1 c lk g sh f)
theorem dn_lt {c lk : Nat} {g f : Nat → Nat} (hf : FOk f) : ∀ n (sh : Nat → Nat), (∀ j, j < 6 → sh j < 64) → ∀ j, j < 6 → dn c lk g f n sh j < 64
  | 0, _, h => h
  | n + 1, sh, h => dn_lt hf n _ (fun j hj => d1_lt hf (h j hj))
theorem BOk.dn {c lk : Nat} {kd sh pc : Nat → Nat} (hb : BOk c lk kd sh pc) {g f : Nat → Nat} (hf : FOk f) (n : Nat) : BOk c lk kd (dn c lk g f n sh) pc := ⟨hb.1, hb.2.1, fun j hj => ⟨(hb.2.2 j hj).1, dn_lt hf n sh (fun i hi => (hb.2.2 i hi).2.1) j hj, (hb.2.2 j hj).2.2⟩⟩
theorem days_L38 {f : Nat → Nat} (hf : FOk f) {c lk : Nat} {kd sh pc : Nat → Nat} (hb : BOk c lk kd sh pc) {N : Nat} (hN : N < 2 ^ 31) (d0 : Int32) (k : Int32 → ST → Option (Int32 × ST)) : ∀ n i (s : ST), i ≤ N → N - i < n → LRel (sb s 1) f → BRel (sb s 3) c lk kd (dn c lk (gk kd pc) f i sh) pc → s 3 1 = d0 + nI i → ∃ u : ST, F_X6_days_L38 (nI N) k n (nI i) s = k (nI N) u ∧ (∀ p, ¬ (3 ≤ p ∧ p < 7) → u p = s p) ∧ BRel (sb u 3) c lk kd (dn c lk (gk kd pc) f N sh) pc ∧ u 3 1 = d0 + nI N := by
  intro n
  induction n with
  | zero => intro i s _ h; omega
  | succ n ih =>
    intro i s hi hn hL hB hd
    rw [F_X6_days_L38.eq_2]
    by_cases h : i = N
    · subst h
      rw [if_pos (nI_le (Nat.le_refl _) hN)]
      exact ⟨s, rfl, fun _ _ => rfl, hB, hd⟩
    · obtain ⟨v, g1, g2, g3⟩ := goOn_c hL hf (hb.dn (g := gk kd pc) hf i) hB
      rw [if_neg (nI_ge (by omega) hN), g1, bs, nI_1]
      obtain ⟨u, h1, h2, h3, h4⟩ := ih (i + 1) (gr s 3 4 v) (by omega) (by omega) (hL.congr rfl) (by
        rw [dn_s]
        exact g2.congr (fun p hp => by
          show gr s 3 4 v (3 + p) = v p
          rw [gr_eq ⟨by omega, by omega⟩, Nat.add_sub_cancel_left])) (by
        show v 0 1 = _
        rw [g3, show sb s 3 0 1 = s 3 1 from rfl, hd, ← nI_1, Int32.add_assoc])
      exact ⟨u, h1, fun p hp => by rw [h2 p hp, gr_ne (by omega)], h3, h4⟩
theorem days_L30 {f : Nat → Nat} (hf : FOk f) {c lk : Nat} {kd sh pc : Nat → Nat} (hb : BOk c lk kd sh pc) {N : Nat} (hN : N < 2 ^ 31) (k : Int32 → ST → Option (Int32 × ST)) : ∀ n i (s : ST), i ≤ N → N - i < n → s 0 3 = nI c → s 0 5 = nI lk → (∀ j, j < 64 → s 4 j = nI (f j)) → (∀ j, j < 6 → s 5 j = nI (kd j) ∧ s 6 j = nI (dn c lk (gk kd pc) f i sh j) ∧ s 7 j = nI (pc j)) → ∃ u : ST, F_X7_days_L30 (nI N) k n (nI i) s = k (nI N) u ∧ (∀ p, p ≠ 6 → u p = s p) ∧ ∀ j, j < 6 → u 6 j = nI (dn c lk (gk kd pc) f N sh j) := by
  intro n
  induction n with
  | zero => intro i s _ h; omega
  | succ n ih =>
    intro i s hi hn s1 s2 s4 s3
    rw [F_X7_days_L30.eq_2]
    by_cases h : i = N
    · subst h
      rw [if_pos (nI_le (Nat.le_refl _) hN)]
      exact ⟨s, rfl, fun _ _ => rfl, fun j hj => (s3 j hj).2.1⟩
    · obtain ⟨v, g1, g2, g3⟩ := oneDay_m hf (hb.dn (g := gk kd pc) hf i) s1 s2 s4 s3
      rw [if_neg (nI_ge (by omega) hN), g1, bs, nI_1]
      obtain ⟨u, h1, h2, h3⟩ := ih (i + 1) v (by omega) (by omega) (by rw [g2 0 (by decide)]; exact s1) (by rw [g2 0 (by decide)]; exact s2) (by rw [g2 4 (by decide)]; exact s4) (fun j hj => ⟨by rw [g2 5 (by decide)]; exact (s3 j hj).1, by rw [dn_s]; exact g3 j hj, by rw [g2 7 (by decide)]; exact (s3 j hj).2.2⟩)
      exact ⟨u, h1, fun p hp => by rw [h2 p hp, g2 p hp], h3⟩
theorem copyFrom_c {t t1 : ST} {c lk : Nat} {kd sh pc : Nat → Nat} (h : BRel t1 c lk kd sh pc) : ∃ u : ST, F_X0_copyFrom t t1 = some u ∧ BRel u c lk kd sh pc ∧ u 0 1 = t1 0 1 := by
  have cp : ∀ (f g : Nat → Int32), cpy 6 6 f g 0 0 6 = some (va_cpy f g 0 0 6) := fun f g => cpyN (i := 0) (j := 0) (n := 6) (by decide) (by decide) (by decide) (by decide)
  have at6 : ∀ (f g : Nat → Int32) (j : Nat), j < 6 → va_cpy f g 0 0 6 j = f j := fun f g j hj => by
    unfold va_cpy
    rw [if_pos (by omega)]
    congr 1; omega
  obtain ⟨h1, h2, h3⟩ := h
  unfold F_X0_copyFrom
  rw [cp, cp, cp, bs, bs, bs]
  refine ⟨_, rfl, ⟨h1, h2, fun j hj => ⟨?_, ?_, ?_⟩⟩, rfl⟩
  · show va_cpy (t1 1) (t 1) 0 0 6 j = _
    rw [at6 _ _ j hj]; exact (h3 j hj).1
  · show va_cpy (t1 2) (t 2) 0 0 6 j = _
    rw [at6 _ _ j hj]; exact (h3 j hj).2.1
  · show va_cpy (t1 3) (t 3) 0 0 6 j = _
    rw [at6 _ _ j hj]; exact (h3 j hj).2.2
theorem keep_m {t : ST} {c : Nat} {sh : Nat → Nat} (hc : c ≤ 6) (h3 : t 0 3 = nI c) (h6 : ∀ j, j < 6 → t 6 j = nI (sh j)) : ∃ u : ST, F_X7_keep t = some u ∧ (∀ p, p ≠ 9 → u p = t p) ∧ ∀ j, j < c → u 9 j = nI (sh j) := by
  have key : ∀ n i (s : ST), i ≤ c → c - i < n → s 0 3 = nI c → (∀ j, j < 6 → s 6 j = nI (sh j)) → (∀ j, j < i → s 9 j = nI (sh j)) → ∃ u : ST, F_X7_keep_L2 (fun _ s => some s) n (nI i) s = some u ∧ (∀ p, p ≠ 9 → u p = s p) ∧ ∀ j, j < c → u 9 j = nI (sh j) := by
    intro n
    induction n with
    | zero => intro i s _ h; omega
    | succ n ih =>
      intro i s hi hn s3 s6 s9
      rw [F_X7_keep_L2.eq_2, s3]
      by_cases h : i = c
      · subst h
        rw [if_pos (nI_le (Nat.le_refl _) (by omega))]
        exact ⟨s, rfl, fun _ _ => rfl, s9⟩
      · have i6 : i < 6 := by omega
        rw [if_neg (nI_ge (by omega) (by omega)), rdE i6 (by decide) (s6 i i6) rfl, bs, ixN i6 (by decide), bs, nI_1]
        obtain ⟨u, h1, h2, h4⟩ := ih (i + 1) (st s 9 i (nI (sh i))) (by omega) (by omega) s3 s6 (fun j hj => by
          rw [st_eq]
          by_cases e : j = i
          · subst e; rw [upd_eq]
          · rw [upd_ne e]; exact s9 j (by omega))
        exact ⟨u, h1, fun p hp => by rw [h2 p hp, st_ne hp], h4⟩
  unfold F_X7_keep
  exact key 1000 0 t (Nat.zero_le _) (by omega) h3 h6 (fun j hj => absurd hj (Nat.not_lt_zero j))
def cnt (x y : Nat → Nat) : Nat → Nat
  | 0 => 0
  | i + 1 => cnt x y i + (if x i = y i then 0 else 1)
theorem cnt_s (x y : Nat → Nat) (i : Nat) : cnt x y (i + 1) = cnt x y i + (if x i = y i then 0 else 1) := rfl
theorem cnt_le (x y : Nat → Nat) : ∀ i, cnt x y i ≤ i
  | 0 => Nat.le_refl _
  | i + 1 => by
    have := cnt_le x y i
    show cnt x y i + (if x i = y i then 0 else 1) ≤ i + 1
    by_cases h : x i = y i
    · rw [if_pos h]; omega
    · rw [if_neg h]; omega
theorem cnt_c {s : ST} {c : Nat} {x y : Nat → Nat} (hc : c ≤ 6) (h3 : s 3 0 = nI c) (h5 : ∀ j, j < 6 → s 5 j = nI (x j) ∧ x j < 64) (h9 : ∀ j, j < 6 → s 9 j = nI (y j) ∧ y j < 64) (x1 : Int32) (k : Int32 → Int32 → Option (Int32 × ST)) : ∀ n i, i ≤ c → c - i < n → F_X6_days_L64 x1 s k n (nI (cnt x y i)) (nI i) = k (nI (cnt x y c)) (nI c) := by
  intro n
  induction n with
  | zero => intro i _ h; omega
  | succ n ih =>
    intro i hi hn
    rw [F_X6_days_L64.eq_2, h3]
    by_cases h : i = c
    · subst h
      rw [if_pos (nI_le (Nat.le_refl _) (by omega))]
    · have i6 : i < 6 := by omega
      have hx := (h5 i i6).2
      have hy := (h9 i i6).2
      rw [if_neg (nI_ge (by omega) (by omega)), rdE i6 (by decide) (h5 i i6).1 rfl, bs, rdE i6 (by decide) (h9 i i6).1 rfl, bs, nI_1, nI_1, ← ih (i + 1) (by omega) (by omega)]
      rw [cnt_s]
      by_cases e : x i = y i
      · rw [if_pos (show nI (x i) = nI (y i) by rw [e]), if_pos e]; rfl
      · rw [if_neg (nI_ne e (by omega) (by omega)), if_neg e]
theorem cnt_m {s : ST} {c : Nat} {x y : Nat → Nat} (hc : c ≤ 6) (h3 : s 0 3 = nI c) (h5 : ∀ j, j < 6 → s 6 j = nI (x j) ∧ x j < 64) (h9 : ∀ j, j < c → s 9 j = nI (y j)) (hy : ∀ j, j < 6 → y j < 64) (x1 : Int32) (k : Int32 → Int32 → Option (Int32 × ST)) : ∀ n i, i ≤ c → c - i < n → F_X7_days_L59 x1 s k n (nI (cnt x y i)) (nI i) = k (nI (cnt x y c)) (nI c) := by
  intro n
  induction n with
  | zero => intro i _ h; omega
  | succ n ih =>
    intro i hi hn
    rw [F_X7_days_L59.eq_2, h3]
    by_cases h : i = c
    · subst h
      rw [if_pos (nI_le (Nat.le_refl _) (by omega))]
    · have i6 : i < 6 := by omega
      have hx := (h5 i i6).2
      have hy' := hy i i6
      rw [if_neg (nI_ge (by omega) (by omega)), rdE i6 (by decide) (h5 i i6).1 rfl, bs, rdE i6 (by decide) (h9 i (by omega)) rfl, bs, nI_1, nI_1, show nI (cnt x y i) + 0 = nI (cnt x y i) from nI_add _ 0, ← ih (i + 1) (by omega) (by omega)]
      rw [cnt_s]
      by_cases e : x i = y i
      · rw [if_pos (show nI (x i) = nI (y i) by rw [e]), if_pos e]; rfl
      · rw [if_neg (nI_ne e (by omega) (by omega)), if_neg e]
theorem eq_days {s1 m1 : ST} (hR : Rel s1 m1) (x1 : Int32) : ∃ (r : Int32) (s2 : ST) (m2 : ST), F_X6_days s1 x1 = some (r, s2) ∧ F_X7_days m1 x1 = some (r, m2) ∧ Rel s2 m2 := by
  have hR0 := hR
  obtain ⟨a, b, ok, hc, hm⟩ := hR
  have ok0 := ok
  have hc0 := hc
  have hm0 := hm
  obtain ⟨o0, o1, o2, o3, oB, oF, oR, oS⟩ := ok
  obtain ⟨⟨c1, c2, c3⟩, cw, cB, cL, ⟨cn, cR⟩, cS⟩ := hc
  obtain ⟨⟨e1, e2, e3⟩, ew, ⟨ec, elk, eB⟩, eL, ⟨en, eR⟩, eS⟩ := hm
  unfold F_X6_days F_X7_days
  have cc : s1 3 0 = nI (a 0 1) := cB.1
  rcases rng x1 301 (by decide) with ⟨N, hN, rfl⟩ | h
  · by_cases hN0 : N = 0
    · subst hN0
      exact ⟨-2, s1, m1, rfl, rfl, hR0⟩
    · rw [if_neg (show ¬ nI N < 1 from nI_nlt (b := 1) (by omega) (by omega)), if_pos (show nI N ≤ 300 from nI_le (b := 300) (by omega) (by decide)), win_y (lo := 1) (hi := 300) (j := N) (a := 1) (b := 300) rfl (by omega) (by omega) (by decide) rfl rfl, bs, if_neg n10, ec]
      by_cases hz : a 0 1 = 0
      · rw [hasG_n cc hz, hz]
        exact ⟨-3, s1, m1, rfl, rfl, hR0⟩
      · have h0 : 0 < a 0 1 := Nat.pos_of_ne_zero hz
        have hb : BOk (a 0 1) (a 0 2) (a 1) (a 2) (a 3) := ⟨o1, o2, oB⟩
        obtain ⟨u, u1, u2, u3⟩ := copyFrom_c (t := sb s1 7) cB
        obtain ⟨v, v1, v2, v3⟩ := keep_m (t := m1) o1 ec (fun j hj => (eB j hj).2.1)
        rw [hasG_y cc h0 o1, bs, if_neg n10, if_neg (nI_ne0 h0 (by omega)), u1, v1, bs, bs]
        obtain ⟨w, w1, w2, w3, w4⟩ := days_L38 oF hb (N := N) (by omega) (b 0 2) (fun x2_k38 s0_k38 => F_X6_days_J60 (nI N) s0_k38) 1000 0 (gr s1 7 4 u) (Nat.zero_le _) (by omega) ((cL h0).congr rfl) (cB.congr (fun i hi => gr_ne (by omega))) (by
          show s1 3 1 = b 0 2 + nI 0
          rw [c3]
          exact (Int32.add_zero _).symm)
        obtain ⟨z, z1, z2, z3⟩ := days_L30 oF hb (N := N) (by omega) (fun x2_k30 s0_k30 => F_X7_days_J45 (nI N) s0_k30) 1000 0 v (Nat.zero_le _) (by omega) (by rw [v2 0 (by decide)]; exact ec) (by rw [v2 0 (by decide)]; exact elk) (by rw [v2 4 (by decide)]; exact eL h0) (fun j hj => ⟨by rw [v2 5 (by decide)]; exact (eB j hj).1, by rw [v2 6 (by decide)]; exact (eB j hj).2.1, by rw [v2 7 (by decide)]; exact (eB j hj).2.2⟩)
        have hlt := dn_lt (c := a 0 1) (lk := a 0 2) (g := gk (a 1) (a 3)) oF N (a 2) (fun j hj => (oB j hj).2.1)
        have k1 := cnt_c (s := w) (x := dn (a 0 1) (a 0 2) (gk (a 1) (a 3)) (a 4) N (a 2)) (y := a 2) o1 w3.1 (fun j hj => ⟨(w3.2.2 j hj).2.1, hlt j hj⟩) (fun j hj => ⟨by rw [w2 9 (by omega)]; exact (u2.2.2 j hj).2.1, (oB j hj).2.1⟩) (nI N) (fun x2_k64 x3_k64 => F_X6_days_J105 (nI N) x2_k64 w) 1000 0 (Nat.zero_le _) (by omega)
        have k2 := cnt_m (s := st z 0 4 (z 0 4 + nI N)) (x := dn (a 0 1) (a 0 2) (gk (a 1) (a 3)) (a 4) N (a 2)) (y := a 2) o1 (by rw [st_eq, upd_ne (by decide), z2 0 (by decide), v2 0 (by decide)]; exact ec) (fun j hj => ⟨z3 j hj, hlt j hj⟩) (fun j hj => by rw [st_ne (by decide), z2 9 (by decide)]; exact v3 j hj) (fun j hj => (oB j hj).2.1) (nI N) (fun x2_k59 x3_k59 => F_X7_days_J96 (nI N) x2_k59 (st z 0 4 (z 0 4 + nI N))) 1000 0 (Nat.zero_le _) (by omega)
        refine ⟨nI (cnt (dn (a 0 1) (a 0 2) (gk (a 1) (a 3)) (a 4) N (a 2)) (a 2) (a 0 1)), w, st z 0 4 (z 0 4 + nI N), ?_, ?_, ?_⟩
        · refine w1.trans ?_
          show F_X6_days_J60 (nI N) w = _
          unfold F_X6_days_J60
          exact k1
        · refine z1.trans ?_
          show F_X7_days_J45 (nI N) z = _
          unfold F_X7_days_J45
          exact k2
        · refine ⟨ab a (a 0 2) (a 1) (dn (a 0 1) (a 0 2) (gk (a 1) (a 3)) (a 4) N (a 2)) (a 3), st b 0 2 (b 0 2 + nI N), ok0.blk o2 (fun j hj => ⟨(oB j hj).1, hlt j hj, (oB j hj).2.2⟩), ?_, ?_⟩
          · refine (CRel.blk (u := sb w 3) hc0 w3 w4).congr (fun i hi => ?_)
            by_cases hr : 3 ≤ i ∧ i < 3 + 4
            · rw [gr_eq hr]
              show w i = w (3 + (i - 3))
              rw [show 3 + (i - 3) = i by omega]
            · rw [gr_ne hr, w2 i (by omega), gr_ne (by omega)]
          · have zz : ∀ j, z 0 j = m1 0 j := fun j => by rw [z2 0 (by decide), v2 0 (by decide)]
            have zp : ∀ p, p ≠ 6 → p ≠ 9 → z p = m1 p := fun p h6 h9 => by rw [z2 p h6, v2 p h9]
            refine MRel.blk hm0 (fun j hj => by rw [st_eq, upd_ne (by omega), zz]) (fun i hi => by rw [st_ne (by omega), zp i (by omega) (by omega)]) (by rw [st_eq, upd_eq, zz, e3]) (by rw [st_eq, upd_ne (by decide), zz]; exact elk) (fun j hj => ⟨by rw [st_ne (by decide), zp 5 (by decide) (by decide)]; exact (eB j hj).1, by rw [st_ne (by decide)]; exact z3 j hj, by rw [st_ne (by decide), zp 7 (by decide) (by decide)]; exact (eB j hj).2.2⟩)
  · refine ⟨-2, s1, m1, ?_, ?_, hR0⟩
    · rcases h with h | ⟨h, h3⟩
      · rw [if_pos (Int32.lt_trans h (by decide))]
      · have z2 := Int32.le_iff_toInt_le.mp h3
        have z3 : (nI 301).toInt = 301 := rfl
        have z4 : (1 : Int32).toInt = 1 := rfl
        have z5 : (300 : Int32).toInt = 300 := rfl
        rw [if_neg (fun z => by have := Int32.lt_iff_toInt_lt.mp z; omega), if_neg (fun z => by have := Int32.le_iff_toInt_le.mp z; omega)]
    · unfold F_X7_within
      rcases h with h | ⟨h, h3⟩
      · rw [if_pos (Int32.lt_trans h (by decide))]; rfl
      · have z2 := Int32.le_iff_toInt_le.mp h3
        have z3 : (nI 301).toInt = 301 := rfl
        have z4 : (1 : Int32).toInt = 1 := rfl
        have z5 : (300 : Int32).toInt = 300 := rfl
        rw [if_neg (fun z => by have := Int32.lt_iff_toInt_lt.mp z; omega), if_pos (Int32.lt_iff_toInt_lt.mpr (by omega))]; rfl
