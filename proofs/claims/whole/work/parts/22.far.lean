/-! findFar, odds, starts -/
theorem square_L2 {g : Nat → Nat} (hg : FOk g) (k : Int32 → ST → Option ST) : ∀ n i (s : ST), i ≤ 64 → 64 - i < n → (∀ j, j < 64 → s 13 j = nI (g j)) → (∀ j, j < i → s 15 j = nI (g (g j))) → ∃ u : ST, F_X7_square_L2 k n (nI i) s = k (nI 64) u ∧ (∀ p, p ≠ 15 → u p = s p) ∧ ∀ j, j < 64 → u 15 j = nI (g (g j)) := by
  intro n
  induction n with
  | zero => intro i s _ h; omega
  | succ n ih =>
    intro i s hi hn h13 h15
    rw [F_X7_square_L2.eq_2]
    by_cases h : i = 64
    · subst h
      rw [if_pos (show (64 : Int32) ≤ nI 64 from by decide)]
      exact ⟨s, rfl, fun _ _ => rfl, h15⟩
    · have i6 : i < 64 := by omega
      rw [if_neg (show ¬ (64 : Int32) ≤ nI i from nI_ge (b := 64) i6 (by decide)), rdE i6 (by decide) (h13 i i6) rfl, bs, rdE (hg i i6) (by decide) (h13 _ (hg i i6)) rfl, bs, ixN i6 (by decide), bs, nI_1]
      obtain ⟨u, h1, h2, h4⟩ := ih (i + 1) (st s 15 i (nI (g (g i)))) (by omega) (by omega) h13 (fun j hj => by
        rw [st_eq]
        by_cases e : j = i
        · subst e; rw [upd_eq]
        · rw [upd_ne e]; exact h15 j (by omega))
      exact ⟨u, h1, fun p hp => by rw [h2 p hp, st_ne hp], h4⟩
theorem square_L33 {g : Nat → Nat} (k : Int32 → ST → Option ST) : ∀ n i (s : ST), i ≤ 64 → 64 - i < n → (∀ j, j < 64 → s 15 j = nI (g j)) → (∀ j, j < i → s 13 j = nI (g j)) → ∃ u : ST, F_X7_square_L33 k n (nI i) s = k (nI 64) u ∧ (∀ p, p ≠ 13 → u p = s p) ∧ ∀ j, j < 64 → u 13 j = nI (g j) := by
  intro n
  induction n with
  | zero => intro i s _ h; omega
  | succ n ih =>
    intro i s hi hn h13 h15
    rw [F_X7_square_L33.eq_2]
    by_cases h : i = 64
    · subst h
      rw [if_pos (show (64 : Int32) ≤ nI 64 from by decide)]
      exact ⟨s, rfl, fun _ _ => rfl, h15⟩
    · have i6 : i < 64 := by omega
      rw [if_neg (show ¬ (64 : Int32) ≤ nI i from nI_ge (b := 64) i6 (by decide)), rdE i6 (by decide) (h13 i i6) rfl, bs, ixN i6 (by decide), bs, nI_1]
      obtain ⟨u, h1, h2, h4⟩ := ih (i + 1) (st s 13 i (nI (g i))) (by omega) (by omega) h13 (fun j hj => by
        rw [st_eq]
        by_cases e : j = i
        · subst e; rw [upd_eq]
        · rw [upd_ne e]; exact h15 j (by omega))
      exact ⟨u, h1, fun p hp => by rw [h2 p hp, st_ne hp], h4⟩
theorem square_m {s : ST} {g : Nat → Nat} (hg : FOk g) (h13 : ∀ j, j < 64 → s 13 j = nI (g j)) : ∃ u : ST, F_X7_square s = some u ∧ (∀ p, p ≠ 13 → p ≠ 15 → u p = s p) ∧ ∀ j, j < 64 → u 13 j = nI (it g 2 j) := by
  obtain ⟨v, v1, v2, v3⟩ := square_L2 hg (fun _ s => F_X7_square_J31 s) 1000 0 s (by decide) (by decide) h13 (fun j hj => absurd hj (Nat.not_lt_zero j))
  obtain ⟨w, w1, w2, w3⟩ := square_L33 (g := fun j => g (g j)) (fun _ s => F_X7_square_J57 s) 1000 0 v (by decide) (by decide) v3 (fun j hj => absurd hj (Nat.not_lt_zero j))
  refine ⟨w, ?_, fun p h1 h2 => by rw [w2 p h1, v2 p h2], w3⟩
  unfold F_X7_square
  exact v1.trans w1
theorem far_L2 {f : Nat → Nat} (x1 : Int32) (k : Int32 → ST → Option ST) : ∀ n i (s : ST), i ≤ 64 → 64 - i < n → (∀ j, j < 64 → s 4 j = nI (f j)) → (∀ j, j < i → s 13 j = nI (f j) ∧ s 14 j = nI j) → ∃ u : ST, F_X7_findFar_L2 x1 k n (nI i) s = k (nI 64) u ∧ (∀ p, p ≠ 13 → p ≠ 14 → u p = s p) ∧ ∀ j, j < 64 → u 13 j = nI (f j) ∧ u 14 j = nI j := by
  intro n
  induction n with
  | zero => intro i s _ h; omega
  | succ n ih =>
    intro i s hi hn h13 h15
    rw [F_X7_findFar_L2.eq_2]
    by_cases h : i = 64
    · subst h
      rw [if_pos (show (64 : Int32) ≤ nI 64 from by decide)]
      exact ⟨s, rfl, fun _ _ _ => rfl, h15⟩
    · have i6 : i < 64 := by omega
      rw [if_neg (show ¬ (64 : Int32) ≤ nI i from nI_ge (b := 64) i6 (by decide)), ixN i6 (by decide), bs, rdE i6 (by decide) (h13 i i6) rfl, bs, bs, nI_1]
      obtain ⟨u, h1, h2, h4⟩ := ih (i + 1) (st (st s 14 i (nI i)) 13 i (nI (f i))) (by omega) (by omega) h13 (fun j hj => by
        rw [st_eq, st_ne (by decide), st_ne (by decide), st_eq]
        by_cases e : j = i
        · subst e; rw [upd_eq, upd_eq]; exact ⟨rfl, rfl⟩
        · rw [upd_ne e, upd_ne e]; exact h15 j (by omega))
      exact ⟨u, h1, fun p hp hq => by rw [h2 p hp hq, st_ne hp, st_ne hq], h4⟩
theorem far_L48 {g h : Nat → Nat} (hg : FOk g) (hh : FOk h) (x1 x2 : Int32) (k : Int32 → ST → Option ST) : ∀ n i (s : ST), i ≤ 64 → 64 - i < n → (∀ j, j < 64 → s 13 j = nI (g j)) → (∀ j, j < 64 → s 14 j = nI (if j < i then g (h j) else h j)) → ∃ u : ST, F_X7_findFar_L48 x1 x2 k n (nI i) s = k (nI 64) u ∧ (∀ p, p ≠ 14 → u p = s p) ∧ ∀ j, j < 64 → u 14 j = nI (g (h j)) := by
  intro n
  induction n with
  | zero => intro i s _ h; omega
  | succ n ih =>
    intro i s hi hn h13 h14
    rw [F_X7_findFar_L48.eq_2]
    by_cases e : i = 64
    · subst e
      rw [if_pos (show (64 : Int32) ≤ nI 64 from by decide)]
      exact ⟨s, rfl, fun _ _ => rfl, fun j hj => by rw [h14 j hj, if_pos hj]⟩
    · have i6 : i < 64 := by omega
      have hi14 : s 14 i = nI (h i) := by rw [h14 i i6, if_neg (Nat.lt_irrefl i)]
      rw [if_neg (show ¬ (64 : Int32) ≤ nI i from nI_ge (b := 64) i6 (by decide)), rdE i6 (by decide) hi14 rfl, bs, rdE (hh i i6) (by decide) (h13 _ (hh i i6)) rfl, bs, ixN i6 (by decide), bs, nI_1]
      obtain ⟨u, h1, h2, h4⟩ := ih (i + 1) (st s 14 i (nI (g (h i)))) (by omega) (by omega) h13 (fun j hj => by
        rw [st_eq]
        by_cases e : j = i
        · subst e; rw [upd_eq, if_pos (Nat.lt_succ_self j)]
        · rw [upd_ne e, h14 j hj]
          by_cases e2 : j < i
          · rw [if_pos e2, if_pos (by omega)]
          · rw [if_neg e2, if_neg (by omega)])
      exact ⟨u, h1, fun p hp => by rw [h2 p hp, st_ne hp], h4⟩
theorem hlf : ∀ x, x < 1000 → (nI x &&& 1) = nI (x % 2) ∧ (nI x >>> (1 &&& 31)) = nI (x / 2) := by decide +kernel
theorem it2 (g : Nat → Nat) (m y : Nat) : it (it g 2) m (g y) = it g (2 * m + 1) y := it_mul g 2 m (g y)
theorem far_L35 (x1 : Int32) (k : Int32 → ST → Option ST) : ∀ n x (s : ST) (g h : Nat → Nat), x < n → x < 1000 → FOk g → FOk h → (∀ j, j < 64 → s 13 j = nI (g j)) → (∀ j, j < 64 → s 14 j = nI (h j)) → ∃ u : ST, F_X7_findFar_L35 x1 k n (nI x) s = k (nI 0) u ∧ (∀ p, p ≠ 13 → p ≠ 14 → p ≠ 15 → u p = s p) ∧ ∀ j, j < 64 → u 14 j = nI (it g x (h j)) := by
  intro n
  induction n with
  | zero => intro x s g h hx; omega
  | succ n ih =>
    intro x s g h hx hx2 hg hh h13 h14
    rw [F_X7_findFar_L35.eq_2]
    by_cases e : x = 0
    · subst e
      rw [if_pos (show nI 0 ≤ 0 from by decide)]
      exact ⟨s, rfl, fun _ _ _ _ => rfl, h14⟩
    · rw [if_neg (show ¬ nI x ≤ 0 from nI_nle (by omega) (by omega)), (hlf x hx2).1]
      rcases (show x % 2 = 0 ∨ x % 2 = 1 by omega) with e2 | e2
      · obtain ⟨u, u1, u2, u3⟩ := square_m hg h13
        rw [e2, if_neg (show ¬ nI 0 = 1 from by decide), u1, bs, (hlf x hx2).2]
        obtain ⟨w, w1, w2, w3⟩ := ih (x / 2) u (it g 2) h (by omega) (by omega) (it_ok hg 2) hh u3 (by rw [u2 14 (by decide) (by decide)]; exact h14)
        refine ⟨w, w1, fun p a b c => by rw [w2 p a b c, u2 p a c], fun j hj => ?_⟩
        rw [w3 j hj, it_mul, show 2 * (x / 2) = x by omega]
      · obtain ⟨v, v1, v2, v3⟩ := far_L48 hg hh x1 (nI x) (fun x3_k48 s0_k48 => F_X7_findFar_J77 x1 (F_X7_findFar_L35 x1 k n) k (nI x) s0_k48) 1000 0 s (by decide) (by decide) h13 (fun j hj => by rw [if_neg (Nat.not_lt_zero j)]; exact h14 j hj)
        obtain ⟨u, u1, u2, u3⟩ := square_m (s := v) hg (by rw [v2 13 (by decide)]; exact h13)
        obtain ⟨w, w1, w2, w3⟩ := ih (x / 2) u (it g 2) (fun j => g (h j)) (by omega) (by omega) (it_ok hg 2) (fun j hj => hg _ (hh j hj)) u3 (by rw [u2 14 (by decide) (by decide)]; exact v3)
        rw [e2, if_pos (show nI 1 = 1 from rfl)]
        refine ⟨w, v1.trans ?_, fun p a b c => by rw [w2 p a b c, u2 p a c, v2 p b], fun j hj => ?_⟩
        · show F_X7_findFar_J77 x1 (F_X7_findFar_L35 x1 k n) k (nI x) v = _
          unfold F_X7_findFar_J77
          rw [u1, bs, (hlf x hx2).2]
          exact w1
        · rw [w3 j hj, it2, show 2 * (x / 2) + 1 = x by omega]
theorem findFar_m {t : ST} {f : Nat → Nat} (hL : ∀ j, j < 64 → t 4 j = nI (f j)) (hf : FOk f) {N : Nat} (hN : N < 1000) : ∃ u : ST, F_X7_findFar t (nI N) = some u ∧ (∀ p, p ≠ 13 → p ≠ 14 → p ≠ 15 → u p = t p) ∧ ∀ j, j < 64 → u 14 j = nI (it f N j) := by
  obtain ⟨v, v1, v2, v3⟩ := far_L2 (nI N) (fun _ s => F_X7_findFar_J33 (nI N) s) 1000 0 t (by decide) (by decide) hL (fun j hj => absurd hj (Nat.not_lt_zero j))
  obtain ⟨w, w1, w2, w3⟩ := far_L35 (nI N) (fun _ s => F_X7_findFar_J88 (nI N) s) 1000 N v f (fun j => j) hN hN hf (fun j hj => hj) (fun j hj => (v3 j hj).1) (fun j hj => (v3 j hj).2)
  refine ⟨w, ?_, fun p a b c => by rw [w2 p a b c, v2 p a b], w3⟩
  unfold F_X7_findFar
  refine v1.trans ?_
  show F_X7_findFar_J33 (nI N) v = _
  unfold F_X7_findFar_J33
  exact w1
/-- how many j below i go to v -/
def hits (g : Nat → Nat) (v : Nat) : Nat → Nat
  | 0 => 0
  | i + 1 => if g i = v then hits g v i + 1 else hits g v i
theorem hits_s (g : Nat → Nat) (v i : Nat) : hits g v (i + 1) = if g i = v then hits g v i + 1 else hits g v i := rfl
theorem hits_le (g : Nat → Nat) (v : Nat) : ∀ i, hits g v i ≤ i
  | 0 => Nat.le_refl _
  | i + 1 => by
    have := hits_le g v i
    rw [hits_s]
    by_cases h : g i = v
    · rw [if_pos h]; omega
    · rw [if_neg h]; omega
theorem odds_cL {s : ST} {f : Nat → Nat} (hL : LRel (sb s 1) f) (hf : FOk f) {i kd pc : Nat} (hi : i < 6) (h1 : s 4 i = nI kd) (h3 : s 6 i = nI pc) (hk : kd < 3) (hp : pc ≤ 4) {N v : Nat} (hN : N < 1000) (hv : v < 64) (x4 x6 : Int32) (k : Int32 → Int32 → Option Int64) : ∀ n j, j ≤ 64 → 64 - j < n → F_X6_odds_L57 s (nI i) (nI N) (nI v) x4 x6 k n (nI (hits (it f (gs kd pc * N)) v j)) (nI j) = k (nI (hits (it f (gs kd pc * N)) v 64)) (nI 64) := by
  intro n
  induction n with
  | zero => intro j _ h; omega
  | succ n ih =>
    intro j hj hn
    rw [F_X6_odds_L57.eq_2]
    by_cases h : j = 64
    · subst h
      rw [if_pos (show (64 : Int32) ≤ nI 64 from by decide)]
    · have j6 : j < 64 := by omega
      have := it_lt hf (gs kd pc * N) j j6
      have e1 := hits_s (it f (gs kd pc * N)) v j
      rw [if_neg (show ¬ (64 : Int32) ≤ nI j from nI_ge (b := 64) j6 (by decide)), goes_c (t := sb s 3) hi h1 h3 hk, bs, behind_c hL hf j6 (gs_le hp) hN, bs, nI_1, nI_1, ← ih (j + 1) (by omega) (by omega)]
      by_cases e : it f (gs kd pc * N) j = v
      · rw [if_pos e] at e1
        rw [e1, if_pos (show nI _ = nI _ from congrArg nI e)]
      · rw [if_neg e] at e1
        rw [e1, if_neg (nI_ne e (by omega) (by omega))]
theorem odds_mL {s : ST} {g : Nat → Nat} (hg : FOk g) (h14 : ∀ j, j < 64 → s 14 j = nI (g j)) {v : Nat} (hv : v < 64) (x1 x2 x4 : Int32) (k : Int32 → Int32 → Option (Int64 × ST)) : ∀ n j, j ≤ 64 → 64 - j < n → F_X7_odds_L56 x1 x2 (nI v) x4 s k n (nI (hits g v j)) (nI j) = k (nI (hits g v 64)) (nI 64) := by
  intro n
  induction n with
  | zero => intro j _ h; omega
  | succ n ih =>
    intro j hj hn
    rw [F_X7_odds_L56.eq_2]
    by_cases h : j = 64
    · subst h
      rw [if_pos (show (64 : Int32) ≤ nI 64 from by decide)]
    · have j6 : j < 64 := by omega
      have := hg j j6
      have e1 := hits_s g v j
      rw [if_neg (show ¬ (64 : Int32) ≤ nI j from nI_ge (b := 64) j6 (by decide)), rdE j6 (by decide) (h14 j j6) rfl, bs, nI_1, nI_1, show nI (hits g v j) + 0 = nI (hits g v j) from nI_add _ 0, ← ih (j + 1) (by omega) (by omega)]
      by_cases e : g j = v
      · rw [if_pos e] at e1
        rw [e1, if_pos (show nI _ = nI _ from congrArg nI e)]
      · rw [if_neg e] at e1
        rw [e1, if_neg (nI_ne e (by omega) (by omega))]
def hp : Nat → Nat → Nat → Nat × Nat
  | 0, c, d => (c, d)
  | n + 1, c, d => if d ≤ 1 then (c, d) else if c % 2 = 0 then hp n (c / 2) (d / 2) else (c, d)
theorem hp_s (n c d : Nat) : hp (n + 1) c d = if d ≤ 1 then (c, d) else if c % 2 = 0 then hp n (c / 2) (d / 2) else (c, d) := rfl
theorem hlt : ∀ x, x < 65 → (nI x - nI x / 2 * 2) = nI (x % 2) ∧ nI x / 2 = nI (x / 2) := by decide +kernel
theorem odds_h (t0 : ST) (x1 x2 x3 x4 : Int32) (k : Int32 → Int32 → Option Int64) : ∀ n m c d, d < n → d < 2 ^ m → c ≤ 64 → d ≤ 64 → F_X6_odds_L95 t0 x1 x2 x3 x4 k n (nI c) (nI d) = k (nI (hp m c d).1) (nI (hp m c d).2) := by
  intro n
  induction n with
  | zero => intro m c d h; omega
  | succ n ih =>
    intro m c d hn hm hc hd
    rw [F_X6_odds_L95.eq_2]
    cases m with
    | zero =>
      have : d = 0 := by omega
      subst this
      rw [if_pos (show nI 0 ≤ 1 from by decide)]
      rfl
    | succ m =>
      rw [hp_s]
      by_cases h1 : d ≤ 1
      · rw [if_pos (show nI d ≤ 1 from nI_le (b := 1) h1 (by decide)), if_pos h1]
      · rw [if_neg (show ¬ nI d ≤ 1 from nI_ge (a := 1) (by omega) (by omega)), if_neg h1, (hlt c (by omega)).1]
        rcases (show c % 2 = 0 ∨ c % 2 = 1 by omega) with e | e
        · rw [e, if_pos (show nI 0 = 0 from rfl), if_pos (show (0 : Nat) = 0 from rfl), (hlt c (by omega)).2, (hlt d (by omega)).2]
          exact ih m (c / 2) (d / 2) (by omega) (by rw [Nat.pow_succ] at hm; omega) (by omega) (by omega)
        · rw [e, if_neg n10', if_neg (show ¬ (1 : Nat) = 0 by decide)]
theorem lrm : ∀ b, b < 65 → 0 < b → ∀ a, a < 65 → lN a - lN a / lN b * lN b = lN (a % b) := by decide +kernel
theorem lcm0 : ∀ b, b < 65 → 0 < b → ¬ lg_cmp (lN b) 0 = 0 ∧ nzl (lN b) = some () := by decide +kernel
theorem gcd_L (y0 y2 : Int64) (x4 : Int32) (k : Int64 → Int64 → Option Int64) : ∀ n a b, b < n → a ≤ 64 → b ≤ 64 → F_X7_inLeastTerms_L6 y0 y2 x4 k n (lN a) (lN b) = k (lN (Nat.gcd a b)) (lN 0) := by
  intro n
  induction n with
  | zero => intro a b h; omega
  | succ n ih =>
    intro a b hn ha hb
    rw [F_X7_inLeastTerms_L6.eq_2]
    by_cases h : b = 0
    · subst h
      rw [if_pos (show lg_cmp (lN 0) 0 = 0 by decide +kernel), Nat.gcd_zero_right]
    · have hb0 : 0 < b := Nat.pos_of_ne_zero h
      have hm := Nat.mod_lt a hb0
      rw [if_neg (lcm0 b (by omega) hb0).1, (lcm0 b (by omega) hb0).2, bs, lrm b (by omega) hb0 a (by omega), ih b (a % b) (by omega) (by omega) (by omega), Nat.gcd_comm b, ← Nat.gcd_rec, Nat.gcd_comm]
theorem odds_t : ∀ c, c < 65 → (nI (hp 7 c 64).1).toInt64 = (nI c).toInt64 / lN (Nat.gcd c 64) ∧ (nI (hp 7 c 64).2).toInt64 = 64 / lN (Nat.gcd c 64) ∧ nzl (lN (Nat.gcd c 64)) = some () := by decide +kernel
theorem odds_J (t0 : ST) (x1 x2 x3 : Int32) {w c : Nat} (hw : w < 2) (hc : c ≤ 64) : ∃ r : Int64, F_X6_odds_J95 t0 x1 x2 x3 (nI w) (nI c) 64 = some r ∧ F_X7_inLeastTerms (nI c).toInt64 64 (nI w) = some r := by
  obtain ⟨q1, q2, q3⟩ := odds_t c (by omega)
  refine ⟨if nI w = 0 then (nI (hp 7 c 64).1).toInt64 else (nI (hp 7 c 64).2).toInt64, ?_, ?_⟩
  · unfold F_X6_odds_J95
    rw [if_neg (show ¬ (64 : Int32) ≤ 1 by decide), (hlt c (by omega)).1]
    have hs := hp_s 6 c 64
    rw [if_neg (show ¬ 64 ≤ 1 by decide)] at hs
    rcases (show c % 2 = 0 ∨ c % 2 = 1 by omega) with e | e
    · rw [e, if_pos (show (0 : Nat) = 0 from rfl)] at hs
      rw [e, if_pos (show nI 0 = 0 from rfl), (hlt c (by omega)).2, show (64 : Int32) / 2 = nI 32 by decide, odds_h t0 x1 x2 x3 (nI w) _ 1000 6 (c / 2) 32 (by decide) (by decide) (by omega) (by decide), hs]
      show F_X6_odds_J123 t0 x1 x2 x3 (nI w) (nI (hp 6 (c / 2) 32).1) (nI (hp 6 (c / 2) 32).2) = _
      unfold F_X6_odds_J123
      by_cases h : nI w = 0
      · rw [if_pos h, if_pos h]
      · rw [if_neg h, if_neg h]
    · rw [e, if_neg (show ¬ (1 : Nat) = 0 by decide)] at hs
      rw [e, if_neg n10', hs]
      by_cases h : nI w = 0
      · rw [if_pos h, if_pos h]
      · rw [if_neg h, if_neg h]; rfl
  · unfold F_X7_inLeastTerms
    have := gcd_L (nI c).toInt64 64 (nI w) (fun y5_k6 y7_k6 => F_X7_inLeastTerms_J31 (nI c).toInt64 64 (nI w) y5_k6) 1000 c 64 (by decide) hc (by decide)
    rw [show lN c = (nI c).toInt64 from (nI_l (by omega)).symm, show lN 64 = 64 by decide +kernel] at this
    refine this.trans ?_
    show F_X7_inLeastTerms_J31 (nI c).toInt64 64 (nI w) (lN (Nat.gcd c 64)) = _
    unfold F_X7_inLeastTerms_J31
    rw [q3, bs, bs]
    by_cases h : nI w = 0
    · rw [if_pos h, if_pos h, q1]
    · rw [if_neg h, if_neg h, q2]
theorem eq_odds {s1 m1 : ST} (hR : Rel s1 m1) (x1 x2 x3 x4 : Int32) : ∃ (r : Int64) (m2 : ST), F_X6_odds s1 x1 x2 x3 x4 = some r ∧ F_X7_odds m1 x1 x2 x3 x4 = some (r, m2) ∧ Rel s1 m2 := by
  have hR0 := hR
  obtain ⟨a, b, ok, hc, hm⟩ := hR
  have ok0 := ok
  have hc0 := hc
  have hm0 := hm
  obtain ⟨o0, o1, o2, o3, oB, oF, oR, oS⟩ := ok
  obtain ⟨⟨c1, c2, c3⟩, cw, ⟨cc, clk, cB⟩, cL, ⟨cn, cR⟩, cS⟩ := hc
  obtain ⟨⟨e1, e2, e3⟩, ew, ⟨ec, elk, eB⟩, eL, ⟨en, eR⟩, eS⟩ := hm
  unfold F_X6_odds F_X7_odds
  rcases rng x1 (a 0 1) (by omega) with ⟨i, hi, rfl⟩ | h
  · have i6 : i < 6 := by omega
    have h0 : 0 < a 0 1 := by omega
    rw [has_y cc o1 hi, blk_y ec o1 hi, bs, bs, if_neg n10, if_neg n10]
    rcases rng x2 100 (by decide) with ⟨N, hN, rfl⟩ | h
    · rw [if_neg (nI_pos (by omega)), if_neg (show ¬ (99 : Int32) < nI N from nI_nlt (a := 99) (by omega) (by decide)), win_y (lo := 0) (hi := 99) (j := N) (a := 0) (b := 99) rfl (by omega) (by omega) (by decide) rfl rfl, bs, if_neg n10]
      rcases rng x3 64 (by decide) with ⟨v, hv, rfl⟩ | h
      · rw [(shp_y hv).1, (shp_y hv).2, bs, bs, if_neg n10, if_neg n10]
        rcases rng x4 2 (by decide) with ⟨w, hw, rfl⟩ | h
        · have gle := gs_le (kd := a 1 i) (oB i i6).2.2
          have hm2 : N * gs (a 1 i) (a 3 i) ≤ 99 * 8 := Nat.mul_le_mul (by omega) gle
          obtain ⟨u, u1, u2, u3⟩ := findFar_m (t := m1) (eL h0) oF (N := N * gs (a 1 i) (a 3 i)) (by omega)
          rw [Nat.mul_comm] at u3
          have k1 := odds_cL (s := s1) (cL h0) oF i6 (cB i i6).1 (cB i i6).2.2 (oB i i6).1 (oB i i6).2.2 (N := N) (by omega) hv (nI w) 64 (fun x5_k57 x7_k57 => F_X6_odds_J95 s1 (nI i) (nI N) (nI v) (nI w) x5_k57 64) 1000 0 (by decide) (by decide)
          have k2 := odds_mL (s := u) (it_ok oF (gs (a 1 i) (a 3 i) * N)) u3 hv (nI i) (nI N) (nI w) (fun x5_k56 x6_k56 => F_X7_odds_J90 (nI i) (nI N) (nI v) (nI w) x5_k56 u) 1000 0 (by decide) (by decide)
          obtain ⟨r, r1, r2⟩ := odds_J s1 (nI i) (nI N) (nI v) hw (hits_le (it (a 4) (gs (a 1 i) (a 3 i) * N)) v 64)
          rw [if_neg (nI_pos (by omega)), if_pos (show nI w ≤ 1 from nI_le (b := 1) (by omega) (by decide)), win_y (lo := 0) (hi := 1) (j := w) (a := 0) (b := 1) rfl (by omega) (by omega) (by decide) rfl rfl, bs, if_neg n10, goes_m i6 (eB i i6).1 (eB i i6).2.2 (oB i i6).1, bs, pk_mul, u1, bs]
          refine ⟨r, u, k1.trans r1, k2.trans ?_, ⟨a, b, ok0, hc0, hm0.congr (fun j _ => by rw [u2 0 (by decide) (by decide) (by decide)]) (fun p hp => u2 p (by omega) (by omega) (by omega))⟩⟩
          show F_X7_odds_J90 (nI i) (nI N) (nI v) (nI w) (nI (hits (it (a 4) (gs (a 1 i) (a 3 i) * N)) v 64)) u = _
          unfold F_X7_odds_J90
          rw [r2, bs]
        · refine ⟨-9223372036854775808, m1, ?_, ?_, hR0⟩
          · rcases h with h | ⟨h, h3⟩
            · rw [if_pos h]
            · rw [if_neg h, if_neg (fun z => by
                have z1 := Int32.le_iff_toInt_le.mp z
                have z2 := Int32.le_iff_toInt_le.mp h3
                have z3 : (nI 2).toInt = 2 := rfl
                have z4 : (1 : Int32).toInt = 1 := rfl
                omega)]
          · rw [win_n (n := 2) (hi := 1) (by decide) (by decide) rfl h, bs, if_pos (show (0 : Int32) = 0 from rfl)]
      · rw [(shp_n h).1, (shp_n h).2]
        exact ⟨_, m1, rfl, rfl, hR0⟩
    · refine ⟨-9223372036854775808, m1, ?_, ?_, hR0⟩
      · rcases h with h | ⟨h, h3⟩
        · rw [if_pos h]
        · rw [if_neg h, if_pos (Int32.lt_iff_toInt_lt.mpr (by
            have z2 := Int32.le_iff_toInt_le.mp h3
            have z3 : (nI 100).toInt = 100 := rfl
            have z4 : (99 : Int32).toInt = 99 := rfl
            omega))]
      · rw [win_n (n := 100) (hi := 99) (by decide) (by decide) rfl h, bs, if_pos (show (0 : Int32) = 0 from rfl)]
  · rw [has_n cc h, blk_n ec h]
    exact ⟨_, m1, rfl, rfl, hR0⟩
