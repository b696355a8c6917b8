/-! laws -/
theorem or_t : ∀ w, w < 256 → ∀ c, c < 8 → (nI w ||| (1 <<< (nI c &&& 31))) = nI (w ||| 2 ^ c) ∧ (w ||| 2 ^ c) < 256 := by decide +kernel
theorem or_n (a b : Nat) : nI a ||| nI b = nI (a ||| b) := by
  apply Int32.toBitVec_inj.mp
  rw [Int32.toBitVec_or]
  show BitVec.ofNat 32 a ||| BitVec.ofNat 32 b = BitVec.ofNat 32 (a ||| b)
  rw [BitVec.ofNat_or]
def stp (x y j : Nat) (p : Nat × Nat) : Nat × Nat := if lkd y j = 1 then (p.1 ||| 2 ^ bo x j, p.2) else (p.1, p.2 ||| 2 ^ bo x j)
def in6 (x y : Nat) : Nat → Nat → Nat × Nat → Nat × Nat
  | 0, _, p => p
  | m + 1, j, p => in6 x y m (j + 1) (stp x y j p)
theorem in6_s (x y m j : Nat) (p : Nat × Nat) : in6 x y (m + 1) j p = in6 x y m (j + 1) (stp x y j p) := rfl
def prs (c : Nat → Nat) : Nat → Nat → Nat × Nat → Nat × Nat
  | 0, _, p => p
  | m + 1, q, p => prs c m (q + 1) (in6 (c q) (c (q + 1)) 6 0 p)
theorem prs_s (c : Nat → Nat) (m q : Nat) (p : Nat × Nat) : prs c (m + 1) q p = prs c m (q + 1) (in6 (c q) (c (q + 1)) 6 0 p) := rfl
def P2 (p : Nat × Nat) : Prop := p.1 < 256 ∧ p.2 < 256
theorem stp_ok {x y j : Nat} {p : Nat × Nat} (hx : x < 64) (hj : j < 6) (hp : P2 p) : P2 (stp x y j p) := by
  unfold stp
  have hb := (bo_c x hx j hj).2.2
  by_cases h : lkd y j = 1
  · rw [if_pos h]; exact ⟨(or_t _ hp.1 _ hb).2, hp.2⟩
  · rw [if_neg h]; exact ⟨hp.1, (or_t _ hp.2 _ hb).2⟩
theorem in6_ok {x y : Nat} (hx : x < 64) : ∀ m j p, j + m ≤ 6 → P2 p → P2 (in6 x y m j p)
  | 0, _, _, _, h => h
  | m + 1, j, p, hj, h => in6_ok hx m (j + 1) _ (by omega) (stp_ok hx (by omega) h)
theorem prs_ok {c : Nat → Nat} {N : Nat} (hc : ∀ j, j < N → c j < 64) : ∀ m q p, q + m < N ∨ m = 0 → P2 p → P2 (prs c m q p)
  | 0, _, _, _, h => h
  | m + 1, q, p, hq, h => prs_ok hc m (q + 1) _ (by omega) (in6_ok (hc q (by omega)) 6 0 p (by decide) h)
theorem lawsBy_i {x y : Nat} (hx : x < 64) (hy : y < 64) (t0 : ST) (x1 x2 x3 x6 : Int32) (k : Int32 → Int32 → Int32 → Option Int32) : ∀ n j p, j ≤ 6 → 6 - j < n → P2 p → F_X6_lawsBy_L42 t0 x1 x2 x3 x6 (nI x) (nI y) k n (nI p.1) (nI p.2) (nI j) = k (nI (in6 x y (6 - j) j p).1) (nI (in6 x y (6 - j) j p).2) (nI 6) := by
  intro n
  induction n with
  | zero => intro j p _ h; omega
  | succ n ih =>
    intro j p hj hn hp
    rw [F_X6_lawsBy_L42.eq_2]
    by_cases h : j = 6
    · subst h
      rw [if_pos (show (6 : Int32) ≤ nI 6 from by decide)]
      rfl
    · have j6 : j < 6 := by omega
      obtain ⟨d, hd⟩ : ∃ d, 6 - j = d + 1 := ⟨6 - j - 1, by omega⟩
      have hd2 : 6 - (j + 1) = d := by omega
      have hb := bo_c x hx j j6
      have hok := stp_ok (y := y) hx j6 hp
      have e2 := ih (j + 1) (stp x y j p) (by omega) (by omega) hok
      rw [if_neg (show ¬ (6 : Int32) ≤ nI j from nI_ge (b := 6) j6 (by decide)), hb.1, bs, (lk_t y hy j j6).1, nI_1, hd, in6_s, ← hd2, ← e2]
      rcases lkd_01 y j with e | e
      · have es : stp x y j p = (p.1, p.2 ||| 2 ^ bo x j) := if_neg (by rw [e]; decide)
        rw [e, if_neg (show ¬ nI 0 = 1 from by decide), (or_t _ hp.2 _ hb.2.2).1, es]
      · have es : stp x y j p = (p.1 ||| 2 ^ bo x j, p.2) := if_pos e
        rw [e, if_pos (show nI 1 = 1 from rfl), (or_t _ hp.1 _ hb.2.2).1, es]
theorem lawsBy_L {t : ST} {c : Nat → Nat} {N i ln : Nat} (hc : ∀ j, j < N → c j < 64) (h2 : t 0 2 = nI ln) (hl : ln ≤ 60) (hi : i + N ≤ ln) (hv : ∀ j, j < N → t 1 (i + j) = nI (c j)) (x3 : Int32) (k : Int32 → Int32 → Int32 → Option Int32) : ∀ n q p, N - q < n → P2 p → q ≤ N → ∃ x, F_X6_lawsBy_L9 t (nI i) (nI N) x3 k n (nI p.1) (nI p.2) (nI q) = k (nI (prs c (N - 1 - q) q p).1) (nI (prs c (N - 1 - q) q p).2) x := by
  intro n
  induction n with
  | zero => intro q p h; omega
  | succ n ih =>
    intro q p hn hp hq
    rw [F_X6_lawsBy_L9.eq_2, nI_1]
    by_cases h : N ≤ q + 1
    · rw [if_pos (nI_le h (by omega)), show N - 1 - q = 0 by omega]
      exact ⟨_, rfl⟩
    · obtain ⟨d, hd⟩ : ∃ d, N - 1 - q = d + 1 := ⟨N - 1 - q - 1, by omega⟩
      have hd2 : N - 1 - (q + 1) = d := by omega
      have hcq := hc q (by omega)
      have hcr := hc (q + 1) (by omega)
      obtain ⟨x, hx⟩ := ih (q + 1) (in6 (c q) (c (q + 1)) 6 0 p) (by omega) (in6_ok hcq 6 0 p (by decide) hp) (by omega)
      refine ⟨x, ?_⟩
      rw [if_neg (nI_ge (by omega) (by omega)), nI_add, nI_1, at_c h2 hl (by omega) (hv q (by omega)), bs, at_c (i := i + q + 1) h2 hl (by omega) (hv (q + 1) (by omega)), bs, hd, prs_s, ← hd2, ← hx]
      refine (lawsBy_i hcq hcr t (nI i) (nI N) x3 (nI q) (fun x4_k42 x5_k42 x9_k42 => F_X6_lawsBy_J94 t (nI i) (nI N) x3 (F_X6_lawsBy_L9 t (nI i) (nI N) x3 k n) k x4_k42 x5_k42 (nI q)) 1000 0 p (by decide) (by decide) hp).trans ?_
      show F_X6_lawsBy_J94 t (nI i) (nI N) x3 (F_X6_lawsBy_L9 t (nI i) (nI N) x3 k n) k (nI (in6 (c q) (c (q + 1)) 6 0 p).1) (nI (in6 (c q) (c (q + 1)) 6 0 p).2) (nI q) = _
      unfold F_X6_lawsBy_J94
      rw [nI_1]
theorem must_i {x y X q : Nat} {m : ST} (hx : x < 64) (hy : y < 64) (hX : X + (q + 1) < 240) (hm1 : m 3 (X + q) = nI x) (hm2 : m 3 (X + (q + 1)) = nI y) (x2 : Int32) (k : Int32 → ST → Option ST) : ∀ n j p (s : ST), j ≤ 6 → 6 - j < n → P2 p → s 0 11 = nI p.1 → s 0 12 = nI p.2 → (∀ z, z ≠ 0 → s z = m z) → (∀ z, z ≠ 11 → z ≠ 12 → s 0 z = m 0 z) → ∃ u : ST, F_X7_findMust_L20 (nI X) x2 (nI (q + 1)) k n (nI j) s = k (nI 6) u ∧ u 0 11 = nI (in6 x y (6 - j) j p).1 ∧ u 0 12 = nI (in6 x y (6 - j) j p).2 ∧ (∀ z, z ≠ 0 → u z = m z) ∧ (∀ z, z ≠ 11 → z ≠ 12 → u 0 z = m 0 z) := by
  intro n
  induction n with
  | zero => intro j p s _ h; omega
  | succ n ih =>
    intro j p s hj hn hp s11 s12 he he0
    rw [F_X7_findMust_L20.eq_2]
    by_cases h : j = 6
    · subst h
      rw [if_pos (show (6 : Int32) ≤ nI 6 from by decide)]
      exact ⟨s, rfl, s11, s12, he, he0⟩
    · have j6 : j < 6 := by omega
      obtain ⟨d, hd⟩ : ∃ d, 6 - j = d + 1 := ⟨6 - j - 1, by omega⟩
      have hd2 : 6 - (j + 1) = d := by omega
      have hb := bo_c x hx j j6
      have hok := stp_ok (y := y) hx j6 hp
      have p3 := he 3 (by decide)
      rw [if_neg (show ¬ (6 : Int32) ≤ nI j from nI_ge (b := 6) j6 (by decide)), nI_add, show nI (X + (q + 1)) - 1 = nI (X + q) from nI_pred (X + q), rdE (show X + q < 240 by omega) (by decide) (show s 3 (X + q) = nI x by rw [p3]; exact hm1) rfl, bs, hb.2.1, bs, rdE hX (by decide) (show s 3 (X + (q + 1)) = nI y by rw [p3]; exact hm2) rfl, bs, isOf_m hy j6, bs, hd, in6_s, ← hd2]
      have fin : ∀ A B : Int32, A = nI (stp x y j p).1 → B = nI (stp x y j p).2 → ∃ u : ST, F_X7_findMust_L20 (nI X) x2 (nI (q + 1)) k n (nI (j + 1)) (st (st s 0 11 A) 0 12 B) = k (nI 6) u ∧ u 0 11 = nI (in6 x y (6 - (j + 1)) (j + 1) (stp x y j p)).1 ∧ u 0 12 = nI (in6 x y (6 - (j + 1)) (j + 1) (stp x y j p)).2 ∧ (∀ z, z ≠ 0 → u z = m z) ∧ (∀ z, z ≠ 11 → z ≠ 12 → u 0 z = m 0 z) := by
        intro A B hA hB
        refine ih (j + 1) (stp x y j p) _ (by omega) (by omega) hok ?_ ?_ ?_ ?_
        · rw [st_eq, upd_ne (by decide), st_eq, upd_eq]; exact hA
        · rw [st_eq, upd_eq]; exact hB
        · intro z hz; rw [st_ne hz, st_ne hz]; exact he z hz
        · intro z h11 h12; rw [st_eq, upd_ne h12, st_eq, upd_ne h11]; exact he0 z h11 h12
      rcases lkd_01 y j with e | e
      · have es : stp x y j p = (p.1, p.2 ||| 2 ^ bo x j) := if_neg (by rw [e]; decide)
        rw [e, if_pos (show nI 0 = 0 from rfl)]
        unfold F_X7_findMust_J77
        rw [if_pos (show nI 0 = 0 from rfl), nI_1]
        exact fin _ _ (by rw [s11, es, Int32.or_zero]) (by rw [s12, es]; exact (or_t _ hp.2 _ hb.2.2).1)
      · have es : stp x y j p = (p.1 ||| 2 ^ bo x j, p.2) := if_pos e
        rw [e, if_neg n10']
        unfold F_X7_findMust_J77
        rw [if_neg n10', nI_1]
        exact fin _ _ (by rw [s11, es]; exact (or_t _ hp.1 _ hb.2.2).1) (by rw [s12, es, Int32.or_zero])
theorem must_L {m : ST} {c : Nat → Nat} {N X : Nat} (hc : ∀ j, j < N → c j < 64) (hX : X + N ≤ 240) (hv : ∀ j, j < N → m 3 (X + j) = nI (c j)) (k : Int32 → ST → Option ST) : ∀ n q p (s : ST), N - q < n → P2 p → q ≤ N → s 0 11 = nI p.1 → s 0 12 = nI p.2 → (∀ z, z ≠ 0 → s z = m z) → (∀ z, z ≠ 11 → z ≠ 12 → s 0 z = m 0 z) → ∃ (x : Int32) (u : ST), F_X7_findMust_L12 (nI X) (nI N) k n (nI (q + 1)) s = k x u ∧ u 0 11 = nI (prs c (N - 1 - q) q p).1 ∧ u 0 12 = nI (prs c (N - 1 - q) q p).2 ∧ (∀ z, z ≠ 0 → u z = m z) ∧ (∀ z, z ≠ 11 → z ≠ 12 → u 0 z = m 0 z) := by
  intro n
  induction n with
  | zero => intro q p s h; omega
  | succ n ih =>
    intro q p s hn hp hq s11 s12 he he0
    rw [F_X7_findMust_L12.eq_2]
    by_cases h : N ≤ q + 1
    · rw [if_pos (nI_le h (by omega)), show N - 1 - q = 0 by omega]
      exact ⟨_, s, rfl, s11, s12, he, he0⟩
    · obtain ⟨d, hd⟩ : ∃ d, N - 1 - q = d + 1 := ⟨N - 1 - q - 1, by omega⟩
      have hd2 : N - 1 - (q + 1) = d := by omega
      have hcq := hc q (by omega)
      have hcr := hc (q + 1) (by omega)
      obtain ⟨v, v1, v2, v3, v4, v5⟩ := must_i (m := m) hcq hcr (X := X) (q := q) (by omega) (hv q (by omega)) (hv (q + 1) (by omega)) (nI N) (fun x4_k20 s0_k20 => F_X7_findMust_J107 (nI X) (nI N) (F_X7_findMust_L12 (nI X) (nI N) k n) k (nI (q + 1)) s0_k20) 1000 0 p s (by decide) (by decide) hp s11 s12 he he0
      obtain ⟨x, u, u1, u2⟩ := ih (q + 1) (in6 (c q) (c (q + 1)) 6 0 p) v (by omega) (in6_ok hcq 6 0 p (by decide) hp) (by omega) v2 v3 v4 v5
      rw [if_neg (nI_ge (by omega) (by omega)), hd, prs_s, ← hd2]
      refine ⟨x, u, v1.trans ?_, u2⟩
      show F_X7_findMust_J107 (nI X) (nI N) (F_X7_findMust_L12 (nI X) (nI N) k n) k (nI (q + 1)) v = _
      unfold F_X7_findMust_J107
      rw [nI_1]
      exact u1
theorem must_m {m : ST} {c : Nat → Nat} {N X : Nat} (hc : ∀ j, j < N → c j < 64) (hN : N ≤ 60) (hX : X + N ≤ 240) (hv : ∀ j, j < N → m 3 (X + j) = nI (c j)) : ∃ u : ST, F_X7_findMust m (nI X) (nI N) = some u ∧ u 0 11 = nI (prs c (N - 1) 0 (0, 0)).1 ∧ u 0 12 = nI (prs c (N - 1) 0 (0, 0)).2 ∧ (∀ z, z ≠ 0 → u z = m z) ∧ (∀ z, z ≠ 11 → z ≠ 12 → u 0 z = m 0 z) := by
  obtain ⟨x, u, u1, u2⟩ := must_L (m := m) hc hX hv (fun x3_k12 s0_k12 => F_X7_findMust_J113 (nI X) (nI N) s0_k12) 1000 0 (0, 0) (st (st m 0 11 0) 0 12 0) (by omega) ⟨by decide, by decide⟩ (Nat.zero_le _) rfl rfl (fun z hz => by rw [st_ne hz, st_ne hz]) (fun z h11 h12 => by rw [st_eq, upd_ne h12, st_eq, upd_ne h11])
  refine ⟨u, ?_, u2⟩
  unfold F_X7_findMust
  exact u1
theorem sh_t : ∀ p, p < 9 → (256 : Int32) >>> (nI p &&& 31) = 1 <<< ((8 - nI p) &&& 31) := by decide +kernel
theorem ms_t : ∀ w, w < 256 → (255 : Int32) - nI w = 255 &&& (nI w ^^^ (-1)) := by decide +kernel
theorem pop8 (z : Nat) : pop z < 9 := by unfold pop; omega
theorem laws_J {t m : ST} {c : Nat → Nat} {N i ln X : Nat} (hc : ∀ j, j < N → c j < 64) (h2 : t 0 2 = nI ln) (hl : ln ≤ 60) (hi : i + N ≤ ln) (hv : ∀ j, j < N → t 1 (i + j) = nI (c j)) (hX : X + N ≤ 240) (hv2 : ∀ j, j < N → m 3 (X + j) = nI (c j)) (x1 x2 x3 x5 : Int32) : ∃ (r : Int32) (u : ST), F_X6_lawsBy t (nI i) (nI N) x5 = some r ∧ F_X7_laws_J111 x1 x2 x3 (nI N) x5 (nI X) m = some (r, u) ∧ (∀ z, z ≠ 0 → u z = m z) ∧ (∀ z, z ≠ 11 → z ≠ 12 → u 0 z = m 0 z) := by
  obtain ⟨u, u1, u2, u3, u4, u5⟩ := must_m (m := m) hc (by omega) hX hv2
  obtain ⟨x, hx⟩ := lawsBy_L (t := t) hc h2 hl hi hv x5 (fun x4_k9 x5_k9 x6_k9 => F_X6_lawsBy_J100 t (nI i) (nI N) x5 x4_k9 x5_k9) 1000 0 (0, 0) (by omega) ⟨by decide, by decide⟩ (Nat.zero_le _)
  obtain ⟨q1, q2⟩ := prs_ok hc (N - 1) 0 (0, 0) (by omega) ⟨by decide, by decide⟩
  rw [Nat.sub_zero] at hx
  revert hx u2 u3 q1 q2
  generalize prs c (N - 1) 0 (0, 0) = pq
  obtain ⟨A, B⟩ := pq
  intro u2 u3 hx q1 q2
  have q1 : A < 256 := q1
  have q2 : B < 256 := q2
  have u2 : u 0 11 = nI A := u2
  have u3 : u 0 12 = nI B := u3
  have hor : (A ||| B) < 256 := Nat.or_lt_two_pow (n := 8) q1 q2
  have hx' : F_X6_lawsBy t (nI i) (nI N) x5 = F_X6_lawsBy_J100 t (nI i) (nI N) x5 (nI A) (nI B) := hx
  rw [hx']
  unfold F_X6_lawsBy_J100 F_X6_lawsBy_J113 F_X7_laws_J111
  rw [u1, bs, u2, u3]
  by_cases e : nI A &&& nI B = 0
  · rw [if_pos e, if_pos e, if_neg n10, if_neg n10, or_n, bc_c _ hor, bs, size_m _ hor, bs, sh_t _ (pop8 _)]
    by_cases z : x5 = 0
    · rw [if_pos z, if_pos z]
      exact ⟨_, u, rfl, rfl, u4, u5⟩
    · rw [if_neg z, if_neg z]
      by_cases y : x5 = 1
      · rw [if_pos y, if_pos y]
        exact ⟨_, u, rfl, rfl, u4, u5⟩
      · rw [if_neg y, if_neg y, ms_t B q2]
        exact ⟨_, u, rfl, rfl, u4, u5⟩
  · rw [if_neg e, if_neg e, if_pos (show (0 : Int32) = 0 from rfl), if_pos (show (0 : Int32) = 0 from rfl)]
    by_cases z : x5 = 0
    · rw [if_pos z, if_pos z]
      exact ⟨_, u, rfl, rfl, u4, u5⟩
    · rw [if_neg z, if_neg z]
      exact ⟨_, u, rfl, rfl, u4, u5⟩
theorem laws_L {s m : ST} {ce : Nat → Int32} {N i ln X k : Nat} (h2 : sb s (20 + 2 * k) 0 2 = nI ln) (hl : ln ≤ 60) (hi : i + N ≤ ln) (hv : ∀ j, j < N → sb s (20 + 2 * k) 1 (i + j) = ce j) (hX : X + N ≤ 240) (hv2 : ∀ j, j < N → m 3 (X + j) = ce j) (x1 x2 x5 y3 : Int32) (kc km : Int32 → Option (Int32 × ST)) : ∀ n q, q ≤ N → N - q < n → (∀ j, j < q → ∃ x, x < 64 ∧ ce j = nI x) → ((∀ j, j < N → ∃ x, x < 64 ∧ ce j = nI x) ∧ F_X6_laws_L80 x1 x2 (nI i) (nI N) x5 k s kc n (nI q) = kc (nI N) ∧ F_X7_laws_L79 x1 x2 y3 (nI N) x5 (nI X) m km n (nI q) = km (nI N)) ∨ (F_X6_laws_L80 x1 x2 (nI i) (nI N) x5 k s kc n (nI q) = some (-2, st s 0 1 0) ∧ F_X7_laws_L79 x1 x2 y3 (nI N) x5 (nI X) m km n (nI q) = some (-2, m)) := by
  intro n
  induction n with
  | zero => intro q _ h; omega
  | succ n ih =>
    intro q hq hn hg
    rw [F_X6_laws_L80.eq_2, F_X7_laws_L79.eq_2]
    by_cases h : q = N
    · subst h
      rw [if_pos (nI_le (Nat.le_refl _) (by omega)), if_pos (nI_le (Nat.le_refl _) (by omega))]
      exact Or.inl ⟨hg, rfl, rfl⟩
    · rw [if_neg (nI_ge (by omega) (by omega)), if_neg (nI_ge (by omega) (by omega)), nI_add, nI_add, at_c h2 hl (by omega) (hv q (by omega)), bs, rdE (show X + q < 240 by omega) (by decide) (hv2 q (by omega)) rfl, bs]
      rcases rng (ce q) 64 (by decide) with ⟨x, hx, ex⟩ | hb
      · rw [ex, (shp_y hx).1, (shp_y hx).2, bs, bs, if_neg n10, if_neg n10, nI_1]
        exact ih (q + 1) (by omega) (by omega) (fun j hj => by
          by_cases e : j = q
          · subst e; exact ⟨x, hx, ex⟩
          · exact hg j (by omega))
      · rw [(shp_n hb).1, (shp_n hb).2]
        exact Or.inr ⟨rfl, rfl⟩
theorem eq_laws {s1 m1 : ST} (hR : Rel s1 m1) (x1 x2 x3 x4 x5 : Int32) : ∃ (r : Int32) (s2 : ST) (m2 : ST), F_X6_laws s1 x1 x2 x3 x4 x5 = some (r, s2) ∧ F_X7_laws m1 x1 x2 x3 x4 x5 = some (r, m2) ∧ Rel s2 m2 := by
  have hF := hR.fault 0
  obtain ⟨a, b, ok, hc, hm, hS⟩ := hR.sh
  unfold F_X6_laws F_X7_laws
  have no : ∀ v : Int32, b2 (F_X6_withoutFault s1 v) (fun v9 u9 => some (v9, u9)) = some (v, st s1 0 1 0) := fun v => rfl
  rw [no, no]
  rcases rng x1 4 (by decide) with ⟨k, hk, rfl⟩ | h
  · rw [(sht_y hk).1, (sht_y hk).2, bs, bs, if_neg n10, if_neg n10]
    rcases rng x2 3 (by decide) with ⟨l, hl, rfl⟩ | h
    · rw [(lan_y hl).1, (lan_y hl).2, bs, bs, if_neg n10, if_neg n10]
      unfold F_X6_canTake
      rcases rng x4 21 (by decide) with ⟨n4, hn4, rfl⟩ | h
      · rw [if_neg (nI_pos (by omega)), if_neg (show ¬ (20 : Int32) < nI n4 from nI_nlt (a := 20) (by omega) (by decide)), bs, if_neg n10, win_y (lo := 0) (hi := 20) (j := n4) (a := 0) (b := 20) rfl (by omega) (by omega) (by decide) rfl rfl, bs, if_neg n10]
        rcases rng x5 3 (by decide) with ⟨w, hw, rfl⟩ | h
        · rw [if_neg (nI_pos (by omega)), if_pos (show nI w ≤ 2 from nI_le (b := 2) (by omega) (by decide)), win_y (lo := 0) (hi := 2) (j := w) (a := 0) (b := 2) rfl (by omega) (by omega) (by decide) rfl rfl, bs, if_neg n10, ixN hk (by decide), bs]
          obtain ⟨hs, g8, g9, g1, g2, g3⟩ := hS k hk
          obtain ⟨r, r1, r2, r3⟩ := ft_eq (t := sb s1 (20 + 2 * k)) (m := st m1 0 0 0) hs g8 g9 hk g1 g2 (nI l) x3 (nI n4)
          rw [r1, r2, bs, bs]
          by_cases hr : r = 0
          · obtain ⟨so, i, n, rfl, en, hin⟩ := r3 hr
            have hnn : n = n4 := ((nI_eq (by omega) (by omega)).mp en).symm
            subst hnn
            have len : sb s1 (20 + 2 * k) 0 2 = nI (a 9 k) := (hs.2.1 so).2
            have cel : ∀ j, j < n → sb s1 (20 + 2 * k) 1 (i + j) = b (1 + k) (i + j) := fun j hj => hs.2.2 (i + j) (by omega)
            have mel : ∀ j, j < n → st m1 0 0 0 3 (60 * k + i + j) = b (1 + k) (i + j) := fun j hj => by rw [st_ne (by decide), Nat.add_assoc]; exact g3 (i + j) (by omega)
            rw [if_pos hr, if_pos hr, h60]
            rcases laws_L (s := s1) (m := st m1 0 0 0) (ce := fun j => b (1 + k) (i + j)) len g9 hin cel (X := 60 * k + i) (by omega) mel (nI k) (nI l) (nI w) (nI i) (fun x8_k80 => F_X6_laws_J115 (nI k) (nI l) (nI i) (nI n) (nI w) k s1) (fun x8_k79 => F_X7_laws_J111 (nI k) (nI l) (nI i) (nI n) (nI w) (nI (60 * k + i)) (st m1 0 0 0)) 1000 0 (Nat.zero_le _) (by omega) (fun j hj => absurd hj (Nat.not_lt_zero j)) with ⟨ha, k1, k2⟩ | ⟨k1, k2⟩
            · obtain ⟨c, hcc⟩ : ∃ c : Nat → Nat, ∀ j, j < n → c j < 64 ∧ b (1 + k) (i + j) = nI (c j) := ⟨fun j => if h : j < n then Classical.choose (ha j h) else 0, fun j hj => by
                show (if h : j < n then Classical.choose (ha j h) else 0) < 64 ∧ _ = nI (if h : j < n then Classical.choose (ha j h) else 0)
                rw [dif_pos hj]
                exact Classical.choose_spec (ha j hj)⟩
              obtain ⟨rr, u, f1, f2, f3, f4⟩ := laws_J (t := sb s1 (20 + 2 * k)) (m := st m1 0 0 0) (c := c) (fun j hj => (hcc j hj).1) len g9 hin (fun j hj => (cel j hj).trans (hcc j hj).2) (X := 60 * k + i) (by omega) (fun j hj => (mel j hj).trans (hcc j hj).2) (nI k) (nI l) (nI i) (nI w)
              refine ⟨rr, st s1 0 1 0, u, k1.trans ?_, k2.trans f2, ?_⟩
              · show F_X6_laws_J115 (nI k) (nI l) (nI i) (nI n) (nI w) k s1 = _
                unfold F_X6_laws_J115
                rw [f1]
                rfl
              · obtain ⟨a', b', ok', hc', hm'⟩ := hF
                exact ⟨a', b', ok', hc', hm'.congr (fun j hj => f4 j (by omega) (by omega)) (fun p hp => f3 p (by omega))⟩
            · exact ⟨-2, st s1 0 1 0, st m1 0 0 0, k1, k2, hF⟩
          · rw [if_neg hr, if_neg hr]
            refine ⟨_, _, st (st m1 0 0 0) 0 0 r, rfl, rfl, ?_⟩
            rw [st_st]
            exact hR.fault r
        · refine ⟨-2, st s1 0 1 0, st m1 0 0 0, ?_, ?_, hF⟩
          · rcases h with h | ⟨h, h3⟩
            · rw [if_pos h]
            · rw [if_neg h, if_neg (fun z => by
                have z1 := Int32.le_iff_toInt_le.mp z
                have z2 := Int32.le_iff_toInt_le.mp h3
                have z3 : (nI 3).toInt = 3 := rfl
                have z4 : (2 : Int32).toInt = 2 := rfl
                omega)]
          · rw [win_n (n := 3) (hi := 2) (by decide) (by decide) rfl h, bs, if_pos (show (0 : Int32) = 0 from rfl)]
      · refine ⟨-2, st s1 0 1 0, st m1 0 0 0, ?_, ?_, hF⟩
        · rcases h with h | ⟨h, h3⟩
          · rw [if_pos h]; rfl
          · rw [if_neg h, if_pos (Int32.lt_iff_toInt_lt.mpr (by
              have z2 := Int32.le_iff_toInt_le.mp h3
              have z3 : (nI 21).toInt = 21 := rfl
              have z4 : (20 : Int32).toInt = 20 := rfl
              omega))]; rfl
        · rw [win_n (n := 21) (hi := 20) (by decide) (by decide) rfl h, bs, if_pos (show (0 : Int32) = 0 from rfl)]
    · rw [(lan_n h).1, (lan_n h).2]
      exact ⟨-2, st s1 0 1 0, st m1 0 0 0, rfl, rfl, hF⟩
  · rw [(sht_n h).1, (sht_n h).2]
    exact ⟨-1, st s1 0 1 0, st m1 0 0 0, rfl, rfl, hF⟩
