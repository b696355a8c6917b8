/-! readings: areSo, paces, kinds -/
/-- do the readings from k on hold -/
def so (f kd sh pc rb rx rs : Nat → Nat) : Nat → Nat → Nat
  | 0, _ => 1
  | m + 1, k => if it f (gs (kd (rb k)) (pc (rb k)) * rx k) (sh (rb k)) = rs k then so f kd sh pc rb rx rs m (k + 1) else 0
theorem so_s (f kd sh pc rb rx rs : Nat → Nat) (m k : Nat) : so f kd sh pc rb rx rs (m + 1) k = if it f (gs (kd (rb k)) (pc (rb k)) * rx k) (sh (rb k)) = rs k then so f kd sh pc rb rx rs m (k + 1) else 0 := rfl
theorem so_01 (f kd sh pc rb rx rs : Nat → Nat) : ∀ m k, so f kd sh pc rb rx rs m k = 0 ∨ so f kd sh pc rb rx rs m k = 1
  | 0, _ => Or.inr rfl
  | m + 1, k => by
    rw [so_s]
    by_cases h : it f (gs (kd (rb k)) (pc (rb k)) * rx k) (sh (rb k)) = rs k
    · rw [if_pos h]; exact so_01 f kd sh pc rb rx rs m (k + 1)
    · rw [if_neg h]; exact Or.inl rfl
def ROk (c n : Nat) (rb rx rs : Nat → Nat) : Prop := n ≤ 8 ∧ ∀ j, j < n → rb j < c ∧ rx j ≤ 99 ∧ rs j < 64
theorem areSo_cL {t0 t1 t2 : ST} {f : Nat → Nat} (hL : LRel t2 f) (hf : FOk f) {c lk : Nat} {kd sh pc : Nat → Nat} (hb : BOk c lk kd sh pc) (ht : BRel t1 c lk kd sh pc) {n : Nat} {rb rx rs : Nat → Nat} (hr : ROk c n rb rx rs) (t00 : t0 0 0 = nI n) (tr : ∀ j, j < 8 → t0 1 j = nI (rb j) ∧ t0 2 j = nI (rx j) ∧ t0 3 j = nI (rs j)) (k : Int32 → Option Int32) (hk : ∀ x, k x = some 1) : ∀ m i, i ≤ n → n - i < m → F_X2_areSo_L2 t0 t1 t2 k m (nI i) = some (nI (so f kd sh pc rb rx rs (n - i) i)) := by
  obtain ⟨hc, hl, hB⟩ := hb
  obtain ⟨s1, s2, s3⟩ := ht
  obtain ⟨hn, hr⟩ := hr
  intro m
  induction m with
  | zero => intro i _ h; omega
  | succ m ih =>
    intro i hi hm
    rw [F_X2_areSo_L2.eq_2, t00]
    by_cases h : i = n
    · subst h
      rw [if_pos (nI_le (Nat.le_refl _) (by omega)), Nat.sub_self]
      exact hk _
    · have i8 : i < 8 := by omega
      obtain ⟨q1, q2, q3⟩ := hr i (by omega)
      have b6 : rb i < 6 := by omega
      obtain ⟨d, hd⟩ : ∃ d, n - i = d + 1 := ⟨n - i - 1, by omega⟩
      have hd2 : n - (i + 1) = d := by omega
      rw [if_neg (nI_ge (by omega) (by omega)), rdE i8 (by decide) (tr i i8).1 rfl, bs, has_y s1 hc q1, bs, if_neg n10, rdE b6 (by decide) (s3 _ b6).2.1 rfl, bs, goes_c b6 (s3 _ b6).1 (s3 _ b6).2.2 (hB _ b6).1, bs, rdE i8 (by decide) (tr i i8).2.1 rfl, bs, behind_c hL hf (hB _ b6).2.1 (gs_le (hB _ b6).2.2) (by omega), bs, rdE i8 (by decide) (tr i i8).2.2 rfl, bs, nI_1, hd, so_s]
      by_cases e : it f (gs (kd (rb i)) (pc (rb i)) * rx i) (sh (rb i)) = rs i
      · rw [if_pos (show nI _ = nI _ from congrArg nI e), if_pos e, ih (i + 1) (by omega) (by omega), hd2]
      · have := it_lt hf (gs (kd (rb i)) (pc (rb i)) * rx i) (sh (rb i)) (hB _ b6).2.1
        rw [if_neg (nI_ne e (by omega) (by omega)), if_neg e]
        rfl
theorem areSo_c {t0 t1 t2 : ST} {f : Nat → Nat} (hL : LRel t2 f) (hf : FOk f) {c lk : Nat} {kd sh pc : Nat → Nat} (hb : BOk c lk kd sh pc) (ht : BRel t1 c lk kd sh pc) {n : Nat} {rb rx rs : Nat → Nat} (hr : ROk c n rb rx rs) (t00 : t0 0 0 = nI n) (tr : ∀ j, j < 8 → t0 1 j = nI (rb j) ∧ t0 2 j = nI (rx j) ∧ t0 3 j = nI (rs j)) : F_X2_areSo t0 t1 t2 = some (nI (so f kd sh pc rb rx rs n 0)) := by
  unfold F_X2_areSo
  exact areSo_cL hL hf hb ht hr t00 tr _ (fun _ => rfl) 1000 0 (Nat.zero_le _) (by have := hr.1; omega)
theorem areSo_mL {t : ST} {f : Nat → Nat} (hL : ∀ j, j < 64 → t 4 j = nI (f j)) (hf : FOk f) {c lk : Nat} {kd sh pc : Nat → Nat} (hb : BOk c lk kd sh pc) (s3 : ∀ j, j < 6 → t 5 j = nI (kd j) ∧ t 6 j = nI (sh j) ∧ t 7 j = nI (pc j)) {n : Nat} {rb rx rs : Nat → Nat} (hr : ROk c n rb rx rs) (t00 : t 0 13 = nI n) (tr : ∀ j, j < 8 → t 10 j = nI (rb j) ∧ t 11 j = nI (rx j) ∧ t 12 j = nI (rs j)) (k : Int32 → Option Int32) (hk : ∀ x, k x = some 1) : ∀ m i, i ≤ n → n - i < m → F_X7_areSo_L2 t k m (nI i) = some (nI (so f kd sh pc rb rx rs (n - i) i)) := by
  obtain ⟨hc, hl, hB⟩ := hb
  obtain ⟨hn, hr⟩ := hr
  intro m
  induction m with
  | zero => intro i _ h; omega
  | succ m ih =>
    intro i hi hm
    rw [F_X7_areSo_L2.eq_2, t00]
    by_cases h : i = n
    · subst h
      rw [if_pos (nI_le (Nat.le_refl _) (by omega)), Nat.sub_self]
      exact hk _
    · have i8 : i < 8 := by omega
      obtain ⟨q1, q2, q3⟩ := hr i (by omega)
      have b6 : rb i < 6 := by omega
      obtain ⟨d, hd⟩ : ∃ d, n - i = d + 1 := ⟨n - i - 1, by omega⟩
      have hd2 : n - (i + 1) = d := by omega
      have hm : rx i * gs (kd (rb i)) (pc (rb i)) ≤ 99 * 8 := Nat.mul_le_mul q2 (gs_le (hB _ b6).2.2)
      rw [if_neg (nI_ge (by omega) (by omega)), rdE i8 (by decide) (tr i i8).1 rfl, bs, rdE b6 (by decide) (s3 _ b6).2.1 rfl, bs, rdE i8 (by decide) (tr i i8).2.1 rfl, bs, goes_m b6 (s3 _ b6).1 (s3 _ b6).2.2 (hB _ b6).1, bs, pk_mul, stepsOn_m hL hf (hB _ b6).2.1 (by omega), bs, rdE i8 (by decide) (tr i i8).2.2 rfl, bs, nI_1, hd, so_s, Nat.mul_comm (rx i)]
      by_cases e : it f (gs (kd (rb i)) (pc (rb i)) * rx i) (sh (rb i)) = rs i
      · rw [if_pos (show nI _ = nI _ from congrArg nI e), if_pos e, ih (i + 1) (by omega) (by omega), hd2]
      · have := it_lt hf (gs (kd (rb i)) (pc (rb i)) * rx i) (sh (rb i)) (hB _ b6).2.1
        rw [if_neg (nI_ne e (by omega) (by omega)), if_neg e]
        rfl
theorem areSo_m {t : ST} {f : Nat → Nat} (hL : ∀ j, j < 64 → t 4 j = nI (f j)) (hf : FOk f) {c lk : Nat} {kd sh pc : Nat → Nat} (hb : BOk c lk kd sh pc) (s3 : ∀ j, j < 6 → t 5 j = nI (kd j) ∧ t 6 j = nI (sh j) ∧ t 7 j = nI (pc j)) {n : Nat} {rb rx rs : Nat → Nat} (hr : ROk c n rb rx rs) (t00 : t 0 13 = nI n) (tr : ∀ j, j < 8 → t 10 j = nI (rb j) ∧ t 11 j = nI (rx j) ∧ t 12 j = nI (rs j)) : F_X7_areSo t = some (nI (so f kd sh pc rb rx rs n 0)) := by
  unfold F_X7_areSo
  exact areSo_mL hL hf hb s3 hr t00 tr _ (fun _ => rfl) 1000 0 (Nat.zero_le _) (by have := hr.1; omega)
theorem un_un (f : Nat → Nat) (i v w : Nat) : un (un f i v) i w = un f i w := by
  funext j
  unfold un
  by_cases h : j = i
  · rw [if_pos h, if_pos h]
  · rw [if_neg h, if_neg h, if_neg h]
theorem un_id (f : Nat → Nat) (i : Nat) : un f i (f i) = f := by
  funext j
  unfold un
  by_cases h : j = i
  · subst h; rw [if_pos rfl]
  · rw [if_neg h]
theorem un_le {f : Nat → Nat} {i v B j : Nat} (hf : f j ≤ B) (hv : v ≤ B) : un f i v j ≤ B := by
  unfold un
  by_cases h : j = i
  · rw [if_pos h]; exact hv
  · rw [if_neg h]; exact hf
def msk (h : Nat → Nat) : Nat → Nat → Int32 → Int32
  | 0, _, y => y
  | m + 1, x, y => msk h m (x + 1) (if h x = 0 then y else y ||| (1 <<< (nI x &&& 31)))
theorem msk_s (h : Nat → Nat) (m x : Nat) (y : Int32) : msk h (m + 1) x y = msk h m (x + 1) (if h x = 0 then y else y ||| (1 <<< (nI x &&& 31))) := rfl
theorem paces_cL {s1 : ST} {f : Nat → Nat} (hL : LRel (sb s1 1) f) (hf : FOk f) {c lk : Nat} {kd sh pc : Nat → Nat} (hb : BOk c lk kd sh pc) {nn : Nat} {rb rx rs : Nat → Nat} (hr : ROk c nn rb rx rs) (t00 : s1 16 0 = nI nn) (tr : ∀ j, j < 8 → s1 17 j = nI (rb j) ∧ s1 18 j = nI (rx j) ∧ s1 19 j = nI (rs j)) {i : Nat} (hi : i < 6) (k : Int32 → Int32 → ST → Option (Int32 × ST)) : ∀ n x y q (s : ST), x ≤ 5 → 5 - x < n → BRel (sb s 7) c lk kd sh (un pc i q) → (∀ p, ¬ (7 ≤ p ∧ p < 11) → s p = s1 p) → ∃ u : ST, F_X6_paces_L28 (nI i) k n y (nI x) s = k (msk (fun v => so f kd sh (un pc i v) rb rx rs nn 0) (5 - x) x y) (nI 5) u ∧ (∀ p, ¬ (7 ≤ p ∧ p < 11) → u p = s1 p) := by
  intro n
  induction n with
  | zero => intro x y q s _ h; omega
  | succ n ih =>
    intro x y q s hx hn hs he
    rw [F_X6_paces_L28.eq_2]
    by_cases h : x = 5
    · subst h
      rw [if_pos (show (4 : Int32) < nI 5 from by decide)]
      exact ⟨s, rfl, he⟩
    · obtain ⟨d, hd⟩ : ∃ d, 5 - x = d + 1 := ⟨5 - x - 1, by omega⟩
      have hd2 : 5 - (x + 1) = d := by omega
      obtain ⟨g1, g2, g3⟩ := hs
      have hs2 : BRel (sb (st s 10 i (nI x)) 7) c lk kd sh (un pc i x) := ⟨g1, g2, fun j hj => ⟨(g3 j hj).1, (g3 j hj).2.1, by rw [← un_un pc i q x]; exact un_at (g3 j hj).2.2 rfl⟩⟩
      have ob : BOk c lk kd sh (un pc i x) := ⟨hb.1, hb.2.1, fun j hj => ⟨(hb.2.2 j hj).1, (hb.2.2 j hj).2.1, un_le (hb.2.2 j hj).2.2 (by omega)⟩⟩
      have q := areSo_c (t0 := sb (st s 10 i (nI x)) 16) (t2 := sb (st s 10 i (nI x)) 1) (hL.congr (show s 2 = s1 2 from he 2 (by omega))) hf ob hs2 hr (show s 16 0 = _ from by rw [he 16 (by omega)]; exact t00) (fun j hj => ⟨show s 17 j = _ from by rw [he 17 (by omega)]; exact (tr j hj).1, show s 18 j = _ from by rw [he 18 (by omega)]; exact (tr j hj).2.1, show s 19 j = _ from by rw [he 19 (by omega)]; exact (tr j hj).2.2⟩)
      have he2 : ∀ p, ¬ (7 ≤ p ∧ p < 11) → st s 10 i (nI x) p = s1 p := fun p hp => by rw [st_ne (by omega)]; exact he p hp
      rw [if_neg (show ¬ (4 : Int32) < nI x from nI_nlt (a := 4) (by omega) (by decide)), ixN hi (by decide), bs, q, bs, nI_1, hd, msk_s]
      have e := so_01 f kd sh (un pc i x) rb rx rs nn 0
      rcases e with e | e
      · rw [e, if_pos (show nI 0 = 0 from rfl), if_pos (show (0 : Nat) = 0 from rfl), ← hd2]
        exact ih (x + 1) y x _ (by omega) (by omega) hs2 he2
      · rw [e, if_neg n10', if_neg (show ¬ (1 : Nat) = 0 by decide), ← hd2]
        exact ih (x + 1) _ x _ (by omega) (by omega) hs2 he2
theorem paces_mL {m1 : ST} {f : Nat → Nat} (hL : ∀ j, j < 64 → m1 4 j = nI (f j)) (hf : FOk f) {c lk : Nat} {kd sh pc : Nat → Nat} (hb : BOk c lk kd sh pc) (hB : ∀ j, j < 6 → m1 5 j = nI (kd j) ∧ m1 6 j = nI (sh j) ∧ m1 7 j = nI (pc j)) {nn : Nat} {rb rx rs : Nat → Nat} (hr : ROk c nn rb rx rs) (t00 : m1 0 13 = nI nn) (tr : ∀ j, j < 8 → m1 10 j = nI (rb j) ∧ m1 11 j = nI (rx j) ∧ m1 12 j = nI (rs j)) {i : Nat} (hi : i < 6) (x2 : Int32) (k : Int32 → Int32 → ST → Option (Int32 × ST)) : ∀ n x y (s : ST), x ≤ 5 → 5 - x < n → (∀ p, p ≠ 7 → s p = m1 p) → (∀ j, j ≠ i → s 7 j = m1 7 j) → ∃ u : ST, F_X7_paces_L22 (nI i) x2 k n y (nI x) s = k (msk (fun v => so f kd sh (un pc i v) rb rx rs nn 0) (5 - x) x y) (nI 5) u ∧ (∀ p, p ≠ 7 → u p = m1 p) ∧ (∀ j, j ≠ i → u 7 j = m1 7 j) := by
  intro n
  induction n with
  | zero => intro x y s _ h; omega
  | succ n ih =>
    intro x y s hx hn he hj7
    rw [F_X7_paces_L22.eq_2]
    by_cases h : x = 5
    · subst h
      rw [if_pos (show (4 : Int32) < nI 5 from by decide)]
      exact ⟨s, rfl, he, hj7⟩
    · obtain ⟨d, hd⟩ : ∃ d, 5 - x = d + 1 := ⟨5 - x - 1, by omega⟩
      have hd2 : 5 - (x + 1) = d := by omega
      have ob : BOk c lk kd sh (un pc i x) := ⟨hb.1, hb.2.1, fun j hj => ⟨(hb.2.2 j hj).1, (hb.2.2 j hj).2.1, un_le (hb.2.2 j hj).2.2 (by omega)⟩⟩
      have he2 : ∀ p, p ≠ 7 → st s 7 i (nI x) p = m1 p := fun p hp => by rw [st_ne hp]; exact he p hp
      have hw : ∀ j, j < 6 → st s 7 i (nI x) 7 j = nI (un pc i x j) := fun j hj => by
        rw [st_eq]
        by_cases e : j = i
        · subst e; rw [upd_eq]; unfold un; rw [if_pos rfl]
        · rw [upd_ne e, hj7 j e]; unfold un; rw [if_neg e]; exact (hB j hj).2.2
      have hj8 : ∀ j, j ≠ i → st s 7 i (nI x) 7 j = m1 7 j := fun j e => by rw [st_eq, upd_ne e]; exact hj7 j e
      have q := areSo_m (t := st s 7 i (nI x)) (by rw [he2 4 (by decide)]; exact hL) hf ob (fun j hj => ⟨by rw [he2 5 (by decide)]; exact (hB j hj).1, by rw [he2 6 (by decide)]; exact (hB j hj).2.1, hw j hj⟩) hr (by rw [he2 0 (by decide)]; exact t00) (by rw [he2 10 (by decide), he2 11 (by decide), he2 12 (by decide)]; exact tr)
      rw [if_neg (show ¬ (4 : Int32) < nI x from nI_nlt (a := 4) (by omega) (by decide)), ixN hi (by decide), bs, q, bs, nI_1, hd, msk_s]
      have e := so_01 f kd sh (un pc i x) rb rx rs nn 0
      rcases e with e | e
      · rw [e, if_pos (show nI 0 = 0 from rfl), if_pos (show (0 : Nat) = 0 from rfl), ← hd2, Int32.or_zero]
        exact ih (x + 1) y _ (by omega) (by omega) he2 hj8
      · rw [e, if_neg n10', if_neg (show ¬ (1 : Nat) = 0 by decide), ← hd2]
        exact ih (x + 1) _ _ (by omega) (by omega) he2 hj8
theorem eq_paces {s1 m1 : ST} (hR : Rel s1 m1) (x1 : Int32) : ∃ (r : Int32) (s2 : ST) (m2 : ST), F_X6_paces s1 x1 = some (r, s2) ∧ F_X7_paces m1 x1 = some (r, m2) ∧ Rel s2 m2 := by
  have hR0 := hR
  obtain ⟨a, b, ok, hc, hm⟩ := hR
  have ok0 := ok
  have hc0 := hc
  have hm0 := hm
  obtain ⟨o0, o1, o2, o3, oB, oF, oR, oS⟩ := ok
  obtain ⟨⟨c1, c2, c3⟩, cw, cB, cL, ⟨cn, cR⟩, cS⟩ := hc
  obtain ⟨⟨e1, e2, e3⟩, ew, ⟨ec, elk, eB⟩, eL, ⟨en, eR⟩, eS⟩ := hm
  unfold F_X6_paces F_X7_paces
  rcases rng x1 (a 0 1) (by omega) with ⟨i, hi, rfl⟩ | h
  · have i6 : i < 6 := by omega
    have h0 : 0 < a 0 1 := by omega
    have hb : BOk (a 0 1) (a 0 2) (a 1) (a 2) (a 3) := ⟨o1, o2, oB⟩
    obtain ⟨u, u1, u2, u3⟩ := copyFrom_c (t := sb s1 7) cB
    have hu : BRel (sb (gr s1 7 4 u) 7) (a 0 1) (a 0 2) (a 1) (a 2) (a 3) := u2.congr (fun p hp => by
      show gr s1 7 4 u (7 + p) = u p
      rw [gr_eq ⟨by omega, by omega⟩, Nat.add_sub_cancel_left])
    have hu' : BRel (sb (gr s1 7 4 u) 7) (a 0 1) (a 0 2) (a 1) (a 2) (un (a 3) i (a 3 i)) := by rw [un_id]; exact hu
    obtain ⟨w, w1, w2⟩ := paces_cL (s1 := s1) (cL h0) oF hb (nn := a 0 3) ⟨o3, oR⟩ cn cR i6 (fun x2_k28 x3_k28 s0_k28 => F_X6_paces_J73 (nI i) x2_k28 s0_k28) 1000 1 0 (a 3 i) (gr s1 7 4 u) (by decide) (by decide) hu' (fun p hp => gr_ne (by omega))
    obtain ⟨z, z1, z2, z3⟩ := paces_mL (m1 := m1) (eL h0) oF hb eB (nn := a 0 3) ⟨o3, oR⟩ en eR i6 (m1 7 i) (fun x3_k22 x4_k22 s0_k22 => F_X7_paces_J60 (nI i) (m1 7 i) x3_k22 s0_k22) 1000 1 0 m1 (by decide) (by decide) (fun _ _ => rfl) (fun _ _ => rfl)
    rw [has_y cB.1 o1 hi, blk_y ec o1 hi, bs, bs, if_neg n10, if_neg n10, u1, bs, rdN i6 (by decide), bs]
    refine ⟨_, w, m1, w1, z1.trans ?_, ⟨a, b, ok0, hc0.congr (fun p hp => w2 p (by omega)), hm0⟩⟩
    show F_X7_paces_J60 (nI i) (m1 7 i) _ z = _
    unfold F_X7_paces_J60
    rw [ixN i6 (by decide), bs]
    have : st z 7 i (m1 7 i) = m1 := by
      funext p
      by_cases e : p = 7
      · subst e
        rw [st_eq]
        funext j
        by_cases e : j = i
        · subst e; rw [upd_eq]
        · rw [upd_ne e]; exact z3 j e
      · rw [st_ne e]; exact z2 p e
    rw [this]
  · rw [has_n cB.1 h, blk_n ec h]
    exact ⟨-1, s1, m1, rfl, rfl, hR0⟩
theorem kinds_cL {s1 : ST} {f : Nat → Nat} (hL : LRel (sb s1 1) f) (hf : FOk f) {c lk : Nat} {kd sh pc : Nat → Nat} (hb : BOk c lk kd sh pc) {nn : Nat} {rb rx rs : Nat → Nat} (hr : ROk c nn rb rx rs) (t00 : s1 16 0 = nI nn) (tr : ∀ j, j < 8 → s1 17 j = nI (rb j) ∧ s1 18 j = nI (rx j) ∧ s1 19 j = nI (rs j)) {i : Nat} (hi : i < 6) (k : Int32 → Int32 → ST → Option (Int32 × ST)) : ∀ n x y q (s : ST), x ≤ 3 → 3 - x < n → BRel (sb s 7) c lk (un kd i q) sh pc → (∀ p, ¬ (7 ≤ p ∧ p < 11) → s p = s1 p) → ∃ u : ST, F_X6_kinds_L28 (nI i) k n y (nI x) s = k (msk (fun v => so f (un kd i v) sh pc rb rx rs nn 0) (3 - x) x y) (nI 3) u ∧ (∀ p, ¬ (7 ≤ p ∧ p < 11) → u p = s1 p) := by
  intro n
  induction n with
  | zero => intro x y q s _ h; omega
  | succ n ih =>
    intro x y q s hx hn hs he
    rw [F_X6_kinds_L28.eq_2]
    by_cases h : x = 3
    · subst h
      rw [if_pos (show (3 : Int32) ≤ nI 3 from by decide)]
      exact ⟨s, rfl, he⟩
    · obtain ⟨d, hd⟩ : ∃ d, 3 - x = d + 1 := ⟨3 - x - 1, by omega⟩
      have hd2 : 3 - (x + 1) = d := by omega
      obtain ⟨g1, g2, g3⟩ := hs
      have hs2 : BRel (sb (st s 8 i (nI x)) 7) c lk (un kd i x) sh pc := ⟨g1, g2, fun j hj => ⟨by rw [← un_un kd i q x]; exact un_at (g3 j hj).1 rfl, (g3 j hj).2.1, (g3 j hj).2.2⟩⟩
      have ob : BOk c lk (un kd i x) sh pc := ⟨hb.1, hb.2.1, fun j hj => ⟨Nat.lt_succ_of_le (un_le (B := 2) (Nat.le_of_lt_succ (hb.2.2 j hj).1) (by omega)), (hb.2.2 j hj).2.1, (hb.2.2 j hj).2.2⟩⟩
      have q := areSo_c (t0 := sb (st s 8 i (nI x)) 16) (t2 := sb (st s 8 i (nI x)) 1) (hL.congr (show s 2 = s1 2 from he 2 (by omega))) hf ob hs2 hr (show s 16 0 = _ from by rw [he 16 (by omega)]; exact t00) (fun j hj => ⟨show s 17 j = _ from by rw [he 17 (by omega)]; exact (tr j hj).1, show s 18 j = _ from by rw [he 18 (by omega)]; exact (tr j hj).2.1, show s 19 j = _ from by rw [he 19 (by omega)]; exact (tr j hj).2.2⟩)
      have he2 : ∀ p, ¬ (7 ≤ p ∧ p < 11) → st s 8 i (nI x) p = s1 p := fun p hp => by rw [st_ne (by omega)]; exact he p hp
      rw [if_neg (show ¬ (3 : Int32) ≤ nI x from nI_ge (b := 3) (by omega) (by decide)), ixN hi (by decide), bs, q, bs, nI_1, hd, msk_s]
      have e := so_01 f (un kd i x) sh pc rb rx rs nn 0
      rcases e with e | e
      · rw [e, if_pos (show nI 0 = 0 from rfl), if_pos (show (0 : Nat) = 0 from rfl), ← hd2]
        exact ih (x + 1) y x _ (by omega) (by omega) hs2 he2
      · rw [e, if_neg n10', if_neg (show ¬ (1 : Nat) = 0 by decide), ← hd2]
        exact ih (x + 1) _ x _ (by omega) (by omega) hs2 he2
theorem kinds_mL {m1 : ST} {f : Nat → Nat} (hL : ∀ j, j < 64 → m1 4 j = nI (f j)) (hf : FOk f) {c lk : Nat} {kd sh pc : Nat → Nat} (hb : BOk c lk kd sh pc) (hB : ∀ j, j < 6 → m1 5 j = nI (kd j) ∧ m1 6 j = nI (sh j) ∧ m1 7 j = nI (pc j)) {nn : Nat} {rb rx rs : Nat → Nat} (hr : ROk c nn rb rx rs) (t00 : m1 0 13 = nI nn) (tr : ∀ j, j < 8 → m1 10 j = nI (rb j) ∧ m1 11 j = nI (rx j) ∧ m1 12 j = nI (rs j)) {i : Nat} (hi : i < 6) (x2 : Int32) (k : Int32 → Int32 → ST → Option (Int32 × ST)) : ∀ n x y (s : ST), x ≤ 3 → 3 - x < n → (∀ p, p ≠ 5 → s p = m1 p) → (∀ j, j ≠ i → s 5 j = m1 5 j) → ∃ u : ST, F_X7_kinds_L22 (nI i) x2 k n y (nI x) s = k (msk (fun v => so f (un kd i v) sh pc rb rx rs nn 0) (3 - x) x y) (nI 3) u ∧ (∀ p, p ≠ 5 → u p = m1 p) ∧ (∀ j, j ≠ i → u 5 j = m1 5 j) := by
  intro n
  induction n with
  | zero => intro x y s _ h; omega
  | succ n ih =>
    intro x y s hx hn he hj7
    rw [F_X7_kinds_L22.eq_2]
    by_cases h : x = 3
    · subst h
      rw [if_pos (show (3 : Int32) ≤ nI 3 from by decide)]
      exact ⟨s, rfl, he, hj7⟩
    · obtain ⟨d, hd⟩ : ∃ d, 3 - x = d + 1 := ⟨3 - x - 1, by omega⟩
      have hd2 : 3 - (x + 1) = d := by omega
      have ob : BOk c lk (un kd i x) sh pc := ⟨hb.1, hb.2.1, fun j hj => ⟨Nat.lt_succ_of_le (un_le (B := 2) (Nat.le_of_lt_succ (hb.2.2 j hj).1) (by omega)), (hb.2.2 j hj).2.1, (hb.2.2 j hj).2.2⟩⟩
      have he2 : ∀ p, p ≠ 5 → st s 5 i (nI x) p = m1 p := fun p hp => by rw [st_ne hp]; exact he p hp
      have hw : ∀ j, j < 6 → st s 5 i (nI x) 5 j = nI (un kd i x j) := fun j hj => by
        rw [st_eq]
        by_cases e : j = i
        · subst e; rw [upd_eq]; unfold un; rw [if_pos rfl]
        · rw [upd_ne e, hj7 j e]; unfold un; rw [if_neg e]; exact (hB j hj).1
      have hj8 : ∀ j, j ≠ i → st s 5 i (nI x) 5 j = m1 5 j := fun j e => by rw [st_eq, upd_ne e]; exact hj7 j e
      have q := areSo_m (t := st s 5 i (nI x)) (by rw [he2 4 (by decide)]; exact hL) hf ob (fun j hj => ⟨hw j hj, by rw [he2 6 (by decide)]; exact (hB j hj).2.1, by rw [he2 7 (by decide)]; exact (hB j hj).2.2⟩) hr (by rw [he2 0 (by decide)]; exact t00) (by rw [he2 10 (by decide), he2 11 (by decide), he2 12 (by decide)]; exact tr)
      rw [if_neg (show ¬ (3 : Int32) ≤ nI x from nI_ge (b := 3) (by omega) (by decide)), ixN hi (by decide), bs, q, bs, nI_1, hd, msk_s]
      have e := so_01 f (un kd i x) sh pc rb rx rs nn 0
      rcases e with e | e
      · rw [e, if_pos (show nI 0 = 0 from rfl), if_pos (show (0 : Nat) = 0 from rfl), ← hd2, Int32.or_zero]
        exact ih (x + 1) y _ (by omega) (by omega) he2 hj8
      · rw [e, if_neg n10', if_neg (show ¬ (1 : Nat) = 0 by decide), ← hd2]
        exact ih (x + 1) _ _ (by omega) (by omega) he2 hj8
theorem eq_kinds {s1 m1 : ST} (hR : Rel s1 m1) (x1 : Int32) : ∃ (r : Int32) (s2 : ST) (m2 : ST), F_X6_kinds s1 x1 = some (r, s2) ∧ F_X7_kinds m1 x1 = some (r, m2) ∧ Rel s2 m2 := by
  have hR0 := hR
  obtain ⟨a, b, ok, hc, hm⟩ := hR
  have ok0 := ok
  have hc0 := hc
  have hm0 := hm
  obtain ⟨o0, o1, o2, o3, oB, oF, oR, oS⟩ := ok
  obtain ⟨⟨c1, c2, c3⟩, cw, cB, cL, ⟨cn, cR⟩, cS⟩ := hc
  obtain ⟨⟨e1, e2, e3⟩, ew, ⟨ec, elk, eB⟩, eL, ⟨en, eR⟩, eS⟩ := hm
  unfold F_X6_kinds F_X7_kinds
  rcases rng x1 (a 0 1) (by omega) with ⟨i, hi, rfl⟩ | h
  · have i6 : i < 6 := by omega
    have h0 : 0 < a 0 1 := by omega
    have hb : BOk (a 0 1) (a 0 2) (a 1) (a 2) (a 3) := ⟨o1, o2, oB⟩
    obtain ⟨u, u1, u2, u3⟩ := copyFrom_c (t := sb s1 7) cB
    have hu : BRel (sb (gr s1 7 4 u) 7) (a 0 1) (a 0 2) (a 1) (a 2) (a 3) := u2.congr (fun p hp => by
      show gr s1 7 4 u (7 + p) = u p
      rw [gr_eq ⟨by omega, by omega⟩, Nat.add_sub_cancel_left])
    have hu' : BRel (sb (gr s1 7 4 u) 7) (a 0 1) (a 0 2) (un (a 1) i (a 1 i)) (a 2) (a 3) := by rw [un_id]; exact hu
    obtain ⟨w, w1, w2⟩ := kinds_cL (s1 := s1) (cL h0) oF hb (nn := a 0 3) ⟨o3, oR⟩ cn cR i6 (fun x2_k28 x3_k28 s0_k28 => F_X6_kinds_J73 (nI i) x2_k28 s0_k28) 1000 0 0 (a 1 i) (gr s1 7 4 u) (by decide) (by decide) hu' (fun p hp => gr_ne (by omega))
    obtain ⟨z, z1, z2, z3⟩ := kinds_mL (m1 := m1) (eL h0) oF hb eB (nn := a 0 3) ⟨o3, oR⟩ en eR i6 (m1 5 i) (fun x3_k22 x4_k22 s0_k22 => F_X7_kinds_J60 (nI i) (m1 5 i) x3_k22 s0_k22) 1000 0 0 m1 (by decide) (by decide) (fun _ _ => rfl) (fun _ _ => rfl)
    rw [has_y cB.1 o1 hi, blk_y ec o1 hi, bs, bs, if_neg n10, if_neg n10, u1, bs, rdN i6 (by decide), bs]
    refine ⟨_, w, m1, w1, z1.trans ?_, ⟨a, b, ok0, hc0.congr (fun p hp => w2 p (by omega)), hm0⟩⟩
    show F_X7_kinds_J60 (nI i) (m1 5 i) _ z = _
    unfold F_X7_kinds_J60
    rw [ixN i6 (by decide), bs]
    have : st z 5 i (m1 5 i) = m1 := by
      funext p
      by_cases e : p = 5
      · subst e
        rw [st_eq]
        funext j
        by_cases e : j = i
        · subst e; rw [upd_eq]
        · rw [upd_ne e]; exact z3 j e
      · rw [st_ne e]; exact z2 p e
    rw [this]
  · rw [has_n cB.1 h, blk_n ec h]
    exact ⟨-1, s1, m1, rfl, rfl, hR0⟩
