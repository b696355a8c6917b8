/-! starts -/
def bt (y : Int64) (j : Nat) : Bool := y.toBitVec.getLsbD j
theorem bt_ext {y z : Int64} (h : ∀ j, j < 64 → bt y j = bt z j) : y = z := by
  apply Int64.toBitVec_inj.mp
  apply BitVec.eq_of_getLsbD_eq
  intro i hi
  exact h i hi
theorem bt_1 : ∀ v, v < 64 → ∀ j, j < 64 → bt (1 <<< ((nI v).toInt64 &&& 63)) j = decide (j = v) := by decide +kernel
theorem bt_m : ∀ j, j < 64 → bt (-1) j = true := by decide +kernel
theorem bt_0 : ∀ j, j < 64 → bt 0 j = false := by decide +kernel
theorem bt_or (y z : Int64) (j : Nat) : bt (y ||| z) j = (bt y j || bt z j) := by
  unfold bt
  rw [Int64.toBitVec_or, BitVec.getLsbD_or]
theorem bt_and (y z : Int64) (j : Nat) : bt (y &&& z) j = (bt y j && bt z j) := by
  unfold bt
  rw [Int64.toBitVec_and, BitVec.getLsbD_and]
theorem bt_xor (y z : Int64) (j : Nat) : bt (y ^^^ z) j = (bt y j ^^ bt z j) := by
  unfold bt
  rw [Int64.toBitVec_xor, BitVec.getLsbD_xor]
theorem bt_set {y : Int64} {v j : Nat} (hv : v < 64) (hj : j < 64) : bt (y ||| (1 <<< ((nI v).toInt64 &&& 63))) j = (bt y j || decide (j = v)) := by rw [bt_or, bt_1 v hv j hj]
theorem bt_clr {y : Int64} {v j : Nat} (hv : v < 64) (hj : j < 64) : bt (y &&& ((1 <<< ((nI v).toInt64 &&& 63)) ^^^ (-1))) j = (bt y j && !decide (j = v)) := by rw [bt_and, bt_xor, bt_1 v hv j hj, bt_m j hj, Bool.xor_true]
/-- reading r holds -/
def holds (f kd sh pc rb rx rs : Nat → Nat) (r : Nat) : Prop := it f (gs (kd (rb r)) (pc (rb r)) * rx r) (sh (rb r)) = rs r
theorem so_all (f kd sh pc rb rx rs : Nat → Nat) : ∀ m k, so f kd sh pc rb rx rs m k = 1 ↔ ∀ r, k ≤ r → r < k + m → holds f kd sh pc rb rx rs r
  | 0, k => ⟨fun _ r h1 h2 => by omega, fun _ => rfl⟩
  | m + 1, k => by
    rw [so_s]
    by_cases h : it f (gs (kd (rb k)) (pc (rb k)) * rx k) (sh (rb k)) = rs k
    · rw [if_pos h, so_all f kd sh pc rb rx rs m (k + 1)]
      refine ⟨fun z r h1 h2 => ?_, fun z r h1 h2 => z r (by omega) (by omega)⟩
      by_cases e : r = k
      · subst e; exact h
      · exact z r (by omega) (by omega)
    · rw [if_neg h]
      exact ⟨fun z => (by cases z), fun z => absurd (z k (Nat.le_refl _) (by omega)) h⟩
theorem starts_cL {s1 : ST} {f : Nat → Nat} (hL : LRel (sb s1 1) f) (hf : FOk f) {c lk : Nat} {kd sh pc : Nat → Nat} (hb : BOk c lk kd sh pc) {nn : Nat} {rb rx rs : Nat → Nat} (hr : ROk c nn rb rx rs) (t00 : s1 16 0 = nI nn) (tr : ∀ j, j < 8 → s1 17 j = nI (rb j) ∧ s1 18 j = nI (rx j) ∧ s1 19 j = nI (rs j)) {i : Nat} (hi : i < 6) (k : Int64 → Int32 → ST → Option (Int64 × ST)) : ∀ n x y q (s : ST), x ≤ 64 → 64 - x < n → BRel (sb s 7) c lk kd (un sh i q) pc → (∀ p, ¬ (7 ≤ p ∧ p < 11) → s p = s1 p) → (∀ j, j < 64 → (bt y j = true ↔ j < x ∧ so f kd (un sh i j) pc rb rx rs nn 0 = 1)) → ∃ (u : ST) (z : Int64), F_X6_starts_L29 (nI i) k n y (nI x) s = k z (nI 64) u ∧ (∀ p, ¬ (7 ≤ p ∧ p < 11) → u p = s1 p) ∧ ∀ j, j < 64 → (bt z j = true ↔ so f kd (un sh i j) pc rb rx rs nn 0 = 1) := by
  intro n
  induction n with
  | zero => intro x y q s _ h; omega
  | succ n ih =>
    intro x y q s hx hn hs he hy
    rw [F_X6_starts_L29.eq_2]
    by_cases h : x = 64
    · subst h
      rw [if_pos (show (64 : Int32) ≤ nI 64 from by decide)]
      exact ⟨s, y, rfl, he, fun j hj => (hy j hj).trans ⟨fun z => z.2, fun z => ⟨hj, z⟩⟩⟩
    · have x6 : x < 64 := by omega
      obtain ⟨g1, g2, g3⟩ := hs
      have hs2 : BRel (sb (st s 9 i (nI x)) 7) c lk kd (un sh i x) pc := ⟨g1, g2, fun j hj => ⟨(g3 j hj).1, by rw [← un_un sh i q x]; exact un_at (g3 j hj).2.1 rfl, (g3 j hj).2.2⟩⟩
      have ob : BOk c lk kd (un sh i x) pc := ⟨hb.1, hb.2.1, fun j hj => ⟨(hb.2.2 j hj).1, Nat.lt_succ_of_le (un_le (B := 63) (Nat.le_of_lt_succ (hb.2.2 j hj).2.1) (by omega)), (hb.2.2 j hj).2.2⟩⟩
      have q := areSo_c (t0 := sb (st s 9 i (nI x)) 16) (t2 := sb (st s 9 i (nI x)) 1) (hL.congr (show s 2 = s1 2 from he 2 (by omega))) hf ob hs2 hr (show s 16 0 = _ from by rw [he 16 (by omega)]; exact t00) (fun j hj => ⟨show s 17 j = _ from by rw [he 17 (by omega)]; exact (tr j hj).1, show s 18 j = _ from by rw [he 18 (by omega)]; exact (tr j hj).2.1, show s 19 j = _ from by rw [he 19 (by omega)]; exact (tr j hj).2.2⟩)
      have he2 : ∀ p, ¬ (7 ≤ p ∧ p < 11) → st s 9 i (nI x) p = s1 p := fun p hp => by rw [st_ne (by omega)]; exact he p hp
      rw [if_neg (show ¬ (64 : Int32) ≤ nI x from nI_ge (b := 64) x6 (by decide)), ixN hi (by decide), bs, q, bs, nI_1]
      rcases so_01 f kd (un sh i x) pc rb rx rs nn 0 with e | e
      · rw [e, if_pos (show nI 0 = 0 from rfl)]
        refine ih (x + 1) y x _ (by omega) (by omega) hs2 he2 (fun j hj => (hy j hj).trans ⟨fun z => ⟨by omega, z.2⟩, fun z => ⟨?_, z.2⟩⟩)
        by_cases e2 : j = x
        · subst e2; have := z.2; omega
        · omega
      · rw [e, if_neg n10']
        refine ih (x + 1) _ x _ (by omega) (by omega) hs2 he2 (fun j hj => ?_)
        rw [bt_set x6 hj, Bool.or_eq_true, hy j hj, decide_eq_true_iff]
        refine ⟨fun z => ?_, fun z => ?_⟩
        · rcases z with z | z
          · exact ⟨by omega, z.2⟩
          · subst z; exact ⟨by omega, e⟩
        · by_cases e2 : j = x
          · exact Or.inr e2
          · exact Or.inl ⟨by omega, z.2⟩
theorem starts_mi {s : ST} {f : Nat → Nat} (hf : FOk f) {c lk : Nat} {kd sh pc : Nat → Nat} (hb : BOk c lk kd sh pc) {nn : Nat} {rb rx rs : Nat → Nat} (hr : ROk c nn rb rx rs) {r : Nat} (hrn : r < nn) (h6 : ∀ j, j < 6 → s 6 j = nI (sh j)) (h10 : s 10 r = nI (rb r)) (h12 : s 12 r = nI (rs r)) (h14 : ∀ j, j < 64 → s 14 j = nI (it f (gs (kd (rb r)) (pc (rb r)) * rx r) j)) {i : Nat} (hi : i < 6) (k : Int64 → Int32 → Option (Int64 × ST)) (P : Nat → Prop) : ∀ n x y, x ≤ 64 → 64 - x < n → (∀ j, j < 64 → (bt y j = true ↔ P j ∧ (j < x → holds f kd (un sh i j) pc rb rx rs r))) → ∃ z : Int64, F_X7_starts_L52 (nI i) (nI r) s k n y (nI x) = k z (nI 64) ∧ ∀ j, j < 64 → (bt z j = true ↔ P j ∧ holds f kd (un sh i j) pc rb rx rs r) := by
  have r8 : r < 8 := by have := hr.1; omega
  obtain ⟨q1, q2, q3⟩ := hr.2 r hrn
  have hc6 := hb.1
  have b6 : rb r < 6 := by omega
  intro n
  induction n with
  | zero => intro x y _ h; omega
  | succ n ih =>
    intro x y hx hn hy
    rw [F_X7_starts_L52.eq_2]
    by_cases h : x = 64
    · subst h
      rw [if_pos (show (64 : Int32) ≤ nI 64 from by decide)]
      exact ⟨y, rfl, fun j hj => (hy j hj).trans ⟨fun z => ⟨z.1, z.2 hj⟩, fun z => ⟨z.1, fun _ => z.2⟩⟩⟩
    · have x6 : x < 64 := by omega
      have key : ∀ w, w < 64 → w = un sh i x (rb r) → ∃ z : Int64, F_X7_starts_J87 (nI i) (F_X7_starts_L52 (nI i) (nI r) s k n) k y (nI r) (nI x) s (nI w) = k z (nI 64) ∧ ∀ j, j < 64 → (bt z j = true ↔ P j ∧ holds f kd (un sh i j) pc rb rx rs r) := by
        intro w hw ew
        have hit := it_lt hf (gs (kd (rb r)) (pc (rb r)) * rx r) w hw
        unfold F_X7_starts_J87
        rw [rdE hw (by decide) (h14 w hw) rfl, bs, rdE r8 (by decide) h12 rfl, bs, nI_1]
        by_cases e : it f (gs (kd (rb r)) (pc (rb r)) * rx r) w = rs r
        · have hh : holds f kd (un sh i x) pc rb rx rs r := by unfold holds; rw [← ew]; exact e
          rw [if_pos (show nI _ = nI _ from congrArg nI e)]
          refine ih (x + 1) _ (by omega) (by omega) (fun j hj => ?_)
          rw [bt_and, bt_m j hj, Bool.and_true, hy j hj]
          refine ⟨fun z => ⟨z.1, fun hl => ?_⟩, fun z => ⟨z.1, fun hl => z.2 (by omega)⟩⟩
          by_cases e2 : j = x
          · subst e2; exact hh
          · exact z.2 (by omega)
        · have hh : ¬ holds f kd (un sh i x) pc rb rx rs r := by unfold holds; rw [← ew]; exact e
          rw [if_neg (nI_ne e (by omega) (by omega))]
          refine ih (x + 1) _ (by omega) (by omega) (fun j hj => ?_)
          rw [bt_clr x6 hj, Bool.and_eq_true, hy j hj, Bool.not_eq_true', decide_eq_false_iff_not]
          refine ⟨fun z => ⟨z.1.1, fun hl => z.1.2 (by have := z.2; omega)⟩, fun z => ⟨⟨z.1, fun hl => z.2 (by omega)⟩, fun e2 => ?_⟩⟩
          subst e2
          exact hh (z.2 (by omega))
      rw [if_neg (show ¬ (64 : Int32) ≤ nI x from nI_ge (b := 64) x6 (by decide)), rdE r8 (by decide) h10 rfl, bs]
      by_cases e : rb r = i
      · rw [if_pos (show nI (rb r) = nI i from congrArg nI e)]
        exact key x x6 (by unfold un; rw [if_pos e])
      · rw [if_neg (nI_ne e (by omega) (by omega)), bs, rdE b6 (by decide) (h6 _ b6) rfl, bs]
        exact key (sh (rb r)) (hb.2.2 _ b6).2.1 (by unfold un; rw [if_neg e])
theorem starts_mL {m1 : ST} {f : Nat → Nat} (hL : ∀ j, j < 64 → m1 4 j = nI (f j)) (hf : FOk f) {c lk : Nat} {kd sh pc : Nat → Nat} (hb : BOk c lk kd sh pc) (hB : ∀ j, j < 6 → m1 5 j = nI (kd j) ∧ m1 6 j = nI (sh j) ∧ m1 7 j = nI (pc j)) {nn : Nat} {rb rx rs : Nat → Nat} (hr : ROk c nn rb rx rs) (t00 : m1 0 13 = nI nn) (tr : ∀ j, j < 8 → m1 10 j = nI (rb j) ∧ m1 11 j = nI (rx j) ∧ m1 12 j = nI (rs j)) {i : Nat} (hi : i < 6) (k : Int64 → Int32 → ST → Option (Int64 × ST)) : ∀ n r y (s : ST), r ≤ nn → nn - r < n → (∀ p, p ≠ 13 → p ≠ 14 → p ≠ 15 → s p = m1 p) → (∀ j, j < 64 → (bt y j = true ↔ ∀ q, q < r → holds f kd (un sh i j) pc rb rx rs q)) → ∃ (z : Int64) (u : ST), F_X7_starts_L17 (nI i) k n y (nI r) s = k z (nI nn) u ∧ (∀ p, p ≠ 13 → p ≠ 14 → p ≠ 15 → u p = m1 p) ∧ ∀ j, j < 64 → (bt z j = true ↔ ∀ q, q < nn → holds f kd (un sh i j) pc rb rx rs q) := by
  intro n
  induction n with
  | zero => intro r y s _ h; omega
  | succ n ih =>
    intro r y s hx hn he hy
    have n8 := hr.1
    rw [F_X7_starts_L17.eq_2, show s 0 13 = nI nn by rw [he 0 (by decide) (by decide) (by decide)]; exact t00]
    by_cases h : r = nn
    · subst h
      rw [if_pos (nI_le (Nat.le_refl _) (by omega))]
      exact ⟨y, s, rfl, he, hy⟩
    · have r8 : r < 8 := by omega
      obtain ⟨q1, q2, q3⟩ := hr.2 r (by omega)
      have hc6 := hb.1
      have b6 : rb r < 6 := by omega
      have p4 := he 4 (by decide) (by decide) (by decide)
      have p5 := he 5 (by decide) (by decide) (by decide)
      have p6 := he 6 (by decide) (by decide) (by decide)
      have p7 := he 7 (by decide) (by decide) (by decide)
      have p10 := he 10 (by decide) (by decide) (by decide)
      have p11 := he 11 (by decide) (by decide) (by decide)
      have p12 := he 12 (by decide) (by decide) (by decide)
      have gle := gs_le (kd := kd (rb r)) (hb.2.2 _ b6).2.2
      have hm2 : rx r * gs (kd (rb r)) (pc (rb r)) ≤ 99 * 8 := Nat.mul_le_mul (by omega) gle
      obtain ⟨u, u1, u2, u3⟩ := findFar_m (t := s) (f := f) (by rw [p4]; exact hL) hf (N := rx r * gs (kd (rb r)) (pc (rb r))) (by omega)
      rw [Nat.mul_comm] at u3
      rw [if_neg (nI_ge (by omega) (by omega)), rdE r8 (by decide) (show s 11 r = nI (rx r) from by rw [p11]; exact (tr r r8).2.1) rfl, bs, rdE r8 (by decide) (show s 10 r = nI (rb r) from by rw [p10]; exact (tr r r8).1) rfl, bs, goes_m b6 (show s 5 (rb r) = nI (kd (rb r)) from by rw [p5]; exact (hB _ b6).1) (show s 7 (rb r) = nI (pc (rb r)) from by rw [p7]; exact (hB _ b6).2.2) (hb.2.2 _ b6).1, bs, pk_mul, u1, bs]
      have he2 : ∀ p, p ≠ 13 → p ≠ 14 → p ≠ 15 → u p = m1 p := fun p a b c => by rw [u2 p a b c]; exact he p a b c
      obtain ⟨z, z1, z2⟩ := starts_mi (s := u) hf hb hr (r := r) (by omega) (fun j hj => by rw [he2 6 (by decide) (by decide) (by decide)]; exact (hB j hj).2.1) (by rw [he2 10 (by decide) (by decide) (by decide)]; exact (tr r r8).1) (by rw [he2 12 (by decide) (by decide) (by decide)]; exact (tr r r8).2.2) u3 hi (fun y2_k52 x5_k52 => F_X7_starts_J129 (nI i) (F_X7_starts_L17 (nI i) k n) k y2_k52 (nI r) u) (fun j => ∀ q, q < r → holds f kd (un sh i j) pc rb rx rs q) 1000 0 y (by decide) (by decide) (fun j hj => (hy j hj).trans ⟨fun a => ⟨a, fun b => absurd b (Nat.not_lt_zero j)⟩, fun a => a.1⟩)
      obtain ⟨w, v, w1, w2, w3⟩ := ih (r + 1) z u (by omega) (by omega) he2 (fun j hj => (z2 j hj).trans ⟨fun a q hq => by
        by_cases e : q = r
        · subst e; exact a.2
        · exact a.1 q (by omega), fun a => ⟨fun q hq => a q (by omega), a r (by omega)⟩⟩)
      refine ⟨w, v, z1.trans ?_, w2, w3⟩
      show F_X7_starts_J129 (nI i) (F_X7_starts_L17 (nI i) k n) k z (nI r) u = _
      unfold F_X7_starts_J129
      rw [nI_1]
      exact w1
theorem eq_starts {s1 m1 : ST} (hR : Rel s1 m1) (x1 : Int32) : ∃ (r : Int64) (s2 : ST) (m2 : ST), F_X6_starts s1 x1 = some (r, s2) ∧ F_X7_starts m1 x1 = some (r, m2) ∧ Rel s2 m2 := by
  have hR0 := hR
  obtain ⟨a, b, ok, hc, hm⟩ := hR
  have ok0 := ok
  have hc0 := hc
  have hm0 := hm
  obtain ⟨o0, o1, o2, o3, oB, oF, oR, oS⟩ := ok
  obtain ⟨⟨c1, c2, c3⟩, cw, cB, cL, ⟨cn, cR⟩, cS⟩ := hc
  obtain ⟨⟨e1, e2, e3⟩, ew, ⟨ec, elk, eB⟩, eL, ⟨en, eR⟩, eS⟩ := hm
  unfold F_X6_starts F_X7_starts
  rcases rng x1 (a 0 1) (by omega) with ⟨i, hi, rfl⟩ | h
  · have i6 : i < 6 := by omega
    have h0 : 0 < a 0 1 := by omega
    have hb : BOk (a 0 1) (a 0 2) (a 1) (a 2) (a 3) := ⟨o1, o2, oB⟩
    obtain ⟨u, u1, u2, u3⟩ := copyFrom_c (t := sb s1 7) cB
    have hu : BRel (sb (gr s1 7 4 u) 7) (a 0 1) (a 0 2) (a 1) (a 2) (a 3) := u2.congr (fun p hp => by
      show gr s1 7 4 u (7 + p) = u p
      rw [gr_eq ⟨by omega, by omega⟩, Nat.add_sub_cancel_left])
    have hu' : BRel (sb (gr s1 7 4 u) 7) (a 0 1) (a 0 2) (a 1) (un (a 2) i (a 2 i)) (a 3) := by rw [un_id]; exact hu
    obtain ⟨w, y, w1, w2, w3⟩ := starts_cL (s1 := s1) (cL h0) oF hb (nn := a 0 3) ⟨o3, oR⟩ cn cR i6 (fun y2_k29 x4_k29 s0_k29 => F_X6_starts_J78 (nI i) y2_k29 s0_k29) 1000 0 0 (a 2 i) (gr s1 7 4 u) (by decide) (by decide) hu' (fun p hp => gr_ne (by omega)) (fun j hj => by rw [bt_0 j hj]; exact ⟨fun z => (by cases z), fun z => absurd z.1 (Nat.not_lt_zero j)⟩)
    obtain ⟨y', z, z1, z2, z3⟩ := starts_mL (m1 := m1) (eL h0) oF hb eB (nn := a 0 3) ⟨o3, oR⟩ en eR i6 (fun y2_k17 x4_k17 s0_k17 => F_X7_starts_J135 (nI i) y2_k17 s0_k17) 1000 0 (-1) m1 (Nat.zero_le _) (by omega) (fun _ _ _ _ => rfl) (fun j hj => by rw [bt_m j hj]; exact ⟨fun _ q hq => absurd hq (Nat.not_lt_zero q), fun _ => rfl⟩)
    have hyy : y' = y := bt_ext (fun j hj => by
      have q1 := (w3 j hj).trans (so_all (a 4) (a 1) (un (a 2) i j) (a 3) (a 5) (a 6) (a 7) (a 0 3) 0)
      have q2 := z3 j hj
      have q3 : bt y' j = true ↔ bt y j = true := q2.trans ⟨fun h => q1.mpr (fun r _ hr => h r (by omega)), fun h r hr => q1.mp h r (Nat.zero_le _) (by omega)⟩
      cases h1 : bt y' j with
      | true => exact (q3.mp h1).symm
      | false =>
        cases h2 : bt y j with
        | false => rfl
        | true => rw [q3.mpr h2] at h1; exact h1.symm)
    subst hyy
    rw [has_y cB.1 o1 hi, blk_y ec o1 hi, bs, bs, if_neg n10, if_neg n10, u1, bs]
    exact ⟨y', w, z, w1, z1, ⟨a, b, ok0, hc0.congr (fun p hp => w2 p (by omega)), hm0.congr (fun j _ => by rw [z2 0 (by decide) (by decide) (by decide)]) (fun p hp => z2 p (by omega) (by omega) (by omega))⟩⟩
  · rw [has_n cB.1 h, blk_n ec h]
    exact ⟨0, s1, m1, rfl, rfl, hR0⟩
