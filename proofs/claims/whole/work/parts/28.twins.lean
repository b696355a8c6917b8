/-! twins -/
theorem pb_t : ∀ b, b < 256 → ∀ e, e < 8 → b / 2 ^ e % 2 = 0 → b + 2 ^ e < 256 ∧ pop (b + 2 ^ e) = pop b + 1 := by decide +kernel
theorem lowb (N v : Nat) (hv : v < 8) : N / 2 ^ v % 2 = N % 256 / 2 ^ v % 2 := by
  rcases (show v = 0 ∨ v = 1 ∨ v = 2 ∨ v = 3 ∨ v = 4 ∨ v = 5 ∨ v = 6 ∨ v = 7 by omega) with h | h | h | h | h | h | h | h <;> subst h <;> omega
theorem sp_add : ∀ k N v, N / 2 ^ v % 2 = 0 → v < 8 * k → sp k (N + 2 ^ v) = sp k N + 1 := by
  intro k
  induction k with
  | zero => intro N v _ h; omega
  | succ k ih =>
    intro N v h hv
    rw [sp_s, sp_s]
    by_cases hv8 : v < 8
    · have hp2 := Nat.two_pow_pos v
      rw [lowb N v hv8] at h
      obtain ⟨q1, q2⟩ := pb_t (N % 256) (by omega) v hv8 h
      have e1 : (N + 2 ^ v) / 256 = N / 256 := by omega
      have e2 : (N + 2 ^ v) % 256 = N % 256 + 2 ^ v := by omega
      rw [e1, e2, q2]
      omega
    · obtain ⟨u, rfl⟩ : ∃ u, v = 8 + u := ⟨v - 8, by omega⟩
      have ep : 2 ^ (8 + u) = 256 * 2 ^ u := by rw [Nat.pow_add]
      rw [ep, ← Nat.div_div_eq_div_mul] at h
      have e1 : (N + 256 * 2 ^ u) / 256 = N / 256 + 2 ^ u := by omega
      have e2 : (N + 256 * 2 ^ u) % 256 = N % 256 := by omega
      rw [ep, e1, e2, ih (N / 256) u h (by omega)]
      omega
theorem or_bit : ∀ v x, x / 2 ^ v % 2 = 0 → x ||| 2 ^ v = x + 2 ^ v := by
  intro v
  induction v with
  | zero =>
    intro x h
    have h1 : (x ||| 2 ^ 0) / 2 = x / 2 ||| 2 ^ 0 / 2 := Nat.or_div_two
    have h2 : (x ||| 2 ^ 0) % 2 ^ 1 = x % 2 ^ 1 ||| 2 ^ 0 % 2 ^ 1 := Nat.or_mod_two_pow
    rw [show 2 ^ 0 / 2 = 0 from rfl, Nat.or_zero] at h1
    rw [show x % 2 ^ 1 = 0 by omega, Nat.zero_or] at h2
    omega
  | succ v ih =>
    intro x h
    have h1 : (x ||| 2 ^ (v + 1)) / 2 = x / 2 ||| 2 ^ (v + 1) / 2 := Nat.or_div_two
    have h2 : (x ||| 2 ^ (v + 1)) % 2 ^ 1 = x % 2 ^ 1 ||| 2 ^ (v + 1) % 2 ^ 1 := Nat.or_mod_two_pow
    have e : 2 ^ (v + 1) = 2 * 2 ^ v := by rw [Nat.pow_succ, Nat.mul_comm]
    rw [e, ← Nat.div_div_eq_div_mul] at h
    rw [e, show 2 * 2 ^ v / 2 = 2 ^ v by omega, ih (x / 2) h] at h1
    rw [e, show 2 * 2 ^ v % 2 ^ 1 = 0 by omega, Nat.or_zero] at h2
    rw [e]
    omega
theorem u_bit : ∀ v, v < 64 → U (1 <<< ((nI v).toInt64 &&& 63)) = 2 ^ v := by decide +kernel
theorem u_or (a b : Int64) : U (a ||| b) = U a ||| U b := by
  unfold U
  rw [Int64.toBitVec_or, BitVec.toNat_or]
theorem bt_U (y : Int64) (v : Nat) : bt y v = decide (U y / 2 ^ v % 2 = 1) := by
  show y.toBitVec.toNat.testBit v = _
  rw [Nat.testBit_eq_decide_div_mod_eq]
  rfl
def Twn (sh : Nat → Nat) (c : Nat) : Prop := ∃ a b, a < b ∧ b < c ∧ sh a = sh b
theorem twins_cL {t : ST} {c : Nat} {sh : Nat → Nat} (hc : c ≤ 6) (h0 : t 0 0 = nI c) (h2 : ∀ j, j < 6 → t 2 j = nI (sh j) ∧ sh j < 64) (k : Int64 → Int32 → Option Int32) : ∀ n j y, j ≤ c → c - j < n → (∀ v, v < 64 → (bt y v = true ↔ ∃ i, i < j ∧ sh i = v)) → sp 8 (U y) ≤ j → (sp 8 (U y) < j ↔ Twn sh j) → ∃ z x, F_X0_twoAreAlike_L4 t k n y (nI j) = k z x ∧ sp 8 (U z) ≤ c ∧ (sp 8 (U z) < c ↔ Twn sh c) := by
  intro n
  induction n with
  | zero => intro j y _ h; omega
  | succ n ih =>
    intro j y hj hn hy hs ht
    rw [F_X0_twoAreAlike_L4.eq_2, h0]
    by_cases h : j = c
    · subst h
      rw [if_pos (nI_le (Nat.le_refl _) (by omega))]
      exact ⟨y, _, rfl, hs, ht⟩
    · have j6 : j < 6 := by omega
      obtain ⟨g1, g2⟩ := h2 j j6
      rw [if_neg (nI_ge (by omega) (by omega)), rdE j6 (by decide) g1 rfl, bs, nI_1]
      have hy2 : ∀ v, v < 64 → (bt (y ||| (1 <<< ((nI (sh j)).toInt64 &&& 63))) v = true ↔ ∃ i, i < j + 1 ∧ sh i = v) := by
        intro v hv
        rw [bt_set g2 hv, Bool.or_eq_true, hy v hv, decide_eq_true_iff]
        refine ⟨fun z => ?_, fun ⟨i, i1, i2⟩ => ?_⟩
        · rcases z with ⟨i, i1, i2⟩ | z
          · exact ⟨i, by omega, i2⟩
          · exact ⟨j, by omega, z.symm⟩
        · by_cases e : i = j
          · subst e; exact Or.inr i2.symm
          · exact Or.inl ⟨i, by omega, i2⟩
      by_cases hb : bt y (sh j) = true
      · obtain ⟨i, i1, i2⟩ := (hy _ g2).mp hb
        have e : y ||| (1 <<< ((nI (sh j)).toInt64 &&& 63)) = y := bt_ext (fun v hv => by
          rw [bt_set g2 hv]
          by_cases e : v = sh j
          · subst e; rw [hb]; rfl
          · rw [decide_eq_false e, Bool.or_false])
        rw [e] at hy2 ⊢
        exact ih (j + 1) y (by omega) (by omega) hy2 (by omega) ⟨fun _ => ⟨i, j, i1, by omega, i2⟩, fun _ => by omega⟩
      · have hb0 : U y / 2 ^ sh j % 2 = 0 := by
          rw [bt_U, decide_eq_true_iff] at hb
          omega
        have e : sp 8 (U (y ||| (1 <<< ((nI (sh j)).toInt64 &&& 63)))) = sp 8 (U y) + 1 := by
          rw [u_or, u_bit _ g2, or_bit _ _ hb0, sp_add 8 _ _ hb0 (by omega)]
        refine ih (j + 1) _ (by omega) (by omega) hy2 (by omega) ?_
        rw [e]
        refine ⟨fun z => ?_, fun ⟨a, b, q1, q2, q3⟩ => ?_⟩
        · obtain ⟨a, b, q1, q2, q3⟩ := ht.mp (by omega)
          exact ⟨a, b, q1, by omega, q3⟩
        · by_cases eb : b = j
          · subst eb
            exact absurd ((hy _ g2).mpr ⟨a, q1, q3⟩) hb
          · have := ht.mpr ⟨a, b, q1, by omega, q3⟩
            omega
theorem twins_c {t : ST} {c : Nat} {sh : Nat → Nat} (hc : c ≤ 6) (h0 : t 0 0 = nI c) (h2 : ∀ j, j < 6 → t 2 j = nI (sh j) ∧ sh j < 64) : (Twn sh c → F_X0_twoAreAlike t = some 1) ∧ (¬ Twn sh c → F_X0_twoAreAlike t = some 0) := by
  obtain ⟨z, x, h1, h3, h4⟩ := twins_cL hc h0 h2 (fun y1_k4 x3_k4 => F_X0_twoAreAlike_J29 t y1_k4) 1000 0 0 (Nat.zero_le _) (by omega) (fun v hv => by
    rw [bt_0 v hv]
    exact ⟨fun h => (by cases h), fun ⟨i, hi, _⟩ => absurd hi (Nat.not_lt_zero i)⟩) (by decide +kernel) ⟨fun h => absurd h (Nat.not_lt_zero _), fun ⟨a, b, _, h, _⟩ => absurd h (Nat.not_lt_zero _)⟩
  have e : F_X0_twoAreAlike t = F_X0_twoAreAlike_J29 t z := by
    unfold F_X0_twoAreAlike
    exact h1
  rw [e]
  unfold F_X0_twoAreAlike_J29
  rw [bc64, bs, h0]
  refine ⟨fun tw => ?_, fun tw => ?_⟩
  · rw [if_neg (nI_ge (h4.mpr tw) (by omega))]
  · have : ¬ sp 8 (U z) < c := fun q => tw (h4.mp q)
    rw [if_pos (nI_le (by omega) (by omega))]
theorem twins_mi {t : ST} {c a : Nat} {sh : Nat → Nat} (hc : c ≤ 6) (ha : a < c) (h0 : t 0 3 = nI c) (h2 : ∀ j, j < 6 → t 6 j = nI (sh j) ∧ sh j < 64) (k : Int32 → Option Int32) : ∀ n b, b ≤ c → c - b < n → ((∃ b', b ≤ b' ∧ b' < c ∧ sh a = sh b') → F_X7_areTwins_L14 t (nI a) k n (nI b) = some 1) ∧ ((¬ ∃ b', b ≤ b' ∧ b' < c ∧ sh a = sh b') → F_X7_areTwins_L14 t (nI a) k n (nI b) = k (nI c)) := by
  intro n
  induction n with
  | zero => intro b _ h; omega
  | succ n ih =>
    intro b hb hn
    rw [F_X7_areTwins_L14.eq_2, h0]
    by_cases h : b = c
    · subst h
      rw [if_pos (nI_le (Nat.le_refl _) (by omega))]
      exact ⟨fun ⟨b', q1, q2, _⟩ => by omega, fun _ => rfl⟩
    · have b6 : b < 6 := by omega
      have a6 : a < 6 := by omega
      obtain ⟨ga, la⟩ := h2 a a6
      obtain ⟨gb, lb⟩ := h2 b b6
      rw [if_neg (nI_ge (by omega) (by omega)), rdE a6 (by decide) ga rfl, bs, rdE b6 (by decide) gb rfl, bs, nI_1]
      by_cases e : sh a = sh b
      · rw [if_pos (congrArg nI e)]
        exact ⟨fun _ => rfl, fun z => absurd ⟨b, Nat.le_refl _, by omega, e⟩ z⟩
      · rw [if_neg (nI_ne e (by omega) (by omega))]
        obtain ⟨i1, i2⟩ := ih (b + 1) (by omega) (by omega)
        refine ⟨fun ⟨b', q1, q2, q3⟩ => i1 ⟨b', ?_, q2, q3⟩, fun z => i2 (fun ⟨b', q1, q2, q3⟩ => z ⟨b', by omega, q2, q3⟩)⟩
        by_cases eb : b' = b
        · subst eb; exact absurd q3 e
        · omega
theorem twins_mL {t : ST} {c : Nat} {sh : Nat → Nat} (hc : c ≤ 6) (h0 : t 0 3 = nI c) (h2 : ∀ j, j < 6 → t 6 j = nI (sh j) ∧ sh j < 64) (k : Int32 → Option Int32) : ∀ n a, a ≤ c → c - a < n → ((∃ a' b', a ≤ a' ∧ a' < b' ∧ b' < c ∧ sh a' = sh b') → F_X7_areTwins_L2 t k n (nI a) = some 1) ∧ ((¬ ∃ a' b', a ≤ a' ∧ a' < b' ∧ b' < c ∧ sh a' = sh b') → F_X7_areTwins_L2 t k n (nI a) = k (nI c)) := by
  intro n
  induction n with
  | zero => intro a _ h; omega
  | succ n ih =>
    intro a ha hn
    rw [F_X7_areTwins_L2.eq_2, h0]
    by_cases h : a = c
    · subst h
      rw [if_pos (nI_le (Nat.le_refl _) (by omega))]
      exact ⟨fun ⟨a', b', q0, q1, q2, _⟩ => by omega, fun _ => rfl⟩
    · rw [if_neg (nI_ge (by omega) (by omega)), nI_1]
      have o1 : a + 1 ≤ c := by omega
      have o2 : c - (a + 1) < n := by omega
      have o3 : a < c := by omega
      have o4 : c - (a + 1) < 1000 := by omega
      obtain ⟨j1, j2⟩ := twins_mi (a := a) hc o3 h0 h2 (fun x2_k14 => F_X7_areTwins_J45 t (F_X7_areTwins_L2 t k n) k (nI a)) 1000 (a + 1) o1 o4
      obtain ⟨i1, i2⟩ := ih (a + 1) o1 o2
      by_cases e : ∃ b', a + 1 ≤ b' ∧ b' < c ∧ sh a = sh b'
      · refine ⟨fun _ => j1 e, fun z => ?_⟩
        obtain ⟨b', q1, q2, q3⟩ := e
        exact absurd ⟨a, b', Nat.le_refl _, q1, q2, q3⟩ z
      · rw [j2 e]
        have eJ : F_X7_areTwins_J45 t (F_X7_areTwins_L2 t k n) k (nI a) = F_X7_areTwins_L2 t k n (nI (a + 1)) := by
          unfold F_X7_areTwins_J45
          rw [nI_1]
        refine ⟨fun ⟨a', b', q0, q1, q2, q3⟩ => eJ.trans (i1 ⟨a', b', ?_, q1, q2, q3⟩), fun z => eJ.trans (i2 (fun ⟨a', b', q0, q1, q2, q3⟩ => z ⟨a', b', Nat.le_of_succ_le q0, q1, q2, q3⟩))⟩
        by_cases ea : a' = a
        · subst ea; exact absurd ⟨b', q1, q2, q3⟩ e
        · exact Nat.lt_of_le_of_ne q0 (fun z => ea z.symm)
theorem twins_m {t : ST} {c : Nat} {sh : Nat → Nat} (hc : c ≤ 6) (h0 : t 0 3 = nI c) (h2 : ∀ j, j < 6 → t 6 j = nI (sh j) ∧ sh j < 64) : (Twn sh c → F_X7_areTwins t = some 1) ∧ (¬ Twn sh c → F_X7_areTwins t = some 0) := by
  obtain ⟨i1, i2⟩ := twins_mL hc h0 h2 (fun x1_k2 => F_X7_areTwins_J51 t) 1000 0 (Nat.zero_le _) (by omega)
  unfold F_X7_areTwins
  exact ⟨fun ⟨a, b, q1, q2, q3⟩ => i1 ⟨a, b, Nat.zero_le _, q1, q2, q3⟩, fun z => i2 (fun ⟨a, b, _, q1, q2, q3⟩ => z ⟨a, b, q1, q2, q3⟩)⟩
