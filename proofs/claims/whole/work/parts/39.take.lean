/-! garden: taking it -/
theorem lawOf_c {t : ST} {V : Nat → Int32} {N i ln d1 d2 d3 : Nat} (h2 : t 0 2 = nI ln) (hl : ln ≤ 60) (hi : i + N ≤ ln) (hv : ∀ p, p < N → t 1 (i + p) = V p) (hN : 4 ≤ N) (e1 : V 1 - 48 = nI d1) (e2 : V 2 - 48 = nI d2) (e3 : V 3 - 48 = nI d3) : F_X4_lawOf t (nI i) = some (nI (100 * d1 + 10 * d2 + d3)) := by
  unfold F_X4_lawOf
  rw [show nI i + 1 = nI (i + 1) from nI_1 i, dig_c h2 hl hi hv (by omega), bs, show nI i + 2 = nI (i + 2) from nI_add _ 2, dig_c h2 hl hi hv (by omega), bs, show nI i + 3 = nI (i + 3) from nI_add _ 3, dig_c h2 hl hi hv (by omega), bs, e1, e2, e3]
  show some ((nI 100 * nI d1 + nI 10 * nI d2) + nI d3) = _
  rw [pk_mul, pk_mul, nI_add, nI_add]
theorem take_L {b : Nat} {kd sh pc : Nat → Nat} (hb : b ≤ 6) (k : Int32 → ST → Option ST) : ∀ n j (s : ST), j ≤ b → b - j < n → s 0 3 = nI b → (∀ q, q < b → s 8 (3 * q) = nI (kd q) ∧ s 8 (3 * q + 1) = nI (sh q) ∧ s 8 (3 * q + 2) = nI (pc q)) → (∀ q, q < 6 → (q < j ∨ b ≤ q) → s 5 q = nI (kd q) ∧ s 6 q = nI (sh q) ∧ s 7 q = nI (pc q)) → ∃ u : ST, F_X7_takeGarden_L18 k n (nI j) s = k (nI b) u ∧ (∀ p, p ≠ 5 → p ≠ 6 → p ≠ 7 → u p = s p) ∧ ∀ q, q < 6 → u 5 q = nI (kd q) ∧ u 6 q = nI (sh q) ∧ u 7 q = nI (pc q) := by
  intro n
  induction n with
  | zero => intro j s _ h; omega
  | succ n ih =>
    intro j s hj hn s3 s8 hs
    rw [F_X7_takeGarden_L18.eq_2, s3]
    by_cases h : j = b
    · subst h
      rw [if_pos (nI_le (Nat.le_refl _) (by omega))]
      exact ⟨s, rfl, fun _ _ _ _ => rfl, fun q hq => hs q hq (by omega)⟩
    · have j6 : j < 6 := by omega
      obtain ⟨k1, k2, k3⟩ := s8 j (by omega)
      have t3 : (3 : Int32) * nI j = nI (3 * j) := show nI 3 * nI j = _ by rw [pk_mul]
      rw [if_neg (nI_ge (by omega) (by omega)), t3, show nI (3 * j) + 1 = nI (3 * j + 1) from nI_1 _, show nI (3 * j) + 2 = nI (3 * j + 2) from nI_add _ 2, rdE (show 3 * j < 18 by omega) (by decide) k1 rfl, bs, ixN j6 (by decide), bs, rdE (show 3 * j + 1 < 18 by omega) (by decide) k2 rfl, bs, bs, rdE (show 3 * j + 2 < 18 by omega) (by decide) k3 rfl, bs, bs, nI_1]
      obtain ⟨u, u1, u2, u3⟩ := ih (j + 1) (st (st (st s 5 j (nI (kd j))) 6 j (nI (sh j))) 7 j (nI (pc j))) (by omega) (by omega) s3 s8 (fun q hq hx => by
        rw [st_ne (by decide), st_ne (by decide), st_eq, st_ne (by decide), st_eq, st_ne (by decide), st_eq, st_ne (by decide), st_ne (by decide)]
        by_cases e : q = j
        · subst e
          rw [upd_eq, upd_eq, upd_eq]
          exact ⟨rfl, rfl, rfl⟩
        · rw [upd_ne e, upd_ne e, upd_ne e]
          exact hs q hq (by omega))
      exact ⟨u, u1, fun p h5 h6 h7 => by rw [u2 p h5 h6 h7, st_ne h7, st_ne h6, st_ne h5], u3⟩
