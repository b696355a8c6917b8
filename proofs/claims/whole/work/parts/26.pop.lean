/-! Long.bitCount by bytes -/
theorem land256 {a b c d : Nat} (hb : b < 256) (hd : d < 256) : (256 * a + b) &&& (256 * c + d) = 256 * (a &&& c) + (b &&& d) := by
  have h1 : ((256 * a + b) &&& (256 * c + d)) / 2 ^ 8 = (256 * a + b) / 2 ^ 8 &&& (256 * c + d) / 2 ^ 8 := Nat.and_div_two_pow
  have h2 : ((256 * a + b) &&& (256 * c + d)) % 2 ^ 8 = (256 * a + b) % 2 ^ 8 &&& (256 * c + d) % 2 ^ 8 := Nat.and_mod_two_pow
  rw [show (256 * a + b) / 2 ^ 8 = a by omega, show (256 * c + d) / 2 ^ 8 = c by omega] at h1
  rw [show (256 * a + b) % 2 ^ 8 = b by omega, show (256 * c + d) % 2 ^ 8 = d by omega] at h2
  omega
theorem pt1 : ∀ r, r < 256 → ∀ e, e < 2 → ((128 * e + r / 2) &&& 85) = ((r / 2) &&& 85) ∧ ((r / 2) &&& 85) ≤ r := by decide +kernel
def p1 (r : Nat) : Nat := r - ((r / 2) &&& 85)
theorem pt2 : ∀ c, c < 256 → ∀ e, e < 4 → ((64 * e + c / 4) &&& 51) = ((c / 4) &&& 51) := by decide +kernel
def p2 (c : Nat) : Nat := (c &&& 51) + ((c / 4) &&& 51)
theorem pt3 : ∀ r, r < 256 → p1 r < 256 ∧ p2 (p1 r) ≤ 68 ∧ p2 (p1 r) % 16 ≤ 4 ∧ ((p2 (p1 r) + p2 (p1 r) / 16) &&& 15) = pop r ∧ pop r ≤ 8 := by decide +kernel
theorem pt4 : ∀ d, d < 80 → ∀ e, e < 5 → ((d + d / 16 + 16 * e) &&& 15) = ((d + d / 16) &&& 15) := by decide +kernel
def mm (d : Nat) : Nat → Nat
  | 0 => 0
  | k + 1 => 256 * mm d k + d
theorem mm_s (d k : Nat) : mm d (k + 1) = 256 * mm d k + d := rfl
def w1 (k y : Nat) : Nat := y - ((y / 2) &&& mm 85 k)
def w2 (k w : Nat) : Nat := (w &&& mm 51 k) + ((w / 4) &&& mm 51 k)
def w3 (k z : Nat) : Nat := (z + z / 16) &&& mm 15 k
theorem le1 (k y : Nat) : ((y / 2) &&& mm 85 k) ≤ y := Nat.le_trans Nat.and_le_left (Nat.div_le_self _ _)
theorem w1_s {k q r : Nat} (hr : r < 256) : w1 (k + 1) (256 * q + r) = 256 * w1 k q + p1 r := by
  unfold w1 p1
  obtain ⟨t1, t2⟩ := pt1 r hr (q % 2) (by omega)
  have e : (256 * q + r) / 2 = 256 * (q / 2) + (128 * (q % 2) + r / 2) := by omega
  rw [e, mm_s, land256 (by omega) (by decide), t1]
  have := le1 k q
  omega
theorem w2_s {k w c : Nat} (hc : c < 256) : w2 (k + 1) (256 * w + c) = 256 * w2 k w + p2 c := by
  unfold w2 p2
  have t1 := pt2 c hc (w % 4) (by omega)
  have e : (256 * w + c) / 4 = 256 * (w / 4) + (64 * (w % 4) + c / 4) := by omega
  rw [e, mm_s, land256 hc (by decide), land256 (by omega) (by decide), t1]
  omega
theorem w3_s {k z d : Nat} (hd : d ≤ 68) (hz : z % 16 ≤ 4) : w3 (k + 1) (256 * z + d) = 256 * w3 k z + ((d + d / 16) &&& 15) := by
  unfold w3
  have t1 := pt4 d (by omega) (z % 16) (by omega)
  have e : 256 * z + d + (256 * z + d) / 16 = 256 * (z + z / 16) + (d + d / 16 + 16 * (z % 16)) := by omega
  rw [e, mm_s, land256 (by omega) (by decide), t1]
def tp : Nat → Nat → Nat
  | 0, _ => 0
  | k + 1, y => 256 * tp k (y / 256) + pop (y % 256)
theorem tp_s (k y : Nat) : tp (k + 1) y = 256 * tp k (y / 256) + pop (y % 256) := rfl
theorem w2_n : ∀ k y, y < 256 ^ k → w2 k (w1 k y) % 16 ≤ 4 := by
  intro k y hy
  cases k with
  | zero =>
    unfold w2
    rw [show mm 51 0 = 0 from rfl, Nat.and_zero, Nat.and_zero]
    decide
  | succ k =>
    have e : y = 256 * (y / 256) + y % 256 := by omega
    have hr : y % 256 < 256 := by omega
    obtain ⟨q1, q2, q3, q4, q5⟩ := pt3 _ hr
    rw [e, w1_s hr, w2_s q1]
    omega
theorem w_all : ∀ k y, y < 256 ^ k → w3 k (w2 k (w1 k y)) = tp k y := by
  intro k
  induction k with
  | zero =>
    intro y hy
    unfold w3
    rw [show mm 15 0 = 0 from rfl, Nat.and_zero]
    rfl
  | succ k ih =>
    intro y hy
    have e : y = 256 * (y / 256) + y % 256 := by omega
    have hr : y % 256 < 256 := by omega
    have hq : y / 256 < 256 ^ k := by rw [Nat.pow_succ] at hy; omega
    obtain ⟨q1, q2, q3, q4, q5⟩ := pt3 _ hr
    have hn := w2_n k (y / 256) hq
    have key : w3 (k + 1) (w2 (k + 1) (w1 (k + 1) (256 * (y / 256) + y % 256))) = 256 * tp k (y / 256) + pop (y % 256) := by
      rw [w1_s hr, w2_s q1, w3_s q2 hn, ih _ hq, q4]
    rw [← e] at key
    exact key
/-- sum of the bytes' counts -/
def sp : Nat → Nat → Nat
  | 0, _ => 0
  | k + 1, y => sp k (y / 256) + pop (y % 256)
theorem sp_s (k y : Nat) : sp (k + 1) y = sp k (y / 256) + pop (y % 256) := rfl
theorem pop_b (r : Nat) : pop r ≤ 8 := by unfold pop; omega
theorem fold8 {a0 a1 a2 a3 a4 a5 a6 a7 W : Nat} (h0 : a0 ≤ 8) (h1 : a1 ≤ 8) (h2 : a2 ≤ 8) (h3 : a3 ≤ 8) (h4 : a4 ≤ 8) (h5 : a5 ≤ 8) (h6 : a6 ≤ 8) (h7 : a7 ≤ 8) (hW : W = 256 * (256 * (256 * (256 * (256 * (256 * (256 * (256 * 0 + a7) + a6) + a5) + a4) + a3) + a2) + a1) + a0) : W < 2 ^ 60 ∧ W + W / 256 + (W + W / 256) / 65536 < 2 ^ 61 ∧ (W + W / 256 + (W + W / 256) / 65536 + (W + W / 256 + (W + W / 256) / 65536) / 4294967296) % 128 = a0 + a1 + a2 + a3 + a4 + a5 + a6 + a7 := by
  have e1 : W / 256 = 256 * (256 * (256 * (256 * (256 * (256 * a7 + a6) + a5) + a4) + a3) + a2) + a1 := by omega
  have e2 : (W + W / 256) / 65536 = 256 * (256 * (256 * (256 * (256 * a7 + (a6 + a7)) + (a5 + a6)) + (a4 + a5)) + (a3 + a4)) + (a2 + a3) := by omega
  have e3 : (W + W / 256 + (W + W / 256) / 65536) / 4294967296 = 256 * (256 * (256 * a7 + (a6 + a7)) + (a5 + a6 + a7)) + (a4 + a5 + a6 + a7) := by omega
  have e4 : W + W / 256 + (W + W / 256) / 65536 + (W + W / 256 + (W + W / 256) / 65536) / 4294967296 = 256 * ((256 * (256 * (256 * (256 * (256 * (256 * a7 + a6) + a5) + a4) + a3) + a2) + a1) + (256 * (256 * (256 * (256 * (256 * a7 + a6) + a5) + a4) + a3) + a2) + (256 * (256 * (256 * (256 * a7 + (a6 + a7)) + (a5 + a6)) + (a4 + a5)) + (a3 + a4)) + (256 * (256 * a7 + (a6 + a7)) + (a5 + a6 + a7))) + (a0 + a1 + a2 + a3 + a4 + a5 + a6 + a7) := by
    rw [e3, e2, e1, hW]
    clear e1 e2 e3 hW h0 h1 h2 h3 h4 h5 h6 h7
    omega
  have md : ∀ T X s : Nat, T = 256 * X + s → s < 128 → T % 128 = s := by
    intro T X s h1 h2
    omega
  refine ⟨?_, ?_, md _ _ _ e4 (by clear e1 e2 e3 e4 hW; omega)⟩
  · clear e1 e2 e3 e4
    omega
  · rw [e2, e1]
    clear e1 e2 e3 e4
    omega
