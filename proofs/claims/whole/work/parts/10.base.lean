/-! numbers, iterates, reads -/
theorem bs {α β : Type} (a : α) (f : α → Option β) : (some a).bind f = f a := rfl
theorem b2s {α β γ : Type} (a : α) (b : β) (f : α → β → Option γ) : b2 (some (a, b)) f = f a b := rfl
def it (f : Nat → Nat) : Nat → Nat → Nat
  | 0, x => x
  | n + 1, x => it f n (f x)
theorem it_f (f : Nat → Nat) : ∀ n x, it f n (f x) = f (it f n x)
  | 0, _ => rfl
  | n + 1, x => it_f f n (f x)
theorem it_s (f : Nat → Nat) (n x : Nat) : it f (n + 1) x = f (it f n x) := it_f f n x
theorem it_add (f : Nat → Nat) : ∀ m n x, it f (m + n) x = it f n (it f m x)
  | 0, n, x => by rw [Nat.zero_add]; rfl
  | m + 1, n, x => by
    rw [show m + 1 + n = (m + n) + 1 by omega]
    exact it_add f m n (f x)
theorem it_mul (f : Nat → Nat) (g : Nat) : ∀ n x, it (it f g) n x = it f (g * n) x
  | 0, x => rfl
  | n + 1, x => by
    show it (it f g) n (it f g x) = _
    rw [it_mul f g n, ← it_add, Nat.mul_succ, Nat.add_comm]
def FOk (f : Nat → Nat) : Prop := ∀ j, j < 64 → f j < 64
theorem it_lt {f : Nat → Nat} (hf : FOk f) : ∀ n x, x < 64 → it f n x < 64
  | 0, _, h => h
  | n + 1, x, h => it_lt hf n (f x) (hf x h)
theorem it_ok {f : Nat → Nat} (hf : FOk f) (g : Nat) : FOk (it f g) := fun j hj => it_lt hf g j hj
theorem rdN {n k : Nat} {f : Nat → Int32} (h : k < n) (hn : n < 2 ^ 31) : rd n f (nI k) = some (f k) := by
  unfold rd
  rw [if_neg (nI_in h hn), nI_clamp (Nat.lt_trans h hn)]
theorem rdE {n k : Nat} {f : Nat → Int32} {v x : Int32} (h : k < n) (hn : n < 2 ^ 31) (hv : f k = v) (hx : x = nI k) : rd n f x = some v := by
  rw [hx, rdN h hn, hv]
theorem ixN {n k : Nat} (h : k < n) (hn : n < 2 ^ 31) : ix n (nI k) = some k := by
  unfold ix
  rw [if_neg (nI_in h hn), nI_clamp (Nat.lt_trans h hn)]
theorem ixE {n k : Nat} {x : Int32} (h : k < n) (hn : n < 2 ^ 31) (hx : x = nI k) : ix n x = some k := by rw [hx, ixN h hn]
/-- a number in a range, or not -/
theorem rng (x : Int32) (n : Nat) (hn : n < 2 ^ 31) : (∃ j, j < n ∧ x = nI j) ∨ x < 0 ∨ (¬ x < 0 ∧ nI n ≤ x) := by
  rcases pk_ix x hn with h | h | h
  · exact Or.inr (Or.inl h)
  · refine Or.inr (Or.inr ⟨fun z => ?_, h⟩)
    have h1 := Int32.lt_iff_toInt_lt.mp z
    have h2 := Int32.le_iff_toInt_le.mp h
    rw [nI_toInt hn] at h2
    have h3 : (0 : Int32).toInt = 0 := rfl
    omega
  · exact Or.inl h
theorem has_y {t : ST} {c j : Nat} (hc : t 0 0 = nI c) (h6 : c ≤ 6) (hj : j < c) : F_X0_has t (nI j) = some 1 := by
  unfold F_X0_has
  rw [if_neg (nI_pos (by omega)), hc, if_neg (nI_ge hj (by omega))]
theorem has_n {t : ST} {c : Nat} {x : Int32} (hc : t 0 0 = nI c) (h : x < 0 ∨ (¬ x < 0 ∧ nI c ≤ x)) : F_X0_has t x = some 0 := by
  unfold F_X0_has
  rcases h with h | ⟨h1, h2⟩
  · rw [if_pos h]
  · rw [if_neg h1, hc, if_pos h2]
theorem blk_y {t : ST} {c j : Nat} (hc : t 0 3 = nI c) (h6 : c ≤ 6) (hj : j < c) : F_X7_isBlock t (nI j) = some 1 := by
  unfold F_X7_isBlock
  rw [if_neg (nI_pos (by omega)), hc, if_neg (nI_ge hj (by omega))]
theorem blk_n {t : ST} {c : Nat} {x : Int32} (hc : t 0 3 = nI c) (h : x < 0 ∨ (¬ x < 0 ∧ nI c ≤ x)) : F_X7_isBlock t x = some 0 := by
  unfold F_X7_isBlock
  rcases h with h | ⟨h1, h2⟩
  · rw [if_pos h]
  · rw [if_neg h1, hc, if_pos h2]
theorem win_y {x : Int32} {a b j : Nat} (hx : x = nI j) (ha : a ≤ j) (hb : j ≤ b) (hb2 : b < 2 ^ 31) {lo hi : Int32} (hlo : lo = nI a) (hhi : hi = nI b) : F_X7_within x lo hi = some 1 := by
  unfold F_X7_within
  subst hx; subst hlo; subst hhi
  rw [if_neg (nI_nlt ha (by omega)), if_neg (nI_nlt hb (by omega))]
theorem win_n {x : Int32} {n : Nat} {hi : Int32} (hn : n < 2 ^ 31) (h0 : 0 < n) (hhi : hi = nI (n - 1)) (h : x < 0 ∨ (¬ x < 0 ∧ nI n ≤ x)) : F_X7_within x 0 hi = some 0 := by
  unfold F_X7_within
  rcases h with h | ⟨h1, h2⟩
  · rw [if_pos h]
  · rw [if_neg h1, hhi, if_pos]
    have h3 := Int32.le_iff_toInt_le.mp h2
    rw [nI_toInt hn] at h3
    refine Int32.lt_iff_toInt_lt.mpr ?_
    rw [nI_toInt (by omega)]
    omega
theorem shp_y {j : Nat} (h : j < 64) : F_X6_isShape (nI j) = some 1 ∧ F_X7_isShape (nI j) = some 1 := by
  constructor
  · unfold F_X6_isShape
    rw [if_neg (nI_pos (by omega)), if_neg (show ¬ (64 : Int32) ≤ nI j from nI_ge (b := 64) h (by decide))]
  · unfold F_X7_isShape
    rw [win_y (j := j) (lo := 0) (hi := 63) (a := 0) (b := 63) rfl (by omega) (by omega) (by decide) rfl rfl]; rfl
theorem shp_n {x : Int32} (h : x < 0 ∨ (¬ x < 0 ∧ nI 64 ≤ x)) : F_X6_isShape x = some 0 ∧ F_X7_isShape x = some 0 := by
  constructor
  · unfold F_X6_isShape
    rcases h with h | ⟨h1, h2⟩
    · rw [if_pos h]
    · rw [if_neg h1, if_pos (show (64 : Int32) ≤ x from h2)]
  · unfold F_X7_isShape
    rw [win_n (hi := 63) (n := 64) (by decide) (by decide) rfl h]; rfl
theorem sht_y {j : Nat} (h : j < 4) : F_X6_isSheet (nI j) = some 1 ∧ F_X7_isSheet (nI j) = some 1 := by
  constructor
  · unfold F_X6_isSheet
    rw [if_neg (nI_pos (by omega)), if_neg (show ¬ (4 : Int32) ≤ nI j from nI_ge (b := 4) h (by decide))]
  · unfold F_X7_isSheet
    rw [win_y (j := j) (lo := 0) (hi := 3) (a := 0) (b := 3) rfl (by omega) (by omega) (by decide) rfl rfl]; rfl
theorem sht_n {x : Int32} (h : x < 0 ∨ (¬ x < 0 ∧ nI 4 ≤ x)) : F_X6_isSheet x = some 0 ∧ F_X7_isSheet x = some 0 := by
  constructor
  · unfold F_X6_isSheet
    rcases h with h | ⟨h1, h2⟩
    · rw [if_pos h]
    · rw [if_neg h1, if_pos (show (4 : Int32) ≤ x from h2)]
  · unfold F_X7_isSheet
    rw [win_n (hi := 3) (n := 4) (by decide) (by decide) rfl h]; rfl
theorem lan_y {j : Nat} (h : j < 3) : F_X6_isLane (nI j) = some 1 ∧ F_X7_isSort (nI j) = some 1 := by
  constructor
  · unfold F_X6_isLane
    rw [if_neg (nI_pos (by omega)), if_neg (show ¬ (3 : Int32) ≤ nI j from nI_ge (b := 3) h (by decide))]
  · unfold F_X7_isSort
    rw [win_y (j := j) (lo := 0) (hi := 2) (a := 0) (b := 2) rfl (by omega) (by omega) (by decide) rfl rfl]; rfl
theorem lan_n {x : Int32} (h : x < 0 ∨ (¬ x < 0 ∧ nI 3 ≤ x)) : F_X6_isLane x = some 0 ∧ F_X7_isSort x = some 0 := by
  constructor
  · unfold F_X6_isLane
    rcases h with h | ⟨h1, h2⟩
    · rw [if_pos h]
    · rw [if_neg h1, if_pos (show (3 : Int32) ≤ x from h2)]
  · unfold F_X7_isSort
    rw [win_n (hi := 2) (n := 3) (by decide) (by decide) rfl h]; rfl
/-! what the states are -/
abbrev AS : Type := Nat → Nat → Nat
def sn (a : AS) (i j x : Nat) : AS := fun p => if p = i then (fun q => if q = j then x else a i q) else a p
def BRel (t : ST) (c lk : Nat) (kd sh pc : Nat → Nat) : Prop := t 0 0 = nI c ∧ t 0 2 = nI lk ∧ ∀ j, j < 6 → t 1 j = nI (kd j) ∧ t 2 j = nI (sh j) ∧ t 3 j = nI (pc j)
def LRel (t : ST) (f : Nat → Nat) : Prop := ∀ n, n ≤ 8 → ∀ j, j < 64 → t 1 (64 * n + j) = nI (it f n j)
def SRel (t : ST) (so ln : Nat) (ce : Nat → Int32) : Prop := t 0 0 = (if so = 0 then 0 else 1) ∧ (so ≠ 0 → t 0 1 = nI (so - 1) ∧ t 0 2 = nI ln) ∧ ∀ j, j < 60 → t 1 j = ce j
def AOk (a : AS) : Prop := a 0 0 < 256 ∧ a 0 1 ≤ 6 ∧ a 0 2 < 64 ∧ a 0 3 ≤ 8 ∧ (∀ j, j < 6 → a 1 j < 3 ∧ a 2 j < 64 ∧ a 3 j ≤ 4) ∧ FOk (a 4) ∧ (∀ j, j < a 0 3 → a 5 j < a 0 1 ∧ a 6 j ≤ 99 ∧ a 7 j < 64) ∧ ∀ k, k < 4 → a 8 k ≤ 3 ∧ a 9 k ≤ 60
def CRel (s : ST) (a : AS) (b : ST) : Prop := (s 0 0 = b 0 0 ∧ s 0 1 = b 0 1 ∧ s 3 1 = b 0 2) ∧ s 1 0 = nI (a 0 0) ∧ BRel (sb s 3) (a 0 1) (a 0 2) (a 1) (a 2) (a 3) ∧ (0 < a 0 1 → LRel (sb s 1) (a 4)) ∧ (s 16 0 = nI (a 0 3) ∧ ∀ j, j < 8 → s 17 j = nI (a 5 j) ∧ s 18 j = nI (a 6 j) ∧ s 19 j = nI (a 7 j)) ∧ ∀ k, k < 4 → SRel (sb s (20 + 2 * k)) (a 8 k) (a 9 k) (b (1 + k))
def MRel (m : ST) (a : AS) (b : ST) : Prop := (m 0 1 = b 0 0 ∧ m 0 0 = b 0 1 ∧ m 0 4 = b 0 2) ∧ m 0 2 = nI (a 0 0) ∧ (m 0 3 = nI (a 0 1) ∧ m 0 5 = nI (a 0 2) ∧ ∀ j, j < 6 → m 5 j = nI (a 1 j) ∧ m 6 j = nI (a 2 j) ∧ m 7 j = nI (a 3 j)) ∧ (0 < a 0 1 → ∀ j, j < 64 → m 4 j = nI (a 4 j)) ∧ (m 0 13 = nI (a 0 3) ∧ ∀ j, j < 8 → m 10 j = nI (a 5 j) ∧ m 11 j = nI (a 6 j) ∧ m 12 j = nI (a 7 j)) ∧ ∀ k, k < 4 → m 1 k = (if a 8 k = 0 then -9 else nI (a 8 k - 1)) ∧ (a 8 k ≠ 0 → m 2 k = nI (a 9 k)) ∧ ∀ j, j < 60 → m 3 (60 * k + j) = b (1 + k) j
def Rel (s m : ST) : Prop := ∃ (a : AS) (b : ST), AOk a ∧ CRel s a b ∧ MRel m a b
theorem Rel.start : Rel z0 zM := by
  refine ⟨fun _ _ => 0, fun _ _ => 0, ⟨by decide, by decide, by decide, by decide, fun j _ => ⟨Nat.zero_lt_succ _, Nat.zero_lt_succ _, Nat.zero_le _⟩, fun j _ => Nat.zero_lt_succ _, fun j h => absurd h (Nat.not_lt_zero j), fun k _ => ⟨Nat.zero_le _, Nat.zero_le _⟩⟩, ?_, ?_⟩
  · refine ⟨⟨rfl, rfl, rfl⟩, rfl, ⟨rfl, rfl, fun j _ => ⟨rfl, rfl, rfl⟩⟩, fun h => absurd h (Nat.lt_irrefl 0), ⟨rfl, fun j _ => ⟨rfl, rfl, rfl⟩⟩, fun k _ => ⟨rfl, fun h => absurd rfl h, fun j _ => rfl⟩⟩
  · refine ⟨⟨rfl, rfl, rfl⟩, rfl, ⟨rfl, rfl, fun j _ => ⟨rfl, rfl, rfl⟩⟩, fun h => absurd h (Nat.lt_irrefl 0), ⟨rfl, fun j _ => ⟨rfl, rfl, rfl⟩⟩, fun k hk => ⟨?_, fun h => absurd rfl h, fun j _ => rfl⟩⟩
    rcases lt4 hk with rfl | rfl | rfl | rfl <;> rfl
