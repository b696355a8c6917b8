/-! how fast, and where to -/
theorem n10' : ¬ nI 1 = 0 := by decide
theorem n10 : ¬ (1 : Int32) = 0 := by decide
theorem h60 (k i : Nat) : (60 : Int32) * nI k + nI i = nI (60 * k + i) := show nI 60 * nI k + nI i = _ by rw [pk_mul, nI_add]
theorem h64 (g x : Nat) : nI g * 64 + nI x = nI (64 * g + x) := show nI g * nI 64 + nI x = _ by rw [pk_mul, nI_add, Nat.mul_comm]
theorem nI_ne {a b : Nat} (h : a ≠ b) (ha : a < 2 ^ 31) (hb : b < 2 ^ 31) : ¬ nI a = nI b := fun z => h ((nI_eq ha hb).mp z)
def gs (kd pc : Nat) : Nat := if kd = 1 then pc + 1 else if kd = 2 then 2 * pc else pc
theorem gs_le {kd pc : Nat} (h : pc ≤ 4) : gs kd pc ≤ 8 := by
  unfold gs
  by_cases h1 : kd = 1
  · rw [if_pos h1]; omega
  · rw [if_neg h1]
    by_cases h2 : kd = 2
    · rw [if_pos h2]; omega
    · rw [if_neg h2]; omega
theorem goes_c {t : ST} {j kd pc : Nat} (hj : j < 6) (h1 : t 1 j = nI kd) (h3 : t 3 j = nI pc) (hk : kd < 3) : F_X0_stepsADay t (nI j) = some (nI (gs kd pc)) := by
  unfold F_X0_stepsADay
  rw [rdE hj (by decide) h1 rfl, bs]
  have r3 : rd 6 (t 3) (nI j) = some (nI pc) := rdE hj (by decide) h3 rfl
  rcases (show kd = 0 ∨ kd = 1 ∨ kd = 2 by omega) with rfl | rfl | rfl
  · rw [if_neg (by decide), if_neg (by decide), r3]; rfl
  · rw [if_pos (by decide), r3, bs]
    show some (nI pc + 1) = _
    rw [nI_1]; rfl
  · rw [if_neg (by decide), if_pos (by decide), r3, bs]
    show some (nI 2 * nI pc) = _
    rw [pk_mul]; rfl
theorem goes_m {t : ST} {j kd pc : Nat} (hj : j < 6) (h1 : t 5 j = nI kd) (h3 : t 7 j = nI pc) (hk : kd < 3) : F_X7_goesOf t (nI j) = some (nI (gs kd pc)) := by
  unfold F_X7_goesOf
  have r1 : rd 6 (t 5) (nI j) = some (nI kd) := rdE hj (by decide) h1 rfl
  have r3 : rd 6 (t 7) (nI j) = some (nI pc) := rdE hj (by decide) h3 rfl
  rw [r1, bs]
  rcases (show kd = 0 ∨ kd = 1 ∨ kd = 2 by omega) with rfl | rfl | rfl
  · rw [if_pos (by decide), r3]; rfl
  · rw [if_neg (by decide), bs, if_pos (by decide), r3, bs]
    show some (nI pc + 1) = _
    rw [nI_1]; rfl
  · rw [if_neg (by decide), bs, if_neg (by decide), r3, bs]
    show some (nI 2 * nI pc) = _
    rw [pk_mul]; rfl
theorem after_c {t : ST} {f : Nat → Nat} (hL : LRel t f) {x g : Nat} (hx : x < 64) (hg : g ≤ 8) : F_X1_after t (nI x) (nI g) = some (nI (it f g x)) := by
  unfold F_X1_after
  rw [(shp_y hx).1, bs, if_neg (by decide), if_neg (nI_pos (by omega)), if_pos (show nI g ≤ 8 from nI_le (b := 8) hg (by decide))]
  rw [rdE (k := 64 * g + x) (by omega) (by decide) (hL g hg x hx) (h64 g x)]
  rfl
theorem behind_L {t : ST} {f : Nat → Nat} (hL : LRel t f) (hf : FOk f) {g : Nat} (hg : g ≤ 8) (x1 : Int32) (N : Nat) (hN : N < 2 ^ 31) (k : Int32 → Int32 → Option Int32) : ∀ n i x, i ≤ N → N - i < n → x < 64 → F_X1_behind_L6 t x1 (nI g) (nI N) k n (nI x) (nI i) = k (nI (it (it f g) (N - i) x)) (nI N) := by
  intro n
  induction n with
  | zero => intro i x _ h; omega
  | succ n ih =>
    intro i x hi hn hx
    rw [F_X1_behind_L6.eq_2]
    by_cases h : i = N
    · subst h
      rw [if_pos (nI_le (Nat.le_refl _) hN), Nat.sub_self]; rfl
    · rw [if_neg (nI_ge (by omega) hN), after_c hL hx hg, bs, nI_1, ih (i + 1) (it f g x) (by omega) (by omega) (it_lt hf g x hx)]
      rw [show N - i = (N - (i + 1)) + 1 by omega]; rfl
theorem behind_c {t : ST} {f : Nat → Nat} (hL : LRel t f) (hf : FOk f) {x g n : Nat} (hx : x < 64) (hg : g ≤ 8) (hn : n < 1000) : F_X1_behind t (nI x) (nI g) (nI n) = some (nI (it f (g * n) x)) := by
  unfold F_X1_behind
  refine (behind_L hL hf hg _ n (by omega) _ 1000 0 x (Nat.zero_le _) (by omega) hx).trans ?_
  show some _ = _
  rw [it_mul, Nat.sub_zero]
theorem stepsOn_L {t : ST} {f : Nat → Nat} (hL : ∀ j, j < 64 → t 4 j = nI (f j)) (hf : FOk f) (x1 : Int32) (N : Nat) (hN : N < 2 ^ 31) (k : Int32 → Int32 → Option Int32) : ∀ n i x, i ≤ N → N - i < n → x < 64 → F_X7_stepsOn_L5 t x1 (nI N) k n (nI x) (nI i) = k (nI (it f (N - i) x)) (nI N) := by
  intro n
  induction n with
  | zero => intro i x _ h; omega
  | succ n ih =>
    intro i x hi hn hx
    rw [F_X7_stepsOn_L5.eq_2]
    by_cases h : i = N
    · subst h
      rw [if_pos (nI_le (Nat.le_refl _) hN), Nat.sub_self]; rfl
    · rw [if_neg (nI_ge (by omega) hN), rdE hx (by decide) (hL x hx) rfl, bs, nI_1, ih (i + 1) (f x) (by omega) (by omega) (hf x hx)]
      rw [show N - i = (N - (i + 1)) + 1 by omega]; rfl
theorem stepsOn_m {t : ST} {f : Nat → Nat} (hL : ∀ j, j < 64 → t 4 j = nI (f j)) (hf : FOk f) {x n : Nat} (hx : x < 64) (hn : n < 1000) : F_X7_stepsOn t (nI x) (nI n) = some (nI (it f n x)) := by
  unfold F_X7_stepsOn
  exact stepsOn_L hL hf _ n (by omega) _ 1000 0 x (Nat.zero_le _) (by omega) hx
/-- behind how many days: g is a day -/
def dt (g : Nat → Nat) (v : Nat) : Nat → Nat → Nat → Option Nat
  | 0, _, _ => none
  | m + 1, d, x => if x = v then some d else dt g v m (d + 1) (g x)
def ow (o : Option Nat) : Int32 := match o with
  | none => -9
  | some d => nI d
theorem dt_lt (g : Nat → Nat) (v : Nat) : ∀ m d x r, dt g v m d x = some r → r < d + m := by
  intro m
  induction m with
  | zero => intro d x r h; cases h
  | succ m ih =>
    intro d x r h
    unfold dt at h
    by_cases hx : x = v
    · rw [if_pos hx] at h
      have := Option.some.inj h
      omega
    · rw [if_neg hx] at h
      have := ih _ _ _ h
      omega
theorem ow_ne {o : Option Nat} (h : ∀ r, o = some r → r < 2 ^ 31) : ow o = -9 ↔ o = none := by
  cases o with
  | none => exact ⟨fun _ => rfl, fun _ => rfl⟩
  | some r =>
    refine ⟨fun z => ?_, fun z => by cases z⟩
    have hr := h r rfl
    have h1 : (nI r).toInt = (-9 : Int32).toInt := congrArg Int32.toInt (show nI r = -9 from z)
    rw [nI_toInt hr] at h1
    have h2 : (-9 : Int32).toInt = -9 := rfl
    omega
theorem daysTo_L {t : ST} {f : Nat → Nat} (hL : LRel t f) (hf : FOk f) {g v : Nat} (hg : g ≤ 8) (hv : v < 64) (x1 : Int32) (k : Int32 → Int32 → Option Int32) (hk : ∀ a b, k a b = some (-9)) : ∀ n d x, d ≤ 64 → 64 - d < n → x < 64 → F_X1_daysTo_L6 t x1 (nI g) (nI v) k n (nI x) (nI d) = some (ow (dt (it f g) v (64 - d) d x)) := by
  intro n
  induction n with
  | zero => intro d x _ h; omega
  | succ n ih =>
    intro d x hd hn hx
    rw [F_X1_daysTo_L6.eq_2]
    by_cases h : d = 64
    · subst h
      rw [if_pos (show (64 : Int32) ≤ nI 64 from nI_le (a := 64) (Nat.le_refl _) (by decide)), hk]; rfl
    · rw [if_neg (show ¬ (64 : Int32) ≤ nI d from nI_ge (b := 64) (by omega) (by decide)), show 64 - d = (64 - (d + 1)) + 1 by omega]
      unfold dt
      by_cases hxv : x = v
      · subst hxv
        rw [if_pos rfl, if_pos rfl]; rfl
      · rw [if_neg (nI_ne hxv (by omega) (by omega)), if_neg hxv, after_c hL hx hg, bs, nI_1]
        exact ih (d + 1) (it f g x) (by omega) (by omega) (it_lt hf g x hx)
theorem daysTo_c {t : ST} {f : Nat → Nat} (hL : LRel t f) (hf : FOk f) {x g v : Nat} (hx : x < 64) (hg : g ≤ 8) (hv : v < 64) : F_X1_daysTo t (nI x) (nI g) (nI v) = some (ow (dt (it f g) v 64 0 x)) := by
  unfold F_X1_daysTo
  exact daysTo_L hL hf hg hv _ _ (fun _ _ => rfl) 1000 0 x (by decide) (by decide) hx
theorem comesFrom_L {t : ST} {f : Nat → Nat} (hL : ∀ j, j < 64 → t 4 j = nI (f j)) (hf : FOk f) {g v : Nat} (hg : g ≤ 8) (hv : v < 64) (x1 : Int32) (k : Int32 → Int32 → Option Int32) (hk : ∀ a b, k a b = some (-9)) : ∀ n d x, d ≤ 64 → 64 - d < n → x < 64 → F_X7_comesFrom_L6 t x1 (nI g) (nI v) k n (nI x) (nI d) = some (ow (dt (it f g) v (64 - d) d x)) := by
  intro n
  induction n with
  | zero => intro d x _ h; omega
  | succ n ih =>
    intro d x hd hn hx
    rw [F_X7_comesFrom_L6.eq_2]
    by_cases h : d = 64
    · subst h
      rw [if_pos (show (64 : Int32) ≤ nI 64 from nI_le (a := 64) (Nat.le_refl _) (by decide)), hk]; rfl
    · rw [if_neg (show ¬ (64 : Int32) ≤ nI d from nI_ge (b := 64) (by omega) (by decide)), show 64 - d = (64 - (d + 1)) + 1 by omega]
      unfold dt
      by_cases hxv : x = v
      · subst hxv
        rw [if_pos rfl, if_pos rfl]; rfl
      · rw [if_neg (nI_ne hxv (by omega) (by omega)), if_neg hxv, stepsOn_m hL hf hx (by omega), bs, nI_1]
        exact ih (d + 1) (it f g x) (by omega) (by omega) (it_lt hf g x hx)
theorem comesFrom_m {t : ST} {f : Nat → Nat} (hL : ∀ j, j < 64 → t 4 j = nI (f j)) (hf : FOk f) {x g v : Nat} (hx : x < 64) (hg : g ≤ 8) (hv : v < 64) : F_X7_comesFrom t (nI x) (nI g) (nI v) = some (ow (dt (it f g) v 64 0 x)) := by
  unfold F_X7_comesFrom
  exact comesFrom_L hL hf hg hv _ _ (fun _ _ => rfl) 1000 0 x (by decide) (by decide) hx
/-! small tables, by program -/
def pop (x : Nat) : Nat := x % 2 + x / 2 % 2 + x / 4 % 2 + x / 8 % 2 + x / 16 % 2 + x / 32 % 2 + x / 64 % 2 + x / 128 % 2
theorem bc_c : ∀ x, x < 256 → F_J6_bitCount_0f7a4 (nI x) = some (nI (pop x)) := by decide +kernel
theorem size_L (x0 : Int32) (k : Int32 → Int32 → Option Int32) (n x : Nat) (hx : 0 < x) (h : x < 256) (a : Int32) : F_X7_size_L4 x0 k (n + 1) a (nI x) = F_X7_size_L4 x0 k n (a + nI (x % 2)) (nI (x / 2)) := by
  have t1 : ∀ y, y < 256 → (nI y &&& 1) = nI (y % 2) ∧ (nI y >>> ((1 : Int32) &&& 31)) = nI (y / 2) := by decide +kernel
  rw [F_X7_size_L4.eq_2, if_neg (nI_nle hx (by omega)), (t1 x h).1, (t1 x h).2]
theorem size_m : ∀ x, x < 256 → F_X7_size (nI x) = some (nI (pop x)) := by
  have key : ∀ (m x : Nat) (n : Nat) (a : Nat) (x0 : Int32), x < 2 ^ m → x < 256 → m < n → F_X7_size_L4 x0 (fun x1 _ => some x1) n (nI a) (nI x) = some (nI (a + pop x)) := by
    intro m
    induction m with
    | zero =>
      intro x n a x0 h _ hn
      have : x = 0 := by omega
      subst this
      cases n with
      | zero => omega
      | succ n => rw [F_X7_size_L4.eq_2, if_pos (by decide)]; rfl
    | succ m ih =>
      intro x n a x0 h h2 hn
      cases n with
      | zero => omega
      | succ n =>
        by_cases h0 : x = 0
        · subst h0
          rw [F_X7_size_L4.eq_2, if_pos (by decide)]; rfl
        · rw [size_L x0 _ n x (by omega) h2, nI_add, ih (x / 2) n (a + x % 2) x0 (by rw [Nat.pow_succ] at h; omega) (by omega) (by omega)]
          unfold pop
          congr 2
          omega
  intro x hx
  unfold F_X7_size
  have := key 8 x 1000 0 (nI x) (by omega) hx (by decide)
  rw [Nat.zero_add] at this
  exact this
/-- looking: a set of six, one of them -/
def lkd (lk j : Nat) : Nat := lk / 2 ^ j % 2
theorem lk_t : ∀ lk, lk < 64 → ∀ j, j < 6 → ((nI lk >>> (nI j &&& 31)) &&& 1) = nI (lkd lk j) ∧ (nI lk ||| (1 <<< (nI j &&& 31))) = nI (lk ||| 2 ^ j) ∧ (nI lk &&& ((1 <<< (nI j &&& 31)) ^^^ (-1))) = nI (lk - lk / 2 ^ j % 2 * 2 ^ j) ∧ (nI lk ^^^ (1 <<< (nI j &&& 31))) = nI (lk ^^^ 2 ^ j) := by decide +kernel
theorem lk_b : ∀ lk, lk < 64 → ∀ j, j < 6 → (lk ||| 2 ^ j) < 64 ∧ (lk - lk / 2 ^ j % 2 * 2 ^ j) < 64 ∧ (lk ^^^ 2 ^ j) < 64 ∧ (lkd lk j = 1 → (lk ||| 2 ^ j) = lk ∧ (lk ^^^ 2 ^ j) = lk - lk / 2 ^ j % 2 * 2 ^ j) ∧ (lkd lk j = 0 → lk - lk / 2 ^ j % 2 * 2 ^ j = lk ∧ (lk ^^^ 2 ^ j) = (lk ||| 2 ^ j)) := by decide +kernel
theorem lkd_01 (lk j : Nat) : lkd lk j = 0 ∨ lkd lk j = 1 := by unfold lkd; omega
theorem isLk_c {t : ST} {lk j : Nat} (h : t 0 2 = nI lk) (hl : lk < 64) (hj : j < 6) : F_X0_isLookedAt t (nI j) = some (nI (lkd lk j)) := by
  unfold F_X0_isLookedAt
  rw [h, (lk_t lk hl j hj).1]
  rcases lkd_01 lk j with e | e
  · rw [e, if_neg (by decide)]; rfl
  · rw [e, if_pos (by decide)]; rfl
theorem isOf_m {lk j : Nat} (hl : lk < 64) (hj : j < 6) : F_X7_isOf (nI lk) (nI j) = some (nI (lkd lk j)) := by
  unfold F_X7_isOf
  rw [(lk_t lk hl j hj).1]
  rcases lkd_01 lk j with e | e
  · rw [e, if_neg (by decide)]; rfl
  · rw [e, if_pos (by decide)]; rfl
