/-! what it will be -/
theorem eq_comes {s1 m1 : ST} (hR : Rel s1 m1) (x1 x2 : Int32) : ∃ (r : Int32), F_X6_comes s1 x1 x2 = some r ∧ F_X7_comes m1 x1 x2 = some r := by
  obtain ⟨a, b, ⟨o0, o1, o2, o3, oB, oF, oR, oS⟩, ⟨⟨c1, c2, c3⟩, cw, ⟨cc, clk, cB⟩, cL, ⟨cn, cR⟩, cS⟩, ⟨⟨e1, e2, e3⟩, ew, ⟨ec, elk, eB⟩, eL, ⟨en, eR⟩, eS⟩⟩ := hR
  unfold F_X6_comes F_X7_comes
  rcases rng x1 (a 0 1) (by omega) with ⟨j, hj, rfl⟩ | h
  · have h6 : j < 6 := by omega
    have h0 : 0 < a 0 1 := by omega
    rw [has_y cc o1 hj, blk_y ec o1 hj, bs, bs, if_neg n10, if_neg n10]
    rcases rng x2 64 (by decide) with ⟨v, hv, rfl⟩ | h2
    · have r5 : rd 6 (s1 5) (nI j) = some (nI (a 2 j)) := rdE h6 (by decide) (cB j h6).2.1 rfl
      have q6 : rd 6 (m1 6) (nI j) = some (nI (a 2 j)) := rdE h6 (by decide) (eB j h6).2.1 rfl
      rw [(shp_y hv).1, (shp_y hv).2, bs, bs, if_neg n10, if_neg n10, r5, q6, bs, bs, goes_c h6 (cB j h6).1 (cB j h6).2.2 (oB j h6).1, goes_m h6 (eB j h6).1 (eB j h6).2.2 (oB j h6).1, bs, bs, daysTo_c (cL h0) oF (oB j h6).2.1 (gs_le (oB j h6).2.2) hv, comesFrom_m (eL h0) oF (oB j h6).2.1 (gs_le (oB j h6).2.2) hv]
      exact ⟨_, rfl, rfl⟩
    · rw [(shp_n h2).1, (shp_n h2).2]
      exact ⟨-2, rfl, rfl⟩
  · rw [has_n cc h, blk_n ec h]
    exact ⟨-1, rfl, rfl⟩
theorem xx_t : ∀ x, x < 64 → ∀ z, z < 64 → (nI x ^^^ nI z) = nI (x ^^^ z) ∧ (x ^^^ z) < 64 := by decide +kernel
theorem pop_le : ∀ z, z < 64 → pop z ≤ 6 := by decide +kernel
def bet (b : Option Nat) (z : Nat) : Bool := match b with
  | none => true
  | some b => decide (pop z < pop b)
def sk (g : Nat → Nat) (sh v : Nat) : Nat → Nat → Option Nat → Option Nat
  | 0, _, b => b
  | m + 1, z, b => sk g sh v m (z + 1) (if bet b z = true ∧ dt g v 64 0 (sh ^^^ z) ≠ none then some z else b)
def few (b : Option Nat) : Nat := match b with
  | none => 7
  | some b => pop b
theorem few_bet {b : Option Nat} {z : Nat} (hz : z < 64) : bet b z = true ↔ pop z < few b := by
  cases b with
  | none => exact ⟨fun _ => Nat.lt_succ_of_le (pop_le z hz), fun _ => rfl⟩
  | some b => exact decide_eq_true_iff
theorem strokes_c {t : ST} {f : Nat → Nat} {j sh g v : Nat} (hL : LRel (sb t 1) f) (hf : FOk f) (hj : j < 6) (hs : t 5 j = nI sh) (hsh : sh < 64) (hg : g ≤ 8) (hv : v < 64) (k : Int32 → Int32 → Int32 → Option Int32) (hk : ∀ x y z, k x y z = some x) : ∀ n z b, z ≤ 64 → 64 - z < n → (∀ r, b = some r → r < 64) → F_X6_strokes_L43 t (nI j) (nI v) (nI g) k n (ow b) (nI (few b)) (nI z) = some (ow (sk (it f g) sh v (64 - z) z b)) := by
  intro n
  induction n with
  | zero => intro z b _ h; omega
  | succ n ih =>
    intro z b hz hn hb
    rw [F_X6_strokes_L43.eq_2]
    by_cases h : z = 64
    · subst h
      rw [if_pos (show (64 : Int32) ≤ nI 64 from nI_le (a := 64) (Nat.le_refl _) (by decide)), hk]; rfl
    · have hz' : z < 64 := by omega
      have hfew : few b ≤ 7 := by
        cases b with
        | none => exact Nat.le_refl _
        | some r => exact Nat.le_trans (pop_le r (hb r rfl)) (by decide)
      rw [if_neg (show ¬ (64 : Int32) ≤ nI z from nI_ge (b := 64) hz' (by decide)), bc_c z (by omega), bs, show 64 - z = (64 - (z + 1)) + 1 by omega]
      unfold sk
      have pz := pop_le z hz'
      by_cases h1 : bet b z = true
      · have h2 := (few_bet hz').mp h1
        obtain ⟨x1, x2⟩ := xx_t sh hsh z hz'
        rw [if_neg (nI_ge h2 (by omega)), rdE hj (by decide) hs rfl, bs, x1, daysTo_c hL hf x2 hg hv, bs, nI_1]
        by_cases h3 : dt (it f g) v 64 0 (sh ^^^ z) = none
        · rw [h3, if_pos (show ow none = -9 from rfl), if_neg (fun q => q.2 rfl)]
          exact ih (z + 1) b (by omega) (by omega) hb
        · rw [if_neg (fun q => h3 ((ow_ne (fun r hr => by have := dt_lt _ _ _ _ _ _ hr; omega)).mp q)), if_pos ⟨h1, h3⟩]
          exact ih (z + 1) (some z) (by omega) (by omega) (fun r hr => by cases hr; exact hz')
      · have h2 : ¬ pop z < few b := fun q => h1 ((few_bet hz').mpr q)
        rw [if_pos (nI_le (by omega) (by omega)), if_neg (fun q => h1 q.1), nI_1]
        exact ih (z + 1) b (by omega) (by omega) hb
theorem strokes_m {t : ST} {f : Nat → Nat} {j sh kd pc v : Nat} (hL : ∀ i, i < 64 → t 4 i = nI (f i)) (hf : FOk f) (hj : j < 6) (hs : t 6 j = nI sh) (h5 : t 5 j = nI kd) (h7 : t 7 j = nI pc) (hkd : kd < 3) (hpc : pc ≤ 4) (hsh : sh < 64) (hv : v < 64) (k : Int32 → Int32 → Option Int32) (hk : ∀ x y, k x y = some x) : ∀ n z b, z ≤ 64 → 64 - z < n → (∀ r, b = some r → r < 64) → F_X7_strokes_L26 t (nI j) (nI v) k n (ow b) (nI z) = some (ow (sk (it f (gs kd pc)) sh v (64 - z) z b)) := by
  intro n
  induction n with
  | zero => intro z b _ h; omega
  | succ n ih =>
    intro z b hz hn hb
    rw [F_X7_strokes_L26.eq_2]
    by_cases h : z = 64
    · subst h
      rw [if_pos (show (64 : Int32) ≤ nI 64 from nI_le (a := 64) (Nat.le_refl _) (by decide)), hk]; rfl
    · have hz' : z < 64 := by omega
      rw [if_neg (show ¬ (64 : Int32) ≤ nI z from nI_ge (b := 64) hz' (by decide)), show 64 - z = (64 - (z + 1)) + 1 by omega]
      unfold sk
      obtain ⟨x1, x2⟩ := xx_t sh hsh z hz'
      have tst : bet b z = true → F_X7_strokes_J51 t (nI j) (nI v) (F_X7_strokes_L26 t (nI j) (nI v) k n) k (ow b) (nI z) = some (ow (sk (it f (gs kd pc)) sh v (64 - (z + 1)) (z + 1) (if bet b z = true ∧ dt (it f (gs kd pc)) v 64 0 (sh ^^^ z) ≠ none then some z else b))) := by
        intro h1
        unfold F_X7_strokes_J51 F_X7_strokes_J56
        rw [if_neg n10, rdE hj (by decide) hs rfl, bs, goes_m hj h5 h7 hkd, bs, x1, comesFrom_m hL hf x2 (gs_le hpc) hv, bs, nI_1]
        by_cases h3 : dt (it f (gs kd pc)) v 64 0 (sh ^^^ z) = none
        · rw [h3, if_pos (show ow none = -9 from rfl), if_neg (fun q => q.2 rfl)]
          exact ih (z + 1) b (by omega) (by omega) hb
        · rw [if_neg (fun q => h3 ((ow_ne (fun r hr => by have := dt_lt _ _ _ _ _ _ hr; omega)).mp q)), if_pos ⟨h1, h3⟩]
          exact ih (z + 1) (some z) (by omega) (by omega) (fun r hr => by cases hr; exact hz')
      cases b with
      | none =>
        rw [if_pos (show ow none = -9 from rfl)]
        exact tst rfl
      | some r =>
        have hr := hb r rfl
        have hne : ¬ ow (some r) = -9 := fun q => by
          have := (ow_ne (fun x hx => by cases hx; omega)).mp q
          cases this
        have p1 := pop_le z hz'
        have p2 := pop_le r hr
        rw [if_neg hne, size_m z (by omega), bs, show F_X7_size (ow (some r)) = some (nI (pop r)) from size_m r (by omega), bs]
        by_cases h1 : bet (some r) z = true
        · have h2 : pop z < pop r := decide_eq_true_iff.mp h1
          rw [if_neg (nI_ge h2 (by omega))]
          exact tst h1
        · have h2 : ¬ pop z < pop r := fun q => h1 (decide_eq_true_iff.mpr q)
          unfold F_X7_strokes_J56
          rw [if_pos (nI_le (by omega) (by omega)), if_pos rfl, if_neg (fun q => h1 q.1), nI_1]
          exact ih (z + 1) (some r) (by omega) (by omega) hb
theorem eq_strokes {s1 m1 : ST} (hR : Rel s1 m1) (x1 x2 : Int32) : ∃ (r : Int32), F_X6_strokes s1 x1 x2 = some r ∧ F_X7_strokes m1 x1 x2 = some r := by
  obtain ⟨a, b, ⟨o0, o1, o2, o3, oB, oF, oR, oS⟩, ⟨⟨c1, c2, c3⟩, cw, ⟨cc, clk, cB⟩, cL, ⟨cn, cR⟩, cS⟩, ⟨⟨e1, e2, e3⟩, ew, ⟨ec, elk, eB⟩, eL, ⟨en, eR⟩, eS⟩⟩ := hR
  unfold F_X6_strokes F_X7_strokes
  rcases rng x1 (a 0 1) (by omega) with ⟨j, hj, rfl⟩ | h
  · have h6 : j < 6 := by omega
    have h0 : 0 < a 0 1 := by omega
    rw [has_y cc o1 hj, blk_y ec o1 hj, bs, bs, if_neg n10, if_neg n10]
    rcases rng x2 64 (by decide) with ⟨v, hv, rfl⟩ | h2
    · rw [(shp_y hv).1, (shp_y hv).2, bs, bs, if_neg n10, if_neg n10, goes_c h6 (cB j h6).1 (cB j h6).2.2 (oB j h6).1, bs]
      refine ⟨_, strokes_c (cL h0) oF h6 (cB j h6).2.1 (oB j h6).2.1 (gs_le (oB j h6).2.2) hv _ (fun _ _ _ => rfl) 1000 0 none (by decide) (by decide) (fun r hr => by cases hr), strokes_m (eL h0) oF h6 (eB j h6).2.1 (eB j h6).1 (eB j h6).2.2 (oB j h6).1 (oB j h6).2.2 (oB j h6).2.1 hv _ (fun _ _ => rfl) 1000 0 none (by decide) (by decide) (fun r hr => by cases hr)⟩
    · rw [(shp_n h2).1, (shp_n h2).2]
      exact ⟨-2, rfl, rfl⟩
  · rw [has_n cc h, blk_n ec h]
    exact ⟨-1, rfl, rfl⟩
theorem or0 (y : Int64) : y ||| 0 = y := by
  apply Int64.toBitVec_inj.mp
  simp
def ed (f : Nat → Nat) (v : Nat) : Nat → Nat → Int64 → Int64
  | 0, _, y => y
  | m + 1, x, y => ed f v m (x + 1) (if f x = v then y ||| (1 <<< ((nI x).toInt64 &&& 63)) else y)
theorem eden_c {t : ST} {f : Nat → Nat} {v : Nat} (hL : LRel (sb t 1) f) (hf : FOk f) (hv : v < 64) (k : Int64 → Int32 → Option Int64) (hk : ∀ x y, k x y = some x) : ∀ n x y, x ≤ 64 → 64 - x < n → F_X6_eden_L17 t (nI v) k n y (nI x) = some (ed f v (64 - x) x y) := by
  intro n
  induction n with
  | zero => intro x y _ h; omega
  | succ n ih =>
    intro x y hx hn
    rw [F_X6_eden_L17.eq_2]
    by_cases h : x = 64
    · subst h
      rw [if_pos (show (64 : Int32) ≤ nI 64 from nI_le (a := 64) (Nat.le_refl _) (by decide)), hk]; rfl
    · have hx' : x < 64 := by omega
      rw [if_neg (show ¬ (64 : Int32) ≤ nI x from nI_ge (b := 64) hx' (by decide)), show F_X1_after (sb t 1) (nI x) 1 = some (nI (f x)) from after_c hL hx' (g := 1) (by decide), bs, nI_1, show 64 - x = (64 - (x + 1)) + 1 by omega]
      unfold ed
      have hfx := hf x hx'
      by_cases e : f x = v
      · rw [if_pos (by rw [e]), if_pos e]
        exact ih (x + 1) _ (by omega) (by omega)
      · rw [if_neg (nI_ne e (by omega) (by omega)), if_neg e]
        exact ih (x + 1) _ (by omega) (by omega)
theorem eden_m {t : ST} {f : Nat → Nat} {v : Nat} (hL : ∀ i, i < 64 → t 4 i = nI (f i)) (hf : FOk f) (hv : v < 64) (k : Int64 → Int32 → Option Int64) (hk : ∀ x y, k x y = some x) : ∀ n x y, x ≤ 64 → 64 - x < n → F_X7_eden_L23 t (nI v) k n y (nI x) = some (ed f v (64 - x) x y) := by
  intro n
  induction n with
  | zero => intro x y _ h; omega
  | succ n ih =>
    intro x y hx hn
    rw [F_X7_eden_L23.eq_2]
    by_cases h : x = 64
    · subst h
      rw [if_pos (show (64 : Int32) ≤ nI 64 from nI_le (a := 64) (Nat.le_refl _) (by decide)), hk]; rfl
    · have hx' : x < 64 := by omega
      rw [if_neg (show ¬ (64 : Int32) ≤ nI x from nI_ge (b := 64) hx' (by decide)), rdE hx' (by decide) (hL x hx') rfl, bs, nI_1, show 64 - x = (64 - (x + 1)) + 1 by omega, or0]
      unfold ed
      have hfx := hf x hx'
      by_cases e : f x = v
      · rw [if_pos (by rw [e]), if_pos e]
        exact ih (x + 1) _ (by omega) (by omega)
      · rw [if_neg (nI_ne e (by omega) (by omega)), if_neg e]
        exact ih (x + 1) _ (by omega) (by omega)
theorem eq_eden {s1 m1 : ST} (hR : Rel s1 m1) (x1 : Int32) : ∃ (r : Int64), F_X6_eden s1 x1 = some r ∧ F_X7_eden m1 x1 = some r := by
  obtain ⟨a, b, ⟨o0, o1, o2, o3, oB, oF, oR, oS⟩, ⟨⟨c1, c2, c3⟩, cw, ⟨cc, clk, cB⟩, cL, ⟨cn, cR⟩, cS⟩, ⟨⟨e1, e2, e3⟩, ew, ⟨ec, elk, eB⟩, eL, ⟨en, eR⟩, eS⟩⟩ := hR
  unfold F_X6_eden F_X7_eden F_X6_refusalOfShape
  rcases rng x1 64 (by decide) with ⟨v, hv, rfl⟩ | h
  · rw [(shp_y hv).1, (shp_y hv).2, bs, bs, if_neg n10, if_neg n10, ec]
    by_cases hz : a 0 1 = 0
    · rw [hasG_n cc hz, hz]
      exact ⟨_, rfl, rfl⟩
    · have h0 : 0 < a 0 1 := Nat.pos_of_ne_zero hz
      rw [hasG_y cc h0 o1, if_neg (nI_ne0 h0 (by omega)), bs, if_neg n10, bs, if_pos (show (0 : Int32) = 0 from rfl)]
      exact ⟨_, eden_c (cL h0) oF hv _ (fun _ _ => rfl) 1000 0 0 (by decide) (by decide), eden_m (eL h0) oF hv _ (fun _ _ => rfl) 1000 0 0 (by decide) (by decide)⟩
  · rw [(shp_n h).1, (shp_n h).2]
    exact ⟨_, rfl, rfl⟩
def al (ga gb : Nat → Nat) : Nat → Nat → Nat → Nat → Option Nat
  | 0, _, _, _ => none
  | m + 1, d, x, y => if x = y then some d else al ga gb m (d + 1) (ga x) (gb y)
theorem alike_c {t : ST} {f : Nat → Nat} {i j ka pa kb pb : Nat} (hL : LRel (sb t 1) f) (hf : FOk f) (hi : i < 6) (hj : j < 6) (a1 : sb t 3 1 i = nI ka) (a3 : sb t 3 3 i = nI pa) (b1 : sb t 3 1 j = nI kb) (b3 : sb t 3 3 j = nI pb) (la : ka < 3) (ma : pa ≤ 4) (lb : kb < 3) (mb : pb ≤ 4) (k : Int32 → Int32 → Int32 → Option Int32) (hk : ∀ x y z, k x y z = some (-9)) : ∀ n d x y, d ≤ 100 → 100 - d < n → x < 64 → y < 64 → F_X6_alike_L53 t (nI i) (nI j) k n (nI x) (nI y) (nI d) = some (ow (al (it f (gs ka pa)) (it f (gs kb pb)) (100 - d) d x y)) := by
  intro n
  induction n with
  | zero => intro d x y _ h; omega
  | succ n ih =>
    intro d x y hd hn hx hy
    rw [F_X6_alike_L53.eq_2]
    by_cases h : d = 100
    · subst h
      rw [if_pos (show (99 : Int32) < nI 100 from nI_lt (a := 99) (by decide) (by decide)), hk]; rfl
    · rw [if_neg (show ¬ (99 : Int32) < nI d from nI_nlt (a := 99) (by omega) (by decide)), show 100 - d = (100 - (d + 1)) + 1 by omega]
      unfold al
      by_cases e : x = y
      · subst e; rw [if_pos rfl, if_pos rfl]; rfl
      · rw [if_neg (nI_ne e (by omega) (by omega)), if_neg e, goes_c hi a1 a3 la, bs, after_c hL hx (gs_le ma), bs, goes_c hj b1 b3 lb, bs, after_c hL hy (gs_le mb), bs, nI_1]
        exact ih (d + 1) _ _ (by omega) (by omega) (it_lt hf _ _ hx) (it_lt hf _ _ hy)
theorem alike_m {t : ST} {f : Nat → Nat} {i j ka pa kb pb : Nat} (hL : ∀ z, z < 64 → t 4 z = nI (f z)) (hf : FOk f) (hi : i < 6) (hj : j < 6) (a1 : t 5 i = nI ka) (a3 : t 7 i = nI pa) (b1 : t 5 j = nI kb) (b3 : t 7 j = nI pb) (la : ka < 3) (ma : pa ≤ 4) (lb : kb < 3) (mb : pb ≤ 4) (k : Int32 → Int32 → Int32 → Option Int32) (hk : ∀ x y z, k x y z = some (-9)) : ∀ n d x y, d ≤ 100 → 100 - d < n → x < 64 → y < 64 → F_X7_alike_L41 t (nI i) (nI j) k n (nI x) (nI y) (nI d) = some (ow (al (it f (gs ka pa)) (it f (gs kb pb)) (100 - d) d x y)) := by
  intro n
  induction n with
  | zero => intro d x y _ h; omega
  | succ n ih =>
    intro d x y hd hn hx hy
    have ga := gs_le (kd := ka) ma
    have gb := gs_le (kd := kb) mb
    rw [F_X7_alike_L41.eq_2]
    by_cases h : d = 100
    · subst h
      rw [if_pos (show (99 : Int32) < nI 100 from nI_lt (a := 99) (by decide) (by decide)), hk]; rfl
    · rw [if_neg (show ¬ (99 : Int32) < nI d from nI_nlt (a := 99) (by omega) (by decide)), show 100 - d = (100 - (d + 1)) + 1 by omega]
      unfold al
      by_cases e : x = y
      · subst e; rw [if_pos rfl, if_pos rfl]; rfl
      · rw [if_neg (nI_ne e (by omega) (by omega)), if_neg e, goes_m hi a1 a3 la, bs, stepsOn_m hL hf hx (by omega), bs, goes_m hj b1 b3 lb, bs, stepsOn_m hL hf hy (by omega), bs, nI_1]
        exact ih (d + 1) _ _ (by omega) (by omega) (it_lt hf _ _ hx) (it_lt hf _ _ hy)
theorem eq_alike {s1 m1 : ST} (hR : Rel s1 m1) (x1 x2 : Int32) : ∃ (r : Int32), F_X6_alike s1 x1 x2 = some r ∧ F_X7_alike m1 x1 x2 = some r := by
  obtain ⟨a, b, ⟨o0, o1, o2, o3, oB, oF, oR, oS⟩, ⟨⟨c1, c2, c3⟩, cw, ⟨cc, clk, cB⟩, cL, ⟨cn, cR⟩, cS⟩, ⟨⟨e1, e2, e3⟩, ew, ⟨ec, elk, eB⟩, eL, ⟨en, eR⟩, eS⟩⟩ := hR
  unfold F_X6_alike F_X7_alike
  rcases rng x1 (a 0 1) (by omega) with ⟨i, hi, rfl⟩ | h
  · have i6 : i < 6 := by omega
    have h0 : 0 < a 0 1 := by omega
    rw [has_y cc o1 hi, blk_y ec o1 hi, bs, bs, if_neg n10, if_neg n10]
    rcases rng x2 (a 0 1) (by omega) with ⟨j, hj, rfl⟩ | h
    · have j6 : j < 6 := by omega
      rw [has_y cc o1 hj, blk_y ec o1 hj, bs, bs, if_neg n10, if_neg n10]
      by_cases e : nI i = nI j
      · rw [if_pos e, if_pos e]
        exact ⟨-1, rfl, rfl⟩
      · have r5 : rd 6 (s1 5) (nI i) = some (nI (a 2 i)) := rdE i6 (by decide) (cB i i6).2.1 rfl
        have r5' : rd 6 (s1 5) (nI j) = some (nI (a 2 j)) := rdE j6 (by decide) (cB j j6).2.1 rfl
        have q6 : rd 6 (m1 6) (nI i) = some (nI (a 2 i)) := rdE i6 (by decide) (eB i i6).2.1 rfl
        have q6' : rd 6 (m1 6) (nI j) = some (nI (a 2 j)) := rdE j6 (by decide) (eB j j6).2.1 rfl
        rw [if_neg e, if_neg e, r5, r5', q6, q6', bs, bs, bs, bs]
        exact ⟨_, alike_c (cL h0) oF i6 j6 (cB i i6).1 (cB i i6).2.2 (cB j j6).1 (cB j j6).2.2 (oB i i6).1 (oB i i6).2.2 (oB j j6).1 (oB j j6).2.2 _ (fun _ _ _ => rfl) 1000 0 _ _ (by decide) (by decide) (oB i i6).2.1 (oB j j6).2.1, alike_m (eL h0) oF i6 j6 (eB i i6).1 (eB i i6).2.2 (eB j j6).1 (eB j j6).2.2 (oB i i6).1 (oB i i6).2.2 (oB j j6).1 (oB j j6).2.2 _ (fun _ _ _ => rfl) 1000 0 _ _ (by decide) (by decide) (oB i i6).2.1 (oB j j6).2.1⟩
    · rw [has_n cc h, blk_n ec h]
      exact ⟨-1, rfl, rfl⟩
  · rw [has_n cc h, blk_n ec h]
    exact ⟨-1, rfl, rfl⟩
