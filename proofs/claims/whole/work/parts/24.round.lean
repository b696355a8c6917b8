/-! round -/
theorem pigeon : ∀ n (g : Nat → Nat), (∀ i, i ≤ n → g i < n) → ∃ i j, i < j ∧ j ≤ n ∧ g i = g j := by
  intro n
  induction n with
  | zero => intro g h; exact absurd (h 0 (Nat.le_refl _)) (Nat.not_lt_zero _)
  | succ n ih =>
    intro g h
    by_cases hx : ∃ i, i ≤ n ∧ g i = g (n + 1)
    · obtain ⟨i, h1, h2⟩ := hx
      exact ⟨i, n + 1, by omega, Nat.le_refl _, h2⟩
    · have hne : ∀ i, i ≤ n → g i ≠ g (n + 1) := fun i hi z => hx ⟨i, hi, z⟩
      have hv := h (n + 1) (Nat.le_refl _)
      obtain ⟨i, j, h1, h2, h3⟩ := ih (fun i => if g i = n then g (n + 1) else g i) (fun i hi => by
        show (if g i = n then g (n + 1) else g i) < n
        have a := hne i hi
        have b := h i (by omega)
        by_cases e : g i = n
        · rw [if_pos e]; omega
        · rw [if_neg e]; omega)
      refine ⟨i, j, h1, by omega, ?_⟩
      have h4 : (if g i = n then g (n + 1) else g i) = (if g j = n then g (n + 1) else g j) := h3
      have a := hne i (by omega)
      have b := hne j h2
      by_cases e1 : g i = n
      · by_cases e2 : g j = n
        · rw [e1, e2]
        · rw [if_pos e1, if_neg e2] at h4
          exact absurd h4.symm b
      · by_cases e2 : g j = n
        · rw [if_neg e1, if_pos e2] at h4
          exact absurd h4 a
        · rw [if_neg e1, if_neg e2] at h4
          exact h4
theorem least (P : Nat → Prop) : ∀ n, P n → ∃ m, m ≤ n ∧ P m ∧ ∀ e, e < m → ¬ P e := by
  intro n
  induction n using Nat.strongRecOn with
  | ind n ih =>
    intro h
    by_cases hx : ∃ e, e < n ∧ P e
    · obtain ⟨e, h1, h2⟩ := hx
      obtain ⟨m, m1, m2, m3⟩ := ih e h1 h2
      exact ⟨m, by omega, m2, m3⟩
    · exact ⟨n, Nat.le_refl _, h, fun e he z => hx ⟨e, he, z⟩⟩
theorem dt_none (g : Nat → Nat) (v : Nat) : ∀ m d x, dt g v m d x = none → ∀ e, e < m → it g e x ≠ v := by
  intro m
  induction m with
  | zero => intro d x _ e he; omega
  | succ m ih =>
    intro d x h e he
    unfold dt at h
    by_cases hx : x = v
    · rw [if_pos hx] at h; cases h
    · rw [if_neg hx] at h
      cases e with
      | zero => exact hx
      | succ e => exact ih (d + 1) (g x) h e (by omega)
theorem dt_some (g : Nat → Nat) (v : Nat) : ∀ m d x r, dt g v m d x = some r → d ≤ r ∧ it g (r - d) x = v ∧ ∀ e, e < r - d → it g e x ≠ v := by
  intro m
  induction m with
  | zero => intro d x r h; cases h
  | succ m ih =>
    intro d x r h
    unfold dt at h
    by_cases hx : x = v
    · rw [if_pos hx] at h
      have hr := Option.some.inj h
      subst hr
      rw [Nat.sub_self]
      exact ⟨Nat.le_refl _, hx, fun e he => absurd he (Nat.not_lt_zero e)⟩
    · rw [if_neg hx] at h
      obtain ⟨h1, h2, h3⟩ := ih _ _ _ h
      obtain ⟨q, hq⟩ : ∃ q, r - d = q + 1 := ⟨r - d - 1, by omega⟩
      have hq2 : r - (d + 1) = q := by omega
      rw [hq2] at h2 h3
      rw [hq]
      refine ⟨by omega, h2, fun e he => ?_⟩
      cases e with
      | zero => exact hx
      | succ e => exact h3 e (by omega)
theorem it_c (f : Nat → Nat) (m n x : Nat) : it f m (it f n x) = it f n (it f m x) := by rw [← it_add, ← it_add, Nat.add_comm]
def bk (f : Nat → Nat) (y : Nat) : Option Nat := dt (it f 1) y 64 0 (it f 1 y)
theorem it1 (f : Nat → Nat) : it f 1 = f := rfl
theorem bk_none {f : Nat → Nat} {y : Nat} (h : bk f y = none) {e : Nat} (h0 : 0 < e) (h1 : e ≤ 64) : it f e y ≠ y := by
  cases e with
  | zero => omega
  | succ e => exact dt_none f y 64 0 (f y) h e (by omega)
theorem bk_some {f : Nat → Nat} {y d : Nat} (h : bk f y = some d) : d < 64 ∧ it f (d + 1) y = y ∧ ∀ e, 0 < e → e < d + 1 → it f e y ≠ y := by
  obtain ⟨h1, h2, h3⟩ := dt_some f y 64 0 (f y) d h
  have h4 := dt_lt f y 64 0 (f y) d h
  refine ⟨by omega, h2, fun e a b => ?_⟩
  cases e with
  | zero => omega
  | succ e => exact h3 e (by omega)
theorem stepsBack_c {t : ST} {f : Nat → Nat} (hL : LRel t f) (hf : FOk f) {y : Nat} (hy : y < 64) : F_X1_stepsBack t (nI y) = some (match bk f y with | none => -9 | some d => nI (d + 1)) := by
  unfold F_X1_stepsBack
  rw [show F_X1_after t (nI y) 1 = some (nI (it f 1 y)) from after_c hL hy (g := 1) (by decide), bs, show F_X1_daysTo t (nI (it f 1 y)) 1 (nI y) = some (ow (bk f y)) from daysTo_c hL hf (it_lt hf 1 y hy) (g := 1) (by decide) hy, bs]
  cases h : bk f y with
  | none => rfl
  | some d =>
    have := (bk_some h).1
    have e : ¬ ow (some d) = -9 := fun z => by
      have := (ow_ne (o := some d) (fun r hr => by cases hr; omega)).mp z
      cases this
    rw [if_neg e]
    show some (nI d + 1) = _
    rw [nI_1]
theorem round_cL {s : ST} {f : Nat → Nat} (hL : LRel (sb s 1) f) (hf : FOk f) {x mu d : Nat} (hx : x < 64) (hm : mu < 64) (h1 : bk f (it f mu x) = some d) (h2 : ∀ e, e < mu → bk f (it f e x) = none) (x1 x2 : Int32) (k : Int32 → Int32 → Option Int32) : ∀ n i, i ≤ mu → mu - i < n → F_X6_round_L34 s x1 x2 k n (nI i) (nI (it f i x)) = k (nI mu) (nI (it f mu x)) := by
  intro n
  induction n with
  | zero => intro i _ h; omega
  | succ n ih =>
    intro i hi hn
    have hy := it_lt hf i x hx
    rw [F_X6_round_L34.eq_2, if_neg (show ¬ (64 : Int32) ≤ nI i from nI_ge (b := 64) (by omega) (by decide)), stepsBack_c hL hf hy, bs]
    by_cases h : i = mu
    · subst h
      have := (bk_some h1).1
      rw [h1]
      exact if_neg (fun z => by
        have q := (ow_ne (o := some (d + 1)) (fun r hr => by cases hr; omega)).mp z
        cases q)
    · rw [h2 i (by omega)]
      show (if (-9 : Int32) = -9 then _ else _) = _
      rw [if_pos rfl, show F_X1_after (sb s 1) (nI (it f i x)) 1 = some (nI (it f 1 (it f i x))) from after_c hL hy (g := 1) (by decide), bs, nI_1, ← it_add]
      exact ih (i + 1) (by omega) (by omega)
theorem round_mL48 {s : ST} {f : Nat → Nat} (hL : ∀ j, j < 64 → s 4 j = nI (f j)) (hf : FOk f) {z p : Nat} (hz : z < 64) (h1 : it f p z = z) (h2 : ∀ e, 0 < e → e < p → it f e z ≠ z) (x1 x2 : Int32) (k : Int32 → Int32 → Option Int32) : ∀ n c, 0 < c → c ≤ p → p - c < n → F_X7_round_L48 s x1 x2 (nI z) k n (nI c) (nI (it f c z)) = k (nI p) (nI z) := by
  intro n
  induction n with
  | zero => intro c _ _ h; omega
  | succ n ih =>
    intro c hc hp hn
    have hy := it_lt hf c z hz
    rw [F_X7_round_L48.eq_2]
    by_cases h : c = p
    · subst h
      rw [h1, if_pos rfl]
    · rw [if_neg (nI_ne (h2 c hc (by omega)) (by omega) (by omega)), rdE hy (by decide) (hL _ hy) rfl, bs, nI_1, ← it_s f]
      exact ih (c + 1) (by omega) (by omega) (by omega)
theorem round_mL84 {s : ST} {f : Nat → Nat} (hL : ∀ j, j < 64 → s 4 j = nI (f j)) (hf : FOk f) {x p mu : Nat} (hx : x < 64) (h1 : it f (mu + p) x = it f mu x) (h2 : ∀ l, l < mu → it f l x ≠ it f (l + p) x) (x1 x2 x4 : Int32) (k : Int32 → Int32 → Int32 → Option Int32) : ∀ n l, l ≤ mu → mu - l < n → mu < 2 ^ 31 → F_X7_round_L84 s x1 x2 x4 k n (nI (it f l x)) (nI (it f (l + p) x)) (nI l) = k (nI (it f mu x)) (nI (it f mu x)) (nI mu) := by
  intro n
  induction n with
  | zero => intro l _ h; omega
  | succ n ih =>
    intro l hl hn hm
    have hy := it_lt hf l x hx
    have hw := it_lt hf (l + p) x hx
    rw [F_X7_round_L84.eq_2]
    by_cases h : l = mu
    · subst h
      rw [h1, if_pos rfl]
    · rw [if_neg (nI_ne (h2 l (by omega)) (by omega) (by omega)), rdE hy (by decide) (hL _ hy) rfl, bs, rdE hw (by decide) (hL _ hw) rfl, bs, nI_1, ← it_s f, ← it_s f, show l + p + 1 = l + 1 + p by omega]
      exact ih (l + 1) (by omega) (by omega) hm
theorem it_p {f : Nat → Nat} {p y : Nat} (h : it f p y = y) : ∀ n, it f (p * n) y = y
  | 0 => rfl
  | n + 1 => by rw [Nat.mul_succ, it_add, it_p h n, h]
theorem round_x {f : Nat → Nat} (hf : FOk f) {x : Nat} (hx : x < 64) : ∃ mu d, mu < 64 ∧ d < 64 ∧ bk f (it f mu x) = some d ∧ (∀ e, e < mu → bk f (it f e x) = none) ∧ it f (d + 1) (it f 64 x) = it f 64 x ∧ (∀ e, 0 < e → e < d + 1 → it f e (it f 64 x) ≠ it f 64 x) ∧ it f (mu + (d + 1)) x = it f mu x ∧ ∀ l, l < mu → it f l x ≠ it f (l + (d + 1)) x := by
  obtain ⟨i, j, h1, h2, h3⟩ := pigeon 64 (fun i => it f i x) (fun i _ => it_lt hf i x hx)
  have h3 : it f i x = it f j x := h3
  have hP : ¬ bk f (it f i x) = none := fun z => by
    refine bk_none z (e := j - i) (by omega) (by omega) ?_
    rw [← it_add, show i + (j - i) = j by omega, h3]
  obtain ⟨mu, m1, m2, m3⟩ := least (fun i => ¬ bk f (it f i x) = none) i hP
  have m3 : ∀ e, e < mu → bk f (it f e x) = none := fun e he => Classical.byContradiction (fun z => m3 e he z)
  cases hd : bk f (it f mu x) with
  | none => exact absurd hd m2
  | some d =>
    obtain ⟨d1, d2, d3⟩ := bk_some hd
    have e64 : it f 64 x = it f (64 - mu) (it f mu x) := by rw [← it_add, show mu + (64 - mu) = 64 by omega]
    have q1 : it f (d + 1) (it f 64 x) = it f 64 x := by rw [e64, it_c, d2]
    have hle : 64 ≤ (d + 1) * 64 := by omega
    have back : it f ((d + 1) * 64 - (64 - mu)) (it f 64 x) = it f mu x := by
      rw [e64, ← it_add, show 64 - mu + ((d + 1) * 64 - (64 - mu)) = (d + 1) * 64 by omega]
      exact it_p d2 64
    refine ⟨mu, d, by omega, d1, hd, m3, q1, fun e e1 e2 z => ?_, by rw [it_add]; exact d2, fun l hl z => ?_⟩
    · apply d3 e e1 e2
      rw [← back, it_c, z]
    · rw [it_add] at z
      exact bk_none (m3 l hl) (e := d + 1) (by omega) (by omega) z.symm
theorem eq_round {s1 m1 : ST} (hR : Rel s1 m1) (x1 x2 : Int32) : ∃ (r : Int32), F_X6_round s1 x1 x2 = some r ∧ F_X7_round m1 x1 x2 = some r := by
  obtain ⟨a, b, ⟨o0, o1, o2, o3, oB, oF, oR, oS⟩, ⟨⟨c1, c2, c3⟩, cw, ⟨cc, clk, cB⟩, cL, ⟨cn, cR⟩, cS⟩, ⟨⟨e1, e2, e3⟩, ew, ⟨ec, elk, eB⟩, eL, ⟨en, eR⟩, eS⟩⟩ := hR
  unfold F_X6_round F_X7_round
  rcases rng x1 64 (by decide) with ⟨x, hx, rfl⟩ | h
  · rw [(shp_y hx).1, (shp_y hx).2, bs, bs, if_neg n10, if_neg n10]
    rcases rng x2 2 (by decide) with ⟨w, hw, rfl⟩ | h
    · rw [if_neg (nI_pos (by omega)), if_pos (show nI w ≤ 1 from nI_le (b := 1) (by omega) (by decide)), win_y (lo := 0) (hi := 1) (j := w) (a := 0) (b := 1) rfl (by omega) (by omega) (by decide) rfl rfl, bs, if_neg n10, ec]
      by_cases hz : a 0 1 = 0
      · rw [hasG_n cc hz, hz]
        exact ⟨-3, rfl, rfl⟩
      · have h0 : 0 < a 0 1 := Nat.pos_of_ne_zero hz
        obtain ⟨mu, d, q1, q2, q3, q4, q5, q6, q7, q8⟩ := round_x oF hx
        have h64 := it_lt oF 64 x hx
        have k1 := round_cL (s := s1) (cL h0) oF hx q1 q3 q4 (nI x) (nI w) (fun x3_k34 x4_k34 => F_X6_round_J72 s1 (nI x) (nI w) x3_k34 x4_k34) 1000 0 (Nat.zero_le _) (by omega)
        have k2 := round_mL48 (s := m1) (eL h0) oF h64 q5 q6 (nI x) (nI w) (fun x4_k48 x5_k48 => F_X7_round_J69 m1 (nI x) (nI w) x4_k48) 1000 1 (by decide) (by omega) (by omega)
        have k3 := round_mL84 (s := m1) (eL h0) oF hx q7 q8 (nI x) (nI w) (nI (d + 1)) (fun x5_k84 x6_k84 x7_k84 => F_X7_round_J115 m1 (nI x) (nI w) (nI (d + 1)) x7_k84) 1000 0 (Nat.zero_le _) (by omega) (by omega)
        refine ⟨if nI w = 0 then nI mu else nI (d + 1), ?_, ?_⟩
        · rw [hasG_y cc h0 o1, bs, if_neg n10]
          refine k1.trans ?_
          show F_X6_round_J72 s1 (nI x) (nI w) (nI mu) (nI (it (a 4) mu x)) = _
          unfold F_X6_round_J72
          by_cases e : nI w = 0
          · rw [if_pos e, if_pos e]
          · rw [if_neg e, if_neg e, stepsBack_c (cL h0) oF (it_lt oF mu x hx), bs, q3]
        · rw [if_neg (nI_ne0 h0 (by omega)), show F_X7_stepsOn m1 (nI x) 64 = some (nI (it (a 4) 64 x)) from stepsOn_m (eL h0) oF hx (n := 64) (by decide), bs, rdE h64 (by decide) (eL h0 _ h64) rfl, bs]
          refine k2.trans ?_
          show F_X7_round_J69 m1 (nI x) (nI w) (nI (d + 1)) = _
          unfold F_X7_round_J69
          rw [stepsOn_m (eL h0) oF hx (by omega), bs]
          rw [Nat.zero_add] at k3
          refine k3.trans ?_
          show F_X7_round_J115 m1 (nI x) (nI w) (nI (d + 1)) (nI mu) = _
          unfold F_X7_round_J115
          by_cases e : nI w = 0
          · rw [if_pos e, if_pos e]
          · rw [if_neg e, if_neg e]
    · refine ⟨-2, ?_, ?_⟩
      · rcases h with h | ⟨h, h3⟩
        · rw [if_pos h]
        · rw [if_neg h, if_neg (fun z => by
            have z1 := Int32.le_iff_toInt_le.mp z
            have z2 := Int32.le_iff_toInt_le.mp h3
            have z3 : (nI 2).toInt = 2 := rfl
            have z4 : (1 : Int32).toInt = 1 := rfl
            omega)]
      · rw [win_n (n := 2) (hi := 1) (by decide) (by decide) rfl h, bs, if_pos (show (0 : Int32) = 0 from rfl)]
  · rw [(shp_n h).1, (shp_n h).2]
    exact ⟨-2, rfl, rfl⟩
