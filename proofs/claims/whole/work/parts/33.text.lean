/-! garden: the class's reading of the text -/
def inD (c lo hi : Int32) : Prop := ¬ c < lo ∧ ¬ hi < c
theorem isd_y {c lo hi : Int32} (h : inD c lo hi) : F_X4_isDigit c lo hi = some 1 := by
  unfold F_X4_isDigit
  rw [if_neg h.1, if_neg h.2]
theorem isd_n {c lo hi : Int32} (h : ¬ inD c lo hi) : F_X4_isDigit c lo hi = some 0 := by
  unfold F_X4_isDigit
  by_cases h1 : c < lo
  · rw [if_pos h1]
  · rw [if_neg h1, if_pos (Classical.byContradiction fun z => h ⟨h1, z⟩)]
def gd (V : Nat → Int32) (p : Nat) : Int32 := if p = 1 then 50 else if V 1 = 50 then (if p = 2 then 53 else if V 2 = 53 then 53 else 57) else 57
def Go (V : Nat → Int32) (p : Nat) : Prop := if p = 0 then V 0 = 103 else if p < 4 then inD (V p) 48 (gd V p) else if p < 34 then (if (p - 4) % 5 = 0 then V p = 59 else if (p - 4) % 5 = 1 then (V p = 98 ∨ V p = 104 ∨ V p = 110) else if (p - 4) % 5 = 4 then inD (V p) 49 52 else inD (V p) 48 55) else False
theorem kb_y {c : Int32} (h : c = 98 ∨ c = 104 ∨ c = 110) : ∃ d, d < 3 ∧ F_X4_kindBy c = some (nI d) := by
  rcases h with rfl | rfl | rfl
  · exact ⟨0, by decide, rfl⟩
  · exact ⟨2, by decide, rfl⟩
  · exact ⟨1, by decide, rfl⟩
theorem kb_n {c : Int32} (h : ¬ (c = 98 ∨ c = 104 ∨ c = 110)) : F_X4_kindBy c = some (-9) := by
  unfold F_X4_kindBy
  rw [if_neg (fun z => h (Or.inl z)), if_neg (fun z => h (Or.inr (Or.inl z))), if_neg (fun z => h (Or.inr (Or.inr z)))]
theorem m5_t : ∀ p, p < 61 → 4 ≤ p → ((nI p - 4) - (nI p - 4) / 5 * 5) = nI ((p - 4) % 5) ∧ (nI p - 4) / 5 = nI ((p - 4) / 5) := by decide +kernel
theorem gd_c {t : ST} {V : Nat → Int32} {N i ln : Nat} (h2 : t 0 2 = nI ln) (hl : ln ≤ 60) (hi : i + N ≤ ln) (hv : ∀ p, p < N → t 1 (i + p) = V p) {p : Nat} (h0 : 0 < p) (hp : p < 4) (hN : p < N) : F_X4_greatestDigit t (nI i) (nI p) = some (gd V p) := by
  unfold F_X4_greatestDigit F_X4_greatestDigit_J37 F_X4_greatestDigit_J41 F_X4_greatestDigit_J42 gd
  by_cases p1 : p = 1
  · subst p1
    rw [if_pos (show nI 1 = 1 from rfl), if_pos (show (1 : Nat) = 1 from rfl)]
  · have a1 : F_X3_at t (nI i + 1) = some (V 1) := by
      rw [nI_1]
      exact at_c h2 hl (by omega) (hv 1 (by omega))
    rw [if_neg (show ¬ nI p = 1 from nI_ne (b := 1) p1 (by omega) (by decide)), if_neg p1, a1, bs, if_neg n10, if_pos (show (0 : Int32) = 0 from rfl)]
    by_cases v1 : V 1 = 50
    · rw [if_pos v1, if_pos v1]
      by_cases p2 : p = 2
      · subst p2
        rw [if_pos (show nI 2 = 2 from rfl), if_pos (show (2 : Nat) = 2 from rfl)]
      · have a2 : F_X3_at t (nI i + 2) = some (V 2) := by
          rw [show (2 : Int32) = nI 2 from rfl, nI_add]
          exact at_c h2 hl (by omega) (hv 2 (by omega))
        rw [if_neg (show ¬ nI p = 2 from nI_ne (b := 2) p2 (by omega) (by decide)), if_neg p2, a2, bs]
        by_cases v2 : V 2 = 53
        · rw [if_pos v2, if_pos v2]
        · rw [if_neg v2, if_neg v2]
    · rw [if_neg v1, if_neg v1]
theorem go_c {t : ST} {V : Nat → Int32} {N i ln : Nat} (h2 : t 0 2 = nI ln) (hl : ln ≤ 60) (hi : i + N ≤ ln) (hv : ∀ p, p < N → t 1 (i + p) = V p) {p : Nat} (hN : p < N) : (Go V p → F_X4_goesOn t (nI i) (nI p) = some 1) ∧ (¬ Go V p → F_X4_goesOn t (nI i) (nI p) = some 0) := by
  unfold F_X4_goesOn Go
  rw [nI_add, at_c h2 hl (by omega) (hv p hN), bs]
  by_cases p0 : p = 0
  · subst p0
    rw [if_pos (show nI 0 = 0 from rfl), if_pos (show (0 : Nat) = 0 from rfl)]
    exact ⟨fun h => by rw [if_pos h], fun h => by rw [if_neg h]⟩
  · rw [if_neg (nI_ne0 (by omega) (by omega)), if_neg p0]
    by_cases p4 : p < 4
    · rw [if_neg (show ¬ (4 : Int32) ≤ nI p from nI_ge (b := 4) p4 (by decide)), if_pos p4, gd_c h2 hl hi hv (by omega) p4 hN, bs]
      exact ⟨fun h => by rw [isd_y h, bs], fun h => by rw [isd_n h, bs]⟩
    · rw [if_pos (show (4 : Int32) ≤ nI p from nI_le (a := 4) (by omega) (by omega)), if_neg p4]
      by_cases p34 : p < 34
      · rw [if_pos (show nI p < 34 from nI_lt (b := 34) p34 (by decide)), if_pos p34, (m5_t p (by omega) (by omega)).1]
        rcases (show (p - 4) % 5 = 0 ∨ (p - 4) % 5 = 1 ∨ (p - 4) % 5 = 2 ∨ (p - 4) % 5 = 3 ∨ (p - 4) % 5 = 4 by omega) with e | e | e | e | e
        · rw [e, if_pos (show nI 0 = 0 from rfl), if_pos (show (0 : Nat) = 0 from rfl)]
          exact ⟨fun h => by rw [if_pos h], fun h => by rw [if_neg h]⟩
        · rw [e, if_neg n10', if_pos (show nI 1 = 1 from rfl), if_neg (show ¬ (1 : Nat) = 0 by decide), if_pos (show (1 : Nat) = 1 from rfl)]
          refine ⟨fun h => ?_, fun h => ?_⟩
          · obtain ⟨d, d3, e⟩ := kb_y h
            rw [e, bs, if_neg (fun z => by
              have h1 := congrArg Int32.toInt z
              rw [nI_toInt (by omega)] at h1
              have h2 : (-9 : Int32).toInt = -9 := rfl
              omega)]
          · rw [kb_n h, bs, if_pos (show (-9 : Int32) = -9 from rfl)]
        · rw [e, if_neg (show ¬ nI 2 = 0 by decide), if_neg (show ¬ nI 2 = 1 by decide), if_pos (show nI 2 = 2 from rfl), if_neg (show ¬ (2 : Nat) = 0 by decide), if_neg (show ¬ (2 : Nat) = 1 by decide), if_neg (show ¬ (2 : Nat) = 4 by decide)]
          exact ⟨fun h => by rw [isd_y h, bs], fun h => by rw [isd_n h, bs]⟩
        · rw [e, if_neg (show ¬ nI 3 = 0 by decide), if_neg (show ¬ nI 3 = 1 by decide), if_neg (show ¬ nI 3 = 2 by decide), if_pos (show nI 3 = 3 from rfl), if_neg (show ¬ (3 : Nat) = 0 by decide), if_neg (show ¬ (3 : Nat) = 1 by decide), if_neg (show ¬ (3 : Nat) = 4 by decide)]
          exact ⟨fun h => by rw [isd_y h, bs], fun h => by rw [isd_n h, bs]⟩
        · rw [e, if_neg (show ¬ nI 4 = 0 by decide), if_neg (show ¬ nI 4 = 1 by decide), if_neg (show ¬ nI 4 = 2 by decide), if_neg (show ¬ nI 4 = 3 by decide), if_pos (show nI 4 = 4 from rfl), if_neg (show ¬ (4 : Nat) = 0 by decide), if_neg (show ¬ (4 : Nat) = 1 by decide), if_pos (show (4 : Nat) = 4 from rfl)]
          exact ⟨fun h => by rw [isd_y h, bs], fun h => by rw [isd_n h, bs]⟩
      · rw [if_neg (show ¬ nI p < 34 from nI_nlt (b := 34) (by omega) (by omega)), if_neg p34]
        exact ⟨fun h => h.elim, fun _ => rfl⟩
theorem ff_L {t : ST} {V : Nat → Int32} {N i ln : Nat} (h2 : t 0 2 = nI ln) (hl : ln ≤ 60) (hi : i + N ≤ ln) (hv : ∀ p, p < N → t 1 (i + p) = V p) {q : Nat} (hq : q ≤ N) (hg : ∀ p, p < q → Go V p) (hb : q < N → ¬ Go V q) (k : Int32 → Option Int32) : ∀ n p, p ≤ q → q - p < n → F_X4_firstFault_L2 t (nI i) (nI N) k n (nI p) = if q < N then some (nI q) else k (nI N) := by
  intro n
  induction n with
  | zero => intro p _ h; omega
  | succ n ih =>
    intro p hp hn
    rw [F_X4_firstFault_L2.eq_2]
    by_cases e : p = N
    · subst e
      rw [if_pos (nI_le (Nat.le_refl _) (by omega)), if_neg (show ¬ q < p by omega)]
    · rw [if_neg (nI_ge (by omega) (by omega))]
      by_cases e2 : p = q
      · subst e2
        rw [(go_c h2 hl hi hv (by omega)).2 (hb (by omega)), bs, if_pos (show (0 : Int32) = 0 from rfl), if_pos (show p < N by omega)]
      · rw [(go_c h2 hl hi hv (by omega)).1 (hg p (by omega)), bs, if_neg n10, nI_1]
        exact ih (p + 1) (by omega) (by omega)
theorem ff_c {t : ST} {V : Nat → Int32} {N i ln : Nat} (h2 : t 0 2 = nI ln) (hl : ln ≤ 60) (hi : i + N ≤ ln) (hv : ∀ p, p < N → t 1 (i + p) = V p) {q : Nat} (hq : q ≤ N) (hg : ∀ p, p < q → Go V p) (hb : q < N → ¬ Go V q) : F_X4_firstFault t (nI i) (nI N) = some (if q < N then nI q else if N ≤ 4 then nI N else if (N - 4) % 5 = 0 then -9 else nI N) := by
  have h := ff_L h2 hl hi hv hq hg hb (fun x3_k2 => F_X4_firstFault_J24 t (nI i) (nI N)) 1000 0 (Nat.zero_le _) (by omega)
  have e : F_X4_firstFault t (nI i) (nI N) = if q < N then some (nI q) else F_X4_firstFault_J24 t (nI i) (nI N) := by
    unfold F_X4_firstFault
    exact h
  rw [e]
  by_cases qn : q < N
  · rw [if_pos qn, if_pos qn]
  · rw [if_neg qn, if_neg qn]
    unfold F_X4_firstFault_J24 F_X4_firstFault_J41 F_X4_firstFault_J42
    rw [if_pos (show (0 : Int32) = 0 from rfl), if_neg n10]
    by_cases n4 : N ≤ 4
    · rw [if_pos (show nI N ≤ 4 from nI_le (b := 4) n4 (by decide)), if_pos n4]
    · rw [if_neg (show ¬ nI N ≤ 4 from nI_ge (a := 4) (by omega) (by omega)), if_neg n4, (m5_t N (by omega) (by omega)).1]
      by_cases z : (N - 4) % 5 = 0
      · rw [z, if_pos (show nI 0 = 0 from rfl), if_pos (show (0 : Nat) = 0 from rfl)]
      · rw [if_neg (nI_ne0 (by omega) (by omega)), if_neg z]
