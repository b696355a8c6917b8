/-! garden: as a whole -/
theorem gar_c {s : ST} {V : Nat → Int32} {k i ln N b d1 d2 d3 : Nat} {kd sh pc : Nat → Nat} (h2 : sb s (20 + 2 * k) 0 2 = nI ln) (hl : ln ≤ 60) (hi : i + N ≤ ln) (hv : ∀ p, p < N → sb s (20 + 2 * k) 1 (i + p) = V p) (hN : N = 4 + 5 * b) (hb1 : 1 ≤ b) (hb : b ≤ 6) (e1 : V 1 - 48 = nI d1) (e2 : V 2 - 48 = nI d2) (e3 : V 3 - 48 = nI d3) (hw : 100 * d1 + 10 * d2 + d3 < 256) (hk : ∀ j, j < b → F_X4_kindBy (V (4 + 5 * j + 1)) = some (nI (kd j)) ∧ 8 * (V (4 + 5 * j + 2) - 48) + (V (4 + 5 * j + 3) - 48) = nI (sh j) ∧ V (4 + 5 * j + 4) - 48 = nI (pc j)) (old : ∀ q, q < 6 → b ≤ q → s 4 q = nI (kd q) ∧ s 5 q = nI (sh q) ∧ s 6 q = nI (pc q)) : ∃ t : ST, ((F_X4_lawOf (sb s (20 + 2 * k)) (nI i)).bind fun v92 => (F_X1_fix (sb s 1) v92).bind fun u95 => (F_X0_begin (sb (gr s 1 2 u95) 3) (sb (gr s 1 2 u95) (20 + 2 * k)) (nI i) (nI N)).bind fun u107 => (F_X2_forgetAll (sb (gr (gr s 1 2 u95) 3 4 u107) 16)).bind fun u114 => b2 (F_X6_withoutFault (gr (gr (gr s 1 2 u95) 3 4 u107) 16 4 u114) (u107 0 0)) fun v125 u125 => some (v125, u125)) = some (nI b, t) ∧ t 0 0 = s 0 0 ∧ t 0 1 = 0 ∧ t 3 1 = 0 ∧ t 1 0 = nI (100 * d1 + 10 * d2 + d3) ∧ BRel (sb t 3) b 0 kd sh pc ∧ LRel (sb t 1) (nx (100 * d1 + 10 * d2 + d3)) ∧ t 16 0 = 0 ∧ ∀ p, 17 ≤ p → t p = s p := by
  obtain ⟨u95, f1, f2, f3⟩ := fix_c (sb s 1) hw
  have eS : sb (gr s 1 2 u95) (20 + 2 * k) = sb s (20 + 2 * k) := by
    funext p
    exact gr_ne (by omega)
  have bl : F_X4_blocksIn (nI N) = some (nI b) := by
    unfold F_X4_blocksIn
    rw [(m5_t N (by omega) (by omega)).2, show (N - 4) / 5 = b by omega]
  have g4 : sb (gr s 1 2 u95) 3 1 = s 4 := gr_ne (by decide)
  have g5 : sb (gr s 1 2 u95) 3 2 = s 5 := gr_ne (by decide)
  have g6 : sb (gr s 1 2 u95) 3 3 = s 6 := gr_ne (by decide)
  obtain ⟨u, u1, u2, u3⟩ := begin_L (t := sb s (20 + 2 * k)) (kd := kd) (sh := sh) (pc := pc) h2 hl hi hv hN hb hk (nI N) (fun x4_k26 s0_k26 => F_X0_begin_J83 (sb s (20 + 2 * k)) (nI i) (nI N) s0_k26) 1000 0 (st (st (st (sb (gr s 1 2 u95) 3) 0 0 (nI b)) 0 1 0) 0 2 0) (Nat.zero_le _) (by omega) rfl (fun q hq hx => by
    rw [st_ne (by decide), st_ne (by decide), st_ne (by decide), st_ne (by decide), st_ne (by decide), st_ne (by decide), st_ne (by decide), st_ne (by decide), st_ne (by decide), g4, g5, g6]
    exact old q hq (by omega))
  have u1' : F_X0_begin (sb (gr s 1 2 u95) 3) (sb s (20 + 2 * k)) (nI i) (nI N) = some u := by
    unfold F_X0_begin
    rw [bl, bs, if_neg (show ¬ (6 : Int32) < nI b from nI_nlt (a := 6) (by omega) (by decide))]
    exact u1
  have z0 : u 0 0 = nI b := by rw [u2]; rfl
  have z1 : u 0 1 = 0 := by rw [u2]; rfl
  have z2 : u 0 2 = nI 0 := by rw [u2]; rfl
  refine ⟨st (gr (gr (gr s 1 2 u95) 3 4 u) 16 4 (st (sb (gr (gr s 1 2 u95) 3 4 u) 16) 0 0 0)) 0 1 0, ?_, ?_, ?_, ?_, ?_, ?_, ?_, ?_, ?_⟩
  · rw [lawOf_c h2 hl hi hv (by omega) e1 e2 e3, bs, f1, bs, eS, u1', bs]
    unfold F_X2_forgetAll F_X6_withoutFault
    rw [bs, b2s, z0]
  · rw [st_eq, upd_ne (by decide), gr_ne (by decide), gr_ne (by decide), gr_ne (by decide)]
  · rw [st_eq, upd_eq]
  · rw [st_ne (by decide), gr_ne (by decide), gr_eq (by decide)]
    exact z1
  · rw [st_ne (by decide), gr_ne (by decide), gr_ne (by decide), gr_eq (by decide)]
    exact f2
  · have hB : BRel u b 0 kd sh pc := ⟨z0, z2, u3⟩
    refine hB.congr (fun p hp => ?_)
    show st (gr (gr (gr s 1 2 u95) 3 4 u) 16 4 (st (sb (gr (gr s 1 2 u95) 3 4 u) 16) 0 0 0)) 0 1 0 (3 + p) = u p
    rw [st_ne (by omega), gr_ne (by omega), gr_eq (by omega), Nat.add_sub_cancel_left]
  · refine f3.congr ?_
    show st (gr (gr (gr s 1 2 u95) 3 4 u) 16 4 (st (sb (gr (gr s 1 2 u95) 3 4 u) 16) 0 0 0)) 0 1 0 2 = u95 1
    rw [st_ne (by decide), gr_ne (by decide), gr_ne (by decide), gr_eq (by decide)]
  · rw [st_ne (by decide), gr_eq (by decide)]
    rfl
  · intro p hp
    rw [st_ne (by omega)]
    by_cases h : p < 20
    · rw [gr_eq (by omega), st_ne (by omega)]
      show gr (gr s 1 2 u95) 3 4 u (16 + (p - 16)) = s p
      rw [gr_ne (by omega), gr_ne (by omega), show 16 + (p - 16) = p by omega]
    · rw [gr_ne (by omega), gr_ne (by omega), gr_ne (by omega)]
theorem gar_m {u : ST} {b w : Nat} {kd sh pc : Nat → Nat} (hw : w < 256) (hb : b ≤ 6) (h7 : u 0 7 = nI w) (h8 : u 0 8 = nI b) (hr : ∀ q, q < b → u 8 (3 * q) = nI (kd q) ∧ u 8 (3 * q + 1) = nI (sh q) ∧ u 8 (3 * q + 2) = nI (pc q)) (old : ∀ q, q < 6 → b ≤ q → u 5 q = nI (kd q) ∧ u 6 q = nI (sh q) ∧ u 7 q = nI (pc q)) : ∃ t : ST, F_X7_takeGarden u = some t ∧ t 0 3 = nI b ∧ t 0 4 = 0 ∧ t 0 5 = 0 ∧ t 0 13 = 0 ∧ t 0 2 = nI w ∧ t 0 0 = u 0 0 ∧ t 0 1 = u 0 1 ∧ (∀ j, j < 64 → t 4 j = nI (nx w j)) ∧ (∀ q, q < 6 → t 5 q = nI (kd q) ∧ t 6 q = nI (sh q) ∧ t 7 q = nI (pc q)) ∧ ∀ p, p ≠ 0 → p ≠ 4 → p ≠ 5 → p ≠ 6 → p ≠ 7 → t p = u p := by
  obtain ⟨v, v1, v2, v3⟩ := take_m u hw
  have w0 : v 0 = st u 0 2 (nI w) 0 := v2 0 (by decide)
  have w8 : v 0 8 = nI b := by rw [w0]; exact h8
  have r5 : st v 0 3 (v 0 8) 5 = u 5 := by rw [st_ne (by decide), v2 5 (by decide), st_ne (by decide)]
  have r6 : st v 0 3 (v 0 8) 6 = u 6 := by rw [st_ne (by decide), v2 6 (by decide), st_ne (by decide)]
  have r7 : st v 0 3 (v 0 8) 7 = u 7 := by rw [st_ne (by decide), v2 7 (by decide), st_ne (by decide)]
  have r8 : st v 0 3 (v 0 8) 8 = u 8 := by rw [st_ne (by decide), v2 8 (by decide), st_ne (by decide)]
  obtain ⟨t, t1, t2, t3⟩ := take_L (kd := kd) (sh := sh) (pc := pc) hb (fun x1_k18 s0_k18 => F_X7_takeGarden_J78 s0_k18) 1000 0 (st v 0 3 (v 0 8)) (Nat.zero_le _) (by omega) w8 (fun q hq => by rw [r8]; exact hr q hq) (fun q hq hx => by rw [r5, r6, r7]; exact old q hq (by omega))
  have y0 : t 0 = st v 0 3 (v 0 8) 0 := t2 0 (by decide) (by decide) (by decide)
  refine ⟨st (st (st t 0 4 0) 0 5 0) 0 13 0, ?_, ?_, rfl, rfl, rfl, ?_, ?_, ?_, ?_, ?_, ?_⟩
  · unfold F_X7_takeGarden
    rw [h7, v1, bs]
    exact t1
  · show t 0 3 = _
    rw [y0]; exact w8
  · show t 0 2 = _
    rw [y0]
    show v 0 2 = _
    rw [w0]; rfl
  · show t 0 0 = _
    rw [y0]
    show v 0 0 = _
    rw [w0]; rfl
  · show t 0 1 = _
    rw [y0]
    show v 0 1 = _
    rw [w0]; rfl
  · intro j hj
    rw [st_ne (by decide), st_ne (by decide), st_ne (by decide), t2 4 (by decide) (by decide) (by decide), st_ne (by decide)]
    exact v3 j hj
  · intro q hq
    rw [st_ne (by decide), st_ne (by decide), st_ne (by decide), st_ne (by decide), st_ne (by decide), st_ne (by decide), st_ne (by decide), st_ne (by decide), st_ne (by decide)]
    exact t3 q hq
  · intro p p0 p4 p5 p6 p7
    rw [st_ne p0, st_ne p0, st_ne p0, t2 p p5 p6 p7, st_ne p0, v2 p p4, st_ne p0]
def ga (a : AS) (w b : Nat) (kd sh pc : Nat → Nat) : AS
  | 0 => fun q => if q = 0 then w else if q = 1 then b else 0
  | 1 => kd
  | 2 => sh
  | 3 => pc
  | 4 => nx w
  | p => a p
theorem gar_R {s m t v : ST} {a : AS} {b0 : ST} {w b : Nat} {kd sh pc : Nat → Nat} (ok : AOk a) (hc : CRel s a b0) (hm : MRel m a b0) (hw : w < 256) (hb : b ≤ 6) (hv : ∀ j, j < 6 → kd j < 3 ∧ sh j < 64 ∧ pc j ≤ 4)
    (c1 : t 0 0 = s 0 0) (c2 : t 0 1 = 0) (c3 : t 3 1 = 0) (c4 : t 1 0 = nI w) (c5 : BRel (sb t 3) b 0 kd sh pc) (c6 : LRel (sb t 1) (nx w)) (c7 : t 16 0 = 0) (c8 : ∀ p, 17 ≤ p → t p = s p)
    (m1 : v 0 3 = nI b) (m2 : v 0 4 = 0) (m3 : v 0 5 = 0) (m4 : v 0 13 = 0) (m5 : v 0 2 = nI w) (m6 : v 0 0 = 0) (m7 : v 0 1 = m 0 1) (m8 : ∀ j, j < 64 → v 4 j = nI (nx w j)) (m9 : ∀ q, q < 6 → v 5 q = nI (kd q) ∧ v 6 q = nI (sh q) ∧ v 7 q = nI (pc q)) (m10 : ∀ p, (1 ≤ p ∧ p ≤ 3) ∨ (10 ≤ p ∧ p ≤ 12) → v p = m p) : Rel t v := by
  obtain ⟨o0, o1, o2, o3, oB, oF, oR, oS⟩ := ok
  obtain ⟨⟨x1, x2, x3⟩, xw, xB, xL, ⟨xn, xR⟩, xS⟩ := hc
  obtain ⟨⟨y1, y2, y3⟩, yw, ⟨yc, ylk, yB⟩, yL, ⟨yn, yR⟩, yS⟩ := hm
  have bk : ∀ k, st (st b0 0 1 0) 0 2 0 (1 + k) = b0 (1 + k) := fun k => by rw [st_ne (by omega), st_ne (by omega)]
  refine ⟨ga a w b kd sh pc, st (st b0 0 1 0) 0 2 0, ?_, ?_, ?_⟩
  · exact ⟨hw, hb, Nat.zero_lt_succ _, Nat.zero_le _, hv, nx_ok w, fun j hj => absurd hj (Nat.not_lt_zero j), oS⟩
  · refine ⟨⟨c1.trans x1, c2, c3⟩, c4, c5, fun _ => c6, ⟨c7, fun j hj => ?_⟩, fun k hk => ?_⟩
    · rw [c8 17 (by decide), c8 18 (by decide), c8 19 (by decide)]
      exact xR j hj
    · rw [bk]
      exact (xS k hk).congr (c8 (20 + 2 * k + 0) (by omega)) (c8 (20 + 2 * k + 1) (by omega))
  · refine ⟨⟨m7.trans y1, m6, m2⟩, m5, ⟨m1, m3, m9⟩, fun _ => m8, ⟨m4, fun j hj => ?_⟩, fun k hk => ?_⟩
    · rw [m10 10 (by decide), m10 11 (by decide), m10 12 (by decide)]
      exact yR j hj
    · rw [bk, m10 1 (by decide), m10 2 (by decide), m10 3 (by decide)]
      exact yS k hk
theorem eq_garden {s1 m1 : ST} (hR : Rel s1 m1) (x1 x2 x3 x4 : Int32) : ∃ (r : Int32) (s2 : ST) (m2 : ST), F_X6_garden s1 x1 x2 x3 x4 = some (r, s2) ∧ F_X7_garden m1 x1 x2 x3 x4 = some (r, m2) ∧ Rel s2 m2 := by
  have hF := hR.fault 0
  obtain ⟨a, b, ok, hc, hm, hS⟩ := hR.sh
  unfold F_X6_garden F_X7_garden
  have no : ∀ v : Int32, b2 (F_X6_withoutFault s1 v) (fun v9 u9 => some (v9, u9)) = some (v, st s1 0 1 0) := fun v => rfl
  rw [no, no]
  rcases rng x1 4 (by decide) with ⟨k, hk, rfl⟩ | h
  · rw [(sht_y hk).1, (sht_y hk).2, bs, bs, if_neg n10, if_neg n10]
    rcases rng x2 3 (by decide) with ⟨l, hl, rfl⟩ | h
    · rw [(lan_y hl).1, (lan_y hl).2, bs, bs, if_neg n10, if_neg n10, ixN hk (by decide), bs]
      obtain ⟨hs, g8, g9, g1, g2, g3⟩ := hS k hk
      obtain ⟨r, r1, r2, r3⟩ := ft_eq (t := sb s1 (20 + 2 * k)) (m := st m1 0 0 0) hs g8 g9 hk g1 g2 (nI l) x3 x4
      rw [r1, r2, bs, bs]
      by_cases hr : r = 0
      · obtain ⟨so, i, n, rfl, rfl, hin⟩ := r3 hr
        have len : sb s1 (20 + 2 * k) 0 2 = nI (a 9 k) := (hs.2.1 so).2
        have cel : ∀ j, j < n → sb s1 (20 + 2 * k) 1 (i + j) = b (1 + k) (i + j) := fun j hj => hs.2.2 (i + j) (by omega)
        have mel : ∀ j, j < n → st m1 0 0 0 3 (60 * k + i + j) = b (1 + k) (i + j) := fun j hj => by rw [st_ne (by decide), Nat.add_assoc]; exact g3 (i + j) (by omega)
        have hX : 60 * k + i + n ≤ 240 := by omega
        have hn60 : n ≤ 60 := by omega
        have hF6 : FR (st (st m1 0 0 0) 0 6 (nI (60 * k + i))) (st m1 0 0 0) := FR.st6 ⟨fun _ _ _ => rfl, fun _ _ _ _ => rfl⟩ (Or.inl rfl) _
        rw [if_pos hr, if_pos hr, h60, nI_add]
        rcases rg_m (V := fun p => b (1 + k) (i + p)) hF6 ⟨hX, mel⟩ (N := n) rfl with ⟨u, p, u1, u2, u3, u4, u5, u6, u7⟩ | ⟨u, c, d1, d2, d3, u1, u2, u3, u4, u5, u6, u7, u8, u9, u10, u11, u12, u13⟩
        · have ff : F_X4_firstFault (sb s1 (20 + 2 * k)) (nI i) (nI n) = some (nI p) := by
            rw [ff_c (V := fun p => b (1 + k) (i + p)) len g9 hin cel u4 u5 (fun h => u6.elim (fun e => absurd e (by omega)) (fun z => z.2))]
            by_cases e : p < n
            · rw [if_pos e]
            · have e2 : p = n := by omega
              rw [if_neg e, e2]
              rcases u7 e2 with z | z
              · rw [if_pos z]
              · by_cases z4 : n ≤ 4
                · rw [if_pos z4]
                · rw [if_neg z4, if_neg z]
          have sub : nI (60 * k + i + p) - nI (60 * k + i) = nI p := by rw [pk_sub (by omega), Nat.add_sub_cancel_left]
          rw [ff, bs, if_neg (n9 (by omega)), no, u1, b2s, if_pos (show (0 : Int32) = 0 from rfl), u3, sub]
          refine ⟨_, _, u, rfl, rfl, ?_⟩
          obtain ⟨a', b', ok', hc', hm'⟩ := hF
          exact ⟨a', b', ok', hc', hm'.congr (fun j hj => u2.2 j (by omega) (by omega) (by omega)) (fun p hp => u2.1 p (by omega) (by omega))⟩
        · have ff : F_X4_firstFault (sb s1 (20 + 2 * k)) (nI i) (nI n) = some (-9) := by
            rw [ff_c (V := fun p => b (1 + k) (i + p)) len g9 hin cel (Nat.le_refl n) u6 (fun h => absurd h (Nat.lt_irrefl _)), if_neg (Nat.lt_irrefl n), if_neg (show ¬ n ≤ 4 by omega), if_pos (show (n - 4) % 5 = 0 by omega)]
          have ch : ∀ j, ∃ x : Nat × Nat × Nat, (j < c → F_X4_kindBy (b (1 + k) (i + (4 + 5 * j + 1))) = some (nI x.1) ∧ 8 * (b (1 + k) (i + (4 + 5 * j + 2)) - 48) + (b (1 + k) (i + (4 + 5 * j + 3)) - 48) = nI x.2.1 ∧ b (1 + k) (i + (4 + 5 * j + 4)) - 48 = nI x.2.2 ∧ u 8 (3 * j) = nI x.1 ∧ u 8 (3 * j + 1) = nI x.2.1 ∧ u 8 (3 * j + 2) = nI x.2.2 ∧ x.1 < 3 ∧ x.2.1 < 64 ∧ x.2.2 ≤ 4) ∧ (c ≤ j → x = (a 1 j, a 2 j, a 3 j)) := by
            intro j
            by_cases e : j < c
            · obtain ⟨q1, q2, q3, q4, p1, p2, p3, p4, p5, p6, p7, p8, p9, p10, p11, p12⟩ := u13 j e
              refine ⟨(q1, 8 * q2 + q3, q4), fun _ => ⟨p6, ?_, p9, p10, p11, p12, p1, (by show 8 * q2 + q3 < 64; omega), p5⟩, fun z => absurd z (by omega)⟩
              have p7' : b (1 + k) (i + (4 + 5 * j + 2)) - 48 = nI q2 := p7
              have p8' : b (1 + k) (i + (4 + 5 * j + 3)) - 48 = nI q3 := p8
              rw [p7', p8']
              show nI 8 * nI q2 + nI q3 = _
              rw [pk_mul, nI_add]
            · exact ⟨_, fun z => absurd z e, fun _ => rfl⟩
          obtain ⟨f, hf⟩ := Classical.axiomOfChoice ch
          obtain ⟨t, t1, t2, t3, t4, t5, t6, t7, t8, t9⟩ := gar_c (s := s1) (V := fun p => b (1 + k) (i + p)) (kd := fun j => (f j).1) (sh := fun j => (f j).2.1) (pc := fun j => (f j).2.2) len g9 hin cel u5 u3 u4 u8 u9 u10 u11 (fun j hj => ⟨((hf j).1 hj).1, ((hf j).1 hj).2.1, ((hf j).1 hj).2.2.1⟩) (fun q hq hx => by
            show s1 4 q = nI (f q).1 ∧ s1 5 q = nI (f q).2.1 ∧ s1 6 q = nI (f q).2.2
            rw [(hf q).2 hx]
            exact hc.2.2.1.2.2 q hq)
          obtain ⟨v, v1, v2, v3, v4, v5, v6, v7, v8, v9, v10, v11⟩ := gar_m (u := u) (kd := fun j => (f j).1) (sh := fun j => (f j).2.1) (pc := fun j => (f j).2.2) u11 u4 u12 u7 (fun j hj => ⟨((hf j).1 hj).2.2.2.1, ((hf j).1 hj).2.2.2.2.1, ((hf j).1 hj).2.2.2.2.2.1⟩) (fun q hq hx => by
            show u 5 q = nI (f q).1 ∧ u 6 q = nI (f q).2.1 ∧ u 7 q = nI (f q).2.2
            rw [(hf q).2 hx, u2.1 5 (by decide) (by decide), u2.1 6 (by decide) (by decide), u2.1 7 (by decide) (by decide)]
            exact hm.2.2.1.2.2 q hq)
          refine ⟨nI c, t, v, ?_, ?_, ?_⟩
          · rw [ff, bs, if_pos (show (-9 : Int32) = -9 from rfl)]
            exact t1
          · rw [u1, b2s, if_neg n10, v1, bs, v2]
          · refine gar_R ok hc hm u11 u4 (fun j hj => ?_) t2 t3 t4 t5 t6 t7 t8 t9 v2 v3 v4 v5 v6 ?_ ?_ v9 v10 (fun p hp => ?_)
            · show (f j).1 < 3 ∧ (f j).2.1 < 64 ∧ (f j).2.2 ≤ 4
              by_cases e : j < c
              · exact ((hf j).1 e).2.2.2.2.2.2
              · rw [(hf j).2 (Nat.le_of_not_lt e)]
                exact ok.2.2.2.2.1 j hj
            · rw [v7, u2.2 0 (by decide) (by decide) (by decide)]; rfl
            · rw [v8, u2.2 1 (by decide) (by decide) (by decide)]; rfl
            · rw [v11 p (by omega) (by omega) (by omega) (by omega) (by omega), u2.1 p (by omega) (by omega), st_ne (by omega)]
      · rw [if_neg hr, if_neg hr]
        refine ⟨_, _, st (st m1 0 0 0) 0 0 r, rfl, rfl, ?_⟩
        rw [st_st]
        exact hR.fault r
    · rw [(lan_n h).1, (lan_n h).2]
      exact ⟨-2, st s1 0 1 0, st m1 0 0 0, rfl, rfl, hF⟩
  · rw [(sht_n h).1, (sht_n h).2]
    exact ⟨-1, st s1 0 1 0, st m1 0 0 0, rfl, rfl, hF⟩
