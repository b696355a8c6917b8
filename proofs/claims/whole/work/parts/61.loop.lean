set_option maxHeartbeats 4000000 in
set_option maxRecDepth 100000 in
theorem law_switch {p : Program} {l : Launch} {e : Env} {s : State} {m : MethodId} {b L : Nat} {below : List Frame} {meth : Method} {c : Code} {xs : Nat → Int32} {D : va_G} {cI cS : ClassId} {aC aM : Nat → Nat} (hL : L ≤ 384) (C0 : lw_At p s m meth c b L xs) (hK : KK D cI cS s) {i : Nat} (hi : i + 6 ≤ L) (next : LG p l e s m b below meth c D cI cS aC aM 1263 i) : LG p l e s m b below meth c D cI cS aC aM 27 i := by
  obtain ⟨hx, hb, hr, hml, hown, hts, hX, hbl, hlocks, hgv⟩ := id C0
  have hbA : ¬ lA s b := Nat.not_le.mpr hbl
  intro s1 m1 H locs ls hR hP hD hS hl
  refine lv_aload_n hx hb dL_law_27 rfl (lv_at hl 0 rfl) ?_
  refine lv_iload_n hx hb dL_law_28 rfl (lv_at hl 3 rfl) ?_
  refine va_sld hx hb hX hbl hbA hS (lw_in (i := i) (c := 0) (by decide) hi hL rfl) dL_law_29 ?_
  refine lv_bipush (v := 63) hx hb dL_law_30 (by decide) ?_
  refine lv_iand hx hb dL_law_32 ?_
  refine lv_topi (fun z ez => ?_)
  by_cases c0 : z = 0
  · exact lv_tableIn (off := 147) (tgt := 180) hx hb dL_law_33 (by rw [c0]; decide) (by rw [c0]; decide) (by rw [c0]; decide) (by decide) (law_garden hL C0 hK hi next s1 m1 H locs ls hR hP hD hS hl)
  by_cases c1 : z = 1
  · exact lv_tableIn (off := 200) (tgt := 233) hx hb dL_law_33 (by rw [c1]; decide) (by rw [c1]; decide) (by rw [c1]; decide) (by decide) (law_ofBlock hL C0 hK hi next s1 m1 H locs ls hR hP hD hS hl)
  by_cases c2 : z = 2
  · exact lv_tableIn (off := 233) (tgt := 266) hx hb dL_law_33 (by rw [c2]; decide) (by rw [c2]; decide) (by rw [c2]; decide) (by decide) (law_becomes hL C0 hK hi next s1 m1 H locs ls hR hP hD hS hl)
  by_cases c3 : z = 3
  · exact lv_tableIn (off := 256) (tgt := 289) hx hb dL_law_33 (by rw [c3]; decide) (by rw [c3]; decide) (by rw [c3]; decide) (by decide) (law_enact hL C0 hK hi next s1 m1 H locs ls hR hP hD hS hl)
  by_cases c4 : z = 4
  · exact lv_tableIn (off := 279) (tgt := 312) hx hb dL_law_33 (by rw [c4]; decide) (by rw [c4]; decide) (by rw [c4]; decide) (by decide) (law_hurry hL C0 hK hi next s1 m1 H locs ls hR hP hD hS hl)
  by_cases c5 : z = 5
  · exact lv_tableIn (off := 312) (tgt := 345) hx hb dL_law_33 (by rw [c5]; decide) (by rw [c5]; decide) (by rw [c5]; decide) (by decide) (law_days hL C0 hK hi next s1 m1 H locs ls hR hP hD hS hl)
  by_cases c6 : z = 6
  · exact lv_tableIn (off := 335) (tgt := 368) hx hb dL_law_33 (by rw [c6]; decide) (by rw [c6]; decide) (by rw [c6]; decide) (by decide) (law_look hL C0 hK hi next s1 m1 H locs ls hR hP hD hS hl)
  by_cases c7 : z = 7
  · exact lv_tableIn (off := 358) (tgt := 391) hx hb dL_law_33 (by rw [c7]; decide) (by rw [c7]; decide) (by rw [c7]; decide) (by decide) (law_away hL C0 hK hi next s1 m1 H locs ls hR hP hD hS hl)
  by_cases c8 : z = 8
  · exact lv_tableIn (off := 381) (tgt := 414) hx hb dL_law_33 (by rw [c8]; decide) (by rw [c8]; decide) (by rw [c8]; decide) (by decide) (law_stroke hL C0 hK hi next s1 m1 H locs ls hR hP hD hS hl)
  by_cases c9 : z = 9
  · exact lv_tableIn (off := 414) (tgt := 447) hx hb dL_law_33 (by rw [c9]; decide) (by rw [c9]; decide) (by rw [c9]; decide) (by decide) (law_years hL C0 hK hi next s1 m1 H locs ls hR hP hD hS hl)
  by_cases c10 : z = 10
  · exact lv_tableIn (off := 477) (tgt := 510) hx hb dL_law_33 (by rw [c10]; decide) (by rw [c10]; decide) (by rw [c10]; decide) (by decide) (law_comes hL C0 hK hi next s1 m1 H locs ls hR hP hD hS hl)
  by_cases c11 : z = 11
  · exact lv_tableIn (off := 510) (tgt := 543) hx hb dL_law_33 (by rw [c11]; decide) (by rw [c11]; decide) (by rw [c11]; decide) (by decide) (law_strokes hL C0 hK hi next s1 m1 H locs ls hR hP hD hS hl)
  by_cases c12 : z = 12
  · exact lv_tableIn (off := 543) (tgt := 576) hx hb dL_law_33 (by rw [c12]; decide) (by rw [c12]; decide) (by rw [c12]; decide) (by decide) (law_round hL C0 hK hi next s1 m1 H locs ls hR hP hD hS hl)
  by_cases c13 : z = 13
  · exact lv_tableIn (off := 576) (tgt := 609) hx hb dL_law_33 (by rw [c13]; decide) (by rw [c13]; decide) (by rw [c13]; decide) (by decide) (law_eden hL C0 hK hi next s1 m1 H locs ls hR hP hD hS hl)
  by_cases c14 : z = 14
  · exact lv_tableIn (off := 600) (tgt := 633) hx hb dL_law_33 (by rw [c14]; decide) (by rw [c14]; decide) (by rw [c14]; decide) (by decide) (law_alike hL C0 hK hi next s1 m1 H locs ls hR hP hD hS hl)
  by_cases c15 : z = 15
  · exact lv_tableIn (off := 633) (tgt := 666) hx hb dL_law_33 (by rw [c15]; decide) (by rw [c15]; decide) (by rw [c15]; decide) (by decide) (law_laws hL C0 hK hi next s1 m1 H locs ls hR hP hD hS hl)
  by_cases c16 : z = 16
  · exact lv_tableIn (off := 696) (tgt := 729) hx hb dL_law_33 (by rw [c16]; decide) (by rw [c16]; decide) (by rw [c16]; decide) (by decide) (law_reading hL C0 hK hi next s1 m1 H locs ls hR hP hD hS hl)
  by_cases c17 : z = 17
  · exact lv_tableIn (off := 739) (tgt := 772) hx hb dL_law_33 (by rw [c17]; decide) (by rw [c17]; decide) (by rw [c17]; decide) (by decide) (law_back hL C0 hK hi next s1 m1 H locs ls hR hP hD hS hl)
  by_cases c18 : z = 18
  · exact lv_tableIn (off := 762) (tgt := 795) hx hb dL_law_33 (by rw [c18]; decide) (by rw [c18]; decide) (by rw [c18]; decide) (by decide) (law_paces hL C0 hK hi next s1 m1 H locs ls hR hP hD hS hl)
  by_cases c19 : z = 19
  · exact lv_tableIn (off := 785) (tgt := 818) hx hb dL_law_33 (by rw [c19]; decide) (by rw [c19]; decide) (by rw [c19]; decide) (by decide) (law_kinds hL C0 hK hi next s1 m1 H locs ls hR hP hD hS hl)
  by_cases c20 : z = 20
  · exact lv_tableIn (off := 808) (tgt := 841) hx hb dL_law_33 (by rw [c20]; decide) (by rw [c20]; decide) (by rw [c20]; decide) (by decide) (law_starts hL C0 hK hi next s1 m1 H locs ls hR hP hD hS hl)
  by_cases c21 : z = 21
  · exact lv_tableIn (off := 832) (tgt := 865) hx hb dL_law_33 (by rw [c21]; decide) (by rw [c21]; decide) (by rw [c21]; decide) (by decide) (law_odds hL C0 hK hi next s1 m1 H locs ls hR hP hD hS hl)
  by_cases c22 : z = 22
  · exact lv_tableIn (off := 886) (tgt := 919) hx hb dL_law_33 (by rw [c22]; decide) (by rw [c22]; decide) (by rw [c22]; decide) (by decide) (law_sheet hL C0 hK hi next s1 m1 H locs ls hR hP hD hS hl)
  by_cases c23 : z = 23
  · exact lv_tableIn (off := 929) (tgt := 962) hx hb dL_law_33 (by rw [c23]; decide) (by rw [c23]; decide) (by rw [c23]; decide) (by decide) (law_lose hL C0 hK hi next s1 m1 H locs ls hR hP hD hS hl)
  by_cases c24 : z = 24
  · exact lv_tableIn (off := 952) (tgt := 985) hx hb dL_law_33 (by rw [c24]; decide) (by rw [c24]; decide) (by rw [c24]; decide) (by decide) (law_put hL C0 hK hi next s1 m1 H locs ls hR hP hD hS hl)
  by_cases c25 : z = 25
  · exact lv_tableIn (off := 995) (tgt := 1028) hx hb dL_law_33 (by rw [c25]; decide) (by rw [c25]; decide) (by rw [c25]; decide) (by decide) (law_cell hL C0 hK hi next s1 m1 H locs ls hR hP hD hS hl)
  by_cases c26 : z = 26
  · exact lv_tableIn (off := 1039) (tgt := 1072) hx hb dL_law_33 (by rw [c26]; decide) (by rw [c26]; decide) (by rw [c26]; decide) (by decide) (law_copy hL C0 hK hi next s1 m1 H locs ls hR hP hD hS hl)
  by_cases c27 : z = 27
  · exact lv_tableIn (off := 1102) (tgt := 1135) hx hb dL_law_33 (by rw [c27]; decide) (by rw [c27]; decide) (by rw [c27]; decide) (by decide) (law_tell hL C0 hK hi next s1 m1 H locs ls hR hP hD hS hl)
  by_cases c28 : z = 28
  · exact lv_tableIn (off := 1125) (tgt := 1158) hx hb dL_law_33 (by rw [c28]; decide) (by rw [c28]; decide) (by rw [c28]; decide) (by decide) (law_sign hL C0 hK hi next s1 m1 H locs ls hR hP hD hS hl)
  by_cases c29 : z = 29
  · exact lv_tableIn (off := 1148) (tgt := 1181) hx hb dL_law_33 (by rw [c29]; decide) (by rw [c29]; decide) (by rw [c29]; decide) (by decide) (law_as hL C0 hK hi next s1 m1 H locs ls hR hP hD hS hl)
  by_cases c30 : z = 30
  · exact lv_tableIn (off := 1181) (tgt := 1214) hx hb dL_law_33 (by rw [c30]; decide) (by rw [c30]; decide) (by rw [c30]; decide) (by decide) (law_trace hL C0 hK hi next s1 m1 H locs ls hR hP hD hS hl)
  by_cases c31 : z = 31
  · exact lv_tableIn (off := 1194) (tgt := 1227) hx hb dL_law_33 (by rw [c31]; decide) (by rw [c31]; decide) (by rw [c31]; decide) (by decide) (law_fault hL C0 hK hi next s1 m1 H locs ls hR hP hD hS hl)
  by_cases c32 : z = 32
  · exact lv_tableIn (off := 1207) (tgt := 1240) hx hb dL_law_33 (by rw [c32]; decide) (by rw [c32]; decide) (by rw [c32]; decide) (by decide) (law_many hL C0 hK hi next s1 m1 H locs ls hR hP hD hS hl)
  refine lv_tableOut (tgt := 1263) hx hb dL_law_33 (by have g0 := ne_toInt c0 (k := 0) rfl; have g1 := ne_toInt c1 (k := 1) rfl; have g2 := ne_toInt c2 (k := 2) rfl; have g3 := ne_toInt c3 (k := 3) rfl; have g4 := ne_toInt c4 (k := 4) rfl; have g5 := ne_toInt c5 (k := 5) rfl; have g6 := ne_toInt c6 (k := 6) rfl; have g7 := ne_toInt c7 (k := 7) rfl; have g8 := ne_toInt c8 (k := 8) rfl; have g9 := ne_toInt c9 (k := 9) rfl; have g10 := ne_toInt c10 (k := 10) rfl; have g11 := ne_toInt c11 (k := 11) rfl; have g12 := ne_toInt c12 (k := 12) rfl; have g13 := ne_toInt c13 (k := 13) rfl; have g14 := ne_toInt c14 (k := 14) rfl; have g15 := ne_toInt c15 (k := 15) rfl; have g16 := ne_toInt c16 (k := 16) rfl; have g17 := ne_toInt c17 (k := 17) rfl; have g18 := ne_toInt c18 (k := 18) rfl; have g19 := ne_toInt c19 (k := 19) rfl; have g20 := ne_toInt c20 (k := 20) rfl; have g21 := ne_toInt c21 (k := 21) rfl; have g22 := ne_toInt c22 (k := 22) rfl; have g23 := ne_toInt c23 (k := 23) rfl; have g24 := ne_toInt c24 (k := 24) rfl; have g25 := ne_toInt c25 (k := 25) rfl; have g26 := ne_toInt c26 (k := 26) rfl; have g27 := ne_toInt c27 (k := 27) rfl; have g28 := ne_toInt c28 (k := 28) rfl; have g29 := ne_toInt c29 (k := 29) rfl; have g30 := ne_toInt c30 (k := 30) rfl; have g31 := ne_toInt c31 (k := 31) rfl; have g32 := ne_toInt c32 (k := 32) rfl; omega) (by decide) ?_
  exact next s1 m1 H locs ls hR hP hD hS hl
set_option maxHeartbeats 4000000 in
set_option maxRecDepth 100000 in
theorem law_loop {p : Program} {l : Launch} {e : Env} {s : State} {m : MethodId} {b L : Nat} {below : List Frame} {meth : Method} {c : Code} {xs : Nat → Int32} {D : va_G} {cI cS : ClassId} {aC aM : Nat → Nat} (hL : L ≤ 384) (C0 : lw_At p s m meth c b L xs) (hK : KK D cI cS s) : ∀ (n i : Nat), i ≤ L → L - i < n → LG p l e s m b below meth c D cI cS aC aM 18 i := by
  obtain ⟨hx, hb, hr, hml, hown, hts, hX, hbl, hlocks, hgv⟩ := id C0
  have hbA : ¬ lA s b := Nat.not_le.mpr hbl
  intro n
  induction n with
  | zero => intro i _ h; omega
  | succ n ih =>
    intro i hi hn s1 m1 H locs ls hR hP hD hS hl
    refine lv_iload_n hx hb dL_law_18 rfl (lv_at hl 3 rfl) ?_
    refine lv_aload_n hx hb dL_law_19 rfl (lv_at hl 0 rfl) ?_
    refine va_slen hx hb hX hbl hbA hS dL_law_20 ?_
    refine lv_bipush (v := 6) hx hb dL_law_21 (by decide) ?_
    refine lv_isub hx hb dL_law_23 ?_
    have hsub : (Int32.ofNat L - 6).toInt = (L : Int) - 6 := pk_sub_toInt (a := L) (b := 6) (by omega) (by decide)
    have hit : (nI i).toInt = (i : Int) := nI_toInt (by omega)
    refine lv_icmp_gt (tgt := 1269) hx hb dL_law_24 (by decide) (fun hc => ?_) (fun hc => ?_)
    · refine lv_iconst (v := 1) hx hb dL_law_1269 (by decide) ?_
      refine W.widen (k := 600000) (n := 7302250) (by decide) (by decide) ?_
      refine va_forget (fun q hq => hS.2.2 q hq) ?_
      exact lw_ret hx hb hr hlocks dL_law_1270
    · have h6 : i + 6 ≤ L := by
        have h2 : ¬ (Int32.ofNat L - 6).toInt < (nI i).toInt := fun z => hc (Int32.lt_iff_toInt_lt.mpr z)
        rw [hsub, hit] at h2
        omega
      refine law_switch hL C0 hK h6 ?_ s1 m1 H locs ls hR hP hD hS hl
      intro s1 m1 H locs ls hR hP hD hS hl
      refine lv_iinc (v := nI (i + 6)) (lv' := [(3, .int (nI (i + 6))), (0, .ref b), (1, .ref (aC 0)), (2, .ref (aM 0))]) hx hb dL_law_1263 hl (k := 3) rfl (nI_add i 6) (by decide) rfl (fun ls hl => ?_)
      refine lv_goto (tgt := 18) hx hb dL_law_1266 (by decide) ?_
      exact ih (i + 6) h6 (by omega) s1 m1 H locs ls hR hP hD hS (lv_sub hl [1, 2, 3, 0] rfl)
