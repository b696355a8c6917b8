noncomputable def F_X6_starts_L29 (x1 : Int32) (k : Int64 → Int32 → ST → Option (Int64 × ST)) : Nat → Int64 → Int32 → ST → Option (Int64 × ST)
  | 0, _, _, _ => none
  | n + 1, y2, x4, s0 =>
    if 64 ≤ x4 then
      k y2 x4 s0
    else
    (ix 6 x1).bind fun k46 =>
    (F_X2_areSo (sb (st s0 9 k46 x4) 16) (sb (st s0 9 k46 x4) 7) (sb (st s0 9 k46 x4) 1)).bind fun v59 =>
    if v59 = 0 then
      (F_X6_starts_L29 x1 k n) y2 (x4 + 1) (st s0 9 k46 x4)
    else
    (F_X6_starts_L29 x1 k n) (y2 ||| (1 <<< (x4.toInt64 &&& 63))) (x4 + 1) (st s0 9 k46 x4)
noncomputable def F_X6_starts_J78 (x1 : Int32) (y2 : Int64) (s0 : ST) : Option (Int64 × ST) :=
  some (y2, s0)
noncomputable def F_X6_starts (t0 : ST) (x1 : Int32) : Option (Int64 × ST) :=
  (F_X0_has (sb t0 3) x1).bind fun v5 =>
  if v5 = 0 then
    some (0, t0)
  else
  (F_X0_copyFrom (sb t0 7) (sb t0 3)).bind fun u21 =>
  F_X6_starts_L29 x1 (fun y2_k29 x4_k29 s0_k29 => F_X6_starts_J78 x1 y2_k29 s0_k29) 1000 0 0 (gr t0 7 4 u21)
abbrev rm_X6_starts : Room := { frames := 4, cells := 0, slots := 0, locals := 91 }
set_option maxHeartbeats 4000000 in
set_option maxRecDepth 100000 in
theorem c_X6_starts (l : Launch) (D : va_G) (cI cS : ClassId) (a0 : Nat → Nat) (t0 : ST) (x1 : Int32) (r : Int64) (t' : ST) (hF : F_X6_starts t0 x1 = some (r, t')) : Met l yX6_starts (Cond.code yX6_starts cX6_starts 5 (some .long) :: ALL) rm_X6_starts (PreW D cI cS [.ref (a0 0), .int x1] (pC cI cS a0 t0)) (va_Ql (fun x (_ : Unit) => x = r) (fun _ t => va_P D vwCl (pC cI cS a0 t') t.heap) (AD (pC cI cS a0 t0))) 0 0 (AD (pC cI cS a0 t0)) := by
  refine mW l D cI cS (by decide) (Nat.le_of_ble_eq_true rfl) ?_
  intro p e s m below meth c ls hx hb hr hml hown hts hlocks hP hK hD hS hl
  have hown : s.vm.findClass RX6 = some m.cls := hown
  have hl : lv_has ls 5 [(0, .ref (a0 0)), (1, .int x1)] := hl
  unfold F_X6_starts at hF
  refine lv_aload_n hx hb dX6_starts_0 rfl (lv_at hl 0 rfl) ?_
  refine va_get (D := D) (ci := 5) (v := .ref (a0 3)) (C := RX6) (T := TX6) (N := 8) hx hb hts (fun w h => List.mem_cons_of_mem _ (inAX6 w h)) hown hK.1 hP 0 (at_C_0 cI cS _ _) rfl 1 (by decide) (hts _ (List.mem_cons_of_mem _ fl_RX6_21)) (fun _ h9 => h9) rfl dX6_starts_1 ?_
  refine lv_iload_n hx hb dX6_starts_4 rfl (lv_at hl 1 rfl) ?_
  obtain ⟨v5, h5, hF⟩ := bd hF
  refine cRb (va_runV (As := [.int x1]) (rest := []) ⟨hx, hb, hml, hown, hts⟩ (c_X0_has l D cI cS (sa a0 3) (sb t0 3) x1 v5 h5) (cwVA hts (TW.cons _) lv_X0_has ml_RX6_92 ⟨rfl, rfl⟩ ⟨(Nat.le_of_ble_eq_true rfl), (Nat.le_of_ble_eq_true rfl)⟩) (pRV hK (hP.sub [3, 4, 5, 6] (su_C_B3 cI cS _ _)) (ci := 0) rfl rfl) rfl rfl hl.1 rfl (lv_room (Nat.le_of_ble_eq_true rfl)) dX6_starts_5 ⟨Nat.le_refl _, Nat.le_refl _⟩) (fun b5 => ?_)
  refine lv_if_ne (tgt := 13) hx hb dX6_starts_8 (by decide) (fun c8 => ?_) (fun c8 => ?_)
  · replace hF := iq c8 hF
    refine lv_aload_n hx hb dX6_starts_13 rfl (lv_at hl 0 rfl) ?_
    refine va_get (D := D) (ci := 5) (v := .ref (a0 7)) (C := RX6) (T := TX6) (N := 8) hx hb hts (fun w h => List.mem_cons_of_mem _ (inAX6 w h)) hown hK.1 hP 0 (at_C_0 cI cS _ _) rfl 2 (by decide) (hts _ (List.mem_cons_of_mem _ fl_RX6_25)) (fun _ h9 => h9) rfl dX6_starts_14 ?_
    refine lv_aload_n hx hb dX6_starts_17 rfl (lv_at hl 0 rfl) ?_
    refine va_get (D := D) (ci := 5) (v := .ref (a0 3)) (C := RX6) (T := TX6) (N := 8) hx hb hts (fun w h => List.mem_cons_of_mem _ (inAX6 w h)) hown hK.1 hP 0 (at_C_0 cI cS _ _) rfl 1 (by decide) (hts _ (List.mem_cons_of_mem _ fl_RX6_21)) (fun _ h9 => h9) rfl dX6_starts_18 ?_
    obtain ⟨u21, h21, hF⟩ := bd hF
    refine cWv (ws' := pC cI cS a0 (gr t0 7 4 u21)) (va_runV (As := [.ref (a0 3)]) (rest := []) ⟨hx, hb, hml, hown, hts⟩ (c_X0_copyFrom l D cI cS (sa a0 7) (sa a0 3) (sb t0 7) (sb t0 3) u21 h21) (cwVA hts (TW.cons _) lv_X0_copyFrom ml_RX6_130 ⟨rfl, rfl⟩ ⟨(Nat.le_of_ble_eq_true rfl), (Nat.le_of_ble_eq_true rfl)⟩) (pWV hK (hP.sub [7, 8, 9, 10, 3, 4, 5, 6] (su_C_B7_B3 cI cS _ _)) (hD.sub [7, 8, 9, 10, 3, 4, 5, 6] (by decide) (sm_C_B7_B3 cI cS _ _)) (ci := 0) rfl rfl) rfl rfl hl.1 rfl (lv_room (Nat.le_of_ble_eq_true rfl)) dX6_starts_21 ⟨Nat.le_refl _, Nat.le_refl _⟩) hP hD hS [7, 8, 9, 10, 3, 4, 5, 6] (sm_C_B7_B3 cI cS _ _) [.inl 0, .inl 1, .inl 2, .inr 4, .inr 5, .inr 6, .inr 7, .inr 0, .inr 1, .inr 2, .inr 3, .inl 11, .inl 12, .inl 13, .inl 14, .inl 15, .inl 16, .inl 17, .inl 18, .inl 19, .inl 20, .inl 21, .inl 22, .inl 23, .inl 24, .inl 25, .inl 26, .inl 27, .inl 28] (pn_C_B7_B3 cI cS _ _ _) rfl (ad_C cI cS _ _ _) (fun H locs hP hD hS => ?_)
    refine lv_lconst (v := 0) hx hb dX6_starts_24 (by decide) ?_
    refine lv_lstore_n (lv' := [(2, .long 0), (0, .ref (a0 0)), (1, .int x1)]) hx hb dX6_starts_25 rfl hl (by decide) rfl (fun ls hl => ?_)
    refine lv_iconst (v := 0) hx hb dX6_starts_26 (by decide) ?_
    refine lv_istore (lv' := [(4, .int 0), (2, .long 0), (0, .ref (a0 0)), (1, .int x1)]) hx hb dX6_starts_27 hl (by decide) rfl (fun ls hl => ?_)
    have L29 : ∀ (n_29 : Nat) (y2_29 : Int64) (x4_29 : Int32) (s0_29 : ST) (H : Heap) (locs : List Loc) (ls : Array Slot), va_P D vwCl (pC cI cS a0 s0_29) H → va_D (AD (pC cI cS a0 t0)) (pC cI cS a0 s0_29) → va_S (AD (pC cI cS a0 t0)) s.heap H locs → lv_has ls 5 [(0, .ref (a0 0)), (1, .int x1), (2, .long y2_29), (4, .int x4_29)] → F_X6_starts_L29 x1 (fun y2_k29 x4_k29 s0_k29 => F_X6_starts_J78 x1 y2_k29 s0_k29) n_29 y2_29 x4_29 s0_29 = some (r, t') → W p l e rm_X6_starts s m [.ref (a0 0), .int x1].toArray below meth c H locs 0 0 (MQ below (va_Ql (fun x (_ : Unit) => x = r) (fun _ t => va_P D vwCl (pC cI cS a0 t') t.heap) (AD (pC cI cS a0 t0))) [.ref (a0 0), .int x1].toArray s 0 0 (AD (pC cI cS a0 t0))) (F0 m 29 ls []) := by
      intro n_29
      induction n_29 with
      | zero => intro y2_29 x4_29 s0_29 H locs ls hP hD hS hl hF; exact nomatch hF
      | succ n_29 ih29 =>
        intro y2_29 x4_29 s0_29 H locs ls hP hD hS hl hF
        rw [F_X6_starts_L29.eq_2] at hF
        refine lv_iload hx hb dX6_starts_29 (lv_at hl 3 rfl) ?_
        refine lv_bipush (v := 64) hx hb dX6_starts_31 (by decide) ?_
        refine lv_icmp_ge (tgt := 78) hx hb dX6_starts_33 (by decide) (fun c33 => ?_) (fun c33 => ?_)
        · replace hF := ip c33 hF
          have hF : F_X6_starts_J78 x1 y2_29 s0_29 = some (r, t') := hF
          unfold F_X6_starts_J78 at hF
          refine lv_lload_n hx hb dX6_starts_78 rfl (lv_at hl 2 rfl) ?_
          exact W.lret hx hb hr (fun t ht hW => ⟨⟨_, (), rfl, (Prod.mk.inj (Option.some.inj hF)).1, by show va_P _ _ _ t.heap; rw [ht, ← (Prod.mk.inj (Option.some.inj hF)).2]; exact hP⟩, hS.F ht⟩) hS.2.2 dX6_starts_79
        · replace hF := iq c33 hF
          refine lv_aload_n hx hb dX6_starts_36 rfl (lv_at hl 0 rfl) ?_
          refine va_get (D := D) (ci := 5) (v := .ref (a0 7)) (C := RX6) (T := TX6) (N := 8) hx hb hts (fun w h => List.mem_cons_of_mem _ (inAX6 w h)) hown hK.1 hP 0 (at_C_0 cI cS _ _) rfl 2 (by decide) (hts _ (List.mem_cons_of_mem _ fl_RX6_25)) (fun _ h9 => h9) rfl dX6_starts_37 ?_
          refine va_getN (D := D) (ci := 0) (v := .ref (a0 9)) (C := RX0) (T := TX0) (N := 6) hx hb hts (fun w h => List.mem_cons_of_mem _ (inAX0 w h)) hown hK.1 hP 7 (at_C_7 cI cS _ _) rfl 4 (by decide) (nu_RX6_99 hK) (fun _ h9 => h9) rfl dX6_starts_40 ?_
          refine lv_iload_n hx hb dX6_starts_43 rfl (lv_at hl 1 rfl) ?_
          refine lv_iload hx hb dX6_starts_44 (lv_at hl 3 rfl) ?_
          obtain ⟨k46, h46, hF⟩ := bd hF
          refine wI (ws' := pC cI cS a0 (st s0_29 9 k46 x4_29)) hx hb hK.1 hP hD hS 9 0 (at_C_9 cI cS _ _) rfl h46 (sw_C_9 cI cS _ _ _ _) dX6_starts_46 (fun H locs hP hD hS => ?_)
          refine lv_aload_n hx hb dX6_starts_47 rfl (lv_at hl 0 rfl) ?_
          refine va_get (D := D) (ci := 5) (v := .ref (a0 16)) (C := RX6) (T := TX6) (N := 8) hx hb hts (fun w h => List.mem_cons_of_mem _ (inAX6 w h)) hown hK.1 hP 0 (at_C_0 cI cS _ _) rfl 4 (by decide) (hts _ (List.mem_cons_of_mem _ fl_RX6_38)) (fun _ h9 => h9) rfl dX6_starts_48 ?_
          refine lv_aload_n hx hb dX6_starts_51 rfl (lv_at hl 0 rfl) ?_
          refine va_get (D := D) (ci := 5) (v := .ref (a0 7)) (C := RX6) (T := TX6) (N := 8) hx hb hts (fun w h => List.mem_cons_of_mem _ (inAX6 w h)) hown hK.1 hP 0 (at_C_0 cI cS _ _) rfl 2 (by decide) (hts _ (List.mem_cons_of_mem _ fl_RX6_25)) (fun _ h9 => h9) rfl dX6_starts_52 ?_
          refine lv_aload_n hx hb dX6_starts_55 rfl (lv_at hl 0 rfl) ?_
          refine va_get (D := D) (ci := 5) (v := .ref (a0 1)) (C := RX6) (T := TX6) (N := 8) hx hb hts (fun w h => List.mem_cons_of_mem _ (inAX6 w h)) hown hK.1 hP 0 (at_C_0 cI cS _ _) rfl 0 (by decide) (hts _ (List.mem_cons_of_mem _ fl_RX6_12)) (fun _ h9 => h9) rfl dX6_starts_56 ?_
          obtain ⟨v59, h59, hF⟩ := bd hF
          refine cRb (va_runV (As := [.ref (a0 7), .ref (a0 1)]) (rest := []) ⟨hx, hb, hml, hown, hts⟩ (c_X2_areSo l D cI cS (sa a0 16) (sa a0 7) (sa a0 1) (sb (st s0_29 9 k46 x4_29) 16) (sb (st s0_29 9 k46 x4_29) 7) (sb (st s0_29 9 k46 x4_29) 1) v59 h59) (cwVA hts (TW.cons _) lv_X2_areSo ml_RX6_193 ⟨rfl, rfl⟩ ⟨(Nat.le_of_ble_eq_true rfl), (Nat.le_of_ble_eq_true rfl)⟩) (pRV hK (hP.sub [16, 17, 18, 19, 7, 8, 9, 10, 1, 2] (su_C_D16_B7_L1 cI cS _ _)) (ci := 2) rfl rfl) rfl rfl hl.1 rfl (lv_room (Nat.le_of_ble_eq_true rfl)) dX6_starts_59 ⟨Nat.le_refl _, Nat.le_refl _⟩) (fun b59 => ?_)
          refine lv_if_eq (tgt := 72) hx hb dX6_starts_62 (by decide) (fun c62 => ?_) (fun c62 => ?_)
          · replace hF := ip c62 hF
            refine lv_iinc (v := (x4_29 + 1)) (lv' := [(4, .int (x4_29 + 1)), (0, .ref (a0 0)), (1, .int x1), (2, .long y2_29)]) hx hb dX6_starts_72 hl (k := 3) rfl rfl (by decide) rfl (fun ls hl => ?_)
            refine lv_goto (tgt := 29) hx hb dX6_starts_75 (by decide) ?_
            exact ih29 y2_29 (x4_29 + 1) (st s0_29 9 k46 x4_29) _ _ _ hP hD hS (lv_sub hl [1, 2, 3, 0] rfl) hF
          · replace hF := iq c62 hF
            refine lv_lload_n hx hb dX6_starts_65 rfl (lv_at hl 2 rfl) ?_
            refine lv_lconst (v := 1) hx hb dX6_starts_66 (by decide) ?_
            refine lv_iload hx hb dX6_starts_67 (lv_at hl 3 rfl) ?_
            refine lv_lshl (v := (1 <<< (x4_29.toInt64 &&& 63))) hx hb dX6_starts_69 rfl ?_
            refine lv_lor hx hb dX6_starts_70 ?_
            refine lv_lstore_n (lv' := [(2, .long (y2_29 ||| (1 <<< (x4_29.toInt64 &&& 63)))), (0, .ref (a0 0)), (1, .int x1), (4, .int x4_29)]) hx hb dX6_starts_71 rfl hl (by decide) rfl (fun ls hl => ?_)
            refine lv_iinc (v := (x4_29 + 1)) (lv' := [(4, .int (x4_29 + 1)), (2, .long (y2_29 ||| (1 <<< (x4_29.toInt64 &&& 63)))), (0, .ref (a0 0)), (1, .int x1)]) hx hb dX6_starts_72 hl (k := 3) rfl rfl (by decide) rfl (fun ls hl => ?_)
            refine lv_goto (tgt := 29) hx hb dX6_starts_75 (by decide) ?_
            exact ih29 (y2_29 ||| (1 <<< (x4_29.toInt64 &&& 63))) (x4_29 + 1) (st s0_29 9 k46 x4_29) _ _ _ hP hD hS (lv_sub hl [2, 3, 1, 0] rfl) hF
    exact L29 1000 0 0 (gr t0 7 4 u21) _ _ _ hP hD hS (lv_sub hl [2, 3, 1, 0] rfl) hF
  · replace hF := ip c8 hF
    refine lv_lconst (v := 0) hx hb dX6_starts_11 (by decide) ?_
    exact W.lret hx hb hr (fun t ht hW => ⟨⟨_, (), rfl, (Prod.mk.inj (Option.some.inj hF)).1, by show va_P _ _ _ t.heap; rw [ht, ← (Prod.mk.inj (Option.some.inj hF)).2]; exact hP⟩, hS.F ht⟩) hS.2.2 dX6_starts_12
noncomputable def F_X6_odds_L57 (t0 : ST) (x1 : Int32) (x2 : Int32) (x3 : Int32) (x4 : Int32) (x6 : Int32) (k : Int32 → Int32 → Option Int64) : Nat → Int32 → Int32 → Option Int64
  | 0, _, _ => none
  | n + 1, x5, x7 =>
    if 64 ≤ x7 then
      k x5 x7
    else
    (F_X0_stepsADay (sb t0 3) x1).bind fun v75 =>
    (F_X1_behind (sb t0 1) x7 v75 x2).bind fun v79 =>
    if v79 = x3 then
      (F_X6_odds_L57 t0 x1 x2 x3 x4 x6 k n) (x5 + 1) (x7 + 1)
    else
    (F_X6_odds_L57 t0 x1 x2 x3 x4 x6 k n) x5 (x7 + 1)
noncomputable def F_X6_odds_L95 (t0 : ST) (x1 : Int32) (x2 : Int32) (x3 : Int32) (x4 : Int32) (k : Int32 → Int32 → Option Int64) : Nat → Int32 → Int32 → Option Int64
  | 0, _, _ => none
  | n + 1, x5, x6 =>
    if x6 ≤ 1 then
      k x5 x6
    else
    if (x5 - x5 / 2 * 2) = 0 then
      (F_X6_odds_L95 t0 x1 x2 x3 x4 k n) (x5 / 2) (x6 / 2)
    else
    k x5 x6
noncomputable def F_X6_odds_J123 (t0 : ST) (x1 : Int32) (x2 : Int32) (x3 : Int32) (x4 : Int32) (x5 : Int32) (x6 : Int32) : Option Int64 :=
  if x4 = 0 then
    some x5.toInt64
  else
  some x6.toInt64
noncomputable def F_X6_odds_J95 (t0 : ST) (x1 : Int32) (x2 : Int32) (x3 : Int32) (x4 : Int32) (x5 : Int32) (x6 : Int32) : Option Int64 :=
  if x6 ≤ 1 then
    if x4 = 0 then
      some x5.toInt64
    else
    some x6.toInt64
  else
  if (x5 - x5 / 2 * 2) = 0 then
    F_X6_odds_L95 t0 x1 x2 x3 x4 (fun x5_k95 x6_k95 => F_X6_odds_J123 t0 x1 x2 x3 x4 x5_k95 x6_k95) 1000 (x5 / 2) (x6 / 2)
  else
  if x4 = 0 then
    some x5.toInt64
  else
  some x6.toInt64
noncomputable def F_X6_odds (t0 : ST) (x1 : Int32) (x2 : Int32) (x3 : Int32) (x4 : Int32) : Option Int64 :=
  (F_X0_has (sb t0 3) x1).bind fun v5 =>
  if v5 = 0 then
    some (-9223372036854775808)
  else
  if x2 < 0 then
    some (-9223372036854775808)
  else
  if 99 < x2 then
    some (-9223372036854775808)
  else
  (F_X6_isShape x3).bind fun v26 =>
  if v26 = 0 then
    some (-9223372036854775808)
  else
  if x4 < 0 then
    some (-9223372036854775808)
  else
  if x4 ≤ 1 then
    F_X6_odds_L57 t0 x1 x2 x3 x4 64 (fun x5_k57 x7_k57 => F_X6_odds_J95 t0 x1 x2 x3 x4 x5_k57 64) 1000 0 0
  else
  some (-9223372036854775808)
abbrev rm_X6_odds : Room := { frames := 3, cells := 0, slots := 0, locals := 67 }
set_option maxHeartbeats 4000000 in
set_option maxRecDepth 100000 in
theorem c_X6_odds (l : Launch) (D : va_G) (cI cS : ClassId) (a0 : Nat → Nat) (t0 : ST) (x1 : Int32) (x2 : Int32) (x3 : Int32) (x4 : Int32) (r : Int64) (hF : F_X6_odds t0 x1 x2 x3 x4 = some r) : Met l yX6_odds (Cond.code yX6_odds cX6_odds 8 (some .long) :: ALL) rm_X6_odds (PreR D cI cS [.ref (a0 0), .int x1, .int x2, .int x3, .int x4] (pC cI cS a0 t0)) (vp_Sl (fun x => x = r)) 0 0 (fun _ => False) := by
  refine mR l D cI cS (by decide) (Nat.le_of_ble_eq_true rfl) ?_
  intro p e s m below meth c ls hx hb hr hml hown hts hlocks hP hK hl
  have hown : s.vm.findClass RX6 = some m.cls := hown
  have hl : lv_has ls 8 [(0, .ref (a0 0)), (1, .int x1), (2, .int x2), (3, .int x3), (4, .int x4)] := hl
  unfold F_X6_odds at hF
  refine lv_aload_n hx hb dX6_odds_0 rfl (lv_at hl 0 rfl) ?_
  refine va_get (D := D) (ci := 5) (v := .ref (a0 3)) (C := RX6) (T := TX6) (N := 8) hx hb hts (fun w h => List.mem_cons_of_mem _ (inAX6 w h)) hown hK.1 hP 0 (at_C_0 cI cS _ _) rfl 1 (by decide) (hts _ (List.mem_cons_of_mem _ fl_RX6_21)) (fun _ h9 => h9) rfl dX6_odds_1 ?_
  refine lv_iload_n hx hb dX6_odds_4 rfl (lv_at hl 1 rfl) ?_
  obtain ⟨v5, h5, hF⟩ := bd hF
  refine cRb (va_runV (As := [.int x1]) (rest := []) ⟨hx, hb, hml, hown, hts⟩ (c_X0_has l D cI cS (sa a0 3) (sb t0 3) x1 v5 h5) (cwVA hts (TW.cons _) lv_X0_has ml_RX6_92 ⟨rfl, rfl⟩ ⟨(Nat.le_of_ble_eq_true rfl), (Nat.le_of_ble_eq_true rfl)⟩) (pRV hK (hP.sub [3, 4, 5, 6] (su_C_B3 cI cS _ _)) (ci := 0) rfl rfl) rfl rfl hl.1 rfl (lv_room (Nat.le_of_ble_eq_true rfl)) dX6_odds_5 ⟨Nat.le_refl _, Nat.le_refl _⟩) (fun b5 => ?_)
  refine lv_if_ne (tgt := 15) hx hb dX6_odds_8 (by decide) (fun c8 => ?_) (fun c8 => ?_)
  · replace hF := iq c8 hF
    refine lv_iload_n hx hb dX6_odds_15 rfl (lv_at hl 2 rfl) ?_
    refine lv_if_lt (tgt := 43) hx hb dX6_odds_16 (by decide) (fun c16 => ?_) (fun c16 => ?_)
    · replace hF := ip c16 hF
      refine lv_ldc2 (own := RX6) (v := (-9223372036854775808)) hx hb hown (hts _ (List.mem_cons_of_mem _ cn_RX6_177)) dX6_odds_43 ?_
      exact W.lret hx hb hr (fun t ht hW => ⟨_, rfl, (Option.some.inj hF), ht⟩) (fun _ h => nomatch h) dX6_odds_46
    · replace hF := iq c16 hF
      refine lv_iload_n hx hb dX6_odds_19 rfl (lv_at hl 2 rfl) ?_
      refine lv_bipush (v := 99) hx hb dX6_odds_20 (by decide) ?_
      refine lv_icmp_gt (tgt := 43) hx hb dX6_odds_22 (by decide) (fun c22 => ?_) (fun c22 => ?_)
      · replace hF := ip c22 hF
        refine lv_ldc2 (own := RX6) (v := (-9223372036854775808)) hx hb hown (hts _ (List.mem_cons_of_mem _ cn_RX6_177)) dX6_odds_43 ?_
        exact W.lret hx hb hr (fun t ht hW => ⟨_, rfl, (Option.some.inj hF), ht⟩) (fun _ h => nomatch h) dX6_odds_46
      · replace hF := iq c22 hF
        refine lv_iload_n hx hb dX6_odds_25 rfl (lv_at hl 3 rfl) ?_
        obtain ⟨v26, h26, hF⟩ := bd hF
        refine cRb (va_runS (As := [.int x3]) (rest := []) ⟨hx, hb, hml, hown, hts⟩ (c_X6_isShape l D cI cS x3 v26 h26) (cwSA hts (TW.cons _) ls_X6_isShape ml_RX6_168 ⟨rfl, rfl⟩ ⟨(Nat.le_of_ble_eq_true rfl), (Nat.le_of_ble_eq_true rfl)⟩) (pRS hK pnil) rfl rfl hl.1 rfl (lv_room (Nat.le_of_ble_eq_true rfl)) dX6_odds_26 ⟨Nat.le_refl _, Nat.le_refl _⟩) (fun b26 => ?_)
        refine lv_if_eq (tgt := 43) hx hb dX6_odds_29 (by decide) (fun c29 => ?_) (fun c29 => ?_)
        · replace hF := ip c29 hF
          refine lv_ldc2 (own := RX6) (v := (-9223372036854775808)) hx hb hown (hts _ (List.mem_cons_of_mem _ cn_RX6_177)) dX6_odds_43 ?_
          exact W.lret hx hb hr (fun t ht hW => ⟨_, rfl, (Option.some.inj hF), ht⟩) (fun _ h => nomatch h) dX6_odds_46
        · replace hF := iq c29 hF
          refine lv_iload hx hb dX6_odds_32 (lv_at hl 4 rfl) ?_
          refine lv_if_lt (tgt := 43) hx hb dX6_odds_34 (by decide) (fun c34 => ?_) (fun c34 => ?_)
          · replace hF := ip c34 hF
            refine lv_ldc2 (own := RX6) (v := (-9223372036854775808)) hx hb hown (hts _ (List.mem_cons_of_mem _ cn_RX6_177)) dX6_odds_43 ?_
            exact W.lret hx hb hr (fun t ht hW => ⟨_, rfl, (Option.some.inj hF), ht⟩) (fun _ h => nomatch h) dX6_odds_46
          · replace hF := iq c34 hF
            refine lv_iload hx hb dX6_odds_37 (lv_at hl 4 rfl) ?_
            refine lv_iconst (v := 1) hx hb dX6_odds_39 (by decide) ?_
            refine lv_icmp_le (tgt := 47) hx hb dX6_odds_40 (by decide) (fun c40 => ?_) (fun c40 => ?_)
            · replace hF := ip c40 hF
              refine lv_iconst (v := 0) hx hb dX6_odds_47 (by decide) ?_
              refine lv_istore (lv' := [(5, .int 0), (0, .ref (a0 0)), (1, .int x1), (2, .int x2), (3, .int x3), (4, .int x4)]) hx hb dX6_odds_48 hl (by decide) rfl (fun ls hl => ?_)
              refine lv_bipush (v := 64) hx hb dX6_odds_50 (by decide) ?_
              refine lv_istore (lv' := [(6, .int 64), (5, .int 0), (0, .ref (a0 0)), (1, .int x1), (2, .int x2), (3, .int x3), (4, .int x4)]) hx hb dX6_odds_52 hl (by decide) rfl (fun ls hl => ?_)
              refine lv_iconst (v := 0) hx hb dX6_odds_54 (by decide) ?_
              refine lv_istore (lv' := [(7, .int 0), (6, .int 64), (5, .int 0), (0, .ref (a0 0)), (1, .int x1), (2, .int x2), (3, .int x3), (4, .int x4)]) hx hb dX6_odds_55 hl (by decide) rfl (fun ls hl => ?_)
              have L57 : ∀ (n_57 : Nat) (x5_57 : Int32) (x7_57 : Int32) (ls : Array Slot), lv_has ls 8 [(0, .ref (a0 0)), (1, .int x1), (2, .int x2), (3, .int x3), (4, .int x4), (5, .int x5_57), (6, .int 64), (7, .int x7_57)] → F_X6_odds_L57 t0 x1 x2 x3 x4 64 (fun x5_k57 x7_k57 => F_X6_odds_J95 t0 x1 x2 x3 x4 x5_k57 64) n_57 x5_57 x7_57 = some r → W p l e rm_X6_odds s m [.ref (a0 0), .int x1, .int x2, .int x3, .int x4].toArray below meth c s.heap [] 0 0 (MQ below (vp_Sl (fun x => x = r)) [.ref (a0 0), .int x1, .int x2, .int x3, .int x4].toArray s 0 0 (fun _ => False)) (F0 m 57 ls []) := by
                intro n_57
                induction n_57 with
                | zero => intro x5_57 x7_57 ls hl hF; exact nomatch hF
                | succ n_57 ih57 =>
                  intro x5_57 x7_57 ls hl hF
                  rw [F_X6_odds_L57.eq_2] at hF
                  refine lv_iload hx hb dX6_odds_57 (lv_at hl 7 rfl) ?_
                  refine lv_bipush (v := 64) hx hb dX6_odds_59 (by decide) ?_
                  refine lv_icmp_ge (tgt := 95) hx hb dX6_odds_61 (by decide) (fun c61 => ?_) (fun c61 => ?_)
                  · replace hF := ip c61 hF
                    have hF : F_X6_odds_J95 t0 x1 x2 x3 x4 x5_57 64 = some r := hF
                    unfold F_X6_odds_J95 at hF
                    refine lv_iload hx hb dX6_odds_95 (lv_at hl 6 rfl) ?_
                    refine lv_iconst (v := 1) hx hb dX6_odds_97 (by decide) ?_
                    refine lv_icmp_le (tgt := 123) hx hb dX6_odds_98 (by decide) (fun c98 => ?_) (fun c98 => ?_)
                    · replace hF := ip c98 hF
                      refine lv_iload hx hb dX6_odds_123 (lv_at hl 4 rfl) ?_
                      refine lv_if_ne (tgt := 134) hx hb dX6_odds_125 (by decide) (fun c125 => ?_) (fun c125 => ?_)
                      · replace hF := iq c125 hF
                        refine lv_iload hx hb dX6_odds_134 (lv_at hl 6 rfl) ?_
                        refine lv_i2l (v := (64 : Int32).toInt64) hx hb dX6_odds_136 rfl ?_
                        exact W.lret hx hb hr (fun t ht hW => ⟨_, rfl, (Option.some.inj hF), ht⟩) (fun _ h => nomatch h) dX6_odds_137
                      · replace hF := ip c125 hF
                        refine lv_iload hx hb dX6_odds_128 (lv_at hl 5 rfl) ?_
                        refine lv_i2l (v := x5_57.toInt64) hx hb dX6_odds_130 rfl ?_
                        refine lv_goto (tgt := 137) hx hb dX6_odds_131 (by decide) ?_
                        exact W.lret hx hb hr (fun t ht hW => ⟨_, rfl, (Option.some.inj hF), ht⟩) (fun _ h => nomatch h) dX6_odds_137
                    · replace hF := iq c98 hF
                      refine lv_iload hx hb dX6_odds_101 (lv_at hl 5 rfl) ?_
                      refine lv_iconst (v := 2) hx hb dX6_odds_103 (by decide) ?_
                      refine lv_irem hx hb dX6_odds_104 (by decide) ?_
                      refine lv_if_ne (tgt := 123) hx hb dX6_odds_105 (by decide) (fun c105 => ?_) (fun c105 => ?_)
                      · replace hF := iq c105 hF
                        refine lv_iload hx hb dX6_odds_123 (lv_at hl 4 rfl) ?_
                        refine lv_if_ne (tgt := 134) hx hb dX6_odds_125 (by decide) (fun c125 => ?_) (fun c125 => ?_)
                        · replace hF := iq c125 hF
                          refine lv_iload hx hb dX6_odds_134 (lv_at hl 6 rfl) ?_
                          refine lv_i2l (v := (64 : Int32).toInt64) hx hb dX6_odds_136 rfl ?_
                          exact W.lret hx hb hr (fun t ht hW => ⟨_, rfl, (Option.some.inj hF), ht⟩) (fun _ h => nomatch h) dX6_odds_137
                        · replace hF := ip c125 hF
                          refine lv_iload hx hb dX6_odds_128 (lv_at hl 5 rfl) ?_
                          refine lv_i2l (v := x5_57.toInt64) hx hb dX6_odds_130 rfl ?_
                          refine lv_goto (tgt := 137) hx hb dX6_odds_131 (by decide) ?_
                          exact W.lret hx hb hr (fun t ht hW => ⟨_, rfl, (Option.some.inj hF), ht⟩) (fun _ h => nomatch h) dX6_odds_137
                      · replace hF := ip c105 hF
                        refine lv_iload hx hb dX6_odds_108 (lv_at hl 5 rfl) ?_
                        refine lv_iconst (v := 2) hx hb dX6_odds_110 (by decide) ?_
                        refine lv_idiv hx hb dX6_odds_111 (by decide) ?_
                        refine lv_istore (lv' := [(5, .int (x5_57 / 2)), (0, .ref (a0 0)), (1, .int x1), (2, .int x2), (3, .int x3), (4, .int x4), (6, .int 64), (7, .int x7_57)]) hx hb dX6_odds_112 hl (by decide) rfl (fun ls hl => ?_)
                        refine lv_iload hx hb dX6_odds_114 (lv_at hl 6 rfl) ?_
                        refine lv_iconst (v := 2) hx hb dX6_odds_116 (by decide) ?_
                        refine lv_idiv hx hb dX6_odds_117 (by decide) ?_
                        refine lv_istore (lv' := [(6, .int (64 / 2)), (5, .int (x5_57 / 2)), (0, .ref (a0 0)), (1, .int x1), (2, .int x2), (3, .int x3), (4, .int x4), (7, .int x7_57)]) hx hb dX6_odds_118 hl (by decide) rfl (fun ls hl => ?_)
                        refine lv_goto (tgt := 95) hx hb dX6_odds_120 (by decide) ?_
                        have L95 : ∀ (n_95 : Nat) (x5_95 : Int32) (x6_95 : Int32) (ls : Array Slot), lv_has ls 8 [(4, .int x4), (5, .int x5_95), (6, .int x6_95)] → F_X6_odds_L95 t0 x1 x2 x3 x4 (fun x5_k95 x6_k95 => F_X6_odds_J123 t0 x1 x2 x3 x4 x5_k95 x6_k95) n_95 x5_95 x6_95 = some r → W p l e rm_X6_odds s m [.ref (a0 0), .int x1, .int x2, .int x3, .int x4].toArray below meth c s.heap [] 0 0 (MQ below (vp_Sl (fun x => x = r)) [.ref (a0 0), .int x1, .int x2, .int x3, .int x4].toArray s 0 0 (fun _ => False)) (F0 m 95 ls []) := by
                          intro n_95
                          induction n_95 with
                          | zero => intro x5_95 x6_95 ls hl hF; exact nomatch hF
                          | succ n_95 ih95 =>
                            intro x5_95 x6_95 ls hl hF
                            rw [F_X6_odds_L95.eq_2] at hF
                            refine lv_iload hx hb dX6_odds_95 (lv_at hl 2 rfl) ?_
                            refine lv_iconst (v := 1) hx hb dX6_odds_97 (by decide) ?_
                            refine lv_icmp_le (tgt := 123) hx hb dX6_odds_98 (by decide) (fun c98 => ?_) (fun c98 => ?_)
                            · replace hF := ip c98 hF
                              have hF : F_X6_odds_J123 t0 x1 x2 x3 x4 x5_95 x6_95 = some r := hF
                              unfold F_X6_odds_J123 at hF
                              refine lv_iload hx hb dX6_odds_123 (lv_at hl 0 rfl) ?_
                              refine lv_if_ne (tgt := 134) hx hb dX6_odds_125 (by decide) (fun c125 => ?_) (fun c125 => ?_)
                              · replace hF := iq c125 hF
                                refine lv_iload hx hb dX6_odds_134 (lv_at hl 2 rfl) ?_
                                refine lv_i2l (v := x6_95.toInt64) hx hb dX6_odds_136 rfl ?_
                                exact W.lret hx hb hr (fun t ht hW => ⟨_, rfl, (Option.some.inj hF), ht⟩) (fun _ h => nomatch h) dX6_odds_137
                              · replace hF := ip c125 hF
                                refine lv_iload hx hb dX6_odds_128 (lv_at hl 1 rfl) ?_
                                refine lv_i2l (v := x5_95.toInt64) hx hb dX6_odds_130 rfl ?_
                                refine lv_goto (tgt := 137) hx hb dX6_odds_131 (by decide) ?_
                                exact W.lret hx hb hr (fun t ht hW => ⟨_, rfl, (Option.some.inj hF), ht⟩) (fun _ h => nomatch h) dX6_odds_137
                            · replace hF := iq c98 hF
                              refine lv_iload hx hb dX6_odds_101 (lv_at hl 1 rfl) ?_
                              refine lv_iconst (v := 2) hx hb dX6_odds_103 (by decide) ?_
                              refine lv_irem hx hb dX6_odds_104 (by decide) ?_
                              refine lv_if_ne (tgt := 123) hx hb dX6_odds_105 (by decide) (fun c105 => ?_) (fun c105 => ?_)
                              · replace hF := iq c105 hF
                                have hF : F_X6_odds_J123 t0 x1 x2 x3 x4 x5_95 x6_95 = some r := hF
                                unfold F_X6_odds_J123 at hF
                                refine lv_iload hx hb dX6_odds_123 (lv_at hl 0 rfl) ?_
                                refine lv_if_ne (tgt := 134) hx hb dX6_odds_125 (by decide) (fun c125 => ?_) (fun c125 => ?_)
                                · replace hF := iq c125 hF
                                  refine lv_iload hx hb dX6_odds_134 (lv_at hl 2 rfl) ?_
                                  refine lv_i2l (v := x6_95.toInt64) hx hb dX6_odds_136 rfl ?_
                                  exact W.lret hx hb hr (fun t ht hW => ⟨_, rfl, (Option.some.inj hF), ht⟩) (fun _ h => nomatch h) dX6_odds_137
                                · replace hF := ip c125 hF
                                  refine lv_iload hx hb dX6_odds_128 (lv_at hl 1 rfl) ?_
                                  refine lv_i2l (v := x5_95.toInt64) hx hb dX6_odds_130 rfl ?_
                                  refine lv_goto (tgt := 137) hx hb dX6_odds_131 (by decide) ?_
                                  exact W.lret hx hb hr (fun t ht hW => ⟨_, rfl, (Option.some.inj hF), ht⟩) (fun _ h => nomatch h) dX6_odds_137
                              · replace hF := ip c105 hF
                                refine lv_iload hx hb dX6_odds_108 (lv_at hl 1 rfl) ?_
                                refine lv_iconst (v := 2) hx hb dX6_odds_110 (by decide) ?_
                                refine lv_idiv hx hb dX6_odds_111 (by decide) ?_
                                refine lv_istore (lv' := [(5, .int (x5_95 / 2)), (4, .int x4), (6, .int x6_95)]) hx hb dX6_odds_112 hl (by decide) rfl (fun ls hl => ?_)
                                refine lv_iload hx hb dX6_odds_114 (lv_at hl 2 rfl) ?_
                                refine lv_iconst (v := 2) hx hb dX6_odds_116 (by decide) ?_
                                refine lv_idiv hx hb dX6_odds_117 (by decide) ?_
                                refine lv_istore (lv' := [(6, .int (x6_95 / 2)), (5, .int (x5_95 / 2)), (4, .int x4)]) hx hb dX6_odds_118 hl (by decide) rfl (fun ls hl => ?_)
                                refine lv_goto (tgt := 95) hx hb dX6_odds_120 (by decide) ?_
                                exact ih95 (x5_95 / 2) (x6_95 / 2) _ (lv_sub hl [2, 1, 0] rfl) hF
                        exact L95 1000 (x5_57 / 2) (64 / 2) _ (lv_sub hl [6, 1, 0] rfl) hF
                  · replace hF := iq c61 hF
                    refine lv_aload_n hx hb dX6_odds_64 rfl (lv_at hl 0 rfl) ?_
                    refine va_get (D := D) (ci := 5) (v := .ref (a0 1)) (C := RX6) (T := TX6) (N := 8) hx hb hts (fun w h => List.mem_cons_of_mem _ (inAX6 w h)) hown hK.1 hP 0 (at_C_0 cI cS _ _) rfl 0 (by decide) (hts _ (List.mem_cons_of_mem _ fl_RX6_12)) (fun _ h9 => h9) rfl dX6_odds_65 ?_
                    refine lv_iload hx hb dX6_odds_68 (lv_at hl 7 rfl) ?_
                    refine lv_aload_n hx hb dX6_odds_70 rfl (lv_at hl 0 rfl) ?_
                    refine va_get (D := D) (ci := 5) (v := .ref (a0 3)) (C := RX6) (T := TX6) (N := 8) hx hb hts (fun w h => List.mem_cons_of_mem _ (inAX6 w h)) hown hK.1 hP 0 (at_C_0 cI cS _ _) rfl 1 (by decide) (hts _ (List.mem_cons_of_mem _ fl_RX6_21)) (fun _ h9 => h9) rfl dX6_odds_71 ?_
                    refine lv_iload_n hx hb dX6_odds_74 rfl (lv_at hl 1 rfl) ?_
                    obtain ⟨v75, h75, hF⟩ := bd hF
                    refine cRe (va_runV (As := [.int x1]) (rest := [.int x7_57, .ref (a0 1)]) ⟨hx, hb, hml, hown, hts⟩ (c_X0_stepsADay l D cI cS (sa a0 3) (sb t0 3) x1 v75 h75) (cwVA hts (TW.cons _) lv_X0_stepsADay ml_RX6_105 ⟨rfl, rfl⟩ ⟨(Nat.le_of_ble_eq_true rfl), (Nat.le_of_ble_eq_true rfl)⟩) (pRV hK (hP.sub [3, 4, 5, 6] (su_C_B3 cI cS _ _)) (ci := 0) rfl rfl) rfl rfl hl.1 rfl (lv_room (Nat.le_of_ble_eq_true rfl)) dX6_odds_75 ⟨Nat.le_refl _, Nat.le_refl _⟩) ?_
                    refine lv_iload_n hx hb dX6_odds_78 rfl (lv_at hl 2 rfl) ?_
                    obtain ⟨v79, h79, hF⟩ := bd hF
                    refine cRe (va_runV (As := [.int x7_57, .int v75, .int x2]) (rest := []) ⟨hx, hb, hml, hown, hts⟩ (c_X1_behind l D cI cS (sa a0 1) (sb t0 1) x7_57 v75 x2 v79 h79) (cwVA hts (TW.cons _) lv_X1_behind ml_RX6_197 ⟨rfl, rfl⟩ ⟨(Nat.le_of_ble_eq_true rfl), (Nat.le_of_ble_eq_true rfl)⟩) (pRV hK (hP.sub [1, 2] (su_C_L1 cI cS _ _)) (ci := 1) rfl rfl) rfl rfl hl.1 rfl (lv_room (Nat.le_of_ble_eq_true rfl)) dX6_odds_79 ⟨Nat.le_refl _, Nat.le_refl _⟩) ?_
                    refine lv_iload_n hx hb dX6_odds_82 rfl (lv_at hl 3 rfl) ?_
                    refine lv_icmp_ne (tgt := 89) hx hb dX6_odds_83 (by decide) (fun c83 => ?_) (fun c83 => ?_)
                    · replace hF := iq c83 hF
                      refine lv_iinc (v := (x7_57 + 1)) (lv' := [(7, .int (x7_57 + 1)), (0, .ref (a0 0)), (1, .int x1), (2, .int x2), (3, .int x3), (4, .int x4), (5, .int x5_57), (6, .int 64)]) hx hb dX6_odds_89 hl (k := 7) rfl rfl (by decide) rfl (fun ls hl => ?_)
                      refine lv_goto (tgt := 57) hx hb dX6_odds_92 (by decide) ?_
                      exact ih57 x5_57 (x7_57 + 1) _ (lv_sub hl [1, 2, 3, 4, 5, 6, 7, 0] rfl) hF
                    · replace hF := ip c83 hF
                      refine lv_iinc (v := (x5_57 + 1)) (lv' := [(5, .int (x5_57 + 1)), (0, .ref (a0 0)), (1, .int x1), (2, .int x2), (3, .int x3), (4, .int x4), (6, .int 64), (7, .int x7_57)]) hx hb dX6_odds_86 hl (k := 5) rfl rfl (by decide) rfl (fun ls hl => ?_)
                      refine lv_iinc (v := (x7_57 + 1)) (lv' := [(7, .int (x7_57 + 1)), (5, .int (x5_57 + 1)), (0, .ref (a0 0)), (1, .int x1), (2, .int x2), (3, .int x3), (4, .int x4), (6, .int 64)]) hx hb dX6_odds_89 hl (k := 7) rfl rfl (by decide) rfl (fun ls hl => ?_)
                      refine lv_goto (tgt := 57) hx hb dX6_odds_92 (by decide) ?_
                      exact ih57 (x5_57 + 1) (x7_57 + 1) _ (lv_sub hl [2, 3, 4, 5, 6, 1, 7, 0] rfl) hF
              exact L57 1000 0 0 _ (lv_sub hl [3, 4, 5, 6, 7, 2, 1, 0] rfl) hF
            · replace hF := iq c40 hF
              refine lv_ldc2 (own := RX6) (v := (-9223372036854775808)) hx hb hown (hts _ (List.mem_cons_of_mem _ cn_RX6_177)) dX6_odds_43 ?_
              exact W.lret hx hb hr (fun t ht hW => ⟨_, rfl, (Option.some.inj hF), ht⟩) (fun _ h => nomatch h) dX6_odds_46
  · replace hF := ip c8 hF
    refine lv_ldc2 (own := RX6) (v := (-9223372036854775808)) hx hb hown (hts _ (List.mem_cons_of_mem _ cn_RX6_177)) dX6_odds_11 ?_
    exact W.lret hx hb hr (fun t ht hW => ⟨_, rfl, (Option.some.inj hF), ht⟩) (fun _ h => nomatch h) dX6_odds_14
noncomputable def F_X6_sheet (t0 : ST) (x1 : Int32) (x2 : Int32) (x3 : Int32) : Option (Int32 × ST) :=
  (F_X6_isSheet x1).bind fun v1 =>
  if v1 = 0 then
    b2 (F_X6_withoutFault t0 (-1)) fun v9 u9 =>
    some (v9, u9)
  else
  (F_X6_isLane x2).bind fun v14 =>
  if v14 = 0 then
    b2 (F_X6_withoutFault t0 (-2)) fun v29 u29 =>
    some (v29, u29)
  else
  if x3 ≤ 60 then
    if 0 ≤ x3 then
      (ix 4 x1).bind fun k48 =>
      (F_X3_renew (sb t0 (20 + 2 * k48)) x2 x3).bind fun u51 =>
      b2 (F_X6_withoutFault (gr t0 (20 + 2 * k48) 2 u51) 1) fun v56 u56 =>
      some (v56, u56)
    else
    b2 (F_X6_withFault t0 4) fun v39 u39 =>
    some (v39, u39)
  else
  b2 (F_X6_withoutFault t0 (-2)) fun v29 u29 =>
  some (v29, u29)
abbrev rm_X6_sheet : Room := { frames := 2, cells := 0, slots := 0, locals := 45 }
set_option maxHeartbeats 4000000 in
set_option maxRecDepth 100000 in
theorem c_X6_sheet (l : Launch) (D : va_G) (cI cS : ClassId) (a0 : Nat → Nat) (t0 : ST) (x1 : Int32) (x2 : Int32) (x3 : Int32) (r : Int32) (t' : ST) (hF : F_X6_sheet t0 x1 x2 x3 = some (r, t')) : Met l yX6_sheet (Cond.code yX6_sheet cX6_sheet 4 (some .int) :: ALL) rm_X6_sheet (PreW D cI cS [.ref (a0 0), .int x1, .int x2, .int x3] (pC cI cS a0 t0)) (va_Qi (fun x (_ : Unit) => x = r) (fun _ t => va_P D vwCl (pC cI cS a0 t') t.heap) (AD (pC cI cS a0 t0))) 0 0 (AD (pC cI cS a0 t0)) := by
  refine mW l D cI cS (by decide) (Nat.le_of_ble_eq_true rfl) ?_
  intro p e s m below meth c ls hx hb hr hml hown hts hlocks hP hK hD hS hl
  have hown : s.vm.findClass RX6 = some m.cls := hown
  have hl : lv_has ls 4 [(0, .ref (a0 0)), (1, .int x1), (2, .int x2), (3, .int x3)] := hl
  unfold F_X6_sheet at hF
  refine lv_iload_n hx hb dX6_sheet_0 rfl (lv_at hl 1 rfl) ?_
  obtain ⟨v1, h1, hF⟩ := bd hF
  refine cRb (va_runS (As := [.int x1]) (rest := []) ⟨hx, hb, hml, hown, hts⟩ (c_X6_isSheet l D cI cS x1 v1 h1) (cwSA hts (TW.cons _) ls_X6_isSheet ml_RX6_49 ⟨rfl, rfl⟩ ⟨(Nat.le_of_ble_eq_true rfl), (Nat.le_of_ble_eq_true rfl)⟩) (pRS hK pnil) rfl rfl hl.1 rfl (lv_room (Nat.le_of_ble_eq_true rfl)) dX6_sheet_1 ⟨Nat.le_refl _, Nat.le_refl _⟩) (fun b1 => ?_)
  refine lv_if_ne (tgt := 13) hx hb dX6_sheet_4 (by decide) (fun c4 => ?_) (fun c4 => ?_)
  · replace hF := iq c4 hF
    refine lv_iload_n hx hb dX6_sheet_13 rfl (lv_at hl 2 rfl) ?_
    obtain ⟨v14, h14, hF⟩ := bd hF
    refine cRb (va_runS (As := [.int x2]) (rest := []) ⟨hx, hb, hml, hown, hts⟩ (c_X6_isLane l D cI cS x2 v14 h14) (cwSA hts (TW.cons _) ls_X6_isLane ml_RX6_57 ⟨rfl, rfl⟩ ⟨(Nat.le_of_ble_eq_true rfl), (Nat.le_of_ble_eq_true rfl)⟩) (pRS hK pnil) rfl rfl hl.1 rfl (lv_room (Nat.le_of_ble_eq_true rfl)) dX6_sheet_14 ⟨Nat.le_refl _, Nat.le_refl _⟩) (fun b14 => ?_)
    refine lv_if_eq (tgt := 26) hx hb dX6_sheet_17 (by decide) (fun c17 => ?_) (fun c17 => ?_)
    · replace hF := ip c17 hF
      refine lv_aload_n hx hb dX6_sheet_26 rfl (lv_at hl 0 rfl) ?_
      refine lv_bipush (v := (-2)) hx hb dX6_sheet_27 (by decide) ?_
      obtain ⟨v29, u29, h29, hF⟩ := bd2 hF
      refine cAe (ws' := pC cI cS a0 u29) (va_runV (As := [.int (-2)]) (rest := []) ⟨hx, hb, hml, hown, hts⟩ (c_X6_withoutFault l D cI cS a0 t0 (-2) v29 u29 h29) (cwVA hts (TW.cons _) lv_X6_withoutFault ml_RX6_53 ⟨rfl, rfl⟩ ⟨(Nat.le_of_ble_eq_true rfl), (Nat.le_of_ble_eq_true rfl)⟩) (pWV hK hP hD (ci := 5) rfl rfl) rfl rfl hl.1 rfl (lv_room (Nat.le_of_ble_eq_true rfl)) dX6_sheet_29 ⟨Nat.le_refl _, Nat.le_refl _⟩) hD hS (ad_C cI cS _ _ _) (fun H locs hP hD hS => ?_)
      exact W.iret hx hb hr (fun t ht hW => ⟨⟨_, (), rfl, (Prod.mk.inj (Option.some.inj hF)).1, by show va_P _ _ _ t.heap; rw [ht, ← (Prod.mk.inj (Option.some.inj hF)).2]; exact hP⟩, hS.F ht⟩) hS.2.2 dX6_sheet_32
    · replace hF := iq c17 hF
      refine lv_iload_n hx hb dX6_sheet_20 rfl (lv_at hl 3 rfl) ?_
      refine lv_bipush (v := 60) hx hb dX6_sheet_21 (by decide) ?_
      refine lv_icmp_le (tgt := 33) hx hb dX6_sheet_23 (by decide) (fun c23 => ?_) (fun c23 => ?_)
      · replace hF := ip c23 hF
        refine lv_iload_n hx hb dX6_sheet_33 rfl (lv_at hl 3 rfl) ?_
        refine lv_if_ge (tgt := 43) hx hb dX6_sheet_34 (by decide) (fun c34 => ?_) (fun c34 => ?_)
        · replace hF := ip c34 hF
          refine lv_aload_n hx hb dX6_sheet_43 rfl (lv_at hl 0 rfl) ?_
          refine va_get (D := D) (ci := 5) (v := .ref (a0 28)) (C := RX6) (T := TX6) (N := 8) hx hb hts (fun w h => List.mem_cons_of_mem _ (inAX6 w h)) hown hK.1 hP 0 (at_C_0 cI cS _ _) rfl 5 (by decide) (hts _ (List.mem_cons_of_mem _ fl_RX6_44)) (fun _ h9 => h9) rfl dX6_sheet_44 ?_
          refine lv_iload_n hx hb dX6_sheet_47 rfl (lv_at hl 1 rfl) ?_
          obtain ⟨k48, h48, hF⟩ := bd hF
          obtain ⟨-, -, l48⟩ := ix_some h48
          rcases lt4 l48 with rfl | rfl | rfl | rfl
          · refine rR (b := a0 20) hx hb hK.1 hP 28 1 (at_C_28 cI cS _ _) rfl h48 rfl dX6_sheet_48 ?_
            refine lv_iload_n hx hb dX6_sheet_49 rfl (lv_at hl 2 rfl) ?_
            refine lv_iload_n hx hb dX6_sheet_50 rfl (lv_at hl 3 rfl) ?_
            obtain ⟨u51, h51, hF⟩ := bd hF
            refine cWv (ws' := pC cI cS a0 (gr t0 20 2 u51)) (va_runV (As := [.int x2, .int x3]) (rest := []) ⟨hx, hb, hml, hown, hts⟩ (c_X3_renew l D cI cS (sa a0 20) (sb t0 20) x2 x3 u51 h51) (cwVA hts (TW.cons _) lv_X3_renew ml_RX6_200 ⟨rfl, rfl⟩ ⟨(Nat.le_of_ble_eq_true rfl), (Nat.le_of_ble_eq_true rfl)⟩) (pWV hK (hP.sub [20, 21] (su_C_S20 cI cS _ _)) (hD.sub [20, 21] (by decide) (sm_C_S20 cI cS _ _)) (ci := 3) rfl rfl) rfl rfl hl.1 rfl (lv_room (Nat.le_of_ble_eq_true rfl)) dX6_sheet_51 ⟨Nat.le_refl _, Nat.le_refl _⟩) hP hD hS [20, 21] (sm_C_S20 cI cS _ _) [.inl 0, .inl 1, .inl 2, .inl 3, .inl 4, .inl 5, .inl 6, .inl 7, .inl 8, .inl 9, .inl 10, .inl 11, .inl 12, .inl 13, .inl 14, .inl 15, .inl 16, .inl 17, .inl 18, .inl 19, .inr 0, .inr 1, .inl 22, .inl 23, .inl 24, .inl 25, .inl 26, .inl 27, .inl 28] (pn_C_S20 cI cS _ _ _) rfl (ad_C cI cS _ _ _) (fun H locs hP hD hS => ?_)
            refine lv_aload_n hx hb dX6_sheet_54 rfl (lv_at hl 0 rfl) ?_
            refine lv_iconst (v := 1) hx hb dX6_sheet_55 (by decide) ?_
            obtain ⟨v56, u56, h56, hF⟩ := bd2 hF
            refine cAe (ws' := pC cI cS a0 u56) (va_runV (As := [.int 1]) (rest := []) ⟨hx, hb, hml, hown, hts⟩ (c_X6_withoutFault l D cI cS a0 (gr t0 20 2 u51) 1 v56 u56 h56) (cwVA hts (TW.cons _) lv_X6_withoutFault ml_RX6_53 ⟨rfl, rfl⟩ ⟨(Nat.le_of_ble_eq_true rfl), (Nat.le_of_ble_eq_true rfl)⟩) (pWV hK hP hD (ci := 5) rfl rfl) rfl rfl hl.1 rfl (lv_room (Nat.le_of_ble_eq_true rfl)) dX6_sheet_56 ⟨Nat.le_refl _, Nat.le_refl _⟩) hD hS (ad_C cI cS _ _ _) (fun H locs hP hD hS => ?_)
            exact W.iret hx hb hr (fun t ht hW => ⟨⟨_, (), rfl, (Prod.mk.inj (Option.some.inj hF)).1, by show va_P _ _ _ t.heap; rw [ht, ← (Prod.mk.inj (Option.some.inj hF)).2]; exact hP⟩, hS.F ht⟩) hS.2.2 dX6_sheet_59
          · refine rR (b := a0 22) hx hb hK.1 hP 28 1 (at_C_28 cI cS _ _) rfl h48 rfl dX6_sheet_48 ?_
            refine lv_iload_n hx hb dX6_sheet_49 rfl (lv_at hl 2 rfl) ?_
            refine lv_iload_n hx hb dX6_sheet_50 rfl (lv_at hl 3 rfl) ?_
            obtain ⟨u51, h51, hF⟩ := bd hF
            refine cWv (ws' := pC cI cS a0 (gr t0 22 2 u51)) (va_runV (As := [.int x2, .int x3]) (rest := []) ⟨hx, hb, hml, hown, hts⟩ (c_X3_renew l D cI cS (sa a0 22) (sb t0 22) x2 x3 u51 h51) (cwVA hts (TW.cons _) lv_X3_renew ml_RX6_200 ⟨rfl, rfl⟩ ⟨(Nat.le_of_ble_eq_true rfl), (Nat.le_of_ble_eq_true rfl)⟩) (pWV hK (hP.sub [22, 23] (su_C_S22 cI cS _ _)) (hD.sub [22, 23] (by decide) (sm_C_S22 cI cS _ _)) (ci := 3) rfl rfl) rfl rfl hl.1 rfl (lv_room (Nat.le_of_ble_eq_true rfl)) dX6_sheet_51 ⟨Nat.le_refl _, Nat.le_refl _⟩) hP hD hS [22, 23] (sm_C_S22 cI cS _ _) [.inl 0, .inl 1, .inl 2, .inl 3, .inl 4, .inl 5, .inl 6, .inl 7, .inl 8, .inl 9, .inl 10, .inl 11, .inl 12, .inl 13, .inl 14, .inl 15, .inl 16, .inl 17, .inl 18, .inl 19, .inl 20, .inl 21, .inr 0, .inr 1, .inl 24, .inl 25, .inl 26, .inl 27, .inl 28] (pn_C_S22 cI cS _ _ _) rfl (ad_C cI cS _ _ _) (fun H locs hP hD hS => ?_)
            refine lv_aload_n hx hb dX6_sheet_54 rfl (lv_at hl 0 rfl) ?_
            refine lv_iconst (v := 1) hx hb dX6_sheet_55 (by decide) ?_
            obtain ⟨v56, u56, h56, hF⟩ := bd2 hF
            refine cAe (ws' := pC cI cS a0 u56) (va_runV (As := [.int 1]) (rest := []) ⟨hx, hb, hml, hown, hts⟩ (c_X6_withoutFault l D cI cS a0 (gr t0 22 2 u51) 1 v56 u56 h56) (cwVA hts (TW.cons _) lv_X6_withoutFault ml_RX6_53 ⟨rfl, rfl⟩ ⟨(Nat.le_of_ble_eq_true rfl), (Nat.le_of_ble_eq_true rfl)⟩) (pWV hK hP hD (ci := 5) rfl rfl) rfl rfl hl.1 rfl (lv_room (Nat.le_of_ble_eq_true rfl)) dX6_sheet_56 ⟨Nat.le_refl _, Nat.le_refl _⟩) hD hS (ad_C cI cS _ _ _) (fun H locs hP hD hS => ?_)
            exact W.iret hx hb hr (fun t ht hW => ⟨⟨_, (), rfl, (Prod.mk.inj (Option.some.inj hF)).1, by show va_P _ _ _ t.heap; rw [ht, ← (Prod.mk.inj (Option.some.inj hF)).2]; exact hP⟩, hS.F ht⟩) hS.2.2 dX6_sheet_59
          · refine rR (b := a0 24) hx hb hK.1 hP 28 1 (at_C_28 cI cS _ _) rfl h48 rfl dX6_sheet_48 ?_
            refine lv_iload_n hx hb dX6_sheet_49 rfl (lv_at hl 2 rfl) ?_
            refine lv_iload_n hx hb dX6_sheet_50 rfl (lv_at hl 3 rfl) ?_
            obtain ⟨u51, h51, hF⟩ := bd hF
            refine cWv (ws' := pC cI cS a0 (gr t0 24 2 u51)) (va_runV (As := [.int x2, .int x3]) (rest := []) ⟨hx, hb, hml, hown, hts⟩ (c_X3_renew l D cI cS (sa a0 24) (sb t0 24) x2 x3 u51 h51) (cwVA hts (TW.cons _) lv_X3_renew ml_RX6_200 ⟨rfl, rfl⟩ ⟨(Nat.le_of_ble_eq_true rfl), (Nat.le_of_ble_eq_true rfl)⟩) (pWV hK (hP.sub [24, 25] (su_C_S24 cI cS _ _)) (hD.sub [24, 25] (by decide) (sm_C_S24 cI cS _ _)) (ci := 3) rfl rfl) rfl rfl hl.1 rfl (lv_room (Nat.le_of_ble_eq_true rfl)) dX6_sheet_51 ⟨Nat.le_refl _, Nat.le_refl _⟩) hP hD hS [24, 25] (sm_C_S24 cI cS _ _) [.inl 0, .inl 1, .inl 2, .inl 3, .inl 4, .inl 5, .inl 6, .inl 7, .inl 8, .inl 9, .inl 10, .inl 11, .inl 12, .inl 13, .inl 14, .inl 15, .inl 16, .inl 17, .inl 18, .inl 19, .inl 20, .inl 21, .inl 22, .inl 23, .inr 0, .inr 1, .inl 26, .inl 27, .inl 28] (pn_C_S24 cI cS _ _ _) rfl (ad_C cI cS _ _ _) (fun H locs hP hD hS => ?_)
            refine lv_aload_n hx hb dX6_sheet_54 rfl (lv_at hl 0 rfl) ?_
            refine lv_iconst (v := 1) hx hb dX6_sheet_55 (by decide) ?_
            obtain ⟨v56, u56, h56, hF⟩ := bd2 hF
            refine cAe (ws' := pC cI cS a0 u56) (va_runV (As := [.int 1]) (rest := []) ⟨hx, hb, hml, hown, hts⟩ (c_X6_withoutFault l D cI cS a0 (gr t0 24 2 u51) 1 v56 u56 h56) (cwVA hts (TW.cons _) lv_X6_withoutFault ml_RX6_53 ⟨rfl, rfl⟩ ⟨(Nat.le_of_ble_eq_true rfl), (Nat.le_of_ble_eq_true rfl)⟩) (pWV hK hP hD (ci := 5) rfl rfl) rfl rfl hl.1 rfl (lv_room (Nat.le_of_ble_eq_true rfl)) dX6_sheet_56 ⟨Nat.le_refl _, Nat.le_refl _⟩) hD hS (ad_C cI cS _ _ _) (fun H locs hP hD hS => ?_)
            exact W.iret hx hb hr (fun t ht hW => ⟨⟨_, (), rfl, (Prod.mk.inj (Option.some.inj hF)).1, by show va_P _ _ _ t.heap; rw [ht, ← (Prod.mk.inj (Option.some.inj hF)).2]; exact hP⟩, hS.F ht⟩) hS.2.2 dX6_sheet_59
          · refine rR (b := a0 26) hx hb hK.1 hP 28 1 (at_C_28 cI cS _ _) rfl h48 rfl dX6_sheet_48 ?_
            refine lv_iload_n hx hb dX6_sheet_49 rfl (lv_at hl 2 rfl) ?_
            refine lv_iload_n hx hb dX6_sheet_50 rfl (lv_at hl 3 rfl) ?_
            obtain ⟨u51, h51, hF⟩ := bd hF
            refine cWv (ws' := pC cI cS a0 (gr t0 26 2 u51)) (va_runV (As := [.int x2, .int x3]) (rest := []) ⟨hx, hb, hml, hown, hts⟩ (c_X3_renew l D cI cS (sa a0 26) (sb t0 26) x2 x3 u51 h51) (cwVA hts (TW.cons _) lv_X3_renew ml_RX6_200 ⟨rfl, rfl⟩ ⟨(Nat.le_of_ble_eq_true rfl), (Nat.le_of_ble_eq_true rfl)⟩) (pWV hK (hP.sub [26, 27] (su_C_S26 cI cS _ _)) (hD.sub [26, 27] (by decide) (sm_C_S26 cI cS _ _)) (ci := 3) rfl rfl) rfl rfl hl.1 rfl (lv_room (Nat.le_of_ble_eq_true rfl)) dX6_sheet_51 ⟨Nat.le_refl _, Nat.le_refl _⟩) hP hD hS [26, 27] (sm_C_S26 cI cS _ _) [.inl 0, .inl 1, .inl 2, .inl 3, .inl 4, .inl 5, .inl 6, .inl 7, .inl 8, .inl 9, .inl 10, .inl 11, .inl 12, .inl 13, .inl 14, .inl 15, .inl 16, .inl 17, .inl 18, .inl 19, .inl 20, .inl 21, .inl 22, .inl 23, .inl 24, .inl 25, .inr 0, .inr 1, .inl 28] (pn_C_S26 cI cS _ _ _) rfl (ad_C cI cS _ _ _) (fun H locs hP hD hS => ?_)
            refine lv_aload_n hx hb dX6_sheet_54 rfl (lv_at hl 0 rfl) ?_
            refine lv_iconst (v := 1) hx hb dX6_sheet_55 (by decide) ?_
            obtain ⟨v56, u56, h56, hF⟩ := bd2 hF
            refine cAe (ws' := pC cI cS a0 u56) (va_runV (As := [.int 1]) (rest := []) ⟨hx, hb, hml, hown, hts⟩ (c_X6_withoutFault l D cI cS a0 (gr t0 26 2 u51) 1 v56 u56 h56) (cwVA hts (TW.cons _) lv_X6_withoutFault ml_RX6_53 ⟨rfl, rfl⟩ ⟨(Nat.le_of_ble_eq_true rfl), (Nat.le_of_ble_eq_true rfl)⟩) (pWV hK hP hD (ci := 5) rfl rfl) rfl rfl hl.1 rfl (lv_room (Nat.le_of_ble_eq_true rfl)) dX6_sheet_56 ⟨Nat.le_refl _, Nat.le_refl _⟩) hD hS (ad_C cI cS _ _ _) (fun H locs hP hD hS => ?_)
            exact W.iret hx hb hr (fun t ht hW => ⟨⟨_, (), rfl, (Prod.mk.inj (Option.some.inj hF)).1, by show va_P _ _ _ t.heap; rw [ht, ← (Prod.mk.inj (Option.some.inj hF)).2]; exact hP⟩, hS.F ht⟩) hS.2.2 dX6_sheet_59
        · replace hF := iq c34 hF
          refine lv_aload_n hx hb dX6_sheet_37 rfl (lv_at hl 0 rfl) ?_
          refine lv_iconst (v := 4) hx hb dX6_sheet_38 (by decide) ?_
          obtain ⟨v39, u39, h39, hF⟩ := bd2 hF
          refine cAe (ws' := pC cI cS a0 u39) (va_runV (As := [.int 4]) (rest := []) ⟨hx, hb, hml, hown, hts⟩ (c_X6_withFault l D cI cS a0 t0 4 v39 u39 h39) (cwVA hts (TW.cons _) lv_X6_withFault ml_RX6_64 ⟨rfl, rfl⟩ ⟨(Nat.le_of_ble_eq_true rfl), (Nat.le_of_ble_eq_true rfl)⟩) (pWV hK hP hD (ci := 5) rfl rfl) rfl rfl hl.1 rfl (lv_room (Nat.le_of_ble_eq_true rfl)) dX6_sheet_39 ⟨Nat.le_refl _, Nat.le_refl _⟩) hD hS (ad_C cI cS _ _ _) (fun H locs hP hD hS => ?_)
          exact W.iret hx hb hr (fun t ht hW => ⟨⟨_, (), rfl, (Prod.mk.inj (Option.some.inj hF)).1, by show va_P _ _ _ t.heap; rw [ht, ← (Prod.mk.inj (Option.some.inj hF)).2]; exact hP⟩, hS.F ht⟩) hS.2.2 dX6_sheet_42
      · replace hF := iq c23 hF
        refine lv_aload_n hx hb dX6_sheet_26 rfl (lv_at hl 0 rfl) ?_
        refine lv_bipush (v := (-2)) hx hb dX6_sheet_27 (by decide) ?_
        obtain ⟨v29, u29, h29, hF⟩ := bd2 hF
        refine cAe (ws' := pC cI cS a0 u29) (va_runV (As := [.int (-2)]) (rest := []) ⟨hx, hb, hml, hown, hts⟩ (c_X6_withoutFault l D cI cS a0 t0 (-2) v29 u29 h29) (cwVA hts (TW.cons _) lv_X6_withoutFault ml_RX6_53 ⟨rfl, rfl⟩ ⟨(Nat.le_of_ble_eq_true rfl), (Nat.le_of_ble_eq_true rfl)⟩) (pWV hK hP hD (ci := 5) rfl rfl) rfl rfl hl.1 rfl (lv_room (Nat.le_of_ble_eq_true rfl)) dX6_sheet_29 ⟨Nat.le_refl _, Nat.le_refl _⟩) hD hS (ad_C cI cS _ _ _) (fun H locs hP hD hS => ?_)
        exact W.iret hx hb hr (fun t ht hW => ⟨⟨_, (), rfl, (Prod.mk.inj (Option.some.inj hF)).1, by show va_P _ _ _ t.heap; rw [ht, ← (Prod.mk.inj (Option.some.inj hF)).2]; exact hP⟩, hS.F ht⟩) hS.2.2 dX6_sheet_32
  · replace hF := ip c4 hF
    refine lv_aload_n hx hb dX6_sheet_7 rfl (lv_at hl 0 rfl) ?_
    refine lv_iconst (v := (-1)) hx hb dX6_sheet_8 (by decide) ?_
    obtain ⟨v9, u9, h9, hF⟩ := bd2 hF
    refine cAe (ws' := pC cI cS a0 u9) (va_runV (As := [.int (-1)]) (rest := []) ⟨hx, hb, hml, hown, hts⟩ (c_X6_withoutFault l D cI cS a0 t0 (-1) v9 u9 h9) (cwVA hts (TW.cons _) lv_X6_withoutFault ml_RX6_53 ⟨rfl, rfl⟩ ⟨(Nat.le_of_ble_eq_true rfl), (Nat.le_of_ble_eq_true rfl)⟩) (pWV hK hP hD (ci := 5) rfl rfl) rfl rfl hl.1 rfl (lv_room (Nat.le_of_ble_eq_true rfl)) dX6_sheet_9 ⟨Nat.le_refl _, Nat.le_refl _⟩) hD hS (ad_C cI cS _ _ _) (fun H locs hP hD hS => ?_)
    exact W.iret hx hb hr (fun t ht hW => ⟨⟨_, (), rfl, (Prod.mk.inj (Option.some.inj hF)).1, by show va_P _ _ _ t.heap; rw [ht, ← (Prod.mk.inj (Option.some.inj hF)).2]; exact hP⟩, hS.F ht⟩) hS.2.2 dX6_sheet_12
noncomputable def F_X6_lose (t0 : ST) (x1 : Int32) : Option (Int32 × ST) :=
  (F_X6_isSheet x1).bind fun v1 =>
  if v1 = 0 then
    some ((-1), t0)
  else
  (ix 4 x1).bind fun k14 =>
  b2 (F_X3_empty (sb t0 (20 + 2 * k14))) fun v15 u15 =>
  if v15 = 0 then
    some (0, (gr t0 (20 + 2 * k14) 2 u15))
  else
  some (1, (gr t0 (20 + 2 * k14) 2 u15))
abbrev rm_X6_lose : Room := { frames := 1, cells := 0, slots := 0, locals := 21 }
set_option maxHeartbeats 4000000 in
set_option maxRecDepth 100000 in
theorem c_X6_lose (l : Launch) (D : va_G) (cI cS : ClassId) (a0 : Nat → Nat) (t0 : ST) (x1 : Int32) (r : Int32) (t' : ST) (hF : F_X6_lose t0 x1 = some (r, t')) : Met l yX6_lose (Cond.code yX6_lose cX6_lose 2 (some .int) :: ALL) rm_X6_lose (PreW D cI cS [.ref (a0 0), .int x1] (pC cI cS a0 t0)) (va_Qi (fun x (_ : Unit) => x = r) (fun _ t => va_P D vwCl (pC cI cS a0 t') t.heap) (AD (pC cI cS a0 t0))) 0 0 (AD (pC cI cS a0 t0)) := by
  refine mW l D cI cS (by decide) (Nat.le_of_ble_eq_true rfl) ?_
  intro p e s m below meth c ls hx hb hr hml hown hts hlocks hP hK hD hS hl
  have hown : s.vm.findClass RX6 = some m.cls := hown
  have hl : lv_has ls 2 [(0, .ref (a0 0)), (1, .int x1)] := hl
  unfold F_X6_lose at hF
  refine lv_iload_n hx hb dX6_lose_0 rfl (lv_at hl 1 rfl) ?_
  obtain ⟨v1, h1, hF⟩ := bd hF
  refine cRb (va_runS (As := [.int x1]) (rest := []) ⟨hx, hb, hml, hown, hts⟩ (c_X6_isSheet l D cI cS x1 v1 h1) (cwSA hts (TW.cons _) ls_X6_isSheet ml_RX6_49 ⟨rfl, rfl⟩ ⟨(Nat.le_of_ble_eq_true rfl), (Nat.le_of_ble_eq_true rfl)⟩) (pRS hK pnil) rfl rfl hl.1 rfl (lv_room (Nat.le_of_ble_eq_true rfl)) dX6_lose_1 ⟨Nat.le_refl _, Nat.le_refl _⟩) (fun b1 => ?_)
  refine lv_if_ne (tgt := 9) hx hb dX6_lose_4 (by decide) (fun c4 => ?_) (fun c4 => ?_)
  · replace hF := iq c4 hF
    refine lv_aload_n hx hb dX6_lose_9 rfl (lv_at hl 0 rfl) ?_
    refine va_get (D := D) (ci := 5) (v := .ref (a0 28)) (C := RX6) (T := TX6) (N := 8) hx hb hts (fun w h => List.mem_cons_of_mem _ (inAX6 w h)) hown hK.1 hP 0 (at_C_0 cI cS _ _) rfl 5 (by decide) (hts _ (List.mem_cons_of_mem _ fl_RX6_44)) (fun _ h9 => h9) rfl dX6_lose_10 ?_
    refine lv_iload_n hx hb dX6_lose_13 rfl (lv_at hl 1 rfl) ?_
    obtain ⟨k14, h14, hF⟩ := bd hF
    obtain ⟨-, -, l14⟩ := ix_some h14
    rcases lt4 l14 with rfl | rfl | rfl | rfl
    · refine rR (b := a0 20) hx hb hK.1 hP 28 1 (at_C_28 cI cS _ _) rfl h14 rfl dX6_lose_14 ?_
      obtain ⟨v15, u15, h15, hF⟩ := bd2 hF
      refine cWb (ws' := pC cI cS a0 (gr t0 20 2 u15)) (va_runV (As := []) (rest := []) ⟨hx, hb, hml, hown, hts⟩ (c_X3_empty l D cI cS (sa a0 20) (sb t0 20) v15 u15 h15) (cwVA hts (TW.cons _) lv_X3_empty ml_RX6_203 ⟨rfl, rfl⟩ ⟨(Nat.le_of_ble_eq_true rfl), (Nat.le_of_ble_eq_true rfl)⟩) (pWV hK (hP.sub [20, 21] (su_C_S20 cI cS _ _)) (hD.sub [20, 21] (by decide) (sm_C_S20 cI cS _ _)) (ci := 3) rfl rfl) rfl rfl hl.1 rfl (lv_room (Nat.le_of_ble_eq_true rfl)) dX6_lose_15 ⟨Nat.le_refl _, Nat.le_refl _⟩) hP hD hS [20, 21] (sm_C_S20 cI cS _ _) [.inl 0, .inl 1, .inl 2, .inl 3, .inl 4, .inl 5, .inl 6, .inl 7, .inl 8, .inl 9, .inl 10, .inl 11, .inl 12, .inl 13, .inl 14, .inl 15, .inl 16, .inl 17, .inl 18, .inl 19, .inr 0, .inr 1, .inl 22, .inl 23, .inl 24, .inl 25, .inl 26, .inl 27, .inl 28] (pn_C_S20 cI cS _ _ _) rfl (ad_C cI cS _ _ _) (fun b15 H locs hP hD hS => ?_)
      refine lv_if_eq (tgt := 25) hx hb dX6_lose_18 (by decide) (fun c18 => ?_) (fun c18 => ?_)
      · replace hF := ip c18 hF
        refine lv_iconst (v := 0) hx hb dX6_lose_25 (by decide) ?_
        exact W.iret hx hb hr (fun t ht hW => ⟨⟨_, (), rfl, (Prod.mk.inj (Option.some.inj hF)).1, by show va_P _ _ _ t.heap; rw [ht, ← (Prod.mk.inj (Option.some.inj hF)).2]; exact hP⟩, hS.F ht⟩) hS.2.2 dX6_lose_26
      · replace hF := iq c18 hF
        refine lv_iconst (v := 1) hx hb dX6_lose_21 (by decide) ?_
        refine lv_goto (tgt := 26) hx hb dX6_lose_22 (by decide) ?_
        exact W.iret hx hb hr (fun t ht hW => ⟨⟨_, (), rfl, (Prod.mk.inj (Option.some.inj hF)).1, by show va_P _ _ _ t.heap; rw [ht, ← (Prod.mk.inj (Option.some.inj hF)).2]; exact hP⟩, hS.F ht⟩) hS.2.2 dX6_lose_26
    · refine rR (b := a0 22) hx hb hK.1 hP 28 1 (at_C_28 cI cS _ _) rfl h14 rfl dX6_lose_14 ?_
      obtain ⟨v15, u15, h15, hF⟩ := bd2 hF
      refine cWb (ws' := pC cI cS a0 (gr t0 22 2 u15)) (va_runV (As := []) (rest := []) ⟨hx, hb, hml, hown, hts⟩ (c_X3_empty l D cI cS (sa a0 22) (sb t0 22) v15 u15 h15) (cwVA hts (TW.cons _) lv_X3_empty ml_RX6_203 ⟨rfl, rfl⟩ ⟨(Nat.le_of_ble_eq_true rfl), (Nat.le_of_ble_eq_true rfl)⟩) (pWV hK (hP.sub [22, 23] (su_C_S22 cI cS _ _)) (hD.sub [22, 23] (by decide) (sm_C_S22 cI cS _ _)) (ci := 3) rfl rfl) rfl rfl hl.1 rfl (lv_room (Nat.le_of_ble_eq_true rfl)) dX6_lose_15 ⟨Nat.le_refl _, Nat.le_refl _⟩) hP hD hS [22, 23] (sm_C_S22 cI cS _ _) [.inl 0, .inl 1, .inl 2, .inl 3, .inl 4, .inl 5, .inl 6, .inl 7, .inl 8, .inl 9, .inl 10, .inl 11, .inl 12, .inl 13, .inl 14, .inl 15, .inl 16, .inl 17, .inl 18, .inl 19, .inl 20, .inl 21, .inr 0, .inr 1, .inl 24, .inl 25, .inl 26, .inl 27, .inl 28] (pn_C_S22 cI cS _ _ _) rfl (ad_C cI cS _ _ _) (fun b15 H locs hP hD hS => ?_)
      refine lv_if_eq (tgt := 25) hx hb dX6_lose_18 (by decide) (fun c18 => ?_) (fun c18 => ?_)
      · replace hF := ip c18 hF
        refine lv_iconst (v := 0) hx hb dX6_lose_25 (by decide) ?_
        exact W.iret hx hb hr (fun t ht hW => ⟨⟨_, (), rfl, (Prod.mk.inj (Option.some.inj hF)).1, by show va_P _ _ _ t.heap; rw [ht, ← (Prod.mk.inj (Option.some.inj hF)).2]; exact hP⟩, hS.F ht⟩) hS.2.2 dX6_lose_26
      · replace hF := iq c18 hF
        refine lv_iconst (v := 1) hx hb dX6_lose_21 (by decide) ?_
        refine lv_goto (tgt := 26) hx hb dX6_lose_22 (by decide) ?_
        exact W.iret hx hb hr (fun t ht hW => ⟨⟨_, (), rfl, (Prod.mk.inj (Option.some.inj hF)).1, by show va_P _ _ _ t.heap; rw [ht, ← (Prod.mk.inj (Option.some.inj hF)).2]; exact hP⟩, hS.F ht⟩) hS.2.2 dX6_lose_26
    · refine rR (b := a0 24) hx hb hK.1 hP 28 1 (at_C_28 cI cS _ _) rfl h14 rfl dX6_lose_14 ?_
      obtain ⟨v15, u15, h15, hF⟩ := bd2 hF
      refine cWb (ws' := pC cI cS a0 (gr t0 24 2 u15)) (va_runV (As := []) (rest := []) ⟨hx, hb, hml, hown, hts⟩ (c_X3_empty l D cI cS (sa a0 24) (sb t0 24) v15 u15 h15) (cwVA hts (TW.cons _) lv_X3_empty ml_RX6_203 ⟨rfl, rfl⟩ ⟨(Nat.le_of_ble_eq_true rfl), (Nat.le_of_ble_eq_true rfl)⟩) (pWV hK (hP.sub [24, 25] (su_C_S24 cI cS _ _)) (hD.sub [24, 25] (by decide) (sm_C_S24 cI cS _ _)) (ci := 3) rfl rfl) rfl rfl hl.1 rfl (lv_room (Nat.le_of_ble_eq_true rfl)) dX6_lose_15 ⟨Nat.le_refl _, Nat.le_refl _⟩) hP hD hS [24, 25] (sm_C_S24 cI cS _ _) [.inl 0, .inl 1, .inl 2, .inl 3, .inl 4, .inl 5, .inl 6, .inl 7, .inl 8, .inl 9, .inl 10, .inl 11, .inl 12, .inl 13, .inl 14, .inl 15, .inl 16, .inl 17, .inl 18, .inl 19, .inl 20, .inl 21, .inl 22, .inl 23, .inr 0, .inr 1, .inl 26, .inl 27, .inl 28] (pn_C_S24 cI cS _ _ _) rfl (ad_C cI cS _ _ _) (fun b15 H locs hP hD hS => ?_)
      refine lv_if_eq (tgt := 25) hx hb dX6_lose_18 (by decide) (fun c18 => ?_) (fun c18 => ?_)
      · replace hF := ip c18 hF
        refine lv_iconst (v := 0) hx hb dX6_lose_25 (by decide) ?_
        exact W.iret hx hb hr (fun t ht hW => ⟨⟨_, (), rfl, (Prod.mk.inj (Option.some.inj hF)).1, by show va_P _ _ _ t.heap; rw [ht, ← (Prod.mk.inj (Option.some.inj hF)).2]; exact hP⟩, hS.F ht⟩) hS.2.2 dX6_lose_26
      · replace hF := iq c18 hF
        refine lv_iconst (v := 1) hx hb dX6_lose_21 (by decide) ?_
        refine lv_goto (tgt := 26) hx hb dX6_lose_22 (by decide) ?_
        exact W.iret hx hb hr (fun t ht hW => ⟨⟨_, (), rfl, (Prod.mk.inj (Option.some.inj hF)).1, by show va_P _ _ _ t.heap; rw [ht, ← (Prod.mk.inj (Option.some.inj hF)).2]; exact hP⟩, hS.F ht⟩) hS.2.2 dX6_lose_26
    · refine rR (b := a0 26) hx hb hK.1 hP 28 1 (at_C_28 cI cS _ _) rfl h14 rfl dX6_lose_14 ?_
      obtain ⟨v15, u15, h15, hF⟩ := bd2 hF
      refine cWb (ws' := pC cI cS a0 (gr t0 26 2 u15)) (va_runV (As := []) (rest := []) ⟨hx, hb, hml, hown, hts⟩ (c_X3_empty l D cI cS (sa a0 26) (sb t0 26) v15 u15 h15) (cwVA hts (TW.cons _) lv_X3_empty ml_RX6_203 ⟨rfl, rfl⟩ ⟨(Nat.le_of_ble_eq_true rfl), (Nat.le_of_ble_eq_true rfl)⟩) (pWV hK (hP.sub [26, 27] (su_C_S26 cI cS _ _)) (hD.sub [26, 27] (by decide) (sm_C_S26 cI cS _ _)) (ci := 3) rfl rfl) rfl rfl hl.1 rfl (lv_room (Nat.le_of_ble_eq_true rfl)) dX6_lose_15 ⟨Nat.le_refl _, Nat.le_refl _⟩) hP hD hS [26, 27] (sm_C_S26 cI cS _ _) [.inl 0, .inl 1, .inl 2, .inl 3, .inl 4, .inl 5, .inl 6, .inl 7, .inl 8, .inl 9, .inl 10, .inl 11, .inl 12, .inl 13, .inl 14, .inl 15, .inl 16, .inl 17, .inl 18, .inl 19, .inl 20, .inl 21, .inl 22, .inl 23, .inl 24, .inl 25, .inr 0, .inr 1, .inl 28] (pn_C_S26 cI cS _ _ _) rfl (ad_C cI cS _ _ _) (fun b15 H locs hP hD hS => ?_)
      refine lv_if_eq (tgt := 25) hx hb dX6_lose_18 (by decide) (fun c18 => ?_) (fun c18 => ?_)
      · replace hF := ip c18 hF
        refine lv_iconst (v := 0) hx hb dX6_lose_25 (by decide) ?_
        exact W.iret hx hb hr (fun t ht hW => ⟨⟨_, (), rfl, (Prod.mk.inj (Option.some.inj hF)).1, by show va_P _ _ _ t.heap; rw [ht, ← (Prod.mk.inj (Option.some.inj hF)).2]; exact hP⟩, hS.F ht⟩) hS.2.2 dX6_lose_26
      · replace hF := iq c18 hF
        refine lv_iconst (v := 1) hx hb dX6_lose_21 (by decide) ?_
        refine lv_goto (tgt := 26) hx hb dX6_lose_22 (by decide) ?_
        exact W.iret hx hb hr (fun t ht hW => ⟨⟨_, (), rfl, (Prod.mk.inj (Option.some.inj hF)).1, by show va_P _ _ _ t.heap; rw [ht, ← (Prod.mk.inj (Option.some.inj hF)).2]; exact hP⟩, hS.F ht⟩) hS.2.2 dX6_lose_26
  · replace hF := ip c4 hF
    refine lv_iconst (v := (-1)) hx hb dX6_lose_7 (by decide) ?_
    exact W.iret hx hb hr (fun t ht hW => ⟨⟨_, (), rfl, (Prod.mk.inj (Option.some.inj hF)).1, by show va_P _ _ _ t.heap; rw [ht, ← (Prod.mk.inj (Option.some.inj hF)).2]; exact hP⟩, hS.F ht⟩) hS.2.2 dX6_lose_8
noncomputable def F_X6_put (t0 : ST) (x1 : Int32) (x2 : Int32) (x3 : Int32) : Option (Int32 × ST) :=
  (F_X6_isSheet x1).bind fun v1 =>
  if v1 = 0 then
    b2 (F_X6_withoutFault t0 (-1)) fun v9 u9 =>
    some (v9, u9)
  else
  (ix 4 x1).bind fun k18 =>
  if (t0 (20 + 2 * k18) 0) = 0 then
    b2 (F_X6_withFault t0 1) fun v31 u31 =>
    some (v31, u31)
  else
  (F_X3_reaches (sb t0 (20 + 2 * k18)) x2 1).bind fun v39 =>
  if v39 = 0 then
    b2 (F_X6_withFault t0 3) fun v47 u47 =>
    some (v47, u47)
  else
  (F_X3_write (sb t0 (20 + 2 * k18)) x2 x3).bind fun u55 =>
  b2 (F_X6_withoutFault (gr t0 (20 + 2 * k18) 2 u55) 1) fun v60 u60 =>
  some (v60, u60)
abbrev rm_X6_put : Room := { frames := 2, cells := 0, slots := 0, locals := 43 }
set_option maxHeartbeats 4000000 in
set_option maxRecDepth 100000 in
theorem c_X6_put (l : Launch) (D : va_G) (cI cS : ClassId) (a0 : Nat → Nat) (t0 : ST) (x1 : Int32) (x2 : Int32) (x3 : Int32) (r : Int32) (t' : ST) (hF : F_X6_put t0 x1 x2 x3 = some (r, t')) : Met l yX6_put (Cond.code yX6_put cX6_put 5 (some .int) :: ALL) rm_X6_put (PreW D cI cS [.ref (a0 0), .int x1, .int x2, .int x3] (pC cI cS a0 t0)) (va_Qi (fun x (_ : Unit) => x = r) (fun _ t => va_P D vwCl (pC cI cS a0 t') t.heap) (AD (pC cI cS a0 t0))) 0 0 (AD (pC cI cS a0 t0)) := by
  refine mW l D cI cS (by decide) (Nat.le_of_ble_eq_true rfl) ?_
  intro p e s m below meth c ls hx hb hr hml hown hts hlocks hP hK hD hS hl
  have hown : s.vm.findClass RX6 = some m.cls := hown
  have hl : lv_has ls 5 [(0, .ref (a0 0)), (1, .int x1), (2, .int x2), (3, .int x3)] := hl
  unfold F_X6_put at hF
  refine lv_iload_n hx hb dX6_put_0 rfl (lv_at hl 1 rfl) ?_
  obtain ⟨v1, h1, hF⟩ := bd hF
  refine cRb (va_runS (As := [.int x1]) (rest := []) ⟨hx, hb, hml, hown, hts⟩ (c_X6_isSheet l D cI cS x1 v1 h1) (cwSA hts (TW.cons _) ls_X6_isSheet ml_RX6_49 ⟨rfl, rfl⟩ ⟨(Nat.le_of_ble_eq_true rfl), (Nat.le_of_ble_eq_true rfl)⟩) (pRS hK pnil) rfl rfl hl.1 rfl (lv_room (Nat.le_of_ble_eq_true rfl)) dX6_put_1 ⟨Nat.le_refl _, Nat.le_refl _⟩) (fun b1 => ?_)
  refine lv_if_ne (tgt := 13) hx hb dX6_put_4 (by decide) (fun c4 => ?_) (fun c4 => ?_)
  · replace hF := iq c4 hF
    refine lv_aload_n hx hb dX6_put_13 rfl (lv_at hl 0 rfl) ?_
    refine va_get (D := D) (ci := 5) (v := .ref (a0 28)) (C := RX6) (T := TX6) (N := 8) hx hb hts (fun w h => List.mem_cons_of_mem _ (inAX6 w h)) hown hK.1 hP 0 (at_C_0 cI cS _ _) rfl 5 (by decide) (hts _ (List.mem_cons_of_mem _ fl_RX6_44)) (fun _ h9 => h9) rfl dX6_put_14 ?_
    refine lv_iload_n hx hb dX6_put_17 rfl (lv_at hl 1 rfl) ?_
    obtain ⟨k18, h18, hF⟩ := bd hF
    obtain ⟨-, -, l18⟩ := ix_some h18
    rcases lt4 l18 with rfl | rfl | rfl | rfl
    · refine rR (b := a0 20) hx hb hK.1 hP 28 1 (at_C_28 cI cS _ _) rfl h18 rfl dX6_put_18 ?_
      refine lv_astore (lv' := [(4, .ref (a0 20)), (0, .ref (a0 0)), (1, .int x1), (2, .int x2), (3, .int x3)]) hx hb dX6_put_19 hl (by decide) rfl (fun ls hl => ?_)
      refine lv_aload hx hb dX6_put_21 (lv_at hl 0 rfl) ?_
      refine va_getN (D := D) (ci := 3) (v := .int (t0 20 0)) (C := RX3) (T := TX3) (N := 4) hx hb hts (fun w h => List.mem_cons_of_mem _ (inAX3 w h)) hown hK.1 hP 20 (at_C_20 cI cS _ _) rfl 0 (by decide) (nu_RX6_206 hK) (fun _ h9 => h9) rfl dX6_put_23 ?_
      refine lv_if_ne (tgt := 35) hx hb dX6_put_26 (by decide) (fun c26 => ?_) (fun c26 => ?_)
      · replace hF := iq c26 hF
        refine lv_aload hx hb dX6_put_35 (lv_at hl 0 rfl) ?_
        refine lv_iload_n hx hb dX6_put_37 rfl (lv_at hl 3 rfl) ?_
        refine lv_iconst (v := 1) hx hb dX6_put_38 (by decide) ?_
        obtain ⟨v39, h39, hF⟩ := bd hF
        refine cRb (va_runV (As := [.int x2, .int 1]) (rest := []) ⟨hx, hb, hml, hown, hts⟩ (c_X3_reaches l D cI cS (sa a0 20) (sb t0 20) x2 1 v39 h39) (cwVA hts (TW.cons _) lv_X3_reaches ml_RX6_210 ⟨rfl, rfl⟩ ⟨(Nat.le_of_ble_eq_true rfl), (Nat.le_of_ble_eq_true rfl)⟩) (pRV hK (hP.sub [20, 21] (su_C_S20 cI cS _ _)) (ci := 3) rfl rfl) rfl rfl hl.1 rfl (lv_room (Nat.le_of_ble_eq_true rfl)) dX6_put_39 ⟨Nat.le_refl _, Nat.le_refl _⟩) (fun b39 => ?_)
        refine lv_if_ne (tgt := 51) hx hb dX6_put_42 (by decide) (fun c42 => ?_) (fun c42 => ?_)
        · replace hF := iq c42 hF
          refine lv_aload hx hb dX6_put_51 (lv_at hl 0 rfl) ?_
          refine lv_iload_n hx hb dX6_put_53 rfl (lv_at hl 3 rfl) ?_
          refine lv_iload_n hx hb dX6_put_54 rfl (lv_at hl 4 rfl) ?_
          obtain ⟨u55, h55, hF⟩ := bd hF
          refine cWv (ws' := pC cI cS a0 (gr t0 20 2 u55)) (va_runV (As := [.int x2, .int x3]) (rest := []) ⟨hx, hb, hml, hown, hts⟩ (c_X3_write l D cI cS (sa a0 20) (sb t0 20) x2 x3 u55 h55) (cwVA hts (TW.cons _) lv_X3_write ml_RX6_214 ⟨rfl, rfl⟩ ⟨(Nat.le_of_ble_eq_true rfl), (Nat.le_of_ble_eq_true rfl)⟩) (pWV hK (hP.sub [20, 21] (su_C_S20 cI cS _ _)) (hD.sub [20, 21] (by decide) (sm_C_S20 cI cS _ _)) (ci := 3) rfl rfl) rfl rfl hl.1 rfl (lv_room (Nat.le_of_ble_eq_true rfl)) dX6_put_55 ⟨Nat.le_refl _, Nat.le_refl _⟩) hP hD hS [20, 21] (sm_C_S20 cI cS _ _) [.inl 0, .inl 1, .inl 2, .inl 3, .inl 4, .inl 5, .inl 6, .inl 7, .inl 8, .inl 9, .inl 10, .inl 11, .inl 12, .inl 13, .inl 14, .inl 15, .inl 16, .inl 17, .inl 18, .inl 19, .inr 0, .inr 1, .inl 22, .inl 23, .inl 24, .inl 25, .inl 26, .inl 27, .inl 28] (pn_C_S20 cI cS _ _ _) rfl (ad_C cI cS _ _ _) (fun H locs hP hD hS => ?_)
          refine lv_aload_n hx hb dX6_put_58 rfl (lv_at hl 1 rfl) ?_
          refine lv_iconst (v := 1) hx hb dX6_put_59 (by decide) ?_
          obtain ⟨v60, u60, h60, hF⟩ := bd2 hF
          refine cAe (ws' := pC cI cS a0 u60) (va_runV (As := [.int 1]) (rest := []) ⟨hx, hb, hml, hown, hts⟩ (c_X6_withoutFault l D cI cS a0 (gr t0 20 2 u55) 1 v60 u60 h60) (cwVA hts (TW.cons _) lv_X6_withoutFault ml_RX6_53 ⟨rfl, rfl⟩ ⟨(Nat.le_of_ble_eq_true rfl), (Nat.le_of_ble_eq_true rfl)⟩) (pWV hK hP hD (ci := 5) rfl rfl) rfl rfl hl.1 rfl (lv_room (Nat.le_of_ble_eq_true rfl)) dX6_put_60 ⟨Nat.le_refl _, Nat.le_refl _⟩) hD hS (ad_C cI cS _ _ _) (fun H locs hP hD hS => ?_)
          exact W.iret hx hb hr (fun t ht hW => ⟨⟨_, (), rfl, (Prod.mk.inj (Option.some.inj hF)).1, by show va_P _ _ _ t.heap; rw [ht, ← (Prod.mk.inj (Option.some.inj hF)).2]; exact hP⟩, hS.F ht⟩) hS.2.2 dX6_put_63
        · replace hF := ip c42 hF
          refine lv_aload_n hx hb dX6_put_45 rfl (lv_at hl 1 rfl) ?_
          refine lv_iconst (v := 3) hx hb dX6_put_46 (by decide) ?_
          obtain ⟨v47, u47, h47, hF⟩ := bd2 hF
          refine cAe (ws' := pC cI cS a0 u47) (va_runV (As := [.int 3]) (rest := []) ⟨hx, hb, hml, hown, hts⟩ (c_X6_withFault l D cI cS a0 t0 3 v47 u47 h47) (cwVA hts (TW.cons _) lv_X6_withFault ml_RX6_64 ⟨rfl, rfl⟩ ⟨(Nat.le_of_ble_eq_true rfl), (Nat.le_of_ble_eq_true rfl)⟩) (pWV hK hP hD (ci := 5) rfl rfl) rfl rfl hl.1 rfl (lv_room (Nat.le_of_ble_eq_true rfl)) dX6_put_47 ⟨Nat.le_refl _, Nat.le_refl _⟩) hD hS (ad_C cI cS _ _ _) (fun H locs hP hD hS => ?_)
          exact W.iret hx hb hr (fun t ht hW => ⟨⟨_, (), rfl, (Prod.mk.inj (Option.some.inj hF)).1, by show va_P _ _ _ t.heap; rw [ht, ← (Prod.mk.inj (Option.some.inj hF)).2]; exact hP⟩, hS.F ht⟩) hS.2.2 dX6_put_50
      · replace hF := ip c26 hF
        refine lv_aload_n hx hb dX6_put_29 rfl (lv_at hl 1 rfl) ?_
        refine lv_iconst (v := 1) hx hb dX6_put_30 (by decide) ?_
        obtain ⟨v31, u31, h31, hF⟩ := bd2 hF
        refine cAe (ws' := pC cI cS a0 u31) (va_runV (As := [.int 1]) (rest := []) ⟨hx, hb, hml, hown, hts⟩ (c_X6_withFault l D cI cS a0 t0 1 v31 u31 h31) (cwVA hts (TW.cons _) lv_X6_withFault ml_RX6_64 ⟨rfl, rfl⟩ ⟨(Nat.le_of_ble_eq_true rfl), (Nat.le_of_ble_eq_true rfl)⟩) (pWV hK hP hD (ci := 5) rfl rfl) rfl rfl hl.1 rfl (lv_room (Nat.le_of_ble_eq_true rfl)) dX6_put_31 ⟨Nat.le_refl _, Nat.le_refl _⟩) hD hS (ad_C cI cS _ _ _) (fun H locs hP hD hS => ?_)
        exact W.iret hx hb hr (fun t ht hW => ⟨⟨_, (), rfl, (Prod.mk.inj (Option.some.inj hF)).1, by show va_P _ _ _ t.heap; rw [ht, ← (Prod.mk.inj (Option.some.inj hF)).2]; exact hP⟩, hS.F ht⟩) hS.2.2 dX6_put_34
    · refine rR (b := a0 22) hx hb hK.1 hP 28 1 (at_C_28 cI cS _ _) rfl h18 rfl dX6_put_18 ?_
      refine lv_astore (lv' := [(4, .ref (a0 22)), (0, .ref (a0 0)), (1, .int x1), (2, .int x2), (3, .int x3)]) hx hb dX6_put_19 hl (by decide) rfl (fun ls hl => ?_)
      refine lv_aload hx hb dX6_put_21 (lv_at hl 0 rfl) ?_
      refine va_getN (D := D) (ci := 3) (v := .int (t0 22 0)) (C := RX3) (T := TX3) (N := 4) hx hb hts (fun w h => List.mem_cons_of_mem _ (inAX3 w h)) hown hK.1 hP 22 (at_C_22 cI cS _ _) rfl 0 (by decide) (nu_RX6_206 hK) (fun _ h9 => h9) rfl dX6_put_23 ?_
      refine lv_if_ne (tgt := 35) hx hb dX6_put_26 (by decide) (fun c26 => ?_) (fun c26 => ?_)
      · replace hF := iq c26 hF
        refine lv_aload hx hb dX6_put_35 (lv_at hl 0 rfl) ?_
        refine lv_iload_n hx hb dX6_put_37 rfl (lv_at hl 3 rfl) ?_
        refine lv_iconst (v := 1) hx hb dX6_put_38 (by decide) ?_
        obtain ⟨v39, h39, hF⟩ := bd hF
        refine cRb (va_runV (As := [.int x2, .int 1]) (rest := []) ⟨hx, hb, hml, hown, hts⟩ (c_X3_reaches l D cI cS (sa a0 22) (sb t0 22) x2 1 v39 h39) (cwVA hts (TW.cons _) lv_X3_reaches ml_RX6_210 ⟨rfl, rfl⟩ ⟨(Nat.le_of_ble_eq_true rfl), (Nat.le_of_ble_eq_true rfl)⟩) (pRV hK (hP.sub [22, 23] (su_C_S22 cI cS _ _)) (ci := 3) rfl rfl) rfl rfl hl.1 rfl (lv_room (Nat.le_of_ble_eq_true rfl)) dX6_put_39 ⟨Nat.le_refl _, Nat.le_refl _⟩) (fun b39 => ?_)
        refine lv_if_ne (tgt := 51) hx hb dX6_put_42 (by decide) (fun c42 => ?_) (fun c42 => ?_)
        · replace hF := iq c42 hF
          refine lv_aload hx hb dX6_put_51 (lv_at hl 0 rfl) ?_
          refine lv_iload_n hx hb dX6_put_53 rfl (lv_at hl 3 rfl) ?_
          refine lv_iload_n hx hb dX6_put_54 rfl (lv_at hl 4 rfl) ?_
          obtain ⟨u55, h55, hF⟩ := bd hF
          refine cWv (ws' := pC cI cS a0 (gr t0 22 2 u55)) (va_runV (As := [.int x2, .int x3]) (rest := []) ⟨hx, hb, hml, hown, hts⟩ (c_X3_write l D cI cS (sa a0 22) (sb t0 22) x2 x3 u55 h55) (cwVA hts (TW.cons _) lv_X3_write ml_RX6_214 ⟨rfl, rfl⟩ ⟨(Nat.le_of_ble_eq_true rfl), (Nat.le_of_ble_eq_true rfl)⟩) (pWV hK (hP.sub [22, 23] (su_C_S22 cI cS _ _)) (hD.sub [22, 23] (by decide) (sm_C_S22 cI cS _ _)) (ci := 3) rfl rfl) rfl rfl hl.1 rfl (lv_room (Nat.le_of_ble_eq_true rfl)) dX6_put_55 ⟨Nat.le_refl _, Nat.le_refl _⟩) hP hD hS [22, 23] (sm_C_S22 cI cS _ _) [.inl 0, .inl 1, .inl 2, .inl 3, .inl 4, .inl 5, .inl 6, .inl 7, .inl 8, .inl 9, .inl 10, .inl 11, .inl 12, .inl 13, .inl 14, .inl 15, .inl 16, .inl 17, .inl 18, .inl 19, .inl 20, .inl 21, .inr 0, .inr 1, .inl 24, .inl 25, .inl 26, .inl 27, .inl 28] (pn_C_S22 cI cS _ _ _) rfl (ad_C cI cS _ _ _) (fun H locs hP hD hS => ?_)
          refine lv_aload_n hx hb dX6_put_58 rfl (lv_at hl 1 rfl) ?_
          refine lv_iconst (v := 1) hx hb dX6_put_59 (by decide) ?_
          obtain ⟨v60, u60, h60, hF⟩ := bd2 hF
          refine cAe (ws' := pC cI cS a0 u60) (va_runV (As := [.int 1]) (rest := []) ⟨hx, hb, hml, hown, hts⟩ (c_X6_withoutFault l D cI cS a0 (gr t0 22 2 u55) 1 v60 u60 h60) (cwVA hts (TW.cons _) lv_X6_withoutFault ml_RX6_53 ⟨rfl, rfl⟩ ⟨(Nat.le_of_ble_eq_true rfl), (Nat.le_of_ble_eq_true rfl)⟩) (pWV hK hP hD (ci := 5) rfl rfl) rfl rfl hl.1 rfl (lv_room (Nat.le_of_ble_eq_true rfl)) dX6_put_60 ⟨Nat.le_refl _, Nat.le_refl _⟩) hD hS (ad_C cI cS _ _ _) (fun H locs hP hD hS => ?_)
          exact W.iret hx hb hr (fun t ht hW => ⟨⟨_, (), rfl, (Prod.mk.inj (Option.some.inj hF)).1, by show va_P _ _ _ t.heap; rw [ht, ← (Prod.mk.inj (Option.some.inj hF)).2]; exact hP⟩, hS.F ht⟩) hS.2.2 dX6_put_63
        · replace hF := ip c42 hF
          refine lv_aload_n hx hb dX6_put_45 rfl (lv_at hl 1 rfl) ?_
          refine lv_iconst (v := 3) hx hb dX6_put_46 (by decide) ?_
          obtain ⟨v47, u47, h47, hF⟩ := bd2 hF
          refine cAe (ws' := pC cI cS a0 u47) (va_runV (As := [.int 3]) (rest := []) ⟨hx, hb, hml, hown, hts⟩ (c_X6_withFault l D cI cS a0 t0 3 v47 u47 h47) (cwVA hts (TW.cons _) lv_X6_withFault ml_RX6_64 ⟨rfl, rfl⟩ ⟨(Nat.le_of_ble_eq_true rfl), (Nat.le_of_ble_eq_true rfl)⟩) (pWV hK hP hD (ci := 5) rfl rfl) rfl rfl hl.1 rfl (lv_room (Nat.le_of_ble_eq_true rfl)) dX6_put_47 ⟨Nat.le_refl _, Nat.le_refl _⟩) hD hS (ad_C cI cS _ _ _) (fun H locs hP hD hS => ?_)
          exact W.iret hx hb hr (fun t ht hW => ⟨⟨_, (), rfl, (Prod.mk.inj (Option.some.inj hF)).1, by show va_P _ _ _ t.heap; rw [ht, ← (Prod.mk.inj (Option.some.inj hF)).2]; exact hP⟩, hS.F ht⟩) hS.2.2 dX6_put_50
      · replace hF := ip c26 hF
        refine lv_aload_n hx hb dX6_put_29 rfl (lv_at hl 1 rfl) ?_
        refine lv_iconst (v := 1) hx hb dX6_put_30 (by decide) ?_
        obtain ⟨v31, u31, h31, hF⟩ := bd2 hF
        refine cAe (ws' := pC cI cS a0 u31) (va_runV (As := [.int 1]) (rest := []) ⟨hx, hb, hml, hown, hts⟩ (c_X6_withFault l D cI cS a0 t0 1 v31 u31 h31) (cwVA hts (TW.cons _) lv_X6_withFault ml_RX6_64 ⟨rfl, rfl⟩ ⟨(Nat.le_of_ble_eq_true rfl), (Nat.le_of_ble_eq_true rfl)⟩) (pWV hK hP hD (ci := 5) rfl rfl) rfl rfl hl.1 rfl (lv_room (Nat.le_of_ble_eq_true rfl)) dX6_put_31 ⟨Nat.le_refl _, Nat.le_refl _⟩) hD hS (ad_C cI cS _ _ _) (fun H locs hP hD hS => ?_)
        exact W.iret hx hb hr (fun t ht hW => ⟨⟨_, (), rfl, (Prod.mk.inj (Option.some.inj hF)).1, by show va_P _ _ _ t.heap; rw [ht, ← (Prod.mk.inj (Option.some.inj hF)).2]; exact hP⟩, hS.F ht⟩) hS.2.2 dX6_put_34
    · refine rR (b := a0 24) hx hb hK.1 hP 28 1 (at_C_28 cI cS _ _) rfl h18 rfl dX6_put_18 ?_
      refine lv_astore (lv' := [(4, .ref (a0 24)), (0, .ref (a0 0)), (1, .int x1), (2, .int x2), (3, .int x3)]) hx hb dX6_put_19 hl (by decide) rfl (fun ls hl => ?_)
      refine lv_aload hx hb dX6_put_21 (lv_at hl 0 rfl) ?_
      refine va_getN (D := D) (ci := 3) (v := .int (t0 24 0)) (C := RX3) (T := TX3) (N := 4) hx hb hts (fun w h => List.mem_cons_of_mem _ (inAX3 w h)) hown hK.1 hP 24 (at_C_24 cI cS _ _) rfl 0 (by decide) (nu_RX6_206 hK) (fun _ h9 => h9) rfl dX6_put_23 ?_
      refine lv_if_ne (tgt := 35) hx hb dX6_put_26 (by decide) (fun c26 => ?_) (fun c26 => ?_)
      · replace hF := iq c26 hF
        refine lv_aload hx hb dX6_put_35 (lv_at hl 0 rfl) ?_
        refine lv_iload_n hx hb dX6_put_37 rfl (lv_at hl 3 rfl) ?_
        refine lv_iconst (v := 1) hx hb dX6_put_38 (by decide) ?_
        obtain ⟨v39, h39, hF⟩ := bd hF
        refine cRb (va_runV (As := [.int x2, .int 1]) (rest := []) ⟨hx, hb, hml, hown, hts⟩ (c_X3_reaches l D cI cS (sa a0 24) (sb t0 24) x2 1 v39 h39) (cwVA hts (TW.cons _) lv_X3_reaches ml_RX6_210 ⟨rfl, rfl⟩ ⟨(Nat.le_of_ble_eq_true rfl), (Nat.le_of_ble_eq_true rfl)⟩) (pRV hK (hP.sub [24, 25] (su_C_S24 cI cS _ _)) (ci := 3) rfl rfl) rfl rfl hl.1 rfl (lv_room (Nat.le_of_ble_eq_true rfl)) dX6_put_39 ⟨Nat.le_refl _, Nat.le_refl _⟩) (fun b39 => ?_)
        refine lv_if_ne (tgt := 51) hx hb dX6_put_42 (by decide) (fun c42 => ?_) (fun c42 => ?_)
        · replace hF := iq c42 hF
          refine lv_aload hx hb dX6_put_51 (lv_at hl 0 rfl) ?_
          refine lv_iload_n hx hb dX6_put_53 rfl (lv_at hl 3 rfl) ?_
          refine lv_iload_n hx hb dX6_put_54 rfl (lv_at hl 4 rfl) ?_
          obtain ⟨u55, h55, hF⟩ := bd hF
          refine cWv (ws' := pC cI cS a0 (gr t0 24 2 u55)) (va_runV (As := [.int x2, .int x3]) (rest := []) ⟨hx, hb, hml, hown, hts⟩ (c_X3_write l D cI cS (sa a0 24) (sb t0 24) x2 x3 u55 h55) (cwVA hts (TW.cons _) lv_X3_write ml_RX6_214 ⟨rfl, rfl⟩ ⟨(Nat.le_of_ble_eq_true rfl), (Nat.le_of_ble_eq_true rfl)⟩) (pWV hK (hP.sub [24, 25] (su_C_S24 cI cS _ _)) (hD.sub [24, 25] (by decide) (sm_C_S24 cI cS _ _)) (ci := 3) rfl rfl) rfl rfl hl.1 rfl (lv_room (Nat.le_of_ble_eq_true rfl)) dX6_put_55 ⟨Nat.le_refl _, Nat.le_refl _⟩) hP hD hS [24, 25] (sm_C_S24 cI cS _ _) [.inl 0, .inl 1, .inl 2, .inl 3, .inl 4, .inl 5, .inl 6, .inl 7, .inl 8, .inl 9, .inl 10, .inl 11, .inl 12, .inl 13, .inl 14, .inl 15, .inl 16, .inl 17, .inl 18, .inl 19, .inl 20, .inl 21, .inl 22, .inl 23, .inr 0, .inr 1, .inl 26, .inl 27, .inl 28] (pn_C_S24 cI cS _ _ _) rfl (ad_C cI cS _ _ _) (fun H locs hP hD hS => ?_)
          refine lv_aload_n hx hb dX6_put_58 rfl (lv_at hl 1 rfl) ?_
          refine lv_iconst (v := 1) hx hb dX6_put_59 (by decide) ?_
          obtain ⟨v60, u60, h60, hF⟩ := bd2 hF
          refine cAe (ws' := pC cI cS a0 u60) (va_runV (As := [.int 1]) (rest := []) ⟨hx, hb, hml, hown, hts⟩ (c_X6_withoutFault l D cI cS a0 (gr t0 24 2 u55) 1 v60 u60 h60) (cwVA hts (TW.cons _) lv_X6_withoutFault ml_RX6_53 ⟨rfl, rfl⟩ ⟨(Nat.le_of_ble_eq_true rfl), (Nat.le_of_ble_eq_true rfl)⟩) (pWV hK hP hD (ci := 5) rfl rfl) rfl rfl hl.1 rfl (lv_room (Nat.le_of_ble_eq_true rfl)) dX6_put_60 ⟨Nat.le_refl _, Nat.le_refl _⟩) hD hS (ad_C cI cS _ _ _) (fun H locs hP hD hS => ?_)
          exact W.iret hx hb hr (fun t ht hW => ⟨⟨_, (), rfl, (Prod.mk.inj (Option.some.inj hF)).1, by show va_P _ _ _ t.heap; rw [ht, ← (Prod.mk.inj (Option.some.inj hF)).2]; exact hP⟩, hS.F ht⟩) hS.2.2 dX6_put_63
        · replace hF := ip c42 hF
          refine lv_aload_n hx hb dX6_put_45 rfl (lv_at hl 1 rfl) ?_
          refine lv_iconst (v := 3) hx hb dX6_put_46 (by decide) ?_
          obtain ⟨v47, u47, h47, hF⟩ := bd2 hF
          refine cAe (ws' := pC cI cS a0 u47) (va_runV (As := [.int 3]) (rest := []) ⟨hx, hb, hml, hown, hts⟩ (c_X6_withFault l D cI cS a0 t0 3 v47 u47 h47) (cwVA hts (TW.cons _) lv_X6_withFault ml_RX6_64 ⟨rfl, rfl⟩ ⟨(Nat.le_of_ble_eq_true rfl), (Nat.le_of_ble_eq_true rfl)⟩) (pWV hK hP hD (ci := 5) rfl rfl) rfl rfl hl.1 rfl (lv_room (Nat.le_of_ble_eq_true rfl)) dX6_put_47 ⟨Nat.le_refl _, Nat.le_refl _⟩) hD hS (ad_C cI cS _ _ _) (fun H locs hP hD hS => ?_)
          exact W.iret hx hb hr (fun t ht hW => ⟨⟨_, (), rfl, (Prod.mk.inj (Option.some.inj hF)).1, by show va_P _ _ _ t.heap; rw [ht, ← (Prod.mk.inj (Option.some.inj hF)).2]; exact hP⟩, hS.F ht⟩) hS.2.2 dX6_put_50
      · replace hF := ip c26 hF
        refine lv_aload_n hx hb dX6_put_29 rfl (lv_at hl 1 rfl) ?_
        refine lv_iconst (v := 1) hx hb dX6_put_30 (by decide) ?_
        obtain ⟨v31, u31, h31, hF⟩ := bd2 hF
        refine cAe (ws' := pC cI cS a0 u31) (va_runV (As := [.int 1]) (rest := []) ⟨hx, hb, hml, hown, hts⟩ (c_X6_withFault l D cI cS a0 t0 1 v31 u31 h31) (cwVA hts (TW.cons _) lv_X6_withFault ml_RX6_64 ⟨rfl, rfl⟩ ⟨(Nat.le_of_ble_eq_true rfl), (Nat.le_of_ble_eq_true rfl)⟩) (pWV hK hP hD (ci := 5) rfl rfl) rfl rfl hl.1 rfl (lv_room (Nat.le_of_ble_eq_true rfl)) dX6_put_31 ⟨Nat.le_refl _, Nat.le_refl _⟩) hD hS (ad_C cI cS _ _ _) (fun H locs hP hD hS => ?_)
        exact W.iret hx hb hr (fun t ht hW => ⟨⟨_, (), rfl, (Prod.mk.inj (Option.some.inj hF)).1, by show va_P _ _ _ t.heap; rw [ht, ← (Prod.mk.inj (Option.some.inj hF)).2]; exact hP⟩, hS.F ht⟩) hS.2.2 dX6_put_34
    · refine rR (b := a0 26) hx hb hK.1 hP 28 1 (at_C_28 cI cS _ _) rfl h18 rfl dX6_put_18 ?_
      refine lv_astore (lv' := [(4, .ref (a0 26)), (0, .ref (a0 0)), (1, .int x1), (2, .int x2), (3, .int x3)]) hx hb dX6_put_19 hl (by decide) rfl (fun ls hl => ?_)
      refine lv_aload hx hb dX6_put_21 (lv_at hl 0 rfl) ?_
      refine va_getN (D := D) (ci := 3) (v := .int (t0 26 0)) (C := RX3) (T := TX3) (N := 4) hx hb hts (fun w h => List.mem_cons_of_mem _ (inAX3 w h)) hown hK.1 hP 26 (at_C_26 cI cS _ _) rfl 0 (by decide) (nu_RX6_206 hK) (fun _ h9 => h9) rfl dX6_put_23 ?_
      refine lv_if_ne (tgt := 35) hx hb dX6_put_26 (by decide) (fun c26 => ?_) (fun c26 => ?_)
      · replace hF := iq c26 hF
        refine lv_aload hx hb dX6_put_35 (lv_at hl 0 rfl) ?_
        refine lv_iload_n hx hb dX6_put_37 rfl (lv_at hl 3 rfl) ?_
        refine lv_iconst (v := 1) hx hb dX6_put_38 (by decide) ?_
        obtain ⟨v39, h39, hF⟩ := bd hF
        refine cRb (va_runV (As := [.int x2, .int 1]) (rest := []) ⟨hx, hb, hml, hown, hts⟩ (c_X3_reaches l D cI cS (sa a0 26) (sb t0 26) x2 1 v39 h39) (cwVA hts (TW.cons _) lv_X3_reaches ml_RX6_210 ⟨rfl, rfl⟩ ⟨(Nat.le_of_ble_eq_true rfl), (Nat.le_of_ble_eq_true rfl)⟩) (pRV hK (hP.sub [26, 27] (su_C_S26 cI cS _ _)) (ci := 3) rfl rfl) rfl rfl hl.1 rfl (lv_room (Nat.le_of_ble_eq_true rfl)) dX6_put_39 ⟨Nat.le_refl _, Nat.le_refl _⟩) (fun b39 => ?_)
        refine lv_if_ne (tgt := 51) hx hb dX6_put_42 (by decide) (fun c42 => ?_) (fun c42 => ?_)
        · replace hF := iq c42 hF
          refine lv_aload hx hb dX6_put_51 (lv_at hl 0 rfl) ?_
          refine lv_iload_n hx hb dX6_put_53 rfl (lv_at hl 3 rfl) ?_
          refine lv_iload_n hx hb dX6_put_54 rfl (lv_at hl 4 rfl) ?_
          obtain ⟨u55, h55, hF⟩ := bd hF
          refine cWv (ws' := pC cI cS a0 (gr t0 26 2 u55)) (va_runV (As := [.int x2, .int x3]) (rest := []) ⟨hx, hb, hml, hown, hts⟩ (c_X3_write l D cI cS (sa a0 26) (sb t0 26) x2 x3 u55 h55) (cwVA hts (TW.cons _) lv_X3_write ml_RX6_214 ⟨rfl, rfl⟩ ⟨(Nat.le_of_ble_eq_true rfl), (Nat.le_of_ble_eq_true rfl)⟩) (pWV hK (hP.sub [26, 27] (su_C_S26 cI cS _ _)) (hD.sub [26, 27] (by decide) (sm_C_S26 cI cS _ _)) (ci := 3) rfl rfl) rfl rfl hl.1 rfl (lv_room (Nat.le_of_ble_eq_true rfl)) dX6_put_55 ⟨Nat.le_refl _, Nat.le_refl _⟩) hP hD hS [26, 27] (sm_C_S26 cI cS _ _) [.inl 0, .inl 1, .inl 2, .inl 3, .inl 4, .inl 5, .inl 6, .inl 7, .inl 8, .inl 9, .inl 10, .inl 11, .inl 12, .inl 13, .inl 14, .inl 15, .inl 16, .inl 17, .inl 18, .inl 19, .inl 20, .inl 21, .inl 22, .inl 23, .inl 24, .inl 25, .inr 0, .inr 1, .inl 28] (pn_C_S26 cI cS _ _ _) rfl (ad_C cI cS _ _ _) (fun H locs hP hD hS => ?_)
          refine lv_aload_n hx hb dX6_put_58 rfl (lv_at hl 1 rfl) ?_
          refine lv_iconst (v := 1) hx hb dX6_put_59 (by decide) ?_
          obtain ⟨v60, u60, h60, hF⟩ := bd2 hF
          refine cAe (ws' := pC cI cS a0 u60) (va_runV (As := [.int 1]) (rest := []) ⟨hx, hb, hml, hown, hts⟩ (c_X6_withoutFault l D cI cS a0 (gr t0 26 2 u55) 1 v60 u60 h60) (cwVA hts (TW.cons _) lv_X6_withoutFault ml_RX6_53 ⟨rfl, rfl⟩ ⟨(Nat.le_of_ble_eq_true rfl), (Nat.le_of_ble_eq_true rfl)⟩) (pWV hK hP hD (ci := 5) rfl rfl) rfl rfl hl.1 rfl (lv_room (Nat.le_of_ble_eq_true rfl)) dX6_put_60 ⟨Nat.le_refl _, Nat.le_refl _⟩) hD hS (ad_C cI cS _ _ _) (fun H locs hP hD hS => ?_)
          exact W.iret hx hb hr (fun t ht hW => ⟨⟨_, (), rfl, (Prod.mk.inj (Option.some.inj hF)).1, by show va_P _ _ _ t.heap; rw [ht, ← (Prod.mk.inj (Option.some.inj hF)).2]; exact hP⟩, hS.F ht⟩) hS.2.2 dX6_put_63
        · replace hF := ip c42 hF
          refine lv_aload_n hx hb dX6_put_45 rfl (lv_at hl 1 rfl) ?_
          refine lv_iconst (v := 3) hx hb dX6_put_46 (by decide) ?_
          obtain ⟨v47, u47, h47, hF⟩ := bd2 hF
          refine cAe (ws' := pC cI cS a0 u47) (va_runV (As := [.int 3]) (rest := []) ⟨hx, hb, hml, hown, hts⟩ (c_X6_withFault l D cI cS a0 t0 3 v47 u47 h47) (cwVA hts (TW.cons _) lv_X6_withFault ml_RX6_64 ⟨rfl, rfl⟩ ⟨(Nat.le_of_ble_eq_true rfl), (Nat.le_of_ble_eq_true rfl)⟩) (pWV hK hP hD (ci := 5) rfl rfl) rfl rfl hl.1 rfl (lv_room (Nat.le_of_ble_eq_true rfl)) dX6_put_47 ⟨Nat.le_refl _, Nat.le_refl _⟩) hD hS (ad_C cI cS _ _ _) (fun H locs hP hD hS => ?_)
          exact W.iret hx hb hr (fun t ht hW => ⟨⟨_, (), rfl, (Prod.mk.inj (Option.some.inj hF)).1, by show va_P _ _ _ t.heap; rw [ht, ← (Prod.mk.inj (Option.some.inj hF)).2]; exact hP⟩, hS.F ht⟩) hS.2.2 dX6_put_50
      · replace hF := ip c26 hF
        refine lv_aload_n hx hb dX6_put_29 rfl (lv_at hl 1 rfl) ?_
        refine lv_iconst (v := 1) hx hb dX6_put_30 (by decide) ?_
        obtain ⟨v31, u31, h31, hF⟩ := bd2 hF
        refine cAe (ws' := pC cI cS a0 u31) (va_runV (As := [.int 1]) (rest := []) ⟨hx, hb, hml, hown, hts⟩ (c_X6_withFault l D cI cS a0 t0 1 v31 u31 h31) (cwVA hts (TW.cons _) lv_X6_withFault ml_RX6_64 ⟨rfl, rfl⟩ ⟨(Nat.le_of_ble_eq_true rfl), (Nat.le_of_ble_eq_true rfl)⟩) (pWV hK hP hD (ci := 5) rfl rfl) rfl rfl hl.1 rfl (lv_room (Nat.le_of_ble_eq_true rfl)) dX6_put_31 ⟨Nat.le_refl _, Nat.le_refl _⟩) hD hS (ad_C cI cS _ _ _) (fun H locs hP hD hS => ?_)
        exact W.iret hx hb hr (fun t ht hW => ⟨⟨_, (), rfl, (Prod.mk.inj (Option.some.inj hF)).1, by show va_P _ _ _ t.heap; rw [ht, ← (Prod.mk.inj (Option.some.inj hF)).2]; exact hP⟩, hS.F ht⟩) hS.2.2 dX6_put_34
  · replace hF := ip c4 hF
    refine lv_aload_n hx hb dX6_put_7 rfl (lv_at hl 0 rfl) ?_
    refine lv_iconst (v := (-1)) hx hb dX6_put_8 (by decide) ?_
    obtain ⟨v9, u9, h9, hF⟩ := bd2 hF
    refine cAe (ws' := pC cI cS a0 u9) (va_runV (As := [.int (-1)]) (rest := []) ⟨hx, hb, hml, hown, hts⟩ (c_X6_withoutFault l D cI cS a0 t0 (-1) v9 u9 h9) (cwVA hts (TW.cons _) lv_X6_withoutFault ml_RX6_53 ⟨rfl, rfl⟩ ⟨(Nat.le_of_ble_eq_true rfl), (Nat.le_of_ble_eq_true rfl)⟩) (pWV hK hP hD (ci := 5) rfl rfl) rfl rfl hl.1 rfl (lv_room (Nat.le_of_ble_eq_true rfl)) dX6_put_9 ⟨Nat.le_refl _, Nat.le_refl _⟩) hD hS (ad_C cI cS _ _ _) (fun H locs hP hD hS => ?_)
    exact W.iret hx hb hr (fun t ht hW => ⟨⟨_, (), rfl, (Prod.mk.inj (Option.some.inj hF)).1, by show va_P _ _ _ t.heap; rw [ht, ← (Prod.mk.inj (Option.some.inj hF)).2]; exact hP⟩, hS.F ht⟩) hS.2.2 dX6_put_12
