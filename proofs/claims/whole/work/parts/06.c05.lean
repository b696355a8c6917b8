noncomputable def F_X6_cell (t0 : ST) (x1 : Int32) (x2 : Int32) (x3 : Int32) : Option (Int64 × ST) :=
  (F_X6_isSheet x1).bind fun v6 =>
  if v6 = 0 then
    some ((-9223372036854775808), (st t0 0 1 0))
  else
  (F_X6_isLane x3).bind fun v13 =>
  if v13 = 0 then
    some ((-9223372036854775808), (st t0 0 1 0))
  else
  (ix 4 x1).bind fun k28 =>
  (F_X3_faultOfTaking (sb (st t0 0 1 0) (20 + 2 * k28)) x3 x2 1).bind fun v37 =>
  if v37 = 0 then
    (F_X3_at (sb (st (st t0 0 1 0) 0 1 v37) (20 + 2 * k28)) x2).bind fun v53 =>
    some (v53.toInt64, (st (st t0 0 1 0) 0 1 v37))
  else
  some ((-9223372036854775808), (st (st t0 0 1 0) 0 1 v37))
abbrev rm_X6_cell : Room := { frames := 2, cells := 0, slots := 0, locals := 45 }
set_option maxHeartbeats 4000000 in
set_option maxRecDepth 100000 in
theorem c_X6_cell (l : Launch) (D : va_G) (cI cS : ClassId) (a0 : Nat → Nat) (t0 : ST) (x1 : Int32) (x2 : Int32) (x3 : Int32) (r : Int64) (t' : ST) (hF : F_X6_cell t0 x1 x2 x3 = some (r, t')) : Met l yX6_cell (Cond.code yX6_cell cX6_cell 5 (some .long) :: ALL) rm_X6_cell (PreW D cI cS [.ref (a0 0), .int x1, .int x2, .int x3] (pC cI cS a0 t0)) (va_Ql (fun x (_ : Unit) => x = r) (fun _ t => va_P D vwCl (pC cI cS a0 t') t.heap) (AD (pC cI cS a0 t0))) 0 0 (AD (pC cI cS a0 t0)) := by
  refine mW l D cI cS (by decide) (Nat.le_of_ble_eq_true rfl) ?_
  intro p e s m below meth c ls hx hb hr hml hown hts hlocks hP hK hD hS hl
  have hown : s.vm.findClass RX6 = some m.cls := hown
  have hl : lv_has ls 5 [(0, .ref (a0 0)), (1, .int x1), (2, .int x2), (3, .int x3)] := hl
  unfold F_X6_cell at hF
  refine lv_aload_n hx hb dX6_cell_0 rfl (lv_at hl 0 rfl) ?_
  refine lv_iconst (v := 0) hx hb dX6_cell_1 (by decide) ?_
  refine wF (ws' := pC cI cS a0 (st t0 0 1 0)) (C := RX6) (T := TX6) (N := 8) hx hb hts (fun w h => List.mem_cons_of_mem _ (inAX6 w h)) tyX6 tyX6_ok nmX6 hown hK.1 hP hD hS 0 (at_C_0 cI cS _ _) rfl 7 (by decide) (hts _ (List.mem_cons_of_mem _ fl_RX6_217)) rfl (tyX6_ok 7 (by decide)) rfl rfl (Nat.le_of_ble_eq_true rfl) (sf_C_0_7 cI cS _ _ _) dX6_cell_2 (fun H locs hP hD hS => ?_)
  refine lv_iload_n hx hb dX6_cell_5 rfl (lv_at hl 1 rfl) ?_
  obtain ⟨v6, h6, hF⟩ := bd hF
  refine cRb (va_runS (As := [.int x1]) (rest := []) ⟨hx, hb, hml, hown, hts⟩ (c_X6_isSheet l D cI cS x1 v6 h6) (cwSA hts (TW.cons _) ls_X6_isSheet ml_RX6_49 ⟨rfl, rfl⟩ ⟨(Nat.le_of_ble_eq_true rfl), (Nat.le_of_ble_eq_true rfl)⟩) (pRS hK pnil) rfl rfl hl.1 rfl (lv_room (Nat.le_of_ble_eq_true rfl)) dX6_cell_6 ⟨Nat.le_refl _, Nat.le_refl _⟩) (fun b6 => ?_)
  refine lv_if_eq (tgt := 19) hx hb dX6_cell_9 (by decide) (fun c9 => ?_) (fun c9 => ?_)
  · replace hF := ip c9 hF
    refine lv_ldc2 (own := RX6) (v := (-9223372036854775808)) hx hb hown (hts _ (List.mem_cons_of_mem _ cn_RX6_177)) dX6_cell_19 ?_
    exact W.lret hx hb hr (fun t ht hW => ⟨⟨_, (), rfl, (Prod.mk.inj (Option.some.inj hF)).1, by show va_P _ _ _ t.heap; rw [ht, ← (Prod.mk.inj (Option.some.inj hF)).2]; exact hP⟩, hS.F ht⟩) hS.2.2 dX6_cell_22
  · replace hF := iq c9 hF
    refine lv_iload_n hx hb dX6_cell_12 rfl (lv_at hl 3 rfl) ?_
    obtain ⟨v13, h13, hF⟩ := bd hF
    refine cRb (va_runS (As := [.int x3]) (rest := []) ⟨hx, hb, hml, hown, hts⟩ (c_X6_isLane l D cI cS x3 v13 h13) (cwSA hts (TW.cons _) ls_X6_isLane ml_RX6_57 ⟨rfl, rfl⟩ ⟨(Nat.le_of_ble_eq_true rfl), (Nat.le_of_ble_eq_true rfl)⟩) (pRS hK pnil) rfl rfl hl.1 rfl (lv_room (Nat.le_of_ble_eq_true rfl)) dX6_cell_13 ⟨Nat.le_refl _, Nat.le_refl _⟩) (fun b13 => ?_)
    refine lv_if_ne (tgt := 23) hx hb dX6_cell_16 (by decide) (fun c16 => ?_) (fun c16 => ?_)
    · replace hF := iq c16 hF
      refine lv_aload_n hx hb dX6_cell_23 rfl (lv_at hl 0 rfl) ?_
      refine va_get (D := D) (ci := 5) (v := .ref (a0 28)) (C := RX6) (T := TX6) (N := 8) hx hb hts (fun w h => List.mem_cons_of_mem _ (inAX6 w h)) hown hK.1 hP 0 (at_C_0 cI cS _ _) rfl 5 (by decide) (hts _ (List.mem_cons_of_mem _ fl_RX6_44)) (fun _ h9 => h9) rfl dX6_cell_24 ?_
      refine lv_iload_n hx hb dX6_cell_27 rfl (lv_at hl 1 rfl) ?_
      obtain ⟨k28, h28, hF⟩ := bd hF
      obtain ⟨-, -, l28⟩ := ix_some h28
      rcases lt4 l28 with rfl | rfl | rfl | rfl
      · refine rR (b := a0 20) hx hb hK.1 hP 28 1 (at_C_28 cI cS _ _) rfl h28 rfl dX6_cell_28 ?_
        refine lv_astore (lv' := [(4, .ref (a0 20)), (0, .ref (a0 0)), (1, .int x1), (2, .int x2), (3, .int x3)]) hx hb dX6_cell_29 hl (by decide) rfl (fun ls hl => ?_)
        refine lv_aload_n hx hb dX6_cell_31 rfl (lv_at hl 1 rfl) ?_
        refine lv_aload hx hb dX6_cell_32 (lv_at hl 0 rfl) ?_
        refine lv_iload_n hx hb dX6_cell_34 rfl (lv_at hl 4 rfl) ?_
        refine lv_iload_n hx hb dX6_cell_35 rfl (lv_at hl 3 rfl) ?_
        refine lv_iconst (v := 1) hx hb dX6_cell_36 (by decide) ?_
        obtain ⟨v37, h37, hF⟩ := bd hF
        refine cRe (va_runV (As := [.int x3, .int x2, .int 1]) (rest := [.ref (a0 0)]) ⟨hx, hb, hml, hown, hts⟩ (c_X3_faultOfTaking l D cI cS (sa a0 20) (sb (st t0 0 1 0) 20) x3 x2 1 v37 h37) (cwVA hts (TW.cons _) lv_X3_faultOfTaking ml_RX6_60 ⟨rfl, rfl⟩ ⟨(Nat.le_of_ble_eq_true rfl), (Nat.le_of_ble_eq_true rfl)⟩) (pRV hK (hP.sub [20, 21] (su_C_S20 cI cS _ _)) (ci := 3) rfl rfl) rfl rfl hl.1 rfl (lv_room (Nat.le_of_ble_eq_true rfl)) dX6_cell_37 ⟨Nat.le_refl _, Nat.le_refl _⟩) ?_
        refine wF (ws' := pC cI cS a0 (st (st t0 0 1 0) 0 1 v37)) (C := RX6) (T := TX6) (N := 8) hx hb hts (fun w h => List.mem_cons_of_mem _ (inAX6 w h)) tyX6 tyX6_ok nmX6 hown hK.1 hP hD hS 0 (at_C_0 cI cS _ _) rfl 7 (by decide) (hts _ (List.mem_cons_of_mem _ fl_RX6_217)) rfl (tyX6_ok 7 (by decide)) rfl rfl (Nat.le_of_ble_eq_true rfl) (sf_C_0_7 cI cS _ _ _) dX6_cell_40 (fun H locs hP hD hS => ?_)
        refine lv_aload_n hx hb dX6_cell_43 rfl (lv_at hl 1 rfl) ?_
        refine va_get (D := D) (ci := 5) (v := .int v37) (C := RX6) (T := TX6) (N := 8) hx hb hts (fun w h => List.mem_cons_of_mem _ (inAX6 w h)) hown hK.1 hP 0 (at_C_0 cI cS _ _) rfl 7 (by decide) (hts _ (List.mem_cons_of_mem _ fl_RX6_217)) (fun _ h9 => h9) rfl dX6_cell_44 ?_
        refine lv_if_ne (tgt := 60) hx hb dX6_cell_47 (by decide) (fun c47 => ?_) (fun c47 => ?_)
        · replace hF := iq c47 hF
          refine lv_ldc2 (own := RX6) (v := (-9223372036854775808)) hx hb hown (hts _ (List.mem_cons_of_mem _ cn_RX6_177)) dX6_cell_60 ?_
          exact W.lret hx hb hr (fun t ht hW => ⟨⟨_, (), rfl, (Prod.mk.inj (Option.some.inj hF)).1, by show va_P _ _ _ t.heap; rw [ht, ← (Prod.mk.inj (Option.some.inj hF)).2]; exact hP⟩, hS.F ht⟩) hS.2.2 dX6_cell_63
        · replace hF := ip c47 hF
          refine lv_aload hx hb dX6_cell_50 (lv_at hl 0 rfl) ?_
          refine lv_iload_n hx hb dX6_cell_52 rfl (lv_at hl 3 rfl) ?_
          obtain ⟨v53, h53, hF⟩ := bd hF
          refine cRe (va_runV (As := [.int x2]) (rest := []) ⟨hx, hb, hml, hown, hts⟩ (c_X3_at l D cI cS (sa a0 20) (sb (st (st t0 0 1 0) 0 1 v37) 20) x2 v53 h53) (cwVA hts (TW.cons _) lv_X3_at ml_RX6_179 ⟨rfl, rfl⟩ ⟨(Nat.le_of_ble_eq_true rfl), (Nat.le_of_ble_eq_true rfl)⟩) (pRV hK (hP.sub [20, 21] (su_C_S20 cI cS _ _)) (ci := 3) rfl rfl) rfl rfl hl.1 rfl (lv_room (Nat.le_of_ble_eq_true rfl)) dX6_cell_53 ⟨Nat.le_refl _, Nat.le_refl _⟩) ?_
          refine lv_i2l (v := v53.toInt64) hx hb dX6_cell_56 rfl ?_
          refine lv_goto (tgt := 63) hx hb dX6_cell_57 (by decide) ?_
          exact W.lret hx hb hr (fun t ht hW => ⟨⟨_, (), rfl, (Prod.mk.inj (Option.some.inj hF)).1, by show va_P _ _ _ t.heap; rw [ht, ← (Prod.mk.inj (Option.some.inj hF)).2]; exact hP⟩, hS.F ht⟩) hS.2.2 dX6_cell_63
      · refine rR (b := a0 22) hx hb hK.1 hP 28 1 (at_C_28 cI cS _ _) rfl h28 rfl dX6_cell_28 ?_
        refine lv_astore (lv' := [(4, .ref (a0 22)), (0, .ref (a0 0)), (1, .int x1), (2, .int x2), (3, .int x3)]) hx hb dX6_cell_29 hl (by decide) rfl (fun ls hl => ?_)
        refine lv_aload_n hx hb dX6_cell_31 rfl (lv_at hl 1 rfl) ?_
        refine lv_aload hx hb dX6_cell_32 (lv_at hl 0 rfl) ?_
        refine lv_iload_n hx hb dX6_cell_34 rfl (lv_at hl 4 rfl) ?_
        refine lv_iload_n hx hb dX6_cell_35 rfl (lv_at hl 3 rfl) ?_
        refine lv_iconst (v := 1) hx hb dX6_cell_36 (by decide) ?_
        obtain ⟨v37, h37, hF⟩ := bd hF
        refine cRe (va_runV (As := [.int x3, .int x2, .int 1]) (rest := [.ref (a0 0)]) ⟨hx, hb, hml, hown, hts⟩ (c_X3_faultOfTaking l D cI cS (sa a0 22) (sb (st t0 0 1 0) 22) x3 x2 1 v37 h37) (cwVA hts (TW.cons _) lv_X3_faultOfTaking ml_RX6_60 ⟨rfl, rfl⟩ ⟨(Nat.le_of_ble_eq_true rfl), (Nat.le_of_ble_eq_true rfl)⟩) (pRV hK (hP.sub [22, 23] (su_C_S22 cI cS _ _)) (ci := 3) rfl rfl) rfl rfl hl.1 rfl (lv_room (Nat.le_of_ble_eq_true rfl)) dX6_cell_37 ⟨Nat.le_refl _, Nat.le_refl _⟩) ?_
        refine wF (ws' := pC cI cS a0 (st (st t0 0 1 0) 0 1 v37)) (C := RX6) (T := TX6) (N := 8) hx hb hts (fun w h => List.mem_cons_of_mem _ (inAX6 w h)) tyX6 tyX6_ok nmX6 hown hK.1 hP hD hS 0 (at_C_0 cI cS _ _) rfl 7 (by decide) (hts _ (List.mem_cons_of_mem _ fl_RX6_217)) rfl (tyX6_ok 7 (by decide)) rfl rfl (Nat.le_of_ble_eq_true rfl) (sf_C_0_7 cI cS _ _ _) dX6_cell_40 (fun H locs hP hD hS => ?_)
        refine lv_aload_n hx hb dX6_cell_43 rfl (lv_at hl 1 rfl) ?_
        refine va_get (D := D) (ci := 5) (v := .int v37) (C := RX6) (T := TX6) (N := 8) hx hb hts (fun w h => List.mem_cons_of_mem _ (inAX6 w h)) hown hK.1 hP 0 (at_C_0 cI cS _ _) rfl 7 (by decide) (hts _ (List.mem_cons_of_mem _ fl_RX6_217)) (fun _ h9 => h9) rfl dX6_cell_44 ?_
        refine lv_if_ne (tgt := 60) hx hb dX6_cell_47 (by decide) (fun c47 => ?_) (fun c47 => ?_)
        · replace hF := iq c47 hF
          refine lv_ldc2 (own := RX6) (v := (-9223372036854775808)) hx hb hown (hts _ (List.mem_cons_of_mem _ cn_RX6_177)) dX6_cell_60 ?_
          exact W.lret hx hb hr (fun t ht hW => ⟨⟨_, (), rfl, (Prod.mk.inj (Option.some.inj hF)).1, by show va_P _ _ _ t.heap; rw [ht, ← (Prod.mk.inj (Option.some.inj hF)).2]; exact hP⟩, hS.F ht⟩) hS.2.2 dX6_cell_63
        · replace hF := ip c47 hF
          refine lv_aload hx hb dX6_cell_50 (lv_at hl 0 rfl) ?_
          refine lv_iload_n hx hb dX6_cell_52 rfl (lv_at hl 3 rfl) ?_
          obtain ⟨v53, h53, hF⟩ := bd hF
          refine cRe (va_runV (As := [.int x2]) (rest := []) ⟨hx, hb, hml, hown, hts⟩ (c_X3_at l D cI cS (sa a0 22) (sb (st (st t0 0 1 0) 0 1 v37) 22) x2 v53 h53) (cwVA hts (TW.cons _) lv_X3_at ml_RX6_179 ⟨rfl, rfl⟩ ⟨(Nat.le_of_ble_eq_true rfl), (Nat.le_of_ble_eq_true rfl)⟩) (pRV hK (hP.sub [22, 23] (su_C_S22 cI cS _ _)) (ci := 3) rfl rfl) rfl rfl hl.1 rfl (lv_room (Nat.le_of_ble_eq_true rfl)) dX6_cell_53 ⟨Nat.le_refl _, Nat.le_refl _⟩) ?_
          refine lv_i2l (v := v53.toInt64) hx hb dX6_cell_56 rfl ?_
          refine lv_goto (tgt := 63) hx hb dX6_cell_57 (by decide) ?_
          exact W.lret hx hb hr (fun t ht hW => ⟨⟨_, (), rfl, (Prod.mk.inj (Option.some.inj hF)).1, by show va_P _ _ _ t.heap; rw [ht, ← (Prod.mk.inj (Option.some.inj hF)).2]; exact hP⟩, hS.F ht⟩) hS.2.2 dX6_cell_63
      · refine rR (b := a0 24) hx hb hK.1 hP 28 1 (at_C_28 cI cS _ _) rfl h28 rfl dX6_cell_28 ?_
        refine lv_astore (lv' := [(4, .ref (a0 24)), (0, .ref (a0 0)), (1, .int x1), (2, .int x2), (3, .int x3)]) hx hb dX6_cell_29 hl (by decide) rfl (fun ls hl => ?_)
        refine lv_aload_n hx hb dX6_cell_31 rfl (lv_at hl 1 rfl) ?_
        refine lv_aload hx hb dX6_cell_32 (lv_at hl 0 rfl) ?_
        refine lv_iload_n hx hb dX6_cell_34 rfl (lv_at hl 4 rfl) ?_
        refine lv_iload_n hx hb dX6_cell_35 rfl (lv_at hl 3 rfl) ?_
        refine lv_iconst (v := 1) hx hb dX6_cell_36 (by decide) ?_
        obtain ⟨v37, h37, hF⟩ := bd hF
        refine cRe (va_runV (As := [.int x3, .int x2, .int 1]) (rest := [.ref (a0 0)]) ⟨hx, hb, hml, hown, hts⟩ (c_X3_faultOfTaking l D cI cS (sa a0 24) (sb (st t0 0 1 0) 24) x3 x2 1 v37 h37) (cwVA hts (TW.cons _) lv_X3_faultOfTaking ml_RX6_60 ⟨rfl, rfl⟩ ⟨(Nat.le_of_ble_eq_true rfl), (Nat.le_of_ble_eq_true rfl)⟩) (pRV hK (hP.sub [24, 25] (su_C_S24 cI cS _ _)) (ci := 3) rfl rfl) rfl rfl hl.1 rfl (lv_room (Nat.le_of_ble_eq_true rfl)) dX6_cell_37 ⟨Nat.le_refl _, Nat.le_refl _⟩) ?_
        refine wF (ws' := pC cI cS a0 (st (st t0 0 1 0) 0 1 v37)) (C := RX6) (T := TX6) (N := 8) hx hb hts (fun w h => List.mem_cons_of_mem _ (inAX6 w h)) tyX6 tyX6_ok nmX6 hown hK.1 hP hD hS 0 (at_C_0 cI cS _ _) rfl 7 (by decide) (hts _ (List.mem_cons_of_mem _ fl_RX6_217)) rfl (tyX6_ok 7 (by decide)) rfl rfl (Nat.le_of_ble_eq_true rfl) (sf_C_0_7 cI cS _ _ _) dX6_cell_40 (fun H locs hP hD hS => ?_)
        refine lv_aload_n hx hb dX6_cell_43 rfl (lv_at hl 1 rfl) ?_
        refine va_get (D := D) (ci := 5) (v := .int v37) (C := RX6) (T := TX6) (N := 8) hx hb hts (fun w h => List.mem_cons_of_mem _ (inAX6 w h)) hown hK.1 hP 0 (at_C_0 cI cS _ _) rfl 7 (by decide) (hts _ (List.mem_cons_of_mem _ fl_RX6_217)) (fun _ h9 => h9) rfl dX6_cell_44 ?_
        refine lv_if_ne (tgt := 60) hx hb dX6_cell_47 (by decide) (fun c47 => ?_) (fun c47 => ?_)
        · replace hF := iq c47 hF
          refine lv_ldc2 (own := RX6) (v := (-9223372036854775808)) hx hb hown (hts _ (List.mem_cons_of_mem _ cn_RX6_177)) dX6_cell_60 ?_
          exact W.lret hx hb hr (fun t ht hW => ⟨⟨_, (), rfl, (Prod.mk.inj (Option.some.inj hF)).1, by show va_P _ _ _ t.heap; rw [ht, ← (Prod.mk.inj (Option.some.inj hF)).2]; exact hP⟩, hS.F ht⟩) hS.2.2 dX6_cell_63
        · replace hF := ip c47 hF
          refine lv_aload hx hb dX6_cell_50 (lv_at hl 0 rfl) ?_
          refine lv_iload_n hx hb dX6_cell_52 rfl (lv_at hl 3 rfl) ?_
          obtain ⟨v53, h53, hF⟩ := bd hF
          refine cRe (va_runV (As := [.int x2]) (rest := []) ⟨hx, hb, hml, hown, hts⟩ (c_X3_at l D cI cS (sa a0 24) (sb (st (st t0 0 1 0) 0 1 v37) 24) x2 v53 h53) (cwVA hts (TW.cons _) lv_X3_at ml_RX6_179 ⟨rfl, rfl⟩ ⟨(Nat.le_of_ble_eq_true rfl), (Nat.le_of_ble_eq_true rfl)⟩) (pRV hK (hP.sub [24, 25] (su_C_S24 cI cS _ _)) (ci := 3) rfl rfl) rfl rfl hl.1 rfl (lv_room (Nat.le_of_ble_eq_true rfl)) dX6_cell_53 ⟨Nat.le_refl _, Nat.le_refl _⟩) ?_
          refine lv_i2l (v := v53.toInt64) hx hb dX6_cell_56 rfl ?_
          refine lv_goto (tgt := 63) hx hb dX6_cell_57 (by decide) ?_
          exact W.lret hx hb hr (fun t ht hW => ⟨⟨_, (), rfl, (Prod.mk.inj (Option.some.inj hF)).1, by show va_P _ _ _ t.heap; rw [ht, ← (Prod.mk.inj (Option.some.inj hF)).2]; exact hP⟩, hS.F ht⟩) hS.2.2 dX6_cell_63
      · refine rR (b := a0 26) hx hb hK.1 hP 28 1 (at_C_28 cI cS _ _) rfl h28 rfl dX6_cell_28 ?_
        refine lv_astore (lv' := [(4, .ref (a0 26)), (0, .ref (a0 0)), (1, .int x1), (2, .int x2), (3, .int x3)]) hx hb dX6_cell_29 hl (by decide) rfl (fun ls hl => ?_)
        refine lv_aload_n hx hb dX6_cell_31 rfl (lv_at hl 1 rfl) ?_
        refine lv_aload hx hb dX6_cell_32 (lv_at hl 0 rfl) ?_
        refine lv_iload_n hx hb dX6_cell_34 rfl (lv_at hl 4 rfl) ?_
        refine lv_iload_n hx hb dX6_cell_35 rfl (lv_at hl 3 rfl) ?_
        refine lv_iconst (v := 1) hx hb dX6_cell_36 (by decide) ?_
        obtain ⟨v37, h37, hF⟩ := bd hF
        refine cRe (va_runV (As := [.int x3, .int x2, .int 1]) (rest := [.ref (a0 0)]) ⟨hx, hb, hml, hown, hts⟩ (c_X3_faultOfTaking l D cI cS (sa a0 26) (sb (st t0 0 1 0) 26) x3 x2 1 v37 h37) (cwVA hts (TW.cons _) lv_X3_faultOfTaking ml_RX6_60 ⟨rfl, rfl⟩ ⟨(Nat.le_of_ble_eq_true rfl), (Nat.le_of_ble_eq_true rfl)⟩) (pRV hK (hP.sub [26, 27] (su_C_S26 cI cS _ _)) (ci := 3) rfl rfl) rfl rfl hl.1 rfl (lv_room (Nat.le_of_ble_eq_true rfl)) dX6_cell_37 ⟨Nat.le_refl _, Nat.le_refl _⟩) ?_
        refine wF (ws' := pC cI cS a0 (st (st t0 0 1 0) 0 1 v37)) (C := RX6) (T := TX6) (N := 8) hx hb hts (fun w h => List.mem_cons_of_mem _ (inAX6 w h)) tyX6 tyX6_ok nmX6 hown hK.1 hP hD hS 0 (at_C_0 cI cS _ _) rfl 7 (by decide) (hts _ (List.mem_cons_of_mem _ fl_RX6_217)) rfl (tyX6_ok 7 (by decide)) rfl rfl (Nat.le_of_ble_eq_true rfl) (sf_C_0_7 cI cS _ _ _) dX6_cell_40 (fun H locs hP hD hS => ?_)
        refine lv_aload_n hx hb dX6_cell_43 rfl (lv_at hl 1 rfl) ?_
        refine va_get (D := D) (ci := 5) (v := .int v37) (C := RX6) (T := TX6) (N := 8) hx hb hts (fun w h => List.mem_cons_of_mem _ (inAX6 w h)) hown hK.1 hP 0 (at_C_0 cI cS _ _) rfl 7 (by decide) (hts _ (List.mem_cons_of_mem _ fl_RX6_217)) (fun _ h9 => h9) rfl dX6_cell_44 ?_
        refine lv_if_ne (tgt := 60) hx hb dX6_cell_47 (by decide) (fun c47 => ?_) (fun c47 => ?_)
        · replace hF := iq c47 hF
          refine lv_ldc2 (own := RX6) (v := (-9223372036854775808)) hx hb hown (hts _ (List.mem_cons_of_mem _ cn_RX6_177)) dX6_cell_60 ?_
          exact W.lret hx hb hr (fun t ht hW => ⟨⟨_, (), rfl, (Prod.mk.inj (Option.some.inj hF)).1, by show va_P _ _ _ t.heap; rw [ht, ← (Prod.mk.inj (Option.some.inj hF)).2]; exact hP⟩, hS.F ht⟩) hS.2.2 dX6_cell_63
        · replace hF := ip c47 hF
          refine lv_aload hx hb dX6_cell_50 (lv_at hl 0 rfl) ?_
          refine lv_iload_n hx hb dX6_cell_52 rfl (lv_at hl 3 rfl) ?_
          obtain ⟨v53, h53, hF⟩ := bd hF
          refine cRe (va_runV (As := [.int x2]) (rest := []) ⟨hx, hb, hml, hown, hts⟩ (c_X3_at l D cI cS (sa a0 26) (sb (st (st t0 0 1 0) 0 1 v37) 26) x2 v53 h53) (cwVA hts (TW.cons _) lv_X3_at ml_RX6_179 ⟨rfl, rfl⟩ ⟨(Nat.le_of_ble_eq_true rfl), (Nat.le_of_ble_eq_true rfl)⟩) (pRV hK (hP.sub [26, 27] (su_C_S26 cI cS _ _)) (ci := 3) rfl rfl) rfl rfl hl.1 rfl (lv_room (Nat.le_of_ble_eq_true rfl)) dX6_cell_53 ⟨Nat.le_refl _, Nat.le_refl _⟩) ?_
          refine lv_i2l (v := v53.toInt64) hx hb dX6_cell_56 rfl ?_
          refine lv_goto (tgt := 63) hx hb dX6_cell_57 (by decide) ?_
          exact W.lret hx hb hr (fun t ht hW => ⟨⟨_, (), rfl, (Prod.mk.inj (Option.some.inj hF)).1, by show va_P _ _ _ t.heap; rw [ht, ← (Prod.mk.inj (Option.some.inj hF)).2]; exact hP⟩, hS.F ht⟩) hS.2.2 dX6_cell_63
    · replace hF := ip c16 hF
      refine lv_ldc2 (own := RX6) (v := (-9223372036854775808)) hx hb hown (hts _ (List.mem_cons_of_mem _ cn_RX6_177)) dX6_cell_19 ?_
      exact W.lret hx hb hr (fun t ht hW => ⟨⟨_, (), rfl, (Prod.mk.inj (Option.some.inj hF)).1, by show va_P _ _ _ t.heap; rw [ht, ← (Prod.mk.inj (Option.some.inj hF)).2]; exact hP⟩, hS.F ht⟩) hS.2.2 dX6_cell_22
