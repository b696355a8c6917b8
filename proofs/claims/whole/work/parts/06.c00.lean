noncomputable def F_X6_isSheet (x0 : Int32) : Option Int32 :=
  if x0 < 0 then
    some 0
  else
  if 4 ≤ x0 then
    some 0
  else
  some 1
abbrev rm_X6_isSheet : Room := { frames := 0, cells := 0, slots := 0, locals := 0 }
set_option maxHeartbeats 4000000 in
set_option maxRecDepth 100000 in
theorem c_X6_isSheet (l : Launch) (D : va_G) (cI cS : ClassId) (x0 : Int32) (r : Int32) (hF : F_X6_isSheet x0 = some r) : Met l yX6_isSheet (Cond.code yX6_isSheet cX6_isSheet 1 (some .boolean) :: ALL) rm_X6_isSheet (PreR D cI cS [.int x0] ([])) (vp_Si (fun x => x = r ∧ (x = 0 ∨ x = 1))) 0 0 (fun _ => False) := by
  refine mR l D cI cS (by decide) (Nat.le_of_ble_eq_true rfl) ?_
  intro p e s m below meth c ls hx hb hr hml hown hts hlocks hP hK hl
  have hown : s.vm.findClass RX6 = some m.cls := hown
  have hl : lv_has ls 1 [(0, .int x0)] := hl
  unfold F_X6_isSheet at hF
  refine lv_iload_n hx hb dX6_isSheet_0 rfl (lv_at hl 0 rfl) ?_
  refine lv_if_lt (tgt := 13) hx hb dX6_isSheet_1 (by decide) (fun c1 => ?_) (fun c1 => ?_)
  · replace hF := ip c1 hF
    refine lv_iconst (v := 0) hx hb dX6_isSheet_13 (by decide) ?_
    exact W.zret hx hb hr rfl (fun t ht hW => ⟨_, rfl, ⟨(Option.some.inj hF), Or.inl rfl⟩, ht⟩) (fun _ h => nomatch h) dX6_isSheet_14
  · replace hF := iq c1 hF
    refine lv_iload_n hx hb dX6_isSheet_4 rfl (lv_at hl 0 rfl) ?_
    refine lv_iconst (v := 4) hx hb dX6_isSheet_5 (by decide) ?_
    refine lv_icmp_ge (tgt := 13) hx hb dX6_isSheet_6 (by decide) (fun c6 => ?_) (fun c6 => ?_)
    · replace hF := ip c6 hF
      refine lv_iconst (v := 0) hx hb dX6_isSheet_13 (by decide) ?_
      exact W.zret hx hb hr rfl (fun t ht hW => ⟨_, rfl, ⟨(Option.some.inj hF), Or.inl rfl⟩, ht⟩) (fun _ h => nomatch h) dX6_isSheet_14
    · replace hF := iq c6 hF
      refine lv_iconst (v := 1) hx hb dX6_isSheet_9 (by decide) ?_
      refine lv_goto (tgt := 14) hx hb dX6_isSheet_10 (by decide) ?_
      exact W.zret hx hb hr rfl (fun t ht hW => ⟨_, rfl, ⟨(Option.some.inj hF), Or.inr rfl⟩, ht⟩) (fun _ h => nomatch h) dX6_isSheet_14
noncomputable def F_X6_withoutFault (t0 : ST) (x1 : Int32) : Option (Int32 × ST) :=
  some (x1, (st t0 0 1 0))
abbrev rm_X6_withoutFault : Room := { frames := 0, cells := 0, slots := 0, locals := 0 }
set_option maxHeartbeats 4000000 in
set_option maxRecDepth 100000 in
theorem c_X6_withoutFault (l : Launch) (D : va_G) (cI cS : ClassId) (a0 : Nat → Nat) (t0 : ST) (x1 : Int32) (r : Int32) (t' : ST) (hF : F_X6_withoutFault t0 x1 = some (r, t')) : Met l yX6_withoutFault (Cond.code yX6_withoutFault cX6_withoutFault 2 (some .int) :: ALL) rm_X6_withoutFault (PreW D cI cS [.ref (a0 0), .int x1] (pC cI cS a0 t0)) (va_Qi (fun x (_ : Unit) => x = r) (fun _ t => va_P D vwCl (pC cI cS a0 t') t.heap) (AD (pC cI cS a0 t0))) 0 0 (AD (pC cI cS a0 t0)) := by
  refine mW l D cI cS (by decide) (Nat.le_of_ble_eq_true rfl) ?_
  intro p e s m below meth c ls hx hb hr hml hown hts hlocks hP hK hD hS hl
  have hown : s.vm.findClass RX6 = some m.cls := hown
  have hl : lv_has ls 2 [(0, .ref (a0 0)), (1, .int x1)] := hl
  unfold F_X6_withoutFault at hF
  refine lv_aload_n hx hb dX6_withoutFault_0 rfl (lv_at hl 0 rfl) ?_
  refine lv_iconst (v := 0) hx hb dX6_withoutFault_1 (by decide) ?_
  refine wF (ws' := pC cI cS a0 (st t0 0 1 0)) (C := RX6) (T := TX6) (N := 8) hx hb hts (fun w h => List.mem_cons_of_mem _ (inAX6 w h)) tyX6 tyX6_ok nmX6 hown hK.1 hP hD hS 0 (at_C_0 cI cS _ _) rfl 7 (by decide) (hts _ (List.mem_cons_of_mem _ fl_RX6_217)) rfl (tyX6_ok 7 (by decide)) rfl rfl (Nat.le_of_ble_eq_true rfl) (sf_C_0_7 cI cS _ _ _) dX6_withoutFault_2 (fun H locs hP hD hS => ?_)
  refine lv_iload_n hx hb dX6_withoutFault_5 rfl (lv_at hl 1 rfl) ?_
  exact W.iret hx hb hr (fun t ht hW => ⟨⟨_, (), rfl, (Prod.mk.inj (Option.some.inj hF)).1, by show va_P _ _ _ t.heap; rw [ht, ← (Prod.mk.inj (Option.some.inj hF)).2]; exact hP⟩, hS.F ht⟩) hS.2.2 dX6_withoutFault_6
noncomputable def F_X6_isLane (x0 : Int32) : Option Int32 :=
  if x0 < 0 then
    some 0
  else
  if 3 ≤ x0 then
    some 0
  else
  some 1
abbrev rm_X6_isLane : Room := { frames := 0, cells := 0, slots := 0, locals := 0 }
set_option maxHeartbeats 4000000 in
set_option maxRecDepth 100000 in
theorem c_X6_isLane (l : Launch) (D : va_G) (cI cS : ClassId) (x0 : Int32) (r : Int32) (hF : F_X6_isLane x0 = some r) : Met l yX6_isLane (Cond.code yX6_isLane cX6_isLane 1 (some .boolean) :: ALL) rm_X6_isLane (PreR D cI cS [.int x0] ([])) (vp_Si (fun x => x = r ∧ (x = 0 ∨ x = 1))) 0 0 (fun _ => False) := by
  refine mR l D cI cS (by decide) (Nat.le_of_ble_eq_true rfl) ?_
  intro p e s m below meth c ls hx hb hr hml hown hts hlocks hP hK hl
  have hown : s.vm.findClass RX6 = some m.cls := hown
  have hl : lv_has ls 1 [(0, .int x0)] := hl
  unfold F_X6_isLane at hF
  refine lv_iload_n hx hb dX6_isLane_0 rfl (lv_at hl 0 rfl) ?_
  refine lv_if_lt (tgt := 13) hx hb dX6_isLane_1 (by decide) (fun c1 => ?_) (fun c1 => ?_)
  · replace hF := ip c1 hF
    refine lv_iconst (v := 0) hx hb dX6_isLane_13 (by decide) ?_
    exact W.zret hx hb hr rfl (fun t ht hW => ⟨_, rfl, ⟨(Option.some.inj hF), Or.inl rfl⟩, ht⟩) (fun _ h => nomatch h) dX6_isLane_14
  · replace hF := iq c1 hF
    refine lv_iload_n hx hb dX6_isLane_4 rfl (lv_at hl 0 rfl) ?_
    refine lv_iconst (v := 3) hx hb dX6_isLane_5 (by decide) ?_
    refine lv_icmp_ge (tgt := 13) hx hb dX6_isLane_6 (by decide) (fun c6 => ?_) (fun c6 => ?_)
    · replace hF := ip c6 hF
      refine lv_iconst (v := 0) hx hb dX6_isLane_13 (by decide) ?_
      exact W.zret hx hb hr rfl (fun t ht hW => ⟨_, rfl, ⟨(Option.some.inj hF), Or.inl rfl⟩, ht⟩) (fun _ h => nomatch h) dX6_isLane_14
    · replace hF := iq c6 hF
      refine lv_iconst (v := 1) hx hb dX6_isLane_9 (by decide) ?_
      refine lv_goto (tgt := 14) hx hb dX6_isLane_10 (by decide) ?_
      exact W.zret hx hb hr rfl (fun t ht hW => ⟨_, rfl, ⟨(Option.some.inj hF), Or.inr rfl⟩, ht⟩) (fun _ h => nomatch h) dX6_isLane_14
noncomputable def F_X6_withFault (t0 : ST) (x1 : Int32) : Option (Int32 × ST) :=
  some (((-10) - x1), (st t0 0 1 x1))
abbrev rm_X6_withFault : Room := { frames := 0, cells := 0, slots := 0, locals := 0 }
set_option maxHeartbeats 4000000 in
set_option maxRecDepth 100000 in
theorem c_X6_withFault (l : Launch) (D : va_G) (cI cS : ClassId) (a0 : Nat → Nat) (t0 : ST) (x1 : Int32) (r : Int32) (t' : ST) (hF : F_X6_withFault t0 x1 = some (r, t')) : Met l yX6_withFault (Cond.code yX6_withFault cX6_withFault 2 (some .int) :: ALL) rm_X6_withFault (PreW D cI cS [.ref (a0 0), .int x1] (pC cI cS a0 t0)) (va_Qi (fun x (_ : Unit) => x = r) (fun _ t => va_P D vwCl (pC cI cS a0 t') t.heap) (AD (pC cI cS a0 t0))) 0 0 (AD (pC cI cS a0 t0)) := by
  refine mW l D cI cS (by decide) (Nat.le_of_ble_eq_true rfl) ?_
  intro p e s m below meth c ls hx hb hr hml hown hts hlocks hP hK hD hS hl
  have hown : s.vm.findClass RX6 = some m.cls := hown
  have hl : lv_has ls 2 [(0, .ref (a0 0)), (1, .int x1)] := hl
  unfold F_X6_withFault at hF
  refine lv_aload_n hx hb dX6_withFault_0 rfl (lv_at hl 0 rfl) ?_
  refine lv_iload_n hx hb dX6_withFault_1 rfl (lv_at hl 1 rfl) ?_
  refine wF (ws' := pC cI cS a0 (st t0 0 1 x1)) (C := RX6) (T := TX6) (N := 8) hx hb hts (fun w h => List.mem_cons_of_mem _ (inAX6 w h)) tyX6 tyX6_ok nmX6 hown hK.1 hP hD hS 0 (at_C_0 cI cS _ _) rfl 7 (by decide) (hts _ (List.mem_cons_of_mem _ fl_RX6_217)) rfl (tyX6_ok 7 (by decide)) rfl rfl (Nat.le_of_ble_eq_true rfl) (sf_C_0_7 cI cS _ _ _) dX6_withFault_2 (fun H locs hP hD hS => ?_)
  refine lv_bipush (v := (-10)) hx hb dX6_withFault_5 (by decide) ?_
  refine lv_iload_n hx hb dX6_withFault_7 rfl (lv_at hl 1 rfl) ?_
  refine lv_isub hx hb dX6_withFault_8 ?_
  exact W.iret hx hb hr (fun t ht hW => ⟨⟨_, (), rfl, (Prod.mk.inj (Option.some.inj hF)).1, by show va_P _ _ _ t.heap; rw [ht, ← (Prod.mk.inj (Option.some.inj hF)).2]; exact hP⟩, hS.F ht⟩) hS.2.2 dX6_withFault_9
noncomputable def F_X6_garden (t0 : ST) (x1 : Int32) (x2 : Int32) (x3 : Int32) (x4 : Int32) : Option (Int32 × ST) :=
  (F_X6_isSheet x1).bind fun v1 =>
  if v1 = 0 then
    b2 (F_X6_withoutFault t0 (-1)) fun v9 u9 =>
    some (v9, u9)
  else
  (F_X6_isLane x2).bind fun v14 =>
  if v14 = 0 then
    b2 (F_X6_withoutFault t0 (-2)) fun v23 u23 =>
    some (v23, u23)
  else
  (ix 4 x1).bind fun k32 =>
  (F_X3_faultOfTaking (sb t0 (20 + 2 * k32)) x2 x3 x4).bind fun v41 =>
  if v41 = 0 then
    (F_X4_firstFault (sb t0 (20 + 2 * k32)) x3 x4).bind fun v63 =>
    if v63 = (-9) then
      (F_X4_lawOf (sb t0 (20 + 2 * k32)) x3).bind fun v92 =>
      (F_X1_fix (sb t0 1) v92).bind fun u95 =>
      (F_X0_begin (sb (gr t0 1 2 u95) 3) (sb (gr t0 1 2 u95) (20 + 2 * k32)) x3 x4).bind fun u107 =>
      (F_X2_forgetAll (sb (gr (gr t0 1 2 u95) 3 4 u107) 16)).bind fun u114 =>
      b2 (F_X6_withoutFault (gr (gr (gr t0 1 2 u95) 3 4 u107) 16 4 u114) (u107 0 0)) fun v125 u125 =>
      some (v125, u125)
    else
    b2 (F_X6_withoutFault t0 ((-100) - v63)) fun v81 u81 =>
    some (v81, u81)
  else
  b2 (F_X6_withFault t0 v41) fun v54 u54 =>
  some (v54, u54)
abbrev rm_X6_garden : Room := { frames := 4, cells := 0, slots := 0, locals := 90 }
set_option maxHeartbeats 4000000 in
set_option maxRecDepth 100000 in
theorem c_X6_garden (l : Launch) (D : va_G) (cI cS : ClassId) (a0 : Nat → Nat) (t0 : ST) (x1 : Int32) (x2 : Int32) (x3 : Int32) (x4 : Int32) (r : Int32) (t' : ST) (hF : F_X6_garden t0 x1 x2 x3 x4 = some (r, t')) : Met l yX6_garden (Cond.code yX6_garden cX6_garden 8 (some .int) :: ALL) rm_X6_garden (PreW D cI cS [.ref (a0 0), .int x1, .int x2, .int x3, .int x4] (pC cI cS a0 t0)) (va_Qi (fun x (_ : Unit) => x = r) (fun _ t => va_P D vwCl (pC cI cS a0 t') t.heap) (AD (pC cI cS a0 t0))) 0 0 (AD (pC cI cS a0 t0)) := by
  refine mW l D cI cS (by decide) (Nat.le_of_ble_eq_true rfl) ?_
  intro p e s m below meth c ls hx hb hr hml hown hts hlocks hP hK hD hS hl
  have hown : s.vm.findClass RX6 = some m.cls := hown
  have hl : lv_has ls 8 [(0, .ref (a0 0)), (1, .int x1), (2, .int x2), (3, .int x3), (4, .int x4)] := hl
  unfold F_X6_garden at hF
  refine lv_iload_n hx hb dX6_garden_0 rfl (lv_at hl 1 rfl) ?_
  obtain ⟨v1, h1, hF⟩ := bd hF
  refine cRb (va_runS (As := [.int x1]) (rest := []) ⟨hx, hb, hml, hown, hts⟩ (c_X6_isSheet l D cI cS x1 v1 h1) (cwSA hts (TW.cons _) ls_X6_isSheet ml_RX6_49 ⟨rfl, rfl⟩ ⟨(Nat.le_of_ble_eq_true rfl), (Nat.le_of_ble_eq_true rfl)⟩) (pRS hK pnil) rfl rfl hl.1 rfl (lv_room (Nat.le_of_ble_eq_true rfl)) dX6_garden_1 ⟨Nat.le_refl _, Nat.le_refl _⟩) (fun b1 => ?_)
  refine lv_if_ne (tgt := 13) hx hb dX6_garden_4 (by decide) (fun c4 => ?_) (fun c4 => ?_)
  · replace hF := iq c4 hF
    refine lv_iload_n hx hb dX6_garden_13 rfl (lv_at hl 2 rfl) ?_
    obtain ⟨v14, h14, hF⟩ := bd hF
    refine cRb (va_runS (As := [.int x2]) (rest := []) ⟨hx, hb, hml, hown, hts⟩ (c_X6_isLane l D cI cS x2 v14 h14) (cwSA hts (TW.cons _) ls_X6_isLane ml_RX6_57 ⟨rfl, rfl⟩ ⟨(Nat.le_of_ble_eq_true rfl), (Nat.le_of_ble_eq_true rfl)⟩) (pRS hK pnil) rfl rfl hl.1 rfl (lv_room (Nat.le_of_ble_eq_true rfl)) dX6_garden_14 ⟨Nat.le_refl _, Nat.le_refl _⟩) (fun b14 => ?_)
    refine lv_if_ne (tgt := 27) hx hb dX6_garden_17 (by decide) (fun c17 => ?_) (fun c17 => ?_)
    · replace hF := iq c17 hF
      refine lv_aload_n hx hb dX6_garden_27 rfl (lv_at hl 0 rfl) ?_
      refine va_get (D := D) (ci := 5) (v := .ref (a0 28)) (C := RX6) (T := TX6) (N := 8) hx hb hts (fun w h => List.mem_cons_of_mem _ (inAX6 w h)) hown hK.1 hP 0 (at_C_0 cI cS _ _) rfl 5 (by decide) (hts _ (List.mem_cons_of_mem _ fl_RX6_44)) (fun _ h9 => h9) rfl dX6_garden_28 ?_
      refine lv_iload_n hx hb dX6_garden_31 rfl (lv_at hl 1 rfl) ?_
      obtain ⟨k32, h32, hF⟩ := bd hF
      obtain ⟨-, -, l32⟩ := ix_some h32
      rcases lt4 l32 with rfl | rfl | rfl | rfl
      · refine rR (b := a0 20) hx hb hK.1 hP 28 1 (at_C_28 cI cS _ _) rfl h32 rfl dX6_garden_32 ?_
        refine lv_astore (lv' := [(5, .ref (a0 20)), (0, .ref (a0 0)), (1, .int x1), (2, .int x2), (3, .int x3), (4, .int x4)]) hx hb dX6_garden_33 hl (by decide) rfl (fun ls hl => ?_)
        refine lv_aload hx hb dX6_garden_35 (lv_at hl 0 rfl) ?_
        refine lv_iload_n hx hb dX6_garden_37 rfl (lv_at hl 3 rfl) ?_
        refine lv_iload_n hx hb dX6_garden_38 rfl (lv_at hl 4 rfl) ?_
        refine lv_iload hx hb dX6_garden_39 (lv_at hl 5 rfl) ?_
        obtain ⟨v41, h41, hF⟩ := bd hF
        refine cRe (va_runV (As := [.int x2, .int x3, .int x4]) (rest := []) ⟨hx, hb, hml, hown, hts⟩ (c_X3_faultOfTaking l D cI cS (sa a0 20) (sb t0 20) x2 x3 x4 v41 h41) (cwVA hts (TW.cons _) lv_X3_faultOfTaking ml_RX6_60 ⟨rfl, rfl⟩ ⟨(Nat.le_of_ble_eq_true rfl), (Nat.le_of_ble_eq_true rfl)⟩) (pRV hK (hP.sub [20, 21] (su_C_S20 cI cS _ _)) (ci := 3) rfl rfl) rfl rfl hl.1 rfl (lv_room (Nat.le_of_ble_eq_true rfl)) dX6_garden_41 ⟨Nat.le_refl _, Nat.le_refl _⟩) ?_
        refine lv_istore (lv' := [(6, .int v41), (5, .ref (a0 20)), (0, .ref (a0 0)), (1, .int x1), (2, .int x2), (3, .int x3), (4, .int x4)]) hx hb dX6_garden_44 hl (by decide) rfl (fun ls hl => ?_)
        refine lv_iload hx hb dX6_garden_46 (lv_at hl 0 rfl) ?_
        refine lv_if_eq (tgt := 58) hx hb dX6_garden_48 (by decide) (fun c48 => ?_) (fun c48 => ?_)
        · replace hF := ip c48 hF
          refine lv_aload hx hb dX6_garden_58 (lv_at hl 1 rfl) ?_
          refine lv_iload_n hx hb dX6_garden_60 rfl (lv_at hl 5 rfl) ?_
          refine lv_iload hx hb dX6_garden_61 (lv_at hl 6 rfl) ?_
          obtain ⟨v63, h63, hF⟩ := bd hF
          refine cRe (va_runS (As := [.ref (a0 20), .int x3, .int x4]) (rest := []) ⟨hx, hb, hml, hown, hts⟩ (c_X4_firstFault l D cI cS (sa a0 20) (sb t0 20) x3 x4 v63 h63) (cwSA hts (TW.cons _) ls_X4_firstFault ml_RX6_67 ⟨rfl, rfl⟩ ⟨(Nat.le_of_ble_eq_true rfl), (Nat.le_of_ble_eq_true rfl)⟩) (pRS hK (hP.sub [20, 21] (su_C_S20 cI cS _ _))) rfl rfl hl.1 rfl (lv_room (Nat.le_of_ble_eq_true rfl)) dX6_garden_63 ⟨Nat.le_refl _, Nat.le_refl _⟩) ?_
          refine lv_istore (lv' := [(7, .int v63), (6, .int v41), (5, .ref (a0 20)), (0, .ref (a0 0)), (1, .int x1), (2, .int x2), (3, .int x3), (4, .int x4)]) hx hb dX6_garden_66 hl (by decide) rfl (fun ls hl => ?_)
          refine lv_iload hx hb dX6_garden_68 (lv_at hl 0 rfl) ?_
          refine lv_bipush (v := (-9)) hx hb dX6_garden_70 (by decide) ?_
          refine lv_icmp_eq (tgt := 85) hx hb dX6_garden_72 (by decide) (fun c72 => ?_) (fun c72 => ?_)
          · replace hF := ip c72 hF
            refine lv_aload_n hx hb dX6_garden_85 rfl (lv_at hl 3 rfl) ?_
            refine va_get (D := D) (ci := 5) (v := .ref (a0 1)) (C := RX6) (T := TX6) (N := 8) hx hb hts (fun w h => List.mem_cons_of_mem _ (inAX6 w h)) hown hK.1 hP 0 (at_C_0 cI cS _ _) rfl 0 (by decide) (hts _ (List.mem_cons_of_mem _ fl_RX6_12)) (fun _ h9 => h9) rfl dX6_garden_86 ?_
            refine lv_aload hx hb dX6_garden_89 (lv_at hl 2 rfl) ?_
            refine lv_iload_n hx hb dX6_garden_91 rfl (lv_at hl 6 rfl) ?_
            obtain ⟨v92, h92, hF⟩ := bd hF
            refine cRe (va_runS (As := [.ref (a0 20), .int x3]) (rest := [.ref (a0 1)]) ⟨hx, hb, hml, hown, hts⟩ (c_X4_lawOf l D cI cS (sa a0 20) (sb t0 20) x3 v92 h92) (cwSA hts (TW.cons _) ls_X4_lawOf ml_RX6_73 ⟨rfl, rfl⟩ ⟨(Nat.le_of_ble_eq_true rfl), (Nat.le_of_ble_eq_true rfl)⟩) (pRS hK (hP.sub [20, 21] (su_C_S20 cI cS _ _))) rfl rfl hl.1 rfl (lv_room (Nat.le_of_ble_eq_true rfl)) dX6_garden_92 ⟨Nat.le_refl _, Nat.le_refl _⟩) ?_
            obtain ⟨u95, h95, hF⟩ := bd hF
            refine cWv (ws' := pC cI cS a0 (gr t0 1 2 u95)) (va_runV (As := [.int v92]) (rest := []) ⟨hx, hb, hml, hown, hts⟩ (c_X1_fix l D cI cS (sa a0 1) (sb t0 1) v92 u95 h95) (cwVA hts (TW.cons _) lv_X1_fix ml_RX6_77 ⟨rfl, rfl⟩ ⟨(Nat.le_of_ble_eq_true rfl), (Nat.le_of_ble_eq_true rfl)⟩) (pWV hK (hP.sub [1, 2] (su_C_L1 cI cS _ _)) (hD.sub [1, 2] (by decide) (sm_C_L1 cI cS _ _)) (ci := 1) rfl rfl) rfl rfl hl.1 rfl (lv_room (Nat.le_of_ble_eq_true rfl)) dX6_garden_95 ⟨Nat.le_refl _, Nat.le_refl _⟩) hP hD hS [1, 2] (sm_C_L1 cI cS _ _) [.inl 0, .inr 0, .inr 1, .inl 3, .inl 4, .inl 5, .inl 6, .inl 7, .inl 8, .inl 9, .inl 10, .inl 11, .inl 12, .inl 13, .inl 14, .inl 15, .inl 16, .inl 17, .inl 18, .inl 19, .inl 20, .inl 21, .inl 22, .inl 23, .inl 24, .inl 25, .inl 26, .inl 27, .inl 28] (pn_C_L1 cI cS _ _ _) rfl (ad_C cI cS _ _ _) (fun H locs hP hD hS => ?_)
            refine lv_aload_n hx hb dX6_garden_98 rfl (lv_at hl 3 rfl) ?_
            refine va_get (D := D) (ci := 5) (v := .ref (a0 3)) (C := RX6) (T := TX6) (N := 8) hx hb hts (fun w h => List.mem_cons_of_mem _ (inAX6 w h)) hown hK.1 hP 0 (at_C_0 cI cS _ _) rfl 1 (by decide) (hts _ (List.mem_cons_of_mem _ fl_RX6_21)) (fun _ h9 => h9) rfl dX6_garden_99 ?_
            refine lv_aload hx hb dX6_garden_102 (lv_at hl 2 rfl) ?_
            refine lv_iload_n hx hb dX6_garden_104 rfl (lv_at hl 6 rfl) ?_
            refine lv_iload hx hb dX6_garden_105 (lv_at hl 7 rfl) ?_
            obtain ⟨u107, h107, hF⟩ := bd hF
            refine cWv (ws' := pC cI cS a0 (gr (gr t0 1 2 u95) 3 4 u107)) (va_runV (As := [.ref (a0 20), .int x3, .int x4]) (rest := []) ⟨hx, hb, hml, hown, hts⟩ (c_X0_begin l D cI cS (sa a0 3) (sa a0 20) (sb (gr t0 1 2 u95) 3) (sb (gr t0 1 2 u95) 20) x3 x4 u107 h107) (cwVA hts (TW.cons _) lv_X0_begin ml_RX6_81 ⟨rfl, rfl⟩ ⟨(Nat.le_of_ble_eq_true rfl), (Nat.le_of_ble_eq_true rfl)⟩) (pWV hK (hP.sub [3, 4, 5, 6, 20, 21] (su_C_B3_S20 cI cS _ _)) (hD.sub [3, 4, 5, 6, 20, 21] (by decide) (sm_C_B3_S20 cI cS _ _)) (ci := 0) rfl rfl) rfl rfl hl.1 rfl (lv_room (Nat.le_of_ble_eq_true rfl)) dX6_garden_107 ⟨Nat.le_refl _, Nat.le_refl _⟩) hP hD hS [3, 4, 5, 6, 20, 21] (sm_C_B3_S20 cI cS _ _) [.inl 0, .inl 1, .inl 2, .inr 0, .inr 1, .inr 2, .inr 3, .inl 7, .inl 8, .inl 9, .inl 10, .inl 11, .inl 12, .inl 13, .inl 14, .inl 15, .inl 16, .inl 17, .inl 18, .inl 19, .inr 4, .inr 5, .inl 22, .inl 23, .inl 24, .inl 25, .inl 26, .inl 27, .inl 28] (pn_C_B3_S20 cI cS _ _ _) rfl (ad_C cI cS _ _ _) (fun H locs hP hD hS => ?_)
            refine lv_aload_n hx hb dX6_garden_110 rfl (lv_at hl 3 rfl) ?_
            refine va_get (D := D) (ci := 5) (v := .ref (a0 16)) (C := RX6) (T := TX6) (N := 8) hx hb hts (fun w h => List.mem_cons_of_mem _ (inAX6 w h)) hown hK.1 hP 0 (at_C_0 cI cS _ _) rfl 4 (by decide) (hts _ (List.mem_cons_of_mem _ fl_RX6_38)) (fun _ h9 => h9) rfl dX6_garden_111 ?_
            obtain ⟨u114, h114, hF⟩ := bd hF
            refine cWv (ws' := pC cI cS a0 (gr (gr (gr t0 1 2 u95) 3 4 u107) 16 4 u114)) (va_runV (As := []) (rest := []) ⟨hx, hb, hml, hown, hts⟩ (c_X2_forgetAll l D cI cS (sa a0 16) (sb (gr (gr t0 1 2 u95) 3 4 u107) 16) u114 h114) (cwVA hts (TW.cons _) lv_X2_forgetAll ml_RX6_85 ⟨rfl, rfl⟩ ⟨(Nat.le_of_ble_eq_true rfl), (Nat.le_of_ble_eq_true rfl)⟩) (pWV hK (hP.sub [16, 17, 18, 19] (su_C_D16 cI cS _ _)) (hD.sub [16, 17, 18, 19] (by decide) (sm_C_D16 cI cS _ _)) (ci := 2) rfl rfl) rfl rfl hl.1 rfl (lv_room (Nat.le_of_ble_eq_true rfl)) dX6_garden_114 ⟨Nat.le_refl _, Nat.le_refl _⟩) hP hD hS [16, 17, 18, 19] (sm_C_D16 cI cS _ _) [.inl 0, .inl 1, .inl 2, .inl 3, .inl 4, .inl 5, .inl 6, .inl 7, .inl 8, .inl 9, .inl 10, .inl 11, .inl 12, .inl 13, .inl 14, .inl 15, .inr 0, .inr 1, .inr 2, .inr 3, .inl 20, .inl 21, .inl 22, .inl 23, .inl 24, .inl 25, .inl 26, .inl 27, .inl 28] (pn_C_D16 cI cS _ _ _) rfl (ad_C cI cS _ _ _) (fun H locs hP hD hS => ?_)
            refine lv_aload_n hx hb dX6_garden_117 rfl (lv_at hl 3 rfl) ?_
            refine lv_aload_n hx hb dX6_garden_118 rfl (lv_at hl 3 rfl) ?_
            refine va_get (D := D) (ci := 5) (v := .ref (a0 3)) (C := RX6) (T := TX6) (N := 8) hx hb hts (fun w h => List.mem_cons_of_mem _ (inAX6 w h)) hown hK.1 hP 0 (at_C_0 cI cS _ _) rfl 1 (by decide) (hts _ (List.mem_cons_of_mem _ fl_RX6_21)) (fun _ h9 => h9) rfl dX6_garden_119 ?_
            refine va_getN (D := D) (ci := 0) (v := .int (u107 0 0)) (C := RX0) (T := TX0) (N := 6) hx hb hts (fun w h => List.mem_cons_of_mem _ (inAX0 w h)) hown hK.1 hP 3 (at_C_3 cI cS _ _) rfl 0 (by decide) (nu_RX6_88 hK) (fun _ h9 => h9) rfl dX6_garden_122 ?_
            obtain ⟨v125, u125, h125, hF⟩ := bd2 hF
            refine cAe (ws' := pC cI cS a0 u125) (va_runV (As := [.int (u107 0 0)]) (rest := []) ⟨hx, hb, hml, hown, hts⟩ (c_X6_withoutFault l D cI cS a0 (gr (gr (gr t0 1 2 u95) 3 4 u107) 16 4 u114) (u107 0 0) v125 u125 h125) (cwVA hts (TW.cons _) lv_X6_withoutFault ml_RX6_53 ⟨rfl, rfl⟩ ⟨(Nat.le_of_ble_eq_true rfl), (Nat.le_of_ble_eq_true rfl)⟩) (pWV hK hP hD (ci := 5) rfl rfl) rfl rfl hl.1 rfl (lv_room (Nat.le_of_ble_eq_true rfl)) dX6_garden_125 ⟨Nat.le_refl _, Nat.le_refl _⟩) hD hS (ad_C cI cS _ _ _) (fun H locs hP hD hS => ?_)
            exact W.iret hx hb hr (fun t ht hW => ⟨⟨_, (), rfl, (Prod.mk.inj (Option.some.inj hF)).1, by show va_P _ _ _ t.heap; rw [ht, ← (Prod.mk.inj (Option.some.inj hF)).2]; exact hP⟩, hS.F ht⟩) hS.2.2 dX6_garden_128
          · replace hF := iq c72 hF
            refine lv_aload_n hx hb dX6_garden_75 rfl (lv_at hl 3 rfl) ?_
            refine lv_bipush (v := (-100)) hx hb dX6_garden_76 (by decide) ?_
            refine lv_iload hx hb dX6_garden_78 (lv_at hl 0 rfl) ?_
            refine lv_isub hx hb dX6_garden_80 ?_
            obtain ⟨v81, u81, h81, hF⟩ := bd2 hF
            refine cAe (ws' := pC cI cS a0 u81) (va_runV (As := [.int ((-100) - v63)]) (rest := []) ⟨hx, hb, hml, hown, hts⟩ (c_X6_withoutFault l D cI cS a0 t0 ((-100) - v63) v81 u81 h81) (cwVA hts (TW.cons _) lv_X6_withoutFault ml_RX6_53 ⟨rfl, rfl⟩ ⟨(Nat.le_of_ble_eq_true rfl), (Nat.le_of_ble_eq_true rfl)⟩) (pWV hK hP hD (ci := 5) rfl rfl) rfl rfl hl.1 rfl (lv_room (Nat.le_of_ble_eq_true rfl)) dX6_garden_81 ⟨Nat.le_refl _, Nat.le_refl _⟩) hD hS (ad_C cI cS _ _ _) (fun H locs hP hD hS => ?_)
            exact W.iret hx hb hr (fun t ht hW => ⟨⟨_, (), rfl, (Prod.mk.inj (Option.some.inj hF)).1, by show va_P _ _ _ t.heap; rw [ht, ← (Prod.mk.inj (Option.some.inj hF)).2]; exact hP⟩, hS.F ht⟩) hS.2.2 dX6_garden_84
        · replace hF := iq c48 hF
          refine lv_aload_n hx hb dX6_garden_51 rfl (lv_at hl 2 rfl) ?_
          refine lv_iload hx hb dX6_garden_52 (lv_at hl 0 rfl) ?_
          obtain ⟨v54, u54, h54, hF⟩ := bd2 hF
          refine cAe (ws' := pC cI cS a0 u54) (va_runV (As := [.int v41]) (rest := []) ⟨hx, hb, hml, hown, hts⟩ (c_X6_withFault l D cI cS a0 t0 v41 v54 u54 h54) (cwVA hts (TW.cons _) lv_X6_withFault ml_RX6_64 ⟨rfl, rfl⟩ ⟨(Nat.le_of_ble_eq_true rfl), (Nat.le_of_ble_eq_true rfl)⟩) (pWV hK hP hD (ci := 5) rfl rfl) rfl rfl hl.1 rfl (lv_room (Nat.le_of_ble_eq_true rfl)) dX6_garden_54 ⟨Nat.le_refl _, Nat.le_refl _⟩) hD hS (ad_C cI cS _ _ _) (fun H locs hP hD hS => ?_)
          exact W.iret hx hb hr (fun t ht hW => ⟨⟨_, (), rfl, (Prod.mk.inj (Option.some.inj hF)).1, by show va_P _ _ _ t.heap; rw [ht, ← (Prod.mk.inj (Option.some.inj hF)).2]; exact hP⟩, hS.F ht⟩) hS.2.2 dX6_garden_57
      · refine rR (b := a0 22) hx hb hK.1 hP 28 1 (at_C_28 cI cS _ _) rfl h32 rfl dX6_garden_32 ?_
        refine lv_astore (lv' := [(5, .ref (a0 22)), (0, .ref (a0 0)), (1, .int x1), (2, .int x2), (3, .int x3), (4, .int x4)]) hx hb dX6_garden_33 hl (by decide) rfl (fun ls hl => ?_)
        refine lv_aload hx hb dX6_garden_35 (lv_at hl 0 rfl) ?_
        refine lv_iload_n hx hb dX6_garden_37 rfl (lv_at hl 3 rfl) ?_
        refine lv_iload_n hx hb dX6_garden_38 rfl (lv_at hl 4 rfl) ?_
        refine lv_iload hx hb dX6_garden_39 (lv_at hl 5 rfl) ?_
        obtain ⟨v41, h41, hF⟩ := bd hF
        refine cRe (va_runV (As := [.int x2, .int x3, .int x4]) (rest := []) ⟨hx, hb, hml, hown, hts⟩ (c_X3_faultOfTaking l D cI cS (sa a0 22) (sb t0 22) x2 x3 x4 v41 h41) (cwVA hts (TW.cons _) lv_X3_faultOfTaking ml_RX6_60 ⟨rfl, rfl⟩ ⟨(Nat.le_of_ble_eq_true rfl), (Nat.le_of_ble_eq_true rfl)⟩) (pRV hK (hP.sub [22, 23] (su_C_S22 cI cS _ _)) (ci := 3) rfl rfl) rfl rfl hl.1 rfl (lv_room (Nat.le_of_ble_eq_true rfl)) dX6_garden_41 ⟨Nat.le_refl _, Nat.le_refl _⟩) ?_
        refine lv_istore (lv' := [(6, .int v41), (5, .ref (a0 22)), (0, .ref (a0 0)), (1, .int x1), (2, .int x2), (3, .int x3), (4, .int x4)]) hx hb dX6_garden_44 hl (by decide) rfl (fun ls hl => ?_)
        refine lv_iload hx hb dX6_garden_46 (lv_at hl 0 rfl) ?_
        refine lv_if_eq (tgt := 58) hx hb dX6_garden_48 (by decide) (fun c48 => ?_) (fun c48 => ?_)
        · replace hF := ip c48 hF
          refine lv_aload hx hb dX6_garden_58 (lv_at hl 1 rfl) ?_
          refine lv_iload_n hx hb dX6_garden_60 rfl (lv_at hl 5 rfl) ?_
          refine lv_iload hx hb dX6_garden_61 (lv_at hl 6 rfl) ?_
          obtain ⟨v63, h63, hF⟩ := bd hF
          refine cRe (va_runS (As := [.ref (a0 22), .int x3, .int x4]) (rest := []) ⟨hx, hb, hml, hown, hts⟩ (c_X4_firstFault l D cI cS (sa a0 22) (sb t0 22) x3 x4 v63 h63) (cwSA hts (TW.cons _) ls_X4_firstFault ml_RX6_67 ⟨rfl, rfl⟩ ⟨(Nat.le_of_ble_eq_true rfl), (Nat.le_of_ble_eq_true rfl)⟩) (pRS hK (hP.sub [22, 23] (su_C_S22 cI cS _ _))) rfl rfl hl.1 rfl (lv_room (Nat.le_of_ble_eq_true rfl)) dX6_garden_63 ⟨Nat.le_refl _, Nat.le_refl _⟩) ?_
          refine lv_istore (lv' := [(7, .int v63), (6, .int v41), (5, .ref (a0 22)), (0, .ref (a0 0)), (1, .int x1), (2, .int x2), (3, .int x3), (4, .int x4)]) hx hb dX6_garden_66 hl (by decide) rfl (fun ls hl => ?_)
          refine lv_iload hx hb dX6_garden_68 (lv_at hl 0 rfl) ?_
          refine lv_bipush (v := (-9)) hx hb dX6_garden_70 (by decide) ?_
          refine lv_icmp_eq (tgt := 85) hx hb dX6_garden_72 (by decide) (fun c72 => ?_) (fun c72 => ?_)
          · replace hF := ip c72 hF
            refine lv_aload_n hx hb dX6_garden_85 rfl (lv_at hl 3 rfl) ?_
            refine va_get (D := D) (ci := 5) (v := .ref (a0 1)) (C := RX6) (T := TX6) (N := 8) hx hb hts (fun w h => List.mem_cons_of_mem _ (inAX6 w h)) hown hK.1 hP 0 (at_C_0 cI cS _ _) rfl 0 (by decide) (hts _ (List.mem_cons_of_mem _ fl_RX6_12)) (fun _ h9 => h9) rfl dX6_garden_86 ?_
            refine lv_aload hx hb dX6_garden_89 (lv_at hl 2 rfl) ?_
            refine lv_iload_n hx hb dX6_garden_91 rfl (lv_at hl 6 rfl) ?_
            obtain ⟨v92, h92, hF⟩ := bd hF
            refine cRe (va_runS (As := [.ref (a0 22), .int x3]) (rest := [.ref (a0 1)]) ⟨hx, hb, hml, hown, hts⟩ (c_X4_lawOf l D cI cS (sa a0 22) (sb t0 22) x3 v92 h92) (cwSA hts (TW.cons _) ls_X4_lawOf ml_RX6_73 ⟨rfl, rfl⟩ ⟨(Nat.le_of_ble_eq_true rfl), (Nat.le_of_ble_eq_true rfl)⟩) (pRS hK (hP.sub [22, 23] (su_C_S22 cI cS _ _))) rfl rfl hl.1 rfl (lv_room (Nat.le_of_ble_eq_true rfl)) dX6_garden_92 ⟨Nat.le_refl _, Nat.le_refl _⟩) ?_
            obtain ⟨u95, h95, hF⟩ := bd hF
            refine cWv (ws' := pC cI cS a0 (gr t0 1 2 u95)) (va_runV (As := [.int v92]) (rest := []) ⟨hx, hb, hml, hown, hts⟩ (c_X1_fix l D cI cS (sa a0 1) (sb t0 1) v92 u95 h95) (cwVA hts (TW.cons _) lv_X1_fix ml_RX6_77 ⟨rfl, rfl⟩ ⟨(Nat.le_of_ble_eq_true rfl), (Nat.le_of_ble_eq_true rfl)⟩) (pWV hK (hP.sub [1, 2] (su_C_L1 cI cS _ _)) (hD.sub [1, 2] (by decide) (sm_C_L1 cI cS _ _)) (ci := 1) rfl rfl) rfl rfl hl.1 rfl (lv_room (Nat.le_of_ble_eq_true rfl)) dX6_garden_95 ⟨Nat.le_refl _, Nat.le_refl _⟩) hP hD hS [1, 2] (sm_C_L1 cI cS _ _) [.inl 0, .inr 0, .inr 1, .inl 3, .inl 4, .inl 5, .inl 6, .inl 7, .inl 8, .inl 9, .inl 10, .inl 11, .inl 12, .inl 13, .inl 14, .inl 15, .inl 16, .inl 17, .inl 18, .inl 19, .inl 20, .inl 21, .inl 22, .inl 23, .inl 24, .inl 25, .inl 26, .inl 27, .inl 28] (pn_C_L1 cI cS _ _ _) rfl (ad_C cI cS _ _ _) (fun H locs hP hD hS => ?_)
            refine lv_aload_n hx hb dX6_garden_98 rfl (lv_at hl 3 rfl) ?_
            refine va_get (D := D) (ci := 5) (v := .ref (a0 3)) (C := RX6) (T := TX6) (N := 8) hx hb hts (fun w h => List.mem_cons_of_mem _ (inAX6 w h)) hown hK.1 hP 0 (at_C_0 cI cS _ _) rfl 1 (by decide) (hts _ (List.mem_cons_of_mem _ fl_RX6_21)) (fun _ h9 => h9) rfl dX6_garden_99 ?_
            refine lv_aload hx hb dX6_garden_102 (lv_at hl 2 rfl) ?_
            refine lv_iload_n hx hb dX6_garden_104 rfl (lv_at hl 6 rfl) ?_
            refine lv_iload hx hb dX6_garden_105 (lv_at hl 7 rfl) ?_
            obtain ⟨u107, h107, hF⟩ := bd hF
            refine cWv (ws' := pC cI cS a0 (gr (gr t0 1 2 u95) 3 4 u107)) (va_runV (As := [.ref (a0 22), .int x3, .int x4]) (rest := []) ⟨hx, hb, hml, hown, hts⟩ (c_X0_begin l D cI cS (sa a0 3) (sa a0 22) (sb (gr t0 1 2 u95) 3) (sb (gr t0 1 2 u95) 22) x3 x4 u107 h107) (cwVA hts (TW.cons _) lv_X0_begin ml_RX6_81 ⟨rfl, rfl⟩ ⟨(Nat.le_of_ble_eq_true rfl), (Nat.le_of_ble_eq_true rfl)⟩) (pWV hK (hP.sub [3, 4, 5, 6, 22, 23] (su_C_B3_S22 cI cS _ _)) (hD.sub [3, 4, 5, 6, 22, 23] (by decide) (sm_C_B3_S22 cI cS _ _)) (ci := 0) rfl rfl) rfl rfl hl.1 rfl (lv_room (Nat.le_of_ble_eq_true rfl)) dX6_garden_107 ⟨Nat.le_refl _, Nat.le_refl _⟩) hP hD hS [3, 4, 5, 6, 22, 23] (sm_C_B3_S22 cI cS _ _) [.inl 0, .inl 1, .inl 2, .inr 0, .inr 1, .inr 2, .inr 3, .inl 7, .inl 8, .inl 9, .inl 10, .inl 11, .inl 12, .inl 13, .inl 14, .inl 15, .inl 16, .inl 17, .inl 18, .inl 19, .inl 20, .inl 21, .inr 4, .inr 5, .inl 24, .inl 25, .inl 26, .inl 27, .inl 28] (pn_C_B3_S22 cI cS _ _ _) rfl (ad_C cI cS _ _ _) (fun H locs hP hD hS => ?_)
            refine lv_aload_n hx hb dX6_garden_110 rfl (lv_at hl 3 rfl) ?_
            refine va_get (D := D) (ci := 5) (v := .ref (a0 16)) (C := RX6) (T := TX6) (N := 8) hx hb hts (fun w h => List.mem_cons_of_mem _ (inAX6 w h)) hown hK.1 hP 0 (at_C_0 cI cS _ _) rfl 4 (by decide) (hts _ (List.mem_cons_of_mem _ fl_RX6_38)) (fun _ h9 => h9) rfl dX6_garden_111 ?_
            obtain ⟨u114, h114, hF⟩ := bd hF
            refine cWv (ws' := pC cI cS a0 (gr (gr (gr t0 1 2 u95) 3 4 u107) 16 4 u114)) (va_runV (As := []) (rest := []) ⟨hx, hb, hml, hown, hts⟩ (c_X2_forgetAll l D cI cS (sa a0 16) (sb (gr (gr t0 1 2 u95) 3 4 u107) 16) u114 h114) (cwVA hts (TW.cons _) lv_X2_forgetAll ml_RX6_85 ⟨rfl, rfl⟩ ⟨(Nat.le_of_ble_eq_true rfl), (Nat.le_of_ble_eq_true rfl)⟩) (pWV hK (hP.sub [16, 17, 18, 19] (su_C_D16 cI cS _ _)) (hD.sub [16, 17, 18, 19] (by decide) (sm_C_D16 cI cS _ _)) (ci := 2) rfl rfl) rfl rfl hl.1 rfl (lv_room (Nat.le_of_ble_eq_true rfl)) dX6_garden_114 ⟨Nat.le_refl _, Nat.le_refl _⟩) hP hD hS [16, 17, 18, 19] (sm_C_D16 cI cS _ _) [.inl 0, .inl 1, .inl 2, .inl 3, .inl 4, .inl 5, .inl 6, .inl 7, .inl 8, .inl 9, .inl 10, .inl 11, .inl 12, .inl 13, .inl 14, .inl 15, .inr 0, .inr 1, .inr 2, .inr 3, .inl 20, .inl 21, .inl 22, .inl 23, .inl 24, .inl 25, .inl 26, .inl 27, .inl 28] (pn_C_D16 cI cS _ _ _) rfl (ad_C cI cS _ _ _) (fun H locs hP hD hS => ?_)
            refine lv_aload_n hx hb dX6_garden_117 rfl (lv_at hl 3 rfl) ?_
            refine lv_aload_n hx hb dX6_garden_118 rfl (lv_at hl 3 rfl) ?_
            refine va_get (D := D) (ci := 5) (v := .ref (a0 3)) (C := RX6) (T := TX6) (N := 8) hx hb hts (fun w h => List.mem_cons_of_mem _ (inAX6 w h)) hown hK.1 hP 0 (at_C_0 cI cS _ _) rfl 1 (by decide) (hts _ (List.mem_cons_of_mem _ fl_RX6_21)) (fun _ h9 => h9) rfl dX6_garden_119 ?_
            refine va_getN (D := D) (ci := 0) (v := .int (u107 0 0)) (C := RX0) (T := TX0) (N := 6) hx hb hts (fun w h => List.mem_cons_of_mem _ (inAX0 w h)) hown hK.1 hP 3 (at_C_3 cI cS _ _) rfl 0 (by decide) (nu_RX6_88 hK) (fun _ h9 => h9) rfl dX6_garden_122 ?_
            obtain ⟨v125, u125, h125, hF⟩ := bd2 hF
            refine cAe (ws' := pC cI cS a0 u125) (va_runV (As := [.int (u107 0 0)]) (rest := []) ⟨hx, hb, hml, hown, hts⟩ (c_X6_withoutFault l D cI cS a0 (gr (gr (gr t0 1 2 u95) 3 4 u107) 16 4 u114) (u107 0 0) v125 u125 h125) (cwVA hts (TW.cons _) lv_X6_withoutFault ml_RX6_53 ⟨rfl, rfl⟩ ⟨(Nat.le_of_ble_eq_true rfl), (Nat.le_of_ble_eq_true rfl)⟩) (pWV hK hP hD (ci := 5) rfl rfl) rfl rfl hl.1 rfl (lv_room (Nat.le_of_ble_eq_true rfl)) dX6_garden_125 ⟨Nat.le_refl _, Nat.le_refl _⟩) hD hS (ad_C cI cS _ _ _) (fun H locs hP hD hS => ?_)
            exact W.iret hx hb hr (fun t ht hW => ⟨⟨_, (), rfl, (Prod.mk.inj (Option.some.inj hF)).1, by show va_P _ _ _ t.heap; rw [ht, ← (Prod.mk.inj (Option.some.inj hF)).2]; exact hP⟩, hS.F ht⟩) hS.2.2 dX6_garden_128
          · replace hF := iq c72 hF
            refine lv_aload_n hx hb dX6_garden_75 rfl (lv_at hl 3 rfl) ?_
            refine lv_bipush (v := (-100)) hx hb dX6_garden_76 (by decide) ?_
            refine lv_iload hx hb dX6_garden_78 (lv_at hl 0 rfl) ?_
            refine lv_isub hx hb dX6_garden_80 ?_
            obtain ⟨v81, u81, h81, hF⟩ := bd2 hF
            refine cAe (ws' := pC cI cS a0 u81) (va_runV (As := [.int ((-100) - v63)]) (rest := []) ⟨hx, hb, hml, hown, hts⟩ (c_X6_withoutFault l D cI cS a0 t0 ((-100) - v63) v81 u81 h81) (cwVA hts (TW.cons _) lv_X6_withoutFault ml_RX6_53 ⟨rfl, rfl⟩ ⟨(Nat.le_of_ble_eq_true rfl), (Nat.le_of_ble_eq_true rfl)⟩) (pWV hK hP hD (ci := 5) rfl rfl) rfl rfl hl.1 rfl (lv_room (Nat.le_of_ble_eq_true rfl)) dX6_garden_81 ⟨Nat.le_refl _, Nat.le_refl _⟩) hD hS (ad_C cI cS _ _ _) (fun H locs hP hD hS => ?_)
            exact W.iret hx hb hr (fun t ht hW => ⟨⟨_, (), rfl, (Prod.mk.inj (Option.some.inj hF)).1, by show va_P _ _ _ t.heap; rw [ht, ← (Prod.mk.inj (Option.some.inj hF)).2]; exact hP⟩, hS.F ht⟩) hS.2.2 dX6_garden_84
        · replace hF := iq c48 hF
          refine lv_aload_n hx hb dX6_garden_51 rfl (lv_at hl 2 rfl) ?_
          refine lv_iload hx hb dX6_garden_52 (lv_at hl 0 rfl) ?_
          obtain ⟨v54, u54, h54, hF⟩ := bd2 hF
          refine cAe (ws' := pC cI cS a0 u54) (va_runV (As := [.int v41]) (rest := []) ⟨hx, hb, hml, hown, hts⟩ (c_X6_withFault l D cI cS a0 t0 v41 v54 u54 h54) (cwVA hts (TW.cons _) lv_X6_withFault ml_RX6_64 ⟨rfl, rfl⟩ ⟨(Nat.le_of_ble_eq_true rfl), (Nat.le_of_ble_eq_true rfl)⟩) (pWV hK hP hD (ci := 5) rfl rfl) rfl rfl hl.1 rfl (lv_room (Nat.le_of_ble_eq_true rfl)) dX6_garden_54 ⟨Nat.le_refl _, Nat.le_refl _⟩) hD hS (ad_C cI cS _ _ _) (fun H locs hP hD hS => ?_)
          exact W.iret hx hb hr (fun t ht hW => ⟨⟨_, (), rfl, (Prod.mk.inj (Option.some.inj hF)).1, by show va_P _ _ _ t.heap; rw [ht, ← (Prod.mk.inj (Option.some.inj hF)).2]; exact hP⟩, hS.F ht⟩) hS.2.2 dX6_garden_57
      · refine rR (b := a0 24) hx hb hK.1 hP 28 1 (at_C_28 cI cS _ _) rfl h32 rfl dX6_garden_32 ?_
        refine lv_astore (lv' := [(5, .ref (a0 24)), (0, .ref (a0 0)), (1, .int x1), (2, .int x2), (3, .int x3), (4, .int x4)]) hx hb dX6_garden_33 hl (by decide) rfl (fun ls hl => ?_)
        refine lv_aload hx hb dX6_garden_35 (lv_at hl 0 rfl) ?_
        refine lv_iload_n hx hb dX6_garden_37 rfl (lv_at hl 3 rfl) ?_
        refine lv_iload_n hx hb dX6_garden_38 rfl (lv_at hl 4 rfl) ?_
        refine lv_iload hx hb dX6_garden_39 (lv_at hl 5 rfl) ?_
        obtain ⟨v41, h41, hF⟩ := bd hF
        refine cRe (va_runV (As := [.int x2, .int x3, .int x4]) (rest := []) ⟨hx, hb, hml, hown, hts⟩ (c_X3_faultOfTaking l D cI cS (sa a0 24) (sb t0 24) x2 x3 x4 v41 h41) (cwVA hts (TW.cons _) lv_X3_faultOfTaking ml_RX6_60 ⟨rfl, rfl⟩ ⟨(Nat.le_of_ble_eq_true rfl), (Nat.le_of_ble_eq_true rfl)⟩) (pRV hK (hP.sub [24, 25] (su_C_S24 cI cS _ _)) (ci := 3) rfl rfl) rfl rfl hl.1 rfl (lv_room (Nat.le_of_ble_eq_true rfl)) dX6_garden_41 ⟨Nat.le_refl _, Nat.le_refl _⟩) ?_
        refine lv_istore (lv' := [(6, .int v41), (5, .ref (a0 24)), (0, .ref (a0 0)), (1, .int x1), (2, .int x2), (3, .int x3), (4, .int x4)]) hx hb dX6_garden_44 hl (by decide) rfl (fun ls hl => ?_)
        refine lv_iload hx hb dX6_garden_46 (lv_at hl 0 rfl) ?_
        refine lv_if_eq (tgt := 58) hx hb dX6_garden_48 (by decide) (fun c48 => ?_) (fun c48 => ?_)
        · replace hF := ip c48 hF
          refine lv_aload hx hb dX6_garden_58 (lv_at hl 1 rfl) ?_
          refine lv_iload_n hx hb dX6_garden_60 rfl (lv_at hl 5 rfl) ?_
          refine lv_iload hx hb dX6_garden_61 (lv_at hl 6 rfl) ?_
          obtain ⟨v63, h63, hF⟩ := bd hF
          refine cRe (va_runS (As := [.ref (a0 24), .int x3, .int x4]) (rest := []) ⟨hx, hb, hml, hown, hts⟩ (c_X4_firstFault l D cI cS (sa a0 24) (sb t0 24) x3 x4 v63 h63) (cwSA hts (TW.cons _) ls_X4_firstFault ml_RX6_67 ⟨rfl, rfl⟩ ⟨(Nat.le_of_ble_eq_true rfl), (Nat.le_of_ble_eq_true rfl)⟩) (pRS hK (hP.sub [24, 25] (su_C_S24 cI cS _ _))) rfl rfl hl.1 rfl (lv_room (Nat.le_of_ble_eq_true rfl)) dX6_garden_63 ⟨Nat.le_refl _, Nat.le_refl _⟩) ?_
          refine lv_istore (lv' := [(7, .int v63), (6, .int v41), (5, .ref (a0 24)), (0, .ref (a0 0)), (1, .int x1), (2, .int x2), (3, .int x3), (4, .int x4)]) hx hb dX6_garden_66 hl (by decide) rfl (fun ls hl => ?_)
          refine lv_iload hx hb dX6_garden_68 (lv_at hl 0 rfl) ?_
          refine lv_bipush (v := (-9)) hx hb dX6_garden_70 (by decide) ?_
          refine lv_icmp_eq (tgt := 85) hx hb dX6_garden_72 (by decide) (fun c72 => ?_) (fun c72 => ?_)
          · replace hF := ip c72 hF
            refine lv_aload_n hx hb dX6_garden_85 rfl (lv_at hl 3 rfl) ?_
            refine va_get (D := D) (ci := 5) (v := .ref (a0 1)) (C := RX6) (T := TX6) (N := 8) hx hb hts (fun w h => List.mem_cons_of_mem _ (inAX6 w h)) hown hK.1 hP 0 (at_C_0 cI cS _ _) rfl 0 (by decide) (hts _ (List.mem_cons_of_mem _ fl_RX6_12)) (fun _ h9 => h9) rfl dX6_garden_86 ?_
            refine lv_aload hx hb dX6_garden_89 (lv_at hl 2 rfl) ?_
            refine lv_iload_n hx hb dX6_garden_91 rfl (lv_at hl 6 rfl) ?_
            obtain ⟨v92, h92, hF⟩ := bd hF
            refine cRe (va_runS (As := [.ref (a0 24), .int x3]) (rest := [.ref (a0 1)]) ⟨hx, hb, hml, hown, hts⟩ (c_X4_lawOf l D cI cS (sa a0 24) (sb t0 24) x3 v92 h92) (cwSA hts (TW.cons _) ls_X4_lawOf ml_RX6_73 ⟨rfl, rfl⟩ ⟨(Nat.le_of_ble_eq_true rfl), (Nat.le_of_ble_eq_true rfl)⟩) (pRS hK (hP.sub [24, 25] (su_C_S24 cI cS _ _))) rfl rfl hl.1 rfl (lv_room (Nat.le_of_ble_eq_true rfl)) dX6_garden_92 ⟨Nat.le_refl _, Nat.le_refl _⟩) ?_
            obtain ⟨u95, h95, hF⟩ := bd hF
            refine cWv (ws' := pC cI cS a0 (gr t0 1 2 u95)) (va_runV (As := [.int v92]) (rest := []) ⟨hx, hb, hml, hown, hts⟩ (c_X1_fix l D cI cS (sa a0 1) (sb t0 1) v92 u95 h95) (cwVA hts (TW.cons _) lv_X1_fix ml_RX6_77 ⟨rfl, rfl⟩ ⟨(Nat.le_of_ble_eq_true rfl), (Nat.le_of_ble_eq_true rfl)⟩) (pWV hK (hP.sub [1, 2] (su_C_L1 cI cS _ _)) (hD.sub [1, 2] (by decide) (sm_C_L1 cI cS _ _)) (ci := 1) rfl rfl) rfl rfl hl.1 rfl (lv_room (Nat.le_of_ble_eq_true rfl)) dX6_garden_95 ⟨Nat.le_refl _, Nat.le_refl _⟩) hP hD hS [1, 2] (sm_C_L1 cI cS _ _) [.inl 0, .inr 0, .inr 1, .inl 3, .inl 4, .inl 5, .inl 6, .inl 7, .inl 8, .inl 9, .inl 10, .inl 11, .inl 12, .inl 13, .inl 14, .inl 15, .inl 16, .inl 17, .inl 18, .inl 19, .inl 20, .inl 21, .inl 22, .inl 23, .inl 24, .inl 25, .inl 26, .inl 27, .inl 28] (pn_C_L1 cI cS _ _ _) rfl (ad_C cI cS _ _ _) (fun H locs hP hD hS => ?_)
            refine lv_aload_n hx hb dX6_garden_98 rfl (lv_at hl 3 rfl) ?_
            refine va_get (D := D) (ci := 5) (v := .ref (a0 3)) (C := RX6) (T := TX6) (N := 8) hx hb hts (fun w h => List.mem_cons_of_mem _ (inAX6 w h)) hown hK.1 hP 0 (at_C_0 cI cS _ _) rfl 1 (by decide) (hts _ (List.mem_cons_of_mem _ fl_RX6_21)) (fun _ h9 => h9) rfl dX6_garden_99 ?_
            refine lv_aload hx hb dX6_garden_102 (lv_at hl 2 rfl) ?_
            refine lv_iload_n hx hb dX6_garden_104 rfl (lv_at hl 6 rfl) ?_
            refine lv_iload hx hb dX6_garden_105 (lv_at hl 7 rfl) ?_
            obtain ⟨u107, h107, hF⟩ := bd hF
            refine cWv (ws' := pC cI cS a0 (gr (gr t0 1 2 u95) 3 4 u107)) (va_runV (As := [.ref (a0 24), .int x3, .int x4]) (rest := []) ⟨hx, hb, hml, hown, hts⟩ (c_X0_begin l D cI cS (sa a0 3) (sa a0 24) (sb (gr t0 1 2 u95) 3) (sb (gr t0 1 2 u95) 24) x3 x4 u107 h107) (cwVA hts (TW.cons _) lv_X0_begin ml_RX6_81 ⟨rfl, rfl⟩ ⟨(Nat.le_of_ble_eq_true rfl), (Nat.le_of_ble_eq_true rfl)⟩) (pWV hK (hP.sub [3, 4, 5, 6, 24, 25] (su_C_B3_S24 cI cS _ _)) (hD.sub [3, 4, 5, 6, 24, 25] (by decide) (sm_C_B3_S24 cI cS _ _)) (ci := 0) rfl rfl) rfl rfl hl.1 rfl (lv_room (Nat.le_of_ble_eq_true rfl)) dX6_garden_107 ⟨Nat.le_refl _, Nat.le_refl _⟩) hP hD hS [3, 4, 5, 6, 24, 25] (sm_C_B3_S24 cI cS _ _) [.inl 0, .inl 1, .inl 2, .inr 0, .inr 1, .inr 2, .inr 3, .inl 7, .inl 8, .inl 9, .inl 10, .inl 11, .inl 12, .inl 13, .inl 14, .inl 15, .inl 16, .inl 17, .inl 18, .inl 19, .inl 20, .inl 21, .inl 22, .inl 23, .inr 4, .inr 5, .inl 26, .inl 27, .inl 28] (pn_C_B3_S24 cI cS _ _ _) rfl (ad_C cI cS _ _ _) (fun H locs hP hD hS => ?_)
            refine lv_aload_n hx hb dX6_garden_110 rfl (lv_at hl 3 rfl) ?_
            refine va_get (D := D) (ci := 5) (v := .ref (a0 16)) (C := RX6) (T := TX6) (N := 8) hx hb hts (fun w h => List.mem_cons_of_mem _ (inAX6 w h)) hown hK.1 hP 0 (at_C_0 cI cS _ _) rfl 4 (by decide) (hts _ (List.mem_cons_of_mem _ fl_RX6_38)) (fun _ h9 => h9) rfl dX6_garden_111 ?_
            obtain ⟨u114, h114, hF⟩ := bd hF
            refine cWv (ws' := pC cI cS a0 (gr (gr (gr t0 1 2 u95) 3 4 u107) 16 4 u114)) (va_runV (As := []) (rest := []) ⟨hx, hb, hml, hown, hts⟩ (c_X2_forgetAll l D cI cS (sa a0 16) (sb (gr (gr t0 1 2 u95) 3 4 u107) 16) u114 h114) (cwVA hts (TW.cons _) lv_X2_forgetAll ml_RX6_85 ⟨rfl, rfl⟩ ⟨(Nat.le_of_ble_eq_true rfl), (Nat.le_of_ble_eq_true rfl)⟩) (pWV hK (hP.sub [16, 17, 18, 19] (su_C_D16 cI cS _ _)) (hD.sub [16, 17, 18, 19] (by decide) (sm_C_D16 cI cS _ _)) (ci := 2) rfl rfl) rfl rfl hl.1 rfl (lv_room (Nat.le_of_ble_eq_true rfl)) dX6_garden_114 ⟨Nat.le_refl _, Nat.le_refl _⟩) hP hD hS [16, 17, 18, 19] (sm_C_D16 cI cS _ _) [.inl 0, .inl 1, .inl 2, .inl 3, .inl 4, .inl 5, .inl 6, .inl 7, .inl 8, .inl 9, .inl 10, .inl 11, .inl 12, .inl 13, .inl 14, .inl 15, .inr 0, .inr 1, .inr 2, .inr 3, .inl 20, .inl 21, .inl 22, .inl 23, .inl 24, .inl 25, .inl 26, .inl 27, .inl 28] (pn_C_D16 cI cS _ _ _) rfl (ad_C cI cS _ _ _) (fun H locs hP hD hS => ?_)
            refine lv_aload_n hx hb dX6_garden_117 rfl (lv_at hl 3 rfl) ?_
            refine lv_aload_n hx hb dX6_garden_118 rfl (lv_at hl 3 rfl) ?_
            refine va_get (D := D) (ci := 5) (v := .ref (a0 3)) (C := RX6) (T := TX6) (N := 8) hx hb hts (fun w h => List.mem_cons_of_mem _ (inAX6 w h)) hown hK.1 hP 0 (at_C_0 cI cS _ _) rfl 1 (by decide) (hts _ (List.mem_cons_of_mem _ fl_RX6_21)) (fun _ h9 => h9) rfl dX6_garden_119 ?_
            refine va_getN (D := D) (ci := 0) (v := .int (u107 0 0)) (C := RX0) (T := TX0) (N := 6) hx hb hts (fun w h => List.mem_cons_of_mem _ (inAX0 w h)) hown hK.1 hP 3 (at_C_3 cI cS _ _) rfl 0 (by decide) (nu_RX6_88 hK) (fun _ h9 => h9) rfl dX6_garden_122 ?_
            obtain ⟨v125, u125, h125, hF⟩ := bd2 hF
            refine cAe (ws' := pC cI cS a0 u125) (va_runV (As := [.int (u107 0 0)]) (rest := []) ⟨hx, hb, hml, hown, hts⟩ (c_X6_withoutFault l D cI cS a0 (gr (gr (gr t0 1 2 u95) 3 4 u107) 16 4 u114) (u107 0 0) v125 u125 h125) (cwVA hts (TW.cons _) lv_X6_withoutFault ml_RX6_53 ⟨rfl, rfl⟩ ⟨(Nat.le_of_ble_eq_true rfl), (Nat.le_of_ble_eq_true rfl)⟩) (pWV hK hP hD (ci := 5) rfl rfl) rfl rfl hl.1 rfl (lv_room (Nat.le_of_ble_eq_true rfl)) dX6_garden_125 ⟨Nat.le_refl _, Nat.le_refl _⟩) hD hS (ad_C cI cS _ _ _) (fun H locs hP hD hS => ?_)
            exact W.iret hx hb hr (fun t ht hW => ⟨⟨_, (), rfl, (Prod.mk.inj (Option.some.inj hF)).1, by show va_P _ _ _ t.heap; rw [ht, ← (Prod.mk.inj (Option.some.inj hF)).2]; exact hP⟩, hS.F ht⟩) hS.2.2 dX6_garden_128
          · replace hF := iq c72 hF
            refine lv_aload_n hx hb dX6_garden_75 rfl (lv_at hl 3 rfl) ?_
            refine lv_bipush (v := (-100)) hx hb dX6_garden_76 (by decide) ?_
            refine lv_iload hx hb dX6_garden_78 (lv_at hl 0 rfl) ?_
            refine lv_isub hx hb dX6_garden_80 ?_
            obtain ⟨v81, u81, h81, hF⟩ := bd2 hF
            refine cAe (ws' := pC cI cS a0 u81) (va_runV (As := [.int ((-100) - v63)]) (rest := []) ⟨hx, hb, hml, hown, hts⟩ (c_X6_withoutFault l D cI cS a0 t0 ((-100) - v63) v81 u81 h81) (cwVA hts (TW.cons _) lv_X6_withoutFault ml_RX6_53 ⟨rfl, rfl⟩ ⟨(Nat.le_of_ble_eq_true rfl), (Nat.le_of_ble_eq_true rfl)⟩) (pWV hK hP hD (ci := 5) rfl rfl) rfl rfl hl.1 rfl (lv_room (Nat.le_of_ble_eq_true rfl)) dX6_garden_81 ⟨Nat.le_refl _, Nat.le_refl _⟩) hD hS (ad_C cI cS _ _ _) (fun H locs hP hD hS => ?_)
            exact W.iret hx hb hr (fun t ht hW => ⟨⟨_, (), rfl, (Prod.mk.inj (Option.some.inj hF)).1, by show va_P _ _ _ t.heap; rw [ht, ← (Prod.mk.inj (Option.some.inj hF)).2]; exact hP⟩, hS.F ht⟩) hS.2.2 dX6_garden_84
        · replace hF := iq c48 hF
          refine lv_aload_n hx hb dX6_garden_51 rfl (lv_at hl 2 rfl) ?_
          refine lv_iload hx hb dX6_garden_52 (lv_at hl 0 rfl) ?_
          obtain ⟨v54, u54, h54, hF⟩ := bd2 hF
          refine cAe (ws' := pC cI cS a0 u54) (va_runV (As := [.int v41]) (rest := []) ⟨hx, hb, hml, hown, hts⟩ (c_X6_withFault l D cI cS a0 t0 v41 v54 u54 h54) (cwVA hts (TW.cons _) lv_X6_withFault ml_RX6_64 ⟨rfl, rfl⟩ ⟨(Nat.le_of_ble_eq_true rfl), (Nat.le_of_ble_eq_true rfl)⟩) (pWV hK hP hD (ci := 5) rfl rfl) rfl rfl hl.1 rfl (lv_room (Nat.le_of_ble_eq_true rfl)) dX6_garden_54 ⟨Nat.le_refl _, Nat.le_refl _⟩) hD hS (ad_C cI cS _ _ _) (fun H locs hP hD hS => ?_)
          exact W.iret hx hb hr (fun t ht hW => ⟨⟨_, (), rfl, (Prod.mk.inj (Option.some.inj hF)).1, by show va_P _ _ _ t.heap; rw [ht, ← (Prod.mk.inj (Option.some.inj hF)).2]; exact hP⟩, hS.F ht⟩) hS.2.2 dX6_garden_57
      · refine rR (b := a0 26) hx hb hK.1 hP 28 1 (at_C_28 cI cS _ _) rfl h32 rfl dX6_garden_32 ?_
        refine lv_astore (lv' := [(5, .ref (a0 26)), (0, .ref (a0 0)), (1, .int x1), (2, .int x2), (3, .int x3), (4, .int x4)]) hx hb dX6_garden_33 hl (by decide) rfl (fun ls hl => ?_)
        refine lv_aload hx hb dX6_garden_35 (lv_at hl 0 rfl) ?_
        refine lv_iload_n hx hb dX6_garden_37 rfl (lv_at hl 3 rfl) ?_
        refine lv_iload_n hx hb dX6_garden_38 rfl (lv_at hl 4 rfl) ?_
        refine lv_iload hx hb dX6_garden_39 (lv_at hl 5 rfl) ?_
        obtain ⟨v41, h41, hF⟩ := bd hF
        refine cRe (va_runV (As := [.int x2, .int x3, .int x4]) (rest := []) ⟨hx, hb, hml, hown, hts⟩ (c_X3_faultOfTaking l D cI cS (sa a0 26) (sb t0 26) x2 x3 x4 v41 h41) (cwVA hts (TW.cons _) lv_X3_faultOfTaking ml_RX6_60 ⟨rfl, rfl⟩ ⟨(Nat.le_of_ble_eq_true rfl), (Nat.le_of_ble_eq_true rfl)⟩) (pRV hK (hP.sub [26, 27] (su_C_S26 cI cS _ _)) (ci := 3) rfl rfl) rfl rfl hl.1 rfl (lv_room (Nat.le_of_ble_eq_true rfl)) dX6_garden_41 ⟨Nat.le_refl _, Nat.le_refl _⟩) ?_
        refine lv_istore (lv' := [(6, .int v41), (5, .ref (a0 26)), (0, .ref (a0 0)), (1, .int x1), (2, .int x2), (3, .int x3), (4, .int x4)]) hx hb dX6_garden_44 hl (by decide) rfl (fun ls hl => ?_)
        refine lv_iload hx hb dX6_garden_46 (lv_at hl 0 rfl) ?_
        refine lv_if_eq (tgt := 58) hx hb dX6_garden_48 (by decide) (fun c48 => ?_) (fun c48 => ?_)
        · replace hF := ip c48 hF
          refine lv_aload hx hb dX6_garden_58 (lv_at hl 1 rfl) ?_
          refine lv_iload_n hx hb dX6_garden_60 rfl (lv_at hl 5 rfl) ?_
          refine lv_iload hx hb dX6_garden_61 (lv_at hl 6 rfl) ?_
          obtain ⟨v63, h63, hF⟩ := bd hF
          refine cRe (va_runS (As := [.ref (a0 26), .int x3, .int x4]) (rest := []) ⟨hx, hb, hml, hown, hts⟩ (c_X4_firstFault l D cI cS (sa a0 26) (sb t0 26) x3 x4 v63 h63) (cwSA hts (TW.cons _) ls_X4_firstFault ml_RX6_67 ⟨rfl, rfl⟩ ⟨(Nat.le_of_ble_eq_true rfl), (Nat.le_of_ble_eq_true rfl)⟩) (pRS hK (hP.sub [26, 27] (su_C_S26 cI cS _ _))) rfl rfl hl.1 rfl (lv_room (Nat.le_of_ble_eq_true rfl)) dX6_garden_63 ⟨Nat.le_refl _, Nat.le_refl _⟩) ?_
          refine lv_istore (lv' := [(7, .int v63), (6, .int v41), (5, .ref (a0 26)), (0, .ref (a0 0)), (1, .int x1), (2, .int x2), (3, .int x3), (4, .int x4)]) hx hb dX6_garden_66 hl (by decide) rfl (fun ls hl => ?_)
          refine lv_iload hx hb dX6_garden_68 (lv_at hl 0 rfl) ?_
          refine lv_bipush (v := (-9)) hx hb dX6_garden_70 (by decide) ?_
          refine lv_icmp_eq (tgt := 85) hx hb dX6_garden_72 (by decide) (fun c72 => ?_) (fun c72 => ?_)
          · replace hF := ip c72 hF
            refine lv_aload_n hx hb dX6_garden_85 rfl (lv_at hl 3 rfl) ?_
            refine va_get (D := D) (ci := 5) (v := .ref (a0 1)) (C := RX6) (T := TX6) (N := 8) hx hb hts (fun w h => List.mem_cons_of_mem _ (inAX6 w h)) hown hK.1 hP 0 (at_C_0 cI cS _ _) rfl 0 (by decide) (hts _ (List.mem_cons_of_mem _ fl_RX6_12)) (fun _ h9 => h9) rfl dX6_garden_86 ?_
            refine lv_aload hx hb dX6_garden_89 (lv_at hl 2 rfl) ?_
            refine lv_iload_n hx hb dX6_garden_91 rfl (lv_at hl 6 rfl) ?_
            obtain ⟨v92, h92, hF⟩ := bd hF
            refine cRe (va_runS (As := [.ref (a0 26), .int x3]) (rest := [.ref (a0 1)]) ⟨hx, hb, hml, hown, hts⟩ (c_X4_lawOf l D cI cS (sa a0 26) (sb t0 26) x3 v92 h92) (cwSA hts (TW.cons _) ls_X4_lawOf ml_RX6_73 ⟨rfl, rfl⟩ ⟨(Nat.le_of_ble_eq_true rfl), (Nat.le_of_ble_eq_true rfl)⟩) (pRS hK (hP.sub [26, 27] (su_C_S26 cI cS _ _))) rfl rfl hl.1 rfl (lv_room (Nat.le_of_ble_eq_true rfl)) dX6_garden_92 ⟨Nat.le_refl _, Nat.le_refl _⟩) ?_
            obtain ⟨u95, h95, hF⟩ := bd hF
            refine cWv (ws' := pC cI cS a0 (gr t0 1 2 u95)) (va_runV (As := [.int v92]) (rest := []) ⟨hx, hb, hml, hown, hts⟩ (c_X1_fix l D cI cS (sa a0 1) (sb t0 1) v92 u95 h95) (cwVA hts (TW.cons _) lv_X1_fix ml_RX6_77 ⟨rfl, rfl⟩ ⟨(Nat.le_of_ble_eq_true rfl), (Nat.le_of_ble_eq_true rfl)⟩) (pWV hK (hP.sub [1, 2] (su_C_L1 cI cS _ _)) (hD.sub [1, 2] (by decide) (sm_C_L1 cI cS _ _)) (ci := 1) rfl rfl) rfl rfl hl.1 rfl (lv_room (Nat.le_of_ble_eq_true rfl)) dX6_garden_95 ⟨Nat.le_refl _, Nat.le_refl _⟩) hP hD hS [1, 2] (sm_C_L1 cI cS _ _) [.inl 0, .inr 0, .inr 1, .inl 3, .inl 4, .inl 5, .inl 6, .inl 7, .inl 8, .inl 9, .inl 10, .inl 11, .inl 12, .inl 13, .inl 14, .inl 15, .inl 16, .inl 17, .inl 18, .inl 19, .inl 20, .inl 21, .inl 22, .inl 23, .inl 24, .inl 25, .inl 26, .inl 27, .inl 28] (pn_C_L1 cI cS _ _ _) rfl (ad_C cI cS _ _ _) (fun H locs hP hD hS => ?_)
            refine lv_aload_n hx hb dX6_garden_98 rfl (lv_at hl 3 rfl) ?_
            refine va_get (D := D) (ci := 5) (v := .ref (a0 3)) (C := RX6) (T := TX6) (N := 8) hx hb hts (fun w h => List.mem_cons_of_mem _ (inAX6 w h)) hown hK.1 hP 0 (at_C_0 cI cS _ _) rfl 1 (by decide) (hts _ (List.mem_cons_of_mem _ fl_RX6_21)) (fun _ h9 => h9) rfl dX6_garden_99 ?_
            refine lv_aload hx hb dX6_garden_102 (lv_at hl 2 rfl) ?_
            refine lv_iload_n hx hb dX6_garden_104 rfl (lv_at hl 6 rfl) ?_
            refine lv_iload hx hb dX6_garden_105 (lv_at hl 7 rfl) ?_
            obtain ⟨u107, h107, hF⟩ := bd hF
            refine cWv (ws' := pC cI cS a0 (gr (gr t0 1 2 u95) 3 4 u107)) (va_runV (As := [.ref (a0 26), .int x3, .int x4]) (rest := []) ⟨hx, hb, hml, hown, hts⟩ (c_X0_begin l D cI cS (sa a0 3) (sa a0 26) (sb (gr t0 1 2 u95) 3) (sb (gr t0 1 2 u95) 26) x3 x4 u107 h107) (cwVA hts (TW.cons _) lv_X0_begin ml_RX6_81 ⟨rfl, rfl⟩ ⟨(Nat.le_of_ble_eq_true rfl), (Nat.le_of_ble_eq_true rfl)⟩) (pWV hK (hP.sub [3, 4, 5, 6, 26, 27] (su_C_B3_S26 cI cS _ _)) (hD.sub [3, 4, 5, 6, 26, 27] (by decide) (sm_C_B3_S26 cI cS _ _)) (ci := 0) rfl rfl) rfl rfl hl.1 rfl (lv_room (Nat.le_of_ble_eq_true rfl)) dX6_garden_107 ⟨Nat.le_refl _, Nat.le_refl _⟩) hP hD hS [3, 4, 5, 6, 26, 27] (sm_C_B3_S26 cI cS _ _) [.inl 0, .inl 1, .inl 2, .inr 0, .inr 1, .inr 2, .inr 3, .inl 7, .inl 8, .inl 9, .inl 10, .inl 11, .inl 12, .inl 13, .inl 14, .inl 15, .inl 16, .inl 17, .inl 18, .inl 19, .inl 20, .inl 21, .inl 22, .inl 23, .inl 24, .inl 25, .inr 4, .inr 5, .inl 28] (pn_C_B3_S26 cI cS _ _ _) rfl (ad_C cI cS _ _ _) (fun H locs hP hD hS => ?_)
            refine lv_aload_n hx hb dX6_garden_110 rfl (lv_at hl 3 rfl) ?_
            refine va_get (D := D) (ci := 5) (v := .ref (a0 16)) (C := RX6) (T := TX6) (N := 8) hx hb hts (fun w h => List.mem_cons_of_mem _ (inAX6 w h)) hown hK.1 hP 0 (at_C_0 cI cS _ _) rfl 4 (by decide) (hts _ (List.mem_cons_of_mem _ fl_RX6_38)) (fun _ h9 => h9) rfl dX6_garden_111 ?_
            obtain ⟨u114, h114, hF⟩ := bd hF
            refine cWv (ws' := pC cI cS a0 (gr (gr (gr t0 1 2 u95) 3 4 u107) 16 4 u114)) (va_runV (As := []) (rest := []) ⟨hx, hb, hml, hown, hts⟩ (c_X2_forgetAll l D cI cS (sa a0 16) (sb (gr (gr t0 1 2 u95) 3 4 u107) 16) u114 h114) (cwVA hts (TW.cons _) lv_X2_forgetAll ml_RX6_85 ⟨rfl, rfl⟩ ⟨(Nat.le_of_ble_eq_true rfl), (Nat.le_of_ble_eq_true rfl)⟩) (pWV hK (hP.sub [16, 17, 18, 19] (su_C_D16 cI cS _ _)) (hD.sub [16, 17, 18, 19] (by decide) (sm_C_D16 cI cS _ _)) (ci := 2) rfl rfl) rfl rfl hl.1 rfl (lv_room (Nat.le_of_ble_eq_true rfl)) dX6_garden_114 ⟨Nat.le_refl _, Nat.le_refl _⟩) hP hD hS [16, 17, 18, 19] (sm_C_D16 cI cS _ _) [.inl 0, .inl 1, .inl 2, .inl 3, .inl 4, .inl 5, .inl 6, .inl 7, .inl 8, .inl 9, .inl 10, .inl 11, .inl 12, .inl 13, .inl 14, .inl 15, .inr 0, .inr 1, .inr 2, .inr 3, .inl 20, .inl 21, .inl 22, .inl 23, .inl 24, .inl 25, .inl 26, .inl 27, .inl 28] (pn_C_D16 cI cS _ _ _) rfl (ad_C cI cS _ _ _) (fun H locs hP hD hS => ?_)
            refine lv_aload_n hx hb dX6_garden_117 rfl (lv_at hl 3 rfl) ?_
            refine lv_aload_n hx hb dX6_garden_118 rfl (lv_at hl 3 rfl) ?_
            refine va_get (D := D) (ci := 5) (v := .ref (a0 3)) (C := RX6) (T := TX6) (N := 8) hx hb hts (fun w h => List.mem_cons_of_mem _ (inAX6 w h)) hown hK.1 hP 0 (at_C_0 cI cS _ _) rfl 1 (by decide) (hts _ (List.mem_cons_of_mem _ fl_RX6_21)) (fun _ h9 => h9) rfl dX6_garden_119 ?_
            refine va_getN (D := D) (ci := 0) (v := .int (u107 0 0)) (C := RX0) (T := TX0) (N := 6) hx hb hts (fun w h => List.mem_cons_of_mem _ (inAX0 w h)) hown hK.1 hP 3 (at_C_3 cI cS _ _) rfl 0 (by decide) (nu_RX6_88 hK) (fun _ h9 => h9) rfl dX6_garden_122 ?_
            obtain ⟨v125, u125, h125, hF⟩ := bd2 hF
            refine cAe (ws' := pC cI cS a0 u125) (va_runV (As := [.int (u107 0 0)]) (rest := []) ⟨hx, hb, hml, hown, hts⟩ (c_X6_withoutFault l D cI cS a0 (gr (gr (gr t0 1 2 u95) 3 4 u107) 16 4 u114) (u107 0 0) v125 u125 h125) (cwVA hts (TW.cons _) lv_X6_withoutFault ml_RX6_53 ⟨rfl, rfl⟩ ⟨(Nat.le_of_ble_eq_true rfl), (Nat.le_of_ble_eq_true rfl)⟩) (pWV hK hP hD (ci := 5) rfl rfl) rfl rfl hl.1 rfl (lv_room (Nat.le_of_ble_eq_true rfl)) dX6_garden_125 ⟨Nat.le_refl _, Nat.le_refl _⟩) hD hS (ad_C cI cS _ _ _) (fun H locs hP hD hS => ?_)
            exact W.iret hx hb hr (fun t ht hW => ⟨⟨_, (), rfl, (Prod.mk.inj (Option.some.inj hF)).1, by show va_P _ _ _ t.heap; rw [ht, ← (Prod.mk.inj (Option.some.inj hF)).2]; exact hP⟩, hS.F ht⟩) hS.2.2 dX6_garden_128
          · replace hF := iq c72 hF
            refine lv_aload_n hx hb dX6_garden_75 rfl (lv_at hl 3 rfl) ?_
            refine lv_bipush (v := (-100)) hx hb dX6_garden_76 (by decide) ?_
            refine lv_iload hx hb dX6_garden_78 (lv_at hl 0 rfl) ?_
            refine lv_isub hx hb dX6_garden_80 ?_
            obtain ⟨v81, u81, h81, hF⟩ := bd2 hF
            refine cAe (ws' := pC cI cS a0 u81) (va_runV (As := [.int ((-100) - v63)]) (rest := []) ⟨hx, hb, hml, hown, hts⟩ (c_X6_withoutFault l D cI cS a0 t0 ((-100) - v63) v81 u81 h81) (cwVA hts (TW.cons _) lv_X6_withoutFault ml_RX6_53 ⟨rfl, rfl⟩ ⟨(Nat.le_of_ble_eq_true rfl), (Nat.le_of_ble_eq_true rfl)⟩) (pWV hK hP hD (ci := 5) rfl rfl) rfl rfl hl.1 rfl (lv_room (Nat.le_of_ble_eq_true rfl)) dX6_garden_81 ⟨Nat.le_refl _, Nat.le_refl _⟩) hD hS (ad_C cI cS _ _ _) (fun H locs hP hD hS => ?_)
            exact W.iret hx hb hr (fun t ht hW => ⟨⟨_, (), rfl, (Prod.mk.inj (Option.some.inj hF)).1, by show va_P _ _ _ t.heap; rw [ht, ← (Prod.mk.inj (Option.some.inj hF)).2]; exact hP⟩, hS.F ht⟩) hS.2.2 dX6_garden_84
        · replace hF := iq c48 hF
          refine lv_aload_n hx hb dX6_garden_51 rfl (lv_at hl 2 rfl) ?_
          refine lv_iload hx hb dX6_garden_52 (lv_at hl 0 rfl) ?_
          obtain ⟨v54, u54, h54, hF⟩ := bd2 hF
          refine cAe (ws' := pC cI cS a0 u54) (va_runV (As := [.int v41]) (rest := []) ⟨hx, hb, hml, hown, hts⟩ (c_X6_withFault l D cI cS a0 t0 v41 v54 u54 h54) (cwVA hts (TW.cons _) lv_X6_withFault ml_RX6_64 ⟨rfl, rfl⟩ ⟨(Nat.le_of_ble_eq_true rfl), (Nat.le_of_ble_eq_true rfl)⟩) (pWV hK hP hD (ci := 5) rfl rfl) rfl rfl hl.1 rfl (lv_room (Nat.le_of_ble_eq_true rfl)) dX6_garden_54 ⟨Nat.le_refl _, Nat.le_refl _⟩) hD hS (ad_C cI cS _ _ _) (fun H locs hP hD hS => ?_)
          exact W.iret hx hb hr (fun t ht hW => ⟨⟨_, (), rfl, (Prod.mk.inj (Option.some.inj hF)).1, by show va_P _ _ _ t.heap; rw [ht, ← (Prod.mk.inj (Option.some.inj hF)).2]; exact hP⟩, hS.F ht⟩) hS.2.2 dX6_garden_57
    · replace hF := ip c17 hF
      refine lv_aload_n hx hb dX6_garden_20 rfl (lv_at hl 0 rfl) ?_
      refine lv_bipush (v := (-2)) hx hb dX6_garden_21 (by decide) ?_
      obtain ⟨v23, u23, h23, hF⟩ := bd2 hF
      refine cAe (ws' := pC cI cS a0 u23) (va_runV (As := [.int (-2)]) (rest := []) ⟨hx, hb, hml, hown, hts⟩ (c_X6_withoutFault l D cI cS a0 t0 (-2) v23 u23 h23) (cwVA hts (TW.cons _) lv_X6_withoutFault ml_RX6_53 ⟨rfl, rfl⟩ ⟨(Nat.le_of_ble_eq_true rfl), (Nat.le_of_ble_eq_true rfl)⟩) (pWV hK hP hD (ci := 5) rfl rfl) rfl rfl hl.1 rfl (lv_room (Nat.le_of_ble_eq_true rfl)) dX6_garden_23 ⟨Nat.le_refl _, Nat.le_refl _⟩) hD hS (ad_C cI cS _ _ _) (fun H locs hP hD hS => ?_)
      exact W.iret hx hb hr (fun t ht hW => ⟨⟨_, (), rfl, (Prod.mk.inj (Option.some.inj hF)).1, by show va_P _ _ _ t.heap; rw [ht, ← (Prod.mk.inj (Option.some.inj hF)).2]; exact hP⟩, hS.F ht⟩) hS.2.2 dX6_garden_26
  · replace hF := ip c4 hF
    refine lv_aload_n hx hb dX6_garden_7 rfl (lv_at hl 0 rfl) ?_
    refine lv_iconst (v := (-1)) hx hb dX6_garden_8 (by decide) ?_
    obtain ⟨v9, u9, h9, hF⟩ := bd2 hF
    refine cAe (ws' := pC cI cS a0 u9) (va_runV (As := [.int (-1)]) (rest := []) ⟨hx, hb, hml, hown, hts⟩ (c_X6_withoutFault l D cI cS a0 t0 (-1) v9 u9 h9) (cwVA hts (TW.cons _) lv_X6_withoutFault ml_RX6_53 ⟨rfl, rfl⟩ ⟨(Nat.le_of_ble_eq_true rfl), (Nat.le_of_ble_eq_true rfl)⟩) (pWV hK hP hD (ci := 5) rfl rfl) rfl rfl hl.1 rfl (lv_room (Nat.le_of_ble_eq_true rfl)) dX6_garden_9 ⟨Nat.le_refl _, Nat.le_refl _⟩) hD hS (ad_C cI cS _ _ _) (fun H locs hP hD hS => ?_)
    exact W.iret hx hb hr (fun t ht hW => ⟨⟨_, (), rfl, (Prod.mk.inj (Option.some.inj hF)).1, by show va_P _ _ _ t.heap; rw [ht, ← (Prod.mk.inj (Option.some.inj hF)).2]; exact hP⟩, hS.F ht⟩) hS.2.2 dX6_garden_12
noncomputable def F_X6_ofBlock (t0 : ST) (x1 : Int32) (x2 : Int32) : Option Int32 :=
  (F_X0_has (sb t0 3) x1).bind fun v5 =>
  if v5 = 0 then
    some (-1)
  else
  if x2 = 0 then
    (rd 6 (t0 4) x1).bind fun v60 =>
    some v60
  else
  if x2 = 1 then
    (rd 6 (t0 5) x1).bind fun v70 =>
    some v70
  else
  if x2 = 2 then
    (rd 6 (t0 6) x1).bind fun v80 =>
    some v80
  else
  if x2 = 3 then
    (F_X0_stepsADay (sb t0 3) x1).bind fun v87 =>
    some v87
  else
  if x2 = 4 then
    (F_X0_isLookedAt (sb t0 3) x1).bind fun v96 =>
    if v96 = 0 then
      some 0
    else
    some 1
  else
  if x2 = 5 then
    (rd 6 (t0 5) x1).bind fun v116 =>
    (F_J6_bitCount_0f7a4 v116).bind fun v117 =>
    some v117
  else
  some (-2)
abbrev rm_X6_ofBlock : Room := { frames := 1, cells := 0, slots := 0, locals := 21 }
set_option maxHeartbeats 4000000 in
set_option maxRecDepth 100000 in
theorem c_X6_ofBlock (l : Launch) (D : va_G) (cI cS : ClassId) (a0 : Nat → Nat) (t0 : ST) (x1 : Int32) (x2 : Int32) (r : Int32) (hF : F_X6_ofBlock t0 x1 x2 = some r) : Met l yX6_ofBlock (Cond.code yX6_ofBlock cX6_ofBlock 3 (some .int) :: ALL) rm_X6_ofBlock (PreR D cI cS [.ref (a0 0), .int x1, .int x2] (pC cI cS a0 t0)) (vp_Si (fun x => x = r)) 0 0 (fun _ => False) := by
  refine mR l D cI cS (by decide) (Nat.le_of_ble_eq_true rfl) ?_
  intro p e s m below meth c ls hx hb hr hml hown hts hlocks hP hK hl
  have hown : s.vm.findClass RX6 = some m.cls := hown
  have hl : lv_has ls 3 [(0, .ref (a0 0)), (1, .int x1), (2, .int x2)] := hl
  unfold F_X6_ofBlock at hF
  refine lv_aload_n hx hb dX6_ofBlock_0 rfl (lv_at hl 0 rfl) ?_
  refine va_get (D := D) (ci := 5) (v := .ref (a0 3)) (C := RX6) (T := TX6) (N := 8) hx hb hts (fun w h => List.mem_cons_of_mem _ (inAX6 w h)) hown hK.1 hP 0 (at_C_0 cI cS _ _) rfl 1 (by decide) (hts _ (List.mem_cons_of_mem _ fl_RX6_21)) (fun _ h9 => h9) rfl dX6_ofBlock_1 ?_
  refine lv_iload_n hx hb dX6_ofBlock_4 rfl (lv_at hl 1 rfl) ?_
  obtain ⟨v5, h5, hF⟩ := bd hF
  refine cRb (va_runV (As := [.int x1]) (rest := []) ⟨hx, hb, hml, hown, hts⟩ (c_X0_has l D cI cS (sa a0 3) (sb t0 3) x1 v5 h5) (cwVA hts (TW.cons _) lv_X0_has ml_RX6_92 ⟨rfl, rfl⟩ ⟨(Nat.le_of_ble_eq_true rfl), (Nat.le_of_ble_eq_true rfl)⟩) (pRV hK (hP.sub [3, 4, 5, 6] (su_C_B3 cI cS _ _)) (ci := 0) rfl rfl) rfl rfl hl.1 rfl (lv_room (Nat.le_of_ble_eq_true rfl)) dX6_ofBlock_5 ⟨Nat.le_refl _, Nat.le_refl _⟩) (fun b5 => ?_)
  refine lv_if_ne (tgt := 13) hx hb dX6_ofBlock_8 (by decide) (fun c8 => ?_) (fun c8 => ?_)
  · replace hF := iq c8 hF
    refine lv_iload_n hx hb dX6_ofBlock_13 rfl (lv_at hl 2 rfl) ?_
    by_cases c14_0 : x2 = 0
    · replace hF := ip c14_0 hF
      refine lv_tableIn (off := 38) (tgt := 52) hx hb dX6_ofBlock_14 (by rw [c14_0]; decide) (by rw [c14_0]; decide) (by rw [c14_0]; decide) (by decide) ?_
      refine lv_aload_n hx hb dX6_ofBlock_52 rfl (lv_at hl 0 rfl) ?_
      refine va_get (D := D) (ci := 5) (v := .ref (a0 3)) (C := RX6) (T := TX6) (N := 8) hx hb hts (fun w h => List.mem_cons_of_mem _ (inAX6 w h)) hown hK.1 hP 0 (at_C_0 cI cS _ _) rfl 1 (by decide) (hts _ (List.mem_cons_of_mem _ fl_RX6_21)) (fun _ h9 => h9) rfl dX6_ofBlock_53 ?_
      refine va_getN (D := D) (ci := 0) (v := .ref (a0 4)) (C := RX0) (T := TX0) (N := 6) hx hb hts (fun w h => List.mem_cons_of_mem _ (inAX0 w h)) hown hK.1 hP 3 (at_C_3 cI cS _ _) rfl 3 (by decide) (nu_RX6_95 hK) (fun _ h9 => h9) rfl dX6_ofBlock_56 ?_
      refine lv_iload_n hx hb dX6_ofBlock_59 rfl (lv_at hl 1 rfl) ?_
      obtain ⟨v60, h60, hF⟩ := bd hF
      refine rI hx hb hK.1 hP 4 0 (at_C_4 cI cS _ _) rfl h60 dX6_ofBlock_60 ?_
      exact W.iret hx hb hr (fun t ht hW => ⟨_, rfl, (Option.some.inj hF), ht⟩) (fun _ h => nomatch h) dX6_ofBlock_61
    replace hF := iq c14_0 hF
    by_cases c14_1 : x2 = 1
    · replace hF := ip c14_1 hF
      refine lv_tableIn (off := 48) (tgt := 62) hx hb dX6_ofBlock_14 (by rw [c14_1]; decide) (by rw [c14_1]; decide) (by rw [c14_1]; decide) (by decide) ?_
      refine lv_aload_n hx hb dX6_ofBlock_62 rfl (lv_at hl 0 rfl) ?_
      refine va_get (D := D) (ci := 5) (v := .ref (a0 3)) (C := RX6) (T := TX6) (N := 8) hx hb hts (fun w h => List.mem_cons_of_mem _ (inAX6 w h)) hown hK.1 hP 0 (at_C_0 cI cS _ _) rfl 1 (by decide) (hts _ (List.mem_cons_of_mem _ fl_RX6_21)) (fun _ h9 => h9) rfl dX6_ofBlock_63 ?_
      refine va_getN (D := D) (ci := 0) (v := .ref (a0 5)) (C := RX0) (T := TX0) (N := 6) hx hb hts (fun w h => List.mem_cons_of_mem _ (inAX0 w h)) hown hK.1 hP 3 (at_C_3 cI cS _ _) rfl 4 (by decide) (nu_RX6_99 hK) (fun _ h9 => h9) rfl dX6_ofBlock_66 ?_
      refine lv_iload_n hx hb dX6_ofBlock_69 rfl (lv_at hl 1 rfl) ?_
      obtain ⟨v70, h70, hF⟩ := bd hF
      refine rI hx hb hK.1 hP 5 0 (at_C_5 cI cS _ _) rfl h70 dX6_ofBlock_70 ?_
      exact W.iret hx hb hr (fun t ht hW => ⟨_, rfl, (Option.some.inj hF), ht⟩) (fun _ h => nomatch h) dX6_ofBlock_71
    replace hF := iq c14_1 hF
    by_cases c14_2 : x2 = 2
    · replace hF := ip c14_2 hF
      refine lv_tableIn (off := 58) (tgt := 72) hx hb dX6_ofBlock_14 (by rw [c14_2]; decide) (by rw [c14_2]; decide) (by rw [c14_2]; decide) (by decide) ?_
      refine lv_aload_n hx hb dX6_ofBlock_72 rfl (lv_at hl 0 rfl) ?_
      refine va_get (D := D) (ci := 5) (v := .ref (a0 3)) (C := RX6) (T := TX6) (N := 8) hx hb hts (fun w h => List.mem_cons_of_mem _ (inAX6 w h)) hown hK.1 hP 0 (at_C_0 cI cS _ _) rfl 1 (by decide) (hts _ (List.mem_cons_of_mem _ fl_RX6_21)) (fun _ h9 => h9) rfl dX6_ofBlock_73 ?_
      refine va_getN (D := D) (ci := 0) (v := .ref (a0 6)) (C := RX0) (T := TX0) (N := 6) hx hb hts (fun w h => List.mem_cons_of_mem _ (inAX0 w h)) hown hK.1 hP 3 (at_C_3 cI cS _ _) rfl 5 (by decide) (nu_RX6_102 hK) (fun _ h9 => h9) rfl dX6_ofBlock_76 ?_
      refine lv_iload_n hx hb dX6_ofBlock_79 rfl (lv_at hl 1 rfl) ?_
      obtain ⟨v80, h80, hF⟩ := bd hF
      refine rI hx hb hK.1 hP 6 0 (at_C_6 cI cS _ _) rfl h80 dX6_ofBlock_80 ?_
      exact W.iret hx hb hr (fun t ht hW => ⟨_, rfl, (Option.some.inj hF), ht⟩) (fun _ h => nomatch h) dX6_ofBlock_81
    replace hF := iq c14_2 hF
    by_cases c14_3 : x2 = 3
    · replace hF := ip c14_3 hF
      refine lv_tableIn (off := 68) (tgt := 82) hx hb dX6_ofBlock_14 (by rw [c14_3]; decide) (by rw [c14_3]; decide) (by rw [c14_3]; decide) (by decide) ?_
      refine lv_aload_n hx hb dX6_ofBlock_82 rfl (lv_at hl 0 rfl) ?_
      refine va_get (D := D) (ci := 5) (v := .ref (a0 3)) (C := RX6) (T := TX6) (N := 8) hx hb hts (fun w h => List.mem_cons_of_mem _ (inAX6 w h)) hown hK.1 hP 0 (at_C_0 cI cS _ _) rfl 1 (by decide) (hts _ (List.mem_cons_of_mem _ fl_RX6_21)) (fun _ h9 => h9) rfl dX6_ofBlock_83 ?_
      refine lv_iload_n hx hb dX6_ofBlock_86 rfl (lv_at hl 1 rfl) ?_
      obtain ⟨v87, h87, hF⟩ := bd hF
      refine cRe (va_runV (As := [.int x1]) (rest := []) ⟨hx, hb, hml, hown, hts⟩ (c_X0_stepsADay l D cI cS (sa a0 3) (sb t0 3) x1 v87 h87) (cwVA hts (TW.cons _) lv_X0_stepsADay ml_RX6_105 ⟨rfl, rfl⟩ ⟨(Nat.le_of_ble_eq_true rfl), (Nat.le_of_ble_eq_true rfl)⟩) (pRV hK (hP.sub [3, 4, 5, 6] (su_C_B3 cI cS _ _)) (ci := 0) rfl rfl) rfl rfl hl.1 rfl (lv_room (Nat.le_of_ble_eq_true rfl)) dX6_ofBlock_87 ⟨Nat.le_refl _, Nat.le_refl _⟩) ?_
      exact W.iret hx hb hr (fun t ht hW => ⟨_, rfl, (Option.some.inj hF), ht⟩) (fun _ h => nomatch h) dX6_ofBlock_90
    replace hF := iq c14_3 hF
    by_cases c14_4 : x2 = 4
    · replace hF := ip c14_4 hF
      refine lv_tableIn (off := 77) (tgt := 91) hx hb dX6_ofBlock_14 (by rw [c14_4]; decide) (by rw [c14_4]; decide) (by rw [c14_4]; decide) (by decide) ?_
      refine lv_aload_n hx hb dX6_ofBlock_91 rfl (lv_at hl 0 rfl) ?_
      refine va_get (D := D) (ci := 5) (v := .ref (a0 3)) (C := RX6) (T := TX6) (N := 8) hx hb hts (fun w h => List.mem_cons_of_mem _ (inAX6 w h)) hown hK.1 hP 0 (at_C_0 cI cS _ _) rfl 1 (by decide) (hts _ (List.mem_cons_of_mem _ fl_RX6_21)) (fun _ h9 => h9) rfl dX6_ofBlock_92 ?_
      refine lv_iload_n hx hb dX6_ofBlock_95 rfl (lv_at hl 1 rfl) ?_
      obtain ⟨v96, h96, hF⟩ := bd hF
      refine cRb (va_runV (As := [.int x1]) (rest := []) ⟨hx, hb, hml, hown, hts⟩ (c_X0_isLookedAt l D cI cS (sa a0 3) (sb t0 3) x1 v96 h96) (cwVA hts (TW.cons _) lv_X0_isLookedAt ml_RX6_108 ⟨rfl, rfl⟩ ⟨(Nat.le_of_ble_eq_true rfl), (Nat.le_of_ble_eq_true rfl)⟩) (pRV hK (hP.sub [3, 4, 5, 6] (su_C_B3 cI cS _ _)) (ci := 0) rfl rfl) rfl rfl hl.1 rfl (lv_room (Nat.le_of_ble_eq_true rfl)) dX6_ofBlock_96 ⟨Nat.le_refl _, Nat.le_refl _⟩) (fun b96 => ?_)
      refine lv_if_eq (tgt := 106) hx hb dX6_ofBlock_99 (by decide) (fun c99 => ?_) (fun c99 => ?_)
      · replace hF := ip c99 hF
        refine lv_iconst (v := 0) hx hb dX6_ofBlock_106 (by decide) ?_
        exact W.iret hx hb hr (fun t ht hW => ⟨_, rfl, (Option.some.inj hF), ht⟩) (fun _ h => nomatch h) dX6_ofBlock_107
      · replace hF := iq c99 hF
        refine lv_iconst (v := 1) hx hb dX6_ofBlock_102 (by decide) ?_
        refine lv_goto (tgt := 107) hx hb dX6_ofBlock_103 (by decide) ?_
        exact W.iret hx hb hr (fun t ht hW => ⟨_, rfl, (Option.some.inj hF), ht⟩) (fun _ h => nomatch h) dX6_ofBlock_107
    replace hF := iq c14_4 hF
    by_cases c14_5 : x2 = 5
    · replace hF := ip c14_5 hF
      refine lv_tableIn (off := 94) (tgt := 108) hx hb dX6_ofBlock_14 (by rw [c14_5]; decide) (by rw [c14_5]; decide) (by rw [c14_5]; decide) (by decide) ?_
      refine lv_aload_n hx hb dX6_ofBlock_108 rfl (lv_at hl 0 rfl) ?_
      refine va_get (D := D) (ci := 5) (v := .ref (a0 3)) (C := RX6) (T := TX6) (N := 8) hx hb hts (fun w h => List.mem_cons_of_mem _ (inAX6 w h)) hown hK.1 hP 0 (at_C_0 cI cS _ _) rfl 1 (by decide) (hts _ (List.mem_cons_of_mem _ fl_RX6_21)) (fun _ h9 => h9) rfl dX6_ofBlock_109 ?_
      refine va_getN (D := D) (ci := 0) (v := .ref (a0 5)) (C := RX0) (T := TX0) (N := 6) hx hb hts (fun w h => List.mem_cons_of_mem _ (inAX0 w h)) hown hK.1 hP 3 (at_C_3 cI cS _ _) rfl 4 (by decide) (nu_RX6_99 hK) (fun _ h9 => h9) rfl dX6_ofBlock_112 ?_
      refine lv_iload_n hx hb dX6_ofBlock_115 rfl (lv_at hl 1 rfl) ?_
      obtain ⟨v116, h116, hF⟩ := bd hF
      refine rI hx hb hK.1 hP 5 0 (at_C_5 cI cS _ _) rfl h116 dX6_ofBlock_116 ?_
      obtain ⟨v117, h117, hF⟩ := bd hF
      refine cRe (va_runS (As := [.int v116]) (rest := []) ⟨hx, hb, hml, hown, hts⟩ (c_J6_bitCount_0f7a4 l D cI cS v116 v117 h117) (cwSA hts (TW.cons _) ls_J6_bitCount_0f7a4 ml_RX6_111 ⟨rfl, rfl⟩ ⟨(Nat.le_of_ble_eq_true rfl), (Nat.le_of_ble_eq_true rfl)⟩) (pRS hK pnil) rfl rfl hl.1 rfl (lv_room (Nat.le_of_ble_eq_true rfl)) dX6_ofBlock_117 ⟨Nat.le_refl _, Nat.le_refl _⟩) ?_
      exact W.iret hx hb hr (fun t ht hW => ⟨_, rfl, (Option.some.inj hF), ht⟩) (fun _ h => nomatch h) dX6_ofBlock_120
    replace hF := iq c14_5 hF
    refine lv_tableOut (tgt := 121) hx hb dX6_ofBlock_14 (by have g0 := ne_toInt c14_0 (k := 0) rfl; have g1 := ne_toInt c14_1 (k := 1) rfl; have g2 := ne_toInt c14_2 (k := 2) rfl; have g3 := ne_toInt c14_3 (k := 3) rfl; have g4 := ne_toInt c14_4 (k := 4) rfl; have g5 := ne_toInt c14_5 (k := 5) rfl; omega) (by decide) ?_
    refine lv_bipush (v := (-2)) hx hb dX6_ofBlock_121 (by decide) ?_
    exact W.iret hx hb hr (fun t ht hW => ⟨_, rfl, (Option.some.inj hF), ht⟩) (fun _ h => nomatch h) dX6_ofBlock_123
  · replace hF := ip c8 hF
    refine lv_iconst (v := (-1)) hx hb dX6_ofBlock_11 (by decide) ?_
    exact W.iret hx hb hr (fun t ht hW => ⟨_, rfl, (Option.some.inj hF), ht⟩) (fun _ h => nomatch h) dX6_ofBlock_12
noncomputable def F_X6_hasGarden (t0 : ST) : Option Int32 :=
  if (t0 3 0) ≤ 0 then
    some 0
  else
  some 1
abbrev rm_X6_hasGarden : Room := { frames := 0, cells := 0, slots := 0, locals := 0 }
set_option maxHeartbeats 4000000 in
set_option maxRecDepth 100000 in
theorem c_X6_hasGarden (l : Launch) (D : va_G) (cI cS : ClassId) (a0 : Nat → Nat) (t0 : ST) (r : Int32) (hF : F_X6_hasGarden t0 = some r) : Met l yX6_hasGarden (Cond.code yX6_hasGarden cX6_hasGarden 1 (some .boolean) :: ALL) rm_X6_hasGarden (PreR D cI cS [.ref (a0 0)] (pC cI cS a0 t0)) (vp_Si (fun x => x = r ∧ (x = 0 ∨ x = 1))) 0 0 (fun _ => False) := by
  refine mR l D cI cS (by decide) (Nat.le_of_ble_eq_true rfl) ?_
  intro p e s m below meth c ls hx hb hr hml hown hts hlocks hP hK hl
  have hown : s.vm.findClass RX6 = some m.cls := hown
  have hl : lv_has ls 1 [(0, .ref (a0 0))] := hl
  unfold F_X6_hasGarden at hF
  refine lv_aload_n hx hb dX6_hasGarden_0 rfl (lv_at hl 0 rfl) ?_
  refine va_get (D := D) (ci := 5) (v := .ref (a0 3)) (C := RX6) (T := TX6) (N := 8) hx hb hts (fun w h => List.mem_cons_of_mem _ (inAX6 w h)) hown hK.1 hP 0 (at_C_0 cI cS _ _) rfl 1 (by decide) (hts _ (List.mem_cons_of_mem _ fl_RX6_21)) (fun _ h9 => h9) rfl dX6_hasGarden_1 ?_
  refine va_getN (D := D) (ci := 0) (v := .int (t0 3 0)) (C := RX0) (T := TX0) (N := 6) hx hb hts (fun w h => List.mem_cons_of_mem _ (inAX0 w h)) hown hK.1 hP 3 (at_C_3 cI cS _ _) rfl 0 (by decide) (nu_RX6_88 hK) (fun _ h9 => h9) rfl dX6_hasGarden_4 ?_
  refine lv_if_le (tgt := 14) hx hb dX6_hasGarden_7 (by decide) (fun c7 => ?_) (fun c7 => ?_)
  · replace hF := ip c7 hF
    refine lv_iconst (v := 0) hx hb dX6_hasGarden_14 (by decide) ?_
    exact W.zret hx hb hr rfl (fun t ht hW => ⟨_, rfl, ⟨(Option.some.inj hF), Or.inl rfl⟩, ht⟩) (fun _ h => nomatch h) dX6_hasGarden_15
  · replace hF := iq c7 hF
    refine lv_iconst (v := 1) hx hb dX6_hasGarden_10 (by decide) ?_
    refine lv_goto (tgt := 15) hx hb dX6_hasGarden_11 (by decide) ?_
    exact W.zret hx hb hr rfl (fun t ht hW => ⟨_, rfl, ⟨(Option.some.inj hF), Or.inr rfl⟩, ht⟩) (fun _ h => nomatch h) dX6_hasGarden_15
noncomputable def F_X6_refusalOfShape (t0 : ST) (x1 : Int32) : Option Int32 :=
  (F_X6_isShape x1).bind fun v1 =>
  if v1 = 0 then
    some (-2)
  else
  (F_X6_hasGarden t0).bind fun v11 =>
  if v11 = 0 then
    some (-3)
  else
  some 0
abbrev rm_X6_refusalOfShape : Room := { frames := 1, cells := 0, slots := 0, locals := 20 }
set_option maxHeartbeats 4000000 in
set_option maxRecDepth 100000 in
theorem c_X6_refusalOfShape (l : Launch) (D : va_G) (cI cS : ClassId) (a0 : Nat → Nat) (t0 : ST) (x1 : Int32) (r : Int32) (hF : F_X6_refusalOfShape t0 x1 = some r) : Met l yX6_refusalOfShape (Cond.code yX6_refusalOfShape cX6_refusalOfShape 2 (some .int) :: ALL) rm_X6_refusalOfShape (PreR D cI cS [.ref (a0 0), .int x1] (pC cI cS a0 t0)) (vp_Si (fun x => x = r)) 0 0 (fun _ => False) := by
  refine mR l D cI cS (by decide) (Nat.le_of_ble_eq_true rfl) ?_
  intro p e s m below meth c ls hx hb hr hml hown hts hlocks hP hK hl
  have hown : s.vm.findClass RX6 = some m.cls := hown
  have hl : lv_has ls 2 [(0, .ref (a0 0)), (1, .int x1)] := hl
  unfold F_X6_refusalOfShape at hF
  refine lv_iload_n hx hb dX6_refusalOfShape_0 rfl (lv_at hl 1 rfl) ?_
  obtain ⟨v1, h1, hF⟩ := bd hF
  refine cRb (va_runS (As := [.int x1]) (rest := []) ⟨hx, hb, hml, hown, hts⟩ (c_X6_isShape l D cI cS x1 v1 h1) (cwSA hts (TW.cons _) ls_X6_isShape ml_RX6_168 ⟨rfl, rfl⟩ ⟨(Nat.le_of_ble_eq_true rfl), (Nat.le_of_ble_eq_true rfl)⟩) (pRS hK pnil) rfl rfl hl.1 rfl (lv_room (Nat.le_of_ble_eq_true rfl)) dX6_refusalOfShape_1 ⟨Nat.le_refl _, Nat.le_refl _⟩) (fun b1 => ?_)
  refine lv_if_ne (tgt := 10) hx hb dX6_refusalOfShape_4 (by decide) (fun c4 => ?_) (fun c4 => ?_)
  · replace hF := iq c4 hF
    refine lv_aload_n hx hb dX6_refusalOfShape_10 rfl (lv_at hl 0 rfl) ?_
    obtain ⟨v11, h11, hF⟩ := bd hF
    refine cRb (va_runV (As := []) (rest := []) ⟨hx, hb, hml, hown, hts⟩ (c_X6_hasGarden l D cI cS a0 t0 v11 h11) (cwVA hts (TW.cons _) lv_X6_hasGarden ml_RX6_123 ⟨rfl, rfl⟩ ⟨(Nat.le_of_ble_eq_true rfl), (Nat.le_of_ble_eq_true rfl)⟩) (pRV hK hP (ci := 5) rfl rfl) rfl rfl hl.1 rfl (lv_room (Nat.le_of_ble_eq_true rfl)) dX6_refusalOfShape_11 ⟨Nat.le_refl _, Nat.le_refl _⟩) (fun b11 => ?_)
    refine lv_if_eq (tgt := 21) hx hb dX6_refusalOfShape_14 (by decide) (fun c14 => ?_) (fun c14 => ?_)
    · replace hF := ip c14 hF
      refine lv_bipush (v := (-3)) hx hb dX6_refusalOfShape_21 (by decide) ?_
      exact W.iret hx hb hr (fun t ht hW => ⟨_, rfl, (Option.some.inj hF), ht⟩) (fun _ h => nomatch h) dX6_refusalOfShape_23
    · replace hF := iq c14 hF
      refine lv_iconst (v := 0) hx hb dX6_refusalOfShape_17 (by decide) ?_
      refine lv_goto (tgt := 23) hx hb dX6_refusalOfShape_18 (by decide) ?_
      exact W.iret hx hb hr (fun t ht hW => ⟨_, rfl, (Option.some.inj hF), ht⟩) (fun _ h => nomatch h) dX6_refusalOfShape_23
  · replace hF := ip c4 hF
    refine lv_bipush (v := (-2)) hx hb dX6_refusalOfShape_7 (by decide) ?_
    exact W.iret hx hb hr (fun t ht hW => ⟨_, rfl, (Option.some.inj hF), ht⟩) (fun _ h => nomatch h) dX6_refusalOfShape_9
noncomputable def F_X6_becomes (t0 : ST) (x1 : Int32) : Option Int32 :=
  (F_X6_refusalOfShape t0 x1).bind fun v2 =>
  if v2 = 0 then
    (F_X1_after (sb t0 1) x1 1).bind fun v20 =>
    some v20
  else
  some v2
abbrev rm_X6_becomes : Room := { frames := 2, cells := 0, slots := 0, locals := 42 }
set_option maxHeartbeats 4000000 in
set_option maxRecDepth 100000 in
theorem c_X6_becomes (l : Launch) (D : va_G) (cI cS : ClassId) (a0 : Nat → Nat) (t0 : ST) (x1 : Int32) (r : Int32) (hF : F_X6_becomes t0 x1 = some r) : Met l yX6_becomes (Cond.code yX6_becomes cX6_becomes 3 (some .int) :: ALL) rm_X6_becomes (PreR D cI cS [.ref (a0 0), .int x1] (pC cI cS a0 t0)) (vp_Si (fun x => x = r)) 0 0 (fun _ => False) := by
  refine mR l D cI cS (by decide) (Nat.le_of_ble_eq_true rfl) ?_
  intro p e s m below meth c ls hx hb hr hml hown hts hlocks hP hK hl
  have hown : s.vm.findClass RX6 = some m.cls := hown
  have hl : lv_has ls 3 [(0, .ref (a0 0)), (1, .int x1)] := hl
  unfold F_X6_becomes at hF
  refine lv_aload_n hx hb dX6_becomes_0 rfl (lv_at hl 0 rfl) ?_
  refine lv_iload_n hx hb dX6_becomes_1 rfl (lv_at hl 1 rfl) ?_
  obtain ⟨v2, h2, hF⟩ := bd hF
  refine cRe (va_runV (As := [.int x1]) (rest := []) ⟨hx, hb, hml, hown, hts⟩ (c_X6_refusalOfShape l D cI cS a0 t0 x1 v2 h2) (cwVA hts (TW.cons _) lv_X6_refusalOfShape ml_RX6_116 ⟨rfl, rfl⟩ ⟨(Nat.le_of_ble_eq_true rfl), (Nat.le_of_ble_eq_true rfl)⟩) (pRV hK hP (ci := 5) rfl rfl) rfl rfl hl.1 rfl (lv_room (Nat.le_of_ble_eq_true rfl)) dX6_becomes_2 ⟨Nat.le_refl _, Nat.le_refl _⟩) ?_
  refine lv_istore_n (lv' := [(2, .int v2), (0, .ref (a0 0)), (1, .int x1)]) hx hb dX6_becomes_5 rfl hl (by decide) rfl (fun ls hl => ?_)
  refine lv_iload_n hx hb dX6_becomes_6 rfl (lv_at hl 0 rfl) ?_
  refine lv_if_eq (tgt := 14) hx hb dX6_becomes_7 (by decide) (fun c7 => ?_) (fun c7 => ?_)
  · replace hF := ip c7 hF
    refine lv_aload_n hx hb dX6_becomes_14 rfl (lv_at hl 1 rfl) ?_
    refine va_get (D := D) (ci := 5) (v := .ref (a0 1)) (C := RX6) (T := TX6) (N := 8) hx hb hts (fun w h => List.mem_cons_of_mem _ (inAX6 w h)) hown hK.1 hP 0 (at_C_0 cI cS _ _) rfl 0 (by decide) (hts _ (List.mem_cons_of_mem _ fl_RX6_12)) (fun _ h9 => h9) rfl dX6_becomes_15 ?_
    refine lv_iload_n hx hb dX6_becomes_18 rfl (lv_at hl 2 rfl) ?_
    refine lv_iconst (v := 1) hx hb dX6_becomes_19 (by decide) ?_
    obtain ⟨v20, h20, hF⟩ := bd hF
    refine cRe (va_runV (As := [.int x1, .int 1]) (rest := []) ⟨hx, hb, hml, hown, hts⟩ (c_X1_after l D cI cS (sa a0 1) (sb t0 1) x1 1 v20 h20) (cwVA hts (TW.cons _) lv_X1_after ml_RX6_119 ⟨rfl, rfl⟩ ⟨(Nat.le_of_ble_eq_true rfl), (Nat.le_of_ble_eq_true rfl)⟩) (pRV hK (hP.sub [1, 2] (su_C_L1 cI cS _ _)) (ci := 1) rfl rfl) rfl rfl hl.1 rfl (lv_room (Nat.le_of_ble_eq_true rfl)) dX6_becomes_20 ⟨Nat.le_refl _, Nat.le_refl _⟩) ?_
    exact W.iret hx hb hr (fun t ht hW => ⟨_, rfl, (Option.some.inj hF), ht⟩) (fun _ h => nomatch h) dX6_becomes_23
  · replace hF := iq c7 hF
    refine lv_iload_n hx hb dX6_becomes_10 rfl (lv_at hl 0 rfl) ?_
    refine lv_goto (tgt := 23) hx hb dX6_becomes_11 (by decide) ?_
    exact W.iret hx hb hr (fun t ht hW => ⟨_, rfl, (Option.some.inj hF), ht⟩) (fun _ h => nomatch h) dX6_becomes_23
noncomputable def F_X6_enact (t0 : ST) (x1 : Int32) : Option (Int32 × ST) :=
  if x1 < 0 then
    some ((-2), t0)
  else
  if x1 < 256 then
    (F_X6_hasGarden t0).bind fun v15 =>
    if v15 = 0 then
      some ((-3), t0)
    else
    (F_X1_fix (sb t0 1) x1).bind fun u37 =>
    some ((t0 1 0), (gr t0 1 2 u37))
  else
  some ((-2), t0)
abbrev rm_X6_enact : Room := { frames := 3, cells := 0, slots := 0, locals := 69 }
set_option maxHeartbeats 4000000 in
set_option maxRecDepth 100000 in
theorem c_X6_enact (l : Launch) (D : va_G) (cI cS : ClassId) (a0 : Nat → Nat) (t0 : ST) (x1 : Int32) (r : Int32) (t' : ST) (hF : F_X6_enact t0 x1 = some (r, t')) : Met l yX6_enact (Cond.code yX6_enact cX6_enact 3 (some .int) :: ALL) rm_X6_enact (PreW D cI cS [.ref (a0 0), .int x1] (pC cI cS a0 t0)) (va_Qi (fun x (_ : Unit) => x = r) (fun _ t => va_P D vwCl (pC cI cS a0 t') t.heap) (AD (pC cI cS a0 t0))) 0 0 (AD (pC cI cS a0 t0)) := by
  refine mW l D cI cS (by decide) (Nat.le_of_ble_eq_true rfl) ?_
  intro p e s m below meth c ls hx hb hr hml hown hts hlocks hP hK hD hS hl
  have hown : s.vm.findClass RX6 = some m.cls := hown
  have hl : lv_has ls 3 [(0, .ref (a0 0)), (1, .int x1)] := hl
  unfold F_X6_enact at hF
  refine lv_iload_n hx hb dX6_enact_0 rfl (lv_at hl 1 rfl) ?_
  refine lv_if_lt (tgt := 11) hx hb dX6_enact_1 (by decide) (fun c1 => ?_) (fun c1 => ?_)
  · replace hF := ip c1 hF
    refine lv_bipush (v := (-2)) hx hb dX6_enact_11 (by decide) ?_
    exact W.iret hx hb hr (fun t ht hW => ⟨⟨_, (), rfl, (Prod.mk.inj (Option.some.inj hF)).1, by show va_P _ _ _ t.heap; rw [ht, ← (Prod.mk.inj (Option.some.inj hF)).2]; exact hP⟩, hS.F ht⟩) hS.2.2 dX6_enact_13
  · replace hF := iq c1 hF
    refine lv_iload_n hx hb dX6_enact_4 rfl (lv_at hl 1 rfl) ?_
    refine lv_sipush (v := 256) hx hb dX6_enact_5 (by decide) ?_
    refine lv_icmp_lt (tgt := 14) hx hb dX6_enact_8 (by decide) (fun c8 => ?_) (fun c8 => ?_)
    · replace hF := ip c8 hF
      refine lv_aload_n hx hb dX6_enact_14 rfl (lv_at hl 0 rfl) ?_
      obtain ⟨v15, h15, hF⟩ := bd hF
      refine cRb (va_runV (As := []) (rest := []) ⟨hx, hb, hml, hown, hts⟩ (c_X6_hasGarden l D cI cS a0 t0 v15 h15) (cwVA hts (TW.cons _) lv_X6_hasGarden ml_RX6_123 ⟨rfl, rfl⟩ ⟨(Nat.le_of_ble_eq_true rfl), (Nat.le_of_ble_eq_true rfl)⟩) (pRV hK hP (ci := 5) rfl rfl) rfl rfl hl.1 rfl (lv_room (Nat.le_of_ble_eq_true rfl)) dX6_enact_15 ⟨Nat.le_refl _, Nat.le_refl _⟩) (fun b15 => ?_)
      refine lv_if_ne (tgt := 24) hx hb dX6_enact_18 (by decide) (fun c18 => ?_) (fun c18 => ?_)
      · replace hF := iq c18 hF
        refine lv_aload_n hx hb dX6_enact_24 rfl (lv_at hl 0 rfl) ?_
        refine va_get (D := D) (ci := 5) (v := .ref (a0 1)) (C := RX6) (T := TX6) (N := 8) hx hb hts (fun w h => List.mem_cons_of_mem _ (inAX6 w h)) hown hK.1 hP 0 (at_C_0 cI cS _ _) rfl 0 (by decide) (hts _ (List.mem_cons_of_mem _ fl_RX6_12)) (fun _ h9 => h9) rfl dX6_enact_25 ?_
        refine va_getN (D := D) (ci := 1) (v := .int (t0 1 0)) (C := RX1) (T := TX1) (N := 2) hx hb hts (fun w h => List.mem_cons_of_mem _ (inAX1 w h)) hown hK.1 hP 1 (at_C_1 cI cS _ _) rfl 0 (by decide) (nu_RX6_127 hK) (fun _ h9 => h9) rfl dX6_enact_28 ?_
        refine lv_istore_n (lv' := [(2, .int (t0 1 0)), (0, .ref (a0 0)), (1, .int x1)]) hx hb dX6_enact_31 rfl hl (by decide) rfl (fun ls hl => ?_)
        refine lv_aload_n hx hb dX6_enact_32 rfl (lv_at hl 1 rfl) ?_
        refine va_get (D := D) (ci := 5) (v := .ref (a0 1)) (C := RX6) (T := TX6) (N := 8) hx hb hts (fun w h => List.mem_cons_of_mem _ (inAX6 w h)) hown hK.1 hP 0 (at_C_0 cI cS _ _) rfl 0 (by decide) (hts _ (List.mem_cons_of_mem _ fl_RX6_12)) (fun _ h9 => h9) rfl dX6_enact_33 ?_
        refine lv_iload_n hx hb dX6_enact_36 rfl (lv_at hl 2 rfl) ?_
        obtain ⟨u37, h37, hF⟩ := bd hF
        refine cWv (ws' := pC cI cS a0 (gr t0 1 2 u37)) (va_runV (As := [.int x1]) (rest := []) ⟨hx, hb, hml, hown, hts⟩ (c_X1_fix l D cI cS (sa a0 1) (sb t0 1) x1 u37 h37) (cwVA hts (TW.cons _) lv_X1_fix ml_RX6_77 ⟨rfl, rfl⟩ ⟨(Nat.le_of_ble_eq_true rfl), (Nat.le_of_ble_eq_true rfl)⟩) (pWV hK (hP.sub [1, 2] (su_C_L1 cI cS _ _)) (hD.sub [1, 2] (by decide) (sm_C_L1 cI cS _ _)) (ci := 1) rfl rfl) rfl rfl hl.1 rfl (lv_room (Nat.le_of_ble_eq_true rfl)) dX6_enact_37 ⟨Nat.le_refl _, Nat.le_refl _⟩) hP hD hS [1, 2] (sm_C_L1 cI cS _ _) [.inl 0, .inr 0, .inr 1, .inl 3, .inl 4, .inl 5, .inl 6, .inl 7, .inl 8, .inl 9, .inl 10, .inl 11, .inl 12, .inl 13, .inl 14, .inl 15, .inl 16, .inl 17, .inl 18, .inl 19, .inl 20, .inl 21, .inl 22, .inl 23, .inl 24, .inl 25, .inl 26, .inl 27, .inl 28] (pn_C_L1 cI cS _ _ _) rfl (ad_C cI cS _ _ _) (fun H locs hP hD hS => ?_)
        refine lv_iload_n hx hb dX6_enact_40 rfl (lv_at hl 0 rfl) ?_
        exact W.iret hx hb hr (fun t ht hW => ⟨⟨_, (), rfl, (Prod.mk.inj (Option.some.inj hF)).1, by show va_P _ _ _ t.heap; rw [ht, ← (Prod.mk.inj (Option.some.inj hF)).2]; exact hP⟩, hS.F ht⟩) hS.2.2 dX6_enact_41
      · replace hF := ip c18 hF
        refine lv_bipush (v := (-3)) hx hb dX6_enact_21 (by decide) ?_
        exact W.iret hx hb hr (fun t ht hW => ⟨⟨_, (), rfl, (Prod.mk.inj (Option.some.inj hF)).1, by show va_P _ _ _ t.heap; rw [ht, ← (Prod.mk.inj (Option.some.inj hF)).2]; exact hP⟩, hS.F ht⟩) hS.2.2 dX6_enact_23
    · replace hF := iq c8 hF
      refine lv_bipush (v := (-2)) hx hb dX6_enact_11 (by decide) ?_
      exact W.iret hx hb hr (fun t ht hW => ⟨⟨_, (), rfl, (Prod.mk.inj (Option.some.inj hF)).1, by show va_P _ _ _ t.heap; rw [ht, ← (Prod.mk.inj (Option.some.inj hF)).2]; exact hP⟩, hS.F ht⟩) hS.2.2 dX6_enact_13
noncomputable def F_X6_hurry (t0 : ST) (x1 : Int32) (x2 : Int32) : Option (Int32 × ST) :=
  (F_X0_has (sb t0 3) x1).bind fun v5 =>
  if v5 = 0 then
    some ((-1), t0)
  else
  if x2 < 1 then
    some ((-2), t0)
  else
  if x2 ≤ 4 then
    (rd 6 (t0 6) x1).bind fun v34 =>
    (ix 6 x1).bind fun k45 =>
    some (v34, (st t0 6 k45 x2))
  else
  some ((-2), t0)
abbrev rm_X6_hurry : Room := { frames := 1, cells := 0, slots := 0, locals := 21 }
set_option maxHeartbeats 4000000 in
set_option maxRecDepth 100000 in
theorem c_X6_hurry (l : Launch) (D : va_G) (cI cS : ClassId) (a0 : Nat → Nat) (t0 : ST) (x1 : Int32) (x2 : Int32) (r : Int32) (t' : ST) (hF : F_X6_hurry t0 x1 x2 = some (r, t')) : Met l yX6_hurry (Cond.code yX6_hurry cX6_hurry 4 (some .int) :: ALL) rm_X6_hurry (PreW D cI cS [.ref (a0 0), .int x1, .int x2] (pC cI cS a0 t0)) (va_Qi (fun x (_ : Unit) => x = r) (fun _ t => va_P D vwCl (pC cI cS a0 t') t.heap) (AD (pC cI cS a0 t0))) 0 0 (AD (pC cI cS a0 t0)) := by
  refine mW l D cI cS (by decide) (Nat.le_of_ble_eq_true rfl) ?_
  intro p e s m below meth c ls hx hb hr hml hown hts hlocks hP hK hD hS hl
  have hown : s.vm.findClass RX6 = some m.cls := hown
  have hl : lv_has ls 4 [(0, .ref (a0 0)), (1, .int x1), (2, .int x2)] := hl
  unfold F_X6_hurry at hF
  refine lv_aload_n hx hb dX6_hurry_0 rfl (lv_at hl 0 rfl) ?_
  refine va_get (D := D) (ci := 5) (v := .ref (a0 3)) (C := RX6) (T := TX6) (N := 8) hx hb hts (fun w h => List.mem_cons_of_mem _ (inAX6 w h)) hown hK.1 hP 0 (at_C_0 cI cS _ _) rfl 1 (by decide) (hts _ (List.mem_cons_of_mem _ fl_RX6_21)) (fun _ h9 => h9) rfl dX6_hurry_1 ?_
  refine lv_iload_n hx hb dX6_hurry_4 rfl (lv_at hl 1 rfl) ?_
  obtain ⟨v5, h5, hF⟩ := bd hF
  refine cRb (va_runV (As := [.int x1]) (rest := []) ⟨hx, hb, hml, hown, hts⟩ (c_X0_has l D cI cS (sa a0 3) (sb t0 3) x1 v5 h5) (cwVA hts (TW.cons _) lv_X0_has ml_RX6_92 ⟨rfl, rfl⟩ ⟨(Nat.le_of_ble_eq_true rfl), (Nat.le_of_ble_eq_true rfl)⟩) (pRV hK (hP.sub [3, 4, 5, 6] (su_C_B3 cI cS _ _)) (ci := 0) rfl rfl) rfl rfl hl.1 rfl (lv_room (Nat.le_of_ble_eq_true rfl)) dX6_hurry_5 ⟨Nat.le_refl _, Nat.le_refl _⟩) (fun b5 => ?_)
  refine lv_if_ne (tgt := 13) hx hb dX6_hurry_8 (by decide) (fun c8 => ?_) (fun c8 => ?_)
  · replace hF := iq c8 hF
    refine lv_iload_n hx hb dX6_hurry_13 rfl (lv_at hl 2 rfl) ?_
    refine lv_iconst (v := 1) hx hb dX6_hurry_14 (by decide) ?_
    refine lv_icmp_lt (tgt := 23) hx hb dX6_hurry_15 (by decide) (fun c15 => ?_) (fun c15 => ?_)
    · replace hF := ip c15 hF
      refine lv_bipush (v := (-2)) hx hb dX6_hurry_23 (by decide) ?_
      exact W.iret hx hb hr (fun t ht hW => ⟨⟨_, (), rfl, (Prod.mk.inj (Option.some.inj hF)).1, by show va_P _ _ _ t.heap; rw [ht, ← (Prod.mk.inj (Option.some.inj hF)).2]; exact hP⟩, hS.F ht⟩) hS.2.2 dX6_hurry_25
    · replace hF := iq c15 hF
      refine lv_iload_n hx hb dX6_hurry_18 rfl (lv_at hl 2 rfl) ?_
      refine lv_iconst (v := 4) hx hb dX6_hurry_19 (by decide) ?_
      refine lv_icmp_le (tgt := 26) hx hb dX6_hurry_20 (by decide) (fun c20 => ?_) (fun c20 => ?_)
      · replace hF := ip c20 hF
        refine lv_aload_n hx hb dX6_hurry_26 rfl (lv_at hl 0 rfl) ?_
        refine va_get (D := D) (ci := 5) (v := .ref (a0 3)) (C := RX6) (T := TX6) (N := 8) hx hb hts (fun w h => List.mem_cons_of_mem _ (inAX6 w h)) hown hK.1 hP 0 (at_C_0 cI cS _ _) rfl 1 (by decide) (hts _ (List.mem_cons_of_mem _ fl_RX6_21)) (fun _ h9 => h9) rfl dX6_hurry_27 ?_
        refine va_getN (D := D) (ci := 0) (v := .ref (a0 6)) (C := RX0) (T := TX0) (N := 6) hx hb hts (fun w h => List.mem_cons_of_mem _ (inAX0 w h)) hown hK.1 hP 3 (at_C_3 cI cS _ _) rfl 5 (by decide) (nu_RX6_102 hK) (fun _ h9 => h9) rfl dX6_hurry_30 ?_
        refine lv_iload_n hx hb dX6_hurry_33 rfl (lv_at hl 1 rfl) ?_
        obtain ⟨v34, h34, hF⟩ := bd hF
        refine rI hx hb hK.1 hP 6 0 (at_C_6 cI cS _ _) rfl h34 dX6_hurry_34 ?_
        refine lv_istore_n (lv' := [(3, .int v34), (0, .ref (a0 0)), (1, .int x1), (2, .int x2)]) hx hb dX6_hurry_35 rfl hl (by decide) rfl (fun ls hl => ?_)
        refine lv_aload_n hx hb dX6_hurry_36 rfl (lv_at hl 1 rfl) ?_
        refine va_get (D := D) (ci := 5) (v := .ref (a0 3)) (C := RX6) (T := TX6) (N := 8) hx hb hts (fun w h => List.mem_cons_of_mem _ (inAX6 w h)) hown hK.1 hP 0 (at_C_0 cI cS _ _) rfl 1 (by decide) (hts _ (List.mem_cons_of_mem _ fl_RX6_21)) (fun _ h9 => h9) rfl dX6_hurry_37 ?_
        refine va_getN (D := D) (ci := 0) (v := .ref (a0 6)) (C := RX0) (T := TX0) (N := 6) hx hb hts (fun w h => List.mem_cons_of_mem _ (inAX0 w h)) hown hK.1 hP 3 (at_C_3 cI cS _ _) rfl 5 (by decide) (nu_RX6_102 hK) (fun _ h9 => h9) rfl dX6_hurry_40 ?_
        refine lv_iload_n hx hb dX6_hurry_43 rfl (lv_at hl 2 rfl) ?_
        refine lv_iload_n hx hb dX6_hurry_44 rfl (lv_at hl 3 rfl) ?_
        obtain ⟨k45, h45, hF⟩ := bd hF
        refine wI (ws' := pC cI cS a0 (st t0 6 k45 x2)) hx hb hK.1 hP hD hS 6 0 (at_C_6 cI cS _ _) rfl h45 (sw_C_6 cI cS _ _ _ _) dX6_hurry_45 (fun H locs hP hD hS => ?_)
        refine lv_iload_n hx hb dX6_hurry_46 rfl (lv_at hl 0 rfl) ?_
        exact W.iret hx hb hr (fun t ht hW => ⟨⟨_, (), rfl, (Prod.mk.inj (Option.some.inj hF)).1, by show va_P _ _ _ t.heap; rw [ht, ← (Prod.mk.inj (Option.some.inj hF)).2]; exact hP⟩, hS.F ht⟩) hS.2.2 dX6_hurry_47
      · replace hF := iq c20 hF
        refine lv_bipush (v := (-2)) hx hb dX6_hurry_23 (by decide) ?_
        exact W.iret hx hb hr (fun t ht hW => ⟨⟨_, (), rfl, (Prod.mk.inj (Option.some.inj hF)).1, by show va_P _ _ _ t.heap; rw [ht, ← (Prod.mk.inj (Option.some.inj hF)).2]; exact hP⟩, hS.F ht⟩) hS.2.2 dX6_hurry_25
  · replace hF := ip c8 hF
    refine lv_iconst (v := (-1)) hx hb dX6_hurry_11 (by decide) ?_
    exact W.iret hx hb hr (fun t ht hW => ⟨⟨_, (), rfl, (Prod.mk.inj (Option.some.inj hF)).1, by show va_P _ _ _ t.heap; rw [ht, ← (Prod.mk.inj (Option.some.inj hF)).2]; exact hP⟩, hS.F ht⟩) hS.2.2 dX6_hurry_12
