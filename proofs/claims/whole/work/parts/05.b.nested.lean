noncomputable def F_X0_has (t0 : ST) (x1 : Int32) : Option Int32 :=
  if x1 < 0 then
    some 0
  else
  if (t0 0 0) ≤ x1 then
    some 0
  else
  some 1
abbrev rm_X0_has : Room := { frames := 0, cells := 0, slots := 0, locals := 0 }
set_option maxHeartbeats 4000000 in
set_option maxRecDepth 100000 in
theorem c_X0_has (l : Launch) (D : va_G) (cI cS : ClassId) (a0 : Nat → Nat) (t0 : ST) (x1 : Int32) (r : Int32) (hF : F_X0_has t0 x1 = some r) : Met l yX0_has (Cond.code yX0_has cX0_has 2 (some .boolean) :: ALL) rm_X0_has (PreR D cI cS [.ref (a0 0), .int x1] (pB cI cS a0 t0)) (vp_Si (fun x => x = r ∧ (x = 0 ∨ x = 1))) 0 0 (fun _ => False) := by
  refine mR l D cI cS (by decide) (Nat.le_of_ble_eq_true rfl) ?_
  intro p e s m below meth c ls hx hb hr hml hown hts hlocks hP hK hl
  have hown : s.vm.findClass RX0 = some m.cls := hown
  have hl : lv_has ls 2 [(0, .ref (a0 0)), (1, .int x1)] := hl
  unfold F_X0_has at hF
  refine lv_iload_n hx hb dX0_has_0 rfl (lv_at hl 1 rfl) ?_
  refine lv_if_lt (tgt := 16) hx hb dX0_has_1 (by decide) (fun c1 => ?_) (fun c1 => ?_)
  · replace hF := ip c1 hF
    refine lv_iconst (v := 0) hx hb dX0_has_16 (by decide) ?_
    exact W.zret hx hb hr rfl (fun t ht hW => ⟨_, rfl, ⟨(Option.some.inj hF), Or.inl rfl⟩, ht⟩) (fun _ h => nomatch h) dX0_has_17
  · replace hF := iq c1 hF
    refine lv_iload_n hx hb dX0_has_4 rfl (lv_at hl 1 rfl) ?_
    refine lv_aload_n hx hb dX0_has_5 rfl (lv_at hl 0 rfl) ?_
    refine va_get (D := D) (ci := 0) (v := .int (t0 0 0)) (C := RX0) (T := TX0) (N := 6) hx hb hts (fun w h => List.mem_cons_of_mem _ (inAX0 w h)) hown hK.1 hP 0 rfl rfl 0 (by decide) (hts _ (List.mem_cons_of_mem _ fl_RX0_21)) (fun _ h9 => h9) rfl dX0_has_6 ?_
    refine lv_icmp_ge (tgt := 16) hx hb dX0_has_9 (by decide) (fun c9 => ?_) (fun c9 => ?_)
    · replace hF := ip c9 hF
      refine lv_iconst (v := 0) hx hb dX0_has_16 (by decide) ?_
      exact W.zret hx hb hr rfl (fun t ht hW => ⟨_, rfl, ⟨(Option.some.inj hF), Or.inl rfl⟩, ht⟩) (fun _ h => nomatch h) dX0_has_17
    · replace hF := iq c9 hF
      refine lv_iconst (v := 1) hx hb dX0_has_12 (by decide) ?_
      refine lv_goto (tgt := 17) hx hb dX0_has_13 (by decide) ?_
      exact W.zret hx hb hr rfl (fun t ht hW => ⟨_, rfl, ⟨(Option.some.inj hF), Or.inr rfl⟩, ht⟩) (fun _ h => nomatch h) dX0_has_17
noncomputable def F_X4_blocksIn (x0 : Int32) : Option Int32 :=
  some ((x0 - 4) / 5)
abbrev rm_X4_blocksIn : Room := { frames := 0, cells := 0, slots := 0, locals := 0 }
set_option maxHeartbeats 4000000 in
set_option maxRecDepth 100000 in
theorem c_X4_blocksIn (l : Launch) (D : va_G) (cI cS : ClassId) (x0 : Int32) (r : Int32) (hF : F_X4_blocksIn x0 = some r) : Met l yX4_blocksIn (Cond.code yX4_blocksIn cX4_blocksIn 1 (some .int) :: ALL) rm_X4_blocksIn (PreR D cI cS [.int x0] ([])) (vp_Si (fun x => x = r)) 0 0 (fun _ => False) := by
  refine mR l D cI cS (by decide) (Nat.le_of_ble_eq_true rfl) ?_
  intro p e s m below meth c ls hx hb hr hml hown hts hlocks hP hK hl
  have hown : s.vm.findClass RX4 = some m.cls := hown
  have hl : lv_has ls 1 [(0, .int x0)] := hl
  unfold F_X4_blocksIn at hF
  refine lv_iload_n hx hb dX4_blocksIn_0 rfl (lv_at hl 0 rfl) ?_
  refine lv_iconst (v := 4) hx hb dX4_blocksIn_1 (by decide) ?_
  refine lv_isub hx hb dX4_blocksIn_2 ?_
  refine lv_iconst (v := 5) hx hb dX4_blocksIn_3 (by decide) ?_
  refine lv_idiv hx hb dX4_blocksIn_4 (by decide) ?_
  exact W.iret hx hb hr (fun t ht hW => ⟨_, rfl, (Option.some.inj hF), ht⟩) (fun _ h => nomatch h) dX4_blocksIn_5
noncomputable def F_X4_placeOf (x0 : Int32) (x1 : Int32) : Option Int32 :=
  some ((x0 + 4) + (5 * x1))
abbrev rm_X4_placeOf : Room := { frames := 0, cells := 0, slots := 0, locals := 0 }
set_option maxHeartbeats 4000000 in
set_option maxRecDepth 100000 in
theorem c_X4_placeOf (l : Launch) (D : va_G) (cI cS : ClassId) (x0 : Int32) (x1 : Int32) (r : Int32) (hF : F_X4_placeOf x0 x1 = some r) : Met l yX4_placeOf (Cond.code yX4_placeOf cX4_placeOf 2 (some .int) :: ALL) rm_X4_placeOf (PreR D cI cS [.int x0, .int x1] ([])) (vp_Si (fun x => x = r)) 0 0 (fun _ => False) := by
  refine mR l D cI cS (by decide) (Nat.le_of_ble_eq_true rfl) ?_
  intro p e s m below meth c ls hx hb hr hml hown hts hlocks hP hK hl
  have hown : s.vm.findClass RX4 = some m.cls := hown
  have hl : lv_has ls 2 [(0, .int x0), (1, .int x1)] := hl
  unfold F_X4_placeOf at hF
  refine lv_iload_n hx hb dX4_placeOf_0 rfl (lv_at hl 0 rfl) ?_
  refine lv_iconst (v := 4) hx hb dX4_placeOf_1 (by decide) ?_
  refine lv_iadd hx hb dX4_placeOf_2 ?_
  refine lv_iconst (v := 5) hx hb dX4_placeOf_3 (by decide) ?_
  refine lv_iload_n hx hb dX4_placeOf_4 rfl (lv_at hl 1 rfl) ?_
  refine lv_imul hx hb dX4_placeOf_5 ?_
  refine lv_iadd hx hb dX4_placeOf_6 ?_
  exact W.iret hx hb hr (fun t ht hW => ⟨_, rfl, (Option.some.inj hF), ht⟩) (fun _ h => nomatch h) dX4_placeOf_7
noncomputable def F_X3_at (t0 : ST) (x1 : Int32) : Option Int32 :=
  if x1 < 0 then
    some 0
  else
  if (t0 0 2) ≤ x1 then
    some 0
  else
  (rd 60 (t0 1) x1).bind fun v17 =>
  some v17
abbrev rm_X3_at : Room := { frames := 0, cells := 0, slots := 0, locals := 0 }
set_option maxHeartbeats 4000000 in
set_option maxRecDepth 100000 in
theorem c_X3_at (l : Launch) (D : va_G) (cI cS : ClassId) (a0 : Nat → Nat) (t0 : ST) (x1 : Int32) (r : Int32) (hF : F_X3_at t0 x1 = some r) : Met l yX3_at (Cond.code yX3_at cX3_at 2 (some .int) :: ALL) rm_X3_at (PreR D cI cS [.ref (a0 0), .int x1] (pS cI cS a0 t0)) (vp_Si (fun x => x = r)) 0 0 (fun _ => False) := by
  refine mR l D cI cS (by decide) (Nat.le_of_ble_eq_true rfl) ?_
  intro p e s m below meth c ls hx hb hr hml hown hts hlocks hP hK hl
  have hown : s.vm.findClass RX3 = some m.cls := hown
  have hl : lv_has ls 2 [(0, .ref (a0 0)), (1, .int x1)] := hl
  unfold F_X3_at at hF
  refine lv_iload_n hx hb dX3_at_0 rfl (lv_at hl 1 rfl) ?_
  refine lv_if_lt (tgt := 21) hx hb dX3_at_1 (by decide) (fun c1 => ?_) (fun c1 => ?_)
  · replace hF := ip c1 hF
    refine lv_iconst (v := 0) hx hb dX3_at_21 (by decide) ?_
    exact W.iret hx hb hr (fun t ht hW => ⟨_, rfl, (Option.some.inj hF), ht⟩) (fun _ h => nomatch h) dX3_at_22
  · replace hF := iq c1 hF
    refine lv_iload_n hx hb dX3_at_4 rfl (lv_at hl 1 rfl) ?_
    refine lv_aload_n hx hb dX3_at_5 rfl (lv_at hl 0 rfl) ?_
    refine va_get (D := D) (ci := 3) (v := .int (t0 0 2)) (C := RX3) (T := TX3) (N := 4) hx hb hts (fun w h => List.mem_cons_of_mem _ (inAX3 w h)) hown hK.1 hP 0 rfl rfl 2 (by decide) (hts _ (List.mem_cons_of_mem _ fl_RX3_23)) (fun _ h9 => h9) rfl dX3_at_6 ?_
    refine lv_icmp_ge (tgt := 21) hx hb dX3_at_9 (by decide) (fun c9 => ?_) (fun c9 => ?_)
    · replace hF := ip c9 hF
      refine lv_iconst (v := 0) hx hb dX3_at_21 (by decide) ?_
      exact W.iret hx hb hr (fun t ht hW => ⟨_, rfl, (Option.some.inj hF), ht⟩) (fun _ h => nomatch h) dX3_at_22
    · replace hF := iq c9 hF
      refine lv_aload_n hx hb dX3_at_12 rfl (lv_at hl 0 rfl) ?_
      refine va_get (D := D) (ci := 3) (v := .ref (a0 1)) (C := RX3) (T := TX3) (N := 4) hx hb hts (fun w h => List.mem_cons_of_mem _ (inAX3 w h)) hown hK.1 hP 0 rfl rfl 3 (by decide) (hts _ (List.mem_cons_of_mem _ fl_RX3_9)) (fun _ h9 => h9) rfl dX3_at_13 ?_
      refine lv_iload_n hx hb dX3_at_16 rfl (lv_at hl 1 rfl) ?_
      obtain ⟨v17, h17, hF⟩ := bd hF
      refine rI hx hb hK.1 hP 1 0 rfl rfl h17 dX3_at_17 ?_
      refine lv_goto (tgt := 22) hx hb dX3_at_18 (by decide) ?_
      exact W.iret hx hb hr (fun t ht hW => ⟨_, rfl, (Option.some.inj hF), ht⟩) (fun _ h => nomatch h) dX3_at_22
noncomputable def F_X4_kindBy (x0 : Int32) : Option Int32 :=
  if x0 = 98 then
    some 0
  else
  if x0 = 104 then
    some 2
  else
  if x0 = 110 then
    some 1
  else
  some (-9)
abbrev rm_X4_kindBy : Room := { frames := 0, cells := 0, slots := 0, locals := 0 }
set_option maxHeartbeats 4000000 in
set_option maxRecDepth 100000 in
theorem c_X4_kindBy (l : Launch) (D : va_G) (cI cS : ClassId) (x0 : Int32) (r : Int32) (hF : F_X4_kindBy x0 = some r) : Met l yX4_kindBy (Cond.code yX4_kindBy cX4_kindBy 1 (some .int) :: ALL) rm_X4_kindBy (PreR D cI cS [.int x0] ([])) (vp_Si (fun x => x = r)) 0 0 (fun _ => False) := by
  refine mR l D cI cS (by decide) (Nat.le_of_ble_eq_true rfl) ?_
  intro p e s m below meth c ls hx hb hr hml hown hts hlocks hP hK hl
  have hown : s.vm.findClass RX4 = some m.cls := hown
  have hl : lv_has ls 1 [(0, .int x0)] := hl
  unfold F_X4_kindBy at hF
  refine lv_iload_n hx hb dX4_kindBy_0 rfl (lv_at hl 0 rfl) ?_
  by_cases c1_0 : x0 = 98
  · replace hF := ip c1_0 hF
    refine lv_lookup (off := 35) (tgt := 36) hx hb dX4_kindBy_1 (by decide) (by rw [c1_0]; decide) (by decide) ?_
    refine lv_iconst (v := 0) hx hb dX4_kindBy_36 (by decide) ?_
    exact W.iret hx hb hr (fun t ht hW => ⟨_, rfl, (Option.some.inj hF), ht⟩) (fun _ h => nomatch h) dX4_kindBy_37
  replace hF := iq c1_0 hF
  by_cases c1_1 : x0 = 104
  · replace hF := ip c1_1 hF
    refine lv_lookup (off := 39) (tgt := 40) hx hb dX4_kindBy_1 (by decide) (by rw [c1_1]; decide) (by decide) ?_
    refine lv_iconst (v := 2) hx hb dX4_kindBy_40 (by decide) ?_
    exact W.iret hx hb hr (fun t ht hW => ⟨_, rfl, (Option.some.inj hF), ht⟩) (fun _ h => nomatch h) dX4_kindBy_41
  replace hF := iq c1_1 hF
  by_cases c1_2 : x0 = 110
  · replace hF := ip c1_2 hF
    refine lv_lookup (off := 37) (tgt := 38) hx hb dX4_kindBy_1 (by decide) (by rw [c1_2]; decide) (by decide) ?_
    refine lv_iconst (v := 1) hx hb dX4_kindBy_38 (by decide) ?_
    exact W.iret hx hb hr (fun t ht hW => ⟨_, rfl, (Option.some.inj hF), ht⟩) (fun _ h => nomatch h) dX4_kindBy_39
  replace hF := iq c1_2 hF
  refine lv_lookup (off := 41) (tgt := 42) hx hb dX4_kindBy_1 (by decide) (by show Op.lookupswitch.offset [(98, 35), (104, 39), (110, 37)] 41 _ = _; rw [lv_osw (a := 98) c1_0 rfl, lv_osw (a := 104) c1_1 rfl, lv_osw (a := 110) c1_2 rfl]; rfl) (by decide) ?_
  refine lv_bipush (v := (-9)) hx hb dX4_kindBy_42 (by decide) ?_
  exact W.iret hx hb hr (fun t ht hW => ⟨_, rfl, (Option.some.inj hF), ht⟩) (fun _ h => nomatch h) dX4_kindBy_44
noncomputable def F_X4_kindOf (t0 : ST) (x1 : Int32) (x2 : Int32) : Option Int32 :=
  (F_X4_placeOf x1 x2).bind fun v3 =>
  (F_X3_at t0 (v3 + 1)).bind fun v8 =>
  (F_X4_kindBy v8).bind fun v11 =>
  some v11
abbrev rm_X4_kindOf : Room := { frames := 1, cells := 0, slots := 0, locals := 21 }
set_option maxHeartbeats 4000000 in
set_option maxRecDepth 100000 in
theorem c_X4_kindOf (l : Launch) (D : va_G) (cI cS : ClassId) (a0 : Nat → Nat) (t0 : ST) (x1 : Int32) (x2 : Int32) (r : Int32) (hF : F_X4_kindOf t0 x1 x2 = some r) : Met l yX4_kindOf (Cond.code yX4_kindOf cX4_kindOf 3 (some .int) :: ALL) rm_X4_kindOf (PreR D cI cS [.ref (a0 0), .int x1, .int x2] (pS cI cS a0 t0)) (vp_Si (fun x => x = r)) 0 0 (fun _ => False) := by
  refine mR l D cI cS (by decide) (Nat.le_of_ble_eq_true rfl) ?_
  intro p e s m below meth c ls hx hb hr hml hown hts hlocks hP hK hl
  have hown : s.vm.findClass RX4 = some m.cls := hown
  have hl : lv_has ls 3 [(0, .ref (a0 0)), (1, .int x1), (2, .int x2)] := hl
  unfold F_X4_kindOf at hF
  refine lv_aload_n hx hb dX4_kindOf_0 rfl (lv_at hl 0 rfl) ?_
  refine lv_iload_n hx hb dX4_kindOf_1 rfl (lv_at hl 1 rfl) ?_
  refine lv_iload_n hx hb dX4_kindOf_2 rfl (lv_at hl 2 rfl) ?_
  obtain ⟨v3, h3, hF⟩ := bd hF
  refine cRe (va_runS (As := [.int x1, .int x2]) (rest := [.ref (a0 0)]) ⟨hx, hb, hml, hown, hts⟩ (c_X4_placeOf l D cI cS x1 x2 v3 h3) (cwSA hts (TW.cons _) ls_X4_placeOf ml_RX4_36 ⟨rfl, rfl⟩ ⟨(Nat.le_of_ble_eq_true rfl), (Nat.le_of_ble_eq_true rfl)⟩) (pRS hK pnil) rfl rfl hl.1 rfl (lv_room (Nat.le_of_ble_eq_true rfl)) dX4_kindOf_3 ⟨Nat.le_refl _, Nat.le_refl _⟩) ?_
  refine lv_iconst (v := 1) hx hb dX4_kindOf_6 (by decide) ?_
  refine lv_iadd hx hb dX4_kindOf_7 ?_
  obtain ⟨v8, h8, hF⟩ := bd hF
  refine cRe (va_runV (As := [.int (v3 + 1)]) (rest := []) ⟨hx, hb, hml, hown, hts⟩ (c_X3_at l D cI cS a0 t0 (v3 + 1) v8 h8) (cwVA hts (TW.cons _) lv_X3_at ml_RX4_15 ⟨rfl, rfl⟩ ⟨(Nat.le_of_ble_eq_true rfl), (Nat.le_of_ble_eq_true rfl)⟩) (pRV hK hP (ci := 3) rfl rfl) rfl rfl hl.1 rfl (lv_room (Nat.le_of_ble_eq_true rfl)) dX4_kindOf_8 ⟨Nat.le_refl _, Nat.le_refl _⟩) ?_
  obtain ⟨v11, h11, hF⟩ := bd hF
  refine cRe (va_runS (As := [.int v8]) (rest := []) ⟨hx, hb, hml, hown, hts⟩ (c_X4_kindBy l D cI cS v8 v11 h11) (cwSA hts (TW.cons _) ls_X4_kindBy ml_RX4_29 ⟨rfl, rfl⟩ ⟨(Nat.le_of_ble_eq_true rfl), (Nat.le_of_ble_eq_true rfl)⟩) (pRS hK pnil) rfl rfl hl.1 rfl (lv_room (Nat.le_of_ble_eq_true rfl)) dX4_kindOf_11 ⟨Nat.le_refl _, Nat.le_refl _⟩) ?_
  exact W.iret hx hb hr (fun t ht hW => ⟨_, rfl, (Option.some.inj hF), ht⟩) (fun _ h => nomatch h) dX4_kindOf_14
noncomputable def F_X4_digitAt (t0 : ST) (x1 : Int32) : Option Int32 :=
  (F_X3_at t0 x1).bind fun v2 =>
  some (v2 - 48)
abbrev rm_X4_digitAt : Room := { frames := 1, cells := 0, slots := 0, locals := 21 }
set_option maxHeartbeats 4000000 in
set_option maxRecDepth 100000 in
theorem c_X4_digitAt (l : Launch) (D : va_G) (cI cS : ClassId) (a0 : Nat → Nat) (t0 : ST) (x1 : Int32) (r : Int32) (hF : F_X4_digitAt t0 x1 = some r) : Met l yX4_digitAt (Cond.code yX4_digitAt cX4_digitAt 2 (some .int) :: ALL) rm_X4_digitAt (PreR D cI cS [.ref (a0 0), .int x1] (pS cI cS a0 t0)) (vp_Si (fun x => x = r)) 0 0 (fun _ => False) := by
  refine mR l D cI cS (by decide) (Nat.le_of_ble_eq_true rfl) ?_
  intro p e s m below meth c ls hx hb hr hml hown hts hlocks hP hK hl
  have hown : s.vm.findClass RX4 = some m.cls := hown
  have hl : lv_has ls 2 [(0, .ref (a0 0)), (1, .int x1)] := hl
  unfold F_X4_digitAt at hF
  refine lv_aload_n hx hb dX4_digitAt_0 rfl (lv_at hl 0 rfl) ?_
  refine lv_iload_n hx hb dX4_digitAt_1 rfl (lv_at hl 1 rfl) ?_
  obtain ⟨v2, h2, hF⟩ := bd hF
  refine cRe (va_runV (As := [.int x1]) (rest := []) ⟨hx, hb, hml, hown, hts⟩ (c_X3_at l D cI cS a0 t0 x1 v2 h2) (cwVA hts (TW.cons _) lv_X3_at ml_RX4_15 ⟨rfl, rfl⟩ ⟨(Nat.le_of_ble_eq_true rfl), (Nat.le_of_ble_eq_true rfl)⟩) (pRV hK hP (ci := 3) rfl rfl) rfl rfl hl.1 rfl (lv_room (Nat.le_of_ble_eq_true rfl)) dX4_digitAt_2 ⟨Nat.le_refl _, Nat.le_refl _⟩) ?_
  refine lv_bipush (v := 48) hx hb dX4_digitAt_5 (by decide) ?_
  refine lv_isub hx hb dX4_digitAt_7 ?_
  exact W.iret hx hb hr (fun t ht hW => ⟨_, rfl, (Option.some.inj hF), ht⟩) (fun _ h => nomatch h) dX4_digitAt_8
noncomputable def F_X4_shapeOf (t0 : ST) (x1 : Int32) (x2 : Int32) : Option Int32 :=
  (F_X4_placeOf x1 x2).bind fun v5 =>
  (F_X4_digitAt t0 (v5 + 2)).bind fun v10 =>
  (F_X4_placeOf x1 x2).bind fun v17 =>
  (F_X4_digitAt t0 (v17 + 3)).bind fun v22 =>
  some ((8 * v10) + v22)
abbrev rm_X4_shapeOf : Room := { frames := 2, cells := 0, slots := 0, locals := 42 }
set_option maxHeartbeats 4000000 in
set_option maxRecDepth 100000 in
theorem c_X4_shapeOf (l : Launch) (D : va_G) (cI cS : ClassId) (a0 : Nat → Nat) (t0 : ST) (x1 : Int32) (x2 : Int32) (r : Int32) (hF : F_X4_shapeOf t0 x1 x2 = some r) : Met l yX4_shapeOf (Cond.code yX4_shapeOf cX4_shapeOf 3 (some .int) :: ALL) rm_X4_shapeOf (PreR D cI cS [.ref (a0 0), .int x1, .int x2] (pS cI cS a0 t0)) (vp_Si (fun x => x = r)) 0 0 (fun _ => False) := by
  refine mR l D cI cS (by decide) (Nat.le_of_ble_eq_true rfl) ?_
  intro p e s m below meth c ls hx hb hr hml hown hts hlocks hP hK hl
  have hown : s.vm.findClass RX4 = some m.cls := hown
  have hl : lv_has ls 3 [(0, .ref (a0 0)), (1, .int x1), (2, .int x2)] := hl
  unfold F_X4_shapeOf at hF
  refine lv_bipush (v := 8) hx hb dX4_shapeOf_0 (by decide) ?_
  refine lv_aload_n hx hb dX4_shapeOf_2 rfl (lv_at hl 0 rfl) ?_
  refine lv_iload_n hx hb dX4_shapeOf_3 rfl (lv_at hl 1 rfl) ?_
  refine lv_iload_n hx hb dX4_shapeOf_4 rfl (lv_at hl 2 rfl) ?_
  obtain ⟨v5, h5, hF⟩ := bd hF
  refine cRe (va_runS (As := [.int x1, .int x2]) (rest := [.ref (a0 0), .int 8]) ⟨hx, hb, hml, hown, hts⟩ (c_X4_placeOf l D cI cS x1 x2 v5 h5) (cwSA hts (TW.cons _) ls_X4_placeOf ml_RX4_36 ⟨rfl, rfl⟩ ⟨(Nat.le_of_ble_eq_true rfl), (Nat.le_of_ble_eq_true rfl)⟩) (pRS hK pnil) rfl rfl hl.1 rfl (lv_room (Nat.le_of_ble_eq_true rfl)) dX4_shapeOf_5 ⟨Nat.le_refl _, Nat.le_refl _⟩) ?_
  refine lv_iconst (v := 2) hx hb dX4_shapeOf_8 (by decide) ?_
  refine lv_iadd hx hb dX4_shapeOf_9 ?_
  obtain ⟨v10, h10, hF⟩ := bd hF
  refine cRe (va_runS (As := [.ref (a0 0), .int (v5 + 2)]) (rest := [.int 8]) ⟨hx, hb, hml, hown, hts⟩ (c_X4_digitAt l D cI cS a0 t0 (v5 + 2) v10 h10) (cwSA hts (TW.cons _) ls_X4_digitAt ml_RX4_32 ⟨rfl, rfl⟩ ⟨(Nat.le_of_ble_eq_true rfl), (Nat.le_of_ble_eq_true rfl)⟩) (pRS hK hP) rfl rfl hl.1 rfl (lv_room (Nat.le_of_ble_eq_true rfl)) dX4_shapeOf_10 ⟨Nat.le_refl _, Nat.le_refl _⟩) ?_
  refine lv_imul hx hb dX4_shapeOf_13 ?_
  refine lv_aload_n hx hb dX4_shapeOf_14 rfl (lv_at hl 0 rfl) ?_
  refine lv_iload_n hx hb dX4_shapeOf_15 rfl (lv_at hl 1 rfl) ?_
  refine lv_iload_n hx hb dX4_shapeOf_16 rfl (lv_at hl 2 rfl) ?_
  obtain ⟨v17, h17, hF⟩ := bd hF
  refine cRe (va_runS (As := [.int x1, .int x2]) (rest := [.ref (a0 0), .int (8 * v10)]) ⟨hx, hb, hml, hown, hts⟩ (c_X4_placeOf l D cI cS x1 x2 v17 h17) (cwSA hts (TW.cons _) ls_X4_placeOf ml_RX4_36 ⟨rfl, rfl⟩ ⟨(Nat.le_of_ble_eq_true rfl), (Nat.le_of_ble_eq_true rfl)⟩) (pRS hK pnil) rfl rfl hl.1 rfl (lv_room (Nat.le_of_ble_eq_true rfl)) dX4_shapeOf_17 ⟨Nat.le_refl _, Nat.le_refl _⟩) ?_
  refine lv_iconst (v := 3) hx hb dX4_shapeOf_20 (by decide) ?_
  refine lv_iadd hx hb dX4_shapeOf_21 ?_
  obtain ⟨v22, h22, hF⟩ := bd hF
  refine cRe (va_runS (As := [.ref (a0 0), .int (v17 + 3)]) (rest := [.int (8 * v10)]) ⟨hx, hb, hml, hown, hts⟩ (c_X4_digitAt l D cI cS a0 t0 (v17 + 3) v22 h22) (cwSA hts (TW.cons _) ls_X4_digitAt ml_RX4_32 ⟨rfl, rfl⟩ ⟨(Nat.le_of_ble_eq_true rfl), (Nat.le_of_ble_eq_true rfl)⟩) (pRS hK hP) rfl rfl hl.1 rfl (lv_room (Nat.le_of_ble_eq_true rfl)) dX4_shapeOf_22 ⟨Nat.le_refl _, Nat.le_refl _⟩) ?_
  refine lv_iadd hx hb dX4_shapeOf_25 ?_
  exact W.iret hx hb hr (fun t ht hW => ⟨_, rfl, (Option.some.inj hF), ht⟩) (fun _ h => nomatch h) dX4_shapeOf_26
noncomputable def F_X4_paceOf (t0 : ST) (x1 : Int32) (x2 : Int32) : Option Int32 :=
  (F_X4_placeOf x1 x2).bind fun v3 =>
  (F_X4_digitAt t0 (v3 + 4)).bind fun v8 =>
  some v8
abbrev rm_X4_paceOf : Room := { frames := 2, cells := 0, slots := 0, locals := 42 }
set_option maxHeartbeats 4000000 in
set_option maxRecDepth 100000 in
theorem c_X4_paceOf (l : Launch) (D : va_G) (cI cS : ClassId) (a0 : Nat → Nat) (t0 : ST) (x1 : Int32) (x2 : Int32) (r : Int32) (hF : F_X4_paceOf t0 x1 x2 = some r) : Met l yX4_paceOf (Cond.code yX4_paceOf cX4_paceOf 3 (some .int) :: ALL) rm_X4_paceOf (PreR D cI cS [.ref (a0 0), .int x1, .int x2] (pS cI cS a0 t0)) (vp_Si (fun x => x = r)) 0 0 (fun _ => False) := by
  refine mR l D cI cS (by decide) (Nat.le_of_ble_eq_true rfl) ?_
  intro p e s m below meth c ls hx hb hr hml hown hts hlocks hP hK hl
  have hown : s.vm.findClass RX4 = some m.cls := hown
  have hl : lv_has ls 3 [(0, .ref (a0 0)), (1, .int x1), (2, .int x2)] := hl
  unfold F_X4_paceOf at hF
  refine lv_aload_n hx hb dX4_paceOf_0 rfl (lv_at hl 0 rfl) ?_
  refine lv_iload_n hx hb dX4_paceOf_1 rfl (lv_at hl 1 rfl) ?_
  refine lv_iload_n hx hb dX4_paceOf_2 rfl (lv_at hl 2 rfl) ?_
  obtain ⟨v3, h3, hF⟩ := bd hF
  refine cRe (va_runS (As := [.int x1, .int x2]) (rest := [.ref (a0 0)]) ⟨hx, hb, hml, hown, hts⟩ (c_X4_placeOf l D cI cS x1 x2 v3 h3) (cwSA hts (TW.cons _) ls_X4_placeOf ml_RX4_36 ⟨rfl, rfl⟩ ⟨(Nat.le_of_ble_eq_true rfl), (Nat.le_of_ble_eq_true rfl)⟩) (pRS hK pnil) rfl rfl hl.1 rfl (lv_room (Nat.le_of_ble_eq_true rfl)) dX4_paceOf_3 ⟨Nat.le_refl _, Nat.le_refl _⟩) ?_
  refine lv_iconst (v := 4) hx hb dX4_paceOf_6 (by decide) ?_
  refine lv_iadd hx hb dX4_paceOf_7 ?_
  obtain ⟨v8, h8, hF⟩ := bd hF
  refine cRe (va_runS (As := [.ref (a0 0), .int (v3 + 4)]) (rest := []) ⟨hx, hb, hml, hown, hts⟩ (c_X4_digitAt l D cI cS a0 t0 (v3 + 4) v8 h8) (cwSA hts (TW.cons _) ls_X4_digitAt ml_RX4_32 ⟨rfl, rfl⟩ ⟨(Nat.le_of_ble_eq_true rfl), (Nat.le_of_ble_eq_true rfl)⟩) (pRS hK hP) rfl rfl hl.1 rfl (lv_room (Nat.le_of_ble_eq_true rfl)) dX4_paceOf_8 ⟨Nat.le_refl _, Nat.le_refl _⟩) ?_
  exact W.iret hx hb hr (fun t ht hW => ⟨_, rfl, (Option.some.inj hF), ht⟩) (fun _ h => nomatch h) dX4_paceOf_11
noncomputable def F_X0_begin_L26 (t1 : ST) (x2 : Int32) (x3 : Int32) (k : Int32 → ST → Option ST) : Nat → Int32 → ST → Option ST
  | 0, _, _ => none
  | n + 1, x4, s0 =>
    if (s0 0 0) ≤ x4 then
      k x4 s0
    else
    (F_X4_kindOf t1 x2 x4).bind fun v45 =>
    (ix 6 x4).bind fun k48 =>
    (F_X4_shapeOf t1 x2 x4).bind fun v59 =>
    (ix 6 x4).bind fun k62 =>
    (F_X4_paceOf t1 x2 x4).bind fun v73 =>
    (ix 6 x4).bind fun k76 =>
    (F_X0_begin_L26 t1 x2 x3 k n) (x4 + 1) (st (st (st s0 1 k48 v45) 2 k62 v59) 3 k76 v73)
noncomputable def F_X0_begin_J83 (t1 : ST) (x2 : Int32) (x3 : Int32) (s0 : ST) : Option ST :=
  some s0
noncomputable def F_X0_begin (t0 : ST) (t1 : ST) (x2 : Int32) (x3 : Int32) : Option ST :=
  (F_X4_blocksIn x3).bind fun v2 =>
  F_X0_begin_L26 t1 x2 x3 (fun x4_k26 s0_k26 => F_X0_begin_J83 t1 x2 x3 s0_k26) 1000 0 (st (st (st t0 0 0 (if 6 < v2 then 6 else v2)) 0 1 0) 0 2 0)
abbrev rm_X0_begin : Room := { frames := 3, cells := 0, slots := 0, locals := 64 }
set_option maxHeartbeats 4000000 in
set_option maxRecDepth 100000 in
theorem c_X0_begin (l : Launch) (D : va_G) (cI cS : ClassId) (a0 : Nat → Nat) (a1 : Nat → Nat) (t0 : ST) (t1 : ST) (x2 : Int32) (x3 : Int32) (t' : ST) (hF : F_X0_begin t0 t1 x2 x3 = some t') : Met l yX0_begin (Cond.code yX0_begin cX0_begin 5 none :: ALL) rm_X0_begin (PreW D cI cS [.ref (a0 0), .ref (a1 0), .int x2, .int x3] (pB cI cS a0 t0 ++ (pS cI cS a1 t1))) (va_Qv (fun (_ : Unit) => True) (fun _ t => va_P D vwCl (pB cI cS a0 t' ++ (pS cI cS a1 t1)) t.heap) (AD (pB cI cS a0 t0 ++ (pS cI cS a1 t1)))) 0 0 (AD (pB cI cS a0 t0 ++ (pS cI cS a1 t1))) := by
  refine mW l D cI cS (by decide) (Nat.le_of_ble_eq_true rfl) ?_
  intro p e s m below meth c ls hx hb hr hml hown hts hlocks hP hK hD hS hl
  have hown : s.vm.findClass RX0 = some m.cls := hown
  have hl : lv_has ls 5 [(0, .ref (a0 0)), (1, .ref (a1 0)), (2, .int x2), (3, .int x3)] := hl
  unfold F_X0_begin at hF
  refine lv_aload_n hx hb dX0_begin_0 rfl (lv_at hl 0 rfl) ?_
  refine lv_iload_n hx hb dX0_begin_1 rfl (lv_at hl 3 rfl) ?_
  obtain ⟨v2, h2, hF⟩ := bd hF
  refine cRe (va_runS (As := [.int x3]) (rest := [.ref (a0 0)]) ⟨hx, hb, hml, hown, hts⟩ (c_X4_blocksIn l D cI cS x3 v2 h2) (cwSA hts (TW.cons _) ls_X4_blocksIn ml_RX0_25 ⟨rfl, rfl⟩ ⟨(Nat.le_of_ble_eq_true rfl), (Nat.le_of_ble_eq_true rfl)⟩) (pRS hK pnil) rfl rfl hl.1 rfl (lv_room (Nat.le_of_ble_eq_true rfl)) dX0_begin_2 ⟨Nat.le_refl _, Nat.le_refl _⟩) ?_
  refine lv_bipush (v := 6) hx hb dX0_begin_5 (by decide) ?_
  refine va_mmin hx hb (hml.trans hl.1.symm) hown (hts _ (List.mem_cons_of_mem _ ml_RX0_31)) (hts _ (List.mem_cons_of_mem _ jk_min.1)) (hts _ (List.mem_cons_of_mem _ jk_min.2.1)) (hts _ (List.mem_cons_of_mem _ jk_min.2.2)) (Nat.le_of_ble_eq_true rfl) (Nat.le_of_ble_eq_true rfl) (Nat.le_of_ble_eq_true rfl) (Nat.le_of_ble_eq_true rfl) dX0_begin_7 ?_
  refine wF (ws' := pB cI cS a0 (st t0 0 0 (if 6 < v2 then 6 else v2)) ++ (pS cI cS a1 t1)) (C := RX0) (T := TX0) (N := 6) hx hb hts (fun w h => List.mem_cons_of_mem _ (inAX0 w h)) tyX0 tyX0_ok nmX0 hown hK.1 hP hD hS 0 rfl rfl 0 (by decide) (hts _ (List.mem_cons_of_mem _ fl_RX0_21)) rfl (tyX0_ok 0 (by decide)) rfl rfl (Nat.le_of_ble_eq_true rfl) rfl dX0_begin_10 (fun H locs hP hD hS => ?_)
  refine lv_aload_n hx hb dX0_begin_13 rfl (lv_at hl 0 rfl) ?_
  refine lv_iconst (v := 0) hx hb dX0_begin_14 (by decide) ?_
  refine wF (ws' := pB cI cS a0 (st (st t0 0 0 (if 6 < v2 then 6 else v2)) 0 1 0) ++ (pS cI cS a1 t1)) (C := RX0) (T := TX0) (N := 6) hx hb hts (fun w h => List.mem_cons_of_mem _ (inAX0 w h)) tyX0 tyX0_ok nmX0 hown hK.1 hP hD hS 0 rfl rfl 1 (by decide) (hts _ (List.mem_cons_of_mem _ fl_RX0_37)) rfl (tyX0_ok 1 (by decide)) rfl rfl (Nat.le_of_ble_eq_true rfl) rfl dX0_begin_15 (fun H locs hP hD hS => ?_)
  refine lv_aload_n hx hb dX0_begin_18 rfl (lv_at hl 0 rfl) ?_
  refine lv_iconst (v := 0) hx hb dX0_begin_19 (by decide) ?_
  refine wF (ws' := pB cI cS a0 (st (st (st t0 0 0 (if 6 < v2 then 6 else v2)) 0 1 0) 0 2 0) ++ (pS cI cS a1 t1)) (C := RX0) (T := TX0) (N := 6) hx hb hts (fun w h => List.mem_cons_of_mem _ (inAX0 w h)) tyX0 tyX0_ok nmX0 hown hK.1 hP hD hS 0 rfl rfl 2 (by decide) (hts _ (List.mem_cons_of_mem _ fl_RX0_40)) rfl (tyX0_ok 2 (by decide)) rfl rfl (Nat.le_of_ble_eq_true rfl) rfl dX0_begin_20 (fun H locs hP hD hS => ?_)
  refine lv_iconst (v := 0) hx hb dX0_begin_23 (by decide) ?_
  refine lv_istore (lv' := [(4, .int 0), (0, .ref (a0 0)), (1, .ref (a1 0)), (2, .int x2), (3, .int x3)]) hx hb dX0_begin_24 hl (by decide) rfl (fun ls hl => ?_)
  have L26 : ∀ (n_26 : Nat) (x4_26 : Int32) (s0_26 : ST) (H : Heap) (locs : List Loc) (ls : Array Slot), va_P D vwCl (pB cI cS a0 s0_26 ++ (pS cI cS a1 t1)) H → va_D (AD (pB cI cS a0 t0 ++ (pS cI cS a1 t1))) (pB cI cS a0 s0_26 ++ (pS cI cS a1 t1)) → va_S (AD (pB cI cS a0 t0 ++ (pS cI cS a1 t1))) s.heap H locs → lv_has ls 5 [(0, .ref (a0 0)), (1, .ref (a1 0)), (2, .int x2), (4, .int x4_26)] → F_X0_begin_L26 t1 x2 x3 (fun x4_k26 s0_k26 => F_X0_begin_J83 t1 x2 x3 s0_k26) n_26 x4_26 s0_26 = some t' → W p l e rm_X0_begin s m [.ref (a0 0), .ref (a1 0), .int x2, .int x3].toArray below meth c H locs 0 0 (MQ below (va_Qv (fun (_ : Unit) => True) (fun _ t => va_P D vwCl (pB cI cS a0 t' ++ (pS cI cS a1 t1)) t.heap) (AD (pB cI cS a0 t0 ++ (pS cI cS a1 t1)))) [.ref (a0 0), .ref (a1 0), .int x2, .int x3].toArray s 0 0 (AD (pB cI cS a0 t0 ++ (pS cI cS a1 t1)))) (F0 m 26 ls []) := by
    intro n_26
    induction n_26 with
    | zero => intro x4_26 s0_26 H locs ls hP hD hS hl hF; exact nomatch hF
    | succ n_26 ih26 =>
      intro x4_26 s0_26 H locs ls hP hD hS hl hF
      rw [F_X0_begin_L26.eq_2] at hF
      refine lv_iload hx hb dX0_begin_26 (lv_at hl 3 rfl) ?_
      refine lv_aload_n hx hb dX0_begin_28 rfl (lv_at hl 0 rfl) ?_
      refine va_get (D := D) (ci := 0) (v := .int (s0_26 0 0)) (C := RX0) (T := TX0) (N := 6) hx hb hts (fun w h => List.mem_cons_of_mem _ (inAX0 w h)) hown hK.1 hP 0 rfl rfl 0 (by decide) (hts _ (List.mem_cons_of_mem _ fl_RX0_21)) (fun _ h9 => h9) rfl dX0_begin_29 ?_
      refine lv_icmp_ge (tgt := 83) hx hb dX0_begin_32 (by decide) (fun c32 => ?_) (fun c32 => ?_)
      · replace hF := ip c32 hF
        have hF : F_X0_begin_J83 t1 x2 x3 s0_26 = some t' := hF
        unfold F_X0_begin_J83 at hF
        exact W.vret hx hb hr (fun t ht hW => ⟨⟨(), rfl, trivial, by show va_P _ _ _ t.heap; rw [ht, ← (Option.some.inj hF)]; exact hP⟩, hS.F ht⟩) hS.2.2 dX0_begin_83
      · replace hF := iq c32 hF
        refine lv_aload_n hx hb dX0_begin_35 rfl (lv_at hl 0 rfl) ?_
        refine va_get (D := D) (ci := 0) (v := .ref (a0 1)) (C := RX0) (T := TX0) (N := 6) hx hb hts (fun w h => List.mem_cons_of_mem _ (inAX0 w h)) hown hK.1 hP 0 rfl rfl 3 (by decide) (hts _ (List.mem_cons_of_mem _ fl_RX0_9)) (fun _ h9 => h9) rfl dX0_begin_36 ?_
        refine lv_iload hx hb dX0_begin_39 (lv_at hl 3 rfl) ?_
        refine lv_aload_n hx hb dX0_begin_41 rfl (lv_at hl 1 rfl) ?_
        refine lv_iload_n hx hb dX0_begin_42 rfl (lv_at hl 2 rfl) ?_
        refine lv_iload hx hb dX0_begin_43 (lv_at hl 3 rfl) ?_
        obtain ⟨v45, h45, hF⟩ := bd hF
        refine cRe (va_runS (As := [.ref (a1 0), .int x2, .int x4_26]) (rest := [.int x4_26, .ref (a0 1)]) ⟨hx, hb, hml, hown, hts⟩ (c_X4_kindOf l D cI cS a1 t1 x2 x4_26 v45 h45) (cwSA hts (TW.cons _) ls_X4_kindOf ml_RX0_43 ⟨rfl, rfl⟩ ⟨(Nat.le_of_ble_eq_true rfl), (Nat.le_of_ble_eq_true rfl)⟩) (pRS hK (hP.sub (ws' := pS cI cS a1 t1) [4, 5] rfl)) rfl rfl hl.1 rfl (lv_room (Nat.le_of_ble_eq_true rfl)) dX0_begin_45 ⟨Nat.le_refl _, Nat.le_refl _⟩) ?_
        obtain ⟨k48, h48, hF⟩ := bd hF
        refine wI (ws' := pB cI cS a0 (st s0_26 1 k48 v45) ++ (pS cI cS a1 t1)) hx hb hK.1 hP hD hS 1 0 rfl rfl h48 rfl dX0_begin_48 (fun H locs hP hD hS => ?_)
        refine lv_aload_n hx hb dX0_begin_49 rfl (lv_at hl 0 rfl) ?_
        refine va_get (D := D) (ci := 0) (v := .ref (a0 2)) (C := RX0) (T := TX0) (N := 6) hx hb hts (fun w h => List.mem_cons_of_mem _ (inAX0 w h)) hown hK.1 hP 0 rfl rfl 4 (by decide) (hts _ (List.mem_cons_of_mem _ fl_RX0_15)) (fun _ h9 => h9) rfl dX0_begin_50 ?_
        refine lv_iload hx hb dX0_begin_53 (lv_at hl 3 rfl) ?_
        refine lv_aload_n hx hb dX0_begin_55 rfl (lv_at hl 1 rfl) ?_
        refine lv_iload_n hx hb dX0_begin_56 rfl (lv_at hl 2 rfl) ?_
        refine lv_iload hx hb dX0_begin_57 (lv_at hl 3 rfl) ?_
        obtain ⟨v59, h59, hF⟩ := bd hF
        refine cRe (va_runS (As := [.ref (a1 0), .int x2, .int x4_26]) (rest := [.int x4_26, .ref (a0 2)]) ⟨hx, hb, hml, hown, hts⟩ (c_X4_shapeOf l D cI cS a1 t1 x2 x4_26 v59 h59) (cwSA hts (TW.cons _) ls_X4_shapeOf ml_RX0_46 ⟨rfl, rfl⟩ ⟨(Nat.le_of_ble_eq_true rfl), (Nat.le_of_ble_eq_true rfl)⟩) (pRS hK (hP.sub (ws' := pS cI cS a1 t1) [4, 5] rfl)) rfl rfl hl.1 rfl (lv_room (Nat.le_of_ble_eq_true rfl)) dX0_begin_59 ⟨Nat.le_refl _, Nat.le_refl _⟩) ?_
        obtain ⟨k62, h62, hF⟩ := bd hF
        refine wI (ws' := pB cI cS a0 (st (st s0_26 1 k48 v45) 2 k62 v59) ++ (pS cI cS a1 t1)) hx hb hK.1 hP hD hS 2 0 rfl rfl h62 rfl dX0_begin_62 (fun H locs hP hD hS => ?_)
        refine lv_aload_n hx hb dX0_begin_63 rfl (lv_at hl 0 rfl) ?_
        refine va_get (D := D) (ci := 0) (v := .ref (a0 3)) (C := RX0) (T := TX0) (N := 6) hx hb hts (fun w h => List.mem_cons_of_mem _ (inAX0 w h)) hown hK.1 hP 0 rfl rfl 5 (by decide) (hts _ (List.mem_cons_of_mem _ fl_RX0_18)) (fun _ h9 => h9) rfl dX0_begin_64 ?_
        refine lv_iload hx hb dX0_begin_67 (lv_at hl 3 rfl) ?_
        refine lv_aload_n hx hb dX0_begin_69 rfl (lv_at hl 1 rfl) ?_
        refine lv_iload_n hx hb dX0_begin_70 rfl (lv_at hl 2 rfl) ?_
        refine lv_iload hx hb dX0_begin_71 (lv_at hl 3 rfl) ?_
        obtain ⟨v73, h73, hF⟩ := bd hF
        refine cRe (va_runS (As := [.ref (a1 0), .int x2, .int x4_26]) (rest := [.int x4_26, .ref (a0 3)]) ⟨hx, hb, hml, hown, hts⟩ (c_X4_paceOf l D cI cS a1 t1 x2 x4_26 v73 h73) (cwSA hts (TW.cons _) ls_X4_paceOf ml_RX0_48 ⟨rfl, rfl⟩ ⟨(Nat.le_of_ble_eq_true rfl), (Nat.le_of_ble_eq_true rfl)⟩) (pRS hK (hP.sub (ws' := pS cI cS a1 t1) [4, 5] rfl)) rfl rfl hl.1 rfl (lv_room (Nat.le_of_ble_eq_true rfl)) dX0_begin_73 ⟨Nat.le_refl _, Nat.le_refl _⟩) ?_
        obtain ⟨k76, h76, hF⟩ := bd hF
        refine wI (ws' := pB cI cS a0 (st (st (st s0_26 1 k48 v45) 2 k62 v59) 3 k76 v73) ++ (pS cI cS a1 t1)) hx hb hK.1 hP hD hS 3 0 rfl rfl h76 rfl dX0_begin_76 (fun H locs hP hD hS => ?_)
        refine lv_iinc (v := (x4_26 + 1)) (lv' := [(4, .int (x4_26 + 1)), (0, .ref (a0 0)), (1, .ref (a1 0)), (2, .int x2)]) hx hb dX0_begin_77 hl (k := 3) rfl rfl (by decide) rfl (fun ls hl => ?_)
        refine lv_goto (tgt := 26) hx hb dX0_begin_80 (by decide) ?_
        exact ih26 (x4_26 + 1) (st (st (st s0_26 1 k48 v45) 2 k62 v59) 3 k76 v73) _ _ _ hP hD hS (lv_sub hl [1, 2, 3, 0] rfl) hF
  exact L26 1000 0 (st (st (st t0 0 0 (if 6 < v2 then 6 else v2)) 0 1 0) 0 2 0) _ _ _ hP hD hS (lv_sub hl [1, 2, 3, 0] rfl) hF
noncomputable def F_X0_copyFrom (t0 : ST) (t1 : ST) : Option ST :=
  (cpy 6 6 (t1 1) (t0 1) 0 0 6).bind fun g36 =>
  (cpy 6 6 (t1 2) (t0 2) 0 0 6).bind fun g51 =>
  (cpy 6 6 (t1 3) (t0 3) 0 0 6).bind fun g66 =>
  some (sr (sr (sr (st (st (st t0 0 0 (t1 0 0)) 0 1 (t1 0 1)) 0 2 (t1 0 2)) 1 g36) 2 g51) 3 g66)
abbrev rm_X0_copyFrom : Room := { frames := 1, cells := 0, slots := 0, locals := 40 }
set_option maxHeartbeats 4000000 in
set_option maxRecDepth 100000 in
theorem c_X0_copyFrom (l : Launch) (D : va_G) (cI cS : ClassId) (a0 : Nat → Nat) (a1 : Nat → Nat) (t0 : ST) (t1 : ST) (t' : ST) (hF : F_X0_copyFrom t0 t1 = some t') : Met l yX0_copyFrom (Cond.code yX0_copyFrom cX0_copyFrom 2 none :: ALL) rm_X0_copyFrom (PreW D cI cS [.ref (a0 0), .ref (a1 0)] (pB cI cS a0 t0 ++ (pB cI cS a1 t1))) (va_Qv (fun (_ : Unit) => True) (fun _ t => va_P D vwCl (pB cI cS a0 t' ++ (pB cI cS a1 t1)) t.heap) (AD (pB cI cS a0 t0 ++ (pB cI cS a1 t1)))) 0 0 (AD (pB cI cS a0 t0 ++ (pB cI cS a1 t1))) := by
  refine mW l D cI cS (by decide) (Nat.le_of_ble_eq_true rfl) ?_
  intro p e s m below meth c ls hx hb hr hml hown hts hlocks hP hK hD hS hl
  have hown : s.vm.findClass RX0 = some m.cls := hown
  have hl : lv_has ls 2 [(0, .ref (a0 0)), (1, .ref (a1 0))] := hl
  unfold F_X0_copyFrom at hF
  refine lv_aload_n hx hb dX0_copyFrom_0 rfl (lv_at hl 0 rfl) ?_
  refine lv_aload_n hx hb dX0_copyFrom_1 rfl (lv_at hl 1 rfl) ?_
  refine va_get (D := D) (ci := 0) (v := .int (t1 0 0)) (C := RX0) (T := TX0) (N := 6) hx hb hts (fun w h => List.mem_cons_of_mem _ (inAX0 w h)) hown hK.1 hP 4 rfl rfl 0 (by decide) (hts _ (List.mem_cons_of_mem _ fl_RX0_21)) (fun _ h9 => h9) rfl dX0_copyFrom_2 ?_
  refine wF (ws' := pB cI cS a0 (st t0 0 0 (t1 0 0)) ++ (pB cI cS a1 t1)) (C := RX0) (T := TX0) (N := 6) hx hb hts (fun w h => List.mem_cons_of_mem _ (inAX0 w h)) tyX0 tyX0_ok nmX0 hown hK.1 hP hD hS 0 rfl rfl 0 (by decide) (hts _ (List.mem_cons_of_mem _ fl_RX0_21)) rfl (tyX0_ok 0 (by decide)) rfl rfl (Nat.le_of_ble_eq_true rfl) rfl dX0_copyFrom_5 (fun H locs hP hD hS => ?_)
  refine lv_aload_n hx hb dX0_copyFrom_8 rfl (lv_at hl 0 rfl) ?_
  refine lv_aload_n hx hb dX0_copyFrom_9 rfl (lv_at hl 1 rfl) ?_
  refine va_get (D := D) (ci := 0) (v := .int (t1 0 1)) (C := RX0) (T := TX0) (N := 6) hx hb hts (fun w h => List.mem_cons_of_mem _ (inAX0 w h)) hown hK.1 hP 4 rfl rfl 1 (by decide) (hts _ (List.mem_cons_of_mem _ fl_RX0_37)) (fun _ h9 => h9) rfl dX0_copyFrom_10 ?_
  refine wF (ws' := pB cI cS a0 (st (st t0 0 0 (t1 0 0)) 0 1 (t1 0 1)) ++ (pB cI cS a1 t1)) (C := RX0) (T := TX0) (N := 6) hx hb hts (fun w h => List.mem_cons_of_mem _ (inAX0 w h)) tyX0 tyX0_ok nmX0 hown hK.1 hP hD hS 0 rfl rfl 1 (by decide) (hts _ (List.mem_cons_of_mem _ fl_RX0_37)) rfl (tyX0_ok 1 (by decide)) rfl rfl (Nat.le_of_ble_eq_true rfl) rfl dX0_copyFrom_13 (fun H locs hP hD hS => ?_)
  refine lv_aload_n hx hb dX0_copyFrom_16 rfl (lv_at hl 0 rfl) ?_
  refine lv_aload_n hx hb dX0_copyFrom_17 rfl (lv_at hl 1 rfl) ?_
  refine va_get (D := D) (ci := 0) (v := .int (t1 0 2)) (C := RX0) (T := TX0) (N := 6) hx hb hts (fun w h => List.mem_cons_of_mem _ (inAX0 w h)) hown hK.1 hP 4 rfl rfl 2 (by decide) (hts _ (List.mem_cons_of_mem _ fl_RX0_40)) (fun _ h9 => h9) rfl dX0_copyFrom_18 ?_
  refine wF (ws' := pB cI cS a0 (st (st (st t0 0 0 (t1 0 0)) 0 1 (t1 0 1)) 0 2 (t1 0 2)) ++ (pB cI cS a1 t1)) (C := RX0) (T := TX0) (N := 6) hx hb hts (fun w h => List.mem_cons_of_mem _ (inAX0 w h)) tyX0 tyX0_ok nmX0 hown hK.1 hP hD hS 0 rfl rfl 2 (by decide) (hts _ (List.mem_cons_of_mem _ fl_RX0_40)) rfl (tyX0_ok 2 (by decide)) rfl rfl (Nat.le_of_ble_eq_true rfl) rfl dX0_copyFrom_21 (fun H locs hP hD hS => ?_)
  refine lv_aload_n hx hb dX0_copyFrom_24 rfl (lv_at hl 1 rfl) ?_
  refine va_get (D := D) (ci := 0) (v := .ref (a1 1)) (C := RX0) (T := TX0) (N := 6) hx hb hts (fun w h => List.mem_cons_of_mem _ (inAX0 w h)) hown hK.1 hP 4 rfl rfl 3 (by decide) (hts _ (List.mem_cons_of_mem _ fl_RX0_9)) (fun _ h9 => h9) rfl dX0_copyFrom_25 ?_
  refine lv_iconst (v := 0) hx hb dX0_copyFrom_28 (by decide) ?_
  refine lv_aload_n hx hb dX0_copyFrom_29 rfl (lv_at hl 0 rfl) ?_
  refine va_get (D := D) (ci := 0) (v := .ref (a0 1)) (C := RX0) (T := TX0) (N := 6) hx hb hts (fun w h => List.mem_cons_of_mem _ (inAX0 w h)) hown hK.1 hP 0 rfl rfl 3 (by decide) (hts _ (List.mem_cons_of_mem _ fl_RX0_9)) (fun _ h9 => h9) rfl dX0_copyFrom_30 ?_
  refine lv_iconst (v := 0) hx hb dX0_copyFrom_33 (by decide) ?_
  refine lv_bipush (v := 6) hx hb dX0_copyFrom_34 (by decide) ?_
  obtain ⟨g36, h36, hF⟩ := bd hF
  refine wC (ws' := pB cI cS a0 (sr (st (st (st t0 0 0 (t1 0 0)) 0 1 (t1 0 1)) 0 2 (t1 0 2)) 1 g36) ++ (pB cI cS a1 t1)) hx hb (hml.trans hl.1.symm) hown (hts _ (List.mem_cons_of_mem _ ml_RX0_50)) (hts _ (List.mem_cons_of_mem _ jk_cpy.1)) (hts _ (List.mem_cons_of_mem _ jk_cpy.2.1)) (hts _ (List.mem_cons_of_mem _ jk_cpy.2.2)) hK.1 hP hD hS 5 1 0 rfl rfl rfl h36 rfl (Nat.le_of_ble_eq_true rfl) (Nat.le_of_ble_eq_true rfl) dX0_copyFrom_36 (fun H locs hP hD hS => ?_)
  refine lv_aload_n hx hb dX0_copyFrom_39 rfl (lv_at hl 1 rfl) ?_
  refine va_get (D := D) (ci := 0) (v := .ref (a1 2)) (C := RX0) (T := TX0) (N := 6) hx hb hts (fun w h => List.mem_cons_of_mem _ (inAX0 w h)) hown hK.1 hP 4 rfl rfl 4 (by decide) (hts _ (List.mem_cons_of_mem _ fl_RX0_15)) (fun _ h9 => h9) rfl dX0_copyFrom_40 ?_
  refine lv_iconst (v := 0) hx hb dX0_copyFrom_43 (by decide) ?_
  refine lv_aload_n hx hb dX0_copyFrom_44 rfl (lv_at hl 0 rfl) ?_
  refine va_get (D := D) (ci := 0) (v := .ref (a0 2)) (C := RX0) (T := TX0) (N := 6) hx hb hts (fun w h => List.mem_cons_of_mem _ (inAX0 w h)) hown hK.1 hP 0 rfl rfl 4 (by decide) (hts _ (List.mem_cons_of_mem _ fl_RX0_15)) (fun _ h9 => h9) rfl dX0_copyFrom_45 ?_
  refine lv_iconst (v := 0) hx hb dX0_copyFrom_48 (by decide) ?_
  refine lv_bipush (v := 6) hx hb dX0_copyFrom_49 (by decide) ?_
  obtain ⟨g51, h51, hF⟩ := bd hF
  refine wC (ws' := pB cI cS a0 (sr (sr (st (st (st t0 0 0 (t1 0 0)) 0 1 (t1 0 1)) 0 2 (t1 0 2)) 1 g36) 2 g51) ++ (pB cI cS a1 t1)) hx hb (hml.trans hl.1.symm) hown (hts _ (List.mem_cons_of_mem _ ml_RX0_50)) (hts _ (List.mem_cons_of_mem _ jk_cpy.1)) (hts _ (List.mem_cons_of_mem _ jk_cpy.2.1)) (hts _ (List.mem_cons_of_mem _ jk_cpy.2.2)) hK.1 hP hD hS 6 2 0 rfl rfl rfl h51 rfl (Nat.le_of_ble_eq_true rfl) (Nat.le_of_ble_eq_true rfl) dX0_copyFrom_51 (fun H locs hP hD hS => ?_)
  refine lv_aload_n hx hb dX0_copyFrom_54 rfl (lv_at hl 1 rfl) ?_
  refine va_get (D := D) (ci := 0) (v := .ref (a1 3)) (C := RX0) (T := TX0) (N := 6) hx hb hts (fun w h => List.mem_cons_of_mem _ (inAX0 w h)) hown hK.1 hP 4 rfl rfl 5 (by decide) (hts _ (List.mem_cons_of_mem _ fl_RX0_18)) (fun _ h9 => h9) rfl dX0_copyFrom_55 ?_
  refine lv_iconst (v := 0) hx hb dX0_copyFrom_58 (by decide) ?_
  refine lv_aload_n hx hb dX0_copyFrom_59 rfl (lv_at hl 0 rfl) ?_
  refine va_get (D := D) (ci := 0) (v := .ref (a0 3)) (C := RX0) (T := TX0) (N := 6) hx hb hts (fun w h => List.mem_cons_of_mem _ (inAX0 w h)) hown hK.1 hP 0 rfl rfl 5 (by decide) (hts _ (List.mem_cons_of_mem _ fl_RX0_18)) (fun _ h9 => h9) rfl dX0_copyFrom_60 ?_
  refine lv_iconst (v := 0) hx hb dX0_copyFrom_63 (by decide) ?_
  refine lv_bipush (v := 6) hx hb dX0_copyFrom_64 (by decide) ?_
  obtain ⟨g66, h66, hF⟩ := bd hF
  refine wC (ws' := pB cI cS a0 (sr (sr (sr (st (st (st t0 0 0 (t1 0 0)) 0 1 (t1 0 1)) 0 2 (t1 0 2)) 1 g36) 2 g51) 3 g66) ++ (pB cI cS a1 t1)) hx hb (hml.trans hl.1.symm) hown (hts _ (List.mem_cons_of_mem _ ml_RX0_50)) (hts _ (List.mem_cons_of_mem _ jk_cpy.1)) (hts _ (List.mem_cons_of_mem _ jk_cpy.2.1)) (hts _ (List.mem_cons_of_mem _ jk_cpy.2.2)) hK.1 hP hD hS 7 3 0 rfl rfl rfl h66 rfl (Nat.le_of_ble_eq_true rfl) (Nat.le_of_ble_eq_true rfl) dX0_copyFrom_66 (fun H locs hP hD hS => ?_)
  exact W.vret hx hb hr (fun t ht hW => ⟨⟨(), rfl, trivial, by show va_P _ _ _ t.heap; rw [ht, ← (Option.some.inj hF)]; exact hP⟩, hS.F ht⟩) hS.2.2 dX0_copyFrom_69
noncomputable def F_X0_stepsADay (t0 : ST) (x1 : Int32) : Option Int32 :=
  (rd 6 (t0 1) x1).bind fun v5 =>
  if v5 = 1 then
    (rd 6 (t0 3) x1).bind fun v46 =>
    some (v46 + 1)
  else
  if v5 = 2 then
    (rd 6 (t0 3) x1).bind fun v38 =>
    some (2 * v38)
  else
  (rd 6 (t0 3) x1).bind fun v55 =>
  some v55
abbrev rm_X0_stepsADay : Room := { frames := 0, cells := 0, slots := 0, locals := 0 }
set_option maxHeartbeats 4000000 in
set_option maxRecDepth 100000 in
theorem c_X0_stepsADay (l : Launch) (D : va_G) (cI cS : ClassId) (a0 : Nat → Nat) (t0 : ST) (x1 : Int32) (r : Int32) (hF : F_X0_stepsADay t0 x1 = some r) : Met l yX0_stepsADay (Cond.code yX0_stepsADay cX0_stepsADay 2 (some .int) :: ALL) rm_X0_stepsADay (PreR D cI cS [.ref (a0 0), .int x1] (pB cI cS a0 t0)) (vp_Si (fun x => x = r)) 0 0 (fun _ => False) := by
  refine mR l D cI cS (by decide) (Nat.le_of_ble_eq_true rfl) ?_
  intro p e s m below meth c ls hx hb hr hml hown hts hlocks hP hK hl
  have hown : s.vm.findClass RX0 = some m.cls := hown
  have hl : lv_has ls 2 [(0, .ref (a0 0)), (1, .int x1)] := hl
  unfold F_X0_stepsADay at hF
  refine lv_aload_n hx hb dX0_stepsADay_0 rfl (lv_at hl 0 rfl) ?_
  refine va_get (D := D) (ci := 0) (v := .ref (a0 1)) (C := RX0) (T := TX0) (N := 6) hx hb hts (fun w h => List.mem_cons_of_mem _ (inAX0 w h)) hown hK.1 hP 0 rfl rfl 3 (by decide) (hts _ (List.mem_cons_of_mem _ fl_RX0_9)) (fun _ h9 => h9) rfl dX0_stepsADay_1 ?_
  refine lv_iload_n hx hb dX0_stepsADay_4 rfl (lv_at hl 1 rfl) ?_
  obtain ⟨v5, h5, hF⟩ := bd hF
  refine rI hx hb hK.1 hP 1 0 rfl rfl h5 dX0_stepsADay_5 ?_
  by_cases c6_0 : v5 = 1
  · replace hF := ip c6_0 hF
    refine lv_lookup (off := 35) (tgt := 41) hx hb dX0_stepsADay_6 (by decide) (by rw [c6_0]; decide) (by decide) ?_
    refine lv_aload_n hx hb dX0_stepsADay_41 rfl (lv_at hl 0 rfl) ?_
    refine va_get (D := D) (ci := 0) (v := .ref (a0 3)) (C := RX0) (T := TX0) (N := 6) hx hb hts (fun w h => List.mem_cons_of_mem _ (inAX0 w h)) hown hK.1 hP 0 rfl rfl 5 (by decide) (hts _ (List.mem_cons_of_mem _ fl_RX0_18)) (fun _ h9 => h9) rfl dX0_stepsADay_42 ?_
    refine lv_iload_n hx hb dX0_stepsADay_45 rfl (lv_at hl 1 rfl) ?_
    obtain ⟨v46, h46, hF⟩ := bd hF
    refine rI hx hb hK.1 hP 3 0 rfl rfl h46 dX0_stepsADay_46 ?_
    refine lv_iconst (v := 1) hx hb dX0_stepsADay_47 (by decide) ?_
    refine lv_iadd hx hb dX0_stepsADay_48 ?_
    exact W.iret hx hb hr (fun t ht hW => ⟨_, rfl, (Option.some.inj hF), ht⟩) (fun _ h => nomatch h) dX0_stepsADay_49
  replace hF := iq c6_0 hF
  by_cases c6_1 : v5 = 2
  · replace hF := ip c6_1 hF
    refine lv_lookup (off := 26) (tgt := 32) hx hb dX0_stepsADay_6 (by decide) (by rw [c6_1]; decide) (by decide) ?_
    refine lv_iconst (v := 2) hx hb dX0_stepsADay_32 (by decide) ?_
    refine lv_aload_n hx hb dX0_stepsADay_33 rfl (lv_at hl 0 rfl) ?_
    refine va_get (D := D) (ci := 0) (v := .ref (a0 3)) (C := RX0) (T := TX0) (N := 6) hx hb hts (fun w h => List.mem_cons_of_mem _ (inAX0 w h)) hown hK.1 hP 0 rfl rfl 5 (by decide) (hts _ (List.mem_cons_of_mem _ fl_RX0_18)) (fun _ h9 => h9) rfl dX0_stepsADay_34 ?_
    refine lv_iload_n hx hb dX0_stepsADay_37 rfl (lv_at hl 1 rfl) ?_
    obtain ⟨v38, h38, hF⟩ := bd hF
    refine rI hx hb hK.1 hP 3 0 rfl rfl h38 dX0_stepsADay_38 ?_
    refine lv_imul hx hb dX0_stepsADay_39 ?_
    exact W.iret hx hb hr (fun t ht hW => ⟨_, rfl, (Option.some.inj hF), ht⟩) (fun _ h => nomatch h) dX0_stepsADay_40
  replace hF := iq c6_1 hF
  refine lv_lookup (off := 44) (tgt := 50) hx hb dX0_stepsADay_6 (by decide) (by show Op.lookupswitch.offset [(1, 35), (2, 26)] 44 _ = _; rw [lv_osw (a := 1) c6_0 rfl, lv_osw (a := 2) c6_1 rfl]; rfl) (by decide) ?_
  refine lv_aload_n hx hb dX0_stepsADay_50 rfl (lv_at hl 0 rfl) ?_
  refine va_get (D := D) (ci := 0) (v := .ref (a0 3)) (C := RX0) (T := TX0) (N := 6) hx hb hts (fun w h => List.mem_cons_of_mem _ (inAX0 w h)) hown hK.1 hP 0 rfl rfl 5 (by decide) (hts _ (List.mem_cons_of_mem _ fl_RX0_18)) (fun _ h9 => h9) rfl dX0_stepsADay_51 ?_
  refine lv_iload_n hx hb dX0_stepsADay_54 rfl (lv_at hl 1 rfl) ?_
  obtain ⟨v55, h55, hF⟩ := bd hF
  refine rI hx hb hK.1 hP 3 0 rfl rfl h55 dX0_stepsADay_55 ?_
  exact W.iret hx hb hr (fun t ht hW => ⟨_, rfl, (Option.some.inj hF), ht⟩) (fun _ h => nomatch h) dX0_stepsADay_56
noncomputable def F_X0_isLookedAt (t0 : ST) (x1 : Int32) : Option Int32 :=
  if (((t0 0 2) >>> (x1 &&& 31)) &&& 1) = 1 then
    some 1
  else
  some 0
abbrev rm_X0_isLookedAt : Room := { frames := 0, cells := 0, slots := 0, locals := 0 }
set_option maxHeartbeats 4000000 in
set_option maxRecDepth 100000 in
theorem c_X0_isLookedAt (l : Launch) (D : va_G) (cI cS : ClassId) (a0 : Nat → Nat) (t0 : ST) (x1 : Int32) (r : Int32) (hF : F_X0_isLookedAt t0 x1 = some r) : Met l yX0_isLookedAt (Cond.code yX0_isLookedAt cX0_isLookedAt 2 (some .boolean) :: ALL) rm_X0_isLookedAt (PreR D cI cS [.ref (a0 0), .int x1] (pB cI cS a0 t0)) (vp_Si (fun x => x = r ∧ (x = 0 ∨ x = 1))) 0 0 (fun _ => False) := by
  refine mR l D cI cS (by decide) (Nat.le_of_ble_eq_true rfl) ?_
  intro p e s m below meth c ls hx hb hr hml hown hts hlocks hP hK hl
  have hown : s.vm.findClass RX0 = some m.cls := hown
  have hl : lv_has ls 2 [(0, .ref (a0 0)), (1, .int x1)] := hl
  unfold F_X0_isLookedAt at hF
  refine lv_aload_n hx hb dX0_isLookedAt_0 rfl (lv_at hl 0 rfl) ?_
  refine va_get (D := D) (ci := 0) (v := .int (t0 0 2)) (C := RX0) (T := TX0) (N := 6) hx hb hts (fun w h => List.mem_cons_of_mem _ (inAX0 w h)) hown hK.1 hP 0 rfl rfl 2 (by decide) (hts _ (List.mem_cons_of_mem _ fl_RX0_40)) (fun _ h9 => h9) rfl dX0_isLookedAt_1 ?_
  refine lv_iload_n hx hb dX0_isLookedAt_4 rfl (lv_at hl 1 rfl) ?_
  refine lv_ishr hx hb dX0_isLookedAt_5 ?_
  refine lv_iconst (v := 1) hx hb dX0_isLookedAt_6 (by decide) ?_
  refine lv_iand hx hb dX0_isLookedAt_7 ?_
  refine lv_iconst (v := 1) hx hb dX0_isLookedAt_8 (by decide) ?_
  refine lv_icmp_ne (tgt := 16) hx hb dX0_isLookedAt_9 (by decide) (fun c9 => ?_) (fun c9 => ?_)
  · replace hF := iq c9 hF
    refine lv_iconst (v := 0) hx hb dX0_isLookedAt_16 (by decide) ?_
    exact W.zret hx hb hr rfl (fun t ht hW => ⟨_, rfl, ⟨(Option.some.inj hF), Or.inl rfl⟩, ht⟩) (fun _ h => nomatch h) dX0_isLookedAt_17
  · replace hF := ip c9 hF
    refine lv_iconst (v := 1) hx hb dX0_isLookedAt_12 (by decide) ?_
    refine lv_goto (tgt := 17) hx hb dX0_isLookedAt_13 (by decide) ?_
    exact W.zret hx hb hr rfl (fun t ht hW => ⟨_, rfl, ⟨(Option.some.inj hF), Or.inr rfl⟩, ht⟩) (fun _ h => nomatch h) dX0_isLookedAt_17
noncomputable def F_X6_isShape (x0 : Int32) : Option Int32 :=
  if x0 < 0 then
    some 0
  else
  if 64 ≤ x0 then
    some 0
  else
  some 1
abbrev rm_X6_isShape : Room := { frames := 0, cells := 0, slots := 0, locals := 0 }
set_option maxHeartbeats 4000000 in
set_option maxRecDepth 100000 in
theorem c_X6_isShape (l : Launch) (D : va_G) (cI cS : ClassId) (x0 : Int32) (r : Int32) (hF : F_X6_isShape x0 = some r) : Met l yX6_isShape (Cond.code yX6_isShape cX6_isShape 1 (some .boolean) :: ALL) rm_X6_isShape (PreR D cI cS [.int x0] ([])) (vp_Si (fun x => x = r ∧ (x = 0 ∨ x = 1))) 0 0 (fun _ => False) := by
  refine mR l D cI cS (by decide) (Nat.le_of_ble_eq_true rfl) ?_
  intro p e s m below meth c ls hx hb hr hml hown hts hlocks hP hK hl
  have hown : s.vm.findClass RX6 = some m.cls := hown
  have hl : lv_has ls 1 [(0, .int x0)] := hl
  unfold F_X6_isShape at hF
  refine lv_iload_n hx hb dX6_isShape_0 rfl (lv_at hl 0 rfl) ?_
  refine lv_if_lt (tgt := 14) hx hb dX6_isShape_1 (by decide) (fun c1 => ?_) (fun c1 => ?_)
  · replace hF := ip c1 hF
    refine lv_iconst (v := 0) hx hb dX6_isShape_14 (by decide) ?_
    exact W.zret hx hb hr rfl (fun t ht hW => ⟨_, rfl, ⟨(Option.some.inj hF), Or.inl rfl⟩, ht⟩) (fun _ h => nomatch h) dX6_isShape_15
  · replace hF := iq c1 hF
    refine lv_iload_n hx hb dX6_isShape_4 rfl (lv_at hl 0 rfl) ?_
    refine lv_bipush (v := 64) hx hb dX6_isShape_5 (by decide) ?_
    refine lv_icmp_ge (tgt := 14) hx hb dX6_isShape_7 (by decide) (fun c7 => ?_) (fun c7 => ?_)
    · replace hF := ip c7 hF
      refine lv_iconst (v := 0) hx hb dX6_isShape_14 (by decide) ?_
      exact W.zret hx hb hr rfl (fun t ht hW => ⟨_, rfl, ⟨(Option.some.inj hF), Or.inl rfl⟩, ht⟩) (fun _ h => nomatch h) dX6_isShape_15
    · replace hF := iq c7 hF
      refine lv_iconst (v := 1) hx hb dX6_isShape_10 (by decide) ?_
      refine lv_goto (tgt := 15) hx hb dX6_isShape_11 (by decide) ?_
      exact W.zret hx hb hr rfl (fun t ht hW => ⟨_, rfl, ⟨(Option.some.inj hF), Or.inr rfl⟩, ht⟩) (fun _ h => nomatch h) dX6_isShape_15
noncomputable def F_X1_after (t0 : ST) (x1 : Int32) (x2 : Int32) : Option Int32 :=
  (F_X6_isShape x1).bind fun v1 =>
  if v1 = 0 then
    some x1
  else
  if x2 < 0 then
    some x1
  else
  if x2 ≤ 8 then
    (rd 576 (t0 1) ((x2 * 64) + x1)).bind fun v29 =>
    some v29
  else
  some x1
abbrev rm_X1_after : Room := { frames := 1, cells := 0, slots := 0, locals := 20 }
set_option maxHeartbeats 4000000 in
set_option maxRecDepth 100000 in
theorem c_X1_after (l : Launch) (D : va_G) (cI cS : ClassId) (a0 : Nat → Nat) (t0 : ST) (x1 : Int32) (x2 : Int32) (r : Int32) (hF : F_X1_after t0 x1 x2 = some r) : Met l yX1_after (Cond.code yX1_after cX1_after 3 (some .int) :: ALL) rm_X1_after (PreR D cI cS [.ref (a0 0), .int x1, .int x2] (pL cI cS a0 t0)) (vp_Si (fun x => x = r)) 0 0 (fun _ => False) := by
  refine mR l D cI cS (by decide) (Nat.le_of_ble_eq_true rfl) ?_
  intro p e s m below meth c ls hx hb hr hml hown hts hlocks hP hK hl
  have hown : s.vm.findClass RX1 = some m.cls := hown
  have hl : lv_has ls 3 [(0, .ref (a0 0)), (1, .int x1), (2, .int x2)] := hl
  unfold F_X1_after at hF
  refine lv_iload_n hx hb dX1_after_0 rfl (lv_at hl 1 rfl) ?_
  obtain ⟨v1, h1, hF⟩ := bd hF
  refine cRb (va_runSN (As := [.int x1]) (rest := []) ⟨hx, hb, hml, hown, hts⟩ (c_X6_isShape l D cI cS x1 v1 h1) (cwNA hts (TW.cons _) ls_X6_isShape (hK.2.2 _ nm_RX1_30) ⟨rfl, rfl⟩ ⟨(Nat.le_of_ble_eq_true rfl), (Nat.le_of_ble_eq_true rfl)⟩) (pRS hK pnil) rfl rfl hl.1 rfl (lv_room (Nat.le_of_ble_eq_true rfl)) dX1_after_1 ⟨Nat.le_refl _, Nat.le_refl _⟩) (fun b1 => ?_)
  refine lv_if_eq (tgt := 17) hx hb dX1_after_4 (by decide) (fun c4 => ?_) (fun c4 => ?_)
  · replace hF := ip c4 hF
    refine lv_iload_n hx hb dX1_after_17 rfl (lv_at hl 1 rfl) ?_
    exact W.iret hx hb hr (fun t ht hW => ⟨_, rfl, (Option.some.inj hF), ht⟩) (fun _ h => nomatch h) dX1_after_18
  · replace hF := iq c4 hF
    refine lv_iload_n hx hb dX1_after_7 rfl (lv_at hl 2 rfl) ?_
    refine lv_if_lt (tgt := 17) hx hb dX1_after_8 (by decide) (fun c8 => ?_) (fun c8 => ?_)
    · replace hF := ip c8 hF
      refine lv_iload_n hx hb dX1_after_17 rfl (lv_at hl 1 rfl) ?_
      exact W.iret hx hb hr (fun t ht hW => ⟨_, rfl, (Option.some.inj hF), ht⟩) (fun _ h => nomatch h) dX1_after_18
    · replace hF := iq c8 hF
      refine lv_iload_n hx hb dX1_after_11 rfl (lv_at hl 2 rfl) ?_
      refine lv_bipush (v := 8) hx hb dX1_after_12 (by decide) ?_
      refine lv_icmp_le (tgt := 19) hx hb dX1_after_14 (by decide) (fun c14 => ?_) (fun c14 => ?_)
      · replace hF := ip c14 hF
        refine lv_aload_n hx hb dX1_after_19 rfl (lv_at hl 0 rfl) ?_
        refine va_get (D := D) (ci := 1) (v := .ref (a0 1)) (C := RX1) (T := TX1) (N := 2) hx hb hts (fun w h => List.mem_cons_of_mem _ (inAX1 w h)) hown hK.1 hP 0 rfl rfl 1 (by decide) (hts _ (List.mem_cons_of_mem _ fl_RX1_9)) (fun _ h9 => h9) rfl dX1_after_20 ?_
        refine lv_iload_n hx hb dX1_after_23 rfl (lv_at hl 2 rfl) ?_
        refine lv_bipush (v := 64) hx hb dX1_after_24 (by decide) ?_
        refine lv_imul hx hb dX1_after_26 ?_
        refine lv_iload_n hx hb dX1_after_27 rfl (lv_at hl 1 rfl) ?_
        refine lv_iadd hx hb dX1_after_28 ?_
        obtain ⟨v29, h29, hF⟩ := bd hF
        refine rI hx hb hK.1 hP 1 0 rfl rfl h29 dX1_after_29 ?_
        exact W.iret hx hb hr (fun t ht hW => ⟨_, rfl, (Option.some.inj hF), ht⟩) (fun _ h => nomatch h) dX1_after_30
      · replace hF := iq c14 hF
        refine lv_iload_n hx hb dX1_after_17 rfl (lv_at hl 1 rfl) ?_
        exact W.iret hx hb hr (fun t ht hW => ⟨_, rfl, (Option.some.inj hF), ht⟩) (fun _ h => nomatch h) dX1_after_18
noncomputable def F_X0_goOn_L2 (t1 : ST) (k : Int32 → ST → Option ST) : Nat → Int32 → ST → Option ST
  | 0, _, _ => none
  | n + 1, x2, s0 =>
    if (s0 0 0) ≤ x2 then
      k x2 s0
    else
    (F_X0_isLookedAt s0 x2).bind fun v12 =>
    if v12 = 0 then
      (rd 6 (s0 2) x2).bind fun v29 =>
      (F_X0_stepsADay s0 x2).bind fun v32 =>
      (F_X1_after t1 v29 v32).bind fun v35 =>
      (ix 6 x2).bind fun k38 =>
      (F_X0_goOn_L2 t1 k n) (x2 + 1) (st s0 2 k38 v35)
    else
    (F_X0_goOn_L2 t1 k n) (x2 + 1) s0
noncomputable def F_X0_goOn_J45 (t1 : ST) (s0 : ST) : Option ST :=
  some (st s0 0 1 ((s0 0 1) + 1))
noncomputable def F_X0_goOn (t0 : ST) (t1 : ST) : Option ST :=
  F_X0_goOn_L2 t1 (fun x2_k2 s0_k2 => F_X0_goOn_J45 t1 s0_k2) 1000 0 t0
abbrev rm_X0_goOn : Room := { frames := 2, cells := 0, slots := 0, locals := 42 }
set_option maxHeartbeats 4000000 in
set_option maxRecDepth 100000 in
theorem c_X0_goOn (l : Launch) (D : va_G) (cI cS : ClassId) (a0 : Nat → Nat) (a1 : Nat → Nat) (t0 : ST) (t1 : ST) (t' : ST) (hF : F_X0_goOn t0 t1 = some t') : Met l yX0_goOn (Cond.code yX0_goOn cX0_goOn 3 none :: ALL) rm_X0_goOn (PreW D cI cS [.ref (a0 0), .ref (a1 0)] (pB cI cS a0 t0 ++ (pL cI cS a1 t1))) (va_Qv (fun (_ : Unit) => True) (fun _ t => va_P D vwCl (pB cI cS a0 t' ++ (pL cI cS a1 t1)) t.heap) (AD (pB cI cS a0 t0 ++ (pL cI cS a1 t1)))) 0 0 (AD (pB cI cS a0 t0 ++ (pL cI cS a1 t1))) := by
  refine mW l D cI cS (by decide) (Nat.le_of_ble_eq_true rfl) ?_
  intro p e s m below meth c ls hx hb hr hml hown hts hlocks hP hK hD hS hl
  have hown : s.vm.findClass RX0 = some m.cls := hown
  have hl : lv_has ls 3 [(0, .ref (a0 0)), (1, .ref (a1 0))] := hl
  unfold F_X0_goOn at hF
  refine lv_iconst (v := 0) hx hb dX0_goOn_0 (by decide) ?_
  refine lv_istore_n (lv' := [(2, .int 0), (0, .ref (a0 0)), (1, .ref (a1 0))]) hx hb dX0_goOn_1 rfl hl (by decide) rfl (fun ls hl => ?_)
  have L2 : ∀ (n_2 : Nat) (x2_2 : Int32) (s0_2 : ST) (H : Heap) (locs : List Loc) (ls : Array Slot), va_P D vwCl (pB cI cS a0 s0_2 ++ (pL cI cS a1 t1)) H → va_D (AD (pB cI cS a0 t0 ++ (pL cI cS a1 t1))) (pB cI cS a0 s0_2 ++ (pL cI cS a1 t1)) → va_S (AD (pB cI cS a0 t0 ++ (pL cI cS a1 t1))) s.heap H locs → lv_has ls 3 [(0, .ref (a0 0)), (1, .ref (a1 0)), (2, .int x2_2)] → F_X0_goOn_L2 t1 (fun x2_k2 s0_k2 => F_X0_goOn_J45 t1 s0_k2) n_2 x2_2 s0_2 = some t' → W p l e rm_X0_goOn s m [.ref (a0 0), .ref (a1 0)].toArray below meth c H locs 0 0 (MQ below (va_Qv (fun (_ : Unit) => True) (fun _ t => va_P D vwCl (pB cI cS a0 t' ++ (pL cI cS a1 t1)) t.heap) (AD (pB cI cS a0 t0 ++ (pL cI cS a1 t1)))) [.ref (a0 0), .ref (a1 0)].toArray s 0 0 (AD (pB cI cS a0 t0 ++ (pL cI cS a1 t1)))) (F0 m 2 ls []) := by
    intro n_2
    induction n_2 with
    | zero => intro x2_2 s0_2 H locs ls hP hD hS hl hF; exact nomatch hF
    | succ n_2 ih2 =>
      intro x2_2 s0_2 H locs ls hP hD hS hl hF
      rw [F_X0_goOn_L2.eq_2] at hF
      refine lv_iload_n hx hb dX0_goOn_2 rfl (lv_at hl 2 rfl) ?_
      refine lv_aload_n hx hb dX0_goOn_3 rfl (lv_at hl 0 rfl) ?_
      refine va_get (D := D) (ci := 0) (v := .int (s0_2 0 0)) (C := RX0) (T := TX0) (N := 6) hx hb hts (fun w h => List.mem_cons_of_mem _ (inAX0 w h)) hown hK.1 hP 0 rfl rfl 0 (by decide) (hts _ (List.mem_cons_of_mem _ fl_RX0_21)) (fun _ h9 => h9) rfl dX0_goOn_4 ?_
      refine lv_icmp_ge (tgt := 45) hx hb dX0_goOn_7 (by decide) (fun c7 => ?_) (fun c7 => ?_)
      · replace hF := ip c7 hF
        have hF : F_X0_goOn_J45 t1 s0_2 = some t' := hF
        unfold F_X0_goOn_J45 at hF
        refine lv_aload_n hx hb dX0_goOn_45 rfl (lv_at hl 0 rfl) ?_
        refine lv_dup hx hb dX0_goOn_46 rfl ?_
        refine va_get (D := D) (ci := 0) (v := .int (s0_2 0 1)) (C := RX0) (T := TX0) (N := 6) hx hb hts (fun w h => List.mem_cons_of_mem _ (inAX0 w h)) hown hK.1 hP 0 rfl rfl 1 (by decide) (hts _ (List.mem_cons_of_mem _ fl_RX0_37)) (fun _ h9 => h9) rfl dX0_goOn_47 ?_
        refine lv_iconst (v := 1) hx hb dX0_goOn_50 (by decide) ?_
        refine lv_iadd hx hb dX0_goOn_51 ?_
        refine wF (ws' := pB cI cS a0 (st s0_2 0 1 ((s0_2 0 1) + 1)) ++ (pL cI cS a1 t1)) (C := RX0) (T := TX0) (N := 6) hx hb hts (fun w h => List.mem_cons_of_mem _ (inAX0 w h)) tyX0 tyX0_ok nmX0 hown hK.1 hP hD hS 0 rfl rfl 1 (by decide) (hts _ (List.mem_cons_of_mem _ fl_RX0_37)) rfl (tyX0_ok 1 (by decide)) rfl rfl (Nat.le_of_ble_eq_true rfl) rfl dX0_goOn_52 (fun H locs hP hD hS => ?_)
        exact W.vret hx hb hr (fun t ht hW => ⟨⟨(), rfl, trivial, by show va_P _ _ _ t.heap; rw [ht, ← (Option.some.inj hF)]; exact hP⟩, hS.F ht⟩) hS.2.2 dX0_goOn_55
      · replace hF := iq c7 hF
        refine lv_aload_n hx hb dX0_goOn_10 rfl (lv_at hl 0 rfl) ?_
        refine lv_iload_n hx hb dX0_goOn_11 rfl (lv_at hl 2 rfl) ?_
        obtain ⟨v12, h12, hF⟩ := bd hF
        refine cRb (va_runV (As := [.int x2_2]) (rest := []) ⟨hx, hb, hml, hown, hts⟩ (c_X0_isLookedAt l D cI cS a0 s0_2 x2_2 v12 h12) (cwVA hts (TW.cons _) lv_X0_isLookedAt ml_RX0_56 ⟨rfl, rfl⟩ ⟨(Nat.le_of_ble_eq_true rfl), (Nat.le_of_ble_eq_true rfl)⟩) (pRV hK (hP.sub (ws' := pB cI cS a0 s0_2) [0, 1, 2, 3] rfl) (ci := 0) rfl rfl) rfl rfl hl.1 rfl (lv_room (Nat.le_of_ble_eq_true rfl)) dX0_goOn_12 ⟨Nat.le_refl _, Nat.le_refl _⟩) (fun b12 => ?_)
        refine lv_if_ne (tgt := 39) hx hb dX0_goOn_15 (by decide) (fun c15 => ?_) (fun c15 => ?_)
        · replace hF := iq c15 hF
          refine lv_iinc (v := (x2_2 + 1)) (lv' := [(2, .int (x2_2 + 1)), (0, .ref (a0 0)), (1, .ref (a1 0))]) hx hb dX0_goOn_39 hl (k := 2) rfl rfl (by decide) rfl (fun ls hl => ?_)
          refine lv_goto (tgt := 2) hx hb dX0_goOn_42 (by decide) ?_
          exact ih2 (x2_2 + 1) s0_2 _ _ _ hP hD hS (lv_sub hl [1, 2, 0] rfl) hF
        · replace hF := ip c15 hF
          refine lv_aload_n hx hb dX0_goOn_18 rfl (lv_at hl 0 rfl) ?_
          refine va_get (D := D) (ci := 0) (v := .ref (a0 2)) (C := RX0) (T := TX0) (N := 6) hx hb hts (fun w h => List.mem_cons_of_mem _ (inAX0 w h)) hown hK.1 hP 0 rfl rfl 4 (by decide) (hts _ (List.mem_cons_of_mem _ fl_RX0_15)) (fun _ h9 => h9) rfl dX0_goOn_19 ?_
          refine lv_iload_n hx hb dX0_goOn_22 rfl (lv_at hl 2 rfl) ?_
          refine lv_aload_n hx hb dX0_goOn_23 rfl (lv_at hl 1 rfl) ?_
          refine lv_aload_n hx hb dX0_goOn_24 rfl (lv_at hl 0 rfl) ?_
          refine va_get (D := D) (ci := 0) (v := .ref (a0 2)) (C := RX0) (T := TX0) (N := 6) hx hb hts (fun w h => List.mem_cons_of_mem _ (inAX0 w h)) hown hK.1 hP 0 rfl rfl 4 (by decide) (hts _ (List.mem_cons_of_mem _ fl_RX0_15)) (fun _ h9 => h9) rfl dX0_goOn_25 ?_
          refine lv_iload_n hx hb dX0_goOn_28 rfl (lv_at hl 2 rfl) ?_
          obtain ⟨v29, h29, hF⟩ := bd hF
          refine rI hx hb hK.1 hP 2 0 rfl rfl h29 dX0_goOn_29 ?_
          refine lv_aload_n hx hb dX0_goOn_30 rfl (lv_at hl 0 rfl) ?_
          refine lv_iload_n hx hb dX0_goOn_31 rfl (lv_at hl 2 rfl) ?_
          obtain ⟨v32, h32, hF⟩ := bd hF
          refine cRe (va_runV (As := [.int x2_2]) (rest := [.int v29, .ref (a1 0), .int x2_2, .ref (a0 2)]) ⟨hx, hb, hml, hown, hts⟩ (c_X0_stepsADay l D cI cS a0 s0_2 x2_2 v32 h32) (cwVA hts (TW.cons _) lv_X0_stepsADay ml_RX0_60 ⟨rfl, rfl⟩ ⟨(Nat.le_of_ble_eq_true rfl), (Nat.le_of_ble_eq_true rfl)⟩) (pRV hK (hP.sub (ws' := pB cI cS a0 s0_2) [0, 1, 2, 3] rfl) (ci := 0) rfl rfl) rfl rfl hl.1 rfl (lv_room (Nat.le_of_ble_eq_true rfl)) dX0_goOn_32 ⟨Nat.le_refl _, Nat.le_refl _⟩) ?_
          obtain ⟨v35, h35, hF⟩ := bd hF
          refine cRe (va_runV (As := [.int v29, .int v32]) (rest := [.int x2_2, .ref (a0 2)]) ⟨hx, hb, hml, hown, hts⟩ (c_X1_after l D cI cS a1 t1 v29 v32 v35 h35) (cwVA hts (TW.cons _) lv_X1_after ml_RX0_63 ⟨rfl, rfl⟩ ⟨(Nat.le_of_ble_eq_true rfl), (Nat.le_of_ble_eq_true rfl)⟩) (pRV hK (hP.sub (ws' := pL cI cS a1 t1) [4, 5] rfl) (ci := 1) rfl rfl) rfl rfl hl.1 rfl (lv_room (Nat.le_of_ble_eq_true rfl)) dX0_goOn_35 ⟨Nat.le_refl _, Nat.le_refl _⟩) ?_
          obtain ⟨k38, h38, hF⟩ := bd hF
          refine wI (ws' := pB cI cS a0 (st s0_2 2 k38 v35) ++ (pL cI cS a1 t1)) hx hb hK.1 hP hD hS 2 0 rfl rfl h38 rfl dX0_goOn_38 (fun H locs hP hD hS => ?_)
          refine lv_iinc (v := (x2_2 + 1)) (lv' := [(2, .int (x2_2 + 1)), (0, .ref (a0 0)), (1, .ref (a1 0))]) hx hb dX0_goOn_39 hl (k := 2) rfl rfl (by decide) rfl (fun ls hl => ?_)
          refine lv_goto (tgt := 2) hx hb dX0_goOn_42 (by decide) ?_
          exact ih2 (x2_2 + 1) (st s0_2 2 k38 v35) _ _ _ hP hD hS (lv_sub hl [1, 2, 0] rfl) hF
  exact L2 1000 0 t0 _ _ _ hP hD hS (lv_sub hl [1, 2, 0] rfl) hF
noncomputable def F_X0_lookAt_J13 (x1 : Int32) (s0 : ST) (z0 : Int32) : Option (Int32 × ST) :=
  (bz z0).bind fun _ => some (z0, (st s0 0 2 ((s0 0 2) ||| (1 <<< (x1 &&& 31)))))
noncomputable def F_X0_lookAt (t0 : ST) (x1 : Int32) : Option (Int32 × ST) :=
  (F_X0_isLookedAt t0 x1).bind fun v2 =>
  if v2 = 0 then
    F_X0_lookAt_J13 x1 t0 1
  else
  F_X0_lookAt_J13 x1 t0 0
abbrev rm_X0_lookAt : Room := { frames := 1, cells := 0, slots := 0, locals := 21 }
set_option maxHeartbeats 4000000 in
set_option maxRecDepth 100000 in
theorem c_X0_lookAt (l : Launch) (D : va_G) (cI cS : ClassId) (a0 : Nat → Nat) (t0 : ST) (x1 : Int32) (r : Int32) (t' : ST) (hF : F_X0_lookAt t0 x1 = some (r, t')) : Met l yX0_lookAt (Cond.code yX0_lookAt cX0_lookAt 3 (some .boolean) :: ALL) rm_X0_lookAt (PreW D cI cS [.ref (a0 0), .int x1] (pB cI cS a0 t0)) (va_Qi (fun x (_ : Unit) => x = r ∧ (x = 0 ∨ x = 1)) (fun _ t => va_P D vwCl (pB cI cS a0 t') t.heap) (AD (pB cI cS a0 t0))) 0 0 (AD (pB cI cS a0 t0)) := by
  refine mW l D cI cS (by decide) (Nat.le_of_ble_eq_true rfl) ?_
  intro p e s m below meth c ls hx hb hr hml hown hts hlocks hP hK hD hS hl
  have hown : s.vm.findClass RX0 = some m.cls := hown
  have hl : lv_has ls 3 [(0, .ref (a0 0)), (1, .int x1)] := hl
  unfold F_X0_lookAt at hF
  refine lv_aload_n hx hb dX0_lookAt_0 rfl (lv_at hl 0 rfl) ?_
  refine lv_iload_n hx hb dX0_lookAt_1 rfl (lv_at hl 1 rfl) ?_
  obtain ⟨v2, h2, hF⟩ := bd hF
  refine cRb (va_runV (As := [.int x1]) (rest := []) ⟨hx, hb, hml, hown, hts⟩ (c_X0_isLookedAt l D cI cS a0 t0 x1 v2 h2) (cwVA hts (TW.cons _) lv_X0_isLookedAt ml_RX0_56 ⟨rfl, rfl⟩ ⟨(Nat.le_of_ble_eq_true rfl), (Nat.le_of_ble_eq_true rfl)⟩) (pRV hK hP (ci := 0) rfl rfl) rfl rfl hl.1 rfl (lv_room (Nat.le_of_ble_eq_true rfl)) dX0_lookAt_2 ⟨Nat.le_refl _, Nat.le_refl _⟩) (fun b2 => ?_)
  have J13 : ∀ (s0_13 : ST) (z0_13 : Int32) (H : Heap) (locs : List Loc) (ls : Array Slot), va_P D vwCl (pB cI cS a0 s0_13) H → va_D (AD (pB cI cS a0 t0)) (pB cI cS a0 s0_13) → va_S (AD (pB cI cS a0 t0)) s.heap H locs → lv_has ls 3 [(0, .ref (a0 0)), (1, .int x1)] → F_X0_lookAt_J13 x1 s0_13 z0_13 = some (r, t') → W p l e rm_X0_lookAt s m [.ref (a0 0), .int x1].toArray below meth c H locs 0 0 (MQ below (va_Qi (fun x (_ : Unit) => x = r ∧ (x = 0 ∨ x = 1)) (fun _ t => va_P D vwCl (pB cI cS a0 t') t.heap) (AD (pB cI cS a0 t0))) [.ref (a0 0), .int x1].toArray s 0 0 (AD (pB cI cS a0 t0))) (F0 m 13 ls [.int z0_13]) := by
    intro s0_13 z0_13 H locs ls hP hD hS hl hF
    unfold F_X0_lookAt_J13 at hF
    refine lv_istore_n (lv' := [(2, .int z0_13), (0, .ref (a0 0)), (1, .int x1)]) hx hb dX0_lookAt_13 rfl hl (by decide) rfl (fun ls hl => ?_)
    refine lv_aload_n hx hb dX0_lookAt_14 rfl (lv_at hl 1 rfl) ?_
    refine lv_dup hx hb dX0_lookAt_15 rfl ?_
    refine va_get (D := D) (ci := 0) (v := .int (s0_13 0 2)) (C := RX0) (T := TX0) (N := 6) hx hb hts (fun w h => List.mem_cons_of_mem _ (inAX0 w h)) hown hK.1 hP 0 rfl rfl 2 (by decide) (hts _ (List.mem_cons_of_mem _ fl_RX0_40)) (fun _ h9 => h9) rfl dX0_lookAt_16 ?_
    refine lv_iconst (v := 1) hx hb dX0_lookAt_19 (by decide) ?_
    refine lv_iload_n hx hb dX0_lookAt_20 rfl (lv_at hl 2 rfl) ?_
    refine lv_ishl hx hb dX0_lookAt_21 ?_
    refine lv_ior hx hb dX0_lookAt_22 ?_
    refine wF (ws' := pB cI cS a0 (st s0_13 0 2 ((s0_13 0 2) ||| (1 <<< (x1 &&& 31))))) (C := RX0) (T := TX0) (N := 6) hx hb hts (fun w h => List.mem_cons_of_mem _ (inAX0 w h)) tyX0 tyX0_ok nmX0 hown hK.1 hP hD hS 0 rfl rfl 2 (by decide) (hts _ (List.mem_cons_of_mem _ fl_RX0_40)) rfl (tyX0_ok 2 (by decide)) rfl rfl (Nat.le_of_ble_eq_true rfl) rfl dX0_lookAt_23 (fun H locs hP hD hS => ?_)
    refine lv_iload_n hx hb dX0_lookAt_26 rfl (lv_at hl 0 rfl) ?_
    obtain ⟨_, hbz, hF⟩ := bd hF
    exact W.zret hx hb hr (b01 (bz_some hbz)) (fun t ht hW => ⟨⟨_, (), rfl, ⟨(Prod.mk.inj (Option.some.inj hF)).1, bz_some hbz⟩, by show va_P _ _ _ t.heap; rw [ht, ← (Prod.mk.inj (Option.some.inj hF)).2]; exact hP⟩, hS.F ht⟩) hS.2.2 dX0_lookAt_27
  refine lv_if_ne (tgt := 12) hx hb dX0_lookAt_5 (by decide) (fun c5 => ?_) (fun c5 => ?_)
  · replace hF := iq c5 hF
    refine lv_iconst (v := 0) hx hb dX0_lookAt_12 (by decide) ?_
    exact J13 t0 0 _ _ _ hP hD hS (lv_sub hl [0, 1] rfl) hF
  · replace hF := ip c5 hF
    refine lv_iconst (v := 1) hx hb dX0_lookAt_8 (by decide) ?_
    refine lv_goto (tgt := 13) hx hb dX0_lookAt_9 (by decide) ?_
    exact J13 t0 1 _ _ _ hP hD hS (lv_sub hl [0, 1] rfl) hF
noncomputable def F_X0_lookAwayFrom (t0 : ST) (x1 : Int32) : Option (Int32 × ST) :=
  (F_X0_isLookedAt t0 x1).bind fun v2 =>
  some (v2, (st t0 0 2 ((t0 0 2) &&& ((1 <<< (x1 &&& 31)) ^^^ (-1)))))
abbrev rm_X0_lookAwayFrom : Room := { frames := 1, cells := 0, slots := 0, locals := 21 }
set_option maxHeartbeats 4000000 in
set_option maxRecDepth 100000 in
theorem c_X0_lookAwayFrom (l : Launch) (D : va_G) (cI cS : ClassId) (a0 : Nat → Nat) (t0 : ST) (x1 : Int32) (r : Int32) (t' : ST) (hF : F_X0_lookAwayFrom t0 x1 = some (r, t')) : Met l yX0_lookAwayFrom (Cond.code yX0_lookAwayFrom cX0_lookAwayFrom 3 (some .boolean) :: ALL) rm_X0_lookAwayFrom (PreW D cI cS [.ref (a0 0), .int x1] (pB cI cS a0 t0)) (va_Qi (fun x (_ : Unit) => x = r ∧ (x = 0 ∨ x = 1)) (fun _ t => va_P D vwCl (pB cI cS a0 t') t.heap) (AD (pB cI cS a0 t0))) 0 0 (AD (pB cI cS a0 t0)) := by
  refine mW l D cI cS (by decide) (Nat.le_of_ble_eq_true rfl) ?_
  intro p e s m below meth c ls hx hb hr hml hown hts hlocks hP hK hD hS hl
  have hown : s.vm.findClass RX0 = some m.cls := hown
  have hl : lv_has ls 3 [(0, .ref (a0 0)), (1, .int x1)] := hl
  unfold F_X0_lookAwayFrom at hF
  refine lv_aload_n hx hb dX0_lookAwayFrom_0 rfl (lv_at hl 0 rfl) ?_
  refine lv_iload_n hx hb dX0_lookAwayFrom_1 rfl (lv_at hl 1 rfl) ?_
  obtain ⟨v2, h2, hF⟩ := bd hF
  refine cRb (va_runV (As := [.int x1]) (rest := []) ⟨hx, hb, hml, hown, hts⟩ (c_X0_isLookedAt l D cI cS a0 t0 x1 v2 h2) (cwVA hts (TW.cons _) lv_X0_isLookedAt ml_RX0_56 ⟨rfl, rfl⟩ ⟨(Nat.le_of_ble_eq_true rfl), (Nat.le_of_ble_eq_true rfl)⟩) (pRV hK hP (ci := 0) rfl rfl) rfl rfl hl.1 rfl (lv_room (Nat.le_of_ble_eq_true rfl)) dX0_lookAwayFrom_2 ⟨Nat.le_refl _, Nat.le_refl _⟩) (fun b2 => ?_)
  refine lv_istore_n (lv' := [(2, .int v2), (0, .ref (a0 0)), (1, .int x1)]) hx hb dX0_lookAwayFrom_5 rfl hl (by decide) rfl (fun ls hl => ?_)
  refine lv_aload_n hx hb dX0_lookAwayFrom_6 rfl (lv_at hl 1 rfl) ?_
  refine lv_dup hx hb dX0_lookAwayFrom_7 rfl ?_
  refine va_get (D := D) (ci := 0) (v := .int (t0 0 2)) (C := RX0) (T := TX0) (N := 6) hx hb hts (fun w h => List.mem_cons_of_mem _ (inAX0 w h)) hown hK.1 hP 0 rfl rfl 2 (by decide) (hts _ (List.mem_cons_of_mem _ fl_RX0_40)) (fun _ h9 => h9) rfl dX0_lookAwayFrom_8 ?_
  refine lv_iconst (v := 1) hx hb dX0_lookAwayFrom_11 (by decide) ?_
  refine lv_iload_n hx hb dX0_lookAwayFrom_12 rfl (lv_at hl 2 rfl) ?_
  refine lv_ishl hx hb dX0_lookAwayFrom_13 ?_
  refine lv_iconst (v := (-1)) hx hb dX0_lookAwayFrom_14 (by decide) ?_
  refine lv_ixor hx hb dX0_lookAwayFrom_15 ?_
  refine lv_iand hx hb dX0_lookAwayFrom_16 ?_
  refine wF (ws' := pB cI cS a0 (st t0 0 2 ((t0 0 2) &&& ((1 <<< (x1 &&& 31)) ^^^ (-1))))) (C := RX0) (T := TX0) (N := 6) hx hb hts (fun w h => List.mem_cons_of_mem _ (inAX0 w h)) tyX0 tyX0_ok nmX0 hown hK.1 hP hD hS 0 rfl rfl 2 (by decide) (hts _ (List.mem_cons_of_mem _ fl_RX0_40)) rfl (tyX0_ok 2 (by decide)) rfl rfl (Nat.le_of_ble_eq_true rfl) rfl dX0_lookAwayFrom_17 (fun H locs hP hD hS => ?_)
  refine lv_iload_n hx hb dX0_lookAwayFrom_20 rfl (lv_at hl 0 rfl) ?_
  exact W.zret hx hb hr (b01 b2) (fun t ht hW => ⟨⟨_, (), rfl, ⟨(Prod.mk.inj (Option.some.inj hF)).1, b2⟩, by show va_P _ _ _ t.heap; rw [ht, ← (Prod.mk.inj (Option.some.inj hF)).2]; exact hP⟩, hS.F ht⟩) hS.2.2 dX0_lookAwayFrom_21
noncomputable def F_X0_strikeAt (t0 : ST) (x1 : Int32) (x2 : Int32) : Option ST :=
  (rd 6 (t0 2) x1).bind fun v6 =>
  (ix 6 x1).bind fun k11 =>
  some (st t0 2 k11 (v6 ^^^ (1 <<< (x2 &&& 31))))
abbrev rm_X0_strikeAt : Room := { frames := 0, cells := 0, slots := 0, locals := 0 }
set_option maxHeartbeats 4000000 in
set_option maxRecDepth 100000 in
theorem c_X0_strikeAt (l : Launch) (D : va_G) (cI cS : ClassId) (a0 : Nat → Nat) (t0 : ST) (x1 : Int32) (x2 : Int32) (t' : ST) (hF : F_X0_strikeAt t0 x1 x2 = some t') : Met l yX0_strikeAt (Cond.code yX0_strikeAt cX0_strikeAt 3 none :: ALL) rm_X0_strikeAt (PreW D cI cS [.ref (a0 0), .int x1, .int x2] (pB cI cS a0 t0)) (va_Qv (fun (_ : Unit) => True) (fun _ t => va_P D vwCl (pB cI cS a0 t') t.heap) (AD (pB cI cS a0 t0))) 0 0 (AD (pB cI cS a0 t0)) := by
  refine mW l D cI cS (by decide) (Nat.le_of_ble_eq_true rfl) ?_
  intro p e s m below meth c ls hx hb hr hml hown hts hlocks hP hK hD hS hl
  have hown : s.vm.findClass RX0 = some m.cls := hown
  have hl : lv_has ls 3 [(0, .ref (a0 0)), (1, .int x1), (2, .int x2)] := hl
  unfold F_X0_strikeAt at hF
  refine lv_aload_n hx hb dX0_strikeAt_0 rfl (lv_at hl 0 rfl) ?_
  refine va_get (D := D) (ci := 0) (v := .ref (a0 2)) (C := RX0) (T := TX0) (N := 6) hx hb hts (fun w h => List.mem_cons_of_mem _ (inAX0 w h)) hown hK.1 hP 0 rfl rfl 4 (by decide) (hts _ (List.mem_cons_of_mem _ fl_RX0_15)) (fun _ h9 => h9) rfl dX0_strikeAt_1 ?_
  refine lv_iload_n hx hb dX0_strikeAt_4 rfl (lv_at hl 1 rfl) ?_
  refine lv_dup2_11 hx hb dX0_strikeAt_5 rfl rfl ?_
  obtain ⟨v6, h6, hF⟩ := bd hF
  refine rI hx hb hK.1 hP 2 0 rfl rfl h6 dX0_strikeAt_6 ?_
  refine lv_iconst (v := 1) hx hb dX0_strikeAt_7 (by decide) ?_
  refine lv_iload_n hx hb dX0_strikeAt_8 rfl (lv_at hl 2 rfl) ?_
  refine lv_ishl hx hb dX0_strikeAt_9 ?_
  refine lv_ixor hx hb dX0_strikeAt_10 ?_
  obtain ⟨k11, h11, hF⟩ := bd hF
  refine wI (ws' := pB cI cS a0 (st t0 2 k11 (v6 ^^^ (1 <<< (x2 &&& 31))))) hx hb hK.1 hP hD hS 2 0 rfl rfl h11 rfl dX0_strikeAt_11 (fun H locs hP hD hS => ?_)
  exact W.vret hx hb hr (fun t ht hW => ⟨⟨(), rfl, trivial, by show va_P _ _ _ t.heap; rw [ht, ← (Option.some.inj hF)]; exact hP⟩, hS.F ht⟩) hS.2.2 dX0_strikeAt_12
noncomputable def F_J13_bitCount_95d88 (y0 : Int64) : Option Int32 :=
  nm ((y0 - (((y0.toUInt64 >>> ((1 : Int32).toInt64.toUInt64 &&& Int64.toUInt64 63)).toInt64) &&& 6148914691236517205)) : Int64) fun w9 =>
  nm (((w9 &&& 3689348814741910323) + (((w9.toUInt64 >>> ((2 : Int32).toInt64.toUInt64 &&& Int64.toUInt64 63)).toInt64) &&& 3689348814741910323)) : Int64) fun w23 =>
  nm (((w23 + ((w23.toUInt64 >>> ((4 : Int32).toInt64.toUInt64 &&& Int64.toUInt64 63)).toInt64)) &&& 1085102592571150095) : Int64) fun w33 =>
  nm (((w33 + ((w33.toUInt64 >>> ((8 : Int32).toInt64.toUInt64 &&& Int64.toUInt64 63)).toInt64)) + (((w33 + ((w33.toUInt64 >>> ((8 : Int32).toInt64.toUInt64 &&& Int64.toUInt64 63)).toInt64)).toUInt64 >>> ((16 : Int32).toInt64.toUInt64 &&& Int64.toUInt64 63)).toInt64)) : Int64) fun w47 =>
  some ((w47 + ((w47.toUInt64 >>> ((32 : Int32).toInt64.toUInt64 &&& Int64.toUInt64 63)).toInt64)).toInt32 &&& 127)
abbrev rm_J13_bitCount_95d88 : Room := { frames := 0, cells := 0, slots := 0, locals := 0 }
set_option maxHeartbeats 4000000 in
set_option maxRecDepth 100000 in
theorem c_J13_bitCount_95d88 (l : Launch) (D : va_G) (cI cS : ClassId) (y0 : Int64) (r : Int32) (hF : F_J13_bitCount_95d88 y0 = some r) : Met l yJ13_bitCount_95d88 (Cond.code yJ13_bitCount_95d88 cJ13_bitCount_95d88 2 (some .int) :: ALL) rm_J13_bitCount_95d88 (PreR D cI cS [.long y0] ([])) (vp_Si (fun x => x = r)) 0 0 (fun _ => False) := by
  refine mR l D cI cS (by decide) (Nat.le_of_ble_eq_true rfl) ?_
  intro p e s m below meth c ls hx hb hr hml hown hts hlocks hP hK hl
  have hown : s.vm.findClass RJ13 = some m.cls := hown
  have hl : lv_has ls 2 [(0, .long y0)] := hl
  unfold F_J13_bitCount_95d88 at hF
  refine lv_lload_n hx hb dJ13_bitCount_95d88_0 rfl (lv_at hl 0 rfl) ?_
  refine lv_lload_n hx hb dJ13_bitCount_95d88_1 rfl (lv_at hl 0 rfl) ?_
  refine lv_iconst (v := 1) hx hb dJ13_bitCount_95d88_2 (by decide) ?_
  refine lv_lushr (v := (y0.toUInt64 >>> ((1 : Int32).toInt64.toUInt64 &&& Int64.toUInt64 63)).toInt64) hx hb dJ13_bitCount_95d88_3 rfl ?_
  refine lv_ldc2 (own := RJ13) (v := 6148914691236517205) hx hb hown (hts _ (List.mem_cons_of_mem _ cn_RJ13_314)) dJ13_bitCount_95d88_4 ?_
  refine lv_land hx hb dJ13_bitCount_95d88_7 ?_
  refine lv_lsub hx hb dJ13_bitCount_95d88_8 ?_
  obtain ⟨w9, e9, hF⟩ := nmE hF
  refine topl e9 ?_
  refine lv_lstore_n (lv' := [(0, .long w9)]) hx hb dJ13_bitCount_95d88_9 rfl hl (by decide) rfl (fun ls hl => ?_)
  refine lv_lload_n hx hb dJ13_bitCount_95d88_10 rfl (lv_at hl 0 rfl) ?_
  refine lv_ldc2 (own := RJ13) (v := 3689348814741910323) hx hb hown (hts _ (List.mem_cons_of_mem _ cn_RJ13_316)) dJ13_bitCount_95d88_11 ?_
  refine lv_land hx hb dJ13_bitCount_95d88_14 ?_
  refine lv_lload_n hx hb dJ13_bitCount_95d88_15 rfl (lv_at hl 0 rfl) ?_
  refine lv_iconst (v := 2) hx hb dJ13_bitCount_95d88_16 (by decide) ?_
  refine lv_lushr (v := (w9.toUInt64 >>> ((2 : Int32).toInt64.toUInt64 &&& Int64.toUInt64 63)).toInt64) hx hb dJ13_bitCount_95d88_17 rfl ?_
  refine lv_ldc2 (own := RJ13) (v := 3689348814741910323) hx hb hown (hts _ (List.mem_cons_of_mem _ cn_RJ13_316)) dJ13_bitCount_95d88_18 ?_
  refine lv_land hx hb dJ13_bitCount_95d88_21 ?_
  refine lv_ladd hx hb dJ13_bitCount_95d88_22 ?_
  obtain ⟨w23, e23, hF⟩ := nmE hF
  refine topl e23 ?_
  refine lv_lstore_n (lv' := [(0, .long w23)]) hx hb dJ13_bitCount_95d88_23 rfl hl (by decide) rfl (fun ls hl => ?_)
  refine lv_lload_n hx hb dJ13_bitCount_95d88_24 rfl (lv_at hl 0 rfl) ?_
  refine lv_lload_n hx hb dJ13_bitCount_95d88_25 rfl (lv_at hl 0 rfl) ?_
  refine lv_iconst (v := 4) hx hb dJ13_bitCount_95d88_26 (by decide) ?_
  refine lv_lushr (v := (w23.toUInt64 >>> ((4 : Int32).toInt64.toUInt64 &&& Int64.toUInt64 63)).toInt64) hx hb dJ13_bitCount_95d88_27 rfl ?_
  refine lv_ladd hx hb dJ13_bitCount_95d88_28 ?_
  refine lv_ldc2 (own := RJ13) (v := 1085102592571150095) hx hb hown (hts _ (List.mem_cons_of_mem _ cn_RJ13_318)) dJ13_bitCount_95d88_29 ?_
  refine lv_land hx hb dJ13_bitCount_95d88_32 ?_
  obtain ⟨w33, e33, hF⟩ := nmE hF
  refine topl e33 ?_
  refine lv_lstore_n (lv' := [(0, .long w33)]) hx hb dJ13_bitCount_95d88_33 rfl hl (by decide) rfl (fun ls hl => ?_)
  refine lv_lload_n hx hb dJ13_bitCount_95d88_34 rfl (lv_at hl 0 rfl) ?_
  refine lv_lload_n hx hb dJ13_bitCount_95d88_35 rfl (lv_at hl 0 rfl) ?_
  refine lv_bipush (v := 8) hx hb dJ13_bitCount_95d88_36 (by decide) ?_
  refine lv_lushr (v := (w33.toUInt64 >>> ((8 : Int32).toInt64.toUInt64 &&& Int64.toUInt64 63)).toInt64) hx hb dJ13_bitCount_95d88_38 rfl ?_
  refine lv_ladd hx hb dJ13_bitCount_95d88_39 ?_
  refine lv_lstore_n (lv' := [(0, .long (w33 + ((w33.toUInt64 >>> ((8 : Int32).toInt64.toUInt64 &&& Int64.toUInt64 63)).toInt64)))]) hx hb dJ13_bitCount_95d88_40 rfl hl (by decide) rfl (fun ls hl => ?_)
  refine lv_lload_n hx hb dJ13_bitCount_95d88_41 rfl (lv_at hl 0 rfl) ?_
  refine lv_lload_n hx hb dJ13_bitCount_95d88_42 rfl (lv_at hl 0 rfl) ?_
  refine lv_bipush (v := 16) hx hb dJ13_bitCount_95d88_43 (by decide) ?_
  refine lv_lushr (v := ((w33 + ((w33.toUInt64 >>> ((8 : Int32).toInt64.toUInt64 &&& Int64.toUInt64 63)).toInt64)).toUInt64 >>> ((16 : Int32).toInt64.toUInt64 &&& Int64.toUInt64 63)).toInt64) hx hb dJ13_bitCount_95d88_45 rfl ?_
  refine lv_ladd hx hb dJ13_bitCount_95d88_46 ?_
  obtain ⟨w47, e47, hF⟩ := nmE hF
  refine topl e47 ?_
  refine lv_lstore_n (lv' := [(0, .long w47)]) hx hb dJ13_bitCount_95d88_47 rfl hl (by decide) rfl (fun ls hl => ?_)
  refine lv_lload_n hx hb dJ13_bitCount_95d88_48 rfl (lv_at hl 0 rfl) ?_
  refine lv_lload_n hx hb dJ13_bitCount_95d88_49 rfl (lv_at hl 0 rfl) ?_
  refine lv_bipush (v := 32) hx hb dJ13_bitCount_95d88_50 (by decide) ?_
  refine lv_lushr (v := (w47.toUInt64 >>> ((32 : Int32).toInt64.toUInt64 &&& Int64.toUInt64 63)).toInt64) hx hb dJ13_bitCount_95d88_52 rfl ?_
  refine lv_ladd hx hb dJ13_bitCount_95d88_53 ?_
  refine lv_lstore_n (lv' := [(0, .long (w47 + ((w47.toUInt64 >>> ((32 : Int32).toInt64.toUInt64 &&& Int64.toUInt64 63)).toInt64)))]) hx hb dJ13_bitCount_95d88_54 rfl hl (by decide) rfl (fun ls hl => ?_)
  refine lv_lload_n hx hb dJ13_bitCount_95d88_55 rfl (lv_at hl 0 rfl) ?_
  refine lv_l2i (v := (w47 + ((w47.toUInt64 >>> ((32 : Int32).toInt64.toUInt64 &&& Int64.toUInt64 63)).toInt64)).toInt32) hx hb dJ13_bitCount_95d88_56 rfl ?_
  refine lv_bipush (v := 127) hx hb dJ13_bitCount_95d88_57 (by decide) ?_
  refine lv_iand hx hb dJ13_bitCount_95d88_59 ?_
  exact W.iret hx hb hr (fun t ht hW => ⟨_, rfl, (Option.some.inj hF), ht⟩) (fun _ h => nomatch h) dJ13_bitCount_95d88_60
noncomputable def F_X0_twoAreAlike_L4 (t0 : ST) (k : Int64 → Int32 → Option Int32) : Nat → Int64 → Int32 → Option Int32
  | 0, _, _ => none
  | n + 1, y1, x3 =>
    if (t0 0 0) ≤ x3 then
      k y1 x3
    else
    (rd 6 (t0 2) x3).bind fun v19 =>
    (F_X0_twoAreAlike_L4 t0 k n) (y1 ||| (1 <<< (v19.toInt64 &&& 63))) (x3 + 1)
noncomputable def F_X0_twoAreAlike_J29 (t0 : ST) (y1 : Int64) : Option Int32 :=
  (F_J13_bitCount_95d88 y1).bind fun v30 =>
  if (t0 0 0) ≤ v30 then
    some 0
  else
  some 1
noncomputable def F_X0_twoAreAlike (t0 : ST) : Option Int32 :=
  F_X0_twoAreAlike_L4 t0 (fun y1_k4 x3_k4 => F_X0_twoAreAlike_J29 t0 y1_k4) 1000 0 0
abbrev rm_X0_twoAreAlike : Room := { frames := 1, cells := 0, slots := 0, locals := 21 }
set_option maxHeartbeats 4000000 in
set_option maxRecDepth 100000 in
theorem c_X0_twoAreAlike (l : Launch) (D : va_G) (cI cS : ClassId) (a0 : Nat → Nat) (t0 : ST) (r : Int32) (hF : F_X0_twoAreAlike t0 = some r) : Met l yX0_twoAreAlike (Cond.code yX0_twoAreAlike cX0_twoAreAlike 4 (some .boolean) :: ALL) rm_X0_twoAreAlike (PreR D cI cS [.ref (a0 0)] (pB cI cS a0 t0)) (vp_Si (fun x => x = r ∧ (x = 0 ∨ x = 1))) 0 0 (fun _ => False) := by
  refine mR l D cI cS (by decide) (Nat.le_of_ble_eq_true rfl) ?_
  intro p e s m below meth c ls hx hb hr hml hown hts hlocks hP hK hl
  have hown : s.vm.findClass RX0 = some m.cls := hown
  have hl : lv_has ls 4 [(0, .ref (a0 0))] := hl
  unfold F_X0_twoAreAlike at hF
  refine lv_lconst (v := 0) hx hb dX0_twoAreAlike_0 (by decide) ?_
  refine lv_lstore_n (lv' := [(1, .long 0), (0, .ref (a0 0))]) hx hb dX0_twoAreAlike_1 rfl hl (by decide) rfl (fun ls hl => ?_)
  refine lv_iconst (v := 0) hx hb dX0_twoAreAlike_2 (by decide) ?_
  refine lv_istore_n (lv' := [(3, .int 0), (1, .long 0), (0, .ref (a0 0))]) hx hb dX0_twoAreAlike_3 rfl hl (by decide) rfl (fun ls hl => ?_)
  have L4 : ∀ (n_4 : Nat) (y1_4 : Int64) (x3_4 : Int32) (ls : Array Slot), lv_has ls 4 [(0, .ref (a0 0)), (1, .long y1_4), (3, .int x3_4)] → F_X0_twoAreAlike_L4 t0 (fun y1_k4 x3_k4 => F_X0_twoAreAlike_J29 t0 y1_k4) n_4 y1_4 x3_4 = some r → W p l e rm_X0_twoAreAlike s m [.ref (a0 0)].toArray below meth c s.heap [] 0 0 (MQ below (vp_Si (fun x => x = r ∧ (x = 0 ∨ x = 1))) [.ref (a0 0)].toArray s 0 0 (fun _ => False)) (F0 m 4 ls []) := by
    intro n_4
    induction n_4 with
    | zero => intro y1_4 x3_4 ls hl hF; exact nomatch hF
    | succ n_4 ih4 =>
      intro y1_4 x3_4 ls hl hF
      rw [F_X0_twoAreAlike_L4.eq_2] at hF
      refine lv_iload_n hx hb dX0_twoAreAlike_4 rfl (lv_at hl 2 rfl) ?_
      refine lv_aload_n hx hb dX0_twoAreAlike_5 rfl (lv_at hl 0 rfl) ?_
      refine va_get (D := D) (ci := 0) (v := .int (t0 0 0)) (C := RX0) (T := TX0) (N := 6) hx hb hts (fun w h => List.mem_cons_of_mem _ (inAX0 w h)) hown hK.1 hP 0 rfl rfl 0 (by decide) (hts _ (List.mem_cons_of_mem _ fl_RX0_21)) (fun _ h9 => h9) rfl dX0_twoAreAlike_6 ?_
      refine lv_icmp_ge (tgt := 29) hx hb dX0_twoAreAlike_9 (by decide) (fun c9 => ?_) (fun c9 => ?_)
      · replace hF := ip c9 hF
        have hF : F_X0_twoAreAlike_J29 t0 y1_4 = some r := hF
        unfold F_X0_twoAreAlike_J29 at hF
        refine lv_lload_n hx hb dX0_twoAreAlike_29 rfl (lv_at hl 1 rfl) ?_
        obtain ⟨v30, h30, hF⟩ := bd hF
        refine cRe (va_runS (As := [.long y1_4]) (rest := []) ⟨hx, hb, hml, hown, hts⟩ (c_J13_bitCount_95d88 l D cI cS y1_4 v30 h30) (cwSA hts (TW.cons _) ls_J13_bitCount_95d88 ml_RX0_68 ⟨rfl, rfl⟩ ⟨(Nat.le_of_ble_eq_true rfl), (Nat.le_of_ble_eq_true rfl)⟩) (pRS hK pnil) rfl rfl hl.1 rfl (lv_room (Nat.le_of_ble_eq_true rfl)) dX0_twoAreAlike_30 ⟨Nat.le_refl _, Nat.le_refl _⟩) ?_
        refine lv_aload_n hx hb dX0_twoAreAlike_33 rfl (lv_at hl 0 rfl) ?_
        refine va_get (D := D) (ci := 0) (v := .int (t0 0 0)) (C := RX0) (T := TX0) (N := 6) hx hb hts (fun w h => List.mem_cons_of_mem _ (inAX0 w h)) hown hK.1 hP 0 rfl rfl 0 (by decide) (hts _ (List.mem_cons_of_mem _ fl_RX0_21)) (fun _ h9 => h9) rfl dX0_twoAreAlike_34 ?_
        refine lv_icmp_ge (tgt := 44) hx hb dX0_twoAreAlike_37 (by decide) (fun c37 => ?_) (fun c37 => ?_)
        · replace hF := ip c37 hF
          refine lv_iconst (v := 0) hx hb dX0_twoAreAlike_44 (by decide) ?_
          exact W.zret hx hb hr rfl (fun t ht hW => ⟨_, rfl, ⟨(Option.some.inj hF), Or.inl rfl⟩, ht⟩) (fun _ h => nomatch h) dX0_twoAreAlike_45
        · replace hF := iq c37 hF
          refine lv_iconst (v := 1) hx hb dX0_twoAreAlike_40 (by decide) ?_
          refine lv_goto (tgt := 45) hx hb dX0_twoAreAlike_41 (by decide) ?_
          exact W.zret hx hb hr rfl (fun t ht hW => ⟨_, rfl, ⟨(Option.some.inj hF), Or.inr rfl⟩, ht⟩) (fun _ h => nomatch h) dX0_twoAreAlike_45
      · replace hF := iq c9 hF
        refine lv_lload_n hx hb dX0_twoAreAlike_12 rfl (lv_at hl 1 rfl) ?_
        refine lv_lconst (v := 1) hx hb dX0_twoAreAlike_13 (by decide) ?_
        refine lv_aload_n hx hb dX0_twoAreAlike_14 rfl (lv_at hl 0 rfl) ?_
        refine va_get (D := D) (ci := 0) (v := .ref (a0 2)) (C := RX0) (T := TX0) (N := 6) hx hb hts (fun w h => List.mem_cons_of_mem _ (inAX0 w h)) hown hK.1 hP 0 rfl rfl 4 (by decide) (hts _ (List.mem_cons_of_mem _ fl_RX0_15)) (fun _ h9 => h9) rfl dX0_twoAreAlike_15 ?_
        refine lv_iload_n hx hb dX0_twoAreAlike_18 rfl (lv_at hl 2 rfl) ?_
        obtain ⟨v19, h19, hF⟩ := bd hF
        refine rI hx hb hK.1 hP 2 0 rfl rfl h19 dX0_twoAreAlike_19 ?_
        refine lv_lshl (v := (1 <<< (v19.toInt64 &&& 63))) hx hb dX0_twoAreAlike_20 rfl ?_
        refine lv_lor hx hb dX0_twoAreAlike_21 ?_
        refine lv_lstore_n (lv' := [(1, .long (y1_4 ||| (1 <<< (v19.toInt64 &&& 63)))), (0, .ref (a0 0)), (3, .int x3_4)]) hx hb dX0_twoAreAlike_22 rfl hl (by decide) rfl (fun ls hl => ?_)
        refine lv_iinc (v := (x3_4 + 1)) (lv' := [(3, .int (x3_4 + 1)), (1, .long (y1_4 ||| (1 <<< (v19.toInt64 &&& 63)))), (0, .ref (a0 0))]) hx hb dX0_twoAreAlike_23 hl (k := 2) rfl rfl (by decide) rfl (fun ls hl => ?_)
        refine lv_goto (tgt := 4) hx hb dX0_twoAreAlike_26 (by decide) ?_
        exact ih4 (y1_4 ||| (1 <<< (v19.toInt64 &&& 63))) (x3_4 + 1) _ (lv_sub hl [2, 1, 0] rfl) hF
  exact L4 1000 0 0 _ (lv_sub hl [2, 1, 0] rfl) hF
noncomputable def F_J6_bitCount_0f7a4 (x0 : Int32) : Option Int32 :=
  nm ((((x0 - (((x0.toUInt32 >>> ((1 : Int32).toUInt32 &&& Int32.toUInt32 31)).toInt32) &&& 1431655765)) &&& 858993459) + ((((x0 - (((x0.toUInt32 >>> ((1 : Int32).toUInt32 &&& Int32.toUInt32 31)).toInt32) &&& 1431655765)).toUInt32 >>> ((2 : Int32).toUInt32 &&& Int32.toUInt32 31)).toInt32) &&& 858993459)) : Int32) fun w23 =>
  nm ((((w23 + ((w23.toUInt32 >>> ((4 : Int32).toUInt32 &&& Int32.toUInt32 31)).toInt32)) &&& 252645135) + ((((w23 + ((w23.toUInt32 >>> ((4 : Int32).toUInt32 &&& Int32.toUInt32 31)).toInt32)) &&& 252645135).toUInt32 >>> ((8 : Int32).toUInt32 &&& Int32.toUInt32 31)).toInt32)) : Int32) fun w40 =>
  some ((w40 + ((w40.toUInt32 >>> ((16 : Int32).toUInt32 &&& Int32.toUInt32 31)).toInt32)) &&& 63)
abbrev rm_J6_bitCount_0f7a4 : Room := { frames := 0, cells := 0, slots := 0, locals := 0 }
set_option maxHeartbeats 4000000 in
set_option maxRecDepth 100000 in
theorem c_J6_bitCount_0f7a4 (l : Launch) (D : va_G) (cI cS : ClassId) (x0 : Int32) (r : Int32) (hF : F_J6_bitCount_0f7a4 x0 = some r) : Met l yJ6_bitCount_0f7a4 (Cond.code yJ6_bitCount_0f7a4 cJ6_bitCount_0f7a4 1 (some .int) :: ALL) rm_J6_bitCount_0f7a4 (PreR D cI cS [.int x0] ([])) (vp_Si (fun x => x = r)) 0 0 (fun _ => False) := by
  refine mR l D cI cS (by decide) (Nat.le_of_ble_eq_true rfl) ?_
  intro p e s m below meth c ls hx hb hr hml hown hts hlocks hP hK hl
  have hown : s.vm.findClass RJ6 = some m.cls := hown
  have hl : lv_has ls 1 [(0, .int x0)] := hl
  unfold F_J6_bitCount_0f7a4 at hF
  refine lv_iload_n hx hb dJ6_bitCount_0f7a4_0 rfl (lv_at hl 0 rfl) ?_
  refine lv_iload_n hx hb dJ6_bitCount_0f7a4_1 rfl (lv_at hl 0 rfl) ?_
  refine lv_iconst (v := 1) hx hb dJ6_bitCount_0f7a4_2 (by decide) ?_
  refine lv_iushr (v := (x0.toUInt32 >>> ((1 : Int32).toUInt32 &&& Int32.toUInt32 31)).toInt32) hx hb dJ6_bitCount_0f7a4_3 rfl ?_
  refine lv_ldcw (own := RJ6) (v := 1431655765) hx hb hown (hts _ (List.mem_cons_of_mem _ cn_RJ6_265)) dJ6_bitCount_0f7a4_4 ?_
  refine lv_iand hx hb dJ6_bitCount_0f7a4_7 ?_
  refine lv_isub hx hb dJ6_bitCount_0f7a4_8 ?_
  refine lv_istore_n (lv' := [(0, .int (x0 - (((x0.toUInt32 >>> ((1 : Int32).toUInt32 &&& Int32.toUInt32 31)).toInt32) &&& 1431655765)))]) hx hb dJ6_bitCount_0f7a4_9 rfl hl (by decide) rfl (fun ls hl => ?_)
  refine lv_iload_n hx hb dJ6_bitCount_0f7a4_10 rfl (lv_at hl 0 rfl) ?_
  refine lv_ldcw (own := RJ6) (v := 858993459) hx hb hown (hts _ (List.mem_cons_of_mem _ cn_RJ6_266)) dJ6_bitCount_0f7a4_11 ?_
  refine lv_iand hx hb dJ6_bitCount_0f7a4_14 ?_
  refine lv_iload_n hx hb dJ6_bitCount_0f7a4_15 rfl (lv_at hl 0 rfl) ?_
  refine lv_iconst (v := 2) hx hb dJ6_bitCount_0f7a4_16 (by decide) ?_
  refine lv_iushr (v := ((x0 - (((x0.toUInt32 >>> ((1 : Int32).toUInt32 &&& Int32.toUInt32 31)).toInt32) &&& 1431655765)).toUInt32 >>> ((2 : Int32).toUInt32 &&& Int32.toUInt32 31)).toInt32) hx hb dJ6_bitCount_0f7a4_17 rfl ?_
  refine lv_ldcw (own := RJ6) (v := 858993459) hx hb hown (hts _ (List.mem_cons_of_mem _ cn_RJ6_266)) dJ6_bitCount_0f7a4_18 ?_
  refine lv_iand hx hb dJ6_bitCount_0f7a4_21 ?_
  refine lv_iadd hx hb dJ6_bitCount_0f7a4_22 ?_
  obtain ⟨w23, e23, hF⟩ := nmE hF
  refine topi e23 ?_
  refine lv_istore_n (lv' := [(0, .int w23)]) hx hb dJ6_bitCount_0f7a4_23 rfl hl (by decide) rfl (fun ls hl => ?_)
  refine lv_iload_n hx hb dJ6_bitCount_0f7a4_24 rfl (lv_at hl 0 rfl) ?_
  refine lv_iload_n hx hb dJ6_bitCount_0f7a4_25 rfl (lv_at hl 0 rfl) ?_
  refine lv_iconst (v := 4) hx hb dJ6_bitCount_0f7a4_26 (by decide) ?_
  refine lv_iushr (v := (w23.toUInt32 >>> ((4 : Int32).toUInt32 &&& Int32.toUInt32 31)).toInt32) hx hb dJ6_bitCount_0f7a4_27 rfl ?_
  refine lv_iadd hx hb dJ6_bitCount_0f7a4_28 ?_
  refine lv_ldcw (own := RJ6) (v := 252645135) hx hb hown (hts _ (List.mem_cons_of_mem _ cn_RJ6_267)) dJ6_bitCount_0f7a4_29 ?_
  refine lv_iand hx hb dJ6_bitCount_0f7a4_32 ?_
  refine lv_istore_n (lv' := [(0, .int ((w23 + ((w23.toUInt32 >>> ((4 : Int32).toUInt32 &&& Int32.toUInt32 31)).toInt32)) &&& 252645135))]) hx hb dJ6_bitCount_0f7a4_33 rfl hl (by decide) rfl (fun ls hl => ?_)
  refine lv_iload_n hx hb dJ6_bitCount_0f7a4_34 rfl (lv_at hl 0 rfl) ?_
  refine lv_iload_n hx hb dJ6_bitCount_0f7a4_35 rfl (lv_at hl 0 rfl) ?_
  refine lv_bipush (v := 8) hx hb dJ6_bitCount_0f7a4_36 (by decide) ?_
  refine lv_iushr (v := (((w23 + ((w23.toUInt32 >>> ((4 : Int32).toUInt32 &&& Int32.toUInt32 31)).toInt32)) &&& 252645135).toUInt32 >>> ((8 : Int32).toUInt32 &&& Int32.toUInt32 31)).toInt32) hx hb dJ6_bitCount_0f7a4_38 rfl ?_
  refine lv_iadd hx hb dJ6_bitCount_0f7a4_39 ?_
  obtain ⟨w40, e40, hF⟩ := nmE hF
  refine topi e40 ?_
  refine lv_istore_n (lv' := [(0, .int w40)]) hx hb dJ6_bitCount_0f7a4_40 rfl hl (by decide) rfl (fun ls hl => ?_)
  refine lv_iload_n hx hb dJ6_bitCount_0f7a4_41 rfl (lv_at hl 0 rfl) ?_
  refine lv_iload_n hx hb dJ6_bitCount_0f7a4_42 rfl (lv_at hl 0 rfl) ?_
  refine lv_bipush (v := 16) hx hb dJ6_bitCount_0f7a4_43 (by decide) ?_
  refine lv_iushr (v := (w40.toUInt32 >>> ((16 : Int32).toUInt32 &&& Int32.toUInt32 31)).toInt32) hx hb dJ6_bitCount_0f7a4_45 rfl ?_
  refine lv_iadd hx hb dJ6_bitCount_0f7a4_46 ?_
  refine lv_istore_n (lv' := [(0, .int (w40 + ((w40.toUInt32 >>> ((16 : Int32).toUInt32 &&& Int32.toUInt32 31)).toInt32)))]) hx hb dJ6_bitCount_0f7a4_47 rfl hl (by decide) rfl (fun ls hl => ?_)
  refine lv_iload_n hx hb dJ6_bitCount_0f7a4_48 rfl (lv_at hl 0 rfl) ?_
  refine lv_bipush (v := 63) hx hb dJ6_bitCount_0f7a4_49 (by decide) ?_
  refine lv_iand hx hb dJ6_bitCount_0f7a4_51 ?_
  exact W.iret hx hb hr (fun t ht hW => ⟨_, rfl, (Option.some.inj hF), ht⟩) (fun _ h => nomatch h) dJ6_bitCount_0f7a4_52
noncomputable def F_X0_cellsSet_L4 (t0 : ST) (k : Int32 → Int32 → Option Int32) : Nat → Int32 → Int32 → Option Int32
  | 0, _, _ => none
  | n + 1, x1, x2 =>
    if (t0 0 0) ≤ x2 then
      k x1 x2
    else
    (rd 6 (t0 2) x2).bind fun v18 =>
    (F_J6_bitCount_0f7a4 v18).bind fun v19 =>
    (F_X0_cellsSet_L4 t0 k n) (x1 + v19) (x2 + 1)
noncomputable def F_X0_cellsSet_J30 (t0 : ST) (x1 : Int32) : Option Int32 :=
  some x1
noncomputable def F_X0_cellsSet (t0 : ST) : Option Int32 :=
  F_X0_cellsSet_L4 t0 (fun x1_k4 x2_k4 => F_X0_cellsSet_J30 t0 x1_k4) 1000 0 0
abbrev rm_X0_cellsSet : Room := { frames := 1, cells := 0, slots := 0, locals := 20 }
set_option maxHeartbeats 4000000 in
set_option maxRecDepth 100000 in
theorem c_X0_cellsSet (l : Launch) (D : va_G) (cI cS : ClassId) (a0 : Nat → Nat) (t0 : ST) (r : Int32) (hF : F_X0_cellsSet t0 = some r) : Met l yX0_cellsSet (Cond.code yX0_cellsSet cX0_cellsSet 3 (some .int) :: ALL) rm_X0_cellsSet (PreR D cI cS [.ref (a0 0)] (pB cI cS a0 t0)) (vp_Si (fun x => x = r)) 0 0 (fun _ => False) := by
  refine mR l D cI cS (by decide) (Nat.le_of_ble_eq_true rfl) ?_
  intro p e s m below meth c ls hx hb hr hml hown hts hlocks hP hK hl
  have hown : s.vm.findClass RX0 = some m.cls := hown
  have hl : lv_has ls 3 [(0, .ref (a0 0))] := hl
  unfold F_X0_cellsSet at hF
  refine lv_iconst (v := 0) hx hb dX0_cellsSet_0 (by decide) ?_
  refine lv_istore_n (lv' := [(1, .int 0), (0, .ref (a0 0))]) hx hb dX0_cellsSet_1 rfl hl (by decide) rfl (fun ls hl => ?_)
  refine lv_iconst (v := 0) hx hb dX0_cellsSet_2 (by decide) ?_
  refine lv_istore_n (lv' := [(2, .int 0), (1, .int 0), (0, .ref (a0 0))]) hx hb dX0_cellsSet_3 rfl hl (by decide) rfl (fun ls hl => ?_)
  have L4 : ∀ (n_4 : Nat) (x1_4 : Int32) (x2_4 : Int32) (ls : Array Slot), lv_has ls 3 [(0, .ref (a0 0)), (1, .int x1_4), (2, .int x2_4)] → F_X0_cellsSet_L4 t0 (fun x1_k4 x2_k4 => F_X0_cellsSet_J30 t0 x1_k4) n_4 x1_4 x2_4 = some r → W p l e rm_X0_cellsSet s m [.ref (a0 0)].toArray below meth c s.heap [] 0 0 (MQ below (vp_Si (fun x => x = r)) [.ref (a0 0)].toArray s 0 0 (fun _ => False)) (F0 m 4 ls []) := by
    intro n_4
    induction n_4 with
    | zero => intro x1_4 x2_4 ls hl hF; exact nomatch hF
    | succ n_4 ih4 =>
      intro x1_4 x2_4 ls hl hF
      rw [F_X0_cellsSet_L4.eq_2] at hF
      refine lv_iload_n hx hb dX0_cellsSet_4 rfl (lv_at hl 2 rfl) ?_
      refine lv_aload_n hx hb dX0_cellsSet_5 rfl (lv_at hl 0 rfl) ?_
      refine va_get (D := D) (ci := 0) (v := .int (t0 0 0)) (C := RX0) (T := TX0) (N := 6) hx hb hts (fun w h => List.mem_cons_of_mem _ (inAX0 w h)) hown hK.1 hP 0 rfl rfl 0 (by decide) (hts _ (List.mem_cons_of_mem _ fl_RX0_21)) (fun _ h9 => h9) rfl dX0_cellsSet_6 ?_
      refine lv_icmp_ge (tgt := 30) hx hb dX0_cellsSet_9 (by decide) (fun c9 => ?_) (fun c9 => ?_)
      · replace hF := ip c9 hF
        have hF : F_X0_cellsSet_J30 t0 x1_4 = some r := hF
        unfold F_X0_cellsSet_J30 at hF
        refine lv_iload_n hx hb dX0_cellsSet_30 rfl (lv_at hl 1 rfl) ?_
        exact W.iret hx hb hr (fun t ht hW => ⟨_, rfl, (Option.some.inj hF), ht⟩) (fun _ h => nomatch h) dX0_cellsSet_31
      · replace hF := iq c9 hF
        refine lv_iload_n hx hb dX0_cellsSet_12 rfl (lv_at hl 1 rfl) ?_
        refine lv_aload_n hx hb dX0_cellsSet_13 rfl (lv_at hl 0 rfl) ?_
        refine va_get (D := D) (ci := 0) (v := .ref (a0 2)) (C := RX0) (T := TX0) (N := 6) hx hb hts (fun w h => List.mem_cons_of_mem _ (inAX0 w h)) hown hK.1 hP 0 rfl rfl 4 (by decide) (hts _ (List.mem_cons_of_mem _ fl_RX0_15)) (fun _ h9 => h9) rfl dX0_cellsSet_14 ?_
        refine lv_iload_n hx hb dX0_cellsSet_17 rfl (lv_at hl 2 rfl) ?_
        obtain ⟨v18, h18, hF⟩ := bd hF
        refine rI hx hb hK.1 hP 2 0 rfl rfl h18 dX0_cellsSet_18 ?_
        obtain ⟨v19, h19, hF⟩ := bd hF
        refine cRe (va_runS (As := [.int v18]) (rest := [.int x1_4]) ⟨hx, hb, hml, hown, hts⟩ (c_J6_bitCount_0f7a4 l D cI cS v18 v19 h19) (cwSA hts (TW.cons _) ls_J6_bitCount_0f7a4 ml_RX0_74 ⟨rfl, rfl⟩ ⟨(Nat.le_of_ble_eq_true rfl), (Nat.le_of_ble_eq_true rfl)⟩) (pRS hK pnil) rfl rfl hl.1 rfl (lv_room (Nat.le_of_ble_eq_true rfl)) dX0_cellsSet_19 ⟨Nat.le_refl _, Nat.le_refl _⟩) ?_
        refine lv_iadd hx hb dX0_cellsSet_22 ?_
        refine lv_istore_n (lv' := [(1, .int (x1_4 + v19)), (0, .ref (a0 0)), (2, .int x2_4)]) hx hb dX0_cellsSet_23 rfl hl (by decide) rfl (fun ls hl => ?_)
        refine lv_iinc (v := (x2_4 + 1)) (lv' := [(2, .int (x2_4 + 1)), (1, .int (x1_4 + v19)), (0, .ref (a0 0))]) hx hb dX0_cellsSet_24 hl (k := 2) rfl rfl (by decide) rfl (fun ls hl => ?_)
        refine lv_goto (tgt := 4) hx hb dX0_cellsSet_27 (by decide) ?_
        exact ih4 (x1_4 + v19) (x2_4 + 1) _ (lv_sub hl [2, 1, 0] rfl) hF
  exact L4 1000 0 0 _ (lv_sub hl [2, 1, 0] rfl) hF
noncomputable def F_X1_bitOf (x0 : Int32) (x1 : Int32) : Option Int32 :=
  some (((4 * ((x0 >>> (((x1 + 1) - (x1 + 1) / 6 * 6) &&& 31)) &&& 1)) + (2 * ((x0 >>> (x1 &&& 31)) &&& 1))) + ((x0 >>> ((((x1 + 6) - 1) - ((x1 + 6) - 1) / 6 * 6) &&& 31)) &&& 1))
abbrev rm_X1_bitOf : Room := { frames := 0, cells := 0, slots := 0, locals := 0 }
set_option maxHeartbeats 4000000 in
set_option maxRecDepth 100000 in
theorem c_X1_bitOf (l : Launch) (D : va_G) (cI cS : ClassId) (x0 : Int32) (x1 : Int32) (r : Int32) (hF : F_X1_bitOf x0 x1 = some r) : Met l yX1_bitOf (Cond.code yX1_bitOf cX1_bitOf 5 (some .int) :: ALL) rm_X1_bitOf (PreR D cI cS [.int x0, .int x1] ([])) (vp_Si (fun x => x = r)) 0 0 (fun _ => False) := by
  refine mR l D cI cS (by decide) (Nat.le_of_ble_eq_true rfl) ?_
  intro p e s m below meth c ls hx hb hr hml hown hts hlocks hP hK hl
  have hown : s.vm.findClass RX1 = some m.cls := hown
  have hl : lv_has ls 5 [(0, .int x0), (1, .int x1)] := hl
  unfold F_X1_bitOf at hF
  refine lv_iload_n hx hb dX1_bitOf_0 rfl (lv_at hl 0 rfl) ?_
  refine lv_iload_n hx hb dX1_bitOf_1 rfl (lv_at hl 1 rfl) ?_
  refine lv_iconst (v := 1) hx hb dX1_bitOf_2 (by decide) ?_
  refine lv_iadd hx hb dX1_bitOf_3 ?_
  refine lv_bipush (v := 6) hx hb dX1_bitOf_4 (by decide) ?_
  refine lv_irem hx hb dX1_bitOf_6 (by decide) ?_
  refine lv_ishr hx hb dX1_bitOf_7 ?_
  refine lv_iconst (v := 1) hx hb dX1_bitOf_8 (by decide) ?_
  refine lv_iand hx hb dX1_bitOf_9 ?_
  refine lv_istore_n (lv' := [(2, .int ((x0 >>> (((x1 + 1) - (x1 + 1) / 6 * 6) &&& 31)) &&& 1)), (0, .int x0), (1, .int x1)]) hx hb dX1_bitOf_10 rfl hl (by decide) rfl (fun ls hl => ?_)
  refine lv_iload_n hx hb dX1_bitOf_11 rfl (lv_at hl 1 rfl) ?_
  refine lv_iload_n hx hb dX1_bitOf_12 rfl (lv_at hl 2 rfl) ?_
  refine lv_ishr hx hb dX1_bitOf_13 ?_
  refine lv_iconst (v := 1) hx hb dX1_bitOf_14 (by decide) ?_
  refine lv_iand hx hb dX1_bitOf_15 ?_
  refine lv_istore_n (lv' := [(3, .int ((x0 >>> (x1 &&& 31)) &&& 1)), (2, .int ((x0 >>> (((x1 + 1) - (x1 + 1) / 6 * 6) &&& 31)) &&& 1)), (0, .int x0), (1, .int x1)]) hx hb dX1_bitOf_16 rfl hl (by decide) rfl (fun ls hl => ?_)
  refine lv_iload_n hx hb dX1_bitOf_17 rfl (lv_at hl 2 rfl) ?_
  refine lv_iload_n hx hb dX1_bitOf_18 rfl (lv_at hl 3 rfl) ?_
  refine lv_bipush (v := 6) hx hb dX1_bitOf_19 (by decide) ?_
  refine lv_iadd hx hb dX1_bitOf_21 ?_
  refine lv_iconst (v := 1) hx hb dX1_bitOf_22 (by decide) ?_
  refine lv_isub hx hb dX1_bitOf_23 ?_
  refine lv_bipush (v := 6) hx hb dX1_bitOf_24 (by decide) ?_
  refine lv_irem hx hb dX1_bitOf_26 (by decide) ?_
  refine lv_ishr hx hb dX1_bitOf_27 ?_
  refine lv_iconst (v := 1) hx hb dX1_bitOf_28 (by decide) ?_
  refine lv_iand hx hb dX1_bitOf_29 ?_
  refine lv_istore (lv' := [(4, .int ((x0 >>> ((((x1 + 6) - 1) - ((x1 + 6) - 1) / 6 * 6) &&& 31)) &&& 1)), (3, .int ((x0 >>> (x1 &&& 31)) &&& 1)), (2, .int ((x0 >>> (((x1 + 1) - (x1 + 1) / 6 * 6) &&& 31)) &&& 1)), (0, .int x0), (1, .int x1)]) hx hb dX1_bitOf_30 hl (by decide) rfl (fun ls hl => ?_)
  refine lv_iconst (v := 4) hx hb dX1_bitOf_32 (by decide) ?_
  refine lv_iload_n hx hb dX1_bitOf_33 rfl (lv_at hl 2 rfl) ?_
  refine lv_imul hx hb dX1_bitOf_34 ?_
  refine lv_iconst (v := 2) hx hb dX1_bitOf_35 (by decide) ?_
  refine lv_iload_n hx hb dX1_bitOf_36 rfl (lv_at hl 1 rfl) ?_
  refine lv_imul hx hb dX1_bitOf_37 ?_
  refine lv_iadd hx hb dX1_bitOf_38 ?_
  refine lv_iload hx hb dX1_bitOf_39 (lv_at hl 0 rfl) ?_
  refine lv_iadd hx hb dX1_bitOf_41 ?_
  exact W.iret hx hb hr (fun t ht hW => ⟨_, rfl, (Option.some.inj hF), ht⟩) (fun _ h => nomatch h) dX1_bitOf_42
noncomputable def F_X1_stepOf_L4 (t0 : ST) (x1 : Int32) (k : Int32 → Int32 → Option Int32) : Nat → Int32 → Int32 → Option Int32
  | 0, _, _ => none
  | n + 1, x2, x3 =>
    if 6 ≤ x3 then
      k x2 x3
    else
    (F_X1_bitOf x1 x3).bind fun v17 =>
    (F_X1_stepOf_L4 t0 x1 k n) (x2 ||| ((((t0 0 0) >>> (v17 &&& 31)) &&& 1) <<< (x3 &&& 31))) (x3 + 1)
noncomputable def F_X1_stepOf_J33 (t0 : ST) (x1 : Int32) (x2 : Int32) : Option Int32 :=
  some x2
noncomputable def F_X1_stepOf (t0 : ST) (x1 : Int32) : Option Int32 :=
  F_X1_stepOf_L4 t0 x1 (fun x2_k4 x3_k4 => F_X1_stepOf_J33 t0 x1 x2_k4) 1000 0 0
abbrev rm_X1_stepOf : Room := { frames := 1, cells := 0, slots := 0, locals := 24 }
set_option maxHeartbeats 4000000 in
set_option maxRecDepth 100000 in
theorem c_X1_stepOf (l : Launch) (D : va_G) (cI cS : ClassId) (a0 : Nat → Nat) (t0 : ST) (x1 : Int32) (r : Int32) (hF : F_X1_stepOf t0 x1 = some r) : Met l yX1_stepOf (Cond.code yX1_stepOf cX1_stepOf 4 (some .int) :: ALL) rm_X1_stepOf (PreR D cI cS [.ref (a0 0), .int x1] (pL cI cS a0 t0)) (vp_Si (fun x => x = r)) 0 0 (fun _ => False) := by
  refine mR l D cI cS (by decide) (Nat.le_of_ble_eq_true rfl) ?_
  intro p e s m below meth c ls hx hb hr hml hown hts hlocks hP hK hl
  have hown : s.vm.findClass RX1 = some m.cls := hown
  have hl : lv_has ls 4 [(0, .ref (a0 0)), (1, .int x1)] := hl
  unfold F_X1_stepOf at hF
  refine lv_iconst (v := 0) hx hb dX1_stepOf_0 (by decide) ?_
  refine lv_istore_n (lv' := [(2, .int 0), (0, .ref (a0 0)), (1, .int x1)]) hx hb dX1_stepOf_1 rfl hl (by decide) rfl (fun ls hl => ?_)
  refine lv_iconst (v := 0) hx hb dX1_stepOf_2 (by decide) ?_
  refine lv_istore_n (lv' := [(3, .int 0), (2, .int 0), (0, .ref (a0 0)), (1, .int x1)]) hx hb dX1_stepOf_3 rfl hl (by decide) rfl (fun ls hl => ?_)
  have L4 : ∀ (n_4 : Nat) (x2_4 : Int32) (x3_4 : Int32) (ls : Array Slot), lv_has ls 4 [(0, .ref (a0 0)), (1, .int x1), (2, .int x2_4), (3, .int x3_4)] → F_X1_stepOf_L4 t0 x1 (fun x2_k4 x3_k4 => F_X1_stepOf_J33 t0 x1 x2_k4) n_4 x2_4 x3_4 = some r → W p l e rm_X1_stepOf s m [.ref (a0 0), .int x1].toArray below meth c s.heap [] 0 0 (MQ below (vp_Si (fun x => x = r)) [.ref (a0 0), .int x1].toArray s 0 0 (fun _ => False)) (F0 m 4 ls []) := by
    intro n_4
    induction n_4 with
    | zero => intro x2_4 x3_4 ls hl hF; exact nomatch hF
    | succ n_4 ih4 =>
      intro x2_4 x3_4 ls hl hF
      rw [F_X1_stepOf_L4.eq_2] at hF
      refine lv_iload_n hx hb dX1_stepOf_4 rfl (lv_at hl 3 rfl) ?_
      refine lv_bipush (v := 6) hx hb dX1_stepOf_5 (by decide) ?_
      refine lv_icmp_ge (tgt := 33) hx hb dX1_stepOf_7 (by decide) (fun c7 => ?_) (fun c7 => ?_)
      · replace hF := ip c7 hF
        have hF : F_X1_stepOf_J33 t0 x1 x2_4 = some r := hF
        unfold F_X1_stepOf_J33 at hF
        refine lv_iload_n hx hb dX1_stepOf_33 rfl (lv_at hl 2 rfl) ?_
        exact W.iret hx hb hr (fun t ht hW => ⟨_, rfl, (Option.some.inj hF), ht⟩) (fun _ h => nomatch h) dX1_stepOf_34
      · replace hF := iq c7 hF
        refine lv_iload_n hx hb dX1_stepOf_10 rfl (lv_at hl 2 rfl) ?_
        refine lv_aload_n hx hb dX1_stepOf_11 rfl (lv_at hl 0 rfl) ?_
        refine va_get (D := D) (ci := 1) (v := .int (t0 0 0)) (C := RX1) (T := TX1) (N := 2) hx hb hts (fun w h => List.mem_cons_of_mem _ (inAX1 w h)) hown hK.1 hP 0 rfl rfl 0 (by decide) (hts _ (List.mem_cons_of_mem _ fl_RX1_15)) (fun _ h9 => h9) rfl dX1_stepOf_12 ?_
        refine lv_iload_n hx hb dX1_stepOf_15 rfl (lv_at hl 1 rfl) ?_
        refine lv_iload_n hx hb dX1_stepOf_16 rfl (lv_at hl 3 rfl) ?_
        obtain ⟨v17, h17, hF⟩ := bd hF
        refine cRe (va_runS (As := [.int x1, .int x3_4]) (rest := [.int (t0 0 0), .int x2_4]) ⟨hx, hb, hml, hown, hts⟩ (c_X1_bitOf l D cI cS x1 x3_4 v17 h17) (cwSA hts (TW.cons _) ls_X1_bitOf ml_RX1_27 ⟨rfl, rfl⟩ ⟨(Nat.le_of_ble_eq_true rfl), (Nat.le_of_ble_eq_true rfl)⟩) (pRS hK pnil) rfl rfl hl.1 rfl (lv_room (Nat.le_of_ble_eq_true rfl)) dX1_stepOf_17 ⟨Nat.le_refl _, Nat.le_refl _⟩) ?_
        refine lv_ishr hx hb dX1_stepOf_20 ?_
        refine lv_iconst (v := 1) hx hb dX1_stepOf_21 (by decide) ?_
        refine lv_iand hx hb dX1_stepOf_22 ?_
        refine lv_iload_n hx hb dX1_stepOf_23 rfl (lv_at hl 3 rfl) ?_
        refine lv_ishl hx hb dX1_stepOf_24 ?_
        refine lv_ior hx hb dX1_stepOf_25 ?_
        refine lv_istore_n (lv' := [(2, .int (x2_4 ||| ((((t0 0 0) >>> (v17 &&& 31)) &&& 1) <<< (x3_4 &&& 31)))), (0, .ref (a0 0)), (1, .int x1), (3, .int x3_4)]) hx hb dX1_stepOf_26 rfl hl (by decide) rfl (fun ls hl => ?_)
        refine lv_iinc (v := (x3_4 + 1)) (lv' := [(3, .int (x3_4 + 1)), (2, .int (x2_4 ||| ((((t0 0 0) >>> (v17 &&& 31)) &&& 1) <<< (x3_4 &&& 31)))), (0, .ref (a0 0)), (1, .int x1)]) hx hb dX1_stepOf_27 hl (k := 3) rfl rfl (by decide) rfl (fun ls hl => ?_)
        refine lv_goto (tgt := 4) hx hb dX1_stepOf_30 (by decide) ?_
        exact ih4 (x2_4 ||| ((((t0 0 0) >>> (v17 &&& 31)) &&& 1) <<< (x3_4 &&& 31))) (x3_4 + 1) _ (lv_sub hl [2, 3, 1, 0] rfl) hF
  exact L4 1000 0 0 _ (lv_sub hl [2, 3, 1, 0] rfl) hF
noncomputable def F_X1_fix_L7 (x1 : Int32) (k : Int32 → ST → Option ST) : Nat → Int32 → ST → Option ST
  | 0, _, _ => none
  | n + 1, x2, s0 =>
    if 64 ≤ x2 then
      k x2 s0
    else
    (ix 576 x2).bind fun k19 =>
    (F_X1_stepOf (st s0 1 k19 x2) x2).bind fun v30 =>
    (ix 576 (64 + x2)).bind fun k33 =>
    (F_X1_fix_L7 x1 k n) (x2 + 1) (st (st s0 1 k19 x2) 1 k33 v30)
noncomputable def F_X1_fix_L44 (x1 : Int32) (k : Int32 → ST → Option ST) : Nat → Int32 → ST → Option ST
  | 0, _, _ => none
  | n + 1, x2, s0 =>
    if 576 ≤ x2 then
      k x2 s0
    else
    (rd 576 (s0 1) (x2 - 64)).bind fun v67 =>
    (F_X1_after s0 v67 1).bind fun v69 =>
    (ix 576 x2).bind fun k72 =>
    (F_X1_fix_L44 x1 k n) (x2 + 1) (st s0 1 k72 v69)
noncomputable def F_X1_fix_J79 (x1 : Int32) (s0 : ST) : Option ST :=
  some s0
noncomputable def F_X1_fix_J40 (x1 : Int32) (s0 : ST) : Option ST :=
  F_X1_fix_L44 x1 (fun x2_k44 s0_k44 => F_X1_fix_J79 x1 s0_k44) 1000 128 s0
noncomputable def F_X1_fix (t0 : ST) (x1 : Int32) : Option ST :=
  F_X1_fix_L7 x1 (fun x2_k7 s0_k7 => F_X1_fix_J40 x1 s0_k7) 1000 0 (st t0 0 0 x1)
abbrev rm_X1_fix : Room := { frames := 2, cells := 0, slots := 0, locals := 47 }
set_option maxHeartbeats 4000000 in
set_option maxRecDepth 100000 in
theorem c_X1_fix (l : Launch) (D : va_G) (cI cS : ClassId) (a0 : Nat → Nat) (t0 : ST) (x1 : Int32) (t' : ST) (hF : F_X1_fix t0 x1 = some t') : Met l yX1_fix (Cond.code yX1_fix cX1_fix 3 none :: ALL) rm_X1_fix (PreW D cI cS [.ref (a0 0), .int x1] (pL cI cS a0 t0)) (va_Qv (fun (_ : Unit) => True) (fun _ t => va_P D vwCl (pL cI cS a0 t') t.heap) (AD (pL cI cS a0 t0))) 0 0 (AD (pL cI cS a0 t0)) := by
  refine mW l D cI cS (by decide) (Nat.le_of_ble_eq_true rfl) ?_
  intro p e s m below meth c ls hx hb hr hml hown hts hlocks hP hK hD hS hl
  have hown : s.vm.findClass RX1 = some m.cls := hown
  have hl : lv_has ls 3 [(0, .ref (a0 0)), (1, .int x1)] := hl
  unfold F_X1_fix at hF
  refine lv_aload_n hx hb dX1_fix_0 rfl (lv_at hl 0 rfl) ?_
  refine lv_iload_n hx hb dX1_fix_1 rfl (lv_at hl 1 rfl) ?_
  refine wF (ws' := pL cI cS a0 (st t0 0 0 x1)) (C := RX1) (T := TX1) (N := 2) hx hb hts (fun w h => List.mem_cons_of_mem _ (inAX1 w h)) tyX1 tyX1_ok nmX1 hown hK.1 hP hD hS 0 rfl rfl 0 (by decide) (hts _ (List.mem_cons_of_mem _ fl_RX1_15)) rfl (tyX1_ok 0 (by decide)) rfl rfl (Nat.le_of_ble_eq_true rfl) rfl dX1_fix_2 (fun H locs hP hD hS => ?_)
  refine lv_iconst (v := 0) hx hb dX1_fix_5 (by decide) ?_
  refine lv_istore_n (lv' := [(2, .int 0), (0, .ref (a0 0)), (1, .int x1)]) hx hb dX1_fix_6 rfl hl (by decide) rfl (fun ls hl => ?_)
  have L7 : ∀ (n_7 : Nat) (x2_7 : Int32) (s0_7 : ST) (H : Heap) (locs : List Loc) (ls : Array Slot), va_P D vwCl (pL cI cS a0 s0_7) H → va_D (AD (pL cI cS a0 t0)) (pL cI cS a0 s0_7) → va_S (AD (pL cI cS a0 t0)) s.heap H locs → lv_has ls 3 [(0, .ref (a0 0)), (2, .int x2_7)] → F_X1_fix_L7 x1 (fun x2_k7 s0_k7 => F_X1_fix_J40 x1 s0_k7) n_7 x2_7 s0_7 = some t' → W p l e rm_X1_fix s m [.ref (a0 0), .int x1].toArray below meth c H locs 0 0 (MQ below (va_Qv (fun (_ : Unit) => True) (fun _ t => va_P D vwCl (pL cI cS a0 t') t.heap) (AD (pL cI cS a0 t0))) [.ref (a0 0), .int x1].toArray s 0 0 (AD (pL cI cS a0 t0))) (F0 m 7 ls []) := by
    intro n_7
    induction n_7 with
    | zero => intro x2_7 s0_7 H locs ls hP hD hS hl hF; exact nomatch hF
    | succ n_7 ih7 =>
      intro x2_7 s0_7 H locs ls hP hD hS hl hF
      rw [F_X1_fix_L7.eq_2] at hF
      refine lv_iload_n hx hb dX1_fix_7 rfl (lv_at hl 1 rfl) ?_
      refine lv_bipush (v := 64) hx hb dX1_fix_8 (by decide) ?_
      refine lv_icmp_ge (tgt := 40) hx hb dX1_fix_10 (by decide) (fun c10 => ?_) (fun c10 => ?_)
      · replace hF := ip c10 hF
        have hF : F_X1_fix_J40 x1 s0_7 = some t' := hF
        unfold F_X1_fix_J40 at hF
        refine lv_sipush (v := 128) hx hb dX1_fix_40 (by decide) ?_
        refine lv_istore_n (lv' := [(2, .int 128), (0, .ref (a0 0))]) hx hb dX1_fix_43 rfl hl (by decide) rfl (fun ls hl => ?_)
        have L44 : ∀ (n_44 : Nat) (x2_44 : Int32) (s0_44 : ST) (H : Heap) (locs : List Loc) (ls : Array Slot), va_P D vwCl (pL cI cS a0 s0_44) H → va_D (AD (pL cI cS a0 t0)) (pL cI cS a0 s0_44) → va_S (AD (pL cI cS a0 t0)) s.heap H locs → lv_has ls 3 [(0, .ref (a0 0)), (2, .int x2_44)] → F_X1_fix_L44 x1 (fun x2_k44 s0_k44 => F_X1_fix_J79 x1 s0_k44) n_44 x2_44 s0_44 = some t' → W p l e rm_X1_fix s m [.ref (a0 0), .int x1].toArray below meth c H locs 0 0 (MQ below (va_Qv (fun (_ : Unit) => True) (fun _ t => va_P D vwCl (pL cI cS a0 t') t.heap) (AD (pL cI cS a0 t0))) [.ref (a0 0), .int x1].toArray s 0 0 (AD (pL cI cS a0 t0))) (F0 m 44 ls []) := by
          intro n_44
          induction n_44 with
          | zero => intro x2_44 s0_44 H locs ls hP hD hS hl hF; exact nomatch hF
          | succ n_44 ih44 =>
            intro x2_44 s0_44 H locs ls hP hD hS hl hF
            rw [F_X1_fix_L44.eq_2] at hF
            refine lv_iload_n hx hb dX1_fix_44 rfl (lv_at hl 1 rfl) ?_
            refine lv_aload_n hx hb dX1_fix_45 rfl (lv_at hl 0 rfl) ?_
            refine va_get (D := D) (ci := 1) (v := .ref (a0 1)) (C := RX1) (T := TX1) (N := 2) hx hb hts (fun w h => List.mem_cons_of_mem _ (inAX1 w h)) hown hK.1 hP 0 rfl rfl 1 (by decide) (hts _ (List.mem_cons_of_mem _ fl_RX1_9)) (fun _ h9 => h9) rfl dX1_fix_46 ?_
            refine va_alen (v := 576) hx hb hK.1 hP 1 0 rfl rfl rfl dX1_fix_49 ?_
            refine lv_icmp_ge (tgt := 79) hx hb dX1_fix_50 (by decide) (fun c50 => ?_) (fun c50 => ?_)
            · replace hF := ip c50 hF
              have hF : F_X1_fix_J79 x1 s0_44 = some t' := hF
              unfold F_X1_fix_J79 at hF
              exact W.vret hx hb hr (fun t ht hW => ⟨⟨(), rfl, trivial, by show va_P _ _ _ t.heap; rw [ht, ← (Option.some.inj hF)]; exact hP⟩, hS.F ht⟩) hS.2.2 dX1_fix_79
            · replace hF := iq c50 hF
              refine lv_aload_n hx hb dX1_fix_53 rfl (lv_at hl 0 rfl) ?_
              refine va_get (D := D) (ci := 1) (v := .ref (a0 1)) (C := RX1) (T := TX1) (N := 2) hx hb hts (fun w h => List.mem_cons_of_mem _ (inAX1 w h)) hown hK.1 hP 0 rfl rfl 1 (by decide) (hts _ (List.mem_cons_of_mem _ fl_RX1_9)) (fun _ h9 => h9) rfl dX1_fix_54 ?_
              refine lv_iload_n hx hb dX1_fix_57 rfl (lv_at hl 1 rfl) ?_
              refine lv_aload_n hx hb dX1_fix_58 rfl (lv_at hl 0 rfl) ?_
              refine lv_aload_n hx hb dX1_fix_59 rfl (lv_at hl 0 rfl) ?_
              refine va_get (D := D) (ci := 1) (v := .ref (a0 1)) (C := RX1) (T := TX1) (N := 2) hx hb hts (fun w h => List.mem_cons_of_mem _ (inAX1 w h)) hown hK.1 hP 0 rfl rfl 1 (by decide) (hts _ (List.mem_cons_of_mem _ fl_RX1_9)) (fun _ h9 => h9) rfl dX1_fix_60 ?_
              refine lv_iload_n hx hb dX1_fix_63 rfl (lv_at hl 1 rfl) ?_
              refine lv_bipush (v := 64) hx hb dX1_fix_64 (by decide) ?_
              refine lv_isub hx hb dX1_fix_66 ?_
              obtain ⟨v67, h67, hF⟩ := bd hF
              refine rI hx hb hK.1 hP 1 0 rfl rfl h67 dX1_fix_67 ?_
              refine lv_iconst (v := 1) hx hb dX1_fix_68 (by decide) ?_
              obtain ⟨v69, h69, hF⟩ := bd hF
              refine cRe (va_runV (As := [.int v67, .int 1]) (rest := [.int x2_44, .ref (a0 1)]) ⟨hx, hb, hml, hown, hts⟩ (c_X1_after l D cI cS a0 s0_44 v67 1 v69 h69) (cwVA hts (TW.cons _) lv_X1_after ml_RX1_23 ⟨rfl, rfl⟩ ⟨(Nat.le_of_ble_eq_true rfl), (Nat.le_of_ble_eq_true rfl)⟩) (pRV hK hP (ci := 1) rfl rfl) rfl rfl hl.1 rfl (lv_room (Nat.le_of_ble_eq_true rfl)) dX1_fix_69 ⟨Nat.le_refl _, Nat.le_refl _⟩) ?_
              obtain ⟨k72, h72, hF⟩ := bd hF
              refine wI (ws' := pL cI cS a0 (st s0_44 1 k72 v69)) hx hb hK.1 hP hD hS 1 0 rfl rfl h72 rfl dX1_fix_72 (fun H locs hP hD hS => ?_)
              refine lv_iinc (v := (x2_44 + 1)) (lv' := [(2, .int (x2_44 + 1)), (0, .ref (a0 0))]) hx hb dX1_fix_73 hl (k := 1) rfl rfl (by decide) rfl (fun ls hl => ?_)
              refine lv_goto (tgt := 44) hx hb dX1_fix_76 (by decide) ?_
              exact ih44 (x2_44 + 1) (st s0_44 1 k72 v69) _ _ _ hP hD hS (lv_sub hl [1, 0] rfl) hF
        exact L44 1000 128 s0_7 _ _ _ hP hD hS (lv_sub hl [1, 0] rfl) hF
      · replace hF := iq c10 hF
        refine lv_aload_n hx hb dX1_fix_13 rfl (lv_at hl 0 rfl) ?_
        refine va_get (D := D) (ci := 1) (v := .ref (a0 1)) (C := RX1) (T := TX1) (N := 2) hx hb hts (fun w h => List.mem_cons_of_mem _ (inAX1 w h)) hown hK.1 hP 0 rfl rfl 1 (by decide) (hts _ (List.mem_cons_of_mem _ fl_RX1_9)) (fun _ h9 => h9) rfl dX1_fix_14 ?_
        refine lv_iload_n hx hb dX1_fix_17 rfl (lv_at hl 1 rfl) ?_
        refine lv_iload_n hx hb dX1_fix_18 rfl (lv_at hl 1 rfl) ?_
        obtain ⟨k19, h19, hF⟩ := bd hF
        refine wI (ws' := pL cI cS a0 (st s0_7 1 k19 x2_7)) hx hb hK.1 hP hD hS 1 0 rfl rfl h19 rfl dX1_fix_19 (fun H locs hP hD hS => ?_)
        refine lv_aload_n hx hb dX1_fix_20 rfl (lv_at hl 0 rfl) ?_
        refine va_get (D := D) (ci := 1) (v := .ref (a0 1)) (C := RX1) (T := TX1) (N := 2) hx hb hts (fun w h => List.mem_cons_of_mem _ (inAX1 w h)) hown hK.1 hP 0 rfl rfl 1 (by decide) (hts _ (List.mem_cons_of_mem _ fl_RX1_9)) (fun _ h9 => h9) rfl dX1_fix_21 ?_
        refine lv_bipush (v := 64) hx hb dX1_fix_24 (by decide) ?_
        refine lv_iload_n hx hb dX1_fix_26 rfl (lv_at hl 1 rfl) ?_
        refine lv_iadd hx hb dX1_fix_27 ?_
        refine lv_aload_n hx hb dX1_fix_28 rfl (lv_at hl 0 rfl) ?_
        refine lv_iload_n hx hb dX1_fix_29 rfl (lv_at hl 1 rfl) ?_
        obtain ⟨v30, h30, hF⟩ := bd hF
        refine cRe (va_runV (As := [.int x2_7]) (rest := [.int (64 + x2_7), .ref (a0 1)]) ⟨hx, hb, hml, hown, hts⟩ (c_X1_stepOf l D cI cS a0 (st s0_7 1 k19 x2_7) x2_7 v30 h30) (cwVA hts (TW.cons _) lv_X1_stepOf ml_RX1_19 ⟨rfl, rfl⟩ ⟨(Nat.le_of_ble_eq_true rfl), (Nat.le_of_ble_eq_true rfl)⟩) (pRV hK hP (ci := 1) rfl rfl) rfl rfl hl.1 rfl (lv_room (Nat.le_of_ble_eq_true rfl)) dX1_fix_30 ⟨Nat.le_refl _, Nat.le_refl _⟩) ?_
        obtain ⟨k33, h33, hF⟩ := bd hF
        refine wI (ws' := pL cI cS a0 (st (st s0_7 1 k19 x2_7) 1 k33 v30)) hx hb hK.1 hP hD hS 1 0 rfl rfl h33 rfl dX1_fix_33 (fun H locs hP hD hS => ?_)
        refine lv_iinc (v := (x2_7 + 1)) (lv' := [(2, .int (x2_7 + 1)), (0, .ref (a0 0))]) hx hb dX1_fix_34 hl (k := 1) rfl rfl (by decide) rfl (fun ls hl => ?_)
        refine lv_goto (tgt := 7) hx hb dX1_fix_37 (by decide) ?_
        exact ih7 (x2_7 + 1) (st (st s0_7 1 k19 x2_7) 1 k33 v30) _ _ _ hP hD hS (lv_sub hl [1, 0] rfl) hF
  exact L7 1000 0 (st t0 0 0 x1) _ _ _ hP hD hS (lv_sub hl [1, 0] rfl) hF
noncomputable def F_X1_behind_L6 (t0 : ST) (x1 : Int32) (x2 : Int32) (x3 : Int32) (k : Int32 → Int32 → Option Int32) : Nat → Int32 → Int32 → Option Int32
  | 0, _, _ => none
  | n + 1, x4, x5 =>
    if x3 ≤ x5 then
      k x4 x5
    else
    (F_X1_after t0 x4 x2).bind fun v16 =>
    (F_X1_behind_L6 t0 x1 x2 x3 k n) v16 (x5 + 1)
noncomputable def F_X1_behind_J27 (t0 : ST) (x1 : Int32) (x2 : Int32) (x3 : Int32) (x4 : Int32) : Option Int32 :=
  some x4
noncomputable def F_X1_behind (t0 : ST) (x1 : Int32) (x2 : Int32) (x3 : Int32) : Option Int32 :=
  F_X1_behind_L6 t0 x1 x2 x3 (fun x4_k6 x5_k6 => F_X1_behind_J27 t0 x1 x2 x3 x4_k6) 1000 x1 0
abbrev rm_X1_behind : Room := { frames := 2, cells := 0, slots := 0, locals := 42 }
set_option maxHeartbeats 4000000 in
set_option maxRecDepth 100000 in
theorem c_X1_behind (l : Launch) (D : va_G) (cI cS : ClassId) (a0 : Nat → Nat) (t0 : ST) (x1 : Int32) (x2 : Int32) (x3 : Int32) (r : Int32) (hF : F_X1_behind t0 x1 x2 x3 = some r) : Met l yX1_behind (Cond.code yX1_behind cX1_behind 6 (some .int) :: ALL) rm_X1_behind (PreR D cI cS [.ref (a0 0), .int x1, .int x2, .int x3] (pL cI cS a0 t0)) (vp_Si (fun x => x = r)) 0 0 (fun _ => False) := by
  refine mR l D cI cS (by decide) (Nat.le_of_ble_eq_true rfl) ?_
  intro p e s m below meth c ls hx hb hr hml hown hts hlocks hP hK hl
  have hown : s.vm.findClass RX1 = some m.cls := hown
  have hl : lv_has ls 6 [(0, .ref (a0 0)), (1, .int x1), (2, .int x2), (3, .int x3)] := hl
  unfold F_X1_behind at hF
  refine lv_iload_n hx hb dX1_behind_0 rfl (lv_at hl 1 rfl) ?_
  refine lv_istore (lv' := [(4, .int x1), (0, .ref (a0 0)), (1, .int x1), (2, .int x2), (3, .int x3)]) hx hb dX1_behind_1 hl (by decide) rfl (fun ls hl => ?_)
  refine lv_iconst (v := 0) hx hb dX1_behind_3 (by decide) ?_
  refine lv_istore (lv' := [(5, .int 0), (4, .int x1), (0, .ref (a0 0)), (1, .int x1), (2, .int x2), (3, .int x3)]) hx hb dX1_behind_4 hl (by decide) rfl (fun ls hl => ?_)
  have L6 : ∀ (n_6 : Nat) (x4_6 : Int32) (x5_6 : Int32) (ls : Array Slot), lv_has ls 6 [(0, .ref (a0 0)), (2, .int x2), (3, .int x3), (4, .int x4_6), (5, .int x5_6)] → F_X1_behind_L6 t0 x1 x2 x3 (fun x4_k6 x5_k6 => F_X1_behind_J27 t0 x1 x2 x3 x4_k6) n_6 x4_6 x5_6 = some r → W p l e rm_X1_behind s m [.ref (a0 0), .int x1, .int x2, .int x3].toArray below meth c s.heap [] 0 0 (MQ below (vp_Si (fun x => x = r)) [.ref (a0 0), .int x1, .int x2, .int x3].toArray s 0 0 (fun _ => False)) (F0 m 6 ls []) := by
    intro n_6
    induction n_6 with
    | zero => intro x4_6 x5_6 ls hl hF; exact nomatch hF
    | succ n_6 ih6 =>
      intro x4_6 x5_6 ls hl hF
      rw [F_X1_behind_L6.eq_2] at hF
      refine lv_iload hx hb dX1_behind_6 (lv_at hl 4 rfl) ?_
      refine lv_iload_n hx hb dX1_behind_8 rfl (lv_at hl 2 rfl) ?_
      refine lv_icmp_ge (tgt := 27) hx hb dX1_behind_9 (by decide) (fun c9 => ?_) (fun c9 => ?_)
      · replace hF := ip c9 hF
        have hF : F_X1_behind_J27 t0 x1 x2 x3 x4_6 = some r := hF
        unfold F_X1_behind_J27 at hF
        refine lv_iload hx hb dX1_behind_27 (lv_at hl 3 rfl) ?_
        exact W.iret hx hb hr (fun t ht hW => ⟨_, rfl, (Option.some.inj hF), ht⟩) (fun _ h => nomatch h) dX1_behind_29
      · replace hF := iq c9 hF
        refine lv_aload_n hx hb dX1_behind_12 rfl (lv_at hl 0 rfl) ?_
        refine lv_iload hx hb dX1_behind_13 (lv_at hl 3 rfl) ?_
        refine lv_iload_n hx hb dX1_behind_15 rfl (lv_at hl 1 rfl) ?_
        obtain ⟨v16, h16, hF⟩ := bd hF
        refine cRe (va_runV (As := [.int x4_6, .int x2]) (rest := []) ⟨hx, hb, hml, hown, hts⟩ (c_X1_after l D cI cS a0 t0 x4_6 x2 v16 h16) (cwVA hts (TW.cons _) lv_X1_after ml_RX1_23 ⟨rfl, rfl⟩ ⟨(Nat.le_of_ble_eq_true rfl), (Nat.le_of_ble_eq_true rfl)⟩) (pRV hK hP (ci := 1) rfl rfl) rfl rfl hl.1 rfl (lv_room (Nat.le_of_ble_eq_true rfl)) dX1_behind_16 ⟨Nat.le_refl _, Nat.le_refl _⟩) ?_
        refine lv_istore (lv' := [(4, .int v16), (0, .ref (a0 0)), (2, .int x2), (3, .int x3), (5, .int x5_6)]) hx hb dX1_behind_19 hl (by decide) rfl (fun ls hl => ?_)
        refine lv_iinc (v := (x5_6 + 1)) (lv' := [(5, .int (x5_6 + 1)), (4, .int v16), (0, .ref (a0 0)), (2, .int x2), (3, .int x3)]) hx hb dX1_behind_21 hl (k := 4) rfl rfl (by decide) rfl (fun ls hl => ?_)
        refine lv_goto (tgt := 6) hx hb dX1_behind_24 (by decide) ?_
        exact ih6 v16 (x5_6 + 1) _ (lv_sub hl [2, 3, 4, 1, 0] rfl) hF
  exact L6 1000 x1 0 _ (lv_sub hl [2, 4, 5, 1, 0] rfl) hF
noncomputable def F_X1_daysTo_L6 (t0 : ST) (x1 : Int32) (x2 : Int32) (x3 : Int32) (k : Int32 → Int32 → Option Int32) : Nat → Int32 → Int32 → Option Int32
  | 0, _, _ => none
  | n + 1, x4, x5 =>
    if 64 ≤ x5 then
      k x4 x5
    else
    if x4 = x3 then
      some x5
    else
    (F_X1_after t0 x4 x2).bind fun v26 =>
    (F_X1_daysTo_L6 t0 x1 x2 x3 k n) v26 (x5 + 1)
noncomputable def F_X1_daysTo_J37 (t0 : ST) (x1 : Int32) (x2 : Int32) (x3 : Int32) : Option Int32 :=
  some (-9)
noncomputable def F_X1_daysTo (t0 : ST) (x1 : Int32) (x2 : Int32) (x3 : Int32) : Option Int32 :=
  F_X1_daysTo_L6 t0 x1 x2 x3 (fun x4_k6 x5_k6 => F_X1_daysTo_J37 t0 x1 x2 x3) 1000 x1 0
abbrev rm_X1_daysTo : Room := { frames := 2, cells := 0, slots := 0, locals := 42 }
set_option maxHeartbeats 4000000 in
set_option maxRecDepth 100000 in
theorem c_X1_daysTo (l : Launch) (D : va_G) (cI cS : ClassId) (a0 : Nat → Nat) (t0 : ST) (x1 : Int32) (x2 : Int32) (x3 : Int32) (r : Int32) (hF : F_X1_daysTo t0 x1 x2 x3 = some r) : Met l yX1_daysTo (Cond.code yX1_daysTo cX1_daysTo 6 (some .int) :: ALL) rm_X1_daysTo (PreR D cI cS [.ref (a0 0), .int x1, .int x2, .int x3] (pL cI cS a0 t0)) (vp_Si (fun x => x = r)) 0 0 (fun _ => False) := by
  refine mR l D cI cS (by decide) (Nat.le_of_ble_eq_true rfl) ?_
  intro p e s m below meth c ls hx hb hr hml hown hts hlocks hP hK hl
  have hown : s.vm.findClass RX1 = some m.cls := hown
  have hl : lv_has ls 6 [(0, .ref (a0 0)), (1, .int x1), (2, .int x2), (3, .int x3)] := hl
  unfold F_X1_daysTo at hF
  refine lv_iload_n hx hb dX1_daysTo_0 rfl (lv_at hl 1 rfl) ?_
  refine lv_istore (lv' := [(4, .int x1), (0, .ref (a0 0)), (1, .int x1), (2, .int x2), (3, .int x3)]) hx hb dX1_daysTo_1 hl (by decide) rfl (fun ls hl => ?_)
  refine lv_iconst (v := 0) hx hb dX1_daysTo_3 (by decide) ?_
  refine lv_istore (lv' := [(5, .int 0), (4, .int x1), (0, .ref (a0 0)), (1, .int x1), (2, .int x2), (3, .int x3)]) hx hb dX1_daysTo_4 hl (by decide) rfl (fun ls hl => ?_)
  have L6 : ∀ (n_6 : Nat) (x4_6 : Int32) (x5_6 : Int32) (ls : Array Slot), lv_has ls 6 [(0, .ref (a0 0)), (2, .int x2), (3, .int x3), (4, .int x4_6), (5, .int x5_6)] → F_X1_daysTo_L6 t0 x1 x2 x3 (fun x4_k6 x5_k6 => F_X1_daysTo_J37 t0 x1 x2 x3) n_6 x4_6 x5_6 = some r → W p l e rm_X1_daysTo s m [.ref (a0 0), .int x1, .int x2, .int x3].toArray below meth c s.heap [] 0 0 (MQ below (vp_Si (fun x => x = r)) [.ref (a0 0), .int x1, .int x2, .int x3].toArray s 0 0 (fun _ => False)) (F0 m 6 ls []) := by
    intro n_6
    induction n_6 with
    | zero => intro x4_6 x5_6 ls hl hF; exact nomatch hF
    | succ n_6 ih6 =>
      intro x4_6 x5_6 ls hl hF
      rw [F_X1_daysTo_L6.eq_2] at hF
      refine lv_iload hx hb dX1_daysTo_6 (lv_at hl 4 rfl) ?_
      refine lv_bipush (v := 64) hx hb dX1_daysTo_8 (by decide) ?_
      refine lv_icmp_ge (tgt := 37) hx hb dX1_daysTo_10 (by decide) (fun c10 => ?_) (fun c10 => ?_)
      · replace hF := ip c10 hF
        have hF : F_X1_daysTo_J37 t0 x1 x2 x3 = some r := hF
        unfold F_X1_daysTo_J37 at hF
        refine lv_bipush (v := (-9)) hx hb dX1_daysTo_37 (by decide) ?_
        exact W.iret hx hb hr (fun t ht hW => ⟨_, rfl, (Option.some.inj hF), ht⟩) (fun _ h => nomatch h) dX1_daysTo_39
      · replace hF := iq c10 hF
        refine lv_iload hx hb dX1_daysTo_13 (lv_at hl 3 rfl) ?_
        refine lv_iload_n hx hb dX1_daysTo_15 rfl (lv_at hl 2 rfl) ?_
        refine lv_icmp_ne (tgt := 22) hx hb dX1_daysTo_16 (by decide) (fun c16 => ?_) (fun c16 => ?_)
        · replace hF := iq c16 hF
          refine lv_aload_n hx hb dX1_daysTo_22 rfl (lv_at hl 0 rfl) ?_
          refine lv_iload hx hb dX1_daysTo_23 (lv_at hl 3 rfl) ?_
          refine lv_iload_n hx hb dX1_daysTo_25 rfl (lv_at hl 1 rfl) ?_
          obtain ⟨v26, h26, hF⟩ := bd hF
          refine cRe (va_runV (As := [.int x4_6, .int x2]) (rest := []) ⟨hx, hb, hml, hown, hts⟩ (c_X1_after l D cI cS a0 t0 x4_6 x2 v26 h26) (cwVA hts (TW.cons _) lv_X1_after ml_RX1_23 ⟨rfl, rfl⟩ ⟨(Nat.le_of_ble_eq_true rfl), (Nat.le_of_ble_eq_true rfl)⟩) (pRV hK hP (ci := 1) rfl rfl) rfl rfl hl.1 rfl (lv_room (Nat.le_of_ble_eq_true rfl)) dX1_daysTo_26 ⟨Nat.le_refl _, Nat.le_refl _⟩) ?_
          refine lv_istore (lv' := [(4, .int v26), (0, .ref (a0 0)), (2, .int x2), (3, .int x3), (5, .int x5_6)]) hx hb dX1_daysTo_29 hl (by decide) rfl (fun ls hl => ?_)
          refine lv_iinc (v := (x5_6 + 1)) (lv' := [(5, .int (x5_6 + 1)), (4, .int v26), (0, .ref (a0 0)), (2, .int x2), (3, .int x3)]) hx hb dX1_daysTo_31 hl (k := 4) rfl rfl (by decide) rfl (fun ls hl => ?_)
          refine lv_goto (tgt := 6) hx hb dX1_daysTo_34 (by decide) ?_
          exact ih6 v26 (x5_6 + 1) _ (lv_sub hl [2, 3, 4, 1, 0] rfl) hF
        · replace hF := ip c16 hF
          refine lv_iload hx hb dX1_daysTo_19 (lv_at hl 4 rfl) ?_
          exact W.iret hx hb hr (fun t ht hW => ⟨_, rfl, (Option.some.inj hF), ht⟩) (fun _ h => nomatch h) dX1_daysTo_21
  exact L6 1000 x1 0 _ (lv_sub hl [2, 4, 5, 1, 0] rfl) hF
noncomputable def F_X1_stepsBack (t0 : ST) (x1 : Int32) : Option Int32 :=
  (F_X1_after t0 x1 1).bind fun v4 =>
  (F_X1_daysTo t0 v4 1 x1).bind fun v9 =>
  if v9 = (-9) then
    some (-9)
  else
  some (v9 + 1)
abbrev rm_X1_stepsBack : Room := { frames := 3, cells := 0, slots := 0, locals := 67 }
set_option maxHeartbeats 4000000 in
set_option maxRecDepth 100000 in
theorem c_X1_stepsBack (l : Launch) (D : va_G) (cI cS : ClassId) (a0 : Nat → Nat) (t0 : ST) (x1 : Int32) (r : Int32) (hF : F_X1_stepsBack t0 x1 = some r) : Met l yX1_stepsBack (Cond.code yX1_stepsBack cX1_stepsBack 3 (some .int) :: ALL) rm_X1_stepsBack (PreR D cI cS [.ref (a0 0), .int x1] (pL cI cS a0 t0)) (vp_Si (fun x => x = r)) 0 0 (fun _ => False) := by
  refine mR l D cI cS (by decide) (Nat.le_of_ble_eq_true rfl) ?_
  intro p e s m below meth c ls hx hb hr hml hown hts hlocks hP hK hl
  have hown : s.vm.findClass RX1 = some m.cls := hown
  have hl : lv_has ls 3 [(0, .ref (a0 0)), (1, .int x1)] := hl
  unfold F_X1_stepsBack at hF
  refine lv_aload_n hx hb dX1_stepsBack_0 rfl (lv_at hl 0 rfl) ?_
  refine lv_aload_n hx hb dX1_stepsBack_1 rfl (lv_at hl 0 rfl) ?_
  refine lv_iload_n hx hb dX1_stepsBack_2 rfl (lv_at hl 1 rfl) ?_
  refine lv_iconst (v := 1) hx hb dX1_stepsBack_3 (by decide) ?_
  obtain ⟨v4, h4, hF⟩ := bd hF
  refine cRe (va_runV (As := [.int x1, .int 1]) (rest := [.ref (a0 0)]) ⟨hx, hb, hml, hown, hts⟩ (c_X1_after l D cI cS a0 t0 x1 1 v4 h4) (cwVA hts (TW.cons _) lv_X1_after ml_RX1_23 ⟨rfl, rfl⟩ ⟨(Nat.le_of_ble_eq_true rfl), (Nat.le_of_ble_eq_true rfl)⟩) (pRV hK hP (ci := 1) rfl rfl) rfl rfl hl.1 rfl (lv_room (Nat.le_of_ble_eq_true rfl)) dX1_stepsBack_4 ⟨Nat.le_refl _, Nat.le_refl _⟩) ?_
  refine lv_iconst (v := 1) hx hb dX1_stepsBack_7 (by decide) ?_
  refine lv_iload_n hx hb dX1_stepsBack_8 rfl (lv_at hl 1 rfl) ?_
  obtain ⟨v9, h9, hF⟩ := bd hF
  refine cRe (va_runV (As := [.int v4, .int 1, .int x1]) (rest := []) ⟨hx, hb, hml, hown, hts⟩ (c_X1_daysTo l D cI cS a0 t0 v4 1 x1 v9 h9) (cwVA hts (TW.cons _) lv_X1_daysTo ml_RX1_34 ⟨rfl, rfl⟩ ⟨(Nat.le_of_ble_eq_true rfl), (Nat.le_of_ble_eq_true rfl)⟩) (pRV hK hP (ci := 1) rfl rfl) rfl rfl hl.1 rfl (lv_room (Nat.le_of_ble_eq_true rfl)) dX1_stepsBack_9 ⟨Nat.le_refl _, Nat.le_refl _⟩) ?_
  refine lv_istore_n (lv' := [(2, .int v9), (0, .ref (a0 0)), (1, .int x1)]) hx hb dX1_stepsBack_12 rfl hl (by decide) rfl (fun ls hl => ?_)
  refine lv_iload_n hx hb dX1_stepsBack_13 rfl (lv_at hl 0 rfl) ?_
  refine lv_bipush (v := (-9)) hx hb dX1_stepsBack_14 (by decide) ?_
  refine lv_icmp_ne (tgt := 24) hx hb dX1_stepsBack_16 (by decide) (fun c16 => ?_) (fun c16 => ?_)
  · replace hF := iq c16 hF
    refine lv_iload_n hx hb dX1_stepsBack_24 rfl (lv_at hl 0 rfl) ?_
    refine lv_iconst (v := 1) hx hb dX1_stepsBack_25 (by decide) ?_
    refine lv_iadd hx hb dX1_stepsBack_26 ?_
    exact W.iret hx hb hr (fun t ht hW => ⟨_, rfl, (Option.some.inj hF), ht⟩) (fun _ h => nomatch h) dX1_stepsBack_27
  · replace hF := ip c16 hF
    refine lv_bipush (v := (-9)) hx hb dX1_stepsBack_19 (by decide) ?_
    refine lv_goto (tgt := 27) hx hb dX1_stepsBack_21 (by decide) ?_
    exact W.iret hx hb hr (fun t ht hW => ⟨_, rfl, (Option.some.inj hF), ht⟩) (fun _ h => nomatch h) dX1_stepsBack_27
noncomputable def F_X2_forgetAll (t0 : ST) : Option ST :=
  some (st t0 0 0 0)
abbrev rm_X2_forgetAll : Room := { frames := 0, cells := 0, slots := 0, locals := 0 }
set_option maxHeartbeats 4000000 in
set_option maxRecDepth 100000 in
theorem c_X2_forgetAll (l : Launch) (D : va_G) (cI cS : ClassId) (a0 : Nat → Nat) (t0 : ST) (t' : ST) (hF : F_X2_forgetAll t0 = some t') : Met l yX2_forgetAll (Cond.code yX2_forgetAll cX2_forgetAll 1 none :: ALL) rm_X2_forgetAll (PreW D cI cS [.ref (a0 0)] (pD cI cS a0 t0)) (va_Qv (fun (_ : Unit) => True) (fun _ t => va_P D vwCl (pD cI cS a0 t') t.heap) (AD (pD cI cS a0 t0))) 0 0 (AD (pD cI cS a0 t0)) := by
  refine mW l D cI cS (by decide) (Nat.le_of_ble_eq_true rfl) ?_
  intro p e s m below meth c ls hx hb hr hml hown hts hlocks hP hK hD hS hl
  have hown : s.vm.findClass RX2 = some m.cls := hown
  have hl : lv_has ls 1 [(0, .ref (a0 0))] := hl
  unfold F_X2_forgetAll at hF
  refine lv_aload_n hx hb dX2_forgetAll_0 rfl (lv_at hl 0 rfl) ?_
  refine lv_iconst (v := 0) hx hb dX2_forgetAll_1 (by decide) ?_
  refine wF (ws' := pD cI cS a0 (st t0 0 0 0)) (C := RX2) (T := TX2) (N := 4) hx hb hts (fun w h => List.mem_cons_of_mem _ (inAX2 w h)) tyX2 tyX2_ok nmX2 hown hK.1 hP hD hS 0 rfl rfl 0 (by decide) (hts _ (List.mem_cons_of_mem _ fl_RX2_21)) rfl (tyX2_ok 0 (by decide)) rfl rfl (Nat.le_of_ble_eq_true rfl) rfl dX2_forgetAll_2 (fun H locs hP hD hS => ?_)
  exact W.vret hx hb hr (fun t ht hW => ⟨⟨(), rfl, trivial, by show va_P _ _ _ t.heap; rw [ht, ← (Option.some.inj hF)]; exact hP⟩, hS.F ht⟩) hS.2.2 dX2_forgetAll_5
noncomputable def F_X2_add (t0 : ST) (x1 : Int32) (x2 : Int32) (x3 : Int32) : Option (Int32 × ST) :=
  if (t0 0 0) < 0 then
    some ((-4), t0)
  else
  if (t0 0 0) < 8 then
    (ix 8 (t0 0 0)).bind fun k28 =>
    (ix 8 (t0 0 0)).bind fun k38 =>
    (ix 8 (t0 0 0)).bind fun k48 =>
    some ((((t0 0 0) + 1) - 1), (st (st (st (st t0 1 k28 x1) 2 k38 x2) 3 k48 x3) 0 0 ((t0 0 0) + 1)))
  else
  some ((-4), t0)
abbrev rm_X2_add : Room := { frames := 0, cells := 0, slots := 0, locals := 0 }
set_option maxHeartbeats 4000000 in
set_option maxRecDepth 100000 in
theorem c_X2_add (l : Launch) (D : va_G) (cI cS : ClassId) (a0 : Nat → Nat) (t0 : ST) (x1 : Int32) (x2 : Int32) (x3 : Int32) (r : Int32) (t' : ST) (hF : F_X2_add t0 x1 x2 x3 = some (r, t')) : Met l yX2_add (Cond.code yX2_add cX2_add 4 (some .int) :: ALL) rm_X2_add (PreW D cI cS [.ref (a0 0), .int x1, .int x2, .int x3] (pD cI cS a0 t0)) (va_Qi (fun x (_ : Unit) => x = r) (fun _ t => va_P D vwCl (pD cI cS a0 t') t.heap) (AD (pD cI cS a0 t0))) 0 0 (AD (pD cI cS a0 t0)) := by
  refine mW l D cI cS (by decide) (Nat.le_of_ble_eq_true rfl) ?_
  intro p e s m below meth c ls hx hb hr hml hown hts hlocks hP hK hD hS hl
  have hown : s.vm.findClass RX2 = some m.cls := hown
  have hl : lv_has ls 4 [(0, .ref (a0 0)), (1, .int x1), (2, .int x2), (3, .int x3)] := hl
  unfold F_X2_add at hF
  refine lv_aload_n hx hb dX2_add_0 rfl (lv_at hl 0 rfl) ?_
  refine va_get (D := D) (ci := 2) (v := .int (t0 0 0)) (C := RX2) (T := TX2) (N := 4) hx hb hts (fun w h => List.mem_cons_of_mem _ (inAX2 w h)) hown hK.1 hP 0 rfl rfl 0 (by decide) (hts _ (List.mem_cons_of_mem _ fl_RX2_21)) (fun _ h9 => h9) rfl dX2_add_1 ?_
  refine lv_if_lt (tgt := 16) hx hb dX2_add_4 (by decide) (fun c4 => ?_) (fun c4 => ?_)
  · replace hF := ip c4 hF
    refine lv_bipush (v := (-4)) hx hb dX2_add_16 (by decide) ?_
    exact W.iret hx hb hr (fun t ht hW => ⟨⟨_, (), rfl, (Prod.mk.inj (Option.some.inj hF)).1, by show va_P _ _ _ t.heap; rw [ht, ← (Prod.mk.inj (Option.some.inj hF)).2]; exact hP⟩, hS.F ht⟩) hS.2.2 dX2_add_18
  · replace hF := iq c4 hF
    refine lv_aload_n hx hb dX2_add_7 rfl (lv_at hl 0 rfl) ?_
    refine va_get (D := D) (ci := 2) (v := .int (t0 0 0)) (C := RX2) (T := TX2) (N := 4) hx hb hts (fun w h => List.mem_cons_of_mem _ (inAX2 w h)) hown hK.1 hP 0 rfl rfl 0 (by decide) (hts _ (List.mem_cons_of_mem _ fl_RX2_21)) (fun _ h9 => h9) rfl dX2_add_8 ?_
    refine lv_bipush (v := 8) hx hb dX2_add_11 (by decide) ?_
    refine lv_icmp_lt (tgt := 19) hx hb dX2_add_13 (by decide) (fun c13 => ?_) (fun c13 => ?_)
    · replace hF := ip c13 hF
      refine lv_aload_n hx hb dX2_add_19 rfl (lv_at hl 0 rfl) ?_
      refine va_get (D := D) (ci := 2) (v := .ref (a0 1)) (C := RX2) (T := TX2) (N := 4) hx hb hts (fun w h => List.mem_cons_of_mem _ (inAX2 w h)) hown hK.1 hP 0 rfl rfl 1 (by decide) (hts _ (List.mem_cons_of_mem _ fl_RX2_9)) (fun _ h9 => h9) rfl dX2_add_20 ?_
      refine lv_aload_n hx hb dX2_add_23 rfl (lv_at hl 0 rfl) ?_
      refine va_get (D := D) (ci := 2) (v := .int (t0 0 0)) (C := RX2) (T := TX2) (N := 4) hx hb hts (fun w h => List.mem_cons_of_mem _ (inAX2 w h)) hown hK.1 hP 0 rfl rfl 0 (by decide) (hts _ (List.mem_cons_of_mem _ fl_RX2_21)) (fun _ h9 => h9) rfl dX2_add_24 ?_
      refine lv_iload_n hx hb dX2_add_27 rfl (lv_at hl 1 rfl) ?_
      obtain ⟨k28, h28, hF⟩ := bd hF
      refine wI (ws' := pD cI cS a0 (st t0 1 k28 x1)) hx hb hK.1 hP hD hS 1 0 rfl rfl h28 rfl dX2_add_28 (fun H locs hP hD hS => ?_)
      refine lv_aload_n hx hb dX2_add_29 rfl (lv_at hl 0 rfl) ?_
      refine va_get (D := D) (ci := 2) (v := .ref (a0 2)) (C := RX2) (T := TX2) (N := 4) hx hb hts (fun w h => List.mem_cons_of_mem _ (inAX2 w h)) hown hK.1 hP 0 rfl rfl 2 (by decide) (hts _ (List.mem_cons_of_mem _ fl_RX2_15)) (fun _ h9 => h9) rfl dX2_add_30 ?_
      refine lv_aload_n hx hb dX2_add_33 rfl (lv_at hl 0 rfl) ?_
      refine va_get (D := D) (ci := 2) (v := .int (t0 0 0)) (C := RX2) (T := TX2) (N := 4) hx hb hts (fun w h => List.mem_cons_of_mem _ (inAX2 w h)) hown hK.1 hP 0 rfl rfl 0 (by decide) (hts _ (List.mem_cons_of_mem _ fl_RX2_21)) (fun _ h9 => h9) rfl dX2_add_34 ?_
      refine lv_iload_n hx hb dX2_add_37 rfl (lv_at hl 2 rfl) ?_
      obtain ⟨k38, h38, hF⟩ := bd hF
      refine wI (ws' := pD cI cS a0 (st (st t0 1 k28 x1) 2 k38 x2)) hx hb hK.1 hP hD hS 2 0 rfl rfl h38 rfl dX2_add_38 (fun H locs hP hD hS => ?_)
      refine lv_aload_n hx hb dX2_add_39 rfl (lv_at hl 0 rfl) ?_
      refine va_get (D := D) (ci := 2) (v := .ref (a0 3)) (C := RX2) (T := TX2) (N := 4) hx hb hts (fun w h => List.mem_cons_of_mem _ (inAX2 w h)) hown hK.1 hP 0 rfl rfl 3 (by decide) (hts _ (List.mem_cons_of_mem _ fl_RX2_18)) (fun _ h9 => h9) rfl dX2_add_40 ?_
      refine lv_aload_n hx hb dX2_add_43 rfl (lv_at hl 0 rfl) ?_
      refine va_get (D := D) (ci := 2) (v := .int (t0 0 0)) (C := RX2) (T := TX2) (N := 4) hx hb hts (fun w h => List.mem_cons_of_mem _ (inAX2 w h)) hown hK.1 hP 0 rfl rfl 0 (by decide) (hts _ (List.mem_cons_of_mem _ fl_RX2_21)) (fun _ h9 => h9) rfl dX2_add_44 ?_
      refine lv_iload_n hx hb dX2_add_47 rfl (lv_at hl 3 rfl) ?_
      obtain ⟨k48, h48, hF⟩ := bd hF
      refine wI (ws' := pD cI cS a0 (st (st (st t0 1 k28 x1) 2 k38 x2) 3 k48 x3)) hx hb hK.1 hP hD hS 3 0 rfl rfl h48 rfl dX2_add_48 (fun H locs hP hD hS => ?_)
      refine lv_aload_n hx hb dX2_add_49 rfl (lv_at hl 0 rfl) ?_
      refine lv_dup hx hb dX2_add_50 rfl ?_
      refine va_get (D := D) (ci := 2) (v := .int (t0 0 0)) (C := RX2) (T := TX2) (N := 4) hx hb hts (fun w h => List.mem_cons_of_mem _ (inAX2 w h)) hown hK.1 hP 0 rfl rfl 0 (by decide) (hts _ (List.mem_cons_of_mem _ fl_RX2_21)) (fun _ h9 => h9) rfl dX2_add_51 ?_
      refine lv_iconst (v := 1) hx hb dX2_add_54 (by decide) ?_
      refine lv_iadd hx hb dX2_add_55 ?_
      refine wF (ws' := pD cI cS a0 (st (st (st (st t0 1 k28 x1) 2 k38 x2) 3 k48 x3) 0 0 ((t0 0 0) + 1))) (C := RX2) (T := TX2) (N := 4) hx hb hts (fun w h => List.mem_cons_of_mem _ (inAX2 w h)) tyX2 tyX2_ok nmX2 hown hK.1 hP hD hS 0 rfl rfl 0 (by decide) (hts _ (List.mem_cons_of_mem _ fl_RX2_21)) rfl (tyX2_ok 0 (by decide)) rfl rfl (Nat.le_of_ble_eq_true rfl) rfl dX2_add_56 (fun H locs hP hD hS => ?_)
      refine lv_aload_n hx hb dX2_add_59 rfl (lv_at hl 0 rfl) ?_
      refine va_get (D := D) (ci := 2) (v := .int ((t0 0 0) + 1)) (C := RX2) (T := TX2) (N := 4) hx hb hts (fun w h => List.mem_cons_of_mem _ (inAX2 w h)) hown hK.1 hP 0 rfl rfl 0 (by decide) (hts _ (List.mem_cons_of_mem _ fl_RX2_21)) (fun _ h9 => h9) rfl dX2_add_60 ?_
      refine lv_iconst (v := 1) hx hb dX2_add_63 (by decide) ?_
      refine lv_isub hx hb dX2_add_64 ?_
      exact W.iret hx hb hr (fun t ht hW => ⟨⟨_, (), rfl, (Prod.mk.inj (Option.some.inj hF)).1, by show va_P _ _ _ t.heap; rw [ht, ← (Prod.mk.inj (Option.some.inj hF)).2]; exact hP⟩, hS.F ht⟩) hS.2.2 dX2_add_65
    · replace hF := iq c13 hF
      refine lv_bipush (v := (-4)) hx hb dX2_add_16 (by decide) ?_
      exact W.iret hx hb hr (fun t ht hW => ⟨⟨_, (), rfl, (Prod.mk.inj (Option.some.inj hF)).1, by show va_P _ _ _ t.heap; rw [ht, ← (Prod.mk.inj (Option.some.inj hF)).2]; exact hP⟩, hS.F ht⟩) hS.2.2 dX2_add_18
noncomputable def F_X2_areSo_L2 (t0 : ST) (t1 : ST) (t2 : ST) (k : Int32 → Option Int32) : Nat → Int32 → Option Int32
  | 0, _ => none
  | n + 1, x3 =>
    if (t0 0 0) ≤ x3 then
      k x3
    else
    (rd 8 (t0 1) x3).bind fun v15 =>
    (F_X0_has t1 v15).bind fun v21 =>
    if v21 = 0 then
      some 0
    else
    (rd 6 (t1 2) v15).bind fun v36 =>
    (F_X0_stepsADay t1 v15).bind fun v40 =>
    (rd 8 (t0 2) x3).bind fun v48 =>
    (F_X1_behind t2 v36 v40 v48).bind fun v49 =>
    (rd 8 (t0 3) x3).bind fun v57 =>
    if v49 = v57 then
      (F_X2_areSo_L2 t0 t1 t2 k n) (x3 + 1)
    else
    some 0
noncomputable def F_X2_areSo_J69 (t0 : ST) (t1 : ST) (t2 : ST) : Option Int32 :=
  some 1
noncomputable def F_X2_areSo (t0 : ST) (t1 : ST) (t2 : ST) : Option Int32 :=
  F_X2_areSo_L2 t0 t1 t2 (fun x3_k2 => F_X2_areSo_J69 t0 t1 t2) 1000 0
abbrev rm_X2_areSo : Room := { frames := 3, cells := 0, slots := 0, locals := 67 }
set_option maxHeartbeats 4000000 in
set_option maxRecDepth 100000 in
theorem c_X2_areSo (l : Launch) (D : va_G) (cI cS : ClassId) (a0 : Nat → Nat) (a1 : Nat → Nat) (a2 : Nat → Nat) (t0 : ST) (t1 : ST) (t2 : ST) (r : Int32) (hF : F_X2_areSo t0 t1 t2 = some r) : Met l yX2_areSo (Cond.code yX2_areSo cX2_areSo 5 (some .boolean) :: ALL) rm_X2_areSo (PreR D cI cS [.ref (a0 0), .ref (a1 0), .ref (a2 0)] (pD cI cS a0 t0 ++ (pB cI cS a1 t1 ++ (pL cI cS a2 t2)))) (vp_Si (fun x => x = r ∧ (x = 0 ∨ x = 1))) 0 0 (fun _ => False) := by
  refine mR l D cI cS (by decide) (Nat.le_of_ble_eq_true rfl) ?_
  intro p e s m below meth c ls hx hb hr hml hown hts hlocks hP hK hl
  have hown : s.vm.findClass RX2 = some m.cls := hown
  have hl : lv_has ls 5 [(0, .ref (a0 0)), (1, .ref (a1 0)), (2, .ref (a2 0))] := hl
  unfold F_X2_areSo at hF
  refine lv_iconst (v := 0) hx hb dX2_areSo_0 (by decide) ?_
  refine lv_istore_n (lv' := [(3, .int 0), (0, .ref (a0 0)), (1, .ref (a1 0)), (2, .ref (a2 0))]) hx hb dX2_areSo_1 rfl hl (by decide) rfl (fun ls hl => ?_)
  have L2 : ∀ (n_2 : Nat) (x3_2 : Int32) (ls : Array Slot), lv_has ls 5 [(0, .ref (a0 0)), (1, .ref (a1 0)), (2, .ref (a2 0)), (3, .int x3_2)] → F_X2_areSo_L2 t0 t1 t2 (fun x3_k2 => F_X2_areSo_J69 t0 t1 t2) n_2 x3_2 = some r → W p l e rm_X2_areSo s m [.ref (a0 0), .ref (a1 0), .ref (a2 0)].toArray below meth c s.heap [] 0 0 (MQ below (vp_Si (fun x => x = r ∧ (x = 0 ∨ x = 1))) [.ref (a0 0), .ref (a1 0), .ref (a2 0)].toArray s 0 0 (fun _ => False)) (F0 m 2 ls []) := by
    intro n_2
    induction n_2 with
    | zero => intro x3_2 ls hl hF; exact nomatch hF
    | succ n_2 ih2 =>
      intro x3_2 ls hl hF
      rw [F_X2_areSo_L2.eq_2] at hF
      refine lv_iload_n hx hb dX2_areSo_2 rfl (lv_at hl 3 rfl) ?_
      refine lv_aload_n hx hb dX2_areSo_3 rfl (lv_at hl 0 rfl) ?_
      refine va_get (D := D) (ci := 2) (v := .int (t0 0 0)) (C := RX2) (T := TX2) (N := 4) hx hb hts (fun w h => List.mem_cons_of_mem _ (inAX2 w h)) hown hK.1 hP 0 rfl rfl 0 (by decide) (hts _ (List.mem_cons_of_mem _ fl_RX2_21)) (fun _ h9 => h9) rfl dX2_areSo_4 ?_
      refine lv_icmp_ge (tgt := 69) hx hb dX2_areSo_7 (by decide) (fun c7 => ?_) (fun c7 => ?_)
      · replace hF := ip c7 hF
        have hF : F_X2_areSo_J69 t0 t1 t2 = some r := hF
        unfold F_X2_areSo_J69 at hF
        refine lv_iconst (v := 1) hx hb dX2_areSo_69 (by decide) ?_
        exact W.zret hx hb hr rfl (fun t ht hW => ⟨_, rfl, ⟨(Option.some.inj hF), Or.inr rfl⟩, ht⟩) (fun _ h => nomatch h) dX2_areSo_70
      · replace hF := iq c7 hF
        refine lv_aload_n hx hb dX2_areSo_10 rfl (lv_at hl 0 rfl) ?_
        refine va_get (D := D) (ci := 2) (v := .ref (a0 1)) (C := RX2) (T := TX2) (N := 4) hx hb hts (fun w h => List.mem_cons_of_mem _ (inAX2 w h)) hown hK.1 hP 0 rfl rfl 1 (by decide) (hts _ (List.mem_cons_of_mem _ fl_RX2_9)) (fun _ h9 => h9) rfl dX2_areSo_11 ?_
        refine lv_iload_n hx hb dX2_areSo_14 rfl (lv_at hl 3 rfl) ?_
        obtain ⟨v15, h15, hF⟩ := bd hF
        refine rI hx hb hK.1 hP 1 0 rfl rfl h15 dX2_areSo_15 ?_
        refine lv_istore (lv' := [(4, .int v15), (0, .ref (a0 0)), (1, .ref (a1 0)), (2, .ref (a2 0)), (3, .int x3_2)]) hx hb dX2_areSo_16 hl (by decide) rfl (fun ls hl => ?_)
        refine lv_aload_n hx hb dX2_areSo_18 rfl (lv_at hl 2 rfl) ?_
        refine lv_iload hx hb dX2_areSo_19 (lv_at hl 0 rfl) ?_
        obtain ⟨v21, h21, hF⟩ := bd hF
        refine cRb (va_runV (As := [.int v15]) (rest := []) ⟨hx, hb, hml, hown, hts⟩ (c_X0_has l D cI cS a1 t1 v15 v21 h21) (cwVA hts (TW.cons _) lv_X0_has ml_RX2_25 ⟨rfl, rfl⟩ ⟨(Nat.le_of_ble_eq_true rfl), (Nat.le_of_ble_eq_true rfl)⟩) (pRV hK (hP.sub (ws' := pB cI cS a1 t1) [4, 5, 6, 7] rfl) (ci := 0) rfl rfl) rfl rfl hl.1 rfl (lv_room (Nat.le_of_ble_eq_true rfl)) dX2_areSo_21 ⟨Nat.le_refl _, Nat.le_refl _⟩) (fun b21 => ?_)
        refine lv_if_ne (tgt := 29) hx hb dX2_areSo_24 (by decide) (fun c24 => ?_) (fun c24 => ?_)
        · replace hF := iq c24 hF
          refine lv_aload_n hx hb dX2_areSo_29 rfl (lv_at hl 3 rfl) ?_
          refine lv_aload_n hx hb dX2_areSo_30 rfl (lv_at hl 2 rfl) ?_
          refine va_getN (D := D) (ci := 0) (v := .ref (a1 2)) (C := RX0) (T := TX0) (N := 6) hx hb hts (fun w h => List.mem_cons_of_mem _ (inAX0 w h)) hown hK.1 hP 4 rfl rfl 4 (by decide) (nu_RX2_31 hK) (fun _ h9 => h9) rfl dX2_areSo_31 ?_
          refine lv_iload hx hb dX2_areSo_34 (lv_at hl 0 rfl) ?_
          obtain ⟨v36, h36, hF⟩ := bd hF
          refine rI hx hb hK.1 hP 6 0 rfl rfl h36 dX2_areSo_36 ?_
          refine lv_aload_n hx hb dX2_areSo_37 rfl (lv_at hl 2 rfl) ?_
          refine lv_iload hx hb dX2_areSo_38 (lv_at hl 0 rfl) ?_
          obtain ⟨v40, h40, hF⟩ := bd hF
          refine cRe (va_runV (As := [.int v15]) (rest := [.int v36, .ref (a2 0)]) ⟨hx, hb, hml, hown, hts⟩ (c_X0_stepsADay l D cI cS a1 t1 v15 v40 h40) (cwVA hts (TW.cons _) lv_X0_stepsADay ml_RX2_34 ⟨rfl, rfl⟩ ⟨(Nat.le_of_ble_eq_true rfl), (Nat.le_of_ble_eq_true rfl)⟩) (pRV hK (hP.sub (ws' := pB cI cS a1 t1) [4, 5, 6, 7] rfl) (ci := 0) rfl rfl) rfl rfl hl.1 rfl (lv_room (Nat.le_of_ble_eq_true rfl)) dX2_areSo_40 ⟨Nat.le_refl _, Nat.le_refl _⟩) ?_
          refine lv_aload_n hx hb dX2_areSo_43 rfl (lv_at hl 1 rfl) ?_
          refine va_get (D := D) (ci := 2) (v := .ref (a0 2)) (C := RX2) (T := TX2) (N := 4) hx hb hts (fun w h => List.mem_cons_of_mem _ (inAX2 w h)) hown hK.1 hP 0 rfl rfl 2 (by decide) (hts _ (List.mem_cons_of_mem _ fl_RX2_15)) (fun _ h9 => h9) rfl dX2_areSo_44 ?_
          refine lv_iload_n hx hb dX2_areSo_47 rfl (lv_at hl 4 rfl) ?_
          obtain ⟨v48, h48, hF⟩ := bd hF
          refine rI hx hb hK.1 hP 2 0 rfl rfl h48 dX2_areSo_48 ?_
          obtain ⟨v49, h49, hF⟩ := bd hF
          refine cRe (va_runV (As := [.int v36, .int v40, .int v48]) (rest := []) ⟨hx, hb, hml, hown, hts⟩ (c_X1_behind l D cI cS a2 t2 v36 v40 v48 v49 h49) (cwVA hts (TW.cons _) lv_X1_behind ml_RX2_38 ⟨rfl, rfl⟩ ⟨(Nat.le_of_ble_eq_true rfl), (Nat.le_of_ble_eq_true rfl)⟩) (pRV hK (hP.sub (ws' := pL cI cS a2 t2) [8, 9] rfl) (ci := 1) rfl rfl) rfl rfl hl.1 rfl (lv_room (Nat.le_of_ble_eq_true rfl)) dX2_areSo_49 ⟨Nat.le_refl _, Nat.le_refl _⟩) ?_
          refine lv_aload_n hx hb dX2_areSo_52 rfl (lv_at hl 1 rfl) ?_
          refine va_get (D := D) (ci := 2) (v := .ref (a0 3)) (C := RX2) (T := TX2) (N := 4) hx hb hts (fun w h => List.mem_cons_of_mem _ (inAX2 w h)) hown hK.1 hP 0 rfl rfl 3 (by decide) (hts _ (List.mem_cons_of_mem _ fl_RX2_18)) (fun _ h9 => h9) rfl dX2_areSo_53 ?_
          refine lv_iload_n hx hb dX2_areSo_56 rfl (lv_at hl 4 rfl) ?_
          obtain ⟨v57, h57, hF⟩ := bd hF
          refine rI hx hb hK.1 hP 3 0 rfl rfl h57 dX2_areSo_57 ?_
          refine lv_icmp_eq (tgt := 63) hx hb dX2_areSo_58 (by decide) (fun c58 => ?_) (fun c58 => ?_)
          · replace hF := ip c58 hF
            refine lv_iinc (v := (x3_2 + 1)) (lv' := [(3, .int (x3_2 + 1)), (4, .int v15), (0, .ref (a0 0)), (1, .ref (a1 0)), (2, .ref (a2 0))]) hx hb dX2_areSo_63 hl (k := 4) rfl rfl (by decide) rfl (fun ls hl => ?_)
            refine lv_goto (tgt := 2) hx hb dX2_areSo_66 (by decide) ?_
            exact ih2 (x3_2 + 1) _ (lv_sub hl [2, 3, 4, 0] rfl) hF
          · replace hF := iq c58 hF
            refine lv_iconst (v := 0) hx hb dX2_areSo_61 (by decide) ?_
            exact W.zret hx hb hr rfl (fun t ht hW => ⟨_, rfl, ⟨(Option.some.inj hF), Or.inl rfl⟩, ht⟩) (fun _ h => nomatch h) dX2_areSo_62
        · replace hF := ip c24 hF
          refine lv_iconst (v := 0) hx hb dX2_areSo_27 (by decide) ?_
          exact W.zret hx hb hr rfl (fun t ht hW => ⟨_, rfl, ⟨(Option.some.inj hF), Or.inl rfl⟩, ht⟩) (fun _ h => nomatch h) dX2_areSo_28
  exact L2 1000 0 _ (lv_sub hl [1, 2, 3, 0] rfl) hF
noncomputable def F_J7_fill_53178_L5 (x1 : Int32) (x3 : Int32) (k : Int32 → ST → Option ST) : Nat → Int32 → ST → Option ST
  | 0, _, _ => none
  | n + 1, x2, s0 =>
    if x3 ≤ x2 then
      k x2 s0
    else
    (ix 60 x2).bind fun k13 =>
    (F_J7_fill_53178_L5 x1 x3 k n) (x2 + 1) (st s0 0 k13 x1)
noncomputable def F_J7_fill_53178_J20 (x1 : Int32) (s0 : ST) : Option ST :=
  some s0
noncomputable def F_J7_fill_53178 (t0 : ST) (x1 : Int32) : Option ST :=
  F_J7_fill_53178_L5 x1 60 (fun x2_k5 s0_k5 => F_J7_fill_53178_J20 x1 s0_k5) 1000 0 t0
abbrev rm_J7_fill_53178 : Room := { frames := 0, cells := 0, slots := 0, locals := 0 }
set_option maxHeartbeats 4000000 in
set_option maxRecDepth 100000 in
theorem c_J7_fill_53178 (l : Launch) (D : va_G) (cI cS : ClassId) (a0 : Nat → Nat) (t0 : ST) (x1 : Int32) (t' : ST) (hF : F_J7_fill_53178 t0 x1 = some t') : Met l yJ7_fill_53178 (Cond.code yJ7_fill_53178 cJ7_fill_53178 4 none :: ALL) rm_J7_fill_53178 (PreW D cI cS [.ref (a0 0), .int x1] (pA cI cS a0 t0)) (va_Qv (fun (_ : Unit) => True) (fun _ t => va_P D vwCl (pA cI cS a0 t') t.heap) (AD (pA cI cS a0 t0))) 0 0 (AD (pA cI cS a0 t0)) := by
  refine mW l D cI cS (by decide) (Nat.le_of_ble_eq_true rfl) ?_
  intro p e s m below meth c ls hx hb hr hml hown hts hlocks hP hK hD hS hl
  have hown : s.vm.findClass RJ7 = some m.cls := hown
  have hl : lv_has ls 4 [(0, .ref (a0 0)), (1, .int x1)] := hl
  unfold F_J7_fill_53178 at hF
  refine lv_iconst (v := 0) hx hb dJ7_fill_53178_0 (by decide) ?_
  refine lv_istore_n (lv' := [(2, .int 0), (0, .ref (a0 0)), (1, .int x1)]) hx hb dJ7_fill_53178_1 rfl hl (by decide) rfl (fun ls hl => ?_)
  refine lv_aload_n hx hb dJ7_fill_53178_2 rfl (lv_at hl 1 rfl) ?_
  refine va_alen (v := 60) hx hb hK.1 hP 0 0 rfl rfl rfl dJ7_fill_53178_3 ?_
  refine lv_istore_n (lv' := [(3, .int 60), (2, .int 0), (0, .ref (a0 0)), (1, .int x1)]) hx hb dJ7_fill_53178_4 rfl hl (by decide) rfl (fun ls hl => ?_)
  have L5 : ∀ (n_5 : Nat) (x2_5 : Int32) (s0_5 : ST) (H : Heap) (locs : List Loc) (ls : Array Slot), va_P D vwCl (pA cI cS a0 s0_5) H → va_D (AD (pA cI cS a0 t0)) (pA cI cS a0 s0_5) → va_S (AD (pA cI cS a0 t0)) s.heap H locs → lv_has ls 4 [(0, .ref (a0 0)), (1, .int x1), (2, .int x2_5), (3, .int 60)] → F_J7_fill_53178_L5 x1 60 (fun x2_k5 s0_k5 => F_J7_fill_53178_J20 x1 s0_k5) n_5 x2_5 s0_5 = some t' → W p l e rm_J7_fill_53178 s m [.ref (a0 0), .int x1].toArray below meth c H locs 0 0 (MQ below (va_Qv (fun (_ : Unit) => True) (fun _ t => va_P D vwCl (pA cI cS a0 t') t.heap) (AD (pA cI cS a0 t0))) [.ref (a0 0), .int x1].toArray s 0 0 (AD (pA cI cS a0 t0))) (F0 m 5 ls []) := by
    intro n_5
    induction n_5 with
    | zero => intro x2_5 s0_5 H locs ls hP hD hS hl hF; exact nomatch hF
    | succ n_5 ih5 =>
      intro x2_5 s0_5 H locs ls hP hD hS hl hF
      rw [F_J7_fill_53178_L5.eq_2] at hF
      refine lv_iload_n hx hb dJ7_fill_53178_5 rfl (lv_at hl 2 rfl) ?_
      refine lv_iload_n hx hb dJ7_fill_53178_6 rfl (lv_at hl 3 rfl) ?_
      refine lv_icmp_ge (tgt := 20) hx hb dJ7_fill_53178_7 (by decide) (fun c7 => ?_) (fun c7 => ?_)
      · replace hF := ip c7 hF
        have hF : F_J7_fill_53178_J20 x1 s0_5 = some t' := hF
        unfold F_J7_fill_53178_J20 at hF
        exact W.vret hx hb hr (fun t ht hW => ⟨⟨(), rfl, trivial, by show va_P _ _ _ t.heap; rw [ht, ← (Option.some.inj hF)]; exact hP⟩, hS.F ht⟩) hS.2.2 dJ7_fill_53178_20
      · replace hF := iq c7 hF
        refine lv_aload_n hx hb dJ7_fill_53178_10 rfl (lv_at hl 0 rfl) ?_
        refine lv_iload_n hx hb dJ7_fill_53178_11 rfl (lv_at hl 2 rfl) ?_
        refine lv_iload_n hx hb dJ7_fill_53178_12 rfl (lv_at hl 1 rfl) ?_
        obtain ⟨k13, h13, hF⟩ := bd hF
        refine wI (ws' := pA cI cS a0 (st s0_5 0 k13 x1)) hx hb hK.1 hP hD hS 0 0 rfl rfl h13 rfl dJ7_fill_53178_13 (fun H locs hP hD hS => ?_)
        refine lv_iinc (v := (x2_5 + 1)) (lv' := [(2, .int (x2_5 + 1)), (0, .ref (a0 0)), (1, .int x1), (3, .int 60)]) hx hb dJ7_fill_53178_14 hl (k := 2) rfl rfl (by decide) rfl (fun ls hl => ?_)
        refine lv_goto (tgt := 5) hx hb dJ7_fill_53178_17 (by decide) ?_
        exact ih5 (x2_5 + 1) (st s0_5 0 k13 x1) _ _ _ hP hD hS (lv_sub hl [1, 2, 0, 3] rfl) hF
  exact L5 1000 0 t0 _ _ _ hP hD hS (lv_sub hl [2, 3, 1, 0] rfl) hF
noncomputable def F_X3_renew (t0 : ST) (x1 : Int32) (x2 : Int32) : Option ST :=
  (F_J7_fill_53178 (sb (st (st (st t0 0 0 1) 0 1 x1) 0 2 x2) 1) 0).bind fun u20 =>
  some (gr (st (st (st t0 0 0 1) 0 1 x1) 0 2 x2) 1 1 u20)
abbrev rm_X3_renew : Room := { frames := 1, cells := 0, slots := 0, locals := 23 }
set_option maxHeartbeats 4000000 in
set_option maxRecDepth 100000 in
theorem c_X3_renew (l : Launch) (D : va_G) (cI cS : ClassId) (a0 : Nat → Nat) (t0 : ST) (x1 : Int32) (x2 : Int32) (t' : ST) (hF : F_X3_renew t0 x1 x2 = some t') : Met l yX3_renew (Cond.code yX3_renew cX3_renew 3 none :: ALL) rm_X3_renew (PreW D cI cS [.ref (a0 0), .int x1, .int x2] (pS cI cS a0 t0)) (va_Qv (fun (_ : Unit) => True) (fun _ t => va_P D vwCl (pS cI cS a0 t') t.heap) (AD (pS cI cS a0 t0))) 0 0 (AD (pS cI cS a0 t0)) := by
  refine mW l D cI cS (by decide) (Nat.le_of_ble_eq_true rfl) ?_
  intro p e s m below meth c ls hx hb hr hml hown hts hlocks hP hK hD hS hl
  have hown : s.vm.findClass RX3 = some m.cls := hown
  have hl : lv_has ls 3 [(0, .ref (a0 0)), (1, .int x1), (2, .int x2)] := hl
  unfold F_X3_renew at hF
  refine lv_aload_n hx hb dX3_renew_0 rfl (lv_at hl 0 rfl) ?_
  refine lv_iconst (v := 1) hx hb dX3_renew_1 (by decide) ?_
  refine wF (ws' := pS cI cS a0 (st t0 0 0 1)) (C := RX3) (T := TX3) (N := 4) hx hb hts (fun w h => List.mem_cons_of_mem _ (inAX3 w h)) tyX3 tyX3_ok nmX3 hown hK.1 hP hD hS 0 rfl rfl 0 (by decide) (hts _ (List.mem_cons_of_mem _ fl_RX3_15)) rfl (tyX3_ok 0 (by decide)) rfl rfl (Nat.le_of_ble_eq_true rfl) rfl dX3_renew_2 (fun H locs hP hD hS => ?_)
  refine lv_aload_n hx hb dX3_renew_5 rfl (lv_at hl 0 rfl) ?_
  refine lv_iload_n hx hb dX3_renew_6 rfl (lv_at hl 1 rfl) ?_
  refine wF (ws' := pS cI cS a0 (st (st t0 0 0 1) 0 1 x1)) (C := RX3) (T := TX3) (N := 4) hx hb hts (fun w h => List.mem_cons_of_mem _ (inAX3 w h)) tyX3 tyX3_ok nmX3 hown hK.1 hP hD hS 0 rfl rfl 1 (by decide) (hts _ (List.mem_cons_of_mem _ fl_RX3_19)) rfl (tyX3_ok 1 (by decide)) rfl rfl (Nat.le_of_ble_eq_true rfl) rfl dX3_renew_7 (fun H locs hP hD hS => ?_)
  refine lv_aload_n hx hb dX3_renew_10 rfl (lv_at hl 0 rfl) ?_
  refine lv_iload_n hx hb dX3_renew_11 rfl (lv_at hl 2 rfl) ?_
  refine wF (ws' := pS cI cS a0 (st (st (st t0 0 0 1) 0 1 x1) 0 2 x2)) (C := RX3) (T := TX3) (N := 4) hx hb hts (fun w h => List.mem_cons_of_mem _ (inAX3 w h)) tyX3 tyX3_ok nmX3 hown hK.1 hP hD hS 0 rfl rfl 2 (by decide) (hts _ (List.mem_cons_of_mem _ fl_RX3_23)) rfl (tyX3_ok 2 (by decide)) rfl rfl (Nat.le_of_ble_eq_true rfl) rfl dX3_renew_12 (fun H locs hP hD hS => ?_)
  refine lv_aload_n hx hb dX3_renew_15 rfl (lv_at hl 0 rfl) ?_
  refine va_get (D := D) (ci := 3) (v := .ref (a0 1)) (C := RX3) (T := TX3) (N := 4) hx hb hts (fun w h => List.mem_cons_of_mem _ (inAX3 w h)) hown hK.1 hP 0 rfl rfl 3 (by decide) (hts _ (List.mem_cons_of_mem _ fl_RX3_9)) (fun _ h9 => h9) rfl dX3_renew_16 ?_
  refine lv_iconst (v := 0) hx hb dX3_renew_19 (by decide) ?_
  obtain ⟨u20, h20, hF⟩ := bd hF
  refine cWv (ws' := pS cI cS a0 (gr (st (st (st t0 0 0 1) 0 1 x1) 0 2 x2) 1 1 u20)) (va_runS (As := [.ref (a0 1), .int 0]) (rest := []) ⟨hx, hb, hml, hown, hts⟩ (c_J7_fill_53178 l D cI cS (sa a0 1) (sb (st (st (st t0 0 0 1) 0 1 x1) 0 2 x2) 1) 0 u20 h20) (cwSA hts (TW.cons _) ls_J7_fill_53178 ml_RX3_26 ⟨rfl, rfl⟩ ⟨(Nat.le_of_ble_eq_true rfl), (Nat.le_of_ble_eq_true rfl)⟩) (pWS hK (hP.sub (ws' := pA cI cS (sa a0 1) (sb (st (st (st t0 0 0 1) 0 1 x1) 0 2 x2) 1)) [1] rfl) (hD.sub (ws' := pA cI cS (sa a0 1) (sb (st (st (st t0 0 0 1) 0 1 x1) 0 2 x2) 1)) [1] (by decide) rfl)) rfl rfl hl.1 rfl (lv_room (Nat.le_of_ble_eq_true rfl)) dX3_renew_20 ⟨Nat.le_refl _, Nat.le_refl _⟩) hP hD hS [1] rfl [.inl 0, .inr 0] rfl rfl rfl (fun H locs hP hD hS => ?_)
  exact W.vret hx hb hr (fun t ht hW => ⟨⟨(), rfl, trivial, by show va_P _ _ _ t.heap; rw [ht, ← (Option.some.inj hF)]; exact hP⟩, hS.F ht⟩) hS.2.2 dX3_renew_23
noncomputable def F_X3_empty (t0 : ST) : Option (Int32 × ST) :=
  (bz (t0 0 0)).bind fun _ => some ((t0 0 0), (st (st t0 0 0 0) 0 2 0))
abbrev rm_X3_empty : Room := { frames := 0, cells := 0, slots := 0, locals := 0 }
set_option maxHeartbeats 4000000 in
set_option maxRecDepth 100000 in
theorem c_X3_empty (l : Launch) (D : va_G) (cI cS : ClassId) (a0 : Nat → Nat) (t0 : ST) (r : Int32) (t' : ST) (hF : F_X3_empty t0 = some (r, t')) : Met l yX3_empty (Cond.code yX3_empty cX3_empty 2 (some .boolean) :: ALL) rm_X3_empty (PreW D cI cS [.ref (a0 0)] (pS cI cS a0 t0)) (va_Qi (fun x (_ : Unit) => x = r ∧ (x = 0 ∨ x = 1)) (fun _ t => va_P D vwCl (pS cI cS a0 t') t.heap) (AD (pS cI cS a0 t0))) 0 0 (AD (pS cI cS a0 t0)) := by
  refine mW l D cI cS (by decide) (Nat.le_of_ble_eq_true rfl) ?_
  intro p e s m below meth c ls hx hb hr hml hown hts hlocks hP hK hD hS hl
  have hown : s.vm.findClass RX3 = some m.cls := hown
  have hl : lv_has ls 2 [(0, .ref (a0 0))] := hl
  unfold F_X3_empty at hF
  refine lv_aload_n hx hb dX3_empty_0 rfl (lv_at hl 0 rfl) ?_
  refine va_get (D := D) (ci := 3) (v := .int (t0 0 0)) (C := RX3) (T := TX3) (N := 4) hx hb hts (fun w h => List.mem_cons_of_mem _ (inAX3 w h)) hown hK.1 hP 0 rfl rfl 0 (by decide) (hts _ (List.mem_cons_of_mem _ fl_RX3_15)) (fun _ h9 => h9) rfl dX3_empty_1 ?_
  refine lv_istore_n (lv' := [(1, .int (t0 0 0)), (0, .ref (a0 0))]) hx hb dX3_empty_4 rfl hl (by decide) rfl (fun ls hl => ?_)
  refine lv_aload_n hx hb dX3_empty_5 rfl (lv_at hl 1 rfl) ?_
  refine lv_iconst (v := 0) hx hb dX3_empty_6 (by decide) ?_
  refine wF (ws' := pS cI cS a0 (st t0 0 0 0)) (C := RX3) (T := TX3) (N := 4) hx hb hts (fun w h => List.mem_cons_of_mem _ (inAX3 w h)) tyX3 tyX3_ok nmX3 hown hK.1 hP hD hS 0 rfl rfl 0 (by decide) (hts _ (List.mem_cons_of_mem _ fl_RX3_15)) rfl (tyX3_ok 0 (by decide)) rfl rfl (Nat.le_of_ble_eq_true rfl) rfl dX3_empty_7 (fun H locs hP hD hS => ?_)
  refine lv_aload_n hx hb dX3_empty_10 rfl (lv_at hl 1 rfl) ?_
  refine lv_iconst (v := 0) hx hb dX3_empty_11 (by decide) ?_
  refine wF (ws' := pS cI cS a0 (st (st t0 0 0 0) 0 2 0)) (C := RX3) (T := TX3) (N := 4) hx hb hts (fun w h => List.mem_cons_of_mem _ (inAX3 w h)) tyX3 tyX3_ok nmX3 hown hK.1 hP hD hS 0 rfl rfl 2 (by decide) (hts _ (List.mem_cons_of_mem _ fl_RX3_23)) rfl (tyX3_ok 2 (by decide)) rfl rfl (Nat.le_of_ble_eq_true rfl) rfl dX3_empty_12 (fun H locs hP hD hS => ?_)
  refine lv_iload_n hx hb dX3_empty_15 rfl (lv_at hl 0 rfl) ?_
  obtain ⟨_, hbz, hF⟩ := bd hF
  exact W.zret hx hb hr (b01 (bz_some hbz)) (fun t ht hW => ⟨⟨_, (), rfl, ⟨(Prod.mk.inj (Option.some.inj hF)).1, bz_some hbz⟩, by show va_P _ _ _ t.heap; rw [ht, ← (Prod.mk.inj (Option.some.inj hF)).2]; exact hP⟩, hS.F ht⟩) hS.2.2 dX3_empty_16
noncomputable def F_X3_reaches (t0 : ST) (x1 : Int32) (x2 : Int32) : Option Int32 :=
  if x1 < 0 then
    some 0
  else
  if (t0 0 2) < x1 then
    some 0
  else
  if x2 < 0 then
    some 0
  else
  if ((t0 0 2) - x1) < x2 then
    some 0
  else
  some 1
abbrev rm_X3_reaches : Room := { frames := 0, cells := 0, slots := 0, locals := 0 }
set_option maxHeartbeats 4000000 in
set_option maxRecDepth 100000 in
theorem c_X3_reaches (l : Launch) (D : va_G) (cI cS : ClassId) (a0 : Nat → Nat) (t0 : ST) (x1 : Int32) (x2 : Int32) (r : Int32) (hF : F_X3_reaches t0 x1 x2 = some r) : Met l yX3_reaches (Cond.code yX3_reaches cX3_reaches 3 (some .boolean) :: ALL) rm_X3_reaches (PreR D cI cS [.ref (a0 0), .int x1, .int x2] (pS cI cS a0 t0)) (vp_Si (fun x => x = r ∧ (x = 0 ∨ x = 1))) 0 0 (fun _ => False) := by
  refine mR l D cI cS (by decide) (Nat.le_of_ble_eq_true rfl) ?_
  intro p e s m below meth c ls hx hb hr hml hown hts hlocks hP hK hl
  have hown : s.vm.findClass RX3 = some m.cls := hown
  have hl : lv_has ls 3 [(0, .ref (a0 0)), (1, .int x1), (2, .int x2)] := hl
  unfold F_X3_reaches at hF
  refine lv_iload_n hx hb dX3_reaches_0 rfl (lv_at hl 1 rfl) ?_
  refine lv_if_lt (tgt := 30) hx hb dX3_reaches_1 (by decide) (fun c1 => ?_) (fun c1 => ?_)
  · replace hF := ip c1 hF
    refine lv_iconst (v := 0) hx hb dX3_reaches_30 (by decide) ?_
    exact W.zret hx hb hr rfl (fun t ht hW => ⟨_, rfl, ⟨(Option.some.inj hF), Or.inl rfl⟩, ht⟩) (fun _ h => nomatch h) dX3_reaches_31
  · replace hF := iq c1 hF
    refine lv_iload_n hx hb dX3_reaches_4 rfl (lv_at hl 1 rfl) ?_
    refine lv_aload_n hx hb dX3_reaches_5 rfl (lv_at hl 0 rfl) ?_
    refine va_get (D := D) (ci := 3) (v := .int (t0 0 2)) (C := RX3) (T := TX3) (N := 4) hx hb hts (fun w h => List.mem_cons_of_mem _ (inAX3 w h)) hown hK.1 hP 0 rfl rfl 2 (by decide) (hts _ (List.mem_cons_of_mem _ fl_RX3_23)) (fun _ h9 => h9) rfl dX3_reaches_6 ?_
    refine lv_icmp_gt (tgt := 30) hx hb dX3_reaches_9 (by decide) (fun c9 => ?_) (fun c9 => ?_)
    · replace hF := ip c9 hF
      refine lv_iconst (v := 0) hx hb dX3_reaches_30 (by decide) ?_
      exact W.zret hx hb hr rfl (fun t ht hW => ⟨_, rfl, ⟨(Option.some.inj hF), Or.inl rfl⟩, ht⟩) (fun _ h => nomatch h) dX3_reaches_31
    · replace hF := iq c9 hF
      refine lv_iload_n hx hb dX3_reaches_12 rfl (lv_at hl 2 rfl) ?_
      refine lv_if_lt (tgt := 30) hx hb dX3_reaches_13 (by decide) (fun c13 => ?_) (fun c13 => ?_)
      · replace hF := ip c13 hF
        refine lv_iconst (v := 0) hx hb dX3_reaches_30 (by decide) ?_
        exact W.zret hx hb hr rfl (fun t ht hW => ⟨_, rfl, ⟨(Option.some.inj hF), Or.inl rfl⟩, ht⟩) (fun _ h => nomatch h) dX3_reaches_31
      · replace hF := iq c13 hF
        refine lv_iload_n hx hb dX3_reaches_16 rfl (lv_at hl 2 rfl) ?_
        refine lv_aload_n hx hb dX3_reaches_17 rfl (lv_at hl 0 rfl) ?_
        refine va_get (D := D) (ci := 3) (v := .int (t0 0 2)) (C := RX3) (T := TX3) (N := 4) hx hb hts (fun w h => List.mem_cons_of_mem _ (inAX3 w h)) hown hK.1 hP 0 rfl rfl 2 (by decide) (hts _ (List.mem_cons_of_mem _ fl_RX3_23)) (fun _ h9 => h9) rfl dX3_reaches_18 ?_
        refine lv_iload_n hx hb dX3_reaches_21 rfl (lv_at hl 1 rfl) ?_
        refine lv_isub hx hb dX3_reaches_22 ?_
        refine lv_icmp_gt (tgt := 30) hx hb dX3_reaches_23 (by decide) (fun c23 => ?_) (fun c23 => ?_)
        · replace hF := ip c23 hF
          refine lv_iconst (v := 0) hx hb dX3_reaches_30 (by decide) ?_
          exact W.zret hx hb hr rfl (fun t ht hW => ⟨_, rfl, ⟨(Option.some.inj hF), Or.inl rfl⟩, ht⟩) (fun _ h => nomatch h) dX3_reaches_31
        · replace hF := iq c23 hF
          refine lv_iconst (v := 1) hx hb dX3_reaches_26 (by decide) ?_
          refine lv_goto (tgt := 31) hx hb dX3_reaches_27 (by decide) ?_
          exact W.zret hx hb hr rfl (fun t ht hW => ⟨_, rfl, ⟨(Option.some.inj hF), Or.inr rfl⟩, ht⟩) (fun _ h => nomatch h) dX3_reaches_31
noncomputable def F_X3_faultOfTaking_J17 (t0 : ST) (x1 : Int32) (x2 : Int32) (x3 : Int32) : Option Int32 :=
  if (t0 0 0) = 0 then
    some 1
  else
  if 0 ≤ x3 then
    (F_X3_reaches t0 x2 x3).bind fun v35 =>
    if v35 = 0 then
      some 3
    else
    some 0
  else
  some 4
noncomputable def F_X3_faultOfTaking (t0 : ST) (x1 : Int32) (x2 : Int32) (x3 : Int32) : Option Int32 :=
  if (t0 0 0) = 0 then
    F_X3_faultOfTaking_J17 t0 x1 x2 x3
  else
  if (t0 0 1) = x1 then
    F_X3_faultOfTaking_J17 t0 x1 x2 x3
  else
  some 2
abbrev rm_X3_faultOfTaking : Room := { frames := 1, cells := 0, slots := 0, locals := 22 }
set_option maxHeartbeats 4000000 in
set_option maxRecDepth 100000 in
theorem c_X3_faultOfTaking (l : Launch) (D : va_G) (cI cS : ClassId) (a0 : Nat → Nat) (t0 : ST) (x1 : Int32) (x2 : Int32) (x3 : Int32) (r : Int32) (hF : F_X3_faultOfTaking t0 x1 x2 x3 = some r) : Met l yX3_faultOfTaking (Cond.code yX3_faultOfTaking cX3_faultOfTaking 4 (some .int) :: ALL) rm_X3_faultOfTaking (PreR D cI cS [.ref (a0 0), .int x1, .int x2, .int x3] (pS cI cS a0 t0)) (vp_Si (fun x => x = r)) 0 0 (fun _ => False) := by
  refine mR l D cI cS (by decide) (Nat.le_of_ble_eq_true rfl) ?_
  intro p e s m below meth c ls hx hb hr hml hown hts hlocks hP hK hl
  have hown : s.vm.findClass RX3 = some m.cls := hown
  have hl : lv_has ls 4 [(0, .ref (a0 0)), (1, .int x1), (2, .int x2), (3, .int x3)] := hl
  unfold F_X3_faultOfTaking at hF
  refine lv_aload_n hx hb dX3_faultOfTaking_0 rfl (lv_at hl 0 rfl) ?_
  refine va_get (D := D) (ci := 3) (v := .int (t0 0 0)) (C := RX3) (T := TX3) (N := 4) hx hb hts (fun w h => List.mem_cons_of_mem _ (inAX3 w h)) hown hK.1 hP 0 rfl rfl 0 (by decide) (hts _ (List.mem_cons_of_mem _ fl_RX3_15)) (fun _ h9 => h9) rfl dX3_faultOfTaking_1 ?_
  have J17 : ∀ (ls : Array Slot), lv_has ls 4 [(0, .ref (a0 0)), (2, .int x2), (3, .int x3)] → F_X3_faultOfTaking_J17 t0 x1 x2 x3  = some r → W p l e rm_X3_faultOfTaking s m [.ref (a0 0), .int x1, .int x2, .int x3].toArray below meth c s.heap [] 0 0 (MQ below (vp_Si (fun x => x = r)) [.ref (a0 0), .int x1, .int x2, .int x3].toArray s 0 0 (fun _ => False)) (F0 m 17 ls []) := by
    intro ls hl hF
    unfold F_X3_faultOfTaking_J17 at hF
    refine lv_aload_n hx hb dX3_faultOfTaking_17 rfl (lv_at hl 0 rfl) ?_
    refine va_get (D := D) (ci := 3) (v := .int (t0 0 0)) (C := RX3) (T := TX3) (N := 4) hx hb hts (fun w h => List.mem_cons_of_mem _ (inAX3 w h)) hown hK.1 hP 0 rfl rfl 0 (by decide) (hts _ (List.mem_cons_of_mem _ fl_RX3_15)) (fun _ h9 => h9) rfl dX3_faultOfTaking_18 ?_
    refine lv_if_ne (tgt := 26) hx hb dX3_faultOfTaking_21 (by decide) (fun c21 => ?_) (fun c21 => ?_)
    · replace hF := iq c21 hF
      refine lv_iload_n hx hb dX3_faultOfTaking_26 rfl (lv_at hl 2 rfl) ?_
      refine lv_if_ge (tgt := 32) hx hb dX3_faultOfTaking_27 (by decide) (fun c27 => ?_) (fun c27 => ?_)
      · replace hF := ip c27 hF
        refine lv_aload_n hx hb dX3_faultOfTaking_32 rfl (lv_at hl 0 rfl) ?_
        refine lv_iload_n hx hb dX3_faultOfTaking_33 rfl (lv_at hl 1 rfl) ?_
        refine lv_iload_n hx hb dX3_faultOfTaking_34 rfl (lv_at hl 2 rfl) ?_
        obtain ⟨v35, h35, hF⟩ := bd hF
        refine cRb (va_runV (As := [.int x2, .int x3]) (rest := []) ⟨hx, hb, hml, hown, hts⟩ (c_X3_reaches l D cI cS a0 t0 x2 x3 v35 h35) (cwVA hts (TW.cons _) lv_X3_reaches ml_RX3_32 ⟨rfl, rfl⟩ ⟨(Nat.le_of_ble_eq_true rfl), (Nat.le_of_ble_eq_true rfl)⟩) (pRV hK hP (ci := 3) rfl rfl) rfl rfl hl.1 rfl (lv_room (Nat.le_of_ble_eq_true rfl)) dX3_faultOfTaking_35 ⟨Nat.le_refl _, Nat.le_refl _⟩) (fun b35 => ?_)
        refine lv_if_eq (tgt := 45) hx hb dX3_faultOfTaking_38 (by decide) (fun c38 => ?_) (fun c38 => ?_)
        · replace hF := ip c38 hF
          refine lv_iconst (v := 3) hx hb dX3_faultOfTaking_45 (by decide) ?_
          exact W.iret hx hb hr (fun t ht hW => ⟨_, rfl, (Option.some.inj hF), ht⟩) (fun _ h => nomatch h) dX3_faultOfTaking_46
        · replace hF := iq c38 hF
          refine lv_iconst (v := 0) hx hb dX3_faultOfTaking_41 (by decide) ?_
          refine lv_goto (tgt := 46) hx hb dX3_faultOfTaking_42 (by decide) ?_
          exact W.iret hx hb hr (fun t ht hW => ⟨_, rfl, (Option.some.inj hF), ht⟩) (fun _ h => nomatch h) dX3_faultOfTaking_46
      · replace hF := iq c27 hF
        refine lv_iconst (v := 4) hx hb dX3_faultOfTaking_30 (by decide) ?_
        exact W.iret hx hb hr (fun t ht hW => ⟨_, rfl, (Option.some.inj hF), ht⟩) (fun _ h => nomatch h) dX3_faultOfTaking_31
    · replace hF := ip c21 hF
      refine lv_iconst (v := 1) hx hb dX3_faultOfTaking_24 (by decide) ?_
      exact W.iret hx hb hr (fun t ht hW => ⟨_, rfl, (Option.some.inj hF), ht⟩) (fun _ h => nomatch h) dX3_faultOfTaking_25
  refine lv_if_eq (tgt := 17) hx hb dX3_faultOfTaking_4 (by decide) (fun c4 => ?_) (fun c4 => ?_)
  · replace hF := ip c4 hF
    exact J17  _ (lv_sub hl [0, 2, 3] rfl) hF
  · replace hF := iq c4 hF
    refine lv_aload_n hx hb dX3_faultOfTaking_7 rfl (lv_at hl 0 rfl) ?_
    refine va_get (D := D) (ci := 3) (v := .int (t0 0 1)) (C := RX3) (T := TX3) (N := 4) hx hb hts (fun w h => List.mem_cons_of_mem _ (inAX3 w h)) hown hK.1 hP 0 rfl rfl 1 (by decide) (hts _ (List.mem_cons_of_mem _ fl_RX3_19)) (fun _ h9 => h9) rfl dX3_faultOfTaking_8 ?_
    refine lv_iload_n hx hb dX3_faultOfTaking_11 rfl (lv_at hl 1 rfl) ?_
    refine lv_icmp_eq (tgt := 17) hx hb dX3_faultOfTaking_12 (by decide) (fun c12 => ?_) (fun c12 => ?_)
    · replace hF := ip c12 hF
      exact J17  _ (lv_sub hl [0, 2, 3] rfl) hF
    · replace hF := iq c12 hF
      refine lv_iconst (v := 2) hx hb dX3_faultOfTaking_15 (by decide) ?_
      exact W.iret hx hb hr (fun t ht hW => ⟨_, rfl, (Option.some.inj hF), ht⟩) (fun _ h => nomatch h) dX3_faultOfTaking_16
noncomputable def F_X3_cut (t0 : ST) (x1 : Int32) : Option Int32 :=
  if (t0 0 1) = 0 then
    some x1.toInt8.toInt32
  else
  if (t0 0 1) = 1 then
    some x1.toInt16.toInt32
  else
  some x1
abbrev rm_X3_cut : Room := { frames := 0, cells := 0, slots := 0, locals := 0 }
set_option maxHeartbeats 4000000 in
set_option maxRecDepth 100000 in
theorem c_X3_cut (l : Launch) (D : va_G) (cI cS : ClassId) (a0 : Nat → Nat) (t0 : ST) (x1 : Int32) (r : Int32) (hF : F_X3_cut t0 x1 = some r) : Met l yX3_cut (Cond.code yX3_cut cX3_cut 2 (some .int) :: ALL) rm_X3_cut (PreR D cI cS [.ref (a0 0), .int x1] (pS cI cS a0 t0)) (vp_Si (fun x => x = r)) 0 0 (fun _ => False) := by
  refine mR l D cI cS (by decide) (Nat.le_of_ble_eq_true rfl) ?_
  intro p e s m below meth c ls hx hb hr hml hown hts hlocks hP hK hl
  have hown : s.vm.findClass RX3 = some m.cls := hown
  have hl : lv_has ls 2 [(0, .ref (a0 0)), (1, .int x1)] := hl
  unfold F_X3_cut at hF
  refine lv_aload_n hx hb dX3_cut_0 rfl (lv_at hl 0 rfl) ?_
  refine va_get (D := D) (ci := 3) (v := .int (t0 0 1)) (C := RX3) (T := TX3) (N := 4) hx hb hts (fun w h => List.mem_cons_of_mem _ (inAX3 w h)) hown hK.1 hP 0 rfl rfl 1 (by decide) (hts _ (List.mem_cons_of_mem _ fl_RX3_19)) (fun _ h9 => h9) rfl dX3_cut_1 ?_
  by_cases c4_0 : (t0 0 1) = 0
  · replace hF := ip c4_0 hF
    refine lv_lookup (off := 28) (tgt := 32) hx hb dX3_cut_4 (by decide) (by rw [c4_0]; decide) (by decide) ?_
    refine lv_iload_n hx hb dX3_cut_32 rfl (lv_at hl 1 rfl) ?_
    refine lv_i2b (v := x1.toInt8.toInt32) hx hb dX3_cut_33 rfl ?_
    exact W.iret hx hb hr (fun t ht hW => ⟨_, rfl, (Option.some.inj hF), ht⟩) (fun _ h => nomatch h) dX3_cut_34
  replace hF := iq c4_0 hF
  by_cases c4_1 : (t0 0 1) = 1
  · replace hF := ip c4_1 hF
    refine lv_lookup (off := 31) (tgt := 35) hx hb dX3_cut_4 (by decide) (by rw [c4_1]; decide) (by decide) ?_
    refine lv_iload_n hx hb dX3_cut_35 rfl (lv_at hl 1 rfl) ?_
    refine lv_i2s (v := x1.toInt16.toInt32) hx hb dX3_cut_36 rfl ?_
    exact W.iret hx hb hr (fun t ht hW => ⟨_, rfl, (Option.some.inj hF), ht⟩) (fun _ h => nomatch h) dX3_cut_37
  replace hF := iq c4_1 hF
  refine lv_lookup (off := 34) (tgt := 38) hx hb dX3_cut_4 (by decide) (by show Op.lookupswitch.offset [(0, 28), (1, 31)] 34 _ = _; rw [lv_osw (a := 0) c4_0 rfl, lv_osw (a := 1) c4_1 rfl]; rfl) (by decide) ?_
  refine lv_iload_n hx hb dX3_cut_38 rfl (lv_at hl 1 rfl) ?_
  exact W.iret hx hb hr (fun t ht hW => ⟨_, rfl, (Option.some.inj hF), ht⟩) (fun _ h => nomatch h) dX3_cut_39
noncomputable def F_X3_write (t0 : ST) (x1 : Int32) (x2 : Int32) : Option ST :=
  if x1 < 0 then
    some t0
  else
  if (t0 0 2) ≤ x1 then
    some t0
  else
  (F_X3_cut t0 x2).bind fun v19 =>
  (ix 60 x1).bind fun k22 =>
  some (st t0 1 k22 v19)
abbrev rm_X3_write : Room := { frames := 1, cells := 0, slots := 0, locals := 21 }
set_option maxHeartbeats 4000000 in
set_option maxRecDepth 100000 in
theorem c_X3_write (l : Launch) (D : va_G) (cI cS : ClassId) (a0 : Nat → Nat) (t0 : ST) (x1 : Int32) (x2 : Int32) (t' : ST) (hF : F_X3_write t0 x1 x2 = some t') : Met l yX3_write (Cond.code yX3_write cX3_write 3 none :: ALL) rm_X3_write (PreW D cI cS [.ref (a0 0), .int x1, .int x2] (pS cI cS a0 t0)) (va_Qv (fun (_ : Unit) => True) (fun _ t => va_P D vwCl (pS cI cS a0 t') t.heap) (AD (pS cI cS a0 t0))) 0 0 (AD (pS cI cS a0 t0)) := by
  refine mW l D cI cS (by decide) (Nat.le_of_ble_eq_true rfl) ?_
  intro p e s m below meth c ls hx hb hr hml hown hts hlocks hP hK hD hS hl
  have hown : s.vm.findClass RX3 = some m.cls := hown
  have hl : lv_has ls 3 [(0, .ref (a0 0)), (1, .int x1), (2, .int x2)] := hl
  unfold F_X3_write at hF
  refine lv_iload_n hx hb dX3_write_0 rfl (lv_at hl 1 rfl) ?_
  refine lv_if_lt (tgt := 23) hx hb dX3_write_1 (by decide) (fun c1 => ?_) (fun c1 => ?_)
  · replace hF := ip c1 hF
    exact W.vret hx hb hr (fun t ht hW => ⟨⟨(), rfl, trivial, by show va_P _ _ _ t.heap; rw [ht, ← (Option.some.inj hF)]; exact hP⟩, hS.F ht⟩) hS.2.2 dX3_write_23
  · replace hF := iq c1 hF
    refine lv_iload_n hx hb dX3_write_4 rfl (lv_at hl 1 rfl) ?_
    refine lv_aload_n hx hb dX3_write_5 rfl (lv_at hl 0 rfl) ?_
    refine va_get (D := D) (ci := 3) (v := .int (t0 0 2)) (C := RX3) (T := TX3) (N := 4) hx hb hts (fun w h => List.mem_cons_of_mem _ (inAX3 w h)) hown hK.1 hP 0 rfl rfl 2 (by decide) (hts _ (List.mem_cons_of_mem _ fl_RX3_23)) (fun _ h9 => h9) rfl dX3_write_6 ?_
    refine lv_icmp_ge (tgt := 23) hx hb dX3_write_9 (by decide) (fun c9 => ?_) (fun c9 => ?_)
    · replace hF := ip c9 hF
      exact W.vret hx hb hr (fun t ht hW => ⟨⟨(), rfl, trivial, by show va_P _ _ _ t.heap; rw [ht, ← (Option.some.inj hF)]; exact hP⟩, hS.F ht⟩) hS.2.2 dX3_write_23
    · replace hF := iq c9 hF
      refine lv_aload_n hx hb dX3_write_12 rfl (lv_at hl 0 rfl) ?_
      refine va_get (D := D) (ci := 3) (v := .ref (a0 1)) (C := RX3) (T := TX3) (N := 4) hx hb hts (fun w h => List.mem_cons_of_mem _ (inAX3 w h)) hown hK.1 hP 0 rfl rfl 3 (by decide) (hts _ (List.mem_cons_of_mem _ fl_RX3_9)) (fun _ h9 => h9) rfl dX3_write_13 ?_
      refine lv_iload_n hx hb dX3_write_16 rfl (lv_at hl 1 rfl) ?_
      refine lv_aload_n hx hb dX3_write_17 rfl (lv_at hl 0 rfl) ?_
      refine lv_iload_n hx hb dX3_write_18 rfl (lv_at hl 2 rfl) ?_
      obtain ⟨v19, h19, hF⟩ := bd hF
      refine cRe (va_runV (As := [.int x2]) (rest := [.int x1, .ref (a0 1)]) ⟨hx, hb, hml, hown, hts⟩ (c_X3_cut l D cI cS a0 t0 x2 v19 h19) (cwVA hts (TW.cons _) lv_X3_cut ml_RX3_36 ⟨rfl, rfl⟩ ⟨(Nat.le_of_ble_eq_true rfl), (Nat.le_of_ble_eq_true rfl)⟩) (pRV hK hP (ci := 3) rfl rfl) rfl rfl hl.1 rfl (lv_room (Nat.le_of_ble_eq_true rfl)) dX3_write_19 ⟨Nat.le_refl _, Nat.le_refl _⟩) ?_
      obtain ⟨k22, h22, hF⟩ := bd hF
      refine wI (ws' := pS cI cS a0 (st t0 1 k22 v19)) hx hb hK.1 hP hD hS 1 0 rfl rfl h22 rfl dX3_write_22 (fun H locs hP hD hS => ?_)
      exact W.vret hx hb hr (fun t ht hW => ⟨⟨(), rfl, trivial, by show va_P _ _ _ t.heap; rw [ht, ← (Option.some.inj hF)]; exact hP⟩, hS.F ht⟩) hS.2.2 dX3_write_23
noncomputable def F_X4_greatestDigit_J42 (t0 : ST) (x1 : Int32) (x2 : Int32) (z0 : Int32) : Option Int32 :=
  if z0 = 0 then
    some 57
  else
  some 53
noncomputable def F_X4_greatestDigit_J41 (t0 : ST) (x1 : Int32) (x2 : Int32) : Option Int32 :=
  F_X4_greatestDigit_J42 t0 x1 x2 0
noncomputable def F_X4_greatestDigit_J37 (t0 : ST) (x1 : Int32) (x2 : Int32) : Option Int32 :=
  F_X4_greatestDigit_J42 t0 x1 x2 1
noncomputable def F_X4_greatestDigit (t0 : ST) (x1 : Int32) (x2 : Int32) : Option Int32 :=
  if x2 = 1 then
    some 50
  else
  (F_X3_at t0 (x1 + 1)).bind fun v12 =>
  if v12 = 50 then
    if x2 = 2 then
      F_X4_greatestDigit_J37 t0 x1 x2
    else
    (F_X3_at t0 (x1 + 2)).bind fun v29 =>
    if v29 = 53 then
      F_X4_greatestDigit_J37 t0 x1 x2
    else
    F_X4_greatestDigit_J41 t0 x1 x2
  else
  F_X4_greatestDigit_J41 t0 x1 x2
abbrev rm_X4_greatestDigit : Room := { frames := 1, cells := 0, slots := 0, locals := 21 }
set_option maxHeartbeats 4000000 in
set_option maxRecDepth 100000 in
theorem c_X4_greatestDigit (l : Launch) (D : va_G) (cI cS : ClassId) (a0 : Nat → Nat) (t0 : ST) (x1 : Int32) (x2 : Int32) (r : Int32) (hF : F_X4_greatestDigit t0 x1 x2 = some r) : Met l yX4_greatestDigit (Cond.code yX4_greatestDigit cX4_greatestDigit 4 (some .int) :: ALL) rm_X4_greatestDigit (PreR D cI cS [.ref (a0 0), .int x1, .int x2] (pS cI cS a0 t0)) (vp_Si (fun x => x = r)) 0 0 (fun _ => False) := by
  refine mR l D cI cS (by decide) (Nat.le_of_ble_eq_true rfl) ?_
  intro p e s m below meth c ls hx hb hr hml hown hts hlocks hP hK hl
  have hown : s.vm.findClass RX4 = some m.cls := hown
  have hl : lv_has ls 4 [(0, .ref (a0 0)), (1, .int x1), (2, .int x2)] := hl
  unfold F_X4_greatestDigit at hF
  refine lv_iload_n hx hb dX4_greatestDigit_0 rfl (lv_at hl 2 rfl) ?_
  refine lv_iconst (v := 1) hx hb dX4_greatestDigit_1 (by decide) ?_
  refine lv_icmp_ne (tgt := 8) hx hb dX4_greatestDigit_2 (by decide) (fun c2 => ?_) (fun c2 => ?_)
  · replace hF := iq c2 hF
    refine lv_aload_n hx hb dX4_greatestDigit_8 rfl (lv_at hl 0 rfl) ?_
    refine lv_iload_n hx hb dX4_greatestDigit_9 rfl (lv_at hl 1 rfl) ?_
    refine lv_iconst (v := 1) hx hb dX4_greatestDigit_10 (by decide) ?_
    refine lv_iadd hx hb dX4_greatestDigit_11 ?_
    obtain ⟨v12, h12, hF⟩ := bd hF
    refine cRe (va_runV (As := [.int (x1 + 1)]) (rest := []) ⟨hx, hb, hml, hown, hts⟩ (c_X3_at l D cI cS a0 t0 (x1 + 1) v12 h12) (cwVA hts (TW.cons _) lv_X3_at ml_RX4_15 ⟨rfl, rfl⟩ ⟨(Nat.le_of_ble_eq_true rfl), (Nat.le_of_ble_eq_true rfl)⟩) (pRV hK hP (ci := 3) rfl rfl) rfl rfl hl.1 rfl (lv_room (Nat.le_of_ble_eq_true rfl)) dX4_greatestDigit_12 ⟨Nat.le_refl _, Nat.le_refl _⟩) ?_
    refine lv_bipush (v := 50) hx hb dX4_greatestDigit_15 (by decide) ?_
    have J42 : ∀ (z0_42 : Int32) (ls : Array Slot), lv_has ls 4 [] → F_X4_greatestDigit_J42 t0 x1 x2 z0_42 = some r → W p l e rm_X4_greatestDigit s m [.ref (a0 0), .int x1, .int x2].toArray below meth c s.heap [] 0 0 (MQ below (vp_Si (fun x => x = r)) [.ref (a0 0), .int x1, .int x2].toArray s 0 0 (fun _ => False)) (F0 m 42 ls [.int z0_42]) := by
      intro z0_42 ls hl hF
      unfold F_X4_greatestDigit_J42 at hF
      refine lv_istore_n (lv' := [(3, .int z0_42)]) hx hb dX4_greatestDigit_42 rfl hl (by decide) rfl (fun ls hl => ?_)
      refine lv_iload_n hx hb dX4_greatestDigit_43 rfl (lv_at hl 0 rfl) ?_
      refine lv_if_eq (tgt := 52) hx hb dX4_greatestDigit_44 (by decide) (fun c44 => ?_) (fun c44 => ?_)
      · replace hF := ip c44 hF
        refine lv_bipush (v := 57) hx hb dX4_greatestDigit_52 (by decide) ?_
        exact W.iret hx hb hr (fun t ht hW => ⟨_, rfl, (Option.some.inj hF), ht⟩) (fun _ h => nomatch h) dX4_greatestDigit_54
      · replace hF := iq c44 hF
        refine lv_bipush (v := 53) hx hb dX4_greatestDigit_47 (by decide) ?_
        refine lv_goto (tgt := 54) hx hb dX4_greatestDigit_49 (by decide) ?_
        exact W.iret hx hb hr (fun t ht hW => ⟨_, rfl, (Option.some.inj hF), ht⟩) (fun _ h => nomatch h) dX4_greatestDigit_54
    have J41 : ∀ (ls : Array Slot), lv_has ls 4 [] → F_X4_greatestDigit_J41 t0 x1 x2  = some r → W p l e rm_X4_greatestDigit s m [.ref (a0 0), .int x1, .int x2].toArray below meth c s.heap [] 0 0 (MQ below (vp_Si (fun x => x = r)) [.ref (a0 0), .int x1, .int x2].toArray s 0 0 (fun _ => False)) (F0 m 41 ls []) := by
      intro ls hl hF
      unfold F_X4_greatestDigit_J41 at hF
      refine lv_iconst (v := 0) hx hb dX4_greatestDigit_41 (by decide) ?_
      exact J42 0 _ (lv_sub hl [] rfl) hF
    refine lv_icmp_ne (tgt := 41) hx hb dX4_greatestDigit_17 (by decide) (fun c17 => ?_) (fun c17 => ?_)
    · replace hF := iq c17 hF
      exact J41  _ (lv_sub hl [] rfl) hF
    · replace hF := ip c17 hF
      refine lv_iload_n hx hb dX4_greatestDigit_20 rfl (lv_at hl 2 rfl) ?_
      refine lv_iconst (v := 2) hx hb dX4_greatestDigit_21 (by decide) ?_
      have J37 : ∀ (ls : Array Slot), lv_has ls 4 [] → F_X4_greatestDigit_J37 t0 x1 x2  = some r → W p l e rm_X4_greatestDigit s m [.ref (a0 0), .int x1, .int x2].toArray below meth c s.heap [] 0 0 (MQ below (vp_Si (fun x => x = r)) [.ref (a0 0), .int x1, .int x2].toArray s 0 0 (fun _ => False)) (F0 m 37 ls []) := by
        intro ls hl hF
        unfold F_X4_greatestDigit_J37 at hF
        refine lv_iconst (v := 1) hx hb dX4_greatestDigit_37 (by decide) ?_
        refine lv_goto (tgt := 42) hx hb dX4_greatestDigit_38 (by decide) ?_
        exact J42 1 _ (lv_sub hl [] rfl) hF
      refine lv_icmp_eq (tgt := 37) hx hb dX4_greatestDigit_22 (by decide) (fun c22 => ?_) (fun c22 => ?_)
      · replace hF := ip c22 hF
        exact J37  _ (lv_sub hl [] rfl) hF
      · replace hF := iq c22 hF
        refine lv_aload_n hx hb dX4_greatestDigit_25 rfl (lv_at hl 0 rfl) ?_
        refine lv_iload_n hx hb dX4_greatestDigit_26 rfl (lv_at hl 1 rfl) ?_
        refine lv_iconst (v := 2) hx hb dX4_greatestDigit_27 (by decide) ?_
        refine lv_iadd hx hb dX4_greatestDigit_28 ?_
        obtain ⟨v29, h29, hF⟩ := bd hF
        refine cRe (va_runV (As := [.int (x1 + 2)]) (rest := []) ⟨hx, hb, hml, hown, hts⟩ (c_X3_at l D cI cS a0 t0 (x1 + 2) v29 h29) (cwVA hts (TW.cons _) lv_X3_at ml_RX4_15 ⟨rfl, rfl⟩ ⟨(Nat.le_of_ble_eq_true rfl), (Nat.le_of_ble_eq_true rfl)⟩) (pRV hK hP (ci := 3) rfl rfl) rfl rfl hl.1 rfl (lv_room (Nat.le_of_ble_eq_true rfl)) dX4_greatestDigit_29 ⟨Nat.le_refl _, Nat.le_refl _⟩) ?_
        refine lv_bipush (v := 53) hx hb dX4_greatestDigit_32 (by decide) ?_
        refine lv_icmp_ne (tgt := 41) hx hb dX4_greatestDigit_34 (by decide) (fun c34 => ?_) (fun c34 => ?_)
        · replace hF := iq c34 hF
          exact J41  _ (lv_sub hl [] rfl) hF
        · replace hF := ip c34 hF
          exact J37  _ (lv_sub hl [] rfl) hF
  · replace hF := ip c2 hF
    refine lv_bipush (v := 50) hx hb dX4_greatestDigit_5 (by decide) ?_
    exact W.iret hx hb hr (fun t ht hW => ⟨_, rfl, (Option.some.inj hF), ht⟩) (fun _ h => nomatch h) dX4_greatestDigit_7
noncomputable def F_X4_isDigit (x0 : Int32) (x1 : Int32) (x2 : Int32) : Option Int32 :=
  if x0 < x1 then
    some 0
  else
  if x2 < x0 then
    some 0
  else
  some 1
abbrev rm_X4_isDigit : Room := { frames := 0, cells := 0, slots := 0, locals := 0 }
set_option maxHeartbeats 4000000 in
set_option maxRecDepth 100000 in
theorem c_X4_isDigit (l : Launch) (D : va_G) (cI cS : ClassId) (x0 : Int32) (x1 : Int32) (x2 : Int32) (r : Int32) (hF : F_X4_isDigit x0 x1 x2 = some r) : Met l yX4_isDigit (Cond.code yX4_isDigit cX4_isDigit 3 (some .boolean) :: ALL) rm_X4_isDigit (PreR D cI cS [.int x0, .int x1, .int x2] ([])) (vp_Si (fun x => x = r ∧ (x = 0 ∨ x = 1))) 0 0 (fun _ => False) := by
  refine mR l D cI cS (by decide) (Nat.le_of_ble_eq_true rfl) ?_
  intro p e s m below meth c ls hx hb hr hml hown hts hlocks hP hK hl
  have hown : s.vm.findClass RX4 = some m.cls := hown
  have hl : lv_has ls 3 [(0, .int x0), (1, .int x1), (2, .int x2)] := hl
  unfold F_X4_isDigit at hF
  refine lv_iload_n hx hb dX4_isDigit_0 rfl (lv_at hl 0 rfl) ?_
  refine lv_iload_n hx hb dX4_isDigit_1 rfl (lv_at hl 1 rfl) ?_
  refine lv_icmp_lt (tgt := 14) hx hb dX4_isDigit_2 (by decide) (fun c2 => ?_) (fun c2 => ?_)
  · replace hF := ip c2 hF
    refine lv_iconst (v := 0) hx hb dX4_isDigit_14 (by decide) ?_
    exact W.zret hx hb hr rfl (fun t ht hW => ⟨_, rfl, ⟨(Option.some.inj hF), Or.inl rfl⟩, ht⟩) (fun _ h => nomatch h) dX4_isDigit_15
  · replace hF := iq c2 hF
    refine lv_iload_n hx hb dX4_isDigit_5 rfl (lv_at hl 0 rfl) ?_
    refine lv_iload_n hx hb dX4_isDigit_6 rfl (lv_at hl 2 rfl) ?_
    refine lv_icmp_gt (tgt := 14) hx hb dX4_isDigit_7 (by decide) (fun c7 => ?_) (fun c7 => ?_)
    · replace hF := ip c7 hF
      refine lv_iconst (v := 0) hx hb dX4_isDigit_14 (by decide) ?_
      exact W.zret hx hb hr rfl (fun t ht hW => ⟨_, rfl, ⟨(Option.some.inj hF), Or.inl rfl⟩, ht⟩) (fun _ h => nomatch h) dX4_isDigit_15
    · replace hF := iq c7 hF
      refine lv_iconst (v := 1) hx hb dX4_isDigit_10 (by decide) ?_
      refine lv_goto (tgt := 15) hx hb dX4_isDigit_11 (by decide) ?_
      exact W.zret hx hb hr rfl (fun t ht hW => ⟨_, rfl, ⟨(Option.some.inj hF), Or.inr rfl⟩, ht⟩) (fun _ h => nomatch h) dX4_isDigit_15
noncomputable def F_X4_goesOn (t0 : ST) (x1 : Int32) (x2 : Int32) : Option Int32 :=
  (F_X3_at t0 (x1 + x2)).bind fun v4 =>
  if x2 = 0 then
    if v4 = 103 then
      some 1
    else
    some 0
  else
  if 4 ≤ x2 then
    if x2 < 34 then
      if ((x2 - 4) - (x2 - 4) / 5 * 5) = 0 then
        if v4 = 59 then
          some 1
        else
        some 0
      else
      if ((x2 - 4) - (x2 - 4) / 5 * 5) = 1 then
        (F_X4_kindBy v4).bind fun v101 =>
        if v101 = (-9) then
          some 0
        else
        some 1
      else
      if ((x2 - 4) - (x2 - 4) / 5 * 5) = 2 then
        (F_X4_isDigit v4 48 55).bind fun v129 =>
        some v129
      else
      if ((x2 - 4) - (x2 - 4) / 5 * 5) = 3 then
        (F_X4_isDigit v4 48 55).bind fun v129 =>
        some v129
      else
      if ((x2 - 4) - (x2 - 4) / 5 * 5) = 4 then
        (F_X4_isDigit v4 49 52).bind fun v120 =>
        some v120
      else
      (F_X4_isDigit v4 48 55).bind fun v129 =>
      some v129
    else
    some 0
  else
  (F_X4_greatestDigit t0 x1 x2).bind fun v35 =>
  (F_X4_isDigit v4 48 v35).bind fun v38 =>
  some v38
abbrev rm_X4_goesOn : Room := { frames := 2, cells := 0, slots := 0, locals := 44 }
set_option maxHeartbeats 4000000 in
set_option maxRecDepth 100000 in
theorem c_X4_goesOn (l : Launch) (D : va_G) (cI cS : ClassId) (a0 : Nat → Nat) (t0 : ST) (x1 : Int32) (x2 : Int32) (r : Int32) (hF : F_X4_goesOn t0 x1 x2 = some r) : Met l yX4_goesOn (Cond.code yX4_goesOn cX4_goesOn 4 (some .boolean) :: ALL) rm_X4_goesOn (PreR D cI cS [.ref (a0 0), .int x1, .int x2] (pS cI cS a0 t0)) (vp_Si (fun x => x = r ∧ (x = 0 ∨ x = 1))) 0 0 (fun _ => False) := by
  refine mR l D cI cS (by decide) (Nat.le_of_ble_eq_true rfl) ?_
  intro p e s m below meth c ls hx hb hr hml hown hts hlocks hP hK hl
  have hown : s.vm.findClass RX4 = some m.cls := hown
  have hl : lv_has ls 4 [(0, .ref (a0 0)), (1, .int x1), (2, .int x2)] := hl
  unfold F_X4_goesOn at hF
  refine lv_aload_n hx hb dX4_goesOn_0 rfl (lv_at hl 0 rfl) ?_
  refine lv_iload_n hx hb dX4_goesOn_1 rfl (lv_at hl 1 rfl) ?_
  refine lv_iload_n hx hb dX4_goesOn_2 rfl (lv_at hl 2 rfl) ?_
  refine lv_iadd hx hb dX4_goesOn_3 ?_
  obtain ⟨v4, h4, hF⟩ := bd hF
  refine cRe (va_runV (As := [.int (x1 + x2)]) (rest := []) ⟨hx, hb, hml, hown, hts⟩ (c_X3_at l D cI cS a0 t0 (x1 + x2) v4 h4) (cwVA hts (TW.cons _) lv_X3_at ml_RX4_15 ⟨rfl, rfl⟩ ⟨(Nat.le_of_ble_eq_true rfl), (Nat.le_of_ble_eq_true rfl)⟩) (pRV hK hP (ci := 3) rfl rfl) rfl rfl hl.1 rfl (lv_room (Nat.le_of_ble_eq_true rfl)) dX4_goesOn_4 ⟨Nat.le_refl _, Nat.le_refl _⟩) ?_
  refine lv_istore_n (lv' := [(3, .int v4), (0, .ref (a0 0)), (1, .int x1), (2, .int x2)]) hx hb dX4_goesOn_7 rfl hl (by decide) rfl (fun ls hl => ?_)
  refine lv_iload_n hx hb dX4_goesOn_8 rfl (lv_at hl 3 rfl) ?_
  refine lv_if_ne (tgt := 24) hx hb dX4_goesOn_9 (by decide) (fun c9 => ?_) (fun c9 => ?_)
  · replace hF := iq c9 hF
    refine lv_iload_n hx hb dX4_goesOn_24 rfl (lv_at hl 3 rfl) ?_
    refine lv_iconst (v := 4) hx hb dX4_goesOn_25 (by decide) ?_
    refine lv_icmp_ge (tgt := 42) hx hb dX4_goesOn_26 (by decide) (fun c26 => ?_) (fun c26 => ?_)
    · replace hF := ip c26 hF
      refine lv_iload_n hx hb dX4_goesOn_42 rfl (lv_at hl 3 rfl) ?_
      refine lv_bipush (v := 34) hx hb dX4_goesOn_43 (by decide) ?_
      refine lv_icmp_lt (tgt := 50) hx hb dX4_goesOn_45 (by decide) (fun c45 => ?_) (fun c45 => ?_)
      · replace hF := ip c45 hF
        refine lv_iload_n hx hb dX4_goesOn_50 rfl (lv_at hl 3 rfl) ?_
        refine lv_iconst (v := 4) hx hb dX4_goesOn_51 (by decide) ?_
        refine lv_isub hx hb dX4_goesOn_52 ?_
        refine lv_iconst (v := 5) hx hb dX4_goesOn_53 (by decide) ?_
        refine lv_irem hx hb dX4_goesOn_54 (by decide) ?_
        by_cases c55_0 : ((x2 - 4) - (x2 - 4) / 5 * 5) = 0
        · replace hF := ip c55_0 hF
          refine lv_tableIn (off := 33) (tgt := 88) hx hb dX4_goesOn_55 (by rw [c55_0]; decide) (by rw [c55_0]; decide) (by rw [c55_0]; decide) (by decide) ?_
          refine lv_iload_n hx hb dX4_goesOn_88 rfl (lv_at hl 0 rfl) ?_
          refine lv_bipush (v := 59) hx hb dX4_goesOn_89 (by decide) ?_
          refine lv_icmp_ne (tgt := 98) hx hb dX4_goesOn_91 (by decide) (fun c91 => ?_) (fun c91 => ?_)
          · replace hF := iq c91 hF
            refine lv_iconst (v := 0) hx hb dX4_goesOn_98 (by decide) ?_
            exact W.zret hx hb hr rfl (fun t ht hW => ⟨_, rfl, ⟨(Option.some.inj hF), Or.inl rfl⟩, ht⟩) (fun _ h => nomatch h) dX4_goesOn_99
          · replace hF := ip c91 hF
            refine lv_iconst (v := 1) hx hb dX4_goesOn_94 (by decide) ?_
            refine lv_goto (tgt := 99) hx hb dX4_goesOn_95 (by decide) ?_
            exact W.zret hx hb hr rfl (fun t ht hW => ⟨_, rfl, ⟨(Option.some.inj hF), Or.inr rfl⟩, ht⟩) (fun _ h => nomatch h) dX4_goesOn_99
        replace hF := iq c55_0 hF
        by_cases c55_1 : ((x2 - 4) - (x2 - 4) / 5 * 5) = 1
        · replace hF := ip c55_1 hF
          refine lv_tableIn (off := 45) (tgt := 100) hx hb dX4_goesOn_55 (by rw [c55_1]; decide) (by rw [c55_1]; decide) (by rw [c55_1]; decide) (by decide) ?_
          refine lv_iload_n hx hb dX4_goesOn_100 rfl (lv_at hl 0 rfl) ?_
          obtain ⟨v101, h101, hF⟩ := bd hF
          refine cRe (va_runS (As := [.int v4]) (rest := []) ⟨hx, hb, hml, hown, hts⟩ (c_X4_kindBy l D cI cS v4 v101 h101) (cwSA hts (TW.cons _) ls_X4_kindBy ml_RX4_29 ⟨rfl, rfl⟩ ⟨(Nat.le_of_ble_eq_true rfl), (Nat.le_of_ble_eq_true rfl)⟩) (pRS hK pnil) rfl rfl hl.1 rfl (lv_room (Nat.le_of_ble_eq_true rfl)) dX4_goesOn_101 ⟨Nat.le_refl _, Nat.le_refl _⟩) ?_
          refine lv_bipush (v := (-9)) hx hb dX4_goesOn_104 (by decide) ?_
          refine lv_icmp_eq (tgt := 113) hx hb dX4_goesOn_106 (by decide) (fun c106 => ?_) (fun c106 => ?_)
          · replace hF := ip c106 hF
            refine lv_iconst (v := 0) hx hb dX4_goesOn_113 (by decide) ?_
            exact W.zret hx hb hr rfl (fun t ht hW => ⟨_, rfl, ⟨(Option.some.inj hF), Or.inl rfl⟩, ht⟩) (fun _ h => nomatch h) dX4_goesOn_114
          · replace hF := iq c106 hF
            refine lv_iconst (v := 1) hx hb dX4_goesOn_109 (by decide) ?_
            refine lv_goto (tgt := 114) hx hb dX4_goesOn_110 (by decide) ?_
            exact W.zret hx hb hr rfl (fun t ht hW => ⟨_, rfl, ⟨(Option.some.inj hF), Or.inr rfl⟩, ht⟩) (fun _ h => nomatch h) dX4_goesOn_114
        replace hF := iq c55_1 hF
        by_cases c55_2 : ((x2 - 4) - (x2 - 4) / 5 * 5) = 2
        · replace hF := ip c55_2 hF
          refine lv_tableIn (off := 69) (tgt := 124) hx hb dX4_goesOn_55 (by rw [c55_2]; decide) (by rw [c55_2]; decide) (by rw [c55_2]; decide) (by decide) ?_
          refine lv_iload_n hx hb dX4_goesOn_124 rfl (lv_at hl 0 rfl) ?_
          refine lv_bipush (v := 48) hx hb dX4_goesOn_125 (by decide) ?_
          refine lv_bipush (v := 55) hx hb dX4_goesOn_127 (by decide) ?_
          obtain ⟨v129, h129, hF⟩ := bd hF
          refine cRb (va_runS (As := [.int v4, .int 48, .int 55]) (rest := []) ⟨hx, hb, hml, hown, hts⟩ (c_X4_isDigit l D cI cS v4 48 55 v129 h129) (cwSA hts (TW.cons _) ls_X4_isDigit ml_RX4_25 ⟨rfl, rfl⟩ ⟨(Nat.le_of_ble_eq_true rfl), (Nat.le_of_ble_eq_true rfl)⟩) (pRS hK pnil) rfl rfl hl.1 rfl (lv_room (Nat.le_of_ble_eq_true rfl)) dX4_goesOn_129 ⟨Nat.le_refl _, Nat.le_refl _⟩) (fun b129 => ?_)
          exact W.zret hx hb hr (b01 b129) (fun t ht hW => ⟨_, rfl, ⟨(Option.some.inj hF), b129⟩, ht⟩) (fun _ h => nomatch h) dX4_goesOn_132
        replace hF := iq c55_2 hF
        by_cases c55_3 : ((x2 - 4) - (x2 - 4) / 5 * 5) = 3
        · replace hF := ip c55_3 hF
          refine lv_tableIn (off := 69) (tgt := 124) hx hb dX4_goesOn_55 (by rw [c55_3]; decide) (by rw [c55_3]; decide) (by rw [c55_3]; decide) (by decide) ?_
          refine lv_iload_n hx hb dX4_goesOn_124 rfl (lv_at hl 0 rfl) ?_
          refine lv_bipush (v := 48) hx hb dX4_goesOn_125 (by decide) ?_
          refine lv_bipush (v := 55) hx hb dX4_goesOn_127 (by decide) ?_
          obtain ⟨v129, h129, hF⟩ := bd hF
          refine cRb (va_runS (As := [.int v4, .int 48, .int 55]) (rest := []) ⟨hx, hb, hml, hown, hts⟩ (c_X4_isDigit l D cI cS v4 48 55 v129 h129) (cwSA hts (TW.cons _) ls_X4_isDigit ml_RX4_25 ⟨rfl, rfl⟩ ⟨(Nat.le_of_ble_eq_true rfl), (Nat.le_of_ble_eq_true rfl)⟩) (pRS hK pnil) rfl rfl hl.1 rfl (lv_room (Nat.le_of_ble_eq_true rfl)) dX4_goesOn_129 ⟨Nat.le_refl _, Nat.le_refl _⟩) (fun b129 => ?_)
          exact W.zret hx hb hr (b01 b129) (fun t ht hW => ⟨_, rfl, ⟨(Option.some.inj hF), b129⟩, ht⟩) (fun _ h => nomatch h) dX4_goesOn_132
        replace hF := iq c55_3 hF
        by_cases c55_4 : ((x2 - 4) - (x2 - 4) / 5 * 5) = 4
        · replace hF := ip c55_4 hF
          refine lv_tableIn (off := 60) (tgt := 115) hx hb dX4_goesOn_55 (by rw [c55_4]; decide) (by rw [c55_4]; decide) (by rw [c55_4]; decide) (by decide) ?_
          refine lv_iload_n hx hb dX4_goesOn_115 rfl (lv_at hl 0 rfl) ?_
          refine lv_bipush (v := 49) hx hb dX4_goesOn_116 (by decide) ?_
          refine lv_bipush (v := 52) hx hb dX4_goesOn_118 (by decide) ?_
          obtain ⟨v120, h120, hF⟩ := bd hF
          refine cRb (va_runS (As := [.int v4, .int 49, .int 52]) (rest := []) ⟨hx, hb, hml, hown, hts⟩ (c_X4_isDigit l D cI cS v4 49 52 v120 h120) (cwSA hts (TW.cons _) ls_X4_isDigit ml_RX4_25 ⟨rfl, rfl⟩ ⟨(Nat.le_of_ble_eq_true rfl), (Nat.le_of_ble_eq_true rfl)⟩) (pRS hK pnil) rfl rfl hl.1 rfl (lv_room (Nat.le_of_ble_eq_true rfl)) dX4_goesOn_120 ⟨Nat.le_refl _, Nat.le_refl _⟩) (fun b120 => ?_)
          exact W.zret hx hb hr (b01 b120) (fun t ht hW => ⟨_, rfl, ⟨(Option.some.inj hF), b120⟩, ht⟩) (fun _ h => nomatch h) dX4_goesOn_123
        replace hF := iq c55_4 hF
        refine lv_tableOut (tgt := 124) hx hb dX4_goesOn_55 (by have g0 := ne_toInt c55_0 (k := 0) rfl; have g1 := ne_toInt c55_1 (k := 1) rfl; have g2 := ne_toInt c55_2 (k := 2) rfl; have g3 := ne_toInt c55_3 (k := 3) rfl; have g4 := ne_toInt c55_4 (k := 4) rfl; omega) (by decide) ?_
        refine lv_iload_n hx hb dX4_goesOn_124 rfl (lv_at hl 0 rfl) ?_
        refine lv_bipush (v := 48) hx hb dX4_goesOn_125 (by decide) ?_
        refine lv_bipush (v := 55) hx hb dX4_goesOn_127 (by decide) ?_
        obtain ⟨v129, h129, hF⟩ := bd hF
        refine cRb (va_runS (As := [.int v4, .int 48, .int 55]) (rest := []) ⟨hx, hb, hml, hown, hts⟩ (c_X4_isDigit l D cI cS v4 48 55 v129 h129) (cwSA hts (TW.cons _) ls_X4_isDigit ml_RX4_25 ⟨rfl, rfl⟩ ⟨(Nat.le_of_ble_eq_true rfl), (Nat.le_of_ble_eq_true rfl)⟩) (pRS hK pnil) rfl rfl hl.1 rfl (lv_room (Nat.le_of_ble_eq_true rfl)) dX4_goesOn_129 ⟨Nat.le_refl _, Nat.le_refl _⟩) (fun b129 => ?_)
        exact W.zret hx hb hr (b01 b129) (fun t ht hW => ⟨_, rfl, ⟨(Option.some.inj hF), b129⟩, ht⟩) (fun _ h => nomatch h) dX4_goesOn_132
      · replace hF := iq c45 hF
        refine lv_iconst (v := 0) hx hb dX4_goesOn_48 (by decide) ?_
        exact W.zret hx hb hr rfl (fun t ht hW => ⟨_, rfl, ⟨(Option.some.inj hF), Or.inl rfl⟩, ht⟩) (fun _ h => nomatch h) dX4_goesOn_49
    · replace hF := iq c26 hF
      refine lv_iload_n hx hb dX4_goesOn_29 rfl (lv_at hl 0 rfl) ?_
      refine lv_bipush (v := 48) hx hb dX4_goesOn_30 (by decide) ?_
      refine lv_aload_n hx hb dX4_goesOn_32 rfl (lv_at hl 1 rfl) ?_
      refine lv_iload_n hx hb dX4_goesOn_33 rfl (lv_at hl 2 rfl) ?_
      refine lv_iload_n hx hb dX4_goesOn_34 rfl (lv_at hl 3 rfl) ?_
      obtain ⟨v35, h35, hF⟩ := bd hF
      refine cRe (va_runS (As := [.ref (a0 0), .int x1, .int x2]) (rest := [.int 48, .int v4]) ⟨hx, hb, hml, hown, hts⟩ (c_X4_greatestDigit l D cI cS a0 t0 x1 x2 v35 h35) (cwSA hts (TW.cons _) ls_X4_greatestDigit ml_RX4_21 ⟨rfl, rfl⟩ ⟨(Nat.le_of_ble_eq_true rfl), (Nat.le_of_ble_eq_true rfl)⟩) (pRS hK hP) rfl rfl hl.1 rfl (lv_room (Nat.le_of_ble_eq_true rfl)) dX4_goesOn_35 ⟨Nat.le_refl _, Nat.le_refl _⟩) ?_
      obtain ⟨v38, h38, hF⟩ := bd hF
      refine cRb (va_runS (As := [.int v4, .int 48, .int v35]) (rest := []) ⟨hx, hb, hml, hown, hts⟩ (c_X4_isDigit l D cI cS v4 48 v35 v38 h38) (cwSA hts (TW.cons _) ls_X4_isDigit ml_RX4_25 ⟨rfl, rfl⟩ ⟨(Nat.le_of_ble_eq_true rfl), (Nat.le_of_ble_eq_true rfl)⟩) (pRS hK pnil) rfl rfl hl.1 rfl (lv_room (Nat.le_of_ble_eq_true rfl)) dX4_goesOn_38 ⟨Nat.le_refl _, Nat.le_refl _⟩) (fun b38 => ?_)
      exact W.zret hx hb hr (b01 b38) (fun t ht hW => ⟨_, rfl, ⟨(Option.some.inj hF), b38⟩, ht⟩) (fun _ h => nomatch h) dX4_goesOn_41
  · replace hF := ip c9 hF
    refine lv_iload_n hx hb dX4_goesOn_12 rfl (lv_at hl 0 rfl) ?_
    refine lv_bipush (v := 103) hx hb dX4_goesOn_13 (by decide) ?_
    refine lv_icmp_ne (tgt := 22) hx hb dX4_goesOn_15 (by decide) (fun c15 => ?_) (fun c15 => ?_)
    · replace hF := iq c15 hF
      refine lv_iconst (v := 0) hx hb dX4_goesOn_22 (by decide) ?_
      exact W.zret hx hb hr rfl (fun t ht hW => ⟨_, rfl, ⟨(Option.some.inj hF), Or.inl rfl⟩, ht⟩) (fun _ h => nomatch h) dX4_goesOn_23
    · replace hF := ip c15 hF
      refine lv_iconst (v := 1) hx hb dX4_goesOn_18 (by decide) ?_
      refine lv_goto (tgt := 23) hx hb dX4_goesOn_19 (by decide) ?_
      exact W.zret hx hb hr rfl (fun t ht hW => ⟨_, rfl, ⟨(Option.some.inj hF), Or.inr rfl⟩, ht⟩) (fun _ h => nomatch h) dX4_goesOn_23
noncomputable def F_X4_firstFault_L2 (t0 : ST) (x1 : Int32) (x2 : Int32) (k : Int32 → Option Int32) : Nat → Int32 → Option Int32
  | 0, _ => none
  | n + 1, x3 =>
    if x2 ≤ x3 then
      k x3
    else
    (F_X4_goesOn t0 x1 x3).bind fun v10 =>
    if v10 = 0 then
      some x3
    else
    (F_X4_firstFault_L2 t0 x1 x2 k n) (x3 + 1)
noncomputable def F_X4_firstFault_J42 (t0 : ST) (x1 : Int32) (x2 : Int32) (z0 : Int32) : Option Int32 :=
  if z0 = 0 then
    some x2
  else
  some (-9)
noncomputable def F_X4_firstFault_J41 (t0 : ST) (x1 : Int32) (x2 : Int32) : Option Int32 :=
  F_X4_firstFault_J42 t0 x1 x2 0
noncomputable def F_X4_firstFault_J24 (t0 : ST) (x1 : Int32) (x2 : Int32) : Option Int32 :=
  if x2 ≤ 4 then
    F_X4_firstFault_J41 t0 x1 x2
  else
  if ((x2 - 4) - (x2 - 4) / 5 * 5) = 0 then
    F_X4_firstFault_J42 t0 x1 x2 1
  else
  F_X4_firstFault_J41 t0 x1 x2
noncomputable def F_X4_firstFault (t0 : ST) (x1 : Int32) (x2 : Int32) : Option Int32 :=
  F_X4_firstFault_L2 t0 x1 x2 (fun x3_k2 => F_X4_firstFault_J24 t0 x1 x2) 1000 0
abbrev rm_X4_firstFault : Room := { frames := 3, cells := 0, slots := 0, locals := 67 }
set_option maxHeartbeats 4000000 in
set_option maxRecDepth 100000 in
theorem c_X4_firstFault (l : Launch) (D : va_G) (cI cS : ClassId) (a0 : Nat → Nat) (t0 : ST) (x1 : Int32) (x2 : Int32) (r : Int32) (hF : F_X4_firstFault t0 x1 x2 = some r) : Met l yX4_firstFault (Cond.code yX4_firstFault cX4_firstFault 4 (some .int) :: ALL) rm_X4_firstFault (PreR D cI cS [.ref (a0 0), .int x1, .int x2] (pS cI cS a0 t0)) (vp_Si (fun x => x = r)) 0 0 (fun _ => False) := by
  refine mR l D cI cS (by decide) (Nat.le_of_ble_eq_true rfl) ?_
  intro p e s m below meth c ls hx hb hr hml hown hts hlocks hP hK hl
  have hown : s.vm.findClass RX4 = some m.cls := hown
  have hl : lv_has ls 4 [(0, .ref (a0 0)), (1, .int x1), (2, .int x2)] := hl
  unfold F_X4_firstFault at hF
  refine lv_iconst (v := 0) hx hb dX4_firstFault_0 (by decide) ?_
  refine lv_istore_n (lv' := [(3, .int 0), (0, .ref (a0 0)), (1, .int x1), (2, .int x2)]) hx hb dX4_firstFault_1 rfl hl (by decide) rfl (fun ls hl => ?_)
  have L2 : ∀ (n_2 : Nat) (x3_2 : Int32) (ls : Array Slot), lv_has ls 4 [(0, .ref (a0 0)), (1, .int x1), (2, .int x2), (3, .int x3_2)] → F_X4_firstFault_L2 t0 x1 x2 (fun x3_k2 => F_X4_firstFault_J24 t0 x1 x2) n_2 x3_2 = some r → W p l e rm_X4_firstFault s m [.ref (a0 0), .int x1, .int x2].toArray below meth c s.heap [] 0 0 (MQ below (vp_Si (fun x => x = r)) [.ref (a0 0), .int x1, .int x2].toArray s 0 0 (fun _ => False)) (F0 m 2 ls []) := by
    intro n_2
    induction n_2 with
    | zero => intro x3_2 ls hl hF; exact nomatch hF
    | succ n_2 ih2 =>
      intro x3_2 ls hl hF
      rw [F_X4_firstFault_L2.eq_2] at hF
      refine lv_iload_n hx hb dX4_firstFault_2 rfl (lv_at hl 3 rfl) ?_
      refine lv_iload_n hx hb dX4_firstFault_3 rfl (lv_at hl 2 rfl) ?_
      refine lv_icmp_ge (tgt := 24) hx hb dX4_firstFault_4 (by decide) (fun c4 => ?_) (fun c4 => ?_)
      · replace hF := ip c4 hF
        have hF : F_X4_firstFault_J24 t0 x1 x2 = some r := hF
        unfold F_X4_firstFault_J24 at hF
        refine lv_iload_n hx hb dX4_firstFault_24 rfl (lv_at hl 2 rfl) ?_
        refine lv_iconst (v := 4) hx hb dX4_firstFault_25 (by decide) ?_
        have J42 : ∀ (z0_42 : Int32) (ls : Array Slot), lv_has ls 4 [(2, .int x2)] → F_X4_firstFault_J42 t0 x1 x2 z0_42 = some r → W p l e rm_X4_firstFault s m [.ref (a0 0), .int x1, .int x2].toArray below meth c s.heap [] 0 0 (MQ below (vp_Si (fun x => x = r)) [.ref (a0 0), .int x1, .int x2].toArray s 0 0 (fun _ => False)) (F0 m 42 ls [.int z0_42]) := by
          intro z0_42 ls hl hF
          unfold F_X4_firstFault_J42 at hF
          refine lv_istore_n (lv' := [(3, .int z0_42), (2, .int x2)]) hx hb dX4_firstFault_42 rfl hl (by decide) rfl (fun ls hl => ?_)
          refine lv_iload_n hx hb dX4_firstFault_43 rfl (lv_at hl 0 rfl) ?_
          refine lv_if_eq (tgt := 52) hx hb dX4_firstFault_44 (by decide) (fun c44 => ?_) (fun c44 => ?_)
          · replace hF := ip c44 hF
            refine lv_iload_n hx hb dX4_firstFault_52 rfl (lv_at hl 1 rfl) ?_
            exact W.iret hx hb hr (fun t ht hW => ⟨_, rfl, (Option.some.inj hF), ht⟩) (fun _ h => nomatch h) dX4_firstFault_53
          · replace hF := iq c44 hF
            refine lv_bipush (v := (-9)) hx hb dX4_firstFault_47 (by decide) ?_
            refine lv_goto (tgt := 53) hx hb dX4_firstFault_49 (by decide) ?_
            exact W.iret hx hb hr (fun t ht hW => ⟨_, rfl, (Option.some.inj hF), ht⟩) (fun _ h => nomatch h) dX4_firstFault_53
        have J41 : ∀ (ls : Array Slot), lv_has ls 4 [(2, .int x2)] → F_X4_firstFault_J41 t0 x1 x2  = some r → W p l e rm_X4_firstFault s m [.ref (a0 0), .int x1, .int x2].toArray below meth c s.heap [] 0 0 (MQ below (vp_Si (fun x => x = r)) [.ref (a0 0), .int x1, .int x2].toArray s 0 0 (fun _ => False)) (F0 m 41 ls []) := by
          intro ls hl hF
          unfold F_X4_firstFault_J41 at hF
          refine lv_iconst (v := 0) hx hb dX4_firstFault_41 (by decide) ?_
          exact J42 0 _ (lv_sub hl [0] rfl) hF
        refine lv_icmp_le (tgt := 41) hx hb dX4_firstFault_26 (by decide) (fun c26 => ?_) (fun c26 => ?_)
        · replace hF := ip c26 hF
          exact J41  _ (lv_sub hl [2] rfl) hF
        · replace hF := iq c26 hF
          refine lv_iload_n hx hb dX4_firstFault_29 rfl (lv_at hl 2 rfl) ?_
          refine lv_iconst (v := 4) hx hb dX4_firstFault_30 (by decide) ?_
          refine lv_isub hx hb dX4_firstFault_31 ?_
          refine lv_iconst (v := 5) hx hb dX4_firstFault_32 (by decide) ?_
          refine lv_irem hx hb dX4_firstFault_33 (by decide) ?_
          refine lv_if_ne (tgt := 41) hx hb dX4_firstFault_34 (by decide) (fun c34 => ?_) (fun c34 => ?_)
          · replace hF := iq c34 hF
            exact J41  _ (lv_sub hl [2] rfl) hF
          · replace hF := ip c34 hF
            refine lv_iconst (v := 1) hx hb dX4_firstFault_37 (by decide) ?_
            refine lv_goto (tgt := 42) hx hb dX4_firstFault_38 (by decide) ?_
            exact J42 1 _ (lv_sub hl [2] rfl) hF
      · replace hF := iq c4 hF
        refine lv_aload_n hx hb dX4_firstFault_7 rfl (lv_at hl 0 rfl) ?_
        refine lv_iload_n hx hb dX4_firstFault_8 rfl (lv_at hl 1 rfl) ?_
        refine lv_iload_n hx hb dX4_firstFault_9 rfl (lv_at hl 3 rfl) ?_
        obtain ⟨v10, h10, hF⟩ := bd hF
        refine cRb (va_runS (As := [.ref (a0 0), .int x1, .int x3_2]) (rest := []) ⟨hx, hb, hml, hown, hts⟩ (c_X4_goesOn l D cI cS a0 t0 x1 x3_2 v10 h10) (cwSA hts (TW.cons _) ls_X4_goesOn ml_RX4_9 ⟨rfl, rfl⟩ ⟨(Nat.le_of_ble_eq_true rfl), (Nat.le_of_ble_eq_true rfl)⟩) (pRS hK hP) rfl rfl hl.1 rfl (lv_room (Nat.le_of_ble_eq_true rfl)) dX4_firstFault_10 ⟨Nat.le_refl _, Nat.le_refl _⟩) (fun b10 => ?_)
        refine lv_if_ne (tgt := 18) hx hb dX4_firstFault_13 (by decide) (fun c13 => ?_) (fun c13 => ?_)
        · replace hF := iq c13 hF
          refine lv_iinc (v := (x3_2 + 1)) (lv' := [(3, .int (x3_2 + 1)), (0, .ref (a0 0)), (1, .int x1), (2, .int x2)]) hx hb dX4_firstFault_18 hl (k := 3) rfl rfl (by decide) rfl (fun ls hl => ?_)
          refine lv_goto (tgt := 2) hx hb dX4_firstFault_21 (by decide) ?_
          exact ih2 (x3_2 + 1) _ (lv_sub hl [1, 2, 3, 0] rfl) hF
        · replace hF := ip c13 hF
          refine lv_iload_n hx hb dX4_firstFault_16 rfl (lv_at hl 3 rfl) ?_
          exact W.iret hx hb hr (fun t ht hW => ⟨_, rfl, (Option.some.inj hF), ht⟩) (fun _ h => nomatch h) dX4_firstFault_17
  exact L2 1000 0 _ (lv_sub hl [1, 2, 3, 0] rfl) hF
noncomputable def F_X4_lawOf (t0 : ST) (x1 : Int32) : Option Int32 :=
  (F_X4_digitAt t0 (x1 + 1)).bind fun v6 =>
  (F_X4_digitAt t0 (x1 + 2)).bind fun v16 =>
  (F_X4_digitAt t0 (x1 + 3)).bind fun v25 =>
  some (((100 * v6) + (10 * v16)) + v25)
abbrev rm_X4_lawOf : Room := { frames := 2, cells := 0, slots := 0, locals := 42 }
set_option maxHeartbeats 4000000 in
set_option maxRecDepth 100000 in
theorem c_X4_lawOf (l : Launch) (D : va_G) (cI cS : ClassId) (a0 : Nat → Nat) (t0 : ST) (x1 : Int32) (r : Int32) (hF : F_X4_lawOf t0 x1 = some r) : Met l yX4_lawOf (Cond.code yX4_lawOf cX4_lawOf 2 (some .int) :: ALL) rm_X4_lawOf (PreR D cI cS [.ref (a0 0), .int x1] (pS cI cS a0 t0)) (vp_Si (fun x => x = r)) 0 0 (fun _ => False) := by
  refine mR l D cI cS (by decide) (Nat.le_of_ble_eq_true rfl) ?_
  intro p e s m below meth c ls hx hb hr hml hown hts hlocks hP hK hl
  have hown : s.vm.findClass RX4 = some m.cls := hown
  have hl : lv_has ls 2 [(0, .ref (a0 0)), (1, .int x1)] := hl
  unfold F_X4_lawOf at hF
  refine lv_bipush (v := 100) hx hb dX4_lawOf_0 (by decide) ?_
  refine lv_aload_n hx hb dX4_lawOf_2 rfl (lv_at hl 0 rfl) ?_
  refine lv_iload_n hx hb dX4_lawOf_3 rfl (lv_at hl 1 rfl) ?_
  refine lv_iconst (v := 1) hx hb dX4_lawOf_4 (by decide) ?_
  refine lv_iadd hx hb dX4_lawOf_5 ?_
  obtain ⟨v6, h6, hF⟩ := bd hF
  refine cRe (va_runS (As := [.ref (a0 0), .int (x1 + 1)]) (rest := [.int 100]) ⟨hx, hb, hml, hown, hts⟩ (c_X4_digitAt l D cI cS a0 t0 (x1 + 1) v6 h6) (cwSA hts (TW.cons _) ls_X4_digitAt ml_RX4_32 ⟨rfl, rfl⟩ ⟨(Nat.le_of_ble_eq_true rfl), (Nat.le_of_ble_eq_true rfl)⟩) (pRS hK hP) rfl rfl hl.1 rfl (lv_room (Nat.le_of_ble_eq_true rfl)) dX4_lawOf_6 ⟨Nat.le_refl _, Nat.le_refl _⟩) ?_
  refine lv_imul hx hb dX4_lawOf_9 ?_
  refine lv_bipush (v := 10) hx hb dX4_lawOf_10 (by decide) ?_
  refine lv_aload_n hx hb dX4_lawOf_12 rfl (lv_at hl 0 rfl) ?_
  refine lv_iload_n hx hb dX4_lawOf_13 rfl (lv_at hl 1 rfl) ?_
  refine lv_iconst (v := 2) hx hb dX4_lawOf_14 (by decide) ?_
  refine lv_iadd hx hb dX4_lawOf_15 ?_
  obtain ⟨v16, h16, hF⟩ := bd hF
  refine cRe (va_runS (As := [.ref (a0 0), .int (x1 + 2)]) (rest := [.int 10, .int (100 * v6)]) ⟨hx, hb, hml, hown, hts⟩ (c_X4_digitAt l D cI cS a0 t0 (x1 + 2) v16 h16) (cwSA hts (TW.cons _) ls_X4_digitAt ml_RX4_32 ⟨rfl, rfl⟩ ⟨(Nat.le_of_ble_eq_true rfl), (Nat.le_of_ble_eq_true rfl)⟩) (pRS hK hP) rfl rfl hl.1 rfl (lv_room (Nat.le_of_ble_eq_true rfl)) dX4_lawOf_16 ⟨Nat.le_refl _, Nat.le_refl _⟩) ?_
  refine lv_imul hx hb dX4_lawOf_19 ?_
  refine lv_iadd hx hb dX4_lawOf_20 ?_
  refine lv_aload_n hx hb dX4_lawOf_21 rfl (lv_at hl 0 rfl) ?_
  refine lv_iload_n hx hb dX4_lawOf_22 rfl (lv_at hl 1 rfl) ?_
  refine lv_iconst (v := 3) hx hb dX4_lawOf_23 (by decide) ?_
  refine lv_iadd hx hb dX4_lawOf_24 ?_
  obtain ⟨v25, h25, hF⟩ := bd hF
  refine cRe (va_runS (As := [.ref (a0 0), .int (x1 + 3)]) (rest := [.int ((100 * v6) + (10 * v16))]) ⟨hx, hb, hml, hown, hts⟩ (c_X4_digitAt l D cI cS a0 t0 (x1 + 3) v25 h25) (cwSA hts (TW.cons _) ls_X4_digitAt ml_RX4_32 ⟨rfl, rfl⟩ ⟨(Nat.le_of_ble_eq_true rfl), (Nat.le_of_ble_eq_true rfl)⟩) (pRS hK hP) rfl rfl hl.1 rfl (lv_room (Nat.le_of_ble_eq_true rfl)) dX4_lawOf_25 ⟨Nat.le_refl _, Nat.le_refl _⟩) ?_
  refine lv_iadd hx hb dX4_lawOf_28 ?_
  exact W.iret hx hb hr (fun t ht hW => ⟨_, rfl, (Option.some.inj hF), ht⟩) (fun _ h => nomatch h) dX4_lawOf_29
noncomputable def F_X5_tells_J9 (x0 : Int32) : Option Int32 :=
  if x0 < 10 then
    some 0
  else
  if 16 ≤ x0 then
    some 0
  else
  some 1
noncomputable def F_X5_tells (x0 : Int32) : Option Int32 :=
  if x0 < 0 then
    F_X5_tells_J9 x0
  else
  if x0 ≤ 4 then
    some 1
  else
  F_X5_tells_J9 x0
abbrev rm_X5_tells : Room := { frames := 0, cells := 0, slots := 0, locals := 0 }
set_option maxHeartbeats 4000000 in
set_option maxRecDepth 100000 in
theorem c_X5_tells (l : Launch) (D : va_G) (cI cS : ClassId) (x0 : Int32) (r : Int32) (hF : F_X5_tells x0 = some r) : Met l yX5_tells (Cond.code yX5_tells cX5_tells 1 (some .boolean) :: ALL) rm_X5_tells (PreR D cI cS [.int x0] ([])) (vp_Si (fun x => x = r ∧ (x = 0 ∨ x = 1))) 0 0 (fun _ => False) := by
  refine mR l D cI cS (by decide) (Nat.le_of_ble_eq_true rfl) ?_
  intro p e s m below meth c ls hx hb hr hml hown hts hlocks hP hK hl
  have hown : s.vm.findClass RX5 = some m.cls := hown
  have hl : lv_has ls 1 [(0, .int x0)] := hl
  unfold F_X5_tells at hF
  refine lv_iload_n hx hb dX5_tells_0 rfl (lv_at hl 0 rfl) ?_
  have J9 : ∀ (ls : Array Slot), lv_has ls 1 [(0, .int x0)] → F_X5_tells_J9 x0  = some r → W p l e rm_X5_tells s m [.int x0].toArray below meth c s.heap [] 0 0 (MQ below (vp_Si (fun x => x = r ∧ (x = 0 ∨ x = 1))) [.int x0].toArray s 0 0 (fun _ => False)) (F0 m 9 ls []) := by
    intro ls hl hF
    unfold F_X5_tells_J9 at hF
    refine lv_iload_n hx hb dX5_tells_9 rfl (lv_at hl 0 rfl) ?_
    refine lv_bipush (v := 10) hx hb dX5_tells_10 (by decide) ?_
    refine lv_icmp_lt (tgt := 25) hx hb dX5_tells_12 (by decide) (fun c12 => ?_) (fun c12 => ?_)
    · replace hF := ip c12 hF
      refine lv_iconst (v := 0) hx hb dX5_tells_25 (by decide) ?_
      exact W.zret hx hb hr rfl (fun t ht hW => ⟨_, rfl, ⟨(Option.some.inj hF), Or.inl rfl⟩, ht⟩) (fun _ h => nomatch h) dX5_tells_26
    · replace hF := iq c12 hF
      refine lv_iload_n hx hb dX5_tells_15 rfl (lv_at hl 0 rfl) ?_
      refine lv_bipush (v := 16) hx hb dX5_tells_16 (by decide) ?_
      refine lv_icmp_ge (tgt := 25) hx hb dX5_tells_18 (by decide) (fun c18 => ?_) (fun c18 => ?_)
      · replace hF := ip c18 hF
        refine lv_iconst (v := 0) hx hb dX5_tells_25 (by decide) ?_
        exact W.zret hx hb hr rfl (fun t ht hW => ⟨_, rfl, ⟨(Option.some.inj hF), Or.inl rfl⟩, ht⟩) (fun _ h => nomatch h) dX5_tells_26
      · replace hF := iq c18 hF
        refine lv_iconst (v := 1) hx hb dX5_tells_21 (by decide) ?_
        refine lv_goto (tgt := 26) hx hb dX5_tells_22 (by decide) ?_
        exact W.zret hx hb hr rfl (fun t ht hW => ⟨_, rfl, ⟨(Option.some.inj hF), Or.inr rfl⟩, ht⟩) (fun _ h => nomatch h) dX5_tells_26
  refine lv_if_lt (tgt := 9) hx hb dX5_tells_1 (by decide) (fun c1 => ?_) (fun c1 => ?_)
  · replace hF := ip c1 hF
    exact J9  _ (lv_sub hl [0] rfl) hF
  · replace hF := iq c1 hF
    refine lv_iload_n hx hb dX5_tells_4 rfl (lv_at hl 0 rfl) ?_
    refine lv_iconst (v := 4) hx hb dX5_tells_5 (by decide) ?_
    refine lv_icmp_le (tgt := 21) hx hb dX5_tells_6 (by decide) (fun c6 => ?_) (fun c6 => ?_)
    · replace hF := ip c6 hF
      refine lv_iconst (v := 1) hx hb dX5_tells_21 (by decide) ?_
      refine lv_goto (tgt := 26) hx hb dX5_tells_22 (by decide) ?_
      exact W.zret hx hb hr rfl (fun t ht hW => ⟨_, rfl, ⟨(Option.some.inj hF), Or.inr rfl⟩, ht⟩) (fun _ h => nomatch h) dX5_tells_26
    · replace hF := iq c6 hF
      exact J9  _ (lv_sub hl [0] rfl) hF
noncomputable def F_X5_isStroke (x0 : Int32) : Option Int32 :=
  if x0 < 10 then
    some 0
  else
  if 16 ≤ x0 then
    some 0
  else
  some 1
abbrev rm_X5_isStroke : Room := { frames := 0, cells := 0, slots := 0, locals := 0 }
set_option maxHeartbeats 4000000 in
set_option maxRecDepth 100000 in
theorem c_X5_isStroke (l : Launch) (D : va_G) (cI cS : ClassId) (x0 : Int32) (r : Int32) (hF : F_X5_isStroke x0 = some r) : Met l yX5_isStroke (Cond.code yX5_isStroke cX5_isStroke 1 (some .boolean) :: ALL) rm_X5_isStroke (PreR D cI cS [.int x0] ([])) (vp_Si (fun x => x = r ∧ (x = 0 ∨ x = 1))) 0 0 (fun _ => False) := by
  refine mR l D cI cS (by decide) (Nat.le_of_ble_eq_true rfl) ?_
  intro p e s m below meth c ls hx hb hr hml hown hts hlocks hP hK hl
  have hown : s.vm.findClass RX5 = some m.cls := hown
  have hl : lv_has ls 1 [(0, .int x0)] := hl
  unfold F_X5_isStroke at hF
  refine lv_iload_n hx hb dX5_isStroke_0 rfl (lv_at hl 0 rfl) ?_
  refine lv_bipush (v := 10) hx hb dX5_isStroke_1 (by decide) ?_
  refine lv_icmp_lt (tgt := 16) hx hb dX5_isStroke_3 (by decide) (fun c3 => ?_) (fun c3 => ?_)
  · replace hF := ip c3 hF
    refine lv_iconst (v := 0) hx hb dX5_isStroke_16 (by decide) ?_
    exact W.zret hx hb hr rfl (fun t ht hW => ⟨_, rfl, ⟨(Option.some.inj hF), Or.inl rfl⟩, ht⟩) (fun _ h => nomatch h) dX5_isStroke_17
  · replace hF := iq c3 hF
    refine lv_iload_n hx hb dX5_isStroke_6 rfl (lv_at hl 0 rfl) ?_
    refine lv_bipush (v := 16) hx hb dX5_isStroke_7 (by decide) ?_
    refine lv_icmp_ge (tgt := 16) hx hb dX5_isStroke_9 (by decide) (fun c9 => ?_) (fun c9 => ?_)
    · replace hF := ip c9 hF
      refine lv_iconst (v := 0) hx hb dX5_isStroke_16 (by decide) ?_
      exact W.zret hx hb hr rfl (fun t ht hW => ⟨_, rfl, ⟨(Option.some.inj hF), Or.inl rfl⟩, ht⟩) (fun _ h => nomatch h) dX5_isStroke_17
    · replace hF := iq c9 hF
      refine lv_iconst (v := 1) hx hb dX5_isStroke_12 (by decide) ?_
      refine lv_goto (tgt := 17) hx hb dX5_isStroke_13 (by decide) ?_
      exact W.zret hx hb hr rfl (fun t ht hW => ⟨_, rfl, ⟨(Option.some.inj hF), Or.inr rfl⟩, ht⟩) (fun _ h => nomatch h) dX5_isStroke_17
noncomputable def F_X5_isAct_J9 (x0 : Int32) : Option Int32 :=
  (F_X5_isStroke x0).bind fun v10 =>
  if v10 = 0 then
    some 0
  else
  some 1
noncomputable def F_X5_isAct (x0 : Int32) : Option Int32 :=
  if x0 < 0 then
    F_X5_isAct_J9 x0
  else
  if x0 ≤ 2 then
    some 1
  else
  F_X5_isAct_J9 x0
abbrev rm_X5_isAct : Room := { frames := 1, cells := 0, slots := 0, locals := 20 }
set_option maxHeartbeats 4000000 in
set_option maxRecDepth 100000 in
theorem c_X5_isAct (l : Launch) (D : va_G) (cI cS : ClassId) (x0 : Int32) (r : Int32) (hF : F_X5_isAct x0 = some r) : Met l yX5_isAct (Cond.code yX5_isAct cX5_isAct 1 (some .boolean) :: ALL) rm_X5_isAct (PreR D cI cS [.int x0] ([])) (vp_Si (fun x => x = r ∧ (x = 0 ∨ x = 1))) 0 0 (fun _ => False) := by
  refine mR l D cI cS (by decide) (Nat.le_of_ble_eq_true rfl) ?_
  intro p e s m below meth c ls hx hb hr hml hown hts hlocks hP hK hl
  have hown : s.vm.findClass RX5 = some m.cls := hown
  have hl : lv_has ls 1 [(0, .int x0)] := hl
  unfold F_X5_isAct at hF
  refine lv_iload_n hx hb dX5_isAct_0 rfl (lv_at hl 0 rfl) ?_
  have J9 : ∀ (ls : Array Slot), lv_has ls 1 [(0, .int x0)] → F_X5_isAct_J9 x0  = some r → W p l e rm_X5_isAct s m [.int x0].toArray below meth c s.heap [] 0 0 (MQ below (vp_Si (fun x => x = r ∧ (x = 0 ∨ x = 1))) [.int x0].toArray s 0 0 (fun _ => False)) (F0 m 9 ls []) := by
    intro ls hl hF
    unfold F_X5_isAct_J9 at hF
    refine lv_iload_n hx hb dX5_isAct_9 rfl (lv_at hl 0 rfl) ?_
    obtain ⟨v10, h10, hF⟩ := bd hF
    refine cRb (va_runS (As := [.int x0]) (rest := []) ⟨hx, hb, hml, hown, hts⟩ (c_X5_isStroke l D cI cS x0 v10 h10) (cwSA hts (TW.cons _) ls_X5_isStroke ml_RX5_31 ⟨rfl, rfl⟩ ⟨(Nat.le_of_ble_eq_true rfl), (Nat.le_of_ble_eq_true rfl)⟩) (pRS hK pnil) rfl rfl hl.1 rfl (lv_room (Nat.le_of_ble_eq_true rfl)) dX5_isAct_10 ⟨Nat.le_refl _, Nat.le_refl _⟩) (fun b10 => ?_)
    refine lv_if_eq (tgt := 20) hx hb dX5_isAct_13 (by decide) (fun c13 => ?_) (fun c13 => ?_)
    · replace hF := ip c13 hF
      refine lv_iconst (v := 0) hx hb dX5_isAct_20 (by decide) ?_
      exact W.zret hx hb hr rfl (fun t ht hW => ⟨_, rfl, ⟨(Option.some.inj hF), Or.inl rfl⟩, ht⟩) (fun _ h => nomatch h) dX5_isAct_21
    · replace hF := iq c13 hF
      refine lv_iconst (v := 1) hx hb dX5_isAct_16 (by decide) ?_
      refine lv_goto (tgt := 21) hx hb dX5_isAct_17 (by decide) ?_
      exact W.zret hx hb hr rfl (fun t ht hW => ⟨_, rfl, ⟨(Option.some.inj hF), Or.inr rfl⟩, ht⟩) (fun _ h => nomatch h) dX5_isAct_21
  refine lv_if_lt (tgt := 9) hx hb dX5_isAct_1 (by decide) (fun c1 => ?_) (fun c1 => ?_)
  · replace hF := ip c1 hF
    exact J9  _ (lv_sub hl [0] rfl) hF
  · replace hF := iq c1 hF
    refine lv_iload_n hx hb dX5_isAct_4 rfl (lv_at hl 0 rfl) ?_
    refine lv_iconst (v := 2) hx hb dX5_isAct_5 (by decide) ?_
    refine lv_icmp_le (tgt := 16) hx hb dX5_isAct_6 (by decide) (fun c6 => ?_) (fun c6 => ?_)
    · replace hF := ip c6 hF
      refine lv_iconst (v := 1) hx hb dX5_isAct_16 (by decide) ?_
      refine lv_goto (tgt := 21) hx hb dX5_isAct_17 (by decide) ?_
      exact W.zret hx hb hr rfl (fun t ht hW => ⟨_, rfl, ⟨(Option.some.inj hF), Or.inr rfl⟩, ht⟩) (fun _ h => nomatch h) dX5_isAct_21
    · replace hF := iq c6 hF
      exact J9  _ (lv_sub hl [0] rfl) hF
noncomputable def F_X5_refusalOfPairs_J63 (t0 : ST) (t1 : ST) (x2 : Int32) (x3 : Int32) (g k : Int32 → Option Int32) (x4 : Int32) (x5 : Int32) (x6 : Int32) : Option Int32 :=
  if x6 = 0 then
    g (x4 + 1)
  else
  (F_X0_has t0 x5).bind fun v71 =>
  if v71 = 0 then
    some (-1)
  else
  g (x4 + 1)
noncomputable def F_X5_refusalOfPairs_L3 (t0 : ST) (t1 : ST) (x2 : Int32) (x3 : Int32) (k : Int32 → Option Int32) : Nat → Int32 → Option Int32
  | 0, _ => none
  | n + 1, x4 =>
    if x3 ≤ x4 then
      k x4
    else
    (F_X3_at t1 (x2 + (2 * x4))).bind fun v16 =>
    (F_X3_at t1 ((x2 + (2 * x4)) + 1)).bind fun v30 =>
    (F_X5_isAct v30).bind fun v37 =>
    if v37 = 0 then
      some (-2)
    else
    if v30 = 0 then
      if v16 < 0 then
        some (-2)
      else
      if v16 ≤ 99 then
        F_X5_refusalOfPairs_J63 t0 t1 x2 x3 (F_X5_refusalOfPairs_L3 t0 t1 x2 x3 k n) k x4 v16 v30
      else
      some (-2)
    else
    F_X5_refusalOfPairs_J63 t0 t1 x2 x3 (F_X5_refusalOfPairs_L3 t0 t1 x2 x3 k n) k x4 v16 v30
noncomputable def F_X5_refusalOfPairs_J85 (t0 : ST) (t1 : ST) (x2 : Int32) (x3 : Int32) : Option Int32 :=
  some 0
noncomputable def F_X5_refusalOfPairs (t0 : ST) (t1 : ST) (x2 : Int32) (x3 : Int32) : Option Int32 :=
  F_X5_refusalOfPairs_L3 t0 t1 x2 x3 (fun x4_k3 => F_X5_refusalOfPairs_J85 t0 t1 x2 x3) 1000 0
abbrev rm_X5_refusalOfPairs : Room := { frames := 2, cells := 0, slots := 0, locals := 40 }
set_option maxHeartbeats 4000000 in
set_option maxRecDepth 100000 in
theorem c_X5_refusalOfPairs (l : Launch) (D : va_G) (cI cS : ClassId) (a0 : Nat → Nat) (a1 : Nat → Nat) (t0 : ST) (t1 : ST) (x2 : Int32) (x3 : Int32) (r : Int32) (hF : F_X5_refusalOfPairs t0 t1 x2 x3 = some r) : Met l yX5_refusalOfPairs (Cond.code yX5_refusalOfPairs cX5_refusalOfPairs 7 (some .int) :: ALL) rm_X5_refusalOfPairs (PreR D cI cS [.ref (a0 0), .ref (a1 0), .int x2, .int x3] (pB cI cS a0 t0 ++ (pS cI cS a1 t1))) (vp_Si (fun x => x = r)) 0 0 (fun _ => False) := by
  refine mR l D cI cS (by decide) (Nat.le_of_ble_eq_true rfl) ?_
  intro p e s m below meth c ls hx hb hr hml hown hts hlocks hP hK hl
  have hown : s.vm.findClass RX5 = some m.cls := hown
  have hl : lv_has ls 7 [(0, .ref (a0 0)), (1, .ref (a1 0)), (2, .int x2), (3, .int x3)] := hl
  unfold F_X5_refusalOfPairs at hF
  refine lv_iconst (v := 0) hx hb dX5_refusalOfPairs_0 (by decide) ?_
  refine lv_istore (lv' := [(4, .int 0), (0, .ref (a0 0)), (1, .ref (a1 0)), (2, .int x2), (3, .int x3)]) hx hb dX5_refusalOfPairs_1 hl (by decide) rfl (fun ls hl => ?_)
  have L3 : ∀ (n_3 : Nat) (x4_3 : Int32) (ls : Array Slot), lv_has ls 7 [(0, .ref (a0 0)), (1, .ref (a1 0)), (2, .int x2), (3, .int x3), (4, .int x4_3)] → F_X5_refusalOfPairs_L3 t0 t1 x2 x3 (fun x4_k3 => F_X5_refusalOfPairs_J85 t0 t1 x2 x3) n_3 x4_3 = some r → W p l e rm_X5_refusalOfPairs s m [.ref (a0 0), .ref (a1 0), .int x2, .int x3].toArray below meth c s.heap [] 0 0 (MQ below (vp_Si (fun x => x = r)) [.ref (a0 0), .ref (a1 0), .int x2, .int x3].toArray s 0 0 (fun _ => False)) (F0 m 3 ls []) := by
    intro n_3
    induction n_3 with
    | zero => intro x4_3 ls hl hF; exact nomatch hF
    | succ n_3 ih3 =>
      intro x4_3 ls hl hF
      rw [F_X5_refusalOfPairs_L3.eq_2] at hF
      refine lv_iload hx hb dX5_refusalOfPairs_3 (lv_at hl 4 rfl) ?_
      refine lv_iload_n hx hb dX5_refusalOfPairs_5 rfl (lv_at hl 3 rfl) ?_
      refine lv_icmp_ge (tgt := 85) hx hb dX5_refusalOfPairs_6 (by decide) (fun c6 => ?_) (fun c6 => ?_)
      · replace hF := ip c6 hF
        have hF : F_X5_refusalOfPairs_J85 t0 t1 x2 x3 = some r := hF
        unfold F_X5_refusalOfPairs_J85 at hF
        refine lv_iconst (v := 0) hx hb dX5_refusalOfPairs_85 (by decide) ?_
        exact W.iret hx hb hr (fun t ht hW => ⟨_, rfl, (Option.some.inj hF), ht⟩) (fun _ h => nomatch h) dX5_refusalOfPairs_86
      · replace hF := iq c6 hF
        refine lv_aload_n hx hb dX5_refusalOfPairs_9 rfl (lv_at hl 1 rfl) ?_
        refine lv_iload_n hx hb dX5_refusalOfPairs_10 rfl (lv_at hl 2 rfl) ?_
        refine lv_iconst (v := 2) hx hb dX5_refusalOfPairs_11 (by decide) ?_
        refine lv_iload hx hb dX5_refusalOfPairs_12 (lv_at hl 4 rfl) ?_
        refine lv_imul hx hb dX5_refusalOfPairs_14 ?_
        refine lv_iadd hx hb dX5_refusalOfPairs_15 ?_
        obtain ⟨v16, h16, hF⟩ := bd hF
        refine cRe (va_runV (As := [.int (x2 + (2 * x4_3))]) (rest := []) ⟨hx, hb, hml, hown, hts⟩ (c_X3_at l D cI cS a1 t1 (x2 + (2 * x4_3)) v16 h16) (cwVA hts (TW.cons _) lv_X3_at ml_RX5_18 ⟨rfl, rfl⟩ ⟨(Nat.le_of_ble_eq_true rfl), (Nat.le_of_ble_eq_true rfl)⟩) (pRV hK (hP.sub (ws' := pS cI cS a1 t1) [4, 5] rfl) (ci := 3) rfl rfl) rfl rfl hl.1 rfl (lv_room (Nat.le_of_ble_eq_true rfl)) dX5_refusalOfPairs_16 ⟨Nat.le_refl _, Nat.le_refl _⟩) ?_
        refine lv_istore (lv' := [(5, .int v16), (0, .ref (a0 0)), (1, .ref (a1 0)), (2, .int x2), (3, .int x3), (4, .int x4_3)]) hx hb dX5_refusalOfPairs_19 hl (by decide) rfl (fun ls hl => ?_)
        refine lv_aload_n hx hb dX5_refusalOfPairs_21 rfl (lv_at hl 2 rfl) ?_
        refine lv_iload_n hx hb dX5_refusalOfPairs_22 rfl (lv_at hl 3 rfl) ?_
        refine lv_iconst (v := 2) hx hb dX5_refusalOfPairs_23 (by decide) ?_
        refine lv_iload hx hb dX5_refusalOfPairs_24 (lv_at hl 5 rfl) ?_
        refine lv_imul hx hb dX5_refusalOfPairs_26 ?_
        refine lv_iadd hx hb dX5_refusalOfPairs_27 ?_
        refine lv_iconst (v := 1) hx hb dX5_refusalOfPairs_28 (by decide) ?_
        refine lv_iadd hx hb dX5_refusalOfPairs_29 ?_
        obtain ⟨v30, h30, hF⟩ := bd hF
        refine cRe (va_runV (As := [.int ((x2 + (2 * x4_3)) + 1)]) (rest := []) ⟨hx, hb, hml, hown, hts⟩ (c_X3_at l D cI cS a1 t1 ((x2 + (2 * x4_3)) + 1) v30 h30) (cwVA hts (TW.cons _) lv_X3_at ml_RX5_18 ⟨rfl, rfl⟩ ⟨(Nat.le_of_ble_eq_true rfl), (Nat.le_of_ble_eq_true rfl)⟩) (pRV hK (hP.sub (ws' := pS cI cS a1 t1) [4, 5] rfl) (ci := 3) rfl rfl) rfl rfl hl.1 rfl (lv_room (Nat.le_of_ble_eq_true rfl)) dX5_refusalOfPairs_30 ⟨Nat.le_refl _, Nat.le_refl _⟩) ?_
        refine lv_istore (lv' := [(6, .int v30), (5, .int v16), (0, .ref (a0 0)), (1, .ref (a1 0)), (2, .int x2), (3, .int x3), (4, .int x4_3)]) hx hb dX5_refusalOfPairs_33 hl (by decide) rfl (fun ls hl => ?_)
        refine lv_iload hx hb dX5_refusalOfPairs_35 (lv_at hl 0 rfl) ?_
        obtain ⟨v37, h37, hF⟩ := bd hF
        refine cRb (va_runS (As := [.int v30]) (rest := []) ⟨hx, hb, hml, hown, hts⟩ (c_X5_isAct l D cI cS v30 v37 h37) (cwSA hts (TW.cons _) ls_X5_isAct ml_RX5_24 ⟨rfl, rfl⟩ ⟨(Nat.le_of_ble_eq_true rfl), (Nat.le_of_ble_eq_true rfl)⟩) (pRS hK pnil) rfl rfl hl.1 rfl (lv_room (Nat.le_of_ble_eq_true rfl)) dX5_refusalOfPairs_37 ⟨Nat.le_refl _, Nat.le_refl _⟩) (fun b37 => ?_)
        refine lv_if_eq (tgt := 60) hx hb dX5_refusalOfPairs_40 (by decide) (fun c40 => ?_) (fun c40 => ?_)
        · replace hF := ip c40 hF
          refine lv_bipush (v := (-2)) hx hb dX5_refusalOfPairs_60 (by decide) ?_
          exact W.iret hx hb hr (fun t ht hW => ⟨_, rfl, (Option.some.inj hF), ht⟩) (fun _ h => nomatch h) dX5_refusalOfPairs_62
        · replace hF := iq c40 hF
          refine lv_iload hx hb dX5_refusalOfPairs_43 (lv_at hl 0 rfl) ?_
          have J63 : ∀ (x4_63 : Int32) (x5_63 : Int32) (x6_63 : Int32) (ls : Array Slot), lv_has ls 7 [(0, .ref (a0 0)), (1, .ref (a1 0)), (2, .int x2), (3, .int x3), (4, .int x4_63), (5, .int x5_63), (6, .int x6_63)] → F_X5_refusalOfPairs_J63 t0 t1 x2 x3 (F_X5_refusalOfPairs_L3 t0 t1 x2 x3 (fun x4_k3 => F_X5_refusalOfPairs_J85 t0 t1 x2 x3) n_3) (fun x4_k3 => F_X5_refusalOfPairs_J85 t0 t1 x2 x3) x4_63 x5_63 x6_63 = some r → W p l e rm_X5_refusalOfPairs s m [.ref (a0 0), .ref (a1 0), .int x2, .int x3].toArray below meth c s.heap [] 0 0 (MQ below (vp_Si (fun x => x = r)) [.ref (a0 0), .ref (a1 0), .int x2, .int x3].toArray s 0 0 (fun _ => False)) (F0 m 63 ls []) := by
            intro x4_63 x5_63 x6_63 ls hl hF
            unfold F_X5_refusalOfPairs_J63 at hF
            refine lv_iload hx hb dX5_refusalOfPairs_63 (lv_at hl 6 rfl) ?_
            refine lv_if_eq (tgt := 79) hx hb dX5_refusalOfPairs_65 (by decide) (fun c65 => ?_) (fun c65 => ?_)
            · replace hF := ip c65 hF
              refine lv_iinc (v := (x4_63 + 1)) (lv' := [(4, .int (x4_63 + 1)), (0, .ref (a0 0)), (1, .ref (a1 0)), (2, .int x2), (3, .int x3), (5, .int x5_63), (6, .int x6_63)]) hx hb dX5_refusalOfPairs_79 hl (k := 4) rfl rfl (by decide) rfl (fun ls hl => ?_)
              refine lv_goto (tgt := 3) hx hb dX5_refusalOfPairs_82 (by decide) ?_
              exact ih3 (x4_63 + 1) _ (lv_sub hl [1, 2, 3, 4, 0] rfl) hF
            · replace hF := iq c65 hF
              refine lv_aload_n hx hb dX5_refusalOfPairs_68 rfl (lv_at hl 0 rfl) ?_
              refine lv_iload hx hb dX5_refusalOfPairs_69 (lv_at hl 5 rfl) ?_
              obtain ⟨v71, h71, hF⟩ := bd hF
              refine cRb (va_runV (As := [.int x5_63]) (rest := []) ⟨hx, hb, hml, hown, hts⟩ (c_X0_has l D cI cS a0 t0 x5_63 v71 h71) (cwVA hts (TW.cons _) lv_X0_has ml_RX5_28 ⟨rfl, rfl⟩ ⟨(Nat.le_of_ble_eq_true rfl), (Nat.le_of_ble_eq_true rfl)⟩) (pRV hK (hP.sub (ws' := pB cI cS a0 t0) [0, 1, 2, 3] rfl) (ci := 0) rfl rfl) rfl rfl hl.1 rfl (lv_room (Nat.le_of_ble_eq_true rfl)) dX5_refusalOfPairs_71 ⟨Nat.le_refl _, Nat.le_refl _⟩) (fun b71 => ?_)
              refine lv_if_ne (tgt := 79) hx hb dX5_refusalOfPairs_74 (by decide) (fun c74 => ?_) (fun c74 => ?_)
              · replace hF := iq c74 hF
                refine lv_iinc (v := (x4_63 + 1)) (lv' := [(4, .int (x4_63 + 1)), (0, .ref (a0 0)), (1, .ref (a1 0)), (2, .int x2), (3, .int x3), (5, .int x5_63), (6, .int x6_63)]) hx hb dX5_refusalOfPairs_79 hl (k := 4) rfl rfl (by decide) rfl (fun ls hl => ?_)
                refine lv_goto (tgt := 3) hx hb dX5_refusalOfPairs_82 (by decide) ?_
                exact ih3 (x4_63 + 1) _ (lv_sub hl [1, 2, 3, 4, 0] rfl) hF
              · replace hF := ip c74 hF
                refine lv_iconst (v := (-1)) hx hb dX5_refusalOfPairs_77 (by decide) ?_
                exact W.iret hx hb hr (fun t ht hW => ⟨_, rfl, (Option.some.inj hF), ht⟩) (fun _ h => nomatch h) dX5_refusalOfPairs_78
          refine lv_if_ne (tgt := 63) hx hb dX5_refusalOfPairs_45 (by decide) (fun c45 => ?_) (fun c45 => ?_)
          · replace hF := iq c45 hF
            exact J63 x4_3 v16 v30 _ (lv_sub hl [2, 3, 4, 5, 6, 1, 0] rfl) hF
          · replace hF := ip c45 hF
            refine lv_iload hx hb dX5_refusalOfPairs_48 (lv_at hl 1 rfl) ?_
            refine lv_if_lt (tgt := 60) hx hb dX5_refusalOfPairs_50 (by decide) (fun c50 => ?_) (fun c50 => ?_)
            · replace hF := ip c50 hF
              refine lv_bipush (v := (-2)) hx hb dX5_refusalOfPairs_60 (by decide) ?_
              exact W.iret hx hb hr (fun t ht hW => ⟨_, rfl, (Option.some.inj hF), ht⟩) (fun _ h => nomatch h) dX5_refusalOfPairs_62
            · replace hF := iq c50 hF
              refine lv_iload hx hb dX5_refusalOfPairs_53 (lv_at hl 1 rfl) ?_
              refine lv_bipush (v := 99) hx hb dX5_refusalOfPairs_55 (by decide) ?_
              refine lv_icmp_le (tgt := 63) hx hb dX5_refusalOfPairs_57 (by decide) (fun c57 => ?_) (fun c57 => ?_)
              · replace hF := ip c57 hF
                exact J63 x4_3 v16 v30 _ (lv_sub hl [2, 3, 4, 5, 6, 1, 0] rfl) hF
              · replace hF := iq c57 hF
                refine lv_bipush (v := (-2)) hx hb dX5_refusalOfPairs_60 (by decide) ?_
                exact W.iret hx hb hr (fun t ht hW => ⟨_, rfl, (Option.some.inj hF), ht⟩) (fun _ h => nomatch h) dX5_refusalOfPairs_62
  exact L3 1000 0 _ (lv_sub hl [1, 2, 3, 4, 0] rfl) hF
noncomputable def F_X5_letGo_L2 (t1 : ST) (x2 : Int32) (k : Int32 → ST → Option ST) : Nat → Int32 → ST → Option ST
  | 0, _, _ => none
  | n + 1, x3, s0 =>
    if x2 ≤ x3 then
      k x3 s0
    else
    (F_X0_goOn (sb s0 1) t1).bind fun u12 =>
    (F_X0_twoAreAlike (sb (gr s0 1 4 u12) 1)).bind fun v19 =>
    if v19 = 0 then
      (F_X5_letGo_L2 t1 x2 k n) (x3 + 1) (gr s0 1 4 u12)
    else
    (F_X5_letGo_L2 t1 x2 k n) (x3 + 1) (st (gr s0 1 4 u12) 0 2 ((s0 0 2) + 1))
noncomputable def F_X5_letGo_J41 (t1 : ST) (x2 : Int32) (s0 : ST) : Option ST :=
  some s0
noncomputable def F_X5_letGo (t0 : ST) (t1 : ST) (x2 : Int32) : Option ST :=
  F_X5_letGo_L2 t1 x2 (fun x3_k2 s0_k2 => F_X5_letGo_J41 t1 x2 s0_k2) 1000 0 t0
abbrev rm_X5_letGo : Room := { frames := 3, cells := 0, slots := 0, locals := 64 }
set_option maxHeartbeats 4000000 in
set_option maxRecDepth 100000 in
theorem c_X5_letGo (l : Launch) (D : va_G) (cI cS : ClassId) (a0 : Nat → Nat) (a1 : Nat → Nat) (t0 : ST) (t1 : ST) (x2 : Int32) (t' : ST) (hF : F_X5_letGo t0 t1 x2 = some t') : Met l yX5_letGo (Cond.code yX5_letGo cX5_letGo 4 none :: ALL) rm_X5_letGo (PreW D cI cS [.ref (a0 0), .ref (a1 0), .int x2] (pY cI cS a0 t0 ++ (pL cI cS a1 t1))) (va_Qv (fun (_ : Unit) => True) (fun _ t => va_P D vwCl (pY cI cS a0 t' ++ (pL cI cS a1 t1)) t.heap) (AD (pY cI cS a0 t0 ++ (pL cI cS a1 t1)))) 0 0 (AD (pY cI cS a0 t0 ++ (pL cI cS a1 t1))) := by
  refine mW l D cI cS (by decide) (Nat.le_of_ble_eq_true rfl) ?_
  intro p e s m below meth c ls hx hb hr hml hown hts hlocks hP hK hD hS hl
  have hown : s.vm.findClass RX5 = some m.cls := hown
  have hl : lv_has ls 4 [(0, .ref (a0 0)), (1, .ref (a1 0)), (2, .int x2)] := hl
  unfold F_X5_letGo at hF
  refine lv_iconst (v := 0) hx hb dX5_letGo_0 (by decide) ?_
  refine lv_istore_n (lv' := [(3, .int 0), (0, .ref (a0 0)), (1, .ref (a1 0)), (2, .int x2)]) hx hb dX5_letGo_1 rfl hl (by decide) rfl (fun ls hl => ?_)
  have L2 : ∀ (n_2 : Nat) (x3_2 : Int32) (s0_2 : ST) (H : Heap) (locs : List Loc) (ls : Array Slot), va_P D vwCl (pY cI cS a0 s0_2 ++ (pL cI cS a1 t1)) H → va_D (AD (pY cI cS a0 t0 ++ (pL cI cS a1 t1))) (pY cI cS a0 s0_2 ++ (pL cI cS a1 t1)) → va_S (AD (pY cI cS a0 t0 ++ (pL cI cS a1 t1))) s.heap H locs → lv_has ls 4 [(0, .ref (a0 0)), (1, .ref (a1 0)), (2, .int x2), (3, .int x3_2)] → F_X5_letGo_L2 t1 x2 (fun x3_k2 s0_k2 => F_X5_letGo_J41 t1 x2 s0_k2) n_2 x3_2 s0_2 = some t' → W p l e rm_X5_letGo s m [.ref (a0 0), .ref (a1 0), .int x2].toArray below meth c H locs 0 0 (MQ below (va_Qv (fun (_ : Unit) => True) (fun _ t => va_P D vwCl (pY cI cS a0 t' ++ (pL cI cS a1 t1)) t.heap) (AD (pY cI cS a0 t0 ++ (pL cI cS a1 t1)))) [.ref (a0 0), .ref (a1 0), .int x2].toArray s 0 0 (AD (pY cI cS a0 t0 ++ (pL cI cS a1 t1)))) (F0 m 2 ls []) := by
    intro n_2
    induction n_2 with
    | zero => intro x3_2 s0_2 H locs ls hP hD hS hl hF; exact nomatch hF
    | succ n_2 ih2 =>
      intro x3_2 s0_2 H locs ls hP hD hS hl hF
      rw [F_X5_letGo_L2.eq_2] at hF
      refine lv_iload_n hx hb dX5_letGo_2 rfl (lv_at hl 3 rfl) ?_
      refine lv_iload_n hx hb dX5_letGo_3 rfl (lv_at hl 2 rfl) ?_
      refine lv_icmp_ge (tgt := 41) hx hb dX5_letGo_4 (by decide) (fun c4 => ?_) (fun c4 => ?_)
      · replace hF := ip c4 hF
        have hF : F_X5_letGo_J41 t1 x2 s0_2 = some t' := hF
        unfold F_X5_letGo_J41 at hF
        exact W.vret hx hb hr (fun t ht hW => ⟨⟨(), rfl, trivial, by show va_P _ _ _ t.heap; rw [ht, ← (Option.some.inj hF)]; exact hP⟩, hS.F ht⟩) hS.2.2 dX5_letGo_41
      · replace hF := iq c4 hF
        refine lv_aload_n hx hb dX5_letGo_7 rfl (lv_at hl 0 rfl) ?_
        refine va_get (D := D) (ci := 4) (v := .ref (a0 1)) (C := RX5) (T := TX5) (N := 4) hx hb hts (fun w h => List.mem_cons_of_mem _ (inAX5 w h)) hown hK.1 hP 0 rfl rfl 0 (by decide) (hts _ (List.mem_cons_of_mem _ fl_RX5_12)) (fun _ h9 => h9) rfl dX5_letGo_8 ?_
        refine lv_aload_n hx hb dX5_letGo_11 rfl (lv_at hl 1 rfl) ?_
        obtain ⟨u12, h12, hF⟩ := bd hF
        refine cWv (ws' := pY cI cS a0 (gr s0_2 1 4 u12) ++ (pL cI cS a1 t1)) (va_runV (As := [.ref (a1 0)]) (rest := []) ⟨hx, hb, hml, hown, hts⟩ (c_X0_goOn l D cI cS (sa a0 1) a1 (sb s0_2 1) t1 u12 h12) (cwVA hts (TW.cons _) lv_X0_goOn ml_RX5_59 ⟨rfl, rfl⟩ ⟨(Nat.le_of_ble_eq_true rfl), (Nat.le_of_ble_eq_true rfl)⟩) (pWV hK (hP.sub (ws' := pB cI cS (sa a0 1) (sb s0_2 1) ++ (pL cI cS a1 t1)) [1, 2, 3, 4, 5, 6] rfl) (hD.sub (ws' := pB cI cS (sa a0 1) (sb s0_2 1) ++ (pL cI cS a1 t1)) [1, 2, 3, 4, 5, 6] (by decide) rfl) (ci := 0) rfl rfl) rfl rfl hl.1 rfl (lv_room (Nat.le_of_ble_eq_true rfl)) dX5_letGo_12 ⟨Nat.le_refl _, Nat.le_refl _⟩) hP hD hS [1, 2, 3, 4, 5, 6] rfl [.inl 0, .inr 0, .inr 1, .inr 2, .inr 3, .inr 4, .inr 5] rfl rfl rfl (fun H locs hP hD hS => ?_)
        refine lv_aload_n hx hb dX5_letGo_15 rfl (lv_at hl 0 rfl) ?_
        refine va_get (D := D) (ci := 4) (v := .ref (a0 1)) (C := RX5) (T := TX5) (N := 4) hx hb hts (fun w h => List.mem_cons_of_mem _ (inAX5 w h)) hown hK.1 hP 0 rfl rfl 0 (by decide) (hts _ (List.mem_cons_of_mem _ fl_RX5_12)) (fun _ h9 => h9) rfl dX5_letGo_16 ?_
        obtain ⟨v19, h19, hF⟩ := bd hF
        refine cRb (va_runV (As := []) (rest := []) ⟨hx, hb, hml, hown, hts⟩ (c_X0_twoAreAlike l D cI cS (sa a0 1) (sb (gr s0_2 1 4 u12) 1) v19 h19) (cwVA hts (TW.cons _) lv_X0_twoAreAlike ml_RX5_63 ⟨rfl, rfl⟩ ⟨(Nat.le_of_ble_eq_true rfl), (Nat.le_of_ble_eq_true rfl)⟩) (pRV hK (hP.sub (ws' := pB cI cS (sa a0 1) (sb (gr s0_2 1 4 u12) 1)) [1, 2, 3, 4] rfl) (ci := 0) rfl rfl) rfl rfl hl.1 rfl (lv_room (Nat.le_of_ble_eq_true rfl)) dX5_letGo_19 ⟨Nat.le_refl _, Nat.le_refl _⟩) (fun b19 => ?_)
        refine lv_if_eq (tgt := 35) hx hb dX5_letGo_22 (by decide) (fun c22 => ?_) (fun c22 => ?_)
        · replace hF := ip c22 hF
          refine lv_iinc (v := (x3_2 + 1)) (lv' := [(3, .int (x3_2 + 1)), (0, .ref (a0 0)), (1, .ref (a1 0)), (2, .int x2)]) hx hb dX5_letGo_35 hl (k := 3) rfl rfl (by decide) rfl (fun ls hl => ?_)
          refine lv_goto (tgt := 2) hx hb dX5_letGo_38 (by decide) ?_
          exact ih2 (x3_2 + 1) (gr s0_2 1 4 u12) _ _ _ hP hD hS (lv_sub hl [1, 2, 3, 0] rfl) hF
        · replace hF := iq c22 hF
          refine lv_aload_n hx hb dX5_letGo_25 rfl (lv_at hl 0 rfl) ?_
          refine lv_dup hx hb dX5_letGo_26 rfl ?_
          refine va_get (D := D) (ci := 4) (v := .int (s0_2 0 2)) (C := RX5) (T := TX5) (N := 4) hx hb hts (fun w h => List.mem_cons_of_mem _ (inAX5 w h)) hown hK.1 hP 0 rfl rfl 3 (by decide) (hts _ (List.mem_cons_of_mem _ fl_RX5_48)) (fun _ h9 => h9) rfl dX5_letGo_27 ?_
          refine lv_iconst (v := 1) hx hb dX5_letGo_30 (by decide) ?_
          refine lv_iadd hx hb dX5_letGo_31 ?_
          refine wF (ws' := pY cI cS a0 (st (gr s0_2 1 4 u12) 0 2 ((s0_2 0 2) + 1)) ++ (pL cI cS a1 t1)) (C := RX5) (T := TX5) (N := 4) hx hb hts (fun w h => List.mem_cons_of_mem _ (inAX5 w h)) tyX5 tyX5_ok nmX5 hown hK.1 hP hD hS 0 rfl rfl 3 (by decide) (hts _ (List.mem_cons_of_mem _ fl_RX5_48)) rfl (tyX5_ok 3 (by decide)) rfl rfl (Nat.le_of_ble_eq_true rfl) rfl dX5_letGo_32 (fun H locs hP hD hS => ?_)
          refine lv_iinc (v := (x3_2 + 1)) (lv' := [(3, .int (x3_2 + 1)), (0, .ref (a0 0)), (1, .ref (a1 0)), (2, .int x2)]) hx hb dX5_letGo_35 hl (k := 3) rfl rfl (by decide) rfl (fun ls hl => ?_)
          refine lv_goto (tgt := 2) hx hb dX5_letGo_38 (by decide) ?_
          exact ih2 (x3_2 + 1) (st (gr s0_2 1 4 u12) 0 2 ((s0_2 0 2) + 1)) _ _ _ hP hD hS (lv_sub hl [1, 2, 3, 0] rfl) hF
  exact L2 1000 0 t0 _ _ _ hP hD hS (lv_sub hl [1, 2, 3, 0] rfl) hF
noncomputable def F_X5_tryAct (t0 : ST) (x1 : Int32) (x2 : Int32) : Option (Int32 × ST) :=
  (F_X0_has (sb t0 1) x1).bind fun v5 =>
  if v5 = 0 then
    some (0, t0)
  else
  if x2 = 1 then
    b2 (F_X0_lookAt (sb t0 1) x1) fun v23 u23 =>
    some (v23, (gr t0 1 4 u23))
  else
  if x2 = 2 then
    b2 (F_X0_lookAwayFrom (sb t0 1) x1) fun v37 u37 =>
    some (v37, (gr t0 1 4 u37))
  else
  (F_X0_strikeAt (sb t0 1) x1 (x2 - 10)).bind fun u50 =>
  some (1, (gr t0 1 4 u50))
abbrev rm_X5_tryAct : Room := { frames := 2, cells := 0, slots := 0, locals := 43 }
set_option maxHeartbeats 4000000 in
set_option maxRecDepth 100000 in
theorem c_X5_tryAct (l : Launch) (D : va_G) (cI cS : ClassId) (a0 : Nat → Nat) (t0 : ST) (x1 : Int32) (x2 : Int32) (r : Int32) (t' : ST) (hF : F_X5_tryAct t0 x1 x2 = some (r, t')) : Met l yX5_tryAct (Cond.code yX5_tryAct cX5_tryAct 3 (some .boolean) :: ALL) rm_X5_tryAct (PreW D cI cS [.ref (a0 0), .int x1, .int x2] (pY cI cS a0 t0)) (va_Qi (fun x (_ : Unit) => x = r ∧ (x = 0 ∨ x = 1)) (fun _ t => va_P D vwCl (pY cI cS a0 t') t.heap) (AD (pY cI cS a0 t0))) 0 0 (AD (pY cI cS a0 t0)) := by
  refine mW l D cI cS (by decide) (Nat.le_of_ble_eq_true rfl) ?_
  intro p e s m below meth c ls hx hb hr hml hown hts hlocks hP hK hD hS hl
  have hown : s.vm.findClass RX5 = some m.cls := hown
  have hl : lv_has ls 3 [(0, .ref (a0 0)), (1, .int x1), (2, .int x2)] := hl
  unfold F_X5_tryAct at hF
  refine lv_aload_n hx hb dX5_tryAct_0 rfl (lv_at hl 0 rfl) ?_
  refine va_get (D := D) (ci := 4) (v := .ref (a0 1)) (C := RX5) (T := TX5) (N := 4) hx hb hts (fun w h => List.mem_cons_of_mem _ (inAX5 w h)) hown hK.1 hP 0 rfl rfl 0 (by decide) (hts _ (List.mem_cons_of_mem _ fl_RX5_12)) (fun _ h9 => h9) rfl dX5_tryAct_1 ?_
  refine lv_iload_n hx hb dX5_tryAct_4 rfl (lv_at hl 1 rfl) ?_
  obtain ⟨v5, h5, hF⟩ := bd hF
  refine cRb (va_runV (As := [.int x1]) (rest := []) ⟨hx, hb, hml, hown, hts⟩ (c_X0_has l D cI cS (sa a0 1) (sb t0 1) x1 v5 h5) (cwVA hts (TW.cons _) lv_X0_has ml_RX5_28 ⟨rfl, rfl⟩ ⟨(Nat.le_of_ble_eq_true rfl), (Nat.le_of_ble_eq_true rfl)⟩) (pRV hK (hP.sub (ws' := pB cI cS (sa a0 1) (sb t0 1)) [1, 2, 3, 4] rfl) (ci := 0) rfl rfl) rfl rfl hl.1 rfl (lv_room (Nat.le_of_ble_eq_true rfl)) dX5_tryAct_5 ⟨Nat.le_refl _, Nat.le_refl _⟩) (fun b5 => ?_)
  refine lv_if_ne (tgt := 13) hx hb dX5_tryAct_8 (by decide) (fun c8 => ?_) (fun c8 => ?_)
  · replace hF := iq c8 hF
    refine lv_iload_n hx hb dX5_tryAct_13 rfl (lv_at hl 2 rfl) ?_
    refine lv_iconst (v := 1) hx hb dX5_tryAct_14 (by decide) ?_
    refine lv_icmp_ne (tgt := 27) hx hb dX5_tryAct_15 (by decide) (fun c15 => ?_) (fun c15 => ?_)
    · replace hF := iq c15 hF
      refine lv_iload_n hx hb dX5_tryAct_27 rfl (lv_at hl 2 rfl) ?_
      refine lv_iconst (v := 2) hx hb dX5_tryAct_28 (by decide) ?_
      refine lv_icmp_ne (tgt := 41) hx hb dX5_tryAct_29 (by decide) (fun c29 => ?_) (fun c29 => ?_)
      · replace hF := iq c29 hF
        refine lv_aload_n hx hb dX5_tryAct_41 rfl (lv_at hl 0 rfl) ?_
        refine va_get (D := D) (ci := 4) (v := .ref (a0 1)) (C := RX5) (T := TX5) (N := 4) hx hb hts (fun w h => List.mem_cons_of_mem _ (inAX5 w h)) hown hK.1 hP 0 rfl rfl 0 (by decide) (hts _ (List.mem_cons_of_mem _ fl_RX5_12)) (fun _ h9 => h9) rfl dX5_tryAct_42 ?_
        refine lv_iload_n hx hb dX5_tryAct_45 rfl (lv_at hl 1 rfl) ?_
        refine lv_iload_n hx hb dX5_tryAct_46 rfl (lv_at hl 2 rfl) ?_
        refine lv_bipush (v := 10) hx hb dX5_tryAct_47 (by decide) ?_
        refine lv_isub hx hb dX5_tryAct_49 ?_
        obtain ⟨u50, h50, hF⟩ := bd hF
        refine cWv (ws' := pY cI cS a0 (gr t0 1 4 u50)) (va_runV (As := [.int x1, .int (x2 - 10)]) (rest := []) ⟨hx, hb, hml, hown, hts⟩ (c_X0_strikeAt l D cI cS (sa a0 1) (sb t0 1) x1 (x2 - 10) u50 h50) (cwVA hts (TW.cons _) lv_X0_strikeAt ml_RX5_73 ⟨rfl, rfl⟩ ⟨(Nat.le_of_ble_eq_true rfl), (Nat.le_of_ble_eq_true rfl)⟩) (pWV hK (hP.sub (ws' := pB cI cS (sa a0 1) (sb t0 1)) [1, 2, 3, 4] rfl) (hD.sub (ws' := pB cI cS (sa a0 1) (sb t0 1)) [1, 2, 3, 4] (by decide) rfl) (ci := 0) rfl rfl) rfl rfl hl.1 rfl (lv_room (Nat.le_of_ble_eq_true rfl)) dX5_tryAct_50 ⟨Nat.le_refl _, Nat.le_refl _⟩) hP hD hS [1, 2, 3, 4] rfl [.inl 0, .inr 0, .inr 1, .inr 2, .inr 3] rfl rfl rfl (fun H locs hP hD hS => ?_)
        refine lv_iconst (v := 1) hx hb dX5_tryAct_53 (by decide) ?_
        exact W.zret hx hb hr rfl (fun t ht hW => ⟨⟨_, (), rfl, ⟨(Prod.mk.inj (Option.some.inj hF)).1, Or.inr rfl⟩, by show va_P _ _ _ t.heap; rw [ht, ← (Prod.mk.inj (Option.some.inj hF)).2]; exact hP⟩, hS.F ht⟩) hS.2.2 dX5_tryAct_54
      · replace hF := ip c29 hF
        refine lv_aload_n hx hb dX5_tryAct_32 rfl (lv_at hl 0 rfl) ?_
        refine va_get (D := D) (ci := 4) (v := .ref (a0 1)) (C := RX5) (T := TX5) (N := 4) hx hb hts (fun w h => List.mem_cons_of_mem _ (inAX5 w h)) hown hK.1 hP 0 rfl rfl 0 (by decide) (hts _ (List.mem_cons_of_mem _ fl_RX5_12)) (fun _ h9 => h9) rfl dX5_tryAct_33 ?_
        refine lv_iload_n hx hb dX5_tryAct_36 rfl (lv_at hl 1 rfl) ?_
        obtain ⟨v37, u37, h37, hF⟩ := bd2 hF
        refine cWb (ws' := pY cI cS a0 (gr t0 1 4 u37)) (va_runV (As := [.int x1]) (rest := []) ⟨hx, hb, hml, hown, hts⟩ (c_X0_lookAwayFrom l D cI cS (sa a0 1) (sb t0 1) x1 v37 u37 h37) (cwVA hts (TW.cons _) lv_X0_lookAwayFrom ml_RX5_70 ⟨rfl, rfl⟩ ⟨(Nat.le_of_ble_eq_true rfl), (Nat.le_of_ble_eq_true rfl)⟩) (pWV hK (hP.sub (ws' := pB cI cS (sa a0 1) (sb t0 1)) [1, 2, 3, 4] rfl) (hD.sub (ws' := pB cI cS (sa a0 1) (sb t0 1)) [1, 2, 3, 4] (by decide) rfl) (ci := 0) rfl rfl) rfl rfl hl.1 rfl (lv_room (Nat.le_of_ble_eq_true rfl)) dX5_tryAct_37 ⟨Nat.le_refl _, Nat.le_refl _⟩) hP hD hS [1, 2, 3, 4] rfl [.inl 0, .inr 0, .inr 1, .inr 2, .inr 3] rfl rfl rfl (fun b37 H locs hP hD hS => ?_)
        exact W.zret hx hb hr (b01 b37) (fun t ht hW => ⟨⟨_, (), rfl, ⟨(Prod.mk.inj (Option.some.inj hF)).1, b37⟩, by show va_P _ _ _ t.heap; rw [ht, ← (Prod.mk.inj (Option.some.inj hF)).2]; exact hP⟩, hS.F ht⟩) hS.2.2 dX5_tryAct_40
    · replace hF := ip c15 hF
      refine lv_aload_n hx hb dX5_tryAct_18 rfl (lv_at hl 0 rfl) ?_
      refine va_get (D := D) (ci := 4) (v := .ref (a0 1)) (C := RX5) (T := TX5) (N := 4) hx hb hts (fun w h => List.mem_cons_of_mem _ (inAX5 w h)) hown hK.1 hP 0 rfl rfl 0 (by decide) (hts _ (List.mem_cons_of_mem _ fl_RX5_12)) (fun _ h9 => h9) rfl dX5_tryAct_19 ?_
      refine lv_iload_n hx hb dX5_tryAct_22 rfl (lv_at hl 1 rfl) ?_
      obtain ⟨v23, u23, h23, hF⟩ := bd2 hF
      refine cWb (ws' := pY cI cS a0 (gr t0 1 4 u23)) (va_runV (As := [.int x1]) (rest := []) ⟨hx, hb, hml, hown, hts⟩ (c_X0_lookAt l D cI cS (sa a0 1) (sb t0 1) x1 v23 u23 h23) (cwVA hts (TW.cons _) lv_X0_lookAt ml_RX5_67 ⟨rfl, rfl⟩ ⟨(Nat.le_of_ble_eq_true rfl), (Nat.le_of_ble_eq_true rfl)⟩) (pWV hK (hP.sub (ws' := pB cI cS (sa a0 1) (sb t0 1)) [1, 2, 3, 4] rfl) (hD.sub (ws' := pB cI cS (sa a0 1) (sb t0 1)) [1, 2, 3, 4] (by decide) rfl) (ci := 0) rfl rfl) rfl rfl hl.1 rfl (lv_room (Nat.le_of_ble_eq_true rfl)) dX5_tryAct_23 ⟨Nat.le_refl _, Nat.le_refl _⟩) hP hD hS [1, 2, 3, 4] rfl [.inl 0, .inr 0, .inr 1, .inr 2, .inr 3] rfl rfl rfl (fun b23 H locs hP hD hS => ?_)
      exact W.zret hx hb hr (b01 b23) (fun t ht hW => ⟨⟨_, (), rfl, ⟨(Prod.mk.inj (Option.some.inj hF)).1, b23⟩, by show va_P _ _ _ t.heap; rw [ht, ← (Prod.mk.inj (Option.some.inj hF)).2]; exact hP⟩, hS.F ht⟩) hS.2.2 dX5_tryAct_26
  · replace hF := ip c8 hF
    refine lv_iconst (v := 0) hx hb dX5_tryAct_11 (by decide) ?_
    exact W.zret hx hb hr rfl (fun t ht hW => ⟨⟨_, (), rfl, ⟨(Prod.mk.inj (Option.some.inj hF)).1, Or.inl rfl⟩, by show va_P _ _ _ t.heap; rw [ht, ← (Prod.mk.inj (Option.some.inj hF)).2]; exact hP⟩, hS.F ht⟩) hS.2.2 dX5_tryAct_12
noncomputable def F_X5_live_L30 (t1 : ST) (t2 : ST) (t3 : ST) (x4 : Int32) (x5 : Int32) (k : Int32 → ST → Option ST) : Nat → Int32 → ST → Option ST
  | 0, _, _ => none
  | n + 1, x6, s0 =>
    if x5 ≤ x6 then
      k x6 s0
    else
    if (s0 0 1) = (-9) then
      (F_X3_at t3 (x4 + (2 * x6))).bind fun v54 =>
      (F_X3_at t3 ((x4 + (2 * x6)) + 1)).bind fun v69 =>
      if v69 = 0 then
        (F_X5_letGo s0 t2 v54).bind fun u83 =>
        (F_X5_live_L30 t1 t2 t3 x4 x5 k n) (x6 + 1) u83
      else
      b2 (F_X5_tryAct s0 v54 v69) fun v94 u94 =>
      if v94 = 0 then
        (F_X5_live_L30 t1 t2 t3 x4 x5 k n) (x6 + 1) (st u94 0 1 x6)
      else
      (F_X5_live_L30 t1 t2 t3 x4 x5 k n) (x6 + 1) u94
    else
    k x6 s0
noncomputable def F_X5_live_J112 (t1 : ST) (t2 : ST) (t3 : ST) (x4 : Int32) (x5 : Int32) (s0 : ST) : Option ST :=
  some s0
noncomputable def F_X5_live (t0 : ST) (t1 : ST) (t2 : ST) (t3 : ST) (x4 : Int32) (x5 : Int32) : Option ST :=
  (F_X0_copyFrom (sb t0 1) t1).bind fun u5 =>
  F_X5_live_L30 t1 t2 t3 x4 x5 (fun x6_k30 s0_k30 => F_X5_live_J112 t1 t2 t3 x4 x5 s0_k30) 1000 0 (st (st (st (gr t0 1 4 u5) 0 0 (t1 0 1)) 0 1 (-9)) 0 2 0)
abbrev rm_X5_live : Room := { frames := 4, cells := 0, slots := 0, locals := 87 }
set_option maxHeartbeats 4000000 in
set_option maxRecDepth 100000 in
theorem c_X5_live (l : Launch) (D : va_G) (cI cS : ClassId) (a0 : Nat → Nat) (a1 : Nat → Nat) (a2 : Nat → Nat) (a3 : Nat → Nat) (t0 : ST) (t1 : ST) (t2 : ST) (t3 : ST) (x4 : Int32) (x5 : Int32) (t' : ST) (hF : F_X5_live t0 t1 t2 t3 x4 x5 = some t') : Met l yX5_live (Cond.code yX5_live cX5_live 9 none :: ALL) rm_X5_live (PreW D cI cS [.ref (a0 0), .ref (a1 0), .ref (a2 0), .ref (a3 0), .int x4, .int x5] (pY cI cS a0 t0 ++ (pB cI cS a1 t1 ++ (pL cI cS a2 t2 ++ (pS cI cS a3 t3))))) (va_Qv (fun (_ : Unit) => True) (fun _ t => va_P D vwCl (pY cI cS a0 t' ++ (pB cI cS a1 t1 ++ (pL cI cS a2 t2 ++ (pS cI cS a3 t3)))) t.heap) (AD (pY cI cS a0 t0 ++ (pB cI cS a1 t1 ++ (pL cI cS a2 t2 ++ (pS cI cS a3 t3)))))) 0 0 (AD (pY cI cS a0 t0 ++ (pB cI cS a1 t1 ++ (pL cI cS a2 t2 ++ (pS cI cS a3 t3))))) := by
  refine mW l D cI cS (by decide) (Nat.le_of_ble_eq_true rfl) ?_
  intro p e s m below meth c ls hx hb hr hml hown hts hlocks hP hK hD hS hl
  have hown : s.vm.findClass RX5 = some m.cls := hown
  have hl : lv_has ls 9 [(0, .ref (a0 0)), (1, .ref (a1 0)), (2, .ref (a2 0)), (3, .ref (a3 0)), (4, .int x4), (5, .int x5)] := hl
  unfold F_X5_live at hF
  refine lv_aload_n hx hb dX5_live_0 rfl (lv_at hl 0 rfl) ?_
  refine va_get (D := D) (ci := 4) (v := .ref (a0 1)) (C := RX5) (T := TX5) (N := 4) hx hb hts (fun w h => List.mem_cons_of_mem _ (inAX5 w h)) hown hK.1 hP 0 rfl rfl 0 (by decide) (hts _ (List.mem_cons_of_mem _ fl_RX5_12)) (fun _ h9 => h9) rfl dX5_live_1 ?_
  refine lv_aload_n hx hb dX5_live_4 rfl (lv_at hl 1 rfl) ?_
  obtain ⟨u5, h5, hF⟩ := bd hF
  refine cWv (ws' := pY cI cS a0 (gr t0 1 4 u5) ++ (pB cI cS a1 t1 ++ (pL cI cS a2 t2 ++ (pS cI cS a3 t3)))) (va_runV (As := [.ref (a1 0)]) (rest := []) ⟨hx, hb, hml, hown, hts⟩ (c_X0_copyFrom l D cI cS (sa a0 1) a1 (sb t0 1) t1 u5 h5) (cwVA hts (TW.cons _) lv_X0_copyFrom ml_RX5_34 ⟨rfl, rfl⟩ ⟨(Nat.le_of_ble_eq_true rfl), (Nat.le_of_ble_eq_true rfl)⟩) (pWV hK (hP.sub (ws' := pB cI cS (sa a0 1) (sb t0 1) ++ (pB cI cS a1 t1)) [1, 2, 3, 4, 5, 6, 7, 8] rfl) (hD.sub (ws' := pB cI cS (sa a0 1) (sb t0 1) ++ (pB cI cS a1 t1)) [1, 2, 3, 4, 5, 6, 7, 8] (by decide) rfl) (ci := 0) rfl rfl) rfl rfl hl.1 rfl (lv_room (Nat.le_of_ble_eq_true rfl)) dX5_live_5 ⟨Nat.le_refl _, Nat.le_refl _⟩) hP hD hS [1, 2, 3, 4, 5, 6, 7, 8] rfl [.inl 0, .inr 0, .inr 1, .inr 2, .inr 3, .inr 4, .inr 5, .inr 6, .inr 7, .inl 9, .inl 10, .inl 11, .inl 12] rfl rfl rfl (fun H locs hP hD hS => ?_)
  refine lv_aload_n hx hb dX5_live_8 rfl (lv_at hl 0 rfl) ?_
  refine lv_aload_n hx hb dX5_live_9 rfl (lv_at hl 1 rfl) ?_
  refine va_getN (D := D) (ci := 0) (v := .int (t1 0 1)) (C := RX0) (T := TX0) (N := 6) hx hb hts (fun w h => List.mem_cons_of_mem _ (inAX0 w h)) hown hK.1 hP 5 rfl rfl 1 (by decide) (nu_RX5_38 hK) (fun _ h9 => h9) rfl dX5_live_10 ?_
  refine wF (ws' := pY cI cS a0 (st (gr t0 1 4 u5) 0 0 (t1 0 1)) ++ (pB cI cS a1 t1 ++ (pL cI cS a2 t2 ++ (pS cI cS a3 t3)))) (C := RX5) (T := TX5) (N := 4) hx hb hts (fun w h => List.mem_cons_of_mem _ (inAX5 w h)) tyX5 tyX5_ok nmX5 hown hK.1 hP hD hS 0 rfl rfl 1 (by decide) (hts _ (List.mem_cons_of_mem _ fl_RX5_42)) rfl (tyX5_ok 1 (by decide)) rfl rfl (Nat.le_of_ble_eq_true rfl) rfl dX5_live_13 (fun H locs hP hD hS => ?_)
  refine lv_aload_n hx hb dX5_live_16 rfl (lv_at hl 0 rfl) ?_
  refine lv_bipush (v := (-9)) hx hb dX5_live_17 (by decide) ?_
  refine wF (ws' := pY cI cS a0 (st (st (gr t0 1 4 u5) 0 0 (t1 0 1)) 0 1 (-9)) ++ (pB cI cS a1 t1 ++ (pL cI cS a2 t2 ++ (pS cI cS a3 t3)))) (C := RX5) (T := TX5) (N := 4) hx hb hts (fun w h => List.mem_cons_of_mem _ (inAX5 w h)) tyX5 tyX5_ok nmX5 hown hK.1 hP hD hS 0 rfl rfl 2 (by decide) (hts _ (List.mem_cons_of_mem _ fl_RX5_45)) rfl (tyX5_ok 2 (by decide)) rfl rfl (Nat.le_of_ble_eq_true rfl) rfl dX5_live_19 (fun H locs hP hD hS => ?_)
  refine lv_aload_n hx hb dX5_live_22 rfl (lv_at hl 0 rfl) ?_
  refine lv_iconst (v := 0) hx hb dX5_live_23 (by decide) ?_
  refine wF (ws' := pY cI cS a0 (st (st (st (gr t0 1 4 u5) 0 0 (t1 0 1)) 0 1 (-9)) 0 2 0) ++ (pB cI cS a1 t1 ++ (pL cI cS a2 t2 ++ (pS cI cS a3 t3)))) (C := RX5) (T := TX5) (N := 4) hx hb hts (fun w h => List.mem_cons_of_mem _ (inAX5 w h)) tyX5 tyX5_ok nmX5 hown hK.1 hP hD hS 0 rfl rfl 3 (by decide) (hts _ (List.mem_cons_of_mem _ fl_RX5_48)) rfl (tyX5_ok 3 (by decide)) rfl rfl (Nat.le_of_ble_eq_true rfl) rfl dX5_live_24 (fun H locs hP hD hS => ?_)
  refine lv_iconst (v := 0) hx hb dX5_live_27 (by decide) ?_
  refine lv_istore (lv' := [(6, .int 0), (0, .ref (a0 0)), (1, .ref (a1 0)), (2, .ref (a2 0)), (3, .ref (a3 0)), (4, .int x4), (5, .int x5)]) hx hb dX5_live_28 hl (by decide) rfl (fun ls hl => ?_)
  have L30 : ∀ (n_30 : Nat) (x6_30 : Int32) (s0_30 : ST) (H : Heap) (locs : List Loc) (ls : Array Slot), va_P D vwCl (pY cI cS a0 s0_30 ++ (pB cI cS a1 t1 ++ (pL cI cS a2 t2 ++ (pS cI cS a3 t3)))) H → va_D (AD (pY cI cS a0 t0 ++ (pB cI cS a1 t1 ++ (pL cI cS a2 t2 ++ (pS cI cS a3 t3))))) (pY cI cS a0 s0_30 ++ (pB cI cS a1 t1 ++ (pL cI cS a2 t2 ++ (pS cI cS a3 t3)))) → va_S (AD (pY cI cS a0 t0 ++ (pB cI cS a1 t1 ++ (pL cI cS a2 t2 ++ (pS cI cS a3 t3))))) s.heap H locs → lv_has ls 9 [(0, .ref (a0 0)), (2, .ref (a2 0)), (3, .ref (a3 0)), (4, .int x4), (5, .int x5), (6, .int x6_30)] → F_X5_live_L30 t1 t2 t3 x4 x5 (fun x6_k30 s0_k30 => F_X5_live_J112 t1 t2 t3 x4 x5 s0_k30) n_30 x6_30 s0_30 = some t' → W p l e rm_X5_live s m [.ref (a0 0), .ref (a1 0), .ref (a2 0), .ref (a3 0), .int x4, .int x5].toArray below meth c H locs 0 0 (MQ below (va_Qv (fun (_ : Unit) => True) (fun _ t => va_P D vwCl (pY cI cS a0 t' ++ (pB cI cS a1 t1 ++ (pL cI cS a2 t2 ++ (pS cI cS a3 t3)))) t.heap) (AD (pY cI cS a0 t0 ++ (pB cI cS a1 t1 ++ (pL cI cS a2 t2 ++ (pS cI cS a3 t3)))))) [.ref (a0 0), .ref (a1 0), .ref (a2 0), .ref (a3 0), .int x4, .int x5].toArray s 0 0 (AD (pY cI cS a0 t0 ++ (pB cI cS a1 t1 ++ (pL cI cS a2 t2 ++ (pS cI cS a3 t3)))))) (F0 m 30 ls []) := by
    intro n_30
    induction n_30 with
    | zero => intro x6_30 s0_30 H locs ls hP hD hS hl hF; exact nomatch hF
    | succ n_30 ih30 =>
      intro x6_30 s0_30 H locs ls hP hD hS hl hF
      rw [F_X5_live_L30.eq_2] at hF
      refine lv_iload hx hb dX5_live_30 (lv_at hl 5 rfl) ?_
      refine lv_iload hx hb dX5_live_32 (lv_at hl 4 rfl) ?_
      refine lv_icmp_ge (tgt := 112) hx hb dX5_live_34 (by decide) (fun c34 => ?_) (fun c34 => ?_)
      · replace hF := ip c34 hF
        have hF : F_X5_live_J112 t1 t2 t3 x4 x5 s0_30 = some t' := hF
        unfold F_X5_live_J112 at hF
        exact W.vret hx hb hr (fun t ht hW => ⟨⟨(), rfl, trivial, by show va_P _ _ _ t.heap; rw [ht, ← (Option.some.inj hF)]; exact hP⟩, hS.F ht⟩) hS.2.2 dX5_live_112
      · replace hF := iq c34 hF
        refine lv_aload_n hx hb dX5_live_37 rfl (lv_at hl 0 rfl) ?_
        refine va_get (D := D) (ci := 4) (v := .int (s0_30 0 1)) (C := RX5) (T := TX5) (N := 4) hx hb hts (fun w h => List.mem_cons_of_mem _ (inAX5 w h)) hown hK.1 hP 0 rfl rfl 2 (by decide) (hts _ (List.mem_cons_of_mem _ fl_RX5_45)) (fun _ h9 => h9) rfl dX5_live_38 ?_
        refine lv_bipush (v := (-9)) hx hb dX5_live_41 (by decide) ?_
        refine lv_icmp_ne (tgt := 112) hx hb dX5_live_43 (by decide) (fun c43 => ?_) (fun c43 => ?_)
        · replace hF := iq c43 hF
          have hF : F_X5_live_J112 t1 t2 t3 x4 x5 s0_30 = some t' := hF
          unfold F_X5_live_J112 at hF
          exact W.vret hx hb hr (fun t ht hW => ⟨⟨(), rfl, trivial, by show va_P _ _ _ t.heap; rw [ht, ← (Option.some.inj hF)]; exact hP⟩, hS.F ht⟩) hS.2.2 dX5_live_112
        · replace hF := ip c43 hF
          refine lv_aload_n hx hb dX5_live_46 rfl (lv_at hl 2 rfl) ?_
          refine lv_iload hx hb dX5_live_47 (lv_at hl 3 rfl) ?_
          refine lv_iconst (v := 2) hx hb dX5_live_49 (by decide) ?_
          refine lv_iload hx hb dX5_live_50 (lv_at hl 5 rfl) ?_
          refine lv_imul hx hb dX5_live_52 ?_
          refine lv_iadd hx hb dX5_live_53 ?_
          obtain ⟨v54, h54, hF⟩ := bd hF
          refine cRe (va_runV (As := [.int (x4 + (2 * x6_30))]) (rest := []) ⟨hx, hb, hml, hown, hts⟩ (c_X3_at l D cI cS a3 t3 (x4 + (2 * x6_30)) v54 h54) (cwVA hts (TW.cons _) lv_X3_at ml_RX5_18 ⟨rfl, rfl⟩ ⟨(Nat.le_of_ble_eq_true rfl), (Nat.le_of_ble_eq_true rfl)⟩) (pRV hK (hP.sub (ws' := pS cI cS a3 t3) [11, 12] rfl) (ci := 3) rfl rfl) rfl rfl hl.1 rfl (lv_room (Nat.le_of_ble_eq_true rfl)) dX5_live_54 ⟨Nat.le_refl _, Nat.le_refl _⟩) ?_
          refine lv_istore (lv' := [(7, .int v54), (0, .ref (a0 0)), (2, .ref (a2 0)), (3, .ref (a3 0)), (4, .int x4), (5, .int x5), (6, .int x6_30)]) hx hb dX5_live_57 hl (by decide) rfl (fun ls hl => ?_)
          refine lv_aload_n hx hb dX5_live_59 rfl (lv_at hl 3 rfl) ?_
          refine lv_iload hx hb dX5_live_60 (lv_at hl 4 rfl) ?_
          refine lv_iconst (v := 2) hx hb dX5_live_62 (by decide) ?_
          refine lv_iload hx hb dX5_live_63 (lv_at hl 6 rfl) ?_
          refine lv_imul hx hb dX5_live_65 ?_
          refine lv_iadd hx hb dX5_live_66 ?_
          refine lv_iconst (v := 1) hx hb dX5_live_67 (by decide) ?_
          refine lv_iadd hx hb dX5_live_68 ?_
          obtain ⟨v69, h69, hF⟩ := bd hF
          refine cRe (va_runV (As := [.int ((x4 + (2 * x6_30)) + 1)]) (rest := []) ⟨hx, hb, hml, hown, hts⟩ (c_X3_at l D cI cS a3 t3 ((x4 + (2 * x6_30)) + 1) v69 h69) (cwVA hts (TW.cons _) lv_X3_at ml_RX5_18 ⟨rfl, rfl⟩ ⟨(Nat.le_of_ble_eq_true rfl), (Nat.le_of_ble_eq_true rfl)⟩) (pRV hK (hP.sub (ws' := pS cI cS a3 t3) [11, 12] rfl) (ci := 3) rfl rfl) rfl rfl hl.1 rfl (lv_room (Nat.le_of_ble_eq_true rfl)) dX5_live_69 ⟨Nat.le_refl _, Nat.le_refl _⟩) ?_
          refine lv_istore (lv' := [(8, .int v69), (7, .int v54), (0, .ref (a0 0)), (2, .ref (a2 0)), (3, .ref (a3 0)), (4, .int x4), (5, .int x5), (6, .int x6_30)]) hx hb dX5_live_72 hl (by decide) rfl (fun ls hl => ?_)
          refine lv_iload hx hb dX5_live_74 (lv_at hl 0 rfl) ?_
          refine lv_if_ne (tgt := 89) hx hb dX5_live_76 (by decide) (fun c76 => ?_) (fun c76 => ?_)
          · replace hF := iq c76 hF
            refine lv_aload_n hx hb dX5_live_89 rfl (lv_at hl 2 rfl) ?_
            refine lv_iload hx hb dX5_live_90 (lv_at hl 1 rfl) ?_
            refine lv_iload hx hb dX5_live_92 (lv_at hl 0 rfl) ?_
            obtain ⟨v94, u94, h94, hF⟩ := bd2 hF
            refine cWb (ws' := pY cI cS a0 u94 ++ (pB cI cS a1 t1 ++ (pL cI cS a2 t2 ++ (pS cI cS a3 t3)))) (va_runV (As := [.int v54, .int v69]) (rest := []) ⟨hx, hb, hml, hown, hts⟩ (c_X5_tryAct l D cI cS a0 s0_30 v54 v69 v94 u94 h94) (cwVA hts (TW.cons _) lv_X5_tryAct ml_RX5_55 ⟨rfl, rfl⟩ ⟨(Nat.le_of_ble_eq_true rfl), (Nat.le_of_ble_eq_true rfl)⟩) (pWV hK (hP.sub (ws' := pY cI cS a0 s0_30) [0, 1, 2, 3, 4] rfl) (hD.sub (ws' := pY cI cS a0 s0_30) [0, 1, 2, 3, 4] (by decide) rfl) (ci := 4) rfl rfl) rfl rfl hl.1 rfl (lv_room (Nat.le_of_ble_eq_true rfl)) dX5_live_94 ⟨Nat.le_refl _, Nat.le_refl _⟩) hP hD hS [0, 1, 2, 3, 4] rfl [.inr 0, .inr 1, .inr 2, .inr 3, .inr 4, .inl 5, .inl 6, .inl 7, .inl 8, .inl 9, .inl 10, .inl 11, .inl 12] rfl rfl rfl (fun b94 H locs hP hD hS => ?_)
            refine lv_if_ne (tgt := 106) hx hb dX5_live_97 (by decide) (fun c97 => ?_) (fun c97 => ?_)
            · replace hF := iq c97 hF
              refine lv_iinc (v := (x6_30 + 1)) (lv' := [(6, .int (x6_30 + 1)), (8, .int v69), (7, .int v54), (0, .ref (a0 0)), (2, .ref (a2 0)), (3, .ref (a3 0)), (4, .int x4), (5, .int x5)]) hx hb dX5_live_106 hl (k := 7) rfl rfl (by decide) rfl (fun ls hl => ?_)
              refine lv_goto (tgt := 30) hx hb dX5_live_109 (by decide) ?_
              exact ih30 (x6_30 + 1) u94 _ _ _ hP hD hS (lv_sub hl [3, 4, 5, 6, 7, 0] rfl) hF
            · replace hF := ip c97 hF
              refine lv_aload_n hx hb dX5_live_100 rfl (lv_at hl 2 rfl) ?_
              refine lv_iload hx hb dX5_live_101 (lv_at hl 7 rfl) ?_
              refine wF (ws' := pY cI cS a0 (st u94 0 1 x6_30) ++ (pB cI cS a1 t1 ++ (pL cI cS a2 t2 ++ (pS cI cS a3 t3)))) (C := RX5) (T := TX5) (N := 4) hx hb hts (fun w h => List.mem_cons_of_mem _ (inAX5 w h)) tyX5 tyX5_ok nmX5 hown hK.1 hP hD hS 0 rfl rfl 2 (by decide) (hts _ (List.mem_cons_of_mem _ fl_RX5_45)) rfl (tyX5_ok 2 (by decide)) rfl rfl (Nat.le_of_ble_eq_true rfl) rfl dX5_live_103 (fun H locs hP hD hS => ?_)
              refine lv_iinc (v := (x6_30 + 1)) (lv' := [(6, .int (x6_30 + 1)), (8, .int v69), (7, .int v54), (0, .ref (a0 0)), (2, .ref (a2 0)), (3, .ref (a3 0)), (4, .int x4), (5, .int x5)]) hx hb dX5_live_106 hl (k := 7) rfl rfl (by decide) rfl (fun ls hl => ?_)
              refine lv_goto (tgt := 30) hx hb dX5_live_109 (by decide) ?_
              exact ih30 (x6_30 + 1) (st u94 0 1 x6_30) _ _ _ hP hD hS (lv_sub hl [3, 4, 5, 6, 7, 0] rfl) hF
          · replace hF := ip c76 hF
            refine lv_aload_n hx hb dX5_live_79 rfl (lv_at hl 2 rfl) ?_
            refine lv_aload_n hx hb dX5_live_80 rfl (lv_at hl 3 rfl) ?_
            refine lv_iload hx hb dX5_live_81 (lv_at hl 1 rfl) ?_
            obtain ⟨u83, h83, hF⟩ := bd hF
            refine cWv (ws' := pY cI cS a0 u83 ++ (pB cI cS a1 t1 ++ (pL cI cS a2 t2 ++ (pS cI cS a3 t3)))) (va_runV (As := [.ref (a2 0), .int v54]) (rest := []) ⟨hx, hb, hml, hown, hts⟩ (c_X5_letGo l D cI cS a0 a2 s0_30 t2 v54 u83 h83) (cwVA hts (TW.cons _) lv_X5_letGo ml_RX5_51 ⟨rfl, rfl⟩ ⟨(Nat.le_of_ble_eq_true rfl), (Nat.le_of_ble_eq_true rfl)⟩) (pWV hK (hP.sub (ws' := pY cI cS a0 s0_30 ++ (pL cI cS a2 t2)) [0, 1, 2, 3, 4, 9, 10] rfl) (hD.sub (ws' := pY cI cS a0 s0_30 ++ (pL cI cS a2 t2)) [0, 1, 2, 3, 4, 9, 10] (by decide) rfl) (ci := 4) rfl rfl) rfl rfl hl.1 rfl (lv_room (Nat.le_of_ble_eq_true rfl)) dX5_live_83 ⟨Nat.le_refl _, Nat.le_refl _⟩) hP hD hS [0, 1, 2, 3, 4, 9, 10] rfl [.inr 0, .inr 1, .inr 2, .inr 3, .inr 4, .inl 5, .inl 6, .inl 7, .inl 8, .inr 5, .inr 6, .inl 11, .inl 12] rfl rfl rfl (fun H locs hP hD hS => ?_)
            refine lv_goto (tgt := 106) hx hb dX5_live_86 (by decide) ?_
            refine lv_iinc (v := (x6_30 + 1)) (lv' := [(6, .int (x6_30 + 1)), (8, .int v69), (7, .int v54), (0, .ref (a0 0)), (2, .ref (a2 0)), (3, .ref (a3 0)), (4, .int x4), (5, .int x5)]) hx hb dX5_live_106 hl (k := 7) rfl rfl (by decide) rfl (fun ls hl => ?_)
            refine lv_goto (tgt := 30) hx hb dX5_live_109 (by decide) ?_
            exact ih30 (x6_30 + 1) u83 _ _ _ hP hD hS (lv_sub hl [3, 4, 5, 6, 7, 0] rfl) hF
  exact L30 1000 0 (st (st (st (gr t0 1 4 u5) 0 0 (t1 0 1)) 0 1 (-9)) 0 2 0) _ _ _ hP hD hS (lv_sub hl [1, 3, 4, 5, 6, 0] rfl) hF
noncomputable def F_X5_answer_J98 (t0 : ST) (x1 : Int32) : Option Int32 :=
  (F_X0_has (sb t0 1) (x1 - 10)).bind fun v106 =>
  if v106 = 0 then
    some (-9)
  else
  (rd 6 (t0 3) (x1 - 10)).bind fun v123 =>
  some v123
noncomputable def F_X5_answer (t0 : ST) (x1 : Int32) : Option Int32 :=
  if x1 = 1 then
    some (t0 0 1)
  else
  if (t0 0 1) = (-9) then
    if x1 = 0 then
      some (t0 1 2)
    else
    if x1 = 1 then
      F_X5_answer_J98 t0 x1
    else
    if x1 = 2 then
      (F_X0_cellsSet (sb t0 1)).bind fun v76 =>
      some v76
    else
    if x1 = 3 then
      some ((t0 1 1) - (t0 0 0))
    else
    if x1 = 4 then
      some (t0 0 2)
    else
    F_X5_answer_J98 t0 x1
  else
  some ((-100) - (t0 0 1))
abbrev rm_X5_answer : Room := { frames := 2, cells := 0, slots := 0, locals := 42 }
set_option maxHeartbeats 4000000 in
set_option maxRecDepth 100000 in
theorem c_X5_answer (l : Launch) (D : va_G) (cI cS : ClassId) (a0 : Nat → Nat) (t0 : ST) (x1 : Int32) (r : Int32) (hF : F_X5_answer t0 x1 = some r) : Met l yX5_answer (Cond.code yX5_answer cX5_answer 2 (some .int) :: ALL) rm_X5_answer (PreR D cI cS [.ref (a0 0), .int x1] (pY cI cS a0 t0)) (vp_Si (fun x => x = r)) 0 0 (fun _ => False) := by
  refine mR l D cI cS (by decide) (Nat.le_of_ble_eq_true rfl) ?_
  intro p e s m below meth c ls hx hb hr hml hown hts hlocks hP hK hl
  have hown : s.vm.findClass RX5 = some m.cls := hown
  have hl : lv_has ls 2 [(0, .ref (a0 0)), (1, .int x1)] := hl
  unfold F_X5_answer at hF
  refine lv_iload_n hx hb dX5_answer_0 rfl (lv_at hl 1 rfl) ?_
  refine lv_iconst (v := 1) hx hb dX5_answer_1 (by decide) ?_
  refine lv_icmp_ne (tgt := 10) hx hb dX5_answer_2 (by decide) (fun c2 => ?_) (fun c2 => ?_)
  · replace hF := iq c2 hF
    refine lv_aload_n hx hb dX5_answer_10 rfl (lv_at hl 0 rfl) ?_
    refine va_get (D := D) (ci := 4) (v := .int (t0 0 1)) (C := RX5) (T := TX5) (N := 4) hx hb hts (fun w h => List.mem_cons_of_mem _ (inAX5 w h)) hown hK.1 hP 0 rfl rfl 2 (by decide) (hts _ (List.mem_cons_of_mem _ fl_RX5_45)) (fun _ h9 => h9) rfl dX5_answer_11 ?_
    refine lv_bipush (v := (-9)) hx hb dX5_answer_14 (by decide) ?_
    refine lv_icmp_eq (tgt := 27) hx hb dX5_answer_16 (by decide) (fun c16 => ?_) (fun c16 => ?_)
    · replace hF := ip c16 hF
      refine lv_iload_n hx hb dX5_answer_27 rfl (lv_at hl 1 rfl) ?_
      have J98 : ∀ (ls : Array Slot), lv_has ls 2 [(0, .ref (a0 0)), (1, .int x1)] → F_X5_answer_J98 t0 x1  = some r → W p l e rm_X5_answer s m [.ref (a0 0), .int x1].toArray below meth c s.heap [] 0 0 (MQ below (vp_Si (fun x => x = r)) [.ref (a0 0), .int x1].toArray s 0 0 (fun _ => False)) (F0 m 98 ls []) := by
        intro ls hl hF
        unfold F_X5_answer_J98 at hF
        refine lv_aload_n hx hb dX5_answer_98 rfl (lv_at hl 0 rfl) ?_
        refine va_get (D := D) (ci := 4) (v := .ref (a0 1)) (C := RX5) (T := TX5) (N := 4) hx hb hts (fun w h => List.mem_cons_of_mem _ (inAX5 w h)) hown hK.1 hP 0 rfl rfl 0 (by decide) (hts _ (List.mem_cons_of_mem _ fl_RX5_12)) (fun _ h9 => h9) rfl dX5_answer_99 ?_
        refine lv_iload_n hx hb dX5_answer_102 rfl (lv_at hl 1 rfl) ?_
        refine lv_bipush (v := 10) hx hb dX5_answer_103 (by decide) ?_
        refine lv_isub hx hb dX5_answer_105 ?_
        obtain ⟨v106, h106, hF⟩ := bd hF
        refine cRb (va_runV (As := [.int (x1 - 10)]) (rest := []) ⟨hx, hb, hml, hown, hts⟩ (c_X0_has l D cI cS (sa a0 1) (sb t0 1) (x1 - 10) v106 h106) (cwVA hts (TW.cons _) lv_X0_has ml_RX5_28 ⟨rfl, rfl⟩ ⟨(Nat.le_of_ble_eq_true rfl), (Nat.le_of_ble_eq_true rfl)⟩) (pRV hK (hP.sub (ws' := pB cI cS (sa a0 1) (sb t0 1)) [1, 2, 3, 4] rfl) (ci := 0) rfl rfl) rfl rfl hl.1 rfl (lv_room (Nat.le_of_ble_eq_true rfl)) dX5_answer_106 ⟨Nat.le_refl _, Nat.le_refl _⟩) (fun b106 => ?_)
        refine lv_if_eq (tgt := 127) hx hb dX5_answer_109 (by decide) (fun c109 => ?_) (fun c109 => ?_)
        · replace hF := ip c109 hF
          refine lv_bipush (v := (-9)) hx hb dX5_answer_127 (by decide) ?_
          exact W.iret hx hb hr (fun t ht hW => ⟨_, rfl, (Option.some.inj hF), ht⟩) (fun _ h => nomatch h) dX5_answer_129
        · replace hF := iq c109 hF
          refine lv_aload_n hx hb dX5_answer_112 rfl (lv_at hl 0 rfl) ?_
          refine va_get (D := D) (ci := 4) (v := .ref (a0 1)) (C := RX5) (T := TX5) (N := 4) hx hb hts (fun w h => List.mem_cons_of_mem _ (inAX5 w h)) hown hK.1 hP 0 rfl rfl 0 (by decide) (hts _ (List.mem_cons_of_mem _ fl_RX5_12)) (fun _ h9 => h9) rfl dX5_answer_113 ?_
          refine va_getN (D := D) (ci := 0) (v := .ref (a0 3)) (C := RX0) (T := TX0) (N := 6) hx hb hts (fun w h => List.mem_cons_of_mem _ (inAX0 w h)) hown hK.1 hP 1 rfl rfl 4 (by decide) (nu_RX5_84 hK) (fun _ h9 => h9) rfl dX5_answer_116 ?_
          refine lv_iload_n hx hb dX5_answer_119 rfl (lv_at hl 1 rfl) ?_
          refine lv_bipush (v := 10) hx hb dX5_answer_120 (by decide) ?_
          refine lv_isub hx hb dX5_answer_122 ?_
          obtain ⟨v123, h123, hF⟩ := bd hF
          refine rI hx hb hK.1 hP 3 0 rfl rfl h123 dX5_answer_123 ?_
          refine lv_goto (tgt := 129) hx hb dX5_answer_124 (by decide) ?_
          exact W.iret hx hb hr (fun t ht hW => ⟨_, rfl, (Option.some.inj hF), ht⟩) (fun _ h => nomatch h) dX5_answer_129
      by_cases c28_0 : x1 = 0
      · replace hF := ip c28_0 hF
        refine lv_tableIn (off := 36) (tgt := 64) hx hb dX5_answer_28 (by rw [c28_0]; decide) (by rw [c28_0]; decide) (by rw [c28_0]; decide) (by decide) ?_
        refine lv_aload_n hx hb dX5_answer_64 rfl (lv_at hl 0 rfl) ?_
        refine va_get (D := D) (ci := 4) (v := .ref (a0 1)) (C := RX5) (T := TX5) (N := 4) hx hb hts (fun w h => List.mem_cons_of_mem _ (inAX5 w h)) hown hK.1 hP 0 rfl rfl 0 (by decide) (hts _ (List.mem_cons_of_mem _ fl_RX5_12)) (fun _ h9 => h9) rfl dX5_answer_65 ?_
        refine va_getN (D := D) (ci := 0) (v := .int (t0 1 2)) (C := RX0) (T := TX0) (N := 6) hx hb hts (fun w h => List.mem_cons_of_mem _ (inAX0 w h)) hown hK.1 hP 1 rfl rfl 2 (by decide) (nu_RX5_77 hK) (fun _ h9 => h9) rfl dX5_answer_68 ?_
        exact W.iret hx hb hr (fun t ht hW => ⟨_, rfl, (Option.some.inj hF), ht⟩) (fun _ h => nomatch h) dX5_answer_71
      replace hF := iq c28_0 hF
      by_cases c28_1 : x1 = 1
      · replace hF := ip c28_1 hF
        refine lv_tableIn (off := 70) (tgt := 98) hx hb dX5_answer_28 (by rw [c28_1]; decide) (by rw [c28_1]; decide) (by rw [c28_1]; decide) (by decide) ?_
        exact J98  _ (lv_sub hl [0, 1] rfl) hF
      replace hF := iq c28_1 hF
      by_cases c28_2 : x1 = 2
      · replace hF := ip c28_2 hF
        refine lv_tableIn (off := 44) (tgt := 72) hx hb dX5_answer_28 (by rw [c28_2]; decide) (by rw [c28_2]; decide) (by rw [c28_2]; decide) (by decide) ?_
        refine lv_aload_n hx hb dX5_answer_72 rfl (lv_at hl 0 rfl) ?_
        refine va_get (D := D) (ci := 4) (v := .ref (a0 1)) (C := RX5) (T := TX5) (N := 4) hx hb hts (fun w h => List.mem_cons_of_mem _ (inAX5 w h)) hown hK.1 hP 0 rfl rfl 0 (by decide) (hts _ (List.mem_cons_of_mem _ fl_RX5_12)) (fun _ h9 => h9) rfl dX5_answer_73 ?_
        obtain ⟨v76, h76, hF⟩ := bd hF
        refine cRe (va_runV (As := []) (rest := []) ⟨hx, hb, hml, hown, hts⟩ (c_X0_cellsSet l D cI cS (sa a0 1) (sb t0 1) v76 h76) (cwVA hts (TW.cons _) lv_X0_cellsSet ml_RX5_80 ⟨rfl, rfl⟩ ⟨(Nat.le_of_ble_eq_true rfl), (Nat.le_of_ble_eq_true rfl)⟩) (pRV hK (hP.sub (ws' := pB cI cS (sa a0 1) (sb t0 1)) [1, 2, 3, 4] rfl) (ci := 0) rfl rfl) rfl rfl hl.1 rfl (lv_room (Nat.le_of_ble_eq_true rfl)) dX5_answer_76 ⟨Nat.le_refl _, Nat.le_refl _⟩) ?_
        exact W.iret hx hb hr (fun t ht hW => ⟨_, rfl, (Option.some.inj hF), ht⟩) (fun _ h => nomatch h) dX5_answer_79
      replace hF := iq c28_2 hF
      by_cases c28_3 : x1 = 3
      · replace hF := ip c28_3 hF
        refine lv_tableIn (off := 52) (tgt := 80) hx hb dX5_answer_28 (by rw [c28_3]; decide) (by rw [c28_3]; decide) (by rw [c28_3]; decide) (by decide) ?_
        refine lv_aload_n hx hb dX5_answer_80 rfl (lv_at hl 0 rfl) ?_
        refine va_get (D := D) (ci := 4) (v := .ref (a0 1)) (C := RX5) (T := TX5) (N := 4) hx hb hts (fun w h => List.mem_cons_of_mem _ (inAX5 w h)) hown hK.1 hP 0 rfl rfl 0 (by decide) (hts _ (List.mem_cons_of_mem _ fl_RX5_12)) (fun _ h9 => h9) rfl dX5_answer_81 ?_
        refine va_getN (D := D) (ci := 0) (v := .int (t0 1 1)) (C := RX0) (T := TX0) (N := 6) hx hb hts (fun w h => List.mem_cons_of_mem _ (inAX0 w h)) hown hK.1 hP 1 rfl rfl 1 (by decide) (nu_RX5_38 hK) (fun _ h9 => h9) rfl dX5_answer_84 ?_
        refine lv_aload_n hx hb dX5_answer_87 rfl (lv_at hl 0 rfl) ?_
        refine va_get (D := D) (ci := 4) (v := .int (t0 0 0)) (C := RX5) (T := TX5) (N := 4) hx hb hts (fun w h => List.mem_cons_of_mem _ (inAX5 w h)) hown hK.1 hP 0 rfl rfl 1 (by decide) (hts _ (List.mem_cons_of_mem _ fl_RX5_42)) (fun _ h9 => h9) rfl dX5_answer_88 ?_
        refine lv_isub hx hb dX5_answer_91 ?_
        exact W.iret hx hb hr (fun t ht hW => ⟨_, rfl, (Option.some.inj hF), ht⟩) (fun _ h => nomatch h) dX5_answer_92
      replace hF := iq c28_3 hF
      by_cases c28_4 : x1 = 4
      · replace hF := ip c28_4 hF
        refine lv_tableIn (off := 65) (tgt := 93) hx hb dX5_answer_28 (by rw [c28_4]; decide) (by rw [c28_4]; decide) (by rw [c28_4]; decide) (by decide) ?_
        refine lv_aload_n hx hb dX5_answer_93 rfl (lv_at hl 0 rfl) ?_
        refine va_get (D := D) (ci := 4) (v := .int (t0 0 2)) (C := RX5) (T := TX5) (N := 4) hx hb hts (fun w h => List.mem_cons_of_mem _ (inAX5 w h)) hown hK.1 hP 0 rfl rfl 3 (by decide) (hts _ (List.mem_cons_of_mem _ fl_RX5_48)) (fun _ h9 => h9) rfl dX5_answer_94 ?_
        exact W.iret hx hb hr (fun t ht hW => ⟨_, rfl, (Option.some.inj hF), ht⟩) (fun _ h => nomatch h) dX5_answer_97
      replace hF := iq c28_4 hF
      refine lv_tableOut (tgt := 98) hx hb dX5_answer_28 (by have g0 := ne_toInt c28_0 (k := 0) rfl; have g1 := ne_toInt c28_1 (k := 1) rfl; have g2 := ne_toInt c28_2 (k := 2) rfl; have g3 := ne_toInt c28_3 (k := 3) rfl; have g4 := ne_toInt c28_4 (k := 4) rfl; omega) (by decide) ?_
      exact J98  _ (lv_sub hl [0, 1] rfl) hF
    · replace hF := iq c16 hF
      refine lv_bipush (v := (-100)) hx hb dX5_answer_19 (by decide) ?_
      refine lv_aload_n hx hb dX5_answer_21 rfl (lv_at hl 0 rfl) ?_
      refine va_get (D := D) (ci := 4) (v := .int (t0 0 1)) (C := RX5) (T := TX5) (N := 4) hx hb hts (fun w h => List.mem_cons_of_mem _ (inAX5 w h)) hown hK.1 hP 0 rfl rfl 2 (by decide) (hts _ (List.mem_cons_of_mem _ fl_RX5_45)) (fun _ h9 => h9) rfl dX5_answer_22 ?_
      refine lv_isub hx hb dX5_answer_25 ?_
      exact W.iret hx hb hr (fun t ht hW => ⟨_, rfl, (Option.some.inj hF), ht⟩) (fun _ h => nomatch h) dX5_answer_26
  · replace hF := ip c2 hF
    refine lv_aload_n hx hb dX5_answer_5 rfl (lv_at hl 0 rfl) ?_
    refine va_get (D := D) (ci := 4) (v := .int (t0 0 1)) (C := RX5) (T := TX5) (N := 4) hx hb hts (fun w h => List.mem_cons_of_mem _ (inAX5 w h)) hown hK.1 hP 0 rfl rfl 2 (by decide) (hts _ (List.mem_cons_of_mem _ fl_RX5_45)) (fun _ h9 => h9) rfl dX5_answer_6 ?_
    exact W.iret hx hb hr (fun t ht hW => ⟨_, rfl, (Option.some.inj hF), ht⟩) (fun _ h => nomatch h) dX5_answer_9
