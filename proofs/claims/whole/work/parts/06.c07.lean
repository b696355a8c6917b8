noncomputable def F_X6_leaveTrace (t0 : ST) (x1 : Int32) : Option ST :=
  some (st t0 0 0 ((31 * (t0 0 0)) + x1))
abbrev rm_X6_leaveTrace : Room := { frames := 0, cells := 0, slots := 0, locals := 0 }
set_option maxHeartbeats 4000000 in
set_option maxRecDepth 100000 in
theorem c_X6_leaveTrace (l : Launch) (D : va_G) (cI cS : ClassId) (a0 : Nat → Nat) (t0 : ST) (x1 : Int32) (t' : ST) (hF : F_X6_leaveTrace t0 x1 = some t') : Met l yX6_leaveTrace (Cond.code yX6_leaveTrace cX6_leaveTrace 2 none :: ALL) rm_X6_leaveTrace (PreW D cI cS [.ref (a0 0), .int x1] (pC cI cS a0 t0)) (va_Qv (fun (_ : Unit) => True) (fun _ t => va_P D vwCl (pC cI cS a0 t') t.heap) (AD (pC cI cS a0 t0))) 0 0 (AD (pC cI cS a0 t0)) := by
  refine mW l D cI cS (by decide) (Nat.le_of_ble_eq_true rfl) ?_
  intro p e s m below meth c ls hx hb hr hml hown hts hlocks hP hK hD hS hl
  have hown : s.vm.findClass RX6 = some m.cls := hown
  have hl : lv_has ls 2 [(0, .ref (a0 0)), (1, .int x1)] := hl
  unfold F_X6_leaveTrace at hF
  refine lv_aload_n hx hb dX6_leaveTrace_0 rfl (lv_at hl 0 rfl) ?_
  refine lv_bipush (v := 31) hx hb dX6_leaveTrace_1 (by decide) ?_
  refine lv_aload_n hx hb dX6_leaveTrace_3 rfl (lv_at hl 0 rfl) ?_
  refine va_get (D := D) (ci := 5) (v := .int (t0 0 0)) (C := RX6) (T := TX6) (N := 8) hx hb hts (fun w h => List.mem_cons_of_mem _ (inAX6 w h)) hown hK.1 hP 0 (at_C_0 cI cS _ _) rfl 6 (by decide) (hts _ (List.mem_cons_of_mem _ fl_RX6_244)) (fun _ h9 => h9) rfl dX6_leaveTrace_4 ?_
  refine lv_imul hx hb dX6_leaveTrace_7 ?_
  refine lv_iload_n hx hb dX6_leaveTrace_8 rfl (lv_at hl 1 rfl) ?_
  refine lv_iadd hx hb dX6_leaveTrace_9 ?_
  refine wF (ws' := pC cI cS a0 (st t0 0 0 ((31 * (t0 0 0)) + x1))) (C := RX6) (T := TX6) (N := 8) hx hb hts (fun w h => List.mem_cons_of_mem _ (inAX6 w h)) tyX6 tyX6_ok nmX6 hown hK.1 hP hD hS 0 (at_C_0 cI cS _ _) rfl 6 (by decide) (hts _ (List.mem_cons_of_mem _ fl_RX6_244)) rfl (tyX6_ok 6 (by decide)) rfl rfl (Nat.le_of_ble_eq_true rfl) (sf_C_0_6 cI cS _ _ _) dX6_leaveTrace_10 (fun H locs hP hD hS => ?_)
  exact W.vret hx hb hr (fun t ht hW => ⟨⟨(), rfl, trivial, by show va_P _ _ _ t.heap; rw [ht, ← (Option.some.inj hF)]; exact hP⟩, hS.F ht⟩) hS.2.2 dX6_leaveTrace_13
noncomputable def F_X6_tellAsBust (t0 : ST) (x1 : Int32) : Option (Int32 × ST) :=
  (F_X6_leaveTrace t0 1).bind fun u2 =>
  (rd 6 (u2 6) x1).bind fun v13 =>
  some (v13, u2)
abbrev rm_X6_tellAsBust : Room := { frames := 1, cells := 0, slots := 0, locals := 21 }
set_option maxHeartbeats 4000000 in
set_option maxRecDepth 100000 in
theorem c_X6_tellAsBust (l : Launch) (D : va_G) (cI cS : ClassId) (a0 : Nat → Nat) (t0 : ST) (x1 : Int32) (r : Int32) (t' : ST) (hF : F_X6_tellAsBust t0 x1 = some (r, t')) : Met l yX6_tellAsBust (Cond.code yX6_tellAsBust cX6_tellAsBust 2 (some .int) :: ALL) rm_X6_tellAsBust (PreW D cI cS [.ref (a0 0), .int x1] (pC cI cS a0 t0)) (va_Qi (fun x (_ : Unit) => x = r) (fun _ t => va_P D vwCl (pC cI cS a0 t') t.heap) (AD (pC cI cS a0 t0))) 0 0 (AD (pC cI cS a0 t0)) := by
  refine mW l D cI cS (by decide) (Nat.le_of_ble_eq_true rfl) ?_
  intro p e s m below meth c ls hx hb hr hml hown hts hlocks hP hK hD hS hl
  have hown : s.vm.findClass RX6 = some m.cls := hown
  have hl : lv_has ls 2 [(0, .ref (a0 0)), (1, .int x1)] := hl
  unfold F_X6_tellAsBust at hF
  refine lv_aload_n hx hb dX6_tellAsBust_0 rfl (lv_at hl 0 rfl) ?_
  refine lv_iconst (v := 1) hx hb dX6_tellAsBust_1 (by decide) ?_
  obtain ⟨u2, h2, hF⟩ := bd hF
  refine cAv (ws' := pC cI cS a0 u2) (va_runV (As := [.int 1]) (rest := []) ⟨hx, hb, hml, hown, hts⟩ (c_X6_leaveTrace l D cI cS a0 t0 1 u2 h2) (cwVA hts (TW.cons _) lv_X6_leaveTrace ml_RX6_241 ⟨rfl, rfl⟩ ⟨(Nat.le_of_ble_eq_true rfl), (Nat.le_of_ble_eq_true rfl)⟩) (pWV hK hP hD (ci := 5) rfl rfl) rfl rfl hl.1 rfl (lv_room (Nat.le_of_ble_eq_true rfl)) dX6_tellAsBust_2 ⟨Nat.le_refl _, Nat.le_refl _⟩) hD hS (ad_C cI cS _ _ _) (fun H locs hP hD hS => ?_)
  refine lv_aload_n hx hb dX6_tellAsBust_5 rfl (lv_at hl 0 rfl) ?_
  refine va_get (D := D) (ci := 5) (v := .ref (a0 3)) (C := RX6) (T := TX6) (N := 8) hx hb hts (fun w h => List.mem_cons_of_mem _ (inAX6 w h)) hown hK.1 hP 0 (at_C_0 cI cS _ _) rfl 1 (by decide) (hts _ (List.mem_cons_of_mem _ fl_RX6_21)) (fun _ h9 => h9) rfl dX6_tellAsBust_6 ?_
  refine va_getN (D := D) (ci := 0) (v := .ref (a0 6)) (C := RX0) (T := TX0) (N := 6) hx hb hts (fun w h => List.mem_cons_of_mem _ (inAX0 w h)) hown hK.1 hP 3 (at_C_3 cI cS _ _) rfl 5 (by decide) (nu_RX6_102 hK) (fun _ h9 => h9) rfl dX6_tellAsBust_9 ?_
  refine lv_iload_n hx hb dX6_tellAsBust_12 rfl (lv_at hl 1 rfl) ?_
  obtain ⟨v13, h13, hF⟩ := bd hF
  refine rI hx hb hK.1 hP 6 0 (at_C_6 cI cS _ _) rfl h13 dX6_tellAsBust_13 ?_
  exact W.iret hx hb hr (fun t ht hW => ⟨⟨_, (), rfl, (Prod.mk.inj (Option.some.inj hF)).1, by show va_P _ _ _ t.heap; rw [ht, ← (Prod.mk.inj (Option.some.inj hF)).2]; exact hP⟩, hS.F ht⟩) hS.2.2 dX6_tellAsBust_14
noncomputable def F_X6_tellAsNymph (t0 : ST) (x1 : Int32) : Option (Int32 × ST) :=
  (F_X6_leaveTrace t0 2).bind fun u2 =>
  b2 (F_X6_tellAsBust u2 x1) fun v7 u7 =>
  some ((v7 + 100), u7)
abbrev rm_X6_tellAsNymph : Room := { frames := 2, cells := 0, slots := 0, locals := 42 }
set_option maxHeartbeats 4000000 in
set_option maxRecDepth 100000 in
theorem c_X6_tellAsNymph (l : Launch) (D : va_G) (cI cS : ClassId) (a0 : Nat → Nat) (t0 : ST) (x1 : Int32) (r : Int32) (t' : ST) (hF : F_X6_tellAsNymph t0 x1 = some (r, t')) : Met l yX6_tellAsNymph (Cond.code yX6_tellAsNymph cX6_tellAsNymph 2 (some .int) :: ALL) rm_X6_tellAsNymph (PreW D cI cS [.ref (a0 0), .int x1] (pC cI cS a0 t0)) (va_Qi (fun x (_ : Unit) => x = r) (fun _ t => va_P D vwCl (pC cI cS a0 t') t.heap) (AD (pC cI cS a0 t0))) 0 0 (AD (pC cI cS a0 t0)) := by
  refine mW l D cI cS (by decide) (Nat.le_of_ble_eq_true rfl) ?_
  intro p e s m below meth c ls hx hb hr hml hown hts hlocks hP hK hD hS hl
  have hown : s.vm.findClass RX6 = some m.cls := hown
  have hl : lv_has ls 2 [(0, .ref (a0 0)), (1, .int x1)] := hl
  unfold F_X6_tellAsNymph at hF
  refine lv_aload_n hx hb dX6_tellAsNymph_0 rfl (lv_at hl 0 rfl) ?_
  refine lv_iconst (v := 2) hx hb dX6_tellAsNymph_1 (by decide) ?_
  obtain ⟨u2, h2, hF⟩ := bd hF
  refine cAv (ws' := pC cI cS a0 u2) (va_runV (As := [.int 2]) (rest := []) ⟨hx, hb, hml, hown, hts⟩ (c_X6_leaveTrace l D cI cS a0 t0 2 u2 h2) (cwVA hts (TW.cons _) lv_X6_leaveTrace ml_RX6_241 ⟨rfl, rfl⟩ ⟨(Nat.le_of_ble_eq_true rfl), (Nat.le_of_ble_eq_true rfl)⟩) (pWV hK hP hD (ci := 5) rfl rfl) rfl rfl hl.1 rfl (lv_room (Nat.le_of_ble_eq_true rfl)) dX6_tellAsNymph_2 ⟨Nat.le_refl _, Nat.le_refl _⟩) hD hS (ad_C cI cS _ _ _) (fun H locs hP hD hS => ?_)
  refine lv_aload_n hx hb dX6_tellAsNymph_5 rfl (lv_at hl 0 rfl) ?_
  refine lv_iload_n hx hb dX6_tellAsNymph_6 rfl (lv_at hl 1 rfl) ?_
  obtain ⟨v7, u7, h7, hF⟩ := bd2 hF
  refine cAe (ws' := pC cI cS a0 u7) (va_runV (As := [.int x1]) (rest := []) ⟨hx, hb, hml, hown, hts⟩ (c_X6_tellAsBust l D cI cS a0 u2 x1 v7 u7 h7) (cwVA hts (TW.cons _) lv_X6_tellAsBust ml_RX6_238 ⟨rfl, rfl⟩ ⟨(Nat.le_of_ble_eq_true rfl), (Nat.le_of_ble_eq_true rfl)⟩) (pWV hK hP hD (ci := 5) rfl rfl) rfl rfl hl.1 rfl (lv_room (Nat.le_of_ble_eq_true rfl)) dX6_tellAsNymph_7 ⟨Nat.le_refl _, Nat.le_refl _⟩) hD hS (ad_C cI cS _ _ _) (fun H locs hP hD hS => ?_)
  refine lv_bipush (v := 100) hx hb dX6_tellAsNymph_10 (by decide) ?_
  refine lv_iadd hx hb dX6_tellAsNymph_12 ?_
  exact W.iret hx hb hr (fun t ht hW => ⟨⟨_, (), rfl, (Prod.mk.inj (Option.some.inj hF)).1, by show va_P _ _ _ t.heap; rw [ht, ← (Prod.mk.inj (Option.some.inj hF)).2]; exact hP⟩, hS.F ht⟩) hS.2.2 dX6_tellAsNymph_13
noncomputable def F_X6_tellAsHorse (t0 : ST) (x1 : Int32) : Option (Int32 × ST) :=
  (F_X6_leaveTrace t0 3).bind fun u2 =>
  b2 (F_X6_tellAsNymph u2 x1) fun v7 u7 =>
  b2 (F_X6_tellAsBust u7 x1) fun v14 u14 =>
  some ((v7 + v14), u14)
abbrev rm_X6_tellAsHorse : Room := { frames := 3, cells := 0, slots := 0, locals := 63 }
set_option maxHeartbeats 4000000 in
set_option maxRecDepth 100000 in
theorem c_X6_tellAsHorse (l : Launch) (D : va_G) (cI cS : ClassId) (a0 : Nat → Nat) (t0 : ST) (x1 : Int32) (r : Int32) (t' : ST) (hF : F_X6_tellAsHorse t0 x1 = some (r, t')) : Met l yX6_tellAsHorse (Cond.code yX6_tellAsHorse cX6_tellAsHorse 3 (some .int) :: ALL) rm_X6_tellAsHorse (PreW D cI cS [.ref (a0 0), .int x1] (pC cI cS a0 t0)) (va_Qi (fun x (_ : Unit) => x = r) (fun _ t => va_P D vwCl (pC cI cS a0 t') t.heap) (AD (pC cI cS a0 t0))) 0 0 (AD (pC cI cS a0 t0)) := by
  refine mW l D cI cS (by decide) (Nat.le_of_ble_eq_true rfl) ?_
  intro p e s m below meth c ls hx hb hr hml hown hts hlocks hP hK hD hS hl
  have hown : s.vm.findClass RX6 = some m.cls := hown
  have hl : lv_has ls 3 [(0, .ref (a0 0)), (1, .int x1)] := hl
  unfold F_X6_tellAsHorse at hF
  refine lv_aload_n hx hb dX6_tellAsHorse_0 rfl (lv_at hl 0 rfl) ?_
  refine lv_iconst (v := 3) hx hb dX6_tellAsHorse_1 (by decide) ?_
  obtain ⟨u2, h2, hF⟩ := bd hF
  refine cAv (ws' := pC cI cS a0 u2) (va_runV (As := [.int 3]) (rest := []) ⟨hx, hb, hml, hown, hts⟩ (c_X6_leaveTrace l D cI cS a0 t0 3 u2 h2) (cwVA hts (TW.cons _) lv_X6_leaveTrace ml_RX6_241 ⟨rfl, rfl⟩ ⟨(Nat.le_of_ble_eq_true rfl), (Nat.le_of_ble_eq_true rfl)⟩) (pWV hK hP hD (ci := 5) rfl rfl) rfl rfl hl.1 rfl (lv_room (Nat.le_of_ble_eq_true rfl)) dX6_tellAsHorse_2 ⟨Nat.le_refl _, Nat.le_refl _⟩) hD hS (ad_C cI cS _ _ _) (fun H locs hP hD hS => ?_)
  refine lv_aload_n hx hb dX6_tellAsHorse_5 rfl (lv_at hl 0 rfl) ?_
  refine lv_iload_n hx hb dX6_tellAsHorse_6 rfl (lv_at hl 1 rfl) ?_
  obtain ⟨v7, u7, h7, hF⟩ := bd2 hF
  refine cAe (ws' := pC cI cS a0 u7) (va_runV (As := [.int x1]) (rest := []) ⟨hx, hb, hml, hown, hts⟩ (c_X6_tellAsNymph l D cI cS a0 u2 x1 v7 u7 h7) (cwVA hts (TW.cons _) lv_X6_tellAsNymph ml_RX6_235 ⟨rfl, rfl⟩ ⟨(Nat.le_of_ble_eq_true rfl), (Nat.le_of_ble_eq_true rfl)⟩) (pWV hK hP hD (ci := 5) rfl rfl) rfl rfl hl.1 rfl (lv_room (Nat.le_of_ble_eq_true rfl)) dX6_tellAsHorse_7 ⟨Nat.le_refl _, Nat.le_refl _⟩) hD hS (ad_C cI cS _ _ _) (fun H locs hP hD hS => ?_)
  refine lv_istore_n (lv' := [(2, .int v7), (0, .ref (a0 0)), (1, .int x1)]) hx hb dX6_tellAsHorse_10 rfl hl (by decide) rfl (fun ls hl => ?_)
  refine lv_iload_n hx hb dX6_tellAsHorse_11 rfl (lv_at hl 0 rfl) ?_
  refine lv_aload_n hx hb dX6_tellAsHorse_12 rfl (lv_at hl 1 rfl) ?_
  refine lv_iload_n hx hb dX6_tellAsHorse_13 rfl (lv_at hl 2 rfl) ?_
  obtain ⟨v14, u14, h14, hF⟩ := bd2 hF
  refine cAe (ws' := pC cI cS a0 u14) (va_runV (As := [.int x1]) (rest := [.int v7]) ⟨hx, hb, hml, hown, hts⟩ (c_X6_tellAsBust l D cI cS a0 u7 x1 v14 u14 h14) (cwVA hts (TW.cons _) lv_X6_tellAsBust ml_RX6_238 ⟨rfl, rfl⟩ ⟨(Nat.le_of_ble_eq_true rfl), (Nat.le_of_ble_eq_true rfl)⟩) (pWV hK hP hD (ci := 5) rfl rfl) rfl rfl hl.1 rfl (lv_room (Nat.le_of_ble_eq_true rfl)) dX6_tellAsHorse_14 ⟨Nat.le_refl _, Nat.le_refl _⟩) hD hS (ad_C cI cS _ _ _) (fun H locs hP hD hS => ?_)
  refine lv_iadd hx hb dX6_tellAsHorse_17 ?_
  exact W.iret hx hb hr (fun t ht hW => ⟨⟨_, (), rfl, (Prod.mk.inj (Option.some.inj hF)).1, by show va_P _ _ _ t.heap; rw [ht, ← (Prod.mk.inj (Option.some.inj hF)).2]; exact hP⟩, hS.F ht⟩) hS.2.2 dX6_tellAsHorse_18
noncomputable def F_X6_tell (t0 : ST) (x1 : Int32) : Option (Int32 × ST) :=
  (F_X0_has (sb t0 3) x1).bind fun v5 =>
  if v5 = 0 then
    some ((-1), t0)
  else
  (rd 6 (t0 4) x1).bind fun v21 =>
  if v21 = 1 then
    b2 (F_X6_tellAsNymph t0 x1) fun v56 u56 =>
    some (v56, u56)
  else
  if v21 = 2 then
    b2 (F_X6_tellAsHorse t0 x1) fun v50 u50 =>
    some (v50, u50)
  else
  b2 (F_X6_tellAsBust t0 x1) fun v62 u62 =>
  some (v62, u62)
abbrev rm_X6_tell : Room := { frames := 4, cells := 0, slots := 0, locals := 85 }
set_option maxHeartbeats 4000000 in
set_option maxRecDepth 100000 in
theorem c_X6_tell (l : Launch) (D : va_G) (cI cS : ClassId) (a0 : Nat → Nat) (t0 : ST) (x1 : Int32) (r : Int32) (t' : ST) (hF : F_X6_tell t0 x1 = some (r, t')) : Met l yX6_tell (Cond.code yX6_tell cX6_tell 2 (some .int) :: ALL) rm_X6_tell (PreW D cI cS [.ref (a0 0), .int x1] (pC cI cS a0 t0)) (va_Qi (fun x (_ : Unit) => x = r) (fun _ t => va_P D vwCl (pC cI cS a0 t') t.heap) (AD (pC cI cS a0 t0))) 0 0 (AD (pC cI cS a0 t0)) := by
  refine mW l D cI cS (by decide) (Nat.le_of_ble_eq_true rfl) ?_
  intro p e s m below meth c ls hx hb hr hml hown hts hlocks hP hK hD hS hl
  have hown : s.vm.findClass RX6 = some m.cls := hown
  have hl : lv_has ls 2 [(0, .ref (a0 0)), (1, .int x1)] := hl
  unfold F_X6_tell at hF
  refine lv_aload_n hx hb dX6_tell_0 rfl (lv_at hl 0 rfl) ?_
  refine va_get (D := D) (ci := 5) (v := .ref (a0 3)) (C := RX6) (T := TX6) (N := 8) hx hb hts (fun w h => List.mem_cons_of_mem _ (inAX6 w h)) hown hK.1 hP 0 (at_C_0 cI cS _ _) rfl 1 (by decide) (hts _ (List.mem_cons_of_mem _ fl_RX6_21)) (fun _ h9 => h9) rfl dX6_tell_1 ?_
  refine lv_iload_n hx hb dX6_tell_4 rfl (lv_at hl 1 rfl) ?_
  obtain ⟨v5, h5, hF⟩ := bd hF
  refine cRb (va_runV (As := [.int x1]) (rest := []) ⟨hx, hb, hml, hown, hts⟩ (c_X0_has l D cI cS (sa a0 3) (sb t0 3) x1 v5 h5) (cwVA hts (TW.cons _) lv_X0_has ml_RX6_92 ⟨rfl, rfl⟩ ⟨(Nat.le_of_ble_eq_true rfl), (Nat.le_of_ble_eq_true rfl)⟩) (pRV hK (hP.sub [3, 4, 5, 6] (su_C_B3 cI cS _ _)) (ci := 0) rfl rfl) rfl rfl hl.1 rfl (lv_room (Nat.le_of_ble_eq_true rfl)) dX6_tell_5 ⟨Nat.le_refl _, Nat.le_refl _⟩) (fun b5 => ?_)
  refine lv_if_ne (tgt := 13) hx hb dX6_tell_8 (by decide) (fun c8 => ?_) (fun c8 => ?_)
  · replace hF := iq c8 hF
    refine lv_aload_n hx hb dX6_tell_13 rfl (lv_at hl 0 rfl) ?_
    refine va_get (D := D) (ci := 5) (v := .ref (a0 3)) (C := RX6) (T := TX6) (N := 8) hx hb hts (fun w h => List.mem_cons_of_mem _ (inAX6 w h)) hown hK.1 hP 0 (at_C_0 cI cS _ _) rfl 1 (by decide) (hts _ (List.mem_cons_of_mem _ fl_RX6_21)) (fun _ h9 => h9) rfl dX6_tell_14 ?_
    refine va_getN (D := D) (ci := 0) (v := .ref (a0 4)) (C := RX0) (T := TX0) (N := 6) hx hb hts (fun w h => List.mem_cons_of_mem _ (inAX0 w h)) hown hK.1 hP 3 (at_C_3 cI cS _ _) rfl 3 (by decide) (nu_RX6_95 hK) (fun _ h9 => h9) rfl dX6_tell_17 ?_
    refine lv_iload_n hx hb dX6_tell_20 rfl (lv_at hl 1 rfl) ?_
    obtain ⟨v21, h21, hF⟩ := bd hF
    refine rI hx hb hK.1 hP 4 0 (at_C_4 cI cS _ _) rfl h21 dX6_tell_21 ?_
    by_cases c22_0 : v21 = 1
    · replace hF := ip c22_0 hF
      refine lv_lookup (off := 32) (tgt := 54) hx hb dX6_tell_22 (by decide) (by rw [c22_0]; decide) (by decide) ?_
      refine lv_aload_n hx hb dX6_tell_54 rfl (lv_at hl 0 rfl) ?_
      refine lv_iload_n hx hb dX6_tell_55 rfl (lv_at hl 1 rfl) ?_
      obtain ⟨v56, u56, h56, hF⟩ := bd2 hF
      refine cAe (ws' := pC cI cS a0 u56) (va_runV (As := [.int x1]) (rest := []) ⟨hx, hb, hml, hown, hts⟩ (c_X6_tellAsNymph l D cI cS a0 t0 x1 v56 u56 h56) (cwVA hts (TW.cons _) lv_X6_tellAsNymph ml_RX6_235 ⟨rfl, rfl⟩ ⟨(Nat.le_of_ble_eq_true rfl), (Nat.le_of_ble_eq_true rfl)⟩) (pWV hK hP hD (ci := 5) rfl rfl) rfl rfl hl.1 rfl (lv_room (Nat.le_of_ble_eq_true rfl)) dX6_tell_56 ⟨Nat.le_refl _, Nat.le_refl _⟩) hD hS (ad_C cI cS _ _ _) (fun H locs hP hD hS => ?_)
      exact W.iret hx hb hr (fun t ht hW => ⟨⟨_, (), rfl, (Prod.mk.inj (Option.some.inj hF)).1, by show va_P _ _ _ t.heap; rw [ht, ← (Prod.mk.inj (Option.some.inj hF)).2]; exact hP⟩, hS.F ht⟩) hS.2.2 dX6_tell_59
    replace hF := iq c22_0 hF
    by_cases c22_1 : v21 = 2
    · replace hF := ip c22_1 hF
      refine lv_lookup (off := 26) (tgt := 48) hx hb dX6_tell_22 (by decide) (by rw [c22_1]; decide) (by decide) ?_
      refine lv_aload_n hx hb dX6_tell_48 rfl (lv_at hl 0 rfl) ?_
      refine lv_iload_n hx hb dX6_tell_49 rfl (lv_at hl 1 rfl) ?_
      obtain ⟨v50, u50, h50, hF⟩ := bd2 hF
      refine cAe (ws' := pC cI cS a0 u50) (va_runV (As := [.int x1]) (rest := []) ⟨hx, hb, hml, hown, hts⟩ (c_X6_tellAsHorse l D cI cS a0 t0 x1 v50 u50 h50) (cwVA hts (TW.cons _) lv_X6_tellAsHorse ml_RX6_232 ⟨rfl, rfl⟩ ⟨(Nat.le_of_ble_eq_true rfl), (Nat.le_of_ble_eq_true rfl)⟩) (pWV hK hP hD (ci := 5) rfl rfl) rfl rfl hl.1 rfl (lv_room (Nat.le_of_ble_eq_true rfl)) dX6_tell_50 ⟨Nat.le_refl _, Nat.le_refl _⟩) hD hS (ad_C cI cS _ _ _) (fun H locs hP hD hS => ?_)
      exact W.iret hx hb hr (fun t ht hW => ⟨⟨_, (), rfl, (Prod.mk.inj (Option.some.inj hF)).1, by show va_P _ _ _ t.heap; rw [ht, ← (Prod.mk.inj (Option.some.inj hF)).2]; exact hP⟩, hS.F ht⟩) hS.2.2 dX6_tell_53
    replace hF := iq c22_1 hF
    refine lv_lookup (off := 38) (tgt := 60) hx hb dX6_tell_22 (by decide) (by show Op.lookupswitch.offset [(1, 32), (2, 26)] 38 _ = _; rw [lv_osw (a := 1) c22_0 rfl, lv_osw (a := 2) c22_1 rfl]; rfl) (by decide) ?_
    refine lv_aload_n hx hb dX6_tell_60 rfl (lv_at hl 0 rfl) ?_
    refine lv_iload_n hx hb dX6_tell_61 rfl (lv_at hl 1 rfl) ?_
    obtain ⟨v62, u62, h62, hF⟩ := bd2 hF
    refine cAe (ws' := pC cI cS a0 u62) (va_runV (As := [.int x1]) (rest := []) ⟨hx, hb, hml, hown, hts⟩ (c_X6_tellAsBust l D cI cS a0 t0 x1 v62 u62 h62) (cwVA hts (TW.cons _) lv_X6_tellAsBust ml_RX6_238 ⟨rfl, rfl⟩ ⟨(Nat.le_of_ble_eq_true rfl), (Nat.le_of_ble_eq_true rfl)⟩) (pWV hK hP hD (ci := 5) rfl rfl) rfl rfl hl.1 rfl (lv_room (Nat.le_of_ble_eq_true rfl)) dX6_tell_62 ⟨Nat.le_refl _, Nat.le_refl _⟩) hD hS (ad_C cI cS _ _ _) (fun H locs hP hD hS => ?_)
    exact W.iret hx hb hr (fun t ht hW => ⟨⟨_, (), rfl, (Prod.mk.inj (Option.some.inj hF)).1, by show va_P _ _ _ t.heap; rw [ht, ← (Prod.mk.inj (Option.some.inj hF)).2]; exact hP⟩, hS.F ht⟩) hS.2.2 dX6_tell_65
  · replace hF := ip c8 hF
    refine lv_iconst (v := (-1)) hx hb dX6_tell_11 (by decide) ?_
    exact W.iret hx hb hr (fun t ht hW => ⟨⟨_, (), rfl, (Prod.mk.inj (Option.some.inj hF)).1, by show va_P _ _ _ t.heap; rw [ht, ← (Prod.mk.inj (Option.some.inj hF)).2]; exact hP⟩, hS.F ht⟩) hS.2.2 dX6_tell_12
noncomputable def F_X6_sign (t0 : ST) (x1 : Int32) : Option (Int32 × ST) :=
  (F_X0_has (sb t0 3) x1).bind fun v5 =>
  if v5 = 0 then
    some ((-1), t0)
  else
  (rd 6 (t0 4) x1).bind fun v21 =>
  if v21 = 2 then
    (F_X6_leaveTrace t0 5).bind fun u28 =>
    some (40, u28)
  else
  (F_X6_leaveTrace t0 4).bind fun u36 =>
  some (x1, u36)
abbrev rm_X6_sign : Room := { frames := 1, cells := 0, slots := 0, locals := 21 }
set_option maxHeartbeats 4000000 in
set_option maxRecDepth 100000 in
theorem c_X6_sign (l : Launch) (D : va_G) (cI cS : ClassId) (a0 : Nat → Nat) (t0 : ST) (x1 : Int32) (r : Int32) (t' : ST) (hF : F_X6_sign t0 x1 = some (r, t')) : Met l yX6_sign (Cond.code yX6_sign cX6_sign 2 (some .int) :: ALL) rm_X6_sign (PreW D cI cS [.ref (a0 0), .int x1] (pC cI cS a0 t0)) (va_Qi (fun x (_ : Unit) => x = r) (fun _ t => va_P D vwCl (pC cI cS a0 t') t.heap) (AD (pC cI cS a0 t0))) 0 0 (AD (pC cI cS a0 t0)) := by
  refine mW l D cI cS (by decide) (Nat.le_of_ble_eq_true rfl) ?_
  intro p e s m below meth c ls hx hb hr hml hown hts hlocks hP hK hD hS hl
  have hown : s.vm.findClass RX6 = some m.cls := hown
  have hl : lv_has ls 2 [(0, .ref (a0 0)), (1, .int x1)] := hl
  unfold F_X6_sign at hF
  refine lv_aload_n hx hb dX6_sign_0 rfl (lv_at hl 0 rfl) ?_
  refine va_get (D := D) (ci := 5) (v := .ref (a0 3)) (C := RX6) (T := TX6) (N := 8) hx hb hts (fun w h => List.mem_cons_of_mem _ (inAX6 w h)) hown hK.1 hP 0 (at_C_0 cI cS _ _) rfl 1 (by decide) (hts _ (List.mem_cons_of_mem _ fl_RX6_21)) (fun _ h9 => h9) rfl dX6_sign_1 ?_
  refine lv_iload_n hx hb dX6_sign_4 rfl (lv_at hl 1 rfl) ?_
  obtain ⟨v5, h5, hF⟩ := bd hF
  refine cRb (va_runV (As := [.int x1]) (rest := []) ⟨hx, hb, hml, hown, hts⟩ (c_X0_has l D cI cS (sa a0 3) (sb t0 3) x1 v5 h5) (cwVA hts (TW.cons _) lv_X0_has ml_RX6_92 ⟨rfl, rfl⟩ ⟨(Nat.le_of_ble_eq_true rfl), (Nat.le_of_ble_eq_true rfl)⟩) (pRV hK (hP.sub [3, 4, 5, 6] (su_C_B3 cI cS _ _)) (ci := 0) rfl rfl) rfl rfl hl.1 rfl (lv_room (Nat.le_of_ble_eq_true rfl)) dX6_sign_5 ⟨Nat.le_refl _, Nat.le_refl _⟩) (fun b5 => ?_)
  refine lv_if_ne (tgt := 13) hx hb dX6_sign_8 (by decide) (fun c8 => ?_) (fun c8 => ?_)
  · replace hF := iq c8 hF
    refine lv_aload_n hx hb dX6_sign_13 rfl (lv_at hl 0 rfl) ?_
    refine va_get (D := D) (ci := 5) (v := .ref (a0 3)) (C := RX6) (T := TX6) (N := 8) hx hb hts (fun w h => List.mem_cons_of_mem _ (inAX6 w h)) hown hK.1 hP 0 (at_C_0 cI cS _ _) rfl 1 (by decide) (hts _ (List.mem_cons_of_mem _ fl_RX6_21)) (fun _ h9 => h9) rfl dX6_sign_14 ?_
    refine va_getN (D := D) (ci := 0) (v := .ref (a0 4)) (C := RX0) (T := TX0) (N := 6) hx hb hts (fun w h => List.mem_cons_of_mem _ (inAX0 w h)) hown hK.1 hP 3 (at_C_3 cI cS _ _) rfl 3 (by decide) (nu_RX6_95 hK) (fun _ h9 => h9) rfl dX6_sign_17 ?_
    refine lv_iload_n hx hb dX6_sign_20 rfl (lv_at hl 1 rfl) ?_
    obtain ⟨v21, h21, hF⟩ := bd hF
    refine rI hx hb hK.1 hP 4 0 (at_C_4 cI cS _ _) rfl h21 dX6_sign_21 ?_
    refine lv_iconst (v := 2) hx hb dX6_sign_22 (by decide) ?_
    refine lv_icmp_ne (tgt := 34) hx hb dX6_sign_23 (by decide) (fun c23 => ?_) (fun c23 => ?_)
    · replace hF := iq c23 hF
      refine lv_aload_n hx hb dX6_sign_34 rfl (lv_at hl 0 rfl) ?_
      refine lv_iconst (v := 4) hx hb dX6_sign_35 (by decide) ?_
      obtain ⟨u36, h36, hF⟩ := bd hF
      refine cAv (ws' := pC cI cS a0 u36) (va_runV (As := [.int 4]) (rest := []) ⟨hx, hb, hml, hown, hts⟩ (c_X6_leaveTrace l D cI cS a0 t0 4 u36 h36) (cwVA hts (TW.cons _) lv_X6_leaveTrace ml_RX6_241 ⟨rfl, rfl⟩ ⟨(Nat.le_of_ble_eq_true rfl), (Nat.le_of_ble_eq_true rfl)⟩) (pWV hK hP hD (ci := 5) rfl rfl) rfl rfl hl.1 rfl (lv_room (Nat.le_of_ble_eq_true rfl)) dX6_sign_36 ⟨Nat.le_refl _, Nat.le_refl _⟩) hD hS (ad_C cI cS _ _ _) (fun H locs hP hD hS => ?_)
      refine lv_iload_n hx hb dX6_sign_39 rfl (lv_at hl 1 rfl) ?_
      exact W.iret hx hb hr (fun t ht hW => ⟨⟨_, (), rfl, (Prod.mk.inj (Option.some.inj hF)).1, by show va_P _ _ _ t.heap; rw [ht, ← (Prod.mk.inj (Option.some.inj hF)).2]; exact hP⟩, hS.F ht⟩) hS.2.2 dX6_sign_40
    · replace hF := ip c23 hF
      refine lv_aload_n hx hb dX6_sign_26 rfl (lv_at hl 0 rfl) ?_
      refine lv_iconst (v := 5) hx hb dX6_sign_27 (by decide) ?_
      obtain ⟨u28, h28, hF⟩ := bd hF
      refine cAv (ws' := pC cI cS a0 u28) (va_runV (As := [.int 5]) (rest := []) ⟨hx, hb, hml, hown, hts⟩ (c_X6_leaveTrace l D cI cS a0 t0 5 u28 h28) (cwVA hts (TW.cons _) lv_X6_leaveTrace ml_RX6_241 ⟨rfl, rfl⟩ ⟨(Nat.le_of_ble_eq_true rfl), (Nat.le_of_ble_eq_true rfl)⟩) (pWV hK hP hD (ci := 5) rfl rfl) rfl rfl hl.1 rfl (lv_room (Nat.le_of_ble_eq_true rfl)) dX6_sign_28 ⟨Nat.le_refl _, Nat.le_refl _⟩) hD hS (ad_C cI cS _ _ _) (fun H locs hP hD hS => ?_)
      refine lv_bipush (v := 40) hx hb dX6_sign_31 (by decide) ?_
      exact W.iret hx hb hr (fun t ht hW => ⟨⟨_, (), rfl, (Prod.mk.inj (Option.some.inj hF)).1, by show va_P _ _ _ t.heap; rw [ht, ← (Prod.mk.inj (Option.some.inj hF)).2]; exact hP⟩, hS.F ht⟩) hS.2.2 dX6_sign_33
  · replace hF := ip c8 hF
    refine lv_iconst (v := (-1)) hx hb dX6_sign_11 (by decide) ?_
    exact W.iret hx hb hr (fun t ht hW => ⟨⟨_, (), rfl, (Prod.mk.inj (Option.some.inj hF)).1, by show va_P _ _ _ t.heap; rw [ht, ← (Prod.mk.inj (Option.some.inj hF)).2]; exact hP⟩, hS.F ht⟩) hS.2.2 dX6_sign_12
noncomputable def F_X6_as (t0 : ST) (x1 : Int32) (x2 : Int32) : Option (Int32 × ST) :=
  (F_X0_has (sb t0 3) x1).bind fun v5 =>
  if v5 = 0 then
    b2 (F_X6_withoutFault t0 (-1)) fun v13 u13 =>
    some (v13, u13)
  else
  if x2 < 0 then
    b2 (F_X6_withoutFault t0 (-2)) fun v29 u29 =>
    some (v29, u29)
  else
  if x2 < 3 then
    (rd 6 (t0 4) x1).bind fun v41 =>
    if x2 ≤ v41 then
      b2 (F_X6_withoutFault t0 1) fun v56 u56 =>
      some (v56, u56)
    else
    b2 (F_X6_withFault t0 2) fun v48 u48 =>
    some (v48, u48)
  else
  b2 (F_X6_withoutFault t0 (-2)) fun v29 u29 =>
  some (v29, u29)
abbrev rm_X6_as : Room := { frames := 1, cells := 0, slots := 0, locals := 21 }
set_option maxHeartbeats 4000000 in
set_option maxRecDepth 100000 in
theorem c_X6_as (l : Launch) (D : va_G) (cI cS : ClassId) (a0 : Nat → Nat) (t0 : ST) (x1 : Int32) (x2 : Int32) (r : Int32) (t' : ST) (hF : F_X6_as t0 x1 x2 = some (r, t')) : Met l yX6_as (Cond.code yX6_as cX6_as 3 (some .int) :: ALL) rm_X6_as (PreW D cI cS [.ref (a0 0), .int x1, .int x2] (pC cI cS a0 t0)) (va_Qi (fun x (_ : Unit) => x = r) (fun _ t => va_P D vwCl (pC cI cS a0 t') t.heap) (AD (pC cI cS a0 t0))) 0 0 (AD (pC cI cS a0 t0)) := by
  refine mW l D cI cS (by decide) (Nat.le_of_ble_eq_true rfl) ?_
  intro p e s m below meth c ls hx hb hr hml hown hts hlocks hP hK hD hS hl
  have hown : s.vm.findClass RX6 = some m.cls := hown
  have hl : lv_has ls 3 [(0, .ref (a0 0)), (1, .int x1), (2, .int x2)] := hl
  unfold F_X6_as at hF
  refine lv_aload_n hx hb dX6_as_0 rfl (lv_at hl 0 rfl) ?_
  refine va_get (D := D) (ci := 5) (v := .ref (a0 3)) (C := RX6) (T := TX6) (N := 8) hx hb hts (fun w h => List.mem_cons_of_mem _ (inAX6 w h)) hown hK.1 hP 0 (at_C_0 cI cS _ _) rfl 1 (by decide) (hts _ (List.mem_cons_of_mem _ fl_RX6_21)) (fun _ h9 => h9) rfl dX6_as_1 ?_
  refine lv_iload_n hx hb dX6_as_4 rfl (lv_at hl 1 rfl) ?_
  obtain ⟨v5, h5, hF⟩ := bd hF
  refine cRb (va_runV (As := [.int x1]) (rest := []) ⟨hx, hb, hml, hown, hts⟩ (c_X0_has l D cI cS (sa a0 3) (sb t0 3) x1 v5 h5) (cwVA hts (TW.cons _) lv_X0_has ml_RX6_92 ⟨rfl, rfl⟩ ⟨(Nat.le_of_ble_eq_true rfl), (Nat.le_of_ble_eq_true rfl)⟩) (pRV hK (hP.sub [3, 4, 5, 6] (su_C_B3 cI cS _ _)) (ci := 0) rfl rfl) rfl rfl hl.1 rfl (lv_room (Nat.le_of_ble_eq_true rfl)) dX6_as_5 ⟨Nat.le_refl _, Nat.le_refl _⟩) (fun b5 => ?_)
  refine lv_if_ne (tgt := 17) hx hb dX6_as_8 (by decide) (fun c8 => ?_) (fun c8 => ?_)
  · replace hF := iq c8 hF
    refine lv_iload_n hx hb dX6_as_17 rfl (lv_at hl 2 rfl) ?_
    refine lv_if_lt (tgt := 26) hx hb dX6_as_18 (by decide) (fun c18 => ?_) (fun c18 => ?_)
    · replace hF := ip c18 hF
      refine lv_aload_n hx hb dX6_as_26 rfl (lv_at hl 0 rfl) ?_
      refine lv_bipush (v := (-2)) hx hb dX6_as_27 (by decide) ?_
      obtain ⟨v29, u29, h29, hF⟩ := bd2 hF
      refine cAe (ws' := pC cI cS a0 u29) (va_runV (As := [.int (-2)]) (rest := []) ⟨hx, hb, hml, hown, hts⟩ (c_X6_withoutFault l D cI cS a0 t0 (-2) v29 u29 h29) (cwVA hts (TW.cons _) lv_X6_withoutFault ml_RX6_53 ⟨rfl, rfl⟩ ⟨(Nat.le_of_ble_eq_true rfl), (Nat.le_of_ble_eq_true rfl)⟩) (pWV hK hP hD (ci := 5) rfl rfl) rfl rfl hl.1 rfl (lv_room (Nat.le_of_ble_eq_true rfl)) dX6_as_29 ⟨Nat.le_refl _, Nat.le_refl _⟩) hD hS (ad_C cI cS _ _ _) (fun H locs hP hD hS => ?_)
      exact W.iret hx hb hr (fun t ht hW => ⟨⟨_, (), rfl, (Prod.mk.inj (Option.some.inj hF)).1, by show va_P _ _ _ t.heap; rw [ht, ← (Prod.mk.inj (Option.some.inj hF)).2]; exact hP⟩, hS.F ht⟩) hS.2.2 dX6_as_32
    · replace hF := iq c18 hF
      refine lv_iload_n hx hb dX6_as_21 rfl (lv_at hl 2 rfl) ?_
      refine lv_iconst (v := 3) hx hb dX6_as_22 (by decide) ?_
      refine lv_icmp_lt (tgt := 33) hx hb dX6_as_23 (by decide) (fun c23 => ?_) (fun c23 => ?_)
      · replace hF := ip c23 hF
        refine lv_aload_n hx hb dX6_as_33 rfl (lv_at hl 0 rfl) ?_
        refine va_get (D := D) (ci := 5) (v := .ref (a0 3)) (C := RX6) (T := TX6) (N := 8) hx hb hts (fun w h => List.mem_cons_of_mem _ (inAX6 w h)) hown hK.1 hP 0 (at_C_0 cI cS _ _) rfl 1 (by decide) (hts _ (List.mem_cons_of_mem _ fl_RX6_21)) (fun _ h9 => h9) rfl dX6_as_34 ?_
        refine va_getN (D := D) (ci := 0) (v := .ref (a0 4)) (C := RX0) (T := TX0) (N := 6) hx hb hts (fun w h => List.mem_cons_of_mem _ (inAX0 w h)) hown hK.1 hP 3 (at_C_3 cI cS _ _) rfl 3 (by decide) (nu_RX6_95 hK) (fun _ h9 => h9) rfl dX6_as_37 ?_
        refine lv_iload_n hx hb dX6_as_40 rfl (lv_at hl 1 rfl) ?_
        obtain ⟨v41, h41, hF⟩ := bd hF
        refine rI hx hb hK.1 hP 4 0 (at_C_4 cI cS _ _) rfl h41 dX6_as_41 ?_
        refine lv_iload_n hx hb dX6_as_42 rfl (lv_at hl 2 rfl) ?_
        refine lv_icmp_ge (tgt := 54) hx hb dX6_as_43 (by decide) (fun c43 => ?_) (fun c43 => ?_)
        · replace hF := ip c43 hF
          refine lv_aload_n hx hb dX6_as_54 rfl (lv_at hl 0 rfl) ?_
          refine lv_iconst (v := 1) hx hb dX6_as_55 (by decide) ?_
          obtain ⟨v56, u56, h56, hF⟩ := bd2 hF
          refine cAe (ws' := pC cI cS a0 u56) (va_runV (As := [.int 1]) (rest := []) ⟨hx, hb, hml, hown, hts⟩ (c_X6_withoutFault l D cI cS a0 t0 1 v56 u56 h56) (cwVA hts (TW.cons _) lv_X6_withoutFault ml_RX6_53 ⟨rfl, rfl⟩ ⟨(Nat.le_of_ble_eq_true rfl), (Nat.le_of_ble_eq_true rfl)⟩) (pWV hK hP hD (ci := 5) rfl rfl) rfl rfl hl.1 rfl (lv_room (Nat.le_of_ble_eq_true rfl)) dX6_as_56 ⟨Nat.le_refl _, Nat.le_refl _⟩) hD hS (ad_C cI cS _ _ _) (fun H locs hP hD hS => ?_)
          exact W.iret hx hb hr (fun t ht hW => ⟨⟨_, (), rfl, (Prod.mk.inj (Option.some.inj hF)).1, by show va_P _ _ _ t.heap; rw [ht, ← (Prod.mk.inj (Option.some.inj hF)).2]; exact hP⟩, hS.F ht⟩) hS.2.2 dX6_as_59
        · replace hF := iq c43 hF
          refine lv_aload_n hx hb dX6_as_46 rfl (lv_at hl 0 rfl) ?_
          refine lv_iconst (v := 2) hx hb dX6_as_47 (by decide) ?_
          obtain ⟨v48, u48, h48, hF⟩ := bd2 hF
          refine cAe (ws' := pC cI cS a0 u48) (va_runV (As := [.int 2]) (rest := []) ⟨hx, hb, hml, hown, hts⟩ (c_X6_withFault l D cI cS a0 t0 2 v48 u48 h48) (cwVA hts (TW.cons _) lv_X6_withFault ml_RX6_64 ⟨rfl, rfl⟩ ⟨(Nat.le_of_ble_eq_true rfl), (Nat.le_of_ble_eq_true rfl)⟩) (pWV hK hP hD (ci := 5) rfl rfl) rfl rfl hl.1 rfl (lv_room (Nat.le_of_ble_eq_true rfl)) dX6_as_48 ⟨Nat.le_refl _, Nat.le_refl _⟩) hD hS (ad_C cI cS _ _ _) (fun H locs hP hD hS => ?_)
          refine lv_goto (tgt := 59) hx hb dX6_as_51 (by decide) ?_
          exact W.iret hx hb hr (fun t ht hW => ⟨⟨_, (), rfl, (Prod.mk.inj (Option.some.inj hF)).1, by show va_P _ _ _ t.heap; rw [ht, ← (Prod.mk.inj (Option.some.inj hF)).2]; exact hP⟩, hS.F ht⟩) hS.2.2 dX6_as_59
      · replace hF := iq c23 hF
        refine lv_aload_n hx hb dX6_as_26 rfl (lv_at hl 0 rfl) ?_
        refine lv_bipush (v := (-2)) hx hb dX6_as_27 (by decide) ?_
        obtain ⟨v29, u29, h29, hF⟩ := bd2 hF
        refine cAe (ws' := pC cI cS a0 u29) (va_runV (As := [.int (-2)]) (rest := []) ⟨hx, hb, hml, hown, hts⟩ (c_X6_withoutFault l D cI cS a0 t0 (-2) v29 u29 h29) (cwVA hts (TW.cons _) lv_X6_withoutFault ml_RX6_53 ⟨rfl, rfl⟩ ⟨(Nat.le_of_ble_eq_true rfl), (Nat.le_of_ble_eq_true rfl)⟩) (pWV hK hP hD (ci := 5) rfl rfl) rfl rfl hl.1 rfl (lv_room (Nat.le_of_ble_eq_true rfl)) dX6_as_29 ⟨Nat.le_refl _, Nat.le_refl _⟩) hD hS (ad_C cI cS _ _ _) (fun H locs hP hD hS => ?_)
        exact W.iret hx hb hr (fun t ht hW => ⟨⟨_, (), rfl, (Prod.mk.inj (Option.some.inj hF)).1, by show va_P _ _ _ t.heap; rw [ht, ← (Prod.mk.inj (Option.some.inj hF)).2]; exact hP⟩, hS.F ht⟩) hS.2.2 dX6_as_32
  · replace hF := ip c8 hF
    refine lv_aload_n hx hb dX6_as_11 rfl (lv_at hl 0 rfl) ?_
    refine lv_iconst (v := (-1)) hx hb dX6_as_12 (by decide) ?_
    obtain ⟨v13, u13, h13, hF⟩ := bd2 hF
    refine cAe (ws' := pC cI cS a0 u13) (va_runV (As := [.int (-1)]) (rest := []) ⟨hx, hb, hml, hown, hts⟩ (c_X6_withoutFault l D cI cS a0 t0 (-1) v13 u13 h13) (cwVA hts (TW.cons _) lv_X6_withoutFault ml_RX6_53 ⟨rfl, rfl⟩ ⟨(Nat.le_of_ble_eq_true rfl), (Nat.le_of_ble_eq_true rfl)⟩) (pWV hK hP hD (ci := 5) rfl rfl) rfl rfl hl.1 rfl (lv_room (Nat.le_of_ble_eq_true rfl)) dX6_as_13 ⟨Nat.le_refl _, Nat.le_refl _⟩) hD hS (ad_C cI cS _ _ _) (fun H locs hP hD hS => ?_)
    exact W.iret hx hb hr (fun t ht hW => ⟨⟨_, (), rfl, (Prod.mk.inj (Option.some.inj hF)).1, by show va_P _ _ _ t.heap; rw [ht, ← (Prod.mk.inj (Option.some.inj hF)).2]; exact hP⟩, hS.F ht⟩) hS.2.2 dX6_as_16
noncomputable def F_X6_trace (t0 : ST) : Option Int32 :=
  some (t0 0 0)
abbrev rm_X6_trace : Room := { frames := 0, cells := 0, slots := 0, locals := 0 }
set_option maxHeartbeats 4000000 in
set_option maxRecDepth 100000 in
theorem c_X6_trace (l : Launch) (D : va_G) (cI cS : ClassId) (a0 : Nat → Nat) (t0 : ST) (r : Int32) (hF : F_X6_trace t0 = some r) : Met l yX6_trace (Cond.code yX6_trace cX6_trace 1 (some .int) :: ALL) rm_X6_trace (PreR D cI cS [.ref (a0 0)] (pC cI cS a0 t0)) (vp_Si (fun x => x = r)) 0 0 (fun _ => False) := by
  refine mR l D cI cS (by decide) (Nat.le_of_ble_eq_true rfl) ?_
  intro p e s m below meth c ls hx hb hr hml hown hts hlocks hP hK hl
  have hown : s.vm.findClass RX6 = some m.cls := hown
  have hl : lv_has ls 1 [(0, .ref (a0 0))] := hl
  unfold F_X6_trace at hF
  refine lv_aload_n hx hb dX6_trace_0 rfl (lv_at hl 0 rfl) ?_
  refine va_get (D := D) (ci := 5) (v := .int (t0 0 0)) (C := RX6) (T := TX6) (N := 8) hx hb hts (fun w h => List.mem_cons_of_mem _ (inAX6 w h)) hown hK.1 hP 0 (at_C_0 cI cS _ _) rfl 6 (by decide) (hts _ (List.mem_cons_of_mem _ fl_RX6_244)) (fun _ h9 => h9) rfl dX6_trace_1 ?_
  exact W.iret hx hb hr (fun t ht hW => ⟨_, rfl, (Option.some.inj hF), ht⟩) (fun _ h => nomatch h) dX6_trace_4
noncomputable def F_X6_fault (t0 : ST) : Option Int32 :=
  some (t0 0 1)
abbrev rm_X6_fault : Room := { frames := 0, cells := 0, slots := 0, locals := 0 }
set_option maxHeartbeats 4000000 in
set_option maxRecDepth 100000 in
theorem c_X6_fault (l : Launch) (D : va_G) (cI cS : ClassId) (a0 : Nat → Nat) (t0 : ST) (r : Int32) (hF : F_X6_fault t0 = some r) : Met l yX6_fault (Cond.code yX6_fault cX6_fault 1 (some .int) :: ALL) rm_X6_fault (PreR D cI cS [.ref (a0 0)] (pC cI cS a0 t0)) (vp_Si (fun x => x = r)) 0 0 (fun _ => False) := by
  refine mR l D cI cS (by decide) (Nat.le_of_ble_eq_true rfl) ?_
  intro p e s m below meth c ls hx hb hr hml hown hts hlocks hP hK hl
  have hown : s.vm.findClass RX6 = some m.cls := hown
  have hl : lv_has ls 1 [(0, .ref (a0 0))] := hl
  unfold F_X6_fault at hF
  refine lv_aload_n hx hb dX6_fault_0 rfl (lv_at hl 0 rfl) ?_
  refine va_get (D := D) (ci := 5) (v := .int (t0 0 1)) (C := RX6) (T := TX6) (N := 8) hx hb hts (fun w h => List.mem_cons_of_mem _ (inAX6 w h)) hown hK.1 hP 0 (at_C_0 cI cS _ _) rfl 7 (by decide) (hts _ (List.mem_cons_of_mem _ fl_RX6_217)) (fun _ h9 => h9) rfl dX6_fault_1 ?_
  exact W.iret hx hb hr (fun t ht hW => ⟨_, rfl, (Option.some.inj hF), ht⟩) (fun _ h => nomatch h) dX6_fault_4
noncomputable def F_X6_many (t0 : ST) (x1 : Int32) : Option Int32 :=
  if x1 = 0 then
    some (t0 3 0)
  else
  if x1 = 1 then
    some (t0 1 0)
  else
  if x1 = 2 then
    some (t0 3 1)
  else
  if x1 = 3 then
    (F_J6_bitCount_0f7a4 (t0 3 2)).bind fun v67 =>
    some v67
  else
  if x1 = 4 then
    some (t0 16 0)
  else
  some (-2)
abbrev rm_X6_many : Room := { frames := 1, cells := 0, slots := 0, locals := 20 }
set_option maxHeartbeats 4000000 in
set_option maxRecDepth 100000 in
theorem c_X6_many (l : Launch) (D : va_G) (cI cS : ClassId) (a0 : Nat → Nat) (t0 : ST) (x1 : Int32) (r : Int32) (hF : F_X6_many t0 x1 = some r) : Met l yX6_many (Cond.code yX6_many cX6_many 2 (some .int) :: ALL) rm_X6_many (PreR D cI cS [.ref (a0 0), .int x1] (pC cI cS a0 t0)) (vp_Si (fun x => x = r)) 0 0 (fun _ => False) := by
  refine mR l D cI cS (by decide) (Nat.le_of_ble_eq_true rfl) ?_
  intro p e s m below meth c ls hx hb hr hml hown hts hlocks hP hK hl
  have hown : s.vm.findClass RX6 = some m.cls := hown
  have hl : lv_has ls 2 [(0, .ref (a0 0)), (1, .int x1)] := hl
  unfold F_X6_many at hF
  refine lv_iload_n hx hb dX6_many_0 rfl (lv_at hl 1 rfl) ?_
  by_cases c1_0 : x1 = 0
  · replace hF := ip c1_0 hF
    refine lv_tableIn (off := 35) (tgt := 36) hx hb dX6_many_1 (by rw [c1_0]; decide) (by rw [c1_0]; decide) (by rw [c1_0]; decide) (by decide) ?_
    refine lv_aload_n hx hb dX6_many_36 rfl (lv_at hl 0 rfl) ?_
    refine va_get (D := D) (ci := 5) (v := .ref (a0 3)) (C := RX6) (T := TX6) (N := 8) hx hb hts (fun w h => List.mem_cons_of_mem _ (inAX6 w h)) hown hK.1 hP 0 (at_C_0 cI cS _ _) rfl 1 (by decide) (hts _ (List.mem_cons_of_mem _ fl_RX6_21)) (fun _ h9 => h9) rfl dX6_many_37 ?_
    refine va_getN (D := D) (ci := 0) (v := .int (t0 3 0)) (C := RX0) (T := TX0) (N := 6) hx hb hts (fun w h => List.mem_cons_of_mem _ (inAX0 w h)) hown hK.1 hP 3 (at_C_3 cI cS _ _) rfl 0 (by decide) (nu_RX6_88 hK) (fun _ h9 => h9) rfl dX6_many_40 ?_
    exact W.iret hx hb hr (fun t ht hW => ⟨_, rfl, (Option.some.inj hF), ht⟩) (fun _ h => nomatch h) dX6_many_43
  replace hF := iq c1_0 hF
  by_cases c1_1 : x1 = 1
  · replace hF := ip c1_1 hF
    refine lv_tableIn (off := 43) (tgt := 44) hx hb dX6_many_1 (by rw [c1_1]; decide) (by rw [c1_1]; decide) (by rw [c1_1]; decide) (by decide) ?_
    refine lv_aload_n hx hb dX6_many_44 rfl (lv_at hl 0 rfl) ?_
    refine va_get (D := D) (ci := 5) (v := .ref (a0 1)) (C := RX6) (T := TX6) (N := 8) hx hb hts (fun w h => List.mem_cons_of_mem _ (inAX6 w h)) hown hK.1 hP 0 (at_C_0 cI cS _ _) rfl 0 (by decide) (hts _ (List.mem_cons_of_mem _ fl_RX6_12)) (fun _ h9 => h9) rfl dX6_many_45 ?_
    refine va_getN (D := D) (ci := 1) (v := .int (t0 1 0)) (C := RX1) (T := TX1) (N := 2) hx hb hts (fun w h => List.mem_cons_of_mem _ (inAX1 w h)) hown hK.1 hP 1 (at_C_1 cI cS _ _) rfl 0 (by decide) (nu_RX6_127 hK) (fun _ h9 => h9) rfl dX6_many_48 ?_
    exact W.iret hx hb hr (fun t ht hW => ⟨_, rfl, (Option.some.inj hF), ht⟩) (fun _ h => nomatch h) dX6_many_51
  replace hF := iq c1_1 hF
  by_cases c1_2 : x1 = 2
  · replace hF := ip c1_2 hF
    refine lv_tableIn (off := 51) (tgt := 52) hx hb dX6_many_1 (by rw [c1_2]; decide) (by rw [c1_2]; decide) (by rw [c1_2]; decide) (by decide) ?_
    refine lv_aload_n hx hb dX6_many_52 rfl (lv_at hl 0 rfl) ?_
    refine va_get (D := D) (ci := 5) (v := .ref (a0 3)) (C := RX6) (T := TX6) (N := 8) hx hb hts (fun w h => List.mem_cons_of_mem _ (inAX6 w h)) hown hK.1 hP 0 (at_C_0 cI cS _ _) rfl 1 (by decide) (hts _ (List.mem_cons_of_mem _ fl_RX6_21)) (fun _ h9 => h9) rfl dX6_many_53 ?_
    refine va_getN (D := D) (ci := 0) (v := .int (t0 3 1)) (C := RX0) (T := TX0) (N := 6) hx hb hts (fun w h => List.mem_cons_of_mem _ (inAX0 w h)) hown hK.1 hP 3 (at_C_3 cI cS _ _) rfl 1 (by decide) (nu_RX6_247 hK) (fun _ h9 => h9) rfl dX6_many_56 ?_
    exact W.iret hx hb hr (fun t ht hW => ⟨_, rfl, (Option.some.inj hF), ht⟩) (fun _ h => nomatch h) dX6_many_59
  replace hF := iq c1_2 hF
  by_cases c1_3 : x1 = 3
  · replace hF := ip c1_3 hF
    refine lv_tableIn (off := 59) (tgt := 60) hx hb dX6_many_1 (by rw [c1_3]; decide) (by rw [c1_3]; decide) (by rw [c1_3]; decide) (by decide) ?_
    refine lv_aload_n hx hb dX6_many_60 rfl (lv_at hl 0 rfl) ?_
    refine va_get (D := D) (ci := 5) (v := .ref (a0 3)) (C := RX6) (T := TX6) (N := 8) hx hb hts (fun w h => List.mem_cons_of_mem _ (inAX6 w h)) hown hK.1 hP 0 (at_C_0 cI cS _ _) rfl 1 (by decide) (hts _ (List.mem_cons_of_mem _ fl_RX6_21)) (fun _ h9 => h9) rfl dX6_many_61 ?_
    refine va_getN (D := D) (ci := 0) (v := .int (t0 3 2)) (C := RX0) (T := TX0) (N := 6) hx hb hts (fun w h => List.mem_cons_of_mem _ (inAX0 w h)) hown hK.1 hP 3 (at_C_3 cI cS _ _) rfl 2 (by decide) (nu_RX6_144 hK) (fun _ h9 => h9) rfl dX6_many_64 ?_
    obtain ⟨v67, h67, hF⟩ := bd hF
    refine cRe (va_runS (As := [.int (t0 3 2)]) (rest := []) ⟨hx, hb, hml, hown, hts⟩ (c_J6_bitCount_0f7a4 l D cI cS (t0 3 2) v67 h67) (cwSA hts (TW.cons _) ls_J6_bitCount_0f7a4 ml_RX6_111 ⟨rfl, rfl⟩ ⟨(Nat.le_of_ble_eq_true rfl), (Nat.le_of_ble_eq_true rfl)⟩) (pRS hK pnil) rfl rfl hl.1 rfl (lv_room (Nat.le_of_ble_eq_true rfl)) dX6_many_67 ⟨Nat.le_refl _, Nat.le_refl _⟩) ?_
    exact W.iret hx hb hr (fun t ht hW => ⟨_, rfl, (Option.some.inj hF), ht⟩) (fun _ h => nomatch h) dX6_many_70
  replace hF := iq c1_3 hF
  by_cases c1_4 : x1 = 4
  · replace hF := ip c1_4 hF
    refine lv_tableIn (off := 70) (tgt := 71) hx hb dX6_many_1 (by rw [c1_4]; decide) (by rw [c1_4]; decide) (by rw [c1_4]; decide) (by decide) ?_
    refine lv_aload_n hx hb dX6_many_71 rfl (lv_at hl 0 rfl) ?_
    refine va_get (D := D) (ci := 5) (v := .ref (a0 16)) (C := RX6) (T := TX6) (N := 8) hx hb hts (fun w h => List.mem_cons_of_mem _ (inAX6 w h)) hown hK.1 hP 0 (at_C_0 cI cS _ _) rfl 4 (by decide) (hts _ (List.mem_cons_of_mem _ fl_RX6_38)) (fun _ h9 => h9) rfl dX6_many_72 ?_
    refine va_getN (D := D) (ci := 2) (v := .int (t0 16 0)) (C := RX2) (T := TX2) (N := 4) hx hb hts (fun w h => List.mem_cons_of_mem _ (inAX2 w h)) hown hK.1 hP 16 (at_C_16 cI cS _ _) rfl 0 (by decide) (nu_RX6_192 hK) (fun _ h9 => h9) rfl dX6_many_75 ?_
    exact W.iret hx hb hr (fun t ht hW => ⟨_, rfl, (Option.some.inj hF), ht⟩) (fun _ h => nomatch h) dX6_many_78
  replace hF := iq c1_4 hF
  refine lv_tableOut (tgt := 79) hx hb dX6_many_1 (by have g0 := ne_toInt c1_0 (k := 0) rfl; have g1 := ne_toInt c1_1 (k := 1) rfl; have g2 := ne_toInt c1_2 (k := 2) rfl; have g3 := ne_toInt c1_3 (k := 3) rfl; have g4 := ne_toInt c1_4 (k := 4) rfl; omega) (by decide) ?_
  refine lv_bipush (v := (-2)) hx hb dX6_many_79 (by decide) ?_
  exact W.iret hx hb hr (fun t ht hW => ⟨_, rfl, (Option.some.inj hF), ht⟩) (fun _ h => nomatch h) dX6_many_81
