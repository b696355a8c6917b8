noncomputable def F_X7_look (t0 : ST) (x1 : Int32) : Option (Int32 × ST) :=
  (F_X7_isBlock t0 x1).bind fun v2 =>
  if v2 = 0 then
    some ((-1), t0)
  else
  (F_X7_isOf (t0 0 5) x1).bind fun v15 =>
  if v15 = 0 then
    (rd 6 (t0 6) x1).bind fun v41 =>
    some (v41, (st t0 0 5 ((t0 0 5) ||| (1 <<< (x1 &&& 31)))))
  else
  some ((-3), t0)
abbrev rm_X7_look : Room := { frames := 1, cells := 0, slots := 0, locals := 21 }
set_option maxHeartbeats 4000000 in
set_option maxRecDepth 100000 in
theorem c_X7_look (l : Launch) (D : va_G) (cI cS : ClassId) (a0 : Nat → Nat) (t0 : ST) (x1 : Int32) (r : Int32) (t' : ST) (hF : F_X7_look t0 x1 = some (r, t')) : Met l yX7_look (Cond.code yX7_look cX7_look 2 (some .int) :: ALL) rm_X7_look (PreW D cI cS [.ref (a0 0), .int x1] (pM cI cS a0 t0)) (va_Qi (fun x (_ : Unit) => x = r) (fun _ t => va_P D vwCl (pM cI cS a0 t') t.heap) (AD (pM cI cS a0 t0))) 0 0 (AD (pM cI cS a0 t0)) := by
  refine mW l D cI cS (by decide) (Nat.le_of_ble_eq_true rfl) ?_
  intro p e s m below meth c ls hx hb hr hml hown hts hlocks hP hK hD hS hl
  have hown : s.vm.findClass RX7 = some m.cls := hown
  have hl : lv_has ls 2 [(0, .ref (a0 0)), (1, .int x1)] := hl
  unfold F_X7_look at hF
  refine lv_aload_n hx hb dX7_look_0 rfl (lv_at hl 0 rfl) ?_
  refine lv_iload_n hx hb dX7_look_1 rfl (lv_at hl 1 rfl) ?_
  obtain ⟨v2, h2, hF⟩ := bd hF
  refine cRb (va_runV (As := [.int x1]) (rest := []) ⟨hx, hb, hml, hown, hts⟩ (c_X7_isBlock l D cI cS a0 t0 x1 v2 h2) (cwVA hts (TW.cons _) lv_X7_isBlock ml_RX7_132 ⟨rfl, rfl⟩ ⟨(Nat.le_of_ble_eq_true rfl), (Nat.le_of_ble_eq_true rfl)⟩) (pRV hK hP (ci := 6) rfl rfl) rfl rfl hl.1 rfl (lv_room (Nat.le_of_ble_eq_true rfl)) dX7_look_2 ⟨Nat.le_refl _, Nat.le_refl _⟩) (fun b2 => ?_)
  refine lv_if_ne (tgt := 10) hx hb dX7_look_5 (by decide) (fun c5 => ?_) (fun c5 => ?_)
  · replace hF := iq c5 hF
    refine lv_aload_n hx hb dX7_look_10 rfl (lv_at hl 0 rfl) ?_
    refine va_get (D := D) (ci := 6) (v := .int (t0 0 5)) (C := RX7) (T := TX7) (N := 29) hx hb hts (fun w h => List.mem_cons_of_mem _ (inAX7 w h)) hown hK.1 hP 0 (at_M_0 cI cS _ _) rfl 8 (by decide) (hts _ (List.mem_cons_of_mem _ fl_RX7_105)) (fun _ h9 => h9) rfl dX7_look_11 ?_
    refine lv_iload_n hx hb dX7_look_14 rfl (lv_at hl 1 rfl) ?_
    obtain ⟨v15, h15, hF⟩ := bd hF
    refine cRb (va_runS (As := [.int (t0 0 5), .int x1]) (rest := []) ⟨hx, hb, hml, hown, hts⟩ (c_X7_isOf l D cI cS (t0 0 5) x1 v15 h15) (cwSA hts (TW.cons _) ls_X7_isOf ml_RX7_144 ⟨rfl, rfl⟩ ⟨(Nat.le_of_ble_eq_true rfl), (Nat.le_of_ble_eq_true rfl)⟩) (pRS hK pnil) rfl rfl hl.1 rfl (lv_room (Nat.le_of_ble_eq_true rfl)) dX7_look_15 ⟨Nat.le_refl _, Nat.le_refl _⟩) (fun b15 => ?_)
    refine lv_if_eq (tgt := 24) hx hb dX7_look_18 (by decide) (fun c18 => ?_) (fun c18 => ?_)
    · replace hF := ip c18 hF
      refine lv_aload_n hx hb dX7_look_24 rfl (lv_at hl 0 rfl) ?_
      refine lv_dup hx hb dX7_look_25 rfl ?_
      refine va_get (D := D) (ci := 6) (v := .int (t0 0 5)) (C := RX7) (T := TX7) (N := 29) hx hb hts (fun w h => List.mem_cons_of_mem _ (inAX7 w h)) hown hK.1 hP 0 (at_M_0 cI cS _ _) rfl 8 (by decide) (hts _ (List.mem_cons_of_mem _ fl_RX7_105)) (fun _ h9 => h9) rfl dX7_look_26 ?_
      refine lv_iconst (v := 1) hx hb dX7_look_29 (by decide) ?_
      refine lv_iload_n hx hb dX7_look_30 rfl (lv_at hl 1 rfl) ?_
      refine lv_ishl hx hb dX7_look_31 ?_
      refine lv_ior hx hb dX7_look_32 ?_
      refine wF (ws' := pM cI cS a0 (st t0 0 5 ((t0 0 5) ||| (1 <<< (x1 &&& 31))))) (C := RX7) (T := TX7) (N := 29) hx hb hts (fun w h => List.mem_cons_of_mem _ (inAX7 w h)) tyX7 tyX7_ok nmX7 hown hK.1 hP hD hS 0 (at_M_0 cI cS _ _) rfl 8 (by decide) (hts _ (List.mem_cons_of_mem _ fl_RX7_105)) rfl (tyX7_ok 8 (by decide)) rfl rfl (Nat.le_of_ble_eq_true rfl) (sf_M_0_8 cI cS _ _ _) dX7_look_33 (fun H locs hP hD hS => ?_)
      refine lv_aload_n hx hb dX7_look_36 rfl (lv_at hl 0 rfl) ?_
      refine va_get (D := D) (ci := 6) (v := .ref (a0 6)) (C := RX7) (T := TX7) (N := 29) hx hb hts (fun w h => List.mem_cons_of_mem _ (inAX7 w h)) hown hK.1 hP 0 (at_M_0 cI cS _ _) rfl 11 (by decide) (hts _ (List.mem_cons_of_mem _ fl_RX7_25)) (fun _ h9 => h9) rfl dX7_look_37 ?_
      refine lv_iload_n hx hb dX7_look_40 rfl (lv_at hl 1 rfl) ?_
      obtain ⟨v41, h41, hF⟩ := bd hF
      refine rI hx hb hK.1 hP 6 0 (at_M_6 cI cS _ _) rfl h41 dX7_look_41 ?_
      exact W.iret hx hb hr (fun t ht hW => ⟨⟨_, (), rfl, (Prod.mk.inj (Option.some.inj hF)).1, by show va_P _ _ _ t.heap; rw [ht, ← (Prod.mk.inj (Option.some.inj hF)).2]; exact hP⟩, hS.F ht⟩) hS.2.2 dX7_look_42
    · replace hF := iq c18 hF
      refine lv_bipush (v := (-3)) hx hb dX7_look_21 (by decide) ?_
      exact W.iret hx hb hr (fun t ht hW => ⟨⟨_, (), rfl, (Prod.mk.inj (Option.some.inj hF)).1, by show va_P _ _ _ t.heap; rw [ht, ← (Prod.mk.inj (Option.some.inj hF)).2]; exact hP⟩, hS.F ht⟩) hS.2.2 dX7_look_23
  · replace hF := ip c5 hF
    refine lv_iconst (v := (-1)) hx hb dX7_look_8 (by decide) ?_
    exact W.iret hx hb hr (fun t ht hW => ⟨⟨_, (), rfl, (Prod.mk.inj (Option.some.inj hF)).1, by show va_P _ _ _ t.heap; rw [ht, ← (Prod.mk.inj (Option.some.inj hF)).2]; exact hP⟩, hS.F ht⟩) hS.2.2 dX7_look_9
noncomputable def F_X7_away (t0 : ST) (x1 : Int32) : Option (Int32 × ST) :=
  (F_X7_isBlock t0 x1).bind fun v2 =>
  if v2 = 0 then
    some ((-1), t0)
  else
  (F_X7_isOf (t0 0 5) x1).bind fun v15 =>
  if v15 = 0 then
    some ((-3), t0)
  else
  (F_X7_size ((t0 0 5) &&& ((1 <<< (x1 &&& 31)) ^^^ (-1)))).bind fun v42 =>
  some (v42, (st t0 0 5 ((t0 0 5) &&& ((1 <<< (x1 &&& 31)) ^^^ (-1)))))
abbrev rm_X7_away : Room := { frames := 1, cells := 0, slots := 0, locals := 22 }
set_option maxHeartbeats 4000000 in
set_option maxRecDepth 100000 in
theorem c_X7_away (l : Launch) (D : va_G) (cI cS : ClassId) (a0 : Nat → Nat) (t0 : ST) (x1 : Int32) (r : Int32) (t' : ST) (hF : F_X7_away t0 x1 = some (r, t')) : Met l yX7_away (Cond.code yX7_away cX7_away 2 (some .int) :: ALL) rm_X7_away (PreW D cI cS [.ref (a0 0), .int x1] (pM cI cS a0 t0)) (va_Qi (fun x (_ : Unit) => x = r) (fun _ t => va_P D vwCl (pM cI cS a0 t') t.heap) (AD (pM cI cS a0 t0))) 0 0 (AD (pM cI cS a0 t0)) := by
  refine mW l D cI cS (by decide) (Nat.le_of_ble_eq_true rfl) ?_
  intro p e s m below meth c ls hx hb hr hml hown hts hlocks hP hK hD hS hl
  have hown : s.vm.findClass RX7 = some m.cls := hown
  have hl : lv_has ls 2 [(0, .ref (a0 0)), (1, .int x1)] := hl
  unfold F_X7_away at hF
  refine lv_aload_n hx hb dX7_away_0 rfl (lv_at hl 0 rfl) ?_
  refine lv_iload_n hx hb dX7_away_1 rfl (lv_at hl 1 rfl) ?_
  obtain ⟨v2, h2, hF⟩ := bd hF
  refine cRb (va_runV (As := [.int x1]) (rest := []) ⟨hx, hb, hml, hown, hts⟩ (c_X7_isBlock l D cI cS a0 t0 x1 v2 h2) (cwVA hts (TW.cons _) lv_X7_isBlock ml_RX7_132 ⟨rfl, rfl⟩ ⟨(Nat.le_of_ble_eq_true rfl), (Nat.le_of_ble_eq_true rfl)⟩) (pRV hK hP (ci := 6) rfl rfl) rfl rfl hl.1 rfl (lv_room (Nat.le_of_ble_eq_true rfl)) dX7_away_2 ⟨Nat.le_refl _, Nat.le_refl _⟩) (fun b2 => ?_)
  refine lv_if_ne (tgt := 10) hx hb dX7_away_5 (by decide) (fun c5 => ?_) (fun c5 => ?_)
  · replace hF := iq c5 hF
    refine lv_aload_n hx hb dX7_away_10 rfl (lv_at hl 0 rfl) ?_
    refine va_get (D := D) (ci := 6) (v := .int (t0 0 5)) (C := RX7) (T := TX7) (N := 29) hx hb hts (fun w h => List.mem_cons_of_mem _ (inAX7 w h)) hown hK.1 hP 0 (at_M_0 cI cS _ _) rfl 8 (by decide) (hts _ (List.mem_cons_of_mem _ fl_RX7_105)) (fun _ h9 => h9) rfl dX7_away_11 ?_
    refine lv_iload_n hx hb dX7_away_14 rfl (lv_at hl 1 rfl) ?_
    obtain ⟨v15, h15, hF⟩ := bd hF
    refine cRb (va_runS (As := [.int (t0 0 5), .int x1]) (rest := []) ⟨hx, hb, hml, hown, hts⟩ (c_X7_isOf l D cI cS (t0 0 5) x1 v15 h15) (cwSA hts (TW.cons _) ls_X7_isOf ml_RX7_144 ⟨rfl, rfl⟩ ⟨(Nat.le_of_ble_eq_true rfl), (Nat.le_of_ble_eq_true rfl)⟩) (pRS hK pnil) rfl rfl hl.1 rfl (lv_room (Nat.le_of_ble_eq_true rfl)) dX7_away_15 ⟨Nat.le_refl _, Nat.le_refl _⟩) (fun b15 => ?_)
    refine lv_if_ne (tgt := 24) hx hb dX7_away_18 (by decide) (fun c18 => ?_) (fun c18 => ?_)
    · replace hF := iq c18 hF
      refine lv_aload_n hx hb dX7_away_24 rfl (lv_at hl 0 rfl) ?_
      refine lv_dup hx hb dX7_away_25 rfl ?_
      refine va_get (D := D) (ci := 6) (v := .int (t0 0 5)) (C := RX7) (T := TX7) (N := 29) hx hb hts (fun w h => List.mem_cons_of_mem _ (inAX7 w h)) hown hK.1 hP 0 (at_M_0 cI cS _ _) rfl 8 (by decide) (hts _ (List.mem_cons_of_mem _ fl_RX7_105)) (fun _ h9 => h9) rfl dX7_away_26 ?_
      refine lv_iconst (v := 1) hx hb dX7_away_29 (by decide) ?_
      refine lv_iload_n hx hb dX7_away_30 rfl (lv_at hl 1 rfl) ?_
      refine lv_ishl hx hb dX7_away_31 ?_
      refine lv_iconst (v := (-1)) hx hb dX7_away_32 (by decide) ?_
      refine lv_ixor hx hb dX7_away_33 ?_
      refine lv_iand hx hb dX7_away_34 ?_
      refine wF (ws' := pM cI cS a0 (st t0 0 5 ((t0 0 5) &&& ((1 <<< (x1 &&& 31)) ^^^ (-1))))) (C := RX7) (T := TX7) (N := 29) hx hb hts (fun w h => List.mem_cons_of_mem _ (inAX7 w h)) tyX7 tyX7_ok nmX7 hown hK.1 hP hD hS 0 (at_M_0 cI cS _ _) rfl 8 (by decide) (hts _ (List.mem_cons_of_mem _ fl_RX7_105)) rfl (tyX7_ok 8 (by decide)) rfl rfl (Nat.le_of_ble_eq_true rfl) (sf_M_0_8 cI cS _ _ _) dX7_away_35 (fun H locs hP hD hS => ?_)
      refine lv_aload_n hx hb dX7_away_38 rfl (lv_at hl 0 rfl) ?_
      refine va_get (D := D) (ci := 6) (v := .int ((t0 0 5) &&& ((1 <<< (x1 &&& 31)) ^^^ (-1)))) (C := RX7) (T := TX7) (N := 29) hx hb hts (fun w h => List.mem_cons_of_mem _ (inAX7 w h)) hown hK.1 hP 0 (at_M_0 cI cS _ _) rfl 8 (by decide) (hts _ (List.mem_cons_of_mem _ fl_RX7_105)) (fun _ h9 => h9) rfl dX7_away_39 ?_
      obtain ⟨v42, h42, hF⟩ := bd hF
      refine cRe (va_runS (As := [.int ((t0 0 5) &&& ((1 <<< (x1 &&& 31)) ^^^ (-1)))]) (rest := []) ⟨hx, hb, hml, hown, hts⟩ (c_X7_size l D cI cS ((t0 0 5) &&& ((1 <<< (x1 &&& 31)) ^^^ (-1))) v42 h42) (cwSA hts (TW.cons _) ls_X7_size ml_RX7_138 ⟨rfl, rfl⟩ ⟨(Nat.le_of_ble_eq_true rfl), (Nat.le_of_ble_eq_true rfl)⟩) (pRS hK pnil) rfl rfl hl.1 rfl (lv_room (Nat.le_of_ble_eq_true rfl)) dX7_away_42 ⟨Nat.le_refl _, Nat.le_refl _⟩) ?_
      exact W.iret hx hb hr (fun t ht hW => ⟨⟨_, (), rfl, (Prod.mk.inj (Option.some.inj hF)).1, by show va_P _ _ _ t.heap; rw [ht, ← (Prod.mk.inj (Option.some.inj hF)).2]; exact hP⟩, hS.F ht⟩) hS.2.2 dX7_away_45
    · replace hF := ip c18 hF
      refine lv_bipush (v := (-3)) hx hb dX7_away_21 (by decide) ?_
      exact W.iret hx hb hr (fun t ht hW => ⟨⟨_, (), rfl, (Prod.mk.inj (Option.some.inj hF)).1, by show va_P _ _ _ t.heap; rw [ht, ← (Prod.mk.inj (Option.some.inj hF)).2]; exact hP⟩, hS.F ht⟩) hS.2.2 dX7_away_23
  · replace hF := ip c5 hF
    refine lv_iconst (v := (-1)) hx hb dX7_away_8 (by decide) ?_
    exact W.iret hx hb hr (fun t ht hW => ⟨⟨_, (), rfl, (Prod.mk.inj (Option.some.inj hF)).1, by show va_P _ _ _ t.heap; rw [ht, ← (Prod.mk.inj (Option.some.inj hF)).2]; exact hP⟩, hS.F ht⟩) hS.2.2 dX7_away_9
noncomputable def F_X7_stroke (t0 : ST) (x1 : Int32) (x2 : Int32) : Option (Int32 × ST) :=
  (F_X7_isBlock t0 x1).bind fun v2 =>
  if v2 = 0 then
    some ((-1), t0)
  else
  (F_X7_within x2 0 5).bind fun v13 =>
  if v13 = 0 then
    some ((-2), t0)
  else
  (rd 6 (t0 6) x1).bind fun v28 =>
  (ix 6 x1).bind fun k33 =>
  (rd 6 ((st t0 6 k33 (v28 ^^^ (1 <<< (x2 &&& 31)))) 6) x1).bind fun v39 =>
  some (v39, (st t0 6 k33 (v28 ^^^ (1 <<< (x2 &&& 31)))))
abbrev rm_X7_stroke : Room := { frames := 1, cells := 0, slots := 0, locals := 22 }
set_option maxHeartbeats 4000000 in
set_option maxRecDepth 100000 in
theorem c_X7_stroke (l : Launch) (D : va_G) (cI cS : ClassId) (a0 : Nat → Nat) (t0 : ST) (x1 : Int32) (x2 : Int32) (r : Int32) (t' : ST) (hF : F_X7_stroke t0 x1 x2 = some (r, t')) : Met l yX7_stroke (Cond.code yX7_stroke cX7_stroke 3 (some .int) :: ALL) rm_X7_stroke (PreW D cI cS [.ref (a0 0), .int x1, .int x2] (pM cI cS a0 t0)) (va_Qi (fun x (_ : Unit) => x = r) (fun _ t => va_P D vwCl (pM cI cS a0 t') t.heap) (AD (pM cI cS a0 t0))) 0 0 (AD (pM cI cS a0 t0)) := by
  refine mW l D cI cS (by decide) (Nat.le_of_ble_eq_true rfl) ?_
  intro p e s m below meth c ls hx hb hr hml hown hts hlocks hP hK hD hS hl
  have hown : s.vm.findClass RX7 = some m.cls := hown
  have hl : lv_has ls 3 [(0, .ref (a0 0)), (1, .int x1), (2, .int x2)] := hl
  unfold F_X7_stroke at hF
  refine lv_aload_n hx hb dX7_stroke_0 rfl (lv_at hl 0 rfl) ?_
  refine lv_iload_n hx hb dX7_stroke_1 rfl (lv_at hl 1 rfl) ?_
  obtain ⟨v2, h2, hF⟩ := bd hF
  refine cRb (va_runV (As := [.int x1]) (rest := []) ⟨hx, hb, hml, hown, hts⟩ (c_X7_isBlock l D cI cS a0 t0 x1 v2 h2) (cwVA hts (TW.cons _) lv_X7_isBlock ml_RX7_132 ⟨rfl, rfl⟩ ⟨(Nat.le_of_ble_eq_true rfl), (Nat.le_of_ble_eq_true rfl)⟩) (pRV hK hP (ci := 6) rfl rfl) rfl rfl hl.1 rfl (lv_room (Nat.le_of_ble_eq_true rfl)) dX7_stroke_2 ⟨Nat.le_refl _, Nat.le_refl _⟩) (fun b2 => ?_)
  refine lv_if_ne (tgt := 10) hx hb dX7_stroke_5 (by decide) (fun c5 => ?_) (fun c5 => ?_)
  · replace hF := iq c5 hF
    refine lv_iload_n hx hb dX7_stroke_10 rfl (lv_at hl 2 rfl) ?_
    refine lv_iconst (v := 0) hx hb dX7_stroke_11 (by decide) ?_
    refine lv_iconst (v := 5) hx hb dX7_stroke_12 (by decide) ?_
    obtain ⟨v13, h13, hF⟩ := bd hF
    refine cRb (va_runS (As := [.int x2, .int 0, .int 5]) (rest := []) ⟨hx, hb, hml, hown, hts⟩ (c_X7_within l D cI cS x2 0 5 v13 h13) (cwSA hts (TW.cons _) ls_X7_within ml_RX7_61 ⟨rfl, rfl⟩ ⟨(Nat.le_of_ble_eq_true rfl), (Nat.le_of_ble_eq_true rfl)⟩) (pRS hK pnil) rfl rfl hl.1 rfl (lv_room (Nat.le_of_ble_eq_true rfl)) dX7_stroke_13 ⟨Nat.le_refl _, Nat.le_refl _⟩) (fun b13 => ?_)
    refine lv_if_ne (tgt := 22) hx hb dX7_stroke_16 (by decide) (fun c16 => ?_) (fun c16 => ?_)
    · replace hF := iq c16 hF
      refine lv_aload_n hx hb dX7_stroke_22 rfl (lv_at hl 0 rfl) ?_
      refine va_get (D := D) (ci := 6) (v := .ref (a0 6)) (C := RX7) (T := TX7) (N := 29) hx hb hts (fun w h => List.mem_cons_of_mem _ (inAX7 w h)) hown hK.1 hP 0 (at_M_0 cI cS _ _) rfl 11 (by decide) (hts _ (List.mem_cons_of_mem _ fl_RX7_25)) (fun _ h9 => h9) rfl dX7_stroke_23 ?_
      refine lv_iload_n hx hb dX7_stroke_26 rfl (lv_at hl 1 rfl) ?_
      refine lv_dup2_11 hx hb dX7_stroke_27 rfl rfl ?_
      obtain ⟨v28, h28, hF⟩ := bd hF
      refine rI hx hb hK.1 hP 6 0 (at_M_6 cI cS _ _) rfl h28 dX7_stroke_28 ?_
      refine lv_iconst (v := 1) hx hb dX7_stroke_29 (by decide) ?_
      refine lv_iload_n hx hb dX7_stroke_30 rfl (lv_at hl 2 rfl) ?_
      refine lv_ishl hx hb dX7_stroke_31 ?_
      refine lv_ixor hx hb dX7_stroke_32 ?_
      obtain ⟨k33, h33, hF⟩ := bd hF
      refine wI (ws' := pM cI cS a0 (st t0 6 k33 (v28 ^^^ (1 <<< (x2 &&& 31))))) hx hb hK.1 hP hD hS 6 0 (at_M_6 cI cS _ _) rfl h33 (sw_M_6 cI cS _ _ _ _) dX7_stroke_33 (fun H locs hP hD hS => ?_)
      refine lv_aload_n hx hb dX7_stroke_34 rfl (lv_at hl 0 rfl) ?_
      refine va_get (D := D) (ci := 6) (v := .ref (a0 6)) (C := RX7) (T := TX7) (N := 29) hx hb hts (fun w h => List.mem_cons_of_mem _ (inAX7 w h)) hown hK.1 hP 0 (at_M_0 cI cS _ _) rfl 11 (by decide) (hts _ (List.mem_cons_of_mem _ fl_RX7_25)) (fun _ h9 => h9) rfl dX7_stroke_35 ?_
      refine lv_iload_n hx hb dX7_stroke_38 rfl (lv_at hl 1 rfl) ?_
      obtain ⟨v39, h39, hF⟩ := bd hF
      refine rI hx hb hK.1 hP 6 0 (at_M_6 cI cS _ _) rfl h39 dX7_stroke_39 ?_
      exact W.iret hx hb hr (fun t ht hW => ⟨⟨_, (), rfl, (Prod.mk.inj (Option.some.inj hF)).1, by show va_P _ _ _ t.heap; rw [ht, ← (Prod.mk.inj (Option.some.inj hF)).2]; exact hP⟩, hS.F ht⟩) hS.2.2 dX7_stroke_40
    · replace hF := ip c16 hF
      refine lv_bipush (v := (-2)) hx hb dX7_stroke_19 (by decide) ?_
      exact W.iret hx hb hr (fun t ht hW => ⟨⟨_, (), rfl, (Prod.mk.inj (Option.some.inj hF)).1, by show va_P _ _ _ t.heap; rw [ht, ← (Prod.mk.inj (Option.some.inj hF)).2]; exact hP⟩, hS.F ht⟩) hS.2.2 dX7_stroke_21
  · replace hF := ip c5 hF
    refine lv_iconst (v := (-1)) hx hb dX7_stroke_8 (by decide) ?_
    exact W.iret hx hb hr (fun t ht hW => ⟨⟨_, (), rfl, (Prod.mk.inj (Option.some.inj hF)).1, by show va_P _ _ _ t.heap; rw [ht, ← (Prod.mk.inj (Option.some.inj hF)).2]; exact hP⟩, hS.F ht⟩) hS.2.2 dX7_stroke_9
noncomputable def F_X7_areTwins_L14 (t0 : ST) (x1 : Int32) (k : Int32 → Option Int32) : Nat → Int32 → Option Int32
  | 0, _ => none
  | n + 1, x2 =>
    if (t0 0 3) ≤ x2 then
      k x2
    else
    (rd 6 (t0 6) x1).bind fun v27 =>
    (rd 6 (t0 6) x2).bind fun v33 =>
    if v27 = v33 then
      some 1
    else
    (F_X7_areTwins_L14 t0 x1 k n) (x2 + 1)
noncomputable def F_X7_areTwins_J45 (t0 : ST) (g k : Int32 → Option Int32) (x1 : Int32) : Option Int32 :=
  g (x1 + 1)
noncomputable def F_X7_areTwins_L2 (t0 : ST) (k : Int32 → Option Int32) : Nat → Int32 → Option Int32
  | 0, _ => none
  | n + 1, x1 =>
    if (t0 0 3) ≤ x1 then
      k x1
    else
    F_X7_areTwins_L14 t0 x1 (fun x2_k14 => F_X7_areTwins_J45 t0 (F_X7_areTwins_L2 t0 k n) k x1) 1000 (x1 + 1)
noncomputable def F_X7_areTwins_J51 (t0 : ST) : Option Int32 :=
  some 0
noncomputable def F_X7_areTwins (t0 : ST) : Option Int32 :=
  F_X7_areTwins_L2 t0 (fun x1_k2 => F_X7_areTwins_J51 t0) 1000 0
abbrev rm_X7_areTwins : Room := { frames := 0, cells := 0, slots := 0, locals := 0 }
set_option maxHeartbeats 4000000 in
set_option maxRecDepth 100000 in
theorem c_X7_areTwins (l : Launch) (D : va_G) (cI cS : ClassId) (a0 : Nat → Nat) (t0 : ST) (r : Int32) (hF : F_X7_areTwins t0 = some r) : Met l yX7_areTwins (Cond.code yX7_areTwins cX7_areTwins 3 (some .boolean) :: ALL) rm_X7_areTwins (PreR D cI cS [.ref (a0 0)] (pM cI cS a0 t0)) (vp_Si (fun x => x = r ∧ (x = 0 ∨ x = 1))) 0 0 (fun _ => False) := by
  refine mR l D cI cS (by decide) (Nat.le_of_ble_eq_true rfl) ?_
  intro p e s m below meth c ls hx hb hr hml hown hts hlocks hP hK hl
  have hown : s.vm.findClass RX7 = some m.cls := hown
  have hl : lv_has ls 3 [(0, .ref (a0 0))] := hl
  unfold F_X7_areTwins at hF
  refine lv_iconst (v := 0) hx hb dX7_areTwins_0 (by decide) ?_
  refine lv_istore_n (lv' := [(1, .int 0), (0, .ref (a0 0))]) hx hb dX7_areTwins_1 rfl hl (by decide) rfl (fun ls hl => ?_)
  have L2 : ∀ (n_2 : Nat) (x1_2 : Int32) (ls : Array Slot), lv_has ls 3 [(0, .ref (a0 0)), (1, .int x1_2)] → F_X7_areTwins_L2 t0 (fun x1_k2 => F_X7_areTwins_J51 t0) n_2 x1_2 = some r → W p l e rm_X7_areTwins s m [.ref (a0 0)].toArray below meth c s.heap [] 0 0 (MQ below (vp_Si (fun x => x = r ∧ (x = 0 ∨ x = 1))) [.ref (a0 0)].toArray s 0 0 (fun _ => False)) (F0 m 2 ls []) := by
    intro n_2
    induction n_2 with
    | zero => intro x1_2 ls hl hF; exact nomatch hF
    | succ n_2 ih2 =>
      intro x1_2 ls hl hF
      rw [F_X7_areTwins_L2.eq_2] at hF
      refine lv_iload_n hx hb dX7_areTwins_2 rfl (lv_at hl 1 rfl) ?_
      refine lv_aload_n hx hb dX7_areTwins_3 rfl (lv_at hl 0 rfl) ?_
      refine va_get (D := D) (ci := 6) (v := .int (t0 0 3)) (C := RX7) (T := TX7) (N := 29) hx hb hts (fun w h => List.mem_cons_of_mem _ (inAX7 w h)) hown hK.1 hP 0 (at_M_0 cI cS _ _) rfl 6 (by decide) (hts _ (List.mem_cons_of_mem _ fl_RX7_65)) (fun _ h9 => h9) rfl dX7_areTwins_4 ?_
      refine lv_icmp_ge (tgt := 51) hx hb dX7_areTwins_7 (by decide) (fun c7 => ?_) (fun c7 => ?_)
      · replace hF := ip c7 hF
        have hF : F_X7_areTwins_J51 t0 = some r := hF
        unfold F_X7_areTwins_J51 at hF
        refine lv_iconst (v := 0) hx hb dX7_areTwins_51 (by decide) ?_
        exact W.zret hx hb hr rfl (fun t ht hW => ⟨_, rfl, ⟨(Option.some.inj hF), Or.inl rfl⟩, ht⟩) (fun _ h => nomatch h) dX7_areTwins_52
      · replace hF := iq c7 hF
        refine lv_iload_n hx hb dX7_areTwins_10 rfl (lv_at hl 1 rfl) ?_
        refine lv_iconst (v := 1) hx hb dX7_areTwins_11 (by decide) ?_
        refine lv_iadd hx hb dX7_areTwins_12 ?_
        refine lv_istore_n (lv' := [(2, .int (x1_2 + 1)), (0, .ref (a0 0)), (1, .int x1_2)]) hx hb dX7_areTwins_13 rfl hl (by decide) rfl (fun ls hl => ?_)
        have L14 : ∀ (n_14 : Nat) (x2_14 : Int32) (ls : Array Slot), lv_has ls 3 [(0, .ref (a0 0)), (1, .int x1_2), (2, .int x2_14)] → F_X7_areTwins_L14 t0 x1_2 (fun x2_k14 => F_X7_areTwins_J45 t0 (F_X7_areTwins_L2 t0 (fun x1_k2 => F_X7_areTwins_J51 t0) n_2) (fun x1_k2 => F_X7_areTwins_J51 t0) x1_2) n_14 x2_14 = some r → W p l e rm_X7_areTwins s m [.ref (a0 0)].toArray below meth c s.heap [] 0 0 (MQ below (vp_Si (fun x => x = r ∧ (x = 0 ∨ x = 1))) [.ref (a0 0)].toArray s 0 0 (fun _ => False)) (F0 m 14 ls []) := by
          intro n_14
          induction n_14 with
          | zero => intro x2_14 ls hl hF; exact nomatch hF
          | succ n_14 ih14 =>
            intro x2_14 ls hl hF
            rw [F_X7_areTwins_L14.eq_2] at hF
            refine lv_iload_n hx hb dX7_areTwins_14 rfl (lv_at hl 2 rfl) ?_
            refine lv_aload_n hx hb dX7_areTwins_15 rfl (lv_at hl 0 rfl) ?_
            refine va_get (D := D) (ci := 6) (v := .int (t0 0 3)) (C := RX7) (T := TX7) (N := 29) hx hb hts (fun w h => List.mem_cons_of_mem _ (inAX7 w h)) hown hK.1 hP 0 (at_M_0 cI cS _ _) rfl 6 (by decide) (hts _ (List.mem_cons_of_mem _ fl_RX7_65)) (fun _ h9 => h9) rfl dX7_areTwins_16 ?_
            refine lv_icmp_ge (tgt := 45) hx hb dX7_areTwins_19 (by decide) (fun c19 => ?_) (fun c19 => ?_)
            · replace hF := ip c19 hF
              have hF : F_X7_areTwins_J45 t0 (F_X7_areTwins_L2 t0 (fun x1_k2 => F_X7_areTwins_J51 t0) n_2) (fun x1_k2 => F_X7_areTwins_J51 t0) x1_2 = some r := hF
              unfold F_X7_areTwins_J45 at hF
              refine lv_iinc (v := (x1_2 + 1)) (lv' := [(1, .int (x1_2 + 1)), (0, .ref (a0 0)), (2, .int x2_14)]) hx hb dX7_areTwins_45 hl (k := 1) rfl rfl (by decide) rfl (fun ls hl => ?_)
              refine lv_goto (tgt := 2) hx hb dX7_areTwins_48 (by decide) ?_
              exact ih2 (x1_2 + 1) _ (lv_sub hl [1, 0] rfl) hF
            · replace hF := iq c19 hF
              refine lv_aload_n hx hb dX7_areTwins_22 rfl (lv_at hl 0 rfl) ?_
              refine va_get (D := D) (ci := 6) (v := .ref (a0 6)) (C := RX7) (T := TX7) (N := 29) hx hb hts (fun w h => List.mem_cons_of_mem _ (inAX7 w h)) hown hK.1 hP 0 (at_M_0 cI cS _ _) rfl 11 (by decide) (hts _ (List.mem_cons_of_mem _ fl_RX7_25)) (fun _ h9 => h9) rfl dX7_areTwins_23 ?_
              refine lv_iload_n hx hb dX7_areTwins_26 rfl (lv_at hl 1 rfl) ?_
              obtain ⟨v27, h27, hF⟩ := bd hF
              refine rI hx hb hK.1 hP 6 0 (at_M_6 cI cS _ _) rfl h27 dX7_areTwins_27 ?_
              refine lv_aload_n hx hb dX7_areTwins_28 rfl (lv_at hl 0 rfl) ?_
              refine va_get (D := D) (ci := 6) (v := .ref (a0 6)) (C := RX7) (T := TX7) (N := 29) hx hb hts (fun w h => List.mem_cons_of_mem _ (inAX7 w h)) hown hK.1 hP 0 (at_M_0 cI cS _ _) rfl 11 (by decide) (hts _ (List.mem_cons_of_mem _ fl_RX7_25)) (fun _ h9 => h9) rfl dX7_areTwins_29 ?_
              refine lv_iload_n hx hb dX7_areTwins_32 rfl (lv_at hl 2 rfl) ?_
              obtain ⟨v33, h33, hF⟩ := bd hF
              refine rI hx hb hK.1 hP 6 0 (at_M_6 cI cS _ _) rfl h33 dX7_areTwins_33 ?_
              refine lv_icmp_ne (tgt := 39) hx hb dX7_areTwins_34 (by decide) (fun c34 => ?_) (fun c34 => ?_)
              · replace hF := iq c34 hF
                refine lv_iinc (v := (x2_14 + 1)) (lv' := [(2, .int (x2_14 + 1)), (0, .ref (a0 0)), (1, .int x1_2)]) hx hb dX7_areTwins_39 hl (k := 2) rfl rfl (by decide) rfl (fun ls hl => ?_)
                refine lv_goto (tgt := 14) hx hb dX7_areTwins_42 (by decide) ?_
                exact ih14 (x2_14 + 1) _ (lv_sub hl [1, 2, 0] rfl) hF
              · replace hF := ip c34 hF
                refine lv_iconst (v := 1) hx hb dX7_areTwins_37 (by decide) ?_
                exact W.zret hx hb hr rfl (fun t ht hW => ⟨_, rfl, ⟨(Option.some.inj hF), Or.inr rfl⟩, ht⟩) (fun _ h => nomatch h) dX7_areTwins_38
        exact L14 1000 (x1_2 + 1) _ (lv_sub hl [1, 2, 0] rfl) hF
  exact L2 1000 0 _ (lv_sub hl [1, 0] rfl) hF
noncomputable def F_X7_does_J95 (x1 : Int32) (x2 : Int32) (s0 : ST) (z0 : Int32) (z1 : Int32) : Option (Int32 × ST) :=
  if z1 = z0 then
    some (1, (st s0 0 5 ((s0 0 5) ^^^ (1 <<< (x1 &&& 31)))))
  else
  some (0, s0)
noncomputable def F_X7_does_L6 (x1 : Int32) (x2 : Int32) (k : Int32 → ST → Option (Int32 × ST)) : Nat → Int32 → ST → Option (Int32 × ST)
  | 0, _, _ => none
  | n + 1, x3, s0 =>
    if x1 ≤ x3 then
      k x3 s0
    else
    (F_X7_oneDay s0).bind fun u12 =>
    (F_X7_areTwins (st u12 0 9 ((u12 0 9) + 1))).bind fun v31 =>
    if v31 = 0 then
      (F_X7_does_L6 x1 x2 k n) (x3 + 1) (st (st u12 0 9 ((u12 0 9) + 1)) 0 10 ((u12 0 10) + 0))
    else
    (F_X7_does_L6 x1 x2 k n) (x3 + 1) (st (st u12 0 9 ((u12 0 9) + 1)) 0 10 ((u12 0 10) + 1))
noncomputable def F_X7_does_J52 (x1 : Int32) (x2 : Int32) (s0 : ST) : Option (Int32 × ST) :=
  some (1, s0)
noncomputable def F_X7_does (t0 : ST) (x1 : Int32) (x2 : Int32) : Option (Int32 × ST) :=
  if x2 = 0 then
    F_X7_does_L6 x1 x2 (fun x3_k6 s0_k6 => F_X7_does_J52 x1 x2 s0_k6) 1000 0 t0
  else
  if x2 < 10 then
    (F_X7_isOf (t0 0 5) x1).bind fun v82 =>
    if x2 = 2 then
      F_X7_does_J95 x1 x2 t0 1 v82
    else
    F_X7_does_J95 x1 x2 t0 0 v82
  else
  (rd 6 (t0 6) x1).bind fun v66 =>
  (ix 6 x1).bind fun k74 =>
  some (1, (st t0 6 k74 (v66 ^^^ (1 <<< ((x2 - 10) &&& 31)))))
abbrev rm_X7_does : Room := { frames := 2, cells := 0, slots := 0, locals := 45 }
set_option maxHeartbeats 4000000 in
set_option maxRecDepth 100000 in
theorem c_X7_does (l : Launch) (D : va_G) (cI cS : ClassId) (a0 : Nat → Nat) (t0 : ST) (x1 : Int32) (x2 : Int32) (r : Int32) (t' : ST) (hF : F_X7_does t0 x1 x2 = some (r, t')) : Met l yX7_does (Cond.code yX7_does cX7_does 4 (some .boolean) :: ALL) rm_X7_does (PreW D cI cS [.ref (a0 0), .int x1, .int x2] (pM cI cS a0 t0)) (va_Qi (fun x (_ : Unit) => x = r ∧ (x = 0 ∨ x = 1)) (fun _ t => va_P D vwCl (pM cI cS a0 t') t.heap) (AD (pM cI cS a0 t0))) 0 0 (AD (pM cI cS a0 t0)) := by
  refine mW l D cI cS (by decide) (Nat.le_of_ble_eq_true rfl) ?_
  intro p e s m below meth c ls hx hb hr hml hown hts hlocks hP hK hD hS hl
  have hown : s.vm.findClass RX7 = some m.cls := hown
  have hl : lv_has ls 4 [(0, .ref (a0 0)), (1, .int x1), (2, .int x2)] := hl
  unfold F_X7_does at hF
  refine lv_iload_n hx hb dX7_does_0 rfl (lv_at hl 2 rfl) ?_
  refine lv_if_ne (tgt := 54) hx hb dX7_does_1 (by decide) (fun c1 => ?_) (fun c1 => ?_)
  · replace hF := iq c1 hF
    refine lv_iload_n hx hb dX7_does_54 rfl (lv_at hl 2 rfl) ?_
    refine lv_bipush (v := 10) hx hb dX7_does_55 (by decide) ?_
    refine lv_icmp_lt (tgt := 77) hx hb dX7_does_57 (by decide) (fun c57 => ?_) (fun c57 => ?_)
    · replace hF := ip c57 hF
      refine lv_aload_n hx hb dX7_does_77 rfl (lv_at hl 0 rfl) ?_
      refine va_get (D := D) (ci := 6) (v := .int (t0 0 5)) (C := RX7) (T := TX7) (N := 29) hx hb hts (fun w h => List.mem_cons_of_mem _ (inAX7 w h)) hown hK.1 hP 0 (at_M_0 cI cS _ _) rfl 8 (by decide) (hts _ (List.mem_cons_of_mem _ fl_RX7_105)) (fun _ h9 => h9) rfl dX7_does_78 ?_
      refine lv_iload_n hx hb dX7_does_81 rfl (lv_at hl 1 rfl) ?_
      obtain ⟨v82, h82, hF⟩ := bd hF
      refine cRb (va_runS (As := [.int (t0 0 5), .int x1]) (rest := []) ⟨hx, hb, hml, hown, hts⟩ (c_X7_isOf l D cI cS (t0 0 5) x1 v82 h82) (cwSA hts (TW.cons _) ls_X7_isOf ml_RX7_144 ⟨rfl, rfl⟩ ⟨(Nat.le_of_ble_eq_true rfl), (Nat.le_of_ble_eq_true rfl)⟩) (pRS hK pnil) rfl rfl hl.1 rfl (lv_room (Nat.le_of_ble_eq_true rfl)) dX7_does_82 ⟨Nat.le_refl _, Nat.le_refl _⟩) (fun b82 => ?_)
      refine lv_iload_n hx hb dX7_does_85 rfl (lv_at hl 2 rfl) ?_
      refine lv_iconst (v := 2) hx hb dX7_does_86 (by decide) ?_
      have J95 : ∀ (s0_95 : ST) (z0_95 : Int32) (z1_95 : Int32) (H : Heap) (locs : List Loc) (ls : Array Slot), va_P D vwCl (pM cI cS a0 s0_95) H → va_D (AD (pM cI cS a0 t0)) (pM cI cS a0 s0_95) → va_S (AD (pM cI cS a0 t0)) s.heap H locs → lv_has ls 4 [(0, .ref (a0 0)), (1, .int x1)] → F_X7_does_J95 x1 x2 s0_95 z0_95 z1_95 = some (r, t') → W p l e rm_X7_does s m [.ref (a0 0), .int x1, .int x2].toArray below meth c H locs 0 0 (MQ below (va_Qi (fun x (_ : Unit) => x = r ∧ (x = 0 ∨ x = 1)) (fun _ t => va_P D vwCl (pM cI cS a0 t') t.heap) (AD (pM cI cS a0 t0))) [.ref (a0 0), .int x1, .int x2].toArray s 0 0 (AD (pM cI cS a0 t0))) (F0 m 95 ls [.int z0_95, .int z1_95]) := by
        intro s0_95 z0_95 z1_95 H locs ls hP hD hS hl hF
        unfold F_X7_does_J95 at hF
        refine lv_icmp_eq (tgt := 100) hx hb dX7_does_95 (by decide) (fun c95 => ?_) (fun c95 => ?_)
        · replace hF := ip c95 hF
          refine lv_aload_n hx hb dX7_does_100 rfl (lv_at hl 0 rfl) ?_
          refine lv_dup hx hb dX7_does_101 rfl ?_
          refine va_get (D := D) (ci := 6) (v := .int (s0_95 0 5)) (C := RX7) (T := TX7) (N := 29) hx hb hts (fun w h => List.mem_cons_of_mem _ (inAX7 w h)) hown hK.1 hP 0 (at_M_0 cI cS _ _) rfl 8 (by decide) (hts _ (List.mem_cons_of_mem _ fl_RX7_105)) (fun _ h9 => h9) rfl dX7_does_102 ?_
          refine lv_iconst (v := 1) hx hb dX7_does_105 (by decide) ?_
          refine lv_iload_n hx hb dX7_does_106 rfl (lv_at hl 1 rfl) ?_
          refine lv_ishl hx hb dX7_does_107 ?_
          refine lv_ixor hx hb dX7_does_108 ?_
          refine wF (ws' := pM cI cS a0 (st s0_95 0 5 ((s0_95 0 5) ^^^ (1 <<< (x1 &&& 31))))) (C := RX7) (T := TX7) (N := 29) hx hb hts (fun w h => List.mem_cons_of_mem _ (inAX7 w h)) tyX7 tyX7_ok nmX7 hown hK.1 hP hD hS 0 (at_M_0 cI cS _ _) rfl 8 (by decide) (hts _ (List.mem_cons_of_mem _ fl_RX7_105)) rfl (tyX7_ok 8 (by decide)) rfl rfl (Nat.le_of_ble_eq_true rfl) (sf_M_0_8 cI cS _ _ _) dX7_does_109 (fun H locs hP hD hS => ?_)
          refine lv_iconst (v := 1) hx hb dX7_does_112 (by decide) ?_
          exact W.zret hx hb hr rfl (fun t ht hW => ⟨⟨_, (), rfl, ⟨(Prod.mk.inj (Option.some.inj hF)).1, Or.inr rfl⟩, by show va_P _ _ _ t.heap; rw [ht, ← (Prod.mk.inj (Option.some.inj hF)).2]; exact hP⟩, hS.F ht⟩) hS.2.2 dX7_does_113
        · replace hF := iq c95 hF
          refine lv_iconst (v := 0) hx hb dX7_does_98 (by decide) ?_
          exact W.zret hx hb hr rfl (fun t ht hW => ⟨⟨_, (), rfl, ⟨(Prod.mk.inj (Option.some.inj hF)).1, Or.inl rfl⟩, by show va_P _ _ _ t.heap; rw [ht, ← (Prod.mk.inj (Option.some.inj hF)).2]; exact hP⟩, hS.F ht⟩) hS.2.2 dX7_does_99
      refine lv_icmp_ne (tgt := 94) hx hb dX7_does_87 (by decide) (fun c87 => ?_) (fun c87 => ?_)
      · replace hF := iq c87 hF
        refine lv_iconst (v := 0) hx hb dX7_does_94 (by decide) ?_
        exact J95 t0 0 v82 _ _ _ hP hD hS (lv_sub hl [0, 1] rfl) hF
      · replace hF := ip c87 hF
        refine lv_iconst (v := 1) hx hb dX7_does_90 (by decide) ?_
        refine lv_goto (tgt := 95) hx hb dX7_does_91 (by decide) ?_
        exact J95 t0 1 v82 _ _ _ hP hD hS (lv_sub hl [0, 1] rfl) hF
    · replace hF := iq c57 hF
      refine lv_aload_n hx hb dX7_does_60 rfl (lv_at hl 0 rfl) ?_
      refine va_get (D := D) (ci := 6) (v := .ref (a0 6)) (C := RX7) (T := TX7) (N := 29) hx hb hts (fun w h => List.mem_cons_of_mem _ (inAX7 w h)) hown hK.1 hP 0 (at_M_0 cI cS _ _) rfl 11 (by decide) (hts _ (List.mem_cons_of_mem _ fl_RX7_25)) (fun _ h9 => h9) rfl dX7_does_61 ?_
      refine lv_iload_n hx hb dX7_does_64 rfl (lv_at hl 1 rfl) ?_
      refine lv_dup2_11 hx hb dX7_does_65 rfl rfl ?_
      obtain ⟨v66, h66, hF⟩ := bd hF
      refine rI hx hb hK.1 hP 6 0 (at_M_6 cI cS _ _) rfl h66 dX7_does_66 ?_
      refine lv_iconst (v := 1) hx hb dX7_does_67 (by decide) ?_
      refine lv_iload_n hx hb dX7_does_68 rfl (lv_at hl 2 rfl) ?_
      refine lv_bipush (v := 10) hx hb dX7_does_69 (by decide) ?_
      refine lv_isub hx hb dX7_does_71 ?_
      refine lv_ishl hx hb dX7_does_72 ?_
      refine lv_ixor hx hb dX7_does_73 ?_
      obtain ⟨k74, h74, hF⟩ := bd hF
      refine wI (ws' := pM cI cS a0 (st t0 6 k74 (v66 ^^^ (1 <<< ((x2 - 10) &&& 31))))) hx hb hK.1 hP hD hS 6 0 (at_M_6 cI cS _ _) rfl h74 (sw_M_6 cI cS _ _ _ _) dX7_does_74 (fun H locs hP hD hS => ?_)
      refine lv_iconst (v := 1) hx hb dX7_does_75 (by decide) ?_
      exact W.zret hx hb hr rfl (fun t ht hW => ⟨⟨_, (), rfl, ⟨(Prod.mk.inj (Option.some.inj hF)).1, Or.inr rfl⟩, by show va_P _ _ _ t.heap; rw [ht, ← (Prod.mk.inj (Option.some.inj hF)).2]; exact hP⟩, hS.F ht⟩) hS.2.2 dX7_does_76
  · replace hF := ip c1 hF
    refine lv_iconst (v := 0) hx hb dX7_does_4 (by decide) ?_
    refine lv_istore_n (lv' := [(3, .int 0), (0, .ref (a0 0)), (1, .int x1), (2, .int x2)]) hx hb dX7_does_5 rfl hl (by decide) rfl (fun ls hl => ?_)
    have L6 : ∀ (n_6 : Nat) (x3_6 : Int32) (s0_6 : ST) (H : Heap) (locs : List Loc) (ls : Array Slot), va_P D vwCl (pM cI cS a0 s0_6) H → va_D (AD (pM cI cS a0 t0)) (pM cI cS a0 s0_6) → va_S (AD (pM cI cS a0 t0)) s.heap H locs → lv_has ls 4 [(0, .ref (a0 0)), (1, .int x1), (3, .int x3_6)] → F_X7_does_L6 x1 x2 (fun x3_k6 s0_k6 => F_X7_does_J52 x1 x2 s0_k6) n_6 x3_6 s0_6 = some (r, t') → W p l e rm_X7_does s m [.ref (a0 0), .int x1, .int x2].toArray below meth c H locs 0 0 (MQ below (va_Qi (fun x (_ : Unit) => x = r ∧ (x = 0 ∨ x = 1)) (fun _ t => va_P D vwCl (pM cI cS a0 t') t.heap) (AD (pM cI cS a0 t0))) [.ref (a0 0), .int x1, .int x2].toArray s 0 0 (AD (pM cI cS a0 t0))) (F0 m 6 ls []) := by
      intro n_6
      induction n_6 with
      | zero => intro x3_6 s0_6 H locs ls hP hD hS hl hF; exact nomatch hF
      | succ n_6 ih6 =>
        intro x3_6 s0_6 H locs ls hP hD hS hl hF
        rw [F_X7_does_L6.eq_2] at hF
        refine lv_iload_n hx hb dX7_does_6 rfl (lv_at hl 2 rfl) ?_
        refine lv_iload_n hx hb dX7_does_7 rfl (lv_at hl 1 rfl) ?_
        refine lv_icmp_ge (tgt := 52) hx hb dX7_does_8 (by decide) (fun c8 => ?_) (fun c8 => ?_)
        · replace hF := ip c8 hF
          have hF : F_X7_does_J52 x1 x2 s0_6 = some (r, t') := hF
          unfold F_X7_does_J52 at hF
          refine lv_iconst (v := 1) hx hb dX7_does_52 (by decide) ?_
          exact W.zret hx hb hr rfl (fun t ht hW => ⟨⟨_, (), rfl, ⟨(Prod.mk.inj (Option.some.inj hF)).1, Or.inr rfl⟩, by show va_P _ _ _ t.heap; rw [ht, ← (Prod.mk.inj (Option.some.inj hF)).2]; exact hP⟩, hS.F ht⟩) hS.2.2 dX7_does_53
        · replace hF := iq c8 hF
          refine lv_aload_n hx hb dX7_does_11 rfl (lv_at hl 0 rfl) ?_
          obtain ⟨u12, h12, hF⟩ := bd hF
          refine cAv (ws' := pM cI cS a0 u12) (va_runV (As := []) (rest := []) ⟨hx, hb, hml, hown, hts⟩ (c_X7_oneDay l D cI cS a0 s0_6 u12 h12) (cwVA hts (TW.cons _) lv_X7_oneDay ml_RX7_153 ⟨rfl, rfl⟩ ⟨(Nat.le_of_ble_eq_true rfl), (Nat.le_of_ble_eq_true rfl)⟩) (pWV hK hP hD (ci := 6) rfl rfl) rfl rfl hl.1 rfl (lv_room (Nat.le_of_ble_eq_true rfl)) dX7_does_12 ⟨Nat.le_refl _, Nat.le_refl _⟩) hD hS (ad_M cI cS _ _ _) (fun H locs hP hD hS => ?_)
          refine lv_aload_n hx hb dX7_does_15 rfl (lv_at hl 0 rfl) ?_
          refine lv_dup hx hb dX7_does_16 rfl ?_
          refine va_get (D := D) (ci := 6) (v := .int (u12 0 9)) (C := RX7) (T := TX7) (N := 29) hx hb hts (fun w h => List.mem_cons_of_mem _ (inAX7 w h)) hown hK.1 hP 0 (at_M_0 cI cS _ _) rfl 18 (by decide) (hts _ (List.mem_cons_of_mem _ fl_RX7_156)) (fun _ h9 => h9) rfl dX7_does_17 ?_
          refine lv_iconst (v := 1) hx hb dX7_does_20 (by decide) ?_
          refine lv_iadd hx hb dX7_does_21 ?_
          refine wF (ws' := pM cI cS a0 (st u12 0 9 ((u12 0 9) + 1))) (C := RX7) (T := TX7) (N := 29) hx hb hts (fun w h => List.mem_cons_of_mem _ (inAX7 w h)) tyX7 tyX7_ok nmX7 hown hK.1 hP hD hS 0 (at_M_0 cI cS _ _) rfl 18 (by decide) (hts _ (List.mem_cons_of_mem _ fl_RX7_156)) rfl (tyX7_ok 18 (by decide)) rfl rfl (Nat.le_of_ble_eq_true rfl) (sf_M_0_18 cI cS _ _ _) dX7_does_22 (fun H locs hP hD hS => ?_)
          refine lv_aload_n hx hb dX7_does_25 rfl (lv_at hl 0 rfl) ?_
          refine lv_dup hx hb dX7_does_26 rfl ?_
          refine va_get (D := D) (ci := 6) (v := .int (u12 0 10)) (C := RX7) (T := TX7) (N := 29) hx hb hts (fun w h => List.mem_cons_of_mem _ (inAX7 w h)) hown hK.1 hP 0 (at_M_0 cI cS _ _) rfl 19 (by decide) (hts _ (List.mem_cons_of_mem _ fl_RX7_159)) (fun _ h9 => h9) rfl dX7_does_27 ?_
          refine lv_aload_n hx hb dX7_does_30 rfl (lv_at hl 0 rfl) ?_
          obtain ⟨v31, h31, hF⟩ := bd hF
          refine cRb (va_runV (As := []) (rest := [.int (u12 0 10), .ref (a0 0)]) ⟨hx, hb, hml, hown, hts⟩ (c_X7_areTwins l D cI cS a0 (st u12 0 9 ((u12 0 9) + 1)) v31 h31) (cwVA hts (TW.cons _) lv_X7_areTwins ml_RX7_162 ⟨rfl, rfl⟩ ⟨(Nat.le_of_ble_eq_true rfl), (Nat.le_of_ble_eq_true rfl)⟩) (pRV hK hP (ci := 6) rfl rfl) rfl rfl hl.1 rfl (lv_room (Nat.le_of_ble_eq_true rfl)) dX7_does_31 ⟨Nat.le_refl _, Nat.le_refl _⟩) (fun b31 => ?_)
          refine lv_if_eq (tgt := 41) hx hb dX7_does_34 (by decide) (fun c34 => ?_) (fun c34 => ?_)
          · replace hF := ip c34 hF
            refine lv_iconst (v := 0) hx hb dX7_does_41 (by decide) ?_
            refine lv_iadd hx hb dX7_does_42 ?_
            refine wF (ws' := pM cI cS a0 (st (st u12 0 9 ((u12 0 9) + 1)) 0 10 ((u12 0 10) + 0))) (C := RX7) (T := TX7) (N := 29) hx hb hts (fun w h => List.mem_cons_of_mem _ (inAX7 w h)) tyX7 tyX7_ok nmX7 hown hK.1 hP hD hS 0 (at_M_0 cI cS _ _) rfl 19 (by decide) (hts _ (List.mem_cons_of_mem _ fl_RX7_159)) rfl (tyX7_ok 19 (by decide)) rfl rfl (Nat.le_of_ble_eq_true rfl) (sf_M_0_19 cI cS _ _ _) dX7_does_43 (fun H locs hP hD hS => ?_)
            refine lv_iinc (v := (x3_6 + 1)) (lv' := [(3, .int (x3_6 + 1)), (0, .ref (a0 0)), (1, .int x1)]) hx hb dX7_does_46 hl (k := 2) rfl rfl (by decide) rfl (fun ls hl => ?_)
            refine lv_goto (tgt := 6) hx hb dX7_does_49 (by decide) ?_
            exact ih6 (x3_6 + 1) (st (st u12 0 9 ((u12 0 9) + 1)) 0 10 ((u12 0 10) + 0)) _ _ _ hP hD hS (lv_sub hl [1, 2, 0] rfl) hF
          · replace hF := iq c34 hF
            refine lv_iconst (v := 1) hx hb dX7_does_37 (by decide) ?_
            refine lv_goto (tgt := 42) hx hb dX7_does_38 (by decide) ?_
            refine lv_iadd hx hb dX7_does_42 ?_
            refine wF (ws' := pM cI cS a0 (st (st u12 0 9 ((u12 0 9) + 1)) 0 10 ((u12 0 10) + 1))) (C := RX7) (T := TX7) (N := 29) hx hb hts (fun w h => List.mem_cons_of_mem _ (inAX7 w h)) tyX7 tyX7_ok nmX7 hown hK.1 hP hD hS 0 (at_M_0 cI cS _ _) rfl 19 (by decide) (hts _ (List.mem_cons_of_mem _ fl_RX7_159)) rfl (tyX7_ok 19 (by decide)) rfl rfl (Nat.le_of_ble_eq_true rfl) (sf_M_0_19 cI cS _ _ _) dX7_does_43 (fun H locs hP hD hS => ?_)
            refine lv_iinc (v := (x3_6 + 1)) (lv' := [(3, .int (x3_6 + 1)), (0, .ref (a0 0)), (1, .int x1)]) hx hb dX7_does_46 hl (k := 2) rfl rfl (by decide) rfl (fun ls hl => ?_)
            refine lv_goto (tgt := 6) hx hb dX7_does_49 (by decide) ?_
            exact ih6 (x3_6 + 1) (st (st u12 0 9 ((u12 0 9) + 1)) 0 10 ((u12 0 10) + 1)) _ _ _ hP hD hS (lv_sub hl [1, 2, 0] rfl) hF
    exact L6 1000 0 t0 _ _ _ hP hD hS (lv_sub hl [1, 2, 0] rfl) hF
noncomputable def F_X7_goYears_L12 (x1 : Int32) (x2 : Int32) (k : Int32 → ST → Option (Int32 × ST)) : Nat → Int32 → ST → Option (Int32 × ST)
  | 0, _, _ => none
  | n + 1, x3, s0 =>
    if x2 ≤ x3 then
      k x3 s0
    else
    (rd 240 (s0 3) (x1 + (2 * x3))).bind fun v27 =>
    (rd 240 (s0 3) ((x1 + (2 * x3)) + 1)).bind fun v39 =>
    b2 (F_X7_does s0 v27 v39) fun v40 u40 =>
    if v40 = 0 then
      some (x3, u40)
    else
    (F_X7_goYears_L12 x1 x2 k n) (x3 + 1) u40
noncomputable def F_X7_goYears_J54 (x1 : Int32) (x2 : Int32) (s0 : ST) : Option (Int32 × ST) :=
  some ((-9), s0)
noncomputable def F_X7_goYears (t0 : ST) (x1 : Int32) (x2 : Int32) : Option (Int32 × ST) :=
  F_X7_goYears_L12 x1 x2 (fun x3_k12 s0_k12 => F_X7_goYears_J54 x1 x2 s0_k12) 1000 0 (st (st t0 0 9 0) 0 10 0)
abbrev rm_X7_goYears : Room := { frames := 3, cells := 0, slots := 0, locals := 68 }
set_option maxHeartbeats 4000000 in
set_option maxRecDepth 100000 in
theorem c_X7_goYears (l : Launch) (D : va_G) (cI cS : ClassId) (a0 : Nat → Nat) (t0 : ST) (x1 : Int32) (x2 : Int32) (r : Int32) (t' : ST) (hF : F_X7_goYears t0 x1 x2 = some (r, t')) : Met l yX7_goYears (Cond.code yX7_goYears cX7_goYears 4 (some .int) :: ALL) rm_X7_goYears (PreW D cI cS [.ref (a0 0), .int x1, .int x2] (pM cI cS a0 t0)) (va_Qi (fun x (_ : Unit) => x = r) (fun _ t => va_P D vwCl (pM cI cS a0 t') t.heap) (AD (pM cI cS a0 t0))) 0 0 (AD (pM cI cS a0 t0)) := by
  refine mW l D cI cS (by decide) (Nat.le_of_ble_eq_true rfl) ?_
  intro p e s m below meth c ls hx hb hr hml hown hts hlocks hP hK hD hS hl
  have hown : s.vm.findClass RX7 = some m.cls := hown
  have hl : lv_has ls 4 [(0, .ref (a0 0)), (1, .int x1), (2, .int x2)] := hl
  unfold F_X7_goYears at hF
  refine lv_aload_n hx hb dX7_goYears_0 rfl (lv_at hl 0 rfl) ?_
  refine lv_iconst (v := 0) hx hb dX7_goYears_1 (by decide) ?_
  refine wF (ws' := pM cI cS a0 (st t0 0 9 0)) (C := RX7) (T := TX7) (N := 29) hx hb hts (fun w h => List.mem_cons_of_mem _ (inAX7 w h)) tyX7 tyX7_ok nmX7 hown hK.1 hP hD hS 0 (at_M_0 cI cS _ _) rfl 18 (by decide) (hts _ (List.mem_cons_of_mem _ fl_RX7_156)) rfl (tyX7_ok 18 (by decide)) rfl rfl (Nat.le_of_ble_eq_true rfl) (sf_M_0_18 cI cS _ _ _) dX7_goYears_2 (fun H locs hP hD hS => ?_)
  refine lv_aload_n hx hb dX7_goYears_5 rfl (lv_at hl 0 rfl) ?_
  refine lv_iconst (v := 0) hx hb dX7_goYears_6 (by decide) ?_
  refine wF (ws' := pM cI cS a0 (st (st t0 0 9 0) 0 10 0)) (C := RX7) (T := TX7) (N := 29) hx hb hts (fun w h => List.mem_cons_of_mem _ (inAX7 w h)) tyX7 tyX7_ok nmX7 hown hK.1 hP hD hS 0 (at_M_0 cI cS _ _) rfl 19 (by decide) (hts _ (List.mem_cons_of_mem _ fl_RX7_159)) rfl (tyX7_ok 19 (by decide)) rfl rfl (Nat.le_of_ble_eq_true rfl) (sf_M_0_19 cI cS _ _ _) dX7_goYears_7 (fun H locs hP hD hS => ?_)
  refine lv_iconst (v := 0) hx hb dX7_goYears_10 (by decide) ?_
  refine lv_istore_n (lv' := [(3, .int 0), (0, .ref (a0 0)), (1, .int x1), (2, .int x2)]) hx hb dX7_goYears_11 rfl hl (by decide) rfl (fun ls hl => ?_)
  have L12 : ∀ (n_12 : Nat) (x3_12 : Int32) (s0_12 : ST) (H : Heap) (locs : List Loc) (ls : Array Slot), va_P D vwCl (pM cI cS a0 s0_12) H → va_D (AD (pM cI cS a0 t0)) (pM cI cS a0 s0_12) → va_S (AD (pM cI cS a0 t0)) s.heap H locs → lv_has ls 4 [(0, .ref (a0 0)), (1, .int x1), (2, .int x2), (3, .int x3_12)] → F_X7_goYears_L12 x1 x2 (fun x3_k12 s0_k12 => F_X7_goYears_J54 x1 x2 s0_k12) n_12 x3_12 s0_12 = some (r, t') → W p l e rm_X7_goYears s m [.ref (a0 0), .int x1, .int x2].toArray below meth c H locs 0 0 (MQ below (va_Qi (fun x (_ : Unit) => x = r) (fun _ t => va_P D vwCl (pM cI cS a0 t') t.heap) (AD (pM cI cS a0 t0))) [.ref (a0 0), .int x1, .int x2].toArray s 0 0 (AD (pM cI cS a0 t0))) (F0 m 12 ls []) := by
    intro n_12
    induction n_12 with
    | zero => intro x3_12 s0_12 H locs ls hP hD hS hl hF; exact nomatch hF
    | succ n_12 ih12 =>
      intro x3_12 s0_12 H locs ls hP hD hS hl hF
      rw [F_X7_goYears_L12.eq_2] at hF
      refine lv_iload_n hx hb dX7_goYears_12 rfl (lv_at hl 3 rfl) ?_
      refine lv_iload_n hx hb dX7_goYears_13 rfl (lv_at hl 2 rfl) ?_
      refine lv_icmp_ge (tgt := 54) hx hb dX7_goYears_14 (by decide) (fun c14 => ?_) (fun c14 => ?_)
      · replace hF := ip c14 hF
        have hF : F_X7_goYears_J54 x1 x2 s0_12 = some (r, t') := hF
        unfold F_X7_goYears_J54 at hF
        refine lv_bipush (v := (-9)) hx hb dX7_goYears_54 (by decide) ?_
        exact W.iret hx hb hr (fun t ht hW => ⟨⟨_, (), rfl, (Prod.mk.inj (Option.some.inj hF)).1, by show va_P _ _ _ t.heap; rw [ht, ← (Prod.mk.inj (Option.some.inj hF)).2]; exact hP⟩, hS.F ht⟩) hS.2.2 dX7_goYears_56
      · replace hF := iq c14 hF
        refine lv_aload_n hx hb dX7_goYears_17 rfl (lv_at hl 0 rfl) ?_
        refine lv_aload_n hx hb dX7_goYears_18 rfl (lv_at hl 0 rfl) ?_
        refine va_get (D := D) (ci := 6) (v := .ref (a0 3)) (C := RX7) (T := TX7) (N := 29) hx hb hts (fun w h => List.mem_cons_of_mem _ (inAX7 w h)) hown hK.1 hP 0 (at_M_0 cI cS _ _) rfl 4 (by decide) (hts _ (List.mem_cons_of_mem _ fl_RX7_16)) (fun _ h9 => h9) rfl dX7_goYears_19 ?_
        refine lv_iload_n hx hb dX7_goYears_22 rfl (lv_at hl 1 rfl) ?_
        refine lv_iconst (v := 2) hx hb dX7_goYears_23 (by decide) ?_
        refine lv_iload_n hx hb dX7_goYears_24 rfl (lv_at hl 3 rfl) ?_
        refine lv_imul hx hb dX7_goYears_25 ?_
        refine lv_iadd hx hb dX7_goYears_26 ?_
        obtain ⟨v27, h27, hF⟩ := bd hF
        refine rI hx hb hK.1 hP 3 0 (at_M_3 cI cS _ _) rfl h27 dX7_goYears_27 ?_
        refine lv_aload_n hx hb dX7_goYears_28 rfl (lv_at hl 0 rfl) ?_
        refine va_get (D := D) (ci := 6) (v := .ref (a0 3)) (C := RX7) (T := TX7) (N := 29) hx hb hts (fun w h => List.mem_cons_of_mem _ (inAX7 w h)) hown hK.1 hP 0 (at_M_0 cI cS _ _) rfl 4 (by decide) (hts _ (List.mem_cons_of_mem _ fl_RX7_16)) (fun _ h9 => h9) rfl dX7_goYears_29 ?_
        refine lv_iload_n hx hb dX7_goYears_32 rfl (lv_at hl 1 rfl) ?_
        refine lv_iconst (v := 2) hx hb dX7_goYears_33 (by decide) ?_
        refine lv_iload_n hx hb dX7_goYears_34 rfl (lv_at hl 3 rfl) ?_
        refine lv_imul hx hb dX7_goYears_35 ?_
        refine lv_iadd hx hb dX7_goYears_36 ?_
        refine lv_iconst (v := 1) hx hb dX7_goYears_37 (by decide) ?_
        refine lv_iadd hx hb dX7_goYears_38 ?_
        obtain ⟨v39, h39, hF⟩ := bd hF
        refine rI hx hb hK.1 hP 3 0 (at_M_3 cI cS _ _) rfl h39 dX7_goYears_39 ?_
        obtain ⟨v40, u40, h40, hF⟩ := bd2 hF
        refine cAb (ws' := pM cI cS a0 u40) (va_runV (As := [.int v27, .int v39]) (rest := []) ⟨hx, hb, hml, hown, hts⟩ (c_X7_does l D cI cS a0 s0_12 v27 v39 v40 u40 h40) (cwVA hts (TW.cons _) lv_X7_does ml_RX7_166 ⟨rfl, rfl⟩ ⟨(Nat.le_of_ble_eq_true rfl), (Nat.le_of_ble_eq_true rfl)⟩) (pWV hK hP hD (ci := 6) rfl rfl) rfl rfl hl.1 rfl (lv_room (Nat.le_of_ble_eq_true rfl)) dX7_goYears_40 ⟨Nat.le_refl _, Nat.le_refl _⟩) hD hS (ad_M cI cS _ _ _) (fun b40 H locs hP hD hS => ?_)
        refine lv_if_ne (tgt := 48) hx hb dX7_goYears_43 (by decide) (fun c43 => ?_) (fun c43 => ?_)
        · replace hF := iq c43 hF
          refine lv_iinc (v := (x3_12 + 1)) (lv' := [(3, .int (x3_12 + 1)), (0, .ref (a0 0)), (1, .int x1), (2, .int x2)]) hx hb dX7_goYears_48 hl (k := 3) rfl rfl (by decide) rfl (fun ls hl => ?_)
          refine lv_goto (tgt := 12) hx hb dX7_goYears_51 (by decide) ?_
          exact ih12 (x3_12 + 1) u40 _ _ _ hP hD hS (lv_sub hl [1, 2, 3, 0] rfl) hF
        · replace hF := ip c43 hF
          refine lv_iload_n hx hb dX7_goYears_46 rfl (lv_at hl 3 rfl) ?_
          exact W.iret hx hb hr (fun t ht hW => ⟨⟨_, (), rfl, (Prod.mk.inj (Option.some.inj hF)).1, by show va_P _ _ _ t.heap; rw [ht, ← (Prod.mk.inj (Option.some.inj hF)).2]; exact hP⟩, hS.F ht⟩) hS.2.2 dX7_goYears_47
  exact L12 1000 0 (st (st t0 0 9 0) 0 10 0) _ _ _ hP hD hS (lv_sub hl [1, 2, 3, 0] rfl) hF
noncomputable def F_X7_refusesPair_J37 (t0 : ST) (x1 : Int32) (x2 : Int32) : Option Int32 :=
  if x2 = 0 then
    some 0
  else
  (F_X7_isBlock t0 x1).bind fun v43 =>
  if v43 = 0 then
    some (-1)
  else
  some 0
noncomputable def F_X7_refusesPair_J20 (t0 : ST) (x1 : Int32) (x2 : Int32) : Option Int32 :=
  if x2 = 0 then
    (F_X7_within x1 0 99).bind fun v28 =>
    if v28 = 0 then
      some (-2)
    else
    F_X7_refusesPair_J37 t0 x1 x2
  else
  F_X7_refusesPair_J37 t0 x1 x2
noncomputable def F_X7_refusesPair (t0 : ST) (x1 : Int32) (x2 : Int32) : Option Int32 :=
  (F_X7_within x2 0 2).bind fun v3 =>
  if v3 = 0 then
    (F_X7_within x2 10 15).bind fun v14 =>
    if v14 = 0 then
      some (-2)
    else
    F_X7_refusesPair_J20 t0 x1 x2
  else
  F_X7_refusesPair_J20 t0 x1 x2
abbrev rm_X7_refusesPair : Room := { frames := 1, cells := 0, slots := 0, locals := 22 }
set_option maxHeartbeats 4000000 in
set_option maxRecDepth 100000 in
theorem c_X7_refusesPair (l : Launch) (D : va_G) (cI cS : ClassId) (a0 : Nat → Nat) (t0 : ST) (x1 : Int32) (x2 : Int32) (r : Int32) (hF : F_X7_refusesPair t0 x1 x2 = some r) : Met l yX7_refusesPair (Cond.code yX7_refusesPair cX7_refusesPair 3 (some .int) :: ALL) rm_X7_refusesPair (PreR D cI cS [.ref (a0 0), .int x1, .int x2] (pM cI cS a0 t0)) (vp_Si (fun x => x = r)) 0 0 (fun _ => False) := by
  refine mR l D cI cS (by decide) (Nat.le_of_ble_eq_true rfl) ?_
  intro p e s m below meth c ls hx hb hr hml hown hts hlocks hP hK hl
  have hown : s.vm.findClass RX7 = some m.cls := hown
  have hl : lv_has ls 3 [(0, .ref (a0 0)), (1, .int x1), (2, .int x2)] := hl
  unfold F_X7_refusesPair at hF
  refine lv_iload_n hx hb dX7_refusesPair_0 rfl (lv_at hl 2 rfl) ?_
  refine lv_iconst (v := 0) hx hb dX7_refusesPair_1 (by decide) ?_
  refine lv_iconst (v := 2) hx hb dX7_refusesPair_2 (by decide) ?_
  obtain ⟨v3, h3, hF⟩ := bd hF
  refine cRb (va_runS (As := [.int x2, .int 0, .int 2]) (rest := []) ⟨hx, hb, hml, hown, hts⟩ (c_X7_within l D cI cS x2 0 2 v3 h3) (cwSA hts (TW.cons _) ls_X7_within ml_RX7_61 ⟨rfl, rfl⟩ ⟨(Nat.le_of_ble_eq_true rfl), (Nat.le_of_ble_eq_true rfl)⟩) (pRS hK pnil) rfl rfl hl.1 rfl (lv_room (Nat.le_of_ble_eq_true rfl)) dX7_refusesPair_3 ⟨Nat.le_refl _, Nat.le_refl _⟩) (fun b3 => ?_)
  have J20 : ∀ (ls : Array Slot), lv_has ls 3 [(0, .ref (a0 0)), (1, .int x1), (2, .int x2)] → F_X7_refusesPair_J20 t0 x1 x2  = some r → W p l e rm_X7_refusesPair s m [.ref (a0 0), .int x1, .int x2].toArray below meth c s.heap [] 0 0 (MQ below (vp_Si (fun x => x = r)) [.ref (a0 0), .int x1, .int x2].toArray s 0 0 (fun _ => False)) (F0 m 20 ls []) := by
    intro ls hl hF
    unfold F_X7_refusesPair_J20 at hF
    refine lv_iload_n hx hb dX7_refusesPair_20 rfl (lv_at hl 2 rfl) ?_
    have J37 : ∀ (ls : Array Slot), lv_has ls 3 [(0, .ref (a0 0)), (1, .int x1), (2, .int x2)] → F_X7_refusesPair_J37 t0 x1 x2  = some r → W p l e rm_X7_refusesPair s m [.ref (a0 0), .int x1, .int x2].toArray below meth c s.heap [] 0 0 (MQ below (vp_Si (fun x => x = r)) [.ref (a0 0), .int x1, .int x2].toArray s 0 0 (fun _ => False)) (F0 m 37 ls []) := by
      intro ls hl hF
      unfold F_X7_refusesPair_J37 at hF
      refine lv_iload_n hx hb dX7_refusesPair_37 rfl (lv_at hl 2 rfl) ?_
      refine lv_if_eq (tgt := 53) hx hb dX7_refusesPair_38 (by decide) (fun c38 => ?_) (fun c38 => ?_)
      · replace hF := ip c38 hF
        refine lv_iconst (v := 0) hx hb dX7_refusesPair_53 (by decide) ?_
        exact W.iret hx hb hr (fun t ht hW => ⟨_, rfl, (Option.some.inj hF), ht⟩) (fun _ h => nomatch h) dX7_refusesPair_54
      · replace hF := iq c38 hF
        refine lv_aload_n hx hb dX7_refusesPair_41 rfl (lv_at hl 0 rfl) ?_
        refine lv_iload_n hx hb dX7_refusesPair_42 rfl (lv_at hl 1 rfl) ?_
        obtain ⟨v43, h43, hF⟩ := bd hF
        refine cRb (va_runV (As := [.int x1]) (rest := []) ⟨hx, hb, hml, hown, hts⟩ (c_X7_isBlock l D cI cS a0 t0 x1 v43 h43) (cwVA hts (TW.cons _) lv_X7_isBlock ml_RX7_132 ⟨rfl, rfl⟩ ⟨(Nat.le_of_ble_eq_true rfl), (Nat.le_of_ble_eq_true rfl)⟩) (pRV hK hP (ci := 6) rfl rfl) rfl rfl hl.1 rfl (lv_room (Nat.le_of_ble_eq_true rfl)) dX7_refusesPair_43 ⟨Nat.le_refl _, Nat.le_refl _⟩) (fun b43 => ?_)
        refine lv_if_ne (tgt := 53) hx hb dX7_refusesPair_46 (by decide) (fun c46 => ?_) (fun c46 => ?_)
        · replace hF := iq c46 hF
          refine lv_iconst (v := 0) hx hb dX7_refusesPair_53 (by decide) ?_
          exact W.iret hx hb hr (fun t ht hW => ⟨_, rfl, (Option.some.inj hF), ht⟩) (fun _ h => nomatch h) dX7_refusesPair_54
        · replace hF := ip c46 hF
          refine lv_iconst (v := (-1)) hx hb dX7_refusesPair_49 (by decide) ?_
          refine lv_goto (tgt := 54) hx hb dX7_refusesPair_50 (by decide) ?_
          exact W.iret hx hb hr (fun t ht hW => ⟨_, rfl, (Option.some.inj hF), ht⟩) (fun _ h => nomatch h) dX7_refusesPair_54
    refine lv_if_ne (tgt := 37) hx hb dX7_refusesPair_21 (by decide) (fun c21 => ?_) (fun c21 => ?_)
    · replace hF := iq c21 hF
      exact J37  _ (lv_sub hl [0, 1, 2] rfl) hF
    · replace hF := ip c21 hF
      refine lv_iload_n hx hb dX7_refusesPair_24 rfl (lv_at hl 1 rfl) ?_
      refine lv_iconst (v := 0) hx hb dX7_refusesPair_25 (by decide) ?_
      refine lv_bipush (v := 99) hx hb dX7_refusesPair_26 (by decide) ?_
      obtain ⟨v28, h28, hF⟩ := bd hF
      refine cRb (va_runS (As := [.int x1, .int 0, .int 99]) (rest := []) ⟨hx, hb, hml, hown, hts⟩ (c_X7_within l D cI cS x1 0 99 v28 h28) (cwSA hts (TW.cons _) ls_X7_within ml_RX7_61 ⟨rfl, rfl⟩ ⟨(Nat.le_of_ble_eq_true rfl), (Nat.le_of_ble_eq_true rfl)⟩) (pRS hK pnil) rfl rfl hl.1 rfl (lv_room (Nat.le_of_ble_eq_true rfl)) dX7_refusesPair_28 ⟨Nat.le_refl _, Nat.le_refl _⟩) (fun b28 => ?_)
      refine lv_if_ne (tgt := 37) hx hb dX7_refusesPair_31 (by decide) (fun c31 => ?_) (fun c31 => ?_)
      · replace hF := iq c31 hF
        exact J37  _ (lv_sub hl [0, 1, 2] rfl) hF
      · replace hF := ip c31 hF
        refine lv_bipush (v := (-2)) hx hb dX7_refusesPair_34 (by decide) ?_
        exact W.iret hx hb hr (fun t ht hW => ⟨_, rfl, (Option.some.inj hF), ht⟩) (fun _ h => nomatch h) dX7_refusesPair_36
  refine lv_if_ne (tgt := 20) hx hb dX7_refusesPair_6 (by decide) (fun c6 => ?_) (fun c6 => ?_)
  · replace hF := iq c6 hF
    exact J20  _ (lv_sub hl [0, 1, 2] rfl) hF
  · replace hF := ip c6 hF
    refine lv_iload_n hx hb dX7_refusesPair_9 rfl (lv_at hl 2 rfl) ?_
    refine lv_bipush (v := 10) hx hb dX7_refusesPair_10 (by decide) ?_
    refine lv_bipush (v := 15) hx hb dX7_refusesPair_12 (by decide) ?_
    obtain ⟨v14, h14, hF⟩ := bd hF
    refine cRb (va_runS (As := [.int x2, .int 10, .int 15]) (rest := []) ⟨hx, hb, hml, hown, hts⟩ (c_X7_within l D cI cS x2 10 15 v14 h14) (cwSA hts (TW.cons _) ls_X7_within ml_RX7_61 ⟨rfl, rfl⟩ ⟨(Nat.le_of_ble_eq_true rfl), (Nat.le_of_ble_eq_true rfl)⟩) (pRS hK pnil) rfl rfl hl.1 rfl (lv_room (Nat.le_of_ble_eq_true rfl)) dX7_refusesPair_14 ⟨Nat.le_refl _, Nat.le_refl _⟩) (fun b14 => ?_)
    refine lv_if_eq (tgt := 34) hx hb dX7_refusesPair_17 (by decide) (fun c17 => ?_) (fun c17 => ?_)
    · replace hF := ip c17 hF
      refine lv_bipush (v := (-2)) hx hb dX7_refusesPair_34 (by decide) ?_
      exact W.iret hx hb hr (fun t ht hW => ⟨_, rfl, (Option.some.inj hF), ht⟩) (fun _ h => nomatch h) dX7_refusesPair_36
    · replace hF := iq c17 hF
      exact J20  _ (lv_sub hl [0, 1, 2] rfl) hF
noncomputable def F_X7_tellYears_L73 (t0 : ST) (x1 : Int32) (k : Int32 → Int32 → Option Int32) : Nat → Int32 → Int32 → Option Int32
  | 0, _, _ => none
  | n + 1, x2, x3 =>
    if (t0 0 3) ≤ x3 then
      k x2 x3
    else
    (rd 6 (t0 6) x3).bind fun v87 =>
    (F_X7_size v87).bind fun v88 =>
    (F_X7_tellYears_L73 t0 x1 k n) (x2 + v88) (x3 + 1)
noncomputable def F_X7_tellYears_J99 (t0 : ST) (x1 : Int32) (x2 : Int32) : Option Int32 :=
  some x2
noncomputable def F_X7_tellYears (t0 : ST) (x1 : Int32) : Option Int32 :=
  if x1 < 10 then
    if x1 = 0 then
      some (t0 0 5)
    else
    if x1 = 1 then
      some (t0 0 10)
    else
    if x1 = 2 then
      F_X7_tellYears_L73 t0 x1 (fun x2_k73 x3_k73 => F_X7_tellYears_J99 t0 x1 x2_k73) 1000 0 0
    else
    if x1 = 3 then
      some (t0 0 9)
    else
    some (t0 0 10)
  else
  (F_X7_isBlock t0 (x1 - 10)).bind fun v11 =>
  if v11 = 0 then
    some (-9)
  else
  (rd 6 (t0 6) (x1 - 10)).bind fun v25 =>
  some v25
abbrev rm_X7_tellYears : Room := { frames := 1, cells := 0, slots := 0, locals := 22 }
set_option maxHeartbeats 4000000 in
set_option maxRecDepth 100000 in
theorem c_X7_tellYears (l : Launch) (D : va_G) (cI cS : ClassId) (a0 : Nat → Nat) (t0 : ST) (x1 : Int32) (r : Int32) (hF : F_X7_tellYears t0 x1 = some r) : Met l yX7_tellYears (Cond.code yX7_tellYears cX7_tellYears 4 (some .int) :: ALL) rm_X7_tellYears (PreR D cI cS [.ref (a0 0), .int x1] (pM cI cS a0 t0)) (vp_Si (fun x => x = r)) 0 0 (fun _ => False) := by
  refine mR l D cI cS (by decide) (Nat.le_of_ble_eq_true rfl) ?_
  intro p e s m below meth c ls hx hb hr hml hown hts hlocks hP hK hl
  have hown : s.vm.findClass RX7 = some m.cls := hown
  have hl : lv_has ls 4 [(0, .ref (a0 0)), (1, .int x1)] := hl
  unfold F_X7_tellYears at hF
  refine lv_iload_n hx hb dX7_tellYears_0 rfl (lv_at hl 1 rfl) ?_
  refine lv_bipush (v := 10) hx hb dX7_tellYears_1 (by decide) ?_
  refine lv_icmp_lt (tgt := 32) hx hb dX7_tellYears_3 (by decide) (fun c3 => ?_) (fun c3 => ?_)
  · replace hF := ip c3 hF
    refine lv_iload_n hx hb dX7_tellYears_32 rfl (lv_at hl 1 rfl) ?_
    by_cases c33_0 : x1 = 0
    · replace hF := ip c33_0 hF
      refine lv_tableIn (off := 31) (tgt := 64) hx hb dX7_tellYears_33 (by rw [c33_0]; decide) (by rw [c33_0]; decide) (by rw [c33_0]; decide) (by decide) ?_
      refine lv_aload_n hx hb dX7_tellYears_64 rfl (lv_at hl 0 rfl) ?_
      refine va_get (D := D) (ci := 6) (v := .int (t0 0 5)) (C := RX7) (T := TX7) (N := 29) hx hb hts (fun w h => List.mem_cons_of_mem _ (inAX7 w h)) hown hK.1 hP 0 (at_M_0 cI cS _ _) rfl 8 (by decide) (hts _ (List.mem_cons_of_mem _ fl_RX7_105)) (fun _ h9 => h9) rfl dX7_tellYears_65 ?_
      exact W.iret hx hb hr (fun t ht hW => ⟨_, rfl, (Option.some.inj hF), ht⟩) (fun _ h => nomatch h) dX7_tellYears_68
    replace hF := iq c33_0 hF
    by_cases c33_1 : x1 = 1
    · replace hF := ip c33_1 hF
      refine lv_tableIn (off := 73) (tgt := 106) hx hb dX7_tellYears_33 (by rw [c33_1]; decide) (by rw [c33_1]; decide) (by rw [c33_1]; decide) (by decide) ?_
      refine lv_aload_n hx hb dX7_tellYears_106 rfl (lv_at hl 0 rfl) ?_
      refine va_get (D := D) (ci := 6) (v := .int (t0 0 10)) (C := RX7) (T := TX7) (N := 29) hx hb hts (fun w h => List.mem_cons_of_mem _ (inAX7 w h)) hown hK.1 hP 0 (at_M_0 cI cS _ _) rfl 19 (by decide) (hts _ (List.mem_cons_of_mem _ fl_RX7_159)) (fun _ h9 => h9) rfl dX7_tellYears_107 ?_
      exact W.iret hx hb hr (fun t ht hW => ⟨_, rfl, (Option.some.inj hF), ht⟩) (fun _ h => nomatch h) dX7_tellYears_110
    replace hF := iq c33_1 hF
    by_cases c33_2 : x1 = 2
    · replace hF := ip c33_2 hF
      refine lv_tableIn (off := 36) (tgt := 69) hx hb dX7_tellYears_33 (by rw [c33_2]; decide) (by rw [c33_2]; decide) (by rw [c33_2]; decide) (by decide) ?_
      refine lv_iconst (v := 0) hx hb dX7_tellYears_69 (by decide) ?_
      refine lv_istore_n (lv' := [(2, .int 0), (0, .ref (a0 0)), (1, .int x1)]) hx hb dX7_tellYears_70 rfl hl (by decide) rfl (fun ls hl => ?_)
      refine lv_iconst (v := 0) hx hb dX7_tellYears_71 (by decide) ?_
      refine lv_istore_n (lv' := [(3, .int 0), (2, .int 0), (0, .ref (a0 0)), (1, .int x1)]) hx hb dX7_tellYears_72 rfl hl (by decide) rfl (fun ls hl => ?_)
      have L73 : ∀ (n_73 : Nat) (x2_73 : Int32) (x3_73 : Int32) (ls : Array Slot), lv_has ls 4 [(0, .ref (a0 0)), (2, .int x2_73), (3, .int x3_73)] → F_X7_tellYears_L73 t0 x1 (fun x2_k73 x3_k73 => F_X7_tellYears_J99 t0 x1 x2_k73) n_73 x2_73 x3_73 = some r → W p l e rm_X7_tellYears s m [.ref (a0 0), .int x1].toArray below meth c s.heap [] 0 0 (MQ below (vp_Si (fun x => x = r)) [.ref (a0 0), .int x1].toArray s 0 0 (fun _ => False)) (F0 m 73 ls []) := by
        intro n_73
        induction n_73 with
        | zero => intro x2_73 x3_73 ls hl hF; exact nomatch hF
        | succ n_73 ih73 =>
          intro x2_73 x3_73 ls hl hF
          rw [F_X7_tellYears_L73.eq_2] at hF
          refine lv_iload_n hx hb dX7_tellYears_73 rfl (lv_at hl 2 rfl) ?_
          refine lv_aload_n hx hb dX7_tellYears_74 rfl (lv_at hl 0 rfl) ?_
          refine va_get (D := D) (ci := 6) (v := .int (t0 0 3)) (C := RX7) (T := TX7) (N := 29) hx hb hts (fun w h => List.mem_cons_of_mem _ (inAX7 w h)) hown hK.1 hP 0 (at_M_0 cI cS _ _) rfl 6 (by decide) (hts _ (List.mem_cons_of_mem _ fl_RX7_65)) (fun _ h9 => h9) rfl dX7_tellYears_75 ?_
          refine lv_icmp_ge (tgt := 99) hx hb dX7_tellYears_78 (by decide) (fun c78 => ?_) (fun c78 => ?_)
          · replace hF := ip c78 hF
            have hF : F_X7_tellYears_J99 t0 x1 x2_73 = some r := hF
            unfold F_X7_tellYears_J99 at hF
            refine lv_iload_n hx hb dX7_tellYears_99 rfl (lv_at hl 1 rfl) ?_
            exact W.iret hx hb hr (fun t ht hW => ⟨_, rfl, (Option.some.inj hF), ht⟩) (fun _ h => nomatch h) dX7_tellYears_100
          · replace hF := iq c78 hF
            refine lv_iload_n hx hb dX7_tellYears_81 rfl (lv_at hl 1 rfl) ?_
            refine lv_aload_n hx hb dX7_tellYears_82 rfl (lv_at hl 0 rfl) ?_
            refine va_get (D := D) (ci := 6) (v := .ref (a0 6)) (C := RX7) (T := TX7) (N := 29) hx hb hts (fun w h => List.mem_cons_of_mem _ (inAX7 w h)) hown hK.1 hP 0 (at_M_0 cI cS _ _) rfl 11 (by decide) (hts _ (List.mem_cons_of_mem _ fl_RX7_25)) (fun _ h9 => h9) rfl dX7_tellYears_83 ?_
            refine lv_iload_n hx hb dX7_tellYears_86 rfl (lv_at hl 2 rfl) ?_
            obtain ⟨v87, h87, hF⟩ := bd hF
            refine rI hx hb hK.1 hP 6 0 (at_M_6 cI cS _ _) rfl h87 dX7_tellYears_87 ?_
            obtain ⟨v88, h88, hF⟩ := bd hF
            refine cRe (va_runS (As := [.int v87]) (rest := [.int x2_73]) ⟨hx, hb, hml, hown, hts⟩ (c_X7_size l D cI cS v87 v88 h88) (cwSA hts (TW.cons _) ls_X7_size ml_RX7_138 ⟨rfl, rfl⟩ ⟨(Nat.le_of_ble_eq_true rfl), (Nat.le_of_ble_eq_true rfl)⟩) (pRS hK pnil) rfl rfl hl.1 rfl (lv_room (Nat.le_of_ble_eq_true rfl)) dX7_tellYears_88 ⟨Nat.le_refl _, Nat.le_refl _⟩) ?_
            refine lv_iadd hx hb dX7_tellYears_91 ?_
            refine lv_istore_n (lv' := [(2, .int (x2_73 + v88)), (0, .ref (a0 0)), (3, .int x3_73)]) hx hb dX7_tellYears_92 rfl hl (by decide) rfl (fun ls hl => ?_)
            refine lv_iinc (v := (x3_73 + 1)) (lv' := [(3, .int (x3_73 + 1)), (2, .int (x2_73 + v88)), (0, .ref (a0 0))]) hx hb dX7_tellYears_93 hl (k := 2) rfl rfl (by decide) rfl (fun ls hl => ?_)
            refine lv_goto (tgt := 73) hx hb dX7_tellYears_96 (by decide) ?_
            exact ih73 (x2_73 + v88) (x3_73 + 1) _ (lv_sub hl [2, 1, 0] rfl) hF
      exact L73 1000 0 0 _ (lv_sub hl [2, 1, 0] rfl) hF
    replace hF := iq c33_2 hF
    by_cases c33_3 : x1 = 3
    · replace hF := ip c33_3 hF
      refine lv_tableIn (off := 68) (tgt := 101) hx hb dX7_tellYears_33 (by rw [c33_3]; decide) (by rw [c33_3]; decide) (by rw [c33_3]; decide) (by decide) ?_
      refine lv_aload_n hx hb dX7_tellYears_101 rfl (lv_at hl 0 rfl) ?_
      refine va_get (D := D) (ci := 6) (v := .int (t0 0 9)) (C := RX7) (T := TX7) (N := 29) hx hb hts (fun w h => List.mem_cons_of_mem _ (inAX7 w h)) hown hK.1 hP 0 (at_M_0 cI cS _ _) rfl 18 (by decide) (hts _ (List.mem_cons_of_mem _ fl_RX7_156)) (fun _ h9 => h9) rfl dX7_tellYears_102 ?_
      exact W.iret hx hb hr (fun t ht hW => ⟨_, rfl, (Option.some.inj hF), ht⟩) (fun _ h => nomatch h) dX7_tellYears_105
    replace hF := iq c33_3 hF
    refine lv_tableOut (tgt := 106) hx hb dX7_tellYears_33 (by have g0 := ne_toInt c33_0 (k := 0) rfl; have g1 := ne_toInt c33_1 (k := 1) rfl; have g2 := ne_toInt c33_2 (k := 2) rfl; have g3 := ne_toInt c33_3 (k := 3) rfl; omega) (by decide) ?_
    refine lv_aload_n hx hb dX7_tellYears_106 rfl (lv_at hl 0 rfl) ?_
    refine va_get (D := D) (ci := 6) (v := .int (t0 0 10)) (C := RX7) (T := TX7) (N := 29) hx hb hts (fun w h => List.mem_cons_of_mem _ (inAX7 w h)) hown hK.1 hP 0 (at_M_0 cI cS _ _) rfl 19 (by decide) (hts _ (List.mem_cons_of_mem _ fl_RX7_159)) (fun _ h9 => h9) rfl dX7_tellYears_107 ?_
    exact W.iret hx hb hr (fun t ht hW => ⟨_, rfl, (Option.some.inj hF), ht⟩) (fun _ h => nomatch h) dX7_tellYears_110
  · replace hF := iq c3 hF
    refine lv_aload_n hx hb dX7_tellYears_6 rfl (lv_at hl 0 rfl) ?_
    refine lv_iload_n hx hb dX7_tellYears_7 rfl (lv_at hl 1 rfl) ?_
    refine lv_bipush (v := 10) hx hb dX7_tellYears_8 (by decide) ?_
    refine lv_isub hx hb dX7_tellYears_10 ?_
    obtain ⟨v11, h11, hF⟩ := bd hF
    refine cRb (va_runV (As := [.int (x1 - 10)]) (rest := []) ⟨hx, hb, hml, hown, hts⟩ (c_X7_isBlock l D cI cS a0 t0 (x1 - 10) v11 h11) (cwVA hts (TW.cons _) lv_X7_isBlock ml_RX7_132 ⟨rfl, rfl⟩ ⟨(Nat.le_of_ble_eq_true rfl), (Nat.le_of_ble_eq_true rfl)⟩) (pRV hK hP (ci := 6) rfl rfl) rfl rfl hl.1 rfl (lv_room (Nat.le_of_ble_eq_true rfl)) dX7_tellYears_11 ⟨Nat.le_refl _, Nat.le_refl _⟩) (fun b11 => ?_)
    refine lv_if_eq (tgt := 29) hx hb dX7_tellYears_14 (by decide) (fun c14 => ?_) (fun c14 => ?_)
    · replace hF := ip c14 hF
      refine lv_bipush (v := (-9)) hx hb dX7_tellYears_29 (by decide) ?_
      exact W.iret hx hb hr (fun t ht hW => ⟨_, rfl, (Option.some.inj hF), ht⟩) (fun _ h => nomatch h) dX7_tellYears_31
    · replace hF := iq c14 hF
      refine lv_aload_n hx hb dX7_tellYears_17 rfl (lv_at hl 0 rfl) ?_
      refine va_get (D := D) (ci := 6) (v := .ref (a0 6)) (C := RX7) (T := TX7) (N := 29) hx hb hts (fun w h => List.mem_cons_of_mem _ (inAX7 w h)) hown hK.1 hP 0 (at_M_0 cI cS _ _) rfl 11 (by decide) (hts _ (List.mem_cons_of_mem _ fl_RX7_25)) (fun _ h9 => h9) rfl dX7_tellYears_18 ?_
      refine lv_iload_n hx hb dX7_tellYears_21 rfl (lv_at hl 1 rfl) ?_
      refine lv_bipush (v := 10) hx hb dX7_tellYears_22 (by decide) ?_
      refine lv_isub hx hb dX7_tellYears_24 ?_
      obtain ⟨v25, h25, hF⟩ := bd hF
      refine rI hx hb hK.1 hP 6 0 (at_M_6 cI cS _ _) rfl h25 dX7_tellYears_25 ?_
      refine lv_goto (tgt := 31) hx hb dX7_tellYears_26 (by decide) ?_
      exact W.iret hx hb hr (fun t ht hW => ⟨_, rfl, (Option.some.inj hF), ht⟩) (fun _ h => nomatch h) dX7_tellYears_31
