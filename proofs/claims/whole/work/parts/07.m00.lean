noncomputable def F_X7_fails (t0 : ST) (x1 : Int32) : Option (Int32 × ST) :=
  some (((-10) - x1), (st t0 0 0 x1))
abbrev rm_X7_fails : Room := { frames := 0, cells := 0, slots := 0, locals := 0 }
set_option maxHeartbeats 4000000 in
set_option maxRecDepth 100000 in
theorem c_X7_fails (l : Launch) (D : va_G) (cI cS : ClassId) (a0 : Nat → Nat) (t0 : ST) (x1 : Int32) (r : Int32) (t' : ST) (hF : F_X7_fails t0 x1 = some (r, t')) : Met l yX7_fails (Cond.code yX7_fails cX7_fails 2 (some .int) :: ALL) rm_X7_fails (PreW D cI cS [.ref (a0 0), .int x1] (pM cI cS a0 t0)) (va_Qi (fun x (_ : Unit) => x = r) (fun _ t => va_P D vwCl (pM cI cS a0 t') t.heap) (AD (pM cI cS a0 t0))) 0 0 (AD (pM cI cS a0 t0)) := by
  refine mW l D cI cS (by decide) (Nat.le_of_ble_eq_true rfl) ?_
  intro p e s m below meth c ls hx hb hr hml hown hts hlocks hP hK hD hS hl
  have hown : s.vm.findClass RX7 = some m.cls := hown
  have hl : lv_has ls 2 [(0, .ref (a0 0)), (1, .int x1)] := hl
  unfold F_X7_fails at hF
  refine lv_aload_n hx hb dX7_fails_0 rfl (lv_at hl 0 rfl) ?_
  refine lv_iload_n hx hb dX7_fails_1 rfl (lv_at hl 1 rfl) ?_
  refine wF (ws' := pM cI cS a0 (st t0 0 0 x1)) (C := RX7) (T := TX7) (N := 29) hx hb hts (fun w h => List.mem_cons_of_mem _ (inAX7 w h)) tyX7 tyX7_ok nmX7 hown hK.1 hP hD hS 0 (at_M_0 cI cS _ _) rfl 0 (by decide) (hts _ (List.mem_cons_of_mem _ fl_RX7_55)) rfl (tyX7_ok 0 (by decide)) rfl rfl (Nat.le_of_ble_eq_true rfl) (sf_M_0_0 cI cS _ _ _) dX7_fails_2 (fun H locs hP hD hS => ?_)
  refine lv_bipush (v := (-10)) hx hb dX7_fails_5 (by decide) ?_
  refine lv_iload_n hx hb dX7_fails_7 rfl (lv_at hl 1 rfl) ?_
  refine lv_isub hx hb dX7_fails_8 ?_
  exact W.iret hx hb hr (fun t ht hW => ⟨⟨_, (), rfl, (Prod.mk.inj (Option.some.inj hF)).1, by show va_P _ _ _ t.heap; rw [ht, ← (Prod.mk.inj (Option.some.inj hF)).2]; exact hP⟩, hS.F ht⟩) hS.2.2 dX7_fails_9
noncomputable def F_X7_lost (t0 : ST) (x1 : Int32) : Option (Int64 × ST) :=
  some ((-9223372036854775808), (st t0 0 0 x1))
abbrev rm_X7_lost : Room := { frames := 0, cells := 0, slots := 0, locals := 0 }
set_option maxHeartbeats 4000000 in
set_option maxRecDepth 100000 in
theorem c_X7_lost (l : Launch) (D : va_G) (cI cS : ClassId) (a0 : Nat → Nat) (t0 : ST) (x1 : Int32) (r : Int64) (t' : ST) (hF : F_X7_lost t0 x1 = some (r, t')) : Met l yX7_lost (Cond.code yX7_lost cX7_lost 2 (some .long) :: ALL) rm_X7_lost (PreW D cI cS [.ref (a0 0), .int x1] (pM cI cS a0 t0)) (va_Ql (fun x (_ : Unit) => x = r) (fun _ t => va_P D vwCl (pM cI cS a0 t') t.heap) (AD (pM cI cS a0 t0))) 0 0 (AD (pM cI cS a0 t0)) := by
  refine mW l D cI cS (by decide) (Nat.le_of_ble_eq_true rfl) ?_
  intro p e s m below meth c ls hx hb hr hml hown hts hlocks hP hK hD hS hl
  have hown : s.vm.findClass RX7 = some m.cls := hown
  have hl : lv_has ls 2 [(0, .ref (a0 0)), (1, .int x1)] := hl
  unfold F_X7_lost at hF
  refine lv_aload_n hx hb dX7_lost_0 rfl (lv_at hl 0 rfl) ?_
  refine lv_iload_n hx hb dX7_lost_1 rfl (lv_at hl 1 rfl) ?_
  refine wF (ws' := pM cI cS a0 (st t0 0 0 x1)) (C := RX7) (T := TX7) (N := 29) hx hb hts (fun w h => List.mem_cons_of_mem _ (inAX7 w h)) tyX7 tyX7_ok nmX7 hown hK.1 hP hD hS 0 (at_M_0 cI cS _ _) rfl 0 (by decide) (hts _ (List.mem_cons_of_mem _ fl_RX7_55)) rfl (tyX7_ok 0 (by decide)) rfl rfl (Nat.le_of_ble_eq_true rfl) (sf_M_0_0 cI cS _ _ _) dX7_lost_2 (fun H locs hP hD hS => ?_)
  refine lv_ldc2 (own := RX7) (v := (-9223372036854775808)) hx hb hown (hts _ (List.mem_cons_of_mem _ cn_RX7_59)) dX7_lost_5 ?_
  exact W.lret hx hb hr (fun t ht hW => ⟨⟨_, (), rfl, (Prod.mk.inj (Option.some.inj hF)).1, by show va_P _ _ _ t.heap; rw [ht, ← (Prod.mk.inj (Option.some.inj hF)).2]; exact hP⟩, hS.F ht⟩) hS.2.2 dX7_lost_8
noncomputable def F_X7_within (x0 : Int32) (x1 : Int32) (x2 : Int32) : Option Int32 :=
  if x0 < x1 then
    some 0
  else
  if x2 < x0 then
    some 0
  else
  some 1
abbrev rm_X7_within : Room := { frames := 0, cells := 0, slots := 0, locals := 0 }
set_option maxHeartbeats 4000000 in
set_option maxRecDepth 100000 in
theorem c_X7_within (l : Launch) (D : va_G) (cI cS : ClassId) (x0 : Int32) (x1 : Int32) (x2 : Int32) (r : Int32) (hF : F_X7_within x0 x1 x2 = some r) : Met l yX7_within (Cond.code yX7_within cX7_within 3 (some .boolean) :: ALL) rm_X7_within (PreR D cI cS [.int x0, .int x1, .int x2] ([])) (vp_Si (fun x => x = r ∧ (x = 0 ∨ x = 1))) 0 0 (fun _ => False) := by
  refine mR l D cI cS (by decide) (Nat.le_of_ble_eq_true rfl) ?_
  intro p e s m below meth c ls hx hb hr hml hown hts hlocks hP hK hl
  have hown : s.vm.findClass RX7 = some m.cls := hown
  have hl : lv_has ls 3 [(0, .int x0), (1, .int x1), (2, .int x2)] := hl
  unfold F_X7_within at hF
  refine lv_iload_n hx hb dX7_within_0 rfl (lv_at hl 0 rfl) ?_
  refine lv_iload_n hx hb dX7_within_1 rfl (lv_at hl 1 rfl) ?_
  refine lv_icmp_lt (tgt := 14) hx hb dX7_within_2 (by decide) (fun c2 => ?_) (fun c2 => ?_)
  · replace hF := ip c2 hF
    refine lv_iconst (v := 0) hx hb dX7_within_14 (by decide) ?_
    exact W.zret hx hb hr rfl (fun t ht hW => ⟨_, rfl, ⟨(Option.some.inj hF), Or.inl rfl⟩, ht⟩) (fun _ h => nomatch h) dX7_within_15
  · replace hF := iq c2 hF
    refine lv_iload_n hx hb dX7_within_5 rfl (lv_at hl 0 rfl) ?_
    refine lv_iload_n hx hb dX7_within_6 rfl (lv_at hl 2 rfl) ?_
    refine lv_icmp_gt (tgt := 14) hx hb dX7_within_7 (by decide) (fun c7 => ?_) (fun c7 => ?_)
    · replace hF := ip c7 hF
      refine lv_iconst (v := 0) hx hb dX7_within_14 (by decide) ?_
      exact W.zret hx hb hr rfl (fun t ht hW => ⟨_, rfl, ⟨(Option.some.inj hF), Or.inl rfl⟩, ht⟩) (fun _ h => nomatch h) dX7_within_15
    · replace hF := iq c7 hF
      refine lv_iconst (v := 1) hx hb dX7_within_10 (by decide) ?_
      refine lv_goto (tgt := 15) hx hb dX7_within_11 (by decide) ?_
      exact W.zret hx hb hr rfl (fun t ht hW => ⟨_, rfl, ⟨(Option.some.inj hF), Or.inr rfl⟩, ht⟩) (fun _ h => nomatch h) dX7_within_15
noncomputable def F_X7_isSheet (x0 : Int32) : Option Int32 :=
  (F_X7_within x0 0 3).bind fun v3 =>
  some v3
abbrev rm_X7_isSheet : Room := { frames := 1, cells := 0, slots := 0, locals := 22 }
set_option maxHeartbeats 4000000 in
set_option maxRecDepth 100000 in
theorem c_X7_isSheet (l : Launch) (D : va_G) (cI cS : ClassId) (x0 : Int32) (r : Int32) (hF : F_X7_isSheet x0 = some r) : Met l yX7_isSheet (Cond.code yX7_isSheet cX7_isSheet 1 (some .boolean) :: ALL) rm_X7_isSheet (PreR D cI cS [.int x0] ([])) (vp_Si (fun x => x = r ∧ (x = 0 ∨ x = 1))) 0 0 (fun _ => False) := by
  refine mR l D cI cS (by decide) (Nat.le_of_ble_eq_true rfl) ?_
  intro p e s m below meth c ls hx hb hr hml hown hts hlocks hP hK hl
  have hown : s.vm.findClass RX7 = some m.cls := hown
  have hl : lv_has ls 1 [(0, .int x0)] := hl
  unfold F_X7_isSheet at hF
  refine lv_iload_n hx hb dX7_isSheet_0 rfl (lv_at hl 0 rfl) ?_
  refine lv_iconst (v := 0) hx hb dX7_isSheet_1 (by decide) ?_
  refine lv_iconst (v := 3) hx hb dX7_isSheet_2 (by decide) ?_
  obtain ⟨v3, h3, hF⟩ := bd hF
  refine cRb (va_runS (As := [.int x0, .int 0, .int 3]) (rest := []) ⟨hx, hb, hml, hown, hts⟩ (c_X7_within l D cI cS x0 0 3 v3 h3) (cwSA hts (TW.cons _) ls_X7_within ml_RX7_61 ⟨rfl, rfl⟩ ⟨(Nat.le_of_ble_eq_true rfl), (Nat.le_of_ble_eq_true rfl)⟩) (pRS hK pnil) rfl rfl hl.1 rfl (lv_room (Nat.le_of_ble_eq_true rfl)) dX7_isSheet_3 ⟨Nat.le_refl _, Nat.le_refl _⟩) (fun b3 => ?_)
  exact W.zret hx hb hr (b01 b3) (fun t ht hW => ⟨_, rfl, ⟨(Option.some.inj hF), b3⟩, ht⟩) (fun _ h => nomatch h) dX7_isSheet_6
noncomputable def F_X7_isSort (x0 : Int32) : Option Int32 :=
  (F_X7_within x0 0 2).bind fun v3 =>
  some v3
abbrev rm_X7_isSort : Room := { frames := 1, cells := 0, slots := 0, locals := 22 }
set_option maxHeartbeats 4000000 in
set_option maxRecDepth 100000 in
theorem c_X7_isSort (l : Launch) (D : va_G) (cI cS : ClassId) (x0 : Int32) (r : Int32) (hF : F_X7_isSort x0 = some r) : Met l yX7_isSort (Cond.code yX7_isSort cX7_isSort 1 (some .boolean) :: ALL) rm_X7_isSort (PreR D cI cS [.int x0] ([])) (vp_Si (fun x => x = r ∧ (x = 0 ∨ x = 1))) 0 0 (fun _ => False) := by
  refine mR l D cI cS (by decide) (Nat.le_of_ble_eq_true rfl) ?_
  intro p e s m below meth c ls hx hb hr hml hown hts hlocks hP hK hl
  have hown : s.vm.findClass RX7 = some m.cls := hown
  have hl : lv_has ls 1 [(0, .int x0)] := hl
  unfold F_X7_isSort at hF
  refine lv_iload_n hx hb dX7_isSort_0 rfl (lv_at hl 0 rfl) ?_
  refine lv_iconst (v := 0) hx hb dX7_isSort_1 (by decide) ?_
  refine lv_iconst (v := 2) hx hb dX7_isSort_2 (by decide) ?_
  obtain ⟨v3, h3, hF⟩ := bd hF
  refine cRb (va_runS (As := [.int x0, .int 0, .int 2]) (rest := []) ⟨hx, hb, hml, hown, hts⟩ (c_X7_within l D cI cS x0 0 2 v3 h3) (cwSA hts (TW.cons _) ls_X7_within ml_RX7_61 ⟨rfl, rfl⟩ ⟨(Nat.le_of_ble_eq_true rfl), (Nat.le_of_ble_eq_true rfl)⟩) (pRS hK pnil) rfl rfl hl.1 rfl (lv_room (Nat.le_of_ble_eq_true rfl)) dX7_isSort_3 ⟨Nat.le_refl _, Nat.le_refl _⟩) (fun b3 => ?_)
  exact W.zret hx hb hr (b01 b3) (fun t ht hW => ⟨_, rfl, ⟨(Option.some.inj hF), b3⟩, ht⟩) (fun _ h => nomatch h) dX7_isSort_6
noncomputable def F_X7_against_J23 (t0 : ST) (x1 : Int32) (x2 : Int32) (x3 : Int32) (x4 : Int32) : Option Int32 :=
  (rd 4 (t0 1) x1).bind fun v28 =>
  if v28 = (-9) then
    some 1
  else
  if 0 ≤ x4 then
    if x3 < 0 then
      some 3
    else
    (rd 4 (t0 2) x1).bind fun v53 =>
    if v53 < x3 then
      some 3
    else
    (rd 4 (t0 2) x1).bind fun v64 =>
    if x4 ≤ (v64 - x3) then
      some 0
    else
    some 3
  else
  some 4
noncomputable def F_X7_against (t0 : ST) (x1 : Int32) (x2 : Int32) (x3 : Int32) (x4 : Int32) : Option Int32 :=
  (rd 4 (t0 1) x1).bind fun v5 =>
  if v5 = (-9) then
    F_X7_against_J23 t0 x1 x2 x3 x4
  else
  (rd 4 (t0 1) x1).bind fun v16 =>
  if v16 = x2 then
    F_X7_against_J23 t0 x1 x2 x3 x4
  else
  some 2
abbrev rm_X7_against : Room := { frames := 0, cells := 0, slots := 0, locals := 0 }
set_option maxHeartbeats 4000000 in
set_option maxRecDepth 100000 in
theorem c_X7_against (l : Launch) (D : va_G) (cI cS : ClassId) (a0 : Nat → Nat) (t0 : ST) (x1 : Int32) (x2 : Int32) (x3 : Int32) (x4 : Int32) (r : Int32) (hF : F_X7_against t0 x1 x2 x3 x4 = some r) : Met l yX7_against (Cond.code yX7_against cX7_against 5 (some .int) :: ALL) rm_X7_against (PreR D cI cS [.ref (a0 0), .int x1, .int x2, .int x3, .int x4] (pM cI cS a0 t0)) (vp_Si (fun x => x = r)) 0 0 (fun _ => False) := by
  refine mR l D cI cS (by decide) (Nat.le_of_ble_eq_true rfl) ?_
  intro p e s m below meth c ls hx hb hr hml hown hts hlocks hP hK hl
  have hown : s.vm.findClass RX7 = some m.cls := hown
  have hl : lv_has ls 5 [(0, .ref (a0 0)), (1, .int x1), (2, .int x2), (3, .int x3), (4, .int x4)] := hl
  unfold F_X7_against at hF
  refine lv_aload_n hx hb dX7_against_0 rfl (lv_at hl 0 rfl) ?_
  refine va_get (D := D) (ci := 6) (v := .ref (a0 1)) (C := RX7) (T := TX7) (N := 29) hx hb hts (fun w h => List.mem_cons_of_mem _ (inAX7 w h)) hown hK.1 hP 0 (at_M_0 cI cS _ _) rfl 2 (by decide) (hts _ (List.mem_cons_of_mem _ fl_RX7_9)) (fun _ h9 => h9) rfl dX7_against_1 ?_
  refine lv_iload_n hx hb dX7_against_4 rfl (lv_at hl 1 rfl) ?_
  obtain ⟨v5, h5, hF⟩ := bd hF
  refine rI hx hb hK.1 hP 1 0 (at_M_1 cI cS _ _) rfl h5 dX7_against_5 ?_
  refine lv_bipush (v := (-9)) hx hb dX7_against_6 (by decide) ?_
  have J23 : ∀ (ls : Array Slot), lv_has ls 5 [(0, .ref (a0 0)), (1, .int x1), (3, .int x3), (4, .int x4)] → F_X7_against_J23 t0 x1 x2 x3 x4  = some r → W p l e rm_X7_against s m [.ref (a0 0), .int x1, .int x2, .int x3, .int x4].toArray below meth c s.heap [] 0 0 (MQ below (vp_Si (fun x => x = r)) [.ref (a0 0), .int x1, .int x2, .int x3, .int x4].toArray s 0 0 (fun _ => False)) (F0 m 23 ls []) := by
    intro ls hl hF
    unfold F_X7_against_J23 at hF
    refine lv_aload_n hx hb dX7_against_23 rfl (lv_at hl 0 rfl) ?_
    refine va_get (D := D) (ci := 6) (v := .ref (a0 1)) (C := RX7) (T := TX7) (N := 29) hx hb hts (fun w h => List.mem_cons_of_mem _ (inAX7 w h)) hown hK.1 hP 0 (at_M_0 cI cS _ _) rfl 2 (by decide) (hts _ (List.mem_cons_of_mem _ fl_RX7_9)) (fun _ h9 => h9) rfl dX7_against_24 ?_
    refine lv_iload_n hx hb dX7_against_27 rfl (lv_at hl 1 rfl) ?_
    obtain ⟨v28, h28, hF⟩ := bd hF
    refine rI hx hb hK.1 hP 1 0 (at_M_1 cI cS _ _) rfl h28 dX7_against_28 ?_
    refine lv_bipush (v := (-9)) hx hb dX7_against_29 (by decide) ?_
    refine lv_icmp_ne (tgt := 36) hx hb dX7_against_31 (by decide) (fun c31 => ?_) (fun c31 => ?_)
    · replace hF := iq c31 hF
      refine lv_iload hx hb dX7_against_36 (lv_at hl 3 rfl) ?_
      refine lv_if_ge (tgt := 43) hx hb dX7_against_38 (by decide) (fun c38 => ?_) (fun c38 => ?_)
      · replace hF := ip c38 hF
        refine lv_iload_n hx hb dX7_against_43 rfl (lv_at hl 2 rfl) ?_
        refine lv_if_lt (tgt := 70) hx hb dX7_against_44 (by decide) (fun c44 => ?_) (fun c44 => ?_)
        · replace hF := ip c44 hF
          refine lv_iconst (v := 3) hx hb dX7_against_70 (by decide) ?_
          refine lv_goto (tgt := 75) hx hb dX7_against_71 (by decide) ?_
          exact W.iret hx hb hr (fun t ht hW => ⟨_, rfl, (Option.some.inj hF), ht⟩) (fun _ h => nomatch h) dX7_against_75
        · replace hF := iq c44 hF
          refine lv_iload_n hx hb dX7_against_47 rfl (lv_at hl 2 rfl) ?_
          refine lv_aload_n hx hb dX7_against_48 rfl (lv_at hl 0 rfl) ?_
          refine va_get (D := D) (ci := 6) (v := .ref (a0 2)) (C := RX7) (T := TX7) (N := 29) hx hb hts (fun w h => List.mem_cons_of_mem _ (inAX7 w h)) hown hK.1 hP 0 (at_M_0 cI cS _ _) rfl 3 (by decide) (hts _ (List.mem_cons_of_mem _ fl_RX7_13)) (fun _ h9 => h9) rfl dX7_against_49 ?_
          refine lv_iload_n hx hb dX7_against_52 rfl (lv_at hl 1 rfl) ?_
          obtain ⟨v53, h53, hF⟩ := bd hF
          refine rI hx hb hK.1 hP 2 0 (at_M_2 cI cS _ _) rfl h53 dX7_against_53 ?_
          refine lv_icmp_gt (tgt := 70) hx hb dX7_against_54 (by decide) (fun c54 => ?_) (fun c54 => ?_)
          · replace hF := ip c54 hF
            refine lv_iconst (v := 3) hx hb dX7_against_70 (by decide) ?_
            refine lv_goto (tgt := 75) hx hb dX7_against_71 (by decide) ?_
            exact W.iret hx hb hr (fun t ht hW => ⟨_, rfl, (Option.some.inj hF), ht⟩) (fun _ h => nomatch h) dX7_against_75
          · replace hF := iq c54 hF
            refine lv_iload hx hb dX7_against_57 (lv_at hl 3 rfl) ?_
            refine lv_aload_n hx hb dX7_against_59 rfl (lv_at hl 0 rfl) ?_
            refine va_get (D := D) (ci := 6) (v := .ref (a0 2)) (C := RX7) (T := TX7) (N := 29) hx hb hts (fun w h => List.mem_cons_of_mem _ (inAX7 w h)) hown hK.1 hP 0 (at_M_0 cI cS _ _) rfl 3 (by decide) (hts _ (List.mem_cons_of_mem _ fl_RX7_13)) (fun _ h9 => h9) rfl dX7_against_60 ?_
            refine lv_iload_n hx hb dX7_against_63 rfl (lv_at hl 1 rfl) ?_
            obtain ⟨v64, h64, hF⟩ := bd hF
            refine rI hx hb hK.1 hP 2 0 (at_M_2 cI cS _ _) rfl h64 dX7_against_64 ?_
            refine lv_iload_n hx hb dX7_against_65 rfl (lv_at hl 2 rfl) ?_
            refine lv_isub hx hb dX7_against_66 ?_
            refine lv_icmp_le (tgt := 74) hx hb dX7_against_67 (by decide) (fun c67 => ?_) (fun c67 => ?_)
            · replace hF := ip c67 hF
              refine lv_iconst (v := 0) hx hb dX7_against_74 (by decide) ?_
              exact W.iret hx hb hr (fun t ht hW => ⟨_, rfl, (Option.some.inj hF), ht⟩) (fun _ h => nomatch h) dX7_against_75
            · replace hF := iq c67 hF
              refine lv_iconst (v := 3) hx hb dX7_against_70 (by decide) ?_
              refine lv_goto (tgt := 75) hx hb dX7_against_71 (by decide) ?_
              exact W.iret hx hb hr (fun t ht hW => ⟨_, rfl, (Option.some.inj hF), ht⟩) (fun _ h => nomatch h) dX7_against_75
      · replace hF := iq c38 hF
        refine lv_iconst (v := 4) hx hb dX7_against_41 (by decide) ?_
        exact W.iret hx hb hr (fun t ht hW => ⟨_, rfl, (Option.some.inj hF), ht⟩) (fun _ h => nomatch h) dX7_against_42
    · replace hF := ip c31 hF
      refine lv_iconst (v := 1) hx hb dX7_against_34 (by decide) ?_
      exact W.iret hx hb hr (fun t ht hW => ⟨_, rfl, (Option.some.inj hF), ht⟩) (fun _ h => nomatch h) dX7_against_35
  refine lv_icmp_eq (tgt := 23) hx hb dX7_against_8 (by decide) (fun c8 => ?_) (fun c8 => ?_)
  · replace hF := ip c8 hF
    exact J23  _ (lv_sub hl [0, 1, 3, 4] rfl) hF
  · replace hF := iq c8 hF
    refine lv_aload_n hx hb dX7_against_11 rfl (lv_at hl 0 rfl) ?_
    refine va_get (D := D) (ci := 6) (v := .ref (a0 1)) (C := RX7) (T := TX7) (N := 29) hx hb hts (fun w h => List.mem_cons_of_mem _ (inAX7 w h)) hown hK.1 hP 0 (at_M_0 cI cS _ _) rfl 2 (by decide) (hts _ (List.mem_cons_of_mem _ fl_RX7_9)) (fun _ h9 => h9) rfl dX7_against_12 ?_
    refine lv_iload_n hx hb dX7_against_15 rfl (lv_at hl 1 rfl) ?_
    obtain ⟨v16, h16, hF⟩ := bd hF
    refine rI hx hb hK.1 hP 1 0 (at_M_1 cI cS _ _) rfl h16 dX7_against_16 ?_
    refine lv_iload_n hx hb dX7_against_17 rfl (lv_at hl 2 rfl) ?_
    refine lv_icmp_eq (tgt := 23) hx hb dX7_against_18 (by decide) (fun c18 => ?_) (fun c18 => ?_)
    · replace hF := ip c18 hF
      exact J23  _ (lv_sub hl [0, 1, 3, 4] rfl) hF
    · replace hF := iq c18 hF
      refine lv_iconst (v := 2) hx hb dX7_against_21 (by decide) ?_
      exact W.iret hx hb hr (fun t ht hW => ⟨_, rfl, (Option.some.inj hF), ht⟩) (fun _ h => nomatch h) dX7_against_22
noncomputable def F_X7_isBlock (t0 : ST) (x1 : Int32) : Option Int32 :=
  if x1 < 0 then
    some 0
  else
  if (t0 0 3) ≤ x1 then
    some 0
  else
  some 1
abbrev rm_X7_isBlock : Room := { frames := 0, cells := 0, slots := 0, locals := 0 }
set_option maxHeartbeats 4000000 in
set_option maxRecDepth 100000 in
theorem c_X7_isBlock (l : Launch) (D : va_G) (cI cS : ClassId) (a0 : Nat → Nat) (t0 : ST) (x1 : Int32) (r : Int32) (hF : F_X7_isBlock t0 x1 = some r) : Met l yX7_isBlock (Cond.code yX7_isBlock cX7_isBlock 2 (some .boolean) :: ALL) rm_X7_isBlock (PreR D cI cS [.ref (a0 0), .int x1] (pM cI cS a0 t0)) (vp_Si (fun x => x = r ∧ (x = 0 ∨ x = 1))) 0 0 (fun _ => False) := by
  refine mR l D cI cS (by decide) (Nat.le_of_ble_eq_true rfl) ?_
  intro p e s m below meth c ls hx hb hr hml hown hts hlocks hP hK hl
  have hown : s.vm.findClass RX7 = some m.cls := hown
  have hl : lv_has ls 2 [(0, .ref (a0 0)), (1, .int x1)] := hl
  unfold F_X7_isBlock at hF
  refine lv_iload_n hx hb dX7_isBlock_0 rfl (lv_at hl 1 rfl) ?_
  refine lv_if_lt (tgt := 16) hx hb dX7_isBlock_1 (by decide) (fun c1 => ?_) (fun c1 => ?_)
  · replace hF := ip c1 hF
    refine lv_iconst (v := 0) hx hb dX7_isBlock_16 (by decide) ?_
    exact W.zret hx hb hr rfl (fun t ht hW => ⟨_, rfl, ⟨(Option.some.inj hF), Or.inl rfl⟩, ht⟩) (fun _ h => nomatch h) dX7_isBlock_17
  · replace hF := iq c1 hF
    refine lv_iload_n hx hb dX7_isBlock_4 rfl (lv_at hl 1 rfl) ?_
    refine lv_aload_n hx hb dX7_isBlock_5 rfl (lv_at hl 0 rfl) ?_
    refine va_get (D := D) (ci := 6) (v := .int (t0 0 3)) (C := RX7) (T := TX7) (N := 29) hx hb hts (fun w h => List.mem_cons_of_mem _ (inAX7 w h)) hown hK.1 hP 0 (at_M_0 cI cS _ _) rfl 6 (by decide) (hts _ (List.mem_cons_of_mem _ fl_RX7_65)) (fun _ h9 => h9) rfl dX7_isBlock_6 ?_
    refine lv_icmp_ge (tgt := 16) hx hb dX7_isBlock_9 (by decide) (fun c9 => ?_) (fun c9 => ?_)
    · replace hF := ip c9 hF
      refine lv_iconst (v := 0) hx hb dX7_isBlock_16 (by decide) ?_
      exact W.zret hx hb hr rfl (fun t ht hW => ⟨_, rfl, ⟨(Option.some.inj hF), Or.inl rfl⟩, ht⟩) (fun _ h => nomatch h) dX7_isBlock_17
    · replace hF := iq c9 hF
      refine lv_iconst (v := 1) hx hb dX7_isBlock_12 (by decide) ?_
      refine lv_goto (tgt := 17) hx hb dX7_isBlock_13 (by decide) ?_
      exact W.zret hx hb hr rfl (fun t ht hW => ⟨_, rfl, ⟨(Option.some.inj hF), Or.inr rfl⟩, ht⟩) (fun _ h => nomatch h) dX7_isBlock_17
noncomputable def F_X7_isShape (x0 : Int32) : Option Int32 :=
  (F_X7_within x0 0 63).bind fun v4 =>
  some v4
abbrev rm_X7_isShape : Room := { frames := 1, cells := 0, slots := 0, locals := 22 }
set_option maxHeartbeats 4000000 in
set_option maxRecDepth 100000 in
theorem c_X7_isShape (l : Launch) (D : va_G) (cI cS : ClassId) (x0 : Int32) (r : Int32) (hF : F_X7_isShape x0 = some r) : Met l yX7_isShape (Cond.code yX7_isShape cX7_isShape 1 (some .boolean) :: ALL) rm_X7_isShape (PreR D cI cS [.int x0] ([])) (vp_Si (fun x => x = r ∧ (x = 0 ∨ x = 1))) 0 0 (fun _ => False) := by
  refine mR l D cI cS (by decide) (Nat.le_of_ble_eq_true rfl) ?_
  intro p e s m below meth c ls hx hb hr hml hown hts hlocks hP hK hl
  have hown : s.vm.findClass RX7 = some m.cls := hown
  have hl : lv_has ls 1 [(0, .int x0)] := hl
  unfold F_X7_isShape at hF
  refine lv_iload_n hx hb dX7_isShape_0 rfl (lv_at hl 0 rfl) ?_
  refine lv_iconst (v := 0) hx hb dX7_isShape_1 (by decide) ?_
  refine lv_bipush (v := 63) hx hb dX7_isShape_2 (by decide) ?_
  obtain ⟨v4, h4, hF⟩ := bd hF
  refine cRb (va_runS (As := [.int x0, .int 0, .int 63]) (rest := []) ⟨hx, hb, hml, hown, hts⟩ (c_X7_within l D cI cS x0 0 63 v4 h4) (cwSA hts (TW.cons _) ls_X7_within ml_RX7_61 ⟨rfl, rfl⟩ ⟨(Nat.le_of_ble_eq_true rfl), (Nat.le_of_ble_eq_true rfl)⟩) (pRS hK pnil) rfl rfl hl.1 rfl (lv_room (Nat.le_of_ble_eq_true rfl)) dX7_isShape_4 ⟨Nat.le_refl _, Nat.le_refl _⟩) (fun b4 => ?_)
  exact W.zret hx hb hr (b01 b4) (fun t ht hW => ⟨_, rfl, ⟨(Option.some.inj hF), b4⟩, ht⟩) (fun _ h => nomatch h) dX7_isShape_7
noncomputable def F_X7_isOf (x0 : Int32) (x1 : Int32) : Option Int32 :=
  if ((x0 >>> (x1 &&& 31)) &&& 1) = 1 then
    some 1
  else
  some 0
abbrev rm_X7_isOf : Room := { frames := 0, cells := 0, slots := 0, locals := 0 }
set_option maxHeartbeats 4000000 in
set_option maxRecDepth 100000 in
theorem c_X7_isOf (l : Launch) (D : va_G) (cI cS : ClassId) (x0 : Int32) (x1 : Int32) (r : Int32) (hF : F_X7_isOf x0 x1 = some r) : Met l yX7_isOf (Cond.code yX7_isOf cX7_isOf 2 (some .boolean) :: ALL) rm_X7_isOf (PreR D cI cS [.int x0, .int x1] ([])) (vp_Si (fun x => x = r ∧ (x = 0 ∨ x = 1))) 0 0 (fun _ => False) := by
  refine mR l D cI cS (by decide) (Nat.le_of_ble_eq_true rfl) ?_
  intro p e s m below meth c ls hx hb hr hml hown hts hlocks hP hK hl
  have hown : s.vm.findClass RX7 = some m.cls := hown
  have hl : lv_has ls 2 [(0, .int x0), (1, .int x1)] := hl
  unfold F_X7_isOf at hF
  refine lv_iload_n hx hb dX7_isOf_0 rfl (lv_at hl 0 rfl) ?_
  refine lv_iload_n hx hb dX7_isOf_1 rfl (lv_at hl 1 rfl) ?_
  refine lv_ishr hx hb dX7_isOf_2 ?_
  refine lv_iconst (v := 1) hx hb dX7_isOf_3 (by decide) ?_
  refine lv_iand hx hb dX7_isOf_4 ?_
  refine lv_iconst (v := 1) hx hb dX7_isOf_5 (by decide) ?_
  refine lv_icmp_ne (tgt := 13) hx hb dX7_isOf_6 (by decide) (fun c6 => ?_) (fun c6 => ?_)
  · replace hF := iq c6 hF
    refine lv_iconst (v := 0) hx hb dX7_isOf_13 (by decide) ?_
    exact W.zret hx hb hr rfl (fun t ht hW => ⟨_, rfl, ⟨(Option.some.inj hF), Or.inl rfl⟩, ht⟩) (fun _ h => nomatch h) dX7_isOf_14
  · replace hF := ip c6 hF
    refine lv_iconst (v := 1) hx hb dX7_isOf_9 (by decide) ?_
    refine lv_goto (tgt := 14) hx hb dX7_isOf_10 (by decide) ?_
    exact W.zret hx hb hr rfl (fun t ht hW => ⟨_, rfl, ⟨(Option.some.inj hF), Or.inr rfl⟩, ht⟩) (fun _ h => nomatch h) dX7_isOf_14
noncomputable def F_X7_size_L4 (x0 : Int32) (k : Int32 → Int32 → Option Int32) : Nat → Int32 → Int32 → Option Int32
  | 0, _, _ => none
  | n + 1, x1, x2 =>
    if x2 ≤ 0 then
      k x1 x2
    else
    (F_X7_size_L4 x0 k n) (x1 + (x2 &&& 1)) (x2 >>> (1 &&& 31))
noncomputable def F_X7_size_J21 (x0 : Int32) (x1 : Int32) : Option Int32 :=
  some x1
noncomputable def F_X7_size (x0 : Int32) : Option Int32 :=
  F_X7_size_L4 x0 (fun x1_k4 x2_k4 => F_X7_size_J21 x0 x1_k4) 1000 0 x0
abbrev rm_X7_size : Room := { frames := 0, cells := 0, slots := 0, locals := 0 }
set_option maxHeartbeats 4000000 in
set_option maxRecDepth 100000 in
theorem c_X7_size (l : Launch) (D : va_G) (cI cS : ClassId) (x0 : Int32) (r : Int32) (hF : F_X7_size x0 = some r) : Met l yX7_size (Cond.code yX7_size cX7_size 3 (some .int) :: ALL) rm_X7_size (PreR D cI cS [.int x0] ([])) (vp_Si (fun x => x = r)) 0 0 (fun _ => False) := by
  refine mR l D cI cS (by decide) (Nat.le_of_ble_eq_true rfl) ?_
  intro p e s m below meth c ls hx hb hr hml hown hts hlocks hP hK hl
  have hown : s.vm.findClass RX7 = some m.cls := hown
  have hl : lv_has ls 3 [(0, .int x0)] := hl
  unfold F_X7_size at hF
  refine lv_iconst (v := 0) hx hb dX7_size_0 (by decide) ?_
  refine lv_istore_n (lv' := [(1, .int 0), (0, .int x0)]) hx hb dX7_size_1 rfl hl (by decide) rfl (fun ls hl => ?_)
  refine lv_iload_n hx hb dX7_size_2 rfl (lv_at hl 1 rfl) ?_
  refine lv_istore_n (lv' := [(2, .int x0), (1, .int 0), (0, .int x0)]) hx hb dX7_size_3 rfl hl (by decide) rfl (fun ls hl => ?_)
  have L4 : ∀ (n_4 : Nat) (x1_4 : Int32) (x2_4 : Int32) (ls : Array Slot), lv_has ls 3 [(1, .int x1_4), (2, .int x2_4)] → F_X7_size_L4 x0 (fun x1_k4 x2_k4 => F_X7_size_J21 x0 x1_k4) n_4 x1_4 x2_4 = some r → W p l e rm_X7_size s m [.int x0].toArray below meth c s.heap [] 0 0 (MQ below (vp_Si (fun x => x = r)) [.int x0].toArray s 0 0 (fun _ => False)) (F0 m 4 ls []) := by
    intro n_4
    induction n_4 with
    | zero => intro x1_4 x2_4 ls hl hF; exact nomatch hF
    | succ n_4 ih4 =>
      intro x1_4 x2_4 ls hl hF
      rw [F_X7_size_L4.eq_2] at hF
      refine lv_iload_n hx hb dX7_size_4 rfl (lv_at hl 1 rfl) ?_
      refine lv_if_le (tgt := 21) hx hb dX7_size_5 (by decide) (fun c5 => ?_) (fun c5 => ?_)
      · replace hF := ip c5 hF
        have hF : F_X7_size_J21 x0 x1_4 = some r := hF
        unfold F_X7_size_J21 at hF
        refine lv_iload_n hx hb dX7_size_21 rfl (lv_at hl 0 rfl) ?_
        exact W.iret hx hb hr (fun t ht hW => ⟨_, rfl, (Option.some.inj hF), ht⟩) (fun _ h => nomatch h) dX7_size_22
      · replace hF := iq c5 hF
        refine lv_iload_n hx hb dX7_size_8 rfl (lv_at hl 0 rfl) ?_
        refine lv_iload_n hx hb dX7_size_9 rfl (lv_at hl 1 rfl) ?_
        refine lv_iconst (v := 1) hx hb dX7_size_10 (by decide) ?_
        refine lv_iand hx hb dX7_size_11 ?_
        refine lv_iadd hx hb dX7_size_12 ?_
        refine lv_istore_n (lv' := [(1, .int (x1_4 + (x2_4 &&& 1))), (2, .int x2_4)]) hx hb dX7_size_13 rfl hl (by decide) rfl (fun ls hl => ?_)
        refine lv_iload_n hx hb dX7_size_14 rfl (lv_at hl 1 rfl) ?_
        refine lv_iconst (v := 1) hx hb dX7_size_15 (by decide) ?_
        refine lv_ishr hx hb dX7_size_16 ?_
        refine lv_istore_n (lv' := [(2, .int (x2_4 >>> (1 &&& 31))), (1, .int (x1_4 + (x2_4 &&& 1)))]) hx hb dX7_size_17 rfl hl (by decide) rfl (fun ls hl => ?_)
        refine lv_goto (tgt := 4) hx hb dX7_size_18 (by decide) ?_
        exact ih4 (x1_4 + (x2_4 &&& 1)) (x2_4 >>> (1 &&& 31)) _ (lv_sub hl [1, 0] rfl) hF
  exact L4 1000 0 x0 _ (lv_sub hl [1, 0] rfl) hF
noncomputable def F_X7_digit (t0 : ST) (x1 : Int32) (x2 : Int32) (x3 : Int32) : Option (Int32 × ST) :=
  if x1 ≤ (t0 0 6) then
    some ((-9), t0)
  else
  (rd 240 (t0 3) (t0 0 6)).bind fun v16 =>
  (F_X7_within v16 (48 + x2) (48 + x3)).bind fun v25 =>
  if v25 = 0 then
    some ((-9), t0)
  else
  (rd 240 (t0 3) (((t0 0 6) + 1) - 1)).bind fun v54 =>
  some ((v54 - 48), (st t0 0 6 ((t0 0 6) + 1)))
abbrev rm_X7_digit : Room := { frames := 1, cells := 0, slots := 0, locals := 22 }
set_option maxHeartbeats 4000000 in
set_option maxRecDepth 100000 in
theorem c_X7_digit (l : Launch) (D : va_G) (cI cS : ClassId) (a0 : Nat → Nat) (t0 : ST) (x1 : Int32) (x2 : Int32) (x3 : Int32) (r : Int32) (t' : ST) (hF : F_X7_digit t0 x1 x2 x3 = some (r, t')) : Met l yX7_digit (Cond.code yX7_digit cX7_digit 4 (some .int) :: ALL) rm_X7_digit (PreW D cI cS [.ref (a0 0), .int x1, .int x2, .int x3] (pM cI cS a0 t0)) (va_Qi (fun x (_ : Unit) => x = r) (fun _ t => va_P D vwCl (pM cI cS a0 t') t.heap) (AD (pM cI cS a0 t0))) 0 0 (AD (pM cI cS a0 t0)) := by
  refine mW l D cI cS (by decide) (Nat.le_of_ble_eq_true rfl) ?_
  intro p e s m below meth c ls hx hb hr hml hown hts hlocks hP hK hD hS hl
  have hown : s.vm.findClass RX7 = some m.cls := hown
  have hl : lv_has ls 4 [(0, .ref (a0 0)), (1, .int x1), (2, .int x2), (3, .int x3)] := hl
  unfold F_X7_digit at hF
  refine lv_aload_n hx hb dX7_digit_0 rfl (lv_at hl 0 rfl) ?_
  refine va_get (D := D) (ci := 6) (v := .int (t0 0 6)) (C := RX7) (T := TX7) (N := 29) hx hb hts (fun w h => List.mem_cons_of_mem _ (inAX7 w h)) hown hK.1 hP 0 (at_M_0 cI cS _ _) rfl 13 (by decide) (hts _ (List.mem_cons_of_mem _ fl_RX7_68)) (fun _ h9 => h9) rfl dX7_digit_1 ?_
  refine lv_iload_n hx hb dX7_digit_4 rfl (lv_at hl 1 rfl) ?_
  refine lv_icmp_ge (tgt := 31) hx hb dX7_digit_5 (by decide) (fun c5 => ?_) (fun c5 => ?_)
  · replace hF := ip c5 hF
    refine lv_bipush (v := (-9)) hx hb dX7_digit_31 (by decide) ?_
    exact W.iret hx hb hr (fun t ht hW => ⟨⟨_, (), rfl, (Prod.mk.inj (Option.some.inj hF)).1, by show va_P _ _ _ t.heap; rw [ht, ← (Prod.mk.inj (Option.some.inj hF)).2]; exact hP⟩, hS.F ht⟩) hS.2.2 dX7_digit_33
  · replace hF := iq c5 hF
    refine lv_aload_n hx hb dX7_digit_8 rfl (lv_at hl 0 rfl) ?_
    refine va_get (D := D) (ci := 6) (v := .ref (a0 3)) (C := RX7) (T := TX7) (N := 29) hx hb hts (fun w h => List.mem_cons_of_mem _ (inAX7 w h)) hown hK.1 hP 0 (at_M_0 cI cS _ _) rfl 4 (by decide) (hts _ (List.mem_cons_of_mem _ fl_RX7_16)) (fun _ h9 => h9) rfl dX7_digit_9 ?_
    refine lv_aload_n hx hb dX7_digit_12 rfl (lv_at hl 0 rfl) ?_
    refine va_get (D := D) (ci := 6) (v := .int (t0 0 6)) (C := RX7) (T := TX7) (N := 29) hx hb hts (fun w h => List.mem_cons_of_mem _ (inAX7 w h)) hown hK.1 hP 0 (at_M_0 cI cS _ _) rfl 13 (by decide) (hts _ (List.mem_cons_of_mem _ fl_RX7_68)) (fun _ h9 => h9) rfl dX7_digit_13 ?_
    obtain ⟨v16, h16, hF⟩ := bd hF
    refine rI hx hb hK.1 hP 3 0 (at_M_3 cI cS _ _) rfl h16 dX7_digit_16 ?_
    refine lv_bipush (v := 48) hx hb dX7_digit_17 (by decide) ?_
    refine lv_iload_n hx hb dX7_digit_19 rfl (lv_at hl 2 rfl) ?_
    refine lv_iadd hx hb dX7_digit_20 ?_
    refine lv_bipush (v := 48) hx hb dX7_digit_21 (by decide) ?_
    refine lv_iload_n hx hb dX7_digit_23 rfl (lv_at hl 3 rfl) ?_
    refine lv_iadd hx hb dX7_digit_24 ?_
    obtain ⟨v25, h25, hF⟩ := bd hF
    refine cRb (va_runS (As := [.int v16, .int (48 + x2), .int (48 + x3)]) (rest := []) ⟨hx, hb, hml, hown, hts⟩ (c_X7_within l D cI cS v16 (48 + x2) (48 + x3) v25 h25) (cwSA hts (TW.cons _) ls_X7_within ml_RX7_61 ⟨rfl, rfl⟩ ⟨(Nat.le_of_ble_eq_true rfl), (Nat.le_of_ble_eq_true rfl)⟩) (pRS hK pnil) rfl rfl hl.1 rfl (lv_room (Nat.le_of_ble_eq_true rfl)) dX7_digit_25 ⟨Nat.le_refl _, Nat.le_refl _⟩) (fun b25 => ?_)
    refine lv_if_ne (tgt := 34) hx hb dX7_digit_28 (by decide) (fun c28 => ?_) (fun c28 => ?_)
    · replace hF := iq c28 hF
      refine lv_aload_n hx hb dX7_digit_34 rfl (lv_at hl 0 rfl) ?_
      refine lv_dup hx hb dX7_digit_35 rfl ?_
      refine va_get (D := D) (ci := 6) (v := .int (t0 0 6)) (C := RX7) (T := TX7) (N := 29) hx hb hts (fun w h => List.mem_cons_of_mem _ (inAX7 w h)) hown hK.1 hP 0 (at_M_0 cI cS _ _) rfl 13 (by decide) (hts _ (List.mem_cons_of_mem _ fl_RX7_68)) (fun _ h9 => h9) rfl dX7_digit_36 ?_
      refine lv_iconst (v := 1) hx hb dX7_digit_39 (by decide) ?_
      refine lv_iadd hx hb dX7_digit_40 ?_
      refine wF (ws' := pM cI cS a0 (st t0 0 6 ((t0 0 6) + 1))) (C := RX7) (T := TX7) (N := 29) hx hb hts (fun w h => List.mem_cons_of_mem _ (inAX7 w h)) tyX7 tyX7_ok nmX7 hown hK.1 hP hD hS 0 (at_M_0 cI cS _ _) rfl 13 (by decide) (hts _ (List.mem_cons_of_mem _ fl_RX7_68)) rfl (tyX7_ok 13 (by decide)) rfl rfl (Nat.le_of_ble_eq_true rfl) (sf_M_0_13 cI cS _ _ _) dX7_digit_41 (fun H locs hP hD hS => ?_)
      refine lv_aload_n hx hb dX7_digit_44 rfl (lv_at hl 0 rfl) ?_
      refine va_get (D := D) (ci := 6) (v := .ref (a0 3)) (C := RX7) (T := TX7) (N := 29) hx hb hts (fun w h => List.mem_cons_of_mem _ (inAX7 w h)) hown hK.1 hP 0 (at_M_0 cI cS _ _) rfl 4 (by decide) (hts _ (List.mem_cons_of_mem _ fl_RX7_16)) (fun _ h9 => h9) rfl dX7_digit_45 ?_
      refine lv_aload_n hx hb dX7_digit_48 rfl (lv_at hl 0 rfl) ?_
      refine va_get (D := D) (ci := 6) (v := .int ((t0 0 6) + 1)) (C := RX7) (T := TX7) (N := 29) hx hb hts (fun w h => List.mem_cons_of_mem _ (inAX7 w h)) hown hK.1 hP 0 (at_M_0 cI cS _ _) rfl 13 (by decide) (hts _ (List.mem_cons_of_mem _ fl_RX7_68)) (fun _ h9 => h9) rfl dX7_digit_49 ?_
      refine lv_iconst (v := 1) hx hb dX7_digit_52 (by decide) ?_
      refine lv_isub hx hb dX7_digit_53 ?_
      obtain ⟨v54, h54, hF⟩ := bd hF
      refine rI hx hb hK.1 hP 3 0 (at_M_3 cI cS _ _) rfl h54 dX7_digit_54 ?_
      refine lv_bipush (v := 48) hx hb dX7_digit_55 (by decide) ?_
      refine lv_isub hx hb dX7_digit_57 ?_
      exact W.iret hx hb hr (fun t ht hW => ⟨⟨_, (), rfl, (Prod.mk.inj (Option.some.inj hF)).1, by show va_P _ _ _ t.heap; rw [ht, ← (Prod.mk.inj (Option.some.inj hF)).2]; exact hP⟩, hS.F ht⟩) hS.2.2 dX7_digit_58
    · replace hF := ip c28 hF
      refine lv_bipush (v := (-9)) hx hb dX7_digit_31 (by decide) ?_
      exact W.iret hx hb hr (fun t ht hW => ⟨⟨_, (), rfl, (Prod.mk.inj (Option.some.inj hF)).1, by show va_P _ _ _ t.heap; rw [ht, ← (Prod.mk.inj (Option.some.inj hF)).2]; exact hP⟩, hS.F ht⟩) hS.2.2 dX7_digit_33
noncomputable def F_X7_isSign (t0 : ST) (x1 : Int32) (x2 : Int32) : Option (Int32 × ST) :=
  if x1 ≤ (t0 0 6) then
    some (0, t0)
  else
  (rd 240 (t0 3) (t0 0 6)).bind fun v16 =>
  if v16 = x2 then
    some (1, (st t0 0 6 ((t0 0 6) + 1)))
  else
  some (0, t0)
abbrev rm_X7_isSign : Room := { frames := 0, cells := 0, slots := 0, locals := 0 }
set_option maxHeartbeats 4000000 in
set_option maxRecDepth 100000 in
theorem c_X7_isSign (l : Launch) (D : va_G) (cI cS : ClassId) (a0 : Nat → Nat) (t0 : ST) (x1 : Int32) (x2 : Int32) (r : Int32) (t' : ST) (hF : F_X7_isSign t0 x1 x2 = some (r, t')) : Met l yX7_isSign (Cond.code yX7_isSign cX7_isSign 3 (some .boolean) :: ALL) rm_X7_isSign (PreW D cI cS [.ref (a0 0), .int x1, .int x2] (pM cI cS a0 t0)) (va_Qi (fun x (_ : Unit) => x = r ∧ (x = 0 ∨ x = 1)) (fun _ t => va_P D vwCl (pM cI cS a0 t') t.heap) (AD (pM cI cS a0 t0))) 0 0 (AD (pM cI cS a0 t0)) := by
  refine mW l D cI cS (by decide) (Nat.le_of_ble_eq_true rfl) ?_
  intro p e s m below meth c ls hx hb hr hml hown hts hlocks hP hK hD hS hl
  have hown : s.vm.findClass RX7 = some m.cls := hown
  have hl : lv_has ls 3 [(0, .ref (a0 0)), (1, .int x1), (2, .int x2)] := hl
  unfold F_X7_isSign at hF
  refine lv_aload_n hx hb dX7_isSign_0 rfl (lv_at hl 0 rfl) ?_
  refine va_get (D := D) (ci := 6) (v := .int (t0 0 6)) (C := RX7) (T := TX7) (N := 29) hx hb hts (fun w h => List.mem_cons_of_mem _ (inAX7 w h)) hown hK.1 hP 0 (at_M_0 cI cS _ _) rfl 13 (by decide) (hts _ (List.mem_cons_of_mem _ fl_RX7_68)) (fun _ h9 => h9) rfl dX7_isSign_1 ?_
  refine lv_iload_n hx hb dX7_isSign_4 rfl (lv_at hl 1 rfl) ?_
  refine lv_icmp_ge (tgt := 21) hx hb dX7_isSign_5 (by decide) (fun c5 => ?_) (fun c5 => ?_)
  · replace hF := ip c5 hF
    refine lv_iconst (v := 0) hx hb dX7_isSign_21 (by decide) ?_
    exact W.zret hx hb hr rfl (fun t ht hW => ⟨⟨_, (), rfl, ⟨(Prod.mk.inj (Option.some.inj hF)).1, Or.inl rfl⟩, by show va_P _ _ _ t.heap; rw [ht, ← (Prod.mk.inj (Option.some.inj hF)).2]; exact hP⟩, hS.F ht⟩) hS.2.2 dX7_isSign_22
  · replace hF := iq c5 hF
    refine lv_aload_n hx hb dX7_isSign_8 rfl (lv_at hl 0 rfl) ?_
    refine va_get (D := D) (ci := 6) (v := .ref (a0 3)) (C := RX7) (T := TX7) (N := 29) hx hb hts (fun w h => List.mem_cons_of_mem _ (inAX7 w h)) hown hK.1 hP 0 (at_M_0 cI cS _ _) rfl 4 (by decide) (hts _ (List.mem_cons_of_mem _ fl_RX7_16)) (fun _ h9 => h9) rfl dX7_isSign_9 ?_
    refine lv_aload_n hx hb dX7_isSign_12 rfl (lv_at hl 0 rfl) ?_
    refine va_get (D := D) (ci := 6) (v := .int (t0 0 6)) (C := RX7) (T := TX7) (N := 29) hx hb hts (fun w h => List.mem_cons_of_mem _ (inAX7 w h)) hown hK.1 hP 0 (at_M_0 cI cS _ _) rfl 13 (by decide) (hts _ (List.mem_cons_of_mem _ fl_RX7_68)) (fun _ h9 => h9) rfl dX7_isSign_13 ?_
    obtain ⟨v16, h16, hF⟩ := bd hF
    refine rI hx hb hK.1 hP 3 0 (at_M_3 cI cS _ _) rfl h16 dX7_isSign_16 ?_
    refine lv_iload_n hx hb dX7_isSign_17 rfl (lv_at hl 2 rfl) ?_
    refine lv_icmp_eq (tgt := 23) hx hb dX7_isSign_18 (by decide) (fun c18 => ?_) (fun c18 => ?_)
    · replace hF := ip c18 hF
      refine lv_aload_n hx hb dX7_isSign_23 rfl (lv_at hl 0 rfl) ?_
      refine lv_dup hx hb dX7_isSign_24 rfl ?_
      refine va_get (D := D) (ci := 6) (v := .int (t0 0 6)) (C := RX7) (T := TX7) (N := 29) hx hb hts (fun w h => List.mem_cons_of_mem _ (inAX7 w h)) hown hK.1 hP 0 (at_M_0 cI cS _ _) rfl 13 (by decide) (hts _ (List.mem_cons_of_mem _ fl_RX7_68)) (fun _ h9 => h9) rfl dX7_isSign_25 ?_
      refine lv_iconst (v := 1) hx hb dX7_isSign_28 (by decide) ?_
      refine lv_iadd hx hb dX7_isSign_29 ?_
      refine wF (ws' := pM cI cS a0 (st t0 0 6 ((t0 0 6) + 1))) (C := RX7) (T := TX7) (N := 29) hx hb hts (fun w h => List.mem_cons_of_mem _ (inAX7 w h)) tyX7 tyX7_ok nmX7 hown hK.1 hP hD hS 0 (at_M_0 cI cS _ _) rfl 13 (by decide) (hts _ (List.mem_cons_of_mem _ fl_RX7_68)) rfl (tyX7_ok 13 (by decide)) rfl rfl (Nat.le_of_ble_eq_true rfl) (sf_M_0_13 cI cS _ _ _) dX7_isSign_30 (fun H locs hP hD hS => ?_)
      refine lv_iconst (v := 1) hx hb dX7_isSign_33 (by decide) ?_
      exact W.zret hx hb hr rfl (fun t ht hW => ⟨⟨_, (), rfl, ⟨(Prod.mk.inj (Option.some.inj hF)).1, Or.inr rfl⟩, by show va_P _ _ _ t.heap; rw [ht, ← (Prod.mk.inj (Option.some.inj hF)).2]; exact hP⟩, hS.F ht⟩) hS.2.2 dX7_isSign_34
    · replace hF := iq c18 hF
      refine lv_iconst (v := 0) hx hb dX7_isSign_21 (by decide) ?_
      exact W.zret hx hb hr rfl (fun t ht hW => ⟨⟨_, (), rfl, ⟨(Prod.mk.inj (Option.some.inj hF)).1, Or.inl rfl⟩, by show va_P _ _ _ t.heap; rw [ht, ← (Prod.mk.inj (Option.some.inj hF)).2]; exact hP⟩, hS.F ht⟩) hS.2.2 dX7_isSign_22
noncomputable def F_X7_readTheLaw_J61 (x1 : Int32) (x2 : Int32) (x3 : Int32) (s0 : ST) (z0 : Int32) (z1 : Int32) (z2 : Int32) : Option (Int32 × ST) :=
  b2 (F_X7_digit s0 z2 z1 z0) fun v61 u61 =>
  if v61 = (-9) then
    some (0, (st u61 0 7 (((100 * x2) + (10 * x3)) + v61)))
  else
  some (1, (st u61 0 7 (((100 * x2) + (10 * x3)) + v61)))
noncomputable def F_X7_readTheLaw_J59 (x1 : Int32) (x2 : Int32) (x3 : Int32) (s0 : ST) (z0 : Int32) (z1 : Int32) : Option (Int32 × ST) :=
  F_X7_readTheLaw_J61 x1 x2 x3 s0 9 z0 z1
noncomputable def F_X7_readTheLaw_J30 (x1 : Int32) (x2 : Int32) (s0 : ST) (z0 : Int32) (z1 : Int32) (z2 : Int32) : Option (Int32 × ST) :=
  b2 (F_X7_digit s0 z2 z1 z0) fun v30 u30 =>
  if v30 = (-9) then
    some (0, u30)
  else
  if x2 = 2 then
    if v30 = 5 then
      F_X7_readTheLaw_J61 x1 x2 v30 u30 5 0 x1
    else
    F_X7_readTheLaw_J59 x1 x2 v30 u30 0 x1
  else
  F_X7_readTheLaw_J59 x1 x2 v30 u30 0 x1
noncomputable def F_X7_readTheLaw (t0 : ST) (x1 : Int32) : Option (Int32 × ST) :=
  b2 (F_X7_digit t0 x1 0 2) fun v4 u4 =>
  if v4 = (-9) then
    some (0, u4)
  else
  if v4 = 2 then
    F_X7_readTheLaw_J30 x1 v4 u4 5 0 x1
  else
  F_X7_readTheLaw_J30 x1 v4 u4 9 0 x1
abbrev rm_X7_readTheLaw : Room := { frames := 2, cells := 0, slots := 0, locals := 45 }
set_option maxHeartbeats 4000000 in
set_option maxRecDepth 100000 in
theorem c_X7_readTheLaw (l : Launch) (D : va_G) (cI cS : ClassId) (a0 : Nat → Nat) (t0 : ST) (x1 : Int32) (r : Int32) (t' : ST) (hF : F_X7_readTheLaw t0 x1 = some (r, t')) : Met l yX7_readTheLaw (Cond.code yX7_readTheLaw cX7_readTheLaw 5 (some .boolean) :: ALL) rm_X7_readTheLaw (PreW D cI cS [.ref (a0 0), .int x1] (pM cI cS a0 t0)) (va_Qi (fun x (_ : Unit) => x = r ∧ (x = 0 ∨ x = 1)) (fun _ t => va_P D vwCl (pM cI cS a0 t') t.heap) (AD (pM cI cS a0 t0))) 0 0 (AD (pM cI cS a0 t0)) := by
  refine mW l D cI cS (by decide) (Nat.le_of_ble_eq_true rfl) ?_
  intro p e s m below meth c ls hx hb hr hml hown hts hlocks hP hK hD hS hl
  have hown : s.vm.findClass RX7 = some m.cls := hown
  have hl : lv_has ls 5 [(0, .ref (a0 0)), (1, .int x1)] := hl
  unfold F_X7_readTheLaw at hF
  refine lv_aload_n hx hb dX7_readTheLaw_0 rfl (lv_at hl 0 rfl) ?_
  refine lv_iload_n hx hb dX7_readTheLaw_1 rfl (lv_at hl 1 rfl) ?_
  refine lv_iconst (v := 0) hx hb dX7_readTheLaw_2 (by decide) ?_
  refine lv_iconst (v := 2) hx hb dX7_readTheLaw_3 (by decide) ?_
  obtain ⟨v4, u4, h4, hF⟩ := bd2 hF
  refine cAe (ws' := pM cI cS a0 u4) (va_runV (As := [.int x1, .int 0, .int 2]) (rest := []) ⟨hx, hb, hml, hown, hts⟩ (c_X7_digit l D cI cS a0 t0 x1 0 2 v4 u4 h4) (cwVA hts (TW.cons _) lv_X7_digit ml_RX7_128 ⟨rfl, rfl⟩ ⟨(Nat.le_of_ble_eq_true rfl), (Nat.le_of_ble_eq_true rfl)⟩) (pWV hK hP hD (ci := 6) rfl rfl) rfl rfl hl.1 rfl (lv_room (Nat.le_of_ble_eq_true rfl)) dX7_readTheLaw_4 ⟨Nat.le_refl _, Nat.le_refl _⟩) hD hS (ad_M cI cS _ _ _) (fun H locs hP hD hS => ?_)
  refine lv_istore_n (lv' := [(2, .int v4), (0, .ref (a0 0)), (1, .int x1)]) hx hb dX7_readTheLaw_7 rfl hl (by decide) rfl (fun ls hl => ?_)
  refine lv_iload_n hx hb dX7_readTheLaw_8 rfl (lv_at hl 0 rfl) ?_
  refine lv_bipush (v := (-9)) hx hb dX7_readTheLaw_9 (by decide) ?_
  refine lv_icmp_ne (tgt := 16) hx hb dX7_readTheLaw_11 (by decide) (fun c11 => ?_) (fun c11 => ?_)
  · replace hF := iq c11 hF
    refine lv_aload_n hx hb dX7_readTheLaw_16 rfl (lv_at hl 1 rfl) ?_
    refine lv_iload_n hx hb dX7_readTheLaw_17 rfl (lv_at hl 2 rfl) ?_
    refine lv_iconst (v := 0) hx hb dX7_readTheLaw_18 (by decide) ?_
    refine lv_iload_n hx hb dX7_readTheLaw_19 rfl (lv_at hl 0 rfl) ?_
    refine lv_iconst (v := 2) hx hb dX7_readTheLaw_20 (by decide) ?_
    have J30 : ∀ (x2_30 : Int32) (s0_30 : ST) (z0_30 : Int32) (z1_30 : Int32) (z2_30 : Int32) (H : Heap) (locs : List Loc) (ls : Array Slot), va_P D vwCl (pM cI cS a0 s0_30) H → va_D (AD (pM cI cS a0 t0)) (pM cI cS a0 s0_30) → va_S (AD (pM cI cS a0 t0)) s.heap H locs → lv_has ls 5 [(0, .ref (a0 0)), (1, .int x1), (2, .int x2_30)] → F_X7_readTheLaw_J30 x1 x2_30 s0_30 z0_30 z1_30 z2_30 = some (r, t') → W p l e rm_X7_readTheLaw s m [.ref (a0 0), .int x1].toArray below meth c H locs 0 0 (MQ below (va_Qi (fun x (_ : Unit) => x = r ∧ (x = 0 ∨ x = 1)) (fun _ t => va_P D vwCl (pM cI cS a0 t') t.heap) (AD (pM cI cS a0 t0))) [.ref (a0 0), .int x1].toArray s 0 0 (AD (pM cI cS a0 t0))) (F0 m 30 ls [.int z0_30, .int z1_30, .int z2_30, .ref (a0 0)]) := by
      intro x2_30 s0_30 z0_30 z1_30 z2_30 H locs ls hP hD hS hl hF
      unfold F_X7_readTheLaw_J30 at hF
      obtain ⟨v30, u30, h30, hF⟩ := bd2 hF
      refine cAe (ws' := pM cI cS a0 u30) (va_runV (As := [.int z2_30, .int z1_30, .int z0_30]) (rest := []) ⟨hx, hb, hml, hown, hts⟩ (c_X7_digit l D cI cS a0 s0_30 z2_30 z1_30 z0_30 v30 u30 h30) (cwVA hts (TW.cons _) lv_X7_digit ml_RX7_128 ⟨rfl, rfl⟩ ⟨(Nat.le_of_ble_eq_true rfl), (Nat.le_of_ble_eq_true rfl)⟩) (pWV hK hP hD (ci := 6) rfl rfl) rfl rfl hl.1 rfl (lv_room (Nat.le_of_ble_eq_true rfl)) dX7_readTheLaw_30 ⟨Nat.le_refl _, Nat.le_refl _⟩) hD hS (ad_M cI cS _ _ _) (fun H locs hP hD hS => ?_)
      refine lv_istore_n (lv' := [(3, .int v30), (0, .ref (a0 0)), (1, .int x1), (2, .int x2_30)]) hx hb dX7_readTheLaw_33 rfl hl (by decide) rfl (fun ls hl => ?_)
      refine lv_iload_n hx hb dX7_readTheLaw_34 rfl (lv_at hl 0 rfl) ?_
      refine lv_bipush (v := (-9)) hx hb dX7_readTheLaw_35 (by decide) ?_
      refine lv_icmp_ne (tgt := 42) hx hb dX7_readTheLaw_37 (by decide) (fun c37 => ?_) (fun c37 => ?_)
      · replace hF := iq c37 hF
        refine lv_aload_n hx hb dX7_readTheLaw_42 rfl (lv_at hl 1 rfl) ?_
        refine lv_iload_n hx hb dX7_readTheLaw_43 rfl (lv_at hl 2 rfl) ?_
        refine lv_iconst (v := 0) hx hb dX7_readTheLaw_44 (by decide) ?_
        refine lv_iload_n hx hb dX7_readTheLaw_45 rfl (lv_at hl 3 rfl) ?_
        refine lv_iconst (v := 2) hx hb dX7_readTheLaw_46 (by decide) ?_
        have J61 : ∀ (x2_61 : Int32) (x3_61 : Int32) (s0_61 : ST) (z0_61 : Int32) (z1_61 : Int32) (z2_61 : Int32) (H : Heap) (locs : List Loc) (ls : Array Slot), va_P D vwCl (pM cI cS a0 s0_61) H → va_D (AD (pM cI cS a0 t0)) (pM cI cS a0 s0_61) → va_S (AD (pM cI cS a0 t0)) s.heap H locs → lv_has ls 5 [(0, .ref (a0 0)), (2, .int x2_61), (3, .int x3_61)] → F_X7_readTheLaw_J61 x1 x2_61 x3_61 s0_61 z0_61 z1_61 z2_61 = some (r, t') → W p l e rm_X7_readTheLaw s m [.ref (a0 0), .int x1].toArray below meth c H locs 0 0 (MQ below (va_Qi (fun x (_ : Unit) => x = r ∧ (x = 0 ∨ x = 1)) (fun _ t => va_P D vwCl (pM cI cS a0 t') t.heap) (AD (pM cI cS a0 t0))) [.ref (a0 0), .int x1].toArray s 0 0 (AD (pM cI cS a0 t0))) (F0 m 61 ls [.int z0_61, .int z1_61, .int z2_61, .ref (a0 0)]) := by
          intro x2_61 x3_61 s0_61 z0_61 z1_61 z2_61 H locs ls hP hD hS hl hF
          unfold F_X7_readTheLaw_J61 at hF
          obtain ⟨v61, u61, h61, hF⟩ := bd2 hF
          refine cAe (ws' := pM cI cS a0 u61) (va_runV (As := [.int z2_61, .int z1_61, .int z0_61]) (rest := []) ⟨hx, hb, hml, hown, hts⟩ (c_X7_digit l D cI cS a0 s0_61 z2_61 z1_61 z0_61 v61 u61 h61) (cwVA hts (TW.cons _) lv_X7_digit ml_RX7_128 ⟨rfl, rfl⟩ ⟨(Nat.le_of_ble_eq_true rfl), (Nat.le_of_ble_eq_true rfl)⟩) (pWV hK hP hD (ci := 6) rfl rfl) rfl rfl hl.1 rfl (lv_room (Nat.le_of_ble_eq_true rfl)) dX7_readTheLaw_61 ⟨Nat.le_refl _, Nat.le_refl _⟩) hD hS (ad_M cI cS _ _ _) (fun H locs hP hD hS => ?_)
          refine lv_istore (lv' := [(4, .int v61), (0, .ref (a0 0)), (2, .int x2_61), (3, .int x3_61)]) hx hb dX7_readTheLaw_64 hl (by decide) rfl (fun ls hl => ?_)
          refine lv_aload_n hx hb dX7_readTheLaw_66 rfl (lv_at hl 1 rfl) ?_
          refine lv_bipush (v := 100) hx hb dX7_readTheLaw_67 (by decide) ?_
          refine lv_iload_n hx hb dX7_readTheLaw_69 rfl (lv_at hl 2 rfl) ?_
          refine lv_imul hx hb dX7_readTheLaw_70 ?_
          refine lv_bipush (v := 10) hx hb dX7_readTheLaw_71 (by decide) ?_
          refine lv_iload_n hx hb dX7_readTheLaw_73 rfl (lv_at hl 3 rfl) ?_
          refine lv_imul hx hb dX7_readTheLaw_74 ?_
          refine lv_iadd hx hb dX7_readTheLaw_75 ?_
          refine lv_iload hx hb dX7_readTheLaw_76 (lv_at hl 0 rfl) ?_
          refine lv_iadd hx hb dX7_readTheLaw_78 ?_
          refine wF (ws' := pM cI cS a0 (st u61 0 7 (((100 * x2_61) + (10 * x3_61)) + v61))) (C := RX7) (T := TX7) (N := 29) hx hb hts (fun w h => List.mem_cons_of_mem _ (inAX7 w h)) tyX7 tyX7_ok nmX7 hown hK.1 hP hD hS 0 (at_M_0 cI cS _ _) rfl 14 (by decide) (hts _ (List.mem_cons_of_mem _ fl_RX7_92)) rfl (tyX7_ok 14 (by decide)) rfl rfl (Nat.le_of_ble_eq_true rfl) (sf_M_0_14 cI cS _ _ _) dX7_readTheLaw_79 (fun H locs hP hD hS => ?_)
          refine lv_iload hx hb dX7_readTheLaw_82 (lv_at hl 0 rfl) ?_
          refine lv_bipush (v := (-9)) hx hb dX7_readTheLaw_84 (by decide) ?_
          refine lv_icmp_eq (tgt := 93) hx hb dX7_readTheLaw_86 (by decide) (fun c86 => ?_) (fun c86 => ?_)
          · replace hF := ip c86 hF
            refine lv_iconst (v := 0) hx hb dX7_readTheLaw_93 (by decide) ?_
            exact W.zret hx hb hr rfl (fun t ht hW => ⟨⟨_, (), rfl, ⟨(Prod.mk.inj (Option.some.inj hF)).1, Or.inl rfl⟩, by show va_P _ _ _ t.heap; rw [ht, ← (Prod.mk.inj (Option.some.inj hF)).2]; exact hP⟩, hS.F ht⟩) hS.2.2 dX7_readTheLaw_94
          · replace hF := iq c86 hF
            refine lv_iconst (v := 1) hx hb dX7_readTheLaw_89 (by decide) ?_
            refine lv_goto (tgt := 94) hx hb dX7_readTheLaw_90 (by decide) ?_
            exact W.zret hx hb hr rfl (fun t ht hW => ⟨⟨_, (), rfl, ⟨(Prod.mk.inj (Option.some.inj hF)).1, Or.inr rfl⟩, by show va_P _ _ _ t.heap; rw [ht, ← (Prod.mk.inj (Option.some.inj hF)).2]; exact hP⟩, hS.F ht⟩) hS.2.2 dX7_readTheLaw_94
        have J59 : ∀ (x2_59 : Int32) (x3_59 : Int32) (s0_59 : ST) (z0_59 : Int32) (z1_59 : Int32) (H : Heap) (locs : List Loc) (ls : Array Slot), va_P D vwCl (pM cI cS a0 s0_59) H → va_D (AD (pM cI cS a0 t0)) (pM cI cS a0 s0_59) → va_S (AD (pM cI cS a0 t0)) s.heap H locs → lv_has ls 5 [(0, .ref (a0 0)), (2, .int x2_59), (3, .int x3_59)] → F_X7_readTheLaw_J59 x1 x2_59 x3_59 s0_59 z0_59 z1_59 = some (r, t') → W p l e rm_X7_readTheLaw s m [.ref (a0 0), .int x1].toArray below meth c H locs 0 0 (MQ below (va_Qi (fun x (_ : Unit) => x = r ∧ (x = 0 ∨ x = 1)) (fun _ t => va_P D vwCl (pM cI cS a0 t') t.heap) (AD (pM cI cS a0 t0))) [.ref (a0 0), .int x1].toArray s 0 0 (AD (pM cI cS a0 t0))) (F0 m 59 ls [.int z0_59, .int z1_59, .ref (a0 0)]) := by
          intro x2_59 x3_59 s0_59 z0_59 z1_59 H locs ls hP hD hS hl hF
          unfold F_X7_readTheLaw_J59 at hF
          refine lv_bipush (v := 9) hx hb dX7_readTheLaw_59 (by decide) ?_
          exact J61 x2_59 x3_59 s0_59 9 z0_59 z1_59 _ _ _ hP hD hS (lv_sub hl [0, 1, 2] rfl) hF
        refine lv_icmp_ne (tgt := 59) hx hb dX7_readTheLaw_47 (by decide) (fun c47 => ?_) (fun c47 => ?_)
        · replace hF := iq c47 hF
          exact J59 x2_30 v30 u30 0 x1 _ _ _ hP hD hS (lv_sub hl [1, 3, 0] rfl) hF
        · replace hF := ip c47 hF
          refine lv_iload_n hx hb dX7_readTheLaw_50 rfl (lv_at hl 0 rfl) ?_
          refine lv_iconst (v := 5) hx hb dX7_readTheLaw_51 (by decide) ?_
          refine lv_icmp_ne (tgt := 59) hx hb dX7_readTheLaw_52 (by decide) (fun c52 => ?_) (fun c52 => ?_)
          · replace hF := iq c52 hF
            exact J59 x2_30 v30 u30 0 x1 _ _ _ hP hD hS (lv_sub hl [1, 3, 0] rfl) hF
          · replace hF := ip c52 hF
            refine lv_iconst (v := 5) hx hb dX7_readTheLaw_55 (by decide) ?_
            refine lv_goto (tgt := 61) hx hb dX7_readTheLaw_56 (by decide) ?_
            exact J61 x2_30 v30 u30 5 0 x1 _ _ _ hP hD hS (lv_sub hl [1, 3, 0] rfl) hF
      · replace hF := ip c37 hF
        refine lv_iconst (v := 0) hx hb dX7_readTheLaw_40 (by decide) ?_
        exact W.zret hx hb hr rfl (fun t ht hW => ⟨⟨_, (), rfl, ⟨(Prod.mk.inj (Option.some.inj hF)).1, Or.inl rfl⟩, by show va_P _ _ _ t.heap; rw [ht, ← (Prod.mk.inj (Option.some.inj hF)).2]; exact hP⟩, hS.F ht⟩) hS.2.2 dX7_readTheLaw_41
    refine lv_icmp_ne (tgt := 28) hx hb dX7_readTheLaw_21 (by decide) (fun c21 => ?_) (fun c21 => ?_)
    · replace hF := iq c21 hF
      refine lv_bipush (v := 9) hx hb dX7_readTheLaw_28 (by decide) ?_
      exact J30 v4 u4 9 0 x1 _ _ _ hP hD hS (lv_sub hl [1, 2, 0] rfl) hF
    · replace hF := ip c21 hF
      refine lv_iconst (v := 5) hx hb dX7_readTheLaw_24 (by decide) ?_
      refine lv_goto (tgt := 30) hx hb dX7_readTheLaw_25 (by decide) ?_
      exact J30 v4 u4 5 0 x1 _ _ _ hP hD hS (lv_sub hl [1, 2, 0] rfl) hF
  · replace hF := ip c11 hF
    refine lv_iconst (v := 0) hx hb dX7_readTheLaw_14 (by decide) ?_
    exact W.zret hx hb hr rfl (fun t ht hW => ⟨⟨_, (), rfl, ⟨(Prod.mk.inj (Option.some.inj hF)).1, Or.inl rfl⟩, by show va_P _ _ _ t.heap; rw [ht, ← (Prod.mk.inj (Option.some.inj hF)).2]; exact hP⟩, hS.F ht⟩) hS.2.2 dX7_readTheLaw_15
noncomputable def F_X7_readBlock_J66 (x1 : Int32) (x3 : Int32) (s0 : ST) (z0 : Int32) (z1 : Int32) : Option (Int32 × ST) :=
  (ix 18 z1).bind fun k66 =>
  (rd 18 ((st s0 8 k66 z0) 8) x3).bind fun v72 =>
  if v72 = (-9) then
    some (0, (st s0 8 k66 z0))
  else
  b2 (F_X7_digit (st (st s0 8 k66 z0) 0 6 ((s0 0 6) + 1)) x1 0 7) fun v95 u95 =>
  if v95 = (-9) then
    some (0, u95)
  else
  b2 (F_X7_digit u95 x1 0 7) fun v114 u114 =>
  if v114 = (-9) then
    some (0, u114)
  else
  (ix 18 (x3 + 1)).bind fun k143 =>
  b2 (F_X7_digit (st u114 8 k143 ((8 * v95) + v114)) x1 1 4) fun v155 u155 =>
  (ix 18 (x3 + 2)).bind fun k158 =>
  (rd 18 ((st u155 8 k158 v155) 8) (x3 + 2)).bind fun v176 =>
  if v176 = (-9) then
    some (0, (st (st u155 8 k158 v155) 0 8 ((u155 0 8) + 1)))
  else
  some (1, (st (st u155 8 k158 v155) 0 8 ((u155 0 8) + 1)))
noncomputable def F_X7_readBlock_J21 (x1 : Int32) (s0 : ST) (z0 : Int32) : Option (Int32 × ST) :=
  if z0 = 98 then
    F_X7_readBlock_J66 x1 (3 * (s0 0 8)) s0 0 (3 * (s0 0 8))
  else
  if z0 = 110 then
    F_X7_readBlock_J66 x1 (3 * (s0 0 8)) s0 1 (3 * (s0 0 8))
  else
  if z0 = 104 then
    F_X7_readBlock_J66 x1 (3 * (s0 0 8)) s0 2 (3 * (s0 0 8))
  else
  F_X7_readBlock_J66 x1 (3 * (s0 0 8)) s0 (-9) (3 * (s0 0 8))
noncomputable def F_X7_readBlock (t0 : ST) (x1 : Int32) : Option (Int32 × ST) :=
  if x1 ≤ (t0 0 6) then
    F_X7_readBlock_J21 x1 t0 0
  else
  (rd 240 (t0 3) (t0 0 6)).bind fun v16 =>
  F_X7_readBlock_J21 x1 t0 v16
abbrev rm_X7_readBlock : Room := { frames := 2, cells := 0, slots := 0, locals := 45 }
set_option maxHeartbeats 4000000 in
set_option maxRecDepth 100000 in
theorem c_X7_readBlock (l : Launch) (D : va_G) (cI cS : ClassId) (a0 : Nat → Nat) (t0 : ST) (x1 : Int32) (r : Int32) (t' : ST) (hF : F_X7_readBlock t0 x1 = some (r, t')) : Met l yX7_readBlock (Cond.code yX7_readBlock cX7_readBlock 6 (some .boolean) :: ALL) rm_X7_readBlock (PreW D cI cS [.ref (a0 0), .int x1] (pM cI cS a0 t0)) (va_Qi (fun x (_ : Unit) => x = r ∧ (x = 0 ∨ x = 1)) (fun _ t => va_P D vwCl (pM cI cS a0 t') t.heap) (AD (pM cI cS a0 t0))) 0 0 (AD (pM cI cS a0 t0)) := by
  refine mW l D cI cS (by decide) (Nat.le_of_ble_eq_true rfl) ?_
  intro p e s m below meth c ls hx hb hr hml hown hts hlocks hP hK hD hS hl
  have hown : s.vm.findClass RX7 = some m.cls := hown
  have hl : lv_has ls 6 [(0, .ref (a0 0)), (1, .int x1)] := hl
  unfold F_X7_readBlock at hF
  refine lv_aload_n hx hb dX7_readBlock_0 rfl (lv_at hl 0 rfl) ?_
  refine va_get (D := D) (ci := 6) (v := .int (t0 0 6)) (C := RX7) (T := TX7) (N := 29) hx hb hts (fun w h => List.mem_cons_of_mem _ (inAX7 w h)) hown hK.1 hP 0 (at_M_0 cI cS _ _) rfl 13 (by decide) (hts _ (List.mem_cons_of_mem _ fl_RX7_68)) (fun _ h9 => h9) rfl dX7_readBlock_1 ?_
  refine lv_iload_n hx hb dX7_readBlock_4 rfl (lv_at hl 1 rfl) ?_
  have J21 : ∀ (s0_21 : ST) (z0_21 : Int32) (H : Heap) (locs : List Loc) (ls : Array Slot), va_P D vwCl (pM cI cS a0 s0_21) H → va_D (AD (pM cI cS a0 t0)) (pM cI cS a0 s0_21) → va_S (AD (pM cI cS a0 t0)) s.heap H locs → lv_has ls 6 [(0, .ref (a0 0)), (1, .int x1)] → F_X7_readBlock_J21 x1 s0_21 z0_21 = some (r, t') → W p l e rm_X7_readBlock s m [.ref (a0 0), .int x1].toArray below meth c H locs 0 0 (MQ below (va_Qi (fun x (_ : Unit) => x = r ∧ (x = 0 ∨ x = 1)) (fun _ t => va_P D vwCl (pM cI cS a0 t') t.heap) (AD (pM cI cS a0 t0))) [.ref (a0 0), .int x1].toArray s 0 0 (AD (pM cI cS a0 t0))) (F0 m 21 ls [.int z0_21]) := by
    intro s0_21 z0_21 H locs ls hP hD hS hl hF
    unfold F_X7_readBlock_J21 at hF
    refine lv_istore_n (lv' := [(2, .int z0_21), (0, .ref (a0 0)), (1, .int x1)]) hx hb dX7_readBlock_21 rfl hl (by decide) rfl (fun ls hl => ?_)
    refine lv_iconst (v := 3) hx hb dX7_readBlock_22 (by decide) ?_
    refine lv_aload_n hx hb dX7_readBlock_23 rfl (lv_at hl 1 rfl) ?_
    refine va_get (D := D) (ci := 6) (v := .int (s0_21 0 8)) (C := RX7) (T := TX7) (N := 29) hx hb hts (fun w h => List.mem_cons_of_mem _ (inAX7 w h)) hown hK.1 hP 0 (at_M_0 cI cS _ _) rfl 15 (by decide) (hts _ (List.mem_cons_of_mem _ fl_RX7_99)) (fun _ h9 => h9) rfl dX7_readBlock_24 ?_
    refine lv_imul hx hb dX7_readBlock_27 ?_
    refine lv_istore_n (lv' := [(3, .int (3 * (s0_21 0 8))), (2, .int z0_21), (0, .ref (a0 0)), (1, .int x1)]) hx hb dX7_readBlock_28 rfl hl (by decide) rfl (fun ls hl => ?_)
    refine lv_aload_n hx hb dX7_readBlock_29 rfl (lv_at hl 2 rfl) ?_
    refine va_get (D := D) (ci := 6) (v := .ref (a0 8)) (C := RX7) (T := TX7) (N := 29) hx hb hts (fun w h => List.mem_cons_of_mem _ (inAX7 w h)) hown hK.1 hP 0 (at_M_0 cI cS _ _) rfl 16 (by decide) (hts _ (List.mem_cons_of_mem _ fl_RX7_31)) (fun _ h9 => h9) rfl dX7_readBlock_30 ?_
    refine lv_iload_n hx hb dX7_readBlock_33 rfl (lv_at hl 0 rfl) ?_
    refine lv_iload_n hx hb dX7_readBlock_34 rfl (lv_at hl 1 rfl) ?_
    refine lv_bipush (v := 98) hx hb dX7_readBlock_35 (by decide) ?_
    have J66 : ∀ (x3_66 : Int32) (s0_66 : ST) (z0_66 : Int32) (z1_66 : Int32) (H : Heap) (locs : List Loc) (ls : Array Slot), va_P D vwCl (pM cI cS a0 s0_66) H → va_D (AD (pM cI cS a0 t0)) (pM cI cS a0 s0_66) → va_S (AD (pM cI cS a0 t0)) s.heap H locs → lv_has ls 6 [(0, .ref (a0 0)), (1, .int x1), (3, .int x3_66)] → F_X7_readBlock_J66 x1 x3_66 s0_66 z0_66 z1_66 = some (r, t') → W p l e rm_X7_readBlock s m [.ref (a0 0), .int x1].toArray below meth c H locs 0 0 (MQ below (va_Qi (fun x (_ : Unit) => x = r ∧ (x = 0 ∨ x = 1)) (fun _ t => va_P D vwCl (pM cI cS a0 t') t.heap) (AD (pM cI cS a0 t0))) [.ref (a0 0), .int x1].toArray s 0 0 (AD (pM cI cS a0 t0))) (F0 m 66 ls [.int z0_66, .int z1_66, .ref (a0 8)]) := by
      intro x3_66 s0_66 z0_66 z1_66 H locs ls hP hD hS hl hF
      unfold F_X7_readBlock_J66 at hF
      obtain ⟨k66, h66, hF⟩ := bd hF
      refine wI (ws' := pM cI cS a0 (st s0_66 8 k66 z0_66)) hx hb hK.1 hP hD hS 8 0 (at_M_8 cI cS _ _) rfl h66 (sw_M_8 cI cS _ _ _ _) dX7_readBlock_66 (fun H locs hP hD hS => ?_)
      refine lv_aload_n hx hb dX7_readBlock_67 rfl (lv_at hl 0 rfl) ?_
      refine va_get (D := D) (ci := 6) (v := .ref (a0 8)) (C := RX7) (T := TX7) (N := 29) hx hb hts (fun w h => List.mem_cons_of_mem _ (inAX7 w h)) hown hK.1 hP 0 (at_M_0 cI cS _ _) rfl 16 (by decide) (hts _ (List.mem_cons_of_mem _ fl_RX7_31)) (fun _ h9 => h9) rfl dX7_readBlock_68 ?_
      refine lv_iload_n hx hb dX7_readBlock_71 rfl (lv_at hl 2 rfl) ?_
      obtain ⟨v72, h72, hF⟩ := bd hF
      refine rI hx hb hK.1 hP 8 0 (at_M_8 cI cS _ _) rfl h72 dX7_readBlock_72 ?_
      refine lv_bipush (v := (-9)) hx hb dX7_readBlock_73 (by decide) ?_
      refine lv_icmp_ne (tgt := 80) hx hb dX7_readBlock_75 (by decide) (fun c75 => ?_) (fun c75 => ?_)
      · replace hF := iq c75 hF
        refine lv_aload_n hx hb dX7_readBlock_80 rfl (lv_at hl 0 rfl) ?_
        refine lv_dup hx hb dX7_readBlock_81 rfl ?_
        refine va_get (D := D) (ci := 6) (v := .int (s0_66 0 6)) (C := RX7) (T := TX7) (N := 29) hx hb hts (fun w h => List.mem_cons_of_mem _ (inAX7 w h)) hown hK.1 hP 0 (at_M_0 cI cS _ _) rfl 13 (by decide) (hts _ (List.mem_cons_of_mem _ fl_RX7_68)) (fun _ h9 => h9) rfl dX7_readBlock_82 ?_
        refine lv_iconst (v := 1) hx hb dX7_readBlock_85 (by decide) ?_
        refine lv_iadd hx hb dX7_readBlock_86 ?_
        refine wF (ws' := pM cI cS a0 (st (st s0_66 8 k66 z0_66) 0 6 ((s0_66 0 6) + 1))) (C := RX7) (T := TX7) (N := 29) hx hb hts (fun w h => List.mem_cons_of_mem _ (inAX7 w h)) tyX7 tyX7_ok nmX7 hown hK.1 hP hD hS 0 (at_M_0 cI cS _ _) rfl 13 (by decide) (hts _ (List.mem_cons_of_mem _ fl_RX7_68)) rfl (tyX7_ok 13 (by decide)) rfl rfl (Nat.le_of_ble_eq_true rfl) (sf_M_0_13 cI cS _ _ _) dX7_readBlock_87 (fun H locs hP hD hS => ?_)
        refine lv_aload_n hx hb dX7_readBlock_90 rfl (lv_at hl 0 rfl) ?_
        refine lv_iload_n hx hb dX7_readBlock_91 rfl (lv_at hl 1 rfl) ?_
        refine lv_iconst (v := 0) hx hb dX7_readBlock_92 (by decide) ?_
        refine lv_bipush (v := 7) hx hb dX7_readBlock_93 (by decide) ?_
        obtain ⟨v95, u95, h95, hF⟩ := bd2 hF
        refine cAe (ws' := pM cI cS a0 u95) (va_runV (As := [.int x1, .int 0, .int 7]) (rest := []) ⟨hx, hb, hml, hown, hts⟩ (c_X7_digit l D cI cS a0 (st (st s0_66 8 k66 z0_66) 0 6 ((s0_66 0 6) + 1)) x1 0 7 v95 u95 h95) (cwVA hts (TW.cons _) lv_X7_digit ml_RX7_128 ⟨rfl, rfl⟩ ⟨(Nat.le_of_ble_eq_true rfl), (Nat.le_of_ble_eq_true rfl)⟩) (pWV hK hP hD (ci := 6) rfl rfl) rfl rfl hl.1 rfl (lv_room (Nat.le_of_ble_eq_true rfl)) dX7_readBlock_95 ⟨Nat.le_refl _, Nat.le_refl _⟩) hD hS (ad_M cI cS _ _ _) (fun H locs hP hD hS => ?_)
        refine lv_istore (lv' := [(4, .int v95), (0, .ref (a0 0)), (1, .int x1), (3, .int x3_66)]) hx hb dX7_readBlock_98 hl (by decide) rfl (fun ls hl => ?_)
        refine lv_iload hx hb dX7_readBlock_100 (lv_at hl 0 rfl) ?_
        refine lv_bipush (v := (-9)) hx hb dX7_readBlock_102 (by decide) ?_
        refine lv_icmp_ne (tgt := 109) hx hb dX7_readBlock_104 (by decide) (fun c104 => ?_) (fun c104 => ?_)
        · replace hF := iq c104 hF
          refine lv_aload_n hx hb dX7_readBlock_109 rfl (lv_at hl 1 rfl) ?_
          refine lv_iload_n hx hb dX7_readBlock_110 rfl (lv_at hl 2 rfl) ?_
          refine lv_iconst (v := 0) hx hb dX7_readBlock_111 (by decide) ?_
          refine lv_bipush (v := 7) hx hb dX7_readBlock_112 (by decide) ?_
          obtain ⟨v114, u114, h114, hF⟩ := bd2 hF
          refine cAe (ws' := pM cI cS a0 u114) (va_runV (As := [.int x1, .int 0, .int 7]) (rest := []) ⟨hx, hb, hml, hown, hts⟩ (c_X7_digit l D cI cS a0 u95 x1 0 7 v114 u114 h114) (cwVA hts (TW.cons _) lv_X7_digit ml_RX7_128 ⟨rfl, rfl⟩ ⟨(Nat.le_of_ble_eq_true rfl), (Nat.le_of_ble_eq_true rfl)⟩) (pWV hK hP hD (ci := 6) rfl rfl) rfl rfl hl.1 rfl (lv_room (Nat.le_of_ble_eq_true rfl)) dX7_readBlock_114 ⟨Nat.le_refl _, Nat.le_refl _⟩) hD hS (ad_M cI cS _ _ _) (fun H locs hP hD hS => ?_)
          refine lv_istore (lv' := [(5, .int v114), (4, .int v95), (0, .ref (a0 0)), (1, .int x1), (3, .int x3_66)]) hx hb dX7_readBlock_117 hl (by decide) rfl (fun ls hl => ?_)
          refine lv_iload hx hb dX7_readBlock_119 (lv_at hl 0 rfl) ?_
          refine lv_bipush (v := (-9)) hx hb dX7_readBlock_121 (by decide) ?_
          refine lv_icmp_ne (tgt := 128) hx hb dX7_readBlock_123 (by decide) (fun c123 => ?_) (fun c123 => ?_)
          · replace hF := iq c123 hF
            refine lv_aload_n hx hb dX7_readBlock_128 rfl (lv_at hl 2 rfl) ?_
            refine va_get (D := D) (ci := 6) (v := .ref (a0 8)) (C := RX7) (T := TX7) (N := 29) hx hb hts (fun w h => List.mem_cons_of_mem _ (inAX7 w h)) hown hK.1 hP 0 (at_M_0 cI cS _ _) rfl 16 (by decide) (hts _ (List.mem_cons_of_mem _ fl_RX7_31)) (fun _ h9 => h9) rfl dX7_readBlock_129 ?_
            refine lv_iload_n hx hb dX7_readBlock_132 rfl (lv_at hl 4 rfl) ?_
            refine lv_iconst (v := 1) hx hb dX7_readBlock_133 (by decide) ?_
            refine lv_iadd hx hb dX7_readBlock_134 ?_
            refine lv_bipush (v := 8) hx hb dX7_readBlock_135 (by decide) ?_
            refine lv_iload hx hb dX7_readBlock_137 (lv_at hl 1 rfl) ?_
            refine lv_imul hx hb dX7_readBlock_139 ?_
            refine lv_iload hx hb dX7_readBlock_140 (lv_at hl 0 rfl) ?_
            refine lv_iadd hx hb dX7_readBlock_142 ?_
            obtain ⟨k143, h143, hF⟩ := bd hF
            refine wI (ws' := pM cI cS a0 (st u114 8 k143 ((8 * v95) + v114))) hx hb hK.1 hP hD hS 8 0 (at_M_8 cI cS _ _) rfl h143 (sw_M_8 cI cS _ _ _ _) dX7_readBlock_143 (fun H locs hP hD hS => ?_)
            refine lv_aload_n hx hb dX7_readBlock_144 rfl (lv_at hl 2 rfl) ?_
            refine va_get (D := D) (ci := 6) (v := .ref (a0 8)) (C := RX7) (T := TX7) (N := 29) hx hb hts (fun w h => List.mem_cons_of_mem _ (inAX7 w h)) hown hK.1 hP 0 (at_M_0 cI cS _ _) rfl 16 (by decide) (hts _ (List.mem_cons_of_mem _ fl_RX7_31)) (fun _ h9 => h9) rfl dX7_readBlock_145 ?_
            refine lv_iload_n hx hb dX7_readBlock_148 rfl (lv_at hl 4 rfl) ?_
            refine lv_iconst (v := 2) hx hb dX7_readBlock_149 (by decide) ?_
            refine lv_iadd hx hb dX7_readBlock_150 ?_
            refine lv_aload_n hx hb dX7_readBlock_151 rfl (lv_at hl 2 rfl) ?_
            refine lv_iload_n hx hb dX7_readBlock_152 rfl (lv_at hl 3 rfl) ?_
            refine lv_iconst (v := 1) hx hb dX7_readBlock_153 (by decide) ?_
            refine lv_iconst (v := 4) hx hb dX7_readBlock_154 (by decide) ?_
            obtain ⟨v155, u155, h155, hF⟩ := bd2 hF
            refine cAe (ws' := pM cI cS a0 u155) (va_runV (As := [.int x1, .int 1, .int 4]) (rest := [.int (x3_66 + 2), .ref (a0 8)]) ⟨hx, hb, hml, hown, hts⟩ (c_X7_digit l D cI cS a0 (st u114 8 k143 ((8 * v95) + v114)) x1 1 4 v155 u155 h155) (cwVA hts (TW.cons _) lv_X7_digit ml_RX7_128 ⟨rfl, rfl⟩ ⟨(Nat.le_of_ble_eq_true rfl), (Nat.le_of_ble_eq_true rfl)⟩) (pWV hK hP hD (ci := 6) rfl rfl) rfl rfl hl.1 rfl (lv_room (Nat.le_of_ble_eq_true rfl)) dX7_readBlock_155 ⟨Nat.le_refl _, Nat.le_refl _⟩) hD hS (ad_M cI cS _ _ _) (fun H locs hP hD hS => ?_)
            obtain ⟨k158, h158, hF⟩ := bd hF
            refine wI (ws' := pM cI cS a0 (st u155 8 k158 v155)) hx hb hK.1 hP hD hS 8 0 (at_M_8 cI cS _ _) rfl h158 (sw_M_8 cI cS _ _ _ _) dX7_readBlock_158 (fun H locs hP hD hS => ?_)
            refine lv_aload_n hx hb dX7_readBlock_159 rfl (lv_at hl 2 rfl) ?_
            refine lv_dup hx hb dX7_readBlock_160 rfl ?_
            refine va_get (D := D) (ci := 6) (v := .int (u155 0 8)) (C := RX7) (T := TX7) (N := 29) hx hb hts (fun w h => List.mem_cons_of_mem _ (inAX7 w h)) hown hK.1 hP 0 (at_M_0 cI cS _ _) rfl 15 (by decide) (hts _ (List.mem_cons_of_mem _ fl_RX7_99)) (fun _ h9 => h9) rfl dX7_readBlock_161 ?_
            refine lv_iconst (v := 1) hx hb dX7_readBlock_164 (by decide) ?_
            refine lv_iadd hx hb dX7_readBlock_165 ?_
            refine wF (ws' := pM cI cS a0 (st (st u155 8 k158 v155) 0 8 ((u155 0 8) + 1))) (C := RX7) (T := TX7) (N := 29) hx hb hts (fun w h => List.mem_cons_of_mem _ (inAX7 w h)) tyX7 tyX7_ok nmX7 hown hK.1 hP hD hS 0 (at_M_0 cI cS _ _) rfl 15 (by decide) (hts _ (List.mem_cons_of_mem _ fl_RX7_99)) rfl (tyX7_ok 15 (by decide)) rfl rfl (Nat.le_of_ble_eq_true rfl) (sf_M_0_15 cI cS _ _ _) dX7_readBlock_166 (fun H locs hP hD hS => ?_)
            refine lv_aload_n hx hb dX7_readBlock_169 rfl (lv_at hl 2 rfl) ?_
            refine va_get (D := D) (ci := 6) (v := .ref (a0 8)) (C := RX7) (T := TX7) (N := 29) hx hb hts (fun w h => List.mem_cons_of_mem _ (inAX7 w h)) hown hK.1 hP 0 (at_M_0 cI cS _ _) rfl 16 (by decide) (hts _ (List.mem_cons_of_mem _ fl_RX7_31)) (fun _ h9 => h9) rfl dX7_readBlock_170 ?_
            refine lv_iload_n hx hb dX7_readBlock_173 rfl (lv_at hl 4 rfl) ?_
            refine lv_iconst (v := 2) hx hb dX7_readBlock_174 (by decide) ?_
            refine lv_iadd hx hb dX7_readBlock_175 ?_
            obtain ⟨v176, h176, hF⟩ := bd hF
            refine rI hx hb hK.1 hP 8 0 (at_M_8 cI cS _ _) rfl h176 dX7_readBlock_176 ?_
            refine lv_bipush (v := (-9)) hx hb dX7_readBlock_177 (by decide) ?_
            refine lv_icmp_eq (tgt := 186) hx hb dX7_readBlock_179 (by decide) (fun c179 => ?_) (fun c179 => ?_)
            · replace hF := ip c179 hF
              refine lv_iconst (v := 0) hx hb dX7_readBlock_186 (by decide) ?_
              exact W.zret hx hb hr rfl (fun t ht hW => ⟨⟨_, (), rfl, ⟨(Prod.mk.inj (Option.some.inj hF)).1, Or.inl rfl⟩, by show va_P _ _ _ t.heap; rw [ht, ← (Prod.mk.inj (Option.some.inj hF)).2]; exact hP⟩, hS.F ht⟩) hS.2.2 dX7_readBlock_187
            · replace hF := iq c179 hF
              refine lv_iconst (v := 1) hx hb dX7_readBlock_182 (by decide) ?_
              refine lv_goto (tgt := 187) hx hb dX7_readBlock_183 (by decide) ?_
              exact W.zret hx hb hr rfl (fun t ht hW => ⟨⟨_, (), rfl, ⟨(Prod.mk.inj (Option.some.inj hF)).1, Or.inr rfl⟩, by show va_P _ _ _ t.heap; rw [ht, ← (Prod.mk.inj (Option.some.inj hF)).2]; exact hP⟩, hS.F ht⟩) hS.2.2 dX7_readBlock_187
          · replace hF := ip c123 hF
            refine lv_iconst (v := 0) hx hb dX7_readBlock_126 (by decide) ?_
            exact W.zret hx hb hr rfl (fun t ht hW => ⟨⟨_, (), rfl, ⟨(Prod.mk.inj (Option.some.inj hF)).1, Or.inl rfl⟩, by show va_P _ _ _ t.heap; rw [ht, ← (Prod.mk.inj (Option.some.inj hF)).2]; exact hP⟩, hS.F ht⟩) hS.2.2 dX7_readBlock_127
        · replace hF := ip c104 hF
          refine lv_iconst (v := 0) hx hb dX7_readBlock_107 (by decide) ?_
          exact W.zret hx hb hr rfl (fun t ht hW => ⟨⟨_, (), rfl, ⟨(Prod.mk.inj (Option.some.inj hF)).1, Or.inl rfl⟩, by show va_P _ _ _ t.heap; rw [ht, ← (Prod.mk.inj (Option.some.inj hF)).2]; exact hP⟩, hS.F ht⟩) hS.2.2 dX7_readBlock_108
      · replace hF := ip c75 hF
        refine lv_iconst (v := 0) hx hb dX7_readBlock_78 (by decide) ?_
        exact W.zret hx hb hr rfl (fun t ht hW => ⟨⟨_, (), rfl, ⟨(Prod.mk.inj (Option.some.inj hF)).1, Or.inl rfl⟩, by show va_P _ _ _ t.heap; rw [ht, ← (Prod.mk.inj (Option.some.inj hF)).2]; exact hP⟩, hS.F ht⟩) hS.2.2 dX7_readBlock_79
    refine lv_icmp_ne (tgt := 44) hx hb dX7_readBlock_37 (by decide) (fun c37 => ?_) (fun c37 => ?_)
    · replace hF := iq c37 hF
      refine lv_iload_n hx hb dX7_readBlock_44 rfl (lv_at hl 1 rfl) ?_
      refine lv_bipush (v := 110) hx hb dX7_readBlock_45 (by decide) ?_
      refine lv_icmp_ne (tgt := 54) hx hb dX7_readBlock_47 (by decide) (fun c47 => ?_) (fun c47 => ?_)
      · replace hF := iq c47 hF
        refine lv_iload_n hx hb dX7_readBlock_54 rfl (lv_at hl 1 rfl) ?_
        refine lv_bipush (v := 104) hx hb dX7_readBlock_55 (by decide) ?_
        refine lv_icmp_ne (tgt := 64) hx hb dX7_readBlock_57 (by decide) (fun c57 => ?_) (fun c57 => ?_)
        · replace hF := iq c57 hF
          refine lv_bipush (v := (-9)) hx hb dX7_readBlock_64 (by decide) ?_
          exact J66 (3 * (s0_21 0 8)) s0_21 (-9) (3 * (s0_21 0 8)) _ _ _ hP hD hS (lv_sub hl [2, 3, 0] rfl) hF
        · replace hF := ip c57 hF
          refine lv_iconst (v := 2) hx hb dX7_readBlock_60 (by decide) ?_
          refine lv_goto (tgt := 66) hx hb dX7_readBlock_61 (by decide) ?_
          exact J66 (3 * (s0_21 0 8)) s0_21 2 (3 * (s0_21 0 8)) _ _ _ hP hD hS (lv_sub hl [2, 3, 0] rfl) hF
      · replace hF := ip c47 hF
        refine lv_iconst (v := 1) hx hb dX7_readBlock_50 (by decide) ?_
        refine lv_goto (tgt := 66) hx hb dX7_readBlock_51 (by decide) ?_
        exact J66 (3 * (s0_21 0 8)) s0_21 1 (3 * (s0_21 0 8)) _ _ _ hP hD hS (lv_sub hl [2, 3, 0] rfl) hF
    · replace hF := ip c37 hF
      refine lv_iconst (v := 0) hx hb dX7_readBlock_40 (by decide) ?_
      refine lv_goto (tgt := 66) hx hb dX7_readBlock_41 (by decide) ?_
      exact J66 (3 * (s0_21 0 8)) s0_21 0 (3 * (s0_21 0 8)) _ _ _ hP hD hS (lv_sub hl [2, 3, 0] rfl) hF
  refine lv_icmp_ge (tgt := 20) hx hb dX7_readBlock_5 (by decide) (fun c5 => ?_) (fun c5 => ?_)
  · replace hF := ip c5 hF
    refine lv_iconst (v := 0) hx hb dX7_readBlock_20 (by decide) ?_
    exact J21 t0 0 _ _ _ hP hD hS (lv_sub hl [0, 1] rfl) hF
  · replace hF := iq c5 hF
    refine lv_aload_n hx hb dX7_readBlock_8 rfl (lv_at hl 0 rfl) ?_
    refine va_get (D := D) (ci := 6) (v := .ref (a0 3)) (C := RX7) (T := TX7) (N := 29) hx hb hts (fun w h => List.mem_cons_of_mem _ (inAX7 w h)) hown hK.1 hP 0 (at_M_0 cI cS _ _) rfl 4 (by decide) (hts _ (List.mem_cons_of_mem _ fl_RX7_16)) (fun _ h9 => h9) rfl dX7_readBlock_9 ?_
    refine lv_aload_n hx hb dX7_readBlock_12 rfl (lv_at hl 0 rfl) ?_
    refine va_get (D := D) (ci := 6) (v := .int (t0 0 6)) (C := RX7) (T := TX7) (N := 29) hx hb hts (fun w h => List.mem_cons_of_mem _ (inAX7 w h)) hown hK.1 hP 0 (at_M_0 cI cS _ _) rfl 13 (by decide) (hts _ (List.mem_cons_of_mem _ fl_RX7_68)) (fun _ h9 => h9) rfl dX7_readBlock_13 ?_
    obtain ⟨v16, h16, hF⟩ := bd hF
    refine rI hx hb hK.1 hP 3 0 (at_M_3 cI cS _ _) rfl h16 dX7_readBlock_16 ?_
    refine lv_goto (tgt := 21) hx hb dX7_readBlock_17 (by decide) ?_
    exact J21 t0 v16 _ _ _ hP hD hS (lv_sub hl [0, 1] rfl) hF
noncomputable def F_X7_readGarden_J49 (x1 : Int32) (g k : ST → Option (Int32 × ST)) (s0 : ST) : Option (Int32 × ST) :=
  b2 (F_X7_isSign s0 x1 59) fun v53 u53 =>
  if v53 = 0 then
    some (0, u53)
  else
  b2 (F_X7_readBlock u53 x1) fun v61 u61 =>
  if v61 = 0 then
    some (0, u61)
  else
  g u61
noncomputable def F_X7_readGarden_L25 (x1 : Int32) (k : ST → Option (Int32 × ST)) : Nat → ST → Option (Int32 × ST)
  | 0, _ => none
  | n + 1, s0 =>
    if (s0 0 8) = 0 then
      F_X7_readGarden_J49 x1 (F_X7_readGarden_L25 x1 k n) k s0
    else
    if 6 ≤ (s0 0 8) then
      k s0
    else
    if x1 ≤ (s0 0 6) then
      k s0
    else
    F_X7_readGarden_J49 x1 (F_X7_readGarden_L25 x1 k n) k s0
noncomputable def F_X7_readGarden_J69 (x1 : Int32) (s0 : ST) : Option (Int32 × ST) :=
  if (s0 0 6) = x1 then
    some (1, s0)
  else
  some (0, s0)
noncomputable def F_X7_readGarden (t0 : ST) (x1 : Int32) : Option (Int32 × ST) :=
  b2 (F_X7_isSign (st t0 0 8 0) x1 103) fun v9 u9 =>
  if v9 = 0 then
    some (0, u9)
  else
  b2 (F_X7_readTheLaw u9 x1) fun v17 u17 =>
  if v17 = 0 then
    some (0, u17)
  else
  F_X7_readGarden_L25 x1 (fun s0_k25 => F_X7_readGarden_J69 x1 s0_k25) 1000 u17
abbrev rm_X7_readGarden : Room := { frames := 3, cells := 0, slots := 0, locals := 70 }
set_option maxHeartbeats 4000000 in
set_option maxRecDepth 100000 in
theorem c_X7_readGarden (l : Launch) (D : va_G) (cI cS : ClassId) (a0 : Nat → Nat) (t0 : ST) (x1 : Int32) (r : Int32) (t' : ST) (hF : F_X7_readGarden t0 x1 = some (r, t')) : Met l yX7_readGarden (Cond.code yX7_readGarden cX7_readGarden 2 (some .boolean) :: ALL) rm_X7_readGarden (PreW D cI cS [.ref (a0 0), .int x1] (pM cI cS a0 t0)) (va_Qi (fun x (_ : Unit) => x = r ∧ (x = 0 ∨ x = 1)) (fun _ t => va_P D vwCl (pM cI cS a0 t') t.heap) (AD (pM cI cS a0 t0))) 0 0 (AD (pM cI cS a0 t0)) := by
  refine mW l D cI cS (by decide) (Nat.le_of_ble_eq_true rfl) ?_
  intro p e s m below meth c ls hx hb hr hml hown hts hlocks hP hK hD hS hl
  have hown : s.vm.findClass RX7 = some m.cls := hown
  have hl : lv_has ls 2 [(0, .ref (a0 0)), (1, .int x1)] := hl
  unfold F_X7_readGarden at hF
  refine lv_aload_n hx hb dX7_readGarden_0 rfl (lv_at hl 0 rfl) ?_
  refine lv_iconst (v := 0) hx hb dX7_readGarden_1 (by decide) ?_
  refine wF (ws' := pM cI cS a0 (st t0 0 8 0)) (C := RX7) (T := TX7) (N := 29) hx hb hts (fun w h => List.mem_cons_of_mem _ (inAX7 w h)) tyX7 tyX7_ok nmX7 hown hK.1 hP hD hS 0 (at_M_0 cI cS _ _) rfl 15 (by decide) (hts _ (List.mem_cons_of_mem _ fl_RX7_99)) rfl (tyX7_ok 15 (by decide)) rfl rfl (Nat.le_of_ble_eq_true rfl) (sf_M_0_15 cI cS _ _ _) dX7_readGarden_2 (fun H locs hP hD hS => ?_)
  refine lv_aload_n hx hb dX7_readGarden_5 rfl (lv_at hl 0 rfl) ?_
  refine lv_iload_n hx hb dX7_readGarden_6 rfl (lv_at hl 1 rfl) ?_
  refine lv_bipush (v := 103) hx hb dX7_readGarden_7 (by decide) ?_
  obtain ⟨v9, u9, h9, hF⟩ := bd2 hF
  refine cAb (ws' := pM cI cS a0 u9) (va_runV (As := [.int x1, .int 103]) (rest := []) ⟨hx, hb, hml, hown, hts⟩ (c_X7_isSign l D cI cS a0 (st t0 0 8 0) x1 103 v9 u9 h9) (cwVA hts (TW.cons _) lv_X7_isSign ml_RX7_118 ⟨rfl, rfl⟩ ⟨(Nat.le_of_ble_eq_true rfl), (Nat.le_of_ble_eq_true rfl)⟩) (pWV hK hP hD (ci := 6) rfl rfl) rfl rfl hl.1 rfl (lv_room (Nat.le_of_ble_eq_true rfl)) dX7_readGarden_9 ⟨Nat.le_refl _, Nat.le_refl _⟩) hD hS (ad_M cI cS _ _ _) (fun b9 H locs hP hD hS => ?_)
  refine lv_if_eq (tgt := 23) hx hb dX7_readGarden_12 (by decide) (fun c12 => ?_) (fun c12 => ?_)
  · replace hF := ip c12 hF
    refine lv_iconst (v := 0) hx hb dX7_readGarden_23 (by decide) ?_
    exact W.zret hx hb hr rfl (fun t ht hW => ⟨⟨_, (), rfl, ⟨(Prod.mk.inj (Option.some.inj hF)).1, Or.inl rfl⟩, by show va_P _ _ _ t.heap; rw [ht, ← (Prod.mk.inj (Option.some.inj hF)).2]; exact hP⟩, hS.F ht⟩) hS.2.2 dX7_readGarden_24
  · replace hF := iq c12 hF
    refine lv_aload_n hx hb dX7_readGarden_15 rfl (lv_at hl 0 rfl) ?_
    refine lv_iload_n hx hb dX7_readGarden_16 rfl (lv_at hl 1 rfl) ?_
    obtain ⟨v17, u17, h17, hF⟩ := bd2 hF
    refine cAb (ws' := pM cI cS a0 u17) (va_runV (As := [.int x1]) (rest := []) ⟨hx, hb, hml, hown, hts⟩ (c_X7_readTheLaw l D cI cS a0 u9 x1 v17 u17 h17) (cwVA hts (TW.cons _) lv_X7_readTheLaw ml_RX7_122 ⟨rfl, rfl⟩ ⟨(Nat.le_of_ble_eq_true rfl), (Nat.le_of_ble_eq_true rfl)⟩) (pWV hK hP hD (ci := 6) rfl rfl) rfl rfl hl.1 rfl (lv_room (Nat.le_of_ble_eq_true rfl)) dX7_readGarden_17 ⟨Nat.le_refl _, Nat.le_refl _⟩) hD hS (ad_M cI cS _ _ _) (fun b17 H locs hP hD hS => ?_)
    refine lv_if_ne (tgt := 25) hx hb dX7_readGarden_20 (by decide) (fun c20 => ?_) (fun c20 => ?_)
    · replace hF := iq c20 hF
      have L25 : ∀ (n_25 : Nat) (s0_25 : ST) (H : Heap) (locs : List Loc) (ls : Array Slot), va_P D vwCl (pM cI cS a0 s0_25) H → va_D (AD (pM cI cS a0 t0)) (pM cI cS a0 s0_25) → va_S (AD (pM cI cS a0 t0)) s.heap H locs → lv_has ls 2 [(0, .ref (a0 0)), (1, .int x1)] → F_X7_readGarden_L25 x1 (fun s0_k25 => F_X7_readGarden_J69 x1 s0_k25) n_25 s0_25 = some (r, t') → W p l e rm_X7_readGarden s m [.ref (a0 0), .int x1].toArray below meth c H locs 0 0 (MQ below (va_Qi (fun x (_ : Unit) => x = r ∧ (x = 0 ∨ x = 1)) (fun _ t => va_P D vwCl (pM cI cS a0 t') t.heap) (AD (pM cI cS a0 t0))) [.ref (a0 0), .int x1].toArray s 0 0 (AD (pM cI cS a0 t0))) (F0 m 25 ls []) := by
        intro n_25
        induction n_25 with
        | zero => intro s0_25 H locs ls hP hD hS hl hF; exact nomatch hF
        | succ n_25 ih25 =>
          intro s0_25 H locs ls hP hD hS hl hF
          rw [F_X7_readGarden_L25.eq_2] at hF
          refine lv_aload_n hx hb dX7_readGarden_25 rfl (lv_at hl 0 rfl) ?_
          refine va_get (D := D) (ci := 6) (v := .int (s0_25 0 8)) (C := RX7) (T := TX7) (N := 29) hx hb hts (fun w h => List.mem_cons_of_mem _ (inAX7 w h)) hown hK.1 hP 0 (at_M_0 cI cS _ _) rfl 15 (by decide) (hts _ (List.mem_cons_of_mem _ fl_RX7_99)) (fun _ h9 => h9) rfl dX7_readGarden_26 ?_
          have J49 : ∀ (s0_49 : ST) (H : Heap) (locs : List Loc) (ls : Array Slot), va_P D vwCl (pM cI cS a0 s0_49) H → va_D (AD (pM cI cS a0 t0)) (pM cI cS a0 s0_49) → va_S (AD (pM cI cS a0 t0)) s.heap H locs → lv_has ls 2 [(0, .ref (a0 0)), (1, .int x1)] → F_X7_readGarden_J49 x1 (F_X7_readGarden_L25 x1 (fun s0_k25 => F_X7_readGarden_J69 x1 s0_k25) n_25) (fun s0_k25 => F_X7_readGarden_J69 x1 s0_k25) s0_49 = some (r, t') → W p l e rm_X7_readGarden s m [.ref (a0 0), .int x1].toArray below meth c H locs 0 0 (MQ below (va_Qi (fun x (_ : Unit) => x = r ∧ (x = 0 ∨ x = 1)) (fun _ t => va_P D vwCl (pM cI cS a0 t') t.heap) (AD (pM cI cS a0 t0))) [.ref (a0 0), .int x1].toArray s 0 0 (AD (pM cI cS a0 t0))) (F0 m 49 ls []) := by
            intro s0_49 H locs ls hP hD hS hl hF
            unfold F_X7_readGarden_J49 at hF
            refine lv_aload_n hx hb dX7_readGarden_49 rfl (lv_at hl 0 rfl) ?_
            refine lv_iload_n hx hb dX7_readGarden_50 rfl (lv_at hl 1 rfl) ?_
            refine lv_bipush (v := 59) hx hb dX7_readGarden_51 (by decide) ?_
            obtain ⟨v53, u53, h53, hF⟩ := bd2 hF
            refine cAb (ws' := pM cI cS a0 u53) (va_runV (As := [.int x1, .int 59]) (rest := []) ⟨hx, hb, hml, hown, hts⟩ (c_X7_isSign l D cI cS a0 s0_49 x1 59 v53 u53 h53) (cwVA hts (TW.cons _) lv_X7_isSign ml_RX7_118 ⟨rfl, rfl⟩ ⟨(Nat.le_of_ble_eq_true rfl), (Nat.le_of_ble_eq_true rfl)⟩) (pWV hK hP hD (ci := 6) rfl rfl) rfl rfl hl.1 rfl (lv_room (Nat.le_of_ble_eq_true rfl)) dX7_readGarden_53 ⟨Nat.le_refl _, Nat.le_refl _⟩) hD hS (ad_M cI cS _ _ _) (fun b53 H locs hP hD hS => ?_)
            refine lv_if_eq (tgt := 67) hx hb dX7_readGarden_56 (by decide) (fun c56 => ?_) (fun c56 => ?_)
            · replace hF := ip c56 hF
              refine lv_iconst (v := 0) hx hb dX7_readGarden_67 (by decide) ?_
              exact W.zret hx hb hr rfl (fun t ht hW => ⟨⟨_, (), rfl, ⟨(Prod.mk.inj (Option.some.inj hF)).1, Or.inl rfl⟩, by show va_P _ _ _ t.heap; rw [ht, ← (Prod.mk.inj (Option.some.inj hF)).2]; exact hP⟩, hS.F ht⟩) hS.2.2 dX7_readGarden_68
            · replace hF := iq c56 hF
              refine lv_aload_n hx hb dX7_readGarden_59 rfl (lv_at hl 0 rfl) ?_
              refine lv_iload_n hx hb dX7_readGarden_60 rfl (lv_at hl 1 rfl) ?_
              obtain ⟨v61, u61, h61, hF⟩ := bd2 hF
              refine cAb (ws' := pM cI cS a0 u61) (va_runV (As := [.int x1]) (rest := []) ⟨hx, hb, hml, hown, hts⟩ (c_X7_readBlock l D cI cS a0 u53 x1 v61 u61 h61) (cwVA hts (TW.cons _) lv_X7_readBlock ml_RX7_125 ⟨rfl, rfl⟩ ⟨(Nat.le_of_ble_eq_true rfl), (Nat.le_of_ble_eq_true rfl)⟩) (pWV hK hP hD (ci := 6) rfl rfl) rfl rfl hl.1 rfl (lv_room (Nat.le_of_ble_eq_true rfl)) dX7_readGarden_61 ⟨Nat.le_refl _, Nat.le_refl _⟩) hD hS (ad_M cI cS _ _ _) (fun b61 H locs hP hD hS => ?_)
              refine lv_if_ne (tgt := 25) hx hb dX7_readGarden_64 (by decide) (fun c64 => ?_) (fun c64 => ?_)
              · replace hF := iq c64 hF
                exact ih25 u61 _ _ _ hP hD hS (lv_sub hl [0, 1] rfl) hF
              · replace hF := ip c64 hF
                refine lv_iconst (v := 0) hx hb dX7_readGarden_67 (by decide) ?_
                exact W.zret hx hb hr rfl (fun t ht hW => ⟨⟨_, (), rfl, ⟨(Prod.mk.inj (Option.some.inj hF)).1, Or.inl rfl⟩, by show va_P _ _ _ t.heap; rw [ht, ← (Prod.mk.inj (Option.some.inj hF)).2]; exact hP⟩, hS.F ht⟩) hS.2.2 dX7_readGarden_68
          refine lv_if_eq (tgt := 49) hx hb dX7_readGarden_29 (by decide) (fun c29 => ?_) (fun c29 => ?_)
          · replace hF := ip c29 hF
            exact J49 s0_25 _ _ _ hP hD hS (lv_sub hl [0, 1] rfl) hF
          · replace hF := iq c29 hF
            refine lv_aload_n hx hb dX7_readGarden_32 rfl (lv_at hl 0 rfl) ?_
            refine va_get (D := D) (ci := 6) (v := .int (s0_25 0 8)) (C := RX7) (T := TX7) (N := 29) hx hb hts (fun w h => List.mem_cons_of_mem _ (inAX7 w h)) hown hK.1 hP 0 (at_M_0 cI cS _ _) rfl 15 (by decide) (hts _ (List.mem_cons_of_mem _ fl_RX7_99)) (fun _ h9 => h9) rfl dX7_readGarden_33 ?_
            refine lv_bipush (v := 6) hx hb dX7_readGarden_36 (by decide) ?_
            refine lv_icmp_ge (tgt := 69) hx hb dX7_readGarden_38 (by decide) (fun c38 => ?_) (fun c38 => ?_)
            · replace hF := ip c38 hF
              have hF : F_X7_readGarden_J69 x1 s0_25 = some (r, t') := hF
              unfold F_X7_readGarden_J69 at hF
              refine lv_aload_n hx hb dX7_readGarden_69 rfl (lv_at hl 0 rfl) ?_
              refine va_get (D := D) (ci := 6) (v := .int (s0_25 0 6)) (C := RX7) (T := TX7) (N := 29) hx hb hts (fun w h => List.mem_cons_of_mem _ (inAX7 w h)) hown hK.1 hP 0 (at_M_0 cI cS _ _) rfl 13 (by decide) (hts _ (List.mem_cons_of_mem _ fl_RX7_68)) (fun _ h9 => h9) rfl dX7_readGarden_70 ?_
              refine lv_iload_n hx hb dX7_readGarden_73 rfl (lv_at hl 1 rfl) ?_
              refine lv_icmp_ne (tgt := 81) hx hb dX7_readGarden_74 (by decide) (fun c74 => ?_) (fun c74 => ?_)
              · replace hF := iq c74 hF
                refine lv_iconst (v := 0) hx hb dX7_readGarden_81 (by decide) ?_
                exact W.zret hx hb hr rfl (fun t ht hW => ⟨⟨_, (), rfl, ⟨(Prod.mk.inj (Option.some.inj hF)).1, Or.inl rfl⟩, by show va_P _ _ _ t.heap; rw [ht, ← (Prod.mk.inj (Option.some.inj hF)).2]; exact hP⟩, hS.F ht⟩) hS.2.2 dX7_readGarden_82
              · replace hF := ip c74 hF
                refine lv_iconst (v := 1) hx hb dX7_readGarden_77 (by decide) ?_
                refine lv_goto (tgt := 82) hx hb dX7_readGarden_78 (by decide) ?_
                exact W.zret hx hb hr rfl (fun t ht hW => ⟨⟨_, (), rfl, ⟨(Prod.mk.inj (Option.some.inj hF)).1, Or.inr rfl⟩, by show va_P _ _ _ t.heap; rw [ht, ← (Prod.mk.inj (Option.some.inj hF)).2]; exact hP⟩, hS.F ht⟩) hS.2.2 dX7_readGarden_82
            · replace hF := iq c38 hF
              refine lv_aload_n hx hb dX7_readGarden_41 rfl (lv_at hl 0 rfl) ?_
              refine va_get (D := D) (ci := 6) (v := .int (s0_25 0 6)) (C := RX7) (T := TX7) (N := 29) hx hb hts (fun w h => List.mem_cons_of_mem _ (inAX7 w h)) hown hK.1 hP 0 (at_M_0 cI cS _ _) rfl 13 (by decide) (hts _ (List.mem_cons_of_mem _ fl_RX7_68)) (fun _ h9 => h9) rfl dX7_readGarden_42 ?_
              refine lv_iload_n hx hb dX7_readGarden_45 rfl (lv_at hl 1 rfl) ?_
              refine lv_icmp_ge (tgt := 69) hx hb dX7_readGarden_46 (by decide) (fun c46 => ?_) (fun c46 => ?_)
              · replace hF := ip c46 hF
                have hF : F_X7_readGarden_J69 x1 s0_25 = some (r, t') := hF
                unfold F_X7_readGarden_J69 at hF
                refine lv_aload_n hx hb dX7_readGarden_69 rfl (lv_at hl 0 rfl) ?_
                refine va_get (D := D) (ci := 6) (v := .int (s0_25 0 6)) (C := RX7) (T := TX7) (N := 29) hx hb hts (fun w h => List.mem_cons_of_mem _ (inAX7 w h)) hown hK.1 hP 0 (at_M_0 cI cS _ _) rfl 13 (by decide) (hts _ (List.mem_cons_of_mem _ fl_RX7_68)) (fun _ h9 => h9) rfl dX7_readGarden_70 ?_
                refine lv_iload_n hx hb dX7_readGarden_73 rfl (lv_at hl 1 rfl) ?_
                refine lv_icmp_ne (tgt := 81) hx hb dX7_readGarden_74 (by decide) (fun c74 => ?_) (fun c74 => ?_)
                · replace hF := iq c74 hF
                  refine lv_iconst (v := 0) hx hb dX7_readGarden_81 (by decide) ?_
                  exact W.zret hx hb hr rfl (fun t ht hW => ⟨⟨_, (), rfl, ⟨(Prod.mk.inj (Option.some.inj hF)).1, Or.inl rfl⟩, by show va_P _ _ _ t.heap; rw [ht, ← (Prod.mk.inj (Option.some.inj hF)).2]; exact hP⟩, hS.F ht⟩) hS.2.2 dX7_readGarden_82
                · replace hF := ip c74 hF
                  refine lv_iconst (v := 1) hx hb dX7_readGarden_77 (by decide) ?_
                  refine lv_goto (tgt := 82) hx hb dX7_readGarden_78 (by decide) ?_
                  exact W.zret hx hb hr rfl (fun t ht hW => ⟨⟨_, (), rfl, ⟨(Prod.mk.inj (Option.some.inj hF)).1, Or.inr rfl⟩, by show va_P _ _ _ t.heap; rw [ht, ← (Prod.mk.inj (Option.some.inj hF)).2]; exact hP⟩, hS.F ht⟩) hS.2.2 dX7_readGarden_82
              · replace hF := iq c46 hF
                exact J49 s0_25 _ _ _ hP hD hS (lv_sub hl [0, 1] rfl) hF
      exact L25 1000 u17 _ _ _ hP hD hS (lv_sub hl [0, 1] rfl) hF
    · replace hF := ip c20 hF
      refine lv_iconst (v := 0) hx hb dX7_readGarden_23 (by decide) ?_
      exact W.zret hx hb hr rfl (fun t ht hW => ⟨⟨_, (), rfl, ⟨(Prod.mk.inj (Option.some.inj hF)).1, Or.inl rfl⟩, by show va_P _ _ _ t.heap; rw [ht, ← (Prod.mk.inj (Option.some.inj hF)).2]; exact hP⟩, hS.F ht⟩) hS.2.2 dX7_readGarden_24
noncomputable def F_X7_bitFor (x0 : Int32) (x1 : Int32) : Option Int32 :=
  some (((4 * ((x0 >>> (((x1 + 1) - (x1 + 1) / 6 * 6) &&& 31)) &&& 1)) + (2 * ((x0 >>> (x1 &&& 31)) &&& 1))) + ((x0 >>> ((((x1 + 6) - 1) - ((x1 + 6) - 1) / 6 * 6) &&& 31)) &&& 1))
abbrev rm_X7_bitFor : Room := { frames := 0, cells := 0, slots := 0, locals := 0 }
set_option maxHeartbeats 4000000 in
set_option maxRecDepth 100000 in
theorem c_X7_bitFor (l : Launch) (D : va_G) (cI cS : ClassId) (x0 : Int32) (x1 : Int32) (r : Int32) (hF : F_X7_bitFor x0 x1 = some r) : Met l yX7_bitFor (Cond.code yX7_bitFor cX7_bitFor 4 (some .int) :: ALL) rm_X7_bitFor (PreR D cI cS [.int x0, .int x1] ([])) (vp_Si (fun x => x = r)) 0 0 (fun _ => False) := by
  refine mR l D cI cS (by decide) (Nat.le_of_ble_eq_true rfl) ?_
  intro p e s m below meth c ls hx hb hr hml hown hts hlocks hP hK hl
  have hown : s.vm.findClass RX7 = some m.cls := hown
  have hl : lv_has ls 4 [(0, .int x0), (1, .int x1)] := hl
  unfold F_X7_bitFor at hF
  refine lv_iload_n hx hb dX7_bitFor_0 rfl (lv_at hl 0 rfl) ?_
  refine lv_iload_n hx hb dX7_bitFor_1 rfl (lv_at hl 1 rfl) ?_
  refine lv_iconst (v := 1) hx hb dX7_bitFor_2 (by decide) ?_
  refine lv_iadd hx hb dX7_bitFor_3 ?_
  refine lv_bipush (v := 6) hx hb dX7_bitFor_4 (by decide) ?_
  refine lv_irem hx hb dX7_bitFor_6 (by decide) ?_
  refine lv_ishr hx hb dX7_bitFor_7 ?_
  refine lv_iconst (v := 1) hx hb dX7_bitFor_8 (by decide) ?_
  refine lv_iand hx hb dX7_bitFor_9 ?_
  refine lv_istore_n (lv' := [(2, .int ((x0 >>> (((x1 + 1) - (x1 + 1) / 6 * 6) &&& 31)) &&& 1)), (0, .int x0), (1, .int x1)]) hx hb dX7_bitFor_10 rfl hl (by decide) rfl (fun ls hl => ?_)
  refine lv_iload_n hx hb dX7_bitFor_11 rfl (lv_at hl 1 rfl) ?_
  refine lv_iload_n hx hb dX7_bitFor_12 rfl (lv_at hl 2 rfl) ?_
  refine lv_bipush (v := 6) hx hb dX7_bitFor_13 (by decide) ?_
  refine lv_iadd hx hb dX7_bitFor_15 ?_
  refine lv_iconst (v := 1) hx hb dX7_bitFor_16 (by decide) ?_
  refine lv_isub hx hb dX7_bitFor_17 ?_
  refine lv_bipush (v := 6) hx hb dX7_bitFor_18 (by decide) ?_
  refine lv_irem hx hb dX7_bitFor_20 (by decide) ?_
  refine lv_ishr hx hb dX7_bitFor_21 ?_
  refine lv_iconst (v := 1) hx hb dX7_bitFor_22 (by decide) ?_
  refine lv_iand hx hb dX7_bitFor_23 ?_
  refine lv_istore_n (lv' := [(3, .int ((x0 >>> ((((x1 + 6) - 1) - ((x1 + 6) - 1) / 6 * 6) &&& 31)) &&& 1)), (2, .int ((x0 >>> (((x1 + 1) - (x1 + 1) / 6 * 6) &&& 31)) &&& 1)), (0, .int x0), (1, .int x1)]) hx hb dX7_bitFor_24 rfl hl (by decide) rfl (fun ls hl => ?_)
  refine lv_iconst (v := 4) hx hb dX7_bitFor_25 (by decide) ?_
  refine lv_iload_n hx hb dX7_bitFor_26 rfl (lv_at hl 1 rfl) ?_
  refine lv_imul hx hb dX7_bitFor_27 ?_
  refine lv_iconst (v := 2) hx hb dX7_bitFor_28 (by decide) ?_
  refine lv_iload_n hx hb dX7_bitFor_29 rfl (lv_at hl 2 rfl) ?_
  refine lv_iload_n hx hb dX7_bitFor_30 rfl (lv_at hl 3 rfl) ?_
  refine lv_ishr hx hb dX7_bitFor_31 ?_
  refine lv_iconst (v := 1) hx hb dX7_bitFor_32 (by decide) ?_
  refine lv_iand hx hb dX7_bitFor_33 ?_
  refine lv_imul hx hb dX7_bitFor_34 ?_
  refine lv_iadd hx hb dX7_bitFor_35 ?_
  refine lv_iload_n hx hb dX7_bitFor_36 rfl (lv_at hl 0 rfl) ?_
  refine lv_iadd hx hb dX7_bitFor_37 ?_
  exact W.iret hx hb hr (fun t ht hW => ⟨_, rfl, (Option.some.inj hF), ht⟩) (fun _ h => nomatch h) dX7_bitFor_38
