noncomputable def F_X6_comes (t0 : ST) (x1 : Int32) (x2 : Int32) : Option Int32 :=
  (F_X0_has (sb t0 3) x1).bind fun v5 =>
  if v5 = 0 then
    some (-1)
  else
  (F_X6_isShape x2).bind fun v14 =>
  if v14 = 0 then
    some (-2)
  else
  (rd 6 (t0 5) x1).bind fun v35 =>
  (F_X0_stepsADay (sb t0 3) x1).bind fun v41 =>
  (F_X1_daysTo (sb t0 1) v35 v41 x2).bind fun v45 =>
  some v45
abbrev rm_X6_comes : Room := { frames := 3, cells := 0, slots := 0, locals := 67 }
set_option maxHeartbeats 4000000 in
set_option maxRecDepth 100000 in
theorem c_X6_comes (l : Launch) (D : va_G) (cI cS : ClassId) (a0 : Nat → Nat) (t0 : ST) (x1 : Int32) (x2 : Int32) (r : Int32) (hF : F_X6_comes t0 x1 x2 = some r) : Met l yX6_comes (Cond.code yX6_comes cX6_comes 3 (some .int) :: ALL) rm_X6_comes (PreR D cI cS [.ref (a0 0), .int x1, .int x2] (pC cI cS a0 t0)) (vp_Si (fun x => x = r)) 0 0 (fun _ => False) := by
  refine mR l D cI cS (by decide) (Nat.le_of_ble_eq_true rfl) ?_
  intro p e s m below meth c ls hx hb hr hml hown hts hlocks hP hK hl
  have hown : s.vm.findClass RX6 = some m.cls := hown
  have hl : lv_has ls 3 [(0, .ref (a0 0)), (1, .int x1), (2, .int x2)] := hl
  unfold F_X6_comes at hF
  refine lv_aload_n hx hb dX6_comes_0 rfl (lv_at hl 0 rfl) ?_
  refine va_get (D := D) (ci := 5) (v := .ref (a0 3)) (C := RX6) (T := TX6) (N := 8) hx hb hts (fun w h => List.mem_cons_of_mem _ (inAX6 w h)) hown hK.1 hP 0 (at_C_0 cI cS _ _) rfl 1 (by decide) (hts _ (List.mem_cons_of_mem _ fl_RX6_21)) (fun _ h9 => h9) rfl dX6_comes_1 ?_
  refine lv_iload_n hx hb dX6_comes_4 rfl (lv_at hl 1 rfl) ?_
  obtain ⟨v5, h5, hF⟩ := bd hF
  refine cRb (va_runV (As := [.int x1]) (rest := []) ⟨hx, hb, hml, hown, hts⟩ (c_X0_has l D cI cS (sa a0 3) (sb t0 3) x1 v5 h5) (cwVA hts (TW.cons _) lv_X0_has ml_RX6_92 ⟨rfl, rfl⟩ ⟨(Nat.le_of_ble_eq_true rfl), (Nat.le_of_ble_eq_true rfl)⟩) (pRV hK (hP.sub [3, 4, 5, 6] (su_C_B3 cI cS _ _)) (ci := 0) rfl rfl) rfl rfl hl.1 rfl (lv_room (Nat.le_of_ble_eq_true rfl)) dX6_comes_5 ⟨Nat.le_refl _, Nat.le_refl _⟩) (fun b5 => ?_)
  refine lv_if_ne (tgt := 13) hx hb dX6_comes_8 (by decide) (fun c8 => ?_) (fun c8 => ?_)
  · replace hF := iq c8 hF
    refine lv_iload_n hx hb dX6_comes_13 rfl (lv_at hl 2 rfl) ?_
    obtain ⟨v14, h14, hF⟩ := bd hF
    refine cRb (va_runS (As := [.int x2]) (rest := []) ⟨hx, hb, hml, hown, hts⟩ (c_X6_isShape l D cI cS x2 v14 h14) (cwSA hts (TW.cons _) ls_X6_isShape ml_RX6_168 ⟨rfl, rfl⟩ ⟨(Nat.le_of_ble_eq_true rfl), (Nat.le_of_ble_eq_true rfl)⟩) (pRS hK pnil) rfl rfl hl.1 rfl (lv_room (Nat.le_of_ble_eq_true rfl)) dX6_comes_14 ⟨Nat.le_refl _, Nat.le_refl _⟩) (fun b14 => ?_)
    refine lv_if_ne (tgt := 23) hx hb dX6_comes_17 (by decide) (fun c17 => ?_) (fun c17 => ?_)
    · replace hF := iq c17 hF
      refine lv_aload_n hx hb dX6_comes_23 rfl (lv_at hl 0 rfl) ?_
      refine va_get (D := D) (ci := 5) (v := .ref (a0 1)) (C := RX6) (T := TX6) (N := 8) hx hb hts (fun w h => List.mem_cons_of_mem _ (inAX6 w h)) hown hK.1 hP 0 (at_C_0 cI cS _ _) rfl 0 (by decide) (hts _ (List.mem_cons_of_mem _ fl_RX6_12)) (fun _ h9 => h9) rfl dX6_comes_24 ?_
      refine lv_aload_n hx hb dX6_comes_27 rfl (lv_at hl 0 rfl) ?_
      refine va_get (D := D) (ci := 5) (v := .ref (a0 3)) (C := RX6) (T := TX6) (N := 8) hx hb hts (fun w h => List.mem_cons_of_mem _ (inAX6 w h)) hown hK.1 hP 0 (at_C_0 cI cS _ _) rfl 1 (by decide) (hts _ (List.mem_cons_of_mem _ fl_RX6_21)) (fun _ h9 => h9) rfl dX6_comes_28 ?_
      refine va_getN (D := D) (ci := 0) (v := .ref (a0 5)) (C := RX0) (T := TX0) (N := 6) hx hb hts (fun w h => List.mem_cons_of_mem _ (inAX0 w h)) hown hK.1 hP 3 (at_C_3 cI cS _ _) rfl 4 (by decide) (nu_RX6_99 hK) (fun _ h9 => h9) rfl dX6_comes_31 ?_
      refine lv_iload_n hx hb dX6_comes_34 rfl (lv_at hl 1 rfl) ?_
      obtain ⟨v35, h35, hF⟩ := bd hF
      refine rI hx hb hK.1 hP 5 0 (at_C_5 cI cS _ _) rfl h35 dX6_comes_35 ?_
      refine lv_aload_n hx hb dX6_comes_36 rfl (lv_at hl 0 rfl) ?_
      refine va_get (D := D) (ci := 5) (v := .ref (a0 3)) (C := RX6) (T := TX6) (N := 8) hx hb hts (fun w h => List.mem_cons_of_mem _ (inAX6 w h)) hown hK.1 hP 0 (at_C_0 cI cS _ _) rfl 1 (by decide) (hts _ (List.mem_cons_of_mem _ fl_RX6_21)) (fun _ h9 => h9) rfl dX6_comes_37 ?_
      refine lv_iload_n hx hb dX6_comes_40 rfl (lv_at hl 1 rfl) ?_
      obtain ⟨v41, h41, hF⟩ := bd hF
      refine cRe (va_runV (As := [.int x1]) (rest := [.int v35, .ref (a0 1)]) ⟨hx, hb, hml, hown, hts⟩ (c_X0_stepsADay l D cI cS (sa a0 3) (sb t0 3) x1 v41 h41) (cwVA hts (TW.cons _) lv_X0_stepsADay ml_RX6_105 ⟨rfl, rfl⟩ ⟨(Nat.le_of_ble_eq_true rfl), (Nat.le_of_ble_eq_true rfl)⟩) (pRV hK (hP.sub [3, 4, 5, 6] (su_C_B3 cI cS _ _)) (ci := 0) rfl rfl) rfl rfl hl.1 rfl (lv_room (Nat.le_of_ble_eq_true rfl)) dX6_comes_41 ⟨Nat.le_refl _, Nat.le_refl _⟩) ?_
      refine lv_iload_n hx hb dX6_comes_44 rfl (lv_at hl 2 rfl) ?_
      obtain ⟨v45, h45, hF⟩ := bd hF
      refine cRe (va_runV (As := [.int v35, .int v41, .int x2]) (rest := []) ⟨hx, hb, hml, hown, hts⟩ (c_X1_daysTo l D cI cS (sa a0 1) (sb t0 1) v35 v41 x2 v45 h45) (cwVA hts (TW.cons _) lv_X1_daysTo ml_RX6_171 ⟨rfl, rfl⟩ ⟨(Nat.le_of_ble_eq_true rfl), (Nat.le_of_ble_eq_true rfl)⟩) (pRV hK (hP.sub [1, 2] (su_C_L1 cI cS _ _)) (ci := 1) rfl rfl) rfl rfl hl.1 rfl (lv_room (Nat.le_of_ble_eq_true rfl)) dX6_comes_45 ⟨Nat.le_refl _, Nat.le_refl _⟩) ?_
      exact W.iret hx hb hr (fun t ht hW => ⟨_, rfl, (Option.some.inj hF), ht⟩) (fun _ h => nomatch h) dX6_comes_48
    · replace hF := ip c17 hF
      refine lv_bipush (v := (-2)) hx hb dX6_comes_20 (by decide) ?_
      exact W.iret hx hb hr (fun t ht hW => ⟨_, rfl, (Option.some.inj hF), ht⟩) (fun _ h => nomatch h) dX6_comes_22
  · replace hF := ip c8 hF
    refine lv_iconst (v := (-1)) hx hb dX6_comes_11 (by decide) ?_
    exact W.iret hx hb hr (fun t ht hW => ⟨_, rfl, (Option.some.inj hF), ht⟩) (fun _ h => nomatch h) dX6_comes_12
noncomputable def F_X6_strokes_L43 (t0 : ST) (x1 : Int32) (x2 : Int32) (x3 : Int32) (k : Int32 → Int32 → Int32 → Option Int32) : Nat → Int32 → Int32 → Int32 → Option Int32
  | 0, _, _, _ => none
  | n + 1, x4, x5, x6 =>
    if 64 ≤ x6 then
      k x4 x5 x6
    else
    (F_J6_bitCount_0f7a4 x6).bind fun v52 =>
    if x5 ≤ v52 then
      (F_X6_strokes_L43 t0 x1 x2 x3 k n) x4 x5 (x6 + 1)
    else
    (rd 6 (t0 5) x1).bind fun v76 =>
    (F_X1_daysTo (sb t0 1) (v76 ^^^ x6) x3 x2).bind fun v82 =>
    if v82 = (-9) then
      (F_X6_strokes_L43 t0 x1 x2 x3 k n) x4 x5 (x6 + 1)
    else
    (F_X6_strokes_L43 t0 x1 x2 x3 k n) x6 v52 (x6 + 1)
noncomputable def F_X6_strokes_J104 (t0 : ST) (x1 : Int32) (x2 : Int32) (x4 : Int32) : Option Int32 :=
  some x4
noncomputable def F_X6_strokes (t0 : ST) (x1 : Int32) (x2 : Int32) : Option Int32 :=
  (F_X0_has (sb t0 3) x1).bind fun v5 =>
  if v5 = 0 then
    some (-1)
  else
  (F_X6_isShape x2).bind fun v14 =>
  if v14 = 0 then
    some (-2)
  else
  (F_X0_stepsADay (sb t0 3) x1).bind fun v28 =>
  F_X6_strokes_L43 t0 x1 x2 v28 (fun x4_k43 x5_k43 x6_k43 => F_X6_strokes_J104 t0 x1 x2 x4_k43) 1000 (-9) 7 0
abbrev rm_X6_strokes : Room := { frames := 3, cells := 0, slots := 0, locals := 67 }
set_option maxHeartbeats 4000000 in
set_option maxRecDepth 100000 in
theorem c_X6_strokes (l : Launch) (D : va_G) (cI cS : ClassId) (a0 : Nat → Nat) (t0 : ST) (x1 : Int32) (x2 : Int32) (r : Int32) (hF : F_X6_strokes t0 x1 x2 = some r) : Met l yX6_strokes (Cond.code yX6_strokes cX6_strokes 8 (some .int) :: ALL) rm_X6_strokes (PreR D cI cS [.ref (a0 0), .int x1, .int x2] (pC cI cS a0 t0)) (vp_Si (fun x => x = r)) 0 0 (fun _ => False) := by
  refine mR l D cI cS (by decide) (Nat.le_of_ble_eq_true rfl) ?_
  intro p e s m below meth c ls hx hb hr hml hown hts hlocks hP hK hl
  have hown : s.vm.findClass RX6 = some m.cls := hown
  have hl : lv_has ls 8 [(0, .ref (a0 0)), (1, .int x1), (2, .int x2)] := hl
  unfold F_X6_strokes at hF
  refine lv_aload_n hx hb dX6_strokes_0 rfl (lv_at hl 0 rfl) ?_
  refine va_get (D := D) (ci := 5) (v := .ref (a0 3)) (C := RX6) (T := TX6) (N := 8) hx hb hts (fun w h => List.mem_cons_of_mem _ (inAX6 w h)) hown hK.1 hP 0 (at_C_0 cI cS _ _) rfl 1 (by decide) (hts _ (List.mem_cons_of_mem _ fl_RX6_21)) (fun _ h9 => h9) rfl dX6_strokes_1 ?_
  refine lv_iload_n hx hb dX6_strokes_4 rfl (lv_at hl 1 rfl) ?_
  obtain ⟨v5, h5, hF⟩ := bd hF
  refine cRb (va_runV (As := [.int x1]) (rest := []) ⟨hx, hb, hml, hown, hts⟩ (c_X0_has l D cI cS (sa a0 3) (sb t0 3) x1 v5 h5) (cwVA hts (TW.cons _) lv_X0_has ml_RX6_92 ⟨rfl, rfl⟩ ⟨(Nat.le_of_ble_eq_true rfl), (Nat.le_of_ble_eq_true rfl)⟩) (pRV hK (hP.sub [3, 4, 5, 6] (su_C_B3 cI cS _ _)) (ci := 0) rfl rfl) rfl rfl hl.1 rfl (lv_room (Nat.le_of_ble_eq_true rfl)) dX6_strokes_5 ⟨Nat.le_refl _, Nat.le_refl _⟩) (fun b5 => ?_)
  refine lv_if_ne (tgt := 13) hx hb dX6_strokes_8 (by decide) (fun c8 => ?_) (fun c8 => ?_)
  · replace hF := iq c8 hF
    refine lv_iload_n hx hb dX6_strokes_13 rfl (lv_at hl 2 rfl) ?_
    obtain ⟨v14, h14, hF⟩ := bd hF
    refine cRb (va_runS (As := [.int x2]) (rest := []) ⟨hx, hb, hml, hown, hts⟩ (c_X6_isShape l D cI cS x2 v14 h14) (cwSA hts (TW.cons _) ls_X6_isShape ml_RX6_168 ⟨rfl, rfl⟩ ⟨(Nat.le_of_ble_eq_true rfl), (Nat.le_of_ble_eq_true rfl)⟩) (pRS hK pnil) rfl rfl hl.1 rfl (lv_room (Nat.le_of_ble_eq_true rfl)) dX6_strokes_14 ⟨Nat.le_refl _, Nat.le_refl _⟩) (fun b14 => ?_)
    refine lv_if_ne (tgt := 23) hx hb dX6_strokes_17 (by decide) (fun c17 => ?_) (fun c17 => ?_)
    · replace hF := iq c17 hF
      refine lv_aload_n hx hb dX6_strokes_23 rfl (lv_at hl 0 rfl) ?_
      refine va_get (D := D) (ci := 5) (v := .ref (a0 3)) (C := RX6) (T := TX6) (N := 8) hx hb hts (fun w h => List.mem_cons_of_mem _ (inAX6 w h)) hown hK.1 hP 0 (at_C_0 cI cS _ _) rfl 1 (by decide) (hts _ (List.mem_cons_of_mem _ fl_RX6_21)) (fun _ h9 => h9) rfl dX6_strokes_24 ?_
      refine lv_iload_n hx hb dX6_strokes_27 rfl (lv_at hl 1 rfl) ?_
      obtain ⟨v28, h28, hF⟩ := bd hF
      refine cRe (va_runV (As := [.int x1]) (rest := []) ⟨hx, hb, hml, hown, hts⟩ (c_X0_stepsADay l D cI cS (sa a0 3) (sb t0 3) x1 v28 h28) (cwVA hts (TW.cons _) lv_X0_stepsADay ml_RX6_105 ⟨rfl, rfl⟩ ⟨(Nat.le_of_ble_eq_true rfl), (Nat.le_of_ble_eq_true rfl)⟩) (pRV hK (hP.sub [3, 4, 5, 6] (su_C_B3 cI cS _ _)) (ci := 0) rfl rfl) rfl rfl hl.1 rfl (lv_room (Nat.le_of_ble_eq_true rfl)) dX6_strokes_28 ⟨Nat.le_refl _, Nat.le_refl _⟩) ?_
      refine lv_istore_n (lv' := [(3, .int v28), (0, .ref (a0 0)), (1, .int x1), (2, .int x2)]) hx hb dX6_strokes_31 rfl hl (by decide) rfl (fun ls hl => ?_)
      refine lv_bipush (v := (-9)) hx hb dX6_strokes_32 (by decide) ?_
      refine lv_istore (lv' := [(4, .int (-9)), (3, .int v28), (0, .ref (a0 0)), (1, .int x1), (2, .int x2)]) hx hb dX6_strokes_34 hl (by decide) rfl (fun ls hl => ?_)
      refine lv_bipush (v := 7) hx hb dX6_strokes_36 (by decide) ?_
      refine lv_istore (lv' := [(5, .int 7), (4, .int (-9)), (3, .int v28), (0, .ref (a0 0)), (1, .int x1), (2, .int x2)]) hx hb dX6_strokes_38 hl (by decide) rfl (fun ls hl => ?_)
      refine lv_iconst (v := 0) hx hb dX6_strokes_40 (by decide) ?_
      refine lv_istore (lv' := [(6, .int 0), (5, .int 7), (4, .int (-9)), (3, .int v28), (0, .ref (a0 0)), (1, .int x1), (2, .int x2)]) hx hb dX6_strokes_41 hl (by decide) rfl (fun ls hl => ?_)
      have L43 : ∀ (n_43 : Nat) (x4_43 : Int32) (x5_43 : Int32) (x6_43 : Int32) (ls : Array Slot), lv_has ls 8 [(0, .ref (a0 0)), (1, .int x1), (2, .int x2), (3, .int v28), (4, .int x4_43), (5, .int x5_43), (6, .int x6_43)] → F_X6_strokes_L43 t0 x1 x2 v28 (fun x4_k43 x5_k43 x6_k43 => F_X6_strokes_J104 t0 x1 x2 x4_k43) n_43 x4_43 x5_43 x6_43 = some r → W p l e rm_X6_strokes s m [.ref (a0 0), .int x1, .int x2].toArray below meth c s.heap [] 0 0 (MQ below (vp_Si (fun x => x = r)) [.ref (a0 0), .int x1, .int x2].toArray s 0 0 (fun _ => False)) (F0 m 43 ls []) := by
        intro n_43
        induction n_43 with
        | zero => intro x4_43 x5_43 x6_43 ls hl hF; exact nomatch hF
        | succ n_43 ih43 =>
          intro x4_43 x5_43 x6_43 ls hl hF
          rw [F_X6_strokes_L43.eq_2] at hF
          refine lv_iload hx hb dX6_strokes_43 (lv_at hl 6 rfl) ?_
          refine lv_bipush (v := 64) hx hb dX6_strokes_45 (by decide) ?_
          refine lv_icmp_ge (tgt := 104) hx hb dX6_strokes_47 (by decide) (fun c47 => ?_) (fun c47 => ?_)
          · replace hF := ip c47 hF
            have hF : F_X6_strokes_J104 t0 x1 x2 x4_43 = some r := hF
            unfold F_X6_strokes_J104 at hF
            refine lv_iload hx hb dX6_strokes_104 (lv_at hl 4 rfl) ?_
            exact W.iret hx hb hr (fun t ht hW => ⟨_, rfl, (Option.some.inj hF), ht⟩) (fun _ h => nomatch h) dX6_strokes_106
          · replace hF := iq c47 hF
            refine lv_iload hx hb dX6_strokes_50 (lv_at hl 6 rfl) ?_
            obtain ⟨v52, h52, hF⟩ := bd hF
            refine cRe (va_runS (As := [.int x6_43]) (rest := []) ⟨hx, hb, hml, hown, hts⟩ (c_J6_bitCount_0f7a4 l D cI cS x6_43 v52 h52) (cwSA hts (TW.cons _) ls_J6_bitCount_0f7a4 ml_RX6_111 ⟨rfl, rfl⟩ ⟨(Nat.le_of_ble_eq_true rfl), (Nat.le_of_ble_eq_true rfl)⟩) (pRS hK pnil) rfl rfl hl.1 rfl (lv_room (Nat.le_of_ble_eq_true rfl)) dX6_strokes_52 ⟨Nat.le_refl _, Nat.le_refl _⟩) ?_
            refine lv_istore (lv' := [(7, .int v52), (0, .ref (a0 0)), (1, .int x1), (2, .int x2), (3, .int v28), (4, .int x4_43), (5, .int x5_43), (6, .int x6_43)]) hx hb dX6_strokes_55 hl (by decide) rfl (fun ls hl => ?_)
            refine lv_iload hx hb dX6_strokes_57 (lv_at hl 0 rfl) ?_
            refine lv_iload hx hb dX6_strokes_59 (lv_at hl 6 rfl) ?_
            refine lv_icmp_ge (tgt := 98) hx hb dX6_strokes_61 (by decide) (fun c61 => ?_) (fun c61 => ?_)
            · replace hF := ip c61 hF
              refine lv_iinc (v := (x6_43 + 1)) (lv' := [(6, .int (x6_43 + 1)), (7, .int v52), (0, .ref (a0 0)), (1, .int x1), (2, .int x2), (3, .int v28), (4, .int x4_43), (5, .int x5_43)]) hx hb dX6_strokes_98 hl (k := 7) rfl rfl (by decide) rfl (fun ls hl => ?_)
              refine lv_goto (tgt := 43) hx hb dX6_strokes_101 (by decide) ?_
              exact ih43 x4_43 x5_43 (x6_43 + 1) _ (lv_sub hl [2, 3, 4, 5, 6, 7, 0] rfl) hF
            · replace hF := iq c61 hF
              refine lv_aload_n hx hb dX6_strokes_64 rfl (lv_at hl 1 rfl) ?_
              refine va_get (D := D) (ci := 5) (v := .ref (a0 1)) (C := RX6) (T := TX6) (N := 8) hx hb hts (fun w h => List.mem_cons_of_mem _ (inAX6 w h)) hown hK.1 hP 0 (at_C_0 cI cS _ _) rfl 0 (by decide) (hts _ (List.mem_cons_of_mem _ fl_RX6_12)) (fun _ h9 => h9) rfl dX6_strokes_65 ?_
              refine lv_aload_n hx hb dX6_strokes_68 rfl (lv_at hl 1 rfl) ?_
              refine va_get (D := D) (ci := 5) (v := .ref (a0 3)) (C := RX6) (T := TX6) (N := 8) hx hb hts (fun w h => List.mem_cons_of_mem _ (inAX6 w h)) hown hK.1 hP 0 (at_C_0 cI cS _ _) rfl 1 (by decide) (hts _ (List.mem_cons_of_mem _ fl_RX6_21)) (fun _ h9 => h9) rfl dX6_strokes_69 ?_
              refine va_getN (D := D) (ci := 0) (v := .ref (a0 5)) (C := RX0) (T := TX0) (N := 6) hx hb hts (fun w h => List.mem_cons_of_mem _ (inAX0 w h)) hown hK.1 hP 3 (at_C_3 cI cS _ _) rfl 4 (by decide) (nu_RX6_99 hK) (fun _ h9 => h9) rfl dX6_strokes_72 ?_
              refine lv_iload_n hx hb dX6_strokes_75 rfl (lv_at hl 2 rfl) ?_
              obtain ⟨v76, h76, hF⟩ := bd hF
              refine rI hx hb hK.1 hP 5 0 (at_C_5 cI cS _ _) rfl h76 dX6_strokes_76 ?_
              refine lv_iload hx hb dX6_strokes_77 (lv_at hl 7 rfl) ?_
              refine lv_ixor hx hb dX6_strokes_79 ?_
              refine lv_iload_n hx hb dX6_strokes_80 rfl (lv_at hl 4 rfl) ?_
              refine lv_iload_n hx hb dX6_strokes_81 rfl (lv_at hl 3 rfl) ?_
              obtain ⟨v82, h82, hF⟩ := bd hF
              refine cRe (va_runV (As := [.int (v76 ^^^ x6_43), .int v28, .int x2]) (rest := []) ⟨hx, hb, hml, hown, hts⟩ (c_X1_daysTo l D cI cS (sa a0 1) (sb t0 1) (v76 ^^^ x6_43) v28 x2 v82 h82) (cwVA hts (TW.cons _) lv_X1_daysTo ml_RX6_171 ⟨rfl, rfl⟩ ⟨(Nat.le_of_ble_eq_true rfl), (Nat.le_of_ble_eq_true rfl)⟩) (pRV hK (hP.sub [1, 2] (su_C_L1 cI cS _ _)) (ci := 1) rfl rfl) rfl rfl hl.1 rfl (lv_room (Nat.le_of_ble_eq_true rfl)) dX6_strokes_82 ⟨Nat.le_refl _, Nat.le_refl _⟩) ?_
              refine lv_bipush (v := (-9)) hx hb dX6_strokes_85 (by decide) ?_
              refine lv_icmp_eq (tgt := 98) hx hb dX6_strokes_87 (by decide) (fun c87 => ?_) (fun c87 => ?_)
              · replace hF := ip c87 hF
                refine lv_iinc (v := (x6_43 + 1)) (lv' := [(6, .int (x6_43 + 1)), (7, .int v52), (0, .ref (a0 0)), (1, .int x1), (2, .int x2), (3, .int v28), (4, .int x4_43), (5, .int x5_43)]) hx hb dX6_strokes_98 hl (k := 7) rfl rfl (by decide) rfl (fun ls hl => ?_)
                refine lv_goto (tgt := 43) hx hb dX6_strokes_101 (by decide) ?_
                exact ih43 x4_43 x5_43 (x6_43 + 1) _ (lv_sub hl [2, 3, 4, 5, 6, 7, 0] rfl) hF
              · replace hF := iq c87 hF
                refine lv_iload hx hb dX6_strokes_90 (lv_at hl 7 rfl) ?_
                refine lv_istore (lv' := [(4, .int x6_43), (7, .int v52), (0, .ref (a0 0)), (1, .int x1), (2, .int x2), (3, .int v28), (5, .int x5_43), (6, .int x6_43)]) hx hb dX6_strokes_92 hl (by decide) rfl (fun ls hl => ?_)
                refine lv_iload hx hb dX6_strokes_94 (lv_at hl 1 rfl) ?_
                refine lv_istore (lv' := [(5, .int v52), (4, .int x6_43), (7, .int v52), (0, .ref (a0 0)), (1, .int x1), (2, .int x2), (3, .int v28), (6, .int x6_43)]) hx hb dX6_strokes_96 hl (by decide) rfl (fun ls hl => ?_)
                refine lv_iinc (v := (x6_43 + 1)) (lv' := [(6, .int (x6_43 + 1)), (5, .int v52), (4, .int x6_43), (7, .int v52), (0, .ref (a0 0)), (1, .int x1), (2, .int x2), (3, .int v28)]) hx hb dX6_strokes_98 hl (k := 7) rfl rfl (by decide) rfl (fun ls hl => ?_)
                refine lv_goto (tgt := 43) hx hb dX6_strokes_101 (by decide) ?_
                exact ih43 x6_43 v52 (x6_43 + 1) _ (lv_sub hl [4, 5, 6, 7, 2, 1, 0] rfl) hF
      exact L43 1000 (-9) 7 0 _ (lv_sub hl [4, 5, 6, 3, 2, 1, 0] rfl) hF
    · replace hF := ip c17 hF
      refine lv_bipush (v := (-2)) hx hb dX6_strokes_20 (by decide) ?_
      exact W.iret hx hb hr (fun t ht hW => ⟨_, rfl, (Option.some.inj hF), ht⟩) (fun _ h => nomatch h) dX6_strokes_22
  · replace hF := ip c8 hF
    refine lv_iconst (v := (-1)) hx hb dX6_strokes_11 (by decide) ?_
    exact W.iret hx hb hr (fun t ht hW => ⟨_, rfl, (Option.some.inj hF), ht⟩) (fun _ h => nomatch h) dX6_strokes_12
noncomputable def F_X6_round_L34 (t0 : ST) (x1 : Int32) (x2 : Int32) (k : Int32 → Int32 → Option Int32) : Nat → Int32 → Int32 → Option Int32
  | 0, _, _ => none
  | n + 1, x3, x4 =>
    if 64 ≤ x3 then
      k x3 x4
    else
    (F_X1_stepsBack (sb t0 1) x4).bind fun v46 =>
    if v46 = (-9) then
      (F_X1_after (sb t0 1) x4 1).bind fun v61 =>
      (F_X6_round_L34 t0 x1 x2 k n) (x3 + 1) v61
    else
    k x3 x4
noncomputable def F_X6_round_J72 (t0 : ST) (x1 : Int32) (x2 : Int32) (x3 : Int32) (x4 : Int32) : Option Int32 :=
  if x2 = 0 then
    some x3
  else
  (F_X1_stepsBack (sb t0 1) x4).bind fun v86 =>
  some v86
noncomputable def F_X6_round (t0 : ST) (x1 : Int32) (x2 : Int32) : Option Int32 :=
  (F_X6_isShape x1).bind fun v1 =>
  if v1 = 0 then
    some (-2)
  else
  if x2 < 0 then
    some (-2)
  else
  if x2 ≤ 1 then
    (F_X6_hasGarden t0).bind fun v20 =>
    if v20 = 0 then
      some (-3)
    else
    F_X6_round_L34 t0 x1 x2 (fun x3_k34 x4_k34 => F_X6_round_J72 t0 x1 x2 x3_k34 x4_k34) 1000 0 x1
  else
  some (-2)
abbrev rm_X6_round : Room := { frames := 4, cells := 0, slots := 0, locals := 89 }
set_option maxHeartbeats 4000000 in
set_option maxRecDepth 100000 in
theorem c_X6_round (l : Launch) (D : va_G) (cI cS : ClassId) (a0 : Nat → Nat) (t0 : ST) (x1 : Int32) (x2 : Int32) (r : Int32) (hF : F_X6_round t0 x1 x2 = some r) : Met l yX6_round (Cond.code yX6_round cX6_round 5 (some .int) :: ALL) rm_X6_round (PreR D cI cS [.ref (a0 0), .int x1, .int x2] (pC cI cS a0 t0)) (vp_Si (fun x => x = r)) 0 0 (fun _ => False) := by
  refine mR l D cI cS (by decide) (Nat.le_of_ble_eq_true rfl) ?_
  intro p e s m below meth c ls hx hb hr hml hown hts hlocks hP hK hl
  have hown : s.vm.findClass RX6 = some m.cls := hown
  have hl : lv_has ls 5 [(0, .ref (a0 0)), (1, .int x1), (2, .int x2)] := hl
  unfold F_X6_round at hF
  refine lv_iload_n hx hb dX6_round_0 rfl (lv_at hl 1 rfl) ?_
  obtain ⟨v1, h1, hF⟩ := bd hF
  refine cRb (va_runS (As := [.int x1]) (rest := []) ⟨hx, hb, hml, hown, hts⟩ (c_X6_isShape l D cI cS x1 v1 h1) (cwSA hts (TW.cons _) ls_X6_isShape ml_RX6_168 ⟨rfl, rfl⟩ ⟨(Nat.le_of_ble_eq_true rfl), (Nat.le_of_ble_eq_true rfl)⟩) (pRS hK pnil) rfl rfl hl.1 rfl (lv_room (Nat.le_of_ble_eq_true rfl)) dX6_round_1 ⟨Nat.le_refl _, Nat.le_refl _⟩) (fun b1 => ?_)
  refine lv_if_eq (tgt := 16) hx hb dX6_round_4 (by decide) (fun c4 => ?_) (fun c4 => ?_)
  · replace hF := ip c4 hF
    refine lv_bipush (v := (-2)) hx hb dX6_round_16 (by decide) ?_
    exact W.iret hx hb hr (fun t ht hW => ⟨_, rfl, (Option.some.inj hF), ht⟩) (fun _ h => nomatch h) dX6_round_18
  · replace hF := iq c4 hF
    refine lv_iload_n hx hb dX6_round_7 rfl (lv_at hl 2 rfl) ?_
    refine lv_if_lt (tgt := 16) hx hb dX6_round_8 (by decide) (fun c8 => ?_) (fun c8 => ?_)
    · replace hF := ip c8 hF
      refine lv_bipush (v := (-2)) hx hb dX6_round_16 (by decide) ?_
      exact W.iret hx hb hr (fun t ht hW => ⟨_, rfl, (Option.some.inj hF), ht⟩) (fun _ h => nomatch h) dX6_round_18
    · replace hF := iq c8 hF
      refine lv_iload_n hx hb dX6_round_11 rfl (lv_at hl 2 rfl) ?_
      refine lv_iconst (v := 1) hx hb dX6_round_12 (by decide) ?_
      refine lv_icmp_le (tgt := 19) hx hb dX6_round_13 (by decide) (fun c13 => ?_) (fun c13 => ?_)
      · replace hF := ip c13 hF
        refine lv_aload_n hx hb dX6_round_19 rfl (lv_at hl 0 rfl) ?_
        obtain ⟨v20, h20, hF⟩ := bd hF
        refine cRb (va_runV (As := []) (rest := []) ⟨hx, hb, hml, hown, hts⟩ (c_X6_hasGarden l D cI cS a0 t0 v20 h20) (cwVA hts (TW.cons _) lv_X6_hasGarden ml_RX6_123 ⟨rfl, rfl⟩ ⟨(Nat.le_of_ble_eq_true rfl), (Nat.le_of_ble_eq_true rfl)⟩) (pRV hK hP (ci := 5) rfl rfl) rfl rfl hl.1 rfl (lv_room (Nat.le_of_ble_eq_true rfl)) dX6_round_20 ⟨Nat.le_refl _, Nat.le_refl _⟩) (fun b20 => ?_)
        refine lv_if_ne (tgt := 29) hx hb dX6_round_23 (by decide) (fun c23 => ?_) (fun c23 => ?_)
        · replace hF := iq c23 hF
          refine lv_iconst (v := 0) hx hb dX6_round_29 (by decide) ?_
          refine lv_istore_n (lv' := [(3, .int 0), (0, .ref (a0 0)), (1, .int x1), (2, .int x2)]) hx hb dX6_round_30 rfl hl (by decide) rfl (fun ls hl => ?_)
          refine lv_iload_n hx hb dX6_round_31 rfl (lv_at hl 2 rfl) ?_
          refine lv_istore (lv' := [(4, .int x1), (3, .int 0), (0, .ref (a0 0)), (1, .int x1), (2, .int x2)]) hx hb dX6_round_32 hl (by decide) rfl (fun ls hl => ?_)
          have L34 : ∀ (n_34 : Nat) (x3_34 : Int32) (x4_34 : Int32) (ls : Array Slot), lv_has ls 5 [(0, .ref (a0 0)), (2, .int x2), (3, .int x3_34), (4, .int x4_34)] → F_X6_round_L34 t0 x1 x2 (fun x3_k34 x4_k34 => F_X6_round_J72 t0 x1 x2 x3_k34 x4_k34) n_34 x3_34 x4_34 = some r → W p l e rm_X6_round s m [.ref (a0 0), .int x1, .int x2].toArray below meth c s.heap [] 0 0 (MQ below (vp_Si (fun x => x = r)) [.ref (a0 0), .int x1, .int x2].toArray s 0 0 (fun _ => False)) (F0 m 34 ls []) := by
            intro n_34
            induction n_34 with
            | zero => intro x3_34 x4_34 ls hl hF; exact nomatch hF
            | succ n_34 ih34 =>
              intro x3_34 x4_34 ls hl hF
              rw [F_X6_round_L34.eq_2] at hF
              refine lv_iload_n hx hb dX6_round_34 rfl (lv_at hl 2 rfl) ?_
              refine lv_bipush (v := 64) hx hb dX6_round_35 (by decide) ?_
              refine lv_icmp_ge (tgt := 72) hx hb dX6_round_37 (by decide) (fun c37 => ?_) (fun c37 => ?_)
              · replace hF := ip c37 hF
                have hF : F_X6_round_J72 t0 x1 x2 x3_34 x4_34 = some r := hF
                unfold F_X6_round_J72 at hF
                refine lv_iload_n hx hb dX6_round_72 rfl (lv_at hl 1 rfl) ?_
                refine lv_if_ne (tgt := 80) hx hb dX6_round_73 (by decide) (fun c73 => ?_) (fun c73 => ?_)
                · replace hF := iq c73 hF
                  refine lv_aload_n hx hb dX6_round_80 rfl (lv_at hl 0 rfl) ?_
                  refine va_get (D := D) (ci := 5) (v := .ref (a0 1)) (C := RX6) (T := TX6) (N := 8) hx hb hts (fun w h => List.mem_cons_of_mem _ (inAX6 w h)) hown hK.1 hP 0 (at_C_0 cI cS _ _) rfl 0 (by decide) (hts _ (List.mem_cons_of_mem _ fl_RX6_12)) (fun _ h9 => h9) rfl dX6_round_81 ?_
                  refine lv_iload hx hb dX6_round_84 (lv_at hl 3 rfl) ?_
                  obtain ⟨v86, h86, hF⟩ := bd hF
                  refine cRe (va_runV (As := [.int x4_34]) (rest := []) ⟨hx, hb, hml, hown, hts⟩ (c_X1_stepsBack l D cI cS (sa a0 1) (sb t0 1) x4_34 v86 h86) (cwVA hts (TW.cons _) lv_X1_stepsBack ml_RX6_174 ⟨rfl, rfl⟩ ⟨(Nat.le_of_ble_eq_true rfl), (Nat.le_of_ble_eq_true rfl)⟩) (pRV hK (hP.sub [1, 2] (su_C_L1 cI cS _ _)) (ci := 1) rfl rfl) rfl rfl hl.1 rfl (lv_room (Nat.le_of_ble_eq_true rfl)) dX6_round_86 ⟨Nat.le_refl _, Nat.le_refl _⟩) ?_
                  exact W.iret hx hb hr (fun t ht hW => ⟨_, rfl, (Option.some.inj hF), ht⟩) (fun _ h => nomatch h) dX6_round_89
                · replace hF := ip c73 hF
                  refine lv_iload_n hx hb dX6_round_76 rfl (lv_at hl 2 rfl) ?_
                  refine lv_goto (tgt := 89) hx hb dX6_round_77 (by decide) ?_
                  exact W.iret hx hb hr (fun t ht hW => ⟨_, rfl, (Option.some.inj hF), ht⟩) (fun _ h => nomatch h) dX6_round_89
              · replace hF := iq c37 hF
                refine lv_aload_n hx hb dX6_round_40 rfl (lv_at hl 0 rfl) ?_
                refine va_get (D := D) (ci := 5) (v := .ref (a0 1)) (C := RX6) (T := TX6) (N := 8) hx hb hts (fun w h => List.mem_cons_of_mem _ (inAX6 w h)) hown hK.1 hP 0 (at_C_0 cI cS _ _) rfl 0 (by decide) (hts _ (List.mem_cons_of_mem _ fl_RX6_12)) (fun _ h9 => h9) rfl dX6_round_41 ?_
                refine lv_iload hx hb dX6_round_44 (lv_at hl 3 rfl) ?_
                obtain ⟨v46, h46, hF⟩ := bd hF
                refine cRe (va_runV (As := [.int x4_34]) (rest := []) ⟨hx, hb, hml, hown, hts⟩ (c_X1_stepsBack l D cI cS (sa a0 1) (sb t0 1) x4_34 v46 h46) (cwVA hts (TW.cons _) lv_X1_stepsBack ml_RX6_174 ⟨rfl, rfl⟩ ⟨(Nat.le_of_ble_eq_true rfl), (Nat.le_of_ble_eq_true rfl)⟩) (pRV hK (hP.sub [1, 2] (su_C_L1 cI cS _ _)) (ci := 1) rfl rfl) rfl rfl hl.1 rfl (lv_room (Nat.le_of_ble_eq_true rfl)) dX6_round_46 ⟨Nat.le_refl _, Nat.le_refl _⟩) ?_
                refine lv_bipush (v := (-9)) hx hb dX6_round_49 (by decide) ?_
                refine lv_icmp_ne (tgt := 72) hx hb dX6_round_51 (by decide) (fun c51 => ?_) (fun c51 => ?_)
                · replace hF := iq c51 hF
                  have hF : F_X6_round_J72 t0 x1 x2 x3_34 x4_34 = some r := hF
                  unfold F_X6_round_J72 at hF
                  refine lv_iload_n hx hb dX6_round_72 rfl (lv_at hl 1 rfl) ?_
                  refine lv_if_ne (tgt := 80) hx hb dX6_round_73 (by decide) (fun c73 => ?_) (fun c73 => ?_)
                  · replace hF := iq c73 hF
                    refine lv_aload_n hx hb dX6_round_80 rfl (lv_at hl 0 rfl) ?_
                    refine va_get (D := D) (ci := 5) (v := .ref (a0 1)) (C := RX6) (T := TX6) (N := 8) hx hb hts (fun w h => List.mem_cons_of_mem _ (inAX6 w h)) hown hK.1 hP 0 (at_C_0 cI cS _ _) rfl 0 (by decide) (hts _ (List.mem_cons_of_mem _ fl_RX6_12)) (fun _ h9 => h9) rfl dX6_round_81 ?_
                    refine lv_iload hx hb dX6_round_84 (lv_at hl 3 rfl) ?_
                    obtain ⟨v86, h86, hF⟩ := bd hF
                    refine cRe (va_runV (As := [.int x4_34]) (rest := []) ⟨hx, hb, hml, hown, hts⟩ (c_X1_stepsBack l D cI cS (sa a0 1) (sb t0 1) x4_34 v86 h86) (cwVA hts (TW.cons _) lv_X1_stepsBack ml_RX6_174 ⟨rfl, rfl⟩ ⟨(Nat.le_of_ble_eq_true rfl), (Nat.le_of_ble_eq_true rfl)⟩) (pRV hK (hP.sub [1, 2] (su_C_L1 cI cS _ _)) (ci := 1) rfl rfl) rfl rfl hl.1 rfl (lv_room (Nat.le_of_ble_eq_true rfl)) dX6_round_86 ⟨Nat.le_refl _, Nat.le_refl _⟩) ?_
                    exact W.iret hx hb hr (fun t ht hW => ⟨_, rfl, (Option.some.inj hF), ht⟩) (fun _ h => nomatch h) dX6_round_89
                  · replace hF := ip c73 hF
                    refine lv_iload_n hx hb dX6_round_76 rfl (lv_at hl 2 rfl) ?_
                    refine lv_goto (tgt := 89) hx hb dX6_round_77 (by decide) ?_
                    exact W.iret hx hb hr (fun t ht hW => ⟨_, rfl, (Option.some.inj hF), ht⟩) (fun _ h => nomatch h) dX6_round_89
                · replace hF := ip c51 hF
                  refine lv_aload_n hx hb dX6_round_54 rfl (lv_at hl 0 rfl) ?_
                  refine va_get (D := D) (ci := 5) (v := .ref (a0 1)) (C := RX6) (T := TX6) (N := 8) hx hb hts (fun w h => List.mem_cons_of_mem _ (inAX6 w h)) hown hK.1 hP 0 (at_C_0 cI cS _ _) rfl 0 (by decide) (hts _ (List.mem_cons_of_mem _ fl_RX6_12)) (fun _ h9 => h9) rfl dX6_round_55 ?_
                  refine lv_iload hx hb dX6_round_58 (lv_at hl 3 rfl) ?_
                  refine lv_iconst (v := 1) hx hb dX6_round_60 (by decide) ?_
                  obtain ⟨v61, h61, hF⟩ := bd hF
                  refine cRe (va_runV (As := [.int x4_34, .int 1]) (rest := []) ⟨hx, hb, hml, hown, hts⟩ (c_X1_after l D cI cS (sa a0 1) (sb t0 1) x4_34 1 v61 h61) (cwVA hts (TW.cons _) lv_X1_after ml_RX6_119 ⟨rfl, rfl⟩ ⟨(Nat.le_of_ble_eq_true rfl), (Nat.le_of_ble_eq_true rfl)⟩) (pRV hK (hP.sub [1, 2] (su_C_L1 cI cS _ _)) (ci := 1) rfl rfl) rfl rfl hl.1 rfl (lv_room (Nat.le_of_ble_eq_true rfl)) dX6_round_61 ⟨Nat.le_refl _, Nat.le_refl _⟩) ?_
                  refine lv_istore (lv' := [(4, .int v61), (0, .ref (a0 0)), (2, .int x2), (3, .int x3_34)]) hx hb dX6_round_64 hl (by decide) rfl (fun ls hl => ?_)
                  refine lv_iinc (v := (x3_34 + 1)) (lv' := [(3, .int (x3_34 + 1)), (4, .int v61), (0, .ref (a0 0)), (2, .int x2)]) hx hb dX6_round_66 hl (k := 3) rfl rfl (by decide) rfl (fun ls hl => ?_)
                  refine lv_goto (tgt := 34) hx hb dX6_round_69 (by decide) ?_
                  exact ih34 (x3_34 + 1) v61 _ (lv_sub hl [2, 3, 0, 1] rfl) hF
          exact L34 1000 0 x1 _ (lv_sub hl [2, 4, 1, 0] rfl) hF
        · replace hF := ip c23 hF
          refine lv_bipush (v := (-3)) hx hb dX6_round_26 (by decide) ?_
          exact W.iret hx hb hr (fun t ht hW => ⟨_, rfl, (Option.some.inj hF), ht⟩) (fun _ h => nomatch h) dX6_round_28
      · replace hF := iq c13 hF
        refine lv_bipush (v := (-2)) hx hb dX6_round_16 (by decide) ?_
        exact W.iret hx hb hr (fun t ht hW => ⟨_, rfl, (Option.some.inj hF), ht⟩) (fun _ h => nomatch h) dX6_round_18
noncomputable def F_X6_eden_L17 (t0 : ST) (x1 : Int32) (k : Int64 → Int32 → Option Int64) : Nat → Int64 → Int32 → Option Int64
  | 0, _, _ => none
  | n + 1, y2, x4 =>
    if 64 ≤ x4 then
      k y2 x4
    else
    (F_X1_after (sb t0 1) x4 1).bind fun v31 =>
    if v31 = x1 then
      (F_X6_eden_L17 t0 x1 k n) (y2 ||| (1 <<< (x4.toInt64 &&& 63))) (x4 + 1)
    else
    (F_X6_eden_L17 t0 x1 k n) y2 (x4 + 1)
noncomputable def F_X6_eden_J51 (t0 : ST) (x1 : Int32) (y2 : Int64) : Option Int64 :=
  some y2
noncomputable def F_X6_eden (t0 : ST) (x1 : Int32) : Option Int64 :=
  (F_X6_refusalOfShape t0 x1).bind fun v2 =>
  if v2 = 0 then
    F_X6_eden_L17 t0 x1 (fun y2_k17 x4_k17 => F_X6_eden_J51 t0 x1 y2_k17) 1000 0 0
  else
  some (-9223372036854775808)
abbrev rm_X6_eden : Room := { frames := 2, cells := 0, slots := 0, locals := 42 }
set_option maxHeartbeats 4000000 in
set_option maxRecDepth 100000 in
theorem c_X6_eden (l : Launch) (D : va_G) (cI cS : ClassId) (a0 : Nat → Nat) (t0 : ST) (x1 : Int32) (r : Int64) (hF : F_X6_eden t0 x1 = some r) : Met l yX6_eden (Cond.code yX6_eden cX6_eden 5 (some .long) :: ALL) rm_X6_eden (PreR D cI cS [.ref (a0 0), .int x1] (pC cI cS a0 t0)) (vp_Sl (fun x => x = r)) 0 0 (fun _ => False) := by
  refine mR l D cI cS (by decide) (Nat.le_of_ble_eq_true rfl) ?_
  intro p e s m below meth c ls hx hb hr hml hown hts hlocks hP hK hl
  have hown : s.vm.findClass RX6 = some m.cls := hown
  have hl : lv_has ls 5 [(0, .ref (a0 0)), (1, .int x1)] := hl
  unfold F_X6_eden at hF
  refine lv_aload_n hx hb dX6_eden_0 rfl (lv_at hl 0 rfl) ?_
  refine lv_iload_n hx hb dX6_eden_1 rfl (lv_at hl 1 rfl) ?_
  obtain ⟨v2, h2, hF⟩ := bd hF
  refine cRe (va_runV (As := [.int x1]) (rest := []) ⟨hx, hb, hml, hown, hts⟩ (c_X6_refusalOfShape l D cI cS a0 t0 x1 v2 h2) (cwVA hts (TW.cons _) lv_X6_refusalOfShape ml_RX6_116 ⟨rfl, rfl⟩ ⟨(Nat.le_of_ble_eq_true rfl), (Nat.le_of_ble_eq_true rfl)⟩) (pRV hK hP (ci := 5) rfl rfl) rfl rfl hl.1 rfl (lv_room (Nat.le_of_ble_eq_true rfl)) dX6_eden_2 ⟨Nat.le_refl _, Nat.le_refl _⟩) ?_
  refine lv_if_eq (tgt := 12) hx hb dX6_eden_5 (by decide) (fun c5 => ?_) (fun c5 => ?_)
  · replace hF := ip c5 hF
    refine lv_lconst (v := 0) hx hb dX6_eden_12 (by decide) ?_
    refine lv_lstore_n (lv' := [(2, .long 0), (0, .ref (a0 0)), (1, .int x1)]) hx hb dX6_eden_13 rfl hl (by decide) rfl (fun ls hl => ?_)
    refine lv_iconst (v := 0) hx hb dX6_eden_14 (by decide) ?_
    refine lv_istore (lv' := [(4, .int 0), (2, .long 0), (0, .ref (a0 0)), (1, .int x1)]) hx hb dX6_eden_15 hl (by decide) rfl (fun ls hl => ?_)
    have L17 : ∀ (n_17 : Nat) (y2_17 : Int64) (x4_17 : Int32) (ls : Array Slot), lv_has ls 5 [(0, .ref (a0 0)), (1, .int x1), (2, .long y2_17), (4, .int x4_17)] → F_X6_eden_L17 t0 x1 (fun y2_k17 x4_k17 => F_X6_eden_J51 t0 x1 y2_k17) n_17 y2_17 x4_17 = some r → W p l e rm_X6_eden s m [.ref (a0 0), .int x1].toArray below meth c s.heap [] 0 0 (MQ below (vp_Sl (fun x => x = r)) [.ref (a0 0), .int x1].toArray s 0 0 (fun _ => False)) (F0 m 17 ls []) := by
      intro n_17
      induction n_17 with
      | zero => intro y2_17 x4_17 ls hl hF; exact nomatch hF
      | succ n_17 ih17 =>
        intro y2_17 x4_17 ls hl hF
        rw [F_X6_eden_L17.eq_2] at hF
        refine lv_iload hx hb dX6_eden_17 (lv_at hl 3 rfl) ?_
        refine lv_bipush (v := 64) hx hb dX6_eden_19 (by decide) ?_
        refine lv_icmp_ge (tgt := 51) hx hb dX6_eden_21 (by decide) (fun c21 => ?_) (fun c21 => ?_)
        · replace hF := ip c21 hF
          have hF : F_X6_eden_J51 t0 x1 y2_17 = some r := hF
          unfold F_X6_eden_J51 at hF
          refine lv_lload_n hx hb dX6_eden_51 rfl (lv_at hl 2 rfl) ?_
          exact W.lret hx hb hr (fun t ht hW => ⟨_, rfl, (Option.some.inj hF), ht⟩) (fun _ h => nomatch h) dX6_eden_52
        · replace hF := iq c21 hF
          refine lv_aload_n hx hb dX6_eden_24 rfl (lv_at hl 0 rfl) ?_
          refine va_get (D := D) (ci := 5) (v := .ref (a0 1)) (C := RX6) (T := TX6) (N := 8) hx hb hts (fun w h => List.mem_cons_of_mem _ (inAX6 w h)) hown hK.1 hP 0 (at_C_0 cI cS _ _) rfl 0 (by decide) (hts _ (List.mem_cons_of_mem _ fl_RX6_12)) (fun _ h9 => h9) rfl dX6_eden_25 ?_
          refine lv_iload hx hb dX6_eden_28 (lv_at hl 3 rfl) ?_
          refine lv_iconst (v := 1) hx hb dX6_eden_30 (by decide) ?_
          obtain ⟨v31, h31, hF⟩ := bd hF
          refine cRe (va_runV (As := [.int x4_17, .int 1]) (rest := []) ⟨hx, hb, hml, hown, hts⟩ (c_X1_after l D cI cS (sa a0 1) (sb t0 1) x4_17 1 v31 h31) (cwVA hts (TW.cons _) lv_X1_after ml_RX6_119 ⟨rfl, rfl⟩ ⟨(Nat.le_of_ble_eq_true rfl), (Nat.le_of_ble_eq_true rfl)⟩) (pRV hK (hP.sub [1, 2] (su_C_L1 cI cS _ _)) (ci := 1) rfl rfl) rfl rfl hl.1 rfl (lv_room (Nat.le_of_ble_eq_true rfl)) dX6_eden_31 ⟨Nat.le_refl _, Nat.le_refl _⟩) ?_
          refine lv_iload_n hx hb dX6_eden_34 rfl (lv_at hl 1 rfl) ?_
          refine lv_icmp_ne (tgt := 45) hx hb dX6_eden_35 (by decide) (fun c35 => ?_) (fun c35 => ?_)
          · replace hF := iq c35 hF
            refine lv_iinc (v := (x4_17 + 1)) (lv' := [(4, .int (x4_17 + 1)), (0, .ref (a0 0)), (1, .int x1), (2, .long y2_17)]) hx hb dX6_eden_45 hl (k := 3) rfl rfl (by decide) rfl (fun ls hl => ?_)
            refine lv_goto (tgt := 17) hx hb dX6_eden_48 (by decide) ?_
            exact ih17 y2_17 (x4_17 + 1) _ (lv_sub hl [1, 2, 3, 0] rfl) hF
          · replace hF := ip c35 hF
            refine lv_lload_n hx hb dX6_eden_38 rfl (lv_at hl 2 rfl) ?_
            refine lv_lconst (v := 1) hx hb dX6_eden_39 (by decide) ?_
            refine lv_iload hx hb dX6_eden_40 (lv_at hl 3 rfl) ?_
            refine lv_lshl (v := (1 <<< (x4_17.toInt64 &&& 63))) hx hb dX6_eden_42 rfl ?_
            refine lv_lor hx hb dX6_eden_43 ?_
            refine lv_lstore_n (lv' := [(2, .long (y2_17 ||| (1 <<< (x4_17.toInt64 &&& 63)))), (0, .ref (a0 0)), (1, .int x1), (4, .int x4_17)]) hx hb dX6_eden_44 rfl hl (by decide) rfl (fun ls hl => ?_)
            refine lv_iinc (v := (x4_17 + 1)) (lv' := [(4, .int (x4_17 + 1)), (2, .long (y2_17 ||| (1 <<< (x4_17.toInt64 &&& 63)))), (0, .ref (a0 0)), (1, .int x1)]) hx hb dX6_eden_45 hl (k := 3) rfl rfl (by decide) rfl (fun ls hl => ?_)
            refine lv_goto (tgt := 17) hx hb dX6_eden_48 (by decide) ?_
            exact ih17 (y2_17 ||| (1 <<< (x4_17.toInt64 &&& 63))) (x4_17 + 1) _ (lv_sub hl [2, 3, 1, 0] rfl) hF
    exact L17 1000 0 0 _ (lv_sub hl [2, 3, 1, 0] rfl) hF
  · replace hF := iq c5 hF
    refine lv_ldc2 (own := RX6) (v := (-9223372036854775808)) hx hb hown (hts _ (List.mem_cons_of_mem _ cn_RX6_177)) dX6_eden_8 ?_
    exact W.lret hx hb hr (fun t ht hW => ⟨_, rfl, (Option.some.inj hF), ht⟩) (fun _ h => nomatch h) dX6_eden_11
noncomputable def F_X6_alike_L53 (t0 : ST) (x1 : Int32) (x2 : Int32) (k : Int32 → Int32 → Int32 → Option Int32) : Nat → Int32 → Int32 → Int32 → Option Int32
  | 0, _, _, _ => none
  | n + 1, x3, x4, x5 =>
    if 99 < x5 then
      k x3 x4 x5
    else
    if x3 = x4 then
      some x5
    else
    (F_X0_stepsADay (sb t0 3) x1).bind fun v79 =>
    (F_X1_after (sb t0 1) x3 v79).bind fun v82 =>
    (F_X0_stepsADay (sb t0 3) x2).bind fun v97 =>
    (F_X1_after (sb t0 1) x4 v97).bind fun v100 =>
    (F_X6_alike_L53 t0 x1 x2 k n) v82 v100 (x5 + 1)
noncomputable def F_X6_alike_J111 (t0 : ST) (x1 : Int32) (x2 : Int32) : Option Int32 :=
  some (-9)
noncomputable def F_X6_alike (t0 : ST) (x1 : Int32) (x2 : Int32) : Option Int32 :=
  (F_X0_has (sb t0 3) x1).bind fun v5 =>
  if v5 = 0 then
    some (-1)
  else
  (F_X0_has (sb t0 3) x2).bind fun v16 =>
  if v16 = 0 then
    some (-1)
  else
  if x1 = x2 then
    some (-1)
  else
  (rd 6 (t0 5) x1).bind fun v37 =>
  (rd 6 (t0 5) x2).bind fun v47 =>
  F_X6_alike_L53 t0 x1 x2 (fun x3_k53 x4_k53 x5_k53 => F_X6_alike_J111 t0 x1 x2) 1000 v37 v47 0
abbrev rm_X6_alike : Room := { frames := 2, cells := 0, slots := 0, locals := 42 }
set_option maxHeartbeats 4000000 in
set_option maxRecDepth 100000 in
theorem c_X6_alike (l : Launch) (D : va_G) (cI cS : ClassId) (a0 : Nat → Nat) (t0 : ST) (x1 : Int32) (x2 : Int32) (r : Int32) (hF : F_X6_alike t0 x1 x2 = some r) : Met l yX6_alike (Cond.code yX6_alike cX6_alike 6 (some .int) :: ALL) rm_X6_alike (PreR D cI cS [.ref (a0 0), .int x1, .int x2] (pC cI cS a0 t0)) (vp_Si (fun x => x = r)) 0 0 (fun _ => False) := by
  refine mR l D cI cS (by decide) (Nat.le_of_ble_eq_true rfl) ?_
  intro p e s m below meth c ls hx hb hr hml hown hts hlocks hP hK hl
  have hown : s.vm.findClass RX6 = some m.cls := hown
  have hl : lv_has ls 6 [(0, .ref (a0 0)), (1, .int x1), (2, .int x2)] := hl
  unfold F_X6_alike at hF
  refine lv_aload_n hx hb dX6_alike_0 rfl (lv_at hl 0 rfl) ?_
  refine va_get (D := D) (ci := 5) (v := .ref (a0 3)) (C := RX6) (T := TX6) (N := 8) hx hb hts (fun w h => List.mem_cons_of_mem _ (inAX6 w h)) hown hK.1 hP 0 (at_C_0 cI cS _ _) rfl 1 (by decide) (hts _ (List.mem_cons_of_mem _ fl_RX6_21)) (fun _ h9 => h9) rfl dX6_alike_1 ?_
  refine lv_iload_n hx hb dX6_alike_4 rfl (lv_at hl 1 rfl) ?_
  obtain ⟨v5, h5, hF⟩ := bd hF
  refine cRb (va_runV (As := [.int x1]) (rest := []) ⟨hx, hb, hml, hown, hts⟩ (c_X0_has l D cI cS (sa a0 3) (sb t0 3) x1 v5 h5) (cwVA hts (TW.cons _) lv_X0_has ml_RX6_92 ⟨rfl, rfl⟩ ⟨(Nat.le_of_ble_eq_true rfl), (Nat.le_of_ble_eq_true rfl)⟩) (pRV hK (hP.sub [3, 4, 5, 6] (su_C_B3 cI cS _ _)) (ci := 0) rfl rfl) rfl rfl hl.1 rfl (lv_room (Nat.le_of_ble_eq_true rfl)) dX6_alike_5 ⟨Nat.le_refl _, Nat.le_refl _⟩) (fun b5 => ?_)
  refine lv_if_eq (tgt := 27) hx hb dX6_alike_8 (by decide) (fun c8 => ?_) (fun c8 => ?_)
  · replace hF := ip c8 hF
    refine lv_iconst (v := (-1)) hx hb dX6_alike_27 (by decide) ?_
    exact W.iret hx hb hr (fun t ht hW => ⟨_, rfl, (Option.some.inj hF), ht⟩) (fun _ h => nomatch h) dX6_alike_28
  · replace hF := iq c8 hF
    refine lv_aload_n hx hb dX6_alike_11 rfl (lv_at hl 0 rfl) ?_
    refine va_get (D := D) (ci := 5) (v := .ref (a0 3)) (C := RX6) (T := TX6) (N := 8) hx hb hts (fun w h => List.mem_cons_of_mem _ (inAX6 w h)) hown hK.1 hP 0 (at_C_0 cI cS _ _) rfl 1 (by decide) (hts _ (List.mem_cons_of_mem _ fl_RX6_21)) (fun _ h9 => h9) rfl dX6_alike_12 ?_
    refine lv_iload_n hx hb dX6_alike_15 rfl (lv_at hl 2 rfl) ?_
    obtain ⟨v16, h16, hF⟩ := bd hF
    refine cRb (va_runV (As := [.int x2]) (rest := []) ⟨hx, hb, hml, hown, hts⟩ (c_X0_has l D cI cS (sa a0 3) (sb t0 3) x2 v16 h16) (cwVA hts (TW.cons _) lv_X0_has ml_RX6_92 ⟨rfl, rfl⟩ ⟨(Nat.le_of_ble_eq_true rfl), (Nat.le_of_ble_eq_true rfl)⟩) (pRV hK (hP.sub [3, 4, 5, 6] (su_C_B3 cI cS _ _)) (ci := 0) rfl rfl) rfl rfl hl.1 rfl (lv_room (Nat.le_of_ble_eq_true rfl)) dX6_alike_16 ⟨Nat.le_refl _, Nat.le_refl _⟩) (fun b16 => ?_)
    refine lv_if_eq (tgt := 27) hx hb dX6_alike_19 (by decide) (fun c19 => ?_) (fun c19 => ?_)
    · replace hF := ip c19 hF
      refine lv_iconst (v := (-1)) hx hb dX6_alike_27 (by decide) ?_
      exact W.iret hx hb hr (fun t ht hW => ⟨_, rfl, (Option.some.inj hF), ht⟩) (fun _ h => nomatch h) dX6_alike_28
    · replace hF := iq c19 hF
      refine lv_iload_n hx hb dX6_alike_22 rfl (lv_at hl 1 rfl) ?_
      refine lv_iload_n hx hb dX6_alike_23 rfl (lv_at hl 2 rfl) ?_
      refine lv_icmp_ne (tgt := 29) hx hb dX6_alike_24 (by decide) (fun c24 => ?_) (fun c24 => ?_)
      · replace hF := iq c24 hF
        refine lv_aload_n hx hb dX6_alike_29 rfl (lv_at hl 0 rfl) ?_
        refine va_get (D := D) (ci := 5) (v := .ref (a0 3)) (C := RX6) (T := TX6) (N := 8) hx hb hts (fun w h => List.mem_cons_of_mem _ (inAX6 w h)) hown hK.1 hP 0 (at_C_0 cI cS _ _) rfl 1 (by decide) (hts _ (List.mem_cons_of_mem _ fl_RX6_21)) (fun _ h9 => h9) rfl dX6_alike_30 ?_
        refine va_getN (D := D) (ci := 0) (v := .ref (a0 5)) (C := RX0) (T := TX0) (N := 6) hx hb hts (fun w h => List.mem_cons_of_mem _ (inAX0 w h)) hown hK.1 hP 3 (at_C_3 cI cS _ _) rfl 4 (by decide) (nu_RX6_99 hK) (fun _ h9 => h9) rfl dX6_alike_33 ?_
        refine lv_iload_n hx hb dX6_alike_36 rfl (lv_at hl 1 rfl) ?_
        obtain ⟨v37, h37, hF⟩ := bd hF
        refine rI hx hb hK.1 hP 5 0 (at_C_5 cI cS _ _) rfl h37 dX6_alike_37 ?_
        refine lv_istore_n (lv' := [(3, .int v37), (0, .ref (a0 0)), (1, .int x1), (2, .int x2)]) hx hb dX6_alike_38 rfl hl (by decide) rfl (fun ls hl => ?_)
        refine lv_aload_n hx hb dX6_alike_39 rfl (lv_at hl 1 rfl) ?_
        refine va_get (D := D) (ci := 5) (v := .ref (a0 3)) (C := RX6) (T := TX6) (N := 8) hx hb hts (fun w h => List.mem_cons_of_mem _ (inAX6 w h)) hown hK.1 hP 0 (at_C_0 cI cS _ _) rfl 1 (by decide) (hts _ (List.mem_cons_of_mem _ fl_RX6_21)) (fun _ h9 => h9) rfl dX6_alike_40 ?_
        refine va_getN (D := D) (ci := 0) (v := .ref (a0 5)) (C := RX0) (T := TX0) (N := 6) hx hb hts (fun w h => List.mem_cons_of_mem _ (inAX0 w h)) hown hK.1 hP 3 (at_C_3 cI cS _ _) rfl 4 (by decide) (nu_RX6_99 hK) (fun _ h9 => h9) rfl dX6_alike_43 ?_
        refine lv_iload_n hx hb dX6_alike_46 rfl (lv_at hl 3 rfl) ?_
        obtain ⟨v47, h47, hF⟩ := bd hF
        refine rI hx hb hK.1 hP 5 0 (at_C_5 cI cS _ _) rfl h47 dX6_alike_47 ?_
        refine lv_istore (lv' := [(4, .int v47), (3, .int v37), (0, .ref (a0 0)), (1, .int x1), (2, .int x2)]) hx hb dX6_alike_48 hl (by decide) rfl (fun ls hl => ?_)
        refine lv_iconst (v := 0) hx hb dX6_alike_50 (by decide) ?_
        refine lv_istore (lv' := [(5, .int 0), (4, .int v47), (3, .int v37), (0, .ref (a0 0)), (1, .int x1), (2, .int x2)]) hx hb dX6_alike_51 hl (by decide) rfl (fun ls hl => ?_)
        have L53 : ∀ (n_53 : Nat) (x3_53 : Int32) (x4_53 : Int32) (x5_53 : Int32) (ls : Array Slot), lv_has ls 6 [(0, .ref (a0 0)), (1, .int x1), (2, .int x2), (3, .int x3_53), (4, .int x4_53), (5, .int x5_53)] → F_X6_alike_L53 t0 x1 x2 (fun x3_k53 x4_k53 x5_k53 => F_X6_alike_J111 t0 x1 x2) n_53 x3_53 x4_53 x5_53 = some r → W p l e rm_X6_alike s m [.ref (a0 0), .int x1, .int x2].toArray below meth c s.heap [] 0 0 (MQ below (vp_Si (fun x => x = r)) [.ref (a0 0), .int x1, .int x2].toArray s 0 0 (fun _ => False)) (F0 m 53 ls []) := by
          intro n_53
          induction n_53 with
          | zero => intro x3_53 x4_53 x5_53 ls hl hF; exact nomatch hF
          | succ n_53 ih53 =>
            intro x3_53 x4_53 x5_53 ls hl hF
            rw [F_X6_alike_L53.eq_2] at hF
            refine lv_iload hx hb dX6_alike_53 (lv_at hl 5 rfl) ?_
            refine lv_bipush (v := 99) hx hb dX6_alike_55 (by decide) ?_
            refine lv_icmp_gt (tgt := 111) hx hb dX6_alike_57 (by decide) (fun c57 => ?_) (fun c57 => ?_)
            · replace hF := ip c57 hF
              have hF : F_X6_alike_J111 t0 x1 x2 = some r := hF
              unfold F_X6_alike_J111 at hF
              refine lv_bipush (v := (-9)) hx hb dX6_alike_111 (by decide) ?_
              exact W.iret hx hb hr (fun t ht hW => ⟨_, rfl, (Option.some.inj hF), ht⟩) (fun _ h => nomatch h) dX6_alike_113
            · replace hF := iq c57 hF
              refine lv_iload_n hx hb dX6_alike_60 rfl (lv_at hl 3 rfl) ?_
              refine lv_iload hx hb dX6_alike_61 (lv_at hl 4 rfl) ?_
              refine lv_icmp_ne (tgt := 69) hx hb dX6_alike_63 (by decide) (fun c63 => ?_) (fun c63 => ?_)
              · replace hF := iq c63 hF
                refine lv_aload_n hx hb dX6_alike_69 rfl (lv_at hl 0 rfl) ?_
                refine va_get (D := D) (ci := 5) (v := .ref (a0 1)) (C := RX6) (T := TX6) (N := 8) hx hb hts (fun w h => List.mem_cons_of_mem _ (inAX6 w h)) hown hK.1 hP 0 (at_C_0 cI cS _ _) rfl 0 (by decide) (hts _ (List.mem_cons_of_mem _ fl_RX6_12)) (fun _ h9 => h9) rfl dX6_alike_70 ?_
                refine lv_iload_n hx hb dX6_alike_73 rfl (lv_at hl 3 rfl) ?_
                refine lv_aload_n hx hb dX6_alike_74 rfl (lv_at hl 0 rfl) ?_
                refine va_get (D := D) (ci := 5) (v := .ref (a0 3)) (C := RX6) (T := TX6) (N := 8) hx hb hts (fun w h => List.mem_cons_of_mem _ (inAX6 w h)) hown hK.1 hP 0 (at_C_0 cI cS _ _) rfl 1 (by decide) (hts _ (List.mem_cons_of_mem _ fl_RX6_21)) (fun _ h9 => h9) rfl dX6_alike_75 ?_
                refine lv_iload_n hx hb dX6_alike_78 rfl (lv_at hl 1 rfl) ?_
                obtain ⟨v79, h79, hF⟩ := bd hF
                refine cRe (va_runV (As := [.int x1]) (rest := [.int x3_53, .ref (a0 1)]) ⟨hx, hb, hml, hown, hts⟩ (c_X0_stepsADay l D cI cS (sa a0 3) (sb t0 3) x1 v79 h79) (cwVA hts (TW.cons _) lv_X0_stepsADay ml_RX6_105 ⟨rfl, rfl⟩ ⟨(Nat.le_of_ble_eq_true rfl), (Nat.le_of_ble_eq_true rfl)⟩) (pRV hK (hP.sub [3, 4, 5, 6] (su_C_B3 cI cS _ _)) (ci := 0) rfl rfl) rfl rfl hl.1 rfl (lv_room (Nat.le_of_ble_eq_true rfl)) dX6_alike_79 ⟨Nat.le_refl _, Nat.le_refl _⟩) ?_
                obtain ⟨v82, h82, hF⟩ := bd hF
                refine cRe (va_runV (As := [.int x3_53, .int v79]) (rest := []) ⟨hx, hb, hml, hown, hts⟩ (c_X1_after l D cI cS (sa a0 1) (sb t0 1) x3_53 v79 v82 h82) (cwVA hts (TW.cons _) lv_X1_after ml_RX6_119 ⟨rfl, rfl⟩ ⟨(Nat.le_of_ble_eq_true rfl), (Nat.le_of_ble_eq_true rfl)⟩) (pRV hK (hP.sub [1, 2] (su_C_L1 cI cS _ _)) (ci := 1) rfl rfl) rfl rfl hl.1 rfl (lv_room (Nat.le_of_ble_eq_true rfl)) dX6_alike_82 ⟨Nat.le_refl _, Nat.le_refl _⟩) ?_
                refine lv_istore_n (lv' := [(3, .int v82), (0, .ref (a0 0)), (1, .int x1), (2, .int x2), (4, .int x4_53), (5, .int x5_53)]) hx hb dX6_alike_85 rfl hl (by decide) rfl (fun ls hl => ?_)
                refine lv_aload_n hx hb dX6_alike_86 rfl (lv_at hl 1 rfl) ?_
                refine va_get (D := D) (ci := 5) (v := .ref (a0 1)) (C := RX6) (T := TX6) (N := 8) hx hb hts (fun w h => List.mem_cons_of_mem _ (inAX6 w h)) hown hK.1 hP 0 (at_C_0 cI cS _ _) rfl 0 (by decide) (hts _ (List.mem_cons_of_mem _ fl_RX6_12)) (fun _ h9 => h9) rfl dX6_alike_87 ?_
                refine lv_iload hx hb dX6_alike_90 (lv_at hl 4 rfl) ?_
                refine lv_aload_n hx hb dX6_alike_92 rfl (lv_at hl 1 rfl) ?_
                refine va_get (D := D) (ci := 5) (v := .ref (a0 3)) (C := RX6) (T := TX6) (N := 8) hx hb hts (fun w h => List.mem_cons_of_mem _ (inAX6 w h)) hown hK.1 hP 0 (at_C_0 cI cS _ _) rfl 1 (by decide) (hts _ (List.mem_cons_of_mem _ fl_RX6_21)) (fun _ h9 => h9) rfl dX6_alike_93 ?_
                refine lv_iload_n hx hb dX6_alike_96 rfl (lv_at hl 3 rfl) ?_
                obtain ⟨v97, h97, hF⟩ := bd hF
                refine cRe (va_runV (As := [.int x2]) (rest := [.int x4_53, .ref (a0 1)]) ⟨hx, hb, hml, hown, hts⟩ (c_X0_stepsADay l D cI cS (sa a0 3) (sb t0 3) x2 v97 h97) (cwVA hts (TW.cons _) lv_X0_stepsADay ml_RX6_105 ⟨rfl, rfl⟩ ⟨(Nat.le_of_ble_eq_true rfl), (Nat.le_of_ble_eq_true rfl)⟩) (pRV hK (hP.sub [3, 4, 5, 6] (su_C_B3 cI cS _ _)) (ci := 0) rfl rfl) rfl rfl hl.1 rfl (lv_room (Nat.le_of_ble_eq_true rfl)) dX6_alike_97 ⟨Nat.le_refl _, Nat.le_refl _⟩) ?_
                obtain ⟨v100, h100, hF⟩ := bd hF
                refine cRe (va_runV (As := [.int x4_53, .int v97]) (rest := []) ⟨hx, hb, hml, hown, hts⟩ (c_X1_after l D cI cS (sa a0 1) (sb t0 1) x4_53 v97 v100 h100) (cwVA hts (TW.cons _) lv_X1_after ml_RX6_119 ⟨rfl, rfl⟩ ⟨(Nat.le_of_ble_eq_true rfl), (Nat.le_of_ble_eq_true rfl)⟩) (pRV hK (hP.sub [1, 2] (su_C_L1 cI cS _ _)) (ci := 1) rfl rfl) rfl rfl hl.1 rfl (lv_room (Nat.le_of_ble_eq_true rfl)) dX6_alike_100 ⟨Nat.le_refl _, Nat.le_refl _⟩) ?_
                refine lv_istore (lv' := [(4, .int v100), (3, .int v82), (0, .ref (a0 0)), (1, .int x1), (2, .int x2), (5, .int x5_53)]) hx hb dX6_alike_103 hl (by decide) rfl (fun ls hl => ?_)
                refine lv_iinc (v := (x5_53 + 1)) (lv' := [(5, .int (x5_53 + 1)), (4, .int v100), (3, .int v82), (0, .ref (a0 0)), (1, .int x1), (2, .int x2)]) hx hb dX6_alike_105 hl (k := 5) rfl rfl (by decide) rfl (fun ls hl => ?_)
                refine lv_goto (tgt := 53) hx hb dX6_alike_108 (by decide) ?_
                exact ih53 v82 v100 (x5_53 + 1) _ (lv_sub hl [3, 4, 5, 2, 1, 0] rfl) hF
              · replace hF := ip c63 hF
                refine lv_iload hx hb dX6_alike_66 (lv_at hl 5 rfl) ?_
                exact W.iret hx hb hr (fun t ht hW => ⟨_, rfl, (Option.some.inj hF), ht⟩) (fun _ h => nomatch h) dX6_alike_68
        exact L53 1000 v37 v47 0 _ (lv_sub hl [3, 4, 5, 2, 1, 0] rfl) hF
      · replace hF := ip c24 hF
        refine lv_iconst (v := (-1)) hx hb dX6_alike_27 (by decide) ?_
        exact W.iret hx hb hr (fun t ht hW => ⟨_, rfl, (Option.some.inj hF), ht⟩) (fun _ h => nomatch h) dX6_alike_28
noncomputable def F_X6_lawsBy_L42 (t0 : ST) (x1 : Int32) (x2 : Int32) (x3 : Int32) (x6 : Int32) (x7 : Int32) (x8 : Int32) (k : Int32 → Int32 → Int32 → Option Int32) : Nat → Int32 → Int32 → Int32 → Option Int32
  | 0, _, _, _ => none
  | n + 1, x4, x5, x9 =>
    if 6 ≤ x9 then
      k x4 x5 x9
    else
    (F_X1_bitOf x7 x9).bind fun v54 =>
    if ((x8 >>> (x9 &&& 31)) &&& 1) = 1 then
      (F_X6_lawsBy_L42 t0 x1 x2 x3 x6 x7 x8 k n) (x4 ||| (1 <<< (v54 &&& 31))) x5 (x9 + 1)
    else
    (F_X6_lawsBy_L42 t0 x1 x2 x3 x6 x7 x8 k n) x4 (x5 ||| (1 <<< (v54 &&& 31))) (x9 + 1)
noncomputable def F_X6_lawsBy_J94 (t0 : ST) (x1 : Int32) (x2 : Int32) (x3 : Int32) (g k : Int32 → Int32 → Int32 → Option Int32) (x4 : Int32) (x5 : Int32) (x6 : Int32) : Option Int32 :=
  g x4 x5 (x6 + 1)
noncomputable def F_X6_lawsBy_L9 (t0 : ST) (x1 : Int32) (x2 : Int32) (x3 : Int32) (k : Int32 → Int32 → Int32 → Option Int32) : Nat → Int32 → Int32 → Int32 → Option Int32
  | 0, _, _, _ => none
  | n + 1, x4, x5, x6 =>
    if x2 ≤ (x6 + 1) then
      k x4 x5 x6
    else
    (F_X3_at t0 (x1 + x6)).bind fun v22 =>
    (F_X3_at t0 ((x1 + x6) + 1)).bind fun v34 =>
    F_X6_lawsBy_L42 t0 x1 x2 x3 x6 v22 v34 (fun x4_k42 x5_k42 x9_k42 => F_X6_lawsBy_J94 t0 x1 x2 x3 (F_X6_lawsBy_L9 t0 x1 x2 x3 k n) k x4_k42 x5_k42 x6) 1000 x4 x5 0
noncomputable def F_X6_lawsBy_J113 (t0 : ST) (x1 : Int32) (x2 : Int32) (x3 : Int32) (x4 : Int32) (x5 : Int32) (z0 : Int32) : Option Int32 :=
  if x3 = 0 then
    if z0 = 0 then
      some 0
    else
    (F_J6_bitCount_0f7a4 (x4 ||| x5)).bind fun v132 =>
    some (256 >>> (v132 &&& 31))
  else
  if z0 = 0 then
    some (-9)
  else
  if x3 = 1 then
    some x4
  else
  some (255 - x5)
noncomputable def F_X6_lawsBy_J100 (t0 : ST) (x1 : Int32) (x2 : Int32) (x3 : Int32) (x4 : Int32) (x5 : Int32) : Option Int32 :=
  if (x4 &&& x5) = 0 then
    F_X6_lawsBy_J113 t0 x1 x2 x3 x4 x5 1
  else
  F_X6_lawsBy_J113 t0 x1 x2 x3 x4 x5 0
noncomputable def F_X6_lawsBy (t0 : ST) (x1 : Int32) (x2 : Int32) (x3 : Int32) : Option Int32 :=
  F_X6_lawsBy_L9 t0 x1 x2 x3 (fun x4_k9 x5_k9 x6_k9 => F_X6_lawsBy_J100 t0 x1 x2 x3 x4_k9 x5_k9) 1000 0 0 0
abbrev rm_X6_lawsBy : Room := { frames := 1, cells := 0, slots := 0, locals := 24 }
set_option maxHeartbeats 4000000 in
set_option maxRecDepth 100000 in
theorem c_X6_lawsBy (l : Launch) (D : va_G) (cI cS : ClassId) (a0 : Nat → Nat) (t0 : ST) (x1 : Int32) (x2 : Int32) (x3 : Int32) (r : Int32) (hF : F_X6_lawsBy t0 x1 x2 x3 = some r) : Met l yX6_lawsBy (Cond.code yX6_lawsBy cX6_lawsBy 11 (some .int) :: ALL) rm_X6_lawsBy (PreR D cI cS [.ref (a0 0), .int x1, .int x2, .int x3] (pS cI cS a0 t0)) (vp_Si (fun x => x = r)) 0 0 (fun _ => False) := by
  refine mR l D cI cS (by decide) (Nat.le_of_ble_eq_true rfl) ?_
  intro p e s m below meth c ls hx hb hr hml hown hts hlocks hP hK hl
  have hown : s.vm.findClass RX6 = some m.cls := hown
  have hl : lv_has ls 11 [(0, .ref (a0 0)), (1, .int x1), (2, .int x2), (3, .int x3)] := hl
  unfold F_X6_lawsBy at hF
  refine lv_iconst (v := 0) hx hb dX6_lawsBy_0 (by decide) ?_
  refine lv_istore (lv' := [(4, .int 0), (0, .ref (a0 0)), (1, .int x1), (2, .int x2), (3, .int x3)]) hx hb dX6_lawsBy_1 hl (by decide) rfl (fun ls hl => ?_)
  refine lv_iconst (v := 0) hx hb dX6_lawsBy_3 (by decide) ?_
  refine lv_istore (lv' := [(5, .int 0), (4, .int 0), (0, .ref (a0 0)), (1, .int x1), (2, .int x2), (3, .int x3)]) hx hb dX6_lawsBy_4 hl (by decide) rfl (fun ls hl => ?_)
  refine lv_iconst (v := 0) hx hb dX6_lawsBy_6 (by decide) ?_
  refine lv_istore (lv' := [(6, .int 0), (5, .int 0), (4, .int 0), (0, .ref (a0 0)), (1, .int x1), (2, .int x2), (3, .int x3)]) hx hb dX6_lawsBy_7 hl (by decide) rfl (fun ls hl => ?_)
  have L9 : ∀ (n_9 : Nat) (x4_9 : Int32) (x5_9 : Int32) (x6_9 : Int32) (ls : Array Slot), lv_has ls 11 [(0, .ref (a0 0)), (1, .int x1), (2, .int x2), (3, .int x3), (4, .int x4_9), (5, .int x5_9), (6, .int x6_9)] → F_X6_lawsBy_L9 t0 x1 x2 x3 (fun x4_k9 x5_k9 x6_k9 => F_X6_lawsBy_J100 t0 x1 x2 x3 x4_k9 x5_k9) n_9 x4_9 x5_9 x6_9 = some r → W p l e rm_X6_lawsBy s m [.ref (a0 0), .int x1, .int x2, .int x3].toArray below meth c s.heap [] 0 0 (MQ below (vp_Si (fun x => x = r)) [.ref (a0 0), .int x1, .int x2, .int x3].toArray s 0 0 (fun _ => False)) (F0 m 9 ls []) := by
    intro n_9
    induction n_9 with
    | zero => intro x4_9 x5_9 x6_9 ls hl hF; exact nomatch hF
    | succ n_9 ih9 =>
      intro x4_9 x5_9 x6_9 ls hl hF
      rw [F_X6_lawsBy_L9.eq_2] at hF
      refine lv_iload hx hb dX6_lawsBy_9 (lv_at hl 6 rfl) ?_
      refine lv_iconst (v := 1) hx hb dX6_lawsBy_11 (by decide) ?_
      refine lv_iadd hx hb dX6_lawsBy_12 ?_
      refine lv_iload_n hx hb dX6_lawsBy_13 rfl (lv_at hl 2 rfl) ?_
      refine lv_icmp_ge (tgt := 100) hx hb dX6_lawsBy_14 (by decide) (fun c14 => ?_) (fun c14 => ?_)
      · replace hF := ip c14 hF
        have hF : F_X6_lawsBy_J100 t0 x1 x2 x3 x4_9 x5_9 = some r := hF
        unfold F_X6_lawsBy_J100 at hF
        refine lv_iload hx hb dX6_lawsBy_100 (lv_at hl 4 rfl) ?_
        refine lv_iload hx hb dX6_lawsBy_102 (lv_at hl 5 rfl) ?_
        refine lv_iand hx hb dX6_lawsBy_104 ?_
        have J113 : ∀ (x4_113 : Int32) (x5_113 : Int32) (z0_113 : Int32) (ls : Array Slot), lv_has ls 11 [(3, .int x3), (4, .int x4_113), (5, .int x5_113)] → F_X6_lawsBy_J113 t0 x1 x2 x3 x4_113 x5_113 z0_113 = some r → W p l e rm_X6_lawsBy s m [.ref (a0 0), .int x1, .int x2, .int x3].toArray below meth c s.heap [] 0 0 (MQ below (vp_Si (fun x => x = r)) [.ref (a0 0), .int x1, .int x2, .int x3].toArray s 0 0 (fun _ => False)) (F0 m 113 ls [.int z0_113]) := by
          intro x4_113 x5_113 z0_113 ls hl hF
          unfold F_X6_lawsBy_J113 at hF
          refine lv_istore (lv' := [(6, .int z0_113), (3, .int x3), (4, .int x4_113), (5, .int x5_113)]) hx hb dX6_lawsBy_113 hl (by decide) rfl (fun ls hl => ?_)
          refine lv_iload_n hx hb dX6_lawsBy_115 rfl (lv_at hl 1 rfl) ?_
          refine lv_if_ne (tgt := 141) hx hb dX6_lawsBy_116 (by decide) (fun c116 => ?_) (fun c116 => ?_)
          · replace hF := iq c116 hF
            refine lv_iload hx hb dX6_lawsBy_141 (lv_at hl 0 rfl) ?_
            refine lv_if_ne (tgt := 149) hx hb dX6_lawsBy_143 (by decide) (fun c143 => ?_) (fun c143 => ?_)
            · replace hF := iq c143 hF
              refine lv_iload_n hx hb dX6_lawsBy_149 rfl (lv_at hl 1 rfl) ?_
              refine lv_iconst (v := 1) hx hb dX6_lawsBy_150 (by decide) ?_
              refine lv_icmp_ne (tgt := 159) hx hb dX6_lawsBy_151 (by decide) (fun c151 => ?_) (fun c151 => ?_)
              · replace hF := iq c151 hF
                refine lv_sipush (v := 255) hx hb dX6_lawsBy_159 (by decide) ?_
                refine lv_iload hx hb dX6_lawsBy_162 (lv_at hl 3 rfl) ?_
                refine lv_isub hx hb dX6_lawsBy_164 ?_
                exact W.iret hx hb hr (fun t ht hW => ⟨_, rfl, (Option.some.inj hF), ht⟩) (fun _ h => nomatch h) dX6_lawsBy_165
              · replace hF := ip c151 hF
                refine lv_iload hx hb dX6_lawsBy_154 (lv_at hl 2 rfl) ?_
                refine lv_goto (tgt := 165) hx hb dX6_lawsBy_156 (by decide) ?_
                exact W.iret hx hb hr (fun t ht hW => ⟨_, rfl, (Option.some.inj hF), ht⟩) (fun _ h => nomatch h) dX6_lawsBy_165
            · replace hF := ip c143 hF
              refine lv_bipush (v := (-9)) hx hb dX6_lawsBy_146 (by decide) ?_
              exact W.iret hx hb hr (fun t ht hW => ⟨_, rfl, (Option.some.inj hF), ht⟩) (fun _ h => nomatch h) dX6_lawsBy_148
          · replace hF := ip c116 hF
            refine lv_iload hx hb dX6_lawsBy_119 (lv_at hl 0 rfl) ?_
            refine lv_if_eq (tgt := 139) hx hb dX6_lawsBy_121 (by decide) (fun c121 => ?_) (fun c121 => ?_)
            · replace hF := ip c121 hF
              refine lv_iconst (v := 0) hx hb dX6_lawsBy_139 (by decide) ?_
              exact W.iret hx hb hr (fun t ht hW => ⟨_, rfl, (Option.some.inj hF), ht⟩) (fun _ h => nomatch h) dX6_lawsBy_140
            · replace hF := iq c121 hF
              refine lv_sipush (v := 256) hx hb dX6_lawsBy_124 (by decide) ?_
              refine lv_iload hx hb dX6_lawsBy_127 (lv_at hl 2 rfl) ?_
              refine lv_iload hx hb dX6_lawsBy_129 (lv_at hl 3 rfl) ?_
              refine lv_ior hx hb dX6_lawsBy_131 ?_
              obtain ⟨v132, h132, hF⟩ := bd hF
              refine cRe (va_runS (As := [.int (x4_113 ||| x5_113)]) (rest := [.int 256]) ⟨hx, hb, hml, hown, hts⟩ (c_J6_bitCount_0f7a4 l D cI cS (x4_113 ||| x5_113) v132 h132) (cwSA hts (TW.cons _) ls_J6_bitCount_0f7a4 ml_RX6_111 ⟨rfl, rfl⟩ ⟨(Nat.le_of_ble_eq_true rfl), (Nat.le_of_ble_eq_true rfl)⟩) (pRS hK pnil) rfl rfl hl.1 rfl (lv_room (Nat.le_of_ble_eq_true rfl)) dX6_lawsBy_132 ⟨Nat.le_refl _, Nat.le_refl _⟩) ?_
              refine lv_ishr hx hb dX6_lawsBy_135 ?_
              refine lv_goto (tgt := 140) hx hb dX6_lawsBy_136 (by decide) ?_
              exact W.iret hx hb hr (fun t ht hW => ⟨_, rfl, (Option.some.inj hF), ht⟩) (fun _ h => nomatch h) dX6_lawsBy_140
        refine lv_if_ne (tgt := 112) hx hb dX6_lawsBy_105 (by decide) (fun c105 => ?_) (fun c105 => ?_)
        · replace hF := iq c105 hF
          refine lv_iconst (v := 0) hx hb dX6_lawsBy_112 (by decide) ?_
          exact J113 x4_9 x5_9 0 _ (lv_sub hl [3, 4, 5] rfl) hF
        · replace hF := ip c105 hF
          refine lv_iconst (v := 1) hx hb dX6_lawsBy_108 (by decide) ?_
          refine lv_goto (tgt := 113) hx hb dX6_lawsBy_109 (by decide) ?_
          exact J113 x4_9 x5_9 1 _ (lv_sub hl [3, 4, 5] rfl) hF
      · replace hF := iq c14 hF
        refine lv_aload_n hx hb dX6_lawsBy_17 rfl (lv_at hl 0 rfl) ?_
        refine lv_iload_n hx hb dX6_lawsBy_18 rfl (lv_at hl 1 rfl) ?_
        refine lv_iload hx hb dX6_lawsBy_19 (lv_at hl 6 rfl) ?_
        refine lv_iadd hx hb dX6_lawsBy_21 ?_
        obtain ⟨v22, h22, hF⟩ := bd hF
        refine cRe (va_runV (As := [.int (x1 + x6_9)]) (rest := []) ⟨hx, hb, hml, hown, hts⟩ (c_X3_at l D cI cS a0 t0 (x1 + x6_9) v22 h22) (cwVA hts (TW.cons _) lv_X3_at ml_RX6_179 ⟨rfl, rfl⟩ ⟨(Nat.le_of_ble_eq_true rfl), (Nat.le_of_ble_eq_true rfl)⟩) (pRV hK hP (ci := 3) rfl rfl) rfl rfl hl.1 rfl (lv_room (Nat.le_of_ble_eq_true rfl)) dX6_lawsBy_22 ⟨Nat.le_refl _, Nat.le_refl _⟩) ?_
        refine lv_istore (lv' := [(7, .int v22), (0, .ref (a0 0)), (1, .int x1), (2, .int x2), (3, .int x3), (4, .int x4_9), (5, .int x5_9), (6, .int x6_9)]) hx hb dX6_lawsBy_25 hl (by decide) rfl (fun ls hl => ?_)
        refine lv_aload_n hx hb dX6_lawsBy_27 rfl (lv_at hl 1 rfl) ?_
        refine lv_iload_n hx hb dX6_lawsBy_28 rfl (lv_at hl 2 rfl) ?_
        refine lv_iload hx hb dX6_lawsBy_29 (lv_at hl 7 rfl) ?_
        refine lv_iadd hx hb dX6_lawsBy_31 ?_
        refine lv_iconst (v := 1) hx hb dX6_lawsBy_32 (by decide) ?_
        refine lv_iadd hx hb dX6_lawsBy_33 ?_
        obtain ⟨v34, h34, hF⟩ := bd hF
        refine cRe (va_runV (As := [.int ((x1 + x6_9) + 1)]) (rest := []) ⟨hx, hb, hml, hown, hts⟩ (c_X3_at l D cI cS a0 t0 ((x1 + x6_9) + 1) v34 h34) (cwVA hts (TW.cons _) lv_X3_at ml_RX6_179 ⟨rfl, rfl⟩ ⟨(Nat.le_of_ble_eq_true rfl), (Nat.le_of_ble_eq_true rfl)⟩) (pRV hK hP (ci := 3) rfl rfl) rfl rfl hl.1 rfl (lv_room (Nat.le_of_ble_eq_true rfl)) dX6_lawsBy_34 ⟨Nat.le_refl _, Nat.le_refl _⟩) ?_
        refine lv_istore (lv' := [(8, .int v34), (7, .int v22), (0, .ref (a0 0)), (1, .int x1), (2, .int x2), (3, .int x3), (4, .int x4_9), (5, .int x5_9), (6, .int x6_9)]) hx hb dX6_lawsBy_37 hl (by decide) rfl (fun ls hl => ?_)
        refine lv_iconst (v := 0) hx hb dX6_lawsBy_39 (by decide) ?_
        refine lv_istore (lv' := [(9, .int 0), (8, .int v34), (7, .int v22), (0, .ref (a0 0)), (1, .int x1), (2, .int x2), (3, .int x3), (4, .int x4_9), (5, .int x5_9), (6, .int x6_9)]) hx hb dX6_lawsBy_40 hl (by decide) rfl (fun ls hl => ?_)
        have L42 : ∀ (n_42 : Nat) (x4_42 : Int32) (x5_42 : Int32) (x9_42 : Int32) (ls : Array Slot), lv_has ls 11 [(0, .ref (a0 0)), (1, .int x1), (2, .int x2), (3, .int x3), (4, .int x4_42), (5, .int x5_42), (6, .int x6_9), (7, .int v22), (8, .int v34), (9, .int x9_42)] → F_X6_lawsBy_L42 t0 x1 x2 x3 x6_9 v22 v34 (fun x4_k42 x5_k42 x9_k42 => F_X6_lawsBy_J94 t0 x1 x2 x3 (F_X6_lawsBy_L9 t0 x1 x2 x3 (fun x4_k9 x5_k9 x6_k9 => F_X6_lawsBy_J100 t0 x1 x2 x3 x4_k9 x5_k9) n_9) (fun x4_k9 x5_k9 x6_k9 => F_X6_lawsBy_J100 t0 x1 x2 x3 x4_k9 x5_k9) x4_k42 x5_k42 x6_9) n_42 x4_42 x5_42 x9_42 = some r → W p l e rm_X6_lawsBy s m [.ref (a0 0), .int x1, .int x2, .int x3].toArray below meth c s.heap [] 0 0 (MQ below (vp_Si (fun x => x = r)) [.ref (a0 0), .int x1, .int x2, .int x3].toArray s 0 0 (fun _ => False)) (F0 m 42 ls []) := by
          intro n_42
          induction n_42 with
          | zero => intro x4_42 x5_42 x9_42 ls hl hF; exact nomatch hF
          | succ n_42 ih42 =>
            intro x4_42 x5_42 x9_42 ls hl hF
            rw [F_X6_lawsBy_L42.eq_2] at hF
            refine lv_iload hx hb dX6_lawsBy_42 (lv_at hl 9 rfl) ?_
            refine lv_bipush (v := 6) hx hb dX6_lawsBy_44 (by decide) ?_
            refine lv_icmp_ge (tgt := 94) hx hb dX6_lawsBy_46 (by decide) (fun c46 => ?_) (fun c46 => ?_)
            · replace hF := ip c46 hF
              have hF : F_X6_lawsBy_J94 t0 x1 x2 x3 (F_X6_lawsBy_L9 t0 x1 x2 x3 (fun x4_k9 x5_k9 x6_k9 => F_X6_lawsBy_J100 t0 x1 x2 x3 x4_k9 x5_k9) n_9) (fun x4_k9 x5_k9 x6_k9 => F_X6_lawsBy_J100 t0 x1 x2 x3 x4_k9 x5_k9) x4_42 x5_42 x6_9 = some r := hF
              unfold F_X6_lawsBy_J94 at hF
              refine lv_iinc (v := (x6_9 + 1)) (lv' := [(6, .int (x6_9 + 1)), (0, .ref (a0 0)), (1, .int x1), (2, .int x2), (3, .int x3), (4, .int x4_42), (5, .int x5_42), (7, .int v22), (8, .int v34), (9, .int x9_42)]) hx hb dX6_lawsBy_94 hl (k := 6) rfl rfl (by decide) rfl (fun ls hl => ?_)
              refine lv_goto (tgt := 9) hx hb dX6_lawsBy_97 (by decide) ?_
              exact ih9 x4_42 x5_42 (x6_9 + 1) _ (lv_sub hl [1, 2, 3, 4, 5, 6, 0] rfl) hF
            · replace hF := iq c46 hF
              refine lv_iconst (v := 1) hx hb dX6_lawsBy_49 (by decide) ?_
              refine lv_iload hx hb dX6_lawsBy_50 (lv_at hl 7 rfl) ?_
              refine lv_iload hx hb dX6_lawsBy_52 (lv_at hl 9 rfl) ?_
              obtain ⟨v54, h54, hF⟩ := bd hF
              refine cRe (va_runS (As := [.int v22, .int x9_42]) (rest := [.int 1]) ⟨hx, hb, hml, hown, hts⟩ (c_X1_bitOf l D cI cS v22 x9_42 v54 h54) (cwSA hts (TW.cons _) ls_X1_bitOf ml_RX6_186 ⟨rfl, rfl⟩ ⟨(Nat.le_of_ble_eq_true rfl), (Nat.le_of_ble_eq_true rfl)⟩) (pRS hK pnil) rfl rfl hl.1 rfl (lv_room (Nat.le_of_ble_eq_true rfl)) dX6_lawsBy_54 ⟨Nat.le_refl _, Nat.le_refl _⟩) ?_
              refine lv_ishl hx hb dX6_lawsBy_57 ?_
              refine lv_istore (lv' := [(10, .int (1 <<< (v54 &&& 31))), (0, .ref (a0 0)), (1, .int x1), (2, .int x2), (3, .int x3), (4, .int x4_42), (5, .int x5_42), (6, .int x6_9), (7, .int v22), (8, .int v34), (9, .int x9_42)]) hx hb dX6_lawsBy_58 hl (by decide) rfl (fun ls hl => ?_)
              refine lv_iload hx hb dX6_lawsBy_60 (lv_at hl 9 rfl) ?_
              refine lv_iload hx hb dX6_lawsBy_62 (lv_at hl 10 rfl) ?_
              refine lv_ishr hx hb dX6_lawsBy_64 ?_
              refine lv_iconst (v := 1) hx hb dX6_lawsBy_65 (by decide) ?_
              refine lv_iand hx hb dX6_lawsBy_66 ?_
              refine lv_iconst (v := 1) hx hb dX6_lawsBy_67 (by decide) ?_
              refine lv_icmp_ne (tgt := 81) hx hb dX6_lawsBy_68 (by decide) (fun c68 => ?_) (fun c68 => ?_)
              · replace hF := iq c68 hF
                refine lv_iload hx hb dX6_lawsBy_81 (lv_at hl 6 rfl) ?_
                refine lv_iload hx hb dX6_lawsBy_83 (lv_at hl 0 rfl) ?_
                refine lv_ior hx hb dX6_lawsBy_85 ?_
                refine lv_istore (lv' := [(5, .int (x5_42 ||| (1 <<< (v54 &&& 31)))), (10, .int (1 <<< (v54 &&& 31))), (0, .ref (a0 0)), (1, .int x1), (2, .int x2), (3, .int x3), (4, .int x4_42), (6, .int x6_9), (7, .int v22), (8, .int v34), (9, .int x9_42)]) hx hb dX6_lawsBy_86 hl (by decide) rfl (fun ls hl => ?_)
                refine lv_iinc (v := (x9_42 + 1)) (lv' := [(9, .int (x9_42 + 1)), (5, .int (x5_42 ||| (1 <<< (v54 &&& 31)))), (10, .int (1 <<< (v54 &&& 31))), (0, .ref (a0 0)), (1, .int x1), (2, .int x2), (3, .int x3), (4, .int x4_42), (6, .int x6_9), (7, .int v22), (8, .int v34)]) hx hb dX6_lawsBy_88 hl (k := 10) rfl rfl (by decide) rfl (fun ls hl => ?_)
                refine lv_goto (tgt := 42) hx hb dX6_lawsBy_91 (by decide) ?_
                exact ih42 x4_42 (x5_42 ||| (1 <<< (v54 &&& 31))) (x9_42 + 1) _ (lv_sub hl [3, 4, 5, 6, 7, 1, 8, 9, 10, 0] rfl) hF
              · replace hF := ip c68 hF
                refine lv_iload hx hb dX6_lawsBy_71 (lv_at hl 5 rfl) ?_
                refine lv_iload hx hb dX6_lawsBy_73 (lv_at hl 0 rfl) ?_
                refine lv_ior hx hb dX6_lawsBy_75 ?_
                refine lv_istore (lv' := [(4, .int (x4_42 ||| (1 <<< (v54 &&& 31)))), (10, .int (1 <<< (v54 &&& 31))), (0, .ref (a0 0)), (1, .int x1), (2, .int x2), (3, .int x3), (5, .int x5_42), (6, .int x6_9), (7, .int v22), (8, .int v34), (9, .int x9_42)]) hx hb dX6_lawsBy_76 hl (by decide) rfl (fun ls hl => ?_)
                refine lv_goto (tgt := 88) hx hb dX6_lawsBy_78 (by decide) ?_
                refine lv_iinc (v := (x9_42 + 1)) (lv' := [(9, .int (x9_42 + 1)), (4, .int (x4_42 ||| (1 <<< (v54 &&& 31)))), (10, .int (1 <<< (v54 &&& 31))), (0, .ref (a0 0)), (1, .int x1), (2, .int x2), (3, .int x3), (5, .int x5_42), (6, .int x6_9), (7, .int v22), (8, .int v34)]) hx hb dX6_lawsBy_88 hl (k := 10) rfl rfl (by decide) rfl (fun ls hl => ?_)
                refine lv_goto (tgt := 42) hx hb dX6_lawsBy_91 (by decide) ?_
                exact ih42 (x4_42 ||| (1 <<< (v54 &&& 31))) x5_42 (x9_42 + 1) _ (lv_sub hl [3, 4, 5, 6, 1, 7, 8, 9, 10, 0] rfl) hF
        exact L42 1000 x4_9 x5_9 0 _ (lv_sub hl [3, 4, 5, 6, 7, 8, 9, 2, 1, 0] rfl) hF
  exact L9 1000 0 0 0 _ (lv_sub hl [3, 4, 5, 6, 2, 1, 0] rfl) hF
