noncomputable def F_X6_copy (t0 : ST) (x1 : Int32) (x2 : Int32) (x3 : Int32) (x4 : Int32) (x5 : Int32) : Option (Int32 × ST) :=
  (F_X6_isSheet x1).bind fun v1 =>
  if v1 = 0 then
    b2 (F_X6_withoutFault t0 (-1)) fun v16 u16 =>
    some (v16, u16)
  else
  (F_X6_isSheet x3).bind fun v8 =>
  if v8 = 0 then
    b2 (F_X6_withoutFault t0 (-1)) fun v16 u16 =>
    some (v16, u16)
  else
  (ix 4 x1).bind fun k25 =>
  (ix 4 x3).bind fun k33 =>
  if (t0 (20 + 2 * k25) 0) = 0 then
    b2 (F_X6_withFault t0 1) fun v54 u54 =>
    some (v54, u54)
  else
  if (t0 (20 + 2 * k33) 0) = 0 then
    b2 (F_X6_withFault t0 1) fun v54 u54 =>
    some (v54, u54)
  else
  if (t0 (20 + 2 * k25) 1) = (t0 (20 + 2 * k33) 1) then
    (F_X3_reaches (sb t0 (20 + 2 * k25)) x2 x5).bind fun v82 =>
    if v82 = 0 then
      b2 (F_X6_withFault t0 3) fun v102 u102 =>
      some (v102, u102)
    else
    (F_X3_reaches (sb t0 (20 + 2 * k33)) x4 x5).bind fun v94 =>
    if v94 = 0 then
      b2 (F_X6_withFault t0 3) fun v102 u102 =>
      some (v102, u102)
    else
    (cpy 60 60 (t0 (21 + 2 * k25)) (t0 (21 + 2 * k33)) x2 x4 x5).bind fun g121 =>
    b2 (F_X6_withoutFault (sr t0 (21 + 2 * k33) g121) x5) fun v127 u127 =>
    some (v127, u127)
  else
  b2 (F_X6_withFault t0 2) fun v73 u73 =>
  some (v73, u73)
abbrev rm_X6_copy : Room := { frames := 1, cells := 0, slots := 0, locals := 40 }
set_option maxHeartbeats 4000000 in
set_option maxRecDepth 100000 in
theorem c_X6_copy (l : Launch) (D : va_G) (cI cS : ClassId) (a0 : Nat → Nat) (t0 : ST) (x1 : Int32) (x2 : Int32) (x3 : Int32) (x4 : Int32) (x5 : Int32) (r : Int32) (t' : ST) (hF : F_X6_copy t0 x1 x2 x3 x4 x5 = some (r, t')) : Met l yX6_copy (Cond.code yX6_copy cX6_copy 8 (some .int) :: ALL) rm_X6_copy (PreW D cI cS [.ref (a0 0), .int x1, .int x2, .int x3, .int x4, .int x5] (pC cI cS a0 t0)) (va_Qi (fun x (_ : Unit) => x = r) (fun _ t => va_P D vwCl (pC cI cS a0 t') t.heap) (AD (pC cI cS a0 t0))) 0 0 (AD (pC cI cS a0 t0)) := by
  refine mW l D cI cS (by decide) (Nat.le_of_ble_eq_true rfl) ?_
  intro p e s m below meth c ls hx hb hr hml hown hts hlocks hP hK hD hS hl
  have hown : s.vm.findClass RX6 = some m.cls := hown
  have hl : lv_has ls 8 [(0, .ref (a0 0)), (1, .int x1), (2, .int x2), (3, .int x3), (4, .int x4), (5, .int x5)] := hl
  unfold F_X6_copy at hF
  refine lv_iload_n hx hb dX6_copy_0 rfl (lv_at hl 1 rfl) ?_
  obtain ⟨v1, h1, hF⟩ := bd hF
  refine cRb (va_runS (As := [.int x1]) (rest := []) ⟨hx, hb, hml, hown, hts⟩ (c_X6_isSheet l D cI cS x1 v1 h1) (cwSA hts (TW.cons _) ls_X6_isSheet ml_RX6_49 ⟨rfl, rfl⟩ ⟨(Nat.le_of_ble_eq_true rfl), (Nat.le_of_ble_eq_true rfl)⟩) (pRS hK pnil) rfl rfl hl.1 rfl (lv_room (Nat.le_of_ble_eq_true rfl)) dX6_copy_1 ⟨Nat.le_refl _, Nat.le_refl _⟩) (fun b1 => ?_)
  refine lv_if_eq (tgt := 14) hx hb dX6_copy_4 (by decide) (fun c4 => ?_) (fun c4 => ?_)
  · replace hF := ip c4 hF
    refine lv_aload_n hx hb dX6_copy_14 rfl (lv_at hl 0 rfl) ?_
    refine lv_iconst (v := (-1)) hx hb dX6_copy_15 (by decide) ?_
    obtain ⟨v16, u16, h16, hF⟩ := bd2 hF
    refine cAe (ws' := pC cI cS a0 u16) (va_runV (As := [.int (-1)]) (rest := []) ⟨hx, hb, hml, hown, hts⟩ (c_X6_withoutFault l D cI cS a0 t0 (-1) v16 u16 h16) (cwVA hts (TW.cons _) lv_X6_withoutFault ml_RX6_53 ⟨rfl, rfl⟩ ⟨(Nat.le_of_ble_eq_true rfl), (Nat.le_of_ble_eq_true rfl)⟩) (pWV hK hP hD (ci := 5) rfl rfl) rfl rfl hl.1 rfl (lv_room (Nat.le_of_ble_eq_true rfl)) dX6_copy_16 ⟨Nat.le_refl _, Nat.le_refl _⟩) hD hS (ad_C cI cS _ _ _) (fun H locs hP hD hS => ?_)
    exact W.iret hx hb hr (fun t ht hW => ⟨⟨_, (), rfl, (Prod.mk.inj (Option.some.inj hF)).1, by show va_P _ _ _ t.heap; rw [ht, ← (Prod.mk.inj (Option.some.inj hF)).2]; exact hP⟩, hS.F ht⟩) hS.2.2 dX6_copy_19
  · replace hF := iq c4 hF
    refine lv_iload_n hx hb dX6_copy_7 rfl (lv_at hl 3 rfl) ?_
    obtain ⟨v8, h8, hF⟩ := bd hF
    refine cRb (va_runS (As := [.int x3]) (rest := []) ⟨hx, hb, hml, hown, hts⟩ (c_X6_isSheet l D cI cS x3 v8 h8) (cwSA hts (TW.cons _) ls_X6_isSheet ml_RX6_49 ⟨rfl, rfl⟩ ⟨(Nat.le_of_ble_eq_true rfl), (Nat.le_of_ble_eq_true rfl)⟩) (pRS hK pnil) rfl rfl hl.1 rfl (lv_room (Nat.le_of_ble_eq_true rfl)) dX6_copy_8 ⟨Nat.le_refl _, Nat.le_refl _⟩) (fun b8 => ?_)
    refine lv_if_ne (tgt := 20) hx hb dX6_copy_11 (by decide) (fun c11 => ?_) (fun c11 => ?_)
    · replace hF := iq c11 hF
      refine lv_aload_n hx hb dX6_copy_20 rfl (lv_at hl 0 rfl) ?_
      refine va_get (D := D) (ci := 5) (v := .ref (a0 28)) (C := RX6) (T := TX6) (N := 8) hx hb hts (fun w h => List.mem_cons_of_mem _ (inAX6 w h)) hown hK.1 hP 0 (at_C_0 cI cS _ _) rfl 5 (by decide) (hts _ (List.mem_cons_of_mem _ fl_RX6_44)) (fun _ h9 => h9) rfl dX6_copy_21 ?_
      refine lv_iload_n hx hb dX6_copy_24 rfl (lv_at hl 1 rfl) ?_
      obtain ⟨k25, h25, hF⟩ := bd hF
      obtain ⟨-, -, l25⟩ := ix_some h25
      rcases lt4 l25 with rfl | rfl | rfl | rfl
      · refine rR (b := a0 20) hx hb hK.1 hP 28 1 (at_C_28 cI cS _ _) rfl h25 rfl dX6_copy_25 ?_
        refine lv_astore (lv' := [(6, .ref (a0 20)), (0, .ref (a0 0)), (1, .int x1), (2, .int x2), (3, .int x3), (4, .int x4), (5, .int x5)]) hx hb dX6_copy_26 hl (by decide) rfl (fun ls hl => ?_)
        refine lv_aload_n hx hb dX6_copy_28 rfl (lv_at hl 1 rfl) ?_
        refine va_get (D := D) (ci := 5) (v := .ref (a0 28)) (C := RX6) (T := TX6) (N := 8) hx hb hts (fun w h => List.mem_cons_of_mem _ (inAX6 w h)) hown hK.1 hP 0 (at_C_0 cI cS _ _) rfl 5 (by decide) (hts _ (List.mem_cons_of_mem _ fl_RX6_44)) (fun _ h9 => h9) rfl dX6_copy_29 ?_
        refine lv_iload_n hx hb dX6_copy_32 rfl (lv_at hl 4 rfl) ?_
        obtain ⟨k33, h33, hF⟩ := bd hF
        obtain ⟨-, -, l33⟩ := ix_some h33
        rcases lt4 l33 with rfl | rfl | rfl | rfl
        · refine rR (b := a0 20) hx hb hK.1 hP 28 1 (at_C_28 cI cS _ _) rfl h33 rfl dX6_copy_33 ?_
          refine lv_astore (lv' := [(7, .ref (a0 20)), (6, .ref (a0 20)), (0, .ref (a0 0)), (1, .int x1), (2, .int x2), (3, .int x3), (4, .int x4), (5, .int x5)]) hx hb dX6_copy_34 hl (by decide) rfl (fun ls hl => ?_)
          refine lv_aload hx hb dX6_copy_36 (lv_at hl 1 rfl) ?_
          refine va_getN (D := D) (ci := 3) (v := .int (t0 20 0)) (C := RX3) (T := TX3) (N := 4) hx hb hts (fun w h => List.mem_cons_of_mem _ (inAX3 w h)) hown hK.1 hP 20 (at_C_20 cI cS _ _) rfl 0 (by decide) (nu_RX6_206 hK) (fun _ h9 => h9) rfl dX6_copy_38 ?_
          refine lv_if_eq (tgt := 52) hx hb dX6_copy_41 (by decide) (fun c41 => ?_) (fun c41 => ?_)
          · replace hF := ip c41 hF
            refine lv_aload_n hx hb dX6_copy_52 rfl (lv_at hl 2 rfl) ?_
            refine lv_iconst (v := 1) hx hb dX6_copy_53 (by decide) ?_
            obtain ⟨v54, u54, h54, hF⟩ := bd2 hF
            refine cAe (ws' := pC cI cS a0 u54) (va_runV (As := [.int 1]) (rest := []) ⟨hx, hb, hml, hown, hts⟩ (c_X6_withFault l D cI cS a0 t0 1 v54 u54 h54) (cwVA hts (TW.cons _) lv_X6_withFault ml_RX6_64 ⟨rfl, rfl⟩ ⟨(Nat.le_of_ble_eq_true rfl), (Nat.le_of_ble_eq_true rfl)⟩) (pWV hK hP hD (ci := 5) rfl rfl) rfl rfl hl.1 rfl (lv_room (Nat.le_of_ble_eq_true rfl)) dX6_copy_54 ⟨Nat.le_refl _, Nat.le_refl _⟩) hD hS (ad_C cI cS _ _ _) (fun H locs hP hD hS => ?_)
            exact W.iret hx hb hr (fun t ht hW => ⟨⟨_, (), rfl, (Prod.mk.inj (Option.some.inj hF)).1, by show va_P _ _ _ t.heap; rw [ht, ← (Prod.mk.inj (Option.some.inj hF)).2]; exact hP⟩, hS.F ht⟩) hS.2.2 dX6_copy_57
          · replace hF := iq c41 hF
            refine lv_aload hx hb dX6_copy_44 (lv_at hl 0 rfl) ?_
            refine va_getN (D := D) (ci := 3) (v := .int (t0 20 0)) (C := RX3) (T := TX3) (N := 4) hx hb hts (fun w h => List.mem_cons_of_mem _ (inAX3 w h)) hown hK.1 hP 20 (at_C_20 cI cS _ _) rfl 0 (by decide) (nu_RX6_206 hK) (fun _ h9 => h9) rfl dX6_copy_46 ?_
            refine lv_if_ne (tgt := 58) hx hb dX6_copy_49 (by decide) (fun c49 => ?_) (fun c49 => ?_)
            · replace hF := iq c49 hF
              refine lv_aload hx hb dX6_copy_58 (lv_at hl 1 rfl) ?_
              refine va_getN (D := D) (ci := 3) (v := .int (t0 20 1)) (C := RX3) (T := TX3) (N := 4) hx hb hts (fun w h => List.mem_cons_of_mem _ (inAX3 w h)) hown hK.1 hP 20 (at_C_20 cI cS _ _) rfl 1 (by decide) (nu_RX6_220 hK) (fun _ h9 => h9) rfl dX6_copy_60 ?_
              refine lv_aload hx hb dX6_copy_63 (lv_at hl 0 rfl) ?_
              refine va_getN (D := D) (ci := 3) (v := .int (t0 20 1)) (C := RX3) (T := TX3) (N := 4) hx hb hts (fun w h => List.mem_cons_of_mem _ (inAX3 w h)) hown hK.1 hP 20 (at_C_20 cI cS _ _) rfl 1 (by decide) (nu_RX6_220 hK) (fun _ h9 => h9) rfl dX6_copy_65 ?_
              refine lv_icmp_eq (tgt := 77) hx hb dX6_copy_68 (by decide) (fun c68 => ?_) (fun c68 => ?_)
              · replace hF := ip c68 hF
                refine lv_aload hx hb dX6_copy_77 (lv_at hl 1 rfl) ?_
                refine lv_iload_n hx hb dX6_copy_79 rfl (lv_at hl 4 rfl) ?_
                refine lv_iload hx hb dX6_copy_80 (lv_at hl 7 rfl) ?_
                obtain ⟨v82, h82, hF⟩ := bd hF
                refine cRb (va_runV (As := [.int x2, .int x5]) (rest := []) ⟨hx, hb, hml, hown, hts⟩ (c_X3_reaches l D cI cS (sa a0 20) (sb t0 20) x2 x5 v82 h82) (cwVA hts (TW.cons _) lv_X3_reaches ml_RX6_210 ⟨rfl, rfl⟩ ⟨(Nat.le_of_ble_eq_true rfl), (Nat.le_of_ble_eq_true rfl)⟩) (pRV hK (hP.sub [20, 21] (su_C_S20 cI cS _ _)) (ci := 3) rfl rfl) rfl rfl hl.1 rfl (lv_room (Nat.le_of_ble_eq_true rfl)) dX6_copy_82 ⟨Nat.le_refl _, Nat.le_refl _⟩) (fun b82 => ?_)
                refine lv_if_eq (tgt := 100) hx hb dX6_copy_85 (by decide) (fun c85 => ?_) (fun c85 => ?_)
                · replace hF := ip c85 hF
                  refine lv_aload_n hx hb dX6_copy_100 rfl (lv_at hl 2 rfl) ?_
                  refine lv_iconst (v := 3) hx hb dX6_copy_101 (by decide) ?_
                  obtain ⟨v102, u102, h102, hF⟩ := bd2 hF
                  refine cAe (ws' := pC cI cS a0 u102) (va_runV (As := [.int 3]) (rest := []) ⟨hx, hb, hml, hown, hts⟩ (c_X6_withFault l D cI cS a0 t0 3 v102 u102 h102) (cwVA hts (TW.cons _) lv_X6_withFault ml_RX6_64 ⟨rfl, rfl⟩ ⟨(Nat.le_of_ble_eq_true rfl), (Nat.le_of_ble_eq_true rfl)⟩) (pWV hK hP hD (ci := 5) rfl rfl) rfl rfl hl.1 rfl (lv_room (Nat.le_of_ble_eq_true rfl)) dX6_copy_102 ⟨Nat.le_refl _, Nat.le_refl _⟩) hD hS (ad_C cI cS _ _ _) (fun H locs hP hD hS => ?_)
                  exact W.iret hx hb hr (fun t ht hW => ⟨⟨_, (), rfl, (Prod.mk.inj (Option.some.inj hF)).1, by show va_P _ _ _ t.heap; rw [ht, ← (Prod.mk.inj (Option.some.inj hF)).2]; exact hP⟩, hS.F ht⟩) hS.2.2 dX6_copy_105
                · replace hF := iq c85 hF
                  refine lv_aload hx hb dX6_copy_88 (lv_at hl 0 rfl) ?_
                  refine lv_iload hx hb dX6_copy_90 (lv_at hl 6 rfl) ?_
                  refine lv_iload hx hb dX6_copy_92 (lv_at hl 7 rfl) ?_
                  obtain ⟨v94, h94, hF⟩ := bd hF
                  refine cRb (va_runV (As := [.int x4, .int x5]) (rest := []) ⟨hx, hb, hml, hown, hts⟩ (c_X3_reaches l D cI cS (sa a0 20) (sb t0 20) x4 x5 v94 h94) (cwVA hts (TW.cons _) lv_X3_reaches ml_RX6_210 ⟨rfl, rfl⟩ ⟨(Nat.le_of_ble_eq_true rfl), (Nat.le_of_ble_eq_true rfl)⟩) (pRV hK (hP.sub [20, 21] (su_C_S20 cI cS _ _)) (ci := 3) rfl rfl) rfl rfl hl.1 rfl (lv_room (Nat.le_of_ble_eq_true rfl)) dX6_copy_94 ⟨Nat.le_refl _, Nat.le_refl _⟩) (fun b94 => ?_)
                  refine lv_if_ne (tgt := 106) hx hb dX6_copy_97 (by decide) (fun c97 => ?_) (fun c97 => ?_)
                  · replace hF := iq c97 hF
                    refine lv_aload hx hb dX6_copy_106 (lv_at hl 1 rfl) ?_
                    refine va_getN (D := D) (ci := 3) (v := .ref (a0 21)) (C := RX3) (T := TX3) (N := 4) hx hb hts (fun w h => List.mem_cons_of_mem _ (inAX3 w h)) hown hK.1 hP 20 (at_C_20 cI cS _ _) rfl 3 (by decide) (nu_RX6_223 hK) (fun _ h9 => h9) rfl dX6_copy_108 ?_
                    refine lv_iload_n hx hb dX6_copy_111 rfl (lv_at hl 4 rfl) ?_
                    refine lv_aload hx hb dX6_copy_112 (lv_at hl 0 rfl) ?_
                    refine va_getN (D := D) (ci := 3) (v := .ref (a0 21)) (C := RX3) (T := TX3) (N := 4) hx hb hts (fun w h => List.mem_cons_of_mem _ (inAX3 w h)) hown hK.1 hP 20 (at_C_20 cI cS _ _) rfl 3 (by decide) (nu_RX6_223 hK) (fun _ h9 => h9) rfl dX6_copy_114 ?_
                    refine lv_iload hx hb dX6_copy_117 (lv_at hl 6 rfl) ?_
                    refine lv_iload hx hb dX6_copy_119 (lv_at hl 7 rfl) ?_
                    obtain ⟨g121, h121, hF⟩ := bd hF
                    refine wC (ws' := pC cI cS a0 (sr t0 21 g121)) hx hb (hml.trans hl.1.symm) hown (hts _ (List.mem_cons_of_mem _ ml_RX6_226)) (hts _ (List.mem_cons_of_mem _ jk_cpy.1)) (hts _ (List.mem_cons_of_mem _ jk_cpy.2.1)) (hts _ (List.mem_cons_of_mem _ jk_cpy.2.2)) hK.1 hP hD hS 21 21 0 (at_C_21 cI cS _ _) (at_C_21 cI cS _ _) rfl h121 (sx_C_21 cI cS _ _ _) (Nat.le_of_ble_eq_true rfl) (Nat.le_of_ble_eq_true rfl) dX6_copy_121 (fun H locs hP hD hS => ?_)
                    refine lv_aload_n hx hb dX6_copy_124 rfl (lv_at hl 2 rfl) ?_
                    refine lv_iload hx hb dX6_copy_125 (lv_at hl 7 rfl) ?_
                    obtain ⟨v127, u127, h127, hF⟩ := bd2 hF
                    refine cAe (ws' := pC cI cS a0 u127) (va_runV (As := [.int x5]) (rest := []) ⟨hx, hb, hml, hown, hts⟩ (c_X6_withoutFault l D cI cS a0 (sr t0 21 g121) x5 v127 u127 h127) (cwVA hts (TW.cons _) lv_X6_withoutFault ml_RX6_53 ⟨rfl, rfl⟩ ⟨(Nat.le_of_ble_eq_true rfl), (Nat.le_of_ble_eq_true rfl)⟩) (pWV hK hP hD (ci := 5) rfl rfl) rfl rfl hl.1 rfl (lv_room (Nat.le_of_ble_eq_true rfl)) dX6_copy_127 ⟨Nat.le_refl _, Nat.le_refl _⟩) hD hS (ad_C cI cS _ _ _) (fun H locs hP hD hS => ?_)
                    exact W.iret hx hb hr (fun t ht hW => ⟨⟨_, (), rfl, (Prod.mk.inj (Option.some.inj hF)).1, by show va_P _ _ _ t.heap; rw [ht, ← (Prod.mk.inj (Option.some.inj hF)).2]; exact hP⟩, hS.F ht⟩) hS.2.2 dX6_copy_130
                  · replace hF := ip c97 hF
                    refine lv_aload_n hx hb dX6_copy_100 rfl (lv_at hl 2 rfl) ?_
                    refine lv_iconst (v := 3) hx hb dX6_copy_101 (by decide) ?_
                    obtain ⟨v102, u102, h102, hF⟩ := bd2 hF
                    refine cAe (ws' := pC cI cS a0 u102) (va_runV (As := [.int 3]) (rest := []) ⟨hx, hb, hml, hown, hts⟩ (c_X6_withFault l D cI cS a0 t0 3 v102 u102 h102) (cwVA hts (TW.cons _) lv_X6_withFault ml_RX6_64 ⟨rfl, rfl⟩ ⟨(Nat.le_of_ble_eq_true rfl), (Nat.le_of_ble_eq_true rfl)⟩) (pWV hK hP hD (ci := 5) rfl rfl) rfl rfl hl.1 rfl (lv_room (Nat.le_of_ble_eq_true rfl)) dX6_copy_102 ⟨Nat.le_refl _, Nat.le_refl _⟩) hD hS (ad_C cI cS _ _ _) (fun H locs hP hD hS => ?_)
                    exact W.iret hx hb hr (fun t ht hW => ⟨⟨_, (), rfl, (Prod.mk.inj (Option.some.inj hF)).1, by show va_P _ _ _ t.heap; rw [ht, ← (Prod.mk.inj (Option.some.inj hF)).2]; exact hP⟩, hS.F ht⟩) hS.2.2 dX6_copy_105
              · replace hF := iq c68 hF
                refine lv_aload_n hx hb dX6_copy_71 rfl (lv_at hl 2 rfl) ?_
                refine lv_iconst (v := 2) hx hb dX6_copy_72 (by decide) ?_
                obtain ⟨v73, u73, h73, hF⟩ := bd2 hF
                refine cAe (ws' := pC cI cS a0 u73) (va_runV (As := [.int 2]) (rest := []) ⟨hx, hb, hml, hown, hts⟩ (c_X6_withFault l D cI cS a0 t0 2 v73 u73 h73) (cwVA hts (TW.cons _) lv_X6_withFault ml_RX6_64 ⟨rfl, rfl⟩ ⟨(Nat.le_of_ble_eq_true rfl), (Nat.le_of_ble_eq_true rfl)⟩) (pWV hK hP hD (ci := 5) rfl rfl) rfl rfl hl.1 rfl (lv_room (Nat.le_of_ble_eq_true rfl)) dX6_copy_73 ⟨Nat.le_refl _, Nat.le_refl _⟩) hD hS (ad_C cI cS _ _ _) (fun H locs hP hD hS => ?_)
                exact W.iret hx hb hr (fun t ht hW => ⟨⟨_, (), rfl, (Prod.mk.inj (Option.some.inj hF)).1, by show va_P _ _ _ t.heap; rw [ht, ← (Prod.mk.inj (Option.some.inj hF)).2]; exact hP⟩, hS.F ht⟩) hS.2.2 dX6_copy_76
            · replace hF := ip c49 hF
              refine lv_aload_n hx hb dX6_copy_52 rfl (lv_at hl 2 rfl) ?_
              refine lv_iconst (v := 1) hx hb dX6_copy_53 (by decide) ?_
              obtain ⟨v54, u54, h54, hF⟩ := bd2 hF
              refine cAe (ws' := pC cI cS a0 u54) (va_runV (As := [.int 1]) (rest := []) ⟨hx, hb, hml, hown, hts⟩ (c_X6_withFault l D cI cS a0 t0 1 v54 u54 h54) (cwVA hts (TW.cons _) lv_X6_withFault ml_RX6_64 ⟨rfl, rfl⟩ ⟨(Nat.le_of_ble_eq_true rfl), (Nat.le_of_ble_eq_true rfl)⟩) (pWV hK hP hD (ci := 5) rfl rfl) rfl rfl hl.1 rfl (lv_room (Nat.le_of_ble_eq_true rfl)) dX6_copy_54 ⟨Nat.le_refl _, Nat.le_refl _⟩) hD hS (ad_C cI cS _ _ _) (fun H locs hP hD hS => ?_)
              exact W.iret hx hb hr (fun t ht hW => ⟨⟨_, (), rfl, (Prod.mk.inj (Option.some.inj hF)).1, by show va_P _ _ _ t.heap; rw [ht, ← (Prod.mk.inj (Option.some.inj hF)).2]; exact hP⟩, hS.F ht⟩) hS.2.2 dX6_copy_57
        · refine rR (b := a0 22) hx hb hK.1 hP 28 1 (at_C_28 cI cS _ _) rfl h33 rfl dX6_copy_33 ?_
          refine lv_astore (lv' := [(7, .ref (a0 22)), (6, .ref (a0 20)), (0, .ref (a0 0)), (1, .int x1), (2, .int x2), (3, .int x3), (4, .int x4), (5, .int x5)]) hx hb dX6_copy_34 hl (by decide) rfl (fun ls hl => ?_)
          refine lv_aload hx hb dX6_copy_36 (lv_at hl 1 rfl) ?_
          refine va_getN (D := D) (ci := 3) (v := .int (t0 20 0)) (C := RX3) (T := TX3) (N := 4) hx hb hts (fun w h => List.mem_cons_of_mem _ (inAX3 w h)) hown hK.1 hP 20 (at_C_20 cI cS _ _) rfl 0 (by decide) (nu_RX6_206 hK) (fun _ h9 => h9) rfl dX6_copy_38 ?_
          refine lv_if_eq (tgt := 52) hx hb dX6_copy_41 (by decide) (fun c41 => ?_) (fun c41 => ?_)
          · replace hF := ip c41 hF
            refine lv_aload_n hx hb dX6_copy_52 rfl (lv_at hl 2 rfl) ?_
            refine lv_iconst (v := 1) hx hb dX6_copy_53 (by decide) ?_
            obtain ⟨v54, u54, h54, hF⟩ := bd2 hF
            refine cAe (ws' := pC cI cS a0 u54) (va_runV (As := [.int 1]) (rest := []) ⟨hx, hb, hml, hown, hts⟩ (c_X6_withFault l D cI cS a0 t0 1 v54 u54 h54) (cwVA hts (TW.cons _) lv_X6_withFault ml_RX6_64 ⟨rfl, rfl⟩ ⟨(Nat.le_of_ble_eq_true rfl), (Nat.le_of_ble_eq_true rfl)⟩) (pWV hK hP hD (ci := 5) rfl rfl) rfl rfl hl.1 rfl (lv_room (Nat.le_of_ble_eq_true rfl)) dX6_copy_54 ⟨Nat.le_refl _, Nat.le_refl _⟩) hD hS (ad_C cI cS _ _ _) (fun H locs hP hD hS => ?_)
            exact W.iret hx hb hr (fun t ht hW => ⟨⟨_, (), rfl, (Prod.mk.inj (Option.some.inj hF)).1, by show va_P _ _ _ t.heap; rw [ht, ← (Prod.mk.inj (Option.some.inj hF)).2]; exact hP⟩, hS.F ht⟩) hS.2.2 dX6_copy_57
          · replace hF := iq c41 hF
            refine lv_aload hx hb dX6_copy_44 (lv_at hl 0 rfl) ?_
            refine va_getN (D := D) (ci := 3) (v := .int (t0 22 0)) (C := RX3) (T := TX3) (N := 4) hx hb hts (fun w h => List.mem_cons_of_mem _ (inAX3 w h)) hown hK.1 hP 22 (at_C_22 cI cS _ _) rfl 0 (by decide) (nu_RX6_206 hK) (fun _ h9 => h9) rfl dX6_copy_46 ?_
            refine lv_if_ne (tgt := 58) hx hb dX6_copy_49 (by decide) (fun c49 => ?_) (fun c49 => ?_)
            · replace hF := iq c49 hF
              refine lv_aload hx hb dX6_copy_58 (lv_at hl 1 rfl) ?_
              refine va_getN (D := D) (ci := 3) (v := .int (t0 20 1)) (C := RX3) (T := TX3) (N := 4) hx hb hts (fun w h => List.mem_cons_of_mem _ (inAX3 w h)) hown hK.1 hP 20 (at_C_20 cI cS _ _) rfl 1 (by decide) (nu_RX6_220 hK) (fun _ h9 => h9) rfl dX6_copy_60 ?_
              refine lv_aload hx hb dX6_copy_63 (lv_at hl 0 rfl) ?_
              refine va_getN (D := D) (ci := 3) (v := .int (t0 22 1)) (C := RX3) (T := TX3) (N := 4) hx hb hts (fun w h => List.mem_cons_of_mem _ (inAX3 w h)) hown hK.1 hP 22 (at_C_22 cI cS _ _) rfl 1 (by decide) (nu_RX6_220 hK) (fun _ h9 => h9) rfl dX6_copy_65 ?_
              refine lv_icmp_eq (tgt := 77) hx hb dX6_copy_68 (by decide) (fun c68 => ?_) (fun c68 => ?_)
              · replace hF := ip c68 hF
                refine lv_aload hx hb dX6_copy_77 (lv_at hl 1 rfl) ?_
                refine lv_iload_n hx hb dX6_copy_79 rfl (lv_at hl 4 rfl) ?_
                refine lv_iload hx hb dX6_copy_80 (lv_at hl 7 rfl) ?_
                obtain ⟨v82, h82, hF⟩ := bd hF
                refine cRb (va_runV (As := [.int x2, .int x5]) (rest := []) ⟨hx, hb, hml, hown, hts⟩ (c_X3_reaches l D cI cS (sa a0 20) (sb t0 20) x2 x5 v82 h82) (cwVA hts (TW.cons _) lv_X3_reaches ml_RX6_210 ⟨rfl, rfl⟩ ⟨(Nat.le_of_ble_eq_true rfl), (Nat.le_of_ble_eq_true rfl)⟩) (pRV hK (hP.sub [20, 21] (su_C_S20 cI cS _ _)) (ci := 3) rfl rfl) rfl rfl hl.1 rfl (lv_room (Nat.le_of_ble_eq_true rfl)) dX6_copy_82 ⟨Nat.le_refl _, Nat.le_refl _⟩) (fun b82 => ?_)
                refine lv_if_eq (tgt := 100) hx hb dX6_copy_85 (by decide) (fun c85 => ?_) (fun c85 => ?_)
                · replace hF := ip c85 hF
                  refine lv_aload_n hx hb dX6_copy_100 rfl (lv_at hl 2 rfl) ?_
                  refine lv_iconst (v := 3) hx hb dX6_copy_101 (by decide) ?_
                  obtain ⟨v102, u102, h102, hF⟩ := bd2 hF
                  refine cAe (ws' := pC cI cS a0 u102) (va_runV (As := [.int 3]) (rest := []) ⟨hx, hb, hml, hown, hts⟩ (c_X6_withFault l D cI cS a0 t0 3 v102 u102 h102) (cwVA hts (TW.cons _) lv_X6_withFault ml_RX6_64 ⟨rfl, rfl⟩ ⟨(Nat.le_of_ble_eq_true rfl), (Nat.le_of_ble_eq_true rfl)⟩) (pWV hK hP hD (ci := 5) rfl rfl) rfl rfl hl.1 rfl (lv_room (Nat.le_of_ble_eq_true rfl)) dX6_copy_102 ⟨Nat.le_refl _, Nat.le_refl _⟩) hD hS (ad_C cI cS _ _ _) (fun H locs hP hD hS => ?_)
                  exact W.iret hx hb hr (fun t ht hW => ⟨⟨_, (), rfl, (Prod.mk.inj (Option.some.inj hF)).1, by show va_P _ _ _ t.heap; rw [ht, ← (Prod.mk.inj (Option.some.inj hF)).2]; exact hP⟩, hS.F ht⟩) hS.2.2 dX6_copy_105
                · replace hF := iq c85 hF
                  refine lv_aload hx hb dX6_copy_88 (lv_at hl 0 rfl) ?_
                  refine lv_iload hx hb dX6_copy_90 (lv_at hl 6 rfl) ?_
                  refine lv_iload hx hb dX6_copy_92 (lv_at hl 7 rfl) ?_
                  obtain ⟨v94, h94, hF⟩ := bd hF
                  refine cRb (va_runV (As := [.int x4, .int x5]) (rest := []) ⟨hx, hb, hml, hown, hts⟩ (c_X3_reaches l D cI cS (sa a0 22) (sb t0 22) x4 x5 v94 h94) (cwVA hts (TW.cons _) lv_X3_reaches ml_RX6_210 ⟨rfl, rfl⟩ ⟨(Nat.le_of_ble_eq_true rfl), (Nat.le_of_ble_eq_true rfl)⟩) (pRV hK (hP.sub [22, 23] (su_C_S22 cI cS _ _)) (ci := 3) rfl rfl) rfl rfl hl.1 rfl (lv_room (Nat.le_of_ble_eq_true rfl)) dX6_copy_94 ⟨Nat.le_refl _, Nat.le_refl _⟩) (fun b94 => ?_)
                  refine lv_if_ne (tgt := 106) hx hb dX6_copy_97 (by decide) (fun c97 => ?_) (fun c97 => ?_)
                  · replace hF := iq c97 hF
                    refine lv_aload hx hb dX6_copy_106 (lv_at hl 1 rfl) ?_
                    refine va_getN (D := D) (ci := 3) (v := .ref (a0 21)) (C := RX3) (T := TX3) (N := 4) hx hb hts (fun w h => List.mem_cons_of_mem _ (inAX3 w h)) hown hK.1 hP 20 (at_C_20 cI cS _ _) rfl 3 (by decide) (nu_RX6_223 hK) (fun _ h9 => h9) rfl dX6_copy_108 ?_
                    refine lv_iload_n hx hb dX6_copy_111 rfl (lv_at hl 4 rfl) ?_
                    refine lv_aload hx hb dX6_copy_112 (lv_at hl 0 rfl) ?_
                    refine va_getN (D := D) (ci := 3) (v := .ref (a0 23)) (C := RX3) (T := TX3) (N := 4) hx hb hts (fun w h => List.mem_cons_of_mem _ (inAX3 w h)) hown hK.1 hP 22 (at_C_22 cI cS _ _) rfl 3 (by decide) (nu_RX6_223 hK) (fun _ h9 => h9) rfl dX6_copy_114 ?_
                    refine lv_iload hx hb dX6_copy_117 (lv_at hl 6 rfl) ?_
                    refine lv_iload hx hb dX6_copy_119 (lv_at hl 7 rfl) ?_
                    obtain ⟨g121, h121, hF⟩ := bd hF
                    refine wC (ws' := pC cI cS a0 (sr t0 23 g121)) hx hb (hml.trans hl.1.symm) hown (hts _ (List.mem_cons_of_mem _ ml_RX6_226)) (hts _ (List.mem_cons_of_mem _ jk_cpy.1)) (hts _ (List.mem_cons_of_mem _ jk_cpy.2.1)) (hts _ (List.mem_cons_of_mem _ jk_cpy.2.2)) hK.1 hP hD hS 21 23 0 (at_C_21 cI cS _ _) (at_C_23 cI cS _ _) rfl h121 (sx_C_23 cI cS _ _ _) (Nat.le_of_ble_eq_true rfl) (Nat.le_of_ble_eq_true rfl) dX6_copy_121 (fun H locs hP hD hS => ?_)
                    refine lv_aload_n hx hb dX6_copy_124 rfl (lv_at hl 2 rfl) ?_
                    refine lv_iload hx hb dX6_copy_125 (lv_at hl 7 rfl) ?_
                    obtain ⟨v127, u127, h127, hF⟩ := bd2 hF
                    refine cAe (ws' := pC cI cS a0 u127) (va_runV (As := [.int x5]) (rest := []) ⟨hx, hb, hml, hown, hts⟩ (c_X6_withoutFault l D cI cS a0 (sr t0 23 g121) x5 v127 u127 h127) (cwVA hts (TW.cons _) lv_X6_withoutFault ml_RX6_53 ⟨rfl, rfl⟩ ⟨(Nat.le_of_ble_eq_true rfl), (Nat.le_of_ble_eq_true rfl)⟩) (pWV hK hP hD (ci := 5) rfl rfl) rfl rfl hl.1 rfl (lv_room (Nat.le_of_ble_eq_true rfl)) dX6_copy_127 ⟨Nat.le_refl _, Nat.le_refl _⟩) hD hS (ad_C cI cS _ _ _) (fun H locs hP hD hS => ?_)
                    exact W.iret hx hb hr (fun t ht hW => ⟨⟨_, (), rfl, (Prod.mk.inj (Option.some.inj hF)).1, by show va_P _ _ _ t.heap; rw [ht, ← (Prod.mk.inj (Option.some.inj hF)).2]; exact hP⟩, hS.F ht⟩) hS.2.2 dX6_copy_130
                  · replace hF := ip c97 hF
                    refine lv_aload_n hx hb dX6_copy_100 rfl (lv_at hl 2 rfl) ?_
                    refine lv_iconst (v := 3) hx hb dX6_copy_101 (by decide) ?_
                    obtain ⟨v102, u102, h102, hF⟩ := bd2 hF
                    refine cAe (ws' := pC cI cS a0 u102) (va_runV (As := [.int 3]) (rest := []) ⟨hx, hb, hml, hown, hts⟩ (c_X6_withFault l D cI cS a0 t0 3 v102 u102 h102) (cwVA hts (TW.cons _) lv_X6_withFault ml_RX6_64 ⟨rfl, rfl⟩ ⟨(Nat.le_of_ble_eq_true rfl), (Nat.le_of_ble_eq_true rfl)⟩) (pWV hK hP hD (ci := 5) rfl rfl) rfl rfl hl.1 rfl (lv_room (Nat.le_of_ble_eq_true rfl)) dX6_copy_102 ⟨Nat.le_refl _, Nat.le_refl _⟩) hD hS (ad_C cI cS _ _ _) (fun H locs hP hD hS => ?_)
                    exact W.iret hx hb hr (fun t ht hW => ⟨⟨_, (), rfl, (Prod.mk.inj (Option.some.inj hF)).1, by show va_P _ _ _ t.heap; rw [ht, ← (Prod.mk.inj (Option.some.inj hF)).2]; exact hP⟩, hS.F ht⟩) hS.2.2 dX6_copy_105
              · replace hF := iq c68 hF
                refine lv_aload_n hx hb dX6_copy_71 rfl (lv_at hl 2 rfl) ?_
                refine lv_iconst (v := 2) hx hb dX6_copy_72 (by decide) ?_
                obtain ⟨v73, u73, h73, hF⟩ := bd2 hF
                refine cAe (ws' := pC cI cS a0 u73) (va_runV (As := [.int 2]) (rest := []) ⟨hx, hb, hml, hown, hts⟩ (c_X6_withFault l D cI cS a0 t0 2 v73 u73 h73) (cwVA hts (TW.cons _) lv_X6_withFault ml_RX6_64 ⟨rfl, rfl⟩ ⟨(Nat.le_of_ble_eq_true rfl), (Nat.le_of_ble_eq_true rfl)⟩) (pWV hK hP hD (ci := 5) rfl rfl) rfl rfl hl.1 rfl (lv_room (Nat.le_of_ble_eq_true rfl)) dX6_copy_73 ⟨Nat.le_refl _, Nat.le_refl _⟩) hD hS (ad_C cI cS _ _ _) (fun H locs hP hD hS => ?_)
                exact W.iret hx hb hr (fun t ht hW => ⟨⟨_, (), rfl, (Prod.mk.inj (Option.some.inj hF)).1, by show va_P _ _ _ t.heap; rw [ht, ← (Prod.mk.inj (Option.some.inj hF)).2]; exact hP⟩, hS.F ht⟩) hS.2.2 dX6_copy_76
            · replace hF := ip c49 hF
              refine lv_aload_n hx hb dX6_copy_52 rfl (lv_at hl 2 rfl) ?_
              refine lv_iconst (v := 1) hx hb dX6_copy_53 (by decide) ?_
              obtain ⟨v54, u54, h54, hF⟩ := bd2 hF
              refine cAe (ws' := pC cI cS a0 u54) (va_runV (As := [.int 1]) (rest := []) ⟨hx, hb, hml, hown, hts⟩ (c_X6_withFault l D cI cS a0 t0 1 v54 u54 h54) (cwVA hts (TW.cons _) lv_X6_withFault ml_RX6_64 ⟨rfl, rfl⟩ ⟨(Nat.le_of_ble_eq_true rfl), (Nat.le_of_ble_eq_true rfl)⟩) (pWV hK hP hD (ci := 5) rfl rfl) rfl rfl hl.1 rfl (lv_room (Nat.le_of_ble_eq_true rfl)) dX6_copy_54 ⟨Nat.le_refl _, Nat.le_refl _⟩) hD hS (ad_C cI cS _ _ _) (fun H locs hP hD hS => ?_)
              exact W.iret hx hb hr (fun t ht hW => ⟨⟨_, (), rfl, (Prod.mk.inj (Option.some.inj hF)).1, by show va_P _ _ _ t.heap; rw [ht, ← (Prod.mk.inj (Option.some.inj hF)).2]; exact hP⟩, hS.F ht⟩) hS.2.2 dX6_copy_57
        · refine rR (b := a0 24) hx hb hK.1 hP 28 1 (at_C_28 cI cS _ _) rfl h33 rfl dX6_copy_33 ?_
          refine lv_astore (lv' := [(7, .ref (a0 24)), (6, .ref (a0 20)), (0, .ref (a0 0)), (1, .int x1), (2, .int x2), (3, .int x3), (4, .int x4), (5, .int x5)]) hx hb dX6_copy_34 hl (by decide) rfl (fun ls hl => ?_)
          refine lv_aload hx hb dX6_copy_36 (lv_at hl 1 rfl) ?_
          refine va_getN (D := D) (ci := 3) (v := .int (t0 20 0)) (C := RX3) (T := TX3) (N := 4) hx hb hts (fun w h => List.mem_cons_of_mem _ (inAX3 w h)) hown hK.1 hP 20 (at_C_20 cI cS _ _) rfl 0 (by decide) (nu_RX6_206 hK) (fun _ h9 => h9) rfl dX6_copy_38 ?_
          refine lv_if_eq (tgt := 52) hx hb dX6_copy_41 (by decide) (fun c41 => ?_) (fun c41 => ?_)
          · replace hF := ip c41 hF
            refine lv_aload_n hx hb dX6_copy_52 rfl (lv_at hl 2 rfl) ?_
            refine lv_iconst (v := 1) hx hb dX6_copy_53 (by decide) ?_
            obtain ⟨v54, u54, h54, hF⟩ := bd2 hF
            refine cAe (ws' := pC cI cS a0 u54) (va_runV (As := [.int 1]) (rest := []) ⟨hx, hb, hml, hown, hts⟩ (c_X6_withFault l D cI cS a0 t0 1 v54 u54 h54) (cwVA hts (TW.cons _) lv_X6_withFault ml_RX6_64 ⟨rfl, rfl⟩ ⟨(Nat.le_of_ble_eq_true rfl), (Nat.le_of_ble_eq_true rfl)⟩) (pWV hK hP hD (ci := 5) rfl rfl) rfl rfl hl.1 rfl (lv_room (Nat.le_of_ble_eq_true rfl)) dX6_copy_54 ⟨Nat.le_refl _, Nat.le_refl _⟩) hD hS (ad_C cI cS _ _ _) (fun H locs hP hD hS => ?_)
            exact W.iret hx hb hr (fun t ht hW => ⟨⟨_, (), rfl, (Prod.mk.inj (Option.some.inj hF)).1, by show va_P _ _ _ t.heap; rw [ht, ← (Prod.mk.inj (Option.some.inj hF)).2]; exact hP⟩, hS.F ht⟩) hS.2.2 dX6_copy_57
          · replace hF := iq c41 hF
            refine lv_aload hx hb dX6_copy_44 (lv_at hl 0 rfl) ?_
            refine va_getN (D := D) (ci := 3) (v := .int (t0 24 0)) (C := RX3) (T := TX3) (N := 4) hx hb hts (fun w h => List.mem_cons_of_mem _ (inAX3 w h)) hown hK.1 hP 24 (at_C_24 cI cS _ _) rfl 0 (by decide) (nu_RX6_206 hK) (fun _ h9 => h9) rfl dX6_copy_46 ?_
            refine lv_if_ne (tgt := 58) hx hb dX6_copy_49 (by decide) (fun c49 => ?_) (fun c49 => ?_)
            · replace hF := iq c49 hF
              refine lv_aload hx hb dX6_copy_58 (lv_at hl 1 rfl) ?_
              refine va_getN (D := D) (ci := 3) (v := .int (t0 20 1)) (C := RX3) (T := TX3) (N := 4) hx hb hts (fun w h => List.mem_cons_of_mem _ (inAX3 w h)) hown hK.1 hP 20 (at_C_20 cI cS _ _) rfl 1 (by decide) (nu_RX6_220 hK) (fun _ h9 => h9) rfl dX6_copy_60 ?_
              refine lv_aload hx hb dX6_copy_63 (lv_at hl 0 rfl) ?_
              refine va_getN (D := D) (ci := 3) (v := .int (t0 24 1)) (C := RX3) (T := TX3) (N := 4) hx hb hts (fun w h => List.mem_cons_of_mem _ (inAX3 w h)) hown hK.1 hP 24 (at_C_24 cI cS _ _) rfl 1 (by decide) (nu_RX6_220 hK) (fun _ h9 => h9) rfl dX6_copy_65 ?_
              refine lv_icmp_eq (tgt := 77) hx hb dX6_copy_68 (by decide) (fun c68 => ?_) (fun c68 => ?_)
              · replace hF := ip c68 hF
                refine lv_aload hx hb dX6_copy_77 (lv_at hl 1 rfl) ?_
                refine lv_iload_n hx hb dX6_copy_79 rfl (lv_at hl 4 rfl) ?_
                refine lv_iload hx hb dX6_copy_80 (lv_at hl 7 rfl) ?_
                obtain ⟨v82, h82, hF⟩ := bd hF
                refine cRb (va_runV (As := [.int x2, .int x5]) (rest := []) ⟨hx, hb, hml, hown, hts⟩ (c_X3_reaches l D cI cS (sa a0 20) (sb t0 20) x2 x5 v82 h82) (cwVA hts (TW.cons _) lv_X3_reaches ml_RX6_210 ⟨rfl, rfl⟩ ⟨(Nat.le_of_ble_eq_true rfl), (Nat.le_of_ble_eq_true rfl)⟩) (pRV hK (hP.sub [20, 21] (su_C_S20 cI cS _ _)) (ci := 3) rfl rfl) rfl rfl hl.1 rfl (lv_room (Nat.le_of_ble_eq_true rfl)) dX6_copy_82 ⟨Nat.le_refl _, Nat.le_refl _⟩) (fun b82 => ?_)
                refine lv_if_eq (tgt := 100) hx hb dX6_copy_85 (by decide) (fun c85 => ?_) (fun c85 => ?_)
                · replace hF := ip c85 hF
                  refine lv_aload_n hx hb dX6_copy_100 rfl (lv_at hl 2 rfl) ?_
                  refine lv_iconst (v := 3) hx hb dX6_copy_101 (by decide) ?_
                  obtain ⟨v102, u102, h102, hF⟩ := bd2 hF
                  refine cAe (ws' := pC cI cS a0 u102) (va_runV (As := [.int 3]) (rest := []) ⟨hx, hb, hml, hown, hts⟩ (c_X6_withFault l D cI cS a0 t0 3 v102 u102 h102) (cwVA hts (TW.cons _) lv_X6_withFault ml_RX6_64 ⟨rfl, rfl⟩ ⟨(Nat.le_of_ble_eq_true rfl), (Nat.le_of_ble_eq_true rfl)⟩) (pWV hK hP hD (ci := 5) rfl rfl) rfl rfl hl.1 rfl (lv_room (Nat.le_of_ble_eq_true rfl)) dX6_copy_102 ⟨Nat.le_refl _, Nat.le_refl _⟩) hD hS (ad_C cI cS _ _ _) (fun H locs hP hD hS => ?_)
                  exact W.iret hx hb hr (fun t ht hW => ⟨⟨_, (), rfl, (Prod.mk.inj (Option.some.inj hF)).1, by show va_P _ _ _ t.heap; rw [ht, ← (Prod.mk.inj (Option.some.inj hF)).2]; exact hP⟩, hS.F ht⟩) hS.2.2 dX6_copy_105
                · replace hF := iq c85 hF
                  refine lv_aload hx hb dX6_copy_88 (lv_at hl 0 rfl) ?_
                  refine lv_iload hx hb dX6_copy_90 (lv_at hl 6 rfl) ?_
                  refine lv_iload hx hb dX6_copy_92 (lv_at hl 7 rfl) ?_
                  obtain ⟨v94, h94, hF⟩ := bd hF
                  refine cRb (va_runV (As := [.int x4, .int x5]) (rest := []) ⟨hx, hb, hml, hown, hts⟩ (c_X3_reaches l D cI cS (sa a0 24) (sb t0 24) x4 x5 v94 h94) (cwVA hts (TW.cons _) lv_X3_reaches ml_RX6_210 ⟨rfl, rfl⟩ ⟨(Nat.le_of_ble_eq_true rfl), (Nat.le_of_ble_eq_true rfl)⟩) (pRV hK (hP.sub [24, 25] (su_C_S24 cI cS _ _)) (ci := 3) rfl rfl) rfl rfl hl.1 rfl (lv_room (Nat.le_of_ble_eq_true rfl)) dX6_copy_94 ⟨Nat.le_refl _, Nat.le_refl _⟩) (fun b94 => ?_)
                  refine lv_if_ne (tgt := 106) hx hb dX6_copy_97 (by decide) (fun c97 => ?_) (fun c97 => ?_)
                  · replace hF := iq c97 hF
                    refine lv_aload hx hb dX6_copy_106 (lv_at hl 1 rfl) ?_
                    refine va_getN (D := D) (ci := 3) (v := .ref (a0 21)) (C := RX3) (T := TX3) (N := 4) hx hb hts (fun w h => List.mem_cons_of_mem _ (inAX3 w h)) hown hK.1 hP 20 (at_C_20 cI cS _ _) rfl 3 (by decide) (nu_RX6_223 hK) (fun _ h9 => h9) rfl dX6_copy_108 ?_
                    refine lv_iload_n hx hb dX6_copy_111 rfl (lv_at hl 4 rfl) ?_
                    refine lv_aload hx hb dX6_copy_112 (lv_at hl 0 rfl) ?_
                    refine va_getN (D := D) (ci := 3) (v := .ref (a0 25)) (C := RX3) (T := TX3) (N := 4) hx hb hts (fun w h => List.mem_cons_of_mem _ (inAX3 w h)) hown hK.1 hP 24 (at_C_24 cI cS _ _) rfl 3 (by decide) (nu_RX6_223 hK) (fun _ h9 => h9) rfl dX6_copy_114 ?_
                    refine lv_iload hx hb dX6_copy_117 (lv_at hl 6 rfl) ?_
                    refine lv_iload hx hb dX6_copy_119 (lv_at hl 7 rfl) ?_
                    obtain ⟨g121, h121, hF⟩ := bd hF
                    refine wC (ws' := pC cI cS a0 (sr t0 25 g121)) hx hb (hml.trans hl.1.symm) hown (hts _ (List.mem_cons_of_mem _ ml_RX6_226)) (hts _ (List.mem_cons_of_mem _ jk_cpy.1)) (hts _ (List.mem_cons_of_mem _ jk_cpy.2.1)) (hts _ (List.mem_cons_of_mem _ jk_cpy.2.2)) hK.1 hP hD hS 21 25 0 (at_C_21 cI cS _ _) (at_C_25 cI cS _ _) rfl h121 (sx_C_25 cI cS _ _ _) (Nat.le_of_ble_eq_true rfl) (Nat.le_of_ble_eq_true rfl) dX6_copy_121 (fun H locs hP hD hS => ?_)
                    refine lv_aload_n hx hb dX6_copy_124 rfl (lv_at hl 2 rfl) ?_
                    refine lv_iload hx hb dX6_copy_125 (lv_at hl 7 rfl) ?_
                    obtain ⟨v127, u127, h127, hF⟩ := bd2 hF
                    refine cAe (ws' := pC cI cS a0 u127) (va_runV (As := [.int x5]) (rest := []) ⟨hx, hb, hml, hown, hts⟩ (c_X6_withoutFault l D cI cS a0 (sr t0 25 g121) x5 v127 u127 h127) (cwVA hts (TW.cons _) lv_X6_withoutFault ml_RX6_53 ⟨rfl, rfl⟩ ⟨(Nat.le_of_ble_eq_true rfl), (Nat.le_of_ble_eq_true rfl)⟩) (pWV hK hP hD (ci := 5) rfl rfl) rfl rfl hl.1 rfl (lv_room (Nat.le_of_ble_eq_true rfl)) dX6_copy_127 ⟨Nat.le_refl _, Nat.le_refl _⟩) hD hS (ad_C cI cS _ _ _) (fun H locs hP hD hS => ?_)
                    exact W.iret hx hb hr (fun t ht hW => ⟨⟨_, (), rfl, (Prod.mk.inj (Option.some.inj hF)).1, by show va_P _ _ _ t.heap; rw [ht, ← (Prod.mk.inj (Option.some.inj hF)).2]; exact hP⟩, hS.F ht⟩) hS.2.2 dX6_copy_130
                  · replace hF := ip c97 hF
                    refine lv_aload_n hx hb dX6_copy_100 rfl (lv_at hl 2 rfl) ?_
                    refine lv_iconst (v := 3) hx hb dX6_copy_101 (by decide) ?_
                    obtain ⟨v102, u102, h102, hF⟩ := bd2 hF
                    refine cAe (ws' := pC cI cS a0 u102) (va_runV (As := [.int 3]) (rest := []) ⟨hx, hb, hml, hown, hts⟩ (c_X6_withFault l D cI cS a0 t0 3 v102 u102 h102) (cwVA hts (TW.cons _) lv_X6_withFault ml_RX6_64 ⟨rfl, rfl⟩ ⟨(Nat.le_of_ble_eq_true rfl), (Nat.le_of_ble_eq_true rfl)⟩) (pWV hK hP hD (ci := 5) rfl rfl) rfl rfl hl.1 rfl (lv_room (Nat.le_of_ble_eq_true rfl)) dX6_copy_102 ⟨Nat.le_refl _, Nat.le_refl _⟩) hD hS (ad_C cI cS _ _ _) (fun H locs hP hD hS => ?_)
                    exact W.iret hx hb hr (fun t ht hW => ⟨⟨_, (), rfl, (Prod.mk.inj (Option.some.inj hF)).1, by show va_P _ _ _ t.heap; rw [ht, ← (Prod.mk.inj (Option.some.inj hF)).2]; exact hP⟩, hS.F ht⟩) hS.2.2 dX6_copy_105
              · replace hF := iq c68 hF
                refine lv_aload_n hx hb dX6_copy_71 rfl (lv_at hl 2 rfl) ?_
                refine lv_iconst (v := 2) hx hb dX6_copy_72 (by decide) ?_
                obtain ⟨v73, u73, h73, hF⟩ := bd2 hF
                refine cAe (ws' := pC cI cS a0 u73) (va_runV (As := [.int 2]) (rest := []) ⟨hx, hb, hml, hown, hts⟩ (c_X6_withFault l D cI cS a0 t0 2 v73 u73 h73) (cwVA hts (TW.cons _) lv_X6_withFault ml_RX6_64 ⟨rfl, rfl⟩ ⟨(Nat.le_of_ble_eq_true rfl), (Nat.le_of_ble_eq_true rfl)⟩) (pWV hK hP hD (ci := 5) rfl rfl) rfl rfl hl.1 rfl (lv_room (Nat.le_of_ble_eq_true rfl)) dX6_copy_73 ⟨Nat.le_refl _, Nat.le_refl _⟩) hD hS (ad_C cI cS _ _ _) (fun H locs hP hD hS => ?_)
                exact W.iret hx hb hr (fun t ht hW => ⟨⟨_, (), rfl, (Prod.mk.inj (Option.some.inj hF)).1, by show va_P _ _ _ t.heap; rw [ht, ← (Prod.mk.inj (Option.some.inj hF)).2]; exact hP⟩, hS.F ht⟩) hS.2.2 dX6_copy_76
            · replace hF := ip c49 hF
              refine lv_aload_n hx hb dX6_copy_52 rfl (lv_at hl 2 rfl) ?_
              refine lv_iconst (v := 1) hx hb dX6_copy_53 (by decide) ?_
              obtain ⟨v54, u54, h54, hF⟩ := bd2 hF
              refine cAe (ws' := pC cI cS a0 u54) (va_runV (As := [.int 1]) (rest := []) ⟨hx, hb, hml, hown, hts⟩ (c_X6_withFault l D cI cS a0 t0 1 v54 u54 h54) (cwVA hts (TW.cons _) lv_X6_withFault ml_RX6_64 ⟨rfl, rfl⟩ ⟨(Nat.le_of_ble_eq_true rfl), (Nat.le_of_ble_eq_true rfl)⟩) (pWV hK hP hD (ci := 5) rfl rfl) rfl rfl hl.1 rfl (lv_room (Nat.le_of_ble_eq_true rfl)) dX6_copy_54 ⟨Nat.le_refl _, Nat.le_refl _⟩) hD hS (ad_C cI cS _ _ _) (fun H locs hP hD hS => ?_)
              exact W.iret hx hb hr (fun t ht hW => ⟨⟨_, (), rfl, (Prod.mk.inj (Option.some.inj hF)).1, by show va_P _ _ _ t.heap; rw [ht, ← (Prod.mk.inj (Option.some.inj hF)).2]; exact hP⟩, hS.F ht⟩) hS.2.2 dX6_copy_57
        · refine rR (b := a0 26) hx hb hK.1 hP 28 1 (at_C_28 cI cS _ _) rfl h33 rfl dX6_copy_33 ?_
          refine lv_astore (lv' := [(7, .ref (a0 26)), (6, .ref (a0 20)), (0, .ref (a0 0)), (1, .int x1), (2, .int x2), (3, .int x3), (4, .int x4), (5, .int x5)]) hx hb dX6_copy_34 hl (by decide) rfl (fun ls hl => ?_)
          refine lv_aload hx hb dX6_copy_36 (lv_at hl 1 rfl) ?_
          refine va_getN (D := D) (ci := 3) (v := .int (t0 20 0)) (C := RX3) (T := TX3) (N := 4) hx hb hts (fun w h => List.mem_cons_of_mem _ (inAX3 w h)) hown hK.1 hP 20 (at_C_20 cI cS _ _) rfl 0 (by decide) (nu_RX6_206 hK) (fun _ h9 => h9) rfl dX6_copy_38 ?_
          refine lv_if_eq (tgt := 52) hx hb dX6_copy_41 (by decide) (fun c41 => ?_) (fun c41 => ?_)
          · replace hF := ip c41 hF
            refine lv_aload_n hx hb dX6_copy_52 rfl (lv_at hl 2 rfl) ?_
            refine lv_iconst (v := 1) hx hb dX6_copy_53 (by decide) ?_
            obtain ⟨v54, u54, h54, hF⟩ := bd2 hF
            refine cAe (ws' := pC cI cS a0 u54) (va_runV (As := [.int 1]) (rest := []) ⟨hx, hb, hml, hown, hts⟩ (c_X6_withFault l D cI cS a0 t0 1 v54 u54 h54) (cwVA hts (TW.cons _) lv_X6_withFault ml_RX6_64 ⟨rfl, rfl⟩ ⟨(Nat.le_of_ble_eq_true rfl), (Nat.le_of_ble_eq_true rfl)⟩) (pWV hK hP hD (ci := 5) rfl rfl) rfl rfl hl.1 rfl (lv_room (Nat.le_of_ble_eq_true rfl)) dX6_copy_54 ⟨Nat.le_refl _, Nat.le_refl _⟩) hD hS (ad_C cI cS _ _ _) (fun H locs hP hD hS => ?_)
            exact W.iret hx hb hr (fun t ht hW => ⟨⟨_, (), rfl, (Prod.mk.inj (Option.some.inj hF)).1, by show va_P _ _ _ t.heap; rw [ht, ← (Prod.mk.inj (Option.some.inj hF)).2]; exact hP⟩, hS.F ht⟩) hS.2.2 dX6_copy_57
          · replace hF := iq c41 hF
            refine lv_aload hx hb dX6_copy_44 (lv_at hl 0 rfl) ?_
            refine va_getN (D := D) (ci := 3) (v := .int (t0 26 0)) (C := RX3) (T := TX3) (N := 4) hx hb hts (fun w h => List.mem_cons_of_mem _ (inAX3 w h)) hown hK.1 hP 26 (at_C_26 cI cS _ _) rfl 0 (by decide) (nu_RX6_206 hK) (fun _ h9 => h9) rfl dX6_copy_46 ?_
            refine lv_if_ne (tgt := 58) hx hb dX6_copy_49 (by decide) (fun c49 => ?_) (fun c49 => ?_)
            · replace hF := iq c49 hF
              refine lv_aload hx hb dX6_copy_58 (lv_at hl 1 rfl) ?_
              refine va_getN (D := D) (ci := 3) (v := .int (t0 20 1)) (C := RX3) (T := TX3) (N := 4) hx hb hts (fun w h => List.mem_cons_of_mem _ (inAX3 w h)) hown hK.1 hP 20 (at_C_20 cI cS _ _) rfl 1 (by decide) (nu_RX6_220 hK) (fun _ h9 => h9) rfl dX6_copy_60 ?_
              refine lv_aload hx hb dX6_copy_63 (lv_at hl 0 rfl) ?_
              refine va_getN (D := D) (ci := 3) (v := .int (t0 26 1)) (C := RX3) (T := TX3) (N := 4) hx hb hts (fun w h => List.mem_cons_of_mem _ (inAX3 w h)) hown hK.1 hP 26 (at_C_26 cI cS _ _) rfl 1 (by decide) (nu_RX6_220 hK) (fun _ h9 => h9) rfl dX6_copy_65 ?_
              refine lv_icmp_eq (tgt := 77) hx hb dX6_copy_68 (by decide) (fun c68 => ?_) (fun c68 => ?_)
              · replace hF := ip c68 hF
                refine lv_aload hx hb dX6_copy_77 (lv_at hl 1 rfl) ?_
                refine lv_iload_n hx hb dX6_copy_79 rfl (lv_at hl 4 rfl) ?_
                refine lv_iload hx hb dX6_copy_80 (lv_at hl 7 rfl) ?_
                obtain ⟨v82, h82, hF⟩ := bd hF
                refine cRb (va_runV (As := [.int x2, .int x5]) (rest := []) ⟨hx, hb, hml, hown, hts⟩ (c_X3_reaches l D cI cS (sa a0 20) (sb t0 20) x2 x5 v82 h82) (cwVA hts (TW.cons _) lv_X3_reaches ml_RX6_210 ⟨rfl, rfl⟩ ⟨(Nat.le_of_ble_eq_true rfl), (Nat.le_of_ble_eq_true rfl)⟩) (pRV hK (hP.sub [20, 21] (su_C_S20 cI cS _ _)) (ci := 3) rfl rfl) rfl rfl hl.1 rfl (lv_room (Nat.le_of_ble_eq_true rfl)) dX6_copy_82 ⟨Nat.le_refl _, Nat.le_refl _⟩) (fun b82 => ?_)
                refine lv_if_eq (tgt := 100) hx hb dX6_copy_85 (by decide) (fun c85 => ?_) (fun c85 => ?_)
                · replace hF := ip c85 hF
                  refine lv_aload_n hx hb dX6_copy_100 rfl (lv_at hl 2 rfl) ?_
                  refine lv_iconst (v := 3) hx hb dX6_copy_101 (by decide) ?_
                  obtain ⟨v102, u102, h102, hF⟩ := bd2 hF
                  refine cAe (ws' := pC cI cS a0 u102) (va_runV (As := [.int 3]) (rest := []) ⟨hx, hb, hml, hown, hts⟩ (c_X6_withFault l D cI cS a0 t0 3 v102 u102 h102) (cwVA hts (TW.cons _) lv_X6_withFault ml_RX6_64 ⟨rfl, rfl⟩ ⟨(Nat.le_of_ble_eq_true rfl), (Nat.le_of_ble_eq_true rfl)⟩) (pWV hK hP hD (ci := 5) rfl rfl) rfl rfl hl.1 rfl (lv_room (Nat.le_of_ble_eq_true rfl)) dX6_copy_102 ⟨Nat.le_refl _, Nat.le_refl _⟩) hD hS (ad_C cI cS _ _ _) (fun H locs hP hD hS => ?_)
                  exact W.iret hx hb hr (fun t ht hW => ⟨⟨_, (), rfl, (Prod.mk.inj (Option.some.inj hF)).1, by show va_P _ _ _ t.heap; rw [ht, ← (Prod.mk.inj (Option.some.inj hF)).2]; exact hP⟩, hS.F ht⟩) hS.2.2 dX6_copy_105
                · replace hF := iq c85 hF
                  refine lv_aload hx hb dX6_copy_88 (lv_at hl 0 rfl) ?_
                  refine lv_iload hx hb dX6_copy_90 (lv_at hl 6 rfl) ?_
                  refine lv_iload hx hb dX6_copy_92 (lv_at hl 7 rfl) ?_
                  obtain ⟨v94, h94, hF⟩ := bd hF
                  refine cRb (va_runV (As := [.int x4, .int x5]) (rest := []) ⟨hx, hb, hml, hown, hts⟩ (c_X3_reaches l D cI cS (sa a0 26) (sb t0 26) x4 x5 v94 h94) (cwVA hts (TW.cons _) lv_X3_reaches ml_RX6_210 ⟨rfl, rfl⟩ ⟨(Nat.le_of_ble_eq_true rfl), (Nat.le_of_ble_eq_true rfl)⟩) (pRV hK (hP.sub [26, 27] (su_C_S26 cI cS _ _)) (ci := 3) rfl rfl) rfl rfl hl.1 rfl (lv_room (Nat.le_of_ble_eq_true rfl)) dX6_copy_94 ⟨Nat.le_refl _, Nat.le_refl _⟩) (fun b94 => ?_)
                  refine lv_if_ne (tgt := 106) hx hb dX6_copy_97 (by decide) (fun c97 => ?_) (fun c97 => ?_)
                  · replace hF := iq c97 hF
                    refine lv_aload hx hb dX6_copy_106 (lv_at hl 1 rfl) ?_
                    refine va_getN (D := D) (ci := 3) (v := .ref (a0 21)) (C := RX3) (T := TX3) (N := 4) hx hb hts (fun w h => List.mem_cons_of_mem _ (inAX3 w h)) hown hK.1 hP 20 (at_C_20 cI cS _ _) rfl 3 (by decide) (nu_RX6_223 hK) (fun _ h9 => h9) rfl dX6_copy_108 ?_
                    refine lv_iload_n hx hb dX6_copy_111 rfl (lv_at hl 4 rfl) ?_
                    refine lv_aload hx hb dX6_copy_112 (lv_at hl 0 rfl) ?_
                    refine va_getN (D := D) (ci := 3) (v := .ref (a0 27)) (C := RX3) (T := TX3) (N := 4) hx hb hts (fun w h => List.mem_cons_of_mem _ (inAX3 w h)) hown hK.1 hP 26 (at_C_26 cI cS _ _) rfl 3 (by decide) (nu_RX6_223 hK) (fun _ h9 => h9) rfl dX6_copy_114 ?_
                    refine lv_iload hx hb dX6_copy_117 (lv_at hl 6 rfl) ?_
                    refine lv_iload hx hb dX6_copy_119 (lv_at hl 7 rfl) ?_
                    obtain ⟨g121, h121, hF⟩ := bd hF
                    refine wC (ws' := pC cI cS a0 (sr t0 27 g121)) hx hb (hml.trans hl.1.symm) hown (hts _ (List.mem_cons_of_mem _ ml_RX6_226)) (hts _ (List.mem_cons_of_mem _ jk_cpy.1)) (hts _ (List.mem_cons_of_mem _ jk_cpy.2.1)) (hts _ (List.mem_cons_of_mem _ jk_cpy.2.2)) hK.1 hP hD hS 21 27 0 (at_C_21 cI cS _ _) (at_C_27 cI cS _ _) rfl h121 (sx_C_27 cI cS _ _ _) (Nat.le_of_ble_eq_true rfl) (Nat.le_of_ble_eq_true rfl) dX6_copy_121 (fun H locs hP hD hS => ?_)
                    refine lv_aload_n hx hb dX6_copy_124 rfl (lv_at hl 2 rfl) ?_
                    refine lv_iload hx hb dX6_copy_125 (lv_at hl 7 rfl) ?_
                    obtain ⟨v127, u127, h127, hF⟩ := bd2 hF
                    refine cAe (ws' := pC cI cS a0 u127) (va_runV (As := [.int x5]) (rest := []) ⟨hx, hb, hml, hown, hts⟩ (c_X6_withoutFault l D cI cS a0 (sr t0 27 g121) x5 v127 u127 h127) (cwVA hts (TW.cons _) lv_X6_withoutFault ml_RX6_53 ⟨rfl, rfl⟩ ⟨(Nat.le_of_ble_eq_true rfl), (Nat.le_of_ble_eq_true rfl)⟩) (pWV hK hP hD (ci := 5) rfl rfl) rfl rfl hl.1 rfl (lv_room (Nat.le_of_ble_eq_true rfl)) dX6_copy_127 ⟨Nat.le_refl _, Nat.le_refl _⟩) hD hS (ad_C cI cS _ _ _) (fun H locs hP hD hS => ?_)
                    exact W.iret hx hb hr (fun t ht hW => ⟨⟨_, (), rfl, (Prod.mk.inj (Option.some.inj hF)).1, by show va_P _ _ _ t.heap; rw [ht, ← (Prod.mk.inj (Option.some.inj hF)).2]; exact hP⟩, hS.F ht⟩) hS.2.2 dX6_copy_130
                  · replace hF := ip c97 hF
                    refine lv_aload_n hx hb dX6_copy_100 rfl (lv_at hl 2 rfl) ?_
                    refine lv_iconst (v := 3) hx hb dX6_copy_101 (by decide) ?_
                    obtain ⟨v102, u102, h102, hF⟩ := bd2 hF
                    refine cAe (ws' := pC cI cS a0 u102) (va_runV (As := [.int 3]) (rest := []) ⟨hx, hb, hml, hown, hts⟩ (c_X6_withFault l D cI cS a0 t0 3 v102 u102 h102) (cwVA hts (TW.cons _) lv_X6_withFault ml_RX6_64 ⟨rfl, rfl⟩ ⟨(Nat.le_of_ble_eq_true rfl), (Nat.le_of_ble_eq_true rfl)⟩) (pWV hK hP hD (ci := 5) rfl rfl) rfl rfl hl.1 rfl (lv_room (Nat.le_of_ble_eq_true rfl)) dX6_copy_102 ⟨Nat.le_refl _, Nat.le_refl _⟩) hD hS (ad_C cI cS _ _ _) (fun H locs hP hD hS => ?_)
                    exact W.iret hx hb hr (fun t ht hW => ⟨⟨_, (), rfl, (Prod.mk.inj (Option.some.inj hF)).1, by show va_P _ _ _ t.heap; rw [ht, ← (Prod.mk.inj (Option.some.inj hF)).2]; exact hP⟩, hS.F ht⟩) hS.2.2 dX6_copy_105
              · replace hF := iq c68 hF
                refine lv_aload_n hx hb dX6_copy_71 rfl (lv_at hl 2 rfl) ?_
                refine lv_iconst (v := 2) hx hb dX6_copy_72 (by decide) ?_
                obtain ⟨v73, u73, h73, hF⟩ := bd2 hF
                refine cAe (ws' := pC cI cS a0 u73) (va_runV (As := [.int 2]) (rest := []) ⟨hx, hb, hml, hown, hts⟩ (c_X6_withFault l D cI cS a0 t0 2 v73 u73 h73) (cwVA hts (TW.cons _) lv_X6_withFault ml_RX6_64 ⟨rfl, rfl⟩ ⟨(Nat.le_of_ble_eq_true rfl), (Nat.le_of_ble_eq_true rfl)⟩) (pWV hK hP hD (ci := 5) rfl rfl) rfl rfl hl.1 rfl (lv_room (Nat.le_of_ble_eq_true rfl)) dX6_copy_73 ⟨Nat.le_refl _, Nat.le_refl _⟩) hD hS (ad_C cI cS _ _ _) (fun H locs hP hD hS => ?_)
                exact W.iret hx hb hr (fun t ht hW => ⟨⟨_, (), rfl, (Prod.mk.inj (Option.some.inj hF)).1, by show va_P _ _ _ t.heap; rw [ht, ← (Prod.mk.inj (Option.some.inj hF)).2]; exact hP⟩, hS.F ht⟩) hS.2.2 dX6_copy_76
            · replace hF := ip c49 hF
              refine lv_aload_n hx hb dX6_copy_52 rfl (lv_at hl 2 rfl) ?_
              refine lv_iconst (v := 1) hx hb dX6_copy_53 (by decide) ?_
              obtain ⟨v54, u54, h54, hF⟩ := bd2 hF
              refine cAe (ws' := pC cI cS a0 u54) (va_runV (As := [.int 1]) (rest := []) ⟨hx, hb, hml, hown, hts⟩ (c_X6_withFault l D cI cS a0 t0 1 v54 u54 h54) (cwVA hts (TW.cons _) lv_X6_withFault ml_RX6_64 ⟨rfl, rfl⟩ ⟨(Nat.le_of_ble_eq_true rfl), (Nat.le_of_ble_eq_true rfl)⟩) (pWV hK hP hD (ci := 5) rfl rfl) rfl rfl hl.1 rfl (lv_room (Nat.le_of_ble_eq_true rfl)) dX6_copy_54 ⟨Nat.le_refl _, Nat.le_refl _⟩) hD hS (ad_C cI cS _ _ _) (fun H locs hP hD hS => ?_)
              exact W.iret hx hb hr (fun t ht hW => ⟨⟨_, (), rfl, (Prod.mk.inj (Option.some.inj hF)).1, by show va_P _ _ _ t.heap; rw [ht, ← (Prod.mk.inj (Option.some.inj hF)).2]; exact hP⟩, hS.F ht⟩) hS.2.2 dX6_copy_57
      · refine rR (b := a0 22) hx hb hK.1 hP 28 1 (at_C_28 cI cS _ _) rfl h25 rfl dX6_copy_25 ?_
        refine lv_astore (lv' := [(6, .ref (a0 22)), (0, .ref (a0 0)), (1, .int x1), (2, .int x2), (3, .int x3), (4, .int x4), (5, .int x5)]) hx hb dX6_copy_26 hl (by decide) rfl (fun ls hl => ?_)
        refine lv_aload_n hx hb dX6_copy_28 rfl (lv_at hl 1 rfl) ?_
        refine va_get (D := D) (ci := 5) (v := .ref (a0 28)) (C := RX6) (T := TX6) (N := 8) hx hb hts (fun w h => List.mem_cons_of_mem _ (inAX6 w h)) hown hK.1 hP 0 (at_C_0 cI cS _ _) rfl 5 (by decide) (hts _ (List.mem_cons_of_mem _ fl_RX6_44)) (fun _ h9 => h9) rfl dX6_copy_29 ?_
        refine lv_iload_n hx hb dX6_copy_32 rfl (lv_at hl 4 rfl) ?_
        obtain ⟨k33, h33, hF⟩ := bd hF
        obtain ⟨-, -, l33⟩ := ix_some h33
        rcases lt4 l33 with rfl | rfl | rfl | rfl
        · refine rR (b := a0 20) hx hb hK.1 hP 28 1 (at_C_28 cI cS _ _) rfl h33 rfl dX6_copy_33 ?_
          refine lv_astore (lv' := [(7, .ref (a0 20)), (6, .ref (a0 22)), (0, .ref (a0 0)), (1, .int x1), (2, .int x2), (3, .int x3), (4, .int x4), (5, .int x5)]) hx hb dX6_copy_34 hl (by decide) rfl (fun ls hl => ?_)
          refine lv_aload hx hb dX6_copy_36 (lv_at hl 1 rfl) ?_
          refine va_getN (D := D) (ci := 3) (v := .int (t0 22 0)) (C := RX3) (T := TX3) (N := 4) hx hb hts (fun w h => List.mem_cons_of_mem _ (inAX3 w h)) hown hK.1 hP 22 (at_C_22 cI cS _ _) rfl 0 (by decide) (nu_RX6_206 hK) (fun _ h9 => h9) rfl dX6_copy_38 ?_
          refine lv_if_eq (tgt := 52) hx hb dX6_copy_41 (by decide) (fun c41 => ?_) (fun c41 => ?_)
          · replace hF := ip c41 hF
            refine lv_aload_n hx hb dX6_copy_52 rfl (lv_at hl 2 rfl) ?_
            refine lv_iconst (v := 1) hx hb dX6_copy_53 (by decide) ?_
            obtain ⟨v54, u54, h54, hF⟩ := bd2 hF
            refine cAe (ws' := pC cI cS a0 u54) (va_runV (As := [.int 1]) (rest := []) ⟨hx, hb, hml, hown, hts⟩ (c_X6_withFault l D cI cS a0 t0 1 v54 u54 h54) (cwVA hts (TW.cons _) lv_X6_withFault ml_RX6_64 ⟨rfl, rfl⟩ ⟨(Nat.le_of_ble_eq_true rfl), (Nat.le_of_ble_eq_true rfl)⟩) (pWV hK hP hD (ci := 5) rfl rfl) rfl rfl hl.1 rfl (lv_room (Nat.le_of_ble_eq_true rfl)) dX6_copy_54 ⟨Nat.le_refl _, Nat.le_refl _⟩) hD hS (ad_C cI cS _ _ _) (fun H locs hP hD hS => ?_)
            exact W.iret hx hb hr (fun t ht hW => ⟨⟨_, (), rfl, (Prod.mk.inj (Option.some.inj hF)).1, by show va_P _ _ _ t.heap; rw [ht, ← (Prod.mk.inj (Option.some.inj hF)).2]; exact hP⟩, hS.F ht⟩) hS.2.2 dX6_copy_57
          · replace hF := iq c41 hF
            refine lv_aload hx hb dX6_copy_44 (lv_at hl 0 rfl) ?_
            refine va_getN (D := D) (ci := 3) (v := .int (t0 20 0)) (C := RX3) (T := TX3) (N := 4) hx hb hts (fun w h => List.mem_cons_of_mem _ (inAX3 w h)) hown hK.1 hP 20 (at_C_20 cI cS _ _) rfl 0 (by decide) (nu_RX6_206 hK) (fun _ h9 => h9) rfl dX6_copy_46 ?_
            refine lv_if_ne (tgt := 58) hx hb dX6_copy_49 (by decide) (fun c49 => ?_) (fun c49 => ?_)
            · replace hF := iq c49 hF
              refine lv_aload hx hb dX6_copy_58 (lv_at hl 1 rfl) ?_
              refine va_getN (D := D) (ci := 3) (v := .int (t0 22 1)) (C := RX3) (T := TX3) (N := 4) hx hb hts (fun w h => List.mem_cons_of_mem _ (inAX3 w h)) hown hK.1 hP 22 (at_C_22 cI cS _ _) rfl 1 (by decide) (nu_RX6_220 hK) (fun _ h9 => h9) rfl dX6_copy_60 ?_
              refine lv_aload hx hb dX6_copy_63 (lv_at hl 0 rfl) ?_
              refine va_getN (D := D) (ci := 3) (v := .int (t0 20 1)) (C := RX3) (T := TX3) (N := 4) hx hb hts (fun w h => List.mem_cons_of_mem _ (inAX3 w h)) hown hK.1 hP 20 (at_C_20 cI cS _ _) rfl 1 (by decide) (nu_RX6_220 hK) (fun _ h9 => h9) rfl dX6_copy_65 ?_
              refine lv_icmp_eq (tgt := 77) hx hb dX6_copy_68 (by decide) (fun c68 => ?_) (fun c68 => ?_)
              · replace hF := ip c68 hF
                refine lv_aload hx hb dX6_copy_77 (lv_at hl 1 rfl) ?_
                refine lv_iload_n hx hb dX6_copy_79 rfl (lv_at hl 4 rfl) ?_
                refine lv_iload hx hb dX6_copy_80 (lv_at hl 7 rfl) ?_
                obtain ⟨v82, h82, hF⟩ := bd hF
                refine cRb (va_runV (As := [.int x2, .int x5]) (rest := []) ⟨hx, hb, hml, hown, hts⟩ (c_X3_reaches l D cI cS (sa a0 22) (sb t0 22) x2 x5 v82 h82) (cwVA hts (TW.cons _) lv_X3_reaches ml_RX6_210 ⟨rfl, rfl⟩ ⟨(Nat.le_of_ble_eq_true rfl), (Nat.le_of_ble_eq_true rfl)⟩) (pRV hK (hP.sub [22, 23] (su_C_S22 cI cS _ _)) (ci := 3) rfl rfl) rfl rfl hl.1 rfl (lv_room (Nat.le_of_ble_eq_true rfl)) dX6_copy_82 ⟨Nat.le_refl _, Nat.le_refl _⟩) (fun b82 => ?_)
                refine lv_if_eq (tgt := 100) hx hb dX6_copy_85 (by decide) (fun c85 => ?_) (fun c85 => ?_)
                · replace hF := ip c85 hF
                  refine lv_aload_n hx hb dX6_copy_100 rfl (lv_at hl 2 rfl) ?_
                  refine lv_iconst (v := 3) hx hb dX6_copy_101 (by decide) ?_
                  obtain ⟨v102, u102, h102, hF⟩ := bd2 hF
                  refine cAe (ws' := pC cI cS a0 u102) (va_runV (As := [.int 3]) (rest := []) ⟨hx, hb, hml, hown, hts⟩ (c_X6_withFault l D cI cS a0 t0 3 v102 u102 h102) (cwVA hts (TW.cons _) lv_X6_withFault ml_RX6_64 ⟨rfl, rfl⟩ ⟨(Nat.le_of_ble_eq_true rfl), (Nat.le_of_ble_eq_true rfl)⟩) (pWV hK hP hD (ci := 5) rfl rfl) rfl rfl hl.1 rfl (lv_room (Nat.le_of_ble_eq_true rfl)) dX6_copy_102 ⟨Nat.le_refl _, Nat.le_refl _⟩) hD hS (ad_C cI cS _ _ _) (fun H locs hP hD hS => ?_)
                  exact W.iret hx hb hr (fun t ht hW => ⟨⟨_, (), rfl, (Prod.mk.inj (Option.some.inj hF)).1, by show va_P _ _ _ t.heap; rw [ht, ← (Prod.mk.inj (Option.some.inj hF)).2]; exact hP⟩, hS.F ht⟩) hS.2.2 dX6_copy_105
                · replace hF := iq c85 hF
                  refine lv_aload hx hb dX6_copy_88 (lv_at hl 0 rfl) ?_
                  refine lv_iload hx hb dX6_copy_90 (lv_at hl 6 rfl) ?_
                  refine lv_iload hx hb dX6_copy_92 (lv_at hl 7 rfl) ?_
                  obtain ⟨v94, h94, hF⟩ := bd hF
                  refine cRb (va_runV (As := [.int x4, .int x5]) (rest := []) ⟨hx, hb, hml, hown, hts⟩ (c_X3_reaches l D cI cS (sa a0 20) (sb t0 20) x4 x5 v94 h94) (cwVA hts (TW.cons _) lv_X3_reaches ml_RX6_210 ⟨rfl, rfl⟩ ⟨(Nat.le_of_ble_eq_true rfl), (Nat.le_of_ble_eq_true rfl)⟩) (pRV hK (hP.sub [20, 21] (su_C_S20 cI cS _ _)) (ci := 3) rfl rfl) rfl rfl hl.1 rfl (lv_room (Nat.le_of_ble_eq_true rfl)) dX6_copy_94 ⟨Nat.le_refl _, Nat.le_refl _⟩) (fun b94 => ?_)
                  refine lv_if_ne (tgt := 106) hx hb dX6_copy_97 (by decide) (fun c97 => ?_) (fun c97 => ?_)
                  · replace hF := iq c97 hF
                    refine lv_aload hx hb dX6_copy_106 (lv_at hl 1 rfl) ?_
                    refine va_getN (D := D) (ci := 3) (v := .ref (a0 23)) (C := RX3) (T := TX3) (N := 4) hx hb hts (fun w h => List.mem_cons_of_mem _ (inAX3 w h)) hown hK.1 hP 22 (at_C_22 cI cS _ _) rfl 3 (by decide) (nu_RX6_223 hK) (fun _ h9 => h9) rfl dX6_copy_108 ?_
                    refine lv_iload_n hx hb dX6_copy_111 rfl (lv_at hl 4 rfl) ?_
                    refine lv_aload hx hb dX6_copy_112 (lv_at hl 0 rfl) ?_
                    refine va_getN (D := D) (ci := 3) (v := .ref (a0 21)) (C := RX3) (T := TX3) (N := 4) hx hb hts (fun w h => List.mem_cons_of_mem _ (inAX3 w h)) hown hK.1 hP 20 (at_C_20 cI cS _ _) rfl 3 (by decide) (nu_RX6_223 hK) (fun _ h9 => h9) rfl dX6_copy_114 ?_
                    refine lv_iload hx hb dX6_copy_117 (lv_at hl 6 rfl) ?_
                    refine lv_iload hx hb dX6_copy_119 (lv_at hl 7 rfl) ?_
                    obtain ⟨g121, h121, hF⟩ := bd hF
                    refine wC (ws' := pC cI cS a0 (sr t0 21 g121)) hx hb (hml.trans hl.1.symm) hown (hts _ (List.mem_cons_of_mem _ ml_RX6_226)) (hts _ (List.mem_cons_of_mem _ jk_cpy.1)) (hts _ (List.mem_cons_of_mem _ jk_cpy.2.1)) (hts _ (List.mem_cons_of_mem _ jk_cpy.2.2)) hK.1 hP hD hS 23 21 0 (at_C_23 cI cS _ _) (at_C_21 cI cS _ _) rfl h121 (sx_C_21 cI cS _ _ _) (Nat.le_of_ble_eq_true rfl) (Nat.le_of_ble_eq_true rfl) dX6_copy_121 (fun H locs hP hD hS => ?_)
                    refine lv_aload_n hx hb dX6_copy_124 rfl (lv_at hl 2 rfl) ?_
                    refine lv_iload hx hb dX6_copy_125 (lv_at hl 7 rfl) ?_
                    obtain ⟨v127, u127, h127, hF⟩ := bd2 hF
                    refine cAe (ws' := pC cI cS a0 u127) (va_runV (As := [.int x5]) (rest := []) ⟨hx, hb, hml, hown, hts⟩ (c_X6_withoutFault l D cI cS a0 (sr t0 21 g121) x5 v127 u127 h127) (cwVA hts (TW.cons _) lv_X6_withoutFault ml_RX6_53 ⟨rfl, rfl⟩ ⟨(Nat.le_of_ble_eq_true rfl), (Nat.le_of_ble_eq_true rfl)⟩) (pWV hK hP hD (ci := 5) rfl rfl) rfl rfl hl.1 rfl (lv_room (Nat.le_of_ble_eq_true rfl)) dX6_copy_127 ⟨Nat.le_refl _, Nat.le_refl _⟩) hD hS (ad_C cI cS _ _ _) (fun H locs hP hD hS => ?_)
                    exact W.iret hx hb hr (fun t ht hW => ⟨⟨_, (), rfl, (Prod.mk.inj (Option.some.inj hF)).1, by show va_P _ _ _ t.heap; rw [ht, ← (Prod.mk.inj (Option.some.inj hF)).2]; exact hP⟩, hS.F ht⟩) hS.2.2 dX6_copy_130
                  · replace hF := ip c97 hF
                    refine lv_aload_n hx hb dX6_copy_100 rfl (lv_at hl 2 rfl) ?_
                    refine lv_iconst (v := 3) hx hb dX6_copy_101 (by decide) ?_
                    obtain ⟨v102, u102, h102, hF⟩ := bd2 hF
                    refine cAe (ws' := pC cI cS a0 u102) (va_runV (As := [.int 3]) (rest := []) ⟨hx, hb, hml, hown, hts⟩ (c_X6_withFault l D cI cS a0 t0 3 v102 u102 h102) (cwVA hts (TW.cons _) lv_X6_withFault ml_RX6_64 ⟨rfl, rfl⟩ ⟨(Nat.le_of_ble_eq_true rfl), (Nat.le_of_ble_eq_true rfl)⟩) (pWV hK hP hD (ci := 5) rfl rfl) rfl rfl hl.1 rfl (lv_room (Nat.le_of_ble_eq_true rfl)) dX6_copy_102 ⟨Nat.le_refl _, Nat.le_refl _⟩) hD hS (ad_C cI cS _ _ _) (fun H locs hP hD hS => ?_)
                    exact W.iret hx hb hr (fun t ht hW => ⟨⟨_, (), rfl, (Prod.mk.inj (Option.some.inj hF)).1, by show va_P _ _ _ t.heap; rw [ht, ← (Prod.mk.inj (Option.some.inj hF)).2]; exact hP⟩, hS.F ht⟩) hS.2.2 dX6_copy_105
              · replace hF := iq c68 hF
                refine lv_aload_n hx hb dX6_copy_71 rfl (lv_at hl 2 rfl) ?_
                refine lv_iconst (v := 2) hx hb dX6_copy_72 (by decide) ?_
                obtain ⟨v73, u73, h73, hF⟩ := bd2 hF
                refine cAe (ws' := pC cI cS a0 u73) (va_runV (As := [.int 2]) (rest := []) ⟨hx, hb, hml, hown, hts⟩ (c_X6_withFault l D cI cS a0 t0 2 v73 u73 h73) (cwVA hts (TW.cons _) lv_X6_withFault ml_RX6_64 ⟨rfl, rfl⟩ ⟨(Nat.le_of_ble_eq_true rfl), (Nat.le_of_ble_eq_true rfl)⟩) (pWV hK hP hD (ci := 5) rfl rfl) rfl rfl hl.1 rfl (lv_room (Nat.le_of_ble_eq_true rfl)) dX6_copy_73 ⟨Nat.le_refl _, Nat.le_refl _⟩) hD hS (ad_C cI cS _ _ _) (fun H locs hP hD hS => ?_)
                exact W.iret hx hb hr (fun t ht hW => ⟨⟨_, (), rfl, (Prod.mk.inj (Option.some.inj hF)).1, by show va_P _ _ _ t.heap; rw [ht, ← (Prod.mk.inj (Option.some.inj hF)).2]; exact hP⟩, hS.F ht⟩) hS.2.2 dX6_copy_76
            · replace hF := ip c49 hF
              refine lv_aload_n hx hb dX6_copy_52 rfl (lv_at hl 2 rfl) ?_
              refine lv_iconst (v := 1) hx hb dX6_copy_53 (by decide) ?_
              obtain ⟨v54, u54, h54, hF⟩ := bd2 hF
              refine cAe (ws' := pC cI cS a0 u54) (va_runV (As := [.int 1]) (rest := []) ⟨hx, hb, hml, hown, hts⟩ (c_X6_withFault l D cI cS a0 t0 1 v54 u54 h54) (cwVA hts (TW.cons _) lv_X6_withFault ml_RX6_64 ⟨rfl, rfl⟩ ⟨(Nat.le_of_ble_eq_true rfl), (Nat.le_of_ble_eq_true rfl)⟩) (pWV hK hP hD (ci := 5) rfl rfl) rfl rfl hl.1 rfl (lv_room (Nat.le_of_ble_eq_true rfl)) dX6_copy_54 ⟨Nat.le_refl _, Nat.le_refl _⟩) hD hS (ad_C cI cS _ _ _) (fun H locs hP hD hS => ?_)
              exact W.iret hx hb hr (fun t ht hW => ⟨⟨_, (), rfl, (Prod.mk.inj (Option.some.inj hF)).1, by show va_P _ _ _ t.heap; rw [ht, ← (Prod.mk.inj (Option.some.inj hF)).2]; exact hP⟩, hS.F ht⟩) hS.2.2 dX6_copy_57
        · refine rR (b := a0 22) hx hb hK.1 hP 28 1 (at_C_28 cI cS _ _) rfl h33 rfl dX6_copy_33 ?_
          refine lv_astore (lv' := [(7, .ref (a0 22)), (6, .ref (a0 22)), (0, .ref (a0 0)), (1, .int x1), (2, .int x2), (3, .int x3), (4, .int x4), (5, .int x5)]) hx hb dX6_copy_34 hl (by decide) rfl (fun ls hl => ?_)
          refine lv_aload hx hb dX6_copy_36 (lv_at hl 1 rfl) ?_
          refine va_getN (D := D) (ci := 3) (v := .int (t0 22 0)) (C := RX3) (T := TX3) (N := 4) hx hb hts (fun w h => List.mem_cons_of_mem _ (inAX3 w h)) hown hK.1 hP 22 (at_C_22 cI cS _ _) rfl 0 (by decide) (nu_RX6_206 hK) (fun _ h9 => h9) rfl dX6_copy_38 ?_
          refine lv_if_eq (tgt := 52) hx hb dX6_copy_41 (by decide) (fun c41 => ?_) (fun c41 => ?_)
          · replace hF := ip c41 hF
            refine lv_aload_n hx hb dX6_copy_52 rfl (lv_at hl 2 rfl) ?_
            refine lv_iconst (v := 1) hx hb dX6_copy_53 (by decide) ?_
            obtain ⟨v54, u54, h54, hF⟩ := bd2 hF
            refine cAe (ws' := pC cI cS a0 u54) (va_runV (As := [.int 1]) (rest := []) ⟨hx, hb, hml, hown, hts⟩ (c_X6_withFault l D cI cS a0 t0 1 v54 u54 h54) (cwVA hts (TW.cons _) lv_X6_withFault ml_RX6_64 ⟨rfl, rfl⟩ ⟨(Nat.le_of_ble_eq_true rfl), (Nat.le_of_ble_eq_true rfl)⟩) (pWV hK hP hD (ci := 5) rfl rfl) rfl rfl hl.1 rfl (lv_room (Nat.le_of_ble_eq_true rfl)) dX6_copy_54 ⟨Nat.le_refl _, Nat.le_refl _⟩) hD hS (ad_C cI cS _ _ _) (fun H locs hP hD hS => ?_)
            exact W.iret hx hb hr (fun t ht hW => ⟨⟨_, (), rfl, (Prod.mk.inj (Option.some.inj hF)).1, by show va_P _ _ _ t.heap; rw [ht, ← (Prod.mk.inj (Option.some.inj hF)).2]; exact hP⟩, hS.F ht⟩) hS.2.2 dX6_copy_57
          · replace hF := iq c41 hF
            refine lv_aload hx hb dX6_copy_44 (lv_at hl 0 rfl) ?_
            refine va_getN (D := D) (ci := 3) (v := .int (t0 22 0)) (C := RX3) (T := TX3) (N := 4) hx hb hts (fun w h => List.mem_cons_of_mem _ (inAX3 w h)) hown hK.1 hP 22 (at_C_22 cI cS _ _) rfl 0 (by decide) (nu_RX6_206 hK) (fun _ h9 => h9) rfl dX6_copy_46 ?_
            refine lv_if_ne (tgt := 58) hx hb dX6_copy_49 (by decide) (fun c49 => ?_) (fun c49 => ?_)
            · replace hF := iq c49 hF
              refine lv_aload hx hb dX6_copy_58 (lv_at hl 1 rfl) ?_
              refine va_getN (D := D) (ci := 3) (v := .int (t0 22 1)) (C := RX3) (T := TX3) (N := 4) hx hb hts (fun w h => List.mem_cons_of_mem _ (inAX3 w h)) hown hK.1 hP 22 (at_C_22 cI cS _ _) rfl 1 (by decide) (nu_RX6_220 hK) (fun _ h9 => h9) rfl dX6_copy_60 ?_
              refine lv_aload hx hb dX6_copy_63 (lv_at hl 0 rfl) ?_
              refine va_getN (D := D) (ci := 3) (v := .int (t0 22 1)) (C := RX3) (T := TX3) (N := 4) hx hb hts (fun w h => List.mem_cons_of_mem _ (inAX3 w h)) hown hK.1 hP 22 (at_C_22 cI cS _ _) rfl 1 (by decide) (nu_RX6_220 hK) (fun _ h9 => h9) rfl dX6_copy_65 ?_
              refine lv_icmp_eq (tgt := 77) hx hb dX6_copy_68 (by decide) (fun c68 => ?_) (fun c68 => ?_)
              · replace hF := ip c68 hF
                refine lv_aload hx hb dX6_copy_77 (lv_at hl 1 rfl) ?_
                refine lv_iload_n hx hb dX6_copy_79 rfl (lv_at hl 4 rfl) ?_
                refine lv_iload hx hb dX6_copy_80 (lv_at hl 7 rfl) ?_
                obtain ⟨v82, h82, hF⟩ := bd hF
                refine cRb (va_runV (As := [.int x2, .int x5]) (rest := []) ⟨hx, hb, hml, hown, hts⟩ (c_X3_reaches l D cI cS (sa a0 22) (sb t0 22) x2 x5 v82 h82) (cwVA hts (TW.cons _) lv_X3_reaches ml_RX6_210 ⟨rfl, rfl⟩ ⟨(Nat.le_of_ble_eq_true rfl), (Nat.le_of_ble_eq_true rfl)⟩) (pRV hK (hP.sub [22, 23] (su_C_S22 cI cS _ _)) (ci := 3) rfl rfl) rfl rfl hl.1 rfl (lv_room (Nat.le_of_ble_eq_true rfl)) dX6_copy_82 ⟨Nat.le_refl _, Nat.le_refl _⟩) (fun b82 => ?_)
                refine lv_if_eq (tgt := 100) hx hb dX6_copy_85 (by decide) (fun c85 => ?_) (fun c85 => ?_)
                · replace hF := ip c85 hF
                  refine lv_aload_n hx hb dX6_copy_100 rfl (lv_at hl 2 rfl) ?_
                  refine lv_iconst (v := 3) hx hb dX6_copy_101 (by decide) ?_
                  obtain ⟨v102, u102, h102, hF⟩ := bd2 hF
                  refine cAe (ws' := pC cI cS a0 u102) (va_runV (As := [.int 3]) (rest := []) ⟨hx, hb, hml, hown, hts⟩ (c_X6_withFault l D cI cS a0 t0 3 v102 u102 h102) (cwVA hts (TW.cons _) lv_X6_withFault ml_RX6_64 ⟨rfl, rfl⟩ ⟨(Nat.le_of_ble_eq_true rfl), (Nat.le_of_ble_eq_true rfl)⟩) (pWV hK hP hD (ci := 5) rfl rfl) rfl rfl hl.1 rfl (lv_room (Nat.le_of_ble_eq_true rfl)) dX6_copy_102 ⟨Nat.le_refl _, Nat.le_refl _⟩) hD hS (ad_C cI cS _ _ _) (fun H locs hP hD hS => ?_)
                  exact W.iret hx hb hr (fun t ht hW => ⟨⟨_, (), rfl, (Prod.mk.inj (Option.some.inj hF)).1, by show va_P _ _ _ t.heap; rw [ht, ← (Prod.mk.inj (Option.some.inj hF)).2]; exact hP⟩, hS.F ht⟩) hS.2.2 dX6_copy_105
                · replace hF := iq c85 hF
                  refine lv_aload hx hb dX6_copy_88 (lv_at hl 0 rfl) ?_
                  refine lv_iload hx hb dX6_copy_90 (lv_at hl 6 rfl) ?_
                  refine lv_iload hx hb dX6_copy_92 (lv_at hl 7 rfl) ?_
                  obtain ⟨v94, h94, hF⟩ := bd hF
                  refine cRb (va_runV (As := [.int x4, .int x5]) (rest := []) ⟨hx, hb, hml, hown, hts⟩ (c_X3_reaches l D cI cS (sa a0 22) (sb t0 22) x4 x5 v94 h94) (cwVA hts (TW.cons _) lv_X3_reaches ml_RX6_210 ⟨rfl, rfl⟩ ⟨(Nat.le_of_ble_eq_true rfl), (Nat.le_of_ble_eq_true rfl)⟩) (pRV hK (hP.sub [22, 23] (su_C_S22 cI cS _ _)) (ci := 3) rfl rfl) rfl rfl hl.1 rfl (lv_room (Nat.le_of_ble_eq_true rfl)) dX6_copy_94 ⟨Nat.le_refl _, Nat.le_refl _⟩) (fun b94 => ?_)
                  refine lv_if_ne (tgt := 106) hx hb dX6_copy_97 (by decide) (fun c97 => ?_) (fun c97 => ?_)
                  · replace hF := iq c97 hF
                    refine lv_aload hx hb dX6_copy_106 (lv_at hl 1 rfl) ?_
                    refine va_getN (D := D) (ci := 3) (v := .ref (a0 23)) (C := RX3) (T := TX3) (N := 4) hx hb hts (fun w h => List.mem_cons_of_mem _ (inAX3 w h)) hown hK.1 hP 22 (at_C_22 cI cS _ _) rfl 3 (by decide) (nu_RX6_223 hK) (fun _ h9 => h9) rfl dX6_copy_108 ?_
                    refine lv_iload_n hx hb dX6_copy_111 rfl (lv_at hl 4 rfl) ?_
                    refine lv_aload hx hb dX6_copy_112 (lv_at hl 0 rfl) ?_
                    refine va_getN (D := D) (ci := 3) (v := .ref (a0 23)) (C := RX3) (T := TX3) (N := 4) hx hb hts (fun w h => List.mem_cons_of_mem _ (inAX3 w h)) hown hK.1 hP 22 (at_C_22 cI cS _ _) rfl 3 (by decide) (nu_RX6_223 hK) (fun _ h9 => h9) rfl dX6_copy_114 ?_
                    refine lv_iload hx hb dX6_copy_117 (lv_at hl 6 rfl) ?_
                    refine lv_iload hx hb dX6_copy_119 (lv_at hl 7 rfl) ?_
                    obtain ⟨g121, h121, hF⟩ := bd hF
                    refine wC (ws' := pC cI cS a0 (sr t0 23 g121)) hx hb (hml.trans hl.1.symm) hown (hts _ (List.mem_cons_of_mem _ ml_RX6_226)) (hts _ (List.mem_cons_of_mem _ jk_cpy.1)) (hts _ (List.mem_cons_of_mem _ jk_cpy.2.1)) (hts _ (List.mem_cons_of_mem _ jk_cpy.2.2)) hK.1 hP hD hS 23 23 0 (at_C_23 cI cS _ _) (at_C_23 cI cS _ _) rfl h121 (sx_C_23 cI cS _ _ _) (Nat.le_of_ble_eq_true rfl) (Nat.le_of_ble_eq_true rfl) dX6_copy_121 (fun H locs hP hD hS => ?_)
                    refine lv_aload_n hx hb dX6_copy_124 rfl (lv_at hl 2 rfl) ?_
                    refine lv_iload hx hb dX6_copy_125 (lv_at hl 7 rfl) ?_
                    obtain ⟨v127, u127, h127, hF⟩ := bd2 hF
                    refine cAe (ws' := pC cI cS a0 u127) (va_runV (As := [.int x5]) (rest := []) ⟨hx, hb, hml, hown, hts⟩ (c_X6_withoutFault l D cI cS a0 (sr t0 23 g121) x5 v127 u127 h127) (cwVA hts (TW.cons _) lv_X6_withoutFault ml_RX6_53 ⟨rfl, rfl⟩ ⟨(Nat.le_of_ble_eq_true rfl), (Nat.le_of_ble_eq_true rfl)⟩) (pWV hK hP hD (ci := 5) rfl rfl) rfl rfl hl.1 rfl (lv_room (Nat.le_of_ble_eq_true rfl)) dX6_copy_127 ⟨Nat.le_refl _, Nat.le_refl _⟩) hD hS (ad_C cI cS _ _ _) (fun H locs hP hD hS => ?_)
                    exact W.iret hx hb hr (fun t ht hW => ⟨⟨_, (), rfl, (Prod.mk.inj (Option.some.inj hF)).1, by show va_P _ _ _ t.heap; rw [ht, ← (Prod.mk.inj (Option.some.inj hF)).2]; exact hP⟩, hS.F ht⟩) hS.2.2 dX6_copy_130
                  · replace hF := ip c97 hF
                    refine lv_aload_n hx hb dX6_copy_100 rfl (lv_at hl 2 rfl) ?_
                    refine lv_iconst (v := 3) hx hb dX6_copy_101 (by decide) ?_
                    obtain ⟨v102, u102, h102, hF⟩ := bd2 hF
                    refine cAe (ws' := pC cI cS a0 u102) (va_runV (As := [.int 3]) (rest := []) ⟨hx, hb, hml, hown, hts⟩ (c_X6_withFault l D cI cS a0 t0 3 v102 u102 h102) (cwVA hts (TW.cons _) lv_X6_withFault ml_RX6_64 ⟨rfl, rfl⟩ ⟨(Nat.le_of_ble_eq_true rfl), (Nat.le_of_ble_eq_true rfl)⟩) (pWV hK hP hD (ci := 5) rfl rfl) rfl rfl hl.1 rfl (lv_room (Nat.le_of_ble_eq_true rfl)) dX6_copy_102 ⟨Nat.le_refl _, Nat.le_refl _⟩) hD hS (ad_C cI cS _ _ _) (fun H locs hP hD hS => ?_)
                    exact W.iret hx hb hr (fun t ht hW => ⟨⟨_, (), rfl, (Prod.mk.inj (Option.some.inj hF)).1, by show va_P _ _ _ t.heap; rw [ht, ← (Prod.mk.inj (Option.some.inj hF)).2]; exact hP⟩, hS.F ht⟩) hS.2.2 dX6_copy_105
              · replace hF := iq c68 hF
                refine lv_aload_n hx hb dX6_copy_71 rfl (lv_at hl 2 rfl) ?_
                refine lv_iconst (v := 2) hx hb dX6_copy_72 (by decide) ?_
                obtain ⟨v73, u73, h73, hF⟩ := bd2 hF
                refine cAe (ws' := pC cI cS a0 u73) (va_runV (As := [.int 2]) (rest := []) ⟨hx, hb, hml, hown, hts⟩ (c_X6_withFault l D cI cS a0 t0 2 v73 u73 h73) (cwVA hts (TW.cons _) lv_X6_withFault ml_RX6_64 ⟨rfl, rfl⟩ ⟨(Nat.le_of_ble_eq_true rfl), (Nat.le_of_ble_eq_true rfl)⟩) (pWV hK hP hD (ci := 5) rfl rfl) rfl rfl hl.1 rfl (lv_room (Nat.le_of_ble_eq_true rfl)) dX6_copy_73 ⟨Nat.le_refl _, Nat.le_refl _⟩) hD hS (ad_C cI cS _ _ _) (fun H locs hP hD hS => ?_)
                exact W.iret hx hb hr (fun t ht hW => ⟨⟨_, (), rfl, (Prod.mk.inj (Option.some.inj hF)).1, by show va_P _ _ _ t.heap; rw [ht, ← (Prod.mk.inj (Option.some.inj hF)).2]; exact hP⟩, hS.F ht⟩) hS.2.2 dX6_copy_76
            · replace hF := ip c49 hF
              refine lv_aload_n hx hb dX6_copy_52 rfl (lv_at hl 2 rfl) ?_
              refine lv_iconst (v := 1) hx hb dX6_copy_53 (by decide) ?_
              obtain ⟨v54, u54, h54, hF⟩ := bd2 hF
              refine cAe (ws' := pC cI cS a0 u54) (va_runV (As := [.int 1]) (rest := []) ⟨hx, hb, hml, hown, hts⟩ (c_X6_withFault l D cI cS a0 t0 1 v54 u54 h54) (cwVA hts (TW.cons _) lv_X6_withFault ml_RX6_64 ⟨rfl, rfl⟩ ⟨(Nat.le_of_ble_eq_true rfl), (Nat.le_of_ble_eq_true rfl)⟩) (pWV hK hP hD (ci := 5) rfl rfl) rfl rfl hl.1 rfl (lv_room (Nat.le_of_ble_eq_true rfl)) dX6_copy_54 ⟨Nat.le_refl _, Nat.le_refl _⟩) hD hS (ad_C cI cS _ _ _) (fun H locs hP hD hS => ?_)
              exact W.iret hx hb hr (fun t ht hW => ⟨⟨_, (), rfl, (Prod.mk.inj (Option.some.inj hF)).1, by show va_P _ _ _ t.heap; rw [ht, ← (Prod.mk.inj (Option.some.inj hF)).2]; exact hP⟩, hS.F ht⟩) hS.2.2 dX6_copy_57
        · refine rR (b := a0 24) hx hb hK.1 hP 28 1 (at_C_28 cI cS _ _) rfl h33 rfl dX6_copy_33 ?_
          refine lv_astore (lv' := [(7, .ref (a0 24)), (6, .ref (a0 22)), (0, .ref (a0 0)), (1, .int x1), (2, .int x2), (3, .int x3), (4, .int x4), (5, .int x5)]) hx hb dX6_copy_34 hl (by decide) rfl (fun ls hl => ?_)
          refine lv_aload hx hb dX6_copy_36 (lv_at hl 1 rfl) ?_
          refine va_getN (D := D) (ci := 3) (v := .int (t0 22 0)) (C := RX3) (T := TX3) (N := 4) hx hb hts (fun w h => List.mem_cons_of_mem _ (inAX3 w h)) hown hK.1 hP 22 (at_C_22 cI cS _ _) rfl 0 (by decide) (nu_RX6_206 hK) (fun _ h9 => h9) rfl dX6_copy_38 ?_
          refine lv_if_eq (tgt := 52) hx hb dX6_copy_41 (by decide) (fun c41 => ?_) (fun c41 => ?_)
          · replace hF := ip c41 hF
            refine lv_aload_n hx hb dX6_copy_52 rfl (lv_at hl 2 rfl) ?_
            refine lv_iconst (v := 1) hx hb dX6_copy_53 (by decide) ?_
            obtain ⟨v54, u54, h54, hF⟩ := bd2 hF
            refine cAe (ws' := pC cI cS a0 u54) (va_runV (As := [.int 1]) (rest := []) ⟨hx, hb, hml, hown, hts⟩ (c_X6_withFault l D cI cS a0 t0 1 v54 u54 h54) (cwVA hts (TW.cons _) lv_X6_withFault ml_RX6_64 ⟨rfl, rfl⟩ ⟨(Nat.le_of_ble_eq_true rfl), (Nat.le_of_ble_eq_true rfl)⟩) (pWV hK hP hD (ci := 5) rfl rfl) rfl rfl hl.1 rfl (lv_room (Nat.le_of_ble_eq_true rfl)) dX6_copy_54 ⟨Nat.le_refl _, Nat.le_refl _⟩) hD hS (ad_C cI cS _ _ _) (fun H locs hP hD hS => ?_)
            exact W.iret hx hb hr (fun t ht hW => ⟨⟨_, (), rfl, (Prod.mk.inj (Option.some.inj hF)).1, by show va_P _ _ _ t.heap; rw [ht, ← (Prod.mk.inj (Option.some.inj hF)).2]; exact hP⟩, hS.F ht⟩) hS.2.2 dX6_copy_57
          · replace hF := iq c41 hF
            refine lv_aload hx hb dX6_copy_44 (lv_at hl 0 rfl) ?_
            refine va_getN (D := D) (ci := 3) (v := .int (t0 24 0)) (C := RX3) (T := TX3) (N := 4) hx hb hts (fun w h => List.mem_cons_of_mem _ (inAX3 w h)) hown hK.1 hP 24 (at_C_24 cI cS _ _) rfl 0 (by decide) (nu_RX6_206 hK) (fun _ h9 => h9) rfl dX6_copy_46 ?_
            refine lv_if_ne (tgt := 58) hx hb dX6_copy_49 (by decide) (fun c49 => ?_) (fun c49 => ?_)
            · replace hF := iq c49 hF
              refine lv_aload hx hb dX6_copy_58 (lv_at hl 1 rfl) ?_
              refine va_getN (D := D) (ci := 3) (v := .int (t0 22 1)) (C := RX3) (T := TX3) (N := 4) hx hb hts (fun w h => List.mem_cons_of_mem _ (inAX3 w h)) hown hK.1 hP 22 (at_C_22 cI cS _ _) rfl 1 (by decide) (nu_RX6_220 hK) (fun _ h9 => h9) rfl dX6_copy_60 ?_
              refine lv_aload hx hb dX6_copy_63 (lv_at hl 0 rfl) ?_
              refine va_getN (D := D) (ci := 3) (v := .int (t0 24 1)) (C := RX3) (T := TX3) (N := 4) hx hb hts (fun w h => List.mem_cons_of_mem _ (inAX3 w h)) hown hK.1 hP 24 (at_C_24 cI cS _ _) rfl 1 (by decide) (nu_RX6_220 hK) (fun _ h9 => h9) rfl dX6_copy_65 ?_
              refine lv_icmp_eq (tgt := 77) hx hb dX6_copy_68 (by decide) (fun c68 => ?_) (fun c68 => ?_)
              · replace hF := ip c68 hF
                refine lv_aload hx hb dX6_copy_77 (lv_at hl 1 rfl) ?_
                refine lv_iload_n hx hb dX6_copy_79 rfl (lv_at hl 4 rfl) ?_
                refine lv_iload hx hb dX6_copy_80 (lv_at hl 7 rfl) ?_
                obtain ⟨v82, h82, hF⟩ := bd hF
                refine cRb (va_runV (As := [.int x2, .int x5]) (rest := []) ⟨hx, hb, hml, hown, hts⟩ (c_X3_reaches l D cI cS (sa a0 22) (sb t0 22) x2 x5 v82 h82) (cwVA hts (TW.cons _) lv_X3_reaches ml_RX6_210 ⟨rfl, rfl⟩ ⟨(Nat.le_of_ble_eq_true rfl), (Nat.le_of_ble_eq_true rfl)⟩) (pRV hK (hP.sub [22, 23] (su_C_S22 cI cS _ _)) (ci := 3) rfl rfl) rfl rfl hl.1 rfl (lv_room (Nat.le_of_ble_eq_true rfl)) dX6_copy_82 ⟨Nat.le_refl _, Nat.le_refl _⟩) (fun b82 => ?_)
                refine lv_if_eq (tgt := 100) hx hb dX6_copy_85 (by decide) (fun c85 => ?_) (fun c85 => ?_)
                · replace hF := ip c85 hF
                  refine lv_aload_n hx hb dX6_copy_100 rfl (lv_at hl 2 rfl) ?_
                  refine lv_iconst (v := 3) hx hb dX6_copy_101 (by decide) ?_
                  obtain ⟨v102, u102, h102, hF⟩ := bd2 hF
                  refine cAe (ws' := pC cI cS a0 u102) (va_runV (As := [.int 3]) (rest := []) ⟨hx, hb, hml, hown, hts⟩ (c_X6_withFault l D cI cS a0 t0 3 v102 u102 h102) (cwVA hts (TW.cons _) lv_X6_withFault ml_RX6_64 ⟨rfl, rfl⟩ ⟨(Nat.le_of_ble_eq_true rfl), (Nat.le_of_ble_eq_true rfl)⟩) (pWV hK hP hD (ci := 5) rfl rfl) rfl rfl hl.1 rfl (lv_room (Nat.le_of_ble_eq_true rfl)) dX6_copy_102 ⟨Nat.le_refl _, Nat.le_refl _⟩) hD hS (ad_C cI cS _ _ _) (fun H locs hP hD hS => ?_)
                  exact W.iret hx hb hr (fun t ht hW => ⟨⟨_, (), rfl, (Prod.mk.inj (Option.some.inj hF)).1, by show va_P _ _ _ t.heap; rw [ht, ← (Prod.mk.inj (Option.some.inj hF)).2]; exact hP⟩, hS.F ht⟩) hS.2.2 dX6_copy_105
                · replace hF := iq c85 hF
                  refine lv_aload hx hb dX6_copy_88 (lv_at hl 0 rfl) ?_
                  refine lv_iload hx hb dX6_copy_90 (lv_at hl 6 rfl) ?_
                  refine lv_iload hx hb dX6_copy_92 (lv_at hl 7 rfl) ?_
                  obtain ⟨v94, h94, hF⟩ := bd hF
                  refine cRb (va_runV (As := [.int x4, .int x5]) (rest := []) ⟨hx, hb, hml, hown, hts⟩ (c_X3_reaches l D cI cS (sa a0 24) (sb t0 24) x4 x5 v94 h94) (cwVA hts (TW.cons _) lv_X3_reaches ml_RX6_210 ⟨rfl, rfl⟩ ⟨(Nat.le_of_ble_eq_true rfl), (Nat.le_of_ble_eq_true rfl)⟩) (pRV hK (hP.sub [24, 25] (su_C_S24 cI cS _ _)) (ci := 3) rfl rfl) rfl rfl hl.1 rfl (lv_room (Nat.le_of_ble_eq_true rfl)) dX6_copy_94 ⟨Nat.le_refl _, Nat.le_refl _⟩) (fun b94 => ?_)
                  refine lv_if_ne (tgt := 106) hx hb dX6_copy_97 (by decide) (fun c97 => ?_) (fun c97 => ?_)
                  · replace hF := iq c97 hF
                    refine lv_aload hx hb dX6_copy_106 (lv_at hl 1 rfl) ?_
                    refine va_getN (D := D) (ci := 3) (v := .ref (a0 23)) (C := RX3) (T := TX3) (N := 4) hx hb hts (fun w h => List.mem_cons_of_mem _ (inAX3 w h)) hown hK.1 hP 22 (at_C_22 cI cS _ _) rfl 3 (by decide) (nu_RX6_223 hK) (fun _ h9 => h9) rfl dX6_copy_108 ?_
                    refine lv_iload_n hx hb dX6_copy_111 rfl (lv_at hl 4 rfl) ?_
                    refine lv_aload hx hb dX6_copy_112 (lv_at hl 0 rfl) ?_
                    refine va_getN (D := D) (ci := 3) (v := .ref (a0 25)) (C := RX3) (T := TX3) (N := 4) hx hb hts (fun w h => List.mem_cons_of_mem _ (inAX3 w h)) hown hK.1 hP 24 (at_C_24 cI cS _ _) rfl 3 (by decide) (nu_RX6_223 hK) (fun _ h9 => h9) rfl dX6_copy_114 ?_
                    refine lv_iload hx hb dX6_copy_117 (lv_at hl 6 rfl) ?_
                    refine lv_iload hx hb dX6_copy_119 (lv_at hl 7 rfl) ?_
                    obtain ⟨g121, h121, hF⟩ := bd hF
                    refine wC (ws' := pC cI cS a0 (sr t0 25 g121)) hx hb (hml.trans hl.1.symm) hown (hts _ (List.mem_cons_of_mem _ ml_RX6_226)) (hts _ (List.mem_cons_of_mem _ jk_cpy.1)) (hts _ (List.mem_cons_of_mem _ jk_cpy.2.1)) (hts _ (List.mem_cons_of_mem _ jk_cpy.2.2)) hK.1 hP hD hS 23 25 0 (at_C_23 cI cS _ _) (at_C_25 cI cS _ _) rfl h121 (sx_C_25 cI cS _ _ _) (Nat.le_of_ble_eq_true rfl) (Nat.le_of_ble_eq_true rfl) dX6_copy_121 (fun H locs hP hD hS => ?_)
                    refine lv_aload_n hx hb dX6_copy_124 rfl (lv_at hl 2 rfl) ?_
                    refine lv_iload hx hb dX6_copy_125 (lv_at hl 7 rfl) ?_
                    obtain ⟨v127, u127, h127, hF⟩ := bd2 hF
                    refine cAe (ws' := pC cI cS a0 u127) (va_runV (As := [.int x5]) (rest := []) ⟨hx, hb, hml, hown, hts⟩ (c_X6_withoutFault l D cI cS a0 (sr t0 25 g121) x5 v127 u127 h127) (cwVA hts (TW.cons _) lv_X6_withoutFault ml_RX6_53 ⟨rfl, rfl⟩ ⟨(Nat.le_of_ble_eq_true rfl), (Nat.le_of_ble_eq_true rfl)⟩) (pWV hK hP hD (ci := 5) rfl rfl) rfl rfl hl.1 rfl (lv_room (Nat.le_of_ble_eq_true rfl)) dX6_copy_127 ⟨Nat.le_refl _, Nat.le_refl _⟩) hD hS (ad_C cI cS _ _ _) (fun H locs hP hD hS => ?_)
                    exact W.iret hx hb hr (fun t ht hW => ⟨⟨_, (), rfl, (Prod.mk.inj (Option.some.inj hF)).1, by show va_P _ _ _ t.heap; rw [ht, ← (Prod.mk.inj (Option.some.inj hF)).2]; exact hP⟩, hS.F ht⟩) hS.2.2 dX6_copy_130
                  · replace hF := ip c97 hF
                    refine lv_aload_n hx hb dX6_copy_100 rfl (lv_at hl 2 rfl) ?_
                    refine lv_iconst (v := 3) hx hb dX6_copy_101 (by decide) ?_
                    obtain ⟨v102, u102, h102, hF⟩ := bd2 hF
                    refine cAe (ws' := pC cI cS a0 u102) (va_runV (As := [.int 3]) (rest := []) ⟨hx, hb, hml, hown, hts⟩ (c_X6_withFault l D cI cS a0 t0 3 v102 u102 h102) (cwVA hts (TW.cons _) lv_X6_withFault ml_RX6_64 ⟨rfl, rfl⟩ ⟨(Nat.le_of_ble_eq_true rfl), (Nat.le_of_ble_eq_true rfl)⟩) (pWV hK hP hD (ci := 5) rfl rfl) rfl rfl hl.1 rfl (lv_room (Nat.le_of_ble_eq_true rfl)) dX6_copy_102 ⟨Nat.le_refl _, Nat.le_refl _⟩) hD hS (ad_C cI cS _ _ _) (fun H locs hP hD hS => ?_)
                    exact W.iret hx hb hr (fun t ht hW => ⟨⟨_, (), rfl, (Prod.mk.inj (Option.some.inj hF)).1, by show va_P _ _ _ t.heap; rw [ht, ← (Prod.mk.inj (Option.some.inj hF)).2]; exact hP⟩, hS.F ht⟩) hS.2.2 dX6_copy_105
              · replace hF := iq c68 hF
                refine lv_aload_n hx hb dX6_copy_71 rfl (lv_at hl 2 rfl) ?_
                refine lv_iconst (v := 2) hx hb dX6_copy_72 (by decide) ?_
                obtain ⟨v73, u73, h73, hF⟩ := bd2 hF
                refine cAe (ws' := pC cI cS a0 u73) (va_runV (As := [.int 2]) (rest := []) ⟨hx, hb, hml, hown, hts⟩ (c_X6_withFault l D cI cS a0 t0 2 v73 u73 h73) (cwVA hts (TW.cons _) lv_X6_withFault ml_RX6_64 ⟨rfl, rfl⟩ ⟨(Nat.le_of_ble_eq_true rfl), (Nat.le_of_ble_eq_true rfl)⟩) (pWV hK hP hD (ci := 5) rfl rfl) rfl rfl hl.1 rfl (lv_room (Nat.le_of_ble_eq_true rfl)) dX6_copy_73 ⟨Nat.le_refl _, Nat.le_refl _⟩) hD hS (ad_C cI cS _ _ _) (fun H locs hP hD hS => ?_)
                exact W.iret hx hb hr (fun t ht hW => ⟨⟨_, (), rfl, (Prod.mk.inj (Option.some.inj hF)).1, by show va_P _ _ _ t.heap; rw [ht, ← (Prod.mk.inj (Option.some.inj hF)).2]; exact hP⟩, hS.F ht⟩) hS.2.2 dX6_copy_76
            · replace hF := ip c49 hF
              refine lv_aload_n hx hb dX6_copy_52 rfl (lv_at hl 2 rfl) ?_
              refine lv_iconst (v := 1) hx hb dX6_copy_53 (by decide) ?_
              obtain ⟨v54, u54, h54, hF⟩ := bd2 hF
              refine cAe (ws' := pC cI cS a0 u54) (va_runV (As := [.int 1]) (rest := []) ⟨hx, hb, hml, hown, hts⟩ (c_X6_withFault l D cI cS a0 t0 1 v54 u54 h54) (cwVA hts (TW.cons _) lv_X6_withFault ml_RX6_64 ⟨rfl, rfl⟩ ⟨(Nat.le_of_ble_eq_true rfl), (Nat.le_of_ble_eq_true rfl)⟩) (pWV hK hP hD (ci := 5) rfl rfl) rfl rfl hl.1 rfl (lv_room (Nat.le_of_ble_eq_true rfl)) dX6_copy_54 ⟨Nat.le_refl _, Nat.le_refl _⟩) hD hS (ad_C cI cS _ _ _) (fun H locs hP hD hS => ?_)
              exact W.iret hx hb hr (fun t ht hW => ⟨⟨_, (), rfl, (Prod.mk.inj (Option.some.inj hF)).1, by show va_P _ _ _ t.heap; rw [ht, ← (Prod.mk.inj (Option.some.inj hF)).2]; exact hP⟩, hS.F ht⟩) hS.2.2 dX6_copy_57
        · refine rR (b := a0 26) hx hb hK.1 hP 28 1 (at_C_28 cI cS _ _) rfl h33 rfl dX6_copy_33 ?_
          refine lv_astore (lv' := [(7, .ref (a0 26)), (6, .ref (a0 22)), (0, .ref (a0 0)), (1, .int x1), (2, .int x2), (3, .int x3), (4, .int x4), (5, .int x5)]) hx hb dX6_copy_34 hl (by decide) rfl (fun ls hl => ?_)
          refine lv_aload hx hb dX6_copy_36 (lv_at hl 1 rfl) ?_
          refine va_getN (D := D) (ci := 3) (v := .int (t0 22 0)) (C := RX3) (T := TX3) (N := 4) hx hb hts (fun w h => List.mem_cons_of_mem _ (inAX3 w h)) hown hK.1 hP 22 (at_C_22 cI cS _ _) rfl 0 (by decide) (nu_RX6_206 hK) (fun _ h9 => h9) rfl dX6_copy_38 ?_
          refine lv_if_eq (tgt := 52) hx hb dX6_copy_41 (by decide) (fun c41 => ?_) (fun c41 => ?_)
          · replace hF := ip c41 hF
            refine lv_aload_n hx hb dX6_copy_52 rfl (lv_at hl 2 rfl) ?_
            refine lv_iconst (v := 1) hx hb dX6_copy_53 (by decide) ?_
            obtain ⟨v54, u54, h54, hF⟩ := bd2 hF
            refine cAe (ws' := pC cI cS a0 u54) (va_runV (As := [.int 1]) (rest := []) ⟨hx, hb, hml, hown, hts⟩ (c_X6_withFault l D cI cS a0 t0 1 v54 u54 h54) (cwVA hts (TW.cons _) lv_X6_withFault ml_RX6_64 ⟨rfl, rfl⟩ ⟨(Nat.le_of_ble_eq_true rfl), (Nat.le_of_ble_eq_true rfl)⟩) (pWV hK hP hD (ci := 5) rfl rfl) rfl rfl hl.1 rfl (lv_room (Nat.le_of_ble_eq_true rfl)) dX6_copy_54 ⟨Nat.le_refl _, Nat.le_refl _⟩) hD hS (ad_C cI cS _ _ _) (fun H locs hP hD hS => ?_)
            exact W.iret hx hb hr (fun t ht hW => ⟨⟨_, (), rfl, (Prod.mk.inj (Option.some.inj hF)).1, by show va_P _ _ _ t.heap; rw [ht, ← (Prod.mk.inj (Option.some.inj hF)).2]; exact hP⟩, hS.F ht⟩) hS.2.2 dX6_copy_57
          · replace hF := iq c41 hF
            refine lv_aload hx hb dX6_copy_44 (lv_at hl 0 rfl) ?_
            refine va_getN (D := D) (ci := 3) (v := .int (t0 26 0)) (C := RX3) (T := TX3) (N := 4) hx hb hts (fun w h => List.mem_cons_of_mem _ (inAX3 w h)) hown hK.1 hP 26 (at_C_26 cI cS _ _) rfl 0 (by decide) (nu_RX6_206 hK) (fun _ h9 => h9) rfl dX6_copy_46 ?_
            refine lv_if_ne (tgt := 58) hx hb dX6_copy_49 (by decide) (fun c49 => ?_) (fun c49 => ?_)
            · replace hF := iq c49 hF
              refine lv_aload hx hb dX6_copy_58 (lv_at hl 1 rfl) ?_
              refine va_getN (D := D) (ci := 3) (v := .int (t0 22 1)) (C := RX3) (T := TX3) (N := 4) hx hb hts (fun w h => List.mem_cons_of_mem _ (inAX3 w h)) hown hK.1 hP 22 (at_C_22 cI cS _ _) rfl 1 (by decide) (nu_RX6_220 hK) (fun _ h9 => h9) rfl dX6_copy_60 ?_
              refine lv_aload hx hb dX6_copy_63 (lv_at hl 0 rfl) ?_
              refine va_getN (D := D) (ci := 3) (v := .int (t0 26 1)) (C := RX3) (T := TX3) (N := 4) hx hb hts (fun w h => List.mem_cons_of_mem _ (inAX3 w h)) hown hK.1 hP 26 (at_C_26 cI cS _ _) rfl 1 (by decide) (nu_RX6_220 hK) (fun _ h9 => h9) rfl dX6_copy_65 ?_
              refine lv_icmp_eq (tgt := 77) hx hb dX6_copy_68 (by decide) (fun c68 => ?_) (fun c68 => ?_)
              · replace hF := ip c68 hF
                refine lv_aload hx hb dX6_copy_77 (lv_at hl 1 rfl) ?_
                refine lv_iload_n hx hb dX6_copy_79 rfl (lv_at hl 4 rfl) ?_
                refine lv_iload hx hb dX6_copy_80 (lv_at hl 7 rfl) ?_
                obtain ⟨v82, h82, hF⟩ := bd hF
                refine cRb (va_runV (As := [.int x2, .int x5]) (rest := []) ⟨hx, hb, hml, hown, hts⟩ (c_X3_reaches l D cI cS (sa a0 22) (sb t0 22) x2 x5 v82 h82) (cwVA hts (TW.cons _) lv_X3_reaches ml_RX6_210 ⟨rfl, rfl⟩ ⟨(Nat.le_of_ble_eq_true rfl), (Nat.le_of_ble_eq_true rfl)⟩) (pRV hK (hP.sub [22, 23] (su_C_S22 cI cS _ _)) (ci := 3) rfl rfl) rfl rfl hl.1 rfl (lv_room (Nat.le_of_ble_eq_true rfl)) dX6_copy_82 ⟨Nat.le_refl _, Nat.le_refl _⟩) (fun b82 => ?_)
                refine lv_if_eq (tgt := 100) hx hb dX6_copy_85 (by decide) (fun c85 => ?_) (fun c85 => ?_)
                · replace hF := ip c85 hF
                  refine lv_aload_n hx hb dX6_copy_100 rfl (lv_at hl 2 rfl) ?_
                  refine lv_iconst (v := 3) hx hb dX6_copy_101 (by decide) ?_
                  obtain ⟨v102, u102, h102, hF⟩ := bd2 hF
                  refine cAe (ws' := pC cI cS a0 u102) (va_runV (As := [.int 3]) (rest := []) ⟨hx, hb, hml, hown, hts⟩ (c_X6_withFault l D cI cS a0 t0 3 v102 u102 h102) (cwVA hts (TW.cons _) lv_X6_withFault ml_RX6_64 ⟨rfl, rfl⟩ ⟨(Nat.le_of_ble_eq_true rfl), (Nat.le_of_ble_eq_true rfl)⟩) (pWV hK hP hD (ci := 5) rfl rfl) rfl rfl hl.1 rfl (lv_room (Nat.le_of_ble_eq_true rfl)) dX6_copy_102 ⟨Nat.le_refl _, Nat.le_refl _⟩) hD hS (ad_C cI cS _ _ _) (fun H locs hP hD hS => ?_)
                  exact W.iret hx hb hr (fun t ht hW => ⟨⟨_, (), rfl, (Prod.mk.inj (Option.some.inj hF)).1, by show va_P _ _ _ t.heap; rw [ht, ← (Prod.mk.inj (Option.some.inj hF)).2]; exact hP⟩, hS.F ht⟩) hS.2.2 dX6_copy_105
                · replace hF := iq c85 hF
                  refine lv_aload hx hb dX6_copy_88 (lv_at hl 0 rfl) ?_
                  refine lv_iload hx hb dX6_copy_90 (lv_at hl 6 rfl) ?_
                  refine lv_iload hx hb dX6_copy_92 (lv_at hl 7 rfl) ?_
                  obtain ⟨v94, h94, hF⟩ := bd hF
                  refine cRb (va_runV (As := [.int x4, .int x5]) (rest := []) ⟨hx, hb, hml, hown, hts⟩ (c_X3_reaches l D cI cS (sa a0 26) (sb t0 26) x4 x5 v94 h94) (cwVA hts (TW.cons _) lv_X3_reaches ml_RX6_210 ⟨rfl, rfl⟩ ⟨(Nat.le_of_ble_eq_true rfl), (Nat.le_of_ble_eq_true rfl)⟩) (pRV hK (hP.sub [26, 27] (su_C_S26 cI cS _ _)) (ci := 3) rfl rfl) rfl rfl hl.1 rfl (lv_room (Nat.le_of_ble_eq_true rfl)) dX6_copy_94 ⟨Nat.le_refl _, Nat.le_refl _⟩) (fun b94 => ?_)
                  refine lv_if_ne (tgt := 106) hx hb dX6_copy_97 (by decide) (fun c97 => ?_) (fun c97 => ?_)
                  · replace hF := iq c97 hF
                    refine lv_aload hx hb dX6_copy_106 (lv_at hl 1 rfl) ?_
                    refine va_getN (D := D) (ci := 3) (v := .ref (a0 23)) (C := RX3) (T := TX3) (N := 4) hx hb hts (fun w h => List.mem_cons_of_mem _ (inAX3 w h)) hown hK.1 hP 22 (at_C_22 cI cS _ _) rfl 3 (by decide) (nu_RX6_223 hK) (fun _ h9 => h9) rfl dX6_copy_108 ?_
                    refine lv_iload_n hx hb dX6_copy_111 rfl (lv_at hl 4 rfl) ?_
                    refine lv_aload hx hb dX6_copy_112 (lv_at hl 0 rfl) ?_
                    refine va_getN (D := D) (ci := 3) (v := .ref (a0 27)) (C := RX3) (T := TX3) (N := 4) hx hb hts (fun w h => List.mem_cons_of_mem _ (inAX3 w h)) hown hK.1 hP 26 (at_C_26 cI cS _ _) rfl 3 (by decide) (nu_RX6_223 hK) (fun _ h9 => h9) rfl dX6_copy_114 ?_
                    refine lv_iload hx hb dX6_copy_117 (lv_at hl 6 rfl) ?_
                    refine lv_iload hx hb dX6_copy_119 (lv_at hl 7 rfl) ?_
                    obtain ⟨g121, h121, hF⟩ := bd hF
                    refine wC (ws' := pC cI cS a0 (sr t0 27 g121)) hx hb (hml.trans hl.1.symm) hown (hts _ (List.mem_cons_of_mem _ ml_RX6_226)) (hts _ (List.mem_cons_of_mem _ jk_cpy.1)) (hts _ (List.mem_cons_of_mem _ jk_cpy.2.1)) (hts _ (List.mem_cons_of_mem _ jk_cpy.2.2)) hK.1 hP hD hS 23 27 0 (at_C_23 cI cS _ _) (at_C_27 cI cS _ _) rfl h121 (sx_C_27 cI cS _ _ _) (Nat.le_of_ble_eq_true rfl) (Nat.le_of_ble_eq_true rfl) dX6_copy_121 (fun H locs hP hD hS => ?_)
                    refine lv_aload_n hx hb dX6_copy_124 rfl (lv_at hl 2 rfl) ?_
                    refine lv_iload hx hb dX6_copy_125 (lv_at hl 7 rfl) ?_
                    obtain ⟨v127, u127, h127, hF⟩ := bd2 hF
                    refine cAe (ws' := pC cI cS a0 u127) (va_runV (As := [.int x5]) (rest := []) ⟨hx, hb, hml, hown, hts⟩ (c_X6_withoutFault l D cI cS a0 (sr t0 27 g121) x5 v127 u127 h127) (cwVA hts (TW.cons _) lv_X6_withoutFault ml_RX6_53 ⟨rfl, rfl⟩ ⟨(Nat.le_of_ble_eq_true rfl), (Nat.le_of_ble_eq_true rfl)⟩) (pWV hK hP hD (ci := 5) rfl rfl) rfl rfl hl.1 rfl (lv_room (Nat.le_of_ble_eq_true rfl)) dX6_copy_127 ⟨Nat.le_refl _, Nat.le_refl _⟩) hD hS (ad_C cI cS _ _ _) (fun H locs hP hD hS => ?_)
                    exact W.iret hx hb hr (fun t ht hW => ⟨⟨_, (), rfl, (Prod.mk.inj (Option.some.inj hF)).1, by show va_P _ _ _ t.heap; rw [ht, ← (Prod.mk.inj (Option.some.inj hF)).2]; exact hP⟩, hS.F ht⟩) hS.2.2 dX6_copy_130
                  · replace hF := ip c97 hF
                    refine lv_aload_n hx hb dX6_copy_100 rfl (lv_at hl 2 rfl) ?_
                    refine lv_iconst (v := 3) hx hb dX6_copy_101 (by decide) ?_
                    obtain ⟨v102, u102, h102, hF⟩ := bd2 hF
                    refine cAe (ws' := pC cI cS a0 u102) (va_runV (As := [.int 3]) (rest := []) ⟨hx, hb, hml, hown, hts⟩ (c_X6_withFault l D cI cS a0 t0 3 v102 u102 h102) (cwVA hts (TW.cons _) lv_X6_withFault ml_RX6_64 ⟨rfl, rfl⟩ ⟨(Nat.le_of_ble_eq_true rfl), (Nat.le_of_ble_eq_true rfl)⟩) (pWV hK hP hD (ci := 5) rfl rfl) rfl rfl hl.1 rfl (lv_room (Nat.le_of_ble_eq_true rfl)) dX6_copy_102 ⟨Nat.le_refl _, Nat.le_refl _⟩) hD hS (ad_C cI cS _ _ _) (fun H locs hP hD hS => ?_)
                    exact W.iret hx hb hr (fun t ht hW => ⟨⟨_, (), rfl, (Prod.mk.inj (Option.some.inj hF)).1, by show va_P _ _ _ t.heap; rw [ht, ← (Prod.mk.inj (Option.some.inj hF)).2]; exact hP⟩, hS.F ht⟩) hS.2.2 dX6_copy_105
              · replace hF := iq c68 hF
                refine lv_aload_n hx hb dX6_copy_71 rfl (lv_at hl 2 rfl) ?_
                refine lv_iconst (v := 2) hx hb dX6_copy_72 (by decide) ?_
                obtain ⟨v73, u73, h73, hF⟩ := bd2 hF
                refine cAe (ws' := pC cI cS a0 u73) (va_runV (As := [.int 2]) (rest := []) ⟨hx, hb, hml, hown, hts⟩ (c_X6_withFault l D cI cS a0 t0 2 v73 u73 h73) (cwVA hts (TW.cons _) lv_X6_withFault ml_RX6_64 ⟨rfl, rfl⟩ ⟨(Nat.le_of_ble_eq_true rfl), (Nat.le_of_ble_eq_true rfl)⟩) (pWV hK hP hD (ci := 5) rfl rfl) rfl rfl hl.1 rfl (lv_room (Nat.le_of_ble_eq_true rfl)) dX6_copy_73 ⟨Nat.le_refl _, Nat.le_refl _⟩) hD hS (ad_C cI cS _ _ _) (fun H locs hP hD hS => ?_)
                exact W.iret hx hb hr (fun t ht hW => ⟨⟨_, (), rfl, (Prod.mk.inj (Option.some.inj hF)).1, by show va_P _ _ _ t.heap; rw [ht, ← (Prod.mk.inj (Option.some.inj hF)).2]; exact hP⟩, hS.F ht⟩) hS.2.2 dX6_copy_76
            · replace hF := ip c49 hF
              refine lv_aload_n hx hb dX6_copy_52 rfl (lv_at hl 2 rfl) ?_
              refine lv_iconst (v := 1) hx hb dX6_copy_53 (by decide) ?_
              obtain ⟨v54, u54, h54, hF⟩ := bd2 hF
              refine cAe (ws' := pC cI cS a0 u54) (va_runV (As := [.int 1]) (rest := []) ⟨hx, hb, hml, hown, hts⟩ (c_X6_withFault l D cI cS a0 t0 1 v54 u54 h54) (cwVA hts (TW.cons _) lv_X6_withFault ml_RX6_64 ⟨rfl, rfl⟩ ⟨(Nat.le_of_ble_eq_true rfl), (Nat.le_of_ble_eq_true rfl)⟩) (pWV hK hP hD (ci := 5) rfl rfl) rfl rfl hl.1 rfl (lv_room (Nat.le_of_ble_eq_true rfl)) dX6_copy_54 ⟨Nat.le_refl _, Nat.le_refl _⟩) hD hS (ad_C cI cS _ _ _) (fun H locs hP hD hS => ?_)
              exact W.iret hx hb hr (fun t ht hW => ⟨⟨_, (), rfl, (Prod.mk.inj (Option.some.inj hF)).1, by show va_P _ _ _ t.heap; rw [ht, ← (Prod.mk.inj (Option.some.inj hF)).2]; exact hP⟩, hS.F ht⟩) hS.2.2 dX6_copy_57
      · refine rR (b := a0 24) hx hb hK.1 hP 28 1 (at_C_28 cI cS _ _) rfl h25 rfl dX6_copy_25 ?_
        refine lv_astore (lv' := [(6, .ref (a0 24)), (0, .ref (a0 0)), (1, .int x1), (2, .int x2), (3, .int x3), (4, .int x4), (5, .int x5)]) hx hb dX6_copy_26 hl (by decide) rfl (fun ls hl => ?_)
        refine lv_aload_n hx hb dX6_copy_28 rfl (lv_at hl 1 rfl) ?_
        refine va_get (D := D) (ci := 5) (v := .ref (a0 28)) (C := RX6) (T := TX6) (N := 8) hx hb hts (fun w h => List.mem_cons_of_mem _ (inAX6 w h)) hown hK.1 hP 0 (at_C_0 cI cS _ _) rfl 5 (by decide) (hts _ (List.mem_cons_of_mem _ fl_RX6_44)) (fun _ h9 => h9) rfl dX6_copy_29 ?_
        refine lv_iload_n hx hb dX6_copy_32 rfl (lv_at hl 4 rfl) ?_
        obtain ⟨k33, h33, hF⟩ := bd hF
        obtain ⟨-, -, l33⟩ := ix_some h33
        rcases lt4 l33 with rfl | rfl | rfl | rfl
        · refine rR (b := a0 20) hx hb hK.1 hP 28 1 (at_C_28 cI cS _ _) rfl h33 rfl dX6_copy_33 ?_
          refine lv_astore (lv' := [(7, .ref (a0 20)), (6, .ref (a0 24)), (0, .ref (a0 0)), (1, .int x1), (2, .int x2), (3, .int x3), (4, .int x4), (5, .int x5)]) hx hb dX6_copy_34 hl (by decide) rfl (fun ls hl => ?_)
          refine lv_aload hx hb dX6_copy_36 (lv_at hl 1 rfl) ?_
          refine va_getN (D := D) (ci := 3) (v := .int (t0 24 0)) (C := RX3) (T := TX3) (N := 4) hx hb hts (fun w h => List.mem_cons_of_mem _ (inAX3 w h)) hown hK.1 hP 24 (at_C_24 cI cS _ _) rfl 0 (by decide) (nu_RX6_206 hK) (fun _ h9 => h9) rfl dX6_copy_38 ?_
          refine lv_if_eq (tgt := 52) hx hb dX6_copy_41 (by decide) (fun c41 => ?_) (fun c41 => ?_)
          · replace hF := ip c41 hF
            refine lv_aload_n hx hb dX6_copy_52 rfl (lv_at hl 2 rfl) ?_
            refine lv_iconst (v := 1) hx hb dX6_copy_53 (by decide) ?_
            obtain ⟨v54, u54, h54, hF⟩ := bd2 hF
            refine cAe (ws' := pC cI cS a0 u54) (va_runV (As := [.int 1]) (rest := []) ⟨hx, hb, hml, hown, hts⟩ (c_X6_withFault l D cI cS a0 t0 1 v54 u54 h54) (cwVA hts (TW.cons _) lv_X6_withFault ml_RX6_64 ⟨rfl, rfl⟩ ⟨(Nat.le_of_ble_eq_true rfl), (Nat.le_of_ble_eq_true rfl)⟩) (pWV hK hP hD (ci := 5) rfl rfl) rfl rfl hl.1 rfl (lv_room (Nat.le_of_ble_eq_true rfl)) dX6_copy_54 ⟨Nat.le_refl _, Nat.le_refl _⟩) hD hS (ad_C cI cS _ _ _) (fun H locs hP hD hS => ?_)
            exact W.iret hx hb hr (fun t ht hW => ⟨⟨_, (), rfl, (Prod.mk.inj (Option.some.inj hF)).1, by show va_P _ _ _ t.heap; rw [ht, ← (Prod.mk.inj (Option.some.inj hF)).2]; exact hP⟩, hS.F ht⟩) hS.2.2 dX6_copy_57
          · replace hF := iq c41 hF
            refine lv_aload hx hb dX6_copy_44 (lv_at hl 0 rfl) ?_
            refine va_getN (D := D) (ci := 3) (v := .int (t0 20 0)) (C := RX3) (T := TX3) (N := 4) hx hb hts (fun w h => List.mem_cons_of_mem _ (inAX3 w h)) hown hK.1 hP 20 (at_C_20 cI cS _ _) rfl 0 (by decide) (nu_RX6_206 hK) (fun _ h9 => h9) rfl dX6_copy_46 ?_
            refine lv_if_ne (tgt := 58) hx hb dX6_copy_49 (by decide) (fun c49 => ?_) (fun c49 => ?_)
            · replace hF := iq c49 hF
              refine lv_aload hx hb dX6_copy_58 (lv_at hl 1 rfl) ?_
              refine va_getN (D := D) (ci := 3) (v := .int (t0 24 1)) (C := RX3) (T := TX3) (N := 4) hx hb hts (fun w h => List.mem_cons_of_mem _ (inAX3 w h)) hown hK.1 hP 24 (at_C_24 cI cS _ _) rfl 1 (by decide) (nu_RX6_220 hK) (fun _ h9 => h9) rfl dX6_copy_60 ?_
              refine lv_aload hx hb dX6_copy_63 (lv_at hl 0 rfl) ?_
              refine va_getN (D := D) (ci := 3) (v := .int (t0 20 1)) (C := RX3) (T := TX3) (N := 4) hx hb hts (fun w h => List.mem_cons_of_mem _ (inAX3 w h)) hown hK.1 hP 20 (at_C_20 cI cS _ _) rfl 1 (by decide) (nu_RX6_220 hK) (fun _ h9 => h9) rfl dX6_copy_65 ?_
              refine lv_icmp_eq (tgt := 77) hx hb dX6_copy_68 (by decide) (fun c68 => ?_) (fun c68 => ?_)
              · replace hF := ip c68 hF
                refine lv_aload hx hb dX6_copy_77 (lv_at hl 1 rfl) ?_
                refine lv_iload_n hx hb dX6_copy_79 rfl (lv_at hl 4 rfl) ?_
                refine lv_iload hx hb dX6_copy_80 (lv_at hl 7 rfl) ?_
                obtain ⟨v82, h82, hF⟩ := bd hF
                refine cRb (va_runV (As := [.int x2, .int x5]) (rest := []) ⟨hx, hb, hml, hown, hts⟩ (c_X3_reaches l D cI cS (sa a0 24) (sb t0 24) x2 x5 v82 h82) (cwVA hts (TW.cons _) lv_X3_reaches ml_RX6_210 ⟨rfl, rfl⟩ ⟨(Nat.le_of_ble_eq_true rfl), (Nat.le_of_ble_eq_true rfl)⟩) (pRV hK (hP.sub [24, 25] (su_C_S24 cI cS _ _)) (ci := 3) rfl rfl) rfl rfl hl.1 rfl (lv_room (Nat.le_of_ble_eq_true rfl)) dX6_copy_82 ⟨Nat.le_refl _, Nat.le_refl _⟩) (fun b82 => ?_)
                refine lv_if_eq (tgt := 100) hx hb dX6_copy_85 (by decide) (fun c85 => ?_) (fun c85 => ?_)
                · replace hF := ip c85 hF
                  refine lv_aload_n hx hb dX6_copy_100 rfl (lv_at hl 2 rfl) ?_
                  refine lv_iconst (v := 3) hx hb dX6_copy_101 (by decide) ?_
                  obtain ⟨v102, u102, h102, hF⟩ := bd2 hF
                  refine cAe (ws' := pC cI cS a0 u102) (va_runV (As := [.int 3]) (rest := []) ⟨hx, hb, hml, hown, hts⟩ (c_X6_withFault l D cI cS a0 t0 3 v102 u102 h102) (cwVA hts (TW.cons _) lv_X6_withFault ml_RX6_64 ⟨rfl, rfl⟩ ⟨(Nat.le_of_ble_eq_true rfl), (Nat.le_of_ble_eq_true rfl)⟩) (pWV hK hP hD (ci := 5) rfl rfl) rfl rfl hl.1 rfl (lv_room (Nat.le_of_ble_eq_true rfl)) dX6_copy_102 ⟨Nat.le_refl _, Nat.le_refl _⟩) hD hS (ad_C cI cS _ _ _) (fun H locs hP hD hS => ?_)
                  exact W.iret hx hb hr (fun t ht hW => ⟨⟨_, (), rfl, (Prod.mk.inj (Option.some.inj hF)).1, by show va_P _ _ _ t.heap; rw [ht, ← (Prod.mk.inj (Option.some.inj hF)).2]; exact hP⟩, hS.F ht⟩) hS.2.2 dX6_copy_105
                · replace hF := iq c85 hF
                  refine lv_aload hx hb dX6_copy_88 (lv_at hl 0 rfl) ?_
                  refine lv_iload hx hb dX6_copy_90 (lv_at hl 6 rfl) ?_
                  refine lv_iload hx hb dX6_copy_92 (lv_at hl 7 rfl) ?_
                  obtain ⟨v94, h94, hF⟩ := bd hF
                  refine cRb (va_runV (As := [.int x4, .int x5]) (rest := []) ⟨hx, hb, hml, hown, hts⟩ (c_X3_reaches l D cI cS (sa a0 20) (sb t0 20) x4 x5 v94 h94) (cwVA hts (TW.cons _) lv_X3_reaches ml_RX6_210 ⟨rfl, rfl⟩ ⟨(Nat.le_of_ble_eq_true rfl), (Nat.le_of_ble_eq_true rfl)⟩) (pRV hK (hP.sub [20, 21] (su_C_S20 cI cS _ _)) (ci := 3) rfl rfl) rfl rfl hl.1 rfl (lv_room (Nat.le_of_ble_eq_true rfl)) dX6_copy_94 ⟨Nat.le_refl _, Nat.le_refl _⟩) (fun b94 => ?_)
                  refine lv_if_ne (tgt := 106) hx hb dX6_copy_97 (by decide) (fun c97 => ?_) (fun c97 => ?_)
                  · replace hF := iq c97 hF
                    refine lv_aload hx hb dX6_copy_106 (lv_at hl 1 rfl) ?_
                    refine va_getN (D := D) (ci := 3) (v := .ref (a0 25)) (C := RX3) (T := TX3) (N := 4) hx hb hts (fun w h => List.mem_cons_of_mem _ (inAX3 w h)) hown hK.1 hP 24 (at_C_24 cI cS _ _) rfl 3 (by decide) (nu_RX6_223 hK) (fun _ h9 => h9) rfl dX6_copy_108 ?_
                    refine lv_iload_n hx hb dX6_copy_111 rfl (lv_at hl 4 rfl) ?_
                    refine lv_aload hx hb dX6_copy_112 (lv_at hl 0 rfl) ?_
                    refine va_getN (D := D) (ci := 3) (v := .ref (a0 21)) (C := RX3) (T := TX3) (N := 4) hx hb hts (fun w h => List.mem_cons_of_mem _ (inAX3 w h)) hown hK.1 hP 20 (at_C_20 cI cS _ _) rfl 3 (by decide) (nu_RX6_223 hK) (fun _ h9 => h9) rfl dX6_copy_114 ?_
                    refine lv_iload hx hb dX6_copy_117 (lv_at hl 6 rfl) ?_
                    refine lv_iload hx hb dX6_copy_119 (lv_at hl 7 rfl) ?_
                    obtain ⟨g121, h121, hF⟩ := bd hF
                    refine wC (ws' := pC cI cS a0 (sr t0 21 g121)) hx hb (hml.trans hl.1.symm) hown (hts _ (List.mem_cons_of_mem _ ml_RX6_226)) (hts _ (List.mem_cons_of_mem _ jk_cpy.1)) (hts _ (List.mem_cons_of_mem _ jk_cpy.2.1)) (hts _ (List.mem_cons_of_mem _ jk_cpy.2.2)) hK.1 hP hD hS 25 21 0 (at_C_25 cI cS _ _) (at_C_21 cI cS _ _) rfl h121 (sx_C_21 cI cS _ _ _) (Nat.le_of_ble_eq_true rfl) (Nat.le_of_ble_eq_true rfl) dX6_copy_121 (fun H locs hP hD hS => ?_)
                    refine lv_aload_n hx hb dX6_copy_124 rfl (lv_at hl 2 rfl) ?_
                    refine lv_iload hx hb dX6_copy_125 (lv_at hl 7 rfl) ?_
                    obtain ⟨v127, u127, h127, hF⟩ := bd2 hF
                    refine cAe (ws' := pC cI cS a0 u127) (va_runV (As := [.int x5]) (rest := []) ⟨hx, hb, hml, hown, hts⟩ (c_X6_withoutFault l D cI cS a0 (sr t0 21 g121) x5 v127 u127 h127) (cwVA hts (TW.cons _) lv_X6_withoutFault ml_RX6_53 ⟨rfl, rfl⟩ ⟨(Nat.le_of_ble_eq_true rfl), (Nat.le_of_ble_eq_true rfl)⟩) (pWV hK hP hD (ci := 5) rfl rfl) rfl rfl hl.1 rfl (lv_room (Nat.le_of_ble_eq_true rfl)) dX6_copy_127 ⟨Nat.le_refl _, Nat.le_refl _⟩) hD hS (ad_C cI cS _ _ _) (fun H locs hP hD hS => ?_)
                    exact W.iret hx hb hr (fun t ht hW => ⟨⟨_, (), rfl, (Prod.mk.inj (Option.some.inj hF)).1, by show va_P _ _ _ t.heap; rw [ht, ← (Prod.mk.inj (Option.some.inj hF)).2]; exact hP⟩, hS.F ht⟩) hS.2.2 dX6_copy_130
                  · replace hF := ip c97 hF
                    refine lv_aload_n hx hb dX6_copy_100 rfl (lv_at hl 2 rfl) ?_
                    refine lv_iconst (v := 3) hx hb dX6_copy_101 (by decide) ?_
                    obtain ⟨v102, u102, h102, hF⟩ := bd2 hF
                    refine cAe (ws' := pC cI cS a0 u102) (va_runV (As := [.int 3]) (rest := []) ⟨hx, hb, hml, hown, hts⟩ (c_X6_withFault l D cI cS a0 t0 3 v102 u102 h102) (cwVA hts (TW.cons _) lv_X6_withFault ml_RX6_64 ⟨rfl, rfl⟩ ⟨(Nat.le_of_ble_eq_true rfl), (Nat.le_of_ble_eq_true rfl)⟩) (pWV hK hP hD (ci := 5) rfl rfl) rfl rfl hl.1 rfl (lv_room (Nat.le_of_ble_eq_true rfl)) dX6_copy_102 ⟨Nat.le_refl _, Nat.le_refl _⟩) hD hS (ad_C cI cS _ _ _) (fun H locs hP hD hS => ?_)
                    exact W.iret hx hb hr (fun t ht hW => ⟨⟨_, (), rfl, (Prod.mk.inj (Option.some.inj hF)).1, by show va_P _ _ _ t.heap; rw [ht, ← (Prod.mk.inj (Option.some.inj hF)).2]; exact hP⟩, hS.F ht⟩) hS.2.2 dX6_copy_105
              · replace hF := iq c68 hF
                refine lv_aload_n hx hb dX6_copy_71 rfl (lv_at hl 2 rfl) ?_
                refine lv_iconst (v := 2) hx hb dX6_copy_72 (by decide) ?_
                obtain ⟨v73, u73, h73, hF⟩ := bd2 hF
                refine cAe (ws' := pC cI cS a0 u73) (va_runV (As := [.int 2]) (rest := []) ⟨hx, hb, hml, hown, hts⟩ (c_X6_withFault l D cI cS a0 t0 2 v73 u73 h73) (cwVA hts (TW.cons _) lv_X6_withFault ml_RX6_64 ⟨rfl, rfl⟩ ⟨(Nat.le_of_ble_eq_true rfl), (Nat.le_of_ble_eq_true rfl)⟩) (pWV hK hP hD (ci := 5) rfl rfl) rfl rfl hl.1 rfl (lv_room (Nat.le_of_ble_eq_true rfl)) dX6_copy_73 ⟨Nat.le_refl _, Nat.le_refl _⟩) hD hS (ad_C cI cS _ _ _) (fun H locs hP hD hS => ?_)
                exact W.iret hx hb hr (fun t ht hW => ⟨⟨_, (), rfl, (Prod.mk.inj (Option.some.inj hF)).1, by show va_P _ _ _ t.heap; rw [ht, ← (Prod.mk.inj (Option.some.inj hF)).2]; exact hP⟩, hS.F ht⟩) hS.2.2 dX6_copy_76
            · replace hF := ip c49 hF
              refine lv_aload_n hx hb dX6_copy_52 rfl (lv_at hl 2 rfl) ?_
              refine lv_iconst (v := 1) hx hb dX6_copy_53 (by decide) ?_
              obtain ⟨v54, u54, h54, hF⟩ := bd2 hF
              refine cAe (ws' := pC cI cS a0 u54) (va_runV (As := [.int 1]) (rest := []) ⟨hx, hb, hml, hown, hts⟩ (c_X6_withFault l D cI cS a0 t0 1 v54 u54 h54) (cwVA hts (TW.cons _) lv_X6_withFault ml_RX6_64 ⟨rfl, rfl⟩ ⟨(Nat.le_of_ble_eq_true rfl), (Nat.le_of_ble_eq_true rfl)⟩) (pWV hK hP hD (ci := 5) rfl rfl) rfl rfl hl.1 rfl (lv_room (Nat.le_of_ble_eq_true rfl)) dX6_copy_54 ⟨Nat.le_refl _, Nat.le_refl _⟩) hD hS (ad_C cI cS _ _ _) (fun H locs hP hD hS => ?_)
              exact W.iret hx hb hr (fun t ht hW => ⟨⟨_, (), rfl, (Prod.mk.inj (Option.some.inj hF)).1, by show va_P _ _ _ t.heap; rw [ht, ← (Prod.mk.inj (Option.some.inj hF)).2]; exact hP⟩, hS.F ht⟩) hS.2.2 dX6_copy_57
        · refine rR (b := a0 22) hx hb hK.1 hP 28 1 (at_C_28 cI cS _ _) rfl h33 rfl dX6_copy_33 ?_
          refine lv_astore (lv' := [(7, .ref (a0 22)), (6, .ref (a0 24)), (0, .ref (a0 0)), (1, .int x1), (2, .int x2), (3, .int x3), (4, .int x4), (5, .int x5)]) hx hb dX6_copy_34 hl (by decide) rfl (fun ls hl => ?_)
          refine lv_aload hx hb dX6_copy_36 (lv_at hl 1 rfl) ?_
          refine va_getN (D := D) (ci := 3) (v := .int (t0 24 0)) (C := RX3) (T := TX3) (N := 4) hx hb hts (fun w h => List.mem_cons_of_mem _ (inAX3 w h)) hown hK.1 hP 24 (at_C_24 cI cS _ _) rfl 0 (by decide) (nu_RX6_206 hK) (fun _ h9 => h9) rfl dX6_copy_38 ?_
          refine lv_if_eq (tgt := 52) hx hb dX6_copy_41 (by decide) (fun c41 => ?_) (fun c41 => ?_)
          · replace hF := ip c41 hF
            refine lv_aload_n hx hb dX6_copy_52 rfl (lv_at hl 2 rfl) ?_
            refine lv_iconst (v := 1) hx hb dX6_copy_53 (by decide) ?_
            obtain ⟨v54, u54, h54, hF⟩ := bd2 hF
            refine cAe (ws' := pC cI cS a0 u54) (va_runV (As := [.int 1]) (rest := []) ⟨hx, hb, hml, hown, hts⟩ (c_X6_withFault l D cI cS a0 t0 1 v54 u54 h54) (cwVA hts (TW.cons _) lv_X6_withFault ml_RX6_64 ⟨rfl, rfl⟩ ⟨(Nat.le_of_ble_eq_true rfl), (Nat.le_of_ble_eq_true rfl)⟩) (pWV hK hP hD (ci := 5) rfl rfl) rfl rfl hl.1 rfl (lv_room (Nat.le_of_ble_eq_true rfl)) dX6_copy_54 ⟨Nat.le_refl _, Nat.le_refl _⟩) hD hS (ad_C cI cS _ _ _) (fun H locs hP hD hS => ?_)
            exact W.iret hx hb hr (fun t ht hW => ⟨⟨_, (), rfl, (Prod.mk.inj (Option.some.inj hF)).1, by show va_P _ _ _ t.heap; rw [ht, ← (Prod.mk.inj (Option.some.inj hF)).2]; exact hP⟩, hS.F ht⟩) hS.2.2 dX6_copy_57
          · replace hF := iq c41 hF
            refine lv_aload hx hb dX6_copy_44 (lv_at hl 0 rfl) ?_
            refine va_getN (D := D) (ci := 3) (v := .int (t0 22 0)) (C := RX3) (T := TX3) (N := 4) hx hb hts (fun w h => List.mem_cons_of_mem _ (inAX3 w h)) hown hK.1 hP 22 (at_C_22 cI cS _ _) rfl 0 (by decide) (nu_RX6_206 hK) (fun _ h9 => h9) rfl dX6_copy_46 ?_
            refine lv_if_ne (tgt := 58) hx hb dX6_copy_49 (by decide) (fun c49 => ?_) (fun c49 => ?_)
            · replace hF := iq c49 hF
              refine lv_aload hx hb dX6_copy_58 (lv_at hl 1 rfl) ?_
              refine va_getN (D := D) (ci := 3) (v := .int (t0 24 1)) (C := RX3) (T := TX3) (N := 4) hx hb hts (fun w h => List.mem_cons_of_mem _ (inAX3 w h)) hown hK.1 hP 24 (at_C_24 cI cS _ _) rfl 1 (by decide) (nu_RX6_220 hK) (fun _ h9 => h9) rfl dX6_copy_60 ?_
              refine lv_aload hx hb dX6_copy_63 (lv_at hl 0 rfl) ?_
              refine va_getN (D := D) (ci := 3) (v := .int (t0 22 1)) (C := RX3) (T := TX3) (N := 4) hx hb hts (fun w h => List.mem_cons_of_mem _ (inAX3 w h)) hown hK.1 hP 22 (at_C_22 cI cS _ _) rfl 1 (by decide) (nu_RX6_220 hK) (fun _ h9 => h9) rfl dX6_copy_65 ?_
              refine lv_icmp_eq (tgt := 77) hx hb dX6_copy_68 (by decide) (fun c68 => ?_) (fun c68 => ?_)
              · replace hF := ip c68 hF
                refine lv_aload hx hb dX6_copy_77 (lv_at hl 1 rfl) ?_
                refine lv_iload_n hx hb dX6_copy_79 rfl (lv_at hl 4 rfl) ?_
                refine lv_iload hx hb dX6_copy_80 (lv_at hl 7 rfl) ?_
                obtain ⟨v82, h82, hF⟩ := bd hF
                refine cRb (va_runV (As := [.int x2, .int x5]) (rest := []) ⟨hx, hb, hml, hown, hts⟩ (c_X3_reaches l D cI cS (sa a0 24) (sb t0 24) x2 x5 v82 h82) (cwVA hts (TW.cons _) lv_X3_reaches ml_RX6_210 ⟨rfl, rfl⟩ ⟨(Nat.le_of_ble_eq_true rfl), (Nat.le_of_ble_eq_true rfl)⟩) (pRV hK (hP.sub [24, 25] (su_C_S24 cI cS _ _)) (ci := 3) rfl rfl) rfl rfl hl.1 rfl (lv_room (Nat.le_of_ble_eq_true rfl)) dX6_copy_82 ⟨Nat.le_refl _, Nat.le_refl _⟩) (fun b82 => ?_)
                refine lv_if_eq (tgt := 100) hx hb dX6_copy_85 (by decide) (fun c85 => ?_) (fun c85 => ?_)
                · replace hF := ip c85 hF
                  refine lv_aload_n hx hb dX6_copy_100 rfl (lv_at hl 2 rfl) ?_
                  refine lv_iconst (v := 3) hx hb dX6_copy_101 (by decide) ?_
                  obtain ⟨v102, u102, h102, hF⟩ := bd2 hF
                  refine cAe (ws' := pC cI cS a0 u102) (va_runV (As := [.int 3]) (rest := []) ⟨hx, hb, hml, hown, hts⟩ (c_X6_withFault l D cI cS a0 t0 3 v102 u102 h102) (cwVA hts (TW.cons _) lv_X6_withFault ml_RX6_64 ⟨rfl, rfl⟩ ⟨(Nat.le_of_ble_eq_true rfl), (Nat.le_of_ble_eq_true rfl)⟩) (pWV hK hP hD (ci := 5) rfl rfl) rfl rfl hl.1 rfl (lv_room (Nat.le_of_ble_eq_true rfl)) dX6_copy_102 ⟨Nat.le_refl _, Nat.le_refl _⟩) hD hS (ad_C cI cS _ _ _) (fun H locs hP hD hS => ?_)
                  exact W.iret hx hb hr (fun t ht hW => ⟨⟨_, (), rfl, (Prod.mk.inj (Option.some.inj hF)).1, by show va_P _ _ _ t.heap; rw [ht, ← (Prod.mk.inj (Option.some.inj hF)).2]; exact hP⟩, hS.F ht⟩) hS.2.2 dX6_copy_105
                · replace hF := iq c85 hF
                  refine lv_aload hx hb dX6_copy_88 (lv_at hl 0 rfl) ?_
                  refine lv_iload hx hb dX6_copy_90 (lv_at hl 6 rfl) ?_
                  refine lv_iload hx hb dX6_copy_92 (lv_at hl 7 rfl) ?_
                  obtain ⟨v94, h94, hF⟩ := bd hF
                  refine cRb (va_runV (As := [.int x4, .int x5]) (rest := []) ⟨hx, hb, hml, hown, hts⟩ (c_X3_reaches l D cI cS (sa a0 22) (sb t0 22) x4 x5 v94 h94) (cwVA hts (TW.cons _) lv_X3_reaches ml_RX6_210 ⟨rfl, rfl⟩ ⟨(Nat.le_of_ble_eq_true rfl), (Nat.le_of_ble_eq_true rfl)⟩) (pRV hK (hP.sub [22, 23] (su_C_S22 cI cS _ _)) (ci := 3) rfl rfl) rfl rfl hl.1 rfl (lv_room (Nat.le_of_ble_eq_true rfl)) dX6_copy_94 ⟨Nat.le_refl _, Nat.le_refl _⟩) (fun b94 => ?_)
                  refine lv_if_ne (tgt := 106) hx hb dX6_copy_97 (by decide) (fun c97 => ?_) (fun c97 => ?_)
                  · replace hF := iq c97 hF
                    refine lv_aload hx hb dX6_copy_106 (lv_at hl 1 rfl) ?_
                    refine va_getN (D := D) (ci := 3) (v := .ref (a0 25)) (C := RX3) (T := TX3) (N := 4) hx hb hts (fun w h => List.mem_cons_of_mem _ (inAX3 w h)) hown hK.1 hP 24 (at_C_24 cI cS _ _) rfl 3 (by decide) (nu_RX6_223 hK) (fun _ h9 => h9) rfl dX6_copy_108 ?_
                    refine lv_iload_n hx hb dX6_copy_111 rfl (lv_at hl 4 rfl) ?_
                    refine lv_aload hx hb dX6_copy_112 (lv_at hl 0 rfl) ?_
                    refine va_getN (D := D) (ci := 3) (v := .ref (a0 23)) (C := RX3) (T := TX3) (N := 4) hx hb hts (fun w h => List.mem_cons_of_mem _ (inAX3 w h)) hown hK.1 hP 22 (at_C_22 cI cS _ _) rfl 3 (by decide) (nu_RX6_223 hK) (fun _ h9 => h9) rfl dX6_copy_114 ?_
                    refine lv_iload hx hb dX6_copy_117 (lv_at hl 6 rfl) ?_
                    refine lv_iload hx hb dX6_copy_119 (lv_at hl 7 rfl) ?_
                    obtain ⟨g121, h121, hF⟩ := bd hF
                    refine wC (ws' := pC cI cS a0 (sr t0 23 g121)) hx hb (hml.trans hl.1.symm) hown (hts _ (List.mem_cons_of_mem _ ml_RX6_226)) (hts _ (List.mem_cons_of_mem _ jk_cpy.1)) (hts _ (List.mem_cons_of_mem _ jk_cpy.2.1)) (hts _ (List.mem_cons_of_mem _ jk_cpy.2.2)) hK.1 hP hD hS 25 23 0 (at_C_25 cI cS _ _) (at_C_23 cI cS _ _) rfl h121 (sx_C_23 cI cS _ _ _) (Nat.le_of_ble_eq_true rfl) (Nat.le_of_ble_eq_true rfl) dX6_copy_121 (fun H locs hP hD hS => ?_)
                    refine lv_aload_n hx hb dX6_copy_124 rfl (lv_at hl 2 rfl) ?_
                    refine lv_iload hx hb dX6_copy_125 (lv_at hl 7 rfl) ?_
                    obtain ⟨v127, u127, h127, hF⟩ := bd2 hF
                    refine cAe (ws' := pC cI cS a0 u127) (va_runV (As := [.int x5]) (rest := []) ⟨hx, hb, hml, hown, hts⟩ (c_X6_withoutFault l D cI cS a0 (sr t0 23 g121) x5 v127 u127 h127) (cwVA hts (TW.cons _) lv_X6_withoutFault ml_RX6_53 ⟨rfl, rfl⟩ ⟨(Nat.le_of_ble_eq_true rfl), (Nat.le_of_ble_eq_true rfl)⟩) (pWV hK hP hD (ci := 5) rfl rfl) rfl rfl hl.1 rfl (lv_room (Nat.le_of_ble_eq_true rfl)) dX6_copy_127 ⟨Nat.le_refl _, Nat.le_refl _⟩) hD hS (ad_C cI cS _ _ _) (fun H locs hP hD hS => ?_)
                    exact W.iret hx hb hr (fun t ht hW => ⟨⟨_, (), rfl, (Prod.mk.inj (Option.some.inj hF)).1, by show va_P _ _ _ t.heap; rw [ht, ← (Prod.mk.inj (Option.some.inj hF)).2]; exact hP⟩, hS.F ht⟩) hS.2.2 dX6_copy_130
                  · replace hF := ip c97 hF
                    refine lv_aload_n hx hb dX6_copy_100 rfl (lv_at hl 2 rfl) ?_
                    refine lv_iconst (v := 3) hx hb dX6_copy_101 (by decide) ?_
                    obtain ⟨v102, u102, h102, hF⟩ := bd2 hF
                    refine cAe (ws' := pC cI cS a0 u102) (va_runV (As := [.int 3]) (rest := []) ⟨hx, hb, hml, hown, hts⟩ (c_X6_withFault l D cI cS a0 t0 3 v102 u102 h102) (cwVA hts (TW.cons _) lv_X6_withFault ml_RX6_64 ⟨rfl, rfl⟩ ⟨(Nat.le_of_ble_eq_true rfl), (Nat.le_of_ble_eq_true rfl)⟩) (pWV hK hP hD (ci := 5) rfl rfl) rfl rfl hl.1 rfl (lv_room (Nat.le_of_ble_eq_true rfl)) dX6_copy_102 ⟨Nat.le_refl _, Nat.le_refl _⟩) hD hS (ad_C cI cS _ _ _) (fun H locs hP hD hS => ?_)
                    exact W.iret hx hb hr (fun t ht hW => ⟨⟨_, (), rfl, (Prod.mk.inj (Option.some.inj hF)).1, by show va_P _ _ _ t.heap; rw [ht, ← (Prod.mk.inj (Option.some.inj hF)).2]; exact hP⟩, hS.F ht⟩) hS.2.2 dX6_copy_105
              · replace hF := iq c68 hF
                refine lv_aload_n hx hb dX6_copy_71 rfl (lv_at hl 2 rfl) ?_
                refine lv_iconst (v := 2) hx hb dX6_copy_72 (by decide) ?_
                obtain ⟨v73, u73, h73, hF⟩ := bd2 hF
                refine cAe (ws' := pC cI cS a0 u73) (va_runV (As := [.int 2]) (rest := []) ⟨hx, hb, hml, hown, hts⟩ (c_X6_withFault l D cI cS a0 t0 2 v73 u73 h73) (cwVA hts (TW.cons _) lv_X6_withFault ml_RX6_64 ⟨rfl, rfl⟩ ⟨(Nat.le_of_ble_eq_true rfl), (Nat.le_of_ble_eq_true rfl)⟩) (pWV hK hP hD (ci := 5) rfl rfl) rfl rfl hl.1 rfl (lv_room (Nat.le_of_ble_eq_true rfl)) dX6_copy_73 ⟨Nat.le_refl _, Nat.le_refl _⟩) hD hS (ad_C cI cS _ _ _) (fun H locs hP hD hS => ?_)
                exact W.iret hx hb hr (fun t ht hW => ⟨⟨_, (), rfl, (Prod.mk.inj (Option.some.inj hF)).1, by show va_P _ _ _ t.heap; rw [ht, ← (Prod.mk.inj (Option.some.inj hF)).2]; exact hP⟩, hS.F ht⟩) hS.2.2 dX6_copy_76
            · replace hF := ip c49 hF
              refine lv_aload_n hx hb dX6_copy_52 rfl (lv_at hl 2 rfl) ?_
              refine lv_iconst (v := 1) hx hb dX6_copy_53 (by decide) ?_
              obtain ⟨v54, u54, h54, hF⟩ := bd2 hF
              refine cAe (ws' := pC cI cS a0 u54) (va_runV (As := [.int 1]) (rest := []) ⟨hx, hb, hml, hown, hts⟩ (c_X6_withFault l D cI cS a0 t0 1 v54 u54 h54) (cwVA hts (TW.cons _) lv_X6_withFault ml_RX6_64 ⟨rfl, rfl⟩ ⟨(Nat.le_of_ble_eq_true rfl), (Nat.le_of_ble_eq_true rfl)⟩) (pWV hK hP hD (ci := 5) rfl rfl) rfl rfl hl.1 rfl (lv_room (Nat.le_of_ble_eq_true rfl)) dX6_copy_54 ⟨Nat.le_refl _, Nat.le_refl _⟩) hD hS (ad_C cI cS _ _ _) (fun H locs hP hD hS => ?_)
              exact W.iret hx hb hr (fun t ht hW => ⟨⟨_, (), rfl, (Prod.mk.inj (Option.some.inj hF)).1, by show va_P _ _ _ t.heap; rw [ht, ← (Prod.mk.inj (Option.some.inj hF)).2]; exact hP⟩, hS.F ht⟩) hS.2.2 dX6_copy_57
        · refine rR (b := a0 24) hx hb hK.1 hP 28 1 (at_C_28 cI cS _ _) rfl h33 rfl dX6_copy_33 ?_
          refine lv_astore (lv' := [(7, .ref (a0 24)), (6, .ref (a0 24)), (0, .ref (a0 0)), (1, .int x1), (2, .int x2), (3, .int x3), (4, .int x4), (5, .int x5)]) hx hb dX6_copy_34 hl (by decide) rfl (fun ls hl => ?_)
          refine lv_aload hx hb dX6_copy_36 (lv_at hl 1 rfl) ?_
          refine va_getN (D := D) (ci := 3) (v := .int (t0 24 0)) (C := RX3) (T := TX3) (N := 4) hx hb hts (fun w h => List.mem_cons_of_mem _ (inAX3 w h)) hown hK.1 hP 24 (at_C_24 cI cS _ _) rfl 0 (by decide) (nu_RX6_206 hK) (fun _ h9 => h9) rfl dX6_copy_38 ?_
          refine lv_if_eq (tgt := 52) hx hb dX6_copy_41 (by decide) (fun c41 => ?_) (fun c41 => ?_)
          · replace hF := ip c41 hF
            refine lv_aload_n hx hb dX6_copy_52 rfl (lv_at hl 2 rfl) ?_
            refine lv_iconst (v := 1) hx hb dX6_copy_53 (by decide) ?_
            obtain ⟨v54, u54, h54, hF⟩ := bd2 hF
            refine cAe (ws' := pC cI cS a0 u54) (va_runV (As := [.int 1]) (rest := []) ⟨hx, hb, hml, hown, hts⟩ (c_X6_withFault l D cI cS a0 t0 1 v54 u54 h54) (cwVA hts (TW.cons _) lv_X6_withFault ml_RX6_64 ⟨rfl, rfl⟩ ⟨(Nat.le_of_ble_eq_true rfl), (Nat.le_of_ble_eq_true rfl)⟩) (pWV hK hP hD (ci := 5) rfl rfl) rfl rfl hl.1 rfl (lv_room (Nat.le_of_ble_eq_true rfl)) dX6_copy_54 ⟨Nat.le_refl _, Nat.le_refl _⟩) hD hS (ad_C cI cS _ _ _) (fun H locs hP hD hS => ?_)
            exact W.iret hx hb hr (fun t ht hW => ⟨⟨_, (), rfl, (Prod.mk.inj (Option.some.inj hF)).1, by show va_P _ _ _ t.heap; rw [ht, ← (Prod.mk.inj (Option.some.inj hF)).2]; exact hP⟩, hS.F ht⟩) hS.2.2 dX6_copy_57
          · replace hF := iq c41 hF
            refine lv_aload hx hb dX6_copy_44 (lv_at hl 0 rfl) ?_
            refine va_getN (D := D) (ci := 3) (v := .int (t0 24 0)) (C := RX3) (T := TX3) (N := 4) hx hb hts (fun w h => List.mem_cons_of_mem _ (inAX3 w h)) hown hK.1 hP 24 (at_C_24 cI cS _ _) rfl 0 (by decide) (nu_RX6_206 hK) (fun _ h9 => h9) rfl dX6_copy_46 ?_
            refine lv_if_ne (tgt := 58) hx hb dX6_copy_49 (by decide) (fun c49 => ?_) (fun c49 => ?_)
            · replace hF := iq c49 hF
              refine lv_aload hx hb dX6_copy_58 (lv_at hl 1 rfl) ?_
              refine va_getN (D := D) (ci := 3) (v := .int (t0 24 1)) (C := RX3) (T := TX3) (N := 4) hx hb hts (fun w h => List.mem_cons_of_mem _ (inAX3 w h)) hown hK.1 hP 24 (at_C_24 cI cS _ _) rfl 1 (by decide) (nu_RX6_220 hK) (fun _ h9 => h9) rfl dX6_copy_60 ?_
              refine lv_aload hx hb dX6_copy_63 (lv_at hl 0 rfl) ?_
              refine va_getN (D := D) (ci := 3) (v := .int (t0 24 1)) (C := RX3) (T := TX3) (N := 4) hx hb hts (fun w h => List.mem_cons_of_mem _ (inAX3 w h)) hown hK.1 hP 24 (at_C_24 cI cS _ _) rfl 1 (by decide) (nu_RX6_220 hK) (fun _ h9 => h9) rfl dX6_copy_65 ?_
              refine lv_icmp_eq (tgt := 77) hx hb dX6_copy_68 (by decide) (fun c68 => ?_) (fun c68 => ?_)
              · replace hF := ip c68 hF
                refine lv_aload hx hb dX6_copy_77 (lv_at hl 1 rfl) ?_
                refine lv_iload_n hx hb dX6_copy_79 rfl (lv_at hl 4 rfl) ?_
                refine lv_iload hx hb dX6_copy_80 (lv_at hl 7 rfl) ?_
                obtain ⟨v82, h82, hF⟩ := bd hF
                refine cRb (va_runV (As := [.int x2, .int x5]) (rest := []) ⟨hx, hb, hml, hown, hts⟩ (c_X3_reaches l D cI cS (sa a0 24) (sb t0 24) x2 x5 v82 h82) (cwVA hts (TW.cons _) lv_X3_reaches ml_RX6_210 ⟨rfl, rfl⟩ ⟨(Nat.le_of_ble_eq_true rfl), (Nat.le_of_ble_eq_true rfl)⟩) (pRV hK (hP.sub [24, 25] (su_C_S24 cI cS _ _)) (ci := 3) rfl rfl) rfl rfl hl.1 rfl (lv_room (Nat.le_of_ble_eq_true rfl)) dX6_copy_82 ⟨Nat.le_refl _, Nat.le_refl _⟩) (fun b82 => ?_)
                refine lv_if_eq (tgt := 100) hx hb dX6_copy_85 (by decide) (fun c85 => ?_) (fun c85 => ?_)
                · replace hF := ip c85 hF
                  refine lv_aload_n hx hb dX6_copy_100 rfl (lv_at hl 2 rfl) ?_
                  refine lv_iconst (v := 3) hx hb dX6_copy_101 (by decide) ?_
                  obtain ⟨v102, u102, h102, hF⟩ := bd2 hF
                  refine cAe (ws' := pC cI cS a0 u102) (va_runV (As := [.int 3]) (rest := []) ⟨hx, hb, hml, hown, hts⟩ (c_X6_withFault l D cI cS a0 t0 3 v102 u102 h102) (cwVA hts (TW.cons _) lv_X6_withFault ml_RX6_64 ⟨rfl, rfl⟩ ⟨(Nat.le_of_ble_eq_true rfl), (Nat.le_of_ble_eq_true rfl)⟩) (pWV hK hP hD (ci := 5) rfl rfl) rfl rfl hl.1 rfl (lv_room (Nat.le_of_ble_eq_true rfl)) dX6_copy_102 ⟨Nat.le_refl _, Nat.le_refl _⟩) hD hS (ad_C cI cS _ _ _) (fun H locs hP hD hS => ?_)
                  exact W.iret hx hb hr (fun t ht hW => ⟨⟨_, (), rfl, (Prod.mk.inj (Option.some.inj hF)).1, by show va_P _ _ _ t.heap; rw [ht, ← (Prod.mk.inj (Option.some.inj hF)).2]; exact hP⟩, hS.F ht⟩) hS.2.2 dX6_copy_105
                · replace hF := iq c85 hF
                  refine lv_aload hx hb dX6_copy_88 (lv_at hl 0 rfl) ?_
                  refine lv_iload hx hb dX6_copy_90 (lv_at hl 6 rfl) ?_
                  refine lv_iload hx hb dX6_copy_92 (lv_at hl 7 rfl) ?_
                  obtain ⟨v94, h94, hF⟩ := bd hF
                  refine cRb (va_runV (As := [.int x4, .int x5]) (rest := []) ⟨hx, hb, hml, hown, hts⟩ (c_X3_reaches l D cI cS (sa a0 24) (sb t0 24) x4 x5 v94 h94) (cwVA hts (TW.cons _) lv_X3_reaches ml_RX6_210 ⟨rfl, rfl⟩ ⟨(Nat.le_of_ble_eq_true rfl), (Nat.le_of_ble_eq_true rfl)⟩) (pRV hK (hP.sub [24, 25] (su_C_S24 cI cS _ _)) (ci := 3) rfl rfl) rfl rfl hl.1 rfl (lv_room (Nat.le_of_ble_eq_true rfl)) dX6_copy_94 ⟨Nat.le_refl _, Nat.le_refl _⟩) (fun b94 => ?_)
                  refine lv_if_ne (tgt := 106) hx hb dX6_copy_97 (by decide) (fun c97 => ?_) (fun c97 => ?_)
                  · replace hF := iq c97 hF
                    refine lv_aload hx hb dX6_copy_106 (lv_at hl 1 rfl) ?_
                    refine va_getN (D := D) (ci := 3) (v := .ref (a0 25)) (C := RX3) (T := TX3) (N := 4) hx hb hts (fun w h => List.mem_cons_of_mem _ (inAX3 w h)) hown hK.1 hP 24 (at_C_24 cI cS _ _) rfl 3 (by decide) (nu_RX6_223 hK) (fun _ h9 => h9) rfl dX6_copy_108 ?_
                    refine lv_iload_n hx hb dX6_copy_111 rfl (lv_at hl 4 rfl) ?_
                    refine lv_aload hx hb dX6_copy_112 (lv_at hl 0 rfl) ?_
                    refine va_getN (D := D) (ci := 3) (v := .ref (a0 25)) (C := RX3) (T := TX3) (N := 4) hx hb hts (fun w h => List.mem_cons_of_mem _ (inAX3 w h)) hown hK.1 hP 24 (at_C_24 cI cS _ _) rfl 3 (by decide) (nu_RX6_223 hK) (fun _ h9 => h9) rfl dX6_copy_114 ?_
                    refine lv_iload hx hb dX6_copy_117 (lv_at hl 6 rfl) ?_
                    refine lv_iload hx hb dX6_copy_119 (lv_at hl 7 rfl) ?_
                    obtain ⟨g121, h121, hF⟩ := bd hF
                    refine wC (ws' := pC cI cS a0 (sr t0 25 g121)) hx hb (hml.trans hl.1.symm) hown (hts _ (List.mem_cons_of_mem _ ml_RX6_226)) (hts _ (List.mem_cons_of_mem _ jk_cpy.1)) (hts _ (List.mem_cons_of_mem _ jk_cpy.2.1)) (hts _ (List.mem_cons_of_mem _ jk_cpy.2.2)) hK.1 hP hD hS 25 25 0 (at_C_25 cI cS _ _) (at_C_25 cI cS _ _) rfl h121 (sx_C_25 cI cS _ _ _) (Nat.le_of_ble_eq_true rfl) (Nat.le_of_ble_eq_true rfl) dX6_copy_121 (fun H locs hP hD hS => ?_)
                    refine lv_aload_n hx hb dX6_copy_124 rfl (lv_at hl 2 rfl) ?_
                    refine lv_iload hx hb dX6_copy_125 (lv_at hl 7 rfl) ?_
                    obtain ⟨v127, u127, h127, hF⟩ := bd2 hF
                    refine cAe (ws' := pC cI cS a0 u127) (va_runV (As := [.int x5]) (rest := []) ⟨hx, hb, hml, hown, hts⟩ (c_X6_withoutFault l D cI cS a0 (sr t0 25 g121) x5 v127 u127 h127) (cwVA hts (TW.cons _) lv_X6_withoutFault ml_RX6_53 ⟨rfl, rfl⟩ ⟨(Nat.le_of_ble_eq_true rfl), (Nat.le_of_ble_eq_true rfl)⟩) (pWV hK hP hD (ci := 5) rfl rfl) rfl rfl hl.1 rfl (lv_room (Nat.le_of_ble_eq_true rfl)) dX6_copy_127 ⟨Nat.le_refl _, Nat.le_refl _⟩) hD hS (ad_C cI cS _ _ _) (fun H locs hP hD hS => ?_)
                    exact W.iret hx hb hr (fun t ht hW => ⟨⟨_, (), rfl, (Prod.mk.inj (Option.some.inj hF)).1, by show va_P _ _ _ t.heap; rw [ht, ← (Prod.mk.inj (Option.some.inj hF)).2]; exact hP⟩, hS.F ht⟩) hS.2.2 dX6_copy_130
                  · replace hF := ip c97 hF
                    refine lv_aload_n hx hb dX6_copy_100 rfl (lv_at hl 2 rfl) ?_
                    refine lv_iconst (v := 3) hx hb dX6_copy_101 (by decide) ?_
                    obtain ⟨v102, u102, h102, hF⟩ := bd2 hF
                    refine cAe (ws' := pC cI cS a0 u102) (va_runV (As := [.int 3]) (rest := []) ⟨hx, hb, hml, hown, hts⟩ (c_X6_withFault l D cI cS a0 t0 3 v102 u102 h102) (cwVA hts (TW.cons _) lv_X6_withFault ml_RX6_64 ⟨rfl, rfl⟩ ⟨(Nat.le_of_ble_eq_true rfl), (Nat.le_of_ble_eq_true rfl)⟩) (pWV hK hP hD (ci := 5) rfl rfl) rfl rfl hl.1 rfl (lv_room (Nat.le_of_ble_eq_true rfl)) dX6_copy_102 ⟨Nat.le_refl _, Nat.le_refl _⟩) hD hS (ad_C cI cS _ _ _) (fun H locs hP hD hS => ?_)
                    exact W.iret hx hb hr (fun t ht hW => ⟨⟨_, (), rfl, (Prod.mk.inj (Option.some.inj hF)).1, by show va_P _ _ _ t.heap; rw [ht, ← (Prod.mk.inj (Option.some.inj hF)).2]; exact hP⟩, hS.F ht⟩) hS.2.2 dX6_copy_105
              · replace hF := iq c68 hF
                refine lv_aload_n hx hb dX6_copy_71 rfl (lv_at hl 2 rfl) ?_
                refine lv_iconst (v := 2) hx hb dX6_copy_72 (by decide) ?_
                obtain ⟨v73, u73, h73, hF⟩ := bd2 hF
                refine cAe (ws' := pC cI cS a0 u73) (va_runV (As := [.int 2]) (rest := []) ⟨hx, hb, hml, hown, hts⟩ (c_X6_withFault l D cI cS a0 t0 2 v73 u73 h73) (cwVA hts (TW.cons _) lv_X6_withFault ml_RX6_64 ⟨rfl, rfl⟩ ⟨(Nat.le_of_ble_eq_true rfl), (Nat.le_of_ble_eq_true rfl)⟩) (pWV hK hP hD (ci := 5) rfl rfl) rfl rfl hl.1 rfl (lv_room (Nat.le_of_ble_eq_true rfl)) dX6_copy_73 ⟨Nat.le_refl _, Nat.le_refl _⟩) hD hS (ad_C cI cS _ _ _) (fun H locs hP hD hS => ?_)
                exact W.iret hx hb hr (fun t ht hW => ⟨⟨_, (), rfl, (Prod.mk.inj (Option.some.inj hF)).1, by show va_P _ _ _ t.heap; rw [ht, ← (Prod.mk.inj (Option.some.inj hF)).2]; exact hP⟩, hS.F ht⟩) hS.2.2 dX6_copy_76
            · replace hF := ip c49 hF
              refine lv_aload_n hx hb dX6_copy_52 rfl (lv_at hl 2 rfl) ?_
              refine lv_iconst (v := 1) hx hb dX6_copy_53 (by decide) ?_
              obtain ⟨v54, u54, h54, hF⟩ := bd2 hF
              refine cAe (ws' := pC cI cS a0 u54) (va_runV (As := [.int 1]) (rest := []) ⟨hx, hb, hml, hown, hts⟩ (c_X6_withFault l D cI cS a0 t0 1 v54 u54 h54) (cwVA hts (TW.cons _) lv_X6_withFault ml_RX6_64 ⟨rfl, rfl⟩ ⟨(Nat.le_of_ble_eq_true rfl), (Nat.le_of_ble_eq_true rfl)⟩) (pWV hK hP hD (ci := 5) rfl rfl) rfl rfl hl.1 rfl (lv_room (Nat.le_of_ble_eq_true rfl)) dX6_copy_54 ⟨Nat.le_refl _, Nat.le_refl _⟩) hD hS (ad_C cI cS _ _ _) (fun H locs hP hD hS => ?_)
              exact W.iret hx hb hr (fun t ht hW => ⟨⟨_, (), rfl, (Prod.mk.inj (Option.some.inj hF)).1, by show va_P _ _ _ t.heap; rw [ht, ← (Prod.mk.inj (Option.some.inj hF)).2]; exact hP⟩, hS.F ht⟩) hS.2.2 dX6_copy_57
        · refine rR (b := a0 26) hx hb hK.1 hP 28 1 (at_C_28 cI cS _ _) rfl h33 rfl dX6_copy_33 ?_
          refine lv_astore (lv' := [(7, .ref (a0 26)), (6, .ref (a0 24)), (0, .ref (a0 0)), (1, .int x1), (2, .int x2), (3, .int x3), (4, .int x4), (5, .int x5)]) hx hb dX6_copy_34 hl (by decide) rfl (fun ls hl => ?_)
          refine lv_aload hx hb dX6_copy_36 (lv_at hl 1 rfl) ?_
          refine va_getN (D := D) (ci := 3) (v := .int (t0 24 0)) (C := RX3) (T := TX3) (N := 4) hx hb hts (fun w h => List.mem_cons_of_mem _ (inAX3 w h)) hown hK.1 hP 24 (at_C_24 cI cS _ _) rfl 0 (by decide) (nu_RX6_206 hK) (fun _ h9 => h9) rfl dX6_copy_38 ?_
          refine lv_if_eq (tgt := 52) hx hb dX6_copy_41 (by decide) (fun c41 => ?_) (fun c41 => ?_)
          · replace hF := ip c41 hF
            refine lv_aload_n hx hb dX6_copy_52 rfl (lv_at hl 2 rfl) ?_
            refine lv_iconst (v := 1) hx hb dX6_copy_53 (by decide) ?_
            obtain ⟨v54, u54, h54, hF⟩ := bd2 hF
            refine cAe (ws' := pC cI cS a0 u54) (va_runV (As := [.int 1]) (rest := []) ⟨hx, hb, hml, hown, hts⟩ (c_X6_withFault l D cI cS a0 t0 1 v54 u54 h54) (cwVA hts (TW.cons _) lv_X6_withFault ml_RX6_64 ⟨rfl, rfl⟩ ⟨(Nat.le_of_ble_eq_true rfl), (Nat.le_of_ble_eq_true rfl)⟩) (pWV hK hP hD (ci := 5) rfl rfl) rfl rfl hl.1 rfl (lv_room (Nat.le_of_ble_eq_true rfl)) dX6_copy_54 ⟨Nat.le_refl _, Nat.le_refl _⟩) hD hS (ad_C cI cS _ _ _) (fun H locs hP hD hS => ?_)
            exact W.iret hx hb hr (fun t ht hW => ⟨⟨_, (), rfl, (Prod.mk.inj (Option.some.inj hF)).1, by show va_P _ _ _ t.heap; rw [ht, ← (Prod.mk.inj (Option.some.inj hF)).2]; exact hP⟩, hS.F ht⟩) hS.2.2 dX6_copy_57
          · replace hF := iq c41 hF
            refine lv_aload hx hb dX6_copy_44 (lv_at hl 0 rfl) ?_
            refine va_getN (D := D) (ci := 3) (v := .int (t0 26 0)) (C := RX3) (T := TX3) (N := 4) hx hb hts (fun w h => List.mem_cons_of_mem _ (inAX3 w h)) hown hK.1 hP 26 (at_C_26 cI cS _ _) rfl 0 (by decide) (nu_RX6_206 hK) (fun _ h9 => h9) rfl dX6_copy_46 ?_
            refine lv_if_ne (tgt := 58) hx hb dX6_copy_49 (by decide) (fun c49 => ?_) (fun c49 => ?_)
            · replace hF := iq c49 hF
              refine lv_aload hx hb dX6_copy_58 (lv_at hl 1 rfl) ?_
              refine va_getN (D := D) (ci := 3) (v := .int (t0 24 1)) (C := RX3) (T := TX3) (N := 4) hx hb hts (fun w h => List.mem_cons_of_mem _ (inAX3 w h)) hown hK.1 hP 24 (at_C_24 cI cS _ _) rfl 1 (by decide) (nu_RX6_220 hK) (fun _ h9 => h9) rfl dX6_copy_60 ?_
              refine lv_aload hx hb dX6_copy_63 (lv_at hl 0 rfl) ?_
              refine va_getN (D := D) (ci := 3) (v := .int (t0 26 1)) (C := RX3) (T := TX3) (N := 4) hx hb hts (fun w h => List.mem_cons_of_mem _ (inAX3 w h)) hown hK.1 hP 26 (at_C_26 cI cS _ _) rfl 1 (by decide) (nu_RX6_220 hK) (fun _ h9 => h9) rfl dX6_copy_65 ?_
              refine lv_icmp_eq (tgt := 77) hx hb dX6_copy_68 (by decide) (fun c68 => ?_) (fun c68 => ?_)
              · replace hF := ip c68 hF
                refine lv_aload hx hb dX6_copy_77 (lv_at hl 1 rfl) ?_
                refine lv_iload_n hx hb dX6_copy_79 rfl (lv_at hl 4 rfl) ?_
                refine lv_iload hx hb dX6_copy_80 (lv_at hl 7 rfl) ?_
                obtain ⟨v82, h82, hF⟩ := bd hF
                refine cRb (va_runV (As := [.int x2, .int x5]) (rest := []) ⟨hx, hb, hml, hown, hts⟩ (c_X3_reaches l D cI cS (sa a0 24) (sb t0 24) x2 x5 v82 h82) (cwVA hts (TW.cons _) lv_X3_reaches ml_RX6_210 ⟨rfl, rfl⟩ ⟨(Nat.le_of_ble_eq_true rfl), (Nat.le_of_ble_eq_true rfl)⟩) (pRV hK (hP.sub [24, 25] (su_C_S24 cI cS _ _)) (ci := 3) rfl rfl) rfl rfl hl.1 rfl (lv_room (Nat.le_of_ble_eq_true rfl)) dX6_copy_82 ⟨Nat.le_refl _, Nat.le_refl _⟩) (fun b82 => ?_)
                refine lv_if_eq (tgt := 100) hx hb dX6_copy_85 (by decide) (fun c85 => ?_) (fun c85 => ?_)
                · replace hF := ip c85 hF
                  refine lv_aload_n hx hb dX6_copy_100 rfl (lv_at hl 2 rfl) ?_
                  refine lv_iconst (v := 3) hx hb dX6_copy_101 (by decide) ?_
                  obtain ⟨v102, u102, h102, hF⟩ := bd2 hF
                  refine cAe (ws' := pC cI cS a0 u102) (va_runV (As := [.int 3]) (rest := []) ⟨hx, hb, hml, hown, hts⟩ (c_X6_withFault l D cI cS a0 t0 3 v102 u102 h102) (cwVA hts (TW.cons _) lv_X6_withFault ml_RX6_64 ⟨rfl, rfl⟩ ⟨(Nat.le_of_ble_eq_true rfl), (Nat.le_of_ble_eq_true rfl)⟩) (pWV hK hP hD (ci := 5) rfl rfl) rfl rfl hl.1 rfl (lv_room (Nat.le_of_ble_eq_true rfl)) dX6_copy_102 ⟨Nat.le_refl _, Nat.le_refl _⟩) hD hS (ad_C cI cS _ _ _) (fun H locs hP hD hS => ?_)
                  exact W.iret hx hb hr (fun t ht hW => ⟨⟨_, (), rfl, (Prod.mk.inj (Option.some.inj hF)).1, by show va_P _ _ _ t.heap; rw [ht, ← (Prod.mk.inj (Option.some.inj hF)).2]; exact hP⟩, hS.F ht⟩) hS.2.2 dX6_copy_105
                · replace hF := iq c85 hF
                  refine lv_aload hx hb dX6_copy_88 (lv_at hl 0 rfl) ?_
                  refine lv_iload hx hb dX6_copy_90 (lv_at hl 6 rfl) ?_
                  refine lv_iload hx hb dX6_copy_92 (lv_at hl 7 rfl) ?_
                  obtain ⟨v94, h94, hF⟩ := bd hF
                  refine cRb (va_runV (As := [.int x4, .int x5]) (rest := []) ⟨hx, hb, hml, hown, hts⟩ (c_X3_reaches l D cI cS (sa a0 26) (sb t0 26) x4 x5 v94 h94) (cwVA hts (TW.cons _) lv_X3_reaches ml_RX6_210 ⟨rfl, rfl⟩ ⟨(Nat.le_of_ble_eq_true rfl), (Nat.le_of_ble_eq_true rfl)⟩) (pRV hK (hP.sub [26, 27] (su_C_S26 cI cS _ _)) (ci := 3) rfl rfl) rfl rfl hl.1 rfl (lv_room (Nat.le_of_ble_eq_true rfl)) dX6_copy_94 ⟨Nat.le_refl _, Nat.le_refl _⟩) (fun b94 => ?_)
                  refine lv_if_ne (tgt := 106) hx hb dX6_copy_97 (by decide) (fun c97 => ?_) (fun c97 => ?_)
                  · replace hF := iq c97 hF
                    refine lv_aload hx hb dX6_copy_106 (lv_at hl 1 rfl) ?_
                    refine va_getN (D := D) (ci := 3) (v := .ref (a0 25)) (C := RX3) (T := TX3) (N := 4) hx hb hts (fun w h => List.mem_cons_of_mem _ (inAX3 w h)) hown hK.1 hP 24 (at_C_24 cI cS _ _) rfl 3 (by decide) (nu_RX6_223 hK) (fun _ h9 => h9) rfl dX6_copy_108 ?_
                    refine lv_iload_n hx hb dX6_copy_111 rfl (lv_at hl 4 rfl) ?_
                    refine lv_aload hx hb dX6_copy_112 (lv_at hl 0 rfl) ?_
                    refine va_getN (D := D) (ci := 3) (v := .ref (a0 27)) (C := RX3) (T := TX3) (N := 4) hx hb hts (fun w h => List.mem_cons_of_mem _ (inAX3 w h)) hown hK.1 hP 26 (at_C_26 cI cS _ _) rfl 3 (by decide) (nu_RX6_223 hK) (fun _ h9 => h9) rfl dX6_copy_114 ?_
                    refine lv_iload hx hb dX6_copy_117 (lv_at hl 6 rfl) ?_
                    refine lv_iload hx hb dX6_copy_119 (lv_at hl 7 rfl) ?_
                    obtain ⟨g121, h121, hF⟩ := bd hF
                    refine wC (ws' := pC cI cS a0 (sr t0 27 g121)) hx hb (hml.trans hl.1.symm) hown (hts _ (List.mem_cons_of_mem _ ml_RX6_226)) (hts _ (List.mem_cons_of_mem _ jk_cpy.1)) (hts _ (List.mem_cons_of_mem _ jk_cpy.2.1)) (hts _ (List.mem_cons_of_mem _ jk_cpy.2.2)) hK.1 hP hD hS 25 27 0 (at_C_25 cI cS _ _) (at_C_27 cI cS _ _) rfl h121 (sx_C_27 cI cS _ _ _) (Nat.le_of_ble_eq_true rfl) (Nat.le_of_ble_eq_true rfl) dX6_copy_121 (fun H locs hP hD hS => ?_)
                    refine lv_aload_n hx hb dX6_copy_124 rfl (lv_at hl 2 rfl) ?_
                    refine lv_iload hx hb dX6_copy_125 (lv_at hl 7 rfl) ?_
                    obtain ⟨v127, u127, h127, hF⟩ := bd2 hF
                    refine cAe (ws' := pC cI cS a0 u127) (va_runV (As := [.int x5]) (rest := []) ⟨hx, hb, hml, hown, hts⟩ (c_X6_withoutFault l D cI cS a0 (sr t0 27 g121) x5 v127 u127 h127) (cwVA hts (TW.cons _) lv_X6_withoutFault ml_RX6_53 ⟨rfl, rfl⟩ ⟨(Nat.le_of_ble_eq_true rfl), (Nat.le_of_ble_eq_true rfl)⟩) (pWV hK hP hD (ci := 5) rfl rfl) rfl rfl hl.1 rfl (lv_room (Nat.le_of_ble_eq_true rfl)) dX6_copy_127 ⟨Nat.le_refl _, Nat.le_refl _⟩) hD hS (ad_C cI cS _ _ _) (fun H locs hP hD hS => ?_)
                    exact W.iret hx hb hr (fun t ht hW => ⟨⟨_, (), rfl, (Prod.mk.inj (Option.some.inj hF)).1, by show va_P _ _ _ t.heap; rw [ht, ← (Prod.mk.inj (Option.some.inj hF)).2]; exact hP⟩, hS.F ht⟩) hS.2.2 dX6_copy_130
                  · replace hF := ip c97 hF
                    refine lv_aload_n hx hb dX6_copy_100 rfl (lv_at hl 2 rfl) ?_
                    refine lv_iconst (v := 3) hx hb dX6_copy_101 (by decide) ?_
                    obtain ⟨v102, u102, h102, hF⟩ := bd2 hF
                    refine cAe (ws' := pC cI cS a0 u102) (va_runV (As := [.int 3]) (rest := []) ⟨hx, hb, hml, hown, hts⟩ (c_X6_withFault l D cI cS a0 t0 3 v102 u102 h102) (cwVA hts (TW.cons _) lv_X6_withFault ml_RX6_64 ⟨rfl, rfl⟩ ⟨(Nat.le_of_ble_eq_true rfl), (Nat.le_of_ble_eq_true rfl)⟩) (pWV hK hP hD (ci := 5) rfl rfl) rfl rfl hl.1 rfl (lv_room (Nat.le_of_ble_eq_true rfl)) dX6_copy_102 ⟨Nat.le_refl _, Nat.le_refl _⟩) hD hS (ad_C cI cS _ _ _) (fun H locs hP hD hS => ?_)
                    exact W.iret hx hb hr (fun t ht hW => ⟨⟨_, (), rfl, (Prod.mk.inj (Option.some.inj hF)).1, by show va_P _ _ _ t.heap; rw [ht, ← (Prod.mk.inj (Option.some.inj hF)).2]; exact hP⟩, hS.F ht⟩) hS.2.2 dX6_copy_105
              · replace hF := iq c68 hF
                refine lv_aload_n hx hb dX6_copy_71 rfl (lv_at hl 2 rfl) ?_
                refine lv_iconst (v := 2) hx hb dX6_copy_72 (by decide) ?_
                obtain ⟨v73, u73, h73, hF⟩ := bd2 hF
                refine cAe (ws' := pC cI cS a0 u73) (va_runV (As := [.int 2]) (rest := []) ⟨hx, hb, hml, hown, hts⟩ (c_X6_withFault l D cI cS a0 t0 2 v73 u73 h73) (cwVA hts (TW.cons _) lv_X6_withFault ml_RX6_64 ⟨rfl, rfl⟩ ⟨(Nat.le_of_ble_eq_true rfl), (Nat.le_of_ble_eq_true rfl)⟩) (pWV hK hP hD (ci := 5) rfl rfl) rfl rfl hl.1 rfl (lv_room (Nat.le_of_ble_eq_true rfl)) dX6_copy_73 ⟨Nat.le_refl _, Nat.le_refl _⟩) hD hS (ad_C cI cS _ _ _) (fun H locs hP hD hS => ?_)
                exact W.iret hx hb hr (fun t ht hW => ⟨⟨_, (), rfl, (Prod.mk.inj (Option.some.inj hF)).1, by show va_P _ _ _ t.heap; rw [ht, ← (Prod.mk.inj (Option.some.inj hF)).2]; exact hP⟩, hS.F ht⟩) hS.2.2 dX6_copy_76
            · replace hF := ip c49 hF
              refine lv_aload_n hx hb dX6_copy_52 rfl (lv_at hl 2 rfl) ?_
              refine lv_iconst (v := 1) hx hb dX6_copy_53 (by decide) ?_
              obtain ⟨v54, u54, h54, hF⟩ := bd2 hF
              refine cAe (ws' := pC cI cS a0 u54) (va_runV (As := [.int 1]) (rest := []) ⟨hx, hb, hml, hown, hts⟩ (c_X6_withFault l D cI cS a0 t0 1 v54 u54 h54) (cwVA hts (TW.cons _) lv_X6_withFault ml_RX6_64 ⟨rfl, rfl⟩ ⟨(Nat.le_of_ble_eq_true rfl), (Nat.le_of_ble_eq_true rfl)⟩) (pWV hK hP hD (ci := 5) rfl rfl) rfl rfl hl.1 rfl (lv_room (Nat.le_of_ble_eq_true rfl)) dX6_copy_54 ⟨Nat.le_refl _, Nat.le_refl _⟩) hD hS (ad_C cI cS _ _ _) (fun H locs hP hD hS => ?_)
              exact W.iret hx hb hr (fun t ht hW => ⟨⟨_, (), rfl, (Prod.mk.inj (Option.some.inj hF)).1, by show va_P _ _ _ t.heap; rw [ht, ← (Prod.mk.inj (Option.some.inj hF)).2]; exact hP⟩, hS.F ht⟩) hS.2.2 dX6_copy_57
      · refine rR (b := a0 26) hx hb hK.1 hP 28 1 (at_C_28 cI cS _ _) rfl h25 rfl dX6_copy_25 ?_
        refine lv_astore (lv' := [(6, .ref (a0 26)), (0, .ref (a0 0)), (1, .int x1), (2, .int x2), (3, .int x3), (4, .int x4), (5, .int x5)]) hx hb dX6_copy_26 hl (by decide) rfl (fun ls hl => ?_)
        refine lv_aload_n hx hb dX6_copy_28 rfl (lv_at hl 1 rfl) ?_
        refine va_get (D := D) (ci := 5) (v := .ref (a0 28)) (C := RX6) (T := TX6) (N := 8) hx hb hts (fun w h => List.mem_cons_of_mem _ (inAX6 w h)) hown hK.1 hP 0 (at_C_0 cI cS _ _) rfl 5 (by decide) (hts _ (List.mem_cons_of_mem _ fl_RX6_44)) (fun _ h9 => h9) rfl dX6_copy_29 ?_
        refine lv_iload_n hx hb dX6_copy_32 rfl (lv_at hl 4 rfl) ?_
        obtain ⟨k33, h33, hF⟩ := bd hF
        obtain ⟨-, -, l33⟩ := ix_some h33
        rcases lt4 l33 with rfl | rfl | rfl | rfl
        · refine rR (b := a0 20) hx hb hK.1 hP 28 1 (at_C_28 cI cS _ _) rfl h33 rfl dX6_copy_33 ?_
          refine lv_astore (lv' := [(7, .ref (a0 20)), (6, .ref (a0 26)), (0, .ref (a0 0)), (1, .int x1), (2, .int x2), (3, .int x3), (4, .int x4), (5, .int x5)]) hx hb dX6_copy_34 hl (by decide) rfl (fun ls hl => ?_)
          refine lv_aload hx hb dX6_copy_36 (lv_at hl 1 rfl) ?_
          refine va_getN (D := D) (ci := 3) (v := .int (t0 26 0)) (C := RX3) (T := TX3) (N := 4) hx hb hts (fun w h => List.mem_cons_of_mem _ (inAX3 w h)) hown hK.1 hP 26 (at_C_26 cI cS _ _) rfl 0 (by decide) (nu_RX6_206 hK) (fun _ h9 => h9) rfl dX6_copy_38 ?_
          refine lv_if_eq (tgt := 52) hx hb dX6_copy_41 (by decide) (fun c41 => ?_) (fun c41 => ?_)
          · replace hF := ip c41 hF
            refine lv_aload_n hx hb dX6_copy_52 rfl (lv_at hl 2 rfl) ?_
            refine lv_iconst (v := 1) hx hb dX6_copy_53 (by decide) ?_
            obtain ⟨v54, u54, h54, hF⟩ := bd2 hF
            refine cAe (ws' := pC cI cS a0 u54) (va_runV (As := [.int 1]) (rest := []) ⟨hx, hb, hml, hown, hts⟩ (c_X6_withFault l D cI cS a0 t0 1 v54 u54 h54) (cwVA hts (TW.cons _) lv_X6_withFault ml_RX6_64 ⟨rfl, rfl⟩ ⟨(Nat.le_of_ble_eq_true rfl), (Nat.le_of_ble_eq_true rfl)⟩) (pWV hK hP hD (ci := 5) rfl rfl) rfl rfl hl.1 rfl (lv_room (Nat.le_of_ble_eq_true rfl)) dX6_copy_54 ⟨Nat.le_refl _, Nat.le_refl _⟩) hD hS (ad_C cI cS _ _ _) (fun H locs hP hD hS => ?_)
            exact W.iret hx hb hr (fun t ht hW => ⟨⟨_, (), rfl, (Prod.mk.inj (Option.some.inj hF)).1, by show va_P _ _ _ t.heap; rw [ht, ← (Prod.mk.inj (Option.some.inj hF)).2]; exact hP⟩, hS.F ht⟩) hS.2.2 dX6_copy_57
          · replace hF := iq c41 hF
            refine lv_aload hx hb dX6_copy_44 (lv_at hl 0 rfl) ?_
            refine va_getN (D := D) (ci := 3) (v := .int (t0 20 0)) (C := RX3) (T := TX3) (N := 4) hx hb hts (fun w h => List.mem_cons_of_mem _ (inAX3 w h)) hown hK.1 hP 20 (at_C_20 cI cS _ _) rfl 0 (by decide) (nu_RX6_206 hK) (fun _ h9 => h9) rfl dX6_copy_46 ?_
            refine lv_if_ne (tgt := 58) hx hb dX6_copy_49 (by decide) (fun c49 => ?_) (fun c49 => ?_)
            · replace hF := iq c49 hF
              refine lv_aload hx hb dX6_copy_58 (lv_at hl 1 rfl) ?_
              refine va_getN (D := D) (ci := 3) (v := .int (t0 26 1)) (C := RX3) (T := TX3) (N := 4) hx hb hts (fun w h => List.mem_cons_of_mem _ (inAX3 w h)) hown hK.1 hP 26 (at_C_26 cI cS _ _) rfl 1 (by decide) (nu_RX6_220 hK) (fun _ h9 => h9) rfl dX6_copy_60 ?_
              refine lv_aload hx hb dX6_copy_63 (lv_at hl 0 rfl) ?_
              refine va_getN (D := D) (ci := 3) (v := .int (t0 20 1)) (C := RX3) (T := TX3) (N := 4) hx hb hts (fun w h => List.mem_cons_of_mem _ (inAX3 w h)) hown hK.1 hP 20 (at_C_20 cI cS _ _) rfl 1 (by decide) (nu_RX6_220 hK) (fun _ h9 => h9) rfl dX6_copy_65 ?_
              refine lv_icmp_eq (tgt := 77) hx hb dX6_copy_68 (by decide) (fun c68 => ?_) (fun c68 => ?_)
              · replace hF := ip c68 hF
                refine lv_aload hx hb dX6_copy_77 (lv_at hl 1 rfl) ?_
                refine lv_iload_n hx hb dX6_copy_79 rfl (lv_at hl 4 rfl) ?_
                refine lv_iload hx hb dX6_copy_80 (lv_at hl 7 rfl) ?_
                obtain ⟨v82, h82, hF⟩ := bd hF
                refine cRb (va_runV (As := [.int x2, .int x5]) (rest := []) ⟨hx, hb, hml, hown, hts⟩ (c_X3_reaches l D cI cS (sa a0 26) (sb t0 26) x2 x5 v82 h82) (cwVA hts (TW.cons _) lv_X3_reaches ml_RX6_210 ⟨rfl, rfl⟩ ⟨(Nat.le_of_ble_eq_true rfl), (Nat.le_of_ble_eq_true rfl)⟩) (pRV hK (hP.sub [26, 27] (su_C_S26 cI cS _ _)) (ci := 3) rfl rfl) rfl rfl hl.1 rfl (lv_room (Nat.le_of_ble_eq_true rfl)) dX6_copy_82 ⟨Nat.le_refl _, Nat.le_refl _⟩) (fun b82 => ?_)
                refine lv_if_eq (tgt := 100) hx hb dX6_copy_85 (by decide) (fun c85 => ?_) (fun c85 => ?_)
                · replace hF := ip c85 hF
                  refine lv_aload_n hx hb dX6_copy_100 rfl (lv_at hl 2 rfl) ?_
                  refine lv_iconst (v := 3) hx hb dX6_copy_101 (by decide) ?_
                  obtain ⟨v102, u102, h102, hF⟩ := bd2 hF
                  refine cAe (ws' := pC cI cS a0 u102) (va_runV (As := [.int 3]) (rest := []) ⟨hx, hb, hml, hown, hts⟩ (c_X6_withFault l D cI cS a0 t0 3 v102 u102 h102) (cwVA hts (TW.cons _) lv_X6_withFault ml_RX6_64 ⟨rfl, rfl⟩ ⟨(Nat.le_of_ble_eq_true rfl), (Nat.le_of_ble_eq_true rfl)⟩) (pWV hK hP hD (ci := 5) rfl rfl) rfl rfl hl.1 rfl (lv_room (Nat.le_of_ble_eq_true rfl)) dX6_copy_102 ⟨Nat.le_refl _, Nat.le_refl _⟩) hD hS (ad_C cI cS _ _ _) (fun H locs hP hD hS => ?_)
                  exact W.iret hx hb hr (fun t ht hW => ⟨⟨_, (), rfl, (Prod.mk.inj (Option.some.inj hF)).1, by show va_P _ _ _ t.heap; rw [ht, ← (Prod.mk.inj (Option.some.inj hF)).2]; exact hP⟩, hS.F ht⟩) hS.2.2 dX6_copy_105
                · replace hF := iq c85 hF
                  refine lv_aload hx hb dX6_copy_88 (lv_at hl 0 rfl) ?_
                  refine lv_iload hx hb dX6_copy_90 (lv_at hl 6 rfl) ?_
                  refine lv_iload hx hb dX6_copy_92 (lv_at hl 7 rfl) ?_
                  obtain ⟨v94, h94, hF⟩ := bd hF
                  refine cRb (va_runV (As := [.int x4, .int x5]) (rest := []) ⟨hx, hb, hml, hown, hts⟩ (c_X3_reaches l D cI cS (sa a0 20) (sb t0 20) x4 x5 v94 h94) (cwVA hts (TW.cons _) lv_X3_reaches ml_RX6_210 ⟨rfl, rfl⟩ ⟨(Nat.le_of_ble_eq_true rfl), (Nat.le_of_ble_eq_true rfl)⟩) (pRV hK (hP.sub [20, 21] (su_C_S20 cI cS _ _)) (ci := 3) rfl rfl) rfl rfl hl.1 rfl (lv_room (Nat.le_of_ble_eq_true rfl)) dX6_copy_94 ⟨Nat.le_refl _, Nat.le_refl _⟩) (fun b94 => ?_)
                  refine lv_if_ne (tgt := 106) hx hb dX6_copy_97 (by decide) (fun c97 => ?_) (fun c97 => ?_)
                  · replace hF := iq c97 hF
                    refine lv_aload hx hb dX6_copy_106 (lv_at hl 1 rfl) ?_
                    refine va_getN (D := D) (ci := 3) (v := .ref (a0 27)) (C := RX3) (T := TX3) (N := 4) hx hb hts (fun w h => List.mem_cons_of_mem _ (inAX3 w h)) hown hK.1 hP 26 (at_C_26 cI cS _ _) rfl 3 (by decide) (nu_RX6_223 hK) (fun _ h9 => h9) rfl dX6_copy_108 ?_
                    refine lv_iload_n hx hb dX6_copy_111 rfl (lv_at hl 4 rfl) ?_
                    refine lv_aload hx hb dX6_copy_112 (lv_at hl 0 rfl) ?_
                    refine va_getN (D := D) (ci := 3) (v := .ref (a0 21)) (C := RX3) (T := TX3) (N := 4) hx hb hts (fun w h => List.mem_cons_of_mem _ (inAX3 w h)) hown hK.1 hP 20 (at_C_20 cI cS _ _) rfl 3 (by decide) (nu_RX6_223 hK) (fun _ h9 => h9) rfl dX6_copy_114 ?_
                    refine lv_iload hx hb dX6_copy_117 (lv_at hl 6 rfl) ?_
                    refine lv_iload hx hb dX6_copy_119 (lv_at hl 7 rfl) ?_
                    obtain ⟨g121, h121, hF⟩ := bd hF
                    refine wC (ws' := pC cI cS a0 (sr t0 21 g121)) hx hb (hml.trans hl.1.symm) hown (hts _ (List.mem_cons_of_mem _ ml_RX6_226)) (hts _ (List.mem_cons_of_mem _ jk_cpy.1)) (hts _ (List.mem_cons_of_mem _ jk_cpy.2.1)) (hts _ (List.mem_cons_of_mem _ jk_cpy.2.2)) hK.1 hP hD hS 27 21 0 (at_C_27 cI cS _ _) (at_C_21 cI cS _ _) rfl h121 (sx_C_21 cI cS _ _ _) (Nat.le_of_ble_eq_true rfl) (Nat.le_of_ble_eq_true rfl) dX6_copy_121 (fun H locs hP hD hS => ?_)
                    refine lv_aload_n hx hb dX6_copy_124 rfl (lv_at hl 2 rfl) ?_
                    refine lv_iload hx hb dX6_copy_125 (lv_at hl 7 rfl) ?_
                    obtain ⟨v127, u127, h127, hF⟩ := bd2 hF
                    refine cAe (ws' := pC cI cS a0 u127) (va_runV (As := [.int x5]) (rest := []) ⟨hx, hb, hml, hown, hts⟩ (c_X6_withoutFault l D cI cS a0 (sr t0 21 g121) x5 v127 u127 h127) (cwVA hts (TW.cons _) lv_X6_withoutFault ml_RX6_53 ⟨rfl, rfl⟩ ⟨(Nat.le_of_ble_eq_true rfl), (Nat.le_of_ble_eq_true rfl)⟩) (pWV hK hP hD (ci := 5) rfl rfl) rfl rfl hl.1 rfl (lv_room (Nat.le_of_ble_eq_true rfl)) dX6_copy_127 ⟨Nat.le_refl _, Nat.le_refl _⟩) hD hS (ad_C cI cS _ _ _) (fun H locs hP hD hS => ?_)
                    exact W.iret hx hb hr (fun t ht hW => ⟨⟨_, (), rfl, (Prod.mk.inj (Option.some.inj hF)).1, by show va_P _ _ _ t.heap; rw [ht, ← (Prod.mk.inj (Option.some.inj hF)).2]; exact hP⟩, hS.F ht⟩) hS.2.2 dX6_copy_130
                  · replace hF := ip c97 hF
                    refine lv_aload_n hx hb dX6_copy_100 rfl (lv_at hl 2 rfl) ?_
                    refine lv_iconst (v := 3) hx hb dX6_copy_101 (by decide) ?_
                    obtain ⟨v102, u102, h102, hF⟩ := bd2 hF
                    refine cAe (ws' := pC cI cS a0 u102) (va_runV (As := [.int 3]) (rest := []) ⟨hx, hb, hml, hown, hts⟩ (c_X6_withFault l D cI cS a0 t0 3 v102 u102 h102) (cwVA hts (TW.cons _) lv_X6_withFault ml_RX6_64 ⟨rfl, rfl⟩ ⟨(Nat.le_of_ble_eq_true rfl), (Nat.le_of_ble_eq_true rfl)⟩) (pWV hK hP hD (ci := 5) rfl rfl) rfl rfl hl.1 rfl (lv_room (Nat.le_of_ble_eq_true rfl)) dX6_copy_102 ⟨Nat.le_refl _, Nat.le_refl _⟩) hD hS (ad_C cI cS _ _ _) (fun H locs hP hD hS => ?_)
                    exact W.iret hx hb hr (fun t ht hW => ⟨⟨_, (), rfl, (Prod.mk.inj (Option.some.inj hF)).1, by show va_P _ _ _ t.heap; rw [ht, ← (Prod.mk.inj (Option.some.inj hF)).2]; exact hP⟩, hS.F ht⟩) hS.2.2 dX6_copy_105
              · replace hF := iq c68 hF
                refine lv_aload_n hx hb dX6_copy_71 rfl (lv_at hl 2 rfl) ?_
                refine lv_iconst (v := 2) hx hb dX6_copy_72 (by decide) ?_
                obtain ⟨v73, u73, h73, hF⟩ := bd2 hF
                refine cAe (ws' := pC cI cS a0 u73) (va_runV (As := [.int 2]) (rest := []) ⟨hx, hb, hml, hown, hts⟩ (c_X6_withFault l D cI cS a0 t0 2 v73 u73 h73) (cwVA hts (TW.cons _) lv_X6_withFault ml_RX6_64 ⟨rfl, rfl⟩ ⟨(Nat.le_of_ble_eq_true rfl), (Nat.le_of_ble_eq_true rfl)⟩) (pWV hK hP hD (ci := 5) rfl rfl) rfl rfl hl.1 rfl (lv_room (Nat.le_of_ble_eq_true rfl)) dX6_copy_73 ⟨Nat.le_refl _, Nat.le_refl _⟩) hD hS (ad_C cI cS _ _ _) (fun H locs hP hD hS => ?_)
                exact W.iret hx hb hr (fun t ht hW => ⟨⟨_, (), rfl, (Prod.mk.inj (Option.some.inj hF)).1, by show va_P _ _ _ t.heap; rw [ht, ← (Prod.mk.inj (Option.some.inj hF)).2]; exact hP⟩, hS.F ht⟩) hS.2.2 dX6_copy_76
            · replace hF := ip c49 hF
              refine lv_aload_n hx hb dX6_copy_52 rfl (lv_at hl 2 rfl) ?_
              refine lv_iconst (v := 1) hx hb dX6_copy_53 (by decide) ?_
              obtain ⟨v54, u54, h54, hF⟩ := bd2 hF
              refine cAe (ws' := pC cI cS a0 u54) (va_runV (As := [.int 1]) (rest := []) ⟨hx, hb, hml, hown, hts⟩ (c_X6_withFault l D cI cS a0 t0 1 v54 u54 h54) (cwVA hts (TW.cons _) lv_X6_withFault ml_RX6_64 ⟨rfl, rfl⟩ ⟨(Nat.le_of_ble_eq_true rfl), (Nat.le_of_ble_eq_true rfl)⟩) (pWV hK hP hD (ci := 5) rfl rfl) rfl rfl hl.1 rfl (lv_room (Nat.le_of_ble_eq_true rfl)) dX6_copy_54 ⟨Nat.le_refl _, Nat.le_refl _⟩) hD hS (ad_C cI cS _ _ _) (fun H locs hP hD hS => ?_)
              exact W.iret hx hb hr (fun t ht hW => ⟨⟨_, (), rfl, (Prod.mk.inj (Option.some.inj hF)).1, by show va_P _ _ _ t.heap; rw [ht, ← (Prod.mk.inj (Option.some.inj hF)).2]; exact hP⟩, hS.F ht⟩) hS.2.2 dX6_copy_57
        · refine rR (b := a0 22) hx hb hK.1 hP 28 1 (at_C_28 cI cS _ _) rfl h33 rfl dX6_copy_33 ?_
          refine lv_astore (lv' := [(7, .ref (a0 22)), (6, .ref (a0 26)), (0, .ref (a0 0)), (1, .int x1), (2, .int x2), (3, .int x3), (4, .int x4), (5, .int x5)]) hx hb dX6_copy_34 hl (by decide) rfl (fun ls hl => ?_)
          refine lv_aload hx hb dX6_copy_36 (lv_at hl 1 rfl) ?_
          refine va_getN (D := D) (ci := 3) (v := .int (t0 26 0)) (C := RX3) (T := TX3) (N := 4) hx hb hts (fun w h => List.mem_cons_of_mem _ (inAX3 w h)) hown hK.1 hP 26 (at_C_26 cI cS _ _) rfl 0 (by decide) (nu_RX6_206 hK) (fun _ h9 => h9) rfl dX6_copy_38 ?_
          refine lv_if_eq (tgt := 52) hx hb dX6_copy_41 (by decide) (fun c41 => ?_) (fun c41 => ?_)
          · replace hF := ip c41 hF
            refine lv_aload_n hx hb dX6_copy_52 rfl (lv_at hl 2 rfl) ?_
            refine lv_iconst (v := 1) hx hb dX6_copy_53 (by decide) ?_
            obtain ⟨v54, u54, h54, hF⟩ := bd2 hF
            refine cAe (ws' := pC cI cS a0 u54) (va_runV (As := [.int 1]) (rest := []) ⟨hx, hb, hml, hown, hts⟩ (c_X6_withFault l D cI cS a0 t0 1 v54 u54 h54) (cwVA hts (TW.cons _) lv_X6_withFault ml_RX6_64 ⟨rfl, rfl⟩ ⟨(Nat.le_of_ble_eq_true rfl), (Nat.le_of_ble_eq_true rfl)⟩) (pWV hK hP hD (ci := 5) rfl rfl) rfl rfl hl.1 rfl (lv_room (Nat.le_of_ble_eq_true rfl)) dX6_copy_54 ⟨Nat.le_refl _, Nat.le_refl _⟩) hD hS (ad_C cI cS _ _ _) (fun H locs hP hD hS => ?_)
            exact W.iret hx hb hr (fun t ht hW => ⟨⟨_, (), rfl, (Prod.mk.inj (Option.some.inj hF)).1, by show va_P _ _ _ t.heap; rw [ht, ← (Prod.mk.inj (Option.some.inj hF)).2]; exact hP⟩, hS.F ht⟩) hS.2.2 dX6_copy_57
          · replace hF := iq c41 hF
            refine lv_aload hx hb dX6_copy_44 (lv_at hl 0 rfl) ?_
            refine va_getN (D := D) (ci := 3) (v := .int (t0 22 0)) (C := RX3) (T := TX3) (N := 4) hx hb hts (fun w h => List.mem_cons_of_mem _ (inAX3 w h)) hown hK.1 hP 22 (at_C_22 cI cS _ _) rfl 0 (by decide) (nu_RX6_206 hK) (fun _ h9 => h9) rfl dX6_copy_46 ?_
            refine lv_if_ne (tgt := 58) hx hb dX6_copy_49 (by decide) (fun c49 => ?_) (fun c49 => ?_)
            · replace hF := iq c49 hF
              refine lv_aload hx hb dX6_copy_58 (lv_at hl 1 rfl) ?_
              refine va_getN (D := D) (ci := 3) (v := .int (t0 26 1)) (C := RX3) (T := TX3) (N := 4) hx hb hts (fun w h => List.mem_cons_of_mem _ (inAX3 w h)) hown hK.1 hP 26 (at_C_26 cI cS _ _) rfl 1 (by decide) (nu_RX6_220 hK) (fun _ h9 => h9) rfl dX6_copy_60 ?_
              refine lv_aload hx hb dX6_copy_63 (lv_at hl 0 rfl) ?_
              refine va_getN (D := D) (ci := 3) (v := .int (t0 22 1)) (C := RX3) (T := TX3) (N := 4) hx hb hts (fun w h => List.mem_cons_of_mem _ (inAX3 w h)) hown hK.1 hP 22 (at_C_22 cI cS _ _) rfl 1 (by decide) (nu_RX6_220 hK) (fun _ h9 => h9) rfl dX6_copy_65 ?_
              refine lv_icmp_eq (tgt := 77) hx hb dX6_copy_68 (by decide) (fun c68 => ?_) (fun c68 => ?_)
              · replace hF := ip c68 hF
                refine lv_aload hx hb dX6_copy_77 (lv_at hl 1 rfl) ?_
                refine lv_iload_n hx hb dX6_copy_79 rfl (lv_at hl 4 rfl) ?_
                refine lv_iload hx hb dX6_copy_80 (lv_at hl 7 rfl) ?_
                obtain ⟨v82, h82, hF⟩ := bd hF
                refine cRb (va_runV (As := [.int x2, .int x5]) (rest := []) ⟨hx, hb, hml, hown, hts⟩ (c_X3_reaches l D cI cS (sa a0 26) (sb t0 26) x2 x5 v82 h82) (cwVA hts (TW.cons _) lv_X3_reaches ml_RX6_210 ⟨rfl, rfl⟩ ⟨(Nat.le_of_ble_eq_true rfl), (Nat.le_of_ble_eq_true rfl)⟩) (pRV hK (hP.sub [26, 27] (su_C_S26 cI cS _ _)) (ci := 3) rfl rfl) rfl rfl hl.1 rfl (lv_room (Nat.le_of_ble_eq_true rfl)) dX6_copy_82 ⟨Nat.le_refl _, Nat.le_refl _⟩) (fun b82 => ?_)
                refine lv_if_eq (tgt := 100) hx hb dX6_copy_85 (by decide) (fun c85 => ?_) (fun c85 => ?_)
                · replace hF := ip c85 hF
                  refine lv_aload_n hx hb dX6_copy_100 rfl (lv_at hl 2 rfl) ?_
                  refine lv_iconst (v := 3) hx hb dX6_copy_101 (by decide) ?_
                  obtain ⟨v102, u102, h102, hF⟩ := bd2 hF
                  refine cAe (ws' := pC cI cS a0 u102) (va_runV (As := [.int 3]) (rest := []) ⟨hx, hb, hml, hown, hts⟩ (c_X6_withFault l D cI cS a0 t0 3 v102 u102 h102) (cwVA hts (TW.cons _) lv_X6_withFault ml_RX6_64 ⟨rfl, rfl⟩ ⟨(Nat.le_of_ble_eq_true rfl), (Nat.le_of_ble_eq_true rfl)⟩) (pWV hK hP hD (ci := 5) rfl rfl) rfl rfl hl.1 rfl (lv_room (Nat.le_of_ble_eq_true rfl)) dX6_copy_102 ⟨Nat.le_refl _, Nat.le_refl _⟩) hD hS (ad_C cI cS _ _ _) (fun H locs hP hD hS => ?_)
                  exact W.iret hx hb hr (fun t ht hW => ⟨⟨_, (), rfl, (Prod.mk.inj (Option.some.inj hF)).1, by show va_P _ _ _ t.heap; rw [ht, ← (Prod.mk.inj (Option.some.inj hF)).2]; exact hP⟩, hS.F ht⟩) hS.2.2 dX6_copy_105
                · replace hF := iq c85 hF
                  refine lv_aload hx hb dX6_copy_88 (lv_at hl 0 rfl) ?_
                  refine lv_iload hx hb dX6_copy_90 (lv_at hl 6 rfl) ?_
                  refine lv_iload hx hb dX6_copy_92 (lv_at hl 7 rfl) ?_
                  obtain ⟨v94, h94, hF⟩ := bd hF
                  refine cRb (va_runV (As := [.int x4, .int x5]) (rest := []) ⟨hx, hb, hml, hown, hts⟩ (c_X3_reaches l D cI cS (sa a0 22) (sb t0 22) x4 x5 v94 h94) (cwVA hts (TW.cons _) lv_X3_reaches ml_RX6_210 ⟨rfl, rfl⟩ ⟨(Nat.le_of_ble_eq_true rfl), (Nat.le_of_ble_eq_true rfl)⟩) (pRV hK (hP.sub [22, 23] (su_C_S22 cI cS _ _)) (ci := 3) rfl rfl) rfl rfl hl.1 rfl (lv_room (Nat.le_of_ble_eq_true rfl)) dX6_copy_94 ⟨Nat.le_refl _, Nat.le_refl _⟩) (fun b94 => ?_)
                  refine lv_if_ne (tgt := 106) hx hb dX6_copy_97 (by decide) (fun c97 => ?_) (fun c97 => ?_)
                  · replace hF := iq c97 hF
                    refine lv_aload hx hb dX6_copy_106 (lv_at hl 1 rfl) ?_
                    refine va_getN (D := D) (ci := 3) (v := .ref (a0 27)) (C := RX3) (T := TX3) (N := 4) hx hb hts (fun w h => List.mem_cons_of_mem _ (inAX3 w h)) hown hK.1 hP 26 (at_C_26 cI cS _ _) rfl 3 (by decide) (nu_RX6_223 hK) (fun _ h9 => h9) rfl dX6_copy_108 ?_
                    refine lv_iload_n hx hb dX6_copy_111 rfl (lv_at hl 4 rfl) ?_
                    refine lv_aload hx hb dX6_copy_112 (lv_at hl 0 rfl) ?_
                    refine va_getN (D := D) (ci := 3) (v := .ref (a0 23)) (C := RX3) (T := TX3) (N := 4) hx hb hts (fun w h => List.mem_cons_of_mem _ (inAX3 w h)) hown hK.1 hP 22 (at_C_22 cI cS _ _) rfl 3 (by decide) (nu_RX6_223 hK) (fun _ h9 => h9) rfl dX6_copy_114 ?_
                    refine lv_iload hx hb dX6_copy_117 (lv_at hl 6 rfl) ?_
                    refine lv_iload hx hb dX6_copy_119 (lv_at hl 7 rfl) ?_
                    obtain ⟨g121, h121, hF⟩ := bd hF
                    refine wC (ws' := pC cI cS a0 (sr t0 23 g121)) hx hb (hml.trans hl.1.symm) hown (hts _ (List.mem_cons_of_mem _ ml_RX6_226)) (hts _ (List.mem_cons_of_mem _ jk_cpy.1)) (hts _ (List.mem_cons_of_mem _ jk_cpy.2.1)) (hts _ (List.mem_cons_of_mem _ jk_cpy.2.2)) hK.1 hP hD hS 27 23 0 (at_C_27 cI cS _ _) (at_C_23 cI cS _ _) rfl h121 (sx_C_23 cI cS _ _ _) (Nat.le_of_ble_eq_true rfl) (Nat.le_of_ble_eq_true rfl) dX6_copy_121 (fun H locs hP hD hS => ?_)
                    refine lv_aload_n hx hb dX6_copy_124 rfl (lv_at hl 2 rfl) ?_
                    refine lv_iload hx hb dX6_copy_125 (lv_at hl 7 rfl) ?_
                    obtain ⟨v127, u127, h127, hF⟩ := bd2 hF
                    refine cAe (ws' := pC cI cS a0 u127) (va_runV (As := [.int x5]) (rest := []) ⟨hx, hb, hml, hown, hts⟩ (c_X6_withoutFault l D cI cS a0 (sr t0 23 g121) x5 v127 u127 h127) (cwVA hts (TW.cons _) lv_X6_withoutFault ml_RX6_53 ⟨rfl, rfl⟩ ⟨(Nat.le_of_ble_eq_true rfl), (Nat.le_of_ble_eq_true rfl)⟩) (pWV hK hP hD (ci := 5) rfl rfl) rfl rfl hl.1 rfl (lv_room (Nat.le_of_ble_eq_true rfl)) dX6_copy_127 ⟨Nat.le_refl _, Nat.le_refl _⟩) hD hS (ad_C cI cS _ _ _) (fun H locs hP hD hS => ?_)
                    exact W.iret hx hb hr (fun t ht hW => ⟨⟨_, (), rfl, (Prod.mk.inj (Option.some.inj hF)).1, by show va_P _ _ _ t.heap; rw [ht, ← (Prod.mk.inj (Option.some.inj hF)).2]; exact hP⟩, hS.F ht⟩) hS.2.2 dX6_copy_130
                  · replace hF := ip c97 hF
                    refine lv_aload_n hx hb dX6_copy_100 rfl (lv_at hl 2 rfl) ?_
                    refine lv_iconst (v := 3) hx hb dX6_copy_101 (by decide) ?_
                    obtain ⟨v102, u102, h102, hF⟩ := bd2 hF
                    refine cAe (ws' := pC cI cS a0 u102) (va_runV (As := [.int 3]) (rest := []) ⟨hx, hb, hml, hown, hts⟩ (c_X6_withFault l D cI cS a0 t0 3 v102 u102 h102) (cwVA hts (TW.cons _) lv_X6_withFault ml_RX6_64 ⟨rfl, rfl⟩ ⟨(Nat.le_of_ble_eq_true rfl), (Nat.le_of_ble_eq_true rfl)⟩) (pWV hK hP hD (ci := 5) rfl rfl) rfl rfl hl.1 rfl (lv_room (Nat.le_of_ble_eq_true rfl)) dX6_copy_102 ⟨Nat.le_refl _, Nat.le_refl _⟩) hD hS (ad_C cI cS _ _ _) (fun H locs hP hD hS => ?_)
                    exact W.iret hx hb hr (fun t ht hW => ⟨⟨_, (), rfl, (Prod.mk.inj (Option.some.inj hF)).1, by show va_P _ _ _ t.heap; rw [ht, ← (Prod.mk.inj (Option.some.inj hF)).2]; exact hP⟩, hS.F ht⟩) hS.2.2 dX6_copy_105
              · replace hF := iq c68 hF
                refine lv_aload_n hx hb dX6_copy_71 rfl (lv_at hl 2 rfl) ?_
                refine lv_iconst (v := 2) hx hb dX6_copy_72 (by decide) ?_
                obtain ⟨v73, u73, h73, hF⟩ := bd2 hF
                refine cAe (ws' := pC cI cS a0 u73) (va_runV (As := [.int 2]) (rest := []) ⟨hx, hb, hml, hown, hts⟩ (c_X6_withFault l D cI cS a0 t0 2 v73 u73 h73) (cwVA hts (TW.cons _) lv_X6_withFault ml_RX6_64 ⟨rfl, rfl⟩ ⟨(Nat.le_of_ble_eq_true rfl), (Nat.le_of_ble_eq_true rfl)⟩) (pWV hK hP hD (ci := 5) rfl rfl) rfl rfl hl.1 rfl (lv_room (Nat.le_of_ble_eq_true rfl)) dX6_copy_73 ⟨Nat.le_refl _, Nat.le_refl _⟩) hD hS (ad_C cI cS _ _ _) (fun H locs hP hD hS => ?_)
                exact W.iret hx hb hr (fun t ht hW => ⟨⟨_, (), rfl, (Prod.mk.inj (Option.some.inj hF)).1, by show va_P _ _ _ t.heap; rw [ht, ← (Prod.mk.inj (Option.some.inj hF)).2]; exact hP⟩, hS.F ht⟩) hS.2.2 dX6_copy_76
            · replace hF := ip c49 hF
              refine lv_aload_n hx hb dX6_copy_52 rfl (lv_at hl 2 rfl) ?_
              refine lv_iconst (v := 1) hx hb dX6_copy_53 (by decide) ?_
              obtain ⟨v54, u54, h54, hF⟩ := bd2 hF
              refine cAe (ws' := pC cI cS a0 u54) (va_runV (As := [.int 1]) (rest := []) ⟨hx, hb, hml, hown, hts⟩ (c_X6_withFault l D cI cS a0 t0 1 v54 u54 h54) (cwVA hts (TW.cons _) lv_X6_withFault ml_RX6_64 ⟨rfl, rfl⟩ ⟨(Nat.le_of_ble_eq_true rfl), (Nat.le_of_ble_eq_true rfl)⟩) (pWV hK hP hD (ci := 5) rfl rfl) rfl rfl hl.1 rfl (lv_room (Nat.le_of_ble_eq_true rfl)) dX6_copy_54 ⟨Nat.le_refl _, Nat.le_refl _⟩) hD hS (ad_C cI cS _ _ _) (fun H locs hP hD hS => ?_)
              exact W.iret hx hb hr (fun t ht hW => ⟨⟨_, (), rfl, (Prod.mk.inj (Option.some.inj hF)).1, by show va_P _ _ _ t.heap; rw [ht, ← (Prod.mk.inj (Option.some.inj hF)).2]; exact hP⟩, hS.F ht⟩) hS.2.2 dX6_copy_57
        · refine rR (b := a0 24) hx hb hK.1 hP 28 1 (at_C_28 cI cS _ _) rfl h33 rfl dX6_copy_33 ?_
          refine lv_astore (lv' := [(7, .ref (a0 24)), (6, .ref (a0 26)), (0, .ref (a0 0)), (1, .int x1), (2, .int x2), (3, .int x3), (4, .int x4), (5, .int x5)]) hx hb dX6_copy_34 hl (by decide) rfl (fun ls hl => ?_)
          refine lv_aload hx hb dX6_copy_36 (lv_at hl 1 rfl) ?_
          refine va_getN (D := D) (ci := 3) (v := .int (t0 26 0)) (C := RX3) (T := TX3) (N := 4) hx hb hts (fun w h => List.mem_cons_of_mem _ (inAX3 w h)) hown hK.1 hP 26 (at_C_26 cI cS _ _) rfl 0 (by decide) (nu_RX6_206 hK) (fun _ h9 => h9) rfl dX6_copy_38 ?_
          refine lv_if_eq (tgt := 52) hx hb dX6_copy_41 (by decide) (fun c41 => ?_) (fun c41 => ?_)
          · replace hF := ip c41 hF
            refine lv_aload_n hx hb dX6_copy_52 rfl (lv_at hl 2 rfl) ?_
            refine lv_iconst (v := 1) hx hb dX6_copy_53 (by decide) ?_
            obtain ⟨v54, u54, h54, hF⟩ := bd2 hF
            refine cAe (ws' := pC cI cS a0 u54) (va_runV (As := [.int 1]) (rest := []) ⟨hx, hb, hml, hown, hts⟩ (c_X6_withFault l D cI cS a0 t0 1 v54 u54 h54) (cwVA hts (TW.cons _) lv_X6_withFault ml_RX6_64 ⟨rfl, rfl⟩ ⟨(Nat.le_of_ble_eq_true rfl), (Nat.le_of_ble_eq_true rfl)⟩) (pWV hK hP hD (ci := 5) rfl rfl) rfl rfl hl.1 rfl (lv_room (Nat.le_of_ble_eq_true rfl)) dX6_copy_54 ⟨Nat.le_refl _, Nat.le_refl _⟩) hD hS (ad_C cI cS _ _ _) (fun H locs hP hD hS => ?_)
            exact W.iret hx hb hr (fun t ht hW => ⟨⟨_, (), rfl, (Prod.mk.inj (Option.some.inj hF)).1, by show va_P _ _ _ t.heap; rw [ht, ← (Prod.mk.inj (Option.some.inj hF)).2]; exact hP⟩, hS.F ht⟩) hS.2.2 dX6_copy_57
          · replace hF := iq c41 hF
            refine lv_aload hx hb dX6_copy_44 (lv_at hl 0 rfl) ?_
            refine va_getN (D := D) (ci := 3) (v := .int (t0 24 0)) (C := RX3) (T := TX3) (N := 4) hx hb hts (fun w h => List.mem_cons_of_mem _ (inAX3 w h)) hown hK.1 hP 24 (at_C_24 cI cS _ _) rfl 0 (by decide) (nu_RX6_206 hK) (fun _ h9 => h9) rfl dX6_copy_46 ?_
            refine lv_if_ne (tgt := 58) hx hb dX6_copy_49 (by decide) (fun c49 => ?_) (fun c49 => ?_)
            · replace hF := iq c49 hF
              refine lv_aload hx hb dX6_copy_58 (lv_at hl 1 rfl) ?_
              refine va_getN (D := D) (ci := 3) (v := .int (t0 26 1)) (C := RX3) (T := TX3) (N := 4) hx hb hts (fun w h => List.mem_cons_of_mem _ (inAX3 w h)) hown hK.1 hP 26 (at_C_26 cI cS _ _) rfl 1 (by decide) (nu_RX6_220 hK) (fun _ h9 => h9) rfl dX6_copy_60 ?_
              refine lv_aload hx hb dX6_copy_63 (lv_at hl 0 rfl) ?_
              refine va_getN (D := D) (ci := 3) (v := .int (t0 24 1)) (C := RX3) (T := TX3) (N := 4) hx hb hts (fun w h => List.mem_cons_of_mem _ (inAX3 w h)) hown hK.1 hP 24 (at_C_24 cI cS _ _) rfl 1 (by decide) (nu_RX6_220 hK) (fun _ h9 => h9) rfl dX6_copy_65 ?_
              refine lv_icmp_eq (tgt := 77) hx hb dX6_copy_68 (by decide) (fun c68 => ?_) (fun c68 => ?_)
              · replace hF := ip c68 hF
                refine lv_aload hx hb dX6_copy_77 (lv_at hl 1 rfl) ?_
                refine lv_iload_n hx hb dX6_copy_79 rfl (lv_at hl 4 rfl) ?_
                refine lv_iload hx hb dX6_copy_80 (lv_at hl 7 rfl) ?_
                obtain ⟨v82, h82, hF⟩ := bd hF
                refine cRb (va_runV (As := [.int x2, .int x5]) (rest := []) ⟨hx, hb, hml, hown, hts⟩ (c_X3_reaches l D cI cS (sa a0 26) (sb t0 26) x2 x5 v82 h82) (cwVA hts (TW.cons _) lv_X3_reaches ml_RX6_210 ⟨rfl, rfl⟩ ⟨(Nat.le_of_ble_eq_true rfl), (Nat.le_of_ble_eq_true rfl)⟩) (pRV hK (hP.sub [26, 27] (su_C_S26 cI cS _ _)) (ci := 3) rfl rfl) rfl rfl hl.1 rfl (lv_room (Nat.le_of_ble_eq_true rfl)) dX6_copy_82 ⟨Nat.le_refl _, Nat.le_refl _⟩) (fun b82 => ?_)
                refine lv_if_eq (tgt := 100) hx hb dX6_copy_85 (by decide) (fun c85 => ?_) (fun c85 => ?_)
                · replace hF := ip c85 hF
                  refine lv_aload_n hx hb dX6_copy_100 rfl (lv_at hl 2 rfl) ?_
                  refine lv_iconst (v := 3) hx hb dX6_copy_101 (by decide) ?_
                  obtain ⟨v102, u102, h102, hF⟩ := bd2 hF
                  refine cAe (ws' := pC cI cS a0 u102) (va_runV (As := [.int 3]) (rest := []) ⟨hx, hb, hml, hown, hts⟩ (c_X6_withFault l D cI cS a0 t0 3 v102 u102 h102) (cwVA hts (TW.cons _) lv_X6_withFault ml_RX6_64 ⟨rfl, rfl⟩ ⟨(Nat.le_of_ble_eq_true rfl), (Nat.le_of_ble_eq_true rfl)⟩) (pWV hK hP hD (ci := 5) rfl rfl) rfl rfl hl.1 rfl (lv_room (Nat.le_of_ble_eq_true rfl)) dX6_copy_102 ⟨Nat.le_refl _, Nat.le_refl _⟩) hD hS (ad_C cI cS _ _ _) (fun H locs hP hD hS => ?_)
                  exact W.iret hx hb hr (fun t ht hW => ⟨⟨_, (), rfl, (Prod.mk.inj (Option.some.inj hF)).1, by show va_P _ _ _ t.heap; rw [ht, ← (Prod.mk.inj (Option.some.inj hF)).2]; exact hP⟩, hS.F ht⟩) hS.2.2 dX6_copy_105
                · replace hF := iq c85 hF
                  refine lv_aload hx hb dX6_copy_88 (lv_at hl 0 rfl) ?_
                  refine lv_iload hx hb dX6_copy_90 (lv_at hl 6 rfl) ?_
                  refine lv_iload hx hb dX6_copy_92 (lv_at hl 7 rfl) ?_
                  obtain ⟨v94, h94, hF⟩ := bd hF
                  refine cRb (va_runV (As := [.int x4, .int x5]) (rest := []) ⟨hx, hb, hml, hown, hts⟩ (c_X3_reaches l D cI cS (sa a0 24) (sb t0 24) x4 x5 v94 h94) (cwVA hts (TW.cons _) lv_X3_reaches ml_RX6_210 ⟨rfl, rfl⟩ ⟨(Nat.le_of_ble_eq_true rfl), (Nat.le_of_ble_eq_true rfl)⟩) (pRV hK (hP.sub [24, 25] (su_C_S24 cI cS _ _)) (ci := 3) rfl rfl) rfl rfl hl.1 rfl (lv_room (Nat.le_of_ble_eq_true rfl)) dX6_copy_94 ⟨Nat.le_refl _, Nat.le_refl _⟩) (fun b94 => ?_)
                  refine lv_if_ne (tgt := 106) hx hb dX6_copy_97 (by decide) (fun c97 => ?_) (fun c97 => ?_)
                  · replace hF := iq c97 hF
                    refine lv_aload hx hb dX6_copy_106 (lv_at hl 1 rfl) ?_
                    refine va_getN (D := D) (ci := 3) (v := .ref (a0 27)) (C := RX3) (T := TX3) (N := 4) hx hb hts (fun w h => List.mem_cons_of_mem _ (inAX3 w h)) hown hK.1 hP 26 (at_C_26 cI cS _ _) rfl 3 (by decide) (nu_RX6_223 hK) (fun _ h9 => h9) rfl dX6_copy_108 ?_
                    refine lv_iload_n hx hb dX6_copy_111 rfl (lv_at hl 4 rfl) ?_
                    refine lv_aload hx hb dX6_copy_112 (lv_at hl 0 rfl) ?_
                    refine va_getN (D := D) (ci := 3) (v := .ref (a0 25)) (C := RX3) (T := TX3) (N := 4) hx hb hts (fun w h => List.mem_cons_of_mem _ (inAX3 w h)) hown hK.1 hP 24 (at_C_24 cI cS _ _) rfl 3 (by decide) (nu_RX6_223 hK) (fun _ h9 => h9) rfl dX6_copy_114 ?_
                    refine lv_iload hx hb dX6_copy_117 (lv_at hl 6 rfl) ?_
                    refine lv_iload hx hb dX6_copy_119 (lv_at hl 7 rfl) ?_
                    obtain ⟨g121, h121, hF⟩ := bd hF
                    refine wC (ws' := pC cI cS a0 (sr t0 25 g121)) hx hb (hml.trans hl.1.symm) hown (hts _ (List.mem_cons_of_mem _ ml_RX6_226)) (hts _ (List.mem_cons_of_mem _ jk_cpy.1)) (hts _ (List.mem_cons_of_mem _ jk_cpy.2.1)) (hts _ (List.mem_cons_of_mem _ jk_cpy.2.2)) hK.1 hP hD hS 27 25 0 (at_C_27 cI cS _ _) (at_C_25 cI cS _ _) rfl h121 (sx_C_25 cI cS _ _ _) (Nat.le_of_ble_eq_true rfl) (Nat.le_of_ble_eq_true rfl) dX6_copy_121 (fun H locs hP hD hS => ?_)
                    refine lv_aload_n hx hb dX6_copy_124 rfl (lv_at hl 2 rfl) ?_
                    refine lv_iload hx hb dX6_copy_125 (lv_at hl 7 rfl) ?_
                    obtain ⟨v127, u127, h127, hF⟩ := bd2 hF
                    refine cAe (ws' := pC cI cS a0 u127) (va_runV (As := [.int x5]) (rest := []) ⟨hx, hb, hml, hown, hts⟩ (c_X6_withoutFault l D cI cS a0 (sr t0 25 g121) x5 v127 u127 h127) (cwVA hts (TW.cons _) lv_X6_withoutFault ml_RX6_53 ⟨rfl, rfl⟩ ⟨(Nat.le_of_ble_eq_true rfl), (Nat.le_of_ble_eq_true rfl)⟩) (pWV hK hP hD (ci := 5) rfl rfl) rfl rfl hl.1 rfl (lv_room (Nat.le_of_ble_eq_true rfl)) dX6_copy_127 ⟨Nat.le_refl _, Nat.le_refl _⟩) hD hS (ad_C cI cS _ _ _) (fun H locs hP hD hS => ?_)
                    exact W.iret hx hb hr (fun t ht hW => ⟨⟨_, (), rfl, (Prod.mk.inj (Option.some.inj hF)).1, by show va_P _ _ _ t.heap; rw [ht, ← (Prod.mk.inj (Option.some.inj hF)).2]; exact hP⟩, hS.F ht⟩) hS.2.2 dX6_copy_130
                  · replace hF := ip c97 hF
                    refine lv_aload_n hx hb dX6_copy_100 rfl (lv_at hl 2 rfl) ?_
                    refine lv_iconst (v := 3) hx hb dX6_copy_101 (by decide) ?_
                    obtain ⟨v102, u102, h102, hF⟩ := bd2 hF
                    refine cAe (ws' := pC cI cS a0 u102) (va_runV (As := [.int 3]) (rest := []) ⟨hx, hb, hml, hown, hts⟩ (c_X6_withFault l D cI cS a0 t0 3 v102 u102 h102) (cwVA hts (TW.cons _) lv_X6_withFault ml_RX6_64 ⟨rfl, rfl⟩ ⟨(Nat.le_of_ble_eq_true rfl), (Nat.le_of_ble_eq_true rfl)⟩) (pWV hK hP hD (ci := 5) rfl rfl) rfl rfl hl.1 rfl (lv_room (Nat.le_of_ble_eq_true rfl)) dX6_copy_102 ⟨Nat.le_refl _, Nat.le_refl _⟩) hD hS (ad_C cI cS _ _ _) (fun H locs hP hD hS => ?_)
                    exact W.iret hx hb hr (fun t ht hW => ⟨⟨_, (), rfl, (Prod.mk.inj (Option.some.inj hF)).1, by show va_P _ _ _ t.heap; rw [ht, ← (Prod.mk.inj (Option.some.inj hF)).2]; exact hP⟩, hS.F ht⟩) hS.2.2 dX6_copy_105
              · replace hF := iq c68 hF
                refine lv_aload_n hx hb dX6_copy_71 rfl (lv_at hl 2 rfl) ?_
                refine lv_iconst (v := 2) hx hb dX6_copy_72 (by decide) ?_
                obtain ⟨v73, u73, h73, hF⟩ := bd2 hF
                refine cAe (ws' := pC cI cS a0 u73) (va_runV (As := [.int 2]) (rest := []) ⟨hx, hb, hml, hown, hts⟩ (c_X6_withFault l D cI cS a0 t0 2 v73 u73 h73) (cwVA hts (TW.cons _) lv_X6_withFault ml_RX6_64 ⟨rfl, rfl⟩ ⟨(Nat.le_of_ble_eq_true rfl), (Nat.le_of_ble_eq_true rfl)⟩) (pWV hK hP hD (ci := 5) rfl rfl) rfl rfl hl.1 rfl (lv_room (Nat.le_of_ble_eq_true rfl)) dX6_copy_73 ⟨Nat.le_refl _, Nat.le_refl _⟩) hD hS (ad_C cI cS _ _ _) (fun H locs hP hD hS => ?_)
                exact W.iret hx hb hr (fun t ht hW => ⟨⟨_, (), rfl, (Prod.mk.inj (Option.some.inj hF)).1, by show va_P _ _ _ t.heap; rw [ht, ← (Prod.mk.inj (Option.some.inj hF)).2]; exact hP⟩, hS.F ht⟩) hS.2.2 dX6_copy_76
            · replace hF := ip c49 hF
              refine lv_aload_n hx hb dX6_copy_52 rfl (lv_at hl 2 rfl) ?_
              refine lv_iconst (v := 1) hx hb dX6_copy_53 (by decide) ?_
              obtain ⟨v54, u54, h54, hF⟩ := bd2 hF
              refine cAe (ws' := pC cI cS a0 u54) (va_runV (As := [.int 1]) (rest := []) ⟨hx, hb, hml, hown, hts⟩ (c_X6_withFault l D cI cS a0 t0 1 v54 u54 h54) (cwVA hts (TW.cons _) lv_X6_withFault ml_RX6_64 ⟨rfl, rfl⟩ ⟨(Nat.le_of_ble_eq_true rfl), (Nat.le_of_ble_eq_true rfl)⟩) (pWV hK hP hD (ci := 5) rfl rfl) rfl rfl hl.1 rfl (lv_room (Nat.le_of_ble_eq_true rfl)) dX6_copy_54 ⟨Nat.le_refl _, Nat.le_refl _⟩) hD hS (ad_C cI cS _ _ _) (fun H locs hP hD hS => ?_)
              exact W.iret hx hb hr (fun t ht hW => ⟨⟨_, (), rfl, (Prod.mk.inj (Option.some.inj hF)).1, by show va_P _ _ _ t.heap; rw [ht, ← (Prod.mk.inj (Option.some.inj hF)).2]; exact hP⟩, hS.F ht⟩) hS.2.2 dX6_copy_57
        · refine rR (b := a0 26) hx hb hK.1 hP 28 1 (at_C_28 cI cS _ _) rfl h33 rfl dX6_copy_33 ?_
          refine lv_astore (lv' := [(7, .ref (a0 26)), (6, .ref (a0 26)), (0, .ref (a0 0)), (1, .int x1), (2, .int x2), (3, .int x3), (4, .int x4), (5, .int x5)]) hx hb dX6_copy_34 hl (by decide) rfl (fun ls hl => ?_)
          refine lv_aload hx hb dX6_copy_36 (lv_at hl 1 rfl) ?_
          refine va_getN (D := D) (ci := 3) (v := .int (t0 26 0)) (C := RX3) (T := TX3) (N := 4) hx hb hts (fun w h => List.mem_cons_of_mem _ (inAX3 w h)) hown hK.1 hP 26 (at_C_26 cI cS _ _) rfl 0 (by decide) (nu_RX6_206 hK) (fun _ h9 => h9) rfl dX6_copy_38 ?_
          refine lv_if_eq (tgt := 52) hx hb dX6_copy_41 (by decide) (fun c41 => ?_) (fun c41 => ?_)
          · replace hF := ip c41 hF
            refine lv_aload_n hx hb dX6_copy_52 rfl (lv_at hl 2 rfl) ?_
            refine lv_iconst (v := 1) hx hb dX6_copy_53 (by decide) ?_
            obtain ⟨v54, u54, h54, hF⟩ := bd2 hF
            refine cAe (ws' := pC cI cS a0 u54) (va_runV (As := [.int 1]) (rest := []) ⟨hx, hb, hml, hown, hts⟩ (c_X6_withFault l D cI cS a0 t0 1 v54 u54 h54) (cwVA hts (TW.cons _) lv_X6_withFault ml_RX6_64 ⟨rfl, rfl⟩ ⟨(Nat.le_of_ble_eq_true rfl), (Nat.le_of_ble_eq_true rfl)⟩) (pWV hK hP hD (ci := 5) rfl rfl) rfl rfl hl.1 rfl (lv_room (Nat.le_of_ble_eq_true rfl)) dX6_copy_54 ⟨Nat.le_refl _, Nat.le_refl _⟩) hD hS (ad_C cI cS _ _ _) (fun H locs hP hD hS => ?_)
            exact W.iret hx hb hr (fun t ht hW => ⟨⟨_, (), rfl, (Prod.mk.inj (Option.some.inj hF)).1, by show va_P _ _ _ t.heap; rw [ht, ← (Prod.mk.inj (Option.some.inj hF)).2]; exact hP⟩, hS.F ht⟩) hS.2.2 dX6_copy_57
          · replace hF := iq c41 hF
            refine lv_aload hx hb dX6_copy_44 (lv_at hl 0 rfl) ?_
            refine va_getN (D := D) (ci := 3) (v := .int (t0 26 0)) (C := RX3) (T := TX3) (N := 4) hx hb hts (fun w h => List.mem_cons_of_mem _ (inAX3 w h)) hown hK.1 hP 26 (at_C_26 cI cS _ _) rfl 0 (by decide) (nu_RX6_206 hK) (fun _ h9 => h9) rfl dX6_copy_46 ?_
            refine lv_if_ne (tgt := 58) hx hb dX6_copy_49 (by decide) (fun c49 => ?_) (fun c49 => ?_)
            · replace hF := iq c49 hF
              refine lv_aload hx hb dX6_copy_58 (lv_at hl 1 rfl) ?_
              refine va_getN (D := D) (ci := 3) (v := .int (t0 26 1)) (C := RX3) (T := TX3) (N := 4) hx hb hts (fun w h => List.mem_cons_of_mem _ (inAX3 w h)) hown hK.1 hP 26 (at_C_26 cI cS _ _) rfl 1 (by decide) (nu_RX6_220 hK) (fun _ h9 => h9) rfl dX6_copy_60 ?_
              refine lv_aload hx hb dX6_copy_63 (lv_at hl 0 rfl) ?_
              refine va_getN (D := D) (ci := 3) (v := .int (t0 26 1)) (C := RX3) (T := TX3) (N := 4) hx hb hts (fun w h => List.mem_cons_of_mem _ (inAX3 w h)) hown hK.1 hP 26 (at_C_26 cI cS _ _) rfl 1 (by decide) (nu_RX6_220 hK) (fun _ h9 => h9) rfl dX6_copy_65 ?_
              refine lv_icmp_eq (tgt := 77) hx hb dX6_copy_68 (by decide) (fun c68 => ?_) (fun c68 => ?_)
              · replace hF := ip c68 hF
                refine lv_aload hx hb dX6_copy_77 (lv_at hl 1 rfl) ?_
                refine lv_iload_n hx hb dX6_copy_79 rfl (lv_at hl 4 rfl) ?_
                refine lv_iload hx hb dX6_copy_80 (lv_at hl 7 rfl) ?_
                obtain ⟨v82, h82, hF⟩ := bd hF
                refine cRb (va_runV (As := [.int x2, .int x5]) (rest := []) ⟨hx, hb, hml, hown, hts⟩ (c_X3_reaches l D cI cS (sa a0 26) (sb t0 26) x2 x5 v82 h82) (cwVA hts (TW.cons _) lv_X3_reaches ml_RX6_210 ⟨rfl, rfl⟩ ⟨(Nat.le_of_ble_eq_true rfl), (Nat.le_of_ble_eq_true rfl)⟩) (pRV hK (hP.sub [26, 27] (su_C_S26 cI cS _ _)) (ci := 3) rfl rfl) rfl rfl hl.1 rfl (lv_room (Nat.le_of_ble_eq_true rfl)) dX6_copy_82 ⟨Nat.le_refl _, Nat.le_refl _⟩) (fun b82 => ?_)
                refine lv_if_eq (tgt := 100) hx hb dX6_copy_85 (by decide) (fun c85 => ?_) (fun c85 => ?_)
                · replace hF := ip c85 hF
                  refine lv_aload_n hx hb dX6_copy_100 rfl (lv_at hl 2 rfl) ?_
                  refine lv_iconst (v := 3) hx hb dX6_copy_101 (by decide) ?_
                  obtain ⟨v102, u102, h102, hF⟩ := bd2 hF
                  refine cAe (ws' := pC cI cS a0 u102) (va_runV (As := [.int 3]) (rest := []) ⟨hx, hb, hml, hown, hts⟩ (c_X6_withFault l D cI cS a0 t0 3 v102 u102 h102) (cwVA hts (TW.cons _) lv_X6_withFault ml_RX6_64 ⟨rfl, rfl⟩ ⟨(Nat.le_of_ble_eq_true rfl), (Nat.le_of_ble_eq_true rfl)⟩) (pWV hK hP hD (ci := 5) rfl rfl) rfl rfl hl.1 rfl (lv_room (Nat.le_of_ble_eq_true rfl)) dX6_copy_102 ⟨Nat.le_refl _, Nat.le_refl _⟩) hD hS (ad_C cI cS _ _ _) (fun H locs hP hD hS => ?_)
                  exact W.iret hx hb hr (fun t ht hW => ⟨⟨_, (), rfl, (Prod.mk.inj (Option.some.inj hF)).1, by show va_P _ _ _ t.heap; rw [ht, ← (Prod.mk.inj (Option.some.inj hF)).2]; exact hP⟩, hS.F ht⟩) hS.2.2 dX6_copy_105
                · replace hF := iq c85 hF
                  refine lv_aload hx hb dX6_copy_88 (lv_at hl 0 rfl) ?_
                  refine lv_iload hx hb dX6_copy_90 (lv_at hl 6 rfl) ?_
                  refine lv_iload hx hb dX6_copy_92 (lv_at hl 7 rfl) ?_
                  obtain ⟨v94, h94, hF⟩ := bd hF
                  refine cRb (va_runV (As := [.int x4, .int x5]) (rest := []) ⟨hx, hb, hml, hown, hts⟩ (c_X3_reaches l D cI cS (sa a0 26) (sb t0 26) x4 x5 v94 h94) (cwVA hts (TW.cons _) lv_X3_reaches ml_RX6_210 ⟨rfl, rfl⟩ ⟨(Nat.le_of_ble_eq_true rfl), (Nat.le_of_ble_eq_true rfl)⟩) (pRV hK (hP.sub [26, 27] (su_C_S26 cI cS _ _)) (ci := 3) rfl rfl) rfl rfl hl.1 rfl (lv_room (Nat.le_of_ble_eq_true rfl)) dX6_copy_94 ⟨Nat.le_refl _, Nat.le_refl _⟩) (fun b94 => ?_)
                  refine lv_if_ne (tgt := 106) hx hb dX6_copy_97 (by decide) (fun c97 => ?_) (fun c97 => ?_)
                  · replace hF := iq c97 hF
                    refine lv_aload hx hb dX6_copy_106 (lv_at hl 1 rfl) ?_
                    refine va_getN (D := D) (ci := 3) (v := .ref (a0 27)) (C := RX3) (T := TX3) (N := 4) hx hb hts (fun w h => List.mem_cons_of_mem _ (inAX3 w h)) hown hK.1 hP 26 (at_C_26 cI cS _ _) rfl 3 (by decide) (nu_RX6_223 hK) (fun _ h9 => h9) rfl dX6_copy_108 ?_
                    refine lv_iload_n hx hb dX6_copy_111 rfl (lv_at hl 4 rfl) ?_
                    refine lv_aload hx hb dX6_copy_112 (lv_at hl 0 rfl) ?_
                    refine va_getN (D := D) (ci := 3) (v := .ref (a0 27)) (C := RX3) (T := TX3) (N := 4) hx hb hts (fun w h => List.mem_cons_of_mem _ (inAX3 w h)) hown hK.1 hP 26 (at_C_26 cI cS _ _) rfl 3 (by decide) (nu_RX6_223 hK) (fun _ h9 => h9) rfl dX6_copy_114 ?_
                    refine lv_iload hx hb dX6_copy_117 (lv_at hl 6 rfl) ?_
                    refine lv_iload hx hb dX6_copy_119 (lv_at hl 7 rfl) ?_
                    obtain ⟨g121, h121, hF⟩ := bd hF
                    refine wC (ws' := pC cI cS a0 (sr t0 27 g121)) hx hb (hml.trans hl.1.symm) hown (hts _ (List.mem_cons_of_mem _ ml_RX6_226)) (hts _ (List.mem_cons_of_mem _ jk_cpy.1)) (hts _ (List.mem_cons_of_mem _ jk_cpy.2.1)) (hts _ (List.mem_cons_of_mem _ jk_cpy.2.2)) hK.1 hP hD hS 27 27 0 (at_C_27 cI cS _ _) (at_C_27 cI cS _ _) rfl h121 (sx_C_27 cI cS _ _ _) (Nat.le_of_ble_eq_true rfl) (Nat.le_of_ble_eq_true rfl) dX6_copy_121 (fun H locs hP hD hS => ?_)
                    refine lv_aload_n hx hb dX6_copy_124 rfl (lv_at hl 2 rfl) ?_
                    refine lv_iload hx hb dX6_copy_125 (lv_at hl 7 rfl) ?_
                    obtain ⟨v127, u127, h127, hF⟩ := bd2 hF
                    refine cAe (ws' := pC cI cS a0 u127) (va_runV (As := [.int x5]) (rest := []) ⟨hx, hb, hml, hown, hts⟩ (c_X6_withoutFault l D cI cS a0 (sr t0 27 g121) x5 v127 u127 h127) (cwVA hts (TW.cons _) lv_X6_withoutFault ml_RX6_53 ⟨rfl, rfl⟩ ⟨(Nat.le_of_ble_eq_true rfl), (Nat.le_of_ble_eq_true rfl)⟩) (pWV hK hP hD (ci := 5) rfl rfl) rfl rfl hl.1 rfl (lv_room (Nat.le_of_ble_eq_true rfl)) dX6_copy_127 ⟨Nat.le_refl _, Nat.le_refl _⟩) hD hS (ad_C cI cS _ _ _) (fun H locs hP hD hS => ?_)
                    exact W.iret hx hb hr (fun t ht hW => ⟨⟨_, (), rfl, (Prod.mk.inj (Option.some.inj hF)).1, by show va_P _ _ _ t.heap; rw [ht, ← (Prod.mk.inj (Option.some.inj hF)).2]; exact hP⟩, hS.F ht⟩) hS.2.2 dX6_copy_130
                  · replace hF := ip c97 hF
                    refine lv_aload_n hx hb dX6_copy_100 rfl (lv_at hl 2 rfl) ?_
                    refine lv_iconst (v := 3) hx hb dX6_copy_101 (by decide) ?_
                    obtain ⟨v102, u102, h102, hF⟩ := bd2 hF
                    refine cAe (ws' := pC cI cS a0 u102) (va_runV (As := [.int 3]) (rest := []) ⟨hx, hb, hml, hown, hts⟩ (c_X6_withFault l D cI cS a0 t0 3 v102 u102 h102) (cwVA hts (TW.cons _) lv_X6_withFault ml_RX6_64 ⟨rfl, rfl⟩ ⟨(Nat.le_of_ble_eq_true rfl), (Nat.le_of_ble_eq_true rfl)⟩) (pWV hK hP hD (ci := 5) rfl rfl) rfl rfl hl.1 rfl (lv_room (Nat.le_of_ble_eq_true rfl)) dX6_copy_102 ⟨Nat.le_refl _, Nat.le_refl _⟩) hD hS (ad_C cI cS _ _ _) (fun H locs hP hD hS => ?_)
                    exact W.iret hx hb hr (fun t ht hW => ⟨⟨_, (), rfl, (Prod.mk.inj (Option.some.inj hF)).1, by show va_P _ _ _ t.heap; rw [ht, ← (Prod.mk.inj (Option.some.inj hF)).2]; exact hP⟩, hS.F ht⟩) hS.2.2 dX6_copy_105
              · replace hF := iq c68 hF
                refine lv_aload_n hx hb dX6_copy_71 rfl (lv_at hl 2 rfl) ?_
                refine lv_iconst (v := 2) hx hb dX6_copy_72 (by decide) ?_
                obtain ⟨v73, u73, h73, hF⟩ := bd2 hF
                refine cAe (ws' := pC cI cS a0 u73) (va_runV (As := [.int 2]) (rest := []) ⟨hx, hb, hml, hown, hts⟩ (c_X6_withFault l D cI cS a0 t0 2 v73 u73 h73) (cwVA hts (TW.cons _) lv_X6_withFault ml_RX6_64 ⟨rfl, rfl⟩ ⟨(Nat.le_of_ble_eq_true rfl), (Nat.le_of_ble_eq_true rfl)⟩) (pWV hK hP hD (ci := 5) rfl rfl) rfl rfl hl.1 rfl (lv_room (Nat.le_of_ble_eq_true rfl)) dX6_copy_73 ⟨Nat.le_refl _, Nat.le_refl _⟩) hD hS (ad_C cI cS _ _ _) (fun H locs hP hD hS => ?_)
                exact W.iret hx hb hr (fun t ht hW => ⟨⟨_, (), rfl, (Prod.mk.inj (Option.some.inj hF)).1, by show va_P _ _ _ t.heap; rw [ht, ← (Prod.mk.inj (Option.some.inj hF)).2]; exact hP⟩, hS.F ht⟩) hS.2.2 dX6_copy_76
            · replace hF := ip c49 hF
              refine lv_aload_n hx hb dX6_copy_52 rfl (lv_at hl 2 rfl) ?_
              refine lv_iconst (v := 1) hx hb dX6_copy_53 (by decide) ?_
              obtain ⟨v54, u54, h54, hF⟩ := bd2 hF
              refine cAe (ws' := pC cI cS a0 u54) (va_runV (As := [.int 1]) (rest := []) ⟨hx, hb, hml, hown, hts⟩ (c_X6_withFault l D cI cS a0 t0 1 v54 u54 h54) (cwVA hts (TW.cons _) lv_X6_withFault ml_RX6_64 ⟨rfl, rfl⟩ ⟨(Nat.le_of_ble_eq_true rfl), (Nat.le_of_ble_eq_true rfl)⟩) (pWV hK hP hD (ci := 5) rfl rfl) rfl rfl hl.1 rfl (lv_room (Nat.le_of_ble_eq_true rfl)) dX6_copy_54 ⟨Nat.le_refl _, Nat.le_refl _⟩) hD hS (ad_C cI cS _ _ _) (fun H locs hP hD hS => ?_)
              exact W.iret hx hb hr (fun t ht hW => ⟨⟨_, (), rfl, (Prod.mk.inj (Option.some.inj hF)).1, by show va_P _ _ _ t.heap; rw [ht, ← (Prod.mk.inj (Option.some.inj hF)).2]; exact hP⟩, hS.F ht⟩) hS.2.2 dX6_copy_57
    · replace hF := ip c11 hF
      refine lv_aload_n hx hb dX6_copy_14 rfl (lv_at hl 0 rfl) ?_
      refine lv_iconst (v := (-1)) hx hb dX6_copy_15 (by decide) ?_
      obtain ⟨v16, u16, h16, hF⟩ := bd2 hF
      refine cAe (ws' := pC cI cS a0 u16) (va_runV (As := [.int (-1)]) (rest := []) ⟨hx, hb, hml, hown, hts⟩ (c_X6_withoutFault l D cI cS a0 t0 (-1) v16 u16 h16) (cwVA hts (TW.cons _) lv_X6_withoutFault ml_RX6_53 ⟨rfl, rfl⟩ ⟨(Nat.le_of_ble_eq_true rfl), (Nat.le_of_ble_eq_true rfl)⟩) (pWV hK hP hD (ci := 5) rfl rfl) rfl rfl hl.1 rfl (lv_room (Nat.le_of_ble_eq_true rfl)) dX6_copy_16 ⟨Nat.le_refl _, Nat.le_refl _⟩) hD hS (ad_C cI cS _ _ _) (fun H locs hP hD hS => ?_)
      exact W.iret hx hb hr (fun t ht hW => ⟨⟨_, (), rfl, (Prod.mk.inj (Option.some.inj hF)).1, by show va_P _ _ _ t.heap; rw [ht, ← (Prod.mk.inj (Option.some.inj hF)).2]; exact hP⟩, hS.F ht⟩) hS.2.2 dX6_copy_19
