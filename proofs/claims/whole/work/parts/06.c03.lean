noncomputable def F_X6_laws_L80 (x1 : Int32) (x2 : Int32) (x3 : Int32) (x4 : Int32) (x5 : Int32) (k51 : Nat) (s0 : ST) (k : Int32 → Option (Int32 × ST)) : Nat → Int32 → Option (Int32 × ST)
  | 0, _ => none
  | n + 1, x8 =>
    if x4 ≤ x8 then
      k x8
    else
    (F_X3_at (sb s0 (20 + 2 * k51)) (x3 + x8)).bind fun v93 =>
    (F_X6_isShape v93).bind fun v96 =>
    if v96 = 0 then
      b2 (F_X6_withoutFault s0 (-2)) fun v105 u105 =>
      some (v105, u105)
    else
    (F_X6_laws_L80 x1 x2 x3 x4 x5 k51 s0 k n) (x8 + 1)
noncomputable def F_X6_laws_J115 (x1 : Int32) (x2 : Int32) (x3 : Int32) (x4 : Int32) (x5 : Int32) (k51 : Nat) (s0 : ST) : Option (Int32 × ST) :=
  (F_X6_lawsBy (sb s0 (20 + 2 * k51)) x3 x4 x5).bind fun v123 =>
  b2 (F_X6_withoutFault s0 v123) fun v126 u126 =>
  some (v126, u126)
noncomputable def F_X6_laws (t0 : ST) (x1 : Int32) (x2 : Int32) (x3 : Int32) (x4 : Int32) (x5 : Int32) : Option (Int32 × ST) :=
  (F_X6_isSheet x1).bind fun v1 =>
  if v1 = 0 then
    b2 (F_X6_withoutFault t0 (-1)) fun v9 u9 =>
    some (v9, u9)
  else
  (F_X6_isLane x2).bind fun v14 =>
  if v14 = 0 then
    b2 (F_X6_withoutFault t0 (-2)) fun v42 u42 =>
    some (v42, u42)
  else
  (F_X6_canTake x4).bind fun v22 =>
  if v22 = 0 then
    b2 (F_X6_withoutFault t0 (-2)) fun v42 u42 =>
    some (v42, u42)
  else
  if x5 < 0 then
    b2 (F_X6_withoutFault t0 (-2)) fun v42 u42 =>
    some (v42, u42)
  else
  if x5 ≤ 2 then
    (ix 4 x1).bind fun k51 =>
    (F_X3_faultOfTaking (sb t0 (20 + 2 * k51)) x2 x3 x4).bind fun v60 =>
    if v60 = 0 then
      F_X6_laws_L80 x1 x2 x3 x4 x5 k51 t0 (fun x8_k80 => F_X6_laws_J115 x1 x2 x3 x4 x5 k51 t0) 1000 0
    else
    b2 (F_X6_withFault t0 v60) fun v73 u73 =>
    some (v73, u73)
  else
  b2 (F_X6_withoutFault t0 (-2)) fun v42 u42 =>
  some (v42, u42)
abbrev rm_X6_laws : Room := { frames := 2, cells := 0, slots := 0, locals := 54 }
set_option maxHeartbeats 4000000 in
set_option maxRecDepth 100000 in
theorem c_X6_laws (l : Launch) (D : va_G) (cI cS : ClassId) (a0 : Nat → Nat) (t0 : ST) (x1 : Int32) (x2 : Int32) (x3 : Int32) (x4 : Int32) (x5 : Int32) (r : Int32) (t' : ST) (hF : F_X6_laws t0 x1 x2 x3 x4 x5 = some (r, t')) : Met l yX6_laws (Cond.code yX6_laws cX6_laws 9 (some .int) :: ALL) rm_X6_laws (PreW D cI cS [.ref (a0 0), .int x1, .int x2, .int x3, .int x4, .int x5] (pC cI cS a0 t0)) (va_Qi (fun x (_ : Unit) => x = r) (fun _ t => va_P D vwCl (pC cI cS a0 t') t.heap) (AD (pC cI cS a0 t0))) 0 0 (AD (pC cI cS a0 t0)) := by
  refine mW l D cI cS (by decide) (Nat.le_of_ble_eq_true rfl) ?_
  intro p e s m below meth c ls hx hb hr hml hown hts hlocks hP hK hD hS hl
  have hown : s.vm.findClass RX6 = some m.cls := hown
  have hl : lv_has ls 9 [(0, .ref (a0 0)), (1, .int x1), (2, .int x2), (3, .int x3), (4, .int x4), (5, .int x5)] := hl
  unfold F_X6_laws at hF
  refine lv_iload_n hx hb dX6_laws_0 rfl (lv_at hl 1 rfl) ?_
  obtain ⟨v1, h1, hF⟩ := bd hF
  refine cRb (va_runS (As := [.int x1]) (rest := []) ⟨hx, hb, hml, hown, hts⟩ (c_X6_isSheet l D cI cS x1 v1 h1) (cwSA hts (TW.cons _) ls_X6_isSheet ml_RX6_49 ⟨rfl, rfl⟩ ⟨(Nat.le_of_ble_eq_true rfl), (Nat.le_of_ble_eq_true rfl)⟩) (pRS hK pnil) rfl rfl hl.1 rfl (lv_room (Nat.le_of_ble_eq_true rfl)) dX6_laws_1 ⟨Nat.le_refl _, Nat.le_refl _⟩) (fun b1 => ?_)
  refine lv_if_ne (tgt := 13) hx hb dX6_laws_4 (by decide) (fun c4 => ?_) (fun c4 => ?_)
  · replace hF := iq c4 hF
    refine lv_iload_n hx hb dX6_laws_13 rfl (lv_at hl 2 rfl) ?_
    obtain ⟨v14, h14, hF⟩ := bd hF
    refine cRb (va_runS (As := [.int x2]) (rest := []) ⟨hx, hb, hml, hown, hts⟩ (c_X6_isLane l D cI cS x2 v14 h14) (cwSA hts (TW.cons _) ls_X6_isLane ml_RX6_57 ⟨rfl, rfl⟩ ⟨(Nat.le_of_ble_eq_true rfl), (Nat.le_of_ble_eq_true rfl)⟩) (pRS hK pnil) rfl rfl hl.1 rfl (lv_room (Nat.le_of_ble_eq_true rfl)) dX6_laws_14 ⟨Nat.le_refl _, Nat.le_refl _⟩) (fun b14 => ?_)
    refine lv_if_eq (tgt := 39) hx hb dX6_laws_17 (by decide) (fun c17 => ?_) (fun c17 => ?_)
    · replace hF := ip c17 hF
      refine lv_aload_n hx hb dX6_laws_39 rfl (lv_at hl 0 rfl) ?_
      refine lv_bipush (v := (-2)) hx hb dX6_laws_40 (by decide) ?_
      obtain ⟨v42, u42, h42, hF⟩ := bd2 hF
      refine cAe (ws' := pC cI cS a0 u42) (va_runV (As := [.int (-2)]) (rest := []) ⟨hx, hb, hml, hown, hts⟩ (c_X6_withoutFault l D cI cS a0 t0 (-2) v42 u42 h42) (cwVA hts (TW.cons _) lv_X6_withoutFault ml_RX6_53 ⟨rfl, rfl⟩ ⟨(Nat.le_of_ble_eq_true rfl), (Nat.le_of_ble_eq_true rfl)⟩) (pWV hK hP hD (ci := 5) rfl rfl) rfl rfl hl.1 rfl (lv_room (Nat.le_of_ble_eq_true rfl)) dX6_laws_42 ⟨Nat.le_refl _, Nat.le_refl _⟩) hD hS (ad_C cI cS _ _ _) (fun H locs hP hD hS => ?_)
      exact W.iret hx hb hr (fun t ht hW => ⟨⟨_, (), rfl, (Prod.mk.inj (Option.some.inj hF)).1, by show va_P _ _ _ t.heap; rw [ht, ← (Prod.mk.inj (Option.some.inj hF)).2]; exact hP⟩, hS.F ht⟩) hS.2.2 dX6_laws_45
    · replace hF := iq c17 hF
      refine lv_iload hx hb dX6_laws_20 (lv_at hl 4 rfl) ?_
      obtain ⟨v22, h22, hF⟩ := bd hF
      refine cRb (va_runS (As := [.int x4]) (rest := []) ⟨hx, hb, hml, hown, hts⟩ (c_X6_canTake l D cI cS x4 v22 h22) (cwSA hts (TW.cons _) ls_X6_canTake ml_RX6_151 ⟨rfl, rfl⟩ ⟨(Nat.le_of_ble_eq_true rfl), (Nat.le_of_ble_eq_true rfl)⟩) (pRS hK pnil) rfl rfl hl.1 rfl (lv_room (Nat.le_of_ble_eq_true rfl)) dX6_laws_22 ⟨Nat.le_refl _, Nat.le_refl _⟩) (fun b22 => ?_)
      refine lv_if_eq (tgt := 39) hx hb dX6_laws_25 (by decide) (fun c25 => ?_) (fun c25 => ?_)
      · replace hF := ip c25 hF
        refine lv_aload_n hx hb dX6_laws_39 rfl (lv_at hl 0 rfl) ?_
        refine lv_bipush (v := (-2)) hx hb dX6_laws_40 (by decide) ?_
        obtain ⟨v42, u42, h42, hF⟩ := bd2 hF
        refine cAe (ws' := pC cI cS a0 u42) (va_runV (As := [.int (-2)]) (rest := []) ⟨hx, hb, hml, hown, hts⟩ (c_X6_withoutFault l D cI cS a0 t0 (-2) v42 u42 h42) (cwVA hts (TW.cons _) lv_X6_withoutFault ml_RX6_53 ⟨rfl, rfl⟩ ⟨(Nat.le_of_ble_eq_true rfl), (Nat.le_of_ble_eq_true rfl)⟩) (pWV hK hP hD (ci := 5) rfl rfl) rfl rfl hl.1 rfl (lv_room (Nat.le_of_ble_eq_true rfl)) dX6_laws_42 ⟨Nat.le_refl _, Nat.le_refl _⟩) hD hS (ad_C cI cS _ _ _) (fun H locs hP hD hS => ?_)
        exact W.iret hx hb hr (fun t ht hW => ⟨⟨_, (), rfl, (Prod.mk.inj (Option.some.inj hF)).1, by show va_P _ _ _ t.heap; rw [ht, ← (Prod.mk.inj (Option.some.inj hF)).2]; exact hP⟩, hS.F ht⟩) hS.2.2 dX6_laws_45
      · replace hF := iq c25 hF
        refine lv_iload hx hb dX6_laws_28 (lv_at hl 5 rfl) ?_
        refine lv_if_lt (tgt := 39) hx hb dX6_laws_30 (by decide) (fun c30 => ?_) (fun c30 => ?_)
        · replace hF := ip c30 hF
          refine lv_aload_n hx hb dX6_laws_39 rfl (lv_at hl 0 rfl) ?_
          refine lv_bipush (v := (-2)) hx hb dX6_laws_40 (by decide) ?_
          obtain ⟨v42, u42, h42, hF⟩ := bd2 hF
          refine cAe (ws' := pC cI cS a0 u42) (va_runV (As := [.int (-2)]) (rest := []) ⟨hx, hb, hml, hown, hts⟩ (c_X6_withoutFault l D cI cS a0 t0 (-2) v42 u42 h42) (cwVA hts (TW.cons _) lv_X6_withoutFault ml_RX6_53 ⟨rfl, rfl⟩ ⟨(Nat.le_of_ble_eq_true rfl), (Nat.le_of_ble_eq_true rfl)⟩) (pWV hK hP hD (ci := 5) rfl rfl) rfl rfl hl.1 rfl (lv_room (Nat.le_of_ble_eq_true rfl)) dX6_laws_42 ⟨Nat.le_refl _, Nat.le_refl _⟩) hD hS (ad_C cI cS _ _ _) (fun H locs hP hD hS => ?_)
          exact W.iret hx hb hr (fun t ht hW => ⟨⟨_, (), rfl, (Prod.mk.inj (Option.some.inj hF)).1, by show va_P _ _ _ t.heap; rw [ht, ← (Prod.mk.inj (Option.some.inj hF)).2]; exact hP⟩, hS.F ht⟩) hS.2.2 dX6_laws_45
        · replace hF := iq c30 hF
          refine lv_iload hx hb dX6_laws_33 (lv_at hl 5 rfl) ?_
          refine lv_iconst (v := 2) hx hb dX6_laws_35 (by decide) ?_
          refine lv_icmp_le (tgt := 46) hx hb dX6_laws_36 (by decide) (fun c36 => ?_) (fun c36 => ?_)
          · replace hF := ip c36 hF
            refine lv_aload_n hx hb dX6_laws_46 rfl (lv_at hl 0 rfl) ?_
            refine va_get (D := D) (ci := 5) (v := .ref (a0 28)) (C := RX6) (T := TX6) (N := 8) hx hb hts (fun w h => List.mem_cons_of_mem _ (inAX6 w h)) hown hK.1 hP 0 (at_C_0 cI cS _ _) rfl 5 (by decide) (hts _ (List.mem_cons_of_mem _ fl_RX6_44)) (fun _ h9 => h9) rfl dX6_laws_47 ?_
            refine lv_iload_n hx hb dX6_laws_50 rfl (lv_at hl 1 rfl) ?_
            obtain ⟨k51, h51, hF⟩ := bd hF
            obtain ⟨-, -, l51⟩ := ix_some h51
            rcases lt4 l51 with rfl | rfl | rfl | rfl
            · refine rR (b := a0 20) hx hb hK.1 hP 28 1 (at_C_28 cI cS _ _) rfl h51 rfl dX6_laws_51 ?_
              refine lv_astore (lv' := [(6, .ref (a0 20)), (0, .ref (a0 0)), (1, .int x1), (2, .int x2), (3, .int x3), (4, .int x4), (5, .int x5)]) hx hb dX6_laws_52 hl (by decide) rfl (fun ls hl => ?_)
              refine lv_aload hx hb dX6_laws_54 (lv_at hl 0 rfl) ?_
              refine lv_iload_n hx hb dX6_laws_56 rfl (lv_at hl 3 rfl) ?_
              refine lv_iload_n hx hb dX6_laws_57 rfl (lv_at hl 4 rfl) ?_
              refine lv_iload hx hb dX6_laws_58 (lv_at hl 5 rfl) ?_
              obtain ⟨v60, h60, hF⟩ := bd hF
              refine cRe (va_runV (As := [.int x2, .int x3, .int x4]) (rest := []) ⟨hx, hb, hml, hown, hts⟩ (c_X3_faultOfTaking l D cI cS (sa a0 20) (sb t0 20) x2 x3 x4 v60 h60) (cwVA hts (TW.cons _) lv_X3_faultOfTaking ml_RX6_60 ⟨rfl, rfl⟩ ⟨(Nat.le_of_ble_eq_true rfl), (Nat.le_of_ble_eq_true rfl)⟩) (pRV hK (hP.sub [20, 21] (su_C_S20 cI cS _ _)) (ci := 3) rfl rfl) rfl rfl hl.1 rfl (lv_room (Nat.le_of_ble_eq_true rfl)) dX6_laws_60 ⟨Nat.le_refl _, Nat.le_refl _⟩) ?_
              refine lv_istore (lv' := [(7, .int v60), (6, .ref (a0 20)), (0, .ref (a0 0)), (1, .int x1), (2, .int x2), (3, .int x3), (4, .int x4), (5, .int x5)]) hx hb dX6_laws_63 hl (by decide) rfl (fun ls hl => ?_)
              refine lv_iload hx hb dX6_laws_65 (lv_at hl 0 rfl) ?_
              refine lv_if_eq (tgt := 77) hx hb dX6_laws_67 (by decide) (fun c67 => ?_) (fun c67 => ?_)
              · replace hF := ip c67 hF
                refine lv_iconst (v := 0) hx hb dX6_laws_77 (by decide) ?_
                refine lv_istore (lv' := [(8, .int 0), (7, .int v60), (6, .ref (a0 20)), (0, .ref (a0 0)), (1, .int x1), (2, .int x2), (3, .int x3), (4, .int x4), (5, .int x5)]) hx hb dX6_laws_78 hl (by decide) rfl (fun ls hl => ?_)
                have L80 : ∀ (n_80 : Nat) (x8_80 : Int32) (H : Heap) (locs : List Loc) (ls : Array Slot), va_P D vwCl (pC cI cS a0 t0) H → va_D (AD (pC cI cS a0 t0)) (pC cI cS a0 t0) → va_S (AD (pC cI cS a0 t0)) s.heap H locs → lv_has ls 9 [(0, .ref (a0 0)), (3, .int x3), (4, .int x4), (5, .int x5), (6, .ref (a0 20)), (8, .int x8_80)] → F_X6_laws_L80 x1 x2 x3 x4 x5 0 t0 (fun x8_k80 => F_X6_laws_J115 x1 x2 x3 x4 x5 0 t0) n_80 x8_80 = some (r, t') → W p l e rm_X6_laws s m [.ref (a0 0), .int x1, .int x2, .int x3, .int x4, .int x5].toArray below meth c H locs 0 0 (MQ below (va_Qi (fun x (_ : Unit) => x = r) (fun _ t => va_P D vwCl (pC cI cS a0 t') t.heap) (AD (pC cI cS a0 t0))) [.ref (a0 0), .int x1, .int x2, .int x3, .int x4, .int x5].toArray s 0 0 (AD (pC cI cS a0 t0))) (F0 m 80 ls []) := by
                  intro n_80
                  induction n_80 with
                  | zero => intro x8_80 H locs ls hP hD hS hl hF; exact nomatch hF
                  | succ n_80 ih80 =>
                    intro x8_80 H locs ls hP hD hS hl hF
                    rw [F_X6_laws_L80.eq_2] at hF
                    refine lv_iload hx hb dX6_laws_80 (lv_at hl 5 rfl) ?_
                    refine lv_iload hx hb dX6_laws_82 (lv_at hl 2 rfl) ?_
                    refine lv_icmp_ge (tgt := 115) hx hb dX6_laws_84 (by decide) (fun c84 => ?_) (fun c84 => ?_)
                    · replace hF := ip c84 hF
                      have hF : F_X6_laws_J115 x1 x2 x3 x4 x5 0 t0 = some (r, t') := hF
                      unfold F_X6_laws_J115 at hF
                      refine lv_aload_n hx hb dX6_laws_115 rfl (lv_at hl 0 rfl) ?_
                      refine lv_aload hx hb dX6_laws_116 (lv_at hl 4 rfl) ?_
                      refine lv_iload_n hx hb dX6_laws_118 rfl (lv_at hl 1 rfl) ?_
                      refine lv_iload hx hb dX6_laws_119 (lv_at hl 2 rfl) ?_
                      refine lv_iload hx hb dX6_laws_121 (lv_at hl 3 rfl) ?_
                      obtain ⟨v123, h123, hF⟩ := bd hF
                      refine cRe (va_runS (As := [.ref (a0 20), .int x3, .int x4, .int x5]) (rest := [.ref (a0 0)]) ⟨hx, hb, hml, hown, hts⟩ (c_X6_lawsBy l D cI cS (sa a0 20) (sb t0 20) x3 x4 x5 v123 h123) (cwSA hts (TW.cons _) ls_X6_lawsBy ml_RX6_182 ⟨rfl, rfl⟩ ⟨(Nat.le_of_ble_eq_true rfl), (Nat.le_of_ble_eq_true rfl)⟩) (pRS hK (hP.sub [20, 21] (su_C_S20 cI cS _ _))) rfl rfl hl.1 rfl (lv_room (Nat.le_of_ble_eq_true rfl)) dX6_laws_123 ⟨Nat.le_refl _, Nat.le_refl _⟩) ?_
                      obtain ⟨v126, u126, h126, hF⟩ := bd2 hF
                      refine cAe (ws' := pC cI cS a0 u126) (va_runV (As := [.int v123]) (rest := []) ⟨hx, hb, hml, hown, hts⟩ (c_X6_withoutFault l D cI cS a0 t0 v123 v126 u126 h126) (cwVA hts (TW.cons _) lv_X6_withoutFault ml_RX6_53 ⟨rfl, rfl⟩ ⟨(Nat.le_of_ble_eq_true rfl), (Nat.le_of_ble_eq_true rfl)⟩) (pWV hK hP hD (ci := 5) rfl rfl) rfl rfl hl.1 rfl (lv_room (Nat.le_of_ble_eq_true rfl)) dX6_laws_126 ⟨Nat.le_refl _, Nat.le_refl _⟩) hD hS (ad_C cI cS _ _ _) (fun H locs hP hD hS => ?_)
                      exact W.iret hx hb hr (fun t ht hW => ⟨⟨_, (), rfl, (Prod.mk.inj (Option.some.inj hF)).1, by show va_P _ _ _ t.heap; rw [ht, ← (Prod.mk.inj (Option.some.inj hF)).2]; exact hP⟩, hS.F ht⟩) hS.2.2 dX6_laws_129
                    · replace hF := iq c84 hF
                      refine lv_aload hx hb dX6_laws_87 (lv_at hl 4 rfl) ?_
                      refine lv_iload_n hx hb dX6_laws_89 rfl (lv_at hl 1 rfl) ?_
                      refine lv_iload hx hb dX6_laws_90 (lv_at hl 5 rfl) ?_
                      refine lv_iadd hx hb dX6_laws_92 ?_
                      obtain ⟨v93, h93, hF⟩ := bd hF
                      refine cRe (va_runV (As := [.int (x3 + x8_80)]) (rest := []) ⟨hx, hb, hml, hown, hts⟩ (c_X3_at l D cI cS (sa a0 20) (sb t0 20) (x3 + x8_80) v93 h93) (cwVA hts (TW.cons _) lv_X3_at ml_RX6_179 ⟨rfl, rfl⟩ ⟨(Nat.le_of_ble_eq_true rfl), (Nat.le_of_ble_eq_true rfl)⟩) (pRV hK (hP.sub [20, 21] (su_C_S20 cI cS _ _)) (ci := 3) rfl rfl) rfl rfl hl.1 rfl (lv_room (Nat.le_of_ble_eq_true rfl)) dX6_laws_93 ⟨Nat.le_refl _, Nat.le_refl _⟩) ?_
                      obtain ⟨v96, h96, hF⟩ := bd hF
                      refine cRb (va_runS (As := [.int v93]) (rest := []) ⟨hx, hb, hml, hown, hts⟩ (c_X6_isShape l D cI cS v93 v96 h96) (cwSA hts (TW.cons _) ls_X6_isShape ml_RX6_168 ⟨rfl, rfl⟩ ⟨(Nat.le_of_ble_eq_true rfl), (Nat.le_of_ble_eq_true rfl)⟩) (pRS hK pnil) rfl rfl hl.1 rfl (lv_room (Nat.le_of_ble_eq_true rfl)) dX6_laws_96 ⟨Nat.le_refl _, Nat.le_refl _⟩) (fun b96 => ?_)
                      refine lv_if_ne (tgt := 109) hx hb dX6_laws_99 (by decide) (fun c99 => ?_) (fun c99 => ?_)
                      · replace hF := iq c99 hF
                        refine lv_iinc (v := (x8_80 + 1)) (lv' := [(8, .int (x8_80 + 1)), (0, .ref (a0 0)), (3, .int x3), (4, .int x4), (5, .int x5), (6, .ref (a0 20))]) hx hb dX6_laws_109 hl (k := 5) rfl rfl (by decide) rfl (fun ls hl => ?_)
                        refine lv_goto (tgt := 80) hx hb dX6_laws_112 (by decide) ?_
                        exact ih80 (x8_80 + 1) _ _ _ hP hD hS (lv_sub hl [1, 2, 3, 4, 5, 0] rfl) hF
                      · replace hF := ip c99 hF
                        refine lv_aload_n hx hb dX6_laws_102 rfl (lv_at hl 0 rfl) ?_
                        refine lv_bipush (v := (-2)) hx hb dX6_laws_103 (by decide) ?_
                        obtain ⟨v105, u105, h105, hF⟩ := bd2 hF
                        refine cAe (ws' := pC cI cS a0 u105) (va_runV (As := [.int (-2)]) (rest := []) ⟨hx, hb, hml, hown, hts⟩ (c_X6_withoutFault l D cI cS a0 t0 (-2) v105 u105 h105) (cwVA hts (TW.cons _) lv_X6_withoutFault ml_RX6_53 ⟨rfl, rfl⟩ ⟨(Nat.le_of_ble_eq_true rfl), (Nat.le_of_ble_eq_true rfl)⟩) (pWV hK hP hD (ci := 5) rfl rfl) rfl rfl hl.1 rfl (lv_room (Nat.le_of_ble_eq_true rfl)) dX6_laws_105 ⟨Nat.le_refl _, Nat.le_refl _⟩) hD hS (ad_C cI cS _ _ _) (fun H locs hP hD hS => ?_)
                        exact W.iret hx hb hr (fun t ht hW => ⟨⟨_, (), rfl, (Prod.mk.inj (Option.some.inj hF)).1, by show va_P _ _ _ t.heap; rw [ht, ← (Prod.mk.inj (Option.some.inj hF)).2]; exact hP⟩, hS.F ht⟩) hS.2.2 dX6_laws_108
                exact L80 1000 0 _ _ _ hP hD hS (lv_sub hl [3, 6, 7, 8, 2, 0] rfl) hF
              · replace hF := iq c67 hF
                refine lv_aload_n hx hb dX6_laws_70 rfl (lv_at hl 2 rfl) ?_
                refine lv_iload hx hb dX6_laws_71 (lv_at hl 0 rfl) ?_
                obtain ⟨v73, u73, h73, hF⟩ := bd2 hF
                refine cAe (ws' := pC cI cS a0 u73) (va_runV (As := [.int v60]) (rest := []) ⟨hx, hb, hml, hown, hts⟩ (c_X6_withFault l D cI cS a0 t0 v60 v73 u73 h73) (cwVA hts (TW.cons _) lv_X6_withFault ml_RX6_64 ⟨rfl, rfl⟩ ⟨(Nat.le_of_ble_eq_true rfl), (Nat.le_of_ble_eq_true rfl)⟩) (pWV hK hP hD (ci := 5) rfl rfl) rfl rfl hl.1 rfl (lv_room (Nat.le_of_ble_eq_true rfl)) dX6_laws_73 ⟨Nat.le_refl _, Nat.le_refl _⟩) hD hS (ad_C cI cS _ _ _) (fun H locs hP hD hS => ?_)
                exact W.iret hx hb hr (fun t ht hW => ⟨⟨_, (), rfl, (Prod.mk.inj (Option.some.inj hF)).1, by show va_P _ _ _ t.heap; rw [ht, ← (Prod.mk.inj (Option.some.inj hF)).2]; exact hP⟩, hS.F ht⟩) hS.2.2 dX6_laws_76
            · refine rR (b := a0 22) hx hb hK.1 hP 28 1 (at_C_28 cI cS _ _) rfl h51 rfl dX6_laws_51 ?_
              refine lv_astore (lv' := [(6, .ref (a0 22)), (0, .ref (a0 0)), (1, .int x1), (2, .int x2), (3, .int x3), (4, .int x4), (5, .int x5)]) hx hb dX6_laws_52 hl (by decide) rfl (fun ls hl => ?_)
              refine lv_aload hx hb dX6_laws_54 (lv_at hl 0 rfl) ?_
              refine lv_iload_n hx hb dX6_laws_56 rfl (lv_at hl 3 rfl) ?_
              refine lv_iload_n hx hb dX6_laws_57 rfl (lv_at hl 4 rfl) ?_
              refine lv_iload hx hb dX6_laws_58 (lv_at hl 5 rfl) ?_
              obtain ⟨v60, h60, hF⟩ := bd hF
              refine cRe (va_runV (As := [.int x2, .int x3, .int x4]) (rest := []) ⟨hx, hb, hml, hown, hts⟩ (c_X3_faultOfTaking l D cI cS (sa a0 22) (sb t0 22) x2 x3 x4 v60 h60) (cwVA hts (TW.cons _) lv_X3_faultOfTaking ml_RX6_60 ⟨rfl, rfl⟩ ⟨(Nat.le_of_ble_eq_true rfl), (Nat.le_of_ble_eq_true rfl)⟩) (pRV hK (hP.sub [22, 23] (su_C_S22 cI cS _ _)) (ci := 3) rfl rfl) rfl rfl hl.1 rfl (lv_room (Nat.le_of_ble_eq_true rfl)) dX6_laws_60 ⟨Nat.le_refl _, Nat.le_refl _⟩) ?_
              refine lv_istore (lv' := [(7, .int v60), (6, .ref (a0 22)), (0, .ref (a0 0)), (1, .int x1), (2, .int x2), (3, .int x3), (4, .int x4), (5, .int x5)]) hx hb dX6_laws_63 hl (by decide) rfl (fun ls hl => ?_)
              refine lv_iload hx hb dX6_laws_65 (lv_at hl 0 rfl) ?_
              refine lv_if_eq (tgt := 77) hx hb dX6_laws_67 (by decide) (fun c67 => ?_) (fun c67 => ?_)
              · replace hF := ip c67 hF
                refine lv_iconst (v := 0) hx hb dX6_laws_77 (by decide) ?_
                refine lv_istore (lv' := [(8, .int 0), (7, .int v60), (6, .ref (a0 22)), (0, .ref (a0 0)), (1, .int x1), (2, .int x2), (3, .int x3), (4, .int x4), (5, .int x5)]) hx hb dX6_laws_78 hl (by decide) rfl (fun ls hl => ?_)
                have L80 : ∀ (n_80 : Nat) (x8_80 : Int32) (H : Heap) (locs : List Loc) (ls : Array Slot), va_P D vwCl (pC cI cS a0 t0) H → va_D (AD (pC cI cS a0 t0)) (pC cI cS a0 t0) → va_S (AD (pC cI cS a0 t0)) s.heap H locs → lv_has ls 9 [(0, .ref (a0 0)), (3, .int x3), (4, .int x4), (5, .int x5), (6, .ref (a0 22)), (8, .int x8_80)] → F_X6_laws_L80 x1 x2 x3 x4 x5 1 t0 (fun x8_k80 => F_X6_laws_J115 x1 x2 x3 x4 x5 1 t0) n_80 x8_80 = some (r, t') → W p l e rm_X6_laws s m [.ref (a0 0), .int x1, .int x2, .int x3, .int x4, .int x5].toArray below meth c H locs 0 0 (MQ below (va_Qi (fun x (_ : Unit) => x = r) (fun _ t => va_P D vwCl (pC cI cS a0 t') t.heap) (AD (pC cI cS a0 t0))) [.ref (a0 0), .int x1, .int x2, .int x3, .int x4, .int x5].toArray s 0 0 (AD (pC cI cS a0 t0))) (F0 m 80 ls []) := by
                  intro n_80
                  induction n_80 with
                  | zero => intro x8_80 H locs ls hP hD hS hl hF; exact nomatch hF
                  | succ n_80 ih80 =>
                    intro x8_80 H locs ls hP hD hS hl hF
                    rw [F_X6_laws_L80.eq_2] at hF
                    refine lv_iload hx hb dX6_laws_80 (lv_at hl 5 rfl) ?_
                    refine lv_iload hx hb dX6_laws_82 (lv_at hl 2 rfl) ?_
                    refine lv_icmp_ge (tgt := 115) hx hb dX6_laws_84 (by decide) (fun c84 => ?_) (fun c84 => ?_)
                    · replace hF := ip c84 hF
                      have hF : F_X6_laws_J115 x1 x2 x3 x4 x5 1 t0 = some (r, t') := hF
                      unfold F_X6_laws_J115 at hF
                      refine lv_aload_n hx hb dX6_laws_115 rfl (lv_at hl 0 rfl) ?_
                      refine lv_aload hx hb dX6_laws_116 (lv_at hl 4 rfl) ?_
                      refine lv_iload_n hx hb dX6_laws_118 rfl (lv_at hl 1 rfl) ?_
                      refine lv_iload hx hb dX6_laws_119 (lv_at hl 2 rfl) ?_
                      refine lv_iload hx hb dX6_laws_121 (lv_at hl 3 rfl) ?_
                      obtain ⟨v123, h123, hF⟩ := bd hF
                      refine cRe (va_runS (As := [.ref (a0 22), .int x3, .int x4, .int x5]) (rest := [.ref (a0 0)]) ⟨hx, hb, hml, hown, hts⟩ (c_X6_lawsBy l D cI cS (sa a0 22) (sb t0 22) x3 x4 x5 v123 h123) (cwSA hts (TW.cons _) ls_X6_lawsBy ml_RX6_182 ⟨rfl, rfl⟩ ⟨(Nat.le_of_ble_eq_true rfl), (Nat.le_of_ble_eq_true rfl)⟩) (pRS hK (hP.sub [22, 23] (su_C_S22 cI cS _ _))) rfl rfl hl.1 rfl (lv_room (Nat.le_of_ble_eq_true rfl)) dX6_laws_123 ⟨Nat.le_refl _, Nat.le_refl _⟩) ?_
                      obtain ⟨v126, u126, h126, hF⟩ := bd2 hF
                      refine cAe (ws' := pC cI cS a0 u126) (va_runV (As := [.int v123]) (rest := []) ⟨hx, hb, hml, hown, hts⟩ (c_X6_withoutFault l D cI cS a0 t0 v123 v126 u126 h126) (cwVA hts (TW.cons _) lv_X6_withoutFault ml_RX6_53 ⟨rfl, rfl⟩ ⟨(Nat.le_of_ble_eq_true rfl), (Nat.le_of_ble_eq_true rfl)⟩) (pWV hK hP hD (ci := 5) rfl rfl) rfl rfl hl.1 rfl (lv_room (Nat.le_of_ble_eq_true rfl)) dX6_laws_126 ⟨Nat.le_refl _, Nat.le_refl _⟩) hD hS (ad_C cI cS _ _ _) (fun H locs hP hD hS => ?_)
                      exact W.iret hx hb hr (fun t ht hW => ⟨⟨_, (), rfl, (Prod.mk.inj (Option.some.inj hF)).1, by show va_P _ _ _ t.heap; rw [ht, ← (Prod.mk.inj (Option.some.inj hF)).2]; exact hP⟩, hS.F ht⟩) hS.2.2 dX6_laws_129
                    · replace hF := iq c84 hF
                      refine lv_aload hx hb dX6_laws_87 (lv_at hl 4 rfl) ?_
                      refine lv_iload_n hx hb dX6_laws_89 rfl (lv_at hl 1 rfl) ?_
                      refine lv_iload hx hb dX6_laws_90 (lv_at hl 5 rfl) ?_
                      refine lv_iadd hx hb dX6_laws_92 ?_
                      obtain ⟨v93, h93, hF⟩ := bd hF
                      refine cRe (va_runV (As := [.int (x3 + x8_80)]) (rest := []) ⟨hx, hb, hml, hown, hts⟩ (c_X3_at l D cI cS (sa a0 22) (sb t0 22) (x3 + x8_80) v93 h93) (cwVA hts (TW.cons _) lv_X3_at ml_RX6_179 ⟨rfl, rfl⟩ ⟨(Nat.le_of_ble_eq_true rfl), (Nat.le_of_ble_eq_true rfl)⟩) (pRV hK (hP.sub [22, 23] (su_C_S22 cI cS _ _)) (ci := 3) rfl rfl) rfl rfl hl.1 rfl (lv_room (Nat.le_of_ble_eq_true rfl)) dX6_laws_93 ⟨Nat.le_refl _, Nat.le_refl _⟩) ?_
                      obtain ⟨v96, h96, hF⟩ := bd hF
                      refine cRb (va_runS (As := [.int v93]) (rest := []) ⟨hx, hb, hml, hown, hts⟩ (c_X6_isShape l D cI cS v93 v96 h96) (cwSA hts (TW.cons _) ls_X6_isShape ml_RX6_168 ⟨rfl, rfl⟩ ⟨(Nat.le_of_ble_eq_true rfl), (Nat.le_of_ble_eq_true rfl)⟩) (pRS hK pnil) rfl rfl hl.1 rfl (lv_room (Nat.le_of_ble_eq_true rfl)) dX6_laws_96 ⟨Nat.le_refl _, Nat.le_refl _⟩) (fun b96 => ?_)
                      refine lv_if_ne (tgt := 109) hx hb dX6_laws_99 (by decide) (fun c99 => ?_) (fun c99 => ?_)
                      · replace hF := iq c99 hF
                        refine lv_iinc (v := (x8_80 + 1)) (lv' := [(8, .int (x8_80 + 1)), (0, .ref (a0 0)), (3, .int x3), (4, .int x4), (5, .int x5), (6, .ref (a0 22))]) hx hb dX6_laws_109 hl (k := 5) rfl rfl (by decide) rfl (fun ls hl => ?_)
                        refine lv_goto (tgt := 80) hx hb dX6_laws_112 (by decide) ?_
                        exact ih80 (x8_80 + 1) _ _ _ hP hD hS (lv_sub hl [1, 2, 3, 4, 5, 0] rfl) hF
                      · replace hF := ip c99 hF
                        refine lv_aload_n hx hb dX6_laws_102 rfl (lv_at hl 0 rfl) ?_
                        refine lv_bipush (v := (-2)) hx hb dX6_laws_103 (by decide) ?_
                        obtain ⟨v105, u105, h105, hF⟩ := bd2 hF
                        refine cAe (ws' := pC cI cS a0 u105) (va_runV (As := [.int (-2)]) (rest := []) ⟨hx, hb, hml, hown, hts⟩ (c_X6_withoutFault l D cI cS a0 t0 (-2) v105 u105 h105) (cwVA hts (TW.cons _) lv_X6_withoutFault ml_RX6_53 ⟨rfl, rfl⟩ ⟨(Nat.le_of_ble_eq_true rfl), (Nat.le_of_ble_eq_true rfl)⟩) (pWV hK hP hD (ci := 5) rfl rfl) rfl rfl hl.1 rfl (lv_room (Nat.le_of_ble_eq_true rfl)) dX6_laws_105 ⟨Nat.le_refl _, Nat.le_refl _⟩) hD hS (ad_C cI cS _ _ _) (fun H locs hP hD hS => ?_)
                        exact W.iret hx hb hr (fun t ht hW => ⟨⟨_, (), rfl, (Prod.mk.inj (Option.some.inj hF)).1, by show va_P _ _ _ t.heap; rw [ht, ← (Prod.mk.inj (Option.some.inj hF)).2]; exact hP⟩, hS.F ht⟩) hS.2.2 dX6_laws_108
                exact L80 1000 0 _ _ _ hP hD hS (lv_sub hl [3, 6, 7, 8, 2, 0] rfl) hF
              · replace hF := iq c67 hF
                refine lv_aload_n hx hb dX6_laws_70 rfl (lv_at hl 2 rfl) ?_
                refine lv_iload hx hb dX6_laws_71 (lv_at hl 0 rfl) ?_
                obtain ⟨v73, u73, h73, hF⟩ := bd2 hF
                refine cAe (ws' := pC cI cS a0 u73) (va_runV (As := [.int v60]) (rest := []) ⟨hx, hb, hml, hown, hts⟩ (c_X6_withFault l D cI cS a0 t0 v60 v73 u73 h73) (cwVA hts (TW.cons _) lv_X6_withFault ml_RX6_64 ⟨rfl, rfl⟩ ⟨(Nat.le_of_ble_eq_true rfl), (Nat.le_of_ble_eq_true rfl)⟩) (pWV hK hP hD (ci := 5) rfl rfl) rfl rfl hl.1 rfl (lv_room (Nat.le_of_ble_eq_true rfl)) dX6_laws_73 ⟨Nat.le_refl _, Nat.le_refl _⟩) hD hS (ad_C cI cS _ _ _) (fun H locs hP hD hS => ?_)
                exact W.iret hx hb hr (fun t ht hW => ⟨⟨_, (), rfl, (Prod.mk.inj (Option.some.inj hF)).1, by show va_P _ _ _ t.heap; rw [ht, ← (Prod.mk.inj (Option.some.inj hF)).2]; exact hP⟩, hS.F ht⟩) hS.2.2 dX6_laws_76
            · refine rR (b := a0 24) hx hb hK.1 hP 28 1 (at_C_28 cI cS _ _) rfl h51 rfl dX6_laws_51 ?_
              refine lv_astore (lv' := [(6, .ref (a0 24)), (0, .ref (a0 0)), (1, .int x1), (2, .int x2), (3, .int x3), (4, .int x4), (5, .int x5)]) hx hb dX6_laws_52 hl (by decide) rfl (fun ls hl => ?_)
              refine lv_aload hx hb dX6_laws_54 (lv_at hl 0 rfl) ?_
              refine lv_iload_n hx hb dX6_laws_56 rfl (lv_at hl 3 rfl) ?_
              refine lv_iload_n hx hb dX6_laws_57 rfl (lv_at hl 4 rfl) ?_
              refine lv_iload hx hb dX6_laws_58 (lv_at hl 5 rfl) ?_
              obtain ⟨v60, h60, hF⟩ := bd hF
              refine cRe (va_runV (As := [.int x2, .int x3, .int x4]) (rest := []) ⟨hx, hb, hml, hown, hts⟩ (c_X3_faultOfTaking l D cI cS (sa a0 24) (sb t0 24) x2 x3 x4 v60 h60) (cwVA hts (TW.cons _) lv_X3_faultOfTaking ml_RX6_60 ⟨rfl, rfl⟩ ⟨(Nat.le_of_ble_eq_true rfl), (Nat.le_of_ble_eq_true rfl)⟩) (pRV hK (hP.sub [24, 25] (su_C_S24 cI cS _ _)) (ci := 3) rfl rfl) rfl rfl hl.1 rfl (lv_room (Nat.le_of_ble_eq_true rfl)) dX6_laws_60 ⟨Nat.le_refl _, Nat.le_refl _⟩) ?_
              refine lv_istore (lv' := [(7, .int v60), (6, .ref (a0 24)), (0, .ref (a0 0)), (1, .int x1), (2, .int x2), (3, .int x3), (4, .int x4), (5, .int x5)]) hx hb dX6_laws_63 hl (by decide) rfl (fun ls hl => ?_)
              refine lv_iload hx hb dX6_laws_65 (lv_at hl 0 rfl) ?_
              refine lv_if_eq (tgt := 77) hx hb dX6_laws_67 (by decide) (fun c67 => ?_) (fun c67 => ?_)
              · replace hF := ip c67 hF
                refine lv_iconst (v := 0) hx hb dX6_laws_77 (by decide) ?_
                refine lv_istore (lv' := [(8, .int 0), (7, .int v60), (6, .ref (a0 24)), (0, .ref (a0 0)), (1, .int x1), (2, .int x2), (3, .int x3), (4, .int x4), (5, .int x5)]) hx hb dX6_laws_78 hl (by decide) rfl (fun ls hl => ?_)
                have L80 : ∀ (n_80 : Nat) (x8_80 : Int32) (H : Heap) (locs : List Loc) (ls : Array Slot), va_P D vwCl (pC cI cS a0 t0) H → va_D (AD (pC cI cS a0 t0)) (pC cI cS a0 t0) → va_S (AD (pC cI cS a0 t0)) s.heap H locs → lv_has ls 9 [(0, .ref (a0 0)), (3, .int x3), (4, .int x4), (5, .int x5), (6, .ref (a0 24)), (8, .int x8_80)] → F_X6_laws_L80 x1 x2 x3 x4 x5 2 t0 (fun x8_k80 => F_X6_laws_J115 x1 x2 x3 x4 x5 2 t0) n_80 x8_80 = some (r, t') → W p l e rm_X6_laws s m [.ref (a0 0), .int x1, .int x2, .int x3, .int x4, .int x5].toArray below meth c H locs 0 0 (MQ below (va_Qi (fun x (_ : Unit) => x = r) (fun _ t => va_P D vwCl (pC cI cS a0 t') t.heap) (AD (pC cI cS a0 t0))) [.ref (a0 0), .int x1, .int x2, .int x3, .int x4, .int x5].toArray s 0 0 (AD (pC cI cS a0 t0))) (F0 m 80 ls []) := by
                  intro n_80
                  induction n_80 with
                  | zero => intro x8_80 H locs ls hP hD hS hl hF; exact nomatch hF
                  | succ n_80 ih80 =>
                    intro x8_80 H locs ls hP hD hS hl hF
                    rw [F_X6_laws_L80.eq_2] at hF
                    refine lv_iload hx hb dX6_laws_80 (lv_at hl 5 rfl) ?_
                    refine lv_iload hx hb dX6_laws_82 (lv_at hl 2 rfl) ?_
                    refine lv_icmp_ge (tgt := 115) hx hb dX6_laws_84 (by decide) (fun c84 => ?_) (fun c84 => ?_)
                    · replace hF := ip c84 hF
                      have hF : F_X6_laws_J115 x1 x2 x3 x4 x5 2 t0 = some (r, t') := hF
                      unfold F_X6_laws_J115 at hF
                      refine lv_aload_n hx hb dX6_laws_115 rfl (lv_at hl 0 rfl) ?_
                      refine lv_aload hx hb dX6_laws_116 (lv_at hl 4 rfl) ?_
                      refine lv_iload_n hx hb dX6_laws_118 rfl (lv_at hl 1 rfl) ?_
                      refine lv_iload hx hb dX6_laws_119 (lv_at hl 2 rfl) ?_
                      refine lv_iload hx hb dX6_laws_121 (lv_at hl 3 rfl) ?_
                      obtain ⟨v123, h123, hF⟩ := bd hF
                      refine cRe (va_runS (As := [.ref (a0 24), .int x3, .int x4, .int x5]) (rest := [.ref (a0 0)]) ⟨hx, hb, hml, hown, hts⟩ (c_X6_lawsBy l D cI cS (sa a0 24) (sb t0 24) x3 x4 x5 v123 h123) (cwSA hts (TW.cons _) ls_X6_lawsBy ml_RX6_182 ⟨rfl, rfl⟩ ⟨(Nat.le_of_ble_eq_true rfl), (Nat.le_of_ble_eq_true rfl)⟩) (pRS hK (hP.sub [24, 25] (su_C_S24 cI cS _ _))) rfl rfl hl.1 rfl (lv_room (Nat.le_of_ble_eq_true rfl)) dX6_laws_123 ⟨Nat.le_refl _, Nat.le_refl _⟩) ?_
                      obtain ⟨v126, u126, h126, hF⟩ := bd2 hF
                      refine cAe (ws' := pC cI cS a0 u126) (va_runV (As := [.int v123]) (rest := []) ⟨hx, hb, hml, hown, hts⟩ (c_X6_withoutFault l D cI cS a0 t0 v123 v126 u126 h126) (cwVA hts (TW.cons _) lv_X6_withoutFault ml_RX6_53 ⟨rfl, rfl⟩ ⟨(Nat.le_of_ble_eq_true rfl), (Nat.le_of_ble_eq_true rfl)⟩) (pWV hK hP hD (ci := 5) rfl rfl) rfl rfl hl.1 rfl (lv_room (Nat.le_of_ble_eq_true rfl)) dX6_laws_126 ⟨Nat.le_refl _, Nat.le_refl _⟩) hD hS (ad_C cI cS _ _ _) (fun H locs hP hD hS => ?_)
                      exact W.iret hx hb hr (fun t ht hW => ⟨⟨_, (), rfl, (Prod.mk.inj (Option.some.inj hF)).1, by show va_P _ _ _ t.heap; rw [ht, ← (Prod.mk.inj (Option.some.inj hF)).2]; exact hP⟩, hS.F ht⟩) hS.2.2 dX6_laws_129
                    · replace hF := iq c84 hF
                      refine lv_aload hx hb dX6_laws_87 (lv_at hl 4 rfl) ?_
                      refine lv_iload_n hx hb dX6_laws_89 rfl (lv_at hl 1 rfl) ?_
                      refine lv_iload hx hb dX6_laws_90 (lv_at hl 5 rfl) ?_
                      refine lv_iadd hx hb dX6_laws_92 ?_
                      obtain ⟨v93, h93, hF⟩ := bd hF
                      refine cRe (va_runV (As := [.int (x3 + x8_80)]) (rest := []) ⟨hx, hb, hml, hown, hts⟩ (c_X3_at l D cI cS (sa a0 24) (sb t0 24) (x3 + x8_80) v93 h93) (cwVA hts (TW.cons _) lv_X3_at ml_RX6_179 ⟨rfl, rfl⟩ ⟨(Nat.le_of_ble_eq_true rfl), (Nat.le_of_ble_eq_true rfl)⟩) (pRV hK (hP.sub [24, 25] (su_C_S24 cI cS _ _)) (ci := 3) rfl rfl) rfl rfl hl.1 rfl (lv_room (Nat.le_of_ble_eq_true rfl)) dX6_laws_93 ⟨Nat.le_refl _, Nat.le_refl _⟩) ?_
                      obtain ⟨v96, h96, hF⟩ := bd hF
                      refine cRb (va_runS (As := [.int v93]) (rest := []) ⟨hx, hb, hml, hown, hts⟩ (c_X6_isShape l D cI cS v93 v96 h96) (cwSA hts (TW.cons _) ls_X6_isShape ml_RX6_168 ⟨rfl, rfl⟩ ⟨(Nat.le_of_ble_eq_true rfl), (Nat.le_of_ble_eq_true rfl)⟩) (pRS hK pnil) rfl rfl hl.1 rfl (lv_room (Nat.le_of_ble_eq_true rfl)) dX6_laws_96 ⟨Nat.le_refl _, Nat.le_refl _⟩) (fun b96 => ?_)
                      refine lv_if_ne (tgt := 109) hx hb dX6_laws_99 (by decide) (fun c99 => ?_) (fun c99 => ?_)
                      · replace hF := iq c99 hF
                        refine lv_iinc (v := (x8_80 + 1)) (lv' := [(8, .int (x8_80 + 1)), (0, .ref (a0 0)), (3, .int x3), (4, .int x4), (5, .int x5), (6, .ref (a0 24))]) hx hb dX6_laws_109 hl (k := 5) rfl rfl (by decide) rfl (fun ls hl => ?_)
                        refine lv_goto (tgt := 80) hx hb dX6_laws_112 (by decide) ?_
                        exact ih80 (x8_80 + 1) _ _ _ hP hD hS (lv_sub hl [1, 2, 3, 4, 5, 0] rfl) hF
                      · replace hF := ip c99 hF
                        refine lv_aload_n hx hb dX6_laws_102 rfl (lv_at hl 0 rfl) ?_
                        refine lv_bipush (v := (-2)) hx hb dX6_laws_103 (by decide) ?_
                        obtain ⟨v105, u105, h105, hF⟩ := bd2 hF
                        refine cAe (ws' := pC cI cS a0 u105) (va_runV (As := [.int (-2)]) (rest := []) ⟨hx, hb, hml, hown, hts⟩ (c_X6_withoutFault l D cI cS a0 t0 (-2) v105 u105 h105) (cwVA hts (TW.cons _) lv_X6_withoutFault ml_RX6_53 ⟨rfl, rfl⟩ ⟨(Nat.le_of_ble_eq_true rfl), (Nat.le_of_ble_eq_true rfl)⟩) (pWV hK hP hD (ci := 5) rfl rfl) rfl rfl hl.1 rfl (lv_room (Nat.le_of_ble_eq_true rfl)) dX6_laws_105 ⟨Nat.le_refl _, Nat.le_refl _⟩) hD hS (ad_C cI cS _ _ _) (fun H locs hP hD hS => ?_)
                        exact W.iret hx hb hr (fun t ht hW => ⟨⟨_, (), rfl, (Prod.mk.inj (Option.some.inj hF)).1, by show va_P _ _ _ t.heap; rw [ht, ← (Prod.mk.inj (Option.some.inj hF)).2]; exact hP⟩, hS.F ht⟩) hS.2.2 dX6_laws_108
                exact L80 1000 0 _ _ _ hP hD hS (lv_sub hl [3, 6, 7, 8, 2, 0] rfl) hF
              · replace hF := iq c67 hF
                refine lv_aload_n hx hb dX6_laws_70 rfl (lv_at hl 2 rfl) ?_
                refine lv_iload hx hb dX6_laws_71 (lv_at hl 0 rfl) ?_
                obtain ⟨v73, u73, h73, hF⟩ := bd2 hF
                refine cAe (ws' := pC cI cS a0 u73) (va_runV (As := [.int v60]) (rest := []) ⟨hx, hb, hml, hown, hts⟩ (c_X6_withFault l D cI cS a0 t0 v60 v73 u73 h73) (cwVA hts (TW.cons _) lv_X6_withFault ml_RX6_64 ⟨rfl, rfl⟩ ⟨(Nat.le_of_ble_eq_true rfl), (Nat.le_of_ble_eq_true rfl)⟩) (pWV hK hP hD (ci := 5) rfl rfl) rfl rfl hl.1 rfl (lv_room (Nat.le_of_ble_eq_true rfl)) dX6_laws_73 ⟨Nat.le_refl _, Nat.le_refl _⟩) hD hS (ad_C cI cS _ _ _) (fun H locs hP hD hS => ?_)
                exact W.iret hx hb hr (fun t ht hW => ⟨⟨_, (), rfl, (Prod.mk.inj (Option.some.inj hF)).1, by show va_P _ _ _ t.heap; rw [ht, ← (Prod.mk.inj (Option.some.inj hF)).2]; exact hP⟩, hS.F ht⟩) hS.2.2 dX6_laws_76
            · refine rR (b := a0 26) hx hb hK.1 hP 28 1 (at_C_28 cI cS _ _) rfl h51 rfl dX6_laws_51 ?_
              refine lv_astore (lv' := [(6, .ref (a0 26)), (0, .ref (a0 0)), (1, .int x1), (2, .int x2), (3, .int x3), (4, .int x4), (5, .int x5)]) hx hb dX6_laws_52 hl (by decide) rfl (fun ls hl => ?_)
              refine lv_aload hx hb dX6_laws_54 (lv_at hl 0 rfl) ?_
              refine lv_iload_n hx hb dX6_laws_56 rfl (lv_at hl 3 rfl) ?_
              refine lv_iload_n hx hb dX6_laws_57 rfl (lv_at hl 4 rfl) ?_
              refine lv_iload hx hb dX6_laws_58 (lv_at hl 5 rfl) ?_
              obtain ⟨v60, h60, hF⟩ := bd hF
              refine cRe (va_runV (As := [.int x2, .int x3, .int x4]) (rest := []) ⟨hx, hb, hml, hown, hts⟩ (c_X3_faultOfTaking l D cI cS (sa a0 26) (sb t0 26) x2 x3 x4 v60 h60) (cwVA hts (TW.cons _) lv_X3_faultOfTaking ml_RX6_60 ⟨rfl, rfl⟩ ⟨(Nat.le_of_ble_eq_true rfl), (Nat.le_of_ble_eq_true rfl)⟩) (pRV hK (hP.sub [26, 27] (su_C_S26 cI cS _ _)) (ci := 3) rfl rfl) rfl rfl hl.1 rfl (lv_room (Nat.le_of_ble_eq_true rfl)) dX6_laws_60 ⟨Nat.le_refl _, Nat.le_refl _⟩) ?_
              refine lv_istore (lv' := [(7, .int v60), (6, .ref (a0 26)), (0, .ref (a0 0)), (1, .int x1), (2, .int x2), (3, .int x3), (4, .int x4), (5, .int x5)]) hx hb dX6_laws_63 hl (by decide) rfl (fun ls hl => ?_)
              refine lv_iload hx hb dX6_laws_65 (lv_at hl 0 rfl) ?_
              refine lv_if_eq (tgt := 77) hx hb dX6_laws_67 (by decide) (fun c67 => ?_) (fun c67 => ?_)
              · replace hF := ip c67 hF
                refine lv_iconst (v := 0) hx hb dX6_laws_77 (by decide) ?_
                refine lv_istore (lv' := [(8, .int 0), (7, .int v60), (6, .ref (a0 26)), (0, .ref (a0 0)), (1, .int x1), (2, .int x2), (3, .int x3), (4, .int x4), (5, .int x5)]) hx hb dX6_laws_78 hl (by decide) rfl (fun ls hl => ?_)
                have L80 : ∀ (n_80 : Nat) (x8_80 : Int32) (H : Heap) (locs : List Loc) (ls : Array Slot), va_P D vwCl (pC cI cS a0 t0) H → va_D (AD (pC cI cS a0 t0)) (pC cI cS a0 t0) → va_S (AD (pC cI cS a0 t0)) s.heap H locs → lv_has ls 9 [(0, .ref (a0 0)), (3, .int x3), (4, .int x4), (5, .int x5), (6, .ref (a0 26)), (8, .int x8_80)] → F_X6_laws_L80 x1 x2 x3 x4 x5 3 t0 (fun x8_k80 => F_X6_laws_J115 x1 x2 x3 x4 x5 3 t0) n_80 x8_80 = some (r, t') → W p l e rm_X6_laws s m [.ref (a0 0), .int x1, .int x2, .int x3, .int x4, .int x5].toArray below meth c H locs 0 0 (MQ below (va_Qi (fun x (_ : Unit) => x = r) (fun _ t => va_P D vwCl (pC cI cS a0 t') t.heap) (AD (pC cI cS a0 t0))) [.ref (a0 0), .int x1, .int x2, .int x3, .int x4, .int x5].toArray s 0 0 (AD (pC cI cS a0 t0))) (F0 m 80 ls []) := by
                  intro n_80
                  induction n_80 with
                  | zero => intro x8_80 H locs ls hP hD hS hl hF; exact nomatch hF
                  | succ n_80 ih80 =>
                    intro x8_80 H locs ls hP hD hS hl hF
                    rw [F_X6_laws_L80.eq_2] at hF
                    refine lv_iload hx hb dX6_laws_80 (lv_at hl 5 rfl) ?_
                    refine lv_iload hx hb dX6_laws_82 (lv_at hl 2 rfl) ?_
                    refine lv_icmp_ge (tgt := 115) hx hb dX6_laws_84 (by decide) (fun c84 => ?_) (fun c84 => ?_)
                    · replace hF := ip c84 hF
                      have hF : F_X6_laws_J115 x1 x2 x3 x4 x5 3 t0 = some (r, t') := hF
                      unfold F_X6_laws_J115 at hF
                      refine lv_aload_n hx hb dX6_laws_115 rfl (lv_at hl 0 rfl) ?_
                      refine lv_aload hx hb dX6_laws_116 (lv_at hl 4 rfl) ?_
                      refine lv_iload_n hx hb dX6_laws_118 rfl (lv_at hl 1 rfl) ?_
                      refine lv_iload hx hb dX6_laws_119 (lv_at hl 2 rfl) ?_
                      refine lv_iload hx hb dX6_laws_121 (lv_at hl 3 rfl) ?_
                      obtain ⟨v123, h123, hF⟩ := bd hF
                      refine cRe (va_runS (As := [.ref (a0 26), .int x3, .int x4, .int x5]) (rest := [.ref (a0 0)]) ⟨hx, hb, hml, hown, hts⟩ (c_X6_lawsBy l D cI cS (sa a0 26) (sb t0 26) x3 x4 x5 v123 h123) (cwSA hts (TW.cons _) ls_X6_lawsBy ml_RX6_182 ⟨rfl, rfl⟩ ⟨(Nat.le_of_ble_eq_true rfl), (Nat.le_of_ble_eq_true rfl)⟩) (pRS hK (hP.sub [26, 27] (su_C_S26 cI cS _ _))) rfl rfl hl.1 rfl (lv_room (Nat.le_of_ble_eq_true rfl)) dX6_laws_123 ⟨Nat.le_refl _, Nat.le_refl _⟩) ?_
                      obtain ⟨v126, u126, h126, hF⟩ := bd2 hF
                      refine cAe (ws' := pC cI cS a0 u126) (va_runV (As := [.int v123]) (rest := []) ⟨hx, hb, hml, hown, hts⟩ (c_X6_withoutFault l D cI cS a0 t0 v123 v126 u126 h126) (cwVA hts (TW.cons _) lv_X6_withoutFault ml_RX6_53 ⟨rfl, rfl⟩ ⟨(Nat.le_of_ble_eq_true rfl), (Nat.le_of_ble_eq_true rfl)⟩) (pWV hK hP hD (ci := 5) rfl rfl) rfl rfl hl.1 rfl (lv_room (Nat.le_of_ble_eq_true rfl)) dX6_laws_126 ⟨Nat.le_refl _, Nat.le_refl _⟩) hD hS (ad_C cI cS _ _ _) (fun H locs hP hD hS => ?_)
                      exact W.iret hx hb hr (fun t ht hW => ⟨⟨_, (), rfl, (Prod.mk.inj (Option.some.inj hF)).1, by show va_P _ _ _ t.heap; rw [ht, ← (Prod.mk.inj (Option.some.inj hF)).2]; exact hP⟩, hS.F ht⟩) hS.2.2 dX6_laws_129
                    · replace hF := iq c84 hF
                      refine lv_aload hx hb dX6_laws_87 (lv_at hl 4 rfl) ?_
                      refine lv_iload_n hx hb dX6_laws_89 rfl (lv_at hl 1 rfl) ?_
                      refine lv_iload hx hb dX6_laws_90 (lv_at hl 5 rfl) ?_
                      refine lv_iadd hx hb dX6_laws_92 ?_
                      obtain ⟨v93, h93, hF⟩ := bd hF
                      refine cRe (va_runV (As := [.int (x3 + x8_80)]) (rest := []) ⟨hx, hb, hml, hown, hts⟩ (c_X3_at l D cI cS (sa a0 26) (sb t0 26) (x3 + x8_80) v93 h93) (cwVA hts (TW.cons _) lv_X3_at ml_RX6_179 ⟨rfl, rfl⟩ ⟨(Nat.le_of_ble_eq_true rfl), (Nat.le_of_ble_eq_true rfl)⟩) (pRV hK (hP.sub [26, 27] (su_C_S26 cI cS _ _)) (ci := 3) rfl rfl) rfl rfl hl.1 rfl (lv_room (Nat.le_of_ble_eq_true rfl)) dX6_laws_93 ⟨Nat.le_refl _, Nat.le_refl _⟩) ?_
                      obtain ⟨v96, h96, hF⟩ := bd hF
                      refine cRb (va_runS (As := [.int v93]) (rest := []) ⟨hx, hb, hml, hown, hts⟩ (c_X6_isShape l D cI cS v93 v96 h96) (cwSA hts (TW.cons _) ls_X6_isShape ml_RX6_168 ⟨rfl, rfl⟩ ⟨(Nat.le_of_ble_eq_true rfl), (Nat.le_of_ble_eq_true rfl)⟩) (pRS hK pnil) rfl rfl hl.1 rfl (lv_room (Nat.le_of_ble_eq_true rfl)) dX6_laws_96 ⟨Nat.le_refl _, Nat.le_refl _⟩) (fun b96 => ?_)
                      refine lv_if_ne (tgt := 109) hx hb dX6_laws_99 (by decide) (fun c99 => ?_) (fun c99 => ?_)
                      · replace hF := iq c99 hF
                        refine lv_iinc (v := (x8_80 + 1)) (lv' := [(8, .int (x8_80 + 1)), (0, .ref (a0 0)), (3, .int x3), (4, .int x4), (5, .int x5), (6, .ref (a0 26))]) hx hb dX6_laws_109 hl (k := 5) rfl rfl (by decide) rfl (fun ls hl => ?_)
                        refine lv_goto (tgt := 80) hx hb dX6_laws_112 (by decide) ?_
                        exact ih80 (x8_80 + 1) _ _ _ hP hD hS (lv_sub hl [1, 2, 3, 4, 5, 0] rfl) hF
                      · replace hF := ip c99 hF
                        refine lv_aload_n hx hb dX6_laws_102 rfl (lv_at hl 0 rfl) ?_
                        refine lv_bipush (v := (-2)) hx hb dX6_laws_103 (by decide) ?_
                        obtain ⟨v105, u105, h105, hF⟩ := bd2 hF
                        refine cAe (ws' := pC cI cS a0 u105) (va_runV (As := [.int (-2)]) (rest := []) ⟨hx, hb, hml, hown, hts⟩ (c_X6_withoutFault l D cI cS a0 t0 (-2) v105 u105 h105) (cwVA hts (TW.cons _) lv_X6_withoutFault ml_RX6_53 ⟨rfl, rfl⟩ ⟨(Nat.le_of_ble_eq_true rfl), (Nat.le_of_ble_eq_true rfl)⟩) (pWV hK hP hD (ci := 5) rfl rfl) rfl rfl hl.1 rfl (lv_room (Nat.le_of_ble_eq_true rfl)) dX6_laws_105 ⟨Nat.le_refl _, Nat.le_refl _⟩) hD hS (ad_C cI cS _ _ _) (fun H locs hP hD hS => ?_)
                        exact W.iret hx hb hr (fun t ht hW => ⟨⟨_, (), rfl, (Prod.mk.inj (Option.some.inj hF)).1, by show va_P _ _ _ t.heap; rw [ht, ← (Prod.mk.inj (Option.some.inj hF)).2]; exact hP⟩, hS.F ht⟩) hS.2.2 dX6_laws_108
                exact L80 1000 0 _ _ _ hP hD hS (lv_sub hl [3, 6, 7, 8, 2, 0] rfl) hF
              · replace hF := iq c67 hF
                refine lv_aload_n hx hb dX6_laws_70 rfl (lv_at hl 2 rfl) ?_
                refine lv_iload hx hb dX6_laws_71 (lv_at hl 0 rfl) ?_
                obtain ⟨v73, u73, h73, hF⟩ := bd2 hF
                refine cAe (ws' := pC cI cS a0 u73) (va_runV (As := [.int v60]) (rest := []) ⟨hx, hb, hml, hown, hts⟩ (c_X6_withFault l D cI cS a0 t0 v60 v73 u73 h73) (cwVA hts (TW.cons _) lv_X6_withFault ml_RX6_64 ⟨rfl, rfl⟩ ⟨(Nat.le_of_ble_eq_true rfl), (Nat.le_of_ble_eq_true rfl)⟩) (pWV hK hP hD (ci := 5) rfl rfl) rfl rfl hl.1 rfl (lv_room (Nat.le_of_ble_eq_true rfl)) dX6_laws_73 ⟨Nat.le_refl _, Nat.le_refl _⟩) hD hS (ad_C cI cS _ _ _) (fun H locs hP hD hS => ?_)
                exact W.iret hx hb hr (fun t ht hW => ⟨⟨_, (), rfl, (Prod.mk.inj (Option.some.inj hF)).1, by show va_P _ _ _ t.heap; rw [ht, ← (Prod.mk.inj (Option.some.inj hF)).2]; exact hP⟩, hS.F ht⟩) hS.2.2 dX6_laws_76
          · replace hF := iq c36 hF
            refine lv_aload_n hx hb dX6_laws_39 rfl (lv_at hl 0 rfl) ?_
            refine lv_bipush (v := (-2)) hx hb dX6_laws_40 (by decide) ?_
            obtain ⟨v42, u42, h42, hF⟩ := bd2 hF
            refine cAe (ws' := pC cI cS a0 u42) (va_runV (As := [.int (-2)]) (rest := []) ⟨hx, hb, hml, hown, hts⟩ (c_X6_withoutFault l D cI cS a0 t0 (-2) v42 u42 h42) (cwVA hts (TW.cons _) lv_X6_withoutFault ml_RX6_53 ⟨rfl, rfl⟩ ⟨(Nat.le_of_ble_eq_true rfl), (Nat.le_of_ble_eq_true rfl)⟩) (pWV hK hP hD (ci := 5) rfl rfl) rfl rfl hl.1 rfl (lv_room (Nat.le_of_ble_eq_true rfl)) dX6_laws_42 ⟨Nat.le_refl _, Nat.le_refl _⟩) hD hS (ad_C cI cS _ _ _) (fun H locs hP hD hS => ?_)
            exact W.iret hx hb hr (fun t ht hW => ⟨⟨_, (), rfl, (Prod.mk.inj (Option.some.inj hF)).1, by show va_P _ _ _ t.heap; rw [ht, ← (Prod.mk.inj (Option.some.inj hF)).2]; exact hP⟩, hS.F ht⟩) hS.2.2 dX6_laws_45
  · replace hF := ip c4 hF
    refine lv_aload_n hx hb dX6_laws_7 rfl (lv_at hl 0 rfl) ?_
    refine lv_iconst (v := (-1)) hx hb dX6_laws_8 (by decide) ?_
    obtain ⟨v9, u9, h9, hF⟩ := bd2 hF
    refine cAe (ws' := pC cI cS a0 u9) (va_runV (As := [.int (-1)]) (rest := []) ⟨hx, hb, hml, hown, hts⟩ (c_X6_withoutFault l D cI cS a0 t0 (-1) v9 u9 h9) (cwVA hts (TW.cons _) lv_X6_withoutFault ml_RX6_53 ⟨rfl, rfl⟩ ⟨(Nat.le_of_ble_eq_true rfl), (Nat.le_of_ble_eq_true rfl)⟩) (pWV hK hP hD (ci := 5) rfl rfl) rfl rfl hl.1 rfl (lv_room (Nat.le_of_ble_eq_true rfl)) dX6_laws_9 ⟨Nat.le_refl _, Nat.le_refl _⟩) hD hS (ad_C cI cS _ _ _) (fun H locs hP hD hS => ?_)
    exact W.iret hx hb hr (fun t ht hW => ⟨⟨_, (), rfl, (Prod.mk.inj (Option.some.inj hF)).1, by show va_P _ _ _ t.heap; rw [ht, ← (Prod.mk.inj (Option.some.inj hF)).2]; exact hP⟩, hS.F ht⟩) hS.2.2 dX6_laws_12
noncomputable def F_X6_reading (t0 : ST) (x1 : Int32) (x2 : Int32) (x3 : Int32) : Option (Int32 × ST) :=
  (F_X0_has (sb t0 3) x1).bind fun v5 =>
  if v5 = 0 then
    some ((-1), t0)
  else
  if x2 < 0 then
    some ((-2), t0)
  else
  if 99 < x2 then
    some ((-2), t0)
  else
  (F_X6_isShape x3).bind fun v24 =>
  if v24 = 0 then
    some ((-2), t0)
  else
  b2 (F_X2_add (sb t0 16) x1 x2 x3) fun v40 u40 =>
  some (v40, (gr t0 16 4 u40))
abbrev rm_X6_reading : Room := { frames := 1, cells := 0, slots := 0, locals := 23 }
set_option maxHeartbeats 4000000 in
set_option maxRecDepth 100000 in
theorem c_X6_reading (l : Launch) (D : va_G) (cI cS : ClassId) (a0 : Nat → Nat) (t0 : ST) (x1 : Int32) (x2 : Int32) (x3 : Int32) (r : Int32) (t' : ST) (hF : F_X6_reading t0 x1 x2 x3 = some (r, t')) : Met l yX6_reading (Cond.code yX6_reading cX6_reading 4 (some .int) :: ALL) rm_X6_reading (PreW D cI cS [.ref (a0 0), .int x1, .int x2, .int x3] (pC cI cS a0 t0)) (va_Qi (fun x (_ : Unit) => x = r) (fun _ t => va_P D vwCl (pC cI cS a0 t') t.heap) (AD (pC cI cS a0 t0))) 0 0 (AD (pC cI cS a0 t0)) := by
  refine mW l D cI cS (by decide) (Nat.le_of_ble_eq_true rfl) ?_
  intro p e s m below meth c ls hx hb hr hml hown hts hlocks hP hK hD hS hl
  have hown : s.vm.findClass RX6 = some m.cls := hown
  have hl : lv_has ls 4 [(0, .ref (a0 0)), (1, .int x1), (2, .int x2), (3, .int x3)] := hl
  unfold F_X6_reading at hF
  refine lv_aload_n hx hb dX6_reading_0 rfl (lv_at hl 0 rfl) ?_
  refine va_get (D := D) (ci := 5) (v := .ref (a0 3)) (C := RX6) (T := TX6) (N := 8) hx hb hts (fun w h => List.mem_cons_of_mem _ (inAX6 w h)) hown hK.1 hP 0 (at_C_0 cI cS _ _) rfl 1 (by decide) (hts _ (List.mem_cons_of_mem _ fl_RX6_21)) (fun _ h9 => h9) rfl dX6_reading_1 ?_
  refine lv_iload_n hx hb dX6_reading_4 rfl (lv_at hl 1 rfl) ?_
  obtain ⟨v5, h5, hF⟩ := bd hF
  refine cRb (va_runV (As := [.int x1]) (rest := []) ⟨hx, hb, hml, hown, hts⟩ (c_X0_has l D cI cS (sa a0 3) (sb t0 3) x1 v5 h5) (cwVA hts (TW.cons _) lv_X0_has ml_RX6_92 ⟨rfl, rfl⟩ ⟨(Nat.le_of_ble_eq_true rfl), (Nat.le_of_ble_eq_true rfl)⟩) (pRV hK (hP.sub [3, 4, 5, 6] (su_C_B3 cI cS _ _)) (ci := 0) rfl rfl) rfl rfl hl.1 rfl (lv_room (Nat.le_of_ble_eq_true rfl)) dX6_reading_5 ⟨Nat.le_refl _, Nat.le_refl _⟩) (fun b5 => ?_)
  refine lv_if_ne (tgt := 13) hx hb dX6_reading_8 (by decide) (fun c8 => ?_) (fun c8 => ?_)
  · replace hF := iq c8 hF
    refine lv_iload_n hx hb dX6_reading_13 rfl (lv_at hl 2 rfl) ?_
    refine lv_if_lt (tgt := 30) hx hb dX6_reading_14 (by decide) (fun c14 => ?_) (fun c14 => ?_)
    · replace hF := ip c14 hF
      refine lv_bipush (v := (-2)) hx hb dX6_reading_30 (by decide) ?_
      exact W.iret hx hb hr (fun t ht hW => ⟨⟨_, (), rfl, (Prod.mk.inj (Option.some.inj hF)).1, by show va_P _ _ _ t.heap; rw [ht, ← (Prod.mk.inj (Option.some.inj hF)).2]; exact hP⟩, hS.F ht⟩) hS.2.2 dX6_reading_32
    · replace hF := iq c14 hF
      refine lv_iload_n hx hb dX6_reading_17 rfl (lv_at hl 2 rfl) ?_
      refine lv_bipush (v := 99) hx hb dX6_reading_18 (by decide) ?_
      refine lv_icmp_gt (tgt := 30) hx hb dX6_reading_20 (by decide) (fun c20 => ?_) (fun c20 => ?_)
      · replace hF := ip c20 hF
        refine lv_bipush (v := (-2)) hx hb dX6_reading_30 (by decide) ?_
        exact W.iret hx hb hr (fun t ht hW => ⟨⟨_, (), rfl, (Prod.mk.inj (Option.some.inj hF)).1, by show va_P _ _ _ t.heap; rw [ht, ← (Prod.mk.inj (Option.some.inj hF)).2]; exact hP⟩, hS.F ht⟩) hS.2.2 dX6_reading_32
      · replace hF := iq c20 hF
        refine lv_iload_n hx hb dX6_reading_23 rfl (lv_at hl 3 rfl) ?_
        obtain ⟨v24, h24, hF⟩ := bd hF
        refine cRb (va_runS (As := [.int x3]) (rest := []) ⟨hx, hb, hml, hown, hts⟩ (c_X6_isShape l D cI cS x3 v24 h24) (cwSA hts (TW.cons _) ls_X6_isShape ml_RX6_168 ⟨rfl, rfl⟩ ⟨(Nat.le_of_ble_eq_true rfl), (Nat.le_of_ble_eq_true rfl)⟩) (pRS hK pnil) rfl rfl hl.1 rfl (lv_room (Nat.le_of_ble_eq_true rfl)) dX6_reading_24 ⟨Nat.le_refl _, Nat.le_refl _⟩) (fun b24 => ?_)
        refine lv_if_ne (tgt := 33) hx hb dX6_reading_27 (by decide) (fun c27 => ?_) (fun c27 => ?_)
        · replace hF := iq c27 hF
          refine lv_aload_n hx hb dX6_reading_33 rfl (lv_at hl 0 rfl) ?_
          refine va_get (D := D) (ci := 5) (v := .ref (a0 16)) (C := RX6) (T := TX6) (N := 8) hx hb hts (fun w h => List.mem_cons_of_mem _ (inAX6 w h)) hown hK.1 hP 0 (at_C_0 cI cS _ _) rfl 4 (by decide) (hts _ (List.mem_cons_of_mem _ fl_RX6_38)) (fun _ h9 => h9) rfl dX6_reading_34 ?_
          refine lv_iload_n hx hb dX6_reading_37 rfl (lv_at hl 1 rfl) ?_
          refine lv_iload_n hx hb dX6_reading_38 rfl (lv_at hl 2 rfl) ?_
          refine lv_iload_n hx hb dX6_reading_39 rfl (lv_at hl 3 rfl) ?_
          obtain ⟨v40, u40, h40, hF⟩ := bd2 hF
          refine cWe (ws' := pC cI cS a0 (gr t0 16 4 u40)) (va_runV (As := [.int x1, .int x2, .int x3]) (rest := []) ⟨hx, hb, hml, hown, hts⟩ (c_X2_add l D cI cS (sa a0 16) (sb t0 16) x1 x2 x3 v40 u40 h40) (cwVA hts (TW.cons _) lv_X2_add ml_RX6_189 ⟨rfl, rfl⟩ ⟨(Nat.le_of_ble_eq_true rfl), (Nat.le_of_ble_eq_true rfl)⟩) (pWV hK (hP.sub [16, 17, 18, 19] (su_C_D16 cI cS _ _)) (hD.sub [16, 17, 18, 19] (by decide) (sm_C_D16 cI cS _ _)) (ci := 2) rfl rfl) rfl rfl hl.1 rfl (lv_room (Nat.le_of_ble_eq_true rfl)) dX6_reading_40 ⟨Nat.le_refl _, Nat.le_refl _⟩) hP hD hS [16, 17, 18, 19] (sm_C_D16 cI cS _ _) [.inl 0, .inl 1, .inl 2, .inl 3, .inl 4, .inl 5, .inl 6, .inl 7, .inl 8, .inl 9, .inl 10, .inl 11, .inl 12, .inl 13, .inl 14, .inl 15, .inr 0, .inr 1, .inr 2, .inr 3, .inl 20, .inl 21, .inl 22, .inl 23, .inl 24, .inl 25, .inl 26, .inl 27, .inl 28] (pn_C_D16 cI cS _ _ _) rfl (ad_C cI cS _ _ _) (fun H locs hP hD hS => ?_)
          exact W.iret hx hb hr (fun t ht hW => ⟨⟨_, (), rfl, (Prod.mk.inj (Option.some.inj hF)).1, by show va_P _ _ _ t.heap; rw [ht, ← (Prod.mk.inj (Option.some.inj hF)).2]; exact hP⟩, hS.F ht⟩) hS.2.2 dX6_reading_43
        · replace hF := ip c27 hF
          refine lv_bipush (v := (-2)) hx hb dX6_reading_30 (by decide) ?_
          exact W.iret hx hb hr (fun t ht hW => ⟨⟨_, (), rfl, (Prod.mk.inj (Option.some.inj hF)).1, by show va_P _ _ _ t.heap; rw [ht, ← (Prod.mk.inj (Option.some.inj hF)).2]; exact hP⟩, hS.F ht⟩) hS.2.2 dX6_reading_32
  · replace hF := ip c8 hF
    refine lv_iconst (v := (-1)) hx hb dX6_reading_11 (by decide) ?_
    exact W.iret hx hb hr (fun t ht hW => ⟨⟨_, (), rfl, (Prod.mk.inj (Option.some.inj hF)).1, by show va_P _ _ _ t.heap; rw [ht, ← (Prod.mk.inj (Option.some.inj hF)).2]; exact hP⟩, hS.F ht⟩) hS.2.2 dX6_reading_12
noncomputable def F_X6_back (t0 : ST) (x1 : Int32) : Option (Int32 × ST) :=
  if x1 < 0 then
    some ((-2), t0)
  else
  if x1 ≤ (t0 16 0) then
    some (((t0 16 0) - x1), (st t0 16 0 ((t0 16 0) - x1)))
  else
  some ((-2), t0)
abbrev rm_X6_back : Room := { frames := 0, cells := 0, slots := 0, locals := 0 }
set_option maxHeartbeats 4000000 in
set_option maxRecDepth 100000 in
theorem c_X6_back (l : Launch) (D : va_G) (cI cS : ClassId) (a0 : Nat → Nat) (t0 : ST) (x1 : Int32) (r : Int32) (t' : ST) (hF : F_X6_back t0 x1 = some (r, t')) : Met l yX6_back (Cond.code yX6_back cX6_back 2 (some .int) :: ALL) rm_X6_back (PreW D cI cS [.ref (a0 0), .int x1] (pC cI cS a0 t0)) (va_Qi (fun x (_ : Unit) => x = r) (fun _ t => va_P D vwCl (pC cI cS a0 t') t.heap) (AD (pC cI cS a0 t0))) 0 0 (AD (pC cI cS a0 t0)) := by
  refine mW l D cI cS (by decide) (Nat.le_of_ble_eq_true rfl) ?_
  intro p e s m below meth c ls hx hb hr hml hown hts hlocks hP hK hD hS hl
  have hown : s.vm.findClass RX6 = some m.cls := hown
  have hl : lv_has ls 2 [(0, .ref (a0 0)), (1, .int x1)] := hl
  unfold F_X6_back at hF
  refine lv_iload_n hx hb dX6_back_0 rfl (lv_at hl 1 rfl) ?_
  refine lv_if_lt (tgt := 15) hx hb dX6_back_1 (by decide) (fun c1 => ?_) (fun c1 => ?_)
  · replace hF := ip c1 hF
    refine lv_bipush (v := (-2)) hx hb dX6_back_15 (by decide) ?_
    exact W.iret hx hb hr (fun t ht hW => ⟨⟨_, (), rfl, (Prod.mk.inj (Option.some.inj hF)).1, by show va_P _ _ _ t.heap; rw [ht, ← (Prod.mk.inj (Option.some.inj hF)).2]; exact hP⟩, hS.F ht⟩) hS.2.2 dX6_back_17
  · replace hF := iq c1 hF
    refine lv_iload_n hx hb dX6_back_4 rfl (lv_at hl 1 rfl) ?_
    refine lv_aload_n hx hb dX6_back_5 rfl (lv_at hl 0 rfl) ?_
    refine va_get (D := D) (ci := 5) (v := .ref (a0 16)) (C := RX6) (T := TX6) (N := 8) hx hb hts (fun w h => List.mem_cons_of_mem _ (inAX6 w h)) hown hK.1 hP 0 (at_C_0 cI cS _ _) rfl 4 (by decide) (hts _ (List.mem_cons_of_mem _ fl_RX6_38)) (fun _ h9 => h9) rfl dX6_back_6 ?_
    refine va_getN (D := D) (ci := 2) (v := .int (t0 16 0)) (C := RX2) (T := TX2) (N := 4) hx hb hts (fun w h => List.mem_cons_of_mem _ (inAX2 w h)) hown hK.1 hP 16 (at_C_16 cI cS _ _) rfl 0 (by decide) (nu_RX6_192 hK) (fun _ h9 => h9) rfl dX6_back_9 ?_
    refine lv_icmp_le (tgt := 18) hx hb dX6_back_12 (by decide) (fun c12 => ?_) (fun c12 => ?_)
    · replace hF := ip c12 hF
      refine lv_aload_n hx hb dX6_back_18 rfl (lv_at hl 0 rfl) ?_
      refine va_get (D := D) (ci := 5) (v := .ref (a0 16)) (C := RX6) (T := TX6) (N := 8) hx hb hts (fun w h => List.mem_cons_of_mem _ (inAX6 w h)) hown hK.1 hP 0 (at_C_0 cI cS _ _) rfl 4 (by decide) (hts _ (List.mem_cons_of_mem _ fl_RX6_38)) (fun _ h9 => h9) rfl dX6_back_19 ?_
      refine lv_dup hx hb dX6_back_22 rfl ?_
      refine va_getN (D := D) (ci := 2) (v := .int (t0 16 0)) (C := RX2) (T := TX2) (N := 4) hx hb hts (fun w h => List.mem_cons_of_mem _ (inAX2 w h)) hown hK.1 hP 16 (at_C_16 cI cS _ _) rfl 0 (by decide) (nu_RX6_192 hK) (fun _ h9 => h9) rfl dX6_back_23 ?_
      refine lv_iload_n hx hb dX6_back_26 rfl (lv_at hl 1 rfl) ?_
      refine lv_isub hx hb dX6_back_27 ?_
      refine wFN (ws' := pC cI cS a0 (st t0 16 0 ((t0 16 0) - x1))) (C := RX2) (T := TX2) (N := 4) hx hb hts (fun w h => List.mem_cons_of_mem _ (inAX2 w h)) tyX2 tyX2_ok nmX2 hown hK.1 hP hD hS 16 (at_C_16 cI cS _ _) rfl 0 (by decide) (nu_RX6_192 hK) rfl (tyX2_ok 0 (by decide)) rfl rfl (Nat.le_of_ble_eq_true rfl) (sf_C_16_0 cI cS _ _ _) dX6_back_28 (fun H locs hP hD hS => ?_)
      refine lv_aload_n hx hb dX6_back_31 rfl (lv_at hl 0 rfl) ?_
      refine va_get (D := D) (ci := 5) (v := .ref (a0 16)) (C := RX6) (T := TX6) (N := 8) hx hb hts (fun w h => List.mem_cons_of_mem _ (inAX6 w h)) hown hK.1 hP 0 (at_C_0 cI cS _ _) rfl 4 (by decide) (hts _ (List.mem_cons_of_mem _ fl_RX6_38)) (fun _ h9 => h9) rfl dX6_back_32 ?_
      refine va_getN (D := D) (ci := 2) (v := .int ((t0 16 0) - x1)) (C := RX2) (T := TX2) (N := 4) hx hb hts (fun w h => List.mem_cons_of_mem _ (inAX2 w h)) hown hK.1 hP 16 (at_C_16 cI cS _ _) rfl 0 (by decide) (nu_RX6_192 hK) (fun _ h9 => h9) rfl dX6_back_35 ?_
      exact W.iret hx hb hr (fun t ht hW => ⟨⟨_, (), rfl, (Prod.mk.inj (Option.some.inj hF)).1, by show va_P _ _ _ t.heap; rw [ht, ← (Prod.mk.inj (Option.some.inj hF)).2]; exact hP⟩, hS.F ht⟩) hS.2.2 dX6_back_38
    · replace hF := iq c12 hF
      refine lv_bipush (v := (-2)) hx hb dX6_back_15 (by decide) ?_
      exact W.iret hx hb hr (fun t ht hW => ⟨⟨_, (), rfl, (Prod.mk.inj (Option.some.inj hF)).1, by show va_P _ _ _ t.heap; rw [ht, ← (Prod.mk.inj (Option.some.inj hF)).2]; exact hP⟩, hS.F ht⟩) hS.2.2 dX6_back_17
noncomputable def F_X6_paces_L28 (x1 : Int32) (k : Int32 → Int32 → ST → Option (Int32 × ST)) : Nat → Int32 → Int32 → ST → Option (Int32 × ST)
  | 0, _, _, _ => none
  | n + 1, x2, x3, s0 =>
    if 4 < x3 then
      k x2 x3 s0
    else
    (ix 6 x1).bind fun k42 =>
    (F_X2_areSo (sb (st s0 10 k42 x3) 16) (sb (st s0 10 k42 x3) 7) (sb (st s0 10 k42 x3) 1)).bind fun v55 =>
    if v55 = 0 then
      (F_X6_paces_L28 x1 k n) x2 (x3 + 1) (st s0 10 k42 x3)
    else
    (F_X6_paces_L28 x1 k n) (x2 ||| (1 <<< (x3 &&& 31))) (x3 + 1) (st s0 10 k42 x3)
noncomputable def F_X6_paces_J73 (x1 : Int32) (x2 : Int32) (s0 : ST) : Option (Int32 × ST) :=
  some (x2, s0)
noncomputable def F_X6_paces (t0 : ST) (x1 : Int32) : Option (Int32 × ST) :=
  (F_X0_has (sb t0 3) x1).bind fun v5 =>
  if v5 = 0 then
    some ((-1), t0)
  else
  (F_X0_copyFrom (sb t0 7) (sb t0 3)).bind fun u21 =>
  F_X6_paces_L28 x1 (fun x2_k28 x3_k28 s0_k28 => F_X6_paces_J73 x1 x2_k28 s0_k28) 1000 0 1 (gr t0 7 4 u21)
abbrev rm_X6_paces : Room := { frames := 4, cells := 0, slots := 0, locals := 91 }
set_option maxHeartbeats 4000000 in
set_option maxRecDepth 100000 in
theorem c_X6_paces (l : Launch) (D : va_G) (cI cS : ClassId) (a0 : Nat → Nat) (t0 : ST) (x1 : Int32) (r : Int32) (t' : ST) (hF : F_X6_paces t0 x1 = some (r, t')) : Met l yX6_paces (Cond.code yX6_paces cX6_paces 4 (some .int) :: ALL) rm_X6_paces (PreW D cI cS [.ref (a0 0), .int x1] (pC cI cS a0 t0)) (va_Qi (fun x (_ : Unit) => x = r) (fun _ t => va_P D vwCl (pC cI cS a0 t') t.heap) (AD (pC cI cS a0 t0))) 0 0 (AD (pC cI cS a0 t0)) := by
  refine mW l D cI cS (by decide) (Nat.le_of_ble_eq_true rfl) ?_
  intro p e s m below meth c ls hx hb hr hml hown hts hlocks hP hK hD hS hl
  have hown : s.vm.findClass RX6 = some m.cls := hown
  have hl : lv_has ls 4 [(0, .ref (a0 0)), (1, .int x1)] := hl
  unfold F_X6_paces at hF
  refine lv_aload_n hx hb dX6_paces_0 rfl (lv_at hl 0 rfl) ?_
  refine va_get (D := D) (ci := 5) (v := .ref (a0 3)) (C := RX6) (T := TX6) (N := 8) hx hb hts (fun w h => List.mem_cons_of_mem _ (inAX6 w h)) hown hK.1 hP 0 (at_C_0 cI cS _ _) rfl 1 (by decide) (hts _ (List.mem_cons_of_mem _ fl_RX6_21)) (fun _ h9 => h9) rfl dX6_paces_1 ?_
  refine lv_iload_n hx hb dX6_paces_4 rfl (lv_at hl 1 rfl) ?_
  obtain ⟨v5, h5, hF⟩ := bd hF
  refine cRb (va_runV (As := [.int x1]) (rest := []) ⟨hx, hb, hml, hown, hts⟩ (c_X0_has l D cI cS (sa a0 3) (sb t0 3) x1 v5 h5) (cwVA hts (TW.cons _) lv_X0_has ml_RX6_92 ⟨rfl, rfl⟩ ⟨(Nat.le_of_ble_eq_true rfl), (Nat.le_of_ble_eq_true rfl)⟩) (pRV hK (hP.sub [3, 4, 5, 6] (su_C_B3 cI cS _ _)) (ci := 0) rfl rfl) rfl rfl hl.1 rfl (lv_room (Nat.le_of_ble_eq_true rfl)) dX6_paces_5 ⟨Nat.le_refl _, Nat.le_refl _⟩) (fun b5 => ?_)
  refine lv_if_ne (tgt := 13) hx hb dX6_paces_8 (by decide) (fun c8 => ?_) (fun c8 => ?_)
  · replace hF := iq c8 hF
    refine lv_aload_n hx hb dX6_paces_13 rfl (lv_at hl 0 rfl) ?_
    refine va_get (D := D) (ci := 5) (v := .ref (a0 7)) (C := RX6) (T := TX6) (N := 8) hx hb hts (fun w h => List.mem_cons_of_mem _ (inAX6 w h)) hown hK.1 hP 0 (at_C_0 cI cS _ _) rfl 2 (by decide) (hts _ (List.mem_cons_of_mem _ fl_RX6_25)) (fun _ h9 => h9) rfl dX6_paces_14 ?_
    refine lv_aload_n hx hb dX6_paces_17 rfl (lv_at hl 0 rfl) ?_
    refine va_get (D := D) (ci := 5) (v := .ref (a0 3)) (C := RX6) (T := TX6) (N := 8) hx hb hts (fun w h => List.mem_cons_of_mem _ (inAX6 w h)) hown hK.1 hP 0 (at_C_0 cI cS _ _) rfl 1 (by decide) (hts _ (List.mem_cons_of_mem _ fl_RX6_21)) (fun _ h9 => h9) rfl dX6_paces_18 ?_
    obtain ⟨u21, h21, hF⟩ := bd hF
    refine cWv (ws' := pC cI cS a0 (gr t0 7 4 u21)) (va_runV (As := [.ref (a0 3)]) (rest := []) ⟨hx, hb, hml, hown, hts⟩ (c_X0_copyFrom l D cI cS (sa a0 7) (sa a0 3) (sb t0 7) (sb t0 3) u21 h21) (cwVA hts (TW.cons _) lv_X0_copyFrom ml_RX6_130 ⟨rfl, rfl⟩ ⟨(Nat.le_of_ble_eq_true rfl), (Nat.le_of_ble_eq_true rfl)⟩) (pWV hK (hP.sub [7, 8, 9, 10, 3, 4, 5, 6] (su_C_B7_B3 cI cS _ _)) (hD.sub [7, 8, 9, 10, 3, 4, 5, 6] (by decide) (sm_C_B7_B3 cI cS _ _)) (ci := 0) rfl rfl) rfl rfl hl.1 rfl (lv_room (Nat.le_of_ble_eq_true rfl)) dX6_paces_21 ⟨Nat.le_refl _, Nat.le_refl _⟩) hP hD hS [7, 8, 9, 10, 3, 4, 5, 6] (sm_C_B7_B3 cI cS _ _) [.inl 0, .inl 1, .inl 2, .inr 4, .inr 5, .inr 6, .inr 7, .inr 0, .inr 1, .inr 2, .inr 3, .inl 11, .inl 12, .inl 13, .inl 14, .inl 15, .inl 16, .inl 17, .inl 18, .inl 19, .inl 20, .inl 21, .inl 22, .inl 23, .inl 24, .inl 25, .inl 26, .inl 27, .inl 28] (pn_C_B7_B3 cI cS _ _ _) rfl (ad_C cI cS _ _ _) (fun H locs hP hD hS => ?_)
    refine lv_iconst (v := 0) hx hb dX6_paces_24 (by decide) ?_
    refine lv_istore_n (lv' := [(2, .int 0), (0, .ref (a0 0)), (1, .int x1)]) hx hb dX6_paces_25 rfl hl (by decide) rfl (fun ls hl => ?_)
    refine lv_iconst (v := 1) hx hb dX6_paces_26 (by decide) ?_
    refine lv_istore_n (lv' := [(3, .int 1), (2, .int 0), (0, .ref (a0 0)), (1, .int x1)]) hx hb dX6_paces_27 rfl hl (by decide) rfl (fun ls hl => ?_)
    have L28 : ∀ (n_28 : Nat) (x2_28 : Int32) (x3_28 : Int32) (s0_28 : ST) (H : Heap) (locs : List Loc) (ls : Array Slot), va_P D vwCl (pC cI cS a0 s0_28) H → va_D (AD (pC cI cS a0 t0)) (pC cI cS a0 s0_28) → va_S (AD (pC cI cS a0 t0)) s.heap H locs → lv_has ls 4 [(0, .ref (a0 0)), (1, .int x1), (2, .int x2_28), (3, .int x3_28)] → F_X6_paces_L28 x1 (fun x2_k28 x3_k28 s0_k28 => F_X6_paces_J73 x1 x2_k28 s0_k28) n_28 x2_28 x3_28 s0_28 = some (r, t') → W p l e rm_X6_paces s m [.ref (a0 0), .int x1].toArray below meth c H locs 0 0 (MQ below (va_Qi (fun x (_ : Unit) => x = r) (fun _ t => va_P D vwCl (pC cI cS a0 t') t.heap) (AD (pC cI cS a0 t0))) [.ref (a0 0), .int x1].toArray s 0 0 (AD (pC cI cS a0 t0))) (F0 m 28 ls []) := by
      intro n_28
      induction n_28 with
      | zero => intro x2_28 x3_28 s0_28 H locs ls hP hD hS hl hF; exact nomatch hF
      | succ n_28 ih28 =>
        intro x2_28 x3_28 s0_28 H locs ls hP hD hS hl hF
        rw [F_X6_paces_L28.eq_2] at hF
        refine lv_iload_n hx hb dX6_paces_28 rfl (lv_at hl 3 rfl) ?_
        refine lv_iconst (v := 4) hx hb dX6_paces_29 (by decide) ?_
        refine lv_icmp_gt (tgt := 73) hx hb dX6_paces_30 (by decide) (fun c30 => ?_) (fun c30 => ?_)
        · replace hF := ip c30 hF
          have hF : F_X6_paces_J73 x1 x2_28 s0_28 = some (r, t') := hF
          unfold F_X6_paces_J73 at hF
          refine lv_iload_n hx hb dX6_paces_73 rfl (lv_at hl 2 rfl) ?_
          exact W.iret hx hb hr (fun t ht hW => ⟨⟨_, (), rfl, (Prod.mk.inj (Option.some.inj hF)).1, by show va_P _ _ _ t.heap; rw [ht, ← (Prod.mk.inj (Option.some.inj hF)).2]; exact hP⟩, hS.F ht⟩) hS.2.2 dX6_paces_74
        · replace hF := iq c30 hF
          refine lv_aload_n hx hb dX6_paces_33 rfl (lv_at hl 0 rfl) ?_
          refine va_get (D := D) (ci := 5) (v := .ref (a0 7)) (C := RX6) (T := TX6) (N := 8) hx hb hts (fun w h => List.mem_cons_of_mem _ (inAX6 w h)) hown hK.1 hP 0 (at_C_0 cI cS _ _) rfl 2 (by decide) (hts _ (List.mem_cons_of_mem _ fl_RX6_25)) (fun _ h9 => h9) rfl dX6_paces_34 ?_
          refine va_getN (D := D) (ci := 0) (v := .ref (a0 10)) (C := RX0) (T := TX0) (N := 6) hx hb hts (fun w h => List.mem_cons_of_mem _ (inAX0 w h)) hown hK.1 hP 7 (at_C_7 cI cS _ _) rfl 5 (by decide) (nu_RX6_102 hK) (fun _ h9 => h9) rfl dX6_paces_37 ?_
          refine lv_iload_n hx hb dX6_paces_40 rfl (lv_at hl 1 rfl) ?_
          refine lv_iload_n hx hb dX6_paces_41 rfl (lv_at hl 3 rfl) ?_
          obtain ⟨k42, h42, hF⟩ := bd hF
          refine wI (ws' := pC cI cS a0 (st s0_28 10 k42 x3_28)) hx hb hK.1 hP hD hS 10 0 (at_C_10 cI cS _ _) rfl h42 (sw_C_10 cI cS _ _ _ _) dX6_paces_42 (fun H locs hP hD hS => ?_)
          refine lv_aload_n hx hb dX6_paces_43 rfl (lv_at hl 0 rfl) ?_
          refine va_get (D := D) (ci := 5) (v := .ref (a0 16)) (C := RX6) (T := TX6) (N := 8) hx hb hts (fun w h => List.mem_cons_of_mem _ (inAX6 w h)) hown hK.1 hP 0 (at_C_0 cI cS _ _) rfl 4 (by decide) (hts _ (List.mem_cons_of_mem _ fl_RX6_38)) (fun _ h9 => h9) rfl dX6_paces_44 ?_
          refine lv_aload_n hx hb dX6_paces_47 rfl (lv_at hl 0 rfl) ?_
          refine va_get (D := D) (ci := 5) (v := .ref (a0 7)) (C := RX6) (T := TX6) (N := 8) hx hb hts (fun w h => List.mem_cons_of_mem _ (inAX6 w h)) hown hK.1 hP 0 (at_C_0 cI cS _ _) rfl 2 (by decide) (hts _ (List.mem_cons_of_mem _ fl_RX6_25)) (fun _ h9 => h9) rfl dX6_paces_48 ?_
          refine lv_aload_n hx hb dX6_paces_51 rfl (lv_at hl 0 rfl) ?_
          refine va_get (D := D) (ci := 5) (v := .ref (a0 1)) (C := RX6) (T := TX6) (N := 8) hx hb hts (fun w h => List.mem_cons_of_mem _ (inAX6 w h)) hown hK.1 hP 0 (at_C_0 cI cS _ _) rfl 0 (by decide) (hts _ (List.mem_cons_of_mem _ fl_RX6_12)) (fun _ h9 => h9) rfl dX6_paces_52 ?_
          obtain ⟨v55, h55, hF⟩ := bd hF
          refine cRb (va_runV (As := [.ref (a0 7), .ref (a0 1)]) (rest := []) ⟨hx, hb, hml, hown, hts⟩ (c_X2_areSo l D cI cS (sa a0 16) (sa a0 7) (sa a0 1) (sb (st s0_28 10 k42 x3_28) 16) (sb (st s0_28 10 k42 x3_28) 7) (sb (st s0_28 10 k42 x3_28) 1) v55 h55) (cwVA hts (TW.cons _) lv_X2_areSo ml_RX6_193 ⟨rfl, rfl⟩ ⟨(Nat.le_of_ble_eq_true rfl), (Nat.le_of_ble_eq_true rfl)⟩) (pRV hK (hP.sub [16, 17, 18, 19, 7, 8, 9, 10, 1, 2] (su_C_D16_B7_L1 cI cS _ _)) (ci := 2) rfl rfl) rfl rfl hl.1 rfl (lv_room (Nat.le_of_ble_eq_true rfl)) dX6_paces_55 ⟨Nat.le_refl _, Nat.le_refl _⟩) (fun b55 => ?_)
          refine lv_if_eq (tgt := 67) hx hb dX6_paces_58 (by decide) (fun c58 => ?_) (fun c58 => ?_)
          · replace hF := ip c58 hF
            refine lv_iinc (v := (x3_28 + 1)) (lv' := [(3, .int (x3_28 + 1)), (0, .ref (a0 0)), (1, .int x1), (2, .int x2_28)]) hx hb dX6_paces_67 hl (k := 3) rfl rfl (by decide) rfl (fun ls hl => ?_)
            refine lv_goto (tgt := 28) hx hb dX6_paces_70 (by decide) ?_
            exact ih28 x2_28 (x3_28 + 1) (st s0_28 10 k42 x3_28) _ _ _ hP hD hS (lv_sub hl [1, 2, 3, 0] rfl) hF
          · replace hF := iq c58 hF
            refine lv_iload_n hx hb dX6_paces_61 rfl (lv_at hl 2 rfl) ?_
            refine lv_iconst (v := 1) hx hb dX6_paces_62 (by decide) ?_
            refine lv_iload_n hx hb dX6_paces_63 rfl (lv_at hl 3 rfl) ?_
            refine lv_ishl hx hb dX6_paces_64 ?_
            refine lv_ior hx hb dX6_paces_65 ?_
            refine lv_istore_n (lv' := [(2, .int (x2_28 ||| (1 <<< (x3_28 &&& 31)))), (0, .ref (a0 0)), (1, .int x1), (3, .int x3_28)]) hx hb dX6_paces_66 rfl hl (by decide) rfl (fun ls hl => ?_)
            refine lv_iinc (v := (x3_28 + 1)) (lv' := [(3, .int (x3_28 + 1)), (2, .int (x2_28 ||| (1 <<< (x3_28 &&& 31)))), (0, .ref (a0 0)), (1, .int x1)]) hx hb dX6_paces_67 hl (k := 3) rfl rfl (by decide) rfl (fun ls hl => ?_)
            refine lv_goto (tgt := 28) hx hb dX6_paces_70 (by decide) ?_
            exact ih28 (x2_28 ||| (1 <<< (x3_28 &&& 31))) (x3_28 + 1) (st s0_28 10 k42 x3_28) _ _ _ hP hD hS (lv_sub hl [2, 3, 1, 0] rfl) hF
    exact L28 1000 0 1 (gr t0 7 4 u21) _ _ _ hP hD hS (lv_sub hl [2, 3, 1, 0] rfl) hF
  · replace hF := ip c8 hF
    refine lv_iconst (v := (-1)) hx hb dX6_paces_11 (by decide) ?_
    exact W.iret hx hb hr (fun t ht hW => ⟨⟨_, (), rfl, (Prod.mk.inj (Option.some.inj hF)).1, by show va_P _ _ _ t.heap; rw [ht, ← (Prod.mk.inj (Option.some.inj hF)).2]; exact hP⟩, hS.F ht⟩) hS.2.2 dX6_paces_12
noncomputable def F_X6_kinds_L28 (x1 : Int32) (k : Int32 → Int32 → ST → Option (Int32 × ST)) : Nat → Int32 → Int32 → ST → Option (Int32 × ST)
  | 0, _, _, _ => none
  | n + 1, x2, x3, s0 =>
    if 3 ≤ x3 then
      k x2 x3 s0
    else
    (ix 6 x1).bind fun k42 =>
    (F_X2_areSo (sb (st s0 8 k42 x3) 16) (sb (st s0 8 k42 x3) 7) (sb (st s0 8 k42 x3) 1)).bind fun v55 =>
    if v55 = 0 then
      (F_X6_kinds_L28 x1 k n) x2 (x3 + 1) (st s0 8 k42 x3)
    else
    (F_X6_kinds_L28 x1 k n) (x2 ||| (1 <<< (x3 &&& 31))) (x3 + 1) (st s0 8 k42 x3)
noncomputable def F_X6_kinds_J73 (x1 : Int32) (x2 : Int32) (s0 : ST) : Option (Int32 × ST) :=
  some (x2, s0)
noncomputable def F_X6_kinds (t0 : ST) (x1 : Int32) : Option (Int32 × ST) :=
  (F_X0_has (sb t0 3) x1).bind fun v5 =>
  if v5 = 0 then
    some ((-1), t0)
  else
  (F_X0_copyFrom (sb t0 7) (sb t0 3)).bind fun u21 =>
  F_X6_kinds_L28 x1 (fun x2_k28 x3_k28 s0_k28 => F_X6_kinds_J73 x1 x2_k28 s0_k28) 1000 0 0 (gr t0 7 4 u21)
abbrev rm_X6_kinds : Room := { frames := 4, cells := 0, slots := 0, locals := 91 }
set_option maxHeartbeats 4000000 in
set_option maxRecDepth 100000 in
theorem c_X6_kinds (l : Launch) (D : va_G) (cI cS : ClassId) (a0 : Nat → Nat) (t0 : ST) (x1 : Int32) (r : Int32) (t' : ST) (hF : F_X6_kinds t0 x1 = some (r, t')) : Met l yX6_kinds (Cond.code yX6_kinds cX6_kinds 4 (some .int) :: ALL) rm_X6_kinds (PreW D cI cS [.ref (a0 0), .int x1] (pC cI cS a0 t0)) (va_Qi (fun x (_ : Unit) => x = r) (fun _ t => va_P D vwCl (pC cI cS a0 t') t.heap) (AD (pC cI cS a0 t0))) 0 0 (AD (pC cI cS a0 t0)) := by
  refine mW l D cI cS (by decide) (Nat.le_of_ble_eq_true rfl) ?_
  intro p e s m below meth c ls hx hb hr hml hown hts hlocks hP hK hD hS hl
  have hown : s.vm.findClass RX6 = some m.cls := hown
  have hl : lv_has ls 4 [(0, .ref (a0 0)), (1, .int x1)] := hl
  unfold F_X6_kinds at hF
  refine lv_aload_n hx hb dX6_kinds_0 rfl (lv_at hl 0 rfl) ?_
  refine va_get (D := D) (ci := 5) (v := .ref (a0 3)) (C := RX6) (T := TX6) (N := 8) hx hb hts (fun w h => List.mem_cons_of_mem _ (inAX6 w h)) hown hK.1 hP 0 (at_C_0 cI cS _ _) rfl 1 (by decide) (hts _ (List.mem_cons_of_mem _ fl_RX6_21)) (fun _ h9 => h9) rfl dX6_kinds_1 ?_
  refine lv_iload_n hx hb dX6_kinds_4 rfl (lv_at hl 1 rfl) ?_
  obtain ⟨v5, h5, hF⟩ := bd hF
  refine cRb (va_runV (As := [.int x1]) (rest := []) ⟨hx, hb, hml, hown, hts⟩ (c_X0_has l D cI cS (sa a0 3) (sb t0 3) x1 v5 h5) (cwVA hts (TW.cons _) lv_X0_has ml_RX6_92 ⟨rfl, rfl⟩ ⟨(Nat.le_of_ble_eq_true rfl), (Nat.le_of_ble_eq_true rfl)⟩) (pRV hK (hP.sub [3, 4, 5, 6] (su_C_B3 cI cS _ _)) (ci := 0) rfl rfl) rfl rfl hl.1 rfl (lv_room (Nat.le_of_ble_eq_true rfl)) dX6_kinds_5 ⟨Nat.le_refl _, Nat.le_refl _⟩) (fun b5 => ?_)
  refine lv_if_ne (tgt := 13) hx hb dX6_kinds_8 (by decide) (fun c8 => ?_) (fun c8 => ?_)
  · replace hF := iq c8 hF
    refine lv_aload_n hx hb dX6_kinds_13 rfl (lv_at hl 0 rfl) ?_
    refine va_get (D := D) (ci := 5) (v := .ref (a0 7)) (C := RX6) (T := TX6) (N := 8) hx hb hts (fun w h => List.mem_cons_of_mem _ (inAX6 w h)) hown hK.1 hP 0 (at_C_0 cI cS _ _) rfl 2 (by decide) (hts _ (List.mem_cons_of_mem _ fl_RX6_25)) (fun _ h9 => h9) rfl dX6_kinds_14 ?_
    refine lv_aload_n hx hb dX6_kinds_17 rfl (lv_at hl 0 rfl) ?_
    refine va_get (D := D) (ci := 5) (v := .ref (a0 3)) (C := RX6) (T := TX6) (N := 8) hx hb hts (fun w h => List.mem_cons_of_mem _ (inAX6 w h)) hown hK.1 hP 0 (at_C_0 cI cS _ _) rfl 1 (by decide) (hts _ (List.mem_cons_of_mem _ fl_RX6_21)) (fun _ h9 => h9) rfl dX6_kinds_18 ?_
    obtain ⟨u21, h21, hF⟩ := bd hF
    refine cWv (ws' := pC cI cS a0 (gr t0 7 4 u21)) (va_runV (As := [.ref (a0 3)]) (rest := []) ⟨hx, hb, hml, hown, hts⟩ (c_X0_copyFrom l D cI cS (sa a0 7) (sa a0 3) (sb t0 7) (sb t0 3) u21 h21) (cwVA hts (TW.cons _) lv_X0_copyFrom ml_RX6_130 ⟨rfl, rfl⟩ ⟨(Nat.le_of_ble_eq_true rfl), (Nat.le_of_ble_eq_true rfl)⟩) (pWV hK (hP.sub [7, 8, 9, 10, 3, 4, 5, 6] (su_C_B7_B3 cI cS _ _)) (hD.sub [7, 8, 9, 10, 3, 4, 5, 6] (by decide) (sm_C_B7_B3 cI cS _ _)) (ci := 0) rfl rfl) rfl rfl hl.1 rfl (lv_room (Nat.le_of_ble_eq_true rfl)) dX6_kinds_21 ⟨Nat.le_refl _, Nat.le_refl _⟩) hP hD hS [7, 8, 9, 10, 3, 4, 5, 6] (sm_C_B7_B3 cI cS _ _) [.inl 0, .inl 1, .inl 2, .inr 4, .inr 5, .inr 6, .inr 7, .inr 0, .inr 1, .inr 2, .inr 3, .inl 11, .inl 12, .inl 13, .inl 14, .inl 15, .inl 16, .inl 17, .inl 18, .inl 19, .inl 20, .inl 21, .inl 22, .inl 23, .inl 24, .inl 25, .inl 26, .inl 27, .inl 28] (pn_C_B7_B3 cI cS _ _ _) rfl (ad_C cI cS _ _ _) (fun H locs hP hD hS => ?_)
    refine lv_iconst (v := 0) hx hb dX6_kinds_24 (by decide) ?_
    refine lv_istore_n (lv' := [(2, .int 0), (0, .ref (a0 0)), (1, .int x1)]) hx hb dX6_kinds_25 rfl hl (by decide) rfl (fun ls hl => ?_)
    refine lv_iconst (v := 0) hx hb dX6_kinds_26 (by decide) ?_
    refine lv_istore_n (lv' := [(3, .int 0), (2, .int 0), (0, .ref (a0 0)), (1, .int x1)]) hx hb dX6_kinds_27 rfl hl (by decide) rfl (fun ls hl => ?_)
    have L28 : ∀ (n_28 : Nat) (x2_28 : Int32) (x3_28 : Int32) (s0_28 : ST) (H : Heap) (locs : List Loc) (ls : Array Slot), va_P D vwCl (pC cI cS a0 s0_28) H → va_D (AD (pC cI cS a0 t0)) (pC cI cS a0 s0_28) → va_S (AD (pC cI cS a0 t0)) s.heap H locs → lv_has ls 4 [(0, .ref (a0 0)), (1, .int x1), (2, .int x2_28), (3, .int x3_28)] → F_X6_kinds_L28 x1 (fun x2_k28 x3_k28 s0_k28 => F_X6_kinds_J73 x1 x2_k28 s0_k28) n_28 x2_28 x3_28 s0_28 = some (r, t') → W p l e rm_X6_kinds s m [.ref (a0 0), .int x1].toArray below meth c H locs 0 0 (MQ below (va_Qi (fun x (_ : Unit) => x = r) (fun _ t => va_P D vwCl (pC cI cS a0 t') t.heap) (AD (pC cI cS a0 t0))) [.ref (a0 0), .int x1].toArray s 0 0 (AD (pC cI cS a0 t0))) (F0 m 28 ls []) := by
      intro n_28
      induction n_28 with
      | zero => intro x2_28 x3_28 s0_28 H locs ls hP hD hS hl hF; exact nomatch hF
      | succ n_28 ih28 =>
        intro x2_28 x3_28 s0_28 H locs ls hP hD hS hl hF
        rw [F_X6_kinds_L28.eq_2] at hF
        refine lv_iload_n hx hb dX6_kinds_28 rfl (lv_at hl 3 rfl) ?_
        refine lv_iconst (v := 3) hx hb dX6_kinds_29 (by decide) ?_
        refine lv_icmp_ge (tgt := 73) hx hb dX6_kinds_30 (by decide) (fun c30 => ?_) (fun c30 => ?_)
        · replace hF := ip c30 hF
          have hF : F_X6_kinds_J73 x1 x2_28 s0_28 = some (r, t') := hF
          unfold F_X6_kinds_J73 at hF
          refine lv_iload_n hx hb dX6_kinds_73 rfl (lv_at hl 2 rfl) ?_
          exact W.iret hx hb hr (fun t ht hW => ⟨⟨_, (), rfl, (Prod.mk.inj (Option.some.inj hF)).1, by show va_P _ _ _ t.heap; rw [ht, ← (Prod.mk.inj (Option.some.inj hF)).2]; exact hP⟩, hS.F ht⟩) hS.2.2 dX6_kinds_74
        · replace hF := iq c30 hF
          refine lv_aload_n hx hb dX6_kinds_33 rfl (lv_at hl 0 rfl) ?_
          refine va_get (D := D) (ci := 5) (v := .ref (a0 7)) (C := RX6) (T := TX6) (N := 8) hx hb hts (fun w h => List.mem_cons_of_mem _ (inAX6 w h)) hown hK.1 hP 0 (at_C_0 cI cS _ _) rfl 2 (by decide) (hts _ (List.mem_cons_of_mem _ fl_RX6_25)) (fun _ h9 => h9) rfl dX6_kinds_34 ?_
          refine va_getN (D := D) (ci := 0) (v := .ref (a0 8)) (C := RX0) (T := TX0) (N := 6) hx hb hts (fun w h => List.mem_cons_of_mem _ (inAX0 w h)) hown hK.1 hP 7 (at_C_7 cI cS _ _) rfl 3 (by decide) (nu_RX6_95 hK) (fun _ h9 => h9) rfl dX6_kinds_37 ?_
          refine lv_iload_n hx hb dX6_kinds_40 rfl (lv_at hl 1 rfl) ?_
          refine lv_iload_n hx hb dX6_kinds_41 rfl (lv_at hl 3 rfl) ?_
          obtain ⟨k42, h42, hF⟩ := bd hF
          refine wI (ws' := pC cI cS a0 (st s0_28 8 k42 x3_28)) hx hb hK.1 hP hD hS 8 0 (at_C_8 cI cS _ _) rfl h42 (sw_C_8 cI cS _ _ _ _) dX6_kinds_42 (fun H locs hP hD hS => ?_)
          refine lv_aload_n hx hb dX6_kinds_43 rfl (lv_at hl 0 rfl) ?_
          refine va_get (D := D) (ci := 5) (v := .ref (a0 16)) (C := RX6) (T := TX6) (N := 8) hx hb hts (fun w h => List.mem_cons_of_mem _ (inAX6 w h)) hown hK.1 hP 0 (at_C_0 cI cS _ _) rfl 4 (by decide) (hts _ (List.mem_cons_of_mem _ fl_RX6_38)) (fun _ h9 => h9) rfl dX6_kinds_44 ?_
          refine lv_aload_n hx hb dX6_kinds_47 rfl (lv_at hl 0 rfl) ?_
          refine va_get (D := D) (ci := 5) (v := .ref (a0 7)) (C := RX6) (T := TX6) (N := 8) hx hb hts (fun w h => List.mem_cons_of_mem _ (inAX6 w h)) hown hK.1 hP 0 (at_C_0 cI cS _ _) rfl 2 (by decide) (hts _ (List.mem_cons_of_mem _ fl_RX6_25)) (fun _ h9 => h9) rfl dX6_kinds_48 ?_
          refine lv_aload_n hx hb dX6_kinds_51 rfl (lv_at hl 0 rfl) ?_
          refine va_get (D := D) (ci := 5) (v := .ref (a0 1)) (C := RX6) (T := TX6) (N := 8) hx hb hts (fun w h => List.mem_cons_of_mem _ (inAX6 w h)) hown hK.1 hP 0 (at_C_0 cI cS _ _) rfl 0 (by decide) (hts _ (List.mem_cons_of_mem _ fl_RX6_12)) (fun _ h9 => h9) rfl dX6_kinds_52 ?_
          obtain ⟨v55, h55, hF⟩ := bd hF
          refine cRb (va_runV (As := [.ref (a0 7), .ref (a0 1)]) (rest := []) ⟨hx, hb, hml, hown, hts⟩ (c_X2_areSo l D cI cS (sa a0 16) (sa a0 7) (sa a0 1) (sb (st s0_28 8 k42 x3_28) 16) (sb (st s0_28 8 k42 x3_28) 7) (sb (st s0_28 8 k42 x3_28) 1) v55 h55) (cwVA hts (TW.cons _) lv_X2_areSo ml_RX6_193 ⟨rfl, rfl⟩ ⟨(Nat.le_of_ble_eq_true rfl), (Nat.le_of_ble_eq_true rfl)⟩) (pRV hK (hP.sub [16, 17, 18, 19, 7, 8, 9, 10, 1, 2] (su_C_D16_B7_L1 cI cS _ _)) (ci := 2) rfl rfl) rfl rfl hl.1 rfl (lv_room (Nat.le_of_ble_eq_true rfl)) dX6_kinds_55 ⟨Nat.le_refl _, Nat.le_refl _⟩) (fun b55 => ?_)
          refine lv_if_eq (tgt := 67) hx hb dX6_kinds_58 (by decide) (fun c58 => ?_) (fun c58 => ?_)
          · replace hF := ip c58 hF
            refine lv_iinc (v := (x3_28 + 1)) (lv' := [(3, .int (x3_28 + 1)), (0, .ref (a0 0)), (1, .int x1), (2, .int x2_28)]) hx hb dX6_kinds_67 hl (k := 3) rfl rfl (by decide) rfl (fun ls hl => ?_)
            refine lv_goto (tgt := 28) hx hb dX6_kinds_70 (by decide) ?_
            exact ih28 x2_28 (x3_28 + 1) (st s0_28 8 k42 x3_28) _ _ _ hP hD hS (lv_sub hl [1, 2, 3, 0] rfl) hF
          · replace hF := iq c58 hF
            refine lv_iload_n hx hb dX6_kinds_61 rfl (lv_at hl 2 rfl) ?_
            refine lv_iconst (v := 1) hx hb dX6_kinds_62 (by decide) ?_
            refine lv_iload_n hx hb dX6_kinds_63 rfl (lv_at hl 3 rfl) ?_
            refine lv_ishl hx hb dX6_kinds_64 ?_
            refine lv_ior hx hb dX6_kinds_65 ?_
            refine lv_istore_n (lv' := [(2, .int (x2_28 ||| (1 <<< (x3_28 &&& 31)))), (0, .ref (a0 0)), (1, .int x1), (3, .int x3_28)]) hx hb dX6_kinds_66 rfl hl (by decide) rfl (fun ls hl => ?_)
            refine lv_iinc (v := (x3_28 + 1)) (lv' := [(3, .int (x3_28 + 1)), (2, .int (x2_28 ||| (1 <<< (x3_28 &&& 31)))), (0, .ref (a0 0)), (1, .int x1)]) hx hb dX6_kinds_67 hl (k := 3) rfl rfl (by decide) rfl (fun ls hl => ?_)
            refine lv_goto (tgt := 28) hx hb dX6_kinds_70 (by decide) ?_
            exact ih28 (x2_28 ||| (1 <<< (x3_28 &&& 31))) (x3_28 + 1) (st s0_28 8 k42 x3_28) _ _ _ hP hD hS (lv_sub hl [2, 3, 1, 0] rfl) hF
    exact L28 1000 0 0 (gr t0 7 4 u21) _ _ _ hP hD hS (lv_sub hl [2, 3, 1, 0] rfl) hF
  · replace hF := ip c8 hF
    refine lv_iconst (v := (-1)) hx hb dX6_kinds_11 (by decide) ?_
    exact W.iret hx hb hr (fun t ht hW => ⟨⟨_, (), rfl, (Prod.mk.inj (Option.some.inj hF)).1, by show va_P _ _ _ t.heap; rw [ht, ← (Prod.mk.inj (Option.some.inj hF)).2]; exact hP⟩, hS.F ht⟩) hS.2.2 dX6_kinds_12
