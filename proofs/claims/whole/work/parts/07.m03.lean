noncomputable def F_X7_years_L103 (x1 : Int32) (x2 : Int32) (x3 : Int32) (x4 : Int32) (x5 : Int32) (x7 : Int32) (s0 : ST) (k : Int32 → Option (Int32 × ST)) : Nat → Int32 → Option (Int32 × ST)
  | 0, _ => none
  | n + 1, x8 =>
    if x4 ≤ x8 then
      k x8
    else
    (rd 240 (s0 3) (x7 + (2 * x8))).bind fun v122 =>
    (rd 240 (s0 3) ((x7 + (2 * x8)) + 1)).bind fun v136 =>
    (F_X7_refusesPair s0 v122 v136).bind fun v137 =>
    if v137 = 0 then
      (F_X7_years_L103 x1 x2 x3 x4 x5 x7 s0 k n) (x8 + 1)
    else
    some (v137, s0)
noncomputable def F_X7_years_L193 (x1 : Int32) (x2 : Int32) (x3 : Int32) (x4 : Int32) (x5 : Int32) (x9 : Int32) (x10 : Int32) (k : Int32 → ST → Option (Int32 × ST)) : Nat → Int32 → ST → Option (Int32 × ST)
  | 0, _, _ => none
  | n + 1, x11, s0 =>
    if (s0 0 3) ≤ x11 then
      k x11 s0
    else
    (rd 6 (s0 9) x11).bind fun v214 =>
    (ix 6 x11).bind fun k215 =>
    (F_X7_years_L193 x1 x2 x3 x4 x5 x9 x10 k n) (x11 + 1) (st s0 6 k215 v214)
noncomputable def F_X7_years_J222 (x1 : Int32) (x2 : Int32) (x3 : Int32) (x4 : Int32) (x5 : Int32) (x9 : Int32) (x10 : Int32) (s0 : ST) : Option (Int32 × ST) :=
  if x5 = 1 then
    some (x9, s0)
  else
  if x9 = (-9) then
    some (x10, s0)
  else
  some (((-100) - x9), s0)
noncomputable def F_X7_years_J156 (x1 : Int32) (x2 : Int32) (x3 : Int32) (x4 : Int32) (x5 : Int32) (x7 : Int32) (s0 : ST) : Option (Int32 × ST) :=
  (F_X7_keep s0).bind fun u157 =>
  b2 (F_X7_goYears u157 x7 x4) fun v171 u171 =>
  (F_X7_tellYears u171 x5).bind fun v179 =>
  F_X7_years_L193 x1 x2 x3 x4 x5 v171 v179 (fun x11_k193 s0_k193 => F_X7_years_J222 x1 x2 x3 x4 x5 v171 v179 s0_k193) 1000 0 (st u171 0 5 (u157 0 5))
noncomputable def F_X7_years_J57 (x1 : Int32) (x2 : Int32) (x3 : Int32) (x4 : Int32) (x5 : Int32) (s0 : ST) : Option (Int32 × ST) :=
  (F_X7_against s0 x1 x2 x3 (2 * x4)).bind fun v65 =>
  if v65 = 0 then
    if (s0 0 3) = 0 then
      some ((-3), s0)
    else
    F_X7_years_L103 x1 x2 x3 x4 x5 ((60 * x1) + x3) s0 (fun x8_k103 => F_X7_years_J156 x1 x2 x3 x4 x5 ((60 * x1) + x3) s0) 1000 0
  else
  b2 (F_X7_fails s0 v65) fun v78 u78 =>
  some (v78, u78)
noncomputable def F_X7_years (t0 : ST) (x1 : Int32) (x2 : Int32) (x3 : Int32) (x4 : Int32) (x5 : Int32) : Option (Int32 × ST) :=
  (F_X7_isSheet x1).bind fun v6 =>
  if v6 = 0 then
    some ((-1), (st t0 0 0 0))
  else
  (F_X7_isSort x2).bind fun v15 =>
  if v15 = 0 then
    some ((-2), (st t0 0 0 0))
  else
  (F_X7_within x4 0 20).bind fun v26 =>
  if v26 = 0 then
    some ((-2), (st t0 0 0 0))
  else
  (F_X7_within x5 0 4).bind fun v36 =>
  if v36 = 0 then
    (F_X7_within x5 10 15).bind fun v48 =>
    if v48 = 0 then
      some ((-2), (st t0 0 0 0))
    else
    F_X7_years_J57 x1 x2 x3 x4 x5 (st t0 0 0 0)
  else
  F_X7_years_J57 x1 x2 x3 x4 x5 (st t0 0 0 0)
abbrev rm_X7_years : Room := { frames := 4, cells := 0, slots := 0, locals := 91 }
set_option maxHeartbeats 4000000 in
set_option maxRecDepth 100000 in
theorem c_X7_years (l : Launch) (D : va_G) (cI cS : ClassId) (a0 : Nat → Nat) (t0 : ST) (x1 : Int32) (x2 : Int32) (x3 : Int32) (x4 : Int32) (x5 : Int32) (r : Int32) (t' : ST) (hF : F_X7_years t0 x1 x2 x3 x4 x5 = some (r, t')) : Met l yX7_years (Cond.code yX7_years cX7_years 12 (some .int) :: ALL) rm_X7_years (PreW D cI cS [.ref (a0 0), .int x1, .int x2, .int x3, .int x4, .int x5] (pM cI cS a0 t0)) (va_Qi (fun x (_ : Unit) => x = r) (fun _ t => va_P D vwCl (pM cI cS a0 t') t.heap) (AD (pM cI cS a0 t0))) 0 0 (AD (pM cI cS a0 t0)) := by
  refine mW l D cI cS (by decide) (Nat.le_of_ble_eq_true rfl) ?_
  intro p e s m below meth c ls hx hb hr hml hown hts hlocks hP hK hD hS hl
  have hown : s.vm.findClass RX7 = some m.cls := hown
  have hl : lv_has ls 12 [(0, .ref (a0 0)), (1, .int x1), (2, .int x2), (3, .int x3), (4, .int x4), (5, .int x5)] := hl
  unfold F_X7_years at hF
  refine lv_aload_n hx hb dX7_years_0 rfl (lv_at hl 0 rfl) ?_
  refine lv_iconst (v := 0) hx hb dX7_years_1 (by decide) ?_
  refine wF (ws' := pM cI cS a0 (st t0 0 0 0)) (C := RX7) (T := TX7) (N := 29) hx hb hts (fun w h => List.mem_cons_of_mem _ (inAX7 w h)) tyX7 tyX7_ok nmX7 hown hK.1 hP hD hS 0 (at_M_0 cI cS _ _) rfl 0 (by decide) (hts _ (List.mem_cons_of_mem _ fl_RX7_55)) rfl (tyX7_ok 0 (by decide)) rfl rfl (Nat.le_of_ble_eq_true rfl) (sf_M_0_0 cI cS _ _ _) dX7_years_2 (fun H locs hP hD hS => ?_)
  refine lv_iload_n hx hb dX7_years_5 rfl (lv_at hl 1 rfl) ?_
  obtain ⟨v6, h6, hF⟩ := bd hF
  refine cRb (va_runS (As := [.int x1]) (rest := []) ⟨hx, hb, hml, hown, hts⟩ (c_X7_isSheet l D cI cS x1 v6 h6) (cwSA hts (TW.cons _) ls_X7_isSheet ml_RX7_71 ⟨rfl, rfl⟩ ⟨(Nat.le_of_ble_eq_true rfl), (Nat.le_of_ble_eq_true rfl)⟩) (pRS hK pnil) rfl rfl hl.1 rfl (lv_room (Nat.le_of_ble_eq_true rfl)) dX7_years_6 ⟨Nat.le_refl _, Nat.le_refl _⟩) (fun b6 => ?_)
  refine lv_if_ne (tgt := 14) hx hb dX7_years_9 (by decide) (fun c9 => ?_) (fun c9 => ?_)
  · replace hF := iq c9 hF
    refine lv_iload_n hx hb dX7_years_14 rfl (lv_at hl 2 rfl) ?_
    obtain ⟨v15, h15, hF⟩ := bd hF
    refine cRb (va_runS (As := [.int x2]) (rest := []) ⟨hx, hb, hml, hown, hts⟩ (c_X7_isSort l D cI cS x2 v15 h15) (cwSA hts (TW.cons _) ls_X7_isSort ml_RX7_75 ⟨rfl, rfl⟩ ⟨(Nat.le_of_ble_eq_true rfl), (Nat.le_of_ble_eq_true rfl)⟩) (pRS hK pnil) rfl rfl hl.1 rfl (lv_room (Nat.le_of_ble_eq_true rfl)) dX7_years_15 ⟨Nat.le_refl _, Nat.le_refl _⟩) (fun b15 => ?_)
    refine lv_if_eq (tgt := 54) hx hb dX7_years_18 (by decide) (fun c18 => ?_) (fun c18 => ?_)
    · replace hF := ip c18 hF
      refine lv_bipush (v := (-2)) hx hb dX7_years_54 (by decide) ?_
      exact W.iret hx hb hr (fun t ht hW => ⟨⟨_, (), rfl, (Prod.mk.inj (Option.some.inj hF)).1, by show va_P _ _ _ t.heap; rw [ht, ← (Prod.mk.inj (Option.some.inj hF)).2]; exact hP⟩, hS.F ht⟩) hS.2.2 dX7_years_56
    · replace hF := iq c18 hF
      refine lv_iload hx hb dX7_years_21 (lv_at hl 4 rfl) ?_
      refine lv_iconst (v := 0) hx hb dX7_years_23 (by decide) ?_
      refine lv_bipush (v := 20) hx hb dX7_years_24 (by decide) ?_
      obtain ⟨v26, h26, hF⟩ := bd hF
      refine cRb (va_runS (As := [.int x4, .int 0, .int 20]) (rest := []) ⟨hx, hb, hml, hown, hts⟩ (c_X7_within l D cI cS x4 0 20 v26 h26) (cwSA hts (TW.cons _) ls_X7_within ml_RX7_61 ⟨rfl, rfl⟩ ⟨(Nat.le_of_ble_eq_true rfl), (Nat.le_of_ble_eq_true rfl)⟩) (pRS hK pnil) rfl rfl hl.1 rfl (lv_room (Nat.le_of_ble_eq_true rfl)) dX7_years_26 ⟨Nat.le_refl _, Nat.le_refl _⟩) (fun b26 => ?_)
      refine lv_if_eq (tgt := 54) hx hb dX7_years_29 (by decide) (fun c29 => ?_) (fun c29 => ?_)
      · replace hF := ip c29 hF
        refine lv_bipush (v := (-2)) hx hb dX7_years_54 (by decide) ?_
        exact W.iret hx hb hr (fun t ht hW => ⟨⟨_, (), rfl, (Prod.mk.inj (Option.some.inj hF)).1, by show va_P _ _ _ t.heap; rw [ht, ← (Prod.mk.inj (Option.some.inj hF)).2]; exact hP⟩, hS.F ht⟩) hS.2.2 dX7_years_56
      · replace hF := iq c29 hF
        refine lv_iload hx hb dX7_years_32 (lv_at hl 5 rfl) ?_
        refine lv_iconst (v := 0) hx hb dX7_years_34 (by decide) ?_
        refine lv_iconst (v := 4) hx hb dX7_years_35 (by decide) ?_
        obtain ⟨v36, h36, hF⟩ := bd hF
        refine cRb (va_runS (As := [.int x5, .int 0, .int 4]) (rest := []) ⟨hx, hb, hml, hown, hts⟩ (c_X7_within l D cI cS x5 0 4 v36 h36) (cwSA hts (TW.cons _) ls_X7_within ml_RX7_61 ⟨rfl, rfl⟩ ⟨(Nat.le_of_ble_eq_true rfl), (Nat.le_of_ble_eq_true rfl)⟩) (pRS hK pnil) rfl rfl hl.1 rfl (lv_room (Nat.le_of_ble_eq_true rfl)) dX7_years_36 ⟨Nat.le_refl _, Nat.le_refl _⟩) (fun b36 => ?_)
        have J57 : ∀ (s0_57 : ST) (H : Heap) (locs : List Loc) (ls : Array Slot), va_P D vwCl (pM cI cS a0 s0_57) H → va_D (AD (pM cI cS a0 t0)) (pM cI cS a0 s0_57) → va_S (AD (pM cI cS a0 t0)) s.heap H locs → lv_has ls 12 [(0, .ref (a0 0)), (1, .int x1), (2, .int x2), (3, .int x3), (4, .int x4), (5, .int x5)] → F_X7_years_J57 x1 x2 x3 x4 x5 s0_57 = some (r, t') → W p l e rm_X7_years s m [.ref (a0 0), .int x1, .int x2, .int x3, .int x4, .int x5].toArray below meth c H locs 0 0 (MQ below (va_Qi (fun x (_ : Unit) => x = r) (fun _ t => va_P D vwCl (pM cI cS a0 t') t.heap) (AD (pM cI cS a0 t0))) [.ref (a0 0), .int x1, .int x2, .int x3, .int x4, .int x5].toArray s 0 0 (AD (pM cI cS a0 t0))) (F0 m 57 ls []) := by
          intro s0_57 H locs ls hP hD hS hl hF
          unfold F_X7_years_J57 at hF
          refine lv_aload_n hx hb dX7_years_57 rfl (lv_at hl 0 rfl) ?_
          refine lv_iload_n hx hb dX7_years_58 rfl (lv_at hl 1 rfl) ?_
          refine lv_iload_n hx hb dX7_years_59 rfl (lv_at hl 2 rfl) ?_
          refine lv_iload_n hx hb dX7_years_60 rfl (lv_at hl 3 rfl) ?_
          refine lv_iconst (v := 2) hx hb dX7_years_61 (by decide) ?_
          refine lv_iload hx hb dX7_years_62 (lv_at hl 4 rfl) ?_
          refine lv_imul hx hb dX7_years_64 ?_
          obtain ⟨v65, h65, hF⟩ := bd hF
          refine cRe (va_runV (As := [.int x1, .int x2, .int x3, .int (2 * x4)]) (rest := []) ⟨hx, hb, hml, hown, hts⟩ (c_X7_against l D cI cS a0 s0_57 x1 x2 x3 (2 * x4) v65 h65) (cwVA hts (TW.cons _) lv_X7_against ml_RX7_78 ⟨rfl, rfl⟩ ⟨(Nat.le_of_ble_eq_true rfl), (Nat.le_of_ble_eq_true rfl)⟩) (pRV hK hP (ci := 6) rfl rfl) rfl rfl hl.1 rfl (lv_room (Nat.le_of_ble_eq_true rfl)) dX7_years_65 ⟨Nat.le_refl _, Nat.le_refl _⟩) ?_
          refine lv_istore (lv' := [(6, .int v65), (0, .ref (a0 0)), (1, .int x1), (2, .int x2), (3, .int x3), (4, .int x4), (5, .int x5)]) hx hb dX7_years_68 hl (by decide) rfl (fun ls hl => ?_)
          refine lv_iload hx hb dX7_years_70 (lv_at hl 0 rfl) ?_
          refine lv_if_eq (tgt := 82) hx hb dX7_years_72 (by decide) (fun c72 => ?_) (fun c72 => ?_)
          · replace hF := ip c72 hF
            refine lv_aload_n hx hb dX7_years_82 rfl (lv_at hl 1 rfl) ?_
            refine va_get (D := D) (ci := 6) (v := .int (s0_57 0 3)) (C := RX7) (T := TX7) (N := 29) hx hb hts (fun w h => List.mem_cons_of_mem _ (inAX7 w h)) hown hK.1 hP 0 (at_M_0 cI cS _ _) rfl 6 (by decide) (hts _ (List.mem_cons_of_mem _ fl_RX7_65)) (fun _ h9 => h9) rfl dX7_years_83 ?_
            refine lv_if_ne (tgt := 92) hx hb dX7_years_86 (by decide) (fun c86 => ?_) (fun c86 => ?_)
            · replace hF := iq c86 hF
              refine lv_bipush (v := 60) hx hb dX7_years_92 (by decide) ?_
              refine lv_iload_n hx hb dX7_years_94 rfl (lv_at hl 2 rfl) ?_
              refine lv_imul hx hb dX7_years_95 ?_
              refine lv_iload_n hx hb dX7_years_96 rfl (lv_at hl 4 rfl) ?_
              refine lv_iadd hx hb dX7_years_97 ?_
              refine lv_istore (lv' := [(7, .int ((60 * x1) + x3)), (6, .int v65), (0, .ref (a0 0)), (1, .int x1), (2, .int x2), (3, .int x3), (4, .int x4), (5, .int x5)]) hx hb dX7_years_98 hl (by decide) rfl (fun ls hl => ?_)
              refine lv_iconst (v := 0) hx hb dX7_years_100 (by decide) ?_
              refine lv_istore (lv' := [(8, .int 0), (7, .int ((60 * x1) + x3)), (6, .int v65), (0, .ref (a0 0)), (1, .int x1), (2, .int x2), (3, .int x3), (4, .int x4), (5, .int x5)]) hx hb dX7_years_101 hl (by decide) rfl (fun ls hl => ?_)
              have L103 : ∀ (n_103 : Nat) (x8_103 : Int32) (H : Heap) (locs : List Loc) (ls : Array Slot), va_P D vwCl (pM cI cS a0 s0_57) H → va_D (AD (pM cI cS a0 t0)) (pM cI cS a0 s0_57) → va_S (AD (pM cI cS a0 t0)) s.heap H locs → lv_has ls 12 [(0, .ref (a0 0)), (4, .int x4), (5, .int x5), (7, .int ((60 * x1) + x3)), (8, .int x8_103)] → F_X7_years_L103 x1 x2 x3 x4 x5 ((60 * x1) + x3) s0_57 (fun x8_k103 => F_X7_years_J156 x1 x2 x3 x4 x5 ((60 * x1) + x3) s0_57) n_103 x8_103 = some (r, t') → W p l e rm_X7_years s m [.ref (a0 0), .int x1, .int x2, .int x3, .int x4, .int x5].toArray below meth c H locs 0 0 (MQ below (va_Qi (fun x (_ : Unit) => x = r) (fun _ t => va_P D vwCl (pM cI cS a0 t') t.heap) (AD (pM cI cS a0 t0))) [.ref (a0 0), .int x1, .int x2, .int x3, .int x4, .int x5].toArray s 0 0 (AD (pM cI cS a0 t0))) (F0 m 103 ls []) := by
                intro n_103
                induction n_103 with
                | zero => intro x8_103 H locs ls hP hD hS hl hF; exact nomatch hF
                | succ n_103 ih103 =>
                  intro x8_103 H locs ls hP hD hS hl hF
                  rw [F_X7_years_L103.eq_2] at hF
                  refine lv_iload hx hb dX7_years_103 (lv_at hl 4 rfl) ?_
                  refine lv_iload hx hb dX7_years_105 (lv_at hl 1 rfl) ?_
                  refine lv_icmp_ge (tgt := 156) hx hb dX7_years_107 (by decide) (fun c107 => ?_) (fun c107 => ?_)
                  · replace hF := ip c107 hF
                    have hF : F_X7_years_J156 x1 x2 x3 x4 x5 ((60 * x1) + x3) s0_57 = some (r, t') := hF
                    unfold F_X7_years_J156 at hF
                    refine lv_aload_n hx hb dX7_years_156 rfl (lv_at hl 0 rfl) ?_
                    obtain ⟨u157, h157, hF⟩ := bd hF
                    refine cAv (ws' := pM cI cS a0 u157) (va_runV (As := []) (rest := []) ⟨hx, hb, hml, hown, hts⟩ (c_X7_keep l D cI cS a0 s0_57 u157 h157) (cwVA hts (TW.cons _) lv_X7_keep ml_RX7_150 ⟨rfl, rfl⟩ ⟨(Nat.le_of_ble_eq_true rfl), (Nat.le_of_ble_eq_true rfl)⟩) (pWV hK hP hD (ci := 6) rfl rfl) rfl rfl hl.1 rfl (lv_room (Nat.le_of_ble_eq_true rfl)) dX7_years_157 ⟨Nat.le_refl _, Nat.le_refl _⟩) hD hS (ad_M cI cS _ _ _) (fun H locs hP hD hS => ?_)
                    refine lv_aload_n hx hb dX7_years_160 rfl (lv_at hl 0 rfl) ?_
                    refine va_get (D := D) (ci := 6) (v := .int (u157 0 5)) (C := RX7) (T := TX7) (N := 29) hx hb hts (fun w h => List.mem_cons_of_mem _ (inAX7 w h)) hown hK.1 hP 0 (at_M_0 cI cS _ _) rfl 8 (by decide) (hts _ (List.mem_cons_of_mem _ fl_RX7_105)) (fun _ h9 => h9) rfl dX7_years_161 ?_
                    refine lv_istore (lv' := [(8, .int (u157 0 5)), (0, .ref (a0 0)), (4, .int x4), (5, .int x5), (7, .int ((60 * x1) + x3))]) hx hb dX7_years_164 hl (by decide) rfl (fun ls hl => ?_)
                    refine lv_aload_n hx hb dX7_years_166 rfl (lv_at hl 1 rfl) ?_
                    refine lv_iload hx hb dX7_years_167 (lv_at hl 4 rfl) ?_
                    refine lv_iload hx hb dX7_years_169 (lv_at hl 2 rfl) ?_
                    obtain ⟨v171, u171, h171, hF⟩ := bd2 hF
                    refine cAe (ws' := pM cI cS a0 u171) (va_runV (As := [.int ((60 * x1) + x3), .int x4]) (rest := []) ⟨hx, hb, hml, hown, hts⟩ (c_X7_goYears l D cI cS a0 u157 ((60 * x1) + x3) x4 v171 u171 h171) (cwVA hts (TW.cons _) lv_X7_goYears ml_RX7_172 ⟨rfl, rfl⟩ ⟨(Nat.le_of_ble_eq_true rfl), (Nat.le_of_ble_eq_true rfl)⟩) (pWV hK hP hD (ci := 6) rfl rfl) rfl rfl hl.1 rfl (lv_room (Nat.le_of_ble_eq_true rfl)) dX7_years_171 ⟨Nat.le_refl _, Nat.le_refl _⟩) hD hS (ad_M cI cS _ _ _) (fun H locs hP hD hS => ?_)
                    refine lv_istore (lv' := [(9, .int v171), (8, .int (u157 0 5)), (0, .ref (a0 0)), (4, .int x4), (5, .int x5), (7, .int ((60 * x1) + x3))]) hx hb dX7_years_174 hl (by decide) rfl (fun ls hl => ?_)
                    refine lv_aload_n hx hb dX7_years_176 rfl (lv_at hl 2 rfl) ?_
                    refine lv_iload hx hb dX7_years_177 (lv_at hl 4 rfl) ?_
                    obtain ⟨v179, h179, hF⟩ := bd hF
                    refine cRe (va_runV (As := [.int x5]) (rest := []) ⟨hx, hb, hml, hown, hts⟩ (c_X7_tellYears l D cI cS a0 u171 x5 v179 h179) (cwVA hts (TW.cons _) lv_X7_tellYears ml_RX7_175 ⟨rfl, rfl⟩ ⟨(Nat.le_of_ble_eq_true rfl), (Nat.le_of_ble_eq_true rfl)⟩) (pRV hK hP (ci := 6) rfl rfl) rfl rfl hl.1 rfl (lv_room (Nat.le_of_ble_eq_true rfl)) dX7_years_179 ⟨Nat.le_refl _, Nat.le_refl _⟩) ?_
                    refine lv_istore (lv' := [(10, .int v179), (9, .int v171), (8, .int (u157 0 5)), (0, .ref (a0 0)), (4, .int x4), (5, .int x5), (7, .int ((60 * x1) + x3))]) hx hb dX7_years_182 hl (by decide) rfl (fun ls hl => ?_)
                    refine lv_aload_n hx hb dX7_years_184 rfl (lv_at hl 3 rfl) ?_
                    refine lv_iload hx hb dX7_years_185 (lv_at hl 2 rfl) ?_
                    refine wF (ws' := pM cI cS a0 (st u171 0 5 (u157 0 5))) (C := RX7) (T := TX7) (N := 29) hx hb hts (fun w h => List.mem_cons_of_mem _ (inAX7 w h)) tyX7 tyX7_ok nmX7 hown hK.1 hP hD hS 0 (at_M_0 cI cS _ _) rfl 8 (by decide) (hts _ (List.mem_cons_of_mem _ fl_RX7_105)) rfl (tyX7_ok 8 (by decide)) rfl rfl (Nat.le_of_ble_eq_true rfl) (sf_M_0_8 cI cS _ _ _) dX7_years_187 (fun H locs hP hD hS => ?_)
                    refine lv_iconst (v := 0) hx hb dX7_years_190 (by decide) ?_
                    refine lv_istore (lv' := [(11, .int 0), (10, .int v179), (9, .int v171), (8, .int (u157 0 5)), (0, .ref (a0 0)), (4, .int x4), (5, .int x5), (7, .int ((60 * x1) + x3))]) hx hb dX7_years_191 hl (by decide) rfl (fun ls hl => ?_)
                    have L193 : ∀ (n_193 : Nat) (x11_193 : Int32) (s0_193 : ST) (H : Heap) (locs : List Loc) (ls : Array Slot), va_P D vwCl (pM cI cS a0 s0_193) H → va_D (AD (pM cI cS a0 t0)) (pM cI cS a0 s0_193) → va_S (AD (pM cI cS a0 t0)) s.heap H locs → lv_has ls 12 [(0, .ref (a0 0)), (5, .int x5), (9, .int v171), (10, .int v179), (11, .int x11_193)] → F_X7_years_L193 x1 x2 x3 x4 x5 v171 v179 (fun x11_k193 s0_k193 => F_X7_years_J222 x1 x2 x3 x4 x5 v171 v179 s0_k193) n_193 x11_193 s0_193 = some (r, t') → W p l e rm_X7_years s m [.ref (a0 0), .int x1, .int x2, .int x3, .int x4, .int x5].toArray below meth c H locs 0 0 (MQ below (va_Qi (fun x (_ : Unit) => x = r) (fun _ t => va_P D vwCl (pM cI cS a0 t') t.heap) (AD (pM cI cS a0 t0))) [.ref (a0 0), .int x1, .int x2, .int x3, .int x4, .int x5].toArray s 0 0 (AD (pM cI cS a0 t0))) (F0 m 193 ls []) := by
                      intro n_193
                      induction n_193 with
                      | zero => intro x11_193 s0_193 H locs ls hP hD hS hl hF; exact nomatch hF
                      | succ n_193 ih193 =>
                        intro x11_193 s0_193 H locs ls hP hD hS hl hF
                        rw [F_X7_years_L193.eq_2] at hF
                        refine lv_iload hx hb dX7_years_193 (lv_at hl 4 rfl) ?_
                        refine lv_aload_n hx hb dX7_years_195 rfl (lv_at hl 0 rfl) ?_
                        refine va_get (D := D) (ci := 6) (v := .int (s0_193 0 3)) (C := RX7) (T := TX7) (N := 29) hx hb hts (fun w h => List.mem_cons_of_mem _ (inAX7 w h)) hown hK.1 hP 0 (at_M_0 cI cS _ _) rfl 6 (by decide) (hts _ (List.mem_cons_of_mem _ fl_RX7_65)) (fun _ h9 => h9) rfl dX7_years_196 ?_
                        refine lv_icmp_ge (tgt := 222) hx hb dX7_years_199 (by decide) (fun c199 => ?_) (fun c199 => ?_)
                        · replace hF := ip c199 hF
                          have hF : F_X7_years_J222 x1 x2 x3 x4 x5 v171 v179 s0_193 = some (r, t') := hF
                          unfold F_X7_years_J222 at hF
                          refine lv_iload hx hb dX7_years_222 (lv_at hl 1 rfl) ?_
                          refine lv_iconst (v := 1) hx hb dX7_years_224 (by decide) ?_
                          refine lv_icmp_ne (tgt := 233) hx hb dX7_years_225 (by decide) (fun c225 => ?_) (fun c225 => ?_)
                          · replace hF := iq c225 hF
                            refine lv_iload hx hb dX7_years_233 (lv_at hl 2 rfl) ?_
                            refine lv_bipush (v := (-9)) hx hb dX7_years_235 (by decide) ?_
                            refine lv_icmp_ne (tgt := 245) hx hb dX7_years_237 (by decide) (fun c237 => ?_) (fun c237 => ?_)
                            · replace hF := iq c237 hF
                              refine lv_bipush (v := (-100)) hx hb dX7_years_245 (by decide) ?_
                              refine lv_iload hx hb dX7_years_247 (lv_at hl 2 rfl) ?_
                              refine lv_isub hx hb dX7_years_249 ?_
                              exact W.iret hx hb hr (fun t ht hW => ⟨⟨_, (), rfl, (Prod.mk.inj (Option.some.inj hF)).1, by show va_P _ _ _ t.heap; rw [ht, ← (Prod.mk.inj (Option.some.inj hF)).2]; exact hP⟩, hS.F ht⟩) hS.2.2 dX7_years_250
                            · replace hF := ip c237 hF
                              refine lv_iload hx hb dX7_years_240 (lv_at hl 3 rfl) ?_
                              refine lv_goto (tgt := 250) hx hb dX7_years_242 (by decide) ?_
                              exact W.iret hx hb hr (fun t ht hW => ⟨⟨_, (), rfl, (Prod.mk.inj (Option.some.inj hF)).1, by show va_P _ _ _ t.heap; rw [ht, ← (Prod.mk.inj (Option.some.inj hF)).2]; exact hP⟩, hS.F ht⟩) hS.2.2 dX7_years_250
                          · replace hF := ip c225 hF
                            refine lv_iload hx hb dX7_years_228 (lv_at hl 2 rfl) ?_
                            refine lv_goto (tgt := 250) hx hb dX7_years_230 (by decide) ?_
                            exact W.iret hx hb hr (fun t ht hW => ⟨⟨_, (), rfl, (Prod.mk.inj (Option.some.inj hF)).1, by show va_P _ _ _ t.heap; rw [ht, ← (Prod.mk.inj (Option.some.inj hF)).2]; exact hP⟩, hS.F ht⟩) hS.2.2 dX7_years_250
                        · replace hF := iq c199 hF
                          refine lv_aload_n hx hb dX7_years_202 rfl (lv_at hl 0 rfl) ?_
                          refine va_get (D := D) (ci := 6) (v := .ref (a0 6)) (C := RX7) (T := TX7) (N := 29) hx hb hts (fun w h => List.mem_cons_of_mem _ (inAX7 w h)) hown hK.1 hP 0 (at_M_0 cI cS _ _) rfl 11 (by decide) (hts _ (List.mem_cons_of_mem _ fl_RX7_25)) (fun _ h9 => h9) rfl dX7_years_203 ?_
                          refine lv_iload hx hb dX7_years_206 (lv_at hl 4 rfl) ?_
                          refine lv_aload_n hx hb dX7_years_208 rfl (lv_at hl 0 rfl) ?_
                          refine va_get (D := D) (ci := 6) (v := .ref (a0 9)) (C := RX7) (T := TX7) (N := 29) hx hb hts (fun w h => List.mem_cons_of_mem _ (inAX7 w h)) hown hK.1 hP 0 (at_M_0 cI cS _ _) rfl 17 (by decide) (hts _ (List.mem_cons_of_mem _ fl_RX7_34)) (fun _ h9 => h9) rfl dX7_years_209 ?_
                          refine lv_iload hx hb dX7_years_212 (lv_at hl 4 rfl) ?_
                          obtain ⟨v214, h214, hF⟩ := bd hF
                          refine rI hx hb hK.1 hP 9 0 (at_M_9 cI cS _ _) rfl h214 dX7_years_214 ?_
                          obtain ⟨k215, h215, hF⟩ := bd hF
                          refine wI (ws' := pM cI cS a0 (st s0_193 6 k215 v214)) hx hb hK.1 hP hD hS 6 0 (at_M_6 cI cS _ _) rfl h215 (sw_M_6 cI cS _ _ _ _) dX7_years_215 (fun H locs hP hD hS => ?_)
                          refine lv_iinc (v := (x11_193 + 1)) (lv' := [(11, .int (x11_193 + 1)), (0, .ref (a0 0)), (5, .int x5), (9, .int v171), (10, .int v179)]) hx hb dX7_years_216 hl (k := 4) rfl rfl (by decide) rfl (fun ls hl => ?_)
                          refine lv_goto (tgt := 193) hx hb dX7_years_219 (by decide) ?_
                          exact ih193 (x11_193 + 1) (st s0_193 6 k215 v214) _ _ _ hP hD hS (lv_sub hl [1, 2, 3, 4, 0] rfl) hF
                    exact L193 1000 0 (st u171 0 5 (u157 0 5)) _ _ _ hP hD hS (lv_sub hl [4, 6, 2, 1, 0] rfl) hF
                  · replace hF := iq c107 hF
                    refine lv_aload_n hx hb dX7_years_110 rfl (lv_at hl 0 rfl) ?_
                    refine lv_aload_n hx hb dX7_years_111 rfl (lv_at hl 0 rfl) ?_
                    refine va_get (D := D) (ci := 6) (v := .ref (a0 3)) (C := RX7) (T := TX7) (N := 29) hx hb hts (fun w h => List.mem_cons_of_mem _ (inAX7 w h)) hown hK.1 hP 0 (at_M_0 cI cS _ _) rfl 4 (by decide) (hts _ (List.mem_cons_of_mem _ fl_RX7_16)) (fun _ h9 => h9) rfl dX7_years_112 ?_
                    refine lv_iload hx hb dX7_years_115 (lv_at hl 3 rfl) ?_
                    refine lv_iconst (v := 2) hx hb dX7_years_117 (by decide) ?_
                    refine lv_iload hx hb dX7_years_118 (lv_at hl 4 rfl) ?_
                    refine lv_imul hx hb dX7_years_120 ?_
                    refine lv_iadd hx hb dX7_years_121 ?_
                    obtain ⟨v122, h122, hF⟩ := bd hF
                    refine rI hx hb hK.1 hP 3 0 (at_M_3 cI cS _ _) rfl h122 dX7_years_122 ?_
                    refine lv_aload_n hx hb dX7_years_123 rfl (lv_at hl 0 rfl) ?_
                    refine va_get (D := D) (ci := 6) (v := .ref (a0 3)) (C := RX7) (T := TX7) (N := 29) hx hb hts (fun w h => List.mem_cons_of_mem _ (inAX7 w h)) hown hK.1 hP 0 (at_M_0 cI cS _ _) rfl 4 (by decide) (hts _ (List.mem_cons_of_mem _ fl_RX7_16)) (fun _ h9 => h9) rfl dX7_years_124 ?_
                    refine lv_iload hx hb dX7_years_127 (lv_at hl 3 rfl) ?_
                    refine lv_iconst (v := 2) hx hb dX7_years_129 (by decide) ?_
                    refine lv_iload hx hb dX7_years_130 (lv_at hl 4 rfl) ?_
                    refine lv_imul hx hb dX7_years_132 ?_
                    refine lv_iadd hx hb dX7_years_133 ?_
                    refine lv_iconst (v := 1) hx hb dX7_years_134 (by decide) ?_
                    refine lv_iadd hx hb dX7_years_135 ?_
                    obtain ⟨v136, h136, hF⟩ := bd hF
                    refine rI hx hb hK.1 hP 3 0 (at_M_3 cI cS _ _) rfl h136 dX7_years_136 ?_
                    obtain ⟨v137, h137, hF⟩ := bd hF
                    refine cRe (va_runV (As := [.int v122, .int v136]) (rest := []) ⟨hx, hb, hml, hown, hts⟩ (c_X7_refusesPair l D cI cS a0 s0_57 v122 v136 v137 h137) (cwVA hts (TW.cons _) lv_X7_refusesPair ml_RX7_169 ⟨rfl, rfl⟩ ⟨(Nat.le_of_ble_eq_true rfl), (Nat.le_of_ble_eq_true rfl)⟩) (pRV hK hP (ci := 6) rfl rfl) rfl rfl hl.1 rfl (lv_room (Nat.le_of_ble_eq_true rfl)) dX7_years_137 ⟨Nat.le_refl _, Nat.le_refl _⟩) ?_
                    refine lv_istore (lv' := [(9, .int v137), (0, .ref (a0 0)), (4, .int x4), (5, .int x5), (7, .int ((60 * x1) + x3)), (8, .int x8_103)]) hx hb dX7_years_140 hl (by decide) rfl (fun ls hl => ?_)
                    refine lv_iload hx hb dX7_years_142 (lv_at hl 0 rfl) ?_
                    refine lv_if_eq (tgt := 150) hx hb dX7_years_144 (by decide) (fun c144 => ?_) (fun c144 => ?_)
                    · replace hF := ip c144 hF
                      refine lv_iinc (v := (x8_103 + 1)) (lv' := [(8, .int (x8_103 + 1)), (9, .int v137), (0, .ref (a0 0)), (4, .int x4), (5, .int x5), (7, .int ((60 * x1) + x3))]) hx hb dX7_years_150 hl (k := 5) rfl rfl (by decide) rfl (fun ls hl => ?_)
                      refine lv_goto (tgt := 103) hx hb dX7_years_153 (by decide) ?_
                      exact ih103 (x8_103 + 1) _ _ _ hP hD hS (lv_sub hl [2, 3, 4, 5, 0] rfl) hF
                    · replace hF := iq c144 hF
                      refine lv_iload hx hb dX7_years_147 (lv_at hl 0 rfl) ?_
                      exact W.iret hx hb hr (fun t ht hW => ⟨⟨_, (), rfl, (Prod.mk.inj (Option.some.inj hF)).1, by show va_P _ _ _ t.heap; rw [ht, ← (Prod.mk.inj (Option.some.inj hF)).2]; exact hP⟩, hS.F ht⟩) hS.2.2 dX7_years_149
              exact L103 1000 0 _ _ _ hP hD hS (lv_sub hl [3, 7, 8, 1, 0] rfl) hF
            · replace hF := ip c86 hF
              refine lv_bipush (v := (-3)) hx hb dX7_years_89 (by decide) ?_
              exact W.iret hx hb hr (fun t ht hW => ⟨⟨_, (), rfl, (Prod.mk.inj (Option.some.inj hF)).1, by show va_P _ _ _ t.heap; rw [ht, ← (Prod.mk.inj (Option.some.inj hF)).2]; exact hP⟩, hS.F ht⟩) hS.2.2 dX7_years_91
          · replace hF := iq c72 hF
            refine lv_aload_n hx hb dX7_years_75 rfl (lv_at hl 1 rfl) ?_
            refine lv_iload hx hb dX7_years_76 (lv_at hl 0 rfl) ?_
            obtain ⟨v78, u78, h78, hF⟩ := bd2 hF
            refine cAe (ws' := pM cI cS a0 u78) (va_runV (As := [.int v65]) (rest := []) ⟨hx, hb, hml, hown, hts⟩ (c_X7_fails l D cI cS a0 s0_57 v65 v78 u78 h78) (cwVA hts (TW.cons _) lv_X7_fails ml_RX7_82 ⟨rfl, rfl⟩ ⟨(Nat.le_of_ble_eq_true rfl), (Nat.le_of_ble_eq_true rfl)⟩) (pWV hK hP hD (ci := 6) rfl rfl) rfl rfl hl.1 rfl (lv_room (Nat.le_of_ble_eq_true rfl)) dX7_years_78 ⟨Nat.le_refl _, Nat.le_refl _⟩) hD hS (ad_M cI cS _ _ _) (fun H locs hP hD hS => ?_)
            exact W.iret hx hb hr (fun t ht hW => ⟨⟨_, (), rfl, (Prod.mk.inj (Option.some.inj hF)).1, by show va_P _ _ _ t.heap; rw [ht, ← (Prod.mk.inj (Option.some.inj hF)).2]; exact hP⟩, hS.F ht⟩) hS.2.2 dX7_years_81
        refine lv_if_ne (tgt := 57) hx hb dX7_years_39 (by decide) (fun c39 => ?_) (fun c39 => ?_)
        · replace hF := iq c39 hF
          exact J57 (st t0 0 0 0) _ _ _ hP hD hS (lv_sub hl [0, 1, 2, 3, 4, 5] rfl) hF
        · replace hF := ip c39 hF
          refine lv_iload hx hb dX7_years_42 (lv_at hl 5 rfl) ?_
          refine lv_bipush (v := 10) hx hb dX7_years_44 (by decide) ?_
          refine lv_bipush (v := 15) hx hb dX7_years_46 (by decide) ?_
          obtain ⟨v48, h48, hF⟩ := bd hF
          refine cRb (va_runS (As := [.int x5, .int 10, .int 15]) (rest := []) ⟨hx, hb, hml, hown, hts⟩ (c_X7_within l D cI cS x5 10 15 v48 h48) (cwSA hts (TW.cons _) ls_X7_within ml_RX7_61 ⟨rfl, rfl⟩ ⟨(Nat.le_of_ble_eq_true rfl), (Nat.le_of_ble_eq_true rfl)⟩) (pRS hK pnil) rfl rfl hl.1 rfl (lv_room (Nat.le_of_ble_eq_true rfl)) dX7_years_48 ⟨Nat.le_refl _, Nat.le_refl _⟩) (fun b48 => ?_)
          refine lv_if_ne (tgt := 57) hx hb dX7_years_51 (by decide) (fun c51 => ?_) (fun c51 => ?_)
          · replace hF := iq c51 hF
            exact J57 (st t0 0 0 0) _ _ _ hP hD hS (lv_sub hl [0, 1, 2, 3, 4, 5] rfl) hF
          · replace hF := ip c51 hF
            refine lv_bipush (v := (-2)) hx hb dX7_years_54 (by decide) ?_
            exact W.iret hx hb hr (fun t ht hW => ⟨⟨_, (), rfl, (Prod.mk.inj (Option.some.inj hF)).1, by show va_P _ _ _ t.heap; rw [ht, ← (Prod.mk.inj (Option.some.inj hF)).2]; exact hP⟩, hS.F ht⟩) hS.2.2 dX7_years_56
  · replace hF := ip c9 hF
    refine lv_iconst (v := (-1)) hx hb dX7_years_12 (by decide) ?_
    exact W.iret hx hb hr (fun t ht hW => ⟨⟨_, (), rfl, (Prod.mk.inj (Option.some.inj hF)).1, by show va_P _ _ _ t.heap; rw [ht, ← (Prod.mk.inj (Option.some.inj hF)).2]; exact hP⟩, hS.F ht⟩) hS.2.2 dX7_years_13
noncomputable def F_X7_comesFrom_L6 (t0 : ST) (x1 : Int32) (x2 : Int32) (x3 : Int32) (k : Int32 → Int32 → Option Int32) : Nat → Int32 → Int32 → Option Int32
  | 0, _, _ => none
  | n + 1, x4, x5 =>
    if 64 ≤ x5 then
      k x4 x5
    else
    if x4 = x3 then
      some x5
    else
    (F_X7_stepsOn t0 x4 x2).bind fun v26 =>
    (F_X7_comesFrom_L6 t0 x1 x2 x3 k n) v26 (x5 + 1)
noncomputable def F_X7_comesFrom_J37 (t0 : ST) (x1 : Int32) (x2 : Int32) (x3 : Int32) : Option Int32 :=
  some (-9)
noncomputable def F_X7_comesFrom (t0 : ST) (x1 : Int32) (x2 : Int32) (x3 : Int32) : Option Int32 :=
  F_X7_comesFrom_L6 t0 x1 x2 x3 (fun x4_k6 x5_k6 => F_X7_comesFrom_J37 t0 x1 x2 x3) 1000 x1 0
abbrev rm_X7_comesFrom : Room := { frames := 1, cells := 0, slots := 0, locals := 24 }
set_option maxHeartbeats 4000000 in
set_option maxRecDepth 100000 in
theorem c_X7_comesFrom (l : Launch) (D : va_G) (cI cS : ClassId) (a0 : Nat → Nat) (t0 : ST) (x1 : Int32) (x2 : Int32) (x3 : Int32) (r : Int32) (hF : F_X7_comesFrom t0 x1 x2 x3 = some r) : Met l yX7_comesFrom (Cond.code yX7_comesFrom cX7_comesFrom 6 (some .int) :: ALL) rm_X7_comesFrom (PreR D cI cS [.ref (a0 0), .int x1, .int x2, .int x3] (pM cI cS a0 t0)) (vp_Si (fun x => x = r)) 0 0 (fun _ => False) := by
  refine mR l D cI cS (by decide) (Nat.le_of_ble_eq_true rfl) ?_
  intro p e s m below meth c ls hx hb hr hml hown hts hlocks hP hK hl
  have hown : s.vm.findClass RX7 = some m.cls := hown
  have hl : lv_has ls 6 [(0, .ref (a0 0)), (1, .int x1), (2, .int x2), (3, .int x3)] := hl
  unfold F_X7_comesFrom at hF
  refine lv_iload_n hx hb dX7_comesFrom_0 rfl (lv_at hl 1 rfl) ?_
  refine lv_istore (lv' := [(4, .int x1), (0, .ref (a0 0)), (1, .int x1), (2, .int x2), (3, .int x3)]) hx hb dX7_comesFrom_1 hl (by decide) rfl (fun ls hl => ?_)
  refine lv_iconst (v := 0) hx hb dX7_comesFrom_3 (by decide) ?_
  refine lv_istore (lv' := [(5, .int 0), (4, .int x1), (0, .ref (a0 0)), (1, .int x1), (2, .int x2), (3, .int x3)]) hx hb dX7_comesFrom_4 hl (by decide) rfl (fun ls hl => ?_)
  have L6 : ∀ (n_6 : Nat) (x4_6 : Int32) (x5_6 : Int32) (ls : Array Slot), lv_has ls 6 [(0, .ref (a0 0)), (2, .int x2), (3, .int x3), (4, .int x4_6), (5, .int x5_6)] → F_X7_comesFrom_L6 t0 x1 x2 x3 (fun x4_k6 x5_k6 => F_X7_comesFrom_J37 t0 x1 x2 x3) n_6 x4_6 x5_6 = some r → W p l e rm_X7_comesFrom s m [.ref (a0 0), .int x1, .int x2, .int x3].toArray below meth c s.heap [] 0 0 (MQ below (vp_Si (fun x => x = r)) [.ref (a0 0), .int x1, .int x2, .int x3].toArray s 0 0 (fun _ => False)) (F0 m 6 ls []) := by
    intro n_6
    induction n_6 with
    | zero => intro x4_6 x5_6 ls hl hF; exact nomatch hF
    | succ n_6 ih6 =>
      intro x4_6 x5_6 ls hl hF
      rw [F_X7_comesFrom_L6.eq_2] at hF
      refine lv_iload hx hb dX7_comesFrom_6 (lv_at hl 4 rfl) ?_
      refine lv_bipush (v := 64) hx hb dX7_comesFrom_8 (by decide) ?_
      refine lv_icmp_ge (tgt := 37) hx hb dX7_comesFrom_10 (by decide) (fun c10 => ?_) (fun c10 => ?_)
      · replace hF := ip c10 hF
        have hF : F_X7_comesFrom_J37 t0 x1 x2 x3 = some r := hF
        unfold F_X7_comesFrom_J37 at hF
        refine lv_bipush (v := (-9)) hx hb dX7_comesFrom_37 (by decide) ?_
        exact W.iret hx hb hr (fun t ht hW => ⟨_, rfl, (Option.some.inj hF), ht⟩) (fun _ h => nomatch h) dX7_comesFrom_39
      · replace hF := iq c10 hF
        refine lv_iload hx hb dX7_comesFrom_13 (lv_at hl 3 rfl) ?_
        refine lv_iload_n hx hb dX7_comesFrom_15 rfl (lv_at hl 2 rfl) ?_
        refine lv_icmp_ne (tgt := 22) hx hb dX7_comesFrom_16 (by decide) (fun c16 => ?_) (fun c16 => ?_)
        · replace hF := iq c16 hF
          refine lv_aload_n hx hb dX7_comesFrom_22 rfl (lv_at hl 0 rfl) ?_
          refine lv_iload hx hb dX7_comesFrom_23 (lv_at hl 3 rfl) ?_
          refine lv_iload_n hx hb dX7_comesFrom_25 rfl (lv_at hl 1 rfl) ?_
          obtain ⟨v26, h26, hF⟩ := bd hF
          refine cRe (va_runV (As := [.int x4_6, .int x2]) (rest := []) ⟨hx, hb, hml, hown, hts⟩ (c_X7_stepsOn l D cI cS a0 t0 x4_6 x2 v26 h26) (cwVA hts (TW.cons _) lv_X7_stepsOn ml_RX7_147 ⟨rfl, rfl⟩ ⟨(Nat.le_of_ble_eq_true rfl), (Nat.le_of_ble_eq_true rfl)⟩) (pRV hK hP (ci := 6) rfl rfl) rfl rfl hl.1 rfl (lv_room (Nat.le_of_ble_eq_true rfl)) dX7_comesFrom_26 ⟨Nat.le_refl _, Nat.le_refl _⟩) ?_
          refine lv_istore (lv' := [(4, .int v26), (0, .ref (a0 0)), (2, .int x2), (3, .int x3), (5, .int x5_6)]) hx hb dX7_comesFrom_29 hl (by decide) rfl (fun ls hl => ?_)
          refine lv_iinc (v := (x5_6 + 1)) (lv' := [(5, .int (x5_6 + 1)), (4, .int v26), (0, .ref (a0 0)), (2, .int x2), (3, .int x3)]) hx hb dX7_comesFrom_31 hl (k := 4) rfl rfl (by decide) rfl (fun ls hl => ?_)
          refine lv_goto (tgt := 6) hx hb dX7_comesFrom_34 (by decide) ?_
          exact ih6 v26 (x5_6 + 1) _ (lv_sub hl [2, 3, 4, 1, 0] rfl) hF
        · replace hF := ip c16 hF
          refine lv_iload hx hb dX7_comesFrom_19 (lv_at hl 4 rfl) ?_
          exact W.iret hx hb hr (fun t ht hW => ⟨_, rfl, (Option.some.inj hF), ht⟩) (fun _ h => nomatch h) dX7_comesFrom_21
  exact L6 1000 x1 0 _ (lv_sub hl [2, 4, 5, 1, 0] rfl) hF
noncomputable def F_X7_comes (t0 : ST) (x1 : Int32) (x2 : Int32) : Option Int32 :=
  (F_X7_isBlock t0 x1).bind fun v2 =>
  if v2 = 0 then
    some (-1)
  else
  (F_X7_isShape x2).bind fun v11 =>
  if v11 = 0 then
    some (-2)
  else
  (rd 6 (t0 6) x1).bind fun v23 =>
  (F_X7_goesOf t0 x1).bind fun v26 =>
  (F_X7_comesFrom t0 v23 v26 x2).bind fun v30 =>
  some v30
abbrev rm_X7_comes : Room := { frames := 2, cells := 0, slots := 0, locals := 49 }
set_option maxHeartbeats 4000000 in
set_option maxRecDepth 100000 in
theorem c_X7_comes (l : Launch) (D : va_G) (cI cS : ClassId) (a0 : Nat → Nat) (t0 : ST) (x1 : Int32) (x2 : Int32) (r : Int32) (hF : F_X7_comes t0 x1 x2 = some r) : Met l yX7_comes (Cond.code yX7_comes cX7_comes 3 (some .int) :: ALL) rm_X7_comes (PreR D cI cS [.ref (a0 0), .int x1, .int x2] (pM cI cS a0 t0)) (vp_Si (fun x => x = r)) 0 0 (fun _ => False) := by
  refine mR l D cI cS (by decide) (Nat.le_of_ble_eq_true rfl) ?_
  intro p e s m below meth c ls hx hb hr hml hown hts hlocks hP hK hl
  have hown : s.vm.findClass RX7 = some m.cls := hown
  have hl : lv_has ls 3 [(0, .ref (a0 0)), (1, .int x1), (2, .int x2)] := hl
  unfold F_X7_comes at hF
  refine lv_aload_n hx hb dX7_comes_0 rfl (lv_at hl 0 rfl) ?_
  refine lv_iload_n hx hb dX7_comes_1 rfl (lv_at hl 1 rfl) ?_
  obtain ⟨v2, h2, hF⟩ := bd hF
  refine cRb (va_runV (As := [.int x1]) (rest := []) ⟨hx, hb, hml, hown, hts⟩ (c_X7_isBlock l D cI cS a0 t0 x1 v2 h2) (cwVA hts (TW.cons _) lv_X7_isBlock ml_RX7_132 ⟨rfl, rfl⟩ ⟨(Nat.le_of_ble_eq_true rfl), (Nat.le_of_ble_eq_true rfl)⟩) (pRV hK hP (ci := 6) rfl rfl) rfl rfl hl.1 rfl (lv_room (Nat.le_of_ble_eq_true rfl)) dX7_comes_2 ⟨Nat.le_refl _, Nat.le_refl _⟩) (fun b2 => ?_)
  refine lv_if_ne (tgt := 10) hx hb dX7_comes_5 (by decide) (fun c5 => ?_) (fun c5 => ?_)
  · replace hF := iq c5 hF
    refine lv_iload_n hx hb dX7_comes_10 rfl (lv_at hl 2 rfl) ?_
    obtain ⟨v11, h11, hF⟩ := bd hF
    refine cRb (va_runS (As := [.int x2]) (rest := []) ⟨hx, hb, hml, hown, hts⟩ (c_X7_isShape l D cI cS x2 v11 h11) (cwSA hts (TW.cons _) ls_X7_isShape ml_RX7_141 ⟨rfl, rfl⟩ ⟨(Nat.le_of_ble_eq_true rfl), (Nat.le_of_ble_eq_true rfl)⟩) (pRS hK pnil) rfl rfl hl.1 rfl (lv_room (Nat.le_of_ble_eq_true rfl)) dX7_comes_11 ⟨Nat.le_refl _, Nat.le_refl _⟩) (fun b11 => ?_)
    refine lv_if_eq (tgt := 36) hx hb dX7_comes_14 (by decide) (fun c14 => ?_) (fun c14 => ?_)
    · replace hF := ip c14 hF
      refine lv_bipush (v := (-2)) hx hb dX7_comes_36 (by decide) ?_
      exact W.iret hx hb hr (fun t ht hW => ⟨_, rfl, (Option.some.inj hF), ht⟩) (fun _ h => nomatch h) dX7_comes_38
    · replace hF := iq c14 hF
      refine lv_aload_n hx hb dX7_comes_17 rfl (lv_at hl 0 rfl) ?_
      refine lv_aload_n hx hb dX7_comes_18 rfl (lv_at hl 0 rfl) ?_
      refine va_get (D := D) (ci := 6) (v := .ref (a0 6)) (C := RX7) (T := TX7) (N := 29) hx hb hts (fun w h => List.mem_cons_of_mem _ (inAX7 w h)) hown hK.1 hP 0 (at_M_0 cI cS _ _) rfl 11 (by decide) (hts _ (List.mem_cons_of_mem _ fl_RX7_25)) (fun _ h9 => h9) rfl dX7_comes_19 ?_
      refine lv_iload_n hx hb dX7_comes_22 rfl (lv_at hl 1 rfl) ?_
      obtain ⟨v23, h23, hF⟩ := bd hF
      refine rI hx hb hK.1 hP 6 0 (at_M_6 cI cS _ _) rfl h23 dX7_comes_23 ?_
      refine lv_aload_n hx hb dX7_comes_24 rfl (lv_at hl 0 rfl) ?_
      refine lv_iload_n hx hb dX7_comes_25 rfl (lv_at hl 1 rfl) ?_
      obtain ⟨v26, h26, hF⟩ := bd hF
      refine cRe (va_runV (As := [.int x1]) (rest := [.int v23, .ref (a0 0)]) ⟨hx, hb, hml, hown, hts⟩ (c_X7_goesOf l D cI cS a0 t0 x1 v26 h26) (cwVA hts (TW.cons _) lv_X7_goesOf ml_RX7_135 ⟨rfl, rfl⟩ ⟨(Nat.le_of_ble_eq_true rfl), (Nat.le_of_ble_eq_true rfl)⟩) (pRV hK hP (ci := 6) rfl rfl) rfl rfl hl.1 rfl (lv_room (Nat.le_of_ble_eq_true rfl)) dX7_comes_26 ⟨Nat.le_refl _, Nat.le_refl _⟩) ?_
      refine lv_iload_n hx hb dX7_comes_29 rfl (lv_at hl 2 rfl) ?_
      obtain ⟨v30, h30, hF⟩ := bd hF
      refine cRe (va_runV (As := [.int v23, .int v26, .int x2]) (rest := []) ⟨hx, hb, hml, hown, hts⟩ (c_X7_comesFrom l D cI cS a0 t0 v23 v26 x2 v30 h30) (cwVA hts (TW.cons _) lv_X7_comesFrom ml_RX7_178 ⟨rfl, rfl⟩ ⟨(Nat.le_of_ble_eq_true rfl), (Nat.le_of_ble_eq_true rfl)⟩) (pRV hK hP (ci := 6) rfl rfl) rfl rfl hl.1 rfl (lv_room (Nat.le_of_ble_eq_true rfl)) dX7_comes_30 ⟨Nat.le_refl _, Nat.le_refl _⟩) ?_
      refine lv_goto (tgt := 38) hx hb dX7_comes_33 (by decide) ?_
      exact W.iret hx hb hr (fun t ht hW => ⟨_, rfl, (Option.some.inj hF), ht⟩) (fun _ h => nomatch h) dX7_comes_38
  · replace hF := ip c5 hF
    refine lv_iconst (v := (-1)) hx hb dX7_comes_8 (by decide) ?_
    exact W.iret hx hb hr (fun t ht hW => ⟨_, rfl, (Option.some.inj hF), ht⟩) (fun _ h => nomatch h) dX7_comes_9
noncomputable def F_X7_strokes_J56 (t0 : ST) (x1 : Int32) (x2 : Int32) (g k : Int32 → Int32 → Option Int32) (x3 : Int32) (x4 : Int32) (z0 : Int32) : Option Int32 :=
  if z0 = 0 then
    g x3 (x4 + 1)
  else
  (rd 6 (t0 6) x1).bind fun v69 =>
  (F_X7_goesOf t0 x1).bind fun v75 =>
  (F_X7_comesFrom t0 (v69 ^^^ x4) v75 x2).bind fun v79 =>
  if v79 = (-9) then
    g x3 (x4 + 1)
  else
  g x4 (x4 + 1)
noncomputable def F_X7_strokes_J51 (t0 : ST) (x1 : Int32) (x2 : Int32) (g k : Int32 → Int32 → Option Int32) (x3 : Int32) (x4 : Int32) : Option Int32 :=
  F_X7_strokes_J56 t0 x1 x2 g k x3 x4 1
noncomputable def F_X7_strokes_L26 (t0 : ST) (x1 : Int32) (x2 : Int32) (k : Int32 → Int32 → Option Int32) : Nat → Int32 → Int32 → Option Int32
  | 0, _, _ => none
  | n + 1, x3, x4 =>
    if 64 ≤ x4 then
      k x3 x4
    else
    if x3 = (-9) then
      F_X7_strokes_J51 t0 x1 x2 (F_X7_strokes_L26 t0 x1 x2 k n) k x3 x4
    else
    (F_X7_size x4).bind fun v41 =>
    (F_X7_size x3).bind fun v45 =>
    if v45 ≤ v41 then
      F_X7_strokes_J56 t0 x1 x2 (F_X7_strokes_L26 t0 x1 x2 k n) k x3 x4 0
    else
    F_X7_strokes_J51 t0 x1 x2 (F_X7_strokes_L26 t0 x1 x2 k n) k x3 x4
noncomputable def F_X7_strokes_J96 (t0 : ST) (x1 : Int32) (x2 : Int32) (x3 : Int32) : Option Int32 :=
  some x3
noncomputable def F_X7_strokes (t0 : ST) (x1 : Int32) (x2 : Int32) : Option Int32 :=
  (F_X7_isBlock t0 x1).bind fun v2 =>
  if v2 = 0 then
    some (-1)
  else
  (F_X7_isShape x2).bind fun v11 =>
  if v11 = 0 then
    some (-2)
  else
  F_X7_strokes_L26 t0 x1 x2 (fun x3_k26 x4_k26 => F_X7_strokes_J96 t0 x1 x2 x3_k26) 1000 (-9) 0
abbrev rm_X7_strokes : Room := { frames := 2, cells := 0, slots := 0, locals := 49 }
set_option maxHeartbeats 4000000 in
set_option maxRecDepth 100000 in
theorem c_X7_strokes (l : Launch) (D : va_G) (cI cS : ClassId) (a0 : Nat → Nat) (t0 : ST) (x1 : Int32) (x2 : Int32) (r : Int32) (hF : F_X7_strokes t0 x1 x2 = some r) : Met l yX7_strokes (Cond.code yX7_strokes cX7_strokes 6 (some .int) :: ALL) rm_X7_strokes (PreR D cI cS [.ref (a0 0), .int x1, .int x2] (pM cI cS a0 t0)) (vp_Si (fun x => x = r)) 0 0 (fun _ => False) := by
  refine mR l D cI cS (by decide) (Nat.le_of_ble_eq_true rfl) ?_
  intro p e s m below meth c ls hx hb hr hml hown hts hlocks hP hK hl
  have hown : s.vm.findClass RX7 = some m.cls := hown
  have hl : lv_has ls 6 [(0, .ref (a0 0)), (1, .int x1), (2, .int x2)] := hl
  unfold F_X7_strokes at hF
  refine lv_aload_n hx hb dX7_strokes_0 rfl (lv_at hl 0 rfl) ?_
  refine lv_iload_n hx hb dX7_strokes_1 rfl (lv_at hl 1 rfl) ?_
  obtain ⟨v2, h2, hF⟩ := bd hF
  refine cRb (va_runV (As := [.int x1]) (rest := []) ⟨hx, hb, hml, hown, hts⟩ (c_X7_isBlock l D cI cS a0 t0 x1 v2 h2) (cwVA hts (TW.cons _) lv_X7_isBlock ml_RX7_132 ⟨rfl, rfl⟩ ⟨(Nat.le_of_ble_eq_true rfl), (Nat.le_of_ble_eq_true rfl)⟩) (pRV hK hP (ci := 6) rfl rfl) rfl rfl hl.1 rfl (lv_room (Nat.le_of_ble_eq_true rfl)) dX7_strokes_2 ⟨Nat.le_refl _, Nat.le_refl _⟩) (fun b2 => ?_)
  refine lv_if_ne (tgt := 10) hx hb dX7_strokes_5 (by decide) (fun c5 => ?_) (fun c5 => ?_)
  · replace hF := iq c5 hF
    refine lv_iload_n hx hb dX7_strokes_10 rfl (lv_at hl 2 rfl) ?_
    obtain ⟨v11, h11, hF⟩ := bd hF
    refine cRb (va_runS (As := [.int x2]) (rest := []) ⟨hx, hb, hml, hown, hts⟩ (c_X7_isShape l D cI cS x2 v11 h11) (cwSA hts (TW.cons _) ls_X7_isShape ml_RX7_141 ⟨rfl, rfl⟩ ⟨(Nat.le_of_ble_eq_true rfl), (Nat.le_of_ble_eq_true rfl)⟩) (pRS hK pnil) rfl rfl hl.1 rfl (lv_room (Nat.le_of_ble_eq_true rfl)) dX7_strokes_11 ⟨Nat.le_refl _, Nat.le_refl _⟩) (fun b11 => ?_)
    refine lv_if_ne (tgt := 20) hx hb dX7_strokes_14 (by decide) (fun c14 => ?_) (fun c14 => ?_)
    · replace hF := iq c14 hF
      refine lv_bipush (v := (-9)) hx hb dX7_strokes_20 (by decide) ?_
      refine lv_istore_n (lv' := [(3, .int (-9)), (0, .ref (a0 0)), (1, .int x1), (2, .int x2)]) hx hb dX7_strokes_22 rfl hl (by decide) rfl (fun ls hl => ?_)
      refine lv_iconst (v := 0) hx hb dX7_strokes_23 (by decide) ?_
      refine lv_istore (lv' := [(4, .int 0), (3, .int (-9)), (0, .ref (a0 0)), (1, .int x1), (2, .int x2)]) hx hb dX7_strokes_24 hl (by decide) rfl (fun ls hl => ?_)
      have L26 : ∀ (n_26 : Nat) (x3_26 : Int32) (x4_26 : Int32) (ls : Array Slot), lv_has ls 6 [(0, .ref (a0 0)), (1, .int x1), (2, .int x2), (3, .int x3_26), (4, .int x4_26)] → F_X7_strokes_L26 t0 x1 x2 (fun x3_k26 x4_k26 => F_X7_strokes_J96 t0 x1 x2 x3_k26) n_26 x3_26 x4_26 = some r → W p l e rm_X7_strokes s m [.ref (a0 0), .int x1, .int x2].toArray below meth c s.heap [] 0 0 (MQ below (vp_Si (fun x => x = r)) [.ref (a0 0), .int x1, .int x2].toArray s 0 0 (fun _ => False)) (F0 m 26 ls []) := by
        intro n_26
        induction n_26 with
        | zero => intro x3_26 x4_26 ls hl hF; exact nomatch hF
        | succ n_26 ih26 =>
          intro x3_26 x4_26 ls hl hF
          rw [F_X7_strokes_L26.eq_2] at hF
          refine lv_iload hx hb dX7_strokes_26 (lv_at hl 4 rfl) ?_
          refine lv_bipush (v := 64) hx hb dX7_strokes_28 (by decide) ?_
          refine lv_icmp_ge (tgt := 96) hx hb dX7_strokes_30 (by decide) (fun c30 => ?_) (fun c30 => ?_)
          · replace hF := ip c30 hF
            have hF : F_X7_strokes_J96 t0 x1 x2 x3_26 = some r := hF
            unfold F_X7_strokes_J96 at hF
            refine lv_iload_n hx hb dX7_strokes_96 rfl (lv_at hl 3 rfl) ?_
            exact W.iret hx hb hr (fun t ht hW => ⟨_, rfl, (Option.some.inj hF), ht⟩) (fun _ h => nomatch h) dX7_strokes_97
          · replace hF := iq c30 hF
            refine lv_iload_n hx hb dX7_strokes_33 rfl (lv_at hl 3 rfl) ?_
            refine lv_bipush (v := (-9)) hx hb dX7_strokes_34 (by decide) ?_
            have J56 : ∀ (x3_56 : Int32) (x4_56 : Int32) (z0_56 : Int32) (ls : Array Slot), lv_has ls 6 [(0, .ref (a0 0)), (1, .int x1), (2, .int x2), (3, .int x3_56), (4, .int x4_56)] → F_X7_strokes_J56 t0 x1 x2 (F_X7_strokes_L26 t0 x1 x2 (fun x3_k26 x4_k26 => F_X7_strokes_J96 t0 x1 x2 x3_k26) n_26) (fun x3_k26 x4_k26 => F_X7_strokes_J96 t0 x1 x2 x3_k26) x3_56 x4_56 z0_56 = some r → W p l e rm_X7_strokes s m [.ref (a0 0), .int x1, .int x2].toArray below meth c s.heap [] 0 0 (MQ below (vp_Si (fun x => x = r)) [.ref (a0 0), .int x1, .int x2].toArray s 0 0 (fun _ => False)) (F0 m 56 ls [.int z0_56]) := by
              intro x3_56 x4_56 z0_56 ls hl hF
              unfold F_X7_strokes_J56 at hF
              refine lv_istore (lv' := [(5, .int z0_56), (0, .ref (a0 0)), (1, .int x1), (2, .int x2), (3, .int x3_56), (4, .int x4_56)]) hx hb dX7_strokes_56 hl (by decide) rfl (fun ls hl => ?_)
              refine lv_iload hx hb dX7_strokes_58 (lv_at hl 0 rfl) ?_
              refine lv_if_eq (tgt := 90) hx hb dX7_strokes_60 (by decide) (fun c60 => ?_) (fun c60 => ?_)
              · replace hF := ip c60 hF
                refine lv_iinc (v := (x4_56 + 1)) (lv' := [(4, .int (x4_56 + 1)), (5, .int z0_56), (0, .ref (a0 0)), (1, .int x1), (2, .int x2), (3, .int x3_56)]) hx hb dX7_strokes_90 hl (k := 5) rfl rfl (by decide) rfl (fun ls hl => ?_)
                refine lv_goto (tgt := 26) hx hb dX7_strokes_93 (by decide) ?_
                exact ih26 x3_56 (x4_56 + 1) _ (lv_sub hl [2, 3, 4, 5, 0] rfl) hF
              · replace hF := iq c60 hF
                refine lv_aload_n hx hb dX7_strokes_63 rfl (lv_at hl 1 rfl) ?_
                refine lv_aload_n hx hb dX7_strokes_64 rfl (lv_at hl 1 rfl) ?_
                refine va_get (D := D) (ci := 6) (v := .ref (a0 6)) (C := RX7) (T := TX7) (N := 29) hx hb hts (fun w h => List.mem_cons_of_mem _ (inAX7 w h)) hown hK.1 hP 0 (at_M_0 cI cS _ _) rfl 11 (by decide) (hts _ (List.mem_cons_of_mem _ fl_RX7_25)) (fun _ h9 => h9) rfl dX7_strokes_65 ?_
                refine lv_iload_n hx hb dX7_strokes_68 rfl (lv_at hl 2 rfl) ?_
                obtain ⟨v69, h69, hF⟩ := bd hF
                refine rI hx hb hK.1 hP 6 0 (at_M_6 cI cS _ _) rfl h69 dX7_strokes_69 ?_
                refine lv_iload hx hb dX7_strokes_70 (lv_at hl 5 rfl) ?_
                refine lv_ixor hx hb dX7_strokes_72 ?_
                refine lv_aload_n hx hb dX7_strokes_73 rfl (lv_at hl 1 rfl) ?_
                refine lv_iload_n hx hb dX7_strokes_74 rfl (lv_at hl 2 rfl) ?_
                obtain ⟨v75, h75, hF⟩ := bd hF
                refine cRe (va_runV (As := [.int x1]) (rest := [.int (v69 ^^^ x4_56), .ref (a0 0)]) ⟨hx, hb, hml, hown, hts⟩ (c_X7_goesOf l D cI cS a0 t0 x1 v75 h75) (cwVA hts (TW.cons _) lv_X7_goesOf ml_RX7_135 ⟨rfl, rfl⟩ ⟨(Nat.le_of_ble_eq_true rfl), (Nat.le_of_ble_eq_true rfl)⟩) (pRV hK hP (ci := 6) rfl rfl) rfl rfl hl.1 rfl (lv_room (Nat.le_of_ble_eq_true rfl)) dX7_strokes_75 ⟨Nat.le_refl _, Nat.le_refl _⟩) ?_
                refine lv_iload_n hx hb dX7_strokes_78 rfl (lv_at hl 3 rfl) ?_
                obtain ⟨v79, h79, hF⟩ := bd hF
                refine cRe (va_runV (As := [.int (v69 ^^^ x4_56), .int v75, .int x2]) (rest := []) ⟨hx, hb, hml, hown, hts⟩ (c_X7_comesFrom l D cI cS a0 t0 (v69 ^^^ x4_56) v75 x2 v79 h79) (cwVA hts (TW.cons _) lv_X7_comesFrom ml_RX7_178 ⟨rfl, rfl⟩ ⟨(Nat.le_of_ble_eq_true rfl), (Nat.le_of_ble_eq_true rfl)⟩) (pRV hK hP (ci := 6) rfl rfl) rfl rfl hl.1 rfl (lv_room (Nat.le_of_ble_eq_true rfl)) dX7_strokes_79 ⟨Nat.le_refl _, Nat.le_refl _⟩) ?_
                refine lv_bipush (v := (-9)) hx hb dX7_strokes_82 (by decide) ?_
                refine lv_icmp_eq (tgt := 90) hx hb dX7_strokes_84 (by decide) (fun c84 => ?_) (fun c84 => ?_)
                · replace hF := ip c84 hF
                  refine lv_iinc (v := (x4_56 + 1)) (lv' := [(4, .int (x4_56 + 1)), (5, .int z0_56), (0, .ref (a0 0)), (1, .int x1), (2, .int x2), (3, .int x3_56)]) hx hb dX7_strokes_90 hl (k := 5) rfl rfl (by decide) rfl (fun ls hl => ?_)
                  refine lv_goto (tgt := 26) hx hb dX7_strokes_93 (by decide) ?_
                  exact ih26 x3_56 (x4_56 + 1) _ (lv_sub hl [2, 3, 4, 5, 0] rfl) hF
                · replace hF := iq c84 hF
                  refine lv_iload hx hb dX7_strokes_87 (lv_at hl 5 rfl) ?_
                  refine lv_istore_n (lv' := [(3, .int x4_56), (5, .int z0_56), (0, .ref (a0 0)), (1, .int x1), (2, .int x2), (4, .int x4_56)]) hx hb dX7_strokes_89 rfl hl (by decide) rfl (fun ls hl => ?_)
                  refine lv_iinc (v := (x4_56 + 1)) (lv' := [(4, .int (x4_56 + 1)), (3, .int x4_56), (5, .int z0_56), (0, .ref (a0 0)), (1, .int x1), (2, .int x2)]) hx hb dX7_strokes_90 hl (k := 5) rfl rfl (by decide) rfl (fun ls hl => ?_)
                  refine lv_goto (tgt := 26) hx hb dX7_strokes_93 (by decide) ?_
                  exact ih26 x4_56 (x4_56 + 1) _ (lv_sub hl [3, 4, 5, 1, 0] rfl) hF
            have J51 : ∀ (x3_51 : Int32) (x4_51 : Int32) (ls : Array Slot), lv_has ls 6 [(0, .ref (a0 0)), (1, .int x1), (2, .int x2), (3, .int x3_51), (4, .int x4_51)] → F_X7_strokes_J51 t0 x1 x2 (F_X7_strokes_L26 t0 x1 x2 (fun x3_k26 x4_k26 => F_X7_strokes_J96 t0 x1 x2 x3_k26) n_26) (fun x3_k26 x4_k26 => F_X7_strokes_J96 t0 x1 x2 x3_k26) x3_51 x4_51 = some r → W p l e rm_X7_strokes s m [.ref (a0 0), .int x1, .int x2].toArray below meth c s.heap [] 0 0 (MQ below (vp_Si (fun x => x = r)) [.ref (a0 0), .int x1, .int x2].toArray s 0 0 (fun _ => False)) (F0 m 51 ls []) := by
              intro x3_51 x4_51 ls hl hF
              unfold F_X7_strokes_J51 at hF
              refine lv_iconst (v := 1) hx hb dX7_strokes_51 (by decide) ?_
              refine lv_goto (tgt := 56) hx hb dX7_strokes_52 (by decide) ?_
              exact J56 x3_51 x4_51 1 _ (lv_sub hl [0, 1, 2, 3, 4] rfl) hF
            refine lv_icmp_eq (tgt := 51) hx hb dX7_strokes_36 (by decide) (fun c36 => ?_) (fun c36 => ?_)
            · replace hF := ip c36 hF
              exact J51 x3_26 x4_26 _ (lv_sub hl [0, 1, 2, 3, 4] rfl) hF
            · replace hF := iq c36 hF
              refine lv_iload hx hb dX7_strokes_39 (lv_at hl 4 rfl) ?_
              obtain ⟨v41, h41, hF⟩ := bd hF
              refine cRe (va_runS (As := [.int x4_26]) (rest := []) ⟨hx, hb, hml, hown, hts⟩ (c_X7_size l D cI cS x4_26 v41 h41) (cwSA hts (TW.cons _) ls_X7_size ml_RX7_138 ⟨rfl, rfl⟩ ⟨(Nat.le_of_ble_eq_true rfl), (Nat.le_of_ble_eq_true rfl)⟩) (pRS hK pnil) rfl rfl hl.1 rfl (lv_room (Nat.le_of_ble_eq_true rfl)) dX7_strokes_41 ⟨Nat.le_refl _, Nat.le_refl _⟩) ?_
              refine lv_iload_n hx hb dX7_strokes_44 rfl (lv_at hl 3 rfl) ?_
              obtain ⟨v45, h45, hF⟩ := bd hF
              refine cRe (va_runS (As := [.int x3_26]) (rest := [.int v41]) ⟨hx, hb, hml, hown, hts⟩ (c_X7_size l D cI cS x3_26 v45 h45) (cwSA hts (TW.cons _) ls_X7_size ml_RX7_138 ⟨rfl, rfl⟩ ⟨(Nat.le_of_ble_eq_true rfl), (Nat.le_of_ble_eq_true rfl)⟩) (pRS hK pnil) rfl rfl hl.1 rfl (lv_room (Nat.le_of_ble_eq_true rfl)) dX7_strokes_45 ⟨Nat.le_refl _, Nat.le_refl _⟩) ?_
              refine lv_icmp_ge (tgt := 55) hx hb dX7_strokes_48 (by decide) (fun c48 => ?_) (fun c48 => ?_)
              · replace hF := ip c48 hF
                refine lv_iconst (v := 0) hx hb dX7_strokes_55 (by decide) ?_
                exact J56 x3_26 x4_26 0 _ (lv_sub hl [0, 1, 2, 3, 4] rfl) hF
              · replace hF := iq c48 hF
                exact J51 x3_26 x4_26 _ (lv_sub hl [0, 1, 2, 3, 4] rfl) hF
      exact L26 1000 (-9) 0 _ (lv_sub hl [2, 3, 4, 1, 0] rfl) hF
    · replace hF := ip c14 hF
      refine lv_bipush (v := (-2)) hx hb dX7_strokes_17 (by decide) ?_
      exact W.iret hx hb hr (fun t ht hW => ⟨_, rfl, (Option.some.inj hF), ht⟩) (fun _ h => nomatch h) dX7_strokes_19
  · replace hF := ip c5 hF
    refine lv_iconst (v := (-1)) hx hb dX7_strokes_8 (by decide) ?_
    exact W.iret hx hb hr (fun t ht hW => ⟨_, rfl, (Option.some.inj hF), ht⟩) (fun _ h => nomatch h) dX7_strokes_9
noncomputable def F_X7_round_L48 (t0 : ST) (x1 : Int32) (x2 : Int32) (x3 : Int32) (k : Int32 → Int32 → Option Int32) : Nat → Int32 → Int32 → Option Int32
  | 0, _, _ => none
  | n + 1, x4, x5 =>
    if x5 = x3 then
      k x4 x5
    else
    (rd 64 (t0 4) x5).bind fun v63 =>
    (F_X7_round_L48 t0 x1 x2 x3 k n) (x4 + 1) v63
noncomputable def F_X7_round_L84 (t0 : ST) (x1 : Int32) (x2 : Int32) (x4 : Int32) (k : Int32 → Int32 → Int32 → Option Int32) : Nat → Int32 → Int32 → Int32 → Option Int32
  | 0, _, _, _ => none
  | n + 1, x5, x6, x7 =>
    if x5 = x6 then
      k x5 x6 x7
    else
    (rd 64 (t0 4) x5).bind fun v97 =>
    (rd 64 (t0 4) x6).bind fun v106 =>
    (F_X7_round_L84 t0 x1 x2 x4 k n) v97 v106 (x7 + 1)
noncomputable def F_X7_round_J115 (t0 : ST) (x1 : Int32) (x2 : Int32) (x4 : Int32) (x7 : Int32) : Option Int32 :=
  if x2 = 0 then
    some x7
  else
  some x4
noncomputable def F_X7_round_J69 (t0 : ST) (x1 : Int32) (x2 : Int32) (x4 : Int32) : Option Int32 :=
  (F_X7_stepsOn t0 x1 x4).bind fun v76 =>
  F_X7_round_L84 t0 x1 x2 x4 (fun x5_k84 x6_k84 x7_k84 => F_X7_round_J115 t0 x1 x2 x4 x7_k84) 1000 x1 v76 0
noncomputable def F_X7_round (t0 : ST) (x1 : Int32) (x2 : Int32) : Option Int32 :=
  (F_X7_isShape x1).bind fun v1 =>
  if v1 = 0 then
    some (-2)
  else
  (F_X7_within x2 0 1).bind fun v10 =>
  if v10 = 0 then
    some (-2)
  else
  if (t0 0 3) = 0 then
    some (-3)
  else
  (F_X7_stepsOn t0 x1 64).bind fun v33 =>
  (rd 64 (t0 4) v33).bind fun v45 =>
  F_X7_round_L48 t0 x1 x2 v33 (fun x4_k48 x5_k48 => F_X7_round_J69 t0 x1 x2 x4_k48) 1000 1 v45
abbrev rm_X7_round : Room := { frames := 2, cells := 0, slots := 0, locals := 42 }
set_option maxHeartbeats 4000000 in
set_option maxRecDepth 100000 in
theorem c_X7_round (l : Launch) (D : va_G) (cI cS : ClassId) (a0 : Nat → Nat) (t0 : ST) (x1 : Int32) (x2 : Int32) (r : Int32) (hF : F_X7_round t0 x1 x2 = some r) : Met l yX7_round (Cond.code yX7_round cX7_round 8 (some .int) :: ALL) rm_X7_round (PreR D cI cS [.ref (a0 0), .int x1, .int x2] (pM cI cS a0 t0)) (vp_Si (fun x => x = r)) 0 0 (fun _ => False) := by
  refine mR l D cI cS (by decide) (Nat.le_of_ble_eq_true rfl) ?_
  intro p e s m below meth c ls hx hb hr hml hown hts hlocks hP hK hl
  have hown : s.vm.findClass RX7 = some m.cls := hown
  have hl : lv_has ls 8 [(0, .ref (a0 0)), (1, .int x1), (2, .int x2)] := hl
  unfold F_X7_round at hF
  refine lv_iload_n hx hb dX7_round_0 rfl (lv_at hl 1 rfl) ?_
  obtain ⟨v1, h1, hF⟩ := bd hF
  refine cRb (va_runS (As := [.int x1]) (rest := []) ⟨hx, hb, hml, hown, hts⟩ (c_X7_isShape l D cI cS x1 v1 h1) (cwSA hts (TW.cons _) ls_X7_isShape ml_RX7_141 ⟨rfl, rfl⟩ ⟨(Nat.le_of_ble_eq_true rfl), (Nat.le_of_ble_eq_true rfl)⟩) (pRS hK pnil) rfl rfl hl.1 rfl (lv_room (Nat.le_of_ble_eq_true rfl)) dX7_round_1 ⟨Nat.le_refl _, Nat.le_refl _⟩) (fun b1 => ?_)
  refine lv_if_eq (tgt := 16) hx hb dX7_round_4 (by decide) (fun c4 => ?_) (fun c4 => ?_)
  · replace hF := ip c4 hF
    refine lv_bipush (v := (-2)) hx hb dX7_round_16 (by decide) ?_
    exact W.iret hx hb hr (fun t ht hW => ⟨_, rfl, (Option.some.inj hF), ht⟩) (fun _ h => nomatch h) dX7_round_18
  · replace hF := iq c4 hF
    refine lv_iload_n hx hb dX7_round_7 rfl (lv_at hl 2 rfl) ?_
    refine lv_iconst (v := 0) hx hb dX7_round_8 (by decide) ?_
    refine lv_iconst (v := 1) hx hb dX7_round_9 (by decide) ?_
    obtain ⟨v10, h10, hF⟩ := bd hF
    refine cRb (va_runS (As := [.int x2, .int 0, .int 1]) (rest := []) ⟨hx, hb, hml, hown, hts⟩ (c_X7_within l D cI cS x2 0 1 v10 h10) (cwSA hts (TW.cons _) ls_X7_within ml_RX7_61 ⟨rfl, rfl⟩ ⟨(Nat.le_of_ble_eq_true rfl), (Nat.le_of_ble_eq_true rfl)⟩) (pRS hK pnil) rfl rfl hl.1 rfl (lv_room (Nat.le_of_ble_eq_true rfl)) dX7_round_10 ⟨Nat.le_refl _, Nat.le_refl _⟩) (fun b10 => ?_)
    refine lv_if_ne (tgt := 19) hx hb dX7_round_13 (by decide) (fun c13 => ?_) (fun c13 => ?_)
    · replace hF := iq c13 hF
      refine lv_aload_n hx hb dX7_round_19 rfl (lv_at hl 0 rfl) ?_
      refine va_get (D := D) (ci := 6) (v := .int (t0 0 3)) (C := RX7) (T := TX7) (N := 29) hx hb hts (fun w h => List.mem_cons_of_mem _ (inAX7 w h)) hown hK.1 hP 0 (at_M_0 cI cS _ _) rfl 6 (by decide) (hts _ (List.mem_cons_of_mem _ fl_RX7_65)) (fun _ h9 => h9) rfl dX7_round_20 ?_
      refine lv_if_ne (tgt := 29) hx hb dX7_round_23 (by decide) (fun c23 => ?_) (fun c23 => ?_)
      · replace hF := iq c23 hF
        refine lv_aload_n hx hb dX7_round_29 rfl (lv_at hl 0 rfl) ?_
        refine lv_iload_n hx hb dX7_round_30 rfl (lv_at hl 1 rfl) ?_
        refine lv_bipush (v := 64) hx hb dX7_round_31 (by decide) ?_
        obtain ⟨v33, h33, hF⟩ := bd hF
        refine cRe (va_runV (As := [.int x1, .int 64]) (rest := []) ⟨hx, hb, hml, hown, hts⟩ (c_X7_stepsOn l D cI cS a0 t0 x1 64 v33 h33) (cwVA hts (TW.cons _) lv_X7_stepsOn ml_RX7_147 ⟨rfl, rfl⟩ ⟨(Nat.le_of_ble_eq_true rfl), (Nat.le_of_ble_eq_true rfl)⟩) (pRV hK hP (ci := 6) rfl rfl) rfl rfl hl.1 rfl (lv_room (Nat.le_of_ble_eq_true rfl)) dX7_round_33 ⟨Nat.le_refl _, Nat.le_refl _⟩) ?_
        refine lv_istore_n (lv' := [(3, .int v33), (0, .ref (a0 0)), (1, .int x1), (2, .int x2)]) hx hb dX7_round_36 rfl hl (by decide) rfl (fun ls hl => ?_)
        refine lv_iconst (v := 1) hx hb dX7_round_37 (by decide) ?_
        refine lv_istore (lv' := [(4, .int 1), (3, .int v33), (0, .ref (a0 0)), (1, .int x1), (2, .int x2)]) hx hb dX7_round_38 hl (by decide) rfl (fun ls hl => ?_)
        refine lv_aload_n hx hb dX7_round_40 rfl (lv_at hl 2 rfl) ?_
        refine va_get (D := D) (ci := 6) (v := .ref (a0 4)) (C := RX7) (T := TX7) (N := 29) hx hb hts (fun w h => List.mem_cons_of_mem _ (inAX7 w h)) hown hK.1 hP 0 (at_M_0 cI cS _ _) rfl 9 (by decide) (hts _ (List.mem_cons_of_mem _ fl_RX7_19)) (fun _ h9 => h9) rfl dX7_round_41 ?_
        refine lv_iload_n hx hb dX7_round_44 rfl (lv_at hl 1 rfl) ?_
        obtain ⟨v45, h45, hF⟩ := bd hF
        refine rI hx hb hK.1 hP 4 0 (at_M_4 cI cS _ _) rfl h45 dX7_round_45 ?_
        refine lv_istore (lv' := [(5, .int v45), (4, .int 1), (3, .int v33), (0, .ref (a0 0)), (1, .int x1), (2, .int x2)]) hx hb dX7_round_46 hl (by decide) rfl (fun ls hl => ?_)
        have L48 : ∀ (n_48 : Nat) (x4_48 : Int32) (x5_48 : Int32) (ls : Array Slot), lv_has ls 8 [(0, .ref (a0 0)), (1, .int x1), (2, .int x2), (3, .int v33), (4, .int x4_48), (5, .int x5_48)] → F_X7_round_L48 t0 x1 x2 v33 (fun x4_k48 x5_k48 => F_X7_round_J69 t0 x1 x2 x4_k48) n_48 x4_48 x5_48 = some r → W p l e rm_X7_round s m [.ref (a0 0), .int x1, .int x2].toArray below meth c s.heap [] 0 0 (MQ below (vp_Si (fun x => x = r)) [.ref (a0 0), .int x1, .int x2].toArray s 0 0 (fun _ => False)) (F0 m 48 ls []) := by
          intro n_48
          induction n_48 with
          | zero => intro x4_48 x5_48 ls hl hF; exact nomatch hF
          | succ n_48 ih48 =>
            intro x4_48 x5_48 ls hl hF
            rw [F_X7_round_L48.eq_2] at hF
            refine lv_iload hx hb dX7_round_48 (lv_at hl 5 rfl) ?_
            refine lv_iload_n hx hb dX7_round_50 rfl (lv_at hl 3 rfl) ?_
            refine lv_icmp_eq (tgt := 69) hx hb dX7_round_51 (by decide) (fun c51 => ?_) (fun c51 => ?_)
            · replace hF := ip c51 hF
              have hF : F_X7_round_J69 t0 x1 x2 x4_48 = some r := hF
              unfold F_X7_round_J69 at hF
              refine lv_iload_n hx hb dX7_round_69 rfl (lv_at hl 1 rfl) ?_
              refine lv_istore (lv' := [(5, .int x1), (0, .ref (a0 0)), (1, .int x1), (2, .int x2), (3, .int v33), (4, .int x4_48)]) hx hb dX7_round_70 hl (by decide) rfl (fun ls hl => ?_)
              refine lv_aload_n hx hb dX7_round_72 rfl (lv_at hl 1 rfl) ?_
              refine lv_iload_n hx hb dX7_round_73 rfl (lv_at hl 2 rfl) ?_
              refine lv_iload hx hb dX7_round_74 (lv_at hl 5 rfl) ?_
              obtain ⟨v76, h76, hF⟩ := bd hF
              refine cRe (va_runV (As := [.int x1, .int x4_48]) (rest := []) ⟨hx, hb, hml, hown, hts⟩ (c_X7_stepsOn l D cI cS a0 t0 x1 x4_48 v76 h76) (cwVA hts (TW.cons _) lv_X7_stepsOn ml_RX7_147 ⟨rfl, rfl⟩ ⟨(Nat.le_of_ble_eq_true rfl), (Nat.le_of_ble_eq_true rfl)⟩) (pRV hK hP (ci := 6) rfl rfl) rfl rfl hl.1 rfl (lv_room (Nat.le_of_ble_eq_true rfl)) dX7_round_76 ⟨Nat.le_refl _, Nat.le_refl _⟩) ?_
              refine lv_istore (lv' := [(6, .int v76), (5, .int x1), (0, .ref (a0 0)), (1, .int x1), (2, .int x2), (3, .int v33), (4, .int x4_48)]) hx hb dX7_round_79 hl (by decide) rfl (fun ls hl => ?_)
              refine lv_iconst (v := 0) hx hb dX7_round_81 (by decide) ?_
              refine lv_istore (lv' := [(7, .int 0), (6, .int v76), (5, .int x1), (0, .ref (a0 0)), (1, .int x1), (2, .int x2), (3, .int v33), (4, .int x4_48)]) hx hb dX7_round_82 hl (by decide) rfl (fun ls hl => ?_)
              have L84 : ∀ (n_84 : Nat) (x5_84 : Int32) (x6_84 : Int32) (x7_84 : Int32) (ls : Array Slot), lv_has ls 8 [(0, .ref (a0 0)), (2, .int x2), (4, .int x4_48), (5, .int x5_84), (6, .int x6_84), (7, .int x7_84)] → F_X7_round_L84 t0 x1 x2 x4_48 (fun x5_k84 x6_k84 x7_k84 => F_X7_round_J115 t0 x1 x2 x4_48 x7_k84) n_84 x5_84 x6_84 x7_84 = some r → W p l e rm_X7_round s m [.ref (a0 0), .int x1, .int x2].toArray below meth c s.heap [] 0 0 (MQ below (vp_Si (fun x => x = r)) [.ref (a0 0), .int x1, .int x2].toArray s 0 0 (fun _ => False)) (F0 m 84 ls []) := by
                intro n_84
                induction n_84 with
                | zero => intro x5_84 x6_84 x7_84 ls hl hF; exact nomatch hF
                | succ n_84 ih84 =>
                  intro x5_84 x6_84 x7_84 ls hl hF
                  rw [F_X7_round_L84.eq_2] at hF
                  refine lv_iload hx hb dX7_round_84 (lv_at hl 3 rfl) ?_
                  refine lv_iload hx hb dX7_round_86 (lv_at hl 4 rfl) ?_
                  refine lv_icmp_eq (tgt := 115) hx hb dX7_round_88 (by decide) (fun c88 => ?_) (fun c88 => ?_)
                  · replace hF := ip c88 hF
                    have hF : F_X7_round_J115 t0 x1 x2 x4_48 x7_84 = some r := hF
                    unfold F_X7_round_J115 at hF
                    refine lv_iload_n hx hb dX7_round_115 rfl (lv_at hl 1 rfl) ?_
                    refine lv_if_ne (tgt := 124) hx hb dX7_round_116 (by decide) (fun c116 => ?_) (fun c116 => ?_)
                    · replace hF := iq c116 hF
                      refine lv_iload hx hb dX7_round_124 (lv_at hl 2 rfl) ?_
                      exact W.iret hx hb hr (fun t ht hW => ⟨_, rfl, (Option.some.inj hF), ht⟩) (fun _ h => nomatch h) dX7_round_126
                    · replace hF := ip c116 hF
                      refine lv_iload hx hb dX7_round_119 (lv_at hl 5 rfl) ?_
                      refine lv_goto (tgt := 126) hx hb dX7_round_121 (by decide) ?_
                      exact W.iret hx hb hr (fun t ht hW => ⟨_, rfl, (Option.some.inj hF), ht⟩) (fun _ h => nomatch h) dX7_round_126
                  · replace hF := iq c88 hF
                    refine lv_aload_n hx hb dX7_round_91 rfl (lv_at hl 0 rfl) ?_
                    refine va_get (D := D) (ci := 6) (v := .ref (a0 4)) (C := RX7) (T := TX7) (N := 29) hx hb hts (fun w h => List.mem_cons_of_mem _ (inAX7 w h)) hown hK.1 hP 0 (at_M_0 cI cS _ _) rfl 9 (by decide) (hts _ (List.mem_cons_of_mem _ fl_RX7_19)) (fun _ h9 => h9) rfl dX7_round_92 ?_
                    refine lv_iload hx hb dX7_round_95 (lv_at hl 3 rfl) ?_
                    obtain ⟨v97, h97, hF⟩ := bd hF
                    refine rI hx hb hK.1 hP 4 0 (at_M_4 cI cS _ _) rfl h97 dX7_round_97 ?_
                    refine lv_istore (lv' := [(5, .int v97), (0, .ref (a0 0)), (2, .int x2), (4, .int x4_48), (6, .int x6_84), (7, .int x7_84)]) hx hb dX7_round_98 hl (by decide) rfl (fun ls hl => ?_)
                    refine lv_aload_n hx hb dX7_round_100 rfl (lv_at hl 1 rfl) ?_
                    refine va_get (D := D) (ci := 6) (v := .ref (a0 4)) (C := RX7) (T := TX7) (N := 29) hx hb hts (fun w h => List.mem_cons_of_mem _ (inAX7 w h)) hown hK.1 hP 0 (at_M_0 cI cS _ _) rfl 9 (by decide) (hts _ (List.mem_cons_of_mem _ fl_RX7_19)) (fun _ h9 => h9) rfl dX7_round_101 ?_
                    refine lv_iload hx hb dX7_round_104 (lv_at hl 4 rfl) ?_
                    obtain ⟨v106, h106, hF⟩ := bd hF
                    refine rI hx hb hK.1 hP 4 0 (at_M_4 cI cS _ _) rfl h106 dX7_round_106 ?_
                    refine lv_istore (lv' := [(6, .int v106), (5, .int v97), (0, .ref (a0 0)), (2, .int x2), (4, .int x4_48), (7, .int x7_84)]) hx hb dX7_round_107 hl (by decide) rfl (fun ls hl => ?_)
                    refine lv_iinc (v := (x7_84 + 1)) (lv' := [(7, .int (x7_84 + 1)), (6, .int v106), (5, .int v97), (0, .ref (a0 0)), (2, .int x2), (4, .int x4_48)]) hx hb dX7_round_109 hl (k := 5) rfl rfl (by decide) rfl (fun ls hl => ?_)
                    refine lv_goto (tgt := 84) hx hb dX7_round_112 (by decide) ?_
                    exact ih84 v97 v106 (x7_84 + 1) _ (lv_sub hl [3, 4, 5, 2, 1, 0] rfl) hF
              exact L84 1000 x1 v76 0 _ (lv_sub hl [3, 5, 7, 2, 1, 0] rfl) hF
            · replace hF := iq c51 hF
              refine lv_iinc (v := (x4_48 + 1)) (lv' := [(4, .int (x4_48 + 1)), (0, .ref (a0 0)), (1, .int x1), (2, .int x2), (3, .int v33), (5, .int x5_48)]) hx hb dX7_round_54 hl (k := 4) rfl rfl (by decide) rfl (fun ls hl => ?_)
              refine lv_aload_n hx hb dX7_round_57 rfl (lv_at hl 1 rfl) ?_
              refine va_get (D := D) (ci := 6) (v := .ref (a0 4)) (C := RX7) (T := TX7) (N := 29) hx hb hts (fun w h => List.mem_cons_of_mem _ (inAX7 w h)) hown hK.1 hP 0 (at_M_0 cI cS _ _) rfl 9 (by decide) (hts _ (List.mem_cons_of_mem _ fl_RX7_19)) (fun _ h9 => h9) rfl dX7_round_58 ?_
              refine lv_iload hx hb dX7_round_61 (lv_at hl 5 rfl) ?_
              obtain ⟨v63, h63, hF⟩ := bd hF
              refine rI hx hb hK.1 hP 4 0 (at_M_4 cI cS _ _) rfl h63 dX7_round_63 ?_
              refine lv_istore (lv' := [(5, .int v63), (4, .int (x4_48 + 1)), (0, .ref (a0 0)), (1, .int x1), (2, .int x2), (3, .int v33)]) hx hb dX7_round_64 hl (by decide) rfl (fun ls hl => ?_)
              refine lv_goto (tgt := 48) hx hb dX7_round_66 (by decide) ?_
              exact ih48 (x4_48 + 1) v63 _ (lv_sub hl [2, 3, 4, 5, 1, 0] rfl) hF
        exact L48 1000 1 v45 _ (lv_sub hl [3, 4, 5, 2, 1, 0] rfl) hF
      · replace hF := ip c23 hF
        refine lv_bipush (v := (-3)) hx hb dX7_round_26 (by decide) ?_
        exact W.iret hx hb hr (fun t ht hW => ⟨_, rfl, (Option.some.inj hF), ht⟩) (fun _ h => nomatch h) dX7_round_28
    · replace hF := ip c13 hF
      refine lv_bipush (v := (-2)) hx hb dX7_round_16 (by decide) ?_
      exact W.iret hx hb hr (fun t ht hW => ⟨_, rfl, (Option.some.inj hF), ht⟩) (fun _ h => nomatch h) dX7_round_18
noncomputable def F_X7_eden_L23 (t0 : ST) (x1 : Int32) (k : Int64 → Int32 → Option Int64) : Nat → Int64 → Int32 → Option Int64
  | 0, _, _ => none
  | n + 1, y2, x4 =>
    if 64 ≤ x4 then
      k y2 x4
    else
    (rd 64 (t0 4) x4).bind fun v37 =>
    if v37 = x1 then
      (F_X7_eden_L23 t0 x1 k n) (y2 ||| (1 <<< (x4.toInt64 &&& 63))) (x4 + 1)
    else
    (F_X7_eden_L23 t0 x1 k n) (y2 ||| 0) (x4 + 1)
noncomputable def F_X7_eden_J58 (t0 : ST) (x1 : Int32) (y2 : Int64) : Option Int64 :=
  some y2
noncomputable def F_X7_eden (t0 : ST) (x1 : Int32) : Option Int64 :=
  (F_X7_isShape x1).bind fun v1 =>
  if v1 = 0 then
    some (-9223372036854775808)
  else
  if (t0 0 3) = 0 then
    some (-9223372036854775808)
  else
  F_X7_eden_L23 t0 x1 (fun y2_k23 x4_k23 => F_X7_eden_J58 t0 x1 y2_k23) 1000 0 0
abbrev rm_X7_eden : Room := { frames := 2, cells := 0, slots := 0, locals := 42 }
set_option maxHeartbeats 4000000 in
set_option maxRecDepth 100000 in
theorem c_X7_eden (l : Launch) (D : va_G) (cI cS : ClassId) (a0 : Nat → Nat) (t0 : ST) (x1 : Int32) (r : Int64) (hF : F_X7_eden t0 x1 = some r) : Met l yX7_eden (Cond.code yX7_eden cX7_eden 5 (some .long) :: ALL) rm_X7_eden (PreR D cI cS [.ref (a0 0), .int x1] (pM cI cS a0 t0)) (vp_Sl (fun x => x = r)) 0 0 (fun _ => False) := by
  refine mR l D cI cS (by decide) (Nat.le_of_ble_eq_true rfl) ?_
  intro p e s m below meth c ls hx hb hr hml hown hts hlocks hP hK hl
  have hown : s.vm.findClass RX7 = some m.cls := hown
  have hl : lv_has ls 5 [(0, .ref (a0 0)), (1, .int x1)] := hl
  unfold F_X7_eden at hF
  refine lv_iload_n hx hb dX7_eden_0 rfl (lv_at hl 1 rfl) ?_
  obtain ⟨v1, h1, hF⟩ := bd hF
  refine cRb (va_runS (As := [.int x1]) (rest := []) ⟨hx, hb, hml, hown, hts⟩ (c_X7_isShape l D cI cS x1 v1 h1) (cwSA hts (TW.cons _) ls_X7_isShape ml_RX7_141 ⟨rfl, rfl⟩ ⟨(Nat.le_of_ble_eq_true rfl), (Nat.le_of_ble_eq_true rfl)⟩) (pRS hK pnil) rfl rfl hl.1 rfl (lv_room (Nat.le_of_ble_eq_true rfl)) dX7_eden_1 ⟨Nat.le_refl _, Nat.le_refl _⟩) (fun b1 => ?_)
  refine lv_if_eq (tgt := 14) hx hb dX7_eden_4 (by decide) (fun c4 => ?_) (fun c4 => ?_)
  · replace hF := ip c4 hF
    refine lv_ldc2 (own := RX7) (v := (-9223372036854775808)) hx hb hown (hts _ (List.mem_cons_of_mem _ cn_RX7_59)) dX7_eden_14 ?_
    exact W.lret hx hb hr (fun t ht hW => ⟨_, rfl, (Option.some.inj hF), ht⟩) (fun _ h => nomatch h) dX7_eden_17
  · replace hF := iq c4 hF
    refine lv_aload_n hx hb dX7_eden_7 rfl (lv_at hl 0 rfl) ?_
    refine va_get (D := D) (ci := 6) (v := .int (t0 0 3)) (C := RX7) (T := TX7) (N := 29) hx hb hts (fun w h => List.mem_cons_of_mem _ (inAX7 w h)) hown hK.1 hP 0 (at_M_0 cI cS _ _) rfl 6 (by decide) (hts _ (List.mem_cons_of_mem _ fl_RX7_65)) (fun _ h9 => h9) rfl dX7_eden_8 ?_
    refine lv_if_ne (tgt := 18) hx hb dX7_eden_11 (by decide) (fun c11 => ?_) (fun c11 => ?_)
    · replace hF := iq c11 hF
      refine lv_lconst (v := 0) hx hb dX7_eden_18 (by decide) ?_
      refine lv_lstore_n (lv' := [(2, .long 0), (0, .ref (a0 0)), (1, .int x1)]) hx hb dX7_eden_19 rfl hl (by decide) rfl (fun ls hl => ?_)
      refine lv_iconst (v := 0) hx hb dX7_eden_20 (by decide) ?_
      refine lv_istore (lv' := [(4, .int 0), (2, .long 0), (0, .ref (a0 0)), (1, .int x1)]) hx hb dX7_eden_21 hl (by decide) rfl (fun ls hl => ?_)
      have L23 : ∀ (n_23 : Nat) (y2_23 : Int64) (x4_23 : Int32) (ls : Array Slot), lv_has ls 5 [(0, .ref (a0 0)), (1, .int x1), (2, .long y2_23), (4, .int x4_23)] → F_X7_eden_L23 t0 x1 (fun y2_k23 x4_k23 => F_X7_eden_J58 t0 x1 y2_k23) n_23 y2_23 x4_23 = some r → W p l e rm_X7_eden s m [.ref (a0 0), .int x1].toArray below meth c s.heap [] 0 0 (MQ below (vp_Sl (fun x => x = r)) [.ref (a0 0), .int x1].toArray s 0 0 (fun _ => False)) (F0 m 23 ls []) := by
        intro n_23
        induction n_23 with
        | zero => intro y2_23 x4_23 ls hl hF; exact nomatch hF
        | succ n_23 ih23 =>
          intro y2_23 x4_23 ls hl hF
          rw [F_X7_eden_L23.eq_2] at hF
          refine lv_iload hx hb dX7_eden_23 (lv_at hl 3 rfl) ?_
          refine lv_bipush (v := 64) hx hb dX7_eden_25 (by decide) ?_
          refine lv_icmp_ge (tgt := 58) hx hb dX7_eden_27 (by decide) (fun c27 => ?_) (fun c27 => ?_)
          · replace hF := ip c27 hF
            have hF : F_X7_eden_J58 t0 x1 y2_23 = some r := hF
            unfold F_X7_eden_J58 at hF
            refine lv_lload_n hx hb dX7_eden_58 rfl (lv_at hl 2 rfl) ?_
            exact W.lret hx hb hr (fun t ht hW => ⟨_, rfl, (Option.some.inj hF), ht⟩) (fun _ h => nomatch h) dX7_eden_59
          · replace hF := iq c27 hF
            refine lv_lload_n hx hb dX7_eden_30 rfl (lv_at hl 2 rfl) ?_
            refine lv_aload_n hx hb dX7_eden_31 rfl (lv_at hl 0 rfl) ?_
            refine va_get (D := D) (ci := 6) (v := .ref (a0 4)) (C := RX7) (T := TX7) (N := 29) hx hb hts (fun w h => List.mem_cons_of_mem _ (inAX7 w h)) hown hK.1 hP 0 (at_M_0 cI cS _ _) rfl 9 (by decide) (hts _ (List.mem_cons_of_mem _ fl_RX7_19)) (fun _ h9 => h9) rfl dX7_eden_32 ?_
            refine lv_iload hx hb dX7_eden_35 (lv_at hl 3 rfl) ?_
            obtain ⟨v37, h37, hF⟩ := bd hF
            refine rI hx hb hK.1 hP 4 0 (at_M_4 cI cS _ _) rfl h37 dX7_eden_37 ?_
            refine lv_iload_n hx hb dX7_eden_38 rfl (lv_at hl 1 rfl) ?_
            refine lv_icmp_ne (tgt := 49) hx hb dX7_eden_39 (by decide) (fun c39 => ?_) (fun c39 => ?_)
            · replace hF := iq c39 hF
              refine lv_lconst (v := 0) hx hb dX7_eden_49 (by decide) ?_
              refine lv_lor hx hb dX7_eden_50 ?_
              refine lv_lstore_n (lv' := [(2, .long (y2_23 ||| 0)), (0, .ref (a0 0)), (1, .int x1), (4, .int x4_23)]) hx hb dX7_eden_51 rfl hl (by decide) rfl (fun ls hl => ?_)
              refine lv_iinc (v := (x4_23 + 1)) (lv' := [(4, .int (x4_23 + 1)), (2, .long (y2_23 ||| 0)), (0, .ref (a0 0)), (1, .int x1)]) hx hb dX7_eden_52 hl (k := 3) rfl rfl (by decide) rfl (fun ls hl => ?_)
              refine lv_goto (tgt := 23) hx hb dX7_eden_55 (by decide) ?_
              exact ih23 (y2_23 ||| 0) (x4_23 + 1) _ (lv_sub hl [2, 3, 1, 0] rfl) hF
            · replace hF := ip c39 hF
              refine lv_lconst (v := 1) hx hb dX7_eden_42 (by decide) ?_
              refine lv_iload hx hb dX7_eden_43 (lv_at hl 3 rfl) ?_
              refine lv_lshl (v := (1 <<< (x4_23.toInt64 &&& 63))) hx hb dX7_eden_45 rfl ?_
              refine lv_goto (tgt := 50) hx hb dX7_eden_46 (by decide) ?_
              refine lv_lor hx hb dX7_eden_50 ?_
              refine lv_lstore_n (lv' := [(2, .long (y2_23 ||| (1 <<< (x4_23.toInt64 &&& 63)))), (0, .ref (a0 0)), (1, .int x1), (4, .int x4_23)]) hx hb dX7_eden_51 rfl hl (by decide) rfl (fun ls hl => ?_)
              refine lv_iinc (v := (x4_23 + 1)) (lv' := [(4, .int (x4_23 + 1)), (2, .long (y2_23 ||| (1 <<< (x4_23.toInt64 &&& 63)))), (0, .ref (a0 0)), (1, .int x1)]) hx hb dX7_eden_52 hl (k := 3) rfl rfl (by decide) rfl (fun ls hl => ?_)
              refine lv_goto (tgt := 23) hx hb dX7_eden_55 (by decide) ?_
              exact ih23 (y2_23 ||| (1 <<< (x4_23.toInt64 &&& 63))) (x4_23 + 1) _ (lv_sub hl [2, 3, 1, 0] rfl) hF
      exact L23 1000 0 0 _ (lv_sub hl [2, 3, 1, 0] rfl) hF
    · replace hF := ip c11 hF
      refine lv_ldc2 (own := RX7) (v := (-9223372036854775808)) hx hb hown (hts _ (List.mem_cons_of_mem _ cn_RX7_59)) dX7_eden_14 ?_
      exact W.lret hx hb hr (fun t ht hW => ⟨_, rfl, (Option.some.inj hF), ht⟩) (fun _ h => nomatch h) dX7_eden_17
noncomputable def F_X7_alike_L41 (t0 : ST) (x1 : Int32) (x2 : Int32) (k : Int32 → Int32 → Int32 → Option Int32) : Nat → Int32 → Int32 → Int32 → Option Int32
  | 0, _, _, _ => none
  | n + 1, x3, x4, x5 =>
    if 99 < x5 then
      k x3 x4 x5
    else
    if x3 = x4 then
      some x5
    else
    (F_X7_goesOf t0 x1).bind fun v61 =>
    (F_X7_stepsOn t0 x3 v61).bind fun v64 =>
    (F_X7_goesOf t0 x2).bind fun v73 =>
    (F_X7_stepsOn t0 x4 v73).bind fun v76 =>
    (F_X7_alike_L41 t0 x1 x2 k n) v64 v76 (x5 + 1)
noncomputable def F_X7_alike_J87 (t0 : ST) (x1 : Int32) (x2 : Int32) : Option Int32 :=
  some (-9)
noncomputable def F_X7_alike (t0 : ST) (x1 : Int32) (x2 : Int32) : Option Int32 :=
  (F_X7_isBlock t0 x1).bind fun v2 =>
  if v2 = 0 then
    some (-1)
  else
  (F_X7_isBlock t0 x2).bind fun v10 =>
  if v10 = 0 then
    some (-1)
  else
  if x1 = x2 then
    some (-1)
  else
  (rd 6 (t0 6) x1).bind fun v28 =>
  (rd 6 (t0 6) x2).bind fun v35 =>
  F_X7_alike_L41 t0 x1 x2 (fun x3_k41 x4_k41 x5_k41 => F_X7_alike_J87 t0 x1 x2) 1000 v28 v35 0
abbrev rm_X7_alike : Room := { frames := 1, cells := 0, slots := 0, locals := 24 }
set_option maxHeartbeats 4000000 in
set_option maxRecDepth 100000 in
theorem c_X7_alike (l : Launch) (D : va_G) (cI cS : ClassId) (a0 : Nat → Nat) (t0 : ST) (x1 : Int32) (x2 : Int32) (r : Int32) (hF : F_X7_alike t0 x1 x2 = some r) : Met l yX7_alike (Cond.code yX7_alike cX7_alike 6 (some .int) :: ALL) rm_X7_alike (PreR D cI cS [.ref (a0 0), .int x1, .int x2] (pM cI cS a0 t0)) (vp_Si (fun x => x = r)) 0 0 (fun _ => False) := by
  refine mR l D cI cS (by decide) (Nat.le_of_ble_eq_true rfl) ?_
  intro p e s m below meth c ls hx hb hr hml hown hts hlocks hP hK hl
  have hown : s.vm.findClass RX7 = some m.cls := hown
  have hl : lv_has ls 6 [(0, .ref (a0 0)), (1, .int x1), (2, .int x2)] := hl
  unfold F_X7_alike at hF
  refine lv_aload_n hx hb dX7_alike_0 rfl (lv_at hl 0 rfl) ?_
  refine lv_iload_n hx hb dX7_alike_1 rfl (lv_at hl 1 rfl) ?_
  obtain ⟨v2, h2, hF⟩ := bd hF
  refine cRb (va_runV (As := [.int x1]) (rest := []) ⟨hx, hb, hml, hown, hts⟩ (c_X7_isBlock l D cI cS a0 t0 x1 v2 h2) (cwVA hts (TW.cons _) lv_X7_isBlock ml_RX7_132 ⟨rfl, rfl⟩ ⟨(Nat.le_of_ble_eq_true rfl), (Nat.le_of_ble_eq_true rfl)⟩) (pRV hK hP (ci := 6) rfl rfl) rfl rfl hl.1 rfl (lv_room (Nat.le_of_ble_eq_true rfl)) dX7_alike_2 ⟨Nat.le_refl _, Nat.le_refl _⟩) (fun b2 => ?_)
  refine lv_if_eq (tgt := 21) hx hb dX7_alike_5 (by decide) (fun c5 => ?_) (fun c5 => ?_)
  · replace hF := ip c5 hF
    refine lv_iconst (v := (-1)) hx hb dX7_alike_21 (by decide) ?_
    exact W.iret hx hb hr (fun t ht hW => ⟨_, rfl, (Option.some.inj hF), ht⟩) (fun _ h => nomatch h) dX7_alike_22
  · replace hF := iq c5 hF
    refine lv_aload_n hx hb dX7_alike_8 rfl (lv_at hl 0 rfl) ?_
    refine lv_iload_n hx hb dX7_alike_9 rfl (lv_at hl 2 rfl) ?_
    obtain ⟨v10, h10, hF⟩ := bd hF
    refine cRb (va_runV (As := [.int x2]) (rest := []) ⟨hx, hb, hml, hown, hts⟩ (c_X7_isBlock l D cI cS a0 t0 x2 v10 h10) (cwVA hts (TW.cons _) lv_X7_isBlock ml_RX7_132 ⟨rfl, rfl⟩ ⟨(Nat.le_of_ble_eq_true rfl), (Nat.le_of_ble_eq_true rfl)⟩) (pRV hK hP (ci := 6) rfl rfl) rfl rfl hl.1 rfl (lv_room (Nat.le_of_ble_eq_true rfl)) dX7_alike_10 ⟨Nat.le_refl _, Nat.le_refl _⟩) (fun b10 => ?_)
    refine lv_if_eq (tgt := 21) hx hb dX7_alike_13 (by decide) (fun c13 => ?_) (fun c13 => ?_)
    · replace hF := ip c13 hF
      refine lv_iconst (v := (-1)) hx hb dX7_alike_21 (by decide) ?_
      exact W.iret hx hb hr (fun t ht hW => ⟨_, rfl, (Option.some.inj hF), ht⟩) (fun _ h => nomatch h) dX7_alike_22
    · replace hF := iq c13 hF
      refine lv_iload_n hx hb dX7_alike_16 rfl (lv_at hl 1 rfl) ?_
      refine lv_iload_n hx hb dX7_alike_17 rfl (lv_at hl 2 rfl) ?_
      refine lv_icmp_ne (tgt := 23) hx hb dX7_alike_18 (by decide) (fun c18 => ?_) (fun c18 => ?_)
      · replace hF := iq c18 hF
        refine lv_aload_n hx hb dX7_alike_23 rfl (lv_at hl 0 rfl) ?_
        refine va_get (D := D) (ci := 6) (v := .ref (a0 6)) (C := RX7) (T := TX7) (N := 29) hx hb hts (fun w h => List.mem_cons_of_mem _ (inAX7 w h)) hown hK.1 hP 0 (at_M_0 cI cS _ _) rfl 11 (by decide) (hts _ (List.mem_cons_of_mem _ fl_RX7_25)) (fun _ h9 => h9) rfl dX7_alike_24 ?_
        refine lv_iload_n hx hb dX7_alike_27 rfl (lv_at hl 1 rfl) ?_
        obtain ⟨v28, h28, hF⟩ := bd hF
        refine rI hx hb hK.1 hP 6 0 (at_M_6 cI cS _ _) rfl h28 dX7_alike_28 ?_
        refine lv_istore_n (lv' := [(3, .int v28), (0, .ref (a0 0)), (1, .int x1), (2, .int x2)]) hx hb dX7_alike_29 rfl hl (by decide) rfl (fun ls hl => ?_)
        refine lv_aload_n hx hb dX7_alike_30 rfl (lv_at hl 1 rfl) ?_
        refine va_get (D := D) (ci := 6) (v := .ref (a0 6)) (C := RX7) (T := TX7) (N := 29) hx hb hts (fun w h => List.mem_cons_of_mem _ (inAX7 w h)) hown hK.1 hP 0 (at_M_0 cI cS _ _) rfl 11 (by decide) (hts _ (List.mem_cons_of_mem _ fl_RX7_25)) (fun _ h9 => h9) rfl dX7_alike_31 ?_
        refine lv_iload_n hx hb dX7_alike_34 rfl (lv_at hl 3 rfl) ?_
        obtain ⟨v35, h35, hF⟩ := bd hF
        refine rI hx hb hK.1 hP 6 0 (at_M_6 cI cS _ _) rfl h35 dX7_alike_35 ?_
        refine lv_istore (lv' := [(4, .int v35), (3, .int v28), (0, .ref (a0 0)), (1, .int x1), (2, .int x2)]) hx hb dX7_alike_36 hl (by decide) rfl (fun ls hl => ?_)
        refine lv_iconst (v := 0) hx hb dX7_alike_38 (by decide) ?_
        refine lv_istore (lv' := [(5, .int 0), (4, .int v35), (3, .int v28), (0, .ref (a0 0)), (1, .int x1), (2, .int x2)]) hx hb dX7_alike_39 hl (by decide) rfl (fun ls hl => ?_)
        have L41 : ∀ (n_41 : Nat) (x3_41 : Int32) (x4_41 : Int32) (x5_41 : Int32) (ls : Array Slot), lv_has ls 6 [(0, .ref (a0 0)), (1, .int x1), (2, .int x2), (3, .int x3_41), (4, .int x4_41), (5, .int x5_41)] → F_X7_alike_L41 t0 x1 x2 (fun x3_k41 x4_k41 x5_k41 => F_X7_alike_J87 t0 x1 x2) n_41 x3_41 x4_41 x5_41 = some r → W p l e rm_X7_alike s m [.ref (a0 0), .int x1, .int x2].toArray below meth c s.heap [] 0 0 (MQ below (vp_Si (fun x => x = r)) [.ref (a0 0), .int x1, .int x2].toArray s 0 0 (fun _ => False)) (F0 m 41 ls []) := by
          intro n_41
          induction n_41 with
          | zero => intro x3_41 x4_41 x5_41 ls hl hF; exact nomatch hF
          | succ n_41 ih41 =>
            intro x3_41 x4_41 x5_41 ls hl hF
            rw [F_X7_alike_L41.eq_2] at hF
            refine lv_iload hx hb dX7_alike_41 (lv_at hl 5 rfl) ?_
            refine lv_bipush (v := 99) hx hb dX7_alike_43 (by decide) ?_
            refine lv_icmp_gt (tgt := 87) hx hb dX7_alike_45 (by decide) (fun c45 => ?_) (fun c45 => ?_)
            · replace hF := ip c45 hF
              have hF : F_X7_alike_J87 t0 x1 x2 = some r := hF
              unfold F_X7_alike_J87 at hF
              refine lv_bipush (v := (-9)) hx hb dX7_alike_87 (by decide) ?_
              exact W.iret hx hb hr (fun t ht hW => ⟨_, rfl, (Option.some.inj hF), ht⟩) (fun _ h => nomatch h) dX7_alike_89
            · replace hF := iq c45 hF
              refine lv_iload_n hx hb dX7_alike_48 rfl (lv_at hl 3 rfl) ?_
              refine lv_iload hx hb dX7_alike_49 (lv_at hl 4 rfl) ?_
              refine lv_icmp_ne (tgt := 57) hx hb dX7_alike_51 (by decide) (fun c51 => ?_) (fun c51 => ?_)
              · replace hF := iq c51 hF
                refine lv_aload_n hx hb dX7_alike_57 rfl (lv_at hl 0 rfl) ?_
                refine lv_iload_n hx hb dX7_alike_58 rfl (lv_at hl 3 rfl) ?_
                refine lv_aload_n hx hb dX7_alike_59 rfl (lv_at hl 0 rfl) ?_
                refine lv_iload_n hx hb dX7_alike_60 rfl (lv_at hl 1 rfl) ?_
                obtain ⟨v61, h61, hF⟩ := bd hF
                refine cRe (va_runV (As := [.int x1]) (rest := [.int x3_41, .ref (a0 0)]) ⟨hx, hb, hml, hown, hts⟩ (c_X7_goesOf l D cI cS a0 t0 x1 v61 h61) (cwVA hts (TW.cons _) lv_X7_goesOf ml_RX7_135 ⟨rfl, rfl⟩ ⟨(Nat.le_of_ble_eq_true rfl), (Nat.le_of_ble_eq_true rfl)⟩) (pRV hK hP (ci := 6) rfl rfl) rfl rfl hl.1 rfl (lv_room (Nat.le_of_ble_eq_true rfl)) dX7_alike_61 ⟨Nat.le_refl _, Nat.le_refl _⟩) ?_
                obtain ⟨v64, h64, hF⟩ := bd hF
                refine cRe (va_runV (As := [.int x3_41, .int v61]) (rest := []) ⟨hx, hb, hml, hown, hts⟩ (c_X7_stepsOn l D cI cS a0 t0 x3_41 v61 v64 h64) (cwVA hts (TW.cons _) lv_X7_stepsOn ml_RX7_147 ⟨rfl, rfl⟩ ⟨(Nat.le_of_ble_eq_true rfl), (Nat.le_of_ble_eq_true rfl)⟩) (pRV hK hP (ci := 6) rfl rfl) rfl rfl hl.1 rfl (lv_room (Nat.le_of_ble_eq_true rfl)) dX7_alike_64 ⟨Nat.le_refl _, Nat.le_refl _⟩) ?_
                refine lv_istore_n (lv' := [(3, .int v64), (0, .ref (a0 0)), (1, .int x1), (2, .int x2), (4, .int x4_41), (5, .int x5_41)]) hx hb dX7_alike_67 rfl hl (by decide) rfl (fun ls hl => ?_)
                refine lv_aload_n hx hb dX7_alike_68 rfl (lv_at hl 1 rfl) ?_
                refine lv_iload hx hb dX7_alike_69 (lv_at hl 4 rfl) ?_
                refine lv_aload_n hx hb dX7_alike_71 rfl (lv_at hl 1 rfl) ?_
                refine lv_iload_n hx hb dX7_alike_72 rfl (lv_at hl 3 rfl) ?_
                obtain ⟨v73, h73, hF⟩ := bd hF
                refine cRe (va_runV (As := [.int x2]) (rest := [.int x4_41, .ref (a0 0)]) ⟨hx, hb, hml, hown, hts⟩ (c_X7_goesOf l D cI cS a0 t0 x2 v73 h73) (cwVA hts (TW.cons _) lv_X7_goesOf ml_RX7_135 ⟨rfl, rfl⟩ ⟨(Nat.le_of_ble_eq_true rfl), (Nat.le_of_ble_eq_true rfl)⟩) (pRV hK hP (ci := 6) rfl rfl) rfl rfl hl.1 rfl (lv_room (Nat.le_of_ble_eq_true rfl)) dX7_alike_73 ⟨Nat.le_refl _, Nat.le_refl _⟩) ?_
                obtain ⟨v76, h76, hF⟩ := bd hF
                refine cRe (va_runV (As := [.int x4_41, .int v73]) (rest := []) ⟨hx, hb, hml, hown, hts⟩ (c_X7_stepsOn l D cI cS a0 t0 x4_41 v73 v76 h76) (cwVA hts (TW.cons _) lv_X7_stepsOn ml_RX7_147 ⟨rfl, rfl⟩ ⟨(Nat.le_of_ble_eq_true rfl), (Nat.le_of_ble_eq_true rfl)⟩) (pRV hK hP (ci := 6) rfl rfl) rfl rfl hl.1 rfl (lv_room (Nat.le_of_ble_eq_true rfl)) dX7_alike_76 ⟨Nat.le_refl _, Nat.le_refl _⟩) ?_
                refine lv_istore (lv' := [(4, .int v76), (3, .int v64), (0, .ref (a0 0)), (1, .int x1), (2, .int x2), (5, .int x5_41)]) hx hb dX7_alike_79 hl (by decide) rfl (fun ls hl => ?_)
                refine lv_iinc (v := (x5_41 + 1)) (lv' := [(5, .int (x5_41 + 1)), (4, .int v76), (3, .int v64), (0, .ref (a0 0)), (1, .int x1), (2, .int x2)]) hx hb dX7_alike_81 hl (k := 5) rfl rfl (by decide) rfl (fun ls hl => ?_)
                refine lv_goto (tgt := 41) hx hb dX7_alike_84 (by decide) ?_
                exact ih41 v64 v76 (x5_41 + 1) _ (lv_sub hl [3, 4, 5, 2, 1, 0] rfl) hF
              · replace hF := ip c51 hF
                refine lv_iload hx hb dX7_alike_54 (lv_at hl 5 rfl) ?_
                exact W.iret hx hb hr (fun t ht hW => ⟨_, rfl, (Option.some.inj hF), ht⟩) (fun _ h => nomatch h) dX7_alike_56
        exact L41 1000 v28 v35 0 _ (lv_sub hl [3, 4, 5, 2, 1, 0] rfl) hF
      · replace hF := ip c18 hF
        refine lv_iconst (v := (-1)) hx hb dX7_alike_21 (by decide) ?_
        exact W.iret hx hb hr (fun t ht hW => ⟨_, rfl, (Option.some.inj hF), ht⟩) (fun _ h => nomatch h) dX7_alike_22
