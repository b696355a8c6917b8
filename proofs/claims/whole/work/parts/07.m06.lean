noncomputable def F_X7_cell_J50 (x1 : Int32) (x2 : Int32) (x3 : Int32) (s0 : ST) : Option (Int64 × ST) :=
  (rd 4 (s0 1) x1).bind fun v55 =>
  if v55 = (-9) then
    b2 (F_X7_lost s0 1) fun v63 u63 =>
    some (v63, u63)
  else
  (rd 4 (s0 2) x1).bind fun v74 =>
  (F_X7_within x2 0 (v74 - 1)).bind fun v77 =>
  if v77 = 0 then
    b2 (F_X7_lost s0 3) fun v85 u85 =>
    some (v85, u85)
  else
  (rd 240 (s0 3) ((60 * x1) + x2)).bind fun v99 =>
  some (v99.toInt64, s0)
noncomputable def F_X7_cell (t0 : ST) (x1 : Int32) (x2 : Int32) (x3 : Int32) : Option (Int64 × ST) :=
  (F_X7_isSheet x1).bind fun v6 =>
  if v6 = 0 then
    some ((-9223372036854775808), (st t0 0 0 0))
  else
  (F_X7_isSort x3).bind fun v13 =>
  if v13 = 0 then
    some ((-9223372036854775808), (st t0 0 0 0))
  else
  (rd 4 (t0 1) x1).bind fun v28 =>
  if v28 = (-9) then
    F_X7_cell_J50 x1 x2 x3 (st t0 0 0 0)
  else
  (rd 4 (t0 1) x1).bind fun v39 =>
  if v39 = x3 then
    F_X7_cell_J50 x1 x2 x3 (st t0 0 0 0)
  else
  b2 (F_X7_lost (st t0 0 0 0) 2) fun v46 u46 =>
  some (v46, u46)
abbrev rm_X7_cell : Room := { frames := 2, cells := 0, slots := 0, locals := 42 }
set_option maxHeartbeats 4000000 in
set_option maxRecDepth 100000 in
theorem c_X7_cell (l : Launch) (D : va_G) (cI cS : ClassId) (a0 : Nat → Nat) (t0 : ST) (x1 : Int32) (x2 : Int32) (x3 : Int32) (r : Int64) (t' : ST) (hF : F_X7_cell t0 x1 x2 x3 = some (r, t')) : Met l yX7_cell (Cond.code yX7_cell cX7_cell 4 (some .long) :: ALL) rm_X7_cell (PreW D cI cS [.ref (a0 0), .int x1, .int x2, .int x3] (pM cI cS a0 t0)) (va_Ql (fun x (_ : Unit) => x = r) (fun _ t => va_P D vwCl (pM cI cS a0 t') t.heap) (AD (pM cI cS a0 t0))) 0 0 (AD (pM cI cS a0 t0)) := by
  refine mW l D cI cS (by decide) (Nat.le_of_ble_eq_true rfl) ?_
  intro p e s m below meth c ls hx hb hr hml hown hts hlocks hP hK hD hS hl
  have hown : s.vm.findClass RX7 = some m.cls := hown
  have hl : lv_has ls 4 [(0, .ref (a0 0)), (1, .int x1), (2, .int x2), (3, .int x3)] := hl
  unfold F_X7_cell at hF
  refine lv_aload_n hx hb dX7_cell_0 rfl (lv_at hl 0 rfl) ?_
  refine lv_iconst (v := 0) hx hb dX7_cell_1 (by decide) ?_
  refine wF (ws' := pM cI cS a0 (st t0 0 0 0)) (C := RX7) (T := TX7) (N := 29) hx hb hts (fun w h => List.mem_cons_of_mem _ (inAX7 w h)) tyX7 tyX7_ok nmX7 hown hK.1 hP hD hS 0 (at_M_0 cI cS _ _) rfl 0 (by decide) (hts _ (List.mem_cons_of_mem _ fl_RX7_55)) rfl (tyX7_ok 0 (by decide)) rfl rfl (Nat.le_of_ble_eq_true rfl) (sf_M_0_0 cI cS _ _ _) dX7_cell_2 (fun H locs hP hD hS => ?_)
  refine lv_iload_n hx hb dX7_cell_5 rfl (lv_at hl 1 rfl) ?_
  obtain ⟨v6, h6, hF⟩ := bd hF
  refine cRb (va_runS (As := [.int x1]) (rest := []) ⟨hx, hb, hml, hown, hts⟩ (c_X7_isSheet l D cI cS x1 v6 h6) (cwSA hts (TW.cons _) ls_X7_isSheet ml_RX7_71 ⟨rfl, rfl⟩ ⟨(Nat.le_of_ble_eq_true rfl), (Nat.le_of_ble_eq_true rfl)⟩) (pRS hK pnil) rfl rfl hl.1 rfl (lv_room (Nat.le_of_ble_eq_true rfl)) dX7_cell_6 ⟨Nat.le_refl _, Nat.le_refl _⟩) (fun b6 => ?_)
  refine lv_if_eq (tgt := 19) hx hb dX7_cell_9 (by decide) (fun c9 => ?_) (fun c9 => ?_)
  · replace hF := ip c9 hF
    refine lv_ldc2 (own := RX7) (v := (-9223372036854775808)) hx hb hown (hts _ (List.mem_cons_of_mem _ cn_RX7_59)) dX7_cell_19 ?_
    exact W.lret hx hb hr (fun t ht hW => ⟨⟨_, (), rfl, (Prod.mk.inj (Option.some.inj hF)).1, by show va_P _ _ _ t.heap; rw [ht, ← (Prod.mk.inj (Option.some.inj hF)).2]; exact hP⟩, hS.F ht⟩) hS.2.2 dX7_cell_22
  · replace hF := iq c9 hF
    refine lv_iload_n hx hb dX7_cell_12 rfl (lv_at hl 3 rfl) ?_
    obtain ⟨v13, h13, hF⟩ := bd hF
    refine cRb (va_runS (As := [.int x3]) (rest := []) ⟨hx, hb, hml, hown, hts⟩ (c_X7_isSort l D cI cS x3 v13 h13) (cwSA hts (TW.cons _) ls_X7_isSort ml_RX7_75 ⟨rfl, rfl⟩ ⟨(Nat.le_of_ble_eq_true rfl), (Nat.le_of_ble_eq_true rfl)⟩) (pRS hK pnil) rfl rfl hl.1 rfl (lv_room (Nat.le_of_ble_eq_true rfl)) dX7_cell_13 ⟨Nat.le_refl _, Nat.le_refl _⟩) (fun b13 => ?_)
    refine lv_if_ne (tgt := 23) hx hb dX7_cell_16 (by decide) (fun c16 => ?_) (fun c16 => ?_)
    · replace hF := iq c16 hF
      refine lv_aload_n hx hb dX7_cell_23 rfl (lv_at hl 0 rfl) ?_
      refine va_get (D := D) (ci := 6) (v := .ref (a0 1)) (C := RX7) (T := TX7) (N := 29) hx hb hts (fun w h => List.mem_cons_of_mem _ (inAX7 w h)) hown hK.1 hP 0 (at_M_0 cI cS _ _) rfl 2 (by decide) (hts _ (List.mem_cons_of_mem _ fl_RX7_9)) (fun _ h9 => h9) rfl dX7_cell_24 ?_
      refine lv_iload_n hx hb dX7_cell_27 rfl (lv_at hl 1 rfl) ?_
      obtain ⟨v28, h28, hF⟩ := bd hF
      refine rI hx hb hK.1 hP 1 0 (at_M_1 cI cS _ _) rfl h28 dX7_cell_28 ?_
      refine lv_bipush (v := (-9)) hx hb dX7_cell_29 (by decide) ?_
      have J50 : ∀ (s0_50 : ST) (H : Heap) (locs : List Loc) (ls : Array Slot), va_P D vwCl (pM cI cS a0 s0_50) H → va_D (AD (pM cI cS a0 t0)) (pM cI cS a0 s0_50) → va_S (AD (pM cI cS a0 t0)) s.heap H locs → lv_has ls 4 [(0, .ref (a0 0)), (1, .int x1), (2, .int x2)] → F_X7_cell_J50 x1 x2 x3 s0_50 = some (r, t') → W p l e rm_X7_cell s m [.ref (a0 0), .int x1, .int x2, .int x3].toArray below meth c H locs 0 0 (MQ below (va_Ql (fun x (_ : Unit) => x = r) (fun _ t => va_P D vwCl (pM cI cS a0 t') t.heap) (AD (pM cI cS a0 t0))) [.ref (a0 0), .int x1, .int x2, .int x3].toArray s 0 0 (AD (pM cI cS a0 t0))) (F0 m 50 ls []) := by
        intro s0_50 H locs ls hP hD hS hl hF
        unfold F_X7_cell_J50 at hF
        refine lv_aload_n hx hb dX7_cell_50 rfl (lv_at hl 0 rfl) ?_
        refine va_get (D := D) (ci := 6) (v := .ref (a0 1)) (C := RX7) (T := TX7) (N := 29) hx hb hts (fun w h => List.mem_cons_of_mem _ (inAX7 w h)) hown hK.1 hP 0 (at_M_0 cI cS _ _) rfl 2 (by decide) (hts _ (List.mem_cons_of_mem _ fl_RX7_9)) (fun _ h9 => h9) rfl dX7_cell_51 ?_
        refine lv_iload_n hx hb dX7_cell_54 rfl (lv_at hl 1 rfl) ?_
        obtain ⟨v55, h55, hF⟩ := bd hF
        refine rI hx hb hK.1 hP 1 0 (at_M_1 cI cS _ _) rfl h55 dX7_cell_55 ?_
        refine lv_bipush (v := (-9)) hx hb dX7_cell_56 (by decide) ?_
        refine lv_icmp_ne (tgt := 67) hx hb dX7_cell_58 (by decide) (fun c58 => ?_) (fun c58 => ?_)
        · replace hF := iq c58 hF
          refine lv_iload_n hx hb dX7_cell_67 rfl (lv_at hl 2 rfl) ?_
          refine lv_iconst (v := 0) hx hb dX7_cell_68 (by decide) ?_
          refine lv_aload_n hx hb dX7_cell_69 rfl (lv_at hl 0 rfl) ?_
          refine va_get (D := D) (ci := 6) (v := .ref (a0 2)) (C := RX7) (T := TX7) (N := 29) hx hb hts (fun w h => List.mem_cons_of_mem _ (inAX7 w h)) hown hK.1 hP 0 (at_M_0 cI cS _ _) rfl 3 (by decide) (hts _ (List.mem_cons_of_mem _ fl_RX7_13)) (fun _ h9 => h9) rfl dX7_cell_70 ?_
          refine lv_iload_n hx hb dX7_cell_73 rfl (lv_at hl 1 rfl) ?_
          obtain ⟨v74, h74, hF⟩ := bd hF
          refine rI hx hb hK.1 hP 2 0 (at_M_2 cI cS _ _) rfl h74 dX7_cell_74 ?_
          refine lv_iconst (v := 1) hx hb dX7_cell_75 (by decide) ?_
          refine lv_isub hx hb dX7_cell_76 ?_
          obtain ⟨v77, h77, hF⟩ := bd hF
          refine cRb (va_runS (As := [.int x2, .int 0, .int (v74 - 1)]) (rest := []) ⟨hx, hb, hml, hown, hts⟩ (c_X7_within l D cI cS x2 0 (v74 - 1) v77 h77) (cwSA hts (TW.cons _) ls_X7_within ml_RX7_61 ⟨rfl, rfl⟩ ⟨(Nat.le_of_ble_eq_true rfl), (Nat.le_of_ble_eq_true rfl)⟩) (pRS hK pnil) rfl rfl hl.1 rfl (lv_room (Nat.le_of_ble_eq_true rfl)) dX7_cell_77 ⟨Nat.le_refl _, Nat.le_refl _⟩) (fun b77 => ?_)
          refine lv_if_ne (tgt := 89) hx hb dX7_cell_80 (by decide) (fun c80 => ?_) (fun c80 => ?_)
          · replace hF := iq c80 hF
            refine lv_aload_n hx hb dX7_cell_89 rfl (lv_at hl 0 rfl) ?_
            refine va_get (D := D) (ci := 6) (v := .ref (a0 3)) (C := RX7) (T := TX7) (N := 29) hx hb hts (fun w h => List.mem_cons_of_mem _ (inAX7 w h)) hown hK.1 hP 0 (at_M_0 cI cS _ _) rfl 4 (by decide) (hts _ (List.mem_cons_of_mem _ fl_RX7_16)) (fun _ h9 => h9) rfl dX7_cell_90 ?_
            refine lv_bipush (v := 60) hx hb dX7_cell_93 (by decide) ?_
            refine lv_iload_n hx hb dX7_cell_95 rfl (lv_at hl 1 rfl) ?_
            refine lv_imul hx hb dX7_cell_96 ?_
            refine lv_iload_n hx hb dX7_cell_97 rfl (lv_at hl 2 rfl) ?_
            refine lv_iadd hx hb dX7_cell_98 ?_
            obtain ⟨v99, h99, hF⟩ := bd hF
            refine rI hx hb hK.1 hP 3 0 (at_M_3 cI cS _ _) rfl h99 dX7_cell_99 ?_
            refine lv_i2l (v := v99.toInt64) hx hb dX7_cell_100 rfl ?_
            exact W.lret hx hb hr (fun t ht hW => ⟨⟨_, (), rfl, (Prod.mk.inj (Option.some.inj hF)).1, by show va_P _ _ _ t.heap; rw [ht, ← (Prod.mk.inj (Option.some.inj hF)).2]; exact hP⟩, hS.F ht⟩) hS.2.2 dX7_cell_101
          · replace hF := ip c80 hF
            refine lv_aload_n hx hb dX7_cell_83 rfl (lv_at hl 0 rfl) ?_
            refine lv_iconst (v := 3) hx hb dX7_cell_84 (by decide) ?_
            obtain ⟨v85, u85, h85, hF⟩ := bd2 hF
            refine cAl (ws' := pM cI cS a0 u85) (va_runV (As := [.int 3]) (rest := []) ⟨hx, hb, hml, hown, hts⟩ (c_X7_lost l D cI cS a0 s0_50 3 v85 u85 h85) (cwVA hts (TW.cons _) lv_X7_lost ml_RX7_208 ⟨rfl, rfl⟩ ⟨(Nat.le_of_ble_eq_true rfl), (Nat.le_of_ble_eq_true rfl)⟩) (pWV hK hP hD (ci := 6) rfl rfl) rfl rfl hl.1 rfl (lv_room (Nat.le_of_ble_eq_true rfl)) dX7_cell_85 ⟨Nat.le_refl _, Nat.le_refl _⟩) hD hS (ad_M cI cS _ _ _) (fun H locs hP hD hS => ?_)
            exact W.lret hx hb hr (fun t ht hW => ⟨⟨_, (), rfl, (Prod.mk.inj (Option.some.inj hF)).1, by show va_P _ _ _ t.heap; rw [ht, ← (Prod.mk.inj (Option.some.inj hF)).2]; exact hP⟩, hS.F ht⟩) hS.2.2 dX7_cell_88
        · replace hF := ip c58 hF
          refine lv_aload_n hx hb dX7_cell_61 rfl (lv_at hl 0 rfl) ?_
          refine lv_iconst (v := 1) hx hb dX7_cell_62 (by decide) ?_
          obtain ⟨v63, u63, h63, hF⟩ := bd2 hF
          refine cAl (ws' := pM cI cS a0 u63) (va_runV (As := [.int 1]) (rest := []) ⟨hx, hb, hml, hown, hts⟩ (c_X7_lost l D cI cS a0 s0_50 1 v63 u63 h63) (cwVA hts (TW.cons _) lv_X7_lost ml_RX7_208 ⟨rfl, rfl⟩ ⟨(Nat.le_of_ble_eq_true rfl), (Nat.le_of_ble_eq_true rfl)⟩) (pWV hK hP hD (ci := 6) rfl rfl) rfl rfl hl.1 rfl (lv_room (Nat.le_of_ble_eq_true rfl)) dX7_cell_63 ⟨Nat.le_refl _, Nat.le_refl _⟩) hD hS (ad_M cI cS _ _ _) (fun H locs hP hD hS => ?_)
          exact W.lret hx hb hr (fun t ht hW => ⟨⟨_, (), rfl, (Prod.mk.inj (Option.some.inj hF)).1, by show va_P _ _ _ t.heap; rw [ht, ← (Prod.mk.inj (Option.some.inj hF)).2]; exact hP⟩, hS.F ht⟩) hS.2.2 dX7_cell_66
      refine lv_icmp_eq (tgt := 50) hx hb dX7_cell_31 (by decide) (fun c31 => ?_) (fun c31 => ?_)
      · replace hF := ip c31 hF
        exact J50 (st t0 0 0 0) _ _ _ hP hD hS (lv_sub hl [0, 1, 2] rfl) hF
      · replace hF := iq c31 hF
        refine lv_aload_n hx hb dX7_cell_34 rfl (lv_at hl 0 rfl) ?_
        refine va_get (D := D) (ci := 6) (v := .ref (a0 1)) (C := RX7) (T := TX7) (N := 29) hx hb hts (fun w h => List.mem_cons_of_mem _ (inAX7 w h)) hown hK.1 hP 0 (at_M_0 cI cS _ _) rfl 2 (by decide) (hts _ (List.mem_cons_of_mem _ fl_RX7_9)) (fun _ h9 => h9) rfl dX7_cell_35 ?_
        refine lv_iload_n hx hb dX7_cell_38 rfl (lv_at hl 1 rfl) ?_
        obtain ⟨v39, h39, hF⟩ := bd hF
        refine rI hx hb hK.1 hP 1 0 (at_M_1 cI cS _ _) rfl h39 dX7_cell_39 ?_
        refine lv_iload_n hx hb dX7_cell_40 rfl (lv_at hl 3 rfl) ?_
        refine lv_icmp_eq (tgt := 50) hx hb dX7_cell_41 (by decide) (fun c41 => ?_) (fun c41 => ?_)
        · replace hF := ip c41 hF
          exact J50 (st t0 0 0 0) _ _ _ hP hD hS (lv_sub hl [0, 1, 2] rfl) hF
        · replace hF := iq c41 hF
          refine lv_aload_n hx hb dX7_cell_44 rfl (lv_at hl 0 rfl) ?_
          refine lv_iconst (v := 2) hx hb dX7_cell_45 (by decide) ?_
          obtain ⟨v46, u46, h46, hF⟩ := bd2 hF
          refine cAl (ws' := pM cI cS a0 u46) (va_runV (As := [.int 2]) (rest := []) ⟨hx, hb, hml, hown, hts⟩ (c_X7_lost l D cI cS a0 (st t0 0 0 0) 2 v46 u46 h46) (cwVA hts (TW.cons _) lv_X7_lost ml_RX7_208 ⟨rfl, rfl⟩ ⟨(Nat.le_of_ble_eq_true rfl), (Nat.le_of_ble_eq_true rfl)⟩) (pWV hK hP hD (ci := 6) rfl rfl) rfl rfl hl.1 rfl (lv_room (Nat.le_of_ble_eq_true rfl)) dX7_cell_46 ⟨Nat.le_refl _, Nat.le_refl _⟩) hD hS (ad_M cI cS _ _ _) (fun H locs hP hD hS => ?_)
          exact W.lret hx hb hr (fun t ht hW => ⟨⟨_, (), rfl, (Prod.mk.inj (Option.some.inj hF)).1, by show va_P _ _ _ t.heap; rw [ht, ← (Prod.mk.inj (Option.some.inj hF)).2]; exact hP⟩, hS.F ht⟩) hS.2.2 dX7_cell_49
    · replace hF := ip c16 hF
      refine lv_ldc2 (own := RX7) (v := (-9223372036854775808)) hx hb hown (hts _ (List.mem_cons_of_mem _ cn_RX7_59)) dX7_cell_19 ?_
      exact W.lret hx hb hr (fun t ht hW => ⟨⟨_, (), rfl, (Prod.mk.inj (Option.some.inj hF)).1, by show va_P _ _ _ t.heap; rw [ht, ← (Prod.mk.inj (Option.some.inj hF)).2]; exact hP⟩, hS.F ht⟩) hS.2.2 dX7_cell_22
noncomputable def F_X7_copy_J190 (x1 : Int32) (x2 : Int32) (x3 : Int32) (x4 : Int32) (x5 : Int32) (g k : Int32 → ST → Option (Int32 × ST)) (x7 : Int32) (x8 : Int32) (s0 : ST) (z0 : Int32) : Option (Int32 × ST) :=
  (rd 240 (s0 3) (((60 * x1) + x2) + z0)).bind fun v219 =>
  (ix 240 (((60 * x3) + x4) + z0)).bind fun k220 =>
  g (x8 + 1) (st s0 3 k220 v219)
noncomputable def F_X7_copy_L166 (x1 : Int32) (x2 : Int32) (x3 : Int32) (x4 : Int32) (x5 : Int32) (x7 : Int32) (k : Int32 → ST → Option (Int32 × ST)) : Nat → Int32 → ST → Option (Int32 × ST)
  | 0, _, _ => none
  | n + 1, x8, s0 =>
    if x5 ≤ x8 then
      k x8 s0
    else
    if x7 = 0 then
      F_X7_copy_J190 x1 x2 x3 x4 x5 (F_X7_copy_L166 x1 x2 x3 x4 x5 x7 k n) k x7 x8 s0 x8
    else
    F_X7_copy_J190 x1 x2 x3 x4 x5 (F_X7_copy_L166 x1 x2 x3 x4 x5 x7 k n) k x7 x8 s0 ((x5 - 1) - x8)
noncomputable def F_X7_copy_J227 (x1 : Int32) (x2 : Int32) (x3 : Int32) (x4 : Int32) (x5 : Int32) (s0 : ST) : Option (Int32 × ST) :=
  some (x5, s0)
noncomputable def F_X7_copy_J161 (x1 : Int32) (x2 : Int32) (x3 : Int32) (x4 : Int32) (x5 : Int32) (s0 : ST) (z0 : Int32) : Option (Int32 × ST) :=
  F_X7_copy_L166 x1 x2 x3 x4 x5 z0 (fun x8_k166 s0_k166 => F_X7_copy_J227 x1 x2 x3 x4 x5 s0_k166) 1000 0 s0
noncomputable def F_X7_copy_J110 (x1 : Int32) (x2 : Int32) (x3 : Int32) (x4 : Int32) (x5 : Int32) (s0 : ST) (z0 : Int32) : Option (Int32 × ST) :=
  if z0 = 0 then
    b2 (F_X7_fails s0 3) fun v146 u146 =>
    some (v146, u146)
  else
  (rd 4 (s0 2) x1).bind fun v124 =>
  if (v124 - x2) < x5 then
    b2 (F_X7_fails s0 3) fun v146 u146 =>
    some (v146, u146)
  else
  (rd 4 (s0 2) x3).bind fun v137 =>
  if x5 ≤ (v137 - x4) then
    if x4 ≤ x2 then
      F_X7_copy_J161 x1 x2 x3 x4 x5 s0 0
    else
    F_X7_copy_J161 x1 x2 x3 x4 x5 s0 1
  else
  b2 (F_X7_fails s0 3) fun v146 u146 =>
  some (v146, u146)
noncomputable def F_X7_copy_J109 (x1 : Int32) (x2 : Int32) (x3 : Int32) (x4 : Int32) (x5 : Int32) (s0 : ST) : Option (Int32 × ST) :=
  F_X7_copy_J110 x1 x2 x3 x4 x5 s0 0
noncomputable def F_X7_copy (t0 : ST) (x1 : Int32) (x2 : Int32) (x3 : Int32) (x4 : Int32) (x5 : Int32) : Option (Int32 × ST) :=
  (F_X7_isSheet x1).bind fun v6 =>
  if v6 = 0 then
    some ((-1), (st t0 0 0 0))
  else
  (F_X7_isSheet x3).bind fun v13 =>
  if v13 = 0 then
    some ((-1), (st t0 0 0 0))
  else
  (rd 4 (t0 1) x1).bind fun v26 =>
  if v26 = (-9) then
    b2 (F_X7_fails (st t0 0 0 0) 1) fun v45 u45 =>
    some (v45, u45)
  else
  (rd 4 (t0 1) x3).bind fun v37 =>
  if v37 = (-9) then
    b2 (F_X7_fails (st t0 0 0 0) 1) fun v45 u45 =>
    some (v45, u45)
  else
  (rd 4 (t0 1) x1).bind fun v54 =>
  (rd 4 (t0 1) x3).bind fun v60 =>
  if v54 = v60 then
    if x2 < 0 then
      F_X7_copy_J109 x1 x2 x3 x4 x5 (st t0 0 0 0)
    else
    if x4 < 0 then
      F_X7_copy_J109 x1 x2 x3 x4 x5 (st t0 0 0 0)
    else
    if x5 < 0 then
      F_X7_copy_J109 x1 x2 x3 x4 x5 (st t0 0 0 0)
    else
    (rd 4 (t0 2) x1).bind fun v90 =>
    if v90 < x2 then
      F_X7_copy_J109 x1 x2 x3 x4 x5 (st t0 0 0 0)
    else
    (rd 4 (t0 2) x3).bind fun v101 =>
    if v101 < x4 then
      F_X7_copy_J109 x1 x2 x3 x4 x5 (st t0 0 0 0)
    else
    F_X7_copy_J110 x1 x2 x3 x4 x5 (st t0 0 0 0) 1
  else
  b2 (F_X7_fails (st t0 0 0 0) 2) fun v66 u66 =>
  some (v66, u66)
abbrev rm_X7_copy : Room := { frames := 2, cells := 0, slots := 0, locals := 42 }
set_option maxHeartbeats 4000000 in
set_option maxRecDepth 100000 in
theorem c_X7_copy (l : Launch) (D : va_G) (cI cS : ClassId) (a0 : Nat → Nat) (t0 : ST) (x1 : Int32) (x2 : Int32) (x3 : Int32) (x4 : Int32) (x5 : Int32) (r : Int32) (t' : ST) (hF : F_X7_copy t0 x1 x2 x3 x4 x5 = some (r, t')) : Met l yX7_copy (Cond.code yX7_copy cX7_copy 10 (some .int) :: ALL) rm_X7_copy (PreW D cI cS [.ref (a0 0), .int x1, .int x2, .int x3, .int x4, .int x5] (pM cI cS a0 t0)) (va_Qi (fun x (_ : Unit) => x = r) (fun _ t => va_P D vwCl (pM cI cS a0 t') t.heap) (AD (pM cI cS a0 t0))) 0 0 (AD (pM cI cS a0 t0)) := by
  refine mW l D cI cS (by decide) (Nat.le_of_ble_eq_true rfl) ?_
  intro p e s m below meth c ls hx hb hr hml hown hts hlocks hP hK hD hS hl
  have hown : s.vm.findClass RX7 = some m.cls := hown
  have hl : lv_has ls 10 [(0, .ref (a0 0)), (1, .int x1), (2, .int x2), (3, .int x3), (4, .int x4), (5, .int x5)] := hl
  unfold F_X7_copy at hF
  refine lv_aload_n hx hb dX7_copy_0 rfl (lv_at hl 0 rfl) ?_
  refine lv_iconst (v := 0) hx hb dX7_copy_1 (by decide) ?_
  refine wF (ws' := pM cI cS a0 (st t0 0 0 0)) (C := RX7) (T := TX7) (N := 29) hx hb hts (fun w h => List.mem_cons_of_mem _ (inAX7 w h)) tyX7 tyX7_ok nmX7 hown hK.1 hP hD hS 0 (at_M_0 cI cS _ _) rfl 0 (by decide) (hts _ (List.mem_cons_of_mem _ fl_RX7_55)) rfl (tyX7_ok 0 (by decide)) rfl rfl (Nat.le_of_ble_eq_true rfl) (sf_M_0_0 cI cS _ _ _) dX7_copy_2 (fun H locs hP hD hS => ?_)
  refine lv_iload_n hx hb dX7_copy_5 rfl (lv_at hl 1 rfl) ?_
  obtain ⟨v6, h6, hF⟩ := bd hF
  refine cRb (va_runS (As := [.int x1]) (rest := []) ⟨hx, hb, hml, hown, hts⟩ (c_X7_isSheet l D cI cS x1 v6 h6) (cwSA hts (TW.cons _) ls_X7_isSheet ml_RX7_71 ⟨rfl, rfl⟩ ⟨(Nat.le_of_ble_eq_true rfl), (Nat.le_of_ble_eq_true rfl)⟩) (pRS hK pnil) rfl rfl hl.1 rfl (lv_room (Nat.le_of_ble_eq_true rfl)) dX7_copy_6 ⟨Nat.le_refl _, Nat.le_refl _⟩) (fun b6 => ?_)
  refine lv_if_eq (tgt := 19) hx hb dX7_copy_9 (by decide) (fun c9 => ?_) (fun c9 => ?_)
  · replace hF := ip c9 hF
    refine lv_iconst (v := (-1)) hx hb dX7_copy_19 (by decide) ?_
    exact W.iret hx hb hr (fun t ht hW => ⟨⟨_, (), rfl, (Prod.mk.inj (Option.some.inj hF)).1, by show va_P _ _ _ t.heap; rw [ht, ← (Prod.mk.inj (Option.some.inj hF)).2]; exact hP⟩, hS.F ht⟩) hS.2.2 dX7_copy_20
  · replace hF := iq c9 hF
    refine lv_iload_n hx hb dX7_copy_12 rfl (lv_at hl 3 rfl) ?_
    obtain ⟨v13, h13, hF⟩ := bd hF
    refine cRb (va_runS (As := [.int x3]) (rest := []) ⟨hx, hb, hml, hown, hts⟩ (c_X7_isSheet l D cI cS x3 v13 h13) (cwSA hts (TW.cons _) ls_X7_isSheet ml_RX7_71 ⟨rfl, rfl⟩ ⟨(Nat.le_of_ble_eq_true rfl), (Nat.le_of_ble_eq_true rfl)⟩) (pRS hK pnil) rfl rfl hl.1 rfl (lv_room (Nat.le_of_ble_eq_true rfl)) dX7_copy_13 ⟨Nat.le_refl _, Nat.le_refl _⟩) (fun b13 => ?_)
    refine lv_if_ne (tgt := 21) hx hb dX7_copy_16 (by decide) (fun c16 => ?_) (fun c16 => ?_)
    · replace hF := iq c16 hF
      refine lv_aload_n hx hb dX7_copy_21 rfl (lv_at hl 0 rfl) ?_
      refine va_get (D := D) (ci := 6) (v := .ref (a0 1)) (C := RX7) (T := TX7) (N := 29) hx hb hts (fun w h => List.mem_cons_of_mem _ (inAX7 w h)) hown hK.1 hP 0 (at_M_0 cI cS _ _) rfl 2 (by decide) (hts _ (List.mem_cons_of_mem _ fl_RX7_9)) (fun _ h9 => h9) rfl dX7_copy_22 ?_
      refine lv_iload_n hx hb dX7_copy_25 rfl (lv_at hl 1 rfl) ?_
      obtain ⟨v26, h26, hF⟩ := bd hF
      refine rI hx hb hK.1 hP 1 0 (at_M_1 cI cS _ _) rfl h26 dX7_copy_26 ?_
      refine lv_bipush (v := (-9)) hx hb dX7_copy_27 (by decide) ?_
      refine lv_icmp_eq (tgt := 43) hx hb dX7_copy_29 (by decide) (fun c29 => ?_) (fun c29 => ?_)
      · replace hF := ip c29 hF
        refine lv_aload_n hx hb dX7_copy_43 rfl (lv_at hl 0 rfl) ?_
        refine lv_iconst (v := 1) hx hb dX7_copy_44 (by decide) ?_
        obtain ⟨v45, u45, h45, hF⟩ := bd2 hF
        refine cAe (ws' := pM cI cS a0 u45) (va_runV (As := [.int 1]) (rest := []) ⟨hx, hb, hml, hown, hts⟩ (c_X7_fails l D cI cS a0 (st t0 0 0 0) 1 v45 u45 h45) (cwVA hts (TW.cons _) lv_X7_fails ml_RX7_82 ⟨rfl, rfl⟩ ⟨(Nat.le_of_ble_eq_true rfl), (Nat.le_of_ble_eq_true rfl)⟩) (pWV hK hP hD (ci := 6) rfl rfl) rfl rfl hl.1 rfl (lv_room (Nat.le_of_ble_eq_true rfl)) dX7_copy_45 ⟨Nat.le_refl _, Nat.le_refl _⟩) hD hS (ad_M cI cS _ _ _) (fun H locs hP hD hS => ?_)
        exact W.iret hx hb hr (fun t ht hW => ⟨⟨_, (), rfl, (Prod.mk.inj (Option.some.inj hF)).1, by show va_P _ _ _ t.heap; rw [ht, ← (Prod.mk.inj (Option.some.inj hF)).2]; exact hP⟩, hS.F ht⟩) hS.2.2 dX7_copy_48
      · replace hF := iq c29 hF
        refine lv_aload_n hx hb dX7_copy_32 rfl (lv_at hl 0 rfl) ?_
        refine va_get (D := D) (ci := 6) (v := .ref (a0 1)) (C := RX7) (T := TX7) (N := 29) hx hb hts (fun w h => List.mem_cons_of_mem _ (inAX7 w h)) hown hK.1 hP 0 (at_M_0 cI cS _ _) rfl 2 (by decide) (hts _ (List.mem_cons_of_mem _ fl_RX7_9)) (fun _ h9 => h9) rfl dX7_copy_33 ?_
        refine lv_iload_n hx hb dX7_copy_36 rfl (lv_at hl 3 rfl) ?_
        obtain ⟨v37, h37, hF⟩ := bd hF
        refine rI hx hb hK.1 hP 1 0 (at_M_1 cI cS _ _) rfl h37 dX7_copy_37 ?_
        refine lv_bipush (v := (-9)) hx hb dX7_copy_38 (by decide) ?_
        refine lv_icmp_ne (tgt := 49) hx hb dX7_copy_40 (by decide) (fun c40 => ?_) (fun c40 => ?_)
        · replace hF := iq c40 hF
          refine lv_aload_n hx hb dX7_copy_49 rfl (lv_at hl 0 rfl) ?_
          refine va_get (D := D) (ci := 6) (v := .ref (a0 1)) (C := RX7) (T := TX7) (N := 29) hx hb hts (fun w h => List.mem_cons_of_mem _ (inAX7 w h)) hown hK.1 hP 0 (at_M_0 cI cS _ _) rfl 2 (by decide) (hts _ (List.mem_cons_of_mem _ fl_RX7_9)) (fun _ h9 => h9) rfl dX7_copy_50 ?_
          refine lv_iload_n hx hb dX7_copy_53 rfl (lv_at hl 1 rfl) ?_
          obtain ⟨v54, h54, hF⟩ := bd hF
          refine rI hx hb hK.1 hP 1 0 (at_M_1 cI cS _ _) rfl h54 dX7_copy_54 ?_
          refine lv_aload_n hx hb dX7_copy_55 rfl (lv_at hl 0 rfl) ?_
          refine va_get (D := D) (ci := 6) (v := .ref (a0 1)) (C := RX7) (T := TX7) (N := 29) hx hb hts (fun w h => List.mem_cons_of_mem _ (inAX7 w h)) hown hK.1 hP 0 (at_M_0 cI cS _ _) rfl 2 (by decide) (hts _ (List.mem_cons_of_mem _ fl_RX7_9)) (fun _ h9 => h9) rfl dX7_copy_56 ?_
          refine lv_iload_n hx hb dX7_copy_59 rfl (lv_at hl 3 rfl) ?_
          obtain ⟨v60, h60, hF⟩ := bd hF
          refine rI hx hb hK.1 hP 1 0 (at_M_1 cI cS _ _) rfl h60 dX7_copy_60 ?_
          refine lv_icmp_eq (tgt := 70) hx hb dX7_copy_61 (by decide) (fun c61 => ?_) (fun c61 => ?_)
          · replace hF := ip c61 hF
            refine lv_iload_n hx hb dX7_copy_70 rfl (lv_at hl 2 rfl) ?_
            have J110 : ∀ (s0_110 : ST) (z0_110 : Int32) (H : Heap) (locs : List Loc) (ls : Array Slot), va_P D vwCl (pM cI cS a0 s0_110) H → va_D (AD (pM cI cS a0 t0)) (pM cI cS a0 s0_110) → va_S (AD (pM cI cS a0 t0)) s.heap H locs → lv_has ls 10 [(0, .ref (a0 0)), (1, .int x1), (2, .int x2), (3, .int x3), (4, .int x4), (5, .int x5)] → F_X7_copy_J110 x1 x2 x3 x4 x5 s0_110 z0_110 = some (r, t') → W p l e rm_X7_copy s m [.ref (a0 0), .int x1, .int x2, .int x3, .int x4, .int x5].toArray below meth c H locs 0 0 (MQ below (va_Qi (fun x (_ : Unit) => x = r) (fun _ t => va_P D vwCl (pM cI cS a0 t') t.heap) (AD (pM cI cS a0 t0))) [.ref (a0 0), .int x1, .int x2, .int x3, .int x4, .int x5].toArray s 0 0 (AD (pM cI cS a0 t0))) (F0 m 110 ls [.int z0_110]) := by
              intro s0_110 z0_110 H locs ls hP hD hS hl hF
              unfold F_X7_copy_J110 at hF
              refine lv_istore (lv' := [(6, .int z0_110), (0, .ref (a0 0)), (1, .int x1), (2, .int x2), (3, .int x3), (4, .int x4), (5, .int x5)]) hx hb dX7_copy_110 hl (by decide) rfl (fun ls hl => ?_)
              refine lv_iload hx hb dX7_copy_112 (lv_at hl 0 rfl) ?_
              refine lv_if_eq (tgt := 144) hx hb dX7_copy_114 (by decide) (fun c114 => ?_) (fun c114 => ?_)
              · replace hF := ip c114 hF
                refine lv_aload_n hx hb dX7_copy_144 rfl (lv_at hl 1 rfl) ?_
                refine lv_iconst (v := 3) hx hb dX7_copy_145 (by decide) ?_
                obtain ⟨v146, u146, h146, hF⟩ := bd2 hF
                refine cAe (ws' := pM cI cS a0 u146) (va_runV (As := [.int 3]) (rest := []) ⟨hx, hb, hml, hown, hts⟩ (c_X7_fails l D cI cS a0 s0_110 3 v146 u146 h146) (cwVA hts (TW.cons _) lv_X7_fails ml_RX7_82 ⟨rfl, rfl⟩ ⟨(Nat.le_of_ble_eq_true rfl), (Nat.le_of_ble_eq_true rfl)⟩) (pWV hK hP hD (ci := 6) rfl rfl) rfl rfl hl.1 rfl (lv_room (Nat.le_of_ble_eq_true rfl)) dX7_copy_146 ⟨Nat.le_refl _, Nat.le_refl _⟩) hD hS (ad_M cI cS _ _ _) (fun H locs hP hD hS => ?_)
                exact W.iret hx hb hr (fun t ht hW => ⟨⟨_, (), rfl, (Prod.mk.inj (Option.some.inj hF)).1, by show va_P _ _ _ t.heap; rw [ht, ← (Prod.mk.inj (Option.some.inj hF)).2]; exact hP⟩, hS.F ht⟩) hS.2.2 dX7_copy_149
              · replace hF := iq c114 hF
                refine lv_iload hx hb dX7_copy_117 (lv_at hl 6 rfl) ?_
                refine lv_aload_n hx hb dX7_copy_119 rfl (lv_at hl 1 rfl) ?_
                refine va_get (D := D) (ci := 6) (v := .ref (a0 2)) (C := RX7) (T := TX7) (N := 29) hx hb hts (fun w h => List.mem_cons_of_mem _ (inAX7 w h)) hown hK.1 hP 0 (at_M_0 cI cS _ _) rfl 3 (by decide) (hts _ (List.mem_cons_of_mem _ fl_RX7_13)) (fun _ h9 => h9) rfl dX7_copy_120 ?_
                refine lv_iload_n hx hb dX7_copy_123 rfl (lv_at hl 2 rfl) ?_
                obtain ⟨v124, h124, hF⟩ := bd hF
                refine rI hx hb hK.1 hP 2 0 (at_M_2 cI cS _ _) rfl h124 dX7_copy_124 ?_
                refine lv_iload_n hx hb dX7_copy_125 rfl (lv_at hl 3 rfl) ?_
                refine lv_isub hx hb dX7_copy_126 ?_
                refine lv_icmp_gt (tgt := 144) hx hb dX7_copy_127 (by decide) (fun c127 => ?_) (fun c127 => ?_)
                · replace hF := ip c127 hF
                  refine lv_aload_n hx hb dX7_copy_144 rfl (lv_at hl 1 rfl) ?_
                  refine lv_iconst (v := 3) hx hb dX7_copy_145 (by decide) ?_
                  obtain ⟨v146, u146, h146, hF⟩ := bd2 hF
                  refine cAe (ws' := pM cI cS a0 u146) (va_runV (As := [.int 3]) (rest := []) ⟨hx, hb, hml, hown, hts⟩ (c_X7_fails l D cI cS a0 s0_110 3 v146 u146 h146) (cwVA hts (TW.cons _) lv_X7_fails ml_RX7_82 ⟨rfl, rfl⟩ ⟨(Nat.le_of_ble_eq_true rfl), (Nat.le_of_ble_eq_true rfl)⟩) (pWV hK hP hD (ci := 6) rfl rfl) rfl rfl hl.1 rfl (lv_room (Nat.le_of_ble_eq_true rfl)) dX7_copy_146 ⟨Nat.le_refl _, Nat.le_refl _⟩) hD hS (ad_M cI cS _ _ _) (fun H locs hP hD hS => ?_)
                  exact W.iret hx hb hr (fun t ht hW => ⟨⟨_, (), rfl, (Prod.mk.inj (Option.some.inj hF)).1, by show va_P _ _ _ t.heap; rw [ht, ← (Prod.mk.inj (Option.some.inj hF)).2]; exact hP⟩, hS.F ht⟩) hS.2.2 dX7_copy_149
                · replace hF := iq c127 hF
                  refine lv_iload hx hb dX7_copy_130 (lv_at hl 6 rfl) ?_
                  refine lv_aload_n hx hb dX7_copy_132 rfl (lv_at hl 1 rfl) ?_
                  refine va_get (D := D) (ci := 6) (v := .ref (a0 2)) (C := RX7) (T := TX7) (N := 29) hx hb hts (fun w h => List.mem_cons_of_mem _ (inAX7 w h)) hown hK.1 hP 0 (at_M_0 cI cS _ _) rfl 3 (by decide) (hts _ (List.mem_cons_of_mem _ fl_RX7_13)) (fun _ h9 => h9) rfl dX7_copy_133 ?_
                  refine lv_iload_n hx hb dX7_copy_136 rfl (lv_at hl 4 rfl) ?_
                  obtain ⟨v137, h137, hF⟩ := bd hF
                  refine rI hx hb hK.1 hP 2 0 (at_M_2 cI cS _ _) rfl h137 dX7_copy_137 ?_
                  refine lv_iload hx hb dX7_copy_138 (lv_at hl 5 rfl) ?_
                  refine lv_isub hx hb dX7_copy_140 ?_
                  refine lv_icmp_le (tgt := 150) hx hb dX7_copy_141 (by decide) (fun c141 => ?_) (fun c141 => ?_)
                  · replace hF := ip c141 hF
                    refine lv_iload_n hx hb dX7_copy_150 rfl (lv_at hl 3 rfl) ?_
                    refine lv_iload hx hb dX7_copy_151 (lv_at hl 5 rfl) ?_
                    have J161 : ∀ (s0_161 : ST) (z0_161 : Int32) (H : Heap) (locs : List Loc) (ls : Array Slot), va_P D vwCl (pM cI cS a0 s0_161) H → va_D (AD (pM cI cS a0 t0)) (pM cI cS a0 s0_161) → va_S (AD (pM cI cS a0 t0)) s.heap H locs → lv_has ls 10 [(0, .ref (a0 0)), (1, .int x1), (2, .int x2), (3, .int x3), (4, .int x4), (5, .int x5)] → F_X7_copy_J161 x1 x2 x3 x4 x5 s0_161 z0_161 = some (r, t') → W p l e rm_X7_copy s m [.ref (a0 0), .int x1, .int x2, .int x3, .int x4, .int x5].toArray below meth c H locs 0 0 (MQ below (va_Qi (fun x (_ : Unit) => x = r) (fun _ t => va_P D vwCl (pM cI cS a0 t') t.heap) (AD (pM cI cS a0 t0))) [.ref (a0 0), .int x1, .int x2, .int x3, .int x4, .int x5].toArray s 0 0 (AD (pM cI cS a0 t0))) (F0 m 161 ls [.int z0_161]) := by
                      intro s0_161 z0_161 H locs ls hP hD hS hl hF
                      unfold F_X7_copy_J161 at hF
                      refine lv_istore (lv' := [(7, .int z0_161), (0, .ref (a0 0)), (1, .int x1), (2, .int x2), (3, .int x3), (4, .int x4), (5, .int x5)]) hx hb dX7_copy_161 hl (by decide) rfl (fun ls hl => ?_)
                      refine lv_iconst (v := 0) hx hb dX7_copy_163 (by decide) ?_
                      refine lv_istore (lv' := [(8, .int 0), (7, .int z0_161), (0, .ref (a0 0)), (1, .int x1), (2, .int x2), (3, .int x3), (4, .int x4), (5, .int x5)]) hx hb dX7_copy_164 hl (by decide) rfl (fun ls hl => ?_)
                      have L166 : ∀ (n_166 : Nat) (x8_166 : Int32) (s0_166 : ST) (H : Heap) (locs : List Loc) (ls : Array Slot), va_P D vwCl (pM cI cS a0 s0_166) H → va_D (AD (pM cI cS a0 t0)) (pM cI cS a0 s0_166) → va_S (AD (pM cI cS a0 t0)) s.heap H locs → lv_has ls 10 [(0, .ref (a0 0)), (1, .int x1), (2, .int x2), (3, .int x3), (4, .int x4), (5, .int x5), (7, .int z0_161), (8, .int x8_166)] → F_X7_copy_L166 x1 x2 x3 x4 x5 z0_161 (fun x8_k166 s0_k166 => F_X7_copy_J227 x1 x2 x3 x4 x5 s0_k166) n_166 x8_166 s0_166 = some (r, t') → W p l e rm_X7_copy s m [.ref (a0 0), .int x1, .int x2, .int x3, .int x4, .int x5].toArray below meth c H locs 0 0 (MQ below (va_Qi (fun x (_ : Unit) => x = r) (fun _ t => va_P D vwCl (pM cI cS a0 t') t.heap) (AD (pM cI cS a0 t0))) [.ref (a0 0), .int x1, .int x2, .int x3, .int x4, .int x5].toArray s 0 0 (AD (pM cI cS a0 t0))) (F0 m 166 ls []) := by
                        intro n_166
                        induction n_166 with
                        | zero => intro x8_166 s0_166 H locs ls hP hD hS hl hF; exact nomatch hF
                        | succ n_166 ih166 =>
                          intro x8_166 s0_166 H locs ls hP hD hS hl hF
                          rw [F_X7_copy_L166.eq_2] at hF
                          refine lv_iload hx hb dX7_copy_166 (lv_at hl 7 rfl) ?_
                          refine lv_iload hx hb dX7_copy_168 (lv_at hl 5 rfl) ?_
                          refine lv_icmp_ge (tgt := 227) hx hb dX7_copy_170 (by decide) (fun c170 => ?_) (fun c170 => ?_)
                          · replace hF := ip c170 hF
                            have hF : F_X7_copy_J227 x1 x2 x3 x4 x5 s0_166 = some (r, t') := hF
                            unfold F_X7_copy_J227 at hF
                            refine lv_iload hx hb dX7_copy_227 (lv_at hl 5 rfl) ?_
                            exact W.iret hx hb hr (fun t ht hW => ⟨⟨_, (), rfl, (Prod.mk.inj (Option.some.inj hF)).1, by show va_P _ _ _ t.heap; rw [ht, ← (Prod.mk.inj (Option.some.inj hF)).2]; exact hP⟩, hS.F ht⟩) hS.2.2 dX7_copy_229
                          · replace hF := iq c170 hF
                            refine lv_iload hx hb dX7_copy_173 (lv_at hl 6 rfl) ?_
                            have J190 : ∀ (x8_190 : Int32) (s0_190 : ST) (z0_190 : Int32) (H : Heap) (locs : List Loc) (ls : Array Slot), va_P D vwCl (pM cI cS a0 s0_190) H → va_D (AD (pM cI cS a0 t0)) (pM cI cS a0 s0_190) → va_S (AD (pM cI cS a0 t0)) s.heap H locs → lv_has ls 10 [(0, .ref (a0 0)), (1, .int x1), (2, .int x2), (3, .int x3), (4, .int x4), (5, .int x5), (7, .int z0_161), (8, .int x8_190)] → F_X7_copy_J190 x1 x2 x3 x4 x5 (F_X7_copy_L166 x1 x2 x3 x4 x5 z0_161 (fun x8_k166 s0_k166 => F_X7_copy_J227 x1 x2 x3 x4 x5 s0_k166) n_166) (fun x8_k166 s0_k166 => F_X7_copy_J227 x1 x2 x3 x4 x5 s0_k166) z0_161 x8_190 s0_190 z0_190 = some (r, t') → W p l e rm_X7_copy s m [.ref (a0 0), .int x1, .int x2, .int x3, .int x4, .int x5].toArray below meth c H locs 0 0 (MQ below (va_Qi (fun x (_ : Unit) => x = r) (fun _ t => va_P D vwCl (pM cI cS a0 t') t.heap) (AD (pM cI cS a0 t0))) [.ref (a0 0), .int x1, .int x2, .int x3, .int x4, .int x5].toArray s 0 0 (AD (pM cI cS a0 t0))) (F0 m 190 ls [.int z0_190]) := by
                              intro x8_190 s0_190 z0_190 H locs ls hP hD hS hl hF
                              unfold F_X7_copy_J190 at hF
                              refine lv_istore (lv' := [(9, .int z0_190), (0, .ref (a0 0)), (1, .int x1), (2, .int x2), (3, .int x3), (4, .int x4), (5, .int x5), (7, .int z0_161), (8, .int x8_190)]) hx hb dX7_copy_190 hl (by decide) rfl (fun ls hl => ?_)
                              refine lv_aload_n hx hb dX7_copy_192 rfl (lv_at hl 1 rfl) ?_
                              refine va_get (D := D) (ci := 6) (v := .ref (a0 3)) (C := RX7) (T := TX7) (N := 29) hx hb hts (fun w h => List.mem_cons_of_mem _ (inAX7 w h)) hown hK.1 hP 0 (at_M_0 cI cS _ _) rfl 4 (by decide) (hts _ (List.mem_cons_of_mem _ fl_RX7_16)) (fun _ h9 => h9) rfl dX7_copy_193 ?_
                              refine lv_bipush (v := 60) hx hb dX7_copy_196 (by decide) ?_
                              refine lv_iload_n hx hb dX7_copy_198 rfl (lv_at hl 4 rfl) ?_
                              refine lv_imul hx hb dX7_copy_199 ?_
                              refine lv_iload hx hb dX7_copy_200 (lv_at hl 5 rfl) ?_
                              refine lv_iadd hx hb dX7_copy_202 ?_
                              refine lv_iload hx hb dX7_copy_203 (lv_at hl 0 rfl) ?_
                              refine lv_iadd hx hb dX7_copy_205 ?_
                              refine lv_aload_n hx hb dX7_copy_206 rfl (lv_at hl 1 rfl) ?_
                              refine va_get (D := D) (ci := 6) (v := .ref (a0 3)) (C := RX7) (T := TX7) (N := 29) hx hb hts (fun w h => List.mem_cons_of_mem _ (inAX7 w h)) hown hK.1 hP 0 (at_M_0 cI cS _ _) rfl 4 (by decide) (hts _ (List.mem_cons_of_mem _ fl_RX7_16)) (fun _ h9 => h9) rfl dX7_copy_207 ?_
                              refine lv_bipush (v := 60) hx hb dX7_copy_210 (by decide) ?_
                              refine lv_iload_n hx hb dX7_copy_212 rfl (lv_at hl 2 rfl) ?_
                              refine lv_imul hx hb dX7_copy_213 ?_
                              refine lv_iload_n hx hb dX7_copy_214 rfl (lv_at hl 3 rfl) ?_
                              refine lv_iadd hx hb dX7_copy_215 ?_
                              refine lv_iload hx hb dX7_copy_216 (lv_at hl 0 rfl) ?_
                              refine lv_iadd hx hb dX7_copy_218 ?_
                              obtain ⟨v219, h219, hF⟩ := bd hF
                              refine rI hx hb hK.1 hP 3 0 (at_M_3 cI cS _ _) rfl h219 dX7_copy_219 ?_
                              obtain ⟨k220, h220, hF⟩ := bd hF
                              refine wI (ws' := pM cI cS a0 (st s0_190 3 k220 v219)) hx hb hK.1 hP hD hS 3 0 (at_M_3 cI cS _ _) rfl h220 (sw_M_3 cI cS _ _ _ _) dX7_copy_220 (fun H locs hP hD hS => ?_)
                              refine lv_iinc (v := (x8_190 + 1)) (lv' := [(8, .int (x8_190 + 1)), (9, .int z0_190), (0, .ref (a0 0)), (1, .int x1), (2, .int x2), (3, .int x3), (4, .int x4), (5, .int x5), (7, .int z0_161)]) hx hb dX7_copy_221 hl (k := 8) rfl rfl (by decide) rfl (fun ls hl => ?_)
                              refine lv_goto (tgt := 166) hx hb dX7_copy_224 (by decide) ?_
                              exact ih166 (x8_190 + 1) (st s0_190 3 k220 v219) _ _ _ hP hD hS (lv_sub hl [2, 3, 4, 5, 6, 7, 8, 0] rfl) hF
                            refine lv_if_eq (tgt := 188) hx hb dX7_copy_175 (by decide) (fun c175 => ?_) (fun c175 => ?_)
                            · replace hF := ip c175 hF
                              refine lv_iload hx hb dX7_copy_188 (lv_at hl 7 rfl) ?_
                              exact J190 x8_166 s0_166 x8_166 _ _ _ hP hD hS (lv_sub hl [0, 1, 2, 3, 4, 5, 6, 7] rfl) hF
                            · replace hF := iq c175 hF
                              refine lv_iload hx hb dX7_copy_178 (lv_at hl 5 rfl) ?_
                              refine lv_iconst (v := 1) hx hb dX7_copy_180 (by decide) ?_
                              refine lv_isub hx hb dX7_copy_181 ?_
                              refine lv_iload hx hb dX7_copy_182 (lv_at hl 7 rfl) ?_
                              refine lv_isub hx hb dX7_copy_184 ?_
                              refine lv_goto (tgt := 190) hx hb dX7_copy_185 (by decide) ?_
                              exact J190 x8_166 s0_166 ((x5 - 1) - x8_166) _ _ _ hP hD hS (lv_sub hl [0, 1, 2, 3, 4, 5, 6, 7] rfl) hF
                      exact L166 1000 0 s0_161 _ _ _ hP hD hS (lv_sub hl [2, 3, 4, 5, 6, 7, 1, 0] rfl) hF
                    refine lv_icmp_ge (tgt := 160) hx hb dX7_copy_153 (by decide) (fun c153 => ?_) (fun c153 => ?_)
                    · replace hF := ip c153 hF
                      refine lv_iconst (v := 0) hx hb dX7_copy_160 (by decide) ?_
                      exact J161 s0_110 0 _ _ _ hP hD hS (lv_sub hl [1, 2, 3, 4, 5, 6] rfl) hF
                    · replace hF := iq c153 hF
                      refine lv_iconst (v := 1) hx hb dX7_copy_156 (by decide) ?_
                      refine lv_goto (tgt := 161) hx hb dX7_copy_157 (by decide) ?_
                      exact J161 s0_110 1 _ _ _ hP hD hS (lv_sub hl [1, 2, 3, 4, 5, 6] rfl) hF
                  · replace hF := iq c141 hF
                    refine lv_aload_n hx hb dX7_copy_144 rfl (lv_at hl 1 rfl) ?_
                    refine lv_iconst (v := 3) hx hb dX7_copy_145 (by decide) ?_
                    obtain ⟨v146, u146, h146, hF⟩ := bd2 hF
                    refine cAe (ws' := pM cI cS a0 u146) (va_runV (As := [.int 3]) (rest := []) ⟨hx, hb, hml, hown, hts⟩ (c_X7_fails l D cI cS a0 s0_110 3 v146 u146 h146) (cwVA hts (TW.cons _) lv_X7_fails ml_RX7_82 ⟨rfl, rfl⟩ ⟨(Nat.le_of_ble_eq_true rfl), (Nat.le_of_ble_eq_true rfl)⟩) (pWV hK hP hD (ci := 6) rfl rfl) rfl rfl hl.1 rfl (lv_room (Nat.le_of_ble_eq_true rfl)) dX7_copy_146 ⟨Nat.le_refl _, Nat.le_refl _⟩) hD hS (ad_M cI cS _ _ _) (fun H locs hP hD hS => ?_)
                    exact W.iret hx hb hr (fun t ht hW => ⟨⟨_, (), rfl, (Prod.mk.inj (Option.some.inj hF)).1, by show va_P _ _ _ t.heap; rw [ht, ← (Prod.mk.inj (Option.some.inj hF)).2]; exact hP⟩, hS.F ht⟩) hS.2.2 dX7_copy_149
            have J109 : ∀ (s0_109 : ST) (H : Heap) (locs : List Loc) (ls : Array Slot), va_P D vwCl (pM cI cS a0 s0_109) H → va_D (AD (pM cI cS a0 t0)) (pM cI cS a0 s0_109) → va_S (AD (pM cI cS a0 t0)) s.heap H locs → lv_has ls 10 [(0, .ref (a0 0)), (1, .int x1), (2, .int x2), (3, .int x3), (4, .int x4), (5, .int x5)] → F_X7_copy_J109 x1 x2 x3 x4 x5 s0_109 = some (r, t') → W p l e rm_X7_copy s m [.ref (a0 0), .int x1, .int x2, .int x3, .int x4, .int x5].toArray below meth c H locs 0 0 (MQ below (va_Qi (fun x (_ : Unit) => x = r) (fun _ t => va_P D vwCl (pM cI cS a0 t') t.heap) (AD (pM cI cS a0 t0))) [.ref (a0 0), .int x1, .int x2, .int x3, .int x4, .int x5].toArray s 0 0 (AD (pM cI cS a0 t0))) (F0 m 109 ls []) := by
              intro s0_109 H locs ls hP hD hS hl hF
              unfold F_X7_copy_J109 at hF
              refine lv_iconst (v := 0) hx hb dX7_copy_109 (by decide) ?_
              exact J110 s0_109 0 _ _ _ hP hD hS (lv_sub hl [0, 1, 2, 3, 4, 5] rfl) hF
            refine lv_if_lt (tgt := 109) hx hb dX7_copy_71 (by decide) (fun c71 => ?_) (fun c71 => ?_)
            · replace hF := ip c71 hF
              exact J109 (st t0 0 0 0) _ _ _ hP hD hS (lv_sub hl [0, 1, 2, 3, 4, 5] rfl) hF
            · replace hF := iq c71 hF
              refine lv_iload hx hb dX7_copy_74 (lv_at hl 4 rfl) ?_
              refine lv_if_lt (tgt := 109) hx hb dX7_copy_76 (by decide) (fun c76 => ?_) (fun c76 => ?_)
              · replace hF := ip c76 hF
                exact J109 (st t0 0 0 0) _ _ _ hP hD hS (lv_sub hl [0, 1, 2, 3, 4, 5] rfl) hF
              · replace hF := iq c76 hF
                refine lv_iload hx hb dX7_copy_79 (lv_at hl 5 rfl) ?_
                refine lv_if_lt (tgt := 109) hx hb dX7_copy_81 (by decide) (fun c81 => ?_) (fun c81 => ?_)
                · replace hF := ip c81 hF
                  exact J109 (st t0 0 0 0) _ _ _ hP hD hS (lv_sub hl [0, 1, 2, 3, 4, 5] rfl) hF
                · replace hF := iq c81 hF
                  refine lv_iload_n hx hb dX7_copy_84 rfl (lv_at hl 2 rfl) ?_
                  refine lv_aload_n hx hb dX7_copy_85 rfl (lv_at hl 0 rfl) ?_
                  refine va_get (D := D) (ci := 6) (v := .ref (a0 2)) (C := RX7) (T := TX7) (N := 29) hx hb hts (fun w h => List.mem_cons_of_mem _ (inAX7 w h)) hown hK.1 hP 0 (at_M_0 cI cS _ _) rfl 3 (by decide) (hts _ (List.mem_cons_of_mem _ fl_RX7_13)) (fun _ h9 => h9) rfl dX7_copy_86 ?_
                  refine lv_iload_n hx hb dX7_copy_89 rfl (lv_at hl 1 rfl) ?_
                  obtain ⟨v90, h90, hF⟩ := bd hF
                  refine rI hx hb hK.1 hP 2 0 (at_M_2 cI cS _ _) rfl h90 dX7_copy_90 ?_
                  refine lv_icmp_gt (tgt := 109) hx hb dX7_copy_91 (by decide) (fun c91 => ?_) (fun c91 => ?_)
                  · replace hF := ip c91 hF
                    exact J109 (st t0 0 0 0) _ _ _ hP hD hS (lv_sub hl [0, 1, 2, 3, 4, 5] rfl) hF
                  · replace hF := iq c91 hF
                    refine lv_iload hx hb dX7_copy_94 (lv_at hl 4 rfl) ?_
                    refine lv_aload_n hx hb dX7_copy_96 rfl (lv_at hl 0 rfl) ?_
                    refine va_get (D := D) (ci := 6) (v := .ref (a0 2)) (C := RX7) (T := TX7) (N := 29) hx hb hts (fun w h => List.mem_cons_of_mem _ (inAX7 w h)) hown hK.1 hP 0 (at_M_0 cI cS _ _) rfl 3 (by decide) (hts _ (List.mem_cons_of_mem _ fl_RX7_13)) (fun _ h9 => h9) rfl dX7_copy_97 ?_
                    refine lv_iload_n hx hb dX7_copy_100 rfl (lv_at hl 3 rfl) ?_
                    obtain ⟨v101, h101, hF⟩ := bd hF
                    refine rI hx hb hK.1 hP 2 0 (at_M_2 cI cS _ _) rfl h101 dX7_copy_101 ?_
                    refine lv_icmp_gt (tgt := 109) hx hb dX7_copy_102 (by decide) (fun c102 => ?_) (fun c102 => ?_)
                    · replace hF := ip c102 hF
                      exact J109 (st t0 0 0 0) _ _ _ hP hD hS (lv_sub hl [0, 1, 2, 3, 4, 5] rfl) hF
                    · replace hF := iq c102 hF
                      refine lv_iconst (v := 1) hx hb dX7_copy_105 (by decide) ?_
                      refine lv_goto (tgt := 110) hx hb dX7_copy_106 (by decide) ?_
                      exact J110 (st t0 0 0 0) 1 _ _ _ hP hD hS (lv_sub hl [0, 1, 2, 3, 4, 5] rfl) hF
          · replace hF := iq c61 hF
            refine lv_aload_n hx hb dX7_copy_64 rfl (lv_at hl 0 rfl) ?_
            refine lv_iconst (v := 2) hx hb dX7_copy_65 (by decide) ?_
            obtain ⟨v66, u66, h66, hF⟩ := bd2 hF
            refine cAe (ws' := pM cI cS a0 u66) (va_runV (As := [.int 2]) (rest := []) ⟨hx, hb, hml, hown, hts⟩ (c_X7_fails l D cI cS a0 (st t0 0 0 0) 2 v66 u66 h66) (cwVA hts (TW.cons _) lv_X7_fails ml_RX7_82 ⟨rfl, rfl⟩ ⟨(Nat.le_of_ble_eq_true rfl), (Nat.le_of_ble_eq_true rfl)⟩) (pWV hK hP hD (ci := 6) rfl rfl) rfl rfl hl.1 rfl (lv_room (Nat.le_of_ble_eq_true rfl)) dX7_copy_66 ⟨Nat.le_refl _, Nat.le_refl _⟩) hD hS (ad_M cI cS _ _ _) (fun H locs hP hD hS => ?_)
            exact W.iret hx hb hr (fun t ht hW => ⟨⟨_, (), rfl, (Prod.mk.inj (Option.some.inj hF)).1, by show va_P _ _ _ t.heap; rw [ht, ← (Prod.mk.inj (Option.some.inj hF)).2]; exact hP⟩, hS.F ht⟩) hS.2.2 dX7_copy_69
        · replace hF := ip c40 hF
          refine lv_aload_n hx hb dX7_copy_43 rfl (lv_at hl 0 rfl) ?_
          refine lv_iconst (v := 1) hx hb dX7_copy_44 (by decide) ?_
          obtain ⟨v45, u45, h45, hF⟩ := bd2 hF
          refine cAe (ws' := pM cI cS a0 u45) (va_runV (As := [.int 1]) (rest := []) ⟨hx, hb, hml, hown, hts⟩ (c_X7_fails l D cI cS a0 (st t0 0 0 0) 1 v45 u45 h45) (cwVA hts (TW.cons _) lv_X7_fails ml_RX7_82 ⟨rfl, rfl⟩ ⟨(Nat.le_of_ble_eq_true rfl), (Nat.le_of_ble_eq_true rfl)⟩) (pWV hK hP hD (ci := 6) rfl rfl) rfl rfl hl.1 rfl (lv_room (Nat.le_of_ble_eq_true rfl)) dX7_copy_45 ⟨Nat.le_refl _, Nat.le_refl _⟩) hD hS (ad_M cI cS _ _ _) (fun H locs hP hD hS => ?_)
          exact W.iret hx hb hr (fun t ht hW => ⟨⟨_, (), rfl, (Prod.mk.inj (Option.some.inj hF)).1, by show va_P _ _ _ t.heap; rw [ht, ← (Prod.mk.inj (Option.some.inj hF)).2]; exact hP⟩, hS.F ht⟩) hS.2.2 dX7_copy_48
    · replace hF := ip c16 hF
      refine lv_iconst (v := (-1)) hx hb dX7_copy_19 (by decide) ?_
      exact W.iret hx hb hr (fun t ht hW => ⟨⟨_, (), rfl, (Prod.mk.inj (Option.some.inj hF)).1, by show va_P _ _ _ t.heap; rw [ht, ← (Prod.mk.inj (Option.some.inj hF)).2]; exact hP⟩, hS.F ht⟩) hS.2.2 dX7_copy_20
noncomputable def F_X7_begins (t0 : ST) (x1 : Int32) : Option ST :=
  some (st t0 0 1 ((31 * (t0 0 1)) + x1))
abbrev rm_X7_begins : Room := { frames := 0, cells := 0, slots := 0, locals := 0 }
set_option maxHeartbeats 4000000 in
set_option maxRecDepth 100000 in
theorem c_X7_begins (l : Launch) (D : va_G) (cI cS : ClassId) (a0 : Nat → Nat) (t0 : ST) (x1 : Int32) (t' : ST) (hF : F_X7_begins t0 x1 = some t') : Met l yX7_begins (Cond.code yX7_begins cX7_begins 2 none :: ALL) rm_X7_begins (PreW D cI cS [.ref (a0 0), .int x1] (pM cI cS a0 t0)) (va_Qv (fun (_ : Unit) => True) (fun _ t => va_P D vwCl (pM cI cS a0 t') t.heap) (AD (pM cI cS a0 t0))) 0 0 (AD (pM cI cS a0 t0)) := by
  refine mW l D cI cS (by decide) (Nat.le_of_ble_eq_true rfl) ?_
  intro p e s m below meth c ls hx hb hr hml hown hts hlocks hP hK hD hS hl
  have hown : s.vm.findClass RX7 = some m.cls := hown
  have hl : lv_has ls 2 [(0, .ref (a0 0)), (1, .int x1)] := hl
  unfold F_X7_begins at hF
  refine lv_aload_n hx hb dX7_begins_0 rfl (lv_at hl 0 rfl) ?_
  refine lv_bipush (v := 31) hx hb dX7_begins_1 (by decide) ?_
  refine lv_aload_n hx hb dX7_begins_3 rfl (lv_at hl 0 rfl) ?_
  refine va_get (D := D) (ci := 6) (v := .int (t0 0 1)) (C := RX7) (T := TX7) (N := 29) hx hb hts (fun w h => List.mem_cons_of_mem _ (inAX7 w h)) hown hK.1 hP 0 (at_M_0 cI cS _ _) rfl 1 (by decide) (hts _ (List.mem_cons_of_mem _ fl_RX7_212)) (fun _ h9 => h9) rfl dX7_begins_4 ?_
  refine lv_imul hx hb dX7_begins_7 ?_
  refine lv_iload_n hx hb dX7_begins_8 rfl (lv_at hl 1 rfl) ?_
  refine lv_iadd hx hb dX7_begins_9 ?_
  refine wF (ws' := pM cI cS a0 (st t0 0 1 ((31 * (t0 0 1)) + x1))) (C := RX7) (T := TX7) (N := 29) hx hb hts (fun w h => List.mem_cons_of_mem _ (inAX7 w h)) tyX7 tyX7_ok nmX7 hown hK.1 hP hD hS 0 (at_M_0 cI cS _ _) rfl 1 (by decide) (hts _ (List.mem_cons_of_mem _ fl_RX7_212)) rfl (tyX7_ok 1 (by decide)) rfl rfl (Nat.le_of_ble_eq_true rfl) (sf_M_0_1 cI cS _ _ _) dX7_begins_10 (fun H locs hP hD hS => ?_)
  exact W.vret hx hb hr (fun t ht hW => ⟨⟨(), rfl, trivial, by show va_P _ _ _ t.heap; rw [ht, ← (Option.some.inj hF)]; exact hP⟩, hS.F ht⟩) hS.2.2 dX7_begins_13
noncomputable def F_X7_tell (t0 : ST) (x1 : Int32) : Option (Int32 × ST) :=
  (F_X7_isBlock t0 x1).bind fun v2 =>
  if v2 = 0 then
    some ((-1), t0)
  else
  (rd 6 (t0 7) x1).bind fun v15 =>
  (rd 6 (t0 5) x1).bind fun v22 =>
  if v22 = 1 then
    (F_X7_begins t0 2).bind fun u50 =>
    (F_X7_begins u50 1).bind fun u55 =>
    some ((v15 + 100), u55)
  else
  if v22 = 2 then
    (F_X7_begins t0 3).bind fun u65 =>
    (F_X7_begins u65 2).bind fun u70 =>
    (F_X7_begins u70 1).bind fun u75 =>
    (F_X7_begins u75 1).bind fun u80 =>
    some (((2 * v15) + 100), u80)
  else
  (F_X7_begins t0 1).bind fun u92 =>
  some (v15, u92)
abbrev rm_X7_tell : Room := { frames := 1, cells := 0, slots := 0, locals := 21 }
set_option maxHeartbeats 4000000 in
set_option maxRecDepth 100000 in
theorem c_X7_tell (l : Launch) (D : va_G) (cI cS : ClassId) (a0 : Nat → Nat) (t0 : ST) (x1 : Int32) (r : Int32) (t' : ST) (hF : F_X7_tell t0 x1 = some (r, t')) : Met l yX7_tell (Cond.code yX7_tell cX7_tell 3 (some .int) :: ALL) rm_X7_tell (PreW D cI cS [.ref (a0 0), .int x1] (pM cI cS a0 t0)) (va_Qi (fun x (_ : Unit) => x = r) (fun _ t => va_P D vwCl (pM cI cS a0 t') t.heap) (AD (pM cI cS a0 t0))) 0 0 (AD (pM cI cS a0 t0)) := by
  refine mW l D cI cS (by decide) (Nat.le_of_ble_eq_true rfl) ?_
  intro p e s m below meth c ls hx hb hr hml hown hts hlocks hP hK hD hS hl
  have hown : s.vm.findClass RX7 = some m.cls := hown
  have hl : lv_has ls 3 [(0, .ref (a0 0)), (1, .int x1)] := hl
  unfold F_X7_tell at hF
  refine lv_aload_n hx hb dX7_tell_0 rfl (lv_at hl 0 rfl) ?_
  refine lv_iload_n hx hb dX7_tell_1 rfl (lv_at hl 1 rfl) ?_
  obtain ⟨v2, h2, hF⟩ := bd hF
  refine cRb (va_runV (As := [.int x1]) (rest := []) ⟨hx, hb, hml, hown, hts⟩ (c_X7_isBlock l D cI cS a0 t0 x1 v2 h2) (cwVA hts (TW.cons _) lv_X7_isBlock ml_RX7_132 ⟨rfl, rfl⟩ ⟨(Nat.le_of_ble_eq_true rfl), (Nat.le_of_ble_eq_true rfl)⟩) (pRV hK hP (ci := 6) rfl rfl) rfl rfl hl.1 rfl (lv_room (Nat.le_of_ble_eq_true rfl)) dX7_tell_2 ⟨Nat.le_refl _, Nat.le_refl _⟩) (fun b2 => ?_)
  refine lv_if_ne (tgt := 10) hx hb dX7_tell_5 (by decide) (fun c5 => ?_) (fun c5 => ?_)
  · replace hF := iq c5 hF
    refine lv_aload_n hx hb dX7_tell_10 rfl (lv_at hl 0 rfl) ?_
    refine va_get (D := D) (ci := 6) (v := .ref (a0 7)) (C := RX7) (T := TX7) (N := 29) hx hb hts (fun w h => List.mem_cons_of_mem _ (inAX7 w h)) hown hK.1 hP 0 (at_M_0 cI cS _ _) rfl 12 (by decide) (hts _ (List.mem_cons_of_mem _ fl_RX7_28)) (fun _ h9 => h9) rfl dX7_tell_11 ?_
    refine lv_iload_n hx hb dX7_tell_14 rfl (lv_at hl 1 rfl) ?_
    obtain ⟨v15, h15, hF⟩ := bd hF
    refine rI hx hb hK.1 hP 7 0 (at_M_7 cI cS _ _) rfl h15 dX7_tell_15 ?_
    refine lv_istore_n (lv' := [(2, .int v15), (0, .ref (a0 0)), (1, .int x1)]) hx hb dX7_tell_16 rfl hl (by decide) rfl (fun ls hl => ?_)
    refine lv_aload_n hx hb dX7_tell_17 rfl (lv_at hl 1 rfl) ?_
    refine va_get (D := D) (ci := 6) (v := .ref (a0 5)) (C := RX7) (T := TX7) (N := 29) hx hb hts (fun w h => List.mem_cons_of_mem _ (inAX7 w h)) hown hK.1 hP 0 (at_M_0 cI cS _ _) rfl 10 (by decide) (hts _ (List.mem_cons_of_mem _ fl_RX7_22)) (fun _ h9 => h9) rfl dX7_tell_18 ?_
    refine lv_iload_n hx hb dX7_tell_21 rfl (lv_at hl 2 rfl) ?_
    obtain ⟨v22, h22, hF⟩ := bd hF
    refine rI hx hb hK.1 hP 5 0 (at_M_5 cI cS _ _) rfl h22 dX7_tell_22 ?_
    by_cases c23_0 : v22 = 1
    · replace hF := ip c23_0 hF
      refine lv_lookup (off := 25) (tgt := 48) hx hb dX7_tell_23 (by decide) (by rw [c23_0]; decide) (by decide) ?_
      refine lv_aload_n hx hb dX7_tell_48 rfl (lv_at hl 1 rfl) ?_
      refine lv_iconst (v := 2) hx hb dX7_tell_49 (by decide) ?_
      obtain ⟨u50, h50, hF⟩ := bd hF
      refine cAv (ws' := pM cI cS a0 u50) (va_runV (As := [.int 2]) (rest := []) ⟨hx, hb, hml, hown, hts⟩ (c_X7_begins l D cI cS a0 t0 2 u50 h50) (cwVA hts (TW.cons _) lv_X7_begins ml_RX7_215 ⟨rfl, rfl⟩ ⟨(Nat.le_of_ble_eq_true rfl), (Nat.le_of_ble_eq_true rfl)⟩) (pWV hK hP hD (ci := 6) rfl rfl) rfl rfl hl.1 rfl (lv_room (Nat.le_of_ble_eq_true rfl)) dX7_tell_50 ⟨Nat.le_refl _, Nat.le_refl _⟩) hD hS (ad_M cI cS _ _ _) (fun H locs hP hD hS => ?_)
      refine lv_aload_n hx hb dX7_tell_53 rfl (lv_at hl 1 rfl) ?_
      refine lv_iconst (v := 1) hx hb dX7_tell_54 (by decide) ?_
      obtain ⟨u55, h55, hF⟩ := bd hF
      refine cAv (ws' := pM cI cS a0 u55) (va_runV (As := [.int 1]) (rest := []) ⟨hx, hb, hml, hown, hts⟩ (c_X7_begins l D cI cS a0 u50 1 u55 h55) (cwVA hts (TW.cons _) lv_X7_begins ml_RX7_215 ⟨rfl, rfl⟩ ⟨(Nat.le_of_ble_eq_true rfl), (Nat.le_of_ble_eq_true rfl)⟩) (pWV hK hP hD (ci := 6) rfl rfl) rfl rfl hl.1 rfl (lv_room (Nat.le_of_ble_eq_true rfl)) dX7_tell_55 ⟨Nat.le_refl _, Nat.le_refl _⟩) hD hS (ad_M cI cS _ _ _) (fun H locs hP hD hS => ?_)
      refine lv_iload_n hx hb dX7_tell_58 rfl (lv_at hl 0 rfl) ?_
      refine lv_bipush (v := 100) hx hb dX7_tell_59 (by decide) ?_
      refine lv_iadd hx hb dX7_tell_61 ?_
      exact W.iret hx hb hr (fun t ht hW => ⟨⟨_, (), rfl, (Prod.mk.inj (Option.some.inj hF)).1, by show va_P _ _ _ t.heap; rw [ht, ← (Prod.mk.inj (Option.some.inj hF)).2]; exact hP⟩, hS.F ht⟩) hS.2.2 dX7_tell_62
    replace hF := iq c23_0 hF
    by_cases c23_1 : v22 = 2
    · replace hF := ip c23_1 hF
      refine lv_lookup (off := 40) (tgt := 63) hx hb dX7_tell_23 (by decide) (by rw [c23_1]; decide) (by decide) ?_
      refine lv_aload_n hx hb dX7_tell_63 rfl (lv_at hl 1 rfl) ?_
      refine lv_iconst (v := 3) hx hb dX7_tell_64 (by decide) ?_
      obtain ⟨u65, h65, hF⟩ := bd hF
      refine cAv (ws' := pM cI cS a0 u65) (va_runV (As := [.int 3]) (rest := []) ⟨hx, hb, hml, hown, hts⟩ (c_X7_begins l D cI cS a0 t0 3 u65 h65) (cwVA hts (TW.cons _) lv_X7_begins ml_RX7_215 ⟨rfl, rfl⟩ ⟨(Nat.le_of_ble_eq_true rfl), (Nat.le_of_ble_eq_true rfl)⟩) (pWV hK hP hD (ci := 6) rfl rfl) rfl rfl hl.1 rfl (lv_room (Nat.le_of_ble_eq_true rfl)) dX7_tell_65 ⟨Nat.le_refl _, Nat.le_refl _⟩) hD hS (ad_M cI cS _ _ _) (fun H locs hP hD hS => ?_)
      refine lv_aload_n hx hb dX7_tell_68 rfl (lv_at hl 1 rfl) ?_
      refine lv_iconst (v := 2) hx hb dX7_tell_69 (by decide) ?_
      obtain ⟨u70, h70, hF⟩ := bd hF
      refine cAv (ws' := pM cI cS a0 u70) (va_runV (As := [.int 2]) (rest := []) ⟨hx, hb, hml, hown, hts⟩ (c_X7_begins l D cI cS a0 u65 2 u70 h70) (cwVA hts (TW.cons _) lv_X7_begins ml_RX7_215 ⟨rfl, rfl⟩ ⟨(Nat.le_of_ble_eq_true rfl), (Nat.le_of_ble_eq_true rfl)⟩) (pWV hK hP hD (ci := 6) rfl rfl) rfl rfl hl.1 rfl (lv_room (Nat.le_of_ble_eq_true rfl)) dX7_tell_70 ⟨Nat.le_refl _, Nat.le_refl _⟩) hD hS (ad_M cI cS _ _ _) (fun H locs hP hD hS => ?_)
      refine lv_aload_n hx hb dX7_tell_73 rfl (lv_at hl 1 rfl) ?_
      refine lv_iconst (v := 1) hx hb dX7_tell_74 (by decide) ?_
      obtain ⟨u75, h75, hF⟩ := bd hF
      refine cAv (ws' := pM cI cS a0 u75) (va_runV (As := [.int 1]) (rest := []) ⟨hx, hb, hml, hown, hts⟩ (c_X7_begins l D cI cS a0 u70 1 u75 h75) (cwVA hts (TW.cons _) lv_X7_begins ml_RX7_215 ⟨rfl, rfl⟩ ⟨(Nat.le_of_ble_eq_true rfl), (Nat.le_of_ble_eq_true rfl)⟩) (pWV hK hP hD (ci := 6) rfl rfl) rfl rfl hl.1 rfl (lv_room (Nat.le_of_ble_eq_true rfl)) dX7_tell_75 ⟨Nat.le_refl _, Nat.le_refl _⟩) hD hS (ad_M cI cS _ _ _) (fun H locs hP hD hS => ?_)
      refine lv_aload_n hx hb dX7_tell_78 rfl (lv_at hl 1 rfl) ?_
      refine lv_iconst (v := 1) hx hb dX7_tell_79 (by decide) ?_
      obtain ⟨u80, h80, hF⟩ := bd hF
      refine cAv (ws' := pM cI cS a0 u80) (va_runV (As := [.int 1]) (rest := []) ⟨hx, hb, hml, hown, hts⟩ (c_X7_begins l D cI cS a0 u75 1 u80 h80) (cwVA hts (TW.cons _) lv_X7_begins ml_RX7_215 ⟨rfl, rfl⟩ ⟨(Nat.le_of_ble_eq_true rfl), (Nat.le_of_ble_eq_true rfl)⟩) (pWV hK hP hD (ci := 6) rfl rfl) rfl rfl hl.1 rfl (lv_room (Nat.le_of_ble_eq_true rfl)) dX7_tell_80 ⟨Nat.le_refl _, Nat.le_refl _⟩) hD hS (ad_M cI cS _ _ _) (fun H locs hP hD hS => ?_)
      refine lv_iconst (v := 2) hx hb dX7_tell_83 (by decide) ?_
      refine lv_iload_n hx hb dX7_tell_84 rfl (lv_at hl 0 rfl) ?_
      refine lv_imul hx hb dX7_tell_85 ?_
      refine lv_bipush (v := 100) hx hb dX7_tell_86 (by decide) ?_
      refine lv_iadd hx hb dX7_tell_88 ?_
      exact W.iret hx hb hr (fun t ht hW => ⟨⟨_, (), rfl, (Prod.mk.inj (Option.some.inj hF)).1, by show va_P _ _ _ t.heap; rw [ht, ← (Prod.mk.inj (Option.some.inj hF)).2]; exact hP⟩, hS.F ht⟩) hS.2.2 dX7_tell_89
    replace hF := iq c23_1 hF
    refine lv_lookup (off := 67) (tgt := 90) hx hb dX7_tell_23 (by decide) (by show Op.lookupswitch.offset [(1, 25), (2, 40)] 67 _ = _; rw [lv_osw (a := 1) c23_0 rfl, lv_osw (a := 2) c23_1 rfl]; rfl) (by decide) ?_
    refine lv_aload_n hx hb dX7_tell_90 rfl (lv_at hl 1 rfl) ?_
    refine lv_iconst (v := 1) hx hb dX7_tell_91 (by decide) ?_
    obtain ⟨u92, h92, hF⟩ := bd hF
    refine cAv (ws' := pM cI cS a0 u92) (va_runV (As := [.int 1]) (rest := []) ⟨hx, hb, hml, hown, hts⟩ (c_X7_begins l D cI cS a0 t0 1 u92 h92) (cwVA hts (TW.cons _) lv_X7_begins ml_RX7_215 ⟨rfl, rfl⟩ ⟨(Nat.le_of_ble_eq_true rfl), (Nat.le_of_ble_eq_true rfl)⟩) (pWV hK hP hD (ci := 6) rfl rfl) rfl rfl hl.1 rfl (lv_room (Nat.le_of_ble_eq_true rfl)) dX7_tell_92 ⟨Nat.le_refl _, Nat.le_refl _⟩) hD hS (ad_M cI cS _ _ _) (fun H locs hP hD hS => ?_)
    refine lv_iload_n hx hb dX7_tell_95 rfl (lv_at hl 0 rfl) ?_
    exact W.iret hx hb hr (fun t ht hW => ⟨⟨_, (), rfl, (Prod.mk.inj (Option.some.inj hF)).1, by show va_P _ _ _ t.heap; rw [ht, ← (Prod.mk.inj (Option.some.inj hF)).2]; exact hP⟩, hS.F ht⟩) hS.2.2 dX7_tell_96
  · replace hF := ip c5 hF
    refine lv_iconst (v := (-1)) hx hb dX7_tell_8 (by decide) ?_
    exact W.iret hx hb hr (fun t ht hW => ⟨⟨_, (), rfl, (Prod.mk.inj (Option.some.inj hF)).1, by show va_P _ _ _ t.heap; rw [ht, ← (Prod.mk.inj (Option.some.inj hF)).2]; exact hP⟩, hS.F ht⟩) hS.2.2 dX7_tell_9
noncomputable def F_X7_sign_J26 (x1 : Int32) (s0 : ST) (z0 : Int32) : Option (Int32 × ST) :=
  (F_X7_begins s0 z0).bind fun u26 =>
  (rd 6 (u26 5) x1).bind fun v34 =>
  if v34 = 2 then
    some (40, u26)
  else
  some (x1, u26)
noncomputable def F_X7_sign (t0 : ST) (x1 : Int32) : Option (Int32 × ST) :=
  (F_X7_isBlock t0 x1).bind fun v2 =>
  if v2 = 0 then
    some ((-1), t0)
  else
  (rd 6 (t0 5) x1).bind fun v16 =>
  if v16 = 2 then
    F_X7_sign_J26 x1 t0 5
  else
  F_X7_sign_J26 x1 t0 4
abbrev rm_X7_sign : Room := { frames := 1, cells := 0, slots := 0, locals := 21 }
set_option maxHeartbeats 4000000 in
set_option maxRecDepth 100000 in
theorem c_X7_sign (l : Launch) (D : va_G) (cI cS : ClassId) (a0 : Nat → Nat) (t0 : ST) (x1 : Int32) (r : Int32) (t' : ST) (hF : F_X7_sign t0 x1 = some (r, t')) : Met l yX7_sign (Cond.code yX7_sign cX7_sign 2 (some .int) :: ALL) rm_X7_sign (PreW D cI cS [.ref (a0 0), .int x1] (pM cI cS a0 t0)) (va_Qi (fun x (_ : Unit) => x = r) (fun _ t => va_P D vwCl (pM cI cS a0 t') t.heap) (AD (pM cI cS a0 t0))) 0 0 (AD (pM cI cS a0 t0)) := by
  refine mW l D cI cS (by decide) (Nat.le_of_ble_eq_true rfl) ?_
  intro p e s m below meth c ls hx hb hr hml hown hts hlocks hP hK hD hS hl
  have hown : s.vm.findClass RX7 = some m.cls := hown
  have hl : lv_has ls 2 [(0, .ref (a0 0)), (1, .int x1)] := hl
  unfold F_X7_sign at hF
  refine lv_aload_n hx hb dX7_sign_0 rfl (lv_at hl 0 rfl) ?_
  refine lv_iload_n hx hb dX7_sign_1 rfl (lv_at hl 1 rfl) ?_
  obtain ⟨v2, h2, hF⟩ := bd hF
  refine cRb (va_runV (As := [.int x1]) (rest := []) ⟨hx, hb, hml, hown, hts⟩ (c_X7_isBlock l D cI cS a0 t0 x1 v2 h2) (cwVA hts (TW.cons _) lv_X7_isBlock ml_RX7_132 ⟨rfl, rfl⟩ ⟨(Nat.le_of_ble_eq_true rfl), (Nat.le_of_ble_eq_true rfl)⟩) (pRV hK hP (ci := 6) rfl rfl) rfl rfl hl.1 rfl (lv_room (Nat.le_of_ble_eq_true rfl)) dX7_sign_2 ⟨Nat.le_refl _, Nat.le_refl _⟩) (fun b2 => ?_)
  refine lv_if_ne (tgt := 10) hx hb dX7_sign_5 (by decide) (fun c5 => ?_) (fun c5 => ?_)
  · replace hF := iq c5 hF
    refine lv_aload_n hx hb dX7_sign_10 rfl (lv_at hl 0 rfl) ?_
    refine lv_aload_n hx hb dX7_sign_11 rfl (lv_at hl 0 rfl) ?_
    refine va_get (D := D) (ci := 6) (v := .ref (a0 5)) (C := RX7) (T := TX7) (N := 29) hx hb hts (fun w h => List.mem_cons_of_mem _ (inAX7 w h)) hown hK.1 hP 0 (at_M_0 cI cS _ _) rfl 10 (by decide) (hts _ (List.mem_cons_of_mem _ fl_RX7_22)) (fun _ h9 => h9) rfl dX7_sign_12 ?_
    refine lv_iload_n hx hb dX7_sign_15 rfl (lv_at hl 1 rfl) ?_
    obtain ⟨v16, h16, hF⟩ := bd hF
    refine rI hx hb hK.1 hP 5 0 (at_M_5 cI cS _ _) rfl h16 dX7_sign_16 ?_
    refine lv_iconst (v := 2) hx hb dX7_sign_17 (by decide) ?_
    have J26 : ∀ (s0_26 : ST) (z0_26 : Int32) (H : Heap) (locs : List Loc) (ls : Array Slot), va_P D vwCl (pM cI cS a0 s0_26) H → va_D (AD (pM cI cS a0 t0)) (pM cI cS a0 s0_26) → va_S (AD (pM cI cS a0 t0)) s.heap H locs → lv_has ls 2 [(0, .ref (a0 0)), (1, .int x1)] → F_X7_sign_J26 x1 s0_26 z0_26 = some (r, t') → W p l e rm_X7_sign s m [.ref (a0 0), .int x1].toArray below meth c H locs 0 0 (MQ below (va_Qi (fun x (_ : Unit) => x = r) (fun _ t => va_P D vwCl (pM cI cS a0 t') t.heap) (AD (pM cI cS a0 t0))) [.ref (a0 0), .int x1].toArray s 0 0 (AD (pM cI cS a0 t0))) (F0 m 26 ls [.int z0_26, .ref (a0 0)]) := by
      intro s0_26 z0_26 H locs ls hP hD hS hl hF
      unfold F_X7_sign_J26 at hF
      obtain ⟨u26, h26, hF⟩ := bd hF
      refine cAv (ws' := pM cI cS a0 u26) (va_runV (As := [.int z0_26]) (rest := []) ⟨hx, hb, hml, hown, hts⟩ (c_X7_begins l D cI cS a0 s0_26 z0_26 u26 h26) (cwVA hts (TW.cons _) lv_X7_begins ml_RX7_215 ⟨rfl, rfl⟩ ⟨(Nat.le_of_ble_eq_true rfl), (Nat.le_of_ble_eq_true rfl)⟩) (pWV hK hP hD (ci := 6) rfl rfl) rfl rfl hl.1 rfl (lv_room (Nat.le_of_ble_eq_true rfl)) dX7_sign_26 ⟨Nat.le_refl _, Nat.le_refl _⟩) hD hS (ad_M cI cS _ _ _) (fun H locs hP hD hS => ?_)
      refine lv_aload_n hx hb dX7_sign_29 rfl (lv_at hl 0 rfl) ?_
      refine va_get (D := D) (ci := 6) (v := .ref (a0 5)) (C := RX7) (T := TX7) (N := 29) hx hb hts (fun w h => List.mem_cons_of_mem _ (inAX7 w h)) hown hK.1 hP 0 (at_M_0 cI cS _ _) rfl 10 (by decide) (hts _ (List.mem_cons_of_mem _ fl_RX7_22)) (fun _ h9 => h9) rfl dX7_sign_30 ?_
      refine lv_iload_n hx hb dX7_sign_33 rfl (lv_at hl 1 rfl) ?_
      obtain ⟨v34, h34, hF⟩ := bd hF
      refine rI hx hb hK.1 hP 5 0 (at_M_5 cI cS _ _) rfl h34 dX7_sign_34 ?_
      refine lv_iconst (v := 2) hx hb dX7_sign_35 (by decide) ?_
      refine lv_icmp_ne (tgt := 44) hx hb dX7_sign_36 (by decide) (fun c36 => ?_) (fun c36 => ?_)
      · replace hF := iq c36 hF
        refine lv_iload_n hx hb dX7_sign_44 rfl (lv_at hl 1 rfl) ?_
        exact W.iret hx hb hr (fun t ht hW => ⟨⟨_, (), rfl, (Prod.mk.inj (Option.some.inj hF)).1, by show va_P _ _ _ t.heap; rw [ht, ← (Prod.mk.inj (Option.some.inj hF)).2]; exact hP⟩, hS.F ht⟩) hS.2.2 dX7_sign_45
      · replace hF := ip c36 hF
        refine lv_bipush (v := 40) hx hb dX7_sign_39 (by decide) ?_
        refine lv_goto (tgt := 45) hx hb dX7_sign_41 (by decide) ?_
        exact W.iret hx hb hr (fun t ht hW => ⟨⟨_, (), rfl, (Prod.mk.inj (Option.some.inj hF)).1, by show va_P _ _ _ t.heap; rw [ht, ← (Prod.mk.inj (Option.some.inj hF)).2]; exact hP⟩, hS.F ht⟩) hS.2.2 dX7_sign_45
    refine lv_icmp_ne (tgt := 25) hx hb dX7_sign_18 (by decide) (fun c18 => ?_) (fun c18 => ?_)
    · replace hF := iq c18 hF
      refine lv_iconst (v := 4) hx hb dX7_sign_25 (by decide) ?_
      exact J26 t0 4 _ _ _ hP hD hS (lv_sub hl [0, 1] rfl) hF
    · replace hF := ip c18 hF
      refine lv_iconst (v := 5) hx hb dX7_sign_21 (by decide) ?_
      refine lv_goto (tgt := 26) hx hb dX7_sign_22 (by decide) ?_
      exact J26 t0 5 _ _ _ hP hD hS (lv_sub hl [0, 1] rfl) hF
  · replace hF := ip c5 hF
    refine lv_iconst (v := (-1)) hx hb dX7_sign_8 (by decide) ?_
    exact W.iret hx hb hr (fun t ht hW => ⟨⟨_, (), rfl, (Prod.mk.inj (Option.some.inj hF)).1, by show va_P _ _ _ t.heap; rw [ht, ← (Prod.mk.inj (Option.some.inj hF)).2]; exact hP⟩, hS.F ht⟩) hS.2.2 dX7_sign_9
noncomputable def F_X7_as (t0 : ST) (x1 : Int32) (x2 : Int32) : Option (Int32 × ST) :=
  (F_X7_isBlock (st t0 0 0 0) x1).bind fun v7 =>
  if v7 = 0 then
    some ((-1), (st t0 0 0 0))
  else
  (F_X7_within x2 0 2).bind fun v18 =>
  if v18 = 0 then
    some ((-2), (st t0 0 0 0))
  else
  (rd 6 (t0 5) x1).bind fun v32 =>
  if v32 < x2 then
    b2 (F_X7_fails (st t0 0 0 0) 2) fun v43 u43 =>
    some (v43, u43)
  else
  some (1, (st t0 0 0 0))
abbrev rm_X7_as : Room := { frames := 1, cells := 0, slots := 0, locals := 22 }
set_option maxHeartbeats 4000000 in
set_option maxRecDepth 100000 in
theorem c_X7_as (l : Launch) (D : va_G) (cI cS : ClassId) (a0 : Nat → Nat) (t0 : ST) (x1 : Int32) (x2 : Int32) (r : Int32) (t' : ST) (hF : F_X7_as t0 x1 x2 = some (r, t')) : Met l yX7_as (Cond.code yX7_as cX7_as 3 (some .int) :: ALL) rm_X7_as (PreW D cI cS [.ref (a0 0), .int x1, .int x2] (pM cI cS a0 t0)) (va_Qi (fun x (_ : Unit) => x = r) (fun _ t => va_P D vwCl (pM cI cS a0 t') t.heap) (AD (pM cI cS a0 t0))) 0 0 (AD (pM cI cS a0 t0)) := by
  refine mW l D cI cS (by decide) (Nat.le_of_ble_eq_true rfl) ?_
  intro p e s m below meth c ls hx hb hr hml hown hts hlocks hP hK hD hS hl
  have hown : s.vm.findClass RX7 = some m.cls := hown
  have hl : lv_has ls 3 [(0, .ref (a0 0)), (1, .int x1), (2, .int x2)] := hl
  unfold F_X7_as at hF
  refine lv_aload_n hx hb dX7_as_0 rfl (lv_at hl 0 rfl) ?_
  refine lv_iconst (v := 0) hx hb dX7_as_1 (by decide) ?_
  refine wF (ws' := pM cI cS a0 (st t0 0 0 0)) (C := RX7) (T := TX7) (N := 29) hx hb hts (fun w h => List.mem_cons_of_mem _ (inAX7 w h)) tyX7 tyX7_ok nmX7 hown hK.1 hP hD hS 0 (at_M_0 cI cS _ _) rfl 0 (by decide) (hts _ (List.mem_cons_of_mem _ fl_RX7_55)) rfl (tyX7_ok 0 (by decide)) rfl rfl (Nat.le_of_ble_eq_true rfl) (sf_M_0_0 cI cS _ _ _) dX7_as_2 (fun H locs hP hD hS => ?_)
  refine lv_aload_n hx hb dX7_as_5 rfl (lv_at hl 0 rfl) ?_
  refine lv_iload_n hx hb dX7_as_6 rfl (lv_at hl 1 rfl) ?_
  obtain ⟨v7, h7, hF⟩ := bd hF
  refine cRb (va_runV (As := [.int x1]) (rest := []) ⟨hx, hb, hml, hown, hts⟩ (c_X7_isBlock l D cI cS a0 (st t0 0 0 0) x1 v7 h7) (cwVA hts (TW.cons _) lv_X7_isBlock ml_RX7_132 ⟨rfl, rfl⟩ ⟨(Nat.le_of_ble_eq_true rfl), (Nat.le_of_ble_eq_true rfl)⟩) (pRV hK hP (ci := 6) rfl rfl) rfl rfl hl.1 rfl (lv_room (Nat.le_of_ble_eq_true rfl)) dX7_as_7 ⟨Nat.le_refl _, Nat.le_refl _⟩) (fun b7 => ?_)
  refine lv_if_ne (tgt := 15) hx hb dX7_as_10 (by decide) (fun c10 => ?_) (fun c10 => ?_)
  · replace hF := iq c10 hF
    refine lv_iload_n hx hb dX7_as_15 rfl (lv_at hl 2 rfl) ?_
    refine lv_iconst (v := 0) hx hb dX7_as_16 (by decide) ?_
    refine lv_iconst (v := 2) hx hb dX7_as_17 (by decide) ?_
    obtain ⟨v18, h18, hF⟩ := bd hF
    refine cRb (va_runS (As := [.int x2, .int 0, .int 2]) (rest := []) ⟨hx, hb, hml, hown, hts⟩ (c_X7_within l D cI cS x2 0 2 v18 h18) (cwSA hts (TW.cons _) ls_X7_within ml_RX7_61 ⟨rfl, rfl⟩ ⟨(Nat.le_of_ble_eq_true rfl), (Nat.le_of_ble_eq_true rfl)⟩) (pRS hK pnil) rfl rfl hl.1 rfl (lv_room (Nat.le_of_ble_eq_true rfl)) dX7_as_18 ⟨Nat.le_refl _, Nat.le_refl _⟩) (fun b18 => ?_)
    refine lv_if_ne (tgt := 27) hx hb dX7_as_21 (by decide) (fun c21 => ?_) (fun c21 => ?_)
    · replace hF := iq c21 hF
      refine lv_aload_n hx hb dX7_as_27 rfl (lv_at hl 0 rfl) ?_
      refine va_get (D := D) (ci := 6) (v := .ref (a0 5)) (C := RX7) (T := TX7) (N := 29) hx hb hts (fun w h => List.mem_cons_of_mem _ (inAX7 w h)) hown hK.1 hP 0 (at_M_0 cI cS _ _) rfl 10 (by decide) (hts _ (List.mem_cons_of_mem _ fl_RX7_22)) (fun _ h9 => h9) rfl dX7_as_28 ?_
      refine lv_iload_n hx hb dX7_as_31 rfl (lv_at hl 1 rfl) ?_
      obtain ⟨v32, h32, hF⟩ := bd hF
      refine rI hx hb hK.1 hP 5 0 (at_M_5 cI cS _ _) rfl h32 dX7_as_32 ?_
      refine lv_iload_n hx hb dX7_as_33 rfl (lv_at hl 2 rfl) ?_
      refine lv_icmp_lt (tgt := 41) hx hb dX7_as_34 (by decide) (fun c34 => ?_) (fun c34 => ?_)
      · replace hF := ip c34 hF
        refine lv_aload_n hx hb dX7_as_41 rfl (lv_at hl 0 rfl) ?_
        refine lv_iconst (v := 2) hx hb dX7_as_42 (by decide) ?_
        obtain ⟨v43, u43, h43, hF⟩ := bd2 hF
        refine cAe (ws' := pM cI cS a0 u43) (va_runV (As := [.int 2]) (rest := []) ⟨hx, hb, hml, hown, hts⟩ (c_X7_fails l D cI cS a0 (st t0 0 0 0) 2 v43 u43 h43) (cwVA hts (TW.cons _) lv_X7_fails ml_RX7_82 ⟨rfl, rfl⟩ ⟨(Nat.le_of_ble_eq_true rfl), (Nat.le_of_ble_eq_true rfl)⟩) (pWV hK hP hD (ci := 6) rfl rfl) rfl rfl hl.1 rfl (lv_room (Nat.le_of_ble_eq_true rfl)) dX7_as_43 ⟨Nat.le_refl _, Nat.le_refl _⟩) hD hS (ad_M cI cS _ _ _) (fun H locs hP hD hS => ?_)
        exact W.iret hx hb hr (fun t ht hW => ⟨⟨_, (), rfl, (Prod.mk.inj (Option.some.inj hF)).1, by show va_P _ _ _ t.heap; rw [ht, ← (Prod.mk.inj (Option.some.inj hF)).2]; exact hP⟩, hS.F ht⟩) hS.2.2 dX7_as_46
      · replace hF := iq c34 hF
        refine lv_iconst (v := 1) hx hb dX7_as_37 (by decide) ?_
        refine lv_goto (tgt := 46) hx hb dX7_as_38 (by decide) ?_
        exact W.iret hx hb hr (fun t ht hW => ⟨⟨_, (), rfl, (Prod.mk.inj (Option.some.inj hF)).1, by show va_P _ _ _ t.heap; rw [ht, ← (Prod.mk.inj (Option.some.inj hF)).2]; exact hP⟩, hS.F ht⟩) hS.2.2 dX7_as_46
    · replace hF := ip c21 hF
      refine lv_bipush (v := (-2)) hx hb dX7_as_24 (by decide) ?_
      exact W.iret hx hb hr (fun t ht hW => ⟨⟨_, (), rfl, (Prod.mk.inj (Option.some.inj hF)).1, by show va_P _ _ _ t.heap; rw [ht, ← (Prod.mk.inj (Option.some.inj hF)).2]; exact hP⟩, hS.F ht⟩) hS.2.2 dX7_as_26
  · replace hF := ip c10 hF
    refine lv_iconst (v := (-1)) hx hb dX7_as_13 (by decide) ?_
    exact W.iret hx hb hr (fun t ht hW => ⟨⟨_, (), rfl, (Prod.mk.inj (Option.some.inj hF)).1, by show va_P _ _ _ t.heap; rw [ht, ← (Prod.mk.inj (Option.some.inj hF)).2]; exact hP⟩, hS.F ht⟩) hS.2.2 dX7_as_14
noncomputable def F_X7_trace (t0 : ST) : Option Int32 :=
  some (t0 0 1)
abbrev rm_X7_trace : Room := { frames := 0, cells := 0, slots := 0, locals := 0 }
set_option maxHeartbeats 4000000 in
set_option maxRecDepth 100000 in
theorem c_X7_trace (l : Launch) (D : va_G) (cI cS : ClassId) (a0 : Nat → Nat) (t0 : ST) (r : Int32) (hF : F_X7_trace t0 = some r) : Met l yX7_trace (Cond.code yX7_trace cX7_trace 1 (some .int) :: ALL) rm_X7_trace (PreR D cI cS [.ref (a0 0)] (pM cI cS a0 t0)) (vp_Si (fun x => x = r)) 0 0 (fun _ => False) := by
  refine mR l D cI cS (by decide) (Nat.le_of_ble_eq_true rfl) ?_
  intro p e s m below meth c ls hx hb hr hml hown hts hlocks hP hK hl
  have hown : s.vm.findClass RX7 = some m.cls := hown
  have hl : lv_has ls 1 [(0, .ref (a0 0))] := hl
  unfold F_X7_trace at hF
  refine lv_aload_n hx hb dX7_trace_0 rfl (lv_at hl 0 rfl) ?_
  refine va_get (D := D) (ci := 6) (v := .int (t0 0 1)) (C := RX7) (T := TX7) (N := 29) hx hb hts (fun w h => List.mem_cons_of_mem _ (inAX7 w h)) hown hK.1 hP 0 (at_M_0 cI cS _ _) rfl 1 (by decide) (hts _ (List.mem_cons_of_mem _ fl_RX7_212)) (fun _ h9 => h9) rfl dX7_trace_1 ?_
  exact W.iret hx hb hr (fun t ht hW => ⟨_, rfl, (Option.some.inj hF), ht⟩) (fun _ h => nomatch h) dX7_trace_4
noncomputable def F_X7_fault (t0 : ST) : Option Int32 :=
  some (t0 0 0)
abbrev rm_X7_fault : Room := { frames := 0, cells := 0, slots := 0, locals := 0 }
set_option maxHeartbeats 4000000 in
set_option maxRecDepth 100000 in
theorem c_X7_fault (l : Launch) (D : va_G) (cI cS : ClassId) (a0 : Nat → Nat) (t0 : ST) (r : Int32) (hF : F_X7_fault t0 = some r) : Met l yX7_fault (Cond.code yX7_fault cX7_fault 1 (some .int) :: ALL) rm_X7_fault (PreR D cI cS [.ref (a0 0)] (pM cI cS a0 t0)) (vp_Si (fun x => x = r)) 0 0 (fun _ => False) := by
  refine mR l D cI cS (by decide) (Nat.le_of_ble_eq_true rfl) ?_
  intro p e s m below meth c ls hx hb hr hml hown hts hlocks hP hK hl
  have hown : s.vm.findClass RX7 = some m.cls := hown
  have hl : lv_has ls 1 [(0, .ref (a0 0))] := hl
  unfold F_X7_fault at hF
  refine lv_aload_n hx hb dX7_fault_0 rfl (lv_at hl 0 rfl) ?_
  refine va_get (D := D) (ci := 6) (v := .int (t0 0 0)) (C := RX7) (T := TX7) (N := 29) hx hb hts (fun w h => List.mem_cons_of_mem _ (inAX7 w h)) hown hK.1 hP 0 (at_M_0 cI cS _ _) rfl 0 (by decide) (hts _ (List.mem_cons_of_mem _ fl_RX7_55)) (fun _ h9 => h9) rfl dX7_fault_1 ?_
  exact W.iret hx hb hr (fun t ht hW => ⟨_, rfl, (Option.some.inj hF), ht⟩) (fun _ h => nomatch h) dX7_fault_4
noncomputable def F_X7_many (t0 : ST) (x1 : Int32) : Option Int32 :=
  if x1 = 0 then
    some (t0 0 3)
  else
  if x1 = 1 then
    some (t0 0 2)
  else
  if x1 = 2 then
    some (t0 0 4)
  else
  if x1 = 3 then
    (F_X7_size (t0 0 5)).bind fun v55 =>
    some v55
  else
  if x1 = 4 then
    some (t0 0 13)
  else
  some (-2)
abbrev rm_X7_many : Room := { frames := 1, cells := 0, slots := 0, locals := 22 }
set_option maxHeartbeats 4000000 in
set_option maxRecDepth 100000 in
theorem c_X7_many (l : Launch) (D : va_G) (cI cS : ClassId) (a0 : Nat → Nat) (t0 : ST) (x1 : Int32) (r : Int32) (hF : F_X7_many t0 x1 = some r) : Met l yX7_many (Cond.code yX7_many cX7_many 2 (some .int) :: ALL) rm_X7_many (PreR D cI cS [.ref (a0 0), .int x1] (pM cI cS a0 t0)) (vp_Si (fun x => x = r)) 0 0 (fun _ => False) := by
  refine mR l D cI cS (by decide) (Nat.le_of_ble_eq_true rfl) ?_
  intro p e s m below meth c ls hx hb hr hml hown hts hlocks hP hK hl
  have hown : s.vm.findClass RX7 = some m.cls := hown
  have hl : lv_has ls 2 [(0, .ref (a0 0)), (1, .int x1)] := hl
  unfold F_X7_many at hF
  refine lv_iload_n hx hb dX7_many_0 rfl (lv_at hl 1 rfl) ?_
  by_cases c1_0 : x1 = 0
  · replace hF := ip c1_0 hF
    refine lv_tableIn (off := 35) (tgt := 36) hx hb dX7_many_1 (by rw [c1_0]; decide) (by rw [c1_0]; decide) (by rw [c1_0]; decide) (by decide) ?_
    refine lv_aload_n hx hb dX7_many_36 rfl (lv_at hl 0 rfl) ?_
    refine va_get (D := D) (ci := 6) (v := .int (t0 0 3)) (C := RX7) (T := TX7) (N := 29) hx hb hts (fun w h => List.mem_cons_of_mem _ (inAX7 w h)) hown hK.1 hP 0 (at_M_0 cI cS _ _) rfl 6 (by decide) (hts _ (List.mem_cons_of_mem _ fl_RX7_65)) (fun _ h9 => h9) rfl dX7_many_37 ?_
    exact W.iret hx hb hr (fun t ht hW => ⟨_, rfl, (Option.some.inj hF), ht⟩) (fun _ h => nomatch h) dX7_many_40
  replace hF := iq c1_0 hF
  by_cases c1_1 : x1 = 1
  · replace hF := ip c1_1 hF
    refine lv_tableIn (off := 40) (tgt := 41) hx hb dX7_many_1 (by rw [c1_1]; decide) (by rw [c1_1]; decide) (by rw [c1_1]; decide) (by decide) ?_
    refine lv_aload_n hx hb dX7_many_41 rfl (lv_at hl 0 rfl) ?_
    refine va_get (D := D) (ci := 6) (v := .int (t0 0 2)) (C := RX7) (T := TX7) (N := 29) hx hb hts (fun w h => List.mem_cons_of_mem _ (inAX7 w h)) hown hK.1 hP 0 (at_M_0 cI cS _ _) rfl 5 (by decide) (hts _ (List.mem_cons_of_mem _ fl_RX7_111)) (fun _ h9 => h9) rfl dX7_many_42 ?_
    exact W.iret hx hb hr (fun t ht hW => ⟨_, rfl, (Option.some.inj hF), ht⟩) (fun _ h => nomatch h) dX7_many_45
  replace hF := iq c1_1 hF
  by_cases c1_2 : x1 = 2
  · replace hF := ip c1_2 hF
    refine lv_tableIn (off := 45) (tgt := 46) hx hb dX7_many_1 (by rw [c1_2]; decide) (by rw [c1_2]; decide) (by rw [c1_2]; decide) (by decide) ?_
    refine lv_aload_n hx hb dX7_many_46 rfl (lv_at hl 0 rfl) ?_
    refine va_get (D := D) (ci := 6) (v := .int (t0 0 4)) (C := RX7) (T := TX7) (N := 29) hx hb hts (fun w h => List.mem_cons_of_mem _ (inAX7 w h)) hown hK.1 hP 0 (at_M_0 cI cS _ _) rfl 7 (by decide) (hts _ (List.mem_cons_of_mem _ fl_RX7_102)) (fun _ h9 => h9) rfl dX7_many_47 ?_
    exact W.iret hx hb hr (fun t ht hW => ⟨_, rfl, (Option.some.inj hF), ht⟩) (fun _ h => nomatch h) dX7_many_50
  replace hF := iq c1_2 hF
  by_cases c1_3 : x1 = 3
  · replace hF := ip c1_3 hF
    refine lv_tableIn (off := 50) (tgt := 51) hx hb dX7_many_1 (by rw [c1_3]; decide) (by rw [c1_3]; decide) (by rw [c1_3]; decide) (by decide) ?_
    refine lv_aload_n hx hb dX7_many_51 rfl (lv_at hl 0 rfl) ?_
    refine va_get (D := D) (ci := 6) (v := .int (t0 0 5)) (C := RX7) (T := TX7) (N := 29) hx hb hts (fun w h => List.mem_cons_of_mem _ (inAX7 w h)) hown hK.1 hP 0 (at_M_0 cI cS _ _) rfl 8 (by decide) (hts _ (List.mem_cons_of_mem _ fl_RX7_105)) (fun _ h9 => h9) rfl dX7_many_52 ?_
    obtain ⟨v55, h55, hF⟩ := bd hF
    refine cRe (va_runS (As := [.int (t0 0 5)]) (rest := []) ⟨hx, hb, hml, hown, hts⟩ (c_X7_size l D cI cS (t0 0 5) v55 h55) (cwSA hts (TW.cons _) ls_X7_size ml_RX7_138 ⟨rfl, rfl⟩ ⟨(Nat.le_of_ble_eq_true rfl), (Nat.le_of_ble_eq_true rfl)⟩) (pRS hK pnil) rfl rfl hl.1 rfl (lv_room (Nat.le_of_ble_eq_true rfl)) dX7_many_55 ⟨Nat.le_refl _, Nat.le_refl _⟩) ?_
    exact W.iret hx hb hr (fun t ht hW => ⟨_, rfl, (Option.some.inj hF), ht⟩) (fun _ h => nomatch h) dX7_many_58
  replace hF := iq c1_3 hF
  by_cases c1_4 : x1 = 4
  · replace hF := ip c1_4 hF
    refine lv_tableIn (off := 58) (tgt := 59) hx hb dX7_many_1 (by rw [c1_4]; decide) (by rw [c1_4]; decide) (by rw [c1_4]; decide) (by decide) ?_
    refine lv_aload_n hx hb dX7_many_59 rfl (lv_at hl 0 rfl) ?_
    refine va_get (D := D) (ci := 6) (v := .int (t0 0 13)) (C := RX7) (T := TX7) (N := 29) hx hb hts (fun w h => List.mem_cons_of_mem _ (inAX7 w h)) hown hK.1 hP 0 (at_M_0 cI cS _ _) rfl 22 (by decide) (hts _ (List.mem_cons_of_mem _ fl_RX7_108)) (fun _ h9 => h9) rfl dX7_many_60 ?_
    exact W.iret hx hb hr (fun t ht hW => ⟨_, rfl, (Option.some.inj hF), ht⟩) (fun _ h => nomatch h) dX7_many_63
  replace hF := iq c1_4 hF
  refine lv_tableOut (tgt := 64) hx hb dX7_many_1 (by have g0 := ne_toInt c1_0 (k := 0) rfl; have g1 := ne_toInt c1_1 (k := 1) rfl; have g2 := ne_toInt c1_2 (k := 2) rfl; have g3 := ne_toInt c1_3 (k := 3) rfl; have g4 := ne_toInt c1_4 (k := 4) rfl; omega) (by decide) ?_
  refine lv_bipush (v := (-2)) hx hb dX7_many_64 (by decide) ?_
  exact W.iret hx hb hr (fun t ht hW => ⟨_, rfl, (Option.some.inj hF), ht⟩) (fun _ h => nomatch h) dX7_many_66
