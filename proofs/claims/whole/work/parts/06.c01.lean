noncomputable def F_X6_days_L38 (x1 : Int32) (k : Int32 → ST → Option (Int32 × ST)) : Nat → Int32 → ST → Option (Int32 × ST)
  | 0, _, _ => none
  | n + 1, x2, s0 =>
    if x1 ≤ x2 then
      k x2 s0
    else
    (F_X0_goOn (sb s0 3) (sb s0 1)).bind fun u51 =>
    (F_X6_days_L38 x1 k n) (x2 + 1) (gr s0 3 4 u51)
noncomputable def F_X6_days_L64 (x1 : Int32) (s0 : ST) (k : Int32 → Int32 → Option (Int32 × ST)) : Nat → Int32 → Int32 → Option (Int32 × ST)
  | 0, _, _ => none
  | n + 1, x2, x3 =>
    if (s0 3 0) ≤ x3 then
      k x2 x3
    else
    (rd 6 (s0 5) x3).bind fun v83 =>
    (rd 6 (s0 9) x3).bind fun v92 =>
    if v83 = v92 then
      (F_X6_days_L64 x1 s0 k n) x2 (x3 + 1)
    else
    (F_X6_days_L64 x1 s0 k n) (x2 + 1) (x3 + 1)
noncomputable def F_X6_days_J105 (x1 : Int32) (x2 : Int32) (s0 : ST) : Option (Int32 × ST) :=
  some (x2, s0)
noncomputable def F_X6_days_J60 (x1 : Int32) (s0 : ST) : Option (Int32 × ST) :=
  F_X6_days_L64 x1 s0 (fun x2_k64 x3_k64 => F_X6_days_J105 x1 x2_k64 s0) 1000 0 0
noncomputable def F_X6_days (t0 : ST) (x1 : Int32) : Option (Int32 × ST) :=
  if x1 < 1 then
    some ((-2), t0)
  else
  if x1 ≤ 300 then
    (F_X6_hasGarden t0).bind fun v16 =>
    if v16 = 0 then
      some ((-3), t0)
    else
    (F_X0_copyFrom (sb t0 7) (sb t0 3)).bind fun u33 =>
    F_X6_days_L38 x1 (fun x2_k38 s0_k38 => F_X6_days_J60 x1 s0_k38) 1000 0 (gr t0 7 4 u33)
  else
  some ((-2), t0)
abbrev rm_X6_days : Room := { frames := 3, cells := 0, slots := 0, locals := 64 }
set_option maxHeartbeats 4000000 in
set_option maxRecDepth 100000 in
theorem c_X6_days (l : Launch) (D : va_G) (cI cS : ClassId) (a0 : Nat → Nat) (t0 : ST) (x1 : Int32) (r : Int32) (t' : ST) (hF : F_X6_days t0 x1 = some (r, t')) : Met l yX6_days (Cond.code yX6_days cX6_days 4 (some .int) :: ALL) rm_X6_days (PreW D cI cS [.ref (a0 0), .int x1] (pC cI cS a0 t0)) (va_Qi (fun x (_ : Unit) => x = r) (fun _ t => va_P D vwCl (pC cI cS a0 t') t.heap) (AD (pC cI cS a0 t0))) 0 0 (AD (pC cI cS a0 t0)) := by
  refine mW l D cI cS (by decide) (Nat.le_of_ble_eq_true rfl) ?_
  intro p e s m below meth c ls hx hb hr hml hown hts hlocks hP hK hD hS hl
  have hown : s.vm.findClass RX6 = some m.cls := hown
  have hl : lv_has ls 4 [(0, .ref (a0 0)), (1, .int x1)] := hl
  unfold F_X6_days at hF
  refine lv_iload_n hx hb dX6_days_0 rfl (lv_at hl 1 rfl) ?_
  refine lv_iconst (v := 1) hx hb dX6_days_1 (by decide) ?_
  refine lv_icmp_lt (tgt := 12) hx hb dX6_days_2 (by decide) (fun c2 => ?_) (fun c2 => ?_)
  · replace hF := ip c2 hF
    refine lv_bipush (v := (-2)) hx hb dX6_days_12 (by decide) ?_
    exact W.iret hx hb hr (fun t ht hW => ⟨⟨_, (), rfl, (Prod.mk.inj (Option.some.inj hF)).1, by show va_P _ _ _ t.heap; rw [ht, ← (Prod.mk.inj (Option.some.inj hF)).2]; exact hP⟩, hS.F ht⟩) hS.2.2 dX6_days_14
  · replace hF := iq c2 hF
    refine lv_iload_n hx hb dX6_days_5 rfl (lv_at hl 1 rfl) ?_
    refine lv_sipush (v := 300) hx hb dX6_days_6 (by decide) ?_
    refine lv_icmp_le (tgt := 15) hx hb dX6_days_9 (by decide) (fun c9 => ?_) (fun c9 => ?_)
    · replace hF := ip c9 hF
      refine lv_aload_n hx hb dX6_days_15 rfl (lv_at hl 0 rfl) ?_
      obtain ⟨v16, h16, hF⟩ := bd hF
      refine cRb (va_runV (As := []) (rest := []) ⟨hx, hb, hml, hown, hts⟩ (c_X6_hasGarden l D cI cS a0 t0 v16 h16) (cwVA hts (TW.cons _) lv_X6_hasGarden ml_RX6_123 ⟨rfl, rfl⟩ ⟨(Nat.le_of_ble_eq_true rfl), (Nat.le_of_ble_eq_true rfl)⟩) (pRV hK hP (ci := 5) rfl rfl) rfl rfl hl.1 rfl (lv_room (Nat.le_of_ble_eq_true rfl)) dX6_days_16 ⟨Nat.le_refl _, Nat.le_refl _⟩) (fun b16 => ?_)
      refine lv_if_ne (tgt := 25) hx hb dX6_days_19 (by decide) (fun c19 => ?_) (fun c19 => ?_)
      · replace hF := iq c19 hF
        refine lv_aload_n hx hb dX6_days_25 rfl (lv_at hl 0 rfl) ?_
        refine va_get (D := D) (ci := 5) (v := .ref (a0 7)) (C := RX6) (T := TX6) (N := 8) hx hb hts (fun w h => List.mem_cons_of_mem _ (inAX6 w h)) hown hK.1 hP 0 (at_C_0 cI cS _ _) rfl 2 (by decide) (hts _ (List.mem_cons_of_mem _ fl_RX6_25)) (fun _ h9 => h9) rfl dX6_days_26 ?_
        refine lv_aload_n hx hb dX6_days_29 rfl (lv_at hl 0 rfl) ?_
        refine va_get (D := D) (ci := 5) (v := .ref (a0 3)) (C := RX6) (T := TX6) (N := 8) hx hb hts (fun w h => List.mem_cons_of_mem _ (inAX6 w h)) hown hK.1 hP 0 (at_C_0 cI cS _ _) rfl 1 (by decide) (hts _ (List.mem_cons_of_mem _ fl_RX6_21)) (fun _ h9 => h9) rfl dX6_days_30 ?_
        obtain ⟨u33, h33, hF⟩ := bd hF
        refine cWv (ws' := pC cI cS a0 (gr t0 7 4 u33)) (va_runV (As := [.ref (a0 3)]) (rest := []) ⟨hx, hb, hml, hown, hts⟩ (c_X0_copyFrom l D cI cS (sa a0 7) (sa a0 3) (sb t0 7) (sb t0 3) u33 h33) (cwVA hts (TW.cons _) lv_X0_copyFrom ml_RX6_130 ⟨rfl, rfl⟩ ⟨(Nat.le_of_ble_eq_true rfl), (Nat.le_of_ble_eq_true rfl)⟩) (pWV hK (hP.sub [7, 8, 9, 10, 3, 4, 5, 6] (su_C_B7_B3 cI cS _ _)) (hD.sub [7, 8, 9, 10, 3, 4, 5, 6] (by decide) (sm_C_B7_B3 cI cS _ _)) (ci := 0) rfl rfl) rfl rfl hl.1 rfl (lv_room (Nat.le_of_ble_eq_true rfl)) dX6_days_33 ⟨Nat.le_refl _, Nat.le_refl _⟩) hP hD hS [7, 8, 9, 10, 3, 4, 5, 6] (sm_C_B7_B3 cI cS _ _) [.inl 0, .inl 1, .inl 2, .inr 4, .inr 5, .inr 6, .inr 7, .inr 0, .inr 1, .inr 2, .inr 3, .inl 11, .inl 12, .inl 13, .inl 14, .inl 15, .inl 16, .inl 17, .inl 18, .inl 19, .inl 20, .inl 21, .inl 22, .inl 23, .inl 24, .inl 25, .inl 26, .inl 27, .inl 28] (pn_C_B7_B3 cI cS _ _ _) rfl (ad_C cI cS _ _ _) (fun H locs hP hD hS => ?_)
        refine lv_iconst (v := 0) hx hb dX6_days_36 (by decide) ?_
        refine lv_istore_n (lv' := [(2, .int 0), (0, .ref (a0 0)), (1, .int x1)]) hx hb dX6_days_37 rfl hl (by decide) rfl (fun ls hl => ?_)
        have L38 : ∀ (n_38 : Nat) (x2_38 : Int32) (s0_38 : ST) (H : Heap) (locs : List Loc) (ls : Array Slot), va_P D vwCl (pC cI cS a0 s0_38) H → va_D (AD (pC cI cS a0 t0)) (pC cI cS a0 s0_38) → va_S (AD (pC cI cS a0 t0)) s.heap H locs → lv_has ls 4 [(0, .ref (a0 0)), (1, .int x1), (2, .int x2_38)] → F_X6_days_L38 x1 (fun x2_k38 s0_k38 => F_X6_days_J60 x1 s0_k38) n_38 x2_38 s0_38 = some (r, t') → W p l e rm_X6_days s m [.ref (a0 0), .int x1].toArray below meth c H locs 0 0 (MQ below (va_Qi (fun x (_ : Unit) => x = r) (fun _ t => va_P D vwCl (pC cI cS a0 t') t.heap) (AD (pC cI cS a0 t0))) [.ref (a0 0), .int x1].toArray s 0 0 (AD (pC cI cS a0 t0))) (F0 m 38 ls []) := by
          intro n_38
          induction n_38 with
          | zero => intro x2_38 s0_38 H locs ls hP hD hS hl hF; exact nomatch hF
          | succ n_38 ih38 =>
            intro x2_38 s0_38 H locs ls hP hD hS hl hF
            rw [F_X6_days_L38.eq_2] at hF
            refine lv_iload_n hx hb dX6_days_38 rfl (lv_at hl 2 rfl) ?_
            refine lv_iload_n hx hb dX6_days_39 rfl (lv_at hl 1 rfl) ?_
            refine lv_icmp_ge (tgt := 60) hx hb dX6_days_40 (by decide) (fun c40 => ?_) (fun c40 => ?_)
            · replace hF := ip c40 hF
              have hF : F_X6_days_J60 x1 s0_38 = some (r, t') := hF
              unfold F_X6_days_J60 at hF
              refine lv_iconst (v := 0) hx hb dX6_days_60 (by decide) ?_
              refine lv_istore_n (lv' := [(2, .int 0), (0, .ref (a0 0)), (1, .int x1)]) hx hb dX6_days_61 rfl hl (by decide) rfl (fun ls hl => ?_)
              refine lv_iconst (v := 0) hx hb dX6_days_62 (by decide) ?_
              refine lv_istore_n (lv' := [(3, .int 0), (2, .int 0), (0, .ref (a0 0)), (1, .int x1)]) hx hb dX6_days_63 rfl hl (by decide) rfl (fun ls hl => ?_)
              have L64 : ∀ (n_64 : Nat) (x2_64 : Int32) (x3_64 : Int32) (H : Heap) (locs : List Loc) (ls : Array Slot), va_P D vwCl (pC cI cS a0 s0_38) H → va_D (AD (pC cI cS a0 t0)) (pC cI cS a0 s0_38) → va_S (AD (pC cI cS a0 t0)) s.heap H locs → lv_has ls 4 [(0, .ref (a0 0)), (2, .int x2_64), (3, .int x3_64)] → F_X6_days_L64 x1 s0_38 (fun x2_k64 x3_k64 => F_X6_days_J105 x1 x2_k64 s0_38) n_64 x2_64 x3_64 = some (r, t') → W p l e rm_X6_days s m [.ref (a0 0), .int x1].toArray below meth c H locs 0 0 (MQ below (va_Qi (fun x (_ : Unit) => x = r) (fun _ t => va_P D vwCl (pC cI cS a0 t') t.heap) (AD (pC cI cS a0 t0))) [.ref (a0 0), .int x1].toArray s 0 0 (AD (pC cI cS a0 t0))) (F0 m 64 ls []) := by
                intro n_64
                induction n_64 with
                | zero => intro x2_64 x3_64 H locs ls hP hD hS hl hF; exact nomatch hF
                | succ n_64 ih64 =>
                  intro x2_64 x3_64 H locs ls hP hD hS hl hF
                  rw [F_X6_days_L64.eq_2] at hF
                  refine lv_iload_n hx hb dX6_days_64 rfl (lv_at hl 2 rfl) ?_
                  refine lv_aload_n hx hb dX6_days_65 rfl (lv_at hl 0 rfl) ?_
                  refine va_get (D := D) (ci := 5) (v := .ref (a0 3)) (C := RX6) (T := TX6) (N := 8) hx hb hts (fun w h => List.mem_cons_of_mem _ (inAX6 w h)) hown hK.1 hP 0 (at_C_0 cI cS _ _) rfl 1 (by decide) (hts _ (List.mem_cons_of_mem _ fl_RX6_21)) (fun _ h9 => h9) rfl dX6_days_66 ?_
                  refine va_getN (D := D) (ci := 0) (v := .int (s0_38 3 0)) (C := RX0) (T := TX0) (N := 6) hx hb hts (fun w h => List.mem_cons_of_mem _ (inAX0 w h)) hown hK.1 hP 3 (at_C_3 cI cS _ _) rfl 0 (by decide) (nu_RX6_88 hK) (fun _ h9 => h9) rfl dX6_days_69 ?_
                  refine lv_icmp_ge (tgt := 105) hx hb dX6_days_72 (by decide) (fun c72 => ?_) (fun c72 => ?_)
                  · replace hF := ip c72 hF
                    have hF : F_X6_days_J105 x1 x2_64 s0_38 = some (r, t') := hF
                    unfold F_X6_days_J105 at hF
                    refine lv_iload_n hx hb dX6_days_105 rfl (lv_at hl 1 rfl) ?_
                    exact W.iret hx hb hr (fun t ht hW => ⟨⟨_, (), rfl, (Prod.mk.inj (Option.some.inj hF)).1, by show va_P _ _ _ t.heap; rw [ht, ← (Prod.mk.inj (Option.some.inj hF)).2]; exact hP⟩, hS.F ht⟩) hS.2.2 dX6_days_106
                  · replace hF := iq c72 hF
                    refine lv_aload_n hx hb dX6_days_75 rfl (lv_at hl 0 rfl) ?_
                    refine va_get (D := D) (ci := 5) (v := .ref (a0 3)) (C := RX6) (T := TX6) (N := 8) hx hb hts (fun w h => List.mem_cons_of_mem _ (inAX6 w h)) hown hK.1 hP 0 (at_C_0 cI cS _ _) rfl 1 (by decide) (hts _ (List.mem_cons_of_mem _ fl_RX6_21)) (fun _ h9 => h9) rfl dX6_days_76 ?_
                    refine va_getN (D := D) (ci := 0) (v := .ref (a0 5)) (C := RX0) (T := TX0) (N := 6) hx hb hts (fun w h => List.mem_cons_of_mem _ (inAX0 w h)) hown hK.1 hP 3 (at_C_3 cI cS _ _) rfl 4 (by decide) (nu_RX6_99 hK) (fun _ h9 => h9) rfl dX6_days_79 ?_
                    refine lv_iload_n hx hb dX6_days_82 rfl (lv_at hl 2 rfl) ?_
                    obtain ⟨v83, h83, hF⟩ := bd hF
                    refine rI hx hb hK.1 hP 5 0 (at_C_5 cI cS _ _) rfl h83 dX6_days_83 ?_
                    refine lv_aload_n hx hb dX6_days_84 rfl (lv_at hl 0 rfl) ?_
                    refine va_get (D := D) (ci := 5) (v := .ref (a0 7)) (C := RX6) (T := TX6) (N := 8) hx hb hts (fun w h => List.mem_cons_of_mem _ (inAX6 w h)) hown hK.1 hP 0 (at_C_0 cI cS _ _) rfl 2 (by decide) (hts _ (List.mem_cons_of_mem _ fl_RX6_25)) (fun _ h9 => h9) rfl dX6_days_85 ?_
                    refine va_getN (D := D) (ci := 0) (v := .ref (a0 9)) (C := RX0) (T := TX0) (N := 6) hx hb hts (fun w h => List.mem_cons_of_mem _ (inAX0 w h)) hown hK.1 hP 7 (at_C_7 cI cS _ _) rfl 4 (by decide) (nu_RX6_99 hK) (fun _ h9 => h9) rfl dX6_days_88 ?_
                    refine lv_iload_n hx hb dX6_days_91 rfl (lv_at hl 2 rfl) ?_
                    obtain ⟨v92, h92, hF⟩ := bd hF
                    refine rI hx hb hK.1 hP 9 0 (at_C_9 cI cS _ _) rfl h92 dX6_days_92 ?_
                    refine lv_icmp_eq (tgt := 99) hx hb dX6_days_93 (by decide) (fun c93 => ?_) (fun c93 => ?_)
                    · replace hF := ip c93 hF
                      refine lv_iinc (v := (x3_64 + 1)) (lv' := [(3, .int (x3_64 + 1)), (0, .ref (a0 0)), (2, .int x2_64)]) hx hb dX6_days_99 hl (k := 2) rfl rfl (by decide) rfl (fun ls hl => ?_)
                      refine lv_goto (tgt := 64) hx hb dX6_days_102 (by decide) ?_
                      exact ih64 x2_64 (x3_64 + 1) _ _ _ hP hD hS (lv_sub hl [1, 2, 0] rfl) hF
                    · replace hF := iq c93 hF
                      refine lv_iinc (v := (x2_64 + 1)) (lv' := [(2, .int (x2_64 + 1)), (0, .ref (a0 0)), (3, .int x3_64)]) hx hb dX6_days_96 hl (k := 1) rfl rfl (by decide) rfl (fun ls hl => ?_)
                      refine lv_iinc (v := (x3_64 + 1)) (lv' := [(3, .int (x3_64 + 1)), (2, .int (x2_64 + 1)), (0, .ref (a0 0))]) hx hb dX6_days_99 hl (k := 2) rfl rfl (by decide) rfl (fun ls hl => ?_)
                      refine lv_goto (tgt := 64) hx hb dX6_days_102 (by decide) ?_
                      exact ih64 (x2_64 + 1) (x3_64 + 1) _ _ _ hP hD hS (lv_sub hl [2, 1, 0] rfl) hF
              exact L64 1000 0 0 _ _ _ hP hD hS (lv_sub hl [2, 1, 0] rfl) hF
            · replace hF := iq c40 hF
              refine lv_aload_n hx hb dX6_days_43 rfl (lv_at hl 0 rfl) ?_
              refine va_get (D := D) (ci := 5) (v := .ref (a0 3)) (C := RX6) (T := TX6) (N := 8) hx hb hts (fun w h => List.mem_cons_of_mem _ (inAX6 w h)) hown hK.1 hP 0 (at_C_0 cI cS _ _) rfl 1 (by decide) (hts _ (List.mem_cons_of_mem _ fl_RX6_21)) (fun _ h9 => h9) rfl dX6_days_44 ?_
              refine lv_aload_n hx hb dX6_days_47 rfl (lv_at hl 0 rfl) ?_
              refine va_get (D := D) (ci := 5) (v := .ref (a0 1)) (C := RX6) (T := TX6) (N := 8) hx hb hts (fun w h => List.mem_cons_of_mem _ (inAX6 w h)) hown hK.1 hP 0 (at_C_0 cI cS _ _) rfl 0 (by decide) (hts _ (List.mem_cons_of_mem _ fl_RX6_12)) (fun _ h9 => h9) rfl dX6_days_48 ?_
              obtain ⟨u51, h51, hF⟩ := bd hF
              refine cWv (ws' := pC cI cS a0 (gr s0_38 3 4 u51)) (va_runV (As := [.ref (a0 1)]) (rest := []) ⟨hx, hb, hml, hown, hts⟩ (c_X0_goOn l D cI cS (sa a0 3) (sa a0 1) (sb s0_38 3) (sb s0_38 1) u51 h51) (cwVA hts (TW.cons _) lv_X0_goOn ml_RX6_134 ⟨rfl, rfl⟩ ⟨(Nat.le_of_ble_eq_true rfl), (Nat.le_of_ble_eq_true rfl)⟩) (pWV hK (hP.sub [3, 4, 5, 6, 1, 2] (su_C_B3_L1 cI cS _ _)) (hD.sub [3, 4, 5, 6, 1, 2] (by decide) (sm_C_B3_L1 cI cS _ _)) (ci := 0) rfl rfl) rfl rfl hl.1 rfl (lv_room (Nat.le_of_ble_eq_true rfl)) dX6_days_51 ⟨Nat.le_refl _, Nat.le_refl _⟩) hP hD hS [3, 4, 5, 6, 1, 2] (sm_C_B3_L1 cI cS _ _) [.inl 0, .inr 4, .inr 5, .inr 0, .inr 1, .inr 2, .inr 3, .inl 7, .inl 8, .inl 9, .inl 10, .inl 11, .inl 12, .inl 13, .inl 14, .inl 15, .inl 16, .inl 17, .inl 18, .inl 19, .inl 20, .inl 21, .inl 22, .inl 23, .inl 24, .inl 25, .inl 26, .inl 27, .inl 28] (pn_C_B3_L1 cI cS _ _ _) rfl (ad_C cI cS _ _ _) (fun H locs hP hD hS => ?_)
              refine lv_iinc (v := (x2_38 + 1)) (lv' := [(2, .int (x2_38 + 1)), (0, .ref (a0 0)), (1, .int x1)]) hx hb dX6_days_54 hl (k := 2) rfl rfl (by decide) rfl (fun ls hl => ?_)
              refine lv_goto (tgt := 38) hx hb dX6_days_57 (by decide) ?_
              exact ih38 (x2_38 + 1) (gr s0_38 3 4 u51) _ _ _ hP hD hS (lv_sub hl [1, 2, 0] rfl) hF
        exact L38 1000 0 (gr t0 7 4 u33) _ _ _ hP hD hS (lv_sub hl [1, 2, 0] rfl) hF
      · replace hF := ip c19 hF
        refine lv_bipush (v := (-3)) hx hb dX6_days_22 (by decide) ?_
        exact W.iret hx hb hr (fun t ht hW => ⟨⟨_, (), rfl, (Prod.mk.inj (Option.some.inj hF)).1, by show va_P _ _ _ t.heap; rw [ht, ← (Prod.mk.inj (Option.some.inj hF)).2]; exact hP⟩, hS.F ht⟩) hS.2.2 dX6_days_24
    · replace hF := iq c9 hF
      refine lv_bipush (v := (-2)) hx hb dX6_days_12 (by decide) ?_
      exact W.iret hx hb hr (fun t ht hW => ⟨⟨_, (), rfl, (Prod.mk.inj (Option.some.inj hF)).1, by show va_P _ _ _ t.heap; rw [ht, ← (Prod.mk.inj (Option.some.inj hF)).2]; exact hP⟩, hS.F ht⟩) hS.2.2 dX6_days_14
noncomputable def F_X6_look (t0 : ST) (x1 : Int32) : Option (Int32 × ST) :=
  (F_X0_has (sb t0 3) x1).bind fun v5 =>
  if v5 = 0 then
    some ((-1), t0)
  else
  b2 (F_X0_lookAt (sb t0 3) x1) fun v18 u18 =>
  if v18 = 0 then
    some ((-3), (gr t0 3 4 u18))
  else
  (rd 6 (u18 2) x1).bind fun v32 =>
  some (v32, (gr t0 3 4 u18))
abbrev rm_X6_look : Room := { frames := 2, cells := 0, slots := 0, locals := 43 }
set_option maxHeartbeats 4000000 in
set_option maxRecDepth 100000 in
theorem c_X6_look (l : Launch) (D : va_G) (cI cS : ClassId) (a0 : Nat → Nat) (t0 : ST) (x1 : Int32) (r : Int32) (t' : ST) (hF : F_X6_look t0 x1 = some (r, t')) : Met l yX6_look (Cond.code yX6_look cX6_look 2 (some .int) :: ALL) rm_X6_look (PreW D cI cS [.ref (a0 0), .int x1] (pC cI cS a0 t0)) (va_Qi (fun x (_ : Unit) => x = r) (fun _ t => va_P D vwCl (pC cI cS a0 t') t.heap) (AD (pC cI cS a0 t0))) 0 0 (AD (pC cI cS a0 t0)) := by
  refine mW l D cI cS (by decide) (Nat.le_of_ble_eq_true rfl) ?_
  intro p e s m below meth c ls hx hb hr hml hown hts hlocks hP hK hD hS hl
  have hown : s.vm.findClass RX6 = some m.cls := hown
  have hl : lv_has ls 2 [(0, .ref (a0 0)), (1, .int x1)] := hl
  unfold F_X6_look at hF
  refine lv_aload_n hx hb dX6_look_0 rfl (lv_at hl 0 rfl) ?_
  refine va_get (D := D) (ci := 5) (v := .ref (a0 3)) (C := RX6) (T := TX6) (N := 8) hx hb hts (fun w h => List.mem_cons_of_mem _ (inAX6 w h)) hown hK.1 hP 0 (at_C_0 cI cS _ _) rfl 1 (by decide) (hts _ (List.mem_cons_of_mem _ fl_RX6_21)) (fun _ h9 => h9) rfl dX6_look_1 ?_
  refine lv_iload_n hx hb dX6_look_4 rfl (lv_at hl 1 rfl) ?_
  obtain ⟨v5, h5, hF⟩ := bd hF
  refine cRb (va_runV (As := [.int x1]) (rest := []) ⟨hx, hb, hml, hown, hts⟩ (c_X0_has l D cI cS (sa a0 3) (sb t0 3) x1 v5 h5) (cwVA hts (TW.cons _) lv_X0_has ml_RX6_92 ⟨rfl, rfl⟩ ⟨(Nat.le_of_ble_eq_true rfl), (Nat.le_of_ble_eq_true rfl)⟩) (pRV hK (hP.sub [3, 4, 5, 6] (su_C_B3 cI cS _ _)) (ci := 0) rfl rfl) rfl rfl hl.1 rfl (lv_room (Nat.le_of_ble_eq_true rfl)) dX6_look_5 ⟨Nat.le_refl _, Nat.le_refl _⟩) (fun b5 => ?_)
  refine lv_if_ne (tgt := 13) hx hb dX6_look_8 (by decide) (fun c8 => ?_) (fun c8 => ?_)
  · replace hF := iq c8 hF
    refine lv_aload_n hx hb dX6_look_13 rfl (lv_at hl 0 rfl) ?_
    refine va_get (D := D) (ci := 5) (v := .ref (a0 3)) (C := RX6) (T := TX6) (N := 8) hx hb hts (fun w h => List.mem_cons_of_mem _ (inAX6 w h)) hown hK.1 hP 0 (at_C_0 cI cS _ _) rfl 1 (by decide) (hts _ (List.mem_cons_of_mem _ fl_RX6_21)) (fun _ h9 => h9) rfl dX6_look_14 ?_
    refine lv_iload_n hx hb dX6_look_17 rfl (lv_at hl 1 rfl) ?_
    obtain ⟨v18, u18, h18, hF⟩ := bd2 hF
    refine cWb (ws' := pC cI cS a0 (gr t0 3 4 u18)) (va_runV (As := [.int x1]) (rest := []) ⟨hx, hb, hml, hown, hts⟩ (c_X0_lookAt l D cI cS (sa a0 3) (sb t0 3) x1 v18 u18 h18) (cwVA hts (TW.cons _) lv_X0_lookAt ml_RX6_138 ⟨rfl, rfl⟩ ⟨(Nat.le_of_ble_eq_true rfl), (Nat.le_of_ble_eq_true rfl)⟩) (pWV hK (hP.sub [3, 4, 5, 6] (su_C_B3 cI cS _ _)) (hD.sub [3, 4, 5, 6] (by decide) (sm_C_B3 cI cS _ _)) (ci := 0) rfl rfl) rfl rfl hl.1 rfl (lv_room (Nat.le_of_ble_eq_true rfl)) dX6_look_18 ⟨Nat.le_refl _, Nat.le_refl _⟩) hP hD hS [3, 4, 5, 6] (sm_C_B3 cI cS _ _) [.inl 0, .inl 1, .inl 2, .inr 0, .inr 1, .inr 2, .inr 3, .inl 7, .inl 8, .inl 9, .inl 10, .inl 11, .inl 12, .inl 13, .inl 14, .inl 15, .inl 16, .inl 17, .inl 18, .inl 19, .inl 20, .inl 21, .inl 22, .inl 23, .inl 24, .inl 25, .inl 26, .inl 27, .inl 28] (pn_C_B3 cI cS _ _ _) rfl (ad_C cI cS _ _ _) (fun b18 H locs hP hD hS => ?_)
    refine lv_if_eq (tgt := 36) hx hb dX6_look_21 (by decide) (fun c21 => ?_) (fun c21 => ?_)
    · replace hF := ip c21 hF
      refine lv_bipush (v := (-3)) hx hb dX6_look_36 (by decide) ?_
      exact W.iret hx hb hr (fun t ht hW => ⟨⟨_, (), rfl, (Prod.mk.inj (Option.some.inj hF)).1, by show va_P _ _ _ t.heap; rw [ht, ← (Prod.mk.inj (Option.some.inj hF)).2]; exact hP⟩, hS.F ht⟩) hS.2.2 dX6_look_38
    · replace hF := iq c21 hF
      refine lv_aload_n hx hb dX6_look_24 rfl (lv_at hl 0 rfl) ?_
      refine va_get (D := D) (ci := 5) (v := .ref (a0 3)) (C := RX6) (T := TX6) (N := 8) hx hb hts (fun w h => List.mem_cons_of_mem _ (inAX6 w h)) hown hK.1 hP 0 (at_C_0 cI cS _ _) rfl 1 (by decide) (hts _ (List.mem_cons_of_mem _ fl_RX6_21)) (fun _ h9 => h9) rfl dX6_look_25 ?_
      refine va_getN (D := D) (ci := 0) (v := .ref (a0 5)) (C := RX0) (T := TX0) (N := 6) hx hb hts (fun w h => List.mem_cons_of_mem _ (inAX0 w h)) hown hK.1 hP 3 (at_C_3 cI cS _ _) rfl 4 (by decide) (nu_RX6_99 hK) (fun _ h9 => h9) rfl dX6_look_28 ?_
      refine lv_iload_n hx hb dX6_look_31 rfl (lv_at hl 1 rfl) ?_
      obtain ⟨v32, h32, hF⟩ := bd hF
      refine rI hx hb hK.1 hP 5 0 (at_C_5 cI cS _ _) rfl h32 dX6_look_32 ?_
      refine lv_goto (tgt := 38) hx hb dX6_look_33 (by decide) ?_
      exact W.iret hx hb hr (fun t ht hW => ⟨⟨_, (), rfl, (Prod.mk.inj (Option.some.inj hF)).1, by show va_P _ _ _ t.heap; rw [ht, ← (Prod.mk.inj (Option.some.inj hF)).2]; exact hP⟩, hS.F ht⟩) hS.2.2 dX6_look_38
  · replace hF := ip c8 hF
    refine lv_iconst (v := (-1)) hx hb dX6_look_11 (by decide) ?_
    exact W.iret hx hb hr (fun t ht hW => ⟨⟨_, (), rfl, (Prod.mk.inj (Option.some.inj hF)).1, by show va_P _ _ _ t.heap; rw [ht, ← (Prod.mk.inj (Option.some.inj hF)).2]; exact hP⟩, hS.F ht⟩) hS.2.2 dX6_look_12
noncomputable def F_X6_away (t0 : ST) (x1 : Int32) : Option (Int32 × ST) :=
  (F_X0_has (sb t0 3) x1).bind fun v5 =>
  if v5 = 0 then
    some ((-1), t0)
  else
  b2 (F_X0_lookAwayFrom (sb t0 3) x1) fun v18 u18 =>
  if v18 = 0 then
    some ((-3), (gr t0 3 4 u18))
  else
  (F_J6_bitCount_0f7a4 (u18 0 2)).bind fun v31 =>
  some (v31, (gr t0 3 4 u18))
abbrev rm_X6_away : Room := { frames := 2, cells := 0, slots := 0, locals := 43 }
set_option maxHeartbeats 4000000 in
set_option maxRecDepth 100000 in
theorem c_X6_away (l : Launch) (D : va_G) (cI cS : ClassId) (a0 : Nat → Nat) (t0 : ST) (x1 : Int32) (r : Int32) (t' : ST) (hF : F_X6_away t0 x1 = some (r, t')) : Met l yX6_away (Cond.code yX6_away cX6_away 2 (some .int) :: ALL) rm_X6_away (PreW D cI cS [.ref (a0 0), .int x1] (pC cI cS a0 t0)) (va_Qi (fun x (_ : Unit) => x = r) (fun _ t => va_P D vwCl (pC cI cS a0 t') t.heap) (AD (pC cI cS a0 t0))) 0 0 (AD (pC cI cS a0 t0)) := by
  refine mW l D cI cS (by decide) (Nat.le_of_ble_eq_true rfl) ?_
  intro p e s m below meth c ls hx hb hr hml hown hts hlocks hP hK hD hS hl
  have hown : s.vm.findClass RX6 = some m.cls := hown
  have hl : lv_has ls 2 [(0, .ref (a0 0)), (1, .int x1)] := hl
  unfold F_X6_away at hF
  refine lv_aload_n hx hb dX6_away_0 rfl (lv_at hl 0 rfl) ?_
  refine va_get (D := D) (ci := 5) (v := .ref (a0 3)) (C := RX6) (T := TX6) (N := 8) hx hb hts (fun w h => List.mem_cons_of_mem _ (inAX6 w h)) hown hK.1 hP 0 (at_C_0 cI cS _ _) rfl 1 (by decide) (hts _ (List.mem_cons_of_mem _ fl_RX6_21)) (fun _ h9 => h9) rfl dX6_away_1 ?_
  refine lv_iload_n hx hb dX6_away_4 rfl (lv_at hl 1 rfl) ?_
  obtain ⟨v5, h5, hF⟩ := bd hF
  refine cRb (va_runV (As := [.int x1]) (rest := []) ⟨hx, hb, hml, hown, hts⟩ (c_X0_has l D cI cS (sa a0 3) (sb t0 3) x1 v5 h5) (cwVA hts (TW.cons _) lv_X0_has ml_RX6_92 ⟨rfl, rfl⟩ ⟨(Nat.le_of_ble_eq_true rfl), (Nat.le_of_ble_eq_true rfl)⟩) (pRV hK (hP.sub [3, 4, 5, 6] (su_C_B3 cI cS _ _)) (ci := 0) rfl rfl) rfl rfl hl.1 rfl (lv_room (Nat.le_of_ble_eq_true rfl)) dX6_away_5 ⟨Nat.le_refl _, Nat.le_refl _⟩) (fun b5 => ?_)
  refine lv_if_ne (tgt := 13) hx hb dX6_away_8 (by decide) (fun c8 => ?_) (fun c8 => ?_)
  · replace hF := iq c8 hF
    refine lv_aload_n hx hb dX6_away_13 rfl (lv_at hl 0 rfl) ?_
    refine va_get (D := D) (ci := 5) (v := .ref (a0 3)) (C := RX6) (T := TX6) (N := 8) hx hb hts (fun w h => List.mem_cons_of_mem _ (inAX6 w h)) hown hK.1 hP 0 (at_C_0 cI cS _ _) rfl 1 (by decide) (hts _ (List.mem_cons_of_mem _ fl_RX6_21)) (fun _ h9 => h9) rfl dX6_away_14 ?_
    refine lv_iload_n hx hb dX6_away_17 rfl (lv_at hl 1 rfl) ?_
    obtain ⟨v18, u18, h18, hF⟩ := bd2 hF
    refine cWb (ws' := pC cI cS a0 (gr t0 3 4 u18)) (va_runV (As := [.int x1]) (rest := []) ⟨hx, hb, hml, hown, hts⟩ (c_X0_lookAwayFrom l D cI cS (sa a0 3) (sb t0 3) x1 v18 u18 h18) (cwVA hts (TW.cons _) lv_X0_lookAwayFrom ml_RX6_141 ⟨rfl, rfl⟩ ⟨(Nat.le_of_ble_eq_true rfl), (Nat.le_of_ble_eq_true rfl)⟩) (pWV hK (hP.sub [3, 4, 5, 6] (su_C_B3 cI cS _ _)) (hD.sub [3, 4, 5, 6] (by decide) (sm_C_B3 cI cS _ _)) (ci := 0) rfl rfl) rfl rfl hl.1 rfl (lv_room (Nat.le_of_ble_eq_true rfl)) dX6_away_18 ⟨Nat.le_refl _, Nat.le_refl _⟩) hP hD hS [3, 4, 5, 6] (sm_C_B3 cI cS _ _) [.inl 0, .inl 1, .inl 2, .inr 0, .inr 1, .inr 2, .inr 3, .inl 7, .inl 8, .inl 9, .inl 10, .inl 11, .inl 12, .inl 13, .inl 14, .inl 15, .inl 16, .inl 17, .inl 18, .inl 19, .inl 20, .inl 21, .inl 22, .inl 23, .inl 24, .inl 25, .inl 26, .inl 27, .inl 28] (pn_C_B3 cI cS _ _ _) rfl (ad_C cI cS _ _ _) (fun b18 H locs hP hD hS => ?_)
    refine lv_if_eq (tgt := 37) hx hb dX6_away_21 (by decide) (fun c21 => ?_) (fun c21 => ?_)
    · replace hF := ip c21 hF
      refine lv_bipush (v := (-3)) hx hb dX6_away_37 (by decide) ?_
      exact W.iret hx hb hr (fun t ht hW => ⟨⟨_, (), rfl, (Prod.mk.inj (Option.some.inj hF)).1, by show va_P _ _ _ t.heap; rw [ht, ← (Prod.mk.inj (Option.some.inj hF)).2]; exact hP⟩, hS.F ht⟩) hS.2.2 dX6_away_39
    · replace hF := iq c21 hF
      refine lv_aload_n hx hb dX6_away_24 rfl (lv_at hl 0 rfl) ?_
      refine va_get (D := D) (ci := 5) (v := .ref (a0 3)) (C := RX6) (T := TX6) (N := 8) hx hb hts (fun w h => List.mem_cons_of_mem _ (inAX6 w h)) hown hK.1 hP 0 (at_C_0 cI cS _ _) rfl 1 (by decide) (hts _ (List.mem_cons_of_mem _ fl_RX6_21)) (fun _ h9 => h9) rfl dX6_away_25 ?_
      refine va_getN (D := D) (ci := 0) (v := .int (u18 0 2)) (C := RX0) (T := TX0) (N := 6) hx hb hts (fun w h => List.mem_cons_of_mem _ (inAX0 w h)) hown hK.1 hP 3 (at_C_3 cI cS _ _) rfl 2 (by decide) (nu_RX6_144 hK) (fun _ h9 => h9) rfl dX6_away_28 ?_
      obtain ⟨v31, h31, hF⟩ := bd hF
      refine cRe (va_runS (As := [.int (u18 0 2)]) (rest := []) ⟨hx, hb, hml, hown, hts⟩ (c_J6_bitCount_0f7a4 l D cI cS (u18 0 2) v31 h31) (cwSA hts (TW.cons _) ls_J6_bitCount_0f7a4 ml_RX6_111 ⟨rfl, rfl⟩ ⟨(Nat.le_of_ble_eq_true rfl), (Nat.le_of_ble_eq_true rfl)⟩) (pRS hK pnil) rfl rfl hl.1 rfl (lv_room (Nat.le_of_ble_eq_true rfl)) dX6_away_31 ⟨Nat.le_refl _, Nat.le_refl _⟩) ?_
      refine lv_goto (tgt := 39) hx hb dX6_away_34 (by decide) ?_
      exact W.iret hx hb hr (fun t ht hW => ⟨⟨_, (), rfl, (Prod.mk.inj (Option.some.inj hF)).1, by show va_P _ _ _ t.heap; rw [ht, ← (Prod.mk.inj (Option.some.inj hF)).2]; exact hP⟩, hS.F ht⟩) hS.2.2 dX6_away_39
  · replace hF := ip c8 hF
    refine lv_iconst (v := (-1)) hx hb dX6_away_11 (by decide) ?_
    exact W.iret hx hb hr (fun t ht hW => ⟨⟨_, (), rfl, (Prod.mk.inj (Option.some.inj hF)).1, by show va_P _ _ _ t.heap; rw [ht, ← (Prod.mk.inj (Option.some.inj hF)).2]; exact hP⟩, hS.F ht⟩) hS.2.2 dX6_away_12
noncomputable def F_X6_stroke (t0 : ST) (x1 : Int32) (x2 : Int32) : Option (Int32 × ST) :=
  (F_X0_has (sb t0 3) x1).bind fun v5 =>
  if v5 = 0 then
    some ((-1), t0)
  else
  if x2 < 0 then
    some ((-2), t0)
  else
  if x2 < 6 then
    (F_X0_strikeAt (sb t0 3) x1 x2).bind fun u32 =>
    (rd 6 (u32 2) x1).bind fun v43 =>
    some (v43, (gr t0 3 4 u32))
  else
  some ((-2), t0)
abbrev rm_X6_stroke : Room := { frames := 1, cells := 0, slots := 0, locals := 22 }
set_option maxHeartbeats 4000000 in
set_option maxRecDepth 100000 in
theorem c_X6_stroke (l : Launch) (D : va_G) (cI cS : ClassId) (a0 : Nat → Nat) (t0 : ST) (x1 : Int32) (x2 : Int32) (r : Int32) (t' : ST) (hF : F_X6_stroke t0 x1 x2 = some (r, t')) : Met l yX6_stroke (Cond.code yX6_stroke cX6_stroke 3 (some .int) :: ALL) rm_X6_stroke (PreW D cI cS [.ref (a0 0), .int x1, .int x2] (pC cI cS a0 t0)) (va_Qi (fun x (_ : Unit) => x = r) (fun _ t => va_P D vwCl (pC cI cS a0 t') t.heap) (AD (pC cI cS a0 t0))) 0 0 (AD (pC cI cS a0 t0)) := by
  refine mW l D cI cS (by decide) (Nat.le_of_ble_eq_true rfl) ?_
  intro p e s m below meth c ls hx hb hr hml hown hts hlocks hP hK hD hS hl
  have hown : s.vm.findClass RX6 = some m.cls := hown
  have hl : lv_has ls 3 [(0, .ref (a0 0)), (1, .int x1), (2, .int x2)] := hl
  unfold F_X6_stroke at hF
  refine lv_aload_n hx hb dX6_stroke_0 rfl (lv_at hl 0 rfl) ?_
  refine va_get (D := D) (ci := 5) (v := .ref (a0 3)) (C := RX6) (T := TX6) (N := 8) hx hb hts (fun w h => List.mem_cons_of_mem _ (inAX6 w h)) hown hK.1 hP 0 (at_C_0 cI cS _ _) rfl 1 (by decide) (hts _ (List.mem_cons_of_mem _ fl_RX6_21)) (fun _ h9 => h9) rfl dX6_stroke_1 ?_
  refine lv_iload_n hx hb dX6_stroke_4 rfl (lv_at hl 1 rfl) ?_
  obtain ⟨v5, h5, hF⟩ := bd hF
  refine cRb (va_runV (As := [.int x1]) (rest := []) ⟨hx, hb, hml, hown, hts⟩ (c_X0_has l D cI cS (sa a0 3) (sb t0 3) x1 v5 h5) (cwVA hts (TW.cons _) lv_X0_has ml_RX6_92 ⟨rfl, rfl⟩ ⟨(Nat.le_of_ble_eq_true rfl), (Nat.le_of_ble_eq_true rfl)⟩) (pRV hK (hP.sub [3, 4, 5, 6] (su_C_B3 cI cS _ _)) (ci := 0) rfl rfl) rfl rfl hl.1 rfl (lv_room (Nat.le_of_ble_eq_true rfl)) dX6_stroke_5 ⟨Nat.le_refl _, Nat.le_refl _⟩) (fun b5 => ?_)
  refine lv_if_ne (tgt := 13) hx hb dX6_stroke_8 (by decide) (fun c8 => ?_) (fun c8 => ?_)
  · replace hF := iq c8 hF
    refine lv_iload_n hx hb dX6_stroke_13 rfl (lv_at hl 2 rfl) ?_
    refine lv_if_lt (tgt := 23) hx hb dX6_stroke_14 (by decide) (fun c14 => ?_) (fun c14 => ?_)
    · replace hF := ip c14 hF
      refine lv_bipush (v := (-2)) hx hb dX6_stroke_23 (by decide) ?_
      exact W.iret hx hb hr (fun t ht hW => ⟨⟨_, (), rfl, (Prod.mk.inj (Option.some.inj hF)).1, by show va_P _ _ _ t.heap; rw [ht, ← (Prod.mk.inj (Option.some.inj hF)).2]; exact hP⟩, hS.F ht⟩) hS.2.2 dX6_stroke_25
    · replace hF := iq c14 hF
      refine lv_iload_n hx hb dX6_stroke_17 rfl (lv_at hl 2 rfl) ?_
      refine lv_bipush (v := 6) hx hb dX6_stroke_18 (by decide) ?_
      refine lv_icmp_lt (tgt := 26) hx hb dX6_stroke_20 (by decide) (fun c20 => ?_) (fun c20 => ?_)
      · replace hF := ip c20 hF
        refine lv_aload_n hx hb dX6_stroke_26 rfl (lv_at hl 0 rfl) ?_
        refine va_get (D := D) (ci := 5) (v := .ref (a0 3)) (C := RX6) (T := TX6) (N := 8) hx hb hts (fun w h => List.mem_cons_of_mem _ (inAX6 w h)) hown hK.1 hP 0 (at_C_0 cI cS _ _) rfl 1 (by decide) (hts _ (List.mem_cons_of_mem _ fl_RX6_21)) (fun _ h9 => h9) rfl dX6_stroke_27 ?_
        refine lv_iload_n hx hb dX6_stroke_30 rfl (lv_at hl 1 rfl) ?_
        refine lv_iload_n hx hb dX6_stroke_31 rfl (lv_at hl 2 rfl) ?_
        obtain ⟨u32, h32, hF⟩ := bd hF
        refine cWv (ws' := pC cI cS a0 (gr t0 3 4 u32)) (va_runV (As := [.int x1, .int x2]) (rest := []) ⟨hx, hb, hml, hown, hts⟩ (c_X0_strikeAt l D cI cS (sa a0 3) (sb t0 3) x1 x2 u32 h32) (cwVA hts (TW.cons _) lv_X0_strikeAt ml_RX6_147 ⟨rfl, rfl⟩ ⟨(Nat.le_of_ble_eq_true rfl), (Nat.le_of_ble_eq_true rfl)⟩) (pWV hK (hP.sub [3, 4, 5, 6] (su_C_B3 cI cS _ _)) (hD.sub [3, 4, 5, 6] (by decide) (sm_C_B3 cI cS _ _)) (ci := 0) rfl rfl) rfl rfl hl.1 rfl (lv_room (Nat.le_of_ble_eq_true rfl)) dX6_stroke_32 ⟨Nat.le_refl _, Nat.le_refl _⟩) hP hD hS [3, 4, 5, 6] (sm_C_B3 cI cS _ _) [.inl 0, .inl 1, .inl 2, .inr 0, .inr 1, .inr 2, .inr 3, .inl 7, .inl 8, .inl 9, .inl 10, .inl 11, .inl 12, .inl 13, .inl 14, .inl 15, .inl 16, .inl 17, .inl 18, .inl 19, .inl 20, .inl 21, .inl 22, .inl 23, .inl 24, .inl 25, .inl 26, .inl 27, .inl 28] (pn_C_B3 cI cS _ _ _) rfl (ad_C cI cS _ _ _) (fun H locs hP hD hS => ?_)
        refine lv_aload_n hx hb dX6_stroke_35 rfl (lv_at hl 0 rfl) ?_
        refine va_get (D := D) (ci := 5) (v := .ref (a0 3)) (C := RX6) (T := TX6) (N := 8) hx hb hts (fun w h => List.mem_cons_of_mem _ (inAX6 w h)) hown hK.1 hP 0 (at_C_0 cI cS _ _) rfl 1 (by decide) (hts _ (List.mem_cons_of_mem _ fl_RX6_21)) (fun _ h9 => h9) rfl dX6_stroke_36 ?_
        refine va_getN (D := D) (ci := 0) (v := .ref (a0 5)) (C := RX0) (T := TX0) (N := 6) hx hb hts (fun w h => List.mem_cons_of_mem _ (inAX0 w h)) hown hK.1 hP 3 (at_C_3 cI cS _ _) rfl 4 (by decide) (nu_RX6_99 hK) (fun _ h9 => h9) rfl dX6_stroke_39 ?_
        refine lv_iload_n hx hb dX6_stroke_42 rfl (lv_at hl 1 rfl) ?_
        obtain ⟨v43, h43, hF⟩ := bd hF
        refine rI hx hb hK.1 hP 5 0 (at_C_5 cI cS _ _) rfl h43 dX6_stroke_43 ?_
        exact W.iret hx hb hr (fun t ht hW => ⟨⟨_, (), rfl, (Prod.mk.inj (Option.some.inj hF)).1, by show va_P _ _ _ t.heap; rw [ht, ← (Prod.mk.inj (Option.some.inj hF)).2]; exact hP⟩, hS.F ht⟩) hS.2.2 dX6_stroke_44
      · replace hF := iq c20 hF
        refine lv_bipush (v := (-2)) hx hb dX6_stroke_23 (by decide) ?_
        exact W.iret hx hb hr (fun t ht hW => ⟨⟨_, (), rfl, (Prod.mk.inj (Option.some.inj hF)).1, by show va_P _ _ _ t.heap; rw [ht, ← (Prod.mk.inj (Option.some.inj hF)).2]; exact hP⟩, hS.F ht⟩) hS.2.2 dX6_stroke_25
  · replace hF := ip c8 hF
    refine lv_iconst (v := (-1)) hx hb dX6_stroke_11 (by decide) ?_
    exact W.iret hx hb hr (fun t ht hW => ⟨⟨_, (), rfl, (Prod.mk.inj (Option.some.inj hF)).1, by show va_P _ _ _ t.heap; rw [ht, ← (Prod.mk.inj (Option.some.inj hF)).2]; exact hP⟩, hS.F ht⟩) hS.2.2 dX6_stroke_12
noncomputable def F_X6_canTake (x0 : Int32) : Option Int32 :=
  if x0 < 0 then
    some 0
  else
  if 20 < x0 then
    some 0
  else
  some 1
abbrev rm_X6_canTake : Room := { frames := 0, cells := 0, slots := 0, locals := 0 }
set_option maxHeartbeats 4000000 in
set_option maxRecDepth 100000 in
theorem c_X6_canTake (l : Launch) (D : va_G) (cI cS : ClassId) (x0 : Int32) (r : Int32) (hF : F_X6_canTake x0 = some r) : Met l yX6_canTake (Cond.code yX6_canTake cX6_canTake 1 (some .boolean) :: ALL) rm_X6_canTake (PreR D cI cS [.int x0] ([])) (vp_Si (fun x => x = r ∧ (x = 0 ∨ x = 1))) 0 0 (fun _ => False) := by
  refine mR l D cI cS (by decide) (Nat.le_of_ble_eq_true rfl) ?_
  intro p e s m below meth c ls hx hb hr hml hown hts hlocks hP hK hl
  have hown : s.vm.findClass RX6 = some m.cls := hown
  have hl : lv_has ls 1 [(0, .int x0)] := hl
  unfold F_X6_canTake at hF
  refine lv_iload_n hx hb dX6_canTake_0 rfl (lv_at hl 0 rfl) ?_
  refine lv_if_lt (tgt := 14) hx hb dX6_canTake_1 (by decide) (fun c1 => ?_) (fun c1 => ?_)
  · replace hF := ip c1 hF
    refine lv_iconst (v := 0) hx hb dX6_canTake_14 (by decide) ?_
    exact W.zret hx hb hr rfl (fun t ht hW => ⟨_, rfl, ⟨(Option.some.inj hF), Or.inl rfl⟩, ht⟩) (fun _ h => nomatch h) dX6_canTake_15
  · replace hF := iq c1 hF
    refine lv_iload_n hx hb dX6_canTake_4 rfl (lv_at hl 0 rfl) ?_
    refine lv_bipush (v := 20) hx hb dX6_canTake_5 (by decide) ?_
    refine lv_icmp_gt (tgt := 14) hx hb dX6_canTake_7 (by decide) (fun c7 => ?_) (fun c7 => ?_)
    · replace hF := ip c7 hF
      refine lv_iconst (v := 0) hx hb dX6_canTake_14 (by decide) ?_
      exact W.zret hx hb hr rfl (fun t ht hW => ⟨_, rfl, ⟨(Option.some.inj hF), Or.inl rfl⟩, ht⟩) (fun _ h => nomatch h) dX6_canTake_15
    · replace hF := iq c7 hF
      refine lv_iconst (v := 1) hx hb dX6_canTake_10 (by decide) ?_
      refine lv_goto (tgt := 15) hx hb dX6_canTake_11 (by decide) ?_
      exact W.zret hx hb hr rfl (fun t ht hW => ⟨_, rfl, ⟨(Option.some.inj hF), Or.inr rfl⟩, ht⟩) (fun _ h => nomatch h) dX6_canTake_15
noncomputable def F_X6_years (t0 : ST) (x1 : Int32) (x2 : Int32) (x3 : Int32) (x4 : Int32) (x5 : Int32) : Option (Int32 × ST) :=
  (F_X6_isSheet x1).bind fun v1 =>
  if v1 = 0 then
    b2 (F_X6_withoutFault t0 (-1)) fun v9 u9 =>
    some (v9, u9)
  else
  (F_X6_isLane x2).bind fun v14 =>
  if v14 = 0 then
    b2 (F_X6_withoutFault t0 (-2)) fun v39 u39 =>
    some (v39, u39)
  else
  (F_X6_canTake x4).bind fun v22 =>
  if v22 = 0 then
    b2 (F_X6_withoutFault t0 (-2)) fun v39 u39 =>
    some (v39, u39)
  else
  (F_X5_tells x5).bind fun v30 =>
  if v30 = 0 then
    b2 (F_X6_withoutFault t0 (-2)) fun v39 u39 =>
    some (v39, u39)
  else
  (ix 4 x1).bind fun k48 =>
  (F_X3_faultOfTaking (sb t0 (20 + 2 * k48)) x2 x3 (2 * x4)).bind fun v59 =>
  if v59 = 0 then
    (F_X6_hasGarden t0).bind fun v77 =>
    if v77 = 0 then
      b2 (F_X6_withoutFault t0 (-3)) fun v86 u86 =>
      some (v86, u86)
    else
    (F_X5_refusalOfPairs (sb t0 3) (sb t0 (20 + 2 * k48)) x3 x4).bind fun v99 =>
    if v99 = 0 then
      (F_X5_live (sb t0 11) (sb t0 3) (sb t0 1) (sb t0 (20 + 2 * k48)) x3 x4).bind fun u133 =>
      (F_X5_answer (sb (gr t0 11 5 u133) 11) x5).bind fun v143 =>
      b2 (F_X6_withoutFault (gr t0 11 5 u133) v143) fun v146 u146 =>
      some (v146, u146)
    else
    b2 (F_X6_withoutFault t0 v99) fun v112 u112 =>
    some (v112, u112)
  else
  b2 (F_X6_withFault t0 v59) fun v72 u72 =>
  some (v72, u72)
abbrev rm_X6_years : Room := { frames := 5, cells := 0, slots := 0, locals := 115 }
set_option maxHeartbeats 4000000 in
set_option maxRecDepth 100000 in
theorem c_X6_years (l : Launch) (D : va_G) (cI cS : ClassId) (a0 : Nat → Nat) (t0 : ST) (x1 : Int32) (x2 : Int32) (x3 : Int32) (x4 : Int32) (x5 : Int32) (r : Int32) (t' : ST) (hF : F_X6_years t0 x1 x2 x3 x4 x5 = some (r, t')) : Met l yX6_years (Cond.code yX6_years cX6_years 9 (some .int) :: ALL) rm_X6_years (PreW D cI cS [.ref (a0 0), .int x1, .int x2, .int x3, .int x4, .int x5] (pC cI cS a0 t0)) (va_Qi (fun x (_ : Unit) => x = r) (fun _ t => va_P D vwCl (pC cI cS a0 t') t.heap) (AD (pC cI cS a0 t0))) 0 0 (AD (pC cI cS a0 t0)) := by
  refine mW l D cI cS (by decide) (Nat.le_of_ble_eq_true rfl) ?_
  intro p e s m below meth c ls hx hb hr hml hown hts hlocks hP hK hD hS hl
  have hown : s.vm.findClass RX6 = some m.cls := hown
  have hl : lv_has ls 9 [(0, .ref (a0 0)), (1, .int x1), (2, .int x2), (3, .int x3), (4, .int x4), (5, .int x5)] := hl
  unfold F_X6_years at hF
  refine lv_iload_n hx hb dX6_years_0 rfl (lv_at hl 1 rfl) ?_
  obtain ⟨v1, h1, hF⟩ := bd hF
  refine cRb (va_runS (As := [.int x1]) (rest := []) ⟨hx, hb, hml, hown, hts⟩ (c_X6_isSheet l D cI cS x1 v1 h1) (cwSA hts (TW.cons _) ls_X6_isSheet ml_RX6_49 ⟨rfl, rfl⟩ ⟨(Nat.le_of_ble_eq_true rfl), (Nat.le_of_ble_eq_true rfl)⟩) (pRS hK pnil) rfl rfl hl.1 rfl (lv_room (Nat.le_of_ble_eq_true rfl)) dX6_years_1 ⟨Nat.le_refl _, Nat.le_refl _⟩) (fun b1 => ?_)
  refine lv_if_ne (tgt := 13) hx hb dX6_years_4 (by decide) (fun c4 => ?_) (fun c4 => ?_)
  · replace hF := iq c4 hF
    refine lv_iload_n hx hb dX6_years_13 rfl (lv_at hl 2 rfl) ?_
    obtain ⟨v14, h14, hF⟩ := bd hF
    refine cRb (va_runS (As := [.int x2]) (rest := []) ⟨hx, hb, hml, hown, hts⟩ (c_X6_isLane l D cI cS x2 v14 h14) (cwSA hts (TW.cons _) ls_X6_isLane ml_RX6_57 ⟨rfl, rfl⟩ ⟨(Nat.le_of_ble_eq_true rfl), (Nat.le_of_ble_eq_true rfl)⟩) (pRS hK pnil) rfl rfl hl.1 rfl (lv_room (Nat.le_of_ble_eq_true rfl)) dX6_years_14 ⟨Nat.le_refl _, Nat.le_refl _⟩) (fun b14 => ?_)
    refine lv_if_eq (tgt := 36) hx hb dX6_years_17 (by decide) (fun c17 => ?_) (fun c17 => ?_)
    · replace hF := ip c17 hF
      refine lv_aload_n hx hb dX6_years_36 rfl (lv_at hl 0 rfl) ?_
      refine lv_bipush (v := (-2)) hx hb dX6_years_37 (by decide) ?_
      obtain ⟨v39, u39, h39, hF⟩ := bd2 hF
      refine cAe (ws' := pC cI cS a0 u39) (va_runV (As := [.int (-2)]) (rest := []) ⟨hx, hb, hml, hown, hts⟩ (c_X6_withoutFault l D cI cS a0 t0 (-2) v39 u39 h39) (cwVA hts (TW.cons _) lv_X6_withoutFault ml_RX6_53 ⟨rfl, rfl⟩ ⟨(Nat.le_of_ble_eq_true rfl), (Nat.le_of_ble_eq_true rfl)⟩) (pWV hK hP hD (ci := 5) rfl rfl) rfl rfl hl.1 rfl (lv_room (Nat.le_of_ble_eq_true rfl)) dX6_years_39 ⟨Nat.le_refl _, Nat.le_refl _⟩) hD hS (ad_C cI cS _ _ _) (fun H locs hP hD hS => ?_)
      exact W.iret hx hb hr (fun t ht hW => ⟨⟨_, (), rfl, (Prod.mk.inj (Option.some.inj hF)).1, by show va_P _ _ _ t.heap; rw [ht, ← (Prod.mk.inj (Option.some.inj hF)).2]; exact hP⟩, hS.F ht⟩) hS.2.2 dX6_years_42
    · replace hF := iq c17 hF
      refine lv_iload hx hb dX6_years_20 (lv_at hl 4 rfl) ?_
      obtain ⟨v22, h22, hF⟩ := bd hF
      refine cRb (va_runS (As := [.int x4]) (rest := []) ⟨hx, hb, hml, hown, hts⟩ (c_X6_canTake l D cI cS x4 v22 h22) (cwSA hts (TW.cons _) ls_X6_canTake ml_RX6_151 ⟨rfl, rfl⟩ ⟨(Nat.le_of_ble_eq_true rfl), (Nat.le_of_ble_eq_true rfl)⟩) (pRS hK pnil) rfl rfl hl.1 rfl (lv_room (Nat.le_of_ble_eq_true rfl)) dX6_years_22 ⟨Nat.le_refl _, Nat.le_refl _⟩) (fun b22 => ?_)
      refine lv_if_eq (tgt := 36) hx hb dX6_years_25 (by decide) (fun c25 => ?_) (fun c25 => ?_)
      · replace hF := ip c25 hF
        refine lv_aload_n hx hb dX6_years_36 rfl (lv_at hl 0 rfl) ?_
        refine lv_bipush (v := (-2)) hx hb dX6_years_37 (by decide) ?_
        obtain ⟨v39, u39, h39, hF⟩ := bd2 hF
        refine cAe (ws' := pC cI cS a0 u39) (va_runV (As := [.int (-2)]) (rest := []) ⟨hx, hb, hml, hown, hts⟩ (c_X6_withoutFault l D cI cS a0 t0 (-2) v39 u39 h39) (cwVA hts (TW.cons _) lv_X6_withoutFault ml_RX6_53 ⟨rfl, rfl⟩ ⟨(Nat.le_of_ble_eq_true rfl), (Nat.le_of_ble_eq_true rfl)⟩) (pWV hK hP hD (ci := 5) rfl rfl) rfl rfl hl.1 rfl (lv_room (Nat.le_of_ble_eq_true rfl)) dX6_years_39 ⟨Nat.le_refl _, Nat.le_refl _⟩) hD hS (ad_C cI cS _ _ _) (fun H locs hP hD hS => ?_)
        exact W.iret hx hb hr (fun t ht hW => ⟨⟨_, (), rfl, (Prod.mk.inj (Option.some.inj hF)).1, by show va_P _ _ _ t.heap; rw [ht, ← (Prod.mk.inj (Option.some.inj hF)).2]; exact hP⟩, hS.F ht⟩) hS.2.2 dX6_years_42
      · replace hF := iq c25 hF
        refine lv_iload hx hb dX6_years_28 (lv_at hl 5 rfl) ?_
        obtain ⟨v30, h30, hF⟩ := bd hF
        refine cRb (va_runS (As := [.int x5]) (rest := []) ⟨hx, hb, hml, hown, hts⟩ (c_X5_tells l D cI cS x5 v30 h30) (cwSA hts (TW.cons _) ls_X5_tells ml_RX6_154 ⟨rfl, rfl⟩ ⟨(Nat.le_of_ble_eq_true rfl), (Nat.le_of_ble_eq_true rfl)⟩) (pRS hK pnil) rfl rfl hl.1 rfl (lv_room (Nat.le_of_ble_eq_true rfl)) dX6_years_30 ⟨Nat.le_refl _, Nat.le_refl _⟩) (fun b30 => ?_)
        refine lv_if_ne (tgt := 43) hx hb dX6_years_33 (by decide) (fun c33 => ?_) (fun c33 => ?_)
        · replace hF := iq c33 hF
          refine lv_aload_n hx hb dX6_years_43 rfl (lv_at hl 0 rfl) ?_
          refine va_get (D := D) (ci := 5) (v := .ref (a0 28)) (C := RX6) (T := TX6) (N := 8) hx hb hts (fun w h => List.mem_cons_of_mem _ (inAX6 w h)) hown hK.1 hP 0 (at_C_0 cI cS _ _) rfl 5 (by decide) (hts _ (List.mem_cons_of_mem _ fl_RX6_44)) (fun _ h9 => h9) rfl dX6_years_44 ?_
          refine lv_iload_n hx hb dX6_years_47 rfl (lv_at hl 1 rfl) ?_
          obtain ⟨k48, h48, hF⟩ := bd hF
          obtain ⟨-, -, l48⟩ := ix_some h48
          rcases lt4 l48 with rfl | rfl | rfl | rfl
          · refine rR (b := a0 20) hx hb hK.1 hP 28 1 (at_C_28 cI cS _ _) rfl h48 rfl dX6_years_48 ?_
            refine lv_astore (lv' := [(6, .ref (a0 20)), (0, .ref (a0 0)), (1, .int x1), (2, .int x2), (3, .int x3), (4, .int x4), (5, .int x5)]) hx hb dX6_years_49 hl (by decide) rfl (fun ls hl => ?_)
            refine lv_aload hx hb dX6_years_51 (lv_at hl 0 rfl) ?_
            refine lv_iload_n hx hb dX6_years_53 rfl (lv_at hl 3 rfl) ?_
            refine lv_iload_n hx hb dX6_years_54 rfl (lv_at hl 4 rfl) ?_
            refine lv_iconst (v := 2) hx hb dX6_years_55 (by decide) ?_
            refine lv_iload hx hb dX6_years_56 (lv_at hl 5 rfl) ?_
            refine lv_imul hx hb dX6_years_58 ?_
            obtain ⟨v59, h59, hF⟩ := bd hF
            refine cRe (va_runV (As := [.int x2, .int x3, .int (2 * x4)]) (rest := []) ⟨hx, hb, hml, hown, hts⟩ (c_X3_faultOfTaking l D cI cS (sa a0 20) (sb t0 20) x2 x3 (2 * x4) v59 h59) (cwVA hts (TW.cons _) lv_X3_faultOfTaking ml_RX6_60 ⟨rfl, rfl⟩ ⟨(Nat.le_of_ble_eq_true rfl), (Nat.le_of_ble_eq_true rfl)⟩) (pRV hK (hP.sub [20, 21] (su_C_S20 cI cS _ _)) (ci := 3) rfl rfl) rfl rfl hl.1 rfl (lv_room (Nat.le_of_ble_eq_true rfl)) dX6_years_59 ⟨Nat.le_refl _, Nat.le_refl _⟩) ?_
            refine lv_istore (lv' := [(7, .int v59), (6, .ref (a0 20)), (0, .ref (a0 0)), (1, .int x1), (2, .int x2), (3, .int x3), (4, .int x4), (5, .int x5)]) hx hb dX6_years_62 hl (by decide) rfl (fun ls hl => ?_)
            refine lv_iload hx hb dX6_years_64 (lv_at hl 0 rfl) ?_
            refine lv_if_eq (tgt := 76) hx hb dX6_years_66 (by decide) (fun c66 => ?_) (fun c66 => ?_)
            · replace hF := ip c66 hF
              refine lv_aload_n hx hb dX6_years_76 rfl (lv_at hl 2 rfl) ?_
              obtain ⟨v77, h77, hF⟩ := bd hF
              refine cRb (va_runV (As := []) (rest := []) ⟨hx, hb, hml, hown, hts⟩ (c_X6_hasGarden l D cI cS a0 t0 v77 h77) (cwVA hts (TW.cons _) lv_X6_hasGarden ml_RX6_123 ⟨rfl, rfl⟩ ⟨(Nat.le_of_ble_eq_true rfl), (Nat.le_of_ble_eq_true rfl)⟩) (pRV hK hP (ci := 5) rfl rfl) rfl rfl hl.1 rfl (lv_room (Nat.le_of_ble_eq_true rfl)) dX6_years_77 ⟨Nat.le_refl _, Nat.le_refl _⟩) (fun b77 => ?_)
              refine lv_if_ne (tgt := 90) hx hb dX6_years_80 (by decide) (fun c80 => ?_) (fun c80 => ?_)
              · replace hF := iq c80 hF
                refine lv_aload_n hx hb dX6_years_90 rfl (lv_at hl 2 rfl) ?_
                refine va_get (D := D) (ci := 5) (v := .ref (a0 3)) (C := RX6) (T := TX6) (N := 8) hx hb hts (fun w h => List.mem_cons_of_mem _ (inAX6 w h)) hown hK.1 hP 0 (at_C_0 cI cS _ _) rfl 1 (by decide) (hts _ (List.mem_cons_of_mem _ fl_RX6_21)) (fun _ h9 => h9) rfl dX6_years_91 ?_
                refine lv_aload hx hb dX6_years_94 (lv_at hl 1 rfl) ?_
                refine lv_iload_n hx hb dX6_years_96 rfl (lv_at hl 5 rfl) ?_
                refine lv_iload hx hb dX6_years_97 (lv_at hl 6 rfl) ?_
                obtain ⟨v99, h99, hF⟩ := bd hF
                refine cRe (va_runS (As := [.ref (a0 3), .ref (a0 20), .int x3, .int x4]) (rest := []) ⟨hx, hb, hml, hown, hts⟩ (c_X5_refusalOfPairs l D cI cS (sa a0 3) (sa a0 20) (sb t0 3) (sb t0 20) x3 x4 v99 h99) (cwSA hts (TW.cons _) ls_X5_refusalOfPairs ml_RX6_157 ⟨rfl, rfl⟩ ⟨(Nat.le_of_ble_eq_true rfl), (Nat.le_of_ble_eq_true rfl)⟩) (pRS hK (hP.sub [3, 4, 5, 6, 20, 21] (su_C_B3_S20 cI cS _ _))) rfl rfl hl.1 rfl (lv_room (Nat.le_of_ble_eq_true rfl)) dX6_years_99 ⟨Nat.le_refl _, Nat.le_refl _⟩) ?_
                refine lv_istore (lv' := [(8, .int v99), (7, .int v59), (6, .ref (a0 20)), (0, .ref (a0 0)), (1, .int x1), (2, .int x2), (3, .int x3), (4, .int x4), (5, .int x5)]) hx hb dX6_years_102 hl (by decide) rfl (fun ls hl => ?_)
                refine lv_iload hx hb dX6_years_104 (lv_at hl 0 rfl) ?_
                refine lv_if_eq (tgt := 116) hx hb dX6_years_106 (by decide) (fun c106 => ?_) (fun c106 => ?_)
                · replace hF := ip c106 hF
                  refine lv_aload_n hx hb dX6_years_116 rfl (lv_at hl 3 rfl) ?_
                  refine va_get (D := D) (ci := 5) (v := .ref (a0 11)) (C := RX6) (T := TX6) (N := 8) hx hb hts (fun w h => List.mem_cons_of_mem _ (inAX6 w h)) hown hK.1 hP 0 (at_C_0 cI cS _ _) rfl 3 (by decide) (hts _ (List.mem_cons_of_mem _ fl_RX6_31)) (fun _ h9 => h9) rfl dX6_years_117 ?_
                  refine lv_aload_n hx hb dX6_years_120 rfl (lv_at hl 3 rfl) ?_
                  refine va_get (D := D) (ci := 5) (v := .ref (a0 3)) (C := RX6) (T := TX6) (N := 8) hx hb hts (fun w h => List.mem_cons_of_mem _ (inAX6 w h)) hown hK.1 hP 0 (at_C_0 cI cS _ _) rfl 1 (by decide) (hts _ (List.mem_cons_of_mem _ fl_RX6_21)) (fun _ h9 => h9) rfl dX6_years_121 ?_
                  refine lv_aload_n hx hb dX6_years_124 rfl (lv_at hl 3 rfl) ?_
                  refine va_get (D := D) (ci := 5) (v := .ref (a0 1)) (C := RX6) (T := TX6) (N := 8) hx hb hts (fun w h => List.mem_cons_of_mem _ (inAX6 w h)) hown hK.1 hP 0 (at_C_0 cI cS _ _) rfl 0 (by decide) (hts _ (List.mem_cons_of_mem _ fl_RX6_12)) (fun _ h9 => h9) rfl dX6_years_125 ?_
                  refine lv_aload hx hb dX6_years_128 (lv_at hl 2 rfl) ?_
                  refine lv_iload_n hx hb dX6_years_130 rfl (lv_at hl 6 rfl) ?_
                  refine lv_iload hx hb dX6_years_131 (lv_at hl 7 rfl) ?_
                  obtain ⟨u133, h133, hF⟩ := bd hF
                  refine cWv (ws' := pC cI cS a0 (gr t0 11 5 u133)) (va_runV (As := [.ref (a0 3), .ref (a0 1), .ref (a0 20), .int x3, .int x4]) (rest := []) ⟨hx, hb, hml, hown, hts⟩ (c_X5_live l D cI cS (sa a0 11) (sa a0 3) (sa a0 1) (sa a0 20) (sb t0 11) (sb t0 3) (sb t0 1) (sb t0 20) x3 x4 u133 h133) (cwVA hts (TW.cons _) lv_X5_live ml_RX6_161 ⟨rfl, rfl⟩ ⟨(Nat.le_of_ble_eq_true rfl), (Nat.le_of_ble_eq_true rfl)⟩) (pWV hK (hP.sub [11, 12, 13, 14, 15, 3, 4, 5, 6, 1, 2, 20, 21] (su_C_Y11_B3_L1_S20 cI cS _ _)) (hD.sub [11, 12, 13, 14, 15, 3, 4, 5, 6, 1, 2, 20, 21] (by decide) (sm_C_Y11_B3_L1_S20 cI cS _ _)) (ci := 4) rfl rfl) rfl rfl hl.1 rfl (lv_room (Nat.le_of_ble_eq_true rfl)) dX6_years_133 ⟨Nat.le_refl _, Nat.le_refl _⟩) hP hD hS [11, 12, 13, 14, 15, 3, 4, 5, 6, 1, 2, 20, 21] (sm_C_Y11_B3_L1_S20 cI cS _ _) [.inl 0, .inr 9, .inr 10, .inr 5, .inr 6, .inr 7, .inr 8, .inl 7, .inl 8, .inl 9, .inl 10, .inr 0, .inr 1, .inr 2, .inr 3, .inr 4, .inl 16, .inl 17, .inl 18, .inl 19, .inr 11, .inr 12, .inl 22, .inl 23, .inl 24, .inl 25, .inl 26, .inl 27, .inl 28] (pn_C_Y11_B3_L1_S20 cI cS _ _ _) rfl (ad_C cI cS _ _ _) (fun H locs hP hD hS => ?_)
                  refine lv_aload_n hx hb dX6_years_136 rfl (lv_at hl 3 rfl) ?_
                  refine lv_aload_n hx hb dX6_years_137 rfl (lv_at hl 3 rfl) ?_
                  refine va_get (D := D) (ci := 5) (v := .ref (a0 11)) (C := RX6) (T := TX6) (N := 8) hx hb hts (fun w h => List.mem_cons_of_mem _ (inAX6 w h)) hown hK.1 hP 0 (at_C_0 cI cS _ _) rfl 3 (by decide) (hts _ (List.mem_cons_of_mem _ fl_RX6_31)) (fun _ h9 => h9) rfl dX6_years_138 ?_
                  refine lv_iload hx hb dX6_years_141 (lv_at hl 8 rfl) ?_
                  obtain ⟨v143, h143, hF⟩ := bd hF
                  refine cRe (va_runV (As := [.int x5]) (rest := [.ref (a0 0)]) ⟨hx, hb, hml, hown, hts⟩ (c_X5_answer l D cI cS (sa a0 11) (sb (gr t0 11 5 u133) 11) x5 v143 h143) (cwVA hts (TW.cons _) lv_X5_answer ml_RX6_165 ⟨rfl, rfl⟩ ⟨(Nat.le_of_ble_eq_true rfl), (Nat.le_of_ble_eq_true rfl)⟩) (pRV hK (hP.sub [11, 12, 13, 14, 15] (su_C_Y11 cI cS _ _)) (ci := 4) rfl rfl) rfl rfl hl.1 rfl (lv_room (Nat.le_of_ble_eq_true rfl)) dX6_years_143 ⟨Nat.le_refl _, Nat.le_refl _⟩) ?_
                  obtain ⟨v146, u146, h146, hF⟩ := bd2 hF
                  refine cAe (ws' := pC cI cS a0 u146) (va_runV (As := [.int v143]) (rest := []) ⟨hx, hb, hml, hown, hts⟩ (c_X6_withoutFault l D cI cS a0 (gr t0 11 5 u133) v143 v146 u146 h146) (cwVA hts (TW.cons _) lv_X6_withoutFault ml_RX6_53 ⟨rfl, rfl⟩ ⟨(Nat.le_of_ble_eq_true rfl), (Nat.le_of_ble_eq_true rfl)⟩) (pWV hK hP hD (ci := 5) rfl rfl) rfl rfl hl.1 rfl (lv_room (Nat.le_of_ble_eq_true rfl)) dX6_years_146 ⟨Nat.le_refl _, Nat.le_refl _⟩) hD hS (ad_C cI cS _ _ _) (fun H locs hP hD hS => ?_)
                  exact W.iret hx hb hr (fun t ht hW => ⟨⟨_, (), rfl, (Prod.mk.inj (Option.some.inj hF)).1, by show va_P _ _ _ t.heap; rw [ht, ← (Prod.mk.inj (Option.some.inj hF)).2]; exact hP⟩, hS.F ht⟩) hS.2.2 dX6_years_149
                · replace hF := iq c106 hF
                  refine lv_aload_n hx hb dX6_years_109 rfl (lv_at hl 3 rfl) ?_
                  refine lv_iload hx hb dX6_years_110 (lv_at hl 0 rfl) ?_
                  obtain ⟨v112, u112, h112, hF⟩ := bd2 hF
                  refine cAe (ws' := pC cI cS a0 u112) (va_runV (As := [.int v99]) (rest := []) ⟨hx, hb, hml, hown, hts⟩ (c_X6_withoutFault l D cI cS a0 t0 v99 v112 u112 h112) (cwVA hts (TW.cons _) lv_X6_withoutFault ml_RX6_53 ⟨rfl, rfl⟩ ⟨(Nat.le_of_ble_eq_true rfl), (Nat.le_of_ble_eq_true rfl)⟩) (pWV hK hP hD (ci := 5) rfl rfl) rfl rfl hl.1 rfl (lv_room (Nat.le_of_ble_eq_true rfl)) dX6_years_112 ⟨Nat.le_refl _, Nat.le_refl _⟩) hD hS (ad_C cI cS _ _ _) (fun H locs hP hD hS => ?_)
                  exact W.iret hx hb hr (fun t ht hW => ⟨⟨_, (), rfl, (Prod.mk.inj (Option.some.inj hF)).1, by show va_P _ _ _ t.heap; rw [ht, ← (Prod.mk.inj (Option.some.inj hF)).2]; exact hP⟩, hS.F ht⟩) hS.2.2 dX6_years_115
              · replace hF := ip c80 hF
                refine lv_aload_n hx hb dX6_years_83 rfl (lv_at hl 2 rfl) ?_
                refine lv_bipush (v := (-3)) hx hb dX6_years_84 (by decide) ?_
                obtain ⟨v86, u86, h86, hF⟩ := bd2 hF
                refine cAe (ws' := pC cI cS a0 u86) (va_runV (As := [.int (-3)]) (rest := []) ⟨hx, hb, hml, hown, hts⟩ (c_X6_withoutFault l D cI cS a0 t0 (-3) v86 u86 h86) (cwVA hts (TW.cons _) lv_X6_withoutFault ml_RX6_53 ⟨rfl, rfl⟩ ⟨(Nat.le_of_ble_eq_true rfl), (Nat.le_of_ble_eq_true rfl)⟩) (pWV hK hP hD (ci := 5) rfl rfl) rfl rfl hl.1 rfl (lv_room (Nat.le_of_ble_eq_true rfl)) dX6_years_86 ⟨Nat.le_refl _, Nat.le_refl _⟩) hD hS (ad_C cI cS _ _ _) (fun H locs hP hD hS => ?_)
                exact W.iret hx hb hr (fun t ht hW => ⟨⟨_, (), rfl, (Prod.mk.inj (Option.some.inj hF)).1, by show va_P _ _ _ t.heap; rw [ht, ← (Prod.mk.inj (Option.some.inj hF)).2]; exact hP⟩, hS.F ht⟩) hS.2.2 dX6_years_89
            · replace hF := iq c66 hF
              refine lv_aload_n hx hb dX6_years_69 rfl (lv_at hl 2 rfl) ?_
              refine lv_iload hx hb dX6_years_70 (lv_at hl 0 rfl) ?_
              obtain ⟨v72, u72, h72, hF⟩ := bd2 hF
              refine cAe (ws' := pC cI cS a0 u72) (va_runV (As := [.int v59]) (rest := []) ⟨hx, hb, hml, hown, hts⟩ (c_X6_withFault l D cI cS a0 t0 v59 v72 u72 h72) (cwVA hts (TW.cons _) lv_X6_withFault ml_RX6_64 ⟨rfl, rfl⟩ ⟨(Nat.le_of_ble_eq_true rfl), (Nat.le_of_ble_eq_true rfl)⟩) (pWV hK hP hD (ci := 5) rfl rfl) rfl rfl hl.1 rfl (lv_room (Nat.le_of_ble_eq_true rfl)) dX6_years_72 ⟨Nat.le_refl _, Nat.le_refl _⟩) hD hS (ad_C cI cS _ _ _) (fun H locs hP hD hS => ?_)
              exact W.iret hx hb hr (fun t ht hW => ⟨⟨_, (), rfl, (Prod.mk.inj (Option.some.inj hF)).1, by show va_P _ _ _ t.heap; rw [ht, ← (Prod.mk.inj (Option.some.inj hF)).2]; exact hP⟩, hS.F ht⟩) hS.2.2 dX6_years_75
          · refine rR (b := a0 22) hx hb hK.1 hP 28 1 (at_C_28 cI cS _ _) rfl h48 rfl dX6_years_48 ?_
            refine lv_astore (lv' := [(6, .ref (a0 22)), (0, .ref (a0 0)), (1, .int x1), (2, .int x2), (3, .int x3), (4, .int x4), (5, .int x5)]) hx hb dX6_years_49 hl (by decide) rfl (fun ls hl => ?_)
            refine lv_aload hx hb dX6_years_51 (lv_at hl 0 rfl) ?_
            refine lv_iload_n hx hb dX6_years_53 rfl (lv_at hl 3 rfl) ?_
            refine lv_iload_n hx hb dX6_years_54 rfl (lv_at hl 4 rfl) ?_
            refine lv_iconst (v := 2) hx hb dX6_years_55 (by decide) ?_
            refine lv_iload hx hb dX6_years_56 (lv_at hl 5 rfl) ?_
            refine lv_imul hx hb dX6_years_58 ?_
            obtain ⟨v59, h59, hF⟩ := bd hF
            refine cRe (va_runV (As := [.int x2, .int x3, .int (2 * x4)]) (rest := []) ⟨hx, hb, hml, hown, hts⟩ (c_X3_faultOfTaking l D cI cS (sa a0 22) (sb t0 22) x2 x3 (2 * x4) v59 h59) (cwVA hts (TW.cons _) lv_X3_faultOfTaking ml_RX6_60 ⟨rfl, rfl⟩ ⟨(Nat.le_of_ble_eq_true rfl), (Nat.le_of_ble_eq_true rfl)⟩) (pRV hK (hP.sub [22, 23] (su_C_S22 cI cS _ _)) (ci := 3) rfl rfl) rfl rfl hl.1 rfl (lv_room (Nat.le_of_ble_eq_true rfl)) dX6_years_59 ⟨Nat.le_refl _, Nat.le_refl _⟩) ?_
            refine lv_istore (lv' := [(7, .int v59), (6, .ref (a0 22)), (0, .ref (a0 0)), (1, .int x1), (2, .int x2), (3, .int x3), (4, .int x4), (5, .int x5)]) hx hb dX6_years_62 hl (by decide) rfl (fun ls hl => ?_)
            refine lv_iload hx hb dX6_years_64 (lv_at hl 0 rfl) ?_
            refine lv_if_eq (tgt := 76) hx hb dX6_years_66 (by decide) (fun c66 => ?_) (fun c66 => ?_)
            · replace hF := ip c66 hF
              refine lv_aload_n hx hb dX6_years_76 rfl (lv_at hl 2 rfl) ?_
              obtain ⟨v77, h77, hF⟩ := bd hF
              refine cRb (va_runV (As := []) (rest := []) ⟨hx, hb, hml, hown, hts⟩ (c_X6_hasGarden l D cI cS a0 t0 v77 h77) (cwVA hts (TW.cons _) lv_X6_hasGarden ml_RX6_123 ⟨rfl, rfl⟩ ⟨(Nat.le_of_ble_eq_true rfl), (Nat.le_of_ble_eq_true rfl)⟩) (pRV hK hP (ci := 5) rfl rfl) rfl rfl hl.1 rfl (lv_room (Nat.le_of_ble_eq_true rfl)) dX6_years_77 ⟨Nat.le_refl _, Nat.le_refl _⟩) (fun b77 => ?_)
              refine lv_if_ne (tgt := 90) hx hb dX6_years_80 (by decide) (fun c80 => ?_) (fun c80 => ?_)
              · replace hF := iq c80 hF
                refine lv_aload_n hx hb dX6_years_90 rfl (lv_at hl 2 rfl) ?_
                refine va_get (D := D) (ci := 5) (v := .ref (a0 3)) (C := RX6) (T := TX6) (N := 8) hx hb hts (fun w h => List.mem_cons_of_mem _ (inAX6 w h)) hown hK.1 hP 0 (at_C_0 cI cS _ _) rfl 1 (by decide) (hts _ (List.mem_cons_of_mem _ fl_RX6_21)) (fun _ h9 => h9) rfl dX6_years_91 ?_
                refine lv_aload hx hb dX6_years_94 (lv_at hl 1 rfl) ?_
                refine lv_iload_n hx hb dX6_years_96 rfl (lv_at hl 5 rfl) ?_
                refine lv_iload hx hb dX6_years_97 (lv_at hl 6 rfl) ?_
                obtain ⟨v99, h99, hF⟩ := bd hF
                refine cRe (va_runS (As := [.ref (a0 3), .ref (a0 22), .int x3, .int x4]) (rest := []) ⟨hx, hb, hml, hown, hts⟩ (c_X5_refusalOfPairs l D cI cS (sa a0 3) (sa a0 22) (sb t0 3) (sb t0 22) x3 x4 v99 h99) (cwSA hts (TW.cons _) ls_X5_refusalOfPairs ml_RX6_157 ⟨rfl, rfl⟩ ⟨(Nat.le_of_ble_eq_true rfl), (Nat.le_of_ble_eq_true rfl)⟩) (pRS hK (hP.sub [3, 4, 5, 6, 22, 23] (su_C_B3_S22 cI cS _ _))) rfl rfl hl.1 rfl (lv_room (Nat.le_of_ble_eq_true rfl)) dX6_years_99 ⟨Nat.le_refl _, Nat.le_refl _⟩) ?_
                refine lv_istore (lv' := [(8, .int v99), (7, .int v59), (6, .ref (a0 22)), (0, .ref (a0 0)), (1, .int x1), (2, .int x2), (3, .int x3), (4, .int x4), (5, .int x5)]) hx hb dX6_years_102 hl (by decide) rfl (fun ls hl => ?_)
                refine lv_iload hx hb dX6_years_104 (lv_at hl 0 rfl) ?_
                refine lv_if_eq (tgt := 116) hx hb dX6_years_106 (by decide) (fun c106 => ?_) (fun c106 => ?_)
                · replace hF := ip c106 hF
                  refine lv_aload_n hx hb dX6_years_116 rfl (lv_at hl 3 rfl) ?_
                  refine va_get (D := D) (ci := 5) (v := .ref (a0 11)) (C := RX6) (T := TX6) (N := 8) hx hb hts (fun w h => List.mem_cons_of_mem _ (inAX6 w h)) hown hK.1 hP 0 (at_C_0 cI cS _ _) rfl 3 (by decide) (hts _ (List.mem_cons_of_mem _ fl_RX6_31)) (fun _ h9 => h9) rfl dX6_years_117 ?_
                  refine lv_aload_n hx hb dX6_years_120 rfl (lv_at hl 3 rfl) ?_
                  refine va_get (D := D) (ci := 5) (v := .ref (a0 3)) (C := RX6) (T := TX6) (N := 8) hx hb hts (fun w h => List.mem_cons_of_mem _ (inAX6 w h)) hown hK.1 hP 0 (at_C_0 cI cS _ _) rfl 1 (by decide) (hts _ (List.mem_cons_of_mem _ fl_RX6_21)) (fun _ h9 => h9) rfl dX6_years_121 ?_
                  refine lv_aload_n hx hb dX6_years_124 rfl (lv_at hl 3 rfl) ?_
                  refine va_get (D := D) (ci := 5) (v := .ref (a0 1)) (C := RX6) (T := TX6) (N := 8) hx hb hts (fun w h => List.mem_cons_of_mem _ (inAX6 w h)) hown hK.1 hP 0 (at_C_0 cI cS _ _) rfl 0 (by decide) (hts _ (List.mem_cons_of_mem _ fl_RX6_12)) (fun _ h9 => h9) rfl dX6_years_125 ?_
                  refine lv_aload hx hb dX6_years_128 (lv_at hl 2 rfl) ?_
                  refine lv_iload_n hx hb dX6_years_130 rfl (lv_at hl 6 rfl) ?_
                  refine lv_iload hx hb dX6_years_131 (lv_at hl 7 rfl) ?_
                  obtain ⟨u133, h133, hF⟩ := bd hF
                  refine cWv (ws' := pC cI cS a0 (gr t0 11 5 u133)) (va_runV (As := [.ref (a0 3), .ref (a0 1), .ref (a0 22), .int x3, .int x4]) (rest := []) ⟨hx, hb, hml, hown, hts⟩ (c_X5_live l D cI cS (sa a0 11) (sa a0 3) (sa a0 1) (sa a0 22) (sb t0 11) (sb t0 3) (sb t0 1) (sb t0 22) x3 x4 u133 h133) (cwVA hts (TW.cons _) lv_X5_live ml_RX6_161 ⟨rfl, rfl⟩ ⟨(Nat.le_of_ble_eq_true rfl), (Nat.le_of_ble_eq_true rfl)⟩) (pWV hK (hP.sub [11, 12, 13, 14, 15, 3, 4, 5, 6, 1, 2, 22, 23] (su_C_Y11_B3_L1_S22 cI cS _ _)) (hD.sub [11, 12, 13, 14, 15, 3, 4, 5, 6, 1, 2, 22, 23] (by decide) (sm_C_Y11_B3_L1_S22 cI cS _ _)) (ci := 4) rfl rfl) rfl rfl hl.1 rfl (lv_room (Nat.le_of_ble_eq_true rfl)) dX6_years_133 ⟨Nat.le_refl _, Nat.le_refl _⟩) hP hD hS [11, 12, 13, 14, 15, 3, 4, 5, 6, 1, 2, 22, 23] (sm_C_Y11_B3_L1_S22 cI cS _ _) [.inl 0, .inr 9, .inr 10, .inr 5, .inr 6, .inr 7, .inr 8, .inl 7, .inl 8, .inl 9, .inl 10, .inr 0, .inr 1, .inr 2, .inr 3, .inr 4, .inl 16, .inl 17, .inl 18, .inl 19, .inl 20, .inl 21, .inr 11, .inr 12, .inl 24, .inl 25, .inl 26, .inl 27, .inl 28] (pn_C_Y11_B3_L1_S22 cI cS _ _ _) rfl (ad_C cI cS _ _ _) (fun H locs hP hD hS => ?_)
                  refine lv_aload_n hx hb dX6_years_136 rfl (lv_at hl 3 rfl) ?_
                  refine lv_aload_n hx hb dX6_years_137 rfl (lv_at hl 3 rfl) ?_
                  refine va_get (D := D) (ci := 5) (v := .ref (a0 11)) (C := RX6) (T := TX6) (N := 8) hx hb hts (fun w h => List.mem_cons_of_mem _ (inAX6 w h)) hown hK.1 hP 0 (at_C_0 cI cS _ _) rfl 3 (by decide) (hts _ (List.mem_cons_of_mem _ fl_RX6_31)) (fun _ h9 => h9) rfl dX6_years_138 ?_
                  refine lv_iload hx hb dX6_years_141 (lv_at hl 8 rfl) ?_
                  obtain ⟨v143, h143, hF⟩ := bd hF
                  refine cRe (va_runV (As := [.int x5]) (rest := [.ref (a0 0)]) ⟨hx, hb, hml, hown, hts⟩ (c_X5_answer l D cI cS (sa a0 11) (sb (gr t0 11 5 u133) 11) x5 v143 h143) (cwVA hts (TW.cons _) lv_X5_answer ml_RX6_165 ⟨rfl, rfl⟩ ⟨(Nat.le_of_ble_eq_true rfl), (Nat.le_of_ble_eq_true rfl)⟩) (pRV hK (hP.sub [11, 12, 13, 14, 15] (su_C_Y11 cI cS _ _)) (ci := 4) rfl rfl) rfl rfl hl.1 rfl (lv_room (Nat.le_of_ble_eq_true rfl)) dX6_years_143 ⟨Nat.le_refl _, Nat.le_refl _⟩) ?_
                  obtain ⟨v146, u146, h146, hF⟩ := bd2 hF
                  refine cAe (ws' := pC cI cS a0 u146) (va_runV (As := [.int v143]) (rest := []) ⟨hx, hb, hml, hown, hts⟩ (c_X6_withoutFault l D cI cS a0 (gr t0 11 5 u133) v143 v146 u146 h146) (cwVA hts (TW.cons _) lv_X6_withoutFault ml_RX6_53 ⟨rfl, rfl⟩ ⟨(Nat.le_of_ble_eq_true rfl), (Nat.le_of_ble_eq_true rfl)⟩) (pWV hK hP hD (ci := 5) rfl rfl) rfl rfl hl.1 rfl (lv_room (Nat.le_of_ble_eq_true rfl)) dX6_years_146 ⟨Nat.le_refl _, Nat.le_refl _⟩) hD hS (ad_C cI cS _ _ _) (fun H locs hP hD hS => ?_)
                  exact W.iret hx hb hr (fun t ht hW => ⟨⟨_, (), rfl, (Prod.mk.inj (Option.some.inj hF)).1, by show va_P _ _ _ t.heap; rw [ht, ← (Prod.mk.inj (Option.some.inj hF)).2]; exact hP⟩, hS.F ht⟩) hS.2.2 dX6_years_149
                · replace hF := iq c106 hF
                  refine lv_aload_n hx hb dX6_years_109 rfl (lv_at hl 3 rfl) ?_
                  refine lv_iload hx hb dX6_years_110 (lv_at hl 0 rfl) ?_
                  obtain ⟨v112, u112, h112, hF⟩ := bd2 hF
                  refine cAe (ws' := pC cI cS a0 u112) (va_runV (As := [.int v99]) (rest := []) ⟨hx, hb, hml, hown, hts⟩ (c_X6_withoutFault l D cI cS a0 t0 v99 v112 u112 h112) (cwVA hts (TW.cons _) lv_X6_withoutFault ml_RX6_53 ⟨rfl, rfl⟩ ⟨(Nat.le_of_ble_eq_true rfl), (Nat.le_of_ble_eq_true rfl)⟩) (pWV hK hP hD (ci := 5) rfl rfl) rfl rfl hl.1 rfl (lv_room (Nat.le_of_ble_eq_true rfl)) dX6_years_112 ⟨Nat.le_refl _, Nat.le_refl _⟩) hD hS (ad_C cI cS _ _ _) (fun H locs hP hD hS => ?_)
                  exact W.iret hx hb hr (fun t ht hW => ⟨⟨_, (), rfl, (Prod.mk.inj (Option.some.inj hF)).1, by show va_P _ _ _ t.heap; rw [ht, ← (Prod.mk.inj (Option.some.inj hF)).2]; exact hP⟩, hS.F ht⟩) hS.2.2 dX6_years_115
              · replace hF := ip c80 hF
                refine lv_aload_n hx hb dX6_years_83 rfl (lv_at hl 2 rfl) ?_
                refine lv_bipush (v := (-3)) hx hb dX6_years_84 (by decide) ?_
                obtain ⟨v86, u86, h86, hF⟩ := bd2 hF
                refine cAe (ws' := pC cI cS a0 u86) (va_runV (As := [.int (-3)]) (rest := []) ⟨hx, hb, hml, hown, hts⟩ (c_X6_withoutFault l D cI cS a0 t0 (-3) v86 u86 h86) (cwVA hts (TW.cons _) lv_X6_withoutFault ml_RX6_53 ⟨rfl, rfl⟩ ⟨(Nat.le_of_ble_eq_true rfl), (Nat.le_of_ble_eq_true rfl)⟩) (pWV hK hP hD (ci := 5) rfl rfl) rfl rfl hl.1 rfl (lv_room (Nat.le_of_ble_eq_true rfl)) dX6_years_86 ⟨Nat.le_refl _, Nat.le_refl _⟩) hD hS (ad_C cI cS _ _ _) (fun H locs hP hD hS => ?_)
                exact W.iret hx hb hr (fun t ht hW => ⟨⟨_, (), rfl, (Prod.mk.inj (Option.some.inj hF)).1, by show va_P _ _ _ t.heap; rw [ht, ← (Prod.mk.inj (Option.some.inj hF)).2]; exact hP⟩, hS.F ht⟩) hS.2.2 dX6_years_89
            · replace hF := iq c66 hF
              refine lv_aload_n hx hb dX6_years_69 rfl (lv_at hl 2 rfl) ?_
              refine lv_iload hx hb dX6_years_70 (lv_at hl 0 rfl) ?_
              obtain ⟨v72, u72, h72, hF⟩ := bd2 hF
              refine cAe (ws' := pC cI cS a0 u72) (va_runV (As := [.int v59]) (rest := []) ⟨hx, hb, hml, hown, hts⟩ (c_X6_withFault l D cI cS a0 t0 v59 v72 u72 h72) (cwVA hts (TW.cons _) lv_X6_withFault ml_RX6_64 ⟨rfl, rfl⟩ ⟨(Nat.le_of_ble_eq_true rfl), (Nat.le_of_ble_eq_true rfl)⟩) (pWV hK hP hD (ci := 5) rfl rfl) rfl rfl hl.1 rfl (lv_room (Nat.le_of_ble_eq_true rfl)) dX6_years_72 ⟨Nat.le_refl _, Nat.le_refl _⟩) hD hS (ad_C cI cS _ _ _) (fun H locs hP hD hS => ?_)
              exact W.iret hx hb hr (fun t ht hW => ⟨⟨_, (), rfl, (Prod.mk.inj (Option.some.inj hF)).1, by show va_P _ _ _ t.heap; rw [ht, ← (Prod.mk.inj (Option.some.inj hF)).2]; exact hP⟩, hS.F ht⟩) hS.2.2 dX6_years_75
          · refine rR (b := a0 24) hx hb hK.1 hP 28 1 (at_C_28 cI cS _ _) rfl h48 rfl dX6_years_48 ?_
            refine lv_astore (lv' := [(6, .ref (a0 24)), (0, .ref (a0 0)), (1, .int x1), (2, .int x2), (3, .int x3), (4, .int x4), (5, .int x5)]) hx hb dX6_years_49 hl (by decide) rfl (fun ls hl => ?_)
            refine lv_aload hx hb dX6_years_51 (lv_at hl 0 rfl) ?_
            refine lv_iload_n hx hb dX6_years_53 rfl (lv_at hl 3 rfl) ?_
            refine lv_iload_n hx hb dX6_years_54 rfl (lv_at hl 4 rfl) ?_
            refine lv_iconst (v := 2) hx hb dX6_years_55 (by decide) ?_
            refine lv_iload hx hb dX6_years_56 (lv_at hl 5 rfl) ?_
            refine lv_imul hx hb dX6_years_58 ?_
            obtain ⟨v59, h59, hF⟩ := bd hF
            refine cRe (va_runV (As := [.int x2, .int x3, .int (2 * x4)]) (rest := []) ⟨hx, hb, hml, hown, hts⟩ (c_X3_faultOfTaking l D cI cS (sa a0 24) (sb t0 24) x2 x3 (2 * x4) v59 h59) (cwVA hts (TW.cons _) lv_X3_faultOfTaking ml_RX6_60 ⟨rfl, rfl⟩ ⟨(Nat.le_of_ble_eq_true rfl), (Nat.le_of_ble_eq_true rfl)⟩) (pRV hK (hP.sub [24, 25] (su_C_S24 cI cS _ _)) (ci := 3) rfl rfl) rfl rfl hl.1 rfl (lv_room (Nat.le_of_ble_eq_true rfl)) dX6_years_59 ⟨Nat.le_refl _, Nat.le_refl _⟩) ?_
            refine lv_istore (lv' := [(7, .int v59), (6, .ref (a0 24)), (0, .ref (a0 0)), (1, .int x1), (2, .int x2), (3, .int x3), (4, .int x4), (5, .int x5)]) hx hb dX6_years_62 hl (by decide) rfl (fun ls hl => ?_)
            refine lv_iload hx hb dX6_years_64 (lv_at hl 0 rfl) ?_
            refine lv_if_eq (tgt := 76) hx hb dX6_years_66 (by decide) (fun c66 => ?_) (fun c66 => ?_)
            · replace hF := ip c66 hF
              refine lv_aload_n hx hb dX6_years_76 rfl (lv_at hl 2 rfl) ?_
              obtain ⟨v77, h77, hF⟩ := bd hF
              refine cRb (va_runV (As := []) (rest := []) ⟨hx, hb, hml, hown, hts⟩ (c_X6_hasGarden l D cI cS a0 t0 v77 h77) (cwVA hts (TW.cons _) lv_X6_hasGarden ml_RX6_123 ⟨rfl, rfl⟩ ⟨(Nat.le_of_ble_eq_true rfl), (Nat.le_of_ble_eq_true rfl)⟩) (pRV hK hP (ci := 5) rfl rfl) rfl rfl hl.1 rfl (lv_room (Nat.le_of_ble_eq_true rfl)) dX6_years_77 ⟨Nat.le_refl _, Nat.le_refl _⟩) (fun b77 => ?_)
              refine lv_if_ne (tgt := 90) hx hb dX6_years_80 (by decide) (fun c80 => ?_) (fun c80 => ?_)
              · replace hF := iq c80 hF
                refine lv_aload_n hx hb dX6_years_90 rfl (lv_at hl 2 rfl) ?_
                refine va_get (D := D) (ci := 5) (v := .ref (a0 3)) (C := RX6) (T := TX6) (N := 8) hx hb hts (fun w h => List.mem_cons_of_mem _ (inAX6 w h)) hown hK.1 hP 0 (at_C_0 cI cS _ _) rfl 1 (by decide) (hts _ (List.mem_cons_of_mem _ fl_RX6_21)) (fun _ h9 => h9) rfl dX6_years_91 ?_
                refine lv_aload hx hb dX6_years_94 (lv_at hl 1 rfl) ?_
                refine lv_iload_n hx hb dX6_years_96 rfl (lv_at hl 5 rfl) ?_
                refine lv_iload hx hb dX6_years_97 (lv_at hl 6 rfl) ?_
                obtain ⟨v99, h99, hF⟩ := bd hF
                refine cRe (va_runS (As := [.ref (a0 3), .ref (a0 24), .int x3, .int x4]) (rest := []) ⟨hx, hb, hml, hown, hts⟩ (c_X5_refusalOfPairs l D cI cS (sa a0 3) (sa a0 24) (sb t0 3) (sb t0 24) x3 x4 v99 h99) (cwSA hts (TW.cons _) ls_X5_refusalOfPairs ml_RX6_157 ⟨rfl, rfl⟩ ⟨(Nat.le_of_ble_eq_true rfl), (Nat.le_of_ble_eq_true rfl)⟩) (pRS hK (hP.sub [3, 4, 5, 6, 24, 25] (su_C_B3_S24 cI cS _ _))) rfl rfl hl.1 rfl (lv_room (Nat.le_of_ble_eq_true rfl)) dX6_years_99 ⟨Nat.le_refl _, Nat.le_refl _⟩) ?_
                refine lv_istore (lv' := [(8, .int v99), (7, .int v59), (6, .ref (a0 24)), (0, .ref (a0 0)), (1, .int x1), (2, .int x2), (3, .int x3), (4, .int x4), (5, .int x5)]) hx hb dX6_years_102 hl (by decide) rfl (fun ls hl => ?_)
                refine lv_iload hx hb dX6_years_104 (lv_at hl 0 rfl) ?_
                refine lv_if_eq (tgt := 116) hx hb dX6_years_106 (by decide) (fun c106 => ?_) (fun c106 => ?_)
                · replace hF := ip c106 hF
                  refine lv_aload_n hx hb dX6_years_116 rfl (lv_at hl 3 rfl) ?_
                  refine va_get (D := D) (ci := 5) (v := .ref (a0 11)) (C := RX6) (T := TX6) (N := 8) hx hb hts (fun w h => List.mem_cons_of_mem _ (inAX6 w h)) hown hK.1 hP 0 (at_C_0 cI cS _ _) rfl 3 (by decide) (hts _ (List.mem_cons_of_mem _ fl_RX6_31)) (fun _ h9 => h9) rfl dX6_years_117 ?_
                  refine lv_aload_n hx hb dX6_years_120 rfl (lv_at hl 3 rfl) ?_
                  refine va_get (D := D) (ci := 5) (v := .ref (a0 3)) (C := RX6) (T := TX6) (N := 8) hx hb hts (fun w h => List.mem_cons_of_mem _ (inAX6 w h)) hown hK.1 hP 0 (at_C_0 cI cS _ _) rfl 1 (by decide) (hts _ (List.mem_cons_of_mem _ fl_RX6_21)) (fun _ h9 => h9) rfl dX6_years_121 ?_
                  refine lv_aload_n hx hb dX6_years_124 rfl (lv_at hl 3 rfl) ?_
                  refine va_get (D := D) (ci := 5) (v := .ref (a0 1)) (C := RX6) (T := TX6) (N := 8) hx hb hts (fun w h => List.mem_cons_of_mem _ (inAX6 w h)) hown hK.1 hP 0 (at_C_0 cI cS _ _) rfl 0 (by decide) (hts _ (List.mem_cons_of_mem _ fl_RX6_12)) (fun _ h9 => h9) rfl dX6_years_125 ?_
                  refine lv_aload hx hb dX6_years_128 (lv_at hl 2 rfl) ?_
                  refine lv_iload_n hx hb dX6_years_130 rfl (lv_at hl 6 rfl) ?_
                  refine lv_iload hx hb dX6_years_131 (lv_at hl 7 rfl) ?_
                  obtain ⟨u133, h133, hF⟩ := bd hF
                  refine cWv (ws' := pC cI cS a0 (gr t0 11 5 u133)) (va_runV (As := [.ref (a0 3), .ref (a0 1), .ref (a0 24), .int x3, .int x4]) (rest := []) ⟨hx, hb, hml, hown, hts⟩ (c_X5_live l D cI cS (sa a0 11) (sa a0 3) (sa a0 1) (sa a0 24) (sb t0 11) (sb t0 3) (sb t0 1) (sb t0 24) x3 x4 u133 h133) (cwVA hts (TW.cons _) lv_X5_live ml_RX6_161 ⟨rfl, rfl⟩ ⟨(Nat.le_of_ble_eq_true rfl), (Nat.le_of_ble_eq_true rfl)⟩) (pWV hK (hP.sub [11, 12, 13, 14, 15, 3, 4, 5, 6, 1, 2, 24, 25] (su_C_Y11_B3_L1_S24 cI cS _ _)) (hD.sub [11, 12, 13, 14, 15, 3, 4, 5, 6, 1, 2, 24, 25] (by decide) (sm_C_Y11_B3_L1_S24 cI cS _ _)) (ci := 4) rfl rfl) rfl rfl hl.1 rfl (lv_room (Nat.le_of_ble_eq_true rfl)) dX6_years_133 ⟨Nat.le_refl _, Nat.le_refl _⟩) hP hD hS [11, 12, 13, 14, 15, 3, 4, 5, 6, 1, 2, 24, 25] (sm_C_Y11_B3_L1_S24 cI cS _ _) [.inl 0, .inr 9, .inr 10, .inr 5, .inr 6, .inr 7, .inr 8, .inl 7, .inl 8, .inl 9, .inl 10, .inr 0, .inr 1, .inr 2, .inr 3, .inr 4, .inl 16, .inl 17, .inl 18, .inl 19, .inl 20, .inl 21, .inl 22, .inl 23, .inr 11, .inr 12, .inl 26, .inl 27, .inl 28] (pn_C_Y11_B3_L1_S24 cI cS _ _ _) rfl (ad_C cI cS _ _ _) (fun H locs hP hD hS => ?_)
                  refine lv_aload_n hx hb dX6_years_136 rfl (lv_at hl 3 rfl) ?_
                  refine lv_aload_n hx hb dX6_years_137 rfl (lv_at hl 3 rfl) ?_
                  refine va_get (D := D) (ci := 5) (v := .ref (a0 11)) (C := RX6) (T := TX6) (N := 8) hx hb hts (fun w h => List.mem_cons_of_mem _ (inAX6 w h)) hown hK.1 hP 0 (at_C_0 cI cS _ _) rfl 3 (by decide) (hts _ (List.mem_cons_of_mem _ fl_RX6_31)) (fun _ h9 => h9) rfl dX6_years_138 ?_
                  refine lv_iload hx hb dX6_years_141 (lv_at hl 8 rfl) ?_
                  obtain ⟨v143, h143, hF⟩ := bd hF
                  refine cRe (va_runV (As := [.int x5]) (rest := [.ref (a0 0)]) ⟨hx, hb, hml, hown, hts⟩ (c_X5_answer l D cI cS (sa a0 11) (sb (gr t0 11 5 u133) 11) x5 v143 h143) (cwVA hts (TW.cons _) lv_X5_answer ml_RX6_165 ⟨rfl, rfl⟩ ⟨(Nat.le_of_ble_eq_true rfl), (Nat.le_of_ble_eq_true rfl)⟩) (pRV hK (hP.sub [11, 12, 13, 14, 15] (su_C_Y11 cI cS _ _)) (ci := 4) rfl rfl) rfl rfl hl.1 rfl (lv_room (Nat.le_of_ble_eq_true rfl)) dX6_years_143 ⟨Nat.le_refl _, Nat.le_refl _⟩) ?_
                  obtain ⟨v146, u146, h146, hF⟩ := bd2 hF
                  refine cAe (ws' := pC cI cS a0 u146) (va_runV (As := [.int v143]) (rest := []) ⟨hx, hb, hml, hown, hts⟩ (c_X6_withoutFault l D cI cS a0 (gr t0 11 5 u133) v143 v146 u146 h146) (cwVA hts (TW.cons _) lv_X6_withoutFault ml_RX6_53 ⟨rfl, rfl⟩ ⟨(Nat.le_of_ble_eq_true rfl), (Nat.le_of_ble_eq_true rfl)⟩) (pWV hK hP hD (ci := 5) rfl rfl) rfl rfl hl.1 rfl (lv_room (Nat.le_of_ble_eq_true rfl)) dX6_years_146 ⟨Nat.le_refl _, Nat.le_refl _⟩) hD hS (ad_C cI cS _ _ _) (fun H locs hP hD hS => ?_)
                  exact W.iret hx hb hr (fun t ht hW => ⟨⟨_, (), rfl, (Prod.mk.inj (Option.some.inj hF)).1, by show va_P _ _ _ t.heap; rw [ht, ← (Prod.mk.inj (Option.some.inj hF)).2]; exact hP⟩, hS.F ht⟩) hS.2.2 dX6_years_149
                · replace hF := iq c106 hF
                  refine lv_aload_n hx hb dX6_years_109 rfl (lv_at hl 3 rfl) ?_
                  refine lv_iload hx hb dX6_years_110 (lv_at hl 0 rfl) ?_
                  obtain ⟨v112, u112, h112, hF⟩ := bd2 hF
                  refine cAe (ws' := pC cI cS a0 u112) (va_runV (As := [.int v99]) (rest := []) ⟨hx, hb, hml, hown, hts⟩ (c_X6_withoutFault l D cI cS a0 t0 v99 v112 u112 h112) (cwVA hts (TW.cons _) lv_X6_withoutFault ml_RX6_53 ⟨rfl, rfl⟩ ⟨(Nat.le_of_ble_eq_true rfl), (Nat.le_of_ble_eq_true rfl)⟩) (pWV hK hP hD (ci := 5) rfl rfl) rfl rfl hl.1 rfl (lv_room (Nat.le_of_ble_eq_true rfl)) dX6_years_112 ⟨Nat.le_refl _, Nat.le_refl _⟩) hD hS (ad_C cI cS _ _ _) (fun H locs hP hD hS => ?_)
                  exact W.iret hx hb hr (fun t ht hW => ⟨⟨_, (), rfl, (Prod.mk.inj (Option.some.inj hF)).1, by show va_P _ _ _ t.heap; rw [ht, ← (Prod.mk.inj (Option.some.inj hF)).2]; exact hP⟩, hS.F ht⟩) hS.2.2 dX6_years_115
              · replace hF := ip c80 hF
                refine lv_aload_n hx hb dX6_years_83 rfl (lv_at hl 2 rfl) ?_
                refine lv_bipush (v := (-3)) hx hb dX6_years_84 (by decide) ?_
                obtain ⟨v86, u86, h86, hF⟩ := bd2 hF
                refine cAe (ws' := pC cI cS a0 u86) (va_runV (As := [.int (-3)]) (rest := []) ⟨hx, hb, hml, hown, hts⟩ (c_X6_withoutFault l D cI cS a0 t0 (-3) v86 u86 h86) (cwVA hts (TW.cons _) lv_X6_withoutFault ml_RX6_53 ⟨rfl, rfl⟩ ⟨(Nat.le_of_ble_eq_true rfl), (Nat.le_of_ble_eq_true rfl)⟩) (pWV hK hP hD (ci := 5) rfl rfl) rfl rfl hl.1 rfl (lv_room (Nat.le_of_ble_eq_true rfl)) dX6_years_86 ⟨Nat.le_refl _, Nat.le_refl _⟩) hD hS (ad_C cI cS _ _ _) (fun H locs hP hD hS => ?_)
                exact W.iret hx hb hr (fun t ht hW => ⟨⟨_, (), rfl, (Prod.mk.inj (Option.some.inj hF)).1, by show va_P _ _ _ t.heap; rw [ht, ← (Prod.mk.inj (Option.some.inj hF)).2]; exact hP⟩, hS.F ht⟩) hS.2.2 dX6_years_89
            · replace hF := iq c66 hF
              refine lv_aload_n hx hb dX6_years_69 rfl (lv_at hl 2 rfl) ?_
              refine lv_iload hx hb dX6_years_70 (lv_at hl 0 rfl) ?_
              obtain ⟨v72, u72, h72, hF⟩ := bd2 hF
              refine cAe (ws' := pC cI cS a0 u72) (va_runV (As := [.int v59]) (rest := []) ⟨hx, hb, hml, hown, hts⟩ (c_X6_withFault l D cI cS a0 t0 v59 v72 u72 h72) (cwVA hts (TW.cons _) lv_X6_withFault ml_RX6_64 ⟨rfl, rfl⟩ ⟨(Nat.le_of_ble_eq_true rfl), (Nat.le_of_ble_eq_true rfl)⟩) (pWV hK hP hD (ci := 5) rfl rfl) rfl rfl hl.1 rfl (lv_room (Nat.le_of_ble_eq_true rfl)) dX6_years_72 ⟨Nat.le_refl _, Nat.le_refl _⟩) hD hS (ad_C cI cS _ _ _) (fun H locs hP hD hS => ?_)
              exact W.iret hx hb hr (fun t ht hW => ⟨⟨_, (), rfl, (Prod.mk.inj (Option.some.inj hF)).1, by show va_P _ _ _ t.heap; rw [ht, ← (Prod.mk.inj (Option.some.inj hF)).2]; exact hP⟩, hS.F ht⟩) hS.2.2 dX6_years_75
          · refine rR (b := a0 26) hx hb hK.1 hP 28 1 (at_C_28 cI cS _ _) rfl h48 rfl dX6_years_48 ?_
            refine lv_astore (lv' := [(6, .ref (a0 26)), (0, .ref (a0 0)), (1, .int x1), (2, .int x2), (3, .int x3), (4, .int x4), (5, .int x5)]) hx hb dX6_years_49 hl (by decide) rfl (fun ls hl => ?_)
            refine lv_aload hx hb dX6_years_51 (lv_at hl 0 rfl) ?_
            refine lv_iload_n hx hb dX6_years_53 rfl (lv_at hl 3 rfl) ?_
            refine lv_iload_n hx hb dX6_years_54 rfl (lv_at hl 4 rfl) ?_
            refine lv_iconst (v := 2) hx hb dX6_years_55 (by decide) ?_
            refine lv_iload hx hb dX6_years_56 (lv_at hl 5 rfl) ?_
            refine lv_imul hx hb dX6_years_58 ?_
            obtain ⟨v59, h59, hF⟩ := bd hF
            refine cRe (va_runV (As := [.int x2, .int x3, .int (2 * x4)]) (rest := []) ⟨hx, hb, hml, hown, hts⟩ (c_X3_faultOfTaking l D cI cS (sa a0 26) (sb t0 26) x2 x3 (2 * x4) v59 h59) (cwVA hts (TW.cons _) lv_X3_faultOfTaking ml_RX6_60 ⟨rfl, rfl⟩ ⟨(Nat.le_of_ble_eq_true rfl), (Nat.le_of_ble_eq_true rfl)⟩) (pRV hK (hP.sub [26, 27] (su_C_S26 cI cS _ _)) (ci := 3) rfl rfl) rfl rfl hl.1 rfl (lv_room (Nat.le_of_ble_eq_true rfl)) dX6_years_59 ⟨Nat.le_refl _, Nat.le_refl _⟩) ?_
            refine lv_istore (lv' := [(7, .int v59), (6, .ref (a0 26)), (0, .ref (a0 0)), (1, .int x1), (2, .int x2), (3, .int x3), (4, .int x4), (5, .int x5)]) hx hb dX6_years_62 hl (by decide) rfl (fun ls hl => ?_)
            refine lv_iload hx hb dX6_years_64 (lv_at hl 0 rfl) ?_
            refine lv_if_eq (tgt := 76) hx hb dX6_years_66 (by decide) (fun c66 => ?_) (fun c66 => ?_)
            · replace hF := ip c66 hF
              refine lv_aload_n hx hb dX6_years_76 rfl (lv_at hl 2 rfl) ?_
              obtain ⟨v77, h77, hF⟩ := bd hF
              refine cRb (va_runV (As := []) (rest := []) ⟨hx, hb, hml, hown, hts⟩ (c_X6_hasGarden l D cI cS a0 t0 v77 h77) (cwVA hts (TW.cons _) lv_X6_hasGarden ml_RX6_123 ⟨rfl, rfl⟩ ⟨(Nat.le_of_ble_eq_true rfl), (Nat.le_of_ble_eq_true rfl)⟩) (pRV hK hP (ci := 5) rfl rfl) rfl rfl hl.1 rfl (lv_room (Nat.le_of_ble_eq_true rfl)) dX6_years_77 ⟨Nat.le_refl _, Nat.le_refl _⟩) (fun b77 => ?_)
              refine lv_if_ne (tgt := 90) hx hb dX6_years_80 (by decide) (fun c80 => ?_) (fun c80 => ?_)
              · replace hF := iq c80 hF
                refine lv_aload_n hx hb dX6_years_90 rfl (lv_at hl 2 rfl) ?_
                refine va_get (D := D) (ci := 5) (v := .ref (a0 3)) (C := RX6) (T := TX6) (N := 8) hx hb hts (fun w h => List.mem_cons_of_mem _ (inAX6 w h)) hown hK.1 hP 0 (at_C_0 cI cS _ _) rfl 1 (by decide) (hts _ (List.mem_cons_of_mem _ fl_RX6_21)) (fun _ h9 => h9) rfl dX6_years_91 ?_
                refine lv_aload hx hb dX6_years_94 (lv_at hl 1 rfl) ?_
                refine lv_iload_n hx hb dX6_years_96 rfl (lv_at hl 5 rfl) ?_
                refine lv_iload hx hb dX6_years_97 (lv_at hl 6 rfl) ?_
                obtain ⟨v99, h99, hF⟩ := bd hF
                refine cRe (va_runS (As := [.ref (a0 3), .ref (a0 26), .int x3, .int x4]) (rest := []) ⟨hx, hb, hml, hown, hts⟩ (c_X5_refusalOfPairs l D cI cS (sa a0 3) (sa a0 26) (sb t0 3) (sb t0 26) x3 x4 v99 h99) (cwSA hts (TW.cons _) ls_X5_refusalOfPairs ml_RX6_157 ⟨rfl, rfl⟩ ⟨(Nat.le_of_ble_eq_true rfl), (Nat.le_of_ble_eq_true rfl)⟩) (pRS hK (hP.sub [3, 4, 5, 6, 26, 27] (su_C_B3_S26 cI cS _ _))) rfl rfl hl.1 rfl (lv_room (Nat.le_of_ble_eq_true rfl)) dX6_years_99 ⟨Nat.le_refl _, Nat.le_refl _⟩) ?_
                refine lv_istore (lv' := [(8, .int v99), (7, .int v59), (6, .ref (a0 26)), (0, .ref (a0 0)), (1, .int x1), (2, .int x2), (3, .int x3), (4, .int x4), (5, .int x5)]) hx hb dX6_years_102 hl (by decide) rfl (fun ls hl => ?_)
                refine lv_iload hx hb dX6_years_104 (lv_at hl 0 rfl) ?_
                refine lv_if_eq (tgt := 116) hx hb dX6_years_106 (by decide) (fun c106 => ?_) (fun c106 => ?_)
                · replace hF := ip c106 hF
                  refine lv_aload_n hx hb dX6_years_116 rfl (lv_at hl 3 rfl) ?_
                  refine va_get (D := D) (ci := 5) (v := .ref (a0 11)) (C := RX6) (T := TX6) (N := 8) hx hb hts (fun w h => List.mem_cons_of_mem _ (inAX6 w h)) hown hK.1 hP 0 (at_C_0 cI cS _ _) rfl 3 (by decide) (hts _ (List.mem_cons_of_mem _ fl_RX6_31)) (fun _ h9 => h9) rfl dX6_years_117 ?_
                  refine lv_aload_n hx hb dX6_years_120 rfl (lv_at hl 3 rfl) ?_
                  refine va_get (D := D) (ci := 5) (v := .ref (a0 3)) (C := RX6) (T := TX6) (N := 8) hx hb hts (fun w h => List.mem_cons_of_mem _ (inAX6 w h)) hown hK.1 hP 0 (at_C_0 cI cS _ _) rfl 1 (by decide) (hts _ (List.mem_cons_of_mem _ fl_RX6_21)) (fun _ h9 => h9) rfl dX6_years_121 ?_
                  refine lv_aload_n hx hb dX6_years_124 rfl (lv_at hl 3 rfl) ?_
                  refine va_get (D := D) (ci := 5) (v := .ref (a0 1)) (C := RX6) (T := TX6) (N := 8) hx hb hts (fun w h => List.mem_cons_of_mem _ (inAX6 w h)) hown hK.1 hP 0 (at_C_0 cI cS _ _) rfl 0 (by decide) (hts _ (List.mem_cons_of_mem _ fl_RX6_12)) (fun _ h9 => h9) rfl dX6_years_125 ?_
                  refine lv_aload hx hb dX6_years_128 (lv_at hl 2 rfl) ?_
                  refine lv_iload_n hx hb dX6_years_130 rfl (lv_at hl 6 rfl) ?_
                  refine lv_iload hx hb dX6_years_131 (lv_at hl 7 rfl) ?_
                  obtain ⟨u133, h133, hF⟩ := bd hF
                  refine cWv (ws' := pC cI cS a0 (gr t0 11 5 u133)) (va_runV (As := [.ref (a0 3), .ref (a0 1), .ref (a0 26), .int x3, .int x4]) (rest := []) ⟨hx, hb, hml, hown, hts⟩ (c_X5_live l D cI cS (sa a0 11) (sa a0 3) (sa a0 1) (sa a0 26) (sb t0 11) (sb t0 3) (sb t0 1) (sb t0 26) x3 x4 u133 h133) (cwVA hts (TW.cons _) lv_X5_live ml_RX6_161 ⟨rfl, rfl⟩ ⟨(Nat.le_of_ble_eq_true rfl), (Nat.le_of_ble_eq_true rfl)⟩) (pWV hK (hP.sub [11, 12, 13, 14, 15, 3, 4, 5, 6, 1, 2, 26, 27] (su_C_Y11_B3_L1_S26 cI cS _ _)) (hD.sub [11, 12, 13, 14, 15, 3, 4, 5, 6, 1, 2, 26, 27] (by decide) (sm_C_Y11_B3_L1_S26 cI cS _ _)) (ci := 4) rfl rfl) rfl rfl hl.1 rfl (lv_room (Nat.le_of_ble_eq_true rfl)) dX6_years_133 ⟨Nat.le_refl _, Nat.le_refl _⟩) hP hD hS [11, 12, 13, 14, 15, 3, 4, 5, 6, 1, 2, 26, 27] (sm_C_Y11_B3_L1_S26 cI cS _ _) [.inl 0, .inr 9, .inr 10, .inr 5, .inr 6, .inr 7, .inr 8, .inl 7, .inl 8, .inl 9, .inl 10, .inr 0, .inr 1, .inr 2, .inr 3, .inr 4, .inl 16, .inl 17, .inl 18, .inl 19, .inl 20, .inl 21, .inl 22, .inl 23, .inl 24, .inl 25, .inr 11, .inr 12, .inl 28] (pn_C_Y11_B3_L1_S26 cI cS _ _ _) rfl (ad_C cI cS _ _ _) (fun H locs hP hD hS => ?_)
                  refine lv_aload_n hx hb dX6_years_136 rfl (lv_at hl 3 rfl) ?_
                  refine lv_aload_n hx hb dX6_years_137 rfl (lv_at hl 3 rfl) ?_
                  refine va_get (D := D) (ci := 5) (v := .ref (a0 11)) (C := RX6) (T := TX6) (N := 8) hx hb hts (fun w h => List.mem_cons_of_mem _ (inAX6 w h)) hown hK.1 hP 0 (at_C_0 cI cS _ _) rfl 3 (by decide) (hts _ (List.mem_cons_of_mem _ fl_RX6_31)) (fun _ h9 => h9) rfl dX6_years_138 ?_
                  refine lv_iload hx hb dX6_years_141 (lv_at hl 8 rfl) ?_
                  obtain ⟨v143, h143, hF⟩ := bd hF
                  refine cRe (va_runV (As := [.int x5]) (rest := [.ref (a0 0)]) ⟨hx, hb, hml, hown, hts⟩ (c_X5_answer l D cI cS (sa a0 11) (sb (gr t0 11 5 u133) 11) x5 v143 h143) (cwVA hts (TW.cons _) lv_X5_answer ml_RX6_165 ⟨rfl, rfl⟩ ⟨(Nat.le_of_ble_eq_true rfl), (Nat.le_of_ble_eq_true rfl)⟩) (pRV hK (hP.sub [11, 12, 13, 14, 15] (su_C_Y11 cI cS _ _)) (ci := 4) rfl rfl) rfl rfl hl.1 rfl (lv_room (Nat.le_of_ble_eq_true rfl)) dX6_years_143 ⟨Nat.le_refl _, Nat.le_refl _⟩) ?_
                  obtain ⟨v146, u146, h146, hF⟩ := bd2 hF
                  refine cAe (ws' := pC cI cS a0 u146) (va_runV (As := [.int v143]) (rest := []) ⟨hx, hb, hml, hown, hts⟩ (c_X6_withoutFault l D cI cS a0 (gr t0 11 5 u133) v143 v146 u146 h146) (cwVA hts (TW.cons _) lv_X6_withoutFault ml_RX6_53 ⟨rfl, rfl⟩ ⟨(Nat.le_of_ble_eq_true rfl), (Nat.le_of_ble_eq_true rfl)⟩) (pWV hK hP hD (ci := 5) rfl rfl) rfl rfl hl.1 rfl (lv_room (Nat.le_of_ble_eq_true rfl)) dX6_years_146 ⟨Nat.le_refl _, Nat.le_refl _⟩) hD hS (ad_C cI cS _ _ _) (fun H locs hP hD hS => ?_)
                  exact W.iret hx hb hr (fun t ht hW => ⟨⟨_, (), rfl, (Prod.mk.inj (Option.some.inj hF)).1, by show va_P _ _ _ t.heap; rw [ht, ← (Prod.mk.inj (Option.some.inj hF)).2]; exact hP⟩, hS.F ht⟩) hS.2.2 dX6_years_149
                · replace hF := iq c106 hF
                  refine lv_aload_n hx hb dX6_years_109 rfl (lv_at hl 3 rfl) ?_
                  refine lv_iload hx hb dX6_years_110 (lv_at hl 0 rfl) ?_
                  obtain ⟨v112, u112, h112, hF⟩ := bd2 hF
                  refine cAe (ws' := pC cI cS a0 u112) (va_runV (As := [.int v99]) (rest := []) ⟨hx, hb, hml, hown, hts⟩ (c_X6_withoutFault l D cI cS a0 t0 v99 v112 u112 h112) (cwVA hts (TW.cons _) lv_X6_withoutFault ml_RX6_53 ⟨rfl, rfl⟩ ⟨(Nat.le_of_ble_eq_true rfl), (Nat.le_of_ble_eq_true rfl)⟩) (pWV hK hP hD (ci := 5) rfl rfl) rfl rfl hl.1 rfl (lv_room (Nat.le_of_ble_eq_true rfl)) dX6_years_112 ⟨Nat.le_refl _, Nat.le_refl _⟩) hD hS (ad_C cI cS _ _ _) (fun H locs hP hD hS => ?_)
                  exact W.iret hx hb hr (fun t ht hW => ⟨⟨_, (), rfl, (Prod.mk.inj (Option.some.inj hF)).1, by show va_P _ _ _ t.heap; rw [ht, ← (Prod.mk.inj (Option.some.inj hF)).2]; exact hP⟩, hS.F ht⟩) hS.2.2 dX6_years_115
              · replace hF := ip c80 hF
                refine lv_aload_n hx hb dX6_years_83 rfl (lv_at hl 2 rfl) ?_
                refine lv_bipush (v := (-3)) hx hb dX6_years_84 (by decide) ?_
                obtain ⟨v86, u86, h86, hF⟩ := bd2 hF
                refine cAe (ws' := pC cI cS a0 u86) (va_runV (As := [.int (-3)]) (rest := []) ⟨hx, hb, hml, hown, hts⟩ (c_X6_withoutFault l D cI cS a0 t0 (-3) v86 u86 h86) (cwVA hts (TW.cons _) lv_X6_withoutFault ml_RX6_53 ⟨rfl, rfl⟩ ⟨(Nat.le_of_ble_eq_true rfl), (Nat.le_of_ble_eq_true rfl)⟩) (pWV hK hP hD (ci := 5) rfl rfl) rfl rfl hl.1 rfl (lv_room (Nat.le_of_ble_eq_true rfl)) dX6_years_86 ⟨Nat.le_refl _, Nat.le_refl _⟩) hD hS (ad_C cI cS _ _ _) (fun H locs hP hD hS => ?_)
                exact W.iret hx hb hr (fun t ht hW => ⟨⟨_, (), rfl, (Prod.mk.inj (Option.some.inj hF)).1, by show va_P _ _ _ t.heap; rw [ht, ← (Prod.mk.inj (Option.some.inj hF)).2]; exact hP⟩, hS.F ht⟩) hS.2.2 dX6_years_89
            · replace hF := iq c66 hF
              refine lv_aload_n hx hb dX6_years_69 rfl (lv_at hl 2 rfl) ?_
              refine lv_iload hx hb dX6_years_70 (lv_at hl 0 rfl) ?_
              obtain ⟨v72, u72, h72, hF⟩ := bd2 hF
              refine cAe (ws' := pC cI cS a0 u72) (va_runV (As := [.int v59]) (rest := []) ⟨hx, hb, hml, hown, hts⟩ (c_X6_withFault l D cI cS a0 t0 v59 v72 u72 h72) (cwVA hts (TW.cons _) lv_X6_withFault ml_RX6_64 ⟨rfl, rfl⟩ ⟨(Nat.le_of_ble_eq_true rfl), (Nat.le_of_ble_eq_true rfl)⟩) (pWV hK hP hD (ci := 5) rfl rfl) rfl rfl hl.1 rfl (lv_room (Nat.le_of_ble_eq_true rfl)) dX6_years_72 ⟨Nat.le_refl _, Nat.le_refl _⟩) hD hS (ad_C cI cS _ _ _) (fun H locs hP hD hS => ?_)
              exact W.iret hx hb hr (fun t ht hW => ⟨⟨_, (), rfl, (Prod.mk.inj (Option.some.inj hF)).1, by show va_P _ _ _ t.heap; rw [ht, ← (Prod.mk.inj (Option.some.inj hF)).2]; exact hP⟩, hS.F ht⟩) hS.2.2 dX6_years_75
        · replace hF := ip c33 hF
          refine lv_aload_n hx hb dX6_years_36 rfl (lv_at hl 0 rfl) ?_
          refine lv_bipush (v := (-2)) hx hb dX6_years_37 (by decide) ?_
          obtain ⟨v39, u39, h39, hF⟩ := bd2 hF
          refine cAe (ws' := pC cI cS a0 u39) (va_runV (As := [.int (-2)]) (rest := []) ⟨hx, hb, hml, hown, hts⟩ (c_X6_withoutFault l D cI cS a0 t0 (-2) v39 u39 h39) (cwVA hts (TW.cons _) lv_X6_withoutFault ml_RX6_53 ⟨rfl, rfl⟩ ⟨(Nat.le_of_ble_eq_true rfl), (Nat.le_of_ble_eq_true rfl)⟩) (pWV hK hP hD (ci := 5) rfl rfl) rfl rfl hl.1 rfl (lv_room (Nat.le_of_ble_eq_true rfl)) dX6_years_39 ⟨Nat.le_refl _, Nat.le_refl _⟩) hD hS (ad_C cI cS _ _ _) (fun H locs hP hD hS => ?_)
          exact W.iret hx hb hr (fun t ht hW => ⟨⟨_, (), rfl, (Prod.mk.inj (Option.some.inj hF)).1, by show va_P _ _ _ t.heap; rw [ht, ← (Prod.mk.inj (Option.some.inj hF)).2]; exact hP⟩, hS.F ht⟩) hS.2.2 dX6_years_42
  · replace hF := ip c4 hF
    refine lv_aload_n hx hb dX6_years_7 rfl (lv_at hl 0 rfl) ?_
    refine lv_iconst (v := (-1)) hx hb dX6_years_8 (by decide) ?_
    obtain ⟨v9, u9, h9, hF⟩ := bd2 hF
    refine cAe (ws' := pC cI cS a0 u9) (va_runV (As := [.int (-1)]) (rest := []) ⟨hx, hb, hml, hown, hts⟩ (c_X6_withoutFault l D cI cS a0 t0 (-1) v9 u9 h9) (cwVA hts (TW.cons _) lv_X6_withoutFault ml_RX6_53 ⟨rfl, rfl⟩ ⟨(Nat.le_of_ble_eq_true rfl), (Nat.le_of_ble_eq_true rfl)⟩) (pWV hK hP hD (ci := 5) rfl rfl) rfl rfl hl.1 rfl (lv_room (Nat.le_of_ble_eq_true rfl)) dX6_years_9 ⟨Nat.le_refl _, Nat.le_refl _⟩) hD hS (ad_C cI cS _ _ _) (fun H locs hP hD hS => ?_)
    exact W.iret hx hb hr (fun t ht hW => ⟨⟨_, (), rfl, (Prod.mk.inj (Option.some.inj hF)).1, by show va_P _ _ _ t.heap; rw [ht, ← (Prod.mk.inj (Option.some.inj hF)).2]; exact hP⟩, hS.F ht⟩) hS.2.2 dX6_years_12
