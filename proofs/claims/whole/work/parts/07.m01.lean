noncomputable def F_X7_takeLaw_L22 (x1 : Int32) (x2 : Int32) (k : Int32 → ST → Option ST) : Nat → Int32 → ST → Option ST
  | 0, _, _ => none
  | n + 1, x3, s0 =>
    if 6 ≤ x3 then
      k x3 s0
    else
    (rd 64 (s0 4) x2).bind fun v34 =>
    (F_X7_bitFor x2 x3).bind fun v41 =>
    (ix 64 x2).bind fun k50 =>
    (F_X7_takeLaw_L22 x1 x2 k n) (x3 + 1) (st s0 4 k50 (v34 ||| ((((s0 0 2) >>> (v41 &&& 31)) &&& 1) <<< (x3 &&& 31))))
noncomputable def F_X7_takeLaw_J57 (x1 : Int32) (g k : Int32 → ST → Option ST) (x2 : Int32) (s0 : ST) : Option ST :=
  g (x2 + 1) s0
noncomputable def F_X7_takeLaw_L7 (x1 : Int32) (k : Int32 → ST → Option ST) : Nat → Int32 → ST → Option ST
  | 0, _, _ => none
  | n + 1, x2, s0 =>
    if 64 ≤ x2 then
      k x2 s0
    else
    (ix 64 x2).bind fun k19 =>
    F_X7_takeLaw_L22 x1 x2 (fun x3_k22 s0_k22 => F_X7_takeLaw_J57 x1 (F_X7_takeLaw_L7 x1 k n) k x2 s0_k22) 1000 0 (st s0 4 k19 0)
noncomputable def F_X7_takeLaw_J63 (x1 : Int32) (s0 : ST) : Option ST :=
  some s0
noncomputable def F_X7_takeLaw (t0 : ST) (x1 : Int32) : Option ST :=
  F_X7_takeLaw_L7 x1 (fun x2_k7 s0_k7 => F_X7_takeLaw_J63 x1 s0_k7) 1000 0 (st t0 0 2 x1)
abbrev rm_X7_takeLaw : Room := { frames := 1, cells := 0, slots := 0, locals := 23 }
set_option maxHeartbeats 4000000 in
set_option maxRecDepth 100000 in
theorem c_X7_takeLaw (l : Launch) (D : va_G) (cI cS : ClassId) (a0 : Nat → Nat) (t0 : ST) (x1 : Int32) (t' : ST) (hF : F_X7_takeLaw t0 x1 = some t') : Met l yX7_takeLaw (Cond.code yX7_takeLaw cX7_takeLaw 4 none :: ALL) rm_X7_takeLaw (PreW D cI cS [.ref (a0 0), .int x1] (pM cI cS a0 t0)) (va_Qv (fun (_ : Unit) => True) (fun _ t => va_P D vwCl (pM cI cS a0 t') t.heap) (AD (pM cI cS a0 t0))) 0 0 (AD (pM cI cS a0 t0)) := by
  refine mW l D cI cS (by decide) (Nat.le_of_ble_eq_true rfl) ?_
  intro p e s m below meth c ls hx hb hr hml hown hts hlocks hP hK hD hS hl
  have hown : s.vm.findClass RX7 = some m.cls := hown
  have hl : lv_has ls 4 [(0, .ref (a0 0)), (1, .int x1)] := hl
  unfold F_X7_takeLaw at hF
  refine lv_aload_n hx hb dX7_takeLaw_0 rfl (lv_at hl 0 rfl) ?_
  refine lv_iload_n hx hb dX7_takeLaw_1 rfl (lv_at hl 1 rfl) ?_
  refine wF (ws' := pM cI cS a0 (st t0 0 2 x1)) (C := RX7) (T := TX7) (N := 29) hx hb hts (fun w h => List.mem_cons_of_mem _ (inAX7 w h)) tyX7 tyX7_ok nmX7 hown hK.1 hP hD hS 0 (at_M_0 cI cS _ _) rfl 5 (by decide) (hts _ (List.mem_cons_of_mem _ fl_RX7_111)) rfl (tyX7_ok 5 (by decide)) rfl rfl (Nat.le_of_ble_eq_true rfl) (sf_M_0_5 cI cS _ _ _) dX7_takeLaw_2 (fun H locs hP hD hS => ?_)
  refine lv_iconst (v := 0) hx hb dX7_takeLaw_5 (by decide) ?_
  refine lv_istore_n (lv' := [(2, .int 0), (0, .ref (a0 0)), (1, .int x1)]) hx hb dX7_takeLaw_6 rfl hl (by decide) rfl (fun ls hl => ?_)
  have L7 : ∀ (n_7 : Nat) (x2_7 : Int32) (s0_7 : ST) (H : Heap) (locs : List Loc) (ls : Array Slot), va_P D vwCl (pM cI cS a0 s0_7) H → va_D (AD (pM cI cS a0 t0)) (pM cI cS a0 s0_7) → va_S (AD (pM cI cS a0 t0)) s.heap H locs → lv_has ls 4 [(0, .ref (a0 0)), (2, .int x2_7)] → F_X7_takeLaw_L7 x1 (fun x2_k7 s0_k7 => F_X7_takeLaw_J63 x1 s0_k7) n_7 x2_7 s0_7 = some t' → W p l e rm_X7_takeLaw s m [.ref (a0 0), .int x1].toArray below meth c H locs 0 0 (MQ below (va_Qv (fun (_ : Unit) => True) (fun _ t => va_P D vwCl (pM cI cS a0 t') t.heap) (AD (pM cI cS a0 t0))) [.ref (a0 0), .int x1].toArray s 0 0 (AD (pM cI cS a0 t0))) (F0 m 7 ls []) := by
    intro n_7
    induction n_7 with
    | zero => intro x2_7 s0_7 H locs ls hP hD hS hl hF; exact nomatch hF
    | succ n_7 ih7 =>
      intro x2_7 s0_7 H locs ls hP hD hS hl hF
      rw [F_X7_takeLaw_L7.eq_2] at hF
      refine lv_iload_n hx hb dX7_takeLaw_7 rfl (lv_at hl 1 rfl) ?_
      refine lv_bipush (v := 64) hx hb dX7_takeLaw_8 (by decide) ?_
      refine lv_icmp_ge (tgt := 63) hx hb dX7_takeLaw_10 (by decide) (fun c10 => ?_) (fun c10 => ?_)
      · replace hF := ip c10 hF
        have hF : F_X7_takeLaw_J63 x1 s0_7 = some t' := hF
        unfold F_X7_takeLaw_J63 at hF
        exact W.vret hx hb hr (fun t ht hW => ⟨⟨(), rfl, trivial, by show va_P _ _ _ t.heap; rw [ht, ← (Option.some.inj hF)]; exact hP⟩, hS.F ht⟩) hS.2.2 dX7_takeLaw_63
      · replace hF := iq c10 hF
        refine lv_aload_n hx hb dX7_takeLaw_13 rfl (lv_at hl 0 rfl) ?_
        refine va_get (D := D) (ci := 6) (v := .ref (a0 4)) (C := RX7) (T := TX7) (N := 29) hx hb hts (fun w h => List.mem_cons_of_mem _ (inAX7 w h)) hown hK.1 hP 0 (at_M_0 cI cS _ _) rfl 9 (by decide) (hts _ (List.mem_cons_of_mem _ fl_RX7_19)) (fun _ h9 => h9) rfl dX7_takeLaw_14 ?_
        refine lv_iload_n hx hb dX7_takeLaw_17 rfl (lv_at hl 1 rfl) ?_
        refine lv_iconst (v := 0) hx hb dX7_takeLaw_18 (by decide) ?_
        obtain ⟨k19, h19, hF⟩ := bd hF
        refine wI (ws' := pM cI cS a0 (st s0_7 4 k19 0)) hx hb hK.1 hP hD hS 4 0 (at_M_4 cI cS _ _) rfl h19 (sw_M_4 cI cS _ _ _ _) dX7_takeLaw_19 (fun H locs hP hD hS => ?_)
        refine lv_iconst (v := 0) hx hb dX7_takeLaw_20 (by decide) ?_
        refine lv_istore_n (lv' := [(3, .int 0), (0, .ref (a0 0)), (2, .int x2_7)]) hx hb dX7_takeLaw_21 rfl hl (by decide) rfl (fun ls hl => ?_)
        have L22 : ∀ (n_22 : Nat) (x3_22 : Int32) (s0_22 : ST) (H : Heap) (locs : List Loc) (ls : Array Slot), va_P D vwCl (pM cI cS a0 s0_22) H → va_D (AD (pM cI cS a0 t0)) (pM cI cS a0 s0_22) → va_S (AD (pM cI cS a0 t0)) s.heap H locs → lv_has ls 4 [(0, .ref (a0 0)), (2, .int x2_7), (3, .int x3_22)] → F_X7_takeLaw_L22 x1 x2_7 (fun x3_k22 s0_k22 => F_X7_takeLaw_J57 x1 (F_X7_takeLaw_L7 x1 (fun x2_k7 s0_k7 => F_X7_takeLaw_J63 x1 s0_k7) n_7) (fun x2_k7 s0_k7 => F_X7_takeLaw_J63 x1 s0_k7) x2_7 s0_k22) n_22 x3_22 s0_22 = some t' → W p l e rm_X7_takeLaw s m [.ref (a0 0), .int x1].toArray below meth c H locs 0 0 (MQ below (va_Qv (fun (_ : Unit) => True) (fun _ t => va_P D vwCl (pM cI cS a0 t') t.heap) (AD (pM cI cS a0 t0))) [.ref (a0 0), .int x1].toArray s 0 0 (AD (pM cI cS a0 t0))) (F0 m 22 ls []) := by
          intro n_22
          induction n_22 with
          | zero => intro x3_22 s0_22 H locs ls hP hD hS hl hF; exact nomatch hF
          | succ n_22 ih22 =>
            intro x3_22 s0_22 H locs ls hP hD hS hl hF
            rw [F_X7_takeLaw_L22.eq_2] at hF
            refine lv_iload_n hx hb dX7_takeLaw_22 rfl (lv_at hl 2 rfl) ?_
            refine lv_bipush (v := 6) hx hb dX7_takeLaw_23 (by decide) ?_
            refine lv_icmp_ge (tgt := 57) hx hb dX7_takeLaw_25 (by decide) (fun c25 => ?_) (fun c25 => ?_)
            · replace hF := ip c25 hF
              have hF : F_X7_takeLaw_J57 x1 (F_X7_takeLaw_L7 x1 (fun x2_k7 s0_k7 => F_X7_takeLaw_J63 x1 s0_k7) n_7) (fun x2_k7 s0_k7 => F_X7_takeLaw_J63 x1 s0_k7) x2_7 s0_22 = some t' := hF
              unfold F_X7_takeLaw_J57 at hF
              refine lv_iinc (v := (x2_7 + 1)) (lv' := [(2, .int (x2_7 + 1)), (0, .ref (a0 0)), (3, .int x3_22)]) hx hb dX7_takeLaw_57 hl (k := 1) rfl rfl (by decide) rfl (fun ls hl => ?_)
              refine lv_goto (tgt := 7) hx hb dX7_takeLaw_60 (by decide) ?_
              exact ih7 (x2_7 + 1) s0_22 _ _ _ hP hD hS (lv_sub hl [1, 0] rfl) hF
            · replace hF := iq c25 hF
              refine lv_aload_n hx hb dX7_takeLaw_28 rfl (lv_at hl 0 rfl) ?_
              refine va_get (D := D) (ci := 6) (v := .ref (a0 4)) (C := RX7) (T := TX7) (N := 29) hx hb hts (fun w h => List.mem_cons_of_mem _ (inAX7 w h)) hown hK.1 hP 0 (at_M_0 cI cS _ _) rfl 9 (by decide) (hts _ (List.mem_cons_of_mem _ fl_RX7_19)) (fun _ h9 => h9) rfl dX7_takeLaw_29 ?_
              refine lv_iload_n hx hb dX7_takeLaw_32 rfl (lv_at hl 1 rfl) ?_
              refine lv_dup2_11 hx hb dX7_takeLaw_33 rfl rfl ?_
              obtain ⟨v34, h34, hF⟩ := bd hF
              refine rI hx hb hK.1 hP 4 0 (at_M_4 cI cS _ _) rfl h34 dX7_takeLaw_34 ?_
              refine lv_aload_n hx hb dX7_takeLaw_35 rfl (lv_at hl 0 rfl) ?_
              refine va_get (D := D) (ci := 6) (v := .int (s0_22 0 2)) (C := RX7) (T := TX7) (N := 29) hx hb hts (fun w h => List.mem_cons_of_mem _ (inAX7 w h)) hown hK.1 hP 0 (at_M_0 cI cS _ _) rfl 5 (by decide) (hts _ (List.mem_cons_of_mem _ fl_RX7_111)) (fun _ h9 => h9) rfl dX7_takeLaw_36 ?_
              refine lv_iload_n hx hb dX7_takeLaw_39 rfl (lv_at hl 1 rfl) ?_
              refine lv_iload_n hx hb dX7_takeLaw_40 rfl (lv_at hl 2 rfl) ?_
              obtain ⟨v41, h41, hF⟩ := bd hF
              refine cRe (va_runS (As := [.int x2_7, .int x3_22]) (rest := [.int (s0_22 0 2), .int v34, .int x2_7, .ref (a0 4)]) ⟨hx, hb, hml, hown, hts⟩ (c_X7_bitFor l D cI cS x2_7 x3_22 v41 h41) (cwSA hts (TW.cons _) ls_X7_bitFor ml_RX7_114 ⟨rfl, rfl⟩ ⟨(Nat.le_of_ble_eq_true rfl), (Nat.le_of_ble_eq_true rfl)⟩) (pRS hK pnil) rfl rfl hl.1 rfl (lv_room (Nat.le_of_ble_eq_true rfl)) dX7_takeLaw_41 ⟨Nat.le_refl _, Nat.le_refl _⟩) ?_
              refine lv_ishr hx hb dX7_takeLaw_44 ?_
              refine lv_iconst (v := 1) hx hb dX7_takeLaw_45 (by decide) ?_
              refine lv_iand hx hb dX7_takeLaw_46 ?_
              refine lv_iload_n hx hb dX7_takeLaw_47 rfl (lv_at hl 2 rfl) ?_
              refine lv_ishl hx hb dX7_takeLaw_48 ?_
              refine lv_ior hx hb dX7_takeLaw_49 ?_
              obtain ⟨k50, h50, hF⟩ := bd hF
              refine wI (ws' := pM cI cS a0 (st s0_22 4 k50 (v34 ||| ((((s0_22 0 2) >>> (v41 &&& 31)) &&& 1) <<< (x3_22 &&& 31))))) hx hb hK.1 hP hD hS 4 0 (at_M_4 cI cS _ _) rfl h50 (sw_M_4 cI cS _ _ _ _) dX7_takeLaw_50 (fun H locs hP hD hS => ?_)
              refine lv_iinc (v := (x3_22 + 1)) (lv' := [(3, .int (x3_22 + 1)), (0, .ref (a0 0)), (2, .int x2_7)]) hx hb dX7_takeLaw_51 hl (k := 2) rfl rfl (by decide) rfl (fun ls hl => ?_)
              refine lv_goto (tgt := 22) hx hb dX7_takeLaw_54 (by decide) ?_
              exact ih22 (x3_22 + 1) (st s0_22 4 k50 (v34 ||| ((((s0_22 0 2) >>> (v41 &&& 31)) &&& 1) <<< (x3_22 &&& 31)))) _ _ _ hP hD hS (lv_sub hl [1, 2, 0] rfl) hF
        exact L22 1000 0 (st s0_7 4 k19 0) _ _ _ hP hD hS (lv_sub hl [1, 2, 0] rfl) hF
  exact L7 1000 0 (st t0 0 2 x1) _ _ _ hP hD hS (lv_sub hl [1, 0] rfl) hF
noncomputable def F_X7_takeGarden_L18 (k : Int32 → ST → Option ST) : Nat → Int32 → ST → Option ST
  | 0, _, _ => none
  | n + 1, x1, s0 =>
    if (s0 0 3) ≤ x1 then
      k x1 s0
    else
    (rd 18 (s0 8) (3 * x1)).bind fun v38 =>
    (ix 6 x1).bind fun k39 =>
    (rd 18 (s0 8) ((3 * x1) + 1)).bind fun v54 =>
    (ix 6 x1).bind fun k55 =>
    (rd 18 (s0 8) ((3 * x1) + 2)).bind fun v70 =>
    (ix 6 x1).bind fun k71 =>
    (F_X7_takeGarden_L18  k n) (x1 + 1) (st (st (st s0 5 k39 v38) 6 k55 v54) 7 k71 v70)
noncomputable def F_X7_takeGarden_J78 (s0 : ST) : Option ST :=
  some (st (st (st s0 0 4 0) 0 5 0) 0 13 0)
noncomputable def F_X7_takeGarden (t0 : ST) : Option ST :=
  (F_X7_takeLaw t0 (t0 0 7)).bind fun u5 =>
  F_X7_takeGarden_L18  (fun x1_k18 s0_k18 => F_X7_takeGarden_J78 s0_k18) 1000 0 (st u5 0 3 (u5 0 8))
abbrev rm_X7_takeGarden : Room := { frames := 2, cells := 0, slots := 0, locals := 46 }
set_option maxHeartbeats 4000000 in
set_option maxRecDepth 100000 in
theorem c_X7_takeGarden (l : Launch) (D : va_G) (cI cS : ClassId) (a0 : Nat → Nat) (t0 : ST) (t' : ST) (hF : F_X7_takeGarden t0 = some t') : Met l yX7_takeGarden (Cond.code yX7_takeGarden cX7_takeGarden 2 none :: ALL) rm_X7_takeGarden (PreW D cI cS [.ref (a0 0)] (pM cI cS a0 t0)) (va_Qv (fun (_ : Unit) => True) (fun _ t => va_P D vwCl (pM cI cS a0 t') t.heap) (AD (pM cI cS a0 t0))) 0 0 (AD (pM cI cS a0 t0)) := by
  refine mW l D cI cS (by decide) (Nat.le_of_ble_eq_true rfl) ?_
  intro p e s m below meth c ls hx hb hr hml hown hts hlocks hP hK hD hS hl
  have hown : s.vm.findClass RX7 = some m.cls := hown
  have hl : lv_has ls 2 [(0, .ref (a0 0))] := hl
  unfold F_X7_takeGarden at hF
  refine lv_aload_n hx hb dX7_takeGarden_0 rfl (lv_at hl 0 rfl) ?_
  refine lv_aload_n hx hb dX7_takeGarden_1 rfl (lv_at hl 0 rfl) ?_
  refine va_get (D := D) (ci := 6) (v := .int (t0 0 7)) (C := RX7) (T := TX7) (N := 29) hx hb hts (fun w h => List.mem_cons_of_mem _ (inAX7 w h)) hown hK.1 hP 0 (at_M_0 cI cS _ _) rfl 14 (by decide) (hts _ (List.mem_cons_of_mem _ fl_RX7_92)) (fun _ h9 => h9) rfl dX7_takeGarden_2 ?_
  obtain ⟨u5, h5, hF⟩ := bd hF
  refine cAv (ws' := pM cI cS a0 u5) (va_runV (As := [.int (t0 0 7)]) (rest := []) ⟨hx, hb, hml, hown, hts⟩ (c_X7_takeLaw l D cI cS a0 t0 (t0 0 7) u5 h5) (cwVA hts (TW.cons _) lv_X7_takeLaw ml_RX7_95 ⟨rfl, rfl⟩ ⟨(Nat.le_of_ble_eq_true rfl), (Nat.le_of_ble_eq_true rfl)⟩) (pWV hK hP hD (ci := 6) rfl rfl) rfl rfl hl.1 rfl (lv_room (Nat.le_of_ble_eq_true rfl)) dX7_takeGarden_5 ⟨Nat.le_refl _, Nat.le_refl _⟩) hD hS (ad_M cI cS _ _ _) (fun H locs hP hD hS => ?_)
  refine lv_aload_n hx hb dX7_takeGarden_8 rfl (lv_at hl 0 rfl) ?_
  refine lv_aload_n hx hb dX7_takeGarden_9 rfl (lv_at hl 0 rfl) ?_
  refine va_get (D := D) (ci := 6) (v := .int (u5 0 8)) (C := RX7) (T := TX7) (N := 29) hx hb hts (fun w h => List.mem_cons_of_mem _ (inAX7 w h)) hown hK.1 hP 0 (at_M_0 cI cS _ _) rfl 15 (by decide) (hts _ (List.mem_cons_of_mem _ fl_RX7_99)) (fun _ h9 => h9) rfl dX7_takeGarden_10 ?_
  refine wF (ws' := pM cI cS a0 (st u5 0 3 (u5 0 8))) (C := RX7) (T := TX7) (N := 29) hx hb hts (fun w h => List.mem_cons_of_mem _ (inAX7 w h)) tyX7 tyX7_ok nmX7 hown hK.1 hP hD hS 0 (at_M_0 cI cS _ _) rfl 6 (by decide) (hts _ (List.mem_cons_of_mem _ fl_RX7_65)) rfl (tyX7_ok 6 (by decide)) rfl rfl (Nat.le_of_ble_eq_true rfl) (sf_M_0_6 cI cS _ _ _) dX7_takeGarden_13 (fun H locs hP hD hS => ?_)
  refine lv_iconst (v := 0) hx hb dX7_takeGarden_16 (by decide) ?_
  refine lv_istore_n (lv' := [(1, .int 0), (0, .ref (a0 0))]) hx hb dX7_takeGarden_17 rfl hl (by decide) rfl (fun ls hl => ?_)
  have L18 : ∀ (n_18 : Nat) (x1_18 : Int32) (s0_18 : ST) (H : Heap) (locs : List Loc) (ls : Array Slot), va_P D vwCl (pM cI cS a0 s0_18) H → va_D (AD (pM cI cS a0 t0)) (pM cI cS a0 s0_18) → va_S (AD (pM cI cS a0 t0)) s.heap H locs → lv_has ls 2 [(0, .ref (a0 0)), (1, .int x1_18)] → F_X7_takeGarden_L18  (fun x1_k18 s0_k18 => F_X7_takeGarden_J78 s0_k18) n_18 x1_18 s0_18 = some t' → W p l e rm_X7_takeGarden s m [.ref (a0 0)].toArray below meth c H locs 0 0 (MQ below (va_Qv (fun (_ : Unit) => True) (fun _ t => va_P D vwCl (pM cI cS a0 t') t.heap) (AD (pM cI cS a0 t0))) [.ref (a0 0)].toArray s 0 0 (AD (pM cI cS a0 t0))) (F0 m 18 ls []) := by
    intro n_18
    induction n_18 with
    | zero => intro x1_18 s0_18 H locs ls hP hD hS hl hF; exact nomatch hF
    | succ n_18 ih18 =>
      intro x1_18 s0_18 H locs ls hP hD hS hl hF
      rw [F_X7_takeGarden_L18.eq_2] at hF
      refine lv_iload_n hx hb dX7_takeGarden_18 rfl (lv_at hl 1 rfl) ?_
      refine lv_aload_n hx hb dX7_takeGarden_19 rfl (lv_at hl 0 rfl) ?_
      refine va_get (D := D) (ci := 6) (v := .int (s0_18 0 3)) (C := RX7) (T := TX7) (N := 29) hx hb hts (fun w h => List.mem_cons_of_mem _ (inAX7 w h)) hown hK.1 hP 0 (at_M_0 cI cS _ _) rfl 6 (by decide) (hts _ (List.mem_cons_of_mem _ fl_RX7_65)) (fun _ h9 => h9) rfl dX7_takeGarden_20 ?_
      refine lv_icmp_ge (tgt := 78) hx hb dX7_takeGarden_23 (by decide) (fun c23 => ?_) (fun c23 => ?_)
      · replace hF := ip c23 hF
        have hF : F_X7_takeGarden_J78 s0_18 = some t' := hF
        unfold F_X7_takeGarden_J78 at hF
        refine lv_aload_n hx hb dX7_takeGarden_78 rfl (lv_at hl 0 rfl) ?_
        refine lv_iconst (v := 0) hx hb dX7_takeGarden_79 (by decide) ?_
        refine wF (ws' := pM cI cS a0 (st s0_18 0 4 0)) (C := RX7) (T := TX7) (N := 29) hx hb hts (fun w h => List.mem_cons_of_mem _ (inAX7 w h)) tyX7 tyX7_ok nmX7 hown hK.1 hP hD hS 0 (at_M_0 cI cS _ _) rfl 7 (by decide) (hts _ (List.mem_cons_of_mem _ fl_RX7_102)) rfl (tyX7_ok 7 (by decide)) rfl rfl (Nat.le_of_ble_eq_true rfl) (sf_M_0_7 cI cS _ _ _) dX7_takeGarden_80 (fun H locs hP hD hS => ?_)
        refine lv_aload_n hx hb dX7_takeGarden_83 rfl (lv_at hl 0 rfl) ?_
        refine lv_iconst (v := 0) hx hb dX7_takeGarden_84 (by decide) ?_
        refine wF (ws' := pM cI cS a0 (st (st s0_18 0 4 0) 0 5 0)) (C := RX7) (T := TX7) (N := 29) hx hb hts (fun w h => List.mem_cons_of_mem _ (inAX7 w h)) tyX7 tyX7_ok nmX7 hown hK.1 hP hD hS 0 (at_M_0 cI cS _ _) rfl 8 (by decide) (hts _ (List.mem_cons_of_mem _ fl_RX7_105)) rfl (tyX7_ok 8 (by decide)) rfl rfl (Nat.le_of_ble_eq_true rfl) (sf_M_0_8 cI cS _ _ _) dX7_takeGarden_85 (fun H locs hP hD hS => ?_)
        refine lv_aload_n hx hb dX7_takeGarden_88 rfl (lv_at hl 0 rfl) ?_
        refine lv_iconst (v := 0) hx hb dX7_takeGarden_89 (by decide) ?_
        refine wF (ws' := pM cI cS a0 (st (st (st s0_18 0 4 0) 0 5 0) 0 13 0)) (C := RX7) (T := TX7) (N := 29) hx hb hts (fun w h => List.mem_cons_of_mem _ (inAX7 w h)) tyX7 tyX7_ok nmX7 hown hK.1 hP hD hS 0 (at_M_0 cI cS _ _) rfl 22 (by decide) (hts _ (List.mem_cons_of_mem _ fl_RX7_108)) rfl (tyX7_ok 22 (by decide)) rfl rfl (Nat.le_of_ble_eq_true rfl) (sf_M_0_22 cI cS _ _ _) dX7_takeGarden_90 (fun H locs hP hD hS => ?_)
        exact W.vret hx hb hr (fun t ht hW => ⟨⟨(), rfl, trivial, by show va_P _ _ _ t.heap; rw [ht, ← (Option.some.inj hF)]; exact hP⟩, hS.F ht⟩) hS.2.2 dX7_takeGarden_93
      · replace hF := iq c23 hF
        refine lv_aload_n hx hb dX7_takeGarden_26 rfl (lv_at hl 0 rfl) ?_
        refine va_get (D := D) (ci := 6) (v := .ref (a0 5)) (C := RX7) (T := TX7) (N := 29) hx hb hts (fun w h => List.mem_cons_of_mem _ (inAX7 w h)) hown hK.1 hP 0 (at_M_0 cI cS _ _) rfl 10 (by decide) (hts _ (List.mem_cons_of_mem _ fl_RX7_22)) (fun _ h9 => h9) rfl dX7_takeGarden_27 ?_
        refine lv_iload_n hx hb dX7_takeGarden_30 rfl (lv_at hl 1 rfl) ?_
        refine lv_aload_n hx hb dX7_takeGarden_31 rfl (lv_at hl 0 rfl) ?_
        refine va_get (D := D) (ci := 6) (v := .ref (a0 8)) (C := RX7) (T := TX7) (N := 29) hx hb hts (fun w h => List.mem_cons_of_mem _ (inAX7 w h)) hown hK.1 hP 0 (at_M_0 cI cS _ _) rfl 16 (by decide) (hts _ (List.mem_cons_of_mem _ fl_RX7_31)) (fun _ h9 => h9) rfl dX7_takeGarden_32 ?_
        refine lv_iconst (v := 3) hx hb dX7_takeGarden_35 (by decide) ?_
        refine lv_iload_n hx hb dX7_takeGarden_36 rfl (lv_at hl 1 rfl) ?_
        refine lv_imul hx hb dX7_takeGarden_37 ?_
        obtain ⟨v38, h38, hF⟩ := bd hF
        refine rI hx hb hK.1 hP 8 0 (at_M_8 cI cS _ _) rfl h38 dX7_takeGarden_38 ?_
        obtain ⟨k39, h39, hF⟩ := bd hF
        refine wI (ws' := pM cI cS a0 (st s0_18 5 k39 v38)) hx hb hK.1 hP hD hS 5 0 (at_M_5 cI cS _ _) rfl h39 (sw_M_5 cI cS _ _ _ _) dX7_takeGarden_39 (fun H locs hP hD hS => ?_)
        refine lv_aload_n hx hb dX7_takeGarden_40 rfl (lv_at hl 0 rfl) ?_
        refine va_get (D := D) (ci := 6) (v := .ref (a0 6)) (C := RX7) (T := TX7) (N := 29) hx hb hts (fun w h => List.mem_cons_of_mem _ (inAX7 w h)) hown hK.1 hP 0 (at_M_0 cI cS _ _) rfl 11 (by decide) (hts _ (List.mem_cons_of_mem _ fl_RX7_25)) (fun _ h9 => h9) rfl dX7_takeGarden_41 ?_
        refine lv_iload_n hx hb dX7_takeGarden_44 rfl (lv_at hl 1 rfl) ?_
        refine lv_aload_n hx hb dX7_takeGarden_45 rfl (lv_at hl 0 rfl) ?_
        refine va_get (D := D) (ci := 6) (v := .ref (a0 8)) (C := RX7) (T := TX7) (N := 29) hx hb hts (fun w h => List.mem_cons_of_mem _ (inAX7 w h)) hown hK.1 hP 0 (at_M_0 cI cS _ _) rfl 16 (by decide) (hts _ (List.mem_cons_of_mem _ fl_RX7_31)) (fun _ h9 => h9) rfl dX7_takeGarden_46 ?_
        refine lv_iconst (v := 3) hx hb dX7_takeGarden_49 (by decide) ?_
        refine lv_iload_n hx hb dX7_takeGarden_50 rfl (lv_at hl 1 rfl) ?_
        refine lv_imul hx hb dX7_takeGarden_51 ?_
        refine lv_iconst (v := 1) hx hb dX7_takeGarden_52 (by decide) ?_
        refine lv_iadd hx hb dX7_takeGarden_53 ?_
        obtain ⟨v54, h54, hF⟩ := bd hF
        refine rI hx hb hK.1 hP 8 0 (at_M_8 cI cS _ _) rfl h54 dX7_takeGarden_54 ?_
        obtain ⟨k55, h55, hF⟩ := bd hF
        refine wI (ws' := pM cI cS a0 (st (st s0_18 5 k39 v38) 6 k55 v54)) hx hb hK.1 hP hD hS 6 0 (at_M_6 cI cS _ _) rfl h55 (sw_M_6 cI cS _ _ _ _) dX7_takeGarden_55 (fun H locs hP hD hS => ?_)
        refine lv_aload_n hx hb dX7_takeGarden_56 rfl (lv_at hl 0 rfl) ?_
        refine va_get (D := D) (ci := 6) (v := .ref (a0 7)) (C := RX7) (T := TX7) (N := 29) hx hb hts (fun w h => List.mem_cons_of_mem _ (inAX7 w h)) hown hK.1 hP 0 (at_M_0 cI cS _ _) rfl 12 (by decide) (hts _ (List.mem_cons_of_mem _ fl_RX7_28)) (fun _ h9 => h9) rfl dX7_takeGarden_57 ?_
        refine lv_iload_n hx hb dX7_takeGarden_60 rfl (lv_at hl 1 rfl) ?_
        refine lv_aload_n hx hb dX7_takeGarden_61 rfl (lv_at hl 0 rfl) ?_
        refine va_get (D := D) (ci := 6) (v := .ref (a0 8)) (C := RX7) (T := TX7) (N := 29) hx hb hts (fun w h => List.mem_cons_of_mem _ (inAX7 w h)) hown hK.1 hP 0 (at_M_0 cI cS _ _) rfl 16 (by decide) (hts _ (List.mem_cons_of_mem _ fl_RX7_31)) (fun _ h9 => h9) rfl dX7_takeGarden_62 ?_
        refine lv_iconst (v := 3) hx hb dX7_takeGarden_65 (by decide) ?_
        refine lv_iload_n hx hb dX7_takeGarden_66 rfl (lv_at hl 1 rfl) ?_
        refine lv_imul hx hb dX7_takeGarden_67 ?_
        refine lv_iconst (v := 2) hx hb dX7_takeGarden_68 (by decide) ?_
        refine lv_iadd hx hb dX7_takeGarden_69 ?_
        obtain ⟨v70, h70, hF⟩ := bd hF
        refine rI hx hb hK.1 hP 8 0 (at_M_8 cI cS _ _) rfl h70 dX7_takeGarden_70 ?_
        obtain ⟨k71, h71, hF⟩ := bd hF
        refine wI (ws' := pM cI cS a0 (st (st (st s0_18 5 k39 v38) 6 k55 v54) 7 k71 v70)) hx hb hK.1 hP hD hS 7 0 (at_M_7 cI cS _ _) rfl h71 (sw_M_7 cI cS _ _ _ _) dX7_takeGarden_71 (fun H locs hP hD hS => ?_)
        refine lv_iinc (v := (x1_18 + 1)) (lv' := [(1, .int (x1_18 + 1)), (0, .ref (a0 0))]) hx hb dX7_takeGarden_72 hl (k := 1) rfl rfl (by decide) rfl (fun ls hl => ?_)
        refine lv_goto (tgt := 18) hx hb dX7_takeGarden_75 (by decide) ?_
        exact ih18 (x1_18 + 1) (st (st (st s0_18 5 k39 v38) 6 k55 v54) 7 k71 v70) _ _ _ hP hD hS (lv_sub hl [1, 0] rfl) hF
  exact L18 1000 0 (st u5 0 3 (u5 0 8)) _ _ _ hP hD hS (lv_sub hl [1, 0] rfl) hF
noncomputable def F_X7_garden (t0 : ST) (x1 : Int32) (x2 : Int32) (x3 : Int32) (x4 : Int32) : Option (Int32 × ST) :=
  (F_X7_isSheet x1).bind fun v6 =>
  if v6 = 0 then
    some ((-1), (st t0 0 0 0))
  else
  (F_X7_isSort x2).bind fun v15 =>
  if v15 = 0 then
    some ((-2), (st t0 0 0 0))
  else
  (F_X7_against (st t0 0 0 0) x1 x2 x3 x4).bind fun v30 =>
  if v30 = 0 then
    b2 (F_X7_readGarden (st (st t0 0 0 0) 0 6 ((60 * x1) + x3)) (((60 * x1) + x3) + x4)) fun v67 u67 =>
    if v67 = 0 then
      some (((-100) - ((u67 0 6) - ((60 * x1) + x3))), u67)
    else
    (F_X7_takeGarden u67).bind fun u85 =>
    some ((u85 0 3), u85)
  else
  b2 (F_X7_fails (st t0 0 0 0) v30) fun v43 u43 =>
  some (v43, u43)
abbrev rm_X7_garden : Room := { frames := 4, cells := 0, slots := 0, locals := 91 }
set_option maxHeartbeats 4000000 in
set_option maxRecDepth 100000 in
theorem c_X7_garden (l : Launch) (D : va_G) (cI cS : ClassId) (a0 : Nat → Nat) (t0 : ST) (x1 : Int32) (x2 : Int32) (x3 : Int32) (x4 : Int32) (r : Int32) (t' : ST) (hF : F_X7_garden t0 x1 x2 x3 x4 = some (r, t')) : Met l yX7_garden (Cond.code yX7_garden cX7_garden 7 (some .int) :: ALL) rm_X7_garden (PreW D cI cS [.ref (a0 0), .int x1, .int x2, .int x3, .int x4] (pM cI cS a0 t0)) (va_Qi (fun x (_ : Unit) => x = r) (fun _ t => va_P D vwCl (pM cI cS a0 t') t.heap) (AD (pM cI cS a0 t0))) 0 0 (AD (pM cI cS a0 t0)) := by
  refine mW l D cI cS (by decide) (Nat.le_of_ble_eq_true rfl) ?_
  intro p e s m below meth c ls hx hb hr hml hown hts hlocks hP hK hD hS hl
  have hown : s.vm.findClass RX7 = some m.cls := hown
  have hl : lv_has ls 7 [(0, .ref (a0 0)), (1, .int x1), (2, .int x2), (3, .int x3), (4, .int x4)] := hl
  unfold F_X7_garden at hF
  refine lv_aload_n hx hb dX7_garden_0 rfl (lv_at hl 0 rfl) ?_
  refine lv_iconst (v := 0) hx hb dX7_garden_1 (by decide) ?_
  refine wF (ws' := pM cI cS a0 (st t0 0 0 0)) (C := RX7) (T := TX7) (N := 29) hx hb hts (fun w h => List.mem_cons_of_mem _ (inAX7 w h)) tyX7 tyX7_ok nmX7 hown hK.1 hP hD hS 0 (at_M_0 cI cS _ _) rfl 0 (by decide) (hts _ (List.mem_cons_of_mem _ fl_RX7_55)) rfl (tyX7_ok 0 (by decide)) rfl rfl (Nat.le_of_ble_eq_true rfl) (sf_M_0_0 cI cS _ _ _) dX7_garden_2 (fun H locs hP hD hS => ?_)
  refine lv_iload_n hx hb dX7_garden_5 rfl (lv_at hl 1 rfl) ?_
  obtain ⟨v6, h6, hF⟩ := bd hF
  refine cRb (va_runS (As := [.int x1]) (rest := []) ⟨hx, hb, hml, hown, hts⟩ (c_X7_isSheet l D cI cS x1 v6 h6) (cwSA hts (TW.cons _) ls_X7_isSheet ml_RX7_71 ⟨rfl, rfl⟩ ⟨(Nat.le_of_ble_eq_true rfl), (Nat.le_of_ble_eq_true rfl)⟩) (pRS hK pnil) rfl rfl hl.1 rfl (lv_room (Nat.le_of_ble_eq_true rfl)) dX7_garden_6 ⟨Nat.le_refl _, Nat.le_refl _⟩) (fun b6 => ?_)
  refine lv_if_ne (tgt := 14) hx hb dX7_garden_9 (by decide) (fun c9 => ?_) (fun c9 => ?_)
  · replace hF := iq c9 hF
    refine lv_iload_n hx hb dX7_garden_14 rfl (lv_at hl 2 rfl) ?_
    obtain ⟨v15, h15, hF⟩ := bd hF
    refine cRb (va_runS (As := [.int x2]) (rest := []) ⟨hx, hb, hml, hown, hts⟩ (c_X7_isSort l D cI cS x2 v15 h15) (cwSA hts (TW.cons _) ls_X7_isSort ml_RX7_75 ⟨rfl, rfl⟩ ⟨(Nat.le_of_ble_eq_true rfl), (Nat.le_of_ble_eq_true rfl)⟩) (pRS hK pnil) rfl rfl hl.1 rfl (lv_room (Nat.le_of_ble_eq_true rfl)) dX7_garden_15 ⟨Nat.le_refl _, Nat.le_refl _⟩) (fun b15 => ?_)
    refine lv_if_ne (tgt := 24) hx hb dX7_garden_18 (by decide) (fun c18 => ?_) (fun c18 => ?_)
    · replace hF := iq c18 hF
      refine lv_aload_n hx hb dX7_garden_24 rfl (lv_at hl 0 rfl) ?_
      refine lv_iload_n hx hb dX7_garden_25 rfl (lv_at hl 1 rfl) ?_
      refine lv_iload_n hx hb dX7_garden_26 rfl (lv_at hl 2 rfl) ?_
      refine lv_iload_n hx hb dX7_garden_27 rfl (lv_at hl 3 rfl) ?_
      refine lv_iload hx hb dX7_garden_28 (lv_at hl 4 rfl) ?_
      obtain ⟨v30, h30, hF⟩ := bd hF
      refine cRe (va_runV (As := [.int x1, .int x2, .int x3, .int x4]) (rest := []) ⟨hx, hb, hml, hown, hts⟩ (c_X7_against l D cI cS a0 (st t0 0 0 0) x1 x2 x3 x4 v30 h30) (cwVA hts (TW.cons _) lv_X7_against ml_RX7_78 ⟨rfl, rfl⟩ ⟨(Nat.le_of_ble_eq_true rfl), (Nat.le_of_ble_eq_true rfl)⟩) (pRV hK hP (ci := 6) rfl rfl) rfl rfl hl.1 rfl (lv_room (Nat.le_of_ble_eq_true rfl)) dX7_garden_30 ⟨Nat.le_refl _, Nat.le_refl _⟩) ?_
      refine lv_istore (lv' := [(5, .int v30), (0, .ref (a0 0)), (1, .int x1), (2, .int x2), (3, .int x3), (4, .int x4)]) hx hb dX7_garden_33 hl (by decide) rfl (fun ls hl => ?_)
      refine lv_iload hx hb dX7_garden_35 (lv_at hl 0 rfl) ?_
      refine lv_if_eq (tgt := 47) hx hb dX7_garden_37 (by decide) (fun c37 => ?_) (fun c37 => ?_)
      · replace hF := ip c37 hF
        refine lv_bipush (v := 60) hx hb dX7_garden_47 (by decide) ?_
        refine lv_iload_n hx hb dX7_garden_49 rfl (lv_at hl 2 rfl) ?_
        refine lv_imul hx hb dX7_garden_50 ?_
        refine lv_iload_n hx hb dX7_garden_51 rfl (lv_at hl 4 rfl) ?_
        refine lv_iadd hx hb dX7_garden_52 ?_
        refine lv_istore (lv' := [(6, .int ((60 * x1) + x3)), (5, .int v30), (0, .ref (a0 0)), (1, .int x1), (2, .int x2), (3, .int x3), (4, .int x4)]) hx hb dX7_garden_53 hl (by decide) rfl (fun ls hl => ?_)
        refine lv_aload_n hx hb dX7_garden_55 rfl (lv_at hl 2 rfl) ?_
        refine lv_iload hx hb dX7_garden_56 (lv_at hl 0 rfl) ?_
        refine wF (ws' := pM cI cS a0 (st (st t0 0 0 0) 0 6 ((60 * x1) + x3))) (C := RX7) (T := TX7) (N := 29) hx hb hts (fun w h => List.mem_cons_of_mem _ (inAX7 w h)) tyX7 tyX7_ok nmX7 hown hK.1 hP hD hS 0 (at_M_0 cI cS _ _) rfl 13 (by decide) (hts _ (List.mem_cons_of_mem _ fl_RX7_68)) rfl (tyX7_ok 13 (by decide)) rfl rfl (Nat.le_of_ble_eq_true rfl) (sf_M_0_13 cI cS _ _ _) dX7_garden_58 (fun H locs hP hD hS => ?_)
        refine lv_aload_n hx hb dX7_garden_61 rfl (lv_at hl 2 rfl) ?_
        refine lv_iload hx hb dX7_garden_62 (lv_at hl 0 rfl) ?_
        refine lv_iload hx hb dX7_garden_64 (lv_at hl 6 rfl) ?_
        refine lv_iadd hx hb dX7_garden_66 ?_
        obtain ⟨v67, u67, h67, hF⟩ := bd2 hF
        refine cAb (ws' := pM cI cS a0 u67) (va_runV (As := [.int (((60 * x1) + x3) + x4)]) (rest := []) ⟨hx, hb, hml, hown, hts⟩ (c_X7_readGarden l D cI cS a0 (st (st t0 0 0 0) 0 6 ((60 * x1) + x3)) (((60 * x1) + x3) + x4) v67 u67 h67) (cwVA hts (TW.cons _) lv_X7_readGarden ml_RX7_86 ⟨rfl, rfl⟩ ⟨(Nat.le_of_ble_eq_true rfl), (Nat.le_of_ble_eq_true rfl)⟩) (pWV hK hP hD (ci := 6) rfl rfl) rfl rfl hl.1 rfl (lv_room (Nat.le_of_ble_eq_true rfl)) dX7_garden_67 ⟨Nat.le_refl _, Nat.le_refl _⟩) hD hS (ad_M cI cS _ _ _) (fun b67 H locs hP hD hS => ?_)
        refine lv_if_ne (tgt := 84) hx hb dX7_garden_70 (by decide) (fun c70 => ?_) (fun c70 => ?_)
        · replace hF := iq c70 hF
          refine lv_aload_n hx hb dX7_garden_84 rfl (lv_at hl 2 rfl) ?_
          obtain ⟨u85, h85, hF⟩ := bd hF
          refine cAv (ws' := pM cI cS a0 u85) (va_runV (As := []) (rest := []) ⟨hx, hb, hml, hown, hts⟩ (c_X7_takeGarden l D cI cS a0 u67 u85 h85) (cwVA hts (TW.cons _) lv_X7_takeGarden ml_RX7_89 ⟨rfl, rfl⟩ ⟨(Nat.le_of_ble_eq_true rfl), (Nat.le_of_ble_eq_true rfl)⟩) (pWV hK hP hD (ci := 6) rfl rfl) rfl rfl hl.1 rfl (lv_room (Nat.le_of_ble_eq_true rfl)) dX7_garden_85 ⟨Nat.le_refl _, Nat.le_refl _⟩) hD hS (ad_M cI cS _ _ _) (fun H locs hP hD hS => ?_)
          refine lv_aload_n hx hb dX7_garden_88 rfl (lv_at hl 2 rfl) ?_
          refine va_get (D := D) (ci := 6) (v := .int (u85 0 3)) (C := RX7) (T := TX7) (N := 29) hx hb hts (fun w h => List.mem_cons_of_mem _ (inAX7 w h)) hown hK.1 hP 0 (at_M_0 cI cS _ _) rfl 6 (by decide) (hts _ (List.mem_cons_of_mem _ fl_RX7_65)) (fun _ h9 => h9) rfl dX7_garden_89 ?_
          exact W.iret hx hb hr (fun t ht hW => ⟨⟨_, (), rfl, (Prod.mk.inj (Option.some.inj hF)).1, by show va_P _ _ _ t.heap; rw [ht, ← (Prod.mk.inj (Option.some.inj hF)).2]; exact hP⟩, hS.F ht⟩) hS.2.2 dX7_garden_92
        · replace hF := ip c70 hF
          refine lv_bipush (v := (-100)) hx hb dX7_garden_73 (by decide) ?_
          refine lv_aload_n hx hb dX7_garden_75 rfl (lv_at hl 2 rfl) ?_
          refine va_get (D := D) (ci := 6) (v := .int (u67 0 6)) (C := RX7) (T := TX7) (N := 29) hx hb hts (fun w h => List.mem_cons_of_mem _ (inAX7 w h)) hown hK.1 hP 0 (at_M_0 cI cS _ _) rfl 13 (by decide) (hts _ (List.mem_cons_of_mem _ fl_RX7_68)) (fun _ h9 => h9) rfl dX7_garden_76 ?_
          refine lv_iload hx hb dX7_garden_79 (lv_at hl 0 rfl) ?_
          refine lv_isub hx hb dX7_garden_81 ?_
          refine lv_isub hx hb dX7_garden_82 ?_
          exact W.iret hx hb hr (fun t ht hW => ⟨⟨_, (), rfl, (Prod.mk.inj (Option.some.inj hF)).1, by show va_P _ _ _ t.heap; rw [ht, ← (Prod.mk.inj (Option.some.inj hF)).2]; exact hP⟩, hS.F ht⟩) hS.2.2 dX7_garden_83
      · replace hF := iq c37 hF
        refine lv_aload_n hx hb dX7_garden_40 rfl (lv_at hl 1 rfl) ?_
        refine lv_iload hx hb dX7_garden_41 (lv_at hl 0 rfl) ?_
        obtain ⟨v43, u43, h43, hF⟩ := bd2 hF
        refine cAe (ws' := pM cI cS a0 u43) (va_runV (As := [.int v30]) (rest := []) ⟨hx, hb, hml, hown, hts⟩ (c_X7_fails l D cI cS a0 (st t0 0 0 0) v30 v43 u43 h43) (cwVA hts (TW.cons _) lv_X7_fails ml_RX7_82 ⟨rfl, rfl⟩ ⟨(Nat.le_of_ble_eq_true rfl), (Nat.le_of_ble_eq_true rfl)⟩) (pWV hK hP hD (ci := 6) rfl rfl) rfl rfl hl.1 rfl (lv_room (Nat.le_of_ble_eq_true rfl)) dX7_garden_43 ⟨Nat.le_refl _, Nat.le_refl _⟩) hD hS (ad_M cI cS _ _ _) (fun H locs hP hD hS => ?_)
        exact W.iret hx hb hr (fun t ht hW => ⟨⟨_, (), rfl, (Prod.mk.inj (Option.some.inj hF)).1, by show va_P _ _ _ t.heap; rw [ht, ← (Prod.mk.inj (Option.some.inj hF)).2]; exact hP⟩, hS.F ht⟩) hS.2.2 dX7_garden_46
    · replace hF := ip c18 hF
      refine lv_bipush (v := (-2)) hx hb dX7_garden_21 (by decide) ?_
      exact W.iret hx hb hr (fun t ht hW => ⟨⟨_, (), rfl, (Prod.mk.inj (Option.some.inj hF)).1, by show va_P _ _ _ t.heap; rw [ht, ← (Prod.mk.inj (Option.some.inj hF)).2]; exact hP⟩, hS.F ht⟩) hS.2.2 dX7_garden_23
  · replace hF := ip c9 hF
    refine lv_iconst (v := (-1)) hx hb dX7_garden_12 (by decide) ?_
    exact W.iret hx hb hr (fun t ht hW => ⟨⟨_, (), rfl, (Prod.mk.inj (Option.some.inj hF)).1, by show va_P _ _ _ t.heap; rw [ht, ← (Prod.mk.inj (Option.some.inj hF)).2]; exact hP⟩, hS.F ht⟩) hS.2.2 dX7_garden_13
noncomputable def F_X7_goesOf (t0 : ST) (x1 : Int32) : Option Int32 :=
  (rd 6 (t0 5) x1).bind fun v5 =>
  if v5 = 0 then
    (rd 6 (t0 7) x1).bind fun v14 =>
    some v14
  else
  (rd 6 (t0 5) x1).bind fun v23 =>
  if v23 = 1 then
    (rd 6 (t0 7) x1).bind fun v33 =>
    some (v33 + 1)
  else
  (rd 6 (t0 7) x1).bind fun v45 =>
  some (2 * v45)
abbrev rm_X7_goesOf : Room := { frames := 0, cells := 0, slots := 0, locals := 0 }
set_option maxHeartbeats 4000000 in
set_option maxRecDepth 100000 in
theorem c_X7_goesOf (l : Launch) (D : va_G) (cI cS : ClassId) (a0 : Nat → Nat) (t0 : ST) (x1 : Int32) (r : Int32) (hF : F_X7_goesOf t0 x1 = some r) : Met l yX7_goesOf (Cond.code yX7_goesOf cX7_goesOf 2 (some .int) :: ALL) rm_X7_goesOf (PreR D cI cS [.ref (a0 0), .int x1] (pM cI cS a0 t0)) (vp_Si (fun x => x = r)) 0 0 (fun _ => False) := by
  refine mR l D cI cS (by decide) (Nat.le_of_ble_eq_true rfl) ?_
  intro p e s m below meth c ls hx hb hr hml hown hts hlocks hP hK hl
  have hown : s.vm.findClass RX7 = some m.cls := hown
  have hl : lv_has ls 2 [(0, .ref (a0 0)), (1, .int x1)] := hl
  unfold F_X7_goesOf at hF
  refine lv_aload_n hx hb dX7_goesOf_0 rfl (lv_at hl 0 rfl) ?_
  refine va_get (D := D) (ci := 6) (v := .ref (a0 5)) (C := RX7) (T := TX7) (N := 29) hx hb hts (fun w h => List.mem_cons_of_mem _ (inAX7 w h)) hown hK.1 hP 0 (at_M_0 cI cS _ _) rfl 10 (by decide) (hts _ (List.mem_cons_of_mem _ fl_RX7_22)) (fun _ h9 => h9) rfl dX7_goesOf_1 ?_
  refine lv_iload_n hx hb dX7_goesOf_4 rfl (lv_at hl 1 rfl) ?_
  obtain ⟨v5, h5, hF⟩ := bd hF
  refine rI hx hb hK.1 hP 5 0 (at_M_5 cI cS _ _) rfl h5 dX7_goesOf_5 ?_
  refine lv_if_ne (tgt := 18) hx hb dX7_goesOf_6 (by decide) (fun c6 => ?_) (fun c6 => ?_)
  · replace hF := iq c6 hF
    refine lv_aload_n hx hb dX7_goesOf_18 rfl (lv_at hl 0 rfl) ?_
    refine va_get (D := D) (ci := 6) (v := .ref (a0 5)) (C := RX7) (T := TX7) (N := 29) hx hb hts (fun w h => List.mem_cons_of_mem _ (inAX7 w h)) hown hK.1 hP 0 (at_M_0 cI cS _ _) rfl 10 (by decide) (hts _ (List.mem_cons_of_mem _ fl_RX7_22)) (fun _ h9 => h9) rfl dX7_goesOf_19 ?_
    refine lv_iload_n hx hb dX7_goesOf_22 rfl (lv_at hl 1 rfl) ?_
    obtain ⟨v23, h23, hF⟩ := bd hF
    refine rI hx hb hK.1 hP 5 0 (at_M_5 cI cS _ _) rfl h23 dX7_goesOf_23 ?_
    refine lv_iconst (v := 1) hx hb dX7_goesOf_24 (by decide) ?_
    refine lv_icmp_ne (tgt := 39) hx hb dX7_goesOf_25 (by decide) (fun c25 => ?_) (fun c25 => ?_)
    · replace hF := iq c25 hF
      refine lv_iconst (v := 2) hx hb dX7_goesOf_39 (by decide) ?_
      refine lv_aload_n hx hb dX7_goesOf_40 rfl (lv_at hl 0 rfl) ?_
      refine va_get (D := D) (ci := 6) (v := .ref (a0 7)) (C := RX7) (T := TX7) (N := 29) hx hb hts (fun w h => List.mem_cons_of_mem _ (inAX7 w h)) hown hK.1 hP 0 (at_M_0 cI cS _ _) rfl 12 (by decide) (hts _ (List.mem_cons_of_mem _ fl_RX7_28)) (fun _ h9 => h9) rfl dX7_goesOf_41 ?_
      refine lv_iload_n hx hb dX7_goesOf_44 rfl (lv_at hl 1 rfl) ?_
      obtain ⟨v45, h45, hF⟩ := bd hF
      refine rI hx hb hK.1 hP 7 0 (at_M_7 cI cS _ _) rfl h45 dX7_goesOf_45 ?_
      refine lv_imul hx hb dX7_goesOf_46 ?_
      exact W.iret hx hb hr (fun t ht hW => ⟨_, rfl, (Option.some.inj hF), ht⟩) (fun _ h => nomatch h) dX7_goesOf_47
    · replace hF := ip c25 hF
      refine lv_aload_n hx hb dX7_goesOf_28 rfl (lv_at hl 0 rfl) ?_
      refine va_get (D := D) (ci := 6) (v := .ref (a0 7)) (C := RX7) (T := TX7) (N := 29) hx hb hts (fun w h => List.mem_cons_of_mem _ (inAX7 w h)) hown hK.1 hP 0 (at_M_0 cI cS _ _) rfl 12 (by decide) (hts _ (List.mem_cons_of_mem _ fl_RX7_28)) (fun _ h9 => h9) rfl dX7_goesOf_29 ?_
      refine lv_iload_n hx hb dX7_goesOf_32 rfl (lv_at hl 1 rfl) ?_
      obtain ⟨v33, h33, hF⟩ := bd hF
      refine rI hx hb hK.1 hP 7 0 (at_M_7 cI cS _ _) rfl h33 dX7_goesOf_33 ?_
      refine lv_iconst (v := 1) hx hb dX7_goesOf_34 (by decide) ?_
      refine lv_iadd hx hb dX7_goesOf_35 ?_
      refine lv_goto (tgt := 47) hx hb dX7_goesOf_36 (by decide) ?_
      exact W.iret hx hb hr (fun t ht hW => ⟨_, rfl, (Option.some.inj hF), ht⟩) (fun _ h => nomatch h) dX7_goesOf_47
  · replace hF := ip c6 hF
    refine lv_aload_n hx hb dX7_goesOf_9 rfl (lv_at hl 0 rfl) ?_
    refine va_get (D := D) (ci := 6) (v := .ref (a0 7)) (C := RX7) (T := TX7) (N := 29) hx hb hts (fun w h => List.mem_cons_of_mem _ (inAX7 w h)) hown hK.1 hP 0 (at_M_0 cI cS _ _) rfl 12 (by decide) (hts _ (List.mem_cons_of_mem _ fl_RX7_28)) (fun _ h9 => h9) rfl dX7_goesOf_10 ?_
    refine lv_iload_n hx hb dX7_goesOf_13 rfl (lv_at hl 1 rfl) ?_
    obtain ⟨v14, h14, hF⟩ := bd hF
    refine rI hx hb hK.1 hP 7 0 (at_M_7 cI cS _ _) rfl h14 dX7_goesOf_14 ?_
    refine lv_goto (tgt := 47) hx hb dX7_goesOf_15 (by decide) ?_
    exact W.iret hx hb hr (fun t ht hW => ⟨_, rfl, (Option.some.inj hF), ht⟩) (fun _ h => nomatch h) dX7_goesOf_47
noncomputable def F_X7_stepsOn_L5 (t0 : ST) (x1 : Int32) (x2 : Int32) (k : Int32 → Int32 → Option Int32) : Nat → Int32 → Int32 → Option Int32
  | 0, _, _ => none
  | n + 1, x3, x4 =>
    if x2 ≤ x4 then
      k x3 x4
    else
    (rd 64 (t0 4) x3).bind fun v16 =>
    (F_X7_stepsOn_L5 t0 x1 x2 k n) v16 (x4 + 1)
noncomputable def F_X7_stepsOn_J24 (t0 : ST) (x1 : Int32) (x2 : Int32) (x3 : Int32) : Option Int32 :=
  some x3
noncomputable def F_X7_stepsOn (t0 : ST) (x1 : Int32) (x2 : Int32) : Option Int32 :=
  F_X7_stepsOn_L5 t0 x1 x2 (fun x3_k5 x4_k5 => F_X7_stepsOn_J24 t0 x1 x2 x3_k5) 1000 x1 0
abbrev rm_X7_stepsOn : Room := { frames := 0, cells := 0, slots := 0, locals := 0 }
set_option maxHeartbeats 4000000 in
set_option maxRecDepth 100000 in
theorem c_X7_stepsOn (l : Launch) (D : va_G) (cI cS : ClassId) (a0 : Nat → Nat) (t0 : ST) (x1 : Int32) (x2 : Int32) (r : Int32) (hF : F_X7_stepsOn t0 x1 x2 = some r) : Met l yX7_stepsOn (Cond.code yX7_stepsOn cX7_stepsOn 5 (some .int) :: ALL) rm_X7_stepsOn (PreR D cI cS [.ref (a0 0), .int x1, .int x2] (pM cI cS a0 t0)) (vp_Si (fun x => x = r)) 0 0 (fun _ => False) := by
  refine mR l D cI cS (by decide) (Nat.le_of_ble_eq_true rfl) ?_
  intro p e s m below meth c ls hx hb hr hml hown hts hlocks hP hK hl
  have hown : s.vm.findClass RX7 = some m.cls := hown
  have hl : lv_has ls 5 [(0, .ref (a0 0)), (1, .int x1), (2, .int x2)] := hl
  unfold F_X7_stepsOn at hF
  refine lv_iload_n hx hb dX7_stepsOn_0 rfl (lv_at hl 1 rfl) ?_
  refine lv_istore_n (lv' := [(3, .int x1), (0, .ref (a0 0)), (1, .int x1), (2, .int x2)]) hx hb dX7_stepsOn_1 rfl hl (by decide) rfl (fun ls hl => ?_)
  refine lv_iconst (v := 0) hx hb dX7_stepsOn_2 (by decide) ?_
  refine lv_istore (lv' := [(4, .int 0), (3, .int x1), (0, .ref (a0 0)), (1, .int x1), (2, .int x2)]) hx hb dX7_stepsOn_3 hl (by decide) rfl (fun ls hl => ?_)
  have L5 : ∀ (n_5 : Nat) (x3_5 : Int32) (x4_5 : Int32) (ls : Array Slot), lv_has ls 5 [(0, .ref (a0 0)), (2, .int x2), (3, .int x3_5), (4, .int x4_5)] → F_X7_stepsOn_L5 t0 x1 x2 (fun x3_k5 x4_k5 => F_X7_stepsOn_J24 t0 x1 x2 x3_k5) n_5 x3_5 x4_5 = some r → W p l e rm_X7_stepsOn s m [.ref (a0 0), .int x1, .int x2].toArray below meth c s.heap [] 0 0 (MQ below (vp_Si (fun x => x = r)) [.ref (a0 0), .int x1, .int x2].toArray s 0 0 (fun _ => False)) (F0 m 5 ls []) := by
    intro n_5
    induction n_5 with
    | zero => intro x3_5 x4_5 ls hl hF; exact nomatch hF
    | succ n_5 ih5 =>
      intro x3_5 x4_5 ls hl hF
      rw [F_X7_stepsOn_L5.eq_2] at hF
      refine lv_iload hx hb dX7_stepsOn_5 (lv_at hl 3 rfl) ?_
      refine lv_iload_n hx hb dX7_stepsOn_7 rfl (lv_at hl 1 rfl) ?_
      refine lv_icmp_ge (tgt := 24) hx hb dX7_stepsOn_8 (by decide) (fun c8 => ?_) (fun c8 => ?_)
      · replace hF := ip c8 hF
        have hF : F_X7_stepsOn_J24 t0 x1 x2 x3_5 = some r := hF
        unfold F_X7_stepsOn_J24 at hF
        refine lv_iload_n hx hb dX7_stepsOn_24 rfl (lv_at hl 2 rfl) ?_
        exact W.iret hx hb hr (fun t ht hW => ⟨_, rfl, (Option.some.inj hF), ht⟩) (fun _ h => nomatch h) dX7_stepsOn_25
      · replace hF := iq c8 hF
        refine lv_aload_n hx hb dX7_stepsOn_11 rfl (lv_at hl 0 rfl) ?_
        refine va_get (D := D) (ci := 6) (v := .ref (a0 4)) (C := RX7) (T := TX7) (N := 29) hx hb hts (fun w h => List.mem_cons_of_mem _ (inAX7 w h)) hown hK.1 hP 0 (at_M_0 cI cS _ _) rfl 9 (by decide) (hts _ (List.mem_cons_of_mem _ fl_RX7_19)) (fun _ h9 => h9) rfl dX7_stepsOn_12 ?_
        refine lv_iload_n hx hb dX7_stepsOn_15 rfl (lv_at hl 2 rfl) ?_
        obtain ⟨v16, h16, hF⟩ := bd hF
        refine rI hx hb hK.1 hP 4 0 (at_M_4 cI cS _ _) rfl h16 dX7_stepsOn_16 ?_
        refine lv_istore_n (lv' := [(3, .int v16), (0, .ref (a0 0)), (2, .int x2), (4, .int x4_5)]) hx hb dX7_stepsOn_17 rfl hl (by decide) rfl (fun ls hl => ?_)
        refine lv_iinc (v := (x4_5 + 1)) (lv' := [(4, .int (x4_5 + 1)), (3, .int v16), (0, .ref (a0 0)), (2, .int x2)]) hx hb dX7_stepsOn_18 hl (k := 3) rfl rfl (by decide) rfl (fun ls hl => ?_)
        refine lv_goto (tgt := 5) hx hb dX7_stepsOn_21 (by decide) ?_
        exact ih5 v16 (x4_5 + 1) _ (lv_sub hl [2, 3, 1, 0] rfl) hF
  exact L5 1000 x1 0 _ (lv_sub hl [2, 4, 1, 0] rfl) hF
noncomputable def F_X7_ofBlock (t0 : ST) (x1 : Int32) (x2 : Int32) : Option Int32 :=
  (F_X7_isBlock t0 x1).bind fun v2 =>
  if v2 = 0 then
    some (-1)
  else
  if x2 = 0 then
    (rd 6 (t0 5) x1).bind fun v53 =>
    some v53
  else
  if x2 = 1 then
    (rd 6 (t0 6) x1).bind fun v60 =>
    some v60
  else
  if x2 = 2 then
    (rd 6 (t0 7) x1).bind fun v67 =>
    some v67
  else
  if x2 = 3 then
    (F_X7_goesOf t0 x1).bind fun v71 =>
    some v71
  else
  if x2 = 4 then
    some (((t0 0 5) >>> (x1 &&& 31)) &&& 1)
  else
  if x2 = 5 then
    (rd 6 (t0 6) x1).bind fun v89 =>
    (F_X7_size v89).bind fun v90 =>
    some v90
  else
  some (-2)
abbrev rm_X7_ofBlock : Room := { frames := 1, cells := 0, slots := 0, locals := 22 }
set_option maxHeartbeats 4000000 in
set_option maxRecDepth 100000 in
theorem c_X7_ofBlock (l : Launch) (D : va_G) (cI cS : ClassId) (a0 : Nat → Nat) (t0 : ST) (x1 : Int32) (x2 : Int32) (r : Int32) (hF : F_X7_ofBlock t0 x1 x2 = some r) : Met l yX7_ofBlock (Cond.code yX7_ofBlock cX7_ofBlock 3 (some .int) :: ALL) rm_X7_ofBlock (PreR D cI cS [.ref (a0 0), .int x1, .int x2] (pM cI cS a0 t0)) (vp_Si (fun x => x = r)) 0 0 (fun _ => False) := by
  refine mR l D cI cS (by decide) (Nat.le_of_ble_eq_true rfl) ?_
  intro p e s m below meth c ls hx hb hr hml hown hts hlocks hP hK hl
  have hown : s.vm.findClass RX7 = some m.cls := hown
  have hl : lv_has ls 3 [(0, .ref (a0 0)), (1, .int x1), (2, .int x2)] := hl
  unfold F_X7_ofBlock at hF
  refine lv_aload_n hx hb dX7_ofBlock_0 rfl (lv_at hl 0 rfl) ?_
  refine lv_iload_n hx hb dX7_ofBlock_1 rfl (lv_at hl 1 rfl) ?_
  obtain ⟨v2, h2, hF⟩ := bd hF
  refine cRb (va_runV (As := [.int x1]) (rest := []) ⟨hx, hb, hml, hown, hts⟩ (c_X7_isBlock l D cI cS a0 t0 x1 v2 h2) (cwVA hts (TW.cons _) lv_X7_isBlock ml_RX7_132 ⟨rfl, rfl⟩ ⟨(Nat.le_of_ble_eq_true rfl), (Nat.le_of_ble_eq_true rfl)⟩) (pRV hK hP (ci := 6) rfl rfl) rfl rfl hl.1 rfl (lv_room (Nat.le_of_ble_eq_true rfl)) dX7_ofBlock_2 ⟨Nat.le_refl _, Nat.le_refl _⟩) (fun b2 => ?_)
  refine lv_if_ne (tgt := 10) hx hb dX7_ofBlock_5 (by decide) (fun c5 => ?_) (fun c5 => ?_)
  · replace hF := iq c5 hF
    refine lv_iload_n hx hb dX7_ofBlock_10 rfl (lv_at hl 2 rfl) ?_
    by_cases c11_0 : x2 = 0
    · replace hF := ip c11_0 hF
      refine lv_tableIn (off := 37) (tgt := 48) hx hb dX7_ofBlock_11 (by rw [c11_0]; decide) (by rw [c11_0]; decide) (by rw [c11_0]; decide) (by decide) ?_
      refine lv_aload_n hx hb dX7_ofBlock_48 rfl (lv_at hl 0 rfl) ?_
      refine va_get (D := D) (ci := 6) (v := .ref (a0 5)) (C := RX7) (T := TX7) (N := 29) hx hb hts (fun w h => List.mem_cons_of_mem _ (inAX7 w h)) hown hK.1 hP 0 (at_M_0 cI cS _ _) rfl 10 (by decide) (hts _ (List.mem_cons_of_mem _ fl_RX7_22)) (fun _ h9 => h9) rfl dX7_ofBlock_49 ?_
      refine lv_iload_n hx hb dX7_ofBlock_52 rfl (lv_at hl 1 rfl) ?_
      obtain ⟨v53, h53, hF⟩ := bd hF
      refine rI hx hb hK.1 hP 5 0 (at_M_5 cI cS _ _) rfl h53 dX7_ofBlock_53 ?_
      exact W.iret hx hb hr (fun t ht hW => ⟨_, rfl, (Option.some.inj hF), ht⟩) (fun _ h => nomatch h) dX7_ofBlock_54
    replace hF := iq c11_0 hF
    by_cases c11_1 : x2 = 1
    · replace hF := ip c11_1 hF
      refine lv_tableIn (off := 44) (tgt := 55) hx hb dX7_ofBlock_11 (by rw [c11_1]; decide) (by rw [c11_1]; decide) (by rw [c11_1]; decide) (by decide) ?_
      refine lv_aload_n hx hb dX7_ofBlock_55 rfl (lv_at hl 0 rfl) ?_
      refine va_get (D := D) (ci := 6) (v := .ref (a0 6)) (C := RX7) (T := TX7) (N := 29) hx hb hts (fun w h => List.mem_cons_of_mem _ (inAX7 w h)) hown hK.1 hP 0 (at_M_0 cI cS _ _) rfl 11 (by decide) (hts _ (List.mem_cons_of_mem _ fl_RX7_25)) (fun _ h9 => h9) rfl dX7_ofBlock_56 ?_
      refine lv_iload_n hx hb dX7_ofBlock_59 rfl (lv_at hl 1 rfl) ?_
      obtain ⟨v60, h60, hF⟩ := bd hF
      refine rI hx hb hK.1 hP 6 0 (at_M_6 cI cS _ _) rfl h60 dX7_ofBlock_60 ?_
      exact W.iret hx hb hr (fun t ht hW => ⟨_, rfl, (Option.some.inj hF), ht⟩) (fun _ h => nomatch h) dX7_ofBlock_61
    replace hF := iq c11_1 hF
    by_cases c11_2 : x2 = 2
    · replace hF := ip c11_2 hF
      refine lv_tableIn (off := 51) (tgt := 62) hx hb dX7_ofBlock_11 (by rw [c11_2]; decide) (by rw [c11_2]; decide) (by rw [c11_2]; decide) (by decide) ?_
      refine lv_aload_n hx hb dX7_ofBlock_62 rfl (lv_at hl 0 rfl) ?_
      refine va_get (D := D) (ci := 6) (v := .ref (a0 7)) (C := RX7) (T := TX7) (N := 29) hx hb hts (fun w h => List.mem_cons_of_mem _ (inAX7 w h)) hown hK.1 hP 0 (at_M_0 cI cS _ _) rfl 12 (by decide) (hts _ (List.mem_cons_of_mem _ fl_RX7_28)) (fun _ h9 => h9) rfl dX7_ofBlock_63 ?_
      refine lv_iload_n hx hb dX7_ofBlock_66 rfl (lv_at hl 1 rfl) ?_
      obtain ⟨v67, h67, hF⟩ := bd hF
      refine rI hx hb hK.1 hP 7 0 (at_M_7 cI cS _ _) rfl h67 dX7_ofBlock_67 ?_
      exact W.iret hx hb hr (fun t ht hW => ⟨_, rfl, (Option.some.inj hF), ht⟩) (fun _ h => nomatch h) dX7_ofBlock_68
    replace hF := iq c11_2 hF
    by_cases c11_3 : x2 = 3
    · replace hF := ip c11_3 hF
      refine lv_tableIn (off := 58) (tgt := 69) hx hb dX7_ofBlock_11 (by rw [c11_3]; decide) (by rw [c11_3]; decide) (by rw [c11_3]; decide) (by decide) ?_
      refine lv_aload_n hx hb dX7_ofBlock_69 rfl (lv_at hl 0 rfl) ?_
      refine lv_iload_n hx hb dX7_ofBlock_70 rfl (lv_at hl 1 rfl) ?_
      obtain ⟨v71, h71, hF⟩ := bd hF
      refine cRe (va_runV (As := [.int x1]) (rest := []) ⟨hx, hb, hml, hown, hts⟩ (c_X7_goesOf l D cI cS a0 t0 x1 v71 h71) (cwVA hts (TW.cons _) lv_X7_goesOf ml_RX7_135 ⟨rfl, rfl⟩ ⟨(Nat.le_of_ble_eq_true rfl), (Nat.le_of_ble_eq_true rfl)⟩) (pRV hK hP (ci := 6) rfl rfl) rfl rfl hl.1 rfl (lv_room (Nat.le_of_ble_eq_true rfl)) dX7_ofBlock_71 ⟨Nat.le_refl _, Nat.le_refl _⟩) ?_
      exact W.iret hx hb hr (fun t ht hW => ⟨_, rfl, (Option.some.inj hF), ht⟩) (fun _ h => nomatch h) dX7_ofBlock_74
    replace hF := iq c11_3 hF
    by_cases c11_4 : x2 = 4
    · replace hF := ip c11_4 hF
      refine lv_tableIn (off := 64) (tgt := 75) hx hb dX7_ofBlock_11 (by rw [c11_4]; decide) (by rw [c11_4]; decide) (by rw [c11_4]; decide) (by decide) ?_
      refine lv_aload_n hx hb dX7_ofBlock_75 rfl (lv_at hl 0 rfl) ?_
      refine va_get (D := D) (ci := 6) (v := .int (t0 0 5)) (C := RX7) (T := TX7) (N := 29) hx hb hts (fun w h => List.mem_cons_of_mem _ (inAX7 w h)) hown hK.1 hP 0 (at_M_0 cI cS _ _) rfl 8 (by decide) (hts _ (List.mem_cons_of_mem _ fl_RX7_105)) (fun _ h9 => h9) rfl dX7_ofBlock_76 ?_
      refine lv_iload_n hx hb dX7_ofBlock_79 rfl (lv_at hl 1 rfl) ?_
      refine lv_ishr hx hb dX7_ofBlock_80 ?_
      refine lv_iconst (v := 1) hx hb dX7_ofBlock_81 (by decide) ?_
      refine lv_iand hx hb dX7_ofBlock_82 ?_
      exact W.iret hx hb hr (fun t ht hW => ⟨_, rfl, (Option.some.inj hF), ht⟩) (fun _ h => nomatch h) dX7_ofBlock_83
    replace hF := iq c11_4 hF
    by_cases c11_5 : x2 = 5
    · replace hF := ip c11_5 hF
      refine lv_tableIn (off := 73) (tgt := 84) hx hb dX7_ofBlock_11 (by rw [c11_5]; decide) (by rw [c11_5]; decide) (by rw [c11_5]; decide) (by decide) ?_
      refine lv_aload_n hx hb dX7_ofBlock_84 rfl (lv_at hl 0 rfl) ?_
      refine va_get (D := D) (ci := 6) (v := .ref (a0 6)) (C := RX7) (T := TX7) (N := 29) hx hb hts (fun w h => List.mem_cons_of_mem _ (inAX7 w h)) hown hK.1 hP 0 (at_M_0 cI cS _ _) rfl 11 (by decide) (hts _ (List.mem_cons_of_mem _ fl_RX7_25)) (fun _ h9 => h9) rfl dX7_ofBlock_85 ?_
      refine lv_iload_n hx hb dX7_ofBlock_88 rfl (lv_at hl 1 rfl) ?_
      obtain ⟨v89, h89, hF⟩ := bd hF
      refine rI hx hb hK.1 hP 6 0 (at_M_6 cI cS _ _) rfl h89 dX7_ofBlock_89 ?_
      obtain ⟨v90, h90, hF⟩ := bd hF
      refine cRe (va_runS (As := [.int v89]) (rest := []) ⟨hx, hb, hml, hown, hts⟩ (c_X7_size l D cI cS v89 v90 h90) (cwSA hts (TW.cons _) ls_X7_size ml_RX7_138 ⟨rfl, rfl⟩ ⟨(Nat.le_of_ble_eq_true rfl), (Nat.le_of_ble_eq_true rfl)⟩) (pRS hK pnil) rfl rfl hl.1 rfl (lv_room (Nat.le_of_ble_eq_true rfl)) dX7_ofBlock_90 ⟨Nat.le_refl _, Nat.le_refl _⟩) ?_
      exact W.iret hx hb hr (fun t ht hW => ⟨_, rfl, (Option.some.inj hF), ht⟩) (fun _ h => nomatch h) dX7_ofBlock_93
    replace hF := iq c11_5 hF
    refine lv_tableOut (tgt := 94) hx hb dX7_ofBlock_11 (by have g0 := ne_toInt c11_0 (k := 0) rfl; have g1 := ne_toInt c11_1 (k := 1) rfl; have g2 := ne_toInt c11_2 (k := 2) rfl; have g3 := ne_toInt c11_3 (k := 3) rfl; have g4 := ne_toInt c11_4 (k := 4) rfl; have g5 := ne_toInt c11_5 (k := 5) rfl; omega) (by decide) ?_
    refine lv_bipush (v := (-2)) hx hb dX7_ofBlock_94 (by decide) ?_
    exact W.iret hx hb hr (fun t ht hW => ⟨_, rfl, (Option.some.inj hF), ht⟩) (fun _ h => nomatch h) dX7_ofBlock_96
  · replace hF := ip c5 hF
    refine lv_iconst (v := (-1)) hx hb dX7_ofBlock_8 (by decide) ?_
    exact W.iret hx hb hr (fun t ht hW => ⟨_, rfl, (Option.some.inj hF), ht⟩) (fun _ h => nomatch h) dX7_ofBlock_9
noncomputable def F_X7_becomes (t0 : ST) (x1 : Int32) : Option Int32 :=
  (F_X7_isShape x1).bind fun v1 =>
  if v1 = 0 then
    some (-2)
  else
  if (t0 0 3) = 0 then
    some (-3)
  else
  (rd 64 (t0 4) x1).bind fun v27 =>
  some v27
abbrev rm_X7_becomes : Room := { frames := 2, cells := 0, slots := 0, locals := 42 }
set_option maxHeartbeats 4000000 in
set_option maxRecDepth 100000 in
theorem c_X7_becomes (l : Launch) (D : va_G) (cI cS : ClassId) (a0 : Nat → Nat) (t0 : ST) (x1 : Int32) (r : Int32) (hF : F_X7_becomes t0 x1 = some r) : Met l yX7_becomes (Cond.code yX7_becomes cX7_becomes 2 (some .int) :: ALL) rm_X7_becomes (PreR D cI cS [.ref (a0 0), .int x1] (pM cI cS a0 t0)) (vp_Si (fun x => x = r)) 0 0 (fun _ => False) := by
  refine mR l D cI cS (by decide) (Nat.le_of_ble_eq_true rfl) ?_
  intro p e s m below meth c ls hx hb hr hml hown hts hlocks hP hK hl
  have hown : s.vm.findClass RX7 = some m.cls := hown
  have hl : lv_has ls 2 [(0, .ref (a0 0)), (1, .int x1)] := hl
  unfold F_X7_becomes at hF
  refine lv_iload_n hx hb dX7_becomes_0 rfl (lv_at hl 1 rfl) ?_
  obtain ⟨v1, h1, hF⟩ := bd hF
  refine cRb (va_runS (As := [.int x1]) (rest := []) ⟨hx, hb, hml, hown, hts⟩ (c_X7_isShape l D cI cS x1 v1 h1) (cwSA hts (TW.cons _) ls_X7_isShape ml_RX7_141 ⟨rfl, rfl⟩ ⟨(Nat.le_of_ble_eq_true rfl), (Nat.le_of_ble_eq_true rfl)⟩) (pRS hK pnil) rfl rfl hl.1 rfl (lv_room (Nat.le_of_ble_eq_true rfl)) dX7_becomes_1 ⟨Nat.le_refl _, Nat.le_refl _⟩) (fun b1 => ?_)
  refine lv_if_ne (tgt := 10) hx hb dX7_becomes_4 (by decide) (fun c4 => ?_) (fun c4 => ?_)
  · replace hF := iq c4 hF
    refine lv_aload_n hx hb dX7_becomes_10 rfl (lv_at hl 0 rfl) ?_
    refine va_get (D := D) (ci := 6) (v := .int (t0 0 3)) (C := RX7) (T := TX7) (N := 29) hx hb hts (fun w h => List.mem_cons_of_mem _ (inAX7 w h)) hown hK.1 hP 0 (at_M_0 cI cS _ _) rfl 6 (by decide) (hts _ (List.mem_cons_of_mem _ fl_RX7_65)) (fun _ h9 => h9) rfl dX7_becomes_11 ?_
    refine lv_if_ne (tgt := 22) hx hb dX7_becomes_14 (by decide) (fun c14 => ?_) (fun c14 => ?_)
    · replace hF := iq c14 hF
      refine lv_aload_n hx hb dX7_becomes_22 rfl (lv_at hl 0 rfl) ?_
      refine va_get (D := D) (ci := 6) (v := .ref (a0 4)) (C := RX7) (T := TX7) (N := 29) hx hb hts (fun w h => List.mem_cons_of_mem _ (inAX7 w h)) hown hK.1 hP 0 (at_M_0 cI cS _ _) rfl 9 (by decide) (hts _ (List.mem_cons_of_mem _ fl_RX7_19)) (fun _ h9 => h9) rfl dX7_becomes_23 ?_
      refine lv_iload_n hx hb dX7_becomes_26 rfl (lv_at hl 1 rfl) ?_
      obtain ⟨v27, h27, hF⟩ := bd hF
      refine rI hx hb hK.1 hP 4 0 (at_M_4 cI cS _ _) rfl h27 dX7_becomes_27 ?_
      exact W.iret hx hb hr (fun t ht hW => ⟨_, rfl, (Option.some.inj hF), ht⟩) (fun _ h => nomatch h) dX7_becomes_28
    · replace hF := ip c14 hF
      refine lv_bipush (v := (-3)) hx hb dX7_becomes_17 (by decide) ?_
      refine lv_goto (tgt := 28) hx hb dX7_becomes_19 (by decide) ?_
      exact W.iret hx hb hr (fun t ht hW => ⟨_, rfl, (Option.some.inj hF), ht⟩) (fun _ h => nomatch h) dX7_becomes_28
  · replace hF := ip c4 hF
    refine lv_bipush (v := (-2)) hx hb dX7_becomes_7 (by decide) ?_
    exact W.iret hx hb hr (fun t ht hW => ⟨_, rfl, (Option.some.inj hF), ht⟩) (fun _ h => nomatch h) dX7_becomes_9
noncomputable def F_X7_enact (t0 : ST) (x1 : Int32) : Option (Int32 × ST) :=
  (F_X7_within x1 0 255).bind fun v5 =>
  if v5 = 0 then
    some ((-2), t0)
  else
  if (t0 0 3) = 0 then
    some ((-3), t0)
  else
  (F_X7_takeLaw t0 x1).bind fun u31 =>
  some ((t0 0 2), u31)
abbrev rm_X7_enact : Room := { frames := 2, cells := 0, slots := 0, locals := 46 }
set_option maxHeartbeats 4000000 in
set_option maxRecDepth 100000 in
theorem c_X7_enact (l : Launch) (D : va_G) (cI cS : ClassId) (a0 : Nat → Nat) (t0 : ST) (x1 : Int32) (r : Int32) (t' : ST) (hF : F_X7_enact t0 x1 = some (r, t')) : Met l yX7_enact (Cond.code yX7_enact cX7_enact 3 (some .int) :: ALL) rm_X7_enact (PreW D cI cS [.ref (a0 0), .int x1] (pM cI cS a0 t0)) (va_Qi (fun x (_ : Unit) => x = r) (fun _ t => va_P D vwCl (pM cI cS a0 t') t.heap) (AD (pM cI cS a0 t0))) 0 0 (AD (pM cI cS a0 t0)) := by
  refine mW l D cI cS (by decide) (Nat.le_of_ble_eq_true rfl) ?_
  intro p e s m below meth c ls hx hb hr hml hown hts hlocks hP hK hD hS hl
  have hown : s.vm.findClass RX7 = some m.cls := hown
  have hl : lv_has ls 3 [(0, .ref (a0 0)), (1, .int x1)] := hl
  unfold F_X7_enact at hF
  refine lv_iload_n hx hb dX7_enact_0 rfl (lv_at hl 1 rfl) ?_
  refine lv_iconst (v := 0) hx hb dX7_enact_1 (by decide) ?_
  refine lv_sipush (v := 255) hx hb dX7_enact_2 (by decide) ?_
  obtain ⟨v5, h5, hF⟩ := bd hF
  refine cRb (va_runS (As := [.int x1, .int 0, .int 255]) (rest := []) ⟨hx, hb, hml, hown, hts⟩ (c_X7_within l D cI cS x1 0 255 v5 h5) (cwSA hts (TW.cons _) ls_X7_within ml_RX7_61 ⟨rfl, rfl⟩ ⟨(Nat.le_of_ble_eq_true rfl), (Nat.le_of_ble_eq_true rfl)⟩) (pRS hK pnil) rfl rfl hl.1 rfl (lv_room (Nat.le_of_ble_eq_true rfl)) dX7_enact_5 ⟨Nat.le_refl _, Nat.le_refl _⟩) (fun b5 => ?_)
  refine lv_if_ne (tgt := 14) hx hb dX7_enact_8 (by decide) (fun c8 => ?_) (fun c8 => ?_)
  · replace hF := iq c8 hF
    refine lv_aload_n hx hb dX7_enact_14 rfl (lv_at hl 0 rfl) ?_
    refine va_get (D := D) (ci := 6) (v := .int (t0 0 3)) (C := RX7) (T := TX7) (N := 29) hx hb hts (fun w h => List.mem_cons_of_mem _ (inAX7 w h)) hown hK.1 hP 0 (at_M_0 cI cS _ _) rfl 6 (by decide) (hts _ (List.mem_cons_of_mem _ fl_RX7_65)) (fun _ h9 => h9) rfl dX7_enact_15 ?_
    refine lv_if_ne (tgt := 24) hx hb dX7_enact_18 (by decide) (fun c18 => ?_) (fun c18 => ?_)
    · replace hF := iq c18 hF
      refine lv_aload_n hx hb dX7_enact_24 rfl (lv_at hl 0 rfl) ?_
      refine va_get (D := D) (ci := 6) (v := .int (t0 0 2)) (C := RX7) (T := TX7) (N := 29) hx hb hts (fun w h => List.mem_cons_of_mem _ (inAX7 w h)) hown hK.1 hP 0 (at_M_0 cI cS _ _) rfl 5 (by decide) (hts _ (List.mem_cons_of_mem _ fl_RX7_111)) (fun _ h9 => h9) rfl dX7_enact_25 ?_
      refine lv_istore_n (lv' := [(2, .int (t0 0 2)), (0, .ref (a0 0)), (1, .int x1)]) hx hb dX7_enact_28 rfl hl (by decide) rfl (fun ls hl => ?_)
      refine lv_aload_n hx hb dX7_enact_29 rfl (lv_at hl 1 rfl) ?_
      refine lv_iload_n hx hb dX7_enact_30 rfl (lv_at hl 2 rfl) ?_
      obtain ⟨u31, h31, hF⟩ := bd hF
      refine cAv (ws' := pM cI cS a0 u31) (va_runV (As := [.int x1]) (rest := []) ⟨hx, hb, hml, hown, hts⟩ (c_X7_takeLaw l D cI cS a0 t0 x1 u31 h31) (cwVA hts (TW.cons _) lv_X7_takeLaw ml_RX7_95 ⟨rfl, rfl⟩ ⟨(Nat.le_of_ble_eq_true rfl), (Nat.le_of_ble_eq_true rfl)⟩) (pWV hK hP hD (ci := 6) rfl rfl) rfl rfl hl.1 rfl (lv_room (Nat.le_of_ble_eq_true rfl)) dX7_enact_31 ⟨Nat.le_refl _, Nat.le_refl _⟩) hD hS (ad_M cI cS _ _ _) (fun H locs hP hD hS => ?_)
      refine lv_iload_n hx hb dX7_enact_34 rfl (lv_at hl 0 rfl) ?_
      exact W.iret hx hb hr (fun t ht hW => ⟨⟨_, (), rfl, (Prod.mk.inj (Option.some.inj hF)).1, by show va_P _ _ _ t.heap; rw [ht, ← (Prod.mk.inj (Option.some.inj hF)).2]; exact hP⟩, hS.F ht⟩) hS.2.2 dX7_enact_35
    · replace hF := ip c18 hF
      refine lv_bipush (v := (-3)) hx hb dX7_enact_21 (by decide) ?_
      exact W.iret hx hb hr (fun t ht hW => ⟨⟨_, (), rfl, (Prod.mk.inj (Option.some.inj hF)).1, by show va_P _ _ _ t.heap; rw [ht, ← (Prod.mk.inj (Option.some.inj hF)).2]; exact hP⟩, hS.F ht⟩) hS.2.2 dX7_enact_23
  · replace hF := ip c8 hF
    refine lv_bipush (v := (-2)) hx hb dX7_enact_11 (by decide) ?_
    exact W.iret hx hb hr (fun t ht hW => ⟨⟨_, (), rfl, (Prod.mk.inj (Option.some.inj hF)).1, by show va_P _ _ _ t.heap; rw [ht, ← (Prod.mk.inj (Option.some.inj hF)).2]; exact hP⟩, hS.F ht⟩) hS.2.2 dX7_enact_13
noncomputable def F_X7_hurry (t0 : ST) (x1 : Int32) (x2 : Int32) : Option (Int32 × ST) :=
  (F_X7_isBlock t0 x1).bind fun v2 =>
  if v2 = 0 then
    some ((-1), t0)
  else
  (F_X7_within x2 1 4).bind fun v13 =>
  if v13 = 0 then
    some ((-2), t0)
  else
  (rd 6 (t0 7) x1).bind fun v27 =>
  (ix 6 x1).bind fun k35 =>
  some (v27, (st t0 7 k35 x2))
abbrev rm_X7_hurry : Room := { frames := 1, cells := 0, slots := 0, locals := 22 }
set_option maxHeartbeats 4000000 in
set_option maxRecDepth 100000 in
theorem c_X7_hurry (l : Launch) (D : va_G) (cI cS : ClassId) (a0 : Nat → Nat) (t0 : ST) (x1 : Int32) (x2 : Int32) (r : Int32) (t' : ST) (hF : F_X7_hurry t0 x1 x2 = some (r, t')) : Met l yX7_hurry (Cond.code yX7_hurry cX7_hurry 4 (some .int) :: ALL) rm_X7_hurry (PreW D cI cS [.ref (a0 0), .int x1, .int x2] (pM cI cS a0 t0)) (va_Qi (fun x (_ : Unit) => x = r) (fun _ t => va_P D vwCl (pM cI cS a0 t') t.heap) (AD (pM cI cS a0 t0))) 0 0 (AD (pM cI cS a0 t0)) := by
  refine mW l D cI cS (by decide) (Nat.le_of_ble_eq_true rfl) ?_
  intro p e s m below meth c ls hx hb hr hml hown hts hlocks hP hK hD hS hl
  have hown : s.vm.findClass RX7 = some m.cls := hown
  have hl : lv_has ls 4 [(0, .ref (a0 0)), (1, .int x1), (2, .int x2)] := hl
  unfold F_X7_hurry at hF
  refine lv_aload_n hx hb dX7_hurry_0 rfl (lv_at hl 0 rfl) ?_
  refine lv_iload_n hx hb dX7_hurry_1 rfl (lv_at hl 1 rfl) ?_
  obtain ⟨v2, h2, hF⟩ := bd hF
  refine cRb (va_runV (As := [.int x1]) (rest := []) ⟨hx, hb, hml, hown, hts⟩ (c_X7_isBlock l D cI cS a0 t0 x1 v2 h2) (cwVA hts (TW.cons _) lv_X7_isBlock ml_RX7_132 ⟨rfl, rfl⟩ ⟨(Nat.le_of_ble_eq_true rfl), (Nat.le_of_ble_eq_true rfl)⟩) (pRV hK hP (ci := 6) rfl rfl) rfl rfl hl.1 rfl (lv_room (Nat.le_of_ble_eq_true rfl)) dX7_hurry_2 ⟨Nat.le_refl _, Nat.le_refl _⟩) (fun b2 => ?_)
  refine lv_if_ne (tgt := 10) hx hb dX7_hurry_5 (by decide) (fun c5 => ?_) (fun c5 => ?_)
  · replace hF := iq c5 hF
    refine lv_iload_n hx hb dX7_hurry_10 rfl (lv_at hl 2 rfl) ?_
    refine lv_iconst (v := 1) hx hb dX7_hurry_11 (by decide) ?_
    refine lv_iconst (v := 4) hx hb dX7_hurry_12 (by decide) ?_
    obtain ⟨v13, h13, hF⟩ := bd hF
    refine cRb (va_runS (As := [.int x2, .int 1, .int 4]) (rest := []) ⟨hx, hb, hml, hown, hts⟩ (c_X7_within l D cI cS x2 1 4 v13 h13) (cwSA hts (TW.cons _) ls_X7_within ml_RX7_61 ⟨rfl, rfl⟩ ⟨(Nat.le_of_ble_eq_true rfl), (Nat.le_of_ble_eq_true rfl)⟩) (pRS hK pnil) rfl rfl hl.1 rfl (lv_room (Nat.le_of_ble_eq_true rfl)) dX7_hurry_13 ⟨Nat.le_refl _, Nat.le_refl _⟩) (fun b13 => ?_)
    refine lv_if_ne (tgt := 22) hx hb dX7_hurry_16 (by decide) (fun c16 => ?_) (fun c16 => ?_)
    · replace hF := iq c16 hF
      refine lv_aload_n hx hb dX7_hurry_22 rfl (lv_at hl 0 rfl) ?_
      refine va_get (D := D) (ci := 6) (v := .ref (a0 7)) (C := RX7) (T := TX7) (N := 29) hx hb hts (fun w h => List.mem_cons_of_mem _ (inAX7 w h)) hown hK.1 hP 0 (at_M_0 cI cS _ _) rfl 12 (by decide) (hts _ (List.mem_cons_of_mem _ fl_RX7_28)) (fun _ h9 => h9) rfl dX7_hurry_23 ?_
      refine lv_iload_n hx hb dX7_hurry_26 rfl (lv_at hl 1 rfl) ?_
      obtain ⟨v27, h27, hF⟩ := bd hF
      refine rI hx hb hK.1 hP 7 0 (at_M_7 cI cS _ _) rfl h27 dX7_hurry_27 ?_
      refine lv_istore_n (lv' := [(3, .int v27), (0, .ref (a0 0)), (1, .int x1), (2, .int x2)]) hx hb dX7_hurry_28 rfl hl (by decide) rfl (fun ls hl => ?_)
      refine lv_aload_n hx hb dX7_hurry_29 rfl (lv_at hl 1 rfl) ?_
      refine va_get (D := D) (ci := 6) (v := .ref (a0 7)) (C := RX7) (T := TX7) (N := 29) hx hb hts (fun w h => List.mem_cons_of_mem _ (inAX7 w h)) hown hK.1 hP 0 (at_M_0 cI cS _ _) rfl 12 (by decide) (hts _ (List.mem_cons_of_mem _ fl_RX7_28)) (fun _ h9 => h9) rfl dX7_hurry_30 ?_
      refine lv_iload_n hx hb dX7_hurry_33 rfl (lv_at hl 2 rfl) ?_
      refine lv_iload_n hx hb dX7_hurry_34 rfl (lv_at hl 3 rfl) ?_
      obtain ⟨k35, h35, hF⟩ := bd hF
      refine wI (ws' := pM cI cS a0 (st t0 7 k35 x2)) hx hb hK.1 hP hD hS 7 0 (at_M_7 cI cS _ _) rfl h35 (sw_M_7 cI cS _ _ _ _) dX7_hurry_35 (fun H locs hP hD hS => ?_)
      refine lv_iload_n hx hb dX7_hurry_36 rfl (lv_at hl 0 rfl) ?_
      exact W.iret hx hb hr (fun t ht hW => ⟨⟨_, (), rfl, (Prod.mk.inj (Option.some.inj hF)).1, by show va_P _ _ _ t.heap; rw [ht, ← (Prod.mk.inj (Option.some.inj hF)).2]; exact hP⟩, hS.F ht⟩) hS.2.2 dX7_hurry_37
    · replace hF := ip c16 hF
      refine lv_bipush (v := (-2)) hx hb dX7_hurry_19 (by decide) ?_
      exact W.iret hx hb hr (fun t ht hW => ⟨⟨_, (), rfl, (Prod.mk.inj (Option.some.inj hF)).1, by show va_P _ _ _ t.heap; rw [ht, ← (Prod.mk.inj (Option.some.inj hF)).2]; exact hP⟩, hS.F ht⟩) hS.2.2 dX7_hurry_21
  · replace hF := ip c5 hF
    refine lv_iconst (v := (-1)) hx hb dX7_hurry_8 (by decide) ?_
    exact W.iret hx hb hr (fun t ht hW => ⟨⟨_, (), rfl, (Prod.mk.inj (Option.some.inj hF)).1, by show va_P _ _ _ t.heap; rw [ht, ← (Prod.mk.inj (Option.some.inj hF)).2]; exact hP⟩, hS.F ht⟩) hS.2.2 dX7_hurry_9
noncomputable def F_X7_keep_L2 (k : Int32 → ST → Option ST) : Nat → Int32 → ST → Option ST
  | 0, _, _ => none
  | n + 1, x1, s0 =>
    if (s0 0 3) ≤ x1 then
      k x1 s0
    else
    (rd 6 (s0 6) x1).bind fun v20 =>
    (ix 6 x1).bind fun k21 =>
    (F_X7_keep_L2  k n) (x1 + 1) (st s0 9 k21 v20)
noncomputable def F_X7_keep_J28 (s0 : ST) : Option ST :=
  some s0
noncomputable def F_X7_keep (t0 : ST) : Option ST :=
  F_X7_keep_L2  (fun x1_k2 s0_k2 => F_X7_keep_J28 s0_k2) 1000 0 t0
abbrev rm_X7_keep : Room := { frames := 0, cells := 0, slots := 0, locals := 0 }
set_option maxHeartbeats 4000000 in
set_option maxRecDepth 100000 in
theorem c_X7_keep (l : Launch) (D : va_G) (cI cS : ClassId) (a0 : Nat → Nat) (t0 : ST) (t' : ST) (hF : F_X7_keep t0 = some t') : Met l yX7_keep (Cond.code yX7_keep cX7_keep 2 none :: ALL) rm_X7_keep (PreW D cI cS [.ref (a0 0)] (pM cI cS a0 t0)) (va_Qv (fun (_ : Unit) => True) (fun _ t => va_P D vwCl (pM cI cS a0 t') t.heap) (AD (pM cI cS a0 t0))) 0 0 (AD (pM cI cS a0 t0)) := by
  refine mW l D cI cS (by decide) (Nat.le_of_ble_eq_true rfl) ?_
  intro p e s m below meth c ls hx hb hr hml hown hts hlocks hP hK hD hS hl
  have hown : s.vm.findClass RX7 = some m.cls := hown
  have hl : lv_has ls 2 [(0, .ref (a0 0))] := hl
  unfold F_X7_keep at hF
  refine lv_iconst (v := 0) hx hb dX7_keep_0 (by decide) ?_
  refine lv_istore_n (lv' := [(1, .int 0), (0, .ref (a0 0))]) hx hb dX7_keep_1 rfl hl (by decide) rfl (fun ls hl => ?_)
  have L2 : ∀ (n_2 : Nat) (x1_2 : Int32) (s0_2 : ST) (H : Heap) (locs : List Loc) (ls : Array Slot), va_P D vwCl (pM cI cS a0 s0_2) H → va_D (AD (pM cI cS a0 t0)) (pM cI cS a0 s0_2) → va_S (AD (pM cI cS a0 t0)) s.heap H locs → lv_has ls 2 [(0, .ref (a0 0)), (1, .int x1_2)] → F_X7_keep_L2  (fun x1_k2 s0_k2 => F_X7_keep_J28 s0_k2) n_2 x1_2 s0_2 = some t' → W p l e rm_X7_keep s m [.ref (a0 0)].toArray below meth c H locs 0 0 (MQ below (va_Qv (fun (_ : Unit) => True) (fun _ t => va_P D vwCl (pM cI cS a0 t') t.heap) (AD (pM cI cS a0 t0))) [.ref (a0 0)].toArray s 0 0 (AD (pM cI cS a0 t0))) (F0 m 2 ls []) := by
    intro n_2
    induction n_2 with
    | zero => intro x1_2 s0_2 H locs ls hP hD hS hl hF; exact nomatch hF
    | succ n_2 ih2 =>
      intro x1_2 s0_2 H locs ls hP hD hS hl hF
      rw [F_X7_keep_L2.eq_2] at hF
      refine lv_iload_n hx hb dX7_keep_2 rfl (lv_at hl 1 rfl) ?_
      refine lv_aload_n hx hb dX7_keep_3 rfl (lv_at hl 0 rfl) ?_
      refine va_get (D := D) (ci := 6) (v := .int (s0_2 0 3)) (C := RX7) (T := TX7) (N := 29) hx hb hts (fun w h => List.mem_cons_of_mem _ (inAX7 w h)) hown hK.1 hP 0 (at_M_0 cI cS _ _) rfl 6 (by decide) (hts _ (List.mem_cons_of_mem _ fl_RX7_65)) (fun _ h9 => h9) rfl dX7_keep_4 ?_
      refine lv_icmp_ge (tgt := 28) hx hb dX7_keep_7 (by decide) (fun c7 => ?_) (fun c7 => ?_)
      · replace hF := ip c7 hF
        have hF : F_X7_keep_J28 s0_2 = some t' := hF
        unfold F_X7_keep_J28 at hF
        exact W.vret hx hb hr (fun t ht hW => ⟨⟨(), rfl, trivial, by show va_P _ _ _ t.heap; rw [ht, ← (Option.some.inj hF)]; exact hP⟩, hS.F ht⟩) hS.2.2 dX7_keep_28
      · replace hF := iq c7 hF
        refine lv_aload_n hx hb dX7_keep_10 rfl (lv_at hl 0 rfl) ?_
        refine va_get (D := D) (ci := 6) (v := .ref (a0 9)) (C := RX7) (T := TX7) (N := 29) hx hb hts (fun w h => List.mem_cons_of_mem _ (inAX7 w h)) hown hK.1 hP 0 (at_M_0 cI cS _ _) rfl 17 (by decide) (hts _ (List.mem_cons_of_mem _ fl_RX7_34)) (fun _ h9 => h9) rfl dX7_keep_11 ?_
        refine lv_iload_n hx hb dX7_keep_14 rfl (lv_at hl 1 rfl) ?_
        refine lv_aload_n hx hb dX7_keep_15 rfl (lv_at hl 0 rfl) ?_
        refine va_get (D := D) (ci := 6) (v := .ref (a0 6)) (C := RX7) (T := TX7) (N := 29) hx hb hts (fun w h => List.mem_cons_of_mem _ (inAX7 w h)) hown hK.1 hP 0 (at_M_0 cI cS _ _) rfl 11 (by decide) (hts _ (List.mem_cons_of_mem _ fl_RX7_25)) (fun _ h9 => h9) rfl dX7_keep_16 ?_
        refine lv_iload_n hx hb dX7_keep_19 rfl (lv_at hl 1 rfl) ?_
        obtain ⟨v20, h20, hF⟩ := bd hF
        refine rI hx hb hK.1 hP 6 0 (at_M_6 cI cS _ _) rfl h20 dX7_keep_20 ?_
        obtain ⟨k21, h21, hF⟩ := bd hF
        refine wI (ws' := pM cI cS a0 (st s0_2 9 k21 v20)) hx hb hK.1 hP hD hS 9 0 (at_M_9 cI cS _ _) rfl h21 (sw_M_9 cI cS _ _ _ _) dX7_keep_21 (fun H locs hP hD hS => ?_)
        refine lv_iinc (v := (x1_2 + 1)) (lv' := [(1, .int (x1_2 + 1)), (0, .ref (a0 0))]) hx hb dX7_keep_22 hl (k := 1) rfl rfl (by decide) rfl (fun ls hl => ?_)
        refine lv_goto (tgt := 2) hx hb dX7_keep_25 (by decide) ?_
        exact ih2 (x1_2 + 1) (st s0_2 9 k21 v20) _ _ _ hP hD hS (lv_sub hl [1, 0] rfl) hF
  exact L2 1000 0 t0 _ _ _ hP hD hS (lv_sub hl [1, 0] rfl) hF
noncomputable def F_X7_oneDay_L2 (k : Int32 → ST → Option ST) : Nat → Int32 → ST → Option ST
  | 0, _, _ => none
  | n + 1, x1, s0 =>
    if (s0 0 3) ≤ x1 then
      k x1 s0
    else
    (F_X7_isOf (s0 0 5) x1).bind fun v15 =>
    if v15 = 0 then
      (rd 6 (s0 6) x1).bind fun v32 =>
      (F_X7_goesOf s0 x1).bind fun v35 =>
      (F_X7_stepsOn s0 v32 v35).bind fun v38 =>
      (ix 6 x1).bind fun k41 =>
      (F_X7_oneDay_L2  k n) (x1 + 1) (st s0 6 k41 v38)
    else
    (F_X7_oneDay_L2  k n) (x1 + 1) s0
noncomputable def F_X7_oneDay_J48 (s0 : ST) : Option ST :=
  some s0
noncomputable def F_X7_oneDay (t0 : ST) : Option ST :=
  F_X7_oneDay_L2  (fun x1_k2 s0_k2 => F_X7_oneDay_J48 s0_k2) 1000 0 t0
abbrev rm_X7_oneDay : Room := { frames := 1, cells := 0, slots := 0, locals := 24 }
set_option maxHeartbeats 4000000 in
set_option maxRecDepth 100000 in
theorem c_X7_oneDay (l : Launch) (D : va_G) (cI cS : ClassId) (a0 : Nat → Nat) (t0 : ST) (t' : ST) (hF : F_X7_oneDay t0 = some t') : Met l yX7_oneDay (Cond.code yX7_oneDay cX7_oneDay 2 none :: ALL) rm_X7_oneDay (PreW D cI cS [.ref (a0 0)] (pM cI cS a0 t0)) (va_Qv (fun (_ : Unit) => True) (fun _ t => va_P D vwCl (pM cI cS a0 t') t.heap) (AD (pM cI cS a0 t0))) 0 0 (AD (pM cI cS a0 t0)) := by
  refine mW l D cI cS (by decide) (Nat.le_of_ble_eq_true rfl) ?_
  intro p e s m below meth c ls hx hb hr hml hown hts hlocks hP hK hD hS hl
  have hown : s.vm.findClass RX7 = some m.cls := hown
  have hl : lv_has ls 2 [(0, .ref (a0 0))] := hl
  unfold F_X7_oneDay at hF
  refine lv_iconst (v := 0) hx hb dX7_oneDay_0 (by decide) ?_
  refine lv_istore_n (lv' := [(1, .int 0), (0, .ref (a0 0))]) hx hb dX7_oneDay_1 rfl hl (by decide) rfl (fun ls hl => ?_)
  have L2 : ∀ (n_2 : Nat) (x1_2 : Int32) (s0_2 : ST) (H : Heap) (locs : List Loc) (ls : Array Slot), va_P D vwCl (pM cI cS a0 s0_2) H → va_D (AD (pM cI cS a0 t0)) (pM cI cS a0 s0_2) → va_S (AD (pM cI cS a0 t0)) s.heap H locs → lv_has ls 2 [(0, .ref (a0 0)), (1, .int x1_2)] → F_X7_oneDay_L2  (fun x1_k2 s0_k2 => F_X7_oneDay_J48 s0_k2) n_2 x1_2 s0_2 = some t' → W p l e rm_X7_oneDay s m [.ref (a0 0)].toArray below meth c H locs 0 0 (MQ below (va_Qv (fun (_ : Unit) => True) (fun _ t => va_P D vwCl (pM cI cS a0 t') t.heap) (AD (pM cI cS a0 t0))) [.ref (a0 0)].toArray s 0 0 (AD (pM cI cS a0 t0))) (F0 m 2 ls []) := by
    intro n_2
    induction n_2 with
    | zero => intro x1_2 s0_2 H locs ls hP hD hS hl hF; exact nomatch hF
    | succ n_2 ih2 =>
      intro x1_2 s0_2 H locs ls hP hD hS hl hF
      rw [F_X7_oneDay_L2.eq_2] at hF
      refine lv_iload_n hx hb dX7_oneDay_2 rfl (lv_at hl 1 rfl) ?_
      refine lv_aload_n hx hb dX7_oneDay_3 rfl (lv_at hl 0 rfl) ?_
      refine va_get (D := D) (ci := 6) (v := .int (s0_2 0 3)) (C := RX7) (T := TX7) (N := 29) hx hb hts (fun w h => List.mem_cons_of_mem _ (inAX7 w h)) hown hK.1 hP 0 (at_M_0 cI cS _ _) rfl 6 (by decide) (hts _ (List.mem_cons_of_mem _ fl_RX7_65)) (fun _ h9 => h9) rfl dX7_oneDay_4 ?_
      refine lv_icmp_ge (tgt := 48) hx hb dX7_oneDay_7 (by decide) (fun c7 => ?_) (fun c7 => ?_)
      · replace hF := ip c7 hF
        have hF : F_X7_oneDay_J48 s0_2 = some t' := hF
        unfold F_X7_oneDay_J48 at hF
        exact W.vret hx hb hr (fun t ht hW => ⟨⟨(), rfl, trivial, by show va_P _ _ _ t.heap; rw [ht, ← (Option.some.inj hF)]; exact hP⟩, hS.F ht⟩) hS.2.2 dX7_oneDay_48
      · replace hF := iq c7 hF
        refine lv_aload_n hx hb dX7_oneDay_10 rfl (lv_at hl 0 rfl) ?_
        refine va_get (D := D) (ci := 6) (v := .int (s0_2 0 5)) (C := RX7) (T := TX7) (N := 29) hx hb hts (fun w h => List.mem_cons_of_mem _ (inAX7 w h)) hown hK.1 hP 0 (at_M_0 cI cS _ _) rfl 8 (by decide) (hts _ (List.mem_cons_of_mem _ fl_RX7_105)) (fun _ h9 => h9) rfl dX7_oneDay_11 ?_
        refine lv_iload_n hx hb dX7_oneDay_14 rfl (lv_at hl 1 rfl) ?_
        obtain ⟨v15, h15, hF⟩ := bd hF
        refine cRb (va_runS (As := [.int (s0_2 0 5), .int x1_2]) (rest := []) ⟨hx, hb, hml, hown, hts⟩ (c_X7_isOf l D cI cS (s0_2 0 5) x1_2 v15 h15) (cwSA hts (TW.cons _) ls_X7_isOf ml_RX7_144 ⟨rfl, rfl⟩ ⟨(Nat.le_of_ble_eq_true rfl), (Nat.le_of_ble_eq_true rfl)⟩) (pRS hK pnil) rfl rfl hl.1 rfl (lv_room (Nat.le_of_ble_eq_true rfl)) dX7_oneDay_15 ⟨Nat.le_refl _, Nat.le_refl _⟩) (fun b15 => ?_)
        refine lv_if_ne (tgt := 42) hx hb dX7_oneDay_18 (by decide) (fun c18 => ?_) (fun c18 => ?_)
        · replace hF := iq c18 hF
          refine lv_iinc (v := (x1_2 + 1)) (lv' := [(1, .int (x1_2 + 1)), (0, .ref (a0 0))]) hx hb dX7_oneDay_42 hl (k := 1) rfl rfl (by decide) rfl (fun ls hl => ?_)
          refine lv_goto (tgt := 2) hx hb dX7_oneDay_45 (by decide) ?_
          exact ih2 (x1_2 + 1) s0_2 _ _ _ hP hD hS (lv_sub hl [1, 0] rfl) hF
        · replace hF := ip c18 hF
          refine lv_aload_n hx hb dX7_oneDay_21 rfl (lv_at hl 0 rfl) ?_
          refine va_get (D := D) (ci := 6) (v := .ref (a0 6)) (C := RX7) (T := TX7) (N := 29) hx hb hts (fun w h => List.mem_cons_of_mem _ (inAX7 w h)) hown hK.1 hP 0 (at_M_0 cI cS _ _) rfl 11 (by decide) (hts _ (List.mem_cons_of_mem _ fl_RX7_25)) (fun _ h9 => h9) rfl dX7_oneDay_22 ?_
          refine lv_iload_n hx hb dX7_oneDay_25 rfl (lv_at hl 1 rfl) ?_
          refine lv_aload_n hx hb dX7_oneDay_26 rfl (lv_at hl 0 rfl) ?_
          refine lv_aload_n hx hb dX7_oneDay_27 rfl (lv_at hl 0 rfl) ?_
          refine va_get (D := D) (ci := 6) (v := .ref (a0 6)) (C := RX7) (T := TX7) (N := 29) hx hb hts (fun w h => List.mem_cons_of_mem _ (inAX7 w h)) hown hK.1 hP 0 (at_M_0 cI cS _ _) rfl 11 (by decide) (hts _ (List.mem_cons_of_mem _ fl_RX7_25)) (fun _ h9 => h9) rfl dX7_oneDay_28 ?_
          refine lv_iload_n hx hb dX7_oneDay_31 rfl (lv_at hl 1 rfl) ?_
          obtain ⟨v32, h32, hF⟩ := bd hF
          refine rI hx hb hK.1 hP 6 0 (at_M_6 cI cS _ _) rfl h32 dX7_oneDay_32 ?_
          refine lv_aload_n hx hb dX7_oneDay_33 rfl (lv_at hl 0 rfl) ?_
          refine lv_iload_n hx hb dX7_oneDay_34 rfl (lv_at hl 1 rfl) ?_
          obtain ⟨v35, h35, hF⟩ := bd hF
          refine cRe (va_runV (As := [.int x1_2]) (rest := [.int v32, .ref (a0 0), .int x1_2, .ref (a0 6)]) ⟨hx, hb, hml, hown, hts⟩ (c_X7_goesOf l D cI cS a0 s0_2 x1_2 v35 h35) (cwVA hts (TW.cons _) lv_X7_goesOf ml_RX7_135 ⟨rfl, rfl⟩ ⟨(Nat.le_of_ble_eq_true rfl), (Nat.le_of_ble_eq_true rfl)⟩) (pRV hK hP (ci := 6) rfl rfl) rfl rfl hl.1 rfl (lv_room (Nat.le_of_ble_eq_true rfl)) dX7_oneDay_35 ⟨Nat.le_refl _, Nat.le_refl _⟩) ?_
          obtain ⟨v38, h38, hF⟩ := bd hF
          refine cRe (va_runV (As := [.int v32, .int v35]) (rest := [.int x1_2, .ref (a0 6)]) ⟨hx, hb, hml, hown, hts⟩ (c_X7_stepsOn l D cI cS a0 s0_2 v32 v35 v38 h38) (cwVA hts (TW.cons _) lv_X7_stepsOn ml_RX7_147 ⟨rfl, rfl⟩ ⟨(Nat.le_of_ble_eq_true rfl), (Nat.le_of_ble_eq_true rfl)⟩) (pRV hK hP (ci := 6) rfl rfl) rfl rfl hl.1 rfl (lv_room (Nat.le_of_ble_eq_true rfl)) dX7_oneDay_38 ⟨Nat.le_refl _, Nat.le_refl _⟩) ?_
          obtain ⟨k41, h41, hF⟩ := bd hF
          refine wI (ws' := pM cI cS a0 (st s0_2 6 k41 v38)) hx hb hK.1 hP hD hS 6 0 (at_M_6 cI cS _ _) rfl h41 (sw_M_6 cI cS _ _ _ _) dX7_oneDay_41 (fun H locs hP hD hS => ?_)
          refine lv_iinc (v := (x1_2 + 1)) (lv' := [(1, .int (x1_2 + 1)), (0, .ref (a0 0))]) hx hb dX7_oneDay_42 hl (k := 1) rfl rfl (by decide) rfl (fun ls hl => ?_)
          refine lv_goto (tgt := 2) hx hb dX7_oneDay_45 (by decide) ?_
          exact ih2 (x1_2 + 1) (st s0_2 6 k41 v38) _ _ _ hP hD hS (lv_sub hl [1, 0] rfl) hF
  exact L2 1000 0 t0 _ _ _ hP hD hS (lv_sub hl [1, 0] rfl) hF
noncomputable def F_X7_days_L30 (x1 : Int32) (k : Int32 → ST → Option (Int32 × ST)) : Nat → Int32 → ST → Option (Int32 × ST)
  | 0, _, _ => none
  | n + 1, x2, s0 =>
    if x1 ≤ x2 then
      k x2 s0
    else
    (F_X7_oneDay s0).bind fun u36 =>
    (F_X7_days_L30 x1 k n) (x2 + 1) u36
noncomputable def F_X7_days_L59 (x1 : Int32) (s0 : ST) (k : Int32 → Int32 → Option (Int32 × ST)) : Nat → Int32 → Int32 → Option (Int32 × ST)
  | 0, _, _ => none
  | n + 1, x2, x3 =>
    if (s0 0 3) ≤ x3 then
      k x2 x3
    else
    (rd 6 (s0 6) x3).bind fun v73 =>
    (rd 6 (s0 9) x3).bind fun v79 =>
    if v73 = v79 then
      (F_X7_days_L59 x1 s0 k n) (x2 + 0) (x3 + 1)
    else
    (F_X7_days_L59 x1 s0 k n) (x2 + 1) (x3 + 1)
noncomputable def F_X7_days_J96 (x1 : Int32) (x2 : Int32) (s0 : ST) : Option (Int32 × ST) :=
  some (x2, s0)
noncomputable def F_X7_days_J45 (x1 : Int32) (s0 : ST) : Option (Int32 × ST) :=
  F_X7_days_L59 x1 (st s0 0 4 ((s0 0 4) + x1)) (fun x2_k59 x3_k59 => F_X7_days_J96 x1 x2_k59 (st s0 0 4 ((s0 0 4) + x1))) 1000 0 0
noncomputable def F_X7_days (t0 : ST) (x1 : Int32) : Option (Int32 × ST) :=
  (F_X7_within x1 1 300).bind fun v5 =>
  if v5 = 0 then
    some ((-2), t0)
  else
  if (t0 0 3) = 0 then
    some ((-3), t0)
  else
  (F_X7_keep t0).bind fun u25 =>
  F_X7_days_L30 x1 (fun x2_k30 s0_k30 => F_X7_days_J45 x1 s0_k30) 1000 0 u25
abbrev rm_X7_days : Room := { frames := 2, cells := 0, slots := 0, locals := 45 }
set_option maxHeartbeats 4000000 in
set_option maxRecDepth 100000 in
theorem c_X7_days (l : Launch) (D : va_G) (cI cS : ClassId) (a0 : Nat → Nat) (t0 : ST) (x1 : Int32) (r : Int32) (t' : ST) (hF : F_X7_days t0 x1 = some (r, t')) : Met l yX7_days (Cond.code yX7_days cX7_days 4 (some .int) :: ALL) rm_X7_days (PreW D cI cS [.ref (a0 0), .int x1] (pM cI cS a0 t0)) (va_Qi (fun x (_ : Unit) => x = r) (fun _ t => va_P D vwCl (pM cI cS a0 t') t.heap) (AD (pM cI cS a0 t0))) 0 0 (AD (pM cI cS a0 t0)) := by
  refine mW l D cI cS (by decide) (Nat.le_of_ble_eq_true rfl) ?_
  intro p e s m below meth c ls hx hb hr hml hown hts hlocks hP hK hD hS hl
  have hown : s.vm.findClass RX7 = some m.cls := hown
  have hl : lv_has ls 4 [(0, .ref (a0 0)), (1, .int x1)] := hl
  unfold F_X7_days at hF
  refine lv_iload_n hx hb dX7_days_0 rfl (lv_at hl 1 rfl) ?_
  refine lv_iconst (v := 1) hx hb dX7_days_1 (by decide) ?_
  refine lv_sipush (v := 300) hx hb dX7_days_2 (by decide) ?_
  obtain ⟨v5, h5, hF⟩ := bd hF
  refine cRb (va_runS (As := [.int x1, .int 1, .int 300]) (rest := []) ⟨hx, hb, hml, hown, hts⟩ (c_X7_within l D cI cS x1 1 300 v5 h5) (cwSA hts (TW.cons _) ls_X7_within ml_RX7_61 ⟨rfl, rfl⟩ ⟨(Nat.le_of_ble_eq_true rfl), (Nat.le_of_ble_eq_true rfl)⟩) (pRS hK pnil) rfl rfl hl.1 rfl (lv_room (Nat.le_of_ble_eq_true rfl)) dX7_days_5 ⟨Nat.le_refl _, Nat.le_refl _⟩) (fun b5 => ?_)
  refine lv_if_ne (tgt := 14) hx hb dX7_days_8 (by decide) (fun c8 => ?_) (fun c8 => ?_)
  · replace hF := iq c8 hF
    refine lv_aload_n hx hb dX7_days_14 rfl (lv_at hl 0 rfl) ?_
    refine va_get (D := D) (ci := 6) (v := .int (t0 0 3)) (C := RX7) (T := TX7) (N := 29) hx hb hts (fun w h => List.mem_cons_of_mem _ (inAX7 w h)) hown hK.1 hP 0 (at_M_0 cI cS _ _) rfl 6 (by decide) (hts _ (List.mem_cons_of_mem _ fl_RX7_65)) (fun _ h9 => h9) rfl dX7_days_15 ?_
    refine lv_if_ne (tgt := 24) hx hb dX7_days_18 (by decide) (fun c18 => ?_) (fun c18 => ?_)
    · replace hF := iq c18 hF
      refine lv_aload_n hx hb dX7_days_24 rfl (lv_at hl 0 rfl) ?_
      obtain ⟨u25, h25, hF⟩ := bd hF
      refine cAv (ws' := pM cI cS a0 u25) (va_runV (As := []) (rest := []) ⟨hx, hb, hml, hown, hts⟩ (c_X7_keep l D cI cS a0 t0 u25 h25) (cwVA hts (TW.cons _) lv_X7_keep ml_RX7_150 ⟨rfl, rfl⟩ ⟨(Nat.le_of_ble_eq_true rfl), (Nat.le_of_ble_eq_true rfl)⟩) (pWV hK hP hD (ci := 6) rfl rfl) rfl rfl hl.1 rfl (lv_room (Nat.le_of_ble_eq_true rfl)) dX7_days_25 ⟨Nat.le_refl _, Nat.le_refl _⟩) hD hS (ad_M cI cS _ _ _) (fun H locs hP hD hS => ?_)
      refine lv_iconst (v := 0) hx hb dX7_days_28 (by decide) ?_
      refine lv_istore_n (lv' := [(2, .int 0), (0, .ref (a0 0)), (1, .int x1)]) hx hb dX7_days_29 rfl hl (by decide) rfl (fun ls hl => ?_)
      have L30 : ∀ (n_30 : Nat) (x2_30 : Int32) (s0_30 : ST) (H : Heap) (locs : List Loc) (ls : Array Slot), va_P D vwCl (pM cI cS a0 s0_30) H → va_D (AD (pM cI cS a0 t0)) (pM cI cS a0 s0_30) → va_S (AD (pM cI cS a0 t0)) s.heap H locs → lv_has ls 4 [(0, .ref (a0 0)), (1, .int x1), (2, .int x2_30)] → F_X7_days_L30 x1 (fun x2_k30 s0_k30 => F_X7_days_J45 x1 s0_k30) n_30 x2_30 s0_30 = some (r, t') → W p l e rm_X7_days s m [.ref (a0 0), .int x1].toArray below meth c H locs 0 0 (MQ below (va_Qi (fun x (_ : Unit) => x = r) (fun _ t => va_P D vwCl (pM cI cS a0 t') t.heap) (AD (pM cI cS a0 t0))) [.ref (a0 0), .int x1].toArray s 0 0 (AD (pM cI cS a0 t0))) (F0 m 30 ls []) := by
        intro n_30
        induction n_30 with
        | zero => intro x2_30 s0_30 H locs ls hP hD hS hl hF; exact nomatch hF
        | succ n_30 ih30 =>
          intro x2_30 s0_30 H locs ls hP hD hS hl hF
          rw [F_X7_days_L30.eq_2] at hF
          refine lv_iload_n hx hb dX7_days_30 rfl (lv_at hl 2 rfl) ?_
          refine lv_iload_n hx hb dX7_days_31 rfl (lv_at hl 1 rfl) ?_
          refine lv_icmp_ge (tgt := 45) hx hb dX7_days_32 (by decide) (fun c32 => ?_) (fun c32 => ?_)
          · replace hF := ip c32 hF
            have hF : F_X7_days_J45 x1 s0_30 = some (r, t') := hF
            unfold F_X7_days_J45 at hF
            refine lv_aload_n hx hb dX7_days_45 rfl (lv_at hl 0 rfl) ?_
            refine lv_dup hx hb dX7_days_46 rfl ?_
            refine va_get (D := D) (ci := 6) (v := .int (s0_30 0 4)) (C := RX7) (T := TX7) (N := 29) hx hb hts (fun w h => List.mem_cons_of_mem _ (inAX7 w h)) hown hK.1 hP 0 (at_M_0 cI cS _ _) rfl 7 (by decide) (hts _ (List.mem_cons_of_mem _ fl_RX7_102)) (fun _ h9 => h9) rfl dX7_days_47 ?_
            refine lv_iload_n hx hb dX7_days_50 rfl (lv_at hl 1 rfl) ?_
            refine lv_iadd hx hb dX7_days_51 ?_
            refine wF (ws' := pM cI cS a0 (st s0_30 0 4 ((s0_30 0 4) + x1))) (C := RX7) (T := TX7) (N := 29) hx hb hts (fun w h => List.mem_cons_of_mem _ (inAX7 w h)) tyX7 tyX7_ok nmX7 hown hK.1 hP hD hS 0 (at_M_0 cI cS _ _) rfl 7 (by decide) (hts _ (List.mem_cons_of_mem _ fl_RX7_102)) rfl (tyX7_ok 7 (by decide)) rfl rfl (Nat.le_of_ble_eq_true rfl) (sf_M_0_7 cI cS _ _ _) dX7_days_52 (fun H locs hP hD hS => ?_)
            refine lv_iconst (v := 0) hx hb dX7_days_55 (by decide) ?_
            refine lv_istore_n (lv' := [(2, .int 0), (0, .ref (a0 0)), (1, .int x1)]) hx hb dX7_days_56 rfl hl (by decide) rfl (fun ls hl => ?_)
            refine lv_iconst (v := 0) hx hb dX7_days_57 (by decide) ?_
            refine lv_istore_n (lv' := [(3, .int 0), (2, .int 0), (0, .ref (a0 0)), (1, .int x1)]) hx hb dX7_days_58 rfl hl (by decide) rfl (fun ls hl => ?_)
            have L59 : ∀ (n_59 : Nat) (x2_59 : Int32) (x3_59 : Int32) (H : Heap) (locs : List Loc) (ls : Array Slot), va_P D vwCl (pM cI cS a0 (st s0_30 0 4 ((s0_30 0 4) + x1))) H → va_D (AD (pM cI cS a0 t0)) (pM cI cS a0 (st s0_30 0 4 ((s0_30 0 4) + x1))) → va_S (AD (pM cI cS a0 t0)) s.heap H locs → lv_has ls 4 [(0, .ref (a0 0)), (2, .int x2_59), (3, .int x3_59)] → F_X7_days_L59 x1 (st s0_30 0 4 ((s0_30 0 4) + x1)) (fun x2_k59 x3_k59 => F_X7_days_J96 x1 x2_k59 (st s0_30 0 4 ((s0_30 0 4) + x1))) n_59 x2_59 x3_59 = some (r, t') → W p l e rm_X7_days s m [.ref (a0 0), .int x1].toArray below meth c H locs 0 0 (MQ below (va_Qi (fun x (_ : Unit) => x = r) (fun _ t => va_P D vwCl (pM cI cS a0 t') t.heap) (AD (pM cI cS a0 t0))) [.ref (a0 0), .int x1].toArray s 0 0 (AD (pM cI cS a0 t0))) (F0 m 59 ls []) := by
              intro n_59
              induction n_59 with
              | zero => intro x2_59 x3_59 H locs ls hP hD hS hl hF; exact nomatch hF
              | succ n_59 ih59 =>
                intro x2_59 x3_59 H locs ls hP hD hS hl hF
                rw [F_X7_days_L59.eq_2] at hF
                refine lv_iload_n hx hb dX7_days_59 rfl (lv_at hl 2 rfl) ?_
                refine lv_aload_n hx hb dX7_days_60 rfl (lv_at hl 0 rfl) ?_
                refine va_get (D := D) (ci := 6) (v := .int (s0_30 0 3)) (C := RX7) (T := TX7) (N := 29) hx hb hts (fun w h => List.mem_cons_of_mem _ (inAX7 w h)) hown hK.1 hP 0 (at_M_0 cI cS _ _) rfl 6 (by decide) (hts _ (List.mem_cons_of_mem _ fl_RX7_65)) (fun _ h9 => h9) rfl dX7_days_61 ?_
                refine lv_icmp_ge (tgt := 96) hx hb dX7_days_64 (by decide) (fun c64 => ?_) (fun c64 => ?_)
                · replace hF := ip c64 hF
                  have hF : F_X7_days_J96 x1 x2_59 (st s0_30 0 4 ((s0_30 0 4) + x1)) = some (r, t') := hF
                  unfold F_X7_days_J96 at hF
                  refine lv_iload_n hx hb dX7_days_96 rfl (lv_at hl 1 rfl) ?_
                  exact W.iret hx hb hr (fun t ht hW => ⟨⟨_, (), rfl, (Prod.mk.inj (Option.some.inj hF)).1, by show va_P _ _ _ t.heap; rw [ht, ← (Prod.mk.inj (Option.some.inj hF)).2]; exact hP⟩, hS.F ht⟩) hS.2.2 dX7_days_97
                · replace hF := iq c64 hF
                  refine lv_iload_n hx hb dX7_days_67 rfl (lv_at hl 1 rfl) ?_
                  refine lv_aload_n hx hb dX7_days_68 rfl (lv_at hl 0 rfl) ?_
                  refine va_get (D := D) (ci := 6) (v := .ref (a0 6)) (C := RX7) (T := TX7) (N := 29) hx hb hts (fun w h => List.mem_cons_of_mem _ (inAX7 w h)) hown hK.1 hP 0 (at_M_0 cI cS _ _) rfl 11 (by decide) (hts _ (List.mem_cons_of_mem _ fl_RX7_25)) (fun _ h9 => h9) rfl dX7_days_69 ?_
                  refine lv_iload_n hx hb dX7_days_72 rfl (lv_at hl 2 rfl) ?_
                  obtain ⟨v73, h73, hF⟩ := bd hF
                  refine rI hx hb hK.1 hP 6 0 (at_M_6 cI cS _ _) rfl h73 dX7_days_73 ?_
                  refine lv_aload_n hx hb dX7_days_74 rfl (lv_at hl 0 rfl) ?_
                  refine va_get (D := D) (ci := 6) (v := .ref (a0 9)) (C := RX7) (T := TX7) (N := 29) hx hb hts (fun w h => List.mem_cons_of_mem _ (inAX7 w h)) hown hK.1 hP 0 (at_M_0 cI cS _ _) rfl 17 (by decide) (hts _ (List.mem_cons_of_mem _ fl_RX7_34)) (fun _ h9 => h9) rfl dX7_days_75 ?_
                  refine lv_iload_n hx hb dX7_days_78 rfl (lv_at hl 2 rfl) ?_
                  obtain ⟨v79, h79, hF⟩ := bd hF
                  refine rI hx hb hK.1 hP 9 0 (at_M_9 cI cS _ _) rfl h79 dX7_days_79 ?_
                  refine lv_icmp_ne (tgt := 87) hx hb dX7_days_80 (by decide) (fun c80 => ?_) (fun c80 => ?_)
                  · replace hF := iq c80 hF
                    refine lv_iconst (v := 1) hx hb dX7_days_87 (by decide) ?_
                    refine lv_iadd hx hb dX7_days_88 ?_
                    refine lv_istore_n (lv' := [(2, .int (x2_59 + 1)), (0, .ref (a0 0)), (3, .int x3_59)]) hx hb dX7_days_89 rfl hl (by decide) rfl (fun ls hl => ?_)
                    refine lv_iinc (v := (x3_59 + 1)) (lv' := [(3, .int (x3_59 + 1)), (2, .int (x2_59 + 1)), (0, .ref (a0 0))]) hx hb dX7_days_90 hl (k := 2) rfl rfl (by decide) rfl (fun ls hl => ?_)
                    refine lv_goto (tgt := 59) hx hb dX7_days_93 (by decide) ?_
                    exact ih59 (x2_59 + 1) (x3_59 + 1) _ _ _ hP hD hS (lv_sub hl [2, 1, 0] rfl) hF
                  · replace hF := ip c80 hF
                    refine lv_iconst (v := 0) hx hb dX7_days_83 (by decide) ?_
                    refine lv_goto (tgt := 88) hx hb dX7_days_84 (by decide) ?_
                    refine lv_iadd hx hb dX7_days_88 ?_
                    refine lv_istore_n (lv' := [(2, .int (x2_59 + 0)), (0, .ref (a0 0)), (3, .int x3_59)]) hx hb dX7_days_89 rfl hl (by decide) rfl (fun ls hl => ?_)
                    refine lv_iinc (v := (x3_59 + 1)) (lv' := [(3, .int (x3_59 + 1)), (2, .int (x2_59 + 0)), (0, .ref (a0 0))]) hx hb dX7_days_90 hl (k := 2) rfl rfl (by decide) rfl (fun ls hl => ?_)
                    refine lv_goto (tgt := 59) hx hb dX7_days_93 (by decide) ?_
                    exact ih59 (x2_59 + 0) (x3_59 + 1) _ _ _ hP hD hS (lv_sub hl [2, 1, 0] rfl) hF
            exact L59 1000 0 0 _ _ _ hP hD hS (lv_sub hl [2, 1, 0] rfl) hF
          · replace hF := iq c32 hF
            refine lv_aload_n hx hb dX7_days_35 rfl (lv_at hl 0 rfl) ?_
            obtain ⟨u36, h36, hF⟩ := bd hF
            refine cAv (ws' := pM cI cS a0 u36) (va_runV (As := []) (rest := []) ⟨hx, hb, hml, hown, hts⟩ (c_X7_oneDay l D cI cS a0 s0_30 u36 h36) (cwVA hts (TW.cons _) lv_X7_oneDay ml_RX7_153 ⟨rfl, rfl⟩ ⟨(Nat.le_of_ble_eq_true rfl), (Nat.le_of_ble_eq_true rfl)⟩) (pWV hK hP hD (ci := 6) rfl rfl) rfl rfl hl.1 rfl (lv_room (Nat.le_of_ble_eq_true rfl)) dX7_days_36 ⟨Nat.le_refl _, Nat.le_refl _⟩) hD hS (ad_M cI cS _ _ _) (fun H locs hP hD hS => ?_)
            refine lv_iinc (v := (x2_30 + 1)) (lv' := [(2, .int (x2_30 + 1)), (0, .ref (a0 0)), (1, .int x1)]) hx hb dX7_days_39 hl (k := 2) rfl rfl (by decide) rfl (fun ls hl => ?_)
            refine lv_goto (tgt := 30) hx hb dX7_days_42 (by decide) ?_
            exact ih30 (x2_30 + 1) u36 _ _ _ hP hD hS (lv_sub hl [1, 2, 0] rfl) hF
      exact L30 1000 0 u25 _ _ _ hP hD hS (lv_sub hl [1, 2, 0] rfl) hF
    · replace hF := ip c18 hF
      refine lv_bipush (v := (-3)) hx hb dX7_days_21 (by decide) ?_
      exact W.iret hx hb hr (fun t ht hW => ⟨⟨_, (), rfl, (Prod.mk.inj (Option.some.inj hF)).1, by show va_P _ _ _ t.heap; rw [ht, ← (Prod.mk.inj (Option.some.inj hF)).2]; exact hP⟩, hS.F ht⟩) hS.2.2 dX7_days_23
  · replace hF := ip c8 hF
    refine lv_bipush (v := (-2)) hx hb dX7_days_11 (by decide) ?_
    exact W.iret hx hb hr (fun t ht hW => ⟨⟨_, (), rfl, (Prod.mk.inj (Option.some.inj hF)).1, by show va_P _ _ _ t.heap; rw [ht, ← (Prod.mk.inj (Option.some.inj hF)).2]; exact hP⟩, hS.F ht⟩) hS.2.2 dX7_days_13
