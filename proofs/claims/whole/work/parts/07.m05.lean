noncomputable def F_X7_findFar_L2 (x1 : Int32) (k : Int32 → ST → Option ST) : Nat → Int32 → ST → Option ST
  | 0, _, _ => none
  | n + 1, x2, s0 =>
    if 64 ≤ x2 then
      k x2 s0
    else
    (ix 64 x2).bind fun k14 =>
    (rd 64 (s0 4) x2).bind fun v25 =>
    (ix 64 x2).bind fun k26 =>
    (F_X7_findFar_L2 x1 k n) (x2 + 1) (st (st s0 14 k14 x2) 13 k26 v25)
noncomputable def F_X7_findFar_L48 (x1 : Int32) (x2 : Int32) (k : Int32 → ST → Option ST) : Nat → Int32 → ST → Option ST
  | 0, _, _ => none
  | n + 1, x3, s0 =>
    if 64 ≤ x3 then
      k x3 s0
    else
    (rd 64 (s0 14) x3).bind fun v68 =>
    (rd 64 (s0 13) v68).bind fun v69 =>
    (ix 64 x3).bind fun k70 =>
    (F_X7_findFar_L48 x1 x2 k n) (x3 + 1) (st s0 14 k70 v69)
noncomputable def F_X7_findFar_J77 (x1 : Int32) (g k : Int32 → ST → Option ST) (x2 : Int32) (s0 : ST) : Option ST :=
  (F_X7_square s0).bind fun u78 =>
  g (x2 >>> (1 &&& 31)) u78
noncomputable def F_X7_findFar_L35 (x1 : Int32) (k : Int32 → ST → Option ST) : Nat → Int32 → ST → Option ST
  | 0, _, _ => none
  | n + 1, x2, s0 =>
    if x2 ≤ 0 then
      k x2 s0
    else
    if (x2 &&& 1) = 1 then
      F_X7_findFar_L48 x1 x2 (fun x3_k48 s0_k48 => F_X7_findFar_J77 x1 (F_X7_findFar_L35 x1 k n) k x2 s0_k48) 1000 0 s0
    else
    (F_X7_square s0).bind fun u78 =>
    (F_X7_findFar_L35 x1 k n) (x2 >>> (1 &&& 31)) u78
noncomputable def F_X7_findFar_J88 (x1 : Int32) (s0 : ST) : Option ST :=
  some s0
noncomputable def F_X7_findFar_J33 (x1 : Int32) (s0 : ST) : Option ST :=
  F_X7_findFar_L35 x1 (fun x2_k35 s0_k35 => F_X7_findFar_J88 x1 s0_k35) 1000 x1 s0
noncomputable def F_X7_findFar (t0 : ST) (x1 : Int32) : Option ST :=
  F_X7_findFar_L2 x1 (fun x2_k2 s0_k2 => F_X7_findFar_J33 x1 s0_k2) 1000 0 t0
abbrev rm_X7_findFar : Room := { frames := 1, cells := 0, slots := 0, locals := 21 }
set_option maxHeartbeats 4000000 in
set_option maxRecDepth 100000 in
theorem c_X7_findFar (l : Launch) (D : va_G) (cI cS : ClassId) (a0 : Nat → Nat) (t0 : ST) (x1 : Int32) (t' : ST) (hF : F_X7_findFar t0 x1 = some t') : Met l yX7_findFar (Cond.code yX7_findFar cX7_findFar 4 none :: ALL) rm_X7_findFar (PreW D cI cS [.ref (a0 0), .int x1] (pM cI cS a0 t0)) (va_Qv (fun (_ : Unit) => True) (fun _ t => va_P D vwCl (pM cI cS a0 t') t.heap) (AD (pM cI cS a0 t0))) 0 0 (AD (pM cI cS a0 t0)) := by
  refine mW l D cI cS (by decide) (Nat.le_of_ble_eq_true rfl) ?_
  intro p e s m below meth c ls hx hb hr hml hown hts hlocks hP hK hD hS hl
  have hown : s.vm.findClass RX7 = some m.cls := hown
  have hl : lv_has ls 4 [(0, .ref (a0 0)), (1, .int x1)] := hl
  unfold F_X7_findFar at hF
  refine lv_iconst (v := 0) hx hb dX7_findFar_0 (by decide) ?_
  refine lv_istore_n (lv' := [(2, .int 0), (0, .ref (a0 0)), (1, .int x1)]) hx hb dX7_findFar_1 rfl hl (by decide) rfl (fun ls hl => ?_)
  have L2 : ∀ (n_2 : Nat) (x2_2 : Int32) (s0_2 : ST) (H : Heap) (locs : List Loc) (ls : Array Slot), va_P D vwCl (pM cI cS a0 s0_2) H → va_D (AD (pM cI cS a0 t0)) (pM cI cS a0 s0_2) → va_S (AD (pM cI cS a0 t0)) s.heap H locs → lv_has ls 4 [(0, .ref (a0 0)), (1, .int x1), (2, .int x2_2)] → F_X7_findFar_L2 x1 (fun x2_k2 s0_k2 => F_X7_findFar_J33 x1 s0_k2) n_2 x2_2 s0_2 = some t' → W p l e rm_X7_findFar s m [.ref (a0 0), .int x1].toArray below meth c H locs 0 0 (MQ below (va_Qv (fun (_ : Unit) => True) (fun _ t => va_P D vwCl (pM cI cS a0 t') t.heap) (AD (pM cI cS a0 t0))) [.ref (a0 0), .int x1].toArray s 0 0 (AD (pM cI cS a0 t0))) (F0 m 2 ls []) := by
    intro n_2
    induction n_2 with
    | zero => intro x2_2 s0_2 H locs ls hP hD hS hl hF; exact nomatch hF
    | succ n_2 ih2 =>
      intro x2_2 s0_2 H locs ls hP hD hS hl hF
      rw [F_X7_findFar_L2.eq_2] at hF
      refine lv_iload_n hx hb dX7_findFar_2 rfl (lv_at hl 2 rfl) ?_
      refine lv_bipush (v := 64) hx hb dX7_findFar_3 (by decide) ?_
      refine lv_icmp_ge (tgt := 33) hx hb dX7_findFar_5 (by decide) (fun c5 => ?_) (fun c5 => ?_)
      · replace hF := ip c5 hF
        have hF : F_X7_findFar_J33 x1 s0_2 = some t' := hF
        unfold F_X7_findFar_J33 at hF
        refine lv_iload_n hx hb dX7_findFar_33 rfl (lv_at hl 1 rfl) ?_
        refine lv_istore_n (lv' := [(2, .int x1), (0, .ref (a0 0)), (1, .int x1)]) hx hb dX7_findFar_34 rfl hl (by decide) rfl (fun ls hl => ?_)
        have L35 : ∀ (n_35 : Nat) (x2_35 : Int32) (s0_35 : ST) (H : Heap) (locs : List Loc) (ls : Array Slot), va_P D vwCl (pM cI cS a0 s0_35) H → va_D (AD (pM cI cS a0 t0)) (pM cI cS a0 s0_35) → va_S (AD (pM cI cS a0 t0)) s.heap H locs → lv_has ls 4 [(0, .ref (a0 0)), (2, .int x2_35)] → F_X7_findFar_L35 x1 (fun x2_k35 s0_k35 => F_X7_findFar_J88 x1 s0_k35) n_35 x2_35 s0_35 = some t' → W p l e rm_X7_findFar s m [.ref (a0 0), .int x1].toArray below meth c H locs 0 0 (MQ below (va_Qv (fun (_ : Unit) => True) (fun _ t => va_P D vwCl (pM cI cS a0 t') t.heap) (AD (pM cI cS a0 t0))) [.ref (a0 0), .int x1].toArray s 0 0 (AD (pM cI cS a0 t0))) (F0 m 35 ls []) := by
          intro n_35
          induction n_35 with
          | zero => intro x2_35 s0_35 H locs ls hP hD hS hl hF; exact nomatch hF
          | succ n_35 ih35 =>
            intro x2_35 s0_35 H locs ls hP hD hS hl hF
            rw [F_X7_findFar_L35.eq_2] at hF
            refine lv_iload_n hx hb dX7_findFar_35 rfl (lv_at hl 1 rfl) ?_
            refine lv_if_le (tgt := 88) hx hb dX7_findFar_36 (by decide) (fun c36 => ?_) (fun c36 => ?_)
            · replace hF := ip c36 hF
              have hF : F_X7_findFar_J88 x1 s0_35 = some t' := hF
              unfold F_X7_findFar_J88 at hF
              exact W.vret hx hb hr (fun t ht hW => ⟨⟨(), rfl, trivial, by show va_P _ _ _ t.heap; rw [ht, ← (Option.some.inj hF)]; exact hP⟩, hS.F ht⟩) hS.2.2 dX7_findFar_88
            · replace hF := iq c36 hF
              refine lv_iload_n hx hb dX7_findFar_39 rfl (lv_at hl 1 rfl) ?_
              refine lv_iconst (v := 1) hx hb dX7_findFar_40 (by decide) ?_
              refine lv_iand hx hb dX7_findFar_41 ?_
              refine lv_iconst (v := 1) hx hb dX7_findFar_42 (by decide) ?_
              refine lv_icmp_ne (tgt := 77) hx hb dX7_findFar_43 (by decide) (fun c43 => ?_) (fun c43 => ?_)
              · replace hF := iq c43 hF
                refine lv_aload_n hx hb dX7_findFar_77 rfl (lv_at hl 0 rfl) ?_
                obtain ⟨u78, h78, hF⟩ := bd hF
                refine cAv (ws' := pM cI cS a0 u78) (va_runV (As := []) (rest := []) ⟨hx, hb, hml, hown, hts⟩ (c_X7_square l D cI cS a0 s0_35 u78 h78) (cwVA hts (TW.cons _) lv_X7_square ml_RX7_194 ⟨rfl, rfl⟩ ⟨(Nat.le_of_ble_eq_true rfl), (Nat.le_of_ble_eq_true rfl)⟩) (pWV hK hP hD (ci := 6) rfl rfl) rfl rfl hl.1 rfl (lv_room (Nat.le_of_ble_eq_true rfl)) dX7_findFar_78 ⟨Nat.le_refl _, Nat.le_refl _⟩) hD hS (ad_M cI cS _ _ _) (fun H locs hP hD hS => ?_)
                refine lv_iload_n hx hb dX7_findFar_81 rfl (lv_at hl 1 rfl) ?_
                refine lv_iconst (v := 1) hx hb dX7_findFar_82 (by decide) ?_
                refine lv_ishr hx hb dX7_findFar_83 ?_
                refine lv_istore_n (lv' := [(2, .int (x2_35 >>> (1 &&& 31))), (0, .ref (a0 0))]) hx hb dX7_findFar_84 rfl hl (by decide) rfl (fun ls hl => ?_)
                refine lv_goto (tgt := 35) hx hb dX7_findFar_85 (by decide) ?_
                exact ih35 (x2_35 >>> (1 &&& 31)) u78 _ _ _ hP hD hS (lv_sub hl [1, 0] rfl) hF
              · replace hF := ip c43 hF
                refine lv_iconst (v := 0) hx hb dX7_findFar_46 (by decide) ?_
                refine lv_istore_n (lv' := [(3, .int 0), (0, .ref (a0 0)), (2, .int x2_35)]) hx hb dX7_findFar_47 rfl hl (by decide) rfl (fun ls hl => ?_)
                have L48 : ∀ (n_48 : Nat) (x3_48 : Int32) (s0_48 : ST) (H : Heap) (locs : List Loc) (ls : Array Slot), va_P D vwCl (pM cI cS a0 s0_48) H → va_D (AD (pM cI cS a0 t0)) (pM cI cS a0 s0_48) → va_S (AD (pM cI cS a0 t0)) s.heap H locs → lv_has ls 4 [(0, .ref (a0 0)), (2, .int x2_35), (3, .int x3_48)] → F_X7_findFar_L48 x1 x2_35 (fun x3_k48 s0_k48 => F_X7_findFar_J77 x1 (F_X7_findFar_L35 x1 (fun x2_k35 s0_k35 => F_X7_findFar_J88 x1 s0_k35) n_35) (fun x2_k35 s0_k35 => F_X7_findFar_J88 x1 s0_k35) x2_35 s0_k48) n_48 x3_48 s0_48 = some t' → W p l e rm_X7_findFar s m [.ref (a0 0), .int x1].toArray below meth c H locs 0 0 (MQ below (va_Qv (fun (_ : Unit) => True) (fun _ t => va_P D vwCl (pM cI cS a0 t') t.heap) (AD (pM cI cS a0 t0))) [.ref (a0 0), .int x1].toArray s 0 0 (AD (pM cI cS a0 t0))) (F0 m 48 ls []) := by
                  intro n_48
                  induction n_48 with
                  | zero => intro x3_48 s0_48 H locs ls hP hD hS hl hF; exact nomatch hF
                  | succ n_48 ih48 =>
                    intro x3_48 s0_48 H locs ls hP hD hS hl hF
                    rw [F_X7_findFar_L48.eq_2] at hF
                    refine lv_iload_n hx hb dX7_findFar_48 rfl (lv_at hl 2 rfl) ?_
                    refine lv_bipush (v := 64) hx hb dX7_findFar_49 (by decide) ?_
                    refine lv_icmp_ge (tgt := 77) hx hb dX7_findFar_51 (by decide) (fun c51 => ?_) (fun c51 => ?_)
                    · replace hF := ip c51 hF
                      have hF : F_X7_findFar_J77 x1 (F_X7_findFar_L35 x1 (fun x2_k35 s0_k35 => F_X7_findFar_J88 x1 s0_k35) n_35) (fun x2_k35 s0_k35 => F_X7_findFar_J88 x1 s0_k35) x2_35 s0_48 = some t' := hF
                      unfold F_X7_findFar_J77 at hF
                      refine lv_aload_n hx hb dX7_findFar_77 rfl (lv_at hl 0 rfl) ?_
                      obtain ⟨u78, h78, hF⟩ := bd hF
                      refine cAv (ws' := pM cI cS a0 u78) (va_runV (As := []) (rest := []) ⟨hx, hb, hml, hown, hts⟩ (c_X7_square l D cI cS a0 s0_48 u78 h78) (cwVA hts (TW.cons _) lv_X7_square ml_RX7_194 ⟨rfl, rfl⟩ ⟨(Nat.le_of_ble_eq_true rfl), (Nat.le_of_ble_eq_true rfl)⟩) (pWV hK hP hD (ci := 6) rfl rfl) rfl rfl hl.1 rfl (lv_room (Nat.le_of_ble_eq_true rfl)) dX7_findFar_78 ⟨Nat.le_refl _, Nat.le_refl _⟩) hD hS (ad_M cI cS _ _ _) (fun H locs hP hD hS => ?_)
                      refine lv_iload_n hx hb dX7_findFar_81 rfl (lv_at hl 1 rfl) ?_
                      refine lv_iconst (v := 1) hx hb dX7_findFar_82 (by decide) ?_
                      refine lv_ishr hx hb dX7_findFar_83 ?_
                      refine lv_istore_n (lv' := [(2, .int (x2_35 >>> (1 &&& 31))), (0, .ref (a0 0)), (3, .int x3_48)]) hx hb dX7_findFar_84 rfl hl (by decide) rfl (fun ls hl => ?_)
                      refine lv_goto (tgt := 35) hx hb dX7_findFar_85 (by decide) ?_
                      exact ih35 (x2_35 >>> (1 &&& 31)) u78 _ _ _ hP hD hS (lv_sub hl [1, 0] rfl) hF
                    · replace hF := iq c51 hF
                      refine lv_aload_n hx hb dX7_findFar_54 rfl (lv_at hl 0 rfl) ?_
                      refine va_get (D := D) (ci := 6) (v := .ref (a0 14)) (C := RX7) (T := TX7) (N := 29) hx hb hts (fun w h => List.mem_cons_of_mem _ (inAX7 w h)) hown hK.1 hP 0 (at_M_0 cI cS _ _) rfl 27 (by decide) (hts _ (List.mem_cons_of_mem _ fl_RX7_49)) (fun _ h9 => h9) rfl dX7_findFar_55 ?_
                      refine lv_iload_n hx hb dX7_findFar_58 rfl (lv_at hl 2 rfl) ?_
                      refine lv_aload_n hx hb dX7_findFar_59 rfl (lv_at hl 0 rfl) ?_
                      refine va_get (D := D) (ci := 6) (v := .ref (a0 13)) (C := RX7) (T := TX7) (N := 29) hx hb hts (fun w h => List.mem_cons_of_mem _ (inAX7 w h)) hown hK.1 hP 0 (at_M_0 cI cS _ _) rfl 26 (by decide) (hts _ (List.mem_cons_of_mem _ fl_RX7_46)) (fun _ h9 => h9) rfl dX7_findFar_60 ?_
                      refine lv_aload_n hx hb dX7_findFar_63 rfl (lv_at hl 0 rfl) ?_
                      refine va_get (D := D) (ci := 6) (v := .ref (a0 14)) (C := RX7) (T := TX7) (N := 29) hx hb hts (fun w h => List.mem_cons_of_mem _ (inAX7 w h)) hown hK.1 hP 0 (at_M_0 cI cS _ _) rfl 27 (by decide) (hts _ (List.mem_cons_of_mem _ fl_RX7_49)) (fun _ h9 => h9) rfl dX7_findFar_64 ?_
                      refine lv_iload_n hx hb dX7_findFar_67 rfl (lv_at hl 2 rfl) ?_
                      obtain ⟨v68, h68, hF⟩ := bd hF
                      refine rI hx hb hK.1 hP 14 0 (at_M_14 cI cS _ _) rfl h68 dX7_findFar_68 ?_
                      obtain ⟨v69, h69, hF⟩ := bd hF
                      refine rI hx hb hK.1 hP 13 0 (at_M_13 cI cS _ _) rfl h69 dX7_findFar_69 ?_
                      obtain ⟨k70, h70, hF⟩ := bd hF
                      refine wI (ws' := pM cI cS a0 (st s0_48 14 k70 v69)) hx hb hK.1 hP hD hS 14 0 (at_M_14 cI cS _ _) rfl h70 (sw_M_14 cI cS _ _ _ _) dX7_findFar_70 (fun H locs hP hD hS => ?_)
                      refine lv_iinc (v := (x3_48 + 1)) (lv' := [(3, .int (x3_48 + 1)), (0, .ref (a0 0)), (2, .int x2_35)]) hx hb dX7_findFar_71 hl (k := 2) rfl rfl (by decide) rfl (fun ls hl => ?_)
                      refine lv_goto (tgt := 48) hx hb dX7_findFar_74 (by decide) ?_
                      exact ih48 (x3_48 + 1) (st s0_48 14 k70 v69) _ _ _ hP hD hS (lv_sub hl [1, 2, 0] rfl) hF
                exact L48 1000 0 s0_35 _ _ _ hP hD hS (lv_sub hl [1, 2, 0] rfl) hF
        exact L35 1000 x1 s0_2 _ _ _ hP hD hS (lv_sub hl [1, 0] rfl) hF
      · replace hF := iq c5 hF
        refine lv_aload_n hx hb dX7_findFar_8 rfl (lv_at hl 0 rfl) ?_
        refine va_get (D := D) (ci := 6) (v := .ref (a0 14)) (C := RX7) (T := TX7) (N := 29) hx hb hts (fun w h => List.mem_cons_of_mem _ (inAX7 w h)) hown hK.1 hP 0 (at_M_0 cI cS _ _) rfl 27 (by decide) (hts _ (List.mem_cons_of_mem _ fl_RX7_49)) (fun _ h9 => h9) rfl dX7_findFar_9 ?_
        refine lv_iload_n hx hb dX7_findFar_12 rfl (lv_at hl 2 rfl) ?_
        refine lv_iload_n hx hb dX7_findFar_13 rfl (lv_at hl 2 rfl) ?_
        obtain ⟨k14, h14, hF⟩ := bd hF
        refine wI (ws' := pM cI cS a0 (st s0_2 14 k14 x2_2)) hx hb hK.1 hP hD hS 14 0 (at_M_14 cI cS _ _) rfl h14 (sw_M_14 cI cS _ _ _ _) dX7_findFar_14 (fun H locs hP hD hS => ?_)
        refine lv_aload_n hx hb dX7_findFar_15 rfl (lv_at hl 0 rfl) ?_
        refine va_get (D := D) (ci := 6) (v := .ref (a0 13)) (C := RX7) (T := TX7) (N := 29) hx hb hts (fun w h => List.mem_cons_of_mem _ (inAX7 w h)) hown hK.1 hP 0 (at_M_0 cI cS _ _) rfl 26 (by decide) (hts _ (List.mem_cons_of_mem _ fl_RX7_46)) (fun _ h9 => h9) rfl dX7_findFar_16 ?_
        refine lv_iload_n hx hb dX7_findFar_19 rfl (lv_at hl 2 rfl) ?_
        refine lv_aload_n hx hb dX7_findFar_20 rfl (lv_at hl 0 rfl) ?_
        refine va_get (D := D) (ci := 6) (v := .ref (a0 4)) (C := RX7) (T := TX7) (N := 29) hx hb hts (fun w h => List.mem_cons_of_mem _ (inAX7 w h)) hown hK.1 hP 0 (at_M_0 cI cS _ _) rfl 9 (by decide) (hts _ (List.mem_cons_of_mem _ fl_RX7_19)) (fun _ h9 => h9) rfl dX7_findFar_21 ?_
        refine lv_iload_n hx hb dX7_findFar_24 rfl (lv_at hl 2 rfl) ?_
        obtain ⟨v25, h25, hF⟩ := bd hF
        refine rI hx hb hK.1 hP 4 0 (at_M_4 cI cS _ _) rfl h25 dX7_findFar_25 ?_
        obtain ⟨k26, h26, hF⟩ := bd hF
        refine wI (ws' := pM cI cS a0 (st (st s0_2 14 k14 x2_2) 13 k26 v25)) hx hb hK.1 hP hD hS 13 0 (at_M_13 cI cS _ _) rfl h26 (sw_M_13 cI cS _ _ _ _) dX7_findFar_26 (fun H locs hP hD hS => ?_)
        refine lv_iinc (v := (x2_2 + 1)) (lv' := [(2, .int (x2_2 + 1)), (0, .ref (a0 0)), (1, .int x1)]) hx hb dX7_findFar_27 hl (k := 2) rfl rfl (by decide) rfl (fun ls hl => ?_)
        refine lv_goto (tgt := 2) hx hb dX7_findFar_30 (by decide) ?_
        exact ih2 (x2_2 + 1) (st (st s0_2 14 k14 x2_2) 13 k26 v25) _ _ _ hP hD hS (lv_sub hl [1, 2, 0] rfl) hF
  exact L2 1000 0 t0 _ _ _ hP hD hS (lv_sub hl [1, 2, 0] rfl) hF
noncomputable def F_X7_starts_J87 (x1 : Int32) (g k : Int64 → Int32 → Option (Int64 × ST)) (y2 : Int64) (x4 : Int32) (x5 : Int32) (s0 : ST) (z0 : Int32) : Option (Int64 × ST) :=
  (rd 64 (s0 14) z0).bind fun v96 =>
  (rd 8 (s0 12) x4).bind fun v103 =>
  if v96 = v103 then
    g (y2 &&& (-1)) (x5 + 1)
  else
  g (y2 &&& ((1 <<< (x5.toInt64 &&& 63)) ^^^ (-1))) (x5 + 1)
noncomputable def F_X7_starts_L52 (x1 : Int32) (x4 : Int32) (s0 : ST) (k : Int64 → Int32 → Option (Int64 × ST)) : Nat → Int64 → Int32 → Option (Int64 × ST)
  | 0, _, _ => none
  | n + 1, y2, x5 =>
    if 64 ≤ x5 then
      k y2 x5
    else
    (rd 8 (s0 10) x4).bind fun v65 =>
    if v65 = x1 then
      F_X7_starts_J87 x1 (F_X7_starts_L52 x1 x4 s0 k n) k y2 x4 x5 s0 x5
    else
    (rd 8 (s0 10) x4).bind fun v85 =>
    (rd 6 (s0 6) v85).bind fun v86 =>
    F_X7_starts_J87 x1 (F_X7_starts_L52 x1 x4 s0 k n) k y2 x4 x5 s0 v86
noncomputable def F_X7_starts_J129 (x1 : Int32) (g k : Int64 → Int32 → ST → Option (Int64 × ST)) (y2 : Int64) (x4 : Int32) (s0 : ST) : Option (Int64 × ST) :=
  g y2 (x4 + 1) s0
noncomputable def F_X7_starts_L17 (x1 : Int32) (k : Int64 → Int32 → ST → Option (Int64 × ST)) : Nat → Int64 → Int32 → ST → Option (Int64 × ST)
  | 0, _, _, _ => none
  | n + 1, y2, x4, s0 =>
    if (s0 0 13) ≤ x4 then
      k y2 x4 s0
    else
    (rd 8 (s0 11) x4).bind fun v33 =>
    (rd 8 (s0 10) x4).bind fun v41 =>
    (F_X7_goesOf s0 v41).bind fun v42 =>
    (F_X7_findFar s0 (v33 * v42)).bind fun u46 =>
    F_X7_starts_L52 x1 x4 u46 (fun y2_k52 x5_k52 => F_X7_starts_J129 x1 (F_X7_starts_L17 x1 k n) k y2_k52 x4 u46) 1000 y2 0
noncomputable def F_X7_starts_J135 (x1 : Int32) (y2 : Int64) (s0 : ST) : Option (Int64 × ST) :=
  some (y2, s0)
noncomputable def F_X7_starts (t0 : ST) (x1 : Int32) : Option (Int64 × ST) :=
  (F_X7_isBlock t0 x1).bind fun v2 =>
  if v2 = 0 then
    some (0, t0)
  else
  F_X7_starts_L17 x1 (fun y2_k17 x4_k17 s0_k17 => F_X7_starts_J135 x1 y2_k17 s0_k17) 1000 (-1) 0 t0
abbrev rm_X7_starts : Room := { frames := 2, cells := 0, slots := 0, locals := 44 }
set_option maxHeartbeats 4000000 in
set_option maxRecDepth 100000 in
theorem c_X7_starts (l : Launch) (D : va_G) (cI cS : ClassId) (a0 : Nat → Nat) (t0 : ST) (x1 : Int32) (r : Int64) (t' : ST) (hF : F_X7_starts t0 x1 = some (r, t')) : Met l yX7_starts (Cond.code yX7_starts cX7_starts 7 (some .long) :: ALL) rm_X7_starts (PreW D cI cS [.ref (a0 0), .int x1] (pM cI cS a0 t0)) (va_Ql (fun x (_ : Unit) => x = r) (fun _ t => va_P D vwCl (pM cI cS a0 t') t.heap) (AD (pM cI cS a0 t0))) 0 0 (AD (pM cI cS a0 t0)) := by
  refine mW l D cI cS (by decide) (Nat.le_of_ble_eq_true rfl) ?_
  intro p e s m below meth c ls hx hb hr hml hown hts hlocks hP hK hD hS hl
  have hown : s.vm.findClass RX7 = some m.cls := hown
  have hl : lv_has ls 7 [(0, .ref (a0 0)), (1, .int x1)] := hl
  unfold F_X7_starts at hF
  refine lv_aload_n hx hb dX7_starts_0 rfl (lv_at hl 0 rfl) ?_
  refine lv_iload_n hx hb dX7_starts_1 rfl (lv_at hl 1 rfl) ?_
  obtain ⟨v2, h2, hF⟩ := bd hF
  refine cRb (va_runV (As := [.int x1]) (rest := []) ⟨hx, hb, hml, hown, hts⟩ (c_X7_isBlock l D cI cS a0 t0 x1 v2 h2) (cwVA hts (TW.cons _) lv_X7_isBlock ml_RX7_132 ⟨rfl, rfl⟩ ⟨(Nat.le_of_ble_eq_true rfl), (Nat.le_of_ble_eq_true rfl)⟩) (pRV hK hP (ci := 6) rfl rfl) rfl rfl hl.1 rfl (lv_room (Nat.le_of_ble_eq_true rfl)) dX7_starts_2 ⟨Nat.le_refl _, Nat.le_refl _⟩) (fun b2 => ?_)
  refine lv_if_ne (tgt := 10) hx hb dX7_starts_5 (by decide) (fun c5 => ?_) (fun c5 => ?_)
  · replace hF := iq c5 hF
    refine lv_ldc2 (own := RX7) (v := (-1)) hx hb hown (hts _ (List.mem_cons_of_mem _ cn_RX7_197)) dX7_starts_10 ?_
    refine lv_lstore_n (lv' := [(2, .long (-1)), (0, .ref (a0 0)), (1, .int x1)]) hx hb dX7_starts_13 rfl hl (by decide) rfl (fun ls hl => ?_)
    refine lv_iconst (v := 0) hx hb dX7_starts_14 (by decide) ?_
    refine lv_istore (lv' := [(4, .int 0), (2, .long (-1)), (0, .ref (a0 0)), (1, .int x1)]) hx hb dX7_starts_15 hl (by decide) rfl (fun ls hl => ?_)
    have L17 : ∀ (n_17 : Nat) (y2_17 : Int64) (x4_17 : Int32) (s0_17 : ST) (H : Heap) (locs : List Loc) (ls : Array Slot), va_P D vwCl (pM cI cS a0 s0_17) H → va_D (AD (pM cI cS a0 t0)) (pM cI cS a0 s0_17) → va_S (AD (pM cI cS a0 t0)) s.heap H locs → lv_has ls 7 [(0, .ref (a0 0)), (1, .int x1), (2, .long y2_17), (4, .int x4_17)] → F_X7_starts_L17 x1 (fun y2_k17 x4_k17 s0_k17 => F_X7_starts_J135 x1 y2_k17 s0_k17) n_17 y2_17 x4_17 s0_17 = some (r, t') → W p l e rm_X7_starts s m [.ref (a0 0), .int x1].toArray below meth c H locs 0 0 (MQ below (va_Ql (fun x (_ : Unit) => x = r) (fun _ t => va_P D vwCl (pM cI cS a0 t') t.heap) (AD (pM cI cS a0 t0))) [.ref (a0 0), .int x1].toArray s 0 0 (AD (pM cI cS a0 t0))) (F0 m 17 ls []) := by
      intro n_17
      induction n_17 with
      | zero => intro y2_17 x4_17 s0_17 H locs ls hP hD hS hl hF; exact nomatch hF
      | succ n_17 ih17 =>
        intro y2_17 x4_17 s0_17 H locs ls hP hD hS hl hF
        rw [F_X7_starts_L17.eq_2] at hF
        refine lv_iload hx hb dX7_starts_17 (lv_at hl 3 rfl) ?_
        refine lv_aload_n hx hb dX7_starts_19 rfl (lv_at hl 0 rfl) ?_
        refine va_get (D := D) (ci := 6) (v := .int (s0_17 0 13)) (C := RX7) (T := TX7) (N := 29) hx hb hts (fun w h => List.mem_cons_of_mem _ (inAX7 w h)) hown hK.1 hP 0 (at_M_0 cI cS _ _) rfl 22 (by decide) (hts _ (List.mem_cons_of_mem _ fl_RX7_108)) (fun _ h9 => h9) rfl dX7_starts_20 ?_
        refine lv_icmp_ge (tgt := 135) hx hb dX7_starts_23 (by decide) (fun c23 => ?_) (fun c23 => ?_)
        · replace hF := ip c23 hF
          have hF : F_X7_starts_J135 x1 y2_17 s0_17 = some (r, t') := hF
          unfold F_X7_starts_J135 at hF
          refine lv_lload_n hx hb dX7_starts_135 rfl (lv_at hl 2 rfl) ?_
          exact W.lret hx hb hr (fun t ht hW => ⟨⟨_, (), rfl, (Prod.mk.inj (Option.some.inj hF)).1, by show va_P _ _ _ t.heap; rw [ht, ← (Prod.mk.inj (Option.some.inj hF)).2]; exact hP⟩, hS.F ht⟩) hS.2.2 dX7_starts_136
        · replace hF := iq c23 hF
          refine lv_aload_n hx hb dX7_starts_26 rfl (lv_at hl 0 rfl) ?_
          refine lv_aload_n hx hb dX7_starts_27 rfl (lv_at hl 0 rfl) ?_
          refine va_get (D := D) (ci := 6) (v := .ref (a0 11)) (C := RX7) (T := TX7) (N := 29) hx hb hts (fun w h => List.mem_cons_of_mem _ (inAX7 w h)) hown hK.1 hP 0 (at_M_0 cI cS _ _) rfl 24 (by decide) (hts _ (List.mem_cons_of_mem _ fl_RX7_40)) (fun _ h9 => h9) rfl dX7_starts_28 ?_
          refine lv_iload hx hb dX7_starts_31 (lv_at hl 3 rfl) ?_
          obtain ⟨v33, h33, hF⟩ := bd hF
          refine rI hx hb hK.1 hP 11 0 (at_M_11 cI cS _ _) rfl h33 dX7_starts_33 ?_
          refine lv_aload_n hx hb dX7_starts_34 rfl (lv_at hl 0 rfl) ?_
          refine lv_aload_n hx hb dX7_starts_35 rfl (lv_at hl 0 rfl) ?_
          refine va_get (D := D) (ci := 6) (v := .ref (a0 10)) (C := RX7) (T := TX7) (N := 29) hx hb hts (fun w h => List.mem_cons_of_mem _ (inAX7 w h)) hown hK.1 hP 0 (at_M_0 cI cS _ _) rfl 23 (by decide) (hts _ (List.mem_cons_of_mem _ fl_RX7_37)) (fun _ h9 => h9) rfl dX7_starts_36 ?_
          refine lv_iload hx hb dX7_starts_39 (lv_at hl 3 rfl) ?_
          obtain ⟨v41, h41, hF⟩ := bd hF
          refine rI hx hb hK.1 hP 10 0 (at_M_10 cI cS _ _) rfl h41 dX7_starts_41 ?_
          obtain ⟨v42, h42, hF⟩ := bd hF
          refine cRe (va_runV (As := [.int v41]) (rest := [.int v33, .ref (a0 0)]) ⟨hx, hb, hml, hown, hts⟩ (c_X7_goesOf l D cI cS a0 s0_17 v41 v42 h42) (cwVA hts (TW.cons _) lv_X7_goesOf ml_RX7_135 ⟨rfl, rfl⟩ ⟨(Nat.le_of_ble_eq_true rfl), (Nat.le_of_ble_eq_true rfl)⟩) (pRV hK hP (ci := 6) rfl rfl) rfl rfl hl.1 rfl (lv_room (Nat.le_of_ble_eq_true rfl)) dX7_starts_42 ⟨Nat.le_refl _, Nat.le_refl _⟩) ?_
          refine lv_imul hx hb dX7_starts_45 ?_
          obtain ⟨u46, h46, hF⟩ := bd hF
          refine cAv (ws' := pM cI cS a0 u46) (va_runV (As := [.int (v33 * v42)]) (rest := []) ⟨hx, hb, hml, hown, hts⟩ (c_X7_findFar l D cI cS a0 s0_17 (v33 * v42) u46 h46) (cwVA hts (TW.cons _) lv_X7_findFar ml_RX7_199 ⟨rfl, rfl⟩ ⟨(Nat.le_of_ble_eq_true rfl), (Nat.le_of_ble_eq_true rfl)⟩) (pWV hK hP hD (ci := 6) rfl rfl) rfl rfl hl.1 rfl (lv_room (Nat.le_of_ble_eq_true rfl)) dX7_starts_46 ⟨Nat.le_refl _, Nat.le_refl _⟩) hD hS (ad_M cI cS _ _ _) (fun H locs hP hD hS => ?_)
          refine lv_iconst (v := 0) hx hb dX7_starts_49 (by decide) ?_
          refine lv_istore (lv' := [(5, .int 0), (0, .ref (a0 0)), (1, .int x1), (2, .long y2_17), (4, .int x4_17)]) hx hb dX7_starts_50 hl (by decide) rfl (fun ls hl => ?_)
          have L52 : ∀ (n_52 : Nat) (y2_52 : Int64) (x5_52 : Int32) (H : Heap) (locs : List Loc) (ls : Array Slot), va_P D vwCl (pM cI cS a0 u46) H → va_D (AD (pM cI cS a0 t0)) (pM cI cS a0 u46) → va_S (AD (pM cI cS a0 t0)) s.heap H locs → lv_has ls 7 [(0, .ref (a0 0)), (1, .int x1), (2, .long y2_52), (4, .int x4_17), (5, .int x5_52)] → F_X7_starts_L52 x1 x4_17 u46 (fun y2_k52 x5_k52 => F_X7_starts_J129 x1 (F_X7_starts_L17 x1 (fun y2_k17 x4_k17 s0_k17 => F_X7_starts_J135 x1 y2_k17 s0_k17) n_17) (fun y2_k17 x4_k17 s0_k17 => F_X7_starts_J135 x1 y2_k17 s0_k17) y2_k52 x4_17 u46) n_52 y2_52 x5_52 = some (r, t') → W p l e rm_X7_starts s m [.ref (a0 0), .int x1].toArray below meth c H locs 0 0 (MQ below (va_Ql (fun x (_ : Unit) => x = r) (fun _ t => va_P D vwCl (pM cI cS a0 t') t.heap) (AD (pM cI cS a0 t0))) [.ref (a0 0), .int x1].toArray s 0 0 (AD (pM cI cS a0 t0))) (F0 m 52 ls []) := by
            intro n_52
            induction n_52 with
            | zero => intro y2_52 x5_52 H locs ls hP hD hS hl hF; exact nomatch hF
            | succ n_52 ih52 =>
              intro y2_52 x5_52 H locs ls hP hD hS hl hF
              rw [F_X7_starts_L52.eq_2] at hF
              refine lv_iload hx hb dX7_starts_52 (lv_at hl 4 rfl) ?_
              refine lv_bipush (v := 64) hx hb dX7_starts_54 (by decide) ?_
              refine lv_icmp_ge (tgt := 129) hx hb dX7_starts_56 (by decide) (fun c56 => ?_) (fun c56 => ?_)
              · replace hF := ip c56 hF
                have hF : F_X7_starts_J129 x1 (F_X7_starts_L17 x1 (fun y2_k17 x4_k17 s0_k17 => F_X7_starts_J135 x1 y2_k17 s0_k17) n_17) (fun y2_k17 x4_k17 s0_k17 => F_X7_starts_J135 x1 y2_k17 s0_k17) y2_52 x4_17 u46 = some (r, t') := hF
                unfold F_X7_starts_J129 at hF
                refine lv_iinc (v := (x4_17 + 1)) (lv' := [(4, .int (x4_17 + 1)), (0, .ref (a0 0)), (1, .int x1), (2, .long y2_52), (5, .int x5_52)]) hx hb dX7_starts_129 hl (k := 3) rfl rfl (by decide) rfl (fun ls hl => ?_)
                refine lv_goto (tgt := 17) hx hb dX7_starts_132 (by decide) ?_
                exact ih17 y2_52 (x4_17 + 1) u46 _ _ _ hP hD hS (lv_sub hl [1, 2, 3, 0] rfl) hF
              · replace hF := iq c56 hF
                refine lv_aload_n hx hb dX7_starts_59 rfl (lv_at hl 0 rfl) ?_
                refine va_get (D := D) (ci := 6) (v := .ref (a0 10)) (C := RX7) (T := TX7) (N := 29) hx hb hts (fun w h => List.mem_cons_of_mem _ (inAX7 w h)) hown hK.1 hP 0 (at_M_0 cI cS _ _) rfl 23 (by decide) (hts _ (List.mem_cons_of_mem _ fl_RX7_37)) (fun _ h9 => h9) rfl dX7_starts_60 ?_
                refine lv_iload hx hb dX7_starts_63 (lv_at hl 3 rfl) ?_
                obtain ⟨v65, h65, hF⟩ := bd hF
                refine rI hx hb hK.1 hP 10 0 (at_M_10 cI cS _ _) rfl h65 dX7_starts_65 ?_
                refine lv_iload_n hx hb dX7_starts_66 rfl (lv_at hl 1 rfl) ?_
                have J87 : ∀ (y2_87 : Int64) (x5_87 : Int32) (z0_87 : Int32) (H : Heap) (locs : List Loc) (ls : Array Slot), va_P D vwCl (pM cI cS a0 u46) H → va_D (AD (pM cI cS a0 t0)) (pM cI cS a0 u46) → va_S (AD (pM cI cS a0 t0)) s.heap H locs → lv_has ls 7 [(0, .ref (a0 0)), (1, .int x1), (2, .long y2_87), (4, .int x4_17), (5, .int x5_87)] → F_X7_starts_J87 x1 (F_X7_starts_L52 x1 x4_17 u46 (fun y2_k52 x5_k52 => F_X7_starts_J129 x1 (F_X7_starts_L17 x1 (fun y2_k17 x4_k17 s0_k17 => F_X7_starts_J135 x1 y2_k17 s0_k17) n_17) (fun y2_k17 x4_k17 s0_k17 => F_X7_starts_J135 x1 y2_k17 s0_k17) y2_k52 x4_17 u46) n_52) (fun y2_k52 x5_k52 => F_X7_starts_J129 x1 (F_X7_starts_L17 x1 (fun y2_k17 x4_k17 s0_k17 => F_X7_starts_J135 x1 y2_k17 s0_k17) n_17) (fun y2_k17 x4_k17 s0_k17 => F_X7_starts_J135 x1 y2_k17 s0_k17) y2_k52 x4_17 u46) y2_87 x4_17 x5_87 u46 z0_87 = some (r, t') → W p l e rm_X7_starts s m [.ref (a0 0), .int x1].toArray below meth c H locs 0 0 (MQ below (va_Ql (fun x (_ : Unit) => x = r) (fun _ t => va_P D vwCl (pM cI cS a0 t') t.heap) (AD (pM cI cS a0 t0))) [.ref (a0 0), .int x1].toArray s 0 0 (AD (pM cI cS a0 t0))) (F0 m 87 ls [.int z0_87]) := by
                  intro y2_87 x5_87 z0_87 H locs ls hP hD hS hl hF
                  unfold F_X7_starts_J87 at hF
                  refine lv_istore (lv' := [(6, .int z0_87), (0, .ref (a0 0)), (1, .int x1), (2, .long y2_87), (4, .int x4_17), (5, .int x5_87)]) hx hb dX7_starts_87 hl (by decide) rfl (fun ls hl => ?_)
                  refine lv_lload_n hx hb dX7_starts_89 rfl (lv_at hl 3 rfl) ?_
                  refine lv_aload_n hx hb dX7_starts_90 rfl (lv_at hl 1 rfl) ?_
                  refine va_get (D := D) (ci := 6) (v := .ref (a0 14)) (C := RX7) (T := TX7) (N := 29) hx hb hts (fun w h => List.mem_cons_of_mem _ (inAX7 w h)) hown hK.1 hP 0 (at_M_0 cI cS _ _) rfl 27 (by decide) (hts _ (List.mem_cons_of_mem _ fl_RX7_49)) (fun _ h9 => h9) rfl dX7_starts_91 ?_
                  refine lv_iload hx hb dX7_starts_94 (lv_at hl 0 rfl) ?_
                  obtain ⟨v96, h96, hF⟩ := bd hF
                  refine rI hx hb hK.1 hP 14 0 (at_M_14 cI cS _ _) rfl h96 dX7_starts_96 ?_
                  refine lv_aload_n hx hb dX7_starts_97 rfl (lv_at hl 1 rfl) ?_
                  refine va_get (D := D) (ci := 6) (v := .ref (a0 12)) (C := RX7) (T := TX7) (N := 29) hx hb hts (fun w h => List.mem_cons_of_mem _ (inAX7 w h)) hown hK.1 hP 0 (at_M_0 cI cS _ _) rfl 25 (by decide) (hts _ (List.mem_cons_of_mem _ fl_RX7_43)) (fun _ h9 => h9) rfl dX7_starts_98 ?_
                  refine lv_iload hx hb dX7_starts_101 (lv_at hl 4 rfl) ?_
                  obtain ⟨v103, h103, hF⟩ := bd hF
                  refine rI hx hb hK.1 hP 12 0 (at_M_12 cI cS _ _) rfl h103 dX7_starts_103 ?_
                  refine lv_icmp_ne (tgt := 113) hx hb dX7_starts_104 (by decide) (fun c104 => ?_) (fun c104 => ?_)
                  · replace hF := iq c104 hF
                    refine lv_lconst (v := 1) hx hb dX7_starts_113 (by decide) ?_
                    refine lv_iload hx hb dX7_starts_114 (lv_at hl 5 rfl) ?_
                    refine lv_lshl (v := (1 <<< (x5_87.toInt64 &&& 63))) hx hb dX7_starts_116 rfl ?_
                    refine lv_ldc2 (own := RX7) (v := (-1)) hx hb hown (hts _ (List.mem_cons_of_mem _ cn_RX7_197)) dX7_starts_117 ?_
                    refine lv_lxor hx hb dX7_starts_120 ?_
                    refine lv_land hx hb dX7_starts_121 ?_
                    refine lv_lstore_n (lv' := [(2, .long (y2_87 &&& ((1 <<< (x5_87.toInt64 &&& 63)) ^^^ (-1)))), (6, .int z0_87), (0, .ref (a0 0)), (1, .int x1), (4, .int x4_17), (5, .int x5_87)]) hx hb dX7_starts_122 rfl hl (by decide) rfl (fun ls hl => ?_)
                    refine lv_iinc (v := (x5_87 + 1)) (lv' := [(5, .int (x5_87 + 1)), (2, .long (y2_87 &&& ((1 <<< (x5_87.toInt64 &&& 63)) ^^^ (-1)))), (6, .int z0_87), (0, .ref (a0 0)), (1, .int x1), (4, .int x4_17)]) hx hb dX7_starts_123 hl (k := 5) rfl rfl (by decide) rfl (fun ls hl => ?_)
                    refine lv_goto (tgt := 52) hx hb dX7_starts_126 (by decide) ?_
                    exact ih52 (y2_87 &&& ((1 <<< (x5_87.toInt64 &&& 63)) ^^^ (-1))) (x5_87 + 1) _ _ _ hP hD hS (lv_sub hl [3, 4, 1, 5, 0] rfl) hF
                  · replace hF := ip c104 hF
                    refine lv_ldc2 (own := RX7) (v := (-1)) hx hb hown (hts _ (List.mem_cons_of_mem _ cn_RX7_197)) dX7_starts_107 ?_
                    refine lv_goto (tgt := 121) hx hb dX7_starts_110 (by decide) ?_
                    refine lv_land hx hb dX7_starts_121 ?_
                    refine lv_lstore_n (lv' := [(2, .long (y2_87 &&& (-1))), (6, .int z0_87), (0, .ref (a0 0)), (1, .int x1), (4, .int x4_17), (5, .int x5_87)]) hx hb dX7_starts_122 rfl hl (by decide) rfl (fun ls hl => ?_)
                    refine lv_iinc (v := (x5_87 + 1)) (lv' := [(5, .int (x5_87 + 1)), (2, .long (y2_87 &&& (-1))), (6, .int z0_87), (0, .ref (a0 0)), (1, .int x1), (4, .int x4_17)]) hx hb dX7_starts_123 hl (k := 5) rfl rfl (by decide) rfl (fun ls hl => ?_)
                    refine lv_goto (tgt := 52) hx hb dX7_starts_126 (by decide) ?_
                    exact ih52 (y2_87 &&& (-1)) (x5_87 + 1) _ _ _ hP hD hS (lv_sub hl [3, 4, 1, 5, 0] rfl) hF
                refine lv_icmp_ne (tgt := 75) hx hb dX7_starts_67 (by decide) (fun c67 => ?_) (fun c67 => ?_)
                · replace hF := iq c67 hF
                  refine lv_aload_n hx hb dX7_starts_75 rfl (lv_at hl 0 rfl) ?_
                  refine va_get (D := D) (ci := 6) (v := .ref (a0 6)) (C := RX7) (T := TX7) (N := 29) hx hb hts (fun w h => List.mem_cons_of_mem _ (inAX7 w h)) hown hK.1 hP 0 (at_M_0 cI cS _ _) rfl 11 (by decide) (hts _ (List.mem_cons_of_mem _ fl_RX7_25)) (fun _ h9 => h9) rfl dX7_starts_76 ?_
                  refine lv_aload_n hx hb dX7_starts_79 rfl (lv_at hl 0 rfl) ?_
                  refine va_get (D := D) (ci := 6) (v := .ref (a0 10)) (C := RX7) (T := TX7) (N := 29) hx hb hts (fun w h => List.mem_cons_of_mem _ (inAX7 w h)) hown hK.1 hP 0 (at_M_0 cI cS _ _) rfl 23 (by decide) (hts _ (List.mem_cons_of_mem _ fl_RX7_37)) (fun _ h9 => h9) rfl dX7_starts_80 ?_
                  refine lv_iload hx hb dX7_starts_83 (lv_at hl 3 rfl) ?_
                  obtain ⟨v85, h85, hF⟩ := bd hF
                  refine rI hx hb hK.1 hP 10 0 (at_M_10 cI cS _ _) rfl h85 dX7_starts_85 ?_
                  obtain ⟨v86, h86, hF⟩ := bd hF
                  refine rI hx hb hK.1 hP 6 0 (at_M_6 cI cS _ _) rfl h86 dX7_starts_86 ?_
                  exact J87 y2_52 x5_52 v86 _ _ _ hP hD hS (lv_sub hl [0, 1, 2, 3, 4] rfl) hF
                · replace hF := ip c67 hF
                  refine lv_iload hx hb dX7_starts_70 (lv_at hl 4 rfl) ?_
                  refine lv_goto (tgt := 87) hx hb dX7_starts_72 (by decide) ?_
                  exact J87 y2_52 x5_52 x5_52 _ _ _ hP hD hS (lv_sub hl [0, 1, 2, 3, 4] rfl) hF
          exact L52 1000 y2_17 0 _ _ _ hP hD hS (lv_sub hl [1, 2, 3, 4, 0] rfl) hF
    exact L17 1000 (-1) 0 t0 _ _ _ hP hD hS (lv_sub hl [2, 3, 1, 0] rfl) hF
  · replace hF := ip c5 hF
    refine lv_lconst (v := 0) hx hb dX7_starts_8 (by decide) ?_
    exact W.lret hx hb hr (fun t ht hW => ⟨⟨_, (), rfl, (Prod.mk.inj (Option.some.inj hF)).1, by show va_P _ _ _ t.heap; rw [ht, ← (Prod.mk.inj (Option.some.inj hF)).2]; exact hP⟩, hS.F ht⟩) hS.2.2 dX7_starts_9
noncomputable def F_X7_inLeastTerms_L6 (y0 : Int64) (y2 : Int64) (x4 : Int32) (k : Int64 → Int64 → Option Int64) : Nat → Int64 → Int64 → Option Int64
  | 0, _, _ => none
  | n + 1, y5, y7 =>
    if (lg_cmp y7 0) = 0 then
      k y5 y7
    else
    (nzl y7).bind fun _ =>
    (F_X7_inLeastTerms_L6 y0 y2 x4 k n) y7 (y5 - y5 / y7 * y7)
noncomputable def F_X7_inLeastTerms_J31 (y0 : Int64) (y2 : Int64) (x4 : Int32) (y5 : Int64) : Option Int64 :=
  if x4 = 0 then
    (nzl y5).bind fun _ =>
    some (y0 / y5)
  else
  (nzl y5).bind fun _ =>
  some (y2 / y5)
noncomputable def F_X7_inLeastTerms (y0 : Int64) (y2 : Int64) (x4 : Int32) : Option Int64 :=
  F_X7_inLeastTerms_L6 y0 y2 x4 (fun y5_k6 y7_k6 => F_X7_inLeastTerms_J31 y0 y2 x4 y5_k6) 1000 y0 y2
abbrev rm_X7_inLeastTerms : Room := { frames := 0, cells := 0, slots := 0, locals := 0 }
set_option maxHeartbeats 4000000 in
set_option maxRecDepth 100000 in
theorem c_X7_inLeastTerms (l : Launch) (D : va_G) (cI cS : ClassId) (y0 : Int64) (y2 : Int64) (x4 : Int32) (r : Int64) (hF : F_X7_inLeastTerms y0 y2 x4 = some r) : Met l yX7_inLeastTerms (Cond.code yX7_inLeastTerms cX7_inLeastTerms 11 (some .long) :: ALL) rm_X7_inLeastTerms (PreR D cI cS [.long y0, .long y2, .int x4] ([])) (vp_Sl (fun x => x = r)) 0 0 (fun _ => False) := by
  refine mR l D cI cS (by decide) (Nat.le_of_ble_eq_true rfl) ?_
  intro p e s m below meth c ls hx hb hr hml hown hts hlocks hP hK hl
  have hown : s.vm.findClass RX7 = some m.cls := hown
  have hl : lv_has ls 11 [(0, .long y0), (2, .long y2), (4, .int x4)] := hl
  unfold F_X7_inLeastTerms at hF
  refine lv_lload_n hx hb dX7_inLeastTerms_0 rfl (lv_at hl 0 rfl) ?_
  refine lv_lstore (lv' := [(5, .long y0), (0, .long y0), (2, .long y2), (4, .int x4)]) hx hb dX7_inLeastTerms_1 hl (by decide) rfl (fun ls hl => ?_)
  refine lv_lload_n hx hb dX7_inLeastTerms_3 rfl (lv_at hl 2 rfl) ?_
  refine lv_lstore (lv' := [(7, .long y2), (5, .long y0), (0, .long y0), (2, .long y2), (4, .int x4)]) hx hb dX7_inLeastTerms_4 hl (by decide) rfl (fun ls hl => ?_)
  have L6 : ∀ (n_6 : Nat) (y5_6 : Int64) (y7_6 : Int64) (ls : Array Slot), lv_has ls 11 [(0, .long y0), (2, .long y2), (4, .int x4), (5, .long y5_6), (7, .long y7_6)] → F_X7_inLeastTerms_L6 y0 y2 x4 (fun y5_k6 y7_k6 => F_X7_inLeastTerms_J31 y0 y2 x4 y5_k6) n_6 y5_6 y7_6 = some r → W p l e rm_X7_inLeastTerms s m [.long y0, .long y2, .int x4].toArray below meth c s.heap [] 0 0 (MQ below (vp_Sl (fun x => x = r)) [.long y0, .long y2, .int x4].toArray s 0 0 (fun _ => False)) (F0 m 6 ls []) := by
    intro n_6
    induction n_6 with
    | zero => intro y5_6 y7_6 ls hl hF; exact nomatch hF
    | succ n_6 ih6 =>
      intro y5_6 y7_6 ls hl hF
      rw [F_X7_inLeastTerms_L6.eq_2] at hF
      refine lv_lload hx hb dX7_inLeastTerms_6 (lv_at hl 4 rfl) ?_
      refine lv_lconst (v := 0) hx hb dX7_inLeastTerms_8 (by decide) ?_
      refine W.lcmp hx hb dX7_inLeastTerms_9 ?_
      refine lv_if_eq (tgt := 31) hx hb dX7_inLeastTerms_10 (by decide) (fun c10 => ?_) (fun c10 => ?_)
      · replace hF := ip c10 hF
        have hF : F_X7_inLeastTerms_J31 y0 y2 x4 y5_6 = some r := hF
        unfold F_X7_inLeastTerms_J31 at hF
        refine lv_iload hx hb dX7_inLeastTerms_31 (lv_at hl 2 rfl) ?_
        refine lv_if_ne (tgt := 43) hx hb dX7_inLeastTerms_33 (by decide) (fun c33 => ?_) (fun c33 => ?_)
        · replace hF := iq c33 hF
          refine lv_lload_n hx hb dX7_inLeastTerms_43 rfl (lv_at hl 1 rfl) ?_
          refine lv_lload hx hb dX7_inLeastTerms_44 (lv_at hl 3 rfl) ?_
          obtain ⟨_, h46, hF⟩ := bd hF
          refine lv_ldiv hx hb dX7_inLeastTerms_46 (nzl_some h46) ?_
          exact W.lret hx hb hr (fun t ht hW => ⟨_, rfl, (Option.some.inj hF), ht⟩) (fun _ h => nomatch h) dX7_inLeastTerms_47
        · replace hF := ip c33 hF
          refine lv_lload_n hx hb dX7_inLeastTerms_36 rfl (lv_at hl 0 rfl) ?_
          refine lv_lload hx hb dX7_inLeastTerms_37 (lv_at hl 3 rfl) ?_
          obtain ⟨_, h39, hF⟩ := bd hF
          refine lv_ldiv hx hb dX7_inLeastTerms_39 (nzl_some h39) ?_
          refine lv_goto (tgt := 47) hx hb dX7_inLeastTerms_40 (by decide) ?_
          exact W.lret hx hb hr (fun t ht hW => ⟨_, rfl, (Option.some.inj hF), ht⟩) (fun _ h => nomatch h) dX7_inLeastTerms_47
      · replace hF := iq c10 hF
        refine lv_lload hx hb dX7_inLeastTerms_13 (lv_at hl 3 rfl) ?_
        refine lv_lload hx hb dX7_inLeastTerms_15 (lv_at hl 4 rfl) ?_
        obtain ⟨_, h17, hF⟩ := bd hF
        refine lv_lrem hx hb dX7_inLeastTerms_17 (nzl_some h17) ?_
        refine lv_lstore (lv' := [(9, .long (y5_6 - y5_6 / y7_6 * y7_6)), (0, .long y0), (2, .long y2), (4, .int x4), (5, .long y5_6), (7, .long y7_6)]) hx hb dX7_inLeastTerms_18 hl (by decide) rfl (fun ls hl => ?_)
        refine lv_lload hx hb dX7_inLeastTerms_20 (lv_at hl 5 rfl) ?_
        refine lv_lstore (lv' := [(5, .long y7_6), (9, .long (y5_6 - y5_6 / y7_6 * y7_6)), (0, .long y0), (2, .long y2), (4, .int x4), (7, .long y7_6)]) hx hb dX7_inLeastTerms_22 hl (by decide) rfl (fun ls hl => ?_)
        refine lv_lload hx hb dX7_inLeastTerms_24 (lv_at hl 1 rfl) ?_
        refine lv_lstore (lv' := [(7, .long (y5_6 - y5_6 / y7_6 * y7_6)), (5, .long y7_6), (9, .long (y5_6 - y5_6 / y7_6 * y7_6)), (0, .long y0), (2, .long y2), (4, .int x4)]) hx hb dX7_inLeastTerms_26 hl (by decide) rfl (fun ls hl => ?_)
        refine lv_goto (tgt := 6) hx hb dX7_inLeastTerms_28 (by decide) ?_
        exact ih6 y7_6 (y5_6 - y5_6 / y7_6 * y7_6) _ (lv_sub hl [3, 4, 5, 1, 0] rfl) hF
  exact L6 1000 y0 y2 _ (lv_sub hl [2, 3, 4, 1, 0] rfl) hF
noncomputable def F_X7_odds_L56 (x1 : Int32) (x2 : Int32) (x3 : Int32) (x4 : Int32) (s0 : ST) (k : Int32 → Int32 → Option (Int64 × ST)) : Nat → Int32 → Int32 → Option (Int64 × ST)
  | 0, _, _ => none
  | n + 1, x5, x6 =>
    if 64 ≤ x6 then
      k x5 x6
    else
    (rd 64 (s0 14) x6).bind fun v71 =>
    if v71 = x3 then
      (F_X7_odds_L56 x1 x2 x3 x4 s0 k n) (x5 + 1) (x6 + 1)
    else
    (F_X7_odds_L56 x1 x2 x3 x4 s0 k n) (x5 + 0) (x6 + 1)
noncomputable def F_X7_odds_J90 (x1 : Int32) (x2 : Int32) (x3 : Int32) (x4 : Int32) (x5 : Int32) (s0 : ST) : Option (Int64 × ST) :=
  (F_X7_inLeastTerms x5.toInt64 64 x4).bind fun v98 =>
  some (v98, s0)
noncomputable def F_X7_odds (t0 : ST) (x1 : Int32) (x2 : Int32) (x3 : Int32) (x4 : Int32) : Option (Int64 × ST) :=
  (F_X7_isBlock t0 x1).bind fun v2 =>
  if v2 = 0 then
    some ((-9223372036854775808), t0)
  else
  (F_X7_within x2 0 99).bind fun v12 =>
  if v12 = 0 then
    some ((-9223372036854775808), t0)
  else
  (F_X7_isShape x3).bind fun v19 =>
  if v19 = 0 then
    some ((-9223372036854775808), t0)
  else
  (F_X7_within x4 0 1).bind fun v29 =>
  if v29 = 0 then
    some ((-9223372036854775808), t0)
  else
  (F_X7_goesOf t0 x1).bind fun v43 =>
  (F_X7_findFar t0 (x2 * v43)).bind fun u47 =>
  F_X7_odds_L56 x1 x2 x3 x4 u47 (fun x5_k56 x6_k56 => F_X7_odds_J90 x1 x2 x3 x4 x5_k56 u47) 1000 0 0
abbrev rm_X7_odds : Room := { frames := 2, cells := 0, slots := 0, locals := 44 }
set_option maxHeartbeats 4000000 in
set_option maxRecDepth 100000 in
theorem c_X7_odds (l : Launch) (D : va_G) (cI cS : ClassId) (a0 : Nat → Nat) (t0 : ST) (x1 : Int32) (x2 : Int32) (x3 : Int32) (x4 : Int32) (r : Int64) (t' : ST) (hF : F_X7_odds t0 x1 x2 x3 x4 = some (r, t')) : Met l yX7_odds (Cond.code yX7_odds cX7_odds 7 (some .long) :: ALL) rm_X7_odds (PreW D cI cS [.ref (a0 0), .int x1, .int x2, .int x3, .int x4] (pM cI cS a0 t0)) (va_Ql (fun x (_ : Unit) => x = r) (fun _ t => va_P D vwCl (pM cI cS a0 t') t.heap) (AD (pM cI cS a0 t0))) 0 0 (AD (pM cI cS a0 t0)) := by
  refine mW l D cI cS (by decide) (Nat.le_of_ble_eq_true rfl) ?_
  intro p e s m below meth c ls hx hb hr hml hown hts hlocks hP hK hD hS hl
  have hown : s.vm.findClass RX7 = some m.cls := hown
  have hl : lv_has ls 7 [(0, .ref (a0 0)), (1, .int x1), (2, .int x2), (3, .int x3), (4, .int x4)] := hl
  unfold F_X7_odds at hF
  refine lv_aload_n hx hb dX7_odds_0 rfl (lv_at hl 0 rfl) ?_
  refine lv_iload_n hx hb dX7_odds_1 rfl (lv_at hl 1 rfl) ?_
  obtain ⟨v2, h2, hF⟩ := bd hF
  refine cRb (va_runV (As := [.int x1]) (rest := []) ⟨hx, hb, hml, hown, hts⟩ (c_X7_isBlock l D cI cS a0 t0 x1 v2 h2) (cwVA hts (TW.cons _) lv_X7_isBlock ml_RX7_132 ⟨rfl, rfl⟩ ⟨(Nat.le_of_ble_eq_true rfl), (Nat.le_of_ble_eq_true rfl)⟩) (pRV hK hP (ci := 6) rfl rfl) rfl rfl hl.1 rfl (lv_room (Nat.le_of_ble_eq_true rfl)) dX7_odds_2 ⟨Nat.le_refl _, Nat.le_refl _⟩) (fun b2 => ?_)
  refine lv_if_eq (tgt := 35) hx hb dX7_odds_5 (by decide) (fun c5 => ?_) (fun c5 => ?_)
  · replace hF := ip c5 hF
    refine lv_ldc2 (own := RX7) (v := (-9223372036854775808)) hx hb hown (hts _ (List.mem_cons_of_mem _ cn_RX7_59)) dX7_odds_35 ?_
    exact W.lret hx hb hr (fun t ht hW => ⟨⟨_, (), rfl, (Prod.mk.inj (Option.some.inj hF)).1, by show va_P _ _ _ t.heap; rw [ht, ← (Prod.mk.inj (Option.some.inj hF)).2]; exact hP⟩, hS.F ht⟩) hS.2.2 dX7_odds_38
  · replace hF := iq c5 hF
    refine lv_iload_n hx hb dX7_odds_8 rfl (lv_at hl 2 rfl) ?_
    refine lv_iconst (v := 0) hx hb dX7_odds_9 (by decide) ?_
    refine lv_bipush (v := 99) hx hb dX7_odds_10 (by decide) ?_
    obtain ⟨v12, h12, hF⟩ := bd hF
    refine cRb (va_runS (As := [.int x2, .int 0, .int 99]) (rest := []) ⟨hx, hb, hml, hown, hts⟩ (c_X7_within l D cI cS x2 0 99 v12 h12) (cwSA hts (TW.cons _) ls_X7_within ml_RX7_61 ⟨rfl, rfl⟩ ⟨(Nat.le_of_ble_eq_true rfl), (Nat.le_of_ble_eq_true rfl)⟩) (pRS hK pnil) rfl rfl hl.1 rfl (lv_room (Nat.le_of_ble_eq_true rfl)) dX7_odds_12 ⟨Nat.le_refl _, Nat.le_refl _⟩) (fun b12 => ?_)
    refine lv_if_eq (tgt := 35) hx hb dX7_odds_15 (by decide) (fun c15 => ?_) (fun c15 => ?_)
    · replace hF := ip c15 hF
      refine lv_ldc2 (own := RX7) (v := (-9223372036854775808)) hx hb hown (hts _ (List.mem_cons_of_mem _ cn_RX7_59)) dX7_odds_35 ?_
      exact W.lret hx hb hr (fun t ht hW => ⟨⟨_, (), rfl, (Prod.mk.inj (Option.some.inj hF)).1, by show va_P _ _ _ t.heap; rw [ht, ← (Prod.mk.inj (Option.some.inj hF)).2]; exact hP⟩, hS.F ht⟩) hS.2.2 dX7_odds_38
    · replace hF := iq c15 hF
      refine lv_iload_n hx hb dX7_odds_18 rfl (lv_at hl 3 rfl) ?_
      obtain ⟨v19, h19, hF⟩ := bd hF
      refine cRb (va_runS (As := [.int x3]) (rest := []) ⟨hx, hb, hml, hown, hts⟩ (c_X7_isShape l D cI cS x3 v19 h19) (cwSA hts (TW.cons _) ls_X7_isShape ml_RX7_141 ⟨rfl, rfl⟩ ⟨(Nat.le_of_ble_eq_true rfl), (Nat.le_of_ble_eq_true rfl)⟩) (pRS hK pnil) rfl rfl hl.1 rfl (lv_room (Nat.le_of_ble_eq_true rfl)) dX7_odds_19 ⟨Nat.le_refl _, Nat.le_refl _⟩) (fun b19 => ?_)
      refine lv_if_eq (tgt := 35) hx hb dX7_odds_22 (by decide) (fun c22 => ?_) (fun c22 => ?_)
      · replace hF := ip c22 hF
        refine lv_ldc2 (own := RX7) (v := (-9223372036854775808)) hx hb hown (hts _ (List.mem_cons_of_mem _ cn_RX7_59)) dX7_odds_35 ?_
        exact W.lret hx hb hr (fun t ht hW => ⟨⟨_, (), rfl, (Prod.mk.inj (Option.some.inj hF)).1, by show va_P _ _ _ t.heap; rw [ht, ← (Prod.mk.inj (Option.some.inj hF)).2]; exact hP⟩, hS.F ht⟩) hS.2.2 dX7_odds_38
      · replace hF := iq c22 hF
        refine lv_iload hx hb dX7_odds_25 (lv_at hl 4 rfl) ?_
        refine lv_iconst (v := 0) hx hb dX7_odds_27 (by decide) ?_
        refine lv_iconst (v := 1) hx hb dX7_odds_28 (by decide) ?_
        obtain ⟨v29, h29, hF⟩ := bd hF
        refine cRb (va_runS (As := [.int x4, .int 0, .int 1]) (rest := []) ⟨hx, hb, hml, hown, hts⟩ (c_X7_within l D cI cS x4 0 1 v29 h29) (cwSA hts (TW.cons _) ls_X7_within ml_RX7_61 ⟨rfl, rfl⟩ ⟨(Nat.le_of_ble_eq_true rfl), (Nat.le_of_ble_eq_true rfl)⟩) (pRS hK pnil) rfl rfl hl.1 rfl (lv_room (Nat.le_of_ble_eq_true rfl)) dX7_odds_29 ⟨Nat.le_refl _, Nat.le_refl _⟩) (fun b29 => ?_)
        refine lv_if_ne (tgt := 39) hx hb dX7_odds_32 (by decide) (fun c32 => ?_) (fun c32 => ?_)
        · replace hF := iq c32 hF
          refine lv_aload_n hx hb dX7_odds_39 rfl (lv_at hl 0 rfl) ?_
          refine lv_iload_n hx hb dX7_odds_40 rfl (lv_at hl 2 rfl) ?_
          refine lv_aload_n hx hb dX7_odds_41 rfl (lv_at hl 0 rfl) ?_
          refine lv_iload_n hx hb dX7_odds_42 rfl (lv_at hl 1 rfl) ?_
          obtain ⟨v43, h43, hF⟩ := bd hF
          refine cRe (va_runV (As := [.int x1]) (rest := [.int x2, .ref (a0 0)]) ⟨hx, hb, hml, hown, hts⟩ (c_X7_goesOf l D cI cS a0 t0 x1 v43 h43) (cwVA hts (TW.cons _) lv_X7_goesOf ml_RX7_135 ⟨rfl, rfl⟩ ⟨(Nat.le_of_ble_eq_true rfl), (Nat.le_of_ble_eq_true rfl)⟩) (pRV hK hP (ci := 6) rfl rfl) rfl rfl hl.1 rfl (lv_room (Nat.le_of_ble_eq_true rfl)) dX7_odds_43 ⟨Nat.le_refl _, Nat.le_refl _⟩) ?_
          refine lv_imul hx hb dX7_odds_46 ?_
          obtain ⟨u47, h47, hF⟩ := bd hF
          refine cAv (ws' := pM cI cS a0 u47) (va_runV (As := [.int (x2 * v43)]) (rest := []) ⟨hx, hb, hml, hown, hts⟩ (c_X7_findFar l D cI cS a0 t0 (x2 * v43) u47 h47) (cwVA hts (TW.cons _) lv_X7_findFar ml_RX7_199 ⟨rfl, rfl⟩ ⟨(Nat.le_of_ble_eq_true rfl), (Nat.le_of_ble_eq_true rfl)⟩) (pWV hK hP hD (ci := 6) rfl rfl) rfl rfl hl.1 rfl (lv_room (Nat.le_of_ble_eq_true rfl)) dX7_odds_47 ⟨Nat.le_refl _, Nat.le_refl _⟩) hD hS (ad_M cI cS _ _ _) (fun H locs hP hD hS => ?_)
          refine lv_iconst (v := 0) hx hb dX7_odds_50 (by decide) ?_
          refine lv_istore (lv' := [(5, .int 0), (0, .ref (a0 0)), (1, .int x1), (2, .int x2), (3, .int x3), (4, .int x4)]) hx hb dX7_odds_51 hl (by decide) rfl (fun ls hl => ?_)
          refine lv_iconst (v := 0) hx hb dX7_odds_53 (by decide) ?_
          refine lv_istore (lv' := [(6, .int 0), (5, .int 0), (0, .ref (a0 0)), (1, .int x1), (2, .int x2), (3, .int x3), (4, .int x4)]) hx hb dX7_odds_54 hl (by decide) rfl (fun ls hl => ?_)
          have L56 : ∀ (n_56 : Nat) (x5_56 : Int32) (x6_56 : Int32) (H : Heap) (locs : List Loc) (ls : Array Slot), va_P D vwCl (pM cI cS a0 u47) H → va_D (AD (pM cI cS a0 t0)) (pM cI cS a0 u47) → va_S (AD (pM cI cS a0 t0)) s.heap H locs → lv_has ls 7 [(0, .ref (a0 0)), (3, .int x3), (4, .int x4), (5, .int x5_56), (6, .int x6_56)] → F_X7_odds_L56 x1 x2 x3 x4 u47 (fun x5_k56 x6_k56 => F_X7_odds_J90 x1 x2 x3 x4 x5_k56 u47) n_56 x5_56 x6_56 = some (r, t') → W p l e rm_X7_odds s m [.ref (a0 0), .int x1, .int x2, .int x3, .int x4].toArray below meth c H locs 0 0 (MQ below (va_Ql (fun x (_ : Unit) => x = r) (fun _ t => va_P D vwCl (pM cI cS a0 t') t.heap) (AD (pM cI cS a0 t0))) [.ref (a0 0), .int x1, .int x2, .int x3, .int x4].toArray s 0 0 (AD (pM cI cS a0 t0))) (F0 m 56 ls []) := by
            intro n_56
            induction n_56 with
            | zero => intro x5_56 x6_56 H locs ls hP hD hS hl hF; exact nomatch hF
            | succ n_56 ih56 =>
              intro x5_56 x6_56 H locs ls hP hD hS hl hF
              rw [F_X7_odds_L56.eq_2] at hF
              refine lv_iload hx hb dX7_odds_56 (lv_at hl 4 rfl) ?_
              refine lv_bipush (v := 64) hx hb dX7_odds_58 (by decide) ?_
              refine lv_icmp_ge (tgt := 90) hx hb dX7_odds_60 (by decide) (fun c60 => ?_) (fun c60 => ?_)
              · replace hF := ip c60 hF
                have hF : F_X7_odds_J90 x1 x2 x3 x4 x5_56 u47 = some (r, t') := hF
                unfold F_X7_odds_J90 at hF
                refine lv_iload hx hb dX7_odds_90 (lv_at hl 3 rfl) ?_
                refine lv_i2l (v := x5_56.toInt64) hx hb dX7_odds_92 rfl ?_
                refine lv_ldc2 (own := RX7) (v := 64) hx hb hown (hts _ (List.mem_cons_of_mem _ cn_RX7_202)) dX7_odds_93 ?_
                refine lv_iload hx hb dX7_odds_96 (lv_at hl 2 rfl) ?_
                obtain ⟨v98, h98, hF⟩ := bd hF
                refine cRl (va_runS (As := [.long x5_56.toInt64, .long 64, .int x4]) (rest := []) ⟨hx, hb, hml, hown, hts⟩ (c_X7_inLeastTerms l D cI cS x5_56.toInt64 64 x4 v98 h98) (cwSA hts (TW.cons _) ls_X7_inLeastTerms ml_RX7_204 ⟨rfl, rfl⟩ ⟨(Nat.le_of_ble_eq_true rfl), (Nat.le_of_ble_eq_true rfl)⟩) (pRS hK pnil) rfl rfl hl.1 rfl (lv_room (Nat.le_of_ble_eq_true rfl)) dX7_odds_98 ⟨Nat.le_refl _, Nat.le_refl _⟩) ?_
                exact W.lret hx hb hr (fun t ht hW => ⟨⟨_, (), rfl, (Prod.mk.inj (Option.some.inj hF)).1, by show va_P _ _ _ t.heap; rw [ht, ← (Prod.mk.inj (Option.some.inj hF)).2]; exact hP⟩, hS.F ht⟩) hS.2.2 dX7_odds_101
              · replace hF := iq c60 hF
                refine lv_iload hx hb dX7_odds_63 (lv_at hl 3 rfl) ?_
                refine lv_aload_n hx hb dX7_odds_65 rfl (lv_at hl 0 rfl) ?_
                refine va_get (D := D) (ci := 6) (v := .ref (a0 14)) (C := RX7) (T := TX7) (N := 29) hx hb hts (fun w h => List.mem_cons_of_mem _ (inAX7 w h)) hown hK.1 hP 0 (at_M_0 cI cS _ _) rfl 27 (by decide) (hts _ (List.mem_cons_of_mem _ fl_RX7_49)) (fun _ h9 => h9) rfl dX7_odds_66 ?_
                refine lv_iload hx hb dX7_odds_69 (lv_at hl 4 rfl) ?_
                obtain ⟨v71, h71, hF⟩ := bd hF
                refine rI hx hb hK.1 hP 14 0 (at_M_14 cI cS _ _) rfl h71 dX7_odds_71 ?_
                refine lv_iload_n hx hb dX7_odds_72 rfl (lv_at hl 1 rfl) ?_
                refine lv_icmp_ne (tgt := 80) hx hb dX7_odds_73 (by decide) (fun c73 => ?_) (fun c73 => ?_)
                · replace hF := iq c73 hF
                  refine lv_iconst (v := 0) hx hb dX7_odds_80 (by decide) ?_
                  refine lv_iadd hx hb dX7_odds_81 ?_
                  refine lv_istore (lv' := [(5, .int (x5_56 + 0)), (0, .ref (a0 0)), (3, .int x3), (4, .int x4), (6, .int x6_56)]) hx hb dX7_odds_82 hl (by decide) rfl (fun ls hl => ?_)
                  refine lv_iinc (v := (x6_56 + 1)) (lv' := [(6, .int (x6_56 + 1)), (5, .int (x5_56 + 0)), (0, .ref (a0 0)), (3, .int x3), (4, .int x4)]) hx hb dX7_odds_84 hl (k := 4) rfl rfl (by decide) rfl (fun ls hl => ?_)
                  refine lv_goto (tgt := 56) hx hb dX7_odds_87 (by decide) ?_
                  exact ih56 (x5_56 + 0) (x6_56 + 1) _ _ _ hP hD hS (lv_sub hl [2, 3, 4, 1, 0] rfl) hF
                · replace hF := ip c73 hF
                  refine lv_iconst (v := 1) hx hb dX7_odds_76 (by decide) ?_
                  refine lv_goto (tgt := 81) hx hb dX7_odds_77 (by decide) ?_
                  refine lv_iadd hx hb dX7_odds_81 ?_
                  refine lv_istore (lv' := [(5, .int (x5_56 + 1)), (0, .ref (a0 0)), (3, .int x3), (4, .int x4), (6, .int x6_56)]) hx hb dX7_odds_82 hl (by decide) rfl (fun ls hl => ?_)
                  refine lv_iinc (v := (x6_56 + 1)) (lv' := [(6, .int (x6_56 + 1)), (5, .int (x5_56 + 1)), (0, .ref (a0 0)), (3, .int x3), (4, .int x4)]) hx hb dX7_odds_84 hl (k := 4) rfl rfl (by decide) rfl (fun ls hl => ?_)
                  refine lv_goto (tgt := 56) hx hb dX7_odds_87 (by decide) ?_
                  exact ih56 (x5_56 + 1) (x6_56 + 1) _ _ _ hP hD hS (lv_sub hl [2, 3, 4, 1, 0] rfl) hF
          exact L56 1000 0 0 _ _ _ hP hD hS (lv_sub hl [2, 5, 6, 1, 0] rfl) hF
        · replace hF := ip c32 hF
          refine lv_ldc2 (own := RX7) (v := (-9223372036854775808)) hx hb hown (hts _ (List.mem_cons_of_mem _ cn_RX7_59)) dX7_odds_35 ?_
          exact W.lret hx hb hr (fun t ht hW => ⟨⟨_, (), rfl, (Prod.mk.inj (Option.some.inj hF)).1, by show va_P _ _ _ t.heap; rw [ht, ← (Prod.mk.inj (Option.some.inj hF)).2]; exact hP⟩, hS.F ht⟩) hS.2.2 dX7_odds_38
noncomputable def F_X7_sheet_L57 (x1 : Int32) (x2 : Int32) (x3 : Int32) (k : Int32 → ST → Option (Int32 × ST)) : Nat → Int32 → ST → Option (Int32 × ST)
  | 0, _, _ => none
  | n + 1, x4, s0 =>
    if 60 ≤ x4 then
      k x4 s0
    else
    (ix 240 ((60 * x1) + x4)).bind fun k76 =>
    (F_X7_sheet_L57 x1 x2 x3 k n) (x4 + 1) (st s0 3 k76 0)
noncomputable def F_X7_sheet_J83 (x1 : Int32) (x2 : Int32) (x3 : Int32) (s0 : ST) : Option (Int32 × ST) :=
  some (1, s0)
noncomputable def F_X7_sheet (t0 : ST) (x1 : Int32) (x2 : Int32) (x3 : Int32) : Option (Int32 × ST) :=
  (F_X7_isSheet x1).bind fun v6 =>
  if v6 = 0 then
    some ((-1), (st t0 0 0 0))
  else
  (F_X7_isSort x2).bind fun v15 =>
  if v15 = 0 then
    some ((-2), (st t0 0 0 0))
  else
  if x3 ≤ 60 then
    if 0 ≤ x3 then
      (ix 4 x1).bind fun k46 =>
      (ix 4 x1).bind fun k53 =>
      F_X7_sheet_L57 x1 x2 x3 (fun x4_k57 s0_k57 => F_X7_sheet_J83 x1 x2 x3 s0_k57) 1000 0 (st (st (st t0 0 0 0) 1 k46 x2) 2 k53 x3)
    else
    b2 (F_X7_fails (st t0 0 0 0) 4) fun v36 u36 =>
    some (v36, u36)
  else
  some ((-2), (st t0 0 0 0))
abbrev rm_X7_sheet : Room := { frames := 2, cells := 0, slots := 0, locals := 42 }
set_option maxHeartbeats 4000000 in
set_option maxRecDepth 100000 in
theorem c_X7_sheet (l : Launch) (D : va_G) (cI cS : ClassId) (a0 : Nat → Nat) (t0 : ST) (x1 : Int32) (x2 : Int32) (x3 : Int32) (r : Int32) (t' : ST) (hF : F_X7_sheet t0 x1 x2 x3 = some (r, t')) : Met l yX7_sheet (Cond.code yX7_sheet cX7_sheet 5 (some .int) :: ALL) rm_X7_sheet (PreW D cI cS [.ref (a0 0), .int x1, .int x2, .int x3] (pM cI cS a0 t0)) (va_Qi (fun x (_ : Unit) => x = r) (fun _ t => va_P D vwCl (pM cI cS a0 t') t.heap) (AD (pM cI cS a0 t0))) 0 0 (AD (pM cI cS a0 t0)) := by
  refine mW l D cI cS (by decide) (Nat.le_of_ble_eq_true rfl) ?_
  intro p e s m below meth c ls hx hb hr hml hown hts hlocks hP hK hD hS hl
  have hown : s.vm.findClass RX7 = some m.cls := hown
  have hl : lv_has ls 5 [(0, .ref (a0 0)), (1, .int x1), (2, .int x2), (3, .int x3)] := hl
  unfold F_X7_sheet at hF
  refine lv_aload_n hx hb dX7_sheet_0 rfl (lv_at hl 0 rfl) ?_
  refine lv_iconst (v := 0) hx hb dX7_sheet_1 (by decide) ?_
  refine wF (ws' := pM cI cS a0 (st t0 0 0 0)) (C := RX7) (T := TX7) (N := 29) hx hb hts (fun w h => List.mem_cons_of_mem _ (inAX7 w h)) tyX7 tyX7_ok nmX7 hown hK.1 hP hD hS 0 (at_M_0 cI cS _ _) rfl 0 (by decide) (hts _ (List.mem_cons_of_mem _ fl_RX7_55)) rfl (tyX7_ok 0 (by decide)) rfl rfl (Nat.le_of_ble_eq_true rfl) (sf_M_0_0 cI cS _ _ _) dX7_sheet_2 (fun H locs hP hD hS => ?_)
  refine lv_iload_n hx hb dX7_sheet_5 rfl (lv_at hl 1 rfl) ?_
  obtain ⟨v6, h6, hF⟩ := bd hF
  refine cRb (va_runS (As := [.int x1]) (rest := []) ⟨hx, hb, hml, hown, hts⟩ (c_X7_isSheet l D cI cS x1 v6 h6) (cwSA hts (TW.cons _) ls_X7_isSheet ml_RX7_71 ⟨rfl, rfl⟩ ⟨(Nat.le_of_ble_eq_true rfl), (Nat.le_of_ble_eq_true rfl)⟩) (pRS hK pnil) rfl rfl hl.1 rfl (lv_room (Nat.le_of_ble_eq_true rfl)) dX7_sheet_6 ⟨Nat.le_refl _, Nat.le_refl _⟩) (fun b6 => ?_)
  refine lv_if_ne (tgt := 14) hx hb dX7_sheet_9 (by decide) (fun c9 => ?_) (fun c9 => ?_)
  · replace hF := iq c9 hF
    refine lv_iload_n hx hb dX7_sheet_14 rfl (lv_at hl 2 rfl) ?_
    obtain ⟨v15, h15, hF⟩ := bd hF
    refine cRb (va_runS (As := [.int x2]) (rest := []) ⟨hx, hb, hml, hown, hts⟩ (c_X7_isSort l D cI cS x2 v15 h15) (cwSA hts (TW.cons _) ls_X7_isSort ml_RX7_75 ⟨rfl, rfl⟩ ⟨(Nat.le_of_ble_eq_true rfl), (Nat.le_of_ble_eq_true rfl)⟩) (pRS hK pnil) rfl rfl hl.1 rfl (lv_room (Nat.le_of_ble_eq_true rfl)) dX7_sheet_15 ⟨Nat.le_refl _, Nat.le_refl _⟩) (fun b15 => ?_)
    refine lv_if_eq (tgt := 27) hx hb dX7_sheet_18 (by decide) (fun c18 => ?_) (fun c18 => ?_)
    · replace hF := ip c18 hF
      refine lv_bipush (v := (-2)) hx hb dX7_sheet_27 (by decide) ?_
      exact W.iret hx hb hr (fun t ht hW => ⟨⟨_, (), rfl, (Prod.mk.inj (Option.some.inj hF)).1, by show va_P _ _ _ t.heap; rw [ht, ← (Prod.mk.inj (Option.some.inj hF)).2]; exact hP⟩, hS.F ht⟩) hS.2.2 dX7_sheet_29
    · replace hF := iq c18 hF
      refine lv_iload_n hx hb dX7_sheet_21 rfl (lv_at hl 3 rfl) ?_
      refine lv_bipush (v := 60) hx hb dX7_sheet_22 (by decide) ?_
      refine lv_icmp_le (tgt := 30) hx hb dX7_sheet_24 (by decide) (fun c24 => ?_) (fun c24 => ?_)
      · replace hF := ip c24 hF
        refine lv_iload_n hx hb dX7_sheet_30 rfl (lv_at hl 3 rfl) ?_
        refine lv_if_ge (tgt := 40) hx hb dX7_sheet_31 (by decide) (fun c31 => ?_) (fun c31 => ?_)
        · replace hF := ip c31 hF
          refine lv_aload_n hx hb dX7_sheet_40 rfl (lv_at hl 0 rfl) ?_
          refine va_get (D := D) (ci := 6) (v := .ref (a0 1)) (C := RX7) (T := TX7) (N := 29) hx hb hts (fun w h => List.mem_cons_of_mem _ (inAX7 w h)) hown hK.1 hP 0 (at_M_0 cI cS _ _) rfl 2 (by decide) (hts _ (List.mem_cons_of_mem _ fl_RX7_9)) (fun _ h9 => h9) rfl dX7_sheet_41 ?_
          refine lv_iload_n hx hb dX7_sheet_44 rfl (lv_at hl 1 rfl) ?_
          refine lv_iload_n hx hb dX7_sheet_45 rfl (lv_at hl 2 rfl) ?_
          obtain ⟨k46, h46, hF⟩ := bd hF
          refine wI (ws' := pM cI cS a0 (st (st t0 0 0 0) 1 k46 x2)) hx hb hK.1 hP hD hS 1 0 (at_M_1 cI cS _ _) rfl h46 (sw_M_1 cI cS _ _ _ _) dX7_sheet_46 (fun H locs hP hD hS => ?_)
          refine lv_aload_n hx hb dX7_sheet_47 rfl (lv_at hl 0 rfl) ?_
          refine va_get (D := D) (ci := 6) (v := .ref (a0 2)) (C := RX7) (T := TX7) (N := 29) hx hb hts (fun w h => List.mem_cons_of_mem _ (inAX7 w h)) hown hK.1 hP 0 (at_M_0 cI cS _ _) rfl 3 (by decide) (hts _ (List.mem_cons_of_mem _ fl_RX7_13)) (fun _ h9 => h9) rfl dX7_sheet_48 ?_
          refine lv_iload_n hx hb dX7_sheet_51 rfl (lv_at hl 1 rfl) ?_
          refine lv_iload_n hx hb dX7_sheet_52 rfl (lv_at hl 3 rfl) ?_
          obtain ⟨k53, h53, hF⟩ := bd hF
          refine wI (ws' := pM cI cS a0 (st (st (st t0 0 0 0) 1 k46 x2) 2 k53 x3)) hx hb hK.1 hP hD hS 2 0 (at_M_2 cI cS _ _) rfl h53 (sw_M_2 cI cS _ _ _ _) dX7_sheet_53 (fun H locs hP hD hS => ?_)
          refine lv_iconst (v := 0) hx hb dX7_sheet_54 (by decide) ?_
          refine lv_istore (lv' := [(4, .int 0), (0, .ref (a0 0)), (1, .int x1), (2, .int x2), (3, .int x3)]) hx hb dX7_sheet_55 hl (by decide) rfl (fun ls hl => ?_)
          have L57 : ∀ (n_57 : Nat) (x4_57 : Int32) (s0_57 : ST) (H : Heap) (locs : List Loc) (ls : Array Slot), va_P D vwCl (pM cI cS a0 s0_57) H → va_D (AD (pM cI cS a0 t0)) (pM cI cS a0 s0_57) → va_S (AD (pM cI cS a0 t0)) s.heap H locs → lv_has ls 5 [(0, .ref (a0 0)), (1, .int x1), (4, .int x4_57)] → F_X7_sheet_L57 x1 x2 x3 (fun x4_k57 s0_k57 => F_X7_sheet_J83 x1 x2 x3 s0_k57) n_57 x4_57 s0_57 = some (r, t') → W p l e rm_X7_sheet s m [.ref (a0 0), .int x1, .int x2, .int x3].toArray below meth c H locs 0 0 (MQ below (va_Qi (fun x (_ : Unit) => x = r) (fun _ t => va_P D vwCl (pM cI cS a0 t') t.heap) (AD (pM cI cS a0 t0))) [.ref (a0 0), .int x1, .int x2, .int x3].toArray s 0 0 (AD (pM cI cS a0 t0))) (F0 m 57 ls []) := by
            intro n_57
            induction n_57 with
            | zero => intro x4_57 s0_57 H locs ls hP hD hS hl hF; exact nomatch hF
            | succ n_57 ih57 =>
              intro x4_57 s0_57 H locs ls hP hD hS hl hF
              rw [F_X7_sheet_L57.eq_2] at hF
              refine lv_iload hx hb dX7_sheet_57 (lv_at hl 2 rfl) ?_
              refine lv_bipush (v := 60) hx hb dX7_sheet_59 (by decide) ?_
              refine lv_icmp_ge (tgt := 83) hx hb dX7_sheet_61 (by decide) (fun c61 => ?_) (fun c61 => ?_)
              · replace hF := ip c61 hF
                have hF : F_X7_sheet_J83 x1 x2 x3 s0_57 = some (r, t') := hF
                unfold F_X7_sheet_J83 at hF
                refine lv_iconst (v := 1) hx hb dX7_sheet_83 (by decide) ?_
                exact W.iret hx hb hr (fun t ht hW => ⟨⟨_, (), rfl, (Prod.mk.inj (Option.some.inj hF)).1, by show va_P _ _ _ t.heap; rw [ht, ← (Prod.mk.inj (Option.some.inj hF)).2]; exact hP⟩, hS.F ht⟩) hS.2.2 dX7_sheet_84
              · replace hF := iq c61 hF
                refine lv_aload_n hx hb dX7_sheet_64 rfl (lv_at hl 0 rfl) ?_
                refine va_get (D := D) (ci := 6) (v := .ref (a0 3)) (C := RX7) (T := TX7) (N := 29) hx hb hts (fun w h => List.mem_cons_of_mem _ (inAX7 w h)) hown hK.1 hP 0 (at_M_0 cI cS _ _) rfl 4 (by decide) (hts _ (List.mem_cons_of_mem _ fl_RX7_16)) (fun _ h9 => h9) rfl dX7_sheet_65 ?_
                refine lv_bipush (v := 60) hx hb dX7_sheet_68 (by decide) ?_
                refine lv_iload_n hx hb dX7_sheet_70 rfl (lv_at hl 1 rfl) ?_
                refine lv_imul hx hb dX7_sheet_71 ?_
                refine lv_iload hx hb dX7_sheet_72 (lv_at hl 2 rfl) ?_
                refine lv_iadd hx hb dX7_sheet_74 ?_
                refine lv_iconst (v := 0) hx hb dX7_sheet_75 (by decide) ?_
                obtain ⟨k76, h76, hF⟩ := bd hF
                refine wI (ws' := pM cI cS a0 (st s0_57 3 k76 0)) hx hb hK.1 hP hD hS 3 0 (at_M_3 cI cS _ _) rfl h76 (sw_M_3 cI cS _ _ _ _) dX7_sheet_76 (fun H locs hP hD hS => ?_)
                refine lv_iinc (v := (x4_57 + 1)) (lv' := [(4, .int (x4_57 + 1)), (0, .ref (a0 0)), (1, .int x1)]) hx hb dX7_sheet_77 hl (k := 2) rfl rfl (by decide) rfl (fun ls hl => ?_)
                refine lv_goto (tgt := 57) hx hb dX7_sheet_80 (by decide) ?_
                exact ih57 (x4_57 + 1) (st s0_57 3 k76 0) _ _ _ hP hD hS (lv_sub hl [1, 2, 0] rfl) hF
          exact L57 1000 0 (st (st (st t0 0 0 0) 1 k46 x2) 2 k53 x3) _ _ _ hP hD hS (lv_sub hl [1, 2, 0] rfl) hF
        · replace hF := iq c31 hF
          refine lv_aload_n hx hb dX7_sheet_34 rfl (lv_at hl 0 rfl) ?_
          refine lv_iconst (v := 4) hx hb dX7_sheet_35 (by decide) ?_
          obtain ⟨v36, u36, h36, hF⟩ := bd2 hF
          refine cAe (ws' := pM cI cS a0 u36) (va_runV (As := [.int 4]) (rest := []) ⟨hx, hb, hml, hown, hts⟩ (c_X7_fails l D cI cS a0 (st t0 0 0 0) 4 v36 u36 h36) (cwVA hts (TW.cons _) lv_X7_fails ml_RX7_82 ⟨rfl, rfl⟩ ⟨(Nat.le_of_ble_eq_true rfl), (Nat.le_of_ble_eq_true rfl)⟩) (pWV hK hP hD (ci := 6) rfl rfl) rfl rfl hl.1 rfl (lv_room (Nat.le_of_ble_eq_true rfl)) dX7_sheet_36 ⟨Nat.le_refl _, Nat.le_refl _⟩) hD hS (ad_M cI cS _ _ _) (fun H locs hP hD hS => ?_)
          exact W.iret hx hb hr (fun t ht hW => ⟨⟨_, (), rfl, (Prod.mk.inj (Option.some.inj hF)).1, by show va_P _ _ _ t.heap; rw [ht, ← (Prod.mk.inj (Option.some.inj hF)).2]; exact hP⟩, hS.F ht⟩) hS.2.2 dX7_sheet_39
      · replace hF := iq c24 hF
        refine lv_bipush (v := (-2)) hx hb dX7_sheet_27 (by decide) ?_
        exact W.iret hx hb hr (fun t ht hW => ⟨⟨_, (), rfl, (Prod.mk.inj (Option.some.inj hF)).1, by show va_P _ _ _ t.heap; rw [ht, ← (Prod.mk.inj (Option.some.inj hF)).2]; exact hP⟩, hS.F ht⟩) hS.2.2 dX7_sheet_29
  · replace hF := ip c9 hF
    refine lv_iconst (v := (-1)) hx hb dX7_sheet_12 (by decide) ?_
    exact W.iret hx hb hr (fun t ht hW => ⟨⟨_, (), rfl, (Prod.mk.inj (Option.some.inj hF)).1, by show va_P _ _ _ t.heap; rw [ht, ← (Prod.mk.inj (Option.some.inj hF)).2]; exact hP⟩, hS.F ht⟩) hS.2.2 dX7_sheet_13
noncomputable def F_X7_lose_J25 (x1 : Int32) (s0 : ST) (z0 : Int32) : Option (Int32 × ST) :=
  (ix 4 x1).bind fun k33 =>
  some (z0, (st s0 1 k33 (-9)))
noncomputable def F_X7_lose (t0 : ST) (x1 : Int32) : Option (Int32 × ST) :=
  (F_X7_isSheet x1).bind fun v1 =>
  if v1 = 0 then
    some ((-1), t0)
  else
  (rd 4 (t0 1) x1).bind fun v14 =>
  if v14 = (-9) then
    F_X7_lose_J25 x1 t0 0
  else
  F_X7_lose_J25 x1 t0 1
abbrev rm_X7_lose : Room := { frames := 2, cells := 0, slots := 0, locals := 42 }
set_option maxHeartbeats 4000000 in
set_option maxRecDepth 100000 in
theorem c_X7_lose (l : Launch) (D : va_G) (cI cS : ClassId) (a0 : Nat → Nat) (t0 : ST) (x1 : Int32) (r : Int32) (t' : ST) (hF : F_X7_lose t0 x1 = some (r, t')) : Met l yX7_lose (Cond.code yX7_lose cX7_lose 3 (some .int) :: ALL) rm_X7_lose (PreW D cI cS [.ref (a0 0), .int x1] (pM cI cS a0 t0)) (va_Qi (fun x (_ : Unit) => x = r) (fun _ t => va_P D vwCl (pM cI cS a0 t') t.heap) (AD (pM cI cS a0 t0))) 0 0 (AD (pM cI cS a0 t0)) := by
  refine mW l D cI cS (by decide) (Nat.le_of_ble_eq_true rfl) ?_
  intro p e s m below meth c ls hx hb hr hml hown hts hlocks hP hK hD hS hl
  have hown : s.vm.findClass RX7 = some m.cls := hown
  have hl : lv_has ls 3 [(0, .ref (a0 0)), (1, .int x1)] := hl
  unfold F_X7_lose at hF
  refine lv_iload_n hx hb dX7_lose_0 rfl (lv_at hl 1 rfl) ?_
  obtain ⟨v1, h1, hF⟩ := bd hF
  refine cRb (va_runS (As := [.int x1]) (rest := []) ⟨hx, hb, hml, hown, hts⟩ (c_X7_isSheet l D cI cS x1 v1 h1) (cwSA hts (TW.cons _) ls_X7_isSheet ml_RX7_71 ⟨rfl, rfl⟩ ⟨(Nat.le_of_ble_eq_true rfl), (Nat.le_of_ble_eq_true rfl)⟩) (pRS hK pnil) rfl rfl hl.1 rfl (lv_room (Nat.le_of_ble_eq_true rfl)) dX7_lose_1 ⟨Nat.le_refl _, Nat.le_refl _⟩) (fun b1 => ?_)
  refine lv_if_ne (tgt := 9) hx hb dX7_lose_4 (by decide) (fun c4 => ?_) (fun c4 => ?_)
  · replace hF := iq c4 hF
    refine lv_aload_n hx hb dX7_lose_9 rfl (lv_at hl 0 rfl) ?_
    refine va_get (D := D) (ci := 6) (v := .ref (a0 1)) (C := RX7) (T := TX7) (N := 29) hx hb hts (fun w h => List.mem_cons_of_mem _ (inAX7 w h)) hown hK.1 hP 0 (at_M_0 cI cS _ _) rfl 2 (by decide) (hts _ (List.mem_cons_of_mem _ fl_RX7_9)) (fun _ h9 => h9) rfl dX7_lose_10 ?_
    refine lv_iload_n hx hb dX7_lose_13 rfl (lv_at hl 1 rfl) ?_
    obtain ⟨v14, h14, hF⟩ := bd hF
    refine rI hx hb hK.1 hP 1 0 (at_M_1 cI cS _ _) rfl h14 dX7_lose_14 ?_
    refine lv_bipush (v := (-9)) hx hb dX7_lose_15 (by decide) ?_
    have J25 : ∀ (s0_25 : ST) (z0_25 : Int32) (H : Heap) (locs : List Loc) (ls : Array Slot), va_P D vwCl (pM cI cS a0 s0_25) H → va_D (AD (pM cI cS a0 t0)) (pM cI cS a0 s0_25) → va_S (AD (pM cI cS a0 t0)) s.heap H locs → lv_has ls 3 [(0, .ref (a0 0)), (1, .int x1)] → F_X7_lose_J25 x1 s0_25 z0_25 = some (r, t') → W p l e rm_X7_lose s m [.ref (a0 0), .int x1].toArray below meth c H locs 0 0 (MQ below (va_Qi (fun x (_ : Unit) => x = r) (fun _ t => va_P D vwCl (pM cI cS a0 t') t.heap) (AD (pM cI cS a0 t0))) [.ref (a0 0), .int x1].toArray s 0 0 (AD (pM cI cS a0 t0))) (F0 m 25 ls [.int z0_25]) := by
      intro s0_25 z0_25 H locs ls hP hD hS hl hF
      unfold F_X7_lose_J25 at hF
      refine lv_istore_n (lv' := [(2, .int z0_25), (0, .ref (a0 0)), (1, .int x1)]) hx hb dX7_lose_25 rfl hl (by decide) rfl (fun ls hl => ?_)
      refine lv_aload_n hx hb dX7_lose_26 rfl (lv_at hl 1 rfl) ?_
      refine va_get (D := D) (ci := 6) (v := .ref (a0 1)) (C := RX7) (T := TX7) (N := 29) hx hb hts (fun w h => List.mem_cons_of_mem _ (inAX7 w h)) hown hK.1 hP 0 (at_M_0 cI cS _ _) rfl 2 (by decide) (hts _ (List.mem_cons_of_mem _ fl_RX7_9)) (fun _ h9 => h9) rfl dX7_lose_27 ?_
      refine lv_iload_n hx hb dX7_lose_30 rfl (lv_at hl 2 rfl) ?_
      refine lv_bipush (v := (-9)) hx hb dX7_lose_31 (by decide) ?_
      obtain ⟨k33, h33, hF⟩ := bd hF
      refine wI (ws' := pM cI cS a0 (st s0_25 1 k33 (-9))) hx hb hK.1 hP hD hS 1 0 (at_M_1 cI cS _ _) rfl h33 (sw_M_1 cI cS _ _ _ _) dX7_lose_33 (fun H locs hP hD hS => ?_)
      refine lv_iload_n hx hb dX7_lose_34 rfl (lv_at hl 0 rfl) ?_
      exact W.iret hx hb hr (fun t ht hW => ⟨⟨_, (), rfl, (Prod.mk.inj (Option.some.inj hF)).1, by show va_P _ _ _ t.heap; rw [ht, ← (Prod.mk.inj (Option.some.inj hF)).2]; exact hP⟩, hS.F ht⟩) hS.2.2 dX7_lose_35
    refine lv_icmp_ne (tgt := 24) hx hb dX7_lose_17 (by decide) (fun c17 => ?_) (fun c17 => ?_)
    · replace hF := iq c17 hF
      refine lv_iconst (v := 1) hx hb dX7_lose_24 (by decide) ?_
      exact J25 t0 1 _ _ _ hP hD hS (lv_sub hl [0, 1] rfl) hF
    · replace hF := ip c17 hF
      refine lv_iconst (v := 0) hx hb dX7_lose_20 (by decide) ?_
      refine lv_goto (tgt := 25) hx hb dX7_lose_21 (by decide) ?_
      exact J25 t0 0 _ _ _ hP hD hS (lv_sub hl [0, 1] rfl) hF
  · replace hF := ip c4 hF
    refine lv_iconst (v := (-1)) hx hb dX7_lose_7 (by decide) ?_
    exact W.iret hx hb hr (fun t ht hW => ⟨⟨_, (), rfl, (Prod.mk.inj (Option.some.inj hF)).1, by show va_P _ _ _ t.heap; rw [ht, ← (Prod.mk.inj (Option.some.inj hF)).2]; exact hP⟩, hS.F ht⟩) hS.2.2 dX7_lose_8
noncomputable def F_X7_put (t0 : ST) (x1 : Int32) (x2 : Int32) (x3 : Int32) : Option (Int32 × ST) :=
  (F_X7_isSheet x1).bind fun v6 =>
  if v6 = 0 then
    some ((-1), (st t0 0 0 0))
  else
  (rd 4 (t0 1) x1).bind fun v19 =>
  if v19 = (-9) then
    b2 (F_X7_fails (st t0 0 0 0) 1) fun v27 u27 =>
    some (v27, u27)
  else
  (rd 4 (t0 2) x1).bind fun v38 =>
  (F_X7_within x2 0 (v38 - 1)).bind fun v41 =>
  if v41 = 0 then
    b2 (F_X7_fails (st t0 0 0 0) 3) fun v49 u49 =>
    some (v49, u49)
  else
  (rd 4 (t0 1) x1).bind fun v68 =>
  if v68 = 0 then
    (ix 240 ((60 * x1) + x2)).bind fun k93 =>
    some (1, (st (st t0 0 0 0) 3 k93 x3.toInt8.toInt32))
  else
  (rd 4 (t0 1) x1).bind fun v82 =>
  if v82 = 1 then
    (ix 240 ((60 * x1) + x2)).bind fun k93 =>
    some (1, (st (st t0 0 0 0) 3 k93 x3.toInt16.toInt32))
  else
  (ix 240 ((60 * x1) + x2)).bind fun k93 =>
  some (1, (st (st t0 0 0 0) 3 k93 x3))
abbrev rm_X7_put : Room := { frames := 2, cells := 0, slots := 0, locals := 42 }
set_option maxHeartbeats 4000000 in
set_option maxRecDepth 100000 in
theorem c_X7_put (l : Launch) (D : va_G) (cI cS : ClassId) (a0 : Nat → Nat) (t0 : ST) (x1 : Int32) (x2 : Int32) (x3 : Int32) (r : Int32) (t' : ST) (hF : F_X7_put t0 x1 x2 x3 = some (r, t')) : Met l yX7_put (Cond.code yX7_put cX7_put 4 (some .int) :: ALL) rm_X7_put (PreW D cI cS [.ref (a0 0), .int x1, .int x2, .int x3] (pM cI cS a0 t0)) (va_Qi (fun x (_ : Unit) => x = r) (fun _ t => va_P D vwCl (pM cI cS a0 t') t.heap) (AD (pM cI cS a0 t0))) 0 0 (AD (pM cI cS a0 t0)) := by
  refine mW l D cI cS (by decide) (Nat.le_of_ble_eq_true rfl) ?_
  intro p e s m below meth c ls hx hb hr hml hown hts hlocks hP hK hD hS hl
  have hown : s.vm.findClass RX7 = some m.cls := hown
  have hl : lv_has ls 4 [(0, .ref (a0 0)), (1, .int x1), (2, .int x2), (3, .int x3)] := hl
  unfold F_X7_put at hF
  refine lv_aload_n hx hb dX7_put_0 rfl (lv_at hl 0 rfl) ?_
  refine lv_iconst (v := 0) hx hb dX7_put_1 (by decide) ?_
  refine wF (ws' := pM cI cS a0 (st t0 0 0 0)) (C := RX7) (T := TX7) (N := 29) hx hb hts (fun w h => List.mem_cons_of_mem _ (inAX7 w h)) tyX7 tyX7_ok nmX7 hown hK.1 hP hD hS 0 (at_M_0 cI cS _ _) rfl 0 (by decide) (hts _ (List.mem_cons_of_mem _ fl_RX7_55)) rfl (tyX7_ok 0 (by decide)) rfl rfl (Nat.le_of_ble_eq_true rfl) (sf_M_0_0 cI cS _ _ _) dX7_put_2 (fun H locs hP hD hS => ?_)
  refine lv_iload_n hx hb dX7_put_5 rfl (lv_at hl 1 rfl) ?_
  obtain ⟨v6, h6, hF⟩ := bd hF
  refine cRb (va_runS (As := [.int x1]) (rest := []) ⟨hx, hb, hml, hown, hts⟩ (c_X7_isSheet l D cI cS x1 v6 h6) (cwSA hts (TW.cons _) ls_X7_isSheet ml_RX7_71 ⟨rfl, rfl⟩ ⟨(Nat.le_of_ble_eq_true rfl), (Nat.le_of_ble_eq_true rfl)⟩) (pRS hK pnil) rfl rfl hl.1 rfl (lv_room (Nat.le_of_ble_eq_true rfl)) dX7_put_6 ⟨Nat.le_refl _, Nat.le_refl _⟩) (fun b6 => ?_)
  refine lv_if_ne (tgt := 14) hx hb dX7_put_9 (by decide) (fun c9 => ?_) (fun c9 => ?_)
  · replace hF := iq c9 hF
    refine lv_aload_n hx hb dX7_put_14 rfl (lv_at hl 0 rfl) ?_
    refine va_get (D := D) (ci := 6) (v := .ref (a0 1)) (C := RX7) (T := TX7) (N := 29) hx hb hts (fun w h => List.mem_cons_of_mem _ (inAX7 w h)) hown hK.1 hP 0 (at_M_0 cI cS _ _) rfl 2 (by decide) (hts _ (List.mem_cons_of_mem _ fl_RX7_9)) (fun _ h9 => h9) rfl dX7_put_15 ?_
    refine lv_iload_n hx hb dX7_put_18 rfl (lv_at hl 1 rfl) ?_
    obtain ⟨v19, h19, hF⟩ := bd hF
    refine rI hx hb hK.1 hP 1 0 (at_M_1 cI cS _ _) rfl h19 dX7_put_19 ?_
    refine lv_bipush (v := (-9)) hx hb dX7_put_20 (by decide) ?_
    refine lv_icmp_ne (tgt := 31) hx hb dX7_put_22 (by decide) (fun c22 => ?_) (fun c22 => ?_)
    · replace hF := iq c22 hF
      refine lv_iload_n hx hb dX7_put_31 rfl (lv_at hl 2 rfl) ?_
      refine lv_iconst (v := 0) hx hb dX7_put_32 (by decide) ?_
      refine lv_aload_n hx hb dX7_put_33 rfl (lv_at hl 0 rfl) ?_
      refine va_get (D := D) (ci := 6) (v := .ref (a0 2)) (C := RX7) (T := TX7) (N := 29) hx hb hts (fun w h => List.mem_cons_of_mem _ (inAX7 w h)) hown hK.1 hP 0 (at_M_0 cI cS _ _) rfl 3 (by decide) (hts _ (List.mem_cons_of_mem _ fl_RX7_13)) (fun _ h9 => h9) rfl dX7_put_34 ?_
      refine lv_iload_n hx hb dX7_put_37 rfl (lv_at hl 1 rfl) ?_
      obtain ⟨v38, h38, hF⟩ := bd hF
      refine rI hx hb hK.1 hP 2 0 (at_M_2 cI cS _ _) rfl h38 dX7_put_38 ?_
      refine lv_iconst (v := 1) hx hb dX7_put_39 (by decide) ?_
      refine lv_isub hx hb dX7_put_40 ?_
      obtain ⟨v41, h41, hF⟩ := bd hF
      refine cRb (va_runS (As := [.int x2, .int 0, .int (v38 - 1)]) (rest := []) ⟨hx, hb, hml, hown, hts⟩ (c_X7_within l D cI cS x2 0 (v38 - 1) v41 h41) (cwSA hts (TW.cons _) ls_X7_within ml_RX7_61 ⟨rfl, rfl⟩ ⟨(Nat.le_of_ble_eq_true rfl), (Nat.le_of_ble_eq_true rfl)⟩) (pRS hK pnil) rfl rfl hl.1 rfl (lv_room (Nat.le_of_ble_eq_true rfl)) dX7_put_41 ⟨Nat.le_refl _, Nat.le_refl _⟩) (fun b41 => ?_)
      refine lv_if_ne (tgt := 53) hx hb dX7_put_44 (by decide) (fun c44 => ?_) (fun c44 => ?_)
      · replace hF := iq c44 hF
        refine lv_aload_n hx hb dX7_put_53 rfl (lv_at hl 0 rfl) ?_
        refine va_get (D := D) (ci := 6) (v := .ref (a0 3)) (C := RX7) (T := TX7) (N := 29) hx hb hts (fun w h => List.mem_cons_of_mem _ (inAX7 w h)) hown hK.1 hP 0 (at_M_0 cI cS _ _) rfl 4 (by decide) (hts _ (List.mem_cons_of_mem _ fl_RX7_16)) (fun _ h9 => h9) rfl dX7_put_54 ?_
        refine lv_bipush (v := 60) hx hb dX7_put_57 (by decide) ?_
        refine lv_iload_n hx hb dX7_put_59 rfl (lv_at hl 1 rfl) ?_
        refine lv_imul hx hb dX7_put_60 ?_
        refine lv_iload_n hx hb dX7_put_61 rfl (lv_at hl 2 rfl) ?_
        refine lv_iadd hx hb dX7_put_62 ?_
        refine lv_aload_n hx hb dX7_put_63 rfl (lv_at hl 0 rfl) ?_
        refine va_get (D := D) (ci := 6) (v := .ref (a0 1)) (C := RX7) (T := TX7) (N := 29) hx hb hts (fun w h => List.mem_cons_of_mem _ (inAX7 w h)) hown hK.1 hP 0 (at_M_0 cI cS _ _) rfl 2 (by decide) (hts _ (List.mem_cons_of_mem _ fl_RX7_9)) (fun _ h9 => h9) rfl dX7_put_64 ?_
        refine lv_iload_n hx hb dX7_put_67 rfl (lv_at hl 1 rfl) ?_
        obtain ⟨v68, h68, hF⟩ := bd hF
        refine rI hx hb hK.1 hP 1 0 (at_M_1 cI cS _ _) rfl h68 dX7_put_68 ?_
        refine lv_if_ne (tgt := 77) hx hb dX7_put_69 (by decide) (fun c69 => ?_) (fun c69 => ?_)
        · replace hF := iq c69 hF
          refine lv_aload_n hx hb dX7_put_77 rfl (lv_at hl 0 rfl) ?_
          refine va_get (D := D) (ci := 6) (v := .ref (a0 1)) (C := RX7) (T := TX7) (N := 29) hx hb hts (fun w h => List.mem_cons_of_mem _ (inAX7 w h)) hown hK.1 hP 0 (at_M_0 cI cS _ _) rfl 2 (by decide) (hts _ (List.mem_cons_of_mem _ fl_RX7_9)) (fun _ h9 => h9) rfl dX7_put_78 ?_
          refine lv_iload_n hx hb dX7_put_81 rfl (lv_at hl 1 rfl) ?_
          obtain ⟨v82, h82, hF⟩ := bd hF
          refine rI hx hb hK.1 hP 1 0 (at_M_1 cI cS _ _) rfl h82 dX7_put_82 ?_
          refine lv_iconst (v := 1) hx hb dX7_put_83 (by decide) ?_
          refine lv_icmp_ne (tgt := 92) hx hb dX7_put_84 (by decide) (fun c84 => ?_) (fun c84 => ?_)
          · replace hF := iq c84 hF
            refine lv_iload_n hx hb dX7_put_92 rfl (lv_at hl 3 rfl) ?_
            obtain ⟨k93, h93, hF⟩ := bd hF
            refine wI (ws' := pM cI cS a0 (st (st t0 0 0 0) 3 k93 x3)) hx hb hK.1 hP hD hS 3 0 (at_M_3 cI cS _ _) rfl h93 (sw_M_3 cI cS _ _ _ _) dX7_put_93 (fun H locs hP hD hS => ?_)
            refine lv_iconst (v := 1) hx hb dX7_put_94 (by decide) ?_
            exact W.iret hx hb hr (fun t ht hW => ⟨⟨_, (), rfl, (Prod.mk.inj (Option.some.inj hF)).1, by show va_P _ _ _ t.heap; rw [ht, ← (Prod.mk.inj (Option.some.inj hF)).2]; exact hP⟩, hS.F ht⟩) hS.2.2 dX7_put_95
          · replace hF := ip c84 hF
            refine lv_iload_n hx hb dX7_put_87 rfl (lv_at hl 3 rfl) ?_
            refine lv_i2s (v := x3.toInt16.toInt32) hx hb dX7_put_88 rfl ?_
            refine lv_goto (tgt := 93) hx hb dX7_put_89 (by decide) ?_
            obtain ⟨k93, h93, hF⟩ := bd hF
            refine wI (ws' := pM cI cS a0 (st (st t0 0 0 0) 3 k93 x3.toInt16.toInt32)) hx hb hK.1 hP hD hS 3 0 (at_M_3 cI cS _ _) rfl h93 (sw_M_3 cI cS _ _ _ _) dX7_put_93 (fun H locs hP hD hS => ?_)
            refine lv_iconst (v := 1) hx hb dX7_put_94 (by decide) ?_
            exact W.iret hx hb hr (fun t ht hW => ⟨⟨_, (), rfl, (Prod.mk.inj (Option.some.inj hF)).1, by show va_P _ _ _ t.heap; rw [ht, ← (Prod.mk.inj (Option.some.inj hF)).2]; exact hP⟩, hS.F ht⟩) hS.2.2 dX7_put_95
        · replace hF := ip c69 hF
          refine lv_iload_n hx hb dX7_put_72 rfl (lv_at hl 3 rfl) ?_
          refine lv_i2b (v := x3.toInt8.toInt32) hx hb dX7_put_73 rfl ?_
          refine lv_goto (tgt := 93) hx hb dX7_put_74 (by decide) ?_
          obtain ⟨k93, h93, hF⟩ := bd hF
          refine wI (ws' := pM cI cS a0 (st (st t0 0 0 0) 3 k93 x3.toInt8.toInt32)) hx hb hK.1 hP hD hS 3 0 (at_M_3 cI cS _ _) rfl h93 (sw_M_3 cI cS _ _ _ _) dX7_put_93 (fun H locs hP hD hS => ?_)
          refine lv_iconst (v := 1) hx hb dX7_put_94 (by decide) ?_
          exact W.iret hx hb hr (fun t ht hW => ⟨⟨_, (), rfl, (Prod.mk.inj (Option.some.inj hF)).1, by show va_P _ _ _ t.heap; rw [ht, ← (Prod.mk.inj (Option.some.inj hF)).2]; exact hP⟩, hS.F ht⟩) hS.2.2 dX7_put_95
      · replace hF := ip c44 hF
        refine lv_aload_n hx hb dX7_put_47 rfl (lv_at hl 0 rfl) ?_
        refine lv_iconst (v := 3) hx hb dX7_put_48 (by decide) ?_
        obtain ⟨v49, u49, h49, hF⟩ := bd2 hF
        refine cAe (ws' := pM cI cS a0 u49) (va_runV (As := [.int 3]) (rest := []) ⟨hx, hb, hml, hown, hts⟩ (c_X7_fails l D cI cS a0 (st t0 0 0 0) 3 v49 u49 h49) (cwVA hts (TW.cons _) lv_X7_fails ml_RX7_82 ⟨rfl, rfl⟩ ⟨(Nat.le_of_ble_eq_true rfl), (Nat.le_of_ble_eq_true rfl)⟩) (pWV hK hP hD (ci := 6) rfl rfl) rfl rfl hl.1 rfl (lv_room (Nat.le_of_ble_eq_true rfl)) dX7_put_49 ⟨Nat.le_refl _, Nat.le_refl _⟩) hD hS (ad_M cI cS _ _ _) (fun H locs hP hD hS => ?_)
        exact W.iret hx hb hr (fun t ht hW => ⟨⟨_, (), rfl, (Prod.mk.inj (Option.some.inj hF)).1, by show va_P _ _ _ t.heap; rw [ht, ← (Prod.mk.inj (Option.some.inj hF)).2]; exact hP⟩, hS.F ht⟩) hS.2.2 dX7_put_52
    · replace hF := ip c22 hF
      refine lv_aload_n hx hb dX7_put_25 rfl (lv_at hl 0 rfl) ?_
      refine lv_iconst (v := 1) hx hb dX7_put_26 (by decide) ?_
      obtain ⟨v27, u27, h27, hF⟩ := bd2 hF
      refine cAe (ws' := pM cI cS a0 u27) (va_runV (As := [.int 1]) (rest := []) ⟨hx, hb, hml, hown, hts⟩ (c_X7_fails l D cI cS a0 (st t0 0 0 0) 1 v27 u27 h27) (cwVA hts (TW.cons _) lv_X7_fails ml_RX7_82 ⟨rfl, rfl⟩ ⟨(Nat.le_of_ble_eq_true rfl), (Nat.le_of_ble_eq_true rfl)⟩) (pWV hK hP hD (ci := 6) rfl rfl) rfl rfl hl.1 rfl (lv_room (Nat.le_of_ble_eq_true rfl)) dX7_put_27 ⟨Nat.le_refl _, Nat.le_refl _⟩) hD hS (ad_M cI cS _ _ _) (fun H locs hP hD hS => ?_)
      exact W.iret hx hb hr (fun t ht hW => ⟨⟨_, (), rfl, (Prod.mk.inj (Option.some.inj hF)).1, by show va_P _ _ _ t.heap; rw [ht, ← (Prod.mk.inj (Option.some.inj hF)).2]; exact hP⟩, hS.F ht⟩) hS.2.2 dX7_put_30
  · replace hF := ip c9 hF
    refine lv_iconst (v := (-1)) hx hb dX7_put_12 (by decide) ?_
    exact W.iret hx hb hr (fun t ht hW => ⟨⟨_, (), rfl, (Prod.mk.inj (Option.some.inj hF)).1, by show va_P _ _ _ t.heap; rw [ht, ← (Prod.mk.inj (Option.some.inj hF)).2]; exact hP⟩, hS.F ht⟩) hS.2.2 dX7_put_13
