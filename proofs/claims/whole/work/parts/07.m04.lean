noncomputable def F_X7_findMust_J77 (x1 : Int32) (x2 : Int32) (g k : Int32 → ST → Option ST) (x3 : Int32) (x4 : Int32) (x5 : Int32) (x6 : Int32) (s0 : ST) (z0 : Int32) (z1 : Int32) : Option ST :=
  if x6 = 0 then
    g (x4 + 1) (st (st s0 0 11 (z1 ||| z0)) 0 12 ((s0 0 12) ||| x5))
  else
  g (x4 + 1) (st (st s0 0 11 (z1 ||| z0)) 0 12 ((s0 0 12) ||| 0))
noncomputable def F_X7_findMust_L20 (x1 : Int32) (x2 : Int32) (x3 : Int32) (k : Int32 → ST → Option ST) : Nat → Int32 → ST → Option ST
  | 0, _, _ => none
  | n + 1, x4, s0 =>
    if 6 ≤ x4 then
      k x4 s0
    else
    (rd 240 (s0 3) ((x1 + x3) - 1)).bind fun v37 =>
    (F_X7_bitFor v37 x4).bind fun v40 =>
    (rd 240 (s0 3) (x1 + x3)).bind fun v53 =>
    (F_X7_isOf v53 x4).bind fun v56 =>
    if v56 = 0 then
      F_X7_findMust_J77 x1 x2 (F_X7_findMust_L20 x1 x2 x3 k n) k x3 x4 (1 <<< (v40 &&& 31)) v56 s0 0 (s0 0 11)
    else
    F_X7_findMust_J77 x1 x2 (F_X7_findMust_L20 x1 x2 x3 k n) k x3 x4 (1 <<< (v40 &&& 31)) v56 s0 (1 <<< (v40 &&& 31)) (s0 0 11)
noncomputable def F_X7_findMust_J107 (x1 : Int32) (x2 : Int32) (g k : Int32 → ST → Option ST) (x3 : Int32) (s0 : ST) : Option ST :=
  g (x3 + 1) s0
noncomputable def F_X7_findMust_L12 (x1 : Int32) (x2 : Int32) (k : Int32 → ST → Option ST) : Nat → Int32 → ST → Option ST
  | 0, _, _ => none
  | n + 1, x3, s0 =>
    if x2 ≤ x3 then
      k x3 s0
    else
    F_X7_findMust_L20 x1 x2 x3 (fun x4_k20 s0_k20 => F_X7_findMust_J107 x1 x2 (F_X7_findMust_L12 x1 x2 k n) k x3 s0_k20) 1000 0 s0
noncomputable def F_X7_findMust_J113 (x1 : Int32) (x2 : Int32) (s0 : ST) : Option ST :=
  some s0
noncomputable def F_X7_findMust (t0 : ST) (x1 : Int32) (x2 : Int32) : Option ST :=
  F_X7_findMust_L12 x1 x2 (fun x3_k12 s0_k12 => F_X7_findMust_J113 x1 x2 s0_k12) 1000 1 (st (st t0 0 11 0) 0 12 0)
abbrev rm_X7_findMust : Room := { frames := 1, cells := 0, slots := 0, locals := 23 }
set_option maxHeartbeats 4000000 in
set_option maxRecDepth 100000 in
theorem c_X7_findMust (l : Launch) (D : va_G) (cI cS : ClassId) (a0 : Nat → Nat) (t0 : ST) (x1 : Int32) (x2 : Int32) (t' : ST) (hF : F_X7_findMust t0 x1 x2 = some t') : Met l yX7_findMust (Cond.code yX7_findMust cX7_findMust 7 none :: ALL) rm_X7_findMust (PreW D cI cS [.ref (a0 0), .int x1, .int x2] (pM cI cS a0 t0)) (va_Qv (fun (_ : Unit) => True) (fun _ t => va_P D vwCl (pM cI cS a0 t') t.heap) (AD (pM cI cS a0 t0))) 0 0 (AD (pM cI cS a0 t0)) := by
  refine mW l D cI cS (by decide) (Nat.le_of_ble_eq_true rfl) ?_
  intro p e s m below meth c ls hx hb hr hml hown hts hlocks hP hK hD hS hl
  have hown : s.vm.findClass RX7 = some m.cls := hown
  have hl : lv_has ls 7 [(0, .ref (a0 0)), (1, .int x1), (2, .int x2)] := hl
  unfold F_X7_findMust at hF
  refine lv_aload_n hx hb dX7_findMust_0 rfl (lv_at hl 0 rfl) ?_
  refine lv_iconst (v := 0) hx hb dX7_findMust_1 (by decide) ?_
  refine wF (ws' := pM cI cS a0 (st t0 0 11 0)) (C := RX7) (T := TX7) (N := 29) hx hb hts (fun w h => List.mem_cons_of_mem _ (inAX7 w h)) tyX7 tyX7_ok nmX7 hown hK.1 hP hD hS 0 (at_M_0 cI cS _ _) rfl 20 (by decide) (hts _ (List.mem_cons_of_mem _ fl_RX7_181)) rfl (tyX7_ok 20 (by decide)) rfl rfl (Nat.le_of_ble_eq_true rfl) (sf_M_0_20 cI cS _ _ _) dX7_findMust_2 (fun H locs hP hD hS => ?_)
  refine lv_aload_n hx hb dX7_findMust_5 rfl (lv_at hl 0 rfl) ?_
  refine lv_iconst (v := 0) hx hb dX7_findMust_6 (by decide) ?_
  refine wF (ws' := pM cI cS a0 (st (st t0 0 11 0) 0 12 0)) (C := RX7) (T := TX7) (N := 29) hx hb hts (fun w h => List.mem_cons_of_mem _ (inAX7 w h)) tyX7 tyX7_ok nmX7 hown hK.1 hP hD hS 0 (at_M_0 cI cS _ _) rfl 21 (by decide) (hts _ (List.mem_cons_of_mem _ fl_RX7_184)) rfl (tyX7_ok 21 (by decide)) rfl rfl (Nat.le_of_ble_eq_true rfl) (sf_M_0_21 cI cS _ _ _) dX7_findMust_7 (fun H locs hP hD hS => ?_)
  refine lv_iconst (v := 1) hx hb dX7_findMust_10 (by decide) ?_
  refine lv_istore_n (lv' := [(3, .int 1), (0, .ref (a0 0)), (1, .int x1), (2, .int x2)]) hx hb dX7_findMust_11 rfl hl (by decide) rfl (fun ls hl => ?_)
  have L12 : ∀ (n_12 : Nat) (x3_12 : Int32) (s0_12 : ST) (H : Heap) (locs : List Loc) (ls : Array Slot), va_P D vwCl (pM cI cS a0 s0_12) H → va_D (AD (pM cI cS a0 t0)) (pM cI cS a0 s0_12) → va_S (AD (pM cI cS a0 t0)) s.heap H locs → lv_has ls 7 [(0, .ref (a0 0)), (1, .int x1), (2, .int x2), (3, .int x3_12)] → F_X7_findMust_L12 x1 x2 (fun x3_k12 s0_k12 => F_X7_findMust_J113 x1 x2 s0_k12) n_12 x3_12 s0_12 = some t' → W p l e rm_X7_findMust s m [.ref (a0 0), .int x1, .int x2].toArray below meth c H locs 0 0 (MQ below (va_Qv (fun (_ : Unit) => True) (fun _ t => va_P D vwCl (pM cI cS a0 t') t.heap) (AD (pM cI cS a0 t0))) [.ref (a0 0), .int x1, .int x2].toArray s 0 0 (AD (pM cI cS a0 t0))) (F0 m 12 ls []) := by
    intro n_12
    induction n_12 with
    | zero => intro x3_12 s0_12 H locs ls hP hD hS hl hF; exact nomatch hF
    | succ n_12 ih12 =>
      intro x3_12 s0_12 H locs ls hP hD hS hl hF
      rw [F_X7_findMust_L12.eq_2] at hF
      refine lv_iload_n hx hb dX7_findMust_12 rfl (lv_at hl 3 rfl) ?_
      refine lv_iload_n hx hb dX7_findMust_13 rfl (lv_at hl 2 rfl) ?_
      refine lv_icmp_ge (tgt := 113) hx hb dX7_findMust_14 (by decide) (fun c14 => ?_) (fun c14 => ?_)
      · replace hF := ip c14 hF
        have hF : F_X7_findMust_J113 x1 x2 s0_12 = some t' := hF
        unfold F_X7_findMust_J113 at hF
        exact W.vret hx hb hr (fun t ht hW => ⟨⟨(), rfl, trivial, by show va_P _ _ _ t.heap; rw [ht, ← (Option.some.inj hF)]; exact hP⟩, hS.F ht⟩) hS.2.2 dX7_findMust_113
      · replace hF := iq c14 hF
        refine lv_iconst (v := 0) hx hb dX7_findMust_17 (by decide) ?_
        refine lv_istore (lv' := [(4, .int 0), (0, .ref (a0 0)), (1, .int x1), (2, .int x2), (3, .int x3_12)]) hx hb dX7_findMust_18 hl (by decide) rfl (fun ls hl => ?_)
        have L20 : ∀ (n_20 : Nat) (x4_20 : Int32) (s0_20 : ST) (H : Heap) (locs : List Loc) (ls : Array Slot), va_P D vwCl (pM cI cS a0 s0_20) H → va_D (AD (pM cI cS a0 t0)) (pM cI cS a0 s0_20) → va_S (AD (pM cI cS a0 t0)) s.heap H locs → lv_has ls 7 [(0, .ref (a0 0)), (1, .int x1), (2, .int x2), (3, .int x3_12), (4, .int x4_20)] → F_X7_findMust_L20 x1 x2 x3_12 (fun x4_k20 s0_k20 => F_X7_findMust_J107 x1 x2 (F_X7_findMust_L12 x1 x2 (fun x3_k12 s0_k12 => F_X7_findMust_J113 x1 x2 s0_k12) n_12) (fun x3_k12 s0_k12 => F_X7_findMust_J113 x1 x2 s0_k12) x3_12 s0_k20) n_20 x4_20 s0_20 = some t' → W p l e rm_X7_findMust s m [.ref (a0 0), .int x1, .int x2].toArray below meth c H locs 0 0 (MQ below (va_Qv (fun (_ : Unit) => True) (fun _ t => va_P D vwCl (pM cI cS a0 t') t.heap) (AD (pM cI cS a0 t0))) [.ref (a0 0), .int x1, .int x2].toArray s 0 0 (AD (pM cI cS a0 t0))) (F0 m 20 ls []) := by
          intro n_20
          induction n_20 with
          | zero => intro x4_20 s0_20 H locs ls hP hD hS hl hF; exact nomatch hF
          | succ n_20 ih20 =>
            intro x4_20 s0_20 H locs ls hP hD hS hl hF
            rw [F_X7_findMust_L20.eq_2] at hF
            refine lv_iload hx hb dX7_findMust_20 (lv_at hl 4 rfl) ?_
            refine lv_bipush (v := 6) hx hb dX7_findMust_22 (by decide) ?_
            refine lv_icmp_ge (tgt := 107) hx hb dX7_findMust_24 (by decide) (fun c24 => ?_) (fun c24 => ?_)
            · replace hF := ip c24 hF
              have hF : F_X7_findMust_J107 x1 x2 (F_X7_findMust_L12 x1 x2 (fun x3_k12 s0_k12 => F_X7_findMust_J113 x1 x2 s0_k12) n_12) (fun x3_k12 s0_k12 => F_X7_findMust_J113 x1 x2 s0_k12) x3_12 s0_20 = some t' := hF
              unfold F_X7_findMust_J107 at hF
              refine lv_iinc (v := (x3_12 + 1)) (lv' := [(3, .int (x3_12 + 1)), (0, .ref (a0 0)), (1, .int x1), (2, .int x2), (4, .int x4_20)]) hx hb dX7_findMust_107 hl (k := 3) rfl rfl (by decide) rfl (fun ls hl => ?_)
              refine lv_goto (tgt := 12) hx hb dX7_findMust_110 (by decide) ?_
              exact ih12 (x3_12 + 1) s0_20 _ _ _ hP hD hS (lv_sub hl [1, 2, 3, 0] rfl) hF
            · replace hF := iq c24 hF
              refine lv_iconst (v := 1) hx hb dX7_findMust_27 (by decide) ?_
              refine lv_aload_n hx hb dX7_findMust_28 rfl (lv_at hl 0 rfl) ?_
              refine va_get (D := D) (ci := 6) (v := .ref (a0 3)) (C := RX7) (T := TX7) (N := 29) hx hb hts (fun w h => List.mem_cons_of_mem _ (inAX7 w h)) hown hK.1 hP 0 (at_M_0 cI cS _ _) rfl 4 (by decide) (hts _ (List.mem_cons_of_mem _ fl_RX7_16)) (fun _ h9 => h9) rfl dX7_findMust_29 ?_
              refine lv_iload_n hx hb dX7_findMust_32 rfl (lv_at hl 1 rfl) ?_
              refine lv_iload_n hx hb dX7_findMust_33 rfl (lv_at hl 3 rfl) ?_
              refine lv_iadd hx hb dX7_findMust_34 ?_
              refine lv_iconst (v := 1) hx hb dX7_findMust_35 (by decide) ?_
              refine lv_isub hx hb dX7_findMust_36 ?_
              obtain ⟨v37, h37, hF⟩ := bd hF
              refine rI hx hb hK.1 hP 3 0 (at_M_3 cI cS _ _) rfl h37 dX7_findMust_37 ?_
              refine lv_iload hx hb dX7_findMust_38 (lv_at hl 4 rfl) ?_
              obtain ⟨v40, h40, hF⟩ := bd hF
              refine cRe (va_runS (As := [.int v37, .int x4_20]) (rest := [.int 1]) ⟨hx, hb, hml, hown, hts⟩ (c_X7_bitFor l D cI cS v37 x4_20 v40 h40) (cwSA hts (TW.cons _) ls_X7_bitFor ml_RX7_114 ⟨rfl, rfl⟩ ⟨(Nat.le_of_ble_eq_true rfl), (Nat.le_of_ble_eq_true rfl)⟩) (pRS hK pnil) rfl rfl hl.1 rfl (lv_room (Nat.le_of_ble_eq_true rfl)) dX7_findMust_40 ⟨Nat.le_refl _, Nat.le_refl _⟩) ?_
              refine lv_ishl hx hb dX7_findMust_43 ?_
              refine lv_istore (lv' := [(5, .int (1 <<< (v40 &&& 31))), (0, .ref (a0 0)), (1, .int x1), (2, .int x2), (3, .int x3_12), (4, .int x4_20)]) hx hb dX7_findMust_44 hl (by decide) rfl (fun ls hl => ?_)
              refine lv_aload_n hx hb dX7_findMust_46 rfl (lv_at hl 1 rfl) ?_
              refine va_get (D := D) (ci := 6) (v := .ref (a0 3)) (C := RX7) (T := TX7) (N := 29) hx hb hts (fun w h => List.mem_cons_of_mem _ (inAX7 w h)) hown hK.1 hP 0 (at_M_0 cI cS _ _) rfl 4 (by decide) (hts _ (List.mem_cons_of_mem _ fl_RX7_16)) (fun _ h9 => h9) rfl dX7_findMust_47 ?_
              refine lv_iload_n hx hb dX7_findMust_50 rfl (lv_at hl 2 rfl) ?_
              refine lv_iload_n hx hb dX7_findMust_51 rfl (lv_at hl 4 rfl) ?_
              refine lv_iadd hx hb dX7_findMust_52 ?_
              obtain ⟨v53, h53, hF⟩ := bd hF
              refine rI hx hb hK.1 hP 3 0 (at_M_3 cI cS _ _) rfl h53 dX7_findMust_53 ?_
              refine lv_iload hx hb dX7_findMust_54 (lv_at hl 5 rfl) ?_
              obtain ⟨v56, h56, hF⟩ := bd hF
              refine cRb (va_runS (As := [.int v53, .int x4_20]) (rest := []) ⟨hx, hb, hml, hown, hts⟩ (c_X7_isOf l D cI cS v53 x4_20 v56 h56) (cwSA hts (TW.cons _) ls_X7_isOf ml_RX7_144 ⟨rfl, rfl⟩ ⟨(Nat.le_of_ble_eq_true rfl), (Nat.le_of_ble_eq_true rfl)⟩) (pRS hK pnil) rfl rfl hl.1 rfl (lv_room (Nat.le_of_ble_eq_true rfl)) dX7_findMust_56 ⟨Nat.le_refl _, Nat.le_refl _⟩) (fun b56 => ?_)
              refine lv_istore (lv' := [(6, .int v56), (5, .int (1 <<< (v40 &&& 31))), (0, .ref (a0 0)), (1, .int x1), (2, .int x2), (3, .int x3_12), (4, .int x4_20)]) hx hb dX7_findMust_59 hl (by decide) rfl (fun ls hl => ?_)
              refine lv_aload_n hx hb dX7_findMust_61 rfl (lv_at hl 2 rfl) ?_
              refine lv_dup hx hb dX7_findMust_62 rfl ?_
              refine va_get (D := D) (ci := 6) (v := .int (s0_20 0 11)) (C := RX7) (T := TX7) (N := 29) hx hb hts (fun w h => List.mem_cons_of_mem _ (inAX7 w h)) hown hK.1 hP 0 (at_M_0 cI cS _ _) rfl 20 (by decide) (hts _ (List.mem_cons_of_mem _ fl_RX7_181)) (fun _ h9 => h9) rfl dX7_findMust_63 ?_
              refine lv_iload hx hb dX7_findMust_66 (lv_at hl 0 rfl) ?_
              have J77 : ∀ (x4_77 : Int32) (x5_77 : Int32) (x6_77 : Int32) (s0_77 : ST) (z0_77 : Int32) (z1_77 : Int32) (H : Heap) (locs : List Loc) (ls : Array Slot), va_P D vwCl (pM cI cS a0 s0_77) H → va_D (AD (pM cI cS a0 t0)) (pM cI cS a0 s0_77) → va_S (AD (pM cI cS a0 t0)) s.heap H locs → lv_has ls 7 [(0, .ref (a0 0)), (1, .int x1), (2, .int x2), (3, .int x3_12), (4, .int x4_77), (5, .int x5_77), (6, .int x6_77)] → F_X7_findMust_J77 x1 x2 (F_X7_findMust_L20 x1 x2 x3_12 (fun x4_k20 s0_k20 => F_X7_findMust_J107 x1 x2 (F_X7_findMust_L12 x1 x2 (fun x3_k12 s0_k12 => F_X7_findMust_J113 x1 x2 s0_k12) n_12) (fun x3_k12 s0_k12 => F_X7_findMust_J113 x1 x2 s0_k12) x3_12 s0_k20) n_20) (fun x4_k20 s0_k20 => F_X7_findMust_J107 x1 x2 (F_X7_findMust_L12 x1 x2 (fun x3_k12 s0_k12 => F_X7_findMust_J113 x1 x2 s0_k12) n_12) (fun x3_k12 s0_k12 => F_X7_findMust_J113 x1 x2 s0_k12) x3_12 s0_k20) x3_12 x4_77 x5_77 x6_77 s0_77 z0_77 z1_77 = some t' → W p l e rm_X7_findMust s m [.ref (a0 0), .int x1, .int x2].toArray below meth c H locs 0 0 (MQ below (va_Qv (fun (_ : Unit) => True) (fun _ t => va_P D vwCl (pM cI cS a0 t') t.heap) (AD (pM cI cS a0 t0))) [.ref (a0 0), .int x1, .int x2].toArray s 0 0 (AD (pM cI cS a0 t0))) (F0 m 77 ls [.int z0_77, .int z1_77, .ref (a0 0)]) := by
                intro x4_77 x5_77 x6_77 s0_77 z0_77 z1_77 H locs ls hP hD hS hl hF
                unfold F_X7_findMust_J77 at hF
                refine lv_ior hx hb dX7_findMust_77 ?_
                refine wF (ws' := pM cI cS a0 (st s0_77 0 11 (z1_77 ||| z0_77))) (C := RX7) (T := TX7) (N := 29) hx hb hts (fun w h => List.mem_cons_of_mem _ (inAX7 w h)) tyX7 tyX7_ok nmX7 hown hK.1 hP hD hS 0 (at_M_0 cI cS _ _) rfl 20 (by decide) (hts _ (List.mem_cons_of_mem _ fl_RX7_181)) rfl (tyX7_ok 20 (by decide)) rfl rfl (Nat.le_of_ble_eq_true rfl) (sf_M_0_20 cI cS _ _ _) dX7_findMust_78 (fun H locs hP hD hS => ?_)
                refine lv_aload_n hx hb dX7_findMust_81 rfl (lv_at hl 0 rfl) ?_
                refine lv_dup hx hb dX7_findMust_82 rfl ?_
                refine va_get (D := D) (ci := 6) (v := .int (s0_77 0 12)) (C := RX7) (T := TX7) (N := 29) hx hb hts (fun w h => List.mem_cons_of_mem _ (inAX7 w h)) hown hK.1 hP 0 (at_M_0 cI cS _ _) rfl 21 (by decide) (hts _ (List.mem_cons_of_mem _ fl_RX7_184)) (fun _ h9 => h9) rfl dX7_findMust_83 ?_
                refine lv_iload hx hb dX7_findMust_86 (lv_at hl 6 rfl) ?_
                refine lv_if_eq (tgt := 95) hx hb dX7_findMust_88 (by decide) (fun c88 => ?_) (fun c88 => ?_)
                · replace hF := ip c88 hF
                  refine lv_iload hx hb dX7_findMust_95 (lv_at hl 5 rfl) ?_
                  refine lv_ior hx hb dX7_findMust_97 ?_
                  refine wF (ws' := pM cI cS a0 (st (st s0_77 0 11 (z1_77 ||| z0_77)) 0 12 ((s0_77 0 12) ||| x5_77))) (C := RX7) (T := TX7) (N := 29) hx hb hts (fun w h => List.mem_cons_of_mem _ (inAX7 w h)) tyX7 tyX7_ok nmX7 hown hK.1 hP hD hS 0 (at_M_0 cI cS _ _) rfl 21 (by decide) (hts _ (List.mem_cons_of_mem _ fl_RX7_184)) rfl (tyX7_ok 21 (by decide)) rfl rfl (Nat.le_of_ble_eq_true rfl) (sf_M_0_21 cI cS _ _ _) dX7_findMust_98 (fun H locs hP hD hS => ?_)
                  refine lv_iinc (v := (x4_77 + 1)) (lv' := [(4, .int (x4_77 + 1)), (0, .ref (a0 0)), (1, .int x1), (2, .int x2), (3, .int x3_12), (5, .int x5_77), (6, .int x6_77)]) hx hb dX7_findMust_101 hl (k := 4) rfl rfl (by decide) rfl (fun ls hl => ?_)
                  refine lv_goto (tgt := 20) hx hb dX7_findMust_104 (by decide) ?_
                  exact ih20 (x4_77 + 1) (st (st s0_77 0 11 (z1_77 ||| z0_77)) 0 12 ((s0_77 0 12) ||| x5_77)) _ _ _ hP hD hS (lv_sub hl [1, 2, 3, 4, 0] rfl) hF
                · replace hF := iq c88 hF
                  refine lv_iconst (v := 0) hx hb dX7_findMust_91 (by decide) ?_
                  refine lv_goto (tgt := 97) hx hb dX7_findMust_92 (by decide) ?_
                  refine lv_ior hx hb dX7_findMust_97 ?_
                  refine wF (ws' := pM cI cS a0 (st (st s0_77 0 11 (z1_77 ||| z0_77)) 0 12 ((s0_77 0 12) ||| 0))) (C := RX7) (T := TX7) (N := 29) hx hb hts (fun w h => List.mem_cons_of_mem _ (inAX7 w h)) tyX7 tyX7_ok nmX7 hown hK.1 hP hD hS 0 (at_M_0 cI cS _ _) rfl 21 (by decide) (hts _ (List.mem_cons_of_mem _ fl_RX7_184)) rfl (tyX7_ok 21 (by decide)) rfl rfl (Nat.le_of_ble_eq_true rfl) (sf_M_0_21 cI cS _ _ _) dX7_findMust_98 (fun H locs hP hD hS => ?_)
                  refine lv_iinc (v := (x4_77 + 1)) (lv' := [(4, .int (x4_77 + 1)), (0, .ref (a0 0)), (1, .int x1), (2, .int x2), (3, .int x3_12), (5, .int x5_77), (6, .int x6_77)]) hx hb dX7_findMust_101 hl (k := 4) rfl rfl (by decide) rfl (fun ls hl => ?_)
                  refine lv_goto (tgt := 20) hx hb dX7_findMust_104 (by decide) ?_
                  exact ih20 (x4_77 + 1) (st (st s0_77 0 11 (z1_77 ||| z0_77)) 0 12 ((s0_77 0 12) ||| 0)) _ _ _ hP hD hS (lv_sub hl [1, 2, 3, 4, 0] rfl) hF
              refine lv_if_eq (tgt := 76) hx hb dX7_findMust_68 (by decide) (fun c68 => ?_) (fun c68 => ?_)
              · replace hF := ip c68 hF
                refine lv_iconst (v := 0) hx hb dX7_findMust_76 (by decide) ?_
                exact J77 x4_20 (1 <<< (v40 &&& 31)) v56 s0_20 0 (s0_20 0 11) _ _ _ hP hD hS (lv_sub hl [2, 3, 4, 5, 6, 1, 0] rfl) hF
              · replace hF := iq c68 hF
                refine lv_iload hx hb dX7_findMust_71 (lv_at hl 1 rfl) ?_
                refine lv_goto (tgt := 77) hx hb dX7_findMust_73 (by decide) ?_
                exact J77 x4_20 (1 <<< (v40 &&& 31)) v56 s0_20 (1 <<< (v40 &&& 31)) (s0_20 0 11) _ _ _ hP hD hS (lv_sub hl [2, 3, 4, 5, 6, 1, 0] rfl) hF
        exact L20 1000 0 s0_12 _ _ _ hP hD hS (lv_sub hl [1, 2, 3, 4, 0] rfl) hF
  exact L12 1000 1 (st (st t0 0 11 0) 0 12 0) _ _ _ hP hD hS (lv_sub hl [1, 2, 3, 0] rfl) hF
noncomputable def F_X7_laws_L79 (x1 : Int32) (x2 : Int32) (x3 : Int32) (x4 : Int32) (x5 : Int32) (x7 : Int32) (s0 : ST) (k : Int32 → Option (Int32 × ST)) : Nat → Int32 → Option (Int32 × ST)
  | 0, _ => none
  | n + 1, x8 =>
    if x4 ≤ x8 then
      k x8
    else
    (rd 240 (s0 3) (x7 + x8)).bind fun v95 =>
    (F_X7_isShape v95).bind fun v96 =>
    if v96 = 0 then
      some ((-2), s0)
    else
    (F_X7_laws_L79 x1 x2 x3 x4 x5 x7 s0 k n) (x8 + 1)
noncomputable def F_X7_laws_J111 (x1 : Int32) (x2 : Int32) (x3 : Int32) (x4 : Int32) (x5 : Int32) (x7 : Int32) (s0 : ST) : Option (Int32 × ST) :=
  (F_X7_findMust s0 x7 x4).bind fun u116 =>
  if ((u116 0 11) &&& (u116 0 12)) = 0 then
    if x5 = 0 then
      (F_X7_size ((u116 0 11) ||| (u116 0 12))).bind fun v160 =>
      some ((1 <<< ((8 - v160) &&& 31)), u116)
    else
    if x5 = 1 then
      some ((u116 0 11), u116)
    else
    some ((255 &&& ((u116 0 12) ^^^ (-1))), u116)
  else
  if x5 = 0 then
    some (0, u116)
  else
  some ((-9), u116)
noncomputable def F_X7_laws (t0 : ST) (x1 : Int32) (x2 : Int32) (x3 : Int32) (x4 : Int32) (x5 : Int32) : Option (Int32 × ST) :=
  (F_X7_isSheet x1).bind fun v6 =>
  if v6 = 0 then
    some ((-1), (st t0 0 0 0))
  else
  (F_X7_isSort x2).bind fun v15 =>
  if v15 = 0 then
    some ((-2), (st t0 0 0 0))
  else
  (F_X7_within x4 0 20).bind fun v26 =>
  if v26 = 0 then
    some ((-2), (st t0 0 0 0))
  else
  (F_X7_within x5 0 2).bind fun v36 =>
  if v36 = 0 then
    some ((-2), (st t0 0 0 0))
  else
  (F_X7_against (st t0 0 0 0) x1 x2 x3 x4).bind fun v51 =>
  if v51 = 0 then
    F_X7_laws_L79 x1 x2 x3 x4 x5 ((60 * x1) + x3) (st t0 0 0 0) (fun x8_k79 => F_X7_laws_J111 x1 x2 x3 x4 x5 ((60 * x1) + x3) (st t0 0 0 0)) 1000 0
  else
  b2 (F_X7_fails (st t0 0 0 0) v51) fun v64 u64 =>
  some (v64, u64)
abbrev rm_X7_laws : Room := { frames := 2, cells := 0, slots := 0, locals := 49 }
set_option maxHeartbeats 4000000 in
set_option maxRecDepth 100000 in
theorem c_X7_laws (l : Launch) (D : va_G) (cI cS : ClassId) (a0 : Nat → Nat) (t0 : ST) (x1 : Int32) (x2 : Int32) (x3 : Int32) (x4 : Int32) (x5 : Int32) (r : Int32) (t' : ST) (hF : F_X7_laws t0 x1 x2 x3 x4 x5 = some (r, t')) : Met l yX7_laws (Cond.code yX7_laws cX7_laws 9 (some .int) :: ALL) rm_X7_laws (PreW D cI cS [.ref (a0 0), .int x1, .int x2, .int x3, .int x4, .int x5] (pM cI cS a0 t0)) (va_Qi (fun x (_ : Unit) => x = r) (fun _ t => va_P D vwCl (pM cI cS a0 t') t.heap) (AD (pM cI cS a0 t0))) 0 0 (AD (pM cI cS a0 t0)) := by
  refine mW l D cI cS (by decide) (Nat.le_of_ble_eq_true rfl) ?_
  intro p e s m below meth c ls hx hb hr hml hown hts hlocks hP hK hD hS hl
  have hown : s.vm.findClass RX7 = some m.cls := hown
  have hl : lv_has ls 9 [(0, .ref (a0 0)), (1, .int x1), (2, .int x2), (3, .int x3), (4, .int x4), (5, .int x5)] := hl
  unfold F_X7_laws at hF
  refine lv_aload_n hx hb dX7_laws_0 rfl (lv_at hl 0 rfl) ?_
  refine lv_iconst (v := 0) hx hb dX7_laws_1 (by decide) ?_
  refine wF (ws' := pM cI cS a0 (st t0 0 0 0)) (C := RX7) (T := TX7) (N := 29) hx hb hts (fun w h => List.mem_cons_of_mem _ (inAX7 w h)) tyX7 tyX7_ok nmX7 hown hK.1 hP hD hS 0 (at_M_0 cI cS _ _) rfl 0 (by decide) (hts _ (List.mem_cons_of_mem _ fl_RX7_55)) rfl (tyX7_ok 0 (by decide)) rfl rfl (Nat.le_of_ble_eq_true rfl) (sf_M_0_0 cI cS _ _ _) dX7_laws_2 (fun H locs hP hD hS => ?_)
  refine lv_iload_n hx hb dX7_laws_5 rfl (lv_at hl 1 rfl) ?_
  obtain ⟨v6, h6, hF⟩ := bd hF
  refine cRb (va_runS (As := [.int x1]) (rest := []) ⟨hx, hb, hml, hown, hts⟩ (c_X7_isSheet l D cI cS x1 v6 h6) (cwSA hts (TW.cons _) ls_X7_isSheet ml_RX7_71 ⟨rfl, rfl⟩ ⟨(Nat.le_of_ble_eq_true rfl), (Nat.le_of_ble_eq_true rfl)⟩) (pRS hK pnil) rfl rfl hl.1 rfl (lv_room (Nat.le_of_ble_eq_true rfl)) dX7_laws_6 ⟨Nat.le_refl _, Nat.le_refl _⟩) (fun b6 => ?_)
  refine lv_if_ne (tgt := 14) hx hb dX7_laws_9 (by decide) (fun c9 => ?_) (fun c9 => ?_)
  · replace hF := iq c9 hF
    refine lv_iload_n hx hb dX7_laws_14 rfl (lv_at hl 2 rfl) ?_
    obtain ⟨v15, h15, hF⟩ := bd hF
    refine cRb (va_runS (As := [.int x2]) (rest := []) ⟨hx, hb, hml, hown, hts⟩ (c_X7_isSort l D cI cS x2 v15 h15) (cwSA hts (TW.cons _) ls_X7_isSort ml_RX7_75 ⟨rfl, rfl⟩ ⟨(Nat.le_of_ble_eq_true rfl), (Nat.le_of_ble_eq_true rfl)⟩) (pRS hK pnil) rfl rfl hl.1 rfl (lv_room (Nat.le_of_ble_eq_true rfl)) dX7_laws_15 ⟨Nat.le_refl _, Nat.le_refl _⟩) (fun b15 => ?_)
    refine lv_if_eq (tgt := 42) hx hb dX7_laws_18 (by decide) (fun c18 => ?_) (fun c18 => ?_)
    · replace hF := ip c18 hF
      refine lv_bipush (v := (-2)) hx hb dX7_laws_42 (by decide) ?_
      exact W.iret hx hb hr (fun t ht hW => ⟨⟨_, (), rfl, (Prod.mk.inj (Option.some.inj hF)).1, by show va_P _ _ _ t.heap; rw [ht, ← (Prod.mk.inj (Option.some.inj hF)).2]; exact hP⟩, hS.F ht⟩) hS.2.2 dX7_laws_44
    · replace hF := iq c18 hF
      refine lv_iload hx hb dX7_laws_21 (lv_at hl 4 rfl) ?_
      refine lv_iconst (v := 0) hx hb dX7_laws_23 (by decide) ?_
      refine lv_bipush (v := 20) hx hb dX7_laws_24 (by decide) ?_
      obtain ⟨v26, h26, hF⟩ := bd hF
      refine cRb (va_runS (As := [.int x4, .int 0, .int 20]) (rest := []) ⟨hx, hb, hml, hown, hts⟩ (c_X7_within l D cI cS x4 0 20 v26 h26) (cwSA hts (TW.cons _) ls_X7_within ml_RX7_61 ⟨rfl, rfl⟩ ⟨(Nat.le_of_ble_eq_true rfl), (Nat.le_of_ble_eq_true rfl)⟩) (pRS hK pnil) rfl rfl hl.1 rfl (lv_room (Nat.le_of_ble_eq_true rfl)) dX7_laws_26 ⟨Nat.le_refl _, Nat.le_refl _⟩) (fun b26 => ?_)
      refine lv_if_eq (tgt := 42) hx hb dX7_laws_29 (by decide) (fun c29 => ?_) (fun c29 => ?_)
      · replace hF := ip c29 hF
        refine lv_bipush (v := (-2)) hx hb dX7_laws_42 (by decide) ?_
        exact W.iret hx hb hr (fun t ht hW => ⟨⟨_, (), rfl, (Prod.mk.inj (Option.some.inj hF)).1, by show va_P _ _ _ t.heap; rw [ht, ← (Prod.mk.inj (Option.some.inj hF)).2]; exact hP⟩, hS.F ht⟩) hS.2.2 dX7_laws_44
      · replace hF := iq c29 hF
        refine lv_iload hx hb dX7_laws_32 (lv_at hl 5 rfl) ?_
        refine lv_iconst (v := 0) hx hb dX7_laws_34 (by decide) ?_
        refine lv_iconst (v := 2) hx hb dX7_laws_35 (by decide) ?_
        obtain ⟨v36, h36, hF⟩ := bd hF
        refine cRb (va_runS (As := [.int x5, .int 0, .int 2]) (rest := []) ⟨hx, hb, hml, hown, hts⟩ (c_X7_within l D cI cS x5 0 2 v36 h36) (cwSA hts (TW.cons _) ls_X7_within ml_RX7_61 ⟨rfl, rfl⟩ ⟨(Nat.le_of_ble_eq_true rfl), (Nat.le_of_ble_eq_true rfl)⟩) (pRS hK pnil) rfl rfl hl.1 rfl (lv_room (Nat.le_of_ble_eq_true rfl)) dX7_laws_36 ⟨Nat.le_refl _, Nat.le_refl _⟩) (fun b36 => ?_)
        refine lv_if_ne (tgt := 45) hx hb dX7_laws_39 (by decide) (fun c39 => ?_) (fun c39 => ?_)
        · replace hF := iq c39 hF
          refine lv_aload_n hx hb dX7_laws_45 rfl (lv_at hl 0 rfl) ?_
          refine lv_iload_n hx hb dX7_laws_46 rfl (lv_at hl 1 rfl) ?_
          refine lv_iload_n hx hb dX7_laws_47 rfl (lv_at hl 2 rfl) ?_
          refine lv_iload_n hx hb dX7_laws_48 rfl (lv_at hl 3 rfl) ?_
          refine lv_iload hx hb dX7_laws_49 (lv_at hl 4 rfl) ?_
          obtain ⟨v51, h51, hF⟩ := bd hF
          refine cRe (va_runV (As := [.int x1, .int x2, .int x3, .int x4]) (rest := []) ⟨hx, hb, hml, hown, hts⟩ (c_X7_against l D cI cS a0 (st t0 0 0 0) x1 x2 x3 x4 v51 h51) (cwVA hts (TW.cons _) lv_X7_against ml_RX7_78 ⟨rfl, rfl⟩ ⟨(Nat.le_of_ble_eq_true rfl), (Nat.le_of_ble_eq_true rfl)⟩) (pRV hK hP (ci := 6) rfl rfl) rfl rfl hl.1 rfl (lv_room (Nat.le_of_ble_eq_true rfl)) dX7_laws_51 ⟨Nat.le_refl _, Nat.le_refl _⟩) ?_
          refine lv_istore (lv' := [(6, .int v51), (0, .ref (a0 0)), (1, .int x1), (2, .int x2), (3, .int x3), (4, .int x4), (5, .int x5)]) hx hb dX7_laws_54 hl (by decide) rfl (fun ls hl => ?_)
          refine lv_iload hx hb dX7_laws_56 (lv_at hl 0 rfl) ?_
          refine lv_if_eq (tgt := 68) hx hb dX7_laws_58 (by decide) (fun c58 => ?_) (fun c58 => ?_)
          · replace hF := ip c58 hF
            refine lv_bipush (v := 60) hx hb dX7_laws_68 (by decide) ?_
            refine lv_iload_n hx hb dX7_laws_70 rfl (lv_at hl 2 rfl) ?_
            refine lv_imul hx hb dX7_laws_71 ?_
            refine lv_iload_n hx hb dX7_laws_72 rfl (lv_at hl 4 rfl) ?_
            refine lv_iadd hx hb dX7_laws_73 ?_
            refine lv_istore (lv' := [(7, .int ((60 * x1) + x3)), (6, .int v51), (0, .ref (a0 0)), (1, .int x1), (2, .int x2), (3, .int x3), (4, .int x4), (5, .int x5)]) hx hb dX7_laws_74 hl (by decide) rfl (fun ls hl => ?_)
            refine lv_iconst (v := 0) hx hb dX7_laws_76 (by decide) ?_
            refine lv_istore (lv' := [(8, .int 0), (7, .int ((60 * x1) + x3)), (6, .int v51), (0, .ref (a0 0)), (1, .int x1), (2, .int x2), (3, .int x3), (4, .int x4), (5, .int x5)]) hx hb dX7_laws_77 hl (by decide) rfl (fun ls hl => ?_)
            have L79 : ∀ (n_79 : Nat) (x8_79 : Int32) (H : Heap) (locs : List Loc) (ls : Array Slot), va_P D vwCl (pM cI cS a0 (st t0 0 0 0)) H → va_D (AD (pM cI cS a0 t0)) (pM cI cS a0 (st t0 0 0 0)) → va_S (AD (pM cI cS a0 t0)) s.heap H locs → lv_has ls 9 [(0, .ref (a0 0)), (4, .int x4), (5, .int x5), (7, .int ((60 * x1) + x3)), (8, .int x8_79)] → F_X7_laws_L79 x1 x2 x3 x4 x5 ((60 * x1) + x3) (st t0 0 0 0) (fun x8_k79 => F_X7_laws_J111 x1 x2 x3 x4 x5 ((60 * x1) + x3) (st t0 0 0 0)) n_79 x8_79 = some (r, t') → W p l e rm_X7_laws s m [.ref (a0 0), .int x1, .int x2, .int x3, .int x4, .int x5].toArray below meth c H locs 0 0 (MQ below (va_Qi (fun x (_ : Unit) => x = r) (fun _ t => va_P D vwCl (pM cI cS a0 t') t.heap) (AD (pM cI cS a0 t0))) [.ref (a0 0), .int x1, .int x2, .int x3, .int x4, .int x5].toArray s 0 0 (AD (pM cI cS a0 t0))) (F0 m 79 ls []) := by
              intro n_79
              induction n_79 with
              | zero => intro x8_79 H locs ls hP hD hS hl hF; exact nomatch hF
              | succ n_79 ih79 =>
                intro x8_79 H locs ls hP hD hS hl hF
                rw [F_X7_laws_L79.eq_2] at hF
                refine lv_iload hx hb dX7_laws_79 (lv_at hl 4 rfl) ?_
                refine lv_iload hx hb dX7_laws_81 (lv_at hl 1 rfl) ?_
                refine lv_icmp_ge (tgt := 111) hx hb dX7_laws_83 (by decide) (fun c83 => ?_) (fun c83 => ?_)
                · replace hF := ip c83 hF
                  have hF : F_X7_laws_J111 x1 x2 x3 x4 x5 ((60 * x1) + x3) (st t0 0 0 0) = some (r, t') := hF
                  unfold F_X7_laws_J111 at hF
                  refine lv_aload_n hx hb dX7_laws_111 rfl (lv_at hl 0 rfl) ?_
                  refine lv_iload hx hb dX7_laws_112 (lv_at hl 3 rfl) ?_
                  refine lv_iload hx hb dX7_laws_114 (lv_at hl 1 rfl) ?_
                  obtain ⟨u116, h116, hF⟩ := bd hF
                  refine cAv (ws' := pM cI cS a0 u116) (va_runV (As := [.int ((60 * x1) + x3), .int x4]) (rest := []) ⟨hx, hb, hml, hown, hts⟩ (c_X7_findMust l D cI cS a0 (st t0 0 0 0) ((60 * x1) + x3) x4 u116 h116) (cwVA hts (TW.cons _) lv_X7_findMust ml_RX7_187 ⟨rfl, rfl⟩ ⟨(Nat.le_of_ble_eq_true rfl), (Nat.le_of_ble_eq_true rfl)⟩) (pWV hK hP hD (ci := 6) rfl rfl) rfl rfl hl.1 rfl (lv_room (Nat.le_of_ble_eq_true rfl)) dX7_laws_116 ⟨Nat.le_refl _, Nat.le_refl _⟩) hD hS (ad_M cI cS _ _ _) (fun H locs hP hD hS => ?_)
                  refine lv_aload_n hx hb dX7_laws_119 rfl (lv_at hl 0 rfl) ?_
                  refine va_get (D := D) (ci := 6) (v := .int (u116 0 11)) (C := RX7) (T := TX7) (N := 29) hx hb hts (fun w h => List.mem_cons_of_mem _ (inAX7 w h)) hown hK.1 hP 0 (at_M_0 cI cS _ _) rfl 20 (by decide) (hts _ (List.mem_cons_of_mem _ fl_RX7_181)) (fun _ h9 => h9) rfl dX7_laws_120 ?_
                  refine lv_aload_n hx hb dX7_laws_123 rfl (lv_at hl 0 rfl) ?_
                  refine va_get (D := D) (ci := 6) (v := .int (u116 0 12)) (C := RX7) (T := TX7) (N := 29) hx hb hts (fun w h => List.mem_cons_of_mem _ (inAX7 w h)) hown hK.1 hP 0 (at_M_0 cI cS _ _) rfl 21 (by decide) (hts _ (List.mem_cons_of_mem _ fl_RX7_184)) (fun _ h9 => h9) rfl dX7_laws_124 ?_
                  refine lv_iand hx hb dX7_laws_127 ?_
                  refine lv_if_eq (tgt := 143) hx hb dX7_laws_128 (by decide) (fun c128 => ?_) (fun c128 => ?_)
                  · replace hF := ip c128 hF
                    refine lv_iload hx hb dX7_laws_143 (lv_at hl 2 rfl) ?_
                    refine lv_if_ne (tgt := 168) hx hb dX7_laws_145 (by decide) (fun c145 => ?_) (fun c145 => ?_)
                    · replace hF := iq c145 hF
                      refine lv_iload hx hb dX7_laws_168 (lv_at hl 2 rfl) ?_
                      refine lv_iconst (v := 1) hx hb dX7_laws_170 (by decide) ?_
                      refine lv_icmp_ne (tgt := 181) hx hb dX7_laws_171 (by decide) (fun c171 => ?_) (fun c171 => ?_)
                      · replace hF := iq c171 hF
                        refine lv_sipush (v := 255) hx hb dX7_laws_181 (by decide) ?_
                        refine lv_aload_n hx hb dX7_laws_184 rfl (lv_at hl 0 rfl) ?_
                        refine va_get (D := D) (ci := 6) (v := .int (u116 0 12)) (C := RX7) (T := TX7) (N := 29) hx hb hts (fun w h => List.mem_cons_of_mem _ (inAX7 w h)) hown hK.1 hP 0 (at_M_0 cI cS _ _) rfl 21 (by decide) (hts _ (List.mem_cons_of_mem _ fl_RX7_184)) (fun _ h9 => h9) rfl dX7_laws_185 ?_
                        refine lv_iconst (v := (-1)) hx hb dX7_laws_188 (by decide) ?_
                        refine lv_ixor hx hb dX7_laws_189 ?_
                        refine lv_iand hx hb dX7_laws_190 ?_
                        exact W.iret hx hb hr (fun t ht hW => ⟨⟨_, (), rfl, (Prod.mk.inj (Option.some.inj hF)).1, by show va_P _ _ _ t.heap; rw [ht, ← (Prod.mk.inj (Option.some.inj hF)).2]; exact hP⟩, hS.F ht⟩) hS.2.2 dX7_laws_191
                      · replace hF := ip c171 hF
                        refine lv_aload_n hx hb dX7_laws_174 rfl (lv_at hl 0 rfl) ?_
                        refine va_get (D := D) (ci := 6) (v := .int (u116 0 11)) (C := RX7) (T := TX7) (N := 29) hx hb hts (fun w h => List.mem_cons_of_mem _ (inAX7 w h)) hown hK.1 hP 0 (at_M_0 cI cS _ _) rfl 20 (by decide) (hts _ (List.mem_cons_of_mem _ fl_RX7_181)) (fun _ h9 => h9) rfl dX7_laws_175 ?_
                        refine lv_goto (tgt := 191) hx hb dX7_laws_178 (by decide) ?_
                        exact W.iret hx hb hr (fun t ht hW => ⟨⟨_, (), rfl, (Prod.mk.inj (Option.some.inj hF)).1, by show va_P _ _ _ t.heap; rw [ht, ← (Prod.mk.inj (Option.some.inj hF)).2]; exact hP⟩, hS.F ht⟩) hS.2.2 dX7_laws_191
                    · replace hF := ip c145 hF
                      refine lv_iconst (v := 1) hx hb dX7_laws_148 (by decide) ?_
                      refine lv_bipush (v := 8) hx hb dX7_laws_149 (by decide) ?_
                      refine lv_aload_n hx hb dX7_laws_151 rfl (lv_at hl 0 rfl) ?_
                      refine va_get (D := D) (ci := 6) (v := .int (u116 0 11)) (C := RX7) (T := TX7) (N := 29) hx hb hts (fun w h => List.mem_cons_of_mem _ (inAX7 w h)) hown hK.1 hP 0 (at_M_0 cI cS _ _) rfl 20 (by decide) (hts _ (List.mem_cons_of_mem _ fl_RX7_181)) (fun _ h9 => h9) rfl dX7_laws_152 ?_
                      refine lv_aload_n hx hb dX7_laws_155 rfl (lv_at hl 0 rfl) ?_
                      refine va_get (D := D) (ci := 6) (v := .int (u116 0 12)) (C := RX7) (T := TX7) (N := 29) hx hb hts (fun w h => List.mem_cons_of_mem _ (inAX7 w h)) hown hK.1 hP 0 (at_M_0 cI cS _ _) rfl 21 (by decide) (hts _ (List.mem_cons_of_mem _ fl_RX7_184)) (fun _ h9 => h9) rfl dX7_laws_156 ?_
                      refine lv_ior hx hb dX7_laws_159 ?_
                      obtain ⟨v160, h160, hF⟩ := bd hF
                      refine cRe (va_runS (As := [.int ((u116 0 11) ||| (u116 0 12))]) (rest := [.int 8, .int 1]) ⟨hx, hb, hml, hown, hts⟩ (c_X7_size l D cI cS ((u116 0 11) ||| (u116 0 12)) v160 h160) (cwSA hts (TW.cons _) ls_X7_size ml_RX7_138 ⟨rfl, rfl⟩ ⟨(Nat.le_of_ble_eq_true rfl), (Nat.le_of_ble_eq_true rfl)⟩) (pRS hK pnil) rfl rfl hl.1 rfl (lv_room (Nat.le_of_ble_eq_true rfl)) dX7_laws_160 ⟨Nat.le_refl _, Nat.le_refl _⟩) ?_
                      refine lv_isub hx hb dX7_laws_163 ?_
                      refine lv_ishl hx hb dX7_laws_164 ?_
                      refine lv_goto (tgt := 191) hx hb dX7_laws_165 (by decide) ?_
                      exact W.iret hx hb hr (fun t ht hW => ⟨⟨_, (), rfl, (Prod.mk.inj (Option.some.inj hF)).1, by show va_P _ _ _ t.heap; rw [ht, ← (Prod.mk.inj (Option.some.inj hF)).2]; exact hP⟩, hS.F ht⟩) hS.2.2 dX7_laws_191
                  · replace hF := iq c128 hF
                    refine lv_iload hx hb dX7_laws_131 (lv_at hl 2 rfl) ?_
                    refine lv_if_ne (tgt := 140) hx hb dX7_laws_133 (by decide) (fun c133 => ?_) (fun c133 => ?_)
                    · replace hF := iq c133 hF
                      refine lv_bipush (v := (-9)) hx hb dX7_laws_140 (by decide) ?_
                      exact W.iret hx hb hr (fun t ht hW => ⟨⟨_, (), rfl, (Prod.mk.inj (Option.some.inj hF)).1, by show va_P _ _ _ t.heap; rw [ht, ← (Prod.mk.inj (Option.some.inj hF)).2]; exact hP⟩, hS.F ht⟩) hS.2.2 dX7_laws_142
                    · replace hF := ip c133 hF
                      refine lv_iconst (v := 0) hx hb dX7_laws_136 (by decide) ?_
                      refine lv_goto (tgt := 142) hx hb dX7_laws_137 (by decide) ?_
                      exact W.iret hx hb hr (fun t ht hW => ⟨⟨_, (), rfl, (Prod.mk.inj (Option.some.inj hF)).1, by show va_P _ _ _ t.heap; rw [ht, ← (Prod.mk.inj (Option.some.inj hF)).2]; exact hP⟩, hS.F ht⟩) hS.2.2 dX7_laws_142
                · replace hF := iq c83 hF
                  refine lv_aload_n hx hb dX7_laws_86 rfl (lv_at hl 0 rfl) ?_
                  refine va_get (D := D) (ci := 6) (v := .ref (a0 3)) (C := RX7) (T := TX7) (N := 29) hx hb hts (fun w h => List.mem_cons_of_mem _ (inAX7 w h)) hown hK.1 hP 0 (at_M_0 cI cS _ _) rfl 4 (by decide) (hts _ (List.mem_cons_of_mem _ fl_RX7_16)) (fun _ h9 => h9) rfl dX7_laws_87 ?_
                  refine lv_iload hx hb dX7_laws_90 (lv_at hl 3 rfl) ?_
                  refine lv_iload hx hb dX7_laws_92 (lv_at hl 4 rfl) ?_
                  refine lv_iadd hx hb dX7_laws_94 ?_
                  obtain ⟨v95, h95, hF⟩ := bd hF
                  refine rI hx hb hK.1 hP 3 0 (at_M_3 cI cS _ _) rfl h95 dX7_laws_95 ?_
                  obtain ⟨v96, h96, hF⟩ := bd hF
                  refine cRb (va_runS (As := [.int v95]) (rest := []) ⟨hx, hb, hml, hown, hts⟩ (c_X7_isShape l D cI cS v95 v96 h96) (cwSA hts (TW.cons _) ls_X7_isShape ml_RX7_141 ⟨rfl, rfl⟩ ⟨(Nat.le_of_ble_eq_true rfl), (Nat.le_of_ble_eq_true rfl)⟩) (pRS hK pnil) rfl rfl hl.1 rfl (lv_room (Nat.le_of_ble_eq_true rfl)) dX7_laws_96 ⟨Nat.le_refl _, Nat.le_refl _⟩) (fun b96 => ?_)
                  refine lv_if_ne (tgt := 105) hx hb dX7_laws_99 (by decide) (fun c99 => ?_) (fun c99 => ?_)
                  · replace hF := iq c99 hF
                    refine lv_iinc (v := (x8_79 + 1)) (lv' := [(8, .int (x8_79 + 1)), (0, .ref (a0 0)), (4, .int x4), (5, .int x5), (7, .int ((60 * x1) + x3))]) hx hb dX7_laws_105 hl (k := 4) rfl rfl (by decide) rfl (fun ls hl => ?_)
                    refine lv_goto (tgt := 79) hx hb dX7_laws_108 (by decide) ?_
                    exact ih79 (x8_79 + 1) _ _ _ hP hD hS (lv_sub hl [1, 2, 3, 4, 0] rfl) hF
                  · replace hF := ip c99 hF
                    refine lv_bipush (v := (-2)) hx hb dX7_laws_102 (by decide) ?_
                    exact W.iret hx hb hr (fun t ht hW => ⟨⟨_, (), rfl, (Prod.mk.inj (Option.some.inj hF)).1, by show va_P _ _ _ t.heap; rw [ht, ← (Prod.mk.inj (Option.some.inj hF)).2]; exact hP⟩, hS.F ht⟩) hS.2.2 dX7_laws_104
            exact L79 1000 0 _ _ _ hP hD hS (lv_sub hl [3, 7, 8, 1, 0] rfl) hF
          · replace hF := iq c58 hF
            refine lv_aload_n hx hb dX7_laws_61 rfl (lv_at hl 1 rfl) ?_
            refine lv_iload hx hb dX7_laws_62 (lv_at hl 0 rfl) ?_
            obtain ⟨v64, u64, h64, hF⟩ := bd2 hF
            refine cAe (ws' := pM cI cS a0 u64) (va_runV (As := [.int v51]) (rest := []) ⟨hx, hb, hml, hown, hts⟩ (c_X7_fails l D cI cS a0 (st t0 0 0 0) v51 v64 u64 h64) (cwVA hts (TW.cons _) lv_X7_fails ml_RX7_82 ⟨rfl, rfl⟩ ⟨(Nat.le_of_ble_eq_true rfl), (Nat.le_of_ble_eq_true rfl)⟩) (pWV hK hP hD (ci := 6) rfl rfl) rfl rfl hl.1 rfl (lv_room (Nat.le_of_ble_eq_true rfl)) dX7_laws_64 ⟨Nat.le_refl _, Nat.le_refl _⟩) hD hS (ad_M cI cS _ _ _) (fun H locs hP hD hS => ?_)
            exact W.iret hx hb hr (fun t ht hW => ⟨⟨_, (), rfl, (Prod.mk.inj (Option.some.inj hF)).1, by show va_P _ _ _ t.heap; rw [ht, ← (Prod.mk.inj (Option.some.inj hF)).2]; exact hP⟩, hS.F ht⟩) hS.2.2 dX7_laws_67
        · replace hF := ip c39 hF
          refine lv_bipush (v := (-2)) hx hb dX7_laws_42 (by decide) ?_
          exact W.iret hx hb hr (fun t ht hW => ⟨⟨_, (), rfl, (Prod.mk.inj (Option.some.inj hF)).1, by show va_P _ _ _ t.heap; rw [ht, ← (Prod.mk.inj (Option.some.inj hF)).2]; exact hP⟩, hS.F ht⟩) hS.2.2 dX7_laws_44
  · replace hF := ip c9 hF
    refine lv_iconst (v := (-1)) hx hb dX7_laws_12 (by decide) ?_
    exact W.iret hx hb hr (fun t ht hW => ⟨⟨_, (), rfl, (Prod.mk.inj (Option.some.inj hF)).1, by show va_P _ _ _ t.heap; rw [ht, ← (Prod.mk.inj (Option.some.inj hF)).2]; exact hP⟩, hS.F ht⟩) hS.2.2 dX7_laws_13
noncomputable def F_X7_reading (t0 : ST) (x1 : Int32) (x2 : Int32) (x3 : Int32) : Option (Int32 × ST) :=
  (F_X7_isBlock t0 x1).bind fun v2 =>
  if v2 = 0 then
    some ((-1), t0)
  else
  (F_X7_within x2 0 99).bind fun v14 =>
  if v14 = 0 then
    some ((-2), t0)
  else
  (F_X7_isShape x3).bind fun v21 =>
  if v21 = 0 then
    some ((-2), t0)
  else
  if (t0 0 13) = 8 then
    some ((-4), t0)
  else
  (ix 8 (t0 0 13)).bind fun k51 =>
  (ix 8 (t0 0 13)).bind fun k61 =>
  (ix 8 (t0 0 13)).bind fun k71 =>
  some ((((t0 0 13) + 1) - 1), (st (st (st (st t0 10 k51 x1) 11 k61 x2) 12 k71 x3) 0 13 ((t0 0 13) + 1)))
abbrev rm_X7_reading : Room := { frames := 2, cells := 0, slots := 0, locals := 42 }
set_option maxHeartbeats 4000000 in
set_option maxRecDepth 100000 in
theorem c_X7_reading (l : Launch) (D : va_G) (cI cS : ClassId) (a0 : Nat → Nat) (t0 : ST) (x1 : Int32) (x2 : Int32) (x3 : Int32) (r : Int32) (t' : ST) (hF : F_X7_reading t0 x1 x2 x3 = some (r, t')) : Met l yX7_reading (Cond.code yX7_reading cX7_reading 4 (some .int) :: ALL) rm_X7_reading (PreW D cI cS [.ref (a0 0), .int x1, .int x2, .int x3] (pM cI cS a0 t0)) (va_Qi (fun x (_ : Unit) => x = r) (fun _ t => va_P D vwCl (pM cI cS a0 t') t.heap) (AD (pM cI cS a0 t0))) 0 0 (AD (pM cI cS a0 t0)) := by
  refine mW l D cI cS (by decide) (Nat.le_of_ble_eq_true rfl) ?_
  intro p e s m below meth c ls hx hb hr hml hown hts hlocks hP hK hD hS hl
  have hown : s.vm.findClass RX7 = some m.cls := hown
  have hl : lv_has ls 4 [(0, .ref (a0 0)), (1, .int x1), (2, .int x2), (3, .int x3)] := hl
  unfold F_X7_reading at hF
  refine lv_aload_n hx hb dX7_reading_0 rfl (lv_at hl 0 rfl) ?_
  refine lv_iload_n hx hb dX7_reading_1 rfl (lv_at hl 1 rfl) ?_
  obtain ⟨v2, h2, hF⟩ := bd hF
  refine cRb (va_runV (As := [.int x1]) (rest := []) ⟨hx, hb, hml, hown, hts⟩ (c_X7_isBlock l D cI cS a0 t0 x1 v2 h2) (cwVA hts (TW.cons _) lv_X7_isBlock ml_RX7_132 ⟨rfl, rfl⟩ ⟨(Nat.le_of_ble_eq_true rfl), (Nat.le_of_ble_eq_true rfl)⟩) (pRV hK hP (ci := 6) rfl rfl) rfl rfl hl.1 rfl (lv_room (Nat.le_of_ble_eq_true rfl)) dX7_reading_2 ⟨Nat.le_refl _, Nat.le_refl _⟩) (fun b2 => ?_)
  refine lv_if_ne (tgt := 10) hx hb dX7_reading_5 (by decide) (fun c5 => ?_) (fun c5 => ?_)
  · replace hF := iq c5 hF
    refine lv_iload_n hx hb dX7_reading_10 rfl (lv_at hl 2 rfl) ?_
    refine lv_iconst (v := 0) hx hb dX7_reading_11 (by decide) ?_
    refine lv_bipush (v := 99) hx hb dX7_reading_12 (by decide) ?_
    obtain ⟨v14, h14, hF⟩ := bd hF
    refine cRb (va_runS (As := [.int x2, .int 0, .int 99]) (rest := []) ⟨hx, hb, hml, hown, hts⟩ (c_X7_within l D cI cS x2 0 99 v14 h14) (cwSA hts (TW.cons _) ls_X7_within ml_RX7_61 ⟨rfl, rfl⟩ ⟨(Nat.le_of_ble_eq_true rfl), (Nat.le_of_ble_eq_true rfl)⟩) (pRS hK pnil) rfl rfl hl.1 rfl (lv_room (Nat.le_of_ble_eq_true rfl)) dX7_reading_14 ⟨Nat.le_refl _, Nat.le_refl _⟩) (fun b14 => ?_)
    refine lv_if_eq (tgt := 27) hx hb dX7_reading_17 (by decide) (fun c17 => ?_) (fun c17 => ?_)
    · replace hF := ip c17 hF
      refine lv_bipush (v := (-2)) hx hb dX7_reading_27 (by decide) ?_
      exact W.iret hx hb hr (fun t ht hW => ⟨⟨_, (), rfl, (Prod.mk.inj (Option.some.inj hF)).1, by show va_P _ _ _ t.heap; rw [ht, ← (Prod.mk.inj (Option.some.inj hF)).2]; exact hP⟩, hS.F ht⟩) hS.2.2 dX7_reading_29
    · replace hF := iq c17 hF
      refine lv_iload_n hx hb dX7_reading_20 rfl (lv_at hl 3 rfl) ?_
      obtain ⟨v21, h21, hF⟩ := bd hF
      refine cRb (va_runS (As := [.int x3]) (rest := []) ⟨hx, hb, hml, hown, hts⟩ (c_X7_isShape l D cI cS x3 v21 h21) (cwSA hts (TW.cons _) ls_X7_isShape ml_RX7_141 ⟨rfl, rfl⟩ ⟨(Nat.le_of_ble_eq_true rfl), (Nat.le_of_ble_eq_true rfl)⟩) (pRS hK pnil) rfl rfl hl.1 rfl (lv_room (Nat.le_of_ble_eq_true rfl)) dX7_reading_21 ⟨Nat.le_refl _, Nat.le_refl _⟩) (fun b21 => ?_)
      refine lv_if_ne (tgt := 30) hx hb dX7_reading_24 (by decide) (fun c24 => ?_) (fun c24 => ?_)
      · replace hF := iq c24 hF
        refine lv_aload_n hx hb dX7_reading_30 rfl (lv_at hl 0 rfl) ?_
        refine va_get (D := D) (ci := 6) (v := .int (t0 0 13)) (C := RX7) (T := TX7) (N := 29) hx hb hts (fun w h => List.mem_cons_of_mem _ (inAX7 w h)) hown hK.1 hP 0 (at_M_0 cI cS _ _) rfl 22 (by decide) (hts _ (List.mem_cons_of_mem _ fl_RX7_108)) (fun _ h9 => h9) rfl dX7_reading_31 ?_
        refine lv_bipush (v := 8) hx hb dX7_reading_34 (by decide) ?_
        refine lv_icmp_ne (tgt := 42) hx hb dX7_reading_36 (by decide) (fun c36 => ?_) (fun c36 => ?_)
        · replace hF := iq c36 hF
          refine lv_aload_n hx hb dX7_reading_42 rfl (lv_at hl 0 rfl) ?_
          refine va_get (D := D) (ci := 6) (v := .ref (a0 10)) (C := RX7) (T := TX7) (N := 29) hx hb hts (fun w h => List.mem_cons_of_mem _ (inAX7 w h)) hown hK.1 hP 0 (at_M_0 cI cS _ _) rfl 23 (by decide) (hts _ (List.mem_cons_of_mem _ fl_RX7_37)) (fun _ h9 => h9) rfl dX7_reading_43 ?_
          refine lv_aload_n hx hb dX7_reading_46 rfl (lv_at hl 0 rfl) ?_
          refine va_get (D := D) (ci := 6) (v := .int (t0 0 13)) (C := RX7) (T := TX7) (N := 29) hx hb hts (fun w h => List.mem_cons_of_mem _ (inAX7 w h)) hown hK.1 hP 0 (at_M_0 cI cS _ _) rfl 22 (by decide) (hts _ (List.mem_cons_of_mem _ fl_RX7_108)) (fun _ h9 => h9) rfl dX7_reading_47 ?_
          refine lv_iload_n hx hb dX7_reading_50 rfl (lv_at hl 1 rfl) ?_
          obtain ⟨k51, h51, hF⟩ := bd hF
          refine wI (ws' := pM cI cS a0 (st t0 10 k51 x1)) hx hb hK.1 hP hD hS 10 0 (at_M_10 cI cS _ _) rfl h51 (sw_M_10 cI cS _ _ _ _) dX7_reading_51 (fun H locs hP hD hS => ?_)
          refine lv_aload_n hx hb dX7_reading_52 rfl (lv_at hl 0 rfl) ?_
          refine va_get (D := D) (ci := 6) (v := .ref (a0 11)) (C := RX7) (T := TX7) (N := 29) hx hb hts (fun w h => List.mem_cons_of_mem _ (inAX7 w h)) hown hK.1 hP 0 (at_M_0 cI cS _ _) rfl 24 (by decide) (hts _ (List.mem_cons_of_mem _ fl_RX7_40)) (fun _ h9 => h9) rfl dX7_reading_53 ?_
          refine lv_aload_n hx hb dX7_reading_56 rfl (lv_at hl 0 rfl) ?_
          refine va_get (D := D) (ci := 6) (v := .int (t0 0 13)) (C := RX7) (T := TX7) (N := 29) hx hb hts (fun w h => List.mem_cons_of_mem _ (inAX7 w h)) hown hK.1 hP 0 (at_M_0 cI cS _ _) rfl 22 (by decide) (hts _ (List.mem_cons_of_mem _ fl_RX7_108)) (fun _ h9 => h9) rfl dX7_reading_57 ?_
          refine lv_iload_n hx hb dX7_reading_60 rfl (lv_at hl 2 rfl) ?_
          obtain ⟨k61, h61, hF⟩ := bd hF
          refine wI (ws' := pM cI cS a0 (st (st t0 10 k51 x1) 11 k61 x2)) hx hb hK.1 hP hD hS 11 0 (at_M_11 cI cS _ _) rfl h61 (sw_M_11 cI cS _ _ _ _) dX7_reading_61 (fun H locs hP hD hS => ?_)
          refine lv_aload_n hx hb dX7_reading_62 rfl (lv_at hl 0 rfl) ?_
          refine va_get (D := D) (ci := 6) (v := .ref (a0 12)) (C := RX7) (T := TX7) (N := 29) hx hb hts (fun w h => List.mem_cons_of_mem _ (inAX7 w h)) hown hK.1 hP 0 (at_M_0 cI cS _ _) rfl 25 (by decide) (hts _ (List.mem_cons_of_mem _ fl_RX7_43)) (fun _ h9 => h9) rfl dX7_reading_63 ?_
          refine lv_aload_n hx hb dX7_reading_66 rfl (lv_at hl 0 rfl) ?_
          refine va_get (D := D) (ci := 6) (v := .int (t0 0 13)) (C := RX7) (T := TX7) (N := 29) hx hb hts (fun w h => List.mem_cons_of_mem _ (inAX7 w h)) hown hK.1 hP 0 (at_M_0 cI cS _ _) rfl 22 (by decide) (hts _ (List.mem_cons_of_mem _ fl_RX7_108)) (fun _ h9 => h9) rfl dX7_reading_67 ?_
          refine lv_iload_n hx hb dX7_reading_70 rfl (lv_at hl 3 rfl) ?_
          obtain ⟨k71, h71, hF⟩ := bd hF
          refine wI (ws' := pM cI cS a0 (st (st (st t0 10 k51 x1) 11 k61 x2) 12 k71 x3)) hx hb hK.1 hP hD hS 12 0 (at_M_12 cI cS _ _) rfl h71 (sw_M_12 cI cS _ _ _ _) dX7_reading_71 (fun H locs hP hD hS => ?_)
          refine lv_aload_n hx hb dX7_reading_72 rfl (lv_at hl 0 rfl) ?_
          refine lv_dup hx hb dX7_reading_73 rfl ?_
          refine va_get (D := D) (ci := 6) (v := .int (t0 0 13)) (C := RX7) (T := TX7) (N := 29) hx hb hts (fun w h => List.mem_cons_of_mem _ (inAX7 w h)) hown hK.1 hP 0 (at_M_0 cI cS _ _) rfl 22 (by decide) (hts _ (List.mem_cons_of_mem _ fl_RX7_108)) (fun _ h9 => h9) rfl dX7_reading_74 ?_
          refine lv_iconst (v := 1) hx hb dX7_reading_77 (by decide) ?_
          refine lv_iadd hx hb dX7_reading_78 ?_
          refine wF (ws' := pM cI cS a0 (st (st (st (st t0 10 k51 x1) 11 k61 x2) 12 k71 x3) 0 13 ((t0 0 13) + 1))) (C := RX7) (T := TX7) (N := 29) hx hb hts (fun w h => List.mem_cons_of_mem _ (inAX7 w h)) tyX7 tyX7_ok nmX7 hown hK.1 hP hD hS 0 (at_M_0 cI cS _ _) rfl 22 (by decide) (hts _ (List.mem_cons_of_mem _ fl_RX7_108)) rfl (tyX7_ok 22 (by decide)) rfl rfl (Nat.le_of_ble_eq_true rfl) (sf_M_0_22 cI cS _ _ _) dX7_reading_79 (fun H locs hP hD hS => ?_)
          refine lv_aload_n hx hb dX7_reading_82 rfl (lv_at hl 0 rfl) ?_
          refine va_get (D := D) (ci := 6) (v := .int ((t0 0 13) + 1)) (C := RX7) (T := TX7) (N := 29) hx hb hts (fun w h => List.mem_cons_of_mem _ (inAX7 w h)) hown hK.1 hP 0 (at_M_0 cI cS _ _) rfl 22 (by decide) (hts _ (List.mem_cons_of_mem _ fl_RX7_108)) (fun _ h9 => h9) rfl dX7_reading_83 ?_
          refine lv_iconst (v := 1) hx hb dX7_reading_86 (by decide) ?_
          refine lv_isub hx hb dX7_reading_87 ?_
          exact W.iret hx hb hr (fun t ht hW => ⟨⟨_, (), rfl, (Prod.mk.inj (Option.some.inj hF)).1, by show va_P _ _ _ t.heap; rw [ht, ← (Prod.mk.inj (Option.some.inj hF)).2]; exact hP⟩, hS.F ht⟩) hS.2.2 dX7_reading_88
        · replace hF := ip c36 hF
          refine lv_bipush (v := (-4)) hx hb dX7_reading_39 (by decide) ?_
          exact W.iret hx hb hr (fun t ht hW => ⟨⟨_, (), rfl, (Prod.mk.inj (Option.some.inj hF)).1, by show va_P _ _ _ t.heap; rw [ht, ← (Prod.mk.inj (Option.some.inj hF)).2]; exact hP⟩, hS.F ht⟩) hS.2.2 dX7_reading_41
      · replace hF := ip c24 hF
        refine lv_bipush (v := (-2)) hx hb dX7_reading_27 (by decide) ?_
        exact W.iret hx hb hr (fun t ht hW => ⟨⟨_, (), rfl, (Prod.mk.inj (Option.some.inj hF)).1, by show va_P _ _ _ t.heap; rw [ht, ← (Prod.mk.inj (Option.some.inj hF)).2]; exact hP⟩, hS.F ht⟩) hS.2.2 dX7_reading_29
  · replace hF := ip c5 hF
    refine lv_iconst (v := (-1)) hx hb dX7_reading_8 (by decide) ?_
    exact W.iret hx hb hr (fun t ht hW => ⟨⟨_, (), rfl, (Prod.mk.inj (Option.some.inj hF)).1, by show va_P _ _ _ t.heap; rw [ht, ← (Prod.mk.inj (Option.some.inj hF)).2]; exact hP⟩, hS.F ht⟩) hS.2.2 dX7_reading_9
noncomputable def F_X7_back (t0 : ST) (x1 : Int32) : Option (Int32 × ST) :=
  (F_X7_within x1 0 (t0 0 13)).bind fun v6 =>
  if v6 = 0 then
    some ((-2), t0)
  else
  some (((t0 0 13) - x1), (st t0 0 13 ((t0 0 13) - x1)))
abbrev rm_X7_back : Room := { frames := 1, cells := 0, slots := 0, locals := 22 }
set_option maxHeartbeats 4000000 in
set_option maxRecDepth 100000 in
theorem c_X7_back (l : Launch) (D : va_G) (cI cS : ClassId) (a0 : Nat → Nat) (t0 : ST) (x1 : Int32) (r : Int32) (t' : ST) (hF : F_X7_back t0 x1 = some (r, t')) : Met l yX7_back (Cond.code yX7_back cX7_back 2 (some .int) :: ALL) rm_X7_back (PreW D cI cS [.ref (a0 0), .int x1] (pM cI cS a0 t0)) (va_Qi (fun x (_ : Unit) => x = r) (fun _ t => va_P D vwCl (pM cI cS a0 t') t.heap) (AD (pM cI cS a0 t0))) 0 0 (AD (pM cI cS a0 t0)) := by
  refine mW l D cI cS (by decide) (Nat.le_of_ble_eq_true rfl) ?_
  intro p e s m below meth c ls hx hb hr hml hown hts hlocks hP hK hD hS hl
  have hown : s.vm.findClass RX7 = some m.cls := hown
  have hl : lv_has ls 2 [(0, .ref (a0 0)), (1, .int x1)] := hl
  unfold F_X7_back at hF
  refine lv_iload_n hx hb dX7_back_0 rfl (lv_at hl 1 rfl) ?_
  refine lv_iconst (v := 0) hx hb dX7_back_1 (by decide) ?_
  refine lv_aload_n hx hb dX7_back_2 rfl (lv_at hl 0 rfl) ?_
  refine va_get (D := D) (ci := 6) (v := .int (t0 0 13)) (C := RX7) (T := TX7) (N := 29) hx hb hts (fun w h => List.mem_cons_of_mem _ (inAX7 w h)) hown hK.1 hP 0 (at_M_0 cI cS _ _) rfl 22 (by decide) (hts _ (List.mem_cons_of_mem _ fl_RX7_108)) (fun _ h9 => h9) rfl dX7_back_3 ?_
  obtain ⟨v6, h6, hF⟩ := bd hF
  refine cRb (va_runS (As := [.int x1, .int 0, .int (t0 0 13)]) (rest := []) ⟨hx, hb, hml, hown, hts⟩ (c_X7_within l D cI cS x1 0 (t0 0 13) v6 h6) (cwSA hts (TW.cons _) ls_X7_within ml_RX7_61 ⟨rfl, rfl⟩ ⟨(Nat.le_of_ble_eq_true rfl), (Nat.le_of_ble_eq_true rfl)⟩) (pRS hK pnil) rfl rfl hl.1 rfl (lv_room (Nat.le_of_ble_eq_true rfl)) dX7_back_6 ⟨Nat.le_refl _, Nat.le_refl _⟩) (fun b6 => ?_)
  refine lv_if_ne (tgt := 15) hx hb dX7_back_9 (by decide) (fun c9 => ?_) (fun c9 => ?_)
  · replace hF := iq c9 hF
    refine lv_aload_n hx hb dX7_back_15 rfl (lv_at hl 0 rfl) ?_
    refine lv_dup hx hb dX7_back_16 rfl ?_
    refine va_get (D := D) (ci := 6) (v := .int (t0 0 13)) (C := RX7) (T := TX7) (N := 29) hx hb hts (fun w h => List.mem_cons_of_mem _ (inAX7 w h)) hown hK.1 hP 0 (at_M_0 cI cS _ _) rfl 22 (by decide) (hts _ (List.mem_cons_of_mem _ fl_RX7_108)) (fun _ h9 => h9) rfl dX7_back_17 ?_
    refine lv_iload_n hx hb dX7_back_20 rfl (lv_at hl 1 rfl) ?_
    refine lv_isub hx hb dX7_back_21 ?_
    refine wF (ws' := pM cI cS a0 (st t0 0 13 ((t0 0 13) - x1))) (C := RX7) (T := TX7) (N := 29) hx hb hts (fun w h => List.mem_cons_of_mem _ (inAX7 w h)) tyX7 tyX7_ok nmX7 hown hK.1 hP hD hS 0 (at_M_0 cI cS _ _) rfl 22 (by decide) (hts _ (List.mem_cons_of_mem _ fl_RX7_108)) rfl (tyX7_ok 22 (by decide)) rfl rfl (Nat.le_of_ble_eq_true rfl) (sf_M_0_22 cI cS _ _ _) dX7_back_22 (fun H locs hP hD hS => ?_)
    refine lv_aload_n hx hb dX7_back_25 rfl (lv_at hl 0 rfl) ?_
    refine va_get (D := D) (ci := 6) (v := .int ((t0 0 13) - x1)) (C := RX7) (T := TX7) (N := 29) hx hb hts (fun w h => List.mem_cons_of_mem _ (inAX7 w h)) hown hK.1 hP 0 (at_M_0 cI cS _ _) rfl 22 (by decide) (hts _ (List.mem_cons_of_mem _ fl_RX7_108)) (fun _ h9 => h9) rfl dX7_back_26 ?_
    exact W.iret hx hb hr (fun t ht hW => ⟨⟨_, (), rfl, (Prod.mk.inj (Option.some.inj hF)).1, by show va_P _ _ _ t.heap; rw [ht, ← (Prod.mk.inj (Option.some.inj hF)).2]; exact hP⟩, hS.F ht⟩) hS.2.2 dX7_back_29
  · replace hF := ip c9 hF
    refine lv_bipush (v := (-2)) hx hb dX7_back_12 (by decide) ?_
    exact W.iret hx hb hr (fun t ht hW => ⟨⟨_, (), rfl, (Prod.mk.inj (Option.some.inj hF)).1, by show va_P _ _ _ t.heap; rw [ht, ← (Prod.mk.inj (Option.some.inj hF)).2]; exact hP⟩, hS.F ht⟩) hS.2.2 dX7_back_14
noncomputable def F_X7_areSo_L2 (t0 : ST) (k : Int32 → Option Int32) : Nat → Int32 → Option Int32
  | 0, _ => none
  | n + 1, x1 =>
    if (t0 0 13) ≤ x1 then
      k x1
    else
    (rd 8 (t0 10) x1).bind fun v15 =>
    (rd 6 (t0 6) v15).bind fun v23 =>
    (rd 8 (t0 11) x1).bind fun v29 =>
    (F_X7_goesOf t0 v15).bind fun v32 =>
    (F_X7_stepsOn t0 v23 (v29 * v32)).bind fun v36 =>
    (rd 8 (t0 12) x1).bind fun v44 =>
    if v36 = v44 then
      (F_X7_areSo_L2 t0 k n) (x1 + 1)
    else
    some 0
noncomputable def F_X7_areSo_J56 (t0 : ST) : Option Int32 :=
  some 1
noncomputable def F_X7_areSo (t0 : ST) : Option Int32 :=
  F_X7_areSo_L2 t0 (fun x1_k2 => F_X7_areSo_J56 t0) 1000 0
abbrev rm_X7_areSo : Room := { frames := 1, cells := 0, slots := 0, locals := 24 }
set_option maxHeartbeats 4000000 in
set_option maxRecDepth 100000 in
theorem c_X7_areSo (l : Launch) (D : va_G) (cI cS : ClassId) (a0 : Nat → Nat) (t0 : ST) (r : Int32) (hF : F_X7_areSo t0 = some r) : Met l yX7_areSo (Cond.code yX7_areSo cX7_areSo 3 (some .boolean) :: ALL) rm_X7_areSo (PreR D cI cS [.ref (a0 0)] (pM cI cS a0 t0)) (vp_Si (fun x => x = r ∧ (x = 0 ∨ x = 1))) 0 0 (fun _ => False) := by
  refine mR l D cI cS (by decide) (Nat.le_of_ble_eq_true rfl) ?_
  intro p e s m below meth c ls hx hb hr hml hown hts hlocks hP hK hl
  have hown : s.vm.findClass RX7 = some m.cls := hown
  have hl : lv_has ls 3 [(0, .ref (a0 0))] := hl
  unfold F_X7_areSo at hF
  refine lv_iconst (v := 0) hx hb dX7_areSo_0 (by decide) ?_
  refine lv_istore_n (lv' := [(1, .int 0), (0, .ref (a0 0))]) hx hb dX7_areSo_1 rfl hl (by decide) rfl (fun ls hl => ?_)
  have L2 : ∀ (n_2 : Nat) (x1_2 : Int32) (ls : Array Slot), lv_has ls 3 [(0, .ref (a0 0)), (1, .int x1_2)] → F_X7_areSo_L2 t0 (fun x1_k2 => F_X7_areSo_J56 t0) n_2 x1_2 = some r → W p l e rm_X7_areSo s m [.ref (a0 0)].toArray below meth c s.heap [] 0 0 (MQ below (vp_Si (fun x => x = r ∧ (x = 0 ∨ x = 1))) [.ref (a0 0)].toArray s 0 0 (fun _ => False)) (F0 m 2 ls []) := by
    intro n_2
    induction n_2 with
    | zero => intro x1_2 ls hl hF; exact nomatch hF
    | succ n_2 ih2 =>
      intro x1_2 ls hl hF
      rw [F_X7_areSo_L2.eq_2] at hF
      refine lv_iload_n hx hb dX7_areSo_2 rfl (lv_at hl 1 rfl) ?_
      refine lv_aload_n hx hb dX7_areSo_3 rfl (lv_at hl 0 rfl) ?_
      refine va_get (D := D) (ci := 6) (v := .int (t0 0 13)) (C := RX7) (T := TX7) (N := 29) hx hb hts (fun w h => List.mem_cons_of_mem _ (inAX7 w h)) hown hK.1 hP 0 (at_M_0 cI cS _ _) rfl 22 (by decide) (hts _ (List.mem_cons_of_mem _ fl_RX7_108)) (fun _ h9 => h9) rfl dX7_areSo_4 ?_
      refine lv_icmp_ge (tgt := 56) hx hb dX7_areSo_7 (by decide) (fun c7 => ?_) (fun c7 => ?_)
      · replace hF := ip c7 hF
        have hF : F_X7_areSo_J56 t0 = some r := hF
        unfold F_X7_areSo_J56 at hF
        refine lv_iconst (v := 1) hx hb dX7_areSo_56 (by decide) ?_
        exact W.zret hx hb hr rfl (fun t ht hW => ⟨_, rfl, ⟨(Option.some.inj hF), Or.inr rfl⟩, ht⟩) (fun _ h => nomatch h) dX7_areSo_57
      · replace hF := iq c7 hF
        refine lv_aload_n hx hb dX7_areSo_10 rfl (lv_at hl 0 rfl) ?_
        refine va_get (D := D) (ci := 6) (v := .ref (a0 10)) (C := RX7) (T := TX7) (N := 29) hx hb hts (fun w h => List.mem_cons_of_mem _ (inAX7 w h)) hown hK.1 hP 0 (at_M_0 cI cS _ _) rfl 23 (by decide) (hts _ (List.mem_cons_of_mem _ fl_RX7_37)) (fun _ h9 => h9) rfl dX7_areSo_11 ?_
        refine lv_iload_n hx hb dX7_areSo_14 rfl (lv_at hl 1 rfl) ?_
        obtain ⟨v15, h15, hF⟩ := bd hF
        refine rI hx hb hK.1 hP 10 0 (at_M_10 cI cS _ _) rfl h15 dX7_areSo_15 ?_
        refine lv_istore_n (lv' := [(2, .int v15), (0, .ref (a0 0)), (1, .int x1_2)]) hx hb dX7_areSo_16 rfl hl (by decide) rfl (fun ls hl => ?_)
        refine lv_aload_n hx hb dX7_areSo_17 rfl (lv_at hl 1 rfl) ?_
        refine lv_aload_n hx hb dX7_areSo_18 rfl (lv_at hl 1 rfl) ?_
        refine va_get (D := D) (ci := 6) (v := .ref (a0 6)) (C := RX7) (T := TX7) (N := 29) hx hb hts (fun w h => List.mem_cons_of_mem _ (inAX7 w h)) hown hK.1 hP 0 (at_M_0 cI cS _ _) rfl 11 (by decide) (hts _ (List.mem_cons_of_mem _ fl_RX7_25)) (fun _ h9 => h9) rfl dX7_areSo_19 ?_
        refine lv_iload_n hx hb dX7_areSo_22 rfl (lv_at hl 0 rfl) ?_
        obtain ⟨v23, h23, hF⟩ := bd hF
        refine rI hx hb hK.1 hP 6 0 (at_M_6 cI cS _ _) rfl h23 dX7_areSo_23 ?_
        refine lv_aload_n hx hb dX7_areSo_24 rfl (lv_at hl 1 rfl) ?_
        refine va_get (D := D) (ci := 6) (v := .ref (a0 11)) (C := RX7) (T := TX7) (N := 29) hx hb hts (fun w h => List.mem_cons_of_mem _ (inAX7 w h)) hown hK.1 hP 0 (at_M_0 cI cS _ _) rfl 24 (by decide) (hts _ (List.mem_cons_of_mem _ fl_RX7_40)) (fun _ h9 => h9) rfl dX7_areSo_25 ?_
        refine lv_iload_n hx hb dX7_areSo_28 rfl (lv_at hl 2 rfl) ?_
        obtain ⟨v29, h29, hF⟩ := bd hF
        refine rI hx hb hK.1 hP 11 0 (at_M_11 cI cS _ _) rfl h29 dX7_areSo_29 ?_
        refine lv_aload_n hx hb dX7_areSo_30 rfl (lv_at hl 1 rfl) ?_
        refine lv_iload_n hx hb dX7_areSo_31 rfl (lv_at hl 0 rfl) ?_
        obtain ⟨v32, h32, hF⟩ := bd hF
        refine cRe (va_runV (As := [.int v15]) (rest := [.int v29, .int v23, .ref (a0 0)]) ⟨hx, hb, hml, hown, hts⟩ (c_X7_goesOf l D cI cS a0 t0 v15 v32 h32) (cwVA hts (TW.cons _) lv_X7_goesOf ml_RX7_135 ⟨rfl, rfl⟩ ⟨(Nat.le_of_ble_eq_true rfl), (Nat.le_of_ble_eq_true rfl)⟩) (pRV hK hP (ci := 6) rfl rfl) rfl rfl hl.1 rfl (lv_room (Nat.le_of_ble_eq_true rfl)) dX7_areSo_32 ⟨Nat.le_refl _, Nat.le_refl _⟩) ?_
        refine lv_imul hx hb dX7_areSo_35 ?_
        obtain ⟨v36, h36, hF⟩ := bd hF
        refine cRe (va_runV (As := [.int v23, .int (v29 * v32)]) (rest := []) ⟨hx, hb, hml, hown, hts⟩ (c_X7_stepsOn l D cI cS a0 t0 v23 (v29 * v32) v36 h36) (cwVA hts (TW.cons _) lv_X7_stepsOn ml_RX7_147 ⟨rfl, rfl⟩ ⟨(Nat.le_of_ble_eq_true rfl), (Nat.le_of_ble_eq_true rfl)⟩) (pRV hK hP (ci := 6) rfl rfl) rfl rfl hl.1 rfl (lv_room (Nat.le_of_ble_eq_true rfl)) dX7_areSo_36 ⟨Nat.le_refl _, Nat.le_refl _⟩) ?_
        refine lv_aload_n hx hb dX7_areSo_39 rfl (lv_at hl 1 rfl) ?_
        refine va_get (D := D) (ci := 6) (v := .ref (a0 12)) (C := RX7) (T := TX7) (N := 29) hx hb hts (fun w h => List.mem_cons_of_mem _ (inAX7 w h)) hown hK.1 hP 0 (at_M_0 cI cS _ _) rfl 25 (by decide) (hts _ (List.mem_cons_of_mem _ fl_RX7_43)) (fun _ h9 => h9) rfl dX7_areSo_40 ?_
        refine lv_iload_n hx hb dX7_areSo_43 rfl (lv_at hl 2 rfl) ?_
        obtain ⟨v44, h44, hF⟩ := bd hF
        refine rI hx hb hK.1 hP 12 0 (at_M_12 cI cS _ _) rfl h44 dX7_areSo_44 ?_
        refine lv_icmp_eq (tgt := 50) hx hb dX7_areSo_45 (by decide) (fun c45 => ?_) (fun c45 => ?_)
        · replace hF := ip c45 hF
          refine lv_iinc (v := (x1_2 + 1)) (lv' := [(1, .int (x1_2 + 1)), (2, .int v15), (0, .ref (a0 0))]) hx hb dX7_areSo_50 hl (k := 2) rfl rfl (by decide) rfl (fun ls hl => ?_)
          refine lv_goto (tgt := 2) hx hb dX7_areSo_53 (by decide) ?_
          exact ih2 (x1_2 + 1) _ (lv_sub hl [2, 0] rfl) hF
        · replace hF := iq c45 hF
          refine lv_iconst (v := 0) hx hb dX7_areSo_48 (by decide) ?_
          exact W.zret hx hb hr rfl (fun t ht hW => ⟨_, rfl, ⟨(Option.some.inj hF), Or.inl rfl⟩, ht⟩) (fun _ h => nomatch h) dX7_areSo_49
  exact L2 1000 0 _ (lv_sub hl [1, 0] rfl) hF
noncomputable def F_X7_paces_L22 (x1 : Int32) (x2 : Int32) (k : Int32 → Int32 → ST → Option (Int32 × ST)) : Nat → Int32 → Int32 → ST → Option (Int32 × ST)
  | 0, _, _, _ => none
  | n + 1, x3, x4, s0 =>
    if 4 < x4 then
      k x3 x4 s0
    else
    (ix 6 x1).bind fun k35 =>
    (F_X7_areSo (st s0 7 k35 x4)).bind fun v38 =>
    if v38 = 0 then
      (F_X7_paces_L22 x1 x2 k n) (x3 ||| 0) (x4 + 1) (st s0 7 k35 x4)
    else
    (F_X7_paces_L22 x1 x2 k n) (x3 ||| (1 <<< (x4 &&& 31))) (x4 + 1) (st s0 7 k35 x4)
noncomputable def F_X7_paces_J60 (x1 : Int32) (x2 : Int32) (x3 : Int32) (s0 : ST) : Option (Int32 × ST) :=
  (ix 6 x1).bind fun k66 =>
  some (x3, (st s0 7 k66 x2))
noncomputable def F_X7_paces (t0 : ST) (x1 : Int32) : Option (Int32 × ST) :=
  (F_X7_isBlock t0 x1).bind fun v2 =>
  if v2 = 0 then
    some ((-1), t0)
  else
  (rd 6 (t0 7) x1).bind fun v15 =>
  F_X7_paces_L22 x1 v15 (fun x3_k22 x4_k22 s0_k22 => F_X7_paces_J60 x1 v15 x3_k22 s0_k22) 1000 0 1 t0
abbrev rm_X7_paces : Room := { frames := 2, cells := 0, slots := 0, locals := 46 }
set_option maxHeartbeats 4000000 in
set_option maxRecDepth 100000 in
theorem c_X7_paces (l : Launch) (D : va_G) (cI cS : ClassId) (a0 : Nat → Nat) (t0 : ST) (x1 : Int32) (r : Int32) (t' : ST) (hF : F_X7_paces t0 x1 = some (r, t')) : Met l yX7_paces (Cond.code yX7_paces cX7_paces 5 (some .int) :: ALL) rm_X7_paces (PreW D cI cS [.ref (a0 0), .int x1] (pM cI cS a0 t0)) (va_Qi (fun x (_ : Unit) => x = r) (fun _ t => va_P D vwCl (pM cI cS a0 t') t.heap) (AD (pM cI cS a0 t0))) 0 0 (AD (pM cI cS a0 t0)) := by
  refine mW l D cI cS (by decide) (Nat.le_of_ble_eq_true rfl) ?_
  intro p e s m below meth c ls hx hb hr hml hown hts hlocks hP hK hD hS hl
  have hown : s.vm.findClass RX7 = some m.cls := hown
  have hl : lv_has ls 5 [(0, .ref (a0 0)), (1, .int x1)] := hl
  unfold F_X7_paces at hF
  refine lv_aload_n hx hb dX7_paces_0 rfl (lv_at hl 0 rfl) ?_
  refine lv_iload_n hx hb dX7_paces_1 rfl (lv_at hl 1 rfl) ?_
  obtain ⟨v2, h2, hF⟩ := bd hF
  refine cRb (va_runV (As := [.int x1]) (rest := []) ⟨hx, hb, hml, hown, hts⟩ (c_X7_isBlock l D cI cS a0 t0 x1 v2 h2) (cwVA hts (TW.cons _) lv_X7_isBlock ml_RX7_132 ⟨rfl, rfl⟩ ⟨(Nat.le_of_ble_eq_true rfl), (Nat.le_of_ble_eq_true rfl)⟩) (pRV hK hP (ci := 6) rfl rfl) rfl rfl hl.1 rfl (lv_room (Nat.le_of_ble_eq_true rfl)) dX7_paces_2 ⟨Nat.le_refl _, Nat.le_refl _⟩) (fun b2 => ?_)
  refine lv_if_ne (tgt := 10) hx hb dX7_paces_5 (by decide) (fun c5 => ?_) (fun c5 => ?_)
  · replace hF := iq c5 hF
    refine lv_aload_n hx hb dX7_paces_10 rfl (lv_at hl 0 rfl) ?_
    refine va_get (D := D) (ci := 6) (v := .ref (a0 7)) (C := RX7) (T := TX7) (N := 29) hx hb hts (fun w h => List.mem_cons_of_mem _ (inAX7 w h)) hown hK.1 hP 0 (at_M_0 cI cS _ _) rfl 12 (by decide) (hts _ (List.mem_cons_of_mem _ fl_RX7_28)) (fun _ h9 => h9) rfl dX7_paces_11 ?_
    refine lv_iload_n hx hb dX7_paces_14 rfl (lv_at hl 1 rfl) ?_
    obtain ⟨v15, h15, hF⟩ := bd hF
    refine rI hx hb hK.1 hP 7 0 (at_M_7 cI cS _ _) rfl h15 dX7_paces_15 ?_
    refine lv_istore_n (lv' := [(2, .int v15), (0, .ref (a0 0)), (1, .int x1)]) hx hb dX7_paces_16 rfl hl (by decide) rfl (fun ls hl => ?_)
    refine lv_iconst (v := 0) hx hb dX7_paces_17 (by decide) ?_
    refine lv_istore_n (lv' := [(3, .int 0), (2, .int v15), (0, .ref (a0 0)), (1, .int x1)]) hx hb dX7_paces_18 rfl hl (by decide) rfl (fun ls hl => ?_)
    refine lv_iconst (v := 1) hx hb dX7_paces_19 (by decide) ?_
    refine lv_istore (lv' := [(4, .int 1), (3, .int 0), (2, .int v15), (0, .ref (a0 0)), (1, .int x1)]) hx hb dX7_paces_20 hl (by decide) rfl (fun ls hl => ?_)
    have L22 : ∀ (n_22 : Nat) (x3_22 : Int32) (x4_22 : Int32) (s0_22 : ST) (H : Heap) (locs : List Loc) (ls : Array Slot), va_P D vwCl (pM cI cS a0 s0_22) H → va_D (AD (pM cI cS a0 t0)) (pM cI cS a0 s0_22) → va_S (AD (pM cI cS a0 t0)) s.heap H locs → lv_has ls 5 [(0, .ref (a0 0)), (1, .int x1), (2, .int v15), (3, .int x3_22), (4, .int x4_22)] → F_X7_paces_L22 x1 v15 (fun x3_k22 x4_k22 s0_k22 => F_X7_paces_J60 x1 v15 x3_k22 s0_k22) n_22 x3_22 x4_22 s0_22 = some (r, t') → W p l e rm_X7_paces s m [.ref (a0 0), .int x1].toArray below meth c H locs 0 0 (MQ below (va_Qi (fun x (_ : Unit) => x = r) (fun _ t => va_P D vwCl (pM cI cS a0 t') t.heap) (AD (pM cI cS a0 t0))) [.ref (a0 0), .int x1].toArray s 0 0 (AD (pM cI cS a0 t0))) (F0 m 22 ls []) := by
      intro n_22
      induction n_22 with
      | zero => intro x3_22 x4_22 s0_22 H locs ls hP hD hS hl hF; exact nomatch hF
      | succ n_22 ih22 =>
        intro x3_22 x4_22 s0_22 H locs ls hP hD hS hl hF
        rw [F_X7_paces_L22.eq_2] at hF
        refine lv_iload hx hb dX7_paces_22 (lv_at hl 4 rfl) ?_
        refine lv_iconst (v := 4) hx hb dX7_paces_24 (by decide) ?_
        refine lv_icmp_gt (tgt := 60) hx hb dX7_paces_25 (by decide) (fun c25 => ?_) (fun c25 => ?_)
        · replace hF := ip c25 hF
          have hF : F_X7_paces_J60 x1 v15 x3_22 s0_22 = some (r, t') := hF
          unfold F_X7_paces_J60 at hF
          refine lv_aload_n hx hb dX7_paces_60 rfl (lv_at hl 0 rfl) ?_
          refine va_get (D := D) (ci := 6) (v := .ref (a0 7)) (C := RX7) (T := TX7) (N := 29) hx hb hts (fun w h => List.mem_cons_of_mem _ (inAX7 w h)) hown hK.1 hP 0 (at_M_0 cI cS _ _) rfl 12 (by decide) (hts _ (List.mem_cons_of_mem _ fl_RX7_28)) (fun _ h9 => h9) rfl dX7_paces_61 ?_
          refine lv_iload_n hx hb dX7_paces_64 rfl (lv_at hl 1 rfl) ?_
          refine lv_iload_n hx hb dX7_paces_65 rfl (lv_at hl 2 rfl) ?_
          obtain ⟨k66, h66, hF⟩ := bd hF
          refine wI (ws' := pM cI cS a0 (st s0_22 7 k66 v15)) hx hb hK.1 hP hD hS 7 0 (at_M_7 cI cS _ _) rfl h66 (sw_M_7 cI cS _ _ _ _) dX7_paces_66 (fun H locs hP hD hS => ?_)
          refine lv_iload_n hx hb dX7_paces_67 rfl (lv_at hl 3 rfl) ?_
          exact W.iret hx hb hr (fun t ht hW => ⟨⟨_, (), rfl, (Prod.mk.inj (Option.some.inj hF)).1, by show va_P _ _ _ t.heap; rw [ht, ← (Prod.mk.inj (Option.some.inj hF)).2]; exact hP⟩, hS.F ht⟩) hS.2.2 dX7_paces_68
        · replace hF := iq c25 hF
          refine lv_aload_n hx hb dX7_paces_28 rfl (lv_at hl 0 rfl) ?_
          refine va_get (D := D) (ci := 6) (v := .ref (a0 7)) (C := RX7) (T := TX7) (N := 29) hx hb hts (fun w h => List.mem_cons_of_mem _ (inAX7 w h)) hown hK.1 hP 0 (at_M_0 cI cS _ _) rfl 12 (by decide) (hts _ (List.mem_cons_of_mem _ fl_RX7_28)) (fun _ h9 => h9) rfl dX7_paces_29 ?_
          refine lv_iload_n hx hb dX7_paces_32 rfl (lv_at hl 1 rfl) ?_
          refine lv_iload hx hb dX7_paces_33 (lv_at hl 4 rfl) ?_
          obtain ⟨k35, h35, hF⟩ := bd hF
          refine wI (ws' := pM cI cS a0 (st s0_22 7 k35 x4_22)) hx hb hK.1 hP hD hS 7 0 (at_M_7 cI cS _ _) rfl h35 (sw_M_7 cI cS _ _ _ _) dX7_paces_35 (fun H locs hP hD hS => ?_)
          refine lv_iload_n hx hb dX7_paces_36 rfl (lv_at hl 3 rfl) ?_
          refine lv_aload_n hx hb dX7_paces_37 rfl (lv_at hl 0 rfl) ?_
          obtain ⟨v38, h38, hF⟩ := bd hF
          refine cRb (va_runV (As := []) (rest := [.int x3_22]) ⟨hx, hb, hml, hown, hts⟩ (c_X7_areSo l D cI cS a0 (st s0_22 7 k35 x4_22) v38 h38) (cwVA hts (TW.cons _) lv_X7_areSo ml_RX7_191 ⟨rfl, rfl⟩ ⟨(Nat.le_of_ble_eq_true rfl), (Nat.le_of_ble_eq_true rfl)⟩) (pRV hK hP (ci := 6) rfl rfl) rfl rfl hl.1 rfl (lv_room (Nat.le_of_ble_eq_true rfl)) dX7_paces_38 ⟨Nat.le_refl _, Nat.le_refl _⟩) (fun b38 => ?_)
          refine lv_if_eq (tgt := 51) hx hb dX7_paces_41 (by decide) (fun c41 => ?_) (fun c41 => ?_)
          · replace hF := ip c41 hF
            refine lv_iconst (v := 0) hx hb dX7_paces_51 (by decide) ?_
            refine lv_ior hx hb dX7_paces_52 ?_
            refine lv_istore_n (lv' := [(3, .int (x3_22 ||| 0)), (0, .ref (a0 0)), (1, .int x1), (2, .int v15), (4, .int x4_22)]) hx hb dX7_paces_53 rfl hl (by decide) rfl (fun ls hl => ?_)
            refine lv_iinc (v := (x4_22 + 1)) (lv' := [(4, .int (x4_22 + 1)), (3, .int (x3_22 ||| 0)), (0, .ref (a0 0)), (1, .int x1), (2, .int v15)]) hx hb dX7_paces_54 hl (k := 4) rfl rfl (by decide) rfl (fun ls hl => ?_)
            refine lv_goto (tgt := 22) hx hb dX7_paces_57 (by decide) ?_
            exact ih22 (x3_22 ||| 0) (x4_22 + 1) (st s0_22 7 k35 x4_22) _ _ _ hP hD hS (lv_sub hl [2, 3, 4, 1, 0] rfl) hF
          · replace hF := iq c41 hF
            refine lv_iconst (v := 1) hx hb dX7_paces_44 (by decide) ?_
            refine lv_iload hx hb dX7_paces_45 (lv_at hl 4 rfl) ?_
            refine lv_ishl hx hb dX7_paces_47 ?_
            refine lv_goto (tgt := 52) hx hb dX7_paces_48 (by decide) ?_
            refine lv_ior hx hb dX7_paces_52 ?_
            refine lv_istore_n (lv' := [(3, .int (x3_22 ||| (1 <<< (x4_22 &&& 31)))), (0, .ref (a0 0)), (1, .int x1), (2, .int v15), (4, .int x4_22)]) hx hb dX7_paces_53 rfl hl (by decide) rfl (fun ls hl => ?_)
            refine lv_iinc (v := (x4_22 + 1)) (lv' := [(4, .int (x4_22 + 1)), (3, .int (x3_22 ||| (1 <<< (x4_22 &&& 31)))), (0, .ref (a0 0)), (1, .int x1), (2, .int v15)]) hx hb dX7_paces_54 hl (k := 4) rfl rfl (by decide) rfl (fun ls hl => ?_)
            refine lv_goto (tgt := 22) hx hb dX7_paces_57 (by decide) ?_
            exact ih22 (x3_22 ||| (1 <<< (x4_22 &&& 31))) (x4_22 + 1) (st s0_22 7 k35 x4_22) _ _ _ hP hD hS (lv_sub hl [2, 3, 4, 1, 0] rfl) hF
    exact L22 1000 0 1 t0 _ _ _ hP hD hS (lv_sub hl [3, 4, 2, 1, 0] rfl) hF
  · replace hF := ip c5 hF
    refine lv_iconst (v := (-1)) hx hb dX7_paces_8 (by decide) ?_
    exact W.iret hx hb hr (fun t ht hW => ⟨⟨_, (), rfl, (Prod.mk.inj (Option.some.inj hF)).1, by show va_P _ _ _ t.heap; rw [ht, ← (Prod.mk.inj (Option.some.inj hF)).2]; exact hP⟩, hS.F ht⟩) hS.2.2 dX7_paces_9
noncomputable def F_X7_kinds_L22 (x1 : Int32) (x2 : Int32) (k : Int32 → Int32 → ST → Option (Int32 × ST)) : Nat → Int32 → Int32 → ST → Option (Int32 × ST)
  | 0, _, _, _ => none
  | n + 1, x3, x4, s0 =>
    if 3 ≤ x4 then
      k x3 x4 s0
    else
    (ix 6 x1).bind fun k35 =>
    (F_X7_areSo (st s0 5 k35 x4)).bind fun v38 =>
    if v38 = 0 then
      (F_X7_kinds_L22 x1 x2 k n) (x3 ||| 0) (x4 + 1) (st s0 5 k35 x4)
    else
    (F_X7_kinds_L22 x1 x2 k n) (x3 ||| (1 <<< (x4 &&& 31))) (x4 + 1) (st s0 5 k35 x4)
noncomputable def F_X7_kinds_J60 (x1 : Int32) (x2 : Int32) (x3 : Int32) (s0 : ST) : Option (Int32 × ST) :=
  (ix 6 x1).bind fun k66 =>
  some (x3, (st s0 5 k66 x2))
noncomputable def F_X7_kinds (t0 : ST) (x1 : Int32) : Option (Int32 × ST) :=
  (F_X7_isBlock t0 x1).bind fun v2 =>
  if v2 = 0 then
    some ((-1), t0)
  else
  (rd 6 (t0 5) x1).bind fun v15 =>
  F_X7_kinds_L22 x1 v15 (fun x3_k22 x4_k22 s0_k22 => F_X7_kinds_J60 x1 v15 x3_k22 s0_k22) 1000 0 0 t0
abbrev rm_X7_kinds : Room := { frames := 2, cells := 0, slots := 0, locals := 46 }
set_option maxHeartbeats 4000000 in
set_option maxRecDepth 100000 in
theorem c_X7_kinds (l : Launch) (D : va_G) (cI cS : ClassId) (a0 : Nat → Nat) (t0 : ST) (x1 : Int32) (r : Int32) (t' : ST) (hF : F_X7_kinds t0 x1 = some (r, t')) : Met l yX7_kinds (Cond.code yX7_kinds cX7_kinds 5 (some .int) :: ALL) rm_X7_kinds (PreW D cI cS [.ref (a0 0), .int x1] (pM cI cS a0 t0)) (va_Qi (fun x (_ : Unit) => x = r) (fun _ t => va_P D vwCl (pM cI cS a0 t') t.heap) (AD (pM cI cS a0 t0))) 0 0 (AD (pM cI cS a0 t0)) := by
  refine mW l D cI cS (by decide) (Nat.le_of_ble_eq_true rfl) ?_
  intro p e s m below meth c ls hx hb hr hml hown hts hlocks hP hK hD hS hl
  have hown : s.vm.findClass RX7 = some m.cls := hown
  have hl : lv_has ls 5 [(0, .ref (a0 0)), (1, .int x1)] := hl
  unfold F_X7_kinds at hF
  refine lv_aload_n hx hb dX7_kinds_0 rfl (lv_at hl 0 rfl) ?_
  refine lv_iload_n hx hb dX7_kinds_1 rfl (lv_at hl 1 rfl) ?_
  obtain ⟨v2, h2, hF⟩ := bd hF
  refine cRb (va_runV (As := [.int x1]) (rest := []) ⟨hx, hb, hml, hown, hts⟩ (c_X7_isBlock l D cI cS a0 t0 x1 v2 h2) (cwVA hts (TW.cons _) lv_X7_isBlock ml_RX7_132 ⟨rfl, rfl⟩ ⟨(Nat.le_of_ble_eq_true rfl), (Nat.le_of_ble_eq_true rfl)⟩) (pRV hK hP (ci := 6) rfl rfl) rfl rfl hl.1 rfl (lv_room (Nat.le_of_ble_eq_true rfl)) dX7_kinds_2 ⟨Nat.le_refl _, Nat.le_refl _⟩) (fun b2 => ?_)
  refine lv_if_ne (tgt := 10) hx hb dX7_kinds_5 (by decide) (fun c5 => ?_) (fun c5 => ?_)
  · replace hF := iq c5 hF
    refine lv_aload_n hx hb dX7_kinds_10 rfl (lv_at hl 0 rfl) ?_
    refine va_get (D := D) (ci := 6) (v := .ref (a0 5)) (C := RX7) (T := TX7) (N := 29) hx hb hts (fun w h => List.mem_cons_of_mem _ (inAX7 w h)) hown hK.1 hP 0 (at_M_0 cI cS _ _) rfl 10 (by decide) (hts _ (List.mem_cons_of_mem _ fl_RX7_22)) (fun _ h9 => h9) rfl dX7_kinds_11 ?_
    refine lv_iload_n hx hb dX7_kinds_14 rfl (lv_at hl 1 rfl) ?_
    obtain ⟨v15, h15, hF⟩ := bd hF
    refine rI hx hb hK.1 hP 5 0 (at_M_5 cI cS _ _) rfl h15 dX7_kinds_15 ?_
    refine lv_istore_n (lv' := [(2, .int v15), (0, .ref (a0 0)), (1, .int x1)]) hx hb dX7_kinds_16 rfl hl (by decide) rfl (fun ls hl => ?_)
    refine lv_iconst (v := 0) hx hb dX7_kinds_17 (by decide) ?_
    refine lv_istore_n (lv' := [(3, .int 0), (2, .int v15), (0, .ref (a0 0)), (1, .int x1)]) hx hb dX7_kinds_18 rfl hl (by decide) rfl (fun ls hl => ?_)
    refine lv_iconst (v := 0) hx hb dX7_kinds_19 (by decide) ?_
    refine lv_istore (lv' := [(4, .int 0), (3, .int 0), (2, .int v15), (0, .ref (a0 0)), (1, .int x1)]) hx hb dX7_kinds_20 hl (by decide) rfl (fun ls hl => ?_)
    have L22 : ∀ (n_22 : Nat) (x3_22 : Int32) (x4_22 : Int32) (s0_22 : ST) (H : Heap) (locs : List Loc) (ls : Array Slot), va_P D vwCl (pM cI cS a0 s0_22) H → va_D (AD (pM cI cS a0 t0)) (pM cI cS a0 s0_22) → va_S (AD (pM cI cS a0 t0)) s.heap H locs → lv_has ls 5 [(0, .ref (a0 0)), (1, .int x1), (2, .int v15), (3, .int x3_22), (4, .int x4_22)] → F_X7_kinds_L22 x1 v15 (fun x3_k22 x4_k22 s0_k22 => F_X7_kinds_J60 x1 v15 x3_k22 s0_k22) n_22 x3_22 x4_22 s0_22 = some (r, t') → W p l e rm_X7_kinds s m [.ref (a0 0), .int x1].toArray below meth c H locs 0 0 (MQ below (va_Qi (fun x (_ : Unit) => x = r) (fun _ t => va_P D vwCl (pM cI cS a0 t') t.heap) (AD (pM cI cS a0 t0))) [.ref (a0 0), .int x1].toArray s 0 0 (AD (pM cI cS a0 t0))) (F0 m 22 ls []) := by
      intro n_22
      induction n_22 with
      | zero => intro x3_22 x4_22 s0_22 H locs ls hP hD hS hl hF; exact nomatch hF
      | succ n_22 ih22 =>
        intro x3_22 x4_22 s0_22 H locs ls hP hD hS hl hF
        rw [F_X7_kinds_L22.eq_2] at hF
        refine lv_iload hx hb dX7_kinds_22 (lv_at hl 4 rfl) ?_
        refine lv_iconst (v := 3) hx hb dX7_kinds_24 (by decide) ?_
        refine lv_icmp_ge (tgt := 60) hx hb dX7_kinds_25 (by decide) (fun c25 => ?_) (fun c25 => ?_)
        · replace hF := ip c25 hF
          have hF : F_X7_kinds_J60 x1 v15 x3_22 s0_22 = some (r, t') := hF
          unfold F_X7_kinds_J60 at hF
          refine lv_aload_n hx hb dX7_kinds_60 rfl (lv_at hl 0 rfl) ?_
          refine va_get (D := D) (ci := 6) (v := .ref (a0 5)) (C := RX7) (T := TX7) (N := 29) hx hb hts (fun w h => List.mem_cons_of_mem _ (inAX7 w h)) hown hK.1 hP 0 (at_M_0 cI cS _ _) rfl 10 (by decide) (hts _ (List.mem_cons_of_mem _ fl_RX7_22)) (fun _ h9 => h9) rfl dX7_kinds_61 ?_
          refine lv_iload_n hx hb dX7_kinds_64 rfl (lv_at hl 1 rfl) ?_
          refine lv_iload_n hx hb dX7_kinds_65 rfl (lv_at hl 2 rfl) ?_
          obtain ⟨k66, h66, hF⟩ := bd hF
          refine wI (ws' := pM cI cS a0 (st s0_22 5 k66 v15)) hx hb hK.1 hP hD hS 5 0 (at_M_5 cI cS _ _) rfl h66 (sw_M_5 cI cS _ _ _ _) dX7_kinds_66 (fun H locs hP hD hS => ?_)
          refine lv_iload_n hx hb dX7_kinds_67 rfl (lv_at hl 3 rfl) ?_
          exact W.iret hx hb hr (fun t ht hW => ⟨⟨_, (), rfl, (Prod.mk.inj (Option.some.inj hF)).1, by show va_P _ _ _ t.heap; rw [ht, ← (Prod.mk.inj (Option.some.inj hF)).2]; exact hP⟩, hS.F ht⟩) hS.2.2 dX7_kinds_68
        · replace hF := iq c25 hF
          refine lv_aload_n hx hb dX7_kinds_28 rfl (lv_at hl 0 rfl) ?_
          refine va_get (D := D) (ci := 6) (v := .ref (a0 5)) (C := RX7) (T := TX7) (N := 29) hx hb hts (fun w h => List.mem_cons_of_mem _ (inAX7 w h)) hown hK.1 hP 0 (at_M_0 cI cS _ _) rfl 10 (by decide) (hts _ (List.mem_cons_of_mem _ fl_RX7_22)) (fun _ h9 => h9) rfl dX7_kinds_29 ?_
          refine lv_iload_n hx hb dX7_kinds_32 rfl (lv_at hl 1 rfl) ?_
          refine lv_iload hx hb dX7_kinds_33 (lv_at hl 4 rfl) ?_
          obtain ⟨k35, h35, hF⟩ := bd hF
          refine wI (ws' := pM cI cS a0 (st s0_22 5 k35 x4_22)) hx hb hK.1 hP hD hS 5 0 (at_M_5 cI cS _ _) rfl h35 (sw_M_5 cI cS _ _ _ _) dX7_kinds_35 (fun H locs hP hD hS => ?_)
          refine lv_iload_n hx hb dX7_kinds_36 rfl (lv_at hl 3 rfl) ?_
          refine lv_aload_n hx hb dX7_kinds_37 rfl (lv_at hl 0 rfl) ?_
          obtain ⟨v38, h38, hF⟩ := bd hF
          refine cRb (va_runV (As := []) (rest := [.int x3_22]) ⟨hx, hb, hml, hown, hts⟩ (c_X7_areSo l D cI cS a0 (st s0_22 5 k35 x4_22) v38 h38) (cwVA hts (TW.cons _) lv_X7_areSo ml_RX7_191 ⟨rfl, rfl⟩ ⟨(Nat.le_of_ble_eq_true rfl), (Nat.le_of_ble_eq_true rfl)⟩) (pRV hK hP (ci := 6) rfl rfl) rfl rfl hl.1 rfl (lv_room (Nat.le_of_ble_eq_true rfl)) dX7_kinds_38 ⟨Nat.le_refl _, Nat.le_refl _⟩) (fun b38 => ?_)
          refine lv_if_eq (tgt := 51) hx hb dX7_kinds_41 (by decide) (fun c41 => ?_) (fun c41 => ?_)
          · replace hF := ip c41 hF
            refine lv_iconst (v := 0) hx hb dX7_kinds_51 (by decide) ?_
            refine lv_ior hx hb dX7_kinds_52 ?_
            refine lv_istore_n (lv' := [(3, .int (x3_22 ||| 0)), (0, .ref (a0 0)), (1, .int x1), (2, .int v15), (4, .int x4_22)]) hx hb dX7_kinds_53 rfl hl (by decide) rfl (fun ls hl => ?_)
            refine lv_iinc (v := (x4_22 + 1)) (lv' := [(4, .int (x4_22 + 1)), (3, .int (x3_22 ||| 0)), (0, .ref (a0 0)), (1, .int x1), (2, .int v15)]) hx hb dX7_kinds_54 hl (k := 4) rfl rfl (by decide) rfl (fun ls hl => ?_)
            refine lv_goto (tgt := 22) hx hb dX7_kinds_57 (by decide) ?_
            exact ih22 (x3_22 ||| 0) (x4_22 + 1) (st s0_22 5 k35 x4_22) _ _ _ hP hD hS (lv_sub hl [2, 3, 4, 1, 0] rfl) hF
          · replace hF := iq c41 hF
            refine lv_iconst (v := 1) hx hb dX7_kinds_44 (by decide) ?_
            refine lv_iload hx hb dX7_kinds_45 (lv_at hl 4 rfl) ?_
            refine lv_ishl hx hb dX7_kinds_47 ?_
            refine lv_goto (tgt := 52) hx hb dX7_kinds_48 (by decide) ?_
            refine lv_ior hx hb dX7_kinds_52 ?_
            refine lv_istore_n (lv' := [(3, .int (x3_22 ||| (1 <<< (x4_22 &&& 31)))), (0, .ref (a0 0)), (1, .int x1), (2, .int v15), (4, .int x4_22)]) hx hb dX7_kinds_53 rfl hl (by decide) rfl (fun ls hl => ?_)
            refine lv_iinc (v := (x4_22 + 1)) (lv' := [(4, .int (x4_22 + 1)), (3, .int (x3_22 ||| (1 <<< (x4_22 &&& 31)))), (0, .ref (a0 0)), (1, .int x1), (2, .int v15)]) hx hb dX7_kinds_54 hl (k := 4) rfl rfl (by decide) rfl (fun ls hl => ?_)
            refine lv_goto (tgt := 22) hx hb dX7_kinds_57 (by decide) ?_
            exact ih22 (x3_22 ||| (1 <<< (x4_22 &&& 31))) (x4_22 + 1) (st s0_22 5 k35 x4_22) _ _ _ hP hD hS (lv_sub hl [2, 3, 4, 1, 0] rfl) hF
    exact L22 1000 0 0 t0 _ _ _ hP hD hS (lv_sub hl [3, 4, 2, 1, 0] rfl) hF
  · replace hF := ip c5 hF
    refine lv_iconst (v := (-1)) hx hb dX7_kinds_8 (by decide) ?_
    exact W.iret hx hb hr (fun t ht hW => ⟨⟨_, (), rfl, (Prod.mk.inj (Option.some.inj hF)).1, by show va_P _ _ _ t.heap; rw [ht, ← (Prod.mk.inj (Option.some.inj hF)).2]; exact hP⟩, hS.F ht⟩) hS.2.2 dX7_kinds_9
noncomputable def F_X7_square_L2 (k : Int32 → ST → Option ST) : Nat → Int32 → ST → Option ST
  | 0, _, _ => none
  | n + 1, x1, s0 =>
    if 64 ≤ x1 then
      k x1 s0
    else
    (rd 64 (s0 13) x1).bind fun v22 =>
    (rd 64 (s0 13) v22).bind fun v23 =>
    (ix 64 x1).bind fun k24 =>
    (F_X7_square_L2  k n) (x1 + 1) (st s0 15 k24 v23)
noncomputable def F_X7_square_L33 (k : Int32 → ST → Option ST) : Nat → Int32 → ST → Option ST
  | 0, _, _ => none
  | n + 1, x1, s0 =>
    if 64 ≤ x1 then
      k x1 s0
    else
    (rd 64 (s0 15) x1).bind fun v49 =>
    (ix 64 x1).bind fun k50 =>
    (F_X7_square_L33  k n) (x1 + 1) (st s0 13 k50 v49)
noncomputable def F_X7_square_J57 (s0 : ST) : Option ST :=
  some s0
noncomputable def F_X7_square_J31 (s0 : ST) : Option ST :=
  F_X7_square_L33  (fun x1_k33 s0_k33 => F_X7_square_J57 s0_k33) 1000 0 s0
noncomputable def F_X7_square (t0 : ST) : Option ST :=
  F_X7_square_L2  (fun x1_k2 s0_k2 => F_X7_square_J31 s0_k2) 1000 0 t0
abbrev rm_X7_square : Room := { frames := 0, cells := 0, slots := 0, locals := 0 }
set_option maxHeartbeats 4000000 in
set_option maxRecDepth 100000 in
theorem c_X7_square (l : Launch) (D : va_G) (cI cS : ClassId) (a0 : Nat → Nat) (t0 : ST) (t' : ST) (hF : F_X7_square t0 = some t') : Met l yX7_square (Cond.code yX7_square cX7_square 2 none :: ALL) rm_X7_square (PreW D cI cS [.ref (a0 0)] (pM cI cS a0 t0)) (va_Qv (fun (_ : Unit) => True) (fun _ t => va_P D vwCl (pM cI cS a0 t') t.heap) (AD (pM cI cS a0 t0))) 0 0 (AD (pM cI cS a0 t0)) := by
  refine mW l D cI cS (by decide) (Nat.le_of_ble_eq_true rfl) ?_
  intro p e s m below meth c ls hx hb hr hml hown hts hlocks hP hK hD hS hl
  have hown : s.vm.findClass RX7 = some m.cls := hown
  have hl : lv_has ls 2 [(0, .ref (a0 0))] := hl
  unfold F_X7_square at hF
  refine lv_iconst (v := 0) hx hb dX7_square_0 (by decide) ?_
  refine lv_istore_n (lv' := [(1, .int 0), (0, .ref (a0 0))]) hx hb dX7_square_1 rfl hl (by decide) rfl (fun ls hl => ?_)
  have L2 : ∀ (n_2 : Nat) (x1_2 : Int32) (s0_2 : ST) (H : Heap) (locs : List Loc) (ls : Array Slot), va_P D vwCl (pM cI cS a0 s0_2) H → va_D (AD (pM cI cS a0 t0)) (pM cI cS a0 s0_2) → va_S (AD (pM cI cS a0 t0)) s.heap H locs → lv_has ls 2 [(0, .ref (a0 0)), (1, .int x1_2)] → F_X7_square_L2  (fun x1_k2 s0_k2 => F_X7_square_J31 s0_k2) n_2 x1_2 s0_2 = some t' → W p l e rm_X7_square s m [.ref (a0 0)].toArray below meth c H locs 0 0 (MQ below (va_Qv (fun (_ : Unit) => True) (fun _ t => va_P D vwCl (pM cI cS a0 t') t.heap) (AD (pM cI cS a0 t0))) [.ref (a0 0)].toArray s 0 0 (AD (pM cI cS a0 t0))) (F0 m 2 ls []) := by
    intro n_2
    induction n_2 with
    | zero => intro x1_2 s0_2 H locs ls hP hD hS hl hF; exact nomatch hF
    | succ n_2 ih2 =>
      intro x1_2 s0_2 H locs ls hP hD hS hl hF
      rw [F_X7_square_L2.eq_2] at hF
      refine lv_iload_n hx hb dX7_square_2 rfl (lv_at hl 1 rfl) ?_
      refine lv_bipush (v := 64) hx hb dX7_square_3 (by decide) ?_
      refine lv_icmp_ge (tgt := 31) hx hb dX7_square_5 (by decide) (fun c5 => ?_) (fun c5 => ?_)
      · replace hF := ip c5 hF
        have hF : F_X7_square_J31 s0_2 = some t' := hF
        unfold F_X7_square_J31 at hF
        refine lv_iconst (v := 0) hx hb dX7_square_31 (by decide) ?_
        refine lv_istore_n (lv' := [(1, .int 0), (0, .ref (a0 0))]) hx hb dX7_square_32 rfl hl (by decide) rfl (fun ls hl => ?_)
        have L33 : ∀ (n_33 : Nat) (x1_33 : Int32) (s0_33 : ST) (H : Heap) (locs : List Loc) (ls : Array Slot), va_P D vwCl (pM cI cS a0 s0_33) H → va_D (AD (pM cI cS a0 t0)) (pM cI cS a0 s0_33) → va_S (AD (pM cI cS a0 t0)) s.heap H locs → lv_has ls 2 [(0, .ref (a0 0)), (1, .int x1_33)] → F_X7_square_L33  (fun x1_k33 s0_k33 => F_X7_square_J57 s0_k33) n_33 x1_33 s0_33 = some t' → W p l e rm_X7_square s m [.ref (a0 0)].toArray below meth c H locs 0 0 (MQ below (va_Qv (fun (_ : Unit) => True) (fun _ t => va_P D vwCl (pM cI cS a0 t') t.heap) (AD (pM cI cS a0 t0))) [.ref (a0 0)].toArray s 0 0 (AD (pM cI cS a0 t0))) (F0 m 33 ls []) := by
          intro n_33
          induction n_33 with
          | zero => intro x1_33 s0_33 H locs ls hP hD hS hl hF; exact nomatch hF
          | succ n_33 ih33 =>
            intro x1_33 s0_33 H locs ls hP hD hS hl hF
            rw [F_X7_square_L33.eq_2] at hF
            refine lv_iload_n hx hb dX7_square_33 rfl (lv_at hl 1 rfl) ?_
            refine lv_bipush (v := 64) hx hb dX7_square_34 (by decide) ?_
            refine lv_icmp_ge (tgt := 57) hx hb dX7_square_36 (by decide) (fun c36 => ?_) (fun c36 => ?_)
            · replace hF := ip c36 hF
              have hF : F_X7_square_J57 s0_33 = some t' := hF
              unfold F_X7_square_J57 at hF
              exact W.vret hx hb hr (fun t ht hW => ⟨⟨(), rfl, trivial, by show va_P _ _ _ t.heap; rw [ht, ← (Option.some.inj hF)]; exact hP⟩, hS.F ht⟩) hS.2.2 dX7_square_57
            · replace hF := iq c36 hF
              refine lv_aload_n hx hb dX7_square_39 rfl (lv_at hl 0 rfl) ?_
              refine va_get (D := D) (ci := 6) (v := .ref (a0 13)) (C := RX7) (T := TX7) (N := 29) hx hb hts (fun w h => List.mem_cons_of_mem _ (inAX7 w h)) hown hK.1 hP 0 (at_M_0 cI cS _ _) rfl 26 (by decide) (hts _ (List.mem_cons_of_mem _ fl_RX7_46)) (fun _ h9 => h9) rfl dX7_square_40 ?_
              refine lv_iload_n hx hb dX7_square_43 rfl (lv_at hl 1 rfl) ?_
              refine lv_aload_n hx hb dX7_square_44 rfl (lv_at hl 0 rfl) ?_
              refine va_get (D := D) (ci := 6) (v := .ref (a0 15)) (C := RX7) (T := TX7) (N := 29) hx hb hts (fun w h => List.mem_cons_of_mem _ (inAX7 w h)) hown hK.1 hP 0 (at_M_0 cI cS _ _) rfl 28 (by decide) (hts _ (List.mem_cons_of_mem _ fl_RX7_52)) (fun _ h9 => h9) rfl dX7_square_45 ?_
              refine lv_iload_n hx hb dX7_square_48 rfl (lv_at hl 1 rfl) ?_
              obtain ⟨v49, h49, hF⟩ := bd hF
              refine rI hx hb hK.1 hP 15 0 (at_M_15 cI cS _ _) rfl h49 dX7_square_49 ?_
              obtain ⟨k50, h50, hF⟩ := bd hF
              refine wI (ws' := pM cI cS a0 (st s0_33 13 k50 v49)) hx hb hK.1 hP hD hS 13 0 (at_M_13 cI cS _ _) rfl h50 (sw_M_13 cI cS _ _ _ _) dX7_square_50 (fun H locs hP hD hS => ?_)
              refine lv_iinc (v := (x1_33 + 1)) (lv' := [(1, .int (x1_33 + 1)), (0, .ref (a0 0))]) hx hb dX7_square_51 hl (k := 1) rfl rfl (by decide) rfl (fun ls hl => ?_)
              refine lv_goto (tgt := 33) hx hb dX7_square_54 (by decide) ?_
              exact ih33 (x1_33 + 1) (st s0_33 13 k50 v49) _ _ _ hP hD hS (lv_sub hl [1, 0] rfl) hF
        exact L33 1000 0 s0_2 _ _ _ hP hD hS (lv_sub hl [1, 0] rfl) hF
      · replace hF := iq c5 hF
        refine lv_aload_n hx hb dX7_square_8 rfl (lv_at hl 0 rfl) ?_
        refine va_get (D := D) (ci := 6) (v := .ref (a0 15)) (C := RX7) (T := TX7) (N := 29) hx hb hts (fun w h => List.mem_cons_of_mem _ (inAX7 w h)) hown hK.1 hP 0 (at_M_0 cI cS _ _) rfl 28 (by decide) (hts _ (List.mem_cons_of_mem _ fl_RX7_52)) (fun _ h9 => h9) rfl dX7_square_9 ?_
        refine lv_iload_n hx hb dX7_square_12 rfl (lv_at hl 1 rfl) ?_
        refine lv_aload_n hx hb dX7_square_13 rfl (lv_at hl 0 rfl) ?_
        refine va_get (D := D) (ci := 6) (v := .ref (a0 13)) (C := RX7) (T := TX7) (N := 29) hx hb hts (fun w h => List.mem_cons_of_mem _ (inAX7 w h)) hown hK.1 hP 0 (at_M_0 cI cS _ _) rfl 26 (by decide) (hts _ (List.mem_cons_of_mem _ fl_RX7_46)) (fun _ h9 => h9) rfl dX7_square_14 ?_
        refine lv_aload_n hx hb dX7_square_17 rfl (lv_at hl 0 rfl) ?_
        refine va_get (D := D) (ci := 6) (v := .ref (a0 13)) (C := RX7) (T := TX7) (N := 29) hx hb hts (fun w h => List.mem_cons_of_mem _ (inAX7 w h)) hown hK.1 hP 0 (at_M_0 cI cS _ _) rfl 26 (by decide) (hts _ (List.mem_cons_of_mem _ fl_RX7_46)) (fun _ h9 => h9) rfl dX7_square_18 ?_
        refine lv_iload_n hx hb dX7_square_21 rfl (lv_at hl 1 rfl) ?_
        obtain ⟨v22, h22, hF⟩ := bd hF
        refine rI hx hb hK.1 hP 13 0 (at_M_13 cI cS _ _) rfl h22 dX7_square_22 ?_
        obtain ⟨v23, h23, hF⟩ := bd hF
        refine rI hx hb hK.1 hP 13 0 (at_M_13 cI cS _ _) rfl h23 dX7_square_23 ?_
        obtain ⟨k24, h24, hF⟩ := bd hF
        refine wI (ws' := pM cI cS a0 (st s0_2 15 k24 v23)) hx hb hK.1 hP hD hS 15 0 (at_M_15 cI cS _ _) rfl h24 (sw_M_15 cI cS _ _ _ _) dX7_square_24 (fun H locs hP hD hS => ?_)
        refine lv_iinc (v := (x1_2 + 1)) (lv' := [(1, .int (x1_2 + 1)), (0, .ref (a0 0))]) hx hb dX7_square_25 hl (k := 1) rfl rfl (by decide) rfl (fun ls hl => ?_)
        refine lv_goto (tgt := 2) hx hb dX7_square_28 (by decide) ?_
        exact ih2 (x1_2 + 1) (st s0_2 15 k24 v23) _ _ _ hP hD hS (lv_sub hl [1, 0] rfl) hF
  exact L2 1000 0 t0 _ _ _ hP hD hS (lv_sub hl [1, 0] rfl) hF
